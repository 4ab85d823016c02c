set_option maxHeartbeats 4000000 in
set_option maxRecDepth 100000 in
theorem ct_TS_give {l : Launch} {D : va_G} {BG : Nat → Option Cell} (M : hm_M) (tm : Nat) (F : Nat → Prop) (T : Nat → Nat → Nat → Prop) (G : Nat → Prop) (dr n c se : Nat) (hS : ts_S D M tm F T G dr n c se) (r0 : Option Nat) (v : Nat) (hr : ts_o T r0 v) (h3 : ∀ a i x y, r0 = some a → T a i v → v = sm_t 3 x y → se ≤ i) : hm_ct l D BG ny_TS_give prog_5_method_8_code 2 (some .int) 1 20 0 0 [.ref tm, va_rf r0] M (fun r M' => r = some (.int (if v = 0 then 0 else 1)) ∧ ∃ se', ts_S D M' tm F T (fun w => G w ∨ (v ≠ 0 ∧ w = v)) dr n c se' ∧ se' ≤ se ∧ (∀ a, ¬ F a → M' a = M a)) := by
  refine hm_ct_of (by decide +kernel) (by simp [lg_sl, hm_cat, hm_catI, hm_catR, hm_catN]) ?_
  intro X C E
  have C : hm_C X l D BG prog_5_method_8_code "TurnedKeys$Terms" "give" 2 1 20 0 0 := C
  obtain ⟨la, ea, ad, kd, lf, rt, er, lu, pb, dv, vl, hX, hI, rfl, rfl⟩ := hS
  obtain ⟨p, rfl, hpn, rfl⟩ := ts_pl hr
  obtain ⟨ht, hR, hcell, hc6⟩ := id hX
  have hnc : n ≤ c := by obtain ⟨m, -, h, -⟩ := hR; exact h
  refine hm_lv (lv' := [(0, .ref tm), (1, va_rf (p.map ad))]) (by simp [lv_args, hm_cat, hm_catI, hm_catR, hm_catN]) ?_
  rcases p with _ | i
  · refine hm_lv (lv' := [(0, .ref tm), (1, .null)]) rfl ?_
    refine hm_aload_nN C nd_TS_give_0 rfl ?_
    refine hm_ifnonnull (tgt := 6) (r := none) C nd_TS_give_1 (by decide) (fun h => absurd rfl h) (fun _ => ?_)
    refine hm_iconst (v := 0) C nd_TS_give_4 (by decide) ?_
    have eG : (fun w => G w ∨ (tt_vo vl none ≠ 0 ∧ w = tt_vo vl none)) = G := by
      funext w
      apply propext
      exact ⟨fun h => h.elim id (fun h => absurd rfl h.1), Or.inl⟩
    exact hm_iret C E (by omega) (by omega) (⟨rfl, se, by rw [eG]; exact ⟨la, ea, ad, kd, lf, rt, er, lu, pb, dv, vl, hX, hI, rfl, rfl⟩, Nat.le_refl _, fun _ _ => rfl⟩) nd_TS_give_5
  · refine hm_lv (lv' := [(0, .ref tm), (1, .ref (ad i))]) rfl ?_
    have hi := hpn i rfl
    have hci := hcell i hi
    unfold tt_c at hci
    have hv0 : tt_vo vl (some i) ≠ 0 := tt_pos hI.2.2.2.1 hi
    have g1 : ∀ w, G w → (fun w => G w ∨ (tt_vo vl (some i) ≠ 0 ∧ w = tt_vo vl (some i))) w := fun w h => Or.inl h
    have g2 : ∀ w, (fun w => G w ∨ (tt_vo vl (some i) ≠ 0 ∧ w = tt_vo vl (some i))) w → G w ∨ w = vl i := fun w h => h.elim Or.inl (fun h => Or.inr h.2)
    refine hm_aload_n C nd_TS_give_0 rfl ?_
    refine hm_ifnonnull (tgt := 6) (r := (some (ad i))) C nd_TS_give_1 (by decide) (fun _ => ?_) (fun h => by cases h)
    refine hm_aload_n C nd_TS_give_6 rfl ?_
    refine hm_get C nF_TS_73 hci rfl nd_TS_give_7 ?_
    refine hm_if_ne (tgt := 35) C nd_TS_give_10 (by decide) (fun cc => ?_) (fun cc => ?_)
    · have hdv : dv i = true := by rcases h : dv i with _ | _; exact absurd (by rw [h]; rfl) cc; rfl
      refine hm_iconst (v := 1) C nd_TS_give_35 (by decide) ?_
      exact hm_iret C E (by omega) (by omega) (⟨by rw [if_neg hv0], se, ⟨la, ea, ad, kd, lf, rt, er, lu, pb, dv, vl, hX, tt_giv0 hI hi hdv g1 g2, rfl, rfl⟩, Nat.le_refl _, fun _ _ => rfl⟩) nd_TS_give_36
    · have hdv : ¬ dv i = true := fun h => by rw [if_pos h] at cc; exact absurd cc (by decide)
      have hgv := tt_give hI hi (fun h => h3 (ad i) i (tt_vo vl (lf i)) (tt_vo vl (rt i)) rfl ⟨hi, rfl, rfl⟩ (by rw [show tt_vo vl (some i) = vl i from rfl, hI.2.2.2.1.1 i hi (by omega), h])) g1 g2 (sm_dr_in (Or.inr ⟨hv0, rfl⟩))
      refine hm_aload_n C nd_TS_give_13 rfl ?_
      refine hm_iconst (v := 1) C nd_TS_give_14 (by decide) ?_
      refine hm_put C nF_TS_73 hci (Nat.le_of_ble_eq_true rfl) rfl rfl nd_TS_give_15 ?_
      refine hm_eqM (M' := hm_up M (ad i) (hm_ob 2 [.int (nI (kd i)), .int (nI i), va_rf ((lf i).map ad), va_rf ((rt i).map ad), va_rf ((er i).map ad), va_rf ((lu i).map ad), va_rf ((pb i).map ad), .int 1])) rfl ?_
      generalize hM1 : hm_up M (ad i) (hm_ob 2 [.int (nI (kd i)), .int (nI i), va_rf ((lf i).map ad), va_rf ((rt i).map ad), va_rf ((er i).map ad), va_rf ((lu i).map ad), va_rf ((pb i).map ad), .int 1]) = M1
      have fM1_0 : M1 tm = some (hm_ob 1 [.ref la, .int (nI dr), .int (nI se)]) := by rw [← hM1, hm_up_n _ _ (hm_ne ht hci (by decide))]; exact ht
      have fM1_1 : M1 (ad i) = some (hm_ob 2 [.int (nI (kd i)), .int (nI i), va_rf ((lf i).map ad), va_rf ((rt i).map ad), va_rf ((er i).map ad), va_rf ((lu i).map ad), va_rf ((pb i).map ad), .int 1]) := by rw [← hM1]; exact hm_up_s _ _ _
      refine hm_aload_n C nd_TS_give_18 rfl ?_
      refine hm_aload_n C nd_TS_give_19 rfl ?_
      refine hm_get C nF_TS_77 fM1_0 rfl nd_TS_give_20 ?_
      refine hm_aload_n C nd_TS_give_23 rfl ?_
      refine hm_get C nF_TS_39 fM1_1 rfl nd_TS_give_24 ?_
      refine hm_iconst (v := 1) C nd_TS_give_27 (by decide) ?_
      refine hm_iadd C nd_TS_give_28 ?_
      rw [nI_1]
      refine hm_mmin (rest := [.ref tm]) C nq_TS_80 (by decide) (Nat.le_of_ble_eq_true rfl) (by omega) (by omega) nd_TS_give_29 ?_
      have hmin : (if nI (i + 1) < nI se then nI (i + 1) else nI se) = nI (min se (i + 1)) := by
        have hsn := hI.2.2.2.2.1
        by_cases h : i + 1 < se
        · rw [if_pos (nI_lt h (by omega)), Nat.min_eq_right (by omega)]
        · rw [if_neg (nI_nlt (by omega) (by omega)), Nat.min_eq_left (by omega)]
      rw [hmin]
      refine hm_put C nF_TS_77 fM1_0 (Nat.le_of_ble_eq_true rfl) rfl rfl nd_TS_give_32 ?_
      refine hm_eqM (M' := hm_up M1 tm (hm_ob 1 [.ref la, .int (nI dr), .int (nI (min se (i + 1)))])) rfl ?_
      generalize hM2 : hm_up M1 tm (hm_ob 1 [.ref la, .int (nI dr), .int (nI (min se (i + 1)))]) = M2
      have fM2_0 : M2 (ad i) = some (hm_ob 2 [.int (nI (kd i)), .int (nI i), va_rf ((lf i).map ad), va_rf ((rt i).map ad), va_rf ((er i).map ad), va_rf ((lu i).map ad), va_rf ((pb i).map ad), .int 1]) := by rw [← hM2, hm_up_n _ _ (hm_ne fM1_1 fM1_0 (by decide))]; exact fM1_1
      have fM2_1 : M2 tm = some (hm_ob 1 [.ref la, .int (nI dr), .int (nI (min se (i + 1)))]) := by rw [← hM2]; exact hm_up_s _ _ _
      refine hm_iconst (v := 1) C nd_TS_give_35 (by decide) ?_
      have hX2 : ts_X D M2 tm la ea c n dr (min se (i + 1)) ad kd lf rt er lu pb (va_up dv i true) := by
        refine ⟨fM2_1, ?_, fun j hj => ?_, hc6⟩
        · rw [← hM2, ← hM1]
          have n1 := ts_ne hX hi
          exact (hR.put n1.2.1 n1.2.2).put (by obtain ⟨m, h9, -⟩ := id hR; exact hm_ne ht h9 (by decide)) (fun h0 => by
            obtain ⟨m, h9, -, h8⟩ := id hR
            rcases h8 with ⟨h7, -⟩ | ⟨-, g, hg, -⟩
            · exact absurd h7 h0
            · exact hm_neA ht hg)
        · rw [← hM2, hm_up_n _ _ (ts_ne hX hj).1]
          by_cases e : j = i
          · subst e
            rw [← hM1, hm_up_s]
            unfold tt_c
            rw [va_up_self]
            rfl
          · rw [← hM1, hm_up_n _ _ (fun z => e (ts_inj hX hj hi z)), hcell j hj]
            unfold tt_c
            rw [va_up_ne _ _ e]
      exact hm_iret C E (by omega) (by omega) (⟨by rw [if_neg hv0], _, ⟨la, ea, ad, kd, lf, rt, er, lu, pb, _, vl, hX2, hgv, rfl, rfl⟩, Nat.min_le_left _ _, fun z hz => by rw [← hM2, hm_up_n _ _ (fun e => hz (Or.inl e)), ← hM1, hm_up_n _ _ (fun e => hz (Or.inr (Or.inr (Or.inr ⟨i, hi, e⟩))))]⟩) nd_TS_give_36
