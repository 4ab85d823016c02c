set_option maxHeartbeats 4000000 in
set_option maxRecDepth 100000 in
theorem ct_TS_giveD {l : Launch} {D : va_G} {BG : Nat → Option Cell} (M : hm_M) (tm la ea c n dr s0 : Nat) (ad kd : Nat → Nat) (lf rt er lu pb : Nat → Option Nat) (dv : Nat → Bool) (hX : ts_X D M tm la ea c n dr s0 ad kd lf rt er lu pb dv) (hs0 : s0 ≤ 65536) (i : Nat) (hi : i < n) : hm_ct l D BG ny_TS_give prog_5_method_8_code 2 (some .int) 1 20 0 0 [.ref tm, .ref (ad i)] M (fun r M' => r = some (.int 1) ∧ ∃ dv' s1, ts_X D M' tm la ea c n dr s1 ad kd lf rt er lu pb dv' ∧ ((dv i = true ∧ dv' = dv ∧ s1 = s0) ∨ (¬ dv i = true ∧ dv' = va_up dv i true ∧ s1 = min s0 (i + 1))) ∧ (∀ a, ¬ ts_F tm la ea c n ad a → M' a = M a)) := by
  refine hm_ct_of (by decide +kernel) (by exact Nat.le_of_ble_eq_true rfl) ?_
  intro X C E
  have C : hm_C X l D BG prog_5_method_8_code "TurnedKeys$Terms" "give" 2 1 20 0 0 := C
  obtain ⟨ht, hR, hcell, hc6⟩ := id hX
  have hnc : n ≤ c := by obtain ⟨m, -, h, -⟩ := hR; exact h
  have hci := hcell i hi
  unfold tt_c at hci
  refine hm_lv (lv' := [(0, .ref tm), (1, .ref (ad i))]) rfl ?_
  refine hm_aload_n C nd_TS_give_0 rfl ?_
  refine hm_ifnonnull (tgt := 6) (r := (some (ad i))) C nd_TS_give_1 (by decide) (fun _ => ?_) (fun h => by cases h)
  refine hm_aload_n C nd_TS_give_6 rfl ?_
  refine hm_get C nF_TS_73 hci rfl nd_TS_give_7 ?_
  refine hm_if_ne (tgt := 35) C nd_TS_give_10 (by decide) (fun cc => ?_) (fun cc => ?_)
  · have hdv : dv i = true := by rcases h : dv i with _ | _; exact absurd (by rw [h]; rfl) cc; rfl
    refine hm_iconst (v := 1) C nd_TS_give_35 (by decide) ?_
    exact hm_iret C E (by omega) (by omega) (⟨rfl, dv, s0, hX, Or.inl ⟨hdv, rfl, rfl⟩, fun _ _ => rfl⟩) nd_TS_give_36
  · have hdv : ¬ dv i = true := fun h => by rw [if_pos h] at cc; exact absurd cc (by decide)
    refine hm_aload_n C nd_TS_give_13 rfl ?_
    refine hm_iconst (v := 1) C nd_TS_give_14 (by decide) ?_
    refine hm_put C nF_TS_73 hci (Nat.le_of_ble_eq_true rfl) rfl rfl nd_TS_give_15 ?_
    refine hm_eqM (M' := hm_up M (ad i) (hm_ob 2 [.int (nI (kd i)), .int (nI i), va_rf ((lf i).map ad), va_rf ((rt i).map ad), va_rf ((er i).map ad), va_rf ((lu i).map ad), va_rf ((pb i).map ad), .int 1])) rfl ?_
    generalize hM1 : hm_up M (ad i) (hm_ob 2 [.int (nI (kd i)), .int (nI i), va_rf ((lf i).map ad), va_rf ((rt i).map ad), va_rf ((er i).map ad), va_rf ((lu i).map ad), va_rf ((pb i).map ad), .int 1]) = M1
    have fM1_0 : M1 tm = some (hm_ob 1 [.ref la, .int (nI dr), .int (nI s0)]) := by rw [← hM1, hm_up_n _ _ (hm_ne ht hci (by decide))]; exact ht
    have fM1_1 : M1 (ad i) = some (hm_ob 2 [.int (nI (kd i)), .int (nI i), va_rf ((lf i).map ad), va_rf ((rt i).map ad), va_rf ((er i).map ad), va_rf ((lu i).map ad), va_rf ((pb i).map ad), .int 1]) := by rw [← hM1]; exact hm_up_s _ _ _
    refine hm_aload_n C nd_TS_give_18 rfl ?_
    refine hm_aload_n C nd_TS_give_19 rfl ?_
    refine hm_get C nF_TS_77 fM1_0 rfl nd_TS_give_20 ?_
    refine hm_aload_n C nd_TS_give_23 rfl ?_
    refine hm_get C nF_TS_39 fM1_1 rfl nd_TS_give_24 ?_
    refine hm_iconst (v := 1) C nd_TS_give_27 (by decide) ?_
    refine hm_iadd C nd_TS_give_28 ?_
    rw [nI_1]
    refine hm_mmin (rest := [.ref tm]) C nq_TS_80 (by decide) (Nat.le_of_ble_eq_true rfl) (by omega) (by omega) nd_TS_give_29 ?_
    have hmin : (if nI (i + 1) < nI s0 then nI (i + 1) else nI s0) = nI (min s0 (i + 1)) := by
      by_cases h : i + 1 < s0
      · rw [if_pos (nI_lt h (by omega)), Nat.min_eq_right (by omega)]
      · rw [if_neg (nI_nlt (by omega) (by omega)), Nat.min_eq_left (by omega)]
    rw [hmin]
    refine hm_put C nF_TS_77 fM1_0 (Nat.le_of_ble_eq_true rfl) rfl rfl nd_TS_give_32 ?_
    refine hm_eqM (M' := hm_up M1 tm (hm_ob 1 [.ref la, .int (nI dr), .int (nI (min s0 (i + 1)))])) rfl ?_
    generalize hM2 : hm_up M1 tm (hm_ob 1 [.ref la, .int (nI dr), .int (nI (min s0 (i + 1)))]) = M2
    have fM2_0 : M2 (ad i) = some (hm_ob 2 [.int (nI (kd i)), .int (nI i), va_rf ((lf i).map ad), va_rf ((rt i).map ad), va_rf ((er i).map ad), va_rf ((lu i).map ad), va_rf ((pb i).map ad), .int 1]) := by rw [← hM2, hm_up_n _ _ (hm_ne fM1_1 fM1_0 (by decide))]; exact fM1_1
    have fM2_1 : M2 tm = some (hm_ob 1 [.ref la, .int (nI dr), .int (nI (min s0 (i + 1)))]) := by rw [← hM2]; exact hm_up_s _ _ _
    refine hm_iconst (v := 1) C nd_TS_give_35 (by decide) ?_
    have hX2 : ts_X D M2 tm la ea c n dr (min s0 (i + 1)) ad kd lf rt er lu pb (va_up dv i true) := by
      refine ⟨fM2_1, ?_, fun j hj => ?_, hc6⟩
      · rw [← hM2, ← hM1]
        have n1 := ts_ne hX hi
        exact (hR.put n1.2.1 n1.2.2).put (by obtain ⟨m, h9, -⟩ := id hR; exact hm_ne ht h9 (by decide)) (fun h0 => by
          obtain ⟨m, h9, -, h8⟩ := id hR
          rcases h8 with ⟨h7, -⟩ | ⟨-, g, hg, -⟩
          · exact absurd h7 h0
          · exact hm_neA ht hg)
      · rw [← hM2, hm_up_n _ _ (ts_ne hX hj).1]
        by_cases e : j = i
        · subst e
          rw [← hM1, hm_up_s]
          unfold tt_c
          rw [va_up_self]
          rfl
        · rw [← hM1, hm_up_n _ _ (fun z => e (ts_inj hX hj hi z)), hcell j hj]
          unfold tt_c
          rw [va_up_ne _ _ e]
    exact hm_iret C E (by omega) (by omega) (⟨rfl, _, _, hX2, Or.inr ⟨hdv, rfl, rfl⟩, fun z hz => by rw [← hM2, hm_up_n _ _ (fun e => hz (Or.inl e)), ← hM1, hm_up_n _ _ (fun e => hz (Or.inr (Or.inr (Or.inr ⟨i, hi, e⟩))))]⟩) nd_TS_give_36
set_option maxHeartbeats 4000000 in
set_option maxRecDepth 100000 in
theorem ct_TS_settle {l : Launch} {D : va_G} {BG : Nat → Option Cell} (M : hm_M) (tm : Nat) (F : Nat → Prop) (T : Nat → Nat → Nat → Prop) (G : Nat → Prop) (dr n c se : Nat) (hS : ts_S D M tm F T G dr n c se) : hm_ct l D BG ny_TS_settle prog_5_method_10_code 3 none 3 64 0 0 [.ref tm] M (fun r M' => r = none ∧ ts_S D M' tm F T G dr n c n ∧ (∀ a, ¬ F a → M' a = M a)) := by
  refine hm_ct_of (by decide +kernel) (by exact Nat.le_of_ble_eq_true rfl) ?_
  intro X C E
  have C : hm_C X l D BG prog_5_method_10_code "TurnedKeys$Terms" "settle" 3 3 64 0 0 := C
  obtain ⟨la, ea, ad, kd, lf, rt, er, lu, pb, dv, vl, hX, hI, rfl, rfl⟩ := hS
  have hnn : n ≤ 65536 := by obtain ⟨-, ⟨m, -, h1, -⟩, -, h2⟩ := id hX; omega
  have loop : ∀ (u : Nat) (Mi : hm_M) (dv : Nat → Bool) (se x : Nat), (n - se) + 5 * tt_n dv n ≤ u → x + u ≤ 1000000 → ts_X D Mi tm la ea c n dr se ad kd lf rt er lu pb dv → tt_I n dr se G kd lf rt er lu pb dv vl → (∀ a, ¬ ts_F tm la ea c n ad a → Mi a = M a) → hm_W X Mi 0 0 2 [(1, .int (nI x)), (0, .ref tm)] [] := by
    intro u
    induction u with
    | zero =>
        intro Mi dv se x hu hxu hX hI hfr
        obtain ⟨ht, hR, hcell, hc6⟩ := id hX
        have hsn : se ≤ n := hI.2.2.2.2.1
        obtain ⟨m0, hla, hnc, hRc⟩ := id hR
        have hse : se = n := by omega
        refine hm_iload_n C nd_TS_settle_2 rfl ?_
        refine hm_ldc (v := 1000000) C nk_TS_93 nd_TS_settle_3 ?_
        refine hm_icmp_ge (tgt := 100) C nd_TS_settle_5 (by decide) (fun c1 => ?_) (fun c1 => ?_)
        · exact hm_vret C E (by omega) (by omega) (⟨rfl, ⟨la, ea, ad, kd, lf, rt, er, lu, pb, dv, vl, by rw [hse] at hX; exact hX, by rw [hse] at hI; exact hI, rfl, rfl⟩, hfr⟩) nd_TS_settle_100
        · refine hm_aload_n C nd_TS_settle_8 rfl ?_
          refine hm_get C nF_TS_77 ht rfl nd_TS_settle_9 ?_
          refine hm_aload_n C nd_TS_settle_12 rfl ?_
          refine hm_get C nF_TS_12 ht rfl nd_TS_settle_13 ?_
          refine hm_callV C (ct_AL_size Mi la ea (nI n) m0 hla) nV_AL_size [] rfl hla rfl nq_TS_62 nj_AL_size nx_AL_size rfl (rest := [.int (nI se)]) rfl (Nat.le_of_ble_eq_true rfl) (by decide) (by decide) (by omega) (by omega) nd_TS_settle_16 (fun r M1 hp => ?_)
          obtain ⟨rfl, eM1⟩ := hp
          rw [eM1]
          refine hm_stk (st' := [.int (nI n), .int (nI se)]) rfl ?_
          refine hm_icmp_ge (tgt := 100) C nd_TS_settle_19 (by decide) (fun c2 => ?_) (fun c2 => absurd (nI_le (show n ≤ se by omega) (by omega)) c2)
          exact hm_vret C E (by omega) (by omega) (⟨rfl, ⟨la, ea, ad, kd, lf, rt, er, lu, pb, dv, vl, by rw [hse] at hX; exact hX, by rw [hse] at hI; exact hI, rfl, rfl⟩, hfr⟩) nd_TS_settle_100
    | succ u ih =>
        intro Mi dv se x hu hxu hX hI hfr
        obtain ⟨ht, hR, hcell, hc6⟩ := id hX
        have hsn : se ≤ n := hI.2.2.2.2.1
        obtain ⟨m0, hla, hnc, hRc⟩ := id hR
        refine hm_iload_n C nd_TS_settle_2 rfl ?_
        refine hm_ldc (v := 1000000) C nk_TS_93 nd_TS_settle_3 ?_
        refine hm_icmp_ge (tgt := 100) C nd_TS_settle_5 (by decide) (fun c1 => ?_) (fun c1 => ?_)
        · have hse : se = n := by
            rcases Nat.lt_or_ge x 1000000 with h | h
            · exact absurd c1 (show ¬ nI 1000000 ≤ nI x from nI_ge h (by omega))
            · omega
          exact hm_vret C E (by omega) (by omega) (⟨rfl, ⟨la, ea, ad, kd, lf, rt, er, lu, pb, dv, vl, by rw [hse] at hX; exact hX, by rw [hse] at hI; exact hI, rfl, rfl⟩, hfr⟩) nd_TS_settle_100
        · refine hm_aload_n C nd_TS_settle_8 rfl ?_
          refine hm_get C nF_TS_77 ht rfl nd_TS_settle_9 ?_
          refine hm_aload_n C nd_TS_settle_12 rfl ?_
          refine hm_get C nF_TS_12 ht rfl nd_TS_settle_13 ?_
          refine hm_callV C (ct_AL_size Mi la ea (nI n) m0 hla) nV_AL_size [] rfl hla rfl nq_TS_62 nj_AL_size nx_AL_size rfl (rest := [.int (nI se)]) rfl (Nat.le_of_ble_eq_true rfl) (by decide) (by decide) (by omega) (by omega) nd_TS_settle_16 (fun r M1 hp => ?_)
          obtain ⟨rfl, eM1⟩ := hp
          rw [eM1]
          refine hm_stk (st' := [.int (nI n), .int (nI se)]) rfl ?_
          refine hm_icmp_ge (tgt := 100) C nd_TS_settle_19 (by decide) (fun c2 => ?_) (fun c2 => ?_)
          · have hse : se = n := by
              rcases Nat.lt_or_ge se n with h | h
              · exact absurd c2 (nI_ge h (by omega))
              · omega
            exact hm_vret C E (by omega) (by omega) (⟨rfl, ⟨la, ea, ad, kd, lf, rt, er, lu, pb, dv, vl, by rw [hse] at hX; exact hX, by rw [hse] at hI; exact hI, rfl, rfl⟩, hfr⟩) nd_TS_settle_100
          · have hs : se < n := by
              rcases Nat.lt_or_ge se n with h | h
              · exact h
              · exact absurd (nI_le h (by omega)) c2
            obtain ⟨h2c, g, hg, hf, hno⟩ : 2 ≤ c ∧ ∃ g : Nat → Option Nat, Mi ea = some (hm_ar D 0 c g) ∧ (∀ i, i < n → g i = some (ad i)) ∧ ∀ i, n ≤ i → g i = none := by
              rcases hRc with ⟨h, -⟩ | h
              · omega
              · exact h
            refine hm_aload_n C nd_TS_settle_22 rfl ?_
            refine hm_get C nF_TS_12 ht rfl nd_TS_settle_23 ?_
            refine hm_aload_n C nd_TS_settle_26 rfl ?_
            refine hm_get C nF_TS_77 ht rfl nd_TS_settle_27 ?_
            refine hm_callV C (ct_AL_get Mi la ea n c se g m0 hla hg (by omega) hs hnc) nV_AL_get [.int (nI se)] rfl hla rfl nq_TS_94 nj_AL_get nx_AL_get rfl (rest := []) rfl (Nat.le_of_ble_eq_true rfl) (by decide) (by decide) (by omega) (by omega) nd_TS_settle_30 (fun r M2 hp => ?_)
            obtain ⟨rfl, eM2⟩ := hp
            rw [eM2]
            refine hm_stk (st' := [va_rf (g se)]) rfl ?_
            refine hm_stk (st' := [.ref (ad se)]) (by rw [hf se hs]; rfl) ?_
            have hci := hcell se hs
            unfold tt_c at hci
            refine hm_cast C hci rfl nc_TS_27 nd_TS_settle_33 ?_
            refine hm_astore_n C [(2, .ref (ad se)), (1, .int (nI x)), (0, .ref tm)] nd_TS_settle_36 (by decide) rfl ?_
            refine hm_aload_n C nd_TS_settle_37 rfl ?_
            refine hm_dup C nd_TS_settle_38 rfl ?_
            refine hm_get C nF_TS_77 ht rfl nd_TS_settle_39 ?_
            refine hm_iconst (v := 1) C nd_TS_settle_42 (by decide) ?_
            refine hm_iadd C nd_TS_settle_43 ?_
            rw [nI_1]
            refine hm_put C nF_TS_77 ht (Nat.le_of_ble_eq_true rfl) rfl rfl nd_TS_settle_44 ?_
            refine hm_eqM (M' := hm_up Mi tm (hm_ob 1 [.ref la, .int (nI dr), .int (nI (se + 1))])) rfl ?_
            generalize hM3 : hm_up Mi tm (hm_ob 1 [.ref la, .int (nI dr), .int (nI (se + 1))]) = M3
            have fM3_0 : M3 la = some (hm_ob 0 [.ref ea, .int (nI n), .int m0]) := by rw [← hM3, hm_up_n _ _ (hm_ne hla ht (by decide))]; exact hla
            have fM3_1 : M3 (ad se) = some (hm_ob 2 [.int (nI (kd se)), .int (nI se), va_rf ((lf se).map ad), va_rf ((rt se).map ad), va_rf ((er se).map ad), va_rf ((lu se).map ad), va_rf ((pb se).map ad), .int (if dv se = true then 1 else 0)]) := by rw [← hM3, hm_up_n _ _ (hm_ne hci ht (by decide))]; exact hci
            have fM3_2 : M3 tm = some (hm_ob 1 [.ref la, .int (nI dr), .int (nI (se + 1))]) := by rw [← hM3]; exact hm_up_s _ _ _
            have hX1 : ts_X D M3 tm la ea c n dr (se + 1) ad kd lf rt er lu pb dv := by
              refine ⟨fM3_2, ?_, fun j hj => by rw [← hM3, hm_up_n _ _ (ts_ne hX hj).1]; exact hcell j hj, hc6⟩
              rw [← hM3]
              exact hR.put (hm_ne ht hla (by decide)) (fun h0 => hm_neA ht hg)
            have hfr1 : ∀ a, ¬ ts_F tm la ea c n ad a → M3 a = M a := fun a ha => by rw [← hM3, hm_up_n _ _ (fun e => ha (Or.inl e))]; exact hfr a ha
            have hW := hI.1
            have hKk := hI.2.1
            have hpbn : ∀ i, i < n → ∀ j, pb i = some j → j < n := fun i hi j h => ((hKk i hi).2.2.2.2.2 j h).2.1
            obtain ⟨k7, wl, wr⟩ := hW se hs
            have hln : ∀ j, lf se = some j → j < n := fun j e => Nat.lt_trans (wl j e) hs
            have mid : ∀ (M2 : hm_M) (dv1 : Nat → Bool), ts_X D M2 tm la ea c n dr (se + 1) ad kd lf rt er lu pb dv1 → tt_I n dr se G kd lf rt er lu pb dv1 vl → (tt_m kd lf rt pb dv1 se → dv1 se = true) → tt_n dv1 n ≤ tt_n dv n → (∀ a, ¬ ts_F tm la ea c n ad a → M2 a = M a) → hm_W X M2 0 0 60 [(2, .ref (ad se)), (1, .int (nI x)), (0, .ref tm)] [] := by
              intro M2 dv1 hX2 hI2 hm2 hn2 hfr2
              obtain ⟨ht2, hR2, hcell2, -⟩ := id hX2
              have hci2 := hcell2 se hs
              unfold tt_c at hci2
              have onw : (kd se = 3 → dv1 se = true → tt_d dv1 (lf se) → tt_d dv1 (rt se)) → hm_W X M2 0 0 94 [(2, .ref (ad se)), (1, .int (nI x)), (0, .ref tm)] [] := by
                intro hop
                refine hm_iinc (x := (nI x)) (v := ((nI x) + 1)) C [(1, .int ((nI x) + 1)), (2, .ref (ad se)), (0, .ref tm)] nd_TS_settle_94 rfl rfl (by decide) rfl ?_
                refine hm_goto (tgt := 2) C nd_TS_settle_97 (by decide) ?_
                rw [nI_1]
                refine hm_less (lv' := [(1, .int (nI (x + 1))), (0, .ref tm)]) (by simp) ?_
                exact ih M2 dv1 (se + 1) (x + 1) (by omega) (by omega) hX2 (tt_on hI2 hs hm2 hop) hfr2
              refine hm_aload_n C nd_TS_settle_60 rfl ?_
              refine hm_get C nF_TS_53 hci2 rfl nd_TS_settle_61 ?_
              refine hm_iconst (v := 3) C nd_TS_settle_64 (by decide) ?_
              refine hm_icmp_ne (tgt := 94) C nd_TS_settle_65 (by decide) (fun c3 => ?_) (fun c3 => ?_)
              · exact onw (fun h => absurd (by rw [h]; rfl) c3)
              · have hk3 : kd se = 3 := (nI_eq (by omega) (by decide)).mp c3
                refine hm_aload_n C nd_TS_settle_68 rfl ?_
                refine hm_get C nF_TS_73 hci2 rfl nd_TS_settle_69 ?_
                refine hm_if_eq (tgt := 94) C nd_TS_settle_72 (by decide) (fun c4 => ?_) (fun c4 => ?_)
                · exact onw (fun _ h => by rw [if_pos h] at c4; exact absurd c4 (by decide))
                · have hd1 : dv1 se = true := by rcases h : dv1 se with _ | _; exact absurd (by rw [h]; rfl) c4; rfl
                  refine hm_aload_n C nd_TS_settle_75 rfl ?_
                  refine hm_get C nF_TS_32 hci2 rfl nd_TS_settle_76 ?_
                  refine hm_callS C (ct_TS_isDerived M2 n ad kd lf rt er lu pb dv1 hcell2 (lf se) hln) nV_TS_isDerived nq_TS_89 nu_TS_isDerived rfl (rest := []) rfl (Nat.le_of_ble_eq_true rfl) (by decide) (by decide) (by omega) (by omega) nd_TS_settle_79 (fun r M51 hp => ?_)
                  obtain ⟨rfl, eM51⟩ := hp
                  rw [eM51]
                  refine hm_stk (st' := [.int (if tt_db dv1 (lf se) = true then 1 else 0)]) rfl ?_
                  refine hm_if_eq (tgt := 94) C nd_TS_settle_82 (by decide) (fun c5 => ?_) (fun c5 => ?_)
                  · exact onw (fun _ _ h => by rw [if_pos (tt_db_iff.mpr h)] at c5; exact absurd c5 (by decide))
                  · have hdl : tt_d dv1 (lf se) := tt_db_iff.mp (by rcases h : tt_db dv1 (lf se) with _ | _; exact absurd (by rw [h]; rfl) c5; rfl)
                    obtain ⟨j, hj, hj4, hj0⟩ := (hKk se hs).2.2.2.2.1 hk3
                    have hjs : j < se := wr j hj
                    have hjn : j < n := by omega
                    have hci3 : M2 (ad se) = some (hm_ob 2 [.int (nI (kd se)), .int (nI se), va_rf ((lf se).map ad), .ref (ad j), va_rf ((er se).map ad), va_rf ((lu se).map ad), va_rf ((pb se).map ad), .int (if dv1 se = true then 1 else 0)]) := by rw [hj] at hci2; exact hci2
                    refine hm_aload_n C nd_TS_settle_85 rfl ?_
                    refine hm_aload_n C nd_TS_settle_86 rfl ?_
                    refine hm_get C nF_TS_56 hci3 rfl nd_TS_settle_87 ?_
                    refine hm_callV C (ct_TS_giveD M2 tm la ea c n dr (se + 1) ad kd lf rt er lu pb dv1 hX2 (by omega) j hjn) nV_TS_give [.ref (ad j)] rfl ht2 rfl nq_TS_101 nj_TS_give nx_TS_give rfl (rest := []) rfl (Nat.le_of_ble_eq_true rfl) (by decide) (by decide) (by omega) (by omega) nd_TS_settle_90 (fun r M52 hp => ?_)
                    obtain ⟨rfl, dv2, s1, hX3, hcs, hfr3⟩ := hp
                    have hfr4 : ∀ a, ¬ ts_F tm la ea c n ad a → M52 a = M a := fun a ha => by rw [hfr3 a ha]; exact hfr2 a ha
                    refine hm_stk (st' := [.int 1]) rfl ?_
                    refine hm_pop C nd_TS_settle_93 rfl ?_
                    refine hm_iinc (x := (nI x)) (v := ((nI x) + 1)) C [(1, .int ((nI x) + 1)), (2, .ref (ad se)), (0, .ref tm)] nd_TS_settle_94 rfl rfl (by decide) rfl ?_
                    refine hm_goto (tgt := 2) C nd_TS_settle_97 (by decide) ?_
                    rw [nI_1]
                    refine hm_less (lv' := [(1, .int (nI (x + 1))), (0, .ref tm)]) (by simp) ?_
                    rcases hcs with ⟨q1, rfl, rfl⟩ | ⟨q1, rfl, rfl⟩
                    · exact ih M52 dv2 (se + 1) (x + 1) (by omega) (by omega) hX3 (tt_on hI2 hs hm2 (fun _ _ _ z hz => by rw [hj] at hz; cases hz; exact q1)) hfr4
                    · have hgd : sm_dr G (vl j) := by
                        have h1 := hI2.2.2.2.2.2.1 se hs hd1
                        rw [hI2.2.2.2.1.1 se hs (by omega), hk3, hj] at h1
                        exact sm_dr_op G _ _ h1 (tt_dr_d hI2 hln hdl)
                      have hgv := tt_give hI2 hjn (fun h => by omega) (fun w q => q) (fun w q => Or.inl q) hgd
                      rw [Nat.min_eq_right (by omega)] at hgv
                      rw [Nat.min_eq_right (by omega)] at hX3
                      have hcnt := tt_n_up q1 hjn
                      exact ih M52 _ (j + 1) (x + 1) (by omega) (by omega) hX3 hgv hfr4
            refine hm_aload_n C nd_TS_settle_47 rfl ?_
            refine hm_callS C (ct_TS_canBeMade M3 n ad kd lf rt er lu pb dv hX1.2.2.1 hW hpbn se hs) nV_TS_canBeMade nq_TS_98 nu_TS_canBeMade rfl (rest := []) rfl (Nat.le_of_ble_eq_true rfl) (by decide) (by decide) (by omega) (by omega) nd_TS_settle_48 (fun r M4 hp => ?_)
            obtain ⟨rfl, eM4⟩ := hp
            rw [eM4]
            refine hm_stk (st' := [.int (if tt_mb kd lf rt pb dv se = true then 1 else 0)]) rfl ?_
            refine hm_if_eq (tgt := 60) C nd_TS_settle_51 (by decide) (fun c6 => ?_) (fun c6 => ?_)
            · have hnm : ¬ tt_m kd lf rt pb dv se := fun h => by rw [if_pos (tt_mb_iff.mpr h)] at c6; exact absurd c6 (by decide)
              obtain ⟨q1, q2⟩ := tt_try hI hs (Or.inl ⟨hnm, rfl⟩)
              exact mid M3 dv hX1 q1 q2 (Nat.le_refl _) hfr1
            · have hm : tt_m kd lf rt pb dv se := tt_mb_iff.mp (by rcases h : tt_mb kd lf rt pb dv se with _ | _; exact absurd (by rw [h]; rfl) c6; rfl)
              refine hm_aload_n C nd_TS_settle_54 rfl ?_
              refine hm_aload_n C nd_TS_settle_55 rfl ?_
              refine hm_callV C (ct_TS_giveD M3 tm la ea c n dr (se + 1) ad kd lf rt er lu pb dv hX1 (by omega) se hs) nV_TS_give [.ref (ad se)] rfl fM3_2 rfl nq_TS_101 nj_TS_give nx_TS_give rfl (rest := []) rfl (Nat.le_of_ble_eq_true rfl) (by decide) (by decide) (by omega) (by omega) nd_TS_settle_56 (fun r M5 hp => ?_)
              obtain ⟨rfl, dv2, s1, hX3, hcs, hfr3⟩ := hp
              have hfr4 : ∀ a, ¬ ts_F tm la ea c n ad a → M5 a = M a := fun a ha => by rw [hfr3 a ha]; exact hfr1 a ha
              refine hm_stk (st' := [.int 1]) rfl ?_
              refine hm_pop C nd_TS_settle_59 rfl ?_
              obtain ⟨p1, p2⟩ := tt_try hI hs (Or.inr ⟨hm, rfl⟩)
              rcases hcs with ⟨q1, rfl, rfl⟩ | ⟨q1, rfl, rfl⟩
              · have e : va_up dv2 se true = dv2 := by
                  funext z
                  by_cases hz : z = se
                  · rw [hz, va_up_self, q1]
                  · rw [va_up_ne _ _ hz]
                rw [e] at p1 p2
                exact mid M5 dv2 hX3 p1 p2 (Nat.le_refl _) hfr4
              · rw [Nat.min_self] at hX3
                have hcnt := tt_n_up q1 hs
                exact mid M5 _ hX3 p1 p2 (by omega) hfr4
  refine hm_lv (lv' := [(0, .ref tm)]) rfl ?_
  refine hm_iconst (v := 0) C nd_TS_settle_0 (by decide) ?_
  refine hm_istore_n C [(1, .int 0), (0, .ref tm)] nd_TS_settle_1 (by decide) rfl ?_
  refine hm_lv (lv' := [(1, .int (nI 0)), (0, .ref tm)]) rfl ?_
  have hcn := tt_n_le dv n
  exact loop ((n - se) + 5 * tt_n dv n) M dv se 0 (Nat.le_refl _) (by omega) hX hI (fun _ _ => rfl)
set_option maxHeartbeats 4000000 in
set_option maxRecDepth 100000 in
theorem ct_TS_hasDerived {l : Launch} {D : va_G} {BG : Nat → Option Cell} (M : hm_M) (tm : Nat) (F : Nat → Prop) (T : Nat → Nat → Nat → Prop) (G : Nat → Prop) (dr n c se : Nat) (hS : ts_S D M tm F T G dr n c se) (a i v : Nat) (hT : T a i v) : hm_ct l D BG ny_TS_hasDerived prog_5_method_9_code 2 (some .boolean) 4 86 0 0 [.ref tm, .ref a] M (fun r M' => r = some (.int (@ite _ (sm_dr G v) (Classical.propDecidable _) 1 0)) ∧ ts_S D M' tm F T G dr n c n ∧ (∀ a, ¬ F a → M' a = M a)) := by
  refine hm_ct_of (by decide +kernel) (by exact Nat.le_of_ble_eq_true rfl) ?_
  intro X C E
  have C : hm_C X l D BG prog_5_method_9_code "TurnedKeys$Terms" "hasDerived" 2 4 86 0 0 := C
  refine hm_lv (lv' := [(0, .ref tm), (1, .ref a)]) rfl ?_
  obtain ⟨la0, ht0, -⟩ := ts_tm hS
  refine hm_aload_n C nd_TS_hasDerived_0 rfl ?_
  refine hm_callV C (ct_TS_settle M tm F T G dr n c se hS) nV_TS_settle [] rfl ht0 rfl nq_TS_86 nj_TS_settle nx_TS_settle rfl (rest := []) rfl (Nat.le_of_ble_eq_true rfl) (by decide) (by decide) (by omega) (by omega) nd_TS_hasDerived_1 (fun r M1 hp => ?_)
  obtain ⟨rfl, hS1, hfr⟩ := hp
  obtain ⟨la, ea, ad, kd, lf, rt, er, lu, pb, dv, vl, hX, hI, rfl, rfl⟩ := id hS1
  obtain ⟨hi, rfl, rfl⟩ := id hT
  refine hm_stk (st' := []) rfl ?_
  refine hm_aload_n C nd_TS_hasDerived_4 rfl ?_
  refine hm_stk (st' := [va_rf ((some i).map ad)]) rfl ?_
  refine hm_callS C (ct_TS_isDerived M1 n ad kd lf rt er lu pb dv hX.2.2.1 (some i) (fun j h => (by cases h; exact hi))) nV_TS_isDerived nq_TS_89 nu_TS_isDerived rfl (rest := []) rfl (Nat.le_of_ble_eq_true rfl) (by decide) (by decide) (by omega) (by omega) nd_TS_hasDerived_5 (fun r M2 hp => ?_)
  obtain ⟨rfl, eM2⟩ := hp
  rw [eM2]
  refine hm_stk (st' := [.int (if tt_db dv (some i) = true then 1 else 0)]) rfl ?_
  exact hm_zret C E (by by_cases h : tt_db dv (some i) = true; exact Or.inr (if_pos h); exact Or.inl (if_neg h)) (by omega) (by omega) (⟨by rw [show tt_db dv (some i) = dv i from rfl]; congr 2; by_cases h : dv i = true; rw [if_pos h, if_pos ((tt_done hI hi).mp h)]; rw [if_neg h, if_neg (fun q => h ((tt_done hI hi).mpr q))], hS1, hfr⟩) nd_TS_hasDerived_8
