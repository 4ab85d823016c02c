theorem om_inj {D : va_G} {M : hm_M} {tm la ea c n dr se : Nat} {ad kd : Nat → Nat} {lf rt er lu pb : Nat → Option Nat} {dv : Nat → Bool} (h : ts_X D M tm la ea c n dr se ad kd lf rt er lu pb dv) {r r' : Option Nat} (h1 : ∀ j, r = some j → j < n) (h2 : ∀ j, r' = some j → j < n) (e : r.map ad = r'.map ad) : r = r' := by
  cases r with
  | none =>
    cases r' with
    | none => rfl
    | some j => cases e
  | some i =>
    cases r' with
    | none => cases e
    | some j => exact congrArg some (ts_inj h (h1 i rfl) (h2 j rfl) (Option.some.inj e))
theorem om_none {ad : Nat → Nat} {r : Option Nat} (h : r.map ad = none) : r = none := by
  cases r with
  | none => rfl
  | some j => cases h
theorem om_some {ad : Nat → Nat} {r : Option Nat} (h : ¬ r.map ad = none) : ∃ j, r = some j := by
  cases r with
  | none => exact absurd rfl h
  | some j => exact ⟨j, rfl⟩
theorem li_R.put {D : va_G} {M : hm_M} {a ea c n z : Nat} {f : Nat → Nat} {e : va_E} (h : li_R D M a ea c n f) (h1 : z ≠ a) (h2 : c ≠ 0 → z ≠ ea) : li_R D (hm_up M z e) a ea c n f := by
  obtain ⟨m, ha, hnc, hc⟩ := h
  refine ⟨m, by rw [hm_up_n _ _ (Ne.symm h1)]; exact ha, hnc, ?_⟩
  rcases hc with h | ⟨h9, g, hg, hf⟩
  · exact Or.inl h
  · exact Or.inr ⟨h9, g, by rw [hm_up_n _ _ (Ne.symm (h2 (by omega)))]; exact hg, hf⟩
theorem ts_P.old {D : va_G} {tm : Nat} {M : hm_M} {F : Nat → Prop} {T : Nat → Nat → Nat → Prop} {G : Nat → Prop} {n c se dr v : Nat} (hS : ts_S D M tm F T G dr n c se) (hk : ts_k T v) : ts_P D tm M F T G n c se dr [v] M F T := by
  refine ⟨by rw [ts_r_old hk]; exact hS, hm_step.rf M F, fun _ _ _ h => h, fun _ _ _ h => Or.inl h, fun w hw => ?_⟩
  rw [List.mem_singleton.mp hw]
  exact hk
/-- what an added term leaves as it was -/
theorem ts_left {D : va_G} {M : hm_M} {tm la ea ea' c n dr se q : Nat} {ad kd : Nat → Nat} {lf rt er lu pb : Nat → Option Nat} {dv : Nat → Bool} (hX : ts_X D M tm la ea c n dr se ad kd lf rt er lu pb dv) (hq : M q = none) (hea : (ea' = ea ∧ n < c) ∨ (M ea' = none ∧ ea' ≠ q)) : (∀ i, i < n → ad i ≠ q ∧ ad i ≠ la ∧ ad i ≠ ea') ∧ tm ≠ q ∧ tm ≠ la ∧ tm ≠ ea' := by
  obtain ⟨ht, hR, hcell, -⟩ := id hX
  refine ⟨fun i hi => ⟨hm_neF (hcell i hi) hq, (ts_ne hX hi).2.1, fun e => ?_⟩, hm_neF ht hq, ?_, fun e => ?_⟩
  · rcases hea with ⟨h, h'⟩ | ⟨h, -⟩
    · exact (ts_ne hX hi).2.2 (by omega) (e.trans h)
    · rw [← e, hcell i hi] at h; cases h
  · obtain ⟨m, h1, -⟩ := hR
    exact hm_ne ht h1 (by decide)
  · obtain ⟨m, h1, -, h3⟩ := hR
    rcases hea with ⟨h, h'⟩ | ⟨h, -⟩
    · rcases h3 with ⟨h4, -⟩ | ⟨-, g, hg, -⟩
      · omega
      · exact hm_neA ht hg (e.trans h)
    · rw [← e, ht] at h; cases h
theorem tt_old {n dr se k : Nat} {G : Nat → Prop} {ad kd : Nat → Nat} {lf rt er lu pb : Nat → Option Nat} {dv : Nat → Bool} {vl : Nat → Nat} {a b : Option Nat} {q i : Nat} (hI : tt_I n dr se G kd lf rt er lu pb dv vl) (hi : i < n) (h1 : ¬ (2 ≤ k ∧ tt_g a b = some i)) (h2 : ¬ (k = 1 ∧ a = some i)) : tt_c (va_up ad n q) kd lf rt er (tt_lu lu n k a b) (tt_pb pb n k a) dv i = tt_c ad kd lf rt er lu pb dv i := by
  have e1 : tt_lu lu n k a b i = lu i := by unfold tt_lu; rw [if_neg (by omega), if_neg h1]
  have e2 : tt_pb pb n k a i = pb i := by unfold tt_pb; rw [if_neg (by omega), if_neg h2]
  have hlr := hI.1 i hi
  have hul := tt_lu_lt hI.2.2.1 hi
  rw [← tt_c_up (n := n) (q := q) (fun j h => Nat.lt_trans (hlr.2.1 j h) hi) (fun j h => Nat.lt_trans (hlr.2.2 j h) hi) (fun j h => (hul.2 j h).1) hul.1 (fun j h => ((hI.2.1 i hi).2.2.2.2.2 j h).2.1)]
  unfold tt_c
  rw [e1, e2]
set_option maxHeartbeats 4000000 in
set_option maxRecDepth 100000 in
theorem ct_TS_younger {l : Launch} {D : va_G} {BG : Nat → Option Cell} (M : hm_M) (n : Nat) (ad kd : Nat → Nat) (lf rt er lu pb : Nat → Option Nat) (dv : Nat → Bool) (hcell : ∀ i, i < n → M (ad i) = some (tt_c ad kd lf rt er lu pb dv i)) (hn : n < 2 ^ 31) (a b : Option Nat) (ha : ∀ j, a = some j → j < n) (hb : ∀ j, b = some j → j < n) : hm_ct l D BG ny_TS_younger prog_5_method_7_code 2 (some (.object "TurnedKeys$Term")) 0 0 0 0 [va_rf (a.map ad), va_rf (b.map ad)] M (fun r M' => r = some (va_rf ((tt_g a b).map ad)) ∧ M' = M) := by
  refine hm_ct_of (by decide +kernel) (by simp [lg_sl, hm_cat, hm_catI, hm_catR, hm_catN]) ?_
  intro X C E
  have C : hm_C X l D BG prog_5_method_7_code "TurnedKeys$Terms" "younger" 2 0 0 0 0 := C
  refine hm_lv (lv' := [(0, va_rf (a.map ad)), (1, va_rf (b.map ad))]) (by simp [lv_args, hm_cat, hm_catI, hm_catR, hm_catN]) ?_
  rcases a with _ | x <;> rcases b with _ | y
  · refine hm_lv (lv' := [(0, .null), (1, .null)]) rfl ?_
    refine hm_aload_nN C nd_TS_younger_0 rfl ?_
    refine hm_ifnull (tgt := 8) (r := none) C nd_TS_younger_1 (by decide) (fun _ => ?_) (fun h => absurd rfl h)
    refine hm_aload_nN C nd_TS_younger_8 rfl ?_
    refine hm_ifnonnull (tgt := 16) (r := none) C nd_TS_younger_9 (by decide) (fun h => absurd rfl h) (fun _ => ?_)
    refine hm_aload_nN C nd_TS_younger_12 rfl ?_
    refine hm_goto (tgt := 17) C nd_TS_younger_13 (by decide) ?_
    exact hm_aret (r := none) C E (Or.inl ⟨_, rfl⟩) (by omega) (by omega) (⟨rfl, rfl⟩) nd_TS_younger_17
  · refine hm_lv (lv' := [(0, .null), (1, .ref (ad y))]) rfl ?_
    refine hm_aload_nN C nd_TS_younger_0 rfl ?_
    refine hm_ifnull (tgt := 8) (r := none) C nd_TS_younger_1 (by decide) (fun _ => ?_) (fun h => absurd rfl h)
    refine hm_aload_nN C nd_TS_younger_8 rfl ?_
    refine hm_ifnonnull (tgt := 16) (r := none) C nd_TS_younger_9 (by decide) (fun h => absurd rfl h) (fun _ => ?_)
    refine hm_aload_n C nd_TS_younger_12 rfl ?_
    refine hm_goto (tgt := 17) C nd_TS_younger_13 (by decide) ?_
    exact hm_aret (r := (some (ad y))) C E (Or.inl ⟨_, rfl⟩) (by omega) (by omega) (⟨rfl, rfl⟩) nd_TS_younger_17
  · refine hm_lv (lv' := [(0, .ref (ad x)), (1, .null)]) rfl ?_
    refine hm_aload_n C nd_TS_younger_0 rfl ?_
    refine hm_ifnull (tgt := 8) (r := (some (ad x))) C nd_TS_younger_1 (by decide) (fun h => by cases h) (fun _ => ?_)
    refine hm_aload_nN C nd_TS_younger_4 rfl ?_
    refine hm_ifnonnull (tgt := 18) (r := none) C nd_TS_younger_5 (by decide) (fun h => absurd rfl h) (fun _ => ?_)
    refine hm_aload_n C nd_TS_younger_8 rfl ?_
    refine hm_ifnonnull (tgt := 16) (r := (some (ad x))) C nd_TS_younger_9 (by decide) (fun _ => ?_) (fun h => by cases h)
    refine hm_aload_n C nd_TS_younger_16 rfl ?_
    exact hm_aret (r := (some (ad x))) C E (Or.inl ⟨_, rfl⟩) (by omega) (by omega) (⟨rfl, rfl⟩) nd_TS_younger_17
  · refine hm_lv (lv' := [(0, .ref (ad x)), (1, .ref (ad y))]) rfl ?_
    refine hm_aload_n C nd_TS_younger_0 rfl ?_
    refine hm_ifnull (tgt := 8) (r := (some (ad x))) C nd_TS_younger_1 (by decide) (fun h => by cases h) (fun _ => ?_)
    refine hm_aload_n C nd_TS_younger_4 rfl ?_
    refine hm_ifnonnull (tgt := 18) (r := (some (ad y))) C nd_TS_younger_5 (by decide) (fun _ => ?_) (fun h => by cases h)
    refine hm_aload_n C nd_TS_younger_18 rfl ?_
    refine hm_get C nF_TS_39 (hcell x (ha x rfl)) rfl nd_TS_younger_19 ?_
    refine hm_aload_n C nd_TS_younger_22 rfl ?_
    refine hm_get C nF_TS_39 (hcell y (hb y rfl)) rfl nd_TS_younger_23 ?_
    refine hm_icmp_le (tgt := 33) C nd_TS_younger_26 (by decide) (fun c => ?_) (fun c => ?_)
    · refine hm_aload_n C nd_TS_younger_33 rfl ?_
      exact hm_aret (r := (some (ad y))) C E (Or.inl ⟨_, rfl⟩) (by omega) (by omega) (⟨by rw [show tt_g (some x) (some y) = some y from if_neg (fun z => nI_ge z (by have := ha x rfl; omega) c)]; rfl, rfl⟩) nd_TS_younger_34
    · refine hm_aload_n C nd_TS_younger_29 rfl ?_
      refine hm_goto (tgt := 34) C nd_TS_younger_30 (by decide) ?_
      exact hm_aret (r := (some (ad x))) C E (Or.inl ⟨_, rfl⟩) (by omega) (by omega) (⟨by rw [show tt_g (some x) (some y) = some x from if_pos (by rcases Nat.lt_or_ge y x with z | z; exact z; exact absurd (nI_le z (by have := hb y rfl; omega)) c)]; rfl, rfl⟩) nd_TS_younger_34
set_option maxHeartbeats 4000000 in
set_option maxRecDepth 100000 in
theorem ct_TS_publicOf {l : Launch} {D : va_G} {BG : Nat → Option Cell} (M : hm_M) (tm : Nat) (F : Nat → Prop) (T : Nat → Nat → Nat → Prop) (G : Nat → Prop) (dr n c se : Nat) (hS : ts_S D M tm F T G dr n c se) (hc : c ≤ 40000) (a i x d : Nat) (hT : T a i x) (hd : x = sm_t 0 d 0) : hm_ct l D BG ny_TS_publicOf prog_5_method_3_code 2 (some (.object "TurnedKeys$Term")) 8 196 (ts_kc (ts_k T) n c [sm_t 1 x 0]) (ts_ks (ts_k T) n c [sm_t 1 x 0]) [.ref tm, .ref a] M (fun r M' => ∃ q F' T', r = some (.ref q) ∧ ts_P D tm M F T G n c se dr [sm_t 1 x 0] M' F' T' ∧ ∃ j, T' q j (sm_t 1 x 0)) := by
  refine hm_ct_of (by decide +kernel) (by exact Nat.le_of_ble_eq_true rfl) ?_
  intro X C E
  have C : hm_C X l D BG prog_5_method_3_code "TurnedKeys$Terms" "publicOf" 2 8 196 (ts_kc (ts_k T) n c [sm_t 1 x 0]) (ts_ks (ts_k T) n c [sm_t 1 x 0]) := C
  obtain ⟨la, ea, ad, kd, lf, rt, er, lu, pb, dv, vl, hX, hI, rfl, rfl⟩ := hS
  obtain ⟨hin, rfl, rfl⟩ := hT
  obtain ⟨ht, hR, hcell, hc6⟩ := id hX
  have hk0 : kd i = 0 := by
    rcases Nat.eq_zero_or_pos (kd i) with h | h
    · exact h
    · have h2 := hI.2.2.2.1.1 i hin (by omega)
      rw [hd] at h2
      have := (sm_t_inj h2).1
      omega
  have hci := hcell i hin
  unfold tt_c at hci
  refine hm_lv (lv' := [(0, .ref tm), (1, .ref (ad i))]) rfl ?_
  refine hm_aload_n C nd_TS_publicOf_0 rfl ?_
  refine hm_ifnonnull (tgt := 6) (r := (some (ad i))) C nd_TS_publicOf_1 (by decide) (fun _ => ?_) (fun h => by cases h)
  refine hm_aload_n C nd_TS_publicOf_6 rfl ?_
  refine hm_get C nF_TS_26 hci rfl nd_TS_publicOf_7 ?_
  refine hm_ifnonnull (tgt := 25) (r := ((pb i).map ad)) C nd_TS_publicOf_10 (by decide) (fun cn => ?_) (fun cn => ?_)
  · obtain ⟨p, hp⟩ := om_some cn
    have hp2 := (hI.2.1 i hin).2.2.2.2.2 p hp
    have hv : sm_t 1 (vl i) 0 = vl p := by
      rw [hI.2.2.2.1.1 p hp2.2.1 (by omega), hp2.2.2.1, hp2.2.2.2, ((hI.2.1 p hp2.2.1).2.1 hp2.2.2.1).1]
      rfl
    have hkn : ts_k (fun a i v => i < n ∧ a = ad i ∧ v = vl i) (sm_t 1 (vl i) 0) := ⟨_, p, hp2.2.1, rfl, hv⟩
    refine hm_aload_n C nd_TS_publicOf_25 rfl ?_
    refine hm_get C nF_TS_26 hci rfl nd_TS_publicOf_26 ?_
    exact hm_aret (r := ((pb i).map ad)) C E (Or.inl ⟨_, rfl⟩) (by omega) (by omega) (⟨ad p, _, _, by rw [hp]; rfl, ts_P.old ⟨la, ea, ad, kd, lf, rt, er, lu, pb, dv, vl, hX, hI, rfl, rfl⟩ hkn, p, hp2.2.1, rfl, hv⟩) nd_TS_publicOf_29
  · have hpn := om_none cn
    have ok := tt_ok_pub hI hin hk0 hpn
    have nk : ¬ ts_k (fun a i v => i < n ∧ a = ad i ∧ v = vl i) (sm_t 1 (vl i) 0) := by
      rintro ⟨z, j, hj, -, e⟩
      exact ok.2.2.2.1 j hj e.symm
    have hmc := ts_kc1 (n := n) (c := c) nk
    refine hm_aload_n C nd_TS_publicOf_13 rfl ?_
    refine hm_aload_n C nd_TS_publicOf_14 rfl ?_
    refine hm_iconst (v := 1) C nd_TS_publicOf_15 (by decide) ?_
    refine hm_aload_n C nd_TS_publicOf_16 rfl ?_
    refine hm_null C nd_TS_publicOf_17 ?_
    refine hm_null C nd_TS_publicOf_18 ?_
    refine hm_stk (st' := [va_rf none, va_rf none, va_rf (some (ad i)), .int (nI 1), .ref tm, .ref (ad i)]) rfl ?_
    refine hm_callV C (ct_TS_added M tm la ea c n ad (nI dr) (nI se) (nI 1) (some (ad i)) none none ht hR (ts_el hX) hc) nV_TS_added [.int (nI 1), va_rf (some (ad i)), va_rf none, va_rf none] rfl ht rfl nq_TS_22 nj_TS_added nx_TS_added rfl (rest := [.ref (ad i)]) rfl (Nat.le_of_ble_eq_true rfl) (by decide) (by decide) (by omega) (by omega) nd_TS_publicOf_19 (fun r M1 hp => ?_)
    obtain ⟨q, ea', rfl, hq, hcq, hR2, hfr, hea⟩ := hp
    obtain ⟨hld, hlt1, hlt2, hlt3⟩ := ts_left hX hq hea
    have hci1 : M1 (ad i) = some (hm_ob 2 [.int (nI (kd i)), .int (nI i), va_rf ((lf i).map ad), va_rf ((rt i).map ad), va_rf ((er i).map ad), va_rf ((lu i).map ad), va_rf ((pb i).map ad), .int (if dv i = true then 1 else 0)]) := by rw [hfr _ (hld i hin).1 (hld i hin).2.1 (hld i hin).2.2]; exact hci
    refine hm_stk (st' := [.ref q, .ref (ad i)]) rfl ?_
    refine hm_put C nF_TS_26 hci1 (Nat.le_of_ble_eq_true rfl) rfl rfl nd_TS_publicOf_22 ?_
    refine hm_eqM (M' := hm_up M1 (ad i) (hm_ob 2 [.int (nI (kd i)), .int (nI i), va_rf ((lf i).map ad), va_rf ((rt i).map ad), va_rf ((er i).map ad), va_rf ((lu i).map ad), .ref q, .int (if dv i = true then 1 else 0)])) rfl ?_
    generalize hM2 : hm_up M1 (ad i) (hm_ob 2 [.int (nI (kd i)), .int (nI i), va_rf ((lf i).map ad), va_rf ((rt i).map ad), va_rf ((er i).map ad), va_rf ((lu i).map ad), .ref q, .int (if dv i = true then 1 else 0)]) = M2
    have fM2_0 : M2 (ad i) = some (hm_ob 2 [.int (nI (kd i)), .int (nI i), va_rf ((lf i).map ad), va_rf ((rt i).map ad), va_rf ((er i).map ad), va_rf ((lu i).map ad), .ref q, .int (if dv i = true then 1 else 0)]) := by rw [← hM2]; exact hm_up_s _ _ _
    have hext := ts_ext (M' := M2) hX hI ok hq (by rw [← hM2, hm_up_n _ _ (Ne.symm (ts_ne hX hin).1), hfr tm hlt1 hlt2 hlt3]; exact ht) (by rw [← hM2]; exact hR2.put (hld i hin).2.1 (fun _ => (hld i hin).2.2)) (by rw [← hM2, hm_up_n _ _ (Ne.symm (hld i hin).1)]; exact hcq) (fun j hj => by
        by_cases e : j = i
        · subst e
          rw [fM2_0]
          have hlr := hI.1 j hj
          have hul := tt_lu_lt hI.2.2.1 hj
          have e1 : tt_lu lu n 1 (some j) none j = lu j := by unfold tt_lu; rw [if_neg (by omega), if_neg (by omega)]
          have e2 : tt_pb pb n 1 (some j) j = some n := by unfold tt_pb; rw [if_neg (by omega), if_pos ⟨rfl, rfl⟩]
          unfold tt_c
          rw [e1, e2, om_up (fun x h => Nat.lt_trans (hlr.2.1 x h) hj), om_up (fun x h => Nat.lt_trans (hlr.2.2 x h) hj), om_up (fun x h => (hul.2 x h).1), om_up hul.1]
          show some (hm_ob 2 [_, _, _, _, _, _, .ref q, _]) = some (hm_ob 2 [_, _, _, _, _, _, va_rf (some (va_up ad n q n)), _])
          rw [va_up_self]
          rfl
        · rw [← hM2, hm_up_n _ _ (fun z => e (ts_inj hX hj hin z)), hfr _ (hld j hj).1 (hld j hj).2.1 (hld j hj).2.2, hcell j hj]
          exact congrArg some (tt_old hI hj (fun z => absurd z.1 (by omega)) (fun z => e (Option.some.inj z.2).symm)).symm) (fun z z1 z2 z3 z4 z5 => by rw [← hM2, hm_up_n _ _ (z5 i hin), hfr z z1 z2 z3]) hea hc
    refine hm_aload_n C nd_TS_publicOf_25 rfl ?_
    refine hm_get C nF_TS_26 fM2_0 rfl nd_TS_publicOf_26 ?_
    exact hm_aret (r := (some q)) C E (Or.inl ⟨_, rfl⟩) (by omega) (by omega) (⟨q, _, _, rfl, hext, n, by omega, (va_up_self _ _ _).symm, (va_up_self _ _ _).symm⟩) nd_TS_publicOf_29
