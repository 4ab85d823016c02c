set_option maxHeartbeats 4000000 in
set_option maxRecDepth 100000 in
theorem ct_TS_made {l : Launch} {D : va_G} {BG : Nat → Option Cell} (M : hm_M) (tm : Nat) (F : Nat → Prop) (T : Nat → Nat → Nat → Prop) (G : Nat → Prop) (dr n c se : Nat) (hS : ts_S D M tm F T G dr n c se) (hc : c ≤ 40000) (k x y : Nat) (l0 r0 : Option Nat) (hx : ts_o T l0 x) (hy : ts_o T r0 y) (hnn : ¬ (l0 = none ∧ r0 = none)) (hk : 2 ≤ k) (k7 : k ≤ 7) (h2 : k = 2 → ∃ d1 d2, x = sm_t 0 d1 0 ∧ y = sm_t 0 d2 0 ∧ ts_k T (sm_t 1 x 0) ∧ ts_k T (sm_t 1 y 0)) (h3 : k = 3 → ∃ z j d, r0 = some z ∧ T z j y ∧ n ≤ j + 4 ∧ y = sm_t 0 d 0) : hm_ct l D BG ny_TS_made prog_5_method_5_code 6 (some (.object "TurnedKeys$Term")) 8 196 (ts_kc (ts_k T) n c [sm_t k x y]) (ts_ks (ts_k T) n c [sm_t k x y]) [.ref tm, .int (nI k), va_rf l0, va_rf r0] M (fun r M' => ∃ q F' T', r = some (.ref q) ∧ ts_P D tm M F T G n c se dr [sm_t k x y] M' F' T' ∧ (∃ j, T' q j (sm_t k x y)) ∧ (¬ ts_k T (sm_t k x y) → T' q n (sm_t k x y))) := by
  refine hm_ct_of (by decide +kernel) (by simp [lg_sl, hm_cat, hm_catI, hm_catR, hm_catN]) ?_
  intro X C E
  have C : hm_C X l D BG prog_5_method_5_code "TurnedKeys$Terms" "made" 6 8 196 (ts_kc (ts_k T) n c [sm_t k x y]) (ts_ks (ts_k T) n c [sm_t k x y]) := C
  obtain ⟨la, ea, ad, kd, lf, rt, er, lu, pb, dv, vl, hX, hI, rfl, rfl⟩ := hS
  obtain ⟨a, rfl, ha, rfl⟩ := ts_pl hx
  obtain ⟨b, rfl, hb, rfl⟩ := ts_pl hy
  obtain ⟨ht, hR, hcell, hc6⟩ := id hX
  have hnc : n ≤ c := by obtain ⟨m, -, h, -⟩ := hR; exact h
  obtain ⟨pp, hg⟩ : ∃ pp, tt_g a b = some pp := by
    cases a with
    | none =>
      cases b with
      | none => exact absurd ⟨rfl, rfl⟩ hnn
      | some j => exact ⟨j, rfl⟩
    | some i =>
      cases b with
      | none => exact ⟨i, rfl⟩
      | some j =>
        by_cases h : j < i
        · exact ⟨i, if_pos h⟩
        · exact ⟨j, if_neg h⟩
  have hpp : pp < n := tt_g_lt ha hb hg
  have hcp := hcell pp hpp
  unfold tt_c at hcp
  have k2' : k = 2 → ∃ c d x y, a = some c ∧ b = some d ∧ kd c = 0 ∧ kd d = 0 ∧ pb c = some x ∧ pb d = some y := by
    intro hk
    obtain ⟨d1, d2, e1, e2, ⟨z1, j1, f1, -, f2⟩, ⟨z2, j2, f3, -, f4⟩⟩ := h2 hk
    have key : ∀ (r : Option Nat) (d : Nat), (∀ j, r = some j → j < n) → tt_vo vl r = sm_t 0 d 0 → ∀ j, j < n → sm_t 1 (tt_vo vl r) 0 = vl j → ∃ i, r = some i ∧ kd i = 0 ∧ pb i = some j := by
      intro r d hr e j hj f
      cases r with
      | none => exact absurd e.symm (sm_t_ne _ _ _)
      | some i =>
        have hi := hr i rfl
        have hj1 : kd j ≠ 0 := fun h => by
          obtain ⟨d9, -, -, e9⟩ := hI.2.2.2.1.2.1 j hj h
          rw [e9] at f
          have := (sm_t_inj f).1
          omega
        have f9 := hI.2.2.2.1.1 j hj hj1
        rw [← f] at f9
        obtain ⟨g1, g2, -⟩ := sm_t_inj f9
        obtain ⟨-, i', q1, q2, q3⟩ := (hI.2.1 j hj).2.1 g1.symm
        rw [q1] at g2
        have hi' : i' < n := Nat.lt_trans ((hI.1 j hj).2.1 i' q1) hj
        have : i' = i := hI.2.2.2.1.2.2.2 i' i hi' hi g2.symm
        subst this
        exact ⟨i', rfl, q2, q3⟩
    obtain ⟨i1, q1, q2, q3⟩ := key a d1 ha e1 j1 f1 f2
    obtain ⟨i2, q4, q5, q6⟩ := key b d2 hb e2 j2 f3 f4
    exact ⟨i1, i2, j1, j2, q1, q4, q2, q5, q3, q6⟩
  have k3' : (∀ i, i < n → ¬ (kd i = k ∧ lf i = a ∧ rt i = b)) → k = 3 → ∃ j, b = some j ∧ n ≤ j + 4 ∧ kd j = 0 := by
    intro hno hk
    obtain ⟨z, j, d, hz, ⟨f1, f2, f3⟩, f4, f5⟩ := h3 hk
    cases b with
    | none => cases hz
    | some i =>
      have : i = j := ts_inj hX (hb i rfl) f1 ((Option.some.inj hz).trans f2)
      subst this
      refine ⟨i, rfl, f4, ?_⟩
      rcases Nat.eq_zero_or_pos (kd i) with h | h
      · exact h
      · have h2 := hI.2.2.2.1.1 i f1 (by omega)
        rw [← f3, f5] at h2
        have := (sm_t_inj h2).1
        omega
  have loop : ∀ m : Nat, m ≤ n → (∀ i, m ≤ i → i < n → ¬ (kd i = k ∧ lf i = a ∧ rt i = b)) → hm_W X M 0 0 21 [(5, va_rf ((tt_l kd lf rt pp m).map ad)), (4, .ref (ad pp)), (0, .ref tm), (1, .int (nI k)), (2, va_rf (a.map ad)), (3, va_rf (b.map ad))] [] := by
    intro m
    induction m using Nat.strongRecOn with
    | _ m ih =>
    intro hm hno
    cases hx9 : tt_l kd lf rt pp m with
    | none =>
      refine hm_lv (lv' := [(5, .null), (4, .ref (ad pp)), (0, .ref tm), (1, .int (nI k)), (2, va_rf (a.map ad)), (3, va_rf (b.map ad))]) rfl ?_
      have hno2 : ∀ i, i < n → ¬ (kd i = k ∧ lf i = a ∧ rt i = b) := by
        intro i hi hh
        rcases Nat.lt_or_ge i m with h | h
        · obtain ⟨j, hj, -⟩ := tt_l_max (kd := kd) (lf := lf) (rt := rt) (p := pp) h (by omega) (by rw [hh.2.1, hh.2.2]; exact hg)
          rw [hx9] at hj; cases hj
        · exact hno i h hi hh
      have ok := tt_ok_made hI hk k7 ha hb (by rw [hg]; simp) k2' (k3' hno2) hno2
      have nk : ¬ ts_k (fun a i v => i < n ∧ a = ad i ∧ v = vl i) (sm_t k (tt_vo vl a) (tt_vo vl b)) := by
        rintro ⟨z, j, hj, -, e⟩
        exact ok.2.2.2.1 j hj e.symm
      have hmc := ts_kc1 (n := n) (c := c) nk
      refine hm_aloadN C nd_TS_made_21 rfl ?_
      refine hm_ifnull (tgt := 66) (r := none) C nd_TS_made_23 (by decide) (fun _ => ?_) (fun h => absurd rfl h)
      refine hm_aload C nd_TS_made_66 rfl ?_
      refine hm_aload_n C nd_TS_made_68 rfl ?_
      refine hm_iload_n C nd_TS_made_69 rfl ?_
      refine hm_aload_nQ (r := (a.map ad)) C nd_TS_made_70 rfl ?_
      refine hm_aload_nQ (r := (b.map ad)) C nd_TS_made_71 rfl ?_
      refine hm_aload C nd_TS_made_72 rfl ?_
      refine hm_get C nF_TS_50 hcp rfl nd_TS_made_74 ?_
      refine hm_callV C (ct_TS_added M tm la ea c n ad (nI dr) (nI se) (nI k) (a.map ad) (b.map ad) ((lu pp).map ad) ht hR (ts_el hX) hc) nV_TS_added [.int (nI k), va_rf (a.map ad), va_rf (b.map ad), va_rf ((lu pp).map ad)] rfl ht rfl nq_TS_22 nj_TS_added nx_TS_added rfl (rest := [.ref (ad pp)]) rfl (Nat.le_of_ble_eq_true rfl) (by decide) (by decide) (by omega) (by omega) nd_TS_made_77 (fun r M1 hp => ?_)
      obtain ⟨q, ea', rfl, hq, hcq, hR2, hfr, hea⟩ := hp
      obtain ⟨hld, hlt1, hlt2, hlt3⟩ := ts_left hX hq hea
      have hci1 : M1 (ad pp) = some (hm_ob 2 [.int (nI (kd pp)), .int (nI pp), va_rf ((lf pp).map ad), va_rf ((rt pp).map ad), va_rf ((er pp).map ad), va_rf ((lu pp).map ad), va_rf ((pb pp).map ad), .int (if dv pp = true then 1 else 0)]) := by rw [hfr _ (hld pp hpp).1 (hld pp hpp).2.1 (hld pp hpp).2.2]; exact hcp
      refine hm_stk (st' := [.ref q, .ref (ad pp)]) rfl ?_
      refine hm_put C nF_TS_50 hci1 (Nat.le_of_ble_eq_true rfl) rfl rfl nd_TS_made_80 ?_
      refine hm_eqM (M' := hm_up M1 (ad pp) (hm_ob 2 [.int (nI (kd pp)), .int (nI pp), va_rf ((lf pp).map ad), va_rf ((rt pp).map ad), va_rf ((er pp).map ad), .ref q, va_rf ((pb pp).map ad), .int (if dv pp = true then 1 else 0)])) rfl ?_
      generalize hM2 : hm_up M1 (ad pp) (hm_ob 2 [.int (nI (kd pp)), .int (nI pp), va_rf ((lf pp).map ad), va_rf ((rt pp).map ad), va_rf ((er pp).map ad), .ref q, va_rf ((pb pp).map ad), .int (if dv pp = true then 1 else 0)]) = M2
      have fM2_0 : M2 (ad pp) = some (hm_ob 2 [.int (nI (kd pp)), .int (nI pp), va_rf ((lf pp).map ad), va_rf ((rt pp).map ad), va_rf ((er pp).map ad), .ref q, va_rf ((pb pp).map ad), .int (if dv pp = true then 1 else 0)]) := by rw [← hM2]; exact hm_up_s _ _ _
      have hext := ts_ext (M' := M2) hX hI ok hq (by rw [← hM2, hm_up_n _ _ (Ne.symm (ts_ne hX hpp).1), hfr tm hlt1 hlt2 hlt3]; exact ht) (by rw [← hM2]; exact hR2.put (hld pp hpp).2.1 (fun _ => (hld pp hpp).2.2)) (by rw [← hM2, hm_up_n _ _ (Ne.symm (hld pp hpp).1), if_pos hk, hg]; exact hcq) (fun j hj => by
          by_cases e : j = pp
          · subst e
            rw [fM2_0]
            have hlr := hI.1 j hj
            have hul := tt_lu_lt hI.2.2.1 hj
            have e1 : tt_lu lu n k a b j = some n := by unfold tt_lu; rw [if_neg (by omega), if_pos ⟨hk, hg⟩]
            have e2 : tt_pb pb n k a j = pb j := by unfold tt_pb; rw [if_neg (by omega), if_neg (by omega)]
            unfold tt_c
            rw [e1, e2, om_up (fun x h => Nat.lt_trans (hlr.2.1 x h) hj), om_up (fun x h => Nat.lt_trans (hlr.2.2 x h) hj), om_up (fun x h => (hul.2 x h).1), om_up (fun x h => ((hI.2.1 j hj).2.2.2.2.2 x h).2.1)]
            show some (hm_ob 2 [_, _, _, _, _, .ref q, _, _]) = some (hm_ob 2 [_, _, _, _, _, va_rf (some (va_up ad n q n)), _, _])
            rw [va_up_self]
            rfl
          · rw [← hM2, hm_up_n _ _ (fun z => e (ts_inj hX hj hpp z)), hfr _ (hld j hj).1 (hld j hj).2.1 (hld j hj).2.2, hcell j hj]
            exact congrArg some (tt_old hI hj (fun z => e (Option.some.inj (hg.symm.trans z.2)).symm) (fun z => absurd z.1 (by omega))).symm) (fun z z1 z2 z3 z4 z5 => by rw [← hM2, hm_up_n _ _ (z5 pp hpp), hfr z z1 z2 z3]) hea hc
      
      refine hm_aload C nd_TS_made_83 rfl ?_
      refine hm_get C nF_TS_50 fM2_0 rfl nd_TS_made_85 ?_
      exact hm_aret (r := (some q)) C E (Or.inl ⟨_, rfl⟩) (by omega) (by omega) (⟨q, _, _, rfl, hext, ⟨n, by omega, (va_up_self _ _ _).symm, (va_up_self _ _ _).symm⟩, fun _ => ⟨by omega, (va_up_self _ _ _).symm, (va_up_self _ _ _).symm⟩⟩) nd_TS_made_88
    | some i =>
      refine hm_lv (lv' := [(5, .ref (ad i)), (4, .ref (ad pp)), (0, .ref tm), (1, .int (nI k)), (2, va_rf (a.map ad)), (3, va_rf (b.map ad))]) rfl ?_
      obtain ⟨hi1, hi2, hi3⟩ := tt_l_some hx9
      have hi : i < n := by omega
      have hci := hcell i hi
      unfold tt_c at hci
      have hil := hI.1 i hi
      have next : ¬ (kd i = k ∧ lf i = a ∧ rt i = b) → hm_W X M 0 0 56 [(5, .ref (ad i)), (4, .ref (ad pp)), (0, .ref tm), (1, .int (nI k)), (2, va_rf (a.map ad)), (3, va_rf (b.map ad))] [] := by
        intro hne
        refine hm_aload C nd_TS_made_56 rfl ?_
        refine hm_get C nF_TS_59 hci rfl nd_TS_made_58 ?_
        refine hm_astoreQ (r := ((er i).map ad)) C [(5, va_rf ((er i).map ad)), (4, .ref (ad pp)), (0, .ref tm), (1, .int (nI k)), (2, va_rf (a.map ad)), (3, va_rf (b.map ad))] nd_TS_made_61 (by decide) (by simp [hm_cat, hm_catI, hm_catR, hm_catN]) ?_
        refine hm_goto (tgt := 21) C nd_TS_made_63 (by decide) ?_
        have he : er i = tt_l kd lf rt pp i := by
          rw [(hI.2.2.1 i hi).2, if_pos hi2, hi3]
          rfl
        rw [he]
        refine ih i hi1 (by omega) (fun j hj1 hj2 => ?_)
        by_cases e : j = i
        · rw [e]; exact hne
        · rcases Nat.lt_or_ge j m with h | h
          · intro hh
            obtain ⟨z, hz, hz2⟩ := tt_l_max (kd := kd) (lf := lf) (rt := rt) (p := pp) h (by omega) (by rw [hh.2.1, hh.2.2]; exact hg)
            rw [hx9] at hz
            cases hz
            omega
          · exact hno j h hj2
      refine hm_aload C nd_TS_made_21 rfl ?_
      refine hm_ifnull (tgt := 66) (r := (some (ad i))) C nd_TS_made_23 (by decide) (fun h => by cases h) (fun _ => ?_)
      refine hm_aload C nd_TS_made_26 rfl ?_
      refine hm_get C nF_TS_53 hci rfl nd_TS_made_28 ?_
      refine hm_iload_n C nd_TS_made_31 rfl ?_
      refine hm_icmp_ne (tgt := 56) C nd_TS_made_32 (by decide) (fun c1 => ?_) (fun c1 => ?_)
      · exact next (fun h => c1 (by rw [h.1]))
      · refine hm_aload C nd_TS_made_35 rfl ?_
        refine hm_get C nF_TS_32 hci rfl nd_TS_made_37 ?_
        refine hm_aload_nQ (r := (a.map ad)) C nd_TS_made_40 rfl ?_
        refine hm_acmp_ne (tgt := 56) (rx := ((lf i).map ad)) (ry := (a.map ad)) C nd_TS_made_41 (by decide) (fun c2 => ?_) (fun c2 => ?_)
        · exact next (fun h => c2 (by rw [h.2.1]))
        · refine hm_aload C nd_TS_made_44 rfl ?_
          refine hm_get C nF_TS_56 hci rfl nd_TS_made_46 ?_
          refine hm_aload_nQ (r := (b.map ad)) C nd_TS_made_49 rfl ?_
          refine hm_acmp_ne (tgt := 56) (rx := ((rt i).map ad)) (ry := (b.map ad)) C nd_TS_made_50 (by decide) (fun c3 => ?_) (fun c3 => ?_)
          · exact next (fun h => c3 (by rw [h.2.2]))
          · have m1 : kd i = k := (nI_eq (by omega) (by omega)).mp c1
            have m2 : lf i = a := om_inj hX (fun j h => Nat.lt_trans (hil.2.1 j h) hi) ha c2
            have m3 : rt i = b := om_inj hX (fun j h => Nat.lt_trans (hil.2.2 j h) hi) hb c3
            have hv : sm_t k (tt_vo vl a) (tt_vo vl b) = vl i := by
              rw [hI.2.2.2.1.1 i hi (by omega), m1, m2, m3]
            have hkn : ts_k (fun a i v => i < n ∧ a = ad i ∧ v = vl i) (sm_t k (tt_vo vl a) (tt_vo vl b)) := ⟨_, i, hi, rfl, hv⟩
            refine hm_aload C nd_TS_made_53 rfl ?_
            exact hm_aret (r := (some (ad i))) C E (Or.inl ⟨_, rfl⟩) (by omega) (by omega) (⟨ad i, _, _, rfl, ts_P.old ⟨la, ea, ad, kd, lf, rt, er, lu, pb, dv, vl, hX, hI, rfl, rfl⟩ hkn, ⟨i, hi, rfl, hv⟩, fun h => absurd hkn h⟩) nd_TS_made_55
  refine hm_lv (lv' := [(0, .ref tm), (1, .int (nI k)), (2, va_rf (a.map ad)), (3, va_rf (b.map ad))]) (by simp [lv_args, hm_cat, hm_catI, hm_catR, hm_catN]) ?_
  refine hm_aload_nQ (r := (a.map ad)) C nd_TS_made_0 rfl ?_
  refine hm_aload_nQ (r := (b.map ad)) C nd_TS_made_1 rfl ?_
  refine hm_callS C (ct_TS_younger M n ad kd lf rt er lu pb dv hcell (by omega) a b ha hb) nV_TS_younger nq_TS_46 nu_TS_younger rfl (rest := []) rfl (Nat.le_of_ble_eq_true rfl) (by decide) (by decide) (by omega) (by omega) nd_TS_made_2 (fun r M1 hp => ?_)
  obtain ⟨rfl, eM1⟩ := hp
  rw [eM1]
  refine hm_stk (st' := [va_rf ((tt_g a b).map ad)]) rfl ?_
  refine hm_stk (st' := [.ref (ad pp)]) (by rw [hg]; rfl) ?_
  refine hm_astore C [(4, .ref (ad pp)), (0, .ref tm), (1, .int (nI k)), (2, va_rf (a.map ad)), (3, va_rf (b.map ad))] nd_TS_made_5 (by decide) (by simp [hm_cat, hm_catI, hm_catR, hm_catN]) ?_
  refine hm_aload C nd_TS_made_7 rfl ?_
  refine hm_ifnonnull (tgt := 14) (r := (some (ad pp))) C nd_TS_made_9 (by decide) (fun _ => ?_) (fun h => by cases h)
  refine hm_aload C nd_TS_made_14 rfl ?_
  refine hm_get C nF_TS_50 hcp rfl nd_TS_made_16 ?_
  refine hm_astoreQ (r := ((lu pp).map ad)) C [(5, va_rf ((lu pp).map ad)), (4, .ref (ad pp)), (0, .ref tm), (1, .int (nI k)), (2, va_rf (a.map ad)), (3, va_rf (b.map ad))] nd_TS_made_19 (by decide) (by simp [hm_cat, hm_catI, hm_catR, hm_catN]) ?_
  rw [(hI.2.2.1 pp hpp).1]
  exact loop n (Nat.le_refl n) (fun i h1 h2 => by omega)
