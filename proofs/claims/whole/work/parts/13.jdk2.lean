set_option maxHeartbeats 4000000 in
set_option maxRecDepth 100000 in
theorem ct_AL_add2_a {l : Launch} {D : va_G} {BG : Nat → Option Cell} (M : hm_M) (a ea c n : Nat) (g : Nat → Option Nat) (m : Int32) (ha : M a = some (hm_ob 0 [.ref ea, .int (nI n), .int m])) (hg : M ea = some (hm_ar D 0 c g)) (hn : n < c) (h4 : c ≤ 65536) (x ci : Nat) (vs : List Value) (rc : vw_C) (hx : M x = some (hm_ob ci vs)) (hrc : hm_cl[ci]? = some rc) (hca : Cond.castable rc.1 "java/lang/Object" ∈ lw_tbl) : hm_ct l D BG ny_AL_add2 prog_16_method_24_code 4 none 5 127 0 0 [.ref a, .ref x, .ref ea, .int (nI n)] M (fun r M' => r = none ∧ M' = hm_up (hm_up M ea (hm_ar D 0 c (va_up g n (some x)))) a (hm_ob 0 [.ref ea, .int (nI (n + 1)), .int m])) := by
  refine hm_ct_of (by decide +kernel) (by exact Nat.le_of_ble_eq_true rfl) ?_
  intro X C E
  have C : hm_C X l D BG prog_16_method_24_code "java/util/ArrayList" "add" 4 5 127 0 0 := C
  refine hm_lv (lv' := [(0, .ref a), (1, .ref x), (2, .ref ea), (3, .int (nI n))]) rfl ?_
  refine hm_iload_n C nd_AL_add2_0 rfl ?_
  refine hm_aload_n C nd_AL_add2_1 rfl ?_
  refine hm_alen C (t := 0) rfl hg nd_AL_add2_2 ?_
  refine hm_icmp_ne (tgt := 11) C nd_AL_add2_3 (by decide) (fun c1 => ?_) (fun c1 => absurd ((nI_eq (by omega) (by omega)).mp c1) (by omega))
  refine hm_aload_n C nd_AL_add2_11 rfl ?_
  refine hm_iload_n C nd_AL_add2_12 rfl ?_
  refine hm_aload_n C nd_AL_add2_13 rfl ?_
  refine hm_aast C (t := 0) rfl hg hx hrc (Or.inr hca) rfl hn (by omega) nd_AL_add2_14 ?_
  generalize hM1 : hm_up M ea (hm_ar D 0 c (va_up g n (some x))) = M1
  have fM1_0 : M1 a = some (hm_ob 0 [.ref ea, .int (nI n), .int m]) := by rw [← hM1, hm_up_n _ _ (hm_neA ha hg)]; exact ha
  have aM1_0 : M1 ea = some (hm_ar D 0 c (va_up g n (some x))) := by rw [← hM1]; exact hm_up_s _ _ _
  refine hm_aload_n C nd_AL_add2_15 rfl ?_
  refine hm_iload_n C nd_AL_add2_16 rfl ?_
  refine hm_iconst (v := 1) C nd_AL_add2_17 (by decide) ?_
  refine hm_iadd C nd_AL_add2_18 ?_
  rw [nI_1]
  refine hm_put C nF_AL_48 fM1_0 (Nat.le_of_ble_eq_true rfl) rfl rfl nd_AL_add2_19 ?_
  refine hm_eqM (M' := hm_up M1 a (hm_ob 0 [.ref ea, .int (nI (n + 1)), .int m])) rfl ?_
  generalize hM2 : hm_up M1 a (hm_ob 0 [.ref ea, .int (nI (n + 1)), .int m]) = M2
  have aM2_0 : M2 ea = some (hm_ar D 0 c (va_up g n (some x))) := by rw [← hM2, hm_up_n _ _ (Ne.symm (hm_neA fM1_0 aM1_0))]; exact aM1_0
  have fM2_0 : M2 a = some (hm_ob 0 [.ref ea, .int (nI (n + 1)), .int m]) := by rw [← hM2]; exact hm_up_s _ _ _
  exact hm_vret C E (by omega) (by omega) (⟨rfl, by rw [← hM2, ← hM1]⟩) nd_AL_add2_22
set_option maxHeartbeats 4000000 in
set_option maxRecDepth 100000 in
theorem ct_AL_add2_b {l : Launch} {D : va_G} {BG : Nat → Option Cell} (M : hm_M) (a : Nat) (m : Int32) (ha : M a = some (hm_ob 0 [.ref (D.2 999 0), .int (nI 0), .int m])) (x ci : Nat) (vs : List Value) (rc : vw_C) (hx : M x = some (hm_ob ci vs)) (hrc : hm_cl[ci]? = some rc) (hca : Cond.castable rc.1 "java/lang/Object" ∈ lw_tbl) : hm_ct l D BG ny_AL_add2 prog_16_method_24_code 4 none 5 127 1 10 [.ref a, .ref x, .ref (D.2 999 0), .int (nI 0)] M (fun r M' => ∃ q : Nat, r = none ∧ M q = none ∧ M' = hm_up (hm_up M q (hm_ar D 0 10 (va_up (fun _ => none) 0 (some x)))) a (hm_ob 0 [.ref q, .int (nI 1), .int m])) := by
  refine hm_ct_of (by decide +kernel) (by exact Nat.le_of_ble_eq_true rfl) ?_
  intro X C E
  have C : hm_C X l D BG prog_16_method_24_code "java/util/ArrayList" "add" 4 5 127 1 10 := C
  refine hm_lv (lv' := [(0, .ref a), (1, .ref x), (2, .ref (D.2 999 0)), (3, .int (nI 0))]) rfl ?_
  refine hm_iload_n C nd_AL_add2_0 rfl ?_
  refine hm_aload_n C nd_AL_add2_1 rfl ?_
  refine hm_alenE C nd_AL_add2_2 ?_
  refine hm_icmp_ne (tgt := 11) C nd_AL_add2_3 (by decide) (fun c1 => absurd rfl c1) (fun c1 => ?_)
  refine hm_aload_n C nd_AL_add2_6 rfl ?_
  refine hm_callV C (ct_AL_grow_a M a m ha) nV_AL_grow [] rfl ha rfl nq_AL_129 nj_AL_grow nx_AL_grow rfl (rest := []) rfl (Nat.le_of_ble_eq_true rfl) (by decide) (by decide) (by omega) (by omega) nd_AL_add2_7 (fun r M1 hp => ?_)
  obtain ⟨q, rfl, hq, e1⟩ := hp
  have h1 : M1 a = some (hm_ob 0 [.ref q, .int (nI 0), .int m]) := by rw [e1]; exact hm_up_s _ _ _
  have h2 : M1 q = some (hm_ar D 0 10 (fun _ => none)) := by rw [e1, hm_up_n _ _ (Ne.symm (hm_neF ha hq))]; exact hm_up_s _ _ _
  have h3 : M1 x = some (hm_ob ci vs) ∨ x = a := by
    by_cases hxa : x = a
    · exact Or.inr hxa
    · refine Or.inl ?_
      rw [e1, hm_up_n _ _ hxa, hm_up_n _ _ (hm_neF hx hq)]
      exact hx
  obtain ⟨ci2, vs2, rc2, k1, k2, k3⟩ : ∃ ci2 vs2 rc2, M1 x = some (hm_ob ci2 vs2) ∧ hm_cl[ci2]? = some rc2 ∧ Cond.castable rc2.1 "java/lang/Object" ∈ lw_tbl := by
    rcases h3 with h | h
    · exact ⟨ci, vs, rc, h, hrc, hca⟩
    · subst h
      cases ha.symm.trans hx
      exact ⟨_, _, rc, h1, hrc, hca⟩
  refine hm_stk (st' := [.ref q]) rfl ?_
  refine hm_astore_n C [(2, .ref q), (0, .ref a), (1, .ref x), (3, .int (nI 0))] nd_AL_add2_10 (by decide) rfl ?_
  refine hm_aload_n C nd_AL_add2_11 rfl ?_
  refine hm_iload_n C nd_AL_add2_12 rfl ?_
  refine hm_aload_n C nd_AL_add2_13 rfl ?_
  refine hm_aast C (t := 0) (j := 0) rfl h2 k1 k2 (Or.inr k3) rfl (by omega) (by omega) nd_AL_add2_14 ?_
  generalize hM2 : hm_up M1 q (hm_ar D 0 10 (va_up (fun _ => none) 0 (some x))) = M2
  have fM2_0 : M2 a = some (hm_ob 0 [.ref q, .int (nI 0), .int m]) := by rw [← hM2, hm_up_n _ _ (hm_neA h1 h2)]; exact h1
  have aM2_0 : M2 q = some (hm_ar D 0 10 (va_up (fun _ => none) 0 (some x))) := by rw [← hM2]; exact hm_up_s _ _ _
  refine hm_aload_n C nd_AL_add2_15 rfl ?_
  refine hm_iload_n C nd_AL_add2_16 rfl ?_
  refine hm_iconst (v := 1) C nd_AL_add2_17 (by decide) ?_
  refine hm_iadd C nd_AL_add2_18 ?_
  rw [nI_1]
  refine hm_put C nF_AL_48 fM2_0 (Nat.le_of_ble_eq_true rfl) rfl rfl nd_AL_add2_19 ?_
  refine hm_eqM (M' := hm_up M2 a (hm_ob 0 [.ref q, .int (nI (0 + 1)), .int m])) rfl ?_
  generalize hM3 : hm_up M2 a (hm_ob 0 [.ref q, .int (nI (0 + 1)), .int m]) = M3
  have aM3_0 : M3 q = some (hm_ar D 0 10 (va_up (fun _ => none) 0 (some x))) := by rw [← hM3, hm_up_n _ _ (Ne.symm (hm_neA fM2_0 aM2_0))]; exact aM2_0
  have fM3_0 : M3 a = some (hm_ob 0 [.ref q, .int (nI (0 + 1)), .int m]) := by rw [← hM3]; exact hm_up_s _ _ _
  exact hm_vret C E (by omega) (by omega) (⟨q, rfl, hq, by rw [← hM3, ← hM2, e1, hm_up_cm (Ne.symm (hm_neF ha hq)), hm_up_up, hm_up_up]⟩) nd_AL_add2_22
set_option maxHeartbeats 4000000 in
set_option maxRecDepth 100000 in
theorem ct_AL_add2_c {l : Launch} {D : va_G} {BG : Nat → Option Cell} (M : hm_M) (a ea c : Nat) (g : Nat → Option Nat) (m : Int32) (ha : M a = some (hm_ob 0 [.ref ea, .int (nI c), .int m])) (hg : M ea = some (hm_ar D 0 c g)) (hel : hm_el M c g) (h2 : 2 ≤ c) (h4 : c ≤ 40000) (x ci : Nat) (vs : List Value) (rc : vw_C) (hx : M x = some (hm_ob ci vs)) (hrc : hm_cl[ci]? = some rc) (hca : Cond.castable rc.1 "java/lang/Object" ∈ lw_tbl) : hm_ct l D BG ny_AL_add2 prog_16_method_24_code 4 none 5 127 1 (c + c / 2) [.ref a, .ref x, .ref ea, .int (nI c)] M (fun r M' => ∃ q : Nat, r = none ∧ M q = none ∧ M' = hm_up (hm_up M q (hm_ar D 0 (c + c / 2) (va_up (va_cpy g (fun _ => none) 0 0 c) c (some x)))) a (hm_ob 0 [.ref q, .int (nI (c + 1)), .int m])) := by
  refine hm_ct_of (by decide +kernel) (by exact Nat.le_of_ble_eq_true rfl) ?_
  intro X C E
  have C : hm_C X l D BG prog_16_method_24_code "java/util/ArrayList" "add" 4 5 127 1 (c + c / 2) := C
  refine hm_lv (lv' := [(0, .ref a), (1, .ref x), (2, .ref ea), (3, .int (nI c))]) rfl ?_
  refine hm_iload_n C nd_AL_add2_0 rfl ?_
  refine hm_aload_n C nd_AL_add2_1 rfl ?_
  refine hm_alen C (t := 0) rfl hg nd_AL_add2_2 ?_
  refine hm_icmp_ne (tgt := 11) C nd_AL_add2_3 (by decide) (fun c1 => absurd rfl c1) (fun c1 => ?_)
  refine hm_aload_n C nd_AL_add2_6 rfl ?_
  refine hm_callV C (ct_AL_grow_b M a ea c g m ha hg hel h2 h4) nV_AL_grow [] rfl ha rfl nq_AL_129 nj_AL_grow nx_AL_grow rfl (rest := []) rfl (Nat.le_of_ble_eq_true rfl) (by decide) (by decide) (by omega) (by omega) nd_AL_add2_7 (fun r M1 hp => ?_)
  obtain ⟨q, rfl, hq, e1⟩ := hp
  have h1 : M1 a = some (hm_ob 0 [.ref q, .int (nI c), .int m]) := by rw [e1]; exact hm_up_s _ _ _
  have h3 : M1 q = some (hm_ar D 0 (c + c / 2) (va_cpy g (fun _ => none) 0 0 c)) := by rw [e1, hm_up_n _ _ (Ne.symm (hm_neF ha hq))]; exact hm_up_s _ _ _
  obtain ⟨ci2, vs2, rc2, k1, k2, k3⟩ : ∃ ci2 vs2 rc2, M1 x = some (hm_ob ci2 vs2) ∧ hm_cl[ci2]? = some rc2 ∧ Cond.castable rc2.1 "java/lang/Object" ∈ lw_tbl := by
    by_cases hxa : x = a
    · subst hxa
      cases ha.symm.trans hx
      exact ⟨_, _, rc, h1, hrc, hca⟩
    · refine ⟨ci, vs, rc, ?_, hrc, hca⟩
      rw [e1, hm_up_n _ _ hxa, hm_up_n _ _ (hm_neF hx hq)]
      exact hx
  refine hm_stk (st' := [.ref q]) rfl ?_
  refine hm_astore_n C [(2, .ref q), (0, .ref a), (1, .ref x), (3, .int (nI c))] nd_AL_add2_10 (by decide) rfl ?_
  refine hm_aload_n C nd_AL_add2_11 rfl ?_
  refine hm_iload_n C nd_AL_add2_12 rfl ?_
  refine hm_aload_n C nd_AL_add2_13 rfl ?_
  refine hm_aast C (t := 0) (j := c) rfl h3 k1 k2 (Or.inr k3) rfl (by omega) (by omega) nd_AL_add2_14 ?_
  generalize hM2 : hm_up M1 q (hm_ar D 0 (c + c / 2) (va_up (va_cpy g (fun _ => none) 0 0 c) c (some x))) = M2
  have fM2_0 : M2 a = some (hm_ob 0 [.ref q, .int (nI c), .int m]) := by rw [← hM2, hm_up_n _ _ (hm_neA h1 h3)]; exact h1
  have aM2_0 : M2 q = some (hm_ar D 0 (c + c / 2) (va_up (va_cpy g (fun _ => none) 0 0 c) c (some x))) := by rw [← hM2]; exact hm_up_s _ _ _
  refine hm_aload_n C nd_AL_add2_15 rfl ?_
  refine hm_iload_n C nd_AL_add2_16 rfl ?_
  refine hm_iconst (v := 1) C nd_AL_add2_17 (by decide) ?_
  refine hm_iadd C nd_AL_add2_18 ?_
  rw [nI_1]
  refine hm_put C nF_AL_48 fM2_0 (Nat.le_of_ble_eq_true rfl) rfl rfl nd_AL_add2_19 ?_
  refine hm_eqM (M' := hm_up M2 a (hm_ob 0 [.ref q, .int (nI (c + 1)), .int m])) rfl ?_
  generalize hM3 : hm_up M2 a (hm_ob 0 [.ref q, .int (nI (c + 1)), .int m]) = M3
  have aM3_0 : M3 q = some (hm_ar D 0 (c + c / 2) (va_up (va_cpy g (fun _ => none) 0 0 c) c (some x))) := by rw [← hM3, hm_up_n _ _ (Ne.symm (hm_neA fM2_0 aM2_0))]; exact aM2_0
  have fM3_0 : M3 a = some (hm_ob 0 [.ref q, .int (nI (c + 1)), .int m]) := by rw [← hM3]; exact hm_up_s _ _ _
  exact hm_vret C E (by omega) (by omega) (⟨q, rfl, hq, by rw [← hM3, ← hM2, e1, hm_up_cm (Ne.symm (hm_neF ha hq)), hm_up_up, hm_up_up]⟩) nd_AL_add2_22
set_option maxHeartbeats 4000000 in
set_option maxRecDepth 100000 in
/-- ArrayList.add(x) -/
theorem ct_AL_add {l : Launch} {D : va_G} {BG : Nat → Option Cell} (M : hm_M) (a ea c n : Nat) (f : Nat → Nat) (hR : li_R D M a ea c n f) (hE : li_E M n f) (h4 : c ≤ 40000) (x ci : Nat) (vs : List Value) (rc : vw_C) (hx : M x = some (hm_ob ci vs)) (hrc : hm_cl[ci]? = some rc) (hca : Cond.castable rc.1 "java/lang/Object" ∈ lw_tbl) : hm_ct l D BG ny_AL_add prog_16_method_25_code 2 (some .boolean) 6 150 (li_c c n - c) (4 * (li_c c n - c)) [.ref a, .ref x] M (fun r M' => r = some (.int 1) ∧ ∃ ea' : Nat, li_R D M' a ea' (li_c c n) (n + 1) (va_up f n x) ∧ (∀ q, q ≠ a → q ≠ ea' → M' q = M q) ∧ ((ea' = ea ∧ n < c) ∨ M ea' = none)) := by
  obtain ⟨m, ha, hnc, h⟩ := hR
  rcases h with ⟨rfl, rfl⟩ | ⟨h2, g, hg, hf, hno⟩
  · have hn0 : n = 0 := by omega
    subst hn0
    have hc : li_c 0 0 = 10 := rfl
    refine hm_ct_of (by decide +kernel) (by exact Nat.le_of_ble_eq_true rfl) ?_
    intro X C E
    have C : hm_C X l D BG prog_16_method_25_code "java/util/ArrayList" "add" 2 6 150 (li_c 0 0 - 0) (4 * (li_c 0 0 - 0)) := C
    refine hm_lv (lv' := [(0, .ref a), (1, .ref x)]) rfl ?_
    refine hm_aload_n C nd_AL_add_0 rfl ?_
    refine hm_dup C nd_AL_add_1 rfl ?_
    refine hm_get C nF_AL_63 ha rfl nd_AL_add_2 ?_
    refine hm_iconst (v := 1) C nd_AL_add_5 (by decide) ?_
    refine hm_iadd C nd_AL_add_6 ?_
    refine hm_put C nF_AL_63 ha (Nat.le_of_ble_eq_true rfl) rfl rfl nd_AL_add_7 ?_
    refine hm_eqM (M' := hm_up M a (hm_ob 0 [.ref (D.2 999 0), .int (nI 0), .int (m + 1)])) rfl ?_
    generalize hM1 : hm_up M a (hm_ob 0 [.ref (D.2 999 0), .int (nI 0), .int (m + 1)]) = M1
    have fM1_0 : M1 a = some (hm_ob 0 [.ref (D.2 999 0), .int (nI 0), .int (m + 1)]) := by rw [← hM1]; exact hm_up_s _ _ _
    obtain ⟨ci2, vs2, rc2, k1, k2, k3⟩ : ∃ ci2 vs2 rc2, M1 x = some (hm_ob ci2 vs2) ∧ hm_cl[ci2]? = some rc2 ∧ Cond.castable rc2.1 "java/lang/Object" ∈ lw_tbl := by
      by_cases hxa : x = a
      · subst hxa
        cases ha.symm.trans hx
        exact ⟨_, _, rc, fM1_0, hrc, hca⟩
      · exact ⟨ci, vs, rc, by rw [← hM1, hm_up_n _ _ hxa]; exact hx, hrc, hca⟩
    refine hm_aload_n C nd_AL_add_10 rfl ?_
    refine hm_aload_n C nd_AL_add_11 rfl ?_
    refine hm_aload_n C nd_AL_add_12 rfl ?_
    refine hm_get C nF_AL_9 fM1_0 rfl nd_AL_add_13 ?_
    refine hm_aload_n C nd_AL_add_16 rfl ?_
    refine hm_get C nF_AL_48 fM1_0 rfl nd_AL_add_17 ?_
    refine hm_callV C (ct_AL_add2_b M1 a (m + 1) fM1_0 x ci2 vs2 rc2 k1 k2 k3) nV_AL_add2 [.ref x, .ref (D.2 999 0), .int (nI 0)] rfl fM1_0 rfl nq_AL_131 nj_AL_add2 nx_AL_add2 rfl (rest := []) rfl (Nat.le_of_ble_eq_true rfl) (by decide) (by decide) (by omega) (by omega) nd_AL_add_20 (fun r M2 hp => ?_)
    obtain ⟨q, rfl, hq, e2⟩ := hp
    have hqa : q ≠ a := fun e => by rw [e, ← hM1, hm_up_s] at hq; cases hq
    rw [← hM1, hm_up_n _ _ hqa] at hq
    have e3 : M2 = hm_up (hm_up M q (hm_ar D 0 10 (va_up (fun _ => none) 0 (some x)))) a (hm_ob 0 [.ref q, .int (nI 1), .int (m + 1)]) := by rw [e2, ← hM1, hm_up_cm hqa, hm_up_up]
    clear hM1 e2
    subst e3
    refine hm_stk (st' := []) rfl ?_
    refine hm_iconst (v := 1) C nd_AL_add_23 (by decide) ?_
    exact hm_zret C E (by first | exact Or.inl rfl | exact Or.inr rfl) (by omega) (by omega) (⟨rfl, q, ⟨m + 1, hm_up_s _ _ _, by rw [hc]; omega, Or.inr ⟨by rw [hc]; omega, _, by rw [hm_up_n _ _ hqa, hc]; exact hm_up_s _ _ _, fun i hi => (by
        have i0 : i = 0 := by omega
        subst i0
        rw [va_up_self, va_up_self]), fun i hi => (by rw [va_up_ne _ _ (show i ≠ 0 by omega)])⟩⟩, fun z z1 z2 => by rw [hm_up_n _ _ z1, hm_up_n _ _ z2], Or.inr hq⟩) nd_AL_add_24
  · by_cases hn : n < c
    · have hc : li_c c n = c := if_neg (by omega)
      refine hm_ct_of (by decide +kernel) (by exact Nat.le_of_ble_eq_true rfl) ?_
      intro X C E
      have C : hm_C X l D BG prog_16_method_25_code "java/util/ArrayList" "add" 2 6 150 (li_c c n - c) (4 * (li_c c n - c)) := C
      refine hm_lv (lv' := [(0, .ref a), (1, .ref x)]) rfl ?_
      refine hm_aload_n C nd_AL_add_0 rfl ?_
      refine hm_dup C nd_AL_add_1 rfl ?_
      refine hm_get C nF_AL_63 ha rfl nd_AL_add_2 ?_
      refine hm_iconst (v := 1) C nd_AL_add_5 (by decide) ?_
      refine hm_iadd C nd_AL_add_6 ?_
      refine hm_put C nF_AL_63 ha (Nat.le_of_ble_eq_true rfl) rfl rfl nd_AL_add_7 ?_
      refine hm_eqM (M' := hm_up M a (hm_ob 0 [.ref ea, .int (nI n), .int (m + 1)])) rfl ?_
      generalize hM1 : hm_up M a (hm_ob 0 [.ref ea, .int (nI n), .int (m + 1)]) = M1
      have aM1_0 : M1 ea = some (hm_ar D 0 c g) := by rw [← hM1, hm_up_n _ _ (Ne.symm (hm_neA ha hg))]; exact hg
      have fM1_0 : M1 a = some (hm_ob 0 [.ref ea, .int (nI n), .int (m + 1)]) := by rw [← hM1]; exact hm_up_s _ _ _
      obtain ⟨ci2, vs2, rc2, k1, k2, k3⟩ : ∃ ci2 vs2 rc2, M1 x = some (hm_ob ci2 vs2) ∧ hm_cl[ci2]? = some rc2 ∧ Cond.castable rc2.1 "java/lang/Object" ∈ lw_tbl := by
        by_cases hxa : x = a
        · subst hxa
          cases ha.symm.trans hx
          exact ⟨_, _, rc, fM1_0, hrc, hca⟩
        · exact ⟨ci, vs, rc, by rw [← hM1, hm_up_n _ _ hxa]; exact hx, hrc, hca⟩
      refine hm_aload_n C nd_AL_add_10 rfl ?_
      refine hm_aload_n C nd_AL_add_11 rfl ?_
      refine hm_aload_n C nd_AL_add_12 rfl ?_
      refine hm_get C nF_AL_9 fM1_0 rfl nd_AL_add_13 ?_
      refine hm_aload_n C nd_AL_add_16 rfl ?_
      refine hm_get C nF_AL_48 fM1_0 rfl nd_AL_add_17 ?_
      refine hm_callV C (ct_AL_add2_a M1 a ea c n g (m + 1) fM1_0 aM1_0 hn (by omega) x ci2 vs2 rc2 k1 k2 k3) nV_AL_add2 [.ref x, .ref ea, .int (nI n)] rfl fM1_0 rfl nq_AL_131 nj_AL_add2 nx_AL_add2 rfl (rest := []) rfl (Nat.le_of_ble_eq_true rfl) (by decide) (by decide) (by omega) (by omega) nd_AL_add_20 (fun r M2 hp => ?_)
      obtain ⟨rfl, e2⟩ := hp
      have hea : ea ≠ a := Ne.symm (hm_neA ha hg)
      have e3 : M2 = hm_up (hm_up M ea (hm_ar D 0 c (va_up g n (some x)))) a (hm_ob 0 [.ref ea, .int (nI (n + 1)), .int (m + 1)]) := by rw [e2, ← hM1, hm_up_cm hea, hm_up_up]
      clear hM1 e2
      subst e3
      refine hm_stk (st' := []) rfl ?_
      refine hm_iconst (v := 1) C nd_AL_add_23 (by decide) ?_
      exact hm_zret C E (by first | exact Or.inl rfl | exact Or.inr rfl) (by omega) (by omega) (⟨rfl, ea, ⟨m + 1, hm_up_s _ _ _, by rw [hc]; omega, Or.inr ⟨by rw [hc]; omega, _, by rw [hm_up_n _ _ hea, hc]; exact hm_up_s _ _ _, fun i hi => (by
          by_cases hin : i = n
          · subst hin
            rw [va_up_self, va_up_self]
          · rw [va_up_ne _ _ hin, va_up_ne _ _ hin]
            exact hf i (by omega)), fun i hi => (by rw [va_up_ne _ _ (by omega)]; exact hno i (by omega))⟩⟩, fun z z1 z2 => by rw [hm_up_n _ _ z1, hm_up_n _ _ z2], Or.inl ⟨rfl, hn⟩⟩) nd_AL_add_24
    · have hnn : n = c := by omega
      subst hnn
      have hc : li_c n n = n + n / 2 := by unfold li_c; rw [if_pos rfl, if_neg (by omega)]
      refine hm_ct_of (by decide +kernel) (by exact Nat.le_of_ble_eq_true rfl) ?_
      intro X C E
      have C : hm_C X l D BG prog_16_method_25_code "java/util/ArrayList" "add" 2 6 150 (li_c n n - n) (4 * (li_c n n - n)) := C
      refine hm_lv (lv' := [(0, .ref a), (1, .ref x)]) rfl ?_
      refine hm_aload_n C nd_AL_add_0 rfl ?_
      refine hm_dup C nd_AL_add_1 rfl ?_
      refine hm_get C nF_AL_63 ha rfl nd_AL_add_2 ?_
      refine hm_iconst (v := 1) C nd_AL_add_5 (by decide) ?_
      refine hm_iadd C nd_AL_add_6 ?_
      refine hm_put C nF_AL_63 ha (Nat.le_of_ble_eq_true rfl) rfl rfl nd_AL_add_7 ?_
      refine hm_eqM (M' := hm_up M a (hm_ob 0 [.ref ea, .int (nI n), .int (m + 1)])) rfl ?_
      generalize hM1 : hm_up M a (hm_ob 0 [.ref ea, .int (nI n), .int (m + 1)]) = M1
      have aM1_0 : M1 ea = some (hm_ar D 0 n g) := by rw [← hM1, hm_up_n _ _ (Ne.symm (hm_neA ha hg))]; exact hg
      have fM1_0 : M1 a = some (hm_ob 0 [.ref ea, .int (nI n), .int (m + 1)]) := by rw [← hM1]; exact hm_up_s _ _ _
      obtain ⟨ci2, vs2, rc2, k1, k2, k3⟩ : ∃ ci2 vs2 rc2, M1 x = some (hm_ob ci2 vs2) ∧ hm_cl[ci2]? = some rc2 ∧ Cond.castable rc2.1 "java/lang/Object" ∈ lw_tbl := by
        by_cases hxa : x = a
        · subst hxa
          cases ha.symm.trans hx
          exact ⟨_, _, rc, fM1_0, hrc, hca⟩
        · exact ⟨ci, vs, rc, by rw [← hM1, hm_up_n _ _ hxa]; exact hx, hrc, hca⟩
      have hel1 : hm_el M1 n g := by
        intro i hi y hy
        obtain ⟨cj, vj, rj, m1, m2, m3⟩ := hE i hi
        have hyf : y = f i := Option.some.inj (hy.symm.trans (hf i hi))
        rw [← hyf] at m1
        by_cases hya : y = a
        · subst hya
          cases ha.symm.trans m1
          exact ⟨_, _, rj, fM1_0, m2, m3⟩
        · exact ⟨cj, vj, rj, by rw [← hM1, hm_up_n _ _ hya]; exact m1, m2, m3⟩
      refine hm_aload_n C nd_AL_add_10 rfl ?_
      refine hm_aload_n C nd_AL_add_11 rfl ?_
      refine hm_aload_n C nd_AL_add_12 rfl ?_
      refine hm_get C nF_AL_9 fM1_0 rfl nd_AL_add_13 ?_
      refine hm_aload_n C nd_AL_add_16 rfl ?_
      refine hm_get C nF_AL_48 fM1_0 rfl nd_AL_add_17 ?_
      refine hm_callV C (ct_AL_add2_c M1 a ea n g (m + 1) fM1_0 aM1_0 hel1 h2 h4 x ci2 vs2 rc2 k1 k2 k3) nV_AL_add2 [.ref x, .ref ea, .int (nI n)] rfl fM1_0 rfl nq_AL_131 nj_AL_add2 nx_AL_add2 rfl (rest := []) rfl (Nat.le_of_ble_eq_true rfl) (by decide) (by decide) (by omega) (by omega) nd_AL_add_20 (fun r M2 hp => ?_)
      obtain ⟨q, rfl, hq, e2⟩ := hp
      have hqa : q ≠ a := fun e => by rw [e, ← hM1, hm_up_s] at hq; cases hq
      rw [← hM1, hm_up_n _ _ hqa] at hq
      have e3 : M2 = hm_up (hm_up M q (hm_ar D 0 (n + n / 2) (va_up (va_cpy g (fun _ => none) 0 0 n) n (some x)))) a (hm_ob 0 [.ref q, .int (nI (n + 1)), .int (m + 1)]) := by rw [e2, ← hM1, hm_up_cm hqa, hm_up_up]
      clear hM1 e2
      subst e3
      refine hm_stk (st' := []) rfl ?_
      refine hm_iconst (v := 1) C nd_AL_add_23 (by decide) ?_
      exact hm_zret C E (by first | exact Or.inl rfl | exact Or.inr rfl) (by omega) (by omega) (⟨rfl, q, ⟨m + 1, hm_up_s _ _ _, by rw [hc]; omega, Or.inr ⟨by rw [hc]; omega, _, by rw [hm_up_n _ _ hqa, hc]; exact hm_up_s _ _ _, fun i hi => (by
          by_cases hin : i = n
          · subst hin
            rw [va_up_self, va_up_self]
          · rw [va_up_ne _ _ hin, va_up_ne _ _ hin, pk_cpy_in (Nat.zero_le _) (by omega)]
            rw [Nat.zero_add, Nat.sub_zero]
            exact hf i (by omega)), fun i hi => (by rw [va_up_ne _ _ (by omega), pk_cpy_out (Or.inr (by omega))])⟩⟩, fun z z1 z2 => by rw [hm_up_n _ _ z1, hm_up_n _ _ z2], Or.inr hq⟩) nd_AL_add_24
