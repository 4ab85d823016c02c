theorem rf_33 (j k : Nat) : (33 : Int32) * nI j + nI k = nI (33 * j + k) := by
  rw [show (33 : Int32) = nI 33 from rfl, pk_mul, nI_add]
theorem rf_9 (k : Nat) : (9 : Int32) + 3 * nI k = nI (9 + 3 * k) := by
  rw [show (9 : Int32) = nI 9 from rfl, show (3 : Int32) = nI 3 from rfl, pk_mul, nI_add]
theorem nI_2 (a : Nat) : nI a + 2 = nI (a + 2) := nI_add a 2
theorem nI_3 (a : Nat) : nI a + 3 = nI (a + 3) := nI_add a 3
theorem nI_5 (a : Nat) : nI a + 5 = nI (a + 5) := nI_add a 5
theorem nI_m1 {a : Nat} (h : 1 ≤ a) : nI a - 1 = nI (a - 1) := pk_sub (a := a) (b := 1) h
set_option maxHeartbeats 4000000 in
set_option maxRecDepth 100000 in
theorem ct_MO_isEnd_in {l : Launch} {D : va_G} {BG : Nat → Option Cell} (M : hm_M) (j : Nat) (hj : j < 2) : hm_ct l D BG ny_MO_isEnd prog_8_method_14_code 1 (some .boolean) 0 0 0 0 [.int (nI j)] M (fun r M' => r = some (.int 1) ∧ M' = M) := by
  refine hm_ct_of (by decide +kernel) (by exact Nat.le_of_ble_eq_true rfl) ?_
  intro X C E
  have C : hm_C X l D BG prog_8_method_14_code "TurnedKeysModel" "isEnd" 1 0 0 0 0 := C
  refine hm_lv (lv' := [(0, .int (nI j))]) rfl ?_
  refine hm_iload_n C nd_MO_isEnd_0 rfl ?_
  refine hm_if_eq (tgt := 9) C nd_MO_isEnd_1 (by decide) (fun c1 => ?_) (fun c1 => ?_)
  · refine hm_iconst (v := 1) C nd_MO_isEnd_9 (by decide) ?_
    refine hm_goto (tgt := 14) C nd_MO_isEnd_10 (by decide) ?_
    exact hm_zret C E (by first | exact Or.inl rfl | exact Or.inr rfl) (by omega) (by omega) (⟨rfl, rfl⟩) nd_MO_isEnd_14
  · refine hm_iload_n C nd_MO_isEnd_4 rfl ?_
    refine hm_iconst (v := 1) C nd_MO_isEnd_5 (by decide) ?_
    refine hm_icmp_ne (tgt := 13) C nd_MO_isEnd_6 (by decide) (fun c2 => (c2 (show nI j = 1 from by rw [show j = 1 from by have h8 : j ≠ 0 := fun z => c1 (by rw [z]; rfl); omega]; rfl)).elim) (fun c2 => ?_)
    refine hm_iconst (v := 1) C nd_MO_isEnd_9 (by decide) ?_
    refine hm_goto (tgt := 14) C nd_MO_isEnd_10 (by decide) ?_
    exact hm_zret C E (by first | exact Or.inl rfl | exact Or.inr rfl) (by omega) (by omega) (⟨rfl, rfl⟩) nd_MO_isEnd_14
set_option maxHeartbeats 4000000 in
set_option maxRecDepth 100000 in
theorem ct_MO_isEnd_out {l : Launch} {D : va_G} {BG : Nat → Option Cell} (M : hm_M) (e : Int32) (he : e < 0 ∨ nI 2 ≤ e) : hm_ct l D BG ny_MO_isEnd prog_8_method_14_code 1 (some .boolean) 0 0 0 0 [.int e] M (fun r M' => r = some (.int 0) ∧ M' = M) := by
  refine hm_ct_of (by decide +kernel) (by exact Nat.le_of_ble_eq_true rfl) ?_
  intro X C E
  have C : hm_C X l D BG prog_8_method_14_code "TurnedKeysModel" "isEnd" 1 0 0 0 0 := C
  refine hm_lv (lv' := [(0, .int e)]) rfl ?_
  have h0 : ∀ k : Nat, k < 2 → e ≠ nI k := by
    intro k hk q
    rcases he with h | h
    · rw [q] at h; exact absurd h (nI_pos (by omega))
    · rw [q] at h; exact absurd h (nI_ge hk (by omega))
  refine hm_iload_n C nd_MO_isEnd_0 rfl ?_
  refine hm_if_eq (tgt := 9) C nd_MO_isEnd_1 (by decide) (fun c1 => (h0 0 (by omega) c1).elim) (fun c1 => ?_)
  refine hm_iload_n C nd_MO_isEnd_4 rfl ?_
  refine hm_iconst (v := 1) C nd_MO_isEnd_5 (by decide) ?_
  refine hm_icmp_ne (tgt := 13) C nd_MO_isEnd_6 (by decide) (fun c2 => ?_) (fun c2 => (h0 1 (by omega) c2).elim)
  refine hm_iconst (v := 0) C nd_MO_isEnd_13 (by decide) ?_
  exact hm_zret C E (by first | exact Or.inl rfl | exact Or.inr rfl) (by omega) (by omega) (⟨rfl, rfl⟩) nd_MO_isEnd_14
set_option maxHeartbeats 4000000 in
set_option maxRecDepth 100000 in
theorem ct_MO_load {l : Launch} {D : va_G} {BG : Nat → Option Cell} (m : Nat) (A : Nat → Nat) (hA : rf_ok A m) (sc : Nat → Int32) (ar : Nat → Nat → Int32) (j : Nat) (hj : j < 2) : hm_ct l D BG ny_MO_load prog_8_method_15_code 3 none 0 0 0 0 [.ref m, .int (nI j)] (rf_M D m A sc ar) (fun r M' => r = none ∧ ∃ ar', M' = rf_M D m A sc ar' ∧ ((∀ i, i ≠ 15 → ar' i = ar i) ∧ (∀ i, i < 33 → ar' 15 (i) = ar 13 (33 * j + i)))) := by
  refine hm_ct_of (by decide +kernel) (by exact Nat.le_of_ble_eq_true rfl) ?_
  intro X C E
  have C : hm_C X l D BG prog_8_method_15_code "TurnedKeysModel" "load" 3 0 0 0 0 := C
  refine hm_lv (lv' := [(0, .ref m), (1, .int (nI j))]) rfl ?_
  have loop : ∀ (u k : Nat) (art : Nat → Nat → Int32), k + u = 33 → ((∀ i, i ≠ 15 → art i = ar i) ∧ (∀ i, i < k → art 15 (i) = ar 13 (33 * j + i))) → hm_W X (rf_M D m A sc art) 0 0 2 [(2, .int (nI k)), (0, .ref m), (1, .int (nI j))] [] := by
    intro u
    induction u with
    | zero =>
        intro k art hu hI
        refine hm_iload_n C nd_MO_load_2 rfl ?_
        refine hm_bipush (v := 33) C nd_MO_load_3 (by decide) ?_
        refine hm_stk (st' := [.int (nI 33), .int (nI k)]) rfl ?_
        have hk : k = 33 := by omega
        refine hm_icmp_ge (tgt := 31) C nd_MO_load_5 (by decide) (fun c1 => ?_) (fun c1 => absurd (show nI 33 ≤ nI k from nI_le (by omega) (by omega)) c1)
        exact hm_vret C E (by omega) (by omega) (⟨rfl, art, rfl, by rw [hk] at hI; exact hI⟩) nd_MO_load_31
    | succ u ih =>
        intro k art hu hI
        refine hm_iload_n C nd_MO_load_2 rfl ?_
        refine hm_bipush (v := 33) C nd_MO_load_3 (by decide) ?_
        refine hm_stk (st' := [.int (nI 33), .int (nI k)]) rfl ?_
        refine hm_icmp_ge (tgt := 31) C nd_MO_load_5 (by decide) (fun c1 => absurd c1 (nI_ge (by omega) (by omega))) (fun c1 => ?_)
        refine hm_aload_n C nd_MO_load_8 rfl ?_
        refine hm_get C nF_MO_66 rf_m rfl nd_MO_load_9 ?_
        refine hm_iload_n C nd_MO_load_12 rfl ?_
        refine hm_aload_n C nd_MO_load_13 rfl ?_
        refine hm_get C nF_MO_60 rf_m rfl nd_MO_load_14 ?_
        refine hm_bipush (v := 33) C nd_MO_load_17 (by decide) ?_
        refine hm_iload_n C nd_MO_load_19 rfl ?_
        refine hm_imul C nd_MO_load_20 ?_
        refine hm_iload_n C nd_MO_load_21 rfl ?_
        refine hm_iadd C nd_MO_load_22 ?_
        refine hm_stk (st' := [.int (nI (33 * j + k)), .ref (A 13), .int (nI k), .ref (A 15)]) (by rw [rf_33]) ?_
        refine hm_iald (t := 3) (N := 66) (j := 33 * j + k) (f := (art 13)) C rfl (rf_at hA (i := 13) (by decide)) rfl (by omega) (by decide) nd_MO_load_23 ?_
        refine hm_iast (t := 3) (N := 33) (j := k) (f := (art 15)) C rfl (rf_at hA (i := 15) (by decide)) rfl (by omega) (by decide) nd_MO_load_24 ?_
        refine hm_eqM (rf_up hA (i := 15) (by decide) (upd (art 15) k ((art 13) (33 * j + k)))) ?_
        refine hm_iinc (x := (nI k)) (v := ((nI k) + 1)) C [(2, .int ((nI k) + 1)), (0, .ref m), (1, .int (nI j))] nd_MO_load_25 rfl rfl (by decide) rfl ?_
        refine hm_goto (tgt := 2) C nd_MO_load_28 (by decide) ?_
        refine hm_less (lv' := [(2, .int (nI (k + 1))), (0, .ref m), (1, .int (nI j))]) (fun z hz => by simp only [List.mem_cons, List.not_mem_nil, or_false, nI_1] at hz ⊢; rcases hz with h | h | h <;> subst h <;> simp [nI_0]) ?_
        exact ih (k + 1) _ (by omega) ⟨fun i hi => (va_up_ne _ _ hi).trans (hI.1 i hi), fun i hi => (by rw [va_up_self]; by_cases c : i = k; rw [c, pk_us, hI.1 13 (by decide)]; rw [pk_un (by omega)]; exact hI.2 i (by omega))⟩
  refine hm_iconst (v := 0) C nd_MO_load_0 (by decide) ?_
  refine hm_istore_n C [(2, .int 0), (0, .ref m), (1, .int (nI j))] nd_MO_load_1 (by decide) rfl ?_
  refine hm_less (lv' := [(2, .int (nI 0)), (0, .ref m), (1, .int (nI j))]) (fun z hz => by simp only [List.mem_cons, List.not_mem_nil, or_false] at hz ⊢; rcases hz with h | h | h <;> subst h <;> simp [nI_0]) ?_
  exact loop 33 0 ar (by omega) ⟨fun _ _ => rfl, fun i hi => by omega⟩
set_option maxHeartbeats 4000000 in
set_option maxRecDepth 100000 in
theorem ct_MO_store {l : Launch} {D : va_G} {BG : Nat → Option Cell} (m : Nat) (A : Nat → Nat) (hA : rf_ok A m) (sc : Nat → Int32) (ar : Nat → Nat → Int32) (j : Nat) (hj : j < 2) : hm_ct l D BG ny_MO_store prog_8_method_16_code 3 none 0 0 0 0 [.ref m, .int (nI j)] (rf_M D m A sc ar) (fun r M' => r = none ∧ ∃ ar', M' = rf_M D m A sc ar' ∧ ((∀ i, i ≠ 13 → ar' i = ar i) ∧ (∀ i, i < 33 → ar' 13 (33 * j + i) = ar 15 (i)) ∧ ∀ i, i < 33 * j ∨ 33 * j + 33 ≤ i → ar' 13 i = ar 13 i)) := by
  refine hm_ct_of (by decide +kernel) (by exact Nat.le_of_ble_eq_true rfl) ?_
  intro X C E
  have C : hm_C X l D BG prog_8_method_16_code "TurnedKeysModel" "store" 3 0 0 0 0 := C
  refine hm_lv (lv' := [(0, .ref m), (1, .int (nI j))]) rfl ?_
  have loop : ∀ (u k : Nat) (art : Nat → Nat → Int32), k + u = 33 → ((∀ i, i ≠ 13 → art i = ar i) ∧ (∀ i, i < k → art 13 (33 * j + i) = ar 15 (i)) ∧ ∀ i, i < 33 * j ∨ 33 * j + k ≤ i → art 13 i = ar 13 i) → hm_W X (rf_M D m A sc art) 0 0 2 [(2, .int (nI k)), (0, .ref m), (1, .int (nI j))] [] := by
    intro u
    induction u with
    | zero =>
        intro k art hu hI
        refine hm_iload_n C nd_MO_store_2 rfl ?_
        refine hm_bipush (v := 33) C nd_MO_store_3 (by decide) ?_
        refine hm_stk (st' := [.int (nI 33), .int (nI k)]) rfl ?_
        have hk : k = 33 := by omega
        refine hm_icmp_ge (tgt := 31) C nd_MO_store_5 (by decide) (fun c1 => ?_) (fun c1 => absurd (show nI 33 ≤ nI k from nI_le (by omega) (by omega)) c1)
        exact hm_vret C E (by omega) (by omega) (⟨rfl, art, rfl, by rw [hk] at hI; exact hI⟩) nd_MO_store_31
    | succ u ih =>
        intro k art hu hI
        refine hm_iload_n C nd_MO_store_2 rfl ?_
        refine hm_bipush (v := 33) C nd_MO_store_3 (by decide) ?_
        refine hm_stk (st' := [.int (nI 33), .int (nI k)]) rfl ?_
        refine hm_icmp_ge (tgt := 31) C nd_MO_store_5 (by decide) (fun c1 => absurd c1 (nI_ge (by omega) (by omega))) (fun c1 => ?_)
        refine hm_aload_n C nd_MO_store_8 rfl ?_
        refine hm_get C nF_MO_60 rf_m rfl nd_MO_store_9 ?_
        refine hm_bipush (v := 33) C nd_MO_store_12 (by decide) ?_
        refine hm_iload_n C nd_MO_store_14 rfl ?_
        refine hm_imul C nd_MO_store_15 ?_
        refine hm_iload_n C nd_MO_store_16 rfl ?_
        refine hm_iadd C nd_MO_store_17 ?_
        refine hm_stk (st' := [.int (nI (33 * j + k)), .ref (A 13)]) (by rw [rf_33]) ?_
        refine hm_aload_n C nd_MO_store_18 rfl ?_
        refine hm_get C nF_MO_66 rf_m rfl nd_MO_store_19 ?_
        refine hm_iload_n C nd_MO_store_22 rfl ?_
        refine hm_iald (t := 3) (N := 33) (j := k) (f := (art 15)) C rfl (rf_at hA (i := 15) (by decide)) rfl (by omega) (by decide) nd_MO_store_23 ?_
        refine hm_iast (t := 3) (N := 66) (j := 33 * j + k) (f := (art 13)) C rfl (rf_at hA (i := 13) (by decide)) rfl (by omega) (by decide) nd_MO_store_24 ?_
        refine hm_eqM (rf_up hA (i := 13) (by decide) (upd (art 13) (33 * j + k) ((art 15) k))) ?_
        refine hm_iinc (x := (nI k)) (v := ((nI k) + 1)) C [(2, .int ((nI k) + 1)), (0, .ref m), (1, .int (nI j))] nd_MO_store_25 rfl rfl (by decide) rfl ?_
        refine hm_goto (tgt := 2) C nd_MO_store_28 (by decide) ?_
        refine hm_less (lv' := [(2, .int (nI (k + 1))), (0, .ref m), (1, .int (nI j))]) (fun z hz => by simp only [List.mem_cons, List.not_mem_nil, or_false, nI_1] at hz ⊢; rcases hz with h | h | h <;> subst h <;> simp [nI_0]) ?_
        exact ih (k + 1) _ (by omega) ⟨fun i hi => (va_up_ne _ _ hi).trans (hI.1 i hi), fun i hi => (by rw [va_up_self]; by_cases c : i = k; rw [c, pk_us, hI.1 15 (by decide)]; rw [pk_un (by omega)]; exact hI.2.1 i (by omega)), fun i hi => by rw [va_up_self, pk_un (by omega)]; exact hI.2.2 i (by omega)⟩
  refine hm_iconst (v := 0) C nd_MO_store_0 (by decide) ?_
  refine hm_istore_n C [(2, .int 0), (0, .ref m), (1, .int (nI j))] nd_MO_store_1 (by decide) rfl ?_
  refine hm_less (lv' := [(2, .int (nI 0)), (0, .ref m), (1, .int (nI j))]) (fun z hz => by simp only [List.mem_cons, List.not_mem_nil, or_false] at hz ⊢; rcases hz with h | h | h <;> subst h <;> simp [nI_0]) ?_
  exact loop 33 0 ar (by omega) ⟨fun _ _ => rfl, fun i hi => by omega, fun _ _ => rfl⟩
set_option maxHeartbeats 4000000 in
set_option maxRecDepth 100000 in
theorem ct_MO_back_in {l : Launch} {D : va_G} {BG : Nat → Option Cell} (m : Nat) (A : Nat → Nat) (hA : rf_ok A m) (sc : Nat → Int32) (ar : Nat → Nat → Int32) (j : Nat) (hj : j < 2) : hm_ct l D BG ny_MO_back prog_8_method_28_code 3 (some .int) 1 20 0 0 [.ref m, .int (nI j)] (rf_M D m A sc ar) (fun r M' => r = some (.int 1) ∧ ∃ ar', M' = rf_M D m A sc ar' ∧ ((∀ i, i ≠ 13 → ar' i = ar i) ∧ (∀ i, i < 33 → ar' 13 (33 * j + i) = ar 14 (33 * j + i)) ∧ ∀ i, i < 33 * j ∨ 33 * j + 33 ≤ i → ar' 13 i = ar 13 i)) := by
  refine hm_ct_of (by decide +kernel) (by exact Nat.le_of_ble_eq_true rfl) ?_
  intro X C E
  have C : hm_C X l D BG prog_8_method_28_code "TurnedKeysModel" "back" 3 1 20 0 0 := C
  refine hm_lv (lv' := [(0, .ref m), (1, .int (nI j))]) rfl ?_
  have loop : ∀ (u k : Nat) (art : Nat → Nat → Int32), k + u = 33 → ((∀ i, i ≠ 13 → art i = ar i) ∧ (∀ i, i < k → art 13 (33 * j + i) = ar 14 (33 * j + i)) ∧ ∀ i, i < 33 * j ∨ 33 * j + k ≤ i → art 13 i = ar 13 i) → hm_W X (rf_M D m A sc art) 0 0 11 [(2, .int (nI k)), (0, .ref m), (1, .int (nI j))] [] := by
    intro u
    induction u with
    | zero =>
        intro k art hu hI
        refine hm_iload_n C nd_MO_back_11 rfl ?_
        refine hm_bipush (v := 33) C nd_MO_back_12 (by decide) ?_
        refine hm_stk (st' := [.int (nI 33), .int (nI k)]) rfl ?_
        have hk : k = 33 := by omega
        refine hm_icmp_ge (tgt := 45) C nd_MO_back_14 (by decide) (fun c1 => ?_) (fun c1 => absurd (show nI 33 ≤ nI k from nI_le (by omega) (by omega)) c1)
        refine hm_iconst (v := 1) C nd_MO_back_45 (by decide) ?_
        exact hm_iret C E (by omega) (by omega) (⟨rfl, art, rfl, by rw [hk] at hI; exact hI⟩) nd_MO_back_46
    | succ u ih =>
        intro k art hu hI
        refine hm_iload_n C nd_MO_back_11 rfl ?_
        refine hm_bipush (v := 33) C nd_MO_back_12 (by decide) ?_
        refine hm_stk (st' := [.int (nI 33), .int (nI k)]) rfl ?_
        refine hm_icmp_ge (tgt := 45) C nd_MO_back_14 (by decide) (fun c1 => absurd c1 (nI_ge (by omega) (by omega))) (fun c1 => ?_)
        refine hm_aload_n C nd_MO_back_17 rfl ?_
        refine hm_get C nF_MO_60 rf_m rfl nd_MO_back_18 ?_
        refine hm_bipush (v := 33) C nd_MO_back_21 (by decide) ?_
        refine hm_iload_n C nd_MO_back_23 rfl ?_
        refine hm_imul C nd_MO_back_24 ?_
        refine hm_iload_n C nd_MO_back_25 rfl ?_
        refine hm_iadd C nd_MO_back_26 ?_
        refine hm_stk (st' := [.int (nI (33 * j + k)), .ref (A 13)]) (by rw [rf_33]) ?_
        refine hm_aload_n C nd_MO_back_27 rfl ?_
        refine hm_get C nF_MO_63 rf_m rfl nd_MO_back_28 ?_
        refine hm_bipush (v := 33) C nd_MO_back_31 (by decide) ?_
        refine hm_iload_n C nd_MO_back_33 rfl ?_
        refine hm_imul C nd_MO_back_34 ?_
        refine hm_iload_n C nd_MO_back_35 rfl ?_
        refine hm_iadd C nd_MO_back_36 ?_
        refine hm_stk (st' := [.int (nI (33 * j + k)), .ref (A 14), .int (nI (33 * j + k)), .ref (A 13)]) (by rw [rf_33]) ?_
        refine hm_iald (t := 3) (N := 66) (j := 33 * j + k) (f := (art 14)) C rfl (rf_at hA (i := 14) (by decide)) rfl (by omega) (by decide) nd_MO_back_37 ?_
        refine hm_iast (t := 3) (N := 66) (j := 33 * j + k) (f := (art 13)) C rfl (rf_at hA (i := 13) (by decide)) rfl (by omega) (by decide) nd_MO_back_38 ?_
        refine hm_eqM (rf_up hA (i := 13) (by decide) (upd (art 13) (33 * j + k) ((art 14) (33 * j + k)))) ?_
        refine hm_iinc (x := (nI k)) (v := ((nI k) + 1)) C [(2, .int ((nI k) + 1)), (0, .ref m), (1, .int (nI j))] nd_MO_back_39 rfl rfl (by decide) rfl ?_
        refine hm_goto (tgt := 11) C nd_MO_back_42 (by decide) ?_
        refine hm_less (lv' := [(2, .int (nI (k + 1))), (0, .ref m), (1, .int (nI j))]) (fun z hz => by simp only [List.mem_cons, List.not_mem_nil, or_false, nI_1] at hz ⊢; rcases hz with h | h | h <;> subst h <;> simp [nI_0]) ?_
        exact ih (k + 1) _ (by omega) ⟨fun i hi => (va_up_ne _ _ hi).trans (hI.1 i hi), fun i hi => (by rw [va_up_self]; by_cases c : i = k; rw [c, pk_us, hI.1 14 (by decide)]; rw [pk_un (by omega)]; exact hI.2.1 i (by omega)), fun i hi => by rw [va_up_self, pk_un (by omega)]; exact hI.2.2 i (by omega)⟩
  refine hm_iload_n C nd_MO_back_0 rfl ?_
  refine hm_callS C (ct_MO_isEnd_in _ j hj) nV_MO_isEnd nq_MO_115 nu_MO_isEnd rfl (rest := []) rfl (Nat.le_of_ble_eq_true rfl) (by decide) (by decide) (by omega) (by omega) nd_MO_back_1 (fun r M1 hp => ?_)
  obtain ⟨rfl, eM1⟩ := hp
  rw [eM1]
  refine hm_stk (st' := [.int 1]) rfl ?_
  refine hm_if_ne (tgt := 9) C nd_MO_back_4 (by decide) (fun c0 => ?_) (fun c0 => absurd c0 (by decide))
  refine hm_iconst (v := 0) C nd_MO_back_9 (by decide) ?_
  refine hm_istore_n C [(2, .int 0), (0, .ref m), (1, .int (nI j))] nd_MO_back_10 (by decide) rfl ?_
  refine hm_less (lv' := [(2, .int (nI 0)), (0, .ref m), (1, .int (nI j))]) (fun z hz => by simp only [List.mem_cons, List.not_mem_nil, or_false] at hz ⊢; rcases hz with h | h | h <;> subst h <;> simp [nI_0]) ?_
  exact loop 33 0 ar (by omega) ⟨fun _ _ => rfl, fun i hi => by omega, fun _ _ => rfl⟩
set_option maxHeartbeats 4000000 in
set_option maxRecDepth 100000 in
theorem ct_MO_keep_in {l : Launch} {D : va_G} {BG : Nat → Option Cell} (m : Nat) (A : Nat → Nat) (hA : rf_ok A m) (sc : Nat → Int32) (ar : Nat → Nat → Int32) (j : Nat) (hj : j < 2) : hm_ct l D BG ny_MO_keep prog_8_method_29_code 3 (some .int) 1 20 0 0 [.ref m, .int (nI j)] (rf_M D m A sc ar) (fun r M' => r = some (.int 1) ∧ ∃ ar', M' = rf_M D m A sc ar' ∧ ((∀ i, i ≠ 14 → ar' i = ar i) ∧ (∀ i, i < 33 → ar' 14 (33 * j + i) = ar 13 (33 * j + i)) ∧ ∀ i, i < 33 * j ∨ 33 * j + 33 ≤ i → ar' 14 i = ar 14 i)) := by
  refine hm_ct_of (by decide +kernel) (by exact Nat.le_of_ble_eq_true rfl) ?_
  intro X C E
  have C : hm_C X l D BG prog_8_method_29_code "TurnedKeysModel" "keep" 3 1 20 0 0 := C
  refine hm_lv (lv' := [(0, .ref m), (1, .int (nI j))]) rfl ?_
  have loop : ∀ (u k : Nat) (art : Nat → Nat → Int32), k + u = 33 → ((∀ i, i ≠ 14 → art i = ar i) ∧ (∀ i, i < k → art 14 (33 * j + i) = ar 13 (33 * j + i)) ∧ ∀ i, i < 33 * j ∨ 33 * j + k ≤ i → art 14 i = ar 14 i) → hm_W X (rf_M D m A sc art) 0 0 11 [(2, .int (nI k)), (0, .ref m), (1, .int (nI j))] [] := by
    intro u
    induction u with
    | zero =>
        intro k art hu hI
        refine hm_iload_n C nd_MO_keep_11 rfl ?_
        refine hm_bipush (v := 33) C nd_MO_keep_12 (by decide) ?_
        refine hm_stk (st' := [.int (nI 33), .int (nI k)]) rfl ?_
        have hk : k = 33 := by omega
        refine hm_icmp_ge (tgt := 45) C nd_MO_keep_14 (by decide) (fun c1 => ?_) (fun c1 => absurd (show nI 33 ≤ nI k from nI_le (by omega) (by omega)) c1)
        refine hm_iconst (v := 1) C nd_MO_keep_45 (by decide) ?_
        exact hm_iret C E (by omega) (by omega) (⟨rfl, art, rfl, by rw [hk] at hI; exact hI⟩) nd_MO_keep_46
    | succ u ih =>
        intro k art hu hI
        refine hm_iload_n C nd_MO_keep_11 rfl ?_
        refine hm_bipush (v := 33) C nd_MO_keep_12 (by decide) ?_
        refine hm_stk (st' := [.int (nI 33), .int (nI k)]) rfl ?_
        refine hm_icmp_ge (tgt := 45) C nd_MO_keep_14 (by decide) (fun c1 => absurd c1 (nI_ge (by omega) (by omega))) (fun c1 => ?_)
        refine hm_aload_n C nd_MO_keep_17 rfl ?_
        refine hm_get C nF_MO_63 rf_m rfl nd_MO_keep_18 ?_
        refine hm_bipush (v := 33) C nd_MO_keep_21 (by decide) ?_
        refine hm_iload_n C nd_MO_keep_23 rfl ?_
        refine hm_imul C nd_MO_keep_24 ?_
        refine hm_iload_n C nd_MO_keep_25 rfl ?_
        refine hm_iadd C nd_MO_keep_26 ?_
        refine hm_stk (st' := [.int (nI (33 * j + k)), .ref (A 14)]) (by rw [rf_33]) ?_
        refine hm_aload_n C nd_MO_keep_27 rfl ?_
        refine hm_get C nF_MO_60 rf_m rfl nd_MO_keep_28 ?_
        refine hm_bipush (v := 33) C nd_MO_keep_31 (by decide) ?_
        refine hm_iload_n C nd_MO_keep_33 rfl ?_
        refine hm_imul C nd_MO_keep_34 ?_
        refine hm_iload_n C nd_MO_keep_35 rfl ?_
        refine hm_iadd C nd_MO_keep_36 ?_
        refine hm_stk (st' := [.int (nI (33 * j + k)), .ref (A 13), .int (nI (33 * j + k)), .ref (A 14)]) (by rw [rf_33]) ?_
        refine hm_iald (t := 3) (N := 66) (j := 33 * j + k) (f := (art 13)) C rfl (rf_at hA (i := 13) (by decide)) rfl (by omega) (by decide) nd_MO_keep_37 ?_
        refine hm_iast (t := 3) (N := 66) (j := 33 * j + k) (f := (art 14)) C rfl (rf_at hA (i := 14) (by decide)) rfl (by omega) (by decide) nd_MO_keep_38 ?_
        refine hm_eqM (rf_up hA (i := 14) (by decide) (upd (art 14) (33 * j + k) ((art 13) (33 * j + k)))) ?_
        refine hm_iinc (x := (nI k)) (v := ((nI k) + 1)) C [(2, .int ((nI k) + 1)), (0, .ref m), (1, .int (nI j))] nd_MO_keep_39 rfl rfl (by decide) rfl ?_
        refine hm_goto (tgt := 11) C nd_MO_keep_42 (by decide) ?_
        refine hm_less (lv' := [(2, .int (nI (k + 1))), (0, .ref m), (1, .int (nI j))]) (fun z hz => by simp only [List.mem_cons, List.not_mem_nil, or_false, nI_1] at hz ⊢; rcases hz with h | h | h <;> subst h <;> simp [nI_0]) ?_
        exact ih (k + 1) _ (by omega) ⟨fun i hi => (va_up_ne _ _ hi).trans (hI.1 i hi), fun i hi => (by rw [va_up_self]; by_cases c : i = k; rw [c, pk_us, hI.1 13 (by decide)]; rw [pk_un (by omega)]; exact hI.2.1 i (by omega)), fun i hi => by rw [va_up_self, pk_un (by omega)]; exact hI.2.2 i (by omega)⟩
  refine hm_iload_n C nd_MO_keep_0 rfl ?_
  refine hm_callS C (ct_MO_isEnd_in _ j hj) nV_MO_isEnd nq_MO_115 nu_MO_isEnd rfl (rest := []) rfl (Nat.le_of_ble_eq_true rfl) (by decide) (by decide) (by omega) (by omega) nd_MO_keep_1 (fun r M1 hp => ?_)
  obtain ⟨rfl, eM1⟩ := hp
  rw [eM1]
  refine hm_stk (st' := [.int 1]) rfl ?_
  refine hm_if_ne (tgt := 9) C nd_MO_keep_4 (by decide) (fun c0 => ?_) (fun c0 => absurd c0 (by decide))
  refine hm_iconst (v := 0) C nd_MO_keep_9 (by decide) ?_
  refine hm_istore_n C [(2, .int 0), (0, .ref m), (1, .int (nI j))] nd_MO_keep_10 (by decide) rfl ?_
  refine hm_less (lv' := [(2, .int (nI 0)), (0, .ref m), (1, .int (nI j))]) (fun z hz => by simp only [List.mem_cons, List.not_mem_nil, or_false] at hz ⊢; rcases hz with h | h | h <;> subst h <;> simp [nI_0]) ?_
  exact loop 33 0 ar (by omega) ⟨fun _ _ => rfl, fun i hi => by omega, fun _ _ => rfl⟩
set_option maxHeartbeats 4000000 in
set_option maxRecDepth 100000 in
theorem ct_MO_back_out {l : Launch} {D : va_G} {BG : Nat → Option Cell} (m : Nat) (A : Nat → Nat) (hA : rf_ok A m) (sc : Nat → Int32) (ar : Nat → Nat → Int32) (e : Int32) (he : e < 0 ∨ nI 2 ≤ e) : hm_ct l D BG ny_MO_back prog_8_method_28_code 3 (some .int) 1 20 0 0 [.ref m, .int e] (rf_M D m A sc ar) (fun r M' => r = some (.int (-1)) ∧ M' = (rf_M D m A sc ar)) := by
  refine hm_ct_of (by decide +kernel) (by exact Nat.le_of_ble_eq_true rfl) ?_
  intro X C E
  have C : hm_C X l D BG prog_8_method_28_code "TurnedKeysModel" "back" 3 1 20 0 0 := C
  refine hm_lv (lv' := [(0, .ref m), (1, .int e)]) rfl ?_
  refine hm_iload_n C nd_MO_back_0 rfl ?_
  refine hm_callS C (ct_MO_isEnd_out _ e he) nV_MO_isEnd nq_MO_115 nu_MO_isEnd rfl (rest := []) rfl (Nat.le_of_ble_eq_true rfl) (by decide) (by decide) (by omega) (by omega) nd_MO_back_1 (fun r M1 hp => ?_)
  obtain ⟨rfl, eM1⟩ := hp
  rw [eM1]
  refine hm_stk (st' := [.int 0]) rfl ?_
  refine hm_if_ne (tgt := 9) C nd_MO_back_4 (by decide) (fun c0 => absurd rfl c0) (fun c0 => ?_)
  refine hm_iconst (v := (-1)) C nd_MO_back_7 (by decide) ?_
  exact hm_iret C E (by omega) (by omega) (⟨rfl, rfl⟩) nd_MO_back_8
set_option maxHeartbeats 4000000 in
set_option maxRecDepth 100000 in
theorem ct_MO_keep_out {l : Launch} {D : va_G} {BG : Nat → Option Cell} (m : Nat) (A : Nat → Nat) (hA : rf_ok A m) (sc : Nat → Int32) (ar : Nat → Nat → Int32) (e : Int32) (he : e < 0 ∨ nI 2 ≤ e) : hm_ct l D BG ny_MO_keep prog_8_method_29_code 3 (some .int) 1 20 0 0 [.ref m, .int e] (rf_M D m A sc ar) (fun r M' => r = some (.int (-1)) ∧ M' = (rf_M D m A sc ar)) := by
  refine hm_ct_of (by decide +kernel) (by exact Nat.le_of_ble_eq_true rfl) ?_
  intro X C E
  have C : hm_C X l D BG prog_8_method_29_code "TurnedKeysModel" "keep" 3 1 20 0 0 := C
  refine hm_lv (lv' := [(0, .ref m), (1, .int e)]) rfl ?_
  refine hm_iload_n C nd_MO_keep_0 rfl ?_
  refine hm_callS C (ct_MO_isEnd_out _ e he) nV_MO_isEnd nq_MO_115 nu_MO_isEnd rfl (rest := []) rfl (Nat.le_of_ble_eq_true rfl) (by decide) (by decide) (by omega) (by omega) nd_MO_keep_1 (fun r M1 hp => ?_)
  obtain ⟨rfl, eM1⟩ := hp
  rw [eM1]
  refine hm_stk (st' := [.int 0]) rfl ?_
  refine hm_if_ne (tgt := 9) C nd_MO_keep_4 (by decide) (fun c0 => absurd rfl c0) (fun c0 => ?_)
  refine hm_iconst (v := (-1)) C nd_MO_keep_7 (by decide) ?_
  exact hm_iret C E (by omega) (by omega) (⟨rfl, rfl⟩) nd_MO_keep_8
