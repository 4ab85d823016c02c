theorem rf_sb {s : Nat} (hs : s < 7) : (nI s).toInt8.toInt32 = nI s := by
  have : s = 0 ∨ s = 1 ∨ s = 2 ∨ s = 3 ∨ s = 4 ∨ s = 5 ∨ s = 6 := by omega
  rcases this with h | h | h | h | h | h | h <;> subst h <;> rfl
set_option maxHeartbeats 4000000 in
set_option maxRecDepth 100000 in
theorem ct_MO_term_old {l : Launch} {D : va_G} {BG : Nat → Option Cell} (m : Nat) (A : Nat → Nat) (hA : rf_ok A m) (sc : Nat → Int32) (ar : Nat → Nat → Int32) (n : Nat) (q : Nat → rq) (hT : rt_I sc ar n q) (s a b c : Nat) (hs : s < 7) (ha : a < 2 ^ 31) (hb : b < 2 ^ 31) (hc : c < 2 ^ 31) (t0 : Nat) (ht1 : 1 ≤ t0) (ht2 : t0 < n) (hq0 : q t0 = (s, a, b, c)) : hm_ct l D BG ny_MO_term prog_8_method_2_code 8 (some .int) 0 0 0 0 [.ref m, .int (nI s), .int (nI a), .int (nI b), .int (nI c)] (rf_M D m A sc ar) (fun r M' => r = some (.int (nI t0)) ∧ M' = (rf_M D m A sc ar)) := by
  refine hm_ct_of (by decide +kernel) (by exact Nat.le_of_ble_eq_true rfl) ?_
  intro X C E
  have C : hm_C X l D BG prog_8_method_2_code "TurnedKeysModel" "term" 8 0 0 0 0 := C
  obtain ⟨h0, h1, h2, h3, h4, tb, h5, h6⟩ := id hT
  have body : ∀ k t : Nat, k < 65536 → tb k = t → t ≠ 0 → (q t ≠ (s, a, b, c) → hm_W X (rf_M D m A sc ar) 0 0 35 [(6, .int (nI ((k + 1) % 65536))), (0, .ref m), (1, .int (nI s)), (2, .int (nI a)), (3, .int (nI b)), (4, .int (nI c))] []) → (q t = (s, a, b, c) → (some (Value.int (nI t)) = some (.int (nI t0)) ∧ (rf_M D m A sc ar) = (rf_M D m A sc ar))) → hm_W X (rf_M D m A sc ar) 0 0 35 [(6, .int (nI k)), (0, .ref m), (1, .int (nI s)), (2, .int (nI a)), (3, .int (nI b)), (4, .int (nI c))] [] := by
    intro k t hk ht htz hgo hret
    have htn : t < n := ht ▸ h6.1 k hk
    have e := h3 t (by omega) htn
    have g := h4 t (by omega) htn
    have hkt : ar 6 k = nI t := by rw [h5 k hk, ht]
    refine hm_aload_n C nd_MO_term_35 rfl ?_
    refine hm_get C nF_MO_35 rf_m rfl nd_MO_term_36 ?_
    refine hm_iload C nd_MO_term_39 rfl ?_
    refine hm_iald (t := 3) (N := 65536) (j := k) (f := (ar 6)) C rfl (rf_at hA (i := 6) (by decide)) rfl (by omega) (by decide) nd_MO_term_41 ?_
    refine hm_stk (st' := [.int (nI t)]) (by rw [hkt]) ?_
    refine hm_if_eq (tgt := 114) C nd_MO_term_42 (by decide) (fun c0 => absurd c0 (nI_ne0 (by omega) (by omega))) (fun c0 => ?_)
    refine hm_aload_n C nd_MO_term_45 rfl ?_
    refine hm_get C nF_MO_35 rf_m rfl nd_MO_term_46 ?_
    refine hm_iload C nd_MO_term_49 rfl ?_
    refine hm_iald (t := 3) (N := 65536) (j := k) (f := (ar 6)) C rfl (rf_at hA (i := 6) (by decide)) rfl (by omega) (by decide) nd_MO_term_51 ?_
    refine hm_stk (st' := [.int (nI t)]) (by rw [hkt]) ?_
    refine hm_istore C [(7, .int (nI t)), (6, .int (nI k)), (0, .ref m), (1, .int (nI s)), (2, .int (nI a)), (3, .int (nI b)), (4, .int (nI c))] nd_MO_term_52 (by decide) rfl ?_
    refine hm_aload_n C nd_MO_term_54 rfl ?_
    refine hm_get C nF_MO_13 rf_m rfl nd_MO_term_55 ?_
    refine hm_iload C nd_MO_term_58 rfl ?_
    refine hm_bald (t := 4) (N := 20000) (j := t) (f := (ar 0)) C rfl (rf_at hA (i := 0) (by decide)) rfl (by omega) (by decide) nd_MO_term_60 ?_
    refine hm_stk (st' := [.int (nI (q t).1)]) (by rw [e.1]) ?_
    refine hm_iload_n C nd_MO_term_61 rfl ?_
    refine hm_icmp_ne (tgt := 102) C nd_MO_term_62 (by decide) (fun c1 => ?_) (fun c1 => ?_)
    · refine hm_iload C nd_MO_term_102 rfl ?_
      refine hm_iconst (v := 1) C nd_MO_term_104 (by decide) ?_
      refine hm_iadd C nd_MO_term_105 ?_
      refine hm_ldc (v := 65535) C nk_MO_91 nd_MO_term_106 ?_
      refine hm_iand C nd_MO_term_108 ?_
      refine hm_stk (st' := [.int (nI ((k + 1) % 2 ^ 16))]) (by rw [nI_1, pk_andN (n := k + 1) (m := 65535) (by omega) 16 (by decide)]) ?_
      refine hm_istore C [(6, .int (nI ((k + 1) % 2 ^ 16))), (7, .int (nI t)), (0, .ref m), (1, .int (nI s)), (2, .int (nI a)), (3, .int (nI b)), (4, .int (nI c))] nd_MO_term_109 (by decide) rfl ?_
      refine hm_goto (tgt := 35) C nd_MO_term_111 (by decide) ?_
      refine hm_less (lv' := [(6, .int (nI ((k + 1) % 65536))), (0, .ref m), (1, .int (nI s)), (2, .int (nI a)), (3, .int (nI b)), (4, .int (nI c))]) (fun z hz => by simp only [List.mem_cons, List.not_mem_nil, or_false] at hz ⊢; rcases hz with h | h | h | h | h | h <;> subst h <;> simp) ?_
      exact hgo (fun z => c1 (by rw [z]))
    · refine hm_aload_n C nd_MO_term_65 rfl ?_
      refine hm_get C nF_MO_17 rf_m rfl nd_MO_term_66 ?_
      refine hm_iload C nd_MO_term_69 rfl ?_
      refine hm_iald (t := 3) (N := 20000) (j := t) (f := (ar 1)) C rfl (rf_at hA (i := 1) (by decide)) rfl (by omega) (by decide) nd_MO_term_71 ?_
      refine hm_stk (st' := [.int (nI (q t).2.1)]) (by rw [e.2.1]) ?_
      refine hm_iload_n C nd_MO_term_72 rfl ?_
      refine hm_icmp_ne (tgt := 102) C nd_MO_term_73 (by decide) (fun c2 => ?_) (fun c2 => ?_)
      · refine hm_iload C nd_MO_term_102 rfl ?_
        refine hm_iconst (v := 1) C nd_MO_term_104 (by decide) ?_
        refine hm_iadd C nd_MO_term_105 ?_
        refine hm_ldc (v := 65535) C nk_MO_91 nd_MO_term_106 ?_
        refine hm_iand C nd_MO_term_108 ?_
        refine hm_stk (st' := [.int (nI ((k + 1) % 2 ^ 16))]) (by rw [nI_1, pk_andN (n := k + 1) (m := 65535) (by omega) 16 (by decide)]) ?_
        refine hm_istore C [(6, .int (nI ((k + 1) % 2 ^ 16))), (7, .int (nI t)), (0, .ref m), (1, .int (nI s)), (2, .int (nI a)), (3, .int (nI b)), (4, .int (nI c))] nd_MO_term_109 (by decide) rfl ?_
        refine hm_goto (tgt := 35) C nd_MO_term_111 (by decide) ?_
        refine hm_less (lv' := [(6, .int (nI ((k + 1) % 65536))), (0, .ref m), (1, .int (nI s)), (2, .int (nI a)), (3, .int (nI b)), (4, .int (nI c))]) (fun z hz => by simp only [List.mem_cons, List.not_mem_nil, or_false] at hz ⊢; rcases hz with h | h | h | h | h | h <;> subst h <;> simp) ?_
        exact hgo (fun z => c2 (by rw [z]))
      · refine hm_aload_n C nd_MO_term_76 rfl ?_
        refine hm_get C nF_MO_21 rf_m rfl nd_MO_term_77 ?_
        refine hm_iload C nd_MO_term_80 rfl ?_
        refine hm_iald (t := 3) (N := 20000) (j := t) (f := (ar 2)) C rfl (rf_at hA (i := 2) (by decide)) rfl (by omega) (by decide) nd_MO_term_82 ?_
        refine hm_stk (st' := [.int (nI (q t).2.2.1)]) (by rw [e.2.2.1]) ?_
        refine hm_iload_n C nd_MO_term_83 rfl ?_
        refine hm_icmp_ne (tgt := 102) C nd_MO_term_84 (by decide) (fun c3 => ?_) (fun c3 => ?_)
        · refine hm_iload C nd_MO_term_102 rfl ?_
          refine hm_iconst (v := 1) C nd_MO_term_104 (by decide) ?_
          refine hm_iadd C nd_MO_term_105 ?_
          refine hm_ldc (v := 65535) C nk_MO_91 nd_MO_term_106 ?_
          refine hm_iand C nd_MO_term_108 ?_
          refine hm_stk (st' := [.int (nI ((k + 1) % 2 ^ 16))]) (by rw [nI_1, pk_andN (n := k + 1) (m := 65535) (by omega) 16 (by decide)]) ?_
          refine hm_istore C [(6, .int (nI ((k + 1) % 2 ^ 16))), (7, .int (nI t)), (0, .ref m), (1, .int (nI s)), (2, .int (nI a)), (3, .int (nI b)), (4, .int (nI c))] nd_MO_term_109 (by decide) rfl ?_
          refine hm_goto (tgt := 35) C nd_MO_term_111 (by decide) ?_
          refine hm_less (lv' := [(6, .int (nI ((k + 1) % 65536))), (0, .ref m), (1, .int (nI s)), (2, .int (nI a)), (3, .int (nI b)), (4, .int (nI c))]) (fun z hz => by simp only [List.mem_cons, List.not_mem_nil, or_false] at hz ⊢; rcases hz with h | h | h | h | h | h <;> subst h <;> simp) ?_
          exact hgo (fun z => c3 (by rw [z]))
        · refine hm_aload_n C nd_MO_term_87 rfl ?_
          refine hm_get C nF_MO_24 rf_m rfl nd_MO_term_88 ?_
          refine hm_iload C nd_MO_term_91 rfl ?_
          refine hm_iald (t := 3) (N := 20000) (j := t) (f := (ar 3)) C rfl (rf_at hA (i := 3) (by decide)) rfl (by omega) (by decide) nd_MO_term_93 ?_
          refine hm_stk (st' := [.int (nI (q t).2.2.2)]) (by rw [e.2.2.2]) ?_
          refine hm_iload C nd_MO_term_94 rfl ?_
          refine hm_icmp_ne (tgt := 102) C nd_MO_term_96 (by decide) (fun c4 => ?_) (fun c4 => ?_)
          · refine hm_iload C nd_MO_term_102 rfl ?_
            refine hm_iconst (v := 1) C nd_MO_term_104 (by decide) ?_
            refine hm_iadd C nd_MO_term_105 ?_
            refine hm_ldc (v := 65535) C nk_MO_91 nd_MO_term_106 ?_
            refine hm_iand C nd_MO_term_108 ?_
            refine hm_stk (st' := [.int (nI ((k + 1) % 2 ^ 16))]) (by rw [nI_1, pk_andN (n := k + 1) (m := 65535) (by omega) 16 (by decide)]) ?_
            refine hm_istore C [(6, .int (nI ((k + 1) % 2 ^ 16))), (7, .int (nI t)), (0, .ref m), (1, .int (nI s)), (2, .int (nI a)), (3, .int (nI b)), (4, .int (nI c))] nd_MO_term_109 (by decide) rfl ?_
            refine hm_goto (tgt := 35) C nd_MO_term_111 (by decide) ?_
            refine hm_less (lv' := [(6, .int (nI ((k + 1) % 65536))), (0, .ref m), (1, .int (nI s)), (2, .int (nI a)), (3, .int (nI b)), (4, .int (nI c))]) (fun z hz => by simp only [List.mem_cons, List.not_mem_nil, or_false] at hz ⊢; rcases hz with h | h | h | h | h | h <;> subst h <;> simp) ?_
            exact hgo (fun z => c4 (by rw [z]))
          · refine hm_iload C nd_MO_term_99 rfl ?_
            have hq : q t = (s, a, b, c) := by
              have z1 := (nI_eq (by omega) (by omega)).mp c1
              have z2 := (nI_eq (by omega) (by omega)).mp c2
              have z3 := (nI_eq (by omega) (by omega)).mp c3
              have z4 := (nI_eq (by omega) (by omega)).mp c4
              exact Prod.ext z1 (Prod.ext z2 (Prod.ext z3 z4))
            exact hm_iret C E (by omega) (by omega) (hret hq) nd_MO_term_101
  obtain ⟨d, hd1, hd2⟩ := h6.2.2.1 t0 ht1 ht2
  rw [hq0] at hd1 hd2
  have loop : ∀ u i : Nat, i + u = d → hm_W X (rf_M D m A sc ar) 0 0 35 [(6, .int (nI ((rh_h (s, a, b, c) + i) % 65536))), (0, .ref m), (1, .int (nI s)), (2, .int (nI a)), (3, .int (nI b)), (4, .int (nI c))] [] := by
    intro u
    induction u with
    | zero =>
      intro i hi
      have hi : i = d := by omega
      subst hi
      exact body _ t0 (Nat.mod_lt _ (by decide)) hd1 (by omega) (fun z => absurd hq0 z) (fun _ => ⟨rfl, rfl⟩)
    | succ u ih =>
      intro i hi
      refine body _ _ (Nat.mod_lt _ (by decide)) rfl (hd2 i (by omega)) (fun _ => ?_) (fun z => ?_)
      · have e : ((rh_h (s, a, b, c) + i) % 65536 + 1) % 65536 = (rh_h (s, a, b, c) + (i + 1)) % 65536 := by omega
        rw [e]
        exact ih (i + 1) (by omega)
      · have e := h6.2.2.2 _ t0 (Nat.one_le_iff_ne_zero.mpr (hd2 i (by omega))) (h6.1 _ (Nat.mod_lt _ (by decide))) ht1 ht2 (z.trans hq0.symm)
        rw [e]
        exact ⟨rfl, rfl⟩
  refine hm_lv (lv' := [(0, .ref m), (1, .int (nI s)), (2, .int (nI a)), (3, .int (nI b)), (4, .int (nI c))]) rfl ?_
  refine hm_iload_n C nd_MO_term_0 rfl ?_
  refine hm_bipush (v := 31) C nd_MO_term_1 (by decide) ?_
  refine hm_imul C nd_MO_term_3 ?_
  refine hm_iload_n C nd_MO_term_4 rfl ?_
  refine hm_iadd C nd_MO_term_5 ?_
  refine hm_ldc (v := (-1640531535)) C nk_MO_88 nd_MO_term_6 ?_
  refine hm_imul C nd_MO_term_8 ?_
  refine hm_iload_n C nd_MO_term_9 rfl ?_
  refine hm_ixor C nd_MO_term_10 ?_
  refine hm_ldc (v := (-2048144789)) C nk_MO_89 nd_MO_term_11 ?_
  refine hm_imul C nd_MO_term_13 ?_
  refine hm_iload C nd_MO_term_14 rfl ?_
  refine hm_ldc (v := 668265263) C nk_MO_90 nd_MO_term_16 ?_
  refine hm_imul C nd_MO_term_18 ?_
  refine hm_ixor C nd_MO_term_19 ?_
  refine hm_istore C [(5, .int (((((((nI s) * 31) + (nI a)) * (-1640531535)) ^^^ (nI b)) * (-2048144789)) ^^^ ((nI c) * 668265263))), (0, .ref m), (1, .int (nI s)), (2, .int (nI a)), (3, .int (nI b)), (4, .int (nI c))] nd_MO_term_20 (by decide) rfl ?_
  refine hm_iload C nd_MO_term_22 rfl ?_
  refine hm_iload C nd_MO_term_24 rfl ?_
  refine hm_bipush (v := 15) C nd_MO_term_26 (by decide) ?_
  refine hm_iushr C nd_MO_term_28 ?_
  refine hm_ixor C nd_MO_term_29 ?_
  refine hm_ldc (v := 65535) C nk_MO_91 nd_MO_term_30 ?_
  refine hm_iand C nd_MO_term_32 ?_
  refine hm_stk (st' := [.int (nI (rh_h (s, a, b, c)))]) (by exact congrArg (fun z => [Value.int z]) (pk_and (rh_y (rh_x (nI s) (nI a) (nI b) (nI c))) (m := 65535) 16 (by decide))) ?_
  refine hm_istore C [(6, .int (nI (rh_h (s, a, b, c)))), (5, .int (((((((nI s) * 31) + (nI a)) * (-1640531535)) ^^^ (nI b)) * (-2048144789)) ^^^ ((nI c) * 668265263))), (0, .ref m), (1, .int (nI s)), (2, .int (nI a)), (3, .int (nI b)), (4, .int (nI c))] nd_MO_term_33 (by decide) rfl ?_
  refine hm_less (lv' := [(6, .int (nI (rh_h (s, a, b, c)))), (0, .ref m), (1, .int (nI s)), (2, .int (nI a)), (3, .int (nI b)), (4, .int (nI c))]) (fun z hz => by simp only [List.mem_cons, List.not_mem_nil, or_false] at hz ⊢; rcases hz with h | h | h | h | h | h <;> subst h <;> simp) ?_
  have e0 : rh_h (s, a, b, c) = (rh_h (s, a, b, c) + 0) % 65536 := by have := rh_lt (s, a, b, c); omega
  rw [e0]
  exact loop d 0 (by omega)
set_option maxHeartbeats 4000000 in
set_option maxRecDepth 100000 in
theorem ct_MO_term_new {l : Launch} {D : va_G} {BG : Nat → Option Cell} (m : Nat) (A : Nat → Nat) (hA : rf_ok A m) (sc : Nat → Int32) (ar : Nat → Nat → Int32) (n : Nat) (q : Nat → rq) (hT : rt_I sc ar n q) (s a b c : Nat) (hs : s < 7) (ha : a < 2 ^ 31) (hb : b < 2 ^ 31) (hc : c < 2 ^ 31) (hn : n < 20000) (hno : ∀ t, 1 ≤ t → t < n → q t ≠ (s, a, b, c)) : hm_ct l D BG ny_MO_term prog_8_method_2_code 8 (some .int) 0 0 0 0 [.ref m, .int (nI s), .int (nI a), .int (nI b), .int (nI c)] (rf_M D m A sc ar) (fun r M' => ∃ sc' ar', M' = rf_M D m A sc' ar' ∧ r = some (.int (nI n)) ∧ rt_I sc' ar' (n + 1) (va_up q n (s, a, b, c)) ∧ sc' = va_up sc 0 (nI (n + 1)) ∧ ∀ i, i ≠ 0 → i ≠ 1 → i ≠ 2 → i ≠ 3 → i ≠ 6 → ar' i = ar i) := by
  refine hm_ct_of (by decide +kernel) (by exact Nat.le_of_ble_eq_true rfl) ?_
  intro X C E
  have C : hm_C X l D BG prog_8_method_2_code "TurnedKeysModel" "term" 8 0 0 0 0 := C
  obtain ⟨h0, h1, h2, h3, h4, tb, h5, h6⟩ := id hT
  have body : ∀ k t : Nat, k < 65536 → tb k = t → t ≠ 0 → (q t ≠ (s, a, b, c) → hm_W X (rf_M D m A sc ar) 0 0 35 [(6, .int (nI ((k + 1) % 65536))), (0, .ref m), (1, .int (nI s)), (2, .int (nI a)), (3, .int (nI b)), (4, .int (nI c))] []) → (q t = (s, a, b, c) → False) → hm_W X (rf_M D m A sc ar) 0 0 35 [(6, .int (nI k)), (0, .ref m), (1, .int (nI s)), (2, .int (nI a)), (3, .int (nI b)), (4, .int (nI c))] [] := by
    intro k t hk ht htz hgo hret
    have htn : t < n := ht ▸ h6.1 k hk
    have e := h3 t (by omega) htn
    have g := h4 t (by omega) htn
    have hkt : ar 6 k = nI t := by rw [h5 k hk, ht]
    refine hm_aload_n C nd_MO_term_35 rfl ?_
    refine hm_get C nF_MO_35 rf_m rfl nd_MO_term_36 ?_
    refine hm_iload C nd_MO_term_39 rfl ?_
    refine hm_iald (t := 3) (N := 65536) (j := k) (f := (ar 6)) C rfl (rf_at hA (i := 6) (by decide)) rfl (by omega) (by decide) nd_MO_term_41 ?_
    refine hm_stk (st' := [.int (nI t)]) (by rw [hkt]) ?_
    refine hm_if_eq (tgt := 114) C nd_MO_term_42 (by decide) (fun c0 => absurd c0 (nI_ne0 (by omega) (by omega))) (fun c0 => ?_)
    refine hm_aload_n C nd_MO_term_45 rfl ?_
    refine hm_get C nF_MO_35 rf_m rfl nd_MO_term_46 ?_
    refine hm_iload C nd_MO_term_49 rfl ?_
    refine hm_iald (t := 3) (N := 65536) (j := k) (f := (ar 6)) C rfl (rf_at hA (i := 6) (by decide)) rfl (by omega) (by decide) nd_MO_term_51 ?_
    refine hm_stk (st' := [.int (nI t)]) (by rw [hkt]) ?_
    refine hm_istore C [(7, .int (nI t)), (6, .int (nI k)), (0, .ref m), (1, .int (nI s)), (2, .int (nI a)), (3, .int (nI b)), (4, .int (nI c))] nd_MO_term_52 (by decide) rfl ?_
    refine hm_aload_n C nd_MO_term_54 rfl ?_
    refine hm_get C nF_MO_13 rf_m rfl nd_MO_term_55 ?_
    refine hm_iload C nd_MO_term_58 rfl ?_
    refine hm_bald (t := 4) (N := 20000) (j := t) (f := (ar 0)) C rfl (rf_at hA (i := 0) (by decide)) rfl (by omega) (by decide) nd_MO_term_60 ?_
    refine hm_stk (st' := [.int (nI (q t).1)]) (by rw [e.1]) ?_
    refine hm_iload_n C nd_MO_term_61 rfl ?_
    refine hm_icmp_ne (tgt := 102) C nd_MO_term_62 (by decide) (fun c1 => ?_) (fun c1 => ?_)
    · refine hm_iload C nd_MO_term_102 rfl ?_
      refine hm_iconst (v := 1) C nd_MO_term_104 (by decide) ?_
      refine hm_iadd C nd_MO_term_105 ?_
      refine hm_ldc (v := 65535) C nk_MO_91 nd_MO_term_106 ?_
      refine hm_iand C nd_MO_term_108 ?_
      refine hm_stk (st' := [.int (nI ((k + 1) % 2 ^ 16))]) (by rw [nI_1, pk_andN (n := k + 1) (m := 65535) (by omega) 16 (by decide)]) ?_
      refine hm_istore C [(6, .int (nI ((k + 1) % 2 ^ 16))), (7, .int (nI t)), (0, .ref m), (1, .int (nI s)), (2, .int (nI a)), (3, .int (nI b)), (4, .int (nI c))] nd_MO_term_109 (by decide) rfl ?_
      refine hm_goto (tgt := 35) C nd_MO_term_111 (by decide) ?_
      refine hm_less (lv' := [(6, .int (nI ((k + 1) % 65536))), (0, .ref m), (1, .int (nI s)), (2, .int (nI a)), (3, .int (nI b)), (4, .int (nI c))]) (fun z hz => by simp only [List.mem_cons, List.not_mem_nil, or_false] at hz ⊢; rcases hz with h | h | h | h | h | h <;> subst h <;> simp) ?_
      exact hgo (fun z => c1 (by rw [z]))
    · refine hm_aload_n C nd_MO_term_65 rfl ?_
      refine hm_get C nF_MO_17 rf_m rfl nd_MO_term_66 ?_
      refine hm_iload C nd_MO_term_69 rfl ?_
      refine hm_iald (t := 3) (N := 20000) (j := t) (f := (ar 1)) C rfl (rf_at hA (i := 1) (by decide)) rfl (by omega) (by decide) nd_MO_term_71 ?_
      refine hm_stk (st' := [.int (nI (q t).2.1)]) (by rw [e.2.1]) ?_
      refine hm_iload_n C nd_MO_term_72 rfl ?_
      refine hm_icmp_ne (tgt := 102) C nd_MO_term_73 (by decide) (fun c2 => ?_) (fun c2 => ?_)
      · refine hm_iload C nd_MO_term_102 rfl ?_
        refine hm_iconst (v := 1) C nd_MO_term_104 (by decide) ?_
        refine hm_iadd C nd_MO_term_105 ?_
        refine hm_ldc (v := 65535) C nk_MO_91 nd_MO_term_106 ?_
        refine hm_iand C nd_MO_term_108 ?_
        refine hm_stk (st' := [.int (nI ((k + 1) % 2 ^ 16))]) (by rw [nI_1, pk_andN (n := k + 1) (m := 65535) (by omega) 16 (by decide)]) ?_
        refine hm_istore C [(6, .int (nI ((k + 1) % 2 ^ 16))), (7, .int (nI t)), (0, .ref m), (1, .int (nI s)), (2, .int (nI a)), (3, .int (nI b)), (4, .int (nI c))] nd_MO_term_109 (by decide) rfl ?_
        refine hm_goto (tgt := 35) C nd_MO_term_111 (by decide) ?_
        refine hm_less (lv' := [(6, .int (nI ((k + 1) % 65536))), (0, .ref m), (1, .int (nI s)), (2, .int (nI a)), (3, .int (nI b)), (4, .int (nI c))]) (fun z hz => by simp only [List.mem_cons, List.not_mem_nil, or_false] at hz ⊢; rcases hz with h | h | h | h | h | h <;> subst h <;> simp) ?_
        exact hgo (fun z => c2 (by rw [z]))
      · refine hm_aload_n C nd_MO_term_76 rfl ?_
        refine hm_get C nF_MO_21 rf_m rfl nd_MO_term_77 ?_
        refine hm_iload C nd_MO_term_80 rfl ?_
        refine hm_iald (t := 3) (N := 20000) (j := t) (f := (ar 2)) C rfl (rf_at hA (i := 2) (by decide)) rfl (by omega) (by decide) nd_MO_term_82 ?_
        refine hm_stk (st' := [.int (nI (q t).2.2.1)]) (by rw [e.2.2.1]) ?_
        refine hm_iload_n C nd_MO_term_83 rfl ?_
        refine hm_icmp_ne (tgt := 102) C nd_MO_term_84 (by decide) (fun c3 => ?_) (fun c3 => ?_)
        · refine hm_iload C nd_MO_term_102 rfl ?_
          refine hm_iconst (v := 1) C nd_MO_term_104 (by decide) ?_
          refine hm_iadd C nd_MO_term_105 ?_
          refine hm_ldc (v := 65535) C nk_MO_91 nd_MO_term_106 ?_
          refine hm_iand C nd_MO_term_108 ?_
          refine hm_stk (st' := [.int (nI ((k + 1) % 2 ^ 16))]) (by rw [nI_1, pk_andN (n := k + 1) (m := 65535) (by omega) 16 (by decide)]) ?_
          refine hm_istore C [(6, .int (nI ((k + 1) % 2 ^ 16))), (7, .int (nI t)), (0, .ref m), (1, .int (nI s)), (2, .int (nI a)), (3, .int (nI b)), (4, .int (nI c))] nd_MO_term_109 (by decide) rfl ?_
          refine hm_goto (tgt := 35) C nd_MO_term_111 (by decide) ?_
          refine hm_less (lv' := [(6, .int (nI ((k + 1) % 65536))), (0, .ref m), (1, .int (nI s)), (2, .int (nI a)), (3, .int (nI b)), (4, .int (nI c))]) (fun z hz => by simp only [List.mem_cons, List.not_mem_nil, or_false] at hz ⊢; rcases hz with h | h | h | h | h | h <;> subst h <;> simp) ?_
          exact hgo (fun z => c3 (by rw [z]))
        · refine hm_aload_n C nd_MO_term_87 rfl ?_
          refine hm_get C nF_MO_24 rf_m rfl nd_MO_term_88 ?_
          refine hm_iload C nd_MO_term_91 rfl ?_
          refine hm_iald (t := 3) (N := 20000) (j := t) (f := (ar 3)) C rfl (rf_at hA (i := 3) (by decide)) rfl (by omega) (by decide) nd_MO_term_93 ?_
          refine hm_stk (st' := [.int (nI (q t).2.2.2)]) (by rw [e.2.2.2]) ?_
          refine hm_iload C nd_MO_term_94 rfl ?_
          refine hm_icmp_ne (tgt := 102) C nd_MO_term_96 (by decide) (fun c4 => ?_) (fun c4 => ?_)
          · refine hm_iload C nd_MO_term_102 rfl ?_
            refine hm_iconst (v := 1) C nd_MO_term_104 (by decide) ?_
            refine hm_iadd C nd_MO_term_105 ?_
            refine hm_ldc (v := 65535) C nk_MO_91 nd_MO_term_106 ?_
            refine hm_iand C nd_MO_term_108 ?_
            refine hm_stk (st' := [.int (nI ((k + 1) % 2 ^ 16))]) (by rw [nI_1, pk_andN (n := k + 1) (m := 65535) (by omega) 16 (by decide)]) ?_
            refine hm_istore C [(6, .int (nI ((k + 1) % 2 ^ 16))), (7, .int (nI t)), (0, .ref m), (1, .int (nI s)), (2, .int (nI a)), (3, .int (nI b)), (4, .int (nI c))] nd_MO_term_109 (by decide) rfl ?_
            refine hm_goto (tgt := 35) C nd_MO_term_111 (by decide) ?_
            refine hm_less (lv' := [(6, .int (nI ((k + 1) % 65536))), (0, .ref m), (1, .int (nI s)), (2, .int (nI a)), (3, .int (nI b)), (4, .int (nI c))]) (fun z hz => by simp only [List.mem_cons, List.not_mem_nil, or_false] at hz ⊢; rcases hz with h | h | h | h | h | h <;> subst h <;> simp) ?_
            exact hgo (fun z => c4 (by rw [z]))
          · refine hm_iload C nd_MO_term_99 rfl ?_
            have hq : q t = (s, a, b, c) := by
              have z1 := (nI_eq (by omega) (by omega)).mp c1
              have z2 := (nI_eq (by omega) (by omega)).mp c2
              have z3 := (nI_eq (by omega) (by omega)).mp c3
              have z4 := (nI_eq (by omega) (by omega)).mp c4
              exact Prod.ext z1 (Prod.ext z2 (Prod.ext z3 z4))
            exact (hret hq).elim
  have empty : ∀ k : Nat, k < 65536 → tb k = 0 → (∃ sc' ar', (rf_M D m A (va_up sc 0 (nI (n + 1))) (va_up (va_up (va_up (va_up (va_up ar 6 (upd (ar 6) k (nI n))) 0 (upd (ar 0) n (vp_nar .byte (nI s)))) 1 (upd (ar 1) n (nI a))) 2 (upd (ar 2) n (nI b))) 3 (upd (ar 3) n (nI c)))) = rf_M D m A sc' ar' ∧ some (Value.int (nI n)) = some (.int (nI n)) ∧ rt_I sc' ar' (n + 1) (va_up q n (s, a, b, c)) ∧ sc' = va_up sc 0 (nI (n + 1)) ∧ ∀ i, i ≠ 0 → i ≠ 1 → i ≠ 2 → i ≠ 3 → i ≠ 6 → ar' i = ar i) → hm_W X (rf_M D m A sc ar) 0 0 35 [(6, .int (nI k)), (0, .ref m), (1, .int (nI s)), (2, .int (nI a)), (3, .int (nI b)), (4, .int (nI c))] [] := by
    intro k hk hk0 hpost
    have hkt : ar 6 k = nI 0 := by rw [h5 k hk, hk0]
    refine hm_aload_n C nd_MO_term_35 rfl ?_
    refine hm_get C nF_MO_35 rf_m rfl nd_MO_term_36 ?_
    refine hm_iload C nd_MO_term_39 rfl ?_
    refine hm_iald (t := 3) (N := 65536) (j := k) (f := (ar 6)) C rfl (rf_at hA (i := 6) (by decide)) rfl (by omega) (by decide) nd_MO_term_41 ?_
    refine hm_stk (st' := [.int (nI 0)]) (by rw [hkt]) ?_
    refine hm_if_eq (tgt := 114) C nd_MO_term_42 (by decide) (fun c0 => ?_) (fun c0 => absurd rfl c0)
    refine hm_aload_n C nd_MO_term_114 rfl ?_
    refine hm_get C nF_MO_35 rf_m rfl nd_MO_term_115 ?_
    refine hm_iload C nd_MO_term_118 rfl ?_
    refine hm_aload_n C nd_MO_term_120 rfl ?_
    refine hm_get C nF_MO_7 rf_m rfl nd_MO_term_121 ?_
    refine hm_stk (st' := [.int (nI n), .int (nI k), .ref (A 6)]) (by rw [h0]) ?_
    refine hm_iast (t := 3) (N := 65536) (j := k) (f := (ar 6)) C rfl (rf_at hA (i := 6) (by decide)) rfl (by omega) (by decide) nd_MO_term_124 ?_
    refine hm_eqM (rf_up hA (i := 6) (by decide) (upd (ar 6) k (nI n))) ?_
    refine hm_aload_n C nd_MO_term_125 rfl ?_
    refine hm_get C nF_MO_13 rf_m rfl nd_MO_term_126 ?_
    refine hm_aload_n C nd_MO_term_129 rfl ?_
    refine hm_get C nF_MO_7 rf_m rfl nd_MO_term_130 ?_
    rw [h0]
    refine hm_iload_n C nd_MO_term_133 rfl ?_
    refine hm_i2b (x := nI s) (v := nI s) C nd_MO_term_134 (rf_sb hs) ?_
    refine hm_bast (t := 4) (N := 20000) (j := n) (f := (ar 0)) C rfl (rf_at hA (i := 0) (by decide)) rfl (by omega) (by decide) nd_MO_term_135 ?_
    refine hm_eqM (rf_up hA (i := 0) (by decide) (upd (ar 0) n (vp_nar .byte (nI s)))) ?_
    refine hm_aload_n C nd_MO_term_136 rfl ?_
    refine hm_get C nF_MO_17 rf_m rfl nd_MO_term_137 ?_
    refine hm_aload_n C nd_MO_term_140 rfl ?_
    refine hm_get C nF_MO_7 rf_m rfl nd_MO_term_141 ?_
    rw [h0]
    refine hm_iload_n C nd_MO_term_144 rfl ?_
    refine hm_iast (t := 3) (N := 20000) (j := n) (f := (ar 1)) C rfl (rf_at hA (i := 1) (by decide)) rfl (by omega) (by decide) nd_MO_term_145 ?_
    refine hm_eqM (rf_up hA (i := 1) (by decide) (upd (ar 1) n (nI a))) ?_
    refine hm_aload_n C nd_MO_term_146 rfl ?_
    refine hm_get C nF_MO_21 rf_m rfl nd_MO_term_147 ?_
    refine hm_aload_n C nd_MO_term_150 rfl ?_
    refine hm_get C nF_MO_7 rf_m rfl nd_MO_term_151 ?_
    rw [h0]
    refine hm_iload_n C nd_MO_term_154 rfl ?_
    refine hm_iast (t := 3) (N := 20000) (j := n) (f := (ar 2)) C rfl (rf_at hA (i := 2) (by decide)) rfl (by omega) (by decide) nd_MO_term_155 ?_
    refine hm_eqM (rf_up hA (i := 2) (by decide) (upd (ar 2) n (nI b))) ?_
    refine hm_aload_n C nd_MO_term_156 rfl ?_
    refine hm_get C nF_MO_24 rf_m rfl nd_MO_term_157 ?_
    refine hm_aload_n C nd_MO_term_160 rfl ?_
    refine hm_get C nF_MO_7 rf_m rfl nd_MO_term_161 ?_
    rw [h0]
    refine hm_iload C nd_MO_term_164 rfl ?_
    refine hm_iast (t := 3) (N := 20000) (j := n) (f := (ar 3)) C rfl (rf_at hA (i := 3) (by decide)) rfl (by omega) (by decide) nd_MO_term_166 ?_
    refine hm_eqM (rf_up hA (i := 3) (by decide) (upd (ar 3) n (nI c))) ?_
    refine hm_aload_n C nd_MO_term_167 rfl ?_
    refine hm_dup C nd_MO_term_168 rfl ?_
    refine hm_get C nF_MO_7 rf_m rfl nd_MO_term_169 ?_
    rw [h0]
    refine hm_iconst (v := 1) C nd_MO_term_172 (by decide) ?_
    refine hm_iadd C nd_MO_term_173 ?_
    rw [nI_1]
    refine hm_put C nF_MO_7 rf_m (Nat.le_of_ble_eq_true rfl) rfl rfl nd_MO_term_174 ?_
    refine hm_eqM (rf_pt (sc' := va_up sc 0 (nI (n + 1)))) ?_
    refine hm_aload_n C nd_MO_term_177 rfl ?_
    refine hm_get C nF_MO_7 rf_m rfl nd_MO_term_178 ?_
    refine hm_iconst (v := 1) C nd_MO_term_181 (by decide) ?_
    refine hm_isub C nd_MO_term_182 ?_
    refine hm_stk (st' := [.int (nI n)]) (congrArg (fun z => [Value.int z]) (nI_pred n)) ?_
    exact hm_iret C E (by omega) (by omega) hpost nd_MO_term_183
  obtain ⟨d, hd1, hd2⟩ := rh_free h6 (by omega) (rh_h (s, a, b, c)) (rh_lt _)
  have hsb : vp_nar .byte (nI s) = nI s := by
    have : s = 0 ∨ s = 1 ∨ s = 2 ∨ s = 3 ∨ s = 4 ∨ s = 5 ∨ s = 6 := by omega
    rcases this with h | h | h | h | h | h | h <;> subst h <;> rfl
  have loop : ∀ u i : Nat, i + u = d → hm_W X (rf_M D m A sc ar) 0 0 35 [(6, .int (nI ((rh_h (s, a, b, c) + i) % 65536))), (0, .ref m), (1, .int (nI s)), (2, .int (nI a)), (3, .int (nI b)), (4, .int (nI c))] [] := by
    intro u
    induction u with
    | zero =>
      intro i hi
      have hi : i = d := by omega
      subst hi
      generalize hk : (rh_h (s, a, b, c) + i) % 65536 = k at hd1 ⊢
      have hkl : k < 65536 := hk ▸ Nat.mod_lt _ (by decide)
      refine empty k hkl hd1 ⟨_, _, rfl, rfl, ⟨rfl, by omega, by omega, fun t t1 t2 => ?_, fun t t1 t2 => ?_, va_up tb k n, fun z hz => ?_, ?_⟩, rfl, fun i i0 i1 i2 i3 i6 => ?_⟩
      · show upd (ar 0) n (vp_nar .byte (nI s)) t = _ ∧ upd (ar 1) n (nI a) t = _ ∧ upd (ar 2) n (nI b) t = _ ∧ upd (ar 3) n (nI c) t = _
        unfold upd
        by_cases c : t = n
        · rw [if_pos c, if_pos c, if_pos c, if_pos c, c, va_up_self]
          exact ⟨hsb, rfl, rfl, rfl⟩
        · rw [if_neg c, if_neg c, if_neg c, if_neg c, va_up_ne _ _ c]
          exact h3 t t1 (by omega)
      · by_cases c : t = n
        · rw [c, va_up_self]
          exact ⟨hs, ha, hb, hc⟩
        · rw [va_up_ne _ _ c]
          exact h4 t t1 (by omega)
      · show upd (ar 6) k (nI n) z = _
        unfold upd
        by_cases c : z = k
        · rw [if_pos c, c, va_up_self]
        · rw [if_neg c, va_up_ne _ _ c]
          exact h5 z hz
      · have := rh_add h6 h1 hno (hk.symm ▸ hd1) hd2
        rw [hk] at this
        exact this
      · rw [va_up_ne _ _ i3, va_up_ne _ _ i2, va_up_ne _ _ i1, va_up_ne _ _ i0, va_up_ne _ _ i6]
    | succ u ih =>
      intro i hi
      have hz := hd2 i (by omega)
      refine body _ _ (Nat.mod_lt _ (by decide)) rfl hz (fun _ => ?_) (fun z => ?_)
      · have e : ((rh_h (s, a, b, c) + i) % 65536 + 1) % 65536 = (rh_h (s, a, b, c) + (i + 1)) % 65536 := by omega
        rw [e]
        exact ih (i + 1) (by omega)
      · exact hno _ (Nat.one_le_iff_ne_zero.mpr hz) (h6.1 _ (Nat.mod_lt _ (by decide))) z
  refine hm_lv (lv' := [(0, .ref m), (1, .int (nI s)), (2, .int (nI a)), (3, .int (nI b)), (4, .int (nI c))]) rfl ?_
  refine hm_iload_n C nd_MO_term_0 rfl ?_
  refine hm_bipush (v := 31) C nd_MO_term_1 (by decide) ?_
  refine hm_imul C nd_MO_term_3 ?_
  refine hm_iload_n C nd_MO_term_4 rfl ?_
  refine hm_iadd C nd_MO_term_5 ?_
  refine hm_ldc (v := (-1640531535)) C nk_MO_88 nd_MO_term_6 ?_
  refine hm_imul C nd_MO_term_8 ?_
  refine hm_iload_n C nd_MO_term_9 rfl ?_
  refine hm_ixor C nd_MO_term_10 ?_
  refine hm_ldc (v := (-2048144789)) C nk_MO_89 nd_MO_term_11 ?_
  refine hm_imul C nd_MO_term_13 ?_
  refine hm_iload C nd_MO_term_14 rfl ?_
  refine hm_ldc (v := 668265263) C nk_MO_90 nd_MO_term_16 ?_
  refine hm_imul C nd_MO_term_18 ?_
  refine hm_ixor C nd_MO_term_19 ?_
  refine hm_istore C [(5, .int (((((((nI s) * 31) + (nI a)) * (-1640531535)) ^^^ (nI b)) * (-2048144789)) ^^^ ((nI c) * 668265263))), (0, .ref m), (1, .int (nI s)), (2, .int (nI a)), (3, .int (nI b)), (4, .int (nI c))] nd_MO_term_20 (by decide) rfl ?_
  refine hm_iload C nd_MO_term_22 rfl ?_
  refine hm_iload C nd_MO_term_24 rfl ?_
  refine hm_bipush (v := 15) C nd_MO_term_26 (by decide) ?_
  refine hm_iushr C nd_MO_term_28 ?_
  refine hm_ixor C nd_MO_term_29 ?_
  refine hm_ldc (v := 65535) C nk_MO_91 nd_MO_term_30 ?_
  refine hm_iand C nd_MO_term_32 ?_
  refine hm_stk (st' := [.int (nI (rh_h (s, a, b, c)))]) (by exact congrArg (fun z => [Value.int z]) (pk_and (rh_y (rh_x (nI s) (nI a) (nI b) (nI c))) (m := 65535) 16 (by decide))) ?_
  refine hm_istore C [(6, .int (nI (rh_h (s, a, b, c)))), (5, .int (((((((nI s) * 31) + (nI a)) * (-1640531535)) ^^^ (nI b)) * (-2048144789)) ^^^ ((nI c) * 668265263))), (0, .ref m), (1, .int (nI s)), (2, .int (nI a)), (3, .int (nI b)), (4, .int (nI c))] nd_MO_term_33 (by decide) rfl ?_
  refine hm_less (lv' := [(6, .int (nI (rh_h (s, a, b, c)))), (0, .ref m), (1, .int (nI s)), (2, .int (nI a)), (3, .int (nI b)), (4, .int (nI c))]) (fun z hz => by simp only [List.mem_cons, List.not_mem_nil, or_false] at hz ⊢; rcases hz with h | h | h | h | h | h <;> subst h <;> simp) ?_
  have e0 : rh_h (s, a, b, c) = (rh_h (s, a, b, c) + 0) % 65536 := by have := rh_lt (s, a, b, c); omega
  rw [e0]
  exact loop d 0 (by omega)
