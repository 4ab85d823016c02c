def rf_K (D : va_G) (m : Nat) (A : Nat → Nat) (k : Nat) (fs : List Value) : hm_M := fun q => if q = m then some (hm_ob 7 fs) else (rf_ix A q k).map (fun i => hm_ai D (rf_t i) (rf_n i) (fun _ => 0))
theorem rf_K_m {D : va_G} {m : Nat} {A : Nat → Nat} {k : Nat} {fs : List Value} : rf_K D m A k fs m = some (hm_ob 7 fs) := if_pos rfl
theorem rf_K_p {D : va_G} {m : Nat} {A : Nat → Nat} {k : Nat} {fs fs' : List Value} : hm_up (rf_K D m A k fs) m (hm_ob 7 fs') = rf_K D m A k fs' := by
  funext x
  by_cases c : x = m
  · rw [c, hm_up_s, rf_K_m]
  · rw [hm_up_n _ _ c]
    unfold rf_K
    rw [if_neg c, if_neg c]
theorem rf_ix_cg {A B : Nat → Nat} {q : Nat} : ∀ {k : Nat}, (∀ i, i < k → A i = B i) → rf_ix A q k = rf_ix B q k
  | 0, _ => rfl
  | k + 1, h => by
    unfold rf_ix
    rw [h k (by omega), rf_ix_cg (fun i hi => h i (by omega))]
theorem rf_ix_none {A : Nat → Nat} {q : Nat} : ∀ {k : Nat}, rf_ix A q k = none → ∀ i, i < k → A i ≠ q
  | 0, _, i, hi => by omega
  | k + 1, h, i, hi => by
    unfold rf_ix at h
    by_cases c : q = A k
    · rw [if_pos c] at h; cases h
    · rw [if_neg c] at h
      by_cases e : i = k
      · rw [e]; exact fun z => c z.symm
      · exact rf_ix_none h i (by omega)
theorem rf_K_q {D : va_G} {m : Nat} {A : Nat → Nat} {k : Nat} {fs : List Value} {q : Nat} (hq : rf_K D m A k fs q = none) : q ≠ m ∧ ∀ i, i < k → A i ≠ q := by
  have hm : q ≠ m := fun e => by rw [e, rf_K_m] at hq; cases hq
  refine ⟨hm, rf_ix_none ?_⟩
  unfold rf_K at hq
  rw [if_neg hm] at hq
  cases e : rf_ix A q k with
  | none => rfl
  | some i => rw [e] at hq; cases hq
theorem rf_K_n {D : va_G} {m : Nat} {A : Nat → Nat} {k : Nat} {fs : List Value} {q : Nat} (hq : rf_K D m A k fs q = none) : hm_up (rf_K D m A k fs) q (hm_ai D (rf_t k) (rf_n k) (fun _ => 0)) = rf_K D m (va_up A k q) (k + 1) fs := by
  have hm := (rf_K_q hq).1
  funext x
  by_cases c : x = q
  · rw [c, hm_up_s]
    unfold rf_K
    rw [if_neg hm]
    unfold rf_ix
    rw [va_up_self, if_pos rfl]
    rfl
  · rw [hm_up_n _ _ c]
    unfold rf_K
    by_cases e : x = m
    · rw [if_pos e, if_pos e]
    · rw [if_neg e, if_neg e]
      have : rf_ix (va_up A k q) x (k + 1) = rf_ix A x k := by
        conv => lhs; unfold rf_ix
        rw [va_up_self, if_neg c]
        exact rf_ix_cg (fun i hi => va_up_ne _ _ (by omega))
      rw [this]
def rf_okk (A : Nat → Nat) (m k : Nat) : Prop := (∀ i j, i < k → j < k → A i = A j → i = j) ∧ ∀ i, i < k → A i ≠ m
theorem rf_okk_s {A : Nat → Nat} {m k q : Nat} (h : rf_okk A m k) (hq : q ≠ m ∧ ∀ i, i < k → A i ≠ q) : rf_okk (va_up A k q) m (k + 1) := by
  refine ⟨fun i j hi hj e => ?_, fun i hi => ?_⟩
  · by_cases c : i = k
    · by_cases d : j = k
      · omega
      · rw [c, va_up_self, va_up_ne _ _ d] at e
        exact absurd e.symm (hq.2 j (by omega))
    · by_cases d : j = k
      · rw [d, va_up_self, va_up_ne _ _ c] at e
        exact absurd e (hq.2 i (by omega))
      · rw [va_up_ne _ _ c, va_up_ne _ _ d] at e
        exact h.1 i j (by omega) (by omega) e
  · by_cases c : i = k
    · rw [c, va_up_self]; exact hq.1
    · rw [va_up_ne _ _ c]; exact h.2 i (by omega)
theorem rp0 : rp (fun i => if i = 0 then 1 else if i = 1 then 1 else 0) (fun _ _ => 0) 1 (fun _ => (0, 0, 0, 0)) (fun _ => 0) 0 := by
  refine ⟨⟨rfl, Nat.le_refl _, by omega, fun t t1 t2 => by omega, fun t t1 t2 => by omega, fun _ => 0, fun k hk => rfl, ⟨fun k hk => (by show 0 < 1; omega), fun k k' hk hk' e z => absurd rfl z, fun t t1 t2 => by omega, fun t t' t1 t2 => by omega⟩⟩, ⟨rfl, rfl, fun t t1 t2 => by omega, fun t t' t1 t2 => by omega⟩, rfl, by omega, fun t t1 t2 => ⟨rfl, rfl⟩⟩
theorem nab : Cond.arrayClass .byte ∈ hm_tb := hm_tb_in (by decide +kernel) (by decide +kernel)
theorem nai : Cond.arrayClass .int ∈ hm_tb := hm_tb_in (by decide +kernel) (by decide +kernel)
theorem naz : Cond.arrayClass .boolean ∈ hm_tb := hm_tb_in (by decide +kernel) (by decide +kernel)
set_option maxHeartbeats 4000000 in
set_option maxRecDepth 100000 in
theorem ct_MO_init {l : Launch} {D : va_G} {BG : Nat → Option Cell} (m : Nat) : hm_ct l D BG ny_MO_init prog_8_method_1_code 7 none 2 50 16 188821 [.ref m] (rf_K D m (fun _ => 0) 0 [.int 0, .null, .null, .null, .null, .null, .null, .null, .int 0, .int 0, .int 0, .null, .null, .null, .null, .int 0, .null, .null, .int 0, .null, .null, .null, .int 0]) (fun r M' => r = none ∧ ∃ A sc ar n q vl gv kn od, n ≤ 10 ∧ rf_ok A m ∧ M' = rf_M D m A sc ar ∧ mo_I sc ar n q vl 4 gv kn od sp_E0 [] (fun _ => False)) := by
  refine hm_ct_of (by decide +kernel) (by exact Nat.le_of_ble_eq_true rfl) ?_
  intro X C E
  have C : hm_C X l D BG prog_8_method_1_code "TurnedKeysModel" "<init>" 7 2 50 16 188821 := C
  refine hm_lv (lv' := [(0, .ref m)]) rfl ?_
  refine hm_aload_n C nd_MO_init_0 rfl ?_
  refine hm_objInit C nq_MO_1 nj_OJ_init nm_OJ_init (by decide) (by decide) nd_MO_init_1 ?_
  have ok0 : rf_okk (fun _ => 0) m 0 := ⟨fun i j hi => by omega, fun i hi => by omega⟩
  refine hm_aload_n C nd_MO_init_4 rfl ?_
  refine hm_iconst (v := 1) C nd_MO_init_5 (by decide) ?_
  refine hm_put C nF_MO_7 rf_K_m (Nat.le_of_ble_eq_true rfl) rfl rfl nd_MO_init_6 ?_
  refine hm_eqM (M' := rf_K D m (fun _ => 0) 0 [.int 1, .null, .null, .null, .null, .null, .null, .null, .int 0, .int 0, .int 0, .null, .null, .null, .null, .int 0, .null, .null, .int 0, .null, .null, .null, .int 0]) rf_K_p ?_
  refine hm_aload_n C nd_MO_init_9 rfl ?_
  refine hm_sipush (v := 20000) C nd_MO_init_10 (by decide) ?_
  refine hm_pnew (t := 4) (N := 20000) C rfl (Or.inr (Or.inl rfl)) nab rfl (by decide) (by omega) (by omega) rfl nd_MO_init_13 (fun q0 hq0 => ?_)
  have ok1 : rf_okk (va_up (fun _ => 0) 0 q0) m 1 := rf_okk_s ok0 (rf_K_q hq0)
  refine hm_eqM (M' := rf_K D m (va_up (fun _ => 0) 0 q0) 1 [.int 1, .null, .null, .null, .null, .null, .null, .null, .int 0, .int 0, .int 0, .null, .null, .null, .null, .int 0, .null, .null, .int 0, .null, .null, .null, .int 0]) (rf_K_n hq0) ?_
  refine hm_putF C nF_MO_13 rf_K_m (Nat.le_of_ble_eq_true rfl) rfl rfl nd_MO_init_15 ?_
  refine hm_eqM (M' := rf_K D m (va_up (fun _ => 0) 0 q0) 1 [.int 1, .ref q0, .null, .null, .null, .null, .null, .null, .int 0, .int 0, .int 0, .null, .null, .null, .null, .int 0, .null, .null, .int 0, .null, .null, .null, .int 0]) rf_K_p ?_
  refine hm_aload_n C nd_MO_init_18 rfl ?_
  refine hm_sipush (v := 20000) C nd_MO_init_19 (by decide) ?_
  refine hm_pnew (t := 3) (N := 20000) C rfl (Or.inl rfl) nai rfl (by decide) (by omega) (by omega) rfl nd_MO_init_22 (fun q1 hq1 => ?_)
  have ok2 : rf_okk (va_up (va_up (fun _ => 0) 0 q0) 1 q1) m 2 := rf_okk_s ok1 (rf_K_q hq1)
  refine hm_eqM (M' := rf_K D m (va_up (va_up (fun _ => 0) 0 q0) 1 q1) 2 [.int 1, .ref q0, .null, .null, .null, .null, .null, .null, .int 0, .int 0, .int 0, .null, .null, .null, .null, .int 0, .null, .null, .int 0, .null, .null, .null, .int 0]) (rf_K_n hq1) ?_
  refine hm_putF C nF_MO_17 rf_K_m (Nat.le_of_ble_eq_true rfl) rfl rfl nd_MO_init_24 ?_
  refine hm_eqM (M' := rf_K D m (va_up (va_up (fun _ => 0) 0 q0) 1 q1) 2 [.int 1, .ref q0, .ref q1, .null, .null, .null, .null, .null, .int 0, .int 0, .int 0, .null, .null, .null, .null, .int 0, .null, .null, .int 0, .null, .null, .null, .int 0]) rf_K_p ?_
  refine hm_aload_n C nd_MO_init_27 rfl ?_
  refine hm_sipush (v := 20000) C nd_MO_init_28 (by decide) ?_
  refine hm_pnew (t := 3) (N := 20000) C rfl (Or.inl rfl) nai rfl (by decide) (by omega) (by omega) rfl nd_MO_init_31 (fun q2 hq2 => ?_)
  have ok3 : rf_okk (va_up (va_up (va_up (fun _ => 0) 0 q0) 1 q1) 2 q2) m 3 := rf_okk_s ok2 (rf_K_q hq2)
  refine hm_eqM (M' := rf_K D m (va_up (va_up (va_up (fun _ => 0) 0 q0) 1 q1) 2 q2) 3 [.int 1, .ref q0, .ref q1, .null, .null, .null, .null, .null, .int 0, .int 0, .int 0, .null, .null, .null, .null, .int 0, .null, .null, .int 0, .null, .null, .null, .int 0]) (rf_K_n hq2) ?_
  refine hm_putF C nF_MO_21 rf_K_m (Nat.le_of_ble_eq_true rfl) rfl rfl nd_MO_init_33 ?_
  refine hm_eqM (M' := rf_K D m (va_up (va_up (va_up (fun _ => 0) 0 q0) 1 q1) 2 q2) 3 [.int 1, .ref q0, .ref q1, .ref q2, .null, .null, .null, .null, .int 0, .int 0, .int 0, .null, .null, .null, .null, .int 0, .null, .null, .int 0, .null, .null, .null, .int 0]) rf_K_p ?_
  refine hm_aload_n C nd_MO_init_36 rfl ?_
  refine hm_sipush (v := 20000) C nd_MO_init_37 (by decide) ?_
  refine hm_pnew (t := 3) (N := 20000) C rfl (Or.inl rfl) nai rfl (by decide) (by omega) (by omega) rfl nd_MO_init_40 (fun q3 hq3 => ?_)
  have ok4 : rf_okk (va_up (va_up (va_up (va_up (fun _ => 0) 0 q0) 1 q1) 2 q2) 3 q3) m 4 := rf_okk_s ok3 (rf_K_q hq3)
  refine hm_eqM (M' := rf_K D m (va_up (va_up (va_up (va_up (fun _ => 0) 0 q0) 1 q1) 2 q2) 3 q3) 4 [.int 1, .ref q0, .ref q1, .ref q2, .null, .null, .null, .null, .int 0, .int 0, .int 0, .null, .null, .null, .null, .int 0, .null, .null, .int 0, .null, .null, .null, .int 0]) (rf_K_n hq3) ?_
  refine hm_putF C nF_MO_24 rf_K_m (Nat.le_of_ble_eq_true rfl) rfl rfl nd_MO_init_42 ?_
  refine hm_eqM (M' := rf_K D m (va_up (va_up (va_up (va_up (fun _ => 0) 0 q0) 1 q1) 2 q2) 3 q3) 4 [.int 1, .ref q0, .ref q1, .ref q2, .ref q3, .null, .null, .null, .int 0, .int 0, .int 0, .null, .null, .null, .null, .int 0, .null, .null, .int 0, .null, .null, .null, .int 0]) rf_K_p ?_
  refine hm_aload_n C nd_MO_init_45 rfl ?_
  refine hm_sipush (v := 20000) C nd_MO_init_46 (by decide) ?_
  refine hm_pnew (t := 5) (N := 20000) C rfl (Or.inr (Or.inr rfl)) naz rfl (by decide) (by omega) (by omega) rfl nd_MO_init_49 (fun q4 hq4 => ?_)
  have ok5 : rf_okk (va_up (va_up (va_up (va_up (va_up (fun _ => 0) 0 q0) 1 q1) 2 q2) 3 q3) 4 q4) m 5 := rf_okk_s ok4 (rf_K_q hq4)
  refine hm_eqM (M' := rf_K D m (va_up (va_up (va_up (va_up (va_up (fun _ => 0) 0 q0) 1 q1) 2 q2) 3 q3) 4 q4) 5 [.int 1, .ref q0, .ref q1, .ref q2, .ref q3, .null, .null, .null, .int 0, .int 0, .int 0, .null, .null, .null, .null, .int 0, .null, .null, .int 0, .null, .null, .null, .int 0]) (rf_K_n hq4) ?_
  refine hm_putF C nF_MO_27 rf_K_m (Nat.le_of_ble_eq_true rfl) rfl rfl nd_MO_init_51 ?_
  refine hm_eqM (M' := rf_K D m (va_up (va_up (va_up (va_up (va_up (fun _ => 0) 0 q0) 1 q1) 2 q2) 3 q3) 4 q4) 5 [.int 1, .ref q0, .ref q1, .ref q2, .ref q3, .ref q4, .null, .null, .int 0, .int 0, .int 0, .null, .null, .null, .null, .int 0, .null, .null, .int 0, .null, .null, .null, .int 0]) rf_K_p ?_
  refine hm_aload_n C nd_MO_init_54 rfl ?_
  refine hm_sipush (v := 20000) C nd_MO_init_55 (by decide) ?_
  refine hm_pnew (t := 5) (N := 20000) C rfl (Or.inr (Or.inr rfl)) naz rfl (by decide) (by omega) (by omega) rfl nd_MO_init_58 (fun q5 hq5 => ?_)
  have ok6 : rf_okk (va_up (va_up (va_up (va_up (va_up (va_up (fun _ => 0) 0 q0) 1 q1) 2 q2) 3 q3) 4 q4) 5 q5) m 6 := rf_okk_s ok5 (rf_K_q hq5)
  refine hm_eqM (M' := rf_K D m (va_up (va_up (va_up (va_up (va_up (va_up (fun _ => 0) 0 q0) 1 q1) 2 q2) 3 q3) 4 q4) 5 q5) 6 [.int 1, .ref q0, .ref q1, .ref q2, .ref q3, .ref q4, .null, .null, .int 0, .int 0, .int 0, .null, .null, .null, .null, .int 0, .null, .null, .int 0, .null, .null, .null, .int 0]) (rf_K_n hq5) ?_
  refine hm_putF C nF_MO_31 rf_K_m (Nat.le_of_ble_eq_true rfl) rfl rfl nd_MO_init_60 ?_
  refine hm_eqM (M' := rf_K D m (va_up (va_up (va_up (va_up (va_up (va_up (fun _ => 0) 0 q0) 1 q1) 2 q2) 3 q3) 4 q4) 5 q5) 6 [.int 1, .ref q0, .ref q1, .ref q2, .ref q3, .ref q4, .ref q5, .null, .int 0, .int 0, .int 0, .null, .null, .null, .null, .int 0, .null, .null, .int 0, .null, .null, .null, .int 0]) rf_K_p ?_
  refine hm_aload_n C nd_MO_init_63 rfl ?_
  refine hm_ldc (v := 65536) C nk_MO_34 nd_MO_init_64 ?_
  refine hm_pnew (t := 3) (N := 65536) C rfl (Or.inl rfl) nai rfl (by decide) (by omega) (by omega) rfl nd_MO_init_66 (fun q6 hq6 => ?_)
  have ok7 : rf_okk (va_up (va_up (va_up (va_up (va_up (va_up (va_up (fun _ => 0) 0 q0) 1 q1) 2 q2) 3 q3) 4 q4) 5 q5) 6 q6) m 7 := rf_okk_s ok6 (rf_K_q hq6)
  refine hm_eqM (M' := rf_K D m (va_up (va_up (va_up (va_up (va_up (va_up (va_up (fun _ => 0) 0 q0) 1 q1) 2 q2) 3 q3) 4 q4) 5 q5) 6 q6) 7 [.int 1, .ref q0, .ref q1, .ref q2, .ref q3, .ref q4, .ref q5, .null, .int 0, .int 0, .int 0, .null, .null, .null, .null, .int 0, .null, .null, .int 0, .null, .null, .null, .int 0]) (rf_K_n hq6) ?_
  refine hm_putF C nF_MO_35 rf_K_m (Nat.le_of_ble_eq_true rfl) rfl rfl nd_MO_init_68 ?_
  refine hm_eqM (M' := rf_K D m (va_up (va_up (va_up (va_up (va_up (va_up (va_up (fun _ => 0) 0 q0) 1 q1) 2 q2) 3 q3) 4 q4) 5 q5) 6 q6) 7 [.int 1, .ref q0, .ref q1, .ref q2, .ref q3, .ref q4, .ref q5, .ref q6, .int 0, .int 0, .int 0, .null, .null, .null, .null, .int 0, .null, .null, .int 0, .null, .null, .null, .int 0]) rf_K_p ?_
  refine hm_aload_n C nd_MO_init_71 rfl ?_
  refine hm_iconst (v := 1) C nd_MO_init_72 (by decide) ?_
  refine hm_put C nF_MO_38 rf_K_m (Nat.le_of_ble_eq_true rfl) rfl rfl nd_MO_init_73 ?_
  refine hm_eqM (M' := rf_K D m (va_up (va_up (va_up (va_up (va_up (va_up (va_up (fun _ => 0) 0 q0) 1 q1) 2 q2) 3 q3) 4 q4) 5 q5) 6 q6) 7 [.int 1, .ref q0, .ref q1, .ref q2, .ref q3, .ref q4, .ref q5, .ref q6, .int 1, .int 0, .int 0, .null, .null, .null, .null, .int 0, .null, .null, .int 0, .null, .null, .null, .int 0]) rf_K_p ?_
  refine hm_aload_n C nd_MO_init_76 rfl ?_
  refine hm_sipush (v := 520) C nd_MO_init_77 (by decide) ?_
  refine hm_pnew (t := 3) (N := 520) C rfl (Or.inl rfl) nai rfl (by decide) (by omega) (by omega) rfl nd_MO_init_80 (fun q7 hq7 => ?_)
  have ok8 : rf_okk (va_up (va_up (va_up (va_up (va_up (va_up (va_up (va_up (fun _ => 0) 0 q0) 1 q1) 2 q2) 3 q3) 4 q4) 5 q5) 6 q6) 7 q7) m 8 := rf_okk_s ok7 (rf_K_q hq7)
  refine hm_eqM (M' := rf_K D m (va_up (va_up (va_up (va_up (va_up (va_up (va_up (va_up (fun _ => 0) 0 q0) 1 q1) 2 q2) 3 q3) 4 q4) 5 q5) 6 q6) 7 q7) 8 [.int 1, .ref q0, .ref q1, .ref q2, .ref q3, .ref q4, .ref q5, .ref q6, .int 1, .int 0, .int 0, .null, .null, .null, .null, .int 0, .null, .null, .int 0, .null, .null, .null, .int 0]) (rf_K_n hq7) ?_
  refine hm_putF C nF_MO_42 rf_K_m (Nat.le_of_ble_eq_true rfl) rfl rfl nd_MO_init_82 ?_
  refine hm_eqM (M' := rf_K D m (va_up (va_up (va_up (va_up (va_up (va_up (va_up (va_up (fun _ => 0) 0 q0) 1 q1) 2 q2) 3 q3) 4 q4) 5 q5) 6 q6) 7 q7) 8 [.int 1, .ref q0, .ref q1, .ref q2, .ref q3, .ref q4, .ref q5, .ref q6, .int 1, .int 0, .int 0, .ref q7, .null, .null, .null, .int 0, .null, .null, .int 0, .null, .null, .null, .int 0]) rf_K_p ?_
  refine hm_aload_n C nd_MO_init_85 rfl ?_
  refine hm_sipush (v := 520) C nd_MO_init_86 (by decide) ?_
  refine hm_pnew (t := 3) (N := 520) C rfl (Or.inl rfl) nai rfl (by decide) (by omega) (by omega) rfl nd_MO_init_89 (fun q8 hq8 => ?_)
  have ok9 : rf_okk (va_up (va_up (va_up (va_up (va_up (va_up (va_up (va_up (va_up (fun _ => 0) 0 q0) 1 q1) 2 q2) 3 q3) 4 q4) 5 q5) 6 q6) 7 q7) 8 q8) m 9 := rf_okk_s ok8 (rf_K_q hq8)
  refine hm_eqM (M' := rf_K D m (va_up (va_up (va_up (va_up (va_up (va_up (va_up (va_up (va_up (fun _ => 0) 0 q0) 1 q1) 2 q2) 3 q3) 4 q4) 5 q5) 6 q6) 7 q7) 8 q8) 9 [.int 1, .ref q0, .ref q1, .ref q2, .ref q3, .ref q4, .ref q5, .ref q6, .int 1, .int 0, .int 0, .ref q7, .null, .null, .null, .int 0, .null, .null, .int 0, .null, .null, .null, .int 0]) (rf_K_n hq8) ?_
  refine hm_putF C nF_MO_45 rf_K_m (Nat.le_of_ble_eq_true rfl) rfl rfl nd_MO_init_91 ?_
  refine hm_eqM (M' := rf_K D m (va_up (va_up (va_up (va_up (va_up (va_up (va_up (va_up (va_up (fun _ => 0) 0 q0) 1 q1) 2 q2) 3 q3) 4 q4) 5 q5) 6 q6) 7 q7) 8 q8) 9 [.int 1, .ref q0, .ref q1, .ref q2, .ref q3, .ref q4, .ref q5, .ref q6, .int 1, .int 0, .int 0, .ref q7, .ref q8, .null, .null, .int 0, .null, .null, .int 0, .null, .null, .null, .int 0]) rf_K_p ?_
  refine hm_aload_n C nd_MO_init_94 rfl ?_
  refine hm_sipush (v := 520) C nd_MO_init_95 (by decide) ?_
  refine hm_pnew (t := 3) (N := 520) C rfl (Or.inl rfl) nai rfl (by decide) (by omega) (by omega) rfl nd_MO_init_98 (fun q9 hq9 => ?_)
  have ok10 : rf_okk (va_up (va_up (va_up (va_up (va_up (va_up (va_up (va_up (va_up (va_up (fun _ => 0) 0 q0) 1 q1) 2 q2) 3 q3) 4 q4) 5 q5) 6 q6) 7 q7) 8 q8) 9 q9) m 10 := rf_okk_s ok9 (rf_K_q hq9)
  refine hm_eqM (M' := rf_K D m (va_up (va_up (va_up (va_up (va_up (va_up (va_up (va_up (va_up (va_up (fun _ => 0) 0 q0) 1 q1) 2 q2) 3 q3) 4 q4) 5 q5) 6 q6) 7 q7) 8 q8) 9 q9) 10 [.int 1, .ref q0, .ref q1, .ref q2, .ref q3, .ref q4, .ref q5, .ref q6, .int 1, .int 0, .int 0, .ref q7, .ref q8, .null, .null, .int 0, .null, .null, .int 0, .null, .null, .null, .int 0]) (rf_K_n hq9) ?_
  refine hm_putF C nF_MO_48 rf_K_m (Nat.le_of_ble_eq_true rfl) rfl rfl nd_MO_init_100 ?_
  refine hm_eqM (M' := rf_K D m (va_up (va_up (va_up (va_up (va_up (va_up (va_up (va_up (va_up (va_up (fun _ => 0) 0 q0) 1 q1) 2 q2) 3 q3) 4 q4) 5 q5) 6 q6) 7 q7) 8 q8) 9 q9) 10 [.int 1, .ref q0, .ref q1, .ref q2, .ref q3, .ref q4, .ref q5, .ref q6, .int 1, .int 0, .int 0, .ref q7, .ref q8, .ref q9, .null, .int 0, .null, .null, .int 0, .null, .null, .null, .int 0]) rf_K_p ?_
  refine hm_aload_n C nd_MO_init_103 rfl ?_
  refine hm_sipush (v := 520) C nd_MO_init_104 (by decide) ?_
  refine hm_pnew (t := 3) (N := 520) C rfl (Or.inl rfl) nai rfl (by decide) (by omega) (by omega) rfl nd_MO_init_107 (fun q10 hq10 => ?_)
  have ok11 : rf_okk (va_up (va_up (va_up (va_up (va_up (va_up (va_up (va_up (va_up (va_up (va_up (fun _ => 0) 0 q0) 1 q1) 2 q2) 3 q3) 4 q4) 5 q5) 6 q6) 7 q7) 8 q8) 9 q9) 10 q10) m 11 := rf_okk_s ok10 (rf_K_q hq10)
  refine hm_eqM (M' := rf_K D m (va_up (va_up (va_up (va_up (va_up (va_up (va_up (va_up (va_up (va_up (va_up (fun _ => 0) 0 q0) 1 q1) 2 q2) 3 q3) 4 q4) 5 q5) 6 q6) 7 q7) 8 q8) 9 q9) 10 q10) 11 [.int 1, .ref q0, .ref q1, .ref q2, .ref q3, .ref q4, .ref q5, .ref q6, .int 1, .int 0, .int 0, .ref q7, .ref q8, .ref q9, .null, .int 0, .null, .null, .int 0, .null, .null, .null, .int 0]) (rf_K_n hq10) ?_
  refine hm_putF C nF_MO_51 rf_K_m (Nat.le_of_ble_eq_true rfl) rfl rfl nd_MO_init_109 ?_
  refine hm_eqM (M' := rf_K D m (va_up (va_up (va_up (va_up (va_up (va_up (va_up (va_up (va_up (va_up (va_up (fun _ => 0) 0 q0) 1 q1) 2 q2) 3 q3) 4 q4) 5 q5) 6 q6) 7 q7) 8 q8) 9 q9) 10 q10) 11 [.int 1, .ref q0, .ref q1, .ref q2, .ref q3, .ref q4, .ref q5, .ref q6, .int 1, .int 0, .int 0, .ref q7, .ref q8, .ref q9, .ref q10, .int 0, .null, .null, .int 0, .null, .null, .null, .int 0]) rf_K_p ?_
  refine hm_aload_n C nd_MO_init_112 rfl ?_
  refine hm_sipush (v := 520) C nd_MO_init_113 (by decide) ?_
  refine hm_pnew (t := 3) (N := 520) C rfl (Or.inl rfl) nai rfl (by decide) (by omega) (by omega) rfl nd_MO_init_116 (fun q11 hq11 => ?_)
  have ok12 : rf_okk (va_up (va_up (va_up (va_up (va_up (va_up (va_up (va_up (va_up (va_up (va_up (va_up (fun _ => 0) 0 q0) 1 q1) 2 q2) 3 q3) 4 q4) 5 q5) 6 q6) 7 q7) 8 q8) 9 q9) 10 q10) 11 q11) m 12 := rf_okk_s ok11 (rf_K_q hq11)
  refine hm_eqM (M' := rf_K D m (va_up (va_up (va_up (va_up (va_up (va_up (va_up (va_up (va_up (va_up (va_up (va_up (fun _ => 0) 0 q0) 1 q1) 2 q2) 3 q3) 4 q4) 5 q5) 6 q6) 7 q7) 8 q8) 9 q9) 10 q10) 11 q11) 12 [.int 1, .ref q0, .ref q1, .ref q2, .ref q3, .ref q4, .ref q5, .ref q6, .int 1, .int 0, .int 0, .ref q7, .ref q8, .ref q9, .ref q10, .int 0, .null, .null, .int 0, .null, .null, .null, .int 0]) (rf_K_n hq11) ?_
  refine hm_putF C nF_MO_54 rf_K_m (Nat.le_of_ble_eq_true rfl) rfl rfl nd_MO_init_118 ?_
  refine hm_eqM (M' := rf_K D m (va_up (va_up (va_up (va_up (va_up (va_up (va_up (va_up (va_up (va_up (va_up (va_up (fun _ => 0) 0 q0) 1 q1) 2 q2) 3 q3) 4 q4) 5 q5) 6 q6) 7 q7) 8 q8) 9 q9) 10 q10) 11 q11) 12 [.int 1, .ref q0, .ref q1, .ref q2, .ref q3, .ref q4, .ref q5, .ref q6, .int 1, .int 0, .int 0, .ref q7, .ref q8, .ref q9, .ref q10, .int 0, .ref q11, .null, .int 0, .null, .null, .null, .int 0]) rf_K_p ?_
  refine hm_aload_n C nd_MO_init_121 rfl ?_
  refine hm_sipush (v := 520) C nd_MO_init_122 (by decide) ?_
  refine hm_pnew (t := 3) (N := 520) C rfl (Or.inl rfl) nai rfl (by decide) (by omega) (by omega) rfl nd_MO_init_125 (fun q12 hq12 => ?_)
  have ok13 : rf_okk (va_up (va_up (va_up (va_up (va_up (va_up (va_up (va_up (va_up (va_up (va_up (va_up (va_up (fun _ => 0) 0 q0) 1 q1) 2 q2) 3 q3) 4 q4) 5 q5) 6 q6) 7 q7) 8 q8) 9 q9) 10 q10) 11 q11) 12 q12) m 13 := rf_okk_s ok12 (rf_K_q hq12)
  refine hm_eqM (M' := rf_K D m (va_up (va_up (va_up (va_up (va_up (va_up (va_up (va_up (va_up (va_up (va_up (va_up (va_up (fun _ => 0) 0 q0) 1 q1) 2 q2) 3 q3) 4 q4) 5 q5) 6 q6) 7 q7) 8 q8) 9 q9) 10 q10) 11 q11) 12 q12) 13 [.int 1, .ref q0, .ref q1, .ref q2, .ref q3, .ref q4, .ref q5, .ref q6, .int 1, .int 0, .int 0, .ref q7, .ref q8, .ref q9, .ref q10, .int 0, .ref q11, .null, .int 0, .null, .null, .null, .int 0]) (rf_K_n hq12) ?_
  refine hm_putF C nF_MO_57 rf_K_m (Nat.le_of_ble_eq_true rfl) rfl rfl nd_MO_init_127 ?_
  refine hm_eqM (M' := rf_K D m (va_up (va_up (va_up (va_up (va_up (va_up (va_up (va_up (va_up (va_up (va_up (va_up (va_up (fun _ => 0) 0 q0) 1 q1) 2 q2) 3 q3) 4 q4) 5 q5) 6 q6) 7 q7) 8 q8) 9 q9) 10 q10) 11 q11) 12 q12) 13 [.int 1, .ref q0, .ref q1, .ref q2, .ref q3, .ref q4, .ref q5, .ref q6, .int 1, .int 0, .int 0, .ref q7, .ref q8, .ref q9, .ref q10, .int 0, .ref q11, .ref q12, .int 0, .null, .null, .null, .int 0]) rf_K_p ?_
  refine hm_aload_n C nd_MO_init_130 rfl ?_
  refine hm_bipush (v := 66) C nd_MO_init_131 (by decide) ?_
  refine hm_pnew (t := 3) (N := 66) C rfl (Or.inl rfl) nai rfl (by decide) (by omega) (by omega) rfl nd_MO_init_133 (fun q13 hq13 => ?_)
  have ok14 : rf_okk (va_up (va_up (va_up (va_up (va_up (va_up (va_up (va_up (va_up (va_up (va_up (va_up (va_up (va_up (fun _ => 0) 0 q0) 1 q1) 2 q2) 3 q3) 4 q4) 5 q5) 6 q6) 7 q7) 8 q8) 9 q9) 10 q10) 11 q11) 12 q12) 13 q13) m 14 := rf_okk_s ok13 (rf_K_q hq13)
  refine hm_eqM (M' := rf_K D m (va_up (va_up (va_up (va_up (va_up (va_up (va_up (va_up (va_up (va_up (va_up (va_up (va_up (va_up (fun _ => 0) 0 q0) 1 q1) 2 q2) 3 q3) 4 q4) 5 q5) 6 q6) 7 q7) 8 q8) 9 q9) 10 q10) 11 q11) 12 q12) 13 q13) 14 [.int 1, .ref q0, .ref q1, .ref q2, .ref q3, .ref q4, .ref q5, .ref q6, .int 1, .int 0, .int 0, .ref q7, .ref q8, .ref q9, .ref q10, .int 0, .ref q11, .ref q12, .int 0, .null, .null, .null, .int 0]) (rf_K_n hq13) ?_
  refine hm_putF C nF_MO_60 rf_K_m (Nat.le_of_ble_eq_true rfl) rfl rfl nd_MO_init_135 ?_
  refine hm_eqM (M' := rf_K D m (va_up (va_up (va_up (va_up (va_up (va_up (va_up (va_up (va_up (va_up (va_up (va_up (va_up (va_up (fun _ => 0) 0 q0) 1 q1) 2 q2) 3 q3) 4 q4) 5 q5) 6 q6) 7 q7) 8 q8) 9 q9) 10 q10) 11 q11) 12 q12) 13 q13) 14 [.int 1, .ref q0, .ref q1, .ref q2, .ref q3, .ref q4, .ref q5, .ref q6, .int 1, .int 0, .int 0, .ref q7, .ref q8, .ref q9, .ref q10, .int 0, .ref q11, .ref q12, .int 0, .ref q13, .null, .null, .int 0]) rf_K_p ?_
  refine hm_aload_n C nd_MO_init_138 rfl ?_
  refine hm_bipush (v := 66) C nd_MO_init_139 (by decide) ?_
  refine hm_pnew (t := 3) (N := 66) C rfl (Or.inl rfl) nai rfl (by decide) (by omega) (by omega) rfl nd_MO_init_141 (fun q14 hq14 => ?_)
  have ok15 : rf_okk (va_up (va_up (va_up (va_up (va_up (va_up (va_up (va_up (va_up (va_up (va_up (va_up (va_up (va_up (va_up (fun _ => 0) 0 q0) 1 q1) 2 q2) 3 q3) 4 q4) 5 q5) 6 q6) 7 q7) 8 q8) 9 q9) 10 q10) 11 q11) 12 q12) 13 q13) 14 q14) m 15 := rf_okk_s ok14 (rf_K_q hq14)
  refine hm_eqM (M' := rf_K D m (va_up (va_up (va_up (va_up (va_up (va_up (va_up (va_up (va_up (va_up (va_up (va_up (va_up (va_up (va_up (fun _ => 0) 0 q0) 1 q1) 2 q2) 3 q3) 4 q4) 5 q5) 6 q6) 7 q7) 8 q8) 9 q9) 10 q10) 11 q11) 12 q12) 13 q13) 14 q14) 15 [.int 1, .ref q0, .ref q1, .ref q2, .ref q3, .ref q4, .ref q5, .ref q6, .int 1, .int 0, .int 0, .ref q7, .ref q8, .ref q9, .ref q10, .int 0, .ref q11, .ref q12, .int 0, .ref q13, .null, .null, .int 0]) (rf_K_n hq14) ?_
  refine hm_putF C nF_MO_63 rf_K_m (Nat.le_of_ble_eq_true rfl) rfl rfl nd_MO_init_143 ?_
  refine hm_eqM (M' := rf_K D m (va_up (va_up (va_up (va_up (va_up (va_up (va_up (va_up (va_up (va_up (va_up (va_up (va_up (va_up (va_up (fun _ => 0) 0 q0) 1 q1) 2 q2) 3 q3) 4 q4) 5 q5) 6 q6) 7 q7) 8 q8) 9 q9) 10 q10) 11 q11) 12 q12) 13 q13) 14 q14) 15 [.int 1, .ref q0, .ref q1, .ref q2, .ref q3, .ref q4, .ref q5, .ref q6, .int 1, .int 0, .int 0, .ref q7, .ref q8, .ref q9, .ref q10, .int 0, .ref q11, .ref q12, .int 0, .ref q13, .ref q14, .null, .int 0]) rf_K_p ?_
  refine hm_aload_n C nd_MO_init_146 rfl ?_
  refine hm_bipush (v := 33) C nd_MO_init_147 (by decide) ?_
  refine hm_pnew (t := 3) (N := 33) C rfl (Or.inl rfl) nai rfl (by decide) (by omega) (by omega) rfl nd_MO_init_149 (fun q15 hq15 => ?_)
  have ok16 : rf_okk (va_up (va_up (va_up (va_up (va_up (va_up (va_up (va_up (va_up (va_up (va_up (va_up (va_up (va_up (va_up (va_up (fun _ => 0) 0 q0) 1 q1) 2 q2) 3 q3) 4 q4) 5 q5) 6 q6) 7 q7) 8 q8) 9 q9) 10 q10) 11 q11) 12 q12) 13 q13) 14 q14) 15 q15) m 16 := rf_okk_s ok15 (rf_K_q hq15)
  refine hm_eqM (M' := rf_K D m (va_up (va_up (va_up (va_up (va_up (va_up (va_up (va_up (va_up (va_up (va_up (va_up (va_up (va_up (va_up (va_up (fun _ => 0) 0 q0) 1 q1) 2 q2) 3 q3) 4 q4) 5 q5) 6 q6) 7 q7) 8 q8) 9 q9) 10 q10) 11 q11) 12 q12) 13 q13) 14 q14) 15 q15) 16 [.int 1, .ref q0, .ref q1, .ref q2, .ref q3, .ref q4, .ref q5, .ref q6, .int 1, .int 0, .int 0, .ref q7, .ref q8, .ref q9, .ref q10, .int 0, .ref q11, .ref q12, .int 0, .ref q13, .ref q14, .null, .int 0]) (rf_K_n hq15) ?_
  refine hm_putF C nF_MO_66 rf_K_m (Nat.le_of_ble_eq_true rfl) rfl rfl nd_MO_init_151 ?_
  refine hm_eqM (M' := rf_K D m (va_up (va_up (va_up (va_up (va_up (va_up (va_up (va_up (va_up (va_up (va_up (va_up (va_up (va_up (va_up (va_up (fun _ => 0) 0 q0) 1 q1) 2 q2) 3 q3) 4 q4) 5 q5) 6 q6) 7 q7) 8 q8) 9 q9) 10 q10) 11 q11) 12 q12) 13 q13) 14 q14) 15 q15) 16 [.int 1, .ref q0, .ref q1, .ref q2, .ref q3, .ref q4, .ref q5, .ref q6, .int 1, .int 0, .int 0, .ref q7, .ref q8, .ref q9, .ref q10, .int 0, .ref q11, .ref q12, .int 0, .ref q13, .ref q14, .ref q15, .int 0]) rf_K_p ?_
  obtain ⟨A, hAA⟩ : ∃ A, A = va_up (va_up (va_up (va_up (va_up (va_up (va_up (va_up (va_up (va_up (va_up (va_up (va_up (va_up (va_up (va_up (fun _ => 0) 0 q0) 1 q1) 2 q2) 3 q3) 4 q4) 5 q5) 6 q6) 7 q7) 8 q8) 9 q9) 10 q10) 11 q11) 12 q12) 13 q13) 14 q14) 15 q15 := ⟨_, rfl⟩
  have hA : rf_ok A m := by rw [hAA]; exact ok16
  refine hm_eqM (M' := rf_M D m A (fun i => if i = 0 then 1 else if i = 1 then 1 else 0) (fun _ _ => 0)) (by rw [hAA]; rfl) ?_
  have hp0 := rp0
  refine hm_aload_n C nd_MO_init_154 rfl ?_
  refine hm_callV C (ct_MO_draw m A hA (fun i => if i = 0 then 1 else if i = 1 then 1 else 0) (fun _ _ => 0) 1 (fun _ => (0, 0, 0, 0)) (fun _ => 0) 0 hp0 (by omega) (by omega)) nV_MO_draw [] rfl rf_m rfl nq_MO_69 nj_MO_draw nx_MO_draw rfl (rest := []) rfl (Nat.le_of_ble_eq_true rfl) (by decide) (by decide) (by omega) (by omega) nd_MO_init_155 (fun r M1 hp => ?_)
  obtain ⟨t1, sc1, ar1, n1, q1, vl1, rfl, rfl, hp1, hx1, h11, h21, h31, h41⟩ := hp
  refine hm_stk (st' := [.int (nI t1)]) rfl ?_
  have g1 : rgo 1 (fun _ => (0, 0, 0, 0)) (fun _ => 0) n1 q1 vl1 := ⟨hx1.1, hx1.2.2.1⟩
  have ub1 := hx1.2.1
  have lb1 := hx1.1
  refine hm_istore_n C [(1, .int (nI t1)), (0, .ref m)] nd_MO_init_158 (by decide) rfl ?_
  refine hm_aload_n C nd_MO_init_159 rfl ?_
  refine hm_callV C (ct_MO_draw m A hA sc1 ar1 n1 q1 vl1 1 hp1 (by omega) (by omega)) nV_MO_draw [] rfl rf_m rfl nq_MO_69 nj_MO_draw nx_MO_draw rfl (rest := []) rfl (Nat.le_of_ble_eq_true rfl) (by decide) (by decide) (by omega) (by omega) nd_MO_init_160 (fun r M2 hp => ?_)
  obtain ⟨t2, sc2, ar2, n2, q2, vl2, rfl, rfl, hp2, hx2, h12, h22, h32, h42⟩ := hp
  refine hm_stk (st' := [.int (nI t2)]) rfl ?_
  have g2 : rgo n1 q1 vl1 n2 q2 vl2 := ⟨hx2.1, hx2.2.2.1⟩
  have ub2 := hx2.2.1
  have lb2 := hx2.1
  refine hm_istore_n C [(2, .int (nI t2)), (1, .int (nI t1)), (0, .ref m)] nd_MO_init_163 (by decide) rfl ?_
  refine hm_aload_n C nd_MO_init_164 rfl ?_
  refine hm_callV C (ct_MO_draw m A hA sc2 ar2 n2 q2 vl2 2 hp2 (by omega) (by omega)) nV_MO_draw [] rfl rf_m rfl nq_MO_69 nj_MO_draw nx_MO_draw rfl (rest := []) rfl (Nat.le_of_ble_eq_true rfl) (by decide) (by decide) (by omega) (by omega) nd_MO_init_165 (fun r M3 hp => ?_)
  obtain ⟨t3, sc3, ar3, n3, q3, vl3, rfl, rfl, hp3, hx3, h13, h23, h33, h43⟩ := hp
  refine hm_stk (st' := [.int (nI t3)]) rfl ?_
  have g3 : rgo n2 q2 vl2 n3 q3 vl3 := ⟨hx3.1, hx3.2.2.1⟩
  have ub3 := hx3.2.1
  have lb3 := hx3.1
  refine hm_istore_n C [(3, .int (nI t3)), (2, .int (nI t2)), (1, .int (nI t1)), (0, .ref m)] nd_MO_init_168 (by decide) rfl ?_
  refine hm_aload_n C nd_MO_init_169 rfl ?_
  refine hm_callV C (ct_MO_draw m A hA sc3 ar3 n3 q3 vl3 3 hp3 (by omega) (by omega)) nV_MO_draw [] rfl rf_m rfl nq_MO_69 nj_MO_draw nx_MO_draw rfl (rest := []) rfl (Nat.le_of_ble_eq_true rfl) (by decide) (by decide) (by omega) (by omega) nd_MO_init_170 (fun r M4 hp => ?_)
  obtain ⟨t4, sc4, ar4, n4, q4, vl4, rfl, rfl, hp4, hx4, h14, h24, h34, h44⟩ := hp
  refine hm_stk (st' := [.int (nI t4)]) rfl ?_
  have g4 : rgo n3 q3 vl3 n4 q4 vl4 := ⟨hx4.1, hx4.2.2.1⟩
  have ub4 := hx4.2.1
  have lb4 := hx4.1
  refine hm_istore C [(4, .int (nI t4)), (3, .int (nI t3)), (2, .int (nI t2)), (1, .int (nI t1)), (0, .ref m)] nd_MO_init_173 (by decide) rfl ?_
  refine hm_aload_n C nd_MO_init_175 rfl ?_
  refine hm_aload_n C nd_MO_init_176 rfl ?_
  refine hm_iload C nd_MO_init_177 rfl ?_
  refine hm_callV C (ct_MO_publicOf m A hA sc4 ar4 n4 q4 vl4 4 hp4 (by omega) t4 h24 h34) nV_MO_publicOf [.int (nI t4)] rfl rf_m rfl nq_MO_73 nj_MO_publicOf nx_MO_publicOf rfl (rest := [.ref m]) rfl (Nat.le_of_ble_eq_true rfl) (by decide) (by decide) (by omega) (by omega) nd_MO_init_179 (fun r M5 hp => ?_)
  obtain ⟨t5, sc5, ar5, n5, q5, vl5, rfl, rfl, hp5, hx5, h15, h25, h35, h45⟩ := hp
  refine hm_stk (st' := [.int (nI t5), .ref m]) rfl ?_
  have g5 : rgo n4 q4 vl4 n5 q5 vl5 := ⟨hx5.1, hx5.2.2.1⟩
  have ub5 := hx5.2.1
  have lb5 := hx5.1
  refine hm_put C nF_MO_77 rf_m (Nat.le_of_ble_eq_true rfl) rfl rfl nd_MO_init_182 ?_
  refine hm_eqM (rf_pt (sc' := va_up sc5 5 (nI t5))) ?_
  have g15 := g2.tr (g3.tr (g4.tr g5))
  have r3 := (g4.tr g5).2 t3 h23
  have r2 := (g3.tr (g4.tr g5)).2 t2 h22
  have r1 := g15.2 t1 h21
  have hp5' : rp (va_up sc5 5 (nI t5)) ar5 n5 q5 vl5 4 := hp5.sc rfl rfl
  refine hm_aload_n C nd_MO_init_185 rfl ?_
  refine hm_iload_n C nd_MO_init_186 rfl ?_
  refine hm_iload_n C nd_MO_init_187 rfl ?_
  refine hm_callV C (ct_MO_shared m A hA (va_up sc5 5 (nI t5)) ar5 n5 q5 vl5 4 hp5' (by omega) t3 t2 (by omega) (by omega) (by rw [r3.1]; exact h33) (by rw [r2.1]; exact h32)) nV_MO_shared [.int (nI t3), .int (nI t2)] rfl rf_m rfl nq_MO_80 nj_MO_shared nx_MO_shared rfl (rest := []) rfl (Nat.le_of_ble_eq_true rfl) (by decide) (by decide) (by omega) (by omega) nd_MO_init_188 (fun r M6 hp => ?_)
  obtain ⟨t6, sc6, ar6, n6, q6, vl6, rfl, rfl, hp6, hx6, h16, h26, h36, h46⟩ := hp
  refine hm_stk (st' := [.int (nI t6)]) rfl ?_
  have g6 : rgo n5 q5 vl5 n6 q6 vl6 := ⟨hx6.1, hx6.2.2.1⟩
  have ub6 := hx6.2.1
  have lb6 := hx6.1
  have v6 : vl6 t6 = sm_sh sp_r sp_p := by rw [h46, r3.2, h43, r2.2, h42]; rfl
  have r16 := (g15.tr g6).2 t1 h21
  refine hm_istore C [(5, .int (nI t6)), (4, .int (nI t4)), (3, .int (nI t3)), (2, .int (nI t2)), (1, .int (nI t1)), (0, .ref m)] nd_MO_init_191 (by decide) rfl ?_
  refine hm_aload_n C nd_MO_init_193 rfl ?_
  refine hm_get C nF_MO_60 rf_m rfl nd_MO_init_194 ?_
  refine hm_iconst (v := 0) C nd_MO_init_197 (by decide) ?_
  refine hm_aload_n C nd_MO_init_198 rfl ?_
  refine hm_iconst (v := 4) C nd_MO_init_199 (by decide) ?_
  refine hm_iload_n C nd_MO_init_200 rfl ?_
  refine hm_iload C nd_MO_init_201 rfl ?_
  refine hm_stk (st' := [.int (nI t6), .int (nI t1), .int (nI 4), .ref m, .int 0, .ref (A 13)]) rfl ?_
  refine hm_callV C (ct_MO_mix m A hA sc6 ar6 n6 q6 vl6 4 hp6 (by omega) 4 t1 t6 (by omega) (by omega) (by omega) h26 (by rw [r16.1, h31]; decide) (by rw [h36]; decide)) nV_MO_mix [.int (nI 4), .int (nI t1), .int (nI t6)] rfl rf_m rfl nq_MO_84 nj_MO_mix nx_MO_mix rfl (rest := [.int 0, .ref (A 13)]) rfl (Nat.le_of_ble_eq_true rfl) (by decide) (by decide) (by omega) (by omega) nd_MO_init_203 (fun r M7 hp => ?_)
  obtain ⟨t7, sc7, ar7, n7, q7, vl7, rfl, rfl, hp7, hx7, h17, h27, h37, h47⟩ := hp
  refine hm_stk (st' := [.int (nI t7), .int 0, .ref (A 13)]) rfl ?_
  have g7 : rgo n6 q6 vl6 n7 q7 vl7 := ⟨hx7.1, hx7.2.2.1⟩
  have ub7 := hx7.2.1
  have lb7 := hx7.1
  have v7 : vl7 t7 = sm_t 4 sp_c (sm_sh sp_r sp_p) := by rw [h47, r16.2, h41, v6]; rfl
  refine hm_iast (t := 3) (N := 66) (j := 0) (f := (ar7 13)) C rfl (rf_at hA (i := 13) (by decide)) rfl (by omega) (by decide) nd_MO_init_206 ?_
  refine hm_eqM (rf_up hA (i := 13) (by decide) (upd (ar7 13) 0 (nI t7))) ?_
  refine hm_aload_n C nd_MO_init_207 rfl ?_
  refine hm_get C nF_MO_60 rf_m rfl nd_MO_init_208 ?_
  refine hm_iconst (v := 1) C nd_MO_init_211 (by decide) ?_
  refine hm_iload_n C nd_MO_init_212 rfl ?_
  refine hm_iast (t := 3) (N := 66) (j := 1) (f := (upd (ar7 13) 0 (nI t7))) C rfl (rf_at hA (i := 13) (by decide)) rfl (by omega) (by decide) nd_MO_init_213 ?_
  refine hm_eqM (rf_up hA (i := 13) (by decide) (upd (upd (ar7 13) 0 (nI t7)) 1 (nI t3))) ?_
  refine hm_aload_n C nd_MO_init_214 rfl ?_
  refine hm_get C nF_MO_60 rf_m rfl nd_MO_init_215 ?_
  refine hm_iconst (v := 2) C nd_MO_init_218 (by decide) ?_
  refine hm_aload_n C nd_MO_init_219 rfl ?_
  refine hm_iload_n C nd_MO_init_220 rfl ?_
  have r27 := (g3.tr (g4.tr (g5.tr (g6.tr g7)))).2 t2 h22
  refine hm_callV C (ct_MO_publicOf m A hA sc7 (va_up (va_up ar7 13 (upd (ar7 13) 0 (nI t7))) 13 (upd (upd (ar7 13) 0 (nI t7)) 1 (nI t3))) n7 q7 vl7 4 (hp7.ha (fun i hi => by repeat rw [va_up_ne _ _ (by omega)])) (by omega) t2 (by omega) (by rw [r27.1]; exact h32)) nV_MO_publicOf [.int (nI t2)] rfl rf_m rfl nq_MO_73 nj_MO_publicOf nx_MO_publicOf rfl (rest := [.int 2, .ref (A 13)]) rfl (Nat.le_of_ble_eq_true rfl) (by decide) (by decide) (by omega) (by omega) nd_MO_init_221 (fun r M8 hp => ?_)
  obtain ⟨t8, sc8, ar8, n8, q8, vl8, rfl, rfl, hp8, hx8, h18, h28, h38, h48⟩ := hp
  refine hm_stk (st' := [.int (nI t8), .int 2, .ref (A 13)]) rfl ?_
  have g8 : rgo n7 q7 vl7 n8 q8 vl8 := ⟨hx8.1, hx8.2.2.1⟩
  have ub8 := hx8.2.1
  have lb8 := hx8.1
  have v8 : vl8 t8 = sm_t 1 sp_p 0 := by rw [h48, r27.2, h42]; rfl
  have f8 : ar8 13 = (upd (upd (ar7 13) 0 (nI t7)) 1 (nI t3)) := hx8.2.2.2.2.1 13 (by decide) (by decide)
  have r18 := (g15.tr (g6.tr (g7.tr g8))).2 t1 h21
  have r68 := (g7.tr g8).2 t6 h26
  refine hm_iast (t := 3) (N := 66) (j := 2) (f := (ar8 13)) C rfl (rf_at hA (i := 13) (by decide)) rfl (by omega) (by decide) nd_MO_init_224 ?_
  refine hm_eqM (rf_up hA (i := 13) (by decide) (upd (ar8 13) 2 (nI t8))) ?_
  refine hm_aload_n C nd_MO_init_225 rfl ?_
  refine hm_get C nF_MO_60 rf_m rfl nd_MO_init_226 ?_
  refine hm_iconst (v := 3) C nd_MO_init_229 (by decide) ?_
  refine hm_aload_n C nd_MO_init_230 rfl ?_
  refine hm_iconst (v := 5) C nd_MO_init_231 (by decide) ?_
  refine hm_iload_n C nd_MO_init_232 rfl ?_
  refine hm_iload C nd_MO_init_233 rfl ?_
  refine hm_stk (st' := [.int (nI t6), .int (nI t1), .int (nI 5), .ref m, .int 3, .ref (A 13)]) rfl ?_
  refine hm_callV C (ct_MO_mix m A hA sc8 (va_up ar8 13 (upd (ar8 13) 2 (nI t8))) n8 q8 vl8 4 (hp8.ha (fun i hi => by repeat rw [va_up_ne _ _ (by omega)])) (by omega) 5 t1 t6 (by omega) (by omega) (by omega) (by omega) (by rw [r18.1, h31]; decide) (by rw [r68.1, h36]; decide)) nV_MO_mix [.int (nI 5), .int (nI t1), .int (nI t6)] rfl rf_m rfl nq_MO_84 nj_MO_mix nx_MO_mix rfl (rest := [.int 3, .ref (A 13)]) rfl (Nat.le_of_ble_eq_true rfl) (by decide) (by decide) (by omega) (by omega) nd_MO_init_235 (fun r M9 hp => ?_)
  obtain ⟨t9, sc9, ar9, n9, q9, vl9, rfl, rfl, hp9, hx9, h19, h29, h39, h49⟩ := hp
  refine hm_stk (st' := [.int (nI t9), .int 3, .ref (A 13)]) rfl ?_
  have g9 : rgo n8 q8 vl8 n9 q9 vl9 := ⟨hx9.1, hx9.2.2.1⟩
  have ub9 := hx9.2.1
  have lb9 := hx9.1
  have v9 : vl9 t9 = sm_t 5 sp_c (sm_sh sp_r sp_p) := by rw [h49, r18.2, h41, r68.2, v6]; rfl
  have f9 : ar9 13 = (upd (ar8 13) 2 (nI t8)) := hx9.2.2.2.2.1 13 (by decide) (by decide)
  refine hm_iast (t := 3) (N := 66) (j := 3) (f := (ar9 13)) C rfl (rf_at hA (i := 13) (by decide)) rfl (by omega) (by decide) nd_MO_init_238 ?_
  refine hm_eqM (rf_up hA (i := 13) (by decide) (upd (ar9 13) 3 (nI t9))) ?_
  refine hm_aload_n C nd_MO_init_239 rfl ?_
  refine hm_get C nF_MO_60 rf_m rfl nd_MO_init_240 ?_
  refine hm_bipush (v := 33) C nd_MO_init_243 (by decide) ?_
  refine hm_iload_n C nd_MO_init_245 rfl ?_
  refine hm_iast (t := 3) (N := 66) (j := 33) (f := (upd (ar9 13) 3 (nI t9))) C rfl (rf_at hA (i := 13) (by decide)) rfl (by omega) (by decide) nd_MO_init_246 ?_
  refine hm_eqM (rf_up hA (i := 13) (by decide) (upd (upd (ar9 13) 3 (nI t9)) 33 (nI t1))) ?_
  refine hm_aload_n C nd_MO_init_247 rfl ?_
  refine hm_get C nF_MO_60 rf_m rfl nd_MO_init_248 ?_
  refine hm_bipush (v := 34) C nd_MO_init_251 (by decide) ?_
  refine hm_iload_n C nd_MO_init_253 rfl ?_
  refine hm_iast (t := 3) (N := 66) (j := 34) (f := (upd (upd (ar9 13) 3 (nI t9)) 33 (nI t1))) C rfl (rf_at hA (i := 13) (by decide)) rfl (by omega) (by decide) nd_MO_init_254 ?_
  refine hm_eqM (rf_up hA (i := 13) (by decide) (upd (upd (upd (ar9 13) 3 (nI t9)) 33 (nI t1)) 34 (nI t2))) ?_
  refine hm_iconst (v := 0) C nd_MO_init_255 (by decide) ?_
  refine hm_istore C [(6, .int 0), (5, .int (nI t6)), (4, .int (nI t4)), (3, .int (nI t3)), (2, .int (nI t2)), (1, .int (nI t1)), (0, .ref m)] nd_MO_init_256 (by decide) rfl ?_
  refine hm_less (lv' := [(6, .int (nI 0)), (0, .ref m)]) (fun z hz => by simp only [List.mem_cons, List.not_mem_nil, or_false] at hz ⊢; rcases hz with h | h <;> subst h <;> simp [nI_0]) ?_
  have z13 : ∀ i x, i = 13 ∨ i = 14 → ar7 i x = 0 := by
    intro i x hi
    have e : ar7 i = fun _ => 0 := by
      rw [hx7.2.2.2.2.1 i (by omega) (by omega), hx6.2.2.2.2.1 i (by omega) (by omega), hx5.2.2.2.2.1 i (by omega) (by omega), hx4.2.2.2.2.1 i (by omega) (by omega), hx3.2.2.2.2.1 i (by omega) (by omega), hx2.2.2.2.2.1 i (by omega) (by omega), hx1.2.2.2.2.1 i (by omega) (by omega)]
    rw [e]
  have g19 := (g2.tr (g3.tr (g4.tr (g5.tr (g6.tr (g7.tr (g8.tr g9)))))))
  have i1 : rid n9 q9 vl9 (nI t1) sp_c := rid.go ⟨t1, rfl, h21, by rw [h31]; decide, h41⟩ g19
  have i2 : rid n9 q9 vl9 (nI t2) sp_p := rid.go ⟨t2, rfl, h22, by rw [h32]; decide, h42⟩ (g3.tr (g4.tr (g5.tr (g6.tr (g7.tr (g8.tr g9))))))
  have i3 : rid n9 q9 vl9 (nI t3) sp_r := rid.go ⟨t3, rfl, h23, by rw [h33]; decide, h43⟩ (g4.tr (g5.tr (g6.tr (g7.tr (g8.tr g9)))))
  have i7 : rid n9 q9 vl9 (nI t7) (sm_t 4 sp_c (sm_sh sp_r sp_p)) := rid.go ⟨t7, rfl, h27, by rw [h37]; decide, v7⟩ (g8.tr g9)
  have i8 : rid n9 q9 vl9 (nI t8) (sm_t 1 sp_p 0) := rid.go ⟨t8, rfl, h28, by rw [h38]; decide, v8⟩ g9
  have i9 : rid n9 q9 vl9 (nI t9) (sm_t 5 sp_c (sm_sh sp_r sp_p)) := ⟨t9, rfl, h29, by rw [h39]; decide, v9⟩
  have i5 : rid n9 q9 vl9 (sc9 5) sp_b := by
    rw [hx9.2.2.2.1 5 (by decide) (by decide), hx8.2.2.2.1 5 (by decide) (by decide), hx7.2.2.2.1 5 (by decide) (by decide), hx6.2.2.2.1 5 (by decide) (by decide), va_up_self]
    refine rid.go ⟨t5, rfl, h25, by rw [h35]; decide, ?_⟩ (g6.tr (g7.tr (g8.tr g9)))
    rw [h45, h44]
    rfl
  have hno := hp9.n
  have hN : (upd (upd (upd (ar9 13) 3 (nI t9)) 33 (nI t1)) 34 (nI t2)) = upd (upd (upd (upd (upd (upd (ar7 13) 0 (nI t7)) 1 (nI t3)) 2 (nI t8)) 3 (nI t9)) 33 (nI t1)) 34 (nI t2) := by rw [f9, f8]
  generalize hNW : (upd (upd (upd (ar9 13) 3 (nI t9)) 33 (nI t1)) 34 (nI t2)) = NW at hN
  have E0 : re n9 q9 vl9 (fun k => NW (33 * 0 + k)) (sp_E0 0) := by
    rw [hN]
    refine ⟨?_, ?_, ?_, ?_, ?_, ?_, ?_, ?_, ?_, by decide, fun i z hz => by cases hz⟩
    · exact i7
    · exact i3
    · exact i8
    · exact i9
    · exact z13 13 4 (Or.inl rfl)
    · exact z13 13 5 (Or.inl rfl)
    · show rid n9 q9 vl9 (ar7 13 6) 0
      rw [z13 13 6 (Or.inl rfl)]; exact hno
    · exact z13 13 7 (Or.inl rfl)
    · exact z13 13 8 (Or.inl rfl)
  have E1 : re n9 q9 vl9 (fun k => NW (33 * 1 + k)) (sp_E0 1) := by
    rw [hN]
    refine ⟨?_, ?_, ?_, ?_, ?_, ?_, ?_, ?_, ?_, by decide, fun i z hz => by cases hz⟩
    · exact i1
    · exact i2
    · show rid n9 q9 vl9 (ar7 13 35) 0
      rw [z13 13 35 (Or.inl rfl)]; exact hno
    · show rid n9 q9 vl9 (ar7 13 36) 0
      rw [z13 13 36 (Or.inl rfl)]; exact hno
    · exact z13 13 37 (Or.inl rfl)
    · exact z13 13 38 (Or.inl rfl)
    · show rid n9 q9 vl9 (ar7 13 39) 0
      rw [z13 13 39 (Or.inl rfl)]; exact hno
    · exact z13 13 40 (Or.inl rfl)
    · exact z13 13 41 (Or.inl rfl)
  have zz : ∀ i, i = 4 ∨ i = 5 → ar9 i = fun _ => 0 := by
    intro i hi
    rw [hx9.2.2.2.2.1 i (by omega) (by omega), va_up_ne _ _ (by omega), hx8.2.2.2.2.1 i (by omega) (by omega), va_up_ne _ _ (by omega), va_up_ne _ _ (by omega), hx7.2.2.2.2.1 i (by omega) (by omega), hx6.2.2.2.2.1 i (by omega) (by omega), hx5.2.2.2.2.1 i (by omega) (by omega), hx4.2.2.2.2.1 i (by omega) (by omega), hx3.2.2.2.2.1 i (by omega) (by omega), hx2.2.2.2.2.1 i (by omega) (by omega), hx1.2.2.2.2.1 i (by omega) (by omega)]
  have xs : ∀ i, i = 1 ∨ i = 3 ∨ i = 4 → sc9 i = (fun i => if i = 0 then 1 else if i = 1 then 1 else 0) i := by
    intro i hi
    rw [hx9.2.2.2.1 i (by omega) (by omega), hx8.2.2.2.1 i (by omega) (by omega), hx7.2.2.2.1 i (by omega) (by omega), hx6.2.2.2.1 i (by omega) (by omega), va_up_ne _ _ (by omega), hx5.2.2.2.1 i (by omega) (by omega), hx4.2.2.2.1 i (by omega) (by omega), hx3.2.2.2.1 i (by omega) (by omega), hx2.2.2.2.1 i (by omega) (by omega), hx1.2.2.2.1 i (by omega) (by omega)]
  have gall := g1.tr g19
  have pp : rpub n9 q9 vl9 sp_p := rpub.go (Or.inr ⟨t8, h18, h28, h38, v8⟩) g9
  have pr : rpub n9 q9 vl9 sp_r := Or.inl rfl
  have srt : ∀ t, 1 ≤ t → t < n9 → (q9 t).1 ≠ 5 ∧ ((q9 t).1 = 3 → vl9 t = sm_sh sp_r sp_p) := by
    intro t z1 z2
    rcases Nat.lt_or_ge t n8 with c8 | c8
    · have e9 := g9.2 t c8
      rw [e9.1, e9.2]
      rcases Nat.lt_or_ge t n7 with c7 | c7
      · have e8 := g8.2 t c7
        rw [e8.1, e8.2]
        rcases Nat.lt_or_ge t n6 with c6 | c6
        · have e7 := g7.2 t c6
          rw [e7.1, e7.2]
          rcases Nat.lt_or_ge t n5 with c5 | c5
          · have e6 := g6.2 t c5
            rw [e6.1, e6.2]
            rcases Nat.lt_or_ge t n4 with c4 | c4
            · have e5 := g5.2 t c4
              rw [e5.1, e5.2]
              rcases Nat.lt_or_ge t n3 with c3 | c3
              · have e4 := g4.2 t c3
                rw [e4.1, e4.2]
                rcases Nat.lt_or_ge t n2 with c2 | c2
                · have e3 := g3.2 t c2
                  rw [e3.1, e3.2]
                  rcases Nat.lt_or_ge t n1 with c1 | c1
                  · have e2 := g2.2 t c1
                    rw [e2.1, e2.2]
                    have h9 := (hx1.2.2.2.2.2 t z1 c1).1
                    exact ⟨by omega, fun z => by omega⟩
                  · have h9 := (hx2.2.2.2.2.2 t c1 c2).1
                    exact ⟨by omega, fun z => by omega⟩
                · have h9 := (hx3.2.2.2.2.2 t c2 c3).1
                  exact ⟨by omega, fun z => by omega⟩
              · have h9 := (hx4.2.2.2.2.2 t c3 c4).1
                exact ⟨by omega, fun z => by omega⟩
            · have h9 := (hx5.2.2.2.2.2 t c4 c5).1
              exact ⟨by omega, fun z => by omega⟩
          · have h9 := hx6.2.2.2.2.2 t c5 c6
            exact ⟨by omega, fun _ => by rw [h9.2, r3.2, h43, r2.2, h42]; rfl⟩
        · have h9 := (hx7.2.2.2.2.2 t c6 c7).1
          exact ⟨by omega, fun z => by omega⟩
      · have h9 := (hx8.2.2.2.2.2 t c7 c8).1
        exact ⟨by omega, fun z => by omega⟩
    · have h9 := (hx9.2.2.2.2.2 t c8 z2).1
      exact ⟨by omega, fun z => by omega⟩
  have fin : ∀ arz : Nat → Nat → Int32, (∀ i, i ≠ 14 → arz i = (va_up (va_up (va_up ar9 13 (upd (ar9 13) 3 (nI t9))) 13 (upd (upd (ar9 13) 3 (nI t9)) 33 (nI t1))) 13 (upd (upd (upd (ar9 13) 3 (nI t9)) 33 (nI t1)) 34 (nI t2))) i) → (∀ k, k < 66 → arz 14 k = NW k) → mo_I sc9 arz n9 q9 vl9 4 (fun _ => false) (fun _ => false) true sp_E0 [] (fun _ => False) := by
    intro arz ha h14
    have e13 : arz 13 = NW := (ha 13 (by decide)).trans hNW
    have e4 : ∀ i, i = 4 ∨ i = 5 → arz i = fun _ => 0 := fun i hi => by
      rw [ha i (by omega)]
      repeat rw [va_up_ne _ _ (by omega)]
      exact zz i hi
    refine ⟨hp9.ha (fun i hi => by rw [ha i (by omega)]; repeat rw [va_up_ne _ _ (by omega)]), by rw [e4 4 (Or.inl rfl)]; exact fun _ _ => rfl, by rw [e4 5 (Or.inr rfl)]; exact fun _ _ => rfl, xs 1 (Or.inl rfl), ⟨xs 3 (Or.inr (Or.inl rfl)), xs 4 (Or.inr (Or.inr rfl))⟩, i5, fun i hi => ?_, fun i hi => ?_, fun i w hw => (by cases hw), ⟨⟨fun t t1 t2 h => (by cases h), fun v h => h.elim, fun t t1 t2 h => absurd h (srt t t1 t2).1⟩, fun t t1 t2 h => (by cases h), fun h => by cases h⟩, ?_, fun i hi => ?_, fun h => absurd rfl h⟩
    · rw [e13]
      obtain rfl | rfl : i = 0 ∨ i = 1 := by omega
      · exact E0
      · exact E1
    · obtain rfl | rfl : i = 0 ∨ i = 1 := by omega
      · exact E0.cg (fun k hk => h14 _ (by omega))
      · exact E1.cg (fun k hk => h14 _ (by omega))
    · refine rg_s.go (n := 1) (q := (fun _ => (0, 0, 0, 0))) (vl := (fun _ => 0)) (dr := 0) (x := sp_r) (y := sp_p) (fun t t1 t2 => by omega) rp0.2.1 hp9.2.1 gall (fun t t1 t2 z => (srt t t1 t2).2 z) pr pp
    · unfold sp_E0
      by_cases c : i = 0 ∨ i = 2
      · rw [if_pos c]; exact pr
      · rw [if_neg c]; exact pp
  have loop : ∀ (v k : Nat) (art : Nat → Nat → Int32), k + v = 66 → (∀ i, i ≠ 14 → art i = (va_up (va_up (va_up ar9 13 (upd (ar9 13) 3 (nI t9))) 13 (upd (upd (ar9 13) 3 (nI t9)) 33 (nI t1))) 13 (upd (upd (upd (ar9 13) 3 (nI t9)) 33 (nI t1)) 34 (nI t2))) i) → (∀ i, i < k → art 14 i = NW i) → hm_W X (rf_M D m A sc9 art) (((((((((((((((((((((((((0 + 1) + 1) + 1) + 1) + 1) + 1) + 1) + 1) + 1) + 1) + 1) + 1) + 1) + 1) + 1) + 1) + 0) + 0) + 0) + 0) + 0) + 0) + 0) + 0) + 0) (((((((((((((((((((((((((0 + 20000) + 20000) + 20000) + 20000) + 20000) + 20000) + 65536) + 520) + 520) + 520) + 520) + 520) + 520) + 66) + 66) + 33) + 0) + 0) + 0) + 0) + 0) + 0) + 0) + 0) + 0) 258 [(6, .int (nI k)), (0, .ref m)] [] := by
    intro v
    induction v with
    | zero =>
      intro k art hu ha h14
      refine hm_iload C nd_MO_init_258 rfl ?_
      refine hm_bipush (v := 66) C nd_MO_init_260 (by decide) ?_
      refine hm_stk (st' := [.int (nI 66), .int (nI k)]) rfl ?_
      refine hm_icmp_ge (tgt := 285) C nd_MO_init_262 (by decide) (fun c1 => ?_) (fun c1 => absurd (show nI 66 ≤ nI k from nI_le (by omega) (by omega)) c1)
      exact hm_vret C E (by omega) (by omega) (⟨rfl, A, sc9, art, n9, q9, vl9, _, _, _, by omega, hA, rfl, fin art ha (fun i hi => h14 i (by omega))⟩) nd_MO_init_285
    | succ v ih =>
      intro k art hu ha h14
      refine hm_iload C nd_MO_init_258 rfl ?_
      refine hm_bipush (v := 66) C nd_MO_init_260 (by decide) ?_
      refine hm_stk (st' := [.int (nI 66), .int (nI k)]) rfl ?_
      refine hm_icmp_ge (tgt := 285) C nd_MO_init_262 (by decide) (fun c1 => absurd c1 (nI_ge (by omega) (by omega))) (fun c1 => ?_)
      refine hm_aload_n C nd_MO_init_265 rfl ?_
      refine hm_get C nF_MO_63 rf_m rfl nd_MO_init_266 ?_
      refine hm_iload C nd_MO_init_269 rfl ?_
      refine hm_aload_n C nd_MO_init_271 rfl ?_
      refine hm_get C nF_MO_60 rf_m rfl nd_MO_init_272 ?_
      refine hm_iload C nd_MO_init_275 rfl ?_
      refine hm_iald (t := 3) (N := 66) (j := k) (f := (art 13)) C rfl (rf_at hA (i := 13) (by decide)) rfl (by omega) (by decide) nd_MO_init_277 ?_
      refine hm_iast (t := 3) (N := 66) (j := k) (f := (art 14)) C rfl (rf_at hA (i := 14) (by decide)) rfl (by omega) (by decide) nd_MO_init_278 ?_
      refine hm_eqM (rf_up hA (i := 14) (by decide) (upd (art 14) k ((art 13) k))) ?_
      refine hm_iinc (x := (nI k)) (v := ((nI k) + 1)) C [(6, .int ((nI k) + 1)), (0, .ref m)] nd_MO_init_279 rfl rfl (by decide) rfl ?_
      refine hm_goto (tgt := 258) C nd_MO_init_282 (by decide) ?_
      refine hm_less (lv' := [(6, .int (nI (k + 1))), (0, .ref m)]) (fun z hz => by simp only [List.mem_cons, List.not_mem_nil, or_false, nI_1] at hz ⊢; rcases hz with h | h <;> subst h <;> simp [nI_0]) ?_
      exact ih (k + 1) _ (by omega) (fun i hi => (va_up_ne _ _ hi).trans (ha i hi)) (fun i hi => (by rw [va_up_self]; by_cases c : i = k; rw [c, pk_us, ha 13 (by decide)]; exact congrFun hNW k; rw [pk_un c]; exact h14 i (by omega)))
  exact loop 66 0 _ (by omega) (fun _ _ => by rw [hNW]) (fun i hi => by omega)
