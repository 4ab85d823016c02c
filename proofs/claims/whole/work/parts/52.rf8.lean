set_option maxHeartbeats 4000000 in
set_option maxRecDepth 100000 in
theorem ct_MO_dropLeft {l : Launch} {D : va_G} {BG : Nat → Option Cell} (m : Nat) (A : Nat → Nat) (hA : rf_ok A m) (sc : Nat → Int32) (ar : Nat → Nat → Int32) (k L : Nat) (hk : k < L) (hL : L ≤ 8) (h8 : ar 15 8 = nI L) : hm_ct l D BG ny_MO_dropLeft prog_8_method_21_code 3 none 0 0 0 0 [.ref m, .int (nI k)] (rf_M D m A sc ar) (fun r M' => r = none ∧ ∃ ar', M' = rf_M D m A sc ar' ∧ (∀ i, i ≠ 15 → ar' i = ar i) ∧ (∀ z, z < 8 → ar' 15 z = ar 15 z) ∧ ar' 15 8 = nI (L - 1) ∧ (∀ z, 9 ≤ z → z < 9 + 3 * k → ar' 15 z = ar 15 z) ∧ (∀ z, 9 + 3 * k ≤ z → z < 9 + 3 * (L - 1) → ar' 15 z = ar 15 (z + 3))) := by
  refine hm_ct_of (by decide +kernel) (by exact Nat.le_of_ble_eq_true rfl) ?_
  intro X C E
  have C : hm_C X l D BG prog_8_method_21_code "TurnedKeysModel" "dropLeft" 3 0 0 0 0 := C
  refine hm_lv (lv' := [(0, .ref m), (1, .int (nI k))]) rfl ?_
  have loop2 : ∀ (u x : Nat) (art : Nat → Nat → Int32), x + u = 33 → 9 + 3 * (L - 1) ≤ x → (∀ i, i ≠ 15 → art i = ar i) → ((∀ z, z < 8 → art 15 z = ar 15 z) ∧ art 15 8 = nI (L - 1) ∧ (∀ z, 9 ≤ z → z < 9 + 3 * k → art 15 z = ar 15 z) ∧ (∀ z, 9 + 3 * k ≤ z → z < 9 + 3 * (L - 1) → art 15 z = ar 15 (z + 3))) → hm_W X (rf_M D m A sc art) 0 0 59 [(2, .int (nI x)), (0, .ref m), (1, .int (nI k))] [] := by
    intro u
    induction u with
    | zero =>
        intro x art hu hx hs hg
        refine hm_iload_n C nd_MO_dropLeft_59 rfl ?_
        refine hm_bipush (v := 33) C nd_MO_dropLeft_60 (by decide) ?_
        refine hm_stk (st' := [.int (nI 33), .int (nI x)]) rfl ?_
        refine hm_icmp_ge (tgt := 78) C nd_MO_dropLeft_62 (by decide) (fun c1 => ?_) (fun c1 => absurd (show nI 33 ≤ nI x from nI_le (by omega) (by omega)) c1)
        exact hm_vret C E (by omega) (by omega) (⟨rfl, art, rfl, hs, hg⟩) nd_MO_dropLeft_78
    | succ u ih =>
        intro x art hu hx hs hg
        refine hm_iload_n C nd_MO_dropLeft_59 rfl ?_
        refine hm_bipush (v := 33) C nd_MO_dropLeft_60 (by decide) ?_
        refine hm_stk (st' := [.int (nI 33), .int (nI x)]) rfl ?_
        refine hm_icmp_ge (tgt := 78) C nd_MO_dropLeft_62 (by decide) (fun c1 => absurd c1 (nI_ge (by omega) (by omega))) (fun c1 => ?_)
        refine hm_aload_n C nd_MO_dropLeft_65 rfl ?_
        refine hm_get C nF_MO_66 rf_m rfl nd_MO_dropLeft_66 ?_
        refine hm_iload_n C nd_MO_dropLeft_69 rfl ?_
        refine hm_iconst (v := 0) C nd_MO_dropLeft_70 (by decide) ?_
        refine hm_iast (t := 3) (N := 33) (j := x) (f := (art 15)) C rfl (rf_at hA (i := 15) (by decide)) rfl (by omega) (by decide) nd_MO_dropLeft_71 ?_
        refine hm_eqM (rf_up hA (i := 15) (by decide) (upd (art 15) x 0)) ?_
        refine hm_iinc (x := (nI x)) (v := ((nI x) + 1)) C [(2, .int ((nI x) + 1)), (0, .ref m), (1, .int (nI k))] nd_MO_dropLeft_72 rfl rfl (by decide) rfl ?_
        refine hm_goto (tgt := 59) C nd_MO_dropLeft_75 (by decide) ?_
        refine hm_less (lv' := [(2, .int (nI (x + 1))), (0, .ref m), (1, .int (nI k))]) (fun z hz => by simp only [List.mem_cons, List.not_mem_nil, or_false, nI_1] at hz ⊢; rcases hz with h | h | h <;> subst h <;> simp [nI_0]) ?_
        exact ih (x + 1) _ (by omega) (by omega) (fun i hi => (va_up_ne _ _ hi).trans (hs i hi)) ⟨fun z hz => (by rw [va_up_self, pk_un (by omega)]; exact hg.1 z hz), by rw [va_up_self, pk_un (by omega)]; exact hg.2.1, fun z z1 z2 => (by rw [va_up_self, pk_un (by omega)]; exact hg.2.2.1 z z1 z2), fun z z1 z2 => (by rw [va_up_self, pk_un (by omega)]; exact hg.2.2.2 z z1 z2)⟩
  have loop1 : ∀ (u x : Nat) (art : Nat → Nat → Int32), x + u = 30 → 9 + 3 * k ≤ x → ((∀ i, i ≠ 15 → art i = ar i) ∧ (∀ z, z < 9 + 3 * k ∨ x ≤ z → art 15 z = ar 15 z) ∧ (∀ z, 9 + 3 * k ≤ z → z < x → art 15 z = ar 15 (z + 3))) → hm_W X (rf_M D m A sc art) 0 0 7 [(2, .int (nI x)), (0, .ref m), (1, .int (nI k))] [] := by
    intro u
    induction u with
    | zero =>
        intro x art hu hx hI
        refine hm_iload_n C nd_MO_dropLeft_7 rfl ?_
        refine hm_iconst (v := 3) C nd_MO_dropLeft_8 (by decide) ?_
        refine hm_iadd C nd_MO_dropLeft_9 ?_
        refine hm_stk (st' := [.int (nI (x + 3))]) (by rw [nI_3]) ?_
        refine hm_bipush (v := 33) C nd_MO_dropLeft_10 (by decide) ?_
        refine hm_stk (st' := [.int (nI 33), .int (nI (x + 3))]) rfl ?_
        have hx30 : x = 30 := by omega
        refine hm_icmp_ge (tgt := 35) C nd_MO_dropLeft_12 (by decide) (fun c1 => ?_) (fun c1 => absurd (show nI 33 ≤ nI (x + 3) from nI_le (by omega) (by omega)) c1)
        refine hm_aload_n C nd_MO_dropLeft_35 rfl ?_
        refine hm_get C nF_MO_66 rf_m rfl nd_MO_dropLeft_36 ?_
        refine hm_bipush (v := 8) C nd_MO_dropLeft_39 (by decide) ?_
        refine hm_dup2 C nd_MO_dropLeft_41 rfl rfl ?_
        refine hm_iald (t := 3) (N := 33) (j := 8) (f := (art 15)) C rfl (rf_at hA (i := 15) (by decide)) rfl (by omega) (by decide) nd_MO_dropLeft_42 ?_
        refine hm_stk (st' := [.int (nI L), .int 8, .ref (A 15)]) (by rw [hI.2.1 8 (by omega), h8]) ?_
        refine hm_iconst (v := 1) C nd_MO_dropLeft_43 (by decide) ?_
        refine hm_isub C nd_MO_dropLeft_44 ?_
        refine hm_stk (st' := [.int (nI (L - 1)), .int 8, .ref (A 15)]) (by rw [nI_m1 (show 1 ≤ L by omega)]) ?_
        refine hm_iast (t := 3) (N := 33) (j := 8) (f := (art 15)) C rfl (rf_at hA (i := 15) (by decide)) rfl (by omega) (by decide) nd_MO_dropLeft_45 ?_
        refine hm_eqM (rf_up hA (i := 15) (by decide) (upd (art 15) 8 (nI (L - 1)))) ?_
        refine hm_bipush (v := 9) C nd_MO_dropLeft_46 (by decide) ?_
        refine hm_iconst (v := 3) C nd_MO_dropLeft_48 (by decide) ?_
        refine hm_aload_n C nd_MO_dropLeft_49 rfl ?_
        refine hm_get C nF_MO_66 rf_m rfl nd_MO_dropLeft_50 ?_
        refine hm_bipush (v := 8) C nd_MO_dropLeft_53 (by decide) ?_
        refine hm_iald (t := 3) (N := 33) (j := 8) (f := (upd (art 15) 8 (nI (L - 1)))) C rfl (rf_at hA (i := 15) (by decide)) rfl (by omega) (by decide) nd_MO_dropLeft_55 ?_
        refine hm_stk (st' := [.int (nI (L - 1)), .int 3, .int 9]) (by rw [pk_us]) ?_
        refine hm_imul C nd_MO_dropLeft_56 ?_
        refine hm_iadd C nd_MO_dropLeft_57 ?_
        refine hm_stk (st' := [.int (nI (9 + 3 * (L - 1)))]) (by rw [rf_9]) ?_
        refine hm_istore_n C [(2, .int (nI (9 + 3 * (L - 1)))), (0, .ref m), (1, .int (nI k))] nd_MO_dropLeft_58 (by decide) rfl ?_
        refine hm_less (lv' := [(2, .int (nI (9 + 3 * (L - 1)))), (0, .ref m), (1, .int (nI k))]) (fun z hz => by simp only [List.mem_cons, List.not_mem_nil, or_false] at hz ⊢; rcases hz with h | h | h <;> subst h <;> simp [nI_0]) ?_
        exact loop2 (33 - (9 + 3 * (L - 1))) _ _ (by omega) (Nat.le_refl _) (fun i hi => (va_up_ne _ _ hi).trans (hI.1 i hi)) ⟨fun z hz => (by rw [va_up_self, pk_un (by omega)]; exact hI.2.1 z (by omega)), by rw [va_up_self, pk_us], fun z z1 z2 => (by rw [va_up_self, pk_un (by omega)]; exact hI.2.1 z (by omega)), fun z z1 z2 => (by rw [va_up_self, pk_un (by omega)]; exact hI.2.2 z z1 (by omega))⟩
    | succ u ih =>
        intro x art hu hx hI
        refine hm_iload_n C nd_MO_dropLeft_7 rfl ?_
        refine hm_iconst (v := 3) C nd_MO_dropLeft_8 (by decide) ?_
        refine hm_iadd C nd_MO_dropLeft_9 ?_
        refine hm_stk (st' := [.int (nI (x + 3))]) (by rw [nI_3]) ?_
        refine hm_bipush (v := 33) C nd_MO_dropLeft_10 (by decide) ?_
        refine hm_stk (st' := [.int (nI 33), .int (nI (x + 3))]) rfl ?_
        refine hm_icmp_ge (tgt := 35) C nd_MO_dropLeft_12 (by decide) (fun c1 => absurd c1 (nI_ge (by omega) (by omega))) (fun c1 => ?_)
        refine hm_aload_n C nd_MO_dropLeft_15 rfl ?_
        refine hm_get C nF_MO_66 rf_m rfl nd_MO_dropLeft_16 ?_
        refine hm_iload_n C nd_MO_dropLeft_19 rfl ?_
        refine hm_aload_n C nd_MO_dropLeft_20 rfl ?_
        refine hm_get C nF_MO_66 rf_m rfl nd_MO_dropLeft_21 ?_
        refine hm_iload_n C nd_MO_dropLeft_24 rfl ?_
        refine hm_iconst (v := 3) C nd_MO_dropLeft_25 (by decide) ?_
        refine hm_iadd C nd_MO_dropLeft_26 ?_
        refine hm_stk (st' := [.int (nI (x + 3)), .ref (A 15), .int (nI x), .ref (A 15)]) (by rw [nI_3]) ?_
        refine hm_iald (t := 3) (N := 33) (j := (x + 3)) (f := (art 15)) C rfl (rf_at hA (i := 15) (by decide)) rfl (by omega) (by decide) nd_MO_dropLeft_27 ?_
        refine hm_iast (t := 3) (N := 33) (j := x) (f := (art 15)) C rfl (rf_at hA (i := 15) (by decide)) rfl (by omega) (by decide) nd_MO_dropLeft_28 ?_
        refine hm_eqM (rf_up hA (i := 15) (by decide) (upd (art 15) x ((art 15) (x + 3)))) ?_
        refine hm_iinc (x := (nI x)) (v := ((nI x) + 1)) C [(2, .int ((nI x) + 1)), (0, .ref m), (1, .int (nI k))] nd_MO_dropLeft_29 rfl rfl (by decide) rfl ?_
        refine hm_goto (tgt := 7) C nd_MO_dropLeft_32 (by decide) ?_
        refine hm_less (lv' := [(2, .int (nI (x + 1))), (0, .ref m), (1, .int (nI k))]) (fun z hz => by simp only [List.mem_cons, List.not_mem_nil, or_false, nI_1] at hz ⊢; rcases hz with h | h | h <;> subst h <;> simp [nI_0]) ?_
        exact ih (x + 1) _ (by omega) (by omega) ⟨fun i hi => (va_up_ne _ _ hi).trans (hI.1 i hi), fun z hz => (by rw [va_up_self, pk_un (by omega)]; exact hI.2.1 z (by omega)), fun z z1 z2 => (by rw [va_up_self]; by_cases c : z = x; rw [c, pk_us]; exact hI.2.1 (x + 3) (by omega); rw [pk_un c]; exact hI.2.2 z z1 (by omega))⟩
  refine hm_bipush (v := 9) C nd_MO_dropLeft_0 (by decide) ?_
  refine hm_iconst (v := 3) C nd_MO_dropLeft_2 (by decide) ?_
  refine hm_iload_n C nd_MO_dropLeft_3 rfl ?_
  refine hm_imul C nd_MO_dropLeft_4 ?_
  refine hm_iadd C nd_MO_dropLeft_5 ?_
  refine hm_stk (st' := [.int (nI (9 + 3 * k))]) (by rw [rf_9]) ?_
  refine hm_istore_n C [(2, .int (nI (9 + 3 * k))), (0, .ref m), (1, .int (nI k))] nd_MO_dropLeft_6 (by decide) rfl ?_
  refine hm_less (lv' := [(2, .int (nI (9 + 3 * k))), (0, .ref m), (1, .int (nI k))]) (fun z hz => by simp only [List.mem_cons, List.not_mem_nil, or_false] at hz ⊢; rcases hz with h | h | h <;> subst h <;> simp [nI_0]) ?_
  exact loop1 (30 - (9 + 3 * k)) _ ar (by omega) (Nat.le_refl _) ⟨fun _ _ => rfl, fun _ _ => rfl, fun z z1 z2 => by omega⟩
set_option maxHeartbeats 4000000 in
set_option maxRecDepth 100000 in
theorem ct_MO_stepOn {l : Launch} {D : va_G} {BG : Nat → Option Cell} (m : Nat) (A : Nat → Nat) (hA : rf_ok A m) (sc : Nat → Int32) (ar : Nat → Nat → Int32) (n : Nat) (q : Nat → rq) (vl : Nat → Nat) (dr : Nat) (hp : rp sc ar n q vl dr) (hn : n < 20000) (ro mi th sd st bf rc nx : Nat) (lf : List (Nat × Nat × Nat)) (hr : re n q vl (ar 15) (ro, mi, th, sd, st, bf, rc, nx, lf)) : hm_ct l D BG ny_MO_stepOn prog_8_method_19_code 1 none 2 50 0 0 [.ref m] (rf_M D m A sc ar) (fun r M' => r = none ∧ ∃ sc' ar' n' q' vl', M' = rf_M D m A sc' ar' ∧ rp sc' ar' n' q' vl' dr ∧ ry (fun a' _ => a'.1 = 4) 1 sc ar n q vl sc' ar' n' q' vl' ∧ re n' q' vl' (ar' 15) (ro, mi, th, sd, st, bf, sm_t 7 rc 0, nx + 1, lf)) := by
  refine hm_ct_of (by decide +kernel) (by exact Nat.le_of_ble_eq_true rfl) ?_
  intro X C E
  have C : hm_C X l D BG prog_8_method_19_code "TurnedKeysModel" "stepOn" 1 2 50 0 0 := C
  refine hm_lv (lv' := [(0, .ref m)]) rfl ?_
  obtain ⟨a1, a2, a3, a4, a5, a6, a7, a8, a9, a10, a11⟩ := id hr
  obtain ⟨t6, e6, l6, s6, v6⟩ := a7
  dsimp only at a8 v6
  have hn2 := hp.1.2.2.1
  refine hm_aload_n C nd_MO_stepOn_0 rfl ?_
  refine hm_get C nF_MO_66 rf_m rfl nd_MO_stepOn_1 ?_
  refine hm_bipush (v := 6) C nd_MO_stepOn_4 (by decide) ?_
  refine hm_aload_n C nd_MO_stepOn_6 rfl ?_
  refine hm_bipush (v := 7) C nd_MO_stepOn_7 (by decide) ?_
  refine hm_aload_n C nd_MO_stepOn_9 rfl ?_
  refine hm_get C nF_MO_66 rf_m rfl nd_MO_stepOn_10 ?_
  refine hm_bipush (v := 6) C nd_MO_stepOn_13 (by decide) ?_
  refine hm_iald (t := 3) (N := 33) (j := 6) (f := (ar 15)) C rfl (rf_at hA (i := 15) (by decide)) rfl (by omega) (by decide) nd_MO_stepOn_15 ?_
  refine hm_stk (st' := [.int (nI t6), .int 7, .ref m, .int 6, .ref (A 15)]) (by rw [e6]) ?_
  refine hm_iconst (v := 0) C nd_MO_stepOn_16 (by decide) ?_
  refine hm_stk (st' := [.int (nI 0), .int (nI t6), .int (nI 7), .ref m, .int 6, .ref (A 15)]) rfl ?_
  refine hm_callV C (ct_MO_mix m A hA sc ar n q vl dr hp hn 7 t6 0 (by omega) (by omega) l6 (by omega) s6 (by rw [hp.2.1.2.1]; decide)) nV_MO_mix [.int (nI 7), .int (nI t6), .int (nI 0)] rfl rf_m rfl nq_MO_84 nj_MO_mix nx_MO_mix rfl (rest := [.int 6, .ref (A 15)]) rfl (Nat.le_of_ble_eq_true rfl) (by decide) (by decide) (by omega) (by omega) nd_MO_stepOn_17 (fun r M1 hp => ?_)
  obtain ⟨t1, sc1, ar1, n1, q1, vl1, rfl, rfl, hp1, hx1, h11, h21, h31, h41⟩ := hp
  refine hm_stk (st' := [.int (nI t1), .int 6, .ref (A 15)]) rfl ?_
  refine hm_iast (t := 3) (N := 33) (j := 6) (f := (ar1 15)) C rfl (rf_at hA (i := 15) (by decide)) rfl (by omega) (by decide) nd_MO_stepOn_20 ?_
  refine hm_eqM (rf_up hA (i := 15) (by decide) (upd (ar1 15) 6 (nI t1))) ?_
  refine hm_aload_n C nd_MO_stepOn_21 rfl ?_
  refine hm_get C nF_MO_66 rf_m rfl nd_MO_stepOn_22 ?_
  refine hm_bipush (v := 7) C nd_MO_stepOn_25 (by decide) ?_
  refine hm_dup2 C nd_MO_stepOn_27 rfl rfl ?_
  refine hm_iald (t := 3) (N := 33) (j := 7) (f := (upd (ar1 15) 6 (nI t1))) C rfl (rf_at hA (i := 15) (by decide)) rfl (by omega) (by decide) nd_MO_stepOn_28 ?_
  refine hm_stk (st' := [.int (nI nx), .int 7, .ref (A 15)]) (by rw [pk_un (by decide), hx1.2.2.2.2.1 15 (by decide) (by decide), a8]) ?_
  refine hm_iconst (v := 1) C nd_MO_stepOn_29 (by decide) ?_
  refine hm_iadd C nd_MO_stepOn_30 ?_
  refine hm_stk (st' := [.int (nI (nx + 1)), .int 7, .ref (A 15)]) (by rw [nI_1]) ?_
  refine hm_iast (t := 3) (N := 33) (j := 7) (f := (upd (ar1 15) 6 (nI t1))) C rfl (rf_at hA (i := 15) (by decide)) rfl (by omega) (by decide) nd_MO_stepOn_31 ?_
  refine hm_eqM (rf_up hA (i := 15) (by decide) (upd (upd (ar1 15) 6 (nI t1)) 7 (nI (nx + 1)))) ?_
  have hg : rgo n q vl n1 q1 vl1 := ⟨hx1.1, hx1.2.2.1⟩
  have e15 : ar1 15 = ar 15 := hx1.2.2.2.2.1 15 (by decide) (by decide)
  have hre : re n1 q1 vl1 (upd (upd (ar1 15) 6 (nI t1)) 7 (nI (nx + 1))) (ro, mi, th, sd, st, bf, sm_t 7 rc 0, nx + 1, lf) := by
    rw [e15]
    refine ((hr.go hg).u6 ⟨t1, rfl, h21, by rw [h31]; decide, ?_⟩).u7 rfl
    rw [h41, v6, hp.2.1.1]
  exact hm_vret C E (by omega) (by omega) (⟨rfl, sc1, _, n1, q1, vl1, rfl, hp1.ha (fun i hi => by repeat rw [va_up_ne _ _ (show i ≠ 15 by omega)]), (hx1.ry (Nat.le_refl _) (fun a v z => z.1)).ha (fun i hi => by repeat rw [va_up_ne _ _ hi]), by rw [va_up_self]; exact hre⟩) nd_MO_stepOn_32
theorem lv_ad8 {lf : List (Nat × Nat × Nat)} {z : Nat × Nat × Nat} (h : lf.length = 8) : lv_ad lf z = lf.eraseIdx 0 ++ [z] := by
  unfold lv_ad
  rw [if_pos h]
  cases lf with
  | nil => cases h
  | cons a l => rfl
theorem lv_ad7 {lf : List (Nat × Nat × Nat)} {z : Nat × Nat × Nat} (h : lf.length ≠ 8) : lv_ad lf z = lf ++ [z] := by
  unfold lv_ad
  rw [if_neg h]
set_option maxHeartbeats 4000000 in
set_option maxRecDepth 100000 in
theorem ct_MO_skip_no {l : Launch} {D : va_G} {BG : Nat → Option Cell} (m : Nat) (A : Nat → Nat) (hA : rf_ok A m) (sc : Nat → Int32) (ar : Nat → Nat → Int32) (n : Nat) (q : Nat → rq) (vl : Nat → Nat) (ro mi th sd st bf rc nx : Nat) (lf : List (Nat × Nat × Nat)) (hr : re n q vl (ar 15) (ro, mi, th, sd, st, bf, rc, nx, lf)) (w : Nat) (hw : w < 2 ^ 28) (hnx : nx < 2 ^ 28) (h5 : nx + 5 < w) : hm_ct l D BG ny_MO_skip prog_8_method_20_code 3 (some .boolean) 3 70 0 0 [.ref m, .int (nI w)] (rf_M D m A sc ar) (fun r M' => r = some (.int 0) ∧ M' = (rf_M D m A sc ar)) := by
  refine hm_ct_of (by decide +kernel) (by exact Nat.le_of_ble_eq_true rfl) ?_
  intro X C E
  have C : hm_C X l D BG prog_8_method_20_code "TurnedKeysModel" "skip" 3 3 70 0 0 := C
  refine hm_lv (lv' := [(0, .ref m), (1, .int (nI w))]) rfl ?_
  obtain ⟨a1, a2, a3, a4, a5, a6, a7, a8, a9, a10, a11⟩ := id hr
  dsimp only at a8
  refine hm_iload_n C nd_MO_skip_0 rfl ?_
  refine hm_aload_n C nd_MO_skip_1 rfl ?_
  refine hm_get C nF_MO_66 rf_m rfl nd_MO_skip_2 ?_
  refine hm_bipush (v := 7) C nd_MO_skip_5 (by decide) ?_
  refine hm_iald (t := 3) (N := 33) (j := 7) (f := (ar 15)) C rfl (rf_at hA (i := 15) (by decide)) rfl (by omega) (by decide) nd_MO_skip_7 ?_
  refine hm_stk (st' := [.int (nI nx), .int (nI w)]) (by rw [a8]) ?_
  refine hm_iconst (v := 5) C nd_MO_skip_8 (by decide) ?_
  refine hm_iadd C nd_MO_skip_9 ?_
  refine hm_stk (st' := [.int (nI (nx + 5)), .int (nI w)]) (by rw [nI_5]) ?_
  refine hm_icmp_le (tgt := 15) C nd_MO_skip_10 (by decide) (fun c1 => absurd ((nI_leI (by omega) (by omega)).mp c1) (by omega)) (fun c1 => ?_)
  refine hm_iconst (v := 0) C nd_MO_skip_13 (by decide) ?_
  exact hm_zret C E (by first | exact Or.inl rfl | exact Or.inr rfl) (by omega) (by omega) (⟨rfl, rfl⟩) nd_MO_skip_14
set_option maxHeartbeats 4000000 in
set_option maxRecDepth 100000 in
theorem ct_MO_skip_go {l : Launch} {D : va_G} {BG : Nat → Option Cell} (m : Nat) (A : Nat → Nat) (hA : rf_ok A m) (sc : Nat → Int32) (ar : Nat → Nat → Int32) (n : Nat) (q : Nat → rq) (vl : Nat → Nat) (dr : Nat) (hp : rp sc ar n q vl dr) (hn : n + 10 < 20000) (ro mi th sd st bf rc nx : Nat) (lf : List (Nat × Nat × Nat)) (hr : re n q vl (ar 15) (ro, mi, th, sd, st, bf, rc, nx, lf)) (w : Nat) (hw : w < 2 ^ 28) (hnx : nx < 2 ^ 28) (h5 : w ≤ nx + 5) : hm_ct l D BG ny_MO_skip prog_8_method_20_code 3 (some .boolean) 3 70 0 0 [.ref m, .int (nI w)] (rf_M D m A sc ar) (fun r M' => r = some (.int 1) ∧ ∃ sc' ar' n' q' vl', M' = rf_M D m A sc' ar' ∧ rp sc' ar' n' q' vl' dr ∧ ry (fun a' _ => a'.1 = 4) 10 sc ar n q vl sc' ar' n' q' vl' ∧ re n' q' vl' (ar' 15) (ro, mi, th, sd, st, bf, sk_r rc (w - nx), nx + (w - nx), sk_f th rc nx lf (w - nx))) := by
  refine hm_ct_of (by decide +kernel) (by exact Nat.le_of_ble_eq_true rfl) ?_
  intro X C E
  have C : hm_C X l D BG prog_8_method_20_code "TurnedKeysModel" "skip" 3 3 70 0 0 := C
  refine hm_lv (lv' := [(0, .ref m), (1, .int (nI w))]) rfl ?_
  have loop : ∀ (d rt nt' : Nat) (lt : List (Nat × Nat × Nat)) (kk : Nat) (sct : Nat → Int32) (art : Nat → Nat → Int32) (nn : Nat) (qt : Nat → rq) (vt : Nat → Nat), w - nt' = d → nt' < 2 ^ 29 → rp sct art nn qt vt dr → ry (fun a' _ => a'.1 = 4) kk sc ar n q vl sct art nn qt vt → kk + 2 * d ≤ 10 → re nn qt vt (art 15) (ro, mi, th, sd, st, bf, rt, nt', lt) → (sk_r rt d = sk_r rc (w - nx) ∧ nt' + d = nx + (w - nx) ∧ sk_f th rt nt' lt d = sk_f th rc nx lf (w - nx)) → hm_W X (rf_M D m A sct art) 0 0 15 [(0, .ref m), (1, .int (nI w))] [] := by
    intro d
    induction d with
    | zero =>
        intro rt nt' lt kk sct art nn qt vt hd hb hpt hyt hk hrt hf
        obtain ⟨a1, a2, a3, a4, a5, a6, a7, a8, a9, a10, a11⟩ := id hrt
        dsimp only at a8 a9 a10 a3 a7 a11
        refine hm_aload_n C nd_MO_skip_15 rfl ?_
        refine hm_get C nF_MO_66 rf_m rfl nd_MO_skip_16 ?_
        refine hm_bipush (v := 7) C nd_MO_skip_19 (by decide) ?_
        refine hm_iald (t := 3) (N := 33) (j := 7) (f := (art 15)) C rfl (rf_at hA (i := 15) (by decide)) rfl (by omega) (by decide) nd_MO_skip_21 ?_
        refine hm_stk (st' := [.int (nI nt')]) (by rw [a8]) ?_
        refine hm_iload_n C nd_MO_skip_22 rfl ?_
        refine hm_icmp_ge (tgt := 123) C nd_MO_skip_23 (by decide) (fun c1 => ?_) (fun c1 => absurd (show nI w ≤ nI nt' from nI_le (by omega) (by omega)) c1)
        refine hm_iconst (v := 1) C nd_MO_skip_123 (by decide) ?_
        exact hm_zret C E (by first | exact Or.inl rfl | exact Or.inr rfl) (by omega) (by omega) (⟨rfl, sct, art, nn, qt, vt, rfl, hpt, hyt.mn (by omega) (fun _ _ z => z), by have h1 : rt = sk_r rc (w - nx) := hf.1; have h2 : nt' = nx + (w - nx) := hf.2.1; have h3 : lt = sk_f th rc nx lf (w - nx) := hf.2.2; rw [← h1, ← h2, ← h3]; exact hrt⟩) nd_MO_skip_124
    | succ d ih =>
        intro rt nt' lt kk sct art nn qt vt hd hb hpt hyt hk hrt hf
        obtain ⟨a1, a2, a3, a4, a5, a6, a7, a8, a9, a10, a11⟩ := id hrt
        dsimp only at a8 a9 a10 a3 a7 a11
        refine hm_aload_n C nd_MO_skip_15 rfl ?_
        refine hm_get C nF_MO_66 rf_m rfl nd_MO_skip_16 ?_
        refine hm_bipush (v := 7) C nd_MO_skip_19 (by decide) ?_
        refine hm_iald (t := 3) (N := 33) (j := 7) (f := (art 15)) C rfl (rf_at hA (i := 15) (by decide)) rfl (by omega) (by decide) nd_MO_skip_21 ?_
        refine hm_stk (st' := [.int (nI nt')]) (by rw [a8]) ?_
        refine hm_iload_n C nd_MO_skip_22 rfl ?_
        refine hm_icmp_ge (tgt := 123) C nd_MO_skip_23 (by decide) (fun c1 => absurd c1 (nI_ge (by omega) (by omega))) (fun c1 => ?_)
        have half : ∀ (art2 : Nat → Nat → Int32) (l2 : List (Nat × Nat × Nat)), (∀ i, i ≠ 15 → art2 i = art i) → re nn qt vt (art2 15) (ro, mi, th, sd, st, bf, rt, nt', l2) → l2.length < 8 → lv_ad lt (th, nt', sm_t 6 rt 0) = l2 ++ [(th, nt', sm_t 6 rt 0)] → hm_W X (rf_M D m A sct art2) 0 0 43 [(0, .ref m), (1, .int (nI w))] [] := by
          intro art2 l2 hs2 hr2 hl2 hlv
          obtain ⟨a1x, a2x, a3x, a4x, a5x, a6x, a7x, a8x, a9x, a10x, a11x⟩ := id hr2
          dsimp only at a8x a9x a10x a3x a7x a11x
          obtain ⟨t6, e6, l6, s6, v6⟩ := id a7x
          have hn2 := hyt.2.1
          have hp2 : rp sct art2 nn qt vt dr := hpt.ha (fun i hi => hs2 i (by omega))
          refine hm_bipush (v := 9) C nd_MO_skip_43 (by decide) ?_
          refine hm_iconst (v := 3) C nd_MO_skip_45 (by decide) ?_
          refine hm_aload_n C nd_MO_skip_46 rfl ?_
          refine hm_get C nF_MO_66 rf_m rfl nd_MO_skip_47 ?_
          refine hm_bipush (v := 8) C nd_MO_skip_50 (by decide) ?_
          refine hm_iald (t := 3) (N := 33) (j := 8) (f := (art2 15)) C rfl (rf_at hA (i := 15) (by decide)) rfl (by omega) (by decide) nd_MO_skip_52 ?_
          refine hm_stk (st' := [.int (nI l2.length), .int 3, .int 9]) (by rw [a9x]) ?_
          refine hm_imul C nd_MO_skip_53 ?_
          refine hm_iadd C nd_MO_skip_54 ?_
          refine hm_stk (st' := [.int (nI (9 + 3 * l2.length))]) (by rw [rf_9]) ?_
          refine hm_istore_n C [(2, .int (nI (9 + 3 * l2.length))), (0, .ref m), (1, .int (nI w))] nd_MO_skip_55 (by decide) rfl ?_
          refine hm_aload_n C nd_MO_skip_56 rfl ?_
          refine hm_get C nF_MO_66 rf_m rfl nd_MO_skip_57 ?_
          refine hm_iload_n C nd_MO_skip_60 rfl ?_
          refine hm_aload_n C nd_MO_skip_61 rfl ?_
          refine hm_get C nF_MO_66 rf_m rfl nd_MO_skip_62 ?_
          refine hm_iconst (v := 2) C nd_MO_skip_65 (by decide) ?_
          refine hm_iald (t := 3) (N := 33) (j := 2) (f := (art2 15)) C rfl (rf_at hA (i := 15) (by decide)) rfl (by omega) (by decide) nd_MO_skip_66 ?_
          refine hm_iast (t := 3) (N := 33) (j := (9 + 3 * l2.length)) (f := (art2 15)) C rfl (rf_at hA (i := 15) (by decide)) rfl (by omega) (by decide) nd_MO_skip_67 ?_
          refine hm_eqM (rf_up hA (i := 15) (by decide) (upd (art2 15) (9 + 3 * l2.length) ((art2 15) 2))) ?_
          refine hm_aload_n C nd_MO_skip_68 rfl ?_
          refine hm_get C nF_MO_66 rf_m rfl nd_MO_skip_69 ?_
          refine hm_iload_n C nd_MO_skip_72 rfl ?_
          refine hm_iconst (v := 1) C nd_MO_skip_73 (by decide) ?_
          refine hm_iadd C nd_MO_skip_74 ?_
          refine hm_stk (st' := [.int (nI (10 + 3 * l2.length)), .ref (A 15)]) (by rw [nI_1, show 9 + 3 * l2.length + 1 = 10 + 3 * l2.length by omega]) ?_
          refine hm_aload_n C nd_MO_skip_75 rfl ?_
          refine hm_get C nF_MO_66 rf_m rfl nd_MO_skip_76 ?_
          refine hm_bipush (v := 7) C nd_MO_skip_79 (by decide) ?_
          refine hm_iald (t := 3) (N := 33) (j := 7) (f := (upd (art2 15) (9 + 3 * l2.length) ((art2 15) 2))) C rfl (rf_at hA (i := 15) (by decide)) rfl (by omega) (by decide) nd_MO_skip_81 ?_
          refine hm_stk (st' := [.int (nI nt'), .int (nI (10 + 3 * l2.length)), .ref (A 15)]) (by rw [pk_un (by omega), a8x]) ?_
          refine hm_iast (t := 3) (N := 33) (j := (10 + 3 * l2.length)) (f := (upd (art2 15) (9 + 3 * l2.length) ((art2 15) 2))) C rfl (rf_at hA (i := 15) (by decide)) rfl (by omega) (by decide) nd_MO_skip_82 ?_
          refine hm_eqM (rf_up hA (i := 15) (by decide) (upd (upd (art2 15) (9 + 3 * l2.length) ((art2 15) 2)) (10 + 3 * l2.length) (nI nt'))) ?_
          refine hm_aload_n C nd_MO_skip_83 rfl ?_
          refine hm_get C nF_MO_66 rf_m rfl nd_MO_skip_84 ?_
          refine hm_iload_n C nd_MO_skip_87 rfl ?_
          refine hm_iconst (v := 2) C nd_MO_skip_88 (by decide) ?_
          refine hm_iadd C nd_MO_skip_89 ?_
          refine hm_stk (st' := [.int (nI (11 + 3 * l2.length)), .ref (A 15)]) (by rw [nI_2, show 9 + 3 * l2.length + 2 = 11 + 3 * l2.length by omega]) ?_
          refine hm_aload_n C nd_MO_skip_90 rfl ?_
          refine hm_bipush (v := 6) C nd_MO_skip_91 (by decide) ?_
          refine hm_aload_n C nd_MO_skip_93 rfl ?_
          refine hm_get C nF_MO_66 rf_m rfl nd_MO_skip_94 ?_
          refine hm_bipush (v := 6) C nd_MO_skip_97 (by decide) ?_
          refine hm_iald (t := 3) (N := 33) (j := 6) (f := (upd (upd (art2 15) (9 + 3 * l2.length) ((art2 15) 2)) (10 + 3 * l2.length) (nI nt'))) C rfl (rf_at hA (i := 15) (by decide)) rfl (by omega) (by decide) nd_MO_skip_99 ?_
          refine hm_stk (st' := [.int (nI t6), .int 6, .ref m, .int (nI (11 + 3 * l2.length)), .ref (A 15)]) (by rw [pk_un (by omega), pk_un (by omega), e6]) ?_
          refine hm_iconst (v := 0) C nd_MO_skip_100 (by decide) ?_
          refine hm_stk (st' := [.int (nI 0), .int (nI t6), .int (nI 6), .ref m, .int (nI (11 + 3 * l2.length)), .ref (A 15)]) rfl ?_
          refine hm_callV C (ct_MO_mix m A hA sct (va_up (va_up art2 15 (upd (art2 15) (9 + 3 * l2.length) ((art2 15) 2))) 15 (upd (upd (art2 15) (9 + 3 * l2.length) ((art2 15) 2)) (10 + 3 * l2.length) (nI nt'))) nn qt vt dr (hp2.ha (fun i hi => by repeat rw [va_up_ne _ _ (show i ≠ 15 by omega)])) (by omega) 6 t6 0 (by omega) (by omega) l6 (by omega) s6 (by rw [hpt.2.1.2.1]; decide)) nV_MO_mix [.int (nI 6), .int (nI t6), .int (nI 0)] rfl rf_m rfl nq_MO_84 nj_MO_mix nx_MO_mix rfl (rest := [.int (nI (11 + 3 * l2.length)), .ref (A 15)]) rfl (Nat.le_of_ble_eq_true rfl) (by decide) (by decide) (by omega) (by omega) nd_MO_skip_101 (fun r M1 hp => ?_)
          obtain ⟨t1, sc1, ar1, n1, q1, vl1, rfl, rfl, hp1, hx1, h11, h21, h31, h41⟩ := hp
          refine hm_stk (st' := [.int (nI t1), .int (nI (11 + 3 * l2.length)), .ref (A 15)]) rfl ?_
          refine hm_iast (t := 3) (N := 33) (j := (11 + 3 * l2.length)) (f := (ar1 15)) C rfl (rf_at hA (i := 15) (by decide)) rfl (by omega) (by decide) nd_MO_skip_104 ?_
          refine hm_eqM (rf_up hA (i := 15) (by decide) (upd (ar1 15) (11 + 3 * l2.length) (nI t1))) ?_
          have e15 : ar1 15 = upd (upd (art2 15) (9 + 3 * l2.length) (art2 15 2)) (10 + 3 * l2.length) (nI nt') := by rw [hx1.2.2.2.2.1 15 (by decide) (by decide), va_up_self]
          refine hm_aload_n C nd_MO_skip_105 rfl ?_
          refine hm_get C nF_MO_66 rf_m rfl nd_MO_skip_106 ?_
          refine hm_bipush (v := 8) C nd_MO_skip_109 (by decide) ?_
          refine hm_dup2 C nd_MO_skip_111 rfl rfl ?_
          refine hm_iald (t := 3) (N := 33) (j := 8) (f := (upd (ar1 15) (11 + 3 * l2.length) (nI t1))) C rfl (rf_at hA (i := 15) (by decide)) rfl (by omega) (by decide) nd_MO_skip_112 ?_
          refine hm_stk (st' := [.int (nI l2.length), .int 8, .ref (A 15)]) (by rw [pk_un (by omega), e15, pk_un (by omega), pk_un (by omega), a9x]) ?_
          refine hm_iconst (v := 1) C nd_MO_skip_113 (by decide) ?_
          refine hm_iadd C nd_MO_skip_114 ?_
          refine hm_stk (st' := [.int (nI (l2.length + 1)), .int 8, .ref (A 15)]) (by rw [nI_1]) ?_
          refine hm_iast (t := 3) (N := 33) (j := 8) (f := (upd (ar1 15) (11 + 3 * l2.length) (nI t1))) C rfl (rf_at hA (i := 15) (by decide)) rfl (by omega) (by decide) nd_MO_skip_115 ?_
          refine hm_eqM (rf_up hA (i := 15) (by decide) (upd (upd (ar1 15) (11 + 3 * l2.length) (nI t1)) 8 (nI (l2.length + 1)))) ?_
          have hg : rgo nn qt vt n1 q1 vl1 := ⟨hx1.1, hx1.2.2.1⟩
          have hre : re n1 q1 vl1 (upd (upd (ar1 15) (11 + 3 * l2.length) (nI t1)) 8 (nI (l2.length + 1))) (ro, mi, th, sd, st, bf, rt, nt', l2 ++ [(th, nt', sm_t 6 rt 0)]) := by
            rw [e15]
            refine (hr2.go hg).ps (z := (th, nt', sm_t 6 rt 0)) hl2 (a3x.go hg) ⟨t1, rfl, h21, by rw [h31]; decide, ?_⟩
            show vl1 t1 = sm_t 6 rt 0
            rw [h41, v6, hpt.2.1.1]
          have hy1 : ry (fun a' _ => a'.1 = 4) 1 sct art nn qt vt sc1 (va_up (va_up ar1 15 (upd (ar1 15) (11 + 3 * l2.length) (nI t1))) 15 (upd (upd (ar1 15) (11 + 3 * l2.length) (nI t1)) 8 (nI (l2.length + 1)))) n1 q1 vl1 := by
            have h9 := hx1.ry (P' := (fun a' _ => a'.1 = 4)) (Nat.le_refl 1) (fun a v z => z.1)
            refine ⟨h9.1, h9.2.1, h9.2.2.1, fun i i4 i6 i15 => ?_, h9.2.2.2.2⟩
            rw [va_up_ne _ _ i15, va_up_ne _ _ i15, h9.2.2.2.1 i i4 i6 i15, va_up_ne _ _ i15, va_up_ne _ _ i15]
            exact hs2 i i15
          have hn1 := hy1.2.1
          refine hm_aload_n C nd_MO_skip_116 rfl ?_
          refine hm_callV C (ct_MO_stepOn m A hA sc1 (va_up (va_up ar1 15 (upd (ar1 15) (11 + 3 * l2.length) (nI t1))) 15 (upd (upd (ar1 15) (11 + 3 * l2.length) (nI t1)) 8 (nI (l2.length + 1)))) n1 q1 vl1 dr (hp1.ha (fun i hi => by repeat rw [va_up_ne _ _ (show i ≠ 15 by omega)])) (by omega) ro mi th sd st bf rt nt' (l2 ++ [(th, nt', sm_t 6 rt 0)]) (by rw [va_up_self]; exact hre)) nV_MO_stepOn [] rfl rf_m rfl nq_MO_140 nj_MO_stepOn nx_MO_stepOn rfl (rest := []) rfl (Nat.le_of_ble_eq_true rfl) (by decide) (by decide) (by omega) (by omega) nd_MO_skip_117 (fun r M2 hp => ?_)
          obtain ⟨rfl, sc2, ar2, n2, q2, vl2, rfl, hp2', hy2, hre2⟩ := hp
          refine hm_stk (st' := []) rfl ?_
          refine hm_goto (tgt := 15) C nd_MO_skip_120 (by decide) ?_
          refine hm_less (lv' := [(0, .ref m), (1, .int (nI w))]) (fun z hz => by simp only [List.mem_cons, List.not_mem_nil, or_false] at hz ⊢; rcases hz with h | h <;> subst h <;> simp [nI_0]) ?_
          refine ih (sm_t 7 rt 0) (nt' + 1) (l2 ++ [(th, nt', sm_t 6 rt 0)]) (kk + 2) sc2 ar2 n2 q2 vl2 (by omega) (by omega) hp2' ((hyt.tr (hy1.tr hy2)).mn (by omega) (fun _ _ z => z)) (by omega) hre2 ⟨hf.1, by omega, ?_⟩
          rw [← hlv]
          exact hf.2.2
        refine hm_aload_n C nd_MO_skip_26 rfl ?_
        refine hm_get C nF_MO_66 rf_m rfl nd_MO_skip_27 ?_
        refine hm_bipush (v := 8) C nd_MO_skip_30 (by decide) ?_
        refine hm_iald (t := 3) (N := 33) (j := 8) (f := (art 15)) C rfl (rf_at hA (i := 15) (by decide)) rfl (by omega) (by decide) nd_MO_skip_32 ?_
        refine hm_stk (st' := [.int (nI lt.length)]) (by rw [a9]) ?_
        refine hm_bipush (v := 8) C nd_MO_skip_33 (by decide) ?_
        refine hm_stk (st' := [.int (nI 8), .int (nI lt.length)]) rfl ?_
        refine hm_icmp_ne (tgt := 43) C nd_MO_skip_35 (by decide) (fun c2 => ?_) (fun c2 => ?_)
        · have hl : lt.length ≠ 8 := fun z => c2 (by rw [z])
          exact half art lt (fun _ _ => rfl) hrt (by omega) (lv_ad7 hl)
        · have hl : lt.length = 8 := (nI_eq (by omega) (by omega)).mp c2
          refine hm_aload_n C nd_MO_skip_38 rfl ?_
          refine hm_iconst (v := 0) C nd_MO_skip_39 (by decide) ?_
          refine hm_stk (st' := [.int (nI 0), .ref m]) rfl ?_
          refine hm_callV C (ct_MO_dropLeft m A hA sct art 0 lt.length (by omega) (by omega) a9) nV_MO_dropLeft [.int (nI 0)] rfl rf_m rfl nq_MO_137 nj_MO_dropLeft nx_MO_dropLeft rfl (rest := []) rfl (Nat.le_of_ble_eq_true rfl) (by decide) (by decide) (by omega) (by omega) nd_MO_skip_40 (fun r M1 hp => ?_)
          obtain ⟨rfl, ar3, rfl, hs3, g0, g8, g1, g2⟩ := hp
          refine hm_stk (st' := []) rfl ?_
          have hr3 : re nn qt vt (ar3 15) (ro, mi, th, sd, st, bf, rt, nt', lt.eraseIdx 0) := hrt.er (by omega) g0 g8 (fun k k1 k2 => g1 k k1 k2) (fun k k1 k2 => g2 k k1 k2)
          exact half ar3 (lt.eraseIdx 0) hs3 hr3 (by rw [List.length_eraseIdx, if_pos (by omega)]; omega) (lv_ad8 hl)
  obtain ⟨a1, a2, a3, a4, a5, a6, a7, a8, a9, a10, a11⟩ := id hr
  dsimp only at a8
  refine hm_iload_n C nd_MO_skip_0 rfl ?_
  refine hm_aload_n C nd_MO_skip_1 rfl ?_
  refine hm_get C nF_MO_66 rf_m rfl nd_MO_skip_2 ?_
  refine hm_bipush (v := 7) C nd_MO_skip_5 (by decide) ?_
  refine hm_iald (t := 3) (N := 33) (j := 7) (f := (ar 15)) C rfl (rf_at hA (i := 15) (by decide)) rfl (by omega) (by decide) nd_MO_skip_7 ?_
  refine hm_stk (st' := [.int (nI nx), .int (nI w)]) (by rw [a8]) ?_
  refine hm_iconst (v := 5) C nd_MO_skip_8 (by decide) ?_
  refine hm_iadd C nd_MO_skip_9 ?_
  refine hm_stk (st' := [.int (nI (nx + 5)), .int (nI w)]) (by rw [nI_5]) ?_
  refine hm_icmp_le (tgt := 15) C nd_MO_skip_10 (by decide) (fun c1 => ?_) (fun c1 => absurd (nI_le h5 (by omega)) c1)
  exact loop (w - nx) rc nx lf 0 sc ar n q vl rfl (by omega) hp ry.rf (by omega) hr ⟨rfl, rfl, rfl⟩
