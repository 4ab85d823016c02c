set_option maxHeartbeats 4000000 in
set_option maxRecDepth 100000 in
theorem ct_EN_leave {l : Launch} {D : va_G} {BG : Nat → Option Cell} (M : hm_M) (a lk : Nat) (bs ro mi th sc : Option Nat) (st bf : Int32) (rc : Option Nat) (nx : Int32) (m : Nat) (f : Nat → Option Nat) (ha : M a = some (hm_ob 3 [va_rf bs, va_rf ro, va_rf mi, va_rf th, va_rf sc, .int st, .int bf, va_rf rc, .int nx, .ref lk, .int (nI m)])) (hlk : M lk = some (hm_ar D 2 8 f)) (hm8 : m ≤ 8) (hel : ∀ i, i < m → ∃ b vs, f i = some b ∧ M b = some (hm_ob 4 vs)) (hno : ∀ i, m ≤ i → f i = none) (b : Nat) (vs : List Value) (hb : M b = some (hm_ob 4 vs)) : hm_ct l D BG ny_EN_leave prog_2_method_10_code 2 none 1 22 0 0 [.ref a, .ref b] M (fun r M' => r = none ∧ M' = hm_up (hm_up M lk (hm_ar D 2 8 (va_up (fun i => f (if m = 8 then i + 1 else i)) (if m = 8 then 7 else m) (some b)))) a (hm_ob 3 [va_rf bs, va_rf ro, va_rf mi, va_rf th, va_rf sc, .int st, .int bf, va_rf rc, .int nx, .ref lk, .int (nI ((if m = 8 then 7 else m) + 1))])) := by
  refine hm_ct_of (by decide +kernel) (by exact Nat.le_of_ble_eq_true rfl) ?_
  intro X C E
  have C : hm_C X l D BG prog_2_method_10_code "TurnedKeys$End" "leave" 2 1 22 0 0 := C
  refine hm_lv (lv' := [(0, .ref a), (1, .ref b)]) rfl ?_
  refine hm_aload_n C nd_EN_leave_0 rfl ?_
  refine hm_get C nF_EN_53 ha rfl nd_EN_leave_1 ?_
  refine hm_bipush (v := 8) C nd_EN_leave_4 (by decide) ?_
  have h8 : (8 : Int32) = nI 8 := rfl
  refine hm_icmp_lt (tgt := 14) C nd_EN_leave_6 (by decide) (fun c1 => ?_) (fun c1 => ?_)
  · have hm7 : ¬ m = 8 := fun h => by rw [h] at c1; exact absurd c1 (by decide)
    have hb0 : M b = some (hm_ob 4 vs) := hb
    refine hm_aload_n C nd_EN_leave_14 rfl ?_
    refine hm_get C nF_EN_11 ha rfl nd_EN_leave_15 ?_
    refine hm_aload_n C nd_EN_leave_18 rfl ?_
    refine hm_get C nF_EN_53 ha rfl nd_EN_leave_19 ?_
    refine hm_aload_n C nd_EN_leave_22 rfl ?_
    refine hm_aast C (t := 2) (j := m) rfl hlk hb0 rfl (Or.inl rfl) rfl (by omega) (by omega) nd_EN_leave_23 ?_
    generalize hM1 : hm_up M lk (hm_ar D 2 8 (va_up f m (some b))) = M1
    have fM1_0 : M1 a = some (hm_ob 3 [va_rf bs, va_rf ro, va_rf mi, va_rf th, va_rf sc, .int st, .int bf, va_rf rc, .int nx, .ref lk, .int (nI m)]) := by rw [← hM1, hm_up_n _ _ (hm_neA ha hlk)]; exact ha
    have aM1_0 : M1 lk = some (hm_ar D 2 8 (va_up f m (some b))) := by rw [← hM1]; exact hm_up_s _ _ _
    refine hm_aload_n C nd_EN_leave_24 rfl ?_
    refine hm_dup C nd_EN_leave_25 rfl ?_
    refine hm_get C nF_EN_53 fM1_0 rfl nd_EN_leave_26 ?_
    refine hm_iconst (v := 1) C nd_EN_leave_29 (by decide) ?_
    refine hm_iadd C nd_EN_leave_30 ?_
    rw [nI_1]
    refine hm_put C nF_EN_53 fM1_0 (Nat.le_of_ble_eq_true rfl) rfl rfl nd_EN_leave_31 ?_
    refine hm_eqM (M' := hm_up M1 a (hm_ob 3 [va_rf bs, va_rf ro, va_rf mi, va_rf th, va_rf sc, .int st, .int bf, va_rf rc, .int nx, .ref lk, .int (nI (m + 1))])) rfl ?_
    generalize hM2 : hm_up M1 a (hm_ob 3 [va_rf bs, va_rf ro, va_rf mi, va_rf th, va_rf sc, .int st, .int bf, va_rf rc, .int nx, .ref lk, .int (nI (m + 1))]) = M2
    have aM2_0 : M2 lk = some (hm_ar D 2 8 (va_up f m (some b))) := by rw [← hM2, hm_up_n _ _ (Ne.symm (hm_neA fM1_0 aM1_0))]; exact aM1_0
    have fM2_0 : M2 a = some (hm_ob 3 [va_rf bs, va_rf ro, va_rf mi, va_rf th, va_rf sc, .int st, .int bf, va_rf rc, .int nx, .ref lk, .int (nI (m + 1))]) := by rw [← hM2]; exact hm_up_s _ _ _
    exact hm_vret C E (by omega) (by omega) (⟨rfl, by rw [← hM2, ← hM1, if_neg hm7]; congr 4; funext i; rw [if_neg hm7]⟩) nd_EN_leave_34
  · have hm8e : m = 8 := by
      rcases Nat.lt_or_ge m 8 with h | h
      · exact absurd (show nI m < nI 8 from nI_lt h (by omega)) c1
      · omega
    refine hm_aload_n C nd_EN_leave_9 rfl ?_
    refine hm_iconst (v := 0) C nd_EN_leave_10 (by decide) ?_
    refine hm_stk (st' := [.int (nI 0), .ref a]) rfl ?_
    refine hm_callV C (ct_EN_dropLeftKey M a lk bs ro mi th sc st bf rc nx m f ha hlk hm8 hel 0 (by omega) hno) nV_EN_dropLeftKey [.int (nI 0)] rfl ha rfl nq_EN_109 nj_EN_dropLeftKey nx_EN_dropLeftKey rfl (rest := []) rfl (Nat.le_of_ble_eq_true rfl) (by decide) (by decide) (by omega) (by omega) nd_EN_leave_11 (fun r M3 hp => ?_)
    obtain ⟨rfl, e1⟩ := hp
    have hal : a ≠ lk := hm_neA ha hlk
    have ha1 : M3 a = some (hm_ob 3 [va_rf bs, va_rf ro, va_rf mi, va_rf th, va_rf sc, .int st, .int bf, va_rf rc, .int nx, .ref lk, .int (nI 7)]) := by rw [e1, hm_up_s, hm8e]
    have hl1 : M3 lk = some (hm_ar D 2 8 (fun i => f (i + 1))) := by
      rw [e1, hm_up_n _ _ (Ne.symm hal), hm_up_s]
      rfl
    have hb1 : M3 b = some (hm_ob 4 vs) := by rw [e1, hm_up_n _ _ (hm_ne hb ha (by decide)), hm_up_n _ _ (hm_neA hb hlk)]; exact hb
    refine hm_stk (st' := []) rfl ?_
    refine hm_aload_n C nd_EN_leave_14 rfl ?_
    refine hm_get C nF_EN_11 ha1 rfl nd_EN_leave_15 ?_
    refine hm_aload_n C nd_EN_leave_18 rfl ?_
    refine hm_get C nF_EN_53 ha1 rfl nd_EN_leave_19 ?_
    refine hm_aload_n C nd_EN_leave_22 rfl ?_
    refine hm_aast C (t := 2) (j := 7) rfl hl1 hb1 rfl (Or.inl rfl) rfl (by omega) (by omega) nd_EN_leave_23 ?_
    generalize hM4 : hm_up M3 lk (hm_ar D 2 8 (va_up (fun i => f (i + 1)) 7 (some b))) = M4
    have fM4_0 : M4 a = some (hm_ob 3 [va_rf bs, va_rf ro, va_rf mi, va_rf th, va_rf sc, .int st, .int bf, va_rf rc, .int nx, .ref lk, .int (nI 7)]) := by rw [← hM4, hm_up_n _ _ (hm_neA ha1 hl1)]; exact ha1
    have aM4_0 : M4 lk = some (hm_ar D 2 8 (va_up (fun i => f (i + 1)) 7 (some b))) := by rw [← hM4]; exact hm_up_s _ _ _
    refine hm_aload_n C nd_EN_leave_24 rfl ?_
    refine hm_dup C nd_EN_leave_25 rfl ?_
    refine hm_get C nF_EN_53 fM4_0 rfl nd_EN_leave_26 ?_
    refine hm_iconst (v := 1) C nd_EN_leave_29 (by decide) ?_
    refine hm_iadd C nd_EN_leave_30 ?_
    rw [nI_1]
    refine hm_put C nF_EN_53 fM4_0 (Nat.le_of_ble_eq_true rfl) rfl rfl nd_EN_leave_31 ?_
    refine hm_eqM (M' := hm_up M4 a (hm_ob 3 [va_rf bs, va_rf ro, va_rf mi, va_rf th, va_rf sc, .int st, .int bf, va_rf rc, .int nx, .ref lk, .int (nI (7 + 1))])) rfl ?_
    generalize hM5 : hm_up M4 a (hm_ob 3 [va_rf bs, va_rf ro, va_rf mi, va_rf th, va_rf sc, .int st, .int bf, va_rf rc, .int nx, .ref lk, .int (nI (7 + 1))]) = M5
    have aM5_0 : M5 lk = some (hm_ar D 2 8 (va_up (fun i => f (i + 1)) 7 (some b))) := by rw [← hM5, hm_up_n _ _ (Ne.symm (hm_neA fM4_0 aM4_0))]; exact aM4_0
    have fM5_0 : M5 a = some (hm_ob 3 [va_rf bs, va_rf ro, va_rf mi, va_rf th, va_rf sc, .int st, .int bf, va_rf rc, .int nx, .ref lk, .int (nI (7 + 1))]) := by rw [← hM5]; exact hm_up_s _ _ _
    exact hm_vret C E (by omega) (by omega) (⟨rfl, by rw [← hM5, ← hM4, e1, hm_up_cm (a := lk) (b := a) (Ne.symm hal), hm_up_up, hm_up_up]; subst hm8e; rfl⟩) nd_EN_leave_34
set_option maxHeartbeats 4000000 in
set_option maxRecDepth 100000 in
theorem ct_EN_pulledLeftKey {l : Launch} {D : va_G} {BG : Nat → Option Cell} (M : hm_M) (a lk : Nat) (bs ro mi th sc : Option Nat) (st bf : Int32) (rc : Option Nat) (nx : Int32) (m : Nat) (f : Nat → Option Nat) (ha : M a = some (hm_ob 3 [va_rf bs, va_rf ro, va_rf mi, va_rf th, va_rf sc, .int st, .int bf, va_rf rc, .int nx, .ref lk, .int (nI m)])) (hlk : M lk = some (hm_ar D 2 8 f)) (hm8 : m ≤ 8) (pkf : Nat → Option Nat) (ixf : Nat → Nat) (kyf : Nat → Option Nat) (hel : ∀ i, i < m → ixf i < 2 ^ 31 ∧ ∃ b, f i = some b ∧ M b = some (hm_ob 4 [va_rf (pkf i), .int (nI (ixf i)), va_rf (kyf i)])) (hno : ∀ i, m ≤ i → f i = none) (pk : Option Nat) (ix : Nat) (hix : ix < 2 ^ 31) : hm_ct l D BG ny_EN_pulledLeftKey prog_2_method_11_code 5 (some (.object "TurnedKeys$Term")) 1 22 0 0 [.ref a, va_rf pk, .int (nI ix)] M (fun r M' => (∃ i, i < m ∧ pkf i = pk ∧ ixf i = ix ∧ (∀ j, j < i → ¬ (pkf j = pk ∧ ixf j = ix)) ∧ r = some (va_rf (kyf i)) ∧ M' = hm_up (hm_up M lk (hm_ar D 2 8 (fun z => if z < i then f z else f (z + 1)))) a (hm_ob 3 [va_rf bs, va_rf ro, va_rf mi, va_rf th, va_rf sc, .int st, .int bf, va_rf rc, .int nx, .ref lk, .int (nI (m - 1))])) ∨ ((∀ j, j < m → ¬ (pkf j = pk ∧ ixf j = ix)) ∧ r = some (va_rf none) ∧ M' = M)) := by
  refine hm_ct_of (by decide +kernel) (by simp [lg_sl, hm_cat, hm_catI, hm_catR, hm_catN]) ?_
  intro X C E
  have C : hm_C X l D BG prog_2_method_11_code "TurnedKeys$End" "pulledLeftKey" 5 1 22 0 0 := C
  have loop : ∀ (u i : Nat) (lv : List (Nat × Value)), m ≤ i + u → i ≤ m → (∀ j, j < i → ¬ (pkf j = pk ∧ ixf j = ix)) → (∀ q, q ∈ [(3, Value.int (nI i)), (0, .ref a), (1, va_rf pk), (2, .int (nI ix))] → q ∈ lv) → hm_W X M 0 0 2 lv [] := by
    intro u
    induction u with
    | zero =>
        intro i lv hu him hpre hlv
        refine hm_less (lv' := [(3, .int (nI i)), (0, .ref a), (1, va_rf pk), (2, .int (nI ix))]) hlv ?_
        refine hm_iload_n C nd_EN_pulledLeftKey_2 rfl ?_
        refine hm_aload_n C nd_EN_pulledLeftKey_3 rfl ?_
        refine hm_get C nF_EN_53 ha rfl nd_EN_pulledLeftKey_4 ?_
        refine hm_icmp_ge (tgt := 58) C nd_EN_pulledLeftKey_7 (by decide) (fun c1 => ?_) (fun c1 => absurd (nI_le (show m ≤ i by omega) (by omega)) c1)
        refine hm_null C nd_EN_pulledLeftKey_58 ?_
        exact hm_aret (r := none) C E (Or.inl ⟨_, rfl⟩) (by omega) (by omega) (Or.inr ⟨fun j hj => hpre j (by omega), rfl, rfl⟩) nd_EN_pulledLeftKey_59
    | succ u ih =>
        intro i lv hu him hpre hlv
        refine hm_less (lv' := [(3, .int (nI i)), (0, .ref a), (1, va_rf pk), (2, .int (nI ix))]) hlv ?_
        refine hm_iload_n C nd_EN_pulledLeftKey_2 rfl ?_
        refine hm_aload_n C nd_EN_pulledLeftKey_3 rfl ?_
        refine hm_get C nF_EN_53 ha rfl nd_EN_pulledLeftKey_4 ?_
        refine hm_icmp_ge (tgt := 58) C nd_EN_pulledLeftKey_7 (by decide) (fun c1 => ?_) (fun c1 => ?_)
        · have him2 : m ≤ i := by
            rcases Nat.lt_or_ge i m with h | h
            · exact absurd c1 (nI_ge h (by omega))
            · exact h
          refine hm_null C nd_EN_pulledLeftKey_58 ?_
          exact hm_aret (r := none) C E (Or.inl ⟨_, rfl⟩) (by omega) (by omega) (Or.inr ⟨fun j hj => hpre j (by omega), rfl, rfl⟩) nd_EN_pulledLeftKey_59
        · have him2 : i < m := by
            rcases Nat.lt_or_ge i m with h | h
            · exact h
            · exact absurd (nI_le h (by omega)) c1
          obtain ⟨hx1, b, hb1, hb2⟩ := hel i him2
          refine hm_aload_n C nd_EN_pulledLeftKey_10 rfl ?_
          refine hm_get C nF_EN_11 ha rfl nd_EN_pulledLeftKey_11 ?_
          refine hm_iload_n C nd_EN_pulledLeftKey_14 rfl ?_
          refine hm_aald C (t := 2) (j := i) rfl hlk rfl (by omega) (by omega) nd_EN_pulledLeftKey_15 ?_
          refine hm_stk (st' := [.ref b]) (by rw [hb1]; rfl) ?_
          refine hm_astore C [(4, .ref b), (3, .int (nI i)), (0, .ref a), (1, va_rf pk), (2, .int (nI ix))] nd_EN_pulledLeftKey_16 (by decide) (by simp [hm_cat, hm_catI, hm_catR, hm_catN] <;> decide) ?_
          have next : ¬ (pkf i = pk ∧ ixf i = ix) → hm_W X M 0 0 52 [(4, .ref b), (3, .int (nI i)), (0, .ref a), (1, va_rf pk), (2, .int (nI ix))] [] := by
            intro hne
            refine hm_iinc (x := (nI i)) (v := ((nI i) + 1)) C [(3, .int ((nI i) + 1)), (4, .ref b), (0, .ref a), (1, va_rf pk), (2, .int (nI ix))] nd_EN_pulledLeftKey_52 rfl rfl (by decide) (by simp [hm_cat, hm_catI, hm_catR, hm_catN] <;> decide) ?_
            refine hm_goto (tgt := 2) C nd_EN_pulledLeftKey_55 (by decide) ?_
            rw [nI_1]
            exact ih (i + 1) _ (by omega) (by omega) (fun j hj => by
              by_cases e : j = i
              · rw [e]; exact hne
              · exact hpre j (by omega)) (by intro q hq; simp at hq ⊢; rcases hq with h | h | h | h <;> simp [h])
          refine hm_aload C nd_EN_pulledLeftKey_18 rfl ?_
          refine hm_ifnull (tgt := 52) (r := (some b)) C nd_EN_pulledLeftKey_20 (by decide) (fun h => by cases h) (fun _ => ?_)
          refine hm_aload C nd_EN_pulledLeftKey_23 rfl ?_
          refine hm_get C nF_EN_113 hb2 rfl nd_EN_pulledLeftKey_25 ?_
          refine hm_aload_nQ (r := pk) C nd_EN_pulledLeftKey_28 rfl ?_
          refine hm_acmp_ne (tgt := 52) (rx := (pkf i)) (ry := pk) C nd_EN_pulledLeftKey_29 (by decide) (fun c2 => ?_) (fun c2 => ?_)
          · exact next (fun h => c2 h.1)
          · refine hm_aload C nd_EN_pulledLeftKey_32 rfl ?_
            refine hm_get C nF_EN_114 hb2 rfl nd_EN_pulledLeftKey_34 ?_
            refine hm_iload_n C nd_EN_pulledLeftKey_37 rfl ?_
            refine hm_icmp_ne (tgt := 52) C nd_EN_pulledLeftKey_38 (by decide) (fun c3 => ?_) (fun c3 => ?_)
            · exact next (fun h => c3 (by rw [h.2]))
            · have m2 : ixf i = ix := (nI_eq hx1 hix).mp c3
              refine hm_aload_n C nd_EN_pulledLeftKey_41 rfl ?_
              refine hm_iload_n C nd_EN_pulledLeftKey_42 rfl ?_
              refine hm_callV C (ct_EN_dropLeftKey M a lk bs ro mi th sc st bf rc nx m f ha hlk hm8 (fun z hz => (by obtain ⟨-, b9, h1, h2⟩ := hel z hz; exact ⟨b9, _, h1, h2⟩)) i him2 hno) nV_EN_dropLeftKey [.int (nI i)] rfl ha rfl nq_EN_109 nj_EN_dropLeftKey nx_EN_dropLeftKey rfl (rest := []) rfl (Nat.le_of_ble_eq_true rfl) (by decide) (by decide) (by omega) (by omega) nd_EN_pulledLeftKey_43 (fun r M1 hp => ?_)
              obtain ⟨rfl, e1⟩ := hp
              have hb3 : M1 b = some (hm_ob 4 [va_rf (pkf i), .int (nI (ixf i)), va_rf (kyf i)]) := by rw [e1, hm_up_n _ _ (hm_ne hb2 ha (by decide)), hm_up_n _ _ (hm_neA hb2 hlk)]; exact hb2
              refine hm_stk (st' := []) rfl ?_
              refine hm_aload C nd_EN_pulledLeftKey_46 rfl ?_
              refine hm_get C nF_EN_115 hb3 rfl nd_EN_pulledLeftKey_48 ?_
              exact hm_aret (r := (kyf i)) C E (Or.inl ⟨_, rfl⟩) (by omega) (by omega) (Or.inl ⟨i, him2, c2, m2, hpre, rfl, e1⟩) nd_EN_pulledLeftKey_51
  refine hm_lv (lv' := [(0, .ref a), (1, va_rf pk), (2, .int (nI ix))]) (by simp [lv_args, hm_cat, hm_catI, hm_catR, hm_catN]) ?_
  refine hm_iconst (v := 0) C nd_EN_pulledLeftKey_0 (by decide) ?_
  refine hm_istore_n C [(3, .int 0), (0, .ref a), (1, va_rf pk), (2, .int (nI ix))] nd_EN_pulledLeftKey_1 (by decide) (by simp [hm_cat, hm_catI, hm_catR, hm_catN] <;> decide) ?_
  exact loop m 0 _ (by omega) (by omega) (fun j hj => by omega) (fun q hq => hq)
set_option maxHeartbeats 4000000 in
set_option maxRecDepth 100000 in
theorem ct_EN_become {l : Launch} {D : va_G} {BG : Nat → Option Cell} (M : hm_M) (a lk : Nat) (bs ro mi th sc : Option Nat) (st bf : Int32) (rc : Option Nat) (nx lf0 : Int32) (f : Nat → Option Nat) (ha : M a = some (hm_ob 3 [va_rf bs, va_rf ro, va_rf mi, va_rf th, va_rf sc, .int st, .int bf, va_rf rc, .int nx, .ref lk, .int lf0])) (hlk : M lk = some (hm_ar D 2 8 f)) (b lk2 : Nat) (bs2 ro2 mi2 th2 sc2 : Option Nat) (st2 bf2 : Int32) (rc2 : Option Nat) (nx2 lf2 : Int32) (f2 : Nat → Option Nat) (hb : M b = some (hm_ob 3 [va_rf bs2, va_rf ro2, va_rf mi2, va_rf th2, va_rf sc2, .int st2, .int bf2, va_rf rc2, .int nx2, .ref lk2, .int lf2])) (hlk2 : M lk2 = some (hm_ar D 2 8 f2)) (hab : a ≠ b) (hll : lk ≠ lk2) (hel : ∀ i, i < 8 → ∀ z, f2 i = some z → ∃ vs, M z = some (hm_ob 4 vs)) : hm_ct l D BG ny_EN_become prog_2_method_3_code 3 none 0 0 0 0 [.ref a, .ref b] M (fun r M' => r = none ∧ M' = hm_up (hm_up M lk (hm_ar D 2 8 (fun j => if j < 8 then f2 j else f j))) a (hm_ob 3 [va_rf bs2, va_rf ro2, va_rf mi2, va_rf th2, va_rf sc2, .int st2, .int bf2, va_rf rc2, .int nx2, .ref lk, .int lf2])) := by
  refine hm_ct_of (by decide +kernel) (by exact Nat.le_of_ble_eq_true rfl) ?_
  intro X C E
  have C : hm_C X l D BG prog_2_method_3_code "TurnedKeys$End" "become" 3 0 0 0 0 := C
  refine hm_lv (lv' := [(0, .ref a), (1, .ref b)]) rfl ?_
  refine hm_aload_n C nd_EN_become_0 rfl ?_
  refine hm_aload_n C nd_EN_become_1 rfl ?_
  refine hm_get C nF_EN_17 hb rfl nd_EN_become_2 ?_
  refine hm_put C nF_EN_17 ha (Nat.le_of_ble_eq_true rfl) (hm_narq _ _) (hm_fitq _ _) nd_EN_become_5 ?_
  refine hm_eqM (M' := hm_up M a (hm_ob 3 [va_rf bs2, va_rf ro, va_rf mi, va_rf th, va_rf sc, .int st, .int bf, va_rf rc, .int nx, .ref lk, .int lf0])) rfl ?_
  generalize hM1 : hm_up M a (hm_ob 3 [va_rf bs2, va_rf ro, va_rf mi, va_rf th, va_rf sc, .int st, .int bf, va_rf rc, .int nx, .ref lk, .int lf0]) = M1
  have fM1_0 : M1 b = some (hm_ob 3 [va_rf bs2, va_rf ro2, va_rf mi2, va_rf th2, va_rf sc2, .int st2, .int bf2, va_rf rc2, .int nx2, .ref lk2, .int lf2]) := by rw [← hM1, hm_up_n _ _ (Ne.symm hab)]; exact hb
  have aM1_0 : M1 lk = some (hm_ar D 2 8 f) := by rw [← hM1, hm_up_n _ _ (Ne.symm (hm_neA ha hlk))]; exact hlk
  have aM1_1 : M1 lk2 = some (hm_ar D 2 8 f2) := by rw [← hM1, hm_up_n _ _ (Ne.symm (hm_neA ha hlk2))]; exact hlk2
  have fM1_1 : M1 a = some (hm_ob 3 [va_rf bs2, va_rf ro, va_rf mi, va_rf th, va_rf sc, .int st, .int bf, va_rf rc, .int nx, .ref lk, .int lf0]) := by rw [← hM1]; exact hm_up_s _ _ _
  refine hm_aload_n C nd_EN_become_8 rfl ?_
  refine hm_aload_n C nd_EN_become_9 rfl ?_
  refine hm_get C nF_EN_21 fM1_0 rfl nd_EN_become_10 ?_
  refine hm_put C nF_EN_21 fM1_1 (Nat.le_of_ble_eq_true rfl) (hm_narq _ _) (hm_fitq _ _) nd_EN_become_13 ?_
  refine hm_eqM (M' := hm_up M1 a (hm_ob 3 [va_rf bs2, va_rf ro2, va_rf mi, va_rf th, va_rf sc, .int st, .int bf, va_rf rc, .int nx, .ref lk, .int lf0])) rfl ?_
  generalize hM2 : hm_up M1 a (hm_ob 3 [va_rf bs2, va_rf ro2, va_rf mi, va_rf th, va_rf sc, .int st, .int bf, va_rf rc, .int nx, .ref lk, .int lf0]) = M2
  have fM2_0 : M2 b = some (hm_ob 3 [va_rf bs2, va_rf ro2, va_rf mi2, va_rf th2, va_rf sc2, .int st2, .int bf2, va_rf rc2, .int nx2, .ref lk2, .int lf2]) := by rw [← hM2, hm_up_n _ _ (Ne.symm hab)]; exact fM1_0
  have aM2_0 : M2 lk = some (hm_ar D 2 8 f) := by rw [← hM2, hm_up_n _ _ (Ne.symm (hm_neA fM1_1 aM1_0))]; exact aM1_0
  have aM2_1 : M2 lk2 = some (hm_ar D 2 8 f2) := by rw [← hM2, hm_up_n _ _ (Ne.symm (hm_neA fM1_1 aM1_1))]; exact aM1_1
  have fM2_1 : M2 a = some (hm_ob 3 [va_rf bs2, va_rf ro2, va_rf mi, va_rf th, va_rf sc, .int st, .int bf, va_rf rc, .int nx, .ref lk, .int lf0]) := by rw [← hM2]; exact hm_up_s _ _ _
  refine hm_aload_n C nd_EN_become_16 rfl ?_
  refine hm_aload_n C nd_EN_become_17 rfl ?_
  refine hm_get C nF_EN_24 fM2_0 rfl nd_EN_become_18 ?_
  refine hm_put C nF_EN_24 fM2_1 (Nat.le_of_ble_eq_true rfl) (hm_narq _ _) (hm_fitq _ _) nd_EN_become_21 ?_
  refine hm_eqM (M' := hm_up M2 a (hm_ob 3 [va_rf bs2, va_rf ro2, va_rf mi2, va_rf th, va_rf sc, .int st, .int bf, va_rf rc, .int nx, .ref lk, .int lf0])) rfl ?_
  generalize hM3 : hm_up M2 a (hm_ob 3 [va_rf bs2, va_rf ro2, va_rf mi2, va_rf th, va_rf sc, .int st, .int bf, va_rf rc, .int nx, .ref lk, .int lf0]) = M3
  have fM3_0 : M3 b = some (hm_ob 3 [va_rf bs2, va_rf ro2, va_rf mi2, va_rf th2, va_rf sc2, .int st2, .int bf2, va_rf rc2, .int nx2, .ref lk2, .int lf2]) := by rw [← hM3, hm_up_n _ _ (Ne.symm hab)]; exact fM2_0
  have aM3_0 : M3 lk = some (hm_ar D 2 8 f) := by rw [← hM3, hm_up_n _ _ (Ne.symm (hm_neA fM2_1 aM2_0))]; exact aM2_0
  have aM3_1 : M3 lk2 = some (hm_ar D 2 8 f2) := by rw [← hM3, hm_up_n _ _ (Ne.symm (hm_neA fM2_1 aM2_1))]; exact aM2_1
  have fM3_1 : M3 a = some (hm_ob 3 [va_rf bs2, va_rf ro2, va_rf mi2, va_rf th, va_rf sc, .int st, .int bf, va_rf rc, .int nx, .ref lk, .int lf0]) := by rw [← hM3]; exact hm_up_s _ _ _
  refine hm_aload_n C nd_EN_become_24 rfl ?_
  refine hm_aload_n C nd_EN_become_25 rfl ?_
  refine hm_get C nF_EN_34 fM3_0 rfl nd_EN_become_26 ?_
  refine hm_put C nF_EN_34 fM3_1 (Nat.le_of_ble_eq_true rfl) (hm_narq _ _) (hm_fitq _ _) nd_EN_become_29 ?_
  refine hm_eqM (M' := hm_up M3 a (hm_ob 3 [va_rf bs2, va_rf ro2, va_rf mi2, va_rf th2, va_rf sc, .int st, .int bf, va_rf rc, .int nx, .ref lk, .int lf0])) rfl ?_
  generalize hM4 : hm_up M3 a (hm_ob 3 [va_rf bs2, va_rf ro2, va_rf mi2, va_rf th2, va_rf sc, .int st, .int bf, va_rf rc, .int nx, .ref lk, .int lf0]) = M4
  have fM4_0 : M4 b = some (hm_ob 3 [va_rf bs2, va_rf ro2, va_rf mi2, va_rf th2, va_rf sc2, .int st2, .int bf2, va_rf rc2, .int nx2, .ref lk2, .int lf2]) := by rw [← hM4, hm_up_n _ _ (Ne.symm hab)]; exact fM3_0
  have aM4_0 : M4 lk = some (hm_ar D 2 8 f) := by rw [← hM4, hm_up_n _ _ (Ne.symm (hm_neA fM3_1 aM3_0))]; exact aM3_0
  have aM4_1 : M4 lk2 = some (hm_ar D 2 8 f2) := by rw [← hM4, hm_up_n _ _ (Ne.symm (hm_neA fM3_1 aM3_1))]; exact aM3_1
  have fM4_1 : M4 a = some (hm_ob 3 [va_rf bs2, va_rf ro2, va_rf mi2, va_rf th2, va_rf sc, .int st, .int bf, va_rf rc, .int nx, .ref lk, .int lf0]) := by rw [← hM4]; exact hm_up_s _ _ _
  refine hm_aload_n C nd_EN_become_32 rfl ?_
  refine hm_aload_n C nd_EN_become_33 rfl ?_
  refine hm_get C nF_EN_37 fM4_0 rfl nd_EN_become_34 ?_
  refine hm_put C nF_EN_37 fM4_1 (Nat.le_of_ble_eq_true rfl) (hm_narq _ _) (hm_fitq _ _) nd_EN_become_37 ?_
  refine hm_eqM (M' := hm_up M4 a (hm_ob 3 [va_rf bs2, va_rf ro2, va_rf mi2, va_rf th2, va_rf sc2, .int st, .int bf, va_rf rc, .int nx, .ref lk, .int lf0])) rfl ?_
  generalize hM5 : hm_up M4 a (hm_ob 3 [va_rf bs2, va_rf ro2, va_rf mi2, va_rf th2, va_rf sc2, .int st, .int bf, va_rf rc, .int nx, .ref lk, .int lf0]) = M5
  have fM5_0 : M5 b = some (hm_ob 3 [va_rf bs2, va_rf ro2, va_rf mi2, va_rf th2, va_rf sc2, .int st2, .int bf2, va_rf rc2, .int nx2, .ref lk2, .int lf2]) := by rw [← hM5, hm_up_n _ _ (Ne.symm hab)]; exact fM4_0
  have aM5_0 : M5 lk = some (hm_ar D 2 8 f) := by rw [← hM5, hm_up_n _ _ (Ne.symm (hm_neA fM4_1 aM4_0))]; exact aM4_0
  have aM5_1 : M5 lk2 = some (hm_ar D 2 8 f2) := by rw [← hM5, hm_up_n _ _ (Ne.symm (hm_neA fM4_1 aM4_1))]; exact aM4_1
  have fM5_1 : M5 a = some (hm_ob 3 [va_rf bs2, va_rf ro2, va_rf mi2, va_rf th2, va_rf sc2, .int st, .int bf, va_rf rc, .int nx, .ref lk, .int lf0]) := by rw [← hM5]; exact hm_up_s _ _ _
  refine hm_aload_n C nd_EN_become_40 rfl ?_
  refine hm_aload_n C nd_EN_become_41 rfl ?_
  refine hm_get C nF_EN_40 fM5_0 rfl nd_EN_become_42 ?_
  refine hm_put C nF_EN_40 fM5_1 (Nat.le_of_ble_eq_true rfl) rfl rfl nd_EN_become_45 ?_
  refine hm_eqM (M' := hm_up M5 a (hm_ob 3 [va_rf bs2, va_rf ro2, va_rf mi2, va_rf th2, va_rf sc2, .int st2, .int bf, va_rf rc, .int nx, .ref lk, .int lf0])) rfl ?_
  generalize hM6 : hm_up M5 a (hm_ob 3 [va_rf bs2, va_rf ro2, va_rf mi2, va_rf th2, va_rf sc2, .int st2, .int bf, va_rf rc, .int nx, .ref lk, .int lf0]) = M6
  have fM6_0 : M6 b = some (hm_ob 3 [va_rf bs2, va_rf ro2, va_rf mi2, va_rf th2, va_rf sc2, .int st2, .int bf2, va_rf rc2, .int nx2, .ref lk2, .int lf2]) := by rw [← hM6, hm_up_n _ _ (Ne.symm hab)]; exact fM5_0
  have aM6_0 : M6 lk = some (hm_ar D 2 8 f) := by rw [← hM6, hm_up_n _ _ (Ne.symm (hm_neA fM5_1 aM5_0))]; exact aM5_0
  have aM6_1 : M6 lk2 = some (hm_ar D 2 8 f2) := by rw [← hM6, hm_up_n _ _ (Ne.symm (hm_neA fM5_1 aM5_1))]; exact aM5_1
  have fM6_1 : M6 a = some (hm_ob 3 [va_rf bs2, va_rf ro2, va_rf mi2, va_rf th2, va_rf sc2, .int st2, .int bf, va_rf rc, .int nx, .ref lk, .int lf0]) := by rw [← hM6]; exact hm_up_s _ _ _
  refine hm_aload_n C nd_EN_become_48 rfl ?_
  refine hm_aload_n C nd_EN_become_49 rfl ?_
  refine hm_get C nF_EN_44 fM6_0 rfl nd_EN_become_50 ?_
  refine hm_put C nF_EN_44 fM6_1 (Nat.le_of_ble_eq_true rfl) rfl rfl nd_EN_become_53 ?_
  refine hm_eqM (M' := hm_up M6 a (hm_ob 3 [va_rf bs2, va_rf ro2, va_rf mi2, va_rf th2, va_rf sc2, .int st2, .int bf2, va_rf rc, .int nx, .ref lk, .int lf0])) rfl ?_
  generalize hM7 : hm_up M6 a (hm_ob 3 [va_rf bs2, va_rf ro2, va_rf mi2, va_rf th2, va_rf sc2, .int st2, .int bf2, va_rf rc, .int nx, .ref lk, .int lf0]) = M7
  have fM7_0 : M7 b = some (hm_ob 3 [va_rf bs2, va_rf ro2, va_rf mi2, va_rf th2, va_rf sc2, .int st2, .int bf2, va_rf rc2, .int nx2, .ref lk2, .int lf2]) := by rw [← hM7, hm_up_n _ _ (Ne.symm hab)]; exact fM6_0
  have aM7_0 : M7 lk = some (hm_ar D 2 8 f) := by rw [← hM7, hm_up_n _ _ (Ne.symm (hm_neA fM6_1 aM6_0))]; exact aM6_0
  have aM7_1 : M7 lk2 = some (hm_ar D 2 8 f2) := by rw [← hM7, hm_up_n _ _ (Ne.symm (hm_neA fM6_1 aM6_1))]; exact aM6_1
  have fM7_1 : M7 a = some (hm_ob 3 [va_rf bs2, va_rf ro2, va_rf mi2, va_rf th2, va_rf sc2, .int st2, .int bf2, va_rf rc, .int nx, .ref lk, .int lf0]) := by rw [← hM7]; exact hm_up_s _ _ _
  refine hm_aload_n C nd_EN_become_56 rfl ?_
  refine hm_aload_n C nd_EN_become_57 rfl ?_
  refine hm_get C nF_EN_47 fM7_0 rfl nd_EN_become_58 ?_
  refine hm_put C nF_EN_47 fM7_1 (Nat.le_of_ble_eq_true rfl) (hm_narq _ _) (hm_fitq _ _) nd_EN_become_61 ?_
  refine hm_eqM (M' := hm_up M7 a (hm_ob 3 [va_rf bs2, va_rf ro2, va_rf mi2, va_rf th2, va_rf sc2, .int st2, .int bf2, va_rf rc2, .int nx, .ref lk, .int lf0])) rfl ?_
  generalize hM8 : hm_up M7 a (hm_ob 3 [va_rf bs2, va_rf ro2, va_rf mi2, va_rf th2, va_rf sc2, .int st2, .int bf2, va_rf rc2, .int nx, .ref lk, .int lf0]) = M8
  have fM8_0 : M8 b = some (hm_ob 3 [va_rf bs2, va_rf ro2, va_rf mi2, va_rf th2, va_rf sc2, .int st2, .int bf2, va_rf rc2, .int nx2, .ref lk2, .int lf2]) := by rw [← hM8, hm_up_n _ _ (Ne.symm hab)]; exact fM7_0
  have aM8_0 : M8 lk = some (hm_ar D 2 8 f) := by rw [← hM8, hm_up_n _ _ (Ne.symm (hm_neA fM7_1 aM7_0))]; exact aM7_0
  have aM8_1 : M8 lk2 = some (hm_ar D 2 8 f2) := by rw [← hM8, hm_up_n _ _ (Ne.symm (hm_neA fM7_1 aM7_1))]; exact aM7_1
  have fM8_1 : M8 a = some (hm_ob 3 [va_rf bs2, va_rf ro2, va_rf mi2, va_rf th2, va_rf sc2, .int st2, .int bf2, va_rf rc2, .int nx, .ref lk, .int lf0]) := by rw [← hM8]; exact hm_up_s _ _ _
  refine hm_aload_n C nd_EN_become_64 rfl ?_
  refine hm_aload_n C nd_EN_become_65 rfl ?_
  refine hm_get C nF_EN_50 fM8_0 rfl nd_EN_become_66 ?_
  refine hm_put C nF_EN_50 fM8_1 (Nat.le_of_ble_eq_true rfl) rfl rfl nd_EN_become_69 ?_
  refine hm_eqM (M' := hm_up M8 a (hm_ob 3 [va_rf bs2, va_rf ro2, va_rf mi2, va_rf th2, va_rf sc2, .int st2, .int bf2, va_rf rc2, .int nx2, .ref lk, .int lf0])) rfl ?_
  generalize hM9 : hm_up M8 a (hm_ob 3 [va_rf bs2, va_rf ro2, va_rf mi2, va_rf th2, va_rf sc2, .int st2, .int bf2, va_rf rc2, .int nx2, .ref lk, .int lf0]) = M9
  have fM9_0 : M9 b = some (hm_ob 3 [va_rf bs2, va_rf ro2, va_rf mi2, va_rf th2, va_rf sc2, .int st2, .int bf2, va_rf rc2, .int nx2, .ref lk2, .int lf2]) := by rw [← hM9, hm_up_n _ _ (Ne.symm hab)]; exact fM8_0
  have aM9_0 : M9 lk = some (hm_ar D 2 8 f) := by rw [← hM9, hm_up_n _ _ (Ne.symm (hm_neA fM8_1 aM8_0))]; exact aM8_0
  have aM9_1 : M9 lk2 = some (hm_ar D 2 8 f2) := by rw [← hM9, hm_up_n _ _ (Ne.symm (hm_neA fM8_1 aM8_1))]; exact aM8_1
  have fM9_1 : M9 a = some (hm_ob 3 [va_rf bs2, va_rf ro2, va_rf mi2, va_rf th2, va_rf sc2, .int st2, .int bf2, va_rf rc2, .int nx2, .ref lk, .int lf0]) := by rw [← hM9]; exact hm_up_s _ _ _
  refine hm_iconst (v := 0) C nd_EN_become_72 (by decide) ?_
  refine hm_istore_n C [(2, .int 0), (0, .ref a), (1, .ref b)] nd_EN_become_73 (by decide) rfl ?_
  have eM : M9 = hm_up M a (hm_ob 3 [va_rf bs2, va_rf ro2, va_rf mi2, va_rf th2, va_rf sc2, .int st2, .int bf2, va_rf rc2, .int nx2, .ref lk, .int lf0]) := by rw [← hM9, ← hM8, ← hM7, ← hM6, ← hM5, ← hM4, ← hM3, ← hM2, ← hM1, hm_up_up, hm_up_up, hm_up_up, hm_up_up, hm_up_up, hm_up_up, hm_up_up, hm_up_up]
  clear fM1_0 fM1_1 aM1_0 aM1_1 fM2_0 fM2_1 aM2_0 aM2_1 fM3_0 fM3_1 aM3_0 aM3_1 fM4_0 fM4_1 aM4_0 aM4_1 fM5_0 fM5_1 aM5_0 aM5_1 fM6_0 fM6_1 aM6_0 aM6_1 fM7_0 fM7_1 aM7_0 aM7_1 fM8_0 fM8_1 aM8_0 aM8_1
  clear hM9 hM8 hM7 hM6 hM5 hM4 hM3 hM2 hM1
  have hel2 : ∀ i, i < 8 → ∀ z, f2 i = some z → ∃ vs, M9 z = some (hm_ob 4 vs) := fun i hi z hz => by
    obtain ⟨vs, h⟩ := hel i hi z hz
    exact ⟨vs, by rw [eM, hm_up_n _ _ (hm_ne h ha (by decide))]; exact h⟩
  have loop : ∀ (u i : Nat), 8 ≤ i + u → i ≤ 8 → hm_W X (hm_up M9 lk (hm_ar D 2 8 (fun j => if j < i then f2 j else f j))) 0 0 74 [(2, .int (nI i)), (0, .ref a), (1, .ref b)] [] := by
    intro u
    induction u with
    | zero =>
      intro i hu hi8
      generalize hM0 : hm_up M9 lk (hm_ar D 2 8 (fun j => if j < i then f2 j else f j)) = Mi
      have ha0 : Mi a = some (hm_ob 3 [va_rf bs2, va_rf ro2, va_rf mi2, va_rf th2, va_rf sc2, .int st2, .int bf2, va_rf rc2, .int nx2, .ref lk, .int lf0]) := by rw [← hM0, hm_up_n _ _ (hm_neA fM9_1 aM9_0)]; exact fM9_1
      have hb0 : Mi b = some (hm_ob 3 [va_rf bs2, va_rf ro2, va_rf mi2, va_rf th2, va_rf sc2, .int st2, .int bf2, va_rf rc2, .int nx2, .ref lk2, .int lf2]) := by rw [← hM0, hm_up_n _ _ (hm_neA fM9_0 aM9_0)]; exact fM9_0
      have hk0 : Mi lk = some (hm_ar D 2 8 (fun j => if j < i then f2 j else f j)) := by rw [← hM0]; exact hm_up_s _ _ _
      have hk2 : Mi lk2 = some (hm_ar D 2 8 f2) := by rw [← hM0, hm_up_n _ _ (Ne.symm hll)]; exact aM9_1
      refine hm_iload_n C nd_EN_become_74 rfl ?_
      refine hm_bipush (v := 8) C nd_EN_become_75 (by decide) ?_
      refine hm_icmp_ge (tgt := 98) C nd_EN_become_77 (by decide) (fun c1 => ?_) (fun c1 => absurd (show (8 : Int32) ≤ nI i from (show nI 8 ≤ nI i from nI_le (by omega) (by omega))) c1)
      have hie : i = 8 := by omega
      refine hm_aload_n C nd_EN_become_98 rfl ?_
      refine hm_aload_n C nd_EN_become_99 rfl ?_
      refine hm_get C nF_EN_53 hb0 rfl nd_EN_become_100 ?_
      refine hm_put C nF_EN_53 ha0 (Nat.le_of_ble_eq_true rfl) rfl rfl nd_EN_become_103 ?_
      refine hm_eqM (M' := hm_up Mi a (hm_ob 3 [va_rf bs2, va_rf ro2, va_rf mi2, va_rf th2, va_rf sc2, .int st2, .int bf2, va_rf rc2, .int nx2, .ref lk, .int lf2])) rfl ?_
      generalize hM1 : hm_up Mi a (hm_ob 3 [va_rf bs2, va_rf ro2, va_rf mi2, va_rf th2, va_rf sc2, .int st2, .int bf2, va_rf rc2, .int nx2, .ref lk, .int lf2]) = M1
      have fM1_0 : M1 b = some (hm_ob 3 [va_rf bs2, va_rf ro2, va_rf mi2, va_rf th2, va_rf sc2, .int st2, .int bf2, va_rf rc2, .int nx2, .ref lk2, .int lf2]) := by rw [← hM1, hm_up_n _ _ (Ne.symm hab)]; exact hb0
      have aM1_0 : M1 lk = some (hm_ar D 2 8 (fun j => if j < i then f2 j else f j)) := by rw [← hM1, hm_up_n _ _ (Ne.symm (hm_neA ha0 hk0))]; exact hk0
      have aM1_1 : M1 lk2 = some (hm_ar D 2 8 f2) := by rw [← hM1, hm_up_n _ _ (Ne.symm (hm_neA ha0 hk2))]; exact hk2
      have fM1_1 : M1 a = some (hm_ob 3 [va_rf bs2, va_rf ro2, va_rf mi2, va_rf th2, va_rf sc2, .int st2, .int bf2, va_rf rc2, .int nx2, .ref lk, .int lf2]) := by rw [← hM1]; exact hm_up_s _ _ _
      exact hm_vret C E (by omega) (by omega) (⟨rfl, by rw [← hM1, ← hM0, hie, eM, hm_up_cm (hm_neA ha hlk), hm_up_cm (hm_neA ha hlk), hm_up_up]⟩) nd_EN_become_106
    | succ u ih =>
      intro i hu hi8
      generalize hM0 : hm_up M9 lk (hm_ar D 2 8 (fun j => if j < i then f2 j else f j)) = Mi
      have ha0 : Mi a = some (hm_ob 3 [va_rf bs2, va_rf ro2, va_rf mi2, va_rf th2, va_rf sc2, .int st2, .int bf2, va_rf rc2, .int nx2, .ref lk, .int lf0]) := by rw [← hM0, hm_up_n _ _ (hm_neA fM9_1 aM9_0)]; exact fM9_1
      have hb0 : Mi b = some (hm_ob 3 [va_rf bs2, va_rf ro2, va_rf mi2, va_rf th2, va_rf sc2, .int st2, .int bf2, va_rf rc2, .int nx2, .ref lk2, .int lf2]) := by rw [← hM0, hm_up_n _ _ (hm_neA fM9_0 aM9_0)]; exact fM9_0
      have hk0 : Mi lk = some (hm_ar D 2 8 (fun j => if j < i then f2 j else f j)) := by rw [← hM0]; exact hm_up_s _ _ _
      have hk2 : Mi lk2 = some (hm_ar D 2 8 f2) := by rw [← hM0, hm_up_n _ _ (Ne.symm hll)]; exact aM9_1
      refine hm_iload_n C nd_EN_become_74 rfl ?_
      refine hm_bipush (v := 8) C nd_EN_become_75 (by decide) ?_
      refine hm_icmp_ge (tgt := 98) C nd_EN_become_77 (by decide) (fun c1 => ?_) (fun c1 => ?_)
      · have hi82 : 8 ≤ i := by
          rcases Nat.lt_or_ge i 8 with h | h
          · exact absurd c1 (show ¬ nI 8 ≤ nI i from nI_ge h (by omega))
          · exact h
        have hie : i = 8 := by omega
        refine hm_aload_n C nd_EN_become_98 rfl ?_
        refine hm_aload_n C nd_EN_become_99 rfl ?_
        refine hm_get C nF_EN_53 hb0 rfl nd_EN_become_100 ?_
        refine hm_put C nF_EN_53 ha0 (Nat.le_of_ble_eq_true rfl) rfl rfl nd_EN_become_103 ?_
        refine hm_eqM (M' := hm_up Mi a (hm_ob 3 [va_rf bs2, va_rf ro2, va_rf mi2, va_rf th2, va_rf sc2, .int st2, .int bf2, va_rf rc2, .int nx2, .ref lk, .int lf2])) rfl ?_
        generalize hM1 : hm_up Mi a (hm_ob 3 [va_rf bs2, va_rf ro2, va_rf mi2, va_rf th2, va_rf sc2, .int st2, .int bf2, va_rf rc2, .int nx2, .ref lk, .int lf2]) = M1
        have fM1_0 : M1 b = some (hm_ob 3 [va_rf bs2, va_rf ro2, va_rf mi2, va_rf th2, va_rf sc2, .int st2, .int bf2, va_rf rc2, .int nx2, .ref lk2, .int lf2]) := by rw [← hM1, hm_up_n _ _ (Ne.symm hab)]; exact hb0
        have aM1_0 : M1 lk = some (hm_ar D 2 8 (fun j => if j < i then f2 j else f j)) := by rw [← hM1, hm_up_n _ _ (Ne.symm (hm_neA ha0 hk0))]; exact hk0
        have aM1_1 : M1 lk2 = some (hm_ar D 2 8 f2) := by rw [← hM1, hm_up_n _ _ (Ne.symm (hm_neA ha0 hk2))]; exact hk2
        have fM1_1 : M1 a = some (hm_ob 3 [va_rf bs2, va_rf ro2, va_rf mi2, va_rf th2, va_rf sc2, .int st2, .int bf2, va_rf rc2, .int nx2, .ref lk, .int lf2]) := by rw [← hM1]; exact hm_up_s _ _ _
        exact hm_vret C E (by omega) (by omega) (⟨rfl, by rw [← hM1, ← hM0, hie, eM, hm_up_cm (hm_neA ha hlk), hm_up_cm (hm_neA ha hlk), hm_up_up]⟩) nd_EN_become_106
      · have hi8b : i < 8 := by
          rcases Nat.lt_or_ge i 8 with h | h
          · exact h
          · exact absurd (show nI 8 ≤ nI i from nI_le h (by omega)) c1
        refine hm_aload_n C nd_EN_become_80 rfl ?_
        refine hm_get C nF_EN_11 ha0 rfl nd_EN_become_81 ?_
        refine hm_iload_n C nd_EN_become_84 rfl ?_
        refine hm_aload_n C nd_EN_become_85 rfl ?_
        refine hm_get C nF_EN_11 hb0 rfl nd_EN_become_86 ?_
        refine hm_iload_n C nd_EN_become_89 rfl ?_
        refine hm_aald C (t := 2) (j := i) rfl hk2 rfl hi8b (by omega) nd_EN_become_90 ?_
        have onw : hm_W X (hm_up Mi lk (hm_ar D 2 8 (va_up (fun j => if j < i then f2 j else f j) i (f2 i)))) 0 0 92 [(2, .int (nI i)), (0, .ref a), (1, .ref b)] [] := by
          rw [← hM0, hm_up_up]
          refine hm_iinc (x := (nI i)) (v := ((nI i) + 1)) C [(2, .int ((nI i) + 1)), (0, .ref a), (1, .ref b)] nd_EN_become_92 rfl rfl (by decide) rfl ?_
          refine hm_goto (tgt := 74) C nd_EN_become_95 (by decide) ?_
          rw [nI_1]
          have hg2 : va_up (fun j => if j < i then f2 j else f j) i (f2 i) = (fun j => if j < i + 1 then f2 j else f j) := by
            funext z
            by_cases hz : z = i
            · subst hz
              rw [va_up_self, if_pos (by omega)]
            · rw [va_up_ne _ _ hz]
              by_cases h1 : z < i
              · rw [if_pos h1, if_pos (by omega)]
              · rw [if_neg h1, if_neg (by omega)]
          rw [hg2]
          exact ih (i + 1) (by omega) (by omega)
        cases hf2 : f2 i with
        | none =>
          rw [hf2] at onw
          exact hm_aastN C (t := 2) (j := i) rfl hk0 rfl hi8b (by omega) nd_EN_become_91 onw
        | some z =>
          rw [hf2] at onw
          obtain ⟨vs, hz⟩ := hel2 i hi8b z hf2
          have hz0 : Mi z = some (hm_ob 4 vs) := by rw [← hM0, hm_up_n _ _ (hm_neA hz aM9_0)]; exact hz
          exact hm_aast C (t := 2) (j := i) rfl hk0 hz0 rfl (Or.inl rfl) rfl hi8b (by omega) nd_EN_become_91 onw
  have e0 : M9 = hm_up M9 lk (hm_ar D 2 8 (fun j => if j < 0 then f2 j else f j)) := by
    funext z
    by_cases hz : z = lk
    · subst hz
      rw [hm_up_s, aM9_0]
      rfl
    · rw [hm_up_n _ _ hz]
  refine hm_eqM e0 ?_
  refine hm_lv (lv' := [(2, .int (nI 0)), (0, .ref a), (1, .ref b)]) rfl ?_
  exact loop 8 0 (by omega) (by omega)
