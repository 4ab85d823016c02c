theorem en_dr (p m : Nat) (f : Nat → Option Nat) (h : p < m) (h8 : m ≤ 8) (hno : ∀ i, m ≤ i → f i = none) : va_up (fun j => if j < p then f j else if j < m - 1 then f (j + 1) else f j) (m - 1) none = (fun i => if i < p then f i else f (i + 1)) := by
  funext z
  by_cases hz : z = m - 1
  · subst hz
    rw [va_up_self, if_neg (by omega), hno _ (by omega)]
  · rw [va_up_ne _ _ hz]
    by_cases h1 : z < p
    · rw [if_pos h1, if_pos h1]
    · rw [if_neg h1, if_neg h1]
      by_cases h2 : z < m - 1
      · rw [if_pos h2]
      · rw [if_neg h2, hno z (by omega), hno _ (by omega)]
set_option maxHeartbeats 4000000 in
set_option maxRecDepth 100000 in
theorem ct_EN_init {l : Launch} {D : va_G} {BG : Nat → Option Cell} (M : hm_M) (a : Nat) (bs ro mi : Option Nat) (ha : M a = some (hm_ob 3 [.null, .null, .null, .null, .null, .int 0, .int 0, .null, .int 0, .null, .int 0])) : hm_ct l D BG ny_EN_init prog_2_method_1_code 4 none 1 15 1 8 [.ref a, va_rf bs, va_rf ro, va_rf mi] M (fun r M' => ∃ lk : Nat, r = none ∧ M lk = none ∧ M' = hm_up (hm_up M lk (hm_ar D 2 8 (fun _ => none))) a (hm_ob 3 [va_rf bs, va_rf ro, va_rf mi, .null, .null, .int 0, .int 0, .null, .int 0, .ref lk, .int 0])) := by
  refine hm_ct_of (by decide +kernel) (by simp [lg_sl, hm_cat, hm_catI, hm_catR, hm_catN]) ?_
  intro X C E
  have C : hm_C X l D BG prog_2_method_1_code "TurnedKeys$End" "<init>" 4 1 15 1 8 := C
  refine hm_lv (lv' := [(0, .ref a), (1, va_rf bs), (2, va_rf ro), (3, va_rf mi)]) (by simp [lv_args, hm_cat, hm_catI, hm_catR, hm_catN]) ?_
  refine hm_aload_n C nd_EN_init_0 rfl ?_
  refine hm_objInit C nq_EN_3 nj_OJ_init nm_OJ_init (by decide) (by decide) nd_EN_init_1 ?_
  refine hm_aload_n C nd_EN_init_4 rfl ?_
  refine hm_bipush (v := 8) C nd_EN_init_5 (by decide) ?_
  refine hm_anew (t := 2) (N := 8) C rfl nc_EN_9 nr_LK (by decide) (by omega) (by omega) (by omega) nd_EN_init_7 (fun lk hlk => ?_)
  generalize hM1 : hm_up M lk (hm_ar D 2 8 (fun _ => none)) = M1
  have fM1_0 : M1 a = some (hm_ob 3 [.null, .null, .null, .null, .null, .int 0, .int 0, .null, .int 0, .null, .int 0]) := by rw [← hM1, hm_up_n _ _ (hm_neF ha hlk)]; exact ha
  have aM1_0 : M1 lk = some (hm_ar D 2 8 (fun _ => none)) := by rw [← hM1]; exact hm_up_s _ _ _
  refine hm_putF C nF_EN_11 fM1_0 (Nat.le_of_ble_eq_true rfl) rfl rfl nd_EN_init_10 ?_
  refine hm_eqM (M' := hm_up M1 a (hm_ob 3 [.null, .null, .null, .null, .null, .int 0, .int 0, .null, .int 0, .ref lk, .int 0])) rfl ?_
  generalize hM2 : hm_up M1 a (hm_ob 3 [.null, .null, .null, .null, .null, .int 0, .int 0, .null, .int 0, .ref lk, .int 0]) = M2
  have aM2_0 : M2 lk = some (hm_ar D 2 8 (fun _ => none)) := by rw [← hM2, hm_up_n _ _ (Ne.symm (hm_neA fM1_0 aM1_0))]; exact aM1_0
  have fM2_0 : M2 a = some (hm_ob 3 [.null, .null, .null, .null, .null, .int 0, .int 0, .null, .int 0, .ref lk, .int 0]) := by rw [← hM2]; exact hm_up_s _ _ _
  refine hm_aload_n C nd_EN_init_13 rfl ?_
  refine hm_aload_nQ (r := bs) C nd_EN_init_14 rfl ?_
  refine hm_put C nF_EN_17 fM2_0 (Nat.le_of_ble_eq_true rfl) (hm_narq _ _) (hm_fitq _ _) nd_EN_init_15 ?_
  refine hm_eqM (M' := hm_up M2 a (hm_ob 3 [va_rf bs, .null, .null, .null, .null, .int 0, .int 0, .null, .int 0, .ref lk, .int 0])) rfl ?_
  generalize hM3 : hm_up M2 a (hm_ob 3 [va_rf bs, .null, .null, .null, .null, .int 0, .int 0, .null, .int 0, .ref lk, .int 0]) = M3
  have aM3_0 : M3 lk = some (hm_ar D 2 8 (fun _ => none)) := by rw [← hM3, hm_up_n _ _ (Ne.symm (hm_neA fM2_0 aM2_0))]; exact aM2_0
  have fM3_0 : M3 a = some (hm_ob 3 [va_rf bs, .null, .null, .null, .null, .int 0, .int 0, .null, .int 0, .ref lk, .int 0]) := by rw [← hM3]; exact hm_up_s _ _ _
  refine hm_aload_n C nd_EN_init_18 rfl ?_
  refine hm_aload_nQ (r := ro) C nd_EN_init_19 rfl ?_
  refine hm_put C nF_EN_21 fM3_0 (Nat.le_of_ble_eq_true rfl) (hm_narq _ _) (hm_fitq _ _) nd_EN_init_20 ?_
  refine hm_eqM (M' := hm_up M3 a (hm_ob 3 [va_rf bs, va_rf ro, .null, .null, .null, .int 0, .int 0, .null, .int 0, .ref lk, .int 0])) rfl ?_
  generalize hM4 : hm_up M3 a (hm_ob 3 [va_rf bs, va_rf ro, .null, .null, .null, .int 0, .int 0, .null, .int 0, .ref lk, .int 0]) = M4
  have aM4_0 : M4 lk = some (hm_ar D 2 8 (fun _ => none)) := by rw [← hM4, hm_up_n _ _ (Ne.symm (hm_neA fM3_0 aM3_0))]; exact aM3_0
  have fM4_0 : M4 a = some (hm_ob 3 [va_rf bs, va_rf ro, .null, .null, .null, .int 0, .int 0, .null, .int 0, .ref lk, .int 0]) := by rw [← hM4]; exact hm_up_s _ _ _
  refine hm_aload_n C nd_EN_init_23 rfl ?_
  refine hm_aload_nQ (r := mi) C nd_EN_init_24 rfl ?_
  refine hm_put C nF_EN_24 fM4_0 (Nat.le_of_ble_eq_true rfl) (hm_narq _ _) (hm_fitq _ _) nd_EN_init_25 ?_
  refine hm_eqM (M' := hm_up M4 a (hm_ob 3 [va_rf bs, va_rf ro, va_rf mi, .null, .null, .int 0, .int 0, .null, .int 0, .ref lk, .int 0])) rfl ?_
  generalize hM5 : hm_up M4 a (hm_ob 3 [va_rf bs, va_rf ro, va_rf mi, .null, .null, .int 0, .int 0, .null, .int 0, .ref lk, .int 0]) = M5
  have aM5_0 : M5 lk = some (hm_ar D 2 8 (fun _ => none)) := by rw [← hM5, hm_up_n _ _ (Ne.symm (hm_neA fM4_0 aM4_0))]; exact aM4_0
  have fM5_0 : M5 a = some (hm_ob 3 [va_rf bs, va_rf ro, va_rf mi, .null, .null, .int 0, .int 0, .null, .int 0, .ref lk, .int 0]) := by rw [← hM5]; exact hm_up_s _ _ _
  exact hm_vret C E (by omega) (by omega) (⟨lk, rfl, hlk, by rw [← hM5, ← hM4, ← hM3, ← hM2, ← hM1, hm_up_up, hm_up_up, hm_up_up]⟩) nd_EN_init_28
set_option maxHeartbeats 4000000 in
set_option maxRecDepth 100000 in
theorem ct_EN_dropLeftKey {l : Launch} {D : va_G} {BG : Nat → Option Cell} (M : hm_M) (a lk : Nat) (bs ro mi th sc : Option Nat) (st bf : Int32) (rc : Option Nat) (nx : Int32) (m : Nat) (f : Nat → Option Nat) (ha : M a = some (hm_ob 3 [va_rf bs, va_rf ro, va_rf mi, va_rf th, va_rf sc, .int st, .int bf, va_rf rc, .int nx, .ref lk, .int (nI m)])) (hlk : M lk = some (hm_ar D 2 8 f)) (hm8 : m ≤ 8) (hel : ∀ i, i < m → ∃ b vs, f i = some b ∧ M b = some (hm_ob 4 vs)) (p : Nat) (hp : p < m) (hno : ∀ i, m ≤ i → f i = none) : hm_ct l D BG ny_EN_dropLeftKey prog_2_method_12_code 3 none 0 0 0 0 [.ref a, .int (nI p)] M (fun r M' => r = none ∧ M' = hm_up (hm_up M lk (hm_ar D 2 8 (fun i => if i < p then f i else f (i + 1)))) a (hm_ob 3 [va_rf bs, va_rf ro, va_rf mi, va_rf th, va_rf sc, .int st, .int bf, va_rf rc, .int nx, .ref lk, .int (nI (m - 1))])) := by
  refine hm_ct_of (by decide +kernel) (by exact Nat.le_of_ble_eq_true rfl) ?_
  intro X C E
  have C : hm_C X l D BG prog_2_method_12_code "TurnedKeys$End" "dropLeftKey" 3 0 0 0 0 := C
  have loop : ∀ (u i : Nat), m ≤ i + 1 + u → p ≤ i → i + 1 ≤ m → hm_W X (hm_up M lk (hm_ar D 2 8 (fun j => if j < p then f j else if j < i then f (j + 1) else f j))) 0 0 2 [(2, .int (nI i)), (0, .ref a), (1, .int (nI p))] [] := by
    intro u
    induction u with
    | zero =>
        intro i hu hpi him
        generalize hM0 : hm_up M lk (hm_ar D 2 8 (fun j => if j < p then f j else if j < i then f (j + 1) else f j)) = Mi
        have ha0 : Mi a = some (hm_ob 3 [va_rf bs, va_rf ro, va_rf mi, va_rf th, va_rf sc, .int st, .int bf, va_rf rc, .int nx, .ref lk, .int (nI m)]) := by rw [← hM0, hm_up_n _ _ (hm_neA ha hlk)]; exact ha
        have hk0 : Mi lk = some (hm_ar D 2 8 (fun j => if j < p then f j else if j < i then f (j + 1) else f j)) := by rw [← hM0]; exact hm_up_s _ _ _
        have hel0 : ∀ z, z < m → ∃ b vs, f z = some b ∧ Mi b = some (hm_ob 4 vs) := fun z hz => by
          obtain ⟨b, vs, h1, h2⟩ := hel z hz
          exact ⟨b, vs, h1, by rw [← hM0, hm_up_n _ _ (hm_neA h2 hlk)]; exact h2⟩
        refine hm_iload_n C nd_EN_dropLeftKey_2 rfl ?_
        refine hm_iconst (v := 1) C nd_EN_dropLeftKey_3 (by decide) ?_
        refine hm_iadd C nd_EN_dropLeftKey_4 ?_
        refine hm_aload_n C nd_EN_dropLeftKey_5 rfl ?_
        refine hm_get C nF_EN_53 ha0 rfl nd_EN_dropLeftKey_6 ?_
        refine hm_icmp_ge (tgt := 32) C nd_EN_dropLeftKey_9 (by decide) (fun c1 => ?_) (fun c1 => absurd (show nI m ≤ nI i + 1 from by rw [nI_1]; exact nI_le (by omega) (by omega)) c1)
        have hie : i = m - 1 := by omega
        refine hm_aload_n C nd_EN_dropLeftKey_32 rfl ?_
        refine hm_dup C nd_EN_dropLeftKey_33 rfl ?_
        refine hm_get C nF_EN_53 ha0 rfl nd_EN_dropLeftKey_34 ?_
        refine hm_iconst (v := 1) C nd_EN_dropLeftKey_37 (by decide) ?_
        refine hm_isub C nd_EN_dropLeftKey_38 ?_
        rw [show nI m - 1 = nI (m - 1) from by have h := pk_sub (a := m) (b := 1) (by omega); exact h]
        refine hm_put C nF_EN_53 ha0 (Nat.le_of_ble_eq_true rfl) rfl rfl nd_EN_dropLeftKey_39 ?_
        refine hm_eqM (M' := hm_up Mi a (hm_ob 3 [va_rf bs, va_rf ro, va_rf mi, va_rf th, va_rf sc, .int st, .int bf, va_rf rc, .int nx, .ref lk, .int (nI (m - 1))])) rfl ?_
        generalize hM1 : hm_up Mi a (hm_ob 3 [va_rf bs, va_rf ro, va_rf mi, va_rf th, va_rf sc, .int st, .int bf, va_rf rc, .int nx, .ref lk, .int (nI (m - 1))]) = M1
        have aM1_0 : M1 lk = some (hm_ar D 2 8 (fun j => if j < p then f j else if j < i then f (j + 1) else f j)) := by rw [← hM1, hm_up_n _ _ (Ne.symm (hm_neA ha0 hk0))]; exact hk0
        have fM1_0 : M1 a = some (hm_ob 3 [va_rf bs, va_rf ro, va_rf mi, va_rf th, va_rf sc, .int st, .int bf, va_rf rc, .int nx, .ref lk, .int (nI (m - 1))]) := by rw [← hM1]; exact hm_up_s _ _ _
        refine hm_aload_n C nd_EN_dropLeftKey_42 rfl ?_
        refine hm_get C nF_EN_11 fM1_0 rfl nd_EN_dropLeftKey_43 ?_
        refine hm_aload_n C nd_EN_dropLeftKey_46 rfl ?_
        refine hm_get C nF_EN_53 fM1_0 rfl nd_EN_dropLeftKey_47 ?_
        refine hm_null C nd_EN_dropLeftKey_50 ?_
        refine hm_aastN C (t := 2) (j := m - 1) rfl aM1_0 rfl (by omega) (by omega) nd_EN_dropLeftKey_51 ?_
        exact hm_vret C E (by omega) (by omega) (⟨rfl, by rw [← hM1, ← hM0, hie, hm_up_cm (Ne.symm (hm_neA ha hlk)), hm_up_up]; congr 2; exact congrArg (hm_ar D 2 8) (en_dr p m f (by omega) hm8 hno)⟩) nd_EN_dropLeftKey_52
    | succ u ih =>
        intro i hu hpi him
        generalize hM0 : hm_up M lk (hm_ar D 2 8 (fun j => if j < p then f j else if j < i then f (j + 1) else f j)) = Mi
        have ha0 : Mi a = some (hm_ob 3 [va_rf bs, va_rf ro, va_rf mi, va_rf th, va_rf sc, .int st, .int bf, va_rf rc, .int nx, .ref lk, .int (nI m)]) := by rw [← hM0, hm_up_n _ _ (hm_neA ha hlk)]; exact ha
        have hk0 : Mi lk = some (hm_ar D 2 8 (fun j => if j < p then f j else if j < i then f (j + 1) else f j)) := by rw [← hM0]; exact hm_up_s _ _ _
        have hel0 : ∀ z, z < m → ∃ b vs, f z = some b ∧ Mi b = some (hm_ob 4 vs) := fun z hz => by
          obtain ⟨b, vs, h1, h2⟩ := hel z hz
          exact ⟨b, vs, h1, by rw [← hM0, hm_up_n _ _ (hm_neA h2 hlk)]; exact h2⟩
        refine hm_iload_n C nd_EN_dropLeftKey_2 rfl ?_
        refine hm_iconst (v := 1) C nd_EN_dropLeftKey_3 (by decide) ?_
        refine hm_iadd C nd_EN_dropLeftKey_4 ?_
        refine hm_aload_n C nd_EN_dropLeftKey_5 rfl ?_
        refine hm_get C nF_EN_53 ha0 rfl nd_EN_dropLeftKey_6 ?_
        refine hm_icmp_ge (tgt := 32) C nd_EN_dropLeftKey_9 (by decide) (fun c1 => ?_) (fun c1 => ?_)
        · have him2 : m ≤ i + 1 := by
            rcases Nat.lt_or_ge (i + 1) m with h | h
            · rw [nI_1] at c1; exact absurd c1 (nI_ge h (by omega))
            · exact h
          have hie : i = m - 1 := by omega
          refine hm_aload_n C nd_EN_dropLeftKey_32 rfl ?_
          refine hm_dup C nd_EN_dropLeftKey_33 rfl ?_
          refine hm_get C nF_EN_53 ha0 rfl nd_EN_dropLeftKey_34 ?_
          refine hm_iconst (v := 1) C nd_EN_dropLeftKey_37 (by decide) ?_
          refine hm_isub C nd_EN_dropLeftKey_38 ?_
          rw [show nI m - 1 = nI (m - 1) from by have h := pk_sub (a := m) (b := 1) (by omega); exact h]
          refine hm_put C nF_EN_53 ha0 (Nat.le_of_ble_eq_true rfl) rfl rfl nd_EN_dropLeftKey_39 ?_
          refine hm_eqM (M' := hm_up Mi a (hm_ob 3 [va_rf bs, va_rf ro, va_rf mi, va_rf th, va_rf sc, .int st, .int bf, va_rf rc, .int nx, .ref lk, .int (nI (m - 1))])) rfl ?_
          generalize hM1 : hm_up Mi a (hm_ob 3 [va_rf bs, va_rf ro, va_rf mi, va_rf th, va_rf sc, .int st, .int bf, va_rf rc, .int nx, .ref lk, .int (nI (m - 1))]) = M1
          have aM1_0 : M1 lk = some (hm_ar D 2 8 (fun j => if j < p then f j else if j < i then f (j + 1) else f j)) := by rw [← hM1, hm_up_n _ _ (Ne.symm (hm_neA ha0 hk0))]; exact hk0
          have fM1_0 : M1 a = some (hm_ob 3 [va_rf bs, va_rf ro, va_rf mi, va_rf th, va_rf sc, .int st, .int bf, va_rf rc, .int nx, .ref lk, .int (nI (m - 1))]) := by rw [← hM1]; exact hm_up_s _ _ _
          refine hm_aload_n C nd_EN_dropLeftKey_42 rfl ?_
          refine hm_get C nF_EN_11 fM1_0 rfl nd_EN_dropLeftKey_43 ?_
          refine hm_aload_n C nd_EN_dropLeftKey_46 rfl ?_
          refine hm_get C nF_EN_53 fM1_0 rfl nd_EN_dropLeftKey_47 ?_
          refine hm_null C nd_EN_dropLeftKey_50 ?_
          refine hm_aastN C (t := 2) (j := m - 1) rfl aM1_0 rfl (by omega) (by omega) nd_EN_dropLeftKey_51 ?_
          exact hm_vret C E (by omega) (by omega) (⟨rfl, by rw [← hM1, ← hM0, hie, hm_up_cm (Ne.symm (hm_neA ha hlk)), hm_up_up]; congr 2; exact congrArg (hm_ar D 2 8) (en_dr p m f (by omega) hm8 hno)⟩) nd_EN_dropLeftKey_52
        · have him2 : i + 1 < m := by
            rcases Nat.lt_or_ge (i + 1) m with h | h
            · exact h
            · exact absurd (show nI m ≤ nI i + 1 from by rw [nI_1]; exact nI_le h (by omega)) c1
          refine hm_aload_n C nd_EN_dropLeftKey_12 rfl ?_
          refine hm_get C nF_EN_11 ha0 rfl nd_EN_dropLeftKey_13 ?_
          refine hm_iload_n C nd_EN_dropLeftKey_16 rfl ?_
          refine hm_aload_n C nd_EN_dropLeftKey_17 rfl ?_
          refine hm_get C nF_EN_11 ha0 rfl nd_EN_dropLeftKey_18 ?_
          refine hm_iload_n C nd_EN_dropLeftKey_21 rfl ?_
          refine hm_iconst (v := 1) C nd_EN_dropLeftKey_22 (by decide) ?_
          refine hm_iadd C nd_EN_dropLeftKey_23 ?_
          refine hm_aald C (t := 2) (j := i + 1) rfl hk0 (nI_1 i) (by omega) (by omega) nd_EN_dropLeftKey_24 ?_
          obtain ⟨b, vs, hb1, hb2⟩ := hel0 (i + 1) him2
          have hgi : (if i + 1 < p then f (i + 1) else if i + 1 < i then f (i + 1 + 1) else f (i + 1)) = some b := by
            rw [if_neg (by omega), if_neg (by omega)]; exact hb1
          rw [hgi]
          refine hm_stk (st' := [.ref b, .int (nI i), .ref lk]) rfl ?_
          refine hm_aast C (t := 2) (j := i) rfl hk0 hb2 rfl (Or.inl rfl) rfl (by omega) (by omega) nd_EN_dropLeftKey_25 ?_
          rw [← hM0, hm_up_up]
          refine hm_iinc (x := (nI i)) (v := ((nI i) + 1)) C [(2, .int ((nI i) + 1)), (0, .ref a), (1, .int (nI p))] nd_EN_dropLeftKey_26 rfl rfl (by decide) rfl ?_
          refine hm_goto (tgt := 2) C nd_EN_dropLeftKey_29 (by decide) ?_
          rw [nI_1]
          have hg2 : va_up (fun j => if j < p then f j else if j < i then f (j + 1) else f j) i (some b) = (fun j => if j < p then f j else if j < i + 1 then f (j + 1) else f j) := by
            funext z
            by_cases hz : z = i
            · subst hz
              rw [va_up_self, if_neg (by omega), if_pos (by omega), hb1]
            · rw [va_up_ne _ _ hz]
              by_cases h1 : z < p
              · rw [if_pos h1, if_pos h1]
              · rw [if_neg h1, if_neg h1]
                by_cases h2 : z < i
                · rw [if_pos h2, if_pos (by omega)]
                · rw [if_neg h2, if_neg (by omega)]
          rw [hg2]
          exact ih (i + 1) (by omega) (by omega) (by omega)
  refine hm_lv (lv' := [(0, .ref a), (1, .int (nI p))]) rfl ?_
  refine hm_iload_n C nd_EN_dropLeftKey_0 rfl ?_
  refine hm_istore_n C [(2, .int (nI p)), (0, .ref a), (1, .int (nI p))] nd_EN_dropLeftKey_1 (by decide) rfl ?_
  refine hm_lv (lv' := [(2, .int (nI p)), (0, .ref a), (1, .int (nI p))]) rfl ?_
  have e0 : M = hm_up M lk (hm_ar D 2 8 (fun j => if j < p then f j else if j < p then f (j + 1) else f j)) := by
    funext z
    by_cases hz : z = lk
    · subst hz
      rw [hm_up_s, hlk]
      congr 3
      funext j
      by_cases h : j < p
      · rw [if_pos h]
      · rw [if_neg h, if_neg h]
    · rw [hm_up_n _ _ hz]
  refine hm_eqM e0 ?_
  exact loop m p (by omega) (Nat.le_refl p) (by omega)
