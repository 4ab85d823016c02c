set_option maxHeartbeats 4000000 in
set_option maxRecDepth 100000 in
theorem ct_AC_init {l : Launch} {D : va_G} {BG : Nat → Option Cell} (M : hm_M) (a : Nat) : hm_ct l D BG ny_AC_init prog_14_method_1_code 1 none 1 12 0 0 [.ref a] M (fun r M' => r = none ∧ M' = M) := by
  refine hm_ct_of (by decide +kernel) (by exact Nat.le_of_ble_eq_true rfl) ?_
  intro X C E
  have C : hm_C X l D BG prog_14_method_1_code "java/util/AbstractCollection" "<init>" 1 1 12 0 0 := C
  refine hm_lv (lv' := [(0, .ref a)]) rfl ?_
  refine hm_aload_n C nd_AC_init_0 rfl ?_
  refine hm_objInit C nq_AC_1 nj_OJ_init nm_OJ_init (by decide) (by decide) nd_AC_init_1 ?_
  exact hm_vret C E (by omega) (by omega) (⟨rfl, rfl⟩) nd_AC_init_4
set_option maxHeartbeats 4000000 in
set_option maxRecDepth 100000 in
theorem ct_AB_init {l : Launch} {D : va_G} {BG : Nat → Option Cell} (M : hm_M) (a : Nat) (ea : Option Nat) (s m : Int32) (ha : M a = some (hm_ob 0 [va_rf ea, .int s, .int m])) : hm_ct l D BG ny_AB_init prog_15_method_1_code 1 none 2 32 0 0 [.ref a] M (fun r M' => r = none ∧ M' = hm_up M a (hm_ob 0 [va_rf ea, .int s, .int 0])) := by
  refine hm_ct_of (by decide +kernel) (by exact Nat.le_of_ble_eq_true rfl) ?_
  intro X C E
  have C : hm_C X l D BG prog_15_method_1_code "java/util/AbstractList" "<init>" 1 2 32 0 0 := C
  refine hm_lv (lv' := [(0, .ref a)]) rfl ?_
  refine hm_aload_n C nd_AB_init_0 rfl ?_
  refine hm_callI C (ct_AC_init M a) nV_AC_init rfl nq_AB_1 nj_AC_init [] rfl rfl (rest := []) rfl (Nat.le_of_ble_eq_true rfl) (by decide) (by decide) (by omega) (by omega) nd_AB_init_1 (fun r M1 hp => ?_)
  obtain ⟨rfl, eM1⟩ := hp
  rw [eM1]
  refine hm_stk (st' := []) rfl ?_
  refine hm_aload_n C nd_AB_init_4 rfl ?_
  refine hm_iconst (v := 0) C nd_AB_init_5 (by decide) ?_
  refine hm_put C nF_AB_7 ha (Nat.le_of_ble_eq_true rfl) rfl rfl nd_AB_init_6 ?_
  refine hm_eqM (M' := hm_up M a (hm_ob 0 [va_rf ea, .int s, .int 0])) rfl ?_
  generalize hM2 : hm_up M a (hm_ob 0 [va_rf ea, .int s, .int 0]) = M2
  have fM2_0 : M2 a = some (hm_ob 0 [va_rf ea, .int s, .int 0]) := by rw [← hM2]; exact hm_up_s _ _ _
  exact hm_vret C E (by omega) (by omega) (⟨rfl, by rw [← hM2]⟩) nd_AB_init_9
set_option maxHeartbeats 4000000 in
set_option maxRecDepth 100000 in
theorem ct_AL_init {l : Launch} {D : va_G} {BG : Nat → Option Cell} (M : hm_M) (a : Nat) (s m : Int32) (ha : M a = some (hm_ob 0 [.null, .int s, .int m])) : hm_ct l D BG ny_AL_init prog_16_method_2_code 1 none 3 52 0 0 [.ref a] M (fun r M' => r = none ∧ M' = hm_up M a (hm_ob 0 [.ref (D.2 999 0), .int s, .int 0])) := by
  refine hm_ct_of (by decide +kernel) (by exact Nat.le_of_ble_eq_true rfl) ?_
  intro X C E
  have C : hm_C X l D BG prog_16_method_2_code "java/util/ArrayList" "<init>" 1 3 52 0 0 := C
  refine hm_lv (lv' := [(0, .ref a)]) rfl ?_
  refine hm_aload_n C nd_AL_init_0 rfl ?_
  refine hm_callI C (ct_AB_init M a none s m ha) nV_AB_init rfl nq_AL_1 nj_AB_init [] rfl rfl (rest := []) rfl (Nat.le_of_ble_eq_true rfl) (by decide) (by decide) (by omega) (by omega) nd_AL_init_1 (fun r M1 hp => ?_)
  obtain ⟨rfl, e1⟩ := hp
  have h1 : M1 a = some (hm_ob 0 [.null, .int s, .int 0]) := by rw [e1]; exact hm_up_s _ _ _
  refine hm_stk (st' := []) rfl ?_
  refine hm_aload_n C nd_AL_init_4 rfl ?_
  refine hm_gets C nst_AL nd_AL_init_5 ?_
  refine hm_put C nF_AL_9 h1 (Nat.le_of_ble_eq_true rfl) rfl rfl nd_AL_init_8 ?_
  refine hm_eqM (M' := hm_up M1 a (hm_ob 0 [.ref (D.2 999 0), .int s, .int 0])) rfl ?_
  generalize hM2 : hm_up M1 a (hm_ob 0 [.ref (D.2 999 0), .int s, .int 0]) = M2
  have fM2_0 : M2 a = some (hm_ob 0 [.ref (D.2 999 0), .int s, .int 0]) := by rw [← hM2]; exact hm_up_s _ _ _
  exact hm_vret C E (by omega) (by omega) (⟨rfl, by rw [← hM2, e1, hm_up_up]⟩) nd_AL_init_11
set_option maxHeartbeats 4000000 in
set_option maxRecDepth 100000 in
theorem ct_AL_size {l : Launch} {D : va_G} {BG : Nat → Option Cell} (M : hm_M) (a ea : Nat) (s m : Int32) (ha : M a = some (hm_ob 0 [.ref ea, .int s, .int m])) : hm_ct l D BG ny_AL_size prog_16_method_8_code 1 (some .int) 0 0 0 0 [.ref a] M (fun r M' => r = some (.int s) ∧ M' = M) := by
  refine hm_ct_of (by decide +kernel) (by exact Nat.le_of_ble_eq_true rfl) ?_
  intro X C E
  have C : hm_C X l D BG prog_16_method_8_code "java/util/ArrayList" "size" 1 0 0 0 0 := C
  refine hm_lv (lv' := [(0, .ref a)]) rfl ?_
  refine hm_aload_n C nd_AL_size_0 rfl ?_
  refine hm_get C nF_AL_48 ha rfl nd_AL_size_1 ?_
  exact hm_iret C E (by omega) (by omega) (⟨rfl, rfl⟩) nd_AL_size_4
set_option maxHeartbeats 4000000 in
set_option maxRecDepth 100000 in
theorem ct_PR_checkIndex {l : Launch} {D : va_G} {BG : Nat → Option Cell} (M : hm_M) (i s : Int32) (h0 : ¬ i < 0) (h1 : i < s) : hm_ct l D BG ny_PR_checkIndex prog_24_method_11_code 3 (some .int) 0 0 0 0 [.int i, .int s, .null] M (fun r M' => r = some (.int i) ∧ M' = M) := by
  refine hm_ct_of (by decide +kernel) (by exact Nat.le_of_ble_eq_true rfl) ?_
  intro X C E
  have C : hm_C X l D BG prog_24_method_11_code "jdk/internal/util/Preconditions" "checkIndex" 3 0 0 0 0 := C
  refine hm_lv (lv' := [(0, .int i), (1, .int s), (2, .null)]) rfl ?_
  refine hm_iload_n C nd_PR_checkIndex_0 rfl ?_
  refine hm_if_lt (tgt := 9) C nd_PR_checkIndex_1 (by decide) (fun c => absurd c h0) (fun c => ?_)
  refine hm_iload_n C nd_PR_checkIndex_4 rfl ?_
  refine hm_iload_n C nd_PR_checkIndex_5 rfl ?_
  refine hm_icmp_lt (tgt := 16) C nd_PR_checkIndex_6 (by decide) (fun c2 => ?_) (fun c2 => absurd h1 c2)
  refine hm_iload_n C nd_PR_checkIndex_16 rfl ?_
  exact hm_iret C E (by omega) (by omega) (⟨rfl, rfl⟩) nd_PR_checkIndex_17
set_option maxHeartbeats 4000000 in
set_option maxRecDepth 100000 in
theorem ct_OB_checkIndex {l : Launch} {D : va_G} {BG : Nat → Option Cell} (M : hm_M) (i s : Int32) (h0 : ¬ i < 0) (h1 : i < s) : hm_ct l D BG ny_OB_checkIndex prog_20_method_17_code 2 (some .int) 1 22 0 0 [.int i, .int s] M (fun r M' => r = some (.int i) ∧ M' = M) := by
  refine hm_ct_of (by decide +kernel) (by exact Nat.le_of_ble_eq_true rfl) ?_
  intro X C E
  have C : hm_C X l D BG prog_20_method_17_code "java/util/Objects" "checkIndex" 2 1 22 0 0 := C
  refine hm_lv (lv' := [(0, .int i), (1, .int s)]) rfl ?_
  refine hm_iload_n C nd_OB_checkIndex_0 rfl ?_
  refine hm_iload_n C nd_OB_checkIndex_1 rfl ?_
  refine hm_null C nd_OB_checkIndex_2 ?_
  refine hm_callS C (ct_PR_checkIndex M i s h0 h1) nV_PR_checkIndex nq_OB_105 nu_PR_checkIndex rfl (rest := []) rfl (Nat.le_of_ble_eq_true rfl) (by decide) (by decide) (by omega) (by omega) nd_OB_checkIndex_3 (fun r M1 hp => ?_)
  obtain ⟨rfl, eM1⟩ := hp
  rw [eM1]
  refine hm_stk (st' := [.int i]) rfl ?_
  exact hm_iret C E (by omega) (by omega) (⟨rfl, rfl⟩) nd_OB_checkIndex_6
set_option maxHeartbeats 4000000 in
set_option maxRecDepth 100000 in
theorem ct_AL_elementData {l : Launch} {D : va_G} {BG : Nat → Option Cell} (M : hm_M) (a ea n c i : Nat) (g : Nat → Option Nat) (m : Int32) (ha : M a = some (hm_ob 0 [.ref ea, .int (nI n), .int m])) (hg : M ea = some (hm_ar D 0 c g)) (hcN : c < 2 ^ 31) (hc : i < c) : hm_ct l D BG ny_AL_elementData prog_16_method_18_code 2 (some (.object "java/lang/Object")) 0 0 0 0 [.ref a, .int (nI i)] M (fun r M' => r = some (va_rf (g i)) ∧ M' = M) := by
  refine hm_ct_of (by decide +kernel) (by exact Nat.le_of_ble_eq_true rfl) ?_
  intro X C E
  have C : hm_C X l D BG prog_16_method_18_code "java/util/ArrayList" "elementData" 2 0 0 0 0 := C
  refine hm_lv (lv' := [(0, .ref a), (1, .int (nI i))]) rfl ?_
  refine hm_aload_n C nd_AL_elementData_0 rfl ?_
  refine hm_get C nF_AL_9 ha rfl nd_AL_elementData_1 ?_
  refine hm_iload_n C nd_AL_elementData_4 rfl ?_
  refine hm_aald C rfl hg rfl hc hcN nd_AL_elementData_5 ?_
  exact hm_aret (r := (g i)) C E (Or.inl ⟨_, rfl⟩) (by omega) (by omega) (⟨rfl, rfl⟩) nd_AL_elementData_6
set_option maxHeartbeats 4000000 in
set_option maxRecDepth 100000 in
theorem ct_AL_get {l : Launch} {D : va_G} {BG : Nat → Option Cell} (M : hm_M) (a ea n c i : Nat) (g : Nat → Option Nat) (m : Int32) (ha : M a = some (hm_ob 0 [.ref ea, .int (nI n), .int m])) (hg : M ea = some (hm_ar D 0 c g)) (hcN : c < 2 ^ 31) (hi : i < n) (hn : n ≤ c) : hm_ct l D BG ny_AL_get prog_16_method_20_code 2 (some (.object "java/lang/Object")) 2 43 0 0 [.ref a, .int (nI i)] M (fun r M' => r = some (va_rf (g i)) ∧ M' = M) := by
  refine hm_ct_of (by decide +kernel) (by exact Nat.le_of_ble_eq_true rfl) ?_
  intro X C E
  have C : hm_C X l D BG prog_16_method_20_code "java/util/ArrayList" "get" 2 2 43 0 0 := C
  refine hm_lv (lv' := [(0, .ref a), (1, .int (nI i))]) rfl ?_
  refine hm_iload_n C nd_AL_get_0 rfl ?_
  refine hm_aload_n C nd_AL_get_1 rfl ?_
  refine hm_get C nF_AL_48 ha rfl nd_AL_get_2 ?_
  refine hm_callS C (ct_OB_checkIndex M (nI i) (nI n) (nI_pos (by omega)) (nI_lt hi (by omega))) nV_OB_checkIndex nq_AL_118 nu_OB_checkIndex rfl (rest := []) rfl (Nat.le_of_ble_eq_true rfl) (by decide) (by decide) (by omega) (by omega) nd_AL_get_5 (fun r M1 hp => ?_)
  obtain ⟨rfl, eM1⟩ := hp
  rw [eM1]
  refine hm_stk (st' := [.int (nI i)]) rfl ?_
  refine hm_pop C nd_AL_get_8 rfl ?_
  refine hm_aload_n C nd_AL_get_9 rfl ?_
  refine hm_iload_n C nd_AL_get_10 rfl ?_
  refine hm_callV C (ct_AL_elementData M a ea n c i g m ha hg hcN (by omega)) nV_AL_elementData [.int (nI i)] rfl ha rfl nq_AL_123 nj_AL_elementData nx_AL_elementData rfl (rest := []) rfl (Nat.le_of_ble_eq_true rfl) (by decide) (by decide) (by omega) (by omega) nd_AL_get_11 (fun r M2 hp => ?_)
  obtain ⟨rfl, eM2⟩ := hp
  rw [eM2]
  refine hm_stk (st' := [va_rf (g i)]) rfl ?_
  exact hm_aret (r := (g i)) C E (Or.inl ⟨_, rfl⟩) (by omega) (by omega) (⟨rfl, rfl⟩) nd_AL_get_14
set_option maxHeartbeats 4000000 in
set_option maxRecDepth 100000 in
theorem ct_AS_newLength {l : Launch} {D : va_G} {BG : Nat → Option Cell} (M : hm_M) (c : Nat) (h2 : 2 ≤ c) (h4 : c ≤ 40000) : hm_ct l D BG ny_AS_newLength prog_23_method_27_code 4 (some .int) 1 21 0 0 [.int (nI c), .int (nI 1), .int (nI (c / 2))] M (fun r M' => r = some (.int (nI (c + c / 2))) ∧ M' = M) := by
  refine hm_ct_of (by decide +kernel) (by exact Nat.le_of_ble_eq_true rfl) ?_
  intro X C E
  have C : hm_C X l D BG prog_23_method_27_code "jdk/internal/util/ArraysSupport" "newLength" 4 1 21 0 0 := C
  refine hm_lv (lv' := [(0, .int (nI c)), (1, .int (nI 1)), (2, .int (nI (c / 2)))]) rfl ?_
  refine hm_iload_n C nd_AS_newLength_0 rfl ?_
  refine hm_iload_n C nd_AS_newLength_1 rfl ?_
  refine hm_iload_n C nd_AS_newLength_2 rfl ?_
  refine hm_mmax (rest := [.int (nI c)]) C nq_AS_194 (by decide) (Nat.le_of_ble_eq_true rfl) (by omega) (by omega) nd_AS_newLength_3 ?_
  refine hm_iadd C nd_AS_newLength_6 ?_
  rw [li_len h2 h4]
  refine hm_istore_n C [(3, .int (nI (c + c / 2))), (0, .int (nI c)), (1, .int (nI 1)), (2, .int (nI (c / 2)))] nd_AS_newLength_7 (by decide) rfl ?_
  refine hm_iconst (v := 0) C nd_AS_newLength_8 (by decide) ?_
  refine hm_iload_n C nd_AS_newLength_9 rfl ?_
  refine hm_icmp_ge (tgt := 21) C nd_AS_newLength_10 (by decide) (fun c1 => absurd c1 (nI_nle (by omega) (by omega))) (fun c1 => ?_)
  refine hm_iload_n C nd_AS_newLength_13 rfl ?_
  refine hm_ldc (v := 2147483639) C nk_AS_200 nd_AS_newLength_14 ?_
  refine hm_icmp_gt (tgt := 21) C nd_AS_newLength_16 (by decide) (fun c2 => absurd c2 (show ¬ nI 2147483639 < nI (c + c / 2) from nI_nlt (by omega) (by decide))) (fun c2 => ?_)
  refine hm_iload_n C nd_AS_newLength_19 rfl ?_
  exact hm_iret C E (by omega) (by omega) (⟨rfl, rfl⟩) nd_AS_newLength_20
set_option maxHeartbeats 4000000 in
set_option maxRecDepth 100000 in
theorem ct_AR_copyOf2 {l : Launch} {D : va_G} {BG : Nat → Option Cell} (M : hm_M) (ea c : Nat) (g : Nat → Option Nat) (hg : M ea = some (hm_ar D 0 c g)) (hel : hm_el M c g) (h2 : 2 ≤ c) (h4 : c ≤ 40000) : hm_ct l D BG ny_AR_copyOf2 prog_17_method_120_code 4 (some (.array (.object "java/lang/Object"))) 1 40 1 (c + c / 2) [.ref ea, .int (nI (c + c / 2)), .ref (D.2 999 1)] M (fun r M' => ∃ q : Nat, r = some (.ref q) ∧ M q = none ∧ M' = hm_up M q (hm_ar D 0 (c + c / 2) (va_cpy g (fun _ => none) 0 0 c))) := by
  refine hm_ct_of (by decide +kernel) (by exact Nat.le_of_ble_eq_true rfl) ?_
  intro X C E
  have C : hm_C X l D BG prog_17_method_120_code "java/util/Arrays" "copyOf" 4 1 40 1 (c + c / 2) := C
  refine hm_lv (lv' := [(0, .ref ea), (1, .int (nI (c + c / 2))), (2, .ref (D.2 999 1))]) rfl ?_
  refine hm_aload_n C nd_AR_copyOf2_0 rfl ?_
  refine hm_ldcM C nc_AR_110 nd_AR_copyOf2_1 ?_
  refine hm_acmp_ne (tgt := 13) (rx := (some (D.2 999 1))) (ry := (some (D.2 999 1))) C nd_AR_copyOf2_3 (by decide) (fun c1 => absurd rfl c1) (fun c1 => ?_)
  refine hm_iload_n C nd_AR_copyOf2_6 rfl ?_
  refine hm_anew (t := 0) C rfl nc_AR_2 nr_OJ rfl (by omega) (by omega) (by omega) nd_AR_copyOf2_7 (fun q hq => ?_)
  generalize hM1 : hm_up M q (hm_ar D 0 (c + c / 2) (fun _ => none)) = M1
  have aM1_0 : M1 ea = some (hm_ar D 0 c g) := by rw [← hM1, hm_up_n _ _ (hm_neF hg hq)]; exact hg
  have aM1_1 : M1 q = some (hm_ar D 0 (c + c / 2) (fun _ => none)) := by rw [← hM1]; exact hm_up_s _ _ _
  refine hm_goto (tgt := 24) C nd_AR_copyOf2_10 (by decide) ?_
  refine hm_astore_n C [(3, .ref q), (0, .ref ea), (1, .int (nI (c + c / 2))), (2, .ref (D.2 999 1))] nd_AR_copyOf2_24 (by decide) rfl ?_
  refine hm_aload_n C nd_AR_copyOf2_25 rfl ?_
  refine hm_iconst (v := 0) C nd_AR_copyOf2_26 (by decide) ?_
  refine hm_aload_n C nd_AR_copyOf2_27 rfl ?_
  refine hm_iconst (v := 0) C nd_AR_copyOf2_28 (by decide) ?_
  refine hm_aload_n C nd_AR_copyOf2_29 rfl ?_
  refine hm_alen C (t := 0) rfl aM1_0 nd_AR_copyOf2_30 ?_
  refine hm_iload_n C nd_AR_copyOf2_31 rfl ?_
  refine hm_mmin (rest := [.int 0, .ref q, .int 0, .ref ea]) C nq_AR_304 (by decide) (Nat.le_of_ble_eq_true rfl) (by omega) (by omega) nd_AR_copyOf2_32 ?_
  rw [if_neg (nI_nlt (by omega) (by omega))]
  refine hm_acopy (rest := []) C aM1_0 aM1_1 (fun i hi y hy => ?_) (Nat.le_refl c) (by omega) (by omega) rfl nat_al nat_an nat_as nat_ai (by decide) (by decide +kernel) nd_AR_copyOf2_35 ?_
  · obtain ⟨ci, vs, r, m1, m2, m3⟩ := hel i hi y hy
    exact ⟨ci, vs, r, by rw [← hM1, hm_up_n _ _ (hm_neF m1 hq)]; exact m1, m2, m3⟩
  · rw [← hM1, hm_up_up]
    refine hm_aload_n C nd_AR_copyOf2_38 rfl ?_
    exact hm_aret (r := (some q)) C E (Or.inr ⟨_, rfl⟩) (by omega) (by omega) (⟨q, rfl, hq, rfl⟩) nd_AR_copyOf2_39
set_option maxHeartbeats 4000000 in
set_option maxRecDepth 100000 in
theorem ct_AR_copyOf {l : Launch} {D : va_G} {BG : Nat → Option Cell} (M : hm_M) (ea c : Nat) (g : Nat → Option Nat) (hg : M ea = some (hm_ar D 0 c g)) (hel : hm_el M c g) (h2 : 2 ≤ c) (h4 : c ≤ 40000) : hm_ct l D BG ny_AR_copyOf prog_17_method_119_code 2 (some (.array (.object "java/lang/Object"))) 2 63 1 (c + c / 2) [.ref ea, .int (nI (c + c / 2))] M (fun r M' => ∃ q : Nat, r = some (.ref q) ∧ M q = none ∧ M' = hm_up M q (hm_ar D 0 (c + c / 2) (va_cpy g (fun _ => none) 0 0 c))) := by
  refine hm_ct_of (by decide +kernel) (by exact Nat.le_of_ble_eq_true rfl) ?_
  intro X C E
  have C : hm_C X l D BG prog_17_method_119_code "java/util/Arrays" "copyOf" 2 2 63 1 (c + c / 2) := C
  refine hm_lv (lv' := [(0, .ref ea), (1, .int (nI (c + c / 2)))]) rfl ?_
  refine hm_aload_n C nd_AR_copyOf_0 rfl ?_
  refine hm_iload_n C nd_AR_copyOf_1 rfl ?_
  refine hm_aload_n C nd_AR_copyOf_2 rfl ?_
  refine hm_getC (rest := [.int (nI (c + c / 2)), .ref ea]) C hg nat_gc nat_gd nat_gs nat_gi nat_gn (by decide) (Nat.le_of_ble_eq_true rfl) nd_AR_copyOf_3 ?_
  refine hm_callS C (ct_AR_copyOf2 M ea c g hg hel h2 h4) nV_AR_copyOf2 nq_AR_300 nu_AR_copyOf2 rfl (rest := []) rfl (Nat.le_of_ble_eq_true rfl) (by decide) (by decide) (by omega) (by omega) nd_AR_copyOf_6 (fun r M1 hp => ?_)
  obtain ⟨q, rfl, hq, e1⟩ := hp
  refine hm_stk (st' := [.ref q]) rfl ?_
  exact hm_aret (r := (some q)) C E (Or.inr ⟨_, rfl⟩) (by omega) (by omega) (⟨q, rfl, hq, e1⟩) nd_AR_copyOf_9
set_option maxHeartbeats 4000000 in
set_option maxRecDepth 100000 in
theorem ct_AL_grow2_a {l : Launch} {D : va_G} {BG : Nat → Option Cell} (M : hm_M) (a : Nat) (s m : Int32) (ha : M a = some (hm_ob 0 [.ref (D.2 999 0), .int s, .int m])) : hm_ct l D BG ny_AL_grow2 prog_16_method_6_code 4 (some (.array (.object "java/lang/Object"))) 3 84 1 10 [.ref a, .int (nI 1)] M (fun r M' => ∃ q : Nat, r = some (.ref q) ∧ M q = none ∧ M' = hm_up (hm_up M q (hm_ar D 0 10 (fun _ => none))) a (hm_ob 0 [.ref q, .int s, .int m])) := by
  refine hm_ct_of (by decide +kernel) (by exact Nat.le_of_ble_eq_true rfl) ?_
  intro X C E
  have C : hm_C X l D BG prog_16_method_6_code "java/util/ArrayList" "grow" 4 3 84 1 10 := C
  refine hm_lv (lv' := [(0, .ref a), (1, .int (nI 1))]) rfl ?_
  refine hm_aload_n C nd_AL_grow2_0 rfl ?_
  refine hm_get C nF_AL_9 ha rfl nd_AL_grow2_1 ?_
  refine hm_alenE C nd_AL_grow2_4 ?_
  refine hm_istore_n C [(2, .int 0), (0, .ref a), (1, .int (nI 1))] nd_AL_grow2_5 (by decide) rfl ?_
  refine hm_iload_n C nd_AL_grow2_6 rfl ?_
  refine hm_if_gt (tgt := 20) C nd_AL_grow2_7 (by decide) (fun c1 => absurd c1 (by decide)) (fun c1 => ?_)
  refine hm_aload_n C nd_AL_grow2_10 rfl ?_
  refine hm_get C nF_AL_9 ha rfl nd_AL_grow2_11 ?_
  refine hm_gets C nst_AL nd_AL_grow2_14 ?_
  refine hm_acmp_eq (tgt := 45) (rx := (some (D.2 999 0))) (ry := (some (D.2 999 0))) C nd_AL_grow2_17 (by decide) (fun c2 => ?_) (fun c2 => absurd rfl c2)
  refine hm_aload_n C nd_AL_grow2_45 rfl ?_
  refine hm_bipush (v := 10) C nd_AL_grow2_46 (by decide) ?_
  refine hm_iload_n C nd_AL_grow2_48 rfl ?_
  refine hm_mmax (rest := [.ref a]) C nq_AL_79 (by decide) (Nat.le_of_ble_eq_true rfl) (by omega) (by omega) nd_AL_grow2_49 ?_
  rw [if_neg (by decide)]
  refine hm_anew (t := 0) (N := 10) C rfl nc_AL_7 nr_OJ (by decide) (by omega) (by omega) (by omega) nd_AL_grow2_52 (fun q hq => ?_)
  generalize hM1 : hm_up M q (hm_ar D 0 10 (fun _ => none)) = M1
  have fM1_0 : M1 a = some (hm_ob 0 [.ref (D.2 999 0), .int s, .int m]) := by rw [← hM1, hm_up_n _ _ (hm_neF ha hq)]; exact ha
  have aM1_0 : M1 q = some (hm_ar D 0 10 (fun _ => none)) := by rw [← hM1]; exact hm_up_s _ _ _
  refine hm_dup_x1 C nd_AL_grow2_55 rfl rfl ?_
  refine hm_put C nF_AL_9 fM1_0 (Nat.le_of_ble_eq_true rfl) rfl rfl nd_AL_grow2_56 ?_
  refine hm_eqM (M' := hm_up M1 a (hm_ob 0 [.ref q, .int s, .int m])) rfl ?_
  generalize hM2 : hm_up M1 a (hm_ob 0 [.ref q, .int s, .int m]) = M2
  have aM2_0 : M2 q = some (hm_ar D 0 10 (fun _ => none)) := by rw [← hM2, hm_up_n _ _ (Ne.symm (hm_neA fM1_0 aM1_0))]; exact aM1_0
  have fM2_0 : M2 a = some (hm_ob 0 [.ref q, .int s, .int m]) := by rw [← hM2]; exact hm_up_s _ _ _
  exact hm_aret (r := (some q)) C E (Or.inr ⟨_, rfl⟩) (by omega) (by omega) (⟨q, rfl, hq, by rw [← hM2, ← hM1]⟩) nd_AL_grow2_59
set_option maxHeartbeats 4000000 in
set_option maxRecDepth 100000 in
theorem ct_AL_grow2_b {l : Launch} {D : va_G} {BG : Nat → Option Cell} (M : hm_M) (a ea c : Nat) (g : Nat → Option Nat) (s m : Int32) (ha : M a = some (hm_ob 0 [.ref ea, .int s, .int m])) (hg : M ea = some (hm_ar D 0 c g)) (hel : hm_el M c g) (h2 : 2 ≤ c) (h4 : c ≤ 40000) : hm_ct l D BG ny_AL_grow2 prog_16_method_6_code 4 (some (.array (.object "java/lang/Object"))) 3 84 1 (c + c / 2) [.ref a, .int (nI (c + 1))] M (fun r M' => ∃ q : Nat, r = some (.ref q) ∧ M q = none ∧ M' = hm_up (hm_up M q (hm_ar D 0 (c + c / 2) (va_cpy g (fun _ => none) 0 0 c))) a (hm_ob 0 [.ref q, .int s, .int m])) := by
  refine hm_ct_of (by decide +kernel) (by exact Nat.le_of_ble_eq_true rfl) ?_
  intro X C E
  have C : hm_C X l D BG prog_16_method_6_code "java/util/ArrayList" "grow" 4 3 84 1 (c + c / 2) := C
  refine hm_lv (lv' := [(0, .ref a), (1, .int (nI (c + 1)))]) rfl ?_
  refine hm_aload_n C nd_AL_grow2_0 rfl ?_
  refine hm_get C nF_AL_9 ha rfl nd_AL_grow2_1 ?_
  refine hm_alen C (t := 0) rfl hg nd_AL_grow2_4 ?_
  refine hm_istore_n C [(2, .int (nI c)), (0, .ref a), (1, .int (nI (c + 1)))] nd_AL_grow2_5 (by decide) rfl ?_
  refine hm_iload_n C nd_AL_grow2_6 rfl ?_
  refine hm_if_gt (tgt := 20) C nd_AL_grow2_7 (by decide) (fun c1 => ?_) (fun c1 => absurd (show nI 0 < nI c from nI_lt (by omega) (by omega)) c1)
  refine hm_iload_n C nd_AL_grow2_20 rfl ?_
  refine hm_iload_n C nd_AL_grow2_21 rfl ?_
  refine hm_iload_n C nd_AL_grow2_22 rfl ?_
  refine hm_isub C nd_AL_grow2_23 ?_
  refine hm_iload_n C nd_AL_grow2_24 rfl ?_
  refine hm_iconst (v := 1) C nd_AL_grow2_25 (by decide) ?_
  refine hm_ishr C nd_AL_grow2_26 ?_
  refine hm_stk (st' := [.int (nI (c / 2)), .int (nI 1), .int (nI c)]) (by rw [li_hf h4, li_d1 h4]) ?_
  refine hm_callS C (ct_AS_newLength M c h2 h4) nV_AS_newLength nq_AL_73 nu_AS_newLength rfl (rest := []) rfl (Nat.le_of_ble_eq_true rfl) (by decide) (by decide) (by omega) (by omega) nd_AL_grow2_27 (fun r M1 hp => ?_)
  obtain ⟨rfl, eM1⟩ := hp
  rw [eM1]
  refine hm_stk (st' := [.int (nI (c + c / 2))]) rfl ?_
  refine hm_istore_n C [(3, .int (nI (c + c / 2))), (2, .int (nI c)), (0, .ref a), (1, .int (nI (c + 1)))] nd_AL_grow2_30 (by decide) rfl ?_
  refine hm_aload_n C nd_AL_grow2_31 rfl ?_
  refine hm_aload_n C nd_AL_grow2_32 rfl ?_
  refine hm_get C nF_AL_9 ha rfl nd_AL_grow2_33 ?_
  refine hm_iload_n C nd_AL_grow2_36 rfl ?_
  refine hm_callS C (ct_AR_copyOf M ea c g hg hel h2 h4) nV_AR_copyOf nq_AL_66 nu_AR_copyOf rfl (rest := [.ref a]) rfl (Nat.le_of_ble_eq_true rfl) (by decide) (by decide) (by omega) (by omega) nd_AL_grow2_37 (fun r M2 hp => ?_)
  obtain ⟨q, rfl, hq, e2⟩ := hp
  have h3 : M2 a = some (hm_ob 0 [.ref ea, .int s, .int m]) := by rw [e2, hm_up_n _ _ (hm_neF ha hq)]; exact ha
  refine hm_stk (st' := [.ref q, .ref a]) rfl ?_
  refine hm_dup_x1 C nd_AL_grow2_40 rfl rfl ?_
  refine hm_put C nF_AL_9 h3 (Nat.le_of_ble_eq_true rfl) rfl rfl nd_AL_grow2_41 ?_
  refine hm_eqM (M' := hm_up M2 a (hm_ob 0 [.ref q, .int s, .int m])) rfl ?_
  generalize hM3 : hm_up M2 a (hm_ob 0 [.ref q, .int s, .int m]) = M3
  have fM3_0 : M3 a = some (hm_ob 0 [.ref q, .int s, .int m]) := by rw [← hM3]; exact hm_up_s _ _ _
  exact hm_aret (r := (some q)) C E (Or.inr ⟨_, rfl⟩) (by omega) (by omega) (⟨q, rfl, hq, by rw [← hM3, e2]⟩) nd_AL_grow2_44
set_option maxHeartbeats 4000000 in
set_option maxRecDepth 100000 in
theorem ct_AL_grow_a {l : Launch} {D : va_G} {BG : Nat → Option Cell} (M : hm_M) (a : Nat) (m : Int32) (ha : M a = some (hm_ob 0 [.ref (D.2 999 0), .int (nI 0), .int m])) : hm_ct l D BG ny_AL_grow prog_16_method_7_code 1 (some (.array (.object "java/lang/Object"))) 4 107 1 10 [.ref a] M (fun r M' => ∃ q : Nat, r = some (.ref q) ∧ M q = none ∧ M' = hm_up (hm_up M q (hm_ar D 0 10 (fun _ => none))) a (hm_ob 0 [.ref q, .int (nI 0), .int m])) := by
  refine hm_ct_of (by decide +kernel) (by exact Nat.le_of_ble_eq_true rfl) ?_
  intro X C E
  have C : hm_C X l D BG prog_16_method_7_code "java/util/ArrayList" "grow" 1 4 107 1 10 := C
  refine hm_lv (lv' := [(0, .ref a)]) rfl ?_
  refine hm_aload_n C nd_AL_grow_0 rfl ?_
  refine hm_aload_n C nd_AL_grow_1 rfl ?_
  refine hm_get C nF_AL_48 ha rfl nd_AL_grow_2 ?_
  refine hm_iconst (v := 1) C nd_AL_grow_5 (by decide) ?_
  refine hm_iadd C nd_AL_grow_6 ?_
  refine hm_stk (st' := [.int (nI 1), .ref a]) rfl ?_
  refine hm_callV C (ct_AL_grow2_a M a (nI 0) m ha) nV_AL_grow2 [.int (nI 1)] rfl ha rfl nq_AL_69 nj_AL_grow2 nx_AL_grow2 rfl (rest := []) rfl (Nat.le_of_ble_eq_true rfl) (by decide) (by decide) (by omega) (by omega) nd_AL_grow_7 (fun r M1 hp => ?_)
  obtain ⟨q, rfl, hq, e1⟩ := hp
  refine hm_stk (st' := [.ref q]) rfl ?_
  exact hm_aret (r := (some q)) C E (Or.inr ⟨_, rfl⟩) (by omega) (by omega) (⟨q, rfl, hq, e1⟩) nd_AL_grow_10
set_option maxHeartbeats 4000000 in
set_option maxRecDepth 100000 in
theorem ct_AL_grow_b {l : Launch} {D : va_G} {BG : Nat → Option Cell} (M : hm_M) (a ea c : Nat) (g : Nat → Option Nat) (m : Int32) (ha : M a = some (hm_ob 0 [.ref ea, .int (nI c), .int m])) (hg : M ea = some (hm_ar D 0 c g)) (hel : hm_el M c g) (h2 : 2 ≤ c) (h4 : c ≤ 40000) : hm_ct l D BG ny_AL_grow prog_16_method_7_code 1 (some (.array (.object "java/lang/Object"))) 4 107 1 (c + c / 2) [.ref a] M (fun r M' => ∃ q : Nat, r = some (.ref q) ∧ M q = none ∧ M' = hm_up (hm_up M q (hm_ar D 0 (c + c / 2) (va_cpy g (fun _ => none) 0 0 c))) a (hm_ob 0 [.ref q, .int (nI c), .int m])) := by
  refine hm_ct_of (by decide +kernel) (by exact Nat.le_of_ble_eq_true rfl) ?_
  intro X C E
  have C : hm_C X l D BG prog_16_method_7_code "java/util/ArrayList" "grow" 1 4 107 1 (c + c / 2) := C
  refine hm_lv (lv' := [(0, .ref a)]) rfl ?_
  refine hm_aload_n C nd_AL_grow_0 rfl ?_
  refine hm_aload_n C nd_AL_grow_1 rfl ?_
  refine hm_get C nF_AL_48 ha rfl nd_AL_grow_2 ?_
  refine hm_iconst (v := 1) C nd_AL_grow_5 (by decide) ?_
  refine hm_iadd C nd_AL_grow_6 ?_
  refine hm_stk (st' := [.int (nI (c + 1)), .ref a]) (by rw [nI_1]) ?_
  refine hm_callV C (ct_AL_grow2_b M a ea c g (nI c) m ha hg hel h2 h4) nV_AL_grow2 [.int (nI (c + 1))] rfl ha rfl nq_AL_69 nj_AL_grow2 nx_AL_grow2 rfl (rest := []) rfl (Nat.le_of_ble_eq_true rfl) (by decide) (by decide) (by omega) (by omega) nd_AL_grow_7 (fun r M1 hp => ?_)
  obtain ⟨q, rfl, hq, e1⟩ := hp
  refine hm_stk (st' := [.ref q]) rfl ?_
  exact hm_aret (r := (some q)) C E (Or.inr ⟨_, rfl⟩) (by omega) (by omega) (⟨q, rfl, hq, e1⟩) nd_AL_grow_10
