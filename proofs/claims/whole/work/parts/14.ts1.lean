set_option maxHeartbeats 4000000 in
set_option maxRecDepth 100000 in
theorem ct_TE_init {l : Launch} {D : va_G} {BG : Nat → Option Cell} (M : hm_M) (q : Nat) (kk pp : Int32) (lf rt er : Option Nat) (hq : M q = some (hm_ob 2 [.int 0, .int 0, .null, .null, .null, .null, .null, .int 0])) : hm_ct l D BG ny_TE_init prog_4_method_1_code 6 none 1 12 0 0 [.ref q, .int kk, .int pp, va_rf lf, va_rf rt, va_rf er] M (fun r M' => r = none ∧ M' = hm_up M q (hm_ob 2 [.int kk, .int pp, va_rf lf, va_rf rt, va_rf er, .null, .null, .int 0])) := by
  refine hm_ct_of (by decide +kernel) (by simp [lg_sl, hm_cat, hm_catI, hm_catR, hm_catN]) ?_
  intro X C E
  have C : hm_C X l D BG prog_4_method_1_code "TurnedKeys$Term" "<init>" 6 1 12 0 0 := C
  refine hm_lv (lv' := [(0, .ref q), (1, .int kk), (2, .int pp), (3, va_rf lf), (4, va_rf rt), (5, va_rf er)]) (by simp [lv_args, hm_cat, hm_catI, hm_catR, hm_catN]) ?_
  refine hm_aload_n C nd_TE_init_0 rfl ?_
  refine hm_objInit C nq_TE_1 nj_OJ_init nm_OJ_init (by decide) (by decide) nd_TE_init_1 ?_
  refine hm_aload_n C nd_TE_init_4 rfl ?_
  refine hm_iload_n C nd_TE_init_5 rfl ?_
  refine hm_putF C nF_TE_7 hq (Nat.le_of_ble_eq_true rfl) rfl rfl nd_TE_init_6 ?_
  refine hm_eqM (M' := hm_up M q (hm_ob 2 [.int kk, .int 0, .null, .null, .null, .null, .null, .int 0])) rfl ?_
  generalize hM1 : hm_up M q (hm_ob 2 [.int kk, .int 0, .null, .null, .null, .null, .null, .int 0]) = M1
  have fM1_0 : M1 q = some (hm_ob 2 [.int kk, .int 0, .null, .null, .null, .null, .null, .int 0]) := by rw [← hM1]; exact hm_up_s _ _ _
  refine hm_aload_n C nd_TE_init_9 rfl ?_
  refine hm_iload_n C nd_TE_init_10 rfl ?_
  refine hm_putF C nF_TE_13 fM1_0 (Nat.le_of_ble_eq_true rfl) rfl rfl nd_TE_init_11 ?_
  refine hm_eqM (M' := hm_up M1 q (hm_ob 2 [.int kk, .int pp, .null, .null, .null, .null, .null, .int 0])) rfl ?_
  generalize hM2 : hm_up M1 q (hm_ob 2 [.int kk, .int pp, .null, .null, .null, .null, .null, .int 0]) = M2
  have fM2_0 : M2 q = some (hm_ob 2 [.int kk, .int pp, .null, .null, .null, .null, .null, .int 0]) := by rw [← hM2]; exact hm_up_s _ _ _
  refine hm_aload_n C nd_TE_init_14 rfl ?_
  refine hm_aload_nQ (r := lf) C nd_TE_init_15 rfl ?_
  refine hm_putF C nF_TE_16 fM2_0 (Nat.le_of_ble_eq_true rfl) (hm_narq _ _) (hm_fitq _ _) nd_TE_init_16 ?_
  refine hm_eqM (M' := hm_up M2 q (hm_ob 2 [.int kk, .int pp, va_rf lf, .null, .null, .null, .null, .int 0])) rfl ?_
  generalize hM3 : hm_up M2 q (hm_ob 2 [.int kk, .int pp, va_rf lf, .null, .null, .null, .null, .int 0]) = M3
  have fM3_0 : M3 q = some (hm_ob 2 [.int kk, .int pp, va_rf lf, .null, .null, .null, .null, .int 0]) := by rw [← hM3]; exact hm_up_s _ _ _
  refine hm_aload_n C nd_TE_init_19 rfl ?_
  refine hm_aloadQ (r := rt) C nd_TE_init_20 rfl ?_
  refine hm_putF C nF_TE_20 fM3_0 (Nat.le_of_ble_eq_true rfl) (hm_narq _ _) (hm_fitq _ _) nd_TE_init_22 ?_
  refine hm_eqM (M' := hm_up M3 q (hm_ob 2 [.int kk, .int pp, va_rf lf, va_rf rt, .null, .null, .null, .int 0])) rfl ?_
  generalize hM4 : hm_up M3 q (hm_ob 2 [.int kk, .int pp, va_rf lf, va_rf rt, .null, .null, .null, .int 0]) = M4
  have fM4_0 : M4 q = some (hm_ob 2 [.int kk, .int pp, va_rf lf, va_rf rt, .null, .null, .null, .int 0]) := by rw [← hM4]; exact hm_up_s _ _ _
  refine hm_aload_n C nd_TE_init_25 rfl ?_
  refine hm_aloadQ (r := er) C nd_TE_init_26 rfl ?_
  refine hm_putF C nF_TE_23 fM4_0 (Nat.le_of_ble_eq_true rfl) (hm_narq _ _) (hm_fitq _ _) nd_TE_init_28 ?_
  refine hm_eqM (M' := hm_up M4 q (hm_ob 2 [.int kk, .int pp, va_rf lf, va_rf rt, va_rf er, .null, .null, .int 0])) rfl ?_
  generalize hM5 : hm_up M4 q (hm_ob 2 [.int kk, .int pp, va_rf lf, va_rf rt, va_rf er, .null, .null, .int 0]) = M5
  have fM5_0 : M5 q = some (hm_ob 2 [.int kk, .int pp, va_rf lf, va_rf rt, va_rf er, .null, .null, .int 0]) := by rw [← hM5]; exact hm_up_s _ _ _
  exact hm_vret C E (by omega) (by omega) (⟨rfl, by rw [← hM5 , ← hM4 , ← hM3 , ← hM2 , ← hM1, hm_up_up, hm_up_up, hm_up_up, hm_up_up]⟩) nd_TE_init_31
set_option maxHeartbeats 4000000 in
set_option maxRecDepth 100000 in
theorem ct_LK_init {l : Launch} {D : va_G} {BG : Nat → Option Cell} (M : hm_M) (q : Nat) (pk : Option Nat) (ix : Int32) (ky : Option Nat) (hq : M q = some (hm_ob 4 [.null, .int 0, .null])) : hm_ct l D BG ny_LK_init prog_3_method_1_code 4 none 1 12 0 0 [.ref q, va_rf pk, .int ix, va_rf ky] M (fun r M' => r = none ∧ M' = hm_up M q (hm_ob 4 [va_rf pk, .int ix, va_rf ky])) := by
  refine hm_ct_of (by decide +kernel) (by simp [lg_sl, hm_cat, hm_catI, hm_catR, hm_catN]) ?_
  intro X C E
  have C : hm_C X l D BG prog_3_method_1_code "TurnedKeys$LeftKey" "<init>" 4 1 12 0 0 := C
  refine hm_lv (lv' := [(0, .ref q), (1, va_rf pk), (2, .int ix), (3, va_rf ky)]) (by simp [lv_args, hm_cat, hm_catI, hm_catR, hm_catN]) ?_
  refine hm_aload_n C nd_LK_init_0 rfl ?_
  refine hm_objInit C nq_LK_1 nj_OJ_init nm_OJ_init (by decide) (by decide) nd_LK_init_1 ?_
  refine hm_aload_n C nd_LK_init_4 rfl ?_
  refine hm_aload_nQ (r := pk) C nd_LK_init_5 rfl ?_
  refine hm_putF C nF_LK_7 hq (Nat.le_of_ble_eq_true rfl) (hm_narq _ _) (hm_fitq _ _) nd_LK_init_6 ?_
  refine hm_eqM (M' := hm_up M q (hm_ob 4 [va_rf pk, .int 0, .null])) rfl ?_
  generalize hM1 : hm_up M q (hm_ob 4 [va_rf pk, .int 0, .null]) = M1
  have fM1_0 : M1 q = some (hm_ob 4 [va_rf pk, .int 0, .null]) := by rw [← hM1]; exact hm_up_s _ _ _
  refine hm_aload_n C nd_LK_init_9 rfl ?_
  refine hm_iload_n C nd_LK_init_10 rfl ?_
  refine hm_putF C nF_LK_13 fM1_0 (Nat.le_of_ble_eq_true rfl) rfl rfl nd_LK_init_11 ?_
  refine hm_eqM (M' := hm_up M1 q (hm_ob 4 [va_rf pk, .int ix, .null])) rfl ?_
  generalize hM2 : hm_up M1 q (hm_ob 4 [va_rf pk, .int ix, .null]) = M2
  have fM2_0 : M2 q = some (hm_ob 4 [va_rf pk, .int ix, .null]) := by rw [← hM2]; exact hm_up_s _ _ _
  refine hm_aload_n C nd_LK_init_14 rfl ?_
  refine hm_aload_nQ (r := ky) C nd_LK_init_15 rfl ?_
  refine hm_putF C nF_LK_17 fM2_0 (Nat.le_of_ble_eq_true rfl) (hm_narq _ _) (hm_fitq _ _) nd_LK_init_16 ?_
  refine hm_eqM (M' := hm_up M2 q (hm_ob 4 [va_rf pk, .int ix, va_rf ky])) rfl ?_
  generalize hM3 : hm_up M2 q (hm_ob 4 [va_rf pk, .int ix, va_rf ky]) = M3
  have fM3_0 : M3 q = some (hm_ob 4 [va_rf pk, .int ix, va_rf ky]) := by rw [← hM3]; exact hm_up_s _ _ _
  exact hm_vret C E (by omega) (by omega) (⟨rfl, by rw [← hM3 , ← hM2 , ← hM1, hm_up_up, hm_up_up]⟩) nd_LK_init_19
set_option maxHeartbeats 4000000 in
set_option maxRecDepth 100000 in
theorem ct_WI_init {l : Launch} {D : va_G} {BG : Nat → Option Cell} (M : hm_M) (q : Nat) (se ix bf : Int32) (pk ky le : Option Nat) (hq : M q = some (hm_ob 5 [.int 0, .int 0, .int 0, .null, .null, .null])) : hm_ct l D BG ny_WI_init prog_6_method_1_code 7 none 1 12 0 0 [.ref q, .int se, .int ix, .int bf, va_rf pk, va_rf ky, va_rf le] M (fun r M' => r = none ∧ M' = hm_up M q (hm_ob 5 [.int se, .int ix, .int bf, va_rf pk, va_rf ky, va_rf le])) := by
  refine hm_ct_of (by decide +kernel) (by simp [lg_sl, hm_cat, hm_catI, hm_catR, hm_catN]) ?_
  intro X C E
  have C : hm_C X l D BG prog_6_method_1_code "TurnedKeys$Wire" "<init>" 7 1 12 0 0 := C
  refine hm_lv (lv' := [(0, .ref q), (1, .int se), (2, .int ix), (3, .int bf), (4, va_rf pk), (5, va_rf ky), (6, va_rf le)]) (by simp [lv_args, hm_cat, hm_catI, hm_catR, hm_catN]) ?_
  refine hm_aload_n C nd_WI_init_0 rfl ?_
  refine hm_objInit C nq_WI_1 nj_OJ_init nm_OJ_init (by decide) (by decide) nd_WI_init_1 ?_
  refine hm_aload_n C nd_WI_init_4 rfl ?_
  refine hm_iload_n C nd_WI_init_5 rfl ?_
  refine hm_putF C nF_WI_7 hq (Nat.le_of_ble_eq_true rfl) rfl rfl nd_WI_init_6 ?_
  refine hm_eqM (M' := hm_up M q (hm_ob 5 [.int se, .int 0, .int 0, .null, .null, .null])) rfl ?_
  generalize hM1 : hm_up M q (hm_ob 5 [.int se, .int 0, .int 0, .null, .null, .null]) = M1
  have fM1_0 : M1 q = some (hm_ob 5 [.int se, .int 0, .int 0, .null, .null, .null]) := by rw [← hM1]; exact hm_up_s _ _ _
  refine hm_aload_n C nd_WI_init_9 rfl ?_
  refine hm_iload_n C nd_WI_init_10 rfl ?_
  refine hm_putF C nF_WI_13 fM1_0 (Nat.le_of_ble_eq_true rfl) rfl rfl nd_WI_init_11 ?_
  refine hm_eqM (M' := hm_up M1 q (hm_ob 5 [.int se, .int ix, .int 0, .null, .null, .null])) rfl ?_
  generalize hM2 : hm_up M1 q (hm_ob 5 [.int se, .int ix, .int 0, .null, .null, .null]) = M2
  have fM2_0 : M2 q = some (hm_ob 5 [.int se, .int ix, .int 0, .null, .null, .null]) := by rw [← hM2]; exact hm_up_s _ _ _
  refine hm_aload_n C nd_WI_init_14 rfl ?_
  refine hm_iload_n C nd_WI_init_15 rfl ?_
  refine hm_putF C nF_WI_16 fM2_0 (Nat.le_of_ble_eq_true rfl) rfl rfl nd_WI_init_16 ?_
  refine hm_eqM (M' := hm_up M2 q (hm_ob 5 [.int se, .int ix, .int bf, .null, .null, .null])) rfl ?_
  generalize hM3 : hm_up M2 q (hm_ob 5 [.int se, .int ix, .int bf, .null, .null, .null]) = M3
  have fM3_0 : M3 q = some (hm_ob 5 [.int se, .int ix, .int bf, .null, .null, .null]) := by rw [← hM3]; exact hm_up_s _ _ _
  refine hm_aload_n C nd_WI_init_19 rfl ?_
  refine hm_aloadQ (r := pk) C nd_WI_init_20 rfl ?_
  refine hm_putF C nF_WI_19 fM3_0 (Nat.le_of_ble_eq_true rfl) (hm_narq _ _) (hm_fitq _ _) nd_WI_init_22 ?_
  refine hm_eqM (M' := hm_up M3 q (hm_ob 5 [.int se, .int ix, .int bf, va_rf pk, .null, .null])) rfl ?_
  generalize hM4 : hm_up M3 q (hm_ob 5 [.int se, .int ix, .int bf, va_rf pk, .null, .null]) = M4
  have fM4_0 : M4 q = some (hm_ob 5 [.int se, .int ix, .int bf, va_rf pk, .null, .null]) := by rw [← hM4]; exact hm_up_s _ _ _
  refine hm_aload_n C nd_WI_init_25 rfl ?_
  refine hm_aloadQ (r := ky) C nd_WI_init_26 rfl ?_
  refine hm_putF C nF_WI_23 fM4_0 (Nat.le_of_ble_eq_true rfl) (hm_narq _ _) (hm_fitq _ _) nd_WI_init_28 ?_
  refine hm_eqM (M' := hm_up M4 q (hm_ob 5 [.int se, .int ix, .int bf, va_rf pk, va_rf ky, .null])) rfl ?_
  generalize hM5 : hm_up M4 q (hm_ob 5 [.int se, .int ix, .int bf, va_rf pk, va_rf ky, .null]) = M5
  have fM5_0 : M5 q = some (hm_ob 5 [.int se, .int ix, .int bf, va_rf pk, va_rf ky, .null]) := by rw [← hM5]; exact hm_up_s _ _ _
  refine hm_aload_n C nd_WI_init_31 rfl ?_
  refine hm_aloadQ (r := le) C nd_WI_init_32 rfl ?_
  refine hm_putF C nF_WI_26 fM5_0 (Nat.le_of_ble_eq_true rfl) (hm_narq _ _) (hm_fitq _ _) nd_WI_init_34 ?_
  refine hm_eqM (M' := hm_up M5 q (hm_ob 5 [.int se, .int ix, .int bf, va_rf pk, va_rf ky, va_rf le])) rfl ?_
  generalize hM6 : hm_up M5 q (hm_ob 5 [.int se, .int ix, .int bf, va_rf pk, va_rf ky, va_rf le]) = M6
  have fM6_0 : M6 q = some (hm_ob 5 [.int se, .int ix, .int bf, va_rf pk, va_rf ky, va_rf le]) := by rw [← hM6]; exact hm_up_s _ _ _
  exact hm_vret C E (by omega) (by omega) (⟨rfl, by rw [← hM6 , ← hM5 , ← hM4 , ← hM3 , ← hM2 , ← hM1, hm_up_up, hm_up_up, hm_up_up, hm_up_up, hm_up_up]⟩) nd_WI_init_37
set_option maxHeartbeats 4000000 in
set_option maxRecDepth 100000 in
theorem ct_TS_added {l : Launch} {D : va_G} {BG : Nat → Option Cell} (M : hm_M) (tm la ea c n : Nat) (ad : Nat → Nat) (dr se kk : Int32) (lf rt er : Option Nat) (ht : M tm = some (hm_ob 1 [.ref la, .int dr, .int se])) (hR : li_R D M la ea c n ad) (hE : li_E M n ad) (h4 : c ≤ 40000) : hm_ct l D BG ny_TS_added prog_5_method_6_code 6 (some (.object "TurnedKeys$Term")) 7 171 (1 + (li_c c n - c)) (8 + 4 * (li_c c n - c)) [.ref tm, .int kk, va_rf lf, va_rf rt, va_rf er] M (fun r M' => ∃ q ea' : Nat, r = some (.ref q) ∧ M q = none ∧ M' q = some (hm_ob 2 [.int kk, .int (nI n), va_rf lf, va_rf rt, va_rf er, .null, .null, .int 0]) ∧ li_R D M' la ea' (li_c c n) (n + 1) (va_up ad n q) ∧ (∀ z, z ≠ q → z ≠ la → z ≠ ea' → M' z = M z) ∧ ((ea' = ea ∧ n < c) ∨ (M ea' = none ∧ ea' ≠ q))) := by
  refine hm_ct_of (by decide +kernel) (by simp [lg_sl, hm_cat, hm_catI, hm_catR, hm_catN]) ?_
  intro X C E
  have C : hm_C X l D BG prog_5_method_6_code "TurnedKeys$Terms" "added" 6 7 171 (1 + (li_c c n - c)) (8 + 4 * (li_c c n - c)) := C
  refine hm_lv (lv' := [(0, .ref tm), (1, .int kk), (2, va_rf lf), (3, va_rf rt), (4, va_rf er)]) (by simp [lv_args, hm_cat, hm_catI, hm_catR, hm_catN]) ?_
  obtain ⟨m, hla, hRr⟩ := id hR
  refine hm_newN C 8 nB_TS_27 rfl (by omega) (by omega) nd_TS_added_0 (fun q hq_q => ?_)
  generalize hM1 : hm_up M q (hm_ob 2 [.int 0, .int 0, .null, .null, .null, .null, .null, .int 0]) = M1
  have fM1_0 : M1 tm = some (hm_ob 1 [.ref la, .int dr, .int se]) := by rw [← hM1, hm_up_n _ _ (hm_neF ht hq_q)]; exact ht
  have fM1_1 : M1 la = some (hm_ob 0 [.ref ea, .int (nI n), .int m]) := by rw [← hM1, hm_up_n _ _ (hm_neF hla hq_q)]; exact hla
  have fM1_2 : M1 q = some (hm_ob 2 [.int 0, .int 0, .null, .null, .null, .null, .null, .int 0]) := by rw [← hM1]; exact hm_up_s _ _ _
  refine hm_dup C nd_TS_added_3 rfl ?_
  refine hm_iload_n C nd_TS_added_4 rfl ?_
  refine hm_aload_n C nd_TS_added_5 rfl ?_
  refine hm_get C nF_TS_12 fM1_0 rfl nd_TS_added_6 ?_
  refine hm_callV C (ct_AL_size M1 la ea (nI n) m fM1_1) nV_AL_size [] rfl fM1_1 rfl nq_TS_62 nj_AL_size nx_AL_size rfl (rest := [.int kk, .ref q, .ref q]) rfl (Nat.le_of_ble_eq_true rfl) (by decide) (by decide) (by omega) (by omega) nd_TS_added_9 (fun r M2 hp => ?_)
  obtain ⟨rfl, eM2⟩ := hp
  rw [eM2]
  refine hm_stk (st' := [.int (nI n), .int kk, .ref q, .ref q]) rfl ?_
  refine hm_aload_nQ (r := lf) C nd_TS_added_12 rfl ?_
  refine hm_aload_nQ (r := rt) C nd_TS_added_13 rfl ?_
  refine hm_aloadQ (r := er) C nd_TS_added_14 rfl ?_
  refine hm_callI C (ct_TE_init M1 q kk (nI n) lf rt er fM1_2) nV_TE_init rfl nq_TS_66 nj_TE_init [.int kk, .int (nI n), va_rf lf, va_rf rt, va_rf er] rfl rfl (rest := [.ref q]) rfl (Nat.le_of_ble_eq_true rfl) (by decide) (by decide) (by omega) (by omega) nd_TS_added_16 (fun r M3 hp => ?_)
  obtain ⟨rfl, e3⟩ := hp
  rw [← hM1, hm_up_up] at e3
  have hne : q ≠ tm := Ne.symm (hm_neF ht hq_q)
  have hne2 : q ≠ la := Ne.symm (hm_neF hla hq_q)
  have f3q : M3 q = some (hm_ob 2 [.int kk, .int (nI n), va_rf lf, va_rf rt, va_rf er, .null, .null, .int 0]) := by rw [e3]; exact hm_up_s _ _ _
  have f3t : M3 tm = some (hm_ob 1 [.ref la, .int dr, .int se]) := by rw [e3, hm_up_n _ _ (Ne.symm hne)]; exact ht
  have hR3 : li_R D M3 la ea c n ad := li_R.mono hR (fun z hz => by rw [e3, hm_up_n _ _ (show z ≠ q from fun h => hz (by rw [h]; exact hq_q))])
  have hE3 : li_E M3 n ad := fun i hi => by
    obtain ⟨cj, vj, rj, m1, m2, m3⟩ := hE i hi
    exact ⟨cj, vj, rj, by rw [e3, hm_up_n _ _ (hm_neF m1 hq_q)]; exact m1, m2, m3⟩
  refine hm_stk (st' := [.ref q]) rfl ?_
  refine hm_astore C [(5, .ref q), (0, .ref tm), (1, .int kk), (2, va_rf lf), (3, va_rf rt), (4, va_rf er)] nd_TS_added_19 (by decide) (by simp [hm_cat, hm_catI, hm_catR, hm_catN]) ?_
  refine hm_aload_n C nd_TS_added_21 rfl ?_
  refine hm_get C nF_TS_12 f3t rfl nd_TS_added_22 ?_
  obtain ⟨m3, hla3, hRr3⟩ := id hR3
  refine hm_aload C nd_TS_added_25 rfl ?_
  refine hm_callV C (ct_AL_add M3 la ea c n ad hR3 hE3 h4 q 2 _ _ f3q rfl nh_TE_OJ) nV_AL_add [.ref q] rfl hla3 rfl nq_TS_69 nj_AL_add nx_AL_add rfl (rest := []) rfl (Nat.le_of_ble_eq_true rfl) (by decide) (by decide) (by omega) (by omega) nd_TS_added_27 (fun r M4 hp => ?_)
  obtain ⟨rfl, ea', hR4, hfr, hea⟩ := hp
  have hqe : q ≠ ea' := fun e => by
    rcases hea with ⟨h1, h2⟩ | h1
    · obtain ⟨m9, h9, -, hc9⟩ := id hR3
      rcases hc9 with ⟨h8, -⟩ | ⟨-, g9, h8, -⟩
      · omega
      · rw [← h1, ← e, f3q] at h8; cases h8
    · rw [← e, f3q] at h1; cases h1
  have f4q : M4 q = some (hm_ob 2 [.int kk, .int (nI n), va_rf lf, va_rf rt, va_rf er, .null, .null, .int 0]) := by rw [hfr q hne2 hqe]; exact f3q
  refine hm_stk (st' := [.int 1]) rfl ?_
  refine hm_pop C nd_TS_added_30 rfl ?_
  refine hm_aload C nd_TS_added_31 rfl ?_
  exact hm_aret (r := (some q)) C E (Or.inl ⟨_, rfl⟩) (by omega) (by omega) (⟨q, ea', rfl, hq_q, f4q, hR4, fun z z1 z2 z3 => by rw [hfr z z2 z3, e3, hm_up_n _ _ z1], by rcases hea with h | h; exact Or.inl h; exact Or.inr ⟨by rw [e3] at h; by_cases hz : ea' = q; exact absurd hz.symm hqe; rw [hm_up_n _ _ hz] at h; exact h, fun h9 => hqe h9.symm⟩⟩) nd_TS_added_33
