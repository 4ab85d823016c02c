theorem en_P.room {D : va_G} {tm a lk : Nat} {M M' : hm_M} {F F' : Nat → Prop} {T T' : Nat → Nat → Nat → Prop} {G : Nat → Prop} {n c se dr' : Nat} {vs : List Nat} (h : en_P D tm M F T G n c se dr' vs a lk M' F' T') (ws : List Nat) : ts_kc (ts_k T) n c (vs ++ ws) = ts_kc (ts_k T) n c vs + ts_kc (ts_k T') (ts_r (ts_k T) n c vs).1 (ts_r (ts_k T) n c vs).2 ws ∧ ts_ks (ts_k T) n c (vs ++ ws) = ts_ks (ts_k T) n c vs + ts_ks (ts_k T') (ts_r (ts_k T) n c vs).1 (ts_r (ts_k T) n c vs).2 ws := by
  rw [h.k]
  exact ⟨ts_kc_app vs ws _ _ _, ts_ks_app vs ws _ _ _⟩
theorem ts_kle (vs ws : List Nat) (K : Nat → Prop) (n c : Nat) : ts_kc K n c vs ≤ ts_kc K n c (vs ++ ws) ∧ ts_ks K n c vs ≤ ts_ks K n c (vs ++ ws) := by
  rw [ts_kc_app, ts_ks_app]
  exact ⟨Nat.le_add_right _ _, Nat.le_add_right _ _⟩
theorem ts_kz (K : Nat → Prop) (n c : Nat) : ts_kc K n c [] = 0 ∧ ts_ks K n c [] = 0 := by
  unfold ts_kc ts_ks ts_r
  constructor <;> (dsimp only; omega)
theorem en_P.bd {D : va_G} {tm a lk : Nat} {M M' : hm_M} {F F' : Nat → Prop} {T T' : Nat → Nat → Nat → Prop} {G : Nat → Prop} {n c se dr' : Nat} {vs : List Nat} (_ : en_P D tm M F T G n c se dr' vs a lk M' F' T') (hcn : c ≤ 2 * n + 10) : (ts_r (ts_k T) n c vs).2 ≤ 2 * (ts_r (ts_k T) n c vs).1 + 10 ∧ (ts_r (ts_k T) n c vs).1 ≤ n + vs.length := ts_r_bd vs _ _ _ hcn
theorem ts_o_nn {T : Nat → Nat → Nat → Prop} {r : Option Nat} {v : Nat} (h : ts_o T r v) (hv : v ≠ 0) : r ≠ none := by
  rcases h with ⟨-, h⟩ | ⟨a, i, h, -⟩
  · exact absurd h hv
  · rw [h]; simp
theorem ts_o_so {T : Nat → Nat → Nat → Prop} {r : Option Nat} {v : Nat} (h : ts_o T r v) (hv : v ≠ 0) : ∃ a i, r = some a ∧ T a i v := by
  rcases h with ⟨-, h⟩ | h
  · exact absurd h hv
  · exact h
theorem ts_o_0 {T : Nat → Nat → Nat → Prop} : ts_o T none 0 := Or.inl ⟨rfl, rfl⟩
theorem en_P.wr {D : va_G} {tm a lk z : Nat} {M M' : hm_M} {F F' : Nat → Prop} {T T' : Nat → Nat → Nat → Prop} {G : Nat → Prop} {n c se dr' : Nat} {vs : List Nat} {e : va_E} (h : en_P D tm M F T G n c se dr' vs a lk M' F' T') (hz : ¬ en_F F a lk z → M z = none) (hF : ¬ F' z) : en_P D tm M F T G n c se dr' vs a lk (hm_up M' z e) F' T' := by
  refine ⟨h.1.put hF e, ⟨fun y hy hm => ?_, h.2.1.2⟩, h.2.2⟩
  rw [hm_up_n _ _ (fun q => hm (by rw [q]; exact hz (fun w => hy (by rw [q]; exact w))))]
  exact h.2.1.1 y hy hm
theorem en_P.fr {D : va_G} {tm a lk z : Nat} {M M' : hm_M} {F F' : Nat → Prop} {T T' : Nat → Nat → Nat → Prop} {G : Nat → Prop} {n c se dr' : Nat} {vs : List Nat} (h : en_P D tm M F T G n c se dr' vs a lk M' F' T') (hz : M' z = none) : ¬ en_F F a lk z → M z = none := by
  intro h1
  cases hm : M z with
  | none => rfl
  | some e =>
    have := h.2.1.1 z h1 (by rw [hm]; simp)
    rw [this, hm] at hz
    cases hz
set_option maxHeartbeats 4000000 in
set_option maxRecDepth 100000 in
theorem ct_EN_steppedKey {l : Launch} {D : va_G} {BG : Nat → Option Cell} (M : hm_M) (tm : Nat) (F : Nat → Prop) (T : Nat → Nat → Nat → Prop) (G : Nat → Prop) (dr n c se : Nat) (hS : ts_S D M tm F T G dr n c se) (hcn : c ≤ 2 * n + 10) (hn : n ≤ 19800) (a lk bs ro mi th sc st bf rc nx : Nat) (lf : List (Nat × Nat × Nat)) (hR : en_R D M F T a lk bs ro mi th sc st bf rc nx lf) (hrc : rc ≠ 0) : hm_ct l D BG ny_EN_steppedKey prog_2_method_9_code 3 (some (.object "TurnedKeys$Term")) 9 221 (ts_kc (ts_k T) n c [sm_t 6 rc 0, sm_t 7 rc 0]) (ts_ks (ts_k T) n c [sm_t 6 rc 0, sm_t 7 rc 0]) [.ref a, .ref tm] M (fun r M' => ∃ q F' T' i, r = some (.ref q) ∧ en_P D tm M F T G n c se dr [sm_t 6 rc 0, sm_t 7 rc 0] a lk M' F' T' ∧ T' q i (sm_t 6 rc 0) ∧ M' lk = M lk ∧ en_R D M' F' T' a lk bs ro mi th sc st bf (sm_t 7 rc 0) (nx + 1) lf) := by
  refine hm_ct_of (by decide +kernel) (by exact Nat.le_of_ble_eq_true rfl) ?_
  intro X C E
  have C : hm_C X l D BG prog_2_method_9_code "TurnedKeys$End" "steppedKey" 3 9 221 (ts_kc (ts_k T) n c [sm_t 6 rc 0, sm_t 7 rc 0]) (ts_ks (ts_k T) n c [sm_t 6 rc 0, sm_t 7 rc 0]) := C
  refine hm_lv (lv' := [(0, .ref a), (1, .ref tm)]) rfl ?_
  obtain ⟨bs', ro', mi', th', sc', rc', f, hA, o1, o2, o3, o4, o5, o6, hL⟩ := hR
  obtain ⟨la0, ht0, -⟩ := ts_tm hS
  have hE0 := en_P.rf (a := a) (lk := lk) hS
  have kz := ts_kz (ts_k T) n c
  have hb0 : _ ∧ _ ≤ n + 0 := hE0.bd hcn
  refine hm_aload_n C nd_EN_steppedKey_0 rfl ?_
  refine hm_bipush (v := 6) C nd_EN_steppedKey_1 (by decide) ?_
  refine hm_aload_n C nd_EN_steppedKey_3 rfl ?_
  refine hm_get C nF_EN_47 hA.1 rfl nd_EN_steppedKey_4 ?_
  refine hm_null C nd_EN_steppedKey_7 ?_
  refine hm_stk (st' := [va_rf none, va_rf rc', .int (nI 6), .ref tm]) rfl ?_
  have rm1 : ts_kc (ts_k T) n c [sm_t 6 rc 0] = _ ∧ ts_ks (ts_k T) n c [sm_t 6 rc 0] = _ := hE0.room [sm_t 6 rc 0]
  have rl1 : _ ≤ ts_kc (ts_k T) n c [sm_t 6 rc 0, sm_t 7 rc 0] ∧ _ ≤ ts_ks (ts_k T) n c [sm_t 6 rc 0, sm_t 7 rc 0] := ts_kle [sm_t 6 rc 0] [sm_t 7 rc 0] (ts_k T) n c
  refine hm_callV C (ct_TS_made M tm F T G dr _ _ se hE0.1 (by omega) 6 rc 0 rc' none o6 ts_o_0 (fun h => ts_o_nn o6 hrc h.1) (by omega) (by omega) (fun h => by omega) (fun h => by omega)) nV_TS_made [.int (nI 6), va_rf rc', va_rf none] rfl ht0 rfl nq_EN_66 nj_TS_made nx_TS_made rfl (rest := []) rfl (Nat.le_of_ble_eq_true rfl) (by decide) (by decide) (by omega) (by omega) nd_EN_steppedKey_8 (fun r M1 hp => ?_)
  obtain ⟨q1, F1, T1, rfl, hP1, ⟨i1, hq1⟩, hn1⟩ := hp
  have hE1 : en_P D tm M F T G n c se (dr) [sm_t 6 rc 0] a lk M1 F1 T1 := hE0.tr (hP1.en a lk)
  have hA1 := hA.step hP1.2.1
  have hL1 := hL.step hP1.2.1 hP1.2.2.1
  have hb1 : _ ∧ _ ≤ n + 1 := hE1.bd hcn
  obtain ⟨la1, ht1, -⟩ := ts_tm hE1.1
  refine hm_stk (st' := [.ref q1]) rfl ?_
  refine hm_astore_n C [(2, .ref q1), (0, .ref a), (1, .ref tm)] nd_EN_steppedKey_11 (by decide) rfl ?_
  refine hm_aload_n C nd_EN_steppedKey_12 rfl ?_
  refine hm_aload_n C nd_EN_steppedKey_13 rfl ?_
  refine hm_bipush (v := 7) C nd_EN_steppedKey_14 (by decide) ?_
  refine hm_aload_n C nd_EN_steppedKey_16 rfl ?_
  refine hm_get C nF_EN_47 hA1.1 rfl nd_EN_steppedKey_17 ?_
  refine hm_null C nd_EN_steppedKey_20 ?_
  refine hm_stk (st' := [va_rf none, va_rf rc', .int (nI 7), .ref tm, .ref a]) rfl ?_
  have rm2 : ts_kc (ts_k T) n c [sm_t 6 rc 0, sm_t 7 rc 0] = _ ∧ ts_ks (ts_k T) n c [sm_t 6 rc 0, sm_t 7 rc 0] = _ := hE1.room [sm_t 7 rc 0]
  have rl2 : _ ≤ ts_kc (ts_k T) n c [sm_t 6 rc 0, sm_t 7 rc 0] ∧ _ ≤ ts_ks (ts_k T) n c [sm_t 6 rc 0, sm_t 7 rc 0] := ts_kle [sm_t 6 rc 0, sm_t 7 rc 0] [] (ts_k T) n c
  refine hm_callV C (ct_TS_made M1 tm F1 T1 G dr _ _ se hE1.1 (by omega) 7 rc 0 rc' none (o6.mono hP1.2.2.1) ts_o_0 (fun h => ts_o_nn o6 hrc h.1) (by omega) (by omega) (fun h => by omega) (fun h => by omega)) nV_TS_made [.int (nI 7), va_rf rc', va_rf none] rfl ht1 rfl nq_EN_66 nj_TS_made nx_TS_made rfl (rest := [.ref a]) rfl (Nat.le_of_ble_eq_true rfl) (by decide) (by decide) (by omega) (by omega) nd_EN_steppedKey_21 (fun r M2 hp => ?_)
  obtain ⟨q2, F2, T2, rfl, hP2, ⟨i2, hq2⟩, hn2⟩ := hp
  have hE2 : en_P D tm M F T G n c se (dr) [sm_t 6 rc 0, sm_t 7 rc 0] a lk M2 F2 T2 := hE1.tr (hP2.en a lk)
  have hA2 := hA1.step hP2.2.1
  have hL2 := hL1.step hP2.2.1 hP2.2.2.1
  have hb2 : _ ∧ _ ≤ n + 2 := hE2.bd hcn
  obtain ⟨la2, ht2, -⟩ := ts_tm hE2.1
  refine hm_stk (st' := [.ref q2, .ref a]) rfl ?_
  refine hm_put C nF_EN_47 hA2.1 (Nat.le_of_ble_eq_true rfl) rfl rfl nd_EN_steppedKey_24 ?_
  refine hm_eqM (M' := hm_up M2 a (hm_ob 3 [va_rf bs', va_rf ro', va_rf mi', va_rf th', va_rf sc', .int (nI st), .int (nI bf), .ref q2, .int (nI nx), .ref lk, .int (nI lf.length)])) rfl ?_
  generalize hM2_1 : hm_up M2 a (hm_ob 3 [va_rf bs', va_rf ro', va_rf mi', va_rf th', va_rf sc', .int (nI st), .int (nI bf), .ref q2, .int (nI nx), .ref lk, .int (nI lf.length)]) = Mp2_1
  have hE2_1 : en_P D tm M F T G n c se (dr) [sm_t 6 rc 0, sm_t 7 rc 0] a lk Mp2_1 F2 T2 := by rw [← hM2_1]; exact hE2.put (Or.inl rfl) hA2.2
  have hL2_1 : en_L D Mp2_1 F2 T2 lk f lf := by rw [← hM2_1]; exact hL2.put hA2.1
  have hAA2_1 : hm_ow Mp2_1 F2 a (hm_ob 3 [va_rf bs', va_rf ro', va_rf mi', va_rf th', va_rf sc', .int (nI st), .int (nI bf), .ref q2, .int (nI nx), .ref lk, .int (nI lf.length)]) := by rw [← hM2_1]; exact hA2.self
  have htt2_1 : Mp2_1 tm = some (hm_ob 1 [.ref la2, .int (nI (dr)), .int (nI se)]) := by rw [← hM2_1, hm_up_n _ _ (hm_ne ht2 hA2.1 (by decide))]; exact ht2
  refine hm_aload_n C nd_EN_steppedKey_27 rfl ?_
  refine hm_dup C nd_EN_steppedKey_28 rfl ?_
  refine hm_get C nF_EN_50 hAA2_1.1 rfl nd_EN_steppedKey_29 ?_
  refine hm_iconst (v := 1) C nd_EN_steppedKey_32 (by decide) ?_
  refine hm_iadd C nd_EN_steppedKey_33 ?_
  rw [nI_1]
  refine hm_put C nF_EN_50 hAA2_1.1 (Nat.le_of_ble_eq_true rfl) rfl rfl nd_EN_steppedKey_34 ?_
  refine hm_eqM (M' := hm_up Mp2_1 a (hm_ob 3 [va_rf bs', va_rf ro', va_rf mi', va_rf th', va_rf sc', .int (nI st), .int (nI bf), .ref q2, .int (nI (nx + 1)), .ref lk, .int (nI lf.length)])) rfl ?_
  generalize hM2_2 : hm_up Mp2_1 a (hm_ob 3 [va_rf bs', va_rf ro', va_rf mi', va_rf th', va_rf sc', .int (nI st), .int (nI bf), .ref q2, .int (nI (nx + 1)), .ref lk, .int (nI lf.length)]) = Mp2_2
  have hE2_2 : en_P D tm M F T G n c se (dr) [sm_t 6 rc 0, sm_t 7 rc 0] a lk Mp2_2 F2 T2 := by rw [← hM2_2]; exact hE2_1.put (Or.inl rfl) hAA2_1.2
  have hL2_2 : en_L D Mp2_2 F2 T2 lk f lf := by rw [← hM2_2]; exact hL2_1.put hAA2_1.1
  have hAA2_2 : hm_ow Mp2_2 F2 a (hm_ob 3 [va_rf bs', va_rf ro', va_rf mi', va_rf th', va_rf sc', .int (nI st), .int (nI bf), .ref q2, .int (nI (nx + 1)), .ref lk, .int (nI lf.length)]) := by rw [← hM2_2]; exact hAA2_1.self
  have htt2_2 : Mp2_2 tm = some (hm_ob 1 [.ref la2, .int (nI (dr)), .int (nI se)]) := by rw [← hM2_2, hm_up_n _ _ (hm_ne htt2_1 hAA2_1.1 (by decide))]; exact htt2_1
  refine hm_aload_n C nd_EN_steppedKey_37 rfl ?_
  exact hm_aret (r := (some q1)) C E (Or.inl ⟨_, rfl⟩) (by omega) (by omega) (⟨q1, F2, T2, i1, rfl, hE2_2, hP2.2.2.1 _ _ _ hq1, by rw [hL2_2.1.1, hL.1.1], ⟨bs', ro', mi', th', sc', some q2, f, hAA2_2, (o1.mono hP1.2.2.1).mono hP2.2.2.1, (o2.mono hP1.2.2.1).mono hP2.2.2.1, (o3.mono hP1.2.2.1).mono hP2.2.2.1, (o4.mono hP1.2.2.1).mono hP2.2.2.1, (o5.mono hP1.2.2.1).mono hP2.2.2.1, Or.inr ⟨q2, i2, rfl, hq2⟩, hL2_2⟩⟩) nd_EN_steppedKey_38
