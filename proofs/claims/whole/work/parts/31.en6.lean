theorem en_L.wr5 {D : va_G} {M : hm_M} {F : Nat → Prop} {T : Nat → Nat → Nat → Prop} {lk a : Nat} {f : Nat → Option Nat} {lf : List (Nat × Nat × Nat)} {vs : List Value} {e : va_E} (h : en_L D M F T lk f lf) (ha : M a = some (hm_ob 5 vs)) : en_L D (hm_up M a e) F T lk f lf := by
  obtain ⟨h1, h2, h3, h4⟩ := h
  refine ⟨h1.put (Ne.symm (hm_neA ha h1.1)), h2, fun i q hq => ?_, h4⟩
  obtain ⟨h5, b, pk, ky, e1, e2, e3, e4⟩ := h3 i q hq
  exact ⟨h5, b, pk, ky, e1, e2.put (hm_ne e2.1 ha (by decide)), e3, e4⟩
set_option maxHeartbeats 4000000 in
set_option maxRecDepth 100000 in
theorem ct_EN_sealedWire {l : Launch} {D : va_G} {BG : Nat → Option Cell} (M : hm_M) (tm : Nat) (F : Nat → Prop) (T : Nat → Nat → Nat → Prop) (G : Nat → Prop) (dr n c se : Nat) (hS : ts_S D M tm F T G dr n c se) (hcn : c ≤ 2 * n + 10) (hn : n ≤ 19800) (a lk bs ro mi th sc st bf rc nx : Nat) (lf : List (Nat × Nat × Nat)) (hR : en_R D M F T a lk bs ro mi th sc st bf rc nx lf) (d s0 : Nat) (le : Option Nat) (hmi : mi = sm_t 0 d 0) (hsc : sc ≠ 0) : hm_ct l D BG ny_EN_sealedWire prog_2_method_5_code 6 (some (.object "TurnedKeys$Wire")) 9 221 (1 + ts_kc (ts_k T) n c [sm_t 6 sc 0, sm_t 1 mi 0, sm_t 7 sc 0]) (6 + ts_ks (ts_k T) n c [sm_t 6 sc 0, sm_t 1 mi 0, sm_t 7 sc 0]) [.ref a, .int (nI s0), va_rf le, .ref tm] M (fun r M' => ∃ wq F' T' pk ky, r = some (.ref wq) ∧ en_P D tm M F T G n c se dr [sm_t 6 sc 0, sm_t 1 mi 0, sm_t 7 sc 0] a lk M' F' T' ∧ hm_ow M' F' wq (hm_ob 5 [.int (nI s0), .int (nI st), .int (nI bf), va_rf pk, va_rf ky, va_rf le]) ∧ ts_o T' pk (sm_t 1 mi 0) ∧ ts_o T' ky (sm_t 6 sc 0) ∧ (¬ en_F F a lk wq → M wq = none) ∧ en_R D M' F' T' a lk bs ro mi th (sm_t 7 sc 0) (st + 1) bf rc nx lf) := by
  refine hm_ct_of (by decide +kernel) (by simp [lg_sl, hm_cat, hm_catI, hm_catR, hm_catN]) ?_
  intro X C E
  have C : hm_C X l D BG prog_2_method_5_code "TurnedKeys$End" "sealedWire" 6 9 221 (1 + ts_kc (ts_k T) n c [sm_t 6 sc 0, sm_t 1 mi 0, sm_t 7 sc 0]) (6 + ts_ks (ts_k T) n c [sm_t 6 sc 0, sm_t 1 mi 0, sm_t 7 sc 0]) := C
  refine hm_lv (lv' := [(0, .ref a), (1, .int (nI s0)), (2, va_rf le), (3, .ref tm)]) (by simp [lv_args, hm_cat, hm_catI, hm_catR, hm_catN]) ?_
  obtain ⟨bs', ro', mi', th', sc', rc', f, hA, o1, o2, o3, o4, o5, o6, hL⟩ := hR
  obtain ⟨la0, ht0, -⟩ := ts_tm hS
  obtain ⟨m0, im, rfl, hTm⟩ := ts_o_so o3 (by rw [hmi]; exact sm_t_ne _ _ _)
  have hE0 := en_P.rf (a := a) (lk := lk) hS
  have kz := ts_kz (ts_k T) n c
  have hb0 : _ ∧ _ ≤ n + 0 := hE0.bd hcn
  refine hm_aload_n C nd_EN_sealedWire_0 rfl ?_
  refine hm_bipush (v := 6) C nd_EN_sealedWire_1 (by decide) ?_
  refine hm_aload_n C nd_EN_sealedWire_3 rfl ?_
  refine hm_get C nF_EN_37 hA.1 rfl nd_EN_sealedWire_4 ?_
  refine hm_null C nd_EN_sealedWire_7 ?_
  refine hm_stk (st' := [va_rf none, va_rf sc', .int (nI 6), .ref tm]) rfl ?_
  have rm1 : ts_kc (ts_k T) n c [sm_t 6 sc 0] = _ ∧ ts_ks (ts_k T) n c [sm_t 6 sc 0] = _ := hE0.room [sm_t 6 sc 0]
  have rl1 : _ ≤ ts_kc (ts_k T) n c [sm_t 6 sc 0, sm_t 1 mi 0, sm_t 7 sc 0] ∧ _ ≤ ts_ks (ts_k T) n c [sm_t 6 sc 0, sm_t 1 mi 0, sm_t 7 sc 0] := ts_kle [sm_t 6 sc 0] [sm_t 1 mi 0, sm_t 7 sc 0] (ts_k T) n c
  refine hm_callV C (ct_TS_made M tm F T G dr _ _ se hE0.1 (by omega) 6 sc 0 sc' none o5 ts_o_0 (fun h => ts_o_nn o5 hsc h.1) (by omega) (by omega) (fun h => by omega) (fun h => by omega)) nV_TS_made [.int (nI 6), va_rf sc', va_rf none] rfl ht0 rfl nq_EN_66 nj_TS_made nx_TS_made rfl (rest := []) rfl (Nat.le_of_ble_eq_true rfl) (by decide) (by decide) (by omega) (by omega) nd_EN_sealedWire_8 (fun r M1 hp => ?_)
  obtain ⟨q1, F1, T1, rfl, hP1, ⟨i1, hq1⟩, hn1⟩ := hp
  have hE1 : en_P D tm M F T G n c se (dr) [sm_t 6 sc 0] a lk M1 F1 T1 := hE0.tr (hP1.en a lk)
  have hA1 := hA.step hP1.2.1
  have hL1 := hL.step hP1.2.1 hP1.2.2.1
  have hb1 : _ ∧ _ ≤ n + 1 := hE1.bd hcn
  obtain ⟨la1, ht1, -⟩ := ts_tm hE1.1
  refine hm_stk (st' := [.ref q1]) rfl ?_
  refine hm_astore C [(4, .ref q1), (0, .ref a), (1, .int (nI s0)), (2, va_rf le), (3, .ref tm)] nd_EN_sealedWire_11 (by decide) (by simp [hm_cat, hm_catI, hm_catR, hm_catN] <;> decide) ?_
  refine hm_newN C 6 nB_EN_70 rfl (by omega) (by omega) nd_EN_sealedWire_13 (fun wq hwq => ?_)
  have hfwq := hE1.fr hwq
  generalize hM1_1 : hm_up M1 wq (hm_ob 5 [.int 0, .int 0, .int 0, .null, .null, .null]) = Mp1_1
  have hE1_1 : en_P D tm M F T G n c se (dr) [sm_t 6 sc 0] a lk Mp1_1 F1 T1 := by rw [← hM1_1]; exact hE1.new hwq
  have hL1_1 : en_L D Mp1_1 F1 T1 lk f lf := by rw [← hM1_1]; exact hL1.new hwq
  have hAA1_1 : hm_ow Mp1_1 F1 a (hm_ob 3 [va_rf bs', va_rf ro', va_rf (some m0), va_rf th', va_rf sc', .int (nI st), .int (nI bf), va_rf rc', .int (nI nx), .ref lk, .int (nI lf.length)]) := by rw [← hM1_1]; exact hA1.put (hm_neF hA1.1 hwq)
  have htt1_1 : Mp1_1 tm = some (hm_ob 1 [.ref la1, .int (nI (dr)), .int (nI se)]) := by rw [← hM1_1, hm_up_n _ _ (hm_neF ht1 hwq)]; exact ht1
  have hWwq_1_1 : hm_ow Mp1_1 F1 wq (hm_ob 5 [.int 0, .int 0, .int 0, .null, .null, .null]) := ⟨by rw [← hM1_1]; exact hm_up_s _ _ _, fun q => ts_S_some hE1.1 q hwq⟩
  refine hm_dup C nd_EN_sealedWire_16 rfl ?_
  refine hm_iload_n C nd_EN_sealedWire_17 rfl ?_
  refine hm_aload_n C nd_EN_sealedWire_18 rfl ?_
  refine hm_get C nF_EN_40 hAA1_1.1 rfl nd_EN_sealedWire_19 ?_
  refine hm_aload_n C nd_EN_sealedWire_22 rfl ?_
  refine hm_get C nF_EN_44 hAA1_1.1 rfl nd_EN_sealedWire_23 ?_
  refine hm_aload_n C nd_EN_sealedWire_26 rfl ?_
  refine hm_aload_n C nd_EN_sealedWire_27 rfl ?_
  refine hm_get C nF_EN_24 hAA1_1.1 rfl nd_EN_sealedWire_28 ?_
  refine hm_stk (st' := [.ref m0, .ref tm, .int (nI bf), .int (nI st), .int (nI s0), .ref wq, .ref wq]) rfl ?_
  have rm2 : ts_kc (ts_k T) n c [sm_t 6 sc 0, sm_t 1 mi 0] = _ ∧ ts_ks (ts_k T) n c [sm_t 6 sc 0, sm_t 1 mi 0] = _ := hE1_1.room [sm_t 1 mi 0]
  have rl2 : _ ≤ ts_kc (ts_k T) n c [sm_t 6 sc 0, sm_t 1 mi 0, sm_t 7 sc 0] ∧ _ ≤ ts_ks (ts_k T) n c [sm_t 6 sc 0, sm_t 1 mi 0, sm_t 7 sc 0] := ts_kle [sm_t 6 sc 0, sm_t 1 mi 0] [sm_t 7 sc 0] (ts_k T) n c
  refine hm_callV C (ct_TS_publicOf Mp1_1 tm F1 T1 G dr _ _ se hE1_1.1 (by omega) m0 im mi d (hP1.2.2.1 _ _ _ hTm) hmi) nV_TS_publicOf [.ref m0] rfl htt1_1 rfl nq_EN_72 nj_TS_publicOf nx_TS_publicOf rfl (rest := [.int (nI bf), .int (nI st), .int (nI s0), .ref wq, .ref wq]) rfl (Nat.le_of_ble_eq_true rfl) (by decide) (by decide) (by omega) (by omega) nd_EN_sealedWire_31 (fun r M2 hp => ?_)
  obtain ⟨q2, F2, T2, rfl, hP2, i2, hq2⟩ := hp
  have hE2 : en_P D tm M F T G n c se (dr) [sm_t 6 sc 0, sm_t 1 mi 0] a lk M2 F2 T2 := hE1_1.tr (hP2.en a lk)
  have hA2 := hAA1_1.step hP2.2.1
  have hL2 := hL1_1.step hP2.2.1 hP2.2.2.1
  have hb2 : _ ∧ _ ≤ n + 2 := hE2.bd hcn
  obtain ⟨la2, ht2, -⟩ := ts_tm hE2.1
  have hWwq_2 := hWwq_1_1.step hP2.2.1
  refine hm_stk (st' := [.ref q2, .int (nI bf), .int (nI st), .int (nI s0), .ref wq, .ref wq]) rfl ?_
  refine hm_aload C nd_EN_sealedWire_34 rfl ?_
  refine hm_aload_nQ (r := le) C nd_EN_sealedWire_36 rfl ?_
  refine hm_stk (st' := [va_rf le, va_rf (some q1), va_rf (some q2), .int (nI bf), .int (nI st), .int (nI s0), .ref wq, .ref wq]) rfl ?_
  refine hm_callI C (ct_WI_init M2 wq (nI s0) (nI st) (nI bf) (some q2) (some q1) le hWwq_2.1) nV_WI_init rfl nq_EN_76 nj_WI_init [.int (nI s0), .int (nI st), .int (nI bf), va_rf (some q2), va_rf (some q1), va_rf le] rfl rfl (rest := [.ref wq]) rfl (Nat.le_of_ble_eq_true rfl) (by decide) (by decide) (by omega) (by omega) nd_EN_sealedWire_37 (fun r M3 hp => ?_)
  obtain ⟨rfl, e9⟩ := hp
  rw [e9]
  refine hm_stk (st' := [.ref wq]) rfl ?_
  generalize hM2_1 : hm_up M2 wq (hm_ob 5 [.int (nI s0), .int (nI st), .int (nI bf), va_rf (some q2), va_rf (some q1), va_rf le]) = Mp2_1
  have hE2_1 : en_P D tm M F T G n c se (dr) [sm_t 6 sc 0, sm_t 1 mi 0] a lk Mp2_1 F2 T2 := by rw [← hM2_1]; exact hE2.wr hfwq hWwq_2.2
  have hL2_1 : en_L D Mp2_1 F2 T2 lk f lf := by rw [← hM2_1]; exact hL2.wr5 hWwq_2.1
  have hAA2_1 : hm_ow Mp2_1 F2 a (hm_ob 3 [va_rf bs', va_rf ro', va_rf (some m0), va_rf th', va_rf sc', .int (nI st), .int (nI bf), va_rf rc', .int (nI nx), .ref lk, .int (nI lf.length)]) := by rw [← hM2_1]; exact hA2.put (hm_ne hA2.1 hWwq_2.1 (by decide))
  have htt2_1 : Mp2_1 tm = some (hm_ob 1 [.ref la2, .int (nI (dr)), .int (nI se)]) := by rw [← hM2_1, hm_up_n _ _ (hm_ne ht2 hWwq_2.1 (by decide))]; exact ht2
  have hWwq_2_1 : hm_ow Mp2_1 F2 wq (hm_ob 5 [.int (nI s0), .int (nI st), .int (nI bf), va_rf (some q2), va_rf (some q1), va_rf le]) := ⟨by rw [← hM2_1]; exact hm_up_s _ _ _, hWwq_2.2⟩
  refine hm_astore C [(5, .ref wq), (4, .ref q1), (0, .ref a), (1, .int (nI s0)), (2, va_rf le), (3, .ref tm)] nd_EN_sealedWire_40 (by decide) (by simp [hm_cat, hm_catI, hm_catR, hm_catN] <;> decide) ?_
  refine hm_aload_n C nd_EN_sealedWire_42 rfl ?_
  refine hm_aload_n C nd_EN_sealedWire_43 rfl ?_
  refine hm_bipush (v := 7) C nd_EN_sealedWire_44 (by decide) ?_
  refine hm_aload_n C nd_EN_sealedWire_46 rfl ?_
  refine hm_get C nF_EN_37 hAA2_1.1 rfl nd_EN_sealedWire_47 ?_
  refine hm_null C nd_EN_sealedWire_50 ?_
  refine hm_stk (st' := [va_rf none, va_rf sc', .int (nI 7), .ref tm, .ref a]) rfl ?_
  have rm3 : ts_kc (ts_k T) n c [sm_t 6 sc 0, sm_t 1 mi 0, sm_t 7 sc 0] = _ ∧ ts_ks (ts_k T) n c [sm_t 6 sc 0, sm_t 1 mi 0, sm_t 7 sc 0] = _ := hE2_1.room [sm_t 7 sc 0]
  have rl3 : _ ≤ ts_kc (ts_k T) n c [sm_t 6 sc 0, sm_t 1 mi 0, sm_t 7 sc 0] ∧ _ ≤ ts_ks (ts_k T) n c [sm_t 6 sc 0, sm_t 1 mi 0, sm_t 7 sc 0] := ts_kle [sm_t 6 sc 0, sm_t 1 mi 0, sm_t 7 sc 0] [] (ts_k T) n c
  refine hm_callV C (ct_TS_made Mp2_1 tm F2 T2 G dr _ _ se hE2_1.1 (by omega) 7 sc 0 sc' none ((o5.mono hP1.2.2.1).mono hP2.2.2.1) ts_o_0 (fun h => ts_o_nn o5 hsc h.1) (by omega) (by omega) (fun h => by omega) (fun h => by omega)) nV_TS_made [.int (nI 7), va_rf sc', va_rf none] rfl htt2_1 rfl nq_EN_66 nj_TS_made nx_TS_made rfl (rest := [.ref a]) rfl (Nat.le_of_ble_eq_true rfl) (by decide) (by decide) (by omega) (by omega) nd_EN_sealedWire_51 (fun r M4 hp => ?_)
  obtain ⟨q3, F3, T3, rfl, hP3, ⟨i3, hq3⟩, hn3⟩ := hp
  have hE3 : en_P D tm M F T G n c se (dr) [sm_t 6 sc 0, sm_t 1 mi 0, sm_t 7 sc 0] a lk M4 F3 T3 := hE2_1.tr (hP3.en a lk)
  have hA3 := hAA2_1.step hP3.2.1
  have hL3 := hL2_1.step hP3.2.1 hP3.2.2.1
  have hb3 : _ ∧ _ ≤ n + 3 := hE3.bd hcn
  obtain ⟨la3, ht3, -⟩ := ts_tm hE3.1
  have hWwq_3 := hWwq_2_1.step hP3.2.1
  refine hm_stk (st' := [.ref q3, .ref a]) rfl ?_
  refine hm_put C nF_EN_37 hA3.1 (Nat.le_of_ble_eq_true rfl) rfl rfl nd_EN_sealedWire_54 ?_
  refine hm_eqM (M' := hm_up M4 a (hm_ob 3 [va_rf bs', va_rf ro', va_rf (some m0), va_rf th', .ref q3, .int (nI st), .int (nI bf), va_rf rc', .int (nI nx), .ref lk, .int (nI lf.length)])) rfl ?_
  generalize hM3_1 : hm_up M4 a (hm_ob 3 [va_rf bs', va_rf ro', va_rf (some m0), va_rf th', .ref q3, .int (nI st), .int (nI bf), va_rf rc', .int (nI nx), .ref lk, .int (nI lf.length)]) = Mp3_1
  have hE3_1 : en_P D tm M F T G n c se (dr) [sm_t 6 sc 0, sm_t 1 mi 0, sm_t 7 sc 0] a lk Mp3_1 F3 T3 := by rw [← hM3_1]; exact hE3.put (Or.inl rfl) hA3.2
  have hL3_1 : en_L D Mp3_1 F3 T3 lk f lf := by rw [← hM3_1]; exact hL3.put hA3.1
  have hAA3_1 : hm_ow Mp3_1 F3 a (hm_ob 3 [va_rf bs', va_rf ro', va_rf (some m0), va_rf th', .ref q3, .int (nI st), .int (nI bf), va_rf rc', .int (nI nx), .ref lk, .int (nI lf.length)]) := by rw [← hM3_1]; exact hA3.self
  have htt3_1 : Mp3_1 tm = some (hm_ob 1 [.ref la3, .int (nI (dr)), .int (nI se)]) := by rw [← hM3_1, hm_up_n _ _ (hm_ne ht3 hA3.1 (by decide))]; exact ht3
  have hWwq_3_1 : hm_ow Mp3_1 F3 wq (hm_ob 5 [.int (nI s0), .int (nI st), .int (nI bf), va_rf (some q2), va_rf (some q1), va_rf le]) := by rw [← hM3_1]; exact hWwq_3.put (hm_ne hWwq_3.1 hA3.1 (by decide))
  refine hm_aload_n C nd_EN_sealedWire_57 rfl ?_
  refine hm_dup C nd_EN_sealedWire_58 rfl ?_
  refine hm_get C nF_EN_40 hAA3_1.1 rfl nd_EN_sealedWire_59 ?_
  refine hm_iconst (v := 1) C nd_EN_sealedWire_62 (by decide) ?_
  refine hm_iadd C nd_EN_sealedWire_63 ?_
  rw [nI_1]
  refine hm_put C nF_EN_40 hAA3_1.1 (Nat.le_of_ble_eq_true rfl) rfl rfl nd_EN_sealedWire_64 ?_
  refine hm_eqM (M' := hm_up Mp3_1 a (hm_ob 3 [va_rf bs', va_rf ro', va_rf (some m0), va_rf th', .ref q3, .int (nI (st + 1)), .int (nI bf), va_rf rc', .int (nI nx), .ref lk, .int (nI lf.length)])) rfl ?_
  generalize hM3_2 : hm_up Mp3_1 a (hm_ob 3 [va_rf bs', va_rf ro', va_rf (some m0), va_rf th', .ref q3, .int (nI (st + 1)), .int (nI bf), va_rf rc', .int (nI nx), .ref lk, .int (nI lf.length)]) = Mp3_2
  have hE3_2 : en_P D tm M F T G n c se (dr) [sm_t 6 sc 0, sm_t 1 mi 0, sm_t 7 sc 0] a lk Mp3_2 F3 T3 := by rw [← hM3_2]; exact hE3_1.put (Or.inl rfl) hAA3_1.2
  have hL3_2 : en_L D Mp3_2 F3 T3 lk f lf := by rw [← hM3_2]; exact hL3_1.put hAA3_1.1
  have hAA3_2 : hm_ow Mp3_2 F3 a (hm_ob 3 [va_rf bs', va_rf ro', va_rf (some m0), va_rf th', .ref q3, .int (nI (st + 1)), .int (nI bf), va_rf rc', .int (nI nx), .ref lk, .int (nI lf.length)]) := by rw [← hM3_2]; exact hAA3_1.self
  have htt3_2 : Mp3_2 tm = some (hm_ob 1 [.ref la3, .int (nI (dr)), .int (nI se)]) := by rw [← hM3_2, hm_up_n _ _ (hm_ne htt3_1 hAA3_1.1 (by decide))]; exact htt3_1
  have hWwq_3_2 : hm_ow Mp3_2 F3 wq (hm_ob 5 [.int (nI s0), .int (nI st), .int (nI bf), va_rf (some q2), va_rf (some q1), va_rf le]) := by rw [← hM3_2]; exact hWwq_3_1.put (hm_ne hWwq_3_1.1 hAA3_1.1 (by decide))
  refine hm_aload C nd_EN_sealedWire_67 rfl ?_
  exact hm_aret (r := (some wq)) C E (Or.inl ⟨_, rfl⟩) (by omega) (by omega) (⟨wq, F3, T3, some q2, some q1, rfl, hE3_2, hWwq_3_2, Or.inr ⟨q2, i2, rfl, hP3.2.2.1 _ _ _ hq2⟩, Or.inr ⟨q1, i1, rfl, hP3.2.2.1 _ _ _ (hP2.2.2.1 _ _ _ hq1)⟩, hfwq, ⟨bs', ro', some m0, th', some q3, rc', f, hAA3_2, ((o1.mono hP1.2.2.1).mono hP2.2.2.1).mono hP3.2.2.1, ((o2.mono hP1.2.2.1).mono hP2.2.2.1).mono hP3.2.2.1, ((o3.mono hP1.2.2.1).mono hP2.2.2.1).mono hP3.2.2.1, ((o4.mono hP1.2.2.1).mono hP2.2.2.1).mono hP3.2.2.1, Or.inr ⟨q3, i3, rfl, hq3⟩, ((o6.mono hP1.2.2.1).mono hP2.2.2.1).mono hP3.2.2.1, hL3_2⟩⟩) nd_EN_sealedWire_69
