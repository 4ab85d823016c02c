set_option maxHeartbeats 4000000 in
set_option maxRecDepth 100000 in
theorem ct_EN_turnReceiving {l : Launch} {D : va_G} {BG : Nat → Option Cell} (M : hm_M) (tm : Nat) (F : Nat → Prop) (T : Nat → Nat → Nat → Prop) (G : Nat → Prop) (dr n c se : Nat) (hS : ts_S D M tm F T G dr n c se) (hcn : c ≤ 2 * n + 10) (hn : n ≤ 19800) (a lk bs ro mi th sc st bf rc nx : Nat) (lf : List (Nat × Nat × Nat)) (hR : en_R D M F T a lk bs ro mi th sc st bf rc nx lf) (d p ip k e : Nat) (hmi : mi = sm_t 0 d 0) (hTp : T p ip (sm_t 1 k 0)) (hk : k = sm_t 0 e 0) : hm_ct l D BG ny_EN_turnReceiving prog_2_method_7_code 4 none 10 244 (ts_kc (ts_k T) n c [sm_t 1 mi 0, sm_sh mi k, sm_t 5 ro (sm_sh mi k), sm_t 4 ro (sm_sh mi k)]) (ts_ks (ts_k T) n c [sm_t 1 mi 0, sm_sh mi k, sm_t 5 ro (sm_sh mi k), sm_t 4 ro (sm_sh mi k)]) [.ref a, .ref p, .ref tm] M (fun r M' => ∃ F' T', r = none ∧ en_P D tm M F T G n c se dr [sm_t 1 mi 0, sm_sh mi k, sm_t 5 ro (sm_sh mi k), sm_t 4 ro (sm_sh mi k)] a lk M' F' T' ∧ en_R D M' F' T' a lk bs (sm_t 4 ro (sm_sh mi k)) mi (sm_t 1 k 0) 0 st bf (sm_t 5 ro (sm_sh mi k)) 0 lf) := by
  refine hm_ct_of (by decide +kernel) (by exact Nat.le_of_ble_eq_true rfl) ?_
  intro X C E
  have C : hm_C X l D BG prog_2_method_7_code "TurnedKeys$End" "turnReceiving" 4 10 244 (ts_kc (ts_k T) n c [sm_t 1 mi 0, sm_sh mi k, sm_t 5 ro (sm_sh mi k), sm_t 4 ro (sm_sh mi k)]) (ts_ks (ts_k T) n c [sm_t 1 mi 0, sm_sh mi k, sm_t 5 ro (sm_sh mi k), sm_t 4 ro (sm_sh mi k)]) := C
  refine hm_lv (lv' := [(0, .ref a), (1, .ref p), (2, .ref tm)]) rfl ?_
  obtain ⟨bs', ro', mi', th', sc', rc', f, hA, o1, o2, o3, o4, o5, o6, hL⟩ := hR
  obtain ⟨la0, ht0, -⟩ := ts_tm hS
  obtain ⟨m0, im, rfl, hTm⟩ := ts_o_so o3 (by rw [hmi]; exact sm_t_ne _ _ _)
  have hE0 := en_P.rf (a := a) (lk := lk) hS
  have kz := ts_kz (ts_k T) n c
  have hb0 : _ ∧ _ ≤ n + 0 := hE0.bd hcn
  refine hm_aload_n C nd_EN_turnReceiving_0 rfl ?_
  refine hm_aload_n C nd_EN_turnReceiving_1 rfl ?_
  refine hm_get C nF_EN_24 hA.1 rfl nd_EN_turnReceiving_2 ?_
  refine hm_aload_n C nd_EN_turnReceiving_5 rfl ?_
  refine hm_stk (st' := [.ref p, .ref m0, .ref tm]) rfl ?_
  have rm2 : ts_kc (ts_k T) n c [sm_t 1 mi 0, sm_sh mi k] = _ ∧ ts_ks (ts_k T) n c [sm_t 1 mi 0, sm_sh mi k] = _ := hE0.room [sm_t 1 mi 0, sm_sh mi k]
  have rl2 : _ ≤ ts_kc (ts_k T) n c [sm_t 1 mi 0, sm_sh mi k, sm_t 5 ro (sm_sh mi k), sm_t 4 ro (sm_sh mi k)] ∧ _ ≤ ts_ks (ts_k T) n c [sm_t 1 mi 0, sm_sh mi k, sm_t 5 ro (sm_sh mi k), sm_t 4 ro (sm_sh mi k)] := ts_kle [sm_t 1 mi 0, sm_sh mi k] [sm_t 5 ro (sm_sh mi k), sm_t 4 ro (sm_sh mi k)] (ts_k T) n c
  refine hm_callV C (ct_TS_sharedOf M tm F T G dr _ _ se hE0.1 (by omega) (by omega) m0 im mi d p ip k e hTm hmi hTp hk) nV_TS_sharedOf [.ref m0, .ref p] rfl ht0 rfl nq_EN_62 nj_TS_sharedOf nx_TS_sharedOf rfl (rest := []) rfl (Nat.le_of_ble_eq_true rfl) (by decide) (by decide) (by omega) (by omega) nd_EN_turnReceiving_6 (fun r M1 hp => ?_)
  obtain ⟨q2, F2, T2, rfl, hP2, i2, hq2⟩ := hp
  have hE2 : en_P D tm M F T G n c se (dr) [sm_t 1 mi 0, sm_sh mi k] a lk M1 F2 T2 := hE0.tr (hP2.en a lk)
  have hA2 := hA.step hP2.2.1
  have hL2 := hL.step hP2.2.1 hP2.2.2.1
  have hb2 : _ ∧ _ ≤ n + 2 := hE2.bd hcn
  obtain ⟨la2, ht2, -⟩ := ts_tm hE2.1
  refine hm_stk (st' := [.ref q2]) rfl ?_
  refine hm_astore_n C [(3, .ref q2), (0, .ref a), (1, .ref p), (2, .ref tm)] nd_EN_turnReceiving_9 (by decide) rfl ?_
  refine hm_aload_n C nd_EN_turnReceiving_10 rfl ?_
  refine hm_aload_n C nd_EN_turnReceiving_11 rfl ?_
  refine hm_iconst (v := 5) C nd_EN_turnReceiving_12 (by decide) ?_
  refine hm_aload_n C nd_EN_turnReceiving_13 rfl ?_
  refine hm_get C nF_EN_21 hA2.1 rfl nd_EN_turnReceiving_14 ?_
  refine hm_aload_n C nd_EN_turnReceiving_17 rfl ?_
  refine hm_stk (st' := [va_rf (some q2), va_rf ro', .int (nI 5), .ref tm, .ref a]) rfl ?_
  have rm3 : ts_kc (ts_k T) n c [sm_t 1 mi 0, sm_sh mi k, sm_t 5 ro (sm_sh mi k)] = _ ∧ ts_ks (ts_k T) n c [sm_t 1 mi 0, sm_sh mi k, sm_t 5 ro (sm_sh mi k)] = _ := hE2.room [sm_t 5 ro (sm_sh mi k)]
  have rl3 : _ ≤ ts_kc (ts_k T) n c [sm_t 1 mi 0, sm_sh mi k, sm_t 5 ro (sm_sh mi k), sm_t 4 ro (sm_sh mi k)] ∧ _ ≤ ts_ks (ts_k T) n c [sm_t 1 mi 0, sm_sh mi k, sm_t 5 ro (sm_sh mi k), sm_t 4 ro (sm_sh mi k)] := ts_kle [sm_t 1 mi 0, sm_sh mi k, sm_t 5 ro (sm_sh mi k)] [sm_t 4 ro (sm_sh mi k)] (ts_k T) n c
  refine hm_callV C (ct_TS_made M1 tm F2 T2 G dr _ _ se hE2.1 (by omega) 5 ro (sm_sh mi k) ro' (some q2) (o2.mono hP2.2.2.1) (Or.inr ⟨_, _, rfl, hq2⟩) (fun h => by cases h.2) (by omega) (by omega) (fun h => by omega) (fun h => by omega)) nV_TS_made [.int (nI 5), va_rf ro', va_rf (some q2)] rfl ht2 rfl nq_EN_66 nj_TS_made nx_TS_made rfl (rest := [.ref a]) rfl (Nat.le_of_ble_eq_true rfl) (by decide) (by decide) (by omega) (by omega) nd_EN_turnReceiving_18 (fun r M2 hp => ?_)
  obtain ⟨q3, F3, T3, rfl, hP3, ⟨i3, hq3⟩, hn3⟩ := hp
  have hE3 : en_P D tm M F T G n c se (dr) [sm_t 1 mi 0, sm_sh mi k, sm_t 5 ro (sm_sh mi k)] a lk M2 F3 T3 := hE2.tr (hP3.en a lk)
  have hA3 := hA2.step hP3.2.1
  have hL3 := hL2.step hP3.2.1 hP3.2.2.1
  have hb3 : _ ∧ _ ≤ n + 3 := hE3.bd hcn
  obtain ⟨la3, ht3, -⟩ := ts_tm hE3.1
  refine hm_stk (st' := [.ref q3, .ref a]) rfl ?_
  refine hm_put C nF_EN_47 hA3.1 (Nat.le_of_ble_eq_true rfl) rfl rfl nd_EN_turnReceiving_21 ?_
  refine hm_eqM (M' := hm_up M2 a (hm_ob 3 [va_rf bs', va_rf ro', va_rf (some m0), va_rf th', va_rf sc', .int (nI st), .int (nI bf), .ref q3, .int (nI nx), .ref lk, .int (nI lf.length)])) rfl ?_
  generalize hM3_1 : hm_up M2 a (hm_ob 3 [va_rf bs', va_rf ro', va_rf (some m0), va_rf th', va_rf sc', .int (nI st), .int (nI bf), .ref q3, .int (nI nx), .ref lk, .int (nI lf.length)]) = Mp3_1
  have hE3_1 : en_P D tm M F T G n c se (dr) [sm_t 1 mi 0, sm_sh mi k, sm_t 5 ro (sm_sh mi k)] a lk Mp3_1 F3 T3 := by rw [← hM3_1]; exact hE3.put (Or.inl rfl) hA3.2
  have hL3_1 : en_L D Mp3_1 F3 T3 lk f lf := by rw [← hM3_1]; exact hL3.put hA3.1
  have hAA3_1 : hm_ow Mp3_1 F3 a (hm_ob 3 [va_rf bs', va_rf ro', va_rf (some m0), va_rf th', va_rf sc', .int (nI st), .int (nI bf), .ref q3, .int (nI nx), .ref lk, .int (nI lf.length)]) := by rw [← hM3_1]; exact hA3.self
  have htt3_1 : Mp3_1 tm = some (hm_ob 1 [.ref la3, .int (nI (dr)), .int (nI se)]) := by rw [← hM3_1, hm_up_n _ _ (hm_ne ht3 hA3.1 (by decide))]; exact ht3
  refine hm_aload_n C nd_EN_turnReceiving_24 rfl ?_
  refine hm_aload_n C nd_EN_turnReceiving_25 rfl ?_
  refine hm_iconst (v := 4) C nd_EN_turnReceiving_26 (by decide) ?_
  refine hm_aload_n C nd_EN_turnReceiving_27 rfl ?_
  refine hm_get C nF_EN_21 hAA3_1.1 rfl nd_EN_turnReceiving_28 ?_
  refine hm_aload_n C nd_EN_turnReceiving_31 rfl ?_
  refine hm_stk (st' := [va_rf (some q2), va_rf ro', .int (nI 4), .ref tm, .ref a]) rfl ?_
  have rm4 : ts_kc (ts_k T) n c [sm_t 1 mi 0, sm_sh mi k, sm_t 5 ro (sm_sh mi k), sm_t 4 ro (sm_sh mi k)] = _ ∧ ts_ks (ts_k T) n c [sm_t 1 mi 0, sm_sh mi k, sm_t 5 ro (sm_sh mi k), sm_t 4 ro (sm_sh mi k)] = _ := hE3_1.room [sm_t 4 ro (sm_sh mi k)]
  have rl4 : _ ≤ ts_kc (ts_k T) n c [sm_t 1 mi 0, sm_sh mi k, sm_t 5 ro (sm_sh mi k), sm_t 4 ro (sm_sh mi k)] ∧ _ ≤ ts_ks (ts_k T) n c [sm_t 1 mi 0, sm_sh mi k, sm_t 5 ro (sm_sh mi k), sm_t 4 ro (sm_sh mi k)] := ts_kle [sm_t 1 mi 0, sm_sh mi k, sm_t 5 ro (sm_sh mi k), sm_t 4 ro (sm_sh mi k)] [] (ts_k T) n c
  refine hm_callV C (ct_TS_made Mp3_1 tm F3 T3 G dr _ _ se hE3_1.1 (by omega) 4 ro (sm_sh mi k) ro' (some q2) ((o2.mono hP2.2.2.1).mono hP3.2.2.1) (Or.inr ⟨_, _, rfl, hP3.2.2.1 _ _ _ hq2⟩) (fun h => by cases h.2) (by omega) (by omega) (fun h => by omega) (fun h => by omega)) nV_TS_made [.int (nI 4), va_rf ro', va_rf (some q2)] rfl htt3_1 rfl nq_EN_66 nj_TS_made nx_TS_made rfl (rest := [.ref a]) rfl (Nat.le_of_ble_eq_true rfl) (by decide) (by decide) (by omega) (by omega) nd_EN_turnReceiving_32 (fun r M3 hp => ?_)
  obtain ⟨q4, F4, T4, rfl, hP4, ⟨i4, hq4⟩, hn4⟩ := hp
  have hE4 : en_P D tm M F T G n c se (dr) [sm_t 1 mi 0, sm_sh mi k, sm_t 5 ro (sm_sh mi k), sm_t 4 ro (sm_sh mi k)] a lk M3 F4 T4 := hE3_1.tr (hP4.en a lk)
  have hA4 := hAA3_1.step hP4.2.1
  have hL4 := hL3_1.step hP4.2.1 hP4.2.2.1
  have hb4 : _ ∧ _ ≤ n + 4 := hE4.bd hcn
  obtain ⟨la4, ht4, -⟩ := ts_tm hE4.1
  refine hm_stk (st' := [.ref q4, .ref a]) rfl ?_
  refine hm_put C nF_EN_21 hA4.1 (Nat.le_of_ble_eq_true rfl) rfl rfl nd_EN_turnReceiving_35 ?_
  refine hm_eqM (M' := hm_up M3 a (hm_ob 3 [va_rf bs', .ref q4, va_rf (some m0), va_rf th', va_rf sc', .int (nI st), .int (nI bf), .ref q3, .int (nI nx), .ref lk, .int (nI lf.length)])) rfl ?_
  generalize hM4_1 : hm_up M3 a (hm_ob 3 [va_rf bs', .ref q4, va_rf (some m0), va_rf th', va_rf sc', .int (nI st), .int (nI bf), .ref q3, .int (nI nx), .ref lk, .int (nI lf.length)]) = Mp4_1
  have hE4_1 : en_P D tm M F T G n c se (dr) [sm_t 1 mi 0, sm_sh mi k, sm_t 5 ro (sm_sh mi k), sm_t 4 ro (sm_sh mi k)] a lk Mp4_1 F4 T4 := by rw [← hM4_1]; exact hE4.put (Or.inl rfl) hA4.2
  have hL4_1 : en_L D Mp4_1 F4 T4 lk f lf := by rw [← hM4_1]; exact hL4.put hA4.1
  have hAA4_1 : hm_ow Mp4_1 F4 a (hm_ob 3 [va_rf bs', .ref q4, va_rf (some m0), va_rf th', va_rf sc', .int (nI st), .int (nI bf), .ref q3, .int (nI nx), .ref lk, .int (nI lf.length)]) := by rw [← hM4_1]; exact hA4.self
  have htt4_1 : Mp4_1 tm = some (hm_ob 1 [.ref la4, .int (nI (dr)), .int (nI se)]) := by rw [← hM4_1, hm_up_n _ _ (hm_ne ht4 hA4.1 (by decide))]; exact ht4
  refine hm_aload_n C nd_EN_turnReceiving_38 rfl ?_
  refine hm_aload_n C nd_EN_turnReceiving_39 rfl ?_
  refine hm_put C nF_EN_34 hAA4_1.1 (Nat.le_of_ble_eq_true rfl) rfl rfl nd_EN_turnReceiving_40 ?_
  refine hm_eqM (M' := hm_up Mp4_1 a (hm_ob 3 [va_rf bs', .ref q4, va_rf (some m0), .ref p, va_rf sc', .int (nI st), .int (nI bf), .ref q3, .int (nI nx), .ref lk, .int (nI lf.length)])) rfl ?_
  generalize hM4_2 : hm_up Mp4_1 a (hm_ob 3 [va_rf bs', .ref q4, va_rf (some m0), .ref p, va_rf sc', .int (nI st), .int (nI bf), .ref q3, .int (nI nx), .ref lk, .int (nI lf.length)]) = Mp4_2
  have hE4_2 : en_P D tm M F T G n c se (dr) [sm_t 1 mi 0, sm_sh mi k, sm_t 5 ro (sm_sh mi k), sm_t 4 ro (sm_sh mi k)] a lk Mp4_2 F4 T4 := by rw [← hM4_2]; exact hE4_1.put (Or.inl rfl) hAA4_1.2
  have hL4_2 : en_L D Mp4_2 F4 T4 lk f lf := by rw [← hM4_2]; exact hL4_1.put hAA4_1.1
  have hAA4_2 : hm_ow Mp4_2 F4 a (hm_ob 3 [va_rf bs', .ref q4, va_rf (some m0), .ref p, va_rf sc', .int (nI st), .int (nI bf), .ref q3, .int (nI nx), .ref lk, .int (nI lf.length)]) := by rw [← hM4_2]; exact hAA4_1.self
  have htt4_2 : Mp4_2 tm = some (hm_ob 1 [.ref la4, .int (nI (dr)), .int (nI se)]) := by rw [← hM4_2, hm_up_n _ _ (hm_ne htt4_1 hAA4_1.1 (by decide))]; exact htt4_1
  refine hm_aload_n C nd_EN_turnReceiving_43 rfl ?_
  refine hm_iconst (v := 0) C nd_EN_turnReceiving_44 (by decide) ?_
  refine hm_put C nF_EN_50 hAA4_2.1 (Nat.le_of_ble_eq_true rfl) rfl rfl nd_EN_turnReceiving_45 ?_
  refine hm_eqM (M' := hm_up Mp4_2 a (hm_ob 3 [va_rf bs', .ref q4, va_rf (some m0), .ref p, va_rf sc', .int (nI st), .int (nI bf), .ref q3, .int 0, .ref lk, .int (nI lf.length)])) rfl ?_
  generalize hM4_3 : hm_up Mp4_2 a (hm_ob 3 [va_rf bs', .ref q4, va_rf (some m0), .ref p, va_rf sc', .int (nI st), .int (nI bf), .ref q3, .int 0, .ref lk, .int (nI lf.length)]) = Mp4_3
  have hE4_3 : en_P D tm M F T G n c se (dr) [sm_t 1 mi 0, sm_sh mi k, sm_t 5 ro (sm_sh mi k), sm_t 4 ro (sm_sh mi k)] a lk Mp4_3 F4 T4 := by rw [← hM4_3]; exact hE4_2.put (Or.inl rfl) hAA4_2.2
  have hL4_3 : en_L D Mp4_3 F4 T4 lk f lf := by rw [← hM4_3]; exact hL4_2.put hAA4_2.1
  have hAA4_3 : hm_ow Mp4_3 F4 a (hm_ob 3 [va_rf bs', .ref q4, va_rf (some m0), .ref p, va_rf sc', .int (nI st), .int (nI bf), .ref q3, .int 0, .ref lk, .int (nI lf.length)]) := by rw [← hM4_3]; exact hAA4_2.self
  have htt4_3 : Mp4_3 tm = some (hm_ob 1 [.ref la4, .int (nI (dr)), .int (nI se)]) := by rw [← hM4_3, hm_up_n _ _ (hm_ne htt4_2 hAA4_2.1 (by decide))]; exact htt4_2
  refine hm_aload_n C nd_EN_turnReceiving_48 rfl ?_
  refine hm_null C nd_EN_turnReceiving_49 ?_
  refine hm_put C nF_EN_37 hAA4_3.1 (Nat.le_of_ble_eq_true rfl) rfl rfl nd_EN_turnReceiving_50 ?_
  refine hm_eqM (M' := hm_up Mp4_3 a (hm_ob 3 [va_rf bs', .ref q4, va_rf (some m0), .ref p, .null, .int (nI st), .int (nI bf), .ref q3, .int 0, .ref lk, .int (nI lf.length)])) rfl ?_
  generalize hM4_4 : hm_up Mp4_3 a (hm_ob 3 [va_rf bs', .ref q4, va_rf (some m0), .ref p, .null, .int (nI st), .int (nI bf), .ref q3, .int 0, .ref lk, .int (nI lf.length)]) = Mp4_4
  have hE4_4 : en_P D tm M F T G n c se (dr) [sm_t 1 mi 0, sm_sh mi k, sm_t 5 ro (sm_sh mi k), sm_t 4 ro (sm_sh mi k)] a lk Mp4_4 F4 T4 := by rw [← hM4_4]; exact hE4_3.put (Or.inl rfl) hAA4_3.2
  have hL4_4 : en_L D Mp4_4 F4 T4 lk f lf := by rw [← hM4_4]; exact hL4_3.put hAA4_3.1
  have hAA4_4 : hm_ow Mp4_4 F4 a (hm_ob 3 [va_rf bs', .ref q4, va_rf (some m0), .ref p, .null, .int (nI st), .int (nI bf), .ref q3, .int 0, .ref lk, .int (nI lf.length)]) := by rw [← hM4_4]; exact hAA4_3.self
  have htt4_4 : Mp4_4 tm = some (hm_ob 1 [.ref la4, .int (nI (dr)), .int (nI se)]) := by rw [← hM4_4, hm_up_n _ _ (hm_ne htt4_3 hAA4_3.1 (by decide))]; exact htt4_3
  exact hm_vret C E (by omega) (by omega) (⟨F4, T4, rfl, hE4_4, ⟨bs', some q4, some m0, some p, none, some q3, f, hAA4_4, ((o1.mono hP2.2.2.1).mono hP3.2.2.1).mono hP4.2.2.1, Or.inr ⟨q4, i4, rfl, hq4⟩, ((o3.mono hP2.2.2.1).mono hP3.2.2.1).mono hP4.2.2.1, Or.inr ⟨p, ip, rfl, hP4.2.2.1 _ _ _ (hP3.2.2.1 _ _ _ (hP2.2.2.1 _ _ _ hTp))⟩, ts_o_0, Or.inr ⟨q3, i3, rfl, hP4.2.2.1 _ _ _ hq3⟩, hL4_4⟩⟩) nd_EN_turnReceiving_53
set_option maxHeartbeats 4000000 in
set_option maxRecDepth 100000 in
theorem ct_EN_turnSending {l : Launch} {D : va_G} {BG : Nat → Option Cell} (M : hm_M) (tm : Nat) (F : Nat → Prop) (T : Nat → Nat → Nat → Prop) (G : Nat → Prop) (dr n c se : Nat) (hS : ts_S D M tm F T G dr n c se) (hcn : c ≤ 2 * n + 10) (hn : n ≤ 19800) (a lk bs ro mi th sc st bf rc nx : Nat) (lf : List (Nat × Nat × Nat)) (hR : en_R D M F T a lk bs ro mi th sc st bf rc nx lf) (k e : Nat) (hth : th = sm_t 1 k 0) (hk : k = sm_t 0 e 0) : hm_ct l D BG ny_EN_turnSending prog_2_method_4_code 3 none 10 244 (ts_kc (ts_k T) n c [sm_t 0 (dr + 1) 0, sm_t 1 (sm_t 0 (dr + 1) 0) 0, sm_sh (sm_t 0 (dr + 1) 0) k, sm_t 5 ro (sm_sh (sm_t 0 (dr + 1) 0) k), sm_t 4 ro (sm_sh (sm_t 0 (dr + 1) 0) k)]) (ts_ks (ts_k T) n c [sm_t 0 (dr + 1) 0, sm_t 1 (sm_t 0 (dr + 1) 0) 0, sm_sh (sm_t 0 (dr + 1) 0) k, sm_t 5 ro (sm_sh (sm_t 0 (dr + 1) 0) k), sm_t 4 ro (sm_sh (sm_t 0 (dr + 1) 0) k)]) [.ref a, .ref tm] M (fun r M' => ∃ F' T', r = none ∧ en_P D tm M F T G n c se (dr + 1) [sm_t 0 (dr + 1) 0, sm_t 1 (sm_t 0 (dr + 1) 0) 0, sm_sh (sm_t 0 (dr + 1) 0) k, sm_t 5 ro (sm_sh (sm_t 0 (dr + 1) 0) k), sm_t 4 ro (sm_sh (sm_t 0 (dr + 1) 0) k)] a lk M' F' T' ∧ en_R D M' F' T' a lk bs (sm_t 4 ro (sm_sh (sm_t 0 (dr + 1) 0) k)) (sm_t 0 (dr + 1) 0) th (sm_t 5 ro (sm_sh (sm_t 0 (dr + 1) 0) k)) 0 st rc nx lf) := by
  refine hm_ct_of (by decide +kernel) (by exact Nat.le_of_ble_eq_true rfl) ?_
  intro X C E
  have C : hm_C X l D BG prog_2_method_4_code "TurnedKeys$End" "turnSending" 3 10 244 (ts_kc (ts_k T) n c [sm_t 0 (dr + 1) 0, sm_t 1 (sm_t 0 (dr + 1) 0) 0, sm_sh (sm_t 0 (dr + 1) 0) k, sm_t 5 ro (sm_sh (sm_t 0 (dr + 1) 0) k), sm_t 4 ro (sm_sh (sm_t 0 (dr + 1) 0) k)]) (ts_ks (ts_k T) n c [sm_t 0 (dr + 1) 0, sm_t 1 (sm_t 0 (dr + 1) 0) 0, sm_sh (sm_t 0 (dr + 1) 0) k, sm_t 5 ro (sm_sh (sm_t 0 (dr + 1) 0) k), sm_t 4 ro (sm_sh (sm_t 0 (dr + 1) 0) k)]) := C
  refine hm_lv (lv' := [(0, .ref a), (1, .ref tm)]) rfl ?_
  obtain ⟨bs', ro', mi', th', sc', rc', f, hA, o1, o2, o3, o4, o5, o6, hL⟩ := hR
  obtain ⟨la0, ht0, -⟩ := ts_tm hS
  obtain ⟨p, ip, rfl, hTp⟩ := ts_o_so o4 (by rw [hth]; exact sm_t_ne _ _ _)
  rw [hth] at hTp
  have hE0 := en_P.rf (a := a) (lk := lk) hS
  have kz := ts_kz (ts_k T) n c
  have hb0 : _ ∧ _ ≤ n + 0 := hE0.bd hcn
  refine hm_aload_n C nd_EN_turnSending_0 rfl ?_
  refine hm_aload_n C nd_EN_turnSending_1 rfl ?_
  refine hm_get C nF_EN_40 hA.1 rfl nd_EN_turnSending_2 ?_
  refine hm_put C nF_EN_44 hA.1 (Nat.le_of_ble_eq_true rfl) rfl rfl nd_EN_turnSending_5 ?_
  refine hm_eqM (M' := hm_up M a (hm_ob 3 [va_rf bs', va_rf ro', va_rf mi', va_rf (some p), va_rf sc', .int (nI st), .int (nI st), va_rf rc', .int (nI nx), .ref lk, .int (nI lf.length)])) rfl ?_
  generalize hM0_1 : hm_up M a (hm_ob 3 [va_rf bs', va_rf ro', va_rf mi', va_rf (some p), va_rf sc', .int (nI st), .int (nI st), va_rf rc', .int (nI nx), .ref lk, .int (nI lf.length)]) = Mp0_1
  have hE0_1 : en_P D tm M F T G n c se (dr) [] a lk Mp0_1 F T := by rw [← hM0_1]; exact hE0.put (Or.inl rfl) hA.2
  have hL0_1 : en_L D Mp0_1 F T lk f lf := by rw [← hM0_1]; exact hL.put hA.1
  have hAA0_1 : hm_ow Mp0_1 F a (hm_ob 3 [va_rf bs', va_rf ro', va_rf mi', va_rf (some p), va_rf sc', .int (nI st), .int (nI st), va_rf rc', .int (nI nx), .ref lk, .int (nI lf.length)]) := by rw [← hM0_1]; exact hA.self
  have htt0_1 : Mp0_1 tm = some (hm_ob 1 [.ref la0, .int (nI (dr)), .int (nI se)]) := by rw [← hM0_1, hm_up_n _ _ (hm_ne ht0 hA.1 (by decide))]; exact ht0
  refine hm_aload_n C nd_EN_turnSending_8 rfl ?_
  refine hm_iconst (v := 0) C nd_EN_turnSending_9 (by decide) ?_
  refine hm_put C nF_EN_40 hAA0_1.1 (Nat.le_of_ble_eq_true rfl) rfl rfl nd_EN_turnSending_10 ?_
  refine hm_eqM (M' := hm_up Mp0_1 a (hm_ob 3 [va_rf bs', va_rf ro', va_rf mi', va_rf (some p), va_rf sc', .int 0, .int (nI st), va_rf rc', .int (nI nx), .ref lk, .int (nI lf.length)])) rfl ?_
  generalize hM0_2 : hm_up Mp0_1 a (hm_ob 3 [va_rf bs', va_rf ro', va_rf mi', va_rf (some p), va_rf sc', .int 0, .int (nI st), va_rf rc', .int (nI nx), .ref lk, .int (nI lf.length)]) = Mp0_2
  have hE0_2 : en_P D tm M F T G n c se (dr) [] a lk Mp0_2 F T := by rw [← hM0_2]; exact hE0_1.put (Or.inl rfl) hAA0_1.2
  have hL0_2 : en_L D Mp0_2 F T lk f lf := by rw [← hM0_2]; exact hL0_1.put hAA0_1.1
  have hAA0_2 : hm_ow Mp0_2 F a (hm_ob 3 [va_rf bs', va_rf ro', va_rf mi', va_rf (some p), va_rf sc', .int 0, .int (nI st), va_rf rc', .int (nI nx), .ref lk, .int (nI lf.length)]) := by rw [← hM0_2]; exact hAA0_1.self
  have htt0_2 : Mp0_2 tm = some (hm_ob 1 [.ref la0, .int (nI (dr)), .int (nI se)]) := by rw [← hM0_2, hm_up_n _ _ (hm_ne htt0_1 hAA0_1.1 (by decide))]; exact htt0_1
  refine hm_aload_n C nd_EN_turnSending_13 rfl ?_
  refine hm_aload_n C nd_EN_turnSending_14 rfl ?_
  have rm1 : ts_kc (ts_k T) n c [sm_t 0 (dr + 1) 0] = _ ∧ ts_ks (ts_k T) n c [sm_t 0 (dr + 1) 0] = _ := hE0_2.room [sm_t 0 (dr + 1) 0]
  have rl1 : _ ≤ ts_kc (ts_k T) n c [sm_t 0 (dr + 1) 0, sm_t 1 (sm_t 0 (dr + 1) 0) 0, sm_sh (sm_t 0 (dr + 1) 0) k, sm_t 5 ro (sm_sh (sm_t 0 (dr + 1) 0) k), sm_t 4 ro (sm_sh (sm_t 0 (dr + 1) 0) k)] ∧ _ ≤ ts_ks (ts_k T) n c [sm_t 0 (dr + 1) 0, sm_t 1 (sm_t 0 (dr + 1) 0) 0, sm_sh (sm_t 0 (dr + 1) 0) k, sm_t 5 ro (sm_sh (sm_t 0 (dr + 1) 0) k), sm_t 4 ro (sm_sh (sm_t 0 (dr + 1) 0) k)] := ts_kle [sm_t 0 (dr + 1) 0] [sm_t 1 (sm_t 0 (dr + 1) 0) 0, sm_sh (sm_t 0 (dr + 1) 0) k, sm_t 5 ro (sm_sh (sm_t 0 (dr + 1) 0) k), sm_t 4 ro (sm_sh (sm_t 0 (dr + 1) 0) k)] (ts_k T) n c
  refine hm_callV C (ct_TS_draw Mp0_2 tm F T G dr _ _ se hE0_2.1 (by omega)) nV_TS_draw [] rfl htt0_2 rfl nq_EN_56 nj_TS_draw nx_TS_draw rfl (rest := [.ref a]) rfl (Nat.le_of_ble_eq_true rfl) (by decide) (by decide) (by omega) (by omega) nd_EN_turnSending_15 (fun r M1 hp => ?_)
  obtain ⟨q1, F1, T1, rfl, hP1, hq1⟩ := hp
  have hE1 : en_P D tm M F T G n c se ((dr + 1)) [sm_t 0 (dr + 1) 0] a lk M1 F1 T1 := hE0_2.tr (hP1.en a lk)
  have hA1 := hAA0_2.step hP1.2.1
  have hL1 := hL0_2.step hP1.2.1 hP1.2.2.1
  have hb1 : _ ∧ _ ≤ n + 1 := hE1.bd hcn
  obtain ⟨la1, ht1, -⟩ := ts_tm hE1.1
  refine hm_stk (st' := [.ref q1, .ref a]) rfl ?_
  refine hm_put C nF_EN_24 hA1.1 (Nat.le_of_ble_eq_true rfl) rfl rfl nd_EN_turnSending_18 ?_
  refine hm_eqM (M' := hm_up M1 a (hm_ob 3 [va_rf bs', va_rf ro', .ref q1, va_rf (some p), va_rf sc', .int 0, .int (nI st), va_rf rc', .int (nI nx), .ref lk, .int (nI lf.length)])) rfl ?_
  generalize hM1_1 : hm_up M1 a (hm_ob 3 [va_rf bs', va_rf ro', .ref q1, va_rf (some p), va_rf sc', .int 0, .int (nI st), va_rf rc', .int (nI nx), .ref lk, .int (nI lf.length)]) = Mp1_1
  have hE1_1 : en_P D tm M F T G n c se ((dr + 1)) [sm_t 0 (dr + 1) 0] a lk Mp1_1 F1 T1 := by rw [← hM1_1]; exact hE1.put (Or.inl rfl) hA1.2
  have hL1_1 : en_L D Mp1_1 F1 T1 lk f lf := by rw [← hM1_1]; exact hL1.put hA1.1
  have hAA1_1 : hm_ow Mp1_1 F1 a (hm_ob 3 [va_rf bs', va_rf ro', .ref q1, va_rf (some p), va_rf sc', .int 0, .int (nI st), va_rf rc', .int (nI nx), .ref lk, .int (nI lf.length)]) := by rw [← hM1_1]; exact hA1.self
  have htt1_1 : Mp1_1 tm = some (hm_ob 1 [.ref la1, .int (nI ((dr + 1))), .int (nI se)]) := by rw [← hM1_1, hm_up_n _ _ (hm_ne ht1 hA1.1 (by decide))]; exact ht1
  refine hm_aload_n C nd_EN_turnSending_21 rfl ?_
  refine hm_aload_n C nd_EN_turnSending_22 rfl ?_
  refine hm_get C nF_EN_24 hAA1_1.1 rfl nd_EN_turnSending_23 ?_
  refine hm_aload_n C nd_EN_turnSending_26 rfl ?_
  refine hm_get C nF_EN_34 hAA1_1.1 rfl nd_EN_turnSending_27 ?_
  refine hm_stk (st' := [.ref p, .ref q1, .ref tm]) rfl ?_
  have rm3 : ts_kc (ts_k T) n c [sm_t 0 (dr + 1) 0, sm_t 1 (sm_t 0 (dr + 1) 0) 0, sm_sh (sm_t 0 (dr + 1) 0) k] = _ ∧ ts_ks (ts_k T) n c [sm_t 0 (dr + 1) 0, sm_t 1 (sm_t 0 (dr + 1) 0) 0, sm_sh (sm_t 0 (dr + 1) 0) k] = _ := hE1_1.room [sm_t 1 (sm_t 0 (dr + 1) 0) 0, sm_sh (sm_t 0 (dr + 1) 0) k]
  have rl3 : _ ≤ ts_kc (ts_k T) n c [sm_t 0 (dr + 1) 0, sm_t 1 (sm_t 0 (dr + 1) 0) 0, sm_sh (sm_t 0 (dr + 1) 0) k, sm_t 5 ro (sm_sh (sm_t 0 (dr + 1) 0) k), sm_t 4 ro (sm_sh (sm_t 0 (dr + 1) 0) k)] ∧ _ ≤ ts_ks (ts_k T) n c [sm_t 0 (dr + 1) 0, sm_t 1 (sm_t 0 (dr + 1) 0) 0, sm_sh (sm_t 0 (dr + 1) 0) k, sm_t 5 ro (sm_sh (sm_t 0 (dr + 1) 0) k), sm_t 4 ro (sm_sh (sm_t 0 (dr + 1) 0) k)] := ts_kle [sm_t 0 (dr + 1) 0, sm_t 1 (sm_t 0 (dr + 1) 0) 0, sm_sh (sm_t 0 (dr + 1) 0) k] [sm_t 5 ro (sm_sh (sm_t 0 (dr + 1) 0) k), sm_t 4 ro (sm_sh (sm_t 0 (dr + 1) 0) k)] (ts_k T) n c
  refine hm_callV C (ct_TS_sharedOf Mp1_1 tm F1 T1 G (dr + 1) _ _ se hE1_1.1 (by omega) (by omega) q1 _ (sm_t 0 (dr + 1) 0) (dr + 1) p ip k e hq1 rfl (hP1.2.2.1 _ _ _ hTp) hk) nV_TS_sharedOf [.ref q1, .ref p] rfl htt1_1 rfl nq_EN_62 nj_TS_sharedOf nx_TS_sharedOf rfl (rest := []) rfl (Nat.le_of_ble_eq_true rfl) (by decide) (by decide) (by omega) (by omega) nd_EN_turnSending_30 (fun r M2 hp => ?_)
  obtain ⟨q3, F3, T3, rfl, hP3, i3, hq3⟩ := hp
  have hE3 : en_P D tm M F T G n c se ((dr + 1)) [sm_t 0 (dr + 1) 0, sm_t 1 (sm_t 0 (dr + 1) 0) 0, sm_sh (sm_t 0 (dr + 1) 0) k] a lk M2 F3 T3 := hE1_1.tr (hP3.en a lk)
  have hA3 := hAA1_1.step hP3.2.1
  have hL3 := hL1_1.step hP3.2.1 hP3.2.2.1
  have hb3 : _ ∧ _ ≤ n + 3 := hE3.bd hcn
  obtain ⟨la3, ht3, -⟩ := ts_tm hE3.1
  refine hm_stk (st' := [.ref q3]) rfl ?_
  refine hm_astore_n C [(2, .ref q3), (0, .ref a), (1, .ref tm)] nd_EN_turnSending_33 (by decide) rfl ?_
  refine hm_aload_n C nd_EN_turnSending_34 rfl ?_
  refine hm_aload_n C nd_EN_turnSending_35 rfl ?_
  refine hm_iconst (v := 5) C nd_EN_turnSending_36 (by decide) ?_
  refine hm_aload_n C nd_EN_turnSending_37 rfl ?_
  refine hm_get C nF_EN_21 hA3.1 rfl nd_EN_turnSending_38 ?_
  refine hm_aload_n C nd_EN_turnSending_41 rfl ?_
  refine hm_stk (st' := [va_rf (some q3), va_rf ro', .int (nI 5), .ref tm, .ref a]) rfl ?_
  have rm4 : ts_kc (ts_k T) n c [sm_t 0 (dr + 1) 0, sm_t 1 (sm_t 0 (dr + 1) 0) 0, sm_sh (sm_t 0 (dr + 1) 0) k, sm_t 5 ro (sm_sh (sm_t 0 (dr + 1) 0) k)] = _ ∧ ts_ks (ts_k T) n c [sm_t 0 (dr + 1) 0, sm_t 1 (sm_t 0 (dr + 1) 0) 0, sm_sh (sm_t 0 (dr + 1) 0) k, sm_t 5 ro (sm_sh (sm_t 0 (dr + 1) 0) k)] = _ := hE3.room [sm_t 5 ro (sm_sh (sm_t 0 (dr + 1) 0) k)]
  have rl4 : _ ≤ ts_kc (ts_k T) n c [sm_t 0 (dr + 1) 0, sm_t 1 (sm_t 0 (dr + 1) 0) 0, sm_sh (sm_t 0 (dr + 1) 0) k, sm_t 5 ro (sm_sh (sm_t 0 (dr + 1) 0) k), sm_t 4 ro (sm_sh (sm_t 0 (dr + 1) 0) k)] ∧ _ ≤ ts_ks (ts_k T) n c [sm_t 0 (dr + 1) 0, sm_t 1 (sm_t 0 (dr + 1) 0) 0, sm_sh (sm_t 0 (dr + 1) 0) k, sm_t 5 ro (sm_sh (sm_t 0 (dr + 1) 0) k), sm_t 4 ro (sm_sh (sm_t 0 (dr + 1) 0) k)] := ts_kle [sm_t 0 (dr + 1) 0, sm_t 1 (sm_t 0 (dr + 1) 0) 0, sm_sh (sm_t 0 (dr + 1) 0) k, sm_t 5 ro (sm_sh (sm_t 0 (dr + 1) 0) k)] [sm_t 4 ro (sm_sh (sm_t 0 (dr + 1) 0) k)] (ts_k T) n c
  refine hm_callV C (ct_TS_made M2 tm F3 T3 G (dr + 1) _ _ se hE3.1 (by omega) 5 ro (sm_sh (sm_t 0 (dr + 1) 0) k) ro' (some q3) ((o2.mono hP1.2.2.1).mono hP3.2.2.1) (Or.inr ⟨_, _, rfl, hq3⟩) (fun h => by cases h.2) (by omega) (by omega) (fun h => by omega) (fun h => by omega)) nV_TS_made [.int (nI 5), va_rf ro', va_rf (some q3)] rfl ht3 rfl nq_EN_66 nj_TS_made nx_TS_made rfl (rest := [.ref a]) rfl (Nat.le_of_ble_eq_true rfl) (by decide) (by decide) (by omega) (by omega) nd_EN_turnSending_42 (fun r M3 hp => ?_)
  obtain ⟨q4, F4, T4, rfl, hP4, ⟨i4, hq4⟩, hn4⟩ := hp
  have hE4 : en_P D tm M F T G n c se ((dr + 1)) [sm_t 0 (dr + 1) 0, sm_t 1 (sm_t 0 (dr + 1) 0) 0, sm_sh (sm_t 0 (dr + 1) 0) k, sm_t 5 ro (sm_sh (sm_t 0 (dr + 1) 0) k)] a lk M3 F4 T4 := hE3.tr (hP4.en a lk)
  have hA4 := hA3.step hP4.2.1
  have hL4 := hL3.step hP4.2.1 hP4.2.2.1
  have hb4 : _ ∧ _ ≤ n + 4 := hE4.bd hcn
  obtain ⟨la4, ht4, -⟩ := ts_tm hE4.1
  refine hm_stk (st' := [.ref q4, .ref a]) rfl ?_
  refine hm_put C nF_EN_37 hA4.1 (Nat.le_of_ble_eq_true rfl) rfl rfl nd_EN_turnSending_45 ?_
  refine hm_eqM (M' := hm_up M3 a (hm_ob 3 [va_rf bs', va_rf ro', .ref q1, va_rf (some p), .ref q4, .int 0, .int (nI st), va_rf rc', .int (nI nx), .ref lk, .int (nI lf.length)])) rfl ?_
  generalize hM4_1 : hm_up M3 a (hm_ob 3 [va_rf bs', va_rf ro', .ref q1, va_rf (some p), .ref q4, .int 0, .int (nI st), va_rf rc', .int (nI nx), .ref lk, .int (nI lf.length)]) = Mp4_1
  have hE4_1 : en_P D tm M F T G n c se ((dr + 1)) [sm_t 0 (dr + 1) 0, sm_t 1 (sm_t 0 (dr + 1) 0) 0, sm_sh (sm_t 0 (dr + 1) 0) k, sm_t 5 ro (sm_sh (sm_t 0 (dr + 1) 0) k)] a lk Mp4_1 F4 T4 := by rw [← hM4_1]; exact hE4.put (Or.inl rfl) hA4.2
  have hL4_1 : en_L D Mp4_1 F4 T4 lk f lf := by rw [← hM4_1]; exact hL4.put hA4.1
  have hAA4_1 : hm_ow Mp4_1 F4 a (hm_ob 3 [va_rf bs', va_rf ro', .ref q1, va_rf (some p), .ref q4, .int 0, .int (nI st), va_rf rc', .int (nI nx), .ref lk, .int (nI lf.length)]) := by rw [← hM4_1]; exact hA4.self
  have htt4_1 : Mp4_1 tm = some (hm_ob 1 [.ref la4, .int (nI ((dr + 1))), .int (nI se)]) := by rw [← hM4_1, hm_up_n _ _ (hm_ne ht4 hA4.1 (by decide))]; exact ht4
  refine hm_aload_n C nd_EN_turnSending_48 rfl ?_
  refine hm_aload_n C nd_EN_turnSending_49 rfl ?_
  refine hm_iconst (v := 4) C nd_EN_turnSending_50 (by decide) ?_
  refine hm_aload_n C nd_EN_turnSending_51 rfl ?_
  refine hm_get C nF_EN_21 hAA4_1.1 rfl nd_EN_turnSending_52 ?_
  refine hm_aload_n C nd_EN_turnSending_55 rfl ?_
  refine hm_stk (st' := [va_rf (some q3), va_rf ro', .int (nI 4), .ref tm, .ref a]) rfl ?_
  have rm5 : ts_kc (ts_k T) n c [sm_t 0 (dr + 1) 0, sm_t 1 (sm_t 0 (dr + 1) 0) 0, sm_sh (sm_t 0 (dr + 1) 0) k, sm_t 5 ro (sm_sh (sm_t 0 (dr + 1) 0) k), sm_t 4 ro (sm_sh (sm_t 0 (dr + 1) 0) k)] = _ ∧ ts_ks (ts_k T) n c [sm_t 0 (dr + 1) 0, sm_t 1 (sm_t 0 (dr + 1) 0) 0, sm_sh (sm_t 0 (dr + 1) 0) k, sm_t 5 ro (sm_sh (sm_t 0 (dr + 1) 0) k), sm_t 4 ro (sm_sh (sm_t 0 (dr + 1) 0) k)] = _ := hE4_1.room [sm_t 4 ro (sm_sh (sm_t 0 (dr + 1) 0) k)]
  have rl5 : _ ≤ ts_kc (ts_k T) n c [sm_t 0 (dr + 1) 0, sm_t 1 (sm_t 0 (dr + 1) 0) 0, sm_sh (sm_t 0 (dr + 1) 0) k, sm_t 5 ro (sm_sh (sm_t 0 (dr + 1) 0) k), sm_t 4 ro (sm_sh (sm_t 0 (dr + 1) 0) k)] ∧ _ ≤ ts_ks (ts_k T) n c [sm_t 0 (dr + 1) 0, sm_t 1 (sm_t 0 (dr + 1) 0) 0, sm_sh (sm_t 0 (dr + 1) 0) k, sm_t 5 ro (sm_sh (sm_t 0 (dr + 1) 0) k), sm_t 4 ro (sm_sh (sm_t 0 (dr + 1) 0) k)] := ts_kle [sm_t 0 (dr + 1) 0, sm_t 1 (sm_t 0 (dr + 1) 0) 0, sm_sh (sm_t 0 (dr + 1) 0) k, sm_t 5 ro (sm_sh (sm_t 0 (dr + 1) 0) k), sm_t 4 ro (sm_sh (sm_t 0 (dr + 1) 0) k)] [] (ts_k T) n c
  refine hm_callV C (ct_TS_made Mp4_1 tm F4 T4 G (dr + 1) _ _ se hE4_1.1 (by omega) 4 ro (sm_sh (sm_t 0 (dr + 1) 0) k) ro' (some q3) (((o2.mono hP1.2.2.1).mono hP3.2.2.1).mono hP4.2.2.1) (Or.inr ⟨_, _, rfl, hP4.2.2.1 _ _ _ hq3⟩) (fun h => by cases h.2) (by omega) (by omega) (fun h => by omega) (fun h => by omega)) nV_TS_made [.int (nI 4), va_rf ro', va_rf (some q3)] rfl htt4_1 rfl nq_EN_66 nj_TS_made nx_TS_made rfl (rest := [.ref a]) rfl (Nat.le_of_ble_eq_true rfl) (by decide) (by decide) (by omega) (by omega) nd_EN_turnSending_56 (fun r M4 hp => ?_)
  obtain ⟨q5, F5, T5, rfl, hP5, ⟨i5, hq5⟩, hn5⟩ := hp
  have hE5 : en_P D tm M F T G n c se ((dr + 1)) [sm_t 0 (dr + 1) 0, sm_t 1 (sm_t 0 (dr + 1) 0) 0, sm_sh (sm_t 0 (dr + 1) 0) k, sm_t 5 ro (sm_sh (sm_t 0 (dr + 1) 0) k), sm_t 4 ro (sm_sh (sm_t 0 (dr + 1) 0) k)] a lk M4 F5 T5 := hE4_1.tr (hP5.en a lk)
  have hA5 := hAA4_1.step hP5.2.1
  have hL5 := hL4_1.step hP5.2.1 hP5.2.2.1
  have hb5 : _ ∧ _ ≤ n + 5 := hE5.bd hcn
  obtain ⟨la5, ht5, -⟩ := ts_tm hE5.1
  refine hm_stk (st' := [.ref q5, .ref a]) rfl ?_
  refine hm_put C nF_EN_21 hA5.1 (Nat.le_of_ble_eq_true rfl) rfl rfl nd_EN_turnSending_59 ?_
  refine hm_eqM (M' := hm_up M4 a (hm_ob 3 [va_rf bs', .ref q5, .ref q1, va_rf (some p), .ref q4, .int 0, .int (nI st), va_rf rc', .int (nI nx), .ref lk, .int (nI lf.length)])) rfl ?_
  generalize hM5_1 : hm_up M4 a (hm_ob 3 [va_rf bs', .ref q5, .ref q1, va_rf (some p), .ref q4, .int 0, .int (nI st), va_rf rc', .int (nI nx), .ref lk, .int (nI lf.length)]) = Mp5_1
  have hE5_1 : en_P D tm M F T G n c se ((dr + 1)) [sm_t 0 (dr + 1) 0, sm_t 1 (sm_t 0 (dr + 1) 0) 0, sm_sh (sm_t 0 (dr + 1) 0) k, sm_t 5 ro (sm_sh (sm_t 0 (dr + 1) 0) k), sm_t 4 ro (sm_sh (sm_t 0 (dr + 1) 0) k)] a lk Mp5_1 F5 T5 := by rw [← hM5_1]; exact hE5.put (Or.inl rfl) hA5.2
  have hL5_1 : en_L D Mp5_1 F5 T5 lk f lf := by rw [← hM5_1]; exact hL5.put hA5.1
  have hAA5_1 : hm_ow Mp5_1 F5 a (hm_ob 3 [va_rf bs', .ref q5, .ref q1, va_rf (some p), .ref q4, .int 0, .int (nI st), va_rf rc', .int (nI nx), .ref lk, .int (nI lf.length)]) := by rw [← hM5_1]; exact hA5.self
  have htt5_1 : Mp5_1 tm = some (hm_ob 1 [.ref la5, .int (nI ((dr + 1))), .int (nI se)]) := by rw [← hM5_1, hm_up_n _ _ (hm_ne ht5 hA5.1 (by decide))]; exact ht5
  exact hm_vret C E (by omega) (by omega) (⟨F5, T5, rfl, hE5_1, ⟨bs', some q5, some q1, some p, some q4, rc', f, hAA5_1, (((o1.mono hP1.2.2.1).mono hP3.2.2.1).mono hP4.2.2.1).mono hP5.2.2.1, Or.inr ⟨q5, i5, rfl, hq5⟩, Or.inr ⟨q1, _, rfl, hP5.2.2.1 _ _ _ (hP4.2.2.1 _ _ _ (hP3.2.2.1 _ _ _ hq1))⟩, (((o4.mono hP1.2.2.1).mono hP3.2.2.1).mono hP4.2.2.1).mono hP5.2.2.1, Or.inr ⟨q4, i4, rfl, hP5.2.2.1 _ _ _ hq4⟩, (((o6.mono hP1.2.2.1).mono hP3.2.2.1).mono hP4.2.2.1).mono hP5.2.2.1, hL5_1⟩⟩) nd_EN_turnSending_62
