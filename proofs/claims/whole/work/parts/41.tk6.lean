def sp_c : Nat := sm_t 0 1 0
def sp_p : Nat := sm_t 0 2 0
def sp_r : Nat := sm_t 0 3 0
def sp_E0 : Nat → sp_E := fun i => if i = 0 ∨ i = 2 then (sm_t 4 sp_c (sm_sh sp_r sp_p), sp_r, sm_t 1 sp_p 0, sm_t 5 sp_c (sm_sh sp_r sp_p), 0, 0, 0, 0, []) else (sp_c, sp_p, 0, 0, 0, 0, 0, 0, [])
theorem ts_kb (vs : List Nat) (K : Nat → Prop) (n c : Nat) (hc : c ≤ 2 * n + 10) (hn : n + vs.length ≤ 10) : ts_kc K n c vs ≤ 40 ∧ ts_ks K n c vs ≤ 200 := by
  have h := ts_r_bd vs K n c hc
  unfold ts_kc ts_ks
  exact ⟨by omega, by omega⟩
theorem ts_S0 {D : va_G} {M : hm_M} {tm q : Nat} (h1 : M tm = some (hm_ob 1 [.ref q, .int 0, .int 0])) (h2 : M q = some (hm_ob 0 [.ref (D.2 999 0), .int 0, .int 0])) : ∃ F T, ts_S D M tm F T (fun _ => False) 0 0 0 0 ∧ (∀ a, F a → a = tm ∨ a = q) := by
  refine ⟨_, _, ⟨q, D.2 999 0, fun _ => 0, fun _ => 0, fun _ => none, fun _ => none, fun _ => none, fun _ => none, fun _ => none, fun _ => false, fun _ => 0, ⟨h1, ⟨0, h2, Nat.le_refl _, Or.inl ⟨rfl, rfl⟩⟩, fun i hi => by omega, by decide⟩, ⟨fun i hi => by omega, fun i hi => by omega, fun i hi => by omega, ⟨fun i hi => by omega, fun i hi => by omega, fun i j h1 h2 => by omega, fun i j h1 => by omega⟩, ⟨Nat.le_refl _, fun i hi => by omega, fun v h => h.elim, fun i hi => by omega, fun i hi => by omega⟩⟩, rfl, rfl⟩, fun a ha => ?_⟩
  rcases ha with h | h | ⟨-, h⟩ | ⟨i, h, -⟩
  · exact Or.inl h
  · exact Or.inr h
  · exact absurd rfl h
  · omega
set_option maxHeartbeats 4000000 in
set_option maxRecDepth 100000 in
theorem ct_TS_init {l : Launch} {D : va_G} {BG : Nat → Option Cell} (M : hm_M) (tm : Nat) (ht : M tm = some (hm_ob 1 [.null, .int 0, .int 0])) : hm_ct l D BG ny_TS_init prog_5_method_1_code 1 none 4 72 1 3 [.ref tm] M (fun r M' => ∃ q : Nat, r = none ∧ M q = none ∧ M' = hm_up (hm_up M q (hm_ob 0 [.ref (D.2 999 0), .int 0, .int 0])) tm (hm_ob 1 [.ref q, .int 0, .int 0])) := by
  refine hm_ct_of (by decide +kernel) (by exact Nat.le_of_ble_eq_true rfl) ?_
  intro X C E
  have C : hm_C X l D BG prog_5_method_1_code "TurnedKeys$Terms" "<init>" 1 4 72 1 3 := C
  refine hm_lv (lv' := [(0, .ref tm)]) rfl ?_
  refine hm_aload_n C nd_TS_init_0 rfl ?_
  refine hm_objInit C nq_TS_3 nj_OJ_init nm_OJ_init (by decide) (by decide) nd_TS_init_1 ?_
  refine hm_aload_n C nd_TS_init_4 rfl ?_
  refine hm_newN C 3 nB_TS_9 rfl (by omega) (by omega) nd_TS_init_5 (fun q hq_q => ?_)
  generalize hM1 : hm_up M q (hm_ob 0 [.null, .int 0, .int 0]) = M1
  have fM1_0 : M1 tm = some (hm_ob 1 [.null, .int 0, .int 0]) := by rw [← hM1, hm_up_n _ _ (hm_neF ht hq_q)]; exact ht
  have fM1_1 : M1 q = some (hm_ob 0 [.null, .int 0, .int 0]) := by rw [← hM1]; exact hm_up_s _ _ _
  refine hm_dup C nd_TS_init_8 rfl ?_
  refine hm_callI C (ct_AL_init M1 q 0 0 fM1_1) nV_AL_init rfl nq_TS_11 nj_AL_init [] rfl rfl (rest := [.ref q, .ref tm]) rfl (Nat.le_of_ble_eq_true rfl) (by decide) (by decide) (by omega) (by omega) nd_TS_init_9 (fun r M2 hp => ?_)
  obtain ⟨rfl, hM2⟩ := hp
  refine hm_stk (st' := [.ref q, .ref tm]) rfl ?_
  have hqt : tm ≠ q := hm_neF ht hq_q
  have ht2 : M2 tm = some (hm_ob 1 [.null, .int 0, .int 0]) := by rw [hM2, hm_up_n _ _ hqt]; exact fM1_0
  refine hm_putF C nF_TS_12 ht2 (Nat.le_of_ble_eq_true rfl) rfl rfl nd_TS_init_12 ?_
  refine hm_eqM (M' := hm_up M2 tm (hm_ob 1 [.ref q, .int 0, .int 0])) rfl ?_
  generalize hM3 : hm_up M2 tm (hm_ob 1 [.ref q, .int 0, .int 0]) = M3
  have fM3_0 : M3 tm = some (hm_ob 1 [.ref q, .int 0, .int 0]) := by rw [← hM3]; exact hm_up_s _ _ _
  exact hm_vret C E (by omega) (by omega) (⟨q, rfl, hq_q, by rw [← hM3, hM2, ← hM1, hm_up_up]⟩) nd_TS_init_15
set_option maxHeartbeats 4000000 in
set_option maxRecDepth 100000 in
theorem ct_TK_init {l : Launch} {D : va_G} {BG : Nat → Option Cell} (M : hm_M) (x : Nat) (hx0 : M x = some (hm_ob 6 [.null, .null, .null, .null, .null, .int 0])) : hm_ct l D BG ny_TK_init prog_1_method_1_code 9 none 10 244 600 3000 [.ref x] M (fun r M' => r = none ∧ ∃ n c, n ≤ 10 ∧ c ≤ 2 * n + 10 ∧ tk_R D M' x n c 0 0 4 sp_E0 [] (fun _ => False)) := by
  refine hm_ct_of (by decide +kernel) (by exact Nat.le_of_ble_eq_true rfl) ?_
  intro X C E
  have C : hm_C X l D BG prog_1_method_1_code "TurnedKeys" "<init>" 9 10 244 600 3000 := C
  refine hm_lv (lv' := [(0, .ref x)]) rfl ?_
  refine hm_aload_n C nd_TK_init_0 rfl ?_
  refine hm_objInit C nq_TK_1 nj_OJ_init nm_OJ_init (by decide) (by decide) nd_TK_init_1 ?_
  refine hm_aload_n C nd_TK_init_4 rfl ?_
  refine hm_newN C 3 nB_TK_7 rfl (by omega) (by omega) nd_TK_init_5 (fun tm hq_tm => ?_)
  generalize hM1 : hm_up M tm (hm_ob 1 [.null, .int 0, .int 0]) = M1
  have fM1_0 : M1 x = some (hm_ob 6 [.null, .null, .null, .null, .null, .int 0]) := by rw [← hM1, hm_up_n _ _ (hm_neF hx0 hq_tm)]; exact hx0
  have fM1_1 : M1 tm = some (hm_ob 1 [.null, .int 0, .int 0]) := by rw [← hM1]; exact hm_up_s _ _ _
  refine hm_dup C nd_TK_init_8 rfl ?_
  refine hm_callIN C (ct_TS_init M1 tm fM1_1) nV_TS_init rfl nq_TK_9 nj_TS_init [] rfl rfl (rest := [.ref tm, .ref x]) rfl (Nat.le_of_ble_eq_true rfl) (by decide) (by decide) (by omega) (by omega) nd_TK_init_9 (fun r M2 hp => ?_)
  obtain ⟨la, rfl, hla, hM2⟩ := hp
  refine hm_stk (st' := [.ref tm, .ref x]) rfl ?_
  have hxt : x ≠ tm := hm_neF hx0 hq_tm
  have hxl : x ≠ la := hm_neF fM1_0 hla
  have hx2 : M2 x = some (hm_ob 6 [.null, .null, .null, .null, .null, .int 0]) := by rw [hM2, hm_up_n _ _ hxt, hm_up_n _ _ hxl]; exact fM1_0
  have htl : la ≠ tm := fun z => by rw [z, fM1_1] at hla; cases hla
  have h2t : M2 tm = some (hm_ob 1 [.ref la, .int 0, .int 0]) := by rw [hM2]; exact hm_up_s _ _ _
  have h2l : M2 la = some (hm_ob 0 [.ref (D.2 999 0), .int 0, .int 0]) := by rw [hM2, hm_up_n _ _ htl]; exact hm_up_s _ _ _
  obtain ⟨F, T, hS, hFF⟩ := ts_S0 h2t h2l
  have hxF : ¬ F x := fun z => by rcases hFF x z with q | q; exact hxt q; exact hxl q
  refine hm_putF C nF_TK_10 hx2 (Nat.le_of_ble_eq_true rfl) rfl rfl nd_TK_init_12 ?_
  refine hm_eqM (M' := hm_up M2 x (hm_ob 6 [.ref tm, .null, .null, .null, .null, .int 0])) rfl ?_
  generalize hM3 : hm_up M2 x (hm_ob 6 [.ref tm, .null, .null, .null, .null, .int 0]) = M3
  have fM3_0 : M3 x = some (hm_ob 6 [.ref tm, .null, .null, .null, .null, .int 0]) := by rw [← hM3]; exact hm_up_s _ _ _
  have hS : ts_S D M3 tm F T (fun _ => False) 0 0 0 0 := by rw [← hM3]; exact hS.put hxF _
  have hx : hm_ow M3 F x (hm_ob 6 [.ref tm, .null, .null, .null, .null, .int 0]) := ⟨fM3_0, hxF⟩
  obtain ⟨n, hn0⟩ : ∃ n, n = 0 := ⟨0, rfl⟩
  obtain ⟨c, hc0⟩ : ∃ c, c = 0 := ⟨0, rfl⟩
  have hS : ts_S D M3 tm F T (fun _ => False) 0 n c 0 := by rw [hn0, hc0]; exact hS
  have hn : n ≤ 0 := by omega
  have hcn : c ≤ 2 * n + 10 := by omega
  clear hFF hxF
  obtain ⟨la0, ht0, -⟩ := ts_tm hS
  refine hm_aload_n C nd_TK_init_15 rfl ?_
  refine hm_get C nF_TK_10 hx.1 rfl nd_TK_init_16 ?_
  have hTx : True := trivial
  have kb := ts_kb [sm_t 0 (0 + 1) 0] (ts_k T) n c hcn (by simp only [List.length_cons, List.length_nil]; omega)
  refine hm_callV C (ct_TS_draw M3 tm F T (fun _ => False) 0 n c 0 hS (by omega)) nV_TS_draw [] rfl ht0 rfl nq_TK_16 nj_TS_draw nx_TS_draw rfl (rest := []) rfl (Nat.le_of_ble_eq_true rfl) (by decide) (by decide) (by omega) (by omega) nd_TK_init_19 (fun r M4 hp => ?_)
  obtain ⟨tc, F1, T1, rfl, hP, hTtc⟩ := hp
  have hbd := ts_r_bd [sm_t 0 (0 + 1) 0] (ts_k T) n c hcn
  simp only [List.length_cons, List.length_nil] at hbd
  have hS := hP.1
  have hx := hx.step hP.2.1
  
  generalize (ts_r (ts_k T) n c [sm_t 0 (0 + 1) 0]).1 = n1 at hS hbd
  generalize (ts_r (ts_k T) n c [sm_t 0 (0 + 1) 0]).2 = c1 at hS hbd
  have hn : n1 ≤ 1 := by omega
  have hcn : c1 ≤ 2 * n1 + 10 := hbd.1
  clear hP hbd
  refine hm_stk (st' := [.ref tc]) rfl ?_
  refine hm_widen (k' := 60) (n' := 250) (by omega) (by omega) ?_
  clear kb
  obtain ⟨la1, ht1, -⟩ := ts_tm hS
  refine hm_astore_n C [(1, .ref tc), (0, .ref x)] nd_TK_init_22 (by decide) rfl ?_
  refine hm_aload_n C nd_TK_init_23 rfl ?_
  refine hm_get C nF_TK_10 hx.1 rfl nd_TK_init_24 ?_
  have hTx : True := trivial
  have kb := ts_kb [sm_t 0 (1 + 1) 0] (ts_k T1) n1 c1 hcn (by simp only [List.length_cons, List.length_nil]; omega)
  refine hm_callV C (ct_TS_draw M4 tm F1 T1 (fun _ => False) 1 n1 c1 0 hS (by omega)) nV_TS_draw [] rfl ht1 rfl nq_TK_16 nj_TS_draw nx_TS_draw rfl (rest := []) rfl (Nat.le_of_ble_eq_true rfl) (by decide) (by decide) (by omega) (by omega) nd_TK_init_27 (fun r M5 hp => ?_)
  obtain ⟨tp, F2, T2, rfl, hP, hTtp⟩ := hp
  have hbd := ts_r_bd [sm_t 0 (1 + 1) 0] (ts_k T1) n1 c1 hcn
  simp only [List.length_cons, List.length_nil] at hbd
  have hS := hP.1
  have hx := hx.step hP.2.1
  have hTtc := hP.2.2.1 _ _ _ hTtc
  
  generalize (ts_r (ts_k T1) n1 c1 [sm_t 0 (1 + 1) 0]).1 = n2 at hS hbd
  generalize (ts_r (ts_k T1) n1 c1 [sm_t 0 (1 + 1) 0]).2 = c2 at hS hbd
  have hn : n2 ≤ 2 := by omega
  have hcn : c2 ≤ 2 * n2 + 10 := hbd.1
  clear hP hbd
  refine hm_stk (st' := [.ref tp]) rfl ?_
  refine hm_widen (k' := 120) (n' := 500) (by omega) (by omega) ?_
  clear kb
  obtain ⟨la2, ht2, -⟩ := ts_tm hS
  refine hm_astore_n C [(2, .ref tp), (1, .ref tc), (0, .ref x)] nd_TK_init_30 (by decide) rfl ?_
  refine hm_aload_n C nd_TK_init_31 rfl ?_
  refine hm_get C nF_TK_10 hx.1 rfl nd_TK_init_32 ?_
  have hTx : True := trivial
  have kb := ts_kb [sm_t 0 (2 + 1) 0] (ts_k T2) n2 c2 hcn (by simp only [List.length_cons, List.length_nil]; omega)
  refine hm_callV C (ct_TS_draw M5 tm F2 T2 (fun _ => False) 2 n2 c2 0 hS (by omega)) nV_TS_draw [] rfl ht2 rfl nq_TK_16 nj_TS_draw nx_TS_draw rfl (rest := []) rfl (Nat.le_of_ble_eq_true rfl) (by decide) (by decide) (by omega) (by omega) nd_TK_init_35 (fun r M6 hp => ?_)
  obtain ⟨tr, F3, T3, rfl, hP, hTtr⟩ := hp
  have hbd := ts_r_bd [sm_t 0 (2 + 1) 0] (ts_k T2) n2 c2 hcn
  simp only [List.length_cons, List.length_nil] at hbd
  have hS := hP.1
  have hx := hx.step hP.2.1
  have hTtc := hP.2.2.1 _ _ _ hTtc
  have hTtp := hP.2.2.1 _ _ _ hTtp
  
  generalize (ts_r (ts_k T2) n2 c2 [sm_t 0 (2 + 1) 0]).1 = n3 at hS hbd
  generalize (ts_r (ts_k T2) n2 c2 [sm_t 0 (2 + 1) 0]).2 = c3 at hS hbd
  have hn : n3 ≤ 3 := by omega
  have hcn : c3 ≤ 2 * n3 + 10 := hbd.1
  clear hP hbd
  refine hm_stk (st' := [.ref tr]) rfl ?_
  refine hm_widen (k' := 180) (n' := 750) (by omega) (by omega) ?_
  clear kb
  obtain ⟨la3, ht3, -⟩ := ts_tm hS
  refine hm_astore_n C [(3, .ref tr), (2, .ref tp), (1, .ref tc), (0, .ref x)] nd_TK_init_38 (by decide) rfl ?_
  refine hm_aload_n C nd_TK_init_39 rfl ?_
  refine hm_get C nF_TK_10 hx.1 rfl nd_TK_init_40 ?_
  refine hm_aload_n C nd_TK_init_43 rfl ?_
  refine hm_get C nF_TK_10 hx.1 rfl nd_TK_init_44 ?_
  have hTx : True := trivial
  have kb := ts_kb [sm_t 0 (3 + 1) 0] (ts_k T3) n3 c3 hcn (by simp only [List.length_cons, List.length_nil]; omega)
  refine hm_callV C (ct_TS_draw M6 tm F3 T3 (fun _ => False) 3 n3 c3 0 hS (by omega)) nV_TS_draw [] rfl ht3 rfl nq_TK_16 nj_TS_draw nx_TS_draw rfl (rest := [.ref tm]) rfl (Nat.le_of_ble_eq_true rfl) (by decide) (by decide) (by omega) (by omega) nd_TK_init_47 (fun r M7 hp => ?_)
  obtain ⟨te, F4, T4, rfl, hP, hTte⟩ := hp
  have hbd := ts_r_bd [sm_t 0 (3 + 1) 0] (ts_k T3) n3 c3 hcn
  simp only [List.length_cons, List.length_nil] at hbd
  have hS := hP.1
  have hx := hx.step hP.2.1
  have hTtc := hP.2.2.1 _ _ _ hTtc
  have hTtp := hP.2.2.1 _ _ _ hTtp
  have hTtr := hP.2.2.1 _ _ _ hTtr
  
  generalize (ts_r (ts_k T3) n3 c3 [sm_t 0 (3 + 1) 0]).1 = n4 at hS hbd
  generalize (ts_r (ts_k T3) n3 c3 [sm_t 0 (3 + 1) 0]).2 = c4 at hS hbd
  have hn : n4 ≤ 4 := by omega
  have hcn : c4 ≤ 2 * n4 + 10 := hbd.1
  clear hP hbd
  refine hm_stk (st' := [.ref te, .ref tm]) rfl ?_
  refine hm_widen (k' := 240) (n' := 1000) (by omega) (by omega) ?_
  clear kb
  obtain ⟨la4, ht4, -⟩ := ts_tm hS
  have kb := ts_kb [sm_t 1 (sm_t 0 4 0) 0] (ts_k T4) n4 c4 hcn (by simp only [List.length_cons, List.length_nil]; omega)
  refine hm_callV C (ct_TS_publicOf M7 tm F4 T4 (fun _ => False) 4 n4 c4 0 hS (by omega) te _ (sm_t 0 4 0) 4 hTte rfl) nV_TS_publicOf [.ref te] rfl ht4 rfl nq_TK_20 nj_TS_publicOf nx_TS_publicOf rfl (rest := []) rfl (Nat.le_of_ble_eq_true rfl) (by decide) (by decide) (by omega) (by omega) nd_TK_init_50 (fun r M8 hp => ?_)
  obtain ⟨tb, F5, T5, rfl, hP, itb, hTtb⟩ := hp
  have hbd := ts_r_bd [sm_t 1 (sm_t 0 4 0) 0] (ts_k T4) n4 c4 hcn
  simp only [List.length_cons, List.length_nil] at hbd
  have hS := hP.1
  have hx := hx.step hP.2.1
  have hTtc := hP.2.2.1 _ _ _ hTtc
  have hTtp := hP.2.2.1 _ _ _ hTtp
  have hTtr := hP.2.2.1 _ _ _ hTtr
  have hTte := hP.2.2.1 _ _ _ hTte
  
  generalize (ts_r (ts_k T4) n4 c4 [sm_t 1 (sm_t 0 4 0) 0]).1 = n5 at hS hbd
  generalize (ts_r (ts_k T4) n4 c4 [sm_t 1 (sm_t 0 4 0) 0]).2 = c5 at hS hbd
  have hn : n5 ≤ 5 := by omega
  have hcn : c5 ≤ 2 * n5 + 10 := hbd.1
  clear hP hbd
  refine hm_stk (st' := [.ref tb]) rfl ?_
  refine hm_widen (k' := 300) (n' := 1250) (by omega) (by omega) ?_
  clear kb
  obtain ⟨la5, ht5, -⟩ := ts_tm hS
  refine hm_astore C [(4, .ref tb), (3, .ref tr), (2, .ref tp), (1, .ref tc), (0, .ref x)] nd_TK_init_53 (by decide) rfl ?_
  refine hm_aload_n C nd_TK_init_55 rfl ?_
  refine hm_get C nF_TK_10 hx.1 rfl nd_TK_init_56 ?_
  refine hm_aload_n C nd_TK_init_59 rfl ?_
  have kb := ts_kb [sm_t 1 (sm_t 0 2 0) 0] (ts_k T5) n5 c5 hcn (by simp only [List.length_cons, List.length_nil]; omega)
  refine hm_callV C (ct_TS_publicOf M8 tm F5 T5 (fun _ => False) 4 n5 c5 0 hS (by omega) tp _ (sm_t 0 2 0) 2 hTtp rfl) nV_TS_publicOf [.ref tp] rfl ht5 rfl nq_TK_20 nj_TS_publicOf nx_TS_publicOf rfl (rest := []) rfl (Nat.le_of_ble_eq_true rfl) (by decide) (by decide) (by omega) (by omega) nd_TK_init_60 (fun r M9 hp => ?_)
  obtain ⟨tq, F6, T6, rfl, hP, itq, hTtq⟩ := hp
  have hbd := ts_r_bd [sm_t 1 (sm_t 0 2 0) 0] (ts_k T5) n5 c5 hcn
  simp only [List.length_cons, List.length_nil] at hbd
  have hS := hP.1
  have hx := hx.step hP.2.1
  have hTtc := hP.2.2.1 _ _ _ hTtc
  have hTtp := hP.2.2.1 _ _ _ hTtp
  have hTtr := hP.2.2.1 _ _ _ hTtr
  have hTte := hP.2.2.1 _ _ _ hTte
  have hTtb := hP.2.2.1 _ _ _ hTtb
  
  generalize (ts_r (ts_k T5) n5 c5 [sm_t 1 (sm_t 0 2 0) 0]).1 = n6 at hS hbd
  generalize (ts_r (ts_k T5) n5 c5 [sm_t 1 (sm_t 0 2 0) 0]).2 = c6 at hS hbd
  have hn : n6 ≤ 6 := by omega
  have hcn : c6 ≤ 2 * n6 + 10 := hbd.1
  clear hP hbd
  refine hm_stk (st' := [.ref tq]) rfl ?_
  refine hm_widen (k' := 360) (n' := 1500) (by omega) (by omega) ?_
  clear kb
  obtain ⟨la6, ht6, -⟩ := ts_tm hS
  refine hm_astore C [(5, .ref tq), (4, .ref tb), (3, .ref tr), (2, .ref tp), (1, .ref tc), (0, .ref x)] nd_TK_init_63 (by decide) rfl ?_
  refine hm_aload_n C nd_TK_init_65 rfl ?_
  refine hm_get C nF_TK_10 hx.1 rfl nd_TK_init_66 ?_
  refine hm_aload_n C nd_TK_init_69 rfl ?_
  refine hm_aload C nd_TK_init_70 rfl ?_
  have kb := ts_kb [sm_t 1 (sm_t 0 3 0) 0, sm_sh (sm_t 0 3 0) (sm_t 0 2 0)] (ts_k T6) n6 c6 hcn (by simp only [List.length_cons, List.length_nil]; omega)
  refine hm_callV C (ct_TS_sharedOf M9 tm F6 T6 (fun _ => False) 4 n6 c6 0 hS hcn (by omega) tr _ (sm_t 0 3 0) 3 tq itq (sm_t 0 2 0) 2 hTtr rfl hTtq rfl) nV_TS_sharedOf [.ref tr, .ref tq] rfl ht6 rfl nq_TK_24 nj_TS_sharedOf nx_TS_sharedOf rfl (rest := []) rfl (Nat.le_of_ble_eq_true rfl) (by decide) (by decide) (by omega) (by omega) nd_TK_init_72 (fun r M10 hp => ?_)
  obtain ⟨ts, F7, T7, rfl, hP, its, hTts⟩ := hp
  have hbd := ts_r_bd [sm_t 1 (sm_t 0 3 0) 0, sm_sh (sm_t 0 3 0) (sm_t 0 2 0)] (ts_k T6) n6 c6 hcn
  simp only [List.length_cons, List.length_nil] at hbd
  have hS := hP.1
  have hx := hx.step hP.2.1
  have hTtc := hP.2.2.1 _ _ _ hTtc
  have hTtp := hP.2.2.1 _ _ _ hTtp
  have hTtr := hP.2.2.1 _ _ _ hTtr
  have hTte := hP.2.2.1 _ _ _ hTte
  have hTtb := hP.2.2.1 _ _ _ hTtb
  have hTtq := hP.2.2.1 _ _ _ hTtq
  
  generalize (ts_r (ts_k T6) n6 c6 [sm_t 1 (sm_t 0 3 0) 0, sm_sh (sm_t 0 3 0) (sm_t 0 2 0)]).1 = n7 at hS hbd
  generalize (ts_r (ts_k T6) n6 c6 [sm_t 1 (sm_t 0 3 0) 0, sm_sh (sm_t 0 3 0) (sm_t 0 2 0)]).2 = c7 at hS hbd
  have hn : n7 ≤ 8 := by omega
  have hcn : c7 ≤ 2 * n7 + 10 := hbd.1
  clear hP hbd
  refine hm_stk (st' := [.ref ts]) rfl ?_
  refine hm_widen (k' := 420) (n' := 1750) (by omega) (by omega) ?_
  clear kb
  obtain ⟨la7, ht7, -⟩ := ts_tm hS
  refine hm_astore C [(6, .ref ts), (5, .ref tq), (4, .ref tb), (3, .ref tr), (2, .ref tp), (1, .ref tc), (0, .ref x)] nd_TK_init_75 (by decide) rfl ?_
  refine hm_newN C 11 nB_TK_28 rfl (by omega) (by omega) nd_TK_init_77 (fun q0 hq_q0 => ?_)
  generalize hMq0 : hm_up M10 q0 (hm_ob 3 [.null, .null, .null, .null, .null, .int 0, .int 0, .null, .int 0, .null, .int 0]) = M11
  have hFq0 : ¬ F7 q0 := fun z => ts_S_some hS z hq_q0
  have hmnq0 : ∀ z, M10 z ≠ none → M11 z = M10 z := fun z hz => by rw [← hMq0, hm_up_n _ _ (fun y => hz (by rw [y]; exact hq_q0))]
  have hS : ts_S D M11 tm F7 T7 (fun _ => False) 4 n7 c7 0 := by rw [← hMq0]; exact hS.put hFq0 _
  have hx := hx.step (hm_step.mn hmnq0)
  have hz : hm_ow M11 F7 q0 (hm_ob 3 [.null, .null, .null, .null, .null, .int 0, .int 0, .null, .int 0, .null, .int 0]) := ⟨by rw [← hMq0]; exact hm_up_s _ _ _, hFq0⟩
  obtain ⟨la8, ht8, -⟩ := ts_tm hS
  refine hm_dup C nd_TK_init_80 rfl ?_
  refine hm_aload C nd_TK_init_81 rfl ?_
  refine hm_aload_n C nd_TK_init_83 rfl ?_
  refine hm_get C nF_TK_10 hx.1 rfl nd_TK_init_84 ?_
  refine hm_iconst (v := 4) C nd_TK_init_87 (by decide) ?_
  refine hm_aload_n C nd_TK_init_88 rfl ?_
  refine hm_aload C nd_TK_init_89 rfl ?_
  refine hm_stk (st' := [va_rf (some ts), va_rf (some tc), .int (nI 4), .ref tm, .ref tb, .ref q0, .ref q0]) rfl ?_
  have kb := ts_kb [sm_t 4 (sm_t 0 1 0) (sm_sh (sm_t 0 3 0) (sm_t 0 2 0))] (ts_k T7) n7 c7 hcn (by simp only [List.length_cons, List.length_nil]; omega)
  refine hm_callV C (ct_TS_made M11 tm F7 T7 (fun _ => False) 4 n7 c7 0 hS (by omega) 4 (sm_t 0 1 0) (sm_sh (sm_t 0 3 0) (sm_t 0 2 0)) (some tc) (some ts) (Or.inr ⟨tc, _, rfl, hTtc⟩) (Or.inr ⟨ts, its, rfl, hTts⟩) (fun z => by cases z.1) (by decide) (by decide) (fun z => absurd z (by decide)) (fun z => absurd z (by decide))) nV_TS_made [.int (nI 4), va_rf (some tc), va_rf (some ts)] rfl ht8 rfl nq_TK_30 nj_TS_made nx_TS_made rfl (rest := [.ref tb, .ref q0, .ref q0]) rfl (Nat.le_of_ble_eq_true rfl) (by decide) (by decide) (by omega) (by omega) nd_TK_init_91 (fun r M12 hp => ?_)
  obtain ⟨ta, F9, T9, rfl, hP, ⟨ita, hTta⟩, -⟩ := hp
  have hbd := ts_r_bd [sm_t 4 (sm_t 0 1 0) (sm_sh (sm_t 0 3 0) (sm_t 0 2 0))] (ts_k T7) n7 c7 hcn
  simp only [List.length_cons, List.length_nil] at hbd
  have hS := hP.1
  have hx := hx.step hP.2.1
  have hTtc := hP.2.2.1 _ _ _ hTtc
  have hTtp := hP.2.2.1 _ _ _ hTtp
  have hTtr := hP.2.2.1 _ _ _ hTtr
  have hTte := hP.2.2.1 _ _ _ hTte
  have hTtb := hP.2.2.1 _ _ _ hTtb
  have hTtq := hP.2.2.1 _ _ _ hTtq
  have hTts := hP.2.2.1 _ _ _ hTts
  have hz := hz.step hP.2.1
  
  generalize (ts_r (ts_k T7) n7 c7 [sm_t 4 (sm_t 0 1 0) (sm_sh (sm_t 0 3 0) (sm_t 0 2 0))]).1 = n9 at hS hbd
  generalize (ts_r (ts_k T7) n7 c7 [sm_t 4 (sm_t 0 1 0) (sm_sh (sm_t 0 3 0) (sm_t 0 2 0))]).2 = c9 at hS hbd
  have hn : n9 ≤ 9 := by omega
  have hcn : c9 ≤ 2 * n9 + 10 := hbd.1
  clear hP hbd
  refine hm_stk (st' := [.ref ta, .ref tb, .ref q0, .ref q0]) rfl ?_
  refine hm_widen (k' := 480) (n' := 2000) (by omega) (by omega) ?_
  clear kb
  obtain ⟨la9, ht9, -⟩ := ts_tm hS
  refine hm_aload_n C nd_TK_init_94 rfl ?_
  refine hm_stk (st' := [.ref tr, .ref ta, .ref tb, .ref q0, .ref q0]) rfl ?_
  refine hm_callI C (ct_EN_init M12 q0 (some tb) (some ta) (some tr) hz.1) nV_EN_init rfl nq_TK_34 nj_EN_init [va_rf (some tb), va_rf (some ta), va_rf (some tr)] rfl rfl (rest := [.ref q0]) rfl (Nat.le_of_ble_eq_true rfl) (by decide) (by decide) (by omega) (by omega) nd_TK_init_95 (fun r M13 hp => ?_)
  obtain ⟨lq0, rfl, hlq0, hMq0i⟩ := hp
  have hql : q0 ≠ lq0 := hm_neF hz.1 hlq0
  have hFl : ¬ F9 lq0 := fun z => ts_S_some hS z hlq0
  have hnq0 : ∀ z, z ≠ q0 → z ≠ lq0 → M13 z = M12 z := fun z z1 z2 => by rw [hMq0i, hm_up_n _ _ z1, hm_up_n _ _ z2]
  have hsp : hm_step M12 (en_F F9 q0 lq0) M13 (en_F F9 q0 lq0) := ⟨fun z hz _ => hnq0 z (fun y => hz (Or.inr (Or.inl y))) (fun y => hz (Or.inr (Or.inr y))), fun _ y => Or.inl y⟩
  have hS : ts_S D M13 tm F9 T9 (fun _ => False) 4 n9 c9 0 := hS.same (fun z hzz => hnq0 z (fun y => hz.2 (y ▸ hzz)) (fun y => hFl (y ▸ hzz)))
  have hx := hx.en hsp (hm_ne hx.1 hz.1 (by decide)) (hm_neF hx.1 hlq0)
  have hlk0 : hm_ow M13 F9 lq0 (hm_ar D 2 8 (fun _ => none)) := ⟨by rw [hMq0i, hm_up_n _ _ (Ne.symm hql)]; exact hm_up_s _ _ _, hFl⟩
  have hz : hm_ow M13 F9 q0 (hm_ob 3 [.ref tb, .ref ta, .ref tr, .null, .null, .int 0, .int 0, .null, .int 0, .ref lq0, .int 0]) := ⟨by rw [hMq0i]; exact hm_up_s _ _ _, hz.2⟩
  refine hm_stk (st' := [.ref q0]) rfl ?_
  obtain ⟨la10, ht10, -⟩ := ts_tm hS
  refine hm_astore C [(7, .ref q0), (6, .ref ts), (5, .ref tq), (4, .ref tb), (3, .ref tr), (2, .ref tp), (1, .ref tc), (0, .ref x)] nd_TK_init_98 (by decide) rfl ?_
  refine hm_aload C nd_TK_init_100 rfl ?_
  refine hm_aload C nd_TK_init_102 rfl ?_
  refine hm_put C nF_TK_37 hz.1 (Nat.le_of_ble_eq_true rfl) rfl rfl nd_TK_init_104 ?_
  refine hm_eqM (M' := hm_up M13 q0 (hm_ob 3 [.ref tb, .ref ta, .ref tr, .ref tq, .null, .int 0, .int 0, .null, .int 0, .ref lq0, .int 0])) rfl ?_
  generalize hMp : hm_up M13 q0 (hm_ob 3 [.ref tb, .ref ta, .ref tr, .ref tq, .null, .int 0, .int 0, .null, .int 0, .ref lq0, .int 0]) = M14
  have hsp : hm_step M13 (en_F F9 q0 q0) M14 (en_F F9 q0 q0) := ⟨fun z hz' _ => by rw [← hMp, hm_up_n _ _ (fun y => hz' (Or.inr (Or.inl y)))], fun _ y => Or.inl y⟩
  have hS : ts_S D M14 tm F9 T9 (fun _ => False) 4 n9 c9 0 := by rw [← hMp]; exact hS.put hz.2 _
  have hx := hx.en hsp (hm_ne hx.1 hz.1 (by decide)) (hm_ne hx.1 hz.1 (by decide))
  have hlk0 := hlk0.en hsp (Ne.symm (hm_neA hz.1 hlk0.1)) (Ne.symm (hm_neA hz.1 hlk0.1))
  have hz : hm_ow M14 F9 q0 (hm_ob 3 [.ref tb, .ref ta, .ref tr, .ref tq, .null, .int 0, .int 0, .null, .int 0, .ref lq0, .int 0]) := ⟨by rw [← hMp]; exact hm_up_s _ _ _, hz.2⟩
  clear hMp
  obtain ⟨la11, ht11, -⟩ := ts_tm hS
  refine hm_aload C nd_TK_init_107 rfl ?_
  refine hm_aload_n C nd_TK_init_109 rfl ?_
  refine hm_get C nF_TK_10 hx.1 rfl nd_TK_init_110 ?_
  refine hm_iconst (v := 5) C nd_TK_init_113 (by decide) ?_
  refine hm_aload_n C nd_TK_init_114 rfl ?_
  refine hm_aload C nd_TK_init_115 rfl ?_
  refine hm_stk (st' := [va_rf (some ts), va_rf (some tc), .int (nI 5), .ref tm, .ref q0]) rfl ?_
  have kb := ts_kb [sm_t 5 (sm_t 0 1 0) (sm_sh (sm_t 0 3 0) (sm_t 0 2 0))] (ts_k T9) n9 c9 hcn (by simp only [List.length_cons, List.length_nil]; omega)
  refine hm_callV C (ct_TS_made M14 tm F9 T9 (fun _ => False) 4 n9 c9 0 hS (by omega) 5 (sm_t 0 1 0) (sm_sh (sm_t 0 3 0) (sm_t 0 2 0)) (some tc) (some ts) (Or.inr ⟨tc, _, rfl, hTtc⟩) (Or.inr ⟨ts, its, rfl, hTts⟩) (fun z => by cases z.1) (by decide) (by decide) (fun z => absurd z (by decide)) (fun z => absurd z (by decide))) nV_TS_made [.int (nI 5), va_rf (some tc), va_rf (some ts)] rfl ht11 rfl nq_TK_30 nj_TS_made nx_TS_made rfl (rest := [.ref q0]) rfl (Nat.le_of_ble_eq_true rfl) (by decide) (by decide) (by omega) (by omega) nd_TK_init_117 (fun r M15 hp => ?_)
  obtain ⟨tz, F12, T12, rfl, hP, ⟨itz, hTtz⟩, -⟩ := hp
  have hbd := ts_r_bd [sm_t 5 (sm_t 0 1 0) (sm_sh (sm_t 0 3 0) (sm_t 0 2 0))] (ts_k T9) n9 c9 hcn
  simp only [List.length_cons, List.length_nil] at hbd
  have hS := hP.1
  have hx := hx.step hP.2.1
  have hTtc := hP.2.2.1 _ _ _ hTtc
  have hTtp := hP.2.2.1 _ _ _ hTtp
  have hTtr := hP.2.2.1 _ _ _ hTtr
  have hTte := hP.2.2.1 _ _ _ hTte
  have hTtb := hP.2.2.1 _ _ _ hTtb
  have hTtq := hP.2.2.1 _ _ _ hTtq
  have hTts := hP.2.2.1 _ _ _ hTts
  have hTta := hP.2.2.1 _ _ _ hTta
  have hz := hz.step hP.2.1
  have hlk0 := hlk0.step hP.2.1
  
  generalize (ts_r (ts_k T9) n9 c9 [sm_t 5 (sm_t 0 1 0) (sm_sh (sm_t 0 3 0) (sm_t 0 2 0))]).1 = n12 at hS hbd
  generalize (ts_r (ts_k T9) n9 c9 [sm_t 5 (sm_t 0 1 0) (sm_sh (sm_t 0 3 0) (sm_t 0 2 0))]).2 = c12 at hS hbd
  have hn : n12 ≤ 10 := by omega
  have hcn : c12 ≤ 2 * n12 + 10 := hbd.1
  clear hP hbd
  refine hm_stk (st' := [.ref tz, .ref q0]) rfl ?_
  refine hm_widen (k' := 540) (n' := 2250) (by omega) (by omega) ?_
  clear kb
  obtain ⟨la12, ht12, -⟩ := ts_tm hS
  refine hm_put C nF_TK_41 hz.1 (Nat.le_of_ble_eq_true rfl) rfl rfl nd_TK_init_120 ?_
  refine hm_eqM (M' := hm_up M15 q0 (hm_ob 3 [.ref tb, .ref ta, .ref tr, .ref tq, .ref tz, .int 0, .int 0, .null, .int 0, .ref lq0, .int 0])) rfl ?_
  generalize hMp : hm_up M15 q0 (hm_ob 3 [.ref tb, .ref ta, .ref tr, .ref tq, .ref tz, .int 0, .int 0, .null, .int 0, .ref lq0, .int 0]) = M16
  have hsp : hm_step M15 (en_F F12 q0 q0) M16 (en_F F12 q0 q0) := ⟨fun z hz' _ => by rw [← hMp, hm_up_n _ _ (fun y => hz' (Or.inr (Or.inl y)))], fun _ y => Or.inl y⟩
  have hS : ts_S D M16 tm F12 T12 (fun _ => False) 4 n12 c12 0 := by rw [← hMp]; exact hS.put hz.2 _
  have hx := hx.en hsp (hm_ne hx.1 hz.1 (by decide)) (hm_ne hx.1 hz.1 (by decide))
  have hlk0 := hlk0.en hsp (Ne.symm (hm_neA hz.1 hlk0.1)) (Ne.symm (hm_neA hz.1 hlk0.1))
  have hz : hm_ow M16 F12 q0 (hm_ob 3 [.ref tb, .ref ta, .ref tr, .ref tq, .ref tz, .int 0, .int 0, .null, .int 0, .ref lq0, .int 0]) := ⟨by rw [← hMp]; exact hm_up_s _ _ _, hz.2⟩
  clear hMp
  obtain ⟨la13, ht13, -⟩ := ts_tm hS
  have hR0 : sp_R D M16 F12 T12 q0 lq0 (sp_E0 0) := ⟨some tb, some ta, some tr, some tq, some tz, none, (fun _ => none), hz, Or.inr ⟨_, _, rfl, hTtb⟩, Or.inr ⟨_, _, rfl, hTta⟩, Or.inr ⟨_, _, rfl, hTtr⟩, Or.inr ⟨_, _, rfl, hTtq⟩, Or.inr ⟨_, _, rfl, hTtz⟩, ts_o_0, hlk0, Nat.zero_le _, fun i y hy => (by cases hy), fun _ _ => rfl⟩
  refine hm_newN C 11 nB_TK_28 rfl (by omega) (by omega) nd_TK_init_123 (fun q1 hq_q1 => ?_)
  have hq01 : q0 ≠ q1 := by obtain ⟨⟨vs9, h9⟩, -⟩ := hR0.ob; exact hm_neF h9.1 hq_q1
  generalize hMq1 : hm_up M16 q1 (hm_ob 3 [.null, .null, .null, .null, .null, .int 0, .int 0, .null, .int 0, .null, .int 0]) = M17
  have hFq1 : ¬ F12 q1 := fun z => ts_S_some hS z hq_q1
  have hmnq1 : ∀ z, M16 z ≠ none → M17 z = M16 z := fun z hz => by rw [← hMq1, hm_up_n _ _ (fun y => hz (by rw [y]; exact hq_q1))]
  have hS : ts_S D M17 tm F12 T12 (fun _ => False) 4 n12 c12 0 := by rw [← hMq1]; exact hS.put hFq1 _
  have hx := hx.step (hm_step.mn hmnq1)
  have hz : hm_ow M17 F12 q1 (hm_ob 3 [.null, .null, .null, .null, .null, .int 0, .int 0, .null, .int 0, .null, .int 0]) := ⟨by rw [← hMq1]; exact hm_up_s _ _ _, hFq1⟩
  obtain ⟨la14, ht14, -⟩ := ts_tm hS
  have hR0 := hR0.mn hmnq1
  refine hm_dup C nd_TK_init_126 rfl ?_
  refine hm_aload C nd_TK_init_127 rfl ?_
  refine hm_aload_n C nd_TK_init_129 rfl ?_
  refine hm_aload_n C nd_TK_init_130 rfl ?_
  refine hm_stk (st' := [.ref tp, .ref tc, .ref tb, .ref q1, .ref q1]) rfl ?_
  refine hm_callI C (ct_EN_init M17 q1 (some tb) (some tc) (some tp) hz.1) nV_EN_init rfl nq_TK_34 nj_EN_init [va_rf (some tb), va_rf (some tc), va_rf (some tp)] rfl rfl (rest := [.ref q1]) rfl (Nat.le_of_ble_eq_true rfl) (by decide) (by decide) (by omega) (by omega) nd_TK_init_131 (fun r M18 hp => ?_)
  obtain ⟨lq1, rfl, hlq1, hMq1i⟩ := hp
  have hql : q1 ≠ lq1 := hm_neF hz.1 hlq1
  have hFl : ¬ F12 lq1 := fun z => ts_S_some hS z hlq1
  have hnq1 : ∀ z, z ≠ q1 → z ≠ lq1 → M18 z = M17 z := fun z z1 z2 => by rw [hMq1i, hm_up_n _ _ z1, hm_up_n _ _ z2]
  have hsp : hm_step M17 (en_F F12 q1 lq1) M18 (en_F F12 q1 lq1) := ⟨fun z hz _ => hnq1 z (fun y => hz (Or.inr (Or.inl y))) (fun y => hz (Or.inr (Or.inr y))), fun _ y => Or.inl y⟩
  have hS : ts_S D M18 tm F12 T12 (fun _ => False) 4 n12 c12 0 := hS.same (fun z hzz => hnq1 z (fun y => hz.2 (y ▸ hzz)) (fun y => hFl (y ▸ hzz)))
  have hx := hx.en hsp (hm_ne hx.1 hz.1 (by decide)) (hm_neF hx.1 hlq1)
  have hl01 : lq0 ≠ lq1 := fun y => by obtain ⟨-, ⟨f9, h9⟩⟩ := hR0.ob; have h8 := h9.1; rw [y, hlq1] at h8; cases h8
  have hQ1 : sp_R D M18 F12 T12 q1 lq1 (sp_E0 1) := ⟨some tb, some tc, some tp, none, none, none, (fun _ => none), ⟨by rw [hMq1i]; exact hm_up_s _ _ _, hz.2⟩, Or.inr ⟨_, _, rfl, hTtb⟩, Or.inr ⟨_, _, rfl, hTtc⟩, Or.inr ⟨_, _, rfl, hTtp⟩, ts_o_0, ts_o_0, ts_o_0, ⟨by rw [hMq1i, hm_up_n _ _ (Ne.symm hql)]; exact hm_up_s _ _ _, hFl⟩, Nat.zero_le _, fun i y hy => (by cases hy), fun _ _ => rfl⟩
  have hR0 : sp_R D M18 F12 T12 q0 lq0 (sp_E0 0) := by
    obtain ⟨c1, c2, c3, c4, c5, c6, g, hA, o1, o2, o3, o4, o5, o6, hL⟩ := hR0
    refine ⟨c1, c2, c3, c4, c5, c6, g, hA.en hsp hq01 (hm_neF hA.1 hlq1), o1, o2, o3, o4, o5, o6, hL.1.en hsp (Ne.symm (hm_neA hz.1 hL.1.1)) hl01, hL.2.1, fun i y hy => (by cases hy), hL.2.2.2⟩
  refine hm_stk (st' := [.ref q1]) rfl ?_
  obtain ⟨la15, ht15, -⟩ := ts_tm hS
  refine hm_astore C [(8, .ref q1), (7, .ref q0), (6, .ref ts), (5, .ref tq), (4, .ref tb), (3, .ref tr), (2, .ref tp), (1, .ref tc), (0, .ref x)] nd_TK_init_134 (by decide) rfl ?_
  refine hm_aload_n C nd_TK_init_136 rfl ?_
  refine hm_iconst (v := 2) C nd_TK_init_137 (by decide) ?_
  refine hm_anew (t := 1) (N := 2) C rfl nc_TK_28 nr_EN (by decide) (by omega) (by omega) (by omega) nd_TK_init_138 (fun ea hq_ea => ?_)
  generalize hMea : hm_up M18 ea (hm_ar D 1 2 (fun _ => none)) = M19
  have hFea : ¬ F12 ea := fun z => ts_S_some hS z hq_ea
  have hmnea : ∀ z, M18 z ≠ none → M19 z = M18 z := fun z hz => by rw [← hMea, hm_up_n _ _ (fun y => hz (by rw [y]; exact hq_ea))]
  have hS : ts_S D M19 tm F12 T12 (fun _ => False) 4 n12 c12 0 := by rw [← hMea]; exact hS.put hFea _
  have hx := hx.step (hm_step.mn hmnea)
  have hR0 := hR0.mn hmnea
  have hQ1 := hQ1.mn hmnea
  have haea : hm_ow M19 F12 ea (hm_ar D 1 2 (fun _ => none)) := ⟨by rw [← hMea]; exact hm_up_s _ _ _, hFea⟩
  obtain ⟨la16, ht16, -⟩ := ts_tm hS
  refine hm_dup C nd_TK_init_141 rfl ?_
  refine hm_iconst (v := 0) C nd_TK_init_142 (by decide) ?_
  refine hm_aload C nd_TK_init_143 rfl ?_
  obtain ⟨⟨vs9, h9⟩, -⟩ := hR0.ob
  refine hm_aast (t := 1) (j := 0) C rfl haea.1 h9.1 rfl (Or.inl rfl) rfl (by decide) (by decide) nd_TK_init_145 ?_
  clear h9
  generalize hMp : hm_up M19 ea (hm_ar D 1 2 (va_up (fun _ => none) 0 (some q0))) = M20
  have hsp : hm_step M19 (en_F F12 ea ea) M20 (en_F F12 ea ea) := ⟨fun z hz' _ => by rw [← hMp, hm_up_n _ _ (fun y => hz' (Or.inr (Or.inl y)))], fun _ y => Or.inl y⟩
  have hS : ts_S D M20 tm F12 T12 (fun _ => False) 4 n12 c12 0 := by rw [← hMp]; exact hS.put haea.2 _
  have hR0 : sp_R D M20 F12 T12 q0 lq0 (sp_E0 0) := by
    obtain ⟨c1, c2, c3, c4, c5, c6, g, hA, o1, o2, o3, o4, o5, o6, hL⟩ := hR0
    exact ⟨c1, c2, c3, c4, c5, c6, g, hA.en hsp (hm_neA hA.1 haea.1) (hm_neA hA.1 haea.1), o1, o2, o3, o4, o5, o6, hL.1.en hsp (hm_neN hL.1.1 haea.1 (by decide)) (hm_neN hL.1.1 haea.1 (by decide)), hL.2.1, fun i y hy => (by cases hy), hL.2.2.2⟩
  have hQ1 : sp_R D M20 F12 T12 q1 lq1 (sp_E0 1) := by
    obtain ⟨c1, c2, c3, c4, c5, c6, g, hA, o1, o2, o3, o4, o5, o6, hL⟩ := hQ1
    exact ⟨c1, c2, c3, c4, c5, c6, g, hA.en hsp (hm_neA hA.1 haea.1) (hm_neA hA.1 haea.1), o1, o2, o3, o4, o5, o6, hL.1.en hsp (hm_neN hL.1.1 haea.1 (by decide)) (hm_neN hL.1.1 haea.1 (by decide)), hL.2.1, fun i y hy => (by cases hy), hL.2.2.2⟩
  have hx := hx.en hsp (hm_neA hx.1 haea.1) (hm_neA hx.1 haea.1)
  have haea : hm_ow M20 F12 ea (hm_ar D 1 2 (va_up (fun _ => none) 0 (some q0))) := ⟨by rw [← hMp]; exact hm_up_s _ _ _, haea.2⟩
  clear hMp
  obtain ⟨la17, ht17, -⟩ := ts_tm hS
  refine hm_dup C nd_TK_init_146 rfl ?_
  refine hm_iconst (v := 1) C nd_TK_init_147 (by decide) ?_
  refine hm_aload C nd_TK_init_148 rfl ?_
  obtain ⟨⟨vs9, h9⟩, -⟩ := hQ1.ob
  refine hm_aast (t := 1) (j := 1) C rfl haea.1 h9.1 rfl (Or.inl rfl) rfl (by decide) (by decide) nd_TK_init_150 ?_
  clear h9
  generalize hMp : hm_up M20 ea (hm_ar D 1 2 (va_up (va_up (fun _ => none) 0 (some q0)) 1 (some q1))) = M21
  have hsp : hm_step M20 (en_F F12 ea ea) M21 (en_F F12 ea ea) := ⟨fun z hz' _ => by rw [← hMp, hm_up_n _ _ (fun y => hz' (Or.inr (Or.inl y)))], fun _ y => Or.inl y⟩
  have hS : ts_S D M21 tm F12 T12 (fun _ => False) 4 n12 c12 0 := by rw [← hMp]; exact hS.put haea.2 _
  have hR0 : sp_R D M21 F12 T12 q0 lq0 (sp_E0 0) := by
    obtain ⟨c1, c2, c3, c4, c5, c6, g, hA, o1, o2, o3, o4, o5, o6, hL⟩ := hR0
    exact ⟨c1, c2, c3, c4, c5, c6, g, hA.en hsp (hm_neA hA.1 haea.1) (hm_neA hA.1 haea.1), o1, o2, o3, o4, o5, o6, hL.1.en hsp (hm_neN hL.1.1 haea.1 (by decide)) (hm_neN hL.1.1 haea.1 (by decide)), hL.2.1, fun i y hy => (by cases hy), hL.2.2.2⟩
  have hQ1 : sp_R D M21 F12 T12 q1 lq1 (sp_E0 1) := by
    obtain ⟨c1, c2, c3, c4, c5, c6, g, hA, o1, o2, o3, o4, o5, o6, hL⟩ := hQ1
    exact ⟨c1, c2, c3, c4, c5, c6, g, hA.en hsp (hm_neA hA.1 haea.1) (hm_neA hA.1 haea.1), o1, o2, o3, o4, o5, o6, hL.1.en hsp (hm_neN hL.1.1 haea.1 (by decide)) (hm_neN hL.1.1 haea.1 (by decide)), hL.2.1, fun i y hy => (by cases hy), hL.2.2.2⟩
  have hx := hx.en hsp (hm_neA hx.1 haea.1) (hm_neA hx.1 haea.1)
  have haea : hm_ow M21 F12 ea (hm_ar D 1 2 (va_up (va_up (fun _ => none) 0 (some q0)) 1 (some q1))) := ⟨by rw [← hMp]; exact hm_up_s _ _ _, haea.2⟩
  clear hMp
  obtain ⟨la18, ht18, -⟩ := ts_tm hS
  refine hm_putF C nF_TK_44 hx.1 (Nat.le_of_ble_eq_true rfl) rfl rfl nd_TK_init_151 ?_
  refine hm_eqM (M' := hm_up M21 x (hm_ob 6 [.ref tm, .ref ea, .null, .null, .null, .int 0])) rfl ?_
  generalize hMp : hm_up M21 x (hm_ob 6 [.ref tm, .ref ea, .null, .null, .null, .int 0]) = M22
  have hsp : hm_step M21 (en_F F12 x x) M22 (en_F F12 x x) := ⟨fun z hz' _ => by rw [← hMp, hm_up_n _ _ (fun y => hz' (Or.inr (Or.inl y)))], fun _ y => Or.inl y⟩
  have hS : ts_S D M22 tm F12 T12 (fun _ => False) 4 n12 c12 0 := by rw [← hMp]; exact hS.put hx.2 _
  have hR0 : sp_R D M22 F12 T12 q0 lq0 (sp_E0 0) := by
    obtain ⟨c1, c2, c3, c4, c5, c6, g, hA, o1, o2, o3, o4, o5, o6, hL⟩ := hR0
    exact ⟨c1, c2, c3, c4, c5, c6, g, hA.en hsp (hm_ne hA.1 hx.1 (by decide)) (hm_ne hA.1 hx.1 (by decide)), o1, o2, o3, o4, o5, o6, hL.1.en hsp (Ne.symm (hm_neA hx.1 hL.1.1)) (Ne.symm (hm_neA hx.1 hL.1.1)), hL.2.1, fun i y hy => (by cases hy), hL.2.2.2⟩
  have hQ1 : sp_R D M22 F12 T12 q1 lq1 (sp_E0 1) := by
    obtain ⟨c1, c2, c3, c4, c5, c6, g, hA, o1, o2, o3, o4, o5, o6, hL⟩ := hQ1
    exact ⟨c1, c2, c3, c4, c5, c6, g, hA.en hsp (hm_ne hA.1 hx.1 (by decide)) (hm_ne hA.1 hx.1 (by decide)), o1, o2, o3, o4, o5, o6, hL.1.en hsp (Ne.symm (hm_neA hx.1 hL.1.1)) (Ne.symm (hm_neA hx.1 hL.1.1)), hL.2.1, fun i y hy => (by cases hy), hL.2.2.2⟩
  have haea := haea.en hsp (Ne.symm (hm_neA hx.1 haea.1)) (Ne.symm (hm_neA hx.1 haea.1))
  have hx : hm_ow M22 F12 x (hm_ob 6 [.ref tm, .ref ea, .null, .null, .null, .int 0]) := ⟨by rw [← hMp]; exact hm_up_s _ _ _, hx.2⟩
  clear hMp
  obtain ⟨la19, ht19, -⟩ := ts_tm hS
  refine hm_aload_n C nd_TK_init_154 rfl ?_
  refine hm_iconst (v := 2) C nd_TK_init_155 (by decide) ?_
  refine hm_anew (t := 1) (N := 2) C rfl nc_TK_28 nr_EN (by decide) (by omega) (by omega) (by omega) nd_TK_init_156 (fun ka hq_ka => ?_)
  have heka : ea ≠ ka := hm_neF haea.1 hq_ka
  generalize hMka : hm_up M22 ka (hm_ar D 1 2 (fun _ => none)) = M23
  have hFka : ¬ F12 ka := fun z => ts_S_some hS z hq_ka
  have hmnka : ∀ z, M22 z ≠ none → M23 z = M22 z := fun z hz => by rw [← hMka, hm_up_n _ _ (fun y => hz (by rw [y]; exact hq_ka))]
  have hS : ts_S D M23 tm F12 T12 (fun _ => False) 4 n12 c12 0 := by rw [← hMka]; exact hS.put hFka _
  have hx := hx.step (hm_step.mn hmnka)
  have hR0 := hR0.mn hmnka
  have hQ1 := hQ1.mn hmnka
  have haea := haea.step (hm_step.mn hmnka)
  have haka : hm_ow M23 F12 ka (hm_ar D 1 2 (fun _ => none)) := ⟨by rw [← hMka]; exact hm_up_s _ _ _, hFka⟩
  obtain ⟨la20, ht20, -⟩ := ts_tm hS
  have hne_haea_haka := heka
  refine hm_dup C nd_TK_init_159 rfl ?_
  refine hm_iconst (v := 0) C nd_TK_init_160 (by decide) ?_
  refine hm_aload C nd_TK_init_161 rfl ?_
  obtain ⟨⟨vs8, h8⟩, -⟩ := hR0.ob
  refine hm_callV C (ct_EN_copied M23 tm F12 T12 (fun _ => False) 4 n12 c12 0 hS q0 lq0 (sp_E0 0) hR0) nV_EN_copied [] rfl h8.1 rfl nq_TK_48 nj_EN_copied nx_EN_copied rfl (rest := [.int 0, .ref ka, .ref ka, .ref x]) rfl (Nat.le_of_ble_eq_true rfl) (by decide) (by decide) (by omega) (by omega) nd_TK_init_163 (fun r M24 hp => ?_)
  obtain ⟨q2, lq2, rfl, hnq2, hnlq2, hneq2, hfrq2, hRq2⟩ := hp
  clear h8
  have hmnq2 : ∀ z, M23 z ≠ none → M24 z = M23 z := fun z hz => hfrq2 z (fun y => hz (by rw [y]; exact hnq2)) (fun y => hz (by rw [y]; exact hnlq2))
  have hS : ts_S D M24 tm F12 T12 (fun _ => False) 4 n12 c12 0 := hS.same (fun z hz => hmnq2 z (ts_S_some hS hz))
  have na_q0_q2 : q0 ≠ q2 := fun y => by obtain ⟨⟨vs9, h9⟩, -⟩ := hR0.ob; have h8 := h9.1; rw [y, hnq2] at h8; cases h8
  have nl_q0_q2 : lq0 ≠ lq2 := fun y => by obtain ⟨-, ⟨f9, h9⟩⟩ := hR0.ob; have h8 := h9.1; rw [y, hnlq2] at h8; cases h8
  have na_q1_q2 : q1 ≠ q2 := fun y => by obtain ⟨⟨vs9, h9⟩, -⟩ := hQ1.ob; have h8 := h9.1; rw [y, hnq2] at h8; cases h8
  have nl_q1_q2 : lq1 ≠ lq2 := fun y => by obtain ⟨-, ⟨f9, h9⟩⟩ := hQ1.ob; have h8 := h9.1; rw [y, hnlq2] at h8; cases h8
  have hx := hx.step (hm_step.mn hmnq2)
  have hR0 := hR0.mn hmnq2
  have hQ1 := hQ1.mn hmnq2
  have haea := haea.step (hm_step.mn hmnq2)
  have haka := haka.step (hm_step.mn hmnq2)
  refine hm_stk (st' := [.ref q2, .int 0, .ref ka, .ref ka, .ref x]) rfl ?_
  obtain ⟨la21, ht21, -⟩ := ts_tm hS
  obtain ⟨⟨vs9, h9⟩, -⟩ := hRq2.ob
  refine hm_aast (t := 1) (j := 0) C rfl haka.1 h9.1 rfl (Or.inl rfl) rfl (by decide) (by decide) nd_TK_init_166 ?_
  clear h9
  generalize hMp : hm_up M24 ka (hm_ar D 1 2 (va_up (fun _ => none) 0 (some q2))) = M25
  have hsp : hm_step M24 (en_F F12 ka ka) M25 (en_F F12 ka ka) := ⟨fun z hz' _ => by rw [← hMp, hm_up_n _ _ (fun y => hz' (Or.inr (Or.inl y)))], fun _ y => Or.inl y⟩
  have hS : ts_S D M25 tm F12 T12 (fun _ => False) 4 n12 c12 0 := by rw [← hMp]; exact hS.put haka.2 _
  have hR0 : sp_R D M25 F12 T12 q0 lq0 (sp_E0 0) := by
    obtain ⟨c1, c2, c3, c4, c5, c6, g, hA, o1, o2, o3, o4, o5, o6, hL⟩ := hR0
    exact ⟨c1, c2, c3, c4, c5, c6, g, hA.en hsp (hm_neA hA.1 haka.1) (hm_neA hA.1 haka.1), o1, o2, o3, o4, o5, o6, hL.1.en hsp (hm_neN hL.1.1 haka.1 (by decide)) (hm_neN hL.1.1 haka.1 (by decide)), hL.2.1, fun i y hy => (by cases hy), hL.2.2.2⟩
  have hQ1 : sp_R D M25 F12 T12 q1 lq1 (sp_E0 1) := by
    obtain ⟨c1, c2, c3, c4, c5, c6, g, hA, o1, o2, o3, o4, o5, o6, hL⟩ := hQ1
    exact ⟨c1, c2, c3, c4, c5, c6, g, hA.en hsp (hm_neA hA.1 haka.1) (hm_neA hA.1 haka.1), o1, o2, o3, o4, o5, o6, hL.1.en hsp (hm_neN hL.1.1 haka.1 (by decide)) (hm_neN hL.1.1 haka.1 (by decide)), hL.2.1, fun i y hy => (by cases hy), hL.2.2.2⟩
  have hRq2 : sp_R D M25 F12 T12 q2 lq2 (sp_E0 0) := by
    obtain ⟨c1, c2, c3, c4, c5, c6, g, hA, o1, o2, o3, o4, o5, o6, hL⟩ := hRq2
    exact ⟨c1, c2, c3, c4, c5, c6, g, hA.en hsp (hm_neA hA.1 haka.1) (hm_neA hA.1 haka.1), o1, o2, o3, o4, o5, o6, hL.1.en hsp (hm_neN hL.1.1 haka.1 (by decide)) (hm_neN hL.1.1 haka.1 (by decide)), hL.2.1, fun i y hy => (by cases hy), hL.2.2.2⟩
  have hx := hx.en hsp (hm_neA hx.1 haka.1) (hm_neA hx.1 haka.1)
  have haea := haea.en hsp hne_haea_haka hne_haea_haka
  have haka : hm_ow M25 F12 ka (hm_ar D 1 2 (va_up (fun _ => none) 0 (some q2))) := ⟨by rw [← hMp]; exact hm_up_s _ _ _, haka.2⟩
  clear hMp
  obtain ⟨la22, ht22, -⟩ := ts_tm hS
  refine hm_dup C nd_TK_init_167 rfl ?_
  refine hm_iconst (v := 1) C nd_TK_init_168 (by decide) ?_
  refine hm_aload C nd_TK_init_169 rfl ?_
  obtain ⟨⟨vs8, h8⟩, -⟩ := hQ1.ob
  refine hm_callV C (ct_EN_copied M25 tm F12 T12 (fun _ => False) 4 n12 c12 0 hS q1 lq1 (sp_E0 1) hQ1) nV_EN_copied [] rfl h8.1 rfl nq_TK_48 nj_EN_copied nx_EN_copied rfl (rest := [.int 1, .ref ka, .ref ka, .ref x]) rfl (Nat.le_of_ble_eq_true rfl) (by decide) (by decide) (by omega) (by omega) nd_TK_init_171 (fun r M26 hp => ?_)
  obtain ⟨q3, lq3, rfl, hnq3, hnlq3, hneq3, hfrq3, hRq3⟩ := hp
  clear h8
  have hmnq3 : ∀ z, M25 z ≠ none → M26 z = M25 z := fun z hz => hfrq3 z (fun y => hz (by rw [y]; exact hnq3)) (fun y => hz (by rw [y]; exact hnlq3))
  have hS : ts_S D M26 tm F12 T12 (fun _ => False) 4 n12 c12 0 := hS.same (fun z hz => hmnq3 z (ts_S_some hS hz))
  have na_q0_q3 : q0 ≠ q3 := fun y => by obtain ⟨⟨vs9, h9⟩, -⟩ := hR0.ob; have h8 := h9.1; rw [y, hnq3] at h8; cases h8
  have nl_q0_q3 : lq0 ≠ lq3 := fun y => by obtain ⟨-, ⟨f9, h9⟩⟩ := hR0.ob; have h8 := h9.1; rw [y, hnlq3] at h8; cases h8
  have na_q1_q3 : q1 ≠ q3 := fun y => by obtain ⟨⟨vs9, h9⟩, -⟩ := hQ1.ob; have h8 := h9.1; rw [y, hnq3] at h8; cases h8
  have nl_q1_q3 : lq1 ≠ lq3 := fun y => by obtain ⟨-, ⟨f9, h9⟩⟩ := hQ1.ob; have h8 := h9.1; rw [y, hnlq3] at h8; cases h8
  have na_q2_q3 : q2 ≠ q3 := fun y => by obtain ⟨⟨vs9, h9⟩, -⟩ := hRq2.ob; have h8 := h9.1; rw [y, hnq3] at h8; cases h8
  have nl_q2_q3 : lq2 ≠ lq3 := fun y => by obtain ⟨-, ⟨f9, h9⟩⟩ := hRq2.ob; have h8 := h9.1; rw [y, hnlq3] at h8; cases h8
  have hx := hx.step (hm_step.mn hmnq3)
  have hR0 := hR0.mn hmnq3
  have hQ1 := hQ1.mn hmnq3
  have hRq2 := hRq2.mn hmnq3
  have haea := haea.step (hm_step.mn hmnq3)
  have haka := haka.step (hm_step.mn hmnq3)
  refine hm_stk (st' := [.ref q3, .int 1, .ref ka, .ref ka, .ref x]) rfl ?_
  obtain ⟨la23, ht23, -⟩ := ts_tm hS
  obtain ⟨⟨vs9, h9⟩, -⟩ := hRq3.ob
  refine hm_aast (t := 1) (j := 1) C rfl haka.1 h9.1 rfl (Or.inl rfl) rfl (by decide) (by decide) nd_TK_init_174 ?_
  clear h9
  generalize hMp : hm_up M26 ka (hm_ar D 1 2 (va_up (va_up (fun _ => none) 0 (some q2)) 1 (some q3))) = M27
  have hsp : hm_step M26 (en_F F12 ka ka) M27 (en_F F12 ka ka) := ⟨fun z hz' _ => by rw [← hMp, hm_up_n _ _ (fun y => hz' (Or.inr (Or.inl y)))], fun _ y => Or.inl y⟩
  have hS : ts_S D M27 tm F12 T12 (fun _ => False) 4 n12 c12 0 := by rw [← hMp]; exact hS.put haka.2 _
  have hR0 : sp_R D M27 F12 T12 q0 lq0 (sp_E0 0) := by
    obtain ⟨c1, c2, c3, c4, c5, c6, g, hA, o1, o2, o3, o4, o5, o6, hL⟩ := hR0
    exact ⟨c1, c2, c3, c4, c5, c6, g, hA.en hsp (hm_neA hA.1 haka.1) (hm_neA hA.1 haka.1), o1, o2, o3, o4, o5, o6, hL.1.en hsp (hm_neN hL.1.1 haka.1 (by decide)) (hm_neN hL.1.1 haka.1 (by decide)), hL.2.1, fun i y hy => (by cases hy), hL.2.2.2⟩
  have hQ1 : sp_R D M27 F12 T12 q1 lq1 (sp_E0 1) := by
    obtain ⟨c1, c2, c3, c4, c5, c6, g, hA, o1, o2, o3, o4, o5, o6, hL⟩ := hQ1
    exact ⟨c1, c2, c3, c4, c5, c6, g, hA.en hsp (hm_neA hA.1 haka.1) (hm_neA hA.1 haka.1), o1, o2, o3, o4, o5, o6, hL.1.en hsp (hm_neN hL.1.1 haka.1 (by decide)) (hm_neN hL.1.1 haka.1 (by decide)), hL.2.1, fun i y hy => (by cases hy), hL.2.2.2⟩
  have hRq2 : sp_R D M27 F12 T12 q2 lq2 (sp_E0 0) := by
    obtain ⟨c1, c2, c3, c4, c5, c6, g, hA, o1, o2, o3, o4, o5, o6, hL⟩ := hRq2
    exact ⟨c1, c2, c3, c4, c5, c6, g, hA.en hsp (hm_neA hA.1 haka.1) (hm_neA hA.1 haka.1), o1, o2, o3, o4, o5, o6, hL.1.en hsp (hm_neN hL.1.1 haka.1 (by decide)) (hm_neN hL.1.1 haka.1 (by decide)), hL.2.1, fun i y hy => (by cases hy), hL.2.2.2⟩
  have hRq3 : sp_R D M27 F12 T12 q3 lq3 (sp_E0 1) := by
    obtain ⟨c1, c2, c3, c4, c5, c6, g, hA, o1, o2, o3, o4, o5, o6, hL⟩ := hRq3
    exact ⟨c1, c2, c3, c4, c5, c6, g, hA.en hsp (hm_neA hA.1 haka.1) (hm_neA hA.1 haka.1), o1, o2, o3, o4, o5, o6, hL.1.en hsp (hm_neN hL.1.1 haka.1 (by decide)) (hm_neN hL.1.1 haka.1 (by decide)), hL.2.1, fun i y hy => (by cases hy), hL.2.2.2⟩
  have hx := hx.en hsp (hm_neA hx.1 haka.1) (hm_neA hx.1 haka.1)
  have haea := haea.en hsp hne_haea_haka hne_haea_haka
  have haka : hm_ow M27 F12 ka (hm_ar D 1 2 (va_up (va_up (fun _ => none) 0 (some q2)) 1 (some q3))) := ⟨by rw [← hMp]; exact hm_up_s _ _ _, haka.2⟩
  clear hMp
  obtain ⟨la24, ht24, -⟩ := ts_tm hS
  refine hm_putF C nF_TK_52 hx.1 (Nat.le_of_ble_eq_true rfl) rfl rfl nd_TK_init_175 ?_
  refine hm_eqM (M' := hm_up M27 x (hm_ob 6 [.ref tm, .ref ea, .ref ka, .null, .null, .int 0])) rfl ?_
  generalize hMp : hm_up M27 x (hm_ob 6 [.ref tm, .ref ea, .ref ka, .null, .null, .int 0]) = M28
  have hsp : hm_step M27 (en_F F12 x x) M28 (en_F F12 x x) := ⟨fun z hz' _ => by rw [← hMp, hm_up_n _ _ (fun y => hz' (Or.inr (Or.inl y)))], fun _ y => Or.inl y⟩
  have hS : ts_S D M28 tm F12 T12 (fun _ => False) 4 n12 c12 0 := by rw [← hMp]; exact hS.put hx.2 _
  have hR0 : sp_R D M28 F12 T12 q0 lq0 (sp_E0 0) := by
    obtain ⟨c1, c2, c3, c4, c5, c6, g, hA, o1, o2, o3, o4, o5, o6, hL⟩ := hR0
    exact ⟨c1, c2, c3, c4, c5, c6, g, hA.en hsp (hm_ne hA.1 hx.1 (by decide)) (hm_ne hA.1 hx.1 (by decide)), o1, o2, o3, o4, o5, o6, hL.1.en hsp (Ne.symm (hm_neA hx.1 hL.1.1)) (Ne.symm (hm_neA hx.1 hL.1.1)), hL.2.1, fun i y hy => (by cases hy), hL.2.2.2⟩
  have hQ1 : sp_R D M28 F12 T12 q1 lq1 (sp_E0 1) := by
    obtain ⟨c1, c2, c3, c4, c5, c6, g, hA, o1, o2, o3, o4, o5, o6, hL⟩ := hQ1
    exact ⟨c1, c2, c3, c4, c5, c6, g, hA.en hsp (hm_ne hA.1 hx.1 (by decide)) (hm_ne hA.1 hx.1 (by decide)), o1, o2, o3, o4, o5, o6, hL.1.en hsp (Ne.symm (hm_neA hx.1 hL.1.1)) (Ne.symm (hm_neA hx.1 hL.1.1)), hL.2.1, fun i y hy => (by cases hy), hL.2.2.2⟩
  have hRq2 : sp_R D M28 F12 T12 q2 lq2 (sp_E0 0) := by
    obtain ⟨c1, c2, c3, c4, c5, c6, g, hA, o1, o2, o3, o4, o5, o6, hL⟩ := hRq2
    exact ⟨c1, c2, c3, c4, c5, c6, g, hA.en hsp (hm_ne hA.1 hx.1 (by decide)) (hm_ne hA.1 hx.1 (by decide)), o1, o2, o3, o4, o5, o6, hL.1.en hsp (Ne.symm (hm_neA hx.1 hL.1.1)) (Ne.symm (hm_neA hx.1 hL.1.1)), hL.2.1, fun i y hy => (by cases hy), hL.2.2.2⟩
  have hRq3 : sp_R D M28 F12 T12 q3 lq3 (sp_E0 1) := by
    obtain ⟨c1, c2, c3, c4, c5, c6, g, hA, o1, o2, o3, o4, o5, o6, hL⟩ := hRq3
    exact ⟨c1, c2, c3, c4, c5, c6, g, hA.en hsp (hm_ne hA.1 hx.1 (by decide)) (hm_ne hA.1 hx.1 (by decide)), o1, o2, o3, o4, o5, o6, hL.1.en hsp (Ne.symm (hm_neA hx.1 hL.1.1)) (Ne.symm (hm_neA hx.1 hL.1.1)), hL.2.1, fun i y hy => (by cases hy), hL.2.2.2⟩
  have haea := haea.en hsp (Ne.symm (hm_neA hx.1 haea.1)) (Ne.symm (hm_neA hx.1 haea.1))
  have haka := haka.en hsp (Ne.symm (hm_neA hx.1 haka.1)) (Ne.symm (hm_neA hx.1 haka.1))
  have hx : hm_ow M28 F12 x (hm_ob 6 [.ref tm, .ref ea, .ref ka, .null, .null, .int 0]) := ⟨by rw [← hMp]; exact hm_up_s _ _ _, hx.2⟩
  clear hMp
  obtain ⟨la25, ht25, -⟩ := ts_tm hS
  refine hm_aload_n C nd_TK_init_178 rfl ?_
  refine hm_aload C nd_TK_init_179 rfl ?_
  obtain ⟨⟨vs8, h8⟩, -⟩ := hQ1.ob
  refine hm_callV C (ct_EN_copied M28 tm F12 T12 (fun _ => False) 4 n12 c12 0 hS q1 lq1 (sp_E0 1) hQ1) nV_EN_copied [] rfl h8.1 rfl nq_TK_48 nj_EN_copied nx_EN_copied rfl (rest := [.ref x]) rfl (Nat.le_of_ble_eq_true rfl) (by decide) (by decide) (by omega) (by omega) nd_TK_init_181 (fun r M29 hp => ?_)
  obtain ⟨q4, lq4, rfl, hnq4, hnlq4, hneq4, hfrq4, hRq4⟩ := hp
  clear h8
  have hmnq4 : ∀ z, M28 z ≠ none → M29 z = M28 z := fun z hz => hfrq4 z (fun y => hz (by rw [y]; exact hnq4)) (fun y => hz (by rw [y]; exact hnlq4))
  have hS : ts_S D M29 tm F12 T12 (fun _ => False) 4 n12 c12 0 := hS.same (fun z hz => hmnq4 z (ts_S_some hS hz))
  have na_q0_q4 : q0 ≠ q4 := fun y => by obtain ⟨⟨vs9, h9⟩, -⟩ := hR0.ob; have h8 := h9.1; rw [y, hnq4] at h8; cases h8
  have nl_q0_q4 : lq0 ≠ lq4 := fun y => by obtain ⟨-, ⟨f9, h9⟩⟩ := hR0.ob; have h8 := h9.1; rw [y, hnlq4] at h8; cases h8
  have na_q1_q4 : q1 ≠ q4 := fun y => by obtain ⟨⟨vs9, h9⟩, -⟩ := hQ1.ob; have h8 := h9.1; rw [y, hnq4] at h8; cases h8
  have nl_q1_q4 : lq1 ≠ lq4 := fun y => by obtain ⟨-, ⟨f9, h9⟩⟩ := hQ1.ob; have h8 := h9.1; rw [y, hnlq4] at h8; cases h8
  have na_q2_q4 : q2 ≠ q4 := fun y => by obtain ⟨⟨vs9, h9⟩, -⟩ := hRq2.ob; have h8 := h9.1; rw [y, hnq4] at h8; cases h8
  have nl_q2_q4 : lq2 ≠ lq4 := fun y => by obtain ⟨-, ⟨f9, h9⟩⟩ := hRq2.ob; have h8 := h9.1; rw [y, hnlq4] at h8; cases h8
  have na_q3_q4 : q3 ≠ q4 := fun y => by obtain ⟨⟨vs9, h9⟩, -⟩ := hRq3.ob; have h8 := h9.1; rw [y, hnq4] at h8; cases h8
  have nl_q3_q4 : lq3 ≠ lq4 := fun y => by obtain ⟨-, ⟨f9, h9⟩⟩ := hRq3.ob; have h8 := h9.1; rw [y, hnlq4] at h8; cases h8
  have hx := hx.step (hm_step.mn hmnq4)
  have hR0 := hR0.mn hmnq4
  have hQ1 := hQ1.mn hmnq4
  have hRq2 := hRq2.mn hmnq4
  have hRq3 := hRq3.mn hmnq4
  have haea := haea.step (hm_step.mn hmnq4)
  have haka := haka.step (hm_step.mn hmnq4)
  refine hm_stk (st' := [.ref q4, .ref x]) rfl ?_
  obtain ⟨la26, ht26, -⟩ := ts_tm hS
  refine hm_putF C nF_TK_55 hx.1 (Nat.le_of_ble_eq_true rfl) rfl rfl nd_TK_init_184 ?_
  refine hm_eqM (M' := hm_up M29 x (hm_ob 6 [.ref tm, .ref ea, .ref ka, .ref q4, .null, .int 0])) rfl ?_
  generalize hMp : hm_up M29 x (hm_ob 6 [.ref tm, .ref ea, .ref ka, .ref q4, .null, .int 0]) = M30
  have hsp : hm_step M29 (en_F F12 x x) M30 (en_F F12 x x) := ⟨fun z hz' _ => by rw [← hMp, hm_up_n _ _ (fun y => hz' (Or.inr (Or.inl y)))], fun _ y => Or.inl y⟩
  have hS : ts_S D M30 tm F12 T12 (fun _ => False) 4 n12 c12 0 := by rw [← hMp]; exact hS.put hx.2 _
  have hR0 : sp_R D M30 F12 T12 q0 lq0 (sp_E0 0) := by
    obtain ⟨c1, c2, c3, c4, c5, c6, g, hA, o1, o2, o3, o4, o5, o6, hL⟩ := hR0
    exact ⟨c1, c2, c3, c4, c5, c6, g, hA.en hsp (hm_ne hA.1 hx.1 (by decide)) (hm_ne hA.1 hx.1 (by decide)), o1, o2, o3, o4, o5, o6, hL.1.en hsp (Ne.symm (hm_neA hx.1 hL.1.1)) (Ne.symm (hm_neA hx.1 hL.1.1)), hL.2.1, fun i y hy => (by cases hy), hL.2.2.2⟩
  have hQ1 : sp_R D M30 F12 T12 q1 lq1 (sp_E0 1) := by
    obtain ⟨c1, c2, c3, c4, c5, c6, g, hA, o1, o2, o3, o4, o5, o6, hL⟩ := hQ1
    exact ⟨c1, c2, c3, c4, c5, c6, g, hA.en hsp (hm_ne hA.1 hx.1 (by decide)) (hm_ne hA.1 hx.1 (by decide)), o1, o2, o3, o4, o5, o6, hL.1.en hsp (Ne.symm (hm_neA hx.1 hL.1.1)) (Ne.symm (hm_neA hx.1 hL.1.1)), hL.2.1, fun i y hy => (by cases hy), hL.2.2.2⟩
  have hRq2 : sp_R D M30 F12 T12 q2 lq2 (sp_E0 0) := by
    obtain ⟨c1, c2, c3, c4, c5, c6, g, hA, o1, o2, o3, o4, o5, o6, hL⟩ := hRq2
    exact ⟨c1, c2, c3, c4, c5, c6, g, hA.en hsp (hm_ne hA.1 hx.1 (by decide)) (hm_ne hA.1 hx.1 (by decide)), o1, o2, o3, o4, o5, o6, hL.1.en hsp (Ne.symm (hm_neA hx.1 hL.1.1)) (Ne.symm (hm_neA hx.1 hL.1.1)), hL.2.1, fun i y hy => (by cases hy), hL.2.2.2⟩
  have hRq3 : sp_R D M30 F12 T12 q3 lq3 (sp_E0 1) := by
    obtain ⟨c1, c2, c3, c4, c5, c6, g, hA, o1, o2, o3, o4, o5, o6, hL⟩ := hRq3
    exact ⟨c1, c2, c3, c4, c5, c6, g, hA.en hsp (hm_ne hA.1 hx.1 (by decide)) (hm_ne hA.1 hx.1 (by decide)), o1, o2, o3, o4, o5, o6, hL.1.en hsp (Ne.symm (hm_neA hx.1 hL.1.1)) (Ne.symm (hm_neA hx.1 hL.1.1)), hL.2.1, fun i y hy => (by cases hy), hL.2.2.2⟩
  have hRq4 : sp_R D M30 F12 T12 q4 lq4 (sp_E0 1) := by
    obtain ⟨c1, c2, c3, c4, c5, c6, g, hA, o1, o2, o3, o4, o5, o6, hL⟩ := hRq4
    exact ⟨c1, c2, c3, c4, c5, c6, g, hA.en hsp (hm_ne hA.1 hx.1 (by decide)) (hm_ne hA.1 hx.1 (by decide)), o1, o2, o3, o4, o5, o6, hL.1.en hsp (Ne.symm (hm_neA hx.1 hL.1.1)) (Ne.symm (hm_neA hx.1 hL.1.1)), hL.2.1, fun i y hy => (by cases hy), hL.2.2.2⟩
  have haea := haea.en hsp (Ne.symm (hm_neA hx.1 haea.1)) (Ne.symm (hm_neA hx.1 haea.1))
  have haka := haka.en hsp (Ne.symm (hm_neA hx.1 haka.1)) (Ne.symm (hm_neA hx.1 haka.1))
  have hx : hm_ow M30 F12 x (hm_ob 6 [.ref tm, .ref ea, .ref ka, .ref q4, .null, .int 0]) := ⟨by rw [← hMp]; exact hm_up_s _ _ _, hx.2⟩
  clear hMp
  obtain ⟨la27, ht27, -⟩ := ts_tm hS
  refine hm_aload_n C nd_TK_init_187 rfl ?_
  refine hm_newN C 3 nB_TK_59 rfl (by omega) (by omega) nd_TK_init_188 (fun wl hq_wl => ?_)
  generalize hMwl : hm_up M30 wl (hm_ob 0 [.null, .int 0, .int 0]) = M31
  have hwl1 : M31 wl = some (hm_ob 0 [.null, .int 0, .int 0]) := by rw [← hMwl]; exact hm_up_s _ _ _
  have hFwl : ¬ F12 wl := fun z => ts_S_some hS z hq_wl
  refine hm_dup C nd_TK_init_191 rfl ?_
  refine hm_callI C (ct_AL_init M31 wl 0 0 hwl1) nV_AL_init rfl nq_TK_61 nj_AL_init [] rfl rfl (rest := [.ref wl, .ref x]) rfl (Nat.le_of_ble_eq_true rfl) (by decide) (by decide) (by omega) (by omega) nd_TK_init_192 (fun r M32 hp => ?_)
  obtain ⟨rfl, hMal⟩ := hp
  have hmnw : ∀ z, M30 z ≠ none → M32 z = M30 z := fun z hz => by rw [hMal, hm_up_n _ _ (fun y => hz (by rw [y]; exact hq_wl)), ← hMwl, hm_up_n _ _ (fun y => hz (by rw [y]; exact hq_wl))]
  have hS : ts_S D M32 tm F12 T12 (fun _ => False) 4 n12 c12 0 := hS.same (fun z hz => hmnw z (ts_S_some hS hz))
  have hwl2 : hm_ow M32 F12 wl (hm_ob 0 [.ref (D.2 999 0), .int 0, .int 0]) := ⟨by rw [hMal]; exact hm_up_s _ _ _, hFwl⟩
  have hx := hx.step (hm_step.mn hmnw)
  have hR0 := hR0.mn hmnw
  have hQ1 := hQ1.mn hmnw
  have hRq2 := hRq2.mn hmnw
  have hRq3 := hRq3.mn hmnw
  have hRq4 := hRq4.mn hmnw
  have haea := haea.step (hm_step.mn hmnw)
  have haka := haka.step (hm_step.mn hmnw)
  refine hm_stk (st' := [.ref wl, .ref x]) rfl ?_
  obtain ⟨la28, ht28, -⟩ := ts_tm hS
  refine hm_putF C nF_TK_62 hx.1 (Nat.le_of_ble_eq_true rfl) rfl rfl nd_TK_init_195 ?_
  refine hm_eqM (M' := hm_up M32 x (hm_ob 6 [.ref tm, .ref ea, .ref ka, .ref q4, .ref wl, .int 0])) rfl ?_
  generalize hMp : hm_up M32 x (hm_ob 6 [.ref tm, .ref ea, .ref ka, .ref q4, .ref wl, .int 0]) = M33
  have hsp : hm_step M32 (en_F F12 x x) M33 (en_F F12 x x) := ⟨fun z hz' _ => by rw [← hMp, hm_up_n _ _ (fun y => hz' (Or.inr (Or.inl y)))], fun _ y => Or.inl y⟩
  have hS : ts_S D M33 tm F12 T12 (fun _ => False) 4 n12 c12 0 := by rw [← hMp]; exact hS.put hx.2 _
  have hR0 : sp_R D M33 F12 T12 q0 lq0 (sp_E0 0) := by
    obtain ⟨c1, c2, c3, c4, c5, c6, g, hA, o1, o2, o3, o4, o5, o6, hL⟩ := hR0
    exact ⟨c1, c2, c3, c4, c5, c6, g, hA.en hsp (hm_ne hA.1 hx.1 (by decide)) (hm_ne hA.1 hx.1 (by decide)), o1, o2, o3, o4, o5, o6, hL.1.en hsp (Ne.symm (hm_neA hx.1 hL.1.1)) (Ne.symm (hm_neA hx.1 hL.1.1)), hL.2.1, fun i y hy => (by cases hy), hL.2.2.2⟩
  have hQ1 : sp_R D M33 F12 T12 q1 lq1 (sp_E0 1) := by
    obtain ⟨c1, c2, c3, c4, c5, c6, g, hA, o1, o2, o3, o4, o5, o6, hL⟩ := hQ1
    exact ⟨c1, c2, c3, c4, c5, c6, g, hA.en hsp (hm_ne hA.1 hx.1 (by decide)) (hm_ne hA.1 hx.1 (by decide)), o1, o2, o3, o4, o5, o6, hL.1.en hsp (Ne.symm (hm_neA hx.1 hL.1.1)) (Ne.symm (hm_neA hx.1 hL.1.1)), hL.2.1, fun i y hy => (by cases hy), hL.2.2.2⟩
  have hRq2 : sp_R D M33 F12 T12 q2 lq2 (sp_E0 0) := by
    obtain ⟨c1, c2, c3, c4, c5, c6, g, hA, o1, o2, o3, o4, o5, o6, hL⟩ := hRq2
    exact ⟨c1, c2, c3, c4, c5, c6, g, hA.en hsp (hm_ne hA.1 hx.1 (by decide)) (hm_ne hA.1 hx.1 (by decide)), o1, o2, o3, o4, o5, o6, hL.1.en hsp (Ne.symm (hm_neA hx.1 hL.1.1)) (Ne.symm (hm_neA hx.1 hL.1.1)), hL.2.1, fun i y hy => (by cases hy), hL.2.2.2⟩
  have hRq3 : sp_R D M33 F12 T12 q3 lq3 (sp_E0 1) := by
    obtain ⟨c1, c2, c3, c4, c5, c6, g, hA, o1, o2, o3, o4, o5, o6, hL⟩ := hRq3
    exact ⟨c1, c2, c3, c4, c5, c6, g, hA.en hsp (hm_ne hA.1 hx.1 (by decide)) (hm_ne hA.1 hx.1 (by decide)), o1, o2, o3, o4, o5, o6, hL.1.en hsp (Ne.symm (hm_neA hx.1 hL.1.1)) (Ne.symm (hm_neA hx.1 hL.1.1)), hL.2.1, fun i y hy => (by cases hy), hL.2.2.2⟩
  have hRq4 : sp_R D M33 F12 T12 q4 lq4 (sp_E0 1) := by
    obtain ⟨c1, c2, c3, c4, c5, c6, g, hA, o1, o2, o3, o4, o5, o6, hL⟩ := hRq4
    exact ⟨c1, c2, c3, c4, c5, c6, g, hA.en hsp (hm_ne hA.1 hx.1 (by decide)) (hm_ne hA.1 hx.1 (by decide)), o1, o2, o3, o4, o5, o6, hL.1.en hsp (Ne.symm (hm_neA hx.1 hL.1.1)) (Ne.symm (hm_neA hx.1 hL.1.1)), hL.2.1, fun i y hy => (by cases hy), hL.2.2.2⟩
  have haea := haea.en hsp (Ne.symm (hm_neA hx.1 haea.1)) (Ne.symm (hm_neA hx.1 haea.1))
  have haka := haka.en hsp (Ne.symm (hm_neA hx.1 haka.1)) (Ne.symm (hm_neA hx.1 haka.1))
  have hwl2 := hwl2.en hsp (hm_ne hwl2.1 hx.1 (by decide)) (hm_ne hwl2.1 hx.1 (by decide))
  have hx : hm_ow M33 F12 x (hm_ob 6 [.ref tm, .ref ea, .ref ka, .ref q4, .ref wl, .int 0]) := ⟨by rw [← hMp]; exact hm_up_s _ _ _, hx.2⟩
  clear hMp
  obtain ⟨la29, ht29, -⟩ := ts_tm hS
  have hfin : tk_I D M33 x tm ea ka wl (D.2 999 0) 0 n12 c12 0 0 4 (fun i => if i = 0 then q0 else if i = 1 then q1 else if i = 2 then q2 else if i = 3 then q3 else q4) (fun i => if i = 0 then lq0 else if i = 1 then lq1 else if i = 2 then lq2 else if i = 3 then lq3 else lq4) (fun _ => 0) sp_E0 [] F12 T12 (fun _ => False) := by
    refine ⟨hx, ⟨_, haea, rfl, rfl⟩, ⟨_, haka, rfl, rfl⟩, hS, fun i hi => ?_, fun i j hi hj => ?_, fun i j hi hj => ?_, ⟨⟨0, hwl2.1, Nat.le_refl _, Or.inl ⟨rfl, rfl⟩⟩, hwl2.2, fun z => absurd rfl z, Or.inl rfl⟩, fun i y hy => (by cases hy)⟩
    · obtain rfl | rfl | rfl | rfl | rfl : i = 0 ∨ i = 1 ∨ i = 2 ∨ i = 3 ∨ i = 4 := by omega
      · exact ⟨_, fun _ => rfl, hR0⟩
      · exact ⟨_, fun _ => rfl, hQ1⟩
      · exact ⟨_, fun _ => rfl, hRq2⟩
      · exact ⟨_, fun _ => rfl, hRq3⟩
      · exact ⟨_, fun z => absurd z (by decide), hRq4⟩
    · obtain rfl | rfl | rfl | rfl | rfl : i = 0 ∨ i = 1 ∨ i = 2 ∨ i = 3 ∨ i = 4 := by omega
      all_goals obtain rfl | rfl | rfl | rfl | rfl : j = 0 ∨ j = 1 ∨ j = 2 ∨ j = 3 ∨ j = 4 := by omega
      all_goals first | exact fun _ => rfl | exact fun z => absurd z hq01 | exact fun z => absurd z (Ne.symm hq01) | exact fun z => absurd z na_q0_q2 | exact fun z => absurd z (Ne.symm na_q0_q2) | exact fun z => absurd z na_q1_q2 | exact fun z => absurd z (Ne.symm na_q1_q2) | exact fun z => absurd z na_q0_q3 | exact fun z => absurd z (Ne.symm na_q0_q3) | exact fun z => absurd z na_q1_q3 | exact fun z => absurd z (Ne.symm na_q1_q3) | exact fun z => absurd z na_q2_q3 | exact fun z => absurd z (Ne.symm na_q2_q3) | exact fun z => absurd z na_q0_q4 | exact fun z => absurd z (Ne.symm na_q0_q4) | exact fun z => absurd z na_q1_q4 | exact fun z => absurd z (Ne.symm na_q1_q4) | exact fun z => absurd z na_q2_q4 | exact fun z => absurd z (Ne.symm na_q2_q4) | exact fun z => absurd z na_q3_q4 | exact fun z => absurd z (Ne.symm na_q3_q4)
    · obtain rfl | rfl | rfl | rfl | rfl : i = 0 ∨ i = 1 ∨ i = 2 ∨ i = 3 ∨ i = 4 := by omega
      all_goals obtain rfl | rfl | rfl | rfl | rfl : j = 0 ∨ j = 1 ∨ j = 2 ∨ j = 3 ∨ j = 4 := by omega
      all_goals first | exact fun _ => rfl | exact fun z => absurd z hl01 | exact fun z => absurd z (Ne.symm hl01) | exact fun z => absurd z nl_q0_q2 | exact fun z => absurd z (Ne.symm nl_q0_q2) | exact fun z => absurd z nl_q1_q2 | exact fun z => absurd z (Ne.symm nl_q1_q2) | exact fun z => absurd z nl_q0_q3 | exact fun z => absurd z (Ne.symm nl_q0_q3) | exact fun z => absurd z nl_q1_q3 | exact fun z => absurd z (Ne.symm nl_q1_q3) | exact fun z => absurd z nl_q2_q3 | exact fun z => absurd z (Ne.symm nl_q2_q3) | exact fun z => absurd z nl_q0_q4 | exact fun z => absurd z (Ne.symm nl_q0_q4) | exact fun z => absurd z nl_q1_q4 | exact fun z => absurd z (Ne.symm nl_q1_q4) | exact fun z => absurd z nl_q2_q4 | exact fun z => absurd z (Ne.symm nl_q2_q4) | exact fun z => absurd z nl_q3_q4 | exact fun z => absurd z (Ne.symm nl_q3_q4)
  exact hm_vret C E (by omega) (by omega) (⟨rfl, n12, c12, by omega, hcn, tm, ea, ka, wl, _, 0, _, _, _, _, _, hfin⟩) nd_TK_init_198
