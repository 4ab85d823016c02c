noncomputable def sp_tk (e : sp_E) (w : sp_W) : List Nat × Int32 × sp_E := match kf w.2.2.2.1 w.2.1 w.2.2.1 e.2.1 (e.1, e.2.2.1, e.2.2.2.1, e.2.2.2.2.2.2.1, e.2.2.2.2.2.2.2.1, e.2.2.2.2.2.2.2.2) with
  | (vs, none) => (vs, -13, e)
  | (vs, some (key, ro, th, sc, rc, nx, lf)) => if key = w.2.2.2.2.1 then (vs, 1, (ro, e.2.1, th, sc, e.2.2.2.2.1, e.2.2.2.2.2.1, rc, nx, lf)) else (vs, -14, e)
noncomputable def sp_s1 (dr : Nat) (e : sp_E) : List Nat × Nat × sp_E := match e with
  | (ro, mi, th, sc, st, bf, rc, nx, lf) => if sc = 0 then ([sm_t 0 (dr + 1) 0, sm_t 1 (sm_t 0 (dr + 1) 0) 0, sm_sh (sm_t 0 (dr + 1) 0) (sm_un th), sm_t 5 ro (sm_sh (sm_t 0 (dr + 1) 0) (sm_un th)), sm_t 4 ro (sm_sh (sm_t 0 (dr + 1) 0) (sm_un th))], dr + 1, (sm_t 4 ro (sm_sh (sm_t 0 (dr + 1) 0) (sm_un th)), sm_t 0 (dr + 1) 0, th, sm_t 5 ro (sm_sh (sm_t 0 (dr + 1) 0) (sm_un th)), 0, st, rc, nx, lf)) else ([], dr, (ro, mi, th, sc, st, bf, rc, nx, lf))
noncomputable def sp_s2 (j : Nat) (S : List Nat × Nat × sp_E) : List Nat × Nat × sp_E × sp_W := match S with
  | (vs, dr, (ro, mi, th, sc, st, bf, rc, nx, lf)) => (vs ++ [sm_t 0 (dr + 1) 0] ++ [sm_t 6 sc 0, sm_t 1 mi 0, sm_t 7 sc 0] ++ [sm_t 3 (sm_t 6 sc 0) (sm_t 0 (dr + 1) 0)], dr + 1, (ro, mi, th, sm_t 7 sc 0, st + 1, bf, rc, nx, lf), (j, st, bf, mi, sm_t 6 sc 0, sm_t 0 (dr + 1) 0))
noncomputable def sp_sd (j dr : Nat) (e : sp_E) : List Nat × Nat × sp_E × sp_W := sp_s2 j (sp_s1 dr e)
set_option maxHeartbeats 4000000 in
set_option maxRecDepth 100000 in
theorem ct_TK_take_self {l : Launch} {D : va_G} {BG : Nat → Option Cell} (M : hm_M) (x tm ea ka wl we cw n c se mk dr : Nat) (a lk fw : Nat → Nat) (Es : Nat → sp_E) (W : List sp_W) (F : Nat → Prop) (T : Nat → Nat → Nat → Prop) (G : Nat → Prop) (hI : tk_I D M x tm ea ka wl we cw n c se mk dr a lk fw Es W F T G) (hcw : cw ≤ 40000) (j v : Nat) (hj : j < 2) (s0 ix bw k ky le : Nat) (hwg : W[v]? = some (s0, ix, bw, k, ky, le)) (hs : s0 = j) : hm_ct l D BG ny_TK_take prog_1_method_3_code 6 (some .int) 12 290 0 0 [.ref x, .int (nI j), .int (nI v)] M (fun r M' => r = some (.int (-11)) ∧ M' = M) := by
  refine hm_ct_of (by decide +kernel) (by exact Nat.le_of_ble_eq_true rfl) ?_
  intro X C E
  have C : hm_C X l D BG prog_1_method_3_code "TurnedKeys" "take" 6 12 290 0 0 := C
  refine hm_lv (lv' := [(0, .ref x), (1, .int (nI j)), (2, .int (nI v))]) rfl ?_
  obtain ⟨hx, ⟨fe, hea, fe0, fe1⟩, ⟨fk, hka, fk0, fk1⟩, hS, hE, ia, il, hW, hw⟩ := id hI
  have hvl : v < W.length := (List.getElem?_eq_some_iff.mp hwg).1
  obtain ⟨p, ip, q, iq, z, iz, hwc, hT1, hT2, hT3⟩ := hw v _ hwg
  have hW1 := hW.1
  refine hm_aload_n C nd_TK_take_0 rfl ?_
  refine hm_get C nF_TK_44 hx.1 rfl nd_TK_take_1 ?_
  refine hm_iload_n C nd_TK_take_4 rfl ?_
  refine hm_callS C (ct_TK_endAt_in M ea j (a j) fe hea.1 hj (by obtain rfl | rfl : j = 0 ∨ j = 1 := (by omega); exact fe0; exact fe1)) nV_TK_endAt nq_TK_66 nu_TK_endAt rfl (rest := []) rfl (Nat.le_of_ble_eq_true rfl) (by decide) (by decide) (by omega) (by omega) nd_TK_take_5 (fun r M1 hp => ?_)
  obtain ⟨rfl, eM1⟩ := hp
  rw [eM1]
  refine hm_stk (st' := [.ref (a j)]) rfl ?_
  refine hm_astore_n C [(3, .ref (a j)), (0, .ref x), (1, .int (nI j)), (2, .int (nI v))] nd_TK_take_8 (by decide) rfl ?_
  refine hm_aload_n C nd_TK_take_9 rfl ?_
  refine hm_iload_n C nd_TK_take_10 rfl ?_
  refine hm_callV C (ct_TK_wireAt_in M x tm ea ka (a 4) wl mk we cw W.length fw hx.1 hW1 hcw v hvl _ hwc.1) nV_TK_wireAt [.int (nI v)] rfl hx.1 rfl nq_TK_97 nj_TK_wireAt nx_TK_wireAt rfl (rest := []) rfl (Nat.le_of_ble_eq_true rfl) (by decide) (by decide) (by omega) (by omega) nd_TK_take_11 (fun r M2 hp => ?_)
  obtain ⟨rfl, eM2⟩ := hp
  rw [eM2]
  refine hm_stk (st' := [.ref (fw v)]) rfl ?_
  refine hm_astore C [(4, .ref (fw v)), (3, .ref (a j)), (0, .ref x), (1, .int (nI j)), (2, .int (nI v))] nd_TK_take_14 (by decide) rfl ?_
  refine hm_aload_n C nd_TK_take_16 rfl ?_
  refine hm_ifnull (tgt := 25) (r := (some (a j))) C nd_TK_take_17 (by decide) (fun h => by cases h) (fun _ => ?_)
  refine hm_aload C nd_TK_take_20 rfl ?_
  refine hm_ifnonnull (tgt := 27) (r := (some (fw v))) C nd_TK_take_22 (by decide) (fun _ => ?_) (fun h => by cases h)
  refine hm_aload C nd_TK_take_27 rfl ?_
  refine hm_get C nF_TK_101 hwc.1 rfl nd_TK_take_29 ?_
  refine hm_iload_n C nd_TK_take_32 rfl ?_
  refine hm_icmp_ne (tgt := 39) C nd_TK_take_33 (by decide) (fun c1 => absurd (by rw [hs]) c1) (fun c1 => ?_)
  refine hm_bipush (v := (-11)) C nd_TK_take_36 (by decide) ?_
  exact hm_iret C E (by omega) (by omega) (⟨rfl, rfl⟩) nd_TK_take_38
set_option maxHeartbeats 4000000 in
set_option maxRecDepth 100000 in
theorem ct_TK_take_e {l : Launch} {D : va_G} {BG : Nat → Option Cell} (M : hm_M) (x tm ea ka wl we cw n c se mk dr : Nat) (a lk fw : Nat → Nat) (Es : Nat → sp_E) (W : List sp_W) (F : Nat → Prop) (T : Nat → Nat → Nat → Prop) (G : Nat → Prop) (hI : tk_I D M x tm ea ka wl we cw n c se mk dr a lk fw Es W F T G) (hcw : cw ≤ 40000) (hwl : W.length < 2 ^ 31) (e u : Int32) (he : e < 0 ∨ nI 2 ≤ e) : hm_ct l D BG ny_TK_take prog_1_method_3_code 6 (some .int) 12 290 0 0 [.ref x, .int e, .int u] M (fun r M' => r = some (.int (-1)) ∧ M' = M) := by
  refine hm_ct_of (by decide +kernel) (by exact Nat.le_of_ble_eq_true rfl) ?_
  intro X C E
  have C : hm_C X l D BG prog_1_method_3_code "TurnedKeys" "take" 6 12 290 0 0 := C
  refine hm_lv (lv' := [(0, .ref x), (1, .int e), (2, .int u)]) rfl ?_
  obtain ⟨hx, ⟨fe, hea, fe0, fe1⟩, ⟨fk, hka, fk0, fk1⟩, hS, hE, ia, il, hW, hw⟩ := id hI
  refine hm_aload_n C nd_TK_take_0 rfl ?_
  refine hm_get C nF_TK_44 hx.1 rfl nd_TK_take_1 ?_
  refine hm_iload_n C nd_TK_take_4 rfl ?_
  refine hm_callS C (ct_TK_endAt_out M ea fe hea.1 e he) nV_TK_endAt nq_TK_66 nu_TK_endAt rfl (rest := []) rfl (Nat.le_of_ble_eq_true rfl) (by decide) (by decide) (by omega) (by omega) nd_TK_take_5 (fun r M1 hp => ?_)
  obtain ⟨rfl, eM1⟩ := hp
  rw [eM1]
  refine hm_stk (st' := [.null]) rfl ?_
  refine hm_astore_nQ (r := none) C [(3, .null), (0, .ref x), (1, .int e), (2, .int u)] nd_TK_take_8 (by decide) rfl ?_
  refine hm_aload_n C nd_TK_take_9 rfl ?_
  refine hm_iload_n C nd_TK_take_10 rfl ?_
  rcases pk_ix u (n := W.length) hwl with hu | hu | ⟨v, hv, rfl⟩
  · refine hm_callV C (ct_TK_wireAt_out M x tm ea ka (a 4) wl mk we cw W.length fw hx.1 hW.1 hcw u (Or.inl hu)) nV_TK_wireAt [.int u] rfl hx.1 rfl nq_TK_97 nj_TK_wireAt nx_TK_wireAt rfl (rest := []) rfl (Nat.le_of_ble_eq_true rfl) (by decide) (by decide) (by omega) (by omega) nd_TK_take_11 (fun r M2 hp => ?_)
    obtain ⟨rfl, eM2⟩ := hp
    rw [eM2]
    refine hm_stk (st' := [.null]) rfl ?_
    refine hm_astoreQ (r := none) C [(4, .null), (3, .null), (0, .ref x), (1, .int e), (2, .int u)] nd_TK_take_14 (by decide) rfl ?_
    refine hm_aload_nN C nd_TK_take_16 rfl ?_
    refine hm_ifnull (tgt := 25) (r := none) C nd_TK_take_17 (by decide) (fun _ => ?_) (fun h => absurd rfl h)
    refine hm_iconst (v := (-1)) C nd_TK_take_25 (by decide) ?_
    exact hm_iret C E (by omega) (by omega) (⟨rfl, rfl⟩) nd_TK_take_26
  · refine hm_callV C (ct_TK_wireAt_out M x tm ea ka (a 4) wl mk we cw W.length fw hx.1 hW.1 hcw u (Or.inr hu)) nV_TK_wireAt [.int u] rfl hx.1 rfl nq_TK_97 nj_TK_wireAt nx_TK_wireAt rfl (rest := []) rfl (Nat.le_of_ble_eq_true rfl) (by decide) (by decide) (by omega) (by omega) nd_TK_take_11 (fun r M3 hp => ?_)
    obtain ⟨rfl, eM3⟩ := hp
    rw [eM3]
    refine hm_stk (st' := [.null]) rfl ?_
    refine hm_astoreQ (r := none) C [(4, .null), (3, .null), (0, .ref x), (1, .int e), (2, .int u)] nd_TK_take_14 (by decide) rfl ?_
    refine hm_aload_nN C nd_TK_take_16 rfl ?_
    refine hm_ifnull (tgt := 25) (r := none) C nd_TK_take_17 (by decide) (fun _ => ?_) (fun h => absurd rfl h)
    refine hm_iconst (v := (-1)) C nd_TK_take_25 (by decide) ?_
    exact hm_iret C E (by omega) (by omega) (⟨rfl, rfl⟩) nd_TK_take_26
  · obtain ⟨p, ip, q, iq, z, iz, hwc, -⟩ := hw v _ (List.getElem?_eq_getElem hv)
    refine hm_callV C (ct_TK_wireAt_in M x tm ea ka (a 4) wl mk we cw W.length fw hx.1 hW.1 hcw v hv _ hwc.1) nV_TK_wireAt [.int (nI v)] rfl hx.1 rfl nq_TK_97 nj_TK_wireAt nx_TK_wireAt rfl (rest := []) rfl (Nat.le_of_ble_eq_true rfl) (by decide) (by decide) (by omega) (by omega) nd_TK_take_11 (fun r M4 hp => ?_)
    obtain ⟨rfl, eM4⟩ := hp
    rw [eM4]
    refine hm_stk (st' := [.ref (fw v)]) rfl ?_
    refine hm_astore C [(4, .ref (fw v)), (3, .null), (0, .ref x), (1, .int e), (2, .int (nI v))] nd_TK_take_14 (by decide) rfl ?_
    refine hm_aload_nN C nd_TK_take_16 rfl ?_
    refine hm_ifnull (tgt := 25) (r := none) C nd_TK_take_17 (by decide) (fun _ => ?_) (fun h => absurd rfl h)
    refine hm_iconst (v := (-1)) C nd_TK_take_25 (by decide) ?_
    exact hm_iret C E (by omega) (by omega) (⟨rfl, rfl⟩) nd_TK_take_26
set_option maxHeartbeats 4000000 in
set_option maxRecDepth 100000 in
theorem ct_TK_take_w {l : Launch} {D : va_G} {BG : Nat → Option Cell} (M : hm_M) (x tm ea ka wl we cw n c se mk dr : Nat) (a lk fw : Nat → Nat) (Es : Nat → sp_E) (W : List sp_W) (F : Nat → Prop) (T : Nat → Nat → Nat → Prop) (G : Nat → Prop) (hI : tk_I D M x tm ea ka wl we cw n c se mk dr a lk fw Es W F T G) (hcw : cw ≤ 40000) (j : Nat) (u : Int32) (hj : j < 2) (hu : u < 0 ∨ nI W.length ≤ u) : hm_ct l D BG ny_TK_take prog_1_method_3_code 6 (some .int) 12 290 0 0 [.ref x, .int (nI j), .int u] M (fun r M' => r = some (.int (-1)) ∧ M' = M) := by
  refine hm_ct_of (by decide +kernel) (by exact Nat.le_of_ble_eq_true rfl) ?_
  intro X C E
  have C : hm_C X l D BG prog_1_method_3_code "TurnedKeys" "take" 6 12 290 0 0 := C
  refine hm_lv (lv' := [(0, .ref x), (1, .int (nI j)), (2, .int u)]) rfl ?_
  obtain ⟨hx, ⟨fe, hea, fe0, fe1⟩, ⟨fk, hka, fk0, fk1⟩, hS, hE, ia, il, hW, hw⟩ := id hI
  refine hm_aload_n C nd_TK_take_0 rfl ?_
  refine hm_get C nF_TK_44 hx.1 rfl nd_TK_take_1 ?_
  refine hm_iload_n C nd_TK_take_4 rfl ?_
  refine hm_callS C (ct_TK_endAt_in M ea j (a j) fe hea.1 hj (by obtain rfl | rfl : j = 0 ∨ j = 1 := (by omega); exact fe0; exact fe1)) nV_TK_endAt nq_TK_66 nu_TK_endAt rfl (rest := []) rfl (Nat.le_of_ble_eq_true rfl) (by decide) (by decide) (by omega) (by omega) nd_TK_take_5 (fun r M1 hp => ?_)
  obtain ⟨rfl, eM1⟩ := hp
  rw [eM1]
  refine hm_stk (st' := [.ref (a j)]) rfl ?_
  refine hm_astore_n C [(3, .ref (a j)), (0, .ref x), (1, .int (nI j)), (2, .int u)] nd_TK_take_8 (by decide) rfl ?_
  refine hm_aload_n C nd_TK_take_9 rfl ?_
  refine hm_iload_n C nd_TK_take_10 rfl ?_
  refine hm_callV C (ct_TK_wireAt_out M x tm ea ka (a 4) wl mk we cw W.length fw hx.1 hW.1 hcw u hu) nV_TK_wireAt [.int u] rfl hx.1 rfl nq_TK_97 nj_TK_wireAt nx_TK_wireAt rfl (rest := []) rfl (Nat.le_of_ble_eq_true rfl) (by decide) (by decide) (by omega) (by omega) nd_TK_take_11 (fun r M2 hp => ?_)
  obtain ⟨rfl, eM2⟩ := hp
  rw [eM2]
  refine hm_stk (st' := [.null]) rfl ?_
  refine hm_astoreQ (r := none) C [(4, .null), (3, .ref (a j)), (0, .ref x), (1, .int (nI j)), (2, .int u)] nd_TK_take_14 (by decide) rfl ?_
  refine hm_aload_n C nd_TK_take_16 rfl ?_
  refine hm_ifnull (tgt := 25) (r := (some (a j))) C nd_TK_take_17 (by decide) (fun h => by cases h) (fun _ => ?_)
  refine hm_aloadN C nd_TK_take_20 rfl ?_
  refine hm_ifnonnull (tgt := 27) (r := none) C nd_TK_take_22 (by decide) (fun h => absurd rfl h) (fun _ => ?_)
  refine hm_iconst (v := (-1)) C nd_TK_take_25 (by decide) ?_
  exact hm_iret C E (by omega) (by omega) (⟨rfl, rfl⟩) nd_TK_take_26
theorem tk_I.es {D : va_G} {M : hm_M} {x tm ea ka wl we cw n c se mk dr : Nat} {a lk fw : Nat → Nat} {E E' : Nat → sp_E} {W : List sp_W} {F : Nat → Prop} {T : Nat → Nat → Nat → Prop} {G : Nat → Prop} (h : tk_I D M x tm ea ka wl we cw n c se mk dr a lk fw E W F T G) (hE : ∀ i, i < 4 → E' i = E i) : tk_I D M x tm ea ka wl we cw n c se mk dr a lk fw E' W F T G := by
  obtain ⟨h1, h2, h3, h4, h5, h6⟩ := h
  exact ⟨h1, h2, h3, h4, fun i hi => (by obtain ⟨e, g1, g2⟩ := h5 i hi; exact ⟨e, fun q => by rw [hE i q]; exact g1 q, g2⟩), h6⟩
set_option maxHeartbeats 4000000 in
set_option maxRecDepth 100000 in
theorem ct_TK_take_go {l : Launch} {D : va_G} {BG : Nat → Option Cell} (M : hm_M) (x tm ea ka wl we cw n c se mk dr : Nat) (a lk fw : Nat → Nat) (Es : Nat → sp_E) (W : List sp_W) (F : Nat → Prop) (T : Nat → Nat → Nat → Prop) (G : Nat → Prop) (hI : tk_I D M x tm ea ka wl we cw n c se mk dr a lk fw Es W F T G) (hcw : cw ≤ 40000) (j v : Nat) (hj : j < 2) (s0 ix bw k ky le : Nat) (hwg : W[v]? = some (s0, ix, bw, k, ky, le)) (hs : ¬ s0 = j) (hs2 : s0 < 2) (hmk : mk < 512) (hcn : c ≤ 2 * n + 10) (hn : n ≤ 19600) (ro mi th sc st bf rc nx : Nat) (lf : List (Nat × Nat × Nat)) (he : Es j = (ro, mi, th, sc, st, bf, rc, nx, lf)) (e d : Nat) (hk : k = sm_t 0 e 0) (hmi : mi = sm_t 0 d 0) (hix : ix < 2 ^ 28) (hbw : bw < 2 ^ 28) (hnx : nx < 2 ^ 28) (hlz : ∀ (i : Nat) (q : Nat × Nat × Nat), lf[i]? = some q → q.2.2 ≠ 0) : hm_ct l D BG ny_TK_take prog_1_method_3_code 6 (some .int) 12 290 (10 + ts_kc (ts_k T) n c (sp_tk (Es j) (s0, ix, bw, k, ky, le)).1) (30 + ts_ks (ts_k T) n c (sp_tk (Es j) (s0, ix, bw, k, ky, le)).1) [.ref x, .int (nI j), .int (nI v)] M (fun r M' => r = some (.int (sp_tk (Es j) (s0, ix, bw, k, ky, le)).2.1) ∧ tk_R D M' x (ts_r (ts_k T) n c (sp_tk (Es j) (s0, ix, bw, k, ky, le)).1).1 (ts_r (ts_k T) n c (sp_tk (Es j) (s0, ix, bw, k, ky, le)).1).2 cw (mk + 1) dr (fun i => if i = j then (sp_tk (Es j) (s0, ix, bw, k, ky, le)).2.2 else Es i) W G) := by
  refine hm_ct_of (by decide +kernel) (by exact Nat.le_of_ble_eq_true rfl) ?_
  intro X C E
  have C : hm_C X l D BG prog_1_method_3_code "TurnedKeys" "take" 6 12 290 (10 + ts_kc (ts_k T) n c (sp_tk (Es j) (s0, ix, bw, k, ky, le)).1) (30 + ts_ks (ts_k T) n c (sp_tk (Es j) (s0, ix, bw, k, ky, le)).1) := C
  have htk1 : (sp_tk (Es j) (s0, ix, bw, k, ky, le)).1 = (kf k ix bw mi (ro, th, sc, rc, nx, lf)).1 := by
    rw [he]
    unfold sp_tk
    dsimp only
    rcases (kf k ix bw mi (ro, th, sc, rc, nx, lf)) with ⟨vs0, _ | ⟨key0, ro0, th0, sc0, rc0, nx0, lf0⟩⟩
    · rfl
    · dsimp only
      split <;> rfl
  refine hm_lv (lv' := [(0, .ref x), (1, .int (nI j)), (2, .int (nI v))]) rfl ?_
  obtain ⟨hx, ⟨fe, hea, fe0, fe1⟩, ⟨fk, hka, fk0, fk1⟩, hS, hE, ia, il, hW, hw⟩ := id hI
  have hvl : v < W.length := (List.getElem?_eq_some_iff.mp hwg).1
  obtain ⟨p, ip, q, iq, z, iz, hwc, hT1, hT2, hT3⟩ := hw v _ hwg
  have hW1 := hW.1
  refine hm_aload_n C nd_TK_take_0 rfl ?_
  refine hm_get C nF_TK_44 hx.1 rfl nd_TK_take_1 ?_
  refine hm_iload_n C nd_TK_take_4 rfl ?_
  refine hm_callS C (ct_TK_endAt_in M ea j (a j) fe hea.1 hj (by obtain rfl | rfl : j = 0 ∨ j = 1 := (by omega); exact fe0; exact fe1)) nV_TK_endAt nq_TK_66 nu_TK_endAt rfl (rest := []) rfl (Nat.le_of_ble_eq_true rfl) (by decide) (by decide) (by omega) (by omega) nd_TK_take_5 (fun r M1 hp => ?_)
  obtain ⟨rfl, eM1⟩ := hp
  rw [eM1]
  refine hm_stk (st' := [.ref (a j)]) rfl ?_
  refine hm_astore_n C [(3, .ref (a j)), (0, .ref x), (1, .int (nI j)), (2, .int (nI v))] nd_TK_take_8 (by decide) rfl ?_
  refine hm_aload_n C nd_TK_take_9 rfl ?_
  refine hm_iload_n C nd_TK_take_10 rfl ?_
  refine hm_callV C (ct_TK_wireAt_in M x tm ea ka (a 4) wl mk we cw W.length fw hx.1 hW1 hcw v hvl _ hwc.1) nV_TK_wireAt [.int (nI v)] rfl hx.1 rfl nq_TK_97 nj_TK_wireAt nx_TK_wireAt rfl (rest := []) rfl (Nat.le_of_ble_eq_true rfl) (by decide) (by decide) (by omega) (by omega) nd_TK_take_11 (fun r M2 hp => ?_)
  obtain ⟨rfl, eM2⟩ := hp
  rw [eM2]
  refine hm_stk (st' := [.ref (fw v)]) rfl ?_
  refine hm_astore C [(4, .ref (fw v)), (3, .ref (a j)), (0, .ref x), (1, .int (nI j)), (2, .int (nI v))] nd_TK_take_14 (by decide) rfl ?_
  refine hm_aload_n C nd_TK_take_16 rfl ?_
  refine hm_ifnull (tgt := 25) (r := (some (a j))) C nd_TK_take_17 (by decide) (fun h => by cases h) (fun _ => ?_)
  refine hm_aload C nd_TK_take_20 rfl ?_
  refine hm_ifnonnull (tgt := 27) (r := (some (fw v))) C nd_TK_take_22 (by decide) (fun _ => ?_) (fun h => by cases h)
  refine hm_aload C nd_TK_take_27 rfl ?_
  refine hm_get C nF_TK_101 hwc.1 rfl nd_TK_take_29 ?_
  refine hm_iload_n C nd_TK_take_32 rfl ?_
  refine hm_icmp_ne (tgt := 39) C nd_TK_take_33 (by decide) (fun c1 => ?_) (fun c1 => hs ((nI_eq (by omega) (by omega)).mp c1) |>.elim)
  refine hm_aload_n C nd_TK_take_39 rfl ?_
  refine hm_callV C (ct_TK_mayMakeMore M x tm ea ka (a 4) wl mk hx.1 hmk) nV_TK_mayMakeMore [] rfl hx.1 rfl nq_TK_70 nj_TK_mayMakeMore nx_TK_mayMakeMore rfl (rest := []) rfl (Nat.le_of_ble_eq_true rfl) (by decide) (by decide) (by omega) (by omega) nd_TK_take_40 (fun r M3 hp => ?_)
  obtain ⟨rfl, hMk⟩ := hp
  have hI1 := hI.mk (mk + 1)
  rw [← hMk] at hI1
  refine hm_stk (st' := [.int 1]) rfl ?_
  refine hm_if_ne (tgt := 48) C nd_TK_take_43 (by decide) (fun c2 => ?_) (fun c2 => absurd c2 (by decide))
  obtain ⟨hx1, -, -, hS1, hE1, -, -, -, hw1⟩ := id hI1
  obtain ⟨e4, -, hR4⟩ := hE1 4 (by omega)
  obtain ⟨ej, hej, hRj⟩ := hE1 j (by omega)
  have hej := hej (by omega)
  subst hej
  have n4 : a 4 ≠ a j := fun y => by have := ia _ _ (by omega) (by omega) y; omega
  have l4 : lk 4 ≠ lk j := fun y => by have := il _ _ (by omega) (by omega) y; omega
  obtain ⟨Mb, hct, hPb, hRb, -⟩ := sp_bec hS1 hR4 hRj n4 l4
  obtain ⟨⟨v4, hA4⟩, -⟩ := hR4.ob
  refine hm_aload_n C nd_TK_take_48 rfl ?_
  refine hm_get C nF_TK_55 hx1.1 rfl nd_TK_take_49 ?_
  refine hm_aload_n C nd_TK_take_52 rfl ?_
  refine hm_callV C (hct l BG) nV_EN_become [.ref (a j)] rfl hA4.1 rfl nq_TK_107 nj_EN_become nx_EN_become rfl (rest := []) rfl (Nat.le_of_ble_eq_true rfl) (by decide) (by decide) (by omega) (by omega) nd_TK_take_53 (fun r M4 hp => ?_)
  obtain ⟨rfl, eMb⟩ := hp
  rw [eMb]
  refine hm_stk (st' := []) rfl ?_
  have hI2 : tk_I D Mb x tm ea ka wl we cw n c se (mk + 1) dr a lk fw Es W F T G := hI1.on (by omega) hPb hRb (fun i hi => by rw [if_neg (by omega)])
  rw [he] at hRb
  obtain ⟨hx2, -, -, hS2, -, -, -, -, hw2⟩ := id hI2
  obtain ⟨p, ip, q, iq, z, iz, hwc, hT1, hT2, hT3⟩ := hw2 v _ hwg
  obtain ⟨⟨v42, hA42⟩, -⟩ := hRb.ob
  obtain ⟨la2, ht2⟩ := hI2.tm
  refine hm_aload_n C nd_TK_take_56 rfl ?_
  refine hm_get C nF_TK_55 hx2.1 rfl nd_TK_take_57 ?_
  refine hm_aload C nd_TK_take_60 rfl ?_
  refine hm_aload_n C nd_TK_take_62 rfl ?_
  refine hm_get C nF_TK_10 hx2.1 rfl nd_TK_take_63 ?_
  refine hm_callV C (ct_EN_keyFor Mb tm F T G dr n c se hS2 hcn hn (a 4) (lk 4) sp_b ro mi th sc st bf rc nx lf hRb (fw v) s0 p ip k e ix bw d (some q) (some z) hwc hT1 hk hmi hix hbw hnx hlz) nV_EN_keyFor [.ref (fw v), .ref tm] rfl hA42.1 rfl nq_TK_111 nj_EN_keyFor nx_EN_keyFor rfl (rest := []) rfl (Nat.le_of_ble_eq_true rfl) (by decide) (by decide) (by rw [htk1]; omega) (by rw [htk1]; omega) nd_TK_take_66 (fun r M5 hp => ?_)
  obtain ⟨F3, T3, hP3, hk3⟩ := hp
  have hcn3 := hP3.bd hcn
  generalize hkf : (kf k ix bw mi (ro, th, sc, rc, nx, lf)) = KF at hP3 hk3 hcn3 ⊢
  obtain ⟨vs, o⟩ := KF
  dsimp only at hP3 hk3 hcn3 ⊢
  have hst : sp_tk (Es j) (s0, ix, bw, k, ky, le) = (match (vs, o) with | (vs, none) => (vs, -13, Es j) | (vs, some (key, ro', th', sc', rc', nx', lf')) => if key = ky then (vs, 1, (ro', mi, th', sc', st, bf, rc', nx', lf')) else (vs, -14, Es j)) := by rw [he]; unfold sp_tk; dsimp only; rw [hkf]
  rcases o with _ | ⟨key, ro', th', sc', rc', nx', lf'⟩
  · obtain ⟨rfl, ro9, th9, sc9, rc9, nx9, lf9, hR9⟩ := hk3
    have hI3 : tk_I D M5 x tm ea ka wl we cw (ts_r (ts_k T) n c vs).1 (ts_r (ts_k T) n c vs).2 se (mk + 1) dr a lk fw Es W F3 T3 G := hI2.on (e' := (ro9, mi, th9, sc9, st, bf, rc9, nx9, lf9)) (j := 4) (by omega) hP3 hR9 (fun i hi => by rw [if_neg (by omega)])
    refine hm_stk (st' := [.null]) rfl ?_
    refine hm_astoreQ (r := none) C [(5, .null), (4, .ref (fw v)), (3, .ref (a j)), (0, .ref x), (1, .int (nI j)), (2, .int (nI v))] nd_TK_take_69 (by decide) rfl ?_
    refine hm_aloadN C nd_TK_take_71 rfl ?_
    refine hm_ifnonnull (tgt := 79) (r := none) C nd_TK_take_73 (by decide) (fun h => absurd rfl h) (fun _ => ?_)
    refine hm_bipush (v := (-13)) C nd_TK_take_76 (by decide) ?_
    exact hm_iret C E (by rw [hst]; dsimp only; omega) (by rw [hst]; dsimp only; omega) (⟨by rw [hst], tm, ea, ka, wl, we, se, a, lk, fw, F3, T3, by rw [hst]; exact hI3.es (fun i hi => by dsimp only; by_cases y : i = j; rw [if_pos y, y]; rw [if_neg y])⟩) nd_TK_take_78
  · obtain ⟨q3, i3, rfl, hq3, hR9⟩ := hk3
    dsimp only at hst
    have hI3 : tk_I D M5 x tm ea ka wl we cw (ts_r (ts_k T) n c vs).1 (ts_r (ts_k T) n c vs).2 se (mk + 1) dr a lk fw Es W F3 T3 G := hI2.on (e' := (ro', mi, th', sc', st, bf, rc', nx', lf')) (j := 4) (by omega) hP3 hR9 (fun i hi => by rw [if_neg (by omega)])
    obtain ⟨hx3, -, -, hS3, hE3, -, -, -, hw3⟩ := id hI3
    obtain ⟨p3, ip3, y3, iy3, z3, iz3, hwc3, -, hT23, -⟩ := hw3 v _ hwg
    have hun := (ts_uni hS3 hq3 hT23).1
    refine hm_stk (st' := [.ref q3]) rfl ?_
    refine hm_astore C [(5, .ref q3), (4, .ref (fw v)), (3, .ref (a j)), (0, .ref x), (1, .int (nI j)), (2, .int (nI v))] nd_TK_take_69 (by decide) rfl ?_
    refine hm_aload C nd_TK_take_71 rfl ?_
    refine hm_ifnonnull (tgt := 79) (r := (some q3)) C nd_TK_take_73 (by decide) (fun _ => ?_) (fun h => by cases h)
    refine hm_aload C nd_TK_take_79 rfl ?_
    refine hm_aload C nd_TK_take_81 rfl ?_
    refine hm_get C nF_TK_115 hwc3.1 rfl nd_TK_take_83 ?_
    refine hm_acmp_eq (tgt := 92) (rx := (some q3)) (ry := (some y3)) C nd_TK_take_86 (by decide) (fun c3 => ?_) (fun c3 => ?_)
    · have hey : key = ky := hun.mp (Option.some.inj c3)
      rw [if_pos hey] at hst
      obtain ⟨ej3, hej3, hRj3⟩ := hE3 j (by omega)
      obtain ⟨Mc, hctc, hPc, hRc, -⟩ := sp_bec hS3 hRj3 (show sp_R D M5 F3 T3 (a 4) (lk 4) (ro', mi, th', sc', st, bf, rc', nx', lf') from hR9) (Ne.symm n4) (Ne.symm l4)
      obtain ⟨⟨vj3, hAj3⟩, -⟩ := hRj3.ob
      refine hm_aload_n C nd_TK_take_92 rfl ?_
      refine hm_aload_n C nd_TK_take_93 rfl ?_
      refine hm_get C nF_TK_55 hx3.1 rfl nd_TK_take_94 ?_
      refine hm_callV C (hctc l BG) nV_EN_become [.ref (a 4)] rfl hAj3.1 rfl nq_TK_107 nj_EN_become nx_EN_become rfl (rest := []) rfl (Nat.le_of_ble_eq_true rfl) (by decide) (by decide) (by rw [hst]; dsimp only; omega) (by rw [hst]; dsimp only; omega) nd_TK_take_97 (fun r M6 hp => ?_)
      obtain ⟨rfl, eMc⟩ := hp
      rw [eMc]
      refine hm_stk (st' := []) rfl ?_
      refine hm_iconst (v := 1) C nd_TK_take_100 (by decide) ?_
      exact hm_iret C E (by rw [hst]; dsimp only; omega) (by rw [hst]; dsimp only; omega) (⟨by rw [hst], tm, ea, ka, wl, we, se, a, lk, fw, F3, T3, by rw [hst]; exact hI3.on (by omega) hPc hRc (fun i hi => rfl)⟩) nd_TK_take_101
    · have hey : ¬ key = ky := fun y => c3 (congrArg some (hun.mpr y))
      rw [if_neg hey] at hst
      refine hm_bipush (v := (-14)) C nd_TK_take_89 (by decide) ?_
      exact hm_iret C E (by rw [hst]; dsimp only; omega) (by rw [hst]; dsimp only; omega) (⟨by rw [hst], tm, ea, ka, wl, we, se, a, lk, fw, F3, T3, by rw [hst]; exact hI3.es (fun i hi => by dsimp only; by_cases y : i = j; rw [if_pos y, y]; rw [if_neg y])⟩) nd_TK_take_91
