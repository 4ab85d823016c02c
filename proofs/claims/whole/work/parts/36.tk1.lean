theorem hm_step.mn {M M' : hm_M} {F : Nat → Prop} (h : ∀ z, M z ≠ none → M' z = M z) : hm_step M F M' F := ⟨fun a _ q => h a q, fun _ q => Or.inl q⟩
theorem sp_R.mn {D : va_G} {M M' : hm_M} {F : Nat → Prop} {T : Nat → Nat → Nat → Prop} {a lk : Nat} {e : sp_E} (h : sp_R D M F T a lk e) (hs : ∀ z, M z ≠ none → M' z = M z) : sp_R D M' F T a lk e := en_R.step h (hm_step.mn hs) (fun _ _ _ q => q)
theorem sp_bec {D : va_G} {M : hm_M} {tm : Nat} {F : Nat → Prop} {T : Nat → Nat → Nat → Prop} {G : Nat → Prop} {dr n c se a lk b lk2 : Nat} {e e2 : sp_E} (hS : ts_S D M tm F T G dr n c se) (h1 : sp_R D M F T a lk e) (h2 : sp_R D M F T b lk2 e2) (hab : a ≠ b) (hll : lk ≠ lk2) : ∃ M2 : hm_M, (∀ (l : Launch) (BG : Nat → Option Cell), hm_ct l D BG ny_EN_become prog_2_method_3_code 3 none 0 0 0 0 [.ref a, .ref b] M (fun r M' => r = none ∧ M' = M2)) ∧ en_P D tm M F T G n c se dr [] a lk M2 F T ∧ sp_R D M2 F T a lk e2 ∧ (∀ z, z ≠ a → z ≠ lk → M2 z = M z) := by
  obtain ⟨ro2, mi2, th2, sc2, st2, bf2, rc2, nx2, lf2⟩ := e2
  obtain ⟨b1, b2, b3, b4, b5, b6, f, hA, o1, o2, o3, o4, o5, o6, hL⟩ := h1
  obtain ⟨c1, c2, c3, c4, c5, c6, g, hB, p1, p2, p3, p4, p5, p6, hK⟩ := h2
  dsimp only at hB p2 p3 p4 p5 p6 hK
  have hal : a ≠ lk := hm_neA hA.1 hL.1.1
  refine ⟨_, fun l BG => ct_EN_become M a lk b1 b2 b3 b4 b5 _ _ b6 _ _ f hA.1 hL.1.1 b lk2 c1 c2 c3 c4 c5 _ _ c6 _ _ g hB.1 hK.1.1 hab hll (fun i hi z hz => ?_), ((en_P.rf hS).put (Or.inr rfl) hL.1.2).put (Or.inl rfl) hA.2, ?_, fun z z1 z2 => by rw [hm_up_n _ _ z1, hm_up_n _ _ z2]⟩
  · rcases Nat.lt_or_ge i lf2.length with hl | hl
    · obtain ⟨-, y, pk, ky, h5, h6, -⟩ := hK.2.2.1 i lf2[i] (List.getElem?_eq_getElem hl)
      rw [hz] at h5
      cases h5
      exact ⟨_, h6.1⟩
    · rw [hK.2.2.2 i hl] at hz
      cases hz
  · refine ⟨c1, c2, c3, c4, c5, c6, (fun j => if j < 8 then g j else f j), ⟨hm_up_s _ _ _, hA.2⟩, p1, p2, p3, p4, p5, p6, ⟨by rw [hm_up_n _ _ (Ne.symm hal)]; exact hm_up_s _ _ _, hL.1.2⟩, hK.2.1, fun i q hq => ?_, fun i hi => ?_⟩
    · obtain ⟨h4, y, pk, ky, h5, h6, h7, h8⟩ := hK.2.2.1 i q hq
      have hi : i < lf2.length := (List.getElem?_eq_some_iff.mp hq).1
      have hk8 : lf2.length ≤ 8 := hK.2.1
      refine ⟨h4, y, pk, ky, by dsimp only; rw [if_pos (by omega)]; exact h5, ⟨?_, h6.2⟩, h7, h8⟩
      rw [hm_up_n _ _ (hm_ne h6.1 hA.1 (by decide)), hm_up_n _ _ (hm_neA h6.1 hL.1.1)]
      exact h6.1
    · dsimp only
      by_cases h8 : i < 8
      · rw [if_pos h8]
        exact hK.2.2.2 i hi
      · rw [if_neg h8]
        exact hL.2.2.2 i (by have := hL.2.1; omega)
set_option maxHeartbeats 4000000 in
set_option maxRecDepth 100000 in
theorem ct_EN_copied {l : Launch} {D : va_G} {BG : Nat → Option Cell} (M : hm_M) (tm : Nat) (F : Nat → Prop) (T : Nat → Nat → Nat → Prop) (G : Nat → Prop) (dr n c se : Nat) (hS : ts_S D M tm F T G dr n c se) (a lk : Nat) (e : sp_E) (hR : sp_R D M F T a lk e) : hm_ct l D BG ny_EN_copied prog_2_method_2_code 2 (some (.object "TurnedKeys$End")) 2 38 2 19 [.ref a] M (fun r M' => ∃ q lq : Nat, r = some (.ref q) ∧ M q = none ∧ M lq = none ∧ q ≠ lq ∧ (∀ z, z ≠ q → z ≠ lq → M' z = M z) ∧ sp_R D M' F T q lq e) := by
  refine hm_ct_of (by decide +kernel) (by exact Nat.le_of_ble_eq_true rfl) ?_
  intro X C E
  have C : hm_C X l D BG prog_2_method_2_code "TurnedKeys$End" "copied" 2 2 38 2 19 := C
  refine hm_lv (lv' := [(0, .ref a)]) rfl ?_
  obtain ⟨b1, b2, b3, b4, b5, b6, f, hA, o1, o2, o3, o4, o5, o6, hL⟩ := id hR
  refine hm_newN C 11 nB_EN_12 rfl (by omega) (by omega) nd_EN_copied_0 (fun q hq_q => ?_)
  generalize hM1 : hm_up M q (hm_ob 3 [.null, .null, .null, .null, .null, .int 0, .int 0, .null, .int 0, .null, .int 0]) = M1
  have fM1_0 : M1 a = some (hm_ob 3 [va_rf b1, va_rf b2, va_rf b3, va_rf b4, va_rf b5, .int (nI e.2.2.2.2.1), .int (nI e.2.2.2.2.2.1), va_rf b6, .int (nI e.2.2.2.2.2.2.2.1), .ref lk, .int (nI e.2.2.2.2.2.2.2.2.length)]) := by rw [← hM1, hm_up_n _ _ (hm_neF hA.1 hq_q)]; exact hA.1
  have fM1_1 : M1 q = some (hm_ob 3 [.null, .null, .null, .null, .null, .int 0, .int 0, .null, .int 0, .null, .int 0]) := by rw [← hM1]; exact hm_up_s _ _ _
  refine hm_dup C nd_EN_copied_3 rfl ?_
  refine hm_aload_n C nd_EN_copied_4 rfl ?_
  refine hm_get C nF_EN_17 fM1_0 rfl nd_EN_copied_5 ?_
  refine hm_aload_n C nd_EN_copied_8 rfl ?_
  refine hm_get C nF_EN_21 fM1_0 rfl nd_EN_copied_9 ?_
  refine hm_aload_n C nd_EN_copied_12 rfl ?_
  refine hm_get C nF_EN_24 fM1_0 rfl nd_EN_copied_13 ?_
  refine hm_callI C (ct_EN_init M1 q b1 b2 b3 fM1_1) nV_EN_init rfl nq_EN_27 nj_EN_init [va_rf b1, va_rf b2, va_rf b3] rfl rfl (rest := [.ref q]) rfl (Nat.le_of_ble_eq_true rfl) (by decide) (by decide) (by omega) (by omega) nd_EN_copied_16 (fun r M2 hp => ?_)
  obtain ⟨lq, rfl, hlq, hM2⟩ := hp
  refine hm_stk (st' := [.ref q]) rfl ?_
  have hq1 : q ≠ lq := hm_neF fM1_1 hlq
  have hlqM : M lq = none := by rw [← hM1, hm_up_n _ _ (Ne.symm hq1)] at hlq; exact hlq
  have hmn : ∀ z, z ≠ q → z ≠ lq → M2 z = M z := fun z z1 z2 => by rw [hM2, hm_up_n _ _ z1, hm_up_n _ _ z2, ← hM1, hm_up_n _ _ z1]
  have hmn2 : ∀ z, M z ≠ none → M2 z = M z := fun z hz => hmn z (fun q0 => hz (by rw [q0]; exact hq_q)) (fun q0 => hz (by rw [q0]; exact hlqM))
  have hqF : ¬ F q := fun h => ts_S_some hS h hq_q
  have hlF : ¬ F lq := fun h => ts_S_some hS h hlqM
  have hS2 : ts_S D M2 tm F T G dr n c se := hS.same (fun z hz => hmn2 z (ts_S_some hS hz))
  have hR2 := hR.mn hmn2
  have hQ2 : sp_R D M2 F T q lq (e.1, e.2.1, 0, 0, 0, 0, 0, 0, []) := ⟨b1, b2, b3, none, none, none, (fun _ => none), ⟨by rw [hM2]; exact hm_up_s _ _ _, hqF⟩, o1, o2, o3, ts_o_0, ts_o_0, ts_o_0, ⟨by rw [hM2, hm_up_n _ _ (Ne.symm hq1)]; exact hm_up_s _ _ _, hlF⟩, Nat.zero_le _, fun i y hy => (by cases hy), fun _ _ => rfl⟩
  have hqa : q ≠ a := fun z => by rw [z, hA.1] at hq_q; cases hq_q
  have hla : lq ≠ lk := fun z => by rw [z, hL.1.1] at hlqM; cases hlqM
  obtain ⟨M3, hct, hP3, hR3, hfr3⟩ := sp_bec hS2 hQ2 hR2 hqa hla
  have hqv : M2 q = some (hm_ob 3 [va_rf b1, va_rf b2, va_rf b3, .null, .null, .int 0, .int 0, .null, .int 0, .ref lq, .int 0]) := by rw [hM2]; exact hm_up_s _ _ _
  refine hm_astore_n C [(1, .ref q), (0, .ref a)] nd_EN_copied_19 (by decide) rfl ?_
  refine hm_aload_n C nd_EN_copied_20 rfl ?_
  refine hm_aload_n C nd_EN_copied_21 rfl ?_
  refine hm_callV C (hct l BG) nV_EN_become [.ref a] rfl hqv rfl nq_EN_30 nj_EN_become nx_EN_become rfl (rest := []) rfl (Nat.le_of_ble_eq_true rfl) (by decide) (by decide) (by omega) (by omega) nd_EN_copied_22 (fun r M3 hp => ?_)
  obtain ⟨rfl, rfl⟩ := hp
  refine hm_stk (st' := []) rfl ?_
  refine hm_aload_n C nd_EN_copied_25 rfl ?_
  exact hm_aret (r := (some q)) C E (Or.inl ⟨_, rfl⟩) (by omega) (by omega) (⟨q, lq, rfl, hq_q, hlqM, hq1, fun z z1 z2 => by rw [hfr3 z z1 z2]; exact hmn z z1 z2, hR3⟩) nd_EN_copied_26
set_option maxHeartbeats 4000000 in
set_option maxRecDepth 100000 in
theorem ct_TK_endAt_in {l : Launch} {D : va_G} {BG : Nat → Option Cell} (M : hm_M) (ea j p : Nat) (f : Nat → Option Nat) (ha : M ea = some (hm_ar D 1 2 f)) (hj : j < 2) (hf : f j = some p) : hm_ct l D BG ny_TK_endAt prog_1_method_13_code 2 (some (.object "TurnedKeys$End")) 0 0 0 0 [.ref ea, .int (nI j)] M (fun r M' => r = some (.ref p) ∧ M' = M) := by
  refine hm_ct_of (by decide +kernel) (by exact Nat.le_of_ble_eq_true rfl) ?_
  intro X C E
  have C : hm_C X l D BG prog_1_method_13_code "TurnedKeys" "endAt" 2 0 0 0 0 := C
  refine hm_lv (lv' := [(0, .ref ea), (1, .int (nI j))]) rfl ?_
  refine hm_iload_n C nd_TK_endAt_0 rfl ?_
  refine hm_if_lt (tgt := 16) C nd_TK_endAt_1 (by decide) (fun c1 => absurd c1 (nI_pos (by omega))) (fun c1 => ?_)
  refine hm_iload_n C nd_TK_endAt_4 rfl ?_
  refine hm_aload_n C nd_TK_endAt_5 rfl ?_
  refine hm_alen (t := 1) C rfl ha nd_TK_endAt_6 ?_
  refine hm_icmp_ge (tgt := 16) C nd_TK_endAt_7 (by decide) (fun c2 => absurd c2 (nI_ge (by omega) (by omega))) (fun c2 => ?_)
  refine hm_aload_n C nd_TK_endAt_10 rfl ?_
  refine hm_iload_n C nd_TK_endAt_11 rfl ?_
  refine hm_aald (t := 1) (j := j) C rfl ha rfl hj (by decide) nd_TK_endAt_12 ?_
  rw [hf]
  refine hm_stk (st' := [.ref p]) rfl ?_
  refine hm_goto (tgt := 17) C nd_TK_endAt_13 (by decide) ?_
  exact hm_aret (r := (some p)) C E (Or.inl ⟨_, rfl⟩) (by omega) (by omega) (⟨rfl, rfl⟩) nd_TK_endAt_17
set_option maxHeartbeats 4000000 in
set_option maxRecDepth 100000 in
theorem ct_TK_endAt_out {l : Launch} {D : va_G} {BG : Nat → Option Cell} (M : hm_M) (ea : Nat) (f : Nat → Option Nat) (ha : M ea = some (hm_ar D 1 2 f)) (e : Int32) (he : e < 0 ∨ nI 2 ≤ e) : hm_ct l D BG ny_TK_endAt prog_1_method_13_code 2 (some (.object "TurnedKeys$End")) 0 0 0 0 [.ref ea, .int e] M (fun r M' => r = some .null ∧ M' = M) := by
  refine hm_ct_of (by decide +kernel) (by exact Nat.le_of_ble_eq_true rfl) ?_
  intro X C E
  have C : hm_C X l D BG prog_1_method_13_code "TurnedKeys" "endAt" 2 0 0 0 0 := C
  refine hm_lv (lv' := [(0, .ref ea), (1, .int e)]) rfl ?_
  refine hm_iload_n C nd_TK_endAt_0 rfl ?_
  refine hm_if_lt (tgt := 16) C nd_TK_endAt_1 (by decide) (fun c1 => ?_) (fun c1 => ?_)
  · refine hm_null C nd_TK_endAt_16 ?_
    exact hm_aret (r := none) C E (Or.inl ⟨_, rfl⟩) (by omega) (by omega) (⟨rfl, rfl⟩) nd_TK_endAt_17
  · refine hm_iload_n C nd_TK_endAt_4 rfl ?_
    refine hm_aload_n C nd_TK_endAt_5 rfl ?_
    refine hm_alen (t := 1) C rfl ha nd_TK_endAt_6 ?_
    refine hm_icmp_ge (tgt := 16) C nd_TK_endAt_7 (by decide) (fun c2 => ?_) (fun c2 => absurd (by rcases he with h | h; exact absurd h c1; exact h) c2)
    refine hm_null C nd_TK_endAt_16 ?_
    exact hm_aret (r := none) C E (Or.inl ⟨_, rfl⟩) (by omega) (by omega) (⟨rfl, rfl⟩) nd_TK_endAt_17
set_option maxHeartbeats 4000000 in
set_option maxRecDepth 100000 in
theorem ct_TK_oneIf {l : Launch} {D : va_G} {BG : Nat → Option Cell} (M : hm_M) (b : Int32) : hm_ct l D BG ny_TK_oneIf prog_1_method_12_code 1 (some .int) 0 0 0 0 [.int b] M (fun r M' => r = some (.int (if b = 0 then 0 else 1)) ∧ M' = M) := by
  refine hm_ct_of (by decide +kernel) (by exact Nat.le_of_ble_eq_true rfl) ?_
  intro X C E
  have C : hm_C X l D BG prog_1_method_12_code "TurnedKeys" "oneIf" 1 0 0 0 0 := C
  refine hm_lv (lv' := [(0, .int b)]) rfl ?_
  refine hm_iload_n C nd_TK_oneIf_0 rfl ?_
  refine hm_if_eq (tgt := 8) C nd_TK_oneIf_1 (by decide) (fun c1 => ?_) (fun c1 => ?_)
  · refine hm_iconst (v := 0) C nd_TK_oneIf_8 (by decide) ?_
    exact hm_iret C E (by omega) (by omega) (⟨by rw [if_pos c1], rfl⟩) nd_TK_oneIf_9
  · refine hm_iconst (v := 1) C nd_TK_oneIf_4 (by decide) ?_
    refine hm_goto (tgt := 9) C nd_TK_oneIf_5 (by decide) ?_
    exact hm_iret C E (by omega) (by omega) (⟨by rw [if_neg c1], rfl⟩) nd_TK_oneIf_9
set_option maxHeartbeats 4000000 in
set_option maxRecDepth 100000 in
theorem ct_TK_mayMakeMore {l : Launch} {D : va_G} {BG : Nat → Option Cell} (M : hm_M) (x tm ea ka tr wl mk : Nat) (hx : M x = some (hm_ob 6 [.ref tm, .ref ea, .ref ka, .ref tr, .ref wl, .int (nI mk)])) (hm : mk < 512) : hm_ct l D BG ny_TK_mayMakeMore prog_1_method_16_code 1 (some .boolean) 0 0 0 0 [.ref x] M (fun r M' => r = some (.int 1) ∧ M' = hm_up M x (hm_ob 6 [.ref tm, .ref ea, .ref ka, .ref tr, .ref wl, .int (nI (mk + 1))])) := by
  refine hm_ct_of (by decide +kernel) (by exact Nat.le_of_ble_eq_true rfl) ?_
  intro X C E
  have C : hm_C X l D BG prog_1_method_16_code "TurnedKeys" "mayMakeMore" 1 0 0 0 0 := C
  refine hm_lv (lv' := [(0, .ref x)]) rfl ?_
  refine hm_aload_n C nd_TK_mayMakeMore_0 rfl ?_
  refine hm_get C nF_TK_175 hx rfl nd_TK_mayMakeMore_1 ?_
  refine hm_sipush (v := nI 512) C nd_TK_mayMakeMore_4 (by decide) ?_
  refine hm_icmp_lt (tgt := 12) C nd_TK_mayMakeMore_7 (by decide) (fun c1 => ?_) (fun c1 => absurd (nI_lt hm (by omega)) c1)
  refine hm_aload_n C nd_TK_mayMakeMore_12 rfl ?_
  refine hm_dup C nd_TK_mayMakeMore_13 rfl ?_
  refine hm_get C nF_TK_175 hx rfl nd_TK_mayMakeMore_14 ?_
  refine hm_iconst (v := 1) C nd_TK_mayMakeMore_17 (by decide) ?_
  refine hm_iadd C nd_TK_mayMakeMore_18 ?_
  rw [nI_1]
  refine hm_put C nF_TK_175 hx (Nat.le_of_ble_eq_true rfl) rfl rfl nd_TK_mayMakeMore_19 ?_
  refine hm_eqM (M' := hm_up M x (hm_ob 6 [.ref tm, .ref ea, .ref ka, .ref tr, .ref wl, .int (nI (mk + 1))])) rfl ?_
  generalize hM1 : hm_up M x (hm_ob 6 [.ref tm, .ref ea, .ref ka, .ref tr, .ref wl, .int (nI (mk + 1))]) = M1
  have fM1_0 : M1 x = some (hm_ob 6 [.ref tm, .ref ea, .ref ka, .ref tr, .ref wl, .int (nI (mk + 1))]) := by rw [← hM1]; exact hm_up_s _ _ _
  refine hm_iconst (v := 1) C nd_TK_mayMakeMore_22 (by decide) ?_
  exact hm_zret C E (by first | exact Or.inl rfl | exact Or.inr rfl) (by omega) (by omega) (⟨rfl, by rw [← hM1]⟩) nd_TK_mayMakeMore_23
set_option maxHeartbeats 4000000 in
set_option maxRecDepth 100000 in
theorem ct_TK_wireAt_in {l : Launch} {D : va_G} {BG : Nat → Option Cell} (M : hm_M) (x tm ea ka tr wl mk we cw nw : Nat) (fw : Nat → Nat) (hx : M x = some (hm_ob 6 [.ref tm, .ref ea, .ref ka, .ref tr, .ref wl, .int (nI mk)])) (hR : li_R D M wl we cw nw fw) (hcw : cw ≤ 40000) (j : Nat) (hj : j < nw) (vs : List Value) (hw : M (fw j) = some (hm_ob 5 vs)) : hm_ct l D BG ny_TK_wireAt prog_1_method_14_code 2 (some (.object "TurnedKeys$Wire")) 3 64 0 0 [.ref x, .int (nI j)] M (fun r M' => r = some (.ref (fw j)) ∧ M' = M) := by
  refine hm_ct_of (by decide +kernel) (by exact Nat.le_of_ble_eq_true rfl) ?_
  intro X C E
  have C : hm_C X l D BG prog_1_method_14_code "TurnedKeys" "wireAt" 2 3 64 0 0 := C
  refine hm_lv (lv' := [(0, .ref x), (1, .int (nI j))]) rfl ?_
  obtain ⟨m, h1, h3, h4⟩ := hR
  rcases h4 with ⟨h4, -⟩ | ⟨h4, g, h5, h6, -⟩
  · omega
  refine hm_iload_n C nd_TK_wireAt_0 rfl ?_
  refine hm_if_lt (tgt := 29) C nd_TK_wireAt_1 (by decide) (fun c1 => absurd c1 (nI_pos (by omega))) (fun c1 => ?_)
  refine hm_iload_n C nd_TK_wireAt_4 rfl ?_
  refine hm_aload_n C nd_TK_wireAt_5 rfl ?_
  refine hm_get C nF_TK_62 hx rfl nd_TK_wireAt_6 ?_
  refine hm_callV C (ct_AL_size M wl we (nI nw) m h1) nV_AL_size [] rfl h1 rfl nq_TK_93 nj_AL_size nx_AL_size rfl (rest := [.int (nI j)]) rfl (Nat.le_of_ble_eq_true rfl) (by decide) (by decide) (by omega) (by omega) nd_TK_wireAt_9 (fun r M1 hp => ?_)
  obtain ⟨rfl, eM1⟩ := hp
  rw [eM1]
  refine hm_stk (st' := [.int (nI nw), .int (nI j)]) rfl ?_
  refine hm_icmp_ge (tgt := 29) C nd_TK_wireAt_12 (by decide) (fun c2 => absurd c2 (nI_ge (by omega) (by omega))) (fun c2 => ?_)
  refine hm_aload_n C nd_TK_wireAt_15 rfl ?_
  refine hm_get C nF_TK_62 hx rfl nd_TK_wireAt_16 ?_
  refine hm_iload_n C nd_TK_wireAt_19 rfl ?_
  refine hm_callV C (ct_AL_get M wl we nw cw j g m h1 h5 (by omega) hj h3) nV_AL_get [.int (nI j)] rfl h1 rfl nq_TK_171 nj_AL_get nx_AL_get rfl (rest := []) rfl (Nat.le_of_ble_eq_true rfl) (by decide) (by decide) (by omega) (by omega) nd_TK_wireAt_20 (fun r M2 hp => ?_)
  obtain ⟨rfl, eM2⟩ := hp
  rw [eM2]
  refine hm_stk (st' := [va_rf (g j)]) rfl ?_
  rw [h6 j hj]
  refine hm_stk (st' := [.ref (fw j)]) rfl ?_
  refine hm_cast C hw rfl nc_TK_102 nd_TK_wireAt_23 ?_
  refine hm_goto (tgt := 30) C nd_TK_wireAt_26 (by decide) ?_
  exact hm_aret (r := (some (fw j))) C E (Or.inl ⟨_, rfl⟩) (by omega) (by omega) (⟨rfl, rfl⟩) nd_TK_wireAt_30
set_option maxHeartbeats 4000000 in
set_option maxRecDepth 100000 in
theorem ct_TK_wireAt_out {l : Launch} {D : va_G} {BG : Nat → Option Cell} (M : hm_M) (x tm ea ka tr wl mk we cw nw : Nat) (fw : Nat → Nat) (hx : M x = some (hm_ob 6 [.ref tm, .ref ea, .ref ka, .ref tr, .ref wl, .int (nI mk)])) (hR : li_R D M wl we cw nw fw) (hcw : cw ≤ 40000) (e : Int32) (he : e < 0 ∨ nI nw ≤ e) : hm_ct l D BG ny_TK_wireAt prog_1_method_14_code 2 (some (.object "TurnedKeys$Wire")) 3 64 0 0 [.ref x, .int e] M (fun r M' => r = some .null ∧ M' = M) := by
  refine hm_ct_of (by decide +kernel) (by exact Nat.le_of_ble_eq_true rfl) ?_
  intro X C E
  have C : hm_C X l D BG prog_1_method_14_code "TurnedKeys" "wireAt" 2 3 64 0 0 := C
  refine hm_lv (lv' := [(0, .ref x), (1, .int e)]) rfl ?_
  obtain ⟨m, h1, h3, -⟩ := hR
  refine hm_iload_n C nd_TK_wireAt_0 rfl ?_
  refine hm_if_lt (tgt := 29) C nd_TK_wireAt_1 (by decide) (fun c1 => ?_) (fun c1 => ?_)
  · refine hm_null C nd_TK_wireAt_29 ?_
    exact hm_aret (r := none) C E (Or.inl ⟨_, rfl⟩) (by omega) (by omega) (⟨rfl, rfl⟩) nd_TK_wireAt_30
  · refine hm_iload_n C nd_TK_wireAt_4 rfl ?_
    refine hm_aload_n C nd_TK_wireAt_5 rfl ?_
    refine hm_get C nF_TK_62 hx rfl nd_TK_wireAt_6 ?_
    refine hm_callV C (ct_AL_size M wl we (nI nw) m h1) nV_AL_size [] rfl h1 rfl nq_TK_93 nj_AL_size nx_AL_size rfl (rest := [.int e]) rfl (Nat.le_of_ble_eq_true rfl) (by decide) (by decide) (by omega) (by omega) nd_TK_wireAt_9 (fun r M1 hp => ?_)
    obtain ⟨rfl, eM1⟩ := hp
    rw [eM1]
    refine hm_stk (st' := [.int (nI nw), .int e]) rfl ?_
    refine hm_icmp_ge (tgt := 29) C nd_TK_wireAt_12 (by decide) (fun c2 => ?_) (fun c2 => absurd (by rcases he with h | h; exact absurd h c1; exact h) c2)
    refine hm_null C nd_TK_wireAt_29 ?_
    exact hm_aret (r := none) C E (Or.inl ⟨_, rfl⟩) (by omega) (by omega) (⟨rfl, rfl⟩) nd_TK_wireAt_30
set_option maxHeartbeats 4000000 in
set_option maxRecDepth 100000 in
theorem ct_TK_replace_in {l : Launch} {D : va_G} {BG : Nat → Option Cell} (M M2 : hm_M) (a b : Nat) (vs : List Value) (hA : M a = some (hm_ob 3 vs)) (hct : hm_ct l D BG ny_EN_become prog_2_method_3_code 3 none 0 0 0 0 [.ref a, .ref b] M (fun r M' => r = none ∧ M' = M2)) : hm_ct l D BG ny_TK_replace prog_1_method_15_code 2 (some .int) 1 22 0 0 [.ref a, .ref b] M (fun r M' => r = some (.int 1) ∧ M' = M2) := by
  refine hm_ct_of (by decide +kernel) (by exact Nat.le_of_ble_eq_true rfl) ?_
  intro X C E
  have C : hm_C X l D BG prog_1_method_15_code "TurnedKeys" "replace" 2 1 22 0 0 := C
  refine hm_lv (lv' := [(0, .ref a), (1, .ref b)]) rfl ?_
  refine hm_aload_n C nd_TK_replace_0 rfl ?_
  refine hm_ifnull (tgt := 8) (r := (some a)) C nd_TK_replace_1 (by decide) (fun h => by cases h) (fun _ => ?_)
  refine hm_aload_n C nd_TK_replace_4 rfl ?_
  refine hm_ifnonnull (tgt := 10) (r := (some b)) C nd_TK_replace_5 (by decide) (fun _ => ?_) (fun h => by cases h)
  refine hm_aload_n C nd_TK_replace_10 rfl ?_
  refine hm_aload_n C nd_TK_replace_11 rfl ?_
  refine hm_callV C hct nV_EN_become [.ref b] rfl hA rfl nq_TK_107 nj_EN_become nx_EN_become rfl (rest := []) rfl (Nat.le_of_ble_eq_true rfl) (by decide) (by decide) (by omega) (by omega) nd_TK_replace_12 (fun r M1 hp => ?_)
  obtain ⟨rfl, rfl⟩ := hp
  refine hm_stk (st' := []) rfl ?_
  refine hm_iconst (v := 1) C nd_TK_replace_15 (by decide) ?_
  exact hm_iret C E (by omega) (by omega) (⟨rfl, rfl⟩) nd_TK_replace_16
set_option maxHeartbeats 4000000 in
set_option maxRecDepth 100000 in
theorem ct_TK_replace_out {l : Launch} {D : va_G} {BG : Nat → Option Cell} (M : hm_M) : hm_ct l D BG ny_TK_replace prog_1_method_15_code 2 (some .int) 1 22 0 0 [.null, .null] M (fun r M' => r = some (.int (-1)) ∧ M' = M) := by
  refine hm_ct_of (by decide +kernel) (by exact Nat.le_of_ble_eq_true rfl) ?_
  intro X C E
  have C : hm_C X l D BG prog_1_method_15_code "TurnedKeys" "replace" 2 1 22 0 0 := C
  refine hm_lv (lv' := [(0, .null), (1, .null)]) rfl ?_
  refine hm_aload_nN C nd_TK_replace_0 rfl ?_
  refine hm_ifnull (tgt := 8) (r := none) C nd_TK_replace_1 (by decide) (fun _ => ?_) (fun h => absurd rfl h)
  refine hm_iconst (v := (-1)) C nd_TK_replace_8 (by decide) ?_
  exact hm_iret C E (by omega) (by omega) (⟨rfl, rfl⟩) nd_TK_replace_9
