set_option maxHeartbeats 4000000 in
set_option maxRecDepth 100000 in
theorem ct_TK_send_out {l : Launch} {D : va_G} {BG : Nat → Option Cell} (M : hm_M) (x tm ea ka wl we cw n c se mk dr : Nat) (a lk fw : Nat → Nat) (Es : Nat → sp_E) (W : List sp_W) (F : Nat → Prop) (T : Nat → Nat → Nat → Prop) (G : Nat → Prop) (hI : tk_I D M x tm ea ka wl we cw n c se mk dr a lk fw Es W F T G) (e : Int32) (he : e < 0 ∨ nI 2 ≤ e) : hm_ct l D BG ny_TK_send prog_1_method_2_code 4 (some .int) 11 266 0 0 [.ref x, .int e] M (fun r M' => r = some (.int (-1)) ∧ M' = M) := by
  refine hm_ct_of (by decide +kernel) (by exact Nat.le_of_ble_eq_true rfl) ?_
  intro X C E
  have C : hm_C X l D BG prog_1_method_2_code "TurnedKeys" "send" 4 11 266 0 0 := C
  refine hm_lv (lv' := [(0, .ref x), (1, .int e)]) rfl ?_
  obtain ⟨hx, ⟨fe, hea, fe0, fe1⟩, ⟨fk, hka, fk0, fk1⟩, hS, hE, ia, il, hW, hw⟩ := id hI
  refine hm_aload_n C nd_TK_send_0 rfl ?_
  refine hm_get C nF_TK_44 hx.1 rfl nd_TK_send_1 ?_
  refine hm_iload_n C nd_TK_send_4 rfl ?_
  refine hm_callS C (ct_TK_endAt_out M ea fe hea.1 e he) nV_TK_endAt nq_TK_66 nu_TK_endAt rfl (rest := []) rfl (Nat.le_of_ble_eq_true rfl) (by decide) (by decide) (by omega) (by omega) nd_TK_send_5 (fun r M1 hp => ?_)
  obtain ⟨rfl, eM1⟩ := hp
  rw [eM1]
  refine hm_stk (st' := [.null]) rfl ?_
  refine hm_astore_nQ (r := none) C [(2, .null), (0, .ref x), (1, .int e)] nd_TK_send_8 (by decide) rfl ?_
  refine hm_aload_nN C nd_TK_send_9 rfl ?_
  refine hm_ifnonnull (tgt := 15) (r := none) C nd_TK_send_10 (by decide) (fun h => absurd rfl h) (fun _ => ?_)
  refine hm_iconst (v := (-1)) C nd_TK_send_13 (by decide) ?_
  exact hm_iret C E (by omega) (by omega) (⟨rfl, rfl⟩) nd_TK_send_14
set_option maxHeartbeats 4000000 in
set_option maxRecDepth 100000 in
theorem ct_TK_send_no {l : Launch} {D : va_G} {BG : Nat → Option Cell} (M : hm_M) (x tm ea ka wl we cw n c se mk dr : Nat) (a lk fw : Nat → Nat) (Es : Nat → sp_E) (W : List sp_W) (F : Nat → Prop) (T : Nat → Nat → Nat → Prop) (G : Nat → Prop) (hI : tk_I D M x tm ea ka wl we cw n c se mk dr a lk fw Es W F T G) (j : Nat) (hj : j < 2) (hth : (Es j).2.2.1 = 0) : hm_ct l D BG ny_TK_send prog_1_method_2_code 4 (some .int) 11 266 0 0 [.ref x, .int (nI j)] M (fun r M' => r = some (.int (-5)) ∧ M' = M) := by
  refine hm_ct_of (by decide +kernel) (by exact Nat.le_of_ble_eq_true rfl) ?_
  intro X C E
  have C : hm_C X l D BG prog_1_method_2_code "TurnedKeys" "send" 4 11 266 0 0 := C
  refine hm_lv (lv' := [(0, .ref x), (1, .int (nI j))]) rfl ?_
  obtain ⟨hx, ⟨fe, hea, fe0, fe1⟩, ⟨fk, hka, fk0, fk1⟩, hS, hE, ia, il, hW, hw⟩ := id hI
  obtain ⟨ej, hej, hRj⟩ := hE j (by omega)
  have hej := hej (by omega)
  subst hej
  obtain ⟨b1, b2, b3, b4, b5, b6, f, hA, o1, o2, o3, o4, o5, o6, hL⟩ := id hRj
  refine hm_aload_n C nd_TK_send_0 rfl ?_
  refine hm_get C nF_TK_44 hx.1 rfl nd_TK_send_1 ?_
  refine hm_iload_n C nd_TK_send_4 rfl ?_
  refine hm_callS C (ct_TK_endAt_in M ea j (a j) fe hea.1 hj (by obtain rfl | rfl : j = 0 ∨ j = 1 := (by omega); exact fe0; exact fe1)) nV_TK_endAt nq_TK_66 nu_TK_endAt rfl (rest := []) rfl (Nat.le_of_ble_eq_true rfl) (by decide) (by decide) (by omega) (by omega) nd_TK_send_5 (fun r M1 hp => ?_)
  obtain ⟨rfl, eM1⟩ := hp
  rw [eM1]
  refine hm_stk (st' := [.ref (a j)]) rfl ?_
  refine hm_astore_n C [(2, .ref (a j)), (0, .ref x), (1, .int (nI j))] nd_TK_send_8 (by decide) rfl ?_
  refine hm_aload_n C nd_TK_send_9 rfl ?_
  refine hm_ifnonnull (tgt := 15) (r := (some (a j))) C nd_TK_send_10 (by decide) (fun _ => ?_) (fun h => by cases h)
  refine hm_aload_n C nd_TK_send_15 rfl ?_
  refine hm_get C nF_TK_37 hA.1 rfl nd_TK_send_16 ?_
  refine hm_ifnonnull (tgt := 25) (r := b4) C nd_TK_send_19 (by decide) (fun c1 => absurd ((ts_oz hS o4).mpr hth) c1) (fun c1 => ?_)
  refine hm_bipush (v := (-5)) C nd_TK_send_22 (by decide) ?_
  exact hm_iret C E (by omega) (by omega) (⟨rfl, rfl⟩) nd_TK_send_24
set_option maxHeartbeats 4000000 in
set_option maxRecDepth 100000 in
theorem ct_TK_send_go {l : Launch} {D : va_G} {BG : Nat → Option Cell} (M : hm_M) (x tm ea ka wl we cw n c se mk dr : Nat) (a lk fw : Nat → Nat) (Es : Nat → sp_E) (W : List sp_W) (F : Nat → Prop) (T : Nat → Nat → Nat → Prop) (G : Nat → Prop) (hI : tk_I D M x tm ea ka wl we cw n c se mk dr a lk fw Es W F T G) (hcw : cw ≤ 40000) (j : Nat) (hj : j < 2) (hmk : mk < 512) (hcn : c ≤ 2 * n + 10) (hn : n ≤ 19600) (ro mi th sc st bf rc nx : Nat) (lf : List (Nat × Nat × Nat)) (he : Es j = (ro, mi, th, sc, st, bf, rc, nx, lf)) (k e d : Nat) (hth : th = sm_t 1 k 0) (hk : k = sm_t 0 e 0) (hmi : mi = sm_t 0 d 0) : hm_ct l D BG ny_TK_send prog_1_method_2_code 4 (some .int) 11 266 (1 + ts_kc (ts_k T) n c (sp_sd j dr (Es j)).1 + (li_c cw W.length - cw)) (6 + ts_ks (ts_k T) n c (sp_sd j dr (Es j)).1 + 4 * (li_c cw W.length - cw)) [.ref x, .int (nI j)] M (fun r M' => r = some (.int (nI W.length)) ∧ tk_R D M' x (ts_r (ts_k T) n c (sp_sd j dr (Es j)).1).1 (ts_r (ts_k T) n c (sp_sd j dr (Es j)).1).2 (li_c cw W.length) (mk + 1) (sp_sd j dr (Es j)).2.1 (fun i => if i = j then (sp_sd j dr (Es j)).2.2.1 else Es i) (W ++ [(sp_sd j dr (Es j)).2.2.2]) (sp_gv G [sp_b, sm_t 1 (sp_sd j dr (Es j)).2.2.2.2.2.2.1 0, sm_t 3 (sp_sd j dr (Es j)).2.2.2.2.2.2.2.1 (sp_sd j dr (Es j)).2.2.2.2.2.2.2.2])) := by
  refine hm_ct_of (by decide +kernel) (by exact Nat.le_of_ble_eq_true rfl) ?_
  intro X C E
  have C : hm_C X l D BG prog_1_method_2_code "TurnedKeys" "send" 4 11 266 (1 + ts_kc (ts_k T) n c (sp_sd j dr (Es j)).1 + (li_c cw W.length - cw)) (6 + ts_ks (ts_k T) n c (sp_sd j dr (Es j)).1 + 4 * (li_c cw W.length - cw)) := C
  obtain ⟨hx, ⟨fe, hea, fe0, fe1⟩, ⟨fk, hka, fk0, fk1⟩, hS, hE, ia, il, hW, hw⟩ := id hI
  obtain ⟨ej, hej, hRj⟩ := hE j (by omega)
  have hej := hej (by omega)
  subst hej
  obtain ⟨b1, b2, b3, b4, b5, b6, f, hA, o1, o2, o3, o4, o5, o6, hL⟩ := id hRj
  obtain ⟨mcD, hmcD⟩ : ∃ z, z = (1 + ts_kc (ts_k T) n c (sp_sd j dr (Es j)).1 + (li_c cw W.length - cw)) := ⟨_, rfl⟩
  obtain ⟨msD, hmsD⟩ : ∃ z, z = (6 + ts_ks (ts_k T) n c (sp_sd j dr (Es j)).1 + 4 * (li_c cw W.length - cw)) := ⟨_, rfl⟩
  rw [← hmcD, ← hmsD] at C E
  have tail : ∀ (M1 : hm_M) (F1 : Nat → Prop) (T1 : Nat → Nat → Nat → Prop) (vs : List Nat) (dr1 ro1 mi1 th1 sc1 st1 bf1 rc1 nx1 : Nat) (lf1 : List (Nat × Nat × Nat)) (Es1 : Nat → sp_E) (d1 : Nat), vs.length ≤ 5 → en_P D tm (hm_up M x (hm_ob 6 [.ref tm, .ref ea, .ref ka, .ref (a 4), .ref wl, .int (nI (mk + 1))])) F T G n c se dr1 vs (a j) (lk j) M1 F1 T1 → tk_I D M1 x tm ea ka wl we cw (ts_r (ts_k T) n c vs).1 (ts_r (ts_k T) n c vs).2 se (mk + 1) dr1 a lk fw Es1 W F1 T1 G → sp_s1 dr (Es j) = (vs, dr1, (ro1, mi1, th1, sc1, st1, bf1, rc1, nx1, lf1)) → Es1 j = (ro1, mi1, th1, sc1, st1, bf1, rc1, nx1, lf1) → (∀ i, i < 4 → i ≠ j → Es1 i = Es i) → mi1 = sm_t 0 d1 0 → sc1 ≠ 0 → hm_W X M1 (ts_kc (ts_k T) n c vs) (ts_ks (ts_k T) n c vs) 49 [(2, .ref (a j)), (0, .ref x), (1, .int (nI j))] [] := by
    intro M1 F1 T1 vs dr1 ro1 mi1 th1 sc1 st1 bf1 rc1 nx1 lf1 Es1 d1 hvl hE1 hI1 hs1 hEj hEo hmi1 hsc1
    have hsd : (sp_sd j dr (Es j)) = ((vs ++ [sm_t 0 (dr1 + 1) 0] ++ [sm_t 6 sc1 0, sm_t 1 mi1 0, sm_t 7 sc1 0] ++ [sm_t 3 (sm_t 6 sc1 0) (sm_t 0 (dr1 + 1) 0)]), dr1 + 1, (ro1, mi1, th1, sm_t 7 sc1 0, st1 + 1, bf1, rc1, nx1, lf1), (j, st1, bf1, mi1, sm_t 6 sc1 0, sm_t 0 (dr1 + 1) 0)) := by
      unfold sp_sd
      rw [hs1]
      rfl
    have hb1 := hE1.bd hcn
    obtain ⟨hx1, -, -, hS1, -, -, -, -, -⟩ := id hI1
    obtain ⟨la1, ht1⟩ := hI1.tm
    have rm1 := hE1.room [sm_t 0 (dr1 + 1) 0]
    have rl1 := ts_kle (vs ++ [sm_t 0 (dr1 + 1) 0]) ([sm_t 6 sc1 0, sm_t 1 mi1 0, sm_t 7 sc1 0] ++ [sm_t 3 (sm_t 6 sc1 0) (sm_t 0 (dr1 + 1) 0)]) (ts_k T) n c
    rw [← List.append_assoc (vs ++ [sm_t 0 (dr1 + 1) 0])] at rl1
    have rl2 := ts_kle (vs ++ [sm_t 0 (dr1 + 1) 0] ++ [sm_t 6 sc1 0, sm_t 1 mi1 0, sm_t 7 sc1 0]) [sm_t 3 (sm_t 6 sc1 0) (sm_t 0 (dr1 + 1) 0)] (ts_k T) n c
    rw [hsd] at hmcD hmsD
    dsimp only at hmcD hmsD
    refine hm_aload_n C nd_TK_send_49 rfl ?_
    refine hm_iload_n C nd_TK_send_50 rfl ?_
    refine hm_aload_n C nd_TK_send_51 rfl ?_
    refine hm_get C nF_TK_10 hx1.1 rfl nd_TK_send_52 ?_
    refine hm_callV C (ct_TS_draw M1 tm F1 T1 G dr1 _ _ se hS1 (by omega)) nV_TS_draw [] rfl ht1 rfl nq_TK_16 nj_TS_draw nx_TS_draw rfl (rest := [.int (nI j), .ref (a j)]) rfl (Nat.le_of_ble_eq_true rfl) (by decide) (by decide) (by omega) (by omega) nd_TK_send_55 (fun r M2 hp => ?_)
    obtain ⟨q, F2, T2, rfl, hP2, hq2⟩ := hp
    have hE2 := hE1.tr (hP2.en (a j) (lk j))
    have hb2 := hE2.bd hcn
    rw [List.length_append] at hb2
    have hI2 := hI1.fr hP2.1 hP2.2.1 hP2.2.2.1
    obtain ⟨hx2, -, -, hS2, hEE2, -, -, -, -⟩ := id hI2
    obtain ⟨la2, ht2⟩ := hI2.tm
    obtain ⟨ej2, hej2, hRj2⟩ := hEE2 j (by omega)
    rw [hej2 (by omega), hEj] at hRj2
    obtain ⟨⟨vj2, hAj2⟩, -⟩ := hRj2.ob
    have rm2 := hE2.room [sm_t 6 sc1 0, sm_t 1 mi1 0, sm_t 7 sc1 0]
    refine hm_stk (st' := [.ref q, .int (nI j), .ref (a j)]) rfl ?_
    refine hm_aload_n C nd_TK_send_58 rfl ?_
    refine hm_get C nF_TK_10 hx2.1 rfl nd_TK_send_59 ?_
    refine hm_stk (st' := [.ref tm, va_rf (some q), .int (nI j), .ref (a j)]) rfl ?_
    have hk2 := hE1.k
    have hr2 : ts_r (ts_k T1) (ts_r (ts_k T) n c vs).1 (ts_r (ts_k T) n c vs).2 [sm_t 0 (dr1 + 1) 0] = ts_r (ts_k T) n c (vs ++ [sm_t 0 (dr1 + 1) 0]) := by rw [ts_r_app, hk2]
    rw [hr2] at hS2 hI2
    refine hm_callV C (ct_EN_sealedWire M2 tm F2 T2 G (dr1 + 1) _ _ se hS2 hb2.1 (by simp only [List.length_cons, List.length_nil] at hb2; omega) (a j) (lk j) sp_b ro1 mi1 th1 sc1 st1 bf1 rc1 nx1 lf1 hRj2 d1 j (some q) hmi1 hsc1) nV_EN_sealedWire [.int (nI j), va_rf (some q), .ref tm] rfl hAj2.1 rfl nq_TK_78 nj_EN_sealedWire nx_EN_sealedWire rfl (rest := []) rfl (Nat.le_of_ble_eq_true rfl) (by decide) (by decide) (by omega) (by omega) nd_TK_send_62 (fun r M3 hp => ?_)
    obtain ⟨wq, F3, T3, pk, ky, rfl, hP3, hwq, hpk, hky, hfr3, hR3⟩ := hp
    obtain ⟨p, ip, rfl, hTp⟩ := ts_o_so hpk (sm_t_ne _ _ _)
    obtain ⟨y, iy, rfl, hTy⟩ := ts_o_so hky (sm_t_ne _ _ _)
    have hE3 := hE2.tr hP3
    have hb3 := hE3.bd hcn
    rw [List.length_append, List.length_append] at hb3
    have hTq := hP3.2.2.1 _ _ _ hq2
    have hI3 := hI2.on (e' := (ro1, mi1, th1, sm_t 7 sc1 0, st1 + 1, bf1, rc1, nx1, lf1)) (E' := fun i => if i = j then (ro1, mi1, th1, sm_t 7 sc1 0, st1 + 1, bf1, rc1, nx1, lf1) else Es i) (j := j) (by omega) hP3 hR3 (fun i hi => by by_cases h : i = j; rw [if_pos h, if_pos h]; rw [if_neg h, if_neg h, hEo i hi h])
    have hk3 := hE2.k
    have hr3 : ts_r (ts_k T2) (ts_r (ts_k T) n c (vs ++ [sm_t 0 (dr1 + 1) 0])).1 (ts_r (ts_k T) n c (vs ++ [sm_t 0 (dr1 + 1) 0])).2 [sm_t 6 sc1 0, sm_t 1 mi1 0, sm_t 7 sc1 0] = ts_r (ts_k T) n c (vs ++ [sm_t 0 (dr1 + 1) 0] ++ [sm_t 6 sc1 0, sm_t 1 mi1 0, sm_t 7 sc1 0]) := by rw [ts_r_app _ [sm_t 6 sc1 0, sm_t 1 mi1 0, sm_t 7 sc1 0], hk3]
    rw [hr3] at hI3
    have rm3 := hE3.room [sm_t 3 (sm_t 6 sc1 0) (sm_t 0 (dr1 + 1) 0)]
    obtain ⟨hx3, -, -, hS3, -, -, -, hW3, hw3⟩ := id hI3
    have hwi : wi_R M3 F3 T3 wq (j, st1, bf1, mi1, sm_t 6 sc1 0, sm_t 0 (dr1 + 1) 0) := ⟨p, ip, y, iy, q, _, hwq, hTp, hTy, hTq⟩
    have hli : li_E M3 W.length fw := fun i hi => by
      obtain ⟨_, _, _, _, _, _, h9, -⟩ := hw3 i _ (List.getElem?_eq_getElem hi)
      exact ⟨5, _, _, h9.1, rfl, nh_WI_OJ⟩
    obtain ⟨mw, hwl3, -⟩ := hW3.1
    refine hm_stk (st' := [.ref wq]) rfl ?_
    refine hm_astore_n C [(3, .ref wq), (2, .ref (a j)), (0, .ref x), (1, .int (nI j))] nd_TK_send_65 (by decide) rfl ?_
    refine hm_aload_n C nd_TK_send_66 rfl ?_
    refine hm_get C nF_TK_62 hx3.1 rfl nd_TK_send_67 ?_
    refine hm_aload_n C nd_TK_send_70 rfl ?_
    refine hm_callV C (ct_AL_add M3 wl we cw W.length fw hW3.1 hli (by omega) wq 5 _ _ hwq.1 rfl nh_WI_OJ) nV_AL_add [.ref wq] rfl hwl3 rfl nq_TK_82 nj_AL_add nx_AL_add rfl (rest := []) rfl (Nat.le_of_ble_eq_true rfl) (by decide) (by decide) (by omega) (by omega) nd_TK_send_71 (fun r M4 hp => ?_)
    obtain ⟨rfl, we', hR4, hk4, hea4⟩ := hp
    have hI4 := hI3.ad hwi hR4 hk4 hea4
    obtain ⟨hx4, -, -, hS4, hEE4, -, -, hW4, hw4⟩ := id hI4
    obtain ⟨ej4, hej4, hRj4⟩ := hEE4 j (by omega)
    rw [hej4 (by omega)] at hRj4
    dsimp only at hRj4
    rw [if_pos rfl] at hRj4
    obtain ⟨b1, b2, b3, b4, b5, b6, f, hA4, o1, -⟩ := id hRj4
    have hw5 := hw4 W.length (j, st1, bf1, mi1, sm_t 6 sc1 0, sm_t 0 (dr1 + 1) 0) (by rw [List.getElem?_append_right (Nat.le_refl _), Nat.sub_self]; rfl)
    rw [va_up_self] at hw5
    obtain ⟨p5, ip5, y5, iy5, z5, iz5, hwc5, hT51, hT52, hT53⟩ := hw5
    dsimp only at hwc5 hT51 hT52 hT53
    have hz5 := (ts_uni hS4 hT53 hTq).2 ((ts_uni hS4 hT53 hTq).1.mpr rfl)
    have hno3 : ¬ ts_k T3 (sm_t 3 (sm_t 6 sc1 0) (sm_t 0 (dr1 + 1) 0)) := by
      rintro ⟨g1, g2, g3⟩
      rcases hP3.2.2.2.1 _ _ _ g3 with g4 | ⟨-, g4⟩
      · rcases hP2.2.2.2.1 _ _ _ g4 with g5 | ⟨-, g5⟩
        · have := (ts_let hS1).2.1 _ _ ⟨_, _, g5⟩
          omega
        · rw [List.mem_singleton] at g5
          exact absurd (sm_t_inj g5).1 (by decide)
      · simp only [List.mem_cons, List.not_mem_nil, or_false] at g4
        rcases g4 with g4 | g4 | g4 <;> exact absurd (sm_t_inj g4).1 (by decide)
    refine hm_stk (st' := [.int 1]) rfl ?_
    refine hm_pop C nd_TK_send_74 rfl ?_
    refine hm_aload_n C nd_TK_send_75 rfl ?_
    refine hm_aload_n C nd_TK_send_76 rfl ?_
    refine hm_aload_n C nd_TK_send_77 rfl ?_
    refine hm_get C nF_TK_86 hA4.1 rfl nd_TK_send_78 ?_
    simp only [List.length_cons, List.length_nil] at hb2 hb3
    refine hm_callV C (ct_TK_giveWire M4 tm F3 T3 G (dr1 + 1) _ _ se hS4 (by omega) x ea ka (a 4) wl (mk + 1) hx4 wq j st1 bf1 p5 ip5 y5 iy5 z5 iz5 mi1 (sm_t 6 sc1 0) (sm_t 0 (dr1 + 1) 0) (dr1 + 1) b1 hwc5 hT51 hT52 hT53 rfl (by have hge := ts_r_bd [sm_t 6 sc1 0, sm_t 1 mi1 0, sm_t 7 sc1 0] (ts_k T2) (ts_r (ts_k T) n c (vs ++ [sm_t 0 (dr1 + 1) 0])).1 (ts_r (ts_k T) n c (vs ++ [sm_t 0 (dr1 + 1) 0])).2 hb2.1; rw [hr3] at hge; have hge2 := ts_r_bd [sm_t 0 (dr1 + 1) 0] (ts_k T1) (ts_r (ts_k T) n c vs).1 (ts_r (ts_k T) n c vs).2 hb1.1; rw [hr2] at hge2; simp only [List.length_cons, List.length_nil] at hge hge2; omega) o1 hno3) nV_TK_giveWire [.ref wq, va_rf b1] rfl hx4.1 rfl nq_TK_89 nj_TK_giveWire nx_TK_giveWire rfl (rest := []) rfl (Nat.le_of_ble_eq_true rfl) (by decide) (by decide) (by omega) (by omega) nd_TK_send_81 (fun r M5 hp => ?_)
    obtain ⟨rfl, se5, F5, T5, hS5, hst5, ht5⟩ := hp
    have hI5 := hI4.fr hS5 hst5 ht5
    have hk5 := hE3.k
    have hr5 : ts_r (ts_k T3) (ts_r (ts_k T) n c (vs ++ [sm_t 0 (dr1 + 1) 0] ++ [sm_t 6 sc1 0, sm_t 1 mi1 0, sm_t 7 sc1 0])).1 (ts_r (ts_k T) n c (vs ++ [sm_t 0 (dr1 + 1) 0] ++ [sm_t 6 sc1 0, sm_t 1 mi1 0, sm_t 7 sc1 0])).2 [sm_t 3 (sm_t 6 sc1 0) (sm_t 0 (dr1 + 1) 0)] = ts_r (ts_k T) n c (vs ++ [sm_t 0 (dr1 + 1) 0] ++ [sm_t 6 sc1 0, sm_t 1 mi1 0, sm_t 7 sc1 0] ++ [sm_t 3 (sm_t 6 sc1 0) (sm_t 0 (dr1 + 1) 0)]) := by rw [ts_r_app _ [sm_t 3 (sm_t 6 sc1 0) (sm_t 0 (dr1 + 1) 0)], hk5]
    rw [hr5] at hI5
    obtain ⟨hx5, -, -, -, -, -, -, ⟨⟨mw5, hwl5, -⟩, -⟩, -⟩ := id hI5
    refine hm_stk (st' := []) rfl ?_
    refine hm_aload_n C nd_TK_send_84 rfl ?_
    refine hm_get C nF_TK_62 hx5.1 rfl nd_TK_send_85 ?_
    refine hm_callV C (ct_AL_size M5 wl we' (nI (W ++ [(j, st1, bf1, mi1, sm_t 6 sc1 0, sm_t 0 (dr1 + 1) 0)]).length) mw5 hwl5) nV_AL_size [] rfl hwl5 rfl nq_TK_93 nj_AL_size nx_AL_size rfl (rest := []) rfl (Nat.le_of_ble_eq_true rfl) (by decide) (by decide) (by omega) (by omega) nd_TK_send_88 (fun r M6 hp => ?_)
    obtain ⟨rfl, eM6⟩ := hp
    rw [eM6]
    refine hm_stk (st' := [.int (nI (W ++ [(j, st1, bf1, mi1, sm_t 6 sc1 0, sm_t 0 (dr1 + 1) 0)]).length)]) rfl ?_
    refine hm_iconst (v := 1) C nd_TK_send_91 (by decide) ?_
    refine hm_isub C nd_TK_send_92 ?_
    exact hm_iret C E (by omega) (by omega) (⟨by rw [List.length_append]; exact congrArg (fun y => some (Value.int y)) (nI_pred W.length), by rw [hsd]; exact ⟨tm, ea, ka, wl, we', se5, a, lk, _, F5, T5, hI5⟩⟩) nd_TK_send_93
  refine hm_lv (lv' := [(0, .ref x), (1, .int (nI j))]) rfl ?_
  refine hm_aload_n C nd_TK_send_0 rfl ?_
  refine hm_get C nF_TK_44 hx.1 rfl nd_TK_send_1 ?_
  refine hm_iload_n C nd_TK_send_4 rfl ?_
  refine hm_callS C (ct_TK_endAt_in M ea j (a j) fe hea.1 hj (by obtain rfl | rfl : j = 0 ∨ j = 1 := (by omega); exact fe0; exact fe1)) nV_TK_endAt nq_TK_66 nu_TK_endAt rfl (rest := []) rfl (Nat.le_of_ble_eq_true rfl) (by decide) (by decide) (by omega) (by omega) nd_TK_send_5 (fun r M1 hp => ?_)
  obtain ⟨rfl, eM1⟩ := hp
  rw [eM1]
  refine hm_stk (st' := [.ref (a j)]) rfl ?_
  refine hm_astore_n C [(2, .ref (a j)), (0, .ref x), (1, .int (nI j))] nd_TK_send_8 (by decide) rfl ?_
  refine hm_aload_n C nd_TK_send_9 rfl ?_
  refine hm_ifnonnull (tgt := 15) (r := (some (a j))) C nd_TK_send_10 (by decide) (fun _ => ?_) (fun h => by cases h)
  refine hm_aload_n C nd_TK_send_15 rfl ?_
  refine hm_get C nF_TK_37 hA.1 rfl nd_TK_send_16 ?_
  refine hm_ifnonnull (tgt := 25) (r := b4) C nd_TK_send_19 (by decide) (fun c1 => ?_) (fun c1 => absurd ((ts_oz hS o4).mp c1) (by rw [he]; exact hth ▸ sm_t_ne _ _ _))
  refine hm_aload_n C nd_TK_send_25 rfl ?_
  refine hm_callV C (ct_TK_mayMakeMore M x tm ea ka (a 4) wl mk hx.1 hmk) nV_TK_mayMakeMore [] rfl hx.1 rfl nq_TK_70 nj_TK_mayMakeMore nx_TK_mayMakeMore rfl (rest := []) rfl (Nat.le_of_ble_eq_true rfl) (by decide) (by decide) (by omega) (by omega) nd_TK_send_26 (fun r M2 hp => ?_)
  obtain ⟨rfl, hMk⟩ := hp
  have hI1 := hI.mk (mk + 1)
  rw [← hMk] at hI1
  refine hm_stk (st' := [.int 1]) rfl ?_
  refine hm_if_ne (tgt := 34) C nd_TK_send_29 (by decide) (fun c2 => ?_) (fun c2 => absurd c2 (by decide))
  obtain ⟨hx1, -, -, hS1, hE1, -, -, -, -⟩ := id hI1
  obtain ⟨ej1, hej1, hRj1⟩ := hE1 j (by omega)
  have hej1 := hej1 (by omega)
  subst hej1
  have hRj2 := hRj1
  obtain ⟨d1, d2, d3, d4, d5, d6, f1, hA1, -, -, -, -, p5, -⟩ := hRj1
  obtain ⟨la1, ht1⟩ := hI1.tm
  have hE0 : en_P D tm M2 F T G n c se dr [] (a j) (lk j) M2 F T := en_P.rf hS1
  have kz := ts_kz (ts_k T) n c
  rw [he] at hRj2
  refine hm_aload_n C nd_TK_send_34 rfl ?_
  refine hm_get C nF_TK_41 hA1.1 rfl nd_TK_send_35 ?_
  refine hm_ifnonnull (tgt := 49) (r := d5) C nd_TK_send_38 (by decide) (fun c3 => ?_) (fun c3 => ?_)
  · have hsc : ¬ sc = 0 := fun q => c3 ((ts_oz hS1 p5).mpr (by rw [he]; exact q))
    refine hm_widen (k' := ts_kc (ts_k T) n c []) (n' := ts_ks (ts_k T) n c []) (by omega) (by omega) ?_
    exact tail M2 F T [] dr ro mi th sc st bf rc nx lf Es d (by decide) (hMk ▸ hE0) hI1 (by rw [he]; unfold sp_s1; dsimp only; rw [if_neg hsc]) he (fun _ _ _ => rfl) hmi hsc
  · have hsc : sc = 0 := by have := (ts_oz hS1 p5).mp c3; rw [he] at this; exact this
    have hs1 : sp_s1 dr (Es j) = ([sm_t 0 (dr + 1) 0, sm_t 1 (sm_t 0 (dr + 1) 0) 0, sm_sh (sm_t 0 (dr + 1) 0) k, sm_t 5 ro (sm_sh (sm_t 0 (dr + 1) 0) k), sm_t 4 ro (sm_sh (sm_t 0 (dr + 1) 0) k)], dr + 1, (sm_t 4 ro (sm_sh (sm_t 0 (dr + 1) 0) k), sm_t 0 (dr + 1) 0, th, sm_t 5 ro (sm_sh (sm_t 0 (dr + 1) 0) k), 0, st, rc, nx, lf)) := by
      rw [he]
      unfold sp_s1
      dsimp only
      rw [if_pos hsc, hth, sm_un_eq]
    have hsd : (sp_sd j dr (Es j)) = sp_s2 j (sp_s1 dr (Es j)) := rfl
    rw [hs1] at hsd
    have hmcD2 := hmcD
    have hmsD2 := hmsD
    rw [hsd] at hmcD2 hmsD2
    unfold sp_s2 at hmcD2 hmsD2
    dsimp only at hmcD2 hmsD2
    have rl := ts_kle [sm_t 0 (dr + 1) 0, sm_t 1 (sm_t 0 (dr + 1) 0) 0, sm_sh (sm_t 0 (dr + 1) 0) k, sm_t 5 ro (sm_sh (sm_t 0 (dr + 1) 0) k), sm_t 4 ro (sm_sh (sm_t 0 (dr + 1) 0) k)] ([sm_t 0 (dr + 1 + 1) 0] ++ [sm_t 6 (sm_t 5 ro (sm_sh (sm_t 0 (dr + 1) 0) k)) 0, sm_t 1 (sm_t 0 (dr + 1) 0) 0, sm_t 7 (sm_t 5 ro (sm_sh (sm_t 0 (dr + 1) 0) k)) 0] ++ [sm_t 3 (sm_t 6 (sm_t 5 ro (sm_sh (sm_t 0 (dr + 1) 0) k)) 0) (sm_t 0 (dr + 1 + 1) 0)]) (ts_k T) n c
    rw [← List.append_assoc, ← List.append_assoc] at rl
    refine hm_aload_n C nd_TK_send_41 rfl ?_
    refine hm_aload_n C nd_TK_send_42 rfl ?_
    refine hm_get C nF_TK_10 hx1.1 rfl nd_TK_send_43 ?_
    refine hm_callV C (ct_EN_turnSending M2 tm F T G dr n c se hS1 hcn (by omega) (a j) (lk j) sp_b ro mi th sc st bf rc nx lf hRj2 k e hth hk) nV_EN_turnSending [.ref tm] rfl hA1.1 rfl nq_TK_74 nj_EN_turnSending nx_EN_turnSending rfl (rest := []) rfl (Nat.le_of_ble_eq_true rfl) (by decide) (by decide) (by omega) (by omega) nd_TK_send_46 (fun r M3 hp => ?_)
    obtain ⟨F2, T2, rfl, hP2, hR2⟩ := hp
    have hI2 := hI1.on (e' := (sm_t 4 ro (sm_sh (sm_t 0 (dr + 1) 0) k), sm_t 0 (dr + 1) 0, th, sm_t 5 ro (sm_sh (sm_t 0 (dr + 1) 0) k), 0, st, rc, nx, lf)) (E' := fun i => if i = j then (sm_t 4 ro (sm_sh (sm_t 0 (dr + 1) 0) k), sm_t 0 (dr + 1) 0, th, sm_t 5 ro (sm_sh (sm_t 0 (dr + 1) 0) k), 0, st, rc, nx, lf) else Es i) (j := j) (by omega) hP2 hR2 (fun i hi => rfl)
    refine hm_stk (st' := []) rfl ?_
    refine hm_widen (k' := ts_kc (ts_k T) n c [sm_t 0 (dr + 1) 0, sm_t 1 (sm_t 0 (dr + 1) 0) 0, sm_sh (sm_t 0 (dr + 1) 0) k, sm_t 5 ro (sm_sh (sm_t 0 (dr + 1) 0) k), sm_t 4 ro (sm_sh (sm_t 0 (dr + 1) 0) k)]) (n' := ts_ks (ts_k T) n c [sm_t 0 (dr + 1) 0, sm_t 1 (sm_t 0 (dr + 1) 0) 0, sm_sh (sm_t 0 (dr + 1) 0) k, sm_t 5 ro (sm_sh (sm_t 0 (dr + 1) 0) k), sm_t 4 ro (sm_sh (sm_t 0 (dr + 1) 0) k)]) (by omega) (by omega) ?_
    exact tail M3 F2 T2 [sm_t 0 (dr + 1) 0, sm_t 1 (sm_t 0 (dr + 1) 0) 0, sm_sh (sm_t 0 (dr + 1) 0) k, sm_t 5 ro (sm_sh (sm_t 0 (dr + 1) 0) k), sm_t 4 ro (sm_sh (sm_t 0 (dr + 1) 0) k)] (dr + 1) _ (sm_t 0 (dr + 1) 0) th _ 0 st rc nx lf _ (dr + 1) (Nat.le_refl 5) (hMk ▸ hP2) hI2 hs1 (if_pos rfl) (fun i _ hi => if_neg hi) rfl (sm_t_ne _ _ _)
