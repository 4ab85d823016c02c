theorem sp_nz1 (v : Nat) : (if v = 0 then (0 : Int32) else 1) = nI (sp_nz [v]) := by
  have h := sp_nz_ap [] v
  rw [List.nil_append] at h
  rw [h]
  by_cases z : v = 0
  · rw [if_pos z, if_pos z]; rfl
  · rw [if_neg z, if_neg z]; rfl
theorem sp_nzI (l : List Nat) (v : Nat) : nI (sp_nz l) + (if v = 0 then (0 : Int32) else 1) = nI (sp_nz (l ++ [v])) := by
  rw [sp_nz_ap]
  by_cases z : v = 0
  · rw [if_pos z, if_pos z]
    exact nI_add _ 0
  · rw [if_neg z, if_neg z]
    exact nI_add _ 1
noncomputable def sm_un (v : Nat) : Nat := @dite _ (∃ k, v = sm_t 1 k 0) (Classical.propDecidable _) (fun h => Classical.choose h) (fun _ => 0)
theorem sm_un_eq (k : Nat) : sm_un (sm_t 1 k 0) = k := by
  have h : ∃ k', sm_t 1 k 0 = sm_t 1 k' 0 := ⟨k, rfl⟩
  unfold sm_un
  rw [dif_pos h]
  exact ((sm_t_inj (Classical.choose_spec h)).2.1).symm
theorem tk_I.mk {D : va_G} {M : hm_M} {x tm ea ka wl we cw n c se mk dr : Nat} {a lk fw : Nat → Nat} {E : Nat → sp_E} {W : List sp_W} {F : Nat → Prop} {T : Nat → Nat → Nat → Prop} {G : Nat → Prop} (h : tk_I D M x tm ea ka wl we cw n c se mk dr a lk fw E W F T G) (mk' : Nat) : tk_I D (hm_up M x (hm_ob 6 [.ref tm, .ref ea, .ref ka, .ref (a 4), .ref wl, .int (nI mk')])) x tm ea ka wl we cw n c se mk' dr a lk fw E W F T G := by
  obtain ⟨h1, ⟨fe, h2, e1, e2⟩, ⟨fk, h3, e3, e4⟩, h4, h5, h6, h7, ⟨⟨m, i1, i3, i4⟩, i5, i6, i7⟩, h9⟩ := h
  generalize hM' : hm_up M x (hm_ob 6 [.ref tm, .ref ea, .ref ka, .ref (a 4), .ref wl, .int (nI mk')]) = M'
  have hs : hm_step M (en_F F x x) M' (en_F F x x) := ⟨fun z hz _ => by rw [← hM', hm_up_n _ _ (fun q => hz (Or.inr (Or.inl q)))], fun _ q => Or.inl q⟩
  have no : ∀ {z : Nat} {ci : Nat} {vs : List Value}, M z = some (hm_ob ci vs) → ci ≠ 6 → z ≠ x := fun q hc => hm_ne q h1.1 hc
  have na : ∀ {z : Nat} {y : ClassId × vp_A}, M z = some (.inl y) → z ≠ x := fun q => Ne.symm (hm_neA h1.1 q)
  have hw : hm_ow M F wl _ := ⟨i1, i5⟩
  have hw' := hw.en hs (no i1 (by decide)) (no i1 (by decide))
  refine ⟨⟨by rw [← hM']; exact hm_up_s _ _ _, h1.2⟩, ⟨fe, h2.en hs (na h2.1) (na h2.1), e1, e2⟩, ⟨fk, h3.en hs (na h3.1) (na h3.1), e3, e4⟩, by rw [← hM']; exact h4.put h1.2 _, fun i hi => ?_, h6, h7, ?_, fun i w hw => ?_⟩
  · obtain ⟨e, he, ⟨b1, b2, b3, b4, b5, b6, f, hA, o1, o2, o3, o4, o5, o6, hL⟩⟩ := h5 i hi
    refine ⟨e, he, b1, b2, b3, b4, b5, b6, f, hA.en hs (no hA.1 (by decide)) (no hA.1 (by decide)), o1, o2, o3, o4, o5, o6, hL.1.en hs (na hL.1.1) (na hL.1.1), hL.2.1, fun y q hq => ?_, hL.2.2.2⟩
    obtain ⟨g1, b, pk, ky, g3, g4, g5, g6⟩ := hL.2.2.1 y q hq
    exact ⟨g1, b, pk, ky, g3, g4.en hs (no g4.1 (by decide)) (no g4.1 (by decide)), g5, g6⟩
  · rcases i4 with ⟨h8, h9⟩ | ⟨h8, g, h9, h10⟩
    · exact ⟨⟨m, hw'.1, i3, Or.inl ⟨h8, h9⟩⟩, hw'.2, fun q => absurd h8 q, i7⟩
    · have hz : hm_ow M F we _ := ⟨h9, i6 (by omega)⟩
      have hz' := hz.en hs (na h9) (na h9)
      exact ⟨⟨m, hw'.1, i3, Or.inr ⟨h8, g, hz'.1, h10⟩⟩, hw'.2, fun _ => hz'.2, i7⟩
  · obtain ⟨p, ip, q, iq, z, iz, g1, g3, g4, g5⟩ := h9 i w hw
    exact ⟨p, ip, q, iq, z, iz, g1.en hs (no g1.1 (by decide)) (no g1.1 (by decide)), g3, g4, g5⟩
theorem tk_I.ad {D : va_G} {M M' : hm_M} {x tm ea ka wl we we' cw n c se mk dr wq : Nat} {a lk fw : Nat → Nat} {E : Nat → sp_E} {W : List sp_W} {F : Nat → Prop} {T : Nat → Nat → Nat → Prop} {G : Nat → Prop} {w : sp_W} (h : tk_I D M x tm ea ka wl we cw n c se mk dr a lk fw E W F T G) (hw : wi_R M F T wq w) (hR : li_R D M' wl we' (li_c cw W.length) (W.length + 1) (va_up fw W.length wq)) (hk : ∀ q, q ≠ wl → q ≠ we' → M' q = M q) (hea : (we' = we ∧ W.length < cw) ∨ M we' = none) : tk_I D M' x tm ea ka wl we' (li_c cw W.length) n c se mk dr a lk (va_up fw W.length wq) E (W ++ [w]) F T G := by
  obtain ⟨h1, ⟨fe, h2, e1, e2⟩, ⟨fk, h3, e3, e4⟩, h4, h5, h6, h7, ⟨⟨m, i1, i3, i4⟩, i5, i6, i7⟩, h9⟩ := h
  have hs : hm_step M (en_F F wl we') M' (en_F F wl we') := ⟨fun z hz _ => hk z (fun q => hz (Or.inr (Or.inl q))) (fun q => hz (Or.inr (Or.inr q))), fun _ q => Or.inl q⟩
  have hwe : (∃ g, M we' = some (hm_ar D 0 cw g) ∧ 10 ≤ cw ∧ ¬ F we') ∨ M we' = none := by
    rcases hea with ⟨rfl, hlt⟩ | h
    · rcases i4 with ⟨h8, -⟩ | ⟨h8, g, h9, h10⟩
      · omega
      · exact Or.inl ⟨g, h9, by omega, i6 (by omega)⟩
    · exact Or.inr h
  have no : ∀ {z : Nat} {ci : Nat} {vs : List Value}, M z = some (hm_ob ci vs) → z ≠ we' := fun q => by
    rcases hwe with ⟨g, h, -⟩ | h
    · exact hm_neA q h
    · exact hm_neF q h
  have na : ∀ {z t N : Nat} {f : Nat → Option Nat}, M z = some (hm_ar D t N f) → N ≤ 8 → z ≠ we' := fun q hN => by
    rcases hwe with ⟨g, h, h10, -⟩ | h
    · exact hm_neN q h (by omega)
    · exact hm_neF q h
  have nw : ∀ {z : Nat} {ci : Nat} {vs : List Value}, M z = some (hm_ob ci vs) → ci ≠ 0 → z ≠ wl := fun q hc => hm_ne q i1 hc
  have nv : ∀ {z : Nat} {y : ClassId × vp_A}, M z = some (.inl y) → z ≠ wl := fun q => Ne.symm (hm_neA i1 q)
  have hweF : ¬ F we' := by
    rcases hwe with ⟨g, h, h10, h11⟩ | h
    · exact h11
    · exact fun q => ts_S_some h4 q h
  have hwi : ∀ {b : Nat} {v : sp_W}, wi_R M F T b v → wi_R M' F T b v := by
    rintro b v ⟨p, ip, q, iq, z, iz, g1, g3, g4, g5⟩
    exact ⟨p, ip, q, iq, z, iz, g1.en hs (nw g1.1 (by decide)) (no g1.1), g3, g4, g5⟩
  refine ⟨h1.en hs (nw h1.1 (by decide)) (no h1.1), ⟨fe, h2.en hs (nv h2.1) (na h2.1 (by decide)), e1, e2⟩, ⟨fk, h3.en hs (nv h3.1) (na h3.1 (by decide)), e3, e4⟩, h4.same (fun z hz => hk z (fun q => i5 (q ▸ hz)) (fun q => hweF (q ▸ hz))), fun i hi => ?_, h6, h7, ⟨by rw [List.length_append]; exact hR, i5, fun _ => hweF, ?_⟩, fun i v hv => ?_⟩
  · obtain ⟨e, he, ⟨b1, b2, b3, b4, b5, b6, f, hA, o1, o2, o3, o4, o5, o6, hL⟩⟩ := h5 i hi
    refine ⟨e, he, b1, b2, b3, b4, b5, b6, f, hA.en hs (nw hA.1 (by decide)) (no hA.1), o1, o2, o3, o4, o5, o6, hL.1.en hs (nv hL.1.1) (na hL.1.1 (by decide)), hL.2.1, fun y q hq => ?_, hL.2.2.2⟩
    obtain ⟨g1, b, pk, ky, g3, g4, g5, g6⟩ := hL.2.2.1 y q hq
    exact ⟨g1, b, pk, ky, g3, g4.en hs (nw g4.1 (by decide)) (no g4.1), g5, g6⟩
  · unfold li_c
    split
    · split <;> omega
    · exact i7
  · rcases Nat.lt_or_ge i W.length with hi | hi
    · rw [List.getElem?_append_left hi] at hv
      rw [va_up_ne _ _ (by omega)]
      exact hwi (h9 i v hv)
    · rw [List.getElem?_append_right hi] at hv
      obtain ⟨d, hd⟩ : ∃ d, i = W.length + d := ⟨i - W.length, by omega⟩
      subst hd
      rw [Nat.add_sub_cancel_left] at hv
      cases d with
      | zero =>
        injection hv with hv
        subst hv
        rw [Nat.add_zero, va_up_self]
        exact hwi hw
      | succ d => cases hv
set_option maxHeartbeats 4000000 in
set_option maxRecDepth 100000 in
theorem ct_TK_giveWire {l : Launch} {D : va_G} {BG : Nat → Option Cell} (M : hm_M) (tm : Nat) (F : Nat → Prop) (T : Nat → Nat → Nat → Prop) (G : Nat → Prop) (dr n c se : Nat) (hS : ts_S D M tm F T G dr n c se) (hc : c ≤ 40000) (x ea ka tr wl mk : Nat) (hx : hm_ow M F x (hm_ob 6 [.ref tm, .ref ea, .ref ka, .ref tr, .ref wl, .int (nI mk)])) (w s0 ix bw p ip q iq z iz k ky le d : Nat) (b1 : Option Nat) (hw : hm_ow M F w (hm_ob 5 [.int (nI s0), .int (nI ix), .int (nI bw), .ref p, .ref q, .ref z])) (hp : T p ip (sm_t 1 k 0)) (hq : T q iq ky) (hz : T z iz le) (hle : le = sm_t 0 d 0) (hn4 : n ≤ iz + 4) (hb : ts_o T b1 sp_b) (hno : ¬ ts_k T (sm_t 3 ky le)) : hm_ct l D BG ny_TK_giveWire prog_1_method_17_code 3 none 9 221 (ts_kc (ts_k T) n c [sm_t 3 ky le]) (ts_ks (ts_k T) n c [sm_t 3 ky le]) [.ref x, .ref w, va_rf b1] M (fun r M' => r = none ∧ ∃ se' F' T', ts_S D M' tm F' T' (sp_gv G [sp_b, sm_t 1 k 0, sm_t 3 ky le]) dr (ts_r (ts_k T) n c [sm_t 3 ky le]).1 (ts_r (ts_k T) n c [sm_t 3 ky le]).2 se' ∧ hm_step M F M' F' ∧ (∀ a i v, T a i v → T' a i v)) := by
  refine hm_ct_of (by decide +kernel) (by simp [lg_sl, hm_cat, hm_catI, hm_catR, hm_catN]) ?_
  intro X C E
  have C : hm_C X l D BG prog_1_method_17_code "TurnedKeys" "giveWire" 3 9 221 (ts_kc (ts_k T) n c [sm_t 3 ky le]) (ts_ks (ts_k T) n c [sm_t 3 ky le]) := C
  refine hm_lv (lv' := [(0, .ref x), (1, .ref w), (2, va_rf b1)]) (by simp [lv_args, hm_cat, hm_catI, hm_catR, hm_catN]) ?_
  rw [← sp_gv_0 G] at hS
  have hS0 := hS
  obtain ⟨la0, ht0, -⟩ := ts_tm hS0
  have hpp := hp
  refine hm_aload_n C nd_TK_giveWire_0 rfl ?_
  refine hm_get C nF_TK_10 hx.1 rfl nd_TK_giveWire_1 ?_
  refine hm_aload_nQ (r := b1) C nd_TK_giveWire_4 rfl ?_
  refine hm_stk (st' := [va_rf b1, .ref tm]) rfl ?_
  refine hm_callV C (ct_TS_give M tm F T (sp_gv G []) dr n c se hS0 b1 sp_b hb (fun _ _ _ _ _ _ h => absurd (sm_t_inj h).1 (by decide))) nV_TS_give [va_rf b1] rfl ht0 rfl nq_TK_118 nj_TS_give nx_TS_give rfl (rest := []) rfl (Nat.le_of_ble_eq_true rfl) (by decide) (by decide) (by omega) (by omega) nd_TK_giveWire_5 (fun r M1 hp => ?_)
  obtain ⟨rfl, se1, hs, hle1, hf1⟩ := hp
  have hS1 : ts_S D M1 tm F T (sp_gv G [sp_b]) dr n c se1 := by rw [sp_gv_ap] at hs; exact hs
  clear hs
  obtain ⟨la1, ht1, -⟩ := ts_tm hS1
  refine hm_stk (st' := [.int (if sp_b = 0 then 0 else 1)]) rfl ?_
  have hx1 := (by rw [hf1 _ hx.2]; exact hx.1 : M1 x = some (hm_ob 6 [.ref tm, .ref ea, .ref ka, .ref tr, .ref wl, .int (nI mk)]))
  have hw1 := (by rw [hf1 _ hw.2]; exact hw.1 : M1 w = some (hm_ob 5 [.int (nI s0), .int (nI ix), .int (nI bw), .ref p, .ref q, .ref z]))
  refine hm_pop C nd_TK_giveWire_8 rfl ?_
  refine hm_aload_n C nd_TK_giveWire_9 rfl ?_
  refine hm_get C nF_TK_10 hx1 rfl nd_TK_giveWire_10 ?_
  refine hm_aload_n C nd_TK_giveWire_13 rfl ?_
  refine hm_get C nF_TK_178 hw1 rfl nd_TK_giveWire_14 ?_
  refine hm_stk (st' := [va_rf (some p), .ref tm]) rfl ?_
  refine hm_callV C (ct_TS_give M1 tm F T (sp_gv G [sp_b]) dr n c se1 hS1 (some p) (sm_t 1 k 0) (Or.inr ⟨p, ip, rfl, hpp⟩) (fun _ _ _ _ _ _ h => absurd (sm_t_inj h).1 (by decide))) nV_TS_give [va_rf (some p)] rfl ht1 rfl nq_TK_118 nj_TS_give nx_TS_give rfl (rest := []) rfl (Nat.le_of_ble_eq_true rfl) (by decide) (by decide) (by omega) (by omega) nd_TK_giveWire_17 (fun r M2 hp => ?_)
  obtain ⟨rfl, se2, hs, hle2, hf2⟩ := hp
  have hS2 : ts_S D M2 tm F T (sp_gv G [sp_b, sm_t 1 k 0]) dr n c se2 := by rw [sp_gv_ap] at hs; exact hs
  clear hs
  obtain ⟨la2, ht2, -⟩ := ts_tm hS2
  refine hm_stk (st' := [.int (if sm_t 1 k 0 = 0 then 0 else 1)]) rfl ?_
  have hx2 := (by rw [hf2 _ hx.2]; exact hx1 : M2 x = some (hm_ob 6 [.ref tm, .ref ea, .ref ka, .ref tr, .ref wl, .int (nI mk)]))
  have hw2 := (by rw [hf2 _ hw.2]; exact hw1 : M2 w = some (hm_ob 5 [.int (nI s0), .int (nI ix), .int (nI bw), .ref p, .ref q, .ref z]))
  refine hm_pop C nd_TK_giveWire_20 rfl ?_
  refine hm_aload_n C nd_TK_giveWire_21 rfl ?_
  refine hm_get C nF_TK_10 hx2 rfl nd_TK_giveWire_22 ?_
  refine hm_aload_n C nd_TK_giveWire_25 rfl ?_
  refine hm_get C nF_TK_10 hx2 rfl nd_TK_giveWire_26 ?_
  refine hm_iconst (v := 3) C nd_TK_giveWire_29 (by decide) ?_
  refine hm_aload_n C nd_TK_giveWire_30 rfl ?_
  refine hm_get C nF_TK_115 hw2 rfl nd_TK_giveWire_31 ?_
  refine hm_aload_n C nd_TK_giveWire_34 rfl ?_
  refine hm_get C nF_TK_144 hw2 rfl nd_TK_giveWire_35 ?_
  refine hm_stk (st' := [va_rf (some z), va_rf (some q), .int (nI 3), .ref tm, .ref tm]) rfl ?_
  refine hm_callV C (ct_TS_made M2 tm F T (sp_gv G [sp_b, sm_t 1 k 0]) dr n c se2 hS2 hc 3 ky le (some q) (some z) (Or.inr ⟨q, iq, rfl, hq⟩) (Or.inr ⟨z, iz, rfl, hz⟩) (fun h => by cases h.1) (by decide) (by decide) (fun h => absurd h (by decide)) (fun _ => ⟨z, iz, d, rfl, hz, hn4, hle⟩)) nV_TS_made [.int (nI 3), va_rf (some q), va_rf (some z)] rfl ht2 rfl nq_TK_30 nj_TS_made nx_TS_made rfl (rest := [.ref tm]) rfl (Nat.le_of_ble_eq_true rfl) (by decide) (by decide) (by omega) (by omega) nd_TK_giveWire_38 (fun r M3 hp => ?_)
  obtain ⟨s, F3, T3, rfl, hP3, -, hn3⟩ := hp
  have hS3 := hP3.1
  have hsn := hn3 hno
  obtain ⟨la3, ht3, -⟩ := ts_tm hS3
  refine hm_stk (st' := [.ref s, .ref tm]) rfl ?_
  have hsen := (ts_let hS0).1
  refine hm_stk (st' := [va_rf (some s), .ref tm]) rfl ?_
  refine hm_callV C (ct_TS_give M3 tm F3 T3 (sp_gv G [sp_b, sm_t 1 k 0]) dr (ts_r (ts_k T) n c [sm_t 3 ky le]).1 (ts_r (ts_k T) n c [sm_t 3 ky le]).2 se2 hS3 (some s) (sm_t 3 ky le) (Or.inr ⟨s, n, rfl, hsn⟩) (fun a i _ _ h1 h2 _ => (by cases h1; have := (ts_uni hS3 h2 hsn).2 rfl; omega))) nV_TS_give [va_rf (some s)] rfl ht3 rfl nq_TK_118 nj_TS_give nx_TS_give rfl (rest := []) rfl (Nat.le_of_ble_eq_true rfl) (by decide) (by decide) (by omega) (by omega) nd_TK_giveWire_41 (fun r M4 hp => ?_)
  obtain ⟨rfl, se4, hs, hle4, hf4⟩ := hp
  have hS4 : ts_S D M4 tm F3 T3 (sp_gv G [sp_b, sm_t 1 k 0, sm_t 3 ky le]) dr (ts_r (ts_k T) n c [sm_t 3 ky le]).1 (ts_r (ts_k T) n c [sm_t 3 ky le]).2 se4 := by rw [sp_gv_ap] at hs; exact hs
  clear hs
  obtain ⟨la4, ht4, -⟩ := ts_tm hS4
  refine hm_stk (st' := [.int (if sm_t 3 ky le = 0 then 0 else 1)]) rfl ?_
  refine hm_pop C nd_TK_giveWire_44 rfl ?_
  exact hm_vret C E (by omega) (by omega) (⟨rfl, se4, F3, T3, hS4, ⟨fun y hy hM => (by have e2 : M2 y = M y := (by rw [hf2 y hy, hf1 y hy]); rw [hf4 y (fun h => (hP3.2.1.2 y h).elim hy (fun q => hM (e2 ▸ q))), hP3.2.1.1 y hy (by rw [e2]; exact hM)]; exact e2), fun y hy => (by by_cases h : F y; exact Or.inl h; exact (hP3.2.1.2 y hy).elim Or.inl (fun q => Or.inr (by rw [hf2 y h, hf1 y h] at q; exact q)))⟩, hP3.2.2.1⟩) nd_TK_giveWire_45
set_option maxHeartbeats 4000000 in
set_option maxRecDepth 100000 in
theorem ct_TK_look_in {l : Launch} {D : va_G} {BG : Nat → Option Cell} (M : hm_M) (x tm ea ka wl we cw n c se mk dr : Nat) (a lk fw : Nat → Nat) (Es : Nat → sp_E) (W : List sp_W) (F : Nat → Prop) (T : Nat → Nat → Nat → Prop) (G : Nat → Prop) (hI : tk_I D M x tm ea ka wl we cw n c se mk dr a lk fw Es W F T G) (j : Nat) (hj : j < 2) (h3 : ∀ v, v ∈ sp_lg (Es j) → ∀ x y, v ≠ sm_t 3 x y) : hm_ct l D BG ny_TK_look prog_1_method_4_code 6 (some .int) 2 41 0 0 [.ref x, .int (nI j)] M (fun r M' => r = some (.int (nI (sp_nz (sp_lg (Es j))))) ∧ tk_R D M' x n c cw mk dr Es W (sp_gv G (sp_lg (Es j)))) := by
  refine hm_ct_of (by decide +kernel) (by exact Nat.le_of_ble_eq_true rfl) ?_
  intro X C E
  have C : hm_C X l D BG prog_1_method_4_code "TurnedKeys" "look" 6 2 41 0 0 := C
  obtain ⟨hx, ⟨fe, hea, fe0, fe1⟩, ⟨fk, hka, fk0, fk1⟩, hS, hE, ia, il, hW, hw⟩ := id hI
  obtain ⟨ej, hej, hRj⟩ := hE j (by omega)
  have hej := hej (by omega)
  subst hej
  obtain ⟨b1, b2, b3, b4, b5, b6, f, hA, o1, o2, o3, o4, o5, o6, hL⟩ := id hRj
  have hlg : ∀ v, v ∈ sp_lg (Es j) → ∀ x y, v ≠ sm_t 3 x y := h3
  have loop : ∀ (u i : Nat) (Mi : hm_M) (sei : Nat) (L : List Nat), (Es j).2.2.2.2.2.2.2.2.length ≤ i + u → i ≤ 8 → L = [sp_b, (Es j).1, (Es j).2.1, (Es j).2.2.1, (Es j).2.2.2.1, (Es j).2.2.2.2.2.2.1] ++ ((Es j).2.2.2.2.2.2.2.2.take i).flatMap (fun q => [q.1, q.2.2]) → ts_S D Mi tm F T (sp_gv G L) dr n c sei → (∀ a, ¬ F a → Mi a = M a) → hm_W X Mi 0 0 92 [(4, .int (nI i)), (3, .int (nI (sp_nz L))), (2, .ref (a j)), (0, .ref x)] [] := by
    intro u
    induction u with
    | zero =>
        intro i Mi sei L hu hi8 hLL hSi hgi
        obtain ⟨lai, hti, -⟩ := ts_tm hSi
        have hxi : Mi x = some (hm_ob 6 [.ref tm, .ref ea, .ref ka, .ref (a 4), .ref wl, .int (nI mk)]) := by rw [hgi _ hx.2]; exact hx.1
        have hAi : Mi (a j) = some (hm_ob 3 [va_rf b1, va_rf b2, va_rf b3, va_rf b4, va_rf b5, .int (nI (Es j).2.2.2.2.1), .int (nI (Es j).2.2.2.2.2.1), va_rf b6, .int (nI (Es j).2.2.2.2.2.2.2.1), .ref (lk j), .int (nI (Es j).2.2.2.2.2.2.2.2.length)]) := by rw [hgi _ hA.2]; exact hA.1
        have hl8 : (Es j).2.2.2.2.2.2.2.2.length ≤ 8 := hL.2.1
        refine hm_iload C nd_TK_look_92 rfl ?_
        refine hm_aload_n C nd_TK_look_94 rfl ?_
        refine hm_get C nF_TK_131 hAi rfl nd_TK_look_95 ?_
        have hLe : L = sp_lg (Es j) := by rw [hLL, List.take_of_length_le (by omega)]; rfl
        refine hm_icmp_ge (tgt := 149) C nd_TK_look_98 (by decide) (fun c1 => ?_) (fun c1 => absurd (nI_le (by omega) (by omega)) c1)
        refine hm_iload_n C nd_TK_look_149 rfl ?_
        exact hm_iret C E (by omega) (by omega) (⟨by rw [hLe], tm, ea, ka, wl, we, sei, a, lk, fw, F, T, by rw [← hLe]; exact hI.gv hSi hgi⟩) nd_TK_look_150
    | succ u ih =>
        intro i Mi sei L hu hi8 hLL hSi hgi
        obtain ⟨lai, hti, -⟩ := ts_tm hSi
        have hxi : Mi x = some (hm_ob 6 [.ref tm, .ref ea, .ref ka, .ref (a 4), .ref wl, .int (nI mk)]) := by rw [hgi _ hx.2]; exact hx.1
        have hAi : Mi (a j) = some (hm_ob 3 [va_rf b1, va_rf b2, va_rf b3, va_rf b4, va_rf b5, .int (nI (Es j).2.2.2.2.1), .int (nI (Es j).2.2.2.2.2.1), va_rf b6, .int (nI (Es j).2.2.2.2.2.2.2.1), .ref (lk j), .int (nI (Es j).2.2.2.2.2.2.2.2.length)]) := by rw [hgi _ hA.2]; exact hA.1
        have hl8 : (Es j).2.2.2.2.2.2.2.2.length ≤ 8 := hL.2.1
        refine hm_iload C nd_TK_look_92 rfl ?_
        refine hm_aload_n C nd_TK_look_94 rfl ?_
        refine hm_get C nF_TK_131 hAi rfl nd_TK_look_95 ?_
        refine hm_icmp_ge (tgt := 149) C nd_TK_look_98 (by decide) (fun c1 => ?_) (fun c1 => ?_)
        · have hge : (Es j).2.2.2.2.2.2.2.2.length ≤ i := by
            rcases Nat.lt_or_ge i (Es j).2.2.2.2.2.2.2.2.length with h | h
            · exact absurd c1 (nI_ge h (by omega))
            · exact h
          have hLe : L = sp_lg (Es j) := by rw [hLL, List.take_of_length_le hge]; rfl
          refine hm_iload_n C nd_TK_look_149 rfl ?_
          exact hm_iret C E (by omega) (by omega) (⟨by rw [hLe], tm, ea, ka, wl, we, sei, a, lk, fw, F, T, by rw [← hLe]; exact hI.gv hSi hgi⟩) nd_TK_look_150
        · have hlt : i < (Es j).2.2.2.2.2.2.2.2.length := by
            rcases Nat.lt_or_ge i (Es j).2.2.2.2.2.2.2.2.length with h | h
            · exact h
            · exact absurd (nI_le h (by have := hL.2.1; omega)) c1
          have hlq := List.getElem?_eq_getElem hlt
          obtain ⟨q, hq⟩ : ∃ q, (Es j).2.2.2.2.2.2.2.2[i] = q := ⟨_, rfl⟩
          rw [hq] at hlq
          obtain ⟨-, b, pk, ky, hfb, hob, hpk, hky⟩ := hL.2.2.1 i q hlq
          have hqm : q ∈ (Es j).2.2.2.2.2.2.2.2 := List.mem_of_getElem? hlq
          have hLi : Mi (lk j) = some (hm_ar D 2 8 f) := by rw [hgi _ hL.1.2]; exact hL.1.1
          have hbi : Mi b = some (hm_ob 4 [va_rf pk, .int (nI q.2.1), va_rf ky]) := by rw [hgi _ hob.2]; exact hob.1
          have hS0 := hSi
          refine hm_aload_n C nd_TK_look_101 rfl ?_
          refine hm_get C nF_TK_134 hAi rfl nd_TK_look_102 ?_
          refine hm_iload C nd_TK_look_105 rfl ?_
          refine hm_aald (t := 2) (j := i) C rfl hLi rfl (by omega) (by decide) nd_TK_look_107 ?_
          rw [hfb]
          refine hm_stk (st' := [.ref b]) rfl ?_
          refine hm_astore C [(5, .ref b), (4, .int (nI i)), (3, .int (nI (sp_nz L))), (2, .ref (a j)), (0, .ref x)] nd_TK_look_108 (by decide) rfl ?_
          refine hm_aload C nd_TK_look_110 rfl ?_
          refine hm_ifnull (tgt := 143) (r := (some b)) C nd_TK_look_112 (by decide) (fun h => by cases h) (fun _ => ?_)
          refine hm_iload_n C nd_TK_look_115 rfl ?_
          refine hm_aload_n C nd_TK_look_116 rfl ?_
          refine hm_get C nF_TK_10 hxi rfl nd_TK_look_117 ?_
          refine hm_aload C nd_TK_look_120 rfl ?_
          refine hm_get C nF_TK_138 hbi rfl nd_TK_look_122 ?_
          refine hm_stk (st' := [va_rf pk, .ref tm, .int (nI (sp_nz L))]) rfl ?_
          refine hm_callV C (ct_TS_give Mi tm F T (sp_gv G L) dr n c sei hS0 pk q.1 hpk (fun _ _ _ _ _ _ h => absurd h (hlg _ (List.mem_append_right _ (List.mem_flatMap.mpr ⟨q, hqm, by simp⟩)) _ _))) nV_TS_give [va_rf pk] rfl hti rfl nq_TK_118 nj_TS_give nx_TS_give rfl (rest := [.int (nI (sp_nz L))]) rfl (Nat.le_of_ble_eq_true rfl) (by decide) (by decide) (by omega) (by omega) nd_TK_look_125 (fun r M1 hp => ?_)
          obtain ⟨rfl, se1, hs, hle1, hf1⟩ := hp
          have hS1 : ts_S D M1 tm F T (sp_gv G (L ++ [q.1])) dr n c se1 := by rw [sp_gv_ap] at hs; exact hs
          clear hs
          obtain ⟨la1, ht1, -⟩ := ts_tm hS1
          refine hm_stk (st' := [.int (if q.1 = 0 then 0 else 1), .int (nI (sp_nz L))]) rfl ?_
          have hgA : ∀ a, ¬ F a → M1 a = M a := fun z hz => by rw [hf1 z hz]; exact hgi z hz
          have hxA : M1 x = some (hm_ob 6 [.ref tm, .ref ea, .ref ka, .ref (a 4), .ref wl, .int (nI mk)]) := by rw [hgA _ hx.2]; exact hx.1
          have hbA : M1 b = some (hm_ob 4 [va_rf pk, .int (nI q.2.1), va_rf ky]) := by rw [hgA _ hob.2]; exact hob.1
          refine hm_aload_n C nd_TK_look_128 rfl ?_
          refine hm_get C nF_TK_10 hxA rfl nd_TK_look_129 ?_
          refine hm_aload C nd_TK_look_132 rfl ?_
          refine hm_get C nF_TK_143 hbA rfl nd_TK_look_134 ?_
          refine hm_stk (st' := [va_rf ky, .ref tm, .int (if q.1 = 0 then 0 else 1), .int (nI (sp_nz L))]) rfl ?_
          refine hm_callV C (ct_TS_give M1 tm F T (sp_gv G (L ++ [q.1])) dr n c se1 hS1 ky q.2.2 hky (fun _ _ _ _ _ _ h => absurd h (hlg _ (List.mem_append_right _ (List.mem_flatMap.mpr ⟨q, hqm, by simp⟩)) _ _))) nV_TS_give [va_rf ky] rfl ht1 rfl nq_TK_118 nj_TS_give nx_TS_give rfl (rest := [.int (if q.1 = 0 then 0 else 1), .int (nI (sp_nz L))]) rfl (Nat.le_of_ble_eq_true rfl) (by decide) (by decide) (by omega) (by omega) nd_TK_look_137 (fun r M2 hp => ?_)
          obtain ⟨rfl, se2, hs, hle2, hf2⟩ := hp
          have hS2 : ts_S D M2 tm F T (sp_gv G ((L ++ [q.1]) ++ [q.2.2])) dr n c se2 := by rw [sp_gv_ap] at hs; exact hs
          clear hs
          obtain ⟨la2, ht2, -⟩ := ts_tm hS2
          refine hm_stk (st' := [.int (if q.2.2 = 0 then 0 else 1), .int (if q.1 = 0 then 0 else 1), .int (nI (sp_nz L))]) rfl ?_
          have hgB : ∀ a, ¬ F a → M2 a = M a := fun z hz => by rw [hf2 z hz]; exact hgA z hz
          refine hm_iadd C nd_TK_look_140 ?_
          refine hm_iadd C nd_TK_look_141 ?_
          refine hm_stk (st' := [.int (nI (sp_nz ((L ++ [q.1]) ++ [q.2.2])))]) (by rw [← Int32.add_assoc, sp_nzI, sp_nzI]) ?_
          refine hm_istore_n C [(3, .int (nI (sp_nz ((L ++ [q.1]) ++ [q.2.2])))), (5, .ref b), (4, .int (nI i)), (2, .ref (a j)), (0, .ref x)] nd_TK_look_142 (by decide) rfl ?_
          refine hm_iinc (x := (nI i)) (v := ((nI i) + 1)) C [(4, .int ((nI i) + 1)), (3, .int (nI (sp_nz ((L ++ [q.1]) ++ [q.2.2])))), (5, .ref b), (2, .ref (a j)), (0, .ref x)] nd_TK_look_143 rfl rfl (by decide) rfl ?_
          refine hm_goto (tgt := 92) C nd_TK_look_146 (by decide) ?_
          refine hm_less (lv' := [(4, .int (nI (i + 1))), (3, .int (nI (sp_nz ((L ++ [q.1]) ++ [q.2.2])))), (2, .ref (a j)), (0, .ref x)]) (fun y hy => by simp only [List.mem_cons, List.not_mem_nil, or_false, nI_1] at hy ⊢; rcases hy with h | h | h | h <;> subst h <;> simp) ?_
          exact ih (i + 1) M2 se2 ((L ++ [q.1]) ++ [q.2.2]) (by omega) (by omega) (by rw [hLL, List.take_add_one, hlq, Option.toList_some, List.flatMap_append, List.flatMap_singleton, List.append_assoc, List.append_assoc]; rfl) hS2 hgB
  refine hm_lv (lv' := [(0, .ref x), (1, .int (nI j))]) rfl ?_
  have hgz := sp_gv_0 G
  have hS00 : ts_S D M tm F T (sp_gv G []) dr n c se := by rw [hgz]; exact hS
  obtain ⟨la0, ht0, -⟩ := ts_tm hS00
  have hlg : ∀ v, v ∈ sp_lg (Es j) → ∀ x y, v ≠ sm_t 3 x y := h3
  have hS0 := hS00
  refine hm_aload_n C nd_TK_look_0 rfl ?_
  refine hm_get C nF_TK_44 hx.1 rfl nd_TK_look_1 ?_
  refine hm_iload_n C nd_TK_look_4 rfl ?_
  refine hm_callS C (ct_TK_endAt_in M ea j (a j) fe hea.1 hj (by obtain rfl | rfl : j = 0 ∨ j = 1 := (by omega); exact fe0; exact fe1)) nV_TK_endAt nq_TK_66 nu_TK_endAt rfl (rest := []) rfl (Nat.le_of_ble_eq_true rfl) (by decide) (by decide) (by omega) (by omega) nd_TK_look_5 (fun r M1 hp => ?_)
  obtain ⟨rfl, eM1⟩ := hp
  rw [eM1]
  refine hm_stk (st' := [.ref (a j)]) rfl ?_
  have hg0 : ∀ a, ¬ F a → M a = M a := fun _ _ => rfl
  refine hm_astore_n C [(2, .ref (a j)), (0, .ref x), (1, .int (nI j))] nd_TK_look_8 (by decide) rfl ?_
  refine hm_aload_n C nd_TK_look_9 rfl ?_
  refine hm_ifnonnull (tgt := 15) (r := (some (a j))) C nd_TK_look_10 (by decide) (fun _ => ?_) (fun h => by cases h)
  refine hm_aload_n C nd_TK_look_15 rfl ?_
  refine hm_get C nF_TK_10 hx.1 rfl nd_TK_look_16 ?_
  refine hm_aload_n C nd_TK_look_19 rfl ?_
  refine hm_get C nF_TK_86 hA.1 rfl nd_TK_look_20 ?_
  refine hm_stk (st' := [va_rf b1, .ref tm]) rfl ?_
  refine hm_callV C (ct_TS_give M tm F T (sp_gv G []) dr n c se hS0 b1 sp_b o1 (fun _ _ _ _ _ _ h => absurd h (hlg _ (by unfold sp_lg; simp) _ _))) nV_TS_give [va_rf b1] rfl ht0 rfl nq_TK_118 nj_TS_give nx_TS_give rfl (rest := []) rfl (Nat.le_of_ble_eq_true rfl) (by decide) (by decide) (by omega) (by omega) nd_TK_look_23 (fun r M2 hp => ?_)
  obtain ⟨rfl, se1, hs, hle1, hf1⟩ := hp
  have hS1 : ts_S D M2 tm F T (sp_gv G [sp_b]) dr n c se1 := by rw [sp_gv_ap] at hs; exact hs
  clear hs
  obtain ⟨la1, ht1, -⟩ := ts_tm hS1
  refine hm_stk (st' := [.int (if sp_b = 0 then 0 else 1)]) rfl ?_
  have hg1 : ∀ a, ¬ F a → M2 a = M a := fun z hz => (hf1 z hz).trans (hg0 z hz)
  have hx1 : M2 x = some (hm_ob 6 [.ref tm, .ref ea, .ref ka, .ref (a 4), .ref wl, .int (nI mk)]) := by rw [hg1 _ hx.2]; exact hx.1
  have hA1 : M2 (a j) = some (hm_ob 3 [va_rf b1, va_rf b2, va_rf b3, va_rf b4, va_rf b5, .int (nI (Es j).2.2.2.2.1), .int (nI (Es j).2.2.2.2.2.1), va_rf b6, .int (nI (Es j).2.2.2.2.2.2.2.1), .ref (lk j), .int (nI (Es j).2.2.2.2.2.2.2.2.length)]) := by rw [hg1 _ hA.2]; exact hA.1
  refine hm_aload_n C nd_TK_look_26 rfl ?_
  refine hm_get C nF_TK_10 hx1 rfl nd_TK_look_27 ?_
  refine hm_aload_n C nd_TK_look_30 rfl ?_
  refine hm_get C nF_TK_122 hA1 rfl nd_TK_look_31 ?_
  refine hm_stk (st' := [va_rf b2, .ref tm, .int (if sp_b = 0 then 0 else 1)]) rfl ?_
  refine hm_callV C (ct_TS_give M2 tm F T (sp_gv G [sp_b]) dr n c se1 hS1 b2 ((Es j).1) o2 (fun _ _ _ _ _ _ h => absurd h (hlg _ (by unfold sp_lg; simp) _ _))) nV_TS_give [va_rf b2] rfl ht1 rfl nq_TK_118 nj_TS_give nx_TS_give rfl (rest := [.int (if sp_b = 0 then 0 else 1)]) rfl (Nat.le_of_ble_eq_true rfl) (by decide) (by decide) (by omega) (by omega) nd_TK_look_34 (fun r M3 hp => ?_)
  obtain ⟨rfl, se2, hs, hle2, hf2⟩ := hp
  have hS2 : ts_S D M3 tm F T (sp_gv G [sp_b, (Es j).1]) dr n c se2 := by rw [sp_gv_ap] at hs; exact hs
  clear hs
  obtain ⟨la2, ht2, -⟩ := ts_tm hS2
  refine hm_stk (st' := [.int (if (Es j).1 = 0 then 0 else 1), .int (if sp_b = 0 then 0 else 1)]) rfl ?_
  have hg2 : ∀ a, ¬ F a → M3 a = M a := fun z hz => (hf2 z hz).trans (hg1 z hz)
  have hx2 : M3 x = some (hm_ob 6 [.ref tm, .ref ea, .ref ka, .ref (a 4), .ref wl, .int (nI mk)]) := by rw [hg2 _ hx.2]; exact hx.1
  have hA2 : M3 (a j) = some (hm_ob 3 [va_rf b1, va_rf b2, va_rf b3, va_rf b4, va_rf b5, .int (nI (Es j).2.2.2.2.1), .int (nI (Es j).2.2.2.2.2.1), va_rf b6, .int (nI (Es j).2.2.2.2.2.2.2.1), .ref (lk j), .int (nI (Es j).2.2.2.2.2.2.2.2.length)]) := by rw [hg2 _ hA.2]; exact hA.1
  refine hm_iadd C nd_TK_look_37 ?_
  refine hm_aload_n C nd_TK_look_38 rfl ?_
  refine hm_get C nF_TK_10 hx2 rfl nd_TK_look_39 ?_
  refine hm_aload_n C nd_TK_look_42 rfl ?_
  refine hm_get C nF_TK_125 hA2 rfl nd_TK_look_43 ?_
  refine hm_stk (st' := [va_rf b3, .ref tm, .int ((if sp_b = 0 then 0 else 1) + (if (Es j).1 = 0 then 0 else 1))]) rfl ?_
  refine hm_callV C (ct_TS_give M3 tm F T (sp_gv G [sp_b, (Es j).1]) dr n c se2 hS2 b3 ((Es j).2.1) o3 (fun _ _ _ _ _ _ h => absurd h (hlg _ (by unfold sp_lg; simp) _ _))) nV_TS_give [va_rf b3] rfl ht2 rfl nq_TK_118 nj_TS_give nx_TS_give rfl (rest := [.int ((if sp_b = 0 then 0 else 1) + (if (Es j).1 = 0 then 0 else 1))]) rfl (Nat.le_of_ble_eq_true rfl) (by decide) (by decide) (by omega) (by omega) nd_TK_look_46 (fun r M4 hp => ?_)
  obtain ⟨rfl, se3, hs, hle3, hf3⟩ := hp
  have hS3 : ts_S D M4 tm F T (sp_gv G [sp_b, (Es j).1, (Es j).2.1]) dr n c se3 := by rw [sp_gv_ap] at hs; exact hs
  clear hs
  obtain ⟨la3, ht3, -⟩ := ts_tm hS3
  refine hm_stk (st' := [.int (if (Es j).2.1 = 0 then 0 else 1), .int ((if sp_b = 0 then 0 else 1) + (if (Es j).1 = 0 then 0 else 1))]) rfl ?_
  have hg3 : ∀ a, ¬ F a → M4 a = M a := fun z hz => (hf3 z hz).trans (hg2 z hz)
  have hx3 : M4 x = some (hm_ob 6 [.ref tm, .ref ea, .ref ka, .ref (a 4), .ref wl, .int (nI mk)]) := by rw [hg3 _ hx.2]; exact hx.1
  have hA3 : M4 (a j) = some (hm_ob 3 [va_rf b1, va_rf b2, va_rf b3, va_rf b4, va_rf b5, .int (nI (Es j).2.2.2.2.1), .int (nI (Es j).2.2.2.2.2.1), va_rf b6, .int (nI (Es j).2.2.2.2.2.2.2.1), .ref (lk j), .int (nI (Es j).2.2.2.2.2.2.2.2.length)]) := by rw [hg3 _ hA.2]; exact hA.1
  refine hm_iadd C nd_TK_look_49 ?_
  refine hm_stk (st' := [.int (nI (sp_nz [sp_b, (Es j).1, (Es j).2.1]))]) (by rw [sp_nz1, sp_nzI, sp_nzI]; rfl) ?_
  refine hm_istore_n C [(3, .int (nI (sp_nz [sp_b, (Es j).1, (Es j).2.1]))), (2, .ref (a j)), (0, .ref x), (1, .int (nI j))] nd_TK_look_50 (by decide) rfl ?_
  refine hm_iload_n C nd_TK_look_51 rfl ?_
  refine hm_aload_n C nd_TK_look_52 rfl ?_
  refine hm_get C nF_TK_10 hx3 rfl nd_TK_look_53 ?_
  refine hm_aload_n C nd_TK_look_56 rfl ?_
  refine hm_get C nF_TK_37 hA3 rfl nd_TK_look_57 ?_
  refine hm_stk (st' := [va_rf b4, .ref tm, .int (nI (sp_nz [sp_b, (Es j).1, (Es j).2.1]))]) rfl ?_
  refine hm_callV C (ct_TS_give M4 tm F T (sp_gv G [sp_b, (Es j).1, (Es j).2.1]) dr n c se3 hS3 b4 ((Es j).2.2.1) o4 (fun _ _ _ _ _ _ h => absurd h (hlg _ (by unfold sp_lg; simp) _ _))) nV_TS_give [va_rf b4] rfl ht3 rfl nq_TK_118 nj_TS_give nx_TS_give rfl (rest := [.int (nI (sp_nz [sp_b, (Es j).1, (Es j).2.1]))]) rfl (Nat.le_of_ble_eq_true rfl) (by decide) (by decide) (by omega) (by omega) nd_TK_look_60 (fun r M5 hp => ?_)
  obtain ⟨rfl, se4, hs, hle4, hf4⟩ := hp
  have hS4 : ts_S D M5 tm F T (sp_gv G [sp_b, (Es j).1, (Es j).2.1, (Es j).2.2.1]) dr n c se4 := by rw [sp_gv_ap] at hs; exact hs
  clear hs
  obtain ⟨la4, ht4, -⟩ := ts_tm hS4
  refine hm_stk (st' := [.int (if (Es j).2.2.1 = 0 then 0 else 1), .int (nI (sp_nz [sp_b, (Es j).1, (Es j).2.1]))]) rfl ?_
  have hg4 : ∀ a, ¬ F a → M5 a = M a := fun z hz => (hf4 z hz).trans (hg3 z hz)
  have hx4 : M5 x = some (hm_ob 6 [.ref tm, .ref ea, .ref ka, .ref (a 4), .ref wl, .int (nI mk)]) := by rw [hg4 _ hx.2]; exact hx.1
  have hA4 : M5 (a j) = some (hm_ob 3 [va_rf b1, va_rf b2, va_rf b3, va_rf b4, va_rf b5, .int (nI (Es j).2.2.2.2.1), .int (nI (Es j).2.2.2.2.2.1), va_rf b6, .int (nI (Es j).2.2.2.2.2.2.2.1), .ref (lk j), .int (nI (Es j).2.2.2.2.2.2.2.2.length)]) := by rw [hg4 _ hA.2]; exact hA.1
  refine hm_aload_n C nd_TK_look_63 rfl ?_
  refine hm_get C nF_TK_10 hx4 rfl nd_TK_look_64 ?_
  refine hm_aload_n C nd_TK_look_67 rfl ?_
  refine hm_get C nF_TK_41 hA4 rfl nd_TK_look_68 ?_
  refine hm_stk (st' := [va_rf b5, .ref tm, .int (if (Es j).2.2.1 = 0 then 0 else 1), .int (nI (sp_nz [sp_b, (Es j).1, (Es j).2.1]))]) rfl ?_
  refine hm_callV C (ct_TS_give M5 tm F T (sp_gv G [sp_b, (Es j).1, (Es j).2.1, (Es j).2.2.1]) dr n c se4 hS4 b5 ((Es j).2.2.2.1) o5 (fun _ _ _ _ _ _ h => absurd h (hlg _ (by unfold sp_lg; simp) _ _))) nV_TS_give [va_rf b5] rfl ht4 rfl nq_TK_118 nj_TS_give nx_TS_give rfl (rest := [.int (if (Es j).2.2.1 = 0 then 0 else 1), .int (nI (sp_nz [sp_b, (Es j).1, (Es j).2.1]))]) rfl (Nat.le_of_ble_eq_true rfl) (by decide) (by decide) (by omega) (by omega) nd_TK_look_71 (fun r M6 hp => ?_)
  obtain ⟨rfl, se5, hs, hle5, hf5⟩ := hp
  have hS5 : ts_S D M6 tm F T (sp_gv G [sp_b, (Es j).1, (Es j).2.1, (Es j).2.2.1, (Es j).2.2.2.1]) dr n c se5 := by rw [sp_gv_ap] at hs; exact hs
  clear hs
  obtain ⟨la5, ht5, -⟩ := ts_tm hS5
  refine hm_stk (st' := [.int (if (Es j).2.2.2.1 = 0 then 0 else 1), .int (if (Es j).2.2.1 = 0 then 0 else 1), .int (nI (sp_nz [sp_b, (Es j).1, (Es j).2.1]))]) rfl ?_
  have hg5 : ∀ a, ¬ F a → M6 a = M a := fun z hz => (hf5 z hz).trans (hg4 z hz)
  have hx5 : M6 x = some (hm_ob 6 [.ref tm, .ref ea, .ref ka, .ref (a 4), .ref wl, .int (nI mk)]) := by rw [hg5 _ hx.2]; exact hx.1
  have hA5 : M6 (a j) = some (hm_ob 3 [va_rf b1, va_rf b2, va_rf b3, va_rf b4, va_rf b5, .int (nI (Es j).2.2.2.2.1), .int (nI (Es j).2.2.2.2.2.1), va_rf b6, .int (nI (Es j).2.2.2.2.2.2.2.1), .ref (lk j), .int (nI (Es j).2.2.2.2.2.2.2.2.length)]) := by rw [hg5 _ hA.2]; exact hA.1
  refine hm_iadd C nd_TK_look_74 ?_
  refine hm_aload_n C nd_TK_look_75 rfl ?_
  refine hm_get C nF_TK_10 hx5 rfl nd_TK_look_76 ?_
  refine hm_aload_n C nd_TK_look_79 rfl ?_
  refine hm_get C nF_TK_128 hA5 rfl nd_TK_look_80 ?_
  refine hm_stk (st' := [va_rf b6, .ref tm, .int ((if (Es j).2.2.1 = 0 then 0 else 1) + (if (Es j).2.2.2.1 = 0 then 0 else 1)), .int (nI (sp_nz [sp_b, (Es j).1, (Es j).2.1]))]) rfl ?_
  refine hm_callV C (ct_TS_give M6 tm F T (sp_gv G [sp_b, (Es j).1, (Es j).2.1, (Es j).2.2.1, (Es j).2.2.2.1]) dr n c se5 hS5 b6 ((Es j).2.2.2.2.2.2.1) o6 (fun _ _ _ _ _ _ h => absurd h (hlg _ (by unfold sp_lg; simp) _ _))) nV_TS_give [va_rf b6] rfl ht5 rfl nq_TK_118 nj_TS_give nx_TS_give rfl (rest := [.int ((if (Es j).2.2.1 = 0 then 0 else 1) + (if (Es j).2.2.2.1 = 0 then 0 else 1)), .int (nI (sp_nz [sp_b, (Es j).1, (Es j).2.1]))]) rfl (Nat.le_of_ble_eq_true rfl) (by decide) (by decide) (by omega) (by omega) nd_TK_look_83 (fun r M7 hp => ?_)
  obtain ⟨rfl, se6, hs, hle6, hf6⟩ := hp
  have hS6 : ts_S D M7 tm F T (sp_gv G [sp_b, (Es j).1, (Es j).2.1, (Es j).2.2.1, (Es j).2.2.2.1, (Es j).2.2.2.2.2.2.1]) dr n c se6 := by rw [sp_gv_ap] at hs; exact hs
  clear hs
  obtain ⟨la6, ht6, -⟩ := ts_tm hS6
  refine hm_stk (st' := [.int (if (Es j).2.2.2.2.2.2.1 = 0 then 0 else 1), .int ((if (Es j).2.2.1 = 0 then 0 else 1) + (if (Es j).2.2.2.1 = 0 then 0 else 1)), .int (nI (sp_nz [sp_b, (Es j).1, (Es j).2.1]))]) rfl ?_
  have hg6 : ∀ a, ¬ F a → M7 a = M a := fun z hz => (hf6 z hz).trans (hg5 z hz)
  have hx6 : M7 x = some (hm_ob 6 [.ref tm, .ref ea, .ref ka, .ref (a 4), .ref wl, .int (nI mk)]) := by rw [hg6 _ hx.2]; exact hx.1
  have hA6 : M7 (a j) = some (hm_ob 3 [va_rf b1, va_rf b2, va_rf b3, va_rf b4, va_rf b5, .int (nI (Es j).2.2.2.2.1), .int (nI (Es j).2.2.2.2.2.1), va_rf b6, .int (nI (Es j).2.2.2.2.2.2.2.1), .ref (lk j), .int (nI (Es j).2.2.2.2.2.2.2.2.length)]) := by rw [hg6 _ hA.2]; exact hA.1
  refine hm_iadd C nd_TK_look_86 ?_
  refine hm_iadd C nd_TK_look_87 ?_
  refine hm_stk (st' := [.int (nI (sp_nz [sp_b, (Es j).1, (Es j).2.1, (Es j).2.2.1, (Es j).2.2.2.1, (Es j).2.2.2.2.2.2.1]))]) (by rw [← Int32.add_assoc, ← Int32.add_assoc, sp_nzI, sp_nzI, sp_nzI]; rfl) ?_
  refine hm_istore_n C [(3, .int (nI (sp_nz [sp_b, (Es j).1, (Es j).2.1, (Es j).2.2.1, (Es j).2.2.2.1, (Es j).2.2.2.2.2.2.1]))), (2, .ref (a j)), (0, .ref x), (1, .int (nI j))] nd_TK_look_88 (by decide) rfl ?_
  refine hm_iconst (v := 0) C nd_TK_look_89 (by decide) ?_
  refine hm_istore C [(4, .int 0), (3, .int (nI (sp_nz [sp_b, (Es j).1, (Es j).2.1, (Es j).2.2.1, (Es j).2.2.2.1, (Es j).2.2.2.2.2.2.1]))), (2, .ref (a j)), (0, .ref x), (1, .int (nI j))] nd_TK_look_90 (by decide) rfl ?_
  refine hm_less (lv' := [(4, .int (nI 0)), (3, .int (nI (sp_nz [sp_b, (Es j).1, (Es j).2.1, (Es j).2.2.1, (Es j).2.2.2.1, (Es j).2.2.2.2.2.2.1]))), (2, .ref (a j)), (0, .ref x)]) (fun q hq => by simp only [List.mem_cons, List.not_mem_nil, or_false] at hq ⊢; rcases hq with h | h | h | h <;> subst h <;> simp <;> rfl) ?_
  exact loop (Es j).2.2.2.2.2.2.2.2.length 0 M7 se6 [sp_b, (Es j).1, (Es j).2.1, (Es j).2.2.1, (Es j).2.2.2.1, (Es j).2.2.2.2.2.2.1] (by omega) (by omega) (by rw [List.take_zero, List.flatMap_nil, List.append_nil]) hS6 hg6
set_option maxHeartbeats 4000000 in
set_option maxRecDepth 100000 in
theorem ct_TK_look_out {l : Launch} {D : va_G} {BG : Nat → Option Cell} (M : hm_M) (x tm ea ka wl we cw n c se mk dr : Nat) (a lk fw : Nat → Nat) (Es : Nat → sp_E) (W : List sp_W) (F : Nat → Prop) (T : Nat → Nat → Nat → Prop) (G : Nat → Prop) (hI : tk_I D M x tm ea ka wl we cw n c se mk dr a lk fw Es W F T G) (e : Int32) (he : e < 0 ∨ nI 2 ≤ e) : hm_ct l D BG ny_TK_look prog_1_method_4_code 6 (some .int) 2 41 0 0 [.ref x, .int e] M (fun r M' => r = some (.int (-1)) ∧ M' = M) := by
  refine hm_ct_of (by decide +kernel) (by exact Nat.le_of_ble_eq_true rfl) ?_
  intro X C E
  have C : hm_C X l D BG prog_1_method_4_code "TurnedKeys" "look" 6 2 41 0 0 := C
  refine hm_lv (lv' := [(0, .ref x), (1, .int e)]) rfl ?_
  obtain ⟨hx, ⟨fe, hea, fe0, fe1⟩, ⟨fk, hka, fk0, fk1⟩, hS, hE, ia, il, hW, hw⟩ := id hI
  refine hm_aload_n C nd_TK_look_0 rfl ?_
  refine hm_get C nF_TK_44 hx.1 rfl nd_TK_look_1 ?_
  refine hm_iload_n C nd_TK_look_4 rfl ?_
  refine hm_callS C (ct_TK_endAt_out M ea fe hea.1 e he) nV_TK_endAt nq_TK_66 nu_TK_endAt rfl (rest := []) rfl (Nat.le_of_ble_eq_true rfl) (by decide) (by decide) (by omega) (by omega) nd_TK_look_5 (fun r M1 hp => ?_)
  obtain ⟨rfl, eM1⟩ := hp
  rw [eM1]
  refine hm_stk (st' := [.null]) rfl ?_
  refine hm_astore_nQ (r := none) C [(2, .null), (0, .ref x), (1, .int e)] nd_TK_look_8 (by decide) rfl ?_
  refine hm_aload_nN C nd_TK_look_9 rfl ?_
  refine hm_ifnonnull (tgt := 15) (r := none) C nd_TK_look_10 (by decide) (fun h => absurd rfl h) (fun _ => ?_)
  refine hm_iconst (v := (-1)) C nd_TK_look_13 (by decide) ?_
  exact hm_iret C E (by omega) (by omega) (⟨rfl, rfl⟩) nd_TK_look_14
