theorem tt_pos {n dr : Nat} {kd : Nat → Nat} {lf rt : Nat → Option Nat} {vl : Nat → Nat} (hV : tt_V n dr kd lf rt vl) {i : Nat} (hi : i < n) : vl i ≠ 0 := by
  by_cases c : kd i = 0
  · obtain ⟨d, -, -, e⟩ := hV.2.1 i hi c
    rw [e]; exact sm_t_ne _ _ _
  · rw [hV.1 i hi c]; exact sm_t_ne _ _ _
theorem tt_vo_inj {n dr : Nat} {kd : Nat → Nat} {lf rt : Nat → Option Nat} {vl : Nat → Nat} (hV : tt_V n dr kd lf rt vl) {r r' : Option Nat} (h1 : ∀ j, r = some j → j < n) (h2 : ∀ j, r' = some j → j < n) (e : tt_vo vl r = tt_vo vl r') : r = r' := by
  cases r with
  | none =>
    cases r' with
    | none => rfl
    | some j => exact absurd e.symm (tt_pos hV (h2 j rfl))
  | some i =>
    cases r' with
    | none => exact absurd e (tt_pos hV (h1 i rfl))
    | some j => exact congrArg some (hV.2.2.2 i j (h1 i rfl) (h2 j rfl) e)
theorem tt_ok_draw {n dr se : Nat} {G : Nat → Prop} {kd : Nat → Nat} {lf rt er lu pb : Nat → Option Nat} {dv : Nat → Bool} {vl : Nat → Nat} (h : tt_I n dr se G kd lf rt er lu pb dv vl) : tt_ok n dr (dr + 1) kd pb vl 0 none none (sm_t 0 (dr + 1) 0) := by
  refine ⟨by omega, fun j h => (by cases h), fun j h => (by cases h), fun i hi e => ?_, fun _ => ⟨rfl, rfl, rfl, rfl⟩, fun h => absurd rfl h, fun h => by omega, fun h => by omega, fun h => by omega, fun h => by omega⟩
  obtain ⟨-, -, -, hV, -⟩ := h
  by_cases c : kd i = 0
  · obtain ⟨d, d1, d2, d3⟩ := hV.2.1 i hi c
    rw [d3] at e
    have := (sm_t_inj e).2.1
    omega
  · rw [hV.1 i hi c] at e
    exact c (sm_t_inj e).1
theorem tt_ok_pub {n dr se j : Nat} {G : Nat → Prop} {kd : Nat → Nat} {lf rt er lu pb : Nat → Option Nat} {dv : Nat → Bool} {vl : Nat → Nat} (h : tt_I n dr se G kd lf rt er lu pb dv vl) (hj : j < n) (h0 : kd j = 0) (hp : pb j = none) : tt_ok n dr dr kd pb vl 1 (some j) none (sm_t 1 (vl j) 0) := by
  refine ⟨by omega, fun i h => (by cases h; exact hj), fun i h => (by cases h), fun i hi e => ?_, fun h => by omega, fun _ => ⟨rfl, rfl⟩, fun _ => ⟨rfl, j, rfl, h0, hp⟩, fun h => by omega, fun h => by omega, fun h => by omega⟩
  obtain ⟨hW, hKk, -, hV, -⟩ := h
  by_cases c : kd i = 0
  · obtain ⟨d, d1, d2, d3⟩ := hV.2.1 i hi c
    rw [d3] at e
    have := (sm_t_inj e).1
    omega
  · rw [hV.1 i hi c] at e
    obtain ⟨e1, e2, -⟩ := sm_t_inj e
    obtain ⟨-, j', f1, f2, f3⟩ := (hKk i hi).2.1 e1
    rw [f1] at e2
    have hj' : j' < n := Nat.lt_trans ((hW i hi).2.1 j' f1) hi
    have : j' = j := hV.2.2.2 j' j hj' hj e2
    rw [this, hp] at f3
    cases f3
theorem tt_ok_made {n dr se k : Nat} {G : Nat → Prop} {kd : Nat → Nat} {lf rt er lu pb : Nat → Option Nat} {dv : Nat → Bool} {vl : Nat → Nat} {a b : Option Nat} (h : tt_I n dr se G kd lf rt er lu pb dv vl) (hk : 2 ≤ k) (k7 : k ≤ 7) (ha : ∀ j, a = some j → j < n) (hb : ∀ j, b = some j → j < n) (hg : tt_g a b ≠ none) (k2 : k = 2 → ∃ c d x y, a = some c ∧ b = some d ∧ kd c = 0 ∧ kd d = 0 ∧ pb c = some x ∧ pb d = some y) (k3 : k = 3 → ∃ j, b = some j ∧ n ≤ j + 4 ∧ kd j = 0) (hno : ∀ i, i < n → ¬ (kd i = k ∧ lf i = a ∧ rt i = b)) : tt_ok n dr dr kd pb vl k a b (sm_t k (tt_vo vl a) (tt_vo vl b)) := by
  refine ⟨k7, ha, hb, fun i hi e => ?_, fun h => by omega, fun _ => ⟨rfl, rfl⟩, fun h => by omega, k2, fun _ => hg, k3⟩
  obtain ⟨hW, hKk, -, hV, -⟩ := h
  by_cases c : kd i = 0
  · obtain ⟨d, d1, d2, d3⟩ := hV.2.1 i hi c
    rw [d3] at e
    have := (sm_t_inj e).1
    omega
  · rw [hV.1 i hi c] at e
    obtain ⟨e1, e2, e3⟩ := sm_t_inj e
    exact hno i hi ⟨e1, tt_vo_inj hV (fun j h => Nat.lt_trans ((hW i hi).2.1 j h) hi) ha e2, tt_vo_inj hV (fun j h => Nat.lt_trans ((hW i hi).2.2 j h) hi) hb e3⟩
/-- terms that a client holds, by their places -/
theorem ts_pl {n : Nat} {ad vl : Nat → Nat} {r : Option Nat} {v : Nat} (h : ts_o (fun a i v => i < n ∧ a = ad i ∧ v = vl i) r v) : ∃ p : Option Nat, r = p.map ad ∧ (∀ j, p = some j → j < n) ∧ v = tt_vo vl p := by
  rcases h with ⟨rfl, rfl⟩ | ⟨a, i, rfl, h1, h2, h3⟩
  · exact ⟨none, rfl, fun j h => (by cases h), rfl⟩
  · exact ⟨some i, (by rw [h2]; rfl), fun j h => (by cases h; exact h1), h3⟩
theorem ts_kc1 {K : Nat → Prop} {n c v : Nat} (h : ¬ K v) : ts_kc K n c [v] = 1 + (li_c c n - c) ∧ ts_ks K n c [v] = 8 + 4 * (li_c c n - c) := by
  unfold ts_kc ts_ks
  rw [ts_r_new h]
  have := li_c_ge c n
  constructor <;> (dsimp only; omega)
theorem ts_kc0 {K : Nat → Prop} {n c v : Nat} (h : K v) : ts_kc K n c [v] = 0 ∧ ts_ks K n c [v] = 0 := by
  unfold ts_kc ts_ks
  rw [ts_r_old h]
  constructor <;> (dsimp only; omega)
set_option maxHeartbeats 4000000 in
set_option maxRecDepth 100000 in
theorem ct_TS_draw {l : Launch} {D : va_G} {BG : Nat → Option Cell} (M : hm_M) (tm : Nat) (F : Nat → Prop) (T : Nat → Nat → Nat → Prop) (G : Nat → Prop) (dr n c se : Nat) (hS : ts_S D M tm F T G dr n c se) (hc : c ≤ 40000) : hm_ct l D BG ny_TS_draw prog_5_method_2_code 1 (some (.object "TurnedKeys$Term")) 8 196 (ts_kc (ts_k T) n c [sm_t 0 (dr + 1) 0]) (ts_ks (ts_k T) n c [sm_t 0 (dr + 1) 0]) [.ref tm] M (fun r M' => ∃ q F' T', r = some (.ref q) ∧ ts_P D tm M F T G n c se (dr + 1) [sm_t 0 (dr + 1) 0] M' F' T' ∧ T' q n (sm_t 0 (dr + 1) 0)) := by
  refine hm_ct_of (by decide +kernel) (by exact Nat.le_of_ble_eq_true rfl) ?_
  intro X C E
  have C : hm_C X l D BG prog_5_method_2_code "TurnedKeys$Terms" "draw" 1 8 196 (ts_kc (ts_k T) n c [sm_t 0 (dr + 1) 0]) (ts_ks (ts_k T) n c [sm_t 0 (dr + 1) 0]) := C
  obtain ⟨la, ea, ad, kd, lf, rt, er, lu, pb, dv, vl, hX, hI, rfl, rfl⟩ := hS
  have nk : ¬ ts_k (fun a i v => i < n ∧ a = ad i ∧ v = vl i) (sm_t 0 (dr + 1) 0) := by
    rintro ⟨z, i, hi, -, e⟩
    exact (tt_ok_draw hI).2.2.2.1 i hi e.symm
  have hmc := ts_kc1 (n := n) (c := c) nk
  obtain ⟨ht, hR, hcell, hc6⟩ := id hX
  refine hm_lv (lv' := [(0, .ref tm)]) rfl ?_
  refine hm_aload_n C nd_TS_draw_0 rfl ?_
  refine hm_dup C nd_TS_draw_1 rfl ?_
  refine hm_get C nF_TS_18 ht rfl nd_TS_draw_2 ?_
  refine hm_iconst (v := 1) C nd_TS_draw_5 (by decide) ?_
  refine hm_iadd C nd_TS_draw_6 ?_
  rw [nI_1]
  refine hm_put C nF_TS_18 ht (Nat.le_of_ble_eq_true rfl) rfl rfl nd_TS_draw_7 ?_
  refine hm_eqM (M' := hm_up M tm (hm_ob 1 [.ref la, .int (nI (dr + 1)), .int (nI se)])) rfl ?_
  generalize hM1 : hm_up M tm (hm_ob 1 [.ref la, .int (nI (dr + 1)), .int (nI se)]) = M1
  have fM1_0 : M1 tm = some (hm_ob 1 [.ref la, .int (nI (dr + 1)), .int (nI se)]) := by rw [← hM1]; exact hm_up_s _ _ _
  have hX1 : ∀ i, i < n → M1 (ad i) = some (tt_c ad kd lf rt er lu pb dv i) := fun i hi => by rw [← hM1, hm_up_n _ _ (ts_ne hX hi).1]; exact hcell i hi
  have hR1 : li_R D M1 la ea c n ad := by
    obtain ⟨m, h1, h2, h3⟩ := id hR
    refine ⟨m, by rw [← hM1, hm_up_n _ _ (hm_ne h1 ht (by decide))]; exact h1, h2, ?_⟩
    rcases h3 with h | ⟨h9, g, hg, hf⟩
    · exact Or.inl h
    · exact Or.inr ⟨h9, g, by rw [← hM1, hm_up_n _ _ (Ne.symm (hm_neA ht hg))]; exact hg, hf⟩
  refine hm_aload_n C nd_TS_draw_10 rfl ?_
  refine hm_iconst (v := 0) C nd_TS_draw_11 (by decide) ?_
  refine hm_null C nd_TS_draw_12 ?_
  refine hm_null C nd_TS_draw_13 ?_
  refine hm_null C nd_TS_draw_14 ?_
  refine hm_stk (st' := [va_rf none, va_rf none, va_rf none, .int (nI 0), .ref tm]) rfl ?_
  refine hm_callV C (ct_TS_added M1 tm la ea c n ad (nI (dr + 1)) (nI se) (nI 0) none none none fM1_0 hR1 (fun i hi => ⟨2, _, _, hX1 i hi, rfl, nh_TE_OJ⟩) hc) nV_TS_added [.int (nI 0), va_rf none, va_rf none, va_rf none] rfl fM1_0 rfl nq_TS_22 nj_TS_added nx_TS_added rfl (rest := []) rfl (Nat.le_of_ble_eq_true rfl) (by decide) (by decide) (by omega) (by omega) nd_TS_draw_15 (fun r M2 hp => ?_)
  obtain ⟨q, ea', rfl, hq, hcq, hR2, hfr, hea⟩ := hp
  have hqt : q ≠ tm := fun e => by rw [e, fM1_0] at hq; cases hq
  have hq0 : M q = none := by rw [← hM1, hm_up_n _ _ hqt] at hq; exact hq
  have hea0 : (ea' = ea ∧ n < c) ∨ (M ea' = none ∧ ea' ≠ q) := by
    rcases hea with h | ⟨h, h'⟩
    · exact Or.inl h
    · refine Or.inr ⟨?_, h'⟩
      have : ea' ≠ tm := fun e => by rw [e, fM1_0] at h; cases h
      rw [← hM1, hm_up_n _ _ this] at h
      exact h
  have hld : ∀ i, i < n → ad i ≠ q ∧ ad i ≠ la ∧ ad i ≠ ea' := fun i hi => ⟨hm_neF (hcell i hi) hq0, (ts_ne hX hi).2.1, fun e => by
    rcases hea0 with ⟨h, h'⟩ | ⟨h, -⟩
    · exact (ts_ne hX hi).2.2 (by omega) (e.trans h)
    · rw [← e, hcell i hi] at h; cases h⟩
  have htm : tm ≠ la ∧ tm ≠ ea' := by
    obtain ⟨m, h1, -, h3⟩ := id hR
    refine ⟨hm_ne ht h1 (by decide), fun e => ?_⟩
    rcases hea0 with ⟨h, h'⟩ | ⟨h, -⟩
    · rcases h3 with ⟨h4, -⟩ | ⟨-, g, hg, -⟩
      · omega
      · exact hm_neA ht hg (e.trans h)
    · rw [← e, ht] at h; cases h
  have hext := ts_ext hX hI (tt_ok_draw hI) hq0 (by rw [hfr tm (Ne.symm hqt) htm.1 htm.2]; exact fM1_0) hR2 hcq (fun i hi => by
      obtain ⟨d1, d2, d3⟩ := hld i hi
      rw [hfr _ d1 d2 d3, hX1 i hi]
      have e1 : tt_lu lu n 0 none none i = lu i := by unfold tt_lu; rw [if_neg (by omega), if_neg (by omega)]
      have e2 : tt_pb pb n 0 none i = pb i := by unfold tt_pb; rw [if_neg (by omega), if_neg (by omega)]
      have hlr := hI.1 i hi
      have hul := tt_lu_lt hI.2.2.1 hi
      rw [← tt_c_up (n := n) (q := q) (fun j h => Nat.lt_trans (hlr.2.1 j h) hi) (fun j h => Nat.lt_trans (hlr.2.2 j h) hi) (fun j h => (hul.2 j h).1) hul.1 (fun j h => ((hI.2.1 i hi).2.2.2.2.2 j h).2.1)]
      unfold tt_c
      rw [e1, e2]) (fun z z1 z2 z3 z4 z5 => by rw [hfr z z1 z2 z3, ← hM1, hm_up_n _ _ z4]) hea0 hc
  refine hm_stk (st' := [.ref q]) rfl ?_
  exact hm_aret (r := (some q)) C E (Or.inl ⟨_, rfl⟩) (by omega) (by omega) (⟨q, _, _, rfl, hext, by omega, (va_up_self _ _ _).symm, (va_up_self _ _ _).symm⟩) nd_TS_draw_18
