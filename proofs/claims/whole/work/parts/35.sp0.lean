/-- an end's values: root, mine, theirs, send chain, sent, before, receive chain, next, left -/
abbrev sp_E : Type := Nat × Nat × Nat × Nat × Nat × Nat × Nat × Nat × List (Nat × Nat × Nat)
/-- a wire's values: sender, index, before, the secret of its public key, key, letter -/
abbrev sp_W : Type := Nat × Nat × Nat × Nat × Nat × Nat
def sp_b : Nat := sm_t 1 (sm_t 0 4 0) 0
def sp_R (D : va_G) (M : hm_M) (F : Nat → Prop) (T : Nat → Nat → Nat → Prop) (a lk : Nat) (e : sp_E) : Prop := en_R D M F T a lk sp_b e.1 e.2.1 e.2.2.1 e.2.2.2.1 e.2.2.2.2.1 e.2.2.2.2.2.1 e.2.2.2.2.2.2.1 e.2.2.2.2.2.2.2.1 e.2.2.2.2.2.2.2.2
def wi_R (M : hm_M) (F : Nat → Prop) (T : Nat → Nat → Nat → Prop) (b : Nat) (w : sp_W) : Prop := ∃ p ip q iq z iz, hm_ow M F b (hm_ob 5 [.int (nI w.1), .int (nI w.2.1), .int (nI w.2.2.1), .ref p, .ref q, .ref z]) ∧ T p ip (sm_t 1 w.2.2.2.1 0) ∧ T q iq w.2.2.2.2.1 ∧ T z iz w.2.2.2.2.2
def tk_I (D : va_G) (M : hm_M) (x tm ea ka wl we cw n c se mk dr : Nat) (a lk fw : Nat → Nat) (E : Nat → sp_E) (W : List sp_W) (F : Nat → Prop) (T : Nat → Nat → Nat → Prop) (G : Nat → Prop) : Prop :=
  hm_ow M F x (hm_ob 6 [.ref tm, .ref ea, .ref ka, .ref (a 4), .ref wl, .int (nI mk)]) ∧
  (∃ fe, hm_ow M F ea (hm_ar D 1 2 fe) ∧ fe 0 = some (a 0) ∧ fe 1 = some (a 1)) ∧ (∃ fk, hm_ow M F ka (hm_ar D 1 2 fk) ∧ fk 0 = some (a 2) ∧ fk 1 = some (a 3)) ∧
  ts_S D M tm F T G dr n c se ∧
  (∀ i, i < 5 → ∃ e, (i < 4 → e = E i) ∧ sp_R D M F T (a i) (lk i) e) ∧ (∀ i j, i < 5 → j < 5 → a i = a j → i = j) ∧ (∀ i j, i < 5 → j < 5 → lk i = lk j → i = j) ∧
  (li_R D M wl we cw W.length fw ∧ ¬ F wl ∧ (cw ≠ 0 → ¬ F we) ∧ (cw = 0 ∨ 10 ≤ cw)) ∧
  (∀ i w, W[i]? = some w → wi_R M F T (fw i) w)
def tk_R (D : va_G) (M : hm_M) (x n c cw mk dr : Nat) (E : Nat → sp_E) (W : List sp_W) (G : Nat → Prop) : Prop := ∃ (tm ea ka wl we se : Nat) (a lk fw : Nat → Nat) (F : Nat → Prop) (T : Nat → Nat → Nat → Prop), tk_I D M x tm ea ka wl we cw n c se mk dr a lk fw E W F T G
theorem hm_neN {D : va_G} {M : hm_M} {a b t t' N N' : Nat} {f f' : Nat → Option Nat} (ha : M a = some (hm_ar D t N f)) (hb : M b = some (hm_ar D t' N' f')) (h : N ≠ N') : a ≠ b := by
  intro e
  rw [e, hb] at ha
  injection ha with ha
  injection ha with ha
  exact h (congrArg (fun q : ClassId × vp_A => q.2.1) ha).symm
theorem sp_R.ob {D : va_G} {M : hm_M} {F : Nat → Prop} {T : Nat → Nat → Nat → Prop} {a lk : Nat} {e : sp_E} (h : sp_R D M F T a lk e) : (∃ vs, hm_ow M F a (hm_ob 3 vs)) ∧ ∃ f, hm_ow M F lk (hm_ar D 2 8 f) := by
  obtain ⟨b1, b2, b3, b4, b5, b6, f, hA, -, -, -, -, -, -, hL⟩ := h
  exact ⟨⟨_, hA⟩, ⟨f, hL.1⟩⟩
theorem hm_ow.en {M M' : hm_M} {F F' : Nat → Prop} {a lk z : Nat} {e : va_E} (h : hm_ow M F z e) (hs : hm_step M (en_F F a lk) M' (en_F F' a lk)) (h1 : z ≠ a) (h2 : z ≠ lk) : hm_ow M' F' z e := by
  have h3 : hm_ow M (en_F F a lk) z e := ⟨h.1, fun q => by
    rcases q with q | q | q
    · exact h.2 q
    · exact h1 q
    · exact h2 q⟩
  have h4 := h3.step hs
  exact ⟨h4.1, fun q => h4.2 (Or.inl q)⟩
theorem sp_R.en {D : va_G} {M M' : hm_M} {F F' : Nat → Prop} {T T' : Nat → Nat → Nat → Prop} {a lk a' lk' : Nat} {e e2 : sp_E} (h : sp_R D M F T a lk e) (h2 : sp_R D M F T a' lk' e2) (hs : hm_step M (en_F F a' lk') M' (en_F F' a' lk')) (ht : ∀ a i v, T a i v → T' a i v) (n1 : a ≠ a') (n2 : lk ≠ lk') : sp_R D M' F' T' a lk e := by
  obtain ⟨⟨vs2, hA2⟩, ⟨f2, hL2⟩⟩ := h2.ob
  obtain ⟨b1, b2, b3, b4, b5, b6, f, hA, o1, o2, o3, o4, o5, o6, hL⟩ := h
  refine ⟨b1, b2, b3, b4, b5, b6, f, hA.en hs n1 (hm_neA hA.1 hL2.1), o1.mono ht, o2.mono ht, o3.mono ht, o4.mono ht, o5.mono ht, o6.mono ht, hL.1.en hs (Ne.symm (hm_neA hA2.1 hL.1.1)) n2, hL.2.1, fun i q hq => ?_, hL.2.2.2⟩
  obtain ⟨h1, b, pk, ky, h3, h4, h5, h6⟩ := hL.2.2.1 i q hq
  exact ⟨h1, b, pk, ky, h3, h4.en hs (hm_ne h4.1 hA2.1 (by decide)) (hm_neA h4.1 hL2.1), h5.mono ht, h6.mono ht⟩
theorem wi_R.en {D : va_G} {M M' : hm_M} {F F' : Nat → Prop} {T T' : Nat → Nat → Nat → Prop} {b a' lk' : Nat} {w : sp_W} {e2 : sp_E} (h : wi_R M F T b w) (h2 : sp_R D M F T a' lk' e2) (hs : hm_step M (en_F F a' lk') M' (en_F F' a' lk')) (ht : ∀ a i v, T a i v → T' a i v) : wi_R M' F' T' b w := by
  obtain ⟨⟨vs2, hA2⟩, ⟨f2, hL2⟩⟩ := h2.ob
  obtain ⟨p, ip, q, iq, z, iz, h1, h3, h4, h5⟩ := h
  exact ⟨p, ip, q, iq, z, iz, h1.en hs (hm_ne h1.1 hA2.1 (by decide)) (hm_neA h1.1 hL2.1), ht _ _ _ h3, ht _ _ _ h4, ht _ _ _ h5⟩
theorem li_R.en {D : va_G} {M M' : hm_M} {F F' : Nat → Prop} {wl we cw n a' lk' : Nat} {fw : Nat → Nat} {T : Nat → Nat → Nat → Prop} {e2 : sp_E} (h : li_R D M wl we cw n fw ∧ ¬ F wl ∧ (cw ≠ 0 → ¬ F we) ∧ (cw = 0 ∨ 10 ≤ cw)) (h2 : sp_R D M F T a' lk' e2) (hs : hm_step M (en_F F a' lk') M' (en_F F' a' lk')) : li_R D M' wl we cw n fw ∧ ¬ F' wl ∧ (cw ≠ 0 → ¬ F' we) ∧ (cw = 0 ∨ 10 ≤ cw) := by
  obtain ⟨⟨vs2, hA2⟩, ⟨f2, hL2⟩⟩ := h2.ob
  obtain ⟨⟨m, h1, h3, h4⟩, h5, h6, h7⟩ := h
  have hw : hm_ow M F wl _ := ⟨h1, h5⟩
  have hw' := hw.en hs (hm_ne h1 hA2.1 (by decide)) (hm_neA h1 hL2.1)
  rcases h4 with ⟨h8, h9⟩ | ⟨h8, g, h9, h10⟩
  · exact ⟨⟨m, hw'.1, h3, Or.inl ⟨h8, h9⟩⟩, hw'.2, fun q => absurd h8 q, h7⟩
  · have hz : hm_ow M F we _ := ⟨h9, h6 (by omega)⟩
    have hz' := hz.en hs (Ne.symm (hm_neA hA2.1 h9)) (hm_neN h9 hL2.1 (by omega))
    exact ⟨⟨m, hw'.1, h3, Or.inr ⟨h8, g, hz'.1, h10⟩⟩, hw'.2, fun _ => hz'.2, h7⟩
theorem tk_I.on {D : va_G} {M M' : hm_M} {x tm ea ka wl we cw n c se mk dr dr' j : Nat} {a lk fw : Nat → Nat} {E E' : Nat → sp_E} {W : List sp_W} {F F' : Nat → Prop} {T T' : Nat → Nat → Nat → Prop} {G : Nat → Prop} {vs : List Nat} {e' : sp_E} (h : tk_I D M x tm ea ka wl we cw n c se mk dr a lk fw E W F T G) (hj : j < 5) (hP : en_P D tm M F T G n c se dr' vs (a j) (lk j) M' F' T') (hR : sp_R D M' F' T' (a j) (lk j) e') (hE : ∀ i, i < 4 → E' i = if i = j then e' else E i) : tk_I D M' x tm ea ka wl we cw (ts_r (ts_k T) n c vs).1 (ts_r (ts_k T) n c vs).2 se mk dr' a lk fw E' W F' T' G := by
  obtain ⟨h1, ⟨fe, h2, e1, e2⟩, ⟨fk, h3, e3, e4⟩, h4, h5, h6, h7, h8, h9⟩ := h
  obtain ⟨ej, -, hj2⟩ := h5 j hj
  obtain ⟨⟨vs2, hA2⟩, ⟨f2, hL2⟩⟩ := hj2.ob
  refine ⟨h1.en hP.2.1 (hm_ne h1.1 hA2.1 (by decide)) (hm_neA h1.1 hL2.1), ⟨fe, h2.en hP.2.1 (Ne.symm (hm_neA hA2.1 h2.1)) (hm_neN h2.1 hL2.1 (by decide)), e1, e2⟩, ⟨fk, h3.en hP.2.1 (Ne.symm (hm_neA hA2.1 h3.1)) (hm_neN h3.1 hL2.1 (by decide)), e3, e4⟩, hP.1, fun i hi => ?_, h6, h7, li_R.en h8 hj2 hP.2.1, fun i w hw => (h9 i w hw).en hj2 hP.2.1 hP.2.2.1⟩
  by_cases ei : i = j
  · subst ei
    exact ⟨e', fun h4 => by rw [hE _ h4, if_pos rfl], hR⟩
  · obtain ⟨ei', hei, hi2⟩ := h5 i hi
    exact ⟨ei', fun h4 => by rw [hE _ h4, if_neg ei]; exact hei h4, hi2.en hj2 hP.2.1 hP.2.2.1 (fun z => ei (h6 i j hi hj z)) (fun z => ei (h7 i j hi hj z))⟩
theorem tk_I.tm {D : va_G} {M : hm_M} {x tm ea ka wl we cw n c se mk dr : Nat} {a lk fw : Nat → Nat} {E : Nat → sp_E} {W : List sp_W} {F : Nat → Prop} {T : Nat → Nat → Nat → Prop} {G : Nat → Prop} (h : tk_I D M x tm ea ka wl we cw n c se mk dr a lk fw E W F T G) : ∃ la : Nat, M tm = some (hm_ob 1 [.ref la, .int (nI dr), .int (nI se)]) := by
  obtain ⟨la, h1, -⟩ := ts_tm h.2.2.2.1
  exact ⟨la, h1⟩
theorem tk_I.fr {D : va_G} {M M' : hm_M} {x tm ea ka wl we cw n c se mk dr se' n' c' dr' : Nat} {a lk fw : Nat → Nat} {E : Nat → sp_E} {W : List sp_W} {F F' : Nat → Prop} {T T' : Nat → Nat → Nat → Prop} {G G' : Nat → Prop} (h : tk_I D M x tm ea ka wl we cw n c se mk dr a lk fw E W F T G) (hS : ts_S D M' tm F' T' G' dr' n' c' se') (hs : hm_step M F M' F') (ht : ∀ a i v, T a i v → T' a i v) : tk_I D M' x tm ea ka wl we cw n' c' se' mk dr' a lk fw E W F' T' G' := by
  obtain ⟨h1, ⟨fe, h2, e1, e2⟩, ⟨fk, h3, e3, e4⟩, h4, h5, h6, h7, ⟨⟨m, i1, i3, i4⟩, i5, i6, i7⟩, h9⟩ := h
  have hw : hm_ow M F wl _ := ⟨i1, i5⟩
  have hw' := hw.step hs
  refine ⟨h1.step hs, ⟨fe, h2.step hs, e1, e2⟩, ⟨fk, h3.step hs, e3, e4⟩, hS, fun i hi => ?_, h6, h7, ?_, fun i w hw => ?_⟩
  · obtain ⟨e, he, hr⟩ := h5 i hi
    exact ⟨e, he, en_R.step hr hs ht⟩
  · rcases i4 with ⟨h8, h9⟩ | ⟨h8, g, h9, h10⟩
    · exact ⟨⟨m, hw'.1, i3, Or.inl ⟨h8, h9⟩⟩, hw'.2, fun q => absurd h8 q, i7⟩
    · have hz : hm_ow M F we _ := ⟨h9, i6 (by omega)⟩
      have hz' := hz.step hs
      exact ⟨⟨m, hw'.1, i3, Or.inr ⟨h8, g, hz'.1, h10⟩⟩, hw'.2, fun _ => hz'.2, i7⟩
  · obtain ⟨p, ip, q, iq, z, iz, h1, h3, h4, h5⟩ := h9 i w hw
    exact ⟨p, ip, q, iq, z, iz, h1.step hs, ht _ _ _ h3, ht _ _ _ h4, ht _ _ _ h5⟩
theorem ts_let {D : va_G} {M : hm_M} {tm : Nat} {F : Nat → Prop} {T : Nat → Nat → Nat → Prop} {G : Nat → Prop} {dr n c se : Nat} (hS : ts_S D M tm F T G dr n c se) : se ≤ n ∧ (∀ x d, ts_k T (sm_t 3 x (sm_t 0 d 0)) → d ≤ dr) ∧ ∀ d, ts_k T (sm_t 0 d 0) → d ≤ dr := by
  obtain ⟨la, ea, ad, kd, lf, rt, er, lu, pb, dv, vl, hX, ⟨hW, hK, hU, ⟨v1, v2, v3, v4⟩, hG⟩, rfl, rfl⟩ := hS
  have hd : ∀ i d, i < n → vl i = sm_t 0 d 0 → d ≤ dr := by
    intro i d hi e
    by_cases k0 : kd i = 0
    · obtain ⟨d', h1, h2, h3⟩ := v2 i hi k0
      rw [h3] at e
      have := (sm_t_inj e).2.1
      omega
    · rw [v1 i hi k0] at e
      exact absurd (sm_t_inj e).1 k0
  refine ⟨hG.1, ?_, ?_⟩
  · rintro x d ⟨a, i, hi, -, e⟩
    have k3 : kd i = 3 := by
      by_cases k0 : kd i = 0
      · obtain ⟨d', h1, h2, h3⟩ := v2 i hi k0
        rw [h3] at e
        exact absurd (sm_t_inj e).1 (by decide)
      · rw [v1 i hi k0] at e
        exact (sm_t_inj e).1.symm
    rw [v1 i hi (by omega)] at e
    obtain ⟨j, hj, -, hj0⟩ := (hK i hi).2.2.2.2.1 k3
    rw [hj] at e
    exact hd j d (Nat.lt_trans ((hW i hi).2.2 j hj) hi) (sm_t_inj e).2.2.symm
  · rintro d ⟨a, i, hi, -, e⟩
    exact hd i d hi e.symm
