/-! what the reference has given and known, held against what is DERIVED -/
def rg_g (n : Nat) (q : Nat → rq) (vl : Nat → Nat) (gv : Nat → Bool) (G : Nat → Prop) : Prop :=
  (∀ t, 1 ≤ t → t < n → gv t = true → (q t).1 ≤ 5 ∧ G (vl t)) ∧
  (∀ v, G v → (∃ t, 1 ≤ t ∧ t < n ∧ gv t = true ∧ (q t).1 ≤ 5 ∧ vl t = v) ∨ ∃ t, 1 ≤ t ∧ t < n ∧ gv t = true ∧ (q t).1 = 5 ∧ (v = vl (q (q t).2.2.1).2.2.1 ∨ v = vl (q (q t).2.2.1).2.2.2)) ∧
  (∀ t, 1 ≤ t → t < n → (q t).1 = 5 → gv t = true ∧ G (vl (q (q t).2.2.1).2.2.1) ∧ G (vl (q (q t).2.2.1).2.2.2))
def rg_k (n : Nat) (q : Nat → rq) (vl : Nat → Nat) (kn : Nat → Bool) (G : Nat → Prop) : Prop := ∀ t, 1 ≤ t → t < n → kn t = true → ((q t).1 ≤ 5 → sm_dr G (vl t)) ∧ ((q t).1 = 6 → sm_dr G (vl (q t).2.2.1) ∧ sm_dr G (vl (q t).2.2.2))
def rg_p (n : Nat) (q : Nat → rq) (pf : Nat → Nat) : Prop := ∀ t, 1 ≤ t → t < n → (q t).1 = 3 → (1 ≤ pf (q t).2.1 ∧ pf (q t).2.1 < n ∧ q (pf (q t).2.1) = (2, (q t).2.1, 0, 0)) ∧ (1 ≤ pf (q t).2.2.1 ∧ pf (q t).2.2.1 < n ∧ q (pf (q t).2.2.1) = (2, (q t).2.2.1, 0, 0))
theorem rg_lrn {n t : Nat} {q : Nat → rq} {vl : Nat → Nat} {kn : Nat → Bool} {G : Nat → Prop} (h : rg_k n q vl kn G) (h1 : (q t).1 ≤ 5 → sm_dr G (vl t)) (h2 : (q t).1 = 6 → sm_dr G (vl (q t).2.2.1) ∧ sm_dr G (vl (q t).2.2.2)) : rg_k n q vl (lrn kn t) G := by
  intro x x1 x2 hx
  unfold lrn at hx
  by_cases c : t = 0
  · rw [if_pos c] at hx; exact h x x1 x2 hx
  · rw [if_neg c] at hx
    by_cases e : x = t
    · subst e; exact ⟨h1, h2⟩
    · rw [va_up_ne _ _ e] at hx; exact h x x1 x2 hx
theorem rg_has {n t : Nat} {q : Nat → rq} {vl : Nat → Nat} {kn : Nat → Bool} {G : Nat → Prop} (h : rg_k n q vl kn G) (h0 : vl 0 = 0) (ht : t < n) (hs : (q t).1 ≤ 5) (hr : rhas kn t = true) : sm_dr G (vl t) := by
  unfold rhas at hr
  by_cases c : t = 0
  · rw [c, h0]; exact (sm_dr_mk G).1
  · rw [decide_eq_false c, Bool.false_or] at hr
    exact (h t (by omega) ht hr).1 hs
theorem rg_21 {n dr t : Nat} {q : Nat → rq} {vl pf : Nat → Nat} {gv kn : Nat → Bool} {G : Nat → Prop} (hV : rv_I n q vl dr) (hg : rg_g n q vl gv G) (hp : rg_p n q pf) (h : rg_k n q vl kn G) (t1 : 1 ≤ t) (t2 : t < n) (hw : gv t = true ∨ cmk q pf kn t = true) : rg_k n q vl (lrn kn t) G := by
  have ok := hV.2.2.1 t t1 t2
  have hm := sm_dr_mk G
  rcases hw with hw | hw
  · have := hg.1 t t1 t2 hw
    exact rg_lrn h (fun _ => sm_dr_in this.2) (fun z => by omega)
  · unfold cmk at hw
    by_cases c2 : (q t).1 = 2
    · rw [if_pos c2] at hw
      have k := ok.2.2.2.1 c2
      have kp : 1 ≤ (q t).2.1 := by
        rcases Nat.eq_zero_or_pos (q t).2.1 with z | z
        · rw [z, hV.2.1] at k; omega
        · exact z
      refine rg_lrn h (fun _ => ?_) (fun z => by omega)
      rw [k.2.2.2]
      exact hm.2.1 _ ((h _ kp (by omega) hw).1 (by omega))
    · rw [if_neg c2] at hw
      by_cases c3 : (q t).1 = 3
      · rw [if_pos c3] at hw
        have k := ok.2.2.2.2.1 c3
        have pp := hp t t1 t2 c3
        have n0 : ∀ {a : Nat}, (q a).1 = 1 → 1 ≤ a := fun {a} e => by
          rcases Nat.eq_zero_or_pos a with z | z
          · rw [z, hV.2.1] at e; omega
          · exact z
        have sh : ∀ a : Nat, a < n → (q a).1 = 1 → (1 ≤ pf a ∧ pf a < n ∧ q (pf a) = (2, a, 0, 0)) → (kn a || kn (pf a)) = true → sm_dr G (sm_t 1 (vl a) 0) := by
          intro a a1 a2 a3 a4
          rw [Bool.or_eq_true] at a4
          rcases a4 with a4 | a4
          · exact hm.2.1 _ ((h a (n0 a2) a1 a4).1 (by omega))
          · have e := (hV.2.2.1 _ a3.1 a3.2.1).2.2.2.1 (by rw [a3.2.2])
            rw [a3.2.2] at e
            have e4 : vl (pf a) = sm_t 1 (vl a) 0 := e.2.2.2
            rw [← e4]
            exact (h _ a3.1 a3.2.1 a4).1 (by rw [a3.2.2]; show 2 ≤ 5; decide)
        refine rg_lrn h (fun _ => ?_) (fun z => by omega)
        rw [k.2.2.2.2.2]
        rw [Bool.or_eq_true, Bool.and_eq_true, Bool.and_eq_true] at hw
        rcases hw with ⟨w1, w2⟩ | ⟨w1, w2⟩
        · exact hm.2.2.1 _ _ ((h _ (n0 k.2.2.1) (by omega) w1).1 (by omega)) (sh _ (by omega) k.2.2.2.1 pp.2 w2)
        · exact hm.2.2.2.1 _ _ ((h _ (n0 k.2.2.2.1) (by omega) w1).1 (by omega)) (sh _ (by omega) k.2.2.1 pp.1 w2)
      · rw [if_neg c3] at hw
        by_cases c4 : (q t).1 = 4
        · rw [if_pos c4, Bool.and_eq_true] at hw
          have k := ok.2.2.2.2.2.1 c4
          refine rg_lrn h (fun _ => ?_) (fun z => by omega)
          rw [k.2.2.2.2.2.2]
          exact hm.2.2.2.2 _ _ _ (by omega) (rg_has h hV.1 (by omega) (by omega) hw.1) (rg_has h hV.1 (by omega) (by omega) hw.2)
        · rw [if_neg c4] at hw
          by_cases c5 : (q t).1 = 5
          · have := hg.2.2 t t1 t2 c5
            exact rg_lrn h (fun _ => sm_dr_in (hg.1 t t1 t2 this.1).2) (fun z => by omega)
          · rw [if_neg c5] at hw
            by_cases c6 : (q t).1 = 6
            · rw [if_pos c6, Bool.and_eq_true] at hw
              have k := ok.2.2.2.2.2.2.2 c6
              refine rg_lrn h (fun z => by omega) (fun _ => ⟨?_, ?_⟩)
              · exact rg_has h hV.1 (by omega) (by omega) hw.1
              · exact rg_has h hV.1 (by omega) (by omega) hw.2
            · rw [if_neg c6] at hw
              cases hw
theorem rg_22 {n dr t : Nat} {q : Nat → rq} {vl : Nat → Nat} {gv kn : Nat → Bool} {G : Nat → Prop} (hV : rv_I n q vl dr) (hg : rg_g n q vl gv G) (h : rg_k n q vl kn G) (t1 : 1 ≤ t) (t2 : t < n) (hk : kn t = true) : rg_k n q vl (opn q kn t).1 G := by
  have ok := hV.2.2.1 t t1 t2
  unfold opn
  by_cases c5 : (q t).1 = 5
  · rw [if_pos c5]
    have k := ok.2.2.2.2.2.2.1 c5
    have g := hg.2.2 t t1 t2 c5
    have h1 : rg_k n q vl (lrn kn (q t).2.2.1) G := rg_lrn h (fun z => by omega) (fun _ => ⟨sm_dr_in g.2.1, sm_dr_in g.2.2⟩)
    by_cases d : lrn kn (q t).2.2.1 (q t).2.1 = true
    · rw [if_pos d]
      refine rg_lrn h1 (fun z => by omega) (fun _ => ⟨?_, ?_⟩)
      · have e1 := (h t t1 t2 hk).1 (by omega)
        have e2 := (h1 _ k.1 (by omega) d).1 (by omega)
        rw [k.2.2.2.2.2.2.2.2] at e1
        exact sm_dr_op G _ _ e1 e2
      · rw [k.2.2.2.2.2.2.2.1, hV.1]
        exact (sm_dr_mk G).1
    · rw [if_neg d]
      exact h1
  · rw [if_neg c5]
    by_cases c6 : (q t).1 = 6
    · rw [if_pos c6]
      have k := ok.2.2.2.2.2.2.2 c6
      have e := (h t t1 t2 hk).2 c6
      exact rg_lrn (rg_lrn h (fun _ => e.1) (fun z => by omega)) (fun _ => e.2) (fun z => by omega)
    · rw [if_neg c6]
      exact h
theorem rhas_1 {kn : Nat → Bool} {t : Nat} (h : rhas kn t = true) : t = 0 ∨ kn t = true := by
  unfold rhas at h
  rw [Bool.or_eq_true] at h
  rcases h with h | h
  · exact Or.inl (of_decide_eq_true h)
  · exact Or.inr h
theorem rhas_2 {kn : Nat → Bool} {t : Nat} (h : t = 0 ∨ kn t = true) : rhas kn t = true := by
  unfold rhas
  rcases h with h | h
  · rw [decide_eq_true h]; rfl
  · rw [h, Bool.or_true]
theorem lrn_has {kn : Nat → Bool} {t : Nat} (h : rhas kn t = true) : lrn kn t = kn := by
  unfold lrn
  by_cases c : t = 0
  · rw [if_pos c]
  · rw [if_neg c]
    funext z
    by_cases e : z = t
    · rw [e, va_up_self]
      rcases rhas_1 h with h | h
      · exact absurd h c
      · exact h.symm
    · rw [va_up_ne _ _ e]
theorem opn_5 {q : Nat → rq} {kn : Nat → Bool} {t : Nat} (h : (opn q kn t).2 = false) (c : (q t).1 = 5) : rhas kn (q t).2.2.1 = true ∧ (kn (q t).2.1 = true → rhas kn (q t).2.2.2 = true) := by
  unfold opn at h
  rw [if_pos c] at h
  have h1 : rhas kn (q t).2.2.1 = true := by
    by_cases d : lrn kn (q t).2.2.1 (q t).2.1 = true
    · rw [if_pos d] at h
      have h : (!rhas (lrn kn (q t).2.2.1) (q t).2.2.2 || !rhas kn (q t).2.2.1) = false := h
      rw [Bool.or_eq_false_iff, Bool.not_eq_false', Bool.not_eq_false'] at h
      exact h.2
    · rw [if_neg d] at h
      have h : (!rhas kn (q t).2.2.1) = false := h
      rw [Bool.not_eq_false'] at h
      exact h
  refine ⟨h1, fun k => ?_⟩
  rw [lrn_has h1, if_pos k] at h
  have h : (!rhas kn (q t).2.2.2 || !rhas kn (q t).2.2.1) = false := h
  rw [Bool.or_eq_false_iff, Bool.not_eq_false', Bool.not_eq_false'] at h
  exact h.1
theorem opn_6 {q : Nat → rq} {kn : Nat → Bool} {t : Nat} (h : (opn q kn t).2 = false) (c : (q t).1 = 6) : rhas kn (q t).2.2.1 = true ∧ rhas kn (q t).2.2.2 = true := by
  unfold opn at h
  rw [if_neg (by omega), if_pos c] at h
  have h : (!rhas (lrn kn (q t).2.2.1) (q t).2.2.2 || !rhas kn (q t).2.2.1) = false := h
  rw [Bool.or_eq_false_iff, Bool.not_eq_false', Bool.not_eq_false'] at h
  rw [lrn_has h.2] at h
  exact ⟨h.2, h.1⟩
/-- what a value's kind says of its row -/
theorem rv_kd {n dr t k a b : Nat} {q : Nat → rq} {vl : Nat → Nat} (hV : rv_I n q vl dr) (t1 : 1 ≤ t) (t2 : t < n) (h5 : (q t).1 ≤ 5) (e : vl t = sm_t k a b) : (k = 0 ∧ (q t).1 = 1) ∨ (k = 1 ∧ (q t).1 = 2 ∧ vl (q t).2.1 = a) ∨ (k = 2 ∧ (q t).1 = 3 ∧ vl (q t).2.1 = a ∧ vl (q t).2.2.1 = b) ∨ (4 ≤ k ∧ (q t).1 = 4 ∧ vl (q t).2.2.1 = a ∧ vl (q t).2.2.2 = b) ∨ (k = 3 ∧ (q t).1 = 5 ∧ vl (q t).2.1 = a ∧ vl (q (q t).2.2.2).2.2.1 = b) := by
  obtain ⟨a1, a2, a3, a4, a5, a6, a7, -⟩ := hV.2.2.1 t t1 t2
  obtain c | c | c | c | c : (q t).1 = 1 ∨ (q t).1 = 2 ∨ (q t).1 = 3 ∨ (q t).1 = 4 ∨ (q t).1 = 5 := by omega
  · rw [(a3 c).2.2.2] at e
    have := sm_t_inj e
    exact Or.inl ⟨this.1.symm, c⟩
  · rw [(a4 c).2.2.2] at e
    have := sm_t_inj e
    exact Or.inr (Or.inl ⟨this.1.symm, c, this.2.1⟩)
  · rw [(a5 c).2.2.2.2.2] at e
    have := sm_t_inj e
    exact Or.inr (Or.inr (Or.inl ⟨this.1.symm, c, this.2.1, this.2.2⟩))
  · have h4 := (a6 c).1
    rw [(a6 c).2.2.2.2.2.2] at e
    have := sm_t_inj e
    exact Or.inr (Or.inr (Or.inr (Or.inl ⟨by omega, c, this.2.1, this.2.2⟩)))
  · rw [(a7 c).2.2.2.2.2.2.2.2] at e
    have := sm_t_inj e
    exact Or.inr (Or.inr (Or.inr (Or.inr ⟨this.1.symm, c, this.2.1, this.2.2⟩)))
/-- all that is DERIVED, and stands in the table, is known once nothing more is found -/
theorem rg_cm {n n0 dr : Nat} {q : Nat → rq} {vl pf tb : Nat → Nat} {gv kn : Nat → Bool} {G : Nat → Prop} (hV : rv_I n q vl dr) (hh : rh_I n q tb) (hn : n0 ≤ n) (hg : rg_g n q vl gv G) (hgn : ∀ t, 1 ≤ t → t < n → gv t = true → t < n0) (hp : rg_p n0 q pf) (hc : ∀ t, 1 ≤ t → t < n0 → clC gv q pf kn t) {t : Nat} (t1 : 1 ≤ t) (t2 : t < n0) (t4 : (q t).1 ≤ 4) (hd : sm_dr G (vl t)) : kn t = true := by
  have nz : ∀ {a : Nat}, (q a).1 ≠ 0 → 1 ≤ a := fun {a} e => by
    rcases Nat.eq_zero_or_pos a with z | z
    · rw [z] at e; exact absurd hV.2.1 e
    · exact z
  -- a value that is known stands at its own row
  have own : ∀ {a b : Nat}, 1 ≤ a → a < n0 → (q a).1 ≤ 4 → 1 ≤ b → b < n0 → (q b).1 ≤ 5 → vl b = vl a → b = a := by
    intro a b a1 a2 a3 b1 b2 b3 e
    have hb : (q b).1 ≤ 4 := by
      by_cases c : (q b).1 = 5
      · exfalso
        have k := (hV.2.2.1 b b1 (by omega)).2.2.2.2.2.2.1 c
        have e' := e.symm.trans k.2.2.2.2.2.2.2.2
        have := rv_kd hV a1 (by omega) (by omega) e'
        omega
      · omega
    exact rv_inj hV hh b a (by omega) (by omega) hb a3 e
  have hO : ∀ t, 1 ≤ t → t < n0 → kn t = true → (opn q kn t).2 = false := fun t t1 t2 h => (hc t t1 t2).2 h
  have hG : ∀ t, 1 ≤ t → t < n0 → gv t = true → kn t = true := fun t t1 t2 h => (hc t t1 t2).1 (Or.inl h)
  have hM : ∀ t, 1 ≤ t → t < n0 → cmk q pf kn t = true → kn t = true := fun t t1 t2 h => (hc t t1 t2).1 (Or.inr h)
  let K : Nat → Prop := fun v => ∃ t, 1 ≤ t ∧ t < n0 ∧ (q t).1 ≤ 5 ∧ vl t = v
  let F : Nat → Prop := fun v => ∃ t, 1 ≤ t ∧ t < n0 ∧ (q t).1 ≤ 5 ∧ vl t = v ∧ kn t = true
  have hF : ∀ {a : Nat}, 1 ≤ a → a < n0 → (q a).1 ≤ 4 → F (vl a) → kn a = true := by
    rintro a a1 a2 a3 ⟨b, b1, b2, b3, b4, b5⟩
    rw [← own a1 a2 a3 b1 b2 b3 b4]
    exact b5
  have hF0 : ∀ {a : Nat}, a < n0 → (q a).1 ≤ 4 → (vl a = 0 ∨ F (vl a)) → rhas kn a = true := by
    intro a a2 a3 h
    refine rhas_2 ?_
    rcases Nat.eq_zero_or_pos a with z | z
    · exact Or.inl z
    · rcases h with h | h
      · exact absurd h (rv_pos hV z (by omega) (by omega))
      · exact Or.inr (hF z a2 a3 h)
  have hK0 : ∀ {a : Nat}, a < n0 → (q a).1 ≤ 5 → (vl a = 0 ∨ K (vl a)) := by
    intro a a2 a3
    rcases Nat.eq_zero_or_pos a with z | z
    · exact Or.inl (by rw [z]; exact hV.1)
    · exact Or.inr ⟨a, z, a2, a3, rfl⟩
  have hR0 : ∀ {a : Nat}, a < n0 → (q a).1 ≤ 5 → rhas kn a = true → (vl a = 0 ∨ F (vl a)) := by
    intro a a2 a3 h
    rcases rhas_1 h with z | z
    · exact Or.inl (by rw [z]; exact hV.1)
    · rcases Nat.eq_zero_or_pos a with y | y
      · exact Or.inl (by rw [y]; exact hV.1)
      · exact Or.inr ⟨a, y, a2, a3, rfl, z⟩
  have tab : sm_tab K F := by
    refine ⟨?_, ?_, ?_, ?_, ?_, ?_, ?_, ?_, ?_, ?_⟩
    · rintro v ⟨t, a1, a2, a3, a4, a5⟩
      exact ⟨t, a1, a2, a3, a4⟩
    · rintro k a b ⟨t, a1, a2, a3, a4⟩ hk
      have ok := hV.2.2.1 t a1 (by omega)
      rcases rv_kd hV a1 (by omega) a3 a4 with e | e | e | e | e
      · omega
      · omega
      · omega
      · have k := ok.2.2.2.2.2.1 e.2.1
        rw [← e.2.2.1, ← e.2.2.2]
        exact ⟨hK0 (by omega) (by omega), hK0 (by omega) (by omega)⟩
      · have k := ok.2.2.2.2.2.2.1 e.2.1
        have k6 := (hV.2.2.1 (q t).2.2.2 (nz (by omega)) (by omega)).2.2.2.2.2.2.2 k.2.2.2.2.2.2.1
        rw [← e.2.2.1, ← e.2.2.2]
        exact ⟨hK0 (by omega) (by omega), hK0 (by omega) (by omega)⟩
    · rintro s ⟨t, a1, a2, a3, a4⟩
      have ok := hV.2.2.1 t a1 (by omega)
      rcases rv_kd hV a1 (by omega) a3 a4 with e | e | e | e | e
      · omega
      · have k := ok.2.2.2.1 e.2.1
        exact ⟨_, nz (by omega), by omega, by omega, e.2.2⟩
      · omega
      · omega
      · omega
    · rintro s u ⟨t, a1, a2, a3, a4⟩
      have ok := hV.2.2.1 t a1 (by omega)
      rcases rv_kd hV a1 (by omega) a3 a4 with e | e | e | e | e
      · omega
      · omega
      · have k := ok.2.2.2.2.1 e.2.1
        have pp := hp t a1 a2 e.2.1
        have v1 := (hV.2.2.1 _ pp.1.1 (by omega)).2.2.2.1 (by rw [pp.1.2.2])
        have v2 := (hV.2.2.1 _ pp.2.1 (by omega)).2.2.2.1 (by rw [pp.2.2.2])
        refine ⟨⟨_, nz (by omega), by omega, by omega, e.2.2.1⟩, ⟨_, nz (by omega), by omega, by omega, e.2.2.2⟩, ⟨pf (q t).2.1, pp.1.1, pp.1.2.1, by rw [pp.1.2.2]; show 2 ≤ 5; decide, ?_⟩, ⟨pf (q t).2.2.1, pp.2.1, pp.2.2.1, by rw [pp.2.2.2]; show 2 ≤ 5; decide, ?_⟩⟩
        · rw [v1.2.2.2, pp.1.2.2]
          show sm_t 1 (vl (q t).2.1) 0 = _
          rw [e.2.2.1]
        · rw [v2.2.2.2, pp.2.2.2]
          show sm_t 1 (vl (q t).2.2.1) 0 = _
          rw [e.2.2.2]
      · omega
      · omega
    · rintro ⟨t, a1, a2, a3, a4⟩
      exact rv_pos hV a1 (by omega) a3 a4
    · rintro s ⟨t, a1, a2, a3, a4⟩ hf
      have ok := hV.2.2.1 t a1 (by omega)
      rcases rv_kd hV a1 (by omega) a3 a4 with e | e | e | e | e
      · omega
      · have k := ok.2.2.2.1 e.2.1
        rw [← e.2.2] at hf
        have := hF (nz (by omega)) (by omega) (by omega) hf
        exact ⟨t, a1, a2, a3, a4, hM t a1 a2 (by unfold cmk; rw [if_pos e.2.1]; exact this)⟩
      · omega
      · omega
      · omega
    · rintro s u ⟨t, a1, a2, a3, a4⟩ hf hf2
      have ok := hV.2.2.1 t a1 (by omega)
      rcases rv_kd hV a1 (by omega) a3 a4 with e | e | e | e | e
      · omega
      · omega
      · have k := ok.2.2.2.2.1 e.2.1
        have pp := hp t a1 a2 e.2.1
        rw [← e.2.2.1] at hf
        have f1 := hF (nz (by omega)) (by omega) (by omega) hf
        have v2 := (hV.2.2.1 _ pp.2.1 (by omega)).2.2.2.1 (by rw [pp.2.2.2])
        have w2 : vl (pf (q t).2.2.1) = sm_t 1 (vl (q t).2.2.1) 0 := by
          rw [v2.2.2.2, pp.2.2.2]
        rw [← e.2.2.2, ← w2] at hf2
        have f2 := hF pp.2.1 pp.2.2.1 (by rw [pp.2.2.2]; show 2 ≤ 4; decide) hf2
        exact ⟨t, a1, a2, a3, a4, hM t a1 a2 (by unfold cmk; rw [if_neg (by omega), if_pos e.2.1, f1, f2]; simp)⟩
      · omega
      · omega
    · rintro s u ⟨t, a1, a2, a3, a4⟩ hf hf2
      have ok := hV.2.2.1 t a1 (by omega)
      rcases rv_kd hV a1 (by omega) a3 a4 with e | e | e | e | e
      · omega
      · omega
      · have k := ok.2.2.2.2.1 e.2.1
        have pp := hp t a1 a2 e.2.1
        rw [← e.2.2.2] at hf
        have f1 := hF (nz (by omega)) (by omega) (by omega) hf
        have v2 := (hV.2.2.1 _ pp.1.1 (by omega)).2.2.2.1 (by rw [pp.1.2.2])
        have w2 : vl (pf (q t).2.1) = sm_t 1 (vl (q t).2.1) 0 := by
          rw [v2.2.2.2, pp.1.2.2]
        rw [← e.2.2.1, ← w2] at hf2
        have f2 := hF pp.1.1 pp.1.2.1 (by rw [pp.1.2.2]; show 2 ≤ 4; decide) hf2
        exact ⟨t, a1, a2, a3, a4, hM t a1 a2 (by unfold cmk; rw [if_neg (by omega), if_pos e.2.1, f1, f2]; simp)⟩
      · omega
      · omega
    · rintro k a b ⟨t, a1, a2, a3, a4⟩ hk ha hb
      have ok := hV.2.2.1 t a1 (by omega)
      rcases rv_kd hV a1 (by omega) a3 a4 with e | e | e | e | e
      · omega
      · omega
      · omega
      · have k := ok.2.2.2.2.2.1 e.2.1
        rw [← e.2.2.1] at ha
        rw [← e.2.2.2] at hb
        have f1 := hF0 (by omega) (by omega) ha
        have f2 := hF0 (by omega) (by omega) hb
        exact ⟨t, a1, a2, a3, a4, hM t a1 a2 (by unfold cmk; rw [if_neg (by omega), if_neg (by omega), if_pos e.2.1, f1, f2]; rfl)⟩
      · exact ⟨t, a1, a2, a3, a4, hG t a1 a2 (hg.2.2 t a1 (by omega) e.2.1).1⟩
    · rintro a b ⟨t, a1, a2, a3, a4, a5⟩ ha
      have ok := hV.2.2.1 t a1 (by omega)
      rcases rv_kd hV a1 (by omega) a3 a4 with e | e | e | e | e
      · omega
      · omega
      · omega
      · omega
      · have k := ok.2.2.2.2.2.2.1 e.2.1
        have n2 : 1 ≤ (q t).2.2.2 := nz (by omega)
        have k6 := (hV.2.2.1 (q t).2.2.2 n2 (by omega)).2.2.2.2.2.2.2 k.2.2.2.2.2.2.1
        rw [← e.2.2.1] at ha
        have f1 : kn (q t).2.1 = true := by
          rcases rhas_1 (hF0 (by omega) (by omega) ha) with z | z
          · omega
          · exact z
        have o1 := (opn_5 (hO t a1 a2 a5) e.2.1).2 f1
        have o2 : kn (q t).2.2.2 = true := by
          rcases rhas_1 o1 with z | z
          · omega
          · exact z
        have o3 := (opn_6 (hO _ n2 (by omega) o2) k.2.2.2.2.2.2.1).1
        rw [← e.2.2.2]
        exact hR0 (by omega) (by omega) o3
  have hGF : ∀ g, G g → g = 0 ∨ F g := by
    intro g hgg
    rcases hg.2.1 g hgg with ⟨t, a1, a2, a3, a4, a5⟩ | ⟨t, a1, a2, a3, a4, a5⟩
    · have l := hgn t a1 a2 a3
      exact Or.inr ⟨t, a1, l, a4, a5, hG t a1 l a3⟩
    · have l := hgn t a1 a2 a3
      have k := (hV.2.2.1 t a1 a2).2.2.2.2.2.2.1 a4
      have n2 : 1 ≤ (q t).2.2.1 := nz (by omega)
      have k6 := (hV.2.2.1 (q t).2.2.1 n2 (by omega)).2.2.2.2.2.2.2 k.2.2.2.2.2.1
      have o2 : kn (q t).2.2.1 = true := by
        rcases rhas_1 (opn_5 (hO t a1 l (hG t a1 l a3)) a4).1 with z | z
        · omega
        · exact z
      have o3 := opn_6 (hO _ n2 (by omega) o2) k.2.2.2.2.2.1
      rcases a5 with a5 | a5
      · rw [a5]
        exact hR0 (by omega) (by omega) o3.1
      · rw [a5]
        exact hR0 (by omega) (by omega) o3.2
  have := sm_tab_dr tab hGF hd ⟨t, t1, t2, by omega, rfl⟩
  exact hF t1 t2 t4 this
/-! an end's record in the reference's arrays -/
def rid (n : Nat) (q : Nat → rq) (vl : Nat → Nat) (x : Int32) (v : Nat) : Prop := ∃ t, x = nI t ∧ t < n ∧ (q t).1 ≤ 4 ∧ vl t = v
/-- the table goes on: what stood there stays -/
def rgo (n : Nat) (q : Nat → rq) (vl : Nat → Nat) (n' : Nat) (q' : Nat → rq) (vl' : Nat → Nat) : Prop := n ≤ n' ∧ ∀ t, t < n → q' t = q t ∧ vl' t = vl t
theorem rgo.rf {n : Nat} {q : Nat → rq} {vl : Nat → Nat} : rgo n q vl n q vl := ⟨Nat.le_refl _, fun _ _ => ⟨rfl, rfl⟩⟩
theorem rgo.tr {n n' n'' : Nat} {q q' q'' : Nat → rq} {vl vl' vl'' : Nat → Nat} (h : rgo n q vl n' q' vl') (h' : rgo n' q' vl' n'' q'' vl'') : rgo n q vl n'' q'' vl'' := ⟨Nat.le_trans h.1 h'.1, fun t ht => ⟨(h'.2 t (Nat.lt_of_lt_of_le ht h.1)).1.trans (h.2 t ht).1, (h'.2 t (Nat.lt_of_lt_of_le ht h.1)).2.trans (h.2 t ht).2⟩⟩
theorem rid.go {n n' : Nat} {q q' : Nat → rq} {vl vl' : Nat → Nat} {x : Int32} {v : Nat} (h : rid n q vl x v) (hg : rgo n q vl n' q' vl') : rid n' q' vl' x v := by
  obtain ⟨t, h1, h2, h3, h4⟩ := h
  exact ⟨t, h1, Nat.lt_of_lt_of_le h2 hg.1, by rw [(hg.2 t h2).1]; exact h3, by rw [(hg.2 t h2).2]; exact h4⟩
theorem rid_eq {n dr : Nat} {q : Nat → rq} {vl tb : Nat → Nat} {x x' : Int32} {v v' : Nat} (hV : rv_I n q vl dr) (hh : rh_I n q tb) (hn : n ≤ 20000) (h : rid n q vl x v) (h' : rid n q vl x' v') : x = x' ↔ v = v' := by
  obtain ⟨t, h1, h2, h3, h4⟩ := h
  obtain ⟨t', g1, g2, g3, g4⟩ := h'
  rw [h1, g1, nI_eq (by omega) (by omega), ← h4, ← g4]
  exact ⟨fun e => by rw [e], fun e => rv_inj hV hh t t' h2 g2 h3 g3 e⟩
theorem rid_0 {n dr : Nat} {q : Nat → rq} {vl : Nat → Nat} {x : Int32} {v : Nat} (hV : rv_I n q vl dr) (hn : n ≤ 20000) (h : rid n q vl x v) : x = 0 ↔ v = 0 := by
  obtain ⟨t, h1, h2, h3, h4⟩ := h
  rw [h1, ← h4]
  rcases Nat.eq_zero_or_pos t with z | z
  · rw [z, hV.1]
    exact ⟨fun _ => rfl, fun _ => rfl⟩
  · exact ⟨fun e => absurd e (nI_ne0 z (by omega)), fun e => absurd e (rv_pos hV z h2 (by omega))⟩
theorem rid_n {n dr : Nat} {q : Nat → rq} {vl : Nat → Nat} (hV : rv_I n q vl dr) (hn : 1 ≤ n) : rid n q vl 0 0 := ⟨0, rfl, hn, by rw [hV.2.1]; decide, hV.1⟩
/-- a SECRET's row, a PUBLIC's row -/
theorem rid_s {n dr d : Nat} {q : Nat → rq} {vl : Nat → Nat} {x : Int32} (hV : rv_I n q vl dr) (h : rid n q vl x (sm_t 0 d 0)) : ∃ t, x = nI t ∧ 1 ≤ t ∧ t < n ∧ (q t).1 = 1 ∧ vl t = sm_t 0 d 0 := by
  obtain ⟨t, h1, h2, h3, h4⟩ := h
  rcases Nat.eq_zero_or_pos t with z | z
  · rw [z, hV.1] at h4
    exact absurd h4.symm (sm_t_ne _ _ _)
  · have := rv_kd hV z h2 (by omega) h4
    exact ⟨t, h1, z, h2, by omega, h4⟩
theorem rid_p {n dr v : Nat} {q : Nat → rq} {vl : Nat → Nat} {x : Int32} (hV : rv_I n q vl dr) (h : rid n q vl x (sm_t 1 v 0)) : ∃ t, x = nI t ∧ 1 ≤ t ∧ t < n ∧ (q t).1 = 2 ∧ (q t).2.1 < n ∧ (q (q t).2.1).1 = 1 ∧ vl (q t).2.1 = v := by
  obtain ⟨t, h1, h2, h3, h4⟩ := h
  rcases Nat.eq_zero_or_pos t with z | z
  · rw [z, hV.1] at h4
    exact absurd h4.symm (sm_t_ne _ _ _)
  · rcases rv_kd hV z h2 (by omega) h4 with e | e | e | e | e
    · omega
    · have k := (hV.2.2.1 t z h2).2.2.2.1 e.2.1
      exact ⟨t, h1, z, h2, e.2.1, by omega, k.2.1, e.2.2⟩
    · omega
    · omega
    · omega
def re (n : Nat) (q : Nat → rq) (vl : Nat → Nat) (f : Nat → Int32) (e : sp_E) : Prop :=
  rid n q vl (f 0) e.1 ∧ rid n q vl (f 1) e.2.1 ∧ rid n q vl (f 2) e.2.2.1 ∧ rid n q vl (f 3) e.2.2.2.1 ∧ f 4 = nI e.2.2.2.2.1 ∧ f 5 = nI e.2.2.2.2.2.1 ∧ rid n q vl (f 6) e.2.2.2.2.2.2.1 ∧ f 7 = nI e.2.2.2.2.2.2.2.1 ∧ f 8 = nI e.2.2.2.2.2.2.2.2.length ∧ e.2.2.2.2.2.2.2.2.length ≤ 8 ∧
  ∀ i z, e.2.2.2.2.2.2.2.2[i]? = some z → rid n q vl (f (9 + 3 * i)) z.1 ∧ f (10 + 3 * i) = nI z.2.1 ∧ rid n q vl (f (11 + 3 * i)) z.2.2
theorem re.go {n n' : Nat} {q q' : Nat → rq} {vl vl' : Nat → Nat} {f : Nat → Int32} {e : sp_E} (h : re n q vl f e) (hg : rgo n q vl n' q' vl') : re n' q' vl' f e := by
  obtain ⟨a1, a2, a3, a4, a5, a6, a7, a8, a9, a10, a11⟩ := h
  exact ⟨a1.go hg, a2.go hg, a3.go hg, a4.go hg, a5, a6, a7.go hg, a8, a9, a10, fun i z hz => ⟨(a11 i z hz).1.go hg, (a11 i z hz).2.1, (a11 i z hz).2.2.go hg⟩⟩
theorem re.cg {n : Nat} {q : Nat → rq} {vl : Nat → Nat} {f g : Nat → Int32} {e : sp_E} (h : re n q vl f e) (hg : ∀ k, k < 33 → g k = f k) : re n q vl g e := by
  obtain ⟨a1, a2, a3, a4, a5, a6, a7, a8, a9, a10, a11⟩ := h
  refine ⟨by rw [hg 0 (by decide)]; exact a1, by rw [hg 1 (by decide)]; exact a2, by rw [hg 2 (by decide)]; exact a3, by rw [hg 3 (by decide)]; exact a4, by rw [hg 4 (by decide)]; exact a5, by rw [hg 5 (by decide)]; exact a6, by rw [hg 6 (by decide)]; exact a7, by rw [hg 7 (by decide)]; exact a8, by rw [hg 8 (by decide)]; exact a9, a10, fun i z hz => ?_⟩
  have hi := (List.getElem?_eq_some_iff.mp hz).1
  have := a11 i z hz
  rw [hg (9 + 3 * i) (by omega), hg (10 + 3 * i) (by omega), hg (11 + 3 * i) (by omega)]
  exact this
/-- one field of the record anew -/
theorem re.u0 {n : Nat} {q : Nat → rq} {vl : Nat → Nat} {f : Nat → Int32} {ro mi th sc st bf rc nx v : Nat} {lf : List (Nat × Nat × Nat)} {x : Int32} (h : re n q vl f (ro, mi, th, sc, st, bf, rc, nx, lf)) (hx : rid n q vl x v) : re n q vl (upd f 0 x) (v, mi, th, sc, st, bf, rc, nx, lf) := by
  obtain ⟨a1, a2, a3, a4, a5, a6, a7, a8, a9, a10, a11⟩ := h
  exact ⟨by rw [pk_us]; exact hx, by rw [pk_un (by decide)]; exact a2, by rw [pk_un (by decide)]; exact a3, by rw [pk_un (by decide)]; exact a4, by rw [pk_un (by decide)]; exact a5, by rw [pk_un (by decide)]; exact a6, by rw [pk_un (by decide)]; exact a7, by rw [pk_un (by decide)]; exact a8, by rw [pk_un (by decide)]; exact a9, a10, fun i z hz => by rw [pk_un (by omega), pk_un (by omega), pk_un (by omega)]; exact a11 i z hz⟩
theorem re.u1 {n : Nat} {q : Nat → rq} {vl : Nat → Nat} {f : Nat → Int32} {ro mi th sc st bf rc nx v : Nat} {lf : List (Nat × Nat × Nat)} {x : Int32} (h : re n q vl f (ro, mi, th, sc, st, bf, rc, nx, lf)) (hx : rid n q vl x v) : re n q vl (upd f 1 x) (ro, v, th, sc, st, bf, rc, nx, lf) := by
  obtain ⟨a1, a2, a3, a4, a5, a6, a7, a8, a9, a10, a11⟩ := h
  exact ⟨by rw [pk_un (by decide)]; exact a1, by rw [pk_us]; exact hx, by rw [pk_un (by decide)]; exact a3, by rw [pk_un (by decide)]; exact a4, by rw [pk_un (by decide)]; exact a5, by rw [pk_un (by decide)]; exact a6, by rw [pk_un (by decide)]; exact a7, by rw [pk_un (by decide)]; exact a8, by rw [pk_un (by decide)]; exact a9, a10, fun i z hz => by rw [pk_un (by omega), pk_un (by omega), pk_un (by omega)]; exact a11 i z hz⟩
theorem re.u2 {n : Nat} {q : Nat → rq} {vl : Nat → Nat} {f : Nat → Int32} {ro mi th sc st bf rc nx v : Nat} {lf : List (Nat × Nat × Nat)} {x : Int32} (h : re n q vl f (ro, mi, th, sc, st, bf, rc, nx, lf)) (hx : rid n q vl x v) : re n q vl (upd f 2 x) (ro, mi, v, sc, st, bf, rc, nx, lf) := by
  obtain ⟨a1, a2, a3, a4, a5, a6, a7, a8, a9, a10, a11⟩ := h
  exact ⟨by rw [pk_un (by decide)]; exact a1, by rw [pk_un (by decide)]; exact a2, by rw [pk_us]; exact hx, by rw [pk_un (by decide)]; exact a4, by rw [pk_un (by decide)]; exact a5, by rw [pk_un (by decide)]; exact a6, by rw [pk_un (by decide)]; exact a7, by rw [pk_un (by decide)]; exact a8, by rw [pk_un (by decide)]; exact a9, a10, fun i z hz => by rw [pk_un (by omega), pk_un (by omega), pk_un (by omega)]; exact a11 i z hz⟩
theorem re.u3 {n : Nat} {q : Nat → rq} {vl : Nat → Nat} {f : Nat → Int32} {ro mi th sc st bf rc nx v : Nat} {lf : List (Nat × Nat × Nat)} {x : Int32} (h : re n q vl f (ro, mi, th, sc, st, bf, rc, nx, lf)) (hx : rid n q vl x v) : re n q vl (upd f 3 x) (ro, mi, th, v, st, bf, rc, nx, lf) := by
  obtain ⟨a1, a2, a3, a4, a5, a6, a7, a8, a9, a10, a11⟩ := h
  exact ⟨by rw [pk_un (by decide)]; exact a1, by rw [pk_un (by decide)]; exact a2, by rw [pk_un (by decide)]; exact a3, by rw [pk_us]; exact hx, by rw [pk_un (by decide)]; exact a5, by rw [pk_un (by decide)]; exact a6, by rw [pk_un (by decide)]; exact a7, by rw [pk_un (by decide)]; exact a8, by rw [pk_un (by decide)]; exact a9, a10, fun i z hz => by rw [pk_un (by omega), pk_un (by omega), pk_un (by omega)]; exact a11 i z hz⟩
theorem re.u4 {n : Nat} {q : Nat → rq} {vl : Nat → Nat} {f : Nat → Int32} {ro mi th sc st bf rc nx v : Nat} {lf : List (Nat × Nat × Nat)} {x : Int32} (h : re n q vl f (ro, mi, th, sc, st, bf, rc, nx, lf)) (hx : x = nI v) : re n q vl (upd f 4 x) (ro, mi, th, sc, v, bf, rc, nx, lf) := by
  obtain ⟨a1, a2, a3, a4, a5, a6, a7, a8, a9, a10, a11⟩ := h
  exact ⟨by rw [pk_un (by decide)]; exact a1, by rw [pk_un (by decide)]; exact a2, by rw [pk_un (by decide)]; exact a3, by rw [pk_un (by decide)]; exact a4, by rw [pk_us]; exact hx, by rw [pk_un (by decide)]; exact a6, by rw [pk_un (by decide)]; exact a7, by rw [pk_un (by decide)]; exact a8, by rw [pk_un (by decide)]; exact a9, a10, fun i z hz => by rw [pk_un (by omega), pk_un (by omega), pk_un (by omega)]; exact a11 i z hz⟩
theorem re.u5 {n : Nat} {q : Nat → rq} {vl : Nat → Nat} {f : Nat → Int32} {ro mi th sc st bf rc nx v : Nat} {lf : List (Nat × Nat × Nat)} {x : Int32} (h : re n q vl f (ro, mi, th, sc, st, bf, rc, nx, lf)) (hx : x = nI v) : re n q vl (upd f 5 x) (ro, mi, th, sc, st, v, rc, nx, lf) := by
  obtain ⟨a1, a2, a3, a4, a5, a6, a7, a8, a9, a10, a11⟩ := h
  exact ⟨by rw [pk_un (by decide)]; exact a1, by rw [pk_un (by decide)]; exact a2, by rw [pk_un (by decide)]; exact a3, by rw [pk_un (by decide)]; exact a4, by rw [pk_un (by decide)]; exact a5, by rw [pk_us]; exact hx, by rw [pk_un (by decide)]; exact a7, by rw [pk_un (by decide)]; exact a8, by rw [pk_un (by decide)]; exact a9, a10, fun i z hz => by rw [pk_un (by omega), pk_un (by omega), pk_un (by omega)]; exact a11 i z hz⟩
theorem re.u6 {n : Nat} {q : Nat → rq} {vl : Nat → Nat} {f : Nat → Int32} {ro mi th sc st bf rc nx v : Nat} {lf : List (Nat × Nat × Nat)} {x : Int32} (h : re n q vl f (ro, mi, th, sc, st, bf, rc, nx, lf)) (hx : rid n q vl x v) : re n q vl (upd f 6 x) (ro, mi, th, sc, st, bf, v, nx, lf) := by
  obtain ⟨a1, a2, a3, a4, a5, a6, a7, a8, a9, a10, a11⟩ := h
  exact ⟨by rw [pk_un (by decide)]; exact a1, by rw [pk_un (by decide)]; exact a2, by rw [pk_un (by decide)]; exact a3, by rw [pk_un (by decide)]; exact a4, by rw [pk_un (by decide)]; exact a5, by rw [pk_un (by decide)]; exact a6, by rw [pk_us]; exact hx, by rw [pk_un (by decide)]; exact a8, by rw [pk_un (by decide)]; exact a9, a10, fun i z hz => by rw [pk_un (by omega), pk_un (by omega), pk_un (by omega)]; exact a11 i z hz⟩
theorem re.u7 {n : Nat} {q : Nat → rq} {vl : Nat → Nat} {f : Nat → Int32} {ro mi th sc st bf rc nx v : Nat} {lf : List (Nat × Nat × Nat)} {x : Int32} (h : re n q vl f (ro, mi, th, sc, st, bf, rc, nx, lf)) (hx : x = nI v) : re n q vl (upd f 7 x) (ro, mi, th, sc, st, bf, rc, v, lf) := by
  obtain ⟨a1, a2, a3, a4, a5, a6, a7, a8, a9, a10, a11⟩ := h
  exact ⟨by rw [pk_un (by decide)]; exact a1, by rw [pk_un (by decide)]; exact a2, by rw [pk_un (by decide)]; exact a3, by rw [pk_un (by decide)]; exact a4, by rw [pk_un (by decide)]; exact a5, by rw [pk_un (by decide)]; exact a6, by rw [pk_un (by decide)]; exact a7, by rw [pk_us]; exact hx, by rw [pk_un (by decide)]; exact a9, a10, fun i z hz => by rw [pk_un (by omega), pk_un (by omega), pk_un (by omega)]; exact a11 i z hz⟩
/-- one more LEFT key -/
theorem re.ps {n : Nat} {q : Nat → rq} {vl : Nat → Nat} {f : Nat → Int32} {ro mi th sc st bf rc nx : Nat} {lf : List (Nat × Nat × Nat)} {x y : Int32} {z : Nat × Nat × Nat} (h : re n q vl f (ro, mi, th, sc, st, bf, rc, nx, lf)) (hl : lf.length < 8) (hx : rid n q vl x z.1) (hy : rid n q vl y z.2.2) : re n q vl (upd (upd (upd (upd f (9 + 3 * lf.length) x) (10 + 3 * lf.length) (nI z.2.1)) (11 + 3 * lf.length) y) 8 (nI (lf.length + 1))) (ro, mi, th, sc, st, bf, rc, nx, lf ++ [z]) := by
  obtain ⟨a1, a2, a3, a4, a5, a6, a7, a8, a9, a10, a11⟩ := h
  have h9 : (lf ++ [z]).length = lf.length + 1 := by rw [List.length_append]; rfl
  have lo : ∀ k, k < 8 → upd (upd (upd (upd f (9 + 3 * lf.length) x) (10 + 3 * lf.length) (nI z.2.1)) (11 + 3 * lf.length) y) 8 (nI (lf.length + 1)) k = f k := fun k hk => by rw [pk_un (by omega), pk_un (by omega), pk_un (by omega), pk_un (by omega)]
  refine ⟨by rw [lo 0 (by decide)]; exact a1, by rw [lo 1 (by decide)]; exact a2, by rw [lo 2 (by decide)]; exact a3, by rw [lo 3 (by decide)]; exact a4, by rw [lo 4 (by decide)]; exact a5, by rw [lo 5 (by decide)]; exact a6, by rw [lo 6 (by decide)]; exact a7, by rw [lo 7 (by decide)]; exact a8, by rw [pk_us]; exact congrArg nI h9.symm, by show (lf ++ [z]).length ≤ 8; omega, fun i w hw => ?_⟩
  have hw : (lf ++ [z])[i]? = some w := hw
  rcases Nat.lt_or_ge i lf.length with hi | hi
  · rw [List.getElem?_append_left hi] at hw
    have k := a11 i w hw
    rw [pk_un (show 9 + 3 * i ≠ 8 by omega), pk_un (by omega), pk_un (by omega), pk_un (by omega), pk_un (show 10 + 3 * i ≠ 8 by omega), pk_un (show 10 + 3 * i ≠ 11 + 3 * lf.length by omega), pk_un (by omega), pk_un (by omega), pk_un (show 11 + 3 * i ≠ 8 by omega), pk_un (by omega), pk_un (by omega), pk_un (by omega)]
    exact k
  · have hi2 : i < (lf ++ [z]).length := (List.getElem?_eq_some_iff.mp hw).1
    have e : i = lf.length := by omega
    subst e
    rw [List.getElem?_append_right (Nat.le_refl _), Nat.sub_self] at hw
    injection hw with hw
    subst hw
    rw [pk_un (show 9 + 3 * lf.length ≠ 8 by omega), pk_un (by omega), pk_un (by omega), pk_us, pk_un (show 10 + 3 * lf.length ≠ 8 by omega), pk_un (show 10 + 3 * lf.length ≠ 11 + 3 * lf.length by omega), pk_us, pk_un (show 11 + 3 * lf.length ≠ 8 by omega), pk_us]
    exact ⟨hx, rfl, hy⟩
/-- the LEFT key at i goes -/
theorem re.er {n : Nat} {q : Nat → rq} {vl : Nat → Nat} {f g : Nat → Int32} {ro mi th sc st bf rc nx i : Nat} {lf : List (Nat × Nat × Nat)} (h : re n q vl f (ro, mi, th, sc, st, bf, rc, nx, lf)) (hi : i < lf.length) (g0 : ∀ k, k < 8 → g k = f k) (g8 : g 8 = nI (lf.length - 1)) (g1 : ∀ k, 9 ≤ k → k < 9 + 3 * i → g k = f k) (g2 : ∀ k, 9 + 3 * i ≤ k → k < 9 + 3 * (lf.length - 1) → g k = f (k + 3)) : re n q vl g (ro, mi, th, sc, st, bf, rc, nx, lf.eraseIdx i) := by
  obtain ⟨a1, a2, a3, a4, a5, a6, a7, a8, a9, a10, a11⟩ := h
  have hlen : (lf.eraseIdx i).length = lf.length - 1 := by rw [List.length_eraseIdx, if_pos hi]
  have a10 : lf.length ≤ 8 := a10
  refine ⟨by rw [g0 0 (by decide)]; exact a1, by rw [g0 1 (by decide)]; exact a2, by rw [g0 2 (by decide)]; exact a3, by rw [g0 3 (by decide)]; exact a4, by rw [g0 4 (by decide)]; exact a5, by rw [g0 5 (by decide)]; exact a6, by rw [g0 6 (by decide)]; exact a7, by rw [g0 7 (by decide)]; exact a8, g8.trans (congrArg nI hlen.symm), by show (lf.eraseIdx i).length ≤ 8; omega, fun j w hw => ?_⟩
  have hw : (lf.eraseIdx i)[j]? = some w := hw
  have hj : j < (lf.eraseIdx i).length := (List.getElem?_eq_some_iff.mp hw).1
  rw [List.getElem?_eraseIdx] at hw
  by_cases c : j < i
  · rw [if_pos c] at hw
    rw [g1 _ (by omega) (by omega), g1 _ (by omega) (by omega), g1 _ (by omega) (by omega)]
    exact a11 j w hw
  · rw [if_neg c] at hw
    rw [g2 _ (by omega) (by omega), g2 _ (by omega) (by omega), g2 _ (by omega) (by omega)]
    have k := a11 (j + 1) w hw
    rw [show 9 + 3 * (j + 1) = 9 + 3 * j + 3 by omega, show 10 + 3 * (j + 1) = 10 + 3 * j + 3 by omega, show 11 + 3 * (j + 1) = 11 + 3 * j + 3 by omega] at k
    exact k
/-- what a method of the hand may change -/
def ry (P : rq → Nat → Prop) (k : Nat) (sc : Nat → Int32) (ar : Nat → Nat → Int32) (n : Nat) (q : Nat → rq) (vl : Nat → Nat) (sc' : Nat → Int32) (ar' : Nat → Nat → Int32) (n' : Nat) (q' : Nat → rq) (vl' : Nat → Nat) : Prop := rgo n q vl n' q' vl' ∧ n' ≤ n + k ∧ (∀ i, i ≠ 0 → i ≠ 2 → sc' i = sc i) ∧ (∀ i, 4 ≤ i → i ≠ 6 → i ≠ 15 → ar' i = ar i) ∧ ∀ t, n ≤ t → t < n' → P (q' t) (vl' t)
theorem rx.ry {P P' : rq → Nat → Prop} {k k' n n' : Nat} {sc sc' : Nat → Int32} {ar ar' : Nat → Nat → Int32} {q q' : Nat → rq} {vl vl' : Nat → Nat} (h : rx P k sc ar n q vl sc' ar' n' q' vl') (hk : k ≤ k') (hp : ∀ a v, P a v → P' a v) : ry P' k' sc ar n q vl sc' ar' n' q' vl' := ⟨⟨h.1, h.2.2.1⟩, by have := h.2.1; omega, h.2.2.2.1, fun i i4 i6 _ => h.2.2.2.2.1 i i4 i6, fun t h1 h2 => hp _ _ (h.2.2.2.2.2 t h1 h2)⟩
theorem ry.tr {P : rq → Nat → Prop} {k k' n n' n'' : Nat} {sc sc' sc'' : Nat → Int32} {ar ar' ar'' : Nat → Nat → Int32} {q q' q'' : Nat → rq} {vl vl' vl'' : Nat → Nat} (h : ry P k sc ar n q vl sc' ar' n' q' vl') (h' : ry P k' sc' ar' n' q' vl' sc'' ar'' n'' q'' vl'') : ry P (k + k') sc ar n q vl sc'' ar'' n'' q'' vl'' := by
  obtain ⟨a1, a2, a4, a5, a6⟩ := h
  obtain ⟨b1, b2, b4, b5, b6⟩ := h'
  refine ⟨a1.tr b1, by omega, fun i i0 i2 => (b4 i i0 i2).trans (a4 i i0 i2), fun i i4 i6 i15 => (b5 i i4 i6 i15).trans (a5 i i4 i6 i15), fun t h1 h2 => ?_⟩
  rcases Nat.lt_or_ge t n' with h | h
  · have := a6 t h1 h
    rw [(b1.2 t h).1, (b1.2 t h).2]
    exact this
  · exact b6 t h h2
theorem ry.mn {P P' : rq → Nat → Prop} {k k' n n' : Nat} {sc sc' : Nat → Int32} {ar ar' : Nat → Nat → Int32} {q q' : Nat → rq} {vl vl' : Nat → Nat} (h : ry P k sc ar n q vl sc' ar' n' q' vl') (hk : k ≤ k') (hp : ∀ a v, P a v → P' a v) : ry P' k' sc ar n q vl sc' ar' n' q' vl' := ⟨h.1, by have := h.2.1; omega, h.2.2.1, h.2.2.2.1, fun t h1 h2 => hp _ _ (h.2.2.2.2 t h1 h2)⟩
/-- the hand alone is written -/
theorem ry.ha {P : rq → Nat → Prop} {k n n' : Nat} {sc sc' : Nat → Int32} {ar ar' ar'' : Nat → Nat → Int32} {q q' : Nat → rq} {vl vl' : Nat → Nat} (h : ry P k sc ar n q vl sc' ar' n' q' vl') (h' : ∀ i, i ≠ 15 → ar'' i = ar' i) : ry P k sc ar n q vl sc' ar'' n' q' vl' := ⟨h.1, h.2.1, h.2.2.1, fun i i4 i6 i15 => (h' i i15).trans (h.2.2.2.1 i i4 i6 i15), h.2.2.2.2⟩
theorem ry.rf {P : rq → Nat → Prop} {k n : Nat} {sc : Nat → Int32} {ar : Nat → Nat → Int32} {q : Nat → rq} {vl : Nat → Nat} : ry P k sc ar n q vl sc ar n q vl := ⟨rgo.rf, by omega, fun _ _ _ => rfl, fun _ _ _ _ => rfl, fun t h1 h2 => by omega⟩
theorem rp.ha {sc : Nat → Int32} {ar ar' : Nat → Nat → Int32} {n dr : Nat} {q : Nat → rq} {vl : Nat → Nat} (h : rp sc ar n q vl dr) (h' : ∀ i, i ≤ 6 → ar' i = ar i) : rp sc ar' n q vl dr := by
  obtain ⟨⟨a1, a2, a3, a4, a5, tb, a6, a7⟩, h2, h3, h4, h5⟩ := h
  exact ⟨⟨a1, a2, a3, fun t t1 t2 => by rw [h' 0 (by omega), h' 1 (by omega), h' 2 (by omega), h' 3 (by omega)]; exact a4 t t1 t2, a5, tb, fun k hk => by rw [h' 6 (by omega)]; exact a6 k hk, a7⟩, h2, h3, h4, fun t t1 t2 => by rw [h' 4 (by omega), h' 5 (by omega)]; exact h5 t t1 t2⟩
theorem rp.sc {sc sc' : Nat → Int32} {ar : Nat → Nat → Int32} {n dr : Nat} {q : Nat → rq} {vl : Nat → Nat} (h : rp sc ar n q vl dr) (h0 : sc' 0 = sc 0) (h2 : sc' 2 = sc 2) : rp sc' ar n q vl dr := ⟨⟨h0.trans h.1.1, h.1.2⟩, h.2.1, h2.trans h.2.2.1, h.2.2.2⟩
theorem rp.tb {sc : Nat → Int32} {ar : Nat → Nat → Int32} {n dr : Nat} {q : Nat → rq} {vl : Nat → Nat} (h : rp sc ar n q vl dr) : ∃ tb, rh_I n q tb := by
  obtain ⟨⟨a1, a2, a3, a4, a5, tb, a6, a7⟩, -⟩ := h
  exact ⟨tb, a7⟩
theorem rp.eq {sc : Nat → Int32} {ar : Nat → Nat → Int32} {n dr : Nat} {q : Nat → rq} {vl : Nat → Nat} {x x' : Int32} {v v' : Nat} (h : rp sc ar n q vl dr) (h1 : rid n q vl x v) (h2 : rid n q vl x' v') : x = x' ↔ v = v' := by
  obtain ⟨tb, h3⟩ := h.tb
  exact rid_eq h.2.1 h3 h.1.2.2.1 h1 h2
theorem rp.z {sc : Nat → Int32} {ar : Nat → Nat → Int32} {n dr : Nat} {q : Nat → rq} {vl : Nat → Nat} {x : Int32} {v : Nat} (h : rp sc ar n q vl dr) (h1 : rid n q vl x v) : x = 0 ↔ v = 0 := rid_0 h.2.1 h.1.2.2.1 h1
theorem rp.n {sc : Nat → Int32} {ar : Nat → Nat → Int32} {n dr : Nat} {q : Nat → rq} {vl : Nat → Nat} (h : rp sc ar n q vl dr) : rid n q vl 0 0 := rid_n h.2.1 h.1.2.1
