/-! the reference's marks as the table goes on -/
def rpub (n : Nat) (q : Nat → rq) (vl : Nat → Nat) (v : Nat) : Prop := v = sp_r ∨ ∃ p, 1 ≤ p ∧ p < n ∧ (q p).1 = 2 ∧ vl p = sm_t 1 v 0
theorem rpub.go {n n' v : Nat} {q q' : Nat → rq} {vl vl' : Nat → Nat} (h : rpub n q vl v) (hg : rgo n q vl n' q' vl') : rpub n' q' vl' v := by
  rcases h with h | ⟨p, h1, h2, h3, h4⟩
  · exact Or.inl h
  · exact Or.inr ⟨p, h1, Nat.lt_of_lt_of_le h2 hg.1, by rw [(hg.2 p h2).1]; exact h3, by rw [(hg.2 p h2).2]; exact h4⟩
def rg_s (n : Nat) (q : Nat → rq) (vl : Nat → Nat) : Prop := ∀ t, 1 ≤ t → t < n → (q t).1 = 3 → rpub n q vl (vl (q t).2.1) ∧ rpub n q vl (vl (q t).2.2.1)
theorem rg_s.go {n n' dr dr' x y : Nat} {q q' : Nat → rq} {vl vl' : Nat → Nat} (h : rg_s n q vl) (hV : rv_I n q vl dr) (hV' : rv_I n' q' vl' dr') (hg : rgo n q vl n' q' vl') (hn : ∀ t, n ≤ t → t < n' → (q' t).1 = 3 → vl' t = sm_sh x y) (hx : rpub n' q' vl' x) (hy : rpub n' q' vl' y) : rg_s n' q' vl' := by
  intro t t1 t2 t3
  rcases Nat.lt_or_ge t n with c | c
  · have e := hg.2 t c
    rw [e.1] at t3 ⊢
    have k := (hV.2.2.1 t t1 c).2.2.2.2.1 t3
    rw [(hg.2 _ (show (q t).2.1 < n by omega)).2, (hg.2 _ (show (q t).2.2.1 < n by omega)).2]
    exact ⟨(h t t1 c t3).1.go hg, (h t t1 c t3).2.go hg⟩
  · have e := hn t c t2 t3
    have k := (hV'.2.2.1 t t1 t2).2.2.2.2.1 t3
    rw [k.2.2.2.2.2] at e
    unfold sm_sh at e
    split at e
    · have e2 := sm_t_inj e
      rw [e2.2.1, e2.2.2]
      exact ⟨hx, hy⟩
    · have e2 := sm_t_inj e
      rw [e2.2.1, e2.2.2]
      exact ⟨hy, hx⟩
/-- the PUBLICs of all SHAREDs' parts -/
theorem rg_s.pf {n dr : Nat} {q : Nat → rq} {vl tb : Nat → Nat} (h : rg_s n q vl) (hV : rv_I n q vl dr) (hh : rh_I n q tb) (hr : ∃ p, 1 ≤ p ∧ p < n ∧ (q p).1 = 2 ∧ vl p = sm_t 1 sp_r 0) : ∃ pf, rg_p n q pf := by
  have key : ∀ a, ∃ p, (1 ≤ a → a < n → (q a).1 = 1 → rpub n q vl (vl a) → 1 ≤ p ∧ p < n ∧ q p = (2, a, 0, 0)) := by
    intro a
    by_cases c : 1 ≤ a ∧ a < n ∧ (q a).1 = 1 ∧ rpub n q vl (vl a)
    · obtain ⟨c1, c2, c3, c4⟩ := c
      obtain ⟨p, p1, p2, p3, p4⟩ : ∃ p, 1 ≤ p ∧ p < n ∧ (q p).1 = 2 ∧ vl p = sm_t 1 (vl a) 0 := by
        rcases c4 with c4 | c4
        · rw [c4]; exact hr
        · exact c4
      have k := (hV.2.2.1 p p1 p2).2.2.2.1 p3
      have e := sm_t_inj (k.2.2.2.symm.trans p4)
      have e2 := rv_inj hV hh (q p).2.1 a (by omega) c2 (by omega) (by omega) e.2.1
      refine ⟨p, fun _ _ _ _ => ⟨p1, p2, ?_⟩⟩
      exact Prod.ext p3 (Prod.ext e2 k.2.2.1)
    · exact ⟨0, fun c1 c2 c3 c4 => absurd ⟨c1, c2, c3, c4⟩ c⟩
  refine ⟨fun a => Classical.choose (key a), fun t t1 t2 t3 => ?_⟩
  have k := (hV.2.2.1 t t1 t2).2.2.2.2.1 t3
  have nz : ∀ {a : Nat}, (q a).1 = 1 → 1 ≤ a := fun {a} e => by
    rcases Nat.eq_zero_or_pos a with z | z
    · rw [z, hV.2.1] at e; omega
    · exact z
  exact ⟨Classical.choose_spec (key (q t).2.1) (nz k.2.2.1) (by omega) k.2.2.1 (h t t1 t2 t3).1, Classical.choose_spec (key (q t).2.2.1) (nz k.2.2.2.1) (by omega) k.2.2.2.1 (h t t1 t2 t3).2⟩
def tg (n : Nat) (q : Nat → rq) (vl : Nat → Nat) (gv kn : Nat → Bool) (od : Bool) (G : Nat → Prop) : Prop := rg_g n q vl gv G ∧ rg_k n q vl kn G ∧ (od = false → ∃ n0 pf, n0 ≤ n ∧ (∀ t, 1 ≤ t → t < n → gv t = true → t < n0) ∧ rg_p n0 q pf ∧ ∀ t, 1 ≤ t → t < n0 → clC gv q pf kn t)
theorem clC_cg {gv kn : Nat → Bool} {q q' : Nat → rq} {pf : Nat → Nat} {t : Nat} (e : q' t = q t) (h : clC gv q pf kn t) : clC gv q' pf kn t := by
  have e1 : cmk q' pf kn t = cmk q pf kn t := by unfold cmk; rw [e]
  have e2 : opn q' kn t = opn q kn t := by unfold opn; rw [e]
  unfold clC
  rw [e1, e2]
  exact h
theorem rv_hd {n dr t : Nat} {q : Nat → rq} {vl : Nat → Nat} (hV : rv_I n q vl dr) (t1 : 1 ≤ t) (t2 : t < n) (c : (q t).1 = 5) : (q t).2.2.1 < n ∧ (q (q t).2.2.1).2.2.1 < n ∧ (q (q t).2.2.1).2.2.2 < n ∧ (q t).2.2.2 < n ∧ (q (q t).2.2.2).2.2.1 < n ∧ 1 ≤ (q t).2.2.2 ∧ (q (q t).2.2.2).2.2.1 < t ∧ (q (q (q t).2.2.2).2.2.1).1 ≤ 4 := by
  have k := (hV.2.2.1 t t1 t2).2.2.2.2.2.2.1 c
  have nz : ∀ {a : Nat}, (q a).1 = 6 → 1 ≤ a := fun {a} e => by
    rcases Nat.eq_zero_or_pos a with z | z
    · rw [z, hV.2.1] at e; omega
    · exact z
  have k1 := (hV.2.2.1 _ (nz k.2.2.2.2.2.1) (by omega)).2.2.2.2.2.2.2 k.2.2.2.2.2.1
  have k2 := (hV.2.2.1 _ (nz k.2.2.2.2.2.2.1) (by omega)).2.2.2.2.2.2.2 k.2.2.2.2.2.2.1
  have := nz k.2.2.2.2.2.2.1
  omega
theorem tg.go {n n' dr : Nat} {q q' : Nat → rq} {vl vl' : Nat → Nat} {gv kn : Nat → Bool} {od : Bool} {G : Nat → Prop} (h : tg n q vl gv kn od G) (hV : rv_I n q vl dr) (hg : rgo n q vl n' q' vl') (hf : ∀ t, n ≤ t → t < n' → gv t = false ∧ kn t = false) (h5 : ∀ t, n ≤ t → t < n' → (q' t).1 ≠ 5) : tg n' q' vl' gv kn od G := by
  obtain ⟨⟨g1, g2, g3⟩, k1, o1⟩ := h
  have lt : ∀ {t}, t < n' → gv t = true → t < n := fun {t} a b => by
    rcases Nat.lt_or_ge t n with c | c
    · exact c
    · rw [(hf t c a).1] at b; cases b
  have ltk : ∀ {t}, t < n' → kn t = true → t < n := fun {t} a b => by
    rcases Nat.lt_or_ge t n with c | c
    · exact c
    · rw [(hf t c a).2] at b; cases b
  refine ⟨⟨fun t t1 t2 t3 => ?_, fun v hv => ?_, fun t t1 t2 t3 => ?_⟩, fun t t1 t2 t3 => ?_, fun e => ?_⟩
  · have c := lt t2 t3
    rw [(hg.2 t c).1, (hg.2 t c).2]
    exact g1 t t1 c t3
  · rcases g2 v hv with ⟨t, a1, a2, a3, a4, a5⟩ | ⟨t, a1, a2, a3, a4, a5⟩
    · exact Or.inl ⟨t, a1, Nat.lt_of_lt_of_le a2 hg.1, a3, by rw [(hg.2 t a2).1]; exact a4, by rw [(hg.2 t a2).2]; exact a5⟩
    · have b := rv_hd hV a1 a2 a4
      refine Or.inr ⟨t, a1, Nat.lt_of_lt_of_le a2 hg.1, a3, by rw [(hg.2 t a2).1]; exact a4, ?_⟩
      rw [(hg.2 t a2).1, (hg.2 _ b.1).1, (hg.2 _ b.2.1).2, (hg.2 _ b.2.2.1).2]
      exact a5
  · have c : t < n := by
      rcases Nat.lt_or_ge t n with c | c
      · exact c
      · exact absurd t3 (h5 t c t2)
    rw [(hg.2 t c).1] at t3 ⊢
    have b := rv_hd hV t1 c t3
    rw [(hg.2 _ b.1).1, (hg.2 _ b.2.1).2, (hg.2 _ b.2.2.1).2]
    exact g3 t t1 c t3
  · have c := ltk t2 t3
    have k := k1 t t1 c t3
    rw [(hg.2 t c).1, (hg.2 t c).2]
    refine ⟨k.1, fun z => ?_⟩
    have b := (hV.2.2.1 t t1 c).2.2.2.2.2.2.2 z
    rw [(hg.2 _ (show (q t).2.2.1 < n by omega)).2, (hg.2 _ (show (q t).2.2.2 < n by omega)).2]
    exact k.2 z
  · obtain ⟨n0, pf, a1, a2, a3, a4⟩ := o1 e
    have := hg.1
    refine ⟨n0, pf, by omega, fun t t1 t2 t3 => a2 t t1 (lt t2 t3) t3, fun t t1 t2 t3 => ?_, fun t t1 t2 => clC_cg (hg.2 t (by omega)).1 (a4 t t1 t2)⟩
    rw [(hg.2 t (by omega)).1] at t3 ⊢
    obtain ⟨b1, b2⟩ := a3 t t1 t2 t3
    exact ⟨⟨b1.1, b1.2.1, by rw [(hg.2 _ (by omega)).1]; exact b1.2.2⟩, ⟨b2.1, b2.2.1, by rw [(hg.2 _ (by omega)).1]; exact b2.2.2⟩⟩
/-- a plain term is given -/
theorem tg.gv {n dr t v : Nat} {q : Nat → rq} {vl : Nat → Nat} {gv kn : Nat → Bool} {od od' : Bool} {G : Nat → Prop} (h : tg n q vl gv kn od G) (hV : rv_I n q vl dr) (ht : t < n) (h4 : (q t).1 ≤ 4) (hv : vl t = v) (ho : od' = true ∨ (od' = od ∧ (t = 0 ∨ gv t = true))) : tg n q vl (lrn gv t) kn od' (fun w => G w ∨ (v ≠ 0 ∧ w = v)) := by
  by_cases c : t = 0 ∨ gv t = true
  · have e1 : lrn gv t = gv := lrn_has (rhas_2 c)
    have e2 : (fun w => G w ∨ (v ≠ 0 ∧ w = v)) = G := by
      funext w
      apply propext
      refine ⟨fun z => ?_, Or.inl⟩
      rcases z with z | ⟨z1, z2⟩
      · exact z
      · rcases c with c | c
        · rw [c, hV.1] at hv
          exact absurd hv.symm z1
        · rcases Nat.eq_zero_or_pos t with y | y
          · rw [y, hV.1] at hv
            exact absurd hv.symm z1
          · rw [z2, ← hv]
            exact (h.1.1 t y ht c).2
    rw [e1, e2]
    refine ⟨h.1, h.2.1, fun e => ?_⟩
    rcases ho with ho | ho
    · rw [ho] at e; cases e
    · rw [ho.1] at e
      exact h.2.2 e
  · have ho : od' = true := by
      rcases ho with ho | ho
      · exact ho
      · exact absurd ho.2 c
    have c0 : t ≠ 0 := fun z => c (Or.inl z)
    have el : lrn gv t = va_up gv t true := if_neg c0
    have vz : v ≠ 0 := by rw [← hv]; exact rv_pos hV (by omega) ht (by omega)
    rw [el]
    obtain ⟨⟨g1, g2, g3⟩, k1, o1⟩ := h
    have up : ∀ {x}, gv x = true → va_up gv t true x = true := fun {x} hx => by
      by_cases e : x = t
      · rw [e, va_up_self]
      · rw [va_up_ne _ _ e]; exact hx
    refine ⟨⟨fun x x1 x2 x3 => ?_, fun w hw => ?_, fun x x1 x2 x3 => ?_⟩, fun x x1 x2 x3 => ?_, fun e => by rw [ho] at e; cases e⟩
    · by_cases e : x = t
      · rw [e]
        exact ⟨by omega, Or.inr ⟨vz, hv⟩⟩
      · rw [va_up_ne _ _ e] at x3
        exact ⟨(g1 x x1 x2 x3).1, Or.inl (g1 x x1 x2 x3).2⟩
    · rcases hw with hw | ⟨-, hw⟩
      · rcases g2 w hw with ⟨x, a1, a2, a3, a4⟩ | ⟨x, a1, a2, a3, a4⟩
        · exact Or.inl ⟨x, a1, a2, up a3, a4⟩
        · exact Or.inr ⟨x, a1, a2, up a3, a4⟩
      · exact Or.inl ⟨t, by omega, ht, va_up_self _ _ _, by omega, by rw [hv, hw]⟩
    · have k := g3 x x1 x2 x3
      exact ⟨up k.1, Or.inl k.2.1, Or.inl k.2.2⟩
    · have k := k1 x x1 x2 x3
      exact ⟨fun z => sm_dr_mono (fun _ => Or.inl) (k.1 z), fun z => ⟨sm_dr_mono (fun _ => Or.inl) (k.2 z).1, sm_dr_mono (fun _ => Or.inl) (k.2 z).2⟩⟩
/-- a SEALED is made and given -/
theorem tg.sl {n n' dr dr' t5 a b c kb kp ky le : Nat} {q q' : Nat → rq} {vl vl' tb : Nat → Nat} {gv kn : Nat → Bool} {od : Bool} {G : Nat → Prop} (h : tg n q vl gv kn od G) (hV : rv_I n q vl dr) (hV' : rv_I n' q' vl' dr') (hh : rh_I n' q' tb) (hg : rgo n q vl n' q' vl') (hf : ∀ t, n ≤ t → t < n' → gv t = false ∧ kn t = false) (hr : ∀ t, n ≤ t → t < n' → q' t = (5, a, b, c)) (p5 : 1 ≤ t5) (h2 : t5 < n') (h3 : q' t5 = (5, a, b, c)) (hv : vl' t5 = sm_t 3 ky le) (hb1 : vl' (q' b).2.2.1 = kb) (hb2 : vl' (q' b).2.2.2 = kp) (z1 : kb ≠ 0) (z2 : kp ≠ 0) : tg n' q' vl' (lrn gv t5) kn true (sp_gv G [kb, kp, sm_t 3 ky le]) := by
  obtain ⟨⟨g1, g2, g3⟩, k1, o1⟩ := h
  have s5 : (q' t5).1 = 5 := by rw [h3]
  have b5 : (q' t5).2.2.1 = b := by rw [h3]
  have el : lrn gv t5 = va_up gv t5 true := if_neg (by omega)
  rw [el]
  have up : ∀ {x}, gv x = true → va_up gv t5 true x = true := fun {x} hx => by
    by_cases e : x = t5
    · rw [e, va_up_self]
    · rw [va_up_ne _ _ e]; exact hx
  have lt : ∀ {t}, t < n' → gv t = true → t < n := fun {t} a b => by
    rcases Nat.lt_or_ge t n with c | c
    · exact c
    · rw [(hf t c a).1] at b; cases b
  have ltk : ∀ {t}, t < n' → kn t = true → t < n := fun {t} a b => by
    rcases Nat.lt_or_ge t n with c | c
    · exact c
    · rw [(hf t c a).2] at b; cases b
  have gb : sp_gv G [kb, kp, sm_t 3 ky le] kb := Or.inr ⟨z1, List.mem_cons_self⟩
  have gp : sp_gv G [kb, kp, sm_t 3 ky le] kp := Or.inr ⟨z2, by simp⟩
  have gs : sp_gv G [kb, kp, sm_t 3 ky le] (sm_t 3 ky le) := Or.inr ⟨sm_t_ne _ _ _, by simp⟩
  have mn : ∀ {v}, sm_dr G v → sm_dr (sp_gv G [kb, kp, sm_t 3 ky le]) v := fun hd => sm_dr_mono (fun _ => Or.inl) hd
  refine ⟨⟨fun t t1 t2 t3 => ?_, fun v hw => ?_, fun t t1 t2 t3 => ?_⟩, fun t t1 t2 t3 => ?_, fun e => by cases e⟩
  · by_cases e : t = t5
    · rw [e, hv]
      exact ⟨by omega, gs⟩
    · rw [va_up_ne _ _ e] at t3
      have c := lt t2 t3
      rw [(hg.2 t c).1, (hg.2 t c).2]
      exact ⟨(g1 t t1 c t3).1, Or.inl (g1 t t1 c t3).2⟩
  · rcases hw with hw | ⟨-, hw⟩
    · rcases g2 v hw with ⟨t, a1, a2, a3, a4, a5⟩ | ⟨t, a1, a2, a3, a4, a5⟩
      · exact Or.inl ⟨t, a1, Nat.lt_of_lt_of_le a2 hg.1, up a3, by rw [(hg.2 t a2).1]; exact a4, by rw [(hg.2 t a2).2]; exact a5⟩
      · have b := rv_hd hV a1 a2 a4
        refine Or.inr ⟨t, a1, Nat.lt_of_lt_of_le a2 hg.1, up a3, by rw [(hg.2 t a2).1]; exact a4, ?_⟩
        rw [(hg.2 t a2).1, (hg.2 _ b.1).1, (hg.2 _ b.2.1).2, (hg.2 _ b.2.2.1).2]
        exact a5
    · simp only [List.mem_cons, List.not_mem_nil, or_false] at hw
      rcases hw with hw | hw | hw
      · exact Or.inr ⟨t5, p5, h2, va_up_self _ _ _, s5, Or.inl (by rw [hw, b5, hb1])⟩
      · exact Or.inr ⟨t5, p5, h2, va_up_self _ _ _, s5, Or.inr (by rw [hw, b5, hb2])⟩
      · exact Or.inl ⟨t5, p5, h2, va_up_self _ _ _, by omega, by rw [hw, hv]⟩
  · rcases Nat.lt_or_ge t n with c | c
    · rw [(hg.2 t c).1] at t3 ⊢
      have b := rv_hd hV t1 c t3
      rw [(hg.2 _ b.1).1, (hg.2 _ b.2.1).2, (hg.2 _ b.2.2.1).2]
      have k := g3 t t1 c t3
      exact ⟨up k.1, Or.inl k.2.1, Or.inl k.2.2⟩
    · have e : t = t5 := hh.2.2.2 t t5 t1 t2 p5 h2 (by rw [hr t c t2, h3])
      rw [e, b5, hb1, hb2]
      exact ⟨va_up_self _ _ _, gb, gp⟩
  · have c := ltk t2 t3
    have k := k1 t t1 c t3
    rw [(hg.2 t c).1, (hg.2 t c).2]
    refine ⟨fun z => mn (k.1 z), fun z => ?_⟩
    have b := (hV.2.2.1 t t1 c).2.2.2.2.2.2.2 z
    rw [(hg.2 _ (show (q t).2.2.1 < n by omega)).2, (hg.2 _ (show (q t).2.2.2 < n by omega)).2]
    exact ⟨mn (k.2 z).1, mn (k.2 z).2⟩
/-- known is DERIVED, once nothing more is found -/
theorem tg.dr {n n0 dr t : Nat} {q : Nat → rq} {vl pf tb : Nat → Nat} {gv kn : Nat → Bool} {G : Nat → Prop} (hV : rv_I n q vl dr) (hh : rh_I n q tb) (hg : rg_g n q vl gv G) (hk : rg_k n q vl kn G) (hn : n0 ≤ n) (hgn : ∀ t, 1 ≤ t → t < n → gv t = true → t < n0) (hp : rg_p n0 q pf) (hc : ∀ t, 1 ≤ t → t < n0 → clC gv q pf kn t) (t1 : 1 ≤ t) (t2 : t < n0) (t4 : (q t).1 ≤ 4) : kn t = true ↔ sm_dr G (vl t) := ⟨fun h => (hk t t1 (by omega) h).1 (by omega), fun h => rg_cm hV hh hn hg hgn hp hc t1 t2 t4 h⟩
/-! the reference, held against the same ends, wires and gifts -/
def rw_R (n : Nat) (q : Nat → rq) (vl : Nat → Nat) (ar : Nat → Nat → Int32) (i : Nat) (w : sp_W) : Prop := ar 7 i = nI w.2.1 ∧ ar 8 i = nI w.2.2.1 ∧ ar 9 i = nI w.1 ∧ rid n q vl (ar 10 i) (sm_t 1 w.2.2.2.1 0) ∧ ∃ t, ar 11 i = nI t ∧ 1 ≤ t ∧ t < n ∧ (q t).1 = 5 ∧ vl t = sm_t 3 w.2.2.2.2.1 w.2.2.2.2.2 ∧ ar 12 i = nI (q (q t).2.2.2).2.2.1
theorem rw_R.go {n n' dr i : Nat} {q q' : Nat → rq} {vl vl' : Nat → Nat} {ar ar' : Nat → Nat → Int32} {w : sp_W} (h : rw_R n q vl ar i w) (hV : rv_I n q vl dr) (hg : rgo n q vl n' q' vl') (ha : ∀ j, 7 ≤ j → j ≤ 12 → ar' j i = ar j i) : rw_R n' q' vl' ar' i w := by
  obtain ⟨a1, a2, a3, a4, t, a5, a6, a7, a8, a9, a10⟩ := h
  have b := rv_hd hV a6 a7 a8
  refine ⟨by rw [ha 7 (by decide) (by decide)]; exact a1, by rw [ha 8 (by decide) (by decide)]; exact a2, by rw [ha 9 (by decide) (by decide)]; exact a3, by rw [ha 10 (by decide) (by decide)]; exact a4.go hg, t, by rw [ha 11 (by decide) (by decide)]; exact a5, a6, Nat.lt_of_lt_of_le a7 hg.1, by rw [(hg.2 t a7).1]; exact a8, by rw [(hg.2 t a7).2]; exact a9, ?_⟩
  rw [ha 12 (by decide) (by decide), (hg.2 t a7).1, (hg.2 _ b.2.2.2.1).1]
  exact a10
def mo_I (sc : Nat → Int32) (ar : Nat → Nat → Int32) (n : Nat) (q : Nat → rq) (vl : Nat → Nat) (dr : Nat) (gv kn : Nat → Bool) (od : Bool) (Es : Nat → sp_E) (W : List sp_W) (G : Nat → Prop) : Prop :=
  rp sc ar n q vl dr ∧ (∀ t, t < 20000 → ar 4 t = b2i (gv t)) ∧ (∀ t, t < 20000 → ar 5 t = b2i (kn t)) ∧ sc 1 = b2i od ∧ (sc 3 = nI W.length ∧ sc 4 = nI W.length) ∧ rid n q vl (sc 5) sp_b ∧
  (∀ i, i < 2 → re n q vl (fun k => ar 13 (33 * i + k)) (Es i)) ∧ (∀ i, i < 2 → re n q vl (fun k => ar 14 (33 * i + k)) (Es (i + 2))) ∧
  (∀ i w, W[i]? = some w → rw_R n q vl ar i w) ∧ tg n q vl gv kn od G ∧ rg_s n q vl ∧ (∀ i, i < 4 → rpub n q vl (Es i).2.1) ∧ (W ≠ [] → ∃ p, 1 ≤ p ∧ p < n ∧ (q p).1 = 2 ∧ vl p = sm_t 1 sp_r 0)
theorem mo_I.fr {sc : Nat → Int32} {ar : Nat → Nat → Int32} {n dr : Nat} {q : Nat → rq} {vl : Nat → Nat} {gv kn : Nat → Bool} {od : Bool} {Es : Nat → sp_E} {W : List sp_W} {G : Nat → Prop} (h : mo_I sc ar n q vl dr gv kn od Es W G) : ∀ t, n ≤ t → t < 20000 → gv t = false ∧ kn t = false := by
  intro t h1 h2
  have e := h.1.2.2.2.2 t h1 h2
  rw [h.2.1 t h2, h.2.2.1 t h2] at e
  exact ⟨b2i_0 e.1, b2i_0 e.2⟩
/-- terms are made: MIXes, and the SHARED of two secrets whose PUBLICs stand there -/
theorem mo_I.ry {sc sc' : Nat → Int32} {ar ar' : Nat → Nat → Int32} {n n' dr dr' k x y : Nat} {q q' : Nat → rq} {vl vl' : Nat → Nat} {gv kn : Nat → Bool} {od : Bool} {Es : Nat → sp_E} {W : List sp_W} {G : Nat → Prop} (h : mo_I sc ar n q vl dr gv kn od Es W G) (hp : rp sc' ar' n' q' vl' dr') (hy : ry (fun a' v' => a'.1 = 4 ∨ (a'.1 = 3 ∧ v' = sm_sh x y)) k sc ar n q vl sc' ar' n' q' vl') (hx : rpub n q vl x) (hyy : rpub n q vl y) : mo_I sc' ar' n' q' vl' dr' gv kn od Es W G := by
  have hfr := h.fr
  obtain ⟨a1, a2, a3, a4, a5, a6, a7, a8, a9, a10, a11, a12, a13⟩ := h
  obtain ⟨b1, b2, b3, b4, b5⟩ := hy
  have n2 := hp.1.2.2.1
  have e13 : ar' 13 = ar 13 := b4 13 (by decide) (by decide) (by decide)
  have e14 : ar' 14 = ar 14 := b4 14 (by decide) (by decide) (by decide)
  refine ⟨hp, by rw [b4 4 (by decide) (by decide) (by decide)]; exact a2, by rw [b4 5 (by decide) (by decide) (by decide)]; exact a3, by rw [b3 1 (by decide) (by decide)]; exact a4, ⟨by rw [b3 3 (by decide) (by decide)]; exact a5.1, by rw [b3 4 (by decide) (by decide)]; exact a5.2⟩, by rw [b3 5 (by decide) (by decide)]; exact a6.go b1, by rw [e13]; exact fun i hi => (a7 i hi).go b1, by rw [e14]; exact fun i hi => (a8 i hi).go b1, fun i w hw => (a9 i w hw).go a1.2.1 b1 (fun j j1 j2 => by rw [b4 j (by omega) (by omega) (by omega)]), a10.go a1.2.1 b1 (fun t t1 t2 => hfr t t1 (by omega)) (fun t t1 t2 z => ?_), a11.go a1.2.1 hp.2.1 b1 (fun t t1 t2 z => ?_) (hx.go b1) (hyy.go b1), fun i hi => (a12 i hi).go b1, fun z => ?_⟩
  · have := b5 t t1 t2
    omega
  · rcases b5 t t1 t2 with c | c
    · omega
    · exact c.2
  · obtain ⟨p, p1, p2, p3, p4⟩ := a13 z
    exact ⟨p, p1, Nat.lt_of_lt_of_le p2 b1.1, by rw [(b1.2 p p2).1]; exact p3, by rw [(b1.2 p p2).2]; exact p4⟩
/-- the hand is written -/
theorem mo_I.ha {sc sc' : Nat → Int32} {ar ar' : Nat → Nat → Int32} {n dr : Nat} {q : Nat → rq} {vl : Nat → Nat} {gv kn : Nat → Bool} {od : Bool} {Es : Nat → sp_E} {W : List sp_W} {G : Nat → Prop} (h : mo_I sc ar n q vl dr gv kn od Es W G) (hs : ∀ i, i ≠ 6 → sc' i = sc i) (ha : ∀ i, i ≠ 15 → ar' i = ar i) : mo_I sc' ar' n q vl dr gv kn od Es W G := by
  obtain ⟨a1, a2, a3, a4, a5, a6, a7, a8, a9, a10, a11, a12, a13⟩ := h
  exact ⟨(a1.ha (fun i hi => ha i (by omega))).sc (hs 0 (by decide)) (hs 2 (by decide)), by rw [ha 4 (by decide)]; exact a2, by rw [ha 5 (by decide)]; exact a3, by rw [hs 1 (by decide)]; exact a4, ⟨by rw [hs 3 (by decide)]; exact a5.1, by rw [hs 4 (by decide)]; exact a5.2⟩, by rw [hs 5 (by decide)]; exact a6, by rw [ha 13 (by decide)]; exact a7, by rw [ha 14 (by decide)]; exact a8, fun i w hw => (a9 i w hw).go a1.2.1 rgo.rf (fun j j1 j2 => by rw [ha j (by omega)]), a10, a11, a12, a13⟩
/-- an end anew: array 13 at j, or array 14 -/
theorem mo_I.st {sc : Nat → Int32} {ar ar' : Nat → Nat → Int32} {n dr j : Nat} {q : Nat → rq} {vl : Nat → Nat} {gv kn : Nat → Bool} {od : Bool} {Es : Nat → sp_E} {W : List sp_W} {G : Nat → Prop} {e : sp_E} (h : mo_I sc ar n q vl dr gv kn od Es W G) (hj : j < 2) (ha : ∀ i, i ≠ 13 → ar' i = ar i) (h1 : re n q vl (fun k => ar' 13 (33 * j + k)) e) (h2 : ∀ i, i < 33 * j ∨ 33 * j + 33 ≤ i → ar' 13 i = ar 13 i) (hm : rpub n q vl e.2.1) : mo_I sc ar' n q vl dr gv kn od (fun i => if i = j then e else Es i) W G := by
  obtain ⟨a1, a2, a3, a4, a5, a6, a7, a8, a9, a10, a11, a12, a13⟩ := h
  refine ⟨a1.ha (fun i hi => ha i (by omega)), by rw [ha 4 (by decide)]; exact a2, by rw [ha 5 (by decide)]; exact a3, a4, a5, a6, fun i hi => ?_, fun i hi => ?_, fun i w hw => (a9 i w hw).go a1.2.1 rgo.rf (fun j j1 j2 => by rw [ha j (by omega)]), a10, a11, fun i hi => ?_, a13⟩
  · show re n q vl _ (if i = j then e else Es i)
    by_cases c : i = j
    · subst c
      rw [if_pos rfl]
      exact h1
    · rw [if_neg c]
      exact (a7 i hi).cg (fun k hk => h2 _ (by omega))
  · show re n q vl _ (if i + 2 = j then e else Es (i + 2))
    rw [if_neg (by omega), ha 14 (by decide)]
    exact a8 i hi
  · dsimp only
    by_cases c : i = j
    · rw [if_pos c]
      exact hm
    · rw [if_neg c]
      exact a12 i hi
theorem mo_I.kp {sc : Nat → Int32} {ar ar' : Nat → Nat → Int32} {n dr j : Nat} {q : Nat → rq} {vl : Nat → Nat} {gv kn : Nat → Bool} {od : Bool} {Es : Nat → sp_E} {W : List sp_W} {G : Nat → Prop} {e : sp_E} (h : mo_I sc ar n q vl dr gv kn od Es W G) (hj : j < 2) (ha : ∀ i, i ≠ 14 → ar' i = ar i) (h1 : re n q vl (fun k => ar' 14 (33 * j + k)) e) (h2 : ∀ i, i < 33 * j ∨ 33 * j + 33 ≤ i → ar' 14 i = ar 14 i) (hm : rpub n q vl e.2.1) : mo_I sc ar' n q vl dr gv kn od (fun i => if i = j + 2 then e else Es i) W G := by
  obtain ⟨a1, a2, a3, a4, a5, a6, a7, a8, a9, a10, a11, a12, a13⟩ := h
  refine ⟨a1.ha (fun i hi => ha i (by omega)), by rw [ha 4 (by decide)]; exact a2, by rw [ha 5 (by decide)]; exact a3, a4, a5, a6, fun i hi => ?_, fun i hi => ?_, fun i w hw => (a9 i w hw).go a1.2.1 rgo.rf (fun j j1 j2 => by rw [ha j (by omega)]), a10, a11, fun i hi => ?_, a13⟩
  · show re n q vl _ (if i = j + 2 then e else Es i)
    rw [if_neg (by omega), ha 13 (by decide)]
    exact a7 i hi
  · show re n q vl _ (if i + 2 = j + 2 then e else Es (i + 2))
    by_cases c : i = j
    · subst c
      rw [if_pos rfl]
      exact h1
    · rw [if_neg (by omega)]
      exact (a8 i hi).cg (fun k hk => h2 _ (by omega))
  · dsimp only
    by_cases c : i = j + 2
    · rw [if_pos c]
      exact hm
    · rw [if_neg c]
      exact a12 i hi
/-- a term is given -/
theorem mo_I.gv {sc sc' : Nat → Int32} {ar ar' : Nat → Nat → Int32} {n dr t v : Nat} {q : Nat → rq} {vl : Nat → Nat} {gv kn : Nat → Bool} {od : Bool} {Es : Nat → sp_E} {W : List sp_W} {G : Nat → Prop} (h : mo_I sc ar n q vl dr gv kn od Es W G) (ht : t < n) (h4 : (q t).1 ≤ 4) (hv : vl t = v) (hs : ∀ i, i ≠ 1 → i ≠ 6 → sc' i = sc i) (ha : ∀ i, i ≠ 4 → i ≠ 15 → ar' i = ar i) (hg : ∀ x, x < 20000 → ar' 4 x = b2i (lrn gv t x)) (ho : sc' 1 = 1 ∨ (sc' 1 = sc 1 ∧ (t = 0 ∨ gv t = true))) : ∃ od', mo_I sc' ar' n q vl dr (lrn gv t) kn od' Es W (fun w => G w ∨ (v ≠ 0 ∧ w = v)) := by
  have hfr := h.fr
  obtain ⟨a1, a2, a3, a4, a5, a6, a7, a8, a9, a10, a11, a12, a13⟩ := h
  have n2 := a1.1.2.2.1
  have hp : rp sc' ar' n q vl dr := by
    obtain ⟨⟨c1, c2, c3, c4, c5, tb, c6, c7⟩, d2, d3, d4, d5⟩ := a1
    refine ⟨⟨(hs 0 (by decide) (by decide)).trans c1, c2, c3, fun t t1 t2 => by rw [ha 0 (by omega) (by omega), ha 1 (by omega) (by omega), ha 2 (by omega) (by omega), ha 3 (by omega) (by omega)]; exact c4 t t1 t2, c5, tb, fun k hk => by rw [ha 6 (by omega) (by omega)]; exact c6 k hk, c7⟩, d2, (hs 2 (by decide) (by decide)).trans d3, d4, fun x x1 x2 => ?_⟩
    rw [ha 5 (by omega) (by omega)]
    refine ⟨?_, (d5 x x1 x2).2⟩
    rw [hg x x2]
    have e : lrn gv t x = false := by
      unfold lrn
      by_cases c : t = 0
      · rw [if_pos c]; exact (hfr x x1 x2).1
      · rw [if_neg c, va_up_ne _ _ (by omega)]; exact (hfr x x1 x2).1
    rw [e]
    rfl
  have key : ∀ od' : Bool, sc' 1 = b2i od' → (od' = true ∨ (od' = od ∧ (t = 0 ∨ gv t = true))) → mo_I sc' ar' n q vl dr (lrn gv t) kn od' Es W (fun w => G w ∨ (v ≠ 0 ∧ w = v)) := fun od' e1 e2 => ⟨hp, hg, by rw [ha 5 (by decide) (by decide)]; exact a3, e1, ⟨by rw [hs 3 (by decide) (by decide)]; exact a5.1, by rw [hs 4 (by decide) (by decide)]; exact a5.2⟩, by rw [hs 5 (by decide) (by decide)]; exact a6, by rw [ha 13 (by decide) (by decide)]; exact a7, by rw [ha 14 (by decide) (by decide)]; exact a8, fun i w hw => (a9 i w hw).go a1.2.1 rgo.rf (fun j j1 j2 => by rw [ha j (by omega) (by omega)]), a10.gv a1.2.1 ht h4 hv e2, a11, a12, a13⟩
  rcases ho with ho | ho
  · exact ⟨true, key true ho (Or.inl rfl)⟩
  · exact ⟨od, key od (by rw [ho.1]; exact a4) (Or.inr ⟨rfl, ho.2⟩)⟩
/-- the reference's part of a heap -/
def mo_P (n dr : Nat) (Es : Nat → sp_E) (W : List sp_W) (G : Nat → Prop) (sc : Nat → Int32) (ar : Nat → Nat → Int32) : Prop := ∃ q vl gv kn od, mo_I sc ar n q vl dr gv kn od Es W G
theorem sp_tk1 {ro mi th sd st bf rc nx s0 ix bw k ky le : Nat} {lf : List (Nat × Nat × Nat)} (h : (kf k ix bw mi (ro, th, sd, rc, nx, lf)).2 = none) : (sp_tk (ro, mi, th, sd, st, bf, rc, nx, lf) (s0, ix, bw, k, ky, le)).2 = (-13, (ro, mi, th, sd, st, bf, rc, nx, lf)) := by
  unfold sp_tk
  dsimp only
  generalize kf k ix bw mi (ro, th, sd, rc, nx, lf) = z at h
  obtain ⟨vs, o⟩ := z
  have h : o = none := h
  subst h
  rfl
theorem sp_tk2 {ro mi th sd st bf rc nx s0 ix bw k ky le key ro' th' sd' rc' nx' : Nat} {lf lf' : List (Nat × Nat × Nat)} (h : (kf k ix bw mi (ro, th, sd, rc, nx, lf)).2 = some (key, ro', th', sd', rc', nx', lf')) (hk : key = ky) : (sp_tk (ro, mi, th, sd, st, bf, rc, nx, lf) (s0, ix, bw, k, ky, le)).2 = (1, (ro', mi, th', sd', st, bf, rc', nx', lf')) := by
  unfold sp_tk
  dsimp only
  generalize kf k ix bw mi (ro, th, sd, rc, nx, lf) = z at h
  obtain ⟨vs, o⟩ := z
  have h : o = some (key, ro', th', sd', rc', nx', lf') := h
  subst h
  dsimp only
  rw [if_pos hk]
theorem sp_tk3 {ro mi th sd st bf rc nx s0 ix bw k ky le key ro' th' sd' rc' nx' : Nat} {lf lf' : List (Nat × Nat × Nat)} (h : (kf k ix bw mi (ro, th, sd, rc, nx, lf)).2 = some (key, ro', th', sd', rc', nx', lf')) (hk : ¬ key = ky) : (sp_tk (ro, mi, th, sd, st, bf, rc, nx, lf) (s0, ix, bw, k, ky, le)).2 = (-14, (ro, mi, th, sd, st, bf, rc, nx, lf)) := by
  unfold sp_tk
  dsimp only
  generalize kf k ix bw mi (ro, th, sd, rc, nx, lf) = z at h
  obtain ⟨vs, o⟩ := z
  have h : o = some (key, ro', th', sd', rc', nx', lf') := h
  subst h
  dsimp only
  rw [if_neg hk]
theorem if_id {j : Nat} {Es : Nat → sp_E} {e : sp_E} (h : Es j = e) : (fun i => if i = j then e else Es i) = Es := by
  funext i
  by_cases c : i = j
  · rw [if_pos c, c, h]
  · rw [if_neg c]
theorem rrow {n : Nat} {q : Nat → rq} {vl tb : Nat → Nat} (h : rh_I n q tb) (Q : rq) : ∃ v, ∀ t, 1 ≤ t → t < n → q t = Q → vl t = v := by
  by_cases c : ∃ t, 1 ≤ t ∧ t < n ∧ q t = Q
  · obtain ⟨t, t1, t2, t3⟩ := c
    exact ⟨vl t, fun u u1 u2 u3 => by rw [h.2.2.2 u t u1 u2 t1 t2 (u3.trans t3.symm)]⟩
  · exact ⟨0, fun t t1 t2 t3 => absurd ⟨t, t1, t2, t3⟩ c⟩
/-! two models side by side: a contract over the one leaves the other alone -/
def hm_un (M N : hm_M) : hm_M := fun a => if M a = none then N a else M a
def hm_dj (M N : hm_M) : Prop := ∀ a, M a = none ∨ N a = none
theorem hm_un_l {M N : hm_M} {a : Nat} {e : va_E} (h : M a = some e) : hm_un M N a = some e := by
  unfold hm_un
  rw [if_neg (by rw [h]; simp), h]
theorem hm_un_r {M N : hm_M} {a : Nat} (h : M a = none) : hm_un M N a = N a := if_pos h
theorem hm_dj.sy {M N : hm_M} (h : hm_dj M N) : hm_dj N M := fun a => (h a).symm
theorem hm_un_cm {M N : hm_M} (h : hm_dj M N) : hm_un M N = hm_un N M := by
  funext a
  rcases h a with c | c
  · rw [hm_un_r c]
    cases e : N a with
    | none => rw [hm_un_r e, c]
    | some x => rw [hm_un_l e]
  · rw [hm_un_r c]
    cases e : M a with
    | none => rw [hm_un_r e, c]
    | some x => rw [hm_un_l e]
theorem hm_ct.fr {l : Launch} {D : va_G} {BG : Nat → Option Cell} {y : MethodName} {cc : ByteArray} {maxL : Nat} {ret : Option FieldType} {fr lo mc ms : Nat} {av : List Value} {M : hm_M} {Post : Option Value → hm_M → Prop} (h : hm_ct l D BG y cc maxL ret fr lo mc ms av M Post) (N : hm_M) (hd : hm_dj M N) : hm_ct l D BG y cc maxL ret fr lo mc ms av (hm_un M N) (fun r M' => ∃ M1, Post r M1 ∧ hm_dj M1 N ∧ M' = hm_un M1 N) := by
  intro sz
  have sub : ∀ q, hm_A M sz q → hm_A (hm_un M N) sz q := by
    intro q hq
    rcases hq with hq | hq
    · refine Or.inl (fun z => hq ?_)
      unfold hm_un at z
      rw [if_neg hq] at z
      exact z
    · exact Or.inr hq
  refine MetFree.mono (h sz) ?_ (fun _ _ _ _ _ z => z) ?_
  · rintro a s ⟨e0, hsz, hP, hB, hdis, hN, hK⟩
    exact ⟨e0, hsz, fun b e hb => hP b e (hm_un_l hb), hB, fun q hq => hdis q (fun z => hq (by unfold hm_un at z; rw [if_neg hq] at z; exact z)), hN, hK⟩
  · rintro a s o t ⟨e0, hsz, hP, hB, hdis, hN, hK⟩ ⟨⟨⟨r, M1, h1, h2, h3, h4⟩, hF⟩, L, hL, hL2⟩
    have hnA : ∀ b e, N b = some e → ¬ hm_A M sz b ∧ b < sz := by
      intro b e hb
      have hm : M b = none := by
        rcases hd b with c | c
        · exact c
        · rw [hb] at c; cases c
      have hlt := (hP b e (by rw [hm_un_r hm]; exact hb)).lt
      rw [hsz] at hlt
      refine ⟨fun z => ?_, hlt⟩
      rcases z with z | z
      · exact z hm
      · omega
    have hdj : hm_dj M1 N := by
      intro b
      cases e : N b with
      | none => exact Or.inr rfl
      | some x =>
        left
        cases e1 : M1 b with
        | none => rfl
        | some y => exact absurd (h4 b y e1) (hnA b x e).1
    refine ⟨⟨⟨r, hm_un M1 N, h1, ⟨M1, h2, hdj, rfl⟩, fun b e hb => ?_, fun b e hb => ?_⟩, ⟨hF.1, fun q hq hn => hF.2 q hq (fun z => hn (sub q z))⟩⟩, L, hL, fun q hq => sub _ (hL2 q hq)⟩
    · cases e1 : M1 b with
      | some y => rw [hm_un_l e1] at hb; injection hb with hb; rw [← hb]; exact h3 b _ e1
      | none =>
        rw [hm_un_r e1] at hb
        have hb2 := hnA b e hb
        have hm : M b = none := by
          rcases hd b with c | c
          · exact c
          · rw [hb] at c; cases c
        exact (hP b e (by rw [hm_un_r hm]; exact hb)).kept (hF.2 b (by rw [hsz]; exact hb2.2) hb2.1)
    · cases e1 : M1 b with
      | some y => exact sub b (h4 b y e1)
      | none =>
        rw [hm_un_r e1] at hb
        refine Or.inl (fun z => ?_)
        have hm : M b = none := by
          rcases hd b with c | c
          · exact c
          · rw [hb] at c; cases c
        rw [hm_un_r hm, hb] at z
        cases z
theorem hm_ct.fr2 {l : Launch} {D : va_G} {BG : Nat → Option Cell} {y : MethodName} {cc : ByteArray} {maxL : Nat} {ret : Option FieldType} {fr lo mc ms : Nat} {av : List Value} {M : hm_M} {Post : Option Value → hm_M → Prop} (h : hm_ct l D BG y cc maxL ret fr lo mc ms av M Post) (N : hm_M) (hd : hm_dj N M) : hm_ct l D BG y cc maxL ret fr lo mc ms av (hm_un N M) (fun r M' => ∃ M1, Post r M1 ∧ hm_dj N M1 ∧ M' = hm_un N M1) := by
  rw [hm_un_cm hd]
  refine (h.fr N hd.sy).mono (fun r M' z => ?_)
  obtain ⟨M1, z1, z2, z3⟩ := z
  exact ⟨M1, z1, z2.sy, by rw [z3, hm_un_cm z2]⟩
