/-! PURE: marks -/
def tt_db (dv : Nat → Bool) : Option Nat → Bool
  | none => true
  | some j => dv j
def tt_sb (pb : Nat → Option Nat) (dv : Nat → Bool) : Option Nat → Option Nat → Bool
  | some x, some y => dv x && (match pb y with | some p => dv p | none => false)
  | _, _ => false
def tt_mb (kd : Nat → Nat) (lf rt pb : Nat → Option Nat) (dv : Nat → Bool) (i : Nat) : Bool := if kd i = 0 then false else if kd i = 2 then tt_sb pb dv (lf i) (rt i) || tt_sb pb dv (rt i) (lf i) else tt_db dv (lf i) && tt_db dv (rt i)
theorem tt_db_iff {dv : Nat → Bool} {r : Option Nat} : tt_db dv r = true ↔ tt_d dv r := by
  cases r with
  | none => exact ⟨fun _ j h => (by cases h), fun _ => rfl⟩
  | some j => exact ⟨fun h i e => (by cases e; exact h), fun h => h j rfl⟩
theorem tt_sb_iff {pb : Nat → Option Nat} {dv : Nat → Bool} {a b : Option Nat} : tt_sb pb dv a b = true ↔ tt_s pb dv a b := by
  cases a with
  | none => exact ⟨fun h => (by cases h), fun ⟨x, y, p, h, _⟩ => by cases h⟩
  | some x =>
    cases b with
    | none => exact ⟨fun h => (by cases h), fun ⟨x, y, p, _, h, _⟩ => by cases h⟩
    | some y =>
      unfold tt_s
      have e0 : tt_sb pb dv (some x) (some y) = (dv x && (match pb y with | some p => dv p | none => false)) := rfl
      rw [e0]
      cases hp : pb y with
      | none =>
        constructor
        · intro h
          simp at h
        · rintro ⟨x', y', p, e1, e2, e3, e4, e5⟩
          cases e1; cases e2
          rw [hp] at e4
          cases e4
      | some p =>
        constructor
        · intro h
          simp at h
          exact ⟨x, y, p, rfl, rfl, h.1, hp, h.2⟩
        · rintro ⟨x', y', p', e1, e2, e3, e4, e5⟩
          cases e1; cases e2
          rw [hp] at e4
          cases e4
          simp [e3, e5]
theorem tt_mb_iff {kd : Nat → Nat} {lf rt pb : Nat → Option Nat} {dv : Nat → Bool} {i : Nat} : tt_mb kd lf rt pb dv i = true ↔ tt_m kd lf rt pb dv i := by
  unfold tt_mb tt_m
  by_cases h0 : kd i = 0
  · rw [if_pos h0]
    exact ⟨fun h => (by cases h), fun h => absurd h0 h.1⟩
  · rw [if_neg h0]
    by_cases h2 : kd i = 2
    · rw [if_pos h2, Bool.or_eq_true, tt_sb_iff, tt_sb_iff]
      exact ⟨fun h => ⟨h0, Or.inl ⟨h2, h⟩⟩, fun h => h.2.elim (fun q => q.2) (fun q => absurd h2 q.1)⟩
    · rw [if_neg h2, Bool.and_eq_true, tt_db_iff, tt_db_iff]
      exact ⟨fun h => ⟨h0, Or.inr ⟨h2, h⟩⟩, fun h => h.2.elim (fun q => absurd q.1 h2) (fun q => q.2)⟩
theorem va_upT {dv : Nat → Bool} {i j : Nat} (h : dv j = true) : va_up dv i true j = true := by
  by_cases e : j = i
  · rw [e, va_up_self]
  · rw [va_up_ne _ _ e]; exact h
/-- a mark at i does not touch what is below i -/
theorem tt_d_lo {dv : Nat → Bool} {i j : Nat} {r : Option Nat} (hj : j ≤ i) (hr : ∀ x, r = some x → x < j) : tt_d (va_up dv i true) r ↔ tt_d dv r := by
  constructor
  · intro h x hx
    have := h x hx
    rwa [va_up_ne _ _ (by have := hr x hx; omega)] at this
  · intro h x hx
    exact va_upT (h x hx)
theorem tt_m_lo {n i j : Nat} {kd : Nat → Nat} {lf rt pb : Nat → Option Nat} {dv : Nat → Bool} (hW : tt_W n kd lf rt) (hKk : tt_K n kd lf rt pb) (hj : j < n) (hji : j ≤ i) : tt_m kd lf rt pb (va_up dv i true) j ↔ tt_m kd lf rt pb dv j := by
  obtain ⟨-, wl, wr⟩ := hW j hj
  have ds : ∀ {a b : Option Nat}, (∀ x, a = some x → x < j) → (∀ y, b = some y → ∀ p, pb y = some p → p < j) → (tt_s pb (va_up dv i true) a b ↔ tt_s pb dv a b) := by
    intro a b ha hb
    constructor
    · rintro ⟨x, y, p, e1, e2, e3, e4, e5⟩
      rw [va_up_ne _ _ (by have := ha x e1; omega)] at e3
      rw [va_up_ne _ _ (by have := hb y e2 p e4; omega)] at e5
      exact ⟨x, y, p, e1, e2, e3, e4, e5⟩
    · rintro ⟨x, y, p, e1, e2, e3, e4, e5⟩
      exact ⟨x, y, p, e1, e2, va_upT e3, e4, va_upT e5⟩
  unfold tt_m
  rw [tt_d_lo hji wl, tt_d_lo hji wr]
  by_cases h2 : kd j = 2
  · obtain ⟨a, b, x, y, e1, e2, -, -, e5, e6, e7, e8⟩ := (hKk j hj).2.2.1 h2
    have pa : ∀ z, lf j = some z → ∀ p, pb z = some p → p < j := by
      intro z hz p hp
      rw [e1] at hz
      cases hz
      rw [e5] at hp
      cases hp
      exact e6
    have pb' : ∀ z, rt j = some z → ∀ p, pb z = some p → p < j := by
      intro z hz p hp
      rw [e2] at hz
      cases hz
      rw [e7] at hp
      cases hp
      exact e8
    rw [ds wl pb', ds wr pa]
  · constructor
    · rintro ⟨h0, ⟨h, -⟩ | h⟩
      · exact absurd h h2
      · exact ⟨h0, Or.inr h⟩
    · rintro ⟨h0, ⟨h, -⟩ | h⟩
      · exact absurd h h2
      · exact ⟨h0, Or.inr h⟩
/-- a term is given -/
theorem tt_give {n dr se i : Nat} {G G' : Nat → Prop} {kd : Nat → Nat} {lf rt er lu pb : Nat → Option Nat} {dv : Nat → Bool} {vl : Nat → Nat} (h : tt_I n dr se G kd lf rt er lu pb dv vl) (hi : i < n) (h3 : kd i = 3 → se ≤ i) (hG : ∀ w, G w → G' w) (hG2 : ∀ w, G' w → G w ∨ w = vl i) (hd : sm_dr G' (vl i)) : tt_I n dr (min se (i + 1)) G' kd lf rt er lu pb (va_up dv i true) vl := by
  obtain ⟨hW, hKk, hU, hV, gs, g1, g2, g3, g4⟩ := h
  refine ⟨hW, hKk, hU, hV, by omega, fun j hj c => ?_, fun w hw => ?_, fun j hj c => ?_, fun j hj c c2 c3 => ?_⟩
  · by_cases e : j = i
    · rw [e]; exact hd
    · rw [va_up_ne _ _ e] at c
      exact sm_dr_mono hG (g1 j hj c)
  · rcases hG2 w hw with h | h
    · obtain ⟨j, j1, j2, j3⟩ := g2 w h
      exact ⟨j, j1, j2, va_upT j3⟩
    · exact ⟨i, hi, h.symm, va_up_self _ _ _⟩
  · have hjs : j < se := by omega
    have hji : j ≤ i := by omega
    exact va_upT (g3 j hjs ((tt_m_lo hW hKk (by omega) hji).mp c))
  · have hjs : j < se := by omega
    by_cases e : j = i
    · subst e
      have := h3 c
      omega
    · have hji : j ≤ i := by omega
      rw [va_up_ne _ _ e] at c2
      obtain ⟨-, wl, wr⟩ := hW j (by omega)
      exact (tt_d_lo hji wr).mpr (g4 j hjs c c2 ((tt_d_lo hji wl).mp c3))
theorem tt_giv0 {n dr se i : Nat} {G G' : Nat → Prop} {kd : Nat → Nat} {lf rt er lu pb : Nat → Option Nat} {dv : Nat → Bool} {vl : Nat → Nat} (h : tt_I n dr se G kd lf rt er lu pb dv vl) (hi : i < n) (hdv : dv i = true) (hG : ∀ w, G w → G' w) (hG2 : ∀ w, G' w → G w ∨ w = vl i) : tt_I n dr se G' kd lf rt er lu pb dv vl := by
  obtain ⟨hW, hKk, hU, hV, gs, g1, g2, g3, g4⟩ := h
  refine ⟨hW, hKk, hU, hV, gs, fun j hj c => sm_dr_mono hG (g1 j hj c), fun w hw => ?_, g3, g4⟩
  rcases hG2 w hw with h | h
  · exact g2 w h
  · exact ⟨i, hi, h.symm, hdv⟩
theorem tt_dr_d {n dr se : Nat} {G : Nat → Prop} {kd : Nat → Nat} {lf rt er lu pb : Nat → Option Nat} {dv : Nat → Bool} {vl : Nat → Nat} (h : tt_I n dr se G kd lf rt er lu pb dv vl) {r : Option Nat} (hr : ∀ j, r = some j → j < n) (hd : tt_d dv r) : sm_dr G (tt_vo vl r) := by
  cases r with
  | none => exact (sm_dr_mk G).1
  | some j => exact h.2.2.2.2.2.1 j (hr j rfl) (hd j rfl)
/-- what can be made of derived terms is derived -/
theorem tt_dr_m {n dr se i : Nat} {G : Nat → Prop} {kd : Nat → Nat} {lf rt er lu pb : Nat → Option Nat} {dv : Nat → Bool} {vl : Nat → Nat} (h : tt_I n dr se G kd lf rt er lu pb dv vl) (hi : i < n) (hm : tt_m kd lf rt pb dv i) : sm_dr G (vl i) := by
  obtain ⟨hW, hKk, hU, hV, hG⟩ := id h
  obtain ⟨-, wl, wr⟩ := hW i hi
  have hl : ∀ j, lf i = some j → j < n := fun j e => Nat.lt_trans (wl j e) hi
  have hr : ∀ j, rt i = some j → j < n := fun j e => Nat.lt_trans (wr j e) hi
  rw [hV.1 i hi hm.1]
  have mk := sm_dr_mk G
  rcases hm.2 with ⟨h2, hs⟩ | ⟨h2, hd1, hd2⟩
  · obtain ⟨a, b, x, y, e1, e2, ka, kb, e5, e6, e7, e8⟩ := (hKk i hi).2.2.1 h2
    have pv : ∀ {z p : Nat}, z < n → pb z = some p → dv p = true → sm_dr G (sm_t 1 (vl z) 0) := by
      intro z p hz hp hd
      obtain ⟨-, q1, q2, q3⟩ := (hKk z hz).2.2.2.2.2 p hp
      have := hG.2.1 p q1 hd
      rw [hV.1 p q1 (by omega), q2, q3, ((hKk p q1).2.1 q2).1] at this
      exact this
    rw [e1, e2, h2]
    rcases hs with ⟨x', y', p, f1, f2, f3, f4, f5⟩ | ⟨x', y', p, f1, f2, f3, f4, f5⟩
    · rw [e1] at f1; rw [e2] at f2
      cases f1; cases f2
      exact mk.2.2.1 _ _ (hG.2.1 a (hl a e1) f3) (pv (hr b e2) f4 f5)
    · rw [e2] at f1; rw [e1] at f2
      cases f1; cases f2
      exact mk.2.2.2.1 _ _ (hG.2.1 b (hr b e2) f3) (pv (hl a e1) f4 f5)
  · have d1 := tt_dr_d h hl hd1
    have d2 := tt_dr_d h hr hd2
    by_cases h1 : kd i = 1
    · rw [h1]
      have e := ((hKk i hi).2.1 h1).1
      rw [e]
      exact mk.2.1 _ d1
    · exact mk.2.2.2.2 _ _ _ (by have := hm.1; omega) d1 d2
/-- how many are not marked -/
def tt_n (dv : Nat → Bool) : Nat → Nat
  | 0 => 0
  | m + 1 => (if dv m = true then 0 else 1) + tt_n dv m
theorem tt_n_le (dv : Nat → Bool) : ∀ n, tt_n dv n ≤ n
  | 0 => Nat.le_refl _
  | m + 1 => by
    unfold tt_n
    have := tt_n_le dv m
    split <;> omega
theorem tt_n_same {dv : Nat → Bool} {i : Nat} : ∀ {n : Nat}, n ≤ i → tt_n (va_up dv i true) n = tt_n dv n
  | 0, _ => rfl
  | m + 1, h => by
    unfold tt_n
    rw [va_up_ne _ _ (by omega), tt_n_same (by omega)]
theorem tt_n_up {dv : Nat → Bool} {i : Nat} (hf : ¬ dv i = true) : ∀ {n : Nat}, i < n → tt_n (va_up dv i true) n + 1 = tt_n dv n
  | 0, h => by omega
  | m + 1, h => by
    unfold tt_n
    by_cases e : m = i
    · subst e
      rw [va_up_self, if_pos rfl, if_neg hf, tt_n_same (Nat.le_refl _)]
      omega
    · rw [va_up_ne _ _ e]
      have := tt_n_up hf (n := m) (by omega)
      omega
/-- the next term is tried: what can be made is marked -/
theorem tt_try {n dr se : Nat} {G : Nat → Prop} {kd : Nat → Nat} {lf rt er lu pb : Nat → Option Nat} {dv dv' : Nat → Bool} {vl : Nat → Nat} (h : tt_I n dr se G kd lf rt er lu pb dv vl) (hs : se < n) (hd : (¬ tt_m kd lf rt pb dv se ∧ dv' = dv) ∨ (tt_m kd lf rt pb dv se ∧ dv' = va_up dv se true)) : tt_I n dr se G kd lf rt er lu pb dv' vl ∧ (tt_m kd lf rt pb dv' se → dv' se = true) := by
  obtain ⟨hW, hKk, hU, hV, hG⟩ := id h
  rcases hd with ⟨hm, rfl⟩ | ⟨hm, rfl⟩
  · exact ⟨h, fun c => absurd c hm⟩
  · have hg := tt_give h hs (fun _ => Nat.le_refl _) (fun w q => q) (fun w q => Or.inl q) (tt_dr_m h hs hm)
    rw [Nat.min_eq_left (by omega)] at hg
    exact ⟨hg, fun _ => va_up_self _ _ _⟩
/-- nothing to open there: on to the next -/
theorem tt_on {n dr se : Nat} {G : Nat → Prop} {kd : Nat → Nat} {lf rt er lu pb : Nat → Option Nat} {dv : Nat → Bool} {vl : Nat → Nat} (h : tt_I n dr se G kd lf rt er lu pb dv vl) (hs : se < n) (h1 : tt_m kd lf rt pb dv se → dv se = true) (h2 : kd se = 3 → dv se = true → tt_d dv (lf se) → tt_d dv (rt se)) : tt_I n dr (se + 1) G kd lf rt er lu pb dv vl := by
  obtain ⟨hW, hKk, hU, hV, gs, g1, g2, g3, g4⟩ := h
  refine ⟨hW, hKk, hU, hV, by omega, g1, g2, fun j hj c => ?_, fun j hj c c2 c3 => ?_⟩
  · by_cases e : j = se
    · rw [e] at c ⊢; exact h1 c
    · exact g3 j (by omega) c
  · by_cases e : j = se
    · rw [e] at c c2 c3 ⊢; exact h2 c c2 c3
    · exact g4 j (by omega) c c2 c3
/-- all tried: the marks are just what is DERIVED -/
theorem tt_done {n dr : Nat} {G : Nat → Prop} {kd : Nat → Nat} {lf rt er lu pb : Nat → Option Nat} {dv : Nat → Bool} {vl : Nat → Nat} (h : tt_I n dr n G kd lf rt er lu pb dv vl) {i : Nat} (hi : i < n) : dv i = true ↔ sm_dr G (vl i) := by
  obtain ⟨hW, hKk, hU, hV, gs, g1, g2, g3, g4⟩ := h
  refine ⟨g1 i hi, fun hd => ?_⟩
  have k0 : ∀ {i k a b : Nat}, i < n → vl i = sm_t k a b → k ≠ 0 → kd i = k ∧ tt_vo vl (lf i) = a ∧ tt_vo vl (rt i) = b := by
    intro i k a b hi e hk
    have hk0 : kd i ≠ 0 := fun h => by
      obtain ⟨d, -, -, e9⟩ := hV.2.1 i hi h
      rw [e] at e9
      exact hk (sm_t_inj e9).1
    have e2 := hV.1 i hi hk0
    rw [e] at e2
    obtain ⟨f1, f2, f3⟩ := sm_t_inj e2
    exact ⟨f1.symm, f2.symm, f3.symm⟩
  have fl : ∀ {j : Nat}, j < n → (∃ i, i < n ∧ vl i = vl j ∧ dv i = true) → dv j = true := by
    rintro j hj ⟨i, i1, i2, i3⟩
    rw [← hV.2.2.2 i j i1 hj i2]; exact i3
  have fd : ∀ {r : Option Nat} {a : Nat}, (∀ j, r = some j → j < n) → tt_vo vl r = a → (a = 0 ∨ ∃ i, i < n ∧ vl i = a ∧ dv i = true) → tt_d dv r := by
    intro r a hr e q j hj
    subst hj
    have e2 : vl j = a := e
    rcases q with q | q
    · exact absurd (e2.trans q) (tt_pos hV (hr j rfl))
    · rw [← e2] at q
      exact fl (hr j rfl) q
  have lfn : ∀ {i : Nat}, i < n → ∀ j, lf i = some j → j < n := fun {i} hi j e => Nat.lt_trans ((hW i hi).2.1 j e) hi
  have rtn : ∀ {i : Nat}, i < n → ∀ j, rt i = some j → j < n := fun {i} hi j e => Nat.lt_trans ((hW i hi).2.2 j e) hi
  have vk : ∀ {r : Option Nat} {a : Nat}, (∀ j, r = some j → j < n) → tt_vo vl r = a → (a = 0 ∨ ∃ i, i < n ∧ vl i = a) := by
    intro r a hr e
    cases r with
    | none => exact Or.inl e.symm
    | some j => exact Or.inr ⟨j, hr j rfl, e⟩
  have pv : ∀ {z p : Nat}, z < n → pb z = some p → p < n ∧ vl p = sm_t 1 (vl z) 0 := by
    intro z p hz hp
    obtain ⟨-, q1, q2, q3⟩ := (hKk z hz).2.2.2.2.2 p hp
    refine ⟨q1, ?_⟩
    rw [hV.1 p q1 (by omega), q2, q3, ((hKk p q1).2.1 q2).1]
    rfl
  have tab : sm_tab (fun v => ∃ i, i < n ∧ vl i = v) (fun v => ∃ i, i < n ∧ vl i = v ∧ dv i = true) := by
    refine ⟨fun v ⟨i, h1, h2, h3⟩ => ⟨i, h1, h2⟩, fun k a b ⟨i, hi, e⟩ hk => ?_, fun s ⟨i, hi, e⟩ => ?_, fun s t ⟨i, hi, e⟩ => ?_, fun ⟨i, hi, e⟩ => tt_pos hV hi e, fun s ⟨i, hi, e⟩ hf => ?_, fun s t ⟨i, hi, e⟩ hf1 hf2 => ?_, fun s t ⟨i, hi, e⟩ hf1 hf2 => ?_, fun k a b ⟨i, hi, e⟩ hk ha hb => ?_, fun a b ⟨i, hi, e, hd⟩ ha => ?_⟩
    · obtain ⟨-, f2, f3⟩ := k0 hi e (by omega)
      exact ⟨vk (lfn hi) f2, vk (rtn hi) f3⟩
    · obtain ⟨f1, f2, f3⟩ := k0 hi e (by omega)
      obtain ⟨-, j, q1, -⟩ := (hKk i hi).2.1 f1
      rw [q1] at f2
      exact ⟨j, lfn hi j q1, f2⟩
    · obtain ⟨f1, f2, f3⟩ := k0 hi e (by omega)
      obtain ⟨a, b, x, y, q1, q2, -, -, q5, -, q7, -⟩ := (hKk i hi).2.2.1 f1
      rw [q1] at f2; rw [q2] at f3
      have f2 : vl a = s := f2
      have f3 : vl b = t := f3
      obtain ⟨p1, p2⟩ := pv (lfn hi a q1) q5
      obtain ⟨p3, p4⟩ := pv (rtn hi b q2) q7
      exact ⟨⟨a, lfn hi a q1, f2⟩, ⟨b, rtn hi b q2, f3⟩, ⟨x, p1, by rw [p2, f2]⟩, ⟨y, p3, by rw [p4, f3]⟩⟩
    · obtain ⟨f1, f2, f3⟩ := k0 hi e (by omega)
      refine ⟨i, hi, e, g3 i hi ⟨by omega, Or.inr ⟨by omega, fd (lfn hi) f2 (Or.inr hf), ?_⟩⟩⟩
      rw [((hKk i hi).2.1 f1).1]
      exact fun j h => by cases h
    · obtain ⟨f1, f2, f3⟩ := k0 hi e (by omega)
      obtain ⟨a, b, x, y, q1, q2, -, -, q5, -, q7, -⟩ := (hKk i hi).2.2.1 f1
      rw [q1] at f2; rw [q2] at f3
      have f2 : vl a = s := f2
      have f3 : vl b = t := f3
      obtain ⟨p3, p4⟩ := pv (rtn hi b q2) q7
      refine ⟨i, hi, e, g3 i hi ⟨by omega, Or.inl ⟨f1, Or.inl ⟨a, b, y, q1, q2, fl (lfn hi a q1) (by rw [f2]; exact hf1), q7, fl p3 (by rw [p4, f3]; exact hf2)⟩⟩⟩⟩
    · obtain ⟨f1, f2, f3⟩ := k0 hi e (by omega)
      obtain ⟨a, b, x, y, q1, q2, -, -, q5, -, q7, -⟩ := (hKk i hi).2.2.1 f1
      rw [q1] at f2; rw [q2] at f3
      have f2 : vl a = s := f2
      have f3 : vl b = t := f3
      obtain ⟨p1, p2⟩ := pv (lfn hi a q1) q5
      refine ⟨i, hi, e, g3 i hi ⟨by omega, Or.inl ⟨f1, Or.inr ⟨b, a, x, q2, q1, fl (rtn hi b q2) (by rw [f3]; exact hf1), q5, fl p1 (by rw [p2, f2]; exact hf2)⟩⟩⟩⟩
    · obtain ⟨f1, f2, f3⟩ := k0 hi e (by omega)
      exact ⟨i, hi, e, g3 i hi ⟨by omega, Or.inr ⟨by omega, fd (lfn hi) f2 ha, fd (rtn hi) f3 hb⟩⟩⟩
    · obtain ⟨f1, f2, f3⟩ := k0 hi e (by omega)
      have hr := g4 i hi f1 hd (fd (lfn hi) f2 ha)
      cases hrt : rt i with
      | none => rw [hrt] at f3; exact Or.inl f3.symm
      | some j =>
        rw [hrt] at f3
        exact Or.inr ⟨j, rtn hi j hrt, f3, hr j hrt⟩
  exact fl hi (sm_tab_dr tab (fun g hg => Or.inr (g2 g hg)) hd ⟨i, hi, rfl⟩)
