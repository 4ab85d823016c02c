theorem sm_mono {d e : Nat} (h : d < e) : sm_t 0 d 0 < sm_t 0 e 0 := by
  have h1 : 2 ^ d < 2 ^ e := Nat.pow_lt_pow_right (by omega) h
  unfold sm_t sm_pr
  simp only [Nat.pow_zero, Nat.mul_zero, Nat.zero_add, Nat.mul_one, Nat.one_mul]
  omega
/-! PURE: the table of terms (places, kinds, parts, users, publics, marks, values) -/
def tt_g : Option Nat → Option Nat → Option Nat
  | none, b => b
  | some a, none => some a
  | some a, some b => if b < a then some a else some b
def tt_l (kd : Nat → Nat) (lf rt : Nat → Option Nat) (p : Nat) : Nat → Option Nat
  | 0 => none
  | m + 1 => if 2 ≤ kd m ∧ tt_g (lf m) (rt m) = some p then some m else tt_l kd lf rt p m
theorem tt_l_some {kd : Nat → Nat} {lf rt : Nat → Option Nat} {p : Nat} : ∀ {m i : Nat}, tt_l kd lf rt p m = some i → i < m ∧ 2 ≤ kd i ∧ tt_g (lf i) (rt i) = some p
  | 0, i, h => by cases h
  | m + 1, i, h => by
    unfold tt_l at h
    by_cases c : 2 ≤ kd m ∧ tt_g (lf m) (rt m) = some p
    · rw [if_pos c] at h
      cases h
      exact ⟨Nat.lt_succ_self _, c⟩
    · rw [if_neg c] at h
      obtain ⟨h1, h2⟩ := tt_l_some h
      exact ⟨Nat.lt_succ_of_lt h1, h2⟩
theorem tt_l_max {kd : Nat → Nat} {lf rt : Nat → Option Nat} {p : Nat} : ∀ {m i : Nat}, i < m → 2 ≤ kd i → tt_g (lf i) (rt i) = some p → ∃ j, tt_l kd lf rt p m = some j ∧ i ≤ j
  | 0, i, h, _, _ => by omega
  | m + 1, i, h, h2, h3 => by
    unfold tt_l
    by_cases c : 2 ≤ kd m ∧ tt_g (lf m) (rt m) = some p
    · rw [if_pos c]
      exact ⟨m, rfl, by omega⟩
    · rw [if_neg c]
      by_cases e : i = m
      · subst e
        exact absurd ⟨h2, h3⟩ c
      · exact tt_l_max (by omega) h2 h3
theorem tt_l_congr {kd kd' : Nat → Nat} {lf rt lf' rt' : Nat → Option Nat} {p : Nat} : ∀ {m : Nat}, (∀ i, i < m → kd' i = kd i ∧ lf' i = lf i ∧ rt' i = rt i) → tt_l kd' lf' rt' p m = tt_l kd lf rt p m
  | 0, _ => rfl
  | m + 1, h => by
    unfold tt_l
    obtain ⟨e1, e2, e3⟩ := h m (Nat.lt_succ_self m)
    rw [e1, e2, e3, tt_l_congr (fun i hi => h i (Nat.lt_succ_of_lt hi))]
/-- what lies between an index and the next one of the chain uses p never -/
theorem tt_l_gap {kd : Nat → Nat} {lf rt : Nat → Option Nat} {p m i : Nat} (hi : i < m) (h2 : 2 ≤ kd i) (h3 : tt_g (lf i) (rt i) = some p) : ∃ j, tt_l kd lf rt p m = some j ∧ i ≤ j := tt_l_max hi h2 h3
def tt_vo (vl : Nat → Nat) : Option Nat → Nat
  | none => 0
  | some j => vl j
def tt_W (n : Nat) (kd : Nat → Nat) (lf rt : Nat → Option Nat) : Prop := ∀ i, i < n → kd i ≤ 7 ∧ (∀ j, lf i = some j → j < i) ∧ (∀ j, rt i = some j → j < i)
def tt_K (n : Nat) (kd : Nat → Nat) (lf rt pb : Nat → Option Nat) : Prop := ∀ i, i < n → (kd i = 0 → lf i = none ∧ rt i = none) ∧ (kd i = 1 → rt i = none ∧ ∃ j, lf i = some j ∧ kd j = 0 ∧ pb j = some i) ∧ (kd i = 2 → ∃ a b x y, lf i = some a ∧ rt i = some b ∧ kd a = 0 ∧ kd b = 0 ∧ pb a = some x ∧ x < i ∧ pb b = some y ∧ y < i) ∧ (2 ≤ kd i → tt_g (lf i) (rt i) ≠ none) ∧ (kd i = 3 → ∃ j, rt i = some j ∧ i ≤ j + 4 ∧ kd j = 0) ∧ (∀ j, pb i = some j → i < j ∧ j < n ∧ kd j = 1 ∧ lf j = some i)
def tt_U (n : Nat) (kd : Nat → Nat) (lf rt er lu : Nat → Option Nat) : Prop := ∀ i, i < n → lu i = tt_l kd lf rt i n ∧ er i = if 2 ≤ kd i then (tt_g (lf i) (rt i)).bind (fun p => tt_l kd lf rt p i) else none
def tt_V (n dr : Nat) (kd : Nat → Nat) (lf rt : Nat → Option Nat) (vl : Nat → Nat) : Prop := (∀ i, i < n → kd i ≠ 0 → vl i = sm_t (kd i) (tt_vo vl (lf i)) (tt_vo vl (rt i))) ∧ (∀ i, i < n → kd i = 0 → ∃ d, 1 ≤ d ∧ d ≤ dr ∧ vl i = sm_t 0 d 0) ∧ (∀ i j, i < j → j < n → kd i = 0 → kd j = 0 → vl i < vl j) ∧ (∀ i j, i < n → j < n → vl i = vl j → i = j)
def tt_d (dv : Nat → Bool) (r : Option Nat) : Prop := ∀ j, r = some j → dv j = true
def tt_s (pb : Nat → Option Nat) (dv : Nat → Bool) (a b : Option Nat) : Prop := ∃ x y p, a = some x ∧ b = some y ∧ dv x = true ∧ pb y = some p ∧ dv p = true
def tt_m (kd : Nat → Nat) (lf rt pb : Nat → Option Nat) (dv : Nat → Bool) (i : Nat) : Prop := kd i ≠ 0 ∧ ((kd i = 2 ∧ (tt_s pb dv (lf i) (rt i) ∨ tt_s pb dv (rt i) (lf i))) ∨ (kd i ≠ 2 ∧ tt_d dv (lf i) ∧ tt_d dv (rt i)))
def tt_G (n se : Nat) (G : Nat → Prop) (kd : Nat → Nat) (lf rt pb : Nat → Option Nat) (dv : Nat → Bool) (vl : Nat → Nat) : Prop := se ≤ n ∧ (∀ i, i < n → dv i = true → sm_dr G (vl i)) ∧ (∀ v, G v → ∃ i, i < n ∧ vl i = v ∧ dv i = true) ∧ (∀ i, i < se → tt_m kd lf rt pb dv i → dv i = true) ∧ (∀ i, i < se → kd i = 3 → dv i = true → tt_d dv (lf i) → tt_d dv (rt i))
/-- all of it -/
def tt_I (n dr se : Nat) (G : Nat → Prop) (kd : Nat → Nat) (lf rt er lu pb : Nat → Option Nat) (dv : Nat → Bool) (vl : Nat → Nat) : Prop := tt_W n kd lf rt ∧ tt_K n kd lf rt pb ∧ tt_U n kd lf rt er lu ∧ tt_V n dr kd lf rt vl ∧ tt_G n se G kd lf rt pb dv vl
theorem tt_vo_up {vl : Nat → Nat} {n v : Nat} {r : Option Nat} (h : ∀ j, r = some j → j < n) : tt_vo (va_up vl n v) r = tt_vo vl r := by
  cases r with
  | none => rfl
  | some j => exact va_up_ne _ _ (Nat.ne_of_lt (h j rfl))
/-- one more term: kind k, parts a and b -/
def tt_pb (pb : Nat → Option Nat) (n k : Nat) (a : Option Nat) : Nat → Option Nat := fun i => if i = n then none else if k = 1 ∧ a = some i then some n else pb i
def tt_lu (lu : Nat → Option Nat) (n k : Nat) (a b : Option Nat) : Nat → Option Nat := fun i => if i = n then none else if 2 ≤ k ∧ tt_g a b = some i then some n else lu i
def tt_er (er lu : Nat → Option Nat) (n k : Nat) (a b : Option Nat) : Nat → Option Nat := va_up er n (if 2 ≤ k then (tt_g a b).bind lu else none)
/-- what a new term must keep -/
def tt_ok (n dr dr' : Nat) (kd : Nat → Nat) (pb : Nat → Option Nat) (vl : Nat → Nat) (k : Nat) (a b : Option Nat) (v : Nat) : Prop :=
  k ≤ 7 ∧ (∀ j, a = some j → j < n) ∧ (∀ j, b = some j → j < n) ∧ (∀ i, i < n → vl i ≠ v) ∧
  (k = 0 → a = none ∧ b = none ∧ dr' = dr + 1 ∧ v = sm_t 0 (dr + 1) 0) ∧ (k ≠ 0 → dr' = dr ∧ v = sm_t k (tt_vo vl a) (tt_vo vl b)) ∧
  (k = 1 → b = none ∧ ∃ j, a = some j ∧ kd j = 0 ∧ pb j = none) ∧ (k = 2 → ∃ c d x y, a = some c ∧ b = some d ∧ kd c = 0 ∧ kd d = 0 ∧ pb c = some x ∧ pb d = some y) ∧ (2 ≤ k → tt_g a b ≠ none) ∧ (k = 3 → ∃ j, b = some j ∧ n ≤ j + 4 ∧ kd j = 0)
theorem tt_g_lt {a b : Option Nat} {n p : Nat} (ha : ∀ j, a = some j → j < n) (hb : ∀ j, b = some j → j < n) (h : tt_g a b = some p) : p < n := by
  cases a with
  | none => exact hb p h
  | some x =>
    cases b with
    | none => exact ha p h
    | some y =>
      have h' : (if y < x then some x else some y) = some p := h
      by_cases c : y < x
      · rw [if_pos c] at h'
        exact ha p h'
      · rw [if_neg c] at h'
        exact hb p h'
theorem tt_add {n dr dr' se : Nat} {G : Nat → Prop} {kd : Nat → Nat} {lf rt er lu pb : Nat → Option Nat} {dv : Nat → Bool} {vl : Nat → Nat} {k : Nat} {a b : Option Nat} {v : Nat} (h : tt_I n dr se G kd lf rt er lu pb dv vl) (ok : tt_ok n dr dr' kd pb vl k a b v) :
    tt_I (n + 1) dr' se G (va_up kd n k) (va_up lf n a) (va_up rt n b) (tt_er er lu n k a b) (tt_lu lu n k a b) (tt_pb pb n k a) (va_up dv n false) (va_up vl n v) := by
  obtain ⟨hW, hKk, hU, hV, hG⟩ := h
  obtain ⟨k7, la, lb, hnew, k0, kn0, k1, k2, kg, k3⟩ := ok
  have up : ∀ {α : Type} (f : Nat → α) (x : α) {i : Nat}, i < n → va_up f n x i = f i := fun {α} f x {i} hi => va_up_ne f x (Nat.ne_of_lt hi)
  have se1 : ∀ {α : Type} (f : Nat → α) (x : α), va_up f n x n = x := fun {α} f x => va_up_self f n x
  have pbe : ∀ i, i < n → ∀ j, tt_pb pb n k a i = some j → (pb i = some j ∧ j < n) ∨ (j = n ∧ k = 1 ∧ a = some i) := by
    intro i hi j hj
    unfold tt_pb at hj
    rw [if_neg (Nat.ne_of_lt hi)] at hj
    split at hj
    · rename_i c
      cases hj
      exact Or.inr ⟨rfl, c⟩
    · exact Or.inl ⟨hj, ((hKk i hi).2.2.2.2.2 j hj).2.1⟩
  have pbk : ∀ i, i < n → ∀ j, pb i = some j → tt_pb pb n k a i = some j := by
    intro i hi j hj
    unfold tt_pb
    rw [if_neg (Nat.ne_of_lt hi)]
    split
    · rename_i c
      obtain ⟨-, j2, e1, -, e3⟩ := k1 c.1
      rw [c.2] at e1
      cases e1
      rw [hj] at e3
      cases e3
    · exact hj
  refine ⟨?_, ?_, ?_, ?_, ?_⟩
  · intro i hi
    by_cases e : i = n
    · subst e
      rw [se1, se1, se1]
      exact ⟨k7, la, lb⟩
    · rw [up _ _ (by omega), up _ _ (by omega), up _ _ (by omega)]
      exact hW i (by omega)
  · intro i hi
    by_cases e : i = n
    · subst e
      rw [se1, se1, se1]
      refine ⟨fun c => ⟨(k0 c).1, (k0 c).2.1⟩, fun c => ?_, fun c => ?_, kg, fun c => (by obtain ⟨j, e1, e2, e3⟩ := k3 c; exact ⟨j, e1, e2, by rw [up _ _ (lb j e1)]; exact e3⟩), fun j hj => ?_⟩
      · obtain ⟨e1, j, e2, e3, e4⟩ := k1 c
        have hj := la j e2
        refine ⟨e1, j, e2, by rw [up _ _ hj]; exact e3, ?_⟩
        unfold tt_pb
        rw [if_neg (Nat.ne_of_lt hj), if_pos ⟨c, e2⟩]
      · obtain ⟨c1, d1, x, y, e1, e2, e3, e4, e5, e6⟩ := k2 c
        have h1 := la c1 e1
        have h2 := lb d1 e2
        exact ⟨c1, d1, x, y, e1, e2, by rw [up _ _ h1]; exact e3, by rw [up _ _ h2]; exact e4, pbk _ h1 _ e5, ((hKk c1 h1).2.2.2.2.2 x e5).2.1, pbk _ h2 _ e6, ((hKk d1 h2).2.2.2.2.2 y e6).2.1⟩
      · unfold tt_pb at hj
        rw [if_pos rfl] at hj
        cases hj
    · have hi' : i < n := by omega
      obtain ⟨q0, q1, q2, qg, q3, qp⟩ := hKk i hi'
      obtain ⟨-, wl, wr⟩ := hW i hi'
      rw [up _ _ hi', up _ _ hi', up _ _ hi']
      refine ⟨q0, fun c => ?_, fun c => ?_, qg, fun c => (by obtain ⟨j, e1, e2, e3⟩ := q3 c; exact ⟨j, e1, e2, by rw [up _ _ (Nat.lt_trans (wr j e1) hi')]; exact e3⟩), fun j hj => ?_⟩
      · obtain ⟨e1, j, e2, e3, e4⟩ := q1 c
        have hj : j < n := Nat.lt_trans (wl j e2) hi'
        exact ⟨e1, j, e2, by rw [up _ _ hj]; exact e3, pbk _ hj _ e4⟩
      · obtain ⟨c1, d1, x, y, e1, e2, e3, e4, e5, e6, e7, e8⟩ := q2 c
        have h1 : c1 < n := Nat.lt_trans (wl c1 e1) hi'
        have h2 : d1 < n := Nat.lt_trans (wr d1 e2) hi'
        exact ⟨c1, d1, x, y, e1, e2, by rw [up _ _ h1]; exact e3, by rw [up _ _ h2]; exact e4, pbk _ h1 _ e5, e6, pbk _ h2 _ e7, e8⟩
      · rcases pbe i hi' j hj with ⟨e1, e2⟩ | ⟨e1, e2, e3⟩
        · obtain ⟨p1, p2, p3, p4⟩ := qp j e1
          exact ⟨p1, by omega, by rw [up _ _ p2]; exact p3, by rw [up _ _ p2]; exact p4⟩
        · subst e1
          exact ⟨hi', by omega, by rw [se1]; exact e2, by rw [se1]; exact e3⟩
  · intro i hi
    have cg : ∀ m, m ≤ n → ∀ p, tt_l (va_up kd n k) (va_up lf n a) (va_up rt n b) p m = tt_l kd lf rt p m := fun m hm p => tt_l_congr (fun j hj => ⟨up _ _ (by omega), up _ _ (by omega), up _ _ (by omega)⟩)
    have top : ∀ p, tt_l (va_up kd n k) (va_up lf n a) (va_up rt n b) p (n + 1) = if 2 ≤ k ∧ tt_g a b = some p then some n else tt_l kd lf rt p n := by
      intro p
      show (if 2 ≤ va_up kd n k n ∧ tt_g (va_up lf n a n) (va_up rt n b n) = some p then some n else tt_l (va_up kd n k) (va_up lf n a) (va_up rt n b) p n) = _
      rw [se1, se1, se1, cg n (Nat.le_refl n)]
    by_cases e : i = n
    · subst e
      have nol : tt_l kd lf rt i i = none := by
        cases hl : tt_l kd lf rt i i with
        | none => rfl
        | some j =>
          obtain ⟨h1, h2, h3⟩ := tt_l_some hl
          exact absurd (tt_g_lt (n := i) (fun x hx => Nat.lt_trans ((hW j h1).2.1 x hx) h1) (fun x hx => Nat.lt_trans ((hW j h1).2.2 x hx) h1) h3) (Nat.lt_irrefl _)
      refine ⟨?_, ?_⟩
      · rw [top]
        have ng : ¬ (2 ≤ k ∧ tt_g a b = some i) := fun c => absurd (tt_g_lt la lb c.2) (Nat.lt_irrefl _)
        rw [if_neg ng, nol]
        unfold tt_lu
        rw [if_pos rfl]
      · unfold tt_er
        rw [se1, se1, se1, se1]
        by_cases c : 2 ≤ k
        · rw [if_pos c, if_pos c]
          cases hg : tt_g a b with
          | none => rfl
          | some p =>
            show lu p = tt_l _ _ _ p i
            rw [cg i (Nat.le_refl _)]
            exact (hU p (tt_g_lt la lb hg)).1
        · rw [if_neg c, if_neg c]
    · have hi' : i < n := by omega
      obtain ⟨u1, u2⟩ := hU i hi'
      refine ⟨?_, ?_⟩
      · rw [top]
        unfold tt_lu
        rw [if_neg e]
        split
        · rfl
        · exact u1
      · unfold tt_er
        rw [up _ _ hi', up _ _ hi', up _ _ hi', up _ _ hi', u2]
        by_cases c : 2 ≤ kd i
        · rw [if_pos c, if_pos c]
          cases hg : tt_g (lf i) (rt i) with
          | none => rfl
          | some p =>
            show tt_l kd lf rt p i = tt_l _ _ _ p i
            rw [cg i (by omega)]
        · rw [if_neg c, if_neg c]
  · obtain ⟨v1, v0, vm, vu⟩ := hV
    have hd : dr ≤ dr' := by
      by_cases c : k = 0
      · rw [(k0 c).2.2.1]; omega
      · rw [(kn0 c).1]; exact Nat.le_refl _
    refine ⟨fun i hi c => ?_, fun i hi c => ?_, fun i j hij hj c1 c2 => ?_, fun i j hi hj hv => ?_⟩
    · by_cases e : i = n
      · subst e
        rw [se1] at c
        rw [se1, se1, se1, se1, tt_vo_up la, tt_vo_up lb]
        exact (kn0 c).2
      · have hi' : i < n := by omega
        rw [up _ _ hi'] at c
        obtain ⟨-, wl, wr⟩ := hW i hi'
        rw [up _ _ hi', up _ _ hi', up _ _ hi', up _ _ hi', tt_vo_up (fun j h => Nat.lt_trans (wl j h) hi'), tt_vo_up (fun j h => Nat.lt_trans (wr j h) hi')]
        exact v1 i hi' c
    · by_cases e : i = n
      · subst e
        rw [se1] at c
        obtain ⟨-, -, e3, e4⟩ := k0 c
        exact ⟨dr + 1, by omega, by omega, by rw [se1]; exact e4⟩
      · have hi' : i < n := by omega
        rw [up _ _ hi'] at c
        obtain ⟨d, d1, d2, d3⟩ := v0 i hi' c
        exact ⟨d, d1, by omega, by rw [up _ _ hi']; exact d3⟩
    · have hi' : i < n := by omega
      rw [up _ _ hi'] at c1
      rw [up _ _ hi']
      by_cases e : j = n
      · subst e
        rw [se1] at c2
        rw [se1, (k0 c2).2.2.2]
        obtain ⟨d, d1, d2, d3⟩ := v0 i hi' c1
        rw [d3]
        exact sm_mono (by omega)
      · rw [up _ _ (show j < n by omega)] at c2 ⊢
        exact vm i j hij (by omega) c1 c2
    · by_cases e1 : i = n
      · by_cases e2 : j = n
        · rw [e1, e2]
        · exfalso
          rw [e1, se1, up _ _ (show j < n by omega)] at hv
          exact hnew j (by omega) hv.symm
      · by_cases e2 : j = n
        · exfalso
          rw [e2, se1, up _ _ (show i < n by omega)] at hv
          exact hnew i (by omega) hv
        · rw [up _ _ (show i < n by omega), up _ _ (show j < n by omega)] at hv
          exact vu i j (by omega) (by omega) hv
  · obtain ⟨gs, g1, g2, g3, g4⟩ := hG
    have dk : ∀ {r : Option Nat}, (∀ j, r = some j → j < n) → (tt_d (va_up dv n false) r ↔ tt_d dv r) := by
      intro r hr
      constructor
      · intro h j hj
        have := h j hj
        rwa [up _ _ (hr j hj)] at this
      · intro h j hj
        rw [up _ _ (hr j hj)]
        exact h j hj
    have sk : ∀ {x y : Option Nat}, (∀ j, x = some j → j < n) → (∀ j, y = some j → j < n) → tt_s (tt_pb pb n k a) (va_up dv n false) x y → tt_s pb dv x y := by
      intro x y hx hy h
      obtain ⟨c, d, p, e1, e2, e3, e4, e5⟩ := h
      rw [up _ _ (hx c e1)] at e3
      rcases pbe d (hy d e2) p e4 with ⟨f1, f2⟩ | ⟨f1, -⟩
      · rw [up _ _ f2] at e5
        exact ⟨c, d, p, e1, e2, e3, f1, e5⟩
      · rw [f1, se1] at e5
        cases e5
    refine ⟨by omega, fun i hi c => ?_, fun w hw => ?_, fun i hi c => ?_, fun i hi c c2 c3 => ?_⟩
    · by_cases e : i = n
      · rw [e, se1] at c
        cases c
      · rw [up _ _ (show i < n by omega)] at c ⊢
        exact g1 i (by omega) c
    · obtain ⟨i, i1, i2, i3⟩ := g2 w hw
      exact ⟨i, by omega, by rw [up _ _ i1]; exact i2, by rw [up _ _ i1]; exact i3⟩
    · have hi' : i < n := by omega
      obtain ⟨-, wl, wr⟩ := hW i hi'
      have hl : ∀ j, lf i = some j → j < n := fun j h => Nat.lt_trans (wl j h) hi'
      have hr : ∀ j, rt i = some j → j < n := fun j h => Nat.lt_trans (wr j h) hi'
      rw [up _ _ hi']
      refine g3 i hi ?_
      unfold tt_m at c ⊢
      rw [up _ _ hi', up _ _ hi', up _ _ hi'] at c
      refine ⟨c.1, ?_⟩
      rcases c.2 with ⟨c1, c2⟩ | ⟨c1, c2, c3⟩
      · refine Or.inl ⟨c1, ?_⟩
        rcases c2 with c2 | c2
        · exact Or.inl (sk hl hr c2)
        · exact Or.inr (sk hr hl c2)
      · exact Or.inr ⟨c1, (dk hl).mp c2, (dk hr).mp c3⟩
    · have hi' : i < n := by omega
      obtain ⟨-, wl, wr⟩ := hW i hi'
      have hl : ∀ j, lf i = some j → j < n := fun j h => Nat.lt_trans (wl j h) hi'
      have hr : ∀ j, rt i = some j → j < n := fun j h => Nat.lt_trans (wr j h) hi'
      rw [up _ _ hi'] at c c2 c3 ⊢
      exact (dk hr).mpr (g4 i hi c c2 ((dk hl).mp c3))
