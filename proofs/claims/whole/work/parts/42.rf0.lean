section RFROWS
variable {X : hm_X} {l : Launch} {D : va_G} {BG : Nat → Option Cell} {cc : ByteArray} {own nm : String} {nL fr lo mc ms : Nat} {M : hm_M} {k n pc : Nat} {lv : List (Nat × Value)} {st : List Value}
theorem hm_iushr (C : hm_C X l D BG cc own nm nL fr lo mc ms) {x y : Int32} (hd : decode cc pc = .ok (.iushr, 1)) (kk : hm_W X M k n (pc + 1) lv (.int ((x.toUInt32 >>> (y.toUInt32 &&& Int32.toUInt32 31)).toInt32) :: st)) : hm_W X M k n pc lv (.int y :: .int x :: st) := by
  obtain ⟨p, l', e, R, s, m, args, below, meth, c, Q, D', BG', A⟩ := X
  obtain ⟨hx, hb, hown, hts, hnw, hK, hA, hBG, hR, hml, hnm, el, eD, eB⟩ := C
  intro H locs ls h1 h2 h3 h4 h5
  exact lv_iushr hx hb hd rfl (kk H locs ls h1 h2 h3 h4 h5)
theorem hm_i2b (C : hm_C X l D BG cc own nm nL fr lo mc ms) {x v : Int32} (hd : decode cc pc = .ok (.i2b, 1)) (hv : x.toInt8.toInt32 = v) (kk : hm_W X M k n (pc + 1) lv (.int v :: st)) : hm_W X M k n pc lv (.int x :: st) := by
  obtain ⟨p, l', e, R, s, m, args, below, meth, c, Q, D', BG', A⟩ := X
  obtain ⟨hx, hb, hown, hts, hnw, hK, hA, hBG, hR, hml, hnm, el, eD, eB⟩ := C
  intro H locs ls h1 h2 h3 h4 h5
  exact lv_i2b hx hb hd hv (kk H locs ls h1 h2 h3 h4 h5)
end RFROWS
/-- the reference's cells: the class of array i, its length, the object's fields, and the heap that holds just these -/
def rf_t (i : Nat) : Nat := if i = 0 then 4 else if i = 4 then 5 else if i = 5 then 5 else 3
def rf_n (i : Nat) : Nat := if i < 6 then 20000 else if i = 6 then 65536 else if i < 13 then 520 else if i < 15 then 66 else 33
def rf_f (A : Nat → Nat) (sc : Nat → Int32) : List Value := [.int (sc 0), .ref (A 0), .ref (A 1), .ref (A 2), .ref (A 3), .ref (A 4), .ref (A 5), .ref (A 6), .int (sc 1), .int (sc 2), .int (sc 3), .ref (A 7), .ref (A 8), .ref (A 9), .ref (A 10), .int (sc 4), .ref (A 11), .ref (A 12), .int (sc 5), .ref (A 13), .ref (A 14), .ref (A 15), .int (sc 6)]
def rf_ix (A : Nat → Nat) (q : Nat) : Nat → Option Nat
  | 0 => none
  | k + 1 => if q = A k then some k else rf_ix A q k
def rf_M (D : va_G) (m : Nat) (A : Nat → Nat) (sc : Nat → Int32) (ar : Nat → Nat → Int32) : hm_M := fun q => if q = m then some (hm_ob 7 (rf_f A sc)) else (rf_ix A q 16).map (fun i => hm_ai D (rf_t i) (rf_n i) (ar i))
def rf_ok (A : Nat → Nat) (m : Nat) : Prop := (∀ i j, i < 16 → j < 16 → A i = A j → i = j) ∧ ∀ i, i < 16 → A i ≠ m
theorem rf_ix_in {A : Nat → Nat} {i : Nat} : ∀ {k : Nat}, (∀ j, j < k → A i = A j → i = j) → i < k → rf_ix A (A i) k = some i
  | 0, _, h => by omega
  | k + 1, hA, h => by
    unfold rf_ix
    by_cases e : A i = A k
    · rw [if_pos e, hA k (by omega) e]
    · rw [if_neg e]
      have : i ≠ k := fun z => e (by rw [z])
      exact rf_ix_in (fun j hj => hA j (by omega)) (by omega)
theorem rf_ix_some {A : Nat → Nat} {q i : Nat} : ∀ {k : Nat}, rf_ix A q k = some i → i < k ∧ q = A i
  | 0, h => by cases h
  | k + 1, h => by
    unfold rf_ix at h
    by_cases e : q = A k
    · rw [if_pos e] at h
      injection h with h
      subst h
      exact ⟨by omega, e⟩
    · rw [if_neg e] at h
      have := rf_ix_some h
      exact ⟨by omega, this.2⟩
theorem rf_m {D : va_G} {m : Nat} {A : Nat → Nat} {sc : Nat → Int32} {ar : Nat → Nat → Int32} : rf_M D m A sc ar m = some (hm_ob 7 (rf_f A sc)) := if_pos rfl
theorem rf_at {D : va_G} {m : Nat} {A : Nat → Nat} {sc : Nat → Int32} {ar : Nat → Nat → Int32} (hA : rf_ok A m) {i : Nat} (hi : i < 16) : rf_M D m A sc ar (A i) = some (hm_ai D (rf_t i) (rf_n i) (ar i)) := by
  unfold rf_M
  rw [if_neg (hA.2 i hi), rf_ix_in (fun j hj => hA.1 i j hi hj) hi]
  rfl
theorem rf_up {D : va_G} {m : Nat} {A : Nat → Nat} {sc : Nat → Int32} {ar : Nat → Nat → Int32} (hA : rf_ok A m) {i : Nat} (hi : i < 16) (g : Nat → Int32) : hm_up (rf_M D m A sc ar) (A i) (hm_ai D (rf_t i) (rf_n i) g) = rf_M D m A sc (va_up ar i g) := by
  funext q
  by_cases h : q = A i
  · subst h
    rw [hm_up_s, rf_at hA hi, va_up_self]
  · rw [hm_up_n _ _ h]
    unfold rf_M
    by_cases hm : q = m
    · rw [if_pos hm, if_pos hm]
    · rw [if_neg hm, if_neg hm]
      cases hx : rf_ix A q 16 with
      | none => rfl
      | some j =>
        have hj := rf_ix_some hx
        have : j ≠ i := fun z => h (by rw [hj.2, z])
        show some (hm_ai D (rf_t j) (rf_n j) (ar j)) = some (hm_ai D (rf_t j) (rf_n j) (va_up ar i g j))
        rw [va_up_ne _ _ this]
theorem rf_pt {D : va_G} {m : Nat} {A : Nat → Nat} {sc sc' : Nat → Int32} {ar : Nat → Nat → Int32} : hm_up (rf_M D m A sc ar) m (hm_ob 7 (rf_f A sc')) = rf_M D m A sc' ar := by
  funext q
  by_cases h : q = m
  · subst h
    rw [hm_up_s]
    exact rf_m.symm
  · rw [hm_up_n _ _ h]
    unfold rf_M
    rw [if_neg h, if_neg h]
/-- hash table -/
abbrev rq : Type := Nat × Nat × Nat × Nat
def rh_y (h : Int32) : Int32 := h ^^^ (h.toUInt32 >>> ((15 : Int32).toUInt32 &&& Int32.toUInt32 31)).toInt32
def rh_x (s a b c : Int32) : Int32 := (((s * 31 + a) * (-1640531535)) ^^^ b) * (-2048144789) ^^^ (c * 668265263)
def rh_h (q : rq) : Nat := (rh_y (rh_x (nI q.1) (nI q.2.1) (nI q.2.2.1) (nI q.2.2.2))).toBitVec.toNat % 2 ^ 16
theorem rh_lt (q : rq) : rh_h q < 65536 := Nat.mod_lt _ (by decide)
def rh_I (n : Nat) (q : Nat → rq) (tb : Nat → Nat) : Prop :=
  (∀ k, k < 65536 → tb k < n) ∧ (∀ k k', k < 65536 → k' < 65536 → tb k = tb k' → tb k ≠ 0 → k = k') ∧
  (∀ t, 1 ≤ t → t < n → ∃ d, tb ((rh_h (q t) + d) % 65536) = t ∧ ∀ j, j < d → tb ((rh_h (q t) + j) % 65536) ≠ 0) ∧
  (∀ t t', 1 ≤ t → t < n → 1 ≤ t' → t' < n → q t = q t' → t = t')
theorem php : ∀ (n m : Nat) (f : Nat → Nat), (∀ i, i < m → f i < n) → (∀ i j, i < m → j < m → f i = f j → i = j) → m ≤ n
  | 0, m, f, h, _ => by
    rcases Nat.eq_zero_or_pos m with h0 | h0
    · omega
    · have := h 0 h0
      omega
  | n + 1, m, f, h, hi => by
    by_cases e : ∃ i, i < m ∧ f i = n
    · obtain ⟨i0, hi0, e0⟩ := e
      have h9 := php n (m - 1) (fun i => if i < i0 then f i else f (i + 1)) (fun i hm => by
        by_cases c : i < i0
        · simp only [if_pos c]
          have h1 := h i (by omega)
          have h2 : f i ≠ n := fun z => by have := hi i i0 (by omega) hi0 (z.trans e0.symm); omega
          omega
        · simp only [if_neg c]
          have h1 := h (i + 1) (by omega)
          have h2 : f (i + 1) ≠ n := fun z => by have := hi (i + 1) i0 (by omega) hi0 (z.trans e0.symm); omega
          omega) (fun i j hm1 hm2 z => by
        by_cases c : i < i0 <;> by_cases d : j < i0
        · simp only [if_pos c, if_pos d] at z
          exact hi i j (by omega) (by omega) z
        · simp only [if_pos c, if_neg d] at z
          have := hi i (j + 1) (by omega) (by omega) z
          omega
        · simp only [if_neg c, if_pos d] at z
          have := hi (i + 1) j (by omega) (by omega) z
          omega
        · simp only [if_neg c, if_neg d] at z
          have := hi (i + 1) (j + 1) (by omega) (by omega) z
          omega)
      omega
    · have h9 := php n m f (fun i hm => by
        have h1 := h i hm
        have h2 : f i ≠ n := fun z => e ⟨i, hm, z⟩
        omega) hi
      omega
theorem lst_of {P : Nat → Prop} : ∀ {d : Nat}, P d → ∃ i, i ≤ d ∧ P i ∧ ∀ j, j < i → ¬ P j := by
  intro d
  induction d using Nat.strongRecOn with
  | _ d ih =>
    intro h
    by_cases e : ∃ j, j < d ∧ P j
    · obtain ⟨j, hj, hp⟩ := e
      obtain ⟨i, h1, h2, h3⟩ := ih j hj hp
      exact ⟨i, by omega, h2, h3⟩
    · exact ⟨d, Nat.le_refl _, h, fun j hj hp => e ⟨j, hj, hp⟩⟩
theorem rh_free {n : Nat} {q : Nat → rq} {tb : Nat → Nat} (h : rh_I n q tb) (hn : n ≤ 20000) (a : Nat) (ha : a < 65536) : ∃ d, tb ((a + d) % 65536) = 0 ∧ ∀ j, j < d → tb ((a + j) % 65536) ≠ 0 := by
  have h0 : ∃ d, tb ((a + d) % 65536) = 0 := by
    apply Classical.byContradiction
    intro hno
    have hne : ∀ d, tb ((a + d) % 65536) ≠ 0 := fun d z => hno ⟨d, z⟩
    have h9 := php (n - 1) 20000 (fun d => tb ((a + d) % 65536) - 1) (fun i _ => by
      have h1 := h.1 ((a + i) % 65536) (Nat.mod_lt _ (by decide))
      have h2 := hne i
      show tb ((a + i) % 65536) - 1 < n - 1
      omega) (fun i j hi hj z => by
      have h2 := hne i
      have h3 := hne j
      have z : tb ((a + i) % 65536) - 1 = tb ((a + j) % 65536) - 1 := z
      have := h.2.1 ((a + i) % 65536) ((a + j) % 65536) (Nat.mod_lt _ (by decide)) (Nat.mod_lt _ (by decide)) (by omega) h2
      omega)
    omega
  obtain ⟨d, hd⟩ := h0
  obtain ⟨i, -, h2, h3⟩ := lst_of (P := fun d => tb ((a + d) % 65536) = 0) hd
  exact ⟨i, h2, h3⟩
theorem rh_add {n : Nat} {q : Nat → rq} {tb : Nat → Nat} (h : rh_I n q tb) (h1 : 1 ≤ n) {Q : rq} (hQ : ∀ t, 1 ≤ t → t < n → q t ≠ Q) {d : Nat} (hd : tb ((rh_h Q + d) % 65536) = 0) (hj : ∀ j, j < d → tb ((rh_h Q + j) % 65536) ≠ 0) : rh_I (n + 1) (va_up q n Q) (va_up tb ((rh_h Q + d) % 65536) n) := by
  obtain ⟨a1, a2, a3, a4⟩ := h
  generalize hk : (rh_h Q + d) % 65536 = k at hd ⊢
  have hnz : ∀ p, tb p ≠ 0 → va_up tb k n p ≠ 0 := fun p hp => by
    by_cases e : p = k
    · rw [e, va_up_self]; omega
    · rw [va_up_ne _ _ e]; exact hp
  refine ⟨fun p hp => ?_, fun p p' hp hp' e z => ?_, fun t t1 t2 => ?_, fun t t' t1 t2 t3 t4 e => ?_⟩
  · by_cases c : p = k
    · rw [c, va_up_self]; omega
    · rw [va_up_ne _ _ c]; have := a1 p hp; omega
  · by_cases c : p = k
    · by_cases c' : p' = k
      · rw [c, c']
      · rw [c, va_up_self, va_up_ne _ _ c'] at e
        have := a1 p' hp'
        omega
    · rw [va_up_ne _ _ c] at e z
      by_cases c' : p' = k
      · rw [c', va_up_self] at e
        have := a1 p hp
        omega
      · rw [va_up_ne _ _ c'] at e
        exact a2 p p' hp hp' e z
  · by_cases c : t = n
    · subst c
      rw [va_up_self]
      refine ⟨d, by rw [hk, va_up_self], fun j hjd => hnz _ (hj j hjd)⟩
    · rw [va_up_ne _ _ c]
      obtain ⟨d', e1, e2⟩ := a3 t t1 (by omega)
      refine ⟨d', ?_, fun j hjd => hnz _ (e2 j hjd)⟩
      rw [va_up_ne _ _ (fun z => by rw [z, hd] at e1; omega)]
      exact e1
  · by_cases c : t = n
    · by_cases c' : t' = n
      · rw [c, c']
      · rw [c, va_up_self, va_up_ne _ _ c'] at e
        exact absurd e.symm (hQ t' t3 (by omega))
    · rw [va_up_ne _ _ c] at e
      by_cases c' : t' = n
      · rw [c', va_up_self] at e
        exact absurd e (hQ t t1 (by omega))
      · rw [va_up_ne _ _ c'] at e
        exact a4 t t' t1 (by omega) t3 (by omega) e
/-- the table of terms as the arrays hold it -/
def rt_I (sc : Nat → Int32) (ar : Nat → Nat → Int32) (n : Nat) (q : Nat → rq) : Prop := sc 0 = nI n ∧ 1 ≤ n ∧ n ≤ 20000 ∧ (∀ t, 1 ≤ t → t < n → ar 0 t = nI (q t).1 ∧ ar 1 t = nI (q t).2.1 ∧ ar 2 t = nI (q t).2.2.1 ∧ ar 3 t = nI (q t).2.2.2) ∧ (∀ t, 1 ≤ t → t < n → (q t).1 < 7 ∧ (q t).2.1 < 2 ^ 31 ∧ (q t).2.2.1 < 2 ^ 31 ∧ (q t).2.2.2 < 2 ^ 31) ∧ ∃ tb : Nat → Nat, (∀ k, k < 65536 → ar 6 k = nI (tb k)) ∧ rh_I n q tb
