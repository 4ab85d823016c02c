/-! which LEFT key fits; the key that an end has for a wire, by values -/
def ke_f (pk ix : Nat) : List (Nat × Nat × Nat) → Option (Nat × List (Nat × Nat × Nat))
  | [] => none
  | q :: l => if q.1 = pk ∧ q.2.1 = ix then some (q.2.2, l) else (ke_f pk ix l).map (fun r => (r.1, q :: r.2))
theorem ke_f_none {pk ix : Nat} : ∀ {lf : List (Nat × Nat × Nat)}, (∀ (j : Nat) (q : Nat × Nat × Nat), lf[j]? = some q → ¬ (q.1 = pk ∧ q.2.1 = ix)) → ke_f pk ix lf = none
  | [], _ => rfl
  | q :: l, h => by
    unfold ke_f
    rw [if_neg (h 0 q rfl), ke_f_none (lf := l) (fun j z hz => h (j + 1) z hz)]
    rfl
theorem ke_f_some {pk ix : Nat} : ∀ {lf : List (Nat × Nat × Nat)} {i : Nat} {q : Nat × Nat × Nat}, lf[i]? = some q → (q.1 = pk ∧ q.2.1 = ix) → (∀ j z, j < i → lf[j]? = some z → ¬ (z.1 = pk ∧ z.2.1 = ix)) → ke_f pk ix lf = some (q.2.2, lf.eraseIdx i)
  | [], i, q, h, _, _ => by cases h
  | z :: l, 0, q, h, hm, _ => by
    cases h
    unfold ke_f
    rw [if_pos hm]
    rfl
  | z :: l, i + 1, q, h, hm, hn => by
    unfold ke_f
    rw [if_neg (hn 0 z (by omega) rfl), ke_f_some (lf := l) (i := i) (q := q) h hm (fun j y hj hy => hn (j + 1) y (by omega) hy)]
    rfl
theorem en_L.fn {D : va_G} {M : hm_M} {F : Nat → Prop} {T : Nat → Nat → Nat → Prop} {lk : Nat} {f : Nat → Option Nat} {lf : List (Nat × Nat × Nat)} (h : en_L D M F T lk f lf) : ∃ pkf kyf : Nat → Option Nat, ∀ i q, lf[i]? = some q → q.2.1 < 2 ^ 30 ∧ ∃ b, f i = some b ∧ hm_ow M F b (hm_ob 4 [va_rf (pkf i), .int (nI q.2.1), va_rf (kyf i)]) ∧ ts_o T (pkf i) q.1 ∧ ts_o T (kyf i) q.2.2 := by
  have key : ∀ i, ∃ p : Option Nat × Option Nat, ∀ q, lf[i]? = some q → q.2.1 < 2 ^ 30 ∧ ∃ b, f i = some b ∧ hm_ow M F b (hm_ob 4 [va_rf p.1, .int (nI q.2.1), va_rf p.2]) ∧ ts_o T p.1 q.1 ∧ ts_o T p.2 q.2.2 := by
    intro i
    cases hq : lf[i]? with
    | none => exact ⟨(none, none), fun q h => by cases h⟩
    | some q =>
      obtain ⟨h5, b, pk, ky, e1, e2, e3, e4⟩ := h.2.2.1 i q hq
      exact ⟨(pk, ky), fun q' h' => by cases h'; exact ⟨h5, b, e1, e2, e3, e4⟩⟩
  exact ⟨fun i => (Classical.choose (key i)).1, fun i => (Classical.choose (key i)).2, fun i q hq => Classical.choose_spec (key i) q hq⟩
/-- the LEFT key at i goes -/
theorem en_L.er {D : va_G} {M M' : hm_M} {F : Nat → Prop} {T : Nat → Nat → Nat → Prop} {lk i : Nat} {f : Nat → Option Nat} {lf : List (Nat × Nat × Nat)} (h : en_L D M F T lk f lf) (hi : i < lf.length) (hl : M' lk = some (hm_ar D 2 8 (fun z => if z < i then f z else f (z + 1)))) (ho : ∀ z vs, M z = some (hm_ob 4 vs) → M' z = M z) : en_L D M' F T lk (fun z => if z < i then f z else f (z + 1)) (lf.eraseIdx i) := by
  obtain ⟨a1, a2, a3, a4⟩ := h
  have hlen : (lf.eraseIdx i).length = lf.length - 1 := by rw [List.length_eraseIdx, if_pos hi]
  refine ⟨⟨hl, a1.2⟩, by omega, fun j q hq => ?_, fun j hj => ?_⟩
  · rw [List.getElem?_eraseIdx] at hq
    by_cases c : j < i
    · rw [if_pos c] at hq
      obtain ⟨h5, b, pk, ky, e1, e2, e3, e4⟩ := a3 j q hq
      exact ⟨h5, b, pk, ky, by dsimp only; rw [if_pos c]; exact e1, ⟨by rw [ho b _ e2.1]; exact e2.1, e2.2⟩, e3, e4⟩
    · rw [if_neg c] at hq
      obtain ⟨h5, b, pk, ky, e1, e2, e3, e4⟩ := a3 (j + 1) q hq
      exact ⟨h5, b, pk, ky, by dsimp only; rw [if_neg c]; exact e1, ⟨by rw [ho b _ e2.1]; exact e2.1, e2.2⟩, e3, e4⟩
  · dsimp only
    rw [if_neg (by omega)]
    exact a4 _ (by omega)
/-- PUBLIC, SHARED, and what comes of ROOT -/
def kf_v (mi k ro : Nat) : List Nat := [sm_t 1 mi 0, sm_sh mi k, sm_t 5 ro (sm_sh mi k), sm_t 4 ro (sm_sh mi k)]
/-- what an end has: ROOT, THEIRS, SEND, RECEIVE, NEXT, LEFT -/
abbrev kf_E : Type := Nat × Nat × Nat × Nat × Nat × List (Nat × Nat × Nat)
/-- the turn, if one is due: the values made, and the end behind it -/
noncomputable def kf_1 (k bw mi : Nat) (E : kf_E) : Option (List Nat × kf_E) := match E with
  | (ro, th, sc, rc, nx, lf) => if sm_t 1 k 0 = th ∧ rc ≠ 0 then some ([], ro, th, sc, rc, nx, lf) else if rc ≠ 0 ∧ nx < bw then (if nx + 5 < bw then none else some (sk_v rc (bw - nx) ++ kf_v mi k ro, sm_t 4 ro (sm_sh mi k), sm_t 1 k 0, 0, sm_t 5 ro (sm_sh mi k), 0, sk_f th rc nx lf (bw - nx))) else some (kf_v mi k ro, sm_t 4 ro (sm_sh mi k), sm_t 1 k 0, 0, sm_t 5 ro (sm_sh mi k), 0, lf)
/-- on to the index: the values made; the key and the end behind it -/
noncomputable def kf_2 (ix : Nat) (S : List Nat × kf_E) : List Nat × Option (Nat × kf_E) := match S with
  | (vs, ro, th, sc, rc, nx, lf) => if ix < nx ∨ nx + 5 < ix then (vs, none) else (vs ++ (sk_v rc (ix - nx) ++ [sm_t 6 (sk_r rc (ix - nx)) 0, sm_t 7 (sk_r rc (ix - nx)) 0]), some (sm_t 6 (sk_r rc (ix - nx)) 0, ro, th, sc, sm_t 7 (sk_r rc (ix - nx)) 0, ix + 1, sk_f th rc nx lf (ix - nx)))
noncomputable def kf (k ix bw mi : Nat) (E : kf_E) : List Nat × Option (Nat × kf_E) := match ke_f (sm_t 1 k 0) ix E.2.2.2.2.2 with
  | some r => ([], some (r.1, E.1, E.2.1, E.2.2.1, E.2.2.2.1, E.2.2.2.2.1, r.2))
  | none => match kf_1 k bw mi E with
    | none => ([], none)
    | some S => kf_2 ix S
/-- what comes of a call of keyFor -/
def kf_p (D : va_G) (M : hm_M) (F : Nat → Prop) (T : Nat → Nat → Nat → Prop) (a lk bs mi st bf : Nat) (r : Option Value) (o : Option (Nat × kf_E)) : Prop := match o with
  | none => r = some (va_rf none) ∧ ∃ ro th sc rc nx lf, en_R D M F T a lk bs ro mi th sc st bf rc nx lf
  | some (key, ro, th, sc, rc, nx, lf) => ∃ q i, r = some (.ref q) ∧ T q i key ∧ en_R D M F T a lk bs ro mi th sc st bf rc nx lf
