/-! what the ends and wires keep, call by call -/
def sp_ns (v : Nat) : Prop := ∀ x y, v ≠ sm_t 3 x y
theorem sp_ns_t {k a b : Nat} (h : k ≠ 3) : sp_ns (sm_t k a b) := fun _ _ e => h (sm_t_inj e).1
theorem sp_ns_0 : sp_ns 0 := fun _ _ e => sm_t_ne _ _ _ e.symm
theorem sp_ns_sh (a b : Nat) : sp_ns (sm_sh a b) := by
  unfold sm_sh
  split <;> exact sp_ns_t (by decide)
def sp_lok (k : Nat) (lf : List (Nat × Nat × Nat)) : Prop := lf.length ≤ 8 ∧ ∀ z, z ∈ lf → sp_ns z.1 ∧ z.2.1 ≤ k ∧ sp_ns z.2.2 ∧ z.2.2 ≠ 0
def sp_eok (k : Nat) (e : sp_E) : Prop := (∃ d, e.2.1 = sm_t 0 d 0) ∧ (e.2.2.1 = 0 ∨ ∃ d, e.2.2.1 = sm_t 1 (sm_t 0 d 0) 0) ∧ (e.2.2.2.1 ≠ 0 → e.2.2.1 ≠ 0) ∧ sp_ns e.1 ∧ sp_ns e.2.2.2.1 ∧ sp_ns e.2.2.2.2.2.2.1 ∧ e.2.2.2.2.1 ≤ k ∧ e.2.2.2.2.2.1 ≤ k ∧ e.2.2.2.2.2.2.2.1 ≤ k ∧ sp_lok k e.2.2.2.2.2.2.2.2
def sp_wok (k : Nat) (w : sp_W) : Prop := w.1 < 2 ∧ w.2.1 ≤ k ∧ w.2.2.1 ≤ k ∧ ∃ d, w.2.2.2.1 = sm_t 0 d 0
def sp_ok (k : Nat) (Es : Nat → sp_E) (W : List sp_W) : Prop := (∀ i, i < 4 → sp_eok k (Es i)) ∧ (∀ w, w ∈ W → sp_wok k w) ∧ (W = [] → ∀ i, i < 4 → Es i = sp_E0 i) ∧ W.length ≤ k
theorem sp_lok.mn {k k' : Nat} {lf : List (Nat × Nat × Nat)} (h : sp_lok k lf) (hk : k ≤ k') : sp_lok k' lf := ⟨h.1, fun z hz => by have := h.2 z hz; exact ⟨this.1, by omega, this.2.2⟩⟩
theorem sp_eok.mn {k k' : Nat} {e : sp_E} (h : sp_eok k e) (hk : k ≤ k') : sp_eok k' e := by
  obtain ⟨a1, a2, a3, a4, a5, a6, a7, a8, a9, a10⟩ := h
  exact ⟨a1, a2, a3, a4, a5, a6, by omega, by omega, by omega, a10.mn hk⟩
theorem sp_wok.mn {k k' : Nat} {w : sp_W} (h : sp_wok k w) (hk : k ≤ k') : sp_wok k' w := ⟨h.1, by have := h.2.1; omega, by have := h.2.2.1; omega, h.2.2.2⟩
theorem sp_ok.mn {k k' : Nat} {Es : Nat → sp_E} {W : List sp_W} (h : sp_ok k Es W) (hk : k ≤ k') : sp_ok k' Es W := ⟨fun i hi => (h.1 i hi).mn hk, fun w hw => (h.2.1 w hw).mn hk, h.2.2.1, by have := h.2.2.2; omega⟩
theorem sp_ok0 : sp_ok 0 sp_E0 [] := by
  refine ⟨fun i hi => ?_, fun w hw => (by cases hw), fun _ _ _ => rfl, Nat.le_refl _⟩
  unfold sp_E0
  have hl : sp_lok 0 [] := ⟨by decide, fun z hz => by cases hz⟩
  by_cases c : i = 0 ∨ i = 2
  · rw [if_pos c]
    exact ⟨⟨3, rfl⟩, Or.inr ⟨2, rfl⟩, fun _ => sm_t_ne _ _ _, sp_ns_t (by decide), sp_ns_t (by decide), sp_ns_0, Nat.le_refl _, Nat.le_refl _, Nat.le_refl _, hl⟩
  · rw [if_neg c]
    exact ⟨⟨2, rfl⟩, Or.inl rfl, fun z => absurd rfl z, sp_ns_t (by decide), sp_ns_0, sp_ns_0, Nat.le_refl _, Nat.le_refl _, Nat.le_refl _, hl⟩
theorem sp_lg_ns {k : Nat} {e : sp_E} (h : sp_eok k e) : ∀ v, v ∈ sp_lg e → ∀ x y, v ≠ sm_t 3 x y := by
  obtain ⟨⟨d, a1⟩, a2, a3, a4, a5, a6, a7, a8, a9, a10⟩ := h
  intro v hv
  unfold sp_lg at hv
  rw [List.mem_append] at hv
  rcases hv with hv | hv
  · simp only [List.mem_cons, List.not_mem_nil, or_false] at hv
    rcases hv with h | h | h | h | h | h
    · rw [h]; exact sp_ns_t (by decide)
    · rw [h]; exact a4
    · rw [h, a1]; exact sp_ns_t (by decide)
    · rw [h]
      rcases a2 with a2 | ⟨f, a2⟩
      · rw [a2]; exact sp_ns_0
      · rw [a2]; exact sp_ns_t (by decide)
    · rw [h]; exact a5
    · rw [h]; exact a6
  · rw [List.mem_flatMap] at hv
    obtain ⟨z, hz, hv⟩ := hv
    have := a10.2 z hz
    simp only [List.mem_cons, List.not_mem_nil, or_false] at hv
    rcases hv with h | h
    · rw [h]; exact this.1
    · rw [h]; exact this.2.2.1
theorem sp_s1_ok {k dr : Nat} {e : sp_E} (h : sp_eok k e) (hth : e.2.2.1 ≠ 0) : sp_eok k (sp_s1 dr e).2.2 ∧ (sp_s1 dr e).2.2.2.2.1 = e.2.2.1 ∧ (sp_s1 dr e).1.length ≤ 5 ∧ (sp_s1 dr e).2.1 ≤ dr + 1 ∧ dr ≤ (sp_s1 dr e).2.1 := by
  obtain ⟨ro, mi, th, sc, st, bf, rc, nx, lf⟩ := e
  obtain ⟨a1, a2, a3, a4, a5, a6, a7, a8, a9, a10⟩ := h
  dsimp only at a1 a2 a3 a4 a5 a6 a7 a8 a9 a10 hth
  unfold sp_s1
  dsimp only
  by_cases c : sc = 0
  · rw [if_pos c]
    exact ⟨⟨⟨_, rfl⟩, a2, fun _ => hth, sp_ns_t (by decide), sp_ns_t (by decide), a6, Nat.zero_le _, a7, a9, a10⟩, rfl, Nat.le_refl _, Nat.le_refl _, by show dr ≤ dr + 1; omega⟩
  · rw [if_neg c]
    exact ⟨⟨a1, a2, a3, a4, a5, a6, a7, a8, a9, a10⟩, rfl, Nat.zero_le _, by show dr ≤ dr + 1; omega, Nat.le_refl _⟩
theorem sp_sd_ok {k dr j : Nat} {e : sp_E} (h : sp_eok k e) (hth : e.2.2.1 ≠ 0) (hj : j < 2) : sp_eok (k + 1) (sp_sd j dr e).2.2.1 ∧ sp_wok (k + 1) (sp_sd j dr e).2.2.2 ∧ (sp_sd j dr e).1.length ≤ 10 ∧ (sp_sd j dr e).2.1 ≤ dr + 2 ∧ dr ≤ (sp_sd j dr e).2.1 := by
  have h1 := sp_s1_ok (dr := dr) h hth
  unfold sp_sd
  generalize sp_s1 dr e = S at h1
  obtain ⟨vs, d, ro, mi, th, sc, st, bf, rc, nx, lf⟩ := S
  obtain ⟨⟨a1, a2, a3, a4, a5, a6, a7, a8, a9, a10⟩, b1, b2, b3, b4⟩ := h1
  dsimp only at a1 a2 a3 a4 a5 a6 a7 a8 a9 a10 b1 b2 b3 b4
  unfold sp_s2
  dsimp only
  refine ⟨⟨a1, a2, fun _ => by rw [b1]; exact hth, a4, sp_ns_t (by decide), a6, by show st + 1 ≤ k + 1; omega, by show bf ≤ k + 1; omega, by show nx ≤ k + 1; omega, a10.mn (by omega)⟩, ⟨hj, by show st ≤ k + 1; omega, by show bf ≤ k + 1; omega, a1⟩, ?_, by omega, by omega⟩
  simp only [List.length_append, List.length_cons, List.length_nil]
  omega
theorem lv_ad_ok {k : Nat} {lf : List (Nat × Nat × Nat)} {z : Nat × Nat × Nat} (h : sp_lok k lf) (hz : sp_ns z.1 ∧ z.2.1 ≤ k ∧ sp_ns z.2.2 ∧ z.2.2 ≠ 0) : sp_lok k (lv_ad lf z) := by
  refine ⟨by rw [lv_ad_len lf z h.1]; have := h.1; split <;> omega, fun y hy => ?_⟩
  unfold lv_ad at hy
  rw [List.mem_append, List.mem_singleton] at hy
  rcases hy with hy | hy
  · refine h.2 y ?_
    split at hy
    · exact List.mem_of_mem_drop hy
    · exact hy
  · rw [hy]; exact hz
theorem sk_f_ok {k th : Nat} (hth : sp_ns th) : ∀ (d rc nx : Nat) (lf : List (Nat × Nat × Nat)), sp_lok k lf → nx + d ≤ k + 1 → sp_lok k (sk_f th rc nx lf d)
  | 0, rc, nx, lf, h, _ => h
  | d + 1, rc, nx, lf, h, hk => sk_f_ok hth d (sm_t 7 rc 0) (nx + 1) _ (lv_ad_ok h ⟨hth, by show nx ≤ k; omega, sp_ns_t (by decide), sm_t_ne _ _ _⟩) (by omega)
theorem sk_r_ns {rc : Nat} (h : sp_ns rc) : ∀ d : Nat, sp_ns (sk_r rc d) := by
  intro d
  induction d generalizing rc with
  | zero => exact h
  | succ d ih => exact ih (sp_ns_t (by decide))
theorem sk_v_len2 : ∀ (d rc : Nat), (sk_v rc d).length = 2 * d
  | 0, _ => rfl
  | d + 1, rc => by
    show (sk_v (sm_t 7 rc 0) d).length + 1 + 1 = _
    rw [sk_v_len2 d]
    omega
theorem ke_f_in {pk ix : Nat} : ∀ {lf l : List (Nat × Nat × Nat)} {v : Nat}, ke_f pk ix lf = some (v, l) → (∃ z, z ∈ lf ∧ z.2.2 = v) ∧ (∀ z, z ∈ l → z ∈ lf) ∧ l.length ≤ lf.length
  | [], l, v, h => by cases h
  | q :: lf, l, v, h => by
    unfold ke_f at h
    by_cases c : q.1 = pk ∧ q.2.1 = ix
    · rw [if_pos c] at h
      injection h with h
      injection h with h1 h2
      subst h1; subst h2
      exact ⟨⟨q, List.mem_cons_self, rfl⟩, fun z hz => List.mem_cons_of_mem _ hz, by rw [List.length_cons]; omega⟩
    · rw [if_neg c] at h
      cases hk : ke_f pk ix lf with
      | none => rw [hk] at h; cases h
      | some r =>
        obtain ⟨v', l'⟩ := r
        rw [hk] at h
        injection h with h
        injection h with h1 h2
        subst h1; subst h2
        obtain ⟨⟨z, z1, z2⟩, e2, e3⟩ := ke_f_in hk
        refine ⟨⟨z, List.mem_cons_of_mem _ z1, z2⟩, fun y hy => ?_, by rw [List.length_cons, List.length_cons]; dsimp only; omega⟩
        rcases List.mem_cons.mp hy with hy | hy
        · rw [hy]; exact List.mem_cons_self
        · exact List.mem_cons_of_mem _ (e2 y hy)
/-- the ends that keyFor goes through -/
def kf_ok (k : Nat) (E : kf_E) : Prop := sp_ns E.1 ∧ (E.2.1 = 0 ∨ ∃ d, E.2.1 = sm_t 1 (sm_t 0 d 0) 0) ∧ (E.2.2.1 ≠ 0 → E.2.1 ≠ 0) ∧ sp_ns E.2.2.1 ∧ sp_ns E.2.2.2.1 ∧ E.2.2.2.2.1 ≤ k ∧ sp_lok k E.2.2.2.2.2
theorem sp_th_ns {th : Nat} (h : th = 0 ∨ ∃ d, th = sm_t 1 (sm_t 0 d 0) 0) : sp_ns th := by
  rcases h with h | ⟨d, h⟩
  · rw [h]; exact sp_ns_0
  · rw [h]; exact sp_ns_t (by decide)
theorem kf_1_ok {k c bw mi : Nat} {E : kf_E} {S : List Nat × kf_E} (h : kf_ok k E) (hc : ∃ d, c = sm_t 0 d 0) (hb : bw ≤ k) (hS : kf_1 c bw mi E = some S) : kf_ok k S.2 ∧ S.1.length ≤ 14 := by
  obtain ⟨ro, th, sc, rc, nx, lf⟩ := E
  obtain ⟨d, hc⟩ := hc
  obtain ⟨a1, a2, a3, a4, a5, a6, a7⟩ := h
  dsimp only at a1 a2 a3 a4 a5 a6 a7
  unfold kf_1 at hS
  dsimp only at hS
  by_cases c1 : sm_t 1 c 0 = th ∧ rc ≠ 0
  · rw [if_pos c1] at hS
    injection hS with hS
    subst hS
    exact ⟨⟨a1, a2, a3, a4, a5, a6, a7⟩, Nat.zero_le _⟩
  · rw [if_neg c1] at hS
    by_cases c2 : rc ≠ 0 ∧ nx < bw
    · rw [if_pos c2] at hS
      by_cases c3 : nx + 5 < bw
      · rw [if_pos c3] at hS
        cases hS
      · rw [if_neg c3] at hS
        injection hS with hS
        subst hS
        refine ⟨⟨sp_ns_t (by decide), Or.inr ⟨d, by rw [hc]⟩, fun z => absurd rfl z, sp_ns_0, sp_ns_t (by decide), Nat.zero_le _, sk_f_ok (sp_th_ns a2) _ _ _ _ a7 (by omega)⟩, ?_⟩
        show (sk_v rc (bw - nx) ++ kf_v mi c ro).length ≤ 14
        rw [List.length_append, sk_v_len2]
        show 2 * (bw - nx) + 4 ≤ 14
        omega
    · rw [if_neg c2] at hS
      injection hS with hS
      subst hS
      exact ⟨⟨sp_ns_t (by decide), Or.inr ⟨d, by rw [hc]⟩, fun z => absurd rfl z, sp_ns_0, sp_ns_t (by decide), Nat.zero_le _, a7⟩, by show 4 ≤ 14; decide⟩
theorem kf_2_ok {k ix : Nat} {S : List Nat × kf_E} (h : kf_ok k S.2) (hi : ix ≤ k) : (kf_2 ix S).1.length ≤ S.1.length + 12 ∧ ∀ key E, (kf_2 ix S).2 = some (key, E) → kf_ok (k + 1) E ∧ key ≠ 0 := by
  obtain ⟨vs, ro, th, sc, rc, nx, lf⟩ := S
  obtain ⟨a1, a2, a3, a4, a5, a6, a7⟩ := h
  dsimp only at a1 a2 a3 a4 a5 a6 a7
  unfold kf_2
  dsimp only
  by_cases c : ix < nx ∨ nx + 5 < ix
  · rw [if_pos c]
    exact ⟨by show vs.length ≤ vs.length + 12; omega, fun key E e => by cases e⟩
  · rw [if_neg c]
    refine ⟨?_, fun key E e => ?_⟩
    · show (vs ++ (sk_v rc (ix - nx) ++ [_, _])).length ≤ _
      rw [List.length_append, List.length_append, sk_v_len2]
      show vs.length + (2 * (ix - nx) + 2) ≤ vs.length + 12
      omega
    · injection e with e
      injection e with e1 e2
      subst e1; subst e2
      exact ⟨⟨a1, a2, a3, a4, sp_ns_t (by decide), by show ix + 1 ≤ k + 1; omega, (sk_f_ok (sp_th_ns a2) _ _ _ _ a7 (by omega)).mn (by omega)⟩, sm_t_ne _ _ _⟩
theorem kf_okk {k c ix bw mi : Nat} {E : kf_E} (h : kf_ok k E) (hc : ∃ d, c = sm_t 0 d 0) (hi : ix ≤ k) (hb : bw ≤ k) : (kf c ix bw mi E).1.length ≤ 26 ∧ ∀ key E', (kf c ix bw mi E).2 = some (key, E') → kf_ok (k + 1) E' ∧ key ≠ 0 := by
  unfold kf
  cases hk : ke_f (sm_t 1 c 0) ix E.2.2.2.2.2 with
  | some r =>
    obtain ⟨v, l⟩ := r
    dsimp only
    refine ⟨Nat.zero_le _, fun key E' e => ?_⟩
    injection e with e
    injection e with e1 e2
    subst e1; subst e2
    obtain ⟨a1, a2, a3, a4, a5, a6, a7⟩ := h
    obtain ⟨⟨z, z1, z2⟩, f2, f3⟩ := ke_f_in hk
    refine ⟨⟨a1, a2, a3, a4, a5, by show E.2.2.2.2.1 ≤ k + 1; omega, ⟨by have := a7.1; show l.length ≤ 8; omega, fun y hy => ?_⟩⟩, ?_⟩
    · have := a7.2 y (f2 y hy)
      exact ⟨this.1, by omega, this.2.2⟩
    · rw [← z2]
      exact (a7.2 z z1).2.2.2
  | none =>
    dsimp only
    cases h1 : kf_1 c bw mi E with
    | none => exact ⟨Nat.zero_le _, fun key E' e => by cases e⟩
    | some S =>
      obtain ⟨g1, g2⟩ := kf_1_ok h hc hb h1
      obtain ⟨g3, g4⟩ := kf_2_ok (ix := ix) g1 hi
      exact ⟨by dsimp only; omega, g4⟩
theorem sp_tk_ok {k : Nat} {e : sp_E} {w : sp_W} (h : sp_eok k e) (hw : sp_wok k w) : sp_eok (k + 1) (sp_tk e w).2.2 ∧ (sp_tk e w).1.length ≤ 26 ∧ (sp_tk e w).2.2.2.1 = e.2.1 := by
  obtain ⟨ro, mi, th, sc, st, bf, rc, nx, lf⟩ := e
  obtain ⟨s0, ix, bw, c, ky, le⟩ := w
  obtain ⟨b1, b2, b3, b4⟩ := hw
  have hmn := h.mn (Nat.le_succ k)
  obtain ⟨a1, a2, a3, a4, a5, a6, a7, a8, a9, a10⟩ := h
  dsimp only at a1 a2 a3 a4 a5 a6 a7 a8 a9 a10 b1 b2 b3 b4
  have g := kf_okk (k := k) (c := c) (ix := ix) (bw := bw) (mi := mi) (E := (ro, th, sc, rc, nx, lf)) ⟨a4, a2, a3, a5, a6, a9, a10⟩ b4 b2 b3
  unfold sp_tk
  dsimp only
  generalize kf c ix bw mi (ro, th, sc, rc, nx, lf) = z at g
  obtain ⟨vs, o⟩ := z
  cases o with
  | none => exact ⟨hmn, g.1, rfl⟩
  | some r =>
    obtain ⟨key, ro', th', sc', rc', nx', lf'⟩ := r
    dsimp only
    by_cases c : key = ky
    · rw [if_pos c]
      obtain ⟨⟨c1, c2, c3, c4, c5, c6, c7⟩, -⟩ := g.2 _ _ rfl
      exact ⟨⟨a1, c2, c3, c1, c4, c5, by show st ≤ k + 1; omega, by show bf ≤ k + 1; omega, c6, c7⟩, g.1, rfl⟩
    · rw [if_neg c]
      exact ⟨hmn, g.1, rfl⟩
theorem sp_ok.tk {k j : Nat} {Es : Nat → sp_E} {W : List sp_W} {w : sp_W} (h : sp_ok k Es W) (hj : j < 4) (hw : w ∈ W) : sp_ok (k + 1) (fun i => if i = j then (sp_tk (Es j) w).2.2 else Es i) W := by
  refine ⟨fun i hi => ?_, fun v hv => (h.2.1 v hv).mn (by omega), fun e => (by rw [e] at hw; cases hw), by have := h.2.2.2; omega⟩
  dsimp only
  by_cases c : i = j
  · rw [if_pos c]
    exact (sp_tk_ok (h.1 j hj) (h.2.1 w hw)).1
  · rw [if_neg c]
    exact (h.1 i hi).mn (by omega)
theorem sp_ok.sd {k dr j : Nat} {Es : Nat → sp_E} {W : List sp_W} (h : sp_ok k Es W) (hj : j < 2) (hth : (Es j).2.2.1 ≠ 0) : sp_ok (k + 1) (fun i => if i = j then (sp_sd j dr (Es j)).2.2.1 else Es i) (W ++ [(sp_sd j dr (Es j)).2.2.2]) := by
  have g := sp_sd_ok (dr := dr) (h.1 j (by omega)) hth hj
  refine ⟨fun i hi => ?_, fun v hv => ?_, fun e => (by simp at e), by rw [List.length_append]; have := h.2.2.2; show W.length + 1 ≤ k + 1; omega⟩
  · dsimp only
    by_cases c : i = j
    · rw [if_pos c]
      exact g.1
    · rw [if_neg c]
      exact (h.1 i hi).mn (by omega)
  · rw [List.mem_append, List.mem_singleton] at hv
    rcases hv with hv | hv
    · exact (h.2.1 v hv).mn (by omega)
    · rw [hv]; exact g.2.1
theorem sp_ok.bk {k j i0 : Nat} {Es : Nat → sp_E} {W : List sp_W} (h : sp_ok k Es W) (hj : j < 4) (hi0 : i0 < 4) (h0 : sp_E0 i0 = sp_E0 j) : sp_ok (k + 1) (fun i => if i = i0 then Es j else Es i) W := by
  refine ⟨fun i hi => ?_, fun v hv => (h.2.1 v hv).mn (by omega), fun e i hi => ?_, by have := h.2.2.2; omega⟩
  · dsimp only
    by_cases c : i = i0
    · rw [if_pos c]
      exact (h.1 j hj).mn (by omega)
    · rw [if_neg c]
      exact (h.1 i hi).mn (by omega)
  · dsimp only
    by_cases c : i = i0
    · rw [if_pos c, c, h0]
      exact h.2.2.1 e j hj
    · rw [if_neg c]
      exact h.2.2.1 e i hi
