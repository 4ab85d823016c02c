/-! PURE: terms as numbers, and what can be DERIVED -/
def sm_pr (a b : Nat) : Nat := 2 ^ a * (2 * b + 1)
theorem sm_pr_inj : ∀ (a b c d : Nat), sm_pr a b = sm_pr c d → a = c ∧ b = d := by
  intro a
  induction a with
  | zero =>
    intro b c d h
    cases c with
    | zero =>
      simp only [sm_pr, Nat.pow_zero, Nat.one_mul] at h
      exact ⟨rfl, by omega⟩
    | succ c =>
      simp only [sm_pr, Nat.pow_zero, Nat.one_mul, Nat.pow_succ] at h
      rw [Nat.mul_comm (2 ^ c) 2, Nat.mul_assoc] at h
      generalize 2 ^ c * (2 * d + 1) = z at h
      omega
  | succ a ih =>
    intro b c d h
    cases c with
    | zero =>
      simp only [sm_pr, Nat.pow_zero, Nat.one_mul, Nat.pow_succ] at h
      rw [Nat.mul_comm (2 ^ a) 2, Nat.mul_assoc] at h
      generalize 2 ^ a * (2 * b + 1) = z at h
      omega
    | succ c =>
      simp only [sm_pr, Nat.pow_succ] at h
      rw [Nat.mul_comm (2 ^ a) 2, Nat.mul_assoc, Nat.mul_comm (2 ^ c) 2, Nat.mul_assoc] at h
      have h2 : sm_pr a b = sm_pr c d := by
        unfold sm_pr
        omega
      obtain ⟨e1, e2⟩ := ih b c d h2
      exact ⟨by rw [e1], e2⟩
theorem sm_pr_l (a b : Nat) : a < sm_pr a b := by
  have h1 : a < 2 ^ a := Nat.lt_two_pow_self
  have h2 : 2 ^ a * 1 ≤ 2 ^ a * (2 * b + 1) := Nat.mul_le_mul_left _ (by omega)
  unfold sm_pr
  omega
theorem sm_pr_r (a b : Nat) : b < sm_pr a b := by
  have h1 : 1 ≤ 2 ^ a := Nat.one_le_two_pow
  have h2 : 1 * (2 * b + 1) ≤ 2 ^ a * (2 * b + 1) := Nat.mul_le_mul_right _ h1
  unfold sm_pr
  omega
/-- a term of kind k, made of a and b: 0 SECRET(number), 1 PUBLIC(s), 2 SHARED(s, t), 3 SEALED(key, body), 4 to 7 MIX; 0 itself is NOTHING -/
def sm_t (k a b : Nat) : Nat := sm_pr k (sm_pr a b)
theorem sm_t_inj {k a b k' a' b' : Nat} (h : sm_t k a b = sm_t k' a' b') : k = k' ∧ a = a' ∧ b = b' := by
  obtain ⟨h1, h2⟩ := sm_pr_inj _ _ _ _ h
  obtain ⟨h3, h4⟩ := sm_pr_inj _ _ _ _ h2
  exact ⟨h1, h3, h4⟩
theorem sm_t_pos (k a b : Nat) : 0 < sm_t k a b := Nat.lt_of_le_of_lt (Nat.zero_le _) (sm_pr_l k _)
theorem sm_t_ne (k a b : Nat) : sm_t k a b ≠ 0 := Nat.ne_of_gt (sm_t_pos k a b)
theorem sm_t_l (k a b : Nat) : a < sm_t k a b := Nat.lt_trans (sm_pr_l a b) (sm_pr_r k _)
theorem sm_t_r (k a b : Nat) : b < sm_t k a b := Nat.lt_trans (sm_pr_r a b) (sm_pr_r k _)
/-- closed under making -/
def sm_mk (S : Nat → Prop) : Prop := S 0 ∧ (∀ s, S s → S (sm_t 1 s 0)) ∧ (∀ s t, S s → S (sm_t 1 t 0) → S (sm_t 2 s t)) ∧ (∀ s t, S t → S (sm_t 1 s 0) → S (sm_t 2 s t)) ∧ (∀ k a b, 3 ≤ k → S a → S b → S (sm_t k a b))
/-- closed under opening -/
def sm_op (S : Nat → Prop) : Prop := ∀ a b, S (sm_t 3 a b) → S a → S b
/-- DERIVED of what is given -/
def sm_dr (G : Nat → Prop) (v : Nat) : Prop := ∀ S : Nat → Prop, sm_mk S → sm_op S → (∀ g, G g → S g) → S v
/-- made of what is given, with nothing opened -/
def sm_co (F : Nat → Prop) (v : Nat) : Prop := ∀ S : Nat → Prop, sm_mk S → (∀ g, F g → S g) → S v
theorem sm_co_mk (F : Nat → Prop) : sm_mk (sm_co F) :=
  ⟨fun S h _ => h.1, fun s hs S h g => h.2.1 s (hs S h g), fun s t hs ht S h g => h.2.2.1 s t (hs S h g) (ht S h g), fun s t hs ht S h g => h.2.2.2.1 s t (hs S h g) (ht S h g), fun k a b hk ha hb S h g => h.2.2.2.2 k a b hk (ha S h g) (hb S h g)⟩
theorem sm_co_inv {F : Nat → Prop} {a b : Nat} (h : sm_co F (sm_t 3 a b)) : F (sm_t 3 a b) ∨ (sm_co F a ∧ sm_co F b) := by
  have hm := sm_co_mk F
  have key := h (fun v => sm_co F v ∧ (F v ∨ ∀ a b, v = sm_t 3 a b → sm_co F a ∧ sm_co F b)) ⟨⟨hm.1, Or.inr fun a b e => absurd e.symm (sm_t_ne 3 a b)⟩,
    fun s hs => ⟨hm.2.1 s hs.1, Or.inr fun a b e => absurd (sm_t_inj e).1 (by omega)⟩,
    fun s t hs ht => ⟨hm.2.2.1 s t hs.1 ht.1, Or.inr fun a b e => absurd (sm_t_inj e).1 (by omega)⟩,
    fun s t hs ht => ⟨hm.2.2.2.1 s t hs.1 ht.1, Or.inr fun a b e => absurd (sm_t_inj e).1 (by omega)⟩,
    fun k x y hk hx hy => ⟨hm.2.2.2.2 k x y hk hx.1 hy.1, Or.inr fun a b e => by
      obtain ⟨e1, e2, e3⟩ := sm_t_inj e
      subst e2; subst e3
      exact ⟨hx.1, hy.1⟩⟩⟩ (fun g hg => ⟨fun S hS hF => hF g hg, Or.inl hg⟩)
  rcases key.2 with h1 | h1
  · exact Or.inl h1
  · exact Or.inr (h1 a b rfl)
/-- what a table of marks must keep, so that its marks are just what is DERIVED: K the terms of the table, F the marked ones (0 counts as marked) -/
def sm_tab (K F : Nat → Prop) : Prop :=
  (∀ v, F v → K v) ∧ (∀ k a b, K (sm_t k a b) → 3 ≤ k → (a = 0 ∨ K a) ∧ (b = 0 ∨ K b)) ∧ (∀ s, K (sm_t 1 s 0) → K s) ∧ (∀ s t, K (sm_t 2 s t) → K s ∧ K t ∧ K (sm_t 1 s 0) ∧ K (sm_t 1 t 0)) ∧ ¬ K 0 ∧
  (∀ s, K (sm_t 1 s 0) → F s → F (sm_t 1 s 0)) ∧ (∀ s t, K (sm_t 2 s t) → F s → F (sm_t 1 t 0) → F (sm_t 2 s t)) ∧ (∀ s t, K (sm_t 2 s t) → F t → F (sm_t 1 s 0) → F (sm_t 2 s t)) ∧
  (∀ k a b, K (sm_t k a b) → 3 ≤ k → (a = 0 ∨ F a) → (b = 0 ∨ F b) → F (sm_t k a b)) ∧ (∀ a b, F (sm_t 3 a b) → (a = 0 ∨ F a) → (b = 0 ∨ F b))
theorem sm_tab_co {K F : Nat → Prop} (h : sm_tab K F) {v : Nat} (hv : sm_co F v) : (v = 0 ∨ K v) → (v = 0 ∨ F v) := by
  obtain ⟨hFK, hp, hp1, hp2, h0, c1, c2, c3, c4, c5⟩ := h
  have z : ∀ {x : Nat}, K x → x ≠ 0 := fun {x} hx e => h0 (e ▸ hx)
  refine hv (fun v => (v = 0 ∨ K v) → (v = 0 ∨ F v)) ⟨fun _ => Or.inl rfl, fun s hs q => ?_, fun s t hs ht q => ?_, fun s t hs ht q => ?_, fun k a b hk ha hb q => ?_⟩ (fun g hg _ => Or.inr hg)
  · rcases q with q | q
    · exact absurd q (sm_t_ne _ _ _)
    · rcases hs (Or.inr (hp1 s q)) with e | f
      · exact absurd e (z (hp1 s q))
      · exact Or.inr (c1 s q f)
  · rcases q with q | q
    · exact absurd q (sm_t_ne _ _ _)
    · obtain ⟨k1, k2, k3, k4⟩ := hp2 s t q
      rcases hs (Or.inr k1) with e | f
      · exact absurd e (z k1)
      · rcases ht (Or.inr k4) with e | f2
        · exact absurd e (z k4)
        · exact Or.inr (c2 s t q f f2)
  · rcases q with q | q
    · exact absurd q (sm_t_ne _ _ _)
    · obtain ⟨k1, k2, k3, k4⟩ := hp2 s t q
      rcases hs (Or.inr k2) with e | f
      · exact absurd e (z k2)
      · rcases ht (Or.inr k3) with e | f2
        · exact absurd e (z k3)
        · exact Or.inr (c3 s t q f f2)
  · rcases q with q | q
    · exact absurd q (sm_t_ne _ _ _)
    · obtain ⟨k1, k2⟩ := hp k a b q hk
      exact Or.inr (c4 k a b q hk (ha k1) (hb k2))
/-- the marks of such a table, with all that is given marked, hold all that is DERIVED in it -/
theorem sm_tab_dr {K F G : Nat → Prop} (h : sm_tab K F) (hG : ∀ g, G g → g = 0 ∨ F g) {v : Nat} (hv : sm_dr G v) (hK : K v) : F v := by
  have hm := sm_co_mk F
  have hco : sm_co F v := by
    refine hv (sm_co F) hm (fun a b h1 h2 => ?_) (fun g hg => ?_)
    · rcases sm_co_inv h1 with f | ⟨-, f⟩
      · have f3 := h.2.2.2.2.2.2.2.2.2 a b f
        have ka : a = 0 ∨ K a := (h.2.1 3 a b (h.1 _ f) (Nat.le_refl 3)).1
        rcases f3 (sm_tab_co h h2 ka) with e | f4
        · rw [e]; exact hm.1
        · exact fun S _ hF => hF b f4
      · exact f
    · rcases hG g hg with e | f
      · rw [e]; exact hm.1
      · exact fun S _ hF => hF g f
  rcases sm_tab_co h hco (Or.inr hK) with e | f
  · exact absurd (e ▸ hK) h.2.2.2.2.1
  · exact f
theorem sm_dr_mk (G : Nat → Prop) : sm_mk (sm_dr G) :=
  ⟨fun S h _ _ => h.1, fun s hs S h o g => h.2.1 s (hs S h o g), fun s t hs ht S h o g => h.2.2.1 s t (hs S h o g) (ht S h o g), fun s t hs ht S h o g => h.2.2.2.1 s t (hs S h o g) (ht S h o g), fun k a b hk ha hb S h o g => h.2.2.2.2 k a b hk (ha S h o g) (hb S h o g)⟩
theorem sm_dr_op (G : Nat → Prop) : sm_op (sm_dr G) := fun a b h1 h2 S h o g => o a b (h1 S h o g) (h2 S h o g)
theorem sm_dr_in {G : Nat → Prop} {v : Nat} (h : G v) : sm_dr G v := fun _ _ _ g => g v h
theorem sm_dr_mono {G G' : Nat → Prop} (h : ∀ v, G v → G' v) {v : Nat} (hv : sm_dr G v) : sm_dr G' v := fun S m o g => hv S m o (fun x hx => g x (h x hx))
