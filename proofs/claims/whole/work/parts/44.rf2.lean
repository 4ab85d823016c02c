theorem hm_ct.mono {l : Launch} {D : va_G} {BG : Nat → Option Cell} {y : MethodName} {cc : ByteArray} {maxL : Nat} {ret : Option FieldType} {fr lo mc ms : Nat} {av : List Value} {M : hm_M} {Post Post' : Option Value → hm_M → Prop} (h : hm_ct l D BG y cc maxL ret fr lo mc ms av M Post) (hp : ∀ r M', Post r M' → Post' r M') : hm_ct l D BG y cc maxL ret fr lo mc ms av M Post' := fun sz => MetFree.mono (h sz) (fun _ _ z => z) (fun _ _ _ _ _ z => z) (fun _ _ _ _ _ hq => ⟨⟨by obtain ⟨⟨r, M', e1, e2, e3⟩, -⟩ := hq.1; exact ⟨r, M', e1, hp r M' e2, e3⟩, hq.1.2⟩, hq.2⟩)
/-- what a term of the reference is worth; t's row in the table -/
def rv_ok (q : Nat → rq) (vl : Nat → Nat) (dr t : Nat) : Prop := 1 ≤ (q t).1 ∧ (q t).1 ≤ 6 ∧
  ((q t).1 = 1 → 1 ≤ (q t).2.1 ∧ (q t).2.1 ≤ dr ∧ (q t).2.2 = (0, 0) ∧ vl t = sm_t 0 (q t).2.1 0) ∧
  ((q t).1 = 2 → (q t).2.1 < t ∧ (q (q t).2.1).1 = 1 ∧ (q t).2.2 = (0, 0) ∧ vl t = sm_t 1 (vl (q t).2.1) 0) ∧
  ((q t).1 = 3 → (q t).2.1 ≤ (q t).2.2.1 ∧ (q t).2.2.1 < t ∧ (q (q t).2.1).1 = 1 ∧ (q (q t).2.2.1).1 = 1 ∧ (q t).2.2.2 = 0 ∧ vl t = sm_t 2 (vl (q t).2.1) (vl (q t).2.2.1)) ∧
  ((q t).1 = 4 → 4 ≤ (q t).2.1 ∧ (q t).2.1 ≤ 7 ∧ (q t).2.2.1 < t ∧ (q t).2.2.2 < t ∧ (q (q t).2.2.1).1 ≤ 4 ∧ (q (q t).2.2.2).1 ≤ 4 ∧ vl t = sm_t (q t).2.1 (vl (q t).2.2.1) (vl (q t).2.2.2)) ∧
  ((q t).1 = 5 → 1 ≤ (q t).2.1 ∧ (q t).2.1 < t ∧ (q t).2.2.1 < t ∧ (q t).2.2.2 < t ∧ (q (q t).2.1).1 ≤ 4 ∧ (q (q t).2.2.1).1 = 6 ∧ (q (q t).2.2.2).1 = 6 ∧ (q (q t).2.2.2).2.2.2 = 0 ∧ vl t = sm_t 3 (vl (q t).2.1) (vl (q (q t).2.2.2).2.2.1)) ∧
  ((q t).1 = 6 → 1 ≤ (q t).2.2.1 ∧ (q t).2.2.1 < t ∧ (q t).2.2.2 < t ∧ (q (q t).2.2.1).1 ≤ 4 ∧ (q (q t).2.2.2).1 ≤ 4)
def rv_I (n : Nat) (q : Nat → rq) (vl : Nat → Nat) (dr : Nat) : Prop := vl 0 = 0 ∧ (q 0).1 = 0 ∧ (∀ t, 1 ≤ t → t < n → rv_ok q vl dr t) ∧ ∀ t t', t < t' → t' < n → (q t).1 = 1 → (q t').1 = 1 → (q t).2.1 < (q t').2.1
theorem rv_cong {q q' : Nat → rq} {vl vl' : Nat → Nat} {dr dr' t : Nat} (h : rv_ok q vl dr t) (hc : ∀ i, i ≤ t → q' i = q i ∧ vl' i = vl i) (hd : dr ≤ dr') (h6 : (q t).1 = 5 → (q t).2.2.2 < t → (q (q t).2.2.2).2.2.1 ≤ t) : rv_ok q' vl' dr' t := by
  obtain ⟨h1, h2, h3, h4, h5, h7, h8, h9⟩ := h
  have e := (hc t (Nat.le_refl _)).1
  have ev := (hc t (Nat.le_refl _)).2
  unfold rv_ok
  rw [e, ev]
  refine ⟨h1, h2, fun z => ?_, fun z => ?_, fun z => ?_, fun z => ?_, fun z => ?_, fun z => ?_⟩
  · obtain ⟨a, b, c, d⟩ := h3 z
    exact ⟨a, by omega, c, d⟩
  · obtain ⟨a, b, c, d⟩ := h4 z
    have e1 := hc (q t).2.1 (by omega)
    rw [e1.1, e1.2]
    exact ⟨a, b, c, d⟩
  · obtain ⟨a, b, c, d⟩ := h5 z
    have e1 := hc (q t).2.1 (by omega)
    have e2 := hc (q t).2.2.1 (by omega)
    rw [e1.1, e1.2, e2.1, e2.2]
    exact ⟨a, b, c, d⟩
  · obtain ⟨a, b, c, d, f⟩ := h7 z
    have e1 := hc (q t).2.2.1 (by omega)
    have e2 := hc (q t).2.2.2 (by omega)
    rw [e1.1, e1.2, e2.1, e2.2]
    exact ⟨a, b, c, d, f⟩
  · obtain ⟨a, b, c, d, f⟩ := h8 z
    have e1 := hc (q t).2.1 (by omega)
    have e2 := hc (q t).2.2.1 (by omega)
    have e3 := hc (q t).2.2.2 (by omega)
    have e4 := hc (q (q t).2.2.2).2.2.1 (h6 z d)
    rw [e1.1, e1.2, e2.1, e3.1, e4.2]
    exact ⟨a, b, c, d, f⟩
  · obtain ⟨a, b, c, d, f⟩ := h9 z
    have e1 := hc (q t).2.2.1 (by omega)
    have e2 := hc (q t).2.2.2 (by omega)
    rw [e1.1, e2.1]
    exact ⟨a, b, c, d, f⟩
theorem rv_row {n dr : Nat} {q : Nat → rq} {vl : Nat → Nat} (h : rv_I n q vl dr) {t : Nat} (h1 : 1 ≤ t) (h2 : t < n) : (q t).1 = 5 → (q t).2.2.2 < t → (q (q t).2.2.2).2.2.1 ≤ t := by
  intro z hl
  obtain ⟨-, -, -, -, -, -, h8, -⟩ := h.2.2.1 t h1 h2
  have h9 := h8 z
  have hz : 1 ≤ (q t).2.2.2 := by
    rcases Nat.eq_zero_or_pos (q t).2.2.2 with c | c
    · have h7 := h9.2.2.2.2.2.2.1
      rw [c, h.2.1] at h7
      omega
    · exact c
  obtain ⟨-, -, -, -, -, -, -, h10⟩ := h.2.2.1 _ hz (by omega)
  have := h10 h9.2.2.2.2.2.2.1
  omega
theorem rv_add {n dr dr' v : Nat} {q : Nat → rq} {vl : Nat → Nat} {Q : rq} (h : rv_I n q vl dr) (hn : 1 ≤ n) (hd : dr ≤ dr') (hok : rv_ok (va_up q n Q) (va_up vl n v) dr' n) (hs : Q.1 = 1 → Q.2.1 = dr + 1) : rv_I (n + 1) (va_up q n Q) (va_up vl n v) dr' := by
  refine ⟨by rw [va_up_ne _ _ (by omega)]; exact h.1, by rw [va_up_ne _ _ (by omega)]; exact h.2.1, fun t t1 t2 => ?_, fun t t' t1 t2 e1 e2 => ?_⟩
  · by_cases c : t = n
    · rw [c]; exact hok
    · exact rv_cong (h.2.2.1 t t1 (by omega)) (fun i hi => ⟨va_up_ne _ _ (by omega), va_up_ne _ _ (by omega)⟩) hd (rv_row h t1 (by omega))
  · rw [va_up_ne _ _ (show t ≠ n by omega)] at e1 ⊢
    by_cases c : t' = n
    · rw [c, va_up_self] at e2 ⊢
      have ht : 1 ≤ t := by
        rcases Nat.eq_zero_or_pos t with z | z
        · rw [z, h.2.1] at e1; omega
        · exact z
      have := (h.2.2.1 t ht (by omega)).2.2.1 e1
      rw [hs e2]
      omega
    · rw [va_up_ne _ _ c] at e2 ⊢
      exact h.2.2.2 t t' t1 (by omega) e1 e2
theorem rv_pos {n dr t : Nat} {q : Nat → rq} {vl : Nat → Nat} (h : rv_I n q vl dr) (h1 : 1 ≤ t) (h2 : t < n) (h5 : (q t).1 ≤ 5) : vl t ≠ 0 := by
  obtain ⟨a1, a2, a3, a4, a5, a6, a7, -⟩ := h.2.2.1 t h1 h2
  obtain c | c | c | c | c : (q t).1 = 1 ∨ (q t).1 = 2 ∨ (q t).1 = 3 ∨ (q t).1 = 4 ∨ (q t).1 = 5 := by omega
  · rw [(a3 c).2.2.2]; exact sm_t_ne _ _ _
  · rw [(a4 c).2.2.2]; exact sm_t_ne _ _ _
  · rw [(a5 c).2.2.2.2.2]; exact sm_t_ne _ _ _
  · rw [(a6 c).2.2.2.2.2.2]; exact sm_t_ne _ _ _
  · rw [(a7 c).2.2.2.2.2.2.2.2]; exact sm_t_ne _ _ _
theorem rv_inj {n dr : Nat} {q : Nat → rq} {vl : Nat → Nat} {tb : Nat → Nat} (h : rv_I n q vl dr) (hh : rh_I n q tb) : ∀ t t' : Nat, t < n → t' < n → (q t).1 ≤ 4 → (q t').1 ≤ 4 → vl t = vl t' → t = t' := by
  intro t
  induction t using Nat.strongRecOn with
  | _ t ih =>
    intro t' h2 h2' h5 h5' e
    rcases Nat.eq_zero_or_pos t with z | h1
    · rcases Nat.eq_zero_or_pos t' with z' | h1'
      · omega
      · rw [z, h.1] at e
        exact absurd e.symm (rv_pos h h1' h2' (by omega))
    rcases Nat.eq_zero_or_pos t' with z' | h1'
    · rw [z', h.1] at e
      exact absurd e (rv_pos h h1 h2 (by omega))
    obtain ⟨a1, a2, a3, a4, a5, a6, -, -⟩ := h.2.2.1 t h1 h2
    obtain ⟨b1, b2, b3, b4, b5, b6, -, -⟩ := h.2.2.1 t' h1' h2'
    refine hh.2.2.2 t t' h1 h2 h1' h2' ?_
    have key : ∀ {a b : rq}, a.1 = b.1 → a.2.1 = b.2.1 → a.2.2.1 = b.2.2.1 → a.2.2.2 = b.2.2.2 → a = b := fun e1 e2 e3 e4 => Prod.ext e1 (Prod.ext e2 (Prod.ext e3 e4))
    obtain c | c | c | c : (q t).1 = 1 ∨ (q t).1 = 2 ∨ (q t).1 = 3 ∨ (q t).1 = 4 := by omega
    · obtain d | d | d | d : (q t').1 = 1 ∨ (q t').1 = 2 ∨ (q t').1 = 3 ∨ (q t').1 = 4 := by omega
      · rw [(a3 c).2.2.2, (b3 d).2.2.2] at e
        have e1 := sm_t_inj e
        exact key (by omega) e1.2.1 (by rw [(a3 c).2.2.1, (b3 d).2.2.1]) (by rw [(a3 c).2.2.1, (b3 d).2.2.1])
      · rw [(a3 c).2.2.2, (b4 d).2.2.2] at e
        exact absurd (sm_t_inj e).1 (by decide)
      · rw [(a3 c).2.2.2, (b5 d).2.2.2.2.2] at e
        exact absurd (sm_t_inj e).1 (by decide)
      · rw [(a3 c).2.2.2, (b6 d).2.2.2.2.2.2] at e
        have e1 := (sm_t_inj e).1
        have := (b6 d).1
        omega
    · obtain d | d | d | d : (q t').1 = 1 ∨ (q t').1 = 2 ∨ (q t').1 = 3 ∨ (q t').1 = 4 := by omega
      · rw [(a4 c).2.2.2, (b3 d).2.2.2] at e
        exact absurd (sm_t_inj e).1 (by decide)
      · rw [(a4 c).2.2.2, (b4 d).2.2.2] at e
        have e1 := sm_t_inj e
        have e2 := ih (q t).2.1 (a4 c).1 (q t').2.1 (by have := (a4 c).1; omega) (by have := (b4 d).1; omega) (by rw [(a4 c).2.1]; decide) (by rw [(b4 d).2.1]; decide) e1.2.1
        exact key (by omega) e2 (by rw [(a4 c).2.2.1, (b4 d).2.2.1]) (by rw [(a4 c).2.2.1, (b4 d).2.2.1])
      · rw [(a4 c).2.2.2, (b5 d).2.2.2.2.2] at e
        exact absurd (sm_t_inj e).1 (by decide)
      · rw [(a4 c).2.2.2, (b6 d).2.2.2.2.2.2] at e
        have e1 := (sm_t_inj e).1
        have := (b6 d).1
        omega
    · obtain d | d | d | d : (q t').1 = 1 ∨ (q t').1 = 2 ∨ (q t').1 = 3 ∨ (q t').1 = 4 := by omega
      · rw [(a5 c).2.2.2.2.2, (b3 d).2.2.2] at e
        exact absurd (sm_t_inj e).1 (by decide)
      · rw [(a5 c).2.2.2.2.2, (b4 d).2.2.2] at e
        exact absurd (sm_t_inj e).1 (by decide)
      · rw [(a5 c).2.2.2.2.2, (b5 d).2.2.2.2.2] at e
        have e1 := sm_t_inj e
        have f1 := a5 c
        have f2 := b5 d
        have e2 := ih (q t).2.1 (by omega) (q t').2.1 (by omega) (by omega) (by omega) (by omega) e1.2.1
        have e3 := ih (q t).2.2.1 (by omega) (q t').2.2.1 (by omega) (by omega) (by omega) (by omega) e1.2.2
        exact key (by omega) e2 e3 (by omega)
      · rw [(a5 c).2.2.2.2.2, (b6 d).2.2.2.2.2.2] at e
        have e1 := (sm_t_inj e).1
        have := (b6 d).1
        omega
    · obtain d | d | d | d : (q t').1 = 1 ∨ (q t').1 = 2 ∨ (q t').1 = 3 ∨ (q t').1 = 4 := by omega
      · rw [(a6 c).2.2.2.2.2.2, (b3 d).2.2.2] at e
        have e1 := (sm_t_inj e).1
        have := (a6 c).1
        omega
      · rw [(a6 c).2.2.2.2.2.2, (b4 d).2.2.2] at e
        have e1 := (sm_t_inj e).1
        have := (a6 c).1
        omega
      · rw [(a6 c).2.2.2.2.2.2, (b5 d).2.2.2.2.2] at e
        have e1 := (sm_t_inj e).1
        have := (a6 c).1
        omega
      · rw [(a6 c).2.2.2.2.2.2, (b6 d).2.2.2.2.2.2] at e
        have e1 := sm_t_inj e
        have f1 := a6 c
        have f2 := b6 d
        have e2 := ih (q t).2.2.1 (by omega) (q t').2.2.1 (by omega) (by omega) (by omega) (by omega) e1.2.1
        have e3 := ih (q t).2.2.2 (by omega) (q t').2.2.2 (by omega) (by omega) (by omega) (by omega) e1.2.2
        exact key (by omega) e1.1 e2 e3
theorem rv_ord {n dr : Nat} {q : Nat → rq} {vl : Nat → Nat} (h : rv_I n q vl dr) {t t' : Nat} (h2 : t < n) (h2' : t' < n) (e : (q t).1 = 1) (e' : (q t').1 = 1) : t < t' ↔ vl t < vl t' := by
  have nz : ∀ {t}, (q t).1 = 1 → 1 ≤ t := fun {t} e => by
    rcases Nat.eq_zero_or_pos t with z | z
    · rw [z, h.2.1] at e; omega
    · exact z
  have v1 := (h.2.2.1 t (nz e) h2).2.2.1 e
  have v2 := (h.2.2.1 t' (nz e') h2').2.2.1 e'
  constructor
  · intro hl
    rw [v1.2.2.2, v2.2.2.2]
    exact sm_mono (h.2.2.2 t t' hl h2' e e')
  · intro hl
    rcases Nat.lt_or_ge t t' with z | z
    · exact z
    · rcases Nat.eq_or_lt_of_le z with z | z
      · rw [z] at hl; omega
      · have := h.2.2.2 t' t z h2 e' e
        have h3 := sm_mono this
        rw [v1.2.2.2, v2.2.2.2] at hl
        omega
/-- the state of the table of terms, and how it goes on -/
def rp (sc : Nat → Int32) (ar : Nat → Nat → Int32) (n : Nat) (q : Nat → rq) (vl : Nat → Nat) (dr : Nat) : Prop := rt_I sc ar n q ∧ rv_I n q vl dr ∧ sc 2 = nI dr ∧ dr ≤ 20000 ∧ ∀ t, n ≤ t → t < 20000 → ar 4 t = 0 ∧ ar 5 t = 0
def rx (P : rq → Nat → Prop) (k : Nat) (sc : Nat → Int32) (ar : Nat → Nat → Int32) (n : Nat) (q : Nat → rq) (vl : Nat → Nat) (sc' : Nat → Int32) (ar' : Nat → Nat → Int32) (n' : Nat) (q' : Nat → rq) (vl' : Nat → Nat) : Prop := n ≤ n' ∧ n' ≤ n + k ∧ (∀ t, t < n → q' t = q t ∧ vl' t = vl t) ∧ (∀ i, i ≠ 0 → i ≠ 2 → sc' i = sc i) ∧ (∀ i, 4 ≤ i → i ≠ 6 → ar' i = ar i) ∧ ∀ t, n ≤ t → t < n' → P (q' t) (vl' t)
theorem rx.rf {P : rq → Nat → Prop} {k n : Nat} {sc : Nat → Int32} {ar : Nat → Nat → Int32} {q : Nat → rq} {vl : Nat → Nat} : rx P k sc ar n q vl sc ar n q vl := ⟨Nat.le_refl _, by omega, fun _ _ => ⟨rfl, rfl⟩, fun _ _ _ => rfl, fun _ _ _ => rfl, fun t h1 h2 => by omega⟩
theorem rx.tr {P P' P'' : rq → Nat → Prop} {k k' n n' n'' : Nat} {sc sc' sc'' : Nat → Int32} {ar ar' ar'' : Nat → Nat → Int32} {q q' q'' : Nat → rq} {vl vl' vl'' : Nat → Nat} (h : rx P k sc ar n q vl sc' ar' n' q' vl') (h' : rx P' k' sc' ar' n' q' vl' sc'' ar'' n'' q'' vl'') (hp : ∀ a v, P a v → P'' a v) (hp' : ∀ a v, P' a v → P'' a v) : rx P'' (k + k') sc ar n q vl sc'' ar'' n'' q'' vl'' := by
  obtain ⟨a1, a2, a3, a4, a5, a6⟩ := h
  obtain ⟨b1, b2, b3, b4, b5, b6⟩ := h'
  refine ⟨by omega, by omega, fun t ht => ⟨(b3 t (by omega)).1.trans (a3 t ht).1, (b3 t (by omega)).2.trans (a3 t ht).2⟩, fun i i0 i2 => (b4 i i0 i2).trans (a4 i i0 i2), fun i i4 i6 => (b5 i i4 i6).trans (a5 i i4 i6), fun t h1 h2 => ?_⟩
  rcases Nat.lt_or_ge t n' with h | h
  · have := a6 t h1 h
    rw [(b3 t h).1, (b3 t h).2]
    exact hp _ _ this
  · exact hp' _ _ (b6 t h h2)
theorem rx.mn {P P' : rq → Nat → Prop} {k k' n n' : Nat} {sc sc' : Nat → Int32} {ar ar' : Nat → Nat → Int32} {q q' : Nat → rq} {vl vl' : Nat → Nat} (h : rx P k sc ar n q vl sc' ar' n' q' vl') (hk : k ≤ k') (hp : ∀ a v, P a v → P' a v) : rx P' k' sc ar n q vl sc' ar' n' q' vl' := ⟨h.1, by have := h.2.1; omega, h.2.2.1, h.2.2.2.1, h.2.2.2.2.1, fun t h1 h2 => hp _ _ (h.2.2.2.2.2 t h1 h2)⟩
theorem ct_MO_term_s {l : Launch} {D : va_G} {BG : Nat → Option Cell} (m : Nat) (A : Nat → Nat) (hA : rf_ok A m) (sc : Nat → Int32) (ar : Nat → Nat → Int32) (n : Nat) (q : Nat → rq) (vl : Nat → Nat) (dr dr' : Nat) (hT : rt_I sc ar n q) (hV : rv_I n q vl dr) (hdr : sc 2 = nI dr') (hd' : dr' ≤ 20000) (hf : ∀ t, n ≤ t → t < 20000 → ar 4 t = 0 ∧ ar 5 t = 0) (hn : n < 20000) (s a b c v : Nat) (hs : s < 7) (ha : a < 2 ^ 31) (hb : b < 2 ^ 31) (hc : c < 2 ^ 31)
    (hold : ∀ t, 1 ≤ t → t < n → q t = (s, a, b, c) → vl t = v ∧ dr' = dr) (hdd : dr ≤ dr') (hok : (∀ t, 1 ≤ t → t < n → q t ≠ (s, a, b, c)) → rv_ok (va_up q n (s, a, b, c)) (va_up vl n v) dr' n) (hs1 : s = 1 → a = dr + 1) :
    hm_ct l D BG ny_MO_term prog_8_method_2_code 8 (some .int) 0 0 0 0 [.ref m, .int (nI s), .int (nI a), .int (nI b), .int (nI c)] (rf_M D m A sc ar) (fun r M' => ∃ t sc' ar' n' q' vl', r = some (.int (nI t)) ∧ M' = rf_M D m A sc' ar' ∧ rp sc' ar' n' q' vl' dr' ∧ rx (fun a' v' => a' = (s, a, b, c) ∧ v' = v) 1 sc ar n q vl sc' ar' n' q' vl' ∧ 1 ≤ t ∧ t < n' ∧ q' t = (s, a, b, c) ∧ vl' t = v) := by
  by_cases h : ∃ t, 1 ≤ t ∧ t < n ∧ q t = (s, a, b, c)
  · obtain ⟨t0, t1, t2, t3⟩ := h
    refine (ct_MO_term_old m A hA sc ar n q hT s a b c hs ha hb hc t0 t1 t2 t3).mono (fun r M' z => ?_)
    obtain ⟨e1, e2⟩ := hold t0 t1 t2 t3
    subst e2
    exact ⟨t0, sc, ar, n, q, vl, z.1, z.2, ⟨hT, hV, hdr, hd', hf⟩, rx.rf, t1, t2, t3, e1⟩
  · have hno : ∀ t, 1 ≤ t → t < n → q t ≠ (s, a, b, c) := fun t t1 t2 t3 => h ⟨t, t1, t2, t3⟩
    refine (ct_MO_term_new m A hA sc ar n q hT s a b c hs ha hb hc hn hno).mono (fun r M' z => ?_)
    obtain ⟨sc', ar', e1, e2, e3, e4, e5⟩ := z
    refine ⟨n, sc', ar', n + 1, va_up q n (s, a, b, c), va_up vl n v, e2, e1, ⟨e3, rv_add hV hT.2.1 hdd (hok hno) hs1, by rw [e4, va_up_ne _ _ (by decide)]; exact hdr, hd', fun t h1 h2 => by rw [e5 4 (by decide) (by decide) (by decide) (by decide) (by decide), e5 5 (by decide) (by decide) (by decide) (by decide) (by decide)]; exact hf t (by omega) h2⟩, ⟨by omega, Nat.le_refl _, fun t ht => ⟨va_up_ne _ _ (by omega), va_up_ne _ _ (by omega)⟩, fun i i0 _ => by rw [e4, va_up_ne _ _ i0], fun i i4 i6 => e5 i (by omega) (by omega) (by omega) (by omega) i6, fun t h1 h2 => ?_⟩, hT.2.1, by omega, va_up_self _ _ _, va_up_self _ _ _⟩
    have : t = n := by omega
    rw [this, va_up_self, va_up_self]
    exact ⟨rfl, rfl⟩
