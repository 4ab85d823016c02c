/-! THE MODULE Terms: its cells, what a client sees of it -/
def tt_c (ad kd : Nat → Nat) (lf rt er lu pb : Nat → Option Nat) (dv : Nat → Bool) (i : Nat) : va_E := hm_ob 2 [.int (nI (kd i)), .int (nI i), va_rf ((lf i).map ad), va_rf ((rt i).map ad), va_rf ((er i).map ad), va_rf ((lu i).map ad), va_rf ((pb i).map ad), .int (if dv i = true then 1 else 0)]
def ts_X (D : va_G) (M : hm_M) (tm la ea c n dr se : Nat) (ad kd : Nat → Nat) (lf rt er lu pb : Nat → Option Nat) (dv : Nat → Bool) : Prop := M tm = some (hm_ob 1 [.ref la, .int (nI dr), .int (nI se)]) ∧ li_R D M la ea c n ad ∧ (∀ i, i < n → M (ad i) = some (tt_c ad kd lf rt er lu pb dv i)) ∧ c ≤ 65536
def ts_F (tm la ea c n : Nat) (ad : Nat → Nat) : Nat → Prop := fun a => a = tm ∨ a = la ∨ (a = ea ∧ c ≠ 0) ∨ ∃ i, i < n ∧ a = ad i
/-- the module holds: T a i v: the cell a is the term at place i, of value v; G what is given; dr secrets drawn, n terms, c places, settled up to se; F its cells -/
def ts_S (D : va_G) (M : hm_M) (tm : Nat) (F : Nat → Prop) (T : Nat → Nat → Nat → Prop) (G : Nat → Prop) (dr n c se : Nat) : Prop := ∃ (la ea : Nat) (ad kd : Nat → Nat) (lf rt er lu pb : Nat → Option Nat) (dv : Nat → Bool) (vl : Nat → Nat), ts_X D M tm la ea c n dr se ad kd lf rt er lu pb dv ∧ tt_I n dr se G kd lf rt er lu pb dv vl ∧ F = ts_F tm la ea c n ad ∧ T = (fun a i v => i < n ∧ a = ad i ∧ v = vl i)
/-- nothing outside F has changed, and F has got new cells alone -/
def hm_step (M : hm_M) (F : Nat → Prop) (M' : hm_M) (F' : Nat → Prop) : Prop := (∀ a, ¬ F a → M a ≠ none → M' a = M a) ∧ ∀ a, F' a → F a ∨ M a = none
theorem hm_step.rf (M : hm_M) (F : Nat → Prop) : hm_step M F M F := ⟨fun _ _ _ => rfl, fun _ h => Or.inl h⟩
theorem hm_step.tr {M M' M'' : hm_M} {F F' F'' : Nat → Prop} (h1 : hm_step M F M' F') (h2 : hm_step M' F' M'' F'') : hm_step M F M'' F'' := by
  have key : ∀ a, ¬ F a → M a ≠ none → ¬ F' a := fun a ha hm hf => (h1.2 a hf).elim ha hm
  refine ⟨fun a ha hm => ?_, fun a ha => ?_⟩
  · have e1 := h1.1 a ha hm
    rw [h2.1 a (key a ha hm) (by rw [e1]; exact hm), e1]
  · rcases h2.2 a ha with h | h
    · exact h1.2 a h
    · by_cases hf : F a
      · exact Or.inl hf
      · refine Or.inr ?_
        cases hm : M a with
        | none => rfl
        | some e =>
          have e1 := h1.1 a hf (by rw [hm]; simp)
          rw [e1, hm] at h
          cases h
/-- a cell that is the client's own -/
def hm_ow (M : hm_M) (F : Nat → Prop) (a : Nat) (e : va_E) : Prop := M a = some e ∧ ¬ F a
theorem hm_ow.step {M M' : hm_M} {F F' : Nat → Prop} {a : Nat} {e : va_E} (h : hm_ow M F a e) (hs : hm_step M F M' F') : hm_ow M' F' a e :=
  ⟨by rw [hs.1 a h.2 (by rw [h.1]; simp)]; exact h.1, fun hf => (hs.2 a hf).elim h.2 (fun z => by rw [h.1] at z; cases z)⟩
theorem hm_ow.put {M : hm_M} {F : Nat → Prop} {a b : Nat} {e f : va_E} (h : hm_ow M F a e) (hn : a ≠ b) : hm_ow (hm_up M b f) F a e := ⟨by rw [hm_up_n _ _ hn]; exact h.1, h.2⟩
theorem hm_ow.self {M : hm_M} {F : Nat → Prop} {a : Nat} {e f : va_E} (h : hm_ow M F a e) : hm_ow (hm_up M a f) F a f := ⟨hm_up_s _ _ _, h.2⟩
theorem li_R.ne {D : va_G} {M : hm_M} {a ea c n : Nat} {f : Nat → Nat} (h : li_R D M a ea c n f) (hc : c ≠ 0) : M ea ≠ none := by
  obtain ⟨m, -, -, hh⟩ := h
  rcases hh with ⟨h1, -⟩ | ⟨-, g, hg, -⟩
  · exact absurd h1 hc
  · rw [hg]; simp
theorem ts_F_some {D : va_G} {M : hm_M} {tm la ea c n dr se : Nat} {ad kd : Nat → Nat} {lf rt er lu pb : Nat → Option Nat} {dv : Nat → Bool} (h : ts_X D M tm la ea c n dr se ad kd lf rt er lu pb dv) {a : Nat} (ha : ts_F tm la ea c n ad a) : M a ≠ none := by
  obtain ⟨h1, h2, h3, -⟩ := h
  rcases ha with rfl | rfl | ⟨rfl, hc⟩ | ⟨i, hi, rfl⟩
  · rw [h1]; simp
  · obtain ⟨m, h9, -⟩ := h2
    rw [h9]; simp
  · exact h2.ne hc
  · rw [h3 i hi]; simp
theorem ts_S_some {D : va_G} {M : hm_M} {tm : Nat} {F : Nat → Prop} {T : Nat → Nat → Nat → Prop} {G : Nat → Prop} {dr n c se : Nat} (h : ts_S D M tm F T G dr n c se) {a : Nat} (ha : F a) : M a ≠ none := by
  obtain ⟨la, ea, ad, kd, lf, rt, er, lu, pb, dv, vl, hX, -, rfl, -⟩ := h
  exact ts_F_some hX ha
/-- a model that is the same on the module's cells -/
theorem ts_S.same {D : va_G} {M M' : hm_M} {tm : Nat} {F : Nat → Prop} {T : Nat → Nat → Nat → Prop} {G : Nat → Prop} {dr n c se : Nat} (h : ts_S D M tm F T G dr n c se) (hk : ∀ a, F a → M' a = M a) : ts_S D M' tm F T G dr n c se := by
  obtain ⟨la, ea, ad, kd, lf, rt, er, lu, pb, dv, vl, ⟨h1, h2, h3, h4⟩, hI, rfl, hT⟩ := h
  refine ⟨la, ea, ad, kd, lf, rt, er, lu, pb, dv, vl, ⟨by rw [hk tm (Or.inl rfl)]; exact h1, ?_, fun i hi => by rw [hk _ (Or.inr (Or.inr (Or.inr ⟨i, hi, rfl⟩)))]; exact h3 i hi, h4⟩, hI, rfl, hT⟩
  obtain ⟨m, ha, hnc, hc⟩ := h2
  refine ⟨m, by rw [hk la (Or.inr (Or.inl rfl))]; exact ha, hnc, ?_⟩
  rcases hc with h | ⟨h9, g, hg, hf⟩
  · exact Or.inl h
  · exact Or.inr ⟨h9, g, by rw [hk ea (Or.inr (Or.inr (Or.inl ⟨rfl, by omega⟩)))]; exact hg, hf⟩
theorem ts_S.put {D : va_G} {M : hm_M} {tm : Nat} {F : Nat → Prop} {T : Nat → Nat → Nat → Prop} {G : Nat → Prop} {dr n c se : Nat} (h : ts_S D M tm F T G dr n c se) {a : Nat} (ha : ¬ F a) (e : va_E) : ts_S D (hm_up M a e) tm F T G dr n c se := h.same (fun b hb => hm_up_n _ _ (fun z => ha (z ▸ hb)))
/-- which values there are -/
def ts_k (T : Nat → Nat → Nat → Prop) : Nat → Prop := fun v => ∃ a i, T a i v
/-- how many terms there are, and how many places, when these values are made one after the other -/
noncomputable def ts_r (K : Nat → Prop) (n c : Nat) : List Nat → Nat × Nat
  | [] => (n, c)
  | v :: vs => @ite _ (K v) (Classical.propDecidable _) (ts_r K n c vs) (ts_r (fun x => K x ∨ x = v) (n + 1) (li_c c n) vs)
theorem ts_r_pos {K : Nat → Prop} {n c v : Nat} {vs : List Nat} (h : K v) : ts_r K n c (v :: vs) = ts_r K n c vs := if_pos h
theorem ts_r_neg {K : Nat → Prop} {n c v : Nat} {vs : List Nat} (h : ¬ K v) : ts_r K n c (v :: vs) = ts_r (fun x => K x ∨ x = v) (n + 1) (li_c c n) vs := if_neg h
theorem li_c_ge (c n : Nat) : c ≤ li_c c n := by
  unfold li_c
  split
  · split <;> omega
  · omega
theorem ts_r_ge : ∀ (vs : List Nat) (K : Nat → Prop) (n c : Nat), n ≤ (ts_r K n c vs).1 ∧ c ≤ (ts_r K n c vs).2
  | [], K, n, c => ⟨Nat.le_refl _, Nat.le_refl _⟩
  | v :: vs, K, n, c => by
    by_cases h : K v
    · rw [ts_r_pos h]
      exact ts_r_ge vs K n c
    · rw [ts_r_neg h]
      have h1 := ts_r_ge vs (fun x => K x ∨ x = v) (n + 1) (li_c c n)
      have h2 := li_c_ge c n
      exact ⟨by omega, by omega⟩
theorem ts_r_app : ∀ (vs ws : List Nat) (K : Nat → Prop) (n c : Nat), ts_r K n c (vs ++ ws) = ts_r (fun x => K x ∨ x ∈ vs) (ts_r K n c vs).1 (ts_r K n c vs).2 ws
  | [], ws, K, n, c => by
    have e : (fun x => K x ∨ x ∈ ([] : List Nat)) = K := by funext x; simp
    rw [e]
    rfl
  | v :: vs, ws, K, n, c => by
    rw [List.cons_append]
    by_cases h : K v
    · rw [ts_r_pos h, ts_r_pos h]
      have e : (fun x => K x ∨ x ∈ v :: vs) = (fun x => K x ∨ x ∈ vs) := by
        funext x
        apply propext
        constructor
        · rintro (q | q)
          · exact Or.inl q
          · rcases List.mem_cons.mp q with rfl | q
            · exact Or.inl h
            · exact Or.inr q
        · rintro (q | q)
          · exact Or.inl q
          · exact Or.inr (List.mem_cons_of_mem _ q)
      rw [e]
      exact ts_r_app vs ws K n c
    · rw [ts_r_neg h, ts_r_neg h]
      have e : (fun x => K x ∨ x ∈ v :: vs) = (fun x => (K x ∨ x = v) ∨ x ∈ vs) := by
        funext x
        apply propext
        constructor
        · rintro (q | q)
          · exact Or.inl (Or.inl q)
          · rcases List.mem_cons.mp q with rfl | q
            · exact Or.inl (Or.inr rfl)
            · exact Or.inr q
        · rintro ((q | rfl) | q)
          · exact Or.inl q
          · exact Or.inr List.mem_cons_self
          · exact Or.inr (List.mem_cons_of_mem _ q)
      rw [e]
      exact ts_r_app vs ws (fun x => K x ∨ x = v) (n + 1) (li_c c n)
noncomputable def ts_kc (K : Nat → Prop) (n c : Nat) (vs : List Nat) : Nat := ((ts_r K n c vs).1 - n) + ((ts_r K n c vs).2 - c)
noncomputable def ts_ks (K : Nat → Prop) (n c : Nat) (vs : List Nat) : Nat := 8 * ((ts_r K n c vs).1 - n) + 4 * ((ts_r K n c vs).2 - c)
theorem ts_kc_app (vs ws : List Nat) (K : Nat → Prop) (n c : Nat) : ts_kc K n c (vs ++ ws) = ts_kc K n c vs + ts_kc (fun x => K x ∨ x ∈ vs) (ts_r K n c vs).1 (ts_r K n c vs).2 ws := by
  unfold ts_kc
  rw [ts_r_app]
  have h1 := ts_r_ge vs K n c
  have h2 := ts_r_ge ws (fun x => K x ∨ x ∈ vs) (ts_r K n c vs).1 (ts_r K n c vs).2
  omega
theorem ts_ks_app (vs ws : List Nat) (K : Nat → Prop) (n c : Nat) : ts_ks K n c (vs ++ ws) = ts_ks K n c vs + ts_ks (fun x => K x ∨ x ∈ vs) (ts_r K n c vs).1 (ts_r K n c vs).2 ws := by
  unfold ts_ks
  rw [ts_r_app]
  have h1 := ts_r_ge vs K n c
  have h2 := ts_r_ge ws (fun x => K x ∨ x ∈ vs) (ts_r K n c vs).1 (ts_r K n c vs).2
  omega
theorem ts_r_old {K : Nat → Prop} {n c v : Nat} (h : K v) : ts_r K n c [v] = (n, c) := by
  rw [ts_r_pos h]
  rfl
theorem ts_r_new {K : Nat → Prop} {n c v : Nat} (h : ¬ K v) : ts_r K n c [v] = (n + 1, li_c c n) := by
  rw [ts_r_neg h]
  rfl
/-- behind a call that makes the values vs -/
def ts_P (D : va_G) (tm : Nat) (M : hm_M) (F : Nat → Prop) (T : Nat → Nat → Nat → Prop) (G : Nat → Prop) (n c se dr' : Nat) (vs : List Nat) (M' : hm_M) (F' : Nat → Prop) (T' : Nat → Nat → Nat → Prop) : Prop := ts_S D M' tm F' T' G dr' (ts_r (ts_k T) n c vs).1 (ts_r (ts_k T) n c vs).2 se ∧ hm_step M F M' F' ∧ (∀ a i v, T a i v → T' a i v) ∧ (∀ a i v, T' a i v → T a i v ∨ (n ≤ i ∧ v ∈ vs)) ∧ (∀ v, v ∈ vs → ts_k T' v)
theorem ts_P.k {D : va_G} {tm : Nat} {M M' : hm_M} {F F' : Nat → Prop} {T T' : Nat → Nat → Nat → Prop} {G : Nat → Prop} {n c se dr' : Nat} {vs : List Nat} (h : ts_P D tm M F T G n c se dr' vs M' F' T') : ts_k T' = fun v => ts_k T v ∨ v ∈ vs := by
  funext v
  apply propext
  constructor
  · rintro ⟨a, i, q⟩
    rcases h.2.2.2.1 a i v q with q | q
    · exact Or.inl ⟨a, i, q⟩
    · exact Or.inr q.2
  · rintro (⟨a, i, q⟩ | q)
    · exact ⟨a, i, h.2.2.1 a i v q⟩
    · exact h.2.2.2.2 v q
theorem ts_P.tr {D : va_G} {tm : Nat} {M M' M'' : hm_M} {F F' F'' : Nat → Prop} {T T' T'' : Nat → Nat → Nat → Prop} {G : Nat → Prop} {n c se dr' dr'' : Nat} {vs ws : List Nat} (h : ts_P D tm M F T G n c se dr' vs M' F' T') (h2 : ts_P D tm M' F' T' G (ts_r (ts_k T) n c vs).1 (ts_r (ts_k T) n c vs).2 se dr'' ws M'' F'' T'') : ts_P D tm M F T G n c se dr'' (vs ++ ws) M'' F'' T'' := by
  have hk := h.k
  have hg := ts_r_ge vs (ts_k T) n c
  obtain ⟨s2, st2, u2, w2, k2⟩ := h2
  rw [hk] at s2
  refine ⟨by rw [ts_r_app]; exact s2, h.2.1.tr st2, fun a i v q => u2 a i v (h.2.2.1 a i v q), fun a i v q => ?_, fun v q => ?_⟩
  · rcases w2 a i v q with q | q
    · rcases h.2.2.2.1 a i v q with q | q
      · exact Or.inl q
      · exact Or.inr ⟨q.1, List.mem_append_left _ q.2⟩
    · exact Or.inr ⟨by omega, List.mem_append_right _ q.2⟩
  · rcases List.mem_append.mp q with q | q
    · obtain ⟨a, i, q⟩ := h.2.2.2.2 v q
      exact ⟨a, i, u2 a i v q⟩
    · exact k2 v q
/-- an optional term and its value -/
def ts_o (T : Nat → Nat → Nat → Prop) (r : Option Nat) (v : Nat) : Prop := (r = none ∧ v = 0) ∨ ∃ a i, r = some a ∧ T a i v
theorem ts_o.mono {T T' : Nat → Nat → Nat → Prop} {r : Option Nat} {v : Nat} (h : ts_o T r v) (hs : ∀ a i v, T a i v → T' a i v) : ts_o T' r v := by
  rcases h with h | ⟨a, i, h1, h2⟩
  · exact Or.inl h
  · exact Or.inr ⟨a, i, h1, hs a i v h2⟩
