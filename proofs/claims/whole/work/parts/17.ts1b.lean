theorem om_up {ad : Nat → Nat} {n q : Nat} {r : Option Nat} (h : ∀ j, r = some j → j < n) : r.map (va_up ad n q) = r.map ad := by
  cases r with
  | none => rfl
  | some j => exact congrArg some (va_up_ne _ _ (Nat.ne_of_lt (h j rfl)))
theorem tt_lu_lt {n : Nat} {kd : Nat → Nat} {lf rt er lu : Nat → Option Nat} (hU : tt_U n kd lf rt er lu) {i : Nat} (hi : i < n) : (∀ j, lu i = some j → j < n) ∧ (∀ j, er i = some j → j < n ∧ j < i) := by
  obtain ⟨h1, h2⟩ := hU i hi
  refine ⟨fun j hj => ?_, fun j hj => ?_⟩
  · rw [h1] at hj
    exact (tt_l_some hj).1
  · rw [h2] at hj
    by_cases c : 2 ≤ kd i
    · rw [if_pos c] at hj
      cases hg : tt_g (lf i) (rt i) with
      | none => rw [hg] at hj; cases hj
      | some p =>
        rw [hg] at hj
        have := (tt_l_some (show tt_l kd lf rt p i = some j from hj)).1
        exact ⟨by omega, this⟩
    · rw [if_neg c] at hj
      cases hj
/-- pointers below n: the cell of an old term over the grown address map -/
theorem tt_c_up {ad kd : Nat → Nat} {lf rt er lu pb : Nat → Option Nat} {dv : Nat → Bool} {n i q : Nat} (hl : ∀ j, lf i = some j → j < n) (hr : ∀ j, rt i = some j → j < n) (he : ∀ j, er i = some j → j < n) (hu : ∀ j, lu i = some j → j < n) (hp : ∀ j, pb i = some j → j < n) : tt_c (va_up ad n q) kd lf rt er lu pb dv i = tt_c ad kd lf rt er lu pb dv i := by
  unfold tt_c
  rw [om_up hl, om_up hr, om_up he, om_up hu, om_up hp]
set_option maxHeartbeats 1000000 in
theorem ts_ext {D : va_G} {M M' : hm_M} {tm la ea ea' c n dr dr' se q k v : Nat} {G : Nat → Prop} {ad kd : Nat → Nat} {lf rt er lu pb : Nat → Option Nat} {dv : Nat → Bool} {vl : Nat → Nat} {a b : Option Nat} (hX : ts_X D M tm la ea c n dr se ad kd lf rt er lu pb dv) (hI : tt_I n dr se G kd lf rt er lu pb dv vl) (ok : tt_ok n dr dr' kd pb vl k a b v) (hq : M q = none)
    (ht : M' tm = some (hm_ob 1 [.ref la, .int (nI dr'), .int (nI se)])) (hR : li_R D M' la ea' (li_c c n) (n + 1) (va_up ad n q))
    (hcq : M' q = some (hm_ob 2 [.int (nI k), .int (nI n), va_rf (a.map ad), va_rf (b.map ad), va_rf ((if 2 ≤ k then (tt_g a b).bind lu else none).map ad), .null, .null, .int 0]))
    (hold : ∀ i, i < n → M' (ad i) = some (tt_c (va_up ad n q) kd lf rt er (tt_lu lu n k a b) (tt_pb pb n k a) dv i))
    (hfr : ∀ z, z ≠ q → z ≠ la → z ≠ ea' → z ≠ tm → (∀ i, i < n → z ≠ ad i) → M' z = M z) (hea : (ea' = ea ∧ n < c) ∨ (M ea' = none ∧ ea' ≠ q)) (hc : c ≤ 40000) :
    ts_P D tm M (ts_F tm la ea c n ad) (fun a i v => i < n ∧ a = ad i ∧ v = vl i) G n c se dr' [v] M' (ts_F tm la ea' (li_c c n) (n + 1) (va_up ad n q)) (fun a i w => i < n + 1 ∧ a = va_up ad n q i ∧ w = va_up vl n v i) := by
  have hI' := tt_add hI ok
  obtain ⟨k7, la', lb', hnew, -⟩ := ok
  have nk : ¬ ts_k (fun a i v => i < n ∧ a = ad i ∧ v = vl i) v := by
    rintro ⟨z, i, hi, -, e⟩
    exact hnew i hi e.symm
  have hcc : li_c c n ≤ 65536 := by
    unfold li_c
    split
    · split <;> omega
    · omega
  refine ⟨?_, ⟨fun z hz hm => ?_, fun z hz => ?_⟩, fun z i w h => ?_, fun z i w h => ?_, fun w hw => ?_⟩
  · rw [ts_r_new nk]
    refine ⟨la, ea', va_up ad n q, va_up kd n k, va_up lf n a, va_up rt n b, tt_er er lu n k a b, tt_lu lu n k a b, tt_pb pb n k a, va_up dv n false, va_up vl n v, ⟨ht, hR, fun i hi => ?_, hcc⟩, hI', rfl, rfl⟩
    by_cases e : i = n
    · subst e
      rw [va_up_self, hcq]
      have hb : ∀ j, (if 2 ≤ k then (tt_g a b).bind lu else none) = some j → j < i := by
        intro j hj
        by_cases c2 : 2 ≤ k
        · rw [if_pos c2] at hj
          cases hg : tt_g a b with
          | none => rw [hg] at hj; cases hj
          | some p =>
            rw [hg] at hj
            exact (tt_lu_lt hI.2.2.1 (tt_g_lt la' lb' hg)).1 j hj
        · rw [if_neg c2] at hj
          cases hj
      unfold tt_c tt_er
      rw [va_up_self, va_up_self, va_up_self, va_up_self, va_up_self, om_up la', om_up lb', om_up hb]
      have e1 : tt_lu lu i k a b i = none := if_pos rfl
      have e2 : tt_pb pb i k a i = none := if_pos rfl
      rw [e1, e2]
      rfl
    · have hi' : i < n := by omega
      rw [va_up_ne _ _ e, hold i hi']
      unfold tt_c tt_er
      rw [va_up_ne _ _ e, va_up_ne _ _ e, va_up_ne _ _ e, va_up_ne _ _ e, va_up_ne _ _ e]
  · have h1 : z ≠ q := fun e => hm (by rw [e]; exact hq)
    have h2 : z ≠ ea' := by
      intro e
      rcases hea with ⟨h, h'⟩ | ⟨h, -⟩
      · exact hz (Or.inr (Or.inr (Or.inl ⟨e.trans h, by omega⟩)))
      · exact hm (by rw [e]; exact h)
    exact hfr z h1 (fun e => hz (Or.inr (Or.inl e))) h2 (fun e => hz (Or.inl e)) (fun i hi e => hz (Or.inr (Or.inr (Or.inr ⟨i, hi, e⟩))))
  · rcases hz with h | h | ⟨h, h'⟩ | ⟨i, hi, h⟩
    · exact Or.inl (Or.inl h)
    · exact Or.inl (Or.inr (Or.inl h))
    · rcases hea with ⟨h2, h3⟩ | ⟨h2, -⟩
      · exact Or.inl (Or.inr (Or.inr (Or.inl ⟨h.trans h2, by omega⟩)))
      · exact Or.inr (by rw [h]; exact h2)
    · by_cases e : i = n
      · rw [e, va_up_self] at h
        exact Or.inr (by rw [h]; exact hq)
      · rw [va_up_ne _ _ e] at h
        exact Or.inl (Or.inr (Or.inr (Or.inr ⟨i, by omega, h⟩)))
  · obtain ⟨h1, h2, h3⟩ := h
    exact ⟨by omega, by rw [va_up_ne _ _ (Nat.ne_of_lt h1)]; exact h2, by rw [va_up_ne _ _ (Nat.ne_of_lt h1)]; exact h3⟩
  · obtain ⟨h1, h2, h3⟩ := h
    by_cases e : i = n
    · rw [e, va_up_self] at h3
      exact Or.inr ⟨by omega, by rw [h3]; exact List.mem_singleton.mpr rfl⟩
    · rw [va_up_ne _ _ e] at h2 h3
      exact Or.inl ⟨by omega, h2, h3⟩
  · rw [List.mem_singleton.mp hw]
    exact ⟨_, n, by omega, rfl, (va_up_self _ _ _).symm⟩
theorem ts_el {D : va_G} {M : hm_M} {tm la ea c n dr se : Nat} {ad kd : Nat → Nat} {lf rt er lu pb : Nat → Option Nat} {dv : Nat → Bool} (h : ts_X D M tm la ea c n dr se ad kd lf rt er lu pb dv) : li_E M n ad := fun i hi => ⟨2, _, _, h.2.2.1 i hi, rfl, nh_TE_OJ⟩
/-- the cells of terms are no others of the module -/
theorem ts_ne {D : va_G} {M : hm_M} {tm la ea c n dr se : Nat} {ad kd : Nat → Nat} {lf rt er lu pb : Nat → Option Nat} {dv : Nat → Bool} (h : ts_X D M tm la ea c n dr se ad kd lf rt er lu pb dv) {i : Nat} (hi : i < n) : ad i ≠ tm ∧ ad i ≠ la ∧ (c ≠ 0 → ad i ≠ ea) := by
  obtain ⟨h1, ⟨m, h2, -, hc⟩, h3, -⟩ := h
  refine ⟨hm_ne (h3 i hi) h1 (by decide), hm_ne (h3 i hi) h2 (by decide), fun hz => ?_⟩
  rcases hc with ⟨h, -⟩ | ⟨-, g, hg, -⟩
  · exact absurd h hz
  · exact hm_neA (h3 i hi) hg
theorem ts_inj {D : va_G} {M : hm_M} {tm la ea c n dr se : Nat} {ad kd : Nat → Nat} {lf rt er lu pb : Nat → Option Nat} {dv : Nat → Bool} (h : ts_X D M tm la ea c n dr se ad kd lf rt er lu pb dv) {i j : Nat} (hi : i < n) (hj : j < n) (e : ad i = ad j) : i = j := by
  obtain ⟨-, ⟨m, -, hnc, -⟩, h3, h4⟩ := h
  have h1 := h3 i hi
  rw [e, h3 j hj] at h1
  unfold tt_c at h1
  have h2 := Sum.inr.inj (Option.some.inj h1)
  have h5 : nI j = nI i := by
    have h6 := congrArg (fun p : Nat × List Value => p.2[1]?) h2
    simp at h6
    exact h6
  exact ((nI_eq (by omega) (by omega)).mp h5).symm
