/-! the law's start: classes, kinds of arrays, the empty array -/
theorem la_len {args : Array Value} {first s : State} {o : Option Outcome} {idx : List Nat} {t : Term} {v : Value} (h : (Term.length t).eval args first o idx s = some v) : ∃ a cell, t.eval args first o idx s = some (.ref a) ∧ s.arrayAt? a = some cell ∧ v = .int cell.slots.size.toInt32 ∧ cell.slots.size < 2 ^ 31 := by
  simp only [Term.eval, Option.bind_eq_bind] at h
  cases ht : t.eval args first o idx s with
  | none => simp [ht] at h
  | some x =>
    cases x <;> simp [ht] at h
    case ref a =>
      obtain ⟨cell, hcell, h⟩ := Option.bind_eq_some_iff.mp h
      by_cases hn : cell.slots.size < 2147483648
      · rw [if_pos hn] at h; cases h; exact ⟨a, cell, rfl, hcell, rfl, hn⟩
      · rw [if_neg hn] at h; cases h
theorem la_N {s : State} {b : Nat} (hts : ∀ w ∈ lw_tbl, w.before #[Value.ref b] s = true) : hm_N s := by
  intro w hw hk
  have h := hts w hw
  cases w with
  | fieldLinkNest a i c n d h9 => exact va_Nw.of rfl h
  | methodLinkNest a i x h9 => exact va_Nw.of rfl h
  | castable C T => exact va_Nw.of rfl h
  | declares x => exact va_Nw.of rfl h
  | arrayOver ty =>
    cases ty with
    | object C => exact va_AO.of h
    | _ => simp [hm_wk] at hk
  | _ => simp [hm_wk] at hk
set_option maxRecDepth 100000 in
theorem la_K {s : State} {b : Nat} (hts : ∀ w ∈ lw_tbl, w.before #[Value.ref b] s = true) (hgv : (Jvm.Cond.and given_1 narrow_1).before #[Value.ref b] s = true) : ∃ D : va_G, hm_K D (fun q => s.heap[q]?) s := by
  have ht : ∀ w ∈ hm_tb, w.before #[Value.ref b] s = true := fun w hw => hts w (List.mem_filter.mp hw).1
  have hs := flat_of_before _ hgv
  obtain ⟨c0, i0, k0⟩ := u_known (C := nR_AL) (T := nT_AL) (N := 3) (n := 3) ht nW_AL (hts (.instantiable nR_AL 3) (by decide +kernel))
  obtain ⟨c1, i1, k1⟩ := u_known (C := nR_TS) (T := nT_TS) (N := 3) (n := 3) ht nW_TS (hts (.instantiable nR_TS 3) (by decide +kernel))
  obtain ⟨c2, i2, k2⟩ := u_known (C := nR_TE) (T := nT_TE) (N := 8) (n := 8) ht nW_TE (hts (.instantiable nR_TE 8) (by decide +kernel))
  obtain ⟨c3, i3, k3⟩ := u_known (C := nR_EN) (T := nT_EN) (N := 11) (n := 11) ht nW_EN (hts (.instantiable nR_EN 11) (by decide +kernel))
  obtain ⟨c4, i4, k4⟩ := u_known (C := nR_LK) (T := nT_LK) (N := 3) (n := 3) ht nW_LK (hts (.instantiable nR_LK 3) (by decide +kernel))
  obtain ⟨c5, i5, k5⟩ := u_known (C := nR_WI) (T := nT_WI) (N := 6) (n := 6) ht nW_WI (hts (.instantiable nR_WI 6) (by decide +kernel))
  obtain ⟨c6, i6, k6⟩ := u_known (C := nR_TK) (T := nT_TK) (N := 6) (n := 6) ht nW_TK (hts (.instantiable nR_TK 6) (by decide +kernel))
  obtain ⟨c7, i7, k7⟩ := u_known (C := nR_MO) (T := nT_MO) (N := 23) (n := 23) ht nW_MO (hts (.instantiable nR_MO 23) (by decide +kernel))
  have obj : ∀ C, Cond.arrayOver (.object C) ∈ lw_tbl → ∃ cA, ArrOfT s cA (.object C) ∧ va_RA s cA (.object C) := by
    intro C hC
    obtain ⟨comp, cA, kA, f1, f2, f3, f4, f5⟩ := Cond.arrayOver_spec (hts _ hC)
    exact ⟨cA, fun N z => ⟨(fun k h => by cases h), kA, f3, comp, f4⟩, kA, comp, f3, f4, f1, f5⟩
  obtain ⟨a0, x0⟩ := obj "java/lang/Object" (by decide +kernel)
  obtain ⟨a1, x1⟩ := obj "TurnedKeys$End" (by decide +kernel)
  obtain ⟨a2, x2⟩ := obj "TurnedKeys$LeftKey" (by decide +kernel)
  obtain ⟨a3, x3⟩ : ∃ cA, ArrOfT s cA .int ∧ va_RA s cA .int := by
    obtain ⟨cA, kA, comp, f1, f2, f3⟩ := Cond.arrayClass_spec (ht _ nai)
    exact ⟨cA, fun N z => ⟨(fun k h => by cases h), kA, f2, comp, f3⟩, f1⟩
  obtain ⟨a4, x4⟩ : ∃ cA, ArrOfT s cA .byte ∧ va_RA s cA .byte := by
    obtain ⟨cA, kA, comp, f1, f2, f3⟩ := Cond.arrayClass_spec (ht _ nab)
    exact ⟨cA, fun N z => ⟨(fun k h => by cases h), kA, f2, comp, f3⟩, f1⟩
  obtain ⟨a5, x5⟩ : ∃ cA, ArrOfT s cA .boolean ∧ va_RA s cA .boolean := by
    obtain ⟨cA, kA, comp, f1, f2, f3⟩ := Cond.arrayClass_spec (ht _ naz)
    exact ⟨cA, fun N z => ⟨(fun k h => by cases h), kA, f2, comp, f3⟩, f1⟩
  have hex : (Cond.exactly (.static "java/util/ArrayList" "DEFAULTCAPACITY_EMPTY_ELEMENTDATA" "[Ljava/lang/Object;") "[Ljava/lang/Object;").before #[Value.ref b] s = true := hs _ (by decide +kernel)
  have har : (Cond.arrayOf (.static "java/util/ArrayList" "DEFAULTCAPACITY_EMPTY_ELEMENTDATA" "[Ljava/lang/Object;") (.object "java/lang/Object")).before #[Value.ref b] s = true := hs _ (by decide +kernel)
  have hln : (Cond.eq (.length (.static "java/util/ArrayList" "DEFAULTCAPACITY_EMPTY_ELEMENTDATA" "[Ljava/lang/Object;")) (.int 0)).before #[Value.ref b] s = true := hs _ (by decide +kernel)
  have hmi : (Cond.isRef (.mirror "[Ljava/lang/Object;")).before #[Value.ref b] s = true := hs _ (by decide +kernel)
  obtain ⟨mi, hmi⟩ := va_Mi.of hmi
  obtain ⟨a, ca, cell, ka, q1, q2, q3, q4, q5, q6, -⟩ := Cond.exactly_spec (args := #[Value.ref b]) (first := s) (o := none) (s := s) (idx := []) hex
  have g1 := Cond.arrayOf_spec har q1 q3
  obtain ⟨a', cell', r1, r2, r3, r4⟩ := la_len (va_eqt hln)
  have ea : a' = a := by
    have := q1.symm.trans r1
    injection this with this
    injection this with this
    exact this.symm
  subst ea
  have r5 := (State.arrayAt?_spec r2).1
  have ec : cell' = cell := by
    have := q3.symm.trans r5
    injection this with this
    exact this.symm
  subst ec
  have hz : cell'.slots.size = 0 := by
    injection r3 with r3
    have h9 : nI cell'.slots.size = nI 0 := r3.symm
    exact (nI_eq r4 (by decide)).mp h9
  obtain ⟨cf, kf, fi, f, as, ce, y1, y2, y3, y4, y5, y6, y7, -⟩ := va_Zof (A := fun q => s.heap.size ≤ q) (hts (.laysStatic "java/util/ArrayList" "DEFAULTCAPACITY_EMPTY_ELEMENTDATA" "[Ljava/lang/Object;") (by decide +kernel)) (hts (.initialized "java/util/ArrayList") (by decide +kernel)) q1 (fun q h z => by omega)
  refine ⟨(fun k => if k = 0 then c0 else if k = 1 then c1 else if k = 2 then c2 else if k = 3 then c3 else if k = 4 then c4 else if k = 5 then c5 else if k = 6 then c6 else if k = 7 then c7 else if k = 100 then a0 else if k = 101 then a1 else if k = 102 then a2 else if k = 103 then a3 else if k = 104 then a4 else a5,
    fun k => if k = 0 then i0 else if k = 1 then i1 else if k = 2 then i2 else if k = 3 then i3 else if k = 4 then i4 else if k = 5 then i5 else if k = 6 then i6 else if k = 7 then i7 else fun j => if j = 0 then a' else mi), ⟨?_, fun k q h => by simp at h⟩, ?_, ⟨cf, kf, fi, f, as, ce, y1, y2, y3, y4, y5, y6, y7⟩, ⟨cell', q3, g1.1, hz⟩, hmi⟩
  · intro k q hq
    match k, hq with
    | 0, hq => cases hq; exact k0
    | 1, hq => cases hq; exact k1
    | 2, hq => cases hq; exact k2
    | 3, hq => cases hq; exact k3
    | 4, hq => cases hq; exact k4
    | 5, hq => cases hq; exact k5
    | 6, hq => cases hq; exact k6
    | 7, hq => cases hq; exact k7
    | k + 8, hq => simp [hm_cl] at hq
  · intro t ty hty
    match t, hty with
    | 0, hty => cases hty; exact x0
    | 1, hty => cases hty; exact x1
    | 2, hty => cases hty; exact x2
    | 3, hty => cases hty; exact x3
    | 4, hty => cases hty; exact x4
    | 5, hty => cases hty; exact x5
    | t + 6, hty => simp [hm_tys] at hty
