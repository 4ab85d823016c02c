theorem hm_cat (r : Option Nat) : (va_rf r).category = 1 := by cases r <;> rfl
theorem hm_catI (x : Int32) : (Value.int x).category = 1 := rfl
theorem hm_catR (x : Nat) : (Value.ref x).category = 1 := rfl
theorem hm_catN : Value.null.category = 1 := rfl
theorem hm_narq (z : String) (r : Option Nat) : narrow (.object z) (va_rf r) = va_rf r := by cases r <;> rfl
theorem hm_fitq (z : String) (r : Option Nat) : fits (.object z) (va_rf r) = true := by cases r <;> rfl
theorem hm_stk {X : hm_X} {M : hm_M} {k n pc : Nat} {lv : List (Nat × Value)} {st st' : List Value} (h : st = st') (kk : hm_W X M k n pc lv st') : hm_W X M k n pc lv st := h ▸ kk
theorem hm_lv {X : hm_X} {M : hm_M} {k n pc : Nat} {lv lv' : List (Nat × Value)} {st : List Value} (h : lv = lv') (kk : hm_W X M k n pc lv' st) : hm_W X M k n pc lv st := h ▸ kk
theorem hm_sl (r : Option Nat) : (if (va_rf r).category = 2 then [Slot.val (va_rf r), Slot.second] else [Slot.val (va_rf r)]) = [Slot.val (va_rf r)] := by rw [hm_cat]; rfl
/-- how far an ArrayList's array has grown behind an add -/
def li_c (c n : Nat) : Nat := if n = c then (if c = 0 then 10 else c + c / 2) else c
/-- an ArrayList at a: n elements f 0 .. f (n - 1), its array of c places at ea -/
def li_R (D : va_G) (M : hm_M) (a ea c n : Nat) (f : Nat → Nat) : Prop := ∃ m : Int32, M a = some (hm_ob 0 [.ref ea, .int (nI n), .int m]) ∧ n ≤ c ∧ ((c = 0 ∧ ea = D.2 999 0) ∨ (2 ≤ c ∧ ∃ g : Nat → Option Nat, M ea = some (hm_ar D 0 c g) ∧ (∀ i, i < n → g i = some (f i)) ∧ ∀ i, n ≤ i → g i = none))
/-- the elements are objects -/
def li_E (M : hm_M) (n : Nat) (f : Nat → Nat) : Prop := ∀ i, i < n → ∃ (ci : Nat) (vs : List Value) (r : vw_C), M (f i) = some (hm_ob ci vs) ∧ hm_cl[ci]? = some r ∧ Cond.castable r.1 "java/lang/Object" ∈ lw_tbl
theorem hm_up_up (M : hm_M) (a : Nat) (e f : va_E) : hm_up (hm_up M a e) a f = hm_up M a f := by
  funext q
  unfold hm_up
  by_cases h : q = a
  · rw [if_pos h, if_pos h]
  · rw [if_neg h, if_neg h, if_neg h]
theorem li_len {c : Nat} (h2 : 2 ≤ c) (h4 : c ≤ 40000) : nI c + (if nI 1 < nI (c / 2) then nI (c / 2) else nI 1) = nI (c + c / 2) := by
  by_cases k : 1 < c / 2
  · rw [if_pos (nI_lt k (by omega)), nI_add]
  · rw [if_neg (nI_nlt (by omega) (by decide)), nI_add]
    congr 2
    omega
theorem nst_AL : Cond.fieldLink "java/util/ArrayList" 39 "java/util/ArrayList" "DEFAULTCAPACITY_EMPTY_ELEMENTDATA" "[Ljava/lang/Object;" ∈ hm_tb := hm_tb_in (by decide +kernel) (by decide +kernel)
section HMMATH
variable {X : hm_X} {l : Launch} {D : va_G} {BG : Nat → Option Cell} {cc : ByteArray} {own nm : String} {nL fr lo mc ms : Nat} {M : hm_M} {k n pc : Nat} {lv : List (Nat × Value)} {rest : List Value}
theorem hm_mmax (C : hm_C X l D BG cc own nm nL fr lo mc ms) {ix : Nat} (hlink : Cond.methodLink own ix ny_MA_max ∈ hm_tb) {x y : Int32} (hfr : 1 ≤ fr) (hlo : (rest.map fun v => v.category).sum + 13 ≤ lo) (hk : k ≤ mc) (hn : n ≤ ms) (hd : decode cc pc = .ok (.invokestatic ix, 3)) (kk : hm_W X M k n (pc + 3) lv (.int (if x < y then y else x) :: rest)) : hm_W X M k n pc lv (.int y :: .int x :: rest) := by
  obtain ⟨p, l', e, R, s, m, args, below, meth, c, Q, D', BG', A⟩ := X
  obtain ⟨hx, hb, hown, hts, hnw, hK, hA, hBG, hR, hml, hnm, el, eD, eB⟩ := C
  intro H locs ls h1 h2 h3 h4 h5
  exact va_mmax hx hb h5.1.symm hown (hts _ hlink) (hts _ nu_MA_max) (hts _ nz_MA) (hts _ nm_MA_max) (by rw [hR]; exact hfr) (by rw [hR]; exact hlo) (by rw [hR]; exact hk) (by rw [hR]; exact hn) hd (kk H locs ls h1 h2 h3 h4 h5)
theorem hm_mmin (C : hm_C X l D BG cc own nm nL fr lo mc ms) {ix : Nat} (hlink : Cond.methodLink own ix ny_MA_min ∈ hm_tb) {x y : Int32} (hfr : 1 ≤ fr) (hlo : (rest.map fun v => v.category).sum + 13 ≤ lo) (hk : k ≤ mc) (hn : n ≤ ms) (hd : decode cc pc = .ok (.invokestatic ix, 3)) (kk : hm_W X M k n (pc + 3) lv (.int (if y < x then y else x) :: rest)) : hm_W X M k n pc lv (.int y :: .int x :: rest) := by
  obtain ⟨p, l', e, R, s, m, args, below, meth, c, Q, D', BG', A⟩ := X
  obtain ⟨hx, hb, hown, hts, hnw, hK, hA, hBG, hR, hml, hnm, el, eD, eB⟩ := C
  intro H locs ls h1 h2 h3 h4 h5
  exact va_mmin hx hb h5.1.symm hown (hts _ hlink) (hts _ nu_MA_min) (hts _ nz_MA) (hts _ nm_MA_min) (by rw [hR]; exact hfr) (by rw [hR]; exact hlo) (by rw [hR]; exact hk) (by rw [hR]; exact hn) hd (kk H locs ls h1 h2 h3 h4 h5)
end HMMATH
theorem nat_gc : Cond.methodLink "java/util/Arrays" 86 ⟨"java/lang/Object", "getClass", "()Ljava/lang/Class;"⟩ ∈ hm_tb := nq_AR_86
theorem nat_gd : Cond.declares ⟨"java/lang/Object", "getClass", "()Ljava/lang/Class;"⟩ ∈ lw_tbl := by decide +kernel
theorem nat_gs : Cond.selects "[Ljava/lang/Object;" ⟨"java/lang/Object", "getClass", "()Ljava/lang/Class;"⟩ ⟨"java/lang/Object", "getClass", "()Ljava/lang/Class;"⟩ ∈ hm_tb := hm_tb_in (by decide +kernel) (by decide +kernel)
theorem nat_gi : Cond.instanceMethod ⟨"java/lang/Object", "getClass", "()Ljava/lang/Class;"⟩ ∈ hm_tb := hm_tb_in (by decide +kernel) (by decide +kernel)
theorem nat_gn : Cond.native ⟨"java/lang/Object", "getClass", "()Ljava/lang/Class;"⟩ ∈ hm_tb := hm_tb_in (by decide +kernel) (by decide +kernel)
theorem nat_al : Cond.methodLink "java/util/Arrays" 150 arraycopyName ∈ hm_tb := nq_AR_150
theorem nat_an : Cond.native arraycopyName ∈ hm_tb := hm_tb_in (by decide +kernel) (by decide +kernel)
theorem nat_as : Cond.static arraycopyName ∈ hm_tb := hm_tb_in (by decide +kernel) (by decide +kernel)
theorem nat_ai : Cond.initialized "java/lang/System" ∈ hm_tb := nz_SY
theorem li_hf {c : Nat} (h4 : c ≤ 40000) : nI c >>> ((1 : Int32) &&& 31) = nI (c / 2) := by
  have k := pk_shrN (n := c) (by omega) ((1 : Int32) &&& 31) 1 (by decide)
  rw [Nat.pow_one] at k
  exact k
theorem li_d1 {c : Nat} (h4 : c ≤ 40000) : nI (c + 1) - nI c = nI 1 := by
  have k := pk_sub (a := c + 1) (b := c) (by omega)
  rw [Nat.add_sub_cancel_left] at k
  exact k
theorem hm_up_cm {M : hm_M} {a b : Nat} {e f : va_E} (h : a ≠ b) : hm_up (hm_up M b e) a f = hm_up (hm_up M a f) b e := by
  funext q
  unfold hm_up
  by_cases h1 : q = a
  · rw [if_pos h1, if_pos h1, if_neg (fun z => h (h1.symm.trans z))]
  · rw [if_neg h1, if_neg h1]
theorem li_R.mono {D : va_G} {M M' : hm_M} {a ea c n : Nat} {f : Nat → Nat} (h : li_R D M a ea c n f) (hk : ∀ z, M z ≠ none → M' z = M z) : li_R D M' a ea c n f := by
  obtain ⟨m, ha, hnc, hc⟩ := h
  refine ⟨m, by rw [hk a (by rw [ha]; simp)]; exact ha, hnc, ?_⟩
  rcases hc with h | ⟨h2, g, hg, hf⟩
  · exact Or.inl h
  · exact Or.inr ⟨h2, g, by rw [hk ea (by rw [hg]; simp)]; exact hg, hf⟩
theorem hm_newN {X : hm_X} {l : Launch} {D : va_G} {BG : Nat → Option Cell} {cc : ByteArray} {own nm : String} {nL fr lo mc ms : Nat} {M : hm_M} {k n pc : Nat} {lv : List (Nat × Value)} {st : List Value} (C : hm_C X l D BG cc own nm nL fr lo mc ms) {ix ci : Nat} {fs : List Value} (Nf : Nat) (O : hm_O own ix ci fs) (hN : fs.length = Nf) (hk : k + 1 ≤ mc) (hn : n + Nf ≤ ms) (hd : decode cc pc = .ok (.new ix, 3)) (kk : ∀ q : Nat, M q = none → hm_W X (hm_up M q (hm_ob ci fs)) (k + 1) (n + Nf) (pc + 3) lv (.ref q :: st)) : hm_W X M k n pc lv st := by
  subst hN
  exact hm_new C O hk hn hd kk
