/-- the elements of an array that may be copied: objects -/
def hm_el (M : hm_M) (c : Nat) (g : Nat → Option Nat) : Prop := ∀ i : Nat, i < c → ∀ y : Nat, g i = some y → ∃ (ci : Nat) (vs : List Value) (r : vw_C), M y = some (hm_ob ci vs) ∧ hm_cl[ci]? = some r ∧ Cond.castable r.1 "java/lang/Object" ∈ lw_tbl
section HMJDK
variable {X : hm_X} {l : Launch} {D : va_G} {BG : Nat → Option Cell} {cc : ByteArray} {own nm : String} {nL fr lo mc ms : Nat} {M : hm_M} {k n pc : Nat} {lv : List (Nat × Value)} {st : List Value}
set_option maxHeartbeats 4000000 in
theorem hm_acopy (C : hm_C X l D BG cc own nm nL fr lo mc ms) {ix a0 a1 n0 n1 c0 : Nat} {f g : Nat → Option Nat} {rest : List Value} (ha0 : M a0 = some (hm_ar D 0 n0 f)) (ha1 : M a1 = some (hm_ar D 0 n1 g)) (hel : hm_el M c0 f) (h40 : c0 ≤ n0) (h41 : c0 ≤ n1) (hc0 : c0 < 2 ^ 31) {i : Int32} (hi : i = nI c0)
    (hlink : Cond.methodLink own ix arraycopyName ∈ hm_tb) (hnat : Cond.native arraycopyName ∈ hm_tb) (hstat : Cond.static arraycopyName ∈ hm_tb) (hini : Cond.initialized "java/lang/System" ∈ hm_tb) (hfr : 1 ≤ fr) (hlo : (rest.map fun v => v.category).sum + (nativeFrameWords "java/lang/System" "arraycopy" 5 + 11) ≤ lo) (hd : decode cc pc = .ok (.invokestatic ix, 3))
    (kk : hm_W X (hm_up M a1 (hm_ar D 0 n1 (va_cpy f g 0 0 c0))) k n (pc + 3) lv rest) : hm_W X M k n pc lv (.int i :: .int 0 :: .ref a1 :: .int 0 :: .ref a0 :: rest) := by
  obtain ⟨p, l', e, R, s, m, args, below, meth, c, Q, D', BG', A⟩ := X
  obtain ⟨hx, hb, hown, hts, hnw, hK, hA, hBG, hR, hml, hnm, el, eD, eB⟩ := C
  intro H locs ls h1 h2 h3 h4 h5
  subst eD
  subst hi
  have hcl : (nI c0).toNatClampNeg = c0 := nI_clamp hc0
  have h0l : (0 : Int32).toNatClampNeg = 0 := by decide
  have hP : va_P D' hm_cl [(a0, hm_ar D' 0 n0 f), (a1, hm_ar D' 0 n1 g)] H := fun i q hq => by
    match i, hq with
    | 0, hq => cases hq; exact h1 a0 _ ha0
    | 1, hq => cases hq; exact h1 a1 _ ha1
    | i + 2, hq => simp at hq
  have hK' : va_K D' hm_cl [(D'.1 (100 + 0), .object "java/lang/Object")] s := ⟨hK.1.1, fun i q hq => by
    cases i with
    | zero => cases hq; exact hK.2.1 0 _ rfl
    | succ i => simp at hq⟩
  have nn : ∀ z : Int32, ¬ z < 0 → z.toInt = (z.toNatClampNeg : Int) := by
    intro z hz
    have hz0 : (0 : Int) ≤ z.toInt := by
      have := Int32.not_lt.mp hz
      simpa using Int32.le_iff_toInt_le.mp this
    show z.toInt = ((z.toInt.toNat : Nat) : Int)
    omega
  intro T hT X
  have hc0' : H[a0]? = some (vp_cell (D'.1 (100 + 0)) (n0, .inr (.inr (.inr (.inr f))))) := h1 a0 _ ha0
  have hc1' : H[a1]? = some (vp_cell (D'.1 (100 + 0)) (n1, .inr (.inr (.inr (.inr g))))) := h1 a1 _ ha1
  obtain ⟨-, k0, hk0, cm0, hkk0⟩ := (hK.2.1 0 _ rfl).1 n0 (fun j => va_rf (f j))
  obtain ⟨-, k1, hk1, cm1, hkk1⟩ := (hK.2.1 0 _ rfl).1 n1 (fun j => va_rf (g j))
  have hz : ¬ (0 : Int32) < 0 := by decide
  have hp : ¬ nI c0 < 0 := nI_pos hc0
  obtain ⟨vm', X', step⟩ := X.arraycopy hx hown (hts _ hlink) (hts _ hnat) (hts _ hstat) (hts _ hini) (src := a0) (dst := a1) (cs := vp_cell (D'.1 (100 + 0)) (n0, .inr (.inr (.inr (.inr f))))) (cd := vp_cell (D'.1 (100 + 0)) (n1, .inr (.inr (.inr (.inr g))))) (srcPos := 0) (destPos := 0) (n := nI c0) (by rw [hT]; exact hc0') (by rw [hT]; exact hc1')
    (fun _ h => by cases h) (fun _ h => by cases h) (fun h => by cases h) (fun h => by cases h) hk0 hk1 hkk0 hkk1 rfl hz hz hp
    (by rw [nn 0 hz, nn _ hp, h0l, hcl]; show ¬ _ > ((arrV _ n0 (fun j => va_rf (f j))).slots.size : Int); rw [arrV_size]; omega)
    (by rw [nn 0 hz, nn _ hp, h0l, hcl]; show ¬ _ > ((arrV _ n1 (fun j => va_rf (g j))).slots.size : Int); rw [arrV_size]; omega)
    (fun vm₁ hal i hi => by
      rw [hcl] at hi
      have e : (vp_cell (D'.1 (100 + 0)) (n0, .inr (.inr (.inr (.inr f))))).slots.getD ((0 : Int32).toNatClampNeg + i) .null = va_rf (f i) := by
        show (arrV _ n0 (fun j => va_rf (f j))).slots.getD _ _ = _
        rw [h0l, Nat.zero_add, Array.getD_eq_getD_getElem?, arrV_read _ _ (by omega)]
        rfl
      rw [e]
      cases hy : f i with
      | none => exact ⟨rfl, trivial⟩
      | some y =>
        obtain ⟨ci, vs, r, m1, m2, m3⟩ := hel i hi y hy
        obtain ⟨r', w0, cellV, w1, w2, w3, -⟩ := h1 y _ m1
        have hcls := (hK.1.1 ci r m2).2
        obtain ⟨c9, t9, f1, f2, f3⟩ := Cond.castable_spec (va_Nw.use (A := args) rfl (hnw _ m3 rfl))
        obtain ⟨kA, comp, r1, r2, r3, -⟩ := (hK.2.1 0 _ rfl).2
        cases hk1.symm.trans r1
        cases hkk1.symm.trans r2
        obtain ⟨kE, hkE, -⟩ := Vm.findClass_spec r3
        obtain ⟨kC, hkC, -⟩ := hcls.2
        cases hcls.1.symm.trans f1
        cases r3.symm.trans f2
        obtain ⟨kC', hkC', -⟩ := hal.2.2 _ _ hkC
        obtain ⟨kE', hkE', -⟩ := hal.2.2 _ _ hkE
        refine ⟨rfl, cellV, (show T.heap[y]? = some cellV by rw [hT]; exact w1), (fun q h => by rw [w3] at h; cases h), ⟨kC', by rw [w2]; exact hkC'⟩, ?_, ?_⟩
        · exact ⟨kE', hkE'⟩
        · show vm₁.assignable _ _ = true
          rw [hal.assignable, w2]
          exact f3)
    (g := F0 m pc ls (.int (nI c0) :: .int 0 :: .ref a1 :: .int 0 :: .ref a0 :: rest)) rfl h5.1 (rest := rest) rfl (by rw [hb]; exact hd) (by rw [hR]; exact hfr) (by rw [hR]; show 2 * 0 + _ + _ ≤ lo; omega)
  have e1 : copied (vp_cell (D'.1 (100 + 0)) (n0, .inr (.inr (.inr (.inr f))))) (vp_cell (D'.1 (100 + 0)) (n1, .inr (.inr (.inr (.inr g))))) 0 0 (nI c0) = vp_cell (D'.1 (100 + 0)) (n1, .inr (.inr (.inr (.inr (va_cpy f g 0 0 c0))))) := by
    rw [vp_cell_q, vp_cell_q, vp_cell_q]
    have h9 := va_copied (fun z => va_rf z) (D'.1 (100 + 0)) (D'.1 (100 + 0)) (n0 := n0) (n1 := n1) (sp := (0 : Int32).toNatClampNeg) (dp := (0 : Int32).toNatClampNeg) (n := (nI c0).toNatClampNeg) f g (by rw [h0l, hcl]; omega)
    refine h9.trans ?_
    rw [h0l, hcl]
  rw [e1] at X' step
  have hl : a1 < H.size := (Array.getElem?_eq_some_iff.mp hc1').1
  generalize hv9 : vp_cell (D'.1 (100 + 0)) (n1, .inr (.inr (.inr (.inr (va_cpy f g 0 0 c0))))) = v9 at X' step
  have hheap : ((T.setVm vm').setCell a1 v9).heap = H.setIfInBounds a1 v9 := by rw [← hT]; rfl
  have oq : ∀ q : Nat, q ≠ a1 → (H.setIfInBounds a1 v9)[q]? = H[q]? := fun q hq => by simp [Array.getElem?_setIfInBounds, Ne.symm hq]
  have sq : (H.setIfInBounds a1 v9)[a1]? = some v9 := by simp [Array.getElem?_setIfInBounds, hl]
  obtain ⟨t, a1', b1⟩ := kk (H.setIfInBounds a1 v9) _ ls (h1.put (by rw [← hv9] at sq ⊢; exact sq) oq) (h2.put hBG (h3 a1 _ ha1) oq) (h3.put (h3 a1 _ ha1)) ⟨by simp; exact h4.1, fun q g1 g2 => by
      rw [oq q (fun e => g2 (by rw [e]; exact h3 a1 _ ha1))]
      exact h4.2.1 q g1 g2, fun q hq => by
      rcases List.mem_append.mp hq with h | h
      · exact h4.2.2 q h
      · obtain ⟨z, -, hz⟩ := List.mem_map.mp h
        rw [← hz]
        exact h3 a1 _ ha1⟩ h5 _ hheap X'
  exact ⟨t, step t a1', b1⟩
/-- getClass of an Object[], and its class object -/
theorem hm_getC (C : hm_C X l D BG cc own nm nL fr lo mc ms) {ix a n0 : Nat} {f : Nat → Option Nat} {rest : List Value} (ha : M a = some (hm_ar D 0 n0 f)) (hlink : Cond.methodLink own ix ⟨"java/lang/Object", "getClass", "()Ljava/lang/Class;"⟩ ∈ hm_tb) (hdecl : Cond.declares ⟨"java/lang/Object", "getClass", "()Ljava/lang/Class;"⟩ ∈ lw_tbl) (hsel : Cond.selects "[Ljava/lang/Object;" ⟨"java/lang/Object", "getClass", "()Ljava/lang/Class;"⟩ ⟨"java/lang/Object", "getClass", "()Ljava/lang/Class;"⟩ ∈ hm_tb) (hinst : Cond.instanceMethod ⟨"java/lang/Object", "getClass", "()Ljava/lang/Class;"⟩ ∈ hm_tb) (hnat : Cond.native ⟨"java/lang/Object", "getClass", "()Ljava/lang/Class;"⟩ ∈ hm_tb) (hfr : 1 ≤ fr) (hlo : (rest.map fun v => v.category).sum + 14 ≤ lo) (hd : decode cc pc = .ok (.invokevirtual ix, 3))
    (kk : hm_W X M k n (pc + 3) lv (.ref (D.2 999 1) :: rest)) : hm_W X M k n pc lv (.ref a :: rest) := by
  obtain ⟨p, l', e, R, s, m, args, below, meth, c, Q, D', BG', A⟩ := X
  obtain ⟨hx, hb, hown, hts, hnw, hK, hA, hBG, hR, hml, hnm, el, eD, eB⟩ := C
  intro H locs ls h1 h2 h3 h4 h5
  subst eD
  have hc' : H[a]? = some (vp_cell (D'.1 (100 + 0)) (n0, .inr (.inr (.inr (.inr f))))) := h1 a _ ha
  exact va_getC hx hb h5.1.symm hown (hts _ hlink) (va_Nw.use rfl (hnw _ hdecl rfl)) (hts _ hsel) (hts _ hinst) (hts _ hnat) hK.2.2.2.2 ⟨_, hc', rfl, va_nmO (hK.2.1 0 _ rfl).2 rfl⟩ (by rw [hR]; exact hfr) (by rw [hR]; exact hlo) hd (kk H locs ls h1 h2 h3 h4 h5)
theorem hm_ldcM (C : hm_C X l D BG cc own nm nL fr lo mc ms) {ix : Nat} (hlink : Cond.classLink own ix "[Ljava/lang/Object;" ∈ hm_tb) (hd : decode cc pc = .ok (.ldc ix, 2)) (kk : hm_W X M k n (pc + 2) lv (.ref (D.2 999 1) :: st)) : hm_W X M k n pc lv st := by
  obtain ⟨p, l', e, R, s, m, args, below, meth, c, Q, D', BG', A⟩ := X
  obtain ⟨hx, hb, hown, hts, hnw, hK, hA, hBG, hR, hml, hnm, el, eD, eB⟩ := C
  intro H locs ls h1 h2 h3 h4 h5
  subst eD
  exact va_ldcM hx hb hown (hts _ hlink) hK.2.2.2.2 hd (kk H locs ls h1 h2 h3 h4 h5)
end HMJDK
