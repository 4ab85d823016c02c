/-! THE LAYER OF HEAP MODELS. A model M says what the cells are that a method may reach (a partial map of addresses); a contract turns a model into a model. No frame is needed inside the class: a method gets all of it. -/
abbrev hm_M : Type := Nat → Option va_E
abbrev hm_ob (ci : Nat) (fs : List Value) : va_E := .inr (ci, fs)
/-- an array of references of kind t: its class is D.1 (100 + t) -/
abbrev hm_ar (D : va_G) (t N : Nat) (f : Nat → Option Nat) : va_E := .inl (D.1 (100 + t), N, .inr (.inr (.inr (.inr f))))
abbrev hm_ai (D : va_G) (t N : Nat) (f : Nat → Int32) : va_E := .inl (D.1 (100 + t), N, .inl f)
def hm_up (M : hm_M) (a : Nat) (e : va_E) : hm_M := fun q => if q = a then some e else M q
theorem hm_up_s (M : hm_M) (a : Nat) (e : va_E) : hm_up M a e a = some e := if_pos rfl
theorem hm_up_n (M : hm_M) {a b : Nat} (e : va_E) (h : b ≠ a) : hm_up M a e b = M b := if_neg h
theorem hm_up_eq {M : hm_M} {a b : Nat} {e : va_E} (h : b = a) : hm_up M a e b = some e := if_pos h
/-- cells of different classes are different cells -/
theorem hm_ne {M : hm_M} {a b ca cb : Nat} {fa fb : List Value} (ha : M a = some (hm_ob ca fa)) (hb : M b = some (hm_ob cb fb)) (h : ca ≠ cb) : a ≠ b := by
  intro e
  subst e
  rw [ha] at hb
  cases hb
  exact h rfl
theorem hm_neA {M : hm_M} {a b ca : Nat} {fa : List Value} {x : ClassId × vp_A} (ha : M a = some (hm_ob ca fa)) (hb : M b = some (.inl x)) : a ≠ b := by
  intro e
  subst e
  rw [ha] at hb
  cases hb
theorem hm_neF {M : hm_M} {a b : Nat} {ea : va_E} (ha : M a = some ea) (hb : M b = none) : a ≠ b := by
  intro e
  subst e
  rw [ha] at hb
  cases hb
def hm_P (D : va_G) (M : hm_M) (H : Heap) : Prop := ∀ (a : Nat) (e : va_E), M a = some e → va_at D hm_cl (a, e) H
/-- what lies there all the time and nobody writes -/
def hm_B (BG : Nat → Option Cell) (H : Heap) : Prop := ∀ (a : Nat) (c : Cell), BG a = some c → H[a]? = some c
def hm_In (A : Nat → Prop) (M : hm_M) : Prop := ∀ (a : Nat) (e : va_E), M a = some e → A a
def hm_A (M : hm_M) (sz : Nat) : Nat → Prop := fun q => M q ≠ none ∨ sz ≤ q
theorem hm_P.lt {D : va_G} {M : hm_M} {H : Heap} (h : hm_P D M H) {a : Nat} {e : va_E} (ha : M a = some e) : a < H.size := (h a e ha).lt
theorem hm_P.put {D : va_G} {M : hm_M} {H H1 : Heap} {a : Nat} {e : va_E} (h : hm_P D M H) (he : va_at D hm_cl (a, e) H1) (oq : ∀ q : Nat, q ≠ a → H1[q]? = H[q]?) : hm_P D (hm_up M a e) H1 := by
  intro b f hb
  by_cases hba : b = a
  · subst hba
    rw [hm_up_s] at hb
    cases hb
    exact he
  · rw [hm_up_n _ _ hba] at hb
    exact (h b f hb).kept (oq b hba)
theorem hm_P.new {D : va_G} {M : hm_M} {H H1 : Heap} {e : va_E} (h : hm_P D M H) (he : va_at D hm_cl (H.size, e) H1) (oq : ∀ q : Nat, q < H.size → H1[q]? = H[q]?) : hm_P D (hm_up M H.size e) H1 := by
  intro b f hb
  by_cases hba : b = H.size
  · subst hba
    rw [hm_up_s] at hb
    cases hb
    exact he
  · rw [hm_up_n _ _ hba] at hb
    exact (h b f hb).kept (oq b (h.lt hb))
theorem hm_P.fresh {D : va_G} {M : hm_M} {H : Heap} (h : hm_P D M H) : M H.size = none := by
  cases hm : M H.size with
  | none => rfl
  | some e => exact absurd (h.lt hm) (Nat.lt_irrefl _)
theorem hm_B.put {BG : Nat → Option Cell} {A : Nat → Prop} {H H1 : Heap} {a : Nat} (h : hm_B BG H) (hBG : ∀ q, A q → BG q = none) (ha : A a) (oq : ∀ q : Nat, q ≠ a → H1[q]? = H[q]?) : hm_B BG H1 := by
  intro b c hb
  rw [oq b (fun e => by rw [e, hBG a ha] at hb; cases hb)]
  exact h b c hb
theorem hm_B.new {BG : Nat → Option Cell} {H H1 : Heap} (h : hm_B BG H) (oq : ∀ q : Nat, q < H.size → H1[q]? = H[q]?) : hm_B BG H1 := by
  intro b c hb
  have h1 := h b c hb
  rw [oq b (Array.getElem?_eq_some_iff.mp h1).1]
  exact h1
theorem hm_In.put {A : Nat → Prop} {M : hm_M} {a : Nat} {e : va_E} (h : hm_In A M) (ha : A a) : hm_In A (hm_up M a e) := by
  intro b f hb
  by_cases hba : b = a
  · rw [hba]; exact ha
  · rw [hm_up_n _ _ hba] at hb
    exact h b f hb
theorem hm_Snew {A : Nat → Prop} {H0 H H1 : Heap} {locs : List Loc} (h : va_S A H0 H locs) (z : H1.size = H.size + 1) (oq : ∀ q : Nat, q < H.size → H1[q]? = H[q]?) : va_S A H0 H1 locs :=
  ⟨Nat.le_trans h.1 (by omega), fun q h1 h2 => (oq q (Nat.lt_of_lt_of_le h1 h.1)).trans (h.2.1 q h1 h2), h.2.2⟩
/-- the words that hold all the time, those that a callee's list may have -/
def hm_tb : List Cond := lw_tbl.filter goodWord
theorem hm_tb_in {w : Cond} (h : w ∈ lw_tbl) (g : goodWord w = true) : w ∈ hm_tb := List.mem_filter.mpr ⟨h, g⟩
theorem hm_tb_good : GoodIn hm_tb hm_tb := fun w h => ⟨h, good_of_word (List.mem_filter.mp h).2⟩
/-- words of nest mates, casts, arrays: they go along with the state -/
def hm_wk : Cond → Bool
  | .fieldLinkNest .. => true
  | .methodLinkNest .. => true
  | .castable .. => true
  | .declares .. => true
  | .arrayOver (.object _) => true
  | _ => false
def hm_N (U : State) : Prop := ∀ w ∈ lw_tbl, hm_wk w = true → va_Nw w U
theorem hm_N.warm {s U : State} (hW : s.WarmedH U.vm) (h : hm_N s) : hm_N U := by
  intro w hw hk
  have h0 := h w hw hk
  cases w with
  | fieldLinkNest a i b n d h => exact va_Nw.warmF hW h0
  | methodLinkNest a i x h => exact va_Nw.warmM hW h0
  | castable C T => exact va_Nw.warmC hW h0
  | declares x => exact va_Nw.warmD hW h0
  | arrayOver ty =>
    cases ty with
    | object C => exact va_AO.moved hW.alike h0
    | _ => simp [hm_wk] at hk
  | _ => simp [hm_wk] at hk
theorem hm_N.same {s U : State} (e : s.vm = U.vm) (h : hm_N s) : hm_N U := by
  intro w hw hk
  have h0 := h w hw hk
  cases w with
  | fieldLinkNest a i b n d h => exact va_Nw.same rfl e h0
  | methodLinkNest a i x h => exact va_Nw.same rfl e h0
  | castable C T => exact va_Nw.same rfl e h0
  | declares x => exact va_Nw.same rfl e h0
  | arrayOver ty =>
    cases ty with
    | object C => exact va_AO.moved (by rw [e]; exact Vm.Alike.refl _) h0
    | _ => simp [hm_wk] at hk
  | _ => simp [hm_wk] at hk
/-- the one static field that is read: ArrayList's empty array, at the cell D.2 999 0 -/
def hm_Z (D : va_G) (BG : Nat → Option Cell) (U : State) : Prop := ∃ (cf : ClassId) (kf : Class) (fi : Nat) (f : Field) (a : Nat) (cell : Cell), U.fieldFound? "java/util/ArrayList" "DEFAULTCAPACITY_EMPTY_ELEMENTDATA" "[Ljava/lang/Object;" = some (cf, kf, fi, f) ∧ f.isStatic = true ∧ kf.init = .initialized ∧ kf.statics = some a ∧ BG a = some cell ∧ cell.vm.isStatics = true ∧ cell.slots[f.slot]? = some (.ref (D.2 999 0))
theorem hm_Z.moved {D : va_G} {BG : Nat → Option Cell} {u U : State} (hvm : u.vm.Alike U.vm) (h : hm_Z D BG u) : hm_Z D BG U := by
  obtain ⟨cf, kf, fi, f, a, cell, h1, h2, h3, h4, h5⟩ := h
  obtain ⟨k', hi', he⟩ := State.fieldFound?_setVm hvm h1
  exact ⟨cf, k', fi, f, a, cell, hi', h2, by rw [he]; exact h3, by rw [he]; exact h4, h5⟩
/-- what is known of the tables: the classes, the kinds of arrays, the empty array, the class object of Object[] -/
def hm_K (D : va_G) (BG : Nat → Option Cell) (U : State) : Prop := va_K D hm_cl [] U ∧ (∀ (t : Nat) (ty : FieldType), hm_tys[t]? = some ty → ArrOfT U (D.1 (100 + t)) ty ∧ va_RA U (D.1 (100 + t)) ty) ∧ hm_Z D BG U ∧ (∃ cell : Cell, BG (D.2 999 0) = some cell ∧ U.isArrayOf cell (.object "java/lang/Object") ∧ cell.slots.size = 0) ∧ va_Mi "[Ljava/lang/Object;" (D.2 999 1) U
theorem hm_K.moved {D : va_G} {BG : Nat → Option Cell} {u U : State} (hvm : u.vm.Alike U.vm) (h : hm_K D BG u) : hm_K D BG U := ⟨va_K.moved hvm h.1, fun t ty ht => ⟨arrOfT_moved hvm (h.2.1 t ty ht).1, (h.2.1 t ty ht).2.moved hvm⟩, h.2.2.1.moved hvm, (by obtain ⟨cell, e1, e2, e3⟩ := h.2.2.2.1; exact ⟨cell, e1, State.isArrayOf_alike hvm e2, e3⟩), h.2.2.2.2.moved hvm⟩
abbrev hm_X : Type := Program × Launch × Env × Room × State × MethodId × Array Value × List Frame × Method × Code × (State → Prop) × va_G × (Nat → Option Cell) × (Nat → Prop)
/-- the machine at pc, with the locals lv and the stack st, over any heap that holds the model M, comes to the method's end -/
def hm_W (X : hm_X) (M : hm_M) (k n pc : Nat) (lv : List (Nat × Value)) (st : List Value) : Prop := match X with
  | (p, l, e, R, s, m, args, below, meth, c, Q, D, BG, A) => ∀ (H : Heap) (locs : List Loc) (ls : Array Slot), hm_P D M H → hm_B BG H → hm_In A M → va_S A s.heap H locs → lv_has ls c.maxLocals lv → W p l e R s m args below meth c H locs k n Q (F0 m pc ls st)
/-- what stays the same in a method: machine, code, words, room -/
def hm_C (X : hm_X) (l : Launch) (D : va_G) (BG : Nat → Option Cell) (cc : ByteArray) (own nm : String) (nL fr lo mc ms : Nat) : Prop := match X with
  | (p, l', _, R, s, m, args, _, meth, c, _, D', BG', A) => p.tables.exec = Jvm.exec ∧ c.code = cc ∧ s.vm.findClass own = some m.cls ∧ (∀ w ∈ hm_tb, w.before args s = true) ∧ hm_N s ∧ hm_K D' BG' s ∧ (∀ q, s.heap.size ≤ q → A q) ∧ (∀ q, A q → BG' q = none) ∧ R = { frames := fr, cells := mc, slots := ms, locals := lo } ∧ c.maxLocals = nL ∧ meth.name = nm ∧ l' = l ∧ D' = D ∧ BG' = BG
def hm_g : List (Nat × Value) → Nat → Option Value
  | [], _ => none
  | q :: l, i => if q.1 == i then some q.2 else hm_g l i
theorem hm_g_mem : ∀ {l : List (Nat × Value)} {i : Nat} {v : Value}, hm_g l i = some v → (i, v) ∈ l
  | [], i, v, h => by cases h
  | q :: l, i, v, h => by
    unfold hm_g at h
    by_cases hq : (q.1 == i) = true
    · rw [if_pos hq] at h
      have e1 : q.1 = i := by simpa using hq
      have e2 : q.2 = v := Option.some.inj h
      have e : q = (i, v) := Prod.ext e1 e2
      rw [e]
      exact List.mem_cons_self
    · rw [if_neg hq] at h
      exact List.mem_cons_of_mem _ (hm_g_mem h)
theorem hm_g_at {ls : Array Slot} {nL : Nat} {lv : List (Nat × Value)} {i : Nat} {v : Value} (h : lv_has ls nL lv) (hv : hm_g lv i = some v) : ls[i]? = some (.val v) := h.2.2 (i, v) (hm_g_mem hv)
theorem hm_g_get {lv : List (Nat × Value)} {i : Nat} {v : Value} (hv : hm_g lv i = some v) : ∃ j : Nat, lv[j]? = some (i, v) := List.getElem?_of_mem (hm_g_mem hv)
abbrev hm_s (lv : List (Nat × Value)) (i : Nat) (v : Value) : List (Nat × Value) := (i, v) :: lv.filter (fun q => !(q.1 == i) && !(q.1 + 1 == i && q.2.category == 2))
section HMROWS
variable {X : hm_X} {l : Launch} {D : va_G} {BG : Nat → Option Cell} {cc : ByteArray} {own nm : String} {nL fr lo mc ms : Nat} {M : hm_M} {k n pc : Nat} {lv : List (Nat × Value)} {st : List Value}
theorem hm_iconst (C : hm_C X l D BG cc own nm nL fr lo mc ms) {z : Int} {v : Int32} (hd : decode cc pc = .ok (.iconst z, 1)) (hv : Int32.ofInt z = v) (kk : hm_W X M k n (pc + 1) lv (.int v :: st)) : hm_W X M k n pc lv st := by
  obtain ⟨p, l', e, R, s, m, args, below, meth, c, Q, D', BG', A⟩ := X
  obtain ⟨hx, hb, hown, hts, hnw, hK, hA, hBG, hR, hml, hnm, el, eD, eB⟩ := C
  intro H locs ls h1 h2 h3 h4 h5
  exact lv_iconst hx hb hd hv (kk H locs ls h1 h2 h3 h4 h5)
theorem hm_bipush (C : hm_C X l D BG cc own nm nL fr lo mc ms) {z : Int} {v : Int32} (hd : decode cc pc = .ok (.bipush z, 2)) (hv : (Int8.ofInt z).toInt32 = v) (kk : hm_W X M k n (pc + 2) lv (.int v :: st)) : hm_W X M k n pc lv st := by
  obtain ⟨p, l', e, R, s, m, args, below, meth, c, Q, D', BG', A⟩ := X
  obtain ⟨hx, hb, hown, hts, hnw, hK, hA, hBG, hR, hml, hnm, el, eD, eB⟩ := C
  intro H locs ls h1 h2 h3 h4 h5
  exact lv_bipush hx hb hd hv (kk H locs ls h1 h2 h3 h4 h5)
theorem hm_sipush (C : hm_C X l D BG cc own nm nL fr lo mc ms) {z : Int} {v : Int32} (hd : decode cc pc = .ok (.sipush z, 3)) (hv : (Int16.ofInt z).toInt32 = v) (kk : hm_W X M k n (pc + 3) lv (.int v :: st)) : hm_W X M k n pc lv st := by
  obtain ⟨p, l', e, R, s, m, args, below, meth, c, Q, D', BG', A⟩ := X
  obtain ⟨hx, hb, hown, hts, hnw, hK, hA, hBG, hR, hml, hnm, el, eD, eB⟩ := C
  intro H locs ls h1 h2 h3 h4 h5
  exact lv_sipush hx hb hd hv (kk H locs ls h1 h2 h3 h4 h5)
theorem hm_ldc (C : hm_C X l D BG cc own nm nL fr lo mc ms) {ix : Nat} {v : Int32} (hw : Cond.constant own ix v ∈ hm_tb) (hd : decode cc pc = .ok (.ldc ix, 2)) (kk : hm_W X M k n (pc + 2) lv (.int v :: st)) : hm_W X M k n pc lv st := by
  obtain ⟨p, l', e, R, s, m, args, below, meth, c, Q, D', BG', A⟩ := X
  obtain ⟨hx, hb, hown, hts, hnw, hK, hA, hBG, hR, hml, hnm, el, eD, eB⟩ := C
  intro H locs ls h1 h2 h3 h4 h5
  exact lv_ldc hx hb hown (hts _ hw) hd (kk H locs ls h1 h2 h3 h4 h5)
theorem hm_null (C : hm_C X l D BG cc own nm nL fr lo mc ms)  (hd : decode cc pc = .ok (.aconst_null, 1)) (kk : hm_W X M k n (pc + 1) lv (.null :: st)) : hm_W X M k n pc lv st := by
  obtain ⟨p, l', e, R, s, m, args, below, meth, c, Q, D', BG', A⟩ := X
  obtain ⟨hx, hb, hown, hts, hnw, hK, hA, hBG, hR, hml, hnm, el, eD, eB⟩ := C
  intro H locs ls h1 h2 h3 h4 h5
  exact lv_null hx hb hd (kk H locs ls h1 h2 h3 h4 h5)
theorem hm_iload_n (C : hm_C X l D BG cc own nm nL fr lo mc ms) {i : Fin 4} {x : Int32} (hd : decode cc pc = .ok (.iload_n i, 1)) (hv : hm_g lv i = some (.int x)) (kk : hm_W X M k n (pc + 1) lv (.int x :: st)) : hm_W X M k n pc lv st := by
  obtain ⟨p, l', e, R, s, m, args, below, meth, c, Q, D', BG', A⟩ := X
  obtain ⟨hx, hb, hown, hts, hnw, hK, hA, hBG, hR, hml, hnm, el, eD, eB⟩ := C
  intro H locs ls h1 h2 h3 h4 h5
  exact lv_iload_n hx hb hd rfl (hm_g_at h5 hv) (kk H locs ls h1 h2 h3 h4 h5)
theorem hm_iload (C : hm_C X l D BG cc own nm nL fr lo mc ms) {i : Nat} {x : Int32} (hd : decode cc pc = .ok (.iload i, 2)) (hv : hm_g lv i = some (.int x)) (kk : hm_W X M k n (pc + 2) lv (.int x :: st)) : hm_W X M k n pc lv st := by
  obtain ⟨p, l', e, R, s, m, args, below, meth, c, Q, D', BG', A⟩ := X
  obtain ⟨hx, hb, hown, hts, hnw, hK, hA, hBG, hR, hml, hnm, el, eD, eB⟩ := C
  intro H locs ls h1 h2 h3 h4 h5
  exact lv_iload hx hb hd (hm_g_at h5 hv) (kk H locs ls h1 h2 h3 h4 h5)
theorem hm_aload_n (C : hm_C X l D BG cc own nm nL fr lo mc ms) {i : Fin 4} {x : Nat} (hd : decode cc pc = .ok (.aload_n i, 1)) (hv : hm_g lv i = some (.ref x)) (kk : hm_W X M k n (pc + 1) lv (.ref x :: st)) : hm_W X M k n pc lv st := by
  obtain ⟨p, l', e, R, s, m, args, below, meth, c, Q, D', BG', A⟩ := X
  obtain ⟨hx, hb, hown, hts, hnw, hK, hA, hBG, hR, hml, hnm, el, eD, eB⟩ := C
  intro H locs ls h1 h2 h3 h4 h5
  exact lv_aload_n hx hb hd rfl (hm_g_at h5 hv) (kk H locs ls h1 h2 h3 h4 h5)
theorem hm_aload (C : hm_C X l D BG cc own nm nL fr lo mc ms) {i : Nat} {x : Nat} (hd : decode cc pc = .ok (.aload i, 2)) (hv : hm_g lv i = some (.ref x)) (kk : hm_W X M k n (pc + 2) lv (.ref x :: st)) : hm_W X M k n pc lv st := by
  obtain ⟨p, l', e, R, s, m, args, below, meth, c, Q, D', BG', A⟩ := X
  obtain ⟨hx, hb, hown, hts, hnw, hK, hA, hBG, hR, hml, hnm, el, eD, eB⟩ := C
  intro H locs ls h1 h2 h3 h4 h5
  exact lv_aload hx hb hd (hm_g_at h5 hv) (kk H locs ls h1 h2 h3 h4 h5)
theorem hm_aload_nN (C : hm_C X l D BG cc own nm nL fr lo mc ms) {i : Fin 4} (hd : decode cc pc = .ok (.aload_n i, 1)) (hv : hm_g lv i = some .null) (kk : hm_W X M k n (pc + 1) lv (.null :: st)) : hm_W X M k n pc lv st := by
  obtain ⟨p, l', e, R, s, m, args, below, meth, c, Q, D', BG', A⟩ := X
  obtain ⟨hx, hb, hown, hts, hnw, hK, hA, hBG, hR, hml, hnm, el, eD, eB⟩ := C
  intro H locs ls h1 h2 h3 h4 h5
  exact lv_aload_nN hx hb hd rfl (hm_g_at h5 hv) (kk H locs ls h1 h2 h3 h4 h5)
theorem hm_aloadN (C : hm_C X l D BG cc own nm nL fr lo mc ms) {i : Nat} (hd : decode cc pc = .ok (.aload i, 2)) (hv : hm_g lv i = some .null) (kk : hm_W X M k n (pc + 2) lv (.null :: st)) : hm_W X M k n pc lv st := by
  obtain ⟨p, l', e, R, s, m, args, below, meth, c, Q, D', BG', A⟩ := X
  obtain ⟨hx, hb, hown, hts, hnw, hK, hA, hBG, hR, hml, hnm, el, eD, eB⟩ := C
  intro H locs ls h1 h2 h3 h4 h5
  exact lv_aloadN hx hb hd (hm_g_at h5 hv) (kk H locs ls h1 h2 h3 h4 h5)
theorem hm_aload_nQ (C : hm_C X l D BG cc own nm nL fr lo mc ms) {i : Fin 4} {r : Option Nat} (hd : decode cc pc = .ok (.aload_n i, 1)) (hv : hm_g lv i = some (va_rf r)) (kk : hm_W X M k n (pc + 1) lv (va_rf r :: st)) : hm_W X M k n pc lv st := by
  obtain ⟨p, l', e, R, s, m, args, below, meth, c, Q, D', BG', A⟩ := X
  obtain ⟨hx, hb, hown, hts, hnw, hK, hA, hBG, hR, hml, hnm, el, eD, eB⟩ := C
  intro H locs ls h1 h2 h3 h4 h5
  cases r with
  | none => exact lv_aload_nN hx hb hd rfl (hm_g_at h5 hv) (kk H locs ls h1 h2 h3 h4 h5)
  | some x => exact lv_aload_n hx hb hd rfl (hm_g_at h5 hv) (kk H locs ls h1 h2 h3 h4 h5)
theorem hm_aloadQ (C : hm_C X l D BG cc own nm nL fr lo mc ms) {i : Nat} {r : Option Nat} (hd : decode cc pc = .ok (.aload i, 2)) (hv : hm_g lv i = some (va_rf r)) (kk : hm_W X M k n (pc + 2) lv (va_rf r :: st)) : hm_W X M k n pc lv st := by
  obtain ⟨p, l', e, R, s, m, args, below, meth, c, Q, D', BG', A⟩ := X
  obtain ⟨hx, hb, hown, hts, hnw, hK, hA, hBG, hR, hml, hnm, el, eD, eB⟩ := C
  intro H locs ls h1 h2 h3 h4 h5
  cases r with
  | none => exact lv_aloadN hx hb hd (hm_g_at h5 hv) (kk H locs ls h1 h2 h3 h4 h5)
  | some x => exact lv_aload hx hb hd (hm_g_at h5 hv) (kk H locs ls h1 h2 h3 h4 h5)
theorem hm_istore_n (C : hm_C X l D BG cc own nm nL fr lo mc ms) {i : Fin 4} {x : Int32} (lv' : List (Nat × Value)) (hd : decode cc pc = .ok (.istore_n i, 1)) (hi : (i : Nat) < nL) (hs : hm_s lv i (.int x) = lv') (kk : hm_W X M k n (pc + 1) lv' st) : hm_W X M k n pc lv (.int x :: st) := by
  obtain ⟨p, l', e, R, s, m, args, below, meth, c, Q, D', BG', A⟩ := X
  obtain ⟨hx, hb, hown, hts, hnw, hK, hA, hBG, hR, hml, hnm, el, eD, eB⟩ := C
  intro H locs ls h1 h2 h3 h4 h5
  exact lv_istore_n hx hb hd rfl h5 (by rw [hml]; exact hi) hs (fun ls' h5' => kk H locs ls' h1 h2 h3 h4 h5')
theorem hm_istore (C : hm_C X l D BG cc own nm nL fr lo mc ms) {i : Nat} {x : Int32} (lv' : List (Nat × Value)) (hd : decode cc pc = .ok (.istore i, 2)) (hi : i < nL) (hs : hm_s lv i (.int x) = lv') (kk : hm_W X M k n (pc + 2) lv' st) : hm_W X M k n pc lv (.int x :: st) := by
  obtain ⟨p, l', e, R, s, m, args, below, meth, c, Q, D', BG', A⟩ := X
  obtain ⟨hx, hb, hown, hts, hnw, hK, hA, hBG, hR, hml, hnm, el, eD, eB⟩ := C
  intro H locs ls h1 h2 h3 h4 h5
  exact lv_istore hx hb hd h5 (by rw [hml]; exact hi) hs (fun ls' h5' => kk H locs ls' h1 h2 h3 h4 h5')
theorem hm_astore_n (C : hm_C X l D BG cc own nm nL fr lo mc ms) {i : Fin 4} {x : Nat} (lv' : List (Nat × Value)) (hd : decode cc pc = .ok (.astore_n i, 1)) (hi : (i : Nat) < nL) (hs : hm_s lv i (.ref x) = lv') (kk : hm_W X M k n (pc + 1) lv' st) : hm_W X M k n pc lv (.ref x :: st) := by
  obtain ⟨p, l', e, R, s, m, args, below, meth, c, Q, D', BG', A⟩ := X
  obtain ⟨hx, hb, hown, hts, hnw, hK, hA, hBG, hR, hml, hnm, el, eD, eB⟩ := C
  intro H locs ls h1 h2 h3 h4 h5
  exact lv_astore_n hx hb hd rfl h5 (by rw [hml]; exact hi) hs (fun ls' h5' => kk H locs ls' h1 h2 h3 h4 h5')
theorem hm_astore (C : hm_C X l D BG cc own nm nL fr lo mc ms) {i : Nat} {x : Nat} (lv' : List (Nat × Value)) (hd : decode cc pc = .ok (.astore i, 2)) (hi : i < nL) (hs : hm_s lv i (.ref x) = lv') (kk : hm_W X M k n (pc + 2) lv' st) : hm_W X M k n pc lv (.ref x :: st) := by
  obtain ⟨p, l', e, R, s, m, args, below, meth, c, Q, D', BG', A⟩ := X
  obtain ⟨hx, hb, hown, hts, hnw, hK, hA, hBG, hR, hml, hnm, el, eD, eB⟩ := C
  intro H locs ls h1 h2 h3 h4 h5
  exact lv_astore hx hb hd h5 (by rw [hml]; exact hi) hs (fun ls' h5' => kk H locs ls' h1 h2 h3 h4 h5')
theorem hm_astore_nQ (C : hm_C X l D BG cc own nm nL fr lo mc ms) {i : Fin 4} {r : Option Nat} (lv' : List (Nat × Value)) (hd : decode cc pc = .ok (.astore_n i, 1)) (hi : (i : Nat) < nL) (hs : hm_s lv i (va_rf r) = lv') (kk : hm_W X M k n (pc + 1) lv' st) : hm_W X M k n pc lv (va_rf r :: st) := by
  obtain ⟨p, l', e, R, s, m, args, below, meth, c, Q, D', BG', A⟩ := X
  obtain ⟨hx, hb, hown, hts, hnw, hK, hA, hBG, hR, hml, hnm, el, eD, eB⟩ := C
  intro H locs ls h1 h2 h3 h4 h5
  cases r with
  | none => exact lv_astore_nN hx hb hd rfl h5 (by rw [hml]; exact hi) hs (fun ls' h5' => kk H locs ls' h1 h2 h3 h4 h5')
  | some x => exact lv_astore_n hx hb hd rfl h5 (by rw [hml]; exact hi) hs (fun ls' h5' => kk H locs ls' h1 h2 h3 h4 h5')
theorem hm_astoreQ (C : hm_C X l D BG cc own nm nL fr lo mc ms) {i : Nat} {r : Option Nat} (lv' : List (Nat × Value)) (hd : decode cc pc = .ok (.astore i, 2)) (hi : i < nL) (hs : hm_s lv i (va_rf r) = lv') (kk : hm_W X M k n (pc + 2) lv' st) : hm_W X M k n pc lv (va_rf r :: st) := by
  obtain ⟨p, l', e, R, s, m, args, below, meth, c, Q, D', BG', A⟩ := X
  obtain ⟨hx, hb, hown, hts, hnw, hK, hA, hBG, hR, hml, hnm, el, eD, eB⟩ := C
  intro H locs ls h1 h2 h3 h4 h5
  cases r with
  | none => exact lv_astoreN hx hb hd h5 (by rw [hml]; exact hi) hs (fun ls' h5' => kk H locs ls' h1 h2 h3 h4 h5')
  | some x => exact lv_astore hx hb hd h5 (by rw [hml]; exact hi) hs (fun ls' h5' => kk H locs ls' h1 h2 h3 h4 h5')
theorem hm_iinc (C : hm_C X l D BG cc own nm nL fr lo mc ms) {i : Nat} {z : Int} {x v : Int32} (lv' : List (Nat × Value)) (hd : decode cc pc = .ok (.iinc i z, 3)) (hx0 : hm_g lv i = some (.int x)) (hv : x + Int32.ofInt z = v) (hi : i < nL) (hs : hm_s lv i (.int v) = lv') (kk : hm_W X M k n (pc + 3) lv' st) : hm_W X M k n pc lv st := by
  obtain ⟨p, l', e, R, s, m, args, below, meth, c, Q, D', BG', A⟩ := X
  obtain ⟨hx, hb, hown, hts, hnw, hK, hA, hBG, hR, hml, hnm, el, eD, eB⟩ := C
  intro H locs ls h1 h2 h3 h4 h5
  obtain ⟨j, hj⟩ := hm_g_get hx0
  exact lv_iinc hx hb hd h5 hj hv (by rw [hml]; exact hi) hs (fun ls' h5' => kk H locs ls' h1 h2 h3 h4 h5')
theorem hm_iadd (C : hm_C X l D BG cc own nm nL fr lo mc ms) {x y : Int32} (hd : decode cc pc = .ok (.iadd, 1)) (kk : hm_W X M k n (pc + 1) lv (.int (x + y) :: st)) : hm_W X M k n pc lv (.int y :: .int x :: st) := by
  obtain ⟨p, l', e, R, s, m, args, below, meth, c, Q, D', BG', A⟩ := X
  obtain ⟨hx, hb, hown, hts, hnw, hK, hA, hBG, hR, hml, hnm, el, eD, eB⟩ := C
  intro H locs ls h1 h2 h3 h4 h5
  exact lv_iadd hx hb hd (kk H locs ls h1 h2 h3 h4 h5)
theorem hm_isub (C : hm_C X l D BG cc own nm nL fr lo mc ms) {x y : Int32} (hd : decode cc pc = .ok (.isub, 1)) (kk : hm_W X M k n (pc + 1) lv (.int (x - y) :: st)) : hm_W X M k n pc lv (.int y :: .int x :: st) := by
  obtain ⟨p, l', e, R, s, m, args, below, meth, c, Q, D', BG', A⟩ := X
  obtain ⟨hx, hb, hown, hts, hnw, hK, hA, hBG, hR, hml, hnm, el, eD, eB⟩ := C
  intro H locs ls h1 h2 h3 h4 h5
  exact lv_isub hx hb hd (kk H locs ls h1 h2 h3 h4 h5)
theorem hm_imul (C : hm_C X l D BG cc own nm nL fr lo mc ms) {x y : Int32} (hd : decode cc pc = .ok (.imul, 1)) (kk : hm_W X M k n (pc + 1) lv (.int (x * y) :: st)) : hm_W X M k n pc lv (.int y :: .int x :: st) := by
  obtain ⟨p, l', e, R, s, m, args, below, meth, c, Q, D', BG', A⟩ := X
  obtain ⟨hx, hb, hown, hts, hnw, hK, hA, hBG, hR, hml, hnm, el, eD, eB⟩ := C
  intro H locs ls h1 h2 h3 h4 h5
  exact lv_imul hx hb hd (kk H locs ls h1 h2 h3 h4 h5)
theorem hm_iand (C : hm_C X l D BG cc own nm nL fr lo mc ms) {x y : Int32} (hd : decode cc pc = .ok (.iand, 1)) (kk : hm_W X M k n (pc + 1) lv (.int (x &&& y) :: st)) : hm_W X M k n pc lv (.int y :: .int x :: st) := by
  obtain ⟨p, l', e, R, s, m, args, below, meth, c, Q, D', BG', A⟩ := X
  obtain ⟨hx, hb, hown, hts, hnw, hK, hA, hBG, hR, hml, hnm, el, eD, eB⟩ := C
  intro H locs ls h1 h2 h3 h4 h5
  exact lv_iand hx hb hd (kk H locs ls h1 h2 h3 h4 h5)
theorem hm_ior (C : hm_C X l D BG cc own nm nL fr lo mc ms) {x y : Int32} (hd : decode cc pc = .ok (.ior, 1)) (kk : hm_W X M k n (pc + 1) lv (.int (x ||| y) :: st)) : hm_W X M k n pc lv (.int y :: .int x :: st) := by
  obtain ⟨p, l', e, R, s, m, args, below, meth, c, Q, D', BG', A⟩ := X
  obtain ⟨hx, hb, hown, hts, hnw, hK, hA, hBG, hR, hml, hnm, el, eD, eB⟩ := C
  intro H locs ls h1 h2 h3 h4 h5
  exact lv_ior hx hb hd (kk H locs ls h1 h2 h3 h4 h5)
theorem hm_ixor (C : hm_C X l D BG cc own nm nL fr lo mc ms) {x y : Int32} (hd : decode cc pc = .ok (.ixor, 1)) (kk : hm_W X M k n (pc + 1) lv (.int (x ^^^ y) :: st)) : hm_W X M k n pc lv (.int y :: .int x :: st) := by
  obtain ⟨p, l', e, R, s, m, args, below, meth, c, Q, D', BG', A⟩ := X
  obtain ⟨hx, hb, hown, hts, hnw, hK, hA, hBG, hR, hml, hnm, el, eD, eB⟩ := C
  intro H locs ls h1 h2 h3 h4 h5
  exact lv_ixor hx hb hd (kk H locs ls h1 h2 h3 h4 h5)
theorem hm_ishl (C : hm_C X l D BG cc own nm nL fr lo mc ms) {x y : Int32} (hd : decode cc pc = .ok (.ishl, 1)) (kk : hm_W X M k n (pc + 1) lv (.int (x <<< (y &&& 31)) :: st)) : hm_W X M k n pc lv (.int y :: .int x :: st) := by
  obtain ⟨p, l', e, R, s, m, args, below, meth, c, Q, D', BG', A⟩ := X
  obtain ⟨hx, hb, hown, hts, hnw, hK, hA, hBG, hR, hml, hnm, el, eD, eB⟩ := C
  intro H locs ls h1 h2 h3 h4 h5
  exact lv_ishl hx hb hd (kk H locs ls h1 h2 h3 h4 h5)
theorem hm_ishr (C : hm_C X l D BG cc own nm nL fr lo mc ms) {x y : Int32} (hd : decode cc pc = .ok (.ishr, 1)) (kk : hm_W X M k n (pc + 1) lv (.int (x >>> (y &&& 31)) :: st)) : hm_W X M k n pc lv (.int y :: .int x :: st) := by
  obtain ⟨p, l', e, R, s, m, args, below, meth, c, Q, D', BG', A⟩ := X
  obtain ⟨hx, hb, hown, hts, hnw, hK, hA, hBG, hR, hml, hnm, el, eD, eB⟩ := C
  intro H locs ls h1 h2 h3 h4 h5
  exact lv_ishr hx hb hd (kk H locs ls h1 h2 h3 h4 h5)
theorem hm_idiv (C : hm_C X l D BG cc own nm nL fr lo mc ms) {x y : Int32} (hd : decode cc pc = .ok (.idiv, 1)) (hne : ¬ y = 0) (kk : hm_W X M k n (pc + 1) lv (.int (x / y) :: st)) : hm_W X M k n pc lv (.int y :: .int x :: st) := by
  obtain ⟨p, l', e, R, s, m, args, below, meth, c, Q, D', BG', A⟩ := X
  obtain ⟨hx, hb, hown, hts, hnw, hK, hA, hBG, hR, hml, hnm, el, eD, eB⟩ := C
  intro H locs ls h1 h2 h3 h4 h5
  exact lv_idiv hx hb hd hne (kk H locs ls h1 h2 h3 h4 h5)
theorem hm_irem (C : hm_C X l D BG cc own nm nL fr lo mc ms) {x y : Int32} (hd : decode cc pc = .ok (.irem, 1)) (hne : ¬ y = 0) (kk : hm_W X M k n (pc + 1) lv (.int (x - x / y * y) :: st)) : hm_W X M k n pc lv (.int y :: .int x :: st) := by
  obtain ⟨p, l', e, R, s, m, args, below, meth, c, Q, D', BG', A⟩ := X
  obtain ⟨hx, hb, hown, hts, hnw, hK, hA, hBG, hR, hml, hnm, el, eD, eB⟩ := C
  intro H locs ls h1 h2 h3 h4 h5
  exact lv_irem hx hb hd hne (kk H locs ls h1 h2 h3 h4 h5)
theorem hm_dup (C : hm_C X l D BG cc own nm nL fr lo mc ms) {va : Value} (hd : decode cc pc = .ok (.dup, 1)) (hva : va.category = 1) (kk : hm_W X M k n (pc + 1) lv (va :: va :: st)) : hm_W X M k n pc lv (va :: st) := by
  obtain ⟨p, l', e, R, s, m, args, below, meth, c, Q, D', BG', A⟩ := X
  obtain ⟨hx, hb, hown, hts, hnw, hK, hA, hBG, hR, hml, hnm, el, eD, eB⟩ := C
  intro H locs ls h1 h2 h3 h4 h5
  exact lv_dup hx hb hd hva (kk H locs ls h1 h2 h3 h4 h5)
theorem hm_pop (C : hm_C X l D BG cc own nm nL fr lo mc ms) {va : Value} (hd : decode cc pc = .ok (.pop, 1)) (hva : va.category = 1) (kk : hm_W X M k n (pc + 1) lv st) : hm_W X M k n pc lv (va :: st) := by
  obtain ⟨p, l', e, R, s, m, args, below, meth, c, Q, D', BG', A⟩ := X
  obtain ⟨hx, hb, hown, hts, hnw, hK, hA, hBG, hR, hml, hnm, el, eD, eB⟩ := C
  intro H locs ls h1 h2 h3 h4 h5
  exact lv_pop hx hb hd hva (kk H locs ls h1 h2 h3 h4 h5)
theorem hm_dup_x1 (C : hm_C X l D BG cc own nm nL fr lo mc ms) {va vb : Value} (hd : decode cc pc = .ok (.dup_x1, 1)) (hva : va.category = 1) (hvb : vb.category = 1) (kk : hm_W X M k n (pc + 1) lv (va :: vb :: va :: st)) : hm_W X M k n pc lv (va :: vb :: st) := by
  obtain ⟨p, l', e, R, s, m, args, below, meth, c, Q, D', BG', A⟩ := X
  obtain ⟨hx, hb, hown, hts, hnw, hK, hA, hBG, hR, hml, hnm, el, eD, eB⟩ := C
  intro H locs ls h1 h2 h3 h4 h5
  exact lv_dup_x1 hx hb hd hva hvb (kk H locs ls h1 h2 h3 h4 h5)
theorem hm_dup_x2 (C : hm_C X l D BG cc own nm nL fr lo mc ms) {va vb vd : Value} (hd : decode cc pc = .ok (.dup_x2, 1)) (hva : va.category = 1) (hvb : vb.category = 1) (hvd : vd.category = 1) (kk : hm_W X M k n (pc + 1) lv (va :: vb :: vd :: va :: st)) : hm_W X M k n pc lv (va :: vb :: vd :: st) := by
  obtain ⟨p, l', e, R, s, m, args, below, meth, c, Q, D', BG', A⟩ := X
  obtain ⟨hx, hb, hown, hts, hnw, hK, hA, hBG, hR, hml, hnm, el, eD, eB⟩ := C
  intro H locs ls h1 h2 h3 h4 h5
  exact lv_dup_x2 hx hb hd hva hvb hvd (kk H locs ls h1 h2 h3 h4 h5)
theorem hm_dup2 (C : hm_C X l D BG cc own nm nL fr lo mc ms) {va vb : Value} (hd : decode cc pc = .ok (.dup2, 1)) (hva : va.category = 1) (hvb : vb.category = 1) (kk : hm_W X M k n (pc + 1) lv (va :: vb :: va :: vb :: st)) : hm_W X M k n pc lv (va :: vb :: st) := by
  obtain ⟨p, l', e, R, s, m, args, below, meth, c, Q, D', BG', A⟩ := X
  obtain ⟨hx, hb, hown, hts, hnw, hK, hA, hBG, hR, hml, hnm, el, eD, eB⟩ := C
  intro H locs ls h1 h2 h3 h4 h5
  exact lv_dup2_11 hx hb hd hva hvb (kk H locs ls h1 h2 h3 h4 h5)
theorem hm_if_eq (C : hm_C X l D BG cc own nm nL fr lo mc ms) {x : Int32} {off : Int} {tgt : Nat} (hd : decode cc pc = .ok (.ifCond .eq off, 3)) (ht : (pc : Int) + off = (tgt : Int)) (kt : (x = 0) → hm_W X M k n (tgt) lv st) (kf : (¬ x = 0) → hm_W X M k n (pc + 3) lv st) : hm_W X M k n pc lv (.int x :: st) := by
  obtain ⟨p, l', e, R, s, m, args, below, meth, c, Q, D', BG', A⟩ := X
  obtain ⟨hx, hb, hown, hts, hnw, hK, hA, hBG, hR, hml, hnm, el, eD, eB⟩ := C
  intro H locs ls h1 h2 h3 h4 h5
  exact lv_if_eq hx hb hd ht (fun q => kt q H locs ls h1 h2 h3 h4 h5) (fun q => kf q H locs ls h1 h2 h3 h4 h5)
theorem hm_if_ne (C : hm_C X l D BG cc own nm nL fr lo mc ms) {x : Int32} {off : Int} {tgt : Nat} (hd : decode cc pc = .ok (.ifCond .ne off, 3)) (ht : (pc : Int) + off = (tgt : Int)) (kt : (¬ x = 0) → hm_W X M k n (tgt) lv st) (kf : (x = 0) → hm_W X M k n (pc + 3) lv st) : hm_W X M k n pc lv (.int x :: st) := by
  obtain ⟨p, l', e, R, s, m, args, below, meth, c, Q, D', BG', A⟩ := X
  obtain ⟨hx, hb, hown, hts, hnw, hK, hA, hBG, hR, hml, hnm, el, eD, eB⟩ := C
  intro H locs ls h1 h2 h3 h4 h5
  exact lv_if_ne hx hb hd ht (fun q => kt q H locs ls h1 h2 h3 h4 h5) (fun q => kf q H locs ls h1 h2 h3 h4 h5)
theorem hm_if_lt (C : hm_C X l D BG cc own nm nL fr lo mc ms) {x : Int32} {off : Int} {tgt : Nat} (hd : decode cc pc = .ok (.ifCond .lt off, 3)) (ht : (pc : Int) + off = (tgt : Int)) (kt : (x < 0) → hm_W X M k n (tgt) lv st) (kf : (¬ x < 0) → hm_W X M k n (pc + 3) lv st) : hm_W X M k n pc lv (.int x :: st) := by
  obtain ⟨p, l', e, R, s, m, args, below, meth, c, Q, D', BG', A⟩ := X
  obtain ⟨hx, hb, hown, hts, hnw, hK, hA, hBG, hR, hml, hnm, el, eD, eB⟩ := C
  intro H locs ls h1 h2 h3 h4 h5
  exact lv_if_lt hx hb hd ht (fun q => kt q H locs ls h1 h2 h3 h4 h5) (fun q => kf q H locs ls h1 h2 h3 h4 h5)
theorem hm_if_ge (C : hm_C X l D BG cc own nm nL fr lo mc ms) {x : Int32} {off : Int} {tgt : Nat} (hd : decode cc pc = .ok (.ifCond .ge off, 3)) (ht : (pc : Int) + off = (tgt : Int)) (kt : (0 ≤ x) → hm_W X M k n (tgt) lv st) (kf : (¬ 0 ≤ x) → hm_W X M k n (pc + 3) lv st) : hm_W X M k n pc lv (.int x :: st) := by
  obtain ⟨p, l', e, R, s, m, args, below, meth, c, Q, D', BG', A⟩ := X
  obtain ⟨hx, hb, hown, hts, hnw, hK, hA, hBG, hR, hml, hnm, el, eD, eB⟩ := C
  intro H locs ls h1 h2 h3 h4 h5
  exact lv_if_ge hx hb hd ht (fun q => kt q H locs ls h1 h2 h3 h4 h5) (fun q => kf q H locs ls h1 h2 h3 h4 h5)
theorem hm_if_gt (C : hm_C X l D BG cc own nm nL fr lo mc ms) {x : Int32} {off : Int} {tgt : Nat} (hd : decode cc pc = .ok (.ifCond .gt off, 3)) (ht : (pc : Int) + off = (tgt : Int)) (kt : (0 < x) → hm_W X M k n (tgt) lv st) (kf : (¬ 0 < x) → hm_W X M k n (pc + 3) lv st) : hm_W X M k n pc lv (.int x :: st) := by
  obtain ⟨p, l', e, R, s, m, args, below, meth, c, Q, D', BG', A⟩ := X
  obtain ⟨hx, hb, hown, hts, hnw, hK, hA, hBG, hR, hml, hnm, el, eD, eB⟩ := C
  intro H locs ls h1 h2 h3 h4 h5
  exact lv_if_gt hx hb hd ht (fun q => kt q H locs ls h1 h2 h3 h4 h5) (fun q => kf q H locs ls h1 h2 h3 h4 h5)
theorem hm_if_le (C : hm_C X l D BG cc own nm nL fr lo mc ms) {x : Int32} {off : Int} {tgt : Nat} (hd : decode cc pc = .ok (.ifCond .le off, 3)) (ht : (pc : Int) + off = (tgt : Int)) (kt : (x ≤ 0) → hm_W X M k n (tgt) lv st) (kf : (¬ x ≤ 0) → hm_W X M k n (pc + 3) lv st) : hm_W X M k n pc lv (.int x :: st) := by
  obtain ⟨p, l', e, R, s, m, args, below, meth, c, Q, D', BG', A⟩ := X
  obtain ⟨hx, hb, hown, hts, hnw, hK, hA, hBG, hR, hml, hnm, el, eD, eB⟩ := C
  intro H locs ls h1 h2 h3 h4 h5
  exact lv_if_le hx hb hd ht (fun q => kt q H locs ls h1 h2 h3 h4 h5) (fun q => kf q H locs ls h1 h2 h3 h4 h5)
theorem hm_icmp_eq (C : hm_C X l D BG cc own nm nL fr lo mc ms) {x y : Int32} {off : Int} {tgt : Nat} (hd : decode cc pc = .ok (.if_icmp .eq off, 3)) (ht : (pc : Int) + off = (tgt : Int)) (kt : (x = y) → hm_W X M k n (tgt) lv st) (kf : (¬ x = y) → hm_W X M k n (pc + 3) lv st) : hm_W X M k n pc lv (.int y :: .int x :: st) := by
  obtain ⟨p, l', e, R, s, m, args, below, meth, c, Q, D', BG', A⟩ := X
  obtain ⟨hx, hb, hown, hts, hnw, hK, hA, hBG, hR, hml, hnm, el, eD, eB⟩ := C
  intro H locs ls h1 h2 h3 h4 h5
  exact lv_icmp_eq hx hb hd ht (fun q => kt q H locs ls h1 h2 h3 h4 h5) (fun q => kf q H locs ls h1 h2 h3 h4 h5)
theorem hm_icmp_ne (C : hm_C X l D BG cc own nm nL fr lo mc ms) {x y : Int32} {off : Int} {tgt : Nat} (hd : decode cc pc = .ok (.if_icmp .ne off, 3)) (ht : (pc : Int) + off = (tgt : Int)) (kt : (¬ x = y) → hm_W X M k n (tgt) lv st) (kf : (x = y) → hm_W X M k n (pc + 3) lv st) : hm_W X M k n pc lv (.int y :: .int x :: st) := by
  obtain ⟨p, l', e, R, s, m, args, below, meth, c, Q, D', BG', A⟩ := X
  obtain ⟨hx, hb, hown, hts, hnw, hK, hA, hBG, hR, hml, hnm, el, eD, eB⟩ := C
  intro H locs ls h1 h2 h3 h4 h5
  exact lv_icmp_ne hx hb hd ht (fun q => kt q H locs ls h1 h2 h3 h4 h5) (fun q => kf q H locs ls h1 h2 h3 h4 h5)
theorem hm_icmp_lt (C : hm_C X l D BG cc own nm nL fr lo mc ms) {x y : Int32} {off : Int} {tgt : Nat} (hd : decode cc pc = .ok (.if_icmp .lt off, 3)) (ht : (pc : Int) + off = (tgt : Int)) (kt : (x < y) → hm_W X M k n (tgt) lv st) (kf : (¬ x < y) → hm_W X M k n (pc + 3) lv st) : hm_W X M k n pc lv (.int y :: .int x :: st) := by
  obtain ⟨p, l', e, R, s, m, args, below, meth, c, Q, D', BG', A⟩ := X
  obtain ⟨hx, hb, hown, hts, hnw, hK, hA, hBG, hR, hml, hnm, el, eD, eB⟩ := C
  intro H locs ls h1 h2 h3 h4 h5
  exact lv_icmp_lt hx hb hd ht (fun q => kt q H locs ls h1 h2 h3 h4 h5) (fun q => kf q H locs ls h1 h2 h3 h4 h5)
theorem hm_icmp_ge (C : hm_C X l D BG cc own nm nL fr lo mc ms) {x y : Int32} {off : Int} {tgt : Nat} (hd : decode cc pc = .ok (.if_icmp .ge off, 3)) (ht : (pc : Int) + off = (tgt : Int)) (kt : (y ≤ x) → hm_W X M k n (tgt) lv st) (kf : (¬ y ≤ x) → hm_W X M k n (pc + 3) lv st) : hm_W X M k n pc lv (.int y :: .int x :: st) := by
  obtain ⟨p, l', e, R, s, m, args, below, meth, c, Q, D', BG', A⟩ := X
  obtain ⟨hx, hb, hown, hts, hnw, hK, hA, hBG, hR, hml, hnm, el, eD, eB⟩ := C
  intro H locs ls h1 h2 h3 h4 h5
  exact lv_icmp_ge hx hb hd ht (fun q => kt q H locs ls h1 h2 h3 h4 h5) (fun q => kf q H locs ls h1 h2 h3 h4 h5)
theorem hm_icmp_gt (C : hm_C X l D BG cc own nm nL fr lo mc ms) {x y : Int32} {off : Int} {tgt : Nat} (hd : decode cc pc = .ok (.if_icmp .gt off, 3)) (ht : (pc : Int) + off = (tgt : Int)) (kt : (y < x) → hm_W X M k n (tgt) lv st) (kf : (¬ y < x) → hm_W X M k n (pc + 3) lv st) : hm_W X M k n pc lv (.int y :: .int x :: st) := by
  obtain ⟨p, l', e, R, s, m, args, below, meth, c, Q, D', BG', A⟩ := X
  obtain ⟨hx, hb, hown, hts, hnw, hK, hA, hBG, hR, hml, hnm, el, eD, eB⟩ := C
  intro H locs ls h1 h2 h3 h4 h5
  exact lv_icmp_gt hx hb hd ht (fun q => kt q H locs ls h1 h2 h3 h4 h5) (fun q => kf q H locs ls h1 h2 h3 h4 h5)
theorem hm_icmp_le (C : hm_C X l D BG cc own nm nL fr lo mc ms) {x y : Int32} {off : Int} {tgt : Nat} (hd : decode cc pc = .ok (.if_icmp .le off, 3)) (ht : (pc : Int) + off = (tgt : Int)) (kt : (x ≤ y) → hm_W X M k n (tgt) lv st) (kf : (¬ x ≤ y) → hm_W X M k n (pc + 3) lv st) : hm_W X M k n pc lv (.int y :: .int x :: st) := by
  obtain ⟨p, l', e, R, s, m, args, below, meth, c, Q, D', BG', A⟩ := X
  obtain ⟨hx, hb, hown, hts, hnw, hK, hA, hBG, hR, hml, hnm, el, eD, eB⟩ := C
  intro H locs ls h1 h2 h3 h4 h5
  exact lv_icmp_le hx hb hd ht (fun q => kt q H locs ls h1 h2 h3 h4 h5) (fun q => kf q H locs ls h1 h2 h3 h4 h5)
theorem hm_acmp_eq (C : hm_C X l D BG cc own nm nL fr lo mc ms) {rx ry : Option Nat} {off : Int} {tgt : Nat} (hd : decode cc pc = .ok (.if_acmp .eq off, 3)) (ht : (pc : Int) + off = (tgt : Int)) (kt : (rx = ry) → hm_W X M k n (tgt) lv st) (kf : (¬ rx = ry) → hm_W X M k n (pc + 3) lv st) : hm_W X M k n pc lv (va_rf ry :: va_rf rx :: st) := by
  obtain ⟨p, l', e, R, s, m, args, below, meth, c, Q, D', BG', A⟩ := X
  obtain ⟨hx, hb, hown, hts, hnw, hK, hA, hBG, hR, hml, hnm, el, eD, eB⟩ := C
  intro H locs ls h1 h2 h3 h4 h5
  exact lv_acmp_eq hx hb hd ht (fun q => kt q H locs ls h1 h2 h3 h4 h5) (fun q => kf q H locs ls h1 h2 h3 h4 h5)
theorem hm_acmp_ne (C : hm_C X l D BG cc own nm nL fr lo mc ms) {rx ry : Option Nat} {off : Int} {tgt : Nat} (hd : decode cc pc = .ok (.if_acmp .ne off, 3)) (ht : (pc : Int) + off = (tgt : Int)) (kt : (¬ rx = ry) → hm_W X M k n (tgt) lv st) (kf : (rx = ry) → hm_W X M k n (pc + 3) lv st) : hm_W X M k n pc lv (va_rf ry :: va_rf rx :: st) := by
  obtain ⟨p, l', e, R, s, m, args, below, meth, c, Q, D', BG', A⟩ := X
  obtain ⟨hx, hb, hown, hts, hnw, hK, hA, hBG, hR, hml, hnm, el, eD, eB⟩ := C
  intro H locs ls h1 h2 h3 h4 h5
  exact lv_acmp_ne hx hb hd ht (fun q => kt q H locs ls h1 h2 h3 h4 h5) (fun q => kf q H locs ls h1 h2 h3 h4 h5)
theorem hm_ifnull (C : hm_C X l D BG cc own nm nL fr lo mc ms) {r : Option Nat} {off : Int} {tgt : Nat} (hd : decode cc pc = .ok (.ifnull off, 3)) (ht : (pc : Int) + off = (tgt : Int)) (kt : (r = none) → hm_W X M k n (tgt) lv st) (kf : (¬ r = none) → hm_W X M k n (pc + 3) lv st) : hm_W X M k n pc lv (va_rf r :: st) := by
  obtain ⟨p, l', e, R, s, m, args, below, meth, c, Q, D', BG', A⟩ := X
  obtain ⟨hx, hb, hown, hts, hnw, hK, hA, hBG, hR, hml, hnm, el, eD, eB⟩ := C
  intro H locs ls h1 h2 h3 h4 h5
  cases r with
  | none => exact lv_ifnullN hx hb hd ht (kt rfl H locs ls h1 h2 h3 h4 h5)
  | some x => exact lv_ifnull hx hb hd (kf (fun q => by cases q) H locs ls h1 h2 h3 h4 h5)
theorem hm_ifnonnull (C : hm_C X l D BG cc own nm nL fr lo mc ms) {r : Option Nat} {off : Int} {tgt : Nat} (hd : decode cc pc = .ok (.ifnonnull off, 3)) (ht : (pc : Int) + off = (tgt : Int)) (kt : (¬ r = none) → hm_W X M k n (tgt) lv st) (kf : (r = none) → hm_W X M k n (pc + 3) lv st) : hm_W X M k n pc lv (va_rf r :: st) := by
  obtain ⟨p, l', e, R, s, m, args, below, meth, c, Q, D', BG', A⟩ := X
  obtain ⟨hx, hb, hown, hts, hnw, hK, hA, hBG, hR, hml, hnm, el, eD, eB⟩ := C
  intro H locs ls h1 h2 h3 h4 h5
  cases r with
  | none => exact lv_ifnonnullN hx hb hd (kf rfl H locs ls h1 h2 h3 h4 h5)
  | some x => exact lv_ifnonnull hx hb hd ht (kt (fun q => by cases q) H locs ls h1 h2 h3 h4 h5)
theorem hm_goto (C : hm_C X l D BG cc own nm nL fr lo mc ms) {off : Int} {tgt : Nat} (hd : decode cc pc = .ok (.goto off, 3)) (ht : (pc : Int) + off = (tgt : Int)) (kk : hm_W X M k n (tgt) lv st) : hm_W X M k n pc lv st := by
  obtain ⟨p, l', e, R, s, m, args, below, meth, c, Q, D', BG', A⟩ := X
  obtain ⟨hx, hb, hown, hts, hnw, hK, hA, hBG, hR, hml, hnm, el, eD, eB⟩ := C
  intro H locs ls h1 h2 h3 h4 h5
  exact lv_goto hx hb hd ht (kk H locs ls h1 h2 h3 h4 h5)
theorem hm_tableIn (C : hm_C X l D BG cc own nm nL fr lo mc ms) {dflt lo' hi : Int} {offs : Array Int} {len : Nat} {x : Int32} {off : Int} {tgt : Nat} (hd : decode cc pc = .ok (.tableswitch dflt lo' hi offs, len)) (q1 : ¬ x.toInt < lo') (q2 : ¬ hi < x.toInt) (ho : offs[(x.toInt - lo').toNat]? = some off) (ht : (pc : Int) + off = (tgt : Int)) (kk : hm_W X M k n (tgt) lv st) : hm_W X M k n pc lv (.int x :: st) := by
  obtain ⟨p, l', e, R, s, m, args, below, meth, c, Q, D', BG', A⟩ := X
  obtain ⟨hx, hb, hown, hts, hnw, hK, hA, hBG, hR, hml, hnm, el, eD, eB⟩ := C
  intro H locs ls h1 h2 h3 h4 h5
  exact lv_tableIn hx hb hd q1 q2 ho ht (kk H locs ls h1 h2 h3 h4 h5)
theorem hm_tableOut (C : hm_C X l D BG cc own nm nL fr lo mc ms) {dflt lo' hi : Int} {offs : Array Int} {len : Nat} {x : Int32} {tgt : Nat} (hd : decode cc pc = .ok (.tableswitch dflt lo' hi offs, len)) (q1 : x.toInt < lo' ∨ hi < x.toInt) (ht : (pc : Int) + dflt = (tgt : Int)) (kk : hm_W X M k n (tgt) lv st) : hm_W X M k n pc lv (.int x :: st) := by
  obtain ⟨p, l', e, R, s, m, args, below, meth, c, Q, D', BG', A⟩ := X
  obtain ⟨hx, hb, hown, hts, hnw, hK, hA, hBG, hR, hml, hnm, el, eD, eB⟩ := C
  intro H locs ls h1 h2 h3 h4 h5
  exact lv_tableOut hx hb hd q1 ht (kk H locs ls h1 h2 h3 h4 h5)
theorem hm_lookup (C : hm_C X l D BG cc own nm nL fr lo mc ms) {dflt : Int} {ps : Array (Int × Int)} {len : Nat} {x : Int32} {off : Int} {tgt : Nat} (hd : decode cc pc = .ok (.lookupswitch dflt ps, len)) (hp : (ps.toList.zip (ps.toList.drop 1)).all (fun (a, next) => a.1 < next.1) = true) (ho : Op.lookupswitch.offset ps.toList dflt x.toInt = off) (ht : (pc : Int) + off = (tgt : Int)) (kk : hm_W X M k n (tgt) lv st) : hm_W X M k n pc lv (.int x :: st) := by
  obtain ⟨p, l', e, R, s, m, args, below, meth, c, Q, D', BG', A⟩ := X
  obtain ⟨hx, hb, hown, hts, hnw, hK, hA, hBG, hR, hml, hnm, el, eD, eB⟩ := C
  intro H locs ls h1 h2 h3 h4 h5
  exact lv_lookup hx hb hd hp ho ht (kk H locs ls h1 h2 h3 h4 h5)
theorem hm_castN (C : hm_C X l D BG cc own nm nL fr lo mc ms) {ix : Nat} (hd : decode cc pc = .ok (.checkcast ix, 3)) (kk : hm_W X M k n (pc + 3) lv (.null :: st)) : hm_W X M k n pc lv (.null :: st) := by
  obtain ⟨p, l', e, R, s, m, args, below, meth, c, Q, D', BG', A⟩ := X
  obtain ⟨hx, hb, hown, hts, hnw, hK, hA, hBG, hR, hml, hnm, el, eD, eB⟩ := C
  intro H locs ls h1 h2 h3 h4 h5
  exact lv_castN hx hb hd (kk H locs ls h1 h2 h3 h4 h5)
end HMROWS
/-- a field's place: its class ci, its slot j, its type; its word in own's pool at ix -/
def hm_F (own : String) (ix ci j : Nat) (ty : FieldType) (md : Nat) : Prop := ∃ (Cn : String) (T : u_T) (N : Nat) (ref : String) (ty0 : Nat → FieldType), (∀ w ∈ u_ws Cn T N, w ∈ hm_tb) ∧ hm_cl[ci]? = some (Cn, T, N) ∧ j < N ∧ Cond.fieldLink own ix ref (T j).2.1 (T j).2.2.1 ∈ hm_tb ∧ (ref = (T j).1 ∨ Cond.sameField ref (T j).1 (T j).2.1 (T j).2.2.1 ∈ hm_tb) ∧ (md = 0 → (T j).2.2.2 = false) ∧ (md = 1 → (T j).2.2.2 = true ∧ (T j).1 = own) ∧ parseFieldDescriptor (T j).2.2.1 = some ty ∧ (∀ k, k < N → parseFieldDescriptor (T k).2.2.1 = some (ty0 k)) ∧ ∀ a, a < N → ∀ b, b < N → a ≠ b → (T a).2.1 ≠ (T b).2.1
theorem hm_sameF {own : String} {s : State} {args : Array Value} (hts : ∀ w ∈ hm_tb, w.before args s = true) {ref o f d : String} (h : ref = o ∨ Cond.sameField ref o f d ∈ hm_tb) : ∀ x, s.fieldFound? o f d = some x → s.fieldFound? ref f d = some x := by
  intro x hx
  rcases h with rfl | h
  · exact hx
  · exact u_same (hts _ h) x hx
section HMHEAP
variable {X : hm_X} {l : Launch} {D : va_G} {BG : Nat → Option Cell} {cc : ByteArray} {own nm : String} {nL fr lo mc ms : Nat} {M : hm_M} {k n pc : Nat} {lv : List (Nat × Value)} {st : List Value}
theorem hm_widen {k' n' : Nat} (h1 : k ≤ k') (h2 : n ≤ n') (kk : hm_W X M k' n' pc lv st) : hm_W X M k n pc lv st := by
  obtain ⟨p, l', e, R, s, m, args, below, meth, c, Q, D', BG', A⟩ := X
  intro H locs ls q1 q2 q3 q4 q5
  exact W.widen h1 h2 (kk H locs ls q1 q2 q3 q4 q5)
theorem hm_eqM {M' : hm_M} (h : M = M') (kk : hm_W X M' k n pc lv st) : hm_W X M k n pc lv st := h ▸ kk
/-- fewer locals -/
theorem hm_less {lv' : List (Nat × Value)} (h : ∀ q ∈ lv', q ∈ lv) (kk : hm_W X M k n pc lv' st) : hm_W X M k n pc lv st := by
  obtain ⟨p, l', e, R, s, m, args, below, meth, c, Q, D', BG', A⟩ := X
  intro H locs ls q1 q2 q3 q4 q5
  exact kk H locs ls q1 q2 q3 q4 ⟨q5.1, q5.2.1, fun q hq => q5.2.2 q (h q hq)⟩
/-- a model that holds fewer cells, or the same -/
theorem hm_sub {M' : hm_M} (h : ∀ a e, M' a = some e → M a = some e) (kk : hm_W X M' k n pc lv st) : hm_W X M k n pc lv st := by
  obtain ⟨p, l', e, R, s, m, args, below, meth, c, Q, D', BG', A⟩ := X
  intro H locs ls q1 q2 q3 q4 q5
  exact kk H locs ls (fun a e ha => q1 a e (h a e ha)) q2 (fun a e ha => q3 a e (h a e ha)) q4 q5
theorem hm_get (C : hm_C X l D BG cc own nm nL fr lo mc ms) {ix ci j : Nat} {ty : FieldType} {md : Nat} (F : hm_F own ix ci j ty md) {a : Nat} {fs : List Value} {v : Value} (ha : M a = some (hm_ob ci fs)) (hv : fs[j]? = some v) (hd : decode cc pc = .ok (.getfield ix, 3)) (kk : hm_W X M k n (pc + 3) lv (v :: st)) : hm_W X M k n pc lv (.ref a :: st) := by
  obtain ⟨p, l', e, R, s, m, args, below, meth, c, Q, D', BG', A⟩ := X
  obtain ⟨hx, hb, hown, hts, hnw, hK, hA, hBG, hR, hml, hnm, el, eD, eB⟩ := C
  obtain ⟨Cn, T, N, ref, ty0, hin, hcl, hj, hlink, hsame, -, -, -, -, -⟩ := F
  intro H locs ls h1 h2 h3 h4 h5
  obtain ⟨r, g1, cell, q1, q2, q3, q4⟩ := h1 a _ ha
  have hr : r = (Cn, T, N) := Option.some.inj (g1.symm.trans hcl)
  subst hr
  obtain ⟨hS, hfc, kC, hkC, hkind⟩ := hK.1.1 ci _ hcl
  obtain ⟨cf, kf, fi, f, hi, hsl⟩ := hS j hj
  refine W.getf hx hb hown (hts _ hlink) (hm_sameF (own := own) hts hsame _ hi) (u_facts hfc hkC (u_lays hts hin hj) hi).1 q1 (by rw [q3]; exact fun h => by cases h) (v := v) ?_ rfl rfl hd (kk H locs ls h1 h2 h3 h4 h5)
  rw [hsl, q4 j hj]
  simp [vp_V, hv]
theorem hm_put (C : hm_C X l D BG cc own nm nL fr lo mc ms) {ix ci j : Nat} {ty : FieldType} (F : hm_F own ix ci j ty 0) {a : Nat} {fs : List Value} {v : Value} (ha : M a = some (hm_ob ci fs)) (hl : j < fs.length) (hn : narrow ty v = v) (hf : fits ty v = true) (hd : decode cc pc = .ok (.putfield ix, 3)) (kk : hm_W X (hm_up M a (hm_ob ci (fs.set j v))) k n (pc + 3) lv st) : hm_W X M k n pc lv (v :: .ref a :: st) := by
  obtain ⟨p, l', e, R, s, m, args, below, meth, c, Q, D', BG', A⟩ := X
  obtain ⟨hx, hb, hown, hts, hnw, hK, hA, hBG, hR, hml, hnm, el, eD, eB⟩ := C
  obtain ⟨Cn, T, N, ref, ty0, hin, hcl, hj, hlink, hsame, hfin0, -, hty, htys, hnms⟩ := F
  have hfin := hfin0 rfl
  intro H locs ls h1 h2 h3 h4 h5
  have hap := va_apart (own := own) hts hin ty0 htys hnms hK.1 hcl
  obtain ⟨r, g1, cell, q1, q2, q3, q4⟩ := h1 a _ ha
  have hr : r = (Cn, T, N) := Option.some.inj (g1.symm.trans hcl)
  subst hr
  obtain ⟨hS, hfc, kC, hkC, hkind⟩ := hK.1.1 ci _ hcl
  obtain ⟨cf, kf, fi, f, hi, hsl⟩ := hS j hj
  have hlay := hts _ (hin _ (u_in_lay hj))
  unfold u_lay at hlay
  rw [if_neg (by rw [hfin]; decide)] at hlay
  have hst := (u_facts hfc hkC (u_lays hts hin hj) hi).1
  have h6 := u_store hfc hkC hkind hlay hi hty hn hf
  refine W.putK hx hb (f := f) ⟨hown, hts _ hlink, ⟨_, _, _, hm_sameF (own := own) hts hsame _ hi⟩, hst⟩ (by rw [q2]; exact h6) q1 q3 (by rw [hsl]; exact k2_hasslot (q4 j hj)) rfl rfl hd fun H' e1 e2 e3 => ?_
  rw [hsl] at e1 ⊢
  refine kk H' _ ls (h1.put ⟨_, hcl, t_OB.to (V := updV (vp_V fs) j v) ⟨_, e1, q2, q3, t_set q4 hap hj v⟩ (fun i _ => vp_updV_set hl v i)⟩ e3) (h2.put hBG (h3 a _ ha) e3) (h3.put (h3 a _ ha)) (h4.put e2 e3 (h3 a _ ha)) h5
/-- a final field, in a constructor -/
theorem hm_putF (C : hm_C X l D BG cc own "<init>" nL fr lo mc ms) {ix ci j : Nat} {ty : FieldType} (F : hm_F own ix ci j ty 1) {a : Nat} {fs : List Value} {v : Value} (ha : M a = some (hm_ob ci fs)) (hl : j < fs.length) (hn : narrow ty v = v) (hf : fits ty v = true) (hd : decode cc pc = .ok (.putfield ix, 3)) (kk : hm_W X (hm_up M a (hm_ob ci (fs.set j v))) k n (pc + 3) lv st) : hm_W X M k n pc lv (v :: .ref a :: st) := by
  obtain ⟨p, l', e, R, s, m, args, below, meth, c, Q, D', BG', A⟩ := X
  obtain ⟨hx, hb, hown, hts, hnw, hK, hA, hBG, hR, hml, hnm, el, eD, eB⟩ := C
  obtain ⟨Cn, T, N, ref, ty0, hin, hcl, hj, hlink, hsame, -, hfd, hty, htys, hnms⟩ := F
  obtain ⟨hfin, hdec⟩ := hfd rfl
  intro H locs ls h1 h2 h3 h4 h5
  have hap := va_apart (own := own) hts hin ty0 htys hnms hK.1 hcl
  obtain ⟨r, g1, cell, q1, q2, q3, q4⟩ := h1 a _ ha
  have hr : r = (Cn, T, N) := Option.some.inj (g1.symm.trans hcl)
  subst hr
  obtain ⟨hS, hfc, kC, hkC, hkind⟩ := hK.1.1 ci _ hcl
  obtain ⟨cf, kf, fi, f, hi, hsl⟩ := hS j hj
  have hlay := hts _ (hin _ (u_in_lay hj))
  unfold u_lay at hlay
  rw [if_pos hfin] at hlay
  have hst := (u_facts hfc hkC (u_lays hts hin hj) hi).1
  have hcf : m.cls = cf := by
    obtain ⟨_, _, c', _, _, _, -, -, hf', -, -, -, hown2, -⟩ := Cond.laysFinal_spec hlay
    have e1 : c' = cf := by have := hi.symm.trans hf'; simp at this; exact this.1.symm
    rw [hdec] at hown2
    rw [← e1]; exact Option.some.inj (hown.symm.trans hown2)
  have h6 := u_fits hfc hkC hkind (Or.inr hlay) hi hty hn hf
  refine W.putFinK hx hb hown (hts _ hlink) (hm_sameF (own := own) hts hsame _ hi) hst hcf hnm (by rw [q2]; exact h6) q1 q3 (by rw [hsl]; exact k2_hasslot (q4 j hj)) rfl rfl hd fun H' e1 e2 e3 => ?_
  rw [hsl] at e1 ⊢
  refine kk H' _ ls (h1.put ⟨_, hcl, t_OB.to (V := updV (vp_V fs) j v) ⟨_, e1, q2, q3, t_set q4 hap hj v⟩ (fun i _ => vp_updV_set hl v i)⟩ e3) (h2.put hBG (h3 a _ ha) e3) (h3.put (h3 a _ ha)) (h4.put e2 e3 (h3 a _ ha)) h5
/-- an object of class ci: its word in own's pool at ix, its fields as they are born -/
def hm_O (own : String) (ix ci : Nat) (fs : List Value) : Prop := ∃ (Cn : String) (T : u_T) (ty : Nat → FieldType), (∀ w ∈ u_ws Cn T fs.length, w ∈ hm_tb) ∧ hm_cl[ci]? = some (Cn, T, fs.length) ∧ Cond.classLink own ix Cn ∈ hm_tb ∧ Cond.instantiable Cn fs.length ∈ hm_tb ∧ Cond.initialized Cn ∈ hm_tb ∧ (∀ k, k < fs.length → parseFieldDescriptor (T k).2.2.1 = some (ty k)) ∧ ∀ j, j < fs.length → defaultValue (ty j) = vp_V fs j
theorem hm_new (C : hm_C X l D BG cc own nm nL fr lo mc ms) {ix ci : Nat} {fs : List Value} (O : hm_O own ix ci fs) (hk : k + 1 ≤ mc) (hn : n + fs.length ≤ ms) (hd : decode cc pc = .ok (.new ix, 3)) (kk : ∀ q : Nat, M q = none → hm_W X (hm_up M q (hm_ob ci fs)) (k + 1) (n + fs.length) (pc + 3) lv (.ref q :: st)) : hm_W X M k n pc lv st := by
  obtain ⟨p, l', e, R, s, m, args, below, meth, c, Q, D', BG', A⟩ := X
  obtain ⟨hx, hb, hown, hts, hnw, hK, hA, hBG, hR, hml, hnm, el, eD, eB⟩ := C
  obtain ⟨Cn, T, ty, hin, hcl, hlink, hinst, hini, hty, hfs⟩ := O
  intro H locs ls h1 h2 h3 h4 h5
  have hKn := hK.1.1 ci _ hcl
  refine W.newcK hx hb hown (hts _ hlink) (hts _ hinst) (hts _ hini) rfl hd (by rw [hR]; exact hk) (by rw [hR]; exact hn) hKn.2.1 rfl fun H1 kC hkC e1 z1 o1 => ?_
  refine kk H.size h1.fresh H1 locs ls (h1.new ⟨_, hcl, (u_born ty hts hin hKn hkC e1 hty).to hfs⟩ o1) (h2.new o1) (h3.put (hA _ h4.1)) (hm_Snew h4 z1 o1) h5
/-- arrays -/
theorem hm_alen (C : hm_C X l D BG cc own nm nL fr lo mc ms) {t : Nat} {ty : FieldType} (hty : hm_tys[t]? = some ty) {a : Nat} {x : vp_A} (ha : M a = some (.inl (D.1 (100 + t), x))) (hd : decode cc pc = .ok (.arraylength, 1)) (kk : hm_W X M k n (pc + 1) lv (.int (nI x.1) :: st)) : hm_W X M k n pc lv (.ref a :: st) := by
  obtain ⟨p, l', e, R, s, m, args, below, meth, c, Q, D', BG', A⟩ := X
  obtain ⟨hx, hb, hown, hts, hnw, hK, hA, hBG, hR, hml, hnm, el, eD, eB⟩ := C
  intro H locs ls h1 h2 h3 h4 h5
  subst eD
  have hP : va_P D' hm_cl [(a, .inl (D'.1 (100 + t), x))] H := fun i q hq => by
    cases i with
    | zero => cases hq; exact h1 a _ ha
    | succ i => simp at hq
  have hK' : va_K D' hm_cl [(D'.1 (100 + t), ty)] s := ⟨hK.1.1, fun i q hq => by
    cases i with
    | zero => cases hq; exact hK.2.1 t ty hty
    | succ i => simp at hq⟩
  exact va_alen hx hb hK' hP 0 0 rfl rfl rfl hd (kk H locs ls h1 h2 h3 h4 h5)
theorem hm_aald (C : hm_C X l D BG cc own nm nL fr lo mc ms) {t N : Nat} {E : String} (hty : hm_tys[t]? = some (.object E)) {a j : Nat} {f : Nat → Option Nat} {i : Int32} (ha : M a = some (hm_ar D t N f)) (hi : i = nI j) (hj : j < N) (hN : N < 2 ^ 31) (hd : decode cc pc = .ok (.aaload, 1)) (kk : hm_W X M k n (pc + 1) lv (va_rf (f j) :: st)) : hm_W X M k n pc lv (.int i :: .ref a :: st) := by
  obtain ⟨p, l', e, R, s, m, args, below, meth, c, Q, D', BG', A⟩ := X
  obtain ⟨hx, hb, hown, hts, hnw, hK, hA, hBG, hR, hml, hnm, el, eD, eB⟩ := C
  intro H locs ls h1 h2 h3 h4 h5
  subst eD
  subst hi
  have hP : va_P D' hm_cl [(a, hm_ar D' t N f)] H := fun i q hq => by
    cases i with
    | zero => cases hq; exact h1 a _ ha
    | succ i => simp at hq
  have hK' : va_K D' hm_cl [(D'.1 (100 + t), .object E)] s := ⟨hK.1.1, fun i q hq => by
    cases i with
    | zero => cases hq; exact hK.2.1 t _ hty
    | succ i => simp at hq⟩
  refine va_aldq hx hb hK' hP 0 0 rfl rfl (vp_in_nI hj hN) hd ?_
  rw [nI_clamp (by omega)]
  exact kk H locs ls h1 h2 h3 h4 h5
theorem hm_iald (C : hm_C X l D BG cc own nm nL fr lo mc ms) {t N : Nat} (hty : hm_tys[t]? = some .int) {a j : Nat} {f : Nat → Int32} {i : Int32} (ha : M a = some (hm_ai D t N f)) (hi : i = nI j) (hj : j < N) (hN : N < 2 ^ 31) (hd : decode cc pc = .ok (.iaload, 1)) (kk : hm_W X M k n (pc + 1) lv (.int (f j) :: st)) : hm_W X M k n pc lv (.int i :: .ref a :: st) := by
  obtain ⟨p, l', e, R, s, m, args, below, meth, c, Q, D', BG', A⟩ := X
  obtain ⟨hx, hb, hown, hts, hnw, hK, hA, hBG, hR, hml, hnm, el, eD, eB⟩ := C
  intro H locs ls h1 h2 h3 h4 h5
  subst eD
  subst hi
  have hP : va_P D' hm_cl [(a, hm_ai D' t N f)] H := fun i q hq => by
    cases i with
    | zero => cases hq; exact h1 a _ ha
    | succ i => simp at hq
  have hK' : va_K D' hm_cl [(D'.1 (100 + t), .int)] s := ⟨hK.1.1, fun i q hq => by
    cases i with
    | zero => cases hq; exact hK.2.1 t _ hty
    | succ i => simp at hq⟩
  refine va_iald hx hb hK' hP 0 0 rfl rfl (vp_in_nI hj hN) hd ?_
  rw [nI_clamp (by omega)]
  exact kk H locs ls h1 h2 h3 h4 h5
theorem hm_iast (C : hm_C X l D BG cc own nm nL fr lo mc ms) {t N : Nat} (hty : hm_tys[t]? = some .int) {a j : Nat} {f : Nat → Int32} {i x : Int32} (ha : M a = some (hm_ai D t N f)) (hi : i = nI j) (hj : j < N) (hN : N < 2 ^ 31) (hd : decode cc pc = .ok (.iastore, 1)) (kk : hm_W X (hm_up M a (hm_ai D t N (upd f j x))) k n (pc + 1) lv st) : hm_W X M k n pc lv (.int x :: .int i :: .ref a :: st) := by
  obtain ⟨p, l', e, R, s, m, args, below, meth, c, Q, D', BG', A⟩ := X
  obtain ⟨hx, hb, hown, hts, hnw, hK, hA, hBG, hR, hml, hnm, el, eD, eB⟩ := C
  intro H locs ls h1 h2 h3 h4 h5
  subst eD
  subst hi
  have hcl : (nI j).toNatClampNeg = j := nI_clamp (by omega)
  have hcell : H[a]? = some (vp_cell (D'.1 (100 + t)) (N, .inl f)) := h1 a _ ha
  refine W.iast hx hb hcell ((hK.2.1 t _ hty).1 N (fun j => .int (f j))) (fun q => by cases q) (by show ¬ (nI j < 0 ∨ (arrV _ _ _).slots.size ≤ _); rw [arrV_size]; exact vp_in_nI hj hN) rfl rfl hd fun H1 e z oq => ?_
  have he : va_at D' hm_cl (a, hm_ai D' t N (upd f j x)) H1 := by
    show H1[a]? = some (vp_cell _ _)
    rw [e, vp_cell_i, vp_cell_i, arrV_store, hcl]
    congr 2
    funext q
    by_cases hq : q = j
    · subst hq
      simp [updV, upd]
    · simp [updV, upd, hq]
  exact kk H1 _ ls (h1.put he oq) (h2.put hBG (h3 a _ ha) oq) (h3.put (h3 a _ ha)) (h4.put z oq (h3 a _ ha)) h5
theorem hm_bald (C : hm_C X l D BG cc own nm nL fr lo mc ms) {t N : Nat} (hty : hm_tys[t]? = some .byte) {a j : Nat} {f : Nat → Int32} {i : Int32} (ha : M a = some (hm_ai D t N f)) (hi : i = nI j) (hj : j < N) (hN : N < 2 ^ 31) (hd : decode cc pc = .ok (.baload, 1)) (kk : hm_W X M k n (pc + 1) lv (.int (f j) :: st)) : hm_W X M k n pc lv (.int i :: .ref a :: st) := by
  obtain ⟨p, l', e, R, s, m, args, below, meth, c, Q, D', BG', A⟩ := X
  obtain ⟨hx, hb, hown, hts, hnw, hK, hA, hBG, hR, hml, hnm, el, eD, eB⟩ := C
  intro H locs ls h1 h2 h3 h4 h5
  subst eD
  subst hi
  have hP : va_P D' hm_cl [(a, hm_ai D' t N f)] H := fun i q hq => by
    cases i with
    | zero => cases hq; exact h1 a _ ha
    | succ i => simp at hq
  have hK' : va_K D' hm_cl [(D'.1 (100 + t), .byte)] s := ⟨hK.1.1, fun i q hq => by
    cases i with
    | zero => cases hq; exact hK.2.1 t _ hty
    | succ i => simp at hq⟩
  refine va_bald hx hb hK' hP 0 0 rfl rfl (vp_in_nI hj hN) hd ?_
  rw [nI_clamp (by omega)]
  exact kk H locs ls h1 h2 h3 h4 h5
theorem hm_zald (C : hm_C X l D BG cc own nm nL fr lo mc ms) {t N : Nat} (hty : hm_tys[t]? = some .boolean) {a j : Nat} {f : Nat → Int32} {i : Int32} (ha : M a = some (hm_ai D t N f)) (hi : i = nI j) (hj : j < N) (hN : N < 2 ^ 31) (hd : decode cc pc = .ok (.baload, 1)) (kk : hm_W X M k n (pc + 1) lv (.int (f j) :: st)) : hm_W X M k n pc lv (.int i :: .ref a :: st) := by
  obtain ⟨p, l', e, R, s, m, args, below, meth, c, Q, D', BG', A⟩ := X
  obtain ⟨hx, hb, hown, hts, hnw, hK, hA, hBG, hR, hml, hnm, el, eD, eB⟩ := C
  intro H locs ls h1 h2 h3 h4 h5
  subst eD
  subst hi
  have hP : va_P D' hm_cl [(a, hm_ai D' t N f)] H := fun i q hq => by
    cases i with
    | zero => cases hq; exact h1 a _ ha
    | succ i => simp at hq
  have hK' : va_K D' hm_cl [(D'.1 (100 + t), .boolean)] s := ⟨hK.1.1, fun i q hq => by
    cases i with
    | zero => cases hq; exact hK.2.1 t _ hty
    | succ i => simp at hq⟩
  refine va_zald hx hb hK' hP 0 0 rfl rfl (vp_in_nI hj hN) hd ?_
  rw [nI_clamp (by omega)]
  exact kk H locs ls h1 h2 h3 h4 h5
theorem hm_bast (C : hm_C X l D BG cc own nm nL fr lo mc ms) {t N : Nat} (hty : hm_tys[t]? = some .byte) {a j : Nat} {f : Nat → Int32} {i x : Int32} (ha : M a = some (hm_ai D t N f)) (hi : i = nI j) (hj : j < N) (hN : N < 2 ^ 31) (hd : decode cc pc = .ok (.bastore, 1)) (kk : hm_W X (hm_up M a (hm_ai D t N (upd f j (vp_nar .byte x)))) k n (pc + 1) lv st) : hm_W X M k n pc lv (.int x :: .int i :: .ref a :: st) := by
  obtain ⟨p, l', e, R, s, m, args, below, meth, c, Q, D', BG', A⟩ := X
  obtain ⟨hx, hb, hown, hts, hnw, hK, hA, hBG, hR, hml, hnm, el, eD, eB⟩ := C
  intro H locs ls h1 h2 h3 h4 h5
  subst eD
  subst hi
  have hcl : (nI j).toNatClampNeg = j := nI_clamp (by omega)
  have hcell : H[a]? = some (vp_cell (D'.1 (100 + t)) (N, .inl f)) := h1 a _ ha
  refine W.bast hx hb hcell ((hK.2.1 t _ hty).1 N (fun j => .int (f j))) (fun q => by cases q) (by show ¬ (nI j < 0 ∨ (arrV _ _ _).slots.size ≤ _); rw [arrV_size]; exact vp_in_nI hj hN) rfl rfl hd fun H1 e z oq => ?_
  have he : va_at D' hm_cl (a, hm_ai D' t N (upd f j (vp_nar .byte x))) H1 := by
    show H1[a]? = some (vp_cell _ _)
    rw [e, vp_cell_i, vp_cell_i, arrV_store, hcl]
    congr 2
    funext q
    by_cases hq : q = j
    · subst hq
      simp [updV, upd, vp_nar]
      try rfl
    · simp [updV, upd, hq]
  exact kk H1 _ ls (h1.put he oq) (h2.put hBG (h3 a _ ha) oq) (h3.put (h3 a _ ha)) (h4.put z oq (h3 a _ ha)) h5
theorem hm_zast (C : hm_C X l D BG cc own nm nL fr lo mc ms) {t N : Nat} (hty : hm_tys[t]? = some .boolean) {a j : Nat} {f : Nat → Int32} {i x : Int32} (ha : M a = some (hm_ai D t N f)) (hi : i = nI j) (hj : j < N) (hN : N < 2 ^ 31) (hd : decode cc pc = .ok (.bastore, 1)) (kk : hm_W X (hm_up M a (hm_ai D t N (upd f j (vp_nar .boolean x)))) k n (pc + 1) lv st) : hm_W X M k n pc lv (.int x :: .int i :: .ref a :: st) := by
  obtain ⟨p, l', e, R, s, m, args, below, meth, c, Q, D', BG', A⟩ := X
  obtain ⟨hx, hb, hown, hts, hnw, hK, hA, hBG, hR, hml, hnm, el, eD, eB⟩ := C
  intro H locs ls h1 h2 h3 h4 h5
  subst eD
  subst hi
  have hcl : (nI j).toNatClampNeg = j := nI_clamp (by omega)
  have hcell : H[a]? = some (vp_cell (D'.1 (100 + t)) (N, .inl f)) := h1 a _ ha
  refine W.zast hx hb hcell ((hK.2.1 t _ hty).1 N (fun j => .int (f j))) (fun q => by cases q) (by show ¬ (nI j < 0 ∨ (arrV _ _ _).slots.size ≤ _); rw [arrV_size]; exact vp_in_nI hj hN) rfl rfl hd fun H1 e z oq => ?_
  have he : va_at D' hm_cl (a, hm_ai D' t N (upd f j (vp_nar .boolean x))) H1 := by
    show H1[a]? = some (vp_cell _ _)
    rw [e, vp_cell_i, vp_cell_i, arrV_store, hcl]
    congr 2
    funext q
    by_cases hq : q = j
    · subst hq
      simp [updV, upd, vp_nar]
      try rfl
    · simp [updV, upd, hq]
  exact kk H1 _ ls (h1.put he oq) (h2.put hBG (h3 a _ ha) oq) (h3.put (h3 a _ ha)) (h4.put z oq (h3 a _ ha)) h5
/-- C's objects may lie in an array of E -/
def hm_as (Cn E : String) : Prop := Cn = E ∨ Cond.castable Cn E ∈ lw_tbl
theorem hm_aast (C : hm_C X l D BG cc own nm nL fr lo mc ms) {t N : Nat} {E : String} (hty : hm_tys[t]? = some (.object E)) {a j v ci : Nat} {vs : List Value} {r : vw_C} {f : Nat → Option Nat} {i : Int32} (ha : M a = some (hm_ar D t N f)) (hv : M v = some (hm_ob ci vs)) (hc : hm_cl[ci]? = some r) (hE : hm_as r.1 E) (hi : i = nI j) (hj : j < N) (hN : N < 2 ^ 31) (hd : decode cc pc = .ok (.aastore, 1)) (kk : hm_W X (hm_up M a (hm_ar D t N (va_up f j (some v)))) k n (pc + 1) lv st) : hm_W X M k n pc lv (.ref v :: .int i :: .ref a :: st) := by
  obtain ⟨p, l', e, R, s, m, args, below, meth, c, Q, D', BG', A⟩ := X
  obtain ⟨hx, hb, hown, hts, hnw, hK, hA, hBG, hR, hml, hnm, el, eD, eB⟩ := C
  intro H locs ls h1 h2 h3 h4 h5
  subst eD
  subst hi
  have hcl : (nI j).toNatClampNeg = j := nI_clamp (by omega)
  obtain ⟨r', g0, cellV, g1, g2, g3, -⟩ := h1 v _ hv
  have hcls := (hK.1.1 ci r hc).2
  obtain ⟨kA, comp, k1, k2, k3, -⟩ := (hK.2.1 t _ hty).2
  obtain ⟨kE, hkE, -⟩ := Vm.findClass_spec k3
  obtain ⟨kC, hkC, -⟩ := hcls.2
  have hasg : s.vm.assignable cellV.cls comp = true := by
    rw [g2]
    rcases hE with hE | hE
    · have e1 : comp = D'.1 ci := by
        have h9 := hcls.1
        rw [hE] at h9
        exact Option.some.inj (k3.symm.trans h9)
      rw [e1]
      exact va_assign hcls
    · obtain ⟨c0, t0, f1, f2, f3⟩ := Cond.castable_spec (va_Nw.use (A := args) rfl (hnw _ hE rfl))
      cases hcls.1.symm.trans f1
      cases k3.symm.trans f2
      exact f3
  have hcell : H[a]? = some (vp_cell (D'.1 (100 + t)) (N, .inr (.inr (.inr (.inr f))))) := h1 a _ ha
  refine W.aast hx hb hcell (fun q h => by cases h) (fun h => by cases h) k1 k2 rfl hkE ⟨fun q => vp_in_nI hj hN (Or.inl q), by show _ < (arrV _ _ _).slots.size; rw [arrV_size, hcl]; exact hj⟩ g1 (fun q h => by rw [g3] at h; cases h) (by rw [g2]; exact hkC) hasg rfl rfl hd fun H1 e z oq => ?_
  have he : va_at D' hm_cl (a, hm_ar D' t N (va_up f j (some v))) H1 := by
    show H1[a]? = some (vp_cell _ _)
    rw [e, vp_cell_q, vp_cell_q, arrV_store, hcl]
    congr 2
    funext q
    by_cases hq : q = j
    · subst hq
      simp [updV, va_up, va_rf]
    · simp [updV, va_up, hq]
  exact kk H1 _ ls (h1.put he oq) (h2.put hBG (h3 a _ ha) oq) (h3.put (h3 a _ ha)) (h4.put z oq (h3 a _ ha)) h5
theorem hm_aastN (C : hm_C X l D BG cc own nm nL fr lo mc ms) {t N : Nat} {E : String} (hty : hm_tys[t]? = some (.object E)) {a j : Nat} {f : Nat → Option Nat} {i : Int32} (ha : M a = some (hm_ar D t N f)) (hi : i = nI j) (hj : j < N) (hN : N < 2 ^ 31) (hd : decode cc pc = .ok (.aastore, 1)) (kk : hm_W X (hm_up M a (hm_ar D t N (va_up f j none))) k n (pc + 1) lv st) : hm_W X M k n pc lv (.null :: .int i :: .ref a :: st) := by
  obtain ⟨p, l', e, R, s, m, args, below, meth, c, Q, D', BG', A⟩ := X
  obtain ⟨hx, hb, hown, hts, hnw, hK, hA, hBG, hR, hml, hnm, el, eD, eB⟩ := C
  intro H locs ls h1 h2 h3 h4 h5
  subst eD
  subst hi
  have hcl : (nI j).toNatClampNeg = j := nI_clamp (by omega)
  have hcell : H[a]? = some (vp_cell (D'.1 (100 + t)) (N, .inr (.inr (.inr (.inr f))))) := h1 a _ ha
  refine va_WaastN (C := E) hx hb hcell ((hK.2.1 t _ hty).1 N (fun j => va_rf (f j))) (fun h => by cases h) (by show ¬ (nI j < 0 ∨ (arrV _ _ _).slots.size ≤ _); rw [arrV_size]; exact vp_in_nI hj hN) rfl rfl hd fun H1 e z oq => ?_
  have he : va_at D' hm_cl (a, hm_ar D' t N (va_up f j none)) H1 := by
    show H1[a]? = some (vp_cell _ _)
    rw [e, vp_cell_q, vp_cell_q, arrV_store, hcl]
    congr 2
    funext q
    by_cases hq : q = j
    · subst hq
      simp [updV, va_up, va_rf]
    · simp [updV, va_up, hq]
  exact kk H1 _ ls (h1.put he oq) (h2.put hBG (h3 a _ ha) oq) (h3.put (h3 a _ ha)) (h4.put z oq (h3 a _ ha)) h5
theorem hm_anew (C : hm_C X l D BG cc own nm nL fr lo mc ms) {ix t N : Nat} {E : String} (hty : hm_tys[t]? = some (.object E)) (hlink : Cond.classLink own ix E ∈ hm_tb) (hover : Cond.arrayOver (.object E) ∈ lw_tbl) {i : Int32} (hi : i = nI N) (hN : N ≤ 65536) (hk : k + 1 ≤ mc) (hn : n + N ≤ ms) (hd : decode cc pc = .ok (.anewarray ix, 3)) (kk : ∀ q : Nat, M q = none → hm_W X (hm_up M q (hm_ar D t N (fun _ => none))) (k + 1) (n + N) (pc + 3) lv (.ref q :: st)) : hm_W X M k n pc lv (.int i :: st) := by
  obtain ⟨p, l', e, R, s, m, args, below, meth, c, Q, D', BG', A⟩ := X
  obtain ⟨hx, hb, hown, hts, hnw, hK, hA, hBG, hR, hml, hnm, el, eD, eB⟩ := C
  intro H locs ls h1 h2 h3 h4 h5
  subst eD
  subst hi
  have hcl : (nI N).toNatClampNeg = N := nI_clamp (by omega)
  refine W.anew hx hb hown (hts _ hlink) (va_AO.use (hnw _ hover rfl)) rfl hd rfl (nI_pos (by omega)) (by rw [hcl]; omega) (by rw [hR]; exact hk) (by rw [hR, hcl]; exact hn) fun cA kA comp f1 f2 f3 f4 => ?_
  rw [hcl]
  obtain ⟨-, -, -, -, -, q4⟩ := (hK.2.1 t _ hty).2
  have ec : cA = D'.1 (100 + t) := Option.some.inj (f1.symm.trans q4)
  subst ec
  generalize hH1 : H.push ({ cls := D'.1 (100 + t), slots := Array.replicate N .null, vm := .none } : Cell) = H1
  have z1 : H1.size = H.size + 1 := by rw [← hH1, Array.size_push]
  have e1 : H1[H.size]? = some (arrV (D'.1 (100 + t)) N (fun _ => .null)) := by rw [← hH1, Array.getElem?_push_size, ← arrV_new]
  have o1 : ∀ q : Nat, q < H.size → H1[q]? = H[q]? := fun q hq => by rw [← hH1, Array.getElem?_push, if_neg (Nat.ne_of_lt hq)]
  exact kk H.size h1.fresh H1 locs ls (h1.new e1 o1) (h2.new o1) (h3.put (hA _ h4.1)) (hm_Snew h4 z1 o1) h5
theorem hm_pnew (C : hm_C X l D BG cc own nm nL fr lo mc ms) {t N : Nat} {ty : FieldType} (hty : hm_tys[t]? = some ty) (hpr : ty = .int ∨ ty = .byte ∨ ty = .boolean) (harr : Cond.arrayClass ty ∈ hm_tb) {i : Int32} (hi : i = nI N) (hN : N ≤ 65536) (hk : k + 1 ≤ mc) (hn : n + N ≤ ms) {aty : ArrayType} (hat : newarray.typeOf aty = ty) (hd : decode cc pc = .ok (.newarray aty, 2)) (kk : ∀ q : Nat, M q = none → hm_W X (hm_up M q (hm_ai D t N (fun _ => 0))) (k + 1) (n + N) (pc + 2) lv (.ref q :: st)) : hm_W X M k n pc lv (.int i :: st) := by
  obtain ⟨p, l', e, R, s, m, args, below, meth, c, Q, D', BG', A⟩ := X
  obtain ⟨hx, hb, hown, hts, hnw, hK, hA, hBG, hR, hml, hnm, el, eD, eB⟩ := C
  intro H locs ls h1 h2 h3 h4 h5
  subst eD
  subst hi
  have hcl : (nI N).toNatClampNeg = N := nI_clamp (by omega)
  have hby : N * componentBytes (newarray.typeOf aty) ≤ 536870912 := by
    rw [hat]
    rcases hpr with rfl | rfl | rfl
    · show N * 4 ≤ _; omega
    · show N * 1 ≤ _; omega
    · show N * 1 ≤ _; omega
  refine va_newaK hx hb (by rw [hat]; exact hts _ harr) rfl hd rfl (nI_pos (by omega)) hcl hby (by rw [hR]; exact hk) (by rw [hR]; exact hn) rfl fun H1 cA e1 z1 o1 hAr hNm => ?_
  have q4 := (hK.2.1 t _ hty).2
  have ec : cA = D'.1 (100 + t) := by
    rw [hat] at hNm
    rcases hpr with rfl | rfl | rfl <;> exact Option.some.inj (hNm.symm.trans q4)
  subst ec
  rw [hat] at e1
  have e2 : H1[H.size]? = some (arrV (D'.1 (100 + t)) N (fun _ => .int 0)) := by
    rcases hpr with rfl | rfl | rfl <;> exact e1
  exact kk H.size h1.fresh H1 locs ls (h1.new e2 o1) (h2.new o1) (h3.put (hA _ h4.1)) (hm_Snew h4 z1 o1) h5
theorem hm_cast (C : hm_C X l D BG cc own nm nL fr lo mc ms) {ix ci a : Nat} {fs : List Value} {r : vw_C} (ha : M a = some (hm_ob ci fs)) (hc : hm_cl[ci]? = some r) (hlink : Cond.classLink own ix r.1 ∈ hm_tb) (hd : decode cc pc = .ok (.checkcast ix, 3)) (kk : hm_W X M k n (pc + 3) lv (.ref a :: st)) : hm_W X M k n pc lv (.ref a :: st) := by
  obtain ⟨p, l', e, R, s, m, args, below, meth, c, Q, D', BG', A⟩ := X
  obtain ⟨hx, hb, hown, hts, hnw, hK, hA, hBG, hR, hml, hnm, el, eD, eB⟩ := C
  intro H locs ls h1 h2 h3 h4 h5
  obtain ⟨r', g0, cell, g1, g2, g3, -⟩ := h1 a _ ha
  have hcls := (hK.1.1 ci r hc).2
  exact va_castS hx hb hown (hts _ hlink) hcls ⟨cell, g1, by rw [g3]; rfl, by rw [g2]; exact hcls.1⟩ hd (kk H locs ls h1 h2 h3 h4 h5)
/-- ArrayList's empty array: the one static that is read -/
theorem hm_gets (C : hm_C X l D BG cc own nm nL fr lo mc ms) {ix : Nat} (hlink : Cond.fieldLink own ix "java/util/ArrayList" "DEFAULTCAPACITY_EMPTY_ELEMENTDATA" "[Ljava/lang/Object;" ∈ hm_tb) (hd : decode cc pc = .ok (.getstatic ix, 3)) (kk : hm_W X M k n (pc + 3) lv (.ref (D.2 999 0) :: st)) : hm_W X M k n pc lv st := by
  obtain ⟨p, l', e, R, s, m, args, below, meth, c, Q, D', BG', A⟩ := X
  obtain ⟨hx, hb, hown, hts, hnw, hK, hA, hBG, hR, hml, hnm, el, eD, eB⟩ := C
  intro H locs ls h1 h2 h3 h4 h5
  subst eD
  obtain ⟨cf, kf, fi, f, a, cell, q1, q2, q3, q4, q5, q6, q7⟩ := hK.2.2.1
  exact W.gets hx hb hown (hts _ hlink) q1 q2 q3 q4 (h2 a cell q5) (fun h => by rw [h] at q6; cases q6) q7 rfl hd (kk H locs ls h1 h2 h3 h4 h5)
theorem hm_alenE (C : hm_C X l D BG cc own nm nL fr lo mc ms) (hd : decode cc pc = .ok (.arraylength, 1)) (kk : hm_W X M k n (pc + 1) lv (.int 0 :: st)) : hm_W X M k n pc lv (.ref (D.2 999 0) :: st) := by
  obtain ⟨p, l', e, R, s, m, args, below, meth, c, Q, D', BG', A⟩ := X
  obtain ⟨hx, hb, hown, hts, hnw, hK, hA, hBG, hR, hml, hnm, el, eD, eB⟩ := C
  intro H locs ls h1 h2 h3 h4 h5
  subst eD
  obtain ⟨cell, e1, e2, e3⟩ := hK.2.2.2.1
  exact W.alen (n := 0) hx hb (h2 _ _ e1) e2 (by rw [e3]; rfl) rfl rfl hd (kk H locs ls h1 h2 h3 h4 h5)
end HMHEAP
/-- a method's end: its answer r and the model behind it -/
def hm_Q (D : va_G) (M : hm_M) (sz : Nat) (Post : Option Value → hm_M → Prop) : Array Value → State → Outcome → State → Prop := fun _ st o t => (∃ (r : Option Value) (M' : hm_M), o = .returned r ∧ Post r M' ∧ hm_P D M' t.heap ∧ hm_In (hm_A M sz) M') ∧ va_F (hm_A M sz) st t
def hm_Pre (D : va_G) (BG : Nat → Option Cell) (av : List Value) (M : hm_M) (sz : Nat) : Array Value → State → Prop := va_Pc av (fun U => U.heap.size = sz ∧ hm_P D M U.heap ∧ hm_B BG U.heap ∧ (∀ q, M q ≠ none → BG q = none) ∧ hm_N U ∧ hm_K D BG U)
/-- THE CONTRACT: at the model M, with the arguments av, the method returns, with Post -/
def hm_ct (l : Launch) (D : va_G) (BG : Nat → Option Cell) (y : MethodName) (cc : ByteArray) (maxL : Nat) (ret : Option FieldType) (fr lo mc ms : Nat) (av : List Value) (M : hm_M) (Post : Option Value → hm_M → Prop) : Prop :=
  ∀ sz : Nat, Met l y (Cond.code y cc maxL ret :: hm_tb) { frames := fr, cells := mc, slots := ms, locals := lo } (hm_Pre D BG av M sz) (hm_Q D M sz Post) mc ms (hm_A M sz)
/-- what the end of a method is held to -/
def hm_E (X : hm_X) (ret : Option FieldType) (M0 : hm_M) (Post : Option Value → hm_M → Prop) (mc ms : Nat) : Prop := match X with
  | (_, _, _, _, s, _, args, below, meth, _, Q, D, _, A) => meth.sig.returnType = ret ∧ meth.locks = false ∧ A = hm_A M0 s.heap.size ∧ Q = MQ below (hm_Q D M0 s.heap.size Post) args s mc ms (hm_A M0 s.heap.size)
theorem hm_blind {D : va_G} {BG : Nat → Option Cell} {av : List Value} {M : hm_M} {sz : Nat} : FrameBlind (hm_Pre D BG av M sz) := by
  intro a U g mk h
  obtain ⟨q0, q1, q2, q3, q4, q5, q6⟩ := h
  exact ⟨q0, q1, q2, q3, q4, hm_N.same (s := U) (U := U.calling g mk a) rfl q5, hm_K.moved (u := U) (U := U.calling g mk a) (Vm.Alike.refl U.vm) q6⟩
set_option maxHeartbeats 4000000 in
theorem hm_ct_of {l : Launch} {D : va_G} {BG : Nat → Option Cell} {y : MethodName} {cc : ByteArray} {maxL : Nat} {ret : Option FieldType} {fr lo mc ms : Nat} {av : List Value} {M : hm_M} {Post : Option Value → hm_M → Prop} (hy : plainName y.cls = true) (hav : (lg_sl av).length ≤ maxL)
    (body : ∀ X : hm_X, hm_C X l D BG cc y.cls y.name maxL fr lo mc ms → hm_E X ret M Post mc ms → hm_W X M 0 0 0 (lv_args 0 av) []) : hm_ct l D BG y cc maxL ret fr lo mc ms av M Post := by
  intro sz
  refine Met.ofW (cc := cc) (maxL := maxL) (ret := ret) hy rfl ?_
  intro p e s m args below meth c s₁ B hml hv
  obtain ⟨rfl, hsz, hP, hB, hdis, hN, hK⟩ := hv
  subst hsz
  have hts0 := atoms_spec (ws := Cond.code y cc maxL ret :: hm_tb) B.pre
  have hts : ∀ w ∈ hm_tb, w.before av.toArray s = true := fun w hw => hts0 w (List.mem_cons_of_mem _ hw)
  have hl := lv_entry av (n := maxL) hav
  rw [lg_entry_eq]
  have hBG : ∀ q, hm_A M s.heap.size q → BG q = none := by
    intro q hq
    rcases hq with hq | hq
    · exact hdis q hq
    · cases hb : BG q with
      | none => rfl
      | some cell => exact absurd (Array.getElem?_eq_some_iff.mp (hB q cell hb)).1 (by omega)
  have hC : hm_C (p, l, e, { frames := fr, cells := mc, slots := ms, locals := lo }, s, m, av.toArray, below, meth, c, MQ below (hm_Q D M s.heap.size Post) av.toArray s mc ms (hm_A M s.heap.size), D, BG, hm_A M s.heap.size) l D BG cc y.cls y.name maxL fr lo mc ms :=
    ⟨B.exec, B.bytes, findClass_of_methodNamed B.named, hts, hN, hK, fun q h => Or.inr h, hBG, rfl, hml, (name_of_methodNamed B.named B.method).1, rfl, rfl, rfl⟩
  have hE : hm_E (p, l, e, { frames := fr, cells := mc, slots := ms, locals := lo }, s, m, av.toArray, below, meth, c, MQ below (hm_Q D M s.heap.size Post) av.toArray s mc ms (hm_A M s.heap.size), D, BG, hm_A M s.heap.size) ret M Post mc ms :=
    ⟨B.returns, B.notSynchronized, rfl, rfl⟩
  have h0 := body _ hC hE
  exact h0 s.heap [] _ hP hB (fun a e ha => Or.inl (by rw [ha]; simp)) va_S.rf (by rw [hml]; exact hl)
section HMEND
variable {X : hm_X} {l : Launch} {D : va_G} {BG : Nat → Option Cell} {cc : ByteArray} {own nm : String} {nL fr lo mc ms : Nat} {M M0 : hm_M} {k n pc : Nat} {lv : List (Nat × Value)} {st : List Value} {Post : Option Value → hm_M → Prop}
theorem hm_iret (C : hm_C X l D BG cc own nm nL fr lo mc ms) (E : hm_E X (some .int) M0 Post mc ms) {v : Int32} (hk : k ≤ mc) (hn : n ≤ ms) (hp : Post (some (.int v)) M) (hd : decode cc pc = .ok (.ireturn, 1)) : hm_W X M k n pc lv [.int v] := by
  obtain ⟨p, l', e, R, s, m, args, below, meth, c, Q, D', BG', A⟩ := X
  obtain ⟨hx, hb, hown, hts, hnw, hK, hA, hBG, hR, hml, hnm, el, eD, eB⟩ := C
  obtain ⟨hr, hlk, eA, eQ⟩ := E
  intro H locs ls h1 h2 h3 h4 h5
  subst eQ; subst eA
  refine W.widen hk hn ?_
  exact W.iret hx hb hr (fun t ht hW => ⟨⟨_, M, rfl, hp, by rw [ht]; exact h1, h3⟩, h4.F ht⟩) h4.2.2 hd
theorem hm_zret (C : hm_C X l D BG cc own nm nL fr lo mc ms) (E : hm_E X (some .boolean) M0 Post mc ms) {v : Int32} (hv : v = 0 ∨ v = 1) (hk : k ≤ mc) (hn : n ≤ ms) (hp : Post (some (.int v)) M) (hd : decode cc pc = .ok (.ireturn, 1)) : hm_W X M k n pc lv [.int v] := by
  obtain ⟨p, l', e, R, s, m, args, below, meth, c, Q, D', BG', A⟩ := X
  obtain ⟨hx, hb, hown, hts, hnw, hK, hA, hBG, hR, hml, hnm, el, eD, eB⟩ := C
  obtain ⟨hr, hlk, eA, eQ⟩ := E
  intro H locs ls h1 h2 h3 h4 h5
  subst eQ; subst eA
  refine W.widen hk hn ?_
  exact W.zret hx hb hr (by rcases hv with rfl | rfl <;> rfl) (fun t ht hW => ⟨⟨_, M, rfl, hp, by rw [ht]; exact h1, h3⟩, h4.F ht⟩) h4.2.2 hd
theorem hm_vret (C : hm_C X l D BG cc own nm nL fr lo mc ms) (E : hm_E X none M0 Post mc ms) (hk : k ≤ mc) (hn : n ≤ ms) (hp : Post none M) (hd : decode cc pc = .ok (.return_, 1)) : hm_W X M k n pc lv [] := by
  obtain ⟨p, l', e, R, s, m, args, below, meth, c, Q, D', BG', A⟩ := X
  obtain ⟨hx, hb, hown, hts, hnw, hK, hA, hBG, hR, hml, hnm, el, eD, eB⟩ := C
  obtain ⟨hr, hlk, eA, eQ⟩ := E
  intro H locs ls h1 h2 h3 h4 h5
  subst eQ; subst eA
  refine W.widen hk hn ?_
  exact W.vret hx hb hr (fun t ht hW => ⟨⟨_, M, rfl, hp, by rw [ht]; exact h1, h3⟩, h4.F ht⟩) h4.2.2 hd
theorem hm_aret (C : hm_C X l D BG cc own nm nL fr lo mc ms) {rt : FieldType} (E : hm_E X (some rt) M0 Post mc ms) (hrt : (∃ z, rt = .object z) ∨ ∃ t, rt = .array t) {r : Option Nat} (hk : k ≤ mc) (hn : n ≤ ms) (hp : Post (some (va_rf r)) M) (hd : decode cc pc = .ok (.areturn, 1)) : hm_W X M k n pc lv [va_rf r] := by
  obtain ⟨p, l', e, R, s, m, args, below, meth, c, Q, D', BG', A⟩ := X
  obtain ⟨hx, hb, hown, hts, hnw, hK, hA, hBG, hR, hml, hnm, el, eD, eB⟩ := C
  obtain ⟨hr, hlk, eA, eQ⟩ := E
  intro H locs ls h1 h2 h3 h4 h5
  subst eQ; subst eA
  refine W.widen hk hn ?_
  exact W.aret hx hb hr hrt (va_rf_or r) (fun t ht hW => ⟨⟨_, M, rfl, hp, by rw [ht]; exact h1, h3⟩, h4.F ht⟩) h4.2.2 hd
end HMEND
/-- a method's words: its code, its class is there, how many parameters -/
def hm_Y (y : MethodName) (cc : ByteArray) (maxL : Nat) (ret : Option FieldType) (np : Nat) : Prop := Cond.code y cc maxL ret ∈ hm_tb ∧ Cond.initialized y.cls ∈ hm_tb ∧ (y.cls ≠ "java/lang/invoke/MethodHandle" ∧ y.cls ≠ "java/lang/invoke/VarHandle") ∧ (parseMethodDescriptor y.desc).map (fun d => d.parameters.length) = some np
section HMCALL
variable {l : Launch} {D : va_G} {BG : Nat → Option Cell} {y : MethodName} {bytes : ByteArray} {maxL np : Nat} {ret : Option FieldType} {fr' lo' mc' ms' : Nat} {av : List Value} {Mc : hm_M} {Post : Option Value → hm_M → Prop}
theorem hm_words {s : State} {args : Array Value} (hts : ∀ w ∈ hm_tb, w.before args s = true) (hY : hm_Y y bytes maxL ret np) : ∀ w ∈ (Cond.code y bytes maxL ret :: hm_tb), ∀ (a' : Array Value) (U : State), s.WarmedH U.vm → w.before a' U = true := by
  have hG : GoodIn hm_tb (Cond.code y bytes maxL ret :: hm_tb) := by
    intro w hw
    rcases List.mem_cons.mp hw with rfl | hw
    · exact hm_tb_good _ hY.1
    · exact hm_tb_good _ hw
  exact pay_in hts hG
theorem hm_callB {R : Room} {s : State} {args : Array Value} {own : String} {ix : Nat} (hts : ∀ w ∈ hm_tb, w.before args s = true) (hY : hm_Y y bytes maxL ret np) (hl : Cond.methodLink own ix y ∈ hm_tb) (hR : fr' + 1 ≤ R.frames ∧ 8 + (maxL + 11) + lo' ≤ R.locals) :
    CallB R s args own ix y bytes maxL ret (Cond.code y bytes maxL ret :: hm_tb) { frames := fr', cells := mc', slots := ms', locals := lo' } mc' ms' np := by
  refine ⟨rfl, rfl, hR.1, hR.2, hm_words hts hY, List.mem_cons_self, hts _ hY.1, hts _ hY.2.1, hY.2.2.1, fun sig h => ?_, hts _ hl⟩
  have h2 := hY.2.2.2
  rw [h] at h2
  exact (Option.some.inj h2).symm
variable {X : hm_X} {cc : ByteArray} {own nm : String} {nL fr lo mc ms : Nat} {M : hm_M} {k n pc ix : Nat} {lv : List (Nat × Value)} {rest : List Value}
/-- behind a call, with all of the model -/
theorem hm_after {p : Program} {e : Env} {R : Room} {s : State} {m : MethodId} {args : Array Value} {below : List Frame} {meth : Method} {c : Code} {Q : State → Prop} {A : Nat → Prop} {H : Heap} {locs : List Loc} {ls : Array Slot} {st0 : List Value} {a : Array Value}
    (hr : va_Run p l e R s m args below meth c H locs k n mc' ms' (F0 m pc ls st0) rest (hm_Q D M H.size Post a) (hm_A M H.size)) (hA : ∀ q, s.heap.size ≤ q → A q) (hBG : ∀ q, A q → BG q = none) (h1 : hm_P D M H) (h2 : hm_B BG H) (h3 : hm_In A M) (h4 : va_S A s.heap H locs) (h5 : lv_has ls c.maxLocals lv)
    (kk : ∀ (r : Option Value) (M' : hm_M), Post r M' → hm_W (p, l, e, R, s, m, args, below, meth, c, Q, D, BG, A) M' (k + mc') (n + ms') (pc + 3) lv (r.toList ++ rest)) : W p l e R s m args below meth c H locs k n Q (F0 m pc ls st0) := by
  intro T hT S
  obtain ⟨v, st₀, t, T', L, h0, X', hL, e1, e2, ⟨⟨r, M', hv, hp, hP', hI'⟩, hz, hk⟩, stp⟩ := hr T hT S
  cases hv
  rw [h0] at hz hk
  have hAA : ∀ q, hm_A M H.size q → A q := by
    intro q hq
    rcases hq with hq | hq
    · cases hm : M q with
      | none => exact absurd hm hq
      | some x => exact h3 q x hm
    · exact hA q (Nat.le_trans h4.1 hq)
  have w := kk v M' hp T'.heap (locs ++ L) ls (by rw [e1]; exact hP') (fun b cell hb => by
      have hb' := h2 b cell hb
      rw [e1, hk b (Array.getElem?_eq_some_iff.mp hb').1 (fun z => by rw [hBG b (hAA b z)] at hb; cases hb)]
      exact hb') (fun b x hb => hAA b (hI' b x hb)) ⟨Nat.le_trans h4.1 (by rw [e1]; exact hz), fun q g1 g2 => by rw [e1, hk q (Nat.lt_of_lt_of_le g1 h4.1) (fun z => g2 (hAA q z))]; exact h4.2.1 q g1 g2, fun q hq => by
      rcases List.mem_append.mp hq with h | h
      · exact h4.2.2 q h
      · exact hAA _ (hL q h)⟩ h5
  obtain ⟨t2, a1, b1⟩ := w T' rfl X'
  exact ⟨t2, stp t2 a1, b1⟩
set_option maxHeartbeats 4000000 in
theorem hm_callV (C : hm_C X l D BG cc own nm nL fr lo mc ms) (hM : hm_ct l D BG y bytes maxL ret fr' lo' mc' ms' av M Post) (hY : hm_Y y bytes maxL ret np) {b ci : Nat} {fs : List Value} {T : u_T} {N : Nat} {Cn : String} (As : List Value) (hav : av = .ref b :: As) (hb0 : M b = some (hm_ob ci fs)) (hcl : hm_cl[ci]? = some (Cn, T, N)) (hl : Cond.methodLink own ix y ∈ hm_tb) (hin : Cond.instanceMethod y ∈ hm_tb) (hse : Cond.selects Cn y y ∈ hm_tb) (hn : As.length = np) {st : List Value} (hst : st = As.reverse ++ .ref b :: rest) (hw : (rest.map fun v => v.category).sum ≤ 8) (hfr : fr' + 1 ≤ fr) (hlo : 8 + (maxL + 11) + lo' ≤ lo) (hk : k + mc' ≤ mc) (hs : n + ms' ≤ ms) (hd : decode cc pc = .ok (.invokevirtual ix, 3))
    (kk : ∀ (r : Option Value) (M' : hm_M), Post r M' → hm_W X M' (k + mc') (n + ms') (pc + 3) lv (r.toList ++ rest)) : hm_W X M k n pc lv st := by
  obtain ⟨p, l', e, R, s, m, args, below, meth, c, Q, D', BG', A⟩ := X
  obtain ⟨hx, hb, hown, hts, hnw, hK, hA, hBG, hR, hml, hnm, el, eD, eB⟩ := C
  intro H locs ls h1 h2 h3 h4 h5
  subst el; subst eD; subst eB; subst hav; subst hst
  obtain ⟨r', g0, cell, g1, g2, g3, -⟩ := h1 b _ hb0
  have hcls := (hK.1.1 ci _ hcl).2
  have hdis : ∀ q, M q ≠ none → BG' q = none := fun q hq => by
    cases hm : M q with
    | none => exact absurd hm hq
    | some x => exact hBG q (h3 q x hm)
  exact hm_after (va_runV (C := Cn) (As := As) (rest := rest) (Ts := hm_tb) (nL := nL) ⟨hx, hb, hml, hown, hts⟩ (hM H.size) ⟨hm_callB hts hY hl (by rw [hR]; exact ⟨hfr, hlo⟩), hts _ hin, hts _ hse⟩ ⟨hm_blind, ⟨cell, g1, by rw [g3]; rfl, by rw [g2]; exact hcls.1⟩, fun U hU hW => ⟨rfl, by rw [hU], by rw [hU]; exact h1, by rw [hU]; exact h2, hdis, hnw.warm hW, hK.moved hW.alike⟩⟩ rfl hn (by rw [← hml]; exact h5.1) rfl (lv_room hw) hd (by rw [hR]; exact ⟨hk, hs⟩)) hA hBG h1 h2 h3 h4 h5 kk
set_option maxHeartbeats 4000000 in
theorem hm_callS (C : hm_C X l D BG cc own nm nL fr lo mc ms) (hM : hm_ct l D BG y bytes maxL ret fr' lo' mc' ms' av M Post) (hY : hm_Y y bytes maxL ret np) (hl : Cond.methodLink own ix y ∈ hm_tb) (hsta : Cond.static y ∈ hm_tb) (hn : av.length = np) {st : List Value} (hst : st = av.reverse ++ rest) (hw : (rest.map fun v => v.category).sum ≤ 8) (hfr : fr' + 1 ≤ fr) (hlo : 8 + (maxL + 11) + lo' ≤ lo) (hk : k + mc' ≤ mc) (hs : n + ms' ≤ ms) (hd : decode cc pc = .ok (.invokestatic ix, 3))
    (kk : ∀ (r : Option Value) (M' : hm_M), Post r M' → hm_W X M' (k + mc') (n + ms') (pc + 3) lv (r.toList ++ rest)) : hm_W X M k n pc lv st := by
  obtain ⟨p, l', e, R, s, m, args, below, meth, c, Q, D', BG', A⟩ := X
  obtain ⟨hx, hb, hown, hts, hnw, hK, hA, hBG, hR, hml, hnm, el, eD, eB⟩ := C
  intro H locs ls h1 h2 h3 h4 h5
  subst el; subst eD; subst eB; subst hst
  have hdis : ∀ q, M q ≠ none → BG' q = none := fun q hq => by
    cases hm : M q with
    | none => exact absurd hm hq
    | some x => exact hBG q (h3 q x hm)
  exact hm_after (va_runS (As := av) (rest := rest) (Ts := hm_tb) (nL := nL) ⟨hx, hb, hml, hown, hts⟩ (hM H.size) ⟨hm_callB hts hY hl (by rw [hR]; exact ⟨hfr, hlo⟩), hts _ hsta⟩ ⟨hm_blind, fun U hU hW => ⟨rfl, by rw [hU], by rw [hU]; exact h1, by rw [hU]; exact h2, hdis, hnw.warm hW, hK.moved hW.alike⟩⟩ rfl hn (by rw [← hml]; exact h5.1) rfl (lv_room hw) hd (by rw [hR]; exact ⟨hk, hs⟩)) hA hBG h1 h2 h3 h4 h5 kk
set_option maxHeartbeats 4000000 in
theorem hm_callI (C : hm_C X l D BG cc own nm nL fr lo mc ms) (hM : hm_ct l D BG y bytes maxL none fr' lo' mc' ms' av M Post) (hY : hm_Y y bytes maxL none np) (hy : y.name = "<init>") (hl : Cond.methodLink own ix y ∈ hm_tb) (hin : Cond.instanceMethod y ∈ hm_tb) {b : Nat} (As : List Value) (hav : av = .ref b :: As) (hn : As.length = np) {st : List Value} (hst : st = As.reverse ++ .ref b :: rest) (hw : (rest.map fun v => v.category).sum ≤ 8) (hfr : fr' + 1 ≤ fr) (hlo : 8 + (maxL + 11) + lo' ≤ lo) (hk : k + mc' ≤ mc) (hs : n + ms' ≤ ms) (hd : decode cc pc = .ok (.invokespecial ix, 3))
    (kk : ∀ (r : Option Value) (M' : hm_M), Post r M' → hm_W X M' (k + mc') (n + ms') (pc + 3) lv (r.toList ++ rest)) : hm_W X M k n pc lv st := by
  obtain ⟨p, l', e, R, s, m, args, below, meth, c, Q, D', BG', A⟩ := X
  obtain ⟨hx, hb, hown, hts, hnw, hK, hA, hBG, hR, hml, hnm, el, eD, eB⟩ := C
  intro H locs ls h1 h2 h3 h4 h5
  subst el; subst eD; subst eB; subst hav; subst hst
  have hdis : ∀ q, M q ≠ none → BG' q = none := fun q hq => by
    cases hm : M q with
    | none => exact absurd hm hq
    | some x => exact hBG q (h3 q x hm)
  exact hm_after (va_runI (As := As) (rest := rest) (Ts := hm_tb) (nL := nL) ⟨hx, hb, hml, hown, hts⟩ (hM H.size) ⟨hm_callB hts hY hl (by rw [hR]; exact ⟨hfr, hlo⟩), hy, hts _ hin⟩ ⟨hm_blind, fun U hU hW => ⟨rfl, by rw [hU], by rw [hU]; exact h1, by rw [hU]; exact h2, hdis, hnw.warm hW, hK.moved hW.alike⟩⟩ rfl hn (by rw [← hml]; exact h5.1) rfl (lv_room hw) hd (by rw [hR]; exact ⟨hk, hs⟩)) hA hBG h1 h2 h3 h4 h5 kk
/-- a constructor that a nest mate keeps to itself -/
theorem hm_callN {R : Room} {s : State} {args : Array Value} {host : String} (hts : ∀ w ∈ hm_tb, w.before args s = true) (hnw : hm_N s) (hY : hm_Y y bytes maxL ret np) (hl : Cond.methodLinkNest own ix y host ∈ lw_tbl) (hR : fr' + 1 ≤ R.frames ∧ 8 + (maxL + 11) + lo' ≤ R.locals) :
    va_CN R s args own ix y host bytes maxL ret (Cond.code y bytes maxL ret :: hm_tb) { frames := fr', cells := mc', slots := ms', locals := lo' } mc' ms' np := by
  refine ⟨⟨rfl, rfl, hR.1, hR.2, hm_words hts hY, List.mem_cons_self⟩, hts _ hY.1, hts _ hY.2.1, hY.2.2.1, fun sig h => ?_, va_Nw.use rfl (hnw _ hl rfl)⟩
  have h2 := hY.2.2.2
  rw [h] at h2
  exact (Option.some.inj h2).symm
set_option maxHeartbeats 4000000 in
theorem hm_callIN {host : String} (C : hm_C X l D BG cc own nm nL fr lo mc ms) (hM : hm_ct l D BG y bytes maxL none fr' lo' mc' ms' av M Post) (hY : hm_Y y bytes maxL none np) (hy : y.name = "<init>") (hl : Cond.methodLinkNest own ix y host ∈ lw_tbl) (hin : Cond.instanceMethod y ∈ hm_tb) {b : Nat} (As : List Value) (hav : av = .ref b :: As) (hn : As.length = np) {st : List Value} (hst : st = As.reverse ++ .ref b :: rest) (hw : (rest.map fun v => v.category).sum ≤ 8) (hfr : fr' + 1 ≤ fr) (hlo : 8 + (maxL + 11) + lo' ≤ lo) (hk : k + mc' ≤ mc) (hs : n + ms' ≤ ms) (hd : decode cc pc = .ok (.invokespecial ix, 3))
    (kk : ∀ (r : Option Value) (M' : hm_M), Post r M' → hm_W X M' (k + mc') (n + ms') (pc + 3) lv (r.toList ++ rest)) : hm_W X M k n pc lv st := by
  obtain ⟨p, l', e, R, s, m, args, below, meth, c, Q, D', BG', A⟩ := X
  obtain ⟨hx, hb, hown, hts, hnw, hK, hA, hBG, hR, hml, hnm, el, eD, eB⟩ := C
  intro H locs ls h1 h2 h3 h4 h5
  subst el; subst eD; subst eB; subst hav; subst hst
  have hdis : ∀ q, M q ≠ none → BG' q = none := fun q hq => by
    cases hm : M q with
    | none => exact absurd hm hq
    | some x => exact hBG q (h3 q x hm)
  exact hm_after (va_runIN (host := host) (As := As) (rest := rest) (Ts := hm_tb) (nL := nL) ⟨hx, hb, hml, hown, hts⟩ (hM H.size) ⟨hm_callN hts hnw hY hl (by rw [hR]; exact ⟨hfr, hlo⟩), hy, hts _ hin⟩ ⟨hm_blind, fun U hU hW => ⟨rfl, by rw [hU], by rw [hU]; exact h1, by rw [hU]; exact h2, hdis, hnw.warm hW, hK.moved hW.alike⟩⟩ rfl hn (by rw [← hml]; exact h5.1) rfl (lv_room hw) hd (by rw [hR]; exact ⟨hk, hs⟩)) hA hBG h1 h2 h3 h4 h5 kk
/-- java.lang.Object's constructor -/
theorem hm_objInit (C : hm_C X l D BG cc own nm nL fr lo mc ms) (hl : Cond.methodLink own ix objectInit ∈ hm_tb) (hin : Cond.instanceMethod objectInit ∈ hm_tb) (hcode : Cond.code objectInit ⟨#[0xb1]⟩ 1 none ∈ hm_tb) {a : Nat} (hw : (rest.map fun v => v.category).sum + 12 ≤ lo) (hfr : 1 ≤ fr) (hd : decode cc pc = .ok (.invokespecial ix, 3)) (kk : hm_W X M k n (pc + 3) lv rest) : hm_W X M k n pc lv (.ref a :: rest) := by
  obtain ⟨p, l', e, R, s, m, args, below, meth, c, Q, D', BG', A⟩ := X
  obtain ⟨hx, hb, hown, hts, hnw, hK, hA, hBG, hR, hml, hnm, el, eD, eB⟩ := C
  intro H locs ls h1 h2 h3 h4 h5
  refine W.objInit hx hb hown (hts _ hl) (hts _ hin) (hts _ hcode) rfl h5.1 rfl hd (by rw [hR]; exact hfr) (by rw [hR]; show 2 * 0 + _ + 12 ≤ lo; omega) ?_
  exact kk H locs ls h1 h2 h3 h4 h5
end HMCALL
