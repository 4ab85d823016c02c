/-! THE CLAIM OUT OF ONE WALK OF THE LAW'S BODY. Your part is whole_start (and what it stands on); all else here is the same for every law, but numbers. -/
def R_law : String := "TurnedKeysLaw"
def lw_P (b : Addr) (xs : List Int32) (args : Array Value) (s : State) : Prop := args = #[.ref b] ∧ s.IntsAt b xs ∧ xs.length ≤ 1536 ∧ (Jvm.Cond.and given_1 narrow_1).before args s = true
def lw_Q (_ : Array Value) (s : State) (o : Outcome) (t : State) : Prop := o = .returned (some (.int 1)) ∧ Framed s o t [] 600000 7302250
def lw_Z (below : List Frame) (a : Array Value) (s : State) : State → Prop := fun t => ∃ o, t.status = .running ∧ Ended t below o ∧ lw_Q a s o t
/-- the law's own end, with 1 on the stack, nothing written that was there before, its room as the claim has it -/
theorem lw_ret {p : Program} {l : Launch} {e : Env} {s : State} {m : MethodId} {below : List Frame} {meth : Method} {c : Code} {b : Nat} (hx : p.tables.exec = Jvm.exec) (hb : c.code = code) (hr : meth.sig.returnType = ret) (hlocks : meth.locks = false) {pc : Nat} {H : Heap} {ls : Array Slot} (hdg : decode code pc = .ok (.ireturn, 1)) : W p l e room_1 s m #[Value.ref b] below meth c H [] 600000 7302250 (lw_Z below #[Value.ref b] s) (F0 m pc ls [.int 1]) := by
  intro T hT X
  obtain ⟨fs, hret, hrun, hended, hW, hframe⟩ := X.leave (v := some (.int 1)) (hlocks := hlocks) (fun h => by rw [hr] at h; cases h)
  have hmeth' : T.vm.method? m = some meth := X.method'
  refine ⟨T.setFrames fs, ?_, .returned (some (.int 1)), hrun, hended, rfl, ⟨_, rfl⟩, hW, hframe⟩
  jvm_step X.here [X.here.top, hx, hb, hdg, hmeth', hr, ret, narrow_b1]
  (try refine ⟨rfl, ?_⟩); (try refine ⟨rfl, ?_⟩)
  first | (intro acts; rw [hret _ acts rfl rfl rfl]) | rw [hret _ _ rfl rfl rfl]
  exact Steps.refl _
/-- what holds at the law's entry: the machine, the code, the tables' words (any of lw_tbl by 'hts w (by decide +kernel)'), the script of L ints xs at the cell b, what the Statement gives of the start (any of its parts by flat_of_before) -/
def lw_At (p : Program) (s : State) (m : MethodId) (meth : Method) (c : Code) (b L : Nat) (xs : Nat → Int32) : Prop :=
  p.tables.exec = Jvm.exec ∧ c.code = code ∧ meth.sig.returnType = ret ∧ c.maxLocals = 4 ∧ s.vm.findClass R_law = some m.cls ∧ (∀ w ∈ lw_tbl, w.before #[Value.ref b] s = true) ∧ va_X b L xs s s.heap ∧ b < s.heap.size ∧ meth.locks = false ∧ (Jvm.Cond.and given_1 narrow_1).before #[Value.ref b] s = true
theorem la_cmp {L k : Nat} (hL : L ≤ 1536) (hk : k ≤ 512) (h : ¬ (nI L - 3 < nI (3 * k))) : 3 * k + 3 ≤ L := by
  rw [Int32.lt_iff_toInt_lt] at h
  have h1 := pk_sub_toInt (a := L) (b := 3) (by omega) (by omega)
  have h2 : (nI (3 * k)).toInt = ((3 * k : Nat) : Int) := nI_toInt (by omega)
  have h3 : nI L - 3 = nI L - nI 3 := rfl
  rw [h3, h1, h2] at h
  omega
theorem la_cmp2 {L k : Nat} (hL : L ≤ 1536) (hk : k ≤ 512) (h : L < 3 * k + 3) : nI L - 3 < nI (3 * k) := by
  rw [Int32.lt_iff_toInt_lt]
  have h1 := pk_sub_toInt (a := L) (b := 3) (by omega) (by omega)
  have h2 : (nI (3 * k)).toInt = ((3 * k : Nat) : Int) := nI_toInt (by omega)
  have h3 : nI L - 3 = nI L - nI 3 := rfl
  rw [h3, h1, h2]
  omega
theorem la_e33 (k : Nat) : nI (3 * k) + 3 = nI (3 * (k + 1)) := nI_3 (3 * k)
theorem la_I.nx {D : va_G} {x m k u1 u2 : Nat} {M : hm_M} (h : la_I D x m k u1 u2 M) : la_I D x m (k + 1) u1 u2 M := by
  obtain ⟨Mc, A, sc, ar, n, c, cw, mk, dr, n', q, vl, gv, kn, od, Es, W, G, e, hd, hA, hR, hmo, hok, b1, b2, b3, b4, b5, b6, b7, b8⟩ := h
  exact ⟨Mc, A, sc, ar, n, c, cw, mk, dr, n', q, vl, gv, kn, od, Es, W, G, e, hd, hA, hR, hmo, hok.mn (by omega), by omega, by omega, b3, by omega, by omega, b6, by omega, by omega⟩
theorem la_I.bd {D : va_G} {x m k u1 u2 : Nat} {M : hm_M} (h : la_I D x m k u1 u2 M) (hk : k ≤ 512) : u1 ≤ 600000 ∧ u2 ≤ 7302250 := by
  obtain ⟨Mc, A, sc, ar, n, c, cw, mk, dr, n', q, vl, gv, kn, od, Es, W, G, e, hd, hA, hR, hmo, hok, b1, b2, b3, b4, b5, b6, b7, b8⟩ := h
  have := hok.2.2.2
  exact ⟨by omega, by omega⟩
theorem la_new {D : va_G} {M : hm_M} {q : Nat} {A : Nat → Nat} {fs : List Value} (h : M q = none) : hm_dj M (rf_K D q A 0 fs) ∧ hm_up M q (hm_ob 7 fs) = hm_un M (rf_K D q A 0 fs) := by
  have ho : ∀ a, a ≠ q → rf_K D q A 0 fs a = none := fun a ha => by
    unfold rf_K
    rw [if_neg ha]
    rfl
  refine ⟨fun a => ?_, ?_⟩
  · by_cases c : a = q
    · rw [c]; exact Or.inl h
    · exact Or.inr (ho a c)
  · funext a
    by_cases c : a = q
    · rw [c, hm_up_s, hm_un_r h, rf_K_m]
    · rw [hm_up_n _ _ c]
      cases e : M a with
      | none => rw [hm_un_r e, ho a c]
      | some y => rw [hm_un_l e]
set_option maxHeartbeats 4000000 in
set_option maxRecDepth 100000 in
theorem law_loop {X : hm_X} {l : Launch} {D : va_G} {BG : Nat → Option Cell} {nm : String} (C : hm_C X l D BG code "TurnedKeysLaw" nm 4 15 598 600000 7302250) {b L : Nat} {xs : Nat → Int32} (hS : hm_S X b L xs) (hL : L ≤ 1536) (hend : ∀ (M : hm_M) (k n : Nat) (lv : List (Nat × Value)), k ≤ 600000 → n ≤ 7302250 → hm_W X M k n 335 lv [.int 1]) (x m : Nat) : ∀ (u k u1 u2 : Nat) (M : hm_M), k + u = 512 → la_I D x m k u1 u2 M → hm_W X M u1 u2 18 [(3, .int (nI (3 * k))), (2, .ref m), (1, .ref x), (0, .ref b)] [] := by
  intro u
  induction u with
  | zero =>
    intro k u1 u2 M hu hI
    have hbd := hI.bd (by omega)
    refine hm_iload_n C nd_LA_law_18 rfl ?_
    refine hm_aload_n C nd_LA_law_19 rfl ?_
    refine hm_slen C hS nd_LA_law_20 ?_
    refine hm_iconst (v := 3) C nd_LA_law_21 (by decide) ?_
    refine hm_isub C nd_LA_law_22 ?_
    refine hm_icmp_gt (tgt := 334) C nd_LA_law_23 (by decide) (fun c1 => ?_) (fun c1 => (c1 (la_cmp2 hL (by omega) (by omega))).elim)
    refine hm_iconst (v := 1) C nd_LA_law_334 (by decide) ?_
    exact hend _ _ _ _ hbd.1 hbd.2
  | succ u ih =>
    intro k u1 u2 M hu hI
    have hbd := hI.bd (by omega)
    refine hm_iload_n C nd_LA_law_18 rfl ?_
    refine hm_aload_n C nd_LA_law_19 rfl ?_
    refine hm_slen C hS nd_LA_law_20 ?_
    refine hm_iconst (v := 3) C nd_LA_law_21 (by decide) ?_
    refine hm_isub C nd_LA_law_22 ?_
    refine hm_icmp_gt (tgt := 334) C nd_LA_law_23 (by decide) (fun c1 => ?_) (fun c1 => ?_)
    · refine hm_iconst (v := 1) C nd_LA_law_334 (by decide) ?_
      exact hend _ _ _ _ hbd.1 hbd.2
    · have hkL := la_cmp hL (by omega) c1
      have hk : k < 512 := by omega
      refine hm_aload_n C nd_LA_law_26 rfl ?_
      refine hm_iload_n C nd_LA_law_27 rfl ?_
      refine hm_sld (j := 3 * k) C hS (by omega) (by omega) nd_LA_law_28 ?_
      refine hm_bipush (v := 15) C nd_LA_law_29 (by decide) ?_
      refine hm_iand C nd_LA_law_31 ?_
      obtain ⟨z, hz, ez⟩ := pk_andE (xs (3 * k)) (m := 15) 4 (by decide)
      have hz : z < 16 := hz
      refine hm_stk (st' := [.int (nI z)]) (by rw [ez]) ?_
      obtain rfl | rfl | rfl | rfl | rfl | rfl | rfl | rfl | rfl | rfl | h10 : z = 0 ∨ z = 1 ∨ z = 2 ∨ z = 3 ∨ z = 4 ∨ z = 5 ∨ z = 6 ∨ z = 7 ∨ z = 8 ∨ z = 9 ∨ 10 ≤ z := by omega
      · refine hm_tableIn (tgt := 88) C nd_LA_law_32 (by decide) (by decide) rfl (by decide) ?_
        obtain ⟨r, mc, ms, J, hm1, hm2, ⟨fs, hfx⟩, hc, hr⟩ := la_send (l := l) (BG := BG) hI hk (xs (3 * k + 1))
        refine hm_aload_n C nd_LA_law_88 rfl ?_
        refine hm_aload_n C nd_LA_law_89 rfl ?_
        refine hm_iload_n C nd_LA_law_90 rfl ?_
        refine hm_iconst (v := 1) C nd_LA_law_91 (by decide) ?_
        refine hm_iadd C nd_LA_law_92 ?_
        refine hm_stk (st' := [.int (nI (3 * k + 1)), .ref b, .ref x]) (by rw [nI_1]) ?_
        refine hm_sld (j := 3 * k + 1) C hS (by omega) (by omega) nd_LA_law_93 ?_
        refine hm_callV C hc nV_TK_send [.int (xs (3 * k + 1))] rfl hfx rfl nq_LA_13 nj_TK_send nx_TK_send rfl (rest := []) rfl (Nat.le_of_ble_eq_true rfl) (by decide) (by decide) (by omega) (by omega) nd_LA_law_94 (fun r M1 hp => ?_)
        obtain ⟨rfl, hJ⟩ := hp
        obtain ⟨⟨fs2, hf2⟩, hr2⟩ := hr _ hJ
        refine hm_stk (st' := [.int r]) rfl ?_
        refine hm_aload_n C nd_LA_law_97 rfl ?_
        refine hm_aload_n C nd_LA_law_98 rfl ?_
        refine hm_iload_n C nd_LA_law_99 rfl ?_
        refine hm_iconst (v := 1) C nd_LA_law_100 (by decide) ?_
        refine hm_iadd C nd_LA_law_101 ?_
        refine hm_stk (st' := [.int (nI (3 * k + 1)), .ref b, .ref m, .int r]) (by rw [nI_1]) ?_
        refine hm_sld (j := 3 * k + 1) C hS (by omega) (by omega) nd_LA_law_102 ?_
        refine hm_callV C hr2 nV_MO_send [.int (xs (3 * k + 1))] rfl hf2 rfl nq_LA_17 nj_MO_send nx_MO_send rfl (rest := [.int r]) rfl (Nat.le_of_ble_eq_true rfl) (by decide) (by decide) (by omega) (by omega) nd_LA_law_103 (fun r M2 hp => ?_)
        obtain ⟨rfl, hI2⟩ := hp
        refine hm_stk (st' := [.int r, .int r]) rfl ?_
        refine hm_icmp_eq (tgt := 328) C nd_LA_law_106 (by decide) (fun c9 => ?_) (fun c9 => (c9 rfl).elim)
        refine hm_iinc (x := (nI (3 * k))) (v := ((nI (3 * k)) + 3)) C [(3, .int ((nI (3 * k)) + 3)), (2, .ref m), (1, .ref x), (0, .ref b)] nd_LA_law_328 rfl rfl (by decide) rfl ?_
        refine hm_goto (tgt := 18) C nd_LA_law_331 (by decide) ?_
        refine hm_less (lv' := [(3, .int (nI (3 * (k + 1)))), (2, .ref m), (1, .ref x), (0, .ref b)]) (fun z hz => by simp only [List.mem_cons, List.not_mem_nil, or_false, la_e33] at hz ⊢; rcases hz with h | h | h | h <;> subst h <;> simp [nI_0]) ?_
        exact ih (k + 1) _ _ _ (by omega) hI2
      · refine hm_tableIn (tgt := 111) C nd_LA_law_32 (by decide) (by decide) rfl (by decide) ?_
        obtain ⟨r, mc, ms, J, hm1, hm2, ⟨fs, hfx⟩, hc, hr⟩ := la_take (l := l) (BG := BG) hI hk (xs (3 * k + 1)) (xs (3 * k + 2))
        refine hm_aload_n C nd_LA_law_111 rfl ?_
        refine hm_aload_n C nd_LA_law_112 rfl ?_
        refine hm_iload_n C nd_LA_law_113 rfl ?_
        refine hm_iconst (v := 1) C nd_LA_law_114 (by decide) ?_
        refine hm_iadd C nd_LA_law_115 ?_
        refine hm_stk (st' := [.int (nI (3 * k + 1)), .ref b, .ref x]) (by rw [nI_1]) ?_
        refine hm_sld (j := 3 * k + 1) C hS (by omega) (by omega) nd_LA_law_116 ?_
        refine hm_aload_n C nd_LA_law_117 rfl ?_
        refine hm_iload_n C nd_LA_law_118 rfl ?_
        refine hm_iconst (v := 2) C nd_LA_law_119 (by decide) ?_
        refine hm_iadd C nd_LA_law_120 ?_
        refine hm_stk (st' := [.int (nI (3 * k + 2)), .ref b, .int (xs (3 * k + 1)), .ref x]) (by rw [nI_2]) ?_
        refine hm_sld (j := 3 * k + 2) C hS (by omega) (by omega) nd_LA_law_121 ?_
        refine hm_callV C hc nV_TK_take [.int (xs (3 * k + 1)), .int (xs (3 * k + 2))] rfl hfx rfl nq_LA_18 nj_TK_take nx_TK_take rfl (rest := []) rfl (Nat.le_of_ble_eq_true rfl) (by decide) (by decide) (by omega) (by omega) nd_LA_law_122 (fun r M3 hp => ?_)
        obtain ⟨rfl, hJ⟩ := hp
        obtain ⟨⟨fs2, hf2⟩, hr2⟩ := hr _ hJ
        refine hm_stk (st' := [.int r]) rfl ?_
        refine hm_aload_n C nd_LA_law_125 rfl ?_
        refine hm_aload_n C nd_LA_law_126 rfl ?_
        refine hm_iload_n C nd_LA_law_127 rfl ?_
        refine hm_iconst (v := 1) C nd_LA_law_128 (by decide) ?_
        refine hm_iadd C nd_LA_law_129 ?_
        refine hm_stk (st' := [.int (nI (3 * k + 1)), .ref b, .ref m, .int r]) (by rw [nI_1]) ?_
        refine hm_sld (j := 3 * k + 1) C hS (by omega) (by omega) nd_LA_law_130 ?_
        refine hm_aload_n C nd_LA_law_131 rfl ?_
        refine hm_iload_n C nd_LA_law_132 rfl ?_
        refine hm_iconst (v := 2) C nd_LA_law_133 (by decide) ?_
        refine hm_iadd C nd_LA_law_134 ?_
        refine hm_stk (st' := [.int (nI (3 * k + 2)), .ref b, .int (xs (3 * k + 1)), .ref m, .int r]) (by rw [nI_2]) ?_
        refine hm_sld (j := 3 * k + 2) C hS (by omega) (by omega) nd_LA_law_135 ?_
        refine hm_callV C hr2 nV_MO_take [.int (xs (3 * k + 1)), .int (xs (3 * k + 2))] rfl hf2 rfl nq_LA_22 nj_MO_take nx_MO_take rfl (rest := [.int r]) rfl (Nat.le_of_ble_eq_true rfl) (by decide) (by decide) (by omega) (by omega) nd_LA_law_136 (fun r M4 hp => ?_)
        obtain ⟨rfl, hI2⟩ := hp
        refine hm_stk (st' := [.int r, .int r]) rfl ?_
        refine hm_icmp_eq (tgt := 328) C nd_LA_law_139 (by decide) (fun c9 => ?_) (fun c9 => (c9 rfl).elim)
        refine hm_iinc (x := (nI (3 * k))) (v := ((nI (3 * k)) + 3)) C [(3, .int ((nI (3 * k)) + 3)), (2, .ref m), (1, .ref x), (0, .ref b)] nd_LA_law_328 rfl rfl (by decide) rfl ?_
        refine hm_goto (tgt := 18) C nd_LA_law_331 (by decide) ?_
        refine hm_less (lv' := [(3, .int (nI (3 * (k + 1)))), (2, .ref m), (1, .ref x), (0, .ref b)]) (fun z hz => by simp only [List.mem_cons, List.not_mem_nil, or_false, la_e33] at hz ⊢; rcases hz with h | h | h | h <;> subst h <;> simp [nI_0]) ?_
        exact ih (k + 1) _ _ _ (by omega) hI2
      · refine hm_tableIn (tgt := 144) C nd_LA_law_32 (by decide) (by decide) rfl (by decide) ?_
        obtain ⟨r, mc, ms, J, hm1, hm2, ⟨fs, hfx⟩, hc, hr⟩ := la_look (l := l) (BG := BG) hI hk (xs (3 * k + 1))
        refine hm_aload_n C nd_LA_law_144 rfl ?_
        refine hm_aload_n C nd_LA_law_145 rfl ?_
        refine hm_iload_n C nd_LA_law_146 rfl ?_
        refine hm_iconst (v := 1) C nd_LA_law_147 (by decide) ?_
        refine hm_iadd C nd_LA_law_148 ?_
        refine hm_stk (st' := [.int (nI (3 * k + 1)), .ref b, .ref x]) (by rw [nI_1]) ?_
        refine hm_sld (j := 3 * k + 1) C hS (by omega) (by omega) nd_LA_law_149 ?_
        refine hm_callV C hc nV_TK_look [.int (xs (3 * k + 1))] rfl hfx rfl nq_LA_23 nj_TK_look nx_TK_look rfl (rest := []) rfl (Nat.le_of_ble_eq_true rfl) (by decide) (by decide) (by omega) (by omega) nd_LA_law_150 (fun r M5 hp => ?_)
        obtain ⟨rfl, hJ⟩ := hp
        obtain ⟨⟨fs2, hf2⟩, hr2⟩ := hr _ hJ
        refine hm_stk (st' := [.int r]) rfl ?_
        refine hm_aload_n C nd_LA_law_153 rfl ?_
        refine hm_aload_n C nd_LA_law_154 rfl ?_
        refine hm_iload_n C nd_LA_law_155 rfl ?_
        refine hm_iconst (v := 1) C nd_LA_law_156 (by decide) ?_
        refine hm_iadd C nd_LA_law_157 ?_
        refine hm_stk (st' := [.int (nI (3 * k + 1)), .ref b, .ref m, .int r]) (by rw [nI_1]) ?_
        refine hm_sld (j := 3 * k + 1) C hS (by omega) (by omega) nd_LA_law_158 ?_
        refine hm_callV C hr2 nV_MO_look [.int (xs (3 * k + 1))] rfl hf2 rfl nq_LA_26 nj_MO_look nx_MO_look rfl (rest := [.int r]) rfl (Nat.le_of_ble_eq_true rfl) (by decide) (by decide) (by omega) (by omega) nd_LA_law_159 (fun r M6 hp => ?_)
        obtain ⟨rfl, hI2⟩ := hp
        refine hm_stk (st' := [.int r, .int r]) rfl ?_
        refine hm_icmp_eq (tgt := 328) C nd_LA_law_162 (by decide) (fun c9 => ?_) (fun c9 => (c9 rfl).elim)
        refine hm_iinc (x := (nI (3 * k))) (v := ((nI (3 * k)) + 3)) C [(3, .int ((nI (3 * k)) + 3)), (2, .ref m), (1, .ref x), (0, .ref b)] nd_LA_law_328 rfl rfl (by decide) rfl ?_
        refine hm_goto (tgt := 18) C nd_LA_law_331 (by decide) ?_
        refine hm_less (lv' := [(3, .int (nI (3 * (k + 1)))), (2, .ref m), (1, .ref x), (0, .ref b)]) (fun z hz => by simp only [List.mem_cons, List.not_mem_nil, or_false, la_e33] at hz ⊢; rcases hz with h | h | h | h <;> subst h <;> simp [nI_0]) ?_
        exact ih (k + 1) _ _ _ (by omega) hI2
      · refine hm_tableIn (tgt := 167) C nd_LA_law_32 (by decide) (by decide) rfl (by decide) ?_
        obtain ⟨r, mc, ms, J, hm1, hm2, ⟨fs, hfx⟩, hc, hr⟩ := la_derived (l := l) (BG := BG) hI hk (xs (3 * k + 1))
        refine hm_aload_n C nd_LA_law_167 rfl ?_
        refine hm_aload_n C nd_LA_law_168 rfl ?_
        refine hm_iload_n C nd_LA_law_169 rfl ?_
        refine hm_iconst (v := 1) C nd_LA_law_170 (by decide) ?_
        refine hm_iadd C nd_LA_law_171 ?_
        refine hm_stk (st' := [.int (nI (3 * k + 1)), .ref b, .ref x]) (by rw [nI_1]) ?_
        refine hm_sld (j := 3 * k + 1) C hS (by omega) (by omega) nd_LA_law_172 ?_
        refine hm_callV C hc nV_TK_derived [.int (xs (3 * k + 1))] rfl hfx rfl nq_LA_27 nj_TK_derived nx_TK_derived rfl (rest := []) rfl (Nat.le_of_ble_eq_true rfl) (by decide) (by decide) (by omega) (by omega) nd_LA_law_173 (fun r M7 hp => ?_)
        obtain ⟨rfl, hJ⟩ := hp
        obtain ⟨⟨fs2, hf2⟩, hr2⟩ := hr _ hJ
        refine hm_stk (st' := [.int r]) rfl ?_
        refine hm_aload_n C nd_LA_law_176 rfl ?_
        refine hm_aload_n C nd_LA_law_177 rfl ?_
        refine hm_iload_n C nd_LA_law_178 rfl ?_
        refine hm_iconst (v := 1) C nd_LA_law_179 (by decide) ?_
        refine hm_iadd C nd_LA_law_180 ?_
        refine hm_stk (st' := [.int (nI (3 * k + 1)), .ref b, .ref m, .int r]) (by rw [nI_1]) ?_
        refine hm_sld (j := 3 * k + 1) C hS (by omega) (by omega) nd_LA_law_181 ?_
        refine hm_callV C hr2 nV_MO_derived [.int (xs (3 * k + 1))] rfl hf2 rfl nq_LA_30 nj_MO_derived nx_MO_derived rfl (rest := [.int r]) rfl (Nat.le_of_ble_eq_true rfl) (by decide) (by decide) (by omega) (by omega) nd_LA_law_182 (fun r M8 hp => ?_)
        obtain ⟨rfl, hI2⟩ := hp
        refine hm_stk (st' := [.int r, .int r]) rfl ?_
        refine hm_icmp_eq (tgt := 328) C nd_LA_law_185 (by decide) (fun c9 => ?_) (fun c9 => (c9 rfl).elim)
        refine hm_iinc (x := (nI (3 * k))) (v := ((nI (3 * k)) + 3)) C [(3, .int ((nI (3 * k)) + 3)), (2, .ref m), (1, .ref x), (0, .ref b)] nd_LA_law_328 rfl rfl (by decide) rfl ?_
        refine hm_goto (tgt := 18) C nd_LA_law_331 (by decide) ?_
        refine hm_less (lv' := [(3, .int (nI (3 * (k + 1)))), (2, .ref m), (1, .ref x), (0, .ref b)]) (fun z hz => by simp only [List.mem_cons, List.not_mem_nil, or_false, la_e33] at hz ⊢; rcases hz with h | h | h | h <;> subst h <;> simp [nI_0]) ?_
        exact ih (k + 1) _ _ _ (by omega) hI2
      · refine hm_tableIn (tgt := 190) C nd_LA_law_32 (by decide) (by decide) rfl (by decide) ?_
        obtain ⟨r, mc, ms, J, hm1, hm2, ⟨fs, hfx⟩, hc, hr⟩ := la_opens (l := l) (BG := BG) hI hk (xs (3 * k + 1))
        refine hm_aload_n C nd_LA_law_190 rfl ?_
        refine hm_aload_n C nd_LA_law_191 rfl ?_
        refine hm_iload_n C nd_LA_law_192 rfl ?_
        refine hm_iconst (v := 1) C nd_LA_law_193 (by decide) ?_
        refine hm_iadd C nd_LA_law_194 ?_
        refine hm_stk (st' := [.int (nI (3 * k + 1)), .ref b, .ref x]) (by rw [nI_1]) ?_
        refine hm_sld (j := 3 * k + 1) C hS (by omega) (by omega) nd_LA_law_195 ?_
        refine hm_callV C hc nV_TK_opens [.int (xs (3 * k + 1))] rfl hfx rfl nq_LA_31 nj_TK_opens nx_TK_opens rfl (rest := []) rfl (Nat.le_of_ble_eq_true rfl) (by decide) (by decide) (by omega) (by omega) nd_LA_law_196 (fun r M9 hp => ?_)
        obtain ⟨rfl, hJ⟩ := hp
        obtain ⟨⟨fs2, hf2⟩, hr2⟩ := hr _ hJ
        refine hm_stk (st' := [.int r]) rfl ?_
        refine hm_aload_n C nd_LA_law_199 rfl ?_
        refine hm_aload_n C nd_LA_law_200 rfl ?_
        refine hm_iload_n C nd_LA_law_201 rfl ?_
        refine hm_iconst (v := 1) C nd_LA_law_202 (by decide) ?_
        refine hm_iadd C nd_LA_law_203 ?_
        refine hm_stk (st' := [.int (nI (3 * k + 1)), .ref b, .ref m, .int r]) (by rw [nI_1]) ?_
        refine hm_sld (j := 3 * k + 1) C hS (by omega) (by omega) nd_LA_law_204 ?_
        refine hm_callV C hr2 nV_MO_opens [.int (xs (3 * k + 1))] rfl hf2 rfl nq_LA_34 nj_MO_opens nx_MO_opens rfl (rest := [.int r]) rfl (Nat.le_of_ble_eq_true rfl) (by decide) (by decide) (by omega) (by omega) nd_LA_law_205 (fun r M10 hp => ?_)
        obtain ⟨rfl, hI2⟩ := hp
        refine hm_stk (st' := [.int r, .int r]) rfl ?_
        refine hm_icmp_eq (tgt := 328) C nd_LA_law_208 (by decide) (fun c9 => ?_) (fun c9 => (c9 rfl).elim)
        refine hm_iinc (x := (nI (3 * k))) (v := ((nI (3 * k)) + 3)) C [(3, .int ((nI (3 * k)) + 3)), (2, .ref m), (1, .ref x), (0, .ref b)] nd_LA_law_328 rfl rfl (by decide) rfl ?_
        refine hm_goto (tgt := 18) C nd_LA_law_331 (by decide) ?_
        refine hm_less (lv' := [(3, .int (nI (3 * (k + 1)))), (2, .ref m), (1, .ref x), (0, .ref b)]) (fun z hz => by simp only [List.mem_cons, List.not_mem_nil, or_false, la_e33] at hz ⊢; rcases hz with h | h | h | h <;> subst h <;> simp [nI_0]) ?_
        exact ih (k + 1) _ _ _ (by omega) hI2
      · refine hm_tableIn (tgt := 213) C nd_LA_law_32 (by decide) (by decide) rfl (by decide) ?_
        obtain ⟨r, mc, ms, J, hm1, hm2, ⟨fs, hfx⟩, hc, hr⟩ := la_back (l := l) (BG := BG) hI hk (xs (3 * k + 1))
        refine hm_aload_n C nd_LA_law_213 rfl ?_
        refine hm_aload_n C nd_LA_law_214 rfl ?_
        refine hm_iload_n C nd_LA_law_215 rfl ?_
        refine hm_iconst (v := 1) C nd_LA_law_216 (by decide) ?_
        refine hm_iadd C nd_LA_law_217 ?_
        refine hm_stk (st' := [.int (nI (3 * k + 1)), .ref b, .ref x]) (by rw [nI_1]) ?_
        refine hm_sld (j := 3 * k + 1) C hS (by omega) (by omega) nd_LA_law_218 ?_
        refine hm_callV C hc nV_TK_back [.int (xs (3 * k + 1))] rfl hfx rfl nq_LA_35 nj_TK_back nx_TK_back rfl (rest := []) rfl (Nat.le_of_ble_eq_true rfl) (by decide) (by decide) (by omega) (by omega) nd_LA_law_219 (fun r M11 hp => ?_)
        obtain ⟨rfl, hJ⟩ := hp
        obtain ⟨⟨fs2, hf2⟩, hr2⟩ := hr _ hJ
        refine hm_stk (st' := [.int r]) rfl ?_
        refine hm_aload_n C nd_LA_law_222 rfl ?_
        refine hm_aload_n C nd_LA_law_223 rfl ?_
        refine hm_iload_n C nd_LA_law_224 rfl ?_
        refine hm_iconst (v := 1) C nd_LA_law_225 (by decide) ?_
        refine hm_iadd C nd_LA_law_226 ?_
        refine hm_stk (st' := [.int (nI (3 * k + 1)), .ref b, .ref m, .int r]) (by rw [nI_1]) ?_
        refine hm_sld (j := 3 * k + 1) C hS (by omega) (by omega) nd_LA_law_227 ?_
        refine hm_callV C hr2 nV_MO_back [.int (xs (3 * k + 1))] rfl hf2 rfl nq_LA_38 nj_MO_back nx_MO_back rfl (rest := [.int r]) rfl (Nat.le_of_ble_eq_true rfl) (by decide) (by decide) (by omega) (by omega) nd_LA_law_228 (fun r M12 hp => ?_)
        obtain ⟨rfl, hI2⟩ := hp
        refine hm_stk (st' := [.int r, .int r]) rfl ?_
        refine hm_icmp_eq (tgt := 328) C nd_LA_law_231 (by decide) (fun c9 => ?_) (fun c9 => (c9 rfl).elim)
        refine hm_iinc (x := (nI (3 * k))) (v := ((nI (3 * k)) + 3)) C [(3, .int ((nI (3 * k)) + 3)), (2, .ref m), (1, .ref x), (0, .ref b)] nd_LA_law_328 rfl rfl (by decide) rfl ?_
        refine hm_goto (tgt := 18) C nd_LA_law_331 (by decide) ?_
        refine hm_less (lv' := [(3, .int (nI (3 * (k + 1)))), (2, .ref m), (1, .ref x), (0, .ref b)]) (fun z hz => by simp only [List.mem_cons, List.not_mem_nil, or_false, la_e33] at hz ⊢; rcases hz with h | h | h | h <;> subst h <;> simp [nI_0]) ?_
        exact ih (k + 1) _ _ _ (by omega) hI2
      · refine hm_tableIn (tgt := 236) C nd_LA_law_32 (by decide) (by decide) rfl (by decide) ?_
        obtain ⟨r, mc, ms, J, hm1, hm2, ⟨fs, hfx⟩, hc, hr⟩ := la_keep (l := l) (BG := BG) hI hk (xs (3 * k + 1))
        refine hm_aload_n C nd_LA_law_236 rfl ?_
        refine hm_aload_n C nd_LA_law_237 rfl ?_
        refine hm_iload_n C nd_LA_law_238 rfl ?_
        refine hm_iconst (v := 1) C nd_LA_law_239 (by decide) ?_
        refine hm_iadd C nd_LA_law_240 ?_
        refine hm_stk (st' := [.int (nI (3 * k + 1)), .ref b, .ref x]) (by rw [nI_1]) ?_
        refine hm_sld (j := 3 * k + 1) C hS (by omega) (by omega) nd_LA_law_241 ?_
        refine hm_callV C hc nV_TK_keep [.int (xs (3 * k + 1))] rfl hfx rfl nq_LA_39 nj_TK_keep nx_TK_keep rfl (rest := []) rfl (Nat.le_of_ble_eq_true rfl) (by decide) (by decide) (by omega) (by omega) nd_LA_law_242 (fun r M13 hp => ?_)
        obtain ⟨rfl, hJ⟩ := hp
        obtain ⟨⟨fs2, hf2⟩, hr2⟩ := hr _ hJ
        refine hm_stk (st' := [.int r]) rfl ?_
        refine hm_aload_n C nd_LA_law_245 rfl ?_
        refine hm_aload_n C nd_LA_law_246 rfl ?_
        refine hm_iload_n C nd_LA_law_247 rfl ?_
        refine hm_iconst (v := 1) C nd_LA_law_248 (by decide) ?_
        refine hm_iadd C nd_LA_law_249 ?_
        refine hm_stk (st' := [.int (nI (3 * k + 1)), .ref b, .ref m, .int r]) (by rw [nI_1]) ?_
        refine hm_sld (j := 3 * k + 1) C hS (by omega) (by omega) nd_LA_law_250 ?_
        refine hm_callV C hr2 nV_MO_keep [.int (xs (3 * k + 1))] rfl hf2 rfl nq_LA_42 nj_MO_keep nx_MO_keep rfl (rest := [.int r]) rfl (Nat.le_of_ble_eq_true rfl) (by decide) (by decide) (by omega) (by omega) nd_LA_law_251 (fun r M14 hp => ?_)
        obtain ⟨rfl, hI2⟩ := hp
        refine hm_stk (st' := [.int r, .int r]) rfl ?_
        refine hm_icmp_eq (tgt := 328) C nd_LA_law_254 (by decide) (fun c9 => ?_) (fun c9 => (c9 rfl).elim)
        refine hm_iinc (x := (nI (3 * k))) (v := ((nI (3 * k)) + 3)) C [(3, .int ((nI (3 * k)) + 3)), (2, .ref m), (1, .ref x), (0, .ref b)] nd_LA_law_328 rfl rfl (by decide) rfl ?_
        refine hm_goto (tgt := 18) C nd_LA_law_331 (by decide) ?_
        refine hm_less (lv' := [(3, .int (nI (3 * (k + 1)))), (2, .ref m), (1, .ref x), (0, .ref b)]) (fun z hz => by simp only [List.mem_cons, List.not_mem_nil, or_false, la_e33] at hz ⊢; rcases hz with h | h | h | h <;> subst h <;> simp [nI_0]) ?_
        exact ih (k + 1) _ _ _ (by omega) hI2
      · refine hm_tableIn (tgt := 259) C nd_LA_law_32 (by decide) (by decide) rfl (by decide) ?_
        obtain ⟨r, mc, ms, J, hm1, hm2, ⟨fs, hfx⟩, hc, hr⟩ := la_end (l := l) (BG := BG) hI hk (xs (3 * k + 1)) (xs (3 * k + 2))
        refine hm_aload_n C nd_LA_law_259 rfl ?_
        refine hm_aload_n C nd_LA_law_260 rfl ?_
        refine hm_iload_n C nd_LA_law_261 rfl ?_
        refine hm_iconst (v := 1) C nd_LA_law_262 (by decide) ?_
        refine hm_iadd C nd_LA_law_263 ?_
        refine hm_stk (st' := [.int (nI (3 * k + 1)), .ref b, .ref x]) (by rw [nI_1]) ?_
        refine hm_sld (j := 3 * k + 1) C hS (by omega) (by omega) nd_LA_law_264 ?_
        refine hm_aload_n C nd_LA_law_265 rfl ?_
        refine hm_iload_n C nd_LA_law_266 rfl ?_
        refine hm_iconst (v := 2) C nd_LA_law_267 (by decide) ?_
        refine hm_iadd C nd_LA_law_268 ?_
        refine hm_stk (st' := [.int (nI (3 * k + 2)), .ref b, .int (xs (3 * k + 1)), .ref x]) (by rw [nI_2]) ?_
        refine hm_sld (j := 3 * k + 2) C hS (by omega) (by omega) nd_LA_law_269 ?_
        refine hm_callV C hc nV_TK_end [.int (xs (3 * k + 1)), .int (xs (3 * k + 2))] rfl hfx rfl nq_LA_43 nj_TK_end nx_TK_end rfl (rest := []) rfl (Nat.le_of_ble_eq_true rfl) (by decide) (by decide) (by omega) (by omega) nd_LA_law_270 (fun r M15 hp => ?_)
        obtain ⟨rfl, hJ⟩ := hp
        obtain ⟨⟨fs2, hf2⟩, hr2⟩ := hr _ hJ
        refine hm_stk (st' := [.int r]) rfl ?_
        refine hm_aload_n C nd_LA_law_273 rfl ?_
        refine hm_aload_n C nd_LA_law_274 rfl ?_
        refine hm_iload_n C nd_LA_law_275 rfl ?_
        refine hm_iconst (v := 1) C nd_LA_law_276 (by decide) ?_
        refine hm_iadd C nd_LA_law_277 ?_
        refine hm_stk (st' := [.int (nI (3 * k + 1)), .ref b, .ref m, .int r]) (by rw [nI_1]) ?_
        refine hm_sld (j := 3 * k + 1) C hS (by omega) (by omega) nd_LA_law_278 ?_
        refine hm_aload_n C nd_LA_law_279 rfl ?_
        refine hm_iload_n C nd_LA_law_280 rfl ?_
        refine hm_iconst (v := 2) C nd_LA_law_281 (by decide) ?_
        refine hm_iadd C nd_LA_law_282 ?_
        refine hm_stk (st' := [.int (nI (3 * k + 2)), .ref b, .int (xs (3 * k + 1)), .ref m, .int r]) (by rw [nI_2]) ?_
        refine hm_sld (j := 3 * k + 2) C hS (by omega) (by omega) nd_LA_law_283 ?_
        refine hm_callV C hr2 nV_MO_end [.int (xs (3 * k + 1)), .int (xs (3 * k + 2))] rfl hf2 rfl nq_LA_46 nj_MO_end nx_MO_end rfl (rest := [.int r]) rfl (Nat.le_of_ble_eq_true rfl) (by decide) (by decide) (by omega) (by omega) nd_LA_law_284 (fun r M16 hp => ?_)
        obtain ⟨rfl, hI2⟩ := hp
        refine hm_stk (st' := [.int r, .int r]) rfl ?_
        refine hm_icmp_eq (tgt := 328) C nd_LA_law_287 (by decide) (fun c9 => ?_) (fun c9 => (c9 rfl).elim)
        refine hm_iinc (x := (nI (3 * k))) (v := ((nI (3 * k)) + 3)) C [(3, .int ((nI (3 * k)) + 3)), (2, .ref m), (1, .ref x), (0, .ref b)] nd_LA_law_328 rfl rfl (by decide) rfl ?_
        refine hm_goto (tgt := 18) C nd_LA_law_331 (by decide) ?_
        refine hm_less (lv' := [(3, .int (nI (3 * (k + 1)))), (2, .ref m), (1, .ref x), (0, .ref b)]) (fun z hz => by simp only [List.mem_cons, List.not_mem_nil, or_false, la_e33] at hz ⊢; rcases hz with h | h | h | h <;> subst h <;> simp [nI_0]) ?_
        exact ih (k + 1) _ _ _ (by omega) hI2
      · refine hm_tableIn (tgt := 292) C nd_LA_law_32 (by decide) (by decide) rfl (by decide) ?_
        obtain ⟨r, mc, ms, J, hm1, hm2, ⟨fs, hfx⟩, hc, hr⟩ := la_agree (l := l) (BG := BG) hI hk 
        refine hm_aload_n C nd_LA_law_292 rfl ?_
        refine hm_callV C hc nV_TK_agree [] rfl hfx rfl nq_LA_47 nj_TK_agree nx_TK_agree rfl (rest := []) rfl (Nat.le_of_ble_eq_true rfl) (by decide) (by decide) (by omega) (by omega) nd_LA_law_293 (fun r M17 hp => ?_)
        obtain ⟨rfl, hJ⟩ := hp
        obtain ⟨⟨fs2, hf2⟩, hr2⟩ := hr _ hJ
        refine hm_stk (st' := [.int r]) rfl ?_
        refine hm_aload_n C nd_LA_law_296 rfl ?_
        refine hm_callV C hr2 nV_MO_agree [] rfl hf2 rfl nq_LA_51 nj_MO_agree nx_MO_agree rfl (rest := [.int r]) rfl (Nat.le_of_ble_eq_true rfl) (by decide) (by decide) (by omega) (by omega) nd_LA_law_297 (fun r M18 hp => ?_)
        obtain ⟨rfl, hI2⟩ := hp
        refine hm_stk (st' := [.int r, .int r]) rfl ?_
        refine hm_icmp_eq (tgt := 328) C nd_LA_law_300 (by decide) (fun c9 => ?_) (fun c9 => (c9 rfl).elim)
        refine hm_iinc (x := (nI (3 * k))) (v := ((nI (3 * k)) + 3)) C [(3, .int ((nI (3 * k)) + 3)), (2, .ref m), (1, .ref x), (0, .ref b)] nd_LA_law_328 rfl rfl (by decide) rfl ?_
        refine hm_goto (tgt := 18) C nd_LA_law_331 (by decide) ?_
        refine hm_less (lv' := [(3, .int (nI (3 * (k + 1)))), (2, .ref m), (1, .ref x), (0, .ref b)]) (fun z hz => by simp only [List.mem_cons, List.not_mem_nil, or_false, la_e33] at hz ⊢; rcases hz with h | h | h | h <;> subst h <;> simp [nI_0]) ?_
        exact ih (k + 1) _ _ _ (by omega) hI2
      · refine hm_tableIn (tgt := 305) C nd_LA_law_32 (by decide) (by decide) rfl (by decide) ?_
        obtain ⟨r, mc, ms, J, hm1, hm2, ⟨fs, hfx⟩, hc, hr⟩ := la_count (l := l) (BG := BG) hI hk (xs (3 * k + 1))
        refine hm_aload_n C nd_LA_law_305 rfl ?_
        refine hm_aload_n C nd_LA_law_306 rfl ?_
        refine hm_iload_n C nd_LA_law_307 rfl ?_
        refine hm_iconst (v := 1) C nd_LA_law_308 (by decide) ?_
        refine hm_iadd C nd_LA_law_309 ?_
        refine hm_stk (st' := [.int (nI (3 * k + 1)), .ref b, .ref x]) (by rw [nI_1]) ?_
        refine hm_sld (j := 3 * k + 1) C hS (by omega) (by omega) nd_LA_law_310 ?_
        refine hm_callV C hc nV_TK_count [.int (xs (3 * k + 1))] rfl hfx rfl nq_LA_52 nj_TK_count nx_TK_count rfl (rest := []) rfl (Nat.le_of_ble_eq_true rfl) (by decide) (by decide) (by omega) (by omega) nd_LA_law_311 (fun r M19 hp => ?_)
        obtain ⟨rfl, hJ⟩ := hp
        obtain ⟨⟨fs2, hf2⟩, hr2⟩ := hr _ hJ
        refine hm_stk (st' := [.int r]) rfl ?_
        refine hm_aload_n C nd_LA_law_314 rfl ?_
        refine hm_aload_n C nd_LA_law_315 rfl ?_
        refine hm_iload_n C nd_LA_law_316 rfl ?_
        refine hm_iconst (v := 1) C nd_LA_law_317 (by decide) ?_
        refine hm_iadd C nd_LA_law_318 ?_
        refine hm_stk (st' := [.int (nI (3 * k + 1)), .ref b, .ref m, .int r]) (by rw [nI_1]) ?_
        refine hm_sld (j := 3 * k + 1) C hS (by omega) (by omega) nd_LA_law_319 ?_
        refine hm_callV C hr2 nV_MO_count [.int (xs (3 * k + 1))] rfl hf2 rfl nq_LA_55 nj_MO_count nx_MO_count rfl (rest := [.int r]) rfl (Nat.le_of_ble_eq_true rfl) (by decide) (by decide) (by omega) (by omega) nd_LA_law_320 (fun r M20 hp => ?_)
        obtain ⟨rfl, hI2⟩ := hp
        refine hm_stk (st' := [.int r, .int r]) rfl ?_
        refine hm_icmp_eq (tgt := 328) C nd_LA_law_323 (by decide) (fun c9 => ?_) (fun c9 => (c9 rfl).elim)
        refine hm_iinc (x := (nI (3 * k))) (v := ((nI (3 * k)) + 3)) C [(3, .int ((nI (3 * k)) + 3)), (2, .ref m), (1, .ref x), (0, .ref b)] nd_LA_law_328 rfl rfl (by decide) rfl ?_
        refine hm_goto (tgt := 18) C nd_LA_law_331 (by decide) ?_
        refine hm_less (lv' := [(3, .int (nI (3 * (k + 1)))), (2, .ref m), (1, .ref x), (0, .ref b)]) (fun z hz => by simp only [List.mem_cons, List.not_mem_nil, or_false, la_e33] at hz ⊢; rcases hz with h | h | h | h <;> subst h <;> simp [nI_0]) ?_
        exact ih (k + 1) _ _ _ (by omega) hI2
      · refine hm_tableOut (tgt := 328) C nd_LA_law_32 (Or.inr (by have h9 : (nI z).toInt = ((z : Nat) : Int) := nI_toInt (by omega); omega)) (by decide) ?_
        refine hm_iinc (x := (nI (3 * k))) (v := ((nI (3 * k)) + 3)) C [(3, .int ((nI (3 * k)) + 3)), (2, .ref m), (1, .ref x), (0, .ref b)] nd_LA_law_328 rfl rfl (by decide) rfl ?_
        refine hm_goto (tgt := 18) C nd_LA_law_331 (by decide) ?_
        refine hm_less (lv' := [(3, .int (nI (3 * (k + 1)))), (2, .ref m), (1, .ref x), (0, .ref b)]) (fun z hz => by simp only [List.mem_cons, List.not_mem_nil, or_false, la_e33] at hz ⊢; rcases hz with h | h | h | h <;> subst h <;> simp [nI_0]) ?_
        exact ih (k + 1) _ _ _ (by omega) hI.nx
set_option maxHeartbeats 4000000 in
set_option maxRecDepth 100000 in
theorem law_start {X : hm_X} {l : Launch} {D : va_G} {BG : Nat → Option Cell} {nm : String} (C : hm_C X l D BG code "TurnedKeysLaw" nm 4 15 598 600000 7302250) {b L : Nat} {xs : Nat → Int32} (hS : hm_S X b L xs) (hL : L ≤ 1536) (hend : ∀ (M : hm_M) (k n : Nat) (lv : List (Nat × Value)), k ≤ 600000 → n ≤ 7302250 → hm_W X M k n 335 lv [.int 1]) : hm_W X (fun _ => none) 0 0 0 [(0, .ref b)] [] := by
  obtain ⟨M0, hM0⟩ : ∃ M0 : hm_M, M0 = (fun _ => none) := ⟨_, rfl⟩
  rw [← hM0]
  refine hm_newN C 6 nB_LA_7 rfl (by omega) (by omega) nd_LA_law_0 (fun x hq_x => ?_)
  generalize hM1 : hm_up M0 x (hm_ob 6 [.null, .null, .null, .null, .null, .int 0]) = M1
  have fM1_0 : M1 x = some (hm_ob 6 [.null, .null, .null, .null, .null, .int 0]) := by rw [← hM1]; exact hm_up_s _ _ _
  refine hm_dup C nd_LA_law_3 rfl ?_
  refine hm_callI C (ct_TK_init M1 x fM1_0) nV_TK_init rfl nq_LA_9 nj_TK_init [] rfl rfl (rest := [.ref x]) rfl (Nat.le_of_ble_eq_true rfl) (by decide) (by decide) (by omega) (by omega) nd_LA_law_4 (fun r M2 hp => ?_)
  obtain ⟨rfl, n, c, hn, hc, hR⟩ := hp
  refine hm_stk (st' := [.ref x]) rfl ?_
  refine hm_astore_n C [(1, .ref x), (0, .ref b)] nd_LA_law_7 (by decide) rfl ?_
  refine hm_newN C 23 nB_LA_10 rfl (by omega) (by omega) nd_LA_law_8 (fun m hqm => ?_)
  obtain ⟨hdj, hun⟩ := la_new (D := D) (A := fun _ => 0) (fs := [.int 0, .null, .null, .null, .null, .null, .null, .null, .int 0, .int 0, .int 0, .null, .null, .null, .null, .int 0, .null, .null, .int 0, .null, .null, .null, .int 0]) hqm
  refine hm_eqM hun ?_
  refine hm_dup C nd_LA_law_11 rfl ?_
  refine hm_callI C ((ct_MO_init m).fr2 M2 hdj) nV_MO_init rfl nq_LA_12 nj_MO_init [] rfl rfl (rest := [.ref m]) rfl (Nat.le_of_ble_eq_true rfl) (by decide) (by decide) (by omega) (by omega) nd_LA_law_12 (fun r M3 hp => ?_)
  obtain ⟨Mr, ⟨rfl, A, sc, ar, n', q, vl, gv, kn, od, hn', hA, rfl, hmo⟩, hd, rfl⟩ := hp
  refine hm_stk (st' := [.ref m]) rfl ?_
  refine hm_astore_n C [(2, .ref m), (1, .ref x), (0, .ref b)] nd_LA_law_15 (by decide) rfl ?_
  refine hm_iconst (v := 0) C nd_LA_law_16 (by decide) ?_
  refine hm_istore_n C [(3, .int 0), (2, .ref m), (1, .ref x), (0, .ref b)] nd_LA_law_17 (by decide) rfl ?_
  refine hm_less (lv' := [(3, .int (nI (3 * 0))), (2, .ref m), (1, .ref x), (0, .ref b)]) (fun z hz => by simp only [List.mem_cons, List.not_mem_nil, or_false] at hz ⊢; rcases hz with h | h | h | h <;> subst h <;> simp [nI_0]) ?_
  exact law_loop C hS hL hend x m 512 0 _ _ _ (by omega) ⟨_, A, sc, ar, n, c, 0, 0, 4, n', q, vl, gv, kn, od, sp_E0, [], fun _ => False, rfl, hd, hA, hR, hmo, sp_ok0, by omega, by omega, hc, by omega, by omega, by omega, by omega, by omega⟩
set_option maxHeartbeats 4000000 in
set_option maxRecDepth 100000 in
/-- THE LAW, from its entry -/
theorem whole_start {p : Program} {e : Env} {s : State} {m : MethodId} {below : List Frame} {meth : Method} {c : Code} (l : Launch) {b L : Nat} {xs : Nat → Int32} (hL : L ≤ 1536) (C0 : lw_At p s m meth c b L xs) : W p l e room_1 s m #[Value.ref b] below meth c s.heap [] 0 0 (lw_Z below #[Value.ref b] s) (entryFrame m ([Value.ref b] : List Value).toArray 4) := by
  obtain ⟨hx, hb, hr, hml, hown, hts, hX, hbl, hlocks, hgv⟩ := id C0
  obtain ⟨D, hK⟩ := la_K hts hgv
  have C : hm_C (p, l, e, room_1, s, m, #[Value.ref b], below, meth, c, lw_Z below #[Value.ref b] s, D, (fun q => s.heap[q]?), (fun q => s.heap.size ≤ q)) l D (fun q => s.heap[q]?) code "TurnedKeysLaw" meth.name 4 15 598 600000 7302250 := ⟨hx, hb, hown, fun w hw => hts w (List.mem_filter.mp hw).1, la_N hts, hK, fun _ h => h, fun q h => Array.getElem?_eq_none h, rfl, hml, rfl, rfl, rfl, rfl⟩
  have hS : hm_S (p, l, e, room_1, s, m, #[Value.ref b], below, meth, c, lw_Z below #[Value.ref b] s, D, (fun q => s.heap[q]?), (fun q => s.heap.size ≤ q)) b L xs := ⟨hX, hbl, Nat.not_le.mpr hbl⟩
  have main := law_start C hS hL (fun M k n lv hk hn => by
    intro H locs ls h1 h2 h3 h4 h5
    exact va_forget (fun q hq => h4.2.2 q hq) (W.widen hk hn (lw_ret hx hb hr hlocks nd_LA_law_335)))
  have hl := lv_entry ([.ref b]) (n := 4) (Nat.le_of_ble_eq_true rfl)
  rw [lg_entry_eq]
  exact main s.heap [] _ (fun a e h => by cases h) (fun a c h => h) (fun a e h => by cases h) va_S.rf (by rw [hml]; exact hl)
