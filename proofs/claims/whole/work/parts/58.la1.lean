/-! the law: class and reference side by side -/
def hm_S (X : hm_X) (b L : Nat) (xs : Nat → Int32) : Prop := match X with
  | (_, _, _, _, s, _, _, _, _, _, _, _, _, A) => va_X b L xs s s.heap ∧ b < s.heap.size ∧ ¬ A b
theorem hm_slen {X : hm_X} {l : Launch} {D : va_G} {BG : Nat → Option Cell} {cc : ByteArray} {own nm : String} {nL fr lo mc ms : Nat} {M : hm_M} {k n pc : Nat} {lv : List (Nat × Value)} {st : List Value} (C : hm_C X l D BG cc own nm nL fr lo mc ms) {b L : Nat} {xs : Nat → Int32} (hS : hm_S X b L xs) (hd : decode cc pc = .ok (.arraylength, 1)) (kk : hm_W X M k n (pc + 1) lv (.int (nI L) :: st)) : hm_W X M k n pc lv (.ref b :: st) := by
  obtain ⟨p, l', e, R, s, m, args, below, meth, c, Q, D', BG', A⟩ := X
  obtain ⟨hx, hb, hown, hts, hnw, hK, hA, hBG, hR, hml, hnm, el, eD, eB⟩ := C
  intro H locs ls h1 h2 h3 h4 h5
  exact va_slen hx hb hS.1 hS.2.1 hS.2.2 h4 hd (kk H locs ls h1 h2 h3 h4 h5)
theorem hm_sld {X : hm_X} {l : Launch} {D : va_G} {BG : Nat → Option Cell} {cc : ByteArray} {own nm : String} {nL fr lo mc ms : Nat} {M : hm_M} {k n pc : Nat} {lv : List (Nat × Value)} {st : List Value} (C : hm_C X l D BG cc own nm nL fr lo mc ms) {b L : Nat} {xs : Nat → Int32} (hS : hm_S X b L xs) {j : Nat} (hj : j < L) (hL : L < 2 ^ 31) (hd : decode cc pc = .ok (.iaload, 1)) (kk : hm_W X M k n (pc + 1) lv (.int (xs j) :: st)) : hm_W X M k n pc lv (.int (nI j) :: .ref b :: st) := by
  obtain ⟨p, l', e, R, s, m, args, below, meth, c, Q, D', BG', A⟩ := X
  obtain ⟨hx, hb, hown, hts, hnw, hK, hA, hBG, hR, hml, hnm, el, eD, eB⟩ := C
  intro H locs ls h1 h2 h3 h4 h5
  have h9 := kk H locs ls h1 h2 h3 h4 h5
  have hc : (nI j).toNatClampNeg = j := nI_clamp (by omega)
  exact va_sld hx hb hS.1 hS.2.1 hS.2.2 h4 (nI_in hj hL) hd (by rw [hc]; exact h9)
def la_B (k n c cw mk dr n' u1 u2 : Nat) (W : List sp_W) : Prop := mk ≤ k ∧ n ≤ 10 + 26 * k ∧ c ≤ 2 * n + 10 ∧ n' ≤ 10 + 26 * k ∧ dr ≤ 4 + 2 * k ∧ cw ≤ 10 + 2 * W.length ∧ u1 ≤ 700 + n + c + cw + 12 * k ∧ u2 ≤ 200000 + 8 * n + 4 * c + 4 * cw + 40 * k
def la_I (D : va_G) (x m k u1 u2 : Nat) (M : hm_M) : Prop := ∃ Mc A sc ar n c cw mk dr n' q vl gv kn od Es W G, M = hm_un Mc (rf_M D m A sc ar) ∧ hm_dj Mc (rf_M D m A sc ar) ∧ rf_ok A m ∧ tk_R D Mc x n c cw mk dr Es W G ∧ mo_I sc ar n' q vl dr gv kn od Es W G ∧ sp_ok k Es W ∧ la_B k n c cw mk dr n' u1 u2 W
def la_T (l : Launch) (D : va_G) (BG : Nat → Option Cell) (yc : MethodName) (cc : ByteArray) (mlc frc loc : Nat) (yr : MethodName) (cr : ByteArray) (mlr frr lor : Nat) (x m : Nat) (as : List Value) (k u1 u2 : Nat) (M : hm_M) : Prop := ∃ (r : Int32) (mc ms : Nat) (J : hm_M → Prop), u1 + mc ≤ 600000 ∧ u2 + ms ≤ 7302250 ∧ (∃ fs, M x = some (hm_ob 6 fs)) ∧ hm_ct l D BG yc cc mlc (some .int) frc loc mc ms (.ref x :: as) M (fun r' M1 => r' = some (.int r) ∧ J M1) ∧ ∀ M1, J M1 → (∃ fs, M1 m = some (hm_ob 7 fs)) ∧ hm_ct l D BG yr cr mlr (some .int) frr lor 0 0 (.ref m :: as) M1 (fun r' M2 => r' = some (.int r) ∧ la_I D x m (k + 1) (u1 + mc) (u2 + ms) M2)
theorem la_glue {l : Launch} {D : va_G} {BG : Nat → Option Cell} {yc : MethodName} {cc : ByteArray} {mlc frc loc : Nat} {yr : MethodName} {cr : ByteArray} {mlr frr lor : Nat} {x m : Nat} {as : List Value} {k u1 u2 : Nat} {Mc : hm_M} {A : Nat → Nat} {sc : Nat → Int32} {ar : Nat → Nat → Int32} {n c cw mk dr n' mc ms dr1 : Nat} {Es Es1 : Nat → sp_E} {W W1 : List sp_W} {G G1 : Nat → Prop} {r : Int32} (hk : k < 512) (hWk : W.length ≤ 512) (hd : hm_dj Mc (rf_M D m A sc ar)) (hA : rf_ok A m) (hR : tk_R D Mc x n c cw mk dr Es W G) (hB : la_B k n c cw mk dr n' u1 u2 W)
    (h1 : hm_ct l D BG yc cc mlc (some .int) frc loc mc ms (.ref x :: as) Mc (fun r' M' => r' = some (.int r) ∧ ∃ n1 c1 cw1 mk1, tk_R D M' x n1 c1 cw1 mk1 dr1 Es1 W1 G1 ∧ n ≤ n1 ∧ n1 ≤ n + 26 ∧ c ≤ c1 ∧ c1 ≤ 2 * n1 + 10 ∧ cw ≤ cw1 ∧ cw1 ≤ 10 + 2 * W1.length ∧ mk1 ≤ mk + 1 ∧ mc ≤ 12 + (n1 - n) + (c1 - c) + (cw1 - cw) ∧ ms ≤ 40 + 8 * (n1 - n) + 4 * (c1 - c) + 4 * (cw1 - cw)))
    (hmc : mc ≤ 100000) (hms : ms ≤ 1000000)
    (h2 : hm_ct l D BG yr cr mlr (some .int) frr lor 0 0 (.ref m :: as) (rf_M D m A sc ar) (fun r' M' => r' = some (.int r) ∧ ∃ sc1 ar1 n1 q1 vl1 gv1 kn1 od1, n1 ≤ n' + 26 ∧ M' = rf_M D m A sc1 ar1 ∧ mo_I sc1 ar1 n1 q1 vl1 dr1 gv1 kn1 od1 Es1 W1 G1)) (hdr : dr1 ≤ dr + 2) (hok : sp_ok (k + 1) Es1 W1) : la_T l D BG yc cc mlc frc loc yr cr mlr frr lor x m as k u1 u2 (hm_un Mc (rf_M D m A sc ar)) := by
  obtain ⟨b1, b2, b3, b4, b5, b6, b7, b8⟩ := hB
  obtain ⟨tm, ea, ka, wl, we, se, a, lk, fw, F, T, hI⟩ := hR
  refine ⟨r, mc, ms, fun M1 => ∃ Mc1 n1 c1 cw1 mk1, M1 = hm_un Mc1 (rf_M D m A sc ar) ∧ hm_dj Mc1 (rf_M D m A sc ar) ∧ tk_R D Mc1 x n1 c1 cw1 mk1 dr1 Es1 W1 G1 ∧ n ≤ n1 ∧ n1 ≤ n + 26 ∧ c ≤ c1 ∧ c1 ≤ 2 * n1 + 10 ∧ cw ≤ cw1 ∧ cw1 ≤ 10 + 2 * W1.length ∧ mk1 ≤ mk + 1 ∧ mc ≤ 12 + (n1 - n) + (c1 - c) + (cw1 - cw) ∧ ms ≤ 40 + 8 * (n1 - n) + 4 * (c1 - c) + 4 * (cw1 - cw), by omega, by omega, ⟨_, hm_un_l hI.1.1⟩, ?_, ?_⟩
  · refine (h1.fr _ hd).mono (fun r' M1 z => ?_)
    obtain ⟨Mc1, ⟨rfl, n1, c1, cw1, mk1, z1⟩, z2, rfl⟩ := z
    exact ⟨rfl, Mc1, n1, c1, cw1, mk1, rfl, z2, z1⟩
  · rintro M1 ⟨Mc1, n1, c1, cw1, mk1, rfl, z2, z3, z4, z5, z6, z7, z8, z9, z10, z11, z12⟩
    refine ⟨⟨_, by rw [hm_un_cm z2]; exact hm_un_l rf_m⟩, (h2.fr2 Mc1 z2).mono (fun r' M2 z => ?_)⟩
    obtain ⟨Mr1, ⟨rfl, sc1, ar1, n1', q1, vl1, gv1, kn1, od1, y1, rfl, y2⟩, y3, rfl⟩ := z
    exact ⟨rfl, Mc1, A, sc1, ar1, n1, c1, cw1, mk1, dr1, n1', q1, vl1, gv1, kn1, od1, Es1, W1, G1, rfl, y3, hA, z3, y2, hok, by omega, by omega, z7, by omega, by omega, z9, by omega, by omega⟩
theorem li_c_bd {cw n : Nat} (h : cw ≤ 10 + 2 * n) : cw ≤ li_c cw n ∧ li_c cw n ≤ 10 + 2 * (n + 1) := by
  unfold li_c
  split
  · split <;> omega
  · omega
theorem sp_E0_back (j : Nat) (hj : j < 2) : sp_E0 j = sp_E0 (j + 2) := by
  obtain rfl | rfl : j = 0 ∨ j = 1 := by omega
  · rfl
  · rfl
theorem sp_E0_keep (j : Nat) (hj : j < 2) : sp_E0 (j + 2) = sp_E0 j := (sp_E0_back j hj).symm
set_option maxHeartbeats 4000000 in
theorem la_agree {l : Launch} {D : va_G} {BG : Nat → Option Cell} {x m k u1 u2 : Nat} {M : hm_M} (hI : la_I D x m k u1 u2 M) (hk : k < 512)  : la_T l D BG ny_TK_agree prog_1_method_10_code 1 1 20 ny_MO_agree prog_8_method_31_code 1 0 0 x m [] k u1 u2 M := by
  obtain ⟨Mc, A, sc, ar, n, c, cw, mk, dr, n', q, vl, gv, kn, od, Es, W, G, rfl, hd, hA, hR, hmo, hok, hB⟩ := hI
  have hWk : W.length ≤ 512 := by have := hok.2.2.2; omega
  obtain ⟨b1, b2, b3, b4, b5, b6, b7, b8⟩ := id hB
  obtain ⟨tm, ea, ka, wl, we, se, a, lk, fw, F, T, hT⟩ := id hR
  exact la_glue (n := n) (c := c) (cw := cw) (mk := mk) (dr := dr) (Es := Es) (G := G) (Es1 := Es) (W1 := W) (G1 := G) (dr1 := dr) hk hWk hd hA hR hB ((ct_TK_agree Mc x tm ea ka wl we cw n c se mk dr a lk fw Es W F T G hT).mono (fun r M' z => ⟨z.1, n, c, cw, mk, by rw [z.2]; exact hR, by omega, by omega, by omega, b3, by omega, b6, by omega, by omega, by omega⟩)) (by omega) (by omega) ((ct_MO_agree m A hA sc ar n' q vl dr gv kn od Es W G hmo).mono (fun r M' z => ⟨z.1, sc, ar, n', q, vl, gv, kn, od, by omega, z.2, hmo⟩)) (by omega) (hok.mn (by omega))
set_option maxHeartbeats 4000000 in
theorem la_count {l : Launch} {D : va_G} {BG : Nat → Option Cell} {x m k u1 u2 : Nat} {M : hm_M} (hI : la_I D x m k u1 u2 M) (hk : k < 512) (v : Int32) : la_T l D BG ny_TK_count prog_1_method_11_code 2 1 20 ny_MO_count prog_8_method_32_code 2 0 0 x m [.int v] k u1 u2 M := by
  obtain ⟨Mc, A, sc, ar, n, c, cw, mk, dr, n', q, vl, gv, kn, od, Es, W, G, rfl, hd, hA, hR, hmo, hok, hB⟩ := hI
  have hWk : W.length ≤ 512 := by have := hok.2.2.2; omega
  obtain ⟨b1, b2, b3, b4, b5, b6, b7, b8⟩ := id hB
  obtain ⟨tm, ea, ka, wl, we, se, a, lk, fw, F, T, hT⟩ := id hR
  exact la_glue (n := n) (c := c) (cw := cw) (mk := mk) (dr := dr) (Es := Es) (G := G) (Es1 := Es) (W1 := W) (G1 := G) (dr1 := dr) hk hWk hd hA hR hB ((ct_TK_count Mc x tm ea ka wl we cw n c se mk dr a lk fw Es W F T G hT v).mono (fun r M' z => ⟨z.1, n, c, cw, mk, by rw [z.2]; exact hR, by omega, by omega, by omega, b3, by omega, b6, by omega, by omega, by omega⟩)) (by omega) (by omega) ((ct_MO_count m A hA sc ar n' q vl dr gv kn od Es W G hmo v).mono (fun r M' z => ⟨z.1, sc, ar, n', q, vl, gv, kn, od, by omega, z.2, hmo⟩)) (by omega) (hok.mn (by omega))
set_option maxHeartbeats 4000000 in
theorem la_end {l : Launch} {D : va_G} {BG : Nat → Option Cell} {x m k u1 u2 : Nat} {M : hm_M} (hI : la_I D x m k u1 u2 M) (hk : k < 512) (e v : Int32) : la_T l D BG ny_TK_end prog_1_method_9_code 4 1 21 ny_MO_end prog_8_method_30_code 3 1 22 x m [.int e, .int v] k u1 u2 M := by
  obtain ⟨Mc, A, sc, ar, n, c, cw, mk, dr, n', q, vl, gv, kn, od, Es, W, G, rfl, hd, hA, hR, hmo, hok, hB⟩ := hI
  have hWk : W.length ≤ 512 := by have := hok.2.2.2; omega
  obtain ⟨b1, b2, b3, b4, b5, b6, b7, b8⟩ := id hB
  obtain ⟨tm, ea, ka, wl, we, se, a, lk, fw, F, T, hT⟩ := id hR
  rcases pk_ix e (n := 2) (by decide) with he | he | ⟨j, hj, rfl⟩
  · exact la_glue (n := n) (c := c) (cw := cw) (mk := mk) (dr := dr) (Es := Es) (G := G) (Es1 := Es) (W1 := W) (G1 := G) (dr1 := dr) hk hWk hd hA hR hB ((ct_TK_end_out Mc x tm ea ka wl we cw n c se mk dr a lk fw Es W F T G hT e v (Or.inl he)).mono (fun r M' z => ⟨z.1, n, c, cw, mk, by rw [z.2]; exact hR, by omega, by omega, by omega, b3, by omega, b6, by omega, by omega, by omega⟩)) (by omega) (by omega) ((ct_MO_end_out m A hA sc ar e v (Or.inl he)).mono (fun r M' z => ⟨z.1, sc, ar, n', q, vl, gv, kn, od, by omega, z.2, hmo⟩)) (by omega) (hok.mn (by omega))
  · exact la_glue (n := n) (c := c) (cw := cw) (mk := mk) (dr := dr) (Es := Es) (G := G) (Es1 := Es) (W1 := W) (G1 := G) (dr1 := dr) hk hWk hd hA hR hB ((ct_TK_end_out Mc x tm ea ka wl we cw n c se mk dr a lk fw Es W F T G hT e v (Or.inr he)).mono (fun r M' z => ⟨z.1, n, c, cw, mk, by rw [z.2]; exact hR, by omega, by omega, by omega, b3, by omega, b6, by omega, by omega, by omega⟩)) (by omega) (by omega) ((ct_MO_end_out m A hA sc ar e v (Or.inr he)).mono (fun r M' z => ⟨z.1, sc, ar, n', q, vl, gv, kn, od, by omega, z.2, hmo⟩)) (by omega) (hok.mn (by omega))
  · exact la_glue (n := n) (c := c) (cw := cw) (mk := mk) (dr := dr) (Es := Es) (G := G) (Es1 := Es) (W1 := W) (G1 := G) (dr1 := dr) hk hWk hd hA hR hB ((ct_TK_end_in Mc x tm ea ka wl we cw n c se mk dr a lk fw Es W F T G hT j hj v).mono (fun r M' z => ⟨z.1, n, c, cw, mk, by rw [z.2]; exact hR, by omega, by omega, by omega, b3, by omega, b6, by omega, by omega, by omega⟩)) (by omega) (by omega) ((ct_MO_end_in m A hA sc ar n' q vl dr gv kn od Es W G hmo j hj v).mono (fun r M' z => ⟨z.1, (by obtain ⟨ar1, z2, z3⟩ := z.2; exact ⟨sc, ar1, n', q, vl, gv, kn, od, by omega, z2, z3⟩)⟩)) (by omega) (hok.mn (by omega))
set_option maxHeartbeats 4000000 in
theorem la_back {l : Launch} {D : va_G} {BG : Nat → Option Cell} {x m k u1 u2 : Nat} {M : hm_M} (hI : la_I D x m k u1 u2 M) (hk : k < 512) (e : Int32) : la_T l D BG ny_TK_back prog_1_method_7_code 2 2 43 ny_MO_back prog_8_method_28_code 3 1 20 x m [.int e] k u1 u2 M := by
  obtain ⟨Mc, A, sc, ar, n, c, cw, mk, dr, n', q, vl, gv, kn, od, Es, W, G, rfl, hd, hA, hR, hmo, hok, hB⟩ := hI
  have hWk : W.length ≤ 512 := by have := hok.2.2.2; omega
  obtain ⟨b1, b2, b3, b4, b5, b6, b7, b8⟩ := id hB
  obtain ⟨tm, ea, ka, wl, we, se, a, lk, fw, F, T, hT⟩ := id hR
  rcases pk_ix e (n := 2) (by decide) with he | he | ⟨j, hj, rfl⟩
  · exact la_glue (n := n) (c := c) (cw := cw) (mk := mk) (dr := dr) (Es := Es) (G := G) (Es1 := Es) (W1 := W) (G1 := G) (dr1 := dr) hk hWk hd hA hR hB ((ct_TK_back_out Mc x tm ea ka wl we cw n c se mk dr a lk fw Es W F T G hT e (Or.inl he)).mono (fun r M' z => ⟨z.1, n, c, cw, mk, by rw [z.2]; exact hR, by omega, by omega, by omega, b3, by omega, b6, by omega, by omega, by omega⟩)) (by omega) (by omega) ((ct_MO_back_out m A hA sc ar e (Or.inl he)).mono (fun r M' z => ⟨z.1, sc, ar, n', q, vl, gv, kn, od, by omega, z.2, hmo⟩)) (by omega) (hok.mn (by omega))
  · exact la_glue (n := n) (c := c) (cw := cw) (mk := mk) (dr := dr) (Es := Es) (G := G) (Es1 := Es) (W1 := W) (G1 := G) (dr1 := dr) hk hWk hd hA hR hB ((ct_TK_back_out Mc x tm ea ka wl we cw n c se mk dr a lk fw Es W F T G hT e (Or.inr he)).mono (fun r M' z => ⟨z.1, n, c, cw, mk, by rw [z.2]; exact hR, by omega, by omega, by omega, b3, by omega, b6, by omega, by omega, by omega⟩)) (by omega) (by omega) ((ct_MO_back_out m A hA sc ar e (Or.inr he)).mono (fun r M' z => ⟨z.1, sc, ar, n', q, vl, gv, kn, od, by omega, z.2, hmo⟩)) (by omega) (hok.mn (by omega))
  · exact la_glue (n := n) (c := c) (cw := cw) (mk := mk) (dr := dr) (Es := Es) (G := G) (Es1 := (fun i => if i = j then Es (j + 2) else Es i)) (W1 := W) (G1 := G) (dr1 := dr) hk hWk hd hA hR hB ((ct_TK_back_in Mc x tm ea ka wl we cw n c se mk dr a lk fw Es W F T G hT j hj).mono (fun r M' z => ⟨z.1, n, c, cw, mk, z.2, by omega, by omega, by omega, b3, by omega, b6, by omega, by omega, by omega⟩)) (by omega) (by omega) ((ct_MO_back_s m A hA sc ar n' q vl dr gv kn od Es W G hmo j hj).mono (fun r M' z => ⟨z.1, (by obtain ⟨ar1, z2, z3⟩ := z.2; exact ⟨sc, ar1, n', q, vl, gv, kn, od, by omega, z2, z3⟩)⟩)) (by omega) (hok.bk (i0 := j) (j := (j + 2)) (by omega) (by omega) (sp_E0_back j hj))
set_option maxHeartbeats 4000000 in
theorem la_keep {l : Launch} {D : va_G} {BG : Nat → Option Cell} {x m k u1 u2 : Nat} {M : hm_M} (hI : la_I D x m k u1 u2 M) (hk : k < 512) (e : Int32) : la_T l D BG ny_TK_keep prog_1_method_8_code 2 2 43 ny_MO_keep prog_8_method_29_code 3 1 20 x m [.int e] k u1 u2 M := by
  obtain ⟨Mc, A, sc, ar, n, c, cw, mk, dr, n', q, vl, gv, kn, od, Es, W, G, rfl, hd, hA, hR, hmo, hok, hB⟩ := hI
  have hWk : W.length ≤ 512 := by have := hok.2.2.2; omega
  obtain ⟨b1, b2, b3, b4, b5, b6, b7, b8⟩ := id hB
  obtain ⟨tm, ea, ka, wl, we, se, a, lk, fw, F, T, hT⟩ := id hR
  rcases pk_ix e (n := 2) (by decide) with he | he | ⟨j, hj, rfl⟩
  · exact la_glue (n := n) (c := c) (cw := cw) (mk := mk) (dr := dr) (Es := Es) (G := G) (Es1 := Es) (W1 := W) (G1 := G) (dr1 := dr) hk hWk hd hA hR hB ((ct_TK_keep_out Mc x tm ea ka wl we cw n c se mk dr a lk fw Es W F T G hT e (Or.inl he)).mono (fun r M' z => ⟨z.1, n, c, cw, mk, by rw [z.2]; exact hR, by omega, by omega, by omega, b3, by omega, b6, by omega, by omega, by omega⟩)) (by omega) (by omega) ((ct_MO_keep_out m A hA sc ar e (Or.inl he)).mono (fun r M' z => ⟨z.1, sc, ar, n', q, vl, gv, kn, od, by omega, z.2, hmo⟩)) (by omega) (hok.mn (by omega))
  · exact la_glue (n := n) (c := c) (cw := cw) (mk := mk) (dr := dr) (Es := Es) (G := G) (Es1 := Es) (W1 := W) (G1 := G) (dr1 := dr) hk hWk hd hA hR hB ((ct_TK_keep_out Mc x tm ea ka wl we cw n c se mk dr a lk fw Es W F T G hT e (Or.inr he)).mono (fun r M' z => ⟨z.1, n, c, cw, mk, by rw [z.2]; exact hR, by omega, by omega, by omega, b3, by omega, b6, by omega, by omega, by omega⟩)) (by omega) (by omega) ((ct_MO_keep_out m A hA sc ar e (Or.inr he)).mono (fun r M' z => ⟨z.1, sc, ar, n', q, vl, gv, kn, od, by omega, z.2, hmo⟩)) (by omega) (hok.mn (by omega))
  · exact la_glue (n := n) (c := c) (cw := cw) (mk := mk) (dr := dr) (Es := Es) (G := G) (Es1 := (fun i => if i = j + 2 then Es j else Es i)) (W1 := W) (G1 := G) (dr1 := dr) hk hWk hd hA hR hB ((ct_TK_keep_in Mc x tm ea ka wl we cw n c se mk dr a lk fw Es W F T G hT j hj).mono (fun r M' z => ⟨z.1, n, c, cw, mk, z.2, by omega, by omega, by omega, b3, by omega, b6, by omega, by omega, by omega⟩)) (by omega) (by omega) ((ct_MO_keep_s m A hA sc ar n' q vl dr gv kn od Es W G hmo j hj).mono (fun r M' z => ⟨z.1, (by obtain ⟨ar1, z2, z3⟩ := z.2; exact ⟨sc, ar1, n', q, vl, gv, kn, od, by omega, z2, z3⟩)⟩)) (by omega) (hok.bk (i0 := (j + 2)) (j := j) (by omega) (by omega) (sp_E0_keep j hj))
set_option maxHeartbeats 4000000 in
theorem la_look {l : Launch} {D : va_G} {BG : Nat → Option Cell} {x m k u1 u2 : Nat} {M : hm_M} (hI : la_I D x m k u1 u2 M) (hk : k < 512) (e : Int32) : la_T l D BG ny_TK_look prog_1_method_4_code 6 2 41 ny_MO_look prog_8_method_25_code 3 2 42 x m [.int e] k u1 u2 M := by
  obtain ⟨Mc, A, sc, ar, n, c, cw, mk, dr, n', q, vl, gv, kn, od, Es, W, G, rfl, hd, hA, hR, hmo, hok, hB⟩ := hI
  have hWk : W.length ≤ 512 := by have := hok.2.2.2; omega
  obtain ⟨b1, b2, b3, b4, b5, b6, b7, b8⟩ := id hB
  obtain ⟨tm, ea, ka, wl, we, se, a, lk, fw, F, T, hT⟩ := id hR
  rcases pk_ix e (n := 2) (by decide) with he | he | ⟨j, hj, rfl⟩
  · exact la_glue (n := n) (c := c) (cw := cw) (mk := mk) (dr := dr) (Es := Es) (G := G) (Es1 := Es) (W1 := W) (G1 := G) (dr1 := dr) hk hWk hd hA hR hB ((ct_TK_look_out Mc x tm ea ka wl we cw n c se mk dr a lk fw Es W F T G hT e (Or.inl he)).mono (fun r M' z => ⟨z.1, n, c, cw, mk, by rw [z.2]; exact hR, by omega, by omega, by omega, b3, by omega, b6, by omega, by omega, by omega⟩)) (by omega) (by omega) ((ct_MO_look_out m A hA sc ar e (Or.inl he)).mono (fun r M' z => ⟨z.1, sc, ar, n', q, vl, gv, kn, od, by omega, z.2, hmo⟩)) (by omega) (hok.mn (by omega))
  · exact la_glue (n := n) (c := c) (cw := cw) (mk := mk) (dr := dr) (Es := Es) (G := G) (Es1 := Es) (W1 := W) (G1 := G) (dr1 := dr) hk hWk hd hA hR hB ((ct_TK_look_out Mc x tm ea ka wl we cw n c se mk dr a lk fw Es W F T G hT e (Or.inr he)).mono (fun r M' z => ⟨z.1, n, c, cw, mk, by rw [z.2]; exact hR, by omega, by omega, by omega, b3, by omega, b6, by omega, by omega, by omega⟩)) (by omega) (by omega) ((ct_MO_look_out m A hA sc ar e (Or.inr he)).mono (fun r M' z => ⟨z.1, sc, ar, n', q, vl, gv, kn, od, by omega, z.2, hmo⟩)) (by omega) (hok.mn (by omega))
  · exact la_glue (n := n) (c := c) (cw := cw) (mk := mk) (dr := dr) (Es := Es) (G := G) (Es1 := Es) (W1 := W) (G1 := (sp_gv G (sp_lg (Es j)))) (dr1 := dr) hk hWk hd hA hR hB ((ct_TK_look_in Mc x tm ea ka wl we cw n c se mk dr a lk fw Es W F T G hT j hj (sp_lg_ns (hok.1 j (by omega)))).mono (fun r M' z => ⟨z.1, n, c, cw, mk, z.2, by omega, by omega, by omega, b3, by omega, b6, by omega, by omega, by omega⟩)) (by omega) (by omega) ((ct_MO_look_in m A hA sc ar n' q vl dr gv kn od Es W G hmo j hj).mono (fun r M' z => ⟨z.1, (by obtain ⟨sc1, ar1, gv1, od1, z2, z3⟩ := z.2; exact ⟨sc1, ar1, n', q, vl, gv1, kn, od1, by omega, z2, z3⟩)⟩)) (by omega) (hok.mn (by omega))
set_option maxHeartbeats 4000000 in
theorem la_derived {l : Launch} {D : va_G} {BG : Nat → Option Cell} {x m k u1 u2 : Nat} {M : hm_M} (hI : la_I D x m k u1 u2 M) (hk : k < 512) (e : Int32) : la_T l D BG ny_TK_derived prog_1_method_5_code 3 5 107 ny_MO_derived prog_8_method_26_code 2 5 112 x m [.int e] k u1 u2 M := by
  obtain ⟨Mc, A, sc, ar, n, c, cw, mk, dr, n', q, vl, gv, kn, od, Es, W, G, rfl, hd, hA, hR, hmo, hok, hB⟩ := hI
  have hWk : W.length ≤ 512 := by have := hok.2.2.2; omega
  obtain ⟨b1, b2, b3, b4, b5, b6, b7, b8⟩ := id hB
  obtain ⟨tm, ea, ka, wl, we, se, a, lk, fw, F, T, hT⟩ := id hR
  rcases pk_ix e (n := W.length) (by omega) with he | he | ⟨j, hj, rfl⟩
  · exact la_glue (n := n) (c := c) (cw := cw) (mk := mk) (dr := dr) (Es := Es) (G := G) (Es1 := Es) (W1 := W) (G1 := G) (dr1 := dr) hk hWk hd hA hR hB ((ct_TK_derived_out Mc x tm ea ka wl we cw n c se mk dr a lk fw Es W F T G hT (by omega) e (Or.inl he)).mono (fun r M' z => ⟨z.1, n, c, cw, mk, by rw [z.2]; exact hR, by omega, by omega, by omega, b3, by omega, b6, by omega, by omega, by omega⟩)) (by omega) (by omega) ((ct_MO_derived_out m A hA sc ar n' q vl dr gv kn od Es W G hmo e (Or.inl he)).mono (fun r M' z => ⟨z.1, sc, ar, n', q, vl, gv, kn, od, by omega, z.2, hmo⟩)) (by omega) (hok.mn (by omega))
  · exact la_glue (n := n) (c := c) (cw := cw) (mk := mk) (dr := dr) (Es := Es) (G := G) (Es1 := Es) (W1 := W) (G1 := G) (dr1 := dr) hk hWk hd hA hR hB ((ct_TK_derived_out Mc x tm ea ka wl we cw n c se mk dr a lk fw Es W F T G hT (by omega) e (Or.inr he)).mono (fun r M' z => ⟨z.1, n, c, cw, mk, by rw [z.2]; exact hR, by omega, by omega, by omega, b3, by omega, b6, by omega, by omega, by omega⟩)) (by omega) (by omega) ((ct_MO_derived_out m A hA sc ar n' q vl dr gv kn od Es W G hmo e (Or.inr he)).mono (fun r M' z => ⟨z.1, sc, ar, n', q, vl, gv, kn, od, by omega, z.2, hmo⟩)) (by omega) (hok.mn (by omega))
  · exact la_glue (n := n) (c := c) (cw := cw) (mk := mk) (dr := dr) (Es := Es) (G := G) (Es1 := Es) (W1 := W) (G1 := G) (dr1 := dr) hk hWk hd hA hR hB ((ct_TK_derived_in Mc x tm ea ka wl we cw n c se mk dr a lk fw Es W F T G hT (by omega) j hj).mono (fun r M' z => ⟨z.1, n, c, cw, mk, z.2, by omega, by omega, by omega, b3, by omega, b6, by omega, by omega, by omega⟩)) (by omega) (by omega) ((ct_MO_derived_in m A hA sc ar n' q vl dr gv kn od Es W G hmo (by omega) j hj).mono (fun r M' z => ⟨z.1, (by obtain ⟨sc1, ar1, kn1, od1, z2, z3⟩ := z.2; exact ⟨sc1, ar1, n', q, vl, gv, kn1, od1, by omega, z2, z3⟩)⟩)) (by omega) (hok.mn (by omega))
set_option maxHeartbeats 4000000 in
theorem la_opens {l : Launch} {D : va_G} {BG : Nat → Option Cell} {x m k u1 u2 : Nat} {M : hm_M} (hI : la_I D x m k u1 u2 M) (hk : k < 512) (e : Int32) : la_T l D BG ny_TK_opens prog_1_method_6_code 3 5 107 ny_MO_opens prog_8_method_27_code 2 5 112 x m [.int e] k u1 u2 M := by
  obtain ⟨Mc, A, sc, ar, n, c, cw, mk, dr, n', q, vl, gv, kn, od, Es, W, G, rfl, hd, hA, hR, hmo, hok, hB⟩ := hI
  have hWk : W.length ≤ 512 := by have := hok.2.2.2; omega
  obtain ⟨b1, b2, b3, b4, b5, b6, b7, b8⟩ := id hB
  obtain ⟨tm, ea, ka, wl, we, se, a, lk, fw, F, T, hT⟩ := id hR
  rcases pk_ix e (n := W.length) (by omega) with he | he | ⟨j, hj, rfl⟩
  · exact la_glue (n := n) (c := c) (cw := cw) (mk := mk) (dr := dr) (Es := Es) (G := G) (Es1 := Es) (W1 := W) (G1 := G) (dr1 := dr) hk hWk hd hA hR hB ((ct_TK_opens_out Mc x tm ea ka wl we cw n c se mk dr a lk fw Es W F T G hT (by omega) e (Or.inl he)).mono (fun r M' z => ⟨z.1, n, c, cw, mk, by rw [z.2]; exact hR, by omega, by omega, by omega, b3, by omega, b6, by omega, by omega, by omega⟩)) (by omega) (by omega) ((ct_MO_opens_out m A hA sc ar n' q vl dr gv kn od Es W G hmo e (Or.inl he)).mono (fun r M' z => ⟨z.1, sc, ar, n', q, vl, gv, kn, od, by omega, z.2, hmo⟩)) (by omega) (hok.mn (by omega))
  · exact la_glue (n := n) (c := c) (cw := cw) (mk := mk) (dr := dr) (Es := Es) (G := G) (Es1 := Es) (W1 := W) (G1 := G) (dr1 := dr) hk hWk hd hA hR hB ((ct_TK_opens_out Mc x tm ea ka wl we cw n c se mk dr a lk fw Es W F T G hT (by omega) e (Or.inr he)).mono (fun r M' z => ⟨z.1, n, c, cw, mk, by rw [z.2]; exact hR, by omega, by omega, by omega, b3, by omega, b6, by omega, by omega, by omega⟩)) (by omega) (by omega) ((ct_MO_opens_out m A hA sc ar n' q vl dr gv kn od Es W G hmo e (Or.inr he)).mono (fun r M' z => ⟨z.1, sc, ar, n', q, vl, gv, kn, od, by omega, z.2, hmo⟩)) (by omega) (hok.mn (by omega))
  · exact la_glue (n := n) (c := c) (cw := cw) (mk := mk) (dr := dr) (Es := Es) (G := G) (Es1 := Es) (W1 := W) (G1 := G) (dr1 := dr) hk hWk hd hA hR hB ((ct_TK_opens_in Mc x tm ea ka wl we cw n c se mk dr a lk fw Es W F T G hT (by omega) j hj).mono (fun r M' z => ⟨z.1, n, c, cw, mk, z.2, by omega, by omega, by omega, b3, by omega, b6, by omega, by omega, by omega⟩)) (by omega) (by omega) ((ct_MO_opens_in m A hA sc ar n' q vl dr gv kn od Es W G hmo (by omega) j hj).mono (fun r M' z => ⟨z.1, (by obtain ⟨sc1, ar1, kn1, od1, z2, z3⟩ := z.2; exact ⟨sc1, ar1, n', q, vl, gv, kn1, od1, by omega, z2, z3⟩)⟩)) (by omega) (hok.mn (by omega))
set_option maxHeartbeats 4000000 in
theorem la_take {l : Launch} {D : va_G} {BG : Nat → Option Cell} {x m k u1 u2 : Nat} {M : hm_M} (hI : la_I D x m k u1 u2 M) (hk : k < 512) (e u : Int32) : la_T l D BG ny_TK_take prog_1_method_3_code 6 12 290 ny_MO_take prog_8_method_23_code 4 5 118 x m [.int e, .int u] k u1 u2 M := by
  obtain ⟨Mc, A, sc, ar, n, c, cw, mk, dr, n', q, vl, gv, kn, od, Es, W, G, rfl, hd, hA, hR, hmo, hok, hB⟩ := hI
  have hWk : W.length ≤ 512 := by have := hok.2.2.2; omega
  obtain ⟨b1, b2, b3, b4, b5, b6, b7, b8⟩ := id hB
  obtain ⟨tm, ea, ka, wl, we, se, a, lk, fw, F, T, hT⟩ := id hR
  rcases pk_ix e (n := 2) (by decide) with he | he | ⟨j, hj, rfl⟩
  · exact la_glue (n := n) (c := c) (cw := cw) (mk := mk) (dr := dr) (Es := Es) (G := G) (Es1 := Es) (W1 := W) (G1 := G) (dr1 := dr) hk hWk hd hA hR hB ((ct_TK_take_e Mc x tm ea ka wl we cw n c se mk dr a lk fw Es W F T G hT (by omega) (by omega) e u (Or.inl he)).mono (fun r M' z => ⟨z.1, n, c, cw, mk, by rw [z.2]; exact hR, by omega, by omega, by omega, b3, by omega, b6, by omega, by omega, by omega⟩)) (by omega) (by omega) ((ct_MO_take_e m A hA sc ar e u (Or.inl he)).mono (fun r M' z => ⟨z.1, sc, ar, n', q, vl, gv, kn, od, by omega, z.2, hmo⟩)) (by omega) (hok.mn (by omega))
  · exact la_glue (n := n) (c := c) (cw := cw) (mk := mk) (dr := dr) (Es := Es) (G := G) (Es1 := Es) (W1 := W) (G1 := G) (dr1 := dr) hk hWk hd hA hR hB ((ct_TK_take_e Mc x tm ea ka wl we cw n c se mk dr a lk fw Es W F T G hT (by omega) (by omega) e u (Or.inr he)).mono (fun r M' z => ⟨z.1, n, c, cw, mk, by rw [z.2]; exact hR, by omega, by omega, by omega, b3, by omega, b6, by omega, by omega, by omega⟩)) (by omega) (by omega) ((ct_MO_take_e m A hA sc ar e u (Or.inr he)).mono (fun r M' z => ⟨z.1, sc, ar, n', q, vl, gv, kn, od, by omega, z.2, hmo⟩)) (by omega) (hok.mn (by omega))
  · rcases pk_ix u (n := W.length) (by omega) with hu | hu | ⟨v, hv, rfl⟩
    · exact la_glue (n := n) (c := c) (cw := cw) (mk := mk) (dr := dr) (Es := Es) (G := G) (Es1 := Es) (W1 := W) (G1 := G) (dr1 := dr) hk hWk hd hA hR hB ((ct_TK_take_w Mc x tm ea ka wl we cw n c se mk dr a lk fw Es W F T G hT (by omega) j u hj (Or.inl hu)).mono (fun r M' z => ⟨z.1, n, c, cw, mk, by rw [z.2]; exact hR, by omega, by omega, by omega, b3, by omega, b6, by omega, by omega, by omega⟩)) (by omega) (by omega) ((ct_MO_take_w m A hA sc ar n' q vl dr gv kn od Es W G hmo j hj u (Or.inl hu)).mono (fun r M' z => ⟨z.1, sc, ar, n', q, vl, gv, kn, od, by omega, z.2, hmo⟩)) (by omega) (hok.mn (by omega))
    · exact la_glue (n := n) (c := c) (cw := cw) (mk := mk) (dr := dr) (Es := Es) (G := G) (Es1 := Es) (W1 := W) (G1 := G) (dr1 := dr) hk hWk hd hA hR hB ((ct_TK_take_w Mc x tm ea ka wl we cw n c se mk dr a lk fw Es W F T G hT (by omega) j u hj (Or.inr hu)).mono (fun r M' z => ⟨z.1, n, c, cw, mk, by rw [z.2]; exact hR, by omega, by omega, by omega, b3, by omega, b6, by omega, by omega, by omega⟩)) (by omega) (by omega) ((ct_MO_take_w m A hA sc ar n' q vl dr gv kn od Es W G hmo j hj u (Or.inr hu)).mono (fun r M' z => ⟨z.1, sc, ar, n', q, vl, gv, kn, od, by omega, z.2, hmo⟩)) (by omega) (hok.mn (by omega))
    · obtain ⟨w, hwg⟩ : ∃ w, W[v]? = some w := ⟨_, List.getElem?_eq_getElem hv⟩
      obtain ⟨s0, ix, bw, k0, ky, le⟩ := w
      have hwm : (s0, ix, bw, k0, ky, le) ∈ W := List.mem_of_getElem? hwg
      have hwo := hok.2.1 _ hwm
      obtain ⟨w1, w2, w3, w4⟩ := id hwo
      dsimp only at w1 w2 w3 w4
      by_cases hs : s0 = j
      · exact la_glue (n := n) (c := c) (cw := cw) (mk := mk) (dr := dr) (Es := Es) (G := G) (Es1 := Es) (W1 := W) (G1 := G) (dr1 := dr) hk hWk hd hA hR hB ((ct_TK_take_self Mc x tm ea ka wl we cw n c se mk dr a lk fw Es W F T G hT (by omega) j v hj s0 ix bw k0 ky le hwg hs).mono (fun r M' z => ⟨z.1, n, c, cw, mk, by rw [z.2]; exact hR, by omega, by omega, by omega, b3, by omega, b6, by omega, by omega, by omega⟩)) (by omega) (by omega) ((ct_MO_take_self m A hA sc ar n' q vl dr gv kn od Es W G hmo (by omega) j v hj s0 ix bw k0 ky le hwg hs).mono (fun r M' z => ⟨z.1, sc, ar, n', q, vl, gv, kn, od, by omega, z.2, hmo⟩)) (by omega) (hok.mn (by omega))
      · obtain ⟨e0, he0⟩ : ∃ e0, Es j = e0 := ⟨_, rfl⟩
        obtain ⟨ro, mi, th, sd, st, bf, rc, nx, lf⟩ := e0
        have hej := hok.1 j (by omega)
        have htk := sp_tk_ok hej hwo
        rw [he0] at hej
        obtain ⟨y1, y2, y3, y4, y5, y6, y7, y8, y9, y10⟩ := id hej
        dsimp only at y1 y2 y3 y4 y5 y6 y7 y8 y9 y10
        obtain ⟨dk, hdk⟩ := w4
        obtain ⟨dm, hdm⟩ := id y1
        have hbd := ts_r_bd (sp_tk (Es j) (s0, ix, bw, k0, ky, le)).1 (ts_k T) n c b3
        have hge := ts_r_ge (sp_tk (Es j) (s0, ix, bw, k0, ky, le)).1 (ts_k T) n c
        have hkk := kf_okk (k := k) (c := k0) (ix := ix) (bw := bw) (mi := mi) (E := (ro, th, sd, rc, nx, lf)) ⟨y4, y2, y3, y5, y6, y9, y10⟩ ⟨dk, hdk⟩ w2 w3
        have hmc : 10 + ts_kc (ts_k T) n c (sp_tk (Es j) (s0, ix, bw, k0, ky, le)).1 ≤ 100000 := by unfold ts_kc; omega
        have hms : 30 + ts_ks (ts_k T) n c (sp_tk (Es j) (s0, ix, bw, k0, ky, le)).1 ≤ 1000000 := by unfold ts_ks; omega
        exact la_glue (n := n) (c := c) (cw := cw) (mk := mk) (dr := dr) (Es := Es) (G := G) (Es1 := (fun i => if i = j then (sp_tk (Es j) (s0, ix, bw, k0, ky, le)).2.2 else Es i)) (W1 := W) (G1 := G) (dr1 := dr) hk hWk hd hA hR hB ((ct_TK_take_go Mc x tm ea ka wl we cw n c se mk dr a lk fw Es W F T G hT (by omega) j v hj s0 ix bw k0 ky le hwg hs w1 (by omega) b3 (by omega) ro mi th sd st bf rc nx lf he0 dk dm hdk hdm (by omega) (by omega) (by omega) (fun i z hz => (y10.2 z (List.mem_of_getElem? hz)).2.2.2)).mono (fun r M' z => ⟨z.1, _, _, cw, mk + 1, z.2, hge.1, by omega, hge.2, hbd.1, by omega, b6, by omega, by unfold ts_kc; omega, by unfold ts_ks; omega⟩)) hmc hms ((ct_MO_take_go m A hA sc ar n' q vl dr gv kn od Es W G hmo (by omega) (by omega) j v hj s0 ix bw k0 ky le hwg hs w1 ro mi th sd st bf rc nx lf he0 y1 (by omega) (by omega) (by omega) (fun i z hz => by have := (y10.2 z (List.mem_of_getElem? hz)).2.1; omega) (fun key E9 h9 => (hkk.2 key E9 h9).2)).mono (fun r M' z => ⟨z.1, (by obtain ⟨sc1, ar1, n1, q1, vl1, z1, z2, z3⟩ := z.2; exact ⟨sc1, ar1, n1, q1, vl1, gv, kn, od, by omega, z2, z3⟩)⟩)) (by omega) (hok.tk (by omega) hwm)
set_option maxHeartbeats 4000000 in
theorem la_send {l : Launch} {D : va_G} {BG : Nat → Option Cell} {x m k u1 u2 : Nat} {M : hm_M} (hI : la_I D x m k u1 u2 M) (hk : k < 512) (e : Int32) : la_T l D BG ny_TK_send prog_1_method_2_code 4 11 266 ny_MO_send prog_8_method_17_code 4 2 50 x m [.int e] k u1 u2 M := by
  obtain ⟨Mc, A, sc, ar, n, c, cw, mk, dr, n', q, vl, gv, kn, od, Es, W, G, rfl, hd, hA, hR, hmo, hok, hB⟩ := hI
  have hWk : W.length ≤ 512 := by have := hok.2.2.2; omega
  obtain ⟨b1, b2, b3, b4, b5, b6, b7, b8⟩ := id hB
  obtain ⟨tm, ea, ka, wl, we, se, a, lk, fw, F, T, hT⟩ := id hR
  rcases pk_ix e (n := 2) (by decide) with he | he | ⟨j, hj, rfl⟩
  · exact la_glue (n := n) (c := c) (cw := cw) (mk := mk) (dr := dr) (Es := Es) (G := G) (Es1 := Es) (W1 := W) (G1 := G) (dr1 := dr) hk hWk hd hA hR hB ((ct_TK_send_out Mc x tm ea ka wl we cw n c se mk dr a lk fw Es W F T G hT e (Or.inl he)).mono (fun r M' z => ⟨z.1, n, c, cw, mk, by rw [z.2]; exact hR, by omega, by omega, by omega, b3, by omega, b6, by omega, by omega, by omega⟩)) (by omega) (by omega) ((ct_MO_send_out m A hA sc ar e (Or.inl he)).mono (fun r M' z => ⟨z.1, sc, ar, n', q, vl, gv, kn, od, by omega, z.2, hmo⟩)) (by omega) (hok.mn (by omega))
  · exact la_glue (n := n) (c := c) (cw := cw) (mk := mk) (dr := dr) (Es := Es) (G := G) (Es1 := Es) (W1 := W) (G1 := G) (dr1 := dr) hk hWk hd hA hR hB ((ct_TK_send_out Mc x tm ea ka wl we cw n c se mk dr a lk fw Es W F T G hT e (Or.inr he)).mono (fun r M' z => ⟨z.1, n, c, cw, mk, by rw [z.2]; exact hR, by omega, by omega, by omega, b3, by omega, b6, by omega, by omega, by omega⟩)) (by omega) (by omega) ((ct_MO_send_out m A hA sc ar e (Or.inr he)).mono (fun r M' z => ⟨z.1, sc, ar, n', q, vl, gv, kn, od, by omega, z.2, hmo⟩)) (by omega) (hok.mn (by omega))
  · have hej := hok.1 j (by omega)
    by_cases hth : (Es j).2.2.1 = 0
    · have hsd : (Es j).2.2.2.1 = 0 := Classical.byContradiction fun z => hej.2.2.1 z hth
      exact la_glue (n := n) (c := c) (cw := cw) (mk := mk) (dr := dr) (Es := Es) (G := G) (Es1 := Es) (W1 := W) (G1 := G) (dr1 := dr) hk hWk hd hA hR hB ((ct_TK_send_no Mc x tm ea ka wl we cw n c se mk dr a lk fw Es W F T G hT j hj hth).mono (fun r M' z => ⟨z.1, n, c, cw, mk, by rw [z.2]; exact hR, by omega, by omega, by omega, b3, by omega, b6, by omega, by omega, by omega⟩)) (by omega) (by omega) ((ct_MO_send_no m A hA sc ar n' q vl dr gv kn od Es W G hmo j hj hth hsd).mono (fun r M' z => ⟨z.1, (by obtain ⟨ar1, z2, z3⟩ := z.2; exact ⟨sc, ar1, n', q, vl, gv, kn, od, by omega, z2, z3⟩)⟩)) (by omega) (hok.mn (by omega))
    · have hsk := sp_sd_ok (dr := dr) hej hth hj
      have hs1 := sp_s1_ok (dr := dr) hej hth
      obtain ⟨e0, he0⟩ : ∃ e0, Es j = e0 := ⟨_, rfl⟩
      obtain ⟨ro, mi, th, sd, st, bf, rc, nx, lf⟩ := e0
      have hej2 := hej
      rw [he0] at hej2 hth
      obtain ⟨y1, y2, y3, y4, y5, y6, y7, y8, y9, y10⟩ := id hej2
      dsimp only at y1 y2 y3 y4 y5 y6 y7 y8 y9 y10 hth
      obtain ⟨dt, hdt⟩ : ∃ d, th = sm_t 1 (sm_t 0 d 0) 0 := by
        rcases y2 with h | h
        · exact absurd h hth
        · exact h
      obtain ⟨dm, hdm⟩ := id y1
      have hbd := ts_r_bd (sp_sd j dr (Es j)).1 (ts_k T) n c b3
      have hge := ts_r_ge (sp_sd j dr (Es j)).1 (ts_k T) n c
      have hlc := li_c_bd b6
      have hWn : (W ++ [(sp_sd j dr (Es j)).2.2.2]).length = W.length + 1 := by rw [List.length_append]; rfl
      have hok2 := hok.2.2.2
      have hmc : 1 + ts_kc (ts_k T) n c (sp_sd j dr (Es j)).1 + (li_c cw W.length - cw) ≤ 100000 := by unfold ts_kc; omega
      have hms : 6 + ts_ks (ts_k T) n c (sp_sd j dr (Es j)).1 + 4 * (li_c cw W.length - cw) ≤ 1000000 := by unfold ts_ks; omega
      exact la_glue (n := n) (c := c) (cw := cw) (mk := mk) (dr := dr) (Es := Es) (G := G) (Es1 := (fun i => if i = j then (sp_sd j dr (Es j)).2.2.1 else Es i)) (W1 := (W ++ [(sp_sd j dr (Es j)).2.2.2])) (G1 := (sp_gv G [sp_b, sm_t 1 (sp_sd j dr (Es j)).2.2.2.2.2.2.1 0, sm_t 3 (sp_sd j dr (Es j)).2.2.2.2.2.2.2.1 (sp_sd j dr (Es j)).2.2.2.2.2.2.2.2])) (dr1 := (sp_sd j dr (Es j)).2.1) hk hWk hd hA hR hB ((ct_TK_send_go Mc x tm ea ka wl we cw n c se mk dr a lk fw Es W F T G hT (by omega) j hj (by omega) b3 (by omega) ro mi th sd st bf rc nx lf he0 (sm_t 0 dt 0) dt dm hdt rfl hdm).mono (fun r M' z => ⟨z.1, _, _, _, mk + 1, z.2, hge.1, by omega, hge.2, hbd.1, hlc.1, by rw [hWn]; exact hlc.2, by omega, by unfold ts_kc; omega, by unfold ts_ks; omega⟩)) hmc hms ((ct_MO_send_go m A hA sc ar n' q vl dr gv kn od Es W G hmo (by omega) (by omega) (by omega) j hj ro mi (sm_t 0 dt 0) sd st bf rc nx lf (by rw [he0, hdt]) y1 hok.2.2.1 (fun vs z h9 => by have h8 := hs1.2.2.2.2; rw [h9] at h8; exact h8)).mono (fun r M' z => ⟨z.1, (by obtain ⟨sc1, ar1, n1, q1, vl1, gv1, od1, z1, z2, z3⟩ := z.2; exact ⟨sc1, ar1, n1, q1, vl1, gv1, kn, od1, by omega, z2, z3⟩)⟩)) (by omega) (hok.sd hj (by rw [he0]; exact hth))
