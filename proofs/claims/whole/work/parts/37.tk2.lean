def sp_lg (e : sp_E) : List Nat := [sp_b, e.1, e.2.1, e.2.2.1, e.2.2.2.1, e.2.2.2.2.2.2.1] ++ e.2.2.2.2.2.2.2.2.flatMap (fun q => [q.1, q.2.2])
def sp_nz (l : List Nat) : Nat := (l.filter (fun v => decide (v ≠ 0))).length
def sp_gv (G : Nat → Prop) (l : List Nat) : Nat → Prop := fun w => G w ∨ (w ≠ 0 ∧ w ∈ l)
def sp_an (e : sp_E) (x : Int32) : Int32 := if x = 0 then nI e.2.2.2.2.1 else if x = 1 then nI e.2.2.2.2.2.1 else if x = 2 then nI e.2.2.2.2.2.2.2.1 else if x = 3 then nI e.2.2.2.2.2.2.2.2.length else if x = 4 then (if e.2.2.1 = 0 then 0 else 1) else if x = 5 then (if e.2.2.2.1 = 0 then 0 else 1) else if x = 6 then (if e.2.2.2.2.2.2.1 = 0 then 0 else 1) else -1
theorem sp_an_out {e : sp_E} {x : Int32} (h : x < 0 ∨ nI 7 ≤ x) : sp_an e x = -1 := by
  unfold sp_an
  have h0 : ∀ k : Nat, k < 7 → x ≠ nI k := by
    intro k hk q
    rcases h with h | h
    · rw [q] at h
      exact absurd h (nI_pos (by omega))
    · rw [q] at h
      exact absurd h (nI_ge hk (by omega))
  rw [if_neg (show ¬ x = 0 from h0 0 (by omega)), if_neg (show ¬ x = 1 from h0 1 (by omega)), if_neg (show ¬ x = 2 from h0 2 (by omega)), if_neg (show ¬ x = 3 from h0 3 (by omega)), if_neg (show ¬ x = 4 from h0 4 (by omega)), if_neg (show ¬ x = 5 from h0 5 (by omega)), if_neg (show ¬ x = 6 from h0 6 (by omega))]
theorem sp_nz_ap (l : List Nat) (v : Nat) : sp_nz (l ++ [v]) = sp_nz l + (if v = 0 then 0 else 1) := by
  unfold sp_nz
  rw [List.filter_append, List.length_append]
  by_cases h : v = 0
  · rw [if_pos h, h]
    rfl
  · rw [if_neg h, List.filter_cons, if_pos (by simpa using h)]
    rfl
theorem sp_gv_ap (G : Nat → Prop) (l : List Nat) (v : Nat) : (fun w => sp_gv G l w ∨ (v ≠ 0 ∧ w = v)) = sp_gv G (l ++ [v]) := by
  funext w
  apply propext
  unfold sp_gv
  rw [List.mem_append, List.mem_singleton]
  constructor
  · rintro ((h | ⟨h1, h2⟩) | ⟨h1, h2⟩)
    · exact Or.inl h
    · exact Or.inr ⟨h1, Or.inl h2⟩
    · exact Or.inr ⟨h2 ▸ h1, Or.inr h2⟩
  · rintro (h | ⟨h1, h2 | h2⟩)
    · exact Or.inl (Or.inl h)
    · exact Or.inl (Or.inr ⟨h1, h2⟩)
    · exact Or.inr ⟨h2 ▸ h1, h2⟩
theorem sp_gv_0 (G : Nat → Prop) : sp_gv G [] = G := by
  funext w
  apply propext
  unfold sp_gv
  exact ⟨fun h => h.elim id (fun q => absurd q.2 (by simp)), fun h => Or.inl h⟩
theorem ts_oz {D : va_G} {M : hm_M} {tm : Nat} {F : Nat → Prop} {T : Nat → Nat → Nat → Prop} {G : Nat → Prop} {dr n c se : Nat} (hS : ts_S D M tm F T G dr n c se) {r : Option Nat} {v : Nat} (h : ts_o T r v) : r = none ↔ v = 0 := by
  rcases h with ⟨h4, h5⟩ | ⟨z, iz, h4, h5⟩
  · exact ⟨fun _ => h5, fun _ => h4⟩
  · obtain ⟨la9, ea9, ad9, kd9, lf9, rt9, er9, lu9, pb9, dv9, vl9, hX9, hI9, -, rfl⟩ := id hS
    rw [h4]
    exact ⟨fun h => (by cases h), fun h => absurd (h5.2.2.symm.trans h) (tt_pos hI9.2.2.2.1 h5.1)⟩
theorem ts_oe {D : va_G} {M : hm_M} {tm : Nat} {F : Nat → Prop} {T : Nat → Nat → Nat → Prop} {G : Nat → Prop} {dr n c se : Nat} (hS : ts_S D M tm F T G dr n c se) {r r' : Option Nat} {v v' : Nat} (h : ts_o T r v) (h' : ts_o T r' v') : r = r' ↔ v = v' := by
  have z1 := ts_oz hS h
  have z2 := ts_oz hS h'
  rcases h with ⟨h4, h5⟩ | ⟨z, iz, h4, h5⟩
  · rw [h4, h5]
    exact ⟨fun q => (z2.mp q.symm).symm, fun q => (z2.mpr q.symm).symm⟩
  · rcases h' with ⟨h6, h7⟩ | ⟨y, iy, h6, h7⟩
    · rw [h6, h7]
      exact z1
    · rw [h4, h6]
      have := (ts_uni hS h5 h7).1
      exact ⟨fun h => this.mp (Option.some.inj h), fun h => congrArg some (this.mpr h)⟩
/-- what stays when marks alone are set -/
theorem tk_I.gv {D : va_G} {M M' : hm_M} {x tm ea ka wl we cw n c se mk dr se' : Nat} {a lk fw : Nat → Nat} {E : Nat → sp_E} {W : List sp_W} {F : Nat → Prop} {T : Nat → Nat → Nat → Prop} {G G' : Nat → Prop} (h : tk_I D M x tm ea ka wl we cw n c se mk dr a lk fw E W F T G) (hS : ts_S D M' tm F T G' dr n c se') (hf : ∀ a, ¬ F a → M' a = M a) : tk_I D M' x tm ea ka wl we cw n c se' mk dr a lk fw E W F T G' := h.fr hS ⟨fun a ha _ => hf a ha, fun _ q => Or.inl q⟩ (fun _ _ _ q => q)
set_option maxHeartbeats 4000000 in
set_option maxRecDepth 100000 in
theorem ct_TK_back_in {l : Launch} {D : va_G} {BG : Nat → Option Cell} (M : hm_M) (x tm ea ka wl we cw n c se mk dr : Nat) (a lk fw : Nat → Nat) (Es : Nat → sp_E) (W : List sp_W) (F : Nat → Prop) (T : Nat → Nat → Nat → Prop) (G : Nat → Prop) (hI : tk_I D M x tm ea ka wl we cw n c se mk dr a lk fw Es W F T G) (j : Nat) (hj : j < 2) : hm_ct l D BG ny_TK_back prog_1_method_7_code 2 (some .int) 2 43 0 0 [.ref x, .int (nI j)] M (fun r M' => r = some (.int 1) ∧ tk_R D M' x n c cw mk dr (fun i => if i = j then Es (j + 2) else Es i) W G) := by
  refine hm_ct_of (by decide +kernel) (by exact Nat.le_of_ble_eq_true rfl) ?_
  intro X C E
  have C : hm_C X l D BG prog_1_method_7_code "TurnedKeys" "back" 2 2 43 0 0 := C
  refine hm_lv (lv' := [(0, .ref x), (1, .int (nI j))]) rfl ?_
  obtain ⟨hx, ⟨fe, hea, fe0, fe1⟩, ⟨fk, hka, fk0, fk1⟩, hS, hE, ia, il, hW, hw⟩ := id hI
  obtain ⟨e1, he1, hR1⟩ := hE j (by omega)
  obtain ⟨e2, he2, hR2⟩ := hE (j + 2) (by omega)
  obtain ⟨Mb, hct, hP, hR3, -⟩ := sp_bec hS hR1 hR2 (fun z => by have := ia _ _ (by omega) (by omega) z; omega) (fun z => by have := il _ _ (by omega) (by omega) z; omega)
  obtain ⟨⟨vs1, hA1⟩, -⟩ := hR1.ob
  refine hm_aload_n C nd_TK_back_0 rfl ?_
  refine hm_get C nF_TK_44 hx.1 rfl nd_TK_back_1 ?_
  refine hm_iload_n C nd_TK_back_4 rfl ?_
  refine hm_callS C (ct_TK_endAt_in M ea j (a j) fe hea.1 hj (by obtain rfl | rfl : j = 0 ∨ j = 1 := (by omega); exact fe0; exact fe1)) nV_TK_endAt nq_TK_66 nu_TK_endAt rfl (rest := []) rfl (Nat.le_of_ble_eq_true rfl) (by decide) (by decide) (by omega) (by omega) nd_TK_back_5 (fun r M1 hp => ?_)
  obtain ⟨rfl, eM1⟩ := hp
  rw [eM1]
  refine hm_stk (st' := [.ref (a j)]) rfl ?_
  refine hm_aload_n C nd_TK_back_8 rfl ?_
  refine hm_get C nF_TK_52 hx.1 rfl nd_TK_back_9 ?_
  refine hm_iload_n C nd_TK_back_12 rfl ?_
  refine hm_callS C (ct_TK_endAt_in M ka j (a (j + 2)) fk hka.1 hj (by obtain rfl | rfl : j = 0 ∨ j = 1 := (by omega); exact fk0; exact fk1)) nV_TK_endAt nq_TK_66 nu_TK_endAt rfl (rest := [.ref (a j)]) rfl (Nat.le_of_ble_eq_true rfl) (by decide) (by decide) (by omega) (by omega) nd_TK_back_13 (fun r M2 hp => ?_)
  obtain ⟨rfl, eM2⟩ := hp
  rw [eM2]
  refine hm_stk (st' := [.ref (a (j + 2)), .ref (a j)]) rfl ?_
  refine hm_callS C (ct_TK_replace_in M Mb (a j) (a (j + 2)) vs1 hA1.1 (hct l BG)) nV_TK_replace nq_TK_155 nu_TK_replace rfl (rest := []) rfl (Nat.le_of_ble_eq_true rfl) (by decide) (by decide) (by omega) (by omega) nd_TK_back_16 (fun r M3 hp => ?_)
  obtain ⟨rfl, rfl⟩ := hp
  refine hm_stk (st' := [.int 1]) rfl ?_
  exact hm_iret C E (by omega) (by omega) (⟨rfl, tm, ea, ka, wl, we, se, a, lk, fw, F, T, hI.on (by omega) hP hR3 (fun i hi => by by_cases z : i = j; rw [if_pos z, if_pos z, he2 (by omega)]; rw [if_neg z, if_neg z])⟩) nd_TK_back_19
set_option maxHeartbeats 4000000 in
set_option maxRecDepth 100000 in
theorem ct_TK_back_out {l : Launch} {D : va_G} {BG : Nat → Option Cell} (M : hm_M) (x tm ea ka wl we cw n c se mk dr : Nat) (a lk fw : Nat → Nat) (Es : Nat → sp_E) (W : List sp_W) (F : Nat → Prop) (T : Nat → Nat → Nat → Prop) (G : Nat → Prop) (hI : tk_I D M x tm ea ka wl we cw n c se mk dr a lk fw Es W F T G) (e : Int32) (he : e < 0 ∨ nI 2 ≤ e) : hm_ct l D BG ny_TK_back prog_1_method_7_code 2 (some .int) 2 43 0 0 [.ref x, .int e] M (fun r M' => r = some (.int (-1)) ∧ M' = M) := by
  refine hm_ct_of (by decide +kernel) (by exact Nat.le_of_ble_eq_true rfl) ?_
  intro X C E
  have C : hm_C X l D BG prog_1_method_7_code "TurnedKeys" "back" 2 2 43 0 0 := C
  refine hm_lv (lv' := [(0, .ref x), (1, .int e)]) rfl ?_
  obtain ⟨hx, ⟨fe, hea, fe0, fe1⟩, ⟨fk, hka, fk0, fk1⟩, hS, hE, ia, il, hW, hw⟩ := id hI
  refine hm_aload_n C nd_TK_back_0 rfl ?_
  refine hm_get C nF_TK_44 hx.1 rfl nd_TK_back_1 ?_
  refine hm_iload_n C nd_TK_back_4 rfl ?_
  refine hm_callS C (ct_TK_endAt_out M ea fe hea.1 e he) nV_TK_endAt nq_TK_66 nu_TK_endAt rfl (rest := []) rfl (Nat.le_of_ble_eq_true rfl) (by decide) (by decide) (by omega) (by omega) nd_TK_back_5 (fun r M1 hp => ?_)
  obtain ⟨rfl, eM1⟩ := hp
  rw [eM1]
  refine hm_stk (st' := [.null]) rfl ?_
  refine hm_aload_n C nd_TK_back_8 rfl ?_
  refine hm_get C nF_TK_52 hx.1 rfl nd_TK_back_9 ?_
  refine hm_iload_n C nd_TK_back_12 rfl ?_
  refine hm_callS C (ct_TK_endAt_out M ka fk hka.1 e he) nV_TK_endAt nq_TK_66 nu_TK_endAt rfl (rest := [.null]) rfl (Nat.le_of_ble_eq_true rfl) (by decide) (by decide) (by omega) (by omega) nd_TK_back_13 (fun r M2 hp => ?_)
  obtain ⟨rfl, eM2⟩ := hp
  rw [eM2]
  refine hm_stk (st' := [.null, .null]) rfl ?_
  refine hm_callS C (ct_TK_replace_out M) nV_TK_replace nq_TK_155 nu_TK_replace rfl (rest := []) rfl (Nat.le_of_ble_eq_true rfl) (by decide) (by decide) (by omega) (by omega) nd_TK_back_16 (fun r M3 hp => ?_)
  obtain ⟨rfl, eM3⟩ := hp
  rw [eM3]
  refine hm_stk (st' := [.int (-1)]) rfl ?_
  exact hm_iret C E (by omega) (by omega) (⟨rfl, rfl⟩) nd_TK_back_19
set_option maxHeartbeats 4000000 in
set_option maxRecDepth 100000 in
theorem ct_TK_keep_in {l : Launch} {D : va_G} {BG : Nat → Option Cell} (M : hm_M) (x tm ea ka wl we cw n c se mk dr : Nat) (a lk fw : Nat → Nat) (Es : Nat → sp_E) (W : List sp_W) (F : Nat → Prop) (T : Nat → Nat → Nat → Prop) (G : Nat → Prop) (hI : tk_I D M x tm ea ka wl we cw n c se mk dr a lk fw Es W F T G) (j : Nat) (hj : j < 2) : hm_ct l D BG ny_TK_keep prog_1_method_8_code 2 (some .int) 2 43 0 0 [.ref x, .int (nI j)] M (fun r M' => r = some (.int 1) ∧ tk_R D M' x n c cw mk dr (fun i => if i = j + 2 then Es j else Es i) W G) := by
  refine hm_ct_of (by decide +kernel) (by exact Nat.le_of_ble_eq_true rfl) ?_
  intro X C E
  have C : hm_C X l D BG prog_1_method_8_code "TurnedKeys" "keep" 2 2 43 0 0 := C
  refine hm_lv (lv' := [(0, .ref x), (1, .int (nI j))]) rfl ?_
  obtain ⟨hx, ⟨fe, hea, fe0, fe1⟩, ⟨fk, hka, fk0, fk1⟩, hS, hE, ia, il, hW, hw⟩ := id hI
  obtain ⟨e1, he1, hR1⟩ := hE (j + 2) (by omega)
  obtain ⟨e2, he2, hR2⟩ := hE j (by omega)
  obtain ⟨Mb, hct, hP, hR3, -⟩ := sp_bec hS hR1 hR2 (fun z => by have := ia _ _ (by omega) (by omega) z; omega) (fun z => by have := il _ _ (by omega) (by omega) z; omega)
  obtain ⟨⟨vs1, hA1⟩, -⟩ := hR1.ob
  refine hm_aload_n C nd_TK_keep_0 rfl ?_
  refine hm_get C nF_TK_52 hx.1 rfl nd_TK_keep_1 ?_
  refine hm_iload_n C nd_TK_keep_4 rfl ?_
  refine hm_callS C (ct_TK_endAt_in M ka j (a (j + 2)) fk hka.1 hj (by obtain rfl | rfl : j = 0 ∨ j = 1 := (by omega); exact fk0; exact fk1)) nV_TK_endAt nq_TK_66 nu_TK_endAt rfl (rest := []) rfl (Nat.le_of_ble_eq_true rfl) (by decide) (by decide) (by omega) (by omega) nd_TK_keep_5 (fun r M1 hp => ?_)
  obtain ⟨rfl, eM1⟩ := hp
  rw [eM1]
  refine hm_stk (st' := [.ref (a (j + 2))]) rfl ?_
  refine hm_aload_n C nd_TK_keep_8 rfl ?_
  refine hm_get C nF_TK_44 hx.1 rfl nd_TK_keep_9 ?_
  refine hm_iload_n C nd_TK_keep_12 rfl ?_
  refine hm_callS C (ct_TK_endAt_in M ea j (a j) fe hea.1 hj (by obtain rfl | rfl : j = 0 ∨ j = 1 := (by omega); exact fe0; exact fe1)) nV_TK_endAt nq_TK_66 nu_TK_endAt rfl (rest := [.ref (a (j + 2))]) rfl (Nat.le_of_ble_eq_true rfl) (by decide) (by decide) (by omega) (by omega) nd_TK_keep_13 (fun r M2 hp => ?_)
  obtain ⟨rfl, eM2⟩ := hp
  rw [eM2]
  refine hm_stk (st' := [.ref (a j), .ref (a (j + 2))]) rfl ?_
  refine hm_callS C (ct_TK_replace_in M Mb (a (j + 2)) (a j) vs1 hA1.1 (hct l BG)) nV_TK_replace nq_TK_155 nu_TK_replace rfl (rest := []) rfl (Nat.le_of_ble_eq_true rfl) (by decide) (by decide) (by omega) (by omega) nd_TK_keep_16 (fun r M3 hp => ?_)
  obtain ⟨rfl, rfl⟩ := hp
  refine hm_stk (st' := [.int 1]) rfl ?_
  exact hm_iret C E (by omega) (by omega) (⟨rfl, tm, ea, ka, wl, we, se, a, lk, fw, F, T, hI.on (by omega) hP hR3 (fun i hi => by by_cases z : i = (j + 2); rw [if_pos z, if_pos z, he2 (by omega)]; rw [if_neg z, if_neg z])⟩) nd_TK_keep_19
set_option maxHeartbeats 4000000 in
set_option maxRecDepth 100000 in
theorem ct_TK_keep_out {l : Launch} {D : va_G} {BG : Nat → Option Cell} (M : hm_M) (x tm ea ka wl we cw n c se mk dr : Nat) (a lk fw : Nat → Nat) (Es : Nat → sp_E) (W : List sp_W) (F : Nat → Prop) (T : Nat → Nat → Nat → Prop) (G : Nat → Prop) (hI : tk_I D M x tm ea ka wl we cw n c se mk dr a lk fw Es W F T G) (e : Int32) (he : e < 0 ∨ nI 2 ≤ e) : hm_ct l D BG ny_TK_keep prog_1_method_8_code 2 (some .int) 2 43 0 0 [.ref x, .int e] M (fun r M' => r = some (.int (-1)) ∧ M' = M) := by
  refine hm_ct_of (by decide +kernel) (by exact Nat.le_of_ble_eq_true rfl) ?_
  intro X C E
  have C : hm_C X l D BG prog_1_method_8_code "TurnedKeys" "keep" 2 2 43 0 0 := C
  refine hm_lv (lv' := [(0, .ref x), (1, .int e)]) rfl ?_
  obtain ⟨hx, ⟨fe, hea, fe0, fe1⟩, ⟨fk, hka, fk0, fk1⟩, hS, hE, ia, il, hW, hw⟩ := id hI
  refine hm_aload_n C nd_TK_keep_0 rfl ?_
  refine hm_get C nF_TK_52 hx.1 rfl nd_TK_keep_1 ?_
  refine hm_iload_n C nd_TK_keep_4 rfl ?_
  refine hm_callS C (ct_TK_endAt_out M ka fk hka.1 e he) nV_TK_endAt nq_TK_66 nu_TK_endAt rfl (rest := []) rfl (Nat.le_of_ble_eq_true rfl) (by decide) (by decide) (by omega) (by omega) nd_TK_keep_5 (fun r M1 hp => ?_)
  obtain ⟨rfl, eM1⟩ := hp
  rw [eM1]
  refine hm_stk (st' := [.null]) rfl ?_
  refine hm_aload_n C nd_TK_keep_8 rfl ?_
  refine hm_get C nF_TK_44 hx.1 rfl nd_TK_keep_9 ?_
  refine hm_iload_n C nd_TK_keep_12 rfl ?_
  refine hm_callS C (ct_TK_endAt_out M ea fe hea.1 e he) nV_TK_endAt nq_TK_66 nu_TK_endAt rfl (rest := [.null]) rfl (Nat.le_of_ble_eq_true rfl) (by decide) (by decide) (by omega) (by omega) nd_TK_keep_13 (fun r M2 hp => ?_)
  obtain ⟨rfl, eM2⟩ := hp
  rw [eM2]
  refine hm_stk (st' := [.null, .null]) rfl ?_
  refine hm_callS C (ct_TK_replace_out M) nV_TK_replace nq_TK_155 nu_TK_replace rfl (rest := []) rfl (Nat.le_of_ble_eq_true rfl) (by decide) (by decide) (by omega) (by omega) nd_TK_keep_16 (fun r M3 hp => ?_)
  obtain ⟨rfl, eM3⟩ := hp
  rw [eM3]
  refine hm_stk (st' := [.int (-1)]) rfl ?_
  exact hm_iret C E (by omega) (by omega) (⟨rfl, rfl⟩) nd_TK_keep_19
set_option maxHeartbeats 4000000 in
set_option maxRecDepth 100000 in
theorem ct_TK_end_in {l : Launch} {D : va_G} {BG : Nat → Option Cell} (M : hm_M) (x tm ea ka wl we cw n c se mk dr : Nat) (a lk fw : Nat → Nat) (Es : Nat → sp_E) (W : List sp_W) (F : Nat → Prop) (T : Nat → Nat → Nat → Prop) (G : Nat → Prop) (hI : tk_I D M x tm ea ka wl we cw n c se mk dr a lk fw Es W F T G) (j : Nat) (hj : j < 2) (v : Int32) : hm_ct l D BG ny_TK_end prog_1_method_9_code 4 (some .int) 1 21 0 0 [.ref x, .int (nI j), .int v] M (fun r M' => r = some (.int (sp_an (Es j) v)) ∧ M' = M) := by
  refine hm_ct_of (by decide +kernel) (by exact Nat.le_of_ble_eq_true rfl) ?_
  intro X C E
  have C : hm_C X l D BG prog_1_method_9_code "TurnedKeys" "end" 4 1 21 0 0 := C
  refine hm_lv (lv' := [(0, .ref x), (1, .int (nI j)), (2, .int v)]) rfl ?_
  obtain ⟨hx, ⟨fe, hea, fe0, fe1⟩, ⟨fk, hka, fk0, fk1⟩, hS, hE, ia, il, hW, hw⟩ := id hI
  obtain ⟨ej, hej, hRj⟩ := hE j (by omega)
  have hej := hej (by omega)
  subst hej
  obtain ⟨b1, b2, b3, b4, b5, b6, f, hA, o1, o2, o3, o4, o5, o6, hL⟩ := id hRj
  refine hm_aload_n C nd_TK_end_0 rfl ?_
  refine hm_get C nF_TK_44 hx.1 rfl nd_TK_end_1 ?_
  refine hm_iload_n C nd_TK_end_4 rfl ?_
  refine hm_callS C (ct_TK_endAt_in M ea j (a j) fe hea.1 hj (by obtain rfl | rfl : j = 0 ∨ j = 1 := (by omega); exact fe0; exact fe1)) nV_TK_endAt nq_TK_66 nu_TK_endAt rfl (rest := []) rfl (Nat.le_of_ble_eq_true rfl) (by decide) (by decide) (by omega) (by omega) nd_TK_end_5 (fun r M1 hp => ?_)
  obtain ⟨rfl, eM1⟩ := hp
  rw [eM1]
  refine hm_stk (st' := [.ref (a j)]) rfl ?_
  refine hm_astore_n C [(3, .ref (a j)), (0, .ref x), (1, .int (nI j)), (2, .int v)] nd_TK_end_8 (by decide) rfl ?_
  refine hm_aload_n C nd_TK_end_9 rfl ?_
  refine hm_ifnonnull (tgt := 15) (r := (some (a j))) C nd_TK_end_10 (by decide) (fun _ => ?_) (fun h => by cases h)
  refine hm_iload_n C nd_TK_end_15 rfl ?_
  rcases pk_ix v (n := 7) (by decide) with hv | hv | ⟨y, hy, rfl⟩
  · refine hm_tableOut (tgt := 128) C nd_TK_end_16 (Or.inl (Int32.lt_iff_toInt_lt.mp hv)) (by decide) ?_
    refine hm_iconst (v := (-1)) C nd_TK_end_128 (by decide) ?_
    exact hm_iret C E (by omega) (by omega) (⟨by rw [sp_an_out (Or.inl hv)], rfl⟩) nd_TK_end_129
  · refine hm_tableOut (tgt := 128) C nd_TK_end_16 (Or.inr (by have h := Int32.le_iff_toInt_le.mp hv; have e7 : (nI 7).toInt = 7 := rfl; omega)) (by decide) ?_
    refine hm_iconst (v := (-1)) C nd_TK_end_128 (by decide) ?_
    exact hm_iret C E (by omega) (by omega) (⟨by rw [sp_an_out (Or.inr hv)], rfl⟩) nd_TK_end_129
  · obtain rfl | rfl | rfl | rfl | rfl | rfl | rfl : y = 0 ∨ y = 1 ∨ y = 2 ∨ y = 3 ∨ y = 4 ∨ y = 5 ∨ y = 6 := by omega
    · refine hm_tableIn (tgt := 60) C nd_TK_end_16 (by decide) (by decide) rfl (by decide) ?_
      refine hm_aload_n C nd_TK_end_60 rfl ?_
      refine hm_get C nF_TK_159 hA.1 rfl nd_TK_end_61 ?_
      exact hm_iret C E (by omega) (by omega) (⟨rfl, rfl⟩) nd_TK_end_64
    · refine hm_tableIn (tgt := 65) C nd_TK_end_16 (by decide) (by decide) rfl (by decide) ?_
      refine hm_aload_n C nd_TK_end_65 rfl ?_
      refine hm_get C nF_TK_162 hA.1 rfl nd_TK_end_66 ?_
      exact hm_iret C E (by omega) (by omega) (⟨rfl, rfl⟩) nd_TK_end_69
    · refine hm_tableIn (tgt := 70) C nd_TK_end_16 (by decide) (by decide) rfl (by decide) ?_
      refine hm_aload_n C nd_TK_end_70 rfl ?_
      refine hm_get C nF_TK_165 hA.1 rfl nd_TK_end_71 ?_
      exact hm_iret C E (by omega) (by omega) (⟨rfl, rfl⟩) nd_TK_end_74
    · refine hm_tableIn (tgt := 75) C nd_TK_end_16 (by decide) (by decide) rfl (by decide) ?_
      refine hm_aload_n C nd_TK_end_75 rfl ?_
      refine hm_get C nF_TK_131 hA.1 rfl nd_TK_end_76 ?_
      exact hm_iret C E (by omega) (by omega) (⟨rfl, rfl⟩) nd_TK_end_79
    · refine hm_tableIn (tgt := 80) C nd_TK_end_16 (by decide) (by decide) rfl (by decide) ?_
      refine hm_aload_n C nd_TK_end_80 rfl ?_
      refine hm_get C nF_TK_37 hA.1 rfl nd_TK_end_81 ?_
      refine hm_ifnull (tgt := 91) (r := b4) C nd_TK_end_84 (by decide) (fun c1 => ?_) (fun c1 => ?_)
      · refine hm_iconst (v := 0) C nd_TK_end_91 (by decide) ?_
        refine hm_callS C (ct_TK_oneIf M 0) nV_TK_oneIf nq_TK_151 nu_TK_oneIf rfl (rest := []) rfl (Nat.le_of_ble_eq_true rfl) (by decide) (by decide) (by omega) (by omega) nd_TK_end_92 (fun r M2 hp => ?_)
        obtain ⟨rfl, eM2⟩ := hp
        rw [eM2]
        refine hm_stk (st' := [.int 0]) rfl ?_
        exact hm_iret C E (by omega) (by omega) (⟨by rw [show sp_an (Es j) (nI 4) = (if (Es j).2.2.1 = 0 then 0 else 1) from rfl, if_pos ((ts_oz hS o4).mp c1)], rfl⟩) nd_TK_end_95
      · refine hm_iconst (v := 1) C nd_TK_end_87 (by decide) ?_
        refine hm_goto (tgt := 92) C nd_TK_end_88 (by decide) ?_
        refine hm_callS C (ct_TK_oneIf M 1) nV_TK_oneIf nq_TK_151 nu_TK_oneIf rfl (rest := []) rfl (Nat.le_of_ble_eq_true rfl) (by decide) (by decide) (by omega) (by omega) nd_TK_end_92 (fun r M3 hp => ?_)
        obtain ⟨rfl, eM3⟩ := hp
        rw [eM3]
        refine hm_stk (st' := [.int 1]) rfl ?_
        exact hm_iret C E (by omega) (by omega) (⟨by rw [show sp_an (Es j) (nI 4) = (if (Es j).2.2.1 = 0 then 0 else 1) from rfl, if_neg (fun q => c1 ((ts_oz hS o4).mpr q))], rfl⟩) nd_TK_end_95
    · refine hm_tableIn (tgt := 96) C nd_TK_end_16 (by decide) (by decide) rfl (by decide) ?_
      refine hm_aload_n C nd_TK_end_96 rfl ?_
      refine hm_get C nF_TK_41 hA.1 rfl nd_TK_end_97 ?_
      refine hm_ifnull (tgt := 107) (r := b5) C nd_TK_end_100 (by decide) (fun c1 => ?_) (fun c1 => ?_)
      · refine hm_iconst (v := 0) C nd_TK_end_107 (by decide) ?_
        refine hm_callS C (ct_TK_oneIf M 0) nV_TK_oneIf nq_TK_151 nu_TK_oneIf rfl (rest := []) rfl (Nat.le_of_ble_eq_true rfl) (by decide) (by decide) (by omega) (by omega) nd_TK_end_108 (fun r M4 hp => ?_)
        obtain ⟨rfl, eM4⟩ := hp
        rw [eM4]
        refine hm_stk (st' := [.int 0]) rfl ?_
        exact hm_iret C E (by omega) (by omega) (⟨by rw [show sp_an (Es j) (nI 5) = (if (Es j).2.2.2.1 = 0 then 0 else 1) from rfl, if_pos ((ts_oz hS o5).mp c1)], rfl⟩) nd_TK_end_111
      · refine hm_iconst (v := 1) C nd_TK_end_103 (by decide) ?_
        refine hm_goto (tgt := 108) C nd_TK_end_104 (by decide) ?_
        refine hm_callS C (ct_TK_oneIf M 1) nV_TK_oneIf nq_TK_151 nu_TK_oneIf rfl (rest := []) rfl (Nat.le_of_ble_eq_true rfl) (by decide) (by decide) (by omega) (by omega) nd_TK_end_108 (fun r M5 hp => ?_)
        obtain ⟨rfl, eM5⟩ := hp
        rw [eM5]
        refine hm_stk (st' := [.int 1]) rfl ?_
        exact hm_iret C E (by omega) (by omega) (⟨by rw [show sp_an (Es j) (nI 5) = (if (Es j).2.2.2.1 = 0 then 0 else 1) from rfl, if_neg (fun q => c1 ((ts_oz hS o5).mpr q))], rfl⟩) nd_TK_end_111
    · refine hm_tableIn (tgt := 112) C nd_TK_end_16 (by decide) (by decide) rfl (by decide) ?_
      refine hm_aload_n C nd_TK_end_112 rfl ?_
      refine hm_get C nF_TK_128 hA.1 rfl nd_TK_end_113 ?_
      refine hm_ifnull (tgt := 123) (r := b6) C nd_TK_end_116 (by decide) (fun c1 => ?_) (fun c1 => ?_)
      · refine hm_iconst (v := 0) C nd_TK_end_123 (by decide) ?_
        refine hm_callS C (ct_TK_oneIf M 0) nV_TK_oneIf nq_TK_151 nu_TK_oneIf rfl (rest := []) rfl (Nat.le_of_ble_eq_true rfl) (by decide) (by decide) (by omega) (by omega) nd_TK_end_124 (fun r M6 hp => ?_)
        obtain ⟨rfl, eM6⟩ := hp
        rw [eM6]
        refine hm_stk (st' := [.int 0]) rfl ?_
        exact hm_iret C E (by omega) (by omega) (⟨by rw [show sp_an (Es j) (nI 6) = (if (Es j).2.2.2.2.2.2.1 = 0 then 0 else 1) from rfl, if_pos ((ts_oz hS o6).mp c1)], rfl⟩) nd_TK_end_127
      · refine hm_iconst (v := 1) C nd_TK_end_119 (by decide) ?_
        refine hm_goto (tgt := 124) C nd_TK_end_120 (by decide) ?_
        refine hm_callS C (ct_TK_oneIf M 1) nV_TK_oneIf nq_TK_151 nu_TK_oneIf rfl (rest := []) rfl (Nat.le_of_ble_eq_true rfl) (by decide) (by decide) (by omega) (by omega) nd_TK_end_124 (fun r M7 hp => ?_)
        obtain ⟨rfl, eM7⟩ := hp
        rw [eM7]
        refine hm_stk (st' := [.int 1]) rfl ?_
        exact hm_iret C E (by omega) (by omega) (⟨by rw [show sp_an (Es j) (nI 6) = (if (Es j).2.2.2.2.2.2.1 = 0 then 0 else 1) from rfl, if_neg (fun q => c1 ((ts_oz hS o6).mpr q))], rfl⟩) nd_TK_end_127
set_option maxHeartbeats 4000000 in
set_option maxRecDepth 100000 in
theorem ct_TK_end_out {l : Launch} {D : va_G} {BG : Nat → Option Cell} (M : hm_M) (x tm ea ka wl we cw n c se mk dr : Nat) (a lk fw : Nat → Nat) (Es : Nat → sp_E) (W : List sp_W) (F : Nat → Prop) (T : Nat → Nat → Nat → Prop) (G : Nat → Prop) (hI : tk_I D M x tm ea ka wl we cw n c se mk dr a lk fw Es W F T G) (e v : Int32) (he : e < 0 ∨ nI 2 ≤ e) : hm_ct l D BG ny_TK_end prog_1_method_9_code 4 (some .int) 1 21 0 0 [.ref x, .int e, .int v] M (fun r M' => r = some (.int (-1)) ∧ M' = M) := by
  refine hm_ct_of (by decide +kernel) (by exact Nat.le_of_ble_eq_true rfl) ?_
  intro X C E
  have C : hm_C X l D BG prog_1_method_9_code "TurnedKeys" "end" 4 1 21 0 0 := C
  refine hm_lv (lv' := [(0, .ref x), (1, .int e), (2, .int v)]) rfl ?_
  obtain ⟨hx, ⟨fe, hea, fe0, fe1⟩, ⟨fk, hka, fk0, fk1⟩, hS, hE, ia, il, hW, hw⟩ := id hI
  refine hm_aload_n C nd_TK_end_0 rfl ?_
  refine hm_get C nF_TK_44 hx.1 rfl nd_TK_end_1 ?_
  refine hm_iload_n C nd_TK_end_4 rfl ?_
  refine hm_callS C (ct_TK_endAt_out M ea fe hea.1 e he) nV_TK_endAt nq_TK_66 nu_TK_endAt rfl (rest := []) rfl (Nat.le_of_ble_eq_true rfl) (by decide) (by decide) (by omega) (by omega) nd_TK_end_5 (fun r M1 hp => ?_)
  obtain ⟨rfl, eM1⟩ := hp
  rw [eM1]
  refine hm_stk (st' := [.null]) rfl ?_
  refine hm_astore_nQ (r := none) C [(3, .null), (0, .ref x), (1, .int e), (2, .int v)] nd_TK_end_8 (by decide) rfl ?_
  refine hm_aload_nN C nd_TK_end_9 rfl ?_
  refine hm_ifnonnull (tgt := 15) (r := none) C nd_TK_end_10 (by decide) (fun h => absurd rfl h) (fun _ => ?_)
  refine hm_iconst (v := (-1)) C nd_TK_end_13 (by decide) ?_
  exact hm_iret C E (by omega) (by omega) (⟨rfl, rfl⟩) nd_TK_end_14
set_option maxHeartbeats 4000000 in
set_option maxRecDepth 100000 in
theorem ct_TK_agree {l : Launch} {D : va_G} {BG : Nat → Option Cell} (M : hm_M) (x tm ea ka wl we cw n c se mk dr : Nat) (a lk fw : Nat → Nat) (Es : Nat → sp_E) (W : List sp_W) (F : Nat → Prop) (T : Nat → Nat → Nat → Prop) (G : Nat → Prop) (hI : tk_I D M x tm ea ka wl we cw n c se mk dr a lk fw Es W F T G) : hm_ct l D BG ny_TK_agree prog_1_method_10_code 1 (some .int) 1 20 0 0 [.ref x] M (fun r M' => r = some (.int (if (Es 0).1 = (Es 1).1 then 1 else 0)) ∧ M' = M) := by
  refine hm_ct_of (by decide +kernel) (by exact Nat.le_of_ble_eq_true rfl) ?_
  intro X C E
  have C : hm_C X l D BG prog_1_method_10_code "TurnedKeys" "agree" 1 1 20 0 0 := C
  refine hm_lv (lv' := [(0, .ref x)]) rfl ?_
  obtain ⟨hx, ⟨fe, hea, fe0, fe1⟩, ⟨fk, hka, fk0, fk1⟩, hS, hE, ia, il, hW, hw⟩ := id hI
  obtain ⟨e0, he0, hR0⟩ := hE 0 (by omega)
  have he0 := he0 (by omega)
  subst he0
  obtain ⟨b10, b20, b30, b40, b50, b60, f0, hA0, -, o20, -⟩ := id hR0
  obtain ⟨e1, he1, hR1⟩ := hE 1 (by omega)
  have he1 := he1 (by omega)
  subst he1
  obtain ⟨b11, b21, b31, b41, b51, b61, f1, hA1, -, o21, -⟩ := id hR1
  refine hm_aload_n C nd_TK_agree_0 rfl ?_
  refine hm_get C nF_TK_44 hx.1 rfl nd_TK_agree_1 ?_
  refine hm_iconst (v := 0) C nd_TK_agree_4 (by decide) ?_
  refine hm_aald (t := 1) (j := 0) C rfl hea.1 rfl (by decide) (by decide) nd_TK_agree_5 ?_
  rw [fe0]
  refine hm_stk (st' := [.ref (a 0)]) rfl ?_
  refine hm_get C nF_TK_122 hA0.1 rfl nd_TK_agree_6 ?_
  refine hm_aload_n C nd_TK_agree_9 rfl ?_
  refine hm_get C nF_TK_44 hx.1 rfl nd_TK_agree_10 ?_
  refine hm_iconst (v := 1) C nd_TK_agree_13 (by decide) ?_
  refine hm_aald (t := 1) (j := 1) C rfl hea.1 rfl (by decide) (by decide) nd_TK_agree_14 ?_
  rw [fe1]
  refine hm_stk (st' := [.ref (a 1), va_rf b20]) rfl ?_
  refine hm_get C nF_TK_122 hA1.1 rfl nd_TK_agree_15 ?_
  refine hm_acmp_ne (tgt := 25) (rx := b20) (ry := b21) C nd_TK_agree_18 (by decide) (fun c1 => ?_) (fun c1 => ?_)
  · refine hm_iconst (v := 0) C nd_TK_agree_25 (by decide) ?_
    refine hm_callS C (ct_TK_oneIf M 0) nV_TK_oneIf nq_TK_151 nu_TK_oneIf rfl (rest := []) rfl (Nat.le_of_ble_eq_true rfl) (by decide) (by decide) (by omega) (by omega) nd_TK_agree_26 (fun r M1 hp => ?_)
    obtain ⟨rfl, eM1⟩ := hp
    rw [eM1]
    refine hm_stk (st' := [.int 0]) rfl ?_
    exact hm_iret C E (by omega) (by omega) (⟨by rw [if_neg (fun q => c1 ((ts_oe hS o20 o21).mpr q))], rfl⟩) nd_TK_agree_29
  · refine hm_iconst (v := 1) C nd_TK_agree_21 (by decide) ?_
    refine hm_goto (tgt := 26) C nd_TK_agree_22 (by decide) ?_
    refine hm_callS C (ct_TK_oneIf M 1) nV_TK_oneIf nq_TK_151 nu_TK_oneIf rfl (rest := []) rfl (Nat.le_of_ble_eq_true rfl) (by decide) (by decide) (by omega) (by omega) nd_TK_agree_26 (fun r M2 hp => ?_)
    obtain ⟨rfl, eM2⟩ := hp
    rw [eM2]
    refine hm_stk (st' := [.int 1]) rfl ?_
    exact hm_iret C E (by omega) (by omega) (⟨by rw [if_pos ((ts_oe hS o20 o21).mp c1)], rfl⟩) nd_TK_agree_29
set_option maxHeartbeats 4000000 in
set_option maxRecDepth 100000 in
theorem ct_TK_count {l : Launch} {D : va_G} {BG : Nat → Option Cell} (M : hm_M) (x tm ea ka wl we cw n c se mk dr : Nat) (a lk fw : Nat → Nat) (Es : Nat → sp_E) (W : List sp_W) (F : Nat → Prop) (T : Nat → Nat → Nat → Prop) (G : Nat → Prop) (hI : tk_I D M x tm ea ka wl we cw n c se mk dr a lk fw Es W F T G) (v : Int32) : hm_ct l D BG ny_TK_count prog_1_method_11_code 2 (some .int) 1 20 0 0 [.ref x, .int v] M (fun r M' => r = some (.int (if v = 0 then nI W.length else if v = 1 then nI dr else -1)) ∧ M' = M) := by
  refine hm_ct_of (by decide +kernel) (by exact Nat.le_of_ble_eq_true rfl) ?_
  intro X C E
  have C : hm_C X l D BG prog_1_method_11_code "TurnedKeys" "count" 2 1 20 0 0 := C
  refine hm_lv (lv' := [(0, .ref x), (1, .int v)]) rfl ?_
  obtain ⟨hx, ⟨fe, hea, fe0, fe1⟩, ⟨fk, hka, fk0, fk1⟩, hS, hE, ia, il, hW, hw⟩ := id hI
  obtain ⟨⟨m, h1, h3, h4⟩, -⟩ := id hW
  obtain ⟨la, ht, -⟩ := ts_tm hS
  refine hm_iload_n C nd_TK_count_0 rfl ?_
  refine hm_if_ne (tgt := 12) C nd_TK_count_1 (by decide) (fun c1 => ?_) (fun c1 => ?_)
  · refine hm_iload_n C nd_TK_count_12 rfl ?_
    refine hm_iconst (v := 1) C nd_TK_count_13 (by decide) ?_
    refine hm_icmp_ne (tgt := 27) C nd_TK_count_14 (by decide) (fun c2 => ?_) (fun c2 => ?_)
    · refine hm_iconst (v := (-1)) C nd_TK_count_27 (by decide) ?_
      exact hm_iret C E (by omega) (by omega) (⟨by rw [if_neg c1, if_neg c2], rfl⟩) nd_TK_count_28
    · refine hm_aload_n C nd_TK_count_17 rfl ?_
      refine hm_get C nF_TK_10 hx.1 rfl nd_TK_count_18 ?_
      refine hm_get C nF_TK_168 ht rfl nd_TK_count_21 ?_
      refine hm_goto (tgt := 28) C nd_TK_count_24 (by decide) ?_
      exact hm_iret C E (by omega) (by omega) (⟨by rw [if_neg c1, if_pos c2], rfl⟩) nd_TK_count_28
  · refine hm_aload_n C nd_TK_count_4 rfl ?_
    refine hm_get C nF_TK_62 hx.1 rfl nd_TK_count_5 ?_
    refine hm_callV C (ct_AL_size M wl we (nI W.length) m h1) nV_AL_size [] rfl h1 rfl nq_TK_93 nj_AL_size nx_AL_size rfl (rest := []) rfl (Nat.le_of_ble_eq_true rfl) (by decide) (by decide) (by omega) (by omega) nd_TK_count_8 (fun r M1 hp => ?_)
    obtain ⟨rfl, eM1⟩ := hp
    rw [eM1]
    refine hm_stk (st' := [.int (nI W.length)]) rfl ?_
    exact hm_iret C E (by omega) (by omega) (⟨by rw [if_pos c1], rfl⟩) nd_TK_count_11
set_option maxHeartbeats 4000000 in
set_option maxRecDepth 100000 in
theorem ct_TK_derived_in {l : Launch} {D : va_G} {BG : Nat → Option Cell} (M : hm_M) (x tm ea ka wl we cw n c se mk dr : Nat) (a lk fw : Nat → Nat) (Es : Nat → sp_E) (W : List sp_W) (F : Nat → Prop) (T : Nat → Nat → Nat → Prop) (G : Nat → Prop) (hI : tk_I D M x tm ea ka wl we cw n c se mk dr a lk fw Es W F T G) (hcw : cw ≤ 40000) (j : Nat) (hj : j < W.length) : hm_ct l D BG ny_TK_derived prog_1_method_5_code 3 (some .int) 5 107 0 0 [.ref x, .int (nI j)] M (fun r M' => r = some (.int (@ite _ (sm_dr G ((W.getD j (0, 0, 0, 0, 0, 0)).2.2.2.2.2)) (Classical.propDecidable _) 1 0)) ∧ tk_R D M' x n c cw mk dr Es W G) := by
  refine hm_ct_of (by decide +kernel) (by exact Nat.le_of_ble_eq_true rfl) ?_
  intro X C E
  have C : hm_C X l D BG prog_1_method_5_code "TurnedKeys" "derived" 3 5 107 0 0 := C
  refine hm_lv (lv' := [(0, .ref x), (1, .int (nI j))]) rfl ?_
  obtain ⟨hx, ⟨fe, hea, fe0, fe1⟩, ⟨fk, hka, fk0, fk1⟩, hS, hE, ia, il, hW, hw⟩ := id hI
  obtain ⟨wj, hwj⟩ : ∃ wj, W.getD j (0, 0, 0, 0, 0, 0) = wj := ⟨_, rfl⟩
  have hwg : W[j]? = some wj := by rw [← hwj, List.getD_eq_getElem?_getD, List.getElem?_eq_getElem hj]; rfl
  obtain ⟨p, ip, q, iq, z, iz, hwc, hT1, hT2, hT3⟩ := hw j _ hwg
  obtain ⟨la, ht, -⟩ := ts_tm hS
  refine hm_aload_n C nd_TK_derived_0 rfl ?_
  refine hm_iload_n C nd_TK_derived_1 rfl ?_
  refine hm_callV C (ct_TK_wireAt_in M x tm ea ka (a 4) wl mk we cw W.length fw hx.1 hW.1 hcw j hj _ hwc.1) nV_TK_wireAt [.int (nI j)] rfl hx.1 rfl nq_TK_97 nj_TK_wireAt nx_TK_wireAt rfl (rest := []) rfl (Nat.le_of_ble_eq_true rfl) (by decide) (by decide) (by omega) (by omega) nd_TK_derived_2 (fun r M1 hp => ?_)
  obtain ⟨rfl, eM1⟩ := hp
  rw [eM1]
  refine hm_stk (st' := [.ref (fw j)]) rfl ?_
  refine hm_astore_n C [(2, .ref (fw j)), (0, .ref x), (1, .int (nI j))] nd_TK_derived_5 (by decide) rfl ?_
  refine hm_aload_n C nd_TK_derived_6 rfl ?_
  refine hm_ifnonnull (tgt := 14) (r := (some (fw j))) C nd_TK_derived_7 (by decide) (fun _ => ?_) (fun h => by cases h)
  refine hm_aload_n C nd_TK_derived_14 rfl ?_
  refine hm_get C nF_TK_10 hx.1 rfl nd_TK_derived_15 ?_
  refine hm_aload_n C nd_TK_derived_18 rfl ?_
  refine hm_get C nF_TK_144 hwc.1 rfl nd_TK_derived_19 ?_
  refine hm_callV C (ct_TS_hasDerived M tm F T G dr n c se hS z iz wj.2.2.2.2.2 hT3) nV_TS_hasDerived [.ref z] rfl ht rfl nq_TK_147 nj_TS_hasDerived nx_TS_hasDerived rfl (rest := []) rfl (Nat.le_of_ble_eq_true rfl) (by decide) (by decide) (by omega) (by omega) nd_TK_derived_22 (fun r M2 hp => ?_)
  obtain ⟨rfl, hS1, hfr⟩ := hp
  refine hm_stk (st' := [.int (@ite _ (sm_dr G (wj.2.2.2.2.2)) (Classical.propDecidable _) 1 0)]) rfl ?_
  refine hm_callS C (ct_TK_oneIf M2 (@ite _ (sm_dr G (wj.2.2.2.2.2)) (Classical.propDecidable _) 1 0)) nV_TK_oneIf nq_TK_151 nu_TK_oneIf rfl (rest := []) rfl (Nat.le_of_ble_eq_true rfl) (by decide) (by decide) (by omega) (by omega) nd_TK_derived_25 (fun r M3 hp => ?_)
  obtain ⟨rfl, eM3⟩ := hp
  rw [eM3]
  refine hm_stk (st' := [.int (if (@ite _ (sm_dr G (wj.2.2.2.2.2)) (Classical.propDecidable _) 1 0) = 0 then 0 else 1)]) rfl ?_
  exact hm_iret C E (by omega) (by omega) (⟨by rw [hwj]; congr 2; by_cases h : sm_dr G (wj.2.2.2.2.2); rw [if_pos h]; rfl; rw [if_neg h]; rfl, tm, ea, ka, wl, we, n, a, lk, fw, F, T, hI.gv hS1 hfr⟩) nd_TK_derived_28
set_option maxHeartbeats 4000000 in
set_option maxRecDepth 100000 in
theorem ct_TK_derived_out {l : Launch} {D : va_G} {BG : Nat → Option Cell} (M : hm_M) (x tm ea ka wl we cw n c se mk dr : Nat) (a lk fw : Nat → Nat) (Es : Nat → sp_E) (W : List sp_W) (F : Nat → Prop) (T : Nat → Nat → Nat → Prop) (G : Nat → Prop) (hI : tk_I D M x tm ea ka wl we cw n c se mk dr a lk fw Es W F T G) (hcw : cw ≤ 40000) (e : Int32) (he : e < 0 ∨ nI W.length ≤ e) : hm_ct l D BG ny_TK_derived prog_1_method_5_code 3 (some .int) 5 107 0 0 [.ref x, .int e] M (fun r M' => r = some (.int (-1)) ∧ M' = M) := by
  refine hm_ct_of (by decide +kernel) (by exact Nat.le_of_ble_eq_true rfl) ?_
  intro X C E
  have C : hm_C X l D BG prog_1_method_5_code "TurnedKeys" "derived" 3 5 107 0 0 := C
  refine hm_lv (lv' := [(0, .ref x), (1, .int e)]) rfl ?_
  obtain ⟨hx, ⟨fe, hea, fe0, fe1⟩, ⟨fk, hka, fk0, fk1⟩, hS, hE, ia, il, hW, hw⟩ := id hI
  refine hm_aload_n C nd_TK_derived_0 rfl ?_
  refine hm_iload_n C nd_TK_derived_1 rfl ?_
  refine hm_callV C (ct_TK_wireAt_out M x tm ea ka (a 4) wl mk we cw W.length fw hx.1 hW.1 hcw e he) nV_TK_wireAt [.int e] rfl hx.1 rfl nq_TK_97 nj_TK_wireAt nx_TK_wireAt rfl (rest := []) rfl (Nat.le_of_ble_eq_true rfl) (by decide) (by decide) (by omega) (by omega) nd_TK_derived_2 (fun r M1 hp => ?_)
  obtain ⟨rfl, eM1⟩ := hp
  rw [eM1]
  refine hm_stk (st' := [.null]) rfl ?_
  refine hm_astore_nQ (r := none) C [(2, .null), (0, .ref x), (1, .int e)] nd_TK_derived_5 (by decide) rfl ?_
  refine hm_aload_nN C nd_TK_derived_6 rfl ?_
  refine hm_ifnonnull (tgt := 14) (r := none) C nd_TK_derived_7 (by decide) (fun h => absurd rfl h) (fun _ => ?_)
  refine hm_iconst (v := (-1)) C nd_TK_derived_10 (by decide) ?_
  refine hm_goto (tgt := 28) C nd_TK_derived_11 (by decide) ?_
  exact hm_iret C E (by omega) (by omega) (⟨rfl, rfl⟩) nd_TK_derived_28
set_option maxHeartbeats 4000000 in
set_option maxRecDepth 100000 in
theorem ct_TK_opens_in {l : Launch} {D : va_G} {BG : Nat → Option Cell} (M : hm_M) (x tm ea ka wl we cw n c se mk dr : Nat) (a lk fw : Nat → Nat) (Es : Nat → sp_E) (W : List sp_W) (F : Nat → Prop) (T : Nat → Nat → Nat → Prop) (G : Nat → Prop) (hI : tk_I D M x tm ea ka wl we cw n c se mk dr a lk fw Es W F T G) (hcw : cw ≤ 40000) (j : Nat) (hj : j < W.length) : hm_ct l D BG ny_TK_opens prog_1_method_6_code 3 (some .int) 5 107 0 0 [.ref x, .int (nI j)] M (fun r M' => r = some (.int (@ite _ (sm_dr G ((W.getD j (0, 0, 0, 0, 0, 0)).2.2.2.2.1)) (Classical.propDecidable _) 1 0)) ∧ tk_R D M' x n c cw mk dr Es W G) := by
  refine hm_ct_of (by decide +kernel) (by exact Nat.le_of_ble_eq_true rfl) ?_
  intro X C E
  have C : hm_C X l D BG prog_1_method_6_code "TurnedKeys" "opens" 3 5 107 0 0 := C
  refine hm_lv (lv' := [(0, .ref x), (1, .int (nI j))]) rfl ?_
  obtain ⟨hx, ⟨fe, hea, fe0, fe1⟩, ⟨fk, hka, fk0, fk1⟩, hS, hE, ia, il, hW, hw⟩ := id hI
  obtain ⟨wj, hwj⟩ : ∃ wj, W.getD j (0, 0, 0, 0, 0, 0) = wj := ⟨_, rfl⟩
  have hwg : W[j]? = some wj := by rw [← hwj, List.getD_eq_getElem?_getD, List.getElem?_eq_getElem hj]; rfl
  obtain ⟨p, ip, q, iq, z, iz, hwc, hT1, hT2, hT3⟩ := hw j _ hwg
  obtain ⟨la, ht, -⟩ := ts_tm hS
  refine hm_aload_n C nd_TK_opens_0 rfl ?_
  refine hm_iload_n C nd_TK_opens_1 rfl ?_
  refine hm_callV C (ct_TK_wireAt_in M x tm ea ka (a 4) wl mk we cw W.length fw hx.1 hW.1 hcw j hj _ hwc.1) nV_TK_wireAt [.int (nI j)] rfl hx.1 rfl nq_TK_97 nj_TK_wireAt nx_TK_wireAt rfl (rest := []) rfl (Nat.le_of_ble_eq_true rfl) (by decide) (by decide) (by omega) (by omega) nd_TK_opens_2 (fun r M1 hp => ?_)
  obtain ⟨rfl, eM1⟩ := hp
  rw [eM1]
  refine hm_stk (st' := [.ref (fw j)]) rfl ?_
  refine hm_astore_n C [(2, .ref (fw j)), (0, .ref x), (1, .int (nI j))] nd_TK_opens_5 (by decide) rfl ?_
  refine hm_aload_n C nd_TK_opens_6 rfl ?_
  refine hm_ifnonnull (tgt := 14) (r := (some (fw j))) C nd_TK_opens_7 (by decide) (fun _ => ?_) (fun h => by cases h)
  refine hm_aload_n C nd_TK_opens_14 rfl ?_
  refine hm_get C nF_TK_10 hx.1 rfl nd_TK_opens_15 ?_
  refine hm_aload_n C nd_TK_opens_18 rfl ?_
  refine hm_get C nF_TK_115 hwc.1 rfl nd_TK_opens_19 ?_
  refine hm_callV C (ct_TS_hasDerived M tm F T G dr n c se hS q iq wj.2.2.2.2.1 hT2) nV_TS_hasDerived [.ref q] rfl ht rfl nq_TK_147 nj_TS_hasDerived nx_TS_hasDerived rfl (rest := []) rfl (Nat.le_of_ble_eq_true rfl) (by decide) (by decide) (by omega) (by omega) nd_TK_opens_22 (fun r M2 hp => ?_)
  obtain ⟨rfl, hS1, hfr⟩ := hp
  refine hm_stk (st' := [.int (@ite _ (sm_dr G (wj.2.2.2.2.1)) (Classical.propDecidable _) 1 0)]) rfl ?_
  refine hm_callS C (ct_TK_oneIf M2 (@ite _ (sm_dr G (wj.2.2.2.2.1)) (Classical.propDecidable _) 1 0)) nV_TK_oneIf nq_TK_151 nu_TK_oneIf rfl (rest := []) rfl (Nat.le_of_ble_eq_true rfl) (by decide) (by decide) (by omega) (by omega) nd_TK_opens_25 (fun r M3 hp => ?_)
  obtain ⟨rfl, eM3⟩ := hp
  rw [eM3]
  refine hm_stk (st' := [.int (if (@ite _ (sm_dr G (wj.2.2.2.2.1)) (Classical.propDecidable _) 1 0) = 0 then 0 else 1)]) rfl ?_
  exact hm_iret C E (by omega) (by omega) (⟨by rw [hwj]; congr 2; by_cases h : sm_dr G (wj.2.2.2.2.1); rw [if_pos h]; rfl; rw [if_neg h]; rfl, tm, ea, ka, wl, we, n, a, lk, fw, F, T, hI.gv hS1 hfr⟩) nd_TK_opens_28
set_option maxHeartbeats 4000000 in
set_option maxRecDepth 100000 in
theorem ct_TK_opens_out {l : Launch} {D : va_G} {BG : Nat → Option Cell} (M : hm_M) (x tm ea ka wl we cw n c se mk dr : Nat) (a lk fw : Nat → Nat) (Es : Nat → sp_E) (W : List sp_W) (F : Nat → Prop) (T : Nat → Nat → Nat → Prop) (G : Nat → Prop) (hI : tk_I D M x tm ea ka wl we cw n c se mk dr a lk fw Es W F T G) (hcw : cw ≤ 40000) (e : Int32) (he : e < 0 ∨ nI W.length ≤ e) : hm_ct l D BG ny_TK_opens prog_1_method_6_code 3 (some .int) 5 107 0 0 [.ref x, .int e] M (fun r M' => r = some (.int (-1)) ∧ M' = M) := by
  refine hm_ct_of (by decide +kernel) (by exact Nat.le_of_ble_eq_true rfl) ?_
  intro X C E
  have C : hm_C X l D BG prog_1_method_6_code "TurnedKeys" "opens" 3 5 107 0 0 := C
  refine hm_lv (lv' := [(0, .ref x), (1, .int e)]) rfl ?_
  obtain ⟨hx, ⟨fe, hea, fe0, fe1⟩, ⟨fk, hka, fk0, fk1⟩, hS, hE, ia, il, hW, hw⟩ := id hI
  refine hm_aload_n C nd_TK_opens_0 rfl ?_
  refine hm_iload_n C nd_TK_opens_1 rfl ?_
  refine hm_callV C (ct_TK_wireAt_out M x tm ea ka (a 4) wl mk we cw W.length fw hx.1 hW.1 hcw e he) nV_TK_wireAt [.int e] rfl hx.1 rfl nq_TK_97 nj_TK_wireAt nx_TK_wireAt rfl (rest := []) rfl (Nat.le_of_ble_eq_true rfl) (by decide) (by decide) (by omega) (by omega) nd_TK_opens_2 (fun r M1 hp => ?_)
  obtain ⟨rfl, eM1⟩ := hp
  rw [eM1]
  refine hm_stk (st' := [.null]) rfl ?_
  refine hm_astore_nQ (r := none) C [(2, .null), (0, .ref x), (1, .int e)] nd_TK_opens_5 (by decide) rfl ?_
  refine hm_aload_nN C nd_TK_opens_6 rfl ?_
  refine hm_ifnonnull (tgt := 14) (r := none) C nd_TK_opens_7 (by decide) (fun h => absurd rfl h) (fun _ => ?_)
  refine hm_iconst (v := (-1)) C nd_TK_opens_10 (by decide) ?_
  refine hm_goto (tgt := 28) C nd_TK_opens_11 (by decide) ?_
  exact hm_iret C E (by omega) (by omega) (⟨rfl, rfl⟩) nd_TK_opens_28
