set_option maxHeartbeats 4000000 in
set_option maxRecDepth 100000 in
theorem ct_MO_shown {l : Launch} {D : va_G} {BG : Nat → Option Cell} (m : Nat) (A : Nat → Nat) (hA : rf_ok A m) (sc : Nat → Int32) (ar : Nat → Nat → Int32) (n : Nat) (q : Nat → rq) (vl : Nat → Nat) (dr : Nat) (gv kn : Nat → Bool) (od : Bool) (Es : Nat → sp_E) (W : List sp_W) (G : Nat → Prop) (hI : mo_I sc ar n q vl dr gv kn od Es W G) (t v : Nat) (ht : t < n) (h4 : (q t).1 ≤ 4) (hv : vl t = v) : hm_ct l D BG ny_MO_shown prog_8_method_24_code 2 none 1 21 0 0 [.ref m, .int (nI t)] (rf_M D m A sc ar) (fun r M' => r = none ∧ ∃ sc' ar' gv' od', M' = rf_M D m A sc' ar' ∧ (∀ i, i ≠ 4 → ar' i = ar i) ∧ sc' 6 = sc 6 + (if v = 0 then 0 else 1) ∧ mo_I sc' ar' n q vl dr gv' kn od' Es W (fun w => G w ∨ (v ≠ 0 ∧ w = v))) := by
  refine hm_ct_of (by decide +kernel) (by exact Nat.le_of_ble_eq_true rfl) ?_
  intro X C E
  have C : hm_C X l D BG prog_8_method_24_code "TurnedKeysModel" "shown" 2 1 21 0 0 := C
  refine hm_lv (lv' := [(0, .ref m), (1, .int (nI t))]) rfl ?_
  obtain ⟨b1, b2, b3, b4, b5, b6, b7, b8, b9, b10, b11, b12, b13⟩ := id hI
  have hn2 := b1.1.2.2.1
  refine hm_iload_n C nd_MO_shown_0 rfl ?_
  refine hm_if_ne (tgt := 5) C nd_MO_shown_1 (by decide) (fun c1 => ?_) (fun c1 => ?_)
  · have t0 : t ≠ 0 := fun z => c1 (by rw [z]; rfl)
    have v0 : v ≠ 0 := by rw [← hv]; exact rv_pos b1.2.1 (by omega) ht (by omega)
    refine hm_aload_n C nd_MO_shown_5 rfl ?_
    refine hm_iload_n C nd_MO_shown_6 rfl ?_
    refine hm_callV C (ct_MO_give m A hA sc ar gv b2 t (by omega)) nV_MO_give [.int (nI t)] rfl rf_m rfl nq_MO_131 nj_MO_give nx_MO_give rfl (rest := []) rfl (Nat.le_of_ble_eq_true rfl) (by decide) (by decide) (by omega) (by omega) nd_MO_shown_7 (fun r M1 hp => ?_)
    obtain ⟨rfl, sc1, ar1, rfl, hs1, ha1, hg1, ho1⟩ := hp
    refine hm_stk (st' := []) rfl ?_
    refine hm_aload_n C nd_MO_shown_10 rfl ?_
    refine hm_dup C nd_MO_shown_11 rfl ?_
    refine hm_get C nF_MO_149 rf_m rfl nd_MO_shown_12 ?_
    refine hm_iconst (v := 1) C nd_MO_shown_15 (by decide) ?_
    refine hm_iadd C nd_MO_shown_16 ?_
    refine hm_put C nF_MO_149 rf_m (Nat.le_of_ble_eq_true rfl) rfl rfl nd_MO_shown_17 ?_
    refine hm_eqM (rf_pt (sc' := va_up sc1 6 ((sc1 6) + 1))) ?_
    obtain ⟨od1, hI1⟩ := hI.gv (sc' := va_up sc1 6 ((sc1 6) + 1)) (ar' := ar1) ht h4 hv (fun i i1 i6 => (va_up_ne _ _ i6).trans (hs1 i i1)) (fun i i4 _ => ha1 i i4) hg1 ho1
    exact hm_vret C E (by omega) (by omega) (⟨rfl, _, ar1, _, od1, rfl, ha1, by rw [if_neg v0, va_up_self, hs1 6 (by decide)], hI1⟩) nd_MO_shown_20
  · have t0 : t = 0 := (nI_eq (by omega) (by omega)).mp c1
    have v0 : v = 0 := by rw [← hv, t0]; exact b1.2.1.1
    obtain ⟨od1, hI1⟩ := hI.gv (sc' := sc) (ar' := ar) ht h4 hv (fun _ _ _ => rfl) (fun _ _ _ => rfl) (by rw [show lrn gv t = gv from if_pos t0]; exact b2) (Or.inr ⟨rfl, Or.inl t0⟩)
    exact hm_vret C E (by omega) (by omega) (⟨rfl, sc, ar, _, od1, rfl, fun _ _ => rfl, by rw [if_pos v0, Int32.add_zero], hI1⟩) nd_MO_shown_4
theorem sp_nz_1 (L : List Nat) (v : Nat) : nI (sp_nz L) + (if v = 0 then 0 else 1) = nI (sp_nz (L ++ [v])) := by
  rw [sp_nz_ap]
  by_cases c : v = 0
  · rw [if_pos c, if_pos c, Int32.add_zero]; rfl
  · rw [if_neg c, if_neg c, nI_1]
set_option maxHeartbeats 4000000 in
set_option maxRecDepth 100000 in
theorem ct_MO_look_in {l : Launch} {D : va_G} {BG : Nat → Option Cell} (m : Nat) (A : Nat → Nat) (hA : rf_ok A m) (sc : Nat → Int32) (ar : Nat → Nat → Int32) (n : Nat) (q : Nat → rq) (vl : Nat → Nat) (dr : Nat) (gv kn : Nat → Bool) (od : Bool) (Es : Nat → sp_E) (W : List sp_W) (G : Nat → Prop) (hI : mo_I sc ar n q vl dr gv kn od Es W G) (j : Nat) (hj : j < 2) : hm_ct l D BG ny_MO_look prog_8_method_25_code 3 (some .int) 2 42 0 0 [.ref m, .int (nI j)] (rf_M D m A sc ar) (fun r M' => r = some (.int (nI (sp_nz (sp_lg (Es j))))) ∧ ∃ sc' ar' gv' od', M' = rf_M D m A sc' ar' ∧ mo_I sc' ar' n q vl dr gv' kn od' Es W (sp_gv G (sp_lg (Es j)))) := by
  refine hm_ct_of (by decide +kernel) (by exact Nat.le_of_ble_eq_true rfl) ?_
  intro X C E
  have C : hm_C X l D BG prog_8_method_25_code "TurnedKeysModel" "look" 3 2 42 0 0 := C
  refine hm_lv (lv' := [(0, .ref m), (1, .int (nI j))]) rfl ?_
  have loop : ∀ (ar0 : Nat → Nat → Int32), re n q vl (ar0 15) (Es j) → ∀ (u k : Nat) (sc0 : Nat → Int32) (art : Nat → Nat → Int32) (gv0 : Nat → Bool) (od0 : Bool) (L : List Nat), k + u = (Es j).2.2.2.2.2.2.2.2.length → k ≤ 8 → L = [sp_b, (Es j).1, (Es j).2.1, (Es j).2.2.1, (Es j).2.2.2.1, (Es j).2.2.2.2.2.2.1] ++ ((Es j).2.2.2.2.2.2.2.2.take k).flatMap (fun q => [q.1, q.2.2]) → mo_I sc0 art n q vl dr gv0 kn od0 Es W (sp_gv G L) → sc0 6 = nI (sp_nz L) → art 15 = ar0 15 → hm_W X (rf_M D m A sc0 art) 0 0 80 [(2, .int (nI k)), (0, .ref m), (1, .int (nI j))] [] := by
    intro ar0 hr u
    induction u with
    | zero =>
        intro k sc0 art gv0 od0 L hu hk8 hL hJ0 hN0 h15_0
        obtain ⟨a1, a2, a3, a4, a5, a6, a7, a8, a9, a10, a11⟩ := id hr
        refine hm_iload_n C nd_MO_look_80 rfl ?_
        refine hm_aload_n C nd_MO_look_81 rfl ?_
        refine hm_get C nF_MO_66 rf_m rfl nd_MO_look_82 ?_
        refine hm_bipush (v := 8) C nd_MO_look_85 (by decide) ?_
        refine hm_iald (t := 3) (N := 33) (j := 8) (f := (art 15)) C rfl (rf_at hA (i := 15) (by decide)) rfl (by omega) (by decide) nd_MO_look_87 ?_
        refine hm_stk (st' := [.int (nI (Es j).2.2.2.2.2.2.2.2.length), .int (nI k)]) (by rw [h15_0, a9]) ?_
        refine hm_icmp_ge (tgt := 129) C nd_MO_look_88 (by decide) (fun c1 => ?_) (fun c1 => absurd (show nI (Es j).2.2.2.2.2.2.2.2.length ≤ nI k from nI_le (by omega) (by omega)) c1)
        refine hm_aload_n C nd_MO_look_129 rfl ?_
        refine hm_get C nF_MO_149 rf_m rfl nd_MO_look_130 ?_
        have hLe : L = sp_lg (Es j) := by rw [hL, List.take_of_length_le (by omega)]; rfl
        refine hm_stk (st' := [.int (nI (sp_nz L))]) (by rw [hN0]) ?_
        exact hm_iret C E (by omega) (by omega) (⟨by rw [hLe], _, art, gv0, od0, rfl, by rw [← hLe]; exact hJ0⟩) nd_MO_look_133
    | succ u ih =>
        intro k sc0 art gv0 od0 L hu hk8 hL hJ0 hN0 h15_0
        obtain ⟨a1, a2, a3, a4, a5, a6, a7, a8, a9, a10, a11⟩ := id hr
        refine hm_iload_n C nd_MO_look_80 rfl ?_
        refine hm_aload_n C nd_MO_look_81 rfl ?_
        refine hm_get C nF_MO_66 rf_m rfl nd_MO_look_82 ?_
        refine hm_bipush (v := 8) C nd_MO_look_85 (by decide) ?_
        refine hm_iald (t := 3) (N := 33) (j := 8) (f := (art 15)) C rfl (rf_at hA (i := 15) (by decide)) rfl (by omega) (by decide) nd_MO_look_87 ?_
        refine hm_stk (st' := [.int (nI (Es j).2.2.2.2.2.2.2.2.length), .int (nI k)]) (by rw [h15_0, a9]) ?_
        refine hm_icmp_ge (tgt := 129) C nd_MO_look_88 (by decide) (fun c1 => absurd c1 (nI_ge (by omega) (by omega))) (fun c1 => ?_)
        have hz : (Es j).2.2.2.2.2.2.2.2[k]? = some ((Es j).2.2.2.2.2.2.2.2[k]'(by omega)) := List.getElem?_eq_getElem (by omega)
        generalize (Es j).2.2.2.2.2.2.2.2[k]'(by omega) = z at hz
        obtain ⟨d1, d2, d3⟩ := a11 k z hz
        refine hm_aload_n C nd_MO_look_91 rfl ?_
        refine hm_aload_n C nd_MO_look_92 rfl ?_
        refine hm_get C nF_MO_66 rf_m rfl nd_MO_look_93 ?_
        refine hm_bipush (v := 9) C nd_MO_look_96 (by decide) ?_
        refine hm_iconst (v := 3) C nd_MO_look_98 (by decide) ?_
        refine hm_iload_n C nd_MO_look_99 rfl ?_
        refine hm_imul C nd_MO_look_100 ?_
        refine hm_iadd C nd_MO_look_101 ?_
        refine hm_stk (st' := [.int (nI (9 + 3 * k)), .ref (A 15), .ref m]) (by rw [rf_9]) ?_
        refine hm_iald (t := 3) (N := 33) (j := (9 + 3 * k)) (f := (art 15)) C rfl (rf_at hA (i := 15) (by decide)) rfl (by omega) (by decide) nd_MO_look_102 ?_
        refine hm_stk (st' := [.int (ar0 15 (9 + 3 * k)), .ref m]) (by rw [h15_0]) ?_
        obtain ⟨t1, et1, lt1, st1, vt1⟩ := d1
        refine hm_stk (st' := [.int (nI t1), .ref m]) (by rw [et1]) ?_
        refine hm_callV C (ct_MO_shown m A hA sc0 art n q vl dr gv0 kn od0 Es W _ hJ0 t1 z.1 lt1 st1 vt1) nV_MO_shown [.int (nI t1)] rfl rf_m rfl nq_MO_152 nj_MO_shown nx_MO_shown rfl (rest := []) rfl (Nat.le_of_ble_eq_true rfl) (by decide) (by decide) (by omega) (by omega) nd_MO_look_103 (fun r M1 hp => ?_)
        obtain ⟨rfl, sc1, ar1, gv1, od1, rfl, hs1, hn1, hJ1⟩ := hp
        refine hm_stk (st' := []) rfl ?_
        rw [sp_gv_ap] at hJ1
        rw [hN0, sp_nz_1] at hn1
        have hN1 := hn1
        have h15_1 : ar1 15 = ar0 15 := (hs1 15 (by decide)).trans h15_0
        refine hm_aload_n C nd_MO_look_106 rfl ?_
        refine hm_aload_n C nd_MO_look_107 rfl ?_
        refine hm_get C nF_MO_66 rf_m rfl nd_MO_look_108 ?_
        refine hm_bipush (v := 9) C nd_MO_look_111 (by decide) ?_
        refine hm_iconst (v := 3) C nd_MO_look_113 (by decide) ?_
        refine hm_iload_n C nd_MO_look_114 rfl ?_
        refine hm_imul C nd_MO_look_115 ?_
        refine hm_iadd C nd_MO_look_116 ?_
        refine hm_stk (st' := [.int (nI (9 + 3 * k)), .ref (A 15), .ref m]) (by rw [rf_9]) ?_
        refine hm_iconst (v := 2) C nd_MO_look_117 (by decide) ?_
        refine hm_iadd C nd_MO_look_118 ?_
        refine hm_stk (st' := [.int (nI (11 + 3 * k)), .ref (A 15), .ref m]) (by rw [nI_2, show 9 + 3 * k + 2 = 11 + 3 * k by omega]) ?_
        refine hm_iald (t := 3) (N := 33) (j := (11 + 3 * k)) (f := (ar1 15)) C rfl (rf_at hA (i := 15) (by decide)) rfl (by omega) (by decide) nd_MO_look_119 ?_
        refine hm_stk (st' := [.int (ar0 15 (11 + 3 * k)), .ref m]) (by rw [h15_1]) ?_
        obtain ⟨t2, et2, lt2, st2, vt2⟩ := d3
        refine hm_stk (st' := [.int (nI t2), .ref m]) (by rw [et2]) ?_
        refine hm_callV C (ct_MO_shown m A hA sc1 ar1 n q vl dr gv1 kn od1 Es W _ hJ1 t2 z.2.2 lt2 st2 vt2) nV_MO_shown [.int (nI t2)] rfl rf_m rfl nq_MO_152 nj_MO_shown nx_MO_shown rfl (rest := []) rfl (Nat.le_of_ble_eq_true rfl) (by decide) (by decide) (by omega) (by omega) nd_MO_look_120 (fun r M2 hp => ?_)
        obtain ⟨rfl, sc2, ar2, gv2, od2, rfl, hs2, hn2, hJ2⟩ := hp
        refine hm_stk (st' := []) rfl ?_
        rw [sp_gv_ap] at hJ2
        rw [hN1, sp_nz_1] at hn2
        have hN2 := hn2
        have h15_2 : ar2 15 = ar0 15 := (hs2 15 (by decide)).trans h15_1
        refine hm_iinc (x := (nI k)) (v := ((nI k) + 1)) C [(2, .int ((nI k) + 1)), (0, .ref m), (1, .int (nI j))] nd_MO_look_123 rfl rfl (by decide) rfl ?_
        refine hm_goto (tgt := 80) C nd_MO_look_126 (by decide) ?_
        refine hm_less (lv' := [(2, .int (nI (k + 1))), (0, .ref m), (1, .int (nI j))]) (fun z hz => by simp only [List.mem_cons, List.not_mem_nil, or_false, nI_1] at hz ⊢; rcases hz with h | h | h <;> subst h <;> simp [nI_0]) ?_
        exact ih (k + 1) sc2 ar2 gv2 od2 (L ++ [z.1] ++ [z.2.2]) (by omega) (by omega) (by rw [hL, List.take_add_one, hz, Option.toList_some, List.flatMap_append, List.flatMap_singleton, List.append_assoc, List.append_assoc]; rfl) hJ2 hN2 h15_2
  obtain ⟨b1, b2, b3, b4, b5, b6, b7, b8, b9, b10, b11, b12, b13⟩ := id hI
  refine hm_iload_n C nd_MO_look_0 rfl ?_
  refine hm_callS C (ct_MO_isEnd_in _ j hj) nV_MO_isEnd nq_MO_115 nu_MO_isEnd rfl (rest := []) rfl (Nat.le_of_ble_eq_true rfl) (by decide) (by decide) (by omega) (by omega) nd_MO_look_1 (fun r M1 hp => ?_)
  obtain ⟨rfl, eM1⟩ := hp
  rw [eM1]
  refine hm_stk (st' := [.int 1]) rfl ?_
  refine hm_if_ne (tgt := 9) C nd_MO_look_4 (by decide) (fun c0 => ?_) (fun c0 => absurd c0 (by decide))
  refine hm_aload_n C nd_MO_look_9 rfl ?_
  refine hm_iload_n C nd_MO_look_10 rfl ?_
  refine hm_callV C (ct_MO_load m A hA sc ar j hj) nV_MO_load [.int (nI j)] rfl rf_m rfl nq_MO_118 nj_MO_load nx_MO_load rfl (rest := []) rfl (Nat.le_of_ble_eq_true rfl) (by decide) (by decide) (by omega) (by omega) nd_MO_look_11 (fun r M2 hp => ?_)
  obtain ⟨rfl, ar0, rfl, hs0, hl0⟩ := hp
  refine hm_stk (st' := []) rfl ?_
  refine hm_aload_n C nd_MO_look_14 rfl ?_
  refine hm_iconst (v := 0) C nd_MO_look_15 (by decide) ?_
  refine hm_put C nF_MO_149 rf_m (Nat.le_of_ble_eq_true rfl) rfl rfl nd_MO_look_16 ?_
  refine hm_eqM (rf_pt (sc' := va_up sc 6 0)) ?_
  have hr : re n q vl (ar0 15) (Es j) := (b7 j hj).cg (fun k hk => hl0 k hk)
  have hJ0 : mo_I (va_up sc 6 0) ar0 n q vl dr gv kn od Es W (sp_gv G []) := by rw [sp_gv_0]; exact hI.ha (fun i hi => va_up_ne _ _ hi) hs0
  have hN0 : (va_up sc 6 0) 6 = nI (sp_nz []) := rfl
  have h15_0 : ar0 15 = ar0 15 := rfl
  obtain ⟨gv0, hgv0⟩ : ∃ g, g = gv := ⟨_, rfl⟩
  obtain ⟨od0, hod0⟩ : ∃ g, g = od := ⟨_, rfl⟩
  rw [← hgv0, ← hod0] at hJ0
  obtain ⟨a1, a2, a3, a4, a5, a6, a7, a8, a9, a10, a11⟩ := id hr
  refine hm_aload_n C nd_MO_look_19 rfl ?_
  refine hm_aload_n C nd_MO_look_20 rfl ?_
  refine hm_get C nF_MO_77 rf_m rfl nd_MO_look_21 ?_
  refine hm_stk (st' := [.int (sc 5), .ref m]) (rfl) ?_
  obtain ⟨t1, et1, lt1, st1, vt1⟩ := b6
  refine hm_stk (st' := [.int (nI t1), .ref m]) (by rw [et1]) ?_
  refine hm_callV C (ct_MO_shown m A hA (va_up sc 6 0) ar0 n q vl dr gv0 kn od0 Es W _ hJ0 t1 sp_b lt1 st1 vt1) nV_MO_shown [.int (nI t1)] rfl rf_m rfl nq_MO_152 nj_MO_shown nx_MO_shown rfl (rest := []) rfl (Nat.le_of_ble_eq_true rfl) (by decide) (by decide) (by omega) (by omega) nd_MO_look_24 (fun r M3 hp => ?_)
  obtain ⟨rfl, sc1, ar1, gv1, od1, rfl, hs1, hn1, hJ1⟩ := hp
  refine hm_stk (st' := []) rfl ?_
  rw [sp_gv_ap] at hJ1
  rw [hN0, sp_nz_1] at hn1
  have hN1 := hn1
  have h15_1 : ar1 15 = ar0 15 := (hs1 15 (by decide)).trans h15_0
  refine hm_aload_n C nd_MO_look_27 rfl ?_
  refine hm_aload_n C nd_MO_look_28 rfl ?_
  refine hm_get C nF_MO_66 rf_m rfl nd_MO_look_29 ?_
  refine hm_iconst (v := 0) C nd_MO_look_32 (by decide) ?_
  refine hm_iald (t := 3) (N := 33) (j := 0) (f := (ar1 15)) C rfl (rf_at hA (i := 15) (by decide)) rfl (by omega) (by decide) nd_MO_look_33 ?_
  refine hm_stk (st' := [.int (ar0 15 0), .ref m]) (by rw [h15_1]) ?_
  obtain ⟨t2, et2, lt2, st2, vt2⟩ := a1
  refine hm_stk (st' := [.int (nI t2), .ref m]) (by rw [et2]) ?_
  refine hm_callV C (ct_MO_shown m A hA sc1 ar1 n q vl dr gv1 kn od1 Es W _ hJ1 t2 ((Es j).1) lt2 st2 vt2) nV_MO_shown [.int (nI t2)] rfl rf_m rfl nq_MO_152 nj_MO_shown nx_MO_shown rfl (rest := []) rfl (Nat.le_of_ble_eq_true rfl) (by decide) (by decide) (by omega) (by omega) nd_MO_look_34 (fun r M4 hp => ?_)
  obtain ⟨rfl, sc2, ar2, gv2, od2, rfl, hs2, hn2, hJ2⟩ := hp
  refine hm_stk (st' := []) rfl ?_
  rw [sp_gv_ap] at hJ2
  rw [hN1, sp_nz_1] at hn2
  have hN2 := hn2
  have h15_2 : ar2 15 = ar0 15 := (hs2 15 (by decide)).trans h15_1
  refine hm_aload_n C nd_MO_look_37 rfl ?_
  refine hm_aload_n C nd_MO_look_38 rfl ?_
  refine hm_get C nF_MO_66 rf_m rfl nd_MO_look_39 ?_
  refine hm_iconst (v := 1) C nd_MO_look_42 (by decide) ?_
  refine hm_iald (t := 3) (N := 33) (j := 1) (f := (ar2 15)) C rfl (rf_at hA (i := 15) (by decide)) rfl (by omega) (by decide) nd_MO_look_43 ?_
  refine hm_stk (st' := [.int (ar0 15 1), .ref m]) (by rw [h15_2]) ?_
  obtain ⟨t3, et3, lt3, st3, vt3⟩ := a2
  refine hm_stk (st' := [.int (nI t3), .ref m]) (by rw [et3]) ?_
  refine hm_callV C (ct_MO_shown m A hA sc2 ar2 n q vl dr gv2 kn od2 Es W _ hJ2 t3 ((Es j).2.1) lt3 st3 vt3) nV_MO_shown [.int (nI t3)] rfl rf_m rfl nq_MO_152 nj_MO_shown nx_MO_shown rfl (rest := []) rfl (Nat.le_of_ble_eq_true rfl) (by decide) (by decide) (by omega) (by omega) nd_MO_look_44 (fun r M5 hp => ?_)
  obtain ⟨rfl, sc3, ar3, gv3, od3, rfl, hs3, hn3, hJ3⟩ := hp
  refine hm_stk (st' := []) rfl ?_
  rw [sp_gv_ap] at hJ3
  rw [hN2, sp_nz_1] at hn3
  have hN3 := hn3
  have h15_3 : ar3 15 = ar0 15 := (hs3 15 (by decide)).trans h15_2
  refine hm_aload_n C nd_MO_look_47 rfl ?_
  refine hm_aload_n C nd_MO_look_48 rfl ?_
  refine hm_get C nF_MO_66 rf_m rfl nd_MO_look_49 ?_
  refine hm_iconst (v := 2) C nd_MO_look_52 (by decide) ?_
  refine hm_iald (t := 3) (N := 33) (j := 2) (f := (ar3 15)) C rfl (rf_at hA (i := 15) (by decide)) rfl (by omega) (by decide) nd_MO_look_53 ?_
  refine hm_stk (st' := [.int (ar0 15 2), .ref m]) (by rw [h15_3]) ?_
  obtain ⟨t4, et4, lt4, st4, vt4⟩ := a3
  refine hm_stk (st' := [.int (nI t4), .ref m]) (by rw [et4]) ?_
  refine hm_callV C (ct_MO_shown m A hA sc3 ar3 n q vl dr gv3 kn od3 Es W _ hJ3 t4 ((Es j).2.2.1) lt4 st4 vt4) nV_MO_shown [.int (nI t4)] rfl rf_m rfl nq_MO_152 nj_MO_shown nx_MO_shown rfl (rest := []) rfl (Nat.le_of_ble_eq_true rfl) (by decide) (by decide) (by omega) (by omega) nd_MO_look_54 (fun r M6 hp => ?_)
  obtain ⟨rfl, sc4, ar4, gv4, od4, rfl, hs4, hn4, hJ4⟩ := hp
  refine hm_stk (st' := []) rfl ?_
  rw [sp_gv_ap] at hJ4
  rw [hN3, sp_nz_1] at hn4
  have hN4 := hn4
  have h15_4 : ar4 15 = ar0 15 := (hs4 15 (by decide)).trans h15_3
  refine hm_aload_n C nd_MO_look_57 rfl ?_
  refine hm_aload_n C nd_MO_look_58 rfl ?_
  refine hm_get C nF_MO_66 rf_m rfl nd_MO_look_59 ?_
  refine hm_iconst (v := 3) C nd_MO_look_62 (by decide) ?_
  refine hm_iald (t := 3) (N := 33) (j := 3) (f := (ar4 15)) C rfl (rf_at hA (i := 15) (by decide)) rfl (by omega) (by decide) nd_MO_look_63 ?_
  refine hm_stk (st' := [.int (ar0 15 3), .ref m]) (by rw [h15_4]) ?_
  obtain ⟨t5, et5, lt5, st5, vt5⟩ := a4
  refine hm_stk (st' := [.int (nI t5), .ref m]) (by rw [et5]) ?_
  refine hm_callV C (ct_MO_shown m A hA sc4 ar4 n q vl dr gv4 kn od4 Es W _ hJ4 t5 ((Es j).2.2.2.1) lt5 st5 vt5) nV_MO_shown [.int (nI t5)] rfl rf_m rfl nq_MO_152 nj_MO_shown nx_MO_shown rfl (rest := []) rfl (Nat.le_of_ble_eq_true rfl) (by decide) (by decide) (by omega) (by omega) nd_MO_look_64 (fun r M7 hp => ?_)
  obtain ⟨rfl, sc5, ar5, gv5, od5, rfl, hs5, hn5, hJ5⟩ := hp
  refine hm_stk (st' := []) rfl ?_
  rw [sp_gv_ap] at hJ5
  rw [hN4, sp_nz_1] at hn5
  have hN5 := hn5
  have h15_5 : ar5 15 = ar0 15 := (hs5 15 (by decide)).trans h15_4
  refine hm_aload_n C nd_MO_look_67 rfl ?_
  refine hm_aload_n C nd_MO_look_68 rfl ?_
  refine hm_get C nF_MO_66 rf_m rfl nd_MO_look_69 ?_
  refine hm_bipush (v := 6) C nd_MO_look_72 (by decide) ?_
  refine hm_iald (t := 3) (N := 33) (j := 6) (f := (ar5 15)) C rfl (rf_at hA (i := 15) (by decide)) rfl (by omega) (by decide) nd_MO_look_74 ?_
  refine hm_stk (st' := [.int (ar0 15 6), .ref m]) (by rw [h15_5]) ?_
  obtain ⟨t6, et6, lt6, st6, vt6⟩ := a7
  refine hm_stk (st' := [.int (nI t6), .ref m]) (by rw [et6]) ?_
  refine hm_callV C (ct_MO_shown m A hA sc5 ar5 n q vl dr gv5 kn od5 Es W _ hJ5 t6 ((Es j).2.2.2.2.2.2.1) lt6 st6 vt6) nV_MO_shown [.int (nI t6)] rfl rf_m rfl nq_MO_152 nj_MO_shown nx_MO_shown rfl (rest := []) rfl (Nat.le_of_ble_eq_true rfl) (by decide) (by decide) (by omega) (by omega) nd_MO_look_75 (fun r M8 hp => ?_)
  obtain ⟨rfl, sc6, ar6, gv6, od6, rfl, hs6, hn6, hJ6⟩ := hp
  refine hm_stk (st' := []) rfl ?_
  rw [sp_gv_ap] at hJ6
  rw [hN5, sp_nz_1] at hn6
  have hN6 := hn6
  have h15_6 : ar6 15 = ar0 15 := (hs6 15 (by decide)).trans h15_5
  refine hm_iconst (v := 0) C nd_MO_look_78 (by decide) ?_
  refine hm_istore_n C [(2, .int 0), (0, .ref m), (1, .int (nI j))] nd_MO_look_79 (by decide) rfl ?_
  refine hm_less (lv' := [(2, .int (nI 0)), (0, .ref m), (1, .int (nI j))]) (fun z hz => by simp only [List.mem_cons, List.not_mem_nil, or_false] at hz ⊢; rcases hz with h | h | h <;> subst h <;> simp [nI_0]) ?_
  exact loop ar0 hr (Es j).2.2.2.2.2.2.2.2.length 0 sc6 ar6 gv6 od6 [sp_b, (Es j).1, (Es j).2.1, (Es j).2.2.1, (Es j).2.2.2.1, (Es j).2.2.2.2.2.2.1] (by omega) (by omega) (by rw [List.take_zero, List.flatMap_nil, List.append_nil]) hJ6 hN6 h15_6
set_option maxHeartbeats 4000000 in
set_option maxRecDepth 100000 in
theorem ct_MO_look_out {l : Launch} {D : va_G} {BG : Nat → Option Cell} (m : Nat) (A : Nat → Nat) (hA : rf_ok A m) (sc : Nat → Int32) (ar : Nat → Nat → Int32) (e : Int32) (he : e < 0 ∨ nI 2 ≤ e) : hm_ct l D BG ny_MO_look prog_8_method_25_code 3 (some .int) 2 42 0 0 [.ref m, .int e] (rf_M D m A sc ar) (fun r M' => r = some (.int (-1)) ∧ M' = (rf_M D m A sc ar)) := by
  refine hm_ct_of (by decide +kernel) (by exact Nat.le_of_ble_eq_true rfl) ?_
  intro X C E
  have C : hm_C X l D BG prog_8_method_25_code "TurnedKeysModel" "look" 3 2 42 0 0 := C
  refine hm_lv (lv' := [(0, .ref m), (1, .int e)]) rfl ?_
  refine hm_iload_n C nd_MO_look_0 rfl ?_
  refine hm_callS C (ct_MO_isEnd_out _ e he) nV_MO_isEnd nq_MO_115 nu_MO_isEnd rfl (rest := []) rfl (Nat.le_of_ble_eq_true rfl) (by decide) (by decide) (by omega) (by omega) nd_MO_look_1 (fun r M1 hp => ?_)
  obtain ⟨rfl, eM1⟩ := hp
  rw [eM1]
  refine hm_stk (st' := [.int 0]) rfl ?_
  refine hm_if_ne (tgt := 9) C nd_MO_look_4 (by decide) (fun c0 => absurd rfl c0) (fun c0 => ?_)
  refine hm_iconst (v := (-1)) C nd_MO_look_7 (by decide) ?_
  exact hm_iret C E (by omega) (by omega) (⟨rfl, rfl⟩) nd_MO_look_8
set_option maxHeartbeats 4000000 in
set_option maxRecDepth 100000 in
theorem ct_MO_take_self {l : Launch} {D : va_G} {BG : Nat → Option Cell} (m : Nat) (A : Nat → Nat) (hA : rf_ok A m) (sc : Nat → Int32) (ar : Nat → Nat → Int32) (n : Nat) (q : Nat → rq) (vl : Nat → Nat) (dr : Nat) (gv kn : Nat → Bool) (od : Bool) (Es : Nat → sp_E) (W : List sp_W) (G : Nat → Prop) (hI : mo_I sc ar n q vl dr gv kn od Es W G) (hwl : W.length ≤ 520) (j v : Nat) (hj : j < 2) (s0 ix bw k ky le : Nat) (hwg : W[v]? = some (s0, ix, bw, k, ky, le)) (hs : s0 = j) : hm_ct l D BG ny_MO_take prog_8_method_23_code 4 (some .int) 5 118 0 0 [.ref m, .int (nI j), .int (nI v)] (rf_M D m A sc ar) (fun r M' => r = some (.int (-11)) ∧ M' = (rf_M D m A sc ar)) := by
  refine hm_ct_of (by decide +kernel) (by exact Nat.le_of_ble_eq_true rfl) ?_
  intro X C E
  have C : hm_C X l D BG prog_8_method_23_code "TurnedKeysModel" "take" 4 5 118 0 0 := C
  refine hm_lv (lv' := [(0, .ref m), (1, .int (nI j)), (2, .int (nI v))]) rfl ?_
  obtain ⟨b1, b2, b3, b4, b5, b6, b7, b8, b9, b10, b11, b12, b13⟩ := id hI
  obtain ⟨c1, c2, c3, c4, t, c5, c6, c7, c8, c9, c10⟩ := b9 v _ hwg
  dsimp only at c1 c2 c3 c4 c9
  have hv : v < W.length := (List.getElem?_eq_some_iff.mp hwg).1
  refine hm_iload_n C nd_MO_take_0 rfl ?_
  refine hm_callS C (ct_MO_isEnd_in _ j hj) nV_MO_isEnd nq_MO_115 nu_MO_isEnd rfl (rest := []) rfl (Nat.le_of_ble_eq_true rfl) (by decide) (by decide) (by omega) (by omega) nd_MO_take_1 (fun r M1 hp => ?_)
  obtain ⟨rfl, eM1⟩ := hp
  rw [eM1]
  refine hm_stk (st' := [.int 1]) rfl ?_
  refine hm_if_eq (tgt := 19) C nd_MO_take_4 (by decide) (fun d0 => absurd d0 (by decide)) (fun d0 => ?_)
  refine hm_iload_n C nd_MO_take_7 rfl ?_
  refine hm_if_lt (tgt := 19) C nd_MO_take_8 (by decide) (fun d1 => absurd d1 (nI_pos (by omega))) (fun d1 => ?_)
  refine hm_iload_n C nd_MO_take_11 rfl ?_
  refine hm_aload_n C nd_MO_take_12 rfl ?_
  refine hm_get C nF_MO_128 rf_m rfl nd_MO_take_13 ?_
  refine hm_stk (st' := [.int (nI W.length), .int (nI v)]) (by rw [b5.2]) ?_
  refine hm_icmp_lt (tgt := 21) C nd_MO_take_16 (by decide) (fun d2 => ?_) (fun d2 => absurd (nI_lt hv (by omega)) d2)
  refine hm_aload_n C nd_MO_take_21 rfl ?_
  refine hm_get C nF_MO_48 rf_m rfl nd_MO_take_22 ?_
  refine hm_iload_n C nd_MO_take_25 rfl ?_
  refine hm_iald (t := 3) (N := 520) (j := v) (f := (ar 9)) C rfl (rf_at hA (i := 9) (by decide)) rfl (by omega) (by decide) nd_MO_take_26 ?_
  refine hm_stk (st' := [.int (nI s0)]) (by rw [c3]) ?_
  refine hm_iload_n C nd_MO_take_27 rfl ?_
  refine hm_icmp_ne (tgt := 34) C nd_MO_take_28 (by decide) (fun d3 => (d3 (by rw [hs])).elim) (fun d3 => ?_)
  refine hm_bipush (v := (-11)) C nd_MO_take_31 (by decide) ?_
  exact hm_iret C E (by omega) (by omega) (⟨rfl, rfl⟩) nd_MO_take_33
set_option maxHeartbeats 4000000 in
set_option maxRecDepth 100000 in
theorem ct_MO_take_e {l : Launch} {D : va_G} {BG : Nat → Option Cell} (m : Nat) (A : Nat → Nat) (hA : rf_ok A m) (sc : Nat → Int32) (ar : Nat → Nat → Int32) (e u : Int32) (he : e < 0 ∨ nI 2 ≤ e) : hm_ct l D BG ny_MO_take prog_8_method_23_code 4 (some .int) 5 118 0 0 [.ref m, .int e, .int u] (rf_M D m A sc ar) (fun r M' => r = some (.int (-1)) ∧ M' = (rf_M D m A sc ar)) := by
  refine hm_ct_of (by decide +kernel) (by exact Nat.le_of_ble_eq_true rfl) ?_
  intro X C E
  have C : hm_C X l D BG prog_8_method_23_code "TurnedKeysModel" "take" 4 5 118 0 0 := C
  refine hm_lv (lv' := [(0, .ref m), (1, .int e), (2, .int u)]) rfl ?_
  refine hm_iload_n C nd_MO_take_0 rfl ?_
  refine hm_callS C (ct_MO_isEnd_out _ e he) nV_MO_isEnd nq_MO_115 nu_MO_isEnd rfl (rest := []) rfl (Nat.le_of_ble_eq_true rfl) (by decide) (by decide) (by omega) (by omega) nd_MO_take_1 (fun r M1 hp => ?_)
  obtain ⟨rfl, eM1⟩ := hp
  rw [eM1]
  refine hm_stk (st' := [.int 0]) rfl ?_
  refine hm_if_eq (tgt := 19) C nd_MO_take_4 (by decide) (fun c0 => ?_) (fun c0 => absurd rfl c0)
  refine hm_iconst (v := (-1)) C nd_MO_take_19 (by decide) ?_
  exact hm_iret C E (by omega) (by omega) (⟨rfl, rfl⟩) nd_MO_take_20
set_option maxHeartbeats 4000000 in
set_option maxRecDepth 100000 in
theorem ct_MO_take_w {l : Launch} {D : va_G} {BG : Nat → Option Cell} (m : Nat) (A : Nat → Nat) (hA : rf_ok A m) (sc : Nat → Int32) (ar : Nat → Nat → Int32) (n : Nat) (q : Nat → rq) (vl : Nat → Nat) (dr : Nat) (gv kn : Nat → Bool) (od : Bool) (Es : Nat → sp_E) (W : List sp_W) (G : Nat → Prop) (hI : mo_I sc ar n q vl dr gv kn od Es W G) (j : Nat) (hj : j < 2) (u : Int32) (hu : u < 0 ∨ nI W.length ≤ u) : hm_ct l D BG ny_MO_take prog_8_method_23_code 4 (some .int) 5 118 0 0 [.ref m, .int (nI j), .int u] (rf_M D m A sc ar) (fun r M' => r = some (.int (-1)) ∧ M' = (rf_M D m A sc ar)) := by
  refine hm_ct_of (by decide +kernel) (by exact Nat.le_of_ble_eq_true rfl) ?_
  intro X C E
  have C : hm_C X l D BG prog_8_method_23_code "TurnedKeysModel" "take" 4 5 118 0 0 := C
  refine hm_lv (lv' := [(0, .ref m), (1, .int (nI j)), (2, .int u)]) rfl ?_
  obtain ⟨b1, b2, b3, b4, b5, b6, b7, b8, b9, b10, b11, b12, b13⟩ := id hI
  refine hm_iload_n C nd_MO_take_0 rfl ?_
  refine hm_callS C (ct_MO_isEnd_in _ j hj) nV_MO_isEnd nq_MO_115 nu_MO_isEnd rfl (rest := []) rfl (Nat.le_of_ble_eq_true rfl) (by decide) (by decide) (by omega) (by omega) nd_MO_take_1 (fun r M1 hp => ?_)
  obtain ⟨rfl, eM1⟩ := hp
  rw [eM1]
  refine hm_stk (st' := [.int 1]) rfl ?_
  refine hm_if_eq (tgt := 19) C nd_MO_take_4 (by decide) (fun d0 => absurd d0 (by decide)) (fun d0 => ?_)
  refine hm_iload_n C nd_MO_take_7 rfl ?_
  refine hm_if_lt (tgt := 19) C nd_MO_take_8 (by decide) (fun d1 => ?_) (fun d1 => ?_)
  · refine hm_iconst (v := (-1)) C nd_MO_take_19 (by decide) ?_
    exact hm_iret C E (by omega) (by omega) (⟨rfl, rfl⟩) nd_MO_take_20
  · refine hm_iload_n C nd_MO_take_11 rfl ?_
    refine hm_aload_n C nd_MO_take_12 rfl ?_
    refine hm_get C nF_MO_128 rf_m rfl nd_MO_take_13 ?_
    refine hm_stk (st' := [.int (nI W.length), .int u]) (by rw [b5.2]) ?_
    refine hm_icmp_lt (tgt := 21) C nd_MO_take_16 (by decide) (fun d2 => absurd d2 (by rcases hu with h | h; exact absurd h d1; exact Int32.not_lt.mpr h)) (fun d2 => ?_)
    refine hm_iconst (v := (-1)) C nd_MO_take_19 (by decide) ?_
    exact hm_iret C E (by omega) (by omega) (⟨rfl, rfl⟩) nd_MO_take_20
set_option maxHeartbeats 4000000 in
set_option maxRecDepth 100000 in
theorem ct_MO_take_go {l : Launch} {D : va_G} {BG : Nat → Option Cell} (m : Nat) (A : Nat → Nat) (hA : rf_ok A m) (sc : Nat → Int32) (ar : Nat → Nat → Int32) (n : Nat) (q : Nat → rq) (vl : Nat → Nat) (dr : Nat) (gv kn : Nat → Bool) (od : Bool) (Es : Nat → sp_E) (W : List sp_W) (G : Nat → Prop) (hI : mo_I sc ar n q vl dr gv kn od Es W G) (hwl : W.length ≤ 520) (hn : n + 26 < 20000) (j v : Nat) (hj : j < 2) (s0 ix bw k ky le : Nat) (hwg : W[v]? = some (s0, ix, bw, k, ky, le)) (hs : ¬ s0 = j) (hs2 : s0 < 2) (ro mi th sd st bf rc nx : Nat) (lf : List (Nat × Nat × Nat)) (he : Es j = (ro, mi, th, sd, st, bf, rc, nx, lf)) (hmi0 : ∃ d, mi = sm_t 0 d 0) (hix : ix < 2 ^ 28) (hbw : bw < 2 ^ 28) (hnx : nx < 2 ^ 28) (hlb : ∀ (i : Nat) (z : Nat × Nat × Nat), lf[i]? = some z → z.2.1 < 2 ^ 28) (hkz : ∀ (key : Nat) (E9 : kf_E), (kf k ix bw mi (ro, th, sd, rc, nx, lf)).2 = some (key, E9) → key ≠ 0) : hm_ct l D BG ny_MO_take prog_8_method_23_code 4 (some .int) 5 118 0 0 [.ref m, .int (nI j), .int (nI v)] (rf_M D m A sc ar) (fun r M' => r = some (.int (sp_tk (Es j) (s0, ix, bw, k, ky, le)).2.1) ∧ ∃ sc' ar' n' q' vl', n' ≤ n + 25 ∧ M' = rf_M D m A sc' ar' ∧ mo_I sc' ar' n' q' vl' dr gv kn od (fun i => if i = j then (sp_tk (Es j) (s0, ix, bw, k, ky, le)).2.2 else Es i) W G) := by
  refine hm_ct_of (by decide +kernel) (by exact Nat.le_of_ble_eq_true rfl) ?_
  intro X C E
  have C : hm_C X l D BG prog_8_method_23_code "TurnedKeysModel" "take" 4 5 118 0 0 := C
  refine hm_lv (lv' := [(0, .ref m), (1, .int (nI j)), (2, .int (nI v))]) rfl ?_
  obtain ⟨b1, b2, b3, b4, b5, b6, b7, b8, b9, b10, b11, b12, b13⟩ := id hI
  obtain ⟨c1, c2, c3, c4, t, c5, c6, c7, c8, c9, c10⟩ := b9 v _ hwg
  dsimp only at c1 c2 c3 c4 c9
  have hv : v < W.length := (List.getElem?_eq_some_iff.mp hwg).1
  refine hm_iload_n C nd_MO_take_0 rfl ?_
  refine hm_callS C (ct_MO_isEnd_in _ j hj) nV_MO_isEnd nq_MO_115 nu_MO_isEnd rfl (rest := []) rfl (Nat.le_of_ble_eq_true rfl) (by decide) (by decide) (by omega) (by omega) nd_MO_take_1 (fun r M1 hp => ?_)
  obtain ⟨rfl, eM1⟩ := hp
  rw [eM1]
  refine hm_stk (st' := [.int 1]) rfl ?_
  refine hm_if_eq (tgt := 19) C nd_MO_take_4 (by decide) (fun d0 => absurd d0 (by decide)) (fun d0 => ?_)
  refine hm_iload_n C nd_MO_take_7 rfl ?_
  refine hm_if_lt (tgt := 19) C nd_MO_take_8 (by decide) (fun d1 => absurd d1 (nI_pos (by omega))) (fun d1 => ?_)
  refine hm_iload_n C nd_MO_take_11 rfl ?_
  refine hm_aload_n C nd_MO_take_12 rfl ?_
  refine hm_get C nF_MO_128 rf_m rfl nd_MO_take_13 ?_
  refine hm_stk (st' := [.int (nI W.length), .int (nI v)]) (by rw [b5.2]) ?_
  refine hm_icmp_lt (tgt := 21) C nd_MO_take_16 (by decide) (fun d2 => ?_) (fun d2 => absurd (nI_lt hv (by omega)) d2)
  refine hm_aload_n C nd_MO_take_21 rfl ?_
  refine hm_get C nF_MO_48 rf_m rfl nd_MO_take_22 ?_
  refine hm_iload_n C nd_MO_take_25 rfl ?_
  refine hm_iald (t := 3) (N := 520) (j := v) (f := (ar 9)) C rfl (rf_at hA (i := 9) (by decide)) rfl (by omega) (by decide) nd_MO_take_26 ?_
  refine hm_stk (st' := [.int (nI s0)]) (by rw [c3]) ?_
  refine hm_iload_n C nd_MO_take_27 rfl ?_
  refine hm_icmp_ne (tgt := 34) C nd_MO_take_28 (by decide) (fun d3 => ?_) (fun d3 => (hs ((nI_eq (by omega) (by omega)).mp d3)).elim)
  refine hm_aload_n C nd_MO_take_34 rfl ?_
  refine hm_iload_n C nd_MO_take_35 rfl ?_
  refine hm_callV C (ct_MO_load m A hA sc ar j hj) nV_MO_load [.int (nI j)] rfl rf_m rfl nq_MO_118 nj_MO_load nx_MO_load rfl (rest := []) rfl (Nat.le_of_ble_eq_true rfl) (by decide) (by decide) (by omega) (by omega) nd_MO_take_36 (fun r M2 hp => ?_)
  obtain ⟨rfl, ar1, rfl, hs1, hl1⟩ := hp
  refine hm_stk (st' := []) rfl ?_
  have hI1 : mo_I sc ar1 n q vl dr gv kn od Es W G := hI.ha (fun _ _ => rfl) hs1
  have hr : re n q vl (ar1 15) (Es j) := (b7 j hj).cg (fun k hk => hl1 k hk)
  obtain ⟨d, hmi⟩ := hmi0
  rw [he] at hr
  obtain ⟨tk, ek, k1, k2, k3, k4, k5, k6⟩ := rid_p b1.2.1 c4
  have k7 : vl tk = sm_t 1 k 0 := by have h9 := ((b1.2.1.2.2.1 tk k1 k2).2.2.2.1 k3).2.2.2; rw [h9, k6]
  have pk : rpub n q vl k := Or.inr ⟨tk, k1, k2, k3, k7⟩
  have pm : rpub n q vl mi := by have h9 := b12 j (by omega); rw [he] at h9; exact h9
  have hdd := rv_hd b1.2.1 c6 c7 c8
  have kk5 := (b1.2.1.2.2.1 t c6 c7).2.2.2.2.2.2.1 c8
  have e9 := sm_t_inj (kk5.2.2.2.2.2.2.2.2.symm.trans c9)
  have hn2 := b1.1.2.2.1
  refine hm_aload_n C nd_MO_take_39 rfl ?_
  refine hm_aload_n C nd_MO_take_40 rfl ?_
  refine hm_get C nF_MO_51 rf_m rfl nd_MO_take_41 ?_
  refine hm_iload_n C nd_MO_take_44 rfl ?_
  refine hm_iald (t := 3) (N := 520) (j := v) (f := (ar1 10)) C rfl (rf_at hA (i := 10) (by decide)) rfl (by omega) (by decide) nd_MO_take_45 ?_
  refine hm_stk (st' := [.int (nI tk), .ref m]) (by rw [hs1 10 (by decide), ek]) ?_
  refine hm_aload_n C nd_MO_take_46 rfl ?_
  refine hm_get C nF_MO_42 rf_m rfl nd_MO_take_47 ?_
  refine hm_iload_n C nd_MO_take_50 rfl ?_
  refine hm_iald (t := 3) (N := 520) (j := v) (f := (ar1 7)) C rfl (rf_at hA (i := 7) (by decide)) rfl (by omega) (by decide) nd_MO_take_51 ?_
  refine hm_stk (st' := [.int (nI ix), .int (nI tk), .ref m]) (by rw [hs1 7 (by decide), c1]) ?_
  refine hm_aload_n C nd_MO_take_52 rfl ?_
  refine hm_get C nF_MO_45 rf_m rfl nd_MO_take_53 ?_
  refine hm_iload_n C nd_MO_take_56 rfl ?_
  refine hm_iald (t := 3) (N := 520) (j := v) (f := (ar1 8)) C rfl (rf_at hA (i := 8) (by decide)) rfl (by omega) (by decide) nd_MO_take_57 ?_
  refine hm_stk (st' := [.int (nI bw), .int (nI ix), .int (nI tk), .ref m]) (by rw [hs1 8 (by decide), c2]) ?_
  refine hm_callV C (ct_MO_keyFor m A hA sc ar1 n q vl dr hI1.1 hn ro mi th sd st bf rc nx lf hr tk ix bw k d k1 k2 k3 k4 k5 k6 k7 hmi hix hbw hnx hlb) nV_MO_keyFor [.int (nI tk), .int (nI ix), .int (nI bw)] rfl rf_m rfl nq_MO_146 nj_MO_keyFor nx_MO_keyFor rfl (rest := []) rfl (Nat.le_of_ble_eq_true rfl) (by decide) (by decide) (by omega) (by omega) nd_MO_take_58 (fun r M3 hp => ?_)
  obtain ⟨sc2, ar2, n2, q2, vl2, rfl, hp2, hy2, hres⟩ := hp
  have hI2 : mo_I sc2 ar2 n2 q2 vl2 dr gv kn od Es W G := hI1.ry hp2 hy2 pm pk
  have hn9 := hy2.2.1
  rcases hres with ⟨o1, rfl⟩ | ⟨x, key, ro', th', sd', rc', nx', lf', o1, rfl, o3, o4⟩
  · refine hm_stk (st' := [.int 0]) rfl ?_
    refine hm_istore_n C [(3, .int 0), (0, .ref m), (1, .int (nI j)), (2, .int (nI v))] nd_MO_take_61 (by decide) rfl ?_
    refine hm_iload_n C nd_MO_take_62 rfl ?_
    refine hm_if_ne (tgt := 69) C nd_MO_take_63 (by decide) (fun d4 => absurd rfl d4) (fun d4 => ?_)
    refine hm_bipush (v := (-13)) C nd_MO_take_66 (by decide) ?_
    exact hm_iret C E (by omega) (by omega) (⟨by rw [he, sp_tk1 o1], sc2, ar2, n2, q2, vl2, by omega, rfl, by rw [he, sp_tk1 o1, if_id he]; exact hI2⟩) nd_MO_take_68
  · have kz : key ≠ 0 := hkz _ _ o1
    refine hm_stk (st' := [.int x]) rfl ?_
    refine hm_istore_n C [(3, .int x), (0, .ref m), (1, .int (nI j)), (2, .int (nI v))] nd_MO_take_61 (by decide) rfl ?_
    refine hm_iload_n C nd_MO_take_62 rfl ?_
    refine hm_if_ne (tgt := 69) C nd_MO_take_63 (by decide) (fun d4 => ?_) (fun d4 => (kz ((hp2.z o3).mp d4)).elim)
    have g2 := hy2.1.2 t c7
    have gone : ar2 1 t = nI (q t).2.1 := by rw [(hp2.1.2.2.2.1 t c6 (Nat.lt_of_lt_of_le c7 hy2.1.1)).2.1, g2.1]
    have ik : rid n2 q2 vl2 (nI (q t).2.1) ky := rid.go ⟨_, rfl, by omega, by omega, e9.2.1⟩ hy2.1
    refine hm_iload_n C nd_MO_take_69 rfl ?_
    refine hm_aload_n C nd_MO_take_70 rfl ?_
    refine hm_get C nF_MO_17 rf_m rfl nd_MO_take_71 ?_
    refine hm_aload_n C nd_MO_take_74 rfl ?_
    refine hm_get C nF_MO_54 rf_m rfl nd_MO_take_75 ?_
    refine hm_iload_n C nd_MO_take_78 rfl ?_
    refine hm_iald (t := 3) (N := 520) (j := v) (f := (ar2 11)) C rfl (rf_at hA (i := 11) (by decide)) rfl (by omega) (by decide) nd_MO_take_79 ?_
    refine hm_stk (st' := [.int (nI t), .ref (A 1), .int x]) (by rw [hy2.2.2.2.1 11 (by decide) (by decide) (by decide), hs1 11 (by decide), c5]) ?_
    refine hm_iald (t := 3) (N := 20000) (j := t) (f := (ar2 1)) C rfl (rf_at hA (i := 1) (by decide)) rfl (by omega) (by decide) nd_MO_take_80 ?_
    refine hm_stk (st' := [.int (nI (q t).2.1), .int x]) (by rw [gone]) ?_
    refine hm_icmp_eq (tgt := 87) C nd_MO_take_81 (by decide) (fun d5 => ?_) (fun d5 => ?_)
    · have kq : key = ky := (hp2.eq o3 ik).mp d5
      refine hm_aload_n C nd_MO_take_87 rfl ?_
      refine hm_iload_n C nd_MO_take_88 rfl ?_
      refine hm_callV C (ct_MO_store m A hA sc2 ar2 j hj) nV_MO_store [.int (nI j)] rfl rf_m rfl nq_MO_134 nj_MO_store nx_MO_store rfl (rest := []) rfl (Nat.le_of_ble_eq_true rfl) (by decide) (by decide) (by omega) (by omega) nd_MO_take_89 (fun r M4 hp => ?_)
      obtain ⟨rfl, ar3, rfl, hs3, hl3, ho3⟩ := hp
      refine hm_stk (st' := []) rfl ?_
      refine hm_iconst (v := 1) C nd_MO_take_92 (by decide) ?_
      exact hm_iret C E (by omega) (by omega) (⟨by rw [he, sp_tk2 o1 kq], sc2, ar3, n2, q2, vl2, by omega, rfl, by rw [he, sp_tk2 o1 kq]; exact hI2.st hj hs3 (o4.cg (fun k hk => hl3 k hk)) ho3 (pm.go hy2.1)⟩) nd_MO_take_93
    · have kq : ¬ key = ky := fun z => d5 ((hp2.eq o3 ik).mpr z)
      refine hm_bipush (v := (-14)) C nd_MO_take_84 (by decide) ?_
      exact hm_iret C E (by omega) (by omega) (⟨by rw [he, sp_tk3 o1 kq], sc2, ar2, n2, q2, vl2, by omega, rfl, by rw [he, sp_tk3 o1 kq, if_id he]; exact hI2⟩) nd_MO_take_86
