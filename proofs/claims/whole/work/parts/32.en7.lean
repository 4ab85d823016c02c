theorem hm_ar_inj {D : va_G} {t N : Nat} {f g : Nat → Option Nat} (h : (some (hm_ar D t N f) : Option va_E) = some (hm_ar D t N g)) : f = g := by
  have h1 := Sum.inl.inj (Option.some.inj h)
  have h2 := congrArg (fun p : ClassId × vp_A => p.2.2) h1
  exact Sum.inr.inj (Sum.inr.inj (Sum.inr.inj (Sum.inr.inj h2)))
theorem en_R.new {D : va_G} {M : hm_M} {F : Nat → Prop} {T : Nat → Nat → Nat → Prop} {a lk bs ro mi th sc st bf rc nx z : Nat} {lf : List (Nat × Nat × Nat)} {e : va_E} (h : en_R D M F T a lk bs ro mi th sc st bf rc nx lf) (hz : M z = none) : en_R D (hm_up M z e) F T a lk bs ro mi th sc st bf rc nx lf := by
  obtain ⟨b1, b2, b3, b4, b5, b6, f, h0, h1, h2, h3, h4, h5, h6, h7⟩ := h
  exact ⟨b1, b2, b3, b4, b5, b6, f, h0.put (hm_neF h0.1 hz), h1, h2, h3, h4, h5, h6, h7.new hz⟩
theorem sk_v_len : ∀ (d rc : Nat), (sk_v rc d).length = 2 * d
  | 0, _ => rfl
  | d + 1, rc => by
    show (sk_v (sm_t 7 rc 0) d).length + 1 + 1 = _
    rw [sk_v_len d]
    omega
/-- a LEFT key's own cell is written: it isn't one of those that are left -/
theorem en_L.wrN {D : va_G} {M : hm_M} {F : Nat → Prop} {T : Nat → Nat → Nat → Prop} {lk z : Nat} {f : Nat → Option Nat} {lf : List (Nat × Nat × Nat)} {vs : List Value} {e : va_E} (h : en_L D M F T lk f lf) (hz : M z = some (hm_ob 4 vs)) (hn : ∀ i b, f i = some b → b ≠ z) : en_L D (hm_up M z e) F T lk f lf := by
  obtain ⟨h1, h2, h3, h4⟩ := h
  refine ⟨h1.put (Ne.symm (hm_neA hz h1.1)), h2, fun i q hq => ?_, h4⟩
  obtain ⟨h5, b, pk, ky, e1, e2, e3, e4⟩ := h3 i q hq
  exact ⟨h5, b, pk, ky, e1, e2.put (hn i b e1), e3, e4⟩
set_option maxHeartbeats 4000000 in
set_option maxRecDepth 100000 in
theorem ct_EN_skipsTo_no {l : Launch} {D : va_G} {BG : Nat → Option Cell} (M : hm_M) (tm : Nat) (F : Nat → Prop) (T : Nat → Nat → Nat → Prop) (G : Nat → Prop) (dr n c se : Nat) (hS : ts_S D M tm F T G dr n c se) (hcn : c ≤ 2 * n + 10) (hn : n ≤ 19700) (a lk bs ro mi th sc st bf rc nx : Nat) (lf : List (Nat × Nat × Nat)) (hR : en_R D M F T a lk bs ro mi th sc st bf rc nx lf) (ix : Nat) (hix : ix < 2 ^ 29) (hnx : nx < 2 ^ 29) (hno : nx + 5 < ix) : hm_ct l D BG ny_EN_skipsTo prog_2_method_8_code 4 (some .boolean) 10 243 0 0 [.ref a, .int (nI ix), .ref tm] M (fun r M' => r = some (.int 0) ∧ M' = M) := by
  refine hm_ct_of (by decide +kernel) (by exact Nat.le_of_ble_eq_true rfl) ?_
  intro X C E
  have C : hm_C X l D BG prog_2_method_8_code "TurnedKeys$End" "skipsTo" 4 10 243 0 0 := C
  refine hm_lv (lv' := [(0, .ref a), (1, .int (nI ix)), (2, .ref tm)]) rfl ?_
  obtain ⟨bs', ro', mi', th', sc', rc', f, hA, o1, o2, o3, o4, o5, o6, hL⟩ := hR
  obtain ⟨la0, ht0, -⟩ := ts_tm hS
  refine hm_iload_n C nd_EN_skipsTo_0 rfl ?_
  refine hm_aload_n C nd_EN_skipsTo_1 rfl ?_
  refine hm_get C nF_EN_50 hA.1 rfl nd_EN_skipsTo_2 ?_
  refine hm_isub C nd_EN_skipsTo_5 ?_
  refine hm_iconst (v := 5) C nd_EN_skipsTo_6 (by decide) ?_
  refine hm_icmp_le (tgt := 12) C nd_EN_skipsTo_7 (by decide) (fun cc => absurd cc (by rw [Int32.le_iff_toInt_le, pk_sub_toInt (by omega) (by omega)]; simp; omega)) (fun cc => ?_)
  refine hm_iconst (v := 0) C nd_EN_skipsTo_10 (by decide) ?_
  exact hm_zret C E (by first | exact Or.inl rfl | exact Or.inr rfl) (by omega) (by omega) (⟨rfl, rfl⟩) nd_EN_skipsTo_11
set_option maxHeartbeats 4000000 in
set_option maxRecDepth 100000 in
theorem ct_EN_skipsTo {l : Launch} {D : va_G} {BG : Nat → Option Cell} (M : hm_M) (tm : Nat) (F : Nat → Prop) (T : Nat → Nat → Nat → Prop) (G : Nat → Prop) (dr n c se : Nat) (hS : ts_S D M tm F T G dr n c se) (hcn : c ≤ 2 * n + 10) (hn : n ≤ 19700) (a lk bs ro mi th sc st bf rc nx : Nat) (lf : List (Nat × Nat × Nat)) (hR : en_R D M F T a lk bs ro mi th sc st bf rc nx lf) (d0 : Nat) (hd5 : d0 ≤ 5) (hnx : nx + d0 < 2 ^ 29) (hrc : rc ≠ 0) : hm_ct l D BG ny_EN_skipsTo prog_2_method_8_code 4 (some .boolean) 10 243 (d0 + ts_kc (ts_k T) n c (sk_v rc d0)) (3 * d0 + ts_ks (ts_k T) n c (sk_v rc d0)) [.ref a, .int (nI (nx + d0)), .ref tm] M (fun r M' => ∃ F' T', r = some (.int 1) ∧ en_P D tm M F T G n c se dr (sk_v rc d0) a lk M' F' T' ∧ en_R D M' F' T' a lk bs ro mi th sc st bf (sk_r rc d0) (nx + d0) (sk_f th rc nx lf d0)) := by
  refine hm_ct_of (by decide +kernel) (by exact Nat.le_of_ble_eq_true rfl) ?_
  intro X C E
  have C : hm_C X l D BG prog_2_method_8_code "TurnedKeys$End" "skipsTo" 4 10 243 (d0 + ts_kc (ts_k T) n c (sk_v rc d0)) (3 * d0 + ts_ks (ts_k T) n c (sk_v rc d0)) := C
  have hlen := sk_v_len d0 rc
  have loop : ∀ (d i : Nat) (Mi : hm_M) (Fi : Nat → Prop) (Ti : Nat → Nat → Nat → Prop) (ws : List Nat) (rci : Nat) (lfi : List (Nat × Nat × Nat)), nx + d0 = i + d → nx ≤ i → ws ++ sk_v rci d = sk_v rc d0 → sk_r rci d = sk_r rc d0 → sk_f th rci i lfi d = sk_f th rc nx lf d0 → rci ≠ 0 → en_P D tm M F T G n c se dr ws a lk Mi Fi Ti → en_R D Mi Fi Ti a lk bs ro mi th sc st bf rci i lfi → hm_W X Mi (d0 - d + ts_kc (ts_k T) n c ws) (3 * (d0 - d) + ts_ks (ts_k T) n c ws) 17 [(3, .int (nI i)), (0, .ref a), (1, .int (nI (nx + d0))), (2, .ref tm)] [] := by
    intro d
    induction d with
    | zero =>
        intro i Mi Fi Ti ws rci lfi hi hni hws hr hf hrc hE hR
        have ew : ws = sk_v rc d0 := by rw [← hws]; exact (List.append_nil ws).symm
        subst ew
        have er : rci = sk_r rc d0 := hr
        have ef : lfi = sk_f th rc nx lf d0 := hf
        subst er ef
        have ei : i = nx + d0 := by omega
        subst ei
        refine hm_iload_n C nd_EN_skipsTo_17 rfl ?_
        refine hm_iload_n C nd_EN_skipsTo_18 rfl ?_
        refine hm_icmp_ge (tgt := 49) C nd_EN_skipsTo_19 (by decide) (fun cc => ?_) (fun cc => absurd (nI_le (Nat.le_refl _) (by omega)) cc)
        refine hm_iconst (v := 1) C nd_EN_skipsTo_49 (by decide) ?_
        exact hm_zret C E (by first | exact Or.inl rfl | exact Or.inr rfl) (by omega) (by omega) (⟨Fi, Ti, rfl, hE, hR⟩) nd_EN_skipsTo_50
    | succ d ih =>
        intro i Mi Fi Ti ws rci lfi hi hni hws hr hf hrc hE hR
        have hwl : ws.length + 2 * (d + 1) = 2 * d0 := by
          have h := congrArg List.length hws
          rw [List.length_append, sk_v_len, hlen] at h
          exact h
        have hbi := hE.bd hcn
        have rm := hE.room [sm_t 6 rci 0, sm_t 7 rci 0]
        have hws2 : (ws ++ [sm_t 6 rci 0, sm_t 7 rci 0]) ++ sk_v (sm_t 7 rci 0) d = sk_v rc d0 := by rw [List.append_assoc]; exact hws
        have rl := ts_kle (ws ++ [sm_t 6 rci 0, sm_t 7 rci 0]) (sk_v (sm_t 7 rci 0) d) (ts_k T) n c
        rw [hws2] at rl
        obtain ⟨bs', ro', mi', th', sc', rc', f, hA, o1, o2, o3, o4, o5, o6, hL⟩ := id hR
        have hA1 := hA.1
        refine hm_iload_n C nd_EN_skipsTo_17 rfl ?_
        refine hm_iload_n C nd_EN_skipsTo_18 rfl ?_
        refine hm_icmp_ge (tgt := 49) C nd_EN_skipsTo_19 (by decide) (fun cc => absurd cc (nI_ge (by omega) (by omega))) (fun cc => ?_)
        refine hm_aload_n C nd_EN_skipsTo_22 rfl ?_
        refine hm_newN C 3 nB_EN_9 rfl (by omega) (by omega) nd_EN_skipsTo_23 (fun z hz => ?_)
        generalize hM1 : hm_up Mi z (hm_ob 4 [.null, .int 0, .null]) = M1
        have hfz := hE.fr hz
        have hE1 : en_P D tm M F T G n c se dr ws a lk M1 Fi Ti := by rw [← hM1]; exact hE.new hz
        have hR1 : en_R D M1 Fi Ti a lk bs ro mi th sc st bf rci i lfi := by rw [← hM1]; exact hR.new hz
        have hzn : ∀ y b, f y = some b → b ≠ z := by
          intro y b hy e
          have hyl : y < lfi.length := by
            rcases Nat.lt_or_ge y lfi.length with h | h
            · exact h
            · rw [hL.2.2.2 y h] at hy; cases hy
          obtain ⟨-, b2, pk2, ky2, e1, e2, -⟩ := hL.2.2.1 y lfi[y] (List.getElem?_eq_getElem hyl)
          rw [hy] at e1
          cases e1
          have e9 := e2.1
          rw [e, hz] at e9
          cases e9
        have hzF : ¬ Fi z := fun q => ts_S_some hE.1 q hz
        have hza : z ≠ a := Ne.symm (hm_neF hA.1 hz)
        have hzl : z ≠ lk := Ne.symm (hm_neF hL.1.1 hz)
        have hW1 : hm_ow M1 (en_F Fi a lk) z (hm_ob 4 [.null, .int 0, .null]) := ⟨by rw [← hM1]; exact hm_up_s _ _ _, fun q => by
          rcases q with q | q | q
          · exact hzF q
          · exact hza q
          · exact hzl q⟩
        have hl1 : M1 lk = some (hm_ar D 2 8 f) := by rw [← hM1, hm_up_n _ _ (Ne.symm hzl)]; exact hL.1.1
        have hA2 : M1 a = some (hm_ob 3 [va_rf bs', va_rf ro', va_rf mi', va_rf th', va_rf sc', .int (nI st), .int (nI bf), va_rf rc', .int (nI i), .ref lk, .int (nI lfi.length)]) := by rw [← hM1, hm_up_n _ _ (Ne.symm hza)]; exact hA1
        obtain ⟨la1, ht1, -⟩ := ts_tm hE1.1
        refine hm_dup C nd_EN_skipsTo_26 rfl ?_
        refine hm_aload_n C nd_EN_skipsTo_27 rfl ?_
        refine hm_get C nF_EN_34 hA2 rfl nd_EN_skipsTo_28 ?_
        refine hm_iload_n C nd_EN_skipsTo_31 rfl ?_
        refine hm_aload_n C nd_EN_skipsTo_32 rfl ?_
        refine hm_aload_n C nd_EN_skipsTo_33 rfl ?_
        refine hm_callV C (ct_EN_steppedKey M1 tm Fi Ti G dr _ _ se hE1.1 hbi.1 (by omega) a lk bs ro mi th sc st bf rci i lfi hR1 hrc) nV_EN_steppedKey [.ref tm] rfl hA2 rfl nq_EN_98 nj_EN_steppedKey nx_EN_steppedKey rfl (rest := [.int (nI i), va_rf th', .ref z, .ref z, .ref a]) rfl (by simp [hm_cat, hm_catI, hm_catR, hm_catN] <;> decide) (by decide) (by decide) (by omega) (by omega) nd_EN_skipsTo_34 (fun r M2 hp => ?_)
        obtain ⟨q, F2, T2, iq, rfl, hP2, hq2, hlk2, hR2⟩ := hp
        have hE2 := hE1.tr hP2
        have hW2 := hW1.step hP2.2.1
        have hW2F : ¬ F2 z := fun h => hW2.2 (Or.inl h)
        obtain ⟨bs2, ro2, mi2, th2, sc2, rc2, f2, hA3, p1, p2, p3, p4, p5, p6, hL2⟩ := hR2
        have hff : f2 = f := hm_ar_inj (by rw [← hL2.1.1, hlk2, hl1])
        subst hff
        have o4' := o4.mono hP2.2.2.1
        refine hm_stk (st' := [.ref q, .int (nI i), va_rf th', .ref z, .ref z, .ref a]) rfl ?_
        refine hm_stk (st' := [va_rf (some q), .int (nI i), va_rf th', .ref z, .ref z, .ref a]) rfl ?_
        refine hm_callI C (ct_LK_init M2 z th' (nI i) (some q) hW2.1) nV_LK_init rfl nq_EN_102 nj_LK_init [va_rf th', .int (nI i), va_rf (some q)] rfl rfl (rest := [.ref z, .ref a]) rfl (Nat.le_of_ble_eq_true rfl) (by decide) (by decide) (by omega) (by omega) nd_EN_skipsTo_37 (fun r M3 hp => ?_)
        obtain ⟨rfl, e3⟩ := hp
        rw [e3]
        refine hm_stk (st' := [.ref z, .ref a]) rfl ?_
        clear e3
        generalize hM3 : hm_up M2 z (hm_ob 4 [va_rf th', .int (nI i), va_rf (some q)]) = M3
        have hE3 : en_P D tm M F T G n c se dr (ws ++ [sm_t 6 rci 0, sm_t 7 rci 0]) a lk M3 F2 T2 := by rw [← hM3]; exact hE2.wr hfz hW2F
        have hL3 : en_L D M3 F2 T2 lk f2 lfi := by rw [← hM3]; exact hL2.wrN hW2.1 hzn
        have hA4 : hm_ow M3 F2 a (hm_ob 3 [va_rf bs2, va_rf ro2, va_rf mi2, va_rf th2, va_rf sc2, .int (nI st), .int (nI bf), va_rf rc2, .int (nI (i + 1)), .ref lk, .int (nI lfi.length)]) := by rw [← hM3]; exact hA3.put (Ne.symm hza)
        have hW3 : hm_ow M3 F2 z (hm_ob 4 [va_rf th', .int (nI i), va_rf (some q)]) := ⟨by rw [← hM3]; exact hm_up_s _ _ _, hW2F⟩
        have hA5 := hA4.1
        refine hm_callV C (ct_EN_leave M3 a lk bs2 ro2 mi2 th2 sc2 (nI st) (nI bf) rc2 (nI (i + 1)) lfi.length f2 hA5 hL3.1.1 hL3.2.1 (fun y hy => (by obtain ⟨-, b, pk, ky, e1, e2, -⟩ := hL3.2.2.1 y lfi[y] (List.getElem?_eq_getElem hy); exact ⟨b, _, e1, e2.1⟩)) hL3.2.2.2 z _ hW3.1) nV_EN_leave [.ref z] rfl hA5 rfl nq_EN_105 nj_EN_leave nx_EN_leave rfl (rest := []) rfl (Nat.le_of_ble_eq_true rfl) (by decide) (by decide) (by omega) (by omega) nd_EN_skipsTo_40 (fun r M4 hp => ?_)
        obtain ⟨rfl, e4⟩ := hp
        have hal : a ≠ lk := hm_neA hA5 hL3.1.1
        have hE4 : en_P D tm M F T G n c se dr (ws ++ [sm_t 6 rci 0, sm_t 7 rci 0]) a lk M4 F2 T2 := by rw [e4]; exact (hE3.put (Or.inr rfl) hL3.1.2).put (Or.inl rfl) hA4.2
        have hL4 := en_L.ad (M' := M4) (q := (th, i, sm_t 6 rci 0)) hL3 (show i < 2 ^ 30 by omega) hW3 o4' (Or.inr ⟨q, iq, rfl, hq2⟩) (by rw [e4, hm_up_n _ _ (Ne.symm hal)]; exact hm_up_s _ _ _) (fun y vs hy => by rw [e4, hm_up_n _ _ (hm_ne hy hA5 (by decide)), hm_up_n _ _ (hm_neA hy hL3.1.1)])
        have hR4 : en_R D M4 F2 T2 a lk bs ro mi th sc st bf (sm_t 7 rci 0) (i + 1) (lv_ad lfi (th, i, sm_t 6 rci 0)) := ⟨bs2, ro2, mi2, th2, sc2, rc2, _, ⟨by rw [e4, hm_up_s, lv_ad_len _ _ hL3.2.1], hA4.2⟩, p1, p2, p3, p4, p5, p6, hL4⟩
        refine hm_stk (st' := []) rfl ?_
        refine hm_iinc (x := (nI i)) (v := ((nI i) + 1)) C [(3, .int ((nI i) + 1)), (0, .ref a), (1, .int (nI (nx + d0))), (2, .ref tm)] nd_EN_skipsTo_43 rfl rfl (by decide) rfl ?_
        refine hm_goto (tgt := 17) C nd_EN_skipsTo_46 (by decide) ?_
        rw [nI_1]
        refine hm_widen (k' := d0 - d + ts_kc (ts_k T) n c (ws ++ [sm_t 6 rci 0, sm_t 7 rci 0])) (n' := 3 * (d0 - d) + ts_ks (ts_k T) n c (ws ++ [sm_t 6 rci 0, sm_t 7 rci 0])) (by omega) (by omega) ?_
        exact ih (i + 1) M4 F2 T2 _ (sm_t 7 rci 0) _ (by omega) (by omega) hws2 hr hf (sm_t_ne _ _ _) hE4 hR4
  refine hm_lv (lv' := [(0, .ref a), (1, .int (nI (nx + d0))), (2, .ref tm)]) rfl ?_
  obtain ⟨bs', ro', mi', th', sc', rc', f, hA, o1, o2, o3, o4, o5, o6, hL⟩ := id hR
  obtain ⟨la0, ht0, -⟩ := ts_tm hS
  refine hm_iload_n C nd_EN_skipsTo_0 rfl ?_
  refine hm_aload_n C nd_EN_skipsTo_1 rfl ?_
  refine hm_get C nF_EN_50 hA.1 rfl nd_EN_skipsTo_2 ?_
  refine hm_isub C nd_EN_skipsTo_5 ?_
  refine hm_iconst (v := 5) C nd_EN_skipsTo_6 (by decide) ?_
  refine hm_icmp_le (tgt := 12) C nd_EN_skipsTo_7 (by decide) (fun cc => ?_) (fun cc => absurd (by rw [Int32.le_iff_toInt_le, pk_sub_toInt (by omega) (by omega)]; simp; omega) cc)
  refine hm_aload_n C nd_EN_skipsTo_12 rfl ?_
  refine hm_get C nF_EN_50 hA.1 rfl nd_EN_skipsTo_13 ?_
  refine hm_istore_n C [(3, .int (nI nx)), (0, .ref a), (1, .int (nI (nx + d0))), (2, .ref tm)] nd_EN_skipsTo_16 (by decide) rfl ?_
  have kz := ts_kz (ts_k T) n c
  refine hm_widen (k' := d0 - d0 + ts_kc (ts_k T) n c []) (n' := 3 * (d0 - d0) + ts_ks (ts_k T) n c []) (by omega) (by omega) ?_
  exact loop d0 nx M F T [] rc lf rfl (Nat.le_refl _) rfl rfl rfl hrc (en_P.rf hS) hR
