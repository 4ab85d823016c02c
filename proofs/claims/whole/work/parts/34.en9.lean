set_option maxHeartbeats 4000000 in
set_option maxRecDepth 100000 in
theorem ct_EN_keyFor {l : Launch} {D : va_G} {BG : Nat → Option Cell} (M : hm_M) (tm : Nat) (F : Nat → Prop) (T : Nat → Nat → Nat → Prop) (G : Nat → Prop) (dr n c se : Nat) (hS : ts_S D M tm F T G dr n c se) (hcn : c ≤ 2 * n + 10) (hn : n ≤ 19600) (a lk bs ro mi th sc st bf rc nx : Nat) (lf : List (Nat × Nat × Nat)) (hR : en_R D M F T a lk bs ro mi th sc st bf rc nx lf) (w s0 p ip k e ix bw d : Nat) (ky le : Option Nat) (hw : hm_ow M F w (hm_ob 5 [.int (nI s0), .int (nI ix), .int (nI bw), va_rf (some p), va_rf ky, va_rf le])) (hTp : T p ip (sm_t 1 k 0)) (hk : k = sm_t 0 e 0) (hmi : mi = sm_t 0 d 0) (hix : ix < 2 ^ 28) (hbw : bw < 2 ^ 28) (hnx : nx < 2 ^ 28) (hlz : ∀ (i : Nat) (q : Nat × Nat × Nat), lf[i]? = some q → q.2.2 ≠ 0) : hm_ct l D BG ny_EN_keyFor prog_2_method_6_code 4 (some (.object "TurnedKeys$Term")) 11 267 (10 + ts_kc (ts_k T) n c (kf k ix bw mi (ro, th, sc, rc, nx, lf)).1) (30 + ts_ks (ts_k T) n c (kf k ix bw mi (ro, th, sc, rc, nx, lf)).1) [.ref a, .ref w, .ref tm] M (fun r M' => ∃ F' T', en_P D tm M F T G n c se dr (kf k ix bw mi (ro, th, sc, rc, nx, lf)).1 a lk M' F' T' ∧ kf_p D M' F' T' a lk bs mi st bf r (kf k ix bw mi (ro, th, sc, rc, nx, lf)).2) := by
  refine hm_ct_of (by decide +kernel) (by exact Nat.le_of_ble_eq_true rfl) ?_
  intro X C E
  have C : hm_C X l D BG prog_2_method_6_code "TurnedKeys$End" "keyFor" 4 11 267 (10 + ts_kc (ts_k T) n c (kf k ix bw mi (ro, th, sc, rc, nx, lf)).1) (30 + ts_ks (ts_k T) n c (kf k ix bw mi (ro, th, sc, rc, nx, lf)).1) := C
  obtain ⟨bs', ro', mi', th', sc', rc', f, hA, o1, o2, o3, o4, o5, o6, hL⟩ := id hR
  obtain ⟨la0, ht0, -⟩ := ts_tm hS
  have hwa : w ≠ a := hm_ne hw.1 hA.1 (by decide)
  have hwl : w ≠ lk := hm_neA hw.1 hL.1.1
  have hwE : hm_ow M (en_F F a lk) w (hm_ob 5 [.int (nI s0), .int (nI ix), .int (nI bw), va_rf (some p), va_rf ky, va_rf le]) := ⟨hw.1, fun q => by
    rcases q with q | q | q
    · exact hw.2 q
    · exact hwa q
    · exact hwl q⟩
  have kz := ts_kz (ts_k T) n c
  have hl8 : lf.length ≤ 8 := hL.2.1
  have tail : ∀ (M1 : hm_M) (F1 : Nat → Prop) (T1 : Nat → Nat → Nat → Prop) (vs : List Nat) (ro1 th1 sc1 rc1 nx1 : Nat) (lf1 : List (Nat × Nat × Nat)), vs.length ≤ 14 → rc1 ≠ 0 → nx1 < 2 ^ 28 → en_P D tm M F T G n c se dr vs a lk M1 F1 T1 → en_R D M1 F1 T1 a lk bs ro1 mi th1 sc1 st bf rc1 nx1 lf1 → kf k ix bw mi (ro, th, sc, rc, nx, lf) = kf_2 ix (vs, ro1, th1, sc1, rc1, nx1, lf1) → hm_W X M1 (5 + ts_kc (ts_k T) n c vs) (15 + ts_ks (ts_k T) n c vs) 78 [(3, .null), (0, .ref a), (1, .ref w), (2, .ref tm)] [] := by
    intro M1 F1 T1 vs ro1 th1 sc1 rc1 nx1 lf1 hvl hrc1 hnx1 hE1 hR1 hkf
    have hw1 := hwE.step hE1.2.1
    obtain ⟨b1', b2', b3', b4', b5', b6', f1, hA1, u1, u2, u3, u4, u5, u6, hL1⟩ := id hR1
    have hb1 := hE1.bd hcn
    unfold kf_2 at hkf
    dsimp only at hkf
    refine hm_aload_n C nd_EN_keyFor_78 rfl ?_
    refine hm_get C nF_EN_82 hw1.1 rfl nd_EN_keyFor_79 ?_
    refine hm_aload_n C nd_EN_keyFor_82 rfl ?_
    refine hm_get C nF_EN_50 hA1.1 rfl nd_EN_keyFor_83 ?_
    refine hm_icmp_lt (tgt := 101) C nd_EN_keyFor_86 (by decide) (fun c1 => ?_) (fun c1 => ?_)
    · have h1 : ix < nx1 := (nI_ltI (by omega) (by omega)).mp c1
      rw [if_pos (Or.inl h1)] at hkf
      refine hm_null C nd_EN_keyFor_101 ?_
      exact hm_aret (r := none) C E (Or.inl ⟨_, rfl⟩) (by rw [hkf]; dsimp only; omega) (by rw [hkf]; dsimp only; omega) (⟨F1, T1, by rw [hkf]; exact hE1, by rw [hkf]; exact ⟨rfl, _, _, _, _, _, _, hR1⟩⟩) nd_EN_keyFor_102
    · have h1 : nx1 ≤ ix := by
        rcases Nat.lt_or_ge ix nx1 with h | h
        · exact absurd (nI_lt h (by omega)) c1
        · exact h
      by_cases h5 : nx1 + 5 < ix
      · rw [if_pos (Or.inr h5)] at hkf
        have hmc : ts_kc (ts_k T) n c (kf k ix bw mi (ro, th, sc, rc, nx, lf)).1 = ts_kc (ts_k T) n c vs ∧ ts_ks (ts_k T) n c (kf k ix bw mi (ro, th, sc, rc, nx, lf)).1 = ts_ks (ts_k T) n c vs := by rw [hkf]; exact ⟨rfl, rfl⟩
        refine hm_aload_n C nd_EN_keyFor_89 rfl ?_
        refine hm_aload_n C nd_EN_keyFor_90 rfl ?_
        refine hm_get C nF_EN_82 hw1.1 rfl nd_EN_keyFor_91 ?_
        refine hm_aload_n C nd_EN_keyFor_94 rfl ?_
        refine hm_callV C (ct_EN_skipsTo_no M1 tm F1 T1 G dr _ _ se hE1.1 hb1.1 (by omega) a lk bs ro1 mi th1 sc1 st bf rc1 nx1 lf1 hR1 ix (by omega) (by omega) h5) nV_EN_skipsTo [.int (nI ix), .ref tm] rfl hA1.1 rfl nq_EN_90 nj_EN_skipsTo nx_EN_skipsTo rfl (rest := []) rfl (Nat.le_of_ble_eq_true rfl) (by decide) (by decide) (by omega) (by omega) nd_EN_keyFor_95 (fun r M2 hp => ?_)
        obtain ⟨rfl, eM2⟩ := hp
        rw [eM2]
        refine hm_stk (st' := [.int 0]) rfl ?_
        refine hm_if_ne (tgt := 103) C nd_EN_keyFor_98 (by decide) (fun c2 => absurd rfl c2) (fun c2 => ?_)
        refine hm_null C nd_EN_keyFor_101 ?_
        exact hm_aret (r := none) C E (Or.inl ⟨_, rfl⟩) (by rw [hkf]; dsimp only; omega) (by rw [hkf]; dsimp only; omega) (⟨F1, T1, by rw [hkf]; exact hE1, by rw [hkf]; exact ⟨rfl, _, _, _, _, _, _, hR1⟩⟩) nd_EN_keyFor_102
      · obtain ⟨d2, hd2⟩ : ∃ d2, ix = nx1 + d2 := ⟨ix - nx1, by omega⟩
        have hdd : ix - nx1 = d2 := by omega
        rw [if_neg (by omega), hdd] at hkf
        have r1 := hE1.room (sk_v rc1 d2 ++ [sm_t 6 (sk_r rc1 d2) 0, sm_t 7 (sk_r rc1 d2) 0])
        have l2 := sk_v_len d2 rc1
        have hmc : ts_kc (ts_k T) n c (kf k ix bw mi (ro, th, sc, rc, nx, lf)).1 = ts_kc (ts_k T) n c (vs ++ (sk_v rc1 d2 ++ [sm_t 6 (sk_r rc1 d2) 0, sm_t 7 (sk_r rc1 d2) 0])) ∧ ts_ks (ts_k T) n c (kf k ix bw mi (ro, th, sc, rc, nx, lf)).1 = ts_ks (ts_k T) n c (vs ++ (sk_v rc1 d2 ++ [sm_t 6 (sk_r rc1 d2) 0, sm_t 7 (sk_r rc1 d2) 0])) := by rw [hkf]; exact ⟨rfl, rfl⟩
        have rl := ts_kle (sk_v rc1 d2) [sm_t 6 (sk_r rc1 d2) 0, sm_t 7 (sk_r rc1 d2) 0] (ts_k T1) (ts_r (ts_k T) n c vs).1 (ts_r (ts_k T) n c vs).2
        refine hm_aload_n C nd_EN_keyFor_89 rfl ?_
        refine hm_aload_n C nd_EN_keyFor_90 rfl ?_
        refine hm_get C nF_EN_82 hw1.1 rfl nd_EN_keyFor_91 ?_
        refine hm_aload_n C nd_EN_keyFor_94 rfl ?_
        refine hm_stk (st' := [.ref tm, .int (nI (nx1 + d2)), .ref a]) (by rw [hd2]) ?_
        refine hm_callV C (ct_EN_skipsTo M1 tm F1 T1 G dr _ _ se hE1.1 hb1.1 (by omega) a lk bs ro1 mi th1 sc1 st bf rc1 nx1 lf1 hR1 d2 (by omega) (by omega) hrc1) nV_EN_skipsTo [.int (nI (nx1 + d2)), .ref tm] rfl hA1.1 rfl nq_EN_90 nj_EN_skipsTo nx_EN_skipsTo rfl (rest := []) rfl (Nat.le_of_ble_eq_true rfl) (by decide) (by decide) (by omega) (by omega) nd_EN_keyFor_95 (fun r M3 hp => ?_)
        obtain ⟨F2, T2, rfl, hP2, hR2⟩ := hp
        have hE2 := hE1.tr hP2
        have hb2 := hE2.bd hcn
        rw [List.length_append, l2] at hb2
        have r2 := hP2.room [sm_t 6 (sk_r rc1 d2) 0, sm_t 7 (sk_r rc1 d2) 0]
        have hrr : (ts_r (ts_k T1) (ts_r (ts_k T) n c vs).1 (ts_r (ts_k T) n c vs).2 (sk_v rc1 d2)) = ts_r (ts_k T) n c (vs ++ sk_v rc1 d2) := by rw [ts_r_app, hE1.k]
        rw [hrr] at r2
        obtain ⟨bb1, bb2, bb3, bb4, bb5, bb6, ff2, hA2, -⟩ := id hR2
        refine hm_stk (st' := [.int 1]) rfl ?_
        refine hm_if_ne (tgt := 103) C nd_EN_keyFor_98 (by decide) (fun c3 => ?_) (fun c3 => absurd c3 (by decide))
        refine hm_aload_n C nd_EN_keyFor_103 rfl ?_
        refine hm_aload_n C nd_EN_keyFor_104 rfl ?_
        refine hm_callV C (ct_EN_steppedKey M3 tm F2 T2 G dr _ _ se hE2.1 hb2.1 (by omega) a lk bs ro1 mi th1 sc1 st bf (sk_r rc1 d2) (nx1 + d2) (sk_f th1 rc1 nx1 lf1 d2) hR2 (sk_r_ne d2 rc1 hrc1)) nV_EN_steppedKey [.ref tm] rfl hA2.1 rfl nq_EN_98 nj_EN_steppedKey nx_EN_steppedKey rfl (rest := []) rfl (Nat.le_of_ble_eq_true rfl) (by decide) (by decide) (by omega) (by omega) nd_EN_keyFor_105 (fun r M4 hp => ?_)
        obtain ⟨q, F3, T3, iq, rfl, hP3, hq3, -, hR3⟩ := hp
        have hE3 := hE2.tr hP3
        rw [List.append_assoc] at hE3
        refine hm_stk (st' := [.ref q]) rfl ?_
        exact hm_aret (r := (some q)) C E (Or.inl ⟨_, rfl⟩) (by omega) (by omega) (⟨F3, T3, by rw [hkf]; exact hE3, by rw [hkf]; exact ⟨q, iq, rfl, hq3, by rw [hd2]; exact hR3⟩⟩) nd_EN_keyFor_108
  refine hm_lv (lv' := [(0, .ref a), (1, .ref w), (2, .ref tm)]) rfl ?_
  obtain ⟨pkf, kyf, hfn⟩ := hL.fn
  have hgd : ∀ i, i < lf.length → lf[i]? = some (lf.getD i (0, 0, 0)) := fun i hi => by rw [List.getD_eq_getElem?_getD, List.getElem?_eq_getElem hi]; rfl
  have hpe : ∀ i, i < lf.length → (pkf i = some p ↔ (lf.getD i (0, 0, 0)).1 = sm_t 1 k 0) := by
    intro i hi
    obtain ⟨-, b, -, -, h3, -⟩ := hfn i _ (hgd i hi)
    rcases h3 with ⟨h4, h5⟩ | ⟨z, iz, h4, h5⟩
    · rw [h4, h5]
      exact ⟨fun h => (by cases h), fun h => absurd h.symm (sm_t_ne _ _ _)⟩
    · rw [h4]
      have := (ts_uni hS h5 hTp).1
      exact ⟨fun h => this.mp (Option.some.inj h), fun h => congrArg some (this.mpr h)⟩
  refine hm_aload_n C nd_EN_keyFor_0 rfl ?_
  refine hm_aload_n C nd_EN_keyFor_1 rfl ?_
  refine hm_get C nF_EN_79 hw.1 rfl nd_EN_keyFor_2 ?_
  refine hm_aload_n C nd_EN_keyFor_5 rfl ?_
  refine hm_get C nF_EN_82 hw.1 rfl nd_EN_keyFor_6 ?_
  refine hm_callV C (ct_EN_pulledLeftKey M a lk bs' ro' mi' th' sc' (nI st) (nI bf) rc' (nI nx) lf.length f hA.1 hL.1.1 hl8 pkf (fun i => (lf.getD i (0, 0, 0)).2.1) kyf (fun i hi => (by obtain ⟨h5, b, h1, h2, -⟩ := hfn i _ (hgd i hi); exact ⟨by omega, b, h1, h2.1⟩)) hL.2.2.2 (some p) ix (by omega)) nV_EN_pulledLeftKey [va_rf (some p), .int (nI ix)] rfl hA.1 rfl nq_EN_85 nj_EN_pulledLeftKey nx_EN_pulledLeftKey rfl (rest := []) rfl (Nat.le_of_ble_eq_true rfl) (by decide) (by decide) (by omega) (by omega) nd_EN_keyFor_9 (fun r M1 hp => ?_)
  rcases hp with ⟨i, hi, e1, e2, e3, rfl, e4⟩ | ⟨e3, rfl, e4⟩
  · have hq := hgd i hi
    have hkf : ke_f (sm_t 1 k 0) ix lf = some ((lf.getD i (0, 0, 0)).2.2, lf.eraseIdx i) := ke_f_some hq ⟨(hpe i hi).mp e1, e2⟩ (fun j z hj hz hm => e3 j hj (by
      have hjl : j < lf.length := by omega
      have ez : lf.getD j (0, 0, 0) = z := Option.some.inj ((hgd j hjl).symm.trans hz)
      exact ⟨(hpe j hjl).mpr (by rw [ez]; exact hm.1), by rw [ez]; exact hm.2⟩))
    have hkk : (kf k ix bw mi (ro, th, sc, rc, nx, lf)) = ([], some ((lf.getD i (0, 0, 0)).2.2, ro, th, sc, rc, nx, lf.eraseIdx i)) := by
      unfold kf
      rw [show (ro, th, sc, rc, nx, lf).2.2.2.2.2 = lf from rfl, hkf]
    obtain ⟨-, b, hb1, hb2, -, hb4⟩ := hfn i _ hq
    obtain ⟨q, iq, hky, hTq⟩ := ts_o_so hb4 (hlz i _ hq)
    have hal : a ≠ lk := hm_neA hA.1 hL.1.1
    have hL2 := en_L.er (M' := M1) hL hi (by rw [e4, hm_up_n _ _ (Ne.symm hal)]; exact hm_up_s _ _ _) (fun y vs hy => by rw [e4, hm_up_n _ _ (hm_ne hy hA.1 (by decide)), hm_up_n _ _ (hm_neA hy hL.1.1)])
    have hE2 : en_P D tm M F T G n c se dr [] a lk M1 F T := by rw [e4]; exact ((en_P.rf hS).put (Or.inr rfl) hL.1.2).put (Or.inl rfl) hA.2
    have hR2 : en_R D M1 F T a lk bs ro mi th sc st bf rc nx (lf.eraseIdx i) := ⟨bs', ro', mi', th', sc', rc', _, ⟨by rw [e4, hm_up_s, List.length_eraseIdx, if_pos hi], hA.2⟩, o1, o2, o3, o4, o5, o6, hL2⟩
    rw [hky]
    refine hm_stk (st' := [.ref q]) rfl ?_
    refine hm_astore_n C [(3, .ref q), (0, .ref a), (1, .ref w), (2, .ref tm)] nd_EN_keyFor_12 (by decide) rfl ?_
    refine hm_aload_n C nd_EN_keyFor_13 rfl ?_
    refine hm_ifnull (tgt := 19) (r := (some q)) C nd_EN_keyFor_14 (by decide) (fun h => by cases h) (fun _ => ?_)
    refine hm_aload_n C nd_EN_keyFor_17 rfl ?_
    exact hm_aret (r := (some q)) C E (Or.inl ⟨_, rfl⟩) (by omega) (by omega) (⟨F, T, by rw [hkk]; exact hE2, by rw [hkk]; exact ⟨q, iq, rfl, hTq, hR2⟩⟩) nd_EN_keyFor_18
  · have hkf : ke_f (sm_t 1 k 0) ix lf = none := ke_f_none (fun j z hz hm => by
      have hjl : j < lf.length := (List.getElem?_eq_some_iff.mp hz).1
      have ez : lf.getD j (0, 0, 0) = z := Option.some.inj ((hgd j hjl).symm.trans hz)
      exact e3 j hjl ⟨(hpe j hjl).mpr (by rw [ez]; exact hm.1), by rw [ez]; exact hm.2⟩)
    have hk1 : (kf k ix bw mi (ro, th, sc, rc, nx, lf)) = match kf_1 k bw mi (ro, th, sc, rc, nx, lf) with | none => ([], none) | some S => kf_2 ix S := by
      unfold kf
      rw [show (ro, th, sc, rc, nx, lf).2.2.2.2.2 = lf from rfl, hkf]
      rfl
    unfold kf_1 at hk1
    dsimp only at hk1
    rw [e4]
    refine hm_stk (st' := [.null]) rfl ?_
    refine hm_astore_nQ (r := none) C [(3, .null), (0, .ref a), (1, .ref w), (2, .ref tm)] nd_EN_keyFor_12 (by decide) rfl ?_
    refine hm_aload_nN C nd_EN_keyFor_13 rfl ?_
    refine hm_ifnull (tgt := 19) (r := none) C nd_EN_keyFor_14 (by decide) (fun _ => ?_) (fun h => absurd rfl h)
    refine hm_lv (lv' := [(3, .null), (0, .ref a), (1, .ref w), (2, .ref tm)]) rfl ?_
    have hth : (some p = th') ↔ (sm_t 1 k 0 = th) := by
      rcases o4 with ⟨h4, h5⟩ | ⟨z, iz, h4, h5⟩
      · rw [h4, h5]
        exact ⟨fun h => (by cases h), fun h => absurd h (sm_t_ne _ _ _)⟩
      · rw [h4]
        have := (ts_uni hS hTp h5).1
        exact ⟨fun h => this.mp (Option.some.inj h), fun h => congrArg some (this.mpr h)⟩
    have hrc0 : rc' = none ↔ rc = 0 := by
      rcases o6 with ⟨h4, h5⟩ | ⟨z, iz, h4, h5⟩
      · exact ⟨fun _ => h5, fun _ => h4⟩
      · obtain ⟨la9, ea9, ad9, kd9, lf9, rt9, er9, lu9, pb9, dv9, vl9, hX9, hI9, -, rfl⟩ := id hS
        rw [h4]
        exact ⟨fun h => (by cases h), fun h => absurd (h5.2.2.symm.trans h) (tt_pos hI9.2.2.2.1 h5.1)⟩
    have go : ¬ (sm_t 1 k 0 = th ∧ rc ≠ 0) → hm_W X M 0 0 37 [(3, .null), (0, .ref a), (1, .ref w), (2, .ref tm)] [] := by
      intro hcond
      rw [if_neg hcond] at hk1
      have turn : ∀ (M1 : hm_M) (F1 : Nat → Prop) (T1 : Nat → Nat → Nat → Prop) (vs : List Nat) (rc1 nx1 : Nat) (lf1 : List (Nat × Nat × Nat)), vs.length ≤ 10 → en_P D tm M F T G n c se dr vs a lk M1 F1 T1 → en_R D M1 F1 T1 a lk bs ro mi th sc st bf rc1 nx1 lf1 → (kf k ix bw mi (ro, th, sc, rc, nx, lf)) = kf_2 ix (vs ++ kf_v mi k ro, sm_t 4 ro (sm_sh mi k), sm_t 1 k 0, 0, sm_t 5 ro (sm_sh mi k), 0, lf1) → (∀ ws, ts_kc (ts_k T) n c ((vs ++ kf_v mi k ro) ++ ws) = ts_kc (ts_k T) n c (kf k ix bw mi (ro, th, sc, rc, nx, lf)).1 → True) → ts_kc (ts_k T) n c (vs ++ kf_v mi k ro) ≤ ts_kc (ts_k T) n c (kf k ix bw mi (ro, th, sc, rc, nx, lf)).1 → ts_ks (ts_k T) n c (vs ++ kf_v mi k ro) ≤ ts_ks (ts_k T) n c (kf k ix bw mi (ro, th, sc, rc, nx, lf)).1 → hm_W X M1 (5 + ts_kc (ts_k T) n c vs) (15 + ts_ks (ts_k T) n c vs) 69 [(3, .null), (0, .ref a), (1, .ref w), (2, .ref tm)] [] := by
        intro M1 F1 T1 vs rc1 nx1 lf1 hvl hE1 hR1 hkk _ hle1 hle2
        have hw1 := hwE.step hE1.2.1
        obtain ⟨b1', b2', b3', b4', b5', b6', f1, hA1, -⟩ := id hR1
        have hb1 := hE1.bd hcn
        have rm := hE1.room (kf_v mi k ro)
        refine hm_aload_n C nd_EN_keyFor_69 rfl ?_
        refine hm_aload_n C nd_EN_keyFor_70 rfl ?_
        refine hm_get C nF_EN_79 hw1.1 rfl nd_EN_keyFor_71 ?_
        refine hm_aload_n C nd_EN_keyFor_74 rfl ?_
        refine hm_stk (st' := [.ref tm, .ref p, .ref a]) rfl ?_
        refine hm_callV C (ct_EN_turnReceiving M1 tm F1 T1 G dr _ _ se hE1.1 hb1.1 (by omega) a lk bs ro mi th sc st bf rc1 nx1 lf1 hR1 d p ip k e hmi (hE1.2.2.1 _ _ _ hTp) hk) nV_EN_turnReceiving [.ref p, .ref tm] rfl hA1.1 rfl nq_EN_94 nj_EN_turnReceiving nx_EN_turnReceiving rfl (rest := []) rfl (Nat.le_of_ble_eq_true rfl) (by decide) (by decide) (by have h9 := rm.1; unfold kf_v at h9 hle1; omega) (by have h9 := rm.2; unfold kf_v at h9 hle2; omega) nd_EN_keyFor_75 (fun r M21 hp => ?_)
        obtain ⟨F2, T2, rfl, hP2, hR2⟩ := hp
        have hE2 := hE1.tr hP2
        refine hm_stk (st' := []) rfl ?_
        refine hm_widen (k' := 5 + ts_kc (ts_k T) n c (vs ++ kf_v mi k ro)) (n' := 15 + ts_ks (ts_k T) n c (vs ++ kf_v mi k ro)) (by have h9 := rm.1; unfold kf_v at h9 ⊢; omega) (by have h9 := rm.2; unfold kf_v at h9 ⊢; omega) ?_
        exact tail M21 F2 T2 (vs ++ kf_v mi k ro) (sm_t 4 ro (sm_sh mi k)) (sm_t 1 k 0) 0 (sm_t 5 ro (sm_sh mi k)) 0 lf1 (by rw [List.length_append]; show _ + 4 ≤ 14; omega) (sm_t_ne _ _ _) (by omega) hE2 hR2 hkk
      have kle : ∀ S, (kf k ix bw mi (ro, th, sc, rc, nx, lf)) = kf_2 ix S → ts_kc (ts_k T) n c S.1 ≤ ts_kc (ts_k T) n c (kf k ix bw mi (ro, th, sc, rc, nx, lf)).1 ∧ ts_ks (ts_k T) n c S.1 ≤ ts_ks (ts_k T) n c (kf k ix bw mi (ro, th, sc, rc, nx, lf)).1 := by
        intro S hS9
        obtain ⟨vs9, r9, t9, s9, c9, n9, l9⟩ := S
        rw [hS9]
        unfold kf_2
        dsimp only
        split
        · exact ⟨Nat.le_refl _, Nat.le_refl _⟩
        · exact ts_kle _ _ _ _ _
      refine hm_aload_n C nd_EN_keyFor_37 rfl ?_
      refine hm_get C nF_EN_47 hA.1 rfl nd_EN_keyFor_38 ?_
      refine hm_ifnull (tgt := 69) (r := rc') C nd_EN_keyFor_41 (by decide) (fun c3 => ?_) (fun c3 => ?_)
      · have h0 : rc = 0 := hrc0.mp c3
        rw [if_neg (fun h => h.1 h0)] at hk1
        dsimp only at hk1
        have hle := kle _ hk1
        refine hm_widen (k' := 5 + ts_kc (ts_k T) n c []) (n' := 15 + ts_ks (ts_k T) n c []) (by omega) (by omega) ?_
        exact turn M F T [] rc nx lf (by decide) (en_P.rf hS) hR hk1 (fun _ _ => trivial) hle.1 hle.2
      · have h0 : rc ≠ 0 := fun h => c3 (hrc0.mpr h)
        refine hm_aload_n C nd_EN_keyFor_44 rfl ?_
        refine hm_get C nF_EN_89 hw.1 rfl nd_EN_keyFor_45 ?_
        refine hm_aload_n C nd_EN_keyFor_48 rfl ?_
        refine hm_get C nF_EN_50 hA.1 rfl nd_EN_keyFor_49 ?_
        refine hm_icmp_le (tgt := 69) C nd_EN_keyFor_52 (by decide) (fun c4 => ?_) (fun c4 => ?_)
        · have hbn : bw ≤ nx := (nI_leI (by omega) (by omega)).mp c4
          rw [if_neg (fun h => by omega)] at hk1
          dsimp only at hk1
          have hle := kle _ hk1
          refine hm_widen (k' := 5 + ts_kc (ts_k T) n c []) (n' := 15 + ts_ks (ts_k T) n c []) (by omega) (by omega) ?_
          exact turn M F T [] rc nx lf (by decide) (en_P.rf hS) hR hk1 (fun _ _ => trivial) hle.1 hle.2
        · have hbn : nx < bw := by
            rcases Nat.lt_or_ge nx bw with h | h
            · exact h
            · exact absurd (nI_le h (by omega)) c4
          rw [if_pos ⟨h0, hbn⟩] at hk1
          by_cases h5 : nx + 5 < bw
          · rw [if_pos h5] at hk1
            dsimp only at hk1
            refine hm_aload_n C nd_EN_keyFor_55 rfl ?_
            refine hm_aload_n C nd_EN_keyFor_56 rfl ?_
            refine hm_get C nF_EN_89 hw.1 rfl nd_EN_keyFor_57 ?_
            refine hm_aload_n C nd_EN_keyFor_60 rfl ?_
            refine hm_callV C (ct_EN_skipsTo_no M tm F T G dr n c se hS hcn (by omega) a lk bs ro mi th sc st bf rc nx lf hR bw (by omega) (by omega) h5) nV_EN_skipsTo [.int (nI bw), .ref tm] rfl hA.1 rfl nq_EN_90 nj_EN_skipsTo nx_EN_skipsTo rfl (rest := []) rfl (Nat.le_of_ble_eq_true rfl) (by decide) (by decide) (by omega) (by omega) nd_EN_keyFor_61 (fun r M11 hp => ?_)
            obtain ⟨rfl, eM11⟩ := hp
            rw [eM11]
            refine hm_stk (st' := [.int 0]) rfl ?_
            refine hm_if_ne (tgt := 69) C nd_EN_keyFor_64 (by decide) (fun c5 => absurd rfl c5) (fun c5 => ?_)
            refine hm_null C nd_EN_keyFor_67 ?_
            exact hm_aret (r := none) C E (Or.inl ⟨_, rfl⟩) (by omega) (by omega) (⟨F, T, by rw [hk1]; exact en_P.rf hS, by rw [hk1]; exact ⟨rfl, _, _, _, _, _, _, hR⟩⟩) nd_EN_keyFor_68
          · rw [if_neg h5] at hk1
            dsimp only at hk1
            obtain ⟨d1, hd1⟩ : ∃ d1, bw = nx + d1 := ⟨bw - nx, by omega⟩
            have hdd : bw - nx = d1 := by omega
            rw [hdd] at hk1
            have hle := kle _ hk1
            dsimp only at hle
            have rl := ts_kle (sk_v rc d1) (kf_v mi k ro) (ts_k T) n c
            have l1 := sk_v_len d1 rc
            refine hm_aload_n C nd_EN_keyFor_55 rfl ?_
            refine hm_aload_n C nd_EN_keyFor_56 rfl ?_
            refine hm_get C nF_EN_89 hw.1 rfl nd_EN_keyFor_57 ?_
            refine hm_aload_n C nd_EN_keyFor_60 rfl ?_
            refine hm_stk (st' := [.ref tm, .int (nI (nx + d1)), .ref a]) (by rw [hd1]) ?_
            refine hm_callV C (ct_EN_skipsTo M tm F T G dr n c se hS hcn (by omega) a lk bs ro mi th sc st bf rc nx lf hR d1 (by omega) (by omega) h0) nV_EN_skipsTo [.int (nI (nx + d1)), .ref tm] rfl hA.1 rfl nq_EN_90 nj_EN_skipsTo nx_EN_skipsTo rfl (rest := []) rfl (Nat.le_of_ble_eq_true rfl) (by decide) (by decide) (by omega) (by omega) nd_EN_keyFor_61 (fun r M12 hp => ?_)
            obtain ⟨F2, T2, rfl, hP2, hR2⟩ := hp
            refine hm_stk (st' := [.int 1]) rfl ?_
            refine hm_if_ne (tgt := 69) C nd_EN_keyFor_64 (by decide) (fun c5 => ?_) (fun c5 => absurd c5 (by decide))
            refine hm_widen (k' := 5 + ts_kc (ts_k T) n c (sk_v rc d1)) (n' := 15 + ts_ks (ts_k T) n c (sk_v rc d1)) (by omega) (by omega) ?_
            exact turn M12 F2 T2 (sk_v rc d1) (sk_r rc d1) (nx + d1) (sk_f th rc nx lf d1) (by omega) hP2 hR2 hk1 (fun _ _ => trivial) hle.1 hle.2
    refine hm_aload_n C nd_EN_keyFor_19 rfl ?_
    refine hm_get C nF_EN_79 hw.1 rfl nd_EN_keyFor_20 ?_
    refine hm_aload_n C nd_EN_keyFor_23 rfl ?_
    refine hm_get C nF_EN_34 hA.1 rfl nd_EN_keyFor_24 ?_
    refine hm_acmp_ne (tgt := 37) (rx := (some p)) (ry := th') C nd_EN_keyFor_27 (by decide) (fun c1 => ?_) (fun c1 => ?_)
    · exact go (fun h => c1 (hth.mpr h.1))
    · refine hm_aload_n C nd_EN_keyFor_30 rfl ?_
      refine hm_get C nF_EN_47 hA.1 rfl nd_EN_keyFor_31 ?_
      refine hm_ifnonnull (tgt := 78) (r := rc') C nd_EN_keyFor_34 (by decide) (fun c2 => ?_) (fun c2 => ?_)
      · have h0 : rc ≠ 0 := fun h => c2 (hrc0.mpr h)
        rw [if_pos ⟨hth.mp c1, h0⟩] at hk1
        dsimp only at hk1
        refine hm_widen (k' := 5 + ts_kc (ts_k T) n c []) (n' := 15 + ts_ks (ts_k T) n c []) (by omega) (by omega) ?_
        exact tail M F T [] ro th sc rc nx lf (by decide) h0 hnx (en_P.rf hS) hR hk1
      · exact go (fun h => h.2 (hrc0.mp c2))
