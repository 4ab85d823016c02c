theorem rp.g4 {sc sc' : Nat → Int32} {ar ar' : Nat → Nat → Int32} {n dr : Nat} {q : Nat → rq} {vl : Nat → Nat} (h : rp sc ar n q vl dr) (hs : ∀ i, i ≠ 1 → sc' i = sc i) (ha : ∀ i, i ≠ 4 → ar' i = ar i) (hg : ∀ t, n ≤ t → t < 20000 → ar' 4 t = 0) : rp sc' ar' n q vl dr := by
  obtain ⟨⟨c1, c2, c3, c4, c5, tb, c6, c7⟩, d2, d3, d4, d5⟩ := h
  exact ⟨⟨(hs 0 (by decide)).trans c1, c2, c3, fun t t1 t2 => by rw [ha 0 (by decide), ha 1 (by decide), ha 2 (by decide), ha 3 (by decide)]; exact c4 t t1 t2, c5, tb, fun k hk => by rw [ha 6 (by decide)]; exact c6 k hk, c7⟩, d2, (hs 2 (by decide)).trans d3, d4, fun x x1 x2 => ⟨hg x x1 x2, by rw [ha 5 (by decide)]; exact (d5 x x1 x2).2⟩⟩
theorem nI_a1 (k : Nat) : (1 : Int32) + nI k = nI (1 + k) := nI_add 1 k
theorem sp_sd_eq {j dr d1 ro mi th sd st bf rc nx : Nat} {vs : List Nat} {lf : List (Nat × Nat × Nat)} {e : sp_E} (h : sp_s1 dr e = (vs, d1, (ro, mi, th, sd, st, bf, rc, nx, lf))) : (sp_sd j dr e).2 = (d1 + 1, (ro, mi, th, sm_t 7 sd 0, st + 1, bf, rc, nx, lf), (j, st, bf, mi, sm_t 6 sd 0, sm_t 0 (d1 + 1) 0)) := by
  unfold sp_sd
  rw [h]
  rfl
theorem sp_s1_1 {dr ro mi k sd st bf rc nx : Nat} {lf : List (Nat × Nat × Nat)} (h : sd = 0) : ∃ vs, sp_s1 dr (ro, mi, sm_t 1 k 0, sd, st, bf, rc, nx, lf) = (vs, dr + 1, (sm_t 4 ro (sm_sh (sm_t 0 (dr + 1) 0) k), sm_t 0 (dr + 1) 0, sm_t 1 k 0, sm_t 5 ro (sm_sh (sm_t 0 (dr + 1) 0) k), 0, st, rc, nx, lf)) := by
  unfold sp_s1
  dsimp only
  rw [if_pos h, sm_un_eq]
  exact ⟨_, rfl⟩
theorem sp_s1_2 {dr ro mi th sd st bf rc nx : Nat} {lf : List (Nat × Nat × Nat)} (h : sd ≠ 0) : ∃ vs, sp_s1 dr (ro, mi, th, sd, st, bf, rc, nx, lf) = (vs, dr, (ro, mi, th, sd, st, bf, rc, nx, lf)) := by
  unfold sp_s1
  dsimp only
  rw [if_neg h]
  exact ⟨_, rfl⟩
set_option maxHeartbeats 4000000 in
set_option maxRecDepth 100000 in
theorem ct_MO_send_out {l : Launch} {D : va_G} {BG : Nat → Option Cell} (m : Nat) (A : Nat → Nat) (hA : rf_ok A m) (sc : Nat → Int32) (ar : Nat → Nat → Int32) (e : Int32) (he : e < 0 ∨ nI 2 ≤ e) : hm_ct l D BG ny_MO_send prog_8_method_17_code 4 (some .int) 2 50 0 0 [.ref m, .int e] (rf_M D m A sc ar) (fun r M' => r = some (.int (-1)) ∧ M' = (rf_M D m A sc ar)) := by
  refine hm_ct_of (by decide +kernel) (by exact Nat.le_of_ble_eq_true rfl) ?_
  intro X C E
  have C : hm_C X l D BG prog_8_method_17_code "TurnedKeysModel" "send" 4 2 50 0 0 := C
  refine hm_lv (lv' := [(0, .ref m), (1, .int e)]) rfl ?_
  refine hm_iload_n C nd_MO_send_0 rfl ?_
  refine hm_callS C (ct_MO_isEnd_out _ e he) nV_MO_isEnd nq_MO_115 nu_MO_isEnd rfl (rest := []) rfl (Nat.le_of_ble_eq_true rfl) (by decide) (by decide) (by omega) (by omega) nd_MO_send_1 (fun r M1 hp => ?_)
  obtain ⟨rfl, eM1⟩ := hp
  rw [eM1]
  refine hm_stk (st' := [.int 0]) rfl ?_
  refine hm_if_ne (tgt := 9) C nd_MO_send_4 (by decide) (fun c0 => absurd rfl c0) (fun c0 => ?_)
  refine hm_iconst (v := (-1)) C nd_MO_send_7 (by decide) ?_
  exact hm_iret C E (by omega) (by omega) (⟨rfl, rfl⟩) nd_MO_send_8
set_option maxHeartbeats 4000000 in
set_option maxRecDepth 100000 in
theorem ct_MO_send_no {l : Launch} {D : va_G} {BG : Nat → Option Cell} (m : Nat) (A : Nat → Nat) (hA : rf_ok A m) (sc : Nat → Int32) (ar : Nat → Nat → Int32) (n : Nat) (q : Nat → rq) (vl : Nat → Nat) (dr : Nat) (gv kn : Nat → Bool) (od : Bool) (Es : Nat → sp_E) (W : List sp_W) (G : Nat → Prop) (hI : mo_I sc ar n q vl dr gv kn od Es W G) (j : Nat) (hj : j < 2) (hth : (Es j).2.2.1 = 0) (hsd : (Es j).2.2.2.1 = 0) : hm_ct l D BG ny_MO_send prog_8_method_17_code 4 (some .int) 2 50 0 0 [.ref m, .int (nI j)] (rf_M D m A sc ar) (fun r M' => r = some (.int (-5)) ∧ ∃ ar', M' = rf_M D m A sc ar' ∧ mo_I sc ar' n q vl dr gv kn od Es W G) := by
  refine hm_ct_of (by decide +kernel) (by exact Nat.le_of_ble_eq_true rfl) ?_
  intro X C E
  have C : hm_C X l D BG prog_8_method_17_code "TurnedKeysModel" "send" 4 2 50 0 0 := C
  refine hm_lv (lv' := [(0, .ref m), (1, .int (nI j))]) rfl ?_
  obtain ⟨b1, b2, b3, b4, b5, b6, b7, b8, b9, b10, b11, b12, b13⟩ := id hI
  refine hm_iload_n C nd_MO_send_0 rfl ?_
  refine hm_callS C (ct_MO_isEnd_in _ j hj) nV_MO_isEnd nq_MO_115 nu_MO_isEnd rfl (rest := []) rfl (Nat.le_of_ble_eq_true rfl) (by decide) (by decide) (by omega) (by omega) nd_MO_send_1 (fun r M1 hp => ?_)
  obtain ⟨rfl, eM1⟩ := hp
  rw [eM1]
  refine hm_stk (st' := [.int 1]) rfl ?_
  refine hm_if_ne (tgt := 9) C nd_MO_send_4 (by decide) (fun c0 => ?_) (fun c0 => absurd c0 (by decide))
  refine hm_aload_n C nd_MO_send_9 rfl ?_
  refine hm_iload_n C nd_MO_send_10 rfl ?_
  refine hm_callV C (ct_MO_load m A hA sc ar j hj) nV_MO_load [.int (nI j)] rfl rf_m rfl nq_MO_118 nj_MO_load nx_MO_load rfl (rest := []) rfl (Nat.le_of_ble_eq_true rfl) (by decide) (by decide) (by omega) (by omega) nd_MO_send_11 (fun r M2 hp => ?_)
  obtain ⟨rfl, ar1, rfl, hs1, hl1⟩ := hp
  refine hm_stk (st' := []) rfl ?_
  have hI1 : mo_I sc ar1 n q vl dr gv kn od Es W G := hI.ha (fun _ _ => rfl) hs1
  have hr : re n q vl (ar1 15) (Es j) := (b7 j hj).cg (fun k hk => hl1 k hk)
  obtain ⟨a1, a2, a3, a4, a5, a6, a7, a8, a9, a10, a11⟩ := id hr
  refine hm_aload_n C nd_MO_send_14 rfl ?_
  refine hm_get C nF_MO_66 rf_m rfl nd_MO_send_15 ?_
  refine hm_iconst (v := 3) C nd_MO_send_18 (by decide) ?_
  refine hm_iald (t := 3) (N := 33) (j := 3) (f := (ar1 15)) C rfl (rf_at hA (i := 15) (by decide)) rfl (by omega) (by decide) nd_MO_send_19 ?_
  refine hm_if_ne (tgt := 35) C nd_MO_send_20 (by decide) (fun d1 => (d1 ((b1.z a4).mpr hsd)).elim) (fun d1 => ?_)
  refine hm_aload_n C nd_MO_send_23 rfl ?_
  refine hm_get C nF_MO_66 rf_m rfl nd_MO_send_24 ?_
  refine hm_iconst (v := 2) C nd_MO_send_27 (by decide) ?_
  refine hm_iald (t := 3) (N := 33) (j := 2) (f := (ar1 15)) C rfl (rf_at hA (i := 15) (by decide)) rfl (by omega) (by decide) nd_MO_send_28 ?_
  refine hm_if_ne (tgt := 35) C nd_MO_send_29 (by decide) (fun d2 => (d2 ((b1.z a3).mpr hth)).elim) (fun d2 => ?_)
  refine hm_bipush (v := (-5)) C nd_MO_send_32 (by decide) ?_
  exact hm_iret C E (by omega) (by omega) (⟨rfl, ar1, rfl, hI1⟩) nd_MO_send_34
set_option maxHeartbeats 4000000 in
set_option maxRecDepth 100000 in
theorem ct_MO_send_go {l : Launch} {D : va_G} {BG : Nat → Option Cell} (m : Nat) (A : Nat → Nat) (hA : rf_ok A m) (sc : Nat → Int32) (ar : Nat → Nat → Int32) (n : Nat) (q : Nat → rq) (vl : Nat → Nat) (dr : Nat) (gv kn : Nat → Bool) (od : Bool) (Es : Nat → sp_E) (W : List sp_W) (G : Nat → Prop) (hI : mo_I sc ar n q vl dr gv kn od Es W G) (hwl : W.length < 512) (hn : n + 12 < 20000) (hdr : dr + 3 < 20000) (j : Nat) (hj : j < 2) (ro mi k0 sd st bf rc nx : Nat) (lf : List (Nat × Nat × Nat)) (he : Es j = (ro, mi, sm_t 1 k0 0, sd, st, bf, rc, nx, lf)) (hmi0 : ∃ d, mi = sm_t 0 d 0) (hW0 : W = [] → ∀ i, i < 4 → Es i = sp_E0 i) (hd2 : ∀ (vs : List Nat) (z : Nat × sp_E), sp_s1 dr (Es j) = (vs, z) → dr ≤ z.1) : hm_ct l D BG ny_MO_send prog_8_method_17_code 4 (some .int) 2 50 0 0 [.ref m, .int (nI j)] (rf_M D m A sc ar) (fun r M' => r = some (.int (nI W.length)) ∧ ∃ sc' ar' n' q' vl' gv' od', n' ≤ n + 11 ∧ M' = rf_M D m A sc' ar' ∧ mo_I sc' ar' n' q' vl' (sp_sd j dr (Es j)).2.1 gv' kn od' (fun i => if i = j then (sp_sd j dr (Es j)).2.2.1 else Es i) (W ++ [(sp_sd j dr (Es j)).2.2.2]) (sp_gv G [sp_b, sm_t 1 (sp_sd j dr (Es j)).2.2.2.2.2.2.1 0, sm_t 3 (sp_sd j dr (Es j)).2.2.2.2.2.2.2.1 (sp_sd j dr (Es j)).2.2.2.2.2.2.2.2])) := by
  refine hm_ct_of (by decide +kernel) (by exact Nat.le_of_ble_eq_true rfl) ?_
  intro X C E
  have C : hm_C X l D BG prog_8_method_17_code "TurnedKeysModel" "send" 4 2 50 0 0 := C
  refine hm_lv (lv' := [(0, .ref m), (1, .int (nI j))]) rfl ?_
  have H2 : ∀ (ro1 mi1 sd1 st1 bf1 d1 : Nat) (vs : List Nat) (kk : Nat) (sct : Nat → Int32) (art : Nat → Nat → Int32) (nn : Nat) (qt : Nat → rq) (vt : Nat → Nat) (arL : Nat → Nat → Int32), (∀ i, i ≠ 15 → arL i = ar i) → rp sct art nn qt vt d1 → ry (fun a' v' => a'.1 ≠ 5 ∧ (a'.1 = 3 → v' = sm_sh mi1 k0)) kk sc arL n q vl sct art nn qt vt → kk ≤ 4 → d1 ≤ dr + 1 → re nn qt vt (art 15) (ro1, mi1, sm_t 1 k0 0, sd1, st1, bf1, rc, nx, lf) → (∃ d, mi1 = sm_t 0 d 0) → (W = [] → mi1 = sp_r) → sp_s1 dr (Es j) = (vs, d1, (ro1, mi1, sm_t 1 k0 0, sd1, st1, bf1, rc, nx, lf)) → hm_W X (rf_M D m A sct art) 0 0 131 [(0, .ref m), (1, .int (nI j))] [] := by
    intro ro1 mi1 sd1 st1 bf1 d1 vs kk sct art nn qt vt arL hsL hpt hyt hkk hd1 hrt hmi1 hm0 hS1
    obtain ⟨b1, b2, b3, b4, b5, b6, b7, b8, b9, b10, b11, b12, b13⟩ := id hI
    obtain ⟨a1, a2, a3, a4, a5, a6, a7, a8, a9, a10, a11⟩ := id hrt
    dsimp only at a1 a2 a3 a4 a5 a6 a7 a8 a9 a10 a11
    obtain ⟨dm, hdm⟩ := hmi1
    obtain ⟨ti, ei, i1, i2, i3, i4⟩ := rid_s hpt.2.1 (hdm ▸ a2)
    rw [← hdm] at i4
    obtain ⟨ts, es, l3, s3, v3⟩ := id a4
    obtain ⟨tth, eth, q1', q2', q3', q4', q5', q6'⟩ := rid_p hpt.2.1 a3
    have hfr := hI.fr
    have hnn := hyt.2.1
    have hnl := hyt.1.1
    have hz0 : (qt 0).1 ≤ 4 := by rw [hpt.2.1.2.1]; decide
    have F0_4 : art 4 = ar 4 := (hyt.2.2.2.1 4 (by decide) (by decide) (by decide)).trans (hsL 4 (by decide))
    have F0_5 : art 5 = ar 5 := (hyt.2.2.2.1 5 (by decide) (by decide) (by decide)).trans (hsL 5 (by decide))
    have F0_7 : art 7 = ar 7 := (hyt.2.2.2.1 7 (by decide) (by decide) (by decide)).trans (hsL 7 (by decide))
    have F0_8 : art 8 = ar 8 := (hyt.2.2.2.1 8 (by decide) (by decide) (by decide)).trans (hsL 8 (by decide))
    have F0_9 : art 9 = ar 9 := (hyt.2.2.2.1 9 (by decide) (by decide) (by decide)).trans (hsL 9 (by decide))
    have F0_10 : art 10 = ar 10 := (hyt.2.2.2.1 10 (by decide) (by decide) (by decide)).trans (hsL 10 (by decide))
    have F0_11 : art 11 = ar 11 := (hyt.2.2.2.1 11 (by decide) (by decide) (by decide)).trans (hsL 11 (by decide))
    have F0_12 : art 12 = ar 12 := (hyt.2.2.2.1 12 (by decide) (by decide) (by decide)).trans (hsL 12 (by decide))
    have F0_13 : art 13 = ar 13 := (hyt.2.2.2.1 13 (by decide) (by decide) (by decide)).trans (hsL 13 (by decide))
    have F0_14 : art 14 = ar 14 := (hyt.2.2.2.1 14 (by decide) (by decide) (by decide)).trans (hsL 14 (by decide))
    have x3 : sct 3 = nI W.length := (hyt.2.2.1 3 (by decide) (by decide)).trans b5.1
    have x4 : sct 4 = nI W.length := (hyt.2.2.1 4 (by decide) (by decide)).trans b5.2
    have x5 : rid nn qt vt (sct 5) sp_b := by rw [hyt.2.2.1 5 (by decide) (by decide)]; exact b6.go hyt.1
    have T0 : tg nn qt vt gv kn od G := b10.go b1.2.1 hyt.1 (fun t t1 t2 => hfr t t1 (by omega)) (fun t t1 t2 => (hyt.2.2.2.2 t t1 t2).1)
    refine hm_aload_n C nd_MO_send_131 rfl ?_
    refine hm_aload_n C nd_MO_send_132 rfl ?_
    refine hm_get C nF_MO_66 rf_m rfl nd_MO_send_133 ?_
    refine hm_iconst (v := 1) C nd_MO_send_136 (by decide) ?_
    refine hm_iald (t := 3) (N := 33) (j := 1) (f := (art 15)) C rfl (rf_at hA (i := 15) (by decide)) rfl (by omega) (by decide) nd_MO_send_137 ?_
    refine hm_stk (st' := [.int (nI ti), .ref m]) (by rw [ei]) ?_
    refine hm_callV C (ct_MO_publicOf m A hA sct art nn qt vt d1 hpt (by omega) ti i2 i3) nV_MO_publicOf [.int (nI ti)] rfl rf_m rfl nq_MO_73 nj_MO_publicOf nx_MO_publicOf rfl (rest := []) rfl (Nat.le_of_ble_eq_true rfl) (by decide) (by decide) (by omega) (by omega) nd_MO_send_138 (fun r M1 hp => ?_)
    obtain ⟨t1, sc1, ar1, n1, q1, vl1, rfl, rfl, hp1, hx1, h11, h21, h31, h41⟩ := hp
    refine hm_stk (st' := [.int (nI t1)]) rfl ?_
    have g1 : rgo nn qt vt n1 q1 vl1 := ⟨hx1.1, hx1.2.2.1⟩
    have le1 := hx1.1
    have ub1 := hx1.2.1
    have F1_4 : ar1 4 = (ar 4) := by
      have h9 : ar1 4 = (art 4) := hx1.2.2.2.2.1 4 (by decide) (by decide)
      rw [h9, F0_4]
    have F1_5 : ar1 5 = (ar 5) := by
      have h9 : ar1 5 = (art 5) := hx1.2.2.2.2.1 5 (by decide) (by decide)
      rw [h9, F0_5]
    have F1_7 : ar1 7 = (ar 7) := by
      have h9 : ar1 7 = (art 7) := hx1.2.2.2.2.1 7 (by decide) (by decide)
      rw [h9, F0_7]
    have F1_8 : ar1 8 = (ar 8) := by
      have h9 : ar1 8 = (art 8) := hx1.2.2.2.2.1 8 (by decide) (by decide)
      rw [h9, F0_8]
    have F1_9 : ar1 9 = (ar 9) := by
      have h9 : ar1 9 = (art 9) := hx1.2.2.2.2.1 9 (by decide) (by decide)
      rw [h9, F0_9]
    have F1_10 : ar1 10 = (ar 10) := by
      have h9 : ar1 10 = (art 10) := hx1.2.2.2.2.1 10 (by decide) (by decide)
      rw [h9, F0_10]
    have F1_11 : ar1 11 = (ar 11) := by
      have h9 : ar1 11 = (art 11) := hx1.2.2.2.2.1 11 (by decide) (by decide)
      rw [h9, F0_11]
    have F1_12 : ar1 12 = (ar 12) := by
      have h9 : ar1 12 = (art 12) := hx1.2.2.2.2.1 12 (by decide) (by decide)
      rw [h9, F0_12]
    have F1_13 : ar1 13 = (ar 13) := by
      have h9 : ar1 13 = (art 13) := hx1.2.2.2.2.1 13 (by decide) (by decide)
      rw [h9, F0_13]
    have F1_14 : ar1 14 = (ar 14) := by
      have h9 : ar1 14 = (art 14) := hx1.2.2.2.2.1 14 (by decide) (by decide)
      rw [h9, F0_14]
    have F1_15 : ar1 15 = (art 15) := by
      have h9 : ar1 15 = (art 15) := hx1.2.2.2.2.1 15 (by decide) (by decide)
      rw [h9]
    have x3_1 : sc1 3 = nI W.length := (hx1.2.2.2.1 3 (by decide) (by decide)).trans x3
    have x4_1 : sc1 4 = nI W.length := (hx1.2.2.2.1 4 (by decide) (by decide)).trans x4
    obtain ⟨tb, eb, lb, sb, vb⟩ : rid n1 q1 vl1 (sc1 5) sp_b := by rw [hx1.2.2.2.1 5 (by decide) (by decide)]; exact x5.go g1
    have tb1 : 1 ≤ tb := by
      rcases Nat.eq_zero_or_pos tb with z | z
      · rw [z, hp1.2.1.1] at vb; exact absurd vb.symm (sm_t_ne _ _ _)
      · exact z
    have v1 : vl1 t1 = sm_t 1 mi1 0 := by rw [h41, i4]
    have T1 : tg n1 q1 vl1 gv kn od G := T0.go hpt.2.1 g1 (fun t z1 z2 => hfr t (by omega) (by omega)) (fun t z1 z2 z => by have h9 := (hx1.2.2.2.2.2 t z1 z2).1; omega)
    have PM1 : rpub n1 q1 vl1 mi1 := Or.inr ⟨t1, h11, h21, h31, v1⟩
    have PK1 : rpub n1 q1 vl1 k0 := rpub.go (Or.inr ⟨tth, q1', q2', q3', by have h9 := ((hpt.2.1.2.2.1 tth q1' q2').2.2.2.1 q3').2.2.2; rw [h9, q6']⟩) g1
    have S1 : rg_s n1 q1 vl1 := b11.go b1.2.1 hp1.2.1 (hyt.1.tr g1) (fun t z1 z2 z => by
      rcases Nat.lt_or_ge t nn with c | c
      · rw [(g1.2 t c).1] at z
        rw [(g1.2 t c).2]
        exact (hyt.2.2.2.2 t z1 c).2 z
      · have h9 := (hx1.2.2.2.2.2 t c z2).1
        omega) PM1 PK1
    refine hm_istore_n C [(2, .int (nI t1)), (0, .ref m), (1, .int (nI j))] nd_MO_send_141 (by decide) rfl ?_
    refine hm_aload_n C nd_MO_send_142 rfl ?_
    refine hm_get C nF_MO_42 rf_m rfl nd_MO_send_143 ?_
    refine hm_aload_n C nd_MO_send_146 rfl ?_
    refine hm_get C nF_MO_122 rf_m rfl nd_MO_send_147 ?_
    refine hm_stk (st' := [.int (nI W.length), .ref (A 7)]) (by rw [x3_1]) ?_
    refine hm_aload_n C nd_MO_send_150 rfl ?_
    refine hm_get C nF_MO_66 rf_m rfl nd_MO_send_151 ?_
    refine hm_iconst (v := 4) C nd_MO_send_154 (by decide) ?_
    refine hm_iald (t := 3) (N := 33) (j := 4) (f := (ar1 15)) C rfl (rf_at hA (i := 15) (by decide)) rfl (by omega) (by decide) nd_MO_send_155 ?_
    refine hm_stk (st' := [.int (nI st1), .int (nI W.length), .ref (A 7)]) (by rw [F1_15, a5]) ?_
    refine hm_iast (t := 3) (N := 520) (j := W.length) (f := (ar1 7)) C rfl (rf_at hA (i := 7) (by decide)) rfl (by omega) (by decide) nd_MO_send_156 ?_
    refine hm_eqM (rf_up hA (i := 7) (by decide) (upd (ar1 7) W.length (nI st1))) ?_
    refine hm_aload_n C nd_MO_send_157 rfl ?_
    refine hm_get C nF_MO_45 rf_m rfl nd_MO_send_158 ?_
    refine hm_aload_n C nd_MO_send_161 rfl ?_
    refine hm_get C nF_MO_122 rf_m rfl nd_MO_send_162 ?_
    refine hm_stk (st' := [.int (nI W.length), .ref (A 8)]) (by rw [x3_1]) ?_
    refine hm_aload_n C nd_MO_send_165 rfl ?_
    refine hm_get C nF_MO_66 rf_m rfl nd_MO_send_166 ?_
    refine hm_iconst (v := 5) C nd_MO_send_169 (by decide) ?_
    refine hm_iald (t := 3) (N := 33) (j := 5) (f := (ar1 15)) C rfl (rf_at hA (i := 15) (by decide)) rfl (by omega) (by decide) nd_MO_send_170 ?_
    refine hm_stk (st' := [.int (nI bf1), .int (nI W.length), .ref (A 8)]) (by rw [F1_15, a6]) ?_
    refine hm_iast (t := 3) (N := 520) (j := W.length) (f := (ar1 8)) C rfl (rf_at hA (i := 8) (by decide)) rfl (by omega) (by decide) nd_MO_send_171 ?_
    refine hm_eqM (rf_up hA (i := 8) (by decide) (upd (ar1 8) W.length (nI bf1))) ?_
    refine hm_aload_n C nd_MO_send_172 rfl ?_
    refine hm_get C nF_MO_48 rf_m rfl nd_MO_send_173 ?_
    refine hm_aload_n C nd_MO_send_176 rfl ?_
    refine hm_get C nF_MO_122 rf_m rfl nd_MO_send_177 ?_
    refine hm_stk (st' := [.int (nI W.length), .ref (A 9)]) (by rw [x3_1]) ?_
    refine hm_iload_n C nd_MO_send_180 rfl ?_
    refine hm_iast (t := 3) (N := 520) (j := W.length) (f := (ar1 9)) C rfl (rf_at hA (i := 9) (by decide)) rfl (by omega) (by decide) nd_MO_send_181 ?_
    refine hm_eqM (rf_up hA (i := 9) (by decide) (upd (ar1 9) W.length (nI j))) ?_
    refine hm_aload_n C nd_MO_send_182 rfl ?_
    refine hm_get C nF_MO_51 rf_m rfl nd_MO_send_183 ?_
    refine hm_aload_n C nd_MO_send_186 rfl ?_
    refine hm_get C nF_MO_122 rf_m rfl nd_MO_send_187 ?_
    refine hm_stk (st' := [.int (nI W.length), .ref (A 10)]) (by rw [x3_1]) ?_
    refine hm_iload_n C nd_MO_send_190 rfl ?_
    refine hm_iast (t := 3) (N := 520) (j := W.length) (f := (ar1 10)) C rfl (rf_at hA (i := 10) (by decide)) rfl (by omega) (by decide) nd_MO_send_191 ?_
    refine hm_eqM (rf_up hA (i := 10) (by decide) (upd (ar1 10) W.length (nI t1))) ?_
    refine hm_aload_n C nd_MO_send_192 rfl ?_
    refine hm_bipush (v := 6) C nd_MO_send_193 (by decide) ?_
    refine hm_iconst (v := 1) C nd_MO_send_195 (by decide) ?_
    refine hm_aload_n C nd_MO_send_196 rfl ?_
    refine hm_aload_n C nd_MO_send_197 rfl ?_
    refine hm_get C nF_MO_122 rf_m rfl nd_MO_send_198 ?_
    refine hm_stk (st' := [.int (nI W.length), .ref m, .int 1, .int 6, .ref m]) (by rw [x3_1]) ?_
    refine hm_callV C (ct_MO_headLike m A hA sc1 (va_up (va_up (va_up (va_up ar1 7 (upd (ar1 7) W.length (nI st1))) 8 (upd (ar1 8) W.length (nI bf1))) 9 (upd (ar1 9) W.length (nI j))) 10 (upd (ar1 10) W.length (nI t1))) W.length (by omega)) nV_MO_headLike [.int (nI W.length)] rfl rf_m rfl nq_MO_125 nj_MO_headLike nx_MO_headLike rfl (rest := [.int 1, .int 6, .ref m]) rfl (Nat.le_of_ble_eq_true rfl) (by decide) (by decide) (by omega) (by omega) nd_MO_send_201 (fun r M2 hp => ?_)
    obtain ⟨k9, hk9, rfl, eM9⟩ := hp
    rw [eM9]
    refine hm_stk (st' := [.int (nI k9), .int 1, .int 6, .ref m]) rfl ?_
    refine hm_iadd C nd_MO_send_204 ?_
    refine hm_stk (st' := [.int (nI (1 + k9)), .int 6, .ref m]) (by rw [nI_a1]) ?_
    refine hm_aload_n C nd_MO_send_205 rfl ?_
    refine hm_get C nF_MO_77 rf_m rfl nd_MO_send_206 ?_
    refine hm_stk (st' := [.int (nI tb), .int (nI (1 + k9)), .int 6, .ref m]) (by rw [eb]) ?_
    refine hm_iload_n C nd_MO_send_209 rfl ?_
    refine hm_stk (st' := [.int (nI t1), .int (nI tb), .int (nI (1 + k9)), .int (nI 6), .ref m]) rfl ?_
    have hpA : rp sc1 (va_up (va_up (va_up (va_up ar1 7 (upd (ar1 7) W.length (nI st1))) 8 (upd (ar1 8) W.length (nI bf1))) 9 (upd (ar1 9) W.length (nI j))) 10 (upd (ar1 10) W.length (nI t1))) n1 q1 vl1 d1 := hp1.ha (fun i hi => by repeat rw [va_up_ne _ _ (by omega)])
    obtain ⟨tbA, hhA⟩ := hpA.tb
    obtain ⟨v6, hv6⟩ := rrow (vl := vl1) hhA (6, 1 + k9, tb, t1)
    refine hm_callV C (ct_MO_term_s m A hA sc1 (va_up (va_up (va_up (va_up ar1 7 (upd (ar1 7) W.length (nI st1))) 8 (upd (ar1 8) W.length (nI bf1))) 9 (upd (ar1 9) W.length (nI j))) 10 (upd (ar1 10) W.length (nI t1))) n1 q1 vl1 d1 d1 hpA.1 hpA.2.1 hpA.2.2.1 hpA.2.2.2.1 hpA.2.2.2.2 (by omega) 6 (1 + k9) tb t1 v6 (by omega) (by omega) (by omega) (by omega) (fun t z1 z2 e => ⟨hv6 t z1 z2 e, rfl⟩) (Nat.le_refl _) (fun _ => rv_ok6 tb1 lb h21 sb (by omega)) (fun z => absurd z (by decide))) nV_MO_term [.int (nI 6), .int (nI (1 + k9)), .int (nI tb), .int (nI t1)] rfl rf_m rfl nq_MO_95 nj_MO_term nx_MO_term rfl (rest := []) rfl (Nat.le_of_ble_eq_true rfl) (by decide) (by decide) (by omega) (by omega) nd_MO_send_210 (fun r M3 hp => ?_)
    obtain ⟨t2, sc2, ar2, n2, q2, vl2, rfl, rfl, hp2, hx2, h12, h22, h32, h42⟩ := hp
    refine hm_stk (st' := [.int (nI t2)]) rfl ?_
    have g2 : rgo n1 q1 vl1 n2 q2 vl2 := ⟨hx2.1, hx2.2.2.1⟩
    have le2 := hx2.1
    have ub2 := hx2.2.1
    have F2_4 : ar2 4 = (ar 4) := by
      have h9 : ar2 4 = (ar1 4) := hx2.2.2.2.2.1 4 (by decide) (by decide)
      rw [h9, F1_4]
    have F2_5 : ar2 5 = (ar 5) := by
      have h9 : ar2 5 = (ar1 5) := hx2.2.2.2.2.1 5 (by decide) (by decide)
      rw [h9, F1_5]
    have F2_7 : ar2 7 = (upd (ar 7) W.length (nI st1)) := by
      have h9 : ar2 7 = (upd (ar1 7) W.length (nI st1)) := hx2.2.2.2.2.1 7 (by decide) (by decide)
      rw [h9, F1_7]
    have F2_8 : ar2 8 = (upd (ar 8) W.length (nI bf1)) := by
      have h9 : ar2 8 = (upd (ar1 8) W.length (nI bf1)) := hx2.2.2.2.2.1 8 (by decide) (by decide)
      rw [h9, F1_8]
    have F2_9 : ar2 9 = (upd (ar 9) W.length (nI j)) := by
      have h9 : ar2 9 = (upd (ar1 9) W.length (nI j)) := hx2.2.2.2.2.1 9 (by decide) (by decide)
      rw [h9, F1_9]
    have F2_10 : ar2 10 = (upd (ar 10) W.length (nI t1)) := by
      have h9 : ar2 10 = (upd (ar1 10) W.length (nI t1)) := hx2.2.2.2.2.1 10 (by decide) (by decide)
      rw [h9, F1_10]
    have F2_11 : ar2 11 = (ar 11) := by
      have h9 : ar2 11 = (ar1 11) := hx2.2.2.2.2.1 11 (by decide) (by decide)
      rw [h9, F1_11]
    have F2_12 : ar2 12 = (ar 12) := by
      have h9 : ar2 12 = (ar1 12) := hx2.2.2.2.2.1 12 (by decide) (by decide)
      rw [h9, F1_12]
    have F2_13 : ar2 13 = (ar 13) := by
      have h9 : ar2 13 = (ar1 13) := hx2.2.2.2.2.1 13 (by decide) (by decide)
      rw [h9, F1_13]
    have F2_14 : ar2 14 = (ar 14) := by
      have h9 : ar2 14 = (ar1 14) := hx2.2.2.2.2.1 14 (by decide) (by decide)
      rw [h9, F1_14]
    have F2_15 : ar2 15 = (art 15) := by
      have h9 : ar2 15 = (ar1 15) := hx2.2.2.2.2.1 15 (by decide) (by decide)
      rw [h9, F1_15]
    have T2 : tg n2 q2 vl2 gv kn od G := T1.go hp1.2.1 g2 (fun t z1 z2 => hfr t (by omega) (by omega)) (fun t z1 z2 z => by have h9 := (hx2.2.2.2.2.2 t z1 z2).1; rw [h9] at z; have z : 6 = 5 := z; omega)
    have PM2 := PM1.go g2
    have PK2 := PK1.go g2
    have S2 : rg_s n2 q2 vl2 := S1.go hp1.2.1 hp2.2.1 g2 (fun t z1 z2 z => by have h9 := (hx2.2.2.2.2.2 t z1 z2).1; rw [h9] at z; have z : 6 = 3 := z; omega) PM2 PK2
    have x3_2 : sc2 3 = nI W.length := (hx2.2.2.2.1 3 (by decide) (by decide)).trans x3_1
    have x4_2 : sc2 4 = nI W.length := (hx2.2.2.2.1 4 (by decide) (by decide)).trans x4_1
    refine hm_istore_n C [(3, .int (nI t2)), (2, .int (nI t1)), (0, .ref m), (1, .int (nI j))] nd_MO_send_213 (by decide) rfl ?_
    refine hm_aload_n C nd_MO_send_214 rfl ?_
    refine hm_dup C nd_MO_send_215 rfl ?_
    refine hm_get C nF_MO_122 rf_m rfl nd_MO_send_216 ?_
    refine hm_stk (st' := [.int (nI W.length), .ref m]) (by rw [x3_2]) ?_
    refine hm_iconst (v := 1) C nd_MO_send_219 (by decide) ?_
    refine hm_iadd C nd_MO_send_220 ?_
    refine hm_stk (st' := [.int (nI (W.length + 1)), .ref m]) (by rw [nI_1]) ?_
    refine hm_put C nF_MO_122 rf_m (Nat.le_of_ble_eq_true rfl) rfl rfl nd_MO_send_221 ?_
    refine hm_eqM (rf_pt (sc' := va_up sc2 3 (nI (W.length + 1)))) ?_
    refine hm_aload_n C nd_MO_send_224 rfl ?_
    refine hm_get C nF_MO_57 rf_m rfl nd_MO_send_225 ?_
    refine hm_aload_n C nd_MO_send_228 rfl ?_
    refine hm_get C nF_MO_128 rf_m rfl nd_MO_send_229 ?_
    refine hm_stk (st' := [.int (sc2 4), .ref (A 12)]) (rfl) ?_
    refine hm_stk (st' := [.int (nI W.length), .ref (A 12)]) (by rw [x4_2]) ?_
    refine hm_aload_n C nd_MO_send_232 rfl ?_
    refine hm_callV C (ct_MO_draw m A hA (va_up sc2 3 (nI (W.length + 1))) ar2 n2 q2 vl2 d1 (hp2.sc rfl rfl) (by omega) (by omega)) nV_MO_draw [] rfl rf_m rfl nq_MO_69 nj_MO_draw nx_MO_draw rfl (rest := [.int (nI W.length), .ref (A 12)]) rfl (Nat.le_of_ble_eq_true rfl) (by decide) (by decide) (by omega) (by omega) nd_MO_send_233 (fun r M4 hp => ?_)
    obtain ⟨t3, sc3, ar3, n3, q3, vl3, rfl, rfl, hp3, hx3, h13, h23, h33, h43⟩ := hp
    refine hm_stk (st' := [.int (nI t3), .int (nI W.length), .ref (A 12)]) rfl ?_
    have g3 : rgo n2 q2 vl2 n3 q3 vl3 := ⟨hx3.1, hx3.2.2.1⟩
    have le3 := hx3.1
    have ub3 := hx3.2.1
    have F3_4 : ar3 4 = (ar 4) := by
      have h9 : ar3 4 = (ar2 4) := hx3.2.2.2.2.1 4 (by decide) (by decide)
      rw [h9, F2_4]
    have F3_5 : ar3 5 = (ar 5) := by
      have h9 : ar3 5 = (ar2 5) := hx3.2.2.2.2.1 5 (by decide) (by decide)
      rw [h9, F2_5]
    have F3_7 : ar3 7 = (upd (ar 7) W.length (nI st1)) := by
      have h9 : ar3 7 = (ar2 7) := hx3.2.2.2.2.1 7 (by decide) (by decide)
      rw [h9, F2_7]
    have F3_8 : ar3 8 = (upd (ar 8) W.length (nI bf1)) := by
      have h9 : ar3 8 = (ar2 8) := hx3.2.2.2.2.1 8 (by decide) (by decide)
      rw [h9, F2_8]
    have F3_9 : ar3 9 = (upd (ar 9) W.length (nI j)) := by
      have h9 : ar3 9 = (ar2 9) := hx3.2.2.2.2.1 9 (by decide) (by decide)
      rw [h9, F2_9]
    have F3_10 : ar3 10 = (upd (ar 10) W.length (nI t1)) := by
      have h9 : ar3 10 = (ar2 10) := hx3.2.2.2.2.1 10 (by decide) (by decide)
      rw [h9, F2_10]
    have F3_11 : ar3 11 = (ar 11) := by
      have h9 : ar3 11 = (ar2 11) := hx3.2.2.2.2.1 11 (by decide) (by decide)
      rw [h9, F2_11]
    have F3_12 : ar3 12 = (ar 12) := by
      have h9 : ar3 12 = (ar2 12) := hx3.2.2.2.2.1 12 (by decide) (by decide)
      rw [h9, F2_12]
    have F3_13 : ar3 13 = (ar 13) := by
      have h9 : ar3 13 = (ar2 13) := hx3.2.2.2.2.1 13 (by decide) (by decide)
      rw [h9, F2_13]
    have F3_14 : ar3 14 = (ar 14) := by
      have h9 : ar3 14 = (ar2 14) := hx3.2.2.2.2.1 14 (by decide) (by decide)
      rw [h9, F2_14]
    have F3_15 : ar3 15 = (art 15) := by
      have h9 : ar3 15 = (ar2 15) := hx3.2.2.2.2.1 15 (by decide) (by decide)
      rw [h9, F2_15]
    have T3 : tg n3 q3 vl3 gv kn od G := T2.go hp2.2.1 g3 (fun t z1 z2 => hfr t (by omega) (by omega)) (fun t z1 z2 z => by have h9 := (hx3.2.2.2.2.2 t z1 z2).1; omega)
    have PM3 := PM2.go g3
    have PK3 := PK2.go g3
    have S3 : rg_s n3 q3 vl3 := S2.go hp2.2.1 hp3.2.1 g3 (fun t z1 z2 z => by have h9 := (hx3.2.2.2.2.2 t z1 z2).1; omega) PM3 PK3
    have x3_3 : sc3 3 = nI (W.length + 1) := (hx3.2.2.2.1 3 (by decide) (by decide)).trans (va_up_self _ _ _)
    have x4_3 : sc3 4 = nI W.length := (hx3.2.2.2.1 4 (by decide) (by decide)).trans ((va_up_ne _ _ (by decide)).trans x4_2)
    refine hm_iast (t := 3) (N := 520) (j := W.length) (f := (ar3 12)) C rfl (rf_at hA (i := 12) (by decide)) rfl (by omega) (by decide) nd_MO_send_236 ?_
    refine hm_eqM (rf_up hA (i := 12) (by decide) (upd (ar3 12) W.length (nI t3))) ?_
    refine hm_aload_n C nd_MO_send_237 rfl ?_
    refine hm_get C nF_MO_54 rf_m rfl nd_MO_send_238 ?_
    refine hm_aload_n C nd_MO_send_241 rfl ?_
    refine hm_get C nF_MO_128 rf_m rfl nd_MO_send_242 ?_
    refine hm_stk (st' := [.int (nI W.length), .ref (A 11)]) (by rw [x4_3]) ?_
    refine hm_aload_n C nd_MO_send_245 rfl ?_
    refine hm_iconst (v := 5) C nd_MO_send_246 (by decide) ?_
    refine hm_aload_n C nd_MO_send_247 rfl ?_
    refine hm_bipush (v := 6) C nd_MO_send_248 (by decide) ?_
    refine hm_aload_n C nd_MO_send_250 rfl ?_
    refine hm_get C nF_MO_66 rf_m rfl nd_MO_send_251 ?_
    refine hm_iconst (v := 3) C nd_MO_send_254 (by decide) ?_
    refine hm_iald (t := 3) (N := 33) (j := 3) (f := (ar3 15)) C rfl (rf_at hA (i := 15) (by decide)) rfl (by omega) (by decide) nd_MO_send_255 ?_
    refine hm_stk (st' := [.int (nI ts), .int 6, .ref m, .int 5, .ref m, .int (nI W.length), .ref (A 11)]) (by rw [F3_15, es]) ?_
    refine hm_iconst (v := 0) C nd_MO_send_256 (by decide) ?_
    refine hm_stk (st' := [.int (nI 0), .int (nI ts), .int (nI 6), .ref m, .int 5, .ref m, .int (nI W.length), .ref (A 11)]) rfl ?_
    have g03 := (g1.tr g2).tr g3
    have gs3 := g03.2 ts l3
    have hpB : rp sc3 (va_up ar3 12 (upd (ar3 12) W.length (nI t3))) n3 q3 vl3 (d1 + 1) := hp3.ha (fun i hi => by repeat rw [va_up_ne _ _ (by omega)])
    refine hm_callV C (ct_MO_mix m A hA sc3 (va_up ar3 12 (upd (ar3 12) W.length (nI t3))) n3 q3 vl3 (d1 + 1) hpB (by omega) 6 ts 0 (by omega) (by omega) (by omega) (by omega) (by rw [gs3.1]; exact s3) (by rw [hp3.2.1.2.1]; decide)) nV_MO_mix [.int (nI 6), .int (nI ts), .int (nI 0)] rfl rf_m rfl nq_MO_84 nj_MO_mix nx_MO_mix rfl (rest := [.int 5, .ref m, .int (nI W.length), .ref (A 11)]) rfl (Nat.le_of_ble_eq_true rfl) (by decide) (by decide) (by omega) (by omega) nd_MO_send_257 (fun r M5 hp => ?_)
    obtain ⟨t4, sc4, ar4, n4, q4, vl4, rfl, rfl, hp4, hx4, h14, h24, h34, h44⟩ := hp
    refine hm_stk (st' := [.int (nI t4), .int 5, .ref m, .int (nI W.length), .ref (A 11)]) rfl ?_
    have g4 : rgo n3 q3 vl3 n4 q4 vl4 := ⟨hx4.1, hx4.2.2.1⟩
    have le4 := hx4.1
    have ub4 := hx4.2.1
    have F4_4 : ar4 4 = (ar 4) := by
      have h9 : ar4 4 = (ar3 4) := hx4.2.2.2.2.1 4 (by decide) (by decide)
      rw [h9, F3_4]
    have F4_5 : ar4 5 = (ar 5) := by
      have h9 : ar4 5 = (ar3 5) := hx4.2.2.2.2.1 5 (by decide) (by decide)
      rw [h9, F3_5]
    have F4_7 : ar4 7 = (upd (ar 7) W.length (nI st1)) := by
      have h9 : ar4 7 = (ar3 7) := hx4.2.2.2.2.1 7 (by decide) (by decide)
      rw [h9, F3_7]
    have F4_8 : ar4 8 = (upd (ar 8) W.length (nI bf1)) := by
      have h9 : ar4 8 = (ar3 8) := hx4.2.2.2.2.1 8 (by decide) (by decide)
      rw [h9, F3_8]
    have F4_9 : ar4 9 = (upd (ar 9) W.length (nI j)) := by
      have h9 : ar4 9 = (ar3 9) := hx4.2.2.2.2.1 9 (by decide) (by decide)
      rw [h9, F3_9]
    have F4_10 : ar4 10 = (upd (ar 10) W.length (nI t1)) := by
      have h9 : ar4 10 = (ar3 10) := hx4.2.2.2.2.1 10 (by decide) (by decide)
      rw [h9, F3_10]
    have F4_11 : ar4 11 = (ar 11) := by
      have h9 : ar4 11 = (ar3 11) := hx4.2.2.2.2.1 11 (by decide) (by decide)
      rw [h9, F3_11]
    have F4_12 : ar4 12 = (upd (ar 12) W.length (nI t3)) := by
      have h9 : ar4 12 = (upd (ar3 12) W.length (nI t3)) := hx4.2.2.2.2.1 12 (by decide) (by decide)
      rw [h9, F3_12]
    have F4_13 : ar4 13 = (ar 13) := by
      have h9 : ar4 13 = (ar3 13) := hx4.2.2.2.2.1 13 (by decide) (by decide)
      rw [h9, F3_13]
    have F4_14 : ar4 14 = (ar 14) := by
      have h9 : ar4 14 = (ar3 14) := hx4.2.2.2.2.1 14 (by decide) (by decide)
      rw [h9, F3_14]
    have F4_15 : ar4 15 = (art 15) := by
      have h9 : ar4 15 = (ar3 15) := hx4.2.2.2.2.1 15 (by decide) (by decide)
      rw [h9, F3_15]
    have T4 : tg n4 q4 vl4 gv kn od G := T3.go hp3.2.1 g4 (fun t z1 z2 => hfr t (by omega) (by omega)) (fun t z1 z2 z => by have h9 := (hx4.2.2.2.2.2 t z1 z2).1; omega)
    have PM4 := PM3.go g4
    have PK4 := PK3.go g4
    have S4 : rg_s n4 q4 vl4 := S3.go hp3.2.1 hp4.2.1 g4 (fun t z1 z2 z => by have h9 := (hx4.2.2.2.2.2 t z1 z2).1; omega) PM4 PK4
    have x3_4 := (hx4.2.2.2.1 3 (by decide) (by decide)).trans x3_3
    have x4_4 := (hx4.2.2.2.1 4 (by decide) (by decide)).trans x4_3
    have v4 : vl4 t4 = sm_t 6 sd1 0 := by rw [h44, gs3.2, v3, hp3.2.1.1]
    refine hm_iload_n C nd_MO_send_260 rfl ?_
    refine hm_aload_n C nd_MO_send_261 rfl ?_
    refine hm_bipush (v := 6) C nd_MO_send_262 (by decide) ?_
    refine hm_iconst (v := 0) C nd_MO_send_264 (by decide) ?_
    refine hm_aload_n C nd_MO_send_265 rfl ?_
    refine hm_get C nF_MO_57 rf_m rfl nd_MO_send_266 ?_
    refine hm_aload_n C nd_MO_send_269 rfl ?_
    refine hm_get C nF_MO_128 rf_m rfl nd_MO_send_270 ?_
    refine hm_stk (st' := [.int (nI W.length), .ref (A 12), .int 0, .int 6, .ref m, .int (nI t2), .int (nI t4), .int 5, .ref m, .int (nI W.length), .ref (A 11)]) (by rw [x4_4]) ?_
    refine hm_iald (t := 3) (N := 520) (j := W.length) (f := (ar4 12)) C rfl (rf_at hA (i := 12) (by decide)) rfl (by omega) (by decide) nd_MO_send_273 ?_
    refine hm_stk (st' := [.int (nI t3), .int 0, .int 6, .ref m, .int (nI t2), .int (nI t4), .int 5, .ref m, .int (nI W.length), .ref (A 11)]) (by rw [F4_12, pk_us]) ?_
    refine hm_iconst (v := 0) C nd_MO_send_274 (by decide) ?_
    refine hm_stk (st' := [.int (nI 0), .int (nI t3), .int (nI 0), .int (nI 6), .ref m, .int (nI t2), .int (nI t4), .int 5, .ref m, .int (nI W.length), .ref (A 11)]) rfl ?_
    have g34 := g4.2 t3 h23
    obtain ⟨tbB, hhB⟩ := hp4.tb
    obtain ⟨w6, hw6⟩ := rrow (vl := vl4) hhB (6, 0, t3, 0)
    refine hm_callV C (ct_MO_term_s m A hA sc4 ar4 n4 q4 vl4 (d1 + 1) (d1 + 1) hp4.1 hp4.2.1 hp4.2.2.1 hp4.2.2.2.1 hp4.2.2.2.2 (by omega) 6 0 t3 0 w6 (by omega) (by omega) (by omega) (by omega) (fun t z1 z2 e => ⟨hw6 t z1 z2 e, rfl⟩) (Nat.le_refl _) (fun _ => rv_ok6 h13 (by omega) (by omega) (by rw [g34.1, h33]; decide) (by rw [hp4.2.1.2.1]; decide)) (fun z => absurd z (by decide))) nV_MO_term [.int (nI 6), .int (nI 0), .int (nI t3), .int (nI 0)] rfl rf_m rfl nq_MO_95 nj_MO_term nx_MO_term rfl (rest := [.int (nI t2), .int (nI t4), .int 5, .ref m, .int (nI W.length), .ref (A 11)]) rfl (Nat.le_of_ble_eq_true rfl) (by decide) (by decide) (by omega) (by omega) nd_MO_send_275 (fun r M6 hp => ?_)
    obtain ⟨t5, sc5, ar5, n5, q5, vl5, rfl, rfl, hp5, hx5, h15, h25, h35, h45⟩ := hp
    refine hm_stk (st' := [.int (nI t5), .int (nI t2), .int (nI t4), .int 5, .ref m, .int (nI W.length), .ref (A 11)]) rfl ?_
    have g5 : rgo n4 q4 vl4 n5 q5 vl5 := ⟨hx5.1, hx5.2.2.1⟩
    have le5 := hx5.1
    have ub5 := hx5.2.1
    have F5_4 : ar5 4 = (ar 4) := by
      have h9 : ar5 4 = (ar4 4) := hx5.2.2.2.2.1 4 (by decide) (by decide)
      rw [h9, F4_4]
    have F5_5 : ar5 5 = (ar 5) := by
      have h9 : ar5 5 = (ar4 5) := hx5.2.2.2.2.1 5 (by decide) (by decide)
      rw [h9, F4_5]
    have F5_7 : ar5 7 = (upd (ar 7) W.length (nI st1)) := by
      have h9 : ar5 7 = (ar4 7) := hx5.2.2.2.2.1 7 (by decide) (by decide)
      rw [h9, F4_7]
    have F5_8 : ar5 8 = (upd (ar 8) W.length (nI bf1)) := by
      have h9 : ar5 8 = (ar4 8) := hx5.2.2.2.2.1 8 (by decide) (by decide)
      rw [h9, F4_8]
    have F5_9 : ar5 9 = (upd (ar 9) W.length (nI j)) := by
      have h9 : ar5 9 = (ar4 9) := hx5.2.2.2.2.1 9 (by decide) (by decide)
      rw [h9, F4_9]
    have F5_10 : ar5 10 = (upd (ar 10) W.length (nI t1)) := by
      have h9 : ar5 10 = (ar4 10) := hx5.2.2.2.2.1 10 (by decide) (by decide)
      rw [h9, F4_10]
    have F5_11 : ar5 11 = (ar 11) := by
      have h9 : ar5 11 = (ar4 11) := hx5.2.2.2.2.1 11 (by decide) (by decide)
      rw [h9, F4_11]
    have F5_12 : ar5 12 = (upd (ar 12) W.length (nI t3)) := by
      have h9 : ar5 12 = (ar4 12) := hx5.2.2.2.2.1 12 (by decide) (by decide)
      rw [h9, F4_12]
    have F5_13 : ar5 13 = (ar 13) := by
      have h9 : ar5 13 = (ar4 13) := hx5.2.2.2.2.1 13 (by decide) (by decide)
      rw [h9, F4_13]
    have F5_14 : ar5 14 = (ar 14) := by
      have h9 : ar5 14 = (ar4 14) := hx5.2.2.2.2.1 14 (by decide) (by decide)
      rw [h9, F4_14]
    have F5_15 : ar5 15 = (art 15) := by
      have h9 : ar5 15 = (ar4 15) := hx5.2.2.2.2.1 15 (by decide) (by decide)
      rw [h9, F4_15]
    have T5 : tg n5 q5 vl5 gv kn od G := T4.go hp4.2.1 g5 (fun t z1 z2 => hfr t (by omega) (by omega)) (fun t z1 z2 z => by have h9 := (hx5.2.2.2.2.2 t z1 z2).1; rw [h9] at z; have z : 6 = 5 := z; omega)
    have PM5 := PM4.go g5
    have PK5 := PK4.go g5
    have S5 : rg_s n5 q5 vl5 := S4.go hp4.2.1 hp5.2.1 g5 (fun t z1 z2 z => by have h9 := (hx5.2.2.2.2.2 t z1 z2).1; rw [h9] at z; have z : 6 = 3 := z; omega) PM5 PK5
    have x3_5 := (hx5.2.2.2.1 3 (by decide) (by decide)).trans x3_4
    have x4_5 := (hx5.2.2.2.1 4 (by decide) (by decide)).trans x4_4
    have g25 := (g3.tr (g4.tr g5)).2 t2 h22
    have g45 := g5.2 t4 h24
    have g35 := (g4.tr g5).2 t3 h23
    have q25 : q5 t2 = (6, 1 + k9, tb, t1) := g25.1.trans h32
    have v35 : vl5 t3 = sm_t 0 (d1 + 1) 0 := g35.2.trans h43
    obtain ⟨tbC, hhC⟩ := hp5.tb
    refine hm_stk (st' := [.int (nI t5), .int (nI t2), .int (nI t4), .int (nI 5), .ref m, .int (nI W.length), .ref (A 11)]) rfl ?_
    refine hm_callV C (ct_MO_term_s m A hA sc5 ar5 n5 q5 vl5 (d1 + 1) (d1 + 1) hp5.1 hp5.2.1 hp5.2.2.1 hp5.2.2.2.1 hp5.2.2.2.2 (by omega) 5 t4 t2 t5 (sm_t 3 (sm_t 6 sd1 0) (sm_t 0 (d1 + 1) 0)) (by omega) (by omega) (by omega) (by omega) (fun t z1 z2 e => ⟨by have h9 := (hp5.2.1.2.2.1 t z1 z2).2.2.2.2.2.2.1 (by rw [e]); rw [e] at h9; have h8 : vl5 t = sm_t 3 (vl5 t4) (vl5 (q5 t5).2.2.1) := h9.2.2.2.2.2.2.2.2; rw [h8, g45.2, v4, h35]; show sm_t 3 _ (vl5 t3) = _; rw [v35], rfl⟩) (Nat.le_refl _) (fun _ => by have h9 := rv_ok5 (q := q5) (vl := vl5) (n := n5) (a := t4) (b := t2) (c := t5) (z := t3) (dr := d1 + 1) h14 (by omega) (by omega) h25 (by rw [g45.1, h34]; decide) (by rw [q25]) h35 (by omega); rw [g45.2, v4, v35] at h9; exact h9) (fun z => absurd z (by decide))) nV_MO_term [.int (nI 5), .int (nI t4), .int (nI t2), .int (nI t5)] rfl rf_m rfl nq_MO_95 nj_MO_term nx_MO_term rfl (rest := [.int (nI W.length), .ref (A 11)]) rfl (Nat.le_of_ble_eq_true rfl) (by decide) (by decide) (by omega) (by omega) nd_MO_send_278 (fun r M7 hp => ?_)
    obtain ⟨t6, sc6, ar6, n6, q6, vl6, rfl, rfl, hp6, hx6, h16, h26, h36, h46⟩ := hp
    refine hm_stk (st' := [.int (nI t6), .int (nI W.length), .ref (A 11)]) rfl ?_
    have g6 : rgo n5 q5 vl5 n6 q6 vl6 := ⟨hx6.1, hx6.2.2.1⟩
    have le6 := hx6.1
    have ub6 := hx6.2.1
    have F6_4 : ar6 4 = (ar 4) := by
      have h9 : ar6 4 = (ar5 4) := hx6.2.2.2.2.1 4 (by decide) (by decide)
      rw [h9, F5_4]
    have F6_5 : ar6 5 = (ar 5) := by
      have h9 : ar6 5 = (ar5 5) := hx6.2.2.2.2.1 5 (by decide) (by decide)
      rw [h9, F5_5]
    have F6_7 : ar6 7 = (upd (ar 7) W.length (nI st1)) := by
      have h9 : ar6 7 = (ar5 7) := hx6.2.2.2.2.1 7 (by decide) (by decide)
      rw [h9, F5_7]
    have F6_8 : ar6 8 = (upd (ar 8) W.length (nI bf1)) := by
      have h9 : ar6 8 = (ar5 8) := hx6.2.2.2.2.1 8 (by decide) (by decide)
      rw [h9, F5_8]
    have F6_9 : ar6 9 = (upd (ar 9) W.length (nI j)) := by
      have h9 : ar6 9 = (ar5 9) := hx6.2.2.2.2.1 9 (by decide) (by decide)
      rw [h9, F5_9]
    have F6_10 : ar6 10 = (upd (ar 10) W.length (nI t1)) := by
      have h9 : ar6 10 = (ar5 10) := hx6.2.2.2.2.1 10 (by decide) (by decide)
      rw [h9, F5_10]
    have F6_11 : ar6 11 = (ar 11) := by
      have h9 : ar6 11 = (ar5 11) := hx6.2.2.2.2.1 11 (by decide) (by decide)
      rw [h9, F5_11]
    have F6_12 : ar6 12 = (upd (ar 12) W.length (nI t3)) := by
      have h9 : ar6 12 = (ar5 12) := hx6.2.2.2.2.1 12 (by decide) (by decide)
      rw [h9, F5_12]
    have F6_13 : ar6 13 = (ar 13) := by
      have h9 : ar6 13 = (ar5 13) := hx6.2.2.2.2.1 13 (by decide) (by decide)
      rw [h9, F5_13]
    have F6_14 : ar6 14 = (ar 14) := by
      have h9 : ar6 14 = (ar5 14) := hx6.2.2.2.2.1 14 (by decide) (by decide)
      rw [h9, F5_14]
    have F6_15 : ar6 15 = (art 15) := by
      have h9 : ar6 15 = (ar5 15) := hx6.2.2.2.2.1 15 (by decide) (by decide)
      rw [h9, F5_15]
    have PM6 := PM5.go g6
    have PK6 := PK5.go g6
    have S6 : rg_s n6 q6 vl6 := S5.go hp5.2.1 hp6.2.1 g6 (fun t z1 z2 z => by have h9 := (hx6.2.2.2.2.2 t z1 z2).1; rw [h9] at z; have z : 5 = 3 := z; omega) PM6 PK6
    have x3_6 := (hx6.2.2.2.1 3 (by decide) (by decide)).trans x3_5
    have x4_6 := (hx6.2.2.2.1 4 (by decide) (by decide)).trans x4_5
    obtain ⟨tbD, hhD⟩ := hp6.tb
    have q26 : q6 t2 = (6, 1 + k9, tb, t1) := (g6.2 t2 (by omega)).1.trans q25
    have g16 := (g2.tr (g3.tr (g4.tr (g5.tr g6)))).2
    have v16 : vl6 t1 = sm_t 1 mi1 0 := (g16 t1 h21).2.trans v1
    have vb6 : vl6 tb = sp_b := (g16 tb lb).2.trans vb
    have T6 : tg n6 q6 vl6 (lrn gv t6) kn true (sp_gv G [sp_b, sm_t 1 mi1 0, sm_t 3 (sm_t 6 sd1 0) (sm_t 0 (d1 + 1) 0)]) := T5.sl hp5.2.1 hp6.2.1 hhD g6 (fun t z1 z2 => hfr t (by omega) (by omega)) (fun t z1 z2 => (hx6.2.2.2.2.2 t z1 z2).1) h16 h26 h36 h46 (by rw [q26]; exact vb6) (by rw [q26]; exact v16) (sm_t_ne _ _ _) (sm_t_ne _ _ _)
    have hd6 := rv_hd hp6.2.1 h16 h26 (by rw [h36])
    have ge6 : n ≤ t6 := by
      have q36 : (q6 (q6 t6).2.2.2).2.2.1 = t3 := by rw [h36]; show (q6 t5).2.2.1 = t3; rw [(g6.2 t5 h25).1, h35]
      rw [q36] at hd6
      rcases Nat.lt_or_ge t3 n with c | c
      · exfalso
        have hy3 := (hyt.1.tr g03).2 t3 c
        have h9 := b1.2.1.2.2.1 t3 h13 c
        have h8 := h9.2.2.1 (by rw [← hy3.1]; exact h33)
        have h7 := sm_t_inj (h8.2.2.2.symm.trans (hy3.2.symm.trans h43))
        have h6 : d1 ≤ dr + 1 := hd1
        have h5 : dr ≤ d1 := hd2 _ _ hS1
        omega
      · omega
    have gf6 : gv t6 = false := (hfr t6 ge6 (by omega)).1
    refine hm_iast (t := 3) (N := 520) (j := W.length) (f := (ar6 11)) C rfl (rf_at hA (i := 11) (by decide)) rfl (by omega) (by decide) nd_MO_send_281 ?_
    refine hm_eqM (rf_up hA (i := 11) (by decide) (upd (ar6 11) W.length (nI t6))) ?_
    refine hm_aload_n C nd_MO_send_282 rfl ?_
    refine hm_aload_n C nd_MO_send_283 rfl ?_
    refine hm_get C nF_MO_54 rf_m rfl nd_MO_send_284 ?_
    refine hm_aload_n C nd_MO_send_287 rfl ?_
    refine hm_get C nF_MO_128 rf_m rfl nd_MO_send_288 ?_
    refine hm_stk (st' := [.int (nI W.length), .ref (A 11), .ref m]) (by rw [x4_6]) ?_
    refine hm_iald (t := 3) (N := 520) (j := W.length) (f := (upd (ar6 11) W.length (nI t6))) C rfl (rf_at hA (i := 11) (by decide)) rfl (by omega) (by decide) nd_MO_send_291 ?_
    refine hm_stk (st' := [.int (nI t6), .ref m]) (by rw [pk_us]) ?_
    refine hm_callV C (ct_MO_give m A hA sc6 (va_up ar6 11 (upd (ar6 11) W.length (nI t6))) gv (by show ∀ t, t < 20000 → ar6 4 t = b2i (gv t); rw [F6_4]; exact b2) t6 (by omega)) nV_MO_give [.int (nI t6)] rfl rf_m rfl nq_MO_131 nj_MO_give nx_MO_give rfl (rest := []) rfl (Nat.le_of_ble_eq_true rfl) (by decide) (by decide) (by omega) (by omega) nd_MO_send_292 (fun r M8 hp => ?_)
    obtain ⟨rfl, sc7, ar7, rfl, hs7, ha7, hg7, ho7⟩ := hp
    refine hm_stk (st' := []) rfl ?_
    have F7_5 : ar7 5 = (ar 5) := by
      have h9 : ar7 5 = (ar6 5) := ha7 5 (by decide)
      rw [h9, F6_5]
    have F7_7 : ar7 7 = (upd (ar 7) W.length (nI st1)) := by
      have h9 : ar7 7 = (ar6 7) := ha7 7 (by decide)
      rw [h9, F6_7]
    have F7_8 : ar7 8 = (upd (ar 8) W.length (nI bf1)) := by
      have h9 : ar7 8 = (ar6 8) := ha7 8 (by decide)
      rw [h9, F6_8]
    have F7_9 : ar7 9 = (upd (ar 9) W.length (nI j)) := by
      have h9 : ar7 9 = (ar6 9) := ha7 9 (by decide)
      rw [h9, F6_9]
    have F7_10 : ar7 10 = (upd (ar 10) W.length (nI t1)) := by
      have h9 : ar7 10 = (ar6 10) := ha7 10 (by decide)
      rw [h9, F6_10]
    have F7_11 : ar7 11 = (upd (ar 11) W.length (nI t6)) := by
      have h9 : ar7 11 = (upd (ar6 11) W.length (nI t6)) := ha7 11 (by decide)
      rw [h9, F6_11]
    have F7_12 : ar7 12 = (upd (ar 12) W.length (nI t3)) := by
      have h9 : ar7 12 = (ar6 12) := ha7 12 (by decide)
      rw [h9, F6_12]
    have F7_13 : ar7 13 = (ar 13) := by
      have h9 : ar7 13 = (ar6 13) := ha7 13 (by decide)
      rw [h9, F6_13]
    have F7_14 : ar7 14 = (ar 14) := by
      have h9 : ar7 14 = (ar6 14) := ha7 14 (by decide)
      rw [h9, F6_14]
    have F7_15 : ar7 15 = (art 15) := by
      have h9 : ar7 15 = (ar6 15) := ha7 15 (by decide)
      rw [h9, F6_15]
    have od7 : sc7 1 = 1 := by
      rcases ho7 with h | ⟨-, h | h⟩
      · exact h
      · omega
      · rw [gf6] at h; cases h
    have x3_7 : sc7 3 = _ := (hs7 3 (by decide)).trans x3_6
    have x4_7 : sc7 4 = _ := (hs7 4 (by decide)).trans x4_6
    have fr7 : ∀ t, n6 ≤ t → t < 20000 → lrn gv t6 t = false ∧ kn t = false := fun t z1 z2 => ⟨lrn_f (by omega) (hfr t (by omega) z2).1, (hfr t (by omega) z2).2⟩
    have hp7 : rp sc7 ar7 n6 q6 vl6 (d1 + 1) := (hp6.ha (ar' := va_up ar6 11 (upd (ar6 11) W.length (nI t6))) (fun i hi => by repeat rw [va_up_ne _ _ (by omega)])).g4 hs7 ha7 (fun t z1 z2 => by rw [hg7 t z2, (fr7 t z1 z2).1]; rfl)
    have g06 := g03.tr (g4.tr (g5.tr g6))
    have gs6 := g06.2 ts l3
    refine hm_aload_n C nd_MO_send_295 rfl ?_
    refine hm_get C nF_MO_66 rf_m rfl nd_MO_send_296 ?_
    refine hm_iconst (v := 3) C nd_MO_send_299 (by decide) ?_
    refine hm_aload_n C nd_MO_send_300 rfl ?_
    refine hm_bipush (v := 7) C nd_MO_send_301 (by decide) ?_
    refine hm_aload_n C nd_MO_send_303 rfl ?_
    refine hm_get C nF_MO_66 rf_m rfl nd_MO_send_304 ?_
    refine hm_iconst (v := 3) C nd_MO_send_307 (by decide) ?_
    refine hm_iald (t := 3) (N := 33) (j := 3) (f := (ar7 15)) C rfl (rf_at hA (i := 15) (by decide)) rfl (by omega) (by decide) nd_MO_send_308 ?_
    refine hm_stk (st' := [.int (nI ts), .int 7, .ref m, .int 3, .ref (A 15)]) (by rw [F7_15, es]) ?_
    refine hm_iconst (v := 0) C nd_MO_send_309 (by decide) ?_
    refine hm_stk (st' := [.int (nI 0), .int (nI ts), .int (nI 7), .ref m, .int 3, .ref (A 15)]) rfl ?_
    refine hm_callV C (ct_MO_mix m A hA sc7 ar7 n6 q6 vl6 (d1 + 1) hp7 (by omega) 7 ts 0 (by omega) (by omega) (by omega) (by omega) (by rw [gs6.1]; exact s3) (by rw [hp6.2.1.2.1]; decide)) nV_MO_mix [.int (nI 7), .int (nI ts), .int (nI 0)] rfl rf_m rfl nq_MO_84 nj_MO_mix nx_MO_mix rfl (rest := [.int 3, .ref (A 15)]) rfl (Nat.le_of_ble_eq_true rfl) (by decide) (by decide) (by omega) (by omega) nd_MO_send_310 (fun r M9 hp => ?_)
    obtain ⟨t8, sc8, ar8, n8, q8, vl8, rfl, rfl, hp8, hx8, h18, h28, h38, h48⟩ := hp
    refine hm_stk (st' := [.int (nI t8), .int 3, .ref (A 15)]) rfl ?_
    have g8 : rgo n6 q6 vl6 n8 q8 vl8 := ⟨hx8.1, hx8.2.2.1⟩
    have le8 := hx8.1
    have ub8 := hx8.2.1
    have F8_5 : ar8 5 = (ar 5) := by
      have h9 : ar8 5 = (ar7 5) := hx8.2.2.2.2.1 5 (by decide) (by decide)
      rw [h9, F7_5]
    have F8_7 : ar8 7 = (upd (ar 7) W.length (nI st1)) := by
      have h9 : ar8 7 = (ar7 7) := hx8.2.2.2.2.1 7 (by decide) (by decide)
      rw [h9, F7_7]
    have F8_8 : ar8 8 = (upd (ar 8) W.length (nI bf1)) := by
      have h9 : ar8 8 = (ar7 8) := hx8.2.2.2.2.1 8 (by decide) (by decide)
      rw [h9, F7_8]
    have F8_9 : ar8 9 = (upd (ar 9) W.length (nI j)) := by
      have h9 : ar8 9 = (ar7 9) := hx8.2.2.2.2.1 9 (by decide) (by decide)
      rw [h9, F7_9]
    have F8_10 : ar8 10 = (upd (ar 10) W.length (nI t1)) := by
      have h9 : ar8 10 = (ar7 10) := hx8.2.2.2.2.1 10 (by decide) (by decide)
      rw [h9, F7_10]
    have F8_11 : ar8 11 = (upd (ar 11) W.length (nI t6)) := by
      have h9 : ar8 11 = (ar7 11) := hx8.2.2.2.2.1 11 (by decide) (by decide)
      rw [h9, F7_11]
    have F8_12 : ar8 12 = (upd (ar 12) W.length (nI t3)) := by
      have h9 : ar8 12 = (ar7 12) := hx8.2.2.2.2.1 12 (by decide) (by decide)
      rw [h9, F7_12]
    have F8_13 : ar8 13 = (ar 13) := by
      have h9 : ar8 13 = (ar7 13) := hx8.2.2.2.2.1 13 (by decide) (by decide)
      rw [h9, F7_13]
    have F8_14 : ar8 14 = (ar 14) := by
      have h9 : ar8 14 = (ar7 14) := hx8.2.2.2.2.1 14 (by decide) (by decide)
      rw [h9, F7_14]
    have F8_15 : ar8 15 = (art 15) := by
      have h9 : ar8 15 = (ar7 15) := hx8.2.2.2.2.1 15 (by decide) (by decide)
      rw [h9, F7_15]
    have F8_4 : ar8 4 = ar7 4 := hx8.2.2.2.2.1 4 (by decide) (by decide)
    have x1_8 : sc8 1 = 1 := (hx8.2.2.2.1 1 (by decide) (by decide)).trans od7
    have x3_8 := (hx8.2.2.2.1 3 (by decide) (by decide)).trans x3_7
    have x4_8 := (hx8.2.2.2.1 4 (by decide) (by decide)).trans x4_7
    have v8 : vl8 t8 = sm_t 7 sd1 0 := by rw [h48, gs6.2, v3, hp6.2.1.1]
    have T8 : tg n8 q8 vl8 (lrn gv t6) kn true (sp_gv G [sp_b, sm_t 1 mi1 0, sm_t 3 (sm_t 6 sd1 0) (sm_t 0 (d1 + 1) 0)]) := T6.go hp6.2.1 g8 (fun t z1 z2 => fr7 t z1 (by omega)) (fun t z1 z2 z => by have h9 := (hx8.2.2.2.2.2 t z1 z2).1; omega)
    have PM8 := PM6.go g8
    have PK8 := PK6.go g8
    have S8 : rg_s n8 q8 vl8 := S6.go hp6.2.1 hp8.2.1 g8 (fun t z1 z2 z => by have h9 := (hx8.2.2.2.2.2 t z1 z2).1; omega) PM8 PK8
    have g08 := g06.tr g8
    have gn8 := hyt.1.tr g08
    refine hm_iast (t := 3) (N := 33) (j := 3) (f := (ar8 15)) C rfl (rf_at hA (i := 15) (by decide)) rfl (by omega) (by decide) nd_MO_send_313 ?_
    refine hm_eqM (rf_up hA (i := 15) (by decide) (upd (ar8 15) 3 (nI t8))) ?_
    refine hm_aload_n C nd_MO_send_314 rfl ?_
    refine hm_get C nF_MO_66 rf_m rfl nd_MO_send_315 ?_
    refine hm_iconst (v := 4) C nd_MO_send_318 (by decide) ?_
    refine hm_dup2 C nd_MO_send_319 rfl rfl ?_
    refine hm_iald (t := 3) (N := 33) (j := 4) (f := (upd (ar8 15) 3 (nI t8))) C rfl (rf_at hA (i := 15) (by decide)) rfl (by omega) (by decide) nd_MO_send_320 ?_
    refine hm_stk (st' := [.int (nI st1), .int 4, .ref (A 15)]) (by rw [pk_un (by decide), F8_15, a5]) ?_
    refine hm_iconst (v := 1) C nd_MO_send_321 (by decide) ?_
    refine hm_iadd C nd_MO_send_322 ?_
    refine hm_stk (st' := [.int (nI (st1 + 1)), .int 4, .ref (A 15)]) (by rw [nI_1]) ?_
    refine hm_iast (t := 3) (N := 33) (j := 4) (f := (upd (ar8 15) 3 (nI t8))) C rfl (rf_at hA (i := 15) (by decide)) rfl (by omega) (by decide) nd_MO_send_323 ?_
    refine hm_eqM (rf_up hA (i := 15) (by decide) (upd (upd (ar8 15) 3 (nI t8)) 4 (nI (st1 + 1)))) ?_
    refine hm_aload_n C nd_MO_send_324 rfl ?_
    refine hm_iload_n C nd_MO_send_325 rfl ?_
    refine hm_callV C (ct_MO_store m A hA sc8 (va_up (va_up ar8 15 (upd (ar8 15) 3 (nI t8))) 15 (upd (upd (ar8 15) 3 (nI t8)) 4 (nI (st1 + 1)))) j hj) nV_MO_store [.int (nI j)] rfl rf_m rfl nq_MO_134 nj_MO_store nx_MO_store rfl (rest := []) rfl (Nat.le_of_ble_eq_true rfl) (by decide) (by decide) (by omega) (by omega) nd_MO_send_326 (fun r M10 hp => ?_)
    obtain ⟨rfl, ar9, rfl, hs9, hl9, ho9⟩ := hp
    refine hm_stk (st' := []) rfl ?_
    have F9_5 : ar9 5 = (ar 5) := by
      have h9 : ar9 5 = (ar8 5) := hs9 5 (by decide)
      rw [h9, F8_5]
    have F9_7 : ar9 7 = (upd (ar 7) W.length (nI st1)) := by
      have h9 : ar9 7 = (ar8 7) := hs9 7 (by decide)
      rw [h9, F8_7]
    have F9_8 : ar9 8 = (upd (ar 8) W.length (nI bf1)) := by
      have h9 : ar9 8 = (ar8 8) := hs9 8 (by decide)
      rw [h9, F8_8]
    have F9_9 : ar9 9 = (upd (ar 9) W.length (nI j)) := by
      have h9 : ar9 9 = (ar8 9) := hs9 9 (by decide)
      rw [h9, F8_9]
    have F9_10 : ar9 10 = (upd (ar 10) W.length (nI t1)) := by
      have h9 : ar9 10 = (ar8 10) := hs9 10 (by decide)
      rw [h9, F8_10]
    have F9_11 : ar9 11 = (upd (ar 11) W.length (nI t6)) := by
      have h9 : ar9 11 = (ar8 11) := hs9 11 (by decide)
      rw [h9, F8_11]
    have F9_12 : ar9 12 = (upd (ar 12) W.length (nI t3)) := by
      have h9 : ar9 12 = (ar8 12) := hs9 12 (by decide)
      rw [h9, F8_12]
    have F9_14 : ar9 14 = (ar 14) := by
      have h9 : ar9 14 = (ar8 14) := hs9 14 (by decide)
      rw [h9, F8_14]
    have F9_15 : ar9 15 = (upd (upd (art 15) 3 (nI t8)) 4 (nI (st1 + 1))) := by
      have h9 : ar9 15 = (upd (upd (ar8 15) 3 (nI t8)) 4 (nI (st1 + 1))) := hs9 15 (by decide)
      rw [h9, F8_15]
    have F9_4 : ar9 4 = ar7 4 := (hs9 4 (by decide)).trans F8_4
    refine hm_aload_n C nd_MO_send_329 rfl ?_
    refine hm_dup C nd_MO_send_330 rfl ?_
    refine hm_get C nF_MO_128 rf_m rfl nd_MO_send_331 ?_
    refine hm_stk (st' := [.int (nI W.length), .ref m]) (by rw [x4_8]) ?_
    refine hm_iconst (v := 1) C nd_MO_send_334 (by decide) ?_
    refine hm_iadd C nd_MO_send_335 ?_
    refine hm_stk (st' := [.int (nI (W.length + 1)), .ref m]) (by rw [nI_1]) ?_
    refine hm_put C nF_MO_128 rf_m (Nat.le_of_ble_eq_true rfl) rfl rfl nd_MO_send_336 ?_
    refine hm_eqM (rf_pt (sc' := va_up sc8 4 (nI (W.length + 1)))) ?_
    refine hm_aload_n C nd_MO_send_339 rfl ?_
    refine hm_get C nF_MO_128 rf_m rfl nd_MO_send_340 ?_
    refine hm_stk (st' := [.int (nI (W.length + 1))]) (rfl) ?_
    refine hm_iconst (v := 1) C nd_MO_send_343 (by decide) ?_
    refine hm_isub C nd_MO_send_344 ?_
    refine hm_stk (st' := [.int (nI W.length)]) (by rw [nI_m1 (by omega), Nat.add_sub_cancel]) ?_
    have re9 : re n8 q8 vl8 (fun k => ar9 13 (33 * j + k)) (ro1, mi1, sm_t 1 k0 0, sm_t 7 sd1 0, st1 + 1, bf1, rc, nx, lf) := by
      have h9 := ((hrt.go g08).u3 (x := nI t8) ⟨t8, rfl, h28, by rw [h38]; decide, v8⟩).u4 (x := nI (st1 + 1)) (v := st1 + 1) rfl
      refine h9.cg (fun k hk => ?_)
      show ar9 13 (33 * j + k) = _
      rw [hl9 k hk]
      show (upd (upd (ar8 15) 3 (nI t8)) 4 (nI (st1 + 1))) k = _
      rw [F8_15]
    have hp9 : rp (va_up sc8 4 (nI (W.length + 1))) ar9 n8 q8 vl8 (d1 + 1) := (hp8.ha (ar' := ar9) (fun i hi => by rw [hs9 i (by omega)]; repeat rw [va_up_ne _ _ (show i ≠ 15 by omega)])).sc rfl rfl
    have o13 : ∀ i, i < 33 * j ∨ 33 * j + 33 ≤ i → ar9 13 i = ar 13 i := fun i hi => by
      rw [ho9 i hi]
      show ar8 13 i = ar 13 i
      rw [F8_13]
    have hold : ∀ a i, 7 ≤ a → a ≤ 12 → i < W.length → ar9 a i = ar a i := by
      intro a i z1 z2 z3
      obtain rfl | rfl | rfl | rfl | rfl | rfl : a = 7 ∨ a = 8 ∨ a = 9 ∨ a = 10 ∨ a = 11 ∨ a = 12 := by omega
      · rw [F9_7, pk_un (by omega)]
      · rw [F9_8, pk_un (by omega)]
      · rw [F9_9, pk_un (by omega)]
      · rw [F9_10, pk_un (by omega)]
      · rw [F9_11, pk_un (by omega)]
      · rw [F9_12, pk_un (by omega)]
    have q68 : q8 t6 = (5, t4, t2, t5) := (g8.2 t6 h26).1.trans h36
    have q58 : q8 t5 = (6, 0, t3, 0) := ((g6.tr g8).2 t5 h25).1.trans h35
    have vt6 : vl8 t6 = sm_t 3 (sm_t 6 sd1 0) (sm_t 0 (d1 + 1) 0) := (g8.2 t6 h26).2.trans h46
    have gt8 := (g2.tr (g3.tr (g4.tr (g5.tr (g6.tr g8))))).2 t1 h21
    have hnew : rw_R n8 q8 vl8 ar9 W.length (j, st1, bf1, mi1, sm_t 6 sd1 0, sm_t 0 (d1 + 1) 0) := by
      refine ⟨by rw [F9_7, pk_us], by rw [F9_8, pk_us], by rw [F9_9, pk_us], by rw [F9_10, pk_us]; exact ⟨t1, rfl, by omega, by rw [gt8.1, h31]; decide, gt8.2.trans v1⟩, t6, by rw [F9_11, pk_us], h16, by omega, by rw [q68], vt6, ?_⟩
      rw [F9_12, pk_us, q68]
      show _ = nI (q8 t5).2.2.1
      rw [q58]
    have hfin : mo_I (va_up sc8 4 (nI (W.length + 1))) ar9 n8 q8 vl8 (d1 + 1) (lrn gv t6) kn true (fun i => if i = j then (ro1, mi1, sm_t 1 k0 0, sm_t 7 sd1 0, st1 + 1, bf1, rc, nx, lf) else Es i) (W ++ [(j, st1, bf1, mi1, sm_t 6 sd1 0, sm_t 0 (d1 + 1) 0)]) (sp_gv G [sp_b, sm_t 1 mi1 0, sm_t 3 (sm_t 6 sd1 0) (sm_t 0 (d1 + 1) 0)]) := by
      have hlen : (W ++ [(j, st1, bf1, mi1, sm_t 6 sd1 0, sm_t 0 (d1 + 1) 0)]).length = W.length + 1 := by rw [List.length_append]; rfl
      refine ⟨hp9, by rw [F9_4]; exact hg7, by rw [F9_5]; exact b3, x1_8, ⟨by rw [hlen]; exact x3_8, by rw [hlen]; exact va_up_self _ _ _⟩, ?_, fun i hi => ?_, fun i hi => ?_, fun i z hz => ?_, T8, S8, fun i hi => ?_, fun _ => ?_⟩
      · show rid n8 q8 vl8 (sc8 5) sp_b
        rw [hx8.2.2.2.1 5 (by decide) (by decide), hs7 5 (by decide), hx6.2.2.2.1 5 (by decide) (by decide), hx5.2.2.2.1 5 (by decide) (by decide), hx4.2.2.2.1 5 (by decide) (by decide), hx3.2.2.2.1 5 (by decide) (by decide), va_up_ne _ _ (by decide), hx2.2.2.2.1 5 (by decide) (by decide), hx1.2.2.2.1 5 (by decide) (by decide)]
        exact x5.go g08
      · show re n8 q8 vl8 _ (if i = j then _ else Es i)
        by_cases c : i = j
        · subst c
          rw [if_pos rfl]
          exact re9
        · rw [if_neg c]
          exact ((b7 i hi).go gn8).cg (fun k hk => o13 _ (by omega))
      · show re n8 q8 vl8 _ (if i + 2 = j then _ else Es (i + 2))
        rw [if_neg (by omega), F9_14]
        exact (b8 i hi).go gn8
      · have hi2 : i < (W ++ [(j, st1, bf1, mi1, sm_t 6 sd1 0, sm_t 0 (d1 + 1) 0)]).length := (List.getElem?_eq_some_iff.mp hz).1
        rw [hlen] at hi2
        by_cases c : i = W.length
        · subst c
          rw [List.getElem?_append_right (Nat.le_refl _), Nat.sub_self] at hz
          injection hz with hz
          rw [← hz]
          exact hnew
        · rw [List.getElem?_append_left (by omega)] at hz
          exact (b9 i z hz).go b1.2.1 gn8 (fun a a1 a2 => hold a i a1 a2 (by omega))
      · dsimp only
        by_cases c : i = j
        · rw [if_pos c]
          exact PM8
        · rw [if_neg c]
          exact (b12 i hi).go gn8
      · by_cases c : W = []
        · refine ⟨t1, h11, by omega, by rw [gt8.1, h31], ?_⟩
          rw [gt8.2, v1, hm0 c]
        · obtain ⟨p, p1, p2, p3, p4⟩ := b13 c
          exact ⟨p, p1, Nat.lt_of_lt_of_le p2 gn8.1, by rw [(gn8.2 p p2).1]; exact p3, by rw [(gn8.2 p p2).2]; exact p4⟩
    have hsd := sp_sd_eq (j := j) hS1
    exact hm_iret C E (by omega) (by omega) (⟨rfl, _, ar9, n8, q8, vl8, lrn gv t6, true, by omega, rfl, by rw [hsd]; exact hfin⟩) nd_MO_send_345
  obtain ⟨b1, b2, b3, b4, b5, b6, b7, b8, b9, b10, b11, b12, b13⟩ := id hI
  refine hm_iload_n C nd_MO_send_0 rfl ?_
  refine hm_callS C (ct_MO_isEnd_in _ j hj) nV_MO_isEnd nq_MO_115 nu_MO_isEnd rfl (rest := []) rfl (Nat.le_of_ble_eq_true rfl) (by decide) (by decide) (by omega) (by omega) nd_MO_send_1 (fun r M1 hp => ?_)
  obtain ⟨rfl, eM1⟩ := hp
  rw [eM1]
  refine hm_stk (st' := [.int 1]) rfl ?_
  refine hm_if_ne (tgt := 9) C nd_MO_send_4 (by decide) (fun c0 => ?_) (fun c0 => absurd c0 (by decide))
  refine hm_aload_n C nd_MO_send_9 rfl ?_
  refine hm_iload_n C nd_MO_send_10 rfl ?_
  refine hm_callV C (ct_MO_load m A hA sc ar j hj) nV_MO_load [.int (nI j)] rfl rf_m rfl nq_MO_118 nj_MO_load nx_MO_load rfl (rest := []) rfl (Nat.le_of_ble_eq_true rfl) (by decide) (by decide) (by omega) (by omega) nd_MO_send_11 (fun r M2 hp => ?_)
  obtain ⟨rfl, ar1, rfl, hs1, hl1⟩ := hp
  refine hm_stk (st' := []) rfl ?_
  have hI1 : mo_I sc ar1 n q vl dr gv kn od Es W G := hI.ha (fun _ _ => rfl) hs1
  have hr : re n q vl (ar1 15) (Es j) := (b7 j hj).cg (fun k hk => hl1 k hk)
  rw [he] at hr
  obtain ⟨a1, a2, a3, a4, a5, a6, a7, a8, a9, a10, a11⟩ := id hr
  dsimp only at a1 a2 a3 a4 a5 a6 a7 a8 a9 a10 a11
  have n2 := b1.1.2.2.1
  refine hm_aload_n C nd_MO_send_14 rfl ?_
  refine hm_get C nF_MO_66 rf_m rfl nd_MO_send_15 ?_
  refine hm_iconst (v := 3) C nd_MO_send_18 (by decide) ?_
  refine hm_iald (t := 3) (N := 33) (j := 3) (f := (ar1 15)) C rfl (rf_at hA (i := 15) (by decide)) rfl (by omega) (by decide) nd_MO_send_19 ?_
  refine hm_if_ne (tgt := 35) C nd_MO_send_20 (by decide) (fun d1 => ?_) (fun d1 => ?_)
  · have sz : sd ≠ 0 := fun z => d1 ((b1.z a4).mpr z)
    obtain ⟨vs, hS1⟩ := sp_s1_2 (dr := dr) (ro := ro) (mi := mi) (th := sm_t 1 k0 0) (st := st) (bf := bf) (rc := rc) (nx := nx) (lf := lf) sz
    refine hm_aload_n C nd_MO_send_35 rfl ?_
    refine hm_get C nF_MO_66 rf_m rfl nd_MO_send_36 ?_
    refine hm_iconst (v := 3) C nd_MO_send_39 (by decide) ?_
    refine hm_iald (t := 3) (N := 33) (j := 3) (f := (ar1 15)) C rfl (rf_at hA (i := 15) (by decide)) rfl (by omega) (by decide) nd_MO_send_40 ?_
    refine hm_if_ne (tgt := 131) C nd_MO_send_41 (by decide) (fun d2 => ?_) (fun d2 => (d1 d2).elim)
    exact H2 ro mi sd st bf dr vs 0 sc ar1 n q vl ar1 hs1 hI1.1 ry.rf (by omega) (by omega) hr hmi0 (fun z => by
      have h9 := hW0 z j (by omega)
      rw [he] at h9
      unfold sp_E0 at h9
      by_cases c : j = 0 ∨ j = 2
      · rw [if_pos c] at h9
        exact congrArg (fun e : sp_E => e.2.1) h9
      · rw [if_neg c] at h9
        exact absurd (congrArg (fun e : sp_E => e.2.2.1) h9) (sm_t_ne _ _ _)) (by rw [he]; exact hS1)
  · have sz : sd = 0 := (b1.z a4).mp d1
    obtain ⟨vs, hS1⟩ := sp_s1_1 (dr := dr) (ro := ro) (mi := mi) (k := k0) (st := st) (bf := bf) (rc := rc) (nx := nx) (lf := lf) sz
    refine hm_aload_n C nd_MO_send_23 rfl ?_
    refine hm_get C nF_MO_66 rf_m rfl nd_MO_send_24 ?_
    refine hm_iconst (v := 2) C nd_MO_send_27 (by decide) ?_
    refine hm_iald (t := 3) (N := 33) (j := 2) (f := (ar1 15)) C rfl (rf_at hA (i := 15) (by decide)) rfl (by omega) (by decide) nd_MO_send_28 ?_
    refine hm_if_ne (tgt := 35) C nd_MO_send_29 (by decide) (fun d2 => ?_) (fun d2 => (sm_t_ne _ _ _ ((b1.z a3).mp d2)).elim)
    refine hm_aload_n C nd_MO_send_35 rfl ?_
    refine hm_get C nF_MO_66 rf_m rfl nd_MO_send_36 ?_
    refine hm_iconst (v := 3) C nd_MO_send_39 (by decide) ?_
    refine hm_iald (t := 3) (N := 33) (j := 3) (f := (ar1 15)) C rfl (rf_at hA (i := 15) (by decide)) rfl (by omega) (by decide) nd_MO_send_40 ?_
    refine hm_if_ne (tgt := 131) C nd_MO_send_41 (by decide) (fun d3 => (d3 d1).elim) (fun d3 => ?_)
    obtain ⟨tth, eth, q1', q2', q3', q4', q5', q6'⟩ := rid_p b1.2.1 a3
    obtain ⟨t0, e0, l0, s0, v0⟩ := id a1
    have hz0 : (q 0).1 ≤ 4 := by rw [b1.2.1.2.1]; decide
    refine hm_aload_n C nd_MO_send_44 rfl ?_
    refine hm_get C nF_MO_66 rf_m rfl nd_MO_send_45 ?_
    refine hm_iconst (v := 5) C nd_MO_send_48 (by decide) ?_
    refine hm_aload_n C nd_MO_send_49 rfl ?_
    refine hm_get C nF_MO_66 rf_m rfl nd_MO_send_50 ?_
    refine hm_iconst (v := 4) C nd_MO_send_53 (by decide) ?_
    refine hm_iald (t := 3) (N := 33) (j := 4) (f := (ar1 15)) C rfl (rf_at hA (i := 15) (by decide)) rfl (by omega) (by decide) nd_MO_send_54 ?_
    refine hm_stk (st' := [.int (nI st), .int 5, .ref (A 15)]) (by rw [a5]) ?_
    refine hm_iast (t := 3) (N := 33) (j := 5) (f := (ar1 15)) C rfl (rf_at hA (i := 15) (by decide)) rfl (by omega) (by decide) nd_MO_send_55 ?_
    refine hm_eqM (rf_up hA (i := 15) (by decide) (upd (ar1 15) 5 (nI st))) ?_
    refine hm_aload_n C nd_MO_send_56 rfl ?_
    refine hm_get C nF_MO_66 rf_m rfl nd_MO_send_57 ?_
    refine hm_iconst (v := 4) C nd_MO_send_60 (by decide) ?_
    refine hm_iconst (v := 0) C nd_MO_send_61 (by decide) ?_
    refine hm_iast (t := 3) (N := 33) (j := 4) (f := (upd (ar1 15) 5 (nI st))) C rfl (rf_at hA (i := 15) (by decide)) rfl (by omega) (by decide) nd_MO_send_62 ?_
    refine hm_eqM (rf_up hA (i := 15) (by decide) (upd (upd (ar1 15) 5 (nI st)) 4 0)) ?_
    refine hm_aload_n C nd_MO_send_63 rfl ?_
    refine hm_get C nF_MO_66 rf_m rfl nd_MO_send_64 ?_
    refine hm_iconst (v := 1) C nd_MO_send_67 (by decide) ?_
    refine hm_aload_n C nd_MO_send_68 rfl ?_
    refine hm_callV C (ct_MO_draw m A hA sc (va_up (va_up ar1 15 (upd (ar1 15) 5 (nI st))) 15 (upd (upd (ar1 15) 5 (nI st)) 4 0)) n q vl dr (hI1.1.ha (fun i hi => by repeat rw [va_up_ne _ _ (by omega)])) (by omega) (by omega)) nV_MO_draw [] rfl rf_m rfl nq_MO_69 nj_MO_draw nx_MO_draw rfl (rest := [.int 1, .ref (A 15)]) rfl (Nat.le_of_ble_eq_true rfl) (by decide) (by decide) (by omega) (by omega) nd_MO_send_69 (fun r M3 hp => ?_)
    obtain ⟨t2, sc2, ar2, n2, q2, vl2, rfl, rfl, hp2, hx2, h12, h22, h32, h42⟩ := hp
    refine hm_stk (st' := [.int (nI t2), .int 1, .ref (A 15)]) rfl ?_
    have g2 : rgo n q vl n2 q2 vl2 := ⟨hx2.1, hx2.2.2.1⟩
    have u2 := hx2.2.1
    have l2 := hx2.1
    have f2 : ar2 15 = (upd (upd (ar1 15) 5 (nI st)) 4 0) := hx2.2.2.2.2.1 15 (by decide) (by decide)
    have r2 : re n2 q2 vl2 (upd (ar2 15) 1 (nI t2)) (ro, sm_t 0 (dr + 1) 0, sm_t 1 k0 0, sd, 0, st, rc, nx, lf) := by
      rw [f2]
      exact (((hr.go g2).u5 (x := nI st) (v := st) rfl).u4 (x := 0) (v := 0) rfl).u1 ⟨t2, rfl, h22, by rw [h32]; decide, h42⟩
    obtain ⟨z1, z2, z3, z4, -⟩ := id r2
    refine hm_iast (t := 3) (N := 33) (j := 1) (f := (ar2 15)) C rfl (rf_at hA (i := 15) (by decide)) rfl (by omega) (by decide) nd_MO_send_72 ?_
    refine hm_eqM (rf_up hA (i := 15) (by decide) (upd (ar2 15) 1 (nI t2))) ?_
    refine hm_aload_n C nd_MO_send_73 rfl ?_
    refine hm_aload_n C nd_MO_send_74 rfl ?_
    refine hm_get C nF_MO_66 rf_m rfl nd_MO_send_75 ?_
    refine hm_iconst (v := 1) C nd_MO_send_78 (by decide) ?_
    refine hm_iald (t := 3) (N := 33) (j := 1) (f := (upd (ar2 15) 1 (nI t2))) C rfl (rf_at hA (i := 15) (by decide)) rfl (by omega) (by decide) nd_MO_send_79 ?_
    refine hm_stk (st' := [.int (nI t2), .ref m]) (by rw [pk_us]) ?_
    refine hm_aload_n C nd_MO_send_80 rfl ?_
    refine hm_get C nF_MO_17 rf_m rfl nd_MO_send_81 ?_
    refine hm_aload_n C nd_MO_send_84 rfl ?_
    refine hm_get C nF_MO_66 rf_m rfl nd_MO_send_85 ?_
    refine hm_iconst (v := 2) C nd_MO_send_88 (by decide) ?_
    refine hm_iald (t := 3) (N := 33) (j := 2) (f := (upd (ar2 15) 1 (nI t2))) C rfl (rf_at hA (i := 15) (by decide)) rfl (by omega) (by decide) nd_MO_send_89 ?_
    refine hm_stk (st' := [.int (nI tth), .ref (A 1), .int (nI t2), .ref m]) (by rw [pk_un (by decide), f2, pk_un (by decide), pk_un (by decide), eth]) ?_
    have gq := g2.2 tth q2'
    have gqa := g2.2 (q tth).2.1 q4'
    have gone : ar2 1 tth = nI (q tth).2.1 := by rw [(hp2.1.2.2.2.1 tth q1' (by omega)).2.1, gq.1]
    refine hm_iald (t := 3) (N := 20000) (j := tth) (f := (ar2 1)) C rfl (rf_at hA (i := 1) (by decide)) rfl (by omega) (by decide) nd_MO_send_90 ?_
    refine hm_stk (st' := [.int (nI (q tth).2.1), .int (nI t2), .ref m]) (by rw [gone]) ?_
    have hpb : rp sc2 (va_up ar2 15 (upd (ar2 15) 1 (nI t2))) n2 q2 vl2 (dr + 1) := hp2.ha (fun i hi => by repeat rw [va_up_ne _ _ (by omega)])
    refine hm_callV C (ct_MO_shared m A hA sc2 (va_up ar2 15 (upd (ar2 15) 1 (nI t2))) n2 q2 vl2 (dr + 1) hpb (by omega) t2 (q tth).2.1 h22 (by omega) h32 (by rw [gqa.1]; exact q5')) nV_MO_shared [.int (nI t2), .int (nI (q tth).2.1)] rfl rf_m rfl nq_MO_80 nj_MO_shared nx_MO_shared rfl (rest := []) rfl (Nat.le_of_ble_eq_true rfl) (by decide) (by decide) (by omega) (by omega) nd_MO_send_91 (fun r M4 hp => ?_)
    obtain ⟨t3, sc3, ar3, n3, q3, vl3, rfl, rfl, hp3, hx3, h13, h23, h33, h43⟩ := hp
    refine hm_stk (st' := [.int (nI t3)]) rfl ?_
    have g3 : rgo n2 q2 vl2 n3 q3 vl3 := ⟨hx3.1, hx3.2.2.1⟩
    have u3 := hx3.2.1
    have l3 := hx3.1
    have f3 : ar3 15 = upd (ar2 15) 1 (nI t2) := hx3.2.2.2.2.1 15 (by decide) (by decide)
    have v3 : vl3 t3 = sm_sh (sm_t 0 (dr + 1) 0) k0 := by rw [h43, h42, gqa.2, q6']
    have e03 : ar3 15 0 = nI t0 := by rw [f3, pk_un (by decide), f2, pk_un (by decide), pk_un (by decide), e0]
    have g03 := (g2.tr g3).2 t0 l0
    refine hm_istore_n C [(2, .int (nI t3)), (0, .ref m), (1, .int (nI j))] nd_MO_send_94 (by decide) rfl ?_
    refine hm_aload_n C nd_MO_send_95 rfl ?_
    refine hm_get C nF_MO_66 rf_m rfl nd_MO_send_96 ?_
    refine hm_iconst (v := 3) C nd_MO_send_99 (by decide) ?_
    refine hm_aload_n C nd_MO_send_100 rfl ?_
    refine hm_iconst (v := 5) C nd_MO_send_101 (by decide) ?_
    refine hm_aload_n C nd_MO_send_102 rfl ?_
    refine hm_get C nF_MO_66 rf_m rfl nd_MO_send_103 ?_
    refine hm_iconst (v := 0) C nd_MO_send_106 (by decide) ?_
    refine hm_iald (t := 3) (N := 33) (j := 0) (f := (ar3 15)) C rfl (rf_at hA (i := 15) (by decide)) rfl (by omega) (by decide) nd_MO_send_107 ?_
    refine hm_stk (st' := [.int (nI t0), .int 5, .ref m, .int 3, .ref (A 15)]) (by rw [e03]) ?_
    refine hm_iload_n C nd_MO_send_108 rfl ?_
    refine hm_stk (st' := [.int (nI t3), .int (nI t0), .int (nI 5), .ref m, .int 3, .ref (A 15)]) rfl ?_
    refine hm_callV C (ct_MO_mix m A hA sc3 ar3 n3 q3 vl3 (dr + 1) hp3 (by omega) 5 t0 t3 (by omega) (by omega) (by omega) h23 (by rw [g03.1]; exact s0) (by rw [h33]; decide)) nV_MO_mix [.int (nI 5), .int (nI t0), .int (nI t3)] rfl rf_m rfl nq_MO_84 nj_MO_mix nx_MO_mix rfl (rest := [.int 3, .ref (A 15)]) rfl (Nat.le_of_ble_eq_true rfl) (by decide) (by decide) (by omega) (by omega) nd_MO_send_109 (fun r M5 hp => ?_)
    obtain ⟨t4, sc4, ar4, n4, q4, vl4, rfl, rfl, hp4, hx4, h14, h24, h34, h44⟩ := hp
    refine hm_stk (st' := [.int (nI t4), .int 3, .ref (A 15)]) rfl ?_
    have g4 : rgo n3 q3 vl3 n4 q4 vl4 := ⟨hx4.1, hx4.2.2.1⟩
    have u4 := hx4.2.1
    have l4 := hx4.1
    have f4 : ar4 15 = ar3 15 := hx4.2.2.2.2.1 15 (by decide) (by decide)
    have v4 : vl4 t4 = sm_t 5 ro (sm_sh (sm_t 0 (dr + 1) 0) k0) := by rw [h44, g03.2, v0, v3]
    have g04 := (g2.tr (g3.tr g4)).2 t0 l0
    have g34 := g4.2 t3 h23
    refine hm_iast (t := 3) (N := 33) (j := 3) (f := (ar4 15)) C rfl (rf_at hA (i := 15) (by decide)) rfl (by omega) (by decide) nd_MO_send_112 ?_
    refine hm_eqM (rf_up hA (i := 15) (by decide) (upd (ar4 15) 3 (nI t4))) ?_
    refine hm_aload_n C nd_MO_send_113 rfl ?_
    refine hm_get C nF_MO_66 rf_m rfl nd_MO_send_114 ?_
    refine hm_iconst (v := 0) C nd_MO_send_117 (by decide) ?_
    refine hm_aload_n C nd_MO_send_118 rfl ?_
    refine hm_iconst (v := 4) C nd_MO_send_119 (by decide) ?_
    refine hm_aload_n C nd_MO_send_120 rfl ?_
    refine hm_get C nF_MO_66 rf_m rfl nd_MO_send_121 ?_
    refine hm_iconst (v := 0) C nd_MO_send_124 (by decide) ?_
    refine hm_iald (t := 3) (N := 33) (j := 0) (f := (upd (ar4 15) 3 (nI t4))) C rfl (rf_at hA (i := 15) (by decide)) rfl (by omega) (by decide) nd_MO_send_125 ?_
    refine hm_stk (st' := [.int (nI t0), .int 4, .ref m, .int 0, .ref (A 15)]) (by rw [pk_un (by decide), f4, e03]) ?_
    refine hm_iload_n C nd_MO_send_126 rfl ?_
    refine hm_stk (st' := [.int (nI t3), .int (nI t0), .int (nI 4), .ref m, .int 0, .ref (A 15)]) rfl ?_
    have hpd : rp sc4 (va_up ar4 15 (upd (ar4 15) 3 (nI t4))) n4 q4 vl4 (dr + 1) := hp4.ha (fun i hi => by repeat rw [va_up_ne _ _ (by omega)])
    refine hm_callV C (ct_MO_mix m A hA sc4 (va_up ar4 15 (upd (ar4 15) 3 (nI t4))) n4 q4 vl4 (dr + 1) hpd (by omega) 4 t0 t3 (by omega) (by omega) (by omega) (by omega) (by rw [g04.1]; exact s0) (by rw [g34.1, h33]; decide)) nV_MO_mix [.int (nI 4), .int (nI t0), .int (nI t3)] rfl rf_m rfl nq_MO_84 nj_MO_mix nx_MO_mix rfl (rest := [.int 0, .ref (A 15)]) rfl (Nat.le_of_ble_eq_true rfl) (by decide) (by decide) (by omega) (by omega) nd_MO_send_127 (fun r M6 hp => ?_)
    obtain ⟨t5, sc5, ar5, n5, q5, vl5, rfl, rfl, hp5, hx5, h15, h25, h35, h45⟩ := hp
    refine hm_stk (st' := [.int (nI t5), .int 0, .ref (A 15)]) rfl ?_
    have g5 : rgo n4 q4 vl4 n5 q5 vl5 := ⟨hx5.1, hx5.2.2.1⟩
    have u5 := hx5.2.1
    have f5 : ar5 15 = upd (ar4 15) 3 (nI t4) := hx5.2.2.2.2.1 15 (by decide) (by decide)
    have v5 : vl5 t5 = sm_t 4 ro (sm_sh (sm_t 0 (dr + 1) 0) k0) := by rw [h45, g04.2, v0, g34.2, v3]
    have r5 : re n5 q5 vl5 (upd (ar5 15) 0 (nI t5)) (sm_t 4 ro (sm_sh (sm_t 0 (dr + 1) 0) k0), sm_t 0 (dr + 1) 0, sm_t 1 k0 0, sm_t 5 ro (sm_sh (sm_t 0 (dr + 1) 0) k0), 0, st, rc, nx, lf) := by
      rw [f5, f4, f3]
      exact ((r2.go (g3.tr (g4.tr g5))).u3 (rid.go ⟨t4, rfl, h24, by rw [h34]; decide, v4⟩ g5)).u0 ⟨t5, rfl, h25, by rw [h35]; decide, v5⟩
    refine hm_iast (t := 3) (N := 33) (j := 0) (f := (ar5 15)) C rfl (rf_at hA (i := 15) (by decide)) rfl (by omega) (by decide) nd_MO_send_130 ?_
    refine hm_eqM (rf_up hA (i := 15) (by decide) (upd (ar5 15) 0 (nI t5))) ?_
    refine hm_less (lv' := [(0, .ref m), (1, .int (nI j))]) (fun z hz => by simp only [List.mem_cons, List.not_mem_nil, or_false] at hz ⊢; rcases hz with h | h <;> subst h <;> simp [nI_0]) ?_
    refine H2 _ _ _ _ _ (dr + 1) vs 4 sc5 _ n5 q5 vl5 ar1 hs1 (hp5.ha (fun i hi => by repeat rw [va_up_ne _ _ (by omega)])) ?_ (by omega) (by omega) (by rw [va_up_self]; exact r5) ⟨_, rfl⟩ (fun z => ?_) (by rw [he]; exact hS1)
    · have y2 := (hx2.ry (P' := (fun a' v' => a'.1 ≠ 5 ∧ (a'.1 = 3 → v' = sm_sh (sm_t 0 (dr + 1) 0) k0))) (Nat.le_refl 1) (fun a v z => ⟨by omega, fun z9 => by omega⟩)).ha (ar'' := va_up ar2 15 (upd (ar2 15) 1 (nI t2))) (fun i hi => by repeat rw [va_up_ne _ _ hi])
      have y3 := hx3.ry (P' := (fun a' v' => a'.1 ≠ 5 ∧ (a'.1 = 3 → v' = sm_sh (sm_t 0 (dr + 1) 0) k0))) (Nat.le_refl 1) (fun a v z => ⟨by omega, fun _ => by rw [z.2, h42, gqa.2, q6']⟩)
      have y4 := (hx4.ry (P' := (fun a' v' => a'.1 ≠ 5 ∧ (a'.1 = 3 → v' = sm_sh (sm_t 0 (dr + 1) 0) k0))) (Nat.le_refl 1) (fun a v z => ⟨by omega, fun z9 => by omega⟩)).ha (ar'' := va_up ar4 15 (upd (ar4 15) 3 (nI t4))) (fun i hi => by repeat rw [va_up_ne _ _ hi])
      have y5 := hx5.ry (P' := (fun a' v' => a'.1 ≠ 5 ∧ (a'.1 = 3 → v' = sm_sh (sm_t 0 (dr + 1) 0) k0))) (Nat.le_refl 1) (fun a v z => ⟨by omega, fun z9 => by omega⟩)
      have yy := ((((ry.rf (P := (fun a' v' => a'.1 ≠ 5 ∧ (a'.1 = 3 → v' = sm_sh (sm_t 0 (dr + 1) 0) k0))) (k := 0) (sc := sc) (ar := ar1) (n := n) (q := q) (vl := vl)).ha (ar'' := va_up (va_up ar1 15 (upd (ar1 15) 5 (nI st))) 15 (upd (upd (ar1 15) 5 (nI st)) 4 0)) (fun i hi => by repeat rw [va_up_ne _ _ hi])).tr y2).tr y3).tr (y4.tr y5)
      exact (yy.ha (fun i hi => by repeat rw [va_up_ne _ _ hi])).mn (by omega) (fun _ _ z => z)
    · have h9 := hW0 z j (by omega)
      rw [he] at h9
      unfold sp_E0 at h9
      by_cases c : j = 0 ∨ j = 2
      · rw [if_pos c] at h9
        have h8 : sd = sm_t 5 sp_c (sm_sh sp_r sp_p) := congrArg (fun e : sp_E => e.2.2.2.1) h9
        rw [sz] at h8
        exact absurd h8.symm (sm_t_ne _ _ _)
      · rw [if_neg c] at h9
        exact absurd (congrArg (fun e : sp_E => e.2.2.1) h9) (sm_t_ne _ _ _)
