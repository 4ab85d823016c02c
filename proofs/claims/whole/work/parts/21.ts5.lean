theorem ts_r_bd : ∀ (vs : List Nat) (K : Nat → Prop) (n c : Nat), c ≤ 2 * n + 10 → (ts_r K n c vs).2 ≤ 2 * (ts_r K n c vs).1 + 10 ∧ (ts_r K n c vs).1 ≤ n + vs.length
  | [], K, n, c, h => ⟨h, Nat.le_refl _⟩
  | v :: vs, K, n, c, h => by
    rw [List.length_cons]
    by_cases hk : K v
    · rw [ts_r_pos hk]
      have := ts_r_bd vs K n c h
      exact ⟨this.1, by omega⟩
    · rw [ts_r_neg hk]
      have hl : li_c c n ≤ 2 * (n + 1) + 10 := by
        unfold li_c
        split
        · split <;> omega
        · omega
      have := ts_r_bd vs (fun x => K x ∨ x = v) (n + 1) (li_c c n) hl
      exact ⟨this.1, by omega⟩
/-- what a client may read of a term -/
theorem ts_get {D : va_G} {M : hm_M} {tm : Nat} {F : Nat → Prop} {T : Nat → Nat → Nat → Prop} {G : Nat → Prop} {dr n c se : Nat} (hS : ts_S D M tm F T G dr n c se) {a i v : Nat} (h : T a i v) : ∃ (k : Nat) (lf rt er lu pb : Option Nat) (w : Int32), M a = some (hm_ob 2 [.int (nI k), .int (nI i), va_rf lf, va_rf rt, va_rf er, va_rf lu, va_rf pb, .int w]) ∧ i < n ∧ n ≤ 65536 ∧ (∀ t, v = sm_t 1 t 0 → ∃ z iz, lf = some z ∧ T z iz t) := by
  obtain ⟨la, ea, ad, kd, lf, rt, er, lu, pb, dv, vl, hX, hI, rfl, rfl⟩ := hS
  obtain ⟨hi, rfl, rfl⟩ := h
  refine ⟨kd i, _, _, _, _, _, _, hX.2.2.1 i hi, hi, ?_, fun t ht => ?_⟩
  · obtain ⟨-, ⟨m, -, h1, -⟩, -, h2⟩ := hX
    omega
  · have hk : kd i = 1 := by
      by_cases c0 : kd i = 0
      · obtain ⟨d, -, -, e⟩ := hI.2.2.2.1.2.1 i hi c0
        rw [ht] at e
        have := (sm_t_inj e).1
        omega
      · have e := hI.2.2.2.1.1 i hi c0
        rw [ht] at e
        exact (sm_t_inj e).1.symm
    obtain ⟨e1, j, e2, e3, e4⟩ := (hI.2.1 i hi).2.1 hk
    have e := hI.2.2.2.1.1 i hi (by omega)
    rw [ht, e2] at e
    exact ⟨ad j, j, by rw [e2]; rfl, Nat.lt_trans ((hI.1 i hi).2.1 j e2) hi, rfl, (sm_t_inj e).2.1⟩
/-- a term has one value; a value has one term -/
theorem ts_uni {D : va_G} {M : hm_M} {tm : Nat} {F : Nat → Prop} {T : Nat → Nat → Nat → Prop} {G : Nat → Prop} {dr n c se : Nat} (hS : ts_S D M tm F T G dr n c se) {a i v b j w : Nat} (h1 : T a i v) (h2 : T b j w) : (a = b ↔ v = w) ∧ (a = b → i = j) := by
  obtain ⟨la, ea, ad, kd, lf, rt, er, lu, pb, dv, vl, hX, hI, rfl, rfl⟩ := hS
  obtain ⟨hi, rfl, rfl⟩ := h1
  obtain ⟨hj, rfl, rfl⟩ := h2
  refine ⟨⟨fun e => by rw [ts_inj hX hi hj e], fun e => by rw [hI.2.2.2.1.2.2.2 i j hi hj e]⟩, fun e => ts_inj hX hi hj e⟩
theorem ts_ord {D : va_G} {M : hm_M} {tm : Nat} {F : Nat → Prop} {T : Nat → Nat → Nat → Prop} {G : Nat → Prop} {dr n c se : Nat} (hS : ts_S D M tm F T G dr n c se) {a i x b j y d e : Nat} (h1 : T a i x) (h2 : T b j y) (hx : x = sm_t 0 d 0) (hy : y = sm_t 0 e 0) : i < j ↔ x < y := by
  obtain ⟨la, ea, ad, kd, lf, rt, er, lu, pb, dv, vl, hX, hI, rfl, rfl⟩ := hS
  obtain ⟨hi, rfl, rfl⟩ := h1
  obtain ⟨hj, rfl, rfl⟩ := h2
  have k0 : ∀ {i d : Nat}, i < n → vl i = sm_t 0 d 0 → kd i = 0 := by
    intro i d hi e
    rcases Nat.eq_zero_or_pos (kd i) with h | h
    · exact h
    · have h2 := hI.2.2.2.1.1 i hi (by omega)
      rw [e] at h2
      have := (sm_t_inj h2).1
      omega
  have ki := k0 hi hx
  have kj := k0 hj hy
  constructor
  · intro h
    exact hI.2.2.2.1.2.2.1 i j h hj ki kj
  · intro h
    rcases Nat.lt_trichotomy i j with q | q | q
    · exact q
    · rw [q] at h; exact absurd h (Nat.lt_irrefl _)
    · have := hI.2.2.2.1.2.2.1 j i q hi kj ki
      omega
theorem ts_tm {D : va_G} {M : hm_M} {tm : Nat} {F : Nat → Prop} {T : Nat → Nat → Nat → Prop} {G : Nat → Prop} {dr n c se : Nat} (hS : ts_S D M tm F T G dr n c se) : ∃ la : Nat, M tm = some (hm_ob 1 [.ref la, .int (nI dr), .int (nI se)]) ∧ F tm := by
  obtain ⟨la, ea, ad, kd, lf, rt, er, lu, pb, dv, vl, hX, hI, rfl, rfl⟩ := hS
  exact ⟨la, hX.1, Or.inl rfl⟩
theorem ts_TF {D : va_G} {M : hm_M} {tm : Nat} {F : Nat → Prop} {T : Nat → Nat → Nat → Prop} {G : Nat → Prop} {dr n c se : Nat} (hS : ts_S D M tm F T G dr n c se) {a i v : Nat} (h : T a i v) : F a := by
  obtain ⟨la, ea, ad, kd, lf, rt, er, lu, pb, dv, vl, hX, hI, rfl, rfl⟩ := hS
  exact Or.inr (Or.inr (Or.inr ⟨i, h.1, h.2.1⟩))
/-- SHARED of two secrets, the older first -/
def sm_sh (x t : Nat) : Nat := if x < t then sm_t 2 x t else sm_t 2 t x
set_option maxHeartbeats 4000000 in
set_option maxRecDepth 100000 in
theorem ct_TS_sharedOf {l : Launch} {D : va_G} {BG : Nat → Option Cell} (M : hm_M) (tm : Nat) (F : Nat → Prop) (T : Nat → Nat → Nat → Prop) (G : Nat → Prop) (dr n c se : Nat) (hS : ts_S D M tm F T G dr n c se) (hcn : c ≤ 2 * n + 10) (hn : n ≤ 19900) (a i x d b j t e : Nat) (hTs : T a i x) (hd : x = sm_t 0 d 0) (hTo : T b j (sm_t 1 t 0)) (ht : t = sm_t 0 e 0) : hm_ct l D BG ny_TS_sharedOf prog_5_method_4_code 4 (some (.object "TurnedKeys$Term")) 9 221 (ts_kc (ts_k T) n c [sm_t 1 x 0, sm_sh x t]) (ts_ks (ts_k T) n c [sm_t 1 x 0, sm_sh x t]) [.ref tm, .ref a, .ref b] M (fun r M' => ∃ q F' T', r = some (.ref q) ∧ ts_P D tm M F T G n c se dr [sm_t 1 x 0, sm_sh x t] M' F' T' ∧ ∃ j, T' q j (sm_sh x t)) := by
  refine hm_ct_of (by decide +kernel) (by exact Nat.le_of_ble_eq_true rfl) ?_
  intro X C E
  have C : hm_C X l D BG prog_5_method_4_code "TurnedKeys$Terms" "sharedOf" 4 9 221 (ts_kc (ts_k T) n c [sm_t 1 x 0, sm_sh x t]) (ts_ks (ts_k T) n c [sm_t 1 x 0, sm_sh x t]) := C
  obtain ⟨k0, lf0, rt0, er0, lu0, pb0, w0, ho0, hj0, hn0, hl0⟩ := ts_get hS hTo
  obtain ⟨z0, iz0, rfl, hTz0⟩ := hl0 t rfl
  obtain ⟨la0, ht0, -⟩ := ts_tm hS
  refine hm_lv (lv' := [(0, .ref tm), (1, .ref a), (2, .ref b)]) rfl ?_
  refine hm_aload_n C nd_TS_sharedOf_0 rfl ?_
  refine hm_ifnull (tgt := 15) (r := (some a)) C nd_TS_sharedOf_1 (by decide) (fun h => by cases h) (fun _ => ?_)
  refine hm_aload_n C nd_TS_sharedOf_4 rfl ?_
  refine hm_ifnull (tgt := 15) (r := (some b)) C nd_TS_sharedOf_5 (by decide) (fun h => by cases h) (fun _ => ?_)
  refine hm_aload_n C nd_TS_sharedOf_8 rfl ?_
  refine hm_get C nF_TS_32 ho0 rfl nd_TS_sharedOf_9 ?_
  refine hm_ifnonnull (tgt := 17) (r := (some z0)) C nd_TS_sharedOf_12 (by decide) (fun _ => ?_) (fun h => by cases h)
  refine hm_aload_n C nd_TS_sharedOf_17 rfl ?_
  refine hm_aload_n C nd_TS_sharedOf_18 rfl ?_
  refine hm_callV C (ct_TS_publicOf M tm F T G dr n c se hS (by omega) a i x d hTs hd) nV_TS_publicOf [.ref a] rfl ht0 rfl nq_TS_35 nj_TS_publicOf nx_TS_publicOf rfl (rest := []) rfl (Nat.le_of_ble_eq_true rfl) (by decide) (by decide) (by have := ts_kc_app [sm_t 1 x 0] [sm_sh x t] (ts_k T) n c; rw [List.singleton_append] at this; omega) (by have := ts_ks_app [sm_t 1 x 0] [sm_sh x t] (ts_k T) n c; rw [List.singleton_append] at this; omega) nd_TS_sharedOf_19 (fun r M1 hp => ?_)
  obtain ⟨q1, F1, T1, rfl, hP1, j1, hq1⟩ := hp
  have hb1 := ts_r_bd [sm_t 1 x 0] (ts_k T) n c hcn
  have hkc := ts_kc_app [sm_t 1 x 0] [sm_sh x t] (ts_k T) n c
  have hks := ts_ks_app [sm_t 1 x 0] [sm_sh x t] (ts_k T) n c
  rw [← hP1.k, List.singleton_append] at hkc hks
  have hlen : ([sm_t 1 x 0] : List Nat).length = 1 := rfl
  have hS1 := hP1.1
  have hTo1 := hP1.2.2.1 _ _ _ hTo
  have hTs1 := hP1.2.2.1 _ _ _ hTs
  obtain ⟨k1, lf1, rt1, er1, lu1, pb1, w1, ho1, hj2, hn1, hl1⟩ := ts_get hS1 hTo1
  obtain ⟨z1, iz1, rfl, hTz1⟩ := hl1 t rfl
  obtain ⟨k2, lf2, rt2, er2, lu2, pb2, w2, hs1, hi2, hn2, -⟩ := ts_get hS1 hTs1
  obtain ⟨k3, lf3, rt3, er3, lu3, pb3, w3, hz1, hi3, hn3, -⟩ := ts_get hS1 hTz1
  obtain ⟨la1, ht1, -⟩ := ts_tm hS1
  have hord := ts_ord hS1 hTs1 hTz1 hd ht
  have hkp : ts_k T1 (sm_t 1 x 0) := ⟨_, _, hq1⟩
  have hkt : ts_k T1 (sm_t 1 t 0) := ⟨_, _, hTo1⟩
  refine hm_stk (st' := [.ref q1]) rfl ?_
  refine hm_pop C nd_TS_sharedOf_22 rfl ?_
  refine hm_aload_n C nd_TS_sharedOf_23 rfl ?_
  refine hm_get C nF_TS_32 ho1 rfl nd_TS_sharedOf_24 ?_
  refine hm_astore_n C [(3, .ref z1), (0, .ref tm), (1, .ref a), (2, .ref b)] nd_TS_sharedOf_27 (by decide) rfl ?_
  refine hm_aload_n C nd_TS_sharedOf_28 rfl ?_
  refine hm_get C nF_TS_39 hs1 rfl nd_TS_sharedOf_29 ?_
  refine hm_aload_n C nd_TS_sharedOf_32 rfl ?_
  refine hm_get C nF_TS_39 hz1 rfl nd_TS_sharedOf_33 ?_
  refine hm_icmp_ge (tgt := 49) C nd_TS_sharedOf_36 (by decide) (fun cc => ?_) (fun cc => ?_)
  · have hsh : sm_sh x t = sm_t 2 t x := if_neg (fun h => nI_ge (hord.mpr h) (by omega) cc)
    rw [hsh] at hkc hks
    refine hm_aload_n C nd_TS_sharedOf_49 rfl ?_
    refine hm_iconst (v := 2) C nd_TS_sharedOf_50 (by decide) ?_
    refine hm_aload_n C nd_TS_sharedOf_51 rfl ?_
    refine hm_aload_n C nd_TS_sharedOf_52 rfl ?_
    refine hm_stk (st' := [va_rf (some a), va_rf (some z1), .int (nI 2), .ref tm]) rfl ?_
    refine hm_callV C (ct_TS_made M1 tm F1 T1 G dr _ _ se hS1 (by omega) 2 t x (some z1) (some a) (Or.inr ⟨_, _, rfl, hTz1⟩) (Or.inr ⟨_, _, rfl, hTs1⟩) (fun h => by cases h.1) (by omega) (by omega) (fun _ => ⟨e, d, ht, hd, hkt, hkp⟩) (fun h => by omega)) nV_TS_made [.int (nI 2), va_rf (some z1), va_rf (some a)] rfl ht1 rfl nq_TS_42 nj_TS_made nx_TS_made rfl (rest := []) rfl (Nat.le_of_ble_eq_true rfl) (by decide) (by decide) (by rw [hsh]; omega) (by rw [hsh]; omega) nd_TS_sharedOf_53 (fun r M2 hp => ?_)
    obtain ⟨q, F2, T2, rfl, hP2, hq2, -⟩ := hp
    refine hm_stk (st' := [.ref q]) rfl ?_
    exact hm_aret (r := (some q)) C E (Or.inl ⟨_, rfl⟩) (by rw [hsh]; omega) (by rw [hsh]; omega) (⟨q, F2, T2, rfl, by rw [hsh]; exact hP1.tr hP2, by rw [hsh]; exact hq2⟩) nd_TS_sharedOf_56
  · have hsh : sm_sh x t = sm_t 2 x t := if_pos (hord.mp (by rcases Nat.lt_or_ge i iz1 with z | z; exact z; exact absurd (nI_le z (by omega)) cc))
    rw [hsh] at hkc hks
    refine hm_aload_n C nd_TS_sharedOf_39 rfl ?_
    refine hm_iconst (v := 2) C nd_TS_sharedOf_40 (by decide) ?_
    refine hm_aload_n C nd_TS_sharedOf_41 rfl ?_
    refine hm_aload_n C nd_TS_sharedOf_42 rfl ?_
    refine hm_stk (st' := [va_rf (some z1), va_rf (some a), .int (nI 2), .ref tm]) rfl ?_
    refine hm_callV C (ct_TS_made M1 tm F1 T1 G dr _ _ se hS1 (by omega) 2 x t (some a) (some z1) (Or.inr ⟨_, _, rfl, hTs1⟩) (Or.inr ⟨_, _, rfl, hTz1⟩) (fun h => by cases h.1) (by omega) (by omega) (fun _ => ⟨d, e, hd, ht, hkp, hkt⟩) (fun h => by omega)) nV_TS_made [.int (nI 2), va_rf (some a), va_rf (some z1)] rfl ht1 rfl nq_TS_42 nj_TS_made nx_TS_made rfl (rest := []) rfl (Nat.le_of_ble_eq_true rfl) (by decide) (by decide) (by rw [hsh]; omega) (by rw [hsh]; omega) nd_TS_sharedOf_43 (fun r M3 hp => ?_)
    obtain ⟨q, F2, T2, rfl, hP2, hq2, -⟩ := hp
    refine hm_stk (st' := [.ref q]) rfl ?_
    refine hm_goto (tgt := 56) C nd_TS_sharedOf_46 (by decide) ?_
    exact hm_aret (r := (some q)) C E (Or.inl ⟨_, rfl⟩) (by rw [hsh]; omega) (by rw [hsh]; omega) (⟨q, F2, T2, rfl, by rw [hsh]; exact hP1.tr hP2, by rw [hsh]; exact hq2⟩) nd_TS_sharedOf_56
