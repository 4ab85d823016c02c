theorem rt_I.sc {sc sc' : Nat → Int32} {ar : Nat → Nat → Int32} {n : Nat} {q : Nat → rq} (h : rt_I sc ar n q) (e : sc' 0 = sc 0) : rt_I sc' ar n q := ⟨e.trans h.1, h.2⟩
theorem rt_I.ar {sc : Nat → Int32} {ar ar' : Nat → Nat → Int32} {n : Nat} {q : Nat → rq} (h : rt_I sc ar n q) (e : ∀ i, i = 0 ∨ i = 1 ∨ i = 2 ∨ i = 3 ∨ i = 6 → ar' i = ar i) : rt_I sc ar' n q := by
  obtain ⟨a1, a2, a3, a4, a5, tb, a6, a7⟩ := h
  exact ⟨a1, a2, a3, fun t t1 t2 => by rw [e 0 (by omega), e 1 (by omega), e 2 (by omega), e 3 (by omega)]; exact a4 t t1 t2, a5, tb, fun k hk => by rw [e 6 (by omega)]; exact a6 k hk, a7⟩
theorem rv_ok1 {q : Nat → rq} {vl : Nat → Nat} {n d dr : Nat} (h1 : 1 ≤ d) (h2 : d ≤ dr) : rv_ok (va_up q n (1, d, 0, 0)) (va_up vl n (sm_t 0 d 0)) dr n := by
  unfold rv_ok
  rw [va_up_self, va_up_self]
  exact ⟨(by show 1 ≤ 1; decide), (by show 1 ≤ 6; decide), fun _ => ⟨h1, h2, rfl, rfl⟩, fun z => absurd z (by show ¬ (1 = 2); decide), fun z => absurd z (by show ¬ (1 = 3); decide), fun z => absurd z (by show ¬ (1 = 4); decide), fun z => absurd z (by show ¬ (1 = 5); decide), fun z => absurd z (by show ¬ (1 = 6); decide)⟩
theorem rv_ok2 {q : Nat → rq} {vl : Nat → Nat} {n a dr : Nat} (h1 : a < n) (h2 : (q a).1 = 1) : rv_ok (va_up q n (2, a, 0, 0)) (va_up vl n (sm_t 1 (vl a) 0)) dr n := by
  unfold rv_ok
  rw [va_up_self, va_up_self]
  refine ⟨(by show 1 ≤ 2; decide), (by show 2 ≤ 6; decide), fun z => absurd z (by show ¬ (2 = 1); decide), fun _ => ⟨h1, ?_, rfl, ?_⟩, fun z => absurd z (by show ¬ (2 = 3); decide), fun z => absurd z (by show ¬ (2 = 4); decide), fun z => absurd z (by show ¬ (2 = 5); decide), fun z => absurd z (by show ¬ (2 = 6); decide)⟩
  · show (va_up q n (2, a, 0, 0) a).1 = 1
    rw [va_up_ne _ _ (by omega)]; exact h2
  · show sm_t 1 (vl a) 0 = sm_t 1 (va_up vl n (sm_t 1 (vl a) 0) a) 0
    rw [va_up_ne _ _ (by omega)]
theorem rv_ok3 {q : Nat → rq} {vl : Nat → Nat} {n a b dr : Nat} (h0 : a ≤ b) (h1 : b < n) (h2 : (q a).1 = 1) (h3 : (q b).1 = 1) : rv_ok (va_up q n (3, a, b, 0)) (va_up vl n (sm_t 2 (vl a) (vl b))) dr n := by
  unfold rv_ok
  rw [va_up_self, va_up_self]
  refine ⟨(by show 1 ≤ 3; decide), (by show 3 ≤ 6; decide), fun z => absurd z (by show ¬ (3 = 1); decide), fun z => absurd z (by show ¬ (3 = 2); decide), fun _ => ⟨h0, h1, ?_, ?_, rfl, ?_⟩, fun z => absurd z (by show ¬ (3 = 4); decide), fun z => absurd z (by show ¬ (3 = 5); decide), fun z => absurd z (by show ¬ (3 = 6); decide)⟩
  · show (va_up q n (3, a, b, 0) a).1 = 1
    rw [va_up_ne _ _ (by omega)]; exact h2
  · show (va_up q n (3, a, b, 0) b).1 = 1
    rw [va_up_ne _ _ (by omega)]; exact h3
  · show _ = sm_t 2 (va_up vl n (sm_t 2 (vl a) (vl b)) a) (va_up vl n (sm_t 2 (vl a) (vl b)) b)
    rw [va_up_ne _ _ (by omega), va_up_ne _ _ (by omega)]
theorem rv_ok4 {q : Nat → rq} {vl : Nat → Nat} {n k a b dr : Nat} (k4 : 4 ≤ k) (k7 : k ≤ 7) (h0 : a < n) (h1 : b < n) (h2 : (q a).1 ≤ 4) (h3 : (q b).1 ≤ 4) : rv_ok (va_up q n (4, k, a, b)) (va_up vl n (sm_t k (vl a) (vl b))) dr n := by
  unfold rv_ok
  rw [va_up_self, va_up_self]
  refine ⟨(by show 1 ≤ 4; decide), (by show 4 ≤ 6; decide), fun z => absurd z (by show ¬ (4 = 1); decide), fun z => absurd z (by show ¬ (4 = 2); decide), fun z => absurd z (by show ¬ (4 = 3); decide), fun _ => ⟨k4, k7, h0, h1, ?_, ?_, ?_⟩, fun z => absurd z (by show ¬ (4 = 5); decide), fun z => absurd z (by show ¬ (4 = 6); decide)⟩
  · show (va_up q n (4, k, a, b) a).1 ≤ 4
    rw [va_up_ne _ _ (by omega)]; exact h2
  · show (va_up q n (4, k, a, b) b).1 ≤ 4
    rw [va_up_ne _ _ (by omega)]; exact h3
  · show _ = sm_t k (va_up vl n (sm_t k (vl a) (vl b)) a) (va_up vl n (sm_t k (vl a) (vl b)) b)
    rw [va_up_ne _ _ (by omega), va_up_ne _ _ (by omega)]
theorem rv_ok6 {q : Nat → rq} {vl : Nat → Nat} {n h x y v dr : Nat} (h0 : 1 ≤ x) (h1 : x < n) (h2 : y < n) (h3 : (q x).1 ≤ 4) (h4 : (q y).1 ≤ 4) : rv_ok (va_up q n (6, h, x, y)) (va_up vl n v) dr n := by
  unfold rv_ok
  rw [va_up_self, va_up_self]
  refine ⟨(by show 1 ≤ 6; decide), (by show 6 ≤ 6; decide), fun z => absurd z (by show ¬ (6 = 1); decide), fun z => absurd z (by show ¬ (6 = 2); decide), fun z => absurd z (by show ¬ (6 = 3); decide), fun z => absurd z (by show ¬ (6 = 4); decide), fun z => absurd z (by show ¬ (6 = 5); decide), fun _ => ⟨h0, h1, h2, ?_, ?_⟩⟩
  · show (va_up q n (6, h, x, y) x).1 ≤ 4
    rw [va_up_ne _ _ (by omega)]; exact h3
  · show (va_up q n (6, h, x, y) y).1 ≤ 4
    rw [va_up_ne _ _ (by omega)]; exact h4
theorem rv_ok5 {q : Nat → rq} {vl : Nat → Nat} {n a b c z dr : Nat} (h0 : 1 ≤ a) (h1 : a < n) (h2 : b < n) (h3 : c < n) (h4 : (q a).1 ≤ 4) (h5 : (q b).1 = 6) (h6 : q c = (6, 0, z, 0)) (h7 : z < n) : rv_ok (va_up q n (5, a, b, c)) (va_up vl n (sm_t 3 (vl a) (vl z))) dr n := by
  unfold rv_ok
  rw [va_up_self, va_up_self]
  refine ⟨(by show 1 ≤ 5; decide), (by show 5 ≤ 6; decide), fun z => absurd z (by show ¬ (5 = 1); decide), fun z => absurd z (by show ¬ (5 = 2); decide), fun z => absurd z (by show ¬ (5 = 3); decide), fun z => absurd z (by show ¬ (5 = 4); decide), fun _ => ⟨h0, h1, h2, h3, ?_, ?_, ?_, ?_, ?_⟩, fun z => absurd z (by show ¬ (5 = 6); decide)⟩
  · show (va_up q n (5, a, b, c) a).1 ≤ 4
    rw [va_up_ne _ _ (by omega)]; exact h4
  · show (va_up q n (5, a, b, c) b).1 = 6
    rw [va_up_ne _ _ (by omega)]; exact h5
  · show (va_up q n (5, a, b, c) c).1 = 6
    rw [va_up_ne _ _ (by omega), h6]
  · show (va_up q n (5, a, b, c) c).2.2.2 = 0
    rw [va_up_ne _ _ (by omega), h6]
  · show _ = sm_t 3 (va_up vl n _ a) (va_up vl n _ ((va_up q n (5, a, b, c)) c).2.2.1)
    rw [va_up_ne _ _ (show a ≠ n by omega), va_up_ne q _ (show c ≠ n by omega), h6, va_up_ne _ _ (show z ≠ n by omega)]
/-- what a call that makes a term of sort s and worth v leaves -/
def rk (D : va_G) (m : Nat) (A : Nat → Nat) (sc : Nat → Int32) (ar : Nat → Nat → Int32) (n : Nat) (q : Nat → rq) (vl : Nat → Nat) (dr s v : Nat) (r : Option Value) (M' : hm_M) : Prop := ∃ t sc' ar' n' q' vl', r = some (.int (nI t)) ∧ M' = rf_M D m A sc' ar' ∧ rp sc' ar' n' q' vl' dr ∧ rx (fun a' v' => a'.1 = s ∧ v' = v) 1 sc ar n q vl sc' ar' n' q' vl' ∧ 1 ≤ t ∧ t < n' ∧ (q' t).1 = s ∧ vl' t = v
set_option maxHeartbeats 4000000 in
set_option maxRecDepth 100000 in
theorem ct_MO_draw {l : Launch} {D : va_G} {BG : Nat → Option Cell} (m : Nat) (A : Nat → Nat) (hA : rf_ok A m) (sc : Nat → Int32) (ar : Nat → Nat → Int32) (n : Nat) (q : Nat → rq) (vl : Nat → Nat) (dr : Nat) (hp : rp sc ar n q vl dr) (hn : n < 20000) (hd : dr < 20000) : hm_ct l D BG ny_MO_draw prog_8_method_3_code 1 (some .int) 1 27 0 0 [.ref m] (rf_M D m A sc ar) (rk D m A sc ar n q vl (dr + 1) 1 (sm_t 0 (dr + 1) 0)) := by
  refine hm_ct_of (by decide +kernel) (by exact Nat.le_of_ble_eq_true rfl) ?_
  intro X C E
  have C : hm_C X l D BG prog_8_method_3_code "TurnedKeysModel" "draw" 1 1 27 0 0 := C
  refine hm_lv (lv' := [(0, .ref m)]) rfl ?_
  obtain ⟨hT, hV, hdr, hd2, hf⟩ := id hp
  refine hm_aload_n C nd_MO_draw_0 rfl ?_
  refine hm_dup C nd_MO_draw_1 rfl ?_
  refine hm_get C nF_MO_92 rf_m rfl nd_MO_draw_2 ?_
  refine hm_stk (st' := [.int (nI dr), .ref m]) (by rw [hdr]) ?_
  refine hm_iconst (v := 1) C nd_MO_draw_5 (by decide) ?_
  refine hm_iadd C nd_MO_draw_6 ?_
  refine hm_stk (st' := [.int (nI (dr + 1)), .ref m]) (by rw [nI_1]) ?_
  refine hm_put C nF_MO_92 rf_m (Nat.le_of_ble_eq_true rfl) rfl rfl nd_MO_draw_7 ?_
  refine hm_eqM (rf_pt (sc' := va_up sc 2 (nI (dr + 1)))) ?_
  refine hm_aload_n C nd_MO_draw_10 rfl ?_
  refine hm_iconst (v := 1) C nd_MO_draw_11 (by decide) ?_
  refine hm_aload_n C nd_MO_draw_12 rfl ?_
  refine hm_get C nF_MO_92 rf_m rfl nd_MO_draw_13 ?_
  refine hm_iconst (v := 0) C nd_MO_draw_16 (by decide) ?_
  refine hm_iconst (v := 0) C nd_MO_draw_17 (by decide) ?_
  refine hm_stk (st' := [.int (nI 0), .int (nI 0), .int (nI (dr + 1)), .int (nI 1), .ref m]) rfl ?_
  refine hm_callV C (ct_MO_term_s m A hA (va_up sc 2 (nI (dr + 1))) ar n q vl dr (dr + 1) (hT.sc rfl) hV rfl (by omega) hf hn 1 (dr + 1) 0 0 (sm_t 0 (dr + 1) 0) (by omega) (by omega) (by omega) (by omega) (fun t t1 t2 e => by have h9 := (hV.2.2.1 t t1 t2).2.2.1 (by rw [e]); rw [e] at h9; have h8 : dr + 1 ≤ dr := h9.2.1; omega) (by omega) (fun _ => rv_ok1 (by omega) (Nat.le_refl _)) (fun _ => rfl)) nV_MO_term [.int (nI 1), .int (nI (dr + 1)), .int (nI 0), .int (nI 0)] rfl rf_m rfl nq_MO_95 nj_MO_term nx_MO_term rfl (rest := []) rfl (Nat.le_of_ble_eq_true rfl) (by decide) (by decide) (by omega) (by omega) nd_MO_draw_18 (fun r M1 hp => ?_)
  obtain ⟨t, sc', ar', n', q', vl', rfl, rfl, hp', hx, h1, h2, h3, h4⟩ := hp
  refine hm_stk (st' := [.int (nI t)]) rfl ?_
  exact hm_iret C E (by omega) (by omega) (⟨t, sc', ar', n', q', vl', rfl, rfl, hp', ⟨hx.1, hx.2.1, hx.2.2.1, fun i i0 i2 => (hx.2.2.2.1 i i0 i2).trans (va_up_ne _ _ i2), hx.2.2.2.2.1, fun t' z1 z2 => (by have z := hx.2.2.2.2.2 t' z1 z2; exact ⟨by rw [z.1], z.2⟩)⟩, h1, h2, by rw [h3], h4⟩) nd_MO_draw_21
set_option maxHeartbeats 4000000 in
set_option maxRecDepth 100000 in
theorem ct_MO_publicOf {l : Launch} {D : va_G} {BG : Nat → Option Cell} (m : Nat) (A : Nat → Nat) (hA : rf_ok A m) (sc : Nat → Int32) (ar : Nat → Nat → Int32) (n : Nat) (q : Nat → rq) (vl : Nat → Nat) (dr : Nat) (hp : rp sc ar n q vl dr) (hn : n < 20000) (a : Nat) (ha : a < n) (hs : (q a).1 = 1) : hm_ct l D BG ny_MO_publicOf prog_8_method_4_code 2 (some .int) 1 27 0 0 [.ref m, .int (nI a)] (rf_M D m A sc ar) (rk D m A sc ar n q vl dr 2 (sm_t 1 (vl a) 0)) := by
  refine hm_ct_of (by decide +kernel) (by exact Nat.le_of_ble_eq_true rfl) ?_
  intro X C E
  have C : hm_C X l D BG prog_8_method_4_code "TurnedKeysModel" "publicOf" 2 1 27 0 0 := C
  refine hm_lv (lv' := [(0, .ref m), (1, .int (nI a))]) rfl ?_
  obtain ⟨hT, hV, hdr, hd2, hf⟩ := id hp
  refine hm_aload_n C nd_MO_publicOf_0 rfl ?_
  refine hm_iconst (v := 2) C nd_MO_publicOf_1 (by decide) ?_
  refine hm_iload_n C nd_MO_publicOf_2 rfl ?_
  refine hm_iconst (v := 0) C nd_MO_publicOf_3 (by decide) ?_
  refine hm_iconst (v := 0) C nd_MO_publicOf_4 (by decide) ?_
  refine hm_stk (st' := [.int (nI 0), .int (nI 0), .int (nI a), .int (nI 2), .ref m]) rfl ?_
  refine hm_callV C (ct_MO_term_s m A hA sc ar n q vl dr dr hT hV hdr hd2 hf hn 2 a 0 0 (sm_t 1 (vl a) 0) (by omega) (by omega) (by omega) (by omega) (fun t t1 t2 e => by have h9 := (hV.2.2.1 t t1 t2).2.2.2.1 (by rw [e]); rw [e] at h9; exact ⟨h9.2.2.2, rfl⟩) (Nat.le_refl _) (fun _ => rv_ok2 ha hs) (fun z => absurd z (by decide))) nV_MO_term [.int (nI 2), .int (nI a), .int (nI 0), .int (nI 0)] rfl rf_m rfl nq_MO_95 nj_MO_term nx_MO_term rfl (rest := []) rfl (Nat.le_of_ble_eq_true rfl) (by decide) (by decide) (by omega) (by omega) nd_MO_publicOf_5 (fun r M1 hp => ?_)
  obtain ⟨t, sc', ar', n', q', vl', rfl, rfl, hp', hx, h1, h2, h3, h4⟩ := hp
  refine hm_stk (st' := [.int (nI t)]) rfl ?_
  exact hm_iret C E (by omega) (by omega) (⟨t, sc', ar', n', q', vl', rfl, rfl, hp', hx.mn (Nat.le_refl _) (fun _ _ z => ⟨by rw [z.1], z.2⟩), h1, h2, by rw [h3], h4⟩) nd_MO_publicOf_8
set_option maxHeartbeats 4000000 in
set_option maxRecDepth 100000 in
theorem ct_MO_shared {l : Launch} {D : va_G} {BG : Nat → Option Cell} (m : Nat) (A : Nat → Nat) (hA : rf_ok A m) (sc : Nat → Int32) (ar : Nat → Nat → Int32) (n : Nat) (q : Nat → rq) (vl : Nat → Nat) (dr : Nat) (hp : rp sc ar n q vl dr) (hn : n < 20000) (a b : Nat) (ha : a < n) (hb : b < n) (hsa : (q a).1 = 1) (hsb : (q b).1 = 1) : hm_ct l D BG ny_MO_shared prog_8_method_5_code 3 (some .int) 1 27 0 0 [.ref m, .int (nI a), .int (nI b)] (rf_M D m A sc ar) (rk D m A sc ar n q vl dr 3 (sm_sh (vl a) (vl b))) := by
  refine hm_ct_of (by decide +kernel) (by exact Nat.le_of_ble_eq_true rfl) ?_
  intro X C E
  have C : hm_C X l D BG prog_8_method_5_code "TurnedKeysModel" "shared" 3 1 27 0 0 := C
  refine hm_lv (lv' := [(0, .ref m), (1, .int (nI a)), (2, .int (nI b))]) rfl ?_
  obtain ⟨hT, hV, hdr, hd2, hf⟩ := id hp
  refine hm_iload_n C nd_MO_shared_0 rfl ?_
  refine hm_iload_n C nd_MO_shared_1 rfl ?_
  refine hm_icmp_ge (tgt := 16) C nd_MO_shared_2 (by decide) (fun c1 => ?_) (fun c1 => ?_)
  · have hvs : sm_sh (vl a) (vl b) = sm_t 2 (vl b) (vl a) := by unfold sm_sh; rw [if_neg (fun z => by have h9 := (nI_leI (by omega) (by omega)).mp c1; have h8 := (rv_ord hV ha hb hsa hsb).mpr z; omega)]
    refine hm_aload_n C nd_MO_shared_16 rfl ?_
    refine hm_iconst (v := 3) C nd_MO_shared_17 (by decide) ?_
    refine hm_iload_n C nd_MO_shared_18 rfl ?_
    refine hm_iload_n C nd_MO_shared_19 rfl ?_
    refine hm_iconst (v := 0) C nd_MO_shared_20 (by decide) ?_
    refine hm_stk (st' := [.int (nI 0), .int (nI a), .int (nI b), .int (nI 3), .ref m]) rfl ?_
    refine hm_callV C (ct_MO_term_s m A hA sc ar n q vl dr dr hT hV hdr hd2 hf hn 3 b a 0 (sm_t 2 (vl b) (vl a)) (by omega) (by omega) (by omega) (by omega) (fun t t1 t2 e => by have h9 := (hV.2.2.1 t t1 t2).2.2.2.2.1 (by rw [e]); rw [e] at h9; exact ⟨h9.2.2.2.2.2, rfl⟩) (Nat.le_refl _) (fun _ => rv_ok3 (by have h9 := (nI_leI (by omega) (by omega)).mp c1; omega) (by omega) hsb hsa) (fun z => absurd z (by decide))) nV_MO_term [.int (nI 3), .int (nI b), .int (nI a), .int (nI 0)] rfl rf_m rfl nq_MO_95 nj_MO_term nx_MO_term rfl (rest := []) rfl (Nat.le_of_ble_eq_true rfl) (by decide) (by decide) (by omega) (by omega) nd_MO_shared_21 (fun r M1 hp => ?_)
    obtain ⟨t, sc', ar', n', q', vl', rfl, rfl, hp', hx, h1, h2, h3, h4⟩ := hp
    refine hm_stk (st' := [.int (nI t)]) rfl ?_
    rw [← hvs] at h4 hx
    exact hm_iret C E (by omega) (by omega) (⟨t, sc', ar', n', q', vl', rfl, rfl, hp', hx.mn (Nat.le_refl _) (fun _ _ z => ⟨by rw [z.1], z.2⟩), h1, h2, by rw [h3], h4⟩) nd_MO_shared_24
  · have hvs : sm_sh (vl a) (vl b) = sm_t 2 (vl a) (vl b) := by unfold sm_sh; rw [if_pos ((rv_ord hV ha hb hsa hsb).mp (by have h9 : ¬ b ≤ a := fun z => c1 (nI_le z (by omega)); omega))]
    refine hm_aload_n C nd_MO_shared_5 rfl ?_
    refine hm_iconst (v := 3) C nd_MO_shared_6 (by decide) ?_
    refine hm_iload_n C nd_MO_shared_7 rfl ?_
    refine hm_iload_n C nd_MO_shared_8 rfl ?_
    refine hm_iconst (v := 0) C nd_MO_shared_9 (by decide) ?_
    refine hm_stk (st' := [.int (nI 0), .int (nI b), .int (nI a), .int (nI 3), .ref m]) rfl ?_
    refine hm_callV C (ct_MO_term_s m A hA sc ar n q vl dr dr hT hV hdr hd2 hf hn 3 a b 0 (sm_t 2 (vl a) (vl b)) (by omega) (by omega) (by omega) (by omega) (fun t t1 t2 e => by have h9 := (hV.2.2.1 t t1 t2).2.2.2.2.1 (by rw [e]); rw [e] at h9; exact ⟨h9.2.2.2.2.2, rfl⟩) (Nat.le_refl _) (fun _ => rv_ok3 (by have h9 : ¬ b ≤ a := fun z => c1 (nI_le z (by omega)); omega) (by omega) hsa hsb) (fun z => absurd z (by decide))) nV_MO_term [.int (nI 3), .int (nI a), .int (nI b), .int (nI 0)] rfl rf_m rfl nq_MO_95 nj_MO_term nx_MO_term rfl (rest := []) rfl (Nat.le_of_ble_eq_true rfl) (by decide) (by decide) (by omega) (by omega) nd_MO_shared_10 (fun r M2 hp => ?_)
    obtain ⟨t, sc', ar', n', q', vl', rfl, rfl, hp', hx, h1, h2, h3, h4⟩ := hp
    refine hm_stk (st' := [.int (nI t)]) rfl ?_
    refine hm_goto (tgt := 24) C nd_MO_shared_13 (by decide) ?_
    rw [← hvs] at h4 hx
    exact hm_iret C E (by omega) (by omega) (⟨t, sc', ar', n', q', vl', rfl, rfl, hp', hx.mn (Nat.le_refl _) (fun _ _ z => ⟨by rw [z.1], z.2⟩), h1, h2, by rw [h3], h4⟩) nd_MO_shared_24
set_option maxHeartbeats 4000000 in
set_option maxRecDepth 100000 in
theorem ct_MO_mix {l : Launch} {D : va_G} {BG : Nat → Option Cell} (m : Nat) (A : Nat → Nat) (hA : rf_ok A m) (sc : Nat → Int32) (ar : Nat → Nat → Int32) (n : Nat) (q : Nat → rq) (vl : Nat → Nat) (dr : Nat) (hp : rp sc ar n q vl dr) (hn : n < 20000) (k a b : Nat) (k4 : 4 ≤ k) (k7 : k ≤ 7) (ha : a < n) (hb : b < n) (hsa : (q a).1 ≤ 4) (hsb : (q b).1 ≤ 4) : hm_ct l D BG ny_MO_mix prog_8_method_6_code 4 (some .int) 1 27 0 0 [.ref m, .int (nI k), .int (nI a), .int (nI b)] (rf_M D m A sc ar) (rk D m A sc ar n q vl dr 4 (sm_t k (vl a) (vl b))) := by
  refine hm_ct_of (by decide +kernel) (by exact Nat.le_of_ble_eq_true rfl) ?_
  intro X C E
  have C : hm_C X l D BG prog_8_method_6_code "TurnedKeysModel" "mix" 4 1 27 0 0 := C
  refine hm_lv (lv' := [(0, .ref m), (1, .int (nI k)), (2, .int (nI a)), (3, .int (nI b))]) rfl ?_
  obtain ⟨hT, hV, hdr, hd2, hf⟩ := id hp
  refine hm_aload_n C nd_MO_mix_0 rfl ?_
  refine hm_iconst (v := 4) C nd_MO_mix_1 (by decide) ?_
  refine hm_iload_n C nd_MO_mix_2 rfl ?_
  refine hm_iload_n C nd_MO_mix_3 rfl ?_
  refine hm_iload_n C nd_MO_mix_4 rfl ?_
  refine hm_stk (st' := [.int (nI b), .int (nI a), .int (nI k), .int (nI 4), .ref m]) rfl ?_
  refine hm_callV C (ct_MO_term_s m A hA sc ar n q vl dr dr hT hV hdr hd2 hf hn 4 k a b (sm_t k (vl a) (vl b)) (by omega) (by omega) (by omega) (by omega) (fun t t1 t2 e => by have h9 := (hV.2.2.1 t t1 t2).2.2.2.2.2.1 (by rw [e]); rw [e] at h9; exact ⟨h9.2.2.2.2.2.2, rfl⟩) (Nat.le_refl _) (fun _ => rv_ok4 k4 k7 ha hb hsa hsb) (fun z => absurd z (by decide))) nV_MO_term [.int (nI 4), .int (nI k), .int (nI a), .int (nI b)] rfl rf_m rfl nq_MO_95 nj_MO_term nx_MO_term rfl (rest := []) rfl (Nat.le_of_ble_eq_true rfl) (by decide) (by decide) (by omega) (by omega) nd_MO_mix_5 (fun r M1 hp => ?_)
  obtain ⟨t, sc', ar', n', q', vl', rfl, rfl, hp', hx, h1, h2, h3, h4⟩ := hp
  refine hm_stk (st' := [.int (nI t)]) rfl ?_
  exact hm_iret C E (by omega) (by omega) (⟨t, sc', ar', n', q', vl', rfl, rfl, hp', hx.mn (Nat.le_refl _) (fun _ _ z => ⟨by rw [z.1], z.2⟩), h1, h2, by rw [h3], h4⟩) nd_MO_mix_8
