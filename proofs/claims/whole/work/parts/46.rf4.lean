def b2i (b : Bool) : Int32 := if b = true then 1 else 0
theorem b2i_0 {b : Bool} (h : b2i b = 0) : b = false := by
  cases b with
  | false => rfl
  | true => exact absurd h (by decide)
theorem b2i_1 {b : Bool} (h : ¬ b2i b = 0) : b = true := by
  cases b with
  | false => exact absurd rfl h
  | true => rfl
theorem b2i_01 (b : Bool) : b2i b = 0 ∨ b2i b = 1 := by
  cases b with
  | false => exact Or.inl rfl
  | true => exact Or.inr rfl
def rhas (kn : Nat → Bool) (t : Nat) : Bool := decide (t = 0) || kn t
def lrn (kn : Nat → Bool) (t : Nat) : Nat → Bool := if t = 0 then kn else va_up kn t true
def opn (q : Nat → rq) (kn : Nat → Bool) (t : Nat) : (Nat → Bool) × Bool := if (q t).1 = 5 then (if lrn kn (q t).2.2.1 (q t).2.1 = true then (lrn (lrn kn (q t).2.2.1) (q t).2.2.2, !rhas (lrn kn (q t).2.2.1) (q t).2.2.2 || !rhas kn (q t).2.2.1) else (lrn kn (q t).2.2.1, !rhas kn (q t).2.2.1)) else if (q t).1 = 6 then (lrn (lrn kn (q t).2.2.1) (q t).2.2.2, !rhas (lrn kn (q t).2.2.1) (q t).2.2.2 || !rhas kn (q t).2.2.1) else (kn, false)
def cmk (q : Nat → rq) (pf : Nat → Nat) (kn : Nat → Bool) (t : Nat) : Bool := if (q t).1 = 2 then kn (q t).2.1 else if (q t).1 = 3 then (kn (q t).2.1 && (kn (q t).2.2.1 || kn (pf (q t).2.2.1))) || (kn (q t).2.2.1 && (kn (q t).2.1 || kn (pf (q t).2.1))) else if (q t).1 = 4 then rhas kn (q t).2.2.1 && rhas kn (q t).2.2.2 else if (q t).1 = 5 then kn (q t).2.1 && (kn (q t).2.2.1 && kn (q t).2.2.2) else if (q t).1 = 6 then rhas kn (q t).2.2.1 && rhas kn (q t).2.2.2 else false
theorem rv_bd {n dr t : Nat} {q : Nat → rq} {vl : Nat → Nat} (h : rv_I n q vl dr) (h1 : 1 ≤ t) (h2 : t < n) : ((q t).1 = 2 ∨ (q t).1 = 3 ∨ (q t).1 = 5 → (q t).2.1 < t) ∧ ((q t).1 = 3 ∨ (q t).1 = 4 ∨ (q t).1 = 5 ∨ (q t).1 = 6 → (q t).2.2.1 < t) ∧ ((q t).1 = 4 ∨ (q t).1 = 5 ∨ (q t).1 = 6 → (q t).2.2.2 < t) := by
  obtain ⟨a1, a2, a3, a4, a5, a6, a7, a8⟩ := h.2.2.1 t h1 h2
  refine ⟨fun z => ?_, fun z => ?_, fun z => ?_⟩
  · rcases z with z | z | z
    · have := a4 z; omega
    · have := a5 z; omega
    · have := a7 z; omega
  · rcases z with z | z | z | z
    · have := a5 z; omega
    · have := a6 z; omega
    · have := a7 z; omega
    · have := a8 z; omega
  · rcases z with z | z | z
    · have := a6 z; omega
    · have := a7 z; omega
    · have := a8 z; omega
set_option maxHeartbeats 4000000 in
set_option maxRecDepth 100000 in
theorem ct_MO_has {l : Launch} {D : va_G} {BG : Nat → Option Cell} (m : Nat) (A : Nat → Nat) (hA : rf_ok A m) (sc : Nat → Int32) (ar : Nat → Nat → Int32) (kn : Nat → Bool) (hk : ∀ t, t < 20000 → ar 5 t = b2i (kn t)) (t : Nat) (ht : t < 20000) : hm_ct l D BG ny_MO_has prog_8_method_8_code 2 (some .boolean) 0 0 0 0 [.ref m, .int (nI t)] (rf_M D m A sc ar) (fun r M' => r = some (.int (b2i (rhas kn t))) ∧ M' = (rf_M D m A sc ar)) := by
  refine hm_ct_of (by decide +kernel) (by exact Nat.le_of_ble_eq_true rfl) ?_
  intro X C E
  have C : hm_C X l D BG prog_8_method_8_code "TurnedKeysModel" "has" 2 0 0 0 0 := C
  refine hm_lv (lv' := [(0, .ref m), (1, .int (nI t))]) rfl ?_
  refine hm_iload_n C nd_MO_has_0 rfl ?_
  refine hm_if_eq (tgt := 13) C nd_MO_has_1 (by decide) (fun c1 => ?_) (fun c1 => ?_)
  · have ht0 : t = 0 := (nI_eq (by omega) (by omega)).mp c1
    refine hm_iconst (v := 1) C nd_MO_has_13 (by decide) ?_
    refine hm_goto (tgt := 18) C nd_MO_has_14 (by decide) ?_
    exact hm_zret C E (by first | exact Or.inl rfl | exact Or.inr rfl) (by omega) (by omega) (⟨by rw [show rhas kn t = true from by unfold rhas; rw [ht0]; rfl]; rfl, rfl⟩) nd_MO_has_18
  · have ht0 : ¬ t = 0 := fun z => c1 (by rw [z]; rfl)
    refine hm_aload_n C nd_MO_has_4 rfl ?_
    refine hm_get C nF_MO_31 rf_m rfl nd_MO_has_5 ?_
    refine hm_iload_n C nd_MO_has_8 rfl ?_
    refine hm_zald (t := 5) (N := 20000) (j := t) (f := (ar 5)) C rfl (rf_at hA (i := 5) (by decide)) rfl (by omega) (by decide) nd_MO_has_9 ?_
    refine hm_stk (st' := [.int (b2i (kn t))]) (by rw [hk t ht]) ?_
    refine hm_if_eq (tgt := 17) C nd_MO_has_10 (by decide) (fun c2 => ?_) (fun c2 => ?_)
    · refine hm_iconst (v := 0) C nd_MO_has_17 (by decide) ?_
      exact hm_zret C E (by first | exact Or.inl rfl | exact Or.inr rfl) (by omega) (by omega) (⟨by rw [show rhas kn t = false from by unfold rhas; rw [b2i_0 c2, decide_eq_false ht0]; rfl]; rfl, rfl⟩) nd_MO_has_18
    · refine hm_iconst (v := 1) C nd_MO_has_13 (by decide) ?_
      refine hm_goto (tgt := 18) C nd_MO_has_14 (by decide) ?_
      exact hm_zret C E (by first | exact Or.inl rfl | exact Or.inr rfl) (by omega) (by omega) (⟨by rw [show rhas kn t = true from by unfold rhas; rw [b2i_1 c2, Bool.or_true]]; rfl, rfl⟩) nd_MO_has_18
set_option maxHeartbeats 4000000 in
set_option maxRecDepth 100000 in
theorem ct_MO_learn {l : Launch} {D : va_G} {BG : Nat → Option Cell} (m : Nat) (A : Nat → Nat) (hA : rf_ok A m) (sc : Nat → Int32) (ar : Nat → Nat → Int32) (kn : Nat → Bool) (hk : ∀ t, t < 20000 → ar 5 t = b2i (kn t)) (t : Nat) (ht : t < 20000) : hm_ct l D BG ny_MO_learn prog_8_method_11_code 2 (some .boolean) 1 21 0 0 [.ref m, .int (nI t)] (rf_M D m A sc ar) (fun r M' => ∃ ar', r = some (.int (b2i (!rhas kn t))) ∧ M' = rf_M D m A sc ar' ∧ (∀ i, i ≠ 5 → ar' i = ar i) ∧ ∀ x, x < 20000 → ar' 5 x = b2i (lrn kn t x)) := by
  refine hm_ct_of (by decide +kernel) (by exact Nat.le_of_ble_eq_true rfl) ?_
  intro X C E
  have C : hm_C X l D BG prog_8_method_11_code "TurnedKeysModel" "learn" 2 1 21 0 0 := C
  refine hm_lv (lv' := [(0, .ref m), (1, .int (nI t))]) rfl ?_
  refine hm_aload_n C nd_MO_learn_0 rfl ?_
  refine hm_iload_n C nd_MO_learn_1 rfl ?_
  refine hm_callV C (ct_MO_has m A hA sc ar kn hk t ht) nV_MO_has [.int (nI t)] rfl rf_m rfl nq_MO_103 nj_MO_has nx_MO_has rfl (rest := []) rfl (Nat.le_of_ble_eq_true rfl) (by decide) (by decide) (by omega) (by omega) nd_MO_learn_2 (fun r M1 hp => ?_)
  obtain ⟨rfl, eM1⟩ := hp
  rw [eM1]
  refine hm_stk (st' := [.int (b2i (rhas kn t))]) rfl ?_
  refine hm_if_eq (tgt := 10) C nd_MO_learn_5 (by decide) (fun c1 => ?_) (fun c1 => ?_)
  · have hr := b2i_0 c1
    have ht0 : ¬ t = 0 := fun z => by unfold rhas at hr; rw [z] at hr; cases hr
    refine hm_aload_n C nd_MO_learn_10 rfl ?_
    refine hm_get C nF_MO_31 rf_m rfl nd_MO_learn_11 ?_
    refine hm_iload_n C nd_MO_learn_14 rfl ?_
    refine hm_iconst (v := 1) C nd_MO_learn_15 (by decide) ?_
    refine hm_zast (t := 5) (N := 20000) (j := t) (f := (ar 5)) C rfl (rf_at hA (i := 5) (by decide)) rfl (by omega) (by decide) nd_MO_learn_16 ?_
    refine hm_eqM (rf_up hA (i := 5) (by decide) (upd (ar 5) t (vp_nar .boolean 1))) ?_
    refine hm_iconst (v := 1) C nd_MO_learn_17 (by decide) ?_
    exact hm_zret C E (by first | exact Or.inl rfl | exact Or.inr rfl) (by omega) (by omega) (⟨_, by rw [hr]; rfl, rfl, fun i hi => va_up_ne _ _ hi, fun x hx => (by show upd (ar 5) t (vp_nar .boolean 1) x = _; unfold upd lrn; rw [if_neg ht0]; by_cases c : x = t; rw [if_pos c, c, va_up_self]; rfl; rw [if_neg c, va_up_ne _ _ c]; exact hk x hx)⟩) nd_MO_learn_18
  · have hr := b2i_1 c1
    have hl : lrn kn t = kn := by
      unfold lrn
      by_cases c : t = 0
      · rw [if_pos c]
      · rw [if_neg c]
        have hkt : kn t = true := by unfold rhas at hr; rw [decide_eq_false c, Bool.false_or] at hr; exact hr
        funext z
        by_cases e : z = t
        · rw [e, va_up_self, hkt]
        · rw [va_up_ne _ _ e]
    refine hm_iconst (v := 0) C nd_MO_learn_8 (by decide) ?_
    exact hm_zret C E (by first | exact Or.inl rfl | exact Or.inr rfl) (by omega) (by omega) (⟨ar, by rw [hr]; rfl, rfl, fun i hi => rfl, by rw [hl]; exact hk⟩) nd_MO_learn_9
set_option maxHeartbeats 4000000 in
set_option maxRecDepth 100000 in
theorem ct_MO_give {l : Launch} {D : va_G} {BG : Nat → Option Cell} (m : Nat) (A : Nat → Nat) (hA : rf_ok A m) (sc : Nat → Int32) (ar : Nat → Nat → Int32) (gv : Nat → Bool) (hg : ∀ t, t < 20000 → ar 4 t = b2i (gv t)) (t : Nat) (ht : t < 20000) : hm_ct l D BG ny_MO_give prog_8_method_7_code 2 none 0 0 0 0 [.ref m, .int (nI t)] (rf_M D m A sc ar) (fun r M' => r = none ∧ ∃ sc' ar', M' = rf_M D m A sc' ar' ∧ (∀ i, i ≠ 1 → sc' i = sc i) ∧ (∀ i, i ≠ 4 → ar' i = ar i) ∧ (∀ x, x < 20000 → ar' 4 x = b2i (lrn gv t x)) ∧ (sc' 1 = 1 ∨ (sc' 1 = sc 1 ∧ (t = 0 ∨ gv t = true)))) := by
  refine hm_ct_of (by decide +kernel) (by exact Nat.le_of_ble_eq_true rfl) ?_
  intro X C E
  have C : hm_C X l D BG prog_8_method_7_code "TurnedKeysModel" "give" 2 0 0 0 0 := C
  refine hm_lv (lv' := [(0, .ref m), (1, .int (nI t))]) rfl ?_
  refine hm_iload_n C nd_MO_give_0 rfl ?_
  refine hm_if_eq (tgt := 13) C nd_MO_give_1 (by decide) (fun c1 => ?_) (fun c1 => ?_)
  · have ht0 : t = 0 := (nI_eq (by omega) (by omega)).mp c1
    exact hm_vret C E (by omega) (by omega) (⟨rfl, sc, ar, rfl, fun i hi => rfl, fun i hi => rfl, by unfold lrn; rw [if_pos ht0]; exact hg, Or.inr ⟨rfl, Or.inl ht0⟩⟩) nd_MO_give_13
  · have ht0 : ¬ t = 0 := fun z => c1 (by rw [z]; rfl)
    refine hm_aload_n C nd_MO_give_4 rfl ?_
    refine hm_get C nF_MO_27 rf_m rfl nd_MO_give_5 ?_
    refine hm_iload_n C nd_MO_give_8 rfl ?_
    refine hm_zald (t := 5) (N := 20000) (j := t) (f := (ar 4)) C rfl (rf_at hA (i := 4) (by decide)) rfl (by omega) (by decide) nd_MO_give_9 ?_
    refine hm_stk (st' := [.int (b2i (gv t))]) (by rw [hg t ht]) ?_
    refine hm_if_eq (tgt := 14) C nd_MO_give_10 (by decide) (fun c2 => ?_) (fun c2 => ?_)
    · refine hm_aload_n C nd_MO_give_14 rfl ?_
      refine hm_get C nF_MO_27 rf_m rfl nd_MO_give_15 ?_
      refine hm_iload_n C nd_MO_give_18 rfl ?_
      refine hm_iconst (v := 1) C nd_MO_give_19 (by decide) ?_
      refine hm_zast (t := 5) (N := 20000) (j := t) (f := (ar 4)) C rfl (rf_at hA (i := 4) (by decide)) rfl (by omega) (by decide) nd_MO_give_20 ?_
      refine hm_eqM (rf_up hA (i := 4) (by decide) (upd (ar 4) t (vp_nar .boolean 1))) ?_
      refine hm_aload_n C nd_MO_give_21 rfl ?_
      refine hm_iconst (v := 1) C nd_MO_give_22 (by decide) ?_
      refine hm_put C nF_MO_38 rf_m (Nat.le_of_ble_eq_true rfl) rfl rfl nd_MO_give_23 ?_
      refine hm_eqM (rf_pt (sc' := va_up sc 1 1)) ?_
      exact hm_vret C E (by omega) (by omega) (⟨rfl, _, _, rfl, fun i hi => va_up_ne _ _ hi, fun i hi => va_up_ne _ _ hi, fun x hx => (by show upd (ar 4) t (vp_nar .boolean 1) x = _; unfold upd lrn; rw [if_neg ht0]; by_cases c : x = t; rw [if_pos c, c, va_up_self]; rfl; rw [if_neg c, va_up_ne _ _ c]; exact hg x hx), Or.inl rfl⟩) nd_MO_give_26
    · have hr := b2i_1 c2
      have hl : lrn gv t = gv := by
        unfold lrn
        rw [if_neg ht0]
        funext z
        by_cases e : z = t
        · rw [e, va_up_self, hr]
        · rw [va_up_ne _ _ e]
      exact hm_vret C E (by omega) (by omega) (⟨rfl, sc, ar, rfl, fun i hi => rfl, fun i hi => rfl, by rw [hl]; exact hg, Or.inr ⟨rfl, Or.inr hr⟩⟩) nd_MO_give_13
set_option maxHeartbeats 4000000 in
set_option maxRecDepth 100000 in
theorem ct_MO_publicOf_old {l : Launch} {D : va_G} {BG : Nat → Option Cell} (m : Nat) (A : Nat → Nat) (hA : rf_ok A m) (sc : Nat → Int32) (ar : Nat → Nat → Int32) (n : Nat) (q : Nat → rq) (hT : rt_I sc ar n q) (a : Nat) (ha : a < 2 ^ 31) (t0 : Nat) (ht1 : 1 ≤ t0) (ht2 : t0 < n) (hq0 : q t0 = (2, a, 0, 0)) : hm_ct l D BG ny_MO_publicOf prog_8_method_4_code 2 (some .int) 1 27 0 0 [.ref m, .int (nI a)] (rf_M D m A sc ar) (fun r M' => r = some (.int (nI t0)) ∧ M' = (rf_M D m A sc ar)) := by
  refine hm_ct_of (by decide +kernel) (by exact Nat.le_of_ble_eq_true rfl) ?_
  intro X C E
  have C : hm_C X l D BG prog_8_method_4_code "TurnedKeysModel" "publicOf" 2 1 27 0 0 := C
  refine hm_lv (lv' := [(0, .ref m), (1, .int (nI a))]) rfl ?_
  refine hm_aload_n C nd_MO_publicOf_0 rfl ?_
  refine hm_iconst (v := 2) C nd_MO_publicOf_1 (by decide) ?_
  refine hm_iload_n C nd_MO_publicOf_2 rfl ?_
  refine hm_iconst (v := 0) C nd_MO_publicOf_3 (by decide) ?_
  refine hm_iconst (v := 0) C nd_MO_publicOf_4 (by decide) ?_
  refine hm_stk (st' := [.int (nI 0), .int (nI 0), .int (nI a), .int (nI 2), .ref m]) rfl ?_
  refine hm_callV C (ct_MO_term_old m A hA sc ar n q hT 2 a 0 0 (by omega) (by omega) (by omega) (by omega) t0 ht1 ht2 hq0) nV_MO_term [.int (nI 2), .int (nI a), .int (nI 0), .int (nI 0)] rfl rf_m rfl nq_MO_95 nj_MO_term nx_MO_term rfl (rest := []) rfl (Nat.le_of_ble_eq_true rfl) (by decide) (by decide) (by omega) (by omega) nd_MO_publicOf_5 (fun r M1 hp => ?_)
  obtain ⟨rfl, eM1⟩ := hp
  rw [eM1]
  refine hm_stk (st' := [.int (nI t0)]) rfl ?_
  exact hm_iret C E (by omega) (by omega) (⟨rfl, rfl⟩) nd_MO_publicOf_8
set_option maxHeartbeats 4000000 in
set_option maxRecDepth 100000 in
theorem ct_MO_shows {l : Launch} {D : va_G} {BG : Nat → Option Cell} (m : Nat) (A : Nat → Nat) (hA : rf_ok A m) (sc : Nat → Int32) (ar : Nat → Nat → Int32) (n : Nat) (q : Nat → rq) (vl : Nat → Nat) (dr : Nat) (hT : rt_I sc ar n q) (hV : rv_I n q vl dr) (kn : Nat → Bool) (hk : ∀ t, t < 20000 → ar 5 t = b2i (kn t)) (s p : Nat) (hs : s < n) (hp1 : 1 ≤ p) (hp2 : p < n) (hpq : q p = (2, s, 0, 0)) : hm_ct l D BG ny_MO_shows prog_8_method_9_code 2 (some .boolean) 2 48 0 0 [.ref m, .int (nI s)] (rf_M D m A sc ar) (fun r M' => r = some (.int (b2i (kn s || kn p))) ∧ M' = (rf_M D m A sc ar)) := by
  refine hm_ct_of (by decide +kernel) (by exact Nat.le_of_ble_eq_true rfl) ?_
  intro X C E
  have C : hm_C X l D BG prog_8_method_9_code "TurnedKeysModel" "shows" 2 2 48 0 0 := C
  refine hm_lv (lv' := [(0, .ref m), (1, .int (nI s))]) rfl ?_
  have hn2 := hT.2.2.1
  refine hm_aload_n C nd_MO_shows_0 rfl ?_
  refine hm_get C nF_MO_31 rf_m rfl nd_MO_shows_1 ?_
  refine hm_iload_n C nd_MO_shows_4 rfl ?_
  refine hm_zald (t := 5) (N := 20000) (j := s) (f := (ar 5)) C rfl (rf_at hA (i := 5) (by decide)) rfl (by omega) (by decide) nd_MO_shows_5 ?_
  refine hm_stk (st' := [.int (b2i (kn s))]) (by rw [hk s (by omega)]) ?_
  refine hm_if_ne (tgt := 22) C nd_MO_shows_6 (by decide) (fun c1 => ?_) (fun c1 => ?_)
  · refine hm_iconst (v := 1) C nd_MO_shows_22 (by decide) ?_
    refine hm_goto (tgt := 27) C nd_MO_shows_23 (by decide) ?_
    exact hm_zret C E (by first | exact Or.inl rfl | exact Or.inr rfl) (by omega) (by omega) (⟨by rw [b2i_1 c1, Bool.true_or]; rfl, rfl⟩) nd_MO_shows_27
  · refine hm_aload_n C nd_MO_shows_9 rfl ?_
    refine hm_get C nF_MO_31 rf_m rfl nd_MO_shows_10 ?_
    refine hm_aload_n C nd_MO_shows_13 rfl ?_
    refine hm_iload_n C nd_MO_shows_14 rfl ?_
    refine hm_callV C (ct_MO_publicOf_old m A hA sc ar n q hT s (by omega) p hp1 hp2 hpq) nV_MO_publicOf [.int (nI s)] rfl rf_m rfl nq_MO_73 nj_MO_publicOf nx_MO_publicOf rfl (rest := [.ref (A 5)]) rfl (Nat.le_of_ble_eq_true rfl) (by decide) (by decide) (by omega) (by omega) nd_MO_shows_15 (fun r M1 hp => ?_)
    obtain ⟨rfl, eM1⟩ := hp
    rw [eM1]
    refine hm_stk (st' := [.int (nI p), .ref (A 5)]) rfl ?_
    refine hm_zald (t := 5) (N := 20000) (j := p) (f := (ar 5)) C rfl (rf_at hA (i := 5) (by decide)) rfl (by omega) (by decide) nd_MO_shows_18 ?_
    refine hm_stk (st' := [.int (b2i (kn p))]) (by rw [hk p (by omega)]) ?_
    refine hm_if_eq (tgt := 26) C nd_MO_shows_19 (by decide) (fun c2 => ?_) (fun c2 => ?_)
    · refine hm_iconst (v := 0) C nd_MO_shows_26 (by decide) ?_
      exact hm_zret C E (by first | exact Or.inl rfl | exact Or.inr rfl) (by omega) (by omega) (⟨by rw [b2i_0 c1, b2i_0 c2]; rfl, rfl⟩) nd_MO_shows_27
    · refine hm_iconst (v := 1) C nd_MO_shows_22 (by decide) ?_
      refine hm_goto (tgt := 27) C nd_MO_shows_23 (by decide) ?_
      exact hm_zret C E (by first | exact Or.inl rfl | exact Or.inr rfl) (by omega) (by omega) (⟨by rw [b2i_1 c2, Bool.or_true]; rfl, rfl⟩) nd_MO_shows_27
set_option maxHeartbeats 4000000 in
set_option maxRecDepth 100000 in
theorem ct_MO_canMake {l : Launch} {D : va_G} {BG : Nat → Option Cell} (m : Nat) (A : Nat → Nat) (hA : rf_ok A m) (sc : Nat → Int32) (ar : Nat → Nat → Int32) (n : Nat) (q : Nat → rq) (vl : Nat → Nat) (dr : Nat) (hT : rt_I sc ar n q) (hV : rv_I n q vl dr) (kn : Nat → Bool) (hk : ∀ t, t < 20000 → ar 5 t = b2i (kn t)) (pf : Nat → Nat) (t : Nat) (ht1 : 1 ≤ t) (ht2 : t < n) (hpf : (q t).1 = 3 → (1 ≤ pf (q t).2.1 ∧ pf (q t).2.1 < n ∧ q (pf (q t).2.1) = (2, (q t).2.1, 0, 0)) ∧ (1 ≤ pf (q t).2.2.1 ∧ pf (q t).2.2.1 < n ∧ q (pf (q t).2.2.1) = (2, (q t).2.2.1, 0, 0))) : hm_ct l D BG ny_MO_canMake prog_8_method_10_code 2 (some .boolean) 3 69 0 0 [.ref m, .int (nI t)] (rf_M D m A sc ar) (fun r M' => r = some (.int (b2i (cmk q pf kn t))) ∧ M' = (rf_M D m A sc ar)) := by
  refine hm_ct_of (by decide +kernel) (by exact Nat.le_of_ble_eq_true rfl) ?_
  intro X C E
  have C : hm_C X l D BG prog_8_method_10_code "TurnedKeysModel" "canMake" 2 3 69 0 0 := C
  refine hm_lv (lv' := [(0, .ref m), (1, .int (nI t))]) rfl ?_
  have hn2 := hT.2.2.1
  obtain ⟨e0, e1, e2, e3⟩ := hT.2.2.2.1 t ht1 ht2
  have bd := rv_bd hV ht1 ht2
  have ok := hV.2.2.1 t ht1 ht2
  have ok6 : (q t).1 ≤ 6 := ok.2.1
  refine hm_aload_n C nd_MO_canMake_0 rfl ?_
  refine hm_get C nF_MO_13 rf_m rfl nd_MO_canMake_1 ?_
  refine hm_iload_n C nd_MO_canMake_4 rfl ?_
  refine hm_bald (t := 4) (N := 20000) (j := t) (f := (ar 0)) C rfl (rf_at hA (i := 0) (by decide)) rfl (by omega) (by decide) nd_MO_canMake_5 ?_
  refine hm_stk (st' := [.int (nI (q t).1)]) (by rw [e0]) ?_
  obtain s1 | s1 | s1 | s1 | s1 | s1 : (q t).1 = 1 ∨ (q t).1 = 2 ∨ (q t).1 = 3 ∨ (q t).1 = 4 ∨ (q t).1 = 5 ∨ (q t).1 = 6 := by have := ok.1; have := ok.2.1; omega
  · rw [s1]
    refine hm_tableOut (tgt := 224) C nd_MO_canMake_6 (Or.inl (by decide)) (by decide) ?_
    refine hm_iconst (v := 0) C nd_MO_canMake_224 (by decide) ?_
    exact hm_zret C E (by first | exact Or.inl rfl | exact Or.inr rfl) (by omega) (by omega) (⟨by rw [show cmk q pf kn t = false from by unfold cmk; rw [if_neg (by omega), if_neg (by omega), if_neg (by omega), if_neg (by omega), if_neg (by omega)]]; rfl, rfl⟩) nd_MO_canMake_225
  · rw [s1]
    refine hm_tableIn (tgt := 40) C nd_MO_canMake_6 (by decide) (by decide) rfl (by decide) ?_
    skip
    have l1 := bd.1 (by omega)
    refine hm_aload_n C nd_MO_canMake_40 rfl ?_
    refine hm_get C nF_MO_31 rf_m rfl nd_MO_canMake_41 ?_
    refine hm_aload_n C nd_MO_canMake_44 rfl ?_
    refine hm_get C nF_MO_17 rf_m rfl nd_MO_canMake_45 ?_
    refine hm_iload_n C nd_MO_canMake_48 rfl ?_
    refine hm_iald (t := 3) (N := 20000) (j := t) (f := (ar 1)) C rfl (rf_at hA (i := 1) (by decide)) rfl (by omega) (by decide) nd_MO_canMake_49 ?_
    refine hm_stk (st' := [.int (nI (q t).2.1), .ref (A 5)]) (by rw [e1]) ?_
    refine hm_zald (t := 5) (N := 20000) (j := (q t).2.1) (f := (ar 5)) C rfl (rf_at hA (i := 5) (by decide)) rfl (by omega) (by decide) nd_MO_canMake_50 ?_
    refine hm_stk (st' := [.int (b2i (kn (q t).2.1))]) (by rw [hk (q t).2.1 (by omega)]) ?_
    exact hm_zret C E (b2i_01 _) (by omega) (by omega) (⟨by rw [show cmk q pf kn t = kn (q t).2.1 from by unfold cmk; rw [if_pos s1]], rfl⟩) nd_MO_canMake_51
  · rw [s1]
    refine hm_tableIn (tgt := 52) C nd_MO_canMake_6 (by decide) (by decide) rfl (by decide) ?_
    skip
    have l1 := bd.1 (by omega)
    have l2 := bd.2.1 (by omega)
    obtain ⟨p1, p2⟩ := hpf s1
    refine hm_aload_n C nd_MO_canMake_52 rfl ?_
    refine hm_get C nF_MO_31 rf_m rfl nd_MO_canMake_53 ?_
    refine hm_aload_n C nd_MO_canMake_56 rfl ?_
    refine hm_get C nF_MO_17 rf_m rfl nd_MO_canMake_57 ?_
    refine hm_iload_n C nd_MO_canMake_60 rfl ?_
    refine hm_iald (t := 3) (N := 20000) (j := t) (f := (ar 1)) C rfl (rf_at hA (i := 1) (by decide)) rfl (by omega) (by decide) nd_MO_canMake_61 ?_
    refine hm_stk (st' := [.int (nI (q t).2.1), .ref (A 5)]) (by rw [e1]) ?_
    refine hm_zald (t := 5) (N := 20000) (j := (q t).2.1) (f := (ar 5)) C rfl (rf_at hA (i := 5) (by decide)) rfl (by omega) (by decide) nd_MO_canMake_62 ?_
    refine hm_stk (st' := [.int (b2i (kn (q t).2.1))]) (by rw [hk (q t).2.1 (by omega)]) ?_
    refine hm_if_eq (tgt := 79) C nd_MO_canMake_63 (by decide) (fun c1 => ?_) (fun c1 => ?_)
    · refine hm_aload_n C nd_MO_canMake_79 rfl ?_
      refine hm_get C nF_MO_31 rf_m rfl nd_MO_canMake_80 ?_
      refine hm_aload_n C nd_MO_canMake_83 rfl ?_
      refine hm_get C nF_MO_21 rf_m rfl nd_MO_canMake_84 ?_
      refine hm_iload_n C nd_MO_canMake_87 rfl ?_
      refine hm_iald (t := 3) (N := 20000) (j := t) (f := (ar 2)) C rfl (rf_at hA (i := 2) (by decide)) rfl (by omega) (by decide) nd_MO_canMake_88 ?_
      refine hm_stk (st' := [.int (nI (q t).2.2.1), .ref (A 5)]) (by rw [e2]) ?_
      refine hm_zald (t := 5) (N := 20000) (j := (q t).2.2.1) (f := (ar 5)) C rfl (rf_at hA (i := 5) (by decide)) rfl (by omega) (by decide) nd_MO_canMake_89 ?_
      refine hm_stk (st' := [.int (b2i (kn (q t).2.2.1))]) (by rw [hk (q t).2.2.1 (by omega)]) ?_
      refine hm_if_eq (tgt := 110) C nd_MO_canMake_90 (by decide) (fun d1 => ?_) (fun d1 => ?_)
      · refine hm_iconst (v := 0) C nd_MO_canMake_110 (by decide) ?_
        exact hm_zret C E (by first | exact Or.inl rfl | exact Or.inr rfl) (by omega) (by omega) (⟨by rw [show cmk q pf kn t = false from by unfold cmk; rw [if_neg (by omega : ¬ (q t).1 = 2), if_pos s1]; simp [b2i_0 c1, b2i_0 d1]]; rfl, rfl⟩) nd_MO_canMake_111
      · refine hm_aload_n C nd_MO_canMake_93 rfl ?_
        refine hm_aload_n C nd_MO_canMake_94 rfl ?_
        refine hm_get C nF_MO_17 rf_m rfl nd_MO_canMake_95 ?_
        refine hm_iload_n C nd_MO_canMake_98 rfl ?_
        refine hm_iald (t := 3) (N := 20000) (j := t) (f := (ar 1)) C rfl (rf_at hA (i := 1) (by decide)) rfl (by omega) (by decide) nd_MO_canMake_99 ?_
        refine hm_stk (st' := [.int (nI (q t).2.1), .ref m]) (by rw [e1]) ?_
        refine hm_callV C (ct_MO_shows m A hA sc ar n q vl dr hT hV kn hk (q t).2.1 (pf (q t).2.1) (by omega) p1.1 p1.2.1 p1.2.2) nV_MO_shows [.int (nI (q t).2.1)] rfl rf_m rfl nq_MO_99 nj_MO_shows nx_MO_shows rfl (rest := []) rfl (Nat.le_of_ble_eq_true rfl) (by decide) (by decide) (by omega) (by omega) nd_MO_canMake_100 (fun r M1 hp => ?_)
        obtain ⟨rfl, eM1⟩ := hp
        rw [eM1]
        refine hm_stk (st' := [.int (b2i (kn (q t).2.1 || kn (pf (q t).2.1)))]) rfl ?_
        refine hm_if_eq (tgt := 110) C nd_MO_canMake_103 (by decide) (fun d2 => ?_) (fun d2 => ?_)
        · have h5 := b2i_0 d2
          refine hm_iconst (v := 0) C nd_MO_canMake_110 (by decide) ?_
          exact hm_zret C E (by first | exact Or.inl rfl | exact Or.inr rfl) (by omega) (by omega) (⟨by rw [show cmk q pf kn t = false from by unfold cmk; rw [if_neg (by omega : ¬ (q t).1 = 2), if_pos s1, h5]; simp [b2i_0 c1, b2i_1 d1]]; rfl, rfl⟩) nd_MO_canMake_111
        · have h5 := b2i_1 d2
          refine hm_iconst (v := 1) C nd_MO_canMake_106 (by decide) ?_
          refine hm_goto (tgt := 111) C nd_MO_canMake_107 (by decide) ?_
          exact hm_zret C E (by first | exact Or.inl rfl | exact Or.inr rfl) (by omega) (by omega) (⟨by rw [show cmk q pf kn t = true from by unfold cmk; rw [if_neg (by omega : ¬ (q t).1 = 2), if_pos s1, h5]; simp [b2i_0 c1, b2i_1 d1]]; rfl, rfl⟩) nd_MO_canMake_111
    · refine hm_aload_n C nd_MO_canMake_66 rfl ?_
      refine hm_aload_n C nd_MO_canMake_67 rfl ?_
      refine hm_get C nF_MO_21 rf_m rfl nd_MO_canMake_68 ?_
      refine hm_iload_n C nd_MO_canMake_71 rfl ?_
      refine hm_iald (t := 3) (N := 20000) (j := t) (f := (ar 2)) C rfl (rf_at hA (i := 2) (by decide)) rfl (by omega) (by decide) nd_MO_canMake_72 ?_
      refine hm_stk (st' := [.int (nI (q t).2.2.1), .ref m]) (by rw [e2]) ?_
      refine hm_callV C (ct_MO_shows m A hA sc ar n q vl dr hT hV kn hk (q t).2.2.1 (pf (q t).2.2.1) (by omega) p2.1 p2.2.1 p2.2.2) nV_MO_shows [.int (nI (q t).2.2.1)] rfl rf_m rfl nq_MO_99 nj_MO_shows nx_MO_shows rfl (rest := []) rfl (Nat.le_of_ble_eq_true rfl) (by decide) (by decide) (by omega) (by omega) nd_MO_canMake_73 (fun r M2 hp => ?_)
      obtain ⟨rfl, eM2⟩ := hp
      rw [eM2]
      refine hm_stk (st' := [.int (b2i (kn (q t).2.2.1 || kn (pf (q t).2.2.1)))]) rfl ?_
      refine hm_if_ne (tgt := 106) C nd_MO_canMake_76 (by decide) (fun c2 => ?_) (fun c2 => ?_)
      · have h4 := b2i_1 c2
        refine hm_iconst (v := 1) C nd_MO_canMake_106 (by decide) ?_
        refine hm_goto (tgt := 111) C nd_MO_canMake_107 (by decide) ?_
        exact hm_zret C E (by first | exact Or.inl rfl | exact Or.inr rfl) (by omega) (by omega) (⟨by rw [show cmk q pf kn t = true from by unfold cmk; rw [if_neg (by omega : ¬ (q t).1 = 2), if_pos s1, h4]; simp [b2i_1 c1]]; rfl, rfl⟩) nd_MO_canMake_111
      · have h4 := b2i_0 c2
        refine hm_aload_n C nd_MO_canMake_79 rfl ?_
        refine hm_get C nF_MO_31 rf_m rfl nd_MO_canMake_80 ?_
        refine hm_aload_n C nd_MO_canMake_83 rfl ?_
        refine hm_get C nF_MO_21 rf_m rfl nd_MO_canMake_84 ?_
        refine hm_iload_n C nd_MO_canMake_87 rfl ?_
        refine hm_iald (t := 3) (N := 20000) (j := t) (f := (ar 2)) C rfl (rf_at hA (i := 2) (by decide)) rfl (by omega) (by decide) nd_MO_canMake_88 ?_
        refine hm_stk (st' := [.int (nI (q t).2.2.1), .ref (A 5)]) (by rw [e2]) ?_
        refine hm_zald (t := 5) (N := 20000) (j := (q t).2.2.1) (f := (ar 5)) C rfl (rf_at hA (i := 5) (by decide)) rfl (by omega) (by decide) nd_MO_canMake_89 ?_
        refine hm_stk (st' := [.int (b2i (kn (q t).2.2.1))]) (by rw [hk (q t).2.2.1 (by omega)]) ?_
        refine hm_if_eq (tgt := 110) C nd_MO_canMake_90 (by decide) (fun d1 => ?_) (fun d1 => ?_)
        · refine hm_iconst (v := 0) C nd_MO_canMake_110 (by decide) ?_
          exact hm_zret C E (by first | exact Or.inl rfl | exact Or.inr rfl) (by omega) (by omega) (⟨by rw [show cmk q pf kn t = false from by unfold cmk; rw [if_neg (by omega : ¬ (q t).1 = 2), if_pos s1, h4]; simp [b2i_1 c1, b2i_0 d1]]; rfl, rfl⟩) nd_MO_canMake_111
        · refine hm_aload_n C nd_MO_canMake_93 rfl ?_
          refine hm_aload_n C nd_MO_canMake_94 rfl ?_
          refine hm_get C nF_MO_17 rf_m rfl nd_MO_canMake_95 ?_
          refine hm_iload_n C nd_MO_canMake_98 rfl ?_
          refine hm_iald (t := 3) (N := 20000) (j := t) (f := (ar 1)) C rfl (rf_at hA (i := 1) (by decide)) rfl (by omega) (by decide) nd_MO_canMake_99 ?_
          refine hm_stk (st' := [.int (nI (q t).2.1), .ref m]) (by rw [e1]) ?_
          refine hm_callV C (ct_MO_shows m A hA sc ar n q vl dr hT hV kn hk (q t).2.1 (pf (q t).2.1) (by omega) p1.1 p1.2.1 p1.2.2) nV_MO_shows [.int (nI (q t).2.1)] rfl rf_m rfl nq_MO_99 nj_MO_shows nx_MO_shows rfl (rest := []) rfl (Nat.le_of_ble_eq_true rfl) (by decide) (by decide) (by omega) (by omega) nd_MO_canMake_100 (fun r M3 hp => ?_)
          obtain ⟨rfl, eM3⟩ := hp
          rw [eM3]
          refine hm_stk (st' := [.int (b2i (kn (q t).2.1 || kn (pf (q t).2.1)))]) rfl ?_
          refine hm_if_eq (tgt := 110) C nd_MO_canMake_103 (by decide) (fun d2 => ?_) (fun d2 => ?_)
          · have h5 := b2i_0 d2
            refine hm_iconst (v := 0) C nd_MO_canMake_110 (by decide) ?_
            exact hm_zret C E (by first | exact Or.inl rfl | exact Or.inr rfl) (by omega) (by omega) (⟨by rw [show cmk q pf kn t = false from by unfold cmk; rw [if_neg (by omega : ¬ (q t).1 = 2), if_pos s1, h4, h5]; simp [b2i_1 c1, b2i_1 d1]]; rfl, rfl⟩) nd_MO_canMake_111
          · have h5 := b2i_1 d2
            refine hm_iconst (v := 1) C nd_MO_canMake_106 (by decide) ?_
            refine hm_goto (tgt := 111) C nd_MO_canMake_107 (by decide) ?_
            exact hm_zret C E (by first | exact Or.inl rfl | exact Or.inr rfl) (by omega) (by omega) (⟨by rw [show cmk q pf kn t = true from by unfold cmk; rw [if_neg (by omega : ¬ (q t).1 = 2), if_pos s1, h4, h5]; simp [b2i_1 c1, b2i_1 d1]]; rfl, rfl⟩) nd_MO_canMake_111
  · rw [s1]
    refine hm_tableIn (tgt := 112) C nd_MO_canMake_6 (by decide) (by decide) rfl (by decide) ?_
    skip
    have l2 := bd.2.1 (by omega)
    have l3 := bd.2.2 (by omega)
    refine hm_aload_n C nd_MO_canMake_112 rfl ?_
    refine hm_aload_n C nd_MO_canMake_113 rfl ?_
    refine hm_get C nF_MO_21 rf_m rfl nd_MO_canMake_114 ?_
    refine hm_iload_n C nd_MO_canMake_117 rfl ?_
    refine hm_iald (t := 3) (N := 20000) (j := t) (f := (ar 2)) C rfl (rf_at hA (i := 2) (by decide)) rfl (by omega) (by decide) nd_MO_canMake_118 ?_
    refine hm_stk (st' := [.int (nI (q t).2.2.1), .ref m]) (by rw [e2]) ?_
    refine hm_callV C (ct_MO_has m A hA sc ar kn hk (q t).2.2.1 (by omega)) nV_MO_has [.int (nI (q t).2.2.1)] rfl rf_m rfl nq_MO_103 nj_MO_has nx_MO_has rfl (rest := []) rfl (Nat.le_of_ble_eq_true rfl) (by decide) (by decide) (by omega) (by omega) nd_MO_canMake_119 (fun r M4 hp => ?_)
    obtain ⟨rfl, eM4⟩ := hp
    rw [eM4]
    refine hm_stk (st' := [.int (b2i (rhas kn (q t).2.2.1))]) rfl ?_
    refine hm_if_eq (tgt := 142) C nd_MO_canMake_122 (by decide) (fun c1 => ?_) (fun c1 => ?_)
    · refine hm_iconst (v := 0) C nd_MO_canMake_142 (by decide) ?_
      exact hm_zret C E (by first | exact Or.inl rfl | exact Or.inr rfl) (by omega) (by omega) (⟨by rw [show cmk q pf kn t = false from by unfold cmk; rw [if_neg (by omega : ¬ (q t).1 = 2), if_neg (by omega : ¬ (q t).1 = 3), if_pos s1]; simp [b2i_0 c1]]; rfl, rfl⟩) nd_MO_canMake_143
    · refine hm_aload_n C nd_MO_canMake_125 rfl ?_
      refine hm_aload_n C nd_MO_canMake_126 rfl ?_
      refine hm_get C nF_MO_24 rf_m rfl nd_MO_canMake_127 ?_
      refine hm_iload_n C nd_MO_canMake_130 rfl ?_
      refine hm_iald (t := 3) (N := 20000) (j := t) (f := (ar 3)) C rfl (rf_at hA (i := 3) (by decide)) rfl (by omega) (by decide) nd_MO_canMake_131 ?_
      refine hm_stk (st' := [.int (nI (q t).2.2.2), .ref m]) (by rw [e3]) ?_
      refine hm_callV C (ct_MO_has m A hA sc ar kn hk (q t).2.2.2 (by omega)) nV_MO_has [.int (nI (q t).2.2.2)] rfl rf_m rfl nq_MO_103 nj_MO_has nx_MO_has rfl (rest := []) rfl (Nat.le_of_ble_eq_true rfl) (by decide) (by decide) (by omega) (by omega) nd_MO_canMake_132 (fun r M5 hp => ?_)
      obtain ⟨rfl, eM5⟩ := hp
      rw [eM5]
      refine hm_stk (st' := [.int (b2i (rhas kn (q t).2.2.2))]) rfl ?_
      refine hm_if_eq (tgt := 142) C nd_MO_canMake_135 (by decide) (fun c2 => ?_) (fun c2 => ?_)
      · refine hm_iconst (v := 0) C nd_MO_canMake_142 (by decide) ?_
        exact hm_zret C E (by first | exact Or.inl rfl | exact Or.inr rfl) (by omega) (by omega) (⟨by rw [show cmk q pf kn t = false from by unfold cmk; rw [if_neg (by omega : ¬ (q t).1 = 2), if_neg (by omega : ¬ (q t).1 = 3), if_pos s1]; simp [b2i_0 c2]]; rfl, rfl⟩) nd_MO_canMake_143
      · refine hm_iconst (v := 1) C nd_MO_canMake_138 (by decide) ?_
        refine hm_goto (tgt := 143) C nd_MO_canMake_139 (by decide) ?_
        exact hm_zret C E (by first | exact Or.inl rfl | exact Or.inr rfl) (by omega) (by omega) (⟨by rw [show cmk q pf kn t = true from by unfold cmk; rw [if_neg (by omega : ¬ (q t).1 = 2), if_neg (by omega : ¬ (q t).1 = 3), if_pos s1]; simp [b2i_1 c1, b2i_1 c2]]; rfl, rfl⟩) nd_MO_canMake_143
  · rw [s1]
    refine hm_tableIn (tgt := 144) C nd_MO_canMake_6 (by decide) (by decide) rfl (by decide) ?_
    skip
    have l1 := bd.1 (by omega)
    have l2 := bd.2.1 (by omega)
    have l3 := bd.2.2 (by omega)
    refine hm_aload_n C nd_MO_canMake_144 rfl ?_
    refine hm_get C nF_MO_31 rf_m rfl nd_MO_canMake_145 ?_
    refine hm_aload_n C nd_MO_canMake_148 rfl ?_
    refine hm_get C nF_MO_17 rf_m rfl nd_MO_canMake_149 ?_
    refine hm_iload_n C nd_MO_canMake_152 rfl ?_
    refine hm_iald (t := 3) (N := 20000) (j := t) (f := (ar 1)) C rfl (rf_at hA (i := 1) (by decide)) rfl (by omega) (by decide) nd_MO_canMake_153 ?_
    refine hm_stk (st' := [.int (nI (q t).2.1), .ref (A 5)]) (by rw [e1]) ?_
    refine hm_zald (t := 5) (N := 20000) (j := (q t).2.1) (f := (ar 5)) C rfl (rf_at hA (i := 5) (by decide)) rfl (by omega) (by decide) nd_MO_canMake_154 ?_
    refine hm_stk (st' := [.int (b2i (kn (q t).2.1))]) (by rw [hk (q t).2.1 (by omega)]) ?_
    refine hm_if_eq (tgt := 190) C nd_MO_canMake_155 (by decide) (fun c1 => ?_) (fun c1 => ?_)
    · refine hm_iconst (v := 0) C nd_MO_canMake_190 (by decide) ?_
      exact hm_zret C E (by first | exact Or.inl rfl | exact Or.inr rfl) (by omega) (by omega) (⟨by rw [show cmk q pf kn t = false from by unfold cmk; rw [if_neg (by omega : ¬ (q t).1 = 2), if_neg (by omega : ¬ (q t).1 = 3), if_neg (by omega : ¬ (q t).1 = 4), if_pos s1]; simp [b2i_0 c1]]; rfl, rfl⟩) nd_MO_canMake_191
    · refine hm_aload_n C nd_MO_canMake_158 rfl ?_
      refine hm_get C nF_MO_31 rf_m rfl nd_MO_canMake_159 ?_
      refine hm_aload_n C nd_MO_canMake_162 rfl ?_
      refine hm_get C nF_MO_21 rf_m rfl nd_MO_canMake_163 ?_
      refine hm_iload_n C nd_MO_canMake_166 rfl ?_
      refine hm_iald (t := 3) (N := 20000) (j := t) (f := (ar 2)) C rfl (rf_at hA (i := 2) (by decide)) rfl (by omega) (by decide) nd_MO_canMake_167 ?_
      refine hm_stk (st' := [.int (nI (q t).2.2.1), .ref (A 5)]) (by rw [e2]) ?_
      refine hm_zald (t := 5) (N := 20000) (j := (q t).2.2.1) (f := (ar 5)) C rfl (rf_at hA (i := 5) (by decide)) rfl (by omega) (by decide) nd_MO_canMake_168 ?_
      refine hm_stk (st' := [.int (b2i (kn (q t).2.2.1))]) (by rw [hk (q t).2.2.1 (by omega)]) ?_
      refine hm_if_eq (tgt := 190) C nd_MO_canMake_169 (by decide) (fun c2 => ?_) (fun c2 => ?_)
      · refine hm_iconst (v := 0) C nd_MO_canMake_190 (by decide) ?_
        exact hm_zret C E (by first | exact Or.inl rfl | exact Or.inr rfl) (by omega) (by omega) (⟨by rw [show cmk q pf kn t = false from by unfold cmk; rw [if_neg (by omega : ¬ (q t).1 = 2), if_neg (by omega : ¬ (q t).1 = 3), if_neg (by omega : ¬ (q t).1 = 4), if_pos s1]; simp [b2i_0 c2]]; rfl, rfl⟩) nd_MO_canMake_191
      · refine hm_aload_n C nd_MO_canMake_172 rfl ?_
        refine hm_get C nF_MO_31 rf_m rfl nd_MO_canMake_173 ?_
        refine hm_aload_n C nd_MO_canMake_176 rfl ?_
        refine hm_get C nF_MO_24 rf_m rfl nd_MO_canMake_177 ?_
        refine hm_iload_n C nd_MO_canMake_180 rfl ?_
        refine hm_iald (t := 3) (N := 20000) (j := t) (f := (ar 3)) C rfl (rf_at hA (i := 3) (by decide)) rfl (by omega) (by decide) nd_MO_canMake_181 ?_
        refine hm_stk (st' := [.int (nI (q t).2.2.2), .ref (A 5)]) (by rw [e3]) ?_
        refine hm_zald (t := 5) (N := 20000) (j := (q t).2.2.2) (f := (ar 5)) C rfl (rf_at hA (i := 5) (by decide)) rfl (by omega) (by decide) nd_MO_canMake_182 ?_
        refine hm_stk (st' := [.int (b2i (kn (q t).2.2.2))]) (by rw [hk (q t).2.2.2 (by omega)]) ?_
        refine hm_if_eq (tgt := 190) C nd_MO_canMake_183 (by decide) (fun c3 => ?_) (fun c3 => ?_)
        · refine hm_iconst (v := 0) C nd_MO_canMake_190 (by decide) ?_
          exact hm_zret C E (by first | exact Or.inl rfl | exact Or.inr rfl) (by omega) (by omega) (⟨by rw [show cmk q pf kn t = false from by unfold cmk; rw [if_neg (by omega : ¬ (q t).1 = 2), if_neg (by omega : ¬ (q t).1 = 3), if_neg (by omega : ¬ (q t).1 = 4), if_pos s1]; simp [b2i_0 c3]]; rfl, rfl⟩) nd_MO_canMake_191
        · refine hm_iconst (v := 1) C nd_MO_canMake_186 (by decide) ?_
          refine hm_goto (tgt := 191) C nd_MO_canMake_187 (by decide) ?_
          exact hm_zret C E (by first | exact Or.inl rfl | exact Or.inr rfl) (by omega) (by omega) (⟨by rw [show cmk q pf kn t = true from by unfold cmk; rw [if_neg (by omega : ¬ (q t).1 = 2), if_neg (by omega : ¬ (q t).1 = 3), if_neg (by omega : ¬ (q t).1 = 4), if_pos s1]; simp [b2i_1 c1, b2i_1 c2, b2i_1 c3]]; rfl, rfl⟩) nd_MO_canMake_191
  · rw [s1]
    refine hm_tableIn (tgt := 192) C nd_MO_canMake_6 (by decide) (by decide) rfl (by decide) ?_
    skip
    have l2 := bd.2.1 (by omega)
    have l3 := bd.2.2 (by omega)
    refine hm_aload_n C nd_MO_canMake_192 rfl ?_
    refine hm_aload_n C nd_MO_canMake_193 rfl ?_
    refine hm_get C nF_MO_21 rf_m rfl nd_MO_canMake_194 ?_
    refine hm_iload_n C nd_MO_canMake_197 rfl ?_
    refine hm_iald (t := 3) (N := 20000) (j := t) (f := (ar 2)) C rfl (rf_at hA (i := 2) (by decide)) rfl (by omega) (by decide) nd_MO_canMake_198 ?_
    refine hm_stk (st' := [.int (nI (q t).2.2.1), .ref m]) (by rw [e2]) ?_
    refine hm_callV C (ct_MO_has m A hA sc ar kn hk (q t).2.2.1 (by omega)) nV_MO_has [.int (nI (q t).2.2.1)] rfl rf_m rfl nq_MO_103 nj_MO_has nx_MO_has rfl (rest := []) rfl (Nat.le_of_ble_eq_true rfl) (by decide) (by decide) (by omega) (by omega) nd_MO_canMake_199 (fun r M6 hp => ?_)
    obtain ⟨rfl, eM6⟩ := hp
    rw [eM6]
    refine hm_stk (st' := [.int (b2i (rhas kn (q t).2.2.1))]) rfl ?_
    refine hm_if_eq (tgt := 222) C nd_MO_canMake_202 (by decide) (fun c1 => ?_) (fun c1 => ?_)
    · refine hm_iconst (v := 0) C nd_MO_canMake_222 (by decide) ?_
      exact hm_zret C E (by first | exact Or.inl rfl | exact Or.inr rfl) (by omega) (by omega) (⟨by rw [show cmk q pf kn t = false from by unfold cmk; rw [if_neg (by omega : ¬ (q t).1 = 2), if_neg (by omega : ¬ (q t).1 = 3), if_neg (by omega : ¬ (q t).1 = 4), if_neg (by omega : ¬ (q t).1 = 5), if_pos s1]; simp [b2i_0 c1]]; rfl, rfl⟩) nd_MO_canMake_223
    · refine hm_aload_n C nd_MO_canMake_205 rfl ?_
      refine hm_aload_n C nd_MO_canMake_206 rfl ?_
      refine hm_get C nF_MO_24 rf_m rfl nd_MO_canMake_207 ?_
      refine hm_iload_n C nd_MO_canMake_210 rfl ?_
      refine hm_iald (t := 3) (N := 20000) (j := t) (f := (ar 3)) C rfl (rf_at hA (i := 3) (by decide)) rfl (by omega) (by decide) nd_MO_canMake_211 ?_
      refine hm_stk (st' := [.int (nI (q t).2.2.2), .ref m]) (by rw [e3]) ?_
      refine hm_callV C (ct_MO_has m A hA sc ar kn hk (q t).2.2.2 (by omega)) nV_MO_has [.int (nI (q t).2.2.2)] rfl rf_m rfl nq_MO_103 nj_MO_has nx_MO_has rfl (rest := []) rfl (Nat.le_of_ble_eq_true rfl) (by decide) (by decide) (by omega) (by omega) nd_MO_canMake_212 (fun r M7 hp => ?_)
      obtain ⟨rfl, eM7⟩ := hp
      rw [eM7]
      refine hm_stk (st' := [.int (b2i (rhas kn (q t).2.2.2))]) rfl ?_
      refine hm_if_eq (tgt := 222) C nd_MO_canMake_215 (by decide) (fun c2 => ?_) (fun c2 => ?_)
      · refine hm_iconst (v := 0) C nd_MO_canMake_222 (by decide) ?_
        exact hm_zret C E (by first | exact Or.inl rfl | exact Or.inr rfl) (by omega) (by omega) (⟨by rw [show cmk q pf kn t = false from by unfold cmk; rw [if_neg (by omega : ¬ (q t).1 = 2), if_neg (by omega : ¬ (q t).1 = 3), if_neg (by omega : ¬ (q t).1 = 4), if_neg (by omega : ¬ (q t).1 = 5), if_pos s1]; simp [b2i_0 c2]]; rfl, rfl⟩) nd_MO_canMake_223
      · refine hm_iconst (v := 1) C nd_MO_canMake_218 (by decide) ?_
        refine hm_goto (tgt := 223) C nd_MO_canMake_219 (by decide) ?_
        exact hm_zret C E (by first | exact Or.inl rfl | exact Or.inr rfl) (by omega) (by omega) (⟨by rw [show cmk q pf kn t = true from by unfold cmk; rw [if_neg (by omega : ¬ (q t).1 = 2), if_neg (by omega : ¬ (q t).1 = 3), if_neg (by omega : ¬ (q t).1 = 4), if_neg (by omega : ¬ (q t).1 = 5), if_pos s1]; simp [b2i_1 c1, b2i_1 c2]]; rfl, rfl⟩) nd_MO_canMake_223
set_option maxHeartbeats 4000000 in
set_option maxRecDepth 100000 in
theorem ct_MO_open {l : Launch} {D : va_G} {BG : Nat → Option Cell} (m : Nat) (A : Nat → Nat) (hA : rf_ok A m) (sc : Nat → Int32) (ar : Nat → Nat → Int32) (n : Nat) (q : Nat → rq) (vl : Nat → Nat) (dr : Nat) (hT : rt_I sc ar n q) (hV : rv_I n q vl dr) (kn : Nat → Bool) (hk : ∀ t, t < 20000 → ar 5 t = b2i (kn t)) (t : Nat) (ht1 : 1 ≤ t) (ht2 : t < n) : hm_ct l D BG ny_MO_open prog_8_method_12_code 3 (some .boolean) 2 42 0 0 [.ref m, .int (nI t)] (rf_M D m A sc ar) (fun r M' => ∃ ar', r = some (.int (b2i (opn q kn t).2)) ∧ M' = rf_M D m A sc ar' ∧ (∀ i, i ≠ 5 → ar' i = ar i) ∧ ∀ x, x < 20000 → ar' 5 x = b2i ((opn q kn t).1 x)) := by
  refine hm_ct_of (by decide +kernel) (by exact Nat.le_of_ble_eq_true rfl) ?_
  intro X C E
  have C : hm_C X l D BG prog_8_method_12_code "TurnedKeysModel" "open" 3 2 42 0 0 := C
  refine hm_lv (lv' := [(0, .ref m), (1, .int (nI t))]) rfl ?_
  have hn2 := hT.2.2.1
  obtain ⟨e0, e1, e2, e3⟩ := hT.2.2.2.1 t ht1 ht2
  have bd := rv_bd hV ht1 ht2
  have ok := hV.2.2.1 t ht1 ht2
  have ok6 : (q t).1 ≤ 6 := ok.2.1
  refine hm_iconst (v := 0) C nd_MO_open_0 (by decide) ?_
  refine hm_istore_n C [(2, .int 0), (0, .ref m), (1, .int (nI t))] nd_MO_open_1 (by decide) rfl ?_
  refine hm_aload_n C nd_MO_open_2 rfl ?_
  refine hm_get C nF_MO_13 rf_m rfl nd_MO_open_3 ?_
  refine hm_iload_n C nd_MO_open_6 rfl ?_
  refine hm_bald (t := 4) (N := 20000) (j := t) (f := (ar 0)) C rfl (rf_at hA (i := 0) (by decide)) rfl (by omega) (by decide) nd_MO_open_7 ?_
  refine hm_stk (st' := [.int (nI (q t).1)]) (by rw [e0]) ?_
  refine hm_iconst (v := 5) C nd_MO_open_8 (by decide) ?_
  refine hm_stk (st' := [.int (nI 5), .int (nI (q t).1)]) rfl ?_
  refine hm_icmp_ne (tgt := 60) C nd_MO_open_9 (by decide) (fun c1 => ?_) (fun c1 => ?_)
  · have s5 : ¬ (q t).1 = 5 := fun z => c1 (by rw [z])
    refine hm_aload_n C nd_MO_open_60 rfl ?_
    refine hm_get C nF_MO_13 rf_m rfl nd_MO_open_61 ?_
    refine hm_iload_n C nd_MO_open_64 rfl ?_
    refine hm_bald (t := 4) (N := 20000) (j := t) (f := (ar 0)) C rfl (rf_at hA (i := 0) (by decide)) rfl (by omega) (by decide) nd_MO_open_65 ?_
    refine hm_stk (st' := [.int (nI (q t).1)]) (by rw [e0]) ?_
    refine hm_bipush (v := 6) C nd_MO_open_66 (by decide) ?_
    refine hm_stk (st' := [.int (nI 6), .int (nI (q t).1)]) rfl ?_
    refine hm_icmp_ne (tgt := 105) C nd_MO_open_68 (by decide) (fun c2 => ?_) (fun c2 => ?_)
    · have s6 : ¬ (q t).1 = 6 := fun z => c2 (by rw [z])
      have ho : opn q kn t = (kn, false) := by unfold opn; rw [if_neg s5, if_neg s6]
      refine hm_iload_n C nd_MO_open_105 rfl ?_
      exact hm_zret C E (by first | exact Or.inl rfl | exact Or.inr rfl) (by omega) (by omega) (⟨ar, by rw [ho]; rfl, rfl, fun _ _ => rfl, by rw [ho]; exact hk⟩) nd_MO_open_106
    · have s6 : (q t).1 = 6 := (nI_eq (by omega) (by omega)).mp c2
      have l2 := bd.2.1 (by omega)
      have l3 := bd.2.2 (by omega)
      have ho : opn q kn t = (lrn (lrn kn (q t).2.2.1) (q t).2.2.2, !rhas (lrn kn (q t).2.2.1) (q t).2.2.2 || !rhas kn (q t).2.2.1) := by unfold opn; rw [if_neg s5, if_pos s6]
      refine hm_aload_n C nd_MO_open_71 rfl ?_
      refine hm_aload_n C nd_MO_open_72 rfl ?_
      refine hm_get C nF_MO_21 rf_m rfl nd_MO_open_73 ?_
      refine hm_iload_n C nd_MO_open_76 rfl ?_
      refine hm_iald (t := 3) (N := 20000) (j := t) (f := (ar 2)) C rfl (rf_at hA (i := 2) (by decide)) rfl (by omega) (by decide) nd_MO_open_77 ?_
      refine hm_stk (st' := [.int (nI (q t).2.2.1), .ref m]) (by rw [e2]) ?_
      refine hm_callV C (ct_MO_learn m A hA sc ar kn hk (q t).2.2.1 (by omega)) nV_MO_learn [.int (nI (q t).2.2.1)] rfl rf_m rfl nq_MO_106 nj_MO_learn nx_MO_learn rfl (rest := []) rfl (Nat.le_of_ble_eq_true rfl) (by decide) (by decide) (by omega) (by omega) nd_MO_open_78 (fun r M1 hp => ?_)
      obtain ⟨ar1, rfl, rfl, hs1, hk1⟩ := hp
      refine hm_stk (st' := [.int (b2i (!rhas kn (q t).2.2.1))]) rfl ?_
      refine hm_istore_n C [(2, .int (b2i (!rhas kn (q t).2.2.1))), (0, .ref m), (1, .int (nI t))] nd_MO_open_81 (by decide) rfl ?_
      refine hm_aload_n C nd_MO_open_82 rfl ?_
      refine hm_aload_n C nd_MO_open_83 rfl ?_
      refine hm_get C nF_MO_24 rf_m rfl nd_MO_open_84 ?_
      refine hm_iload_n C nd_MO_open_87 rfl ?_
      refine hm_iald (t := 3) (N := 20000) (j := t) (f := (ar1 3)) C rfl (rf_at hA (i := 3) (by decide)) rfl (by omega) (by decide) nd_MO_open_88 ?_
      refine hm_stk (st' := [.int (nI (q t).2.2.2), .ref m]) (by rw [hs1 3 (by decide), e3]) ?_
      refine hm_callV C (ct_MO_learn m A hA sc ar1 (lrn kn (q t).2.2.1) hk1 (q t).2.2.2 (by omega)) nV_MO_learn [.int (nI (q t).2.2.2)] rfl rf_m rfl nq_MO_106 nj_MO_learn nx_MO_learn rfl (rest := []) rfl (Nat.le_of_ble_eq_true rfl) (by decide) (by decide) (by omega) (by omega) nd_MO_open_89 (fun r M2 hp => ?_)
      obtain ⟨ar2, rfl, rfl, hs2, hk2⟩ := hp
      refine hm_stk (st' := [.int (b2i (!rhas (lrn kn (q t).2.2.1) (q t).2.2.2))]) rfl ?_
      refine hm_if_ne (tgt := 99) C nd_MO_open_92 (by decide) (fun d1 => ?_) (fun d1 => ?_)
      · have h1 := b2i_1 d1
        refine hm_iconst (v := 1) C nd_MO_open_99 (by decide) ?_
        refine hm_goto (tgt := 104) C nd_MO_open_100 (by decide) ?_
        refine hm_istore_n C [(2, .int 1), (0, .ref m), (1, .int (nI t))] nd_MO_open_104 (by decide) rfl ?_
        refine hm_iload_n C nd_MO_open_105 rfl ?_
        exact hm_zret C E (by first | exact Or.inl rfl | exact Or.inr rfl) (by omega) (by omega) (⟨ar2, by rw [ho]; simp [h1]; rfl, rfl, fun i hi => (hs2 i hi).trans (hs1 i hi), by rw [ho]; exact hk2⟩) nd_MO_open_106
      · have h1 := b2i_0 d1
        refine hm_iload_n C nd_MO_open_95 rfl ?_
        refine hm_if_eq (tgt := 103) C nd_MO_open_96 (by decide) (fun d2 => ?_) (fun d2 => ?_)
        · have h2 := b2i_0 d2
          refine hm_iconst (v := 0) C nd_MO_open_103 (by decide) ?_
          refine hm_istore_n C [(2, .int 0), (0, .ref m), (1, .int (nI t))] nd_MO_open_104 (by decide) rfl ?_
          refine hm_iload_n C nd_MO_open_105 rfl ?_
          exact hm_zret C E (by first | exact Or.inl rfl | exact Or.inr rfl) (by omega) (by omega) (⟨ar2, by rw [ho]; simp [h1, h2]; rfl, rfl, fun i hi => (hs2 i hi).trans (hs1 i hi), by rw [ho]; exact hk2⟩) nd_MO_open_106
        · have h2 := b2i_1 d2
          refine hm_iconst (v := 1) C nd_MO_open_99 (by decide) ?_
          refine hm_goto (tgt := 104) C nd_MO_open_100 (by decide) ?_
          refine hm_istore_n C [(2, .int 1), (0, .ref m), (1, .int (nI t))] nd_MO_open_104 (by decide) rfl ?_
          refine hm_iload_n C nd_MO_open_105 rfl ?_
          exact hm_zret C E (by first | exact Or.inl rfl | exact Or.inr rfl) (by omega) (by omega) (⟨ar2, by rw [ho]; simp [h1, h2]; rfl, rfl, fun i hi => (hs2 i hi).trans (hs1 i hi), by rw [ho]; exact hk2⟩) nd_MO_open_106
  · have s5 : (q t).1 = 5 := (nI_eq (by omega) (by omega)).mp c1
    have l1 := bd.1 (by omega)
    have l2 := bd.2.1 (by omega)
    have l3 := bd.2.2 (by omega)
    refine hm_aload_n C nd_MO_open_12 rfl ?_
    refine hm_aload_n C nd_MO_open_13 rfl ?_
    refine hm_get C nF_MO_21 rf_m rfl nd_MO_open_14 ?_
    refine hm_iload_n C nd_MO_open_17 rfl ?_
    refine hm_iald (t := 3) (N := 20000) (j := t) (f := (ar 2)) C rfl (rf_at hA (i := 2) (by decide)) rfl (by omega) (by decide) nd_MO_open_18 ?_
    refine hm_stk (st' := [.int (nI (q t).2.2.1), .ref m]) (by rw [e2]) ?_
    refine hm_callV C (ct_MO_learn m A hA sc ar kn hk (q t).2.2.1 (by omega)) nV_MO_learn [.int (nI (q t).2.2.1)] rfl rf_m rfl nq_MO_106 nj_MO_learn nx_MO_learn rfl (rest := []) rfl (Nat.le_of_ble_eq_true rfl) (by decide) (by decide) (by omega) (by omega) nd_MO_open_19 (fun r M3 hp => ?_)
    obtain ⟨ar1, rfl, rfl, hs1, hk1⟩ := hp
    refine hm_stk (st' := [.int (b2i (!rhas kn (q t).2.2.1))]) rfl ?_
    refine hm_istore_n C [(2, .int (b2i (!rhas kn (q t).2.2.1))), (0, .ref m), (1, .int (nI t))] nd_MO_open_22 (by decide) rfl ?_
    refine hm_aload_n C nd_MO_open_23 rfl ?_
    refine hm_get C nF_MO_31 rf_m rfl nd_MO_open_24 ?_
    refine hm_aload_n C nd_MO_open_27 rfl ?_
    refine hm_get C nF_MO_17 rf_m rfl nd_MO_open_28 ?_
    refine hm_iload_n C nd_MO_open_31 rfl ?_
    refine hm_iald (t := 3) (N := 20000) (j := t) (f := (ar1 1)) C rfl (rf_at hA (i := 1) (by decide)) rfl (by omega) (by decide) nd_MO_open_32 ?_
    refine hm_stk (st' := [.int (nI (q t).2.1), .ref (A 5)]) (by rw [hs1 1 (by decide), e1]) ?_
    refine hm_zald (t := 5) (N := 20000) (j := (q t).2.1) (f := (ar1 5)) C rfl (rf_at hA (i := 5) (by decide)) rfl (by omega) (by decide) nd_MO_open_33 ?_
    refine hm_stk (st' := [.int (b2i (lrn kn (q t).2.2.1 (q t).2.1))]) (by rw [hk1 (q t).2.1 (by omega)]) ?_
    refine hm_if_eq (tgt := 60) C nd_MO_open_34 (by decide) (fun c2 => ?_) (fun c2 => ?_)
    · have h0 := b2i_0 c2
      have ho : opn q kn t = (lrn kn (q t).2.2.1, !rhas kn (q t).2.2.1) := by unfold opn; rw [if_pos s5, if_neg (by rw [h0]; decide)]
      refine hm_aload_n C nd_MO_open_60 rfl ?_
      refine hm_get C nF_MO_13 rf_m rfl nd_MO_open_61 ?_
      refine hm_iload_n C nd_MO_open_64 rfl ?_
      refine hm_bald (t := 4) (N := 20000) (j := t) (f := (ar1 0)) C rfl (rf_at hA (i := 0) (by decide)) rfl (by omega) (by decide) nd_MO_open_65 ?_
      refine hm_stk (st' := [.int (nI (q t).1)]) (by rw [hs1 0 (by decide), e0]) ?_
      refine hm_bipush (v := 6) C nd_MO_open_66 (by decide) ?_
      refine hm_stk (st' := [.int (nI 6), .int (nI (q t).1)]) rfl ?_
      refine hm_icmp_ne (tgt := 105) C nd_MO_open_68 (by decide) (fun d9 => ?_) (fun d9 => absurd ((nI_eq (by omega) (by omega)).mp d9) (by omega))
      refine hm_iload_n C nd_MO_open_105 rfl ?_
      exact hm_zret C E (b2i_01 _) (by omega) (by omega) (⟨ar1, by rw [ho], rfl, hs1, by rw [ho]; exact hk1⟩) nd_MO_open_106
    · have h0 := b2i_1 c2
      have ho : opn q kn t = (lrn (lrn kn (q t).2.2.1) (q t).2.2.2, !rhas (lrn kn (q t).2.2.1) (q t).2.2.2 || !rhas kn (q t).2.2.1) := by unfold opn; rw [if_pos s5, if_pos h0]
      refine hm_aload_n C nd_MO_open_37 rfl ?_
      refine hm_aload_n C nd_MO_open_38 rfl ?_
      refine hm_get C nF_MO_24 rf_m rfl nd_MO_open_39 ?_
      refine hm_iload_n C nd_MO_open_42 rfl ?_
      refine hm_iald (t := 3) (N := 20000) (j := t) (f := (ar1 3)) C rfl (rf_at hA (i := 3) (by decide)) rfl (by omega) (by decide) nd_MO_open_43 ?_
      refine hm_stk (st' := [.int (nI (q t).2.2.2), .ref m]) (by rw [hs1 3 (by decide), e3]) ?_
      refine hm_callV C (ct_MO_learn m A hA sc ar1 (lrn kn (q t).2.2.1) hk1 (q t).2.2.2 (by omega)) nV_MO_learn [.int (nI (q t).2.2.2)] rfl rf_m rfl nq_MO_106 nj_MO_learn nx_MO_learn rfl (rest := []) rfl (Nat.le_of_ble_eq_true rfl) (by decide) (by decide) (by omega) (by omega) nd_MO_open_44 (fun r M4 hp => ?_)
      obtain ⟨ar2, rfl, rfl, hs2, hk2⟩ := hp
      refine hm_stk (st' := [.int (b2i (!rhas (lrn kn (q t).2.2.1) (q t).2.2.2))]) rfl ?_
      refine hm_if_ne (tgt := 54) C nd_MO_open_47 (by decide) (fun d1 => ?_) (fun d1 => ?_)
      · have h1 := b2i_1 d1
        refine hm_iconst (v := 1) C nd_MO_open_54 (by decide) ?_
        refine hm_goto (tgt := 59) C nd_MO_open_55 (by decide) ?_
        refine hm_istore_n C [(2, .int 1), (0, .ref m), (1, .int (nI t))] nd_MO_open_59 (by decide) rfl ?_
        refine hm_aload_n C nd_MO_open_60 rfl ?_
        refine hm_get C nF_MO_13 rf_m rfl nd_MO_open_61 ?_
        refine hm_iload_n C nd_MO_open_64 rfl ?_
        refine hm_bald (t := 4) (N := 20000) (j := t) (f := (ar2 0)) C rfl (rf_at hA (i := 0) (by decide)) rfl (by omega) (by decide) nd_MO_open_65 ?_
        refine hm_stk (st' := [.int (nI (q t).1)]) (by rw [hs2 0 (by decide), hs1 0 (by decide), e0]) ?_
        refine hm_bipush (v := 6) C nd_MO_open_66 (by decide) ?_
        refine hm_stk (st' := [.int (nI 6), .int (nI (q t).1)]) rfl ?_
        refine hm_icmp_ne (tgt := 105) C nd_MO_open_68 (by decide) (fun d9 => ?_) (fun d9 => absurd ((nI_eq (by omega) (by omega)).mp d9) (by omega))
        refine hm_iload_n C nd_MO_open_105 rfl ?_
        exact hm_zret C E (by first | exact Or.inl rfl | exact Or.inr rfl) (by omega) (by omega) (⟨ar2, by rw [ho]; simp [h1]; rfl, rfl, fun i hi => (hs2 i hi).trans (hs1 i hi), by rw [ho]; exact hk2⟩) nd_MO_open_106
      · have h1 := b2i_0 d1
        refine hm_iload_n C nd_MO_open_50 rfl ?_
        refine hm_if_eq (tgt := 58) C nd_MO_open_51 (by decide) (fun d2 => ?_) (fun d2 => ?_)
        · have h2 := b2i_0 d2
          refine hm_iconst (v := 0) C nd_MO_open_58 (by decide) ?_
          refine hm_istore_n C [(2, .int 0), (0, .ref m), (1, .int (nI t))] nd_MO_open_59 (by decide) rfl ?_
          refine hm_aload_n C nd_MO_open_60 rfl ?_
          refine hm_get C nF_MO_13 rf_m rfl nd_MO_open_61 ?_
          refine hm_iload_n C nd_MO_open_64 rfl ?_
          refine hm_bald (t := 4) (N := 20000) (j := t) (f := (ar2 0)) C rfl (rf_at hA (i := 0) (by decide)) rfl (by omega) (by decide) nd_MO_open_65 ?_
          refine hm_stk (st' := [.int (nI (q t).1)]) (by rw [hs2 0 (by decide), hs1 0 (by decide), e0]) ?_
          refine hm_bipush (v := 6) C nd_MO_open_66 (by decide) ?_
          refine hm_stk (st' := [.int (nI 6), .int (nI (q t).1)]) rfl ?_
          refine hm_icmp_ne (tgt := 105) C nd_MO_open_68 (by decide) (fun d9 => ?_) (fun d9 => absurd ((nI_eq (by omega) (by omega)).mp d9) (by omega))
          refine hm_iload_n C nd_MO_open_105 rfl ?_
          exact hm_zret C E (by first | exact Or.inl rfl | exact Or.inr rfl) (by omega) (by omega) (⟨ar2, by rw [ho]; simp [h1, h2]; rfl, rfl, fun i hi => (hs2 i hi).trans (hs1 i hi), by rw [ho]; exact hk2⟩) nd_MO_open_106
        · have h2 := b2i_1 d2
          refine hm_iconst (v := 1) C nd_MO_open_54 (by decide) ?_
          refine hm_goto (tgt := 59) C nd_MO_open_55 (by decide) ?_
          refine hm_istore_n C [(2, .int 1), (0, .ref m), (1, .int (nI t))] nd_MO_open_59 (by decide) rfl ?_
          refine hm_aload_n C nd_MO_open_60 rfl ?_
          refine hm_get C nF_MO_13 rf_m rfl nd_MO_open_61 ?_
          refine hm_iload_n C nd_MO_open_64 rfl ?_
          refine hm_bald (t := 4) (N := 20000) (j := t) (f := (ar2 0)) C rfl (rf_at hA (i := 0) (by decide)) rfl (by omega) (by decide) nd_MO_open_65 ?_
          refine hm_stk (st' := [.int (nI (q t).1)]) (by rw [hs2 0 (by decide), hs1 0 (by decide), e0]) ?_
          refine hm_bipush (v := 6) C nd_MO_open_66 (by decide) ?_
          refine hm_stk (st' := [.int (nI 6), .int (nI (q t).1)]) rfl ?_
          refine hm_icmp_ne (tgt := 105) C nd_MO_open_68 (by decide) (fun d9 => ?_) (fun d9 => absurd ((nI_eq (by omega) (by omega)).mp d9) (by omega))
          refine hm_iload_n C nd_MO_open_105 rfl ?_
          exact hm_zret C E (by first | exact Or.inl rfl | exact Or.inr rfl) (by omega) (by omega) (⟨ar2, by rw [ho]; simp [h1, h2]; rfl, rfl, fun i hi => (hs2 i hi).trans (hs1 i hi), by rw [ho]; exact hk2⟩) nd_MO_open_106
