set_option maxHeartbeats 4000000 in
set_option maxRecDepth 100000 in
theorem ct_TS_isDerived {l : Launch} {D : va_G} {BG : Nat → Option Cell} (M : hm_M) (n : Nat) (ad kd : Nat → Nat) (lf rt er lu pb : Nat → Option Nat) (dv : Nat → Bool) (hcell : ∀ i, i < n → M (ad i) = some (tt_c ad kd lf rt er lu pb dv i)) (r : Option Nat) (hr : ∀ j, r = some j → j < n) : hm_ct l D BG ny_TS_isDerived prog_5_method_13_code 1 (some .boolean) 0 0 0 0 [va_rf (r.map ad)] M (fun r' M' => r' = some (.int (if tt_db dv r = true then 1 else 0)) ∧ M' = M) := by
  refine hm_ct_of (by decide +kernel) (by simp [lg_sl, hm_cat, hm_catI, hm_catR, hm_catN]) ?_
  intro X C E
  have C : hm_C X l D BG prog_5_method_13_code "TurnedKeys$Terms" "isDerived" 1 0 0 0 0 := C
  refine hm_lv (lv' := [(0, va_rf (r.map ad))]) (by simp [lv_args, hm_cat, hm_catI, hm_catR, hm_catN]) ?_
  rcases r with _ | x
  · refine hm_lv (lv' := [(0, .null)]) rfl ?_
    refine hm_aload_nN C nd_TS_isDerived_0 rfl ?_
    refine hm_ifnull (tgt := 11) (r := none) C nd_TS_isDerived_1 (by decide) (fun _ => ?_) (fun h => absurd rfl h)
    refine hm_iconst (v := 1) C nd_TS_isDerived_11 (by decide) ?_
    refine hm_goto (tgt := 16) C nd_TS_isDerived_12 (by decide) ?_
    exact hm_zret C E (by first | exact Or.inl rfl | exact Or.inr rfl) (by omega) (by omega) (⟨rfl, rfl⟩) nd_TS_isDerived_16
  · refine hm_lv (lv' := [(0, .ref (ad x))]) rfl ?_
    refine hm_aload_n C nd_TS_isDerived_0 rfl ?_
    refine hm_ifnull (tgt := 11) (r := (some (ad x))) C nd_TS_isDerived_1 (by decide) (fun h => by cases h) (fun _ => ?_)
    refine hm_aload_n C nd_TS_isDerived_4 rfl ?_
    refine hm_get C nF_TS_73 (hcell x (hr x rfl)) rfl nd_TS_isDerived_5 ?_
    refine hm_if_eq (tgt := 15) C nd_TS_isDerived_8 (by decide) (fun cc => ?_) (fun cc => ?_)
    · refine hm_iconst (v := 0) C nd_TS_isDerived_15 (by decide) ?_
      exact hm_zret C E (by first | exact Or.inl rfl | exact Or.inr rfl) (by omega) (by omega) (⟨by rw [show tt_db dv (some x) = dv x from rfl, if_neg (fun h => by rw [if_pos h] at cc; exact absurd cc (by decide))], rfl⟩) nd_TS_isDerived_16
    · refine hm_iconst (v := 1) C nd_TS_isDerived_11 (by decide) ?_
      refine hm_goto (tgt := 16) C nd_TS_isDerived_12 (by decide) ?_
      exact hm_zret C E (by first | exact Or.inl rfl | exact Or.inr rfl) (by omega) (by omega) (⟨by rw [show tt_db dv (some x) = dv x from rfl, if_pos (by rcases hb : dv x with _ | _; exact absurd (by rw [hb]; rfl) cc; rfl)], rfl⟩) nd_TS_isDerived_16
set_option maxHeartbeats 4000000 in
set_option maxRecDepth 100000 in
theorem ct_TS_sharedByOne {l : Launch} {D : va_G} {BG : Nat → Option Cell} (M : hm_M) (n : Nat) (ad kd : Nat → Nat) (lf rt er lu pb : Nat → Option Nat) (dv : Nat → Bool) (hcell : ∀ i, i < n → M (ad i) = some (tt_c ad kd lf rt er lu pb dv i)) (hpn : ∀ i, i < n → ∀ j, pb i = some j → j < n) (a b : Option Nat) (ha : ∀ j, a = some j → j < n) (hb : ∀ j, b = some j → j < n) : hm_ct l D BG ny_TS_sharedByOne prog_5_method_12_code 2 (some .boolean) 0 0 0 0 [va_rf (a.map ad), va_rf (b.map ad)] M (fun r' M' => r' = some (.int (if tt_sb pb dv a b = true then 1 else 0)) ∧ M' = M) := by
  refine hm_ct_of (by decide +kernel) (by simp [lg_sl, hm_cat, hm_catI, hm_catR, hm_catN]) ?_
  intro X C E
  have C : hm_C X l D BG prog_5_method_12_code "TurnedKeys$Terms" "sharedByOne" 2 0 0 0 0 := C
  refine hm_lv (lv' := [(0, va_rf (a.map ad)), (1, va_rf (b.map ad))]) (by simp [lv_args, hm_cat, hm_catI, hm_catR, hm_catN]) ?_
  rcases a with _ | x
  · refine hm_lv (lv' := [(0, .null), (1, va_rf (b.map ad))]) rfl ?_
    refine hm_aload_nN C nd_TS_sharedByOne_0 rfl ?_
    refine hm_ifnull (tgt := 36) (r := none) C nd_TS_sharedByOne_1 (by decide) (fun _ => ?_) (fun h => absurd rfl h)
    refine hm_iconst (v := 0) C nd_TS_sharedByOne_36 (by decide) ?_
    exact hm_zret C E (by first | exact Or.inl rfl | exact Or.inr rfl) (by omega) (by omega) (⟨by cases b <;> rfl, rfl⟩) nd_TS_sharedByOne_37
  · rcases b with _ | y
    · refine hm_lv (lv' := [(0, .ref (ad x)), (1, .null)]) rfl ?_
      refine hm_aload_n C nd_TS_sharedByOne_0 rfl ?_
      refine hm_ifnull (tgt := 36) (r := (some (ad x))) C nd_TS_sharedByOne_1 (by decide) (fun h => by cases h) (fun _ => ?_)
      refine hm_aload_nN C nd_TS_sharedByOne_4 rfl ?_
      refine hm_ifnull (tgt := 36) (r := none) C nd_TS_sharedByOne_5 (by decide) (fun _ => ?_) (fun h => absurd rfl h)
      refine hm_iconst (v := 0) C nd_TS_sharedByOne_36 (by decide) ?_
      exact hm_zret C E (by first | exact Or.inl rfl | exact Or.inr rfl) (by omega) (by omega) (⟨rfl, rfl⟩) nd_TS_sharedByOne_37
    · refine hm_lv (lv' := [(0, .ref (ad x)), (1, .ref (ad y))]) rfl ?_
      have e0 : tt_sb pb dv (some x) (some y) = (dv x && (match pb y with | some p => dv p | none => false)) := rfl
      rw [e0] at E
      refine hm_aload_n C nd_TS_sharedByOne_0 rfl ?_
      refine hm_ifnull (tgt := 36) (r := (some (ad x))) C nd_TS_sharedByOne_1 (by decide) (fun h => by cases h) (fun _ => ?_)
      refine hm_aload_n C nd_TS_sharedByOne_4 rfl ?_
      refine hm_ifnull (tgt := 36) (r := (some (ad y))) C nd_TS_sharedByOne_5 (by decide) (fun h => by cases h) (fun _ => ?_)
      refine hm_aload_n C nd_TS_sharedByOne_8 rfl ?_
      refine hm_get C nF_TS_73 (hcell x (ha x rfl)) rfl nd_TS_sharedByOne_9 ?_
      refine hm_if_eq (tgt := 36) C nd_TS_sharedByOne_12 (by decide) (fun cc => ?_) (fun cc => ?_)
      · refine hm_iconst (v := 0) C nd_TS_sharedByOne_36 (by decide) ?_
        exact hm_zret C E (by first | exact Or.inl rfl | exact Or.inr rfl) (by omega) (by omega) (⟨by rw [show dv x = false from by rcases h : dv x with _ | _; rfl; rw [if_pos h] at cc; exact absurd cc (by decide)]; rfl, rfl⟩) nd_TS_sharedByOne_37
      · have hdx : dv x = true := by rcases h : dv x with _ | _; exact absurd (by rw [h]; rfl) cc; rfl
        refine hm_aload_n C nd_TS_sharedByOne_15 rfl ?_
        refine hm_get C nF_TS_26 (hcell y (hb y rfl)) rfl nd_TS_sharedByOne_16 ?_
        refine hm_ifnull (tgt := 36) (r := ((pb y).map ad)) C nd_TS_sharedByOne_19 (by decide) (fun c2 => ?_) (fun c2 => ?_)
        · have hp := om_none c2
          refine hm_iconst (v := 0) C nd_TS_sharedByOne_36 (by decide) ?_
          exact hm_zret C E (by first | exact Or.inl rfl | exact Or.inr rfl) (by omega) (by omega) (⟨by rw [hdx, hp]; rfl, rfl⟩) nd_TS_sharedByOne_37
        · obtain ⟨p, hp⟩ := om_some c2
          refine hm_aload_n C nd_TS_sharedByOne_22 rfl ?_
          have hcy : M (ad y) = some (hm_ob 2 [.int (nI (kd y)), .int (nI y), va_rf ((lf y).map ad), va_rf ((rt y).map ad), va_rf ((er y).map ad), va_rf ((lu y).map ad), .ref (ad p), .int (if dv y = true then 1 else 0)]) := by have h := hcell y (hb y rfl); unfold tt_c at h; rw [hp] at h; exact h
          refine hm_get C nF_TS_26 hcy rfl nd_TS_sharedByOne_23 ?_
          refine hm_get C nF_TS_73 (hcell p (hpn y (hb y rfl) p hp)) rfl nd_TS_sharedByOne_26 ?_
          refine hm_if_eq (tgt := 36) C nd_TS_sharedByOne_29 (by decide) (fun c3 => ?_) (fun c3 => ?_)
          · refine hm_iconst (v := 0) C nd_TS_sharedByOne_36 (by decide) ?_
            exact hm_zret C E (by first | exact Or.inl rfl | exact Or.inr rfl) (by omega) (by omega) (⟨by rw [hdx, hp]; show some (Value.int 0) = some (.int (if (true && dv p) = true then 1 else 0)); rw [show dv p = false from by rcases h : dv p with _ | _; rfl; rw [if_pos h] at c3; exact absurd c3 (by decide)]; rfl, rfl⟩) nd_TS_sharedByOne_37
          · refine hm_iconst (v := 1) C nd_TS_sharedByOne_32 (by decide) ?_
            refine hm_goto (tgt := 37) C nd_TS_sharedByOne_33 (by decide) ?_
            exact hm_zret C E (by first | exact Or.inl rfl | exact Or.inr rfl) (by omega) (by omega) (⟨by rw [hdx, hp]; show some (Value.int 1) = some (.int (if (true && dv p) = true then 1 else 0)); rw [show dv p = true from by rcases h : dv p with _ | _; exact absurd (by rw [h]; rfl) c3; rfl]; rfl, rfl⟩) nd_TS_sharedByOne_37
set_option maxHeartbeats 4000000 in
set_option maxRecDepth 100000 in
theorem ct_TS_canBeMade {l : Launch} {D : va_G} {BG : Nat → Option Cell} (M : hm_M) (n : Nat) (ad kd : Nat → Nat) (lf rt er lu pb : Nat → Option Nat) (dv : Nat → Bool) (hcell : ∀ i, i < n → M (ad i) = some (tt_c ad kd lf rt er lu pb dv i)) (hW : tt_W n kd lf rt) (hpn : ∀ i, i < n → ∀ j, pb i = some j → j < n) (i : Nat) (hi : i < n) : hm_ct l D BG ny_TS_canBeMade prog_5_method_11_code 1 (some .boolean) 1 21 0 0 [.ref (ad i)] M (fun r' M' => r' = some (.int (if tt_mb kd lf rt pb dv i = true then 1 else 0)) ∧ M' = M) := by
  refine hm_ct_of (by decide +kernel) (by exact Nat.le_of_ble_eq_true rfl) ?_
  intro X C E
  have C : hm_C X l D BG prog_5_method_11_code "TurnedKeys$Terms" "canBeMade" 1 1 21 0 0 := C
  refine hm_lv (lv' := [(0, .ref (ad i))]) rfl ?_
  obtain ⟨k7, wl, wr⟩ := hW i hi
  have hl : ∀ j, lf i = some j → j < n := fun j e => Nat.lt_trans (wl j e) hi
  have hr : ∀ j, rt i = some j → j < n := fun j e => Nat.lt_trans (wr j e) hi
  have hci := hcell i hi
  unfold tt_c at hci
  refine hm_aload_n C nd_TS_canBeMade_0 rfl ?_
  refine hm_get C nF_TS_53 hci rfl nd_TS_canBeMade_1 ?_
  by_cases h0 : kd i = 0
  · refine hm_lookup (off := 28) (tgt := 32) C nd_TS_canBeMade_4 (by decide) (by rw [h0]; decide) (by decide) ?_
    refine hm_iconst (v := 0) C nd_TS_canBeMade_32 (by decide) ?_
    exact hm_zret C E (by first | exact Or.inl rfl | exact Or.inr rfl) (by omega) (by omega) (⟨by unfold tt_mb; rw [if_pos h0]; rfl, rfl⟩) nd_TS_canBeMade_33
  · by_cases h2 : kd i = 2
    · refine hm_lookup (off := 30) (tgt := 34) C nd_TS_canBeMade_4 (by decide) (by rw [h2]; decide) (by decide) ?_
      have em : tt_mb kd lf rt pb dv i = (tt_sb pb dv (lf i) (rt i) || tt_sb pb dv (rt i) (lf i)) := by unfold tt_mb; rw [if_neg h0, if_pos h2]
      refine hm_aload_n C nd_TS_canBeMade_34 rfl ?_
      refine hm_get C nF_TS_32 hci rfl nd_TS_canBeMade_35 ?_
      refine hm_aload_n C nd_TS_canBeMade_38 rfl ?_
      refine hm_get C nF_TS_56 hci rfl nd_TS_canBeMade_39 ?_
      refine hm_callS C (ct_TS_sharedByOne M n ad kd lf rt er lu pb dv hcell hpn (lf i) (rt i) hl hr) nV_TS_sharedByOne nq_TS_105 nu_TS_sharedByOne rfl (rest := []) rfl (Nat.le_of_ble_eq_true rfl) (by decide) (by decide) (by omega) (by omega) nd_TS_canBeMade_42 (fun r M1 hp => ?_)
      obtain ⟨rfl, eM1⟩ := hp
      rw [eM1]
      refine hm_stk (st' := [.int (if tt_sb pb dv (lf i) (rt i) = true then 1 else 0)]) rfl ?_
      refine hm_if_ne (tgt := 62) C nd_TS_canBeMade_45 (by decide) (fun cc => ?_) (fun cc => ?_)
      · refine hm_iconst (v := 1) C nd_TS_canBeMade_62 (by decide) ?_
        refine hm_goto (tgt := 67) C nd_TS_canBeMade_63 (by decide) ?_
        exact hm_zret C E (by first | exact Or.inl rfl | exact Or.inr rfl) (by omega) (by omega) (⟨by rw [em, show tt_sb pb dv (lf i) (rt i) = true from by rcases h : tt_sb pb dv (lf i) (rt i) with _ | _; exact absurd (by rw [h]; rfl) cc; rfl]; rfl, rfl⟩) nd_TS_canBeMade_67
      · have e1 : tt_sb pb dv (lf i) (rt i) = false := by rcases h : tt_sb pb dv (lf i) (rt i) with _ | _; rfl; rw [if_pos h] at cc; exact absurd cc (by decide)
        refine hm_aload_n C nd_TS_canBeMade_48 rfl ?_
        refine hm_get C nF_TS_56 hci rfl nd_TS_canBeMade_49 ?_
        refine hm_aload_n C nd_TS_canBeMade_52 rfl ?_
        refine hm_get C nF_TS_32 hci rfl nd_TS_canBeMade_53 ?_
        refine hm_callS C (ct_TS_sharedByOne M n ad kd lf rt er lu pb dv hcell hpn (rt i) (lf i) hr hl) nV_TS_sharedByOne nq_TS_105 nu_TS_sharedByOne rfl (rest := []) rfl (Nat.le_of_ble_eq_true rfl) (by decide) (by decide) (by omega) (by omega) nd_TS_canBeMade_56 (fun r M2 hp => ?_)
        obtain ⟨rfl, eM2⟩ := hp
        rw [eM2]
        refine hm_stk (st' := [.int (if tt_sb pb dv (rt i) (lf i) = true then 1 else 0)]) rfl ?_
        refine hm_if_eq (tgt := 66) C nd_TS_canBeMade_59 (by decide) (fun c2 => ?_) (fun c2 => ?_)
        · refine hm_iconst (v := 0) C nd_TS_canBeMade_66 (by decide) ?_
          exact hm_zret C E (by first | exact Or.inl rfl | exact Or.inr rfl) (by omega) (by omega) (⟨by rw [em, e1, show tt_sb pb dv (rt i) (lf i) = false from by rcases h : tt_sb pb dv (rt i) (lf i) with _ | _; rfl; rw [if_pos h] at c2; exact absurd c2 (by decide)]; rfl, rfl⟩) nd_TS_canBeMade_67
        · refine hm_iconst (v := 1) C nd_TS_canBeMade_62 (by decide) ?_
          refine hm_goto (tgt := 67) C nd_TS_canBeMade_63 (by decide) ?_
          exact hm_zret C E (by first | exact Or.inl rfl | exact Or.inr rfl) (by omega) (by omega) (⟨by rw [em, e1, show tt_sb pb dv (rt i) (lf i) = true from by rcases h : tt_sb pb dv (rt i) (lf i) with _ | _; exact absurd (by rw [h]; rfl) c2; rfl]; rfl, rfl⟩) nd_TS_canBeMade_67
    · refine hm_lookup (off := 64) (tgt := 68) C nd_TS_canBeMade_4 (by decide) (by have h9 : kd i = 1 ∨ kd i = 3 ∨ kd i = 4 ∨ kd i = 5 ∨ kd i = 6 ∨ kd i = 7 := (by omega); rcases h9 with h | h | h | h | h | h <;> (rw [h]; decide)) (by decide) ?_
      have em : tt_mb kd lf rt pb dv i = (tt_db dv (lf i) && tt_db dv (rt i)) := by unfold tt_mb; rw [if_neg h0, if_neg h2]
      refine hm_aload_n C nd_TS_canBeMade_68 rfl ?_
      refine hm_get C nF_TS_32 hci rfl nd_TS_canBeMade_69 ?_
      refine hm_callS C (ct_TS_isDerived M n ad kd lf rt er lu pb dv hcell (lf i) hl) nV_TS_isDerived nq_TS_89 nu_TS_isDerived rfl (rest := []) rfl (Nat.le_of_ble_eq_true rfl) (by decide) (by decide) (by omega) (by omega) nd_TS_canBeMade_72 (fun r M1 hp => ?_)
      obtain ⟨rfl, eM1⟩ := hp
      rw [eM1]
      refine hm_stk (st' := [.int (if tt_db dv (lf i) = true then 1 else 0)]) rfl ?_
      refine hm_if_eq (tgt := 92) C nd_TS_canBeMade_75 (by decide) (fun cc => ?_) (fun cc => ?_)
      · refine hm_iconst (v := 0) C nd_TS_canBeMade_92 (by decide) ?_
        exact hm_zret C E (by first | exact Or.inl rfl | exact Or.inr rfl) (by omega) (by omega) (⟨by rw [em, show tt_db dv (lf i) = false from by rcases h : tt_db dv (lf i) with _ | _; rfl; rw [if_pos h] at cc; exact absurd cc (by decide)]; rfl, rfl⟩) nd_TS_canBeMade_93
      · have e1 : tt_db dv (lf i) = true := by rcases h : tt_db dv (lf i) with _ | _; exact absurd (by rw [h]; rfl) cc; rfl
        refine hm_aload_n C nd_TS_canBeMade_78 rfl ?_
        refine hm_get C nF_TS_56 hci rfl nd_TS_canBeMade_79 ?_
        refine hm_callS C (ct_TS_isDerived M n ad kd lf rt er lu pb dv hcell (rt i) hr) nV_TS_isDerived nq_TS_89 nu_TS_isDerived rfl (rest := []) rfl (Nat.le_of_ble_eq_true rfl) (by decide) (by decide) (by omega) (by omega) nd_TS_canBeMade_82 (fun r M2 hp => ?_)
        obtain ⟨rfl, eM2⟩ := hp
        rw [eM2]
        refine hm_stk (st' := [.int (if tt_db dv (rt i) = true then 1 else 0)]) rfl ?_
        refine hm_if_eq (tgt := 92) C nd_TS_canBeMade_85 (by decide) (fun c2 => ?_) (fun c2 => ?_)
        · refine hm_iconst (v := 0) C nd_TS_canBeMade_92 (by decide) ?_
          exact hm_zret C E (by first | exact Or.inl rfl | exact Or.inr rfl) (by omega) (by omega) (⟨by rw [em, e1, show tt_db dv (rt i) = false from by rcases h : tt_db dv (rt i) with _ | _; rfl; rw [if_pos h] at c2; exact absurd c2 (by decide)]; rfl, rfl⟩) nd_TS_canBeMade_93
        · refine hm_iconst (v := 1) C nd_TS_canBeMade_88 (by decide) ?_
          refine hm_goto (tgt := 93) C nd_TS_canBeMade_89 (by decide) ?_
          exact hm_zret C E (by first | exact Or.inl rfl | exact Or.inr rfl) (by omega) (by omega) (⟨by rw [em, e1, show tt_db dv (rt i) = true from by rcases h : tt_db dv (rt i) with _ | _; exact absurd (by rw [h]; rfl) c2; rfl]; rfl, rfl⟩) nd_TS_canBeMade_93
