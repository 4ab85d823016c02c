/-- what comes of the reference's keyFor -/
def rk_p (D : va_G) (m : Nat) (A : Nat → Nat) (sc : Nat → Int32) (ar : Nat → Nat → Int32) (n : Nat) (q : Nat → rq) (vl : Nat → Nat) (dr mi k st bf : Nat) (o : Option (Nat × kf_E)) (r : Option Value) (M' : hm_M) : Prop := ∃ sc' ar' n' q' vl', M' = rf_M D m A sc' ar' ∧ rp sc' ar' n' q' vl' dr ∧ ry (fun a' v' => a'.1 = 4 ∨ (a'.1 = 3 ∧ v' = sm_sh mi k)) 25 sc ar n q vl sc' ar' n' q' vl' ∧ ((o = none ∧ r = some (.int 0)) ∨ ∃ x key ro th sd rc nx lf, o = some (key, ro, th, sd, rc, nx, lf) ∧ r = some (.int x) ∧ rid n' q' vl' x key ∧ re n' q' vl' (ar' 15) (ro, mi, th, sd, st, bf, rc, nx, lf))
theorem kf_n {k ix bw mi ro th sd rc nx : Nat} {lf : List (Nat × Nat × Nat)} {S : List Nat × kf_E} (h : ke_f (sm_t 1 k 0) ix lf = none) (h1 : kf_1 k bw mi (ro, th, sd, rc, nx, lf) = some S) : kf k ix bw mi (ro, th, sd, rc, nx, lf) = kf_2 ix S := by
  unfold kf
  dsimp only
  rw [h]
  dsimp only
  rw [h1]
theorem kf_nn {k ix bw mi ro th sd rc nx : Nat} {lf : List (Nat × Nat × Nat)} (h : ke_f (sm_t 1 k 0) ix lf = none) (h1 : kf_1 k bw mi (ro, th, sd, rc, nx, lf) = none) : kf k ix bw mi (ro, th, sd, rc, nx, lf) = ([], none) := by
  unfold kf
  dsimp only
  rw [h]
  dsimp only
  rw [h1]
theorem kf_s {k ix bw mi ro th sd rc nx v : Nat} {lf l : List (Nat × Nat × Nat)} (h : ke_f (sm_t 1 k 0) ix lf = some (v, l)) : kf k ix bw mi (ro, th, sd, rc, nx, lf) = ([], some (v, ro, th, sd, rc, nx, l)) := by
  unfold kf
  dsimp only
  rw [h]
theorem kf_1a {k bw mi ro th sd rc nx : Nat} {lf : List (Nat × Nat × Nat)} (h : sm_t 1 k 0 = th ∧ rc ≠ 0) : kf_1 k bw mi (ro, th, sd, rc, nx, lf) = some ([], ro, th, sd, rc, nx, lf) := by
  unfold kf_1
  dsimp only
  rw [if_pos h]
theorem kf_1b {k bw mi ro th sd rc nx : Nat} {lf : List (Nat × Nat × Nat)} (h : ¬ (sm_t 1 k 0 = th ∧ rc ≠ 0)) (h2 : rc ≠ 0 ∧ nx < bw) (h3 : nx + 5 < bw) : kf_1 k bw mi (ro, th, sd, rc, nx, lf) = none := by
  unfold kf_1
  dsimp only
  rw [if_neg h, if_pos h2, if_pos h3]
theorem kf_1c {k bw mi ro th sd rc nx : Nat} {lf : List (Nat × Nat × Nat)} (h : ¬ (sm_t 1 k 0 = th ∧ rc ≠ 0)) (h2 : rc ≠ 0 ∧ nx < bw) (h3 : bw ≤ nx + 5) : kf_1 k bw mi (ro, th, sd, rc, nx, lf) = some (sk_v rc (bw - nx) ++ kf_v mi k ro, sm_t 4 ro (sm_sh mi k), sm_t 1 k 0, 0, sm_t 5 ro (sm_sh mi k), 0, sk_f th rc nx lf (bw - nx)) := by
  unfold kf_1
  dsimp only
  rw [if_neg h, if_pos h2, if_neg (by omega)]
theorem kf_1d {k bw mi ro th sd rc nx : Nat} {lf : List (Nat × Nat × Nat)} (h : ¬ (sm_t 1 k 0 = th ∧ rc ≠ 0)) (h2 : ¬ (rc ≠ 0 ∧ nx < bw)) : kf_1 k bw mi (ro, th, sd, rc, nx, lf) = some (kf_v mi k ro, sm_t 4 ro (sm_sh mi k), sm_t 1 k 0, 0, sm_t 5 ro (sm_sh mi k), 0, lf) := by
  unfold kf_1
  dsimp only
  rw [if_neg h, if_neg h2]
theorem kf_2n {ix ro th sd rc nx : Nat} {vs : List Nat} {lf : List (Nat × Nat × Nat)} (h : ix < nx ∨ nx + 5 < ix) : (kf_2 ix (vs, ro, th, sd, rc, nx, lf)).2 = none := by
  unfold kf_2
  dsimp only
  rw [if_pos h]
theorem kf_2s {ix ro th sd rc nx : Nat} {vs : List Nat} {lf : List (Nat × Nat × Nat)} (h1 : nx ≤ ix) (h2 : ix ≤ nx + 5) : (kf_2 ix (vs, ro, th, sd, rc, nx, lf)).2 = some (sm_t 6 (sk_r rc (ix - nx)) 0, ro, th, sd, sm_t 7 (sk_r rc (ix - nx)) 0, nx + (ix - nx) + 1, sk_f th rc nx lf (ix - nx)) := by
  unfold kf_2
  dsimp only
  rw [if_neg (by omega), show nx + (ix - nx) = ix by omega]
set_option maxHeartbeats 4000000 in
set_option maxRecDepth 100000 in
theorem ct_MO_headLike {l : Launch} {D : va_G} {BG : Nat → Option Cell} (m : Nat) (A : Nat → Nat) (hA : rf_ok A m) (sc : Nat → Int32) (ar : Nat → Nat → Int32) (h : Nat) (hh : h < 520) : hm_ct l D BG ny_MO_headLike prog_8_method_18_code 3 (some .int) 0 0 0 0 [.ref m, .int (nI h)] (rf_M D m A sc ar) (fun r M' => ∃ k, k ≤ h ∧ r = some (.int (nI k)) ∧ M' = (rf_M D m A sc ar)) := by
  refine hm_ct_of (by decide +kernel) (by exact Nat.le_of_ble_eq_true rfl) ?_
  intro X C E
  have C : hm_C X l D BG prog_8_method_18_code "TurnedKeysModel" "headLike" 3 0 0 0 0 := C
  refine hm_lv (lv' := [(0, .ref m), (1, .int (nI h))]) rfl ?_
  have loop : ∀ (u k : Nat), k + u = h → hm_W X (rf_M D m A sc ar) 0 0 2 [(2, .int (nI k)), (0, .ref m), (1, .int (nI h))] [] := by
    intro u
    induction u with
    | zero =>
        intro k hu
        have e : k = h := by omega
        subst e
        refine hm_aload_n C nd_MO_headLike_2 rfl ?_
        refine hm_get C nF_MO_42 rf_m rfl nd_MO_headLike_3 ?_
        refine hm_iload_n C nd_MO_headLike_6 rfl ?_
        refine hm_iald (t := 3) (N := 520) (j := k) (f := (ar 7)) C rfl (rf_at hA (i := 7) (by decide)) rfl (by omega) (by decide) nd_MO_headLike_7 ?_
        refine hm_aload_n C nd_MO_headLike_8 rfl ?_
        refine hm_get C nF_MO_42 rf_m rfl nd_MO_headLike_9 ?_
        refine hm_iload_n C nd_MO_headLike_12 rfl ?_
        refine hm_iald (t := 3) (N := 520) (j := k) (f := (ar 7)) C rfl (rf_at hA (i := 7) (by decide)) rfl (by omega) (by decide) nd_MO_headLike_13 ?_
        refine hm_icmp_ne (tgt := 62) C nd_MO_headLike_14 (by decide) (fun c0 => (c0 rfl).elim) (fun c0 => ?_)
        refine hm_aload_n C nd_MO_headLike_17 rfl ?_
        refine hm_get C nF_MO_45 rf_m rfl nd_MO_headLike_18 ?_
        refine hm_iload_n C nd_MO_headLike_21 rfl ?_
        refine hm_iald (t := 3) (N := 520) (j := k) (f := (ar 8)) C rfl (rf_at hA (i := 8) (by decide)) rfl (by omega) (by decide) nd_MO_headLike_22 ?_
        refine hm_aload_n C nd_MO_headLike_23 rfl ?_
        refine hm_get C nF_MO_45 rf_m rfl nd_MO_headLike_24 ?_
        refine hm_iload_n C nd_MO_headLike_27 rfl ?_
        refine hm_iald (t := 3) (N := 520) (j := k) (f := (ar 8)) C rfl (rf_at hA (i := 8) (by decide)) rfl (by omega) (by decide) nd_MO_headLike_28 ?_
        refine hm_icmp_ne (tgt := 62) C nd_MO_headLike_29 (by decide) (fun c1 => (c1 rfl).elim) (fun c1 => ?_)
        refine hm_aload_n C nd_MO_headLike_32 rfl ?_
        refine hm_get C nF_MO_48 rf_m rfl nd_MO_headLike_33 ?_
        refine hm_iload_n C nd_MO_headLike_36 rfl ?_
        refine hm_iald (t := 3) (N := 520) (j := k) (f := (ar 9)) C rfl (rf_at hA (i := 9) (by decide)) rfl (by omega) (by decide) nd_MO_headLike_37 ?_
        refine hm_aload_n C nd_MO_headLike_38 rfl ?_
        refine hm_get C nF_MO_48 rf_m rfl nd_MO_headLike_39 ?_
        refine hm_iload_n C nd_MO_headLike_42 rfl ?_
        refine hm_iald (t := 3) (N := 520) (j := k) (f := (ar 9)) C rfl (rf_at hA (i := 9) (by decide)) rfl (by omega) (by decide) nd_MO_headLike_43 ?_
        refine hm_icmp_ne (tgt := 62) C nd_MO_headLike_44 (by decide) (fun c2 => (c2 rfl).elim) (fun c2 => ?_)
        refine hm_aload_n C nd_MO_headLike_47 rfl ?_
        refine hm_get C nF_MO_51 rf_m rfl nd_MO_headLike_48 ?_
        refine hm_iload_n C nd_MO_headLike_51 rfl ?_
        refine hm_iald (t := 3) (N := 520) (j := k) (f := (ar 10)) C rfl (rf_at hA (i := 10) (by decide)) rfl (by omega) (by decide) nd_MO_headLike_52 ?_
        refine hm_aload_n C nd_MO_headLike_53 rfl ?_
        refine hm_get C nF_MO_51 rf_m rfl nd_MO_headLike_54 ?_
        refine hm_iload_n C nd_MO_headLike_57 rfl ?_
        refine hm_iald (t := 3) (N := 520) (j := k) (f := (ar 10)) C rfl (rf_at hA (i := 10) (by decide)) rfl (by omega) (by decide) nd_MO_headLike_58 ?_
        refine hm_icmp_eq (tgt := 68) C nd_MO_headLike_59 (by decide) (fun c3 => ?_) (fun c3 => (c3 rfl).elim)
        refine hm_iload_n C nd_MO_headLike_68 rfl ?_
        exact hm_iret C E (by omega) (by omega) (⟨k, Nat.le_refl _, rfl, rfl⟩) nd_MO_headLike_69
    | succ u ih =>
        intro k hu
        refine hm_aload_n C nd_MO_headLike_2 rfl ?_
        refine hm_get C nF_MO_42 rf_m rfl nd_MO_headLike_3 ?_
        refine hm_iload_n C nd_MO_headLike_6 rfl ?_
        refine hm_iald (t := 3) (N := 520) (j := k) (f := (ar 7)) C rfl (rf_at hA (i := 7) (by decide)) rfl (by omega) (by decide) nd_MO_headLike_7 ?_
        refine hm_aload_n C nd_MO_headLike_8 rfl ?_
        refine hm_get C nF_MO_42 rf_m rfl nd_MO_headLike_9 ?_
        refine hm_iload_n C nd_MO_headLike_12 rfl ?_
        refine hm_iald (t := 3) (N := 520) (j := h) (f := (ar 7)) C rfl (rf_at hA (i := 7) (by decide)) rfl (by omega) (by decide) nd_MO_headLike_13 ?_
        refine hm_icmp_ne (tgt := 62) C nd_MO_headLike_14 (by decide) (fun c0 => ?_) (fun c0 => ?_)
        · refine hm_iinc (x := (nI k)) (v := ((nI k) + 1)) C [(2, .int ((nI k) + 1)), (0, .ref m), (1, .int (nI h))] nd_MO_headLike_62 rfl rfl (by decide) rfl ?_
          refine hm_goto (tgt := 2) C nd_MO_headLike_65 (by decide) ?_
          refine hm_less (lv' := [(2, .int (nI (k + 1))), (0, .ref m), (1, .int (nI h))]) (fun z hz => by simp only [List.mem_cons, List.not_mem_nil, or_false, nI_1] at hz ⊢; rcases hz with h | h | h <;> subst h <;> simp [nI_0]) ?_
          exact ih (k + 1) (by omega)
        · refine hm_aload_n C nd_MO_headLike_17 rfl ?_
          refine hm_get C nF_MO_45 rf_m rfl nd_MO_headLike_18 ?_
          refine hm_iload_n C nd_MO_headLike_21 rfl ?_
          refine hm_iald (t := 3) (N := 520) (j := k) (f := (ar 8)) C rfl (rf_at hA (i := 8) (by decide)) rfl (by omega) (by decide) nd_MO_headLike_22 ?_
          refine hm_aload_n C nd_MO_headLike_23 rfl ?_
          refine hm_get C nF_MO_45 rf_m rfl nd_MO_headLike_24 ?_
          refine hm_iload_n C nd_MO_headLike_27 rfl ?_
          refine hm_iald (t := 3) (N := 520) (j := h) (f := (ar 8)) C rfl (rf_at hA (i := 8) (by decide)) rfl (by omega) (by decide) nd_MO_headLike_28 ?_
          refine hm_icmp_ne (tgt := 62) C nd_MO_headLike_29 (by decide) (fun c1 => ?_) (fun c1 => ?_)
          · refine hm_iinc (x := (nI k)) (v := ((nI k) + 1)) C [(2, .int ((nI k) + 1)), (0, .ref m), (1, .int (nI h))] nd_MO_headLike_62 rfl rfl (by decide) rfl ?_
            refine hm_goto (tgt := 2) C nd_MO_headLike_65 (by decide) ?_
            refine hm_less (lv' := [(2, .int (nI (k + 1))), (0, .ref m), (1, .int (nI h))]) (fun z hz => by simp only [List.mem_cons, List.not_mem_nil, or_false, nI_1] at hz ⊢; rcases hz with h | h | h <;> subst h <;> simp [nI_0]) ?_
            exact ih (k + 1) (by omega)
          · refine hm_aload_n C nd_MO_headLike_32 rfl ?_
            refine hm_get C nF_MO_48 rf_m rfl nd_MO_headLike_33 ?_
            refine hm_iload_n C nd_MO_headLike_36 rfl ?_
            refine hm_iald (t := 3) (N := 520) (j := k) (f := (ar 9)) C rfl (rf_at hA (i := 9) (by decide)) rfl (by omega) (by decide) nd_MO_headLike_37 ?_
            refine hm_aload_n C nd_MO_headLike_38 rfl ?_
            refine hm_get C nF_MO_48 rf_m rfl nd_MO_headLike_39 ?_
            refine hm_iload_n C nd_MO_headLike_42 rfl ?_
            refine hm_iald (t := 3) (N := 520) (j := h) (f := (ar 9)) C rfl (rf_at hA (i := 9) (by decide)) rfl (by omega) (by decide) nd_MO_headLike_43 ?_
            refine hm_icmp_ne (tgt := 62) C nd_MO_headLike_44 (by decide) (fun c2 => ?_) (fun c2 => ?_)
            · refine hm_iinc (x := (nI k)) (v := ((nI k) + 1)) C [(2, .int ((nI k) + 1)), (0, .ref m), (1, .int (nI h))] nd_MO_headLike_62 rfl rfl (by decide) rfl ?_
              refine hm_goto (tgt := 2) C nd_MO_headLike_65 (by decide) ?_
              refine hm_less (lv' := [(2, .int (nI (k + 1))), (0, .ref m), (1, .int (nI h))]) (fun z hz => by simp only [List.mem_cons, List.not_mem_nil, or_false, nI_1] at hz ⊢; rcases hz with h | h | h <;> subst h <;> simp [nI_0]) ?_
              exact ih (k + 1) (by omega)
            · refine hm_aload_n C nd_MO_headLike_47 rfl ?_
              refine hm_get C nF_MO_51 rf_m rfl nd_MO_headLike_48 ?_
              refine hm_iload_n C nd_MO_headLike_51 rfl ?_
              refine hm_iald (t := 3) (N := 520) (j := k) (f := (ar 10)) C rfl (rf_at hA (i := 10) (by decide)) rfl (by omega) (by decide) nd_MO_headLike_52 ?_
              refine hm_aload_n C nd_MO_headLike_53 rfl ?_
              refine hm_get C nF_MO_51 rf_m rfl nd_MO_headLike_54 ?_
              refine hm_iload_n C nd_MO_headLike_57 rfl ?_
              refine hm_iald (t := 3) (N := 520) (j := h) (f := (ar 10)) C rfl (rf_at hA (i := 10) (by decide)) rfl (by omega) (by decide) nd_MO_headLike_58 ?_
              refine hm_icmp_eq (tgt := 68) C nd_MO_headLike_59 (by decide) (fun c3 => ?_) (fun c3 => ?_)
              · refine hm_iload_n C nd_MO_headLike_68 rfl ?_
                exact hm_iret C E (by omega) (by omega) (⟨k, by omega, rfl, rfl⟩) nd_MO_headLike_69
              · refine hm_iinc (x := (nI k)) (v := ((nI k) + 1)) C [(2, .int ((nI k) + 1)), (0, .ref m), (1, .int (nI h))] nd_MO_headLike_62 rfl rfl (by decide) rfl ?_
                refine hm_goto (tgt := 2) C nd_MO_headLike_65 (by decide) ?_
                refine hm_less (lv' := [(2, .int (nI (k + 1))), (0, .ref m), (1, .int (nI h))]) (fun z hz => by simp only [List.mem_cons, List.not_mem_nil, or_false, nI_1] at hz ⊢; rcases hz with h | h | h <;> subst h <;> simp [nI_0]) ?_
                exact ih (k + 1) (by omega)
  refine hm_iconst (v := 0) C nd_MO_headLike_0 (by decide) ?_
  refine hm_istore_n C [(2, .int 0), (0, .ref m), (1, .int (nI h))] nd_MO_headLike_1 (by decide) rfl ?_
  refine hm_less (lv' := [(2, .int (nI 0)), (0, .ref m), (1, .int (nI h))]) (fun z hz => by simp only [List.mem_cons, List.not_mem_nil, or_false] at hz ⊢; rcases hz with h | h | h <;> subst h <;> simp [nI_0]) ?_
  exact loop h 0 (by omega)
set_option maxHeartbeats 4000000 in
set_option maxRecDepth 100000 in
theorem ct_MO_keyFor {l : Launch} {D : va_G} {BG : Nat → Option Cell} (m : Nat) (A : Nat → Nat) (hA : rf_ok A m) (sc : Nat → Int32) (ar : Nat → Nat → Int32) (n : Nat) (q : Nat → rq) (vl : Nat → Nat) (dr : Nat) (hp : rp sc ar n q vl dr) (hn : n + 26 < 20000) (ro mi th sd st bf rc nx : Nat) (lf : List (Nat × Nat × Nat)) (hr : re n q vl (ar 15) (ro, mi, th, sd, st, bf, rc, nx, lf)) (tk ix bw k d : Nat) (hk1 : 1 ≤ tk) (hk2 : tk < n) (hk3 : (q tk).1 = 2) (hk4 : (q tk).2.1 < n) (hk5 : (q (q tk).2.1).1 = 1) (hk6 : vl (q tk).2.1 = k) (hk7 : vl tk = sm_t 1 k 0) (hmi : mi = sm_t 0 d 0) (hix : ix < 2 ^ 28) (hbw : bw < 2 ^ 28) (hnx : nx < 2 ^ 28) (hlb : ∀ (i : Nat) (z : Nat × Nat × Nat), lf[i]? = some z → z.2.1 < 2 ^ 28) : hm_ct l D BG ny_MO_keyFor prog_8_method_22_code 7 (some .int) 4 92 0 0 [.ref m, .int (nI tk), .int (nI ix), .int (nI bw)] (rf_M D m A sc ar) (rk_p D m A sc ar n q vl dr mi k st bf (kf k ix bw mi (ro, th, sd, rc, nx, lf)).2) := by
  refine hm_ct_of (by decide +kernel) (by exact Nat.le_of_ble_eq_true rfl) ?_
  intro X C E
  have C : hm_C X l D BG prog_8_method_22_code "TurnedKeysModel" "keyFor" 7 4 92 0 0 := C
  refine hm_lv (lv' := [(0, .ref m), (1, .int (nI tk)), (2, .int (nI ix)), (3, .int (nI bw))]) rfl ?_
  have hq2 := hp.1.2.2.1
  have H2 : ∀ (vs : List Nat) (ro' th' sd' rc' nx' : Nat) (lf' : List (Nat × Nat × Nat)) (kk : Nat) (sct : Nat → Int32) (art : Nat → Nat → Int32) (nn : Nat) (qt : Nat → rq) (vt : Nat → Nat), rp sct art nn qt vt dr → ry (fun a' v' => a'.1 = 4 ∨ (a'.1 = 3 ∧ v' = sm_sh mi k)) kk sc ar n q vl sct art nn qt vt → kk ≤ 13 → re nn qt vt (art 15) (ro', mi, th', sd', st, bf, rc', nx', lf') → nx' < 2 ^ 28 → kf k ix bw mi (ro, th, sd, rc, nx, lf) = kf_2 ix (vs, ro', th', sd', rc', nx', lf') → hm_W X (rf_M D m A sct art) 0 0 207 [(0, .ref m), (1, .int (nI tk)), (2, .int (nI ix)), (3, .int (nI bw))] [] := by
    intro vs ro' th' sd' rc' nx' lf' kk sct art nn qt vt hpt hyt hkk hrt hnx' hkf
    obtain ⟨a1, a2, a3, a4, a5, a6, a7, a8, a9, a10, a11⟩ := id hrt
    dsimp only at a8 a9 a10 a3 a7 a11
    have hnn := hyt.2.1
    refine hm_iload_n C nd_MO_keyFor_207 rfl ?_
    refine hm_aload_n C nd_MO_keyFor_208 rfl ?_
    refine hm_get C nF_MO_66 rf_m rfl nd_MO_keyFor_209 ?_
    refine hm_bipush (v := 7) C nd_MO_keyFor_212 (by decide) ?_
    refine hm_iald (t := 3) (N := 33) (j := 7) (f := (art 15)) C rfl (rf_at hA (i := 15) (by decide)) rfl (by omega) (by decide) nd_MO_keyFor_214 ?_
    refine hm_stk (st' := [.int (nI nx'), .int (nI ix)]) (by rw [a8]) ?_
    refine hm_icmp_lt (tgt := 226) C nd_MO_keyFor_215 (by decide) (fun c1 => ?_) (fun c1 => ?_)
    · have l1 : ix < nx' := (nI_ltI (by omega) (by omega)).mp c1
      refine hm_iconst (v := 0) C nd_MO_keyFor_226 (by decide) ?_
      exact hm_iret C E (by omega) (by omega) (⟨sct, art, nn, qt, vt, rfl, hpt, hyt.mn (by omega) (fun _ _ z => z), Or.inl ⟨by rw [hkf]; exact kf_2n (Or.inl l1), rfl⟩⟩) nd_MO_keyFor_227
    · have l1 : nx' ≤ ix := by have h9 : ¬ ix < nx' := fun z => c1 (nI_lt z (by omega)); omega
      rcases Nat.lt_or_ge (nx' + 5) ix with h5 | h5
      · refine hm_aload_n C nd_MO_keyFor_218 rfl ?_
        refine hm_iload_n C nd_MO_keyFor_219 rfl ?_
        refine hm_callV C (ct_MO_skip_no m A hA sct art nn qt vt ro' mi th' sd' st bf rc' nx' lf' hrt ix hix hnx' h5) nV_MO_skip [.int (nI ix)] rfl rf_m rfl nq_MO_143 nj_MO_skip nx_MO_skip rfl (rest := []) rfl (Nat.le_of_ble_eq_true rfl) (by decide) (by decide) (by omega) (by omega) nd_MO_keyFor_220 (fun r M1 hp => ?_)
        obtain ⟨rfl, eM1⟩ := hp
        rw [eM1]
        refine hm_stk (st' := [.int 0]) rfl ?_
        refine hm_if_ne (tgt := 228) C nd_MO_keyFor_223 (by decide) (fun c2 => absurd rfl c2) (fun c2 => ?_)
        refine hm_iconst (v := 0) C nd_MO_keyFor_226 (by decide) ?_
        exact hm_iret C E (by omega) (by omega) (⟨sct, art, nn, qt, vt, rfl, hpt, hyt.mn (by omega) (fun _ _ z => z), Or.inl ⟨by rw [hkf]; exact kf_2n (Or.inr h5), rfl⟩⟩) nd_MO_keyFor_227
      · refine hm_aload_n C nd_MO_keyFor_218 rfl ?_
        refine hm_iload_n C nd_MO_keyFor_219 rfl ?_
        refine hm_callV C (ct_MO_skip_go m A hA sct art nn qt vt dr hpt (by omega) ro' mi th' sd' st bf rc' nx' lf' hrt ix hix hnx' h5) nV_MO_skip [.int (nI ix)] rfl rf_m rfl nq_MO_143 nj_MO_skip nx_MO_skip rfl (rest := []) rfl (Nat.le_of_ble_eq_true rfl) (by decide) (by decide) (by omega) (by omega) nd_MO_keyFor_220 (fun r M2 hp => ?_)
        obtain ⟨rfl, sc2, ar2, n2, q2, vl2, rfl, hp2, hy2, hr2⟩ := hp
        refine hm_stk (st' := [.int 1]) rfl ?_
        refine hm_if_ne (tgt := 228) C nd_MO_keyFor_223 (by decide) (fun c2 => ?_) (fun c2 => absurd c2 (by decide))
        obtain ⟨a1x, a2x, a3x, a4x, a5x, a6x, a7x, a8x, a9x, a10x, a11x⟩ := id hr2
        dsimp only at a7x
        obtain ⟨t6, e6, l6, s6, v6⟩ := id a7x
        have hn2 := hy2.2.1
        refine hm_aload_n C nd_MO_keyFor_228 rfl ?_
        refine hm_bipush (v := 6) C nd_MO_keyFor_229 (by decide) ?_
        refine hm_aload_n C nd_MO_keyFor_231 rfl ?_
        refine hm_get C nF_MO_66 rf_m rfl nd_MO_keyFor_232 ?_
        refine hm_bipush (v := 6) C nd_MO_keyFor_235 (by decide) ?_
        refine hm_iald (t := 3) (N := 33) (j := 6) (f := (ar2 15)) C rfl (rf_at hA (i := 15) (by decide)) rfl (by omega) (by decide) nd_MO_keyFor_237 ?_
        refine hm_stk (st' := [.int (nI t6), .int 6, .ref m]) (by rw [e6]) ?_
        refine hm_iconst (v := 0) C nd_MO_keyFor_238 (by decide) ?_
        refine hm_stk (st' := [.int (nI 0), .int (nI t6), .int (nI 6), .ref m]) rfl ?_
        refine hm_callV C (ct_MO_mix m A hA sc2 ar2 n2 q2 vl2 dr hp2 (by omega) 6 t6 0 (by omega) (by omega) l6 (by omega) s6 (by rw [hp2.2.1.2.1]; decide)) nV_MO_mix [.int (nI 6), .int (nI t6), .int (nI 0)] rfl rf_m rfl nq_MO_84 nj_MO_mix nx_MO_mix rfl (rest := []) rfl (Nat.le_of_ble_eq_true rfl) (by decide) (by decide) (by omega) (by omega) nd_MO_keyFor_239 (fun r M3 hp => ?_)
        obtain ⟨t3, sc3, ar3, n3, q3, vl3, rfl, rfl, hp3, hx3, h13, h23, h33, h43⟩ := hp
        refine hm_stk (st' := [.int (nI t3)]) rfl ?_
        have hg3 : rgo n2 q2 vl2 n3 q3 vl3 := ⟨hx3.1, hx3.2.2.1⟩
        have hn3 := hx3.2.1
        have e15 : ar3 15 = ar2 15 := hx3.2.2.2.2.1 15 (by decide) (by decide)
        have hr3 := hr2.go hg3
        rw [← e15] at hr3
        have hi3 : rid n3 q3 vl3 (nI t3) (sm_t 6 (sk_r rc' (ix - nx')) 0) := ⟨t3, rfl, h23, by rw [h33]; decide, by rw [h43, v6, hp2.2.1.1]⟩
        refine hm_istore C [(4, .int (nI t3)), (0, .ref m), (1, .int (nI tk)), (2, .int (nI ix)), (3, .int (nI bw))] nd_MO_keyFor_242 (by decide) rfl ?_
        refine hm_aload_n C nd_MO_keyFor_244 rfl ?_
        refine hm_callV C (ct_MO_stepOn m A hA sc3 ar3 n3 q3 vl3 dr hp3 (by omega) ro' mi th' sd' st bf _ _ _ hr3) nV_MO_stepOn [] rfl rf_m rfl nq_MO_140 nj_MO_stepOn nx_MO_stepOn rfl (rest := []) rfl (Nat.le_of_ble_eq_true rfl) (by decide) (by decide) (by omega) (by omega) nd_MO_keyFor_245 (fun r M4 hp => ?_)
        obtain ⟨rfl, sc4, ar4, n4, q4, vl4, rfl, hp4, hy4, hr4⟩ := hp
        refine hm_stk (st' := []) rfl ?_
        refine hm_iload C nd_MO_keyFor_248 rfl ?_
        exact hm_iret C E (by omega) (by omega) (⟨sc4, ar4, n4, q4, vl4, rfl, hp4, (((hyt.tr (hy2.mn (Nat.le_refl _) (fun _ _ z => Or.inl z))).tr (hx3.ry (Nat.le_refl _) (fun _ _ z => Or.inl z.1))).tr (hy4.mn (Nat.le_refl _) (fun _ _ z => Or.inl z))).mn (by omega) (fun _ _ z => z), Or.inr ⟨_, _, _, _, _, _, _, _, by rw [hkf]; exact kf_2s l1 h5, rfl, hi3.go hy4.1, hr4⟩⟩) nd_MO_keyFor_250
  have H1 : ∀ (vs : List Nat) (rc' nx' : Nat) (lf' : List (Nat × Nat × Nat)) (kk : Nat) (sct : Nat → Int32) (art : Nat → Nat → Int32) (nn : Nat) (qt : Nat → rq) (vt : Nat → Nat), rp sct art nn qt vt dr → ry (fun a' v' => a'.1 = 4 ∨ (a'.1 = 3 ∧ v' = sm_sh mi k)) kk sc ar n q vl sct art nn qt vt → kk ≤ 10 → re nn qt vt (art 15) (ro, mi, th, sd, st, bf, rc', nx', lf') → kf k ix bw mi (ro, th, sd, rc, nx, lf) = kf_2 ix (vs, sm_t 4 ro (sm_sh mi k), sm_t 1 k 0, 0, sm_t 5 ro (sm_sh mi k), 0, lf') → hm_W X (rf_M D m A sct art) 0 0 128 [(0, .ref m), (1, .int (nI tk)), (2, .int (nI ix)), (3, .int (nI bw))] [] := by
    intro vs rc' nx' lf' kk sct art nn qt vt hpt hyt hkk hrt hkf
    obtain ⟨a1, a2, a3, a4, a5, a6, a7, a8, a9, a10, a11⟩ := id hrt
    dsimp only at a1 a2
    have hnn := hyt.2.1
    have hnl := hyt.1.1
    obtain ⟨ti, ei, i1, i2, i3, i4⟩ := rid_s hpt.2.1 (hmi ▸ a2)
    rw [← hmi] at i4
    obtain ⟨t0, e0, l0, s0, v0⟩ := id a1
    have hqk := hyt.1.2 tk hk2
    have hqa := hyt.1.2 (q tk).2.1 hk4
    have eo : art 1 tk = nI (q tk).2.1 := by rw [(hpt.1.2.2.2.1 tk hk1 (by omega)).2.1, hqk.1]
    refine hm_aload_n C nd_MO_keyFor_128 rfl ?_
    refine hm_aload_n C nd_MO_keyFor_129 rfl ?_
    refine hm_get C nF_MO_66 rf_m rfl nd_MO_keyFor_130 ?_
    refine hm_iconst (v := 1) C nd_MO_keyFor_133 (by decide) ?_
    refine hm_iald (t := 3) (N := 33) (j := 1) (f := (art 15)) C rfl (rf_at hA (i := 15) (by decide)) rfl (by omega) (by decide) nd_MO_keyFor_134 ?_
    refine hm_stk (st' := [.int (nI ti), .ref m]) (by rw [ei]) ?_
    refine hm_aload_n C nd_MO_keyFor_135 rfl ?_
    refine hm_get C nF_MO_17 rf_m rfl nd_MO_keyFor_136 ?_
    refine hm_iload_n C nd_MO_keyFor_139 rfl ?_
    refine hm_iald (t := 3) (N := 20000) (j := tk) (f := (art 1)) C rfl (rf_at hA (i := 1) (by decide)) rfl (by omega) (by decide) nd_MO_keyFor_140 ?_
    refine hm_stk (st' := [.int (nI (q tk).2.1), .int (nI ti), .ref m]) (by rw [eo]) ?_
    refine hm_callV C (ct_MO_shared m A hA sct art nn qt vt dr hpt (by omega) ti (q tk).2.1 i2 (by omega) i3 (by rw [hqa.1]; exact hk5)) nV_MO_shared [.int (nI ti), .int (nI (q tk).2.1)] rfl rf_m rfl nq_MO_80 nj_MO_shared nx_MO_shared rfl (rest := []) rfl (Nat.le_of_ble_eq_true rfl) (by decide) (by decide) (by omega) (by omega) nd_MO_keyFor_141 (fun r M1 hp => ?_)
    obtain ⟨t1, sc1, ar1, n1, q1, vl1, rfl, rfl, hp1, hx1, h11, h21, h31, h41⟩ := hp
    refine hm_stk (st' := [.int (nI t1)]) rfl ?_
    have hg1 : rgo nn qt vt n1 q1 vl1 := ⟨hx1.1, hx1.2.2.1⟩
    have hn1 := hx1.2.1
    have v1 : vl1 t1 = sm_sh mi k := by rw [h41, i4, hqa.2, hk6]
    have f1 : ar1 15 = art 15 := hx1.2.2.2.2.1 15 (by decide) (by decide)
    have g0 := hg1.2 t0 l0
    have hx1l := hx1.1
    refine hm_istore C [(4, .int (nI t1)), (0, .ref m), (1, .int (nI tk)), (2, .int (nI ix)), (3, .int (nI bw))] nd_MO_keyFor_144 (by decide) rfl ?_
    refine hm_aload_n C nd_MO_keyFor_146 rfl ?_
    refine hm_get C nF_MO_66 rf_m rfl nd_MO_keyFor_147 ?_
    refine hm_bipush (v := 6) C nd_MO_keyFor_150 (by decide) ?_
    refine hm_aload_n C nd_MO_keyFor_152 rfl ?_
    refine hm_iconst (v := 5) C nd_MO_keyFor_153 (by decide) ?_
    refine hm_aload_n C nd_MO_keyFor_154 rfl ?_
    refine hm_get C nF_MO_66 rf_m rfl nd_MO_keyFor_155 ?_
    refine hm_iconst (v := 0) C nd_MO_keyFor_158 (by decide) ?_
    refine hm_iald (t := 3) (N := 33) (j := 0) (f := (ar1 15)) C rfl (rf_at hA (i := 15) (by decide)) rfl (by omega) (by decide) nd_MO_keyFor_159 ?_
    refine hm_stk (st' := [.int (nI t0), .int 5, .ref m, .int 6, .ref (A 15)]) (by rw [f1, e0]) ?_
    refine hm_iload C nd_MO_keyFor_160 rfl ?_
    refine hm_stk (st' := [.int (nI t1), .int (nI t0), .int (nI 5), .ref m, .int 6, .ref (A 15)]) rfl ?_
    refine hm_callV C (ct_MO_mix m A hA sc1 ar1 n1 q1 vl1 dr hp1 (by omega) 5 t0 t1 (by omega) (by omega) (by omega) h21 (by rw [g0.1]; exact s0) (by rw [h31]; decide)) nV_MO_mix [.int (nI 5), .int (nI t0), .int (nI t1)] rfl rf_m rfl nq_MO_84 nj_MO_mix nx_MO_mix rfl (rest := [.int 6, .ref (A 15)]) rfl (Nat.le_of_ble_eq_true rfl) (by decide) (by decide) (by omega) (by omega) nd_MO_keyFor_162 (fun r M2 hp => ?_)
    obtain ⟨t2, sc2, ar2, n2, q2, vl2, rfl, rfl, hp2, hx2, h12, h22, h32, h42⟩ := hp
    refine hm_stk (st' := [.int (nI t2), .int 6, .ref (A 15)]) rfl ?_
    have hg2 : rgo n1 q1 vl1 n2 q2 vl2 := ⟨hx2.1, hx2.2.2.1⟩
    have hn2 := hx2.2.1
    have hx2l := hx2.1
    have f2 : ar2 15 = art 15 := (hx2.2.2.2.2.1 15 (by decide) (by decide)).trans f1
    have v2 : vl2 t2 = sm_t 5 ro (sm_sh mi k) := by rw [h42, g0.2, v0, v1]
    have g02 := (hg1.tr hg2).2 t0 l0
    have g12 := hg2.2 t1 h21
    refine hm_iast (t := 3) (N := 33) (j := 6) (f := (ar2 15)) C rfl (rf_at hA (i := 15) (by decide)) rfl (by omega) (by decide) nd_MO_keyFor_165 ?_
    refine hm_eqM (rf_up hA (i := 15) (by decide) (upd (ar2 15) 6 (nI t2))) ?_
    refine hm_aload_n C nd_MO_keyFor_166 rfl ?_
    refine hm_get C nF_MO_66 rf_m rfl nd_MO_keyFor_167 ?_
    refine hm_iconst (v := 0) C nd_MO_keyFor_170 (by decide) ?_
    refine hm_aload_n C nd_MO_keyFor_171 rfl ?_
    refine hm_iconst (v := 4) C nd_MO_keyFor_172 (by decide) ?_
    refine hm_aload_n C nd_MO_keyFor_173 rfl ?_
    refine hm_get C nF_MO_66 rf_m rfl nd_MO_keyFor_174 ?_
    refine hm_iconst (v := 0) C nd_MO_keyFor_177 (by decide) ?_
    refine hm_iald (t := 3) (N := 33) (j := 0) (f := (upd (ar2 15) 6 (nI t2))) C rfl (rf_at hA (i := 15) (by decide)) rfl (by omega) (by decide) nd_MO_keyFor_178 ?_
    refine hm_stk (st' := [.int (nI t0), .int 4, .ref m, .int 0, .ref (A 15)]) (by rw [pk_un (by decide), f2, e0]) ?_
    refine hm_iload C nd_MO_keyFor_179 rfl ?_
    refine hm_stk (st' := [.int (nI t1), .int (nI t0), .int (nI 4), .ref m, .int 0, .ref (A 15)]) rfl ?_
    refine hm_callV C (ct_MO_mix m A hA sc2 (va_up ar2 15 (upd (ar2 15) 6 (nI t2))) n2 q2 vl2 dr (hp2.ha (fun i hi => by repeat rw [va_up_ne _ _ (show i ≠ 15 by omega)])) (by omega) 4 t0 t1 (by omega) (by omega) (by omega) (by omega) (by rw [g02.1]; exact s0) (by rw [g12.1, h31]; decide)) nV_MO_mix [.int (nI 4), .int (nI t0), .int (nI t1)] rfl rf_m rfl nq_MO_84 nj_MO_mix nx_MO_mix rfl (rest := [.int 0, .ref (A 15)]) rfl (Nat.le_of_ble_eq_true rfl) (by decide) (by decide) (by omega) (by omega) nd_MO_keyFor_181 (fun r M3 hp => ?_)
    obtain ⟨t3, sc3, ar3, n3, q3, vl3, rfl, rfl, hp3, hx3, h13, h23, h33, h43⟩ := hp
    refine hm_stk (st' := [.int (nI t3), .int 0, .ref (A 15)]) rfl ?_
    have hg3 : rgo n2 q2 vl2 n3 q3 vl3 := ⟨hx3.1, hx3.2.2.1⟩
    have hn3 := hx3.2.1
    have f3 : ar3 15 = upd (art 15) 6 (nI t2) := by rw [hx3.2.2.2.2.1 15 (by decide) (by decide), va_up_self, f2]
    have v3 : vl3 t3 = sm_t 4 ro (sm_sh mi k) := by rw [h43, g02.2, v0, g12.2, v1]
    have i2' : rid n3 q3 vl3 (nI t2) (sm_t 5 ro (sm_sh mi k)) := rid.go ⟨t2, rfl, h22, by rw [h32]; decide, v2⟩ hg3
    have hgg := (hg1.tr hg2).tr hg3
    have hgk := hyt.1.tr hgg
    have ik : rid n3 q3 vl3 (nI tk) (sm_t 1 k 0) := rid.go ⟨tk, rfl, hk2, by rw [hk3]; decide, hk7⟩ hgk
    have hr0 := ((((((hrt.go hgg).u6 i2').u0 ⟨t3, rfl, h23, by rw [h33]; decide, v3⟩).u2 ik).u7 (v := 0) rfl).u3 hp3.n)
    refine hm_iast (t := 3) (N := 33) (j := 0) (f := (ar3 15)) C rfl (rf_at hA (i := 15) (by decide)) rfl (by omega) (by decide) nd_MO_keyFor_184 ?_
    refine hm_eqM (rf_up hA (i := 15) (by decide) (upd (ar3 15) 0 (nI t3))) ?_
    refine hm_aload_n C nd_MO_keyFor_185 rfl ?_
    refine hm_get C nF_MO_66 rf_m rfl nd_MO_keyFor_186 ?_
    refine hm_iconst (v := 2) C nd_MO_keyFor_189 (by decide) ?_
    refine hm_iload_n C nd_MO_keyFor_190 rfl ?_
    refine hm_iast (t := 3) (N := 33) (j := 2) (f := (upd (ar3 15) 0 (nI t3))) C rfl (rf_at hA (i := 15) (by decide)) rfl (by omega) (by decide) nd_MO_keyFor_191 ?_
    refine hm_eqM (rf_up hA (i := 15) (by decide) (upd (upd (ar3 15) 0 (nI t3)) 2 (nI tk))) ?_
    refine hm_aload_n C nd_MO_keyFor_192 rfl ?_
    refine hm_get C nF_MO_66 rf_m rfl nd_MO_keyFor_193 ?_
    refine hm_bipush (v := 7) C nd_MO_keyFor_196 (by decide) ?_
    refine hm_iconst (v := 0) C nd_MO_keyFor_198 (by decide) ?_
    refine hm_iast (t := 3) (N := 33) (j := 7) (f := (upd (upd (ar3 15) 0 (nI t3)) 2 (nI tk))) C rfl (rf_at hA (i := 15) (by decide)) rfl (by omega) (by decide) nd_MO_keyFor_199 ?_
    refine hm_eqM (rf_up hA (i := 15) (by decide) (upd (upd (upd (ar3 15) 0 (nI t3)) 2 (nI tk)) 7 0)) ?_
    refine hm_aload_n C nd_MO_keyFor_200 rfl ?_
    refine hm_get C nF_MO_66 rf_m rfl nd_MO_keyFor_201 ?_
    refine hm_iconst (v := 3) C nd_MO_keyFor_204 (by decide) ?_
    refine hm_iconst (v := 0) C nd_MO_keyFor_205 (by decide) ?_
    refine hm_iast (t := 3) (N := 33) (j := 3) (f := (upd (upd (upd (ar3 15) 0 (nI t3)) 2 (nI tk)) 7 0)) C rfl (rf_at hA (i := 15) (by decide)) rfl (by omega) (by decide) nd_MO_keyFor_206 ?_
    refine hm_eqM (rf_up hA (i := 15) (by decide) (upd (upd (upd (upd (ar3 15) 0 (nI t3)) 2 (nI tk)) 7 0) 3 0)) ?_
    refine hm_less (lv' := [(0, .ref m), (1, .int (nI tk)), (2, .int (nI ix)), (3, .int (nI bw))]) (fun z hz => by simp only [List.mem_cons, List.not_mem_nil, or_false] at hz ⊢; rcases hz with h | h | h | h <;> subst h <;> simp [nI_0]) ?_
    exact H2 vs _ _ _ _ _ lf' (kk + 3) sc3 _ n3 q3 vl3 (hp3.ha (fun i hi => by repeat rw [va_up_ne _ _ (show i ≠ 15 by omega)])) (by
        have z1 := hx1.ry (P' := (fun a' v' => a'.1 = 4 ∨ (a'.1 = 3 ∧ v' = sm_sh mi k))) (Nat.le_refl 1) (fun a v z => Or.inr ⟨z.1, by rw [z.2, i4, hqa.2, hk6]⟩)
        have z2 := (hx2.ry (P' := (fun a' v' => a'.1 = 4 ∨ (a'.1 = 3 ∧ v' = sm_sh mi k))) (Nat.le_refl 1) (fun a v z => Or.inl z.1)).ha (ar'' := va_up ar2 15 (upd (ar2 15) 6 (nI t2))) (fun i hi => by repeat rw [va_up_ne _ _ hi])
        have z3 := (hx3.ry (P' := (fun a' v' => a'.1 = 4 ∨ (a'.1 = 3 ∧ v' = sm_sh mi k))) (Nat.le_refl 1) (fun a v z => Or.inl z.1))
        exact ((((hyt.tr z1).tr z2).tr z3).ha (fun i hi => by repeat rw [va_up_ne _ _ hi])).mn (by omega) (fun _ _ z => z)) (by omega) (by rw [va_up_self, f3]; exact hr0) (by omega) hkf
  have H97 : ke_f (sm_t 1 k 0) ix lf = none → ¬ (sm_t 1 k 0 = th ∧ rc ≠ 0) → hm_W X (rf_M D m A sc ar) 0 0 97 [(0, .ref m), (1, .int (nI tk)), (2, .int (nI ix)), (3, .int (nI bw))] [] := by
    intro hke hno
    obtain ⟨a1, a2, a3, a4, a5, a6, a7, a8, a9, a10, a11⟩ := id hr
    dsimp only at a7 a8
    refine hm_aload_n C nd_MO_keyFor_97 rfl ?_
    refine hm_get C nF_MO_66 rf_m rfl nd_MO_keyFor_98 ?_
    refine hm_bipush (v := 6) C nd_MO_keyFor_101 (by decide) ?_
    refine hm_iald (t := 3) (N := 33) (j := 6) (f := (ar 15)) C rfl (rf_at hA (i := 15) (by decide)) rfl (by omega) (by decide) nd_MO_keyFor_103 ?_
    refine hm_if_eq (tgt := 128) C nd_MO_keyFor_104 (by decide) (fun c1 => ?_) (fun c1 => ?_)
    · have r0 : rc = 0 := (hp.z a7).mp c1
      exact H1 _ rc nx lf 0 sc ar n q vl hp ry.rf (by omega) hr (kf_n hke (kf_1d hno (fun z => z.1 r0)))
    · have r0 : rc ≠ 0 := fun z => c1 ((hp.z a7).mpr z)
      refine hm_iload_n C nd_MO_keyFor_107 rfl ?_
      refine hm_aload_n C nd_MO_keyFor_108 rfl ?_
      refine hm_get C nF_MO_66 rf_m rfl nd_MO_keyFor_109 ?_
      refine hm_bipush (v := 7) C nd_MO_keyFor_112 (by decide) ?_
      refine hm_iald (t := 3) (N := 33) (j := 7) (f := (ar 15)) C rfl (rf_at hA (i := 15) (by decide)) rfl (by omega) (by decide) nd_MO_keyFor_114 ?_
      refine hm_stk (st' := [.int (nI nx), .int (nI bw)]) (by rw [a8]) ?_
      refine hm_icmp_le (tgt := 128) C nd_MO_keyFor_115 (by decide) (fun c2 => ?_) (fun c2 => ?_)
      · have l1 : bw ≤ nx := (nI_leI (by omega) (by omega)).mp c2
        exact H1 _ rc nx lf 0 sc ar n q vl hp ry.rf (by omega) hr (kf_n hke (kf_1d hno (fun z => by omega)))
      · have l1 : nx < bw := by have h9 : ¬ bw ≤ nx := fun z => c2 (nI_le z (by omega)); omega
        rcases Nat.lt_or_ge (nx + 5) bw with h5 | h5
        · refine hm_aload_n C nd_MO_keyFor_118 rfl ?_
          refine hm_iload_n C nd_MO_keyFor_119 rfl ?_
          refine hm_callV C (ct_MO_skip_no m A hA sc ar n q vl ro mi th sd st bf rc nx lf hr bw hbw hnx h5) nV_MO_skip [.int (nI bw)] rfl rf_m rfl nq_MO_143 nj_MO_skip nx_MO_skip rfl (rest := []) rfl (Nat.le_of_ble_eq_true rfl) (by decide) (by decide) (by omega) (by omega) nd_MO_keyFor_120 (fun r M1 hp => ?_)
          obtain ⟨rfl, eM1⟩ := hp
          rw [eM1]
          refine hm_stk (st' := [.int 0]) rfl ?_
          refine hm_if_ne (tgt := 128) C nd_MO_keyFor_123 (by decide) (fun c3 => absurd rfl c3) (fun c3 => ?_)
          refine hm_iconst (v := 0) C nd_MO_keyFor_126 (by decide) ?_
          exact hm_iret C E (by omega) (by omega) (⟨sc, ar, n, q, vl, rfl, hp, ry.rf, Or.inl ⟨by rw [kf_nn hke (kf_1b hno ⟨r0, l1⟩ h5)], rfl⟩⟩) nd_MO_keyFor_127
        · refine hm_aload_n C nd_MO_keyFor_118 rfl ?_
          refine hm_iload_n C nd_MO_keyFor_119 rfl ?_
          refine hm_callV C (ct_MO_skip_go m A hA sc ar n q vl dr hp (by omega) ro mi th sd st bf rc nx lf hr bw hbw hnx h5) nV_MO_skip [.int (nI bw)] rfl rf_m rfl nq_MO_143 nj_MO_skip nx_MO_skip rfl (rest := []) rfl (Nat.le_of_ble_eq_true rfl) (by decide) (by decide) (by omega) (by omega) nd_MO_keyFor_120 (fun r M2 hp => ?_)
          obtain ⟨rfl, sc2, ar2, n2, q2, vl2, rfl, hp2, hy2, hr2⟩ := hp
          refine hm_stk (st' := [.int 1]) rfl ?_
          refine hm_if_ne (tgt := 128) C nd_MO_keyFor_123 (by decide) (fun c3 => ?_) (fun c3 => absurd c3 (by decide))
          exact H1 _ _ _ _ 10 sc2 ar2 n2 q2 vl2 hp2 (hy2.mn (Nat.le_refl _) (fun _ _ z => Or.inl z)) (Nat.le_refl _) hr2 (kf_n hke (kf_1c hno ⟨r0, l1⟩ h5))
  have loop : ∀ (u i : Nat), i + u = lf.length → (∀ (j : Nat) (z : Nat × Nat × Nat), j < i → lf[j]? = some z → ¬ (z.1 = sm_t 1 k 0 ∧ z.2.1 = ix)) → hm_W X (rf_M D m A sc ar) 0 0 3 [(4, .int (nI i)), (0, .ref m), (1, .int (nI tk)), (2, .int (nI ix)), (3, .int (nI bw))] [] := by
    intro u
    induction u with
    | zero =>
        intro i hu hno
        obtain ⟨a1, a2, a3, a4, a5, a6, a7, a8, a9, a10, a11⟩ := id hr
        dsimp only at a3 a7 a8 a9 a10 a11
        have ik : rid n q vl (nI tk) (sm_t 1 k 0) := ⟨tk, rfl, hk2, by rw [hk3]; decide, hk7⟩
        refine hm_iload C nd_MO_keyFor_3 rfl ?_
        refine hm_aload_n C nd_MO_keyFor_5 rfl ?_
        refine hm_get C nF_MO_66 rf_m rfl nd_MO_keyFor_6 ?_
        refine hm_bipush (v := 8) C nd_MO_keyFor_9 (by decide) ?_
        refine hm_iald (t := 3) (N := 33) (j := 8) (f := (ar 15)) C rfl (rf_at hA (i := 15) (by decide)) rfl (by omega) (by decide) nd_MO_keyFor_11 ?_
        refine hm_stk (st' := [.int (nI lf.length), .int (nI i)]) (by rw [a9]) ?_
        have hi : i = lf.length := by omega
        have hke : ke_f (sm_t 1 k 0) ix lf = none := ke_f_none (fun j z hz => hno j z (by have := (List.getElem?_eq_some_iff.mp hz).1; omega) hz)
        refine hm_icmp_ge (tgt := 77) C nd_MO_keyFor_12 (by decide) (fun c1 => ?_) (fun c1 => absurd (show nI lf.length ≤ nI i from nI_le (by omega) (by omega)) c1)
        refine hm_less (lv' := [(0, .ref m), (1, .int (nI tk)), (2, .int (nI ix)), (3, .int (nI bw))]) (fun z hz => by simp only [List.mem_cons, List.not_mem_nil, or_false] at hz ⊢; rcases hz with h | h | h | h <;> subst h <;> simp [nI_0]) ?_
        refine hm_iload_n C nd_MO_keyFor_77 rfl ?_
        refine hm_aload_n C nd_MO_keyFor_78 rfl ?_
        refine hm_get C nF_MO_66 rf_m rfl nd_MO_keyFor_79 ?_
        refine hm_iconst (v := 2) C nd_MO_keyFor_82 (by decide) ?_
        refine hm_iald (t := 3) (N := 33) (j := 2) (f := (ar 15)) C rfl (rf_at hA (i := 15) (by decide)) rfl (by omega) (by decide) nd_MO_keyFor_83 ?_
        refine hm_icmp_ne (tgt := 97) C nd_MO_keyFor_84 (by decide) (fun c2 => ?_) (fun c2 => ?_)
        · exact H97 hke (fun z => c2 ((hp.eq ik a3).mpr z.1))
        · have e2 : sm_t 1 k 0 = th := (hp.eq ik a3).mp c2
          refine hm_aload_n C nd_MO_keyFor_87 rfl ?_
          refine hm_get C nF_MO_66 rf_m rfl nd_MO_keyFor_88 ?_
          refine hm_bipush (v := 6) C nd_MO_keyFor_91 (by decide) ?_
          refine hm_iald (t := 3) (N := 33) (j := 6) (f := (ar 15)) C rfl (rf_at hA (i := 15) (by decide)) rfl (by omega) (by decide) nd_MO_keyFor_93 ?_
          refine hm_if_ne (tgt := 207) C nd_MO_keyFor_94 (by decide) (fun c3 => ?_) (fun c3 => ?_)
          · exact H2 [] ro th sd rc nx lf 0 sc ar n q vl hp ry.rf (by omega) hr hnx (kf_n hke (kf_1a ⟨e2, fun z => c3 ((hp.z a7).mpr z)⟩))
          · exact H97 hke (fun z => z.2 ((hp.z a7).mp c3))
    | succ u ih =>
        intro i hu hno
        obtain ⟨a1, a2, a3, a4, a5, a6, a7, a8, a9, a10, a11⟩ := id hr
        dsimp only at a3 a7 a8 a9 a10 a11
        have ik : rid n q vl (nI tk) (sm_t 1 k 0) := ⟨tk, rfl, hk2, by rw [hk3]; decide, hk7⟩
        refine hm_iload C nd_MO_keyFor_3 rfl ?_
        refine hm_aload_n C nd_MO_keyFor_5 rfl ?_
        refine hm_get C nF_MO_66 rf_m rfl nd_MO_keyFor_6 ?_
        refine hm_bipush (v := 8) C nd_MO_keyFor_9 (by decide) ?_
        refine hm_iald (t := 3) (N := 33) (j := 8) (f := (ar 15)) C rfl (rf_at hA (i := 15) (by decide)) rfl (by omega) (by decide) nd_MO_keyFor_11 ?_
        refine hm_stk (st' := [.int (nI lf.length), .int (nI i)]) (by rw [a9]) ?_
        refine hm_icmp_ge (tgt := 77) C nd_MO_keyFor_12 (by decide) (fun c1 => absurd c1 (nI_ge (by omega) (by omega))) (fun c1 => ?_)
        have hz : lf[i]? = some (lf[i]'(by omega)) := List.getElem?_eq_getElem (by omega)
        generalize lf[i]'(by omega) = z at hz
        obtain ⟨b1, b2, b3⟩ := a11 i z hz
        have hzb := hlb i z hz
        have hon : ¬ (z.1 = sm_t 1 k 0 ∧ z.2.1 = ix) → ∀ (j : Nat) (y : Nat × Nat × Nat), j < i + 1 → lf[j]? = some y → ¬ (y.1 = sm_t 1 k 0 ∧ y.2.1 = ix) := by
          intro h9 j y hj hy
          by_cases c : j = i
          · subst c; rw [hz] at hy; injection hy with hy; rw [← hy]; exact h9
          · exact hno j y (by omega) hy
        refine hm_bipush (v := 9) C nd_MO_keyFor_15 (by decide) ?_
        refine hm_iconst (v := 3) C nd_MO_keyFor_17 (by decide) ?_
        refine hm_iload C nd_MO_keyFor_18 rfl ?_
        refine hm_imul C nd_MO_keyFor_20 ?_
        refine hm_iadd C nd_MO_keyFor_21 ?_
        refine hm_stk (st' := [.int (nI (9 + 3 * i))]) (by rw [rf_9]) ?_
        refine hm_istore C [(5, .int (nI (9 + 3 * i))), (4, .int (nI i)), (0, .ref m), (1, .int (nI tk)), (2, .int (nI ix)), (3, .int (nI bw))] nd_MO_keyFor_22 (by decide) rfl ?_
        refine hm_aload_n C nd_MO_keyFor_24 rfl ?_
        refine hm_get C nF_MO_66 rf_m rfl nd_MO_keyFor_25 ?_
        refine hm_iload C nd_MO_keyFor_28 rfl ?_
        refine hm_iald (t := 3) (N := 33) (j := (9 + 3 * i)) (f := (ar 15)) C rfl (rf_at hA (i := 15) (by decide)) rfl (by omega) (by decide) nd_MO_keyFor_30 ?_
        refine hm_iload_n C nd_MO_keyFor_31 rfl ?_
        refine hm_icmp_ne (tgt := 71) C nd_MO_keyFor_32 (by decide) (fun c2 => ?_) (fun c2 => ?_)
        · refine hm_iinc (x := (nI i)) (v := ((nI i) + 1)) C [(4, .int ((nI i) + 1)), (5, .int (nI (9 + 3 * i))), (0, .ref m), (1, .int (nI tk)), (2, .int (nI ix)), (3, .int (nI bw))] nd_MO_keyFor_71 rfl rfl (by decide) rfl ?_
          refine hm_goto (tgt := 3) C nd_MO_keyFor_74 (by decide) ?_
          refine hm_less (lv' := [(4, .int (nI (i + 1))), (0, .ref m), (1, .int (nI tk)), (2, .int (nI ix)), (3, .int (nI bw))]) (fun z hz => by simp only [List.mem_cons, List.not_mem_nil, or_false, nI_1] at hz ⊢; rcases hz with h | h | h | h | h <;> subst h <;> simp [nI_0]) ?_
          exact ih (i + 1) (by omega) (hon (fun z9 => c2 ((hp.eq b1 ik).mpr z9.1)))
        · have e2 : z.1 = sm_t 1 k 0 := (hp.eq b1 ik).mp c2
          refine hm_aload_n C nd_MO_keyFor_35 rfl ?_
          refine hm_get C nF_MO_66 rf_m rfl nd_MO_keyFor_36 ?_
          refine hm_iload C nd_MO_keyFor_39 rfl ?_
          refine hm_iconst (v := 1) C nd_MO_keyFor_41 (by decide) ?_
          refine hm_iadd C nd_MO_keyFor_42 ?_
          refine hm_stk (st' := [.int (nI (10 + 3 * i)), .ref (A 15)]) (by rw [nI_1, show 9 + 3 * i + 1 = 10 + 3 * i by omega]) ?_
          refine hm_iald (t := 3) (N := 33) (j := (10 + 3 * i)) (f := (ar 15)) C rfl (rf_at hA (i := 15) (by decide)) rfl (by omega) (by decide) nd_MO_keyFor_43 ?_
          refine hm_stk (st' := [.int (nI z.2.1)]) (by rw [b2]) ?_
          refine hm_iload_n C nd_MO_keyFor_44 rfl ?_
          refine hm_icmp_eq (tgt := 51) C nd_MO_keyFor_45 (by decide) (fun c3 => ?_) (fun c3 => ?_)
          · have e3 : z.2.1 = ix := (nI_eq (by omega) (by omega)).mp c3
            refine hm_aload_n C nd_MO_keyFor_51 rfl ?_
            refine hm_get C nF_MO_66 rf_m rfl nd_MO_keyFor_52 ?_
            refine hm_iload C nd_MO_keyFor_55 rfl ?_
            refine hm_iconst (v := 2) C nd_MO_keyFor_57 (by decide) ?_
            refine hm_iadd C nd_MO_keyFor_58 ?_
            refine hm_stk (st' := [.int (nI (11 + 3 * i)), .ref (A 15)]) (by rw [nI_2, show 9 + 3 * i + 2 = 11 + 3 * i by omega]) ?_
            refine hm_iald (t := 3) (N := 33) (j := (11 + 3 * i)) (f := (ar 15)) C rfl (rf_at hA (i := 15) (by decide)) rfl (by omega) (by decide) nd_MO_keyFor_59 ?_
            refine hm_istore C [(6, .int ((ar 15) (11 + 3 * i))), (5, .int (nI (9 + 3 * i))), (4, .int (nI i)), (0, .ref m), (1, .int (nI tk)), (2, .int (nI ix)), (3, .int (nI bw))] nd_MO_keyFor_60 (by decide) rfl ?_
            refine hm_aload_n C nd_MO_keyFor_62 rfl ?_
            refine hm_iload C nd_MO_keyFor_63 rfl ?_
            refine hm_callV C (ct_MO_dropLeft m A hA sc ar i lf.length (by omega) (by omega) a9) nV_MO_dropLeft [.int (nI i)] rfl rf_m rfl nq_MO_137 nj_MO_dropLeft nx_MO_dropLeft rfl (rest := []) rfl (Nat.le_of_ble_eq_true rfl) (by decide) (by decide) (by omega) (by omega) nd_MO_keyFor_65 (fun r M1 hp => ?_)
            obtain ⟨rfl, ar3, rfl, hs3, g0, g8, g1, g2⟩ := hp
            refine hm_stk (st' := []) rfl ?_
            refine hm_iload C nd_MO_keyFor_68 rfl ?_
            have hr3 : re n q vl (ar3 15) (ro, mi, th, sd, st, bf, rc, nx, lf.eraseIdx i) := hr.er (by omega) g0 g8 (fun k k1 k2 => g1 k k1 k2) (fun k k1 k2 => g2 k k1 k2)
            have hke : ke_f (sm_t 1 k 0) ix lf = some (z.2.2, lf.eraseIdx i) := ke_f_some hz ⟨e2, e3⟩ (fun j y hj hy => hno j y hj hy)
            exact hm_iret C E (by omega) (by omega) (⟨sc, ar3, n, q, vl, rfl, hp.ha (fun j hj => hs3 j (by omega)), ry.rf.ha hs3, Or.inr ⟨_, _, _, _, _, _, _, _, by rw [kf_s hke], rfl, b3, hr3⟩⟩) nd_MO_keyFor_70
          · refine hm_goto (tgt := 71) C nd_MO_keyFor_48 (by decide) ?_
            refine hm_iinc (x := (nI i)) (v := ((nI i) + 1)) C [(4, .int ((nI i) + 1)), (5, .int (nI (9 + 3 * i))), (0, .ref m), (1, .int (nI tk)), (2, .int (nI ix)), (3, .int (nI bw))] nd_MO_keyFor_71 rfl rfl (by decide) rfl ?_
            refine hm_goto (tgt := 3) C nd_MO_keyFor_74 (by decide) ?_
            refine hm_less (lv' := [(4, .int (nI (i + 1))), (0, .ref m), (1, .int (nI tk)), (2, .int (nI ix)), (3, .int (nI bw))]) (fun z hz => by simp only [List.mem_cons, List.not_mem_nil, or_false, nI_1] at hz ⊢; rcases hz with h | h | h | h | h <;> subst h <;> simp [nI_0]) ?_
            exact ih (i + 1) (by omega) (hon (fun z9 => c3 (by rw [z9.2])))
  refine hm_iconst (v := 0) C nd_MO_keyFor_0 (by decide) ?_
  refine hm_istore C [(4, .int 0), (0, .ref m), (1, .int (nI tk)), (2, .int (nI ix)), (3, .int (nI bw))] nd_MO_keyFor_1 (by decide) rfl ?_
  refine hm_less (lv' := [(4, .int (nI 0)), (0, .ref m), (1, .int (nI tk)), (2, .int (nI ix)), (3, .int (nI bw))]) (fun z hz => by simp only [List.mem_cons, List.not_mem_nil, or_false] at hz ⊢; rcases hz with h | h | h | h | h <;> subst h <;> simp [nI_0]) ?_
  exact loop lf.length 0 (by omega) (fun j z hj => by omega)
