set_option maxHeartbeats 4000000 in
set_option maxRecDepth 100000 in
theorem ct_MO_count {l : Launch} {D : va_G} {BG : Nat → Option Cell} (m : Nat) (A : Nat → Nat) (hA : rf_ok A m) (sc : Nat → Int32) (ar : Nat → Nat → Int32) (n : Nat) (q : Nat → rq) (vl : Nat → Nat) (dr : Nat) (gv kn : Nat → Bool) (od : Bool) (Es : Nat → sp_E) (W : List sp_W) (G : Nat → Prop) (hI : mo_I sc ar n q vl dr gv kn od Es W G) (v : Int32) : hm_ct l D BG ny_MO_count prog_8_method_32_code 2 (some .int) 0 0 0 0 [.ref m, .int v] (rf_M D m A sc ar) (fun r M' => r = some (.int (if v = 0 then nI W.length else if v = 1 then nI dr else -1)) ∧ M' = (rf_M D m A sc ar)) := by
  refine hm_ct_of (by decide +kernel) (by exact Nat.le_of_ble_eq_true rfl) ?_
  intro X C E
  have C : hm_C X l D BG prog_8_method_32_code "TurnedKeysModel" "count" 2 0 0 0 0 := C
  refine hm_lv (lv' := [(0, .ref m), (1, .int v)]) rfl ?_
  obtain ⟨b1, b2, b3, b4, b5, b6, b7, b8, b9, b10, b11, b12, b13⟩ := id hI
  refine hm_iload_n C nd_MO_count_0 rfl ?_
  refine hm_if_ne (tgt := 11) C nd_MO_count_1 (by decide) (fun c1 => ?_) (fun c1 => ?_)
  · refine hm_iload_n C nd_MO_count_11 rfl ?_
    refine hm_iconst (v := 1) C nd_MO_count_12 (by decide) ?_
    refine hm_icmp_ne (tgt := 23) C nd_MO_count_13 (by decide) (fun c2 => ?_) (fun c2 => ?_)
    · refine hm_iconst (v := (-1)) C nd_MO_count_23 (by decide) ?_
      exact hm_iret C E (by omega) (by omega) (⟨by rw [if_neg c1, if_neg c2], rfl⟩) nd_MO_count_24
    · refine hm_aload_n C nd_MO_count_16 rfl ?_
      refine hm_get C nF_MO_92 rf_m rfl nd_MO_count_17 ?_
      refine hm_stk (st' := [.int (nI dr)]) (by rw [b1.2.2.1]) ?_
      refine hm_goto (tgt := 24) C nd_MO_count_20 (by decide) ?_
      exact hm_iret C E (by omega) (by omega) (⟨by rw [if_neg c1, if_pos c2], rfl⟩) nd_MO_count_24
  · refine hm_aload_n C nd_MO_count_4 rfl ?_
    refine hm_get C nF_MO_128 rf_m rfl nd_MO_count_5 ?_
    refine hm_stk (st' := [.int (nI W.length)]) (by rw [b5.2]) ?_
    refine hm_goto (tgt := 24) C nd_MO_count_8 (by decide) ?_
    exact hm_iret C E (by omega) (by omega) (⟨by rw [if_pos c1], rfl⟩) nd_MO_count_24
set_option maxHeartbeats 4000000 in
set_option maxRecDepth 100000 in
theorem ct_MO_agree {l : Launch} {D : va_G} {BG : Nat → Option Cell} (m : Nat) (A : Nat → Nat) (hA : rf_ok A m) (sc : Nat → Int32) (ar : Nat → Nat → Int32) (n : Nat) (q : Nat → rq) (vl : Nat → Nat) (dr : Nat) (gv kn : Nat → Bool) (od : Bool) (Es : Nat → sp_E) (W : List sp_W) (G : Nat → Prop) (hI : mo_I sc ar n q vl dr gv kn od Es W G) : hm_ct l D BG ny_MO_agree prog_8_method_31_code 1 (some .int) 0 0 0 0 [.ref m] (rf_M D m A sc ar) (fun r M' => r = some (.int (if (Es 0).1 = (Es 1).1 then 1 else 0)) ∧ M' = (rf_M D m A sc ar)) := by
  refine hm_ct_of (by decide +kernel) (by exact Nat.le_of_ble_eq_true rfl) ?_
  intro X C E
  have C : hm_C X l D BG prog_8_method_31_code "TurnedKeysModel" "agree" 1 0 0 0 0 := C
  refine hm_lv (lv' := [(0, .ref m)]) rfl ?_
  obtain ⟨b1, b2, b3, b4, b5, b6, b7, b8, b9, b10, b11, b12, b13⟩ := id hI
  have x0 : rid n q vl (ar 13 0) (Es 0).1 := (b7 0 (by decide)).1
  have x1 : rid n q vl (ar 13 33) (Es 1).1 := (b7 1 (by decide)).1
  refine hm_aload_n C nd_MO_agree_0 rfl ?_
  refine hm_get C nF_MO_60 rf_m rfl nd_MO_agree_1 ?_
  refine hm_iconst (v := 0) C nd_MO_agree_4 (by decide) ?_
  refine hm_iald (t := 3) (N := 66) (j := 0) (f := (ar 13)) C rfl (rf_at hA (i := 13) (by decide)) rfl (by omega) (by decide) nd_MO_agree_5 ?_
  refine hm_aload_n C nd_MO_agree_6 rfl ?_
  refine hm_get C nF_MO_60 rf_m rfl nd_MO_agree_7 ?_
  refine hm_bipush (v := 33) C nd_MO_agree_10 (by decide) ?_
  refine hm_iald (t := 3) (N := 66) (j := 33) (f := (ar 13)) C rfl (rf_at hA (i := 13) (by decide)) rfl (by omega) (by decide) nd_MO_agree_12 ?_
  refine hm_icmp_ne (tgt := 20) C nd_MO_agree_13 (by decide) (fun c1 => ?_) (fun c1 => ?_)
  · refine hm_iconst (v := 0) C nd_MO_agree_20 (by decide) ?_
    exact hm_iret C E (by omega) (by omega) (⟨by rw [if_neg (fun z => c1 ((b1.eq x0 x1).mpr z))], rfl⟩) nd_MO_agree_21
  · refine hm_iconst (v := 1) C nd_MO_agree_16 (by decide) ?_
    refine hm_goto (tgt := 21) C nd_MO_agree_17 (by decide) ?_
    exact hm_iret C E (by omega) (by omega) (⟨by rw [if_pos ((b1.eq x0 x1).mp c1)], rfl⟩) nd_MO_agree_21
set_option maxHeartbeats 4000000 in
set_option maxRecDepth 100000 in
theorem ct_MO_end_in {l : Launch} {D : va_G} {BG : Nat → Option Cell} (m : Nat) (A : Nat → Nat) (hA : rf_ok A m) (sc : Nat → Int32) (ar : Nat → Nat → Int32) (n : Nat) (q : Nat → rq) (vl : Nat → Nat) (dr : Nat) (gv kn : Nat → Bool) (od : Bool) (Es : Nat → sp_E) (W : List sp_W) (G : Nat → Prop) (hI : mo_I sc ar n q vl dr gv kn od Es W G) (j : Nat) (hj : j < 2) (v : Int32) : hm_ct l D BG ny_MO_end prog_8_method_30_code 3 (some .int) 1 22 0 0 [.ref m, .int (nI j), .int v] (rf_M D m A sc ar) (fun r M' => r = some (.int (sp_an (Es j) v)) ∧ ∃ ar', M' = rf_M D m A sc ar' ∧ mo_I sc ar' n q vl dr gv kn od Es W G) := by
  refine hm_ct_of (by decide +kernel) (by exact Nat.le_of_ble_eq_true rfl) ?_
  intro X C E
  have C : hm_C X l D BG prog_8_method_30_code "TurnedKeysModel" "end" 3 1 22 0 0 := C
  refine hm_lv (lv' := [(0, .ref m), (1, .int (nI j)), (2, .int v)]) rfl ?_
  obtain ⟨b1, b2, b3, b4, b5, b6, b7, b8, b9, b10, b11, b12, b13⟩ := id hI
  refine hm_iload_n C nd_MO_end_0 rfl ?_
  refine hm_callS C (ct_MO_isEnd_in _ j hj) nV_MO_isEnd nq_MO_115 nu_MO_isEnd rfl (rest := []) rfl (Nat.le_of_ble_eq_true rfl) (by decide) (by decide) (by omega) (by omega) nd_MO_end_1 (fun r M1 hp => ?_)
  obtain ⟨rfl, eM1⟩ := hp
  rw [eM1]
  refine hm_stk (st' := [.int 1]) rfl ?_
  refine hm_if_ne (tgt := 9) C nd_MO_end_4 (by decide) (fun c0 => ?_) (fun c0 => absurd c0 (by decide))
  refine hm_aload_n C nd_MO_end_9 rfl ?_
  refine hm_iload_n C nd_MO_end_10 rfl ?_
  refine hm_callV C (ct_MO_load m A hA sc ar j hj) nV_MO_load [.int (nI j)] rfl rf_m rfl nq_MO_118 nj_MO_load nx_MO_load rfl (rest := []) rfl (Nat.le_of_ble_eq_true rfl) (by decide) (by decide) (by omega) (by omega) nd_MO_end_11 (fun r M2 hp => ?_)
  obtain ⟨rfl, ar1, rfl, hs1, hl1⟩ := hp
  refine hm_stk (st' := []) rfl ?_
  have hI1 : mo_I sc ar1 n q vl dr gv kn od Es W G := hI.ha (fun _ _ => rfl) hs1
  have hr : re n q vl (ar1 15) (Es j) := (b7 j hj).cg (fun k hk => hl1 k hk)
  obtain ⟨a1, a2, a3, a4, a5, a6, a7, a8, a9, a10, a11⟩ := id hr
  refine hm_iload_n C nd_MO_end_14 rfl ?_
  rcases pk_ix v (n := 7) (by decide) with hv | hv | ⟨y, hy, rfl⟩
  · refine hm_tableOut (tgt := 132) C nd_MO_end_15 (Or.inl (Int32.lt_iff_toInt_lt.mp hv)) (by decide) ?_
    refine hm_iconst (v := (-1)) C nd_MO_end_132 (by decide) ?_
    exact hm_iret C E (by omega) (by omega) (⟨by rw [sp_an_out (Or.inl hv)], ar1, rfl, hI1⟩) nd_MO_end_133
  · refine hm_tableOut (tgt := 132) C nd_MO_end_15 (Or.inr (by have h := Int32.le_iff_toInt_le.mp hv; have e7 : (nI 7).toInt = 7 := rfl; omega)) (by decide) ?_
    refine hm_iconst (v := (-1)) C nd_MO_end_132 (by decide) ?_
    exact hm_iret C E (by omega) (by omega) (⟨by rw [sp_an_out (Or.inr hv)], ar1, rfl, hI1⟩) nd_MO_end_133
  · obtain rfl | rfl | rfl | rfl | rfl | rfl | rfl : y = 0 ∨ y = 1 ∨ y = 2 ∨ y = 3 ∨ y = 4 ∨ y = 5 ∨ y = 6 := by omega
    · refine hm_tableIn (tgt := 56) C nd_MO_end_15 (by decide) (by decide) rfl (by decide) ?_
      refine hm_aload_n C nd_MO_end_56 rfl ?_
      refine hm_get C nF_MO_66 rf_m rfl nd_MO_end_57 ?_
      refine hm_iconst (v := 4) C nd_MO_end_60 (by decide) ?_
      refine hm_iald (t := 3) (N := 33) (j := 4) (f := (ar1 15)) C rfl (rf_at hA (i := 15) (by decide)) rfl (by omega) (by decide) nd_MO_end_61 ?_
      exact hm_iret C E (by omega) (by omega) (⟨by rw [a5]; rfl, ar1, rfl, hI1⟩) nd_MO_end_62
    · refine hm_tableIn (tgt := 63) C nd_MO_end_15 (by decide) (by decide) rfl (by decide) ?_
      refine hm_aload_n C nd_MO_end_63 rfl ?_
      refine hm_get C nF_MO_66 rf_m rfl nd_MO_end_64 ?_
      refine hm_iconst (v := 5) C nd_MO_end_67 (by decide) ?_
      refine hm_iald (t := 3) (N := 33) (j := 5) (f := (ar1 15)) C rfl (rf_at hA (i := 15) (by decide)) rfl (by omega) (by decide) nd_MO_end_68 ?_
      exact hm_iret C E (by omega) (by omega) (⟨by rw [a6]; rfl, ar1, rfl, hI1⟩) nd_MO_end_69
    · refine hm_tableIn (tgt := 70) C nd_MO_end_15 (by decide) (by decide) rfl (by decide) ?_
      refine hm_aload_n C nd_MO_end_70 rfl ?_
      refine hm_get C nF_MO_66 rf_m rfl nd_MO_end_71 ?_
      refine hm_bipush (v := 7) C nd_MO_end_74 (by decide) ?_
      refine hm_iald (t := 3) (N := 33) (j := 7) (f := (ar1 15)) C rfl (rf_at hA (i := 15) (by decide)) rfl (by omega) (by decide) nd_MO_end_76 ?_
      exact hm_iret C E (by omega) (by omega) (⟨by rw [a8]; rfl, ar1, rfl, hI1⟩) nd_MO_end_77
    · refine hm_tableIn (tgt := 78) C nd_MO_end_15 (by decide) (by decide) rfl (by decide) ?_
      refine hm_aload_n C nd_MO_end_78 rfl ?_
      refine hm_get C nF_MO_66 rf_m rfl nd_MO_end_79 ?_
      refine hm_bipush (v := 8) C nd_MO_end_82 (by decide) ?_
      refine hm_iald (t := 3) (N := 33) (j := 8) (f := (ar1 15)) C rfl (rf_at hA (i := 15) (by decide)) rfl (by omega) (by decide) nd_MO_end_84 ?_
      exact hm_iret C E (by omega) (by omega) (⟨by rw [a9]; rfl, ar1, rfl, hI1⟩) nd_MO_end_85
    · refine hm_tableIn (tgt := 86) C nd_MO_end_15 (by decide) (by decide) rfl (by decide) ?_
      refine hm_aload_n C nd_MO_end_86 rfl ?_
      refine hm_get C nF_MO_66 rf_m rfl nd_MO_end_87 ?_
      refine hm_iconst (v := 2) C nd_MO_end_90 (by decide) ?_
      refine hm_iald (t := 3) (N := 33) (j := 2) (f := (ar1 15)) C rfl (rf_at hA (i := 15) (by decide)) rfl (by omega) (by decide) nd_MO_end_91 ?_
      refine hm_if_eq (tgt := 99) C nd_MO_end_92 (by decide) (fun c1 => ?_) (fun c1 => ?_)
      · refine hm_iconst (v := 0) C nd_MO_end_99 (by decide) ?_
        exact hm_iret C E (by omega) (by omega) (⟨by rw [show sp_an (Es j) (nI 4) = (if (Es j).2.2.1 = 0 then 0 else 1) from rfl, if_pos ((b1.z a3).mp c1)], ar1, rfl, hI1⟩) nd_MO_end_100
      · refine hm_iconst (v := 1) C nd_MO_end_95 (by decide) ?_
        refine hm_goto (tgt := 100) C nd_MO_end_96 (by decide) ?_
        exact hm_iret C E (by omega) (by omega) (⟨by rw [show sp_an (Es j) (nI 4) = (if (Es j).2.2.1 = 0 then 0 else 1) from rfl, if_neg (fun q => c1 ((b1.z a3).mpr q))], ar1, rfl, hI1⟩) nd_MO_end_100
    · refine hm_tableIn (tgt := 101) C nd_MO_end_15 (by decide) (by decide) rfl (by decide) ?_
      refine hm_aload_n C nd_MO_end_101 rfl ?_
      refine hm_get C nF_MO_66 rf_m rfl nd_MO_end_102 ?_
      refine hm_iconst (v := 3) C nd_MO_end_105 (by decide) ?_
      refine hm_iald (t := 3) (N := 33) (j := 3) (f := (ar1 15)) C rfl (rf_at hA (i := 15) (by decide)) rfl (by omega) (by decide) nd_MO_end_106 ?_
      refine hm_if_eq (tgt := 114) C nd_MO_end_107 (by decide) (fun c1 => ?_) (fun c1 => ?_)
      · refine hm_iconst (v := 0) C nd_MO_end_114 (by decide) ?_
        exact hm_iret C E (by omega) (by omega) (⟨by rw [show sp_an (Es j) (nI 5) = (if (Es j).2.2.2.1 = 0 then 0 else 1) from rfl, if_pos ((b1.z a4).mp c1)], ar1, rfl, hI1⟩) nd_MO_end_115
      · refine hm_iconst (v := 1) C nd_MO_end_110 (by decide) ?_
        refine hm_goto (tgt := 115) C nd_MO_end_111 (by decide) ?_
        exact hm_iret C E (by omega) (by omega) (⟨by rw [show sp_an (Es j) (nI 5) = (if (Es j).2.2.2.1 = 0 then 0 else 1) from rfl, if_neg (fun q => c1 ((b1.z a4).mpr q))], ar1, rfl, hI1⟩) nd_MO_end_115
    · refine hm_tableIn (tgt := 116) C nd_MO_end_15 (by decide) (by decide) rfl (by decide) ?_
      refine hm_aload_n C nd_MO_end_116 rfl ?_
      refine hm_get C nF_MO_66 rf_m rfl nd_MO_end_117 ?_
      refine hm_bipush (v := 6) C nd_MO_end_120 (by decide) ?_
      refine hm_iald (t := 3) (N := 33) (j := 6) (f := (ar1 15)) C rfl (rf_at hA (i := 15) (by decide)) rfl (by omega) (by decide) nd_MO_end_122 ?_
      refine hm_if_eq (tgt := 130) C nd_MO_end_123 (by decide) (fun c1 => ?_) (fun c1 => ?_)
      · refine hm_iconst (v := 0) C nd_MO_end_130 (by decide) ?_
        exact hm_iret C E (by omega) (by omega) (⟨by rw [show sp_an (Es j) (nI 6) = (if (Es j).2.2.2.2.2.2.1 = 0 then 0 else 1) from rfl, if_pos ((b1.z a7).mp c1)], ar1, rfl, hI1⟩) nd_MO_end_131
      · refine hm_iconst (v := 1) C nd_MO_end_126 (by decide) ?_
        refine hm_goto (tgt := 131) C nd_MO_end_127 (by decide) ?_
        exact hm_iret C E (by omega) (by omega) (⟨by rw [show sp_an (Es j) (nI 6) = (if (Es j).2.2.2.2.2.2.1 = 0 then 0 else 1) from rfl, if_neg (fun q => c1 ((b1.z a7).mpr q))], ar1, rfl, hI1⟩) nd_MO_end_131
set_option maxHeartbeats 4000000 in
set_option maxRecDepth 100000 in
theorem ct_MO_end_out {l : Launch} {D : va_G} {BG : Nat → Option Cell} (m : Nat) (A : Nat → Nat) (hA : rf_ok A m) (sc : Nat → Int32) (ar : Nat → Nat → Int32) (e v : Int32) (he : e < 0 ∨ nI 2 ≤ e) : hm_ct l D BG ny_MO_end prog_8_method_30_code 3 (some .int) 1 22 0 0 [.ref m, .int e, .int v] (rf_M D m A sc ar) (fun r M' => r = some (.int (-1)) ∧ M' = (rf_M D m A sc ar)) := by
  refine hm_ct_of (by decide +kernel) (by exact Nat.le_of_ble_eq_true rfl) ?_
  intro X C E
  have C : hm_C X l D BG prog_8_method_30_code "TurnedKeysModel" "end" 3 1 22 0 0 := C
  refine hm_lv (lv' := [(0, .ref m), (1, .int e), (2, .int v)]) rfl ?_
  refine hm_iload_n C nd_MO_end_0 rfl ?_
  refine hm_callS C (ct_MO_isEnd_out _ e he) nV_MO_isEnd nq_MO_115 nu_MO_isEnd rfl (rest := []) rfl (Nat.le_of_ble_eq_true rfl) (by decide) (by decide) (by omega) (by omega) nd_MO_end_1 (fun r M1 hp => ?_)
  obtain ⟨rfl, eM1⟩ := hp
  rw [eM1]
  refine hm_stk (st' := [.int 0]) rfl ?_
  refine hm_if_ne (tgt := 9) C nd_MO_end_4 (by decide) (fun c0 => absurd rfl c0) (fun c0 => ?_)
  refine hm_iconst (v := (-1)) C nd_MO_end_7 (by decide) ?_
  exact hm_iret C E (by omega) (by omega) (⟨rfl, rfl⟩) nd_MO_end_8
theorem ct_MO_back_s {l : Launch} {D : va_G} {BG : Nat → Option Cell} (m : Nat) (A : Nat → Nat) (hA : rf_ok A m) (sc : Nat → Int32) (ar : Nat → Nat → Int32) (n : Nat) (q : Nat → rq) (vl : Nat → Nat) (dr : Nat) (gv kn : Nat → Bool) (od : Bool) (Es : Nat → sp_E) (W : List sp_W) (G : Nat → Prop) (hI : mo_I sc ar n q vl dr gv kn od Es W G) (j : Nat) (hj : j < 2) : hm_ct l D BG ny_MO_back prog_8_method_28_code 3 (some .int) 1 20 0 0 [.ref m, .int (nI j)] (rf_M D m A sc ar) (fun r M' => r = some (.int 1) ∧ ∃ ar', M' = rf_M D m A sc ar' ∧ mo_I sc ar' n q vl dr gv kn od (fun i => if i = j then Es (j + 2) else Es i) W G) := by
  refine (ct_MO_back_in m A hA sc ar j hj).mono (fun r M' z => ?_)
  obtain ⟨rfl, ar1, rfl, hs, hl, ho⟩ := z
  exact ⟨rfl, ar1, rfl, hI.st hj hs (e := Es (j + 2)) ((hI.2.2.2.2.2.2.2.1 j hj).cg (fun k hk => hl k hk)) ho (hI.2.2.2.2.2.2.2.2.2.2.2.1 (j + 2) (by omega))⟩
theorem ct_MO_keep_s {l : Launch} {D : va_G} {BG : Nat → Option Cell} (m : Nat) (A : Nat → Nat) (hA : rf_ok A m) (sc : Nat → Int32) (ar : Nat → Nat → Int32) (n : Nat) (q : Nat → rq) (vl : Nat → Nat) (dr : Nat) (gv kn : Nat → Bool) (od : Bool) (Es : Nat → sp_E) (W : List sp_W) (G : Nat → Prop) (hI : mo_I sc ar n q vl dr gv kn od Es W G) (j : Nat) (hj : j < 2) : hm_ct l D BG ny_MO_keep prog_8_method_29_code 3 (some .int) 1 20 0 0 [.ref m, .int (nI j)] (rf_M D m A sc ar) (fun r M' => r = some (.int 1) ∧ ∃ ar', M' = rf_M D m A sc ar' ∧ mo_I sc ar' n q vl dr gv kn od (fun i => if i = j + 2 then Es j else Es i) W G) := by
  refine (ct_MO_keep_in m A hA sc ar j hj).mono (fun r M' z => ?_)
  obtain ⟨rfl, ar1, rfl, hs, hl, ho⟩ := z
  exact ⟨rfl, ar1, rfl, hI.kp hj hs (e := Es j) ((hI.2.2.2.2.2.2.1 j hj).cg (fun k hk => hl k hk)) ho (hI.2.2.2.2.2.2.2.2.2.2.2.1 j (by omega))⟩
theorem dr_ans {b : Bool} {P : Prop} (h : b = true ↔ P) : b2i b = @ite _ P (Classical.propDecidable _) 1 0 := by
  by_cases c : P
  · rw [if_pos c, h.mpr c]; rfl
  · rw [if_neg c]
    cases b with
    | false => rfl
    | true => exact absurd (h.mp rfl) c
theorem W_get {W : List sp_W} {j : Nat} (h : j < W.length) : W[j]? = some (W.getD j (0, 0, 0, 0, 0, 0)) := by
  rw [List.getD_eq_getElem?_getD, List.getElem?_eq_getElem h]
  rfl
theorem lrn_f {k : Nat → Bool} {t x : Nat} (h : x ≠ t) (hk : k x = false) : lrn k t x = false := by
  unfold lrn
  by_cases c : t = 0
  · rw [if_pos c]; exact hk
  · rw [if_neg c, va_up_ne _ _ h]; exact hk
theorem opn_f {n dr t x : Nat} {q : Nat → rq} {vl : Nat → Nat} {k : Nat → Bool} (hV : rv_I n q vl dr) (t1 : 1 ≤ t) (t2 : t < n) (x1 : n ≤ x) (hk : k x = false) : (opn q k t).1 x = false := by
  have bd := rv_bd hV t1 t2
  unfold opn
  by_cases c : (q t).1 = 5
  · rw [if_pos c]
    have l2 := bd.2.1 (by omega)
    have l3 := bd.2.2 (by omega)
    by_cases d : lrn k (q t).2.2.1 (q t).2.1 = true
    · rw [if_pos d]
      exact lrn_f (by omega) (lrn_f (by omega) hk)
    · rw [if_neg d]
      exact lrn_f (by omega) hk
  · rw [if_neg c]
    by_cases d : (q t).1 = 6
    · rw [if_pos d]
      have l2 := bd.2.1 (by omega)
      have l3 := bd.2.2 (by omega)
      exact lrn_f (by omega) (lrn_f (by omega) hk)
    · rw [if_neg d]
      exact hk
set_option maxHeartbeats 4000000 in
set_option maxRecDepth 100000 in
theorem ct_MO_derived_in {l : Launch} {D : va_G} {BG : Nat → Option Cell} (m : Nat) (A : Nat → Nat) (hA : rf_ok A m) (sc : Nat → Int32) (ar : Nat → Nat → Int32) (n : Nat) (q : Nat → rq) (vl : Nat → Nat) (dr : Nat) (gv kn : Nat → Bool) (od : Bool) (Es : Nat → sp_E) (W : List sp_W) (G : Nat → Prop) (hI : mo_I sc ar n q vl dr gv kn od Es W G) (hwl : W.length ≤ 520) (j : Nat) (hj : j < W.length) : hm_ct l D BG ny_MO_derived prog_8_method_26_code 2 (some .int) 5 112 0 0 [.ref m, .int (nI j)] (rf_M D m A sc ar) (fun r M' => r = some (.int (@ite _ (sm_dr G ((W.getD j (0, 0, 0, 0, 0, 0)).2.2.2.2.2)) (Classical.propDecidable _) 1 0)) ∧ ∃ sc' ar' kn' od', M' = rf_M D m A sc' ar' ∧ mo_I sc' ar' n q vl dr gv kn' od' Es W G) := by
  refine hm_ct_of (by decide +kernel) (by exact Nat.le_of_ble_eq_true rfl) ?_
  intro X C E
  have C : hm_C X l D BG prog_8_method_26_code "TurnedKeysModel" "derived" 2 5 112 0 0 := C
  refine hm_lv (lv' := [(0, .ref m), (1, .int (nI j))]) rfl ?_
  obtain ⟨b1, b2, b3, b4, b5, b6, b7, b8, b9, b10, b11, b12, b13⟩ := id hI
  have hn2 := b1.1.2.2.1
  obtain ⟨tb, hh⟩ := b1.tb
  have hW : W ≠ [] := fun z => by rw [z] at hj; exact absurd hj (Nat.not_lt_zero _)
  obtain ⟨pf, hpf⟩ := b11.pf b1.2.1 hh (b13 hW)
  obtain ⟨c1, c2, c3, c4, t, c5, c6, c7, c8, c9, c10⟩ := b9 j _ (W_get hj)
  have hd := rv_hd b1.2.1 c6 c7 c8
  have k5 := (b1.2.1.2.2.1 t c6 c7).2.2.2.2.2.2.1 c8
  have e9 := sm_t_inj (k5.2.2.2.2.2.2.2.2.symm.trans c9)
  have hw20 : W.length ≤ 520 := hwl
  refine hm_iload_n C nd_MO_derived_0 rfl ?_
  refine hm_if_lt (tgt := 12) C nd_MO_derived_1 (by decide) (fun d0 => absurd d0 (nI_pos (by omega))) (fun d0 => ?_)
  refine hm_iload_n C nd_MO_derived_4 rfl ?_
  refine hm_aload_n C nd_MO_derived_5 rfl ?_
  refine hm_get C nF_MO_128 rf_m rfl nd_MO_derived_6 ?_
  refine hm_stk (st' := [.int (nI W.length), .int (nI j)]) (by rw [b5.2]) ?_
  refine hm_icmp_lt (tgt := 14) C nd_MO_derived_9 (by decide) (fun d1 => ?_) (fun d1 => absurd (nI_lt hj (by omega)) d1)
  refine hm_aload_n C nd_MO_derived_14 rfl ?_
  refine hm_callV C (ct_MO_derive m A hA (sc) ar n q vl dr (b1.1.sc rfl) b1.2.1 gv kn b2 b3 od b4 pf hpf (fun k => rg_k n q vl k G ∧ ∀ x, n ≤ x → x < 20000 → k x = false) ⟨b10.2.1, fun x x1 x2 => (hI.fr x x1 x2).2⟩ (fun k t t1 t2 h hw => ⟨rg_21 b1.2.1 b10.1 hpf h.1 t1 t2 hw, fun x x1 x2 => lrn_f (by omega) (h.2 x x1 x2)⟩) (fun k t t1 t2 h hk => ⟨rg_22 b1.2.1 b10.1 h.1 t1 t2 hk, fun x x1 x2 => opn_f b1.2.1 t1 t2 x1 (h.2 x x1 x2)⟩)) nV_MO_derive [] rfl rf_m rfl nq_MO_155 nj_MO_derive nx_MO_derive rfl (rest := []) rfl (Nat.le_of_ble_eq_true rfl) (by decide) (by decide) (by omega) (by omega) nd_MO_derived_15 (fun r M1 hp => ?_)
  obtain ⟨rfl, ar1, kn1, rfl, hs1, hk1, hI1, ho1, ho2⟩ := hp
  refine hm_stk (st' := []) rfl ?_
  have hcl : ∃ n0 pf, n0 ≤ n ∧ (∀ t, 1 ≤ t → t < n → gv t = true → t < n0) ∧ rg_p n0 q pf ∧ ∀ t, 1 ≤ t → t < n0 → clC gv q pf kn1 t := by
    cases hod : od with
    | true => exact ⟨n, pf, Nat.le_refl _, fun t _ h _ => h, hpf, ho2 hod⟩
    | false =>
      rw [ho1 hod]
      exact b10.2.2 hod
  have hT : mo_I (va_up sc 1 0) ar1 n q vl dr gv kn1 false Es W G := by
    have hp1 : rp (va_up sc 1 0) ar1 n q vl dr := by
      obtain ⟨⟨f1, f2, f3, f4, f5, tb, f6, f7⟩, g2, g3, g4, g5⟩ := b1
      refine ⟨⟨f1, f2, f3, fun t t1 t2 => by rw [hs1 0 (by decide), hs1 1 (by decide), hs1 2 (by decide), hs1 3 (by decide)]; exact f4 t t1 t2, f5, tb, fun k hk => by rw [hs1 6 (by decide)]; exact f6 k hk, f7⟩, g2, g3, g4, fun x x1 x2 => ?_⟩
      rw [hs1 4 (by decide)]
      refine ⟨(g5 x x1 x2).1, ?_⟩
      rw [hk1 x x2, hI1.2 x x1 x2]
      rfl
    exact ⟨hp1, by rw [hs1 4 (by decide)]; exact b2, hk1, rfl, b5, b6, by rw [hs1 13 (by decide)]; exact b7, by rw [hs1 14 (by decide)]; exact b8, fun i w hw => (b9 i w hw).go b1.2.1 rgo.rf (fun j j1 j2 => by rw [hs1 j (by omega)]), ⟨b10.1, hI1.1, fun _ => hcl⟩, b11, b12, b13⟩
  obtain ⟨n0, pf0, m1, m2, m3, m4⟩ := hcl
  have hgt := (b10.1.2.2 t c6 c7 c8).1
  have htn := m2 t c6 c7 hgt
  refine hm_aload_n C nd_MO_derived_18 rfl ?_
  refine hm_get C nF_MO_31 rf_m rfl nd_MO_derived_19 ?_
  refine hm_aload_n C nd_MO_derived_22 rfl ?_
  refine hm_get C nF_MO_57 rf_m rfl nd_MO_derived_23 ?_
  refine hm_iload_n C nd_MO_derived_26 rfl ?_
  refine hm_iald (t := 3) (N := 520) (j := j) (f := (ar1 12)) C rfl (rf_at hA (i := 12) (by decide)) rfl (by omega) (by decide) nd_MO_derived_27 ?_
  refine hm_stk (st' := [.int (nI (q (q t).2.2.2).2.2.1), .ref (A 5)]) (by rw [hs1 12 (by decide), c10]) ?_
  have l6 : 1 ≤ (q (q t).2.2.2).2.2.1 := ((b1.2.1.2.2.1 _ hd.2.2.2.2.2.1 hd.2.2.2.1).2.2.2.2.2.2.2 k5.2.2.2.2.2.2.1).1
  have hdr : kn1 (q (q t).2.2.2).2.2.1 = true ↔ sm_dr G (W.getD j (0, 0, 0, 0, 0, 0)).2.2.2.2.2 := by rw [← e9.2.2]; exact tg.dr b1.2.1 hh b10.1 hI1.1 m1 m2 m3 m4 l6 (by omega) (by omega)
  refine hm_zald (t := 5) (N := 20000) (j := (q (q t).2.2.2).2.2.1) (f := (ar1 5)) C rfl (rf_at hA (i := 5) (by decide)) rfl (by omega) (by decide) nd_MO_derived_28 ?_
  refine hm_stk (st' := [.int (b2i (kn1 (q (q t).2.2.2).2.2.1))]) (by rw [hk1 _ (by omega)]) ?_
  refine hm_if_eq (tgt := 36) C nd_MO_derived_29 (by decide) (fun d2 => ?_) (fun d2 => ?_)
  · refine hm_iconst (v := 0) C nd_MO_derived_36 (by decide) ?_
    exact hm_iret C E (by omega) (by omega) (⟨by rw [← dr_ans hdr, b2i_0 d2]; rfl, _, ar1, kn1, _, rfl, hT⟩) nd_MO_derived_37
  · refine hm_iconst (v := 1) C nd_MO_derived_32 (by decide) ?_
    refine hm_goto (tgt := 37) C nd_MO_derived_33 (by decide) ?_
    exact hm_iret C E (by omega) (by omega) (⟨by rw [← dr_ans hdr, b2i_1 d2]; rfl, _, ar1, kn1, _, rfl, hT⟩) nd_MO_derived_37
set_option maxHeartbeats 4000000 in
set_option maxRecDepth 100000 in
theorem ct_MO_derived_out {l : Launch} {D : va_G} {BG : Nat → Option Cell} (m : Nat) (A : Nat → Nat) (hA : rf_ok A m) (sc : Nat → Int32) (ar : Nat → Nat → Int32) (n : Nat) (q : Nat → rq) (vl : Nat → Nat) (dr : Nat) (gv kn : Nat → Bool) (od : Bool) (Es : Nat → sp_E) (W : List sp_W) (G : Nat → Prop) (hI : mo_I sc ar n q vl dr gv kn od Es W G) (e : Int32) (he : e < 0 ∨ nI W.length ≤ e) : hm_ct l D BG ny_MO_derived prog_8_method_26_code 2 (some .int) 5 112 0 0 [.ref m, .int e] (rf_M D m A sc ar) (fun r M' => r = some (.int (-1)) ∧ M' = (rf_M D m A sc ar)) := by
  refine hm_ct_of (by decide +kernel) (by exact Nat.le_of_ble_eq_true rfl) ?_
  intro X C E
  have C : hm_C X l D BG prog_8_method_26_code "TurnedKeysModel" "derived" 2 5 112 0 0 := C
  refine hm_lv (lv' := [(0, .ref m), (1, .int e)]) rfl ?_
  obtain ⟨b1, b2, b3, b4, b5, b6, b7, b8, b9, b10, b11, b12, b13⟩ := id hI
  refine hm_iload_n C nd_MO_derived_0 rfl ?_
  refine hm_if_lt (tgt := 12) C nd_MO_derived_1 (by decide) (fun d0 => ?_) (fun d0 => ?_)
  · refine hm_iconst (v := (-1)) C nd_MO_derived_12 (by decide) ?_
    exact hm_iret C E (by omega) (by omega) (⟨rfl, rfl⟩) nd_MO_derived_13
  · refine hm_iload_n C nd_MO_derived_4 rfl ?_
    refine hm_aload_n C nd_MO_derived_5 rfl ?_
    refine hm_get C nF_MO_128 rf_m rfl nd_MO_derived_6 ?_
    refine hm_stk (st' := [.int (nI W.length), .int e]) (by rw [b5.2]) ?_
    refine hm_icmp_lt (tgt := 14) C nd_MO_derived_9 (by decide) (fun d1 => absurd d1 (by rcases he with h | h; exact absurd h d0; exact Int32.not_lt.mpr h)) (fun d1 => ?_)
    refine hm_iconst (v := (-1)) C nd_MO_derived_12 (by decide) ?_
    exact hm_iret C E (by omega) (by omega) (⟨rfl, rfl⟩) nd_MO_derived_13
set_option maxHeartbeats 4000000 in
set_option maxRecDepth 100000 in
theorem ct_MO_opens_in {l : Launch} {D : va_G} {BG : Nat → Option Cell} (m : Nat) (A : Nat → Nat) (hA : rf_ok A m) (sc : Nat → Int32) (ar : Nat → Nat → Int32) (n : Nat) (q : Nat → rq) (vl : Nat → Nat) (dr : Nat) (gv kn : Nat → Bool) (od : Bool) (Es : Nat → sp_E) (W : List sp_W) (G : Nat → Prop) (hI : mo_I sc ar n q vl dr gv kn od Es W G) (hwl : W.length ≤ 520) (j : Nat) (hj : j < W.length) : hm_ct l D BG ny_MO_opens prog_8_method_27_code 2 (some .int) 5 112 0 0 [.ref m, .int (nI j)] (rf_M D m A sc ar) (fun r M' => r = some (.int (@ite _ (sm_dr G ((W.getD j (0, 0, 0, 0, 0, 0)).2.2.2.2.1)) (Classical.propDecidable _) 1 0)) ∧ ∃ sc' ar' kn' od', M' = rf_M D m A sc' ar' ∧ mo_I sc' ar' n q vl dr gv kn' od' Es W G) := by
  refine hm_ct_of (by decide +kernel) (by exact Nat.le_of_ble_eq_true rfl) ?_
  intro X C E
  have C : hm_C X l D BG prog_8_method_27_code "TurnedKeysModel" "opens" 2 5 112 0 0 := C
  refine hm_lv (lv' := [(0, .ref m), (1, .int (nI j))]) rfl ?_
  obtain ⟨b1, b2, b3, b4, b5, b6, b7, b8, b9, b10, b11, b12, b13⟩ := id hI
  have hn2 := b1.1.2.2.1
  obtain ⟨tb, hh⟩ := b1.tb
  have hW : W ≠ [] := fun z => by rw [z] at hj; exact absurd hj (Nat.not_lt_zero _)
  obtain ⟨pf, hpf⟩ := b11.pf b1.2.1 hh (b13 hW)
  obtain ⟨c1, c2, c3, c4, t, c5, c6, c7, c8, c9, c10⟩ := b9 j _ (W_get hj)
  have hd := rv_hd b1.2.1 c6 c7 c8
  have k5 := (b1.2.1.2.2.1 t c6 c7).2.2.2.2.2.2.1 c8
  have e9 := sm_t_inj (k5.2.2.2.2.2.2.2.2.symm.trans c9)
  have hw20 : W.length ≤ 520 := hwl
  refine hm_iload_n C nd_MO_opens_0 rfl ?_
  refine hm_if_lt (tgt := 12) C nd_MO_opens_1 (by decide) (fun d0 => absurd d0 (nI_pos (by omega))) (fun d0 => ?_)
  refine hm_iload_n C nd_MO_opens_4 rfl ?_
  refine hm_aload_n C nd_MO_opens_5 rfl ?_
  refine hm_get C nF_MO_128 rf_m rfl nd_MO_opens_6 ?_
  refine hm_stk (st' := [.int (nI W.length), .int (nI j)]) (by rw [b5.2]) ?_
  refine hm_icmp_lt (tgt := 14) C nd_MO_opens_9 (by decide) (fun d1 => ?_) (fun d1 => absurd (nI_lt hj (by omega)) d1)
  refine hm_aload_n C nd_MO_opens_14 rfl ?_
  refine hm_iconst (v := 1) C nd_MO_opens_15 (by decide) ?_
  refine hm_put C nF_MO_38 rf_m (Nat.le_of_ble_eq_true rfl) rfl rfl nd_MO_opens_16 ?_
  refine hm_eqM (rf_pt (sc' := va_up sc 1 1)) ?_
  refine hm_aload_n C nd_MO_opens_19 rfl ?_
  refine hm_callV C (ct_MO_derive m A hA (va_up sc 1 1) ar n q vl dr (b1.1.sc rfl) b1.2.1 gv kn b2 b3 true rfl pf hpf (fun k => rg_k n q vl k G ∧ ∀ x, n ≤ x → x < 20000 → k x = false) ⟨b10.2.1, fun x x1 x2 => (hI.fr x x1 x2).2⟩ (fun k t t1 t2 h hw => ⟨rg_21 b1.2.1 b10.1 hpf h.1 t1 t2 hw, fun x x1 x2 => lrn_f (by omega) (h.2 x x1 x2)⟩) (fun k t t1 t2 h hk => ⟨rg_22 b1.2.1 b10.1 h.1 t1 t2 hk, fun x x1 x2 => opn_f b1.2.1 t1 t2 x1 (h.2 x x1 x2)⟩)) nV_MO_derive [] rfl rf_m rfl nq_MO_155 nj_MO_derive nx_MO_derive rfl (rest := []) rfl (Nat.le_of_ble_eq_true rfl) (by decide) (by decide) (by omega) (by omega) nd_MO_opens_20 (fun r M1 hp => ?_)
  obtain ⟨rfl, ar1, kn1, rfl, hs1, hk1, hI1, ho1, ho2⟩ := hp
  refine hm_stk (st' := []) rfl ?_
  have hcl : ∃ n0 pf, n0 ≤ n ∧ (∀ t, 1 ≤ t → t < n → gv t = true → t < n0) ∧ rg_p n0 q pf ∧ ∀ t, 1 ≤ t → t < n0 → clC gv q pf kn1 t := ⟨n, pf, Nat.le_refl _, fun t _ h _ => h, hpf, ho2 rfl⟩
  have hT : mo_I (va_up (va_up sc 1 1) 1 0) ar1 n q vl dr gv kn1 false Es W G := by
    have hp1 : rp (va_up (va_up sc 1 1) 1 0) ar1 n q vl dr := by
      obtain ⟨⟨f1, f2, f3, f4, f5, tb, f6, f7⟩, g2, g3, g4, g5⟩ := b1
      refine ⟨⟨f1, f2, f3, fun t t1 t2 => by rw [hs1 0 (by decide), hs1 1 (by decide), hs1 2 (by decide), hs1 3 (by decide)]; exact f4 t t1 t2, f5, tb, fun k hk => by rw [hs1 6 (by decide)]; exact f6 k hk, f7⟩, g2, g3, g4, fun x x1 x2 => ?_⟩
      rw [hs1 4 (by decide)]
      refine ⟨(g5 x x1 x2).1, ?_⟩
      rw [hk1 x x2, hI1.2 x x1 x2]
      rfl
    exact ⟨hp1, by rw [hs1 4 (by decide)]; exact b2, hk1, rfl, b5, b6, by rw [hs1 13 (by decide)]; exact b7, by rw [hs1 14 (by decide)]; exact b8, fun i w hw => (b9 i w hw).go b1.2.1 rgo.rf (fun j j1 j2 => by rw [hs1 j (by omega)]), ⟨b10.1, hI1.1, fun _ => hcl⟩, b11, b12, b13⟩
  obtain ⟨n0, pf0, m1, m2, m3, m4⟩ := hcl
  have hgt := (b10.1.2.2 t c6 c7 c8).1
  have htn := m2 t c6 c7 hgt
  refine hm_aload_n C nd_MO_opens_23 rfl ?_
  refine hm_get C nF_MO_31 rf_m rfl nd_MO_opens_24 ?_
  refine hm_aload_n C nd_MO_opens_27 rfl ?_
  refine hm_get C nF_MO_17 rf_m rfl nd_MO_opens_28 ?_
  refine hm_aload_n C nd_MO_opens_31 rfl ?_
  refine hm_get C nF_MO_54 rf_m rfl nd_MO_opens_32 ?_
  refine hm_iload_n C nd_MO_opens_35 rfl ?_
  refine hm_iald (t := 3) (N := 520) (j := j) (f := (ar1 11)) C rfl (rf_at hA (i := 11) (by decide)) rfl (by omega) (by decide) nd_MO_opens_36 ?_
  refine hm_stk (st' := [.int (nI t), .ref (A 1), .ref (A 5)]) (by rw [hs1 11 (by decide), c5]) ?_
  refine hm_iald (t := 3) (N := 20000) (j := t) (f := (ar1 1)) C rfl (rf_at hA (i := 1) (by decide)) rfl (by omega) (by decide) nd_MO_opens_37 ?_
  refine hm_stk (st' := [.int (nI (q t).2.1), .ref (A 5)]) (by rw [hs1 1 (by decide), (b1.1.2.2.2.1 t c6 c7).2.1]) ?_
  have hdr : kn1 (q t).2.1 = true ↔ sm_dr G (W.getD j (0, 0, 0, 0, 0, 0)).2.2.2.2.1 := by rw [← e9.2.1]; exact tg.dr b1.2.1 hh b10.1 hI1.1 m1 m2 m3 m4 k5.1 (by omega) (by omega)
  refine hm_zald (t := 5) (N := 20000) (j := (q t).2.1) (f := (ar1 5)) C rfl (rf_at hA (i := 5) (by decide)) rfl (by omega) (by decide) nd_MO_opens_38 ?_
  refine hm_stk (st' := [.int (b2i (kn1 (q t).2.1))]) (by rw [hk1 _ (by omega)]) ?_
  refine hm_if_eq (tgt := 46) C nd_MO_opens_39 (by decide) (fun d2 => ?_) (fun d2 => ?_)
  · refine hm_iconst (v := 0) C nd_MO_opens_46 (by decide) ?_
    exact hm_iret C E (by omega) (by omega) (⟨by rw [← dr_ans hdr, b2i_0 d2]; rfl, _, ar1, kn1, _, rfl, hT⟩) nd_MO_opens_47
  · refine hm_iconst (v := 1) C nd_MO_opens_42 (by decide) ?_
    refine hm_goto (tgt := 47) C nd_MO_opens_43 (by decide) ?_
    exact hm_iret C E (by omega) (by omega) (⟨by rw [← dr_ans hdr, b2i_1 d2]; rfl, _, ar1, kn1, _, rfl, hT⟩) nd_MO_opens_47
set_option maxHeartbeats 4000000 in
set_option maxRecDepth 100000 in
theorem ct_MO_opens_out {l : Launch} {D : va_G} {BG : Nat → Option Cell} (m : Nat) (A : Nat → Nat) (hA : rf_ok A m) (sc : Nat → Int32) (ar : Nat → Nat → Int32) (n : Nat) (q : Nat → rq) (vl : Nat → Nat) (dr : Nat) (gv kn : Nat → Bool) (od : Bool) (Es : Nat → sp_E) (W : List sp_W) (G : Nat → Prop) (hI : mo_I sc ar n q vl dr gv kn od Es W G) (e : Int32) (he : e < 0 ∨ nI W.length ≤ e) : hm_ct l D BG ny_MO_opens prog_8_method_27_code 2 (some .int) 5 112 0 0 [.ref m, .int e] (rf_M D m A sc ar) (fun r M' => r = some (.int (-1)) ∧ M' = (rf_M D m A sc ar)) := by
  refine hm_ct_of (by decide +kernel) (by exact Nat.le_of_ble_eq_true rfl) ?_
  intro X C E
  have C : hm_C X l D BG prog_8_method_27_code "TurnedKeysModel" "opens" 2 5 112 0 0 := C
  refine hm_lv (lv' := [(0, .ref m), (1, .int e)]) rfl ?_
  obtain ⟨b1, b2, b3, b4, b5, b6, b7, b8, b9, b10, b11, b12, b13⟩ := id hI
  refine hm_iload_n C nd_MO_opens_0 rfl ?_
  refine hm_if_lt (tgt := 12) C nd_MO_opens_1 (by decide) (fun d0 => ?_) (fun d0 => ?_)
  · refine hm_iconst (v := (-1)) C nd_MO_opens_12 (by decide) ?_
    exact hm_iret C E (by omega) (by omega) (⟨rfl, rfl⟩) nd_MO_opens_13
  · refine hm_iload_n C nd_MO_opens_4 rfl ?_
    refine hm_aload_n C nd_MO_opens_5 rfl ?_
    refine hm_get C nF_MO_128 rf_m rfl nd_MO_opens_6 ?_
    refine hm_stk (st' := [.int (nI W.length), .int e]) (by rw [b5.2]) ?_
    refine hm_icmp_lt (tgt := 14) C nd_MO_opens_9 (by decide) (fun d1 => absurd d1 (by rcases he with h | h; exact absurd h d0; exact Int32.not_lt.mpr h)) (fun d1 => ?_)
    refine hm_iconst (v := (-1)) C nd_MO_opens_12 (by decide) ?_
    exact hm_iret C E (by omega) (by omega) (⟨rfl, rfl⟩) nd_MO_opens_13
