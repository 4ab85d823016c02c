def rc (n : Nat) (kn kn' : Nat → Bool) (b : Bool) : Prop := (b = false ∧ kn' = kn) ∨ (b = true ∧ tt_n kn' n < tt_n kn n)
theorem rc.rf (n : Nat) (kn : Nat → Bool) : rc n kn kn false := Or.inl ⟨rfl, rfl⟩
theorem rc.tr {n : Nat} {k0 k1 k2 : Nat → Bool} {b1 b2 : Bool} (h1 : rc n k0 k1 b1) (h2 : rc n k1 k2 b2) : rc n k0 k2 (b2 || b1) := by
  rcases h1 with ⟨e1, e2⟩ | ⟨e1, e2⟩
  · rcases h2 with ⟨f1, f2⟩ | ⟨f1, f2⟩
    · exact Or.inl ⟨by rw [e1, f1]; rfl, f2.trans e2⟩
    · exact Or.inr ⟨by rw [e1, f1]; rfl, e2 ▸ f2⟩
  · rcases h2 with ⟨f1, f2⟩ | ⟨f1, f2⟩
    · exact Or.inr ⟨by rw [e1, f1]; rfl, f2 ▸ e2⟩
    · exact Or.inr ⟨by rw [e1, f1]; rfl, by omega⟩
theorem lrn_rc {n t : Nat} {kn : Nat → Bool} (ht : t < n) : rc n kn (lrn kn t) (!rhas kn t) := by
  unfold lrn rhas
  by_cases c : t = 0
  · rw [if_pos c, decide_eq_true c]
    exact Or.inl ⟨rfl, rfl⟩
  · rw [if_neg c, decide_eq_false c, Bool.false_or]
    by_cases k : kn t = true
    · refine Or.inl ⟨by rw [k]; rfl, ?_⟩
      funext z
      by_cases e : z = t
      · rw [e, va_up_self, k]
      · rw [va_up_ne _ _ e]
    · refine Or.inr ⟨by rw [Bool.eq_false_iff.mpr k]; rfl, ?_⟩
      have := tt_n_up k ht
      omega
theorem opn_rc {n t : Nat} {q : Nat → rq} {kn : Nat → Bool} (h2 : (q t).1 = 5 ∨ (q t).1 = 6 → (q t).2.2.1 < n) (h3 : (q t).1 = 5 ∨ (q t).1 = 6 → (q t).2.2.2 < n) : rc n kn (opn q kn t).1 (opn q kn t).2 := by
  unfold opn
  by_cases c : (q t).1 = 5
  · rw [if_pos c]
    by_cases d : lrn kn (q t).2.2.1 (q t).2.1 = true
    · rw [if_pos d]
      exact (lrn_rc (h2 (Or.inl c))).tr (lrn_rc (h3 (Or.inl c)))
    · rw [if_neg d]
      exact lrn_rc (h2 (Or.inl c))
  · rw [if_neg c]
    by_cases d : (q t).1 = 6
    · rw [if_pos d]
      exact (lrn_rc (h2 (Or.inr d))).tr (lrn_rc (h3 (Or.inr d)))
    · rw [if_neg d]
      exact rc.rf _ _
def clC (gv : Nat → Bool) (q : Nat → rq) (pf : Nat → Nat) (kn : Nat → Bool) (t : Nat) : Prop := (gv t = true ∨ cmk q pf kn t = true → kn t = true) ∧ (kn t = true → (opn q kn t).2 = false)
set_option maxHeartbeats 4000000 in
set_option maxRecDepth 100000 in
theorem ct_MO_derive {l : Launch} {D : va_G} {BG : Nat → Option Cell} (m : Nat) (A : Nat → Nat) (hA : rf_ok A m) (sc : Nat → Int32) (ar : Nat → Nat → Int32) (n : Nat) (q : Nat → rq) (vl : Nat → Nat) (dr : Nat) (hT : rt_I sc ar n q) (hV : rv_I n q vl dr) (gv kn : Nat → Bool) (hg : ∀ t, t < 20000 → ar 4 t = b2i (gv t)) (hk : ∀ t, t < 20000 → ar 5 t = b2i (kn t)) (od : Bool) (ho : sc 1 = b2i od) (pf : Nat → Nat) (hpf : ∀ t, 1 ≤ t → t < n → (q t).1 = 3 → (1 ≤ pf (q t).2.1 ∧ pf (q t).2.1 < n ∧ q (pf (q t).2.1) = (2, (q t).2.1, 0, 0)) ∧ (1 ≤ pf (q t).2.2.1 ∧ pf (q t).2.2.1 < n ∧ q (pf (q t).2.2.1) = (2, (q t).2.2.1, 0, 0))) (I : (Nat → Bool) → Prop) (hI : I kn) (hI21 : ∀ k t, 1 ≤ t → t < n → I k → (gv t = true ∨ cmk q pf k t = true) → I (lrn k t)) (hI22 : ∀ k t, 1 ≤ t → t < n → I k → k t = true → I (opn q k t).1) : hm_ct l D BG ny_MO_derive prog_8_method_13_code 3 none 4 90 0 0 [.ref m] (rf_M D m A sc ar) (fun r M' => r = none ∧ ∃ ar' kn', M' = rf_M D m A (va_up sc 1 0) ar' ∧ (∀ i, i ≠ 5 → ar' i = ar i) ∧ (∀ x, x < 20000 → ar' 5 x = b2i (kn' x)) ∧ I kn' ∧ (od = false → kn' = kn) ∧ (od = true → ∀ t, 1 ≤ t → t < n → clC gv q pf kn' t)) := by
  refine hm_ct_of (by decide +kernel) (by exact Nat.le_of_ble_eq_true rfl) ?_
  intro X C E
  have C : hm_C X l D BG prog_8_method_13_code "TurnedKeysModel" "derive" 3 4 90 0 0 := C
  have hn2 := hT.2.2.1
  have pass : ∀ (u t : Nat) (k0 kt : Nat → Bool) (art : Nat → Nat → Int32) (b : Bool), t + u = n → 1 ≤ t → (∀ i, i ≠ 5 → art i = ar i) → (∀ x, x < 20000 → art 5 x = b2i (kt x)) → I kt → rc n k0 kt b → (b = false → ∀ t', 1 ≤ t' → t' < t → clC gv q pf k0 t') → (∀ (arz : Nat → Nat → Int32) (kz : Nat → Bool) (bz : Bool), (∀ i, i ≠ 5 → arz i = ar i) → (∀ x, x < 20000 → arz 5 x = b2i (kz x)) → I kz → rc n k0 kz bz → (bz = false → ∀ t', 1 ≤ t' → t' < n → clC gv q pf k0 t') → hm_W X (rf_M D m A (va_up sc 1 0) arz) 0 0 10 [(1, .int (b2i bz)), (0, .ref m)] []) → hm_W X (rf_M D m A (va_up sc 1 0) art) 0 0 18 [(2, .int (nI t)), (1, .int (b2i b)), (0, .ref m)] [] := by
    intro u
    induction u with
    | zero =>
        intro t k0 kt art b hu ht1 hs hk hI hrc hcl go
        have hTt : rt_I (va_up sc 1 0) art n q := (hT.sc rfl).ar (fun i hi => hs i (by omega))
        have hsc0 : sc 0 = nI n := hT.1
        refine hm_iload_n C nd_MO_derive_18 rfl ?_
        refine hm_aload_n C nd_MO_derive_19 rfl ?_
        refine hm_get C nF_MO_7 rf_m rfl nd_MO_derive_20 ?_
        refine hm_stk (st' := [.int (nI n), .int (nI t)]) (by rw [← hsc0]; rfl) ?_
        have htn : t = n := by omega
        subst htn
        refine hm_icmp_ge (tgt := 103) C nd_MO_derive_23 (by decide) (fun c1 => ?_) (fun c1 => absurd (nI_le (Nat.le_refl _) (by omega)) c1)
        refine hm_goto (tgt := 10) C nd_MO_derive_103 (by decide) ?_
        refine hm_less (lv' := [(1, .int (b2i b)), (0, .ref m)]) (fun z hz => by simp only [List.mem_cons, List.not_mem_nil, or_false] at hz ⊢; rcases hz with h | h <;> subst h <;> simp) ?_
        exact go art kt b hs hk hI hrc hcl
    | succ u ih =>
        intro t k0 kt art b hu ht1 hs hk hI hrc hcl go
        have hTt : rt_I (va_up sc 1 0) art n q := (hT.sc rfl).ar (fun i hi => hs i (by omega))
        have hsc0 : sc 0 = nI n := hT.1
        refine hm_iload_n C nd_MO_derive_18 rfl ?_
        refine hm_aload_n C nd_MO_derive_19 rfl ?_
        refine hm_get C nF_MO_7 rf_m rfl nd_MO_derive_20 ?_
        refine hm_stk (st' := [.int (nI n), .int (nI t)]) (by rw [← hsc0]; rfl) ?_
        have htn : t < n := by omega
        refine hm_icmp_ge (tgt := 103) C nd_MO_derive_23 (by decide) (fun c1 => absurd c1 (nI_ge htn (by omega))) (fun c1 => ?_)
        have bd := rv_bd hV ht1 htn
        have half : ∀ (k1 : Nat → Bool) (ar1 : Nat → Nat → Int32) (b1 : Bool), (∀ i, i ≠ 5 → ar1 i = ar i) → (∀ x, x < 20000 → ar1 5 x = b2i (k1 x)) → I k1 → rc n k0 k1 b1 → (b1 = false → (∀ t', 1 ≤ t' → t' < t → clC gv q pf k0 t') ∧ (gv t = true ∨ cmk q pf k0 t = true → k0 t = true)) → hm_W X (rf_M D m A (va_up sc 1 0) ar1) 0 0 70 [(2, .int (nI t)), (1, .int (b2i b1)), (0, .ref m)] [] := by
          intro k1 ar1 b1 hs1 hk1 hI1 hrc1 hcl1
          have hT1 : rt_I (va_up sc 1 0) ar1 n q := (hT.sc rfl).ar (fun i hi => hs1 i (by omega))
          refine hm_aload_n C nd_MO_derive_70 rfl ?_
          refine hm_get C nF_MO_31 rf_m rfl nd_MO_derive_71 ?_
          refine hm_iload_n C nd_MO_derive_74 rfl ?_
          refine hm_zald (t := 5) (N := 20000) (j := t) (f := (ar1 5)) C rfl (rf_at hA (i := 5) (by decide)) rfl (by omega) (by decide) nd_MO_derive_75 ?_
          refine hm_stk (st' := [.int (b2i (k1 t))]) (by rw [hk1 t (by omega)]) ?_
          refine hm_if_eq (tgt := 97) C nd_MO_derive_76 (by decide) (fun d1 => ?_) (fun d1 => ?_)
          · have e1 := b2i_0 d1
            have hcl2 : b1 = false → ∀ t', 1 ≤ t' → t' < t + 1 → clC gv q pf k0 t' := by
              intro z t' z1 z2
              by_cases c : t' = t
              · subst c
                have hk01 : k1 = k0 := by rcases hrc1 with ⟨-, r⟩ | ⟨r, -⟩; exact r; rw [z] at r; cases r
                exact ⟨(hcl1 z).2, fun r => by rw [← hk01, e1] at r; cases r⟩
              · exact (hcl1 z).1 t' z1 (by omega)
            refine hm_iinc (x := (nI t)) (v := ((nI t) + 1)) C [(2, .int ((nI t) + 1)), (1, .int (b2i b1)), (0, .ref m)] nd_MO_derive_97 rfl rfl (by decide) rfl ?_
            refine hm_goto (tgt := 18) C nd_MO_derive_100 (by decide) ?_
            refine hm_less (lv' := [(2, .int (nI (t + 1))), (1, .int (b2i b1)), (0, .ref m)]) (fun z hz => by simp only [List.mem_cons, List.not_mem_nil, or_false, nI_1] at hz ⊢; rcases hz with h | h | h <;> subst h <;> simp) ?_
            exact ih (t + 1) k0 k1 ar1 b1 (by omega) (by omega) hs1 hk1 hI1 hrc1 hcl2 go
          · have e1 := b2i_1 d1
            refine hm_aload_n C nd_MO_derive_79 rfl ?_
            refine hm_iload_n C nd_MO_derive_80 rfl ?_
            refine hm_callV C (ct_MO_open m A hA (va_up sc 1 0) ar1 n q vl dr hT1 hV k1 hk1 t ht1 htn) nV_MO_open [.int (nI t)] rfl rf_m rfl nq_MO_112 nj_MO_open nx_MO_open rfl (rest := []) rfl (Nat.le_of_ble_eq_true rfl) (by decide) (by decide) (by omega) (by omega) nd_MO_derive_81 (fun r M1 hp => ?_)
            obtain ⟨ar2, rfl, rfl, hs2, hk2⟩ := hp
            refine hm_stk (st' := [.int (b2i (opn q k1 t).2)]) rfl ?_
            have hrc2 := hrc1.tr (opn_rc (n := n) (q := q) (kn := k1) (t := t) (fun z => by have := bd.2.1 (by omega); omega) (fun z => by have := bd.2.2 (by omega); omega))
            have hI2 := hI22 k1 t ht1 htn hI1 e1
            have hs3 : ∀ i, i ≠ 5 → ar2 i = ar i := fun i hi => (hs2 i hi).trans (hs1 i hi)
            have hcl2 : ((opn q k1 t).2 || b1) = false → ∀ t', 1 ≤ t' → t' < t + 1 → clC gv q pf k0 t' := by
              intro z t' z1 z2
              rw [Bool.or_eq_false_iff] at z
              by_cases c : t' = t
              · subst c
                have hk01 : k1 = k0 := by rcases hrc1 with ⟨-, r⟩ | ⟨r, -⟩; exact r; rw [z.2] at r; cases r
                exact ⟨(hcl1 z.2).2, fun _ => by rw [← hk01]; exact z.1⟩
              · exact (hcl1 z.2).1 t' z1 (by omega)
            refine hm_if_ne (tgt := 91) C nd_MO_derive_84 (by decide) (fun d2 => ?_) (fun d2 => ?_)
            · have f1 := b2i_1 d2
              refine hm_iconst (v := 1) C nd_MO_derive_91 (by decide) ?_
              refine hm_goto (tgt := 96) C nd_MO_derive_92 (by decide) ?_
              refine hm_stk (st' := [.int (b2i ((opn q k1 t).2 || b1))]) (by rw [f1, Bool.true_or]; rfl) ?_
              refine hm_istore_n C [(1, .int (b2i ((opn q k1 t).2 || b1))), (2, .int (nI t)), (0, .ref m)] nd_MO_derive_96 (by decide) rfl ?_
              refine hm_iinc (x := (nI t)) (v := ((nI t) + 1)) C [(2, .int ((nI t) + 1)), (1, .int (b2i ((opn q k1 t).2 || b1))), (0, .ref m)] nd_MO_derive_97 rfl rfl (by decide) rfl ?_
              refine hm_goto (tgt := 18) C nd_MO_derive_100 (by decide) ?_
              refine hm_less (lv' := [(2, .int (nI (t + 1))), (1, .int (b2i ((opn q k1 t).2 || b1))), (0, .ref m)]) (fun z hz => by simp only [List.mem_cons, List.not_mem_nil, or_false, nI_1] at hz ⊢; rcases hz with h | h | h <;> subst h <;> simp) ?_
              exact ih (t + 1) k0 (opn q k1 t).1 ar2 ((opn q k1 t).2 || b1) (by omega) (by omega) hs3 hk2 hI2 hrc2 hcl2 go
            · have f1 := b2i_0 d2
              refine hm_iload_n C nd_MO_derive_87 rfl ?_
              refine hm_if_eq (tgt := 95) C nd_MO_derive_88 (by decide) (fun d3 => ?_) (fun d3 => ?_)
              · have f2 := b2i_0 d3
                refine hm_iconst (v := 0) C nd_MO_derive_95 (by decide) ?_
                refine hm_stk (st' := [.int (b2i ((opn q k1 t).2 || b1))]) (by rw [f1, f2]; rfl) ?_
                refine hm_istore_n C [(1, .int (b2i ((opn q k1 t).2 || b1))), (2, .int (nI t)), (0, .ref m)] nd_MO_derive_96 (by decide) rfl ?_
                refine hm_iinc (x := (nI t)) (v := ((nI t) + 1)) C [(2, .int ((nI t) + 1)), (1, .int (b2i ((opn q k1 t).2 || b1))), (0, .ref m)] nd_MO_derive_97 rfl rfl (by decide) rfl ?_
                refine hm_goto (tgt := 18) C nd_MO_derive_100 (by decide) ?_
                refine hm_less (lv' := [(2, .int (nI (t + 1))), (1, .int (b2i ((opn q k1 t).2 || b1))), (0, .ref m)]) (fun z hz => by simp only [List.mem_cons, List.not_mem_nil, or_false, nI_1] at hz ⊢; rcases hz with h | h | h <;> subst h <;> simp) ?_
                exact ih (t + 1) k0 (opn q k1 t).1 ar2 ((opn q k1 t).2 || b1) (by omega) (by omega) hs3 hk2 hI2 hrc2 hcl2 go
              · have f2 := b2i_1 d3
                refine hm_iconst (v := 1) C nd_MO_derive_91 (by decide) ?_
                refine hm_goto (tgt := 96) C nd_MO_derive_92 (by decide) ?_
                refine hm_stk (st' := [.int (b2i ((opn q k1 t).2 || b1))]) (by rw [f2, Bool.or_true]; rfl) ?_
                refine hm_istore_n C [(1, .int (b2i ((opn q k1 t).2 || b1))), (2, .int (nI t)), (0, .ref m)] nd_MO_derive_96 (by decide) rfl ?_
                refine hm_iinc (x := (nI t)) (v := ((nI t) + 1)) C [(2, .int ((nI t) + 1)), (1, .int (b2i ((opn q k1 t).2 || b1))), (0, .ref m)] nd_MO_derive_97 rfl rfl (by decide) rfl ?_
                refine hm_goto (tgt := 18) C nd_MO_derive_100 (by decide) ?_
                refine hm_less (lv' := [(2, .int (nI (t + 1))), (1, .int (b2i ((opn q k1 t).2 || b1))), (0, .ref m)]) (fun z hz => by simp only [List.mem_cons, List.not_mem_nil, or_false, nI_1] at hz ⊢; rcases hz with h | h | h <;> subst h <;> simp) ?_
                exact ih (t + 1) k0 (opn q k1 t).1 ar2 ((opn q k1 t).2 || b1) (by omega) (by omega) hs3 hk2 hI2 hrc2 hcl2 go
        refine hm_aload_n C nd_MO_derive_26 rfl ?_
        refine hm_get C nF_MO_31 rf_m rfl nd_MO_derive_27 ?_
        refine hm_iload_n C nd_MO_derive_30 rfl ?_
        refine hm_zald (t := 5) (N := 20000) (j := t) (f := (art 5)) C rfl (rf_at hA (i := 5) (by decide)) rfl (by omega) (by decide) nd_MO_derive_31 ?_
        refine hm_stk (st' := [.int (b2i (kt t))]) (by rw [hk t (by omega)]) ?_
        refine hm_if_ne (tgt := 70) C nd_MO_derive_32 (by decide) (fun c2 => ?_) (fun c2 => ?_)
        · have e1 := b2i_1 c2
          exact half kt art b hs hk hI hrc (fun z => ⟨hcl z, fun _ => by rcases hrc with ⟨-, r⟩ | ⟨r, -⟩; rw [← r]; exact e1; rw [z] at r; cases r⟩)
        · have e1 := b2i_0 c2
          refine hm_aload_n C nd_MO_derive_35 rfl ?_
          refine hm_get C nF_MO_27 rf_m rfl nd_MO_derive_36 ?_
          refine hm_iload_n C nd_MO_derive_39 rfl ?_
          refine hm_zald (t := 5) (N := 20000) (j := t) (f := (art 4)) C rfl (rf_at hA (i := 4) (by decide)) rfl (by omega) (by decide) nd_MO_derive_40 ?_
          refine hm_stk (st' := [.int (b2i (gv t))]) (by rw [hs 4 (by decide), hg t (by omega)]) ?_
          refine hm_if_ne (tgt := 52) C nd_MO_derive_41 (by decide) (fun c3 => ?_) (fun c3 => ?_)
          · have hw : gv t = true ∨ cmk q pf kt t = true := Or.inl (b2i_1 c3)
            refine hm_aload_n C nd_MO_derive_52 rfl ?_
            refine hm_iload_n C nd_MO_derive_53 rfl ?_
            refine hm_callV C (ct_MO_learn m A hA (va_up sc 1 0) art kt hk t (by omega)) nV_MO_learn [.int (nI t)] rfl rf_m rfl nq_MO_106 nj_MO_learn nx_MO_learn rfl (rest := []) rfl (Nat.le_of_ble_eq_true rfl) (by decide) (by decide) (by omega) (by omega) nd_MO_derive_54 (fun r M1 hp => ?_)
            obtain ⟨ar2, rfl, rfl, hs2, hk2⟩ := hp
            refine hm_stk (st' := [.int (b2i (!rhas kt t))]) rfl ?_
            have hr : rhas kt t = false := by unfold rhas; rw [e1, decide_eq_false (by omega)]; rfl
            have hrc2 : rc n k0 (lrn kt t) true := by have := hrc.tr (lrn_rc (kn := kt) htn); rw [hr] at this; exact this
            refine hm_stk (st' := [.int 1]) (by rw [hr]; rfl) ?_
            refine hm_if_ne (tgt := 64) C nd_MO_derive_57 (by decide) (fun c5 => ?_) (fun c5 => absurd c5 (by decide))
            refine hm_iconst (v := 1) C nd_MO_derive_64 (by decide) ?_
            refine hm_goto (tgt := 69) C nd_MO_derive_65 (by decide) ?_
            refine hm_stk (st' := [.int (b2i true)]) rfl ?_
            refine hm_istore_n C [(1, .int (b2i true)), (2, .int (nI t)), (0, .ref m)] nd_MO_derive_69 (by decide) rfl ?_
            refine hm_less (lv' := [(2, .int (nI t)), (1, .int (b2i true)), (0, .ref m)]) (fun z hz => by simp only [List.mem_cons, List.not_mem_nil, or_false] at hz ⊢; rcases hz with h | h | h <;> subst h <;> simp) ?_
            exact half (lrn kt t) ar2 true (fun i hi => (hs2 i hi).trans (hs i hi)) hk2 (hI21 kt t ht1 htn hI hw) hrc2 (fun z => by cases z)
          · have e2 := b2i_0 c3
            refine hm_aload_n C nd_MO_derive_44 rfl ?_
            refine hm_iload_n C nd_MO_derive_45 rfl ?_
            refine hm_callV C (ct_MO_canMake m A hA (va_up sc 1 0) art n q vl dr hTt hV kt hk pf t ht1 htn (hpf t ht1 htn)) nV_MO_canMake [.int (nI t)] rfl rf_m rfl nq_MO_109 nj_MO_canMake nx_MO_canMake rfl (rest := []) rfl (Nat.le_of_ble_eq_true rfl) (by decide) (by decide) (by omega) (by omega) nd_MO_derive_46 (fun r M2 hp => ?_)
            obtain ⟨rfl, eM2⟩ := hp
            rw [eM2]
            refine hm_stk (st' := [.int (b2i (cmk q pf kt t))]) rfl ?_
            refine hm_if_eq (tgt := 70) C nd_MO_derive_49 (by decide) (fun c4 => ?_) (fun c4 => ?_)
            · have e3 := b2i_0 c4
              exact half kt art b hs hk hI hrc (fun z => ⟨hcl z, fun r => by have hk0 : kt = k0 := (by rcases hrc with ⟨-, r⟩ | ⟨r, -⟩; exact r; rw [z] at r; cases r); rw [← hk0, e2, e3] at r; rcases r with r | r <;> cases r⟩)
            · have hw : gv t = true ∨ cmk q pf kt t = true := Or.inr (b2i_1 c4)
              refine hm_aload_n C nd_MO_derive_52 rfl ?_
              refine hm_iload_n C nd_MO_derive_53 rfl ?_
              refine hm_callV C (ct_MO_learn m A hA (va_up sc 1 0) art kt hk t (by omega)) nV_MO_learn [.int (nI t)] rfl rf_m rfl nq_MO_106 nj_MO_learn nx_MO_learn rfl (rest := []) rfl (Nat.le_of_ble_eq_true rfl) (by decide) (by decide) (by omega) (by omega) nd_MO_derive_54 (fun r M3 hp => ?_)
              obtain ⟨ar2, rfl, rfl, hs2, hk2⟩ := hp
              refine hm_stk (st' := [.int (b2i (!rhas kt t))]) rfl ?_
              have hr : rhas kt t = false := by unfold rhas; rw [e1, decide_eq_false (by omega)]; rfl
              have hrc2 : rc n k0 (lrn kt t) true := by have := hrc.tr (lrn_rc (kn := kt) htn); rw [hr] at this; exact this
              refine hm_stk (st' := [.int 1]) (by rw [hr]; rfl) ?_
              refine hm_if_ne (tgt := 64) C nd_MO_derive_57 (by decide) (fun c5 => ?_) (fun c5 => absurd c5 (by decide))
              refine hm_iconst (v := 1) C nd_MO_derive_64 (by decide) ?_
              refine hm_goto (tgt := 69) C nd_MO_derive_65 (by decide) ?_
              refine hm_stk (st' := [.int (b2i true)]) rfl ?_
              refine hm_istore_n C [(1, .int (b2i true)), (2, .int (nI t)), (0, .ref m)] nd_MO_derive_69 (by decide) rfl ?_
              refine hm_less (lv' := [(2, .int (nI t)), (1, .int (b2i true)), (0, .ref m)]) (fun z hz => by simp only [List.mem_cons, List.not_mem_nil, or_false] at hz ⊢; rcases hz with h | h | h <;> subst h <;> simp) ?_
              exact half (lrn kt t) ar2 true (fun i hi => (hs2 i hi).trans (hs i hi)) hk2 (hI21 kt t ht1 htn hI hw) hrc2 (fun z => by cases z)
  have loop : ∀ (u : Nat) (k0 : Nat → Bool) (ar0 : Nat → Nat → Int32), tt_n k0 n ≤ u → (∀ i, i ≠ 5 → ar0 i = ar i) → (∀ x, x < 20000 → ar0 5 x = b2i (k0 x)) → I k0 → (od = false → False) → hm_W X (rf_M D m A (va_up sc 1 0) ar0) 0 0 14 [(1, .int 1), (0, .ref m)] [] := by
    intro u
    induction u with
    | zero =>
        intro k0 ar0 hu hs0 hk0 hI0 hod
        refine hm_iconst (v := 0) C nd_MO_derive_14 (by decide) ?_
        refine hm_istore_n C [(1, .int 0), (0, .ref m)] nd_MO_derive_15 (by decide) rfl ?_
        refine hm_iconst (v := 1) C nd_MO_derive_16 (by decide) ?_
        refine hm_istore_n C [(2, .int 1), (1, .int 0), (0, .ref m)] nd_MO_derive_17 (by decide) rfl ?_
        refine hm_less (lv' := [(2, .int (nI 1)), (1, .int (b2i false)), (0, .ref m)]) (fun z hz => by simp only [List.mem_cons, List.not_mem_nil, or_false] at hz ⊢; rcases hz with h | h | h <;> subst h <;> simp <;> rfl) ?_
        refine pass (n - 1) 1 k0 k0 ar0 false (by have := hT.2.1; omega) (Nat.le_refl _) hs0 hk0 hI0 (rc.rf _ _) (fun _ t' z1 z2 => by omega) (fun arz kz bz hsz hkz hIz hrcz hclz => ?_)
        rcases hrcz with ⟨e1, e2⟩ | ⟨e1, e2⟩
        · refine hm_iload_n C nd_MO_derive_10 rfl ?_
          refine hm_if_eq (tgt := 106) C nd_MO_derive_11 (by decide) (fun c1 => ?_) (fun c1 => absurd (by rw [e1]; rfl) c1)
          exact hm_vret C E (by omega) (by omega) (⟨rfl, arz, kz, rfl, hsz, hkz, hIz, fun r => (hod r).elim, fun _ => by rw [e2]; exact hclz e1⟩) nd_MO_derive_106
        · omega
    | succ u ih =>
        intro k0 ar0 hu hs0 hk0 hI0 hod
        refine hm_iconst (v := 0) C nd_MO_derive_14 (by decide) ?_
        refine hm_istore_n C [(1, .int 0), (0, .ref m)] nd_MO_derive_15 (by decide) rfl ?_
        refine hm_iconst (v := 1) C nd_MO_derive_16 (by decide) ?_
        refine hm_istore_n C [(2, .int 1), (1, .int 0), (0, .ref m)] nd_MO_derive_17 (by decide) rfl ?_
        refine hm_less (lv' := [(2, .int (nI 1)), (1, .int (b2i false)), (0, .ref m)]) (fun z hz => by simp only [List.mem_cons, List.not_mem_nil, or_false] at hz ⊢; rcases hz with h | h | h <;> subst h <;> simp <;> rfl) ?_
        refine pass (n - 1) 1 k0 k0 ar0 false (by have := hT.2.1; omega) (Nat.le_refl _) hs0 hk0 hI0 (rc.rf _ _) (fun _ t' z1 z2 => by omega) (fun arz kz bz hsz hkz hIz hrcz hclz => ?_)
        rcases hrcz with ⟨e1, e2⟩ | ⟨e1, e2⟩
        · refine hm_iload_n C nd_MO_derive_10 rfl ?_
          refine hm_if_eq (tgt := 106) C nd_MO_derive_11 (by decide) (fun c1 => ?_) (fun c1 => absurd (by rw [e1]; rfl) c1)
          exact hm_vret C E (by omega) (by omega) (⟨rfl, arz, kz, rfl, hsz, hkz, hIz, fun r => (hod r).elim, fun _ => by rw [e2]; exact hclz e1⟩) nd_MO_derive_106
        · refine hm_iload_n C nd_MO_derive_10 rfl ?_
          refine hm_if_eq (tgt := 106) C nd_MO_derive_11 (by decide) (fun c1 => absurd c1 (by rw [e1]; decide)) (fun c1 => ?_)
          rw [e1]
          exact ih kz arz (by omega) hsz hkz hIz hod
  refine hm_lv (lv' := [(0, .ref m)]) rfl ?_
  refine hm_aload_n C nd_MO_derive_0 rfl ?_
  refine hm_get C nF_MO_38 rf_m rfl nd_MO_derive_1 ?_
  refine hm_stk (st' := [.int (b2i od)]) (by rw [ho]) ?_
  refine hm_istore_n C [(1, .int (b2i od)), (0, .ref m)] nd_MO_derive_4 (by decide) rfl ?_
  refine hm_aload_n C nd_MO_derive_5 rfl ?_
  refine hm_iconst (v := 0) C nd_MO_derive_6 (by decide) ?_
  refine hm_put C nF_MO_38 rf_m (Nat.le_of_ble_eq_true rfl) rfl rfl nd_MO_derive_7 ?_
  refine hm_eqM (rf_pt (sc' := va_up sc 1 0)) ?_
  refine hm_iload_n C nd_MO_derive_10 rfl ?_
  refine hm_if_eq (tgt := 106) C nd_MO_derive_11 (by decide) (fun c1 => ?_) (fun c1 => ?_)
  · have e1 := b2i_0 c1
    exact hm_vret C E (by omega) (by omega) (⟨rfl, ar, kn, rfl, fun _ _ => rfl, hk, hI, fun _ => rfl, fun r => by rw [e1] at r; cases r⟩) nd_MO_derive_106
  · have e1 := b2i_1 c1
    rw [e1]
    exact loop (tt_n kn n) kn ar (Nat.le_refl _) (fun _ _ => rfl) hk hI (fun r => by rw [e1] at r; cases r)
