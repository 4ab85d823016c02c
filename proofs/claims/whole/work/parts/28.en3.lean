/-! AN END, by values -/
def en_L (D : va_G) (M : hm_M) (F : Nat → Prop) (T : Nat → Nat → Nat → Prop) (lk : Nat) (f : Nat → Option Nat) (lf : List (Nat × Nat × Nat)) : Prop := hm_ow M F lk (hm_ar D 2 8 f) ∧ lf.length ≤ 8 ∧ (∀ i q, lf[i]? = some q → q.2.1 < 2 ^ 30 ∧ ∃ b pk ky, f i = some b ∧ hm_ow M F b (hm_ob 4 [va_rf pk, .int (nI q.2.1), va_rf ky]) ∧ ts_o T pk q.1 ∧ ts_o T ky q.2.2) ∧ ∀ i, lf.length ≤ i → f i = none
def en_R (D : va_G) (M : hm_M) (F : Nat → Prop) (T : Nat → Nat → Nat → Prop) (a lk bs ro mi th sc st bf rc nx : Nat) (lf : List (Nat × Nat × Nat)) : Prop := ∃ (bs' ro' mi' th' sc' rc' : Option Nat) (f : Nat → Option Nat), hm_ow M F a (hm_ob 3 [va_rf bs', va_rf ro', va_rf mi', va_rf th', va_rf sc', .int (nI st), .int (nI bf), va_rf rc', .int (nI nx), .ref lk, .int (nI lf.length)]) ∧ ts_o T bs' bs ∧ ts_o T ro' ro ∧ ts_o T mi' mi ∧ ts_o T th' th ∧ ts_o T sc' sc ∧ ts_o T rc' rc ∧ en_L D M F T lk f lf
def en_F (F : Nat → Prop) (a lk : Nat) : Nat → Prop := fun z => F z ∨ z = a ∨ z = lk
theorem en_L.step {D : va_G} {M M' : hm_M} {F F' : Nat → Prop} {T T' : Nat → Nat → Nat → Prop} {lk : Nat} {f : Nat → Option Nat} {lf : List (Nat × Nat × Nat)} (h : en_L D M F T lk f lf) (hs : hm_step M F M' F') (ht : ∀ a i v, T a i v → T' a i v) : en_L D M' F' T' lk f lf := by
  obtain ⟨h1, h2, h3, h4⟩ := h
  refine ⟨h1.step hs, h2, fun i q hq => ?_, h4⟩
  obtain ⟨h5, b, pk, ky, e1, e2, e3, e4⟩ := h3 i q hq
  exact ⟨h5, b, pk, ky, e1, e2.step hs, e3.mono ht, e4.mono ht⟩
theorem en_L.put {D : va_G} {M : hm_M} {F : Nat → Prop} {T : Nat → Nat → Nat → Prop} {lk a : Nat} {f : Nat → Option Nat} {lf : List (Nat × Nat × Nat)} {vs : List Value} {e : va_E} (h : en_L D M F T lk f lf) (ha : M a = some (hm_ob 3 vs)) : en_L D (hm_up M a e) F T lk f lf := by
  obtain ⟨h1, h2, h3, h4⟩ := h
  refine ⟨h1.put (Ne.symm (hm_neA ha h1.1)), h2, fun i q hq => ?_, h4⟩
  obtain ⟨h5, b, pk, ky, e1, e2, e3, e4⟩ := h3 i q hq
  exact ⟨h5, b, pk, ky, e1, e2.put (hm_ne e2.1 ha (by decide)), e3, e4⟩
/-- a new cell beside it -/
theorem en_L.new {D : va_G} {M : hm_M} {F : Nat → Prop} {T : Nat → Nat → Nat → Prop} {lk q : Nat} {f : Nat → Option Nat} {lf : List (Nat × Nat × Nat)} {e : va_E} (h : en_L D M F T lk f lf) (hq : M q = none) : en_L D (hm_up M q e) F T lk f lf := by
  obtain ⟨h1, h2, h3, h4⟩ := h
  refine ⟨h1.put (hm_neF h1.1 hq), h2, fun i z hz => ?_, h4⟩
  obtain ⟨h5, b, pk, ky, e1, e2, e3, e4⟩ := h3 i z hz
  exact ⟨h5, b, pk, ky, e1, e2.put (hm_neF e2.1 hq), e3, e4⟩
theorem en_R.step {D : va_G} {M M' : hm_M} {F F' : Nat → Prop} {T T' : Nat → Nat → Nat → Prop} {a lk bs ro mi th sc st bf rc nx : Nat} {lf : List (Nat × Nat × Nat)} (h : en_R D M F T a lk bs ro mi th sc st bf rc nx lf) (hs : hm_step M F M' F') (ht : ∀ a i v, T a i v → T' a i v) : en_R D M' F' T' a lk bs ro mi th sc st bf rc nx lf := by
  obtain ⟨b1, b2, b3, b4, b5, b6, f, h0, h1, h2, h3, h4, h5, h6, h7⟩ := h
  exact ⟨b1, b2, b3, b4, b5, b6, f, h0.step hs, h1.mono ht, h2.mono ht, h3.mono ht, h4.mono ht, h5.mono ht, h6.mono ht, h7.step hs ht⟩
/-- behind a method of the end at a, that makes the values vs -/
def en_P (D : va_G) (tm : Nat) (M : hm_M) (F : Nat → Prop) (T : Nat → Nat → Nat → Prop) (G : Nat → Prop) (n c se dr' : Nat) (vs : List Nat) (a lk : Nat) (M' : hm_M) (F' : Nat → Prop) (T' : Nat → Nat → Nat → Prop) : Prop := ts_S D M' tm F' T' G dr' (ts_r (ts_k T) n c vs).1 (ts_r (ts_k T) n c vs).2 se ∧ hm_step M (en_F F a lk) M' (en_F F' a lk) ∧ (∀ a i v, T a i v → T' a i v) ∧ (∀ a i v, T' a i v → T a i v ∨ (n ≤ i ∧ v ∈ vs)) ∧ (∀ v, v ∈ vs → ts_k T' v)
theorem hm_step.en {M M' : hm_M} {F F' : Nat → Prop} (h : hm_step M F M' F') (a lk : Nat) : hm_step M (en_F F a lk) M' (en_F F' a lk) := by
  refine ⟨fun z hz hm => h.1 z (fun q => hz (Or.inl q)) hm, fun z hz => ?_⟩
  rcases hz with q | q
  · rcases h.2 z q with r | r
    · exact Or.inl (Or.inl r)
    · exact Or.inr r
  · exact Or.inl (Or.inr q)
theorem ts_P.en {D : va_G} {tm : Nat} {M M' : hm_M} {F F' : Nat → Prop} {T T' : Nat → Nat → Nat → Prop} {G : Nat → Prop} {n c se dr' : Nat} {vs : List Nat} (h : ts_P D tm M F T G n c se dr' vs M' F' T') (a lk : Nat) : en_P D tm M F T G n c se dr' vs a lk M' F' T' := ⟨h.1, h.2.1.en a lk, h.2.2⟩
theorem en_P.k {D : va_G} {tm a lk : Nat} {M M' : hm_M} {F F' : Nat → Prop} {T T' : Nat → Nat → Nat → Prop} {G : Nat → Prop} {n c se dr' : Nat} {vs : List Nat} (h : en_P D tm M F T G n c se dr' vs a lk M' F' T') : ts_k T' = fun v => ts_k T v ∨ v ∈ vs := by
  funext v
  apply propext
  constructor
  · rintro ⟨a, i, q⟩
    rcases h.2.2.2.1 a i v q with q | q
    · exact Or.inl ⟨a, i, q⟩
    · exact Or.inr q.2
  · rintro (⟨a, i, q⟩ | q)
    · exact ⟨a, i, h.2.2.1 a i v q⟩
    · exact h.2.2.2.2 v q
theorem en_P.tr {D : va_G} {tm a lk : Nat} {M M' M'' : hm_M} {F F' F'' : Nat → Prop} {T T' T'' : Nat → Nat → Nat → Prop} {G : Nat → Prop} {n c se dr' dr'' : Nat} {vs ws : List Nat} (h : en_P D tm M F T G n c se dr' vs a lk M' F' T') (h2 : en_P D tm M' F' T' G (ts_r (ts_k T) n c vs).1 (ts_r (ts_k T) n c vs).2 se dr'' ws a lk M'' F'' T'') : en_P D tm M F T G n c se dr'' (vs ++ ws) a lk M'' F'' T'' := by
  have hk := h.k
  have hg := ts_r_ge vs (ts_k T) n c
  obtain ⟨s2, st2, u2, w2, k2⟩ := h2
  rw [hk] at s2
  refine ⟨by rw [ts_r_app]; exact s2, h.2.1.tr st2, fun a i v q => u2 a i v (h.2.2.1 a i v q), fun a i v q => ?_, fun v q => ?_⟩
  · rcases w2 a i v q with q | q
    · rcases h.2.2.2.1 a i v q with q | q
      · exact Or.inl q
      · exact Or.inr ⟨q.1, List.mem_append_left _ q.2⟩
    · exact Or.inr ⟨by omega, List.mem_append_right _ q.2⟩
  · rcases List.mem_append.mp q with q | q
    · obtain ⟨a, i, q⟩ := h.2.2.2.2 v q
      exact ⟨a, i, u2 a i v q⟩
    · exact k2 v q
/-- the end's own cell, or its array, is written -/
theorem en_P.put {D : va_G} {tm a lk z : Nat} {M M' : hm_M} {F F' : Nat → Prop} {T T' : Nat → Nat → Nat → Prop} {G : Nat → Prop} {n c se dr' : Nat} {vs : List Nat} {e : va_E} (h : en_P D tm M F T G n c se dr' vs a lk M' F' T') (hz : z = a ∨ z = lk) (hF : ¬ F' z) : en_P D tm M F T G n c se dr' vs a lk (hm_up M' z e) F' T' := by
  refine ⟨h.1.put hF e, ⟨fun y hy hm => ?_, h.2.1.2⟩, h.2.2⟩
  rw [hm_up_n _ _ (fun q => hy (Or.inr (by rw [q]; exact hz)))]
  exact h.2.1.1 y hy hm
theorem en_P.rf {D : va_G} {tm a lk : Nat} {M : hm_M} {F : Nat → Prop} {T : Nat → Nat → Nat → Prop} {G : Nat → Prop} {dr n c se : Nat} (h : ts_S D M tm F T G dr n c se) : en_P D tm M F T G n c se dr [] a lk M F T := ⟨h, hm_step.rf _ _, fun _ _ _ h => h, fun _ _ _ h => Or.inl h, fun v h => by cases h⟩
/-- a new cell, nobody's -/
theorem en_P.new {D : va_G} {tm a lk z : Nat} {M M' : hm_M} {F F' : Nat → Prop} {T T' : Nat → Nat → Nat → Prop} {G : Nat → Prop} {n c se dr' : Nat} {vs : List Nat} {e : va_E} (h : en_P D tm M F T G n c se dr' vs a lk M' F' T') (hz : M' z = none) : en_P D tm M F T G n c se dr' vs a lk (hm_up M' z e) F' T' := by
  refine ⟨h.1.put (fun q => ts_S_some h.1 q hz) e, ⟨fun y hy hm => ?_, h.2.1.2⟩, h.2.2⟩
  have h9 := h.2.1.1 y hy hm
  rw [hm_up_n _ _ (fun q => hm (by rw [← h9, q]; exact hz))]
  exact h9
/-- one more LEFT key -/
def lv_ad (lf : List (Nat × Nat × Nat)) (q : Nat × Nat × Nat) : List (Nat × Nat × Nat) := (if lf.length = 8 then lf.drop 1 else lf) ++ [q]
def sk_v (rc : Nat) : Nat → List Nat
  | 0 => []
  | d + 1 => sm_t 6 rc 0 :: sm_t 7 rc 0 :: sk_v (sm_t 7 rc 0) d
def sk_r (rc : Nat) : Nat → Nat
  | 0 => rc
  | d + 1 => sk_r (sm_t 7 rc 0) d
def sk_f (th rc nx : Nat) (lf : List (Nat × Nat × Nat)) : Nat → List (Nat × Nat × Nat)
  | 0 => lf
  | d + 1 => sk_f th (sm_t 7 rc 0) (nx + 1) (lv_ad lf (th, nx, sm_t 6 rc 0)) d
theorem lv_ad_len (lf : List (Nat × Nat × Nat)) (q : Nat × Nat × Nat) (h : lf.length ≤ 8) : (lv_ad lf q).length = (if lf.length = 8 then 7 else lf.length) + 1 := by
  unfold lv_ad
  rw [List.length_append]
  by_cases c : lf.length = 8
  · rw [if_pos c, if_pos c, List.length_drop, c]; rfl
  · rw [if_neg c, if_neg c]; rfl
theorem en_L.ad {D : va_G} {M M' : hm_M} {F : Nat → Prop} {T : Nat → Nat → Nat → Prop} {lk b : Nat} {f : Nat → Option Nat} {lf : List (Nat × Nat × Nat)} {pk ky : Option Nat} {q : Nat × Nat × Nat} (h : en_L D M F T lk f lf) (hq : q.2.1 < 2 ^ 30) (hb : hm_ow M F b (hm_ob 4 [va_rf pk, .int (nI q.2.1), va_rf ky])) (h1 : ts_o T pk q.1) (h2 : ts_o T ky q.2.2) (hl : M' lk = some (hm_ar D 2 8 (va_up (fun i => f (if lf.length = 8 then i + 1 else i)) (if lf.length = 8 then 7 else lf.length) (some b)))) (ho : ∀ z vs, M z = some (hm_ob 4 vs) → M' z = M z) : en_L D M' F T lk (va_up (fun i => f (if lf.length = 8 then i + 1 else i)) (if lf.length = 8 then 7 else lf.length) (some b)) (lv_ad lf q) := by
  obtain ⟨a1, a2, a3, a4⟩ := h
  have hlen := lv_ad_len lf q a2
  refine ⟨⟨hl, a1.2⟩, by rw [hlen]; split <;> omega, fun i z hz => ?_, fun i hi => ?_⟩
  · have hi : i < (lv_ad lf q).length := (List.getElem?_eq_some_iff.mp hz).1
    rw [hlen] at hi
    by_cases e : i = (if lf.length = 8 then 7 else lf.length)
    · have hzq : z = q := by
        unfold lv_ad at hz
        have hl9 : (if lf.length = 8 then lf.drop 1 else lf).length = i := by
          rw [e]
          by_cases c : lf.length = 8
          · rw [if_pos c, if_pos c, List.length_drop, c]
          · rw [if_neg c, if_neg c]
        rw [List.getElem?_append_right (by omega), hl9, Nat.sub_self] at hz
        exact (Option.some.inj hz).symm
      subst hzq
      refine ⟨hq, b, pk, ky, by rw [e, va_up_self], ⟨by rw [ho b _ hb.1]; exact hb.1, hb.2⟩, h1, h2⟩
    · have hz2 : lf[if lf.length = 8 then i + 1 else i]? = some z := by
        unfold lv_ad at hz
        have hl9 : i < (if lf.length = 8 then lf.drop 1 else lf).length := by
          by_cases c : lf.length = 8
          · rw [if_pos c, List.length_drop, c]
            rw [if_pos c] at hi e
            omega
          · rw [if_neg c]
            rw [if_neg c] at hi e
            omega
        rw [List.getElem?_append_left hl9] at hz
        by_cases c : lf.length = 8
        · rw [if_pos c] at hz ⊢
          rw [List.getElem?_drop, Nat.add_comm] at hz
          exact hz
        · rw [if_neg c] at hz ⊢
          exact hz
      obtain ⟨h5, b', pk', ky', e1, e2, e3, e4⟩ := a3 _ z hz2
      exact ⟨h5, b', pk', ky', by rw [va_up_ne _ _ e]; exact e1, ⟨by rw [ho b' _ e2.1]; exact e2.1, e2.2⟩, e3, e4⟩
  · rw [hlen] at hi
    rw [va_up_ne _ _ (by omega)]
    refine a4 _ ?_
    by_cases c : lf.length = 8
    · rw [if_pos c] at hi ⊢; omega
    · rw [if_neg c] at hi ⊢; omega
theorem sk_r_ne : ∀ (d rc : Nat), rc ≠ 0 → sk_r rc d ≠ 0
  | 0, rc, h => h
  | d + 1, rc, _ => sk_r_ne d _ (sm_t_ne _ _ _)
theorem sk_f_len : ∀ (d th rc nx : Nat) (lf : List (Nat × Nat × Nat)), lf.length ≤ 8 → (sk_f th rc nx lf d).length ≤ 8
  | 0, th, rc, nx, lf, h => h
  | d + 1, th, rc, nx, lf, h => sk_f_len d th _ _ _ (by rw [lv_ad_len _ _ h]; split <;> omega)
