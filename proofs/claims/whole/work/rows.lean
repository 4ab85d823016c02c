section
-- ===== PART A: goes FIRST, ahead of the names: the tables' words, and 'selects' of the private methods out of them =====
/-- a private method of a class that the tables say can be made, by its rows of tables_1 -/
def lw_okq (q : MethodName × Nat) : Prop := (q.1.cls ≠ "java/lang/invoke/MethodHandle" ∧ q.1.cls ≠ "java/lang/invoke/VarHandle") ∧ Cond.instantiable q.1.cls q.2 ∈ tables_1 ∧ Cond.privateMethod q.1 ∈ tables_1 ∧ Cond.instanceMethod q.1 ∈ tables_1
theorem lw_p0 : lw_okq (⟨"TurnedKeys$Terms", "added", "(ILTurnedKeys$Term;LTurnedKeys$Term;LTurnedKeys$Term;)LTurnedKeys$Term;"⟩, 3) := ⟨⟨by decide +kernel, by decide +kernel⟩, List.mem_of_getElem? (i := 26) (by decide +kernel), List.mem_of_getElem? (i := 73) (by decide +kernel), List.mem_of_getElem? (i := 74) (by decide +kernel)⟩
theorem lw_p1 : lw_okq (⟨"java/util/ArrayList", "add", "(Ljava/lang/Object;[Ljava/lang/Object;I)V"⟩, 3) := ⟨⟨by decide +kernel, by decide +kernel⟩, List.mem_of_getElem? (i := 32) (by decide +kernel), List.mem_of_getElem? (i := 121) (by decide +kernel), List.mem_of_getElem? (i := 122) (by decide +kernel)⟩
theorem lw_p2 : lw_okq (⟨"java/util/ArrayList", "grow", "()[Ljava/lang/Object;"⟩, 3) := ⟨⟨by decide +kernel, by decide +kernel⟩, List.mem_of_getElem? (i := 32) (by decide +kernel), List.mem_of_getElem? (i := 125) (by decide +kernel), List.mem_of_getElem? (i := 126) (by decide +kernel)⟩
theorem lw_p3 : lw_okq (⟨"java/util/ArrayList", "grow", "(I)[Ljava/lang/Object;"⟩, 3) := ⟨⟨by decide +kernel, by decide +kernel⟩, List.mem_of_getElem? (i := 32) (by decide +kernel), List.mem_of_getElem? (i := 129) (by decide +kernel), List.mem_of_getElem? (i := 130) (by decide +kernel)⟩
theorem lw_p4 : lw_okq (⟨"TurnedKeys", "mayMakeMore", "()Z"⟩, 6) := ⟨⟨by decide +kernel, by decide +kernel⟩, List.mem_of_getElem? (i := 18) (by decide +kernel), List.mem_of_getElem? (i := 281) (by decide +kernel), List.mem_of_getElem? (i := 282) (by decide +kernel)⟩
theorem lw_p5 : lw_okq (⟨"TurnedKeys", "giveWire", "(LTurnedKeys$Wire;LTurnedKeys$Term;)V"⟩, 6) := ⟨⟨by decide +kernel, by decide +kernel⟩, List.mem_of_getElem? (i := 18) (by decide +kernel), List.mem_of_getElem? (i := 330) (by decide +kernel), List.mem_of_getElem? (i := 331) (by decide +kernel)⟩
theorem lw_p6 : lw_okq (⟨"TurnedKeys", "wireAt", "(I)LTurnedKeys$Wire;"⟩, 6) := ⟨⟨by decide +kernel, by decide +kernel⟩, List.mem_of_getElem? (i := 18) (by decide +kernel), List.mem_of_getElem? (i := 344) (by decide +kernel), List.mem_of_getElem? (i := 345) (by decide +kernel)⟩
theorem lw_p7 : lw_okq (⟨"TurnedKeys$End", "pulledLeftKey", "(LTurnedKeys$Term;I)LTurnedKeys$Term;"⟩, 11) := ⟨⟨by decide +kernel, by decide +kernel⟩, List.mem_of_getElem? (i := 188) (by decide +kernel), List.mem_of_getElem? (i := 368) (by decide +kernel), List.mem_of_getElem? (i := 369) (by decide +kernel)⟩
theorem lw_p8 : lw_okq (⟨"TurnedKeys$End", "dropLeftKey", "(I)V"⟩, 11) := ⟨⟨by decide +kernel, by decide +kernel⟩, List.mem_of_getElem? (i := 188) (by decide +kernel), List.mem_of_getElem? (i := 372) (by decide +kernel), List.mem_of_getElem? (i := 373) (by decide +kernel)⟩
theorem lw_p9 : lw_okq (⟨"TurnedKeys$End", "skipsTo", "(ILTurnedKeys$Terms;)Z"⟩, 11) := ⟨⟨by decide +kernel, by decide +kernel⟩, List.mem_of_getElem? (i := 188) (by decide +kernel), List.mem_of_getElem? (i := 376) (by decide +kernel), List.mem_of_getElem? (i := 377) (by decide +kernel)⟩
theorem lw_p10 : lw_okq (⟨"TurnedKeys$End", "steppedKey", "(LTurnedKeys$Terms;)LTurnedKeys$Term;"⟩, 11) := ⟨⟨by decide +kernel, by decide +kernel⟩, List.mem_of_getElem? (i := 188) (by decide +kernel), List.mem_of_getElem? (i := 381) (by decide +kernel), List.mem_of_getElem? (i := 382) (by decide +kernel)⟩
theorem lw_p11 : lw_okq (⟨"TurnedKeys$End", "leave", "(LTurnedKeys$LeftKey;)V"⟩, 11) := ⟨⟨by decide +kernel, by decide +kernel⟩, List.mem_of_getElem? (i := 188) (by decide +kernel), List.mem_of_getElem? (i := 404) (by decide +kernel), List.mem_of_getElem? (i := 405) (by decide +kernel)⟩
theorem lw_p12 : lw_okq (⟨"TurnedKeys$End", "turnReceiving", "(LTurnedKeys$Term;LTurnedKeys$Terms;)V"⟩, 11) := ⟨⟨by decide +kernel, by decide +kernel⟩, List.mem_of_getElem? (i := 188) (by decide +kernel), List.mem_of_getElem? (i := 408) (by decide +kernel), List.mem_of_getElem? (i := 409) (by decide +kernel)⟩
theorem lw_p13 : lw_okq (⟨"TurnedKeys$Terms", "settle", "()V"⟩, 3) := ⟨⟨by decide +kernel, by decide +kernel⟩, List.mem_of_getElem? (i := 26) (by decide +kernel), List.mem_of_getElem? (i := 424) (by decide +kernel), List.mem_of_getElem? (i := 425) (by decide +kernel)⟩
theorem lw_p14 : lw_okq (⟨"TurnedKeysModel", "draw", "()I"⟩, 23) := ⟨⟨by decide +kernel, by decide +kernel⟩, List.mem_of_getElem? (i := 470) (by decide +kernel), List.mem_of_getElem? (i := 477) (by decide +kernel), List.mem_of_getElem? (i := 478) (by decide +kernel)⟩
theorem lw_p15 : lw_okq (⟨"TurnedKeysModel", "term", "(IIII)I"⟩, 23) := ⟨⟨by decide +kernel, by decide +kernel⟩, List.mem_of_getElem? (i := 470) (by decide +kernel), List.mem_of_getElem? (i := 481) (by decide +kernel), List.mem_of_getElem? (i := 482) (by decide +kernel)⟩
def lw_privs_1 : List (MethodName × Nat) := [(⟨"TurnedKeys$Terms", "added", "(ILTurnedKeys$Term;LTurnedKeys$Term;LTurnedKeys$Term;)LTurnedKeys$Term;"⟩, 3), (⟨"java/util/ArrayList", "add", "(Ljava/lang/Object;[Ljava/lang/Object;I)V"⟩, 3), (⟨"java/util/ArrayList", "grow", "()[Ljava/lang/Object;"⟩, 3), (⟨"java/util/ArrayList", "grow", "(I)[Ljava/lang/Object;"⟩, 3), (⟨"TurnedKeys", "mayMakeMore", "()Z"⟩, 6), (⟨"TurnedKeys", "giveWire", "(LTurnedKeys$Wire;LTurnedKeys$Term;)V"⟩, 6), (⟨"TurnedKeys", "wireAt", "(I)LTurnedKeys$Wire;"⟩, 6), (⟨"TurnedKeys$End", "pulledLeftKey", "(LTurnedKeys$Term;I)LTurnedKeys$Term;"⟩, 11), (⟨"TurnedKeys$End", "dropLeftKey", "(I)V"⟩, 11), (⟨"TurnedKeys$End", "skipsTo", "(ILTurnedKeys$Terms;)Z"⟩, 11), (⟨"TurnedKeys$End", "steppedKey", "(LTurnedKeys$Terms;)LTurnedKeys$Term;"⟩, 11), (⟨"TurnedKeys$End", "leave", "(LTurnedKeys$LeftKey;)V"⟩, 11), (⟨"TurnedKeys$End", "turnReceiving", "(LTurnedKeys$Term;LTurnedKeys$Terms;)V"⟩, 11), (⟨"TurnedKeys$Terms", "settle", "()V"⟩, 3), (⟨"TurnedKeysModel", "draw", "()I"⟩, 23), (⟨"TurnedKeysModel", "term", "(IIII)I"⟩, 23)]
theorem lw_r1 : ∀ q ∈ lw_privs_1, lw_okq q := List.forall_mem_cons.mpr ⟨lw_p0, List.forall_mem_cons.mpr ⟨lw_p1, List.forall_mem_cons.mpr ⟨lw_p2, List.forall_mem_cons.mpr ⟨lw_p3, List.forall_mem_cons.mpr ⟨lw_p4, List.forall_mem_cons.mpr ⟨lw_p5, List.forall_mem_cons.mpr ⟨lw_p6, List.forall_mem_cons.mpr ⟨lw_p7, List.forall_mem_cons.mpr ⟨lw_p8, List.forall_mem_cons.mpr ⟨lw_p9, List.forall_mem_cons.mpr ⟨lw_p10, List.forall_mem_cons.mpr ⟨lw_p11, List.forall_mem_cons.mpr ⟨lw_p12, List.forall_mem_cons.mpr ⟨lw_p13, List.forall_mem_cons.mpr ⟨lw_p14, List.forall_mem_cons.mpr ⟨lw_p15, fun _ h => absurd h List.not_mem_nil⟩⟩⟩⟩⟩⟩⟩⟩⟩⟩⟩⟩⟩⟩⟩⟩
theorem lw_p16 : lw_okq (⟨"TurnedKeysModel", "publicOf", "(I)I"⟩, 23) := ⟨⟨by decide +kernel, by decide +kernel⟩, List.mem_of_getElem? (i := 470) (by decide +kernel), List.mem_of_getElem? (i := 489) (by decide +kernel), List.mem_of_getElem? (i := 490) (by decide +kernel)⟩
theorem lw_p17 : lw_okq (⟨"TurnedKeysModel", "shared", "(II)I"⟩, 23) := ⟨⟨by decide +kernel, by decide +kernel⟩, List.mem_of_getElem? (i := 470) (by decide +kernel), List.mem_of_getElem? (i := 493) (by decide +kernel), List.mem_of_getElem? (i := 494) (by decide +kernel)⟩
theorem lw_p18 : lw_okq (⟨"TurnedKeysModel", "mix", "(III)I"⟩, 23) := ⟨⟨by decide +kernel, by decide +kernel⟩, List.mem_of_getElem? (i := 470) (by decide +kernel), List.mem_of_getElem? (i := 497) (by decide +kernel), List.mem_of_getElem? (i := 498) (by decide +kernel)⟩
theorem lw_p19 : lw_okq (⟨"TurnedKeysModel", "load", "(I)V"⟩, 23) := ⟨⟨by decide +kernel, by decide +kernel⟩, List.mem_of_getElem? (i := 470) (by decide +kernel), List.mem_of_getElem? (i := 581) (by decide +kernel), List.mem_of_getElem? (i := 582) (by decide +kernel)⟩
theorem lw_p20 : lw_okq (⟨"TurnedKeysModel", "headLike", "(I)I"⟩, 23) := ⟨⟨by decide +kernel, by decide +kernel⟩, List.mem_of_getElem? (i := 470) (by decide +kernel), List.mem_of_getElem? (i := 585) (by decide +kernel), List.mem_of_getElem? (i := 586) (by decide +kernel)⟩
theorem lw_p21 : lw_okq (⟨"TurnedKeysModel", "give", "(I)V"⟩, 23) := ⟨⟨by decide +kernel, by decide +kernel⟩, List.mem_of_getElem? (i := 470) (by decide +kernel), List.mem_of_getElem? (i := 589) (by decide +kernel), List.mem_of_getElem? (i := 590) (by decide +kernel)⟩
theorem lw_p22 : lw_okq (⟨"TurnedKeysModel", "store", "(I)V"⟩, 23) := ⟨⟨by decide +kernel, by decide +kernel⟩, List.mem_of_getElem? (i := 470) (by decide +kernel), List.mem_of_getElem? (i := 593) (by decide +kernel), List.mem_of_getElem? (i := 594) (by decide +kernel)⟩
theorem lw_p23 : lw_okq (⟨"TurnedKeysModel", "keyFor", "(III)I"⟩, 23) := ⟨⟨by decide +kernel, by decide +kernel⟩, List.mem_of_getElem? (i := 470) (by decide +kernel), List.mem_of_getElem? (i := 601) (by decide +kernel), List.mem_of_getElem? (i := 602) (by decide +kernel)⟩
theorem lw_p24 : lw_okq (⟨"TurnedKeysModel", "dropLeft", "(I)V"⟩, 23) := ⟨⟨by decide +kernel, by decide +kernel⟩, List.mem_of_getElem? (i := 470) (by decide +kernel), List.mem_of_getElem? (i := 605) (by decide +kernel), List.mem_of_getElem? (i := 606) (by decide +kernel)⟩
theorem lw_p25 : lw_okq (⟨"TurnedKeysModel", "skip", "(I)Z"⟩, 23) := ⟨⟨by decide +kernel, by decide +kernel⟩, List.mem_of_getElem? (i := 470) (by decide +kernel), List.mem_of_getElem? (i := 609) (by decide +kernel), List.mem_of_getElem? (i := 610) (by decide +kernel)⟩
theorem lw_p26 : lw_okq (⟨"TurnedKeysModel", "stepOn", "()V"⟩, 23) := ⟨⟨by decide +kernel, by decide +kernel⟩, List.mem_of_getElem? (i := 470) (by decide +kernel), List.mem_of_getElem? (i := 613) (by decide +kernel), List.mem_of_getElem? (i := 614) (by decide +kernel)⟩
theorem lw_p27 : lw_okq (⟨"TurnedKeysModel", "shown", "(I)V"⟩, 23) := ⟨⟨by decide +kernel, by decide +kernel⟩, List.mem_of_getElem? (i := 470) (by decide +kernel), List.mem_of_getElem? (i := 621) (by decide +kernel), List.mem_of_getElem? (i := 622) (by decide +kernel)⟩
theorem lw_p28 : lw_okq (⟨"TurnedKeysModel", "derive", "()V"⟩, 23) := ⟨⟨by decide +kernel, by decide +kernel⟩, List.mem_of_getElem? (i := 470) (by decide +kernel), List.mem_of_getElem? (i := 629) (by decide +kernel), List.mem_of_getElem? (i := 630) (by decide +kernel)⟩
theorem lw_p29 : lw_okq (⟨"TurnedKeysModel", "canMake", "(I)Z"⟩, 23) := ⟨⟨by decide +kernel, by decide +kernel⟩, List.mem_of_getElem? (i := 470) (by decide +kernel), List.mem_of_getElem? (i := 633) (by decide +kernel), List.mem_of_getElem? (i := 634) (by decide +kernel)⟩
theorem lw_p30 : lw_okq (⟨"TurnedKeysModel", "shows", "(I)Z"⟩, 23) := ⟨⟨by decide +kernel, by decide +kernel⟩, List.mem_of_getElem? (i := 470) (by decide +kernel), List.mem_of_getElem? (i := 637) (by decide +kernel), List.mem_of_getElem? (i := 638) (by decide +kernel)⟩
theorem lw_p31 : lw_okq (⟨"TurnedKeysModel", "has", "(I)Z"⟩, 23) := ⟨⟨by decide +kernel, by decide +kernel⟩, List.mem_of_getElem? (i := 470) (by decide +kernel), List.mem_of_getElem? (i := 641) (by decide +kernel), List.mem_of_getElem? (i := 642) (by decide +kernel)⟩
def lw_privs_2 : List (MethodName × Nat) := [(⟨"TurnedKeysModel", "publicOf", "(I)I"⟩, 23), (⟨"TurnedKeysModel", "shared", "(II)I"⟩, 23), (⟨"TurnedKeysModel", "mix", "(III)I"⟩, 23), (⟨"TurnedKeysModel", "load", "(I)V"⟩, 23), (⟨"TurnedKeysModel", "headLike", "(I)I"⟩, 23), (⟨"TurnedKeysModel", "give", "(I)V"⟩, 23), (⟨"TurnedKeysModel", "store", "(I)V"⟩, 23), (⟨"TurnedKeysModel", "keyFor", "(III)I"⟩, 23), (⟨"TurnedKeysModel", "dropLeft", "(I)V"⟩, 23), (⟨"TurnedKeysModel", "skip", "(I)Z"⟩, 23), (⟨"TurnedKeysModel", "stepOn", "()V"⟩, 23), (⟨"TurnedKeysModel", "shown", "(I)V"⟩, 23), (⟨"TurnedKeysModel", "derive", "()V"⟩, 23), (⟨"TurnedKeysModel", "canMake", "(I)Z"⟩, 23), (⟨"TurnedKeysModel", "shows", "(I)Z"⟩, 23), (⟨"TurnedKeysModel", "has", "(I)Z"⟩, 23)]
theorem lw_r2 : ∀ q ∈ lw_privs_2, lw_okq q := List.forall_mem_cons.mpr ⟨lw_p16, List.forall_mem_cons.mpr ⟨lw_p17, List.forall_mem_cons.mpr ⟨lw_p18, List.forall_mem_cons.mpr ⟨lw_p19, List.forall_mem_cons.mpr ⟨lw_p20, List.forall_mem_cons.mpr ⟨lw_p21, List.forall_mem_cons.mpr ⟨lw_p22, List.forall_mem_cons.mpr ⟨lw_p23, List.forall_mem_cons.mpr ⟨lw_p24, List.forall_mem_cons.mpr ⟨lw_p25, List.forall_mem_cons.mpr ⟨lw_p26, List.forall_mem_cons.mpr ⟨lw_p27, List.forall_mem_cons.mpr ⟨lw_p28, List.forall_mem_cons.mpr ⟨lw_p29, List.forall_mem_cons.mpr ⟨lw_p30, List.forall_mem_cons.mpr ⟨lw_p31, fun _ h => absurd h List.not_mem_nil⟩⟩⟩⟩⟩⟩⟩⟩⟩⟩⟩⟩⟩⟩⟩⟩
theorem lw_p32 : lw_okq (⟨"TurnedKeysModel", "learn", "(I)Z"⟩, 23) := ⟨⟨by decide +kernel, by decide +kernel⟩, List.mem_of_getElem? (i := 470) (by decide +kernel), List.mem_of_getElem? (i := 645) (by decide +kernel), List.mem_of_getElem? (i := 646) (by decide +kernel)⟩
theorem lw_p33 : lw_okq (⟨"TurnedKeysModel", "open", "(I)Z"⟩, 23) := ⟨⟨by decide +kernel, by decide +kernel⟩, List.mem_of_getElem? (i := 470) (by decide +kernel), List.mem_of_getElem? (i := 649) (by decide +kernel), List.mem_of_getElem? (i := 650) (by decide +kernel)⟩
def lw_privs_3 : List (MethodName × Nat) := [(⟨"TurnedKeysModel", "learn", "(I)Z"⟩, 23), (⟨"TurnedKeysModel", "open", "(I)Z"⟩, 23)]
theorem lw_r3 : ∀ q ∈ lw_privs_3, lw_okq q := List.forall_mem_cons.mpr ⟨lw_p32, List.forall_mem_cons.mpr ⟨lw_p33, fun _ h => absurd h List.not_mem_nil⟩⟩
def lw_privs : List (MethodName × Nat) := lw_privs_1 ++ (lw_privs_2 ++ (lw_privs_3))
def lw_tbl : List Cond := k2_sels lw_privs ++ tables_1
theorem lw_privs_ok : ∀ q ∈ lw_privs, lw_okq q := by
  show ∀ q ∈ lw_privs_1 ++ (lw_privs_2 ++ (lw_privs_3)), lw_okq q
  exact List.forall_mem_append.mpr ⟨lw_r1, List.forall_mem_append.mpr ⟨lw_r2, lw_r3⟩⟩
end
section
/-! NAMES, by program (wip/whole/names.py): classes, fields, methods -/
def nR_AL : String := "java/util/ArrayList"
def nT_AL : u_T := fun k => match k with
  | 0 => ("java/util/ArrayList", "elementData", "[Ljava/lang/Object;", false)
  | 1 => ("java/util/ArrayList", "size", "I", false)
  | _ => ("java/util/AbstractList", "modCount", "I", false)
def nY_AL : Nat → FieldType := fun k => match k with
  | 0 => .array (.object "java/lang/Object")
  | 1 => .int
  | _ => .int
theorem nN_AL : ∀ a, a < 3 → ∀ b, b < 3 → a ≠ b → (nT_AL a).2.1 ≠ (nT_AL b).2.1 := by decide +kernel
theorem nO_AL : ∀ k, k < 3 → parseFieldDescriptor (nT_AL k).2.2.1 = some (nY_AL k) := by decide +kernel
def nR_TS : String := "TurnedKeys$Terms"
def nT_TS : u_T := fun k => match k with
  | 0 => ("TurnedKeys$Terms", "all", "Ljava/util/ArrayList;", true)
  | 1 => ("TurnedKeys$Terms", "drawn", "I", false)
  | _ => ("TurnedKeys$Terms", "settled", "I", false)
def nY_TS : Nat → FieldType := fun k => match k with
  | 0 => .object "java/util/ArrayList"
  | 1 => .int
  | _ => .int
theorem nN_TS : ∀ a, a < 3 → ∀ b, b < 3 → a ≠ b → (nT_TS a).2.1 ≠ (nT_TS b).2.1 := by decide +kernel
theorem nO_TS : ∀ k, k < 3 → parseFieldDescriptor (nT_TS k).2.2.1 = some (nY_TS k) := by decide +kernel
def nR_TE : String := "TurnedKeys$Term"
def nT_TE : u_T := fun k => match k with
  | 0 => ("TurnedKeys$Term", "kind", "I", true)
  | 1 => ("TurnedKeys$Term", "place", "I", true)
  | 2 => ("TurnedKeys$Term", "left", "LTurnedKeys$Term;", true)
  | 3 => ("TurnedKeys$Term", "right", "LTurnedKeys$Term;", true)
  | 4 => ("TurnedKeys$Term", "earlierUser", "LTurnedKeys$Term;", true)
  | 5 => ("TurnedKeys$Term", "latestUser", "LTurnedKeys$Term;", false)
  | 6 => ("TurnedKeys$Term", "publicTerm", "LTurnedKeys$Term;", false)
  | _ => ("TurnedKeys$Term", "derived", "Z", false)
def nY_TE : Nat → FieldType := fun k => match k with
  | 0 => .int
  | 1 => .int
  | 2 => .object "TurnedKeys$Term"
  | 3 => .object "TurnedKeys$Term"
  | 4 => .object "TurnedKeys$Term"
  | 5 => .object "TurnedKeys$Term"
  | 6 => .object "TurnedKeys$Term"
  | _ => .boolean
theorem nN_TE : ∀ a, a < 8 → ∀ b, b < 8 → a ≠ b → (nT_TE a).2.1 ≠ (nT_TE b).2.1 := by decide +kernel
theorem nO_TE : ∀ k, k < 8 → parseFieldDescriptor (nT_TE k).2.2.1 = some (nY_TE k) := by decide +kernel
def nR_EN : String := "TurnedKeys$End"
def nT_EN : u_T := fun k => match k with
  | 0 => ("TurnedKeys$End", "base", "LTurnedKeys$Term;", false)
  | 1 => ("TurnedKeys$End", "root", "LTurnedKeys$Term;", false)
  | 2 => ("TurnedKeys$End", "mine", "LTurnedKeys$Term;", false)
  | 3 => ("TurnedKeys$End", "theirs", "LTurnedKeys$Term;", false)
  | 4 => ("TurnedKeys$End", "sendChain", "LTurnedKeys$Term;", false)
  | 5 => ("TurnedKeys$End", "sent", "I", false)
  | 6 => ("TurnedKeys$End", "before", "I", false)
  | 7 => ("TurnedKeys$End", "receiveChain", "LTurnedKeys$Term;", false)
  | 8 => ("TurnedKeys$End", "next", "I", false)
  | 9 => ("TurnedKeys$End", "leftKeys", "[LTurnedKeys$LeftKey;", true)
  | _ => ("TurnedKeys$End", "left", "I", false)
def nY_EN : Nat → FieldType := fun k => match k with
  | 0 => .object "TurnedKeys$Term"
  | 1 => .object "TurnedKeys$Term"
  | 2 => .object "TurnedKeys$Term"
  | 3 => .object "TurnedKeys$Term"
  | 4 => .object "TurnedKeys$Term"
  | 5 => .int
  | 6 => .int
  | 7 => .object "TurnedKeys$Term"
  | 8 => .int
  | 9 => .array (.object "TurnedKeys$LeftKey")
  | _ => .int
theorem nN_EN : ∀ a, a < 11 → ∀ b, b < 11 → a ≠ b → (nT_EN a).2.1 ≠ (nT_EN b).2.1 := by decide +kernel
theorem nO_EN : ∀ k, k < 11 → parseFieldDescriptor (nT_EN k).2.2.1 = some (nY_EN k) := by decide +kernel
def nR_LK : String := "TurnedKeys$LeftKey"
def nT_LK : u_T := fun k => match k with
  | 0 => ("TurnedKeys$LeftKey", "publicKey", "LTurnedKeys$Term;", true)
  | 1 => ("TurnedKeys$LeftKey", "index", "I", true)
  | _ => ("TurnedKeys$LeftKey", "key", "LTurnedKeys$Term;", true)
def nY_LK : Nat → FieldType := fun k => match k with
  | 0 => .object "TurnedKeys$Term"
  | 1 => .int
  | _ => .object "TurnedKeys$Term"
theorem nN_LK : ∀ a, a < 3 → ∀ b, b < 3 → a ≠ b → (nT_LK a).2.1 ≠ (nT_LK b).2.1 := by decide +kernel
theorem nO_LK : ∀ k, k < 3 → parseFieldDescriptor (nT_LK k).2.2.1 = some (nY_LK k) := by decide +kernel
def nR_WI : String := "TurnedKeys$Wire"
def nT_WI : u_T := fun k => match k with
  | 0 => ("TurnedKeys$Wire", "sender", "I", true)
  | 1 => ("TurnedKeys$Wire", "index", "I", true)
  | 2 => ("TurnedKeys$Wire", "before", "I", true)
  | 3 => ("TurnedKeys$Wire", "publicKey", "LTurnedKeys$Term;", true)
  | 4 => ("TurnedKeys$Wire", "key", "LTurnedKeys$Term;", true)
  | _ => ("TurnedKeys$Wire", "letter", "LTurnedKeys$Term;", true)
def nY_WI : Nat → FieldType := fun k => match k with
  | 0 => .int
  | 1 => .int
  | 2 => .int
  | 3 => .object "TurnedKeys$Term"
  | 4 => .object "TurnedKeys$Term"
  | _ => .object "TurnedKeys$Term"
theorem nN_WI : ∀ a, a < 6 → ∀ b, b < 6 → a ≠ b → (nT_WI a).2.1 ≠ (nT_WI b).2.1 := by decide +kernel
theorem nO_WI : ∀ k, k < 6 → parseFieldDescriptor (nT_WI k).2.2.1 = some (nY_WI k) := by decide +kernel
def nR_TK : String := "TurnedKeys"
def nT_TK : u_T := fun k => match k with
  | 0 => ("TurnedKeys", "terms", "LTurnedKeys$Terms;", true)
  | 1 => ("TurnedKeys", "ends", "[LTurnedKeys$End;", true)
  | 2 => ("TurnedKeys", "kept", "[LTurnedKeys$End;", true)
  | 3 => ("TurnedKeys", "trial", "LTurnedKeys$End;", true)
  | 4 => ("TurnedKeys", "wires", "Ljava/util/ArrayList;", true)
  | _ => ("TurnedKeys", "makingCalls", "I", false)
def nY_TK : Nat → FieldType := fun k => match k with
  | 0 => .object "TurnedKeys$Terms"
  | 1 => .array (.object "TurnedKeys$End")
  | 2 => .array (.object "TurnedKeys$End")
  | 3 => .object "TurnedKeys$End"
  | 4 => .object "java/util/ArrayList"
  | _ => .int
theorem nN_TK : ∀ a, a < 6 → ∀ b, b < 6 → a ≠ b → (nT_TK a).2.1 ≠ (nT_TK b).2.1 := by decide +kernel
theorem nO_TK : ∀ k, k < 6 → parseFieldDescriptor (nT_TK k).2.2.1 = some (nY_TK k) := by decide +kernel
def nR_MO : String := "TurnedKeysModel"
def nT_MO : u_T := fun k => match k with
  | 0 => ("TurnedKeysModel", "terms", "I", false)
  | 1 => ("TurnedKeysModel", "sort", "[B", true)
  | 2 => ("TurnedKeysModel", "one", "[I", true)
  | 3 => ("TurnedKeysModel", "two", "[I", true)
  | 4 => ("TurnedKeysModel", "three", "[I", true)
  | 5 => ("TurnedKeysModel", "given", "[Z", true)
  | 6 => ("TurnedKeysModel", "known", "[Z", true)
  | 7 => ("TurnedKeysModel", "table", "[I", true)
  | 8 => ("TurnedKeysModel", "isOld", "Z", false)
  | 9 => ("TurnedKeysModel", "drawn", "I", false)
  | 10 => ("TurnedKeysModel", "heads", "I", false)
  | 11 => ("TurnedKeysModel", "headN", "[I", true)
  | 12 => ("TurnedKeysModel", "headBefore", "[I", true)
  | 13 => ("TurnedKeysModel", "headEnd", "[I", true)
  | 14 => ("TurnedKeysModel", "headKey", "[I", true)
  | 15 => ("TurnedKeysModel", "wires", "I", false)
  | 16 => ("TurnedKeysModel", "wire", "[I", true)
  | 17 => ("TurnedKeysModel", "letter", "[I", true)
  | 18 => ("TurnedKeysModel", "base", "I", false)
  | 19 => ("TurnedKeysModel", "now", "[I", true)
  | 20 => ("TurnedKeysModel", "kept", "[I", true)
  | 21 => ("TurnedKeysModel", "hand", "[I", true)
  | _ => ("TurnedKeysModel", "looked", "I", false)
def nY_MO : Nat → FieldType := fun k => match k with
  | 0 => .int
  | 1 => .array (.byte)
  | 2 => .array (.int)
  | 3 => .array (.int)
  | 4 => .array (.int)
  | 5 => .array (.boolean)
  | 6 => .array (.boolean)
  | 7 => .array (.int)
  | 8 => .boolean
  | 9 => .int
  | 10 => .int
  | 11 => .array (.int)
  | 12 => .array (.int)
  | 13 => .array (.int)
  | 14 => .array (.int)
  | 15 => .int
  | 16 => .array (.int)
  | 17 => .array (.int)
  | 18 => .int
  | 19 => .array (.int)
  | 20 => .array (.int)
  | 21 => .array (.int)
  | _ => .int
theorem nN_MO : ∀ a, a < 23 → ∀ b, b < 23 → a ≠ b → (nT_MO a).2.1 ≠ (nT_MO b).2.1 := by decide +kernel
theorem nO_MO : ∀ k, k < 23 → parseFieldDescriptor (nT_MO k).2.2.1 = some (nY_MO k) := by decide +kernel
abbrev hm_cl : List vw_C := [(nR_AL, nT_AL, 3), (nR_TS, nT_TS, 3), (nR_TE, nT_TE, 8), (nR_EN, nT_EN, 11), (nR_LK, nT_LK, 3), (nR_WI, nT_WI, 6), (nR_TK, nT_TK, 6), (nR_MO, nT_MO, 23)]
abbrev hm_tys : List FieldType := [.object "java/lang/Object", .object "TurnedKeys$End", .object "TurnedKeys$LeftKey", .int, .byte, .boolean]
def ny_TK_init : MethodName := ⟨"TurnedKeys", "<init>", "()V"⟩
def ny_TS_init : MethodName := ⟨"TurnedKeys$Terms", "<init>", "()V"⟩
def ny_AL_init : MethodName := ⟨"java/util/ArrayList", "<init>", "()V"⟩
def ny_AB_init : MethodName := ⟨"java/util/AbstractList", "<init>", "()V"⟩
def ny_AC_init : MethodName := ⟨"java/util/AbstractCollection", "<init>", "()V"⟩
def ny_TS_draw : MethodName := ⟨"TurnedKeys$Terms", "draw", "()LTurnedKeys$Term;"⟩
def ny_TS_added : MethodName := ⟨"TurnedKeys$Terms", "added", "(ILTurnedKeys$Term;LTurnedKeys$Term;LTurnedKeys$Term;)LTurnedKeys$Term;"⟩
def ny_AL_size : MethodName := ⟨"java/util/ArrayList", "size", "()I"⟩
def ny_TE_init : MethodName := ⟨"TurnedKeys$Term", "<init>", "(IILTurnedKeys$Term;LTurnedKeys$Term;LTurnedKeys$Term;)V"⟩
def ny_AL_add : MethodName := ⟨"java/util/ArrayList", "add", "(Ljava/lang/Object;)Z"⟩
def ny_AL_add2 : MethodName := ⟨"java/util/ArrayList", "add", "(Ljava/lang/Object;[Ljava/lang/Object;I)V"⟩
def ny_AL_grow : MethodName := ⟨"java/util/ArrayList", "grow", "()[Ljava/lang/Object;"⟩
def ny_AL_grow2 : MethodName := ⟨"java/util/ArrayList", "grow", "(I)[Ljava/lang/Object;"⟩
def ny_AS_newLength : MethodName := ⟨"jdk/internal/util/ArraysSupport", "newLength", "(III)I"⟩
def ny_MA_max : MethodName := ⟨"java/lang/Math", "max", "(II)I"⟩
def ny_AS_hugeLength : MethodName := ⟨"jdk/internal/util/ArraysSupport", "hugeLength", "(II)I"⟩
def ny_AR_copyOf : MethodName := ⟨"java/util/Arrays", "copyOf", "([Ljava/lang/Object;I)[Ljava/lang/Object;"⟩
def ny_AR_copyOf2 : MethodName := ⟨"java/util/Arrays", "copyOf", "([Ljava/lang/Object;ILjava/lang/Class;)[Ljava/lang/Object;"⟩
def ny_MA_min : MethodName := ⟨"java/lang/Math", "min", "(II)I"⟩
def ny_TS_publicOf : MethodName := ⟨"TurnedKeys$Terms", "publicOf", "(LTurnedKeys$Term;)LTurnedKeys$Term;"⟩
def ny_TS_sharedOf : MethodName := ⟨"TurnedKeys$Terms", "sharedOf", "(LTurnedKeys$Term;LTurnedKeys$Term;)LTurnedKeys$Term;"⟩
def ny_TS_made : MethodName := ⟨"TurnedKeys$Terms", "made", "(ILTurnedKeys$Term;LTurnedKeys$Term;)LTurnedKeys$Term;"⟩
def ny_TS_younger : MethodName := ⟨"TurnedKeys$Terms", "younger", "(LTurnedKeys$Term;LTurnedKeys$Term;)LTurnedKeys$Term;"⟩
def ny_EN_init : MethodName := ⟨"TurnedKeys$End", "<init>", "(LTurnedKeys$Term;LTurnedKeys$Term;LTurnedKeys$Term;)V"⟩
def ny_EN_copied : MethodName := ⟨"TurnedKeys$End", "copied", "()LTurnedKeys$End;"⟩
def ny_EN_become : MethodName := ⟨"TurnedKeys$End", "become", "(LTurnedKeys$End;)V"⟩
def ny_TK_send : MethodName := ⟨"TurnedKeys", "send", "(I)I"⟩
def ny_TK_endAt : MethodName := ⟨"TurnedKeys", "endAt", "([LTurnedKeys$End;I)LTurnedKeys$End;"⟩
def ny_TK_mayMakeMore : MethodName := ⟨"TurnedKeys", "mayMakeMore", "()Z"⟩
def ny_EN_turnSending : MethodName := ⟨"TurnedKeys$End", "turnSending", "(LTurnedKeys$Terms;)V"⟩
def ny_EN_sealedWire : MethodName := ⟨"TurnedKeys$End", "sealedWire", "(ILTurnedKeys$Term;LTurnedKeys$Terms;)LTurnedKeys$Wire;"⟩
def ny_WI_init : MethodName := ⟨"TurnedKeys$Wire", "<init>", "(IIILTurnedKeys$Term;LTurnedKeys$Term;LTurnedKeys$Term;)V"⟩
def ny_TK_giveWire : MethodName := ⟨"TurnedKeys", "giveWire", "(LTurnedKeys$Wire;LTurnedKeys$Term;)V"⟩
def ny_TS_give : MethodName := ⟨"TurnedKeys$Terms", "give", "(LTurnedKeys$Term;)I"⟩
def ny_TK_take : MethodName := ⟨"TurnedKeys", "take", "(II)I"⟩
def ny_TK_wireAt : MethodName := ⟨"TurnedKeys", "wireAt", "(I)LTurnedKeys$Wire;"⟩
def ny_AL_get : MethodName := ⟨"java/util/ArrayList", "get", "(I)Ljava/lang/Object;"⟩
def ny_OB_checkIndex : MethodName := ⟨"java/util/Objects", "checkIndex", "(II)I"⟩
def ny_PR_checkIndex : MethodName := ⟨"jdk/internal/util/Preconditions", "checkIndex", "(IILjava/util/function/BiFunction;)I"⟩
def ny_AL_elementData : MethodName := ⟨"java/util/ArrayList", "elementData", "(I)Ljava/lang/Object;"⟩
def ny_EN_keyFor : MethodName := ⟨"TurnedKeys$End", "keyFor", "(LTurnedKeys$Wire;LTurnedKeys$Terms;)LTurnedKeys$Term;"⟩
def ny_EN_pulledLeftKey : MethodName := ⟨"TurnedKeys$End", "pulledLeftKey", "(LTurnedKeys$Term;I)LTurnedKeys$Term;"⟩
def ny_EN_dropLeftKey : MethodName := ⟨"TurnedKeys$End", "dropLeftKey", "(I)V"⟩
def ny_EN_skipsTo : MethodName := ⟨"TurnedKeys$End", "skipsTo", "(ILTurnedKeys$Terms;)Z"⟩
def ny_EN_steppedKey : MethodName := ⟨"TurnedKeys$End", "steppedKey", "(LTurnedKeys$Terms;)LTurnedKeys$Term;"⟩
def ny_LK_init : MethodName := ⟨"TurnedKeys$LeftKey", "<init>", "(LTurnedKeys$Term;ILTurnedKeys$Term;)V"⟩
def ny_EN_leave : MethodName := ⟨"TurnedKeys$End", "leave", "(LTurnedKeys$LeftKey;)V"⟩
def ny_EN_turnReceiving : MethodName := ⟨"TurnedKeys$End", "turnReceiving", "(LTurnedKeys$Term;LTurnedKeys$Terms;)V"⟩
def ny_TK_look : MethodName := ⟨"TurnedKeys", "look", "(I)I"⟩
def ny_TK_derived : MethodName := ⟨"TurnedKeys", "derived", "(I)I"⟩
def ny_TS_hasDerived : MethodName := ⟨"TurnedKeys$Terms", "hasDerived", "(LTurnedKeys$Term;)Z"⟩
def ny_TS_settle : MethodName := ⟨"TurnedKeys$Terms", "settle", "()V"⟩
def ny_TS_canBeMade : MethodName := ⟨"TurnedKeys$Terms", "canBeMade", "(LTurnedKeys$Term;)Z"⟩
def ny_TS_sharedByOne : MethodName := ⟨"TurnedKeys$Terms", "sharedByOne", "(LTurnedKeys$Term;LTurnedKeys$Term;)Z"⟩
def ny_TS_isDerived : MethodName := ⟨"TurnedKeys$Terms", "isDerived", "(LTurnedKeys$Term;)Z"⟩
def ny_TK_oneIf : MethodName := ⟨"TurnedKeys", "oneIf", "(Z)I"⟩
def ny_TK_opens : MethodName := ⟨"TurnedKeys", "opens", "(I)I"⟩
def ny_TK_back : MethodName := ⟨"TurnedKeys", "back", "(I)I"⟩
def ny_TK_replace : MethodName := ⟨"TurnedKeys", "replace", "(LTurnedKeys$End;LTurnedKeys$End;)I"⟩
def ny_TK_keep : MethodName := ⟨"TurnedKeys", "keep", "(I)I"⟩
def ny_TK_end : MethodName := ⟨"TurnedKeys", "end", "(II)I"⟩
def ny_TK_agree : MethodName := ⟨"TurnedKeys", "agree", "()I"⟩
def ny_TK_count : MethodName := ⟨"TurnedKeys", "count", "(I)I"⟩
def ny_MO_init : MethodName := ⟨"TurnedKeysModel", "<init>", "()V"⟩
def ny_MO_draw : MethodName := ⟨"TurnedKeysModel", "draw", "()I"⟩
def ny_MO_term : MethodName := ⟨"TurnedKeysModel", "term", "(IIII)I"⟩
def ny_MO_publicOf : MethodName := ⟨"TurnedKeysModel", "publicOf", "(I)I"⟩
def ny_MO_shared : MethodName := ⟨"TurnedKeysModel", "shared", "(II)I"⟩
def ny_MO_mix : MethodName := ⟨"TurnedKeysModel", "mix", "(III)I"⟩
def ny_MO_send : MethodName := ⟨"TurnedKeysModel", "send", "(I)I"⟩
def ny_MO_isEnd : MethodName := ⟨"TurnedKeysModel", "isEnd", "(I)Z"⟩
def ny_MO_load : MethodName := ⟨"TurnedKeysModel", "load", "(I)V"⟩
def ny_MO_headLike : MethodName := ⟨"TurnedKeysModel", "headLike", "(I)I"⟩
def ny_MO_give : MethodName := ⟨"TurnedKeysModel", "give", "(I)V"⟩
def ny_MO_store : MethodName := ⟨"TurnedKeysModel", "store", "(I)V"⟩
def ny_MO_take : MethodName := ⟨"TurnedKeysModel", "take", "(II)I"⟩
def ny_MO_keyFor : MethodName := ⟨"TurnedKeysModel", "keyFor", "(III)I"⟩
def ny_MO_dropLeft : MethodName := ⟨"TurnedKeysModel", "dropLeft", "(I)V"⟩
def ny_MO_skip : MethodName := ⟨"TurnedKeysModel", "skip", "(I)Z"⟩
def ny_MO_stepOn : MethodName := ⟨"TurnedKeysModel", "stepOn", "()V"⟩
def ny_MO_look : MethodName := ⟨"TurnedKeysModel", "look", "(I)I"⟩
def ny_MO_shown : MethodName := ⟨"TurnedKeysModel", "shown", "(I)V"⟩
def ny_MO_derived : MethodName := ⟨"TurnedKeysModel", "derived", "(I)I"⟩
def ny_MO_derive : MethodName := ⟨"TurnedKeysModel", "derive", "()V"⟩
def ny_MO_canMake : MethodName := ⟨"TurnedKeysModel", "canMake", "(I)Z"⟩
def ny_MO_shows : MethodName := ⟨"TurnedKeysModel", "shows", "(I)Z"⟩
def ny_MO_has : MethodName := ⟨"TurnedKeysModel", "has", "(I)Z"⟩
def ny_MO_learn : MethodName := ⟨"TurnedKeysModel", "learn", "(I)Z"⟩
def ny_MO_open : MethodName := ⟨"TurnedKeysModel", "open", "(I)Z"⟩
def ny_MO_opens : MethodName := ⟨"TurnedKeysModel", "opens", "(I)I"⟩
def ny_MO_back : MethodName := ⟨"TurnedKeysModel", "back", "(I)I"⟩
def ny_MO_keep : MethodName := ⟨"TurnedKeysModel", "keep", "(I)I"⟩
def ny_MO_end : MethodName := ⟨"TurnedKeysModel", "end", "(II)I"⟩
def ny_MO_agree : MethodName := ⟨"TurnedKeysModel", "agree", "()I"⟩
def ny_MO_count : MethodName := ⟨"TurnedKeysModel", "count", "(I)I"⟩
end
section
/-! THE LAYER OF HEAP MODELS. A model M says what the cells are that a method may reach (a partial map of addresses); a contract turns a model into a model. No frame is needed inside the class: a method gets all of it. -/
abbrev hm_M : Type := Nat → Option va_E
abbrev hm_ob (ci : Nat) (fs : List Value) : va_E := .inr (ci, fs)
/-- an array of references of kind t: its class is D.1 (100 + t) -/
abbrev hm_ar (D : va_G) (t N : Nat) (f : Nat → Option Nat) : va_E := .inl (D.1 (100 + t), N, .inr (.inr (.inr (.inr f))))
abbrev hm_ai (D : va_G) (t N : Nat) (f : Nat → Int32) : va_E := .inl (D.1 (100 + t), N, .inl f)
def hm_up (M : hm_M) (a : Nat) (e : va_E) : hm_M := fun q => if q = a then some e else M q
theorem hm_up_s (M : hm_M) (a : Nat) (e : va_E) : hm_up M a e a = some e := if_pos rfl
theorem hm_up_n (M : hm_M) {a b : Nat} (e : va_E) (h : b ≠ a) : hm_up M a e b = M b := if_neg h
theorem hm_up_eq {M : hm_M} {a b : Nat} {e : va_E} (h : b = a) : hm_up M a e b = some e := if_pos h
/-- cells of different classes are different cells -/
theorem hm_ne {M : hm_M} {a b ca cb : Nat} {fa fb : List Value} (ha : M a = some (hm_ob ca fa)) (hb : M b = some (hm_ob cb fb)) (h : ca ≠ cb) : a ≠ b := by
  intro e
  subst e
  rw [ha] at hb
  cases hb
  exact h rfl
theorem hm_neA {M : hm_M} {a b ca : Nat} {fa : List Value} {x : ClassId × vp_A} (ha : M a = some (hm_ob ca fa)) (hb : M b = some (.inl x)) : a ≠ b := by
  intro e
  subst e
  rw [ha] at hb
  cases hb
theorem hm_neF {M : hm_M} {a b : Nat} {ea : va_E} (ha : M a = some ea) (hb : M b = none) : a ≠ b := by
  intro e
  subst e
  rw [ha] at hb
  cases hb
def hm_P (D : va_G) (M : hm_M) (H : Heap) : Prop := ∀ (a : Nat) (e : va_E), M a = some e → va_at D hm_cl (a, e) H
/-- what lies there all the time and nobody writes -/
def hm_B (BG : Nat → Option Cell) (H : Heap) : Prop := ∀ (a : Nat) (c : Cell), BG a = some c → H[a]? = some c
def hm_In (A : Nat → Prop) (M : hm_M) : Prop := ∀ (a : Nat) (e : va_E), M a = some e → A a
def hm_A (M : hm_M) (sz : Nat) : Nat → Prop := fun q => M q ≠ none ∨ sz ≤ q
theorem hm_P.lt {D : va_G} {M : hm_M} {H : Heap} (h : hm_P D M H) {a : Nat} {e : va_E} (ha : M a = some e) : a < H.size := (h a e ha).lt
theorem hm_P.put {D : va_G} {M : hm_M} {H H1 : Heap} {a : Nat} {e : va_E} (h : hm_P D M H) (he : va_at D hm_cl (a, e) H1) (oq : ∀ q : Nat, q ≠ a → H1[q]? = H[q]?) : hm_P D (hm_up M a e) H1 := by
  intro b f hb
  by_cases hba : b = a
  · subst hba
    rw [hm_up_s] at hb
    cases hb
    exact he
  · rw [hm_up_n _ _ hba] at hb
    exact (h b f hb).kept (oq b hba)
theorem hm_P.new {D : va_G} {M : hm_M} {H H1 : Heap} {e : va_E} (h : hm_P D M H) (he : va_at D hm_cl (H.size, e) H1) (oq : ∀ q : Nat, q < H.size → H1[q]? = H[q]?) : hm_P D (hm_up M H.size e) H1 := by
  intro b f hb
  by_cases hba : b = H.size
  · subst hba
    rw [hm_up_s] at hb
    cases hb
    exact he
  · rw [hm_up_n _ _ hba] at hb
    exact (h b f hb).kept (oq b (h.lt hb))
theorem hm_P.fresh {D : va_G} {M : hm_M} {H : Heap} (h : hm_P D M H) : M H.size = none := by
  cases hm : M H.size with
  | none => rfl
  | some e => exact absurd (h.lt hm) (Nat.lt_irrefl _)
theorem hm_B.put {BG : Nat → Option Cell} {A : Nat → Prop} {H H1 : Heap} {a : Nat} (h : hm_B BG H) (hBG : ∀ q, A q → BG q = none) (ha : A a) (oq : ∀ q : Nat, q ≠ a → H1[q]? = H[q]?) : hm_B BG H1 := by
  intro b c hb
  rw [oq b (fun e => by rw [e, hBG a ha] at hb; cases hb)]
  exact h b c hb
theorem hm_B.new {BG : Nat → Option Cell} {H H1 : Heap} (h : hm_B BG H) (oq : ∀ q : Nat, q < H.size → H1[q]? = H[q]?) : hm_B BG H1 := by
  intro b c hb
  have h1 := h b c hb
  rw [oq b (Array.getElem?_eq_some_iff.mp h1).1]
  exact h1
theorem hm_In.put {A : Nat → Prop} {M : hm_M} {a : Nat} {e : va_E} (h : hm_In A M) (ha : A a) : hm_In A (hm_up M a e) := by
  intro b f hb
  by_cases hba : b = a
  · rw [hba]; exact ha
  · rw [hm_up_n _ _ hba] at hb
    exact h b f hb
theorem hm_Snew {A : Nat → Prop} {H0 H H1 : Heap} {locs : List Loc} (h : va_S A H0 H locs) (z : H1.size = H.size + 1) (oq : ∀ q : Nat, q < H.size → H1[q]? = H[q]?) : va_S A H0 H1 locs :=
  ⟨Nat.le_trans h.1 (by omega), fun q h1 h2 => (oq q (Nat.lt_of_lt_of_le h1 h.1)).trans (h.2.1 q h1 h2), h.2.2⟩
/-- the words that hold all the time, those that a callee's list may have -/
def hm_tb : List Cond := lw_tbl.filter goodWord
theorem hm_tb_in {w : Cond} (h : w ∈ lw_tbl) (g : goodWord w = true) : w ∈ hm_tb := List.mem_filter.mpr ⟨h, g⟩
theorem hm_tb_good : GoodIn hm_tb hm_tb := fun w h => ⟨h, good_of_word (List.mem_filter.mp h).2⟩
/-- words of nest mates, casts, arrays: they go along with the state -/
def hm_wk : Cond → Bool
  | .fieldLinkNest .. => true
  | .methodLinkNest .. => true
  | .castable .. => true
  | .declares .. => true
  | .arrayOver (.object _) => true
  | _ => false
def hm_N (U : State) : Prop := ∀ w ∈ lw_tbl, hm_wk w = true → va_Nw w U
theorem hm_N.warm {s U : State} (hW : s.WarmedH U.vm) (h : hm_N s) : hm_N U := by
  intro w hw hk
  have h0 := h w hw hk
  cases w with
  | fieldLinkNest a i b n d h => exact va_Nw.warmF hW h0
  | methodLinkNest a i x h => exact va_Nw.warmM hW h0
  | castable C T => exact va_Nw.warmC hW h0
  | declares x => exact va_Nw.warmD hW h0
  | arrayOver ty =>
    cases ty with
    | object C => exact va_AO.moved hW.alike h0
    | _ => simp [hm_wk] at hk
  | _ => simp [hm_wk] at hk
theorem hm_N.same {s U : State} (e : s.vm = U.vm) (h : hm_N s) : hm_N U := by
  intro w hw hk
  have h0 := h w hw hk
  cases w with
  | fieldLinkNest a i b n d h => exact va_Nw.same rfl e h0
  | methodLinkNest a i x h => exact va_Nw.same rfl e h0
  | castable C T => exact va_Nw.same rfl e h0
  | declares x => exact va_Nw.same rfl e h0
  | arrayOver ty =>
    cases ty with
    | object C => exact va_AO.moved (by rw [e]; exact Vm.Alike.refl _) h0
    | _ => simp [hm_wk] at hk
  | _ => simp [hm_wk] at hk
/-- the one static field that is read: ArrayList's empty array, at the cell D.2 999 0 -/
def hm_Z (D : va_G) (BG : Nat → Option Cell) (U : State) : Prop := ∃ (cf : ClassId) (kf : Class) (fi : Nat) (f : Field) (a : Nat) (cell : Cell), U.fieldFound? "java/util/ArrayList" "DEFAULTCAPACITY_EMPTY_ELEMENTDATA" "[Ljava/lang/Object;" = some (cf, kf, fi, f) ∧ f.isStatic = true ∧ kf.init = .initialized ∧ kf.statics = some a ∧ BG a = some cell ∧ cell.vm.isStatics = true ∧ cell.slots[f.slot]? = some (.ref (D.2 999 0))
theorem hm_Z.moved {D : va_G} {BG : Nat → Option Cell} {u U : State} (hvm : u.vm.Alike U.vm) (h : hm_Z D BG u) : hm_Z D BG U := by
  obtain ⟨cf, kf, fi, f, a, cell, h1, h2, h3, h4, h5⟩ := h
  obtain ⟨k', hi', he⟩ := State.fieldFound?_setVm hvm h1
  exact ⟨cf, k', fi, f, a, cell, hi', h2, by rw [he]; exact h3, by rw [he]; exact h4, h5⟩
/-- what is known of the tables: the classes, the kinds of arrays, the empty array, the class object of Object[] -/
def hm_K (D : va_G) (BG : Nat → Option Cell) (U : State) : Prop := va_K D hm_cl [] U ∧ (∀ (t : Nat) (ty : FieldType), hm_tys[t]? = some ty → ArrOfT U (D.1 (100 + t)) ty ∧ va_RA U (D.1 (100 + t)) ty) ∧ hm_Z D BG U ∧ BG (D.2 999 0) = some (arrV (D.1 100) 0 (fun _ => .null)) ∧ va_Mi "[Ljava/lang/Object;" (D.2 999 1) U
theorem hm_K.moved {D : va_G} {BG : Nat → Option Cell} {u U : State} (hvm : u.vm.Alike U.vm) (h : hm_K D BG u) : hm_K D BG U := ⟨va_K.moved hvm h.1, fun t ty ht => ⟨arrOfT_moved hvm (h.2.1 t ty ht).1, (h.2.1 t ty ht).2.moved hvm⟩, h.2.2.1.moved hvm, h.2.2.2.1, h.2.2.2.2.moved hvm⟩
abbrev hm_X : Type := Program × Launch × Env × Room × State × MethodId × Array Value × List Frame × Method × Code × (State → Prop) × va_G × (Nat → Option Cell) × (Nat → Prop)
/-- the machine at pc, with the locals lv and the stack st, over any heap that holds the model M, comes to the method's end -/
def hm_W (X : hm_X) (M : hm_M) (k n pc : Nat) (lv : List (Nat × Value)) (st : List Value) : Prop := match X with
  | (p, l, e, R, s, m, args, below, meth, c, Q, D, BG, A) => ∀ (H : Heap) (locs : List Loc) (ls : Array Slot), hm_P D M H → hm_B BG H → hm_In A M → va_S A s.heap H locs → lv_has ls c.maxLocals lv → W p l e R s m args below meth c H locs k n Q (F0 m pc ls st)
/-- what stays the same in a method: machine, code, words, room -/
def hm_C (X : hm_X) (l : Launch) (D : va_G) (BG : Nat → Option Cell) (cc : ByteArray) (own nm : String) (nL fr lo mc ms : Nat) : Prop := match X with
  | (p, l', _, R, s, m, args, _, meth, c, _, D', BG', A) => p.tables.exec = Jvm.exec ∧ c.code = cc ∧ s.vm.findClass own = some m.cls ∧ (∀ w ∈ hm_tb, w.before args s = true) ∧ hm_N s ∧ hm_K D' BG' s ∧ (∀ q, s.heap.size ≤ q → A q) ∧ (∀ q, A q → BG' q = none) ∧ R = { frames := fr, cells := mc, slots := ms, locals := lo } ∧ c.maxLocals = nL ∧ meth.name = nm ∧ l' = l ∧ D' = D ∧ BG' = BG
def hm_g : List (Nat × Value) → Nat → Option Value
  | [], _ => none
  | q :: l, i => if q.1 == i then some q.2 else hm_g l i
theorem hm_g_mem : ∀ {l : List (Nat × Value)} {i : Nat} {v : Value}, hm_g l i = some v → (i, v) ∈ l
  | [], i, v, h => by cases h
  | q :: l, i, v, h => by
    unfold hm_g at h
    by_cases hq : (q.1 == i) = true
    · rw [if_pos hq] at h
      have e1 : q.1 = i := by simpa using hq
      have e2 : q.2 = v := Option.some.inj h
      have e : q = (i, v) := Prod.ext e1 e2
      rw [e]
      exact List.mem_cons_self
    · rw [if_neg hq] at h
      exact List.mem_cons_of_mem _ (hm_g_mem h)
theorem hm_g_at {ls : Array Slot} {nL : Nat} {lv : List (Nat × Value)} {i : Nat} {v : Value} (h : lv_has ls nL lv) (hv : hm_g lv i = some v) : ls[i]? = some (.val v) := h.2.2 (i, v) (hm_g_mem hv)
theorem hm_g_get {lv : List (Nat × Value)} {i : Nat} {v : Value} (hv : hm_g lv i = some v) : ∃ j : Nat, lv[j]? = some (i, v) := List.getElem?_of_mem (hm_g_mem hv)
abbrev hm_s (lv : List (Nat × Value)) (i : Nat) (v : Value) : List (Nat × Value) := (i, v) :: lv.filter (fun q => !(q.1 == i) && !(q.1 + 1 == i && q.2.category == 2))
section HMROWS
variable {X : hm_X} {l : Launch} {D : va_G} {BG : Nat → Option Cell} {cc : ByteArray} {own nm : String} {nL fr lo mc ms : Nat} {M : hm_M} {k n pc : Nat} {lv : List (Nat × Value)} {st : List Value}
theorem hm_iconst (C : hm_C X l D BG cc own nm nL fr lo mc ms) {z : Int} {v : Int32} (hd : decode cc pc = .ok (.iconst z, 1)) (hv : Int32.ofInt z = v) (kk : hm_W X M k n (pc + 1) lv (.int v :: st)) : hm_W X M k n pc lv st := by
  obtain ⟨p, l', e, R, s, m, args, below, meth, c, Q, D', BG', A⟩ := X
  obtain ⟨hx, hb, hown, hts, hnw, hK, hA, hBG, hR, hml, hnm, el, eD, eB⟩ := C
  intro H locs ls h1 h2 h3 h4 h5
  exact lv_iconst hx hb hd hv (kk H locs ls h1 h2 h3 h4 h5)
theorem hm_bipush (C : hm_C X l D BG cc own nm nL fr lo mc ms) {z : Int} {v : Int32} (hd : decode cc pc = .ok (.bipush z, 2)) (hv : (Int8.ofInt z).toInt32 = v) (kk : hm_W X M k n (pc + 2) lv (.int v :: st)) : hm_W X M k n pc lv st := by
  obtain ⟨p, l', e, R, s, m, args, below, meth, c, Q, D', BG', A⟩ := X
  obtain ⟨hx, hb, hown, hts, hnw, hK, hA, hBG, hR, hml, hnm, el, eD, eB⟩ := C
  intro H locs ls h1 h2 h3 h4 h5
  exact lv_bipush hx hb hd hv (kk H locs ls h1 h2 h3 h4 h5)
theorem hm_sipush (C : hm_C X l D BG cc own nm nL fr lo mc ms) {z : Int} {v : Int32} (hd : decode cc pc = .ok (.sipush z, 3)) (hv : (Int16.ofInt z).toInt32 = v) (kk : hm_W X M k n (pc + 3) lv (.int v :: st)) : hm_W X M k n pc lv st := by
  obtain ⟨p, l', e, R, s, m, args, below, meth, c, Q, D', BG', A⟩ := X
  obtain ⟨hx, hb, hown, hts, hnw, hK, hA, hBG, hR, hml, hnm, el, eD, eB⟩ := C
  intro H locs ls h1 h2 h3 h4 h5
  exact lv_sipush hx hb hd hv (kk H locs ls h1 h2 h3 h4 h5)
theorem hm_ldc (C : hm_C X l D BG cc own nm nL fr lo mc ms) {ix : Nat} {v : Int32} (hw : Cond.constant own ix v ∈ hm_tb) (hd : decode cc pc = .ok (.ldc ix, 2)) (kk : hm_W X M k n (pc + 2) lv (.int v :: st)) : hm_W X M k n pc lv st := by
  obtain ⟨p, l', e, R, s, m, args, below, meth, c, Q, D', BG', A⟩ := X
  obtain ⟨hx, hb, hown, hts, hnw, hK, hA, hBG, hR, hml, hnm, el, eD, eB⟩ := C
  intro H locs ls h1 h2 h3 h4 h5
  exact lv_ldc hx hb hown (hts _ hw) hd (kk H locs ls h1 h2 h3 h4 h5)
theorem hm_null (C : hm_C X l D BG cc own nm nL fr lo mc ms)  (hd : decode cc pc = .ok (.aconst_null, 1)) (kk : hm_W X M k n (pc + 1) lv (.null :: st)) : hm_W X M k n pc lv st := by
  obtain ⟨p, l', e, R, s, m, args, below, meth, c, Q, D', BG', A⟩ := X
  obtain ⟨hx, hb, hown, hts, hnw, hK, hA, hBG, hR, hml, hnm, el, eD, eB⟩ := C
  intro H locs ls h1 h2 h3 h4 h5
  exact lv_null hx hb hd (kk H locs ls h1 h2 h3 h4 h5)
theorem hm_iload_n (C : hm_C X l D BG cc own nm nL fr lo mc ms) {i : Fin 4} {x : Int32} (hd : decode cc pc = .ok (.iload_n i, 1)) (hv : hm_g lv i = some (.int x)) (kk : hm_W X M k n (pc + 1) lv (.int x :: st)) : hm_W X M k n pc lv st := by
  obtain ⟨p, l', e, R, s, m, args, below, meth, c, Q, D', BG', A⟩ := X
  obtain ⟨hx, hb, hown, hts, hnw, hK, hA, hBG, hR, hml, hnm, el, eD, eB⟩ := C
  intro H locs ls h1 h2 h3 h4 h5
  exact lv_iload_n hx hb hd rfl (hm_g_at h5 hv) (kk H locs ls h1 h2 h3 h4 h5)
theorem hm_iload (C : hm_C X l D BG cc own nm nL fr lo mc ms) {i : Nat} {x : Int32} (hd : decode cc pc = .ok (.iload i, 2)) (hv : hm_g lv i = some (.int x)) (kk : hm_W X M k n (pc + 2) lv (.int x :: st)) : hm_W X M k n pc lv st := by
  obtain ⟨p, l', e, R, s, m, args, below, meth, c, Q, D', BG', A⟩ := X
  obtain ⟨hx, hb, hown, hts, hnw, hK, hA, hBG, hR, hml, hnm, el, eD, eB⟩ := C
  intro H locs ls h1 h2 h3 h4 h5
  exact lv_iload hx hb hd (hm_g_at h5 hv) (kk H locs ls h1 h2 h3 h4 h5)
theorem hm_aload_n (C : hm_C X l D BG cc own nm nL fr lo mc ms) {i : Fin 4} {x : Nat} (hd : decode cc pc = .ok (.aload_n i, 1)) (hv : hm_g lv i = some (.ref x)) (kk : hm_W X M k n (pc + 1) lv (.ref x :: st)) : hm_W X M k n pc lv st := by
  obtain ⟨p, l', e, R, s, m, args, below, meth, c, Q, D', BG', A⟩ := X
  obtain ⟨hx, hb, hown, hts, hnw, hK, hA, hBG, hR, hml, hnm, el, eD, eB⟩ := C
  intro H locs ls h1 h2 h3 h4 h5
  exact lv_aload_n hx hb hd rfl (hm_g_at h5 hv) (kk H locs ls h1 h2 h3 h4 h5)
theorem hm_aload (C : hm_C X l D BG cc own nm nL fr lo mc ms) {i : Nat} {x : Nat} (hd : decode cc pc = .ok (.aload i, 2)) (hv : hm_g lv i = some (.ref x)) (kk : hm_W X M k n (pc + 2) lv (.ref x :: st)) : hm_W X M k n pc lv st := by
  obtain ⟨p, l', e, R, s, m, args, below, meth, c, Q, D', BG', A⟩ := X
  obtain ⟨hx, hb, hown, hts, hnw, hK, hA, hBG, hR, hml, hnm, el, eD, eB⟩ := C
  intro H locs ls h1 h2 h3 h4 h5
  exact lv_aload hx hb hd (hm_g_at h5 hv) (kk H locs ls h1 h2 h3 h4 h5)
theorem hm_aload_nN (C : hm_C X l D BG cc own nm nL fr lo mc ms) {i : Fin 4} (hd : decode cc pc = .ok (.aload_n i, 1)) (hv : hm_g lv i = some .null) (kk : hm_W X M k n (pc + 1) lv (.null :: st)) : hm_W X M k n pc lv st := by
  obtain ⟨p, l', e, R, s, m, args, below, meth, c, Q, D', BG', A⟩ := X
  obtain ⟨hx, hb, hown, hts, hnw, hK, hA, hBG, hR, hml, hnm, el, eD, eB⟩ := C
  intro H locs ls h1 h2 h3 h4 h5
  exact lv_aload_nN hx hb hd rfl (hm_g_at h5 hv) (kk H locs ls h1 h2 h3 h4 h5)
theorem hm_aloadN (C : hm_C X l D BG cc own nm nL fr lo mc ms) {i : Nat} (hd : decode cc pc = .ok (.aload i, 2)) (hv : hm_g lv i = some .null) (kk : hm_W X M k n (pc + 2) lv (.null :: st)) : hm_W X M k n pc lv st := by
  obtain ⟨p, l', e, R, s, m, args, below, meth, c, Q, D', BG', A⟩ := X
  obtain ⟨hx, hb, hown, hts, hnw, hK, hA, hBG, hR, hml, hnm, el, eD, eB⟩ := C
  intro H locs ls h1 h2 h3 h4 h5
  exact lv_aloadN hx hb hd (hm_g_at h5 hv) (kk H locs ls h1 h2 h3 h4 h5)
theorem hm_aload_nQ (C : hm_C X l D BG cc own nm nL fr lo mc ms) {i : Fin 4} {r : Option Nat} (hd : decode cc pc = .ok (.aload_n i, 1)) (hv : hm_g lv i = some (va_rf r)) (kk : hm_W X M k n (pc + 1) lv (va_rf r :: st)) : hm_W X M k n pc lv st := by
  obtain ⟨p, l', e, R, s, m, args, below, meth, c, Q, D', BG', A⟩ := X
  obtain ⟨hx, hb, hown, hts, hnw, hK, hA, hBG, hR, hml, hnm, el, eD, eB⟩ := C
  intro H locs ls h1 h2 h3 h4 h5
  cases r with
  | none => exact lv_aload_nN hx hb hd rfl (hm_g_at h5 hv) (kk H locs ls h1 h2 h3 h4 h5)
  | some x => exact lv_aload_n hx hb hd rfl (hm_g_at h5 hv) (kk H locs ls h1 h2 h3 h4 h5)
theorem hm_aloadQ (C : hm_C X l D BG cc own nm nL fr lo mc ms) {i : Nat} {r : Option Nat} (hd : decode cc pc = .ok (.aload i, 2)) (hv : hm_g lv i = some (va_rf r)) (kk : hm_W X M k n (pc + 2) lv (va_rf r :: st)) : hm_W X M k n pc lv st := by
  obtain ⟨p, l', e, R, s, m, args, below, meth, c, Q, D', BG', A⟩ := X
  obtain ⟨hx, hb, hown, hts, hnw, hK, hA, hBG, hR, hml, hnm, el, eD, eB⟩ := C
  intro H locs ls h1 h2 h3 h4 h5
  cases r with
  | none => exact lv_aloadN hx hb hd (hm_g_at h5 hv) (kk H locs ls h1 h2 h3 h4 h5)
  | some x => exact lv_aload hx hb hd (hm_g_at h5 hv) (kk H locs ls h1 h2 h3 h4 h5)
theorem hm_istore_n (C : hm_C X l D BG cc own nm nL fr lo mc ms) {i : Fin 4} {x : Int32} (lv' : List (Nat × Value)) (hd : decode cc pc = .ok (.istore_n i, 1)) (hi : (i : Nat) < nL) (hs : hm_s lv i (.int x) = lv') (kk : hm_W X M k n (pc + 1) lv' st) : hm_W X M k n pc lv (.int x :: st) := by
  obtain ⟨p, l', e, R, s, m, args, below, meth, c, Q, D', BG', A⟩ := X
  obtain ⟨hx, hb, hown, hts, hnw, hK, hA, hBG, hR, hml, hnm, el, eD, eB⟩ := C
  intro H locs ls h1 h2 h3 h4 h5
  exact lv_istore_n hx hb hd rfl h5 (by rw [hml]; exact hi) hs (fun ls' h5' => kk H locs ls' h1 h2 h3 h4 h5')
theorem hm_istore (C : hm_C X l D BG cc own nm nL fr lo mc ms) {i : Nat} {x : Int32} (lv' : List (Nat × Value)) (hd : decode cc pc = .ok (.istore i, 2)) (hi : i < nL) (hs : hm_s lv i (.int x) = lv') (kk : hm_W X M k n (pc + 2) lv' st) : hm_W X M k n pc lv (.int x :: st) := by
  obtain ⟨p, l', e, R, s, m, args, below, meth, c, Q, D', BG', A⟩ := X
  obtain ⟨hx, hb, hown, hts, hnw, hK, hA, hBG, hR, hml, hnm, el, eD, eB⟩ := C
  intro H locs ls h1 h2 h3 h4 h5
  exact lv_istore hx hb hd h5 (by rw [hml]; exact hi) hs (fun ls' h5' => kk H locs ls' h1 h2 h3 h4 h5')
theorem hm_astore_n (C : hm_C X l D BG cc own nm nL fr lo mc ms) {i : Fin 4} {x : Nat} (lv' : List (Nat × Value)) (hd : decode cc pc = .ok (.astore_n i, 1)) (hi : (i : Nat) < nL) (hs : hm_s lv i (.ref x) = lv') (kk : hm_W X M k n (pc + 1) lv' st) : hm_W X M k n pc lv (.ref x :: st) := by
  obtain ⟨p, l', e, R, s, m, args, below, meth, c, Q, D', BG', A⟩ := X
  obtain ⟨hx, hb, hown, hts, hnw, hK, hA, hBG, hR, hml, hnm, el, eD, eB⟩ := C
  intro H locs ls h1 h2 h3 h4 h5
  exact lv_astore_n hx hb hd rfl h5 (by rw [hml]; exact hi) hs (fun ls' h5' => kk H locs ls' h1 h2 h3 h4 h5')
theorem hm_astore (C : hm_C X l D BG cc own nm nL fr lo mc ms) {i : Nat} {x : Nat} (lv' : List (Nat × Value)) (hd : decode cc pc = .ok (.astore i, 2)) (hi : i < nL) (hs : hm_s lv i (.ref x) = lv') (kk : hm_W X M k n (pc + 2) lv' st) : hm_W X M k n pc lv (.ref x :: st) := by
  obtain ⟨p, l', e, R, s, m, args, below, meth, c, Q, D', BG', A⟩ := X
  obtain ⟨hx, hb, hown, hts, hnw, hK, hA, hBG, hR, hml, hnm, el, eD, eB⟩ := C
  intro H locs ls h1 h2 h3 h4 h5
  exact lv_astore hx hb hd h5 (by rw [hml]; exact hi) hs (fun ls' h5' => kk H locs ls' h1 h2 h3 h4 h5')
theorem hm_astore_nQ (C : hm_C X l D BG cc own nm nL fr lo mc ms) {i : Fin 4} {r : Option Nat} (lv' : List (Nat × Value)) (hd : decode cc pc = .ok (.astore_n i, 1)) (hi : (i : Nat) < nL) (hs : hm_s lv i (va_rf r) = lv') (kk : hm_W X M k n (pc + 1) lv' st) : hm_W X M k n pc lv (va_rf r :: st) := by
  obtain ⟨p, l', e, R, s, m, args, below, meth, c, Q, D', BG', A⟩ := X
  obtain ⟨hx, hb, hown, hts, hnw, hK, hA, hBG, hR, hml, hnm, el, eD, eB⟩ := C
  intro H locs ls h1 h2 h3 h4 h5
  cases r with
  | none => exact lv_astore_nN hx hb hd rfl h5 (by rw [hml]; exact hi) hs (fun ls' h5' => kk H locs ls' h1 h2 h3 h4 h5')
  | some x => exact lv_astore_n hx hb hd rfl h5 (by rw [hml]; exact hi) hs (fun ls' h5' => kk H locs ls' h1 h2 h3 h4 h5')
theorem hm_astoreQ (C : hm_C X l D BG cc own nm nL fr lo mc ms) {i : Nat} {r : Option Nat} (lv' : List (Nat × Value)) (hd : decode cc pc = .ok (.astore i, 2)) (hi : i < nL) (hs : hm_s lv i (va_rf r) = lv') (kk : hm_W X M k n (pc + 2) lv' st) : hm_W X M k n pc lv (va_rf r :: st) := by
  obtain ⟨p, l', e, R, s, m, args, below, meth, c, Q, D', BG', A⟩ := X
  obtain ⟨hx, hb, hown, hts, hnw, hK, hA, hBG, hR, hml, hnm, el, eD, eB⟩ := C
  intro H locs ls h1 h2 h3 h4 h5
  cases r with
  | none => exact lv_astoreN hx hb hd h5 (by rw [hml]; exact hi) hs (fun ls' h5' => kk H locs ls' h1 h2 h3 h4 h5')
  | some x => exact lv_astore hx hb hd h5 (by rw [hml]; exact hi) hs (fun ls' h5' => kk H locs ls' h1 h2 h3 h4 h5')
theorem hm_iinc (C : hm_C X l D BG cc own nm nL fr lo mc ms) {i : Nat} {z : Int} {x v : Int32} (lv' : List (Nat × Value)) (hd : decode cc pc = .ok (.iinc i z, 3)) (hx0 : hm_g lv i = some (.int x)) (hv : x + Int32.ofInt z = v) (hi : i < nL) (hs : hm_s lv i (.int v) = lv') (kk : hm_W X M k n (pc + 3) lv' st) : hm_W X M k n pc lv st := by
  obtain ⟨p, l', e, R, s, m, args, below, meth, c, Q, D', BG', A⟩ := X
  obtain ⟨hx, hb, hown, hts, hnw, hK, hA, hBG, hR, hml, hnm, el, eD, eB⟩ := C
  intro H locs ls h1 h2 h3 h4 h5
  obtain ⟨j, hj⟩ := hm_g_get hx0
  exact lv_iinc hx hb hd h5 hj hv (by rw [hml]; exact hi) hs (fun ls' h5' => kk H locs ls' h1 h2 h3 h4 h5')
theorem hm_iadd (C : hm_C X l D BG cc own nm nL fr lo mc ms) {x y : Int32} (hd : decode cc pc = .ok (.iadd, 1)) (kk : hm_W X M k n (pc + 1) lv (.int (x + y) :: st)) : hm_W X M k n pc lv (.int y :: .int x :: st) := by
  obtain ⟨p, l', e, R, s, m, args, below, meth, c, Q, D', BG', A⟩ := X
  obtain ⟨hx, hb, hown, hts, hnw, hK, hA, hBG, hR, hml, hnm, el, eD, eB⟩ := C
  intro H locs ls h1 h2 h3 h4 h5
  exact lv_iadd hx hb hd (kk H locs ls h1 h2 h3 h4 h5)
theorem hm_isub (C : hm_C X l D BG cc own nm nL fr lo mc ms) {x y : Int32} (hd : decode cc pc = .ok (.isub, 1)) (kk : hm_W X M k n (pc + 1) lv (.int (x - y) :: st)) : hm_W X M k n pc lv (.int y :: .int x :: st) := by
  obtain ⟨p, l', e, R, s, m, args, below, meth, c, Q, D', BG', A⟩ := X
  obtain ⟨hx, hb, hown, hts, hnw, hK, hA, hBG, hR, hml, hnm, el, eD, eB⟩ := C
  intro H locs ls h1 h2 h3 h4 h5
  exact lv_isub hx hb hd (kk H locs ls h1 h2 h3 h4 h5)
theorem hm_imul (C : hm_C X l D BG cc own nm nL fr lo mc ms) {x y : Int32} (hd : decode cc pc = .ok (.imul, 1)) (kk : hm_W X M k n (pc + 1) lv (.int (x * y) :: st)) : hm_W X M k n pc lv (.int y :: .int x :: st) := by
  obtain ⟨p, l', e, R, s, m, args, below, meth, c, Q, D', BG', A⟩ := X
  obtain ⟨hx, hb, hown, hts, hnw, hK, hA, hBG, hR, hml, hnm, el, eD, eB⟩ := C
  intro H locs ls h1 h2 h3 h4 h5
  exact lv_imul hx hb hd (kk H locs ls h1 h2 h3 h4 h5)
theorem hm_iand (C : hm_C X l D BG cc own nm nL fr lo mc ms) {x y : Int32} (hd : decode cc pc = .ok (.iand, 1)) (kk : hm_W X M k n (pc + 1) lv (.int (x &&& y) :: st)) : hm_W X M k n pc lv (.int y :: .int x :: st) := by
  obtain ⟨p, l', e, R, s, m, args, below, meth, c, Q, D', BG', A⟩ := X
  obtain ⟨hx, hb, hown, hts, hnw, hK, hA, hBG, hR, hml, hnm, el, eD, eB⟩ := C
  intro H locs ls h1 h2 h3 h4 h5
  exact lv_iand hx hb hd (kk H locs ls h1 h2 h3 h4 h5)
theorem hm_ior (C : hm_C X l D BG cc own nm nL fr lo mc ms) {x y : Int32} (hd : decode cc pc = .ok (.ior, 1)) (kk : hm_W X M k n (pc + 1) lv (.int (x ||| y) :: st)) : hm_W X M k n pc lv (.int y :: .int x :: st) := by
  obtain ⟨p, l', e, R, s, m, args, below, meth, c, Q, D', BG', A⟩ := X
  obtain ⟨hx, hb, hown, hts, hnw, hK, hA, hBG, hR, hml, hnm, el, eD, eB⟩ := C
  intro H locs ls h1 h2 h3 h4 h5
  exact lv_ior hx hb hd (kk H locs ls h1 h2 h3 h4 h5)
theorem hm_ixor (C : hm_C X l D BG cc own nm nL fr lo mc ms) {x y : Int32} (hd : decode cc pc = .ok (.ixor, 1)) (kk : hm_W X M k n (pc + 1) lv (.int (x ^^^ y) :: st)) : hm_W X M k n pc lv (.int y :: .int x :: st) := by
  obtain ⟨p, l', e, R, s, m, args, below, meth, c, Q, D', BG', A⟩ := X
  obtain ⟨hx, hb, hown, hts, hnw, hK, hA, hBG, hR, hml, hnm, el, eD, eB⟩ := C
  intro H locs ls h1 h2 h3 h4 h5
  exact lv_ixor hx hb hd (kk H locs ls h1 h2 h3 h4 h5)
theorem hm_ishl (C : hm_C X l D BG cc own nm nL fr lo mc ms) {x y : Int32} (hd : decode cc pc = .ok (.ishl, 1)) (kk : hm_W X M k n (pc + 1) lv (.int (x <<< (y &&& 31)) :: st)) : hm_W X M k n pc lv (.int y :: .int x :: st) := by
  obtain ⟨p, l', e, R, s, m, args, below, meth, c, Q, D', BG', A⟩ := X
  obtain ⟨hx, hb, hown, hts, hnw, hK, hA, hBG, hR, hml, hnm, el, eD, eB⟩ := C
  intro H locs ls h1 h2 h3 h4 h5
  exact lv_ishl hx hb hd (kk H locs ls h1 h2 h3 h4 h5)
theorem hm_ishr (C : hm_C X l D BG cc own nm nL fr lo mc ms) {x y : Int32} (hd : decode cc pc = .ok (.ishr, 1)) (kk : hm_W X M k n (pc + 1) lv (.int (x >>> (y &&& 31)) :: st)) : hm_W X M k n pc lv (.int y :: .int x :: st) := by
  obtain ⟨p, l', e, R, s, m, args, below, meth, c, Q, D', BG', A⟩ := X
  obtain ⟨hx, hb, hown, hts, hnw, hK, hA, hBG, hR, hml, hnm, el, eD, eB⟩ := C
  intro H locs ls h1 h2 h3 h4 h5
  exact lv_ishr hx hb hd (kk H locs ls h1 h2 h3 h4 h5)
theorem hm_idiv (C : hm_C X l D BG cc own nm nL fr lo mc ms) {x y : Int32} (hd : decode cc pc = .ok (.idiv, 1)) (hne : ¬ y = 0) (kk : hm_W X M k n (pc + 1) lv (.int (x / y) :: st)) : hm_W X M k n pc lv (.int y :: .int x :: st) := by
  obtain ⟨p, l', e, R, s, m, args, below, meth, c, Q, D', BG', A⟩ := X
  obtain ⟨hx, hb, hown, hts, hnw, hK, hA, hBG, hR, hml, hnm, el, eD, eB⟩ := C
  intro H locs ls h1 h2 h3 h4 h5
  exact lv_idiv hx hb hd hne (kk H locs ls h1 h2 h3 h4 h5)
theorem hm_irem (C : hm_C X l D BG cc own nm nL fr lo mc ms) {x y : Int32} (hd : decode cc pc = .ok (.irem, 1)) (hne : ¬ y = 0) (kk : hm_W X M k n (pc + 1) lv (.int (x - x / y * y) :: st)) : hm_W X M k n pc lv (.int y :: .int x :: st) := by
  obtain ⟨p, l', e, R, s, m, args, below, meth, c, Q, D', BG', A⟩ := X
  obtain ⟨hx, hb, hown, hts, hnw, hK, hA, hBG, hR, hml, hnm, el, eD, eB⟩ := C
  intro H locs ls h1 h2 h3 h4 h5
  exact lv_irem hx hb hd hne (kk H locs ls h1 h2 h3 h4 h5)
theorem hm_dup (C : hm_C X l D BG cc own nm nL fr lo mc ms) {va : Value} (hd : decode cc pc = .ok (.dup, 1)) (hva : va.category = 1) (kk : hm_W X M k n (pc + 1) lv (va :: va :: st)) : hm_W X M k n pc lv (va :: st) := by
  obtain ⟨p, l', e, R, s, m, args, below, meth, c, Q, D', BG', A⟩ := X
  obtain ⟨hx, hb, hown, hts, hnw, hK, hA, hBG, hR, hml, hnm, el, eD, eB⟩ := C
  intro H locs ls h1 h2 h3 h4 h5
  exact lv_dup hx hb hd hva (kk H locs ls h1 h2 h3 h4 h5)
theorem hm_pop (C : hm_C X l D BG cc own nm nL fr lo mc ms) {va : Value} (hd : decode cc pc = .ok (.pop, 1)) (hva : va.category = 1) (kk : hm_W X M k n (pc + 1) lv st) : hm_W X M k n pc lv (va :: st) := by
  obtain ⟨p, l', e, R, s, m, args, below, meth, c, Q, D', BG', A⟩ := X
  obtain ⟨hx, hb, hown, hts, hnw, hK, hA, hBG, hR, hml, hnm, el, eD, eB⟩ := C
  intro H locs ls h1 h2 h3 h4 h5
  exact lv_pop hx hb hd hva (kk H locs ls h1 h2 h3 h4 h5)
theorem hm_dup_x1 (C : hm_C X l D BG cc own nm nL fr lo mc ms) {va vb : Value} (hd : decode cc pc = .ok (.dup_x1, 1)) (hva : va.category = 1) (hvb : vb.category = 1) (kk : hm_W X M k n (pc + 1) lv (va :: vb :: va :: st)) : hm_W X M k n pc lv (va :: vb :: st) := by
  obtain ⟨p, l', e, R, s, m, args, below, meth, c, Q, D', BG', A⟩ := X
  obtain ⟨hx, hb, hown, hts, hnw, hK, hA, hBG, hR, hml, hnm, el, eD, eB⟩ := C
  intro H locs ls h1 h2 h3 h4 h5
  exact lv_dup_x1 hx hb hd hva hvb (kk H locs ls h1 h2 h3 h4 h5)
theorem hm_dup_x2 (C : hm_C X l D BG cc own nm nL fr lo mc ms) {va vb vd : Value} (hd : decode cc pc = .ok (.dup_x2, 1)) (hva : va.category = 1) (hvb : vb.category = 1) (hvd : vd.category = 1) (kk : hm_W X M k n (pc + 1) lv (va :: vb :: vd :: va :: st)) : hm_W X M k n pc lv (va :: vb :: vd :: st) := by
  obtain ⟨p, l', e, R, s, m, args, below, meth, c, Q, D', BG', A⟩ := X
  obtain ⟨hx, hb, hown, hts, hnw, hK, hA, hBG, hR, hml, hnm, el, eD, eB⟩ := C
  intro H locs ls h1 h2 h3 h4 h5
  exact lv_dup_x2 hx hb hd hva hvb hvd (kk H locs ls h1 h2 h3 h4 h5)
theorem hm_dup2 (C : hm_C X l D BG cc own nm nL fr lo mc ms) {va vb : Value} (hd : decode cc pc = .ok (.dup2, 1)) (hva : va.category = 1) (hvb : vb.category = 1) (kk : hm_W X M k n (pc + 1) lv (va :: vb :: va :: vb :: st)) : hm_W X M k n pc lv (va :: vb :: st) := by
  obtain ⟨p, l', e, R, s, m, args, below, meth, c, Q, D', BG', A⟩ := X
  obtain ⟨hx, hb, hown, hts, hnw, hK, hA, hBG, hR, hml, hnm, el, eD, eB⟩ := C
  intro H locs ls h1 h2 h3 h4 h5
  exact lv_dup2_11 hx hb hd hva hvb (kk H locs ls h1 h2 h3 h4 h5)
theorem hm_if_eq (C : hm_C X l D BG cc own nm nL fr lo mc ms) {x : Int32} {off : Int} {tgt : Nat} (hd : decode cc pc = .ok (.ifCond .eq off, 3)) (ht : (pc : Int) + off = (tgt : Int)) (kt : (x = 0) → hm_W X M k n (tgt) lv st) (kf : (¬ x = 0) → hm_W X M k n (pc + 3) lv st) : hm_W X M k n pc lv (.int x :: st) := by
  obtain ⟨p, l', e, R, s, m, args, below, meth, c, Q, D', BG', A⟩ := X
  obtain ⟨hx, hb, hown, hts, hnw, hK, hA, hBG, hR, hml, hnm, el, eD, eB⟩ := C
  intro H locs ls h1 h2 h3 h4 h5
  exact lv_if_eq hx hb hd ht (fun q => kt q H locs ls h1 h2 h3 h4 h5) (fun q => kf q H locs ls h1 h2 h3 h4 h5)
theorem hm_if_ne (C : hm_C X l D BG cc own nm nL fr lo mc ms) {x : Int32} {off : Int} {tgt : Nat} (hd : decode cc pc = .ok (.ifCond .ne off, 3)) (ht : (pc : Int) + off = (tgt : Int)) (kt : (¬ x = 0) → hm_W X M k n (tgt) lv st) (kf : (x = 0) → hm_W X M k n (pc + 3) lv st) : hm_W X M k n pc lv (.int x :: st) := by
  obtain ⟨p, l', e, R, s, m, args, below, meth, c, Q, D', BG', A⟩ := X
  obtain ⟨hx, hb, hown, hts, hnw, hK, hA, hBG, hR, hml, hnm, el, eD, eB⟩ := C
  intro H locs ls h1 h2 h3 h4 h5
  exact lv_if_ne hx hb hd ht (fun q => kt q H locs ls h1 h2 h3 h4 h5) (fun q => kf q H locs ls h1 h2 h3 h4 h5)
theorem hm_if_lt (C : hm_C X l D BG cc own nm nL fr lo mc ms) {x : Int32} {off : Int} {tgt : Nat} (hd : decode cc pc = .ok (.ifCond .lt off, 3)) (ht : (pc : Int) + off = (tgt : Int)) (kt : (x < 0) → hm_W X M k n (tgt) lv st) (kf : (¬ x < 0) → hm_W X M k n (pc + 3) lv st) : hm_W X M k n pc lv (.int x :: st) := by
  obtain ⟨p, l', e, R, s, m, args, below, meth, c, Q, D', BG', A⟩ := X
  obtain ⟨hx, hb, hown, hts, hnw, hK, hA, hBG, hR, hml, hnm, el, eD, eB⟩ := C
  intro H locs ls h1 h2 h3 h4 h5
  exact lv_if_lt hx hb hd ht (fun q => kt q H locs ls h1 h2 h3 h4 h5) (fun q => kf q H locs ls h1 h2 h3 h4 h5)
theorem hm_if_ge (C : hm_C X l D BG cc own nm nL fr lo mc ms) {x : Int32} {off : Int} {tgt : Nat} (hd : decode cc pc = .ok (.ifCond .ge off, 3)) (ht : (pc : Int) + off = (tgt : Int)) (kt : (0 ≤ x) → hm_W X M k n (tgt) lv st) (kf : (¬ 0 ≤ x) → hm_W X M k n (pc + 3) lv st) : hm_W X M k n pc lv (.int x :: st) := by
  obtain ⟨p, l', e, R, s, m, args, below, meth, c, Q, D', BG', A⟩ := X
  obtain ⟨hx, hb, hown, hts, hnw, hK, hA, hBG, hR, hml, hnm, el, eD, eB⟩ := C
  intro H locs ls h1 h2 h3 h4 h5
  exact lv_if_ge hx hb hd ht (fun q => kt q H locs ls h1 h2 h3 h4 h5) (fun q => kf q H locs ls h1 h2 h3 h4 h5)
theorem hm_if_gt (C : hm_C X l D BG cc own nm nL fr lo mc ms) {x : Int32} {off : Int} {tgt : Nat} (hd : decode cc pc = .ok (.ifCond .gt off, 3)) (ht : (pc : Int) + off = (tgt : Int)) (kt : (0 < x) → hm_W X M k n (tgt) lv st) (kf : (¬ 0 < x) → hm_W X M k n (pc + 3) lv st) : hm_W X M k n pc lv (.int x :: st) := by
  obtain ⟨p, l', e, R, s, m, args, below, meth, c, Q, D', BG', A⟩ := X
  obtain ⟨hx, hb, hown, hts, hnw, hK, hA, hBG, hR, hml, hnm, el, eD, eB⟩ := C
  intro H locs ls h1 h2 h3 h4 h5
  exact lv_if_gt hx hb hd ht (fun q => kt q H locs ls h1 h2 h3 h4 h5) (fun q => kf q H locs ls h1 h2 h3 h4 h5)
theorem hm_if_le (C : hm_C X l D BG cc own nm nL fr lo mc ms) {x : Int32} {off : Int} {tgt : Nat} (hd : decode cc pc = .ok (.ifCond .le off, 3)) (ht : (pc : Int) + off = (tgt : Int)) (kt : (x ≤ 0) → hm_W X M k n (tgt) lv st) (kf : (¬ x ≤ 0) → hm_W X M k n (pc + 3) lv st) : hm_W X M k n pc lv (.int x :: st) := by
  obtain ⟨p, l', e, R, s, m, args, below, meth, c, Q, D', BG', A⟩ := X
  obtain ⟨hx, hb, hown, hts, hnw, hK, hA, hBG, hR, hml, hnm, el, eD, eB⟩ := C
  intro H locs ls h1 h2 h3 h4 h5
  exact lv_if_le hx hb hd ht (fun q => kt q H locs ls h1 h2 h3 h4 h5) (fun q => kf q H locs ls h1 h2 h3 h4 h5)
theorem hm_icmp_eq (C : hm_C X l D BG cc own nm nL fr lo mc ms) {x y : Int32} {off : Int} {tgt : Nat} (hd : decode cc pc = .ok (.if_icmp .eq off, 3)) (ht : (pc : Int) + off = (tgt : Int)) (kt : (x = y) → hm_W X M k n (tgt) lv st) (kf : (¬ x = y) → hm_W X M k n (pc + 3) lv st) : hm_W X M k n pc lv (.int y :: .int x :: st) := by
  obtain ⟨p, l', e, R, s, m, args, below, meth, c, Q, D', BG', A⟩ := X
  obtain ⟨hx, hb, hown, hts, hnw, hK, hA, hBG, hR, hml, hnm, el, eD, eB⟩ := C
  intro H locs ls h1 h2 h3 h4 h5
  exact lv_icmp_eq hx hb hd ht (fun q => kt q H locs ls h1 h2 h3 h4 h5) (fun q => kf q H locs ls h1 h2 h3 h4 h5)
theorem hm_icmp_ne (C : hm_C X l D BG cc own nm nL fr lo mc ms) {x y : Int32} {off : Int} {tgt : Nat} (hd : decode cc pc = .ok (.if_icmp .ne off, 3)) (ht : (pc : Int) + off = (tgt : Int)) (kt : (¬ x = y) → hm_W X M k n (tgt) lv st) (kf : (x = y) → hm_W X M k n (pc + 3) lv st) : hm_W X M k n pc lv (.int y :: .int x :: st) := by
  obtain ⟨p, l', e, R, s, m, args, below, meth, c, Q, D', BG', A⟩ := X
  obtain ⟨hx, hb, hown, hts, hnw, hK, hA, hBG, hR, hml, hnm, el, eD, eB⟩ := C
  intro H locs ls h1 h2 h3 h4 h5
  exact lv_icmp_ne hx hb hd ht (fun q => kt q H locs ls h1 h2 h3 h4 h5) (fun q => kf q H locs ls h1 h2 h3 h4 h5)
theorem hm_icmp_lt (C : hm_C X l D BG cc own nm nL fr lo mc ms) {x y : Int32} {off : Int} {tgt : Nat} (hd : decode cc pc = .ok (.if_icmp .lt off, 3)) (ht : (pc : Int) + off = (tgt : Int)) (kt : (x < y) → hm_W X M k n (tgt) lv st) (kf : (¬ x < y) → hm_W X M k n (pc + 3) lv st) : hm_W X M k n pc lv (.int y :: .int x :: st) := by
  obtain ⟨p, l', e, R, s, m, args, below, meth, c, Q, D', BG', A⟩ := X
  obtain ⟨hx, hb, hown, hts, hnw, hK, hA, hBG, hR, hml, hnm, el, eD, eB⟩ := C
  intro H locs ls h1 h2 h3 h4 h5
  exact lv_icmp_lt hx hb hd ht (fun q => kt q H locs ls h1 h2 h3 h4 h5) (fun q => kf q H locs ls h1 h2 h3 h4 h5)
theorem hm_icmp_ge (C : hm_C X l D BG cc own nm nL fr lo mc ms) {x y : Int32} {off : Int} {tgt : Nat} (hd : decode cc pc = .ok (.if_icmp .ge off, 3)) (ht : (pc : Int) + off = (tgt : Int)) (kt : (y ≤ x) → hm_W X M k n (tgt) lv st) (kf : (¬ y ≤ x) → hm_W X M k n (pc + 3) lv st) : hm_W X M k n pc lv (.int y :: .int x :: st) := by
  obtain ⟨p, l', e, R, s, m, args, below, meth, c, Q, D', BG', A⟩ := X
  obtain ⟨hx, hb, hown, hts, hnw, hK, hA, hBG, hR, hml, hnm, el, eD, eB⟩ := C
  intro H locs ls h1 h2 h3 h4 h5
  exact lv_icmp_ge hx hb hd ht (fun q => kt q H locs ls h1 h2 h3 h4 h5) (fun q => kf q H locs ls h1 h2 h3 h4 h5)
theorem hm_icmp_gt (C : hm_C X l D BG cc own nm nL fr lo mc ms) {x y : Int32} {off : Int} {tgt : Nat} (hd : decode cc pc = .ok (.if_icmp .gt off, 3)) (ht : (pc : Int) + off = (tgt : Int)) (kt : (y < x) → hm_W X M k n (tgt) lv st) (kf : (¬ y < x) → hm_W X M k n (pc + 3) lv st) : hm_W X M k n pc lv (.int y :: .int x :: st) := by
  obtain ⟨p, l', e, R, s, m, args, below, meth, c, Q, D', BG', A⟩ := X
  obtain ⟨hx, hb, hown, hts, hnw, hK, hA, hBG, hR, hml, hnm, el, eD, eB⟩ := C
  intro H locs ls h1 h2 h3 h4 h5
  exact lv_icmp_gt hx hb hd ht (fun q => kt q H locs ls h1 h2 h3 h4 h5) (fun q => kf q H locs ls h1 h2 h3 h4 h5)
theorem hm_icmp_le (C : hm_C X l D BG cc own nm nL fr lo mc ms) {x y : Int32} {off : Int} {tgt : Nat} (hd : decode cc pc = .ok (.if_icmp .le off, 3)) (ht : (pc : Int) + off = (tgt : Int)) (kt : (x ≤ y) → hm_W X M k n (tgt) lv st) (kf : (¬ x ≤ y) → hm_W X M k n (pc + 3) lv st) : hm_W X M k n pc lv (.int y :: .int x :: st) := by
  obtain ⟨p, l', e, R, s, m, args, below, meth, c, Q, D', BG', A⟩ := X
  obtain ⟨hx, hb, hown, hts, hnw, hK, hA, hBG, hR, hml, hnm, el, eD, eB⟩ := C
  intro H locs ls h1 h2 h3 h4 h5
  exact lv_icmp_le hx hb hd ht (fun q => kt q H locs ls h1 h2 h3 h4 h5) (fun q => kf q H locs ls h1 h2 h3 h4 h5)
theorem hm_acmp_eq (C : hm_C X l D BG cc own nm nL fr lo mc ms) {rx ry : Option Nat} {off : Int} {tgt : Nat} (hd : decode cc pc = .ok (.if_acmp .eq off, 3)) (ht : (pc : Int) + off = (tgt : Int)) (kt : (rx = ry) → hm_W X M k n (tgt) lv st) (kf : (¬ rx = ry) → hm_W X M k n (pc + 3) lv st) : hm_W X M k n pc lv (va_rf ry :: va_rf rx :: st) := by
  obtain ⟨p, l', e, R, s, m, args, below, meth, c, Q, D', BG', A⟩ := X
  obtain ⟨hx, hb, hown, hts, hnw, hK, hA, hBG, hR, hml, hnm, el, eD, eB⟩ := C
  intro H locs ls h1 h2 h3 h4 h5
  exact lv_acmp_eq hx hb hd ht (fun q => kt q H locs ls h1 h2 h3 h4 h5) (fun q => kf q H locs ls h1 h2 h3 h4 h5)
theorem hm_acmp_ne (C : hm_C X l D BG cc own nm nL fr lo mc ms) {rx ry : Option Nat} {off : Int} {tgt : Nat} (hd : decode cc pc = .ok (.if_acmp .ne off, 3)) (ht : (pc : Int) + off = (tgt : Int)) (kt : (¬ rx = ry) → hm_W X M k n (tgt) lv st) (kf : (rx = ry) → hm_W X M k n (pc + 3) lv st) : hm_W X M k n pc lv (va_rf ry :: va_rf rx :: st) := by
  obtain ⟨p, l', e, R, s, m, args, below, meth, c, Q, D', BG', A⟩ := X
  obtain ⟨hx, hb, hown, hts, hnw, hK, hA, hBG, hR, hml, hnm, el, eD, eB⟩ := C
  intro H locs ls h1 h2 h3 h4 h5
  exact lv_acmp_ne hx hb hd ht (fun q => kt q H locs ls h1 h2 h3 h4 h5) (fun q => kf q H locs ls h1 h2 h3 h4 h5)
theorem hm_ifnull (C : hm_C X l D BG cc own nm nL fr lo mc ms) {r : Option Nat} {off : Int} {tgt : Nat} (hd : decode cc pc = .ok (.ifnull off, 3)) (ht : (pc : Int) + off = (tgt : Int)) (kt : (r = none) → hm_W X M k n (tgt) lv st) (kf : (¬ r = none) → hm_W X M k n (pc + 3) lv st) : hm_W X M k n pc lv (va_rf r :: st) := by
  obtain ⟨p, l', e, R, s, m, args, below, meth, c, Q, D', BG', A⟩ := X
  obtain ⟨hx, hb, hown, hts, hnw, hK, hA, hBG, hR, hml, hnm, el, eD, eB⟩ := C
  intro H locs ls h1 h2 h3 h4 h5
  cases r with
  | none => exact lv_ifnullN hx hb hd ht (kt rfl H locs ls h1 h2 h3 h4 h5)
  | some x => exact lv_ifnull hx hb hd (kf (fun q => by cases q) H locs ls h1 h2 h3 h4 h5)
theorem hm_ifnonnull (C : hm_C X l D BG cc own nm nL fr lo mc ms) {r : Option Nat} {off : Int} {tgt : Nat} (hd : decode cc pc = .ok (.ifnonnull off, 3)) (ht : (pc : Int) + off = (tgt : Int)) (kt : (¬ r = none) → hm_W X M k n (tgt) lv st) (kf : (r = none) → hm_W X M k n (pc + 3) lv st) : hm_W X M k n pc lv (va_rf r :: st) := by
  obtain ⟨p, l', e, R, s, m, args, below, meth, c, Q, D', BG', A⟩ := X
  obtain ⟨hx, hb, hown, hts, hnw, hK, hA, hBG, hR, hml, hnm, el, eD, eB⟩ := C
  intro H locs ls h1 h2 h3 h4 h5
  cases r with
  | none => exact lv_ifnonnullN hx hb hd (kf rfl H locs ls h1 h2 h3 h4 h5)
  | some x => exact lv_ifnonnull hx hb hd ht (kt (fun q => by cases q) H locs ls h1 h2 h3 h4 h5)
theorem hm_goto (C : hm_C X l D BG cc own nm nL fr lo mc ms) {off : Int} {tgt : Nat} (hd : decode cc pc = .ok (.goto off, 3)) (ht : (pc : Int) + off = (tgt : Int)) (kk : hm_W X M k n (tgt) lv st) : hm_W X M k n pc lv st := by
  obtain ⟨p, l', e, R, s, m, args, below, meth, c, Q, D', BG', A⟩ := X
  obtain ⟨hx, hb, hown, hts, hnw, hK, hA, hBG, hR, hml, hnm, el, eD, eB⟩ := C
  intro H locs ls h1 h2 h3 h4 h5
  exact lv_goto hx hb hd ht (kk H locs ls h1 h2 h3 h4 h5)
theorem hm_tableIn (C : hm_C X l D BG cc own nm nL fr lo mc ms) {dflt lo' hi : Int} {offs : Array Int} {len : Nat} {x : Int32} {off : Int} {tgt : Nat} (hd : decode cc pc = .ok (.tableswitch dflt lo' hi offs, len)) (q1 : ¬ x.toInt < lo') (q2 : ¬ hi < x.toInt) (ho : offs[(x.toInt - lo').toNat]? = some off) (ht : (pc : Int) + off = (tgt : Int)) (kk : hm_W X M k n (tgt) lv st) : hm_W X M k n pc lv (.int x :: st) := by
  obtain ⟨p, l', e, R, s, m, args, below, meth, c, Q, D', BG', A⟩ := X
  obtain ⟨hx, hb, hown, hts, hnw, hK, hA, hBG, hR, hml, hnm, el, eD, eB⟩ := C
  intro H locs ls h1 h2 h3 h4 h5
  exact lv_tableIn hx hb hd q1 q2 ho ht (kk H locs ls h1 h2 h3 h4 h5)
theorem hm_tableOut (C : hm_C X l D BG cc own nm nL fr lo mc ms) {dflt lo' hi : Int} {offs : Array Int} {len : Nat} {x : Int32} {tgt : Nat} (hd : decode cc pc = .ok (.tableswitch dflt lo' hi offs, len)) (q1 : x.toInt < lo' ∨ hi < x.toInt) (ht : (pc : Int) + dflt = (tgt : Int)) (kk : hm_W X M k n (tgt) lv st) : hm_W X M k n pc lv (.int x :: st) := by
  obtain ⟨p, l', e, R, s, m, args, below, meth, c, Q, D', BG', A⟩ := X
  obtain ⟨hx, hb, hown, hts, hnw, hK, hA, hBG, hR, hml, hnm, el, eD, eB⟩ := C
  intro H locs ls h1 h2 h3 h4 h5
  exact lv_tableOut hx hb hd q1 ht (kk H locs ls h1 h2 h3 h4 h5)
theorem hm_lookup (C : hm_C X l D BG cc own nm nL fr lo mc ms) {dflt : Int} {ps : Array (Int × Int)} {len : Nat} {x : Int32} {off : Int} {tgt : Nat} (hd : decode cc pc = .ok (.lookupswitch dflt ps, len)) (hp : (ps.toList.zip (ps.toList.drop 1)).all (fun (a, next) => a.1 < next.1) = true) (ho : Op.lookupswitch.offset ps.toList dflt x.toInt = off) (ht : (pc : Int) + off = (tgt : Int)) (kk : hm_W X M k n (tgt) lv st) : hm_W X M k n pc lv (.int x :: st) := by
  obtain ⟨p, l', e, R, s, m, args, below, meth, c, Q, D', BG', A⟩ := X
  obtain ⟨hx, hb, hown, hts, hnw, hK, hA, hBG, hR, hml, hnm, el, eD, eB⟩ := C
  intro H locs ls h1 h2 h3 h4 h5
  exact lv_lookup hx hb hd hp ho ht (kk H locs ls h1 h2 h3 h4 h5)
theorem hm_castN (C : hm_C X l D BG cc own nm nL fr lo mc ms) {ix : Nat} (hd : decode cc pc = .ok (.checkcast ix, 3)) (kk : hm_W X M k n (pc + 3) lv (.null :: st)) : hm_W X M k n pc lv (.null :: st) := by
  obtain ⟨p, l', e, R, s, m, args, below, meth, c, Q, D', BG', A⟩ := X
  obtain ⟨hx, hb, hown, hts, hnw, hK, hA, hBG, hR, hml, hnm, el, eD, eB⟩ := C
  intro H locs ls h1 h2 h3 h4 h5
  exact lv_castN hx hb hd (kk H locs ls h1 h2 h3 h4 h5)
end HMROWS
/-- a field's place: its class ci, its slot j, its type; its word in own's pool at ix -/
def hm_F (own : String) (ix ci j : Nat) (ty : FieldType) (md : Nat) : Prop := ∃ (Cn : String) (T : u_T) (N : Nat) (ref : String) (ty0 : Nat → FieldType), (∀ w ∈ u_ws Cn T N, w ∈ hm_tb) ∧ hm_cl[ci]? = some (Cn, T, N) ∧ j < N ∧ Cond.fieldLink own ix ref (T j).2.1 (T j).2.2.1 ∈ hm_tb ∧ (ref = (T j).1 ∨ Cond.sameField ref (T j).1 (T j).2.1 (T j).2.2.1 ∈ hm_tb) ∧ (md = 0 → (T j).2.2.2 = false) ∧ (md = 1 → (T j).2.2.2 = true ∧ (T j).1 = own) ∧ parseFieldDescriptor (T j).2.2.1 = some ty ∧ (∀ k, k < N → parseFieldDescriptor (T k).2.2.1 = some (ty0 k)) ∧ ∀ a, a < N → ∀ b, b < N → a ≠ b → (T a).2.1 ≠ (T b).2.1
theorem hm_sameF {own : String} {s : State} {args : Array Value} (hts : ∀ w ∈ hm_tb, w.before args s = true) {ref o f d : String} (h : ref = o ∨ Cond.sameField ref o f d ∈ hm_tb) : ∀ x, s.fieldFound? o f d = some x → s.fieldFound? ref f d = some x := by
  intro x hx
  rcases h with rfl | h
  · exact hx
  · exact u_same (hts _ h) x hx
section HMHEAP
variable {X : hm_X} {l : Launch} {D : va_G} {BG : Nat → Option Cell} {cc : ByteArray} {own nm : String} {nL fr lo mc ms : Nat} {M : hm_M} {k n pc : Nat} {lv : List (Nat × Value)} {st : List Value}
theorem hm_widen {k' n' : Nat} (h1 : k ≤ k') (h2 : n ≤ n') (kk : hm_W X M k' n' pc lv st) : hm_W X M k n pc lv st := by
  obtain ⟨p, l', e, R, s, m, args, below, meth, c, Q, D', BG', A⟩ := X
  intro H locs ls q1 q2 q3 q4 q5
  exact W.widen h1 h2 (kk H locs ls q1 q2 q3 q4 q5)
theorem hm_eqM {M' : hm_M} (h : M = M') (kk : hm_W X M' k n pc lv st) : hm_W X M k n pc lv st := h ▸ kk
/-- fewer locals -/
theorem hm_less {lv' : List (Nat × Value)} (h : ∀ q ∈ lv', q ∈ lv) (kk : hm_W X M k n pc lv' st) : hm_W X M k n pc lv st := by
  obtain ⟨p, l', e, R, s, m, args, below, meth, c, Q, D', BG', A⟩ := X
  intro H locs ls q1 q2 q3 q4 q5
  exact kk H locs ls q1 q2 q3 q4 ⟨q5.1, q5.2.1, fun q hq => q5.2.2 q (h q hq)⟩
/-- a model that holds fewer cells, or the same -/
theorem hm_sub {M' : hm_M} (h : ∀ a e, M' a = some e → M a = some e) (kk : hm_W X M' k n pc lv st) : hm_W X M k n pc lv st := by
  obtain ⟨p, l', e, R, s, m, args, below, meth, c, Q, D', BG', A⟩ := X
  intro H locs ls q1 q2 q3 q4 q5
  exact kk H locs ls (fun a e ha => q1 a e (h a e ha)) q2 (fun a e ha => q3 a e (h a e ha)) q4 q5
theorem hm_get (C : hm_C X l D BG cc own nm nL fr lo mc ms) {ix ci j : Nat} {ty : FieldType} {md : Nat} (F : hm_F own ix ci j ty md) {a : Nat} {fs : List Value} {v : Value} (ha : M a = some (hm_ob ci fs)) (hv : fs[j]? = some v) (hd : decode cc pc = .ok (.getfield ix, 3)) (kk : hm_W X M k n (pc + 3) lv (v :: st)) : hm_W X M k n pc lv (.ref a :: st) := by
  obtain ⟨p, l', e, R, s, m, args, below, meth, c, Q, D', BG', A⟩ := X
  obtain ⟨hx, hb, hown, hts, hnw, hK, hA, hBG, hR, hml, hnm, el, eD, eB⟩ := C
  obtain ⟨Cn, T, N, ref, ty0, hin, hcl, hj, hlink, hsame, -, -, -, -, -⟩ := F
  intro H locs ls h1 h2 h3 h4 h5
  obtain ⟨r, g1, cell, q1, q2, q3, q4⟩ := h1 a _ ha
  have hr : r = (Cn, T, N) := Option.some.inj (g1.symm.trans hcl)
  subst hr
  obtain ⟨hS, hfc, kC, hkC, hkind⟩ := hK.1.1 ci _ hcl
  obtain ⟨cf, kf, fi, f, hi, hsl⟩ := hS j hj
  refine W.getf hx hb hown (hts _ hlink) (hm_sameF (own := own) hts hsame _ hi) (u_facts hfc hkC (u_lays hts hin hj) hi).1 q1 (by rw [q3]; exact fun h => by cases h) (v := v) ?_ rfl rfl hd (kk H locs ls h1 h2 h3 h4 h5)
  rw [hsl, q4 j hj]
  simp [vp_V, hv]
theorem hm_put (C : hm_C X l D BG cc own nm nL fr lo mc ms) {ix ci j : Nat} {ty : FieldType} (F : hm_F own ix ci j ty 0) {a : Nat} {fs : List Value} {v : Value} (ha : M a = some (hm_ob ci fs)) (hl : j < fs.length) (hn : narrow ty v = v) (hf : fits ty v = true) (hd : decode cc pc = .ok (.putfield ix, 3)) (kk : hm_W X (hm_up M a (hm_ob ci (fs.set j v))) k n (pc + 3) lv st) : hm_W X M k n pc lv (v :: .ref a :: st) := by
  obtain ⟨p, l', e, R, s, m, args, below, meth, c, Q, D', BG', A⟩ := X
  obtain ⟨hx, hb, hown, hts, hnw, hK, hA, hBG, hR, hml, hnm, el, eD, eB⟩ := C
  obtain ⟨Cn, T, N, ref, ty0, hin, hcl, hj, hlink, hsame, hfin0, -, hty, htys, hnms⟩ := F
  have hfin := hfin0 rfl
  intro H locs ls h1 h2 h3 h4 h5
  have hap := va_apart (own := own) hts hin ty0 htys hnms hK.1 hcl
  obtain ⟨r, g1, cell, q1, q2, q3, q4⟩ := h1 a _ ha
  have hr : r = (Cn, T, N) := Option.some.inj (g1.symm.trans hcl)
  subst hr
  obtain ⟨hS, hfc, kC, hkC, hkind⟩ := hK.1.1 ci _ hcl
  obtain ⟨cf, kf, fi, f, hi, hsl⟩ := hS j hj
  have hlay := hts _ (hin _ (u_in_lay hj))
  unfold u_lay at hlay
  rw [if_neg (by rw [hfin]; decide)] at hlay
  have hst := (u_facts hfc hkC (u_lays hts hin hj) hi).1
  have h6 := u_store hfc hkC hkind hlay hi hty hn hf
  refine W.putK hx hb (f := f) ⟨hown, hts _ hlink, ⟨_, _, _, hm_sameF (own := own) hts hsame _ hi⟩, hst⟩ (by rw [q2]; exact h6) q1 q3 (by rw [hsl]; exact k2_hasslot (q4 j hj)) rfl rfl hd fun H' e1 e2 e3 => ?_
  rw [hsl] at e1 ⊢
  refine kk H' _ ls (h1.put ⟨_, hcl, t_OB.to (V := updV (vp_V fs) j v) ⟨_, e1, q2, q3, t_set q4 hap hj v⟩ (fun i _ => vp_updV_set hl v i)⟩ e3) (h2.put hBG (h3 a _ ha) e3) (h3.put (h3 a _ ha)) (h4.put e2 e3 (h3 a _ ha)) h5
/-- a final field, in a constructor -/
theorem hm_putF (C : hm_C X l D BG cc own "<init>" nL fr lo mc ms) {ix ci j : Nat} {ty : FieldType} (F : hm_F own ix ci j ty 1) {a : Nat} {fs : List Value} {v : Value} (ha : M a = some (hm_ob ci fs)) (hl : j < fs.length) (hn : narrow ty v = v) (hf : fits ty v = true) (hd : decode cc pc = .ok (.putfield ix, 3)) (kk : hm_W X (hm_up M a (hm_ob ci (fs.set j v))) k n (pc + 3) lv st) : hm_W X M k n pc lv (v :: .ref a :: st) := by
  obtain ⟨p, l', e, R, s, m, args, below, meth, c, Q, D', BG', A⟩ := X
  obtain ⟨hx, hb, hown, hts, hnw, hK, hA, hBG, hR, hml, hnm, el, eD, eB⟩ := C
  obtain ⟨Cn, T, N, ref, ty0, hin, hcl, hj, hlink, hsame, -, hfd, hty, htys, hnms⟩ := F
  obtain ⟨hfin, hdec⟩ := hfd rfl
  intro H locs ls h1 h2 h3 h4 h5
  have hap := va_apart (own := own) hts hin ty0 htys hnms hK.1 hcl
  obtain ⟨r, g1, cell, q1, q2, q3, q4⟩ := h1 a _ ha
  have hr : r = (Cn, T, N) := Option.some.inj (g1.symm.trans hcl)
  subst hr
  obtain ⟨hS, hfc, kC, hkC, hkind⟩ := hK.1.1 ci _ hcl
  obtain ⟨cf, kf, fi, f, hi, hsl⟩ := hS j hj
  have hlay := hts _ (hin _ (u_in_lay hj))
  unfold u_lay at hlay
  rw [if_pos hfin] at hlay
  have hst := (u_facts hfc hkC (u_lays hts hin hj) hi).1
  have hcf : m.cls = cf := by
    obtain ⟨_, _, c', _, _, _, -, -, hf', -, -, -, hown2, -⟩ := Cond.laysFinal_spec hlay
    have e1 : c' = cf := by have := hi.symm.trans hf'; simp at this; exact this.1.symm
    rw [hdec] at hown2
    rw [← e1]; exact Option.some.inj (hown.symm.trans hown2)
  have h6 := u_fits hfc hkC hkind (Or.inr hlay) hi hty hn hf
  refine W.putFinK hx hb hown (hts _ hlink) (hm_sameF (own := own) hts hsame _ hi) hst hcf hnm (by rw [q2]; exact h6) q1 q3 (by rw [hsl]; exact k2_hasslot (q4 j hj)) rfl rfl hd fun H' e1 e2 e3 => ?_
  rw [hsl] at e1 ⊢
  refine kk H' _ ls (h1.put ⟨_, hcl, t_OB.to (V := updV (vp_V fs) j v) ⟨_, e1, q2, q3, t_set q4 hap hj v⟩ (fun i _ => vp_updV_set hl v i)⟩ e3) (h2.put hBG (h3 a _ ha) e3) (h3.put (h3 a _ ha)) (h4.put e2 e3 (h3 a _ ha)) h5
/-- an object of class ci: its word in own's pool at ix, its fields as they are born -/
def hm_O (own : String) (ix ci : Nat) (fs : List Value) : Prop := ∃ (Cn : String) (T : u_T) (ty : Nat → FieldType), (∀ w ∈ u_ws Cn T fs.length, w ∈ hm_tb) ∧ hm_cl[ci]? = some (Cn, T, fs.length) ∧ Cond.classLink own ix Cn ∈ hm_tb ∧ Cond.instantiable Cn fs.length ∈ hm_tb ∧ Cond.initialized Cn ∈ hm_tb ∧ (∀ k, k < fs.length → parseFieldDescriptor (T k).2.2.1 = some (ty k)) ∧ ∀ j, j < fs.length → defaultValue (ty j) = vp_V fs j
theorem hm_new (C : hm_C X l D BG cc own nm nL fr lo mc ms) {ix ci : Nat} {fs : List Value} (O : hm_O own ix ci fs) (hk : k + 1 ≤ mc) (hn : n + fs.length ≤ ms) (hd : decode cc pc = .ok (.new ix, 3)) (kk : ∀ q : Nat, M q = none → hm_W X (hm_up M q (hm_ob ci fs)) (k + 1) (n + fs.length) (pc + 3) lv (.ref q :: st)) : hm_W X M k n pc lv st := by
  obtain ⟨p, l', e, R, s, m, args, below, meth, c, Q, D', BG', A⟩ := X
  obtain ⟨hx, hb, hown, hts, hnw, hK, hA, hBG, hR, hml, hnm, el, eD, eB⟩ := C
  obtain ⟨Cn, T, ty, hin, hcl, hlink, hinst, hini, hty, hfs⟩ := O
  intro H locs ls h1 h2 h3 h4 h5
  have hKn := hK.1.1 ci _ hcl
  refine W.newcK hx hb hown (hts _ hlink) (hts _ hinst) (hts _ hini) rfl hd (by rw [hR]; exact hk) (by rw [hR]; exact hn) hKn.2.1 rfl fun H1 kC hkC e1 z1 o1 => ?_
  refine kk H.size h1.fresh H1 locs ls (h1.new ⟨_, hcl, (u_born ty hts hin hKn hkC e1 hty).to hfs⟩ o1) (h2.new o1) (h3.put (hA _ h4.1)) (hm_Snew h4 z1 o1) h5
/-- arrays -/
theorem hm_alen (C : hm_C X l D BG cc own nm nL fr lo mc ms) {t : Nat} {ty : FieldType} (hty : hm_tys[t]? = some ty) {a : Nat} {x : vp_A} (ha : M a = some (.inl (D.1 (100 + t), x))) (hd : decode cc pc = .ok (.arraylength, 1)) (kk : hm_W X M k n (pc + 1) lv (.int (nI x.1) :: st)) : hm_W X M k n pc lv (.ref a :: st) := by
  obtain ⟨p, l', e, R, s, m, args, below, meth, c, Q, D', BG', A⟩ := X
  obtain ⟨hx, hb, hown, hts, hnw, hK, hA, hBG, hR, hml, hnm, el, eD, eB⟩ := C
  intro H locs ls h1 h2 h3 h4 h5
  subst eD
  have hP : va_P D' hm_cl [(a, .inl (D'.1 (100 + t), x))] H := fun i q hq => by
    cases i with
    | zero => cases hq; exact h1 a _ ha
    | succ i => simp at hq
  have hK' : va_K D' hm_cl [(D'.1 (100 + t), ty)] s := ⟨hK.1.1, fun i q hq => by
    cases i with
    | zero => cases hq; exact hK.2.1 t ty hty
    | succ i => simp at hq⟩
  exact va_alen hx hb hK' hP 0 0 rfl rfl rfl hd (kk H locs ls h1 h2 h3 h4 h5)
theorem hm_aald (C : hm_C X l D BG cc own nm nL fr lo mc ms) {t N : Nat} {E : String} (hty : hm_tys[t]? = some (.object E)) {a j : Nat} {f : Nat → Option Nat} {i : Int32} (ha : M a = some (hm_ar D t N f)) (hi : i = nI j) (hj : j < N) (hN : N < 2 ^ 31) (hd : decode cc pc = .ok (.aaload, 1)) (kk : hm_W X M k n (pc + 1) lv (va_rf (f j) :: st)) : hm_W X M k n pc lv (.int i :: .ref a :: st) := by
  obtain ⟨p, l', e, R, s, m, args, below, meth, c, Q, D', BG', A⟩ := X
  obtain ⟨hx, hb, hown, hts, hnw, hK, hA, hBG, hR, hml, hnm, el, eD, eB⟩ := C
  intro H locs ls h1 h2 h3 h4 h5
  subst eD
  subst hi
  have hP : va_P D' hm_cl [(a, hm_ar D' t N f)] H := fun i q hq => by
    cases i with
    | zero => cases hq; exact h1 a _ ha
    | succ i => simp at hq
  have hK' : va_K D' hm_cl [(D'.1 (100 + t), .object E)] s := ⟨hK.1.1, fun i q hq => by
    cases i with
    | zero => cases hq; exact hK.2.1 t _ hty
    | succ i => simp at hq⟩
  refine va_aldq hx hb hK' hP 0 0 rfl rfl (vp_in_nI hj hN) hd ?_
  rw [nI_clamp (by omega)]
  exact kk H locs ls h1 h2 h3 h4 h5
theorem hm_iald (C : hm_C X l D BG cc own nm nL fr lo mc ms) {t N : Nat} (hty : hm_tys[t]? = some .int) {a j : Nat} {f : Nat → Int32} {i : Int32} (ha : M a = some (hm_ai D t N f)) (hi : i = nI j) (hj : j < N) (hN : N < 2 ^ 31) (hd : decode cc pc = .ok (.iaload, 1)) (kk : hm_W X M k n (pc + 1) lv (.int (f j) :: st)) : hm_W X M k n pc lv (.int i :: .ref a :: st) := by
  obtain ⟨p, l', e, R, s, m, args, below, meth, c, Q, D', BG', A⟩ := X
  obtain ⟨hx, hb, hown, hts, hnw, hK, hA, hBG, hR, hml, hnm, el, eD, eB⟩ := C
  intro H locs ls h1 h2 h3 h4 h5
  subst eD
  subst hi
  have hP : va_P D' hm_cl [(a, hm_ai D' t N f)] H := fun i q hq => by
    cases i with
    | zero => cases hq; exact h1 a _ ha
    | succ i => simp at hq
  have hK' : va_K D' hm_cl [(D'.1 (100 + t), .int)] s := ⟨hK.1.1, fun i q hq => by
    cases i with
    | zero => cases hq; exact hK.2.1 t _ hty
    | succ i => simp at hq⟩
  refine va_iald hx hb hK' hP 0 0 rfl rfl (vp_in_nI hj hN) hd ?_
  rw [nI_clamp (by omega)]
  exact kk H locs ls h1 h2 h3 h4 h5
theorem hm_iast (C : hm_C X l D BG cc own nm nL fr lo mc ms) {t N : Nat} (hty : hm_tys[t]? = some .int) {a j : Nat} {f : Nat → Int32} {i x : Int32} (ha : M a = some (hm_ai D t N f)) (hi : i = nI j) (hj : j < N) (hN : N < 2 ^ 31) (hd : decode cc pc = .ok (.iastore, 1)) (kk : hm_W X (hm_up M a (hm_ai D t N (upd f j x))) k n (pc + 1) lv st) : hm_W X M k n pc lv (.int x :: .int i :: .ref a :: st) := by
  obtain ⟨p, l', e, R, s, m, args, below, meth, c, Q, D', BG', A⟩ := X
  obtain ⟨hx, hb, hown, hts, hnw, hK, hA, hBG, hR, hml, hnm, el, eD, eB⟩ := C
  intro H locs ls h1 h2 h3 h4 h5
  subst eD
  subst hi
  have hcl : (nI j).toNatClampNeg = j := nI_clamp (by omega)
  have hcell : H[a]? = some (vp_cell (D'.1 (100 + t)) (N, .inl f)) := h1 a _ ha
  refine W.iast hx hb hcell ((hK.2.1 t _ hty).1 N (fun j => .int (f j))) (fun q => by cases q) (by show ¬ (nI j < 0 ∨ (arrV _ _ _).slots.size ≤ _); rw [arrV_size]; exact vp_in_nI hj hN) rfl rfl hd fun H1 e z oq => ?_
  have he : va_at D' hm_cl (a, hm_ai D' t N (upd f j x)) H1 := by
    show H1[a]? = some (vp_cell _ _)
    rw [e, vp_cell_i, vp_cell_i, arrV_store, hcl]
    congr 2
    funext q
    by_cases hq : q = j
    · subst hq
      simp [updV, upd]
    · simp [updV, upd, hq]
  exact kk H1 _ ls (h1.put he oq) (h2.put hBG (h3 a _ ha) oq) (h3.put (h3 a _ ha)) (h4.put z oq (h3 a _ ha)) h5
theorem hm_bald (C : hm_C X l D BG cc own nm nL fr lo mc ms) {t N : Nat} (hty : hm_tys[t]? = some .byte) {a j : Nat} {f : Nat → Int32} {i : Int32} (ha : M a = some (hm_ai D t N f)) (hi : i = nI j) (hj : j < N) (hN : N < 2 ^ 31) (hd : decode cc pc = .ok (.baload, 1)) (kk : hm_W X M k n (pc + 1) lv (.int (f j) :: st)) : hm_W X M k n pc lv (.int i :: .ref a :: st) := by
  obtain ⟨p, l', e, R, s, m, args, below, meth, c, Q, D', BG', A⟩ := X
  obtain ⟨hx, hb, hown, hts, hnw, hK, hA, hBG, hR, hml, hnm, el, eD, eB⟩ := C
  intro H locs ls h1 h2 h3 h4 h5
  subst eD
  subst hi
  have hP : va_P D' hm_cl [(a, hm_ai D' t N f)] H := fun i q hq => by
    cases i with
    | zero => cases hq; exact h1 a _ ha
    | succ i => simp at hq
  have hK' : va_K D' hm_cl [(D'.1 (100 + t), .byte)] s := ⟨hK.1.1, fun i q hq => by
    cases i with
    | zero => cases hq; exact hK.2.1 t _ hty
    | succ i => simp at hq⟩
  refine va_bald hx hb hK' hP 0 0 rfl rfl (vp_in_nI hj hN) hd ?_
  rw [nI_clamp (by omega)]
  exact kk H locs ls h1 h2 h3 h4 h5
theorem hm_zald (C : hm_C X l D BG cc own nm nL fr lo mc ms) {t N : Nat} (hty : hm_tys[t]? = some .boolean) {a j : Nat} {f : Nat → Int32} {i : Int32} (ha : M a = some (hm_ai D t N f)) (hi : i = nI j) (hj : j < N) (hN : N < 2 ^ 31) (hd : decode cc pc = .ok (.baload, 1)) (kk : hm_W X M k n (pc + 1) lv (.int (f j) :: st)) : hm_W X M k n pc lv (.int i :: .ref a :: st) := by
  obtain ⟨p, l', e, R, s, m, args, below, meth, c, Q, D', BG', A⟩ := X
  obtain ⟨hx, hb, hown, hts, hnw, hK, hA, hBG, hR, hml, hnm, el, eD, eB⟩ := C
  intro H locs ls h1 h2 h3 h4 h5
  subst eD
  subst hi
  have hP : va_P D' hm_cl [(a, hm_ai D' t N f)] H := fun i q hq => by
    cases i with
    | zero => cases hq; exact h1 a _ ha
    | succ i => simp at hq
  have hK' : va_K D' hm_cl [(D'.1 (100 + t), .boolean)] s := ⟨hK.1.1, fun i q hq => by
    cases i with
    | zero => cases hq; exact hK.2.1 t _ hty
    | succ i => simp at hq⟩
  refine va_zald hx hb hK' hP 0 0 rfl rfl (vp_in_nI hj hN) hd ?_
  rw [nI_clamp (by omega)]
  exact kk H locs ls h1 h2 h3 h4 h5
theorem hm_bast (C : hm_C X l D BG cc own nm nL fr lo mc ms) {t N : Nat} (hty : hm_tys[t]? = some .byte) {a j : Nat} {f : Nat → Int32} {i x : Int32} (ha : M a = some (hm_ai D t N f)) (hi : i = nI j) (hj : j < N) (hN : N < 2 ^ 31) (hd : decode cc pc = .ok (.bastore, 1)) (kk : hm_W X (hm_up M a (hm_ai D t N (upd f j (vp_nar .byte x)))) k n (pc + 1) lv st) : hm_W X M k n pc lv (.int x :: .int i :: .ref a :: st) := by
  obtain ⟨p, l', e, R, s, m, args, below, meth, c, Q, D', BG', A⟩ := X
  obtain ⟨hx, hb, hown, hts, hnw, hK, hA, hBG, hR, hml, hnm, el, eD, eB⟩ := C
  intro H locs ls h1 h2 h3 h4 h5
  subst eD
  subst hi
  have hcl : (nI j).toNatClampNeg = j := nI_clamp (by omega)
  have hcell : H[a]? = some (vp_cell (D'.1 (100 + t)) (N, .inl f)) := h1 a _ ha
  refine W.bast hx hb hcell ((hK.2.1 t _ hty).1 N (fun j => .int (f j))) (fun q => by cases q) (by show ¬ (nI j < 0 ∨ (arrV _ _ _).slots.size ≤ _); rw [arrV_size]; exact vp_in_nI hj hN) rfl rfl hd fun H1 e z oq => ?_
  have he : va_at D' hm_cl (a, hm_ai D' t N (upd f j (vp_nar .byte x))) H1 := by
    show H1[a]? = some (vp_cell _ _)
    rw [e, vp_cell_i, vp_cell_i, arrV_store, hcl]
    congr 2
    funext q
    by_cases hq : q = j
    · subst hq
      simp [updV, upd, vp_nar]
      try rfl
    · simp [updV, upd, hq]
  exact kk H1 _ ls (h1.put he oq) (h2.put hBG (h3 a _ ha) oq) (h3.put (h3 a _ ha)) (h4.put z oq (h3 a _ ha)) h5
theorem hm_zast (C : hm_C X l D BG cc own nm nL fr lo mc ms) {t N : Nat} (hty : hm_tys[t]? = some .boolean) {a j : Nat} {f : Nat → Int32} {i x : Int32} (ha : M a = some (hm_ai D t N f)) (hi : i = nI j) (hj : j < N) (hN : N < 2 ^ 31) (hd : decode cc pc = .ok (.bastore, 1)) (kk : hm_W X (hm_up M a (hm_ai D t N (upd f j (vp_nar .boolean x)))) k n (pc + 1) lv st) : hm_W X M k n pc lv (.int x :: .int i :: .ref a :: st) := by
  obtain ⟨p, l', e, R, s, m, args, below, meth, c, Q, D', BG', A⟩ := X
  obtain ⟨hx, hb, hown, hts, hnw, hK, hA, hBG, hR, hml, hnm, el, eD, eB⟩ := C
  intro H locs ls h1 h2 h3 h4 h5
  subst eD
  subst hi
  have hcl : (nI j).toNatClampNeg = j := nI_clamp (by omega)
  have hcell : H[a]? = some (vp_cell (D'.1 (100 + t)) (N, .inl f)) := h1 a _ ha
  refine W.zast hx hb hcell ((hK.2.1 t _ hty).1 N (fun j => .int (f j))) (fun q => by cases q) (by show ¬ (nI j < 0 ∨ (arrV _ _ _).slots.size ≤ _); rw [arrV_size]; exact vp_in_nI hj hN) rfl rfl hd fun H1 e z oq => ?_
  have he : va_at D' hm_cl (a, hm_ai D' t N (upd f j (vp_nar .boolean x))) H1 := by
    show H1[a]? = some (vp_cell _ _)
    rw [e, vp_cell_i, vp_cell_i, arrV_store, hcl]
    congr 2
    funext q
    by_cases hq : q = j
    · subst hq
      simp [updV, upd, vp_nar]
      try rfl
    · simp [updV, upd, hq]
  exact kk H1 _ ls (h1.put he oq) (h2.put hBG (h3 a _ ha) oq) (h3.put (h3 a _ ha)) (h4.put z oq (h3 a _ ha)) h5
/-- C's objects may lie in an array of E -/
def hm_as (Cn E : String) : Prop := Cn = E ∨ Cond.castable Cn E ∈ lw_tbl
theorem hm_aast (C : hm_C X l D BG cc own nm nL fr lo mc ms) {t N : Nat} {E : String} (hty : hm_tys[t]? = some (.object E)) {a j v ci : Nat} {vs : List Value} {r : vw_C} {f : Nat → Option Nat} {i : Int32} (ha : M a = some (hm_ar D t N f)) (hv : M v = some (hm_ob ci vs)) (hc : hm_cl[ci]? = some r) (hE : hm_as r.1 E) (hi : i = nI j) (hj : j < N) (hN : N < 2 ^ 31) (hd : decode cc pc = .ok (.aastore, 1)) (kk : hm_W X (hm_up M a (hm_ar D t N (va_up f j (some v)))) k n (pc + 1) lv st) : hm_W X M k n pc lv (.ref v :: .int i :: .ref a :: st) := by
  obtain ⟨p, l', e, R, s, m, args, below, meth, c, Q, D', BG', A⟩ := X
  obtain ⟨hx, hb, hown, hts, hnw, hK, hA, hBG, hR, hml, hnm, el, eD, eB⟩ := C
  intro H locs ls h1 h2 h3 h4 h5
  subst eD
  subst hi
  have hcl : (nI j).toNatClampNeg = j := nI_clamp (by omega)
  obtain ⟨r', g0, cellV, g1, g2, g3, -⟩ := h1 v _ hv
  have hcls := (hK.1.1 ci r hc).2
  obtain ⟨kA, comp, k1, k2, k3, -⟩ := (hK.2.1 t _ hty).2
  obtain ⟨kE, hkE, -⟩ := Vm.findClass_spec k3
  obtain ⟨kC, hkC, -⟩ := hcls.2
  have hasg : s.vm.assignable cellV.cls comp = true := by
    rw [g2]
    rcases hE with hE | hE
    · have e1 : comp = D'.1 ci := by
        have h9 := hcls.1
        rw [hE] at h9
        exact Option.some.inj (k3.symm.trans h9)
      rw [e1]
      exact va_assign hcls
    · obtain ⟨c0, t0, f1, f2, f3⟩ := Cond.castable_spec (va_Nw.use (A := args) rfl (hnw _ hE rfl))
      cases hcls.1.symm.trans f1
      cases k3.symm.trans f2
      exact f3
  have hcell : H[a]? = some (vp_cell (D'.1 (100 + t)) (N, .inr (.inr (.inr (.inr f))))) := h1 a _ ha
  refine W.aast hx hb hcell (fun q h => by cases h) (fun h => by cases h) k1 k2 rfl hkE ⟨fun q => vp_in_nI hj hN (Or.inl q), by show _ < (arrV _ _ _).slots.size; rw [arrV_size, hcl]; exact hj⟩ g1 (fun q h => by rw [g3] at h; cases h) (by rw [g2]; exact hkC) hasg rfl rfl hd fun H1 e z oq => ?_
  have he : va_at D' hm_cl (a, hm_ar D' t N (va_up f j (some v))) H1 := by
    show H1[a]? = some (vp_cell _ _)
    rw [e, vp_cell_q, vp_cell_q, arrV_store, hcl]
    congr 2
    funext q
    by_cases hq : q = j
    · subst hq
      simp [updV, va_up, va_rf]
    · simp [updV, va_up, hq]
  exact kk H1 _ ls (h1.put he oq) (h2.put hBG (h3 a _ ha) oq) (h3.put (h3 a _ ha)) (h4.put z oq (h3 a _ ha)) h5
theorem hm_aastN (C : hm_C X l D BG cc own nm nL fr lo mc ms) {t N : Nat} {E : String} (hty : hm_tys[t]? = some (.object E)) {a j : Nat} {f : Nat → Option Nat} {i : Int32} (ha : M a = some (hm_ar D t N f)) (hi : i = nI j) (hj : j < N) (hN : N < 2 ^ 31) (hd : decode cc pc = .ok (.aastore, 1)) (kk : hm_W X (hm_up M a (hm_ar D t N (va_up f j none))) k n (pc + 1) lv st) : hm_W X M k n pc lv (.null :: .int i :: .ref a :: st) := by
  obtain ⟨p, l', e, R, s, m, args, below, meth, c, Q, D', BG', A⟩ := X
  obtain ⟨hx, hb, hown, hts, hnw, hK, hA, hBG, hR, hml, hnm, el, eD, eB⟩ := C
  intro H locs ls h1 h2 h3 h4 h5
  subst eD
  subst hi
  have hcl : (nI j).toNatClampNeg = j := nI_clamp (by omega)
  have hcell : H[a]? = some (vp_cell (D'.1 (100 + t)) (N, .inr (.inr (.inr (.inr f))))) := h1 a _ ha
  refine va_WaastN (C := E) hx hb hcell ((hK.2.1 t _ hty).1 N (fun j => va_rf (f j))) (fun h => by cases h) (by show ¬ (nI j < 0 ∨ (arrV _ _ _).slots.size ≤ _); rw [arrV_size]; exact vp_in_nI hj hN) rfl rfl hd fun H1 e z oq => ?_
  have he : va_at D' hm_cl (a, hm_ar D' t N (va_up f j none)) H1 := by
    show H1[a]? = some (vp_cell _ _)
    rw [e, vp_cell_q, vp_cell_q, arrV_store, hcl]
    congr 2
    funext q
    by_cases hq : q = j
    · subst hq
      simp [updV, va_up, va_rf]
    · simp [updV, va_up, hq]
  exact kk H1 _ ls (h1.put he oq) (h2.put hBG (h3 a _ ha) oq) (h3.put (h3 a _ ha)) (h4.put z oq (h3 a _ ha)) h5
theorem hm_anew (C : hm_C X l D BG cc own nm nL fr lo mc ms) {ix t N : Nat} {E : String} (hty : hm_tys[t]? = some (.object E)) (hlink : Cond.classLink own ix E ∈ hm_tb) (hover : Cond.arrayOver (.object E) ∈ lw_tbl) {i : Int32} (hi : i = nI N) (hN : N ≤ 65536) (hk : k + 1 ≤ mc) (hn : n + N ≤ ms) (hd : decode cc pc = .ok (.anewarray ix, 3)) (kk : ∀ q : Nat, M q = none → hm_W X (hm_up M q (hm_ar D t N (fun _ => none))) (k + 1) (n + N) (pc + 3) lv (.ref q :: st)) : hm_W X M k n pc lv (.int i :: st) := by
  obtain ⟨p, l', e, R, s, m, args, below, meth, c, Q, D', BG', A⟩ := X
  obtain ⟨hx, hb, hown, hts, hnw, hK, hA, hBG, hR, hml, hnm, el, eD, eB⟩ := C
  intro H locs ls h1 h2 h3 h4 h5
  subst eD
  subst hi
  have hcl : (nI N).toNatClampNeg = N := nI_clamp (by omega)
  refine W.anew hx hb hown (hts _ hlink) (va_AO.use (hnw _ hover rfl)) rfl hd rfl (nI_pos (by omega)) (by rw [hcl]; omega) (by rw [hR]; exact hk) (by rw [hR, hcl]; exact hn) fun cA kA comp f1 f2 f3 f4 => ?_
  rw [hcl]
  obtain ⟨-, -, -, -, -, q4⟩ := (hK.2.1 t _ hty).2
  have ec : cA = D'.1 (100 + t) := Option.some.inj (f1.symm.trans q4)
  subst ec
  generalize hH1 : H.push ({ cls := D'.1 (100 + t), slots := Array.replicate N .null, vm := .none } : Cell) = H1
  have z1 : H1.size = H.size + 1 := by rw [← hH1, Array.size_push]
  have e1 : H1[H.size]? = some (arrV (D'.1 (100 + t)) N (fun _ => .null)) := by rw [← hH1, Array.getElem?_push_size, ← arrV_new]
  have o1 : ∀ q : Nat, q < H.size → H1[q]? = H[q]? := fun q hq => by rw [← hH1, Array.getElem?_push, if_neg (Nat.ne_of_lt hq)]
  exact kk H.size h1.fresh H1 locs ls (h1.new e1 o1) (h2.new o1) (h3.put (hA _ h4.1)) (hm_Snew h4 z1 o1) h5
theorem hm_pnew (C : hm_C X l D BG cc own nm nL fr lo mc ms) {t N : Nat} {ty : FieldType} (hty : hm_tys[t]? = some ty) (hpr : ty = .int ∨ ty = .byte ∨ ty = .boolean) (harr : Cond.arrayClass ty ∈ hm_tb) {i : Int32} (hi : i = nI N) (hN : N ≤ 65536) (hk : k + 1 ≤ mc) (hn : n + N ≤ ms) {aty : ArrayType} (hat : newarray.typeOf aty = ty) (hd : decode cc pc = .ok (.newarray aty, 2)) (kk : ∀ q : Nat, M q = none → hm_W X (hm_up M q (hm_ai D t N (fun _ => 0))) (k + 1) (n + N) (pc + 2) lv (.ref q :: st)) : hm_W X M k n pc lv (.int i :: st) := by
  obtain ⟨p, l', e, R, s, m, args, below, meth, c, Q, D', BG', A⟩ := X
  obtain ⟨hx, hb, hown, hts, hnw, hK, hA, hBG, hR, hml, hnm, el, eD, eB⟩ := C
  intro H locs ls h1 h2 h3 h4 h5
  subst eD
  subst hi
  have hcl : (nI N).toNatClampNeg = N := nI_clamp (by omega)
  have hby : N * componentBytes (newarray.typeOf aty) ≤ 536870912 := by
    rw [hat]
    rcases hpr with rfl | rfl | rfl
    · show N * 4 ≤ _; omega
    · show N * 1 ≤ _; omega
    · show N * 1 ≤ _; omega
  refine va_newaK hx hb (by rw [hat]; exact hts _ harr) rfl hd rfl (nI_pos (by omega)) hcl hby (by rw [hR]; exact hk) (by rw [hR]; exact hn) rfl fun H1 cA e1 z1 o1 hAr hNm => ?_
  have q4 := (hK.2.1 t _ hty).2
  have ec : cA = D'.1 (100 + t) := by
    rw [hat] at hNm
    rcases hpr with rfl | rfl | rfl <;> exact Option.some.inj (hNm.symm.trans q4)
  subst ec
  rw [hat] at e1
  have e2 : H1[H.size]? = some (arrV (D'.1 (100 + t)) N (fun _ => .int 0)) := by
    rcases hpr with rfl | rfl | rfl <;> exact e1
  exact kk H.size h1.fresh H1 locs ls (h1.new e2 o1) (h2.new o1) (h3.put (hA _ h4.1)) (hm_Snew h4 z1 o1) h5
theorem hm_cast (C : hm_C X l D BG cc own nm nL fr lo mc ms) {ix ci a : Nat} {fs : List Value} {r : vw_C} (ha : M a = some (hm_ob ci fs)) (hc : hm_cl[ci]? = some r) (hlink : Cond.classLink own ix r.1 ∈ hm_tb) (hd : decode cc pc = .ok (.checkcast ix, 3)) (kk : hm_W X M k n (pc + 3) lv (.ref a :: st)) : hm_W X M k n pc lv (.ref a :: st) := by
  obtain ⟨p, l', e, R, s, m, args, below, meth, c, Q, D', BG', A⟩ := X
  obtain ⟨hx, hb, hown, hts, hnw, hK, hA, hBG, hR, hml, hnm, el, eD, eB⟩ := C
  intro H locs ls h1 h2 h3 h4 h5
  obtain ⟨r', g0, cell, g1, g2, g3, -⟩ := h1 a _ ha
  have hcls := (hK.1.1 ci r hc).2
  exact va_castS hx hb hown (hts _ hlink) hcls ⟨cell, g1, by rw [g3]; rfl, by rw [g2]; exact hcls.1⟩ hd (kk H locs ls h1 h2 h3 h4 h5)
/-- ArrayList's empty array: the one static that is read -/
theorem hm_gets (C : hm_C X l D BG cc own nm nL fr lo mc ms) {ix : Nat} (hlink : Cond.fieldLink own ix "java/util/ArrayList" "DEFAULTCAPACITY_EMPTY_ELEMENTDATA" "[Ljava/lang/Object;" ∈ hm_tb) (hd : decode cc pc = .ok (.getstatic ix, 3)) (kk : hm_W X M k n (pc + 3) lv (.ref (D.2 999 0) :: st)) : hm_W X M k n pc lv st := by
  obtain ⟨p, l', e, R, s, m, args, below, meth, c, Q, D', BG', A⟩ := X
  obtain ⟨hx, hb, hown, hts, hnw, hK, hA, hBG, hR, hml, hnm, el, eD, eB⟩ := C
  intro H locs ls h1 h2 h3 h4 h5
  subst eD
  obtain ⟨cf, kf, fi, f, a, cell, q1, q2, q3, q4, q5, q6, q7⟩ := hK.2.2.1
  exact W.gets hx hb hown (hts _ hlink) q1 q2 q3 q4 (h2 a cell q5) (fun h => by rw [h] at q6; cases q6) q7 rfl hd (kk H locs ls h1 h2 h3 h4 h5)
theorem hm_alenE (C : hm_C X l D BG cc own nm nL fr lo mc ms) (hd : decode cc pc = .ok (.arraylength, 1)) (kk : hm_W X M k n (pc + 1) lv (.int 0 :: st)) : hm_W X M k n pc lv (.ref (D.2 999 0) :: st) := by
  obtain ⟨p, l', e, R, s, m, args, below, meth, c, Q, D', BG', A⟩ := X
  obtain ⟨hx, hb, hown, hts, hnw, hK, hA, hBG, hR, hml, hnm, el, eD, eB⟩ := C
  intro H locs ls h1 h2 h3 h4 h5
  subst eD
  exact W.alen (n := 0) hx hb (h2 _ _ hK.2.2.2.1) ((hK.2.1 0 _ rfl).1 0 (fun _ => .null)) (by rw [arrV_size]; rfl) rfl rfl hd (kk H locs ls h1 h2 h3 h4 h5)
end HMHEAP
/-- a method's end: its answer r and the model behind it -/
def hm_Q (D : va_G) (M : hm_M) (sz : Nat) (Post : Option Value → hm_M → Prop) : Array Value → State → Outcome → State → Prop := fun _ st o t => (∃ (r : Option Value) (M' : hm_M), o = .returned r ∧ Post r M' ∧ hm_P D M' t.heap ∧ hm_In (hm_A M sz) M') ∧ va_F (hm_A M sz) st t
def hm_Pre (D : va_G) (BG : Nat → Option Cell) (av : List Value) (M : hm_M) (sz : Nat) : Array Value → State → Prop := va_Pc av (fun U => U.heap.size = sz ∧ hm_P D M U.heap ∧ hm_B BG U.heap ∧ (∀ q, M q ≠ none → BG q = none) ∧ hm_N U ∧ hm_K D BG U)
/-- THE CONTRACT: at the model M, with the arguments av, the method returns, with Post -/
def hm_ct (l : Launch) (D : va_G) (BG : Nat → Option Cell) (y : MethodName) (cc : ByteArray) (maxL : Nat) (ret : Option FieldType) (fr lo mc ms : Nat) (av : List Value) (M : hm_M) (Post : Option Value → hm_M → Prop) : Prop :=
  ∀ sz : Nat, Met l y (Cond.code y cc maxL ret :: hm_tb) { frames := fr, cells := mc, slots := ms, locals := lo } (hm_Pre D BG av M sz) (hm_Q D M sz Post) mc ms (hm_A M sz)
/-- what the end of a method is held to -/
def hm_E (X : hm_X) (ret : Option FieldType) (M0 : hm_M) (Post : Option Value → hm_M → Prop) (mc ms : Nat) : Prop := match X with
  | (_, _, _, _, s, _, args, below, meth, _, Q, D, _, A) => meth.sig.returnType = ret ∧ meth.locks = false ∧ A = hm_A M0 s.heap.size ∧ Q = MQ below (hm_Q D M0 s.heap.size Post) args s mc ms (hm_A M0 s.heap.size)
theorem hm_blind {D : va_G} {BG : Nat → Option Cell} {av : List Value} {M : hm_M} {sz : Nat} : FrameBlind (hm_Pre D BG av M sz) := by
  intro a U g mk h
  obtain ⟨q0, q1, q2, q3, q4, q5, q6⟩ := h
  exact ⟨q0, q1, q2, q3, q4, hm_N.same (s := U) (U := U.calling g mk a) rfl q5, hm_K.moved (u := U) (U := U.calling g mk a) (Vm.Alike.refl U.vm) q6⟩
set_option maxHeartbeats 4000000 in
theorem hm_ct_of {l : Launch} {D : va_G} {BG : Nat → Option Cell} {y : MethodName} {cc : ByteArray} {maxL : Nat} {ret : Option FieldType} {fr lo mc ms : Nat} {av : List Value} {M : hm_M} {Post : Option Value → hm_M → Prop} (hy : plainName y.cls = true) (hav : (lg_sl av).length ≤ maxL)
    (body : ∀ X : hm_X, hm_C X l D BG cc y.cls y.name maxL fr lo mc ms → hm_E X ret M Post mc ms → hm_W X M 0 0 0 (lv_args 0 av) []) : hm_ct l D BG y cc maxL ret fr lo mc ms av M Post := by
  intro sz
  refine Met.ofW (cc := cc) (maxL := maxL) (ret := ret) hy rfl ?_
  intro p e s m args below meth c s₁ B hml hv
  obtain ⟨rfl, hsz, hP, hB, hdis, hN, hK⟩ := hv
  subst hsz
  have hts0 := atoms_spec (ws := Cond.code y cc maxL ret :: hm_tb) B.pre
  have hts : ∀ w ∈ hm_tb, w.before av.toArray s = true := fun w hw => hts0 w (List.mem_cons_of_mem _ hw)
  have hl := lv_entry av (n := maxL) hav
  rw [lg_entry_eq]
  have hBG : ∀ q, hm_A M s.heap.size q → BG q = none := by
    intro q hq
    rcases hq with hq | hq
    · exact hdis q hq
    · cases hb : BG q with
      | none => rfl
      | some cell => exact absurd (Array.getElem?_eq_some_iff.mp (hB q cell hb)).1 (by omega)
  have hC : hm_C (p, l, e, { frames := fr, cells := mc, slots := ms, locals := lo }, s, m, av.toArray, below, meth, c, MQ below (hm_Q D M s.heap.size Post) av.toArray s mc ms (hm_A M s.heap.size), D, BG, hm_A M s.heap.size) l D BG cc y.cls y.name maxL fr lo mc ms :=
    ⟨B.exec, B.bytes, findClass_of_methodNamed B.named, hts, hN, hK, fun q h => Or.inr h, hBG, rfl, hml, (name_of_methodNamed B.named B.method).1, rfl, rfl, rfl⟩
  have hE : hm_E (p, l, e, { frames := fr, cells := mc, slots := ms, locals := lo }, s, m, av.toArray, below, meth, c, MQ below (hm_Q D M s.heap.size Post) av.toArray s mc ms (hm_A M s.heap.size), D, BG, hm_A M s.heap.size) ret M Post mc ms :=
    ⟨B.returns, B.notSynchronized, rfl, rfl⟩
  have h0 := body _ hC hE
  exact h0 s.heap [] _ hP hB (fun a e ha => Or.inl (by rw [ha]; simp)) va_S.rf (by rw [hml]; exact hl)
section HMEND
variable {X : hm_X} {l : Launch} {D : va_G} {BG : Nat → Option Cell} {cc : ByteArray} {own nm : String} {nL fr lo mc ms : Nat} {M M0 : hm_M} {k n pc : Nat} {lv : List (Nat × Value)} {st : List Value} {Post : Option Value → hm_M → Prop}
theorem hm_iret (C : hm_C X l D BG cc own nm nL fr lo mc ms) (E : hm_E X (some .int) M0 Post mc ms) {v : Int32} (hk : k ≤ mc) (hn : n ≤ ms) (hp : Post (some (.int v)) M) (hd : decode cc pc = .ok (.ireturn, 1)) : hm_W X M k n pc lv [.int v] := by
  obtain ⟨p, l', e, R, s, m, args, below, meth, c, Q, D', BG', A⟩ := X
  obtain ⟨hx, hb, hown, hts, hnw, hK, hA, hBG, hR, hml, hnm, el, eD, eB⟩ := C
  obtain ⟨hr, hlk, eA, eQ⟩ := E
  intro H locs ls h1 h2 h3 h4 h5
  subst eQ; subst eA
  refine W.widen hk hn ?_
  exact W.iret hx hb hr (fun t ht hW => ⟨⟨_, M, rfl, hp, by rw [ht]; exact h1, h3⟩, h4.F ht⟩) h4.2.2 hd
theorem hm_zret (C : hm_C X l D BG cc own nm nL fr lo mc ms) (E : hm_E X (some .boolean) M0 Post mc ms) {v : Int32} (hv : v = 0 ∨ v = 1) (hk : k ≤ mc) (hn : n ≤ ms) (hp : Post (some (.int v)) M) (hd : decode cc pc = .ok (.ireturn, 1)) : hm_W X M k n pc lv [.int v] := by
  obtain ⟨p, l', e, R, s, m, args, below, meth, c, Q, D', BG', A⟩ := X
  obtain ⟨hx, hb, hown, hts, hnw, hK, hA, hBG, hR, hml, hnm, el, eD, eB⟩ := C
  obtain ⟨hr, hlk, eA, eQ⟩ := E
  intro H locs ls h1 h2 h3 h4 h5
  subst eQ; subst eA
  refine W.widen hk hn ?_
  exact W.zret hx hb hr (by rcases hv with rfl | rfl <;> rfl) (fun t ht hW => ⟨⟨_, M, rfl, hp, by rw [ht]; exact h1, h3⟩, h4.F ht⟩) h4.2.2 hd
theorem hm_vret (C : hm_C X l D BG cc own nm nL fr lo mc ms) (E : hm_E X none M0 Post mc ms) (hk : k ≤ mc) (hn : n ≤ ms) (hp : Post none M) (hd : decode cc pc = .ok (.return_, 1)) : hm_W X M k n pc lv [] := by
  obtain ⟨p, l', e, R, s, m, args, below, meth, c, Q, D', BG', A⟩ := X
  obtain ⟨hx, hb, hown, hts, hnw, hK, hA, hBG, hR, hml, hnm, el, eD, eB⟩ := C
  obtain ⟨hr, hlk, eA, eQ⟩ := E
  intro H locs ls h1 h2 h3 h4 h5
  subst eQ; subst eA
  refine W.widen hk hn ?_
  exact W.vret hx hb hr (fun t ht hW => ⟨⟨_, M, rfl, hp, by rw [ht]; exact h1, h3⟩, h4.F ht⟩) h4.2.2 hd
theorem hm_aret (C : hm_C X l D BG cc own nm nL fr lo mc ms) {rt : FieldType} (E : hm_E X (some rt) M0 Post mc ms) (hrt : (∃ z, rt = .object z) ∨ ∃ t, rt = .array t) {r : Option Nat} (hk : k ≤ mc) (hn : n ≤ ms) (hp : Post (some (va_rf r)) M) (hd : decode cc pc = .ok (.areturn, 1)) : hm_W X M k n pc lv [va_rf r] := by
  obtain ⟨p, l', e, R, s, m, args, below, meth, c, Q, D', BG', A⟩ := X
  obtain ⟨hx, hb, hown, hts, hnw, hK, hA, hBG, hR, hml, hnm, el, eD, eB⟩ := C
  obtain ⟨hr, hlk, eA, eQ⟩ := E
  intro H locs ls h1 h2 h3 h4 h5
  subst eQ; subst eA
  refine W.widen hk hn ?_
  exact W.aret hx hb hr hrt (va_rf_or r) (fun t ht hW => ⟨⟨_, M, rfl, hp, by rw [ht]; exact h1, h3⟩, h4.F ht⟩) h4.2.2 hd
end HMEND
/-- a method's words: its code, its class is there, how many parameters -/
def hm_Y (y : MethodName) (cc : ByteArray) (maxL : Nat) (ret : Option FieldType) (np : Nat) : Prop := Cond.code y cc maxL ret ∈ hm_tb ∧ Cond.initialized y.cls ∈ hm_tb ∧ (y.cls ≠ "java/lang/invoke/MethodHandle" ∧ y.cls ≠ "java/lang/invoke/VarHandle") ∧ (parseMethodDescriptor y.desc).map (fun d => d.parameters.length) = some np
section HMCALL
variable {l : Launch} {D : va_G} {BG : Nat → Option Cell} {y : MethodName} {bytes : ByteArray} {maxL np : Nat} {ret : Option FieldType} {fr' lo' mc' ms' : Nat} {av : List Value} {Mc : hm_M} {Post : Option Value → hm_M → Prop}
theorem hm_words {s : State} {args : Array Value} (hts : ∀ w ∈ hm_tb, w.before args s = true) (hY : hm_Y y bytes maxL ret np) : ∀ w ∈ (Cond.code y bytes maxL ret :: hm_tb), ∀ (a' : Array Value) (U : State), s.WarmedH U.vm → w.before a' U = true := by
  have hG : GoodIn hm_tb (Cond.code y bytes maxL ret :: hm_tb) := by
    intro w hw
    rcases List.mem_cons.mp hw with rfl | hw
    · exact hm_tb_good _ hY.1
    · exact hm_tb_good _ hw
  exact pay_in hts hG
theorem hm_callB {R : Room} {s : State} {args : Array Value} {own : String} {ix : Nat} (hts : ∀ w ∈ hm_tb, w.before args s = true) (hY : hm_Y y bytes maxL ret np) (hl : Cond.methodLink own ix y ∈ hm_tb) (hR : fr' + 1 ≤ R.frames ∧ 8 + (maxL + 11) + lo' ≤ R.locals) :
    CallB R s args own ix y bytes maxL ret (Cond.code y bytes maxL ret :: hm_tb) { frames := fr', cells := mc', slots := ms', locals := lo' } mc' ms' np := by
  refine ⟨rfl, rfl, hR.1, hR.2, hm_words hts hY, List.mem_cons_self, hts _ hY.1, hts _ hY.2.1, hY.2.2.1, fun sig h => ?_, hts _ hl⟩
  have h2 := hY.2.2.2
  rw [h] at h2
  exact (Option.some.inj h2).symm
variable {X : hm_X} {cc : ByteArray} {own nm : String} {nL fr lo mc ms : Nat} {M : hm_M} {k n pc ix : Nat} {lv : List (Nat × Value)} {rest : List Value}
/-- behind a call, with all of the model -/
theorem hm_after {p : Program} {e : Env} {R : Room} {s : State} {m : MethodId} {args : Array Value} {below : List Frame} {meth : Method} {c : Code} {Q : State → Prop} {A : Nat → Prop} {H : Heap} {locs : List Loc} {ls : Array Slot} {st0 : List Value} {a : Array Value}
    (hr : va_Run p l e R s m args below meth c H locs k n mc' ms' (F0 m pc ls st0) rest (hm_Q D M H.size Post a) (hm_A M H.size)) (hA : ∀ q, s.heap.size ≤ q → A q) (hBG : ∀ q, A q → BG q = none) (h1 : hm_P D M H) (h2 : hm_B BG H) (h3 : hm_In A M) (h4 : va_S A s.heap H locs) (h5 : lv_has ls c.maxLocals lv)
    (kk : ∀ (r : Option Value) (M' : hm_M), Post r M' → hm_W (p, l, e, R, s, m, args, below, meth, c, Q, D, BG, A) M' (k + mc') (n + ms') (pc + 3) lv (r.toList ++ rest)) : W p l e R s m args below meth c H locs k n Q (F0 m pc ls st0) := by
  intro T hT S
  obtain ⟨v, st₀, t, T', L, h0, X', hL, e1, e2, ⟨⟨r, M', hv, hp, hP', hI'⟩, hz, hk⟩, stp⟩ := hr T hT S
  cases hv
  rw [h0] at hz hk
  have hAA : ∀ q, hm_A M H.size q → A q := by
    intro q hq
    rcases hq with hq | hq
    · cases hm : M q with
      | none => exact absurd hm hq
      | some x => exact h3 q x hm
    · exact hA q (Nat.le_trans h4.1 hq)
  have w := kk v M' hp T'.heap (locs ++ L) ls (by rw [e1]; exact hP') (fun b cell hb => by
      have hb' := h2 b cell hb
      rw [e1, hk b (Array.getElem?_eq_some_iff.mp hb').1 (fun z => by rw [hBG b (hAA b z)] at hb; cases hb)]
      exact hb') (fun b x hb => hAA b (hI' b x hb)) ⟨Nat.le_trans h4.1 (by rw [e1]; exact hz), fun q g1 g2 => by rw [e1, hk q (Nat.lt_of_lt_of_le g1 h4.1) (fun z => g2 (hAA q z))]; exact h4.2.1 q g1 g2, fun q hq => by
      rcases List.mem_append.mp hq with h | h
      · exact h4.2.2 q h
      · exact hAA _ (hL q h)⟩ h5
  obtain ⟨t2, a1, b1⟩ := w T' rfl X'
  exact ⟨t2, stp t2 a1, b1⟩
set_option maxHeartbeats 4000000 in
theorem hm_callV (C : hm_C X l D BG cc own nm nL fr lo mc ms) (hM : hm_ct l D BG y bytes maxL ret fr' lo' mc' ms' av M Post) (hY : hm_Y y bytes maxL ret np) {b ci : Nat} {fs : List Value} {T : u_T} {N : Nat} {Cn : String} (As : List Value) (hav : av = .ref b :: As) (hb0 : M b = some (hm_ob ci fs)) (hcl : hm_cl[ci]? = some (Cn, T, N)) (hl : Cond.methodLink own ix y ∈ hm_tb) (hin : Cond.instanceMethod y ∈ hm_tb) (hse : Cond.selects Cn y y ∈ hm_tb) (hn : As.length = np) {st : List Value} (hst : st = As.reverse ++ .ref b :: rest) (hw : (rest.map fun v => v.category).sum ≤ 8) (hfr : fr' + 1 ≤ fr) (hlo : 8 + (maxL + 11) + lo' ≤ lo) (hk : k + mc' ≤ mc) (hs : n + ms' ≤ ms) (hd : decode cc pc = .ok (.invokevirtual ix, 3))
    (kk : ∀ (r : Option Value) (M' : hm_M), Post r M' → hm_W X M' (k + mc') (n + ms') (pc + 3) lv (r.toList ++ rest)) : hm_W X M k n pc lv st := by
  obtain ⟨p, l', e, R, s, m, args, below, meth, c, Q, D', BG', A⟩ := X
  obtain ⟨hx, hb, hown, hts, hnw, hK, hA, hBG, hR, hml, hnm, el, eD, eB⟩ := C
  intro H locs ls h1 h2 h3 h4 h5
  subst el; subst eD; subst eB; subst hav; subst hst
  obtain ⟨r', g0, cell, g1, g2, g3, -⟩ := h1 b _ hb0
  have hcls := (hK.1.1 ci _ hcl).2
  have hdis : ∀ q, M q ≠ none → BG' q = none := fun q hq => by
    cases hm : M q with
    | none => exact absurd hm hq
    | some x => exact hBG q (h3 q x hm)
  exact hm_after (va_runV (C := Cn) (As := As) (rest := rest) (Ts := hm_tb) (nL := nL) ⟨hx, hb, hml, hown, hts⟩ (hM H.size) ⟨hm_callB hts hY hl (by rw [hR]; exact ⟨hfr, hlo⟩), hts _ hin, hts _ hse⟩ ⟨hm_blind, ⟨cell, g1, by rw [g3]; rfl, by rw [g2]; exact hcls.1⟩, fun U hU hW => ⟨rfl, by rw [hU], by rw [hU]; exact h1, by rw [hU]; exact h2, hdis, hnw.warm hW, hK.moved hW.alike⟩⟩ rfl hn (by rw [← hml]; exact h5.1) rfl (lv_room hw) hd (by rw [hR]; exact ⟨hk, hs⟩)) hA hBG h1 h2 h3 h4 h5 kk
set_option maxHeartbeats 4000000 in
theorem hm_callS (C : hm_C X l D BG cc own nm nL fr lo mc ms) (hM : hm_ct l D BG y bytes maxL ret fr' lo' mc' ms' av M Post) (hY : hm_Y y bytes maxL ret np) (hl : Cond.methodLink own ix y ∈ hm_tb) (hsta : Cond.static y ∈ hm_tb) (hn : av.length = np) {st : List Value} (hst : st = av.reverse ++ rest) (hw : (rest.map fun v => v.category).sum ≤ 8) (hfr : fr' + 1 ≤ fr) (hlo : 8 + (maxL + 11) + lo' ≤ lo) (hk : k + mc' ≤ mc) (hs : n + ms' ≤ ms) (hd : decode cc pc = .ok (.invokestatic ix, 3))
    (kk : ∀ (r : Option Value) (M' : hm_M), Post r M' → hm_W X M' (k + mc') (n + ms') (pc + 3) lv (r.toList ++ rest)) : hm_W X M k n pc lv st := by
  obtain ⟨p, l', e, R, s, m, args, below, meth, c, Q, D', BG', A⟩ := X
  obtain ⟨hx, hb, hown, hts, hnw, hK, hA, hBG, hR, hml, hnm, el, eD, eB⟩ := C
  intro H locs ls h1 h2 h3 h4 h5
  subst el; subst eD; subst eB; subst hst
  have hdis : ∀ q, M q ≠ none → BG' q = none := fun q hq => by
    cases hm : M q with
    | none => exact absurd hm hq
    | some x => exact hBG q (h3 q x hm)
  exact hm_after (va_runS (As := av) (rest := rest) (Ts := hm_tb) (nL := nL) ⟨hx, hb, hml, hown, hts⟩ (hM H.size) ⟨hm_callB hts hY hl (by rw [hR]; exact ⟨hfr, hlo⟩), hts _ hsta⟩ ⟨hm_blind, fun U hU hW => ⟨rfl, by rw [hU], by rw [hU]; exact h1, by rw [hU]; exact h2, hdis, hnw.warm hW, hK.moved hW.alike⟩⟩ rfl hn (by rw [← hml]; exact h5.1) rfl (lv_room hw) hd (by rw [hR]; exact ⟨hk, hs⟩)) hA hBG h1 h2 h3 h4 h5 kk
set_option maxHeartbeats 4000000 in
theorem hm_callI (C : hm_C X l D BG cc own nm nL fr lo mc ms) (hM : hm_ct l D BG y bytes maxL none fr' lo' mc' ms' av M Post) (hY : hm_Y y bytes maxL none np) (hy : y.name = "<init>") (hl : Cond.methodLink own ix y ∈ hm_tb) (hin : Cond.instanceMethod y ∈ hm_tb) {b : Nat} (As : List Value) (hav : av = .ref b :: As) (hn : As.length = np) {st : List Value} (hst : st = As.reverse ++ .ref b :: rest) (hw : (rest.map fun v => v.category).sum ≤ 8) (hfr : fr' + 1 ≤ fr) (hlo : 8 + (maxL + 11) + lo' ≤ lo) (hk : k + mc' ≤ mc) (hs : n + ms' ≤ ms) (hd : decode cc pc = .ok (.invokespecial ix, 3))
    (kk : ∀ (r : Option Value) (M' : hm_M), Post r M' → hm_W X M' (k + mc') (n + ms') (pc + 3) lv (r.toList ++ rest)) : hm_W X M k n pc lv st := by
  obtain ⟨p, l', e, R, s, m, args, below, meth, c, Q, D', BG', A⟩ := X
  obtain ⟨hx, hb, hown, hts, hnw, hK, hA, hBG, hR, hml, hnm, el, eD, eB⟩ := C
  intro H locs ls h1 h2 h3 h4 h5
  subst el; subst eD; subst eB; subst hav; subst hst
  have hdis : ∀ q, M q ≠ none → BG' q = none := fun q hq => by
    cases hm : M q with
    | none => exact absurd hm hq
    | some x => exact hBG q (h3 q x hm)
  exact hm_after (va_runI (As := As) (rest := rest) (Ts := hm_tb) (nL := nL) ⟨hx, hb, hml, hown, hts⟩ (hM H.size) ⟨hm_callB hts hY hl (by rw [hR]; exact ⟨hfr, hlo⟩), hy, hts _ hin⟩ ⟨hm_blind, fun U hU hW => ⟨rfl, by rw [hU], by rw [hU]; exact h1, by rw [hU]; exact h2, hdis, hnw.warm hW, hK.moved hW.alike⟩⟩ rfl hn (by rw [← hml]; exact h5.1) rfl (lv_room hw) hd (by rw [hR]; exact ⟨hk, hs⟩)) hA hBG h1 h2 h3 h4 h5 kk
/-- a constructor that a nest mate keeps to itself -/
theorem hm_callN {R : Room} {s : State} {args : Array Value} {host : String} (hts : ∀ w ∈ hm_tb, w.before args s = true) (hnw : hm_N s) (hY : hm_Y y bytes maxL ret np) (hl : Cond.methodLinkNest own ix y host ∈ lw_tbl) (hR : fr' + 1 ≤ R.frames ∧ 8 + (maxL + 11) + lo' ≤ R.locals) :
    va_CN R s args own ix y host bytes maxL ret (Cond.code y bytes maxL ret :: hm_tb) { frames := fr', cells := mc', slots := ms', locals := lo' } mc' ms' np := by
  refine ⟨⟨rfl, rfl, hR.1, hR.2, hm_words hts hY, List.mem_cons_self⟩, hts _ hY.1, hts _ hY.2.1, hY.2.2.1, fun sig h => ?_, va_Nw.use rfl (hnw _ hl rfl)⟩
  have h2 := hY.2.2.2
  rw [h] at h2
  exact (Option.some.inj h2).symm
set_option maxHeartbeats 4000000 in
theorem hm_callIN {host : String} (C : hm_C X l D BG cc own nm nL fr lo mc ms) (hM : hm_ct l D BG y bytes maxL none fr' lo' mc' ms' av M Post) (hY : hm_Y y bytes maxL none np) (hy : y.name = "<init>") (hl : Cond.methodLinkNest own ix y host ∈ lw_tbl) (hin : Cond.instanceMethod y ∈ hm_tb) {b : Nat} (As : List Value) (hav : av = .ref b :: As) (hn : As.length = np) {st : List Value} (hst : st = As.reverse ++ .ref b :: rest) (hw : (rest.map fun v => v.category).sum ≤ 8) (hfr : fr' + 1 ≤ fr) (hlo : 8 + (maxL + 11) + lo' ≤ lo) (hk : k + mc' ≤ mc) (hs : n + ms' ≤ ms) (hd : decode cc pc = .ok (.invokespecial ix, 3))
    (kk : ∀ (r : Option Value) (M' : hm_M), Post r M' → hm_W X M' (k + mc') (n + ms') (pc + 3) lv (r.toList ++ rest)) : hm_W X M k n pc lv st := by
  obtain ⟨p, l', e, R, s, m, args, below, meth, c, Q, D', BG', A⟩ := X
  obtain ⟨hx, hb, hown, hts, hnw, hK, hA, hBG, hR, hml, hnm, el, eD, eB⟩ := C
  intro H locs ls h1 h2 h3 h4 h5
  subst el; subst eD; subst eB; subst hav; subst hst
  have hdis : ∀ q, M q ≠ none → BG' q = none := fun q hq => by
    cases hm : M q with
    | none => exact absurd hm hq
    | some x => exact hBG q (h3 q x hm)
  exact hm_after (va_runIN (host := host) (As := As) (rest := rest) (Ts := hm_tb) (nL := nL) ⟨hx, hb, hml, hown, hts⟩ (hM H.size) ⟨hm_callN hts hnw hY hl (by rw [hR]; exact ⟨hfr, hlo⟩), hy, hts _ hin⟩ ⟨hm_blind, fun U hU hW => ⟨rfl, by rw [hU], by rw [hU]; exact h1, by rw [hU]; exact h2, hdis, hnw.warm hW, hK.moved hW.alike⟩⟩ rfl hn (by rw [← hml]; exact h5.1) rfl (lv_room hw) hd (by rw [hR]; exact ⟨hk, hs⟩)) hA hBG h1 h2 h3 h4 h5 kk
/-- java.lang.Object's constructor -/
theorem hm_objInit (C : hm_C X l D BG cc own nm nL fr lo mc ms) (hl : Cond.methodLink own ix objectInit ∈ hm_tb) (hin : Cond.instanceMethod objectInit ∈ hm_tb) (hcode : Cond.code objectInit ⟨#[0xb1]⟩ 1 none ∈ hm_tb) {a : Nat} (hw : (rest.map fun v => v.category).sum + 12 ≤ lo) (hfr : 1 ≤ fr) (hd : decode cc pc = .ok (.invokespecial ix, 3)) (kk : hm_W X M k n (pc + 3) lv rest) : hm_W X M k n pc lv (.ref a :: rest) := by
  obtain ⟨p, l', e, R, s, m, args, below, meth, c, Q, D', BG', A⟩ := X
  obtain ⟨hx, hb, hown, hts, hnw, hK, hA, hBG, hR, hml, hnm, el, eD, eB⟩ := C
  intro H locs ls h1 h2 h3 h4 h5
  refine W.objInit hx hb hown (hts _ hl) (hts _ hin) (hts _ hcode) rfl h5.1 rfl hd (by rw [hR]; exact hfr) (by rw [hR]; show 2 * 0 + _ + 12 ≤ lo; omega) ?_
  exact kk H locs ls h1 h2 h3 h4 h5
end HMCALL
end
section
/-! WORDS, by program (wip/whole/names.py): the places of the words in the table -/
theorem nl_AL_0 : Cond.lays "java/util/ArrayList" "java/util/ArrayList" "elementData" "[Ljava/lang/Object;" ∈ hm_tb := hm_tb_in (List.mem_of_getElem? (i := 84) (by decide +kernel)) (by decide +kernel)
theorem nl_AL_1 : Cond.lays "java/util/ArrayList" "java/util/ArrayList" "size" "I" ∈ hm_tb := hm_tb_in (List.mem_of_getElem? (i := 86) (by decide +kernel)) (by decide +kernel)
theorem nl_AL_2 : Cond.lays "java/util/ArrayList" "java/util/AbstractList" "modCount" "I" ∈ hm_tb := hm_tb_in (List.mem_of_getElem? (i := 88) (by decide +kernel)) (by decide +kernel)
theorem nW_AL : ∀ w ∈ u_ws nR_AL nT_AL 3, w ∈ hm_tb := by
  intro w hw
  obtain ⟨k, hk, rfl⟩ := List.mem_map.mp hw
  have hk := List.mem_range.mp hk
  match k, hk with
  | 0, _ => exact nl_AL_0
  | 1, _ => exact nl_AL_1
  | 2, _ => exact nl_AL_2
  | k + 3, hk => exact absurd hk (by omega)
theorem nl_TS_0 : Cond.laysFinal "TurnedKeys$Terms" "TurnedKeys$Terms" "all" "Ljava/util/ArrayList;" ∈ hm_tb := hm_tb_in (List.mem_of_getElem? (i := 95) (by decide +kernel)) (by decide +kernel)
theorem nl_TS_1 : Cond.lays "TurnedKeys$Terms" "TurnedKeys$Terms" "drawn" "I" ∈ hm_tb := hm_tb_in (List.mem_of_getElem? (i := 97) (by decide +kernel)) (by decide +kernel)
theorem nl_TS_2 : Cond.lays "TurnedKeys$Terms" "TurnedKeys$Terms" "settled" "I" ∈ hm_tb := hm_tb_in (List.mem_of_getElem? (i := 99) (by decide +kernel)) (by decide +kernel)
theorem nW_TS : ∀ w ∈ u_ws nR_TS nT_TS 3, w ∈ hm_tb := by
  intro w hw
  obtain ⟨k, hk, rfl⟩ := List.mem_map.mp hw
  have hk := List.mem_range.mp hk
  match k, hk with
  | 0, _ => exact nl_TS_0
  | 1, _ => exact nl_TS_1
  | 2, _ => exact nl_TS_2
  | k + 3, hk => exact absurd hk (by omega)
theorem nl_TE_0 : Cond.laysFinal "TurnedKeys$Term" "TurnedKeys$Term" "kind" "I" ∈ hm_tb := hm_tb_in (List.mem_of_getElem? (i := 133) (by decide +kernel)) (by decide +kernel)
theorem nl_TE_1 : Cond.laysFinal "TurnedKeys$Term" "TurnedKeys$Term" "place" "I" ∈ hm_tb := hm_tb_in (List.mem_of_getElem? (i := 135) (by decide +kernel)) (by decide +kernel)
theorem nl_TE_2 : Cond.laysFinal "TurnedKeys$Term" "TurnedKeys$Term" "left" "LTurnedKeys$Term;" ∈ hm_tb := hm_tb_in (List.mem_of_getElem? (i := 137) (by decide +kernel)) (by decide +kernel)
theorem nl_TE_3 : Cond.laysFinal "TurnedKeys$Term" "TurnedKeys$Term" "right" "LTurnedKeys$Term;" ∈ hm_tb := hm_tb_in (List.mem_of_getElem? (i := 139) (by decide +kernel)) (by decide +kernel)
theorem nl_TE_4 : Cond.laysFinal "TurnedKeys$Term" "TurnedKeys$Term" "earlierUser" "LTurnedKeys$Term;" ∈ hm_tb := hm_tb_in (List.mem_of_getElem? (i := 141) (by decide +kernel)) (by decide +kernel)
theorem nl_TE_5 : Cond.lays "TurnedKeys$Term" "TurnedKeys$Term" "latestUser" "LTurnedKeys$Term;" ∈ hm_tb := hm_tb_in (List.mem_of_getElem? (i := 143) (by decide +kernel)) (by decide +kernel)
theorem nl_TE_6 : Cond.lays "TurnedKeys$Term" "TurnedKeys$Term" "publicTerm" "LTurnedKeys$Term;" ∈ hm_tb := hm_tb_in (List.mem_of_getElem? (i := 145) (by decide +kernel)) (by decide +kernel)
theorem nl_TE_7 : Cond.lays "TurnedKeys$Term" "TurnedKeys$Term" "derived" "Z" ∈ hm_tb := hm_tb_in (List.mem_of_getElem? (i := 147) (by decide +kernel)) (by decide +kernel)
theorem nW_TE : ∀ w ∈ u_ws nR_TE nT_TE 8, w ∈ hm_tb := by
  intro w hw
  obtain ⟨k, hk, rfl⟩ := List.mem_map.mp hw
  have hk := List.mem_range.mp hk
  match k, hk with
  | 0, _ => exact nl_TE_0
  | 1, _ => exact nl_TE_1
  | 2, _ => exact nl_TE_2
  | 3, _ => exact nl_TE_3
  | 4, _ => exact nl_TE_4
  | 5, _ => exact nl_TE_5
  | 6, _ => exact nl_TE_6
  | 7, _ => exact nl_TE_7
  | k + 8, hk => exact absurd hk (by omega)
theorem nl_EN_0 : Cond.lays "TurnedKeys$End" "TurnedKeys$End" "base" "LTurnedKeys$Term;" ∈ hm_tb := hm_tb_in (List.mem_of_getElem? (i := 252) (by decide +kernel)) (by decide +kernel)
theorem nl_EN_1 : Cond.lays "TurnedKeys$End" "TurnedKeys$End" "root" "LTurnedKeys$Term;" ∈ hm_tb := hm_tb_in (List.mem_of_getElem? (i := 254) (by decide +kernel)) (by decide +kernel)
theorem nl_EN_2 : Cond.lays "TurnedKeys$End" "TurnedKeys$End" "mine" "LTurnedKeys$Term;" ∈ hm_tb := hm_tb_in (List.mem_of_getElem? (i := 256) (by decide +kernel)) (by decide +kernel)
theorem nl_EN_3 : Cond.lays "TurnedKeys$End" "TurnedKeys$End" "theirs" "LTurnedKeys$Term;" ∈ hm_tb := hm_tb_in (List.mem_of_getElem? (i := 258) (by decide +kernel)) (by decide +kernel)
theorem nl_EN_4 : Cond.lays "TurnedKeys$End" "TurnedKeys$End" "sendChain" "LTurnedKeys$Term;" ∈ hm_tb := hm_tb_in (List.mem_of_getElem? (i := 260) (by decide +kernel)) (by decide +kernel)
theorem nl_EN_5 : Cond.lays "TurnedKeys$End" "TurnedKeys$End" "sent" "I" ∈ hm_tb := hm_tb_in (List.mem_of_getElem? (i := 262) (by decide +kernel)) (by decide +kernel)
theorem nl_EN_6 : Cond.lays "TurnedKeys$End" "TurnedKeys$End" "before" "I" ∈ hm_tb := hm_tb_in (List.mem_of_getElem? (i := 264) (by decide +kernel)) (by decide +kernel)
theorem nl_EN_7 : Cond.lays "TurnedKeys$End" "TurnedKeys$End" "receiveChain" "LTurnedKeys$Term;" ∈ hm_tb := hm_tb_in (List.mem_of_getElem? (i := 266) (by decide +kernel)) (by decide +kernel)
theorem nl_EN_8 : Cond.lays "TurnedKeys$End" "TurnedKeys$End" "next" "I" ∈ hm_tb := hm_tb_in (List.mem_of_getElem? (i := 268) (by decide +kernel)) (by decide +kernel)
theorem nl_EN_9 : Cond.laysFinal "TurnedKeys$End" "TurnedKeys$End" "leftKeys" "[LTurnedKeys$LeftKey;" ∈ hm_tb := hm_tb_in (List.mem_of_getElem? (i := 270) (by decide +kernel)) (by decide +kernel)
theorem nl_EN_10 : Cond.lays "TurnedKeys$End" "TurnedKeys$End" "left" "I" ∈ hm_tb := hm_tb_in (List.mem_of_getElem? (i := 272) (by decide +kernel)) (by decide +kernel)
theorem nW_EN : ∀ w ∈ u_ws nR_EN nT_EN 11, w ∈ hm_tb := by
  intro w hw
  obtain ⟨k, hk, rfl⟩ := List.mem_map.mp hw
  have hk := List.mem_range.mp hk
  match k, hk with
  | 0, _ => exact nl_EN_0
  | 1, _ => exact nl_EN_1
  | 2, _ => exact nl_EN_2
  | 3, _ => exact nl_EN_3
  | 4, _ => exact nl_EN_4
  | 5, _ => exact nl_EN_5
  | 6, _ => exact nl_EN_6
  | 7, _ => exact nl_EN_7
  | 8, _ => exact nl_EN_8
  | 9, _ => exact nl_EN_9
  | 10, _ => exact nl_EN_10
  | k + 11, hk => exact absurd hk (by omega)
theorem nl_LK_0 : Cond.laysFinal "TurnedKeys$LeftKey" "TurnedKeys$LeftKey" "publicKey" "LTurnedKeys$Term;" ∈ hm_tb := hm_tb_in (List.mem_of_getElem? (i := 430) (by decide +kernel)) (by decide +kernel)
theorem nl_LK_1 : Cond.laysFinal "TurnedKeys$LeftKey" "TurnedKeys$LeftKey" "index" "I" ∈ hm_tb := hm_tb_in (List.mem_of_getElem? (i := 432) (by decide +kernel)) (by decide +kernel)
theorem nl_LK_2 : Cond.laysFinal "TurnedKeys$LeftKey" "TurnedKeys$LeftKey" "key" "LTurnedKeys$Term;" ∈ hm_tb := hm_tb_in (List.mem_of_getElem? (i := 434) (by decide +kernel)) (by decide +kernel)
theorem nW_LK : ∀ w ∈ u_ws nR_LK nT_LK 3, w ∈ hm_tb := by
  intro w hw
  obtain ⟨k, hk, rfl⟩ := List.mem_map.mp hw
  have hk := List.mem_range.mp hk
  match k, hk with
  | 0, _ => exact nl_LK_0
  | 1, _ => exact nl_LK_1
  | 2, _ => exact nl_LK_2
  | k + 3, hk => exact absurd hk (by omega)
theorem nl_WI_0 : Cond.laysFinal "TurnedKeys$Wire" "TurnedKeys$Wire" "sender" "I" ∈ hm_tb := hm_tb_in (List.mem_of_getElem? (i := 349) (by decide +kernel)) (by decide +kernel)
theorem nl_WI_1 : Cond.laysFinal "TurnedKeys$Wire" "TurnedKeys$Wire" "index" "I" ∈ hm_tb := hm_tb_in (List.mem_of_getElem? (i := 351) (by decide +kernel)) (by decide +kernel)
theorem nl_WI_2 : Cond.laysFinal "TurnedKeys$Wire" "TurnedKeys$Wire" "before" "I" ∈ hm_tb := hm_tb_in (List.mem_of_getElem? (i := 353) (by decide +kernel)) (by decide +kernel)
theorem nl_WI_3 : Cond.laysFinal "TurnedKeys$Wire" "TurnedKeys$Wire" "publicKey" "LTurnedKeys$Term;" ∈ hm_tb := hm_tb_in (List.mem_of_getElem? (i := 355) (by decide +kernel)) (by decide +kernel)
theorem nl_WI_4 : Cond.laysFinal "TurnedKeys$Wire" "TurnedKeys$Wire" "key" "LTurnedKeys$Term;" ∈ hm_tb := hm_tb_in (List.mem_of_getElem? (i := 357) (by decide +kernel)) (by decide +kernel)
theorem nl_WI_5 : Cond.laysFinal "TurnedKeys$Wire" "TurnedKeys$Wire" "letter" "LTurnedKeys$Term;" ∈ hm_tb := hm_tb_in (List.mem_of_getElem? (i := 359) (by decide +kernel)) (by decide +kernel)
theorem nW_WI : ∀ w ∈ u_ws nR_WI nT_WI 6, w ∈ hm_tb := by
  intro w hw
  obtain ⟨k, hk, rfl⟩ := List.mem_map.mp hw
  have hk := List.mem_range.mp hk
  match k, hk with
  | 0, _ => exact nl_WI_0
  | 1, _ => exact nl_WI_1
  | 2, _ => exact nl_WI_2
  | 3, _ => exact nl_WI_3
  | 4, _ => exact nl_WI_4
  | 5, _ => exact nl_WI_5
  | k + 6, hk => exact absurd hk (by omega)
theorem nl_TK_0 : Cond.laysFinal "TurnedKeys" "TurnedKeys" "terms" "LTurnedKeys$Terms;" ∈ hm_tb := hm_tb_in (List.mem_of_getElem? (i := 294) (by decide +kernel)) (by decide +kernel)
theorem nl_TK_1 : Cond.laysFinal "TurnedKeys" "TurnedKeys" "ends" "[LTurnedKeys$End;" ∈ hm_tb := hm_tb_in (List.mem_of_getElem? (i := 296) (by decide +kernel)) (by decide +kernel)
theorem nl_TK_2 : Cond.laysFinal "TurnedKeys" "TurnedKeys" "kept" "[LTurnedKeys$End;" ∈ hm_tb := hm_tb_in (List.mem_of_getElem? (i := 298) (by decide +kernel)) (by decide +kernel)
theorem nl_TK_3 : Cond.laysFinal "TurnedKeys" "TurnedKeys" "trial" "LTurnedKeys$End;" ∈ hm_tb := hm_tb_in (List.mem_of_getElem? (i := 300) (by decide +kernel)) (by decide +kernel)
theorem nl_TK_4 : Cond.laysFinal "TurnedKeys" "TurnedKeys" "wires" "Ljava/util/ArrayList;" ∈ hm_tb := hm_tb_in (List.mem_of_getElem? (i := 302) (by decide +kernel)) (by decide +kernel)
theorem nl_TK_5 : Cond.lays "TurnedKeys" "TurnedKeys" "makingCalls" "I" ∈ hm_tb := hm_tb_in (List.mem_of_getElem? (i := 304) (by decide +kernel)) (by decide +kernel)
theorem nW_TK : ∀ w ∈ u_ws nR_TK nT_TK 6, w ∈ hm_tb := by
  intro w hw
  obtain ⟨k, hk, rfl⟩ := List.mem_map.mp hw
  have hk := List.mem_range.mp hk
  match k, hk with
  | 0, _ => exact nl_TK_0
  | 1, _ => exact nl_TK_1
  | 2, _ => exact nl_TK_2
  | 3, _ => exact nl_TK_3
  | 4, _ => exact nl_TK_4
  | 5, _ => exact nl_TK_5
  | k + 6, hk => exact absurd hk (by omega)
theorem nl_MO_0 : Cond.lays "TurnedKeysModel" "TurnedKeysModel" "terms" "I" ∈ hm_tb := hm_tb_in (List.mem_of_getElem? (i := 557) (by decide +kernel)) (by decide +kernel)
theorem nl_MO_1 : Cond.laysFinal "TurnedKeysModel" "TurnedKeysModel" "sort" "[B" ∈ hm_tb := hm_tb_in (List.mem_of_getElem? (i := 559) (by decide +kernel)) (by decide +kernel)
theorem nl_MO_2 : Cond.laysFinal "TurnedKeysModel" "TurnedKeysModel" "one" "[I" ∈ hm_tb := hm_tb_in (List.mem_of_getElem? (i := 561) (by decide +kernel)) (by decide +kernel)
theorem nl_MO_3 : Cond.laysFinal "TurnedKeysModel" "TurnedKeysModel" "two" "[I" ∈ hm_tb := hm_tb_in (List.mem_of_getElem? (i := 563) (by decide +kernel)) (by decide +kernel)
theorem nl_MO_4 : Cond.laysFinal "TurnedKeysModel" "TurnedKeysModel" "three" "[I" ∈ hm_tb := hm_tb_in (List.mem_of_getElem? (i := 565) (by decide +kernel)) (by decide +kernel)
theorem nl_MO_5 : Cond.laysFinal "TurnedKeysModel" "TurnedKeysModel" "given" "[Z" ∈ hm_tb := hm_tb_in (List.mem_of_getElem? (i := 567) (by decide +kernel)) (by decide +kernel)
theorem nl_MO_6 : Cond.laysFinal "TurnedKeysModel" "TurnedKeysModel" "known" "[Z" ∈ hm_tb := hm_tb_in (List.mem_of_getElem? (i := 569) (by decide +kernel)) (by decide +kernel)
theorem nl_MO_7 : Cond.laysFinal "TurnedKeysModel" "TurnedKeysModel" "table" "[I" ∈ hm_tb := hm_tb_in (List.mem_of_getElem? (i := 571) (by decide +kernel)) (by decide +kernel)
theorem nl_MO_8 : Cond.lays "TurnedKeysModel" "TurnedKeysModel" "isOld" "Z" ∈ hm_tb := hm_tb_in (List.mem_of_getElem? (i := 573) (by decide +kernel)) (by decide +kernel)
theorem nl_MO_9 : Cond.lays "TurnedKeysModel" "TurnedKeysModel" "drawn" "I" ∈ hm_tb := hm_tb_in (List.mem_of_getElem? (i := 575) (by decide +kernel)) (by decide +kernel)
theorem nl_MO_10 : Cond.lays "TurnedKeysModel" "TurnedKeysModel" "heads" "I" ∈ hm_tb := hm_tb_in (List.mem_of_getElem? (i := 577) (by decide +kernel)) (by decide +kernel)
theorem nl_MO_11 : Cond.laysFinal "TurnedKeysModel" "TurnedKeysModel" "headN" "[I" ∈ hm_tb := hm_tb_in (List.mem_of_getElem? (i := 579) (by decide +kernel)) (by decide +kernel)
theorem nl_MO_12 : Cond.laysFinal "TurnedKeysModel" "TurnedKeysModel" "headBefore" "[I" ∈ hm_tb := hm_tb_in (List.mem_of_getElem? (i := 581) (by decide +kernel)) (by decide +kernel)
theorem nl_MO_13 : Cond.laysFinal "TurnedKeysModel" "TurnedKeysModel" "headEnd" "[I" ∈ hm_tb := hm_tb_in (List.mem_of_getElem? (i := 583) (by decide +kernel)) (by decide +kernel)
theorem nl_MO_14 : Cond.laysFinal "TurnedKeysModel" "TurnedKeysModel" "headKey" "[I" ∈ hm_tb := hm_tb_in (List.mem_of_getElem? (i := 585) (by decide +kernel)) (by decide +kernel)
theorem nl_MO_15 : Cond.lays "TurnedKeysModel" "TurnedKeysModel" "wires" "I" ∈ hm_tb := hm_tb_in (List.mem_of_getElem? (i := 587) (by decide +kernel)) (by decide +kernel)
theorem nl_MO_16 : Cond.laysFinal "TurnedKeysModel" "TurnedKeysModel" "wire" "[I" ∈ hm_tb := hm_tb_in (List.mem_of_getElem? (i := 589) (by decide +kernel)) (by decide +kernel)
theorem nl_MO_17 : Cond.laysFinal "TurnedKeysModel" "TurnedKeysModel" "letter" "[I" ∈ hm_tb := hm_tb_in (List.mem_of_getElem? (i := 591) (by decide +kernel)) (by decide +kernel)
theorem nl_MO_18 : Cond.lays "TurnedKeysModel" "TurnedKeysModel" "base" "I" ∈ hm_tb := hm_tb_in (List.mem_of_getElem? (i := 593) (by decide +kernel)) (by decide +kernel)
theorem nl_MO_19 : Cond.laysFinal "TurnedKeysModel" "TurnedKeysModel" "now" "[I" ∈ hm_tb := hm_tb_in (List.mem_of_getElem? (i := 595) (by decide +kernel)) (by decide +kernel)
theorem nl_MO_20 : Cond.laysFinal "TurnedKeysModel" "TurnedKeysModel" "kept" "[I" ∈ hm_tb := hm_tb_in (List.mem_of_getElem? (i := 597) (by decide +kernel)) (by decide +kernel)
theorem nl_MO_21 : Cond.laysFinal "TurnedKeysModel" "TurnedKeysModel" "hand" "[I" ∈ hm_tb := hm_tb_in (List.mem_of_getElem? (i := 599) (by decide +kernel)) (by decide +kernel)
theorem nl_MO_22 : Cond.lays "TurnedKeysModel" "TurnedKeysModel" "looked" "I" ∈ hm_tb := hm_tb_in (List.mem_of_getElem? (i := 601) (by decide +kernel)) (by decide +kernel)
theorem nW_MO : ∀ w ∈ u_ws nR_MO nT_MO 23, w ∈ hm_tb := by
  intro w hw
  obtain ⟨k, hk, rfl⟩ := List.mem_map.mp hw
  have hk := List.mem_range.mp hk
  match k, hk with
  | 0, _ => exact nl_MO_0
  | 1, _ => exact nl_MO_1
  | 2, _ => exact nl_MO_2
  | 3, _ => exact nl_MO_3
  | 4, _ => exact nl_MO_4
  | 5, _ => exact nl_MO_5
  | 6, _ => exact nl_MO_6
  | 7, _ => exact nl_MO_7
  | 8, _ => exact nl_MO_8
  | 9, _ => exact nl_MO_9
  | 10, _ => exact nl_MO_10
  | 11, _ => exact nl_MO_11
  | 12, _ => exact nl_MO_12
  | 13, _ => exact nl_MO_13
  | 14, _ => exact nl_MO_14
  | 15, _ => exact nl_MO_15
  | 16, _ => exact nl_MO_16
  | 17, _ => exact nl_MO_17
  | 18, _ => exact nl_MO_18
  | 19, _ => exact nl_MO_19
  | 20, _ => exact nl_MO_20
  | 21, _ => exact nl_MO_21
  | 22, _ => exact nl_MO_22
  | k + 23, hk => exact absurd hk (by omega)
theorem nf_TK_10 : Cond.fieldLink "TurnedKeys" 10 "TurnedKeys" "terms" "LTurnedKeys$Terms;" ∈ hm_tb := hm_tb_in (List.mem_of_getElem? (i := 288) (by decide +kernel)) (by decide +kernel)
theorem nF_TK_10 : hm_F "TurnedKeys" 10 6 0 (.object "TurnedKeys$Terms") 1 := ⟨_, _, _, "TurnedKeys", nY_TK, nW_TK, rfl, by decide, nf_TK_10, Or.inl rfl, (fun h => absurd h (by decide)), fun _ => ⟨rfl, rfl⟩, by decide +kernel, nO_TK, nN_TK⟩
theorem nf_TK_37 : Cond.fieldLink "TurnedKeys" 37 "TurnedKeys$End" "theirs" "LTurnedKeys$Term;" ∈ hm_tb := hm_tb_in (List.mem_of_getElem? (i := 236) (by decide +kernel)) (by decide +kernel)
theorem nF_TK_37 : hm_F "TurnedKeys" 37 3 3 (.object "TurnedKeys$Term") 0 := ⟨_, _, _, "TurnedKeys$End", nY_EN, nW_EN, rfl, by decide, nf_TK_37, Or.inl rfl, fun _ => rfl, (fun h => absurd h (by decide)), by decide +kernel, nO_EN, nN_EN⟩
theorem nf_TK_41 : Cond.fieldLink "TurnedKeys" 41 "TurnedKeys$End" "sendChain" "LTurnedKeys$Term;" ∈ hm_tb := hm_tb_in (List.mem_of_getElem? (i := 238) (by decide +kernel)) (by decide +kernel)
theorem nF_TK_41 : hm_F "TurnedKeys" 41 3 4 (.object "TurnedKeys$Term") 0 := ⟨_, _, _, "TurnedKeys$End", nY_EN, nW_EN, rfl, by decide, nf_TK_41, Or.inl rfl, fun _ => rfl, (fun h => absurd h (by decide)), by decide +kernel, nO_EN, nN_EN⟩
theorem nf_TK_44 : Cond.fieldLink "TurnedKeys" 44 "TurnedKeys" "ends" "[LTurnedKeys$End;" ∈ hm_tb := hm_tb_in (List.mem_of_getElem? (i := 289) (by decide +kernel)) (by decide +kernel)
theorem nF_TK_44 : hm_F "TurnedKeys" 44 6 1 (.array (.object "TurnedKeys$End")) 1 := ⟨_, _, _, "TurnedKeys", nY_TK, nW_TK, rfl, by decide, nf_TK_44, Or.inl rfl, (fun h => absurd h (by decide)), fun _ => ⟨rfl, rfl⟩, by decide +kernel, nO_TK, nN_TK⟩
theorem nf_TK_52 : Cond.fieldLink "TurnedKeys" 52 "TurnedKeys" "kept" "[LTurnedKeys$End;" ∈ hm_tb := hm_tb_in (List.mem_of_getElem? (i := 290) (by decide +kernel)) (by decide +kernel)
theorem nF_TK_52 : hm_F "TurnedKeys" 52 6 2 (.array (.object "TurnedKeys$End")) 1 := ⟨_, _, _, "TurnedKeys", nY_TK, nW_TK, rfl, by decide, nf_TK_52, Or.inl rfl, (fun h => absurd h (by decide)), fun _ => ⟨rfl, rfl⟩, by decide +kernel, nO_TK, nN_TK⟩
theorem nf_TK_55 : Cond.fieldLink "TurnedKeys" 55 "TurnedKeys" "trial" "LTurnedKeys$End;" ∈ hm_tb := hm_tb_in (List.mem_of_getElem? (i := 291) (by decide +kernel)) (by decide +kernel)
theorem nF_TK_55 : hm_F "TurnedKeys" 55 6 3 (.object "TurnedKeys$End") 1 := ⟨_, _, _, "TurnedKeys", nY_TK, nW_TK, rfl, by decide, nf_TK_55, Or.inl rfl, (fun h => absurd h (by decide)), fun _ => ⟨rfl, rfl⟩, by decide +kernel, nO_TK, nN_TK⟩
theorem nf_TK_62 : Cond.fieldLink "TurnedKeys" 62 "TurnedKeys" "wires" "Ljava/util/ArrayList;" ∈ hm_tb := hm_tb_in (List.mem_of_getElem? (i := 292) (by decide +kernel)) (by decide +kernel)
theorem nF_TK_62 : hm_F "TurnedKeys" 62 6 4 (.object "java/util/ArrayList") 1 := ⟨_, _, _, "TurnedKeys", nY_TK, nW_TK, rfl, by decide, nf_TK_62, Or.inl rfl, (fun h => absurd h (by decide)), fun _ => ⟨rfl, rfl⟩, by decide +kernel, nO_TK, nN_TK⟩
theorem nf_TK_86 : Cond.fieldLink "TurnedKeys" 86 "TurnedKeys$End" "base" "LTurnedKeys$Term;" ∈ hm_tb := hm_tb_in (List.mem_of_getElem? (i := 231) (by decide +kernel)) (by decide +kernel)
theorem nF_TK_86 : hm_F "TurnedKeys" 86 3 0 (.object "TurnedKeys$Term") 0 := ⟨_, _, _, "TurnedKeys$End", nY_EN, nW_EN, rfl, by decide, nf_TK_86, Or.inl rfl, fun _ => rfl, (fun h => absurd h (by decide)), by decide +kernel, nO_EN, nN_EN⟩
theorem nf_TK_101 : Cond.fieldLink "TurnedKeys" 101 "TurnedKeys$Wire" "sender" "I" ∈ hm_tb := hm_tb_in (List.mem_of_getElem? (i := 337) (by decide +kernel)) (by decide +kernel)
theorem nF_TK_101 : hm_F "TurnedKeys" 101 5 0 (.int) 2 := ⟨_, _, _, "TurnedKeys$Wire", nY_WI, nW_WI, rfl, by decide, nf_TK_101, Or.inl rfl, (fun h => absurd h (by decide)), (fun h => absurd h (by decide)), by decide +kernel, nO_WI, nN_WI⟩
theorem nf_TK_115 : Cond.fieldLink "TurnedKeys" 115 "TurnedKeys$Wire" "key" "LTurnedKeys$Term;" ∈ hm_tb := hm_tb_in (List.mem_of_getElem? (i := 346) (by decide +kernel)) (by decide +kernel)
theorem nF_TK_115 : hm_F "TurnedKeys" 115 5 4 (.object "TurnedKeys$Term") 2 := ⟨_, _, _, "TurnedKeys$Wire", nY_WI, nW_WI, rfl, by decide, nf_TK_115, Or.inl rfl, (fun h => absurd h (by decide)), (fun h => absurd h (by decide)), by decide +kernel, nO_WI, nN_WI⟩
theorem nf_TK_122 : Cond.fieldLink "TurnedKeys" 122 "TurnedKeys$End" "root" "LTurnedKeys$Term;" ∈ hm_tb := hm_tb_in (List.mem_of_getElem? (i := 233) (by decide +kernel)) (by decide +kernel)
theorem nF_TK_122 : hm_F "TurnedKeys" 122 3 1 (.object "TurnedKeys$Term") 0 := ⟨_, _, _, "TurnedKeys$End", nY_EN, nW_EN, rfl, by decide, nf_TK_122, Or.inl rfl, fun _ => rfl, (fun h => absurd h (by decide)), by decide +kernel, nO_EN, nN_EN⟩
theorem nf_TK_125 : Cond.fieldLink "TurnedKeys" 125 "TurnedKeys$End" "mine" "LTurnedKeys$Term;" ∈ hm_tb := hm_tb_in (List.mem_of_getElem? (i := 235) (by decide +kernel)) (by decide +kernel)
theorem nF_TK_125 : hm_F "TurnedKeys" 125 3 2 (.object "TurnedKeys$Term") 0 := ⟨_, _, _, "TurnedKeys$End", nY_EN, nW_EN, rfl, by decide, nf_TK_125, Or.inl rfl, fun _ => rfl, (fun h => absurd h (by decide)), by decide +kernel, nO_EN, nN_EN⟩
theorem nf_TK_128 : Cond.fieldLink "TurnedKeys" 128 "TurnedKeys$End" "receiveChain" "LTurnedKeys$Term;" ∈ hm_tb := hm_tb_in (List.mem_of_getElem? (i := 245) (by decide +kernel)) (by decide +kernel)
theorem nF_TK_128 : hm_F "TurnedKeys" 128 3 7 (.object "TurnedKeys$Term") 0 := ⟨_, _, _, "TurnedKeys$End", nY_EN, nW_EN, rfl, by decide, nf_TK_128, Or.inl rfl, fun _ => rfl, (fun h => absurd h (by decide)), by decide +kernel, nO_EN, nN_EN⟩
theorem nf_TK_131 : Cond.fieldLink "TurnedKeys" 131 "TurnedKeys$End" "left" "I" ∈ hm_tb := hm_tb_in (List.mem_of_getElem? (i := 251) (by decide +kernel)) (by decide +kernel)
theorem nF_TK_131 : hm_F "TurnedKeys" 131 3 10 (.int) 0 := ⟨_, _, _, "TurnedKeys$End", nY_EN, nW_EN, rfl, by decide, nf_TK_131, Or.inl rfl, fun _ => rfl, (fun h => absurd h (by decide)), by decide +kernel, nO_EN, nN_EN⟩
theorem nf_TK_134 : Cond.fieldLink "TurnedKeys" 134 "TurnedKeys$End" "leftKeys" "[LTurnedKeys$LeftKey;" ∈ hm_tb := hm_tb_in (List.mem_of_getElem? (i := 249) (by decide +kernel)) (by decide +kernel)
theorem nF_TK_134 : hm_F "TurnedKeys" 134 3 9 (.array (.object "TurnedKeys$LeftKey")) 2 := ⟨_, _, _, "TurnedKeys$End", nY_EN, nW_EN, rfl, by decide, nf_TK_134, Or.inl rfl, (fun h => absurd h (by decide)), (fun h => absurd h (by decide)), by decide +kernel, nO_EN, nN_EN⟩
theorem nf_TK_138 : Cond.fieldLink "TurnedKeys" 138 "TurnedKeys$LeftKey" "publicKey" "LTurnedKeys$Term;" ∈ hm_tb := hm_tb_in (List.mem_of_getElem? (i := 423) (by decide +kernel)) (by decide +kernel)
theorem nF_TK_138 : hm_F "TurnedKeys" 138 4 0 (.object "TurnedKeys$Term") 2 := ⟨_, _, _, "TurnedKeys$LeftKey", nY_LK, nW_LK, rfl, by decide, nf_TK_138, Or.inl rfl, (fun h => absurd h (by decide)), (fun h => absurd h (by decide)), by decide +kernel, nO_LK, nN_LK⟩
theorem nf_TK_143 : Cond.fieldLink "TurnedKeys" 143 "TurnedKeys$LeftKey" "key" "LTurnedKeys$Term;" ∈ hm_tb := hm_tb_in (List.mem_of_getElem? (i := 428) (by decide +kernel)) (by decide +kernel)
theorem nF_TK_143 : hm_F "TurnedKeys" 143 4 2 (.object "TurnedKeys$Term") 2 := ⟨_, _, _, "TurnedKeys$LeftKey", nY_LK, nW_LK, rfl, by decide, nf_TK_143, Or.inl rfl, (fun h => absurd h (by decide)), (fun h => absurd h (by decide)), by decide +kernel, nO_LK, nN_LK⟩
theorem nf_TK_144 : Cond.fieldLink "TurnedKeys" 144 "TurnedKeys$Wire" "letter" "LTurnedKeys$Term;" ∈ hm_tb := hm_tb_in (List.mem_of_getElem? (i := 348) (by decide +kernel)) (by decide +kernel)
theorem nF_TK_144 : hm_F "TurnedKeys" 144 5 5 (.object "TurnedKeys$Term") 2 := ⟨_, _, _, "TurnedKeys$Wire", nY_WI, nW_WI, rfl, by decide, nf_TK_144, Or.inl rfl, (fun h => absurd h (by decide)), (fun h => absurd h (by decide)), by decide +kernel, nO_WI, nN_WI⟩
theorem nf_TK_159 : Cond.fieldLink "TurnedKeys" 159 "TurnedKeys$End" "sent" "I" ∈ hm_tb := hm_tb_in (List.mem_of_getElem? (i := 241) (by decide +kernel)) (by decide +kernel)
theorem nF_TK_159 : hm_F "TurnedKeys" 159 3 5 (.int) 0 := ⟨_, _, _, "TurnedKeys$End", nY_EN, nW_EN, rfl, by decide, nf_TK_159, Or.inl rfl, fun _ => rfl, (fun h => absurd h (by decide)), by decide +kernel, nO_EN, nN_EN⟩
theorem nf_TK_162 : Cond.fieldLink "TurnedKeys" 162 "TurnedKeys$End" "before" "I" ∈ hm_tb := hm_tb_in (List.mem_of_getElem? (i := 243) (by decide +kernel)) (by decide +kernel)
theorem nF_TK_162 : hm_F "TurnedKeys" 162 3 6 (.int) 0 := ⟨_, _, _, "TurnedKeys$End", nY_EN, nW_EN, rfl, by decide, nf_TK_162, Or.inl rfl, fun _ => rfl, (fun h => absurd h (by decide)), by decide +kernel, nO_EN, nN_EN⟩
theorem nf_TK_165 : Cond.fieldLink "TurnedKeys" 165 "TurnedKeys$End" "next" "I" ∈ hm_tb := hm_tb_in (List.mem_of_getElem? (i := 247) (by decide +kernel)) (by decide +kernel)
theorem nF_TK_165 : hm_F "TurnedKeys" 165 3 8 (.int) 0 := ⟨_, _, _, "TurnedKeys$End", nY_EN, nW_EN, rfl, by decide, nf_TK_165, Or.inl rfl, fun _ => rfl, (fun h => absurd h (by decide)), by decide +kernel, nO_EN, nN_EN⟩
theorem nf_TK_168 : Cond.fieldLink "TurnedKeys" 168 "TurnedKeys$Terms" "drawn" "I" ∈ hm_tb := hm_tb_in (List.mem_of_getElem? (i := 93) (by decide +kernel)) (by decide +kernel)
theorem nF_TK_168 : hm_F "TurnedKeys" 168 1 1 (.int) 0 := ⟨_, _, _, "TurnedKeys$Terms", nY_TS, nW_TS, rfl, by decide, nf_TK_168, Or.inl rfl, fun _ => rfl, (fun h => absurd h (by decide)), by decide +kernel, nO_TS, nN_TS⟩
theorem nf_TK_175 : Cond.fieldLink "TurnedKeys" 175 "TurnedKeys" "makingCalls" "I" ∈ hm_tb := hm_tb_in (List.mem_of_getElem? (i := 293) (by decide +kernel)) (by decide +kernel)
theorem nF_TK_175 : hm_F "TurnedKeys" 175 6 5 (.int) 0 := ⟨_, _, _, "TurnedKeys", nY_TK, nW_TK, rfl, by decide, nf_TK_175, Or.inl rfl, fun _ => rfl, (fun h => absurd h (by decide)), by decide +kernel, nO_TK, nN_TK⟩
theorem nf_TK_178 : Cond.fieldLink "TurnedKeys" 178 "TurnedKeys$Wire" "publicKey" "LTurnedKeys$Term;" ∈ hm_tb := hm_tb_in (List.mem_of_getElem? (i := 344) (by decide +kernel)) (by decide +kernel)
theorem nF_TK_178 : hm_F "TurnedKeys" 178 5 3 (.object "TurnedKeys$Term") 2 := ⟨_, _, _, "TurnedKeys$Wire", nY_WI, nW_WI, rfl, by decide, nf_TK_178, Or.inl rfl, (fun h => absurd h (by decide)), (fun h => absurd h (by decide)), by decide +kernel, nO_WI, nN_WI⟩
theorem nf_EN_11 : Cond.fieldLink "TurnedKeys$End" 11 "TurnedKeys$End" "leftKeys" "[LTurnedKeys$LeftKey;" ∈ hm_tb := hm_tb_in (List.mem_of_getElem? (i := 248) (by decide +kernel)) (by decide +kernel)
theorem nF_EN_11 : hm_F "TurnedKeys$End" 11 3 9 (.array (.object "TurnedKeys$LeftKey")) 1 := ⟨_, _, _, "TurnedKeys$End", nY_EN, nW_EN, rfl, by decide, nf_EN_11, Or.inl rfl, (fun h => absurd h (by decide)), fun _ => ⟨rfl, rfl⟩, by decide +kernel, nO_EN, nN_EN⟩
theorem nf_EN_17 : Cond.fieldLink "TurnedKeys$End" 17 "TurnedKeys$End" "base" "LTurnedKeys$Term;" ∈ hm_tb := hm_tb_in (List.mem_of_getElem? (i := 230) (by decide +kernel)) (by decide +kernel)
theorem nF_EN_17 : hm_F "TurnedKeys$End" 17 3 0 (.object "TurnedKeys$Term") 0 := ⟨_, _, _, "TurnedKeys$End", nY_EN, nW_EN, rfl, by decide, nf_EN_17, Or.inl rfl, fun _ => rfl, (fun h => absurd h (by decide)), by decide +kernel, nO_EN, nN_EN⟩
theorem nf_EN_21 : Cond.fieldLink "TurnedKeys$End" 21 "TurnedKeys$End" "root" "LTurnedKeys$Term;" ∈ hm_tb := hm_tb_in (List.mem_of_getElem? (i := 232) (by decide +kernel)) (by decide +kernel)
theorem nF_EN_21 : hm_F "TurnedKeys$End" 21 3 1 (.object "TurnedKeys$Term") 0 := ⟨_, _, _, "TurnedKeys$End", nY_EN, nW_EN, rfl, by decide, nf_EN_21, Or.inl rfl, fun _ => rfl, (fun h => absurd h (by decide)), by decide +kernel, nO_EN, nN_EN⟩
theorem nf_EN_24 : Cond.fieldLink "TurnedKeys$End" 24 "TurnedKeys$End" "mine" "LTurnedKeys$Term;" ∈ hm_tb := hm_tb_in (List.mem_of_getElem? (i := 234) (by decide +kernel)) (by decide +kernel)
theorem nF_EN_24 : hm_F "TurnedKeys$End" 24 3 2 (.object "TurnedKeys$Term") 0 := ⟨_, _, _, "TurnedKeys$End", nY_EN, nW_EN, rfl, by decide, nf_EN_24, Or.inl rfl, fun _ => rfl, (fun h => absurd h (by decide)), by decide +kernel, nO_EN, nN_EN⟩
theorem nf_EN_34 : Cond.fieldLink "TurnedKeys$End" 34 "TurnedKeys$End" "theirs" "LTurnedKeys$Term;" ∈ hm_tb := hm_tb_in (List.mem_of_getElem? (i := 237) (by decide +kernel)) (by decide +kernel)
theorem nF_EN_34 : hm_F "TurnedKeys$End" 34 3 3 (.object "TurnedKeys$Term") 0 := ⟨_, _, _, "TurnedKeys$End", nY_EN, nW_EN, rfl, by decide, nf_EN_34, Or.inl rfl, fun _ => rfl, (fun h => absurd h (by decide)), by decide +kernel, nO_EN, nN_EN⟩
theorem nf_EN_37 : Cond.fieldLink "TurnedKeys$End" 37 "TurnedKeys$End" "sendChain" "LTurnedKeys$Term;" ∈ hm_tb := hm_tb_in (List.mem_of_getElem? (i := 239) (by decide +kernel)) (by decide +kernel)
theorem nF_EN_37 : hm_F "TurnedKeys$End" 37 3 4 (.object "TurnedKeys$Term") 0 := ⟨_, _, _, "TurnedKeys$End", nY_EN, nW_EN, rfl, by decide, nf_EN_37, Or.inl rfl, fun _ => rfl, (fun h => absurd h (by decide)), by decide +kernel, nO_EN, nN_EN⟩
theorem nf_EN_40 : Cond.fieldLink "TurnedKeys$End" 40 "TurnedKeys$End" "sent" "I" ∈ hm_tb := hm_tb_in (List.mem_of_getElem? (i := 240) (by decide +kernel)) (by decide +kernel)
theorem nF_EN_40 : hm_F "TurnedKeys$End" 40 3 5 (.int) 0 := ⟨_, _, _, "TurnedKeys$End", nY_EN, nW_EN, rfl, by decide, nf_EN_40, Or.inl rfl, fun _ => rfl, (fun h => absurd h (by decide)), by decide +kernel, nO_EN, nN_EN⟩
theorem nf_EN_44 : Cond.fieldLink "TurnedKeys$End" 44 "TurnedKeys$End" "before" "I" ∈ hm_tb := hm_tb_in (List.mem_of_getElem? (i := 242) (by decide +kernel)) (by decide +kernel)
theorem nF_EN_44 : hm_F "TurnedKeys$End" 44 3 6 (.int) 0 := ⟨_, _, _, "TurnedKeys$End", nY_EN, nW_EN, rfl, by decide, nf_EN_44, Or.inl rfl, fun _ => rfl, (fun h => absurd h (by decide)), by decide +kernel, nO_EN, nN_EN⟩
theorem nf_EN_47 : Cond.fieldLink "TurnedKeys$End" 47 "TurnedKeys$End" "receiveChain" "LTurnedKeys$Term;" ∈ hm_tb := hm_tb_in (List.mem_of_getElem? (i := 244) (by decide +kernel)) (by decide +kernel)
theorem nF_EN_47 : hm_F "TurnedKeys$End" 47 3 7 (.object "TurnedKeys$Term") 0 := ⟨_, _, _, "TurnedKeys$End", nY_EN, nW_EN, rfl, by decide, nf_EN_47, Or.inl rfl, fun _ => rfl, (fun h => absurd h (by decide)), by decide +kernel, nO_EN, nN_EN⟩
theorem nf_EN_50 : Cond.fieldLink "TurnedKeys$End" 50 "TurnedKeys$End" "next" "I" ∈ hm_tb := hm_tb_in (List.mem_of_getElem? (i := 246) (by decide +kernel)) (by decide +kernel)
theorem nF_EN_50 : hm_F "TurnedKeys$End" 50 3 8 (.int) 0 := ⟨_, _, _, "TurnedKeys$End", nY_EN, nW_EN, rfl, by decide, nf_EN_50, Or.inl rfl, fun _ => rfl, (fun h => absurd h (by decide)), by decide +kernel, nO_EN, nN_EN⟩
theorem nf_EN_53 : Cond.fieldLink "TurnedKeys$End" 53 "TurnedKeys$End" "left" "I" ∈ hm_tb := hm_tb_in (List.mem_of_getElem? (i := 250) (by decide +kernel)) (by decide +kernel)
theorem nF_EN_53 : hm_F "TurnedKeys$End" 53 3 10 (.int) 0 := ⟨_, _, _, "TurnedKeys$End", nY_EN, nW_EN, rfl, by decide, nf_EN_53, Or.inl rfl, fun _ => rfl, (fun h => absurd h (by decide)), by decide +kernel, nO_EN, nN_EN⟩
theorem nf_EN_79 : Cond.fieldLink "TurnedKeys$End" 79 "TurnedKeys$Wire" "publicKey" "LTurnedKeys$Term;" ∈ hm_tb := hm_tb_in (List.mem_of_getElem? (i := 343) (by decide +kernel)) (by decide +kernel)
theorem nF_EN_79 : hm_F "TurnedKeys$End" 79 5 3 (.object "TurnedKeys$Term") 2 := ⟨_, _, _, "TurnedKeys$Wire", nY_WI, nW_WI, rfl, by decide, nf_EN_79, Or.inl rfl, (fun h => absurd h (by decide)), (fun h => absurd h (by decide)), by decide +kernel, nO_WI, nN_WI⟩
theorem nf_EN_82 : Cond.fieldLink "TurnedKeys$End" 82 "TurnedKeys$Wire" "index" "I" ∈ hm_tb := hm_tb_in (List.mem_of_getElem? (i := 339) (by decide +kernel)) (by decide +kernel)
theorem nF_EN_82 : hm_F "TurnedKeys$End" 82 5 1 (.int) 2 := ⟨_, _, _, "TurnedKeys$Wire", nY_WI, nW_WI, rfl, by decide, nf_EN_82, Or.inl rfl, (fun h => absurd h (by decide)), (fun h => absurd h (by decide)), by decide +kernel, nO_WI, nN_WI⟩
theorem nf_EN_89 : Cond.fieldLink "TurnedKeys$End" 89 "TurnedKeys$Wire" "before" "I" ∈ hm_tb := hm_tb_in (List.mem_of_getElem? (i := 341) (by decide +kernel)) (by decide +kernel)
theorem nF_EN_89 : hm_F "TurnedKeys$End" 89 5 2 (.int) 2 := ⟨_, _, _, "TurnedKeys$Wire", nY_WI, nW_WI, rfl, by decide, nf_EN_89, Or.inl rfl, (fun h => absurd h (by decide)), (fun h => absurd h (by decide)), by decide +kernel, nO_WI, nN_WI⟩
theorem nf_EN_113 : Cond.fieldLink "TurnedKeys$End" 113 "TurnedKeys$LeftKey" "publicKey" "LTurnedKeys$Term;" ∈ hm_tb := hm_tb_in (List.mem_of_getElem? (i := 424) (by decide +kernel)) (by decide +kernel)
theorem nF_EN_113 : hm_F "TurnedKeys$End" 113 4 0 (.object "TurnedKeys$Term") 2 := ⟨_, _, _, "TurnedKeys$LeftKey", nY_LK, nW_LK, rfl, by decide, nf_EN_113, Or.inl rfl, (fun h => absurd h (by decide)), (fun h => absurd h (by decide)), by decide +kernel, nO_LK, nN_LK⟩
theorem nf_EN_114 : Cond.fieldLink "TurnedKeys$End" 114 "TurnedKeys$LeftKey" "index" "I" ∈ hm_tb := hm_tb_in (List.mem_of_getElem? (i := 426) (by decide +kernel)) (by decide +kernel)
theorem nF_EN_114 : hm_F "TurnedKeys$End" 114 4 1 (.int) 2 := ⟨_, _, _, "TurnedKeys$LeftKey", nY_LK, nW_LK, rfl, by decide, nf_EN_114, Or.inl rfl, (fun h => absurd h (by decide)), (fun h => absurd h (by decide)), by decide +kernel, nO_LK, nN_LK⟩
theorem nf_EN_115 : Cond.fieldLink "TurnedKeys$End" 115 "TurnedKeys$LeftKey" "key" "LTurnedKeys$Term;" ∈ hm_tb := hm_tb_in (List.mem_of_getElem? (i := 429) (by decide +kernel)) (by decide +kernel)
theorem nF_EN_115 : hm_F "TurnedKeys$End" 115 4 2 (.object "TurnedKeys$Term") 2 := ⟨_, _, _, "TurnedKeys$LeftKey", nY_LK, nW_LK, rfl, by decide, nf_EN_115, Or.inl rfl, (fun h => absurd h (by decide)), (fun h => absurd h (by decide)), by decide +kernel, nO_LK, nN_LK⟩
theorem nf_LK_7 : Cond.fieldLink "TurnedKeys$LeftKey" 7 "TurnedKeys$LeftKey" "publicKey" "LTurnedKeys$Term;" ∈ hm_tb := hm_tb_in (List.mem_of_getElem? (i := 422) (by decide +kernel)) (by decide +kernel)
theorem nF_LK_7 : hm_F "TurnedKeys$LeftKey" 7 4 0 (.object "TurnedKeys$Term") 1 := ⟨_, _, _, "TurnedKeys$LeftKey", nY_LK, nW_LK, rfl, by decide, nf_LK_7, Or.inl rfl, (fun h => absurd h (by decide)), fun _ => ⟨rfl, rfl⟩, by decide +kernel, nO_LK, nN_LK⟩
theorem nf_LK_13 : Cond.fieldLink "TurnedKeys$LeftKey" 13 "TurnedKeys$LeftKey" "index" "I" ∈ hm_tb := hm_tb_in (List.mem_of_getElem? (i := 425) (by decide +kernel)) (by decide +kernel)
theorem nF_LK_13 : hm_F "TurnedKeys$LeftKey" 13 4 1 (.int) 1 := ⟨_, _, _, "TurnedKeys$LeftKey", nY_LK, nW_LK, rfl, by decide, nf_LK_13, Or.inl rfl, (fun h => absurd h (by decide)), fun _ => ⟨rfl, rfl⟩, by decide +kernel, nO_LK, nN_LK⟩
theorem nf_LK_17 : Cond.fieldLink "TurnedKeys$LeftKey" 17 "TurnedKeys$LeftKey" "key" "LTurnedKeys$Term;" ∈ hm_tb := hm_tb_in (List.mem_of_getElem? (i := 427) (by decide +kernel)) (by decide +kernel)
theorem nF_LK_17 : hm_F "TurnedKeys$LeftKey" 17 4 2 (.object "TurnedKeys$Term") 1 := ⟨_, _, _, "TurnedKeys$LeftKey", nY_LK, nW_LK, rfl, by decide, nf_LK_17, Or.inl rfl, (fun h => absurd h (by decide)), fun _ => ⟨rfl, rfl⟩, by decide +kernel, nO_LK, nN_LK⟩
theorem nf_TE_7 : Cond.fieldLink "TurnedKeys$Term" 7 "TurnedKeys$Term" "kind" "I" ∈ hm_tb := hm_tb_in (List.mem_of_getElem? (i := 120) (by decide +kernel)) (by decide +kernel)
theorem nF_TE_7 : hm_F "TurnedKeys$Term" 7 2 0 (.int) 1 := ⟨_, _, _, "TurnedKeys$Term", nY_TE, nW_TE, rfl, by decide, nf_TE_7, Or.inl rfl, (fun h => absurd h (by decide)), fun _ => ⟨rfl, rfl⟩, by decide +kernel, nO_TE, nN_TE⟩
theorem nf_TE_13 : Cond.fieldLink "TurnedKeys$Term" 13 "TurnedKeys$Term" "place" "I" ∈ hm_tb := hm_tb_in (List.mem_of_getElem? (i := 122) (by decide +kernel)) (by decide +kernel)
theorem nF_TE_13 : hm_F "TurnedKeys$Term" 13 2 1 (.int) 1 := ⟨_, _, _, "TurnedKeys$Term", nY_TE, nW_TE, rfl, by decide, nf_TE_13, Or.inl rfl, (fun h => absurd h (by decide)), fun _ => ⟨rfl, rfl⟩, by decide +kernel, nO_TE, nN_TE⟩
theorem nf_TE_16 : Cond.fieldLink "TurnedKeys$Term" 16 "TurnedKeys$Term" "left" "LTurnedKeys$Term;" ∈ hm_tb := hm_tb_in (List.mem_of_getElem? (i := 124) (by decide +kernel)) (by decide +kernel)
theorem nF_TE_16 : hm_F "TurnedKeys$Term" 16 2 2 (.object "TurnedKeys$Term") 1 := ⟨_, _, _, "TurnedKeys$Term", nY_TE, nW_TE, rfl, by decide, nf_TE_16, Or.inl rfl, (fun h => absurd h (by decide)), fun _ => ⟨rfl, rfl⟩, by decide +kernel, nO_TE, nN_TE⟩
theorem nf_TE_20 : Cond.fieldLink "TurnedKeys$Term" 20 "TurnedKeys$Term" "right" "LTurnedKeys$Term;" ∈ hm_tb := hm_tb_in (List.mem_of_getElem? (i := 126) (by decide +kernel)) (by decide +kernel)
theorem nF_TE_20 : hm_F "TurnedKeys$Term" 20 2 3 (.object "TurnedKeys$Term") 1 := ⟨_, _, _, "TurnedKeys$Term", nY_TE, nW_TE, rfl, by decide, nf_TE_20, Or.inl rfl, (fun h => absurd h (by decide)), fun _ => ⟨rfl, rfl⟩, by decide +kernel, nO_TE, nN_TE⟩
theorem nf_TE_23 : Cond.fieldLink "TurnedKeys$Term" 23 "TurnedKeys$Term" "earlierUser" "LTurnedKeys$Term;" ∈ hm_tb := hm_tb_in (List.mem_of_getElem? (i := 128) (by decide +kernel)) (by decide +kernel)
theorem nF_TE_23 : hm_F "TurnedKeys$Term" 23 2 4 (.object "TurnedKeys$Term") 1 := ⟨_, _, _, "TurnedKeys$Term", nY_TE, nW_TE, rfl, by decide, nf_TE_23, Or.inl rfl, (fun h => absurd h (by decide)), fun _ => ⟨rfl, rfl⟩, by decide +kernel, nO_TE, nN_TE⟩
theorem nf_TS_12 : Cond.fieldLink "TurnedKeys$Terms" 12 "TurnedKeys$Terms" "all" "Ljava/util/ArrayList;" ∈ hm_tb := hm_tb_in (List.mem_of_getElem? (i := 91) (by decide +kernel)) (by decide +kernel)
theorem nF_TS_12 : hm_F "TurnedKeys$Terms" 12 1 0 (.object "java/util/ArrayList") 1 := ⟨_, _, _, "TurnedKeys$Terms", nY_TS, nW_TS, rfl, by decide, nf_TS_12, Or.inl rfl, (fun h => absurd h (by decide)), fun _ => ⟨rfl, rfl⟩, by decide +kernel, nO_TS, nN_TS⟩
theorem nf_TS_18 : Cond.fieldLink "TurnedKeys$Terms" 18 "TurnedKeys$Terms" "drawn" "I" ∈ hm_tb := hm_tb_in (List.mem_of_getElem? (i := 92) (by decide +kernel)) (by decide +kernel)
theorem nF_TS_18 : hm_F "TurnedKeys$Terms" 18 1 1 (.int) 0 := ⟨_, _, _, "TurnedKeys$Terms", nY_TS, nW_TS, rfl, by decide, nf_TS_18, Or.inl rfl, fun _ => rfl, (fun h => absurd h (by decide)), by decide +kernel, nO_TS, nN_TS⟩
theorem nf_TS_26 : Cond.fieldLink "TurnedKeys$Terms" 26 "TurnedKeys$Term" "publicTerm" "LTurnedKeys$Term;" ∈ hm_tb := hm_tb_in (List.mem_of_getElem? (i := 131) (by decide +kernel)) (by decide +kernel)
theorem nF_TS_26 : hm_F "TurnedKeys$Terms" 26 2 6 (.object "TurnedKeys$Term") 0 := ⟨_, _, _, "TurnedKeys$Term", nY_TE, nW_TE, rfl, by decide, nf_TS_26, Or.inl rfl, fun _ => rfl, (fun h => absurd h (by decide)), by decide +kernel, nO_TE, nN_TE⟩
theorem nf_TS_32 : Cond.fieldLink "TurnedKeys$Terms" 32 "TurnedKeys$Term" "left" "LTurnedKeys$Term;" ∈ hm_tb := hm_tb_in (List.mem_of_getElem? (i := 125) (by decide +kernel)) (by decide +kernel)
theorem nF_TS_32 : hm_F "TurnedKeys$Terms" 32 2 2 (.object "TurnedKeys$Term") 2 := ⟨_, _, _, "TurnedKeys$Term", nY_TE, nW_TE, rfl, by decide, nf_TS_32, Or.inl rfl, (fun h => absurd h (by decide)), (fun h => absurd h (by decide)), by decide +kernel, nO_TE, nN_TE⟩
theorem nf_TS_39 : Cond.fieldLink "TurnedKeys$Terms" 39 "TurnedKeys$Term" "place" "I" ∈ hm_tb := hm_tb_in (List.mem_of_getElem? (i := 123) (by decide +kernel)) (by decide +kernel)
theorem nF_TS_39 : hm_F "TurnedKeys$Terms" 39 2 1 (.int) 2 := ⟨_, _, _, "TurnedKeys$Term", nY_TE, nW_TE, rfl, by decide, nf_TS_39, Or.inl rfl, (fun h => absurd h (by decide)), (fun h => absurd h (by decide)), by decide +kernel, nO_TE, nN_TE⟩
theorem nf_TS_50 : Cond.fieldLink "TurnedKeys$Terms" 50 "TurnedKeys$Term" "latestUser" "LTurnedKeys$Term;" ∈ hm_tb := hm_tb_in (List.mem_of_getElem? (i := 130) (by decide +kernel)) (by decide +kernel)
theorem nF_TS_50 : hm_F "TurnedKeys$Terms" 50 2 5 (.object "TurnedKeys$Term") 0 := ⟨_, _, _, "TurnedKeys$Term", nY_TE, nW_TE, rfl, by decide, nf_TS_50, Or.inl rfl, fun _ => rfl, (fun h => absurd h (by decide)), by decide +kernel, nO_TE, nN_TE⟩
theorem nf_TS_53 : Cond.fieldLink "TurnedKeys$Terms" 53 "TurnedKeys$Term" "kind" "I" ∈ hm_tb := hm_tb_in (List.mem_of_getElem? (i := 121) (by decide +kernel)) (by decide +kernel)
theorem nF_TS_53 : hm_F "TurnedKeys$Terms" 53 2 0 (.int) 2 := ⟨_, _, _, "TurnedKeys$Term", nY_TE, nW_TE, rfl, by decide, nf_TS_53, Or.inl rfl, (fun h => absurd h (by decide)), (fun h => absurd h (by decide)), by decide +kernel, nO_TE, nN_TE⟩
theorem nf_TS_56 : Cond.fieldLink "TurnedKeys$Terms" 56 "TurnedKeys$Term" "right" "LTurnedKeys$Term;" ∈ hm_tb := hm_tb_in (List.mem_of_getElem? (i := 127) (by decide +kernel)) (by decide +kernel)
theorem nF_TS_56 : hm_F "TurnedKeys$Terms" 56 2 3 (.object "TurnedKeys$Term") 2 := ⟨_, _, _, "TurnedKeys$Term", nY_TE, nW_TE, rfl, by decide, nf_TS_56, Or.inl rfl, (fun h => absurd h (by decide)), (fun h => absurd h (by decide)), by decide +kernel, nO_TE, nN_TE⟩
theorem nf_TS_59 : Cond.fieldLink "TurnedKeys$Terms" 59 "TurnedKeys$Term" "earlierUser" "LTurnedKeys$Term;" ∈ hm_tb := hm_tb_in (List.mem_of_getElem? (i := 129) (by decide +kernel)) (by decide +kernel)
theorem nF_TS_59 : hm_F "TurnedKeys$Terms" 59 2 4 (.object "TurnedKeys$Term") 2 := ⟨_, _, _, "TurnedKeys$Term", nY_TE, nW_TE, rfl, by decide, nf_TS_59, Or.inl rfl, (fun h => absurd h (by decide)), (fun h => absurd h (by decide)), by decide +kernel, nO_TE, nN_TE⟩
theorem nf_TS_73 : Cond.fieldLink "TurnedKeys$Terms" 73 "TurnedKeys$Term" "derived" "Z" ∈ hm_tb := hm_tb_in (List.mem_of_getElem? (i := 132) (by decide +kernel)) (by decide +kernel)
theorem nF_TS_73 : hm_F "TurnedKeys$Terms" 73 2 7 (.boolean) 0 := ⟨_, _, _, "TurnedKeys$Term", nY_TE, nW_TE, rfl, by decide, nf_TS_73, Or.inl rfl, fun _ => rfl, (fun h => absurd h (by decide)), by decide +kernel, nO_TE, nN_TE⟩
theorem nf_TS_77 : Cond.fieldLink "TurnedKeys$Terms" 77 "TurnedKeys$Terms" "settled" "I" ∈ hm_tb := hm_tb_in (List.mem_of_getElem? (i := 94) (by decide +kernel)) (by decide +kernel)
theorem nF_TS_77 : hm_F "TurnedKeys$Terms" 77 1 2 (.int) 0 := ⟨_, _, _, "TurnedKeys$Terms", nY_TS, nW_TS, rfl, by decide, nf_TS_77, Or.inl rfl, fun _ => rfl, (fun h => absurd h (by decide)), by decide +kernel, nO_TS, nN_TS⟩
theorem nf_WI_7 : Cond.fieldLink "TurnedKeys$Wire" 7 "TurnedKeys$Wire" "sender" "I" ∈ hm_tb := hm_tb_in (List.mem_of_getElem? (i := 336) (by decide +kernel)) (by decide +kernel)
theorem nF_WI_7 : hm_F "TurnedKeys$Wire" 7 5 0 (.int) 1 := ⟨_, _, _, "TurnedKeys$Wire", nY_WI, nW_WI, rfl, by decide, nf_WI_7, Or.inl rfl, (fun h => absurd h (by decide)), fun _ => ⟨rfl, rfl⟩, by decide +kernel, nO_WI, nN_WI⟩
theorem nf_WI_13 : Cond.fieldLink "TurnedKeys$Wire" 13 "TurnedKeys$Wire" "index" "I" ∈ hm_tb := hm_tb_in (List.mem_of_getElem? (i := 338) (by decide +kernel)) (by decide +kernel)
theorem nF_WI_13 : hm_F "TurnedKeys$Wire" 13 5 1 (.int) 1 := ⟨_, _, _, "TurnedKeys$Wire", nY_WI, nW_WI, rfl, by decide, nf_WI_13, Or.inl rfl, (fun h => absurd h (by decide)), fun _ => ⟨rfl, rfl⟩, by decide +kernel, nO_WI, nN_WI⟩
theorem nf_WI_16 : Cond.fieldLink "TurnedKeys$Wire" 16 "TurnedKeys$Wire" "before" "I" ∈ hm_tb := hm_tb_in (List.mem_of_getElem? (i := 340) (by decide +kernel)) (by decide +kernel)
theorem nF_WI_16 : hm_F "TurnedKeys$Wire" 16 5 2 (.int) 1 := ⟨_, _, _, "TurnedKeys$Wire", nY_WI, nW_WI, rfl, by decide, nf_WI_16, Or.inl rfl, (fun h => absurd h (by decide)), fun _ => ⟨rfl, rfl⟩, by decide +kernel, nO_WI, nN_WI⟩
theorem nf_WI_19 : Cond.fieldLink "TurnedKeys$Wire" 19 "TurnedKeys$Wire" "publicKey" "LTurnedKeys$Term;" ∈ hm_tb := hm_tb_in (List.mem_of_getElem? (i := 342) (by decide +kernel)) (by decide +kernel)
theorem nF_WI_19 : hm_F "TurnedKeys$Wire" 19 5 3 (.object "TurnedKeys$Term") 1 := ⟨_, _, _, "TurnedKeys$Wire", nY_WI, nW_WI, rfl, by decide, nf_WI_19, Or.inl rfl, (fun h => absurd h (by decide)), fun _ => ⟨rfl, rfl⟩, by decide +kernel, nO_WI, nN_WI⟩
theorem nf_WI_23 : Cond.fieldLink "TurnedKeys$Wire" 23 "TurnedKeys$Wire" "key" "LTurnedKeys$Term;" ∈ hm_tb := hm_tb_in (List.mem_of_getElem? (i := 345) (by decide +kernel)) (by decide +kernel)
theorem nF_WI_23 : hm_F "TurnedKeys$Wire" 23 5 4 (.object "TurnedKeys$Term") 1 := ⟨_, _, _, "TurnedKeys$Wire", nY_WI, nW_WI, rfl, by decide, nf_WI_23, Or.inl rfl, (fun h => absurd h (by decide)), fun _ => ⟨rfl, rfl⟩, by decide +kernel, nO_WI, nN_WI⟩
theorem nf_WI_26 : Cond.fieldLink "TurnedKeys$Wire" 26 "TurnedKeys$Wire" "letter" "LTurnedKeys$Term;" ∈ hm_tb := hm_tb_in (List.mem_of_getElem? (i := 347) (by decide +kernel)) (by decide +kernel)
theorem nF_WI_26 : hm_F "TurnedKeys$Wire" 26 5 5 (.object "TurnedKeys$Term") 1 := ⟨_, _, _, "TurnedKeys$Wire", nY_WI, nW_WI, rfl, by decide, nf_WI_26, Or.inl rfl, (fun h => absurd h (by decide)), fun _ => ⟨rfl, rfl⟩, by decide +kernel, nO_WI, nN_WI⟩
theorem nf_MO_7 : Cond.fieldLink "TurnedKeysModel" 7 "TurnedKeysModel" "terms" "I" ∈ hm_tb := hm_tb_in (List.mem_of_getElem? (i := 534) (by decide +kernel)) (by decide +kernel)
theorem nF_MO_7 : hm_F "TurnedKeysModel" 7 7 0 (.int) 0 := ⟨_, _, _, "TurnedKeysModel", nY_MO, nW_MO, rfl, by decide, nf_MO_7, Or.inl rfl, fun _ => rfl, (fun h => absurd h (by decide)), by decide +kernel, nO_MO, nN_MO⟩
theorem nf_MO_13 : Cond.fieldLink "TurnedKeysModel" 13 "TurnedKeysModel" "sort" "[B" ∈ hm_tb := hm_tb_in (List.mem_of_getElem? (i := 535) (by decide +kernel)) (by decide +kernel)
theorem nF_MO_13 : hm_F "TurnedKeysModel" 13 7 1 (.array (.byte)) 1 := ⟨_, _, _, "TurnedKeysModel", nY_MO, nW_MO, rfl, by decide, nf_MO_13, Or.inl rfl, (fun h => absurd h (by decide)), fun _ => ⟨rfl, rfl⟩, by decide +kernel, nO_MO, nN_MO⟩
theorem nf_MO_17 : Cond.fieldLink "TurnedKeysModel" 17 "TurnedKeysModel" "one" "[I" ∈ hm_tb := hm_tb_in (List.mem_of_getElem? (i := 536) (by decide +kernel)) (by decide +kernel)
theorem nF_MO_17 : hm_F "TurnedKeysModel" 17 7 2 (.array (.int)) 1 := ⟨_, _, _, "TurnedKeysModel", nY_MO, nW_MO, rfl, by decide, nf_MO_17, Or.inl rfl, (fun h => absurd h (by decide)), fun _ => ⟨rfl, rfl⟩, by decide +kernel, nO_MO, nN_MO⟩
theorem nf_MO_21 : Cond.fieldLink "TurnedKeysModel" 21 "TurnedKeysModel" "two" "[I" ∈ hm_tb := hm_tb_in (List.mem_of_getElem? (i := 537) (by decide +kernel)) (by decide +kernel)
theorem nF_MO_21 : hm_F "TurnedKeysModel" 21 7 3 (.array (.int)) 1 := ⟨_, _, _, "TurnedKeysModel", nY_MO, nW_MO, rfl, by decide, nf_MO_21, Or.inl rfl, (fun h => absurd h (by decide)), fun _ => ⟨rfl, rfl⟩, by decide +kernel, nO_MO, nN_MO⟩
theorem nf_MO_24 : Cond.fieldLink "TurnedKeysModel" 24 "TurnedKeysModel" "three" "[I" ∈ hm_tb := hm_tb_in (List.mem_of_getElem? (i := 538) (by decide +kernel)) (by decide +kernel)
theorem nF_MO_24 : hm_F "TurnedKeysModel" 24 7 4 (.array (.int)) 1 := ⟨_, _, _, "TurnedKeysModel", nY_MO, nW_MO, rfl, by decide, nf_MO_24, Or.inl rfl, (fun h => absurd h (by decide)), fun _ => ⟨rfl, rfl⟩, by decide +kernel, nO_MO, nN_MO⟩
theorem nf_MO_27 : Cond.fieldLink "TurnedKeysModel" 27 "TurnedKeysModel" "given" "[Z" ∈ hm_tb := hm_tb_in (List.mem_of_getElem? (i := 539) (by decide +kernel)) (by decide +kernel)
theorem nF_MO_27 : hm_F "TurnedKeysModel" 27 7 5 (.array (.boolean)) 1 := ⟨_, _, _, "TurnedKeysModel", nY_MO, nW_MO, rfl, by decide, nf_MO_27, Or.inl rfl, (fun h => absurd h (by decide)), fun _ => ⟨rfl, rfl⟩, by decide +kernel, nO_MO, nN_MO⟩
theorem nf_MO_31 : Cond.fieldLink "TurnedKeysModel" 31 "TurnedKeysModel" "known" "[Z" ∈ hm_tb := hm_tb_in (List.mem_of_getElem? (i := 540) (by decide +kernel)) (by decide +kernel)
theorem nF_MO_31 : hm_F "TurnedKeysModel" 31 7 6 (.array (.boolean)) 1 := ⟨_, _, _, "TurnedKeysModel", nY_MO, nW_MO, rfl, by decide, nf_MO_31, Or.inl rfl, (fun h => absurd h (by decide)), fun _ => ⟨rfl, rfl⟩, by decide +kernel, nO_MO, nN_MO⟩
theorem nf_MO_35 : Cond.fieldLink "TurnedKeysModel" 35 "TurnedKeysModel" "table" "[I" ∈ hm_tb := hm_tb_in (List.mem_of_getElem? (i := 541) (by decide +kernel)) (by decide +kernel)
theorem nF_MO_35 : hm_F "TurnedKeysModel" 35 7 7 (.array (.int)) 1 := ⟨_, _, _, "TurnedKeysModel", nY_MO, nW_MO, rfl, by decide, nf_MO_35, Or.inl rfl, (fun h => absurd h (by decide)), fun _ => ⟨rfl, rfl⟩, by decide +kernel, nO_MO, nN_MO⟩
theorem nf_MO_38 : Cond.fieldLink "TurnedKeysModel" 38 "TurnedKeysModel" "isOld" "Z" ∈ hm_tb := hm_tb_in (List.mem_of_getElem? (i := 542) (by decide +kernel)) (by decide +kernel)
theorem nF_MO_38 : hm_F "TurnedKeysModel" 38 7 8 (.boolean) 0 := ⟨_, _, _, "TurnedKeysModel", nY_MO, nW_MO, rfl, by decide, nf_MO_38, Or.inl rfl, fun _ => rfl, (fun h => absurd h (by decide)), by decide +kernel, nO_MO, nN_MO⟩
theorem nf_MO_42 : Cond.fieldLink "TurnedKeysModel" 42 "TurnedKeysModel" "headN" "[I" ∈ hm_tb := hm_tb_in (List.mem_of_getElem? (i := 545) (by decide +kernel)) (by decide +kernel)
theorem nF_MO_42 : hm_F "TurnedKeysModel" 42 7 11 (.array (.int)) 1 := ⟨_, _, _, "TurnedKeysModel", nY_MO, nW_MO, rfl, by decide, nf_MO_42, Or.inl rfl, (fun h => absurd h (by decide)), fun _ => ⟨rfl, rfl⟩, by decide +kernel, nO_MO, nN_MO⟩
theorem nf_MO_45 : Cond.fieldLink "TurnedKeysModel" 45 "TurnedKeysModel" "headBefore" "[I" ∈ hm_tb := hm_tb_in (List.mem_of_getElem? (i := 546) (by decide +kernel)) (by decide +kernel)
theorem nF_MO_45 : hm_F "TurnedKeysModel" 45 7 12 (.array (.int)) 1 := ⟨_, _, _, "TurnedKeysModel", nY_MO, nW_MO, rfl, by decide, nf_MO_45, Or.inl rfl, (fun h => absurd h (by decide)), fun _ => ⟨rfl, rfl⟩, by decide +kernel, nO_MO, nN_MO⟩
theorem nf_MO_48 : Cond.fieldLink "TurnedKeysModel" 48 "TurnedKeysModel" "headEnd" "[I" ∈ hm_tb := hm_tb_in (List.mem_of_getElem? (i := 547) (by decide +kernel)) (by decide +kernel)
theorem nF_MO_48 : hm_F "TurnedKeysModel" 48 7 13 (.array (.int)) 1 := ⟨_, _, _, "TurnedKeysModel", nY_MO, nW_MO, rfl, by decide, nf_MO_48, Or.inl rfl, (fun h => absurd h (by decide)), fun _ => ⟨rfl, rfl⟩, by decide +kernel, nO_MO, nN_MO⟩
theorem nf_MO_51 : Cond.fieldLink "TurnedKeysModel" 51 "TurnedKeysModel" "headKey" "[I" ∈ hm_tb := hm_tb_in (List.mem_of_getElem? (i := 548) (by decide +kernel)) (by decide +kernel)
theorem nF_MO_51 : hm_F "TurnedKeysModel" 51 7 14 (.array (.int)) 1 := ⟨_, _, _, "TurnedKeysModel", nY_MO, nW_MO, rfl, by decide, nf_MO_51, Or.inl rfl, (fun h => absurd h (by decide)), fun _ => ⟨rfl, rfl⟩, by decide +kernel, nO_MO, nN_MO⟩
theorem nf_MO_54 : Cond.fieldLink "TurnedKeysModel" 54 "TurnedKeysModel" "wire" "[I" ∈ hm_tb := hm_tb_in (List.mem_of_getElem? (i := 550) (by decide +kernel)) (by decide +kernel)
theorem nF_MO_54 : hm_F "TurnedKeysModel" 54 7 16 (.array (.int)) 1 := ⟨_, _, _, "TurnedKeysModel", nY_MO, nW_MO, rfl, by decide, nf_MO_54, Or.inl rfl, (fun h => absurd h (by decide)), fun _ => ⟨rfl, rfl⟩, by decide +kernel, nO_MO, nN_MO⟩
theorem nf_MO_57 : Cond.fieldLink "TurnedKeysModel" 57 "TurnedKeysModel" "letter" "[I" ∈ hm_tb := hm_tb_in (List.mem_of_getElem? (i := 551) (by decide +kernel)) (by decide +kernel)
theorem nF_MO_57 : hm_F "TurnedKeysModel" 57 7 17 (.array (.int)) 1 := ⟨_, _, _, "TurnedKeysModel", nY_MO, nW_MO, rfl, by decide, nf_MO_57, Or.inl rfl, (fun h => absurd h (by decide)), fun _ => ⟨rfl, rfl⟩, by decide +kernel, nO_MO, nN_MO⟩
theorem nf_MO_60 : Cond.fieldLink "TurnedKeysModel" 60 "TurnedKeysModel" "now" "[I" ∈ hm_tb := hm_tb_in (List.mem_of_getElem? (i := 553) (by decide +kernel)) (by decide +kernel)
theorem nF_MO_60 : hm_F "TurnedKeysModel" 60 7 19 (.array (.int)) 1 := ⟨_, _, _, "TurnedKeysModel", nY_MO, nW_MO, rfl, by decide, nf_MO_60, Or.inl rfl, (fun h => absurd h (by decide)), fun _ => ⟨rfl, rfl⟩, by decide +kernel, nO_MO, nN_MO⟩
theorem nf_MO_63 : Cond.fieldLink "TurnedKeysModel" 63 "TurnedKeysModel" "kept" "[I" ∈ hm_tb := hm_tb_in (List.mem_of_getElem? (i := 554) (by decide +kernel)) (by decide +kernel)
theorem nF_MO_63 : hm_F "TurnedKeysModel" 63 7 20 (.array (.int)) 1 := ⟨_, _, _, "TurnedKeysModel", nY_MO, nW_MO, rfl, by decide, nf_MO_63, Or.inl rfl, (fun h => absurd h (by decide)), fun _ => ⟨rfl, rfl⟩, by decide +kernel, nO_MO, nN_MO⟩
theorem nf_MO_66 : Cond.fieldLink "TurnedKeysModel" 66 "TurnedKeysModel" "hand" "[I" ∈ hm_tb := hm_tb_in (List.mem_of_getElem? (i := 555) (by decide +kernel)) (by decide +kernel)
theorem nF_MO_66 : hm_F "TurnedKeysModel" 66 7 21 (.array (.int)) 1 := ⟨_, _, _, "TurnedKeysModel", nY_MO, nW_MO, rfl, by decide, nf_MO_66, Or.inl rfl, (fun h => absurd h (by decide)), fun _ => ⟨rfl, rfl⟩, by decide +kernel, nO_MO, nN_MO⟩
theorem nf_MO_77 : Cond.fieldLink "TurnedKeysModel" 77 "TurnedKeysModel" "base" "I" ∈ hm_tb := hm_tb_in (List.mem_of_getElem? (i := 552) (by decide +kernel)) (by decide +kernel)
theorem nF_MO_77 : hm_F "TurnedKeysModel" 77 7 18 (.int) 0 := ⟨_, _, _, "TurnedKeysModel", nY_MO, nW_MO, rfl, by decide, nf_MO_77, Or.inl rfl, fun _ => rfl, (fun h => absurd h (by decide)), by decide +kernel, nO_MO, nN_MO⟩
theorem nf_MO_92 : Cond.fieldLink "TurnedKeysModel" 92 "TurnedKeysModel" "drawn" "I" ∈ hm_tb := hm_tb_in (List.mem_of_getElem? (i := 543) (by decide +kernel)) (by decide +kernel)
theorem nF_MO_92 : hm_F "TurnedKeysModel" 92 7 9 (.int) 0 := ⟨_, _, _, "TurnedKeysModel", nY_MO, nW_MO, rfl, by decide, nf_MO_92, Or.inl rfl, fun _ => rfl, (fun h => absurd h (by decide)), by decide +kernel, nO_MO, nN_MO⟩
theorem nf_MO_122 : Cond.fieldLink "TurnedKeysModel" 122 "TurnedKeysModel" "heads" "I" ∈ hm_tb := hm_tb_in (List.mem_of_getElem? (i := 544) (by decide +kernel)) (by decide +kernel)
theorem nF_MO_122 : hm_F "TurnedKeysModel" 122 7 10 (.int) 0 := ⟨_, _, _, "TurnedKeysModel", nY_MO, nW_MO, rfl, by decide, nf_MO_122, Or.inl rfl, fun _ => rfl, (fun h => absurd h (by decide)), by decide +kernel, nO_MO, nN_MO⟩
theorem nf_MO_128 : Cond.fieldLink "TurnedKeysModel" 128 "TurnedKeysModel" "wires" "I" ∈ hm_tb := hm_tb_in (List.mem_of_getElem? (i := 549) (by decide +kernel)) (by decide +kernel)
theorem nF_MO_128 : hm_F "TurnedKeysModel" 128 7 15 (.int) 0 := ⟨_, _, _, "TurnedKeysModel", nY_MO, nW_MO, rfl, by decide, nf_MO_128, Or.inl rfl, fun _ => rfl, (fun h => absurd h (by decide)), by decide +kernel, nO_MO, nN_MO⟩
theorem nf_MO_149 : Cond.fieldLink "TurnedKeysModel" 149 "TurnedKeysModel" "looked" "I" ∈ hm_tb := hm_tb_in (List.mem_of_getElem? (i := 556) (by decide +kernel)) (by decide +kernel)
theorem nF_MO_149 : hm_F "TurnedKeysModel" 149 7 22 (.int) 0 := ⟨_, _, _, "TurnedKeysModel", nY_MO, nW_MO, rfl, by decide, nf_MO_149, Or.inl rfl, fun _ => rfl, (fun h => absurd h (by decide)), by decide +kernel, nO_MO, nN_MO⟩
theorem nf_AB_7 : Cond.fieldLink "java/util/AbstractList" 7 "java/util/AbstractList" "modCount" "I" ∈ hm_tb := hm_tb_in (List.mem_of_getElem? (i := 81) (by decide +kernel)) (by decide +kernel)
theorem nF_AB_7 : hm_F "java/util/AbstractList" 7 0 2 (.int) 0 := ⟨_, _, _, "java/util/AbstractList", nY_AL, nW_AL, rfl, by decide, nf_AB_7, Or.inl rfl, fun _ => rfl, (fun h => absurd h (by decide)), by decide +kernel, nO_AL, nN_AL⟩
theorem nf_AL_9 : Cond.fieldLink "java/util/ArrayList" 9 "java/util/ArrayList" "elementData" "[Ljava/lang/Object;" ∈ hm_tb := hm_tb_in (List.mem_of_getElem? (i := 79) (by decide +kernel)) (by decide +kernel)
theorem nF_AL_9 : hm_F "java/util/ArrayList" 9 0 0 (.array (.object "java/lang/Object")) 0 := ⟨_, _, _, "java/util/ArrayList", nY_AL, nW_AL, rfl, by decide, nf_AL_9, Or.inl rfl, fun _ => rfl, (fun h => absurd h (by decide)), by decide +kernel, nO_AL, nN_AL⟩
theorem nf_AL_48 : Cond.fieldLink "java/util/ArrayList" 48 "java/util/ArrayList" "size" "I" ∈ hm_tb := hm_tb_in (List.mem_of_getElem? (i := 80) (by decide +kernel)) (by decide +kernel)
theorem nF_AL_48 : hm_F "java/util/ArrayList" 48 0 1 (.int) 0 := ⟨_, _, _, "java/util/ArrayList", nY_AL, nW_AL, rfl, by decide, nf_AL_48, Or.inl rfl, fun _ => rfl, (fun h => absurd h (by decide)), by decide +kernel, nO_AL, nN_AL⟩
theorem nf_AL_63 : Cond.fieldLink "java/util/ArrayList" 63 "java/util/ArrayList" "modCount" "I" ∈ hm_tb := hm_tb_in (List.mem_of_getElem? (i := 82) (by decide +kernel)) (by decide +kernel)
theorem ns_AL_63 : Cond.sameField "java/util/ArrayList" "java/util/AbstractList" "modCount" "I" ∈ hm_tb := hm_tb_in (List.mem_of_getElem? (i := 83) (by decide +kernel)) (by decide +kernel)
theorem nF_AL_63 : hm_F "java/util/ArrayList" 63 0 2 (.int) 0 := ⟨_, _, _, "java/util/ArrayList", nY_AL, nW_AL, rfl, by decide, nf_AL_63, Or.inr ns_AL_63, fun _ => rfl, (fun h => absurd h (by decide)), by decide +kernel, nO_AL, nN_AL⟩
theorem nz_LA : Cond.initialized "TurnedKeysLaw" ∈ hm_tb := hm_tb_in (List.mem_of_getElem? (i := 34) (by decide +kernel)) (by decide +kernel)
theorem nz_TK : Cond.initialized "TurnedKeys" ∈ hm_tb := hm_tb_in (List.mem_of_getElem? (i := 35) (by decide +kernel)) (by decide +kernel)
theorem nz_TS : Cond.initialized "TurnedKeys$Terms" ∈ hm_tb := hm_tb_in (List.mem_of_getElem? (i := 36) (by decide +kernel)) (by decide +kernel)
theorem nz_AC : Cond.initialized "java/util/AbstractCollection" ∈ hm_tb := hm_tb_in (List.mem_of_getElem? (i := 37) (by decide +kernel)) (by decide +kernel)
theorem nz_AB : Cond.initialized "java/util/AbstractList" ∈ hm_tb := hm_tb_in (List.mem_of_getElem? (i := 38) (by decide +kernel)) (by decide +kernel)
theorem nz_AL : Cond.initialized "java/util/ArrayList" ∈ hm_tb := hm_tb_in (List.mem_of_getElem? (i := 39) (by decide +kernel)) (by decide +kernel)
theorem nz_TE : Cond.initialized "TurnedKeys$Term" ∈ hm_tb := hm_tb_in (List.mem_of_getElem? (i := 40) (by decide +kernel)) (by decide +kernel)
theorem nz_AS : Cond.initialized "jdk/internal/util/ArraysSupport" ∈ hm_tb := hm_tb_in (List.mem_of_getElem? (i := 41) (by decide +kernel)) (by decide +kernel)
theorem nz_MA : Cond.initialized "java/lang/Math" ∈ hm_tb := hm_tb_in (List.mem_of_getElem? (i := 42) (by decide +kernel)) (by decide +kernel)
theorem nz_AR : Cond.initialized "java/util/Arrays" ∈ hm_tb := hm_tb_in (List.mem_of_getElem? (i := 43) (by decide +kernel)) (by decide +kernel)
theorem nz_SY : Cond.initialized "java/lang/System" ∈ hm_tb := hm_tb_in (List.mem_of_getElem? (i := 44) (by decide +kernel)) (by decide +kernel)
theorem nz_EN : Cond.initialized "TurnedKeys$End" ∈ hm_tb := hm_tb_in (List.mem_of_getElem? (i := 45) (by decide +kernel)) (by decide +kernel)
theorem nz_MO : Cond.initialized "TurnedKeysModel" ∈ hm_tb := hm_tb_in (List.mem_of_getElem? (i := 46) (by decide +kernel)) (by decide +kernel)
theorem nz_WI : Cond.initialized "TurnedKeys$Wire" ∈ hm_tb := hm_tb_in (List.mem_of_getElem? (i := 47) (by decide +kernel)) (by decide +kernel)
theorem nz_OB : Cond.initialized "java/util/Objects" ∈ hm_tb := hm_tb_in (List.mem_of_getElem? (i := 48) (by decide +kernel)) (by decide +kernel)
theorem nz_PR : Cond.initialized "jdk/internal/util/Preconditions" ∈ hm_tb := hm_tb_in (List.mem_of_getElem? (i := 49) (by decide +kernel)) (by decide +kernel)
theorem nz_LK : Cond.initialized "TurnedKeys$LeftKey" ∈ hm_tb := hm_tb_in (List.mem_of_getElem? (i := 50) (by decide +kernel)) (by decide +kernel)
theorem nc_LA_7 : Cond.classLink "TurnedKeysLaw" 7 "TurnedKeys" ∈ hm_tb := hm_tb_in (List.mem_of_getElem? (i := 51) (by decide +kernel)) (by decide +kernel)
theorem ni_TK : Cond.instantiable "TurnedKeys" 6 ∈ hm_tb := hm_tb_in (List.mem_of_getElem? (i := 52) (by decide +kernel)) (by decide +kernel)
theorem nc_TK_7 : Cond.classLink "TurnedKeys" 7 "TurnedKeys$Terms" ∈ hm_tb := hm_tb_in (List.mem_of_getElem? (i := 59) (by decide +kernel)) (by decide +kernel)
theorem ni_TS : Cond.instantiable "TurnedKeys$Terms" 3 ∈ hm_tb := hm_tb_in (List.mem_of_getElem? (i := 60) (by decide +kernel)) (by decide +kernel)
theorem nc_TS_9 : Cond.classLink "TurnedKeys$Terms" 9 "java/util/ArrayList" ∈ hm_tb := hm_tb_in (List.mem_of_getElem? (i := 65) (by decide +kernel)) (by decide +kernel)
theorem ni_AL : Cond.instantiable "java/util/ArrayList" 3 ∈ hm_tb := hm_tb_in (List.mem_of_getElem? (i := 66) (by decide +kernel)) (by decide +kernel)
theorem nc_TS_27 : Cond.classLink "TurnedKeys$Terms" 27 "TurnedKeys$Term" ∈ hm_tb := hm_tb_in (List.mem_of_getElem? (i := 110) (by decide +kernel)) (by decide +kernel)
theorem ni_TE : Cond.instantiable "TurnedKeys$Term" 8 ∈ hm_tb := hm_tb_in (List.mem_of_getElem? (i := 111) (by decide +kernel)) (by decide +kernel)
theorem nk_AS_200 : Cond.constant "jdk/internal/util/ArraysSupport" 200 (2147483639 : Int32) ∈ hm_tb := hm_tb_in (List.mem_of_getElem? (i := 172) (by decide +kernel)) (by decide +kernel)
theorem nc_AR_110 : Cond.classLink "java/util/Arrays" 110 "[Ljava/lang/Object;" ∈ hm_tb := hm_tb_in (List.mem_of_getElem? (i := 194) (by decide +kernel)) (by decide +kernel)
theorem nc_AR_2 : Cond.classLink "java/util/Arrays" 2 "java/lang/Object" ∈ hm_tb := hm_tb_in (List.mem_of_getElem? (i := 196) (by decide +kernel)) (by decide +kernel)
theorem nc_AL_7 : Cond.classLink "java/util/ArrayList" 7 "java/lang/Object" ∈ hm_tb := hm_tb_in (List.mem_of_getElem? (i := 204) (by decide +kernel)) (by decide +kernel)
theorem nc_TK_28 : Cond.classLink "TurnedKeys" 28 "TurnedKeys$End" ∈ hm_tb := hm_tb_in (List.mem_of_getElem? (i := 221) (by decide +kernel)) (by decide +kernel)
theorem ni_EN : Cond.instantiable "TurnedKeys$End" 11 ∈ hm_tb := hm_tb_in (List.mem_of_getElem? (i := 222) (by decide +kernel)) (by decide +kernel)
theorem nc_EN_9 : Cond.classLink "TurnedKeys$End" 9 "TurnedKeys$LeftKey" ∈ hm_tb := hm_tb_in (List.mem_of_getElem? (i := 228) (by decide +kernel)) (by decide +kernel)
theorem nc_EN_12 : Cond.classLink "TurnedKeys$End" 12 "TurnedKeys$End" ∈ hm_tb := hm_tb_in (List.mem_of_getElem? (i := 280) (by decide +kernel)) (by decide +kernel)
theorem nc_TK_59 : Cond.classLink "TurnedKeys" 59 "java/util/ArrayList" ∈ hm_tb := hm_tb_in (List.mem_of_getElem? (i := 286) (by decide +kernel)) (by decide +kernel)
theorem nc_EN_70 : Cond.classLink "TurnedKeys$End" 70 "TurnedKeys$Wire" ∈ hm_tb := hm_tb_in (List.mem_of_getElem? (i := 329) (by decide +kernel)) (by decide +kernel)
theorem ni_WI : Cond.instantiable "TurnedKeys$Wire" 6 ∈ hm_tb := hm_tb_in (List.mem_of_getElem? (i := 330) (by decide +kernel)) (by decide +kernel)
theorem nc_TK_102 : Cond.classLink "TurnedKeys" 102 "TurnedKeys$Wire" ∈ hm_tb := hm_tb_in (List.mem_of_getElem? (i := 395) (by decide +kernel)) (by decide +kernel)
theorem ni_LK : Cond.instantiable "TurnedKeys$LeftKey" 3 ∈ hm_tb := hm_tb_in (List.mem_of_getElem? (i := 413) (by decide +kernel)) (by decide +kernel)
theorem nk_TS_93 : Cond.constant "TurnedKeys$Terms" 93 (1000000 : Int32) ∈ hm_tb := hm_tb_in (List.mem_of_getElem? (i := 461) (by decide +kernel)) (by decide +kernel)
theorem nc_LA_10 : Cond.classLink "TurnedKeysLaw" 10 "TurnedKeysModel" ∈ hm_tb := hm_tb_in (List.mem_of_getElem? (i := 503) (by decide +kernel)) (by decide +kernel)
theorem ni_MO : Cond.instantiable "TurnedKeysModel" 23 ∈ hm_tb := hm_tb_in (List.mem_of_getElem? (i := 504) (by decide +kernel)) (by decide +kernel)
theorem nk_MO_34 : Cond.constant "TurnedKeysModel" 34 (65536 : Int32) ∈ hm_tb := hm_tb_in (List.mem_of_getElem? (i := 509) (by decide +kernel)) (by decide +kernel)
theorem nk_MO_88 : Cond.constant "TurnedKeysModel" 88 (-1640531535 : Int32) ∈ hm_tb := hm_tb_in (List.mem_of_getElem? (i := 518) (by decide +kernel)) (by decide +kernel)
theorem nk_MO_89 : Cond.constant "TurnedKeysModel" 89 (-2048144789 : Int32) ∈ hm_tb := hm_tb_in (List.mem_of_getElem? (i := 519) (by decide +kernel)) (by decide +kernel)
theorem nk_MO_90 : Cond.constant "TurnedKeysModel" 90 (668265263 : Int32) ∈ hm_tb := hm_tb_in (List.mem_of_getElem? (i := 520) (by decide +kernel)) (by decide +kernel)
theorem nk_MO_91 : Cond.constant "TurnedKeysModel" 91 (65535 : Int32) ∈ hm_tb := hm_tb_in (List.mem_of_getElem? (i := 521) (by decide +kernel)) (by decide +kernel)
theorem na_byte : Cond.arrayClass .byte ∈ hm_tb := hm_tb_in (List.mem_of_getElem? (i := 604) (by decide +kernel)) (by decide +kernel)
theorem na_int : Cond.arrayClass .int ∈ hm_tb := hm_tb_in (List.mem_of_getElem? (i := 605) (by decide +kernel)) (by decide +kernel)
theorem na_boolean : Cond.arrayClass .boolean ∈ hm_tb := hm_tb_in (List.mem_of_getElem? (i := 606) (by decide +kernel)) (by decide +kernel)
theorem nB_LA_7 : hm_O "TurnedKeysLaw" 7 6 [.null, .null, .null, .null, .null, .int 0] := ⟨_, _, nY_TK, nW_TK, rfl, nc_LA_7, ni_TK, nz_TK, nO_TK, fun j hj => by
  match j, hj with
  | 0, _ => rfl
  | 1, _ => rfl
  | 2, _ => rfl
  | 3, _ => rfl
  | 4, _ => rfl
  | 5, _ => rfl
  | j + 6, hj => exact absurd hj (by simp)⟩
theorem nB_TK_7 : hm_O "TurnedKeys" 7 1 [.null, .int 0, .int 0] := ⟨_, _, nY_TS, nW_TS, rfl, nc_TK_7, ni_TS, nz_TS, nO_TS, fun j hj => by
  match j, hj with
  | 0, _ => rfl
  | 1, _ => rfl
  | 2, _ => rfl
  | j + 3, hj => exact absurd hj (by simp)⟩
theorem nB_TS_9 : hm_O "TurnedKeys$Terms" 9 0 [.null, .int 0, .int 0] := ⟨_, _, nY_AL, nW_AL, rfl, nc_TS_9, ni_AL, nz_AL, nO_AL, fun j hj => by
  match j, hj with
  | 0, _ => rfl
  | 1, _ => rfl
  | 2, _ => rfl
  | j + 3, hj => exact absurd hj (by simp)⟩
theorem nB_TS_27 : hm_O "TurnedKeys$Terms" 27 2 [.int 0, .int 0, .null, .null, .null, .null, .null, .int 0] := ⟨_, _, nY_TE, nW_TE, rfl, nc_TS_27, ni_TE, nz_TE, nO_TE, fun j hj => by
  match j, hj with
  | 0, _ => rfl
  | 1, _ => rfl
  | 2, _ => rfl
  | 3, _ => rfl
  | 4, _ => rfl
  | 5, _ => rfl
  | 6, _ => rfl
  | 7, _ => rfl
  | j + 8, hj => exact absurd hj (by simp)⟩
theorem nB_TK_28 : hm_O "TurnedKeys" 28 3 [.null, .null, .null, .null, .null, .int 0, .int 0, .null, .int 0, .null, .int 0] := ⟨_, _, nY_EN, nW_EN, rfl, nc_TK_28, ni_EN, nz_EN, nO_EN, fun j hj => by
  match j, hj with
  | 0, _ => rfl
  | 1, _ => rfl
  | 2, _ => rfl
  | 3, _ => rfl
  | 4, _ => rfl
  | 5, _ => rfl
  | 6, _ => rfl
  | 7, _ => rfl
  | 8, _ => rfl
  | 9, _ => rfl
  | 10, _ => rfl
  | j + 11, hj => exact absurd hj (by simp)⟩
theorem nB_EN_9 : hm_O "TurnedKeys$End" 9 4 [.null, .int 0, .null] := ⟨_, _, nY_LK, nW_LK, rfl, nc_EN_9, ni_LK, nz_LK, nO_LK, fun j hj => by
  match j, hj with
  | 0, _ => rfl
  | 1, _ => rfl
  | 2, _ => rfl
  | j + 3, hj => exact absurd hj (by simp)⟩
theorem nB_EN_12 : hm_O "TurnedKeys$End" 12 3 [.null, .null, .null, .null, .null, .int 0, .int 0, .null, .int 0, .null, .int 0] := ⟨_, _, nY_EN, nW_EN, rfl, nc_EN_12, ni_EN, nz_EN, nO_EN, fun j hj => by
  match j, hj with
  | 0, _ => rfl
  | 1, _ => rfl
  | 2, _ => rfl
  | 3, _ => rfl
  | 4, _ => rfl
  | 5, _ => rfl
  | 6, _ => rfl
  | 7, _ => rfl
  | 8, _ => rfl
  | 9, _ => rfl
  | 10, _ => rfl
  | j + 11, hj => exact absurd hj (by simp)⟩
theorem nB_TK_59 : hm_O "TurnedKeys" 59 0 [.null, .int 0, .int 0] := ⟨_, _, nY_AL, nW_AL, rfl, nc_TK_59, ni_AL, nz_AL, nO_AL, fun j hj => by
  match j, hj with
  | 0, _ => rfl
  | 1, _ => rfl
  | 2, _ => rfl
  | j + 3, hj => exact absurd hj (by simp)⟩
theorem nB_EN_70 : hm_O "TurnedKeys$End" 70 5 [.int 0, .int 0, .int 0, .null, .null, .null] := ⟨_, _, nY_WI, nW_WI, rfl, nc_EN_70, ni_WI, nz_WI, nO_WI, fun j hj => by
  match j, hj with
  | 0, _ => rfl
  | 1, _ => rfl
  | 2, _ => rfl
  | 3, _ => rfl
  | 4, _ => rfl
  | 5, _ => rfl
  | j + 6, hj => exact absurd hj (by simp)⟩
theorem nB_TK_102 : hm_O "TurnedKeys" 102 5 [.int 0, .int 0, .int 0, .null, .null, .null] := ⟨_, _, nY_WI, nW_WI, rfl, nc_TK_102, ni_WI, nz_WI, nO_WI, fun j hj => by
  match j, hj with
  | 0, _ => rfl
  | 1, _ => rfl
  | 2, _ => rfl
  | 3, _ => rfl
  | 4, _ => rfl
  | 5, _ => rfl
  | j + 6, hj => exact absurd hj (by simp)⟩
theorem nB_LA_10 : hm_O "TurnedKeysLaw" 10 7 [.int 0, .null, .null, .null, .null, .null, .null, .null, .int 0, .int 0, .int 0, .null, .null, .null, .null, .int 0, .null, .null, .int 0, .null, .null, .null, .int 0] := ⟨_, _, nY_MO, nW_MO, rfl, nc_LA_10, ni_MO, nz_MO, nO_MO, fun j hj => by
  match j, hj with
  | 0, _ => rfl
  | 1, _ => rfl
  | 2, _ => rfl
  | 3, _ => rfl
  | 4, _ => rfl
  | 5, _ => rfl
  | 6, _ => rfl
  | 7, _ => rfl
  | 8, _ => rfl
  | 9, _ => rfl
  | 10, _ => rfl
  | 11, _ => rfl
  | 12, _ => rfl
  | 13, _ => rfl
  | 14, _ => rfl
  | 15, _ => rfl
  | 16, _ => rfl
  | 17, _ => rfl
  | 18, _ => rfl
  | 19, _ => rfl
  | 20, _ => rfl
  | 21, _ => rfl
  | 22, _ => rfl
  | j + 23, hj => exact absurd hj (by simp)⟩
set_option maxRecDepth 20000 in
theorem nm_TK_init : Cond.code ny_TK_init prog_1_method_1_code 9 none ∈ hm_tb := hm_tb_in (List.mem_of_getElem? (i := 55) (by rfl)) (by decide +kernel)
theorem nV_TK_init : hm_Y ny_TK_init prog_1_method_1_code 9 none 0 := ⟨nm_TK_init, nz_TK, ⟨by decide +kernel, by decide +kernel⟩, by decide +kernel⟩
set_option maxRecDepth 20000 in
theorem nj_TK_init : Cond.instanceMethod ny_TK_init ∈ hm_tb := hm_tb_in (List.mem_of_getElem? (i := 54) (by rfl)) (by decide +kernel)
set_option maxRecDepth 20000 in
theorem nm_TS_init : Cond.code ny_TS_init prog_5_method_1_code 1 none ∈ hm_tb := hm_tb_in (List.mem_of_getElem? (i := 63) (by rfl)) (by decide +kernel)
theorem nV_TS_init : hm_Y ny_TS_init prog_5_method_1_code 1 none 0 := ⟨nm_TS_init, nz_TS, ⟨by decide +kernel, by decide +kernel⟩, by decide +kernel⟩
set_option maxRecDepth 20000 in
theorem nj_TS_init : Cond.instanceMethod ny_TS_init ∈ hm_tb := hm_tb_in (List.mem_of_getElem? (i := 62) (by rfl)) (by decide +kernel)
set_option maxRecDepth 20000 in
theorem nm_AL_init : Cond.code ny_AL_init prog_16_method_2_code 1 none ∈ hm_tb := hm_tb_in (List.mem_of_getElem? (i := 69) (by rfl)) (by decide +kernel)
theorem nV_AL_init : hm_Y ny_AL_init prog_16_method_2_code 1 none 0 := ⟨nm_AL_init, nz_AL, ⟨by decide +kernel, by decide +kernel⟩, by decide +kernel⟩
set_option maxRecDepth 20000 in
theorem nj_AL_init : Cond.instanceMethod ny_AL_init ∈ hm_tb := hm_tb_in (List.mem_of_getElem? (i := 68) (by rfl)) (by decide +kernel)
set_option maxRecDepth 20000 in
theorem nm_AB_init : Cond.code ny_AB_init prog_15_method_1_code 1 none ∈ hm_tb := hm_tb_in (List.mem_of_getElem? (i := 72) (by rfl)) (by decide +kernel)
theorem nV_AB_init : hm_Y ny_AB_init prog_15_method_1_code 1 none 0 := ⟨nm_AB_init, nz_AB, ⟨by decide +kernel, by decide +kernel⟩, by decide +kernel⟩
set_option maxRecDepth 20000 in
theorem nj_AB_init : Cond.instanceMethod ny_AB_init ∈ hm_tb := hm_tb_in (List.mem_of_getElem? (i := 71) (by rfl)) (by decide +kernel)
set_option maxRecDepth 20000 in
theorem nm_AC_init : Cond.code ny_AC_init prog_14_method_1_code 1 none ∈ hm_tb := hm_tb_in (List.mem_of_getElem? (i := 75) (by rfl)) (by decide +kernel)
theorem nV_AC_init : hm_Y ny_AC_init prog_14_method_1_code 1 none 0 := ⟨nm_AC_init, nz_AC, ⟨by decide +kernel, by decide +kernel⟩, by decide +kernel⟩
set_option maxRecDepth 20000 in
theorem nj_AC_init : Cond.instanceMethod ny_AC_init ∈ hm_tb := hm_tb_in (List.mem_of_getElem? (i := 74) (by rfl)) (by decide +kernel)
set_option maxRecDepth 20000 in
theorem nm_TS_draw : Cond.code ny_TS_draw prog_5_method_2_code 1 (some (.object "TurnedKeys$Term")) ∈ hm_tb := hm_tb_in (List.mem_of_getElem? (i := 105) (by rfl)) (by decide +kernel)
theorem nV_TS_draw : hm_Y ny_TS_draw prog_5_method_2_code 1 (some (.object "TurnedKeys$Term")) 0 := ⟨nm_TS_draw, nz_TS, ⟨by decide +kernel, by decide +kernel⟩, by decide +kernel⟩
set_option maxRecDepth 20000 in
theorem nj_TS_draw : Cond.instanceMethod ny_TS_draw ∈ hm_tb := hm_tb_in (List.mem_of_getElem? (i := 103) (by rfl)) (by decide +kernel)
set_option maxRecDepth 20000 in
theorem nx_TS_draw : Cond.selects "TurnedKeys$Terms" ny_TS_draw ny_TS_draw ∈ hm_tb := hm_tb_in (List.mem_of_getElem? (i := 104) (by rfl)) (by decide +kernel)
set_option maxRecDepth 20000 in
theorem nm_TS_added : Cond.code ny_TS_added prog_5_method_6_code 6 (some (.object "TurnedKeys$Term")) ∈ hm_tb := hm_tb_in (List.mem_of_getElem? (i := 109) (by rfl)) (by decide +kernel)
theorem nV_TS_added : hm_Y ny_TS_added prog_5_method_6_code 6 (some (.object "TurnedKeys$Term")) 4 := ⟨nm_TS_added, nz_TS, ⟨by decide +kernel, by decide +kernel⟩, by decide +kernel⟩
set_option maxRecDepth 20000 in
theorem nj_TS_added : Cond.instanceMethod ny_TS_added ∈ hm_tb := hm_tb_in (List.mem_of_getElem? (i := 108) (by rfl)) (by decide +kernel)
set_option maxRecDepth 20000 in
theorem nm_AL_size : Cond.code ny_AL_size prog_16_method_8_code 1 (some .int) ∈ hm_tb := hm_tb_in (List.mem_of_getElem? (i := 115) (by rfl)) (by decide +kernel)
theorem nV_AL_size : hm_Y ny_AL_size prog_16_method_8_code 1 (some .int) 0 := ⟨nm_AL_size, nz_AL, ⟨by decide +kernel, by decide +kernel⟩, by decide +kernel⟩
set_option maxRecDepth 20000 in
theorem nj_AL_size : Cond.instanceMethod ny_AL_size ∈ hm_tb := hm_tb_in (List.mem_of_getElem? (i := 113) (by rfl)) (by decide +kernel)
set_option maxRecDepth 20000 in
theorem nx_AL_size : Cond.selects "java/util/ArrayList" ny_AL_size ny_AL_size ∈ hm_tb := hm_tb_in (List.mem_of_getElem? (i := 114) (by rfl)) (by decide +kernel)
set_option maxRecDepth 20000 in
theorem nm_TE_init : Cond.code ny_TE_init prog_4_method_1_code 6 none ∈ hm_tb := hm_tb_in (List.mem_of_getElem? (i := 118) (by rfl)) (by decide +kernel)
theorem nV_TE_init : hm_Y ny_TE_init prog_4_method_1_code 6 none 5 := ⟨nm_TE_init, nz_TE, ⟨by decide +kernel, by decide +kernel⟩, by decide +kernel⟩
set_option maxRecDepth 20000 in
theorem nj_TE_init : Cond.instanceMethod ny_TE_init ∈ hm_tb := hm_tb_in (List.mem_of_getElem? (i := 117) (by rfl)) (by decide +kernel)
set_option maxRecDepth 20000 in
theorem nm_AL_add : Cond.code ny_AL_add prog_16_method_25_code 2 (some .boolean) ∈ hm_tb := hm_tb_in (List.mem_of_getElem? (i := 153) (by rfl)) (by decide +kernel)
theorem nV_AL_add : hm_Y ny_AL_add prog_16_method_25_code 2 (some .boolean) 1 := ⟨nm_AL_add, nz_AL, ⟨by decide +kernel, by decide +kernel⟩, by decide +kernel⟩
set_option maxRecDepth 20000 in
theorem nj_AL_add : Cond.instanceMethod ny_AL_add ∈ hm_tb := hm_tb_in (List.mem_of_getElem? (i := 151) (by rfl)) (by decide +kernel)
set_option maxRecDepth 20000 in
theorem nx_AL_add : Cond.selects "java/util/ArrayList" ny_AL_add ny_AL_add ∈ hm_tb := hm_tb_in (List.mem_of_getElem? (i := 152) (by rfl)) (by decide +kernel)
set_option maxRecDepth 20000 in
theorem nm_AL_add2 : Cond.code ny_AL_add2 prog_16_method_24_code 4 none ∈ hm_tb := hm_tb_in (List.mem_of_getElem? (i := 157) (by rfl)) (by decide +kernel)
theorem nV_AL_add2 : hm_Y ny_AL_add2 prog_16_method_24_code 4 none 3 := ⟨nm_AL_add2, nz_AL, ⟨by decide +kernel, by decide +kernel⟩, by decide +kernel⟩
set_option maxRecDepth 20000 in
theorem nj_AL_add2 : Cond.instanceMethod ny_AL_add2 ∈ hm_tb := hm_tb_in (List.mem_of_getElem? (i := 156) (by rfl)) (by decide +kernel)
set_option maxRecDepth 20000 in
theorem nm_AL_grow : Cond.code ny_AL_grow prog_16_method_7_code 1 (some (.array (.object "java/lang/Object"))) ∈ hm_tb := hm_tb_in (List.mem_of_getElem? (i := 161) (by rfl)) (by decide +kernel)
theorem nV_AL_grow : hm_Y ny_AL_grow prog_16_method_7_code 1 (some (.array (.object "java/lang/Object"))) 0 := ⟨nm_AL_grow, nz_AL, ⟨by decide +kernel, by decide +kernel⟩, by decide +kernel⟩
set_option maxRecDepth 20000 in
theorem nj_AL_grow : Cond.instanceMethod ny_AL_grow ∈ hm_tb := hm_tb_in (List.mem_of_getElem? (i := 160) (by rfl)) (by decide +kernel)
set_option maxRecDepth 20000 in
theorem nm_AL_grow2 : Cond.code ny_AL_grow2 prog_16_method_6_code 4 (some (.array (.object "java/lang/Object"))) ∈ hm_tb := hm_tb_in (List.mem_of_getElem? (i := 165) (by rfl)) (by decide +kernel)
theorem nV_AL_grow2 : hm_Y ny_AL_grow2 prog_16_method_6_code 4 (some (.array (.object "java/lang/Object"))) 1 := ⟨nm_AL_grow2, nz_AL, ⟨by decide +kernel, by decide +kernel⟩, by decide +kernel⟩
set_option maxRecDepth 20000 in
theorem nj_AL_grow2 : Cond.instanceMethod ny_AL_grow2 ∈ hm_tb := hm_tb_in (List.mem_of_getElem? (i := 164) (by rfl)) (by decide +kernel)
set_option maxRecDepth 20000 in
theorem nm_AS_newLength : Cond.code ny_AS_newLength prog_23_method_27_code 4 (some .int) ∈ hm_tb := hm_tb_in (List.mem_of_getElem? (i := 168) (by rfl)) (by decide +kernel)
theorem nV_AS_newLength : hm_Y ny_AS_newLength prog_23_method_27_code 4 (some .int) 3 := ⟨nm_AS_newLength, nz_AS, ⟨by decide +kernel, by decide +kernel⟩, by decide +kernel⟩
set_option maxRecDepth 20000 in
theorem nu_AS_newLength : Cond.static ny_AS_newLength ∈ hm_tb := hm_tb_in (List.mem_of_getElem? (i := 167) (by rfl)) (by decide +kernel)
set_option maxRecDepth 20000 in
theorem nm_MA_max : Cond.code ny_MA_max prog_12_method_65_code 2 (some .int) ∈ hm_tb := hm_tb_in (List.mem_of_getElem? (i := 171) (by rfl)) (by decide +kernel)
theorem nV_MA_max : hm_Y ny_MA_max prog_12_method_65_code 2 (some .int) 2 := ⟨nm_MA_max, nz_MA, ⟨by decide +kernel, by decide +kernel⟩, by decide +kernel⟩
set_option maxRecDepth 20000 in
theorem nu_MA_max : Cond.static ny_MA_max ∈ hm_tb := hm_tb_in (List.mem_of_getElem? (i := 170) (by rfl)) (by decide +kernel)
set_option maxRecDepth 20000 in
theorem nm_AS_hugeLength : Cond.code ny_AS_hugeLength prog_23_method_28_code 3 (some .int) ∈ hm_tb := hm_tb_in (List.mem_of_getElem? (i := 175) (by rfl)) (by decide +kernel)
theorem nV_AS_hugeLength : hm_Y ny_AS_hugeLength prog_23_method_28_code 3 (some .int) 2 := ⟨nm_AS_hugeLength, nz_AS, ⟨by decide +kernel, by decide +kernel⟩, by decide +kernel⟩
set_option maxRecDepth 20000 in
theorem nu_AS_hugeLength : Cond.static ny_AS_hugeLength ∈ hm_tb := hm_tb_in (List.mem_of_getElem? (i := 174) (by rfl)) (by decide +kernel)
set_option maxRecDepth 20000 in
theorem nm_AR_copyOf : Cond.code ny_AR_copyOf prog_17_method_119_code 2 (some (.array (.object "java/lang/Object"))) ∈ hm_tb := hm_tb_in (List.mem_of_getElem? (i := 178) (by rfl)) (by decide +kernel)
theorem nV_AR_copyOf : hm_Y ny_AR_copyOf prog_17_method_119_code 2 (some (.array (.object "java/lang/Object"))) 2 := ⟨nm_AR_copyOf, nz_AR, ⟨by decide +kernel, by decide +kernel⟩, by decide +kernel⟩
set_option maxRecDepth 20000 in
theorem nu_AR_copyOf : Cond.static ny_AR_copyOf ∈ hm_tb := hm_tb_in (List.mem_of_getElem? (i := 177) (by rfl)) (by decide +kernel)
set_option maxRecDepth 20000 in
theorem nm_AR_copyOf2 : Cond.code ny_AR_copyOf2 prog_17_method_120_code 4 (some (.array (.object "java/lang/Object"))) ∈ hm_tb := hm_tb_in (List.mem_of_getElem? (i := 193) (by rfl)) (by decide +kernel)
theorem nV_AR_copyOf2 : hm_Y ny_AR_copyOf2 prog_17_method_120_code 4 (some (.array (.object "java/lang/Object"))) 3 := ⟨nm_AR_copyOf2, nz_AR, ⟨by decide +kernel, by decide +kernel⟩, by decide +kernel⟩
set_option maxRecDepth 20000 in
theorem nu_AR_copyOf2 : Cond.static ny_AR_copyOf2 ∈ hm_tb := hm_tb_in (List.mem_of_getElem? (i := 192) (by rfl)) (by decide +kernel)
set_option maxRecDepth 20000 in
theorem nm_MA_min : Cond.code ny_MA_min prog_12_method_69_code 2 (some .int) ∈ hm_tb := hm_tb_in (List.mem_of_getElem? (i := 199) (by rfl)) (by decide +kernel)
theorem nV_MA_min : hm_Y ny_MA_min prog_12_method_69_code 2 (some .int) 2 := ⟨nm_MA_min, nz_MA, ⟨by decide +kernel, by decide +kernel⟩, by decide +kernel⟩
set_option maxRecDepth 20000 in
theorem nu_MA_min : Cond.static ny_MA_min ∈ hm_tb := hm_tb_in (List.mem_of_getElem? (i := 198) (by rfl)) (by decide +kernel)
set_option maxRecDepth 20000 in
theorem nm_TS_publicOf : Cond.code ny_TS_publicOf prog_5_method_3_code 2 (some (.object "TurnedKeys$Term")) ∈ hm_tb := hm_tb_in (List.mem_of_getElem? (i := 208) (by rfl)) (by decide +kernel)
theorem nV_TS_publicOf : hm_Y ny_TS_publicOf prog_5_method_3_code 2 (some (.object "TurnedKeys$Term")) 1 := ⟨nm_TS_publicOf, nz_TS, ⟨by decide +kernel, by decide +kernel⟩, by decide +kernel⟩
set_option maxRecDepth 20000 in
theorem nj_TS_publicOf : Cond.instanceMethod ny_TS_publicOf ∈ hm_tb := hm_tb_in (List.mem_of_getElem? (i := 206) (by rfl)) (by decide +kernel)
set_option maxRecDepth 20000 in
theorem nx_TS_publicOf : Cond.selects "TurnedKeys$Terms" ny_TS_publicOf ny_TS_publicOf ∈ hm_tb := hm_tb_in (List.mem_of_getElem? (i := 207) (by rfl)) (by decide +kernel)
set_option maxRecDepth 20000 in
theorem nm_TS_sharedOf : Cond.code ny_TS_sharedOf prog_5_method_4_code 4 (some (.object "TurnedKeys$Term")) ∈ hm_tb := hm_tb_in (List.mem_of_getElem? (i := 212) (by rfl)) (by decide +kernel)
theorem nV_TS_sharedOf : hm_Y ny_TS_sharedOf prog_5_method_4_code 4 (some (.object "TurnedKeys$Term")) 2 := ⟨nm_TS_sharedOf, nz_TS, ⟨by decide +kernel, by decide +kernel⟩, by decide +kernel⟩
set_option maxRecDepth 20000 in
theorem nj_TS_sharedOf : Cond.instanceMethod ny_TS_sharedOf ∈ hm_tb := hm_tb_in (List.mem_of_getElem? (i := 210) (by rfl)) (by decide +kernel)
set_option maxRecDepth 20000 in
theorem nx_TS_sharedOf : Cond.selects "TurnedKeys$Terms" ny_TS_sharedOf ny_TS_sharedOf ∈ hm_tb := hm_tb_in (List.mem_of_getElem? (i := 211) (by rfl)) (by decide +kernel)
set_option maxRecDepth 20000 in
theorem nm_TS_made : Cond.code ny_TS_made prog_5_method_5_code 6 (some (.object "TurnedKeys$Term")) ∈ hm_tb := hm_tb_in (List.mem_of_getElem? (i := 217) (by rfl)) (by decide +kernel)
theorem nV_TS_made : hm_Y ny_TS_made prog_5_method_5_code 6 (some (.object "TurnedKeys$Term")) 3 := ⟨nm_TS_made, nz_TS, ⟨by decide +kernel, by decide +kernel⟩, by decide +kernel⟩
set_option maxRecDepth 20000 in
theorem nj_TS_made : Cond.instanceMethod ny_TS_made ∈ hm_tb := hm_tb_in (List.mem_of_getElem? (i := 215) (by rfl)) (by decide +kernel)
set_option maxRecDepth 20000 in
theorem nx_TS_made : Cond.selects "TurnedKeys$Terms" ny_TS_made ny_TS_made ∈ hm_tb := hm_tb_in (List.mem_of_getElem? (i := 216) (by rfl)) (by decide +kernel)
set_option maxRecDepth 20000 in
theorem nm_TS_younger : Cond.code ny_TS_younger prog_5_method_7_code 2 (some (.object "TurnedKeys$Term")) ∈ hm_tb := hm_tb_in (List.mem_of_getElem? (i := 220) (by rfl)) (by decide +kernel)
theorem nV_TS_younger : hm_Y ny_TS_younger prog_5_method_7_code 2 (some (.object "TurnedKeys$Term")) 2 := ⟨nm_TS_younger, nz_TS, ⟨by decide +kernel, by decide +kernel⟩, by decide +kernel⟩
set_option maxRecDepth 20000 in
theorem nu_TS_younger : Cond.static ny_TS_younger ∈ hm_tb := hm_tb_in (List.mem_of_getElem? (i := 219) (by rfl)) (by decide +kernel)
set_option maxRecDepth 20000 in
theorem nm_EN_init : Cond.code ny_EN_init prog_2_method_1_code 4 none ∈ hm_tb := hm_tb_in (List.mem_of_getElem? (i := 226) (by rfl)) (by decide +kernel)
theorem nV_EN_init : hm_Y ny_EN_init prog_2_method_1_code 4 none 3 := ⟨nm_EN_init, nz_EN, ⟨by decide +kernel, by decide +kernel⟩, by decide +kernel⟩
set_option maxRecDepth 20000 in
theorem nj_EN_init : Cond.instanceMethod ny_EN_init ∈ hm_tb := hm_tb_in (List.mem_of_getElem? (i := 225) (by rfl)) (by decide +kernel)
set_option maxRecDepth 20000 in
theorem nm_EN_copied : Cond.code ny_EN_copied prog_2_method_2_code 2 (some (.object "TurnedKeys$End")) ∈ hm_tb := hm_tb_in (List.mem_of_getElem? (i := 279) (by rfl)) (by decide +kernel)
theorem nV_EN_copied : hm_Y ny_EN_copied prog_2_method_2_code 2 (some (.object "TurnedKeys$End")) 0 := ⟨nm_EN_copied, nz_EN, ⟨by decide +kernel, by decide +kernel⟩, by decide +kernel⟩
set_option maxRecDepth 20000 in
theorem nj_EN_copied : Cond.instanceMethod ny_EN_copied ∈ hm_tb := hm_tb_in (List.mem_of_getElem? (i := 277) (by rfl)) (by decide +kernel)
set_option maxRecDepth 20000 in
theorem nx_EN_copied : Cond.selects "TurnedKeys$End" ny_EN_copied ny_EN_copied ∈ hm_tb := hm_tb_in (List.mem_of_getElem? (i := 278) (by rfl)) (by decide +kernel)
set_option maxRecDepth 20000 in
theorem nm_EN_become : Cond.code ny_EN_become prog_2_method_3_code 3 none ∈ hm_tb := hm_tb_in (List.mem_of_getElem? (i := 285) (by rfl)) (by decide +kernel)
theorem nV_EN_become : hm_Y ny_EN_become prog_2_method_3_code 3 none 1 := ⟨nm_EN_become, nz_EN, ⟨by decide +kernel, by decide +kernel⟩, by decide +kernel⟩
set_option maxRecDepth 20000 in
theorem nj_EN_become : Cond.instanceMethod ny_EN_become ∈ hm_tb := hm_tb_in (List.mem_of_getElem? (i := 283) (by rfl)) (by decide +kernel)
set_option maxRecDepth 20000 in
theorem nx_EN_become : Cond.selects "TurnedKeys$End" ny_EN_become ny_EN_become ∈ hm_tb := hm_tb_in (List.mem_of_getElem? (i := 284) (by rfl)) (by decide +kernel)
set_option maxRecDepth 20000 in
theorem nm_TK_send : Cond.code ny_TK_send prog_1_method_2_code 4 (some .int) ∈ hm_tb := hm_tb_in (List.mem_of_getElem? (i := 310) (by rfl)) (by decide +kernel)
theorem nV_TK_send : hm_Y ny_TK_send prog_1_method_2_code 4 (some .int) 1 := ⟨nm_TK_send, nz_TK, ⟨by decide +kernel, by decide +kernel⟩, by decide +kernel⟩
set_option maxRecDepth 20000 in
theorem nj_TK_send : Cond.instanceMethod ny_TK_send ∈ hm_tb := hm_tb_in (List.mem_of_getElem? (i := 308) (by rfl)) (by decide +kernel)
set_option maxRecDepth 20000 in
theorem nx_TK_send : Cond.selects "TurnedKeys" ny_TK_send ny_TK_send ∈ hm_tb := hm_tb_in (List.mem_of_getElem? (i := 309) (by rfl)) (by decide +kernel)
set_option maxRecDepth 20000 in
theorem nm_TK_endAt : Cond.code ny_TK_endAt prog_1_method_13_code 2 (some (.object "TurnedKeys$End")) ∈ hm_tb := hm_tb_in (List.mem_of_getElem? (i := 313) (by rfl)) (by decide +kernel)
theorem nV_TK_endAt : hm_Y ny_TK_endAt prog_1_method_13_code 2 (some (.object "TurnedKeys$End")) 2 := ⟨nm_TK_endAt, nz_TK, ⟨by decide +kernel, by decide +kernel⟩, by decide +kernel⟩
set_option maxRecDepth 20000 in
theorem nu_TK_endAt : Cond.static ny_TK_endAt ∈ hm_tb := hm_tb_in (List.mem_of_getElem? (i := 312) (by rfl)) (by decide +kernel)
set_option maxRecDepth 20000 in
theorem nm_TK_mayMakeMore : Cond.code ny_TK_mayMakeMore prog_1_method_16_code 1 (some .boolean) ∈ hm_tb := hm_tb_in (List.mem_of_getElem? (i := 317) (by rfl)) (by decide +kernel)
theorem nV_TK_mayMakeMore : hm_Y ny_TK_mayMakeMore prog_1_method_16_code 1 (some .boolean) 0 := ⟨nm_TK_mayMakeMore, nz_TK, ⟨by decide +kernel, by decide +kernel⟩, by decide +kernel⟩
set_option maxRecDepth 20000 in
theorem nj_TK_mayMakeMore : Cond.instanceMethod ny_TK_mayMakeMore ∈ hm_tb := hm_tb_in (List.mem_of_getElem? (i := 316) (by rfl)) (by decide +kernel)
set_option maxRecDepth 20000 in
theorem nm_EN_turnSending : Cond.code ny_EN_turnSending prog_2_method_4_code 3 none ∈ hm_tb := hm_tb_in (List.mem_of_getElem? (i := 321) (by rfl)) (by decide +kernel)
theorem nV_EN_turnSending : hm_Y ny_EN_turnSending prog_2_method_4_code 3 none 1 := ⟨nm_EN_turnSending, nz_EN, ⟨by decide +kernel, by decide +kernel⟩, by decide +kernel⟩
set_option maxRecDepth 20000 in
theorem nj_EN_turnSending : Cond.instanceMethod ny_EN_turnSending ∈ hm_tb := hm_tb_in (List.mem_of_getElem? (i := 319) (by rfl)) (by decide +kernel)
set_option maxRecDepth 20000 in
theorem nx_EN_turnSending : Cond.selects "TurnedKeys$End" ny_EN_turnSending ny_EN_turnSending ∈ hm_tb := hm_tb_in (List.mem_of_getElem? (i := 320) (by rfl)) (by decide +kernel)
set_option maxRecDepth 20000 in
theorem nm_EN_sealedWire : Cond.code ny_EN_sealedWire prog_2_method_5_code 6 (some (.object "TurnedKeys$Wire")) ∈ hm_tb := hm_tb_in (List.mem_of_getElem? (i := 328) (by rfl)) (by decide +kernel)
theorem nV_EN_sealedWire : hm_Y ny_EN_sealedWire prog_2_method_5_code 6 (some (.object "TurnedKeys$Wire")) 3 := ⟨nm_EN_sealedWire, nz_EN, ⟨by decide +kernel, by decide +kernel⟩, by decide +kernel⟩
set_option maxRecDepth 20000 in
theorem nj_EN_sealedWire : Cond.instanceMethod ny_EN_sealedWire ∈ hm_tb := hm_tb_in (List.mem_of_getElem? (i := 326) (by rfl)) (by decide +kernel)
set_option maxRecDepth 20000 in
theorem nx_EN_sealedWire : Cond.selects "TurnedKeys$End" ny_EN_sealedWire ny_EN_sealedWire ∈ hm_tb := hm_tb_in (List.mem_of_getElem? (i := 327) (by rfl)) (by decide +kernel)
set_option maxRecDepth 20000 in
theorem nm_WI_init : Cond.code ny_WI_init prog_6_method_1_code 7 none ∈ hm_tb := hm_tb_in (List.mem_of_getElem? (i := 334) (by rfl)) (by decide +kernel)
theorem nV_WI_init : hm_Y ny_WI_init prog_6_method_1_code 7 none 6 := ⟨nm_WI_init, nz_WI, ⟨by decide +kernel, by decide +kernel⟩, by decide +kernel⟩
set_option maxRecDepth 20000 in
theorem nj_WI_init : Cond.instanceMethod ny_WI_init ∈ hm_tb := hm_tb_in (List.mem_of_getElem? (i := 333) (by rfl)) (by decide +kernel)
set_option maxRecDepth 20000 in
theorem nm_TK_giveWire : Cond.code ny_TK_giveWire prog_1_method_17_code 3 none ∈ hm_tb := hm_tb_in (List.mem_of_getElem? (i := 366) (by rfl)) (by decide +kernel)
theorem nV_TK_giveWire : hm_Y ny_TK_giveWire prog_1_method_17_code 3 none 2 := ⟨nm_TK_giveWire, nz_TK, ⟨by decide +kernel, by decide +kernel⟩, by decide +kernel⟩
set_option maxRecDepth 20000 in
theorem nj_TK_giveWire : Cond.instanceMethod ny_TK_giveWire ∈ hm_tb := hm_tb_in (List.mem_of_getElem? (i := 365) (by rfl)) (by decide +kernel)
set_option maxRecDepth 20000 in
theorem nm_TS_give : Cond.code ny_TS_give prog_5_method_8_code 2 (some .int) ∈ hm_tb := hm_tb_in (List.mem_of_getElem? (i := 370) (by rfl)) (by decide +kernel)
theorem nV_TS_give : hm_Y ny_TS_give prog_5_method_8_code 2 (some .int) 1 := ⟨nm_TS_give, nz_TS, ⟨by decide +kernel, by decide +kernel⟩, by decide +kernel⟩
set_option maxRecDepth 20000 in
theorem nj_TS_give : Cond.instanceMethod ny_TS_give ∈ hm_tb := hm_tb_in (List.mem_of_getElem? (i := 368) (by rfl)) (by decide +kernel)
set_option maxRecDepth 20000 in
theorem nx_TS_give : Cond.selects "TurnedKeys$Terms" ny_TS_give ny_TS_give ∈ hm_tb := hm_tb_in (List.mem_of_getElem? (i := 369) (by rfl)) (by decide +kernel)
set_option maxRecDepth 20000 in
theorem nm_TK_take : Cond.code ny_TK_take prog_1_method_3_code 6 (some .int) ∈ hm_tb := hm_tb_in (List.mem_of_getElem? (i := 376) (by rfl)) (by decide +kernel)
theorem nV_TK_take : hm_Y ny_TK_take prog_1_method_3_code 6 (some .int) 2 := ⟨nm_TK_take, nz_TK, ⟨by decide +kernel, by decide +kernel⟩, by decide +kernel⟩
set_option maxRecDepth 20000 in
theorem nj_TK_take : Cond.instanceMethod ny_TK_take ∈ hm_tb := hm_tb_in (List.mem_of_getElem? (i := 374) (by rfl)) (by decide +kernel)
set_option maxRecDepth 20000 in
theorem nx_TK_take : Cond.selects "TurnedKeys" ny_TK_take ny_TK_take ∈ hm_tb := hm_tb_in (List.mem_of_getElem? (i := 375) (by rfl)) (by decide +kernel)
set_option maxRecDepth 20000 in
theorem nm_TK_wireAt : Cond.code ny_TK_wireAt prog_1_method_14_code 2 (some (.object "TurnedKeys$Wire")) ∈ hm_tb := hm_tb_in (List.mem_of_getElem? (i := 380) (by rfl)) (by decide +kernel)
theorem nV_TK_wireAt : hm_Y ny_TK_wireAt prog_1_method_14_code 2 (some (.object "TurnedKeys$Wire")) 1 := ⟨nm_TK_wireAt, nz_TK, ⟨by decide +kernel, by decide +kernel⟩, by decide +kernel⟩
set_option maxRecDepth 20000 in
theorem nj_TK_wireAt : Cond.instanceMethod ny_TK_wireAt ∈ hm_tb := hm_tb_in (List.mem_of_getElem? (i := 379) (by rfl)) (by decide +kernel)
set_option maxRecDepth 20000 in
theorem nm_AL_get : Cond.code ny_AL_get prog_16_method_20_code 2 (some (.object "java/lang/Object")) ∈ hm_tb := hm_tb_in (List.mem_of_getElem? (i := 384) (by rfl)) (by decide +kernel)
theorem nV_AL_get : hm_Y ny_AL_get prog_16_method_20_code 2 (some (.object "java/lang/Object")) 1 := ⟨nm_AL_get, nz_AL, ⟨by decide +kernel, by decide +kernel⟩, by decide +kernel⟩
set_option maxRecDepth 20000 in
theorem nj_AL_get : Cond.instanceMethod ny_AL_get ∈ hm_tb := hm_tb_in (List.mem_of_getElem? (i := 382) (by rfl)) (by decide +kernel)
set_option maxRecDepth 20000 in
theorem nx_AL_get : Cond.selects "java/util/ArrayList" ny_AL_get ny_AL_get ∈ hm_tb := hm_tb_in (List.mem_of_getElem? (i := 383) (by rfl)) (by decide +kernel)
set_option maxRecDepth 20000 in
theorem nm_OB_checkIndex : Cond.code ny_OB_checkIndex prog_20_method_17_code 2 (some .int) ∈ hm_tb := hm_tb_in (List.mem_of_getElem? (i := 387) (by rfl)) (by decide +kernel)
theorem nV_OB_checkIndex : hm_Y ny_OB_checkIndex prog_20_method_17_code 2 (some .int) 2 := ⟨nm_OB_checkIndex, nz_OB, ⟨by decide +kernel, by decide +kernel⟩, by decide +kernel⟩
set_option maxRecDepth 20000 in
theorem nu_OB_checkIndex : Cond.static ny_OB_checkIndex ∈ hm_tb := hm_tb_in (List.mem_of_getElem? (i := 386) (by rfl)) (by decide +kernel)
set_option maxRecDepth 20000 in
theorem nm_PR_checkIndex : Cond.code ny_PR_checkIndex prog_24_method_11_code 3 (some .int) ∈ hm_tb := hm_tb_in (List.mem_of_getElem? (i := 390) (by rfl)) (by decide +kernel)
theorem nV_PR_checkIndex : hm_Y ny_PR_checkIndex prog_24_method_11_code 3 (some .int) 3 := ⟨nm_PR_checkIndex, nz_PR, ⟨by decide +kernel, by decide +kernel⟩, by decide +kernel⟩
set_option maxRecDepth 20000 in
theorem nu_PR_checkIndex : Cond.static ny_PR_checkIndex ∈ hm_tb := hm_tb_in (List.mem_of_getElem? (i := 389) (by rfl)) (by decide +kernel)
set_option maxRecDepth 20000 in
theorem nm_AL_elementData : Cond.code ny_AL_elementData prog_16_method_18_code 2 (some (.object "java/lang/Object")) ∈ hm_tb := hm_tb_in (List.mem_of_getElem? (i := 394) (by rfl)) (by decide +kernel)
theorem nV_AL_elementData : hm_Y ny_AL_elementData prog_16_method_18_code 2 (some (.object "java/lang/Object")) 1 := ⟨nm_AL_elementData, nz_AL, ⟨by decide +kernel, by decide +kernel⟩, by decide +kernel⟩
set_option maxRecDepth 20000 in
theorem nj_AL_elementData : Cond.instanceMethod ny_AL_elementData ∈ hm_tb := hm_tb_in (List.mem_of_getElem? (i := 392) (by rfl)) (by decide +kernel)
set_option maxRecDepth 20000 in
theorem nx_AL_elementData : Cond.selects "java/util/ArrayList" ny_AL_elementData ny_AL_elementData ∈ hm_tb := hm_tb_in (List.mem_of_getElem? (i := 393) (by rfl)) (by decide +kernel)
set_option maxRecDepth 20000 in
theorem nm_EN_keyFor : Cond.code ny_EN_keyFor prog_2_method_6_code 4 (some (.object "TurnedKeys$Term")) ∈ hm_tb := hm_tb_in (List.mem_of_getElem? (i := 400) (by rfl)) (by decide +kernel)
theorem nV_EN_keyFor : hm_Y ny_EN_keyFor prog_2_method_6_code 4 (some (.object "TurnedKeys$Term")) 2 := ⟨nm_EN_keyFor, nz_EN, ⟨by decide +kernel, by decide +kernel⟩, by decide +kernel⟩
set_option maxRecDepth 20000 in
theorem nj_EN_keyFor : Cond.instanceMethod ny_EN_keyFor ∈ hm_tb := hm_tb_in (List.mem_of_getElem? (i := 398) (by rfl)) (by decide +kernel)
set_option maxRecDepth 20000 in
theorem nx_EN_keyFor : Cond.selects "TurnedKeys$End" ny_EN_keyFor ny_EN_keyFor ∈ hm_tb := hm_tb_in (List.mem_of_getElem? (i := 399) (by rfl)) (by decide +kernel)
set_option maxRecDepth 20000 in
theorem nm_EN_pulledLeftKey : Cond.code ny_EN_pulledLeftKey prog_2_method_11_code 5 (some (.object "TurnedKeys$Term")) ∈ hm_tb := hm_tb_in (List.mem_of_getElem? (i := 404) (by rfl)) (by decide +kernel)
theorem nV_EN_pulledLeftKey : hm_Y ny_EN_pulledLeftKey prog_2_method_11_code 5 (some (.object "TurnedKeys$Term")) 2 := ⟨nm_EN_pulledLeftKey, nz_EN, ⟨by decide +kernel, by decide +kernel⟩, by decide +kernel⟩
set_option maxRecDepth 20000 in
theorem nj_EN_pulledLeftKey : Cond.instanceMethod ny_EN_pulledLeftKey ∈ hm_tb := hm_tb_in (List.mem_of_getElem? (i := 403) (by rfl)) (by decide +kernel)
set_option maxRecDepth 20000 in
theorem nm_EN_dropLeftKey : Cond.code ny_EN_dropLeftKey prog_2_method_12_code 3 none ∈ hm_tb := hm_tb_in (List.mem_of_getElem? (i := 408) (by rfl)) (by decide +kernel)
theorem nV_EN_dropLeftKey : hm_Y ny_EN_dropLeftKey prog_2_method_12_code 3 none 1 := ⟨nm_EN_dropLeftKey, nz_EN, ⟨by decide +kernel, by decide +kernel⟩, by decide +kernel⟩
set_option maxRecDepth 20000 in
theorem nj_EN_dropLeftKey : Cond.instanceMethod ny_EN_dropLeftKey ∈ hm_tb := hm_tb_in (List.mem_of_getElem? (i := 407) (by rfl)) (by decide +kernel)
set_option maxRecDepth 20000 in
theorem nm_EN_skipsTo : Cond.code ny_EN_skipsTo prog_2_method_8_code 4 (some .boolean) ∈ hm_tb := hm_tb_in (List.mem_of_getElem? (i := 412) (by rfl)) (by decide +kernel)
theorem nV_EN_skipsTo : hm_Y ny_EN_skipsTo prog_2_method_8_code 4 (some .boolean) 2 := ⟨nm_EN_skipsTo, nz_EN, ⟨by decide +kernel, by decide +kernel⟩, by decide +kernel⟩
set_option maxRecDepth 20000 in
theorem nj_EN_skipsTo : Cond.instanceMethod ny_EN_skipsTo ∈ hm_tb := hm_tb_in (List.mem_of_getElem? (i := 411) (by rfl)) (by decide +kernel)
set_option maxRecDepth 20000 in
theorem nm_EN_steppedKey : Cond.code ny_EN_steppedKey prog_2_method_9_code 3 (some (.object "TurnedKeys$Term")) ∈ hm_tb := hm_tb_in (List.mem_of_getElem? (i := 417) (by rfl)) (by decide +kernel)
theorem nV_EN_steppedKey : hm_Y ny_EN_steppedKey prog_2_method_9_code 3 (some (.object "TurnedKeys$Term")) 1 := ⟨nm_EN_steppedKey, nz_EN, ⟨by decide +kernel, by decide +kernel⟩, by decide +kernel⟩
set_option maxRecDepth 20000 in
theorem nj_EN_steppedKey : Cond.instanceMethod ny_EN_steppedKey ∈ hm_tb := hm_tb_in (List.mem_of_getElem? (i := 416) (by rfl)) (by decide +kernel)
set_option maxRecDepth 20000 in
theorem nm_LK_init : Cond.code ny_LK_init prog_3_method_1_code 4 none ∈ hm_tb := hm_tb_in (List.mem_of_getElem? (i := 420) (by rfl)) (by decide +kernel)
theorem nV_LK_init : hm_Y ny_LK_init prog_3_method_1_code 4 none 3 := ⟨nm_LK_init, nz_LK, ⟨by decide +kernel, by decide +kernel⟩, by decide +kernel⟩
set_option maxRecDepth 20000 in
theorem nj_LK_init : Cond.instanceMethod ny_LK_init ∈ hm_tb := hm_tb_in (List.mem_of_getElem? (i := 419) (by rfl)) (by decide +kernel)
set_option maxRecDepth 20000 in
theorem nm_EN_leave : Cond.code ny_EN_leave prog_2_method_10_code 2 none ∈ hm_tb := hm_tb_in (List.mem_of_getElem? (i := 440) (by rfl)) (by decide +kernel)
theorem nV_EN_leave : hm_Y ny_EN_leave prog_2_method_10_code 2 none 1 := ⟨nm_EN_leave, nz_EN, ⟨by decide +kernel, by decide +kernel⟩, by decide +kernel⟩
set_option maxRecDepth 20000 in
theorem nj_EN_leave : Cond.instanceMethod ny_EN_leave ∈ hm_tb := hm_tb_in (List.mem_of_getElem? (i := 439) (by rfl)) (by decide +kernel)
set_option maxRecDepth 20000 in
theorem nm_EN_turnReceiving : Cond.code ny_EN_turnReceiving prog_2_method_7_code 4 none ∈ hm_tb := hm_tb_in (List.mem_of_getElem? (i := 444) (by rfl)) (by decide +kernel)
theorem nV_EN_turnReceiving : hm_Y ny_EN_turnReceiving prog_2_method_7_code 4 none 2 := ⟨nm_EN_turnReceiving, nz_EN, ⟨by decide +kernel, by decide +kernel⟩, by decide +kernel⟩
set_option maxRecDepth 20000 in
theorem nj_EN_turnReceiving : Cond.instanceMethod ny_EN_turnReceiving ∈ hm_tb := hm_tb_in (List.mem_of_getElem? (i := 443) (by rfl)) (by decide +kernel)
set_option maxRecDepth 20000 in
theorem nm_TK_look : Cond.code ny_TK_look prog_1_method_4_code 6 (some .int) ∈ hm_tb := hm_tb_in (List.mem_of_getElem? (i := 448) (by rfl)) (by decide +kernel)
theorem nV_TK_look : hm_Y ny_TK_look prog_1_method_4_code 6 (some .int) 1 := ⟨nm_TK_look, nz_TK, ⟨by decide +kernel, by decide +kernel⟩, by decide +kernel⟩
set_option maxRecDepth 20000 in
theorem nj_TK_look : Cond.instanceMethod ny_TK_look ∈ hm_tb := hm_tb_in (List.mem_of_getElem? (i := 446) (by rfl)) (by decide +kernel)
set_option maxRecDepth 20000 in
theorem nx_TK_look : Cond.selects "TurnedKeys" ny_TK_look ny_TK_look ∈ hm_tb := hm_tb_in (List.mem_of_getElem? (i := 447) (by rfl)) (by decide +kernel)
set_option maxRecDepth 20000 in
theorem nm_TK_derived : Cond.code ny_TK_derived prog_1_method_5_code 3 (some .int) ∈ hm_tb := hm_tb_in (List.mem_of_getElem? (i := 452) (by rfl)) (by decide +kernel)
theorem nV_TK_derived : hm_Y ny_TK_derived prog_1_method_5_code 3 (some .int) 1 := ⟨nm_TK_derived, nz_TK, ⟨by decide +kernel, by decide +kernel⟩, by decide +kernel⟩
set_option maxRecDepth 20000 in
theorem nj_TK_derived : Cond.instanceMethod ny_TK_derived ∈ hm_tb := hm_tb_in (List.mem_of_getElem? (i := 450) (by rfl)) (by decide +kernel)
set_option maxRecDepth 20000 in
theorem nx_TK_derived : Cond.selects "TurnedKeys" ny_TK_derived ny_TK_derived ∈ hm_tb := hm_tb_in (List.mem_of_getElem? (i := 451) (by rfl)) (by decide +kernel)
set_option maxRecDepth 20000 in
theorem nm_TS_hasDerived : Cond.code ny_TS_hasDerived prog_5_method_9_code 2 (some .boolean) ∈ hm_tb := hm_tb_in (List.mem_of_getElem? (i := 456) (by rfl)) (by decide +kernel)
theorem nV_TS_hasDerived : hm_Y ny_TS_hasDerived prog_5_method_9_code 2 (some .boolean) 1 := ⟨nm_TS_hasDerived, nz_TS, ⟨by decide +kernel, by decide +kernel⟩, by decide +kernel⟩
set_option maxRecDepth 20000 in
theorem nj_TS_hasDerived : Cond.instanceMethod ny_TS_hasDerived ∈ hm_tb := hm_tb_in (List.mem_of_getElem? (i := 454) (by rfl)) (by decide +kernel)
set_option maxRecDepth 20000 in
theorem nx_TS_hasDerived : Cond.selects "TurnedKeys$Terms" ny_TS_hasDerived ny_TS_hasDerived ∈ hm_tb := hm_tb_in (List.mem_of_getElem? (i := 455) (by rfl)) (by decide +kernel)
set_option maxRecDepth 20000 in
theorem nm_TS_settle : Cond.code ny_TS_settle prog_5_method_10_code 3 none ∈ hm_tb := hm_tb_in (List.mem_of_getElem? (i := 460) (by rfl)) (by decide +kernel)
theorem nV_TS_settle : hm_Y ny_TS_settle prog_5_method_10_code 3 none 0 := ⟨nm_TS_settle, nz_TS, ⟨by decide +kernel, by decide +kernel⟩, by decide +kernel⟩
set_option maxRecDepth 20000 in
theorem nj_TS_settle : Cond.instanceMethod ny_TS_settle ∈ hm_tb := hm_tb_in (List.mem_of_getElem? (i := 459) (by rfl)) (by decide +kernel)
set_option maxRecDepth 20000 in
theorem nm_TS_canBeMade : Cond.code ny_TS_canBeMade prog_5_method_11_code 1 (some .boolean) ∈ hm_tb := hm_tb_in (List.mem_of_getElem? (i := 465) (by rfl)) (by decide +kernel)
theorem nV_TS_canBeMade : hm_Y ny_TS_canBeMade prog_5_method_11_code 1 (some .boolean) 1 := ⟨nm_TS_canBeMade, nz_TS, ⟨by decide +kernel, by decide +kernel⟩, by decide +kernel⟩
set_option maxRecDepth 20000 in
theorem nu_TS_canBeMade : Cond.static ny_TS_canBeMade ∈ hm_tb := hm_tb_in (List.mem_of_getElem? (i := 464) (by rfl)) (by decide +kernel)
set_option maxRecDepth 20000 in
theorem nm_TS_sharedByOne : Cond.code ny_TS_sharedByOne prog_5_method_12_code 2 (some .boolean) ∈ hm_tb := hm_tb_in (List.mem_of_getElem? (i := 468) (by rfl)) (by decide +kernel)
theorem nV_TS_sharedByOne : hm_Y ny_TS_sharedByOne prog_5_method_12_code 2 (some .boolean) 2 := ⟨nm_TS_sharedByOne, nz_TS, ⟨by decide +kernel, by decide +kernel⟩, by decide +kernel⟩
set_option maxRecDepth 20000 in
theorem nu_TS_sharedByOne : Cond.static ny_TS_sharedByOne ∈ hm_tb := hm_tb_in (List.mem_of_getElem? (i := 467) (by rfl)) (by decide +kernel)
set_option maxRecDepth 20000 in
theorem nm_TS_isDerived : Cond.code ny_TS_isDerived prog_5_method_13_code 1 (some .boolean) ∈ hm_tb := hm_tb_in (List.mem_of_getElem? (i := 471) (by rfl)) (by decide +kernel)
theorem nV_TS_isDerived : hm_Y ny_TS_isDerived prog_5_method_13_code 1 (some .boolean) 1 := ⟨nm_TS_isDerived, nz_TS, ⟨by decide +kernel, by decide +kernel⟩, by decide +kernel⟩
set_option maxRecDepth 20000 in
theorem nu_TS_isDerived : Cond.static ny_TS_isDerived ∈ hm_tb := hm_tb_in (List.mem_of_getElem? (i := 470) (by rfl)) (by decide +kernel)
set_option maxRecDepth 20000 in
theorem nm_TK_oneIf : Cond.code ny_TK_oneIf prog_1_method_12_code 1 (some .int) ∈ hm_tb := hm_tb_in (List.mem_of_getElem? (i := 475) (by rfl)) (by decide +kernel)
theorem nV_TK_oneIf : hm_Y ny_TK_oneIf prog_1_method_12_code 1 (some .int) 1 := ⟨nm_TK_oneIf, nz_TK, ⟨by decide +kernel, by decide +kernel⟩, by decide +kernel⟩
set_option maxRecDepth 20000 in
theorem nu_TK_oneIf : Cond.static ny_TK_oneIf ∈ hm_tb := hm_tb_in (List.mem_of_getElem? (i := 474) (by rfl)) (by decide +kernel)
set_option maxRecDepth 20000 in
theorem nm_TK_opens : Cond.code ny_TK_opens prog_1_method_6_code 3 (some .int) ∈ hm_tb := hm_tb_in (List.mem_of_getElem? (i := 479) (by rfl)) (by decide +kernel)
theorem nV_TK_opens : hm_Y ny_TK_opens prog_1_method_6_code 3 (some .int) 1 := ⟨nm_TK_opens, nz_TK, ⟨by decide +kernel, by decide +kernel⟩, by decide +kernel⟩
set_option maxRecDepth 20000 in
theorem nj_TK_opens : Cond.instanceMethod ny_TK_opens ∈ hm_tb := hm_tb_in (List.mem_of_getElem? (i := 477) (by rfl)) (by decide +kernel)
set_option maxRecDepth 20000 in
theorem nx_TK_opens : Cond.selects "TurnedKeys" ny_TK_opens ny_TK_opens ∈ hm_tb := hm_tb_in (List.mem_of_getElem? (i := 478) (by rfl)) (by decide +kernel)
set_option maxRecDepth 20000 in
theorem nm_TK_back : Cond.code ny_TK_back prog_1_method_7_code 2 (some .int) ∈ hm_tb := hm_tb_in (List.mem_of_getElem? (i := 483) (by rfl)) (by decide +kernel)
theorem nV_TK_back : hm_Y ny_TK_back prog_1_method_7_code 2 (some .int) 1 := ⟨nm_TK_back, nz_TK, ⟨by decide +kernel, by decide +kernel⟩, by decide +kernel⟩
set_option maxRecDepth 20000 in
theorem nj_TK_back : Cond.instanceMethod ny_TK_back ∈ hm_tb := hm_tb_in (List.mem_of_getElem? (i := 481) (by rfl)) (by decide +kernel)
set_option maxRecDepth 20000 in
theorem nx_TK_back : Cond.selects "TurnedKeys" ny_TK_back ny_TK_back ∈ hm_tb := hm_tb_in (List.mem_of_getElem? (i := 482) (by rfl)) (by decide +kernel)
set_option maxRecDepth 20000 in
theorem nm_TK_replace : Cond.code ny_TK_replace prog_1_method_15_code 2 (some .int) ∈ hm_tb := hm_tb_in (List.mem_of_getElem? (i := 486) (by rfl)) (by decide +kernel)
theorem nV_TK_replace : hm_Y ny_TK_replace prog_1_method_15_code 2 (some .int) 2 := ⟨nm_TK_replace, nz_TK, ⟨by decide +kernel, by decide +kernel⟩, by decide +kernel⟩
set_option maxRecDepth 20000 in
theorem nu_TK_replace : Cond.static ny_TK_replace ∈ hm_tb := hm_tb_in (List.mem_of_getElem? (i := 485) (by rfl)) (by decide +kernel)
set_option maxRecDepth 20000 in
theorem nm_TK_keep : Cond.code ny_TK_keep prog_1_method_8_code 2 (some .int) ∈ hm_tb := hm_tb_in (List.mem_of_getElem? (i := 490) (by rfl)) (by decide +kernel)
theorem nV_TK_keep : hm_Y ny_TK_keep prog_1_method_8_code 2 (some .int) 1 := ⟨nm_TK_keep, nz_TK, ⟨by decide +kernel, by decide +kernel⟩, by decide +kernel⟩
set_option maxRecDepth 20000 in
theorem nj_TK_keep : Cond.instanceMethod ny_TK_keep ∈ hm_tb := hm_tb_in (List.mem_of_getElem? (i := 488) (by rfl)) (by decide +kernel)
set_option maxRecDepth 20000 in
theorem nx_TK_keep : Cond.selects "TurnedKeys" ny_TK_keep ny_TK_keep ∈ hm_tb := hm_tb_in (List.mem_of_getElem? (i := 489) (by rfl)) (by decide +kernel)
set_option maxRecDepth 20000 in
theorem nm_TK_end : Cond.code ny_TK_end prog_1_method_9_code 4 (some .int) ∈ hm_tb := hm_tb_in (List.mem_of_getElem? (i := 494) (by rfl)) (by decide +kernel)
theorem nV_TK_end : hm_Y ny_TK_end prog_1_method_9_code 4 (some .int) 2 := ⟨nm_TK_end, nz_TK, ⟨by decide +kernel, by decide +kernel⟩, by decide +kernel⟩
set_option maxRecDepth 20000 in
theorem nj_TK_end : Cond.instanceMethod ny_TK_end ∈ hm_tb := hm_tb_in (List.mem_of_getElem? (i := 492) (by rfl)) (by decide +kernel)
set_option maxRecDepth 20000 in
theorem nx_TK_end : Cond.selects "TurnedKeys" ny_TK_end ny_TK_end ∈ hm_tb := hm_tb_in (List.mem_of_getElem? (i := 493) (by rfl)) (by decide +kernel)
set_option maxRecDepth 20000 in
theorem nm_TK_agree : Cond.code ny_TK_agree prog_1_method_10_code 1 (some .int) ∈ hm_tb := hm_tb_in (List.mem_of_getElem? (i := 498) (by rfl)) (by decide +kernel)
theorem nV_TK_agree : hm_Y ny_TK_agree prog_1_method_10_code 1 (some .int) 0 := ⟨nm_TK_agree, nz_TK, ⟨by decide +kernel, by decide +kernel⟩, by decide +kernel⟩
set_option maxRecDepth 20000 in
theorem nj_TK_agree : Cond.instanceMethod ny_TK_agree ∈ hm_tb := hm_tb_in (List.mem_of_getElem? (i := 496) (by rfl)) (by decide +kernel)
set_option maxRecDepth 20000 in
theorem nx_TK_agree : Cond.selects "TurnedKeys" ny_TK_agree ny_TK_agree ∈ hm_tb := hm_tb_in (List.mem_of_getElem? (i := 497) (by rfl)) (by decide +kernel)
set_option maxRecDepth 20000 in
theorem nm_TK_count : Cond.code ny_TK_count prog_1_method_11_code 2 (some .int) ∈ hm_tb := hm_tb_in (List.mem_of_getElem? (i := 502) (by rfl)) (by decide +kernel)
theorem nV_TK_count : hm_Y ny_TK_count prog_1_method_11_code 2 (some .int) 1 := ⟨nm_TK_count, nz_TK, ⟨by decide +kernel, by decide +kernel⟩, by decide +kernel⟩
set_option maxRecDepth 20000 in
theorem nj_TK_count : Cond.instanceMethod ny_TK_count ∈ hm_tb := hm_tb_in (List.mem_of_getElem? (i := 500) (by rfl)) (by decide +kernel)
set_option maxRecDepth 20000 in
theorem nx_TK_count : Cond.selects "TurnedKeys" ny_TK_count ny_TK_count ∈ hm_tb := hm_tb_in (List.mem_of_getElem? (i := 501) (by rfl)) (by decide +kernel)
set_option maxRecDepth 20000 in
theorem nm_MO_init : Cond.code ny_MO_init prog_8_method_1_code 7 none ∈ hm_tb := hm_tb_in (List.mem_of_getElem? (i := 507) (by rfl)) (by decide +kernel)
theorem nV_MO_init : hm_Y ny_MO_init prog_8_method_1_code 7 none 0 := ⟨nm_MO_init, nz_MO, ⟨by decide +kernel, by decide +kernel⟩, by decide +kernel⟩
set_option maxRecDepth 20000 in
theorem nj_MO_init : Cond.instanceMethod ny_MO_init ∈ hm_tb := hm_tb_in (List.mem_of_getElem? (i := 506) (by rfl)) (by decide +kernel)
set_option maxRecDepth 20000 in
theorem nm_MO_draw : Cond.code ny_MO_draw prog_8_method_3_code 1 (some .int) ∈ hm_tb := hm_tb_in (List.mem_of_getElem? (i := 513) (by rfl)) (by decide +kernel)
theorem nV_MO_draw : hm_Y ny_MO_draw prog_8_method_3_code 1 (some .int) 0 := ⟨nm_MO_draw, nz_MO, ⟨by decide +kernel, by decide +kernel⟩, by decide +kernel⟩
set_option maxRecDepth 20000 in
theorem nj_MO_draw : Cond.instanceMethod ny_MO_draw ∈ hm_tb := hm_tb_in (List.mem_of_getElem? (i := 512) (by rfl)) (by decide +kernel)
set_option maxRecDepth 20000 in
theorem nm_MO_term : Cond.code ny_MO_term prog_8_method_2_code 8 (some .int) ∈ hm_tb := hm_tb_in (List.mem_of_getElem? (i := 517) (by rfl)) (by decide +kernel)
theorem nV_MO_term : hm_Y ny_MO_term prog_8_method_2_code 8 (some .int) 4 := ⟨nm_MO_term, nz_MO, ⟨by decide +kernel, by decide +kernel⟩, by decide +kernel⟩
set_option maxRecDepth 20000 in
theorem nj_MO_term : Cond.instanceMethod ny_MO_term ∈ hm_tb := hm_tb_in (List.mem_of_getElem? (i := 516) (by rfl)) (by decide +kernel)
set_option maxRecDepth 20000 in
theorem nm_MO_publicOf : Cond.code ny_MO_publicOf prog_8_method_4_code 2 (some .int) ∈ hm_tb := hm_tb_in (List.mem_of_getElem? (i := 525) (by rfl)) (by decide +kernel)
theorem nV_MO_publicOf : hm_Y ny_MO_publicOf prog_8_method_4_code 2 (some .int) 1 := ⟨nm_MO_publicOf, nz_MO, ⟨by decide +kernel, by decide +kernel⟩, by decide +kernel⟩
set_option maxRecDepth 20000 in
theorem nj_MO_publicOf : Cond.instanceMethod ny_MO_publicOf ∈ hm_tb := hm_tb_in (List.mem_of_getElem? (i := 524) (by rfl)) (by decide +kernel)
set_option maxRecDepth 20000 in
theorem nm_MO_shared : Cond.code ny_MO_shared prog_8_method_5_code 3 (some .int) ∈ hm_tb := hm_tb_in (List.mem_of_getElem? (i := 529) (by rfl)) (by decide +kernel)
theorem nV_MO_shared : hm_Y ny_MO_shared prog_8_method_5_code 3 (some .int) 2 := ⟨nm_MO_shared, nz_MO, ⟨by decide +kernel, by decide +kernel⟩, by decide +kernel⟩
set_option maxRecDepth 20000 in
theorem nj_MO_shared : Cond.instanceMethod ny_MO_shared ∈ hm_tb := hm_tb_in (List.mem_of_getElem? (i := 528) (by rfl)) (by decide +kernel)
set_option maxRecDepth 20000 in
theorem nm_MO_mix : Cond.code ny_MO_mix prog_8_method_6_code 4 (some .int) ∈ hm_tb := hm_tb_in (List.mem_of_getElem? (i := 533) (by rfl)) (by decide +kernel)
theorem nV_MO_mix : hm_Y ny_MO_mix prog_8_method_6_code 4 (some .int) 3 := ⟨nm_MO_mix, nz_MO, ⟨by decide +kernel, by decide +kernel⟩, by decide +kernel⟩
set_option maxRecDepth 20000 in
theorem nj_MO_mix : Cond.instanceMethod ny_MO_mix ∈ hm_tb := hm_tb_in (List.mem_of_getElem? (i := 532) (by rfl)) (by decide +kernel)
set_option maxRecDepth 20000 in
theorem nm_MO_send : Cond.code ny_MO_send prog_8_method_17_code 4 (some .int) ∈ hm_tb := hm_tb_in (List.mem_of_getElem? (i := 610) (by rfl)) (by decide +kernel)
theorem nV_MO_send : hm_Y ny_MO_send prog_8_method_17_code 4 (some .int) 1 := ⟨nm_MO_send, nz_MO, ⟨by decide +kernel, by decide +kernel⟩, by decide +kernel⟩
set_option maxRecDepth 20000 in
theorem nj_MO_send : Cond.instanceMethod ny_MO_send ∈ hm_tb := hm_tb_in (List.mem_of_getElem? (i := 608) (by rfl)) (by decide +kernel)
set_option maxRecDepth 20000 in
theorem nx_MO_send : Cond.selects "TurnedKeysModel" ny_MO_send ny_MO_send ∈ hm_tb := hm_tb_in (List.mem_of_getElem? (i := 609) (by rfl)) (by decide +kernel)
set_option maxRecDepth 20000 in
theorem nm_MO_isEnd : Cond.code ny_MO_isEnd prog_8_method_14_code 1 (some .boolean) ∈ hm_tb := hm_tb_in (List.mem_of_getElem? (i := 613) (by rfl)) (by decide +kernel)
theorem nV_MO_isEnd : hm_Y ny_MO_isEnd prog_8_method_14_code 1 (some .boolean) 1 := ⟨nm_MO_isEnd, nz_MO, ⟨by decide +kernel, by decide +kernel⟩, by decide +kernel⟩
set_option maxRecDepth 20000 in
theorem nu_MO_isEnd : Cond.static ny_MO_isEnd ∈ hm_tb := hm_tb_in (List.mem_of_getElem? (i := 612) (by rfl)) (by decide +kernel)
set_option maxRecDepth 20000 in
theorem nm_MO_load : Cond.code ny_MO_load prog_8_method_15_code 3 none ∈ hm_tb := hm_tb_in (List.mem_of_getElem? (i := 617) (by rfl)) (by decide +kernel)
theorem nV_MO_load : hm_Y ny_MO_load prog_8_method_15_code 3 none 1 := ⟨nm_MO_load, nz_MO, ⟨by decide +kernel, by decide +kernel⟩, by decide +kernel⟩
set_option maxRecDepth 20000 in
theorem nj_MO_load : Cond.instanceMethod ny_MO_load ∈ hm_tb := hm_tb_in (List.mem_of_getElem? (i := 616) (by rfl)) (by decide +kernel)
set_option maxRecDepth 20000 in
theorem nm_MO_headLike : Cond.code ny_MO_headLike prog_8_method_18_code 3 (some .int) ∈ hm_tb := hm_tb_in (List.mem_of_getElem? (i := 621) (by rfl)) (by decide +kernel)
theorem nV_MO_headLike : hm_Y ny_MO_headLike prog_8_method_18_code 3 (some .int) 1 := ⟨nm_MO_headLike, nz_MO, ⟨by decide +kernel, by decide +kernel⟩, by decide +kernel⟩
set_option maxRecDepth 20000 in
theorem nj_MO_headLike : Cond.instanceMethod ny_MO_headLike ∈ hm_tb := hm_tb_in (List.mem_of_getElem? (i := 620) (by rfl)) (by decide +kernel)
set_option maxRecDepth 20000 in
theorem nm_MO_give : Cond.code ny_MO_give prog_8_method_7_code 2 none ∈ hm_tb := hm_tb_in (List.mem_of_getElem? (i := 625) (by rfl)) (by decide +kernel)
theorem nV_MO_give : hm_Y ny_MO_give prog_8_method_7_code 2 none 1 := ⟨nm_MO_give, nz_MO, ⟨by decide +kernel, by decide +kernel⟩, by decide +kernel⟩
set_option maxRecDepth 20000 in
theorem nj_MO_give : Cond.instanceMethod ny_MO_give ∈ hm_tb := hm_tb_in (List.mem_of_getElem? (i := 624) (by rfl)) (by decide +kernel)
set_option maxRecDepth 20000 in
theorem nm_MO_store : Cond.code ny_MO_store prog_8_method_16_code 3 none ∈ hm_tb := hm_tb_in (List.mem_of_getElem? (i := 629) (by rfl)) (by decide +kernel)
theorem nV_MO_store : hm_Y ny_MO_store prog_8_method_16_code 3 none 1 := ⟨nm_MO_store, nz_MO, ⟨by decide +kernel, by decide +kernel⟩, by decide +kernel⟩
set_option maxRecDepth 20000 in
theorem nj_MO_store : Cond.instanceMethod ny_MO_store ∈ hm_tb := hm_tb_in (List.mem_of_getElem? (i := 628) (by rfl)) (by decide +kernel)
set_option maxRecDepth 20000 in
theorem nm_MO_take : Cond.code ny_MO_take prog_8_method_23_code 4 (some .int) ∈ hm_tb := hm_tb_in (List.mem_of_getElem? (i := 633) (by rfl)) (by decide +kernel)
theorem nV_MO_take : hm_Y ny_MO_take prog_8_method_23_code 4 (some .int) 2 := ⟨nm_MO_take, nz_MO, ⟨by decide +kernel, by decide +kernel⟩, by decide +kernel⟩
set_option maxRecDepth 20000 in
theorem nj_MO_take : Cond.instanceMethod ny_MO_take ∈ hm_tb := hm_tb_in (List.mem_of_getElem? (i := 631) (by rfl)) (by decide +kernel)
set_option maxRecDepth 20000 in
theorem nx_MO_take : Cond.selects "TurnedKeysModel" ny_MO_take ny_MO_take ∈ hm_tb := hm_tb_in (List.mem_of_getElem? (i := 632) (by rfl)) (by decide +kernel)
set_option maxRecDepth 20000 in
theorem nm_MO_keyFor : Cond.code ny_MO_keyFor prog_8_method_22_code 7 (some .int) ∈ hm_tb := hm_tb_in (List.mem_of_getElem? (i := 637) (by rfl)) (by decide +kernel)
theorem nV_MO_keyFor : hm_Y ny_MO_keyFor prog_8_method_22_code 7 (some .int) 3 := ⟨nm_MO_keyFor, nz_MO, ⟨by decide +kernel, by decide +kernel⟩, by decide +kernel⟩
set_option maxRecDepth 20000 in
theorem nj_MO_keyFor : Cond.instanceMethod ny_MO_keyFor ∈ hm_tb := hm_tb_in (List.mem_of_getElem? (i := 636) (by rfl)) (by decide +kernel)
set_option maxRecDepth 20000 in
theorem nm_MO_dropLeft : Cond.code ny_MO_dropLeft prog_8_method_21_code 3 none ∈ hm_tb := hm_tb_in (List.mem_of_getElem? (i := 641) (by rfl)) (by decide +kernel)
theorem nV_MO_dropLeft : hm_Y ny_MO_dropLeft prog_8_method_21_code 3 none 1 := ⟨nm_MO_dropLeft, nz_MO, ⟨by decide +kernel, by decide +kernel⟩, by decide +kernel⟩
set_option maxRecDepth 20000 in
theorem nj_MO_dropLeft : Cond.instanceMethod ny_MO_dropLeft ∈ hm_tb := hm_tb_in (List.mem_of_getElem? (i := 640) (by rfl)) (by decide +kernel)
set_option maxRecDepth 20000 in
theorem nm_MO_skip : Cond.code ny_MO_skip prog_8_method_20_code 3 (some .boolean) ∈ hm_tb := hm_tb_in (List.mem_of_getElem? (i := 645) (by rfl)) (by decide +kernel)
theorem nV_MO_skip : hm_Y ny_MO_skip prog_8_method_20_code 3 (some .boolean) 1 := ⟨nm_MO_skip, nz_MO, ⟨by decide +kernel, by decide +kernel⟩, by decide +kernel⟩
set_option maxRecDepth 20000 in
theorem nj_MO_skip : Cond.instanceMethod ny_MO_skip ∈ hm_tb := hm_tb_in (List.mem_of_getElem? (i := 644) (by rfl)) (by decide +kernel)
set_option maxRecDepth 20000 in
theorem nm_MO_stepOn : Cond.code ny_MO_stepOn prog_8_method_19_code 1 none ∈ hm_tb := hm_tb_in (List.mem_of_getElem? (i := 649) (by rfl)) (by decide +kernel)
theorem nV_MO_stepOn : hm_Y ny_MO_stepOn prog_8_method_19_code 1 none 0 := ⟨nm_MO_stepOn, nz_MO, ⟨by decide +kernel, by decide +kernel⟩, by decide +kernel⟩
set_option maxRecDepth 20000 in
theorem nj_MO_stepOn : Cond.instanceMethod ny_MO_stepOn ∈ hm_tb := hm_tb_in (List.mem_of_getElem? (i := 648) (by rfl)) (by decide +kernel)
set_option maxRecDepth 20000 in
theorem nm_MO_look : Cond.code ny_MO_look prog_8_method_25_code 3 (some .int) ∈ hm_tb := hm_tb_in (List.mem_of_getElem? (i := 653) (by rfl)) (by decide +kernel)
theorem nV_MO_look : hm_Y ny_MO_look prog_8_method_25_code 3 (some .int) 1 := ⟨nm_MO_look, nz_MO, ⟨by decide +kernel, by decide +kernel⟩, by decide +kernel⟩
set_option maxRecDepth 20000 in
theorem nj_MO_look : Cond.instanceMethod ny_MO_look ∈ hm_tb := hm_tb_in (List.mem_of_getElem? (i := 651) (by rfl)) (by decide +kernel)
set_option maxRecDepth 20000 in
theorem nx_MO_look : Cond.selects "TurnedKeysModel" ny_MO_look ny_MO_look ∈ hm_tb := hm_tb_in (List.mem_of_getElem? (i := 652) (by rfl)) (by decide +kernel)
set_option maxRecDepth 20000 in
theorem nm_MO_shown : Cond.code ny_MO_shown prog_8_method_24_code 2 none ∈ hm_tb := hm_tb_in (List.mem_of_getElem? (i := 657) (by rfl)) (by decide +kernel)
theorem nV_MO_shown : hm_Y ny_MO_shown prog_8_method_24_code 2 none 1 := ⟨nm_MO_shown, nz_MO, ⟨by decide +kernel, by decide +kernel⟩, by decide +kernel⟩
set_option maxRecDepth 20000 in
theorem nj_MO_shown : Cond.instanceMethod ny_MO_shown ∈ hm_tb := hm_tb_in (List.mem_of_getElem? (i := 656) (by rfl)) (by decide +kernel)
set_option maxRecDepth 20000 in
theorem nm_MO_derived : Cond.code ny_MO_derived prog_8_method_26_code 2 (some .int) ∈ hm_tb := hm_tb_in (List.mem_of_getElem? (i := 661) (by rfl)) (by decide +kernel)
theorem nV_MO_derived : hm_Y ny_MO_derived prog_8_method_26_code 2 (some .int) 1 := ⟨nm_MO_derived, nz_MO, ⟨by decide +kernel, by decide +kernel⟩, by decide +kernel⟩
set_option maxRecDepth 20000 in
theorem nj_MO_derived : Cond.instanceMethod ny_MO_derived ∈ hm_tb := hm_tb_in (List.mem_of_getElem? (i := 659) (by rfl)) (by decide +kernel)
set_option maxRecDepth 20000 in
theorem nx_MO_derived : Cond.selects "TurnedKeysModel" ny_MO_derived ny_MO_derived ∈ hm_tb := hm_tb_in (List.mem_of_getElem? (i := 660) (by rfl)) (by decide +kernel)
set_option maxRecDepth 20000 in
theorem nm_MO_derive : Cond.code ny_MO_derive prog_8_method_13_code 3 none ∈ hm_tb := hm_tb_in (List.mem_of_getElem? (i := 665) (by rfl)) (by decide +kernel)
theorem nV_MO_derive : hm_Y ny_MO_derive prog_8_method_13_code 3 none 0 := ⟨nm_MO_derive, nz_MO, ⟨by decide +kernel, by decide +kernel⟩, by decide +kernel⟩
set_option maxRecDepth 20000 in
theorem nj_MO_derive : Cond.instanceMethod ny_MO_derive ∈ hm_tb := hm_tb_in (List.mem_of_getElem? (i := 664) (by rfl)) (by decide +kernel)
set_option maxRecDepth 20000 in
theorem nm_MO_canMake : Cond.code ny_MO_canMake prog_8_method_10_code 2 (some .boolean) ∈ hm_tb := hm_tb_in (List.mem_of_getElem? (i := 669) (by rfl)) (by decide +kernel)
theorem nV_MO_canMake : hm_Y ny_MO_canMake prog_8_method_10_code 2 (some .boolean) 1 := ⟨nm_MO_canMake, nz_MO, ⟨by decide +kernel, by decide +kernel⟩, by decide +kernel⟩
set_option maxRecDepth 20000 in
theorem nj_MO_canMake : Cond.instanceMethod ny_MO_canMake ∈ hm_tb := hm_tb_in (List.mem_of_getElem? (i := 668) (by rfl)) (by decide +kernel)
set_option maxRecDepth 20000 in
theorem nm_MO_shows : Cond.code ny_MO_shows prog_8_method_9_code 2 (some .boolean) ∈ hm_tb := hm_tb_in (List.mem_of_getElem? (i := 673) (by rfl)) (by decide +kernel)
theorem nV_MO_shows : hm_Y ny_MO_shows prog_8_method_9_code 2 (some .boolean) 1 := ⟨nm_MO_shows, nz_MO, ⟨by decide +kernel, by decide +kernel⟩, by decide +kernel⟩
set_option maxRecDepth 20000 in
theorem nj_MO_shows : Cond.instanceMethod ny_MO_shows ∈ hm_tb := hm_tb_in (List.mem_of_getElem? (i := 672) (by rfl)) (by decide +kernel)
set_option maxRecDepth 20000 in
theorem nm_MO_has : Cond.code ny_MO_has prog_8_method_8_code 2 (some .boolean) ∈ hm_tb := hm_tb_in (List.mem_of_getElem? (i := 677) (by rfl)) (by decide +kernel)
theorem nV_MO_has : hm_Y ny_MO_has prog_8_method_8_code 2 (some .boolean) 1 := ⟨nm_MO_has, nz_MO, ⟨by decide +kernel, by decide +kernel⟩, by decide +kernel⟩
set_option maxRecDepth 20000 in
theorem nj_MO_has : Cond.instanceMethod ny_MO_has ∈ hm_tb := hm_tb_in (List.mem_of_getElem? (i := 676) (by rfl)) (by decide +kernel)
set_option maxRecDepth 20000 in
theorem nm_MO_learn : Cond.code ny_MO_learn prog_8_method_11_code 2 (some .boolean) ∈ hm_tb := hm_tb_in (List.mem_of_getElem? (i := 681) (by rfl)) (by decide +kernel)
theorem nV_MO_learn : hm_Y ny_MO_learn prog_8_method_11_code 2 (some .boolean) 1 := ⟨nm_MO_learn, nz_MO, ⟨by decide +kernel, by decide +kernel⟩, by decide +kernel⟩
set_option maxRecDepth 20000 in
theorem nj_MO_learn : Cond.instanceMethod ny_MO_learn ∈ hm_tb := hm_tb_in (List.mem_of_getElem? (i := 680) (by rfl)) (by decide +kernel)
set_option maxRecDepth 20000 in
theorem nm_MO_open : Cond.code ny_MO_open prog_8_method_12_code 3 (some .boolean) ∈ hm_tb := hm_tb_in (List.mem_of_getElem? (i := 685) (by rfl)) (by decide +kernel)
theorem nV_MO_open : hm_Y ny_MO_open prog_8_method_12_code 3 (some .boolean) 1 := ⟨nm_MO_open, nz_MO, ⟨by decide +kernel, by decide +kernel⟩, by decide +kernel⟩
set_option maxRecDepth 20000 in
theorem nj_MO_open : Cond.instanceMethod ny_MO_open ∈ hm_tb := hm_tb_in (List.mem_of_getElem? (i := 684) (by rfl)) (by decide +kernel)
set_option maxRecDepth 20000 in
theorem nm_MO_opens : Cond.code ny_MO_opens prog_8_method_27_code 2 (some .int) ∈ hm_tb := hm_tb_in (List.mem_of_getElem? (i := 689) (by rfl)) (by decide +kernel)
theorem nV_MO_opens : hm_Y ny_MO_opens prog_8_method_27_code 2 (some .int) 1 := ⟨nm_MO_opens, nz_MO, ⟨by decide +kernel, by decide +kernel⟩, by decide +kernel⟩
set_option maxRecDepth 20000 in
theorem nj_MO_opens : Cond.instanceMethod ny_MO_opens ∈ hm_tb := hm_tb_in (List.mem_of_getElem? (i := 687) (by rfl)) (by decide +kernel)
set_option maxRecDepth 20000 in
theorem nx_MO_opens : Cond.selects "TurnedKeysModel" ny_MO_opens ny_MO_opens ∈ hm_tb := hm_tb_in (List.mem_of_getElem? (i := 688) (by rfl)) (by decide +kernel)
set_option maxRecDepth 20000 in
theorem nm_MO_back : Cond.code ny_MO_back prog_8_method_28_code 3 (some .int) ∈ hm_tb := hm_tb_in (List.mem_of_getElem? (i := 693) (by rfl)) (by decide +kernel)
theorem nV_MO_back : hm_Y ny_MO_back prog_8_method_28_code 3 (some .int) 1 := ⟨nm_MO_back, nz_MO, ⟨by decide +kernel, by decide +kernel⟩, by decide +kernel⟩
set_option maxRecDepth 20000 in
theorem nj_MO_back : Cond.instanceMethod ny_MO_back ∈ hm_tb := hm_tb_in (List.mem_of_getElem? (i := 691) (by rfl)) (by decide +kernel)
set_option maxRecDepth 20000 in
theorem nx_MO_back : Cond.selects "TurnedKeysModel" ny_MO_back ny_MO_back ∈ hm_tb := hm_tb_in (List.mem_of_getElem? (i := 692) (by rfl)) (by decide +kernel)
set_option maxRecDepth 20000 in
theorem nm_MO_keep : Cond.code ny_MO_keep prog_8_method_29_code 3 (some .int) ∈ hm_tb := hm_tb_in (List.mem_of_getElem? (i := 697) (by rfl)) (by decide +kernel)
theorem nV_MO_keep : hm_Y ny_MO_keep prog_8_method_29_code 3 (some .int) 1 := ⟨nm_MO_keep, nz_MO, ⟨by decide +kernel, by decide +kernel⟩, by decide +kernel⟩
set_option maxRecDepth 20000 in
theorem nj_MO_keep : Cond.instanceMethod ny_MO_keep ∈ hm_tb := hm_tb_in (List.mem_of_getElem? (i := 695) (by rfl)) (by decide +kernel)
set_option maxRecDepth 20000 in
theorem nx_MO_keep : Cond.selects "TurnedKeysModel" ny_MO_keep ny_MO_keep ∈ hm_tb := hm_tb_in (List.mem_of_getElem? (i := 696) (by rfl)) (by decide +kernel)
set_option maxRecDepth 20000 in
theorem nm_MO_end : Cond.code ny_MO_end prog_8_method_30_code 3 (some .int) ∈ hm_tb := hm_tb_in (List.mem_of_getElem? (i := 701) (by rfl)) (by decide +kernel)
theorem nV_MO_end : hm_Y ny_MO_end prog_8_method_30_code 3 (some .int) 2 := ⟨nm_MO_end, nz_MO, ⟨by decide +kernel, by decide +kernel⟩, by decide +kernel⟩
set_option maxRecDepth 20000 in
theorem nj_MO_end : Cond.instanceMethod ny_MO_end ∈ hm_tb := hm_tb_in (List.mem_of_getElem? (i := 699) (by rfl)) (by decide +kernel)
set_option maxRecDepth 20000 in
theorem nx_MO_end : Cond.selects "TurnedKeysModel" ny_MO_end ny_MO_end ∈ hm_tb := hm_tb_in (List.mem_of_getElem? (i := 700) (by rfl)) (by decide +kernel)
set_option maxRecDepth 20000 in
theorem nm_MO_agree : Cond.code ny_MO_agree prog_8_method_31_code 1 (some .int) ∈ hm_tb := hm_tb_in (List.mem_of_getElem? (i := 705) (by rfl)) (by decide +kernel)
theorem nV_MO_agree : hm_Y ny_MO_agree prog_8_method_31_code 1 (some .int) 0 := ⟨nm_MO_agree, nz_MO, ⟨by decide +kernel, by decide +kernel⟩, by decide +kernel⟩
set_option maxRecDepth 20000 in
theorem nj_MO_agree : Cond.instanceMethod ny_MO_agree ∈ hm_tb := hm_tb_in (List.mem_of_getElem? (i := 703) (by rfl)) (by decide +kernel)
set_option maxRecDepth 20000 in
theorem nx_MO_agree : Cond.selects "TurnedKeysModel" ny_MO_agree ny_MO_agree ∈ hm_tb := hm_tb_in (List.mem_of_getElem? (i := 704) (by rfl)) (by decide +kernel)
set_option maxRecDepth 20000 in
theorem nm_MO_count : Cond.code ny_MO_count prog_8_method_32_code 2 (some .int) ∈ hm_tb := hm_tb_in (List.mem_of_getElem? (i := 709) (by rfl)) (by decide +kernel)
theorem nV_MO_count : hm_Y ny_MO_count prog_8_method_32_code 2 (some .int) 1 := ⟨nm_MO_count, nz_MO, ⟨by decide +kernel, by decide +kernel⟩, by decide +kernel⟩
set_option maxRecDepth 20000 in
theorem nj_MO_count : Cond.instanceMethod ny_MO_count ∈ hm_tb := hm_tb_in (List.mem_of_getElem? (i := 707) (by rfl)) (by decide +kernel)
set_option maxRecDepth 20000 in
theorem nx_MO_count : Cond.selects "TurnedKeysModel" ny_MO_count ny_MO_count ∈ hm_tb := hm_tb_in (List.mem_of_getElem? (i := 708) (by rfl)) (by decide +kernel)
set_option maxRecDepth 20000 in
theorem nx_TS_added : Cond.selects "TurnedKeys$Terms" ny_TS_added ny_TS_added ∈ hm_tb := hm_tb_in (List.mem_of_getElem? (i := 0) (by rfl)) (by decide +kernel)
set_option maxRecDepth 20000 in
theorem nx_AL_add2 : Cond.selects "java/util/ArrayList" ny_AL_add2 ny_AL_add2 ∈ hm_tb := hm_tb_in (List.mem_of_getElem? (i := 1) (by rfl)) (by decide +kernel)
set_option maxRecDepth 20000 in
theorem nx_AL_grow : Cond.selects "java/util/ArrayList" ny_AL_grow ny_AL_grow ∈ hm_tb := hm_tb_in (List.mem_of_getElem? (i := 2) (by rfl)) (by decide +kernel)
set_option maxRecDepth 20000 in
theorem nx_AL_grow2 : Cond.selects "java/util/ArrayList" ny_AL_grow2 ny_AL_grow2 ∈ hm_tb := hm_tb_in (List.mem_of_getElem? (i := 3) (by rfl)) (by decide +kernel)
set_option maxRecDepth 20000 in
theorem nx_TK_mayMakeMore : Cond.selects "TurnedKeys" ny_TK_mayMakeMore ny_TK_mayMakeMore ∈ hm_tb := hm_tb_in (List.mem_of_getElem? (i := 4) (by rfl)) (by decide +kernel)
set_option maxRecDepth 20000 in
theorem nx_TK_giveWire : Cond.selects "TurnedKeys" ny_TK_giveWire ny_TK_giveWire ∈ hm_tb := hm_tb_in (List.mem_of_getElem? (i := 5) (by rfl)) (by decide +kernel)
set_option maxRecDepth 20000 in
theorem nx_TK_wireAt : Cond.selects "TurnedKeys" ny_TK_wireAt ny_TK_wireAt ∈ hm_tb := hm_tb_in (List.mem_of_getElem? (i := 6) (by rfl)) (by decide +kernel)
set_option maxRecDepth 20000 in
theorem nx_EN_pulledLeftKey : Cond.selects "TurnedKeys$End" ny_EN_pulledLeftKey ny_EN_pulledLeftKey ∈ hm_tb := hm_tb_in (List.mem_of_getElem? (i := 7) (by rfl)) (by decide +kernel)
set_option maxRecDepth 20000 in
theorem nx_EN_dropLeftKey : Cond.selects "TurnedKeys$End" ny_EN_dropLeftKey ny_EN_dropLeftKey ∈ hm_tb := hm_tb_in (List.mem_of_getElem? (i := 8) (by rfl)) (by decide +kernel)
set_option maxRecDepth 20000 in
theorem nx_EN_skipsTo : Cond.selects "TurnedKeys$End" ny_EN_skipsTo ny_EN_skipsTo ∈ hm_tb := hm_tb_in (List.mem_of_getElem? (i := 9) (by rfl)) (by decide +kernel)
set_option maxRecDepth 20000 in
theorem nx_EN_steppedKey : Cond.selects "TurnedKeys$End" ny_EN_steppedKey ny_EN_steppedKey ∈ hm_tb := hm_tb_in (List.mem_of_getElem? (i := 10) (by rfl)) (by decide +kernel)
set_option maxRecDepth 20000 in
theorem nx_EN_leave : Cond.selects "TurnedKeys$End" ny_EN_leave ny_EN_leave ∈ hm_tb := hm_tb_in (List.mem_of_getElem? (i := 11) (by rfl)) (by decide +kernel)
set_option maxRecDepth 20000 in
theorem nx_EN_turnReceiving : Cond.selects "TurnedKeys$End" ny_EN_turnReceiving ny_EN_turnReceiving ∈ hm_tb := hm_tb_in (List.mem_of_getElem? (i := 12) (by rfl)) (by decide +kernel)
set_option maxRecDepth 20000 in
theorem nx_TS_settle : Cond.selects "TurnedKeys$Terms" ny_TS_settle ny_TS_settle ∈ hm_tb := hm_tb_in (List.mem_of_getElem? (i := 13) (by rfl)) (by decide +kernel)
set_option maxRecDepth 20000 in
theorem nx_MO_draw : Cond.selects "TurnedKeysModel" ny_MO_draw ny_MO_draw ∈ hm_tb := hm_tb_in (List.mem_of_getElem? (i := 14) (by rfl)) (by decide +kernel)
set_option maxRecDepth 20000 in
theorem nx_MO_term : Cond.selects "TurnedKeysModel" ny_MO_term ny_MO_term ∈ hm_tb := hm_tb_in (List.mem_of_getElem? (i := 15) (by rfl)) (by decide +kernel)
set_option maxRecDepth 20000 in
theorem nx_MO_publicOf : Cond.selects "TurnedKeysModel" ny_MO_publicOf ny_MO_publicOf ∈ hm_tb := hm_tb_in (List.mem_of_getElem? (i := 16) (by rfl)) (by decide +kernel)
set_option maxRecDepth 20000 in
theorem nx_MO_shared : Cond.selects "TurnedKeysModel" ny_MO_shared ny_MO_shared ∈ hm_tb := hm_tb_in (List.mem_of_getElem? (i := 17) (by rfl)) (by decide +kernel)
set_option maxRecDepth 20000 in
theorem nx_MO_mix : Cond.selects "TurnedKeysModel" ny_MO_mix ny_MO_mix ∈ hm_tb := hm_tb_in (List.mem_of_getElem? (i := 18) (by rfl)) (by decide +kernel)
set_option maxRecDepth 20000 in
theorem nx_MO_load : Cond.selects "TurnedKeysModel" ny_MO_load ny_MO_load ∈ hm_tb := hm_tb_in (List.mem_of_getElem? (i := 19) (by rfl)) (by decide +kernel)
set_option maxRecDepth 20000 in
theorem nx_MO_headLike : Cond.selects "TurnedKeysModel" ny_MO_headLike ny_MO_headLike ∈ hm_tb := hm_tb_in (List.mem_of_getElem? (i := 20) (by rfl)) (by decide +kernel)
set_option maxRecDepth 20000 in
theorem nx_MO_give : Cond.selects "TurnedKeysModel" ny_MO_give ny_MO_give ∈ hm_tb := hm_tb_in (List.mem_of_getElem? (i := 21) (by rfl)) (by decide +kernel)
set_option maxRecDepth 20000 in
theorem nx_MO_store : Cond.selects "TurnedKeysModel" ny_MO_store ny_MO_store ∈ hm_tb := hm_tb_in (List.mem_of_getElem? (i := 22) (by rfl)) (by decide +kernel)
set_option maxRecDepth 20000 in
theorem nx_MO_keyFor : Cond.selects "TurnedKeysModel" ny_MO_keyFor ny_MO_keyFor ∈ hm_tb := hm_tb_in (List.mem_of_getElem? (i := 23) (by rfl)) (by decide +kernel)
set_option maxRecDepth 20000 in
theorem nx_MO_dropLeft : Cond.selects "TurnedKeysModel" ny_MO_dropLeft ny_MO_dropLeft ∈ hm_tb := hm_tb_in (List.mem_of_getElem? (i := 24) (by rfl)) (by decide +kernel)
set_option maxRecDepth 20000 in
theorem nx_MO_skip : Cond.selects "TurnedKeysModel" ny_MO_skip ny_MO_skip ∈ hm_tb := hm_tb_in (List.mem_of_getElem? (i := 25) (by rfl)) (by decide +kernel)
set_option maxRecDepth 20000 in
theorem nx_MO_stepOn : Cond.selects "TurnedKeysModel" ny_MO_stepOn ny_MO_stepOn ∈ hm_tb := hm_tb_in (List.mem_of_getElem? (i := 26) (by rfl)) (by decide +kernel)
set_option maxRecDepth 20000 in
theorem nx_MO_shown : Cond.selects "TurnedKeysModel" ny_MO_shown ny_MO_shown ∈ hm_tb := hm_tb_in (List.mem_of_getElem? (i := 27) (by rfl)) (by decide +kernel)
set_option maxRecDepth 20000 in
theorem nx_MO_derive : Cond.selects "TurnedKeysModel" ny_MO_derive ny_MO_derive ∈ hm_tb := hm_tb_in (List.mem_of_getElem? (i := 28) (by rfl)) (by decide +kernel)
set_option maxRecDepth 20000 in
theorem nx_MO_canMake : Cond.selects "TurnedKeysModel" ny_MO_canMake ny_MO_canMake ∈ hm_tb := hm_tb_in (List.mem_of_getElem? (i := 29) (by rfl)) (by decide +kernel)
set_option maxRecDepth 20000 in
theorem nx_MO_shows : Cond.selects "TurnedKeysModel" ny_MO_shows ny_MO_shows ∈ hm_tb := hm_tb_in (List.mem_of_getElem? (i := 30) (by rfl)) (by decide +kernel)
set_option maxRecDepth 20000 in
theorem nx_MO_has : Cond.selects "TurnedKeysModel" ny_MO_has ny_MO_has ∈ hm_tb := hm_tb_in (List.mem_of_getElem? (i := 31) (by rfl)) (by decide +kernel)
set_option maxRecDepth 20000 in
theorem nx_MO_learn : Cond.selects "TurnedKeysModel" ny_MO_learn ny_MO_learn ∈ hm_tb := hm_tb_in (List.mem_of_getElem? (i := 32) (by rfl)) (by decide +kernel)
set_option maxRecDepth 20000 in
theorem nx_MO_open : Cond.selects "TurnedKeysModel" ny_MO_open ny_MO_open ∈ hm_tb := hm_tb_in (List.mem_of_getElem? (i := 33) (by rfl)) (by decide +kernel)
set_option maxRecDepth 20000 in
theorem nq_LA_9 : Cond.methodLink "TurnedKeysLaw" 9 ny_TK_init ∈ hm_tb := hm_tb_in (List.mem_of_getElem? (i := 53) (by rfl)) (by decide +kernel)
set_option maxRecDepth 20000 in
theorem nq_TK_1 : Cond.methodLink "TurnedKeys" 1 objectInit ∈ hm_tb := hm_tb_in (List.mem_of_getElem? (i := 56) (by rfl)) (by decide +kernel)
set_option maxRecDepth 20000 in
theorem nq_TK_9 : Cond.methodLinkNest "TurnedKeys" 9 ny_TS_init "TurnedKeys" ∈ lw_tbl := List.mem_of_getElem? (i := 61) (by rfl)
set_option maxRecDepth 20000 in
theorem nq_TS_3 : Cond.methodLink "TurnedKeys$Terms" 3 objectInit ∈ hm_tb := hm_tb_in (List.mem_of_getElem? (i := 64) (by rfl)) (by decide +kernel)
set_option maxRecDepth 20000 in
theorem nq_TS_11 : Cond.methodLink "TurnedKeys$Terms" 11 ny_AL_init ∈ hm_tb := hm_tb_in (List.mem_of_getElem? (i := 67) (by rfl)) (by decide +kernel)
set_option maxRecDepth 20000 in
theorem nq_AL_1 : Cond.methodLink "java/util/ArrayList" 1 ny_AB_init ∈ hm_tb := hm_tb_in (List.mem_of_getElem? (i := 70) (by rfl)) (by decide +kernel)
set_option maxRecDepth 20000 in
theorem nq_AB_1 : Cond.methodLink "java/util/AbstractList" 1 ny_AC_init ∈ hm_tb := hm_tb_in (List.mem_of_getElem? (i := 73) (by rfl)) (by decide +kernel)
set_option maxRecDepth 20000 in
theorem nq_AC_1 : Cond.methodLink "java/util/AbstractCollection" 1 objectInit ∈ hm_tb := hm_tb_in (List.mem_of_getElem? (i := 76) (by rfl)) (by decide +kernel)
set_option maxRecDepth 20000 in
theorem nq_TK_16 : Cond.methodLink "TurnedKeys" 16 ny_TS_draw ∈ hm_tb := hm_tb_in (List.mem_of_getElem? (i := 102) (by rfl)) (by decide +kernel)
set_option maxRecDepth 20000 in
theorem nq_TS_22 : Cond.methodLink "TurnedKeys$Terms" 22 ny_TS_added ∈ hm_tb := hm_tb_in (List.mem_of_getElem? (i := 106) (by rfl)) (by decide +kernel)
set_option maxRecDepth 20000 in
theorem nq_TS_62 : Cond.methodLink "TurnedKeys$Terms" 62 ny_AL_size ∈ hm_tb := hm_tb_in (List.mem_of_getElem? (i := 112) (by rfl)) (by decide +kernel)
set_option maxRecDepth 20000 in
theorem nq_TS_66 : Cond.methodLink "TurnedKeys$Terms" 66 ny_TE_init ∈ hm_tb := hm_tb_in (List.mem_of_getElem? (i := 116) (by rfl)) (by decide +kernel)
set_option maxRecDepth 20000 in
theorem nq_TE_1 : Cond.methodLink "TurnedKeys$Term" 1 objectInit ∈ hm_tb := hm_tb_in (List.mem_of_getElem? (i := 119) (by rfl)) (by decide +kernel)
set_option maxRecDepth 20000 in
theorem nq_TS_69 : Cond.methodLink "TurnedKeys$Terms" 69 ny_AL_add ∈ hm_tb := hm_tb_in (List.mem_of_getElem? (i := 150) (by rfl)) (by decide +kernel)
set_option maxRecDepth 20000 in
theorem nq_AL_131 : Cond.methodLink "java/util/ArrayList" 131 ny_AL_add2 ∈ hm_tb := hm_tb_in (List.mem_of_getElem? (i := 154) (by rfl)) (by decide +kernel)
set_option maxRecDepth 20000 in
theorem nq_AL_129 : Cond.methodLink "java/util/ArrayList" 129 ny_AL_grow ∈ hm_tb := hm_tb_in (List.mem_of_getElem? (i := 158) (by rfl)) (by decide +kernel)
set_option maxRecDepth 20000 in
theorem nq_AL_69 : Cond.methodLink "java/util/ArrayList" 69 ny_AL_grow2 ∈ hm_tb := hm_tb_in (List.mem_of_getElem? (i := 162) (by rfl)) (by decide +kernel)
set_option maxRecDepth 20000 in
theorem nq_AL_73 : Cond.methodLink "java/util/ArrayList" 73 ny_AS_newLength ∈ hm_tb := hm_tb_in (List.mem_of_getElem? (i := 166) (by rfl)) (by decide +kernel)
set_option maxRecDepth 20000 in
theorem nq_AS_194 : Cond.methodLink "jdk/internal/util/ArraysSupport" 194 ny_MA_max ∈ hm_tb := hm_tb_in (List.mem_of_getElem? (i := 169) (by rfl)) (by decide +kernel)
set_option maxRecDepth 20000 in
theorem nq_AS_201 : Cond.methodLink "jdk/internal/util/ArraysSupport" 201 ny_AS_hugeLength ∈ hm_tb := hm_tb_in (List.mem_of_getElem? (i := 173) (by rfl)) (by decide +kernel)
set_option maxRecDepth 20000 in
theorem nq_AL_66 : Cond.methodLink "java/util/ArrayList" 66 ny_AR_copyOf ∈ hm_tb := hm_tb_in (List.mem_of_getElem? (i := 176) (by rfl)) (by decide +kernel)
set_option maxRecDepth 20000 in
theorem nq_AR_86 : Cond.methodLink "java/util/Arrays" 86 ⟨"java/lang/Object", "getClass", "()Ljava/lang/Class;"⟩ ∈ hm_tb := hm_tb_in (List.mem_of_getElem? (i := 179) (by rfl)) (by decide +kernel)
set_option maxRecDepth 20000 in
theorem nq_AR_300 : Cond.methodLink "java/util/Arrays" 300 ny_AR_copyOf2 ∈ hm_tb := hm_tb_in (List.mem_of_getElem? (i := 191) (by rfl)) (by decide +kernel)
set_option maxRecDepth 20000 in
theorem nr_OJ : Cond.arrayOver (.object "java/lang/Object") ∈ lw_tbl := List.mem_of_getElem? (i := 195) (by rfl)
set_option maxRecDepth 20000 in
theorem nq_AR_304 : Cond.methodLink "java/util/Arrays" 304 ny_MA_min ∈ hm_tb := hm_tb_in (List.mem_of_getElem? (i := 197) (by rfl)) (by decide +kernel)
set_option maxRecDepth 20000 in
theorem nq_AR_150 : Cond.methodLink "java/util/Arrays" 150 ⟨"java/lang/System", "arraycopy", "(Ljava/lang/Object;ILjava/lang/Object;II)V"⟩ ∈ hm_tb := hm_tb_in (List.mem_of_getElem? (i := 200) (by rfl)) (by decide +kernel)
set_option maxRecDepth 20000 in
theorem nq_AL_79 : Cond.methodLink "java/util/ArrayList" 79 ny_MA_max ∈ hm_tb := hm_tb_in (List.mem_of_getElem? (i := 203) (by rfl)) (by decide +kernel)
set_option maxRecDepth 20000 in
theorem nq_TK_20 : Cond.methodLink "TurnedKeys" 20 ny_TS_publicOf ∈ hm_tb := hm_tb_in (List.mem_of_getElem? (i := 205) (by rfl)) (by decide +kernel)
set_option maxRecDepth 20000 in
theorem nq_TK_24 : Cond.methodLink "TurnedKeys" 24 ny_TS_sharedOf ∈ hm_tb := hm_tb_in (List.mem_of_getElem? (i := 209) (by rfl)) (by decide +kernel)
set_option maxRecDepth 20000 in
theorem nq_TS_35 : Cond.methodLink "TurnedKeys$Terms" 35 ny_TS_publicOf ∈ hm_tb := hm_tb_in (List.mem_of_getElem? (i := 213) (by rfl)) (by decide +kernel)
set_option maxRecDepth 20000 in
theorem nq_TS_42 : Cond.methodLink "TurnedKeys$Terms" 42 ny_TS_made ∈ hm_tb := hm_tb_in (List.mem_of_getElem? (i := 214) (by rfl)) (by decide +kernel)
set_option maxRecDepth 20000 in
theorem nq_TS_46 : Cond.methodLink "TurnedKeys$Terms" 46 ny_TS_younger ∈ hm_tb := hm_tb_in (List.mem_of_getElem? (i := 218) (by rfl)) (by decide +kernel)
set_option maxRecDepth 20000 in
theorem nq_TK_30 : Cond.methodLink "TurnedKeys" 30 ny_TS_made ∈ hm_tb := hm_tb_in (List.mem_of_getElem? (i := 223) (by rfl)) (by decide +kernel)
set_option maxRecDepth 20000 in
theorem nq_TK_34 : Cond.methodLink "TurnedKeys" 34 ny_EN_init ∈ hm_tb := hm_tb_in (List.mem_of_getElem? (i := 224) (by rfl)) (by decide +kernel)
set_option maxRecDepth 20000 in
theorem nq_EN_3 : Cond.methodLink "TurnedKeys$End" 3 objectInit ∈ hm_tb := hm_tb_in (List.mem_of_getElem? (i := 227) (by rfl)) (by decide +kernel)
set_option maxRecDepth 20000 in
theorem nr_LK : Cond.arrayOver (.object "TurnedKeys$LeftKey") ∈ lw_tbl := List.mem_of_getElem? (i := 229) (by rfl)
set_option maxRecDepth 20000 in
theorem nr_EN : Cond.arrayOver (.object "TurnedKeys$End") ∈ lw_tbl := List.mem_of_getElem? (i := 275) (by rfl)
set_option maxRecDepth 20000 in
theorem nq_TK_48 : Cond.methodLink "TurnedKeys" 48 ny_EN_copied ∈ hm_tb := hm_tb_in (List.mem_of_getElem? (i := 276) (by rfl)) (by decide +kernel)
set_option maxRecDepth 20000 in
theorem nq_EN_27 : Cond.methodLink "TurnedKeys$End" 27 ny_EN_init ∈ hm_tb := hm_tb_in (List.mem_of_getElem? (i := 281) (by rfl)) (by decide +kernel)
set_option maxRecDepth 20000 in
theorem nq_EN_30 : Cond.methodLink "TurnedKeys$End" 30 ny_EN_become ∈ hm_tb := hm_tb_in (List.mem_of_getElem? (i := 282) (by rfl)) (by decide +kernel)
set_option maxRecDepth 20000 in
theorem nq_TK_61 : Cond.methodLink "TurnedKeys" 61 ny_AL_init ∈ hm_tb := hm_tb_in (List.mem_of_getElem? (i := 287) (by rfl)) (by decide +kernel)
set_option maxRecDepth 20000 in
theorem nq_LA_13 : Cond.methodLink "TurnedKeysLaw" 13 ny_TK_send ∈ hm_tb := hm_tb_in (List.mem_of_getElem? (i := 307) (by rfl)) (by decide +kernel)
set_option maxRecDepth 20000 in
theorem nq_TK_66 : Cond.methodLink "TurnedKeys" 66 ny_TK_endAt ∈ hm_tb := hm_tb_in (List.mem_of_getElem? (i := 311) (by rfl)) (by decide +kernel)
set_option maxRecDepth 20000 in
theorem nq_TK_70 : Cond.methodLink "TurnedKeys" 70 ny_TK_mayMakeMore ∈ hm_tb := hm_tb_in (List.mem_of_getElem? (i := 314) (by rfl)) (by decide +kernel)
set_option maxRecDepth 20000 in
theorem nq_TK_74 : Cond.methodLink "TurnedKeys" 74 ny_EN_turnSending ∈ hm_tb := hm_tb_in (List.mem_of_getElem? (i := 318) (by rfl)) (by decide +kernel)
set_option maxRecDepth 20000 in
theorem nq_EN_56 : Cond.methodLink "TurnedKeys$End" 56 ny_TS_draw ∈ hm_tb := hm_tb_in (List.mem_of_getElem? (i := 322) (by rfl)) (by decide +kernel)
set_option maxRecDepth 20000 in
theorem nq_EN_62 : Cond.methodLink "TurnedKeys$End" 62 ny_TS_sharedOf ∈ hm_tb := hm_tb_in (List.mem_of_getElem? (i := 323) (by rfl)) (by decide +kernel)
set_option maxRecDepth 20000 in
theorem nq_EN_66 : Cond.methodLink "TurnedKeys$End" 66 ny_TS_made ∈ hm_tb := hm_tb_in (List.mem_of_getElem? (i := 324) (by rfl)) (by decide +kernel)
set_option maxRecDepth 20000 in
theorem nq_TK_78 : Cond.methodLink "TurnedKeys" 78 ny_EN_sealedWire ∈ hm_tb := hm_tb_in (List.mem_of_getElem? (i := 325) (by rfl)) (by decide +kernel)
set_option maxRecDepth 20000 in
theorem nq_EN_72 : Cond.methodLink "TurnedKeys$End" 72 ny_TS_publicOf ∈ hm_tb := hm_tb_in (List.mem_of_getElem? (i := 331) (by rfl)) (by decide +kernel)
set_option maxRecDepth 20000 in
theorem nq_EN_76 : Cond.methodLink "TurnedKeys$End" 76 ny_WI_init ∈ hm_tb := hm_tb_in (List.mem_of_getElem? (i := 332) (by rfl)) (by decide +kernel)
set_option maxRecDepth 20000 in
theorem nq_WI_1 : Cond.methodLink "TurnedKeys$Wire" 1 objectInit ∈ hm_tb := hm_tb_in (List.mem_of_getElem? (i := 335) (by rfl)) (by decide +kernel)
set_option maxRecDepth 20000 in
theorem nq_TK_82 : Cond.methodLink "TurnedKeys" 82 ny_AL_add ∈ hm_tb := hm_tb_in (List.mem_of_getElem? (i := 362) (by rfl)) (by decide +kernel)
set_option maxRecDepth 20000 in
theorem nq_TK_89 : Cond.methodLink "TurnedKeys" 89 ny_TK_giveWire ∈ hm_tb := hm_tb_in (List.mem_of_getElem? (i := 363) (by rfl)) (by decide +kernel)
set_option maxRecDepth 20000 in
theorem nq_TK_118 : Cond.methodLink "TurnedKeys" 118 ny_TS_give ∈ hm_tb := hm_tb_in (List.mem_of_getElem? (i := 367) (by rfl)) (by decide +kernel)
set_option maxRecDepth 20000 in
theorem nq_TS_80 : Cond.methodLink "TurnedKeys$Terms" 80 ny_MA_min ∈ hm_tb := hm_tb_in (List.mem_of_getElem? (i := 371) (by rfl)) (by decide +kernel)
set_option maxRecDepth 20000 in
theorem nq_TK_93 : Cond.methodLink "TurnedKeys" 93 ny_AL_size ∈ hm_tb := hm_tb_in (List.mem_of_getElem? (i := 372) (by rfl)) (by decide +kernel)
set_option maxRecDepth 20000 in
theorem nq_LA_18 : Cond.methodLink "TurnedKeysLaw" 18 ny_TK_take ∈ hm_tb := hm_tb_in (List.mem_of_getElem? (i := 373) (by rfl)) (by decide +kernel)
set_option maxRecDepth 20000 in
theorem nq_TK_97 : Cond.methodLink "TurnedKeys" 97 ny_TK_wireAt ∈ hm_tb := hm_tb_in (List.mem_of_getElem? (i := 377) (by rfl)) (by decide +kernel)
set_option maxRecDepth 20000 in
theorem nq_TK_171 : Cond.methodLink "TurnedKeys" 171 ny_AL_get ∈ hm_tb := hm_tb_in (List.mem_of_getElem? (i := 381) (by rfl)) (by decide +kernel)
set_option maxRecDepth 20000 in
theorem nq_AL_118 : Cond.methodLink "java/util/ArrayList" 118 ny_OB_checkIndex ∈ hm_tb := hm_tb_in (List.mem_of_getElem? (i := 385) (by rfl)) (by decide +kernel)
set_option maxRecDepth 20000 in
theorem nq_OB_105 : Cond.methodLink "java/util/Objects" 105 ny_PR_checkIndex ∈ hm_tb := hm_tb_in (List.mem_of_getElem? (i := 388) (by rfl)) (by decide +kernel)
set_option maxRecDepth 20000 in
theorem nq_AL_123 : Cond.methodLink "java/util/ArrayList" 123 ny_AL_elementData ∈ hm_tb := hm_tb_in (List.mem_of_getElem? (i := 391) (by rfl)) (by decide +kernel)
set_option maxRecDepth 20000 in
theorem nq_TK_107 : Cond.methodLink "TurnedKeys" 107 ny_EN_become ∈ hm_tb := hm_tb_in (List.mem_of_getElem? (i := 396) (by rfl)) (by decide +kernel)
set_option maxRecDepth 20000 in
theorem nq_TK_111 : Cond.methodLink "TurnedKeys" 111 ny_EN_keyFor ∈ hm_tb := hm_tb_in (List.mem_of_getElem? (i := 397) (by rfl)) (by decide +kernel)
set_option maxRecDepth 20000 in
theorem nq_EN_85 : Cond.methodLink "TurnedKeys$End" 85 ny_EN_pulledLeftKey ∈ hm_tb := hm_tb_in (List.mem_of_getElem? (i := 401) (by rfl)) (by decide +kernel)
set_option maxRecDepth 20000 in
theorem nq_EN_109 : Cond.methodLink "TurnedKeys$End" 109 ny_EN_dropLeftKey ∈ hm_tb := hm_tb_in (List.mem_of_getElem? (i := 405) (by rfl)) (by decide +kernel)
set_option maxRecDepth 20000 in
theorem nq_EN_90 : Cond.methodLink "TurnedKeys$End" 90 ny_EN_skipsTo ∈ hm_tb := hm_tb_in (List.mem_of_getElem? (i := 409) (by rfl)) (by decide +kernel)
set_option maxRecDepth 20000 in
theorem nq_EN_98 : Cond.methodLink "TurnedKeys$End" 98 ny_EN_steppedKey ∈ hm_tb := hm_tb_in (List.mem_of_getElem? (i := 414) (by rfl)) (by decide +kernel)
set_option maxRecDepth 20000 in
theorem nq_EN_102 : Cond.methodLink "TurnedKeys$End" 102 ny_LK_init ∈ hm_tb := hm_tb_in (List.mem_of_getElem? (i := 418) (by rfl)) (by decide +kernel)
set_option maxRecDepth 20000 in
theorem nq_LK_1 : Cond.methodLink "TurnedKeys$LeftKey" 1 objectInit ∈ hm_tb := hm_tb_in (List.mem_of_getElem? (i := 421) (by rfl)) (by decide +kernel)
set_option maxRecDepth 20000 in
theorem nq_EN_105 : Cond.methodLink "TurnedKeys$End" 105 ny_EN_leave ∈ hm_tb := hm_tb_in (List.mem_of_getElem? (i := 437) (by rfl)) (by decide +kernel)
set_option maxRecDepth 20000 in
theorem nq_EN_94 : Cond.methodLink "TurnedKeys$End" 94 ny_EN_turnReceiving ∈ hm_tb := hm_tb_in (List.mem_of_getElem? (i := 441) (by rfl)) (by decide +kernel)
set_option maxRecDepth 20000 in
theorem nq_LA_23 : Cond.methodLink "TurnedKeysLaw" 23 ny_TK_look ∈ hm_tb := hm_tb_in (List.mem_of_getElem? (i := 445) (by rfl)) (by decide +kernel)
set_option maxRecDepth 20000 in
theorem nq_LA_27 : Cond.methodLink "TurnedKeysLaw" 27 ny_TK_derived ∈ hm_tb := hm_tb_in (List.mem_of_getElem? (i := 449) (by rfl)) (by decide +kernel)
set_option maxRecDepth 20000 in
theorem nq_TK_147 : Cond.methodLink "TurnedKeys" 147 ny_TS_hasDerived ∈ hm_tb := hm_tb_in (List.mem_of_getElem? (i := 453) (by rfl)) (by decide +kernel)
set_option maxRecDepth 20000 in
theorem nq_TS_86 : Cond.methodLink "TurnedKeys$Terms" 86 ny_TS_settle ∈ hm_tb := hm_tb_in (List.mem_of_getElem? (i := 457) (by rfl)) (by decide +kernel)
set_option maxRecDepth 20000 in
theorem nq_TS_94 : Cond.methodLink "TurnedKeys$Terms" 94 ny_AL_get ∈ hm_tb := hm_tb_in (List.mem_of_getElem? (i := 462) (by rfl)) (by decide +kernel)
set_option maxRecDepth 20000 in
theorem nq_TS_98 : Cond.methodLink "TurnedKeys$Terms" 98 ny_TS_canBeMade ∈ hm_tb := hm_tb_in (List.mem_of_getElem? (i := 463) (by rfl)) (by decide +kernel)
set_option maxRecDepth 20000 in
theorem nq_TS_105 : Cond.methodLink "TurnedKeys$Terms" 105 ny_TS_sharedByOne ∈ hm_tb := hm_tb_in (List.mem_of_getElem? (i := 466) (by rfl)) (by decide +kernel)
set_option maxRecDepth 20000 in
theorem nq_TS_89 : Cond.methodLink "TurnedKeys$Terms" 89 ny_TS_isDerived ∈ hm_tb := hm_tb_in (List.mem_of_getElem? (i := 469) (by rfl)) (by decide +kernel)
set_option maxRecDepth 20000 in
theorem nq_TS_101 : Cond.methodLink "TurnedKeys$Terms" 101 ny_TS_give ∈ hm_tb := hm_tb_in (List.mem_of_getElem? (i := 472) (by rfl)) (by decide +kernel)
set_option maxRecDepth 20000 in
theorem nq_TK_151 : Cond.methodLink "TurnedKeys" 151 ny_TK_oneIf ∈ hm_tb := hm_tb_in (List.mem_of_getElem? (i := 473) (by rfl)) (by decide +kernel)
set_option maxRecDepth 20000 in
theorem nq_LA_31 : Cond.methodLink "TurnedKeysLaw" 31 ny_TK_opens ∈ hm_tb := hm_tb_in (List.mem_of_getElem? (i := 476) (by rfl)) (by decide +kernel)
set_option maxRecDepth 20000 in
theorem nq_LA_35 : Cond.methodLink "TurnedKeysLaw" 35 ny_TK_back ∈ hm_tb := hm_tb_in (List.mem_of_getElem? (i := 480) (by rfl)) (by decide +kernel)
set_option maxRecDepth 20000 in
theorem nq_TK_155 : Cond.methodLink "TurnedKeys" 155 ny_TK_replace ∈ hm_tb := hm_tb_in (List.mem_of_getElem? (i := 484) (by rfl)) (by decide +kernel)
set_option maxRecDepth 20000 in
theorem nq_LA_39 : Cond.methodLink "TurnedKeysLaw" 39 ny_TK_keep ∈ hm_tb := hm_tb_in (List.mem_of_getElem? (i := 487) (by rfl)) (by decide +kernel)
set_option maxRecDepth 20000 in
theorem nq_LA_43 : Cond.methodLink "TurnedKeysLaw" 43 ny_TK_end ∈ hm_tb := hm_tb_in (List.mem_of_getElem? (i := 491) (by rfl)) (by decide +kernel)
set_option maxRecDepth 20000 in
theorem nq_LA_47 : Cond.methodLink "TurnedKeysLaw" 47 ny_TK_agree ∈ hm_tb := hm_tb_in (List.mem_of_getElem? (i := 495) (by rfl)) (by decide +kernel)
set_option maxRecDepth 20000 in
theorem nq_LA_52 : Cond.methodLink "TurnedKeysLaw" 52 ny_TK_count ∈ hm_tb := hm_tb_in (List.mem_of_getElem? (i := 499) (by rfl)) (by decide +kernel)
set_option maxRecDepth 20000 in
theorem nq_LA_12 : Cond.methodLink "TurnedKeysLaw" 12 ny_MO_init ∈ hm_tb := hm_tb_in (List.mem_of_getElem? (i := 505) (by rfl)) (by decide +kernel)
set_option maxRecDepth 20000 in
theorem nq_MO_1 : Cond.methodLink "TurnedKeysModel" 1 objectInit ∈ hm_tb := hm_tb_in (List.mem_of_getElem? (i := 508) (by rfl)) (by decide +kernel)
set_option maxRecDepth 20000 in
theorem nq_MO_69 : Cond.methodLink "TurnedKeysModel" 69 ny_MO_draw ∈ hm_tb := hm_tb_in (List.mem_of_getElem? (i := 510) (by rfl)) (by decide +kernel)
set_option maxRecDepth 20000 in
theorem nq_MO_95 : Cond.methodLink "TurnedKeysModel" 95 ny_MO_term ∈ hm_tb := hm_tb_in (List.mem_of_getElem? (i := 514) (by rfl)) (by decide +kernel)
set_option maxRecDepth 20000 in
theorem nq_MO_73 : Cond.methodLink "TurnedKeysModel" 73 ny_MO_publicOf ∈ hm_tb := hm_tb_in (List.mem_of_getElem? (i := 522) (by rfl)) (by decide +kernel)
set_option maxRecDepth 20000 in
theorem nq_MO_80 : Cond.methodLink "TurnedKeysModel" 80 ny_MO_shared ∈ hm_tb := hm_tb_in (List.mem_of_getElem? (i := 526) (by rfl)) (by decide +kernel)
set_option maxRecDepth 20000 in
theorem nq_MO_84 : Cond.methodLink "TurnedKeysModel" 84 ny_MO_mix ∈ hm_tb := hm_tb_in (List.mem_of_getElem? (i := 530) (by rfl)) (by decide +kernel)
set_option maxRecDepth 20000 in
theorem nq_LA_17 : Cond.methodLink "TurnedKeysLaw" 17 ny_MO_send ∈ hm_tb := hm_tb_in (List.mem_of_getElem? (i := 607) (by rfl)) (by decide +kernel)
set_option maxRecDepth 20000 in
theorem nq_MO_115 : Cond.methodLink "TurnedKeysModel" 115 ny_MO_isEnd ∈ hm_tb := hm_tb_in (List.mem_of_getElem? (i := 611) (by rfl)) (by decide +kernel)
set_option maxRecDepth 20000 in
theorem nq_MO_118 : Cond.methodLink "TurnedKeysModel" 118 ny_MO_load ∈ hm_tb := hm_tb_in (List.mem_of_getElem? (i := 614) (by rfl)) (by decide +kernel)
set_option maxRecDepth 20000 in
theorem nq_MO_125 : Cond.methodLink "TurnedKeysModel" 125 ny_MO_headLike ∈ hm_tb := hm_tb_in (List.mem_of_getElem? (i := 618) (by rfl)) (by decide +kernel)
set_option maxRecDepth 20000 in
theorem nq_MO_131 : Cond.methodLink "TurnedKeysModel" 131 ny_MO_give ∈ hm_tb := hm_tb_in (List.mem_of_getElem? (i := 622) (by rfl)) (by decide +kernel)
set_option maxRecDepth 20000 in
theorem nq_MO_134 : Cond.methodLink "TurnedKeysModel" 134 ny_MO_store ∈ hm_tb := hm_tb_in (List.mem_of_getElem? (i := 626) (by rfl)) (by decide +kernel)
set_option maxRecDepth 20000 in
theorem nq_LA_22 : Cond.methodLink "TurnedKeysLaw" 22 ny_MO_take ∈ hm_tb := hm_tb_in (List.mem_of_getElem? (i := 630) (by rfl)) (by decide +kernel)
set_option maxRecDepth 20000 in
theorem nq_MO_146 : Cond.methodLink "TurnedKeysModel" 146 ny_MO_keyFor ∈ hm_tb := hm_tb_in (List.mem_of_getElem? (i := 634) (by rfl)) (by decide +kernel)
set_option maxRecDepth 20000 in
theorem nq_MO_137 : Cond.methodLink "TurnedKeysModel" 137 ny_MO_dropLeft ∈ hm_tb := hm_tb_in (List.mem_of_getElem? (i := 638) (by rfl)) (by decide +kernel)
set_option maxRecDepth 20000 in
theorem nq_MO_143 : Cond.methodLink "TurnedKeysModel" 143 ny_MO_skip ∈ hm_tb := hm_tb_in (List.mem_of_getElem? (i := 642) (by rfl)) (by decide +kernel)
set_option maxRecDepth 20000 in
theorem nq_MO_140 : Cond.methodLink "TurnedKeysModel" 140 ny_MO_stepOn ∈ hm_tb := hm_tb_in (List.mem_of_getElem? (i := 646) (by rfl)) (by decide +kernel)
set_option maxRecDepth 20000 in
theorem nq_LA_26 : Cond.methodLink "TurnedKeysLaw" 26 ny_MO_look ∈ hm_tb := hm_tb_in (List.mem_of_getElem? (i := 650) (by rfl)) (by decide +kernel)
set_option maxRecDepth 20000 in
theorem nq_MO_152 : Cond.methodLink "TurnedKeysModel" 152 ny_MO_shown ∈ hm_tb := hm_tb_in (List.mem_of_getElem? (i := 654) (by rfl)) (by decide +kernel)
set_option maxRecDepth 20000 in
theorem nq_LA_30 : Cond.methodLink "TurnedKeysLaw" 30 ny_MO_derived ∈ hm_tb := hm_tb_in (List.mem_of_getElem? (i := 658) (by rfl)) (by decide +kernel)
set_option maxRecDepth 20000 in
theorem nq_MO_155 : Cond.methodLink "TurnedKeysModel" 155 ny_MO_derive ∈ hm_tb := hm_tb_in (List.mem_of_getElem? (i := 662) (by rfl)) (by decide +kernel)
set_option maxRecDepth 20000 in
theorem nq_MO_109 : Cond.methodLink "TurnedKeysModel" 109 ny_MO_canMake ∈ hm_tb := hm_tb_in (List.mem_of_getElem? (i := 666) (by rfl)) (by decide +kernel)
set_option maxRecDepth 20000 in
theorem nq_MO_99 : Cond.methodLink "TurnedKeysModel" 99 ny_MO_shows ∈ hm_tb := hm_tb_in (List.mem_of_getElem? (i := 670) (by rfl)) (by decide +kernel)
set_option maxRecDepth 20000 in
theorem nq_MO_103 : Cond.methodLink "TurnedKeysModel" 103 ny_MO_has ∈ hm_tb := hm_tb_in (List.mem_of_getElem? (i := 674) (by rfl)) (by decide +kernel)
set_option maxRecDepth 20000 in
theorem nq_MO_106 : Cond.methodLink "TurnedKeysModel" 106 ny_MO_learn ∈ hm_tb := hm_tb_in (List.mem_of_getElem? (i := 678) (by rfl)) (by decide +kernel)
set_option maxRecDepth 20000 in
theorem nq_MO_112 : Cond.methodLink "TurnedKeysModel" 112 ny_MO_open ∈ hm_tb := hm_tb_in (List.mem_of_getElem? (i := 682) (by rfl)) (by decide +kernel)
set_option maxRecDepth 20000 in
theorem nq_LA_34 : Cond.methodLink "TurnedKeysLaw" 34 ny_MO_opens ∈ hm_tb := hm_tb_in (List.mem_of_getElem? (i := 686) (by rfl)) (by decide +kernel)
set_option maxRecDepth 20000 in
theorem nq_LA_38 : Cond.methodLink "TurnedKeysLaw" 38 ny_MO_back ∈ hm_tb := hm_tb_in (List.mem_of_getElem? (i := 690) (by rfl)) (by decide +kernel)
set_option maxRecDepth 20000 in
theorem nq_LA_42 : Cond.methodLink "TurnedKeysLaw" 42 ny_MO_keep ∈ hm_tb := hm_tb_in (List.mem_of_getElem? (i := 694) (by rfl)) (by decide +kernel)
set_option maxRecDepth 20000 in
theorem nq_LA_46 : Cond.methodLink "TurnedKeysLaw" 46 ny_MO_end ∈ hm_tb := hm_tb_in (List.mem_of_getElem? (i := 698) (by rfl)) (by decide +kernel)
set_option maxRecDepth 20000 in
theorem nq_LA_51 : Cond.methodLink "TurnedKeysLaw" 51 ny_MO_agree ∈ hm_tb := hm_tb_in (List.mem_of_getElem? (i := 702) (by rfl)) (by decide +kernel)
set_option maxRecDepth 20000 in
theorem nq_LA_55 : Cond.methodLink "TurnedKeysLaw" 55 ny_MO_count ∈ hm_tb := hm_tb_in (List.mem_of_getElem? (i := 706) (by rfl)) (by decide +kernel)
set_option maxRecDepth 20000 in
theorem nh_WI_WI : Cond.castable "TurnedKeys$Wire" "TurnedKeys$Wire" ∈ lw_tbl := List.mem_of_getElem? (i := 710) (by rfl)
set_option maxRecDepth 20000 in
theorem nh_TE_TE : Cond.castable "TurnedKeys$Term" "TurnedKeys$Term" ∈ lw_tbl := List.mem_of_getElem? (i := 711) (by rfl)
set_option maxRecDepth 20000 in
theorem nh_TK_OJ : Cond.castable "TurnedKeys" "java/lang/Object" ∈ lw_tbl := List.mem_of_getElem? (i := 715) (by rfl)
set_option maxRecDepth 20000 in
theorem nh_TS_OJ : Cond.castable "TurnedKeys$Terms" "java/lang/Object" ∈ lw_tbl := List.mem_of_getElem? (i := 716) (by rfl)
set_option maxRecDepth 20000 in
theorem nh_TE_OJ : Cond.castable "TurnedKeys$Term" "java/lang/Object" ∈ lw_tbl := List.mem_of_getElem? (i := 717) (by rfl)
set_option maxRecDepth 20000 in
theorem nh_EN_OJ : Cond.castable "TurnedKeys$End" "java/lang/Object" ∈ lw_tbl := List.mem_of_getElem? (i := 718) (by rfl)
set_option maxRecDepth 20000 in
theorem nh_MO_OJ : Cond.castable "TurnedKeysModel" "java/lang/Object" ∈ lw_tbl := List.mem_of_getElem? (i := 719) (by rfl)
set_option maxRecDepth 20000 in
theorem nh_WI_OJ : Cond.castable "TurnedKeys$Wire" "java/lang/Object" ∈ lw_tbl := List.mem_of_getElem? (i := 720) (by rfl)
set_option maxRecDepth 20000 in
theorem nh_LK_OJ : Cond.castable "TurnedKeys$LeftKey" "java/lang/Object" ∈ lw_tbl := List.mem_of_getElem? (i := 721) (by rfl)
set_option maxRecDepth 20000 in
theorem nm_OJ_init : Cond.code objectInit ⟨#[0xb1]⟩ 1 none ∈ hm_tb := hm_tb_in (List.mem_of_getElem? (i := 58) (by rfl)) (by decide +kernel)
set_option maxRecDepth 20000 in
theorem nj_OJ_init : Cond.instanceMethod objectInit ∈ hm_tb := hm_tb_in (List.mem_of_getElem? (i := 57) (by rfl)) (by decide +kernel)
end
section
/-! DECODE ROWS, by program -/
theorem nd_TS_init_0 : decode prog_5_method_1_code 0 = .ok (.aload_n 0, 1) := by decide +kernel
theorem nd_TS_init_1 : decode prog_5_method_1_code 1 = .ok (.invokespecial 3, 3) := by decide +kernel
theorem nd_TS_init_4 : decode prog_5_method_1_code 4 = .ok (.aload_n 0, 1) := by decide +kernel
theorem nd_TS_init_5 : decode prog_5_method_1_code 5 = .ok (.new 9, 3) := by decide +kernel
theorem nd_TS_init_8 : decode prog_5_method_1_code 8 = .ok (.dup, 1) := by decide +kernel
theorem nd_TS_init_9 : decode prog_5_method_1_code 9 = .ok (.invokespecial 11, 3) := by decide +kernel
theorem nd_TS_init_12 : decode prog_5_method_1_code 12 = .ok (.putfield 12, 3) := by decide +kernel
theorem nd_TS_init_15 : decode prog_5_method_1_code 15 = .ok (.return_, 1) := by decide +kernel
theorem nd_AL_init_0 : decode prog_16_method_2_code 0 = .ok (.aload_n 0, 1) := by decide +kernel
theorem nd_AL_init_1 : decode prog_16_method_2_code 1 = .ok (.invokespecial 1, 3) := by decide +kernel
theorem nd_AL_init_4 : decode prog_16_method_2_code 4 = .ok (.aload_n 0, 1) := by decide +kernel
theorem nd_AL_init_5 : decode prog_16_method_2_code 5 = .ok (.getstatic 39, 3) := by decide +kernel
theorem nd_AL_init_8 : decode prog_16_method_2_code 8 = .ok (.putfield 9, 3) := by decide +kernel
theorem nd_AL_init_11 : decode prog_16_method_2_code 11 = .ok (.return_, 1) := by decide +kernel
theorem nd_AB_init_0 : decode prog_15_method_1_code 0 = .ok (.aload_n 0, 1) := by decide +kernel
theorem nd_AB_init_1 : decode prog_15_method_1_code 1 = .ok (.invokespecial 1, 3) := by decide +kernel
theorem nd_AB_init_4 : decode prog_15_method_1_code 4 = .ok (.aload_n 0, 1) := by decide +kernel
theorem nd_AB_init_5 : decode prog_15_method_1_code 5 = .ok (.iconst 0, 1) := by decide +kernel
theorem nd_AB_init_6 : decode prog_15_method_1_code 6 = .ok (.putfield 7, 3) := by decide +kernel
theorem nd_AB_init_9 : decode prog_15_method_1_code 9 = .ok (.return_, 1) := by decide +kernel
theorem nd_AC_init_0 : decode prog_14_method_1_code 0 = .ok (.aload_n 0, 1) := by decide +kernel
theorem nd_AC_init_1 : decode prog_14_method_1_code 1 = .ok (.invokespecial 1, 3) := by decide +kernel
theorem nd_AC_init_4 : decode prog_14_method_1_code 4 = .ok (.return_, 1) := by decide +kernel
theorem nd_TS_draw_0 : decode prog_5_method_2_code 0 = .ok (.aload_n 0, 1) := by decide +kernel
theorem nd_TS_draw_1 : decode prog_5_method_2_code 1 = .ok (.dup, 1) := by decide +kernel
theorem nd_TS_draw_2 : decode prog_5_method_2_code 2 = .ok (.getfield 18, 3) := by decide +kernel
theorem nd_TS_draw_5 : decode prog_5_method_2_code 5 = .ok (.iconst 1, 1) := by decide +kernel
theorem nd_TS_draw_6 : decode prog_5_method_2_code 6 = .ok (.iadd, 1) := by decide +kernel
theorem nd_TS_draw_7 : decode prog_5_method_2_code 7 = .ok (.putfield 18, 3) := by decide +kernel
theorem nd_TS_draw_10 : decode prog_5_method_2_code 10 = .ok (.aload_n 0, 1) := by decide +kernel
theorem nd_TS_draw_11 : decode prog_5_method_2_code 11 = .ok (.iconst 0, 1) := by decide +kernel
theorem nd_TS_draw_12 : decode prog_5_method_2_code 12 = .ok (.aconst_null, 1) := by decide +kernel
theorem nd_TS_draw_13 : decode prog_5_method_2_code 13 = .ok (.aconst_null, 1) := by decide +kernel
theorem nd_TS_draw_14 : decode prog_5_method_2_code 14 = .ok (.aconst_null, 1) := by decide +kernel
theorem nd_TS_draw_15 : decode prog_5_method_2_code 15 = .ok (.invokevirtual 22, 3) := by decide +kernel
theorem nd_TS_draw_18 : decode prog_5_method_2_code 18 = .ok (.areturn, 1) := by decide +kernel
theorem nd_TS_added_0 : decode prog_5_method_6_code 0 = .ok (.new 27, 3) := by decide +kernel
theorem nd_TS_added_3 : decode prog_5_method_6_code 3 = .ok (.dup, 1) := by decide +kernel
theorem nd_TS_added_4 : decode prog_5_method_6_code 4 = .ok (.iload_n 1, 1) := by decide +kernel
theorem nd_TS_added_5 : decode prog_5_method_6_code 5 = .ok (.aload_n 0, 1) := by decide +kernel
theorem nd_TS_added_6 : decode prog_5_method_6_code 6 = .ok (.getfield 12, 3) := by decide +kernel
theorem nd_TS_added_9 : decode prog_5_method_6_code 9 = .ok (.invokevirtual 62, 3) := by decide +kernel
theorem nd_TS_added_12 : decode prog_5_method_6_code 12 = .ok (.aload_n 2, 1) := by decide +kernel
theorem nd_TS_added_13 : decode prog_5_method_6_code 13 = .ok (.aload_n 3, 1) := by decide +kernel
theorem nd_TS_added_14 : decode prog_5_method_6_code 14 = .ok (.aload 4, 2) := by decide +kernel
theorem nd_TS_added_16 : decode prog_5_method_6_code 16 = .ok (.invokespecial 66, 3) := by decide +kernel
theorem nd_TS_added_19 : decode prog_5_method_6_code 19 = .ok (.astore 5, 2) := by decide +kernel
theorem nd_TS_added_21 : decode prog_5_method_6_code 21 = .ok (.aload_n 0, 1) := by decide +kernel
theorem nd_TS_added_22 : decode prog_5_method_6_code 22 = .ok (.getfield 12, 3) := by decide +kernel
theorem nd_TS_added_25 : decode prog_5_method_6_code 25 = .ok (.aload 5, 2) := by decide +kernel
theorem nd_TS_added_27 : decode prog_5_method_6_code 27 = .ok (.invokevirtual 69, 3) := by decide +kernel
theorem nd_TS_added_30 : decode prog_5_method_6_code 30 = .ok (.pop, 1) := by decide +kernel
theorem nd_TS_added_31 : decode prog_5_method_6_code 31 = .ok (.aload 5, 2) := by decide +kernel
theorem nd_TS_added_33 : decode prog_5_method_6_code 33 = .ok (.areturn, 1) := by decide +kernel
theorem nd_AL_size_0 : decode prog_16_method_8_code 0 = .ok (.aload_n 0, 1) := by decide +kernel
theorem nd_AL_size_1 : decode prog_16_method_8_code 1 = .ok (.getfield 48, 3) := by decide +kernel
theorem nd_AL_size_4 : decode prog_16_method_8_code 4 = .ok (.ireturn, 1) := by decide +kernel
theorem nd_TE_init_0 : decode prog_4_method_1_code 0 = .ok (.aload_n 0, 1) := by decide +kernel
theorem nd_TE_init_1 : decode prog_4_method_1_code 1 = .ok (.invokespecial 1, 3) := by decide +kernel
theorem nd_TE_init_4 : decode prog_4_method_1_code 4 = .ok (.aload_n 0, 1) := by decide +kernel
theorem nd_TE_init_5 : decode prog_4_method_1_code 5 = .ok (.iload_n 1, 1) := by decide +kernel
theorem nd_TE_init_6 : decode prog_4_method_1_code 6 = .ok (.putfield 7, 3) := by decide +kernel
theorem nd_TE_init_9 : decode prog_4_method_1_code 9 = .ok (.aload_n 0, 1) := by decide +kernel
theorem nd_TE_init_10 : decode prog_4_method_1_code 10 = .ok (.iload_n 2, 1) := by decide +kernel
theorem nd_TE_init_11 : decode prog_4_method_1_code 11 = .ok (.putfield 13, 3) := by decide +kernel
theorem nd_TE_init_14 : decode prog_4_method_1_code 14 = .ok (.aload_n 0, 1) := by decide +kernel
theorem nd_TE_init_15 : decode prog_4_method_1_code 15 = .ok (.aload_n 3, 1) := by decide +kernel
theorem nd_TE_init_16 : decode prog_4_method_1_code 16 = .ok (.putfield 16, 3) := by decide +kernel
theorem nd_TE_init_19 : decode prog_4_method_1_code 19 = .ok (.aload_n 0, 1) := by decide +kernel
theorem nd_TE_init_20 : decode prog_4_method_1_code 20 = .ok (.aload 4, 2) := by decide +kernel
theorem nd_TE_init_22 : decode prog_4_method_1_code 22 = .ok (.putfield 20, 3) := by decide +kernel
theorem nd_TE_init_25 : decode prog_4_method_1_code 25 = .ok (.aload_n 0, 1) := by decide +kernel
theorem nd_TE_init_26 : decode prog_4_method_1_code 26 = .ok (.aload 5, 2) := by decide +kernel
theorem nd_TE_init_28 : decode prog_4_method_1_code 28 = .ok (.putfield 23, 3) := by decide +kernel
theorem nd_TE_init_31 : decode prog_4_method_1_code 31 = .ok (.return_, 1) := by decide +kernel
theorem nd_AL_add_0 : decode prog_16_method_25_code 0 = .ok (.aload_n 0, 1) := by decide +kernel
theorem nd_AL_add_1 : decode prog_16_method_25_code 1 = .ok (.dup, 1) := by decide +kernel
theorem nd_AL_add_2 : decode prog_16_method_25_code 2 = .ok (.getfield 63, 3) := by decide +kernel
theorem nd_AL_add_5 : decode prog_16_method_25_code 5 = .ok (.iconst 1, 1) := by decide +kernel
theorem nd_AL_add_6 : decode prog_16_method_25_code 6 = .ok (.iadd, 1) := by decide +kernel
theorem nd_AL_add_7 : decode prog_16_method_25_code 7 = .ok (.putfield 63, 3) := by decide +kernel
theorem nd_AL_add_10 : decode prog_16_method_25_code 10 = .ok (.aload_n 0, 1) := by decide +kernel
theorem nd_AL_add_11 : decode prog_16_method_25_code 11 = .ok (.aload_n 1, 1) := by decide +kernel
theorem nd_AL_add_12 : decode prog_16_method_25_code 12 = .ok (.aload_n 0, 1) := by decide +kernel
theorem nd_AL_add_13 : decode prog_16_method_25_code 13 = .ok (.getfield 9, 3) := by decide +kernel
theorem nd_AL_add_16 : decode prog_16_method_25_code 16 = .ok (.aload_n 0, 1) := by decide +kernel
theorem nd_AL_add_17 : decode prog_16_method_25_code 17 = .ok (.getfield 48, 3) := by decide +kernel
theorem nd_AL_add_20 : decode prog_16_method_25_code 20 = .ok (.invokevirtual 131, 3) := by decide +kernel
theorem nd_AL_add_23 : decode prog_16_method_25_code 23 = .ok (.iconst 1, 1) := by decide +kernel
theorem nd_AL_add_24 : decode prog_16_method_25_code 24 = .ok (.ireturn, 1) := by decide +kernel
theorem nd_AL_add2_0 : decode prog_16_method_24_code 0 = .ok (.iload_n 3, 1) := by decide +kernel
theorem nd_AL_add2_1 : decode prog_16_method_24_code 1 = .ok (.aload_n 2, 1) := by decide +kernel
theorem nd_AL_add2_2 : decode prog_16_method_24_code 2 = .ok (.arraylength, 1) := by decide +kernel
theorem nd_AL_add2_3 : decode prog_16_method_24_code 3 = .ok (.if_icmp .ne 8, 3) := by decide +kernel
theorem nd_AL_add2_6 : decode prog_16_method_24_code 6 = .ok (.aload_n 0, 1) := by decide +kernel
theorem nd_AL_add2_7 : decode prog_16_method_24_code 7 = .ok (.invokevirtual 129, 3) := by decide +kernel
theorem nd_AL_add2_10 : decode prog_16_method_24_code 10 = .ok (.astore_n 2, 1) := by decide +kernel
theorem nd_AL_add2_11 : decode prog_16_method_24_code 11 = .ok (.aload_n 2, 1) := by decide +kernel
theorem nd_AL_add2_12 : decode prog_16_method_24_code 12 = .ok (.iload_n 3, 1) := by decide +kernel
theorem nd_AL_add2_13 : decode prog_16_method_24_code 13 = .ok (.aload_n 1, 1) := by decide +kernel
theorem nd_AL_add2_14 : decode prog_16_method_24_code 14 = .ok (.aastore, 1) := by decide +kernel
theorem nd_AL_add2_15 : decode prog_16_method_24_code 15 = .ok (.aload_n 0, 1) := by decide +kernel
theorem nd_AL_add2_16 : decode prog_16_method_24_code 16 = .ok (.iload_n 3, 1) := by decide +kernel
theorem nd_AL_add2_17 : decode prog_16_method_24_code 17 = .ok (.iconst 1, 1) := by decide +kernel
theorem nd_AL_add2_18 : decode prog_16_method_24_code 18 = .ok (.iadd, 1) := by decide +kernel
theorem nd_AL_add2_19 : decode prog_16_method_24_code 19 = .ok (.putfield 48, 3) := by decide +kernel
theorem nd_AL_add2_22 : decode prog_16_method_24_code 22 = .ok (.return_, 1) := by decide +kernel
theorem nd_AL_grow_0 : decode prog_16_method_7_code 0 = .ok (.aload_n 0, 1) := by decide +kernel
theorem nd_AL_grow_1 : decode prog_16_method_7_code 1 = .ok (.aload_n 0, 1) := by decide +kernel
theorem nd_AL_grow_2 : decode prog_16_method_7_code 2 = .ok (.getfield 48, 3) := by decide +kernel
theorem nd_AL_grow_5 : decode prog_16_method_7_code 5 = .ok (.iconst 1, 1) := by decide +kernel
theorem nd_AL_grow_6 : decode prog_16_method_7_code 6 = .ok (.iadd, 1) := by decide +kernel
theorem nd_AL_grow_7 : decode prog_16_method_7_code 7 = .ok (.invokevirtual 69, 3) := by decide +kernel
theorem nd_AL_grow_10 : decode prog_16_method_7_code 10 = .ok (.areturn, 1) := by decide +kernel
theorem nd_AL_grow2_0 : decode prog_16_method_6_code 0 = .ok (.aload_n 0, 1) := by decide +kernel
theorem nd_AL_grow2_1 : decode prog_16_method_6_code 1 = .ok (.getfield 9, 3) := by decide +kernel
theorem nd_AL_grow2_4 : decode prog_16_method_6_code 4 = .ok (.arraylength, 1) := by decide +kernel
theorem nd_AL_grow2_5 : decode prog_16_method_6_code 5 = .ok (.istore_n 2, 1) := by decide +kernel
theorem nd_AL_grow2_6 : decode prog_16_method_6_code 6 = .ok (.iload_n 2, 1) := by decide +kernel
theorem nd_AL_grow2_7 : decode prog_16_method_6_code 7 = .ok (.ifCond .gt 13, 3) := by decide +kernel
theorem nd_AL_grow2_10 : decode prog_16_method_6_code 10 = .ok (.aload_n 0, 1) := by decide +kernel
theorem nd_AL_grow2_11 : decode prog_16_method_6_code 11 = .ok (.getfield 9, 3) := by decide +kernel
theorem nd_AL_grow2_14 : decode prog_16_method_6_code 14 = .ok (.getstatic 39, 3) := by decide +kernel
theorem nd_AL_grow2_17 : decode prog_16_method_6_code 17 = .ok (.if_acmp .eq 28, 3) := by decide +kernel
theorem nd_AL_grow2_20 : decode prog_16_method_6_code 20 = .ok (.iload_n 2, 1) := by decide +kernel
theorem nd_AL_grow2_21 : decode prog_16_method_6_code 21 = .ok (.iload_n 1, 1) := by decide +kernel
theorem nd_AL_grow2_22 : decode prog_16_method_6_code 22 = .ok (.iload_n 2, 1) := by decide +kernel
theorem nd_AL_grow2_23 : decode prog_16_method_6_code 23 = .ok (.isub, 1) := by decide +kernel
theorem nd_AL_grow2_24 : decode prog_16_method_6_code 24 = .ok (.iload_n 2, 1) := by decide +kernel
theorem nd_AL_grow2_25 : decode prog_16_method_6_code 25 = .ok (.iconst 1, 1) := by decide +kernel
theorem nd_AL_grow2_26 : decode prog_16_method_6_code 26 = .ok (.ishr, 1) := by decide +kernel
theorem nd_AL_grow2_27 : decode prog_16_method_6_code 27 = .ok (.invokestatic 73, 3) := by decide +kernel
theorem nd_AL_grow2_30 : decode prog_16_method_6_code 30 = .ok (.istore_n 3, 1) := by decide +kernel
theorem nd_AL_grow2_31 : decode prog_16_method_6_code 31 = .ok (.aload_n 0, 1) := by decide +kernel
theorem nd_AL_grow2_32 : decode prog_16_method_6_code 32 = .ok (.aload_n 0, 1) := by decide +kernel
theorem nd_AL_grow2_33 : decode prog_16_method_6_code 33 = .ok (.getfield 9, 3) := by decide +kernel
theorem nd_AL_grow2_36 : decode prog_16_method_6_code 36 = .ok (.iload_n 3, 1) := by decide +kernel
theorem nd_AL_grow2_37 : decode prog_16_method_6_code 37 = .ok (.invokestatic 66, 3) := by decide +kernel
theorem nd_AL_grow2_40 : decode prog_16_method_6_code 40 = .ok (.dup_x1, 1) := by decide +kernel
theorem nd_AL_grow2_41 : decode prog_16_method_6_code 41 = .ok (.putfield 9, 3) := by decide +kernel
theorem nd_AL_grow2_44 : decode prog_16_method_6_code 44 = .ok (.areturn, 1) := by decide +kernel
theorem nd_AL_grow2_45 : decode prog_16_method_6_code 45 = .ok (.aload_n 0, 1) := by decide +kernel
theorem nd_AL_grow2_46 : decode prog_16_method_6_code 46 = .ok (.bipush 10, 2) := by decide +kernel
theorem nd_AL_grow2_48 : decode prog_16_method_6_code 48 = .ok (.iload_n 1, 1) := by decide +kernel
theorem nd_AL_grow2_49 : decode prog_16_method_6_code 49 = .ok (.invokestatic 79, 3) := by decide +kernel
theorem nd_AL_grow2_52 : decode prog_16_method_6_code 52 = .ok (.anewarray 7, 3) := by decide +kernel
theorem nd_AL_grow2_55 : decode prog_16_method_6_code 55 = .ok (.dup_x1, 1) := by decide +kernel
theorem nd_AL_grow2_56 : decode prog_16_method_6_code 56 = .ok (.putfield 9, 3) := by decide +kernel
theorem nd_AL_grow2_59 : decode prog_16_method_6_code 59 = .ok (.areturn, 1) := by decide +kernel
theorem nd_AS_newLength_0 : decode prog_23_method_27_code 0 = .ok (.iload_n 0, 1) := by decide +kernel
theorem nd_AS_newLength_1 : decode prog_23_method_27_code 1 = .ok (.iload_n 1, 1) := by decide +kernel
theorem nd_AS_newLength_2 : decode prog_23_method_27_code 2 = .ok (.iload_n 2, 1) := by decide +kernel
theorem nd_AS_newLength_3 : decode prog_23_method_27_code 3 = .ok (.invokestatic 194, 3) := by decide +kernel
theorem nd_AS_newLength_6 : decode prog_23_method_27_code 6 = .ok (.iadd, 1) := by decide +kernel
theorem nd_AS_newLength_7 : decode prog_23_method_27_code 7 = .ok (.istore_n 3, 1) := by decide +kernel
theorem nd_AS_newLength_8 : decode prog_23_method_27_code 8 = .ok (.iconst 0, 1) := by decide +kernel
theorem nd_AS_newLength_9 : decode prog_23_method_27_code 9 = .ok (.iload_n 3, 1) := by decide +kernel
theorem nd_AS_newLength_10 : decode prog_23_method_27_code 10 = .ok (.if_icmp .ge 11, 3) := by decide +kernel
theorem nd_AS_newLength_13 : decode prog_23_method_27_code 13 = .ok (.iload_n 3, 1) := by decide +kernel
theorem nd_AS_newLength_14 : decode prog_23_method_27_code 14 = .ok (.ldc 200, 2) := by decide +kernel
theorem nd_AS_newLength_16 : decode prog_23_method_27_code 16 = .ok (.if_icmp .gt 5, 3) := by decide +kernel
theorem nd_AS_newLength_19 : decode prog_23_method_27_code 19 = .ok (.iload_n 3, 1) := by decide +kernel
theorem nd_AS_newLength_20 : decode prog_23_method_27_code 20 = .ok (.ireturn, 1) := by decide +kernel
theorem nd_AS_newLength_21 : decode prog_23_method_27_code 21 = .ok (.iload_n 0, 1) := by decide +kernel
theorem nd_AS_newLength_22 : decode prog_23_method_27_code 22 = .ok (.iload_n 1, 1) := by decide +kernel
theorem nd_AS_newLength_23 : decode prog_23_method_27_code 23 = .ok (.invokestatic 201, 3) := by decide +kernel
theorem nd_AS_newLength_26 : decode prog_23_method_27_code 26 = .ok (.ireturn, 1) := by decide +kernel
theorem nd_MA_max_0 : decode prog_12_method_65_code 0 = .ok (.iload_n 0, 1) := by decide +kernel
theorem nd_MA_max_1 : decode prog_12_method_65_code 1 = .ok (.iload_n 1, 1) := by decide +kernel
theorem nd_MA_max_2 : decode prog_12_method_65_code 2 = .ok (.if_icmp .lt 7, 3) := by decide +kernel
theorem nd_MA_max_5 : decode prog_12_method_65_code 5 = .ok (.iload_n 0, 1) := by decide +kernel
theorem nd_MA_max_6 : decode prog_12_method_65_code 6 = .ok (.goto 4, 3) := by decide +kernel
theorem nd_MA_max_9 : decode prog_12_method_65_code 9 = .ok (.iload_n 1, 1) := by decide +kernel
theorem nd_MA_max_10 : decode prog_12_method_65_code 10 = .ok (.ireturn, 1) := by decide +kernel
theorem nd_AS_hugeLength_0 : decode prog_23_method_28_code 0 = .ok (.iload_n 0, 1) := by decide +kernel
theorem nd_AS_hugeLength_1 : decode prog_23_method_28_code 1 = .ok (.iload_n 1, 1) := by decide +kernel
theorem nd_AS_hugeLength_2 : decode prog_23_method_28_code 2 = .ok (.iadd, 1) := by decide +kernel
theorem nd_AS_hugeLength_3 : decode prog_23_method_28_code 3 = .ok (.istore_n 2, 1) := by decide +kernel
theorem nd_AS_hugeLength_4 : decode prog_23_method_28_code 4 = .ok (.iload_n 2, 1) := by decide +kernel
theorem nd_AS_hugeLength_5 : decode prog_23_method_28_code 5 = .ok (.ifCond .ge 44, 3) := by decide +kernel
theorem nd_AS_hugeLength_8 : decode prog_23_method_28_code 8 = .ok (.new 204, 3) := by decide +kernel
theorem nd_AS_hugeLength_11 : decode prog_23_method_28_code 11 = .ok (.dup, 1) := by decide +kernel
theorem nd_AS_hugeLength_12 : decode prog_23_method_28_code 12 = .ok (.new 89, 3) := by decide +kernel
theorem nd_AS_hugeLength_15 : decode prog_23_method_28_code 15 = .ok (.dup, 1) := by decide +kernel
theorem nd_AS_hugeLength_16 : decode prog_23_method_28_code 16 = .ok (.invokespecial 91, 3) := by decide +kernel
theorem nd_AS_hugeLength_19 : decode prog_23_method_28_code 19 = .ok (.ldc 206, 2) := by decide +kernel
theorem nd_AS_hugeLength_21 : decode prog_23_method_28_code 21 = .ok (.invokevirtual 94, 3) := by decide +kernel
theorem nd_AS_hugeLength_24 : decode prog_23_method_28_code 24 = .ok (.iload_n 0, 1) := by decide +kernel
theorem nd_AS_hugeLength_25 : decode prog_23_method_28_code 25 = .ok (.invokevirtual 98, 3) := by decide +kernel
theorem nd_AS_hugeLength_28 : decode prog_23_method_28_code 28 = .ok (.ldc 208, 2) := by decide +kernel
theorem nd_AS_hugeLength_30 : decode prog_23_method_28_code 30 = .ok (.invokevirtual 94, 3) := by decide +kernel
theorem nd_AS_hugeLength_33 : decode prog_23_method_28_code 33 = .ok (.iload_n 1, 1) := by decide +kernel
theorem nd_AS_hugeLength_34 : decode prog_23_method_28_code 34 = .ok (.invokevirtual 98, 3) := by decide +kernel
theorem nd_AS_hugeLength_37 : decode prog_23_method_28_code 37 = .ok (.ldc 210, 2) := by decide +kernel
theorem nd_AS_hugeLength_39 : decode prog_23_method_28_code 39 = .ok (.invokevirtual 94, 3) := by decide +kernel
theorem nd_AS_hugeLength_42 : decode prog_23_method_28_code 42 = .ok (.invokevirtual 101, 3) := by decide +kernel
theorem nd_AS_hugeLength_45 : decode prog_23_method_28_code 45 = .ok (.invokespecial 212, 3) := by decide +kernel
theorem nd_AS_hugeLength_48 : decode prog_23_method_28_code 48 = .ok (.athrow, 1) := by decide +kernel
theorem nd_AS_hugeLength_49 : decode prog_23_method_28_code 49 = .ok (.iload_n 2, 1) := by decide +kernel
theorem nd_AS_hugeLength_50 : decode prog_23_method_28_code 50 = .ok (.ldc 200, 2) := by decide +kernel
theorem nd_AS_hugeLength_52 : decode prog_23_method_28_code 52 = .ok (.if_icmp .gt 6, 3) := by decide +kernel
theorem nd_AS_hugeLength_55 : decode prog_23_method_28_code 55 = .ok (.ldc 200, 2) := by decide +kernel
theorem nd_AS_hugeLength_57 : decode prog_23_method_28_code 57 = .ok (.ireturn, 1) := by decide +kernel
theorem nd_AS_hugeLength_58 : decode prog_23_method_28_code 58 = .ok (.iload_n 2, 1) := by decide +kernel
theorem nd_AS_hugeLength_59 : decode prog_23_method_28_code 59 = .ok (.ireturn, 1) := by decide +kernel
theorem nd_AR_copyOf_0 : decode prog_17_method_119_code 0 = .ok (.aload_n 0, 1) := by decide +kernel
theorem nd_AR_copyOf_1 : decode prog_17_method_119_code 1 = .ok (.iload_n 1, 1) := by decide +kernel
theorem nd_AR_copyOf_2 : decode prog_17_method_119_code 2 = .ok (.aload_n 0, 1) := by decide +kernel
theorem nd_AR_copyOf_3 : decode prog_17_method_119_code 3 = .ok (.invokevirtual 86, 3) := by decide +kernel
theorem nd_AR_copyOf_6 : decode prog_17_method_119_code 6 = .ok (.invokestatic 300, 3) := by decide +kernel
theorem nd_AR_copyOf_9 : decode prog_17_method_119_code 9 = .ok (.areturn, 1) := by decide +kernel
theorem nd_AR_copyOf2_0 : decode prog_17_method_120_code 0 = .ok (.aload_n 2, 1) := by decide +kernel
theorem nd_AR_copyOf2_1 : decode prog_17_method_120_code 1 = .ok (.ldc 110, 2) := by decide +kernel
theorem nd_AR_copyOf2_3 : decode prog_17_method_120_code 3 = .ok (.if_acmp .ne 10, 3) := by decide +kernel
theorem nd_AR_copyOf2_6 : decode prog_17_method_120_code 6 = .ok (.iload_n 1, 1) := by decide +kernel
theorem nd_AR_copyOf2_7 : decode prog_17_method_120_code 7 = .ok (.anewarray 2, 3) := by decide +kernel
theorem nd_AR_copyOf2_10 : decode prog_17_method_120_code 10 = .ok (.goto 14, 3) := by decide +kernel
theorem nd_AR_copyOf2_13 : decode prog_17_method_120_code 13 = .ok (.aload_n 2, 1) := by decide +kernel
theorem nd_AR_copyOf2_14 : decode prog_17_method_120_code 14 = .ok (.invokevirtual 90, 3) := by decide +kernel
theorem nd_AR_copyOf2_17 : decode prog_17_method_120_code 17 = .ok (.iload_n 1, 1) := by decide +kernel
theorem nd_AR_copyOf2_18 : decode prog_17_method_120_code 18 = .ok (.invokestatic 95, 3) := by decide +kernel
theorem nd_AR_copyOf2_21 : decode prog_17_method_120_code 21 = .ok (.checkcast 110, 3) := by decide +kernel
theorem nd_AR_copyOf2_24 : decode prog_17_method_120_code 24 = .ok (.astore_n 3, 1) := by decide +kernel
theorem nd_AR_copyOf2_25 : decode prog_17_method_120_code 25 = .ok (.aload_n 0, 1) := by decide +kernel
theorem nd_AR_copyOf2_26 : decode prog_17_method_120_code 26 = .ok (.iconst 0, 1) := by decide +kernel
theorem nd_AR_copyOf2_27 : decode prog_17_method_120_code 27 = .ok (.aload_n 3, 1) := by decide +kernel
theorem nd_AR_copyOf2_28 : decode prog_17_method_120_code 28 = .ok (.iconst 0, 1) := by decide +kernel
theorem nd_AR_copyOf2_29 : decode prog_17_method_120_code 29 = .ok (.aload_n 0, 1) := by decide +kernel
theorem nd_AR_copyOf2_30 : decode prog_17_method_120_code 30 = .ok (.arraylength, 1) := by decide +kernel
theorem nd_AR_copyOf2_31 : decode prog_17_method_120_code 31 = .ok (.iload_n 1, 1) := by decide +kernel
theorem nd_AR_copyOf2_32 : decode prog_17_method_120_code 32 = .ok (.invokestatic 304, 3) := by decide +kernel
theorem nd_AR_copyOf2_35 : decode prog_17_method_120_code 35 = .ok (.invokestatic 150, 3) := by decide +kernel
theorem nd_AR_copyOf2_38 : decode prog_17_method_120_code 38 = .ok (.aload_n 3, 1) := by decide +kernel
theorem nd_AR_copyOf2_39 : decode prog_17_method_120_code 39 = .ok (.areturn, 1) := by decide +kernel
theorem nd_MA_min_0 : decode prog_12_method_69_code 0 = .ok (.iload_n 0, 1) := by decide +kernel
theorem nd_MA_min_1 : decode prog_12_method_69_code 1 = .ok (.iload_n 1, 1) := by decide +kernel
theorem nd_MA_min_2 : decode prog_12_method_69_code 2 = .ok (.if_icmp .gt 7, 3) := by decide +kernel
theorem nd_MA_min_5 : decode prog_12_method_69_code 5 = .ok (.iload_n 0, 1) := by decide +kernel
theorem nd_MA_min_6 : decode prog_12_method_69_code 6 = .ok (.goto 4, 3) := by decide +kernel
theorem nd_MA_min_9 : decode prog_12_method_69_code 9 = .ok (.iload_n 1, 1) := by decide +kernel
theorem nd_MA_min_10 : decode prog_12_method_69_code 10 = .ok (.ireturn, 1) := by decide +kernel
theorem nd_TS_publicOf_0 : decode prog_5_method_3_code 0 = .ok (.aload_n 1, 1) := by decide +kernel
theorem nd_TS_publicOf_1 : decode prog_5_method_3_code 1 = .ok (.ifnonnull 5, 3) := by decide +kernel
theorem nd_TS_publicOf_4 : decode prog_5_method_3_code 4 = .ok (.aconst_null, 1) := by decide +kernel
theorem nd_TS_publicOf_5 : decode prog_5_method_3_code 5 = .ok (.areturn, 1) := by decide +kernel
theorem nd_TS_publicOf_6 : decode prog_5_method_3_code 6 = .ok (.aload_n 1, 1) := by decide +kernel
theorem nd_TS_publicOf_7 : decode prog_5_method_3_code 7 = .ok (.getfield 26, 3) := by decide +kernel
theorem nd_TS_publicOf_10 : decode prog_5_method_3_code 10 = .ok (.ifnonnull 15, 3) := by decide +kernel
theorem nd_TS_publicOf_13 : decode prog_5_method_3_code 13 = .ok (.aload_n 1, 1) := by decide +kernel
theorem nd_TS_publicOf_14 : decode prog_5_method_3_code 14 = .ok (.aload_n 0, 1) := by decide +kernel
theorem nd_TS_publicOf_15 : decode prog_5_method_3_code 15 = .ok (.iconst 1, 1) := by decide +kernel
theorem nd_TS_publicOf_16 : decode prog_5_method_3_code 16 = .ok (.aload_n 1, 1) := by decide +kernel
theorem nd_TS_publicOf_17 : decode prog_5_method_3_code 17 = .ok (.aconst_null, 1) := by decide +kernel
theorem nd_TS_publicOf_18 : decode prog_5_method_3_code 18 = .ok (.aconst_null, 1) := by decide +kernel
theorem nd_TS_publicOf_19 : decode prog_5_method_3_code 19 = .ok (.invokevirtual 22, 3) := by decide +kernel
theorem nd_TS_publicOf_22 : decode prog_5_method_3_code 22 = .ok (.putfield 26, 3) := by decide +kernel
theorem nd_TS_publicOf_25 : decode prog_5_method_3_code 25 = .ok (.aload_n 1, 1) := by decide +kernel
theorem nd_TS_publicOf_26 : decode prog_5_method_3_code 26 = .ok (.getfield 26, 3) := by decide +kernel
theorem nd_TS_publicOf_29 : decode prog_5_method_3_code 29 = .ok (.areturn, 1) := by decide +kernel
theorem nd_TS_sharedOf_0 : decode prog_5_method_4_code 0 = .ok (.aload_n 1, 1) := by decide +kernel
theorem nd_TS_sharedOf_1 : decode prog_5_method_4_code 1 = .ok (.ifnull 14, 3) := by decide +kernel
theorem nd_TS_sharedOf_4 : decode prog_5_method_4_code 4 = .ok (.aload_n 2, 1) := by decide +kernel
theorem nd_TS_sharedOf_5 : decode prog_5_method_4_code 5 = .ok (.ifnull 10, 3) := by decide +kernel
theorem nd_TS_sharedOf_8 : decode prog_5_method_4_code 8 = .ok (.aload_n 2, 1) := by decide +kernel
theorem nd_TS_sharedOf_9 : decode prog_5_method_4_code 9 = .ok (.getfield 32, 3) := by decide +kernel
theorem nd_TS_sharedOf_12 : decode prog_5_method_4_code 12 = .ok (.ifnonnull 5, 3) := by decide +kernel
theorem nd_TS_sharedOf_15 : decode prog_5_method_4_code 15 = .ok (.aconst_null, 1) := by decide +kernel
theorem nd_TS_sharedOf_16 : decode prog_5_method_4_code 16 = .ok (.areturn, 1) := by decide +kernel
theorem nd_TS_sharedOf_17 : decode prog_5_method_4_code 17 = .ok (.aload_n 0, 1) := by decide +kernel
theorem nd_TS_sharedOf_18 : decode prog_5_method_4_code 18 = .ok (.aload_n 1, 1) := by decide +kernel
theorem nd_TS_sharedOf_19 : decode prog_5_method_4_code 19 = .ok (.invokevirtual 35, 3) := by decide +kernel
theorem nd_TS_sharedOf_22 : decode prog_5_method_4_code 22 = .ok (.pop, 1) := by decide +kernel
theorem nd_TS_sharedOf_23 : decode prog_5_method_4_code 23 = .ok (.aload_n 2, 1) := by decide +kernel
theorem nd_TS_sharedOf_24 : decode prog_5_method_4_code 24 = .ok (.getfield 32, 3) := by decide +kernel
theorem nd_TS_sharedOf_27 : decode prog_5_method_4_code 27 = .ok (.astore_n 3, 1) := by decide +kernel
theorem nd_TS_sharedOf_28 : decode prog_5_method_4_code 28 = .ok (.aload_n 1, 1) := by decide +kernel
theorem nd_TS_sharedOf_29 : decode prog_5_method_4_code 29 = .ok (.getfield 39, 3) := by decide +kernel
theorem nd_TS_sharedOf_32 : decode prog_5_method_4_code 32 = .ok (.aload_n 3, 1) := by decide +kernel
theorem nd_TS_sharedOf_33 : decode prog_5_method_4_code 33 = .ok (.getfield 39, 3) := by decide +kernel
theorem nd_TS_sharedOf_36 : decode prog_5_method_4_code 36 = .ok (.if_icmp .ge 13, 3) := by decide +kernel
theorem nd_TS_sharedOf_39 : decode prog_5_method_4_code 39 = .ok (.aload_n 0, 1) := by decide +kernel
theorem nd_TS_sharedOf_40 : decode prog_5_method_4_code 40 = .ok (.iconst 2, 1) := by decide +kernel
theorem nd_TS_sharedOf_41 : decode prog_5_method_4_code 41 = .ok (.aload_n 1, 1) := by decide +kernel
theorem nd_TS_sharedOf_42 : decode prog_5_method_4_code 42 = .ok (.aload_n 3, 1) := by decide +kernel
theorem nd_TS_sharedOf_43 : decode prog_5_method_4_code 43 = .ok (.invokevirtual 42, 3) := by decide +kernel
theorem nd_TS_sharedOf_46 : decode prog_5_method_4_code 46 = .ok (.goto 10, 3) := by decide +kernel
theorem nd_TS_sharedOf_49 : decode prog_5_method_4_code 49 = .ok (.aload_n 0, 1) := by decide +kernel
theorem nd_TS_sharedOf_50 : decode prog_5_method_4_code 50 = .ok (.iconst 2, 1) := by decide +kernel
theorem nd_TS_sharedOf_51 : decode prog_5_method_4_code 51 = .ok (.aload_n 3, 1) := by decide +kernel
theorem nd_TS_sharedOf_52 : decode prog_5_method_4_code 52 = .ok (.aload_n 1, 1) := by decide +kernel
theorem nd_TS_sharedOf_53 : decode prog_5_method_4_code 53 = .ok (.invokevirtual 42, 3) := by decide +kernel
theorem nd_TS_sharedOf_56 : decode prog_5_method_4_code 56 = .ok (.areturn, 1) := by decide +kernel
theorem nd_TS_made_0 : decode prog_5_method_5_code 0 = .ok (.aload_n 2, 1) := by decide +kernel
theorem nd_TS_made_1 : decode prog_5_method_5_code 1 = .ok (.aload_n 3, 1) := by decide +kernel
theorem nd_TS_made_2 : decode prog_5_method_5_code 2 = .ok (.invokestatic 46, 3) := by decide +kernel
theorem nd_TS_made_5 : decode prog_5_method_5_code 5 = .ok (.astore 4, 2) := by decide +kernel
theorem nd_TS_made_7 : decode prog_5_method_5_code 7 = .ok (.aload 4, 2) := by decide +kernel
theorem nd_TS_made_9 : decode prog_5_method_5_code 9 = .ok (.ifnonnull 5, 3) := by decide +kernel
theorem nd_TS_made_12 : decode prog_5_method_5_code 12 = .ok (.aconst_null, 1) := by decide +kernel
theorem nd_TS_made_13 : decode prog_5_method_5_code 13 = .ok (.areturn, 1) := by decide +kernel
theorem nd_TS_made_14 : decode prog_5_method_5_code 14 = .ok (.aload 4, 2) := by decide +kernel
theorem nd_TS_made_16 : decode prog_5_method_5_code 16 = .ok (.getfield 50, 3) := by decide +kernel
theorem nd_TS_made_19 : decode prog_5_method_5_code 19 = .ok (.astore 5, 2) := by decide +kernel
theorem nd_TS_made_21 : decode prog_5_method_5_code 21 = .ok (.aload 5, 2) := by decide +kernel
theorem nd_TS_made_23 : decode prog_5_method_5_code 23 = .ok (.ifnull 43, 3) := by decide +kernel
theorem nd_TS_made_26 : decode prog_5_method_5_code 26 = .ok (.aload 5, 2) := by decide +kernel
theorem nd_TS_made_28 : decode prog_5_method_5_code 28 = .ok (.getfield 53, 3) := by decide +kernel
theorem nd_TS_made_31 : decode prog_5_method_5_code 31 = .ok (.iload_n 1, 1) := by decide +kernel
theorem nd_TS_made_32 : decode prog_5_method_5_code 32 = .ok (.if_icmp .ne 24, 3) := by decide +kernel
theorem nd_TS_made_35 : decode prog_5_method_5_code 35 = .ok (.aload 5, 2) := by decide +kernel
theorem nd_TS_made_37 : decode prog_5_method_5_code 37 = .ok (.getfield 32, 3) := by decide +kernel
theorem nd_TS_made_40 : decode prog_5_method_5_code 40 = .ok (.aload_n 2, 1) := by decide +kernel
theorem nd_TS_made_41 : decode prog_5_method_5_code 41 = .ok (.if_acmp .ne 15, 3) := by decide +kernel
theorem nd_TS_made_44 : decode prog_5_method_5_code 44 = .ok (.aload 5, 2) := by decide +kernel
theorem nd_TS_made_46 : decode prog_5_method_5_code 46 = .ok (.getfield 56, 3) := by decide +kernel
theorem nd_TS_made_49 : decode prog_5_method_5_code 49 = .ok (.aload_n 3, 1) := by decide +kernel
theorem nd_TS_made_50 : decode prog_5_method_5_code 50 = .ok (.if_acmp .ne 6, 3) := by decide +kernel
theorem nd_TS_made_53 : decode prog_5_method_5_code 53 = .ok (.aload 5, 2) := by decide +kernel
theorem nd_TS_made_55 : decode prog_5_method_5_code 55 = .ok (.areturn, 1) := by decide +kernel
theorem nd_TS_made_56 : decode prog_5_method_5_code 56 = .ok (.aload 5, 2) := by decide +kernel
theorem nd_TS_made_58 : decode prog_5_method_5_code 58 = .ok (.getfield 59, 3) := by decide +kernel
theorem nd_TS_made_61 : decode prog_5_method_5_code 61 = .ok (.astore 5, 2) := by decide +kernel
theorem nd_TS_made_63 : decode prog_5_method_5_code 63 = .ok (.goto (-42), 3) := by decide +kernel
theorem nd_TS_made_66 : decode prog_5_method_5_code 66 = .ok (.aload 4, 2) := by decide +kernel
theorem nd_TS_made_68 : decode prog_5_method_5_code 68 = .ok (.aload_n 0, 1) := by decide +kernel
theorem nd_TS_made_69 : decode prog_5_method_5_code 69 = .ok (.iload_n 1, 1) := by decide +kernel
theorem nd_TS_made_70 : decode prog_5_method_5_code 70 = .ok (.aload_n 2, 1) := by decide +kernel
theorem nd_TS_made_71 : decode prog_5_method_5_code 71 = .ok (.aload_n 3, 1) := by decide +kernel
theorem nd_TS_made_72 : decode prog_5_method_5_code 72 = .ok (.aload 4, 2) := by decide +kernel
theorem nd_TS_made_74 : decode prog_5_method_5_code 74 = .ok (.getfield 50, 3) := by decide +kernel
theorem nd_TS_made_77 : decode prog_5_method_5_code 77 = .ok (.invokevirtual 22, 3) := by decide +kernel
theorem nd_TS_made_80 : decode prog_5_method_5_code 80 = .ok (.putfield 50, 3) := by decide +kernel
theorem nd_TS_made_83 : decode prog_5_method_5_code 83 = .ok (.aload 4, 2) := by decide +kernel
theorem nd_TS_made_85 : decode prog_5_method_5_code 85 = .ok (.getfield 50, 3) := by decide +kernel
theorem nd_TS_made_88 : decode prog_5_method_5_code 88 = .ok (.areturn, 1) := by decide +kernel
theorem nd_TS_younger_0 : decode prog_5_method_7_code 0 = .ok (.aload_n 0, 1) := by decide +kernel
theorem nd_TS_younger_1 : decode prog_5_method_7_code 1 = .ok (.ifnull 7, 3) := by decide +kernel
theorem nd_TS_younger_4 : decode prog_5_method_7_code 4 = .ok (.aload_n 1, 1) := by decide +kernel
theorem nd_TS_younger_5 : decode prog_5_method_7_code 5 = .ok (.ifnonnull 13, 3) := by decide +kernel
theorem nd_TS_younger_8 : decode prog_5_method_7_code 8 = .ok (.aload_n 0, 1) := by decide +kernel
theorem nd_TS_younger_9 : decode prog_5_method_7_code 9 = .ok (.ifnonnull 7, 3) := by decide +kernel
theorem nd_TS_younger_12 : decode prog_5_method_7_code 12 = .ok (.aload_n 1, 1) := by decide +kernel
theorem nd_TS_younger_13 : decode prog_5_method_7_code 13 = .ok (.goto 4, 3) := by decide +kernel
theorem nd_TS_younger_16 : decode prog_5_method_7_code 16 = .ok (.aload_n 0, 1) := by decide +kernel
theorem nd_TS_younger_17 : decode prog_5_method_7_code 17 = .ok (.areturn, 1) := by decide +kernel
theorem nd_TS_younger_18 : decode prog_5_method_7_code 18 = .ok (.aload_n 0, 1) := by decide +kernel
theorem nd_TS_younger_19 : decode prog_5_method_7_code 19 = .ok (.getfield 39, 3) := by decide +kernel
theorem nd_TS_younger_22 : decode prog_5_method_7_code 22 = .ok (.aload_n 1, 1) := by decide +kernel
theorem nd_TS_younger_23 : decode prog_5_method_7_code 23 = .ok (.getfield 39, 3) := by decide +kernel
theorem nd_TS_younger_26 : decode prog_5_method_7_code 26 = .ok (.if_icmp .le 7, 3) := by decide +kernel
theorem nd_TS_younger_29 : decode prog_5_method_7_code 29 = .ok (.aload_n 0, 1) := by decide +kernel
theorem nd_TS_younger_30 : decode prog_5_method_7_code 30 = .ok (.goto 4, 3) := by decide +kernel
theorem nd_TS_younger_33 : decode prog_5_method_7_code 33 = .ok (.aload_n 1, 1) := by decide +kernel
theorem nd_TS_younger_34 : decode prog_5_method_7_code 34 = .ok (.areturn, 1) := by decide +kernel
theorem nd_WI_init_0 : decode prog_6_method_1_code 0 = .ok (.aload_n 0, 1) := by decide +kernel
theorem nd_WI_init_1 : decode prog_6_method_1_code 1 = .ok (.invokespecial 1, 3) := by decide +kernel
theorem nd_WI_init_4 : decode prog_6_method_1_code 4 = .ok (.aload_n 0, 1) := by decide +kernel
theorem nd_WI_init_5 : decode prog_6_method_1_code 5 = .ok (.iload_n 1, 1) := by decide +kernel
theorem nd_WI_init_6 : decode prog_6_method_1_code 6 = .ok (.putfield 7, 3) := by decide +kernel
theorem nd_WI_init_9 : decode prog_6_method_1_code 9 = .ok (.aload_n 0, 1) := by decide +kernel
theorem nd_WI_init_10 : decode prog_6_method_1_code 10 = .ok (.iload_n 2, 1) := by decide +kernel
theorem nd_WI_init_11 : decode prog_6_method_1_code 11 = .ok (.putfield 13, 3) := by decide +kernel
theorem nd_WI_init_14 : decode prog_6_method_1_code 14 = .ok (.aload_n 0, 1) := by decide +kernel
theorem nd_WI_init_15 : decode prog_6_method_1_code 15 = .ok (.iload_n 3, 1) := by decide +kernel
theorem nd_WI_init_16 : decode prog_6_method_1_code 16 = .ok (.putfield 16, 3) := by decide +kernel
theorem nd_WI_init_19 : decode prog_6_method_1_code 19 = .ok (.aload_n 0, 1) := by decide +kernel
theorem nd_WI_init_20 : decode prog_6_method_1_code 20 = .ok (.aload 4, 2) := by decide +kernel
theorem nd_WI_init_22 : decode prog_6_method_1_code 22 = .ok (.putfield 19, 3) := by decide +kernel
theorem nd_WI_init_25 : decode prog_6_method_1_code 25 = .ok (.aload_n 0, 1) := by decide +kernel
theorem nd_WI_init_26 : decode prog_6_method_1_code 26 = .ok (.aload 5, 2) := by decide +kernel
theorem nd_WI_init_28 : decode prog_6_method_1_code 28 = .ok (.putfield 23, 3) := by decide +kernel
theorem nd_WI_init_31 : decode prog_6_method_1_code 31 = .ok (.aload_n 0, 1) := by decide +kernel
theorem nd_WI_init_32 : decode prog_6_method_1_code 32 = .ok (.aload 6, 2) := by decide +kernel
theorem nd_WI_init_34 : decode prog_6_method_1_code 34 = .ok (.putfield 26, 3) := by decide +kernel
theorem nd_WI_init_37 : decode prog_6_method_1_code 37 = .ok (.return_, 1) := by decide +kernel
theorem nd_TS_give_0 : decode prog_5_method_8_code 0 = .ok (.aload_n 1, 1) := by decide +kernel
theorem nd_TS_give_1 : decode prog_5_method_8_code 1 = .ok (.ifnonnull 5, 3) := by decide +kernel
theorem nd_TS_give_4 : decode prog_5_method_8_code 4 = .ok (.iconst 0, 1) := by decide +kernel
theorem nd_TS_give_5 : decode prog_5_method_8_code 5 = .ok (.ireturn, 1) := by decide +kernel
theorem nd_TS_give_6 : decode prog_5_method_8_code 6 = .ok (.aload_n 1, 1) := by decide +kernel
theorem nd_TS_give_7 : decode prog_5_method_8_code 7 = .ok (.getfield 73, 3) := by decide +kernel
theorem nd_TS_give_10 : decode prog_5_method_8_code 10 = .ok (.ifCond .ne 25, 3) := by decide +kernel
theorem nd_TS_give_13 : decode prog_5_method_8_code 13 = .ok (.aload_n 1, 1) := by decide +kernel
theorem nd_TS_give_14 : decode prog_5_method_8_code 14 = .ok (.iconst 1, 1) := by decide +kernel
theorem nd_TS_give_15 : decode prog_5_method_8_code 15 = .ok (.putfield 73, 3) := by decide +kernel
theorem nd_TS_give_18 : decode prog_5_method_8_code 18 = .ok (.aload_n 0, 1) := by decide +kernel
theorem nd_TS_give_19 : decode prog_5_method_8_code 19 = .ok (.aload_n 0, 1) := by decide +kernel
theorem nd_TS_give_20 : decode prog_5_method_8_code 20 = .ok (.getfield 77, 3) := by decide +kernel
theorem nd_TS_give_23 : decode prog_5_method_8_code 23 = .ok (.aload_n 1, 1) := by decide +kernel
theorem nd_TS_give_24 : decode prog_5_method_8_code 24 = .ok (.getfield 39, 3) := by decide +kernel
theorem nd_TS_give_27 : decode prog_5_method_8_code 27 = .ok (.iconst 1, 1) := by decide +kernel
theorem nd_TS_give_28 : decode prog_5_method_8_code 28 = .ok (.iadd, 1) := by decide +kernel
theorem nd_TS_give_29 : decode prog_5_method_8_code 29 = .ok (.invokestatic 80, 3) := by decide +kernel
theorem nd_TS_give_32 : decode prog_5_method_8_code 32 = .ok (.putfield 77, 3) := by decide +kernel
theorem nd_TS_give_35 : decode prog_5_method_8_code 35 = .ok (.iconst 1, 1) := by decide +kernel
theorem nd_TS_give_36 : decode prog_5_method_8_code 36 = .ok (.ireturn, 1) := by decide +kernel
theorem nd_AL_get_0 : decode prog_16_method_20_code 0 = .ok (.iload_n 1, 1) := by decide +kernel
theorem nd_AL_get_1 : decode prog_16_method_20_code 1 = .ok (.aload_n 0, 1) := by decide +kernel
theorem nd_AL_get_2 : decode prog_16_method_20_code 2 = .ok (.getfield 48, 3) := by decide +kernel
theorem nd_AL_get_5 : decode prog_16_method_20_code 5 = .ok (.invokestatic 118, 3) := by decide +kernel
theorem nd_AL_get_8 : decode prog_16_method_20_code 8 = .ok (.pop, 1) := by decide +kernel
theorem nd_AL_get_9 : decode prog_16_method_20_code 9 = .ok (.aload_n 0, 1) := by decide +kernel
theorem nd_AL_get_10 : decode prog_16_method_20_code 10 = .ok (.iload_n 1, 1) := by decide +kernel
theorem nd_AL_get_11 : decode prog_16_method_20_code 11 = .ok (.invokevirtual 123, 3) := by decide +kernel
theorem nd_AL_get_14 : decode prog_16_method_20_code 14 = .ok (.areturn, 1) := by decide +kernel
theorem nd_OB_checkIndex_0 : decode prog_20_method_17_code 0 = .ok (.iload_n 0, 1) := by decide +kernel
theorem nd_OB_checkIndex_1 : decode prog_20_method_17_code 1 = .ok (.iload_n 1, 1) := by decide +kernel
theorem nd_OB_checkIndex_2 : decode prog_20_method_17_code 2 = .ok (.aconst_null, 1) := by decide +kernel
theorem nd_OB_checkIndex_3 : decode prog_20_method_17_code 3 = .ok (.invokestatic 105, 3) := by decide +kernel
theorem nd_OB_checkIndex_6 : decode prog_20_method_17_code 6 = .ok (.ireturn, 1) := by decide +kernel
theorem nd_PR_checkIndex_0 : decode prog_24_method_11_code 0 = .ok (.iload_n 0, 1) := by decide +kernel
theorem nd_PR_checkIndex_1 : decode prog_24_method_11_code 1 = .ok (.ifCond .lt 8, 3) := by decide +kernel
theorem nd_PR_checkIndex_4 : decode prog_24_method_11_code 4 = .ok (.iload_n 0, 1) := by decide +kernel
theorem nd_PR_checkIndex_5 : decode prog_24_method_11_code 5 = .ok (.iload_n 1, 1) := by decide +kernel
theorem nd_PR_checkIndex_6 : decode prog_24_method_11_code 6 = .ok (.if_icmp .lt 10, 3) := by decide +kernel
theorem nd_PR_checkIndex_9 : decode prog_24_method_11_code 9 = .ok (.aload_n 2, 1) := by decide +kernel
theorem nd_PR_checkIndex_10 : decode prog_24_method_11_code 10 = .ok (.iload_n 0, 1) := by decide +kernel
theorem nd_PR_checkIndex_11 : decode prog_24_method_11_code 11 = .ok (.iload_n 1, 1) := by decide +kernel
theorem nd_PR_checkIndex_12 : decode prog_24_method_11_code 12 = .ok (.invokestatic 95, 3) := by decide +kernel
theorem nd_PR_checkIndex_15 : decode prog_24_method_11_code 15 = .ok (.athrow, 1) := by decide +kernel
theorem nd_PR_checkIndex_16 : decode prog_24_method_11_code 16 = .ok (.iload_n 0, 1) := by decide +kernel
theorem nd_PR_checkIndex_17 : decode prog_24_method_11_code 17 = .ok (.ireturn, 1) := by decide +kernel
theorem nd_AL_elementData_0 : decode prog_16_method_18_code 0 = .ok (.aload_n 0, 1) := by decide +kernel
theorem nd_AL_elementData_1 : decode prog_16_method_18_code 1 = .ok (.getfield 9, 3) := by decide +kernel
theorem nd_AL_elementData_4 : decode prog_16_method_18_code 4 = .ok (.iload_n 1, 1) := by decide +kernel
theorem nd_AL_elementData_5 : decode prog_16_method_18_code 5 = .ok (.aaload, 1) := by decide +kernel
theorem nd_AL_elementData_6 : decode prog_16_method_18_code 6 = .ok (.areturn, 1) := by decide +kernel
theorem nd_LK_init_0 : decode prog_3_method_1_code 0 = .ok (.aload_n 0, 1) := by decide +kernel
theorem nd_LK_init_1 : decode prog_3_method_1_code 1 = .ok (.invokespecial 1, 3) := by decide +kernel
theorem nd_LK_init_4 : decode prog_3_method_1_code 4 = .ok (.aload_n 0, 1) := by decide +kernel
theorem nd_LK_init_5 : decode prog_3_method_1_code 5 = .ok (.aload_n 1, 1) := by decide +kernel
theorem nd_LK_init_6 : decode prog_3_method_1_code 6 = .ok (.putfield 7, 3) := by decide +kernel
theorem nd_LK_init_9 : decode prog_3_method_1_code 9 = .ok (.aload_n 0, 1) := by decide +kernel
theorem nd_LK_init_10 : decode prog_3_method_1_code 10 = .ok (.iload_n 2, 1) := by decide +kernel
theorem nd_LK_init_11 : decode prog_3_method_1_code 11 = .ok (.putfield 13, 3) := by decide +kernel
theorem nd_LK_init_14 : decode prog_3_method_1_code 14 = .ok (.aload_n 0, 1) := by decide +kernel
theorem nd_LK_init_15 : decode prog_3_method_1_code 15 = .ok (.aload_n 3, 1) := by decide +kernel
theorem nd_LK_init_16 : decode prog_3_method_1_code 16 = .ok (.putfield 17, 3) := by decide +kernel
theorem nd_LK_init_19 : decode prog_3_method_1_code 19 = .ok (.return_, 1) := by decide +kernel
theorem nd_TS_hasDerived_0 : decode prog_5_method_9_code 0 = .ok (.aload_n 0, 1) := by decide +kernel
theorem nd_TS_hasDerived_1 : decode prog_5_method_9_code 1 = .ok (.invokevirtual 86, 3) := by decide +kernel
theorem nd_TS_hasDerived_4 : decode prog_5_method_9_code 4 = .ok (.aload_n 1, 1) := by decide +kernel
theorem nd_TS_hasDerived_5 : decode prog_5_method_9_code 5 = .ok (.invokestatic 89, 3) := by decide +kernel
theorem nd_TS_hasDerived_8 : decode prog_5_method_9_code 8 = .ok (.ireturn, 1) := by decide +kernel
theorem nd_TS_settle_0 : decode prog_5_method_10_code 0 = .ok (.iconst 0, 1) := by decide +kernel
theorem nd_TS_settle_1 : decode prog_5_method_10_code 1 = .ok (.istore_n 1, 1) := by decide +kernel
theorem nd_TS_settle_2 : decode prog_5_method_10_code 2 = .ok (.iload_n 1, 1) := by decide +kernel
theorem nd_TS_settle_3 : decode prog_5_method_10_code 3 = .ok (.ldc 93, 2) := by decide +kernel
theorem nd_TS_settle_5 : decode prog_5_method_10_code 5 = .ok (.if_icmp .ge 95, 3) := by decide +kernel
theorem nd_TS_settle_8 : decode prog_5_method_10_code 8 = .ok (.aload_n 0, 1) := by decide +kernel
theorem nd_TS_settle_9 : decode prog_5_method_10_code 9 = .ok (.getfield 77, 3) := by decide +kernel
theorem nd_TS_settle_12 : decode prog_5_method_10_code 12 = .ok (.aload_n 0, 1) := by decide +kernel
theorem nd_TS_settle_13 : decode prog_5_method_10_code 13 = .ok (.getfield 12, 3) := by decide +kernel
theorem nd_TS_settle_16 : decode prog_5_method_10_code 16 = .ok (.invokevirtual 62, 3) := by decide +kernel
theorem nd_TS_settle_19 : decode prog_5_method_10_code 19 = .ok (.if_icmp .ge 81, 3) := by decide +kernel
theorem nd_TS_settle_22 : decode prog_5_method_10_code 22 = .ok (.aload_n 0, 1) := by decide +kernel
theorem nd_TS_settle_23 : decode prog_5_method_10_code 23 = .ok (.getfield 12, 3) := by decide +kernel
theorem nd_TS_settle_26 : decode prog_5_method_10_code 26 = .ok (.aload_n 0, 1) := by decide +kernel
theorem nd_TS_settle_27 : decode prog_5_method_10_code 27 = .ok (.getfield 77, 3) := by decide +kernel
theorem nd_TS_settle_30 : decode prog_5_method_10_code 30 = .ok (.invokevirtual 94, 3) := by decide +kernel
theorem nd_TS_settle_33 : decode prog_5_method_10_code 33 = .ok (.checkcast 27, 3) := by decide +kernel
theorem nd_TS_settle_36 : decode prog_5_method_10_code 36 = .ok (.astore_n 2, 1) := by decide +kernel
theorem nd_TS_settle_37 : decode prog_5_method_10_code 37 = .ok (.aload_n 0, 1) := by decide +kernel
theorem nd_TS_settle_38 : decode prog_5_method_10_code 38 = .ok (.dup, 1) := by decide +kernel
theorem nd_TS_settle_39 : decode prog_5_method_10_code 39 = .ok (.getfield 77, 3) := by decide +kernel
theorem nd_TS_settle_42 : decode prog_5_method_10_code 42 = .ok (.iconst 1, 1) := by decide +kernel
theorem nd_TS_settle_43 : decode prog_5_method_10_code 43 = .ok (.iadd, 1) := by decide +kernel
theorem nd_TS_settle_44 : decode prog_5_method_10_code 44 = .ok (.putfield 77, 3) := by decide +kernel
theorem nd_TS_settle_47 : decode prog_5_method_10_code 47 = .ok (.aload_n 2, 1) := by decide +kernel
theorem nd_TS_settle_48 : decode prog_5_method_10_code 48 = .ok (.invokestatic 98, 3) := by decide +kernel
theorem nd_TS_settle_51 : decode prog_5_method_10_code 51 = .ok (.ifCond .eq 9, 3) := by decide +kernel
theorem nd_TS_settle_54 : decode prog_5_method_10_code 54 = .ok (.aload_n 0, 1) := by decide +kernel
theorem nd_TS_settle_55 : decode prog_5_method_10_code 55 = .ok (.aload_n 2, 1) := by decide +kernel
theorem nd_TS_settle_56 : decode prog_5_method_10_code 56 = .ok (.invokevirtual 101, 3) := by decide +kernel
theorem nd_TS_settle_59 : decode prog_5_method_10_code 59 = .ok (.pop, 1) := by decide +kernel
theorem nd_TS_settle_60 : decode prog_5_method_10_code 60 = .ok (.aload_n 2, 1) := by decide +kernel
theorem nd_TS_settle_61 : decode prog_5_method_10_code 61 = .ok (.getfield 53, 3) := by decide +kernel
theorem nd_TS_settle_64 : decode prog_5_method_10_code 64 = .ok (.iconst 3, 1) := by decide +kernel
theorem nd_TS_settle_65 : decode prog_5_method_10_code 65 = .ok (.if_icmp .ne 29, 3) := by decide +kernel
theorem nd_TS_settle_68 : decode prog_5_method_10_code 68 = .ok (.aload_n 2, 1) := by decide +kernel
theorem nd_TS_settle_69 : decode prog_5_method_10_code 69 = .ok (.getfield 73, 3) := by decide +kernel
theorem nd_TS_settle_72 : decode prog_5_method_10_code 72 = .ok (.ifCond .eq 22, 3) := by decide +kernel
theorem nd_TS_settle_75 : decode prog_5_method_10_code 75 = .ok (.aload_n 2, 1) := by decide +kernel
theorem nd_TS_settle_76 : decode prog_5_method_10_code 76 = .ok (.getfield 32, 3) := by decide +kernel
theorem nd_TS_settle_79 : decode prog_5_method_10_code 79 = .ok (.invokestatic 89, 3) := by decide +kernel
theorem nd_TS_settle_82 : decode prog_5_method_10_code 82 = .ok (.ifCond .eq 12, 3) := by decide +kernel
theorem nd_TS_settle_85 : decode prog_5_method_10_code 85 = .ok (.aload_n 0, 1) := by decide +kernel
theorem nd_TS_settle_86 : decode prog_5_method_10_code 86 = .ok (.aload_n 2, 1) := by decide +kernel
theorem nd_TS_settle_87 : decode prog_5_method_10_code 87 = .ok (.getfield 56, 3) := by decide +kernel
theorem nd_TS_settle_90 : decode prog_5_method_10_code 90 = .ok (.invokevirtual 101, 3) := by decide +kernel
theorem nd_TS_settle_93 : decode prog_5_method_10_code 93 = .ok (.pop, 1) := by decide +kernel
theorem nd_TS_settle_94 : decode prog_5_method_10_code 94 = .ok (.iinc 1 1, 3) := by decide +kernel
theorem nd_TS_settle_97 : decode prog_5_method_10_code 97 = .ok (.goto (-95), 3) := by decide +kernel
theorem nd_TS_settle_100 : decode prog_5_method_10_code 100 = .ok (.return_, 1) := by decide +kernel
theorem nd_TS_canBeMade_0 : decode prog_5_method_11_code 0 = .ok (.aload_n 0, 1) := by decide +kernel
theorem nd_TS_canBeMade_1 : decode prog_5_method_11_code 1 = .ok (.getfield 53, 3) := by decide +kernel
theorem nd_TS_canBeMade_4 : decode prog_5_method_11_code 4 = .ok (.lookupswitch 64 #[(0, 28), (2, 30)], 28) := by decide +kernel
theorem nd_TS_canBeMade_32 : decode prog_5_method_11_code 32 = .ok (.iconst 0, 1) := by decide +kernel
theorem nd_TS_canBeMade_33 : decode prog_5_method_11_code 33 = .ok (.ireturn, 1) := by decide +kernel
theorem nd_TS_canBeMade_34 : decode prog_5_method_11_code 34 = .ok (.aload_n 0, 1) := by decide +kernel
theorem nd_TS_canBeMade_35 : decode prog_5_method_11_code 35 = .ok (.getfield 32, 3) := by decide +kernel
theorem nd_TS_canBeMade_38 : decode prog_5_method_11_code 38 = .ok (.aload_n 0, 1) := by decide +kernel
theorem nd_TS_canBeMade_39 : decode prog_5_method_11_code 39 = .ok (.getfield 56, 3) := by decide +kernel
theorem nd_TS_canBeMade_42 : decode prog_5_method_11_code 42 = .ok (.invokestatic 105, 3) := by decide +kernel
theorem nd_TS_canBeMade_45 : decode prog_5_method_11_code 45 = .ok (.ifCond .ne 17, 3) := by decide +kernel
theorem nd_TS_canBeMade_48 : decode prog_5_method_11_code 48 = .ok (.aload_n 0, 1) := by decide +kernel
theorem nd_TS_canBeMade_49 : decode prog_5_method_11_code 49 = .ok (.getfield 56, 3) := by decide +kernel
theorem nd_TS_canBeMade_52 : decode prog_5_method_11_code 52 = .ok (.aload_n 0, 1) := by decide +kernel
theorem nd_TS_canBeMade_53 : decode prog_5_method_11_code 53 = .ok (.getfield 32, 3) := by decide +kernel
theorem nd_TS_canBeMade_56 : decode prog_5_method_11_code 56 = .ok (.invokestatic 105, 3) := by decide +kernel
theorem nd_TS_canBeMade_59 : decode prog_5_method_11_code 59 = .ok (.ifCond .eq 7, 3) := by decide +kernel
theorem nd_TS_canBeMade_62 : decode prog_5_method_11_code 62 = .ok (.iconst 1, 1) := by decide +kernel
theorem nd_TS_canBeMade_63 : decode prog_5_method_11_code 63 = .ok (.goto 4, 3) := by decide +kernel
theorem nd_TS_canBeMade_66 : decode prog_5_method_11_code 66 = .ok (.iconst 0, 1) := by decide +kernel
theorem nd_TS_canBeMade_67 : decode prog_5_method_11_code 67 = .ok (.ireturn, 1) := by decide +kernel
theorem nd_TS_canBeMade_68 : decode prog_5_method_11_code 68 = .ok (.aload_n 0, 1) := by decide +kernel
theorem nd_TS_canBeMade_69 : decode prog_5_method_11_code 69 = .ok (.getfield 32, 3) := by decide +kernel
theorem nd_TS_canBeMade_72 : decode prog_5_method_11_code 72 = .ok (.invokestatic 89, 3) := by decide +kernel
theorem nd_TS_canBeMade_75 : decode prog_5_method_11_code 75 = .ok (.ifCond .eq 17, 3) := by decide +kernel
theorem nd_TS_canBeMade_78 : decode prog_5_method_11_code 78 = .ok (.aload_n 0, 1) := by decide +kernel
theorem nd_TS_canBeMade_79 : decode prog_5_method_11_code 79 = .ok (.getfield 56, 3) := by decide +kernel
theorem nd_TS_canBeMade_82 : decode prog_5_method_11_code 82 = .ok (.invokestatic 89, 3) := by decide +kernel
theorem nd_TS_canBeMade_85 : decode prog_5_method_11_code 85 = .ok (.ifCond .eq 7, 3) := by decide +kernel
theorem nd_TS_canBeMade_88 : decode prog_5_method_11_code 88 = .ok (.iconst 1, 1) := by decide +kernel
theorem nd_TS_canBeMade_89 : decode prog_5_method_11_code 89 = .ok (.goto 4, 3) := by decide +kernel
theorem nd_TS_canBeMade_92 : decode prog_5_method_11_code 92 = .ok (.iconst 0, 1) := by decide +kernel
theorem nd_TS_canBeMade_93 : decode prog_5_method_11_code 93 = .ok (.ireturn, 1) := by decide +kernel
theorem nd_TS_sharedByOne_0 : decode prog_5_method_12_code 0 = .ok (.aload_n 0, 1) := by decide +kernel
theorem nd_TS_sharedByOne_1 : decode prog_5_method_12_code 1 = .ok (.ifnull 35, 3) := by decide +kernel
theorem nd_TS_sharedByOne_4 : decode prog_5_method_12_code 4 = .ok (.aload_n 1, 1) := by decide +kernel
theorem nd_TS_sharedByOne_5 : decode prog_5_method_12_code 5 = .ok (.ifnull 31, 3) := by decide +kernel
theorem nd_TS_sharedByOne_8 : decode prog_5_method_12_code 8 = .ok (.aload_n 0, 1) := by decide +kernel
theorem nd_TS_sharedByOne_9 : decode prog_5_method_12_code 9 = .ok (.getfield 73, 3) := by decide +kernel
theorem nd_TS_sharedByOne_12 : decode prog_5_method_12_code 12 = .ok (.ifCond .eq 24, 3) := by decide +kernel
theorem nd_TS_sharedByOne_15 : decode prog_5_method_12_code 15 = .ok (.aload_n 1, 1) := by decide +kernel
theorem nd_TS_sharedByOne_16 : decode prog_5_method_12_code 16 = .ok (.getfield 26, 3) := by decide +kernel
theorem nd_TS_sharedByOne_19 : decode prog_5_method_12_code 19 = .ok (.ifnull 17, 3) := by decide +kernel
theorem nd_TS_sharedByOne_22 : decode prog_5_method_12_code 22 = .ok (.aload_n 1, 1) := by decide +kernel
theorem nd_TS_sharedByOne_23 : decode prog_5_method_12_code 23 = .ok (.getfield 26, 3) := by decide +kernel
theorem nd_TS_sharedByOne_26 : decode prog_5_method_12_code 26 = .ok (.getfield 73, 3) := by decide +kernel
theorem nd_TS_sharedByOne_29 : decode prog_5_method_12_code 29 = .ok (.ifCond .eq 7, 3) := by decide +kernel
theorem nd_TS_sharedByOne_32 : decode prog_5_method_12_code 32 = .ok (.iconst 1, 1) := by decide +kernel
theorem nd_TS_sharedByOne_33 : decode prog_5_method_12_code 33 = .ok (.goto 4, 3) := by decide +kernel
theorem nd_TS_sharedByOne_36 : decode prog_5_method_12_code 36 = .ok (.iconst 0, 1) := by decide +kernel
theorem nd_TS_sharedByOne_37 : decode prog_5_method_12_code 37 = .ok (.ireturn, 1) := by decide +kernel
theorem nd_TS_isDerived_0 : decode prog_5_method_13_code 0 = .ok (.aload_n 0, 1) := by decide +kernel
theorem nd_TS_isDerived_1 : decode prog_5_method_13_code 1 = .ok (.ifnull 10, 3) := by decide +kernel
theorem nd_TS_isDerived_4 : decode prog_5_method_13_code 4 = .ok (.aload_n 0, 1) := by decide +kernel
theorem nd_TS_isDerived_5 : decode prog_5_method_13_code 5 = .ok (.getfield 73, 3) := by decide +kernel
theorem nd_TS_isDerived_8 : decode prog_5_method_13_code 8 = .ok (.ifCond .eq 7, 3) := by decide +kernel
theorem nd_TS_isDerived_11 : decode prog_5_method_13_code 11 = .ok (.iconst 1, 1) := by decide +kernel
theorem nd_TS_isDerived_12 : decode prog_5_method_13_code 12 = .ok (.goto 4, 3) := by decide +kernel
theorem nd_TS_isDerived_15 : decode prog_5_method_13_code 15 = .ok (.iconst 0, 1) := by decide +kernel
theorem nd_TS_isDerived_16 : decode prog_5_method_13_code 16 = .ok (.ireturn, 1) := by decide +kernel
end
section
/-! DECODE ROWS, by program -/
theorem nd_TK_init_0 : decode prog_1_method_1_code 0 = .ok (.aload_n 0, 1) := by decide +kernel
theorem nd_TK_init_1 : decode prog_1_method_1_code 1 = .ok (.invokespecial 1, 3) := by decide +kernel
theorem nd_TK_init_4 : decode prog_1_method_1_code 4 = .ok (.aload_n 0, 1) := by decide +kernel
theorem nd_TK_init_5 : decode prog_1_method_1_code 5 = .ok (.new 7, 3) := by decide +kernel
theorem nd_TK_init_8 : decode prog_1_method_1_code 8 = .ok (.dup, 1) := by decide +kernel
theorem nd_TK_init_9 : decode prog_1_method_1_code 9 = .ok (.invokespecial 9, 3) := by decide +kernel
theorem nd_TK_init_12 : decode prog_1_method_1_code 12 = .ok (.putfield 10, 3) := by decide +kernel
theorem nd_TK_init_15 : decode prog_1_method_1_code 15 = .ok (.aload_n 0, 1) := by decide +kernel
theorem nd_TK_init_16 : decode prog_1_method_1_code 16 = .ok (.getfield 10, 3) := by decide +kernel
theorem nd_TK_init_19 : decode prog_1_method_1_code 19 = .ok (.invokevirtual 16, 3) := by decide +kernel
theorem nd_TK_init_22 : decode prog_1_method_1_code 22 = .ok (.astore_n 1, 1) := by decide +kernel
theorem nd_TK_init_23 : decode prog_1_method_1_code 23 = .ok (.aload_n 0, 1) := by decide +kernel
theorem nd_TK_init_24 : decode prog_1_method_1_code 24 = .ok (.getfield 10, 3) := by decide +kernel
theorem nd_TK_init_27 : decode prog_1_method_1_code 27 = .ok (.invokevirtual 16, 3) := by decide +kernel
theorem nd_TK_init_30 : decode prog_1_method_1_code 30 = .ok (.astore_n 2, 1) := by decide +kernel
theorem nd_TK_init_31 : decode prog_1_method_1_code 31 = .ok (.aload_n 0, 1) := by decide +kernel
theorem nd_TK_init_32 : decode prog_1_method_1_code 32 = .ok (.getfield 10, 3) := by decide +kernel
theorem nd_TK_init_35 : decode prog_1_method_1_code 35 = .ok (.invokevirtual 16, 3) := by decide +kernel
theorem nd_TK_init_38 : decode prog_1_method_1_code 38 = .ok (.astore_n 3, 1) := by decide +kernel
theorem nd_TK_init_39 : decode prog_1_method_1_code 39 = .ok (.aload_n 0, 1) := by decide +kernel
theorem nd_TK_init_40 : decode prog_1_method_1_code 40 = .ok (.getfield 10, 3) := by decide +kernel
theorem nd_TK_init_43 : decode prog_1_method_1_code 43 = .ok (.aload_n 0, 1) := by decide +kernel
theorem nd_TK_init_44 : decode prog_1_method_1_code 44 = .ok (.getfield 10, 3) := by decide +kernel
theorem nd_TK_init_47 : decode prog_1_method_1_code 47 = .ok (.invokevirtual 16, 3) := by decide +kernel
theorem nd_TK_init_50 : decode prog_1_method_1_code 50 = .ok (.invokevirtual 20, 3) := by decide +kernel
theorem nd_TK_init_53 : decode prog_1_method_1_code 53 = .ok (.astore 4, 2) := by decide +kernel
theorem nd_TK_init_55 : decode prog_1_method_1_code 55 = .ok (.aload_n 0, 1) := by decide +kernel
theorem nd_TK_init_56 : decode prog_1_method_1_code 56 = .ok (.getfield 10, 3) := by decide +kernel
theorem nd_TK_init_59 : decode prog_1_method_1_code 59 = .ok (.aload_n 2, 1) := by decide +kernel
theorem nd_TK_init_60 : decode prog_1_method_1_code 60 = .ok (.invokevirtual 20, 3) := by decide +kernel
theorem nd_TK_init_63 : decode prog_1_method_1_code 63 = .ok (.astore 5, 2) := by decide +kernel
theorem nd_TK_init_65 : decode prog_1_method_1_code 65 = .ok (.aload_n 0, 1) := by decide +kernel
theorem nd_TK_init_66 : decode prog_1_method_1_code 66 = .ok (.getfield 10, 3) := by decide +kernel
theorem nd_TK_init_69 : decode prog_1_method_1_code 69 = .ok (.aload_n 3, 1) := by decide +kernel
theorem nd_TK_init_70 : decode prog_1_method_1_code 70 = .ok (.aload 5, 2) := by decide +kernel
theorem nd_TK_init_72 : decode prog_1_method_1_code 72 = .ok (.invokevirtual 24, 3) := by decide +kernel
theorem nd_TK_init_75 : decode prog_1_method_1_code 75 = .ok (.astore 6, 2) := by decide +kernel
theorem nd_TK_init_77 : decode prog_1_method_1_code 77 = .ok (.new 28, 3) := by decide +kernel
theorem nd_TK_init_80 : decode prog_1_method_1_code 80 = .ok (.dup, 1) := by decide +kernel
theorem nd_TK_init_81 : decode prog_1_method_1_code 81 = .ok (.aload 4, 2) := by decide +kernel
theorem nd_TK_init_83 : decode prog_1_method_1_code 83 = .ok (.aload_n 0, 1) := by decide +kernel
theorem nd_TK_init_84 : decode prog_1_method_1_code 84 = .ok (.getfield 10, 3) := by decide +kernel
theorem nd_TK_init_87 : decode prog_1_method_1_code 87 = .ok (.iconst 4, 1) := by decide +kernel
theorem nd_TK_init_88 : decode prog_1_method_1_code 88 = .ok (.aload_n 1, 1) := by decide +kernel
theorem nd_TK_init_89 : decode prog_1_method_1_code 89 = .ok (.aload 6, 2) := by decide +kernel
theorem nd_TK_init_91 : decode prog_1_method_1_code 91 = .ok (.invokevirtual 30, 3) := by decide +kernel
theorem nd_TK_init_94 : decode prog_1_method_1_code 94 = .ok (.aload_n 3, 1) := by decide +kernel
theorem nd_TK_init_95 : decode prog_1_method_1_code 95 = .ok (.invokespecial 34, 3) := by decide +kernel
theorem nd_TK_init_98 : decode prog_1_method_1_code 98 = .ok (.astore 7, 2) := by decide +kernel
theorem nd_TK_init_100 : decode prog_1_method_1_code 100 = .ok (.aload 7, 2) := by decide +kernel
theorem nd_TK_init_102 : decode prog_1_method_1_code 102 = .ok (.aload 5, 2) := by decide +kernel
theorem nd_TK_init_104 : decode prog_1_method_1_code 104 = .ok (.putfield 37, 3) := by decide +kernel
theorem nd_TK_init_107 : decode prog_1_method_1_code 107 = .ok (.aload 7, 2) := by decide +kernel
theorem nd_TK_init_109 : decode prog_1_method_1_code 109 = .ok (.aload_n 0, 1) := by decide +kernel
theorem nd_TK_init_110 : decode prog_1_method_1_code 110 = .ok (.getfield 10, 3) := by decide +kernel
theorem nd_TK_init_113 : decode prog_1_method_1_code 113 = .ok (.iconst 5, 1) := by decide +kernel
theorem nd_TK_init_114 : decode prog_1_method_1_code 114 = .ok (.aload_n 1, 1) := by decide +kernel
theorem nd_TK_init_115 : decode prog_1_method_1_code 115 = .ok (.aload 6, 2) := by decide +kernel
theorem nd_TK_init_117 : decode prog_1_method_1_code 117 = .ok (.invokevirtual 30, 3) := by decide +kernel
theorem nd_TK_init_120 : decode prog_1_method_1_code 120 = .ok (.putfield 41, 3) := by decide +kernel
theorem nd_TK_init_123 : decode prog_1_method_1_code 123 = .ok (.new 28, 3) := by decide +kernel
theorem nd_TK_init_126 : decode prog_1_method_1_code 126 = .ok (.dup, 1) := by decide +kernel
theorem nd_TK_init_127 : decode prog_1_method_1_code 127 = .ok (.aload 4, 2) := by decide +kernel
theorem nd_TK_init_129 : decode prog_1_method_1_code 129 = .ok (.aload_n 1, 1) := by decide +kernel
theorem nd_TK_init_130 : decode prog_1_method_1_code 130 = .ok (.aload_n 2, 1) := by decide +kernel
theorem nd_TK_init_131 : decode prog_1_method_1_code 131 = .ok (.invokespecial 34, 3) := by decide +kernel
theorem nd_TK_init_134 : decode prog_1_method_1_code 134 = .ok (.astore 8, 2) := by decide +kernel
theorem nd_TK_init_136 : decode prog_1_method_1_code 136 = .ok (.aload_n 0, 1) := by decide +kernel
theorem nd_TK_init_137 : decode prog_1_method_1_code 137 = .ok (.iconst 2, 1) := by decide +kernel
theorem nd_TK_init_138 : decode prog_1_method_1_code 138 = .ok (.anewarray 28, 3) := by decide +kernel
theorem nd_TK_init_141 : decode prog_1_method_1_code 141 = .ok (.dup, 1) := by decide +kernel
theorem nd_TK_init_142 : decode prog_1_method_1_code 142 = .ok (.iconst 0, 1) := by decide +kernel
theorem nd_TK_init_143 : decode prog_1_method_1_code 143 = .ok (.aload 7, 2) := by decide +kernel
theorem nd_TK_init_145 : decode prog_1_method_1_code 145 = .ok (.aastore, 1) := by decide +kernel
theorem nd_TK_init_146 : decode prog_1_method_1_code 146 = .ok (.dup, 1) := by decide +kernel
theorem nd_TK_init_147 : decode prog_1_method_1_code 147 = .ok (.iconst 1, 1) := by decide +kernel
theorem nd_TK_init_148 : decode prog_1_method_1_code 148 = .ok (.aload 8, 2) := by decide +kernel
theorem nd_TK_init_150 : decode prog_1_method_1_code 150 = .ok (.aastore, 1) := by decide +kernel
theorem nd_TK_init_151 : decode prog_1_method_1_code 151 = .ok (.putfield 44, 3) := by decide +kernel
theorem nd_TK_init_154 : decode prog_1_method_1_code 154 = .ok (.aload_n 0, 1) := by decide +kernel
theorem nd_TK_init_155 : decode prog_1_method_1_code 155 = .ok (.iconst 2, 1) := by decide +kernel
theorem nd_TK_init_156 : decode prog_1_method_1_code 156 = .ok (.anewarray 28, 3) := by decide +kernel
theorem nd_TK_init_159 : decode prog_1_method_1_code 159 = .ok (.dup, 1) := by decide +kernel
theorem nd_TK_init_160 : decode prog_1_method_1_code 160 = .ok (.iconst 0, 1) := by decide +kernel
theorem nd_TK_init_161 : decode prog_1_method_1_code 161 = .ok (.aload 7, 2) := by decide +kernel
theorem nd_TK_init_163 : decode prog_1_method_1_code 163 = .ok (.invokevirtual 48, 3) := by decide +kernel
theorem nd_TK_init_166 : decode prog_1_method_1_code 166 = .ok (.aastore, 1) := by decide +kernel
theorem nd_TK_init_167 : decode prog_1_method_1_code 167 = .ok (.dup, 1) := by decide +kernel
theorem nd_TK_init_168 : decode prog_1_method_1_code 168 = .ok (.iconst 1, 1) := by decide +kernel
theorem nd_TK_init_169 : decode prog_1_method_1_code 169 = .ok (.aload 8, 2) := by decide +kernel
theorem nd_TK_init_171 : decode prog_1_method_1_code 171 = .ok (.invokevirtual 48, 3) := by decide +kernel
theorem nd_TK_init_174 : decode prog_1_method_1_code 174 = .ok (.aastore, 1) := by decide +kernel
theorem nd_TK_init_175 : decode prog_1_method_1_code 175 = .ok (.putfield 52, 3) := by decide +kernel
theorem nd_TK_init_178 : decode prog_1_method_1_code 178 = .ok (.aload_n 0, 1) := by decide +kernel
theorem nd_TK_init_179 : decode prog_1_method_1_code 179 = .ok (.aload 8, 2) := by decide +kernel
theorem nd_TK_init_181 : decode prog_1_method_1_code 181 = .ok (.invokevirtual 48, 3) := by decide +kernel
theorem nd_TK_init_184 : decode prog_1_method_1_code 184 = .ok (.putfield 55, 3) := by decide +kernel
theorem nd_TK_init_187 : decode prog_1_method_1_code 187 = .ok (.aload_n 0, 1) := by decide +kernel
theorem nd_TK_init_188 : decode prog_1_method_1_code 188 = .ok (.new 59, 3) := by decide +kernel
theorem nd_TK_init_191 : decode prog_1_method_1_code 191 = .ok (.dup, 1) := by decide +kernel
theorem nd_TK_init_192 : decode prog_1_method_1_code 192 = .ok (.invokespecial 61, 3) := by decide +kernel
theorem nd_TK_init_195 : decode prog_1_method_1_code 195 = .ok (.putfield 62, 3) := by decide +kernel
theorem nd_TK_init_198 : decode prog_1_method_1_code 198 = .ok (.return_, 1) := by decide +kernel
theorem nd_EN_init_0 : decode prog_2_method_1_code 0 = .ok (.aload_n 0, 1) := by decide +kernel
theorem nd_EN_init_1 : decode prog_2_method_1_code 1 = .ok (.invokespecial 3, 3) := by decide +kernel
theorem nd_EN_init_4 : decode prog_2_method_1_code 4 = .ok (.aload_n 0, 1) := by decide +kernel
theorem nd_EN_init_5 : decode prog_2_method_1_code 5 = .ok (.bipush 8, 2) := by decide +kernel
theorem nd_EN_init_7 : decode prog_2_method_1_code 7 = .ok (.anewarray 9, 3) := by decide +kernel
theorem nd_EN_init_10 : decode prog_2_method_1_code 10 = .ok (.putfield 11, 3) := by decide +kernel
theorem nd_EN_init_13 : decode prog_2_method_1_code 13 = .ok (.aload_n 0, 1) := by decide +kernel
theorem nd_EN_init_14 : decode prog_2_method_1_code 14 = .ok (.aload_n 1, 1) := by decide +kernel
theorem nd_EN_init_15 : decode prog_2_method_1_code 15 = .ok (.putfield 17, 3) := by decide +kernel
theorem nd_EN_init_18 : decode prog_2_method_1_code 18 = .ok (.aload_n 0, 1) := by decide +kernel
theorem nd_EN_init_19 : decode prog_2_method_1_code 19 = .ok (.aload_n 2, 1) := by decide +kernel
theorem nd_EN_init_20 : decode prog_2_method_1_code 20 = .ok (.putfield 21, 3) := by decide +kernel
theorem nd_EN_init_23 : decode prog_2_method_1_code 23 = .ok (.aload_n 0, 1) := by decide +kernel
theorem nd_EN_init_24 : decode prog_2_method_1_code 24 = .ok (.aload_n 3, 1) := by decide +kernel
theorem nd_EN_init_25 : decode prog_2_method_1_code 25 = .ok (.putfield 24, 3) := by decide +kernel
theorem nd_EN_init_28 : decode prog_2_method_1_code 28 = .ok (.return_, 1) := by decide +kernel
theorem nd_EN_copied_0 : decode prog_2_method_2_code 0 = .ok (.new 12, 3) := by decide +kernel
theorem nd_EN_copied_3 : decode prog_2_method_2_code 3 = .ok (.dup, 1) := by decide +kernel
theorem nd_EN_copied_4 : decode prog_2_method_2_code 4 = .ok (.aload_n 0, 1) := by decide +kernel
theorem nd_EN_copied_5 : decode prog_2_method_2_code 5 = .ok (.getfield 17, 3) := by decide +kernel
theorem nd_EN_copied_8 : decode prog_2_method_2_code 8 = .ok (.aload_n 0, 1) := by decide +kernel
theorem nd_EN_copied_9 : decode prog_2_method_2_code 9 = .ok (.getfield 21, 3) := by decide +kernel
theorem nd_EN_copied_12 : decode prog_2_method_2_code 12 = .ok (.aload_n 0, 1) := by decide +kernel
theorem nd_EN_copied_13 : decode prog_2_method_2_code 13 = .ok (.getfield 24, 3) := by decide +kernel
theorem nd_EN_copied_16 : decode prog_2_method_2_code 16 = .ok (.invokespecial 27, 3) := by decide +kernel
theorem nd_EN_copied_19 : decode prog_2_method_2_code 19 = .ok (.astore_n 1, 1) := by decide +kernel
theorem nd_EN_copied_20 : decode prog_2_method_2_code 20 = .ok (.aload_n 1, 1) := by decide +kernel
theorem nd_EN_copied_21 : decode prog_2_method_2_code 21 = .ok (.aload_n 0, 1) := by decide +kernel
theorem nd_EN_copied_22 : decode prog_2_method_2_code 22 = .ok (.invokevirtual 30, 3) := by decide +kernel
theorem nd_EN_copied_25 : decode prog_2_method_2_code 25 = .ok (.aload_n 1, 1) := by decide +kernel
theorem nd_EN_copied_26 : decode prog_2_method_2_code 26 = .ok (.areturn, 1) := by decide +kernel
theorem nd_EN_become_0 : decode prog_2_method_3_code 0 = .ok (.aload_n 0, 1) := by decide +kernel
theorem nd_EN_become_1 : decode prog_2_method_3_code 1 = .ok (.aload_n 1, 1) := by decide +kernel
theorem nd_EN_become_2 : decode prog_2_method_3_code 2 = .ok (.getfield 17, 3) := by decide +kernel
theorem nd_EN_become_5 : decode prog_2_method_3_code 5 = .ok (.putfield 17, 3) := by decide +kernel
theorem nd_EN_become_8 : decode prog_2_method_3_code 8 = .ok (.aload_n 0, 1) := by decide +kernel
theorem nd_EN_become_9 : decode prog_2_method_3_code 9 = .ok (.aload_n 1, 1) := by decide +kernel
theorem nd_EN_become_10 : decode prog_2_method_3_code 10 = .ok (.getfield 21, 3) := by decide +kernel
theorem nd_EN_become_13 : decode prog_2_method_3_code 13 = .ok (.putfield 21, 3) := by decide +kernel
theorem nd_EN_become_16 : decode prog_2_method_3_code 16 = .ok (.aload_n 0, 1) := by decide +kernel
theorem nd_EN_become_17 : decode prog_2_method_3_code 17 = .ok (.aload_n 1, 1) := by decide +kernel
theorem nd_EN_become_18 : decode prog_2_method_3_code 18 = .ok (.getfield 24, 3) := by decide +kernel
theorem nd_EN_become_21 : decode prog_2_method_3_code 21 = .ok (.putfield 24, 3) := by decide +kernel
theorem nd_EN_become_24 : decode prog_2_method_3_code 24 = .ok (.aload_n 0, 1) := by decide +kernel
theorem nd_EN_become_25 : decode prog_2_method_3_code 25 = .ok (.aload_n 1, 1) := by decide +kernel
theorem nd_EN_become_26 : decode prog_2_method_3_code 26 = .ok (.getfield 34, 3) := by decide +kernel
theorem nd_EN_become_29 : decode prog_2_method_3_code 29 = .ok (.putfield 34, 3) := by decide +kernel
theorem nd_EN_become_32 : decode prog_2_method_3_code 32 = .ok (.aload_n 0, 1) := by decide +kernel
theorem nd_EN_become_33 : decode prog_2_method_3_code 33 = .ok (.aload_n 1, 1) := by decide +kernel
theorem nd_EN_become_34 : decode prog_2_method_3_code 34 = .ok (.getfield 37, 3) := by decide +kernel
theorem nd_EN_become_37 : decode prog_2_method_3_code 37 = .ok (.putfield 37, 3) := by decide +kernel
theorem nd_EN_become_40 : decode prog_2_method_3_code 40 = .ok (.aload_n 0, 1) := by decide +kernel
theorem nd_EN_become_41 : decode prog_2_method_3_code 41 = .ok (.aload_n 1, 1) := by decide +kernel
theorem nd_EN_become_42 : decode prog_2_method_3_code 42 = .ok (.getfield 40, 3) := by decide +kernel
theorem nd_EN_become_45 : decode prog_2_method_3_code 45 = .ok (.putfield 40, 3) := by decide +kernel
theorem nd_EN_become_48 : decode prog_2_method_3_code 48 = .ok (.aload_n 0, 1) := by decide +kernel
theorem nd_EN_become_49 : decode prog_2_method_3_code 49 = .ok (.aload_n 1, 1) := by decide +kernel
theorem nd_EN_become_50 : decode prog_2_method_3_code 50 = .ok (.getfield 44, 3) := by decide +kernel
theorem nd_EN_become_53 : decode prog_2_method_3_code 53 = .ok (.putfield 44, 3) := by decide +kernel
theorem nd_EN_become_56 : decode prog_2_method_3_code 56 = .ok (.aload_n 0, 1) := by decide +kernel
theorem nd_EN_become_57 : decode prog_2_method_3_code 57 = .ok (.aload_n 1, 1) := by decide +kernel
theorem nd_EN_become_58 : decode prog_2_method_3_code 58 = .ok (.getfield 47, 3) := by decide +kernel
theorem nd_EN_become_61 : decode prog_2_method_3_code 61 = .ok (.putfield 47, 3) := by decide +kernel
theorem nd_EN_become_64 : decode prog_2_method_3_code 64 = .ok (.aload_n 0, 1) := by decide +kernel
theorem nd_EN_become_65 : decode prog_2_method_3_code 65 = .ok (.aload_n 1, 1) := by decide +kernel
theorem nd_EN_become_66 : decode prog_2_method_3_code 66 = .ok (.getfield 50, 3) := by decide +kernel
theorem nd_EN_become_69 : decode prog_2_method_3_code 69 = .ok (.putfield 50, 3) := by decide +kernel
theorem nd_EN_become_72 : decode prog_2_method_3_code 72 = .ok (.iconst 0, 1) := by decide +kernel
theorem nd_EN_become_73 : decode prog_2_method_3_code 73 = .ok (.istore_n 2, 1) := by decide +kernel
theorem nd_EN_become_74 : decode prog_2_method_3_code 74 = .ok (.iload_n 2, 1) := by decide +kernel
theorem nd_EN_become_75 : decode prog_2_method_3_code 75 = .ok (.bipush 8, 2) := by decide +kernel
theorem nd_EN_become_77 : decode prog_2_method_3_code 77 = .ok (.if_icmp .ge 21, 3) := by decide +kernel
theorem nd_EN_become_80 : decode prog_2_method_3_code 80 = .ok (.aload_n 0, 1) := by decide +kernel
theorem nd_EN_become_81 : decode prog_2_method_3_code 81 = .ok (.getfield 11, 3) := by decide +kernel
theorem nd_EN_become_84 : decode prog_2_method_3_code 84 = .ok (.iload_n 2, 1) := by decide +kernel
theorem nd_EN_become_85 : decode prog_2_method_3_code 85 = .ok (.aload_n 1, 1) := by decide +kernel
theorem nd_EN_become_86 : decode prog_2_method_3_code 86 = .ok (.getfield 11, 3) := by decide +kernel
theorem nd_EN_become_89 : decode prog_2_method_3_code 89 = .ok (.iload_n 2, 1) := by decide +kernel
theorem nd_EN_become_90 : decode prog_2_method_3_code 90 = .ok (.aaload, 1) := by decide +kernel
theorem nd_EN_become_91 : decode prog_2_method_3_code 91 = .ok (.aastore, 1) := by decide +kernel
theorem nd_EN_become_92 : decode prog_2_method_3_code 92 = .ok (.iinc 2 1, 3) := by decide +kernel
theorem nd_EN_become_95 : decode prog_2_method_3_code 95 = .ok (.goto (-21), 3) := by decide +kernel
theorem nd_EN_become_98 : decode prog_2_method_3_code 98 = .ok (.aload_n 0, 1) := by decide +kernel
theorem nd_EN_become_99 : decode prog_2_method_3_code 99 = .ok (.aload_n 1, 1) := by decide +kernel
theorem nd_EN_become_100 : decode prog_2_method_3_code 100 = .ok (.getfield 53, 3) := by decide +kernel
theorem nd_EN_become_103 : decode prog_2_method_3_code 103 = .ok (.putfield 53, 3) := by decide +kernel
theorem nd_EN_become_106 : decode prog_2_method_3_code 106 = .ok (.return_, 1) := by decide +kernel
theorem nd_TK_send_0 : decode prog_1_method_2_code 0 = .ok (.aload_n 0, 1) := by decide +kernel
theorem nd_TK_send_1 : decode prog_1_method_2_code 1 = .ok (.getfield 44, 3) := by decide +kernel
theorem nd_TK_send_4 : decode prog_1_method_2_code 4 = .ok (.iload_n 1, 1) := by decide +kernel
theorem nd_TK_send_5 : decode prog_1_method_2_code 5 = .ok (.invokestatic 66, 3) := by decide +kernel
theorem nd_TK_send_8 : decode prog_1_method_2_code 8 = .ok (.astore_n 2, 1) := by decide +kernel
theorem nd_TK_send_9 : decode prog_1_method_2_code 9 = .ok (.aload_n 2, 1) := by decide +kernel
theorem nd_TK_send_10 : decode prog_1_method_2_code 10 = .ok (.ifnonnull 5, 3) := by decide +kernel
theorem nd_TK_send_13 : decode prog_1_method_2_code 13 = .ok (.iconst (-1), 1) := by decide +kernel
theorem nd_TK_send_14 : decode prog_1_method_2_code 14 = .ok (.ireturn, 1) := by decide +kernel
theorem nd_TK_send_15 : decode prog_1_method_2_code 15 = .ok (.aload_n 2, 1) := by decide +kernel
theorem nd_TK_send_16 : decode prog_1_method_2_code 16 = .ok (.getfield 37, 3) := by decide +kernel
theorem nd_TK_send_19 : decode prog_1_method_2_code 19 = .ok (.ifnonnull 6, 3) := by decide +kernel
theorem nd_TK_send_22 : decode prog_1_method_2_code 22 = .ok (.bipush (-5), 2) := by decide +kernel
theorem nd_TK_send_24 : decode prog_1_method_2_code 24 = .ok (.ireturn, 1) := by decide +kernel
theorem nd_TK_send_25 : decode prog_1_method_2_code 25 = .ok (.aload_n 0, 1) := by decide +kernel
theorem nd_TK_send_26 : decode prog_1_method_2_code 26 = .ok (.invokevirtual 70, 3) := by decide +kernel
theorem nd_TK_send_29 : decode prog_1_method_2_code 29 = .ok (.ifCond .ne 5, 3) := by decide +kernel
theorem nd_TK_send_32 : decode prog_1_method_2_code 32 = .ok (.iconst (-1), 1) := by decide +kernel
theorem nd_TK_send_33 : decode prog_1_method_2_code 33 = .ok (.ireturn, 1) := by decide +kernel
theorem nd_TK_send_34 : decode prog_1_method_2_code 34 = .ok (.aload_n 2, 1) := by decide +kernel
theorem nd_TK_send_35 : decode prog_1_method_2_code 35 = .ok (.getfield 41, 3) := by decide +kernel
theorem nd_TK_send_38 : decode prog_1_method_2_code 38 = .ok (.ifnonnull 11, 3) := by decide +kernel
theorem nd_TK_send_41 : decode prog_1_method_2_code 41 = .ok (.aload_n 2, 1) := by decide +kernel
theorem nd_TK_send_42 : decode prog_1_method_2_code 42 = .ok (.aload_n 0, 1) := by decide +kernel
theorem nd_TK_send_43 : decode prog_1_method_2_code 43 = .ok (.getfield 10, 3) := by decide +kernel
theorem nd_TK_send_46 : decode prog_1_method_2_code 46 = .ok (.invokevirtual 74, 3) := by decide +kernel
theorem nd_TK_send_49 : decode prog_1_method_2_code 49 = .ok (.aload_n 2, 1) := by decide +kernel
theorem nd_TK_send_50 : decode prog_1_method_2_code 50 = .ok (.iload_n 1, 1) := by decide +kernel
theorem nd_TK_send_51 : decode prog_1_method_2_code 51 = .ok (.aload_n 0, 1) := by decide +kernel
theorem nd_TK_send_52 : decode prog_1_method_2_code 52 = .ok (.getfield 10, 3) := by decide +kernel
theorem nd_TK_send_55 : decode prog_1_method_2_code 55 = .ok (.invokevirtual 16, 3) := by decide +kernel
theorem nd_TK_send_58 : decode prog_1_method_2_code 58 = .ok (.aload_n 0, 1) := by decide +kernel
theorem nd_TK_send_59 : decode prog_1_method_2_code 59 = .ok (.getfield 10, 3) := by decide +kernel
theorem nd_TK_send_62 : decode prog_1_method_2_code 62 = .ok (.invokevirtual 78, 3) := by decide +kernel
theorem nd_TK_send_65 : decode prog_1_method_2_code 65 = .ok (.astore_n 3, 1) := by decide +kernel
theorem nd_TK_send_66 : decode prog_1_method_2_code 66 = .ok (.aload_n 0, 1) := by decide +kernel
theorem nd_TK_send_67 : decode prog_1_method_2_code 67 = .ok (.getfield 62, 3) := by decide +kernel
theorem nd_TK_send_70 : decode prog_1_method_2_code 70 = .ok (.aload_n 3, 1) := by decide +kernel
theorem nd_TK_send_71 : decode prog_1_method_2_code 71 = .ok (.invokevirtual 82, 3) := by decide +kernel
theorem nd_TK_send_74 : decode prog_1_method_2_code 74 = .ok (.pop, 1) := by decide +kernel
theorem nd_TK_send_75 : decode prog_1_method_2_code 75 = .ok (.aload_n 0, 1) := by decide +kernel
theorem nd_TK_send_76 : decode prog_1_method_2_code 76 = .ok (.aload_n 3, 1) := by decide +kernel
theorem nd_TK_send_77 : decode prog_1_method_2_code 77 = .ok (.aload_n 2, 1) := by decide +kernel
theorem nd_TK_send_78 : decode prog_1_method_2_code 78 = .ok (.getfield 86, 3) := by decide +kernel
theorem nd_TK_send_81 : decode prog_1_method_2_code 81 = .ok (.invokevirtual 89, 3) := by decide +kernel
theorem nd_TK_send_84 : decode prog_1_method_2_code 84 = .ok (.aload_n 0, 1) := by decide +kernel
theorem nd_TK_send_85 : decode prog_1_method_2_code 85 = .ok (.getfield 62, 3) := by decide +kernel
theorem nd_TK_send_88 : decode prog_1_method_2_code 88 = .ok (.invokevirtual 93, 3) := by decide +kernel
theorem nd_TK_send_91 : decode prog_1_method_2_code 91 = .ok (.iconst 1, 1) := by decide +kernel
theorem nd_TK_send_92 : decode prog_1_method_2_code 92 = .ok (.isub, 1) := by decide +kernel
theorem nd_TK_send_93 : decode prog_1_method_2_code 93 = .ok (.ireturn, 1) := by decide +kernel
theorem nd_TK_endAt_0 : decode prog_1_method_13_code 0 = .ok (.iload_n 1, 1) := by decide +kernel
theorem nd_TK_endAt_1 : decode prog_1_method_13_code 1 = .ok (.ifCond .lt 15, 3) := by decide +kernel
theorem nd_TK_endAt_4 : decode prog_1_method_13_code 4 = .ok (.iload_n 1, 1) := by decide +kernel
theorem nd_TK_endAt_5 : decode prog_1_method_13_code 5 = .ok (.aload_n 0, 1) := by decide +kernel
theorem nd_TK_endAt_6 : decode prog_1_method_13_code 6 = .ok (.arraylength, 1) := by decide +kernel
theorem nd_TK_endAt_7 : decode prog_1_method_13_code 7 = .ok (.if_icmp .ge 9, 3) := by decide +kernel
theorem nd_TK_endAt_10 : decode prog_1_method_13_code 10 = .ok (.aload_n 0, 1) := by decide +kernel
theorem nd_TK_endAt_11 : decode prog_1_method_13_code 11 = .ok (.iload_n 1, 1) := by decide +kernel
theorem nd_TK_endAt_12 : decode prog_1_method_13_code 12 = .ok (.aaload, 1) := by decide +kernel
theorem nd_TK_endAt_13 : decode prog_1_method_13_code 13 = .ok (.goto 4, 3) := by decide +kernel
theorem nd_TK_endAt_16 : decode prog_1_method_13_code 16 = .ok (.aconst_null, 1) := by decide +kernel
theorem nd_TK_endAt_17 : decode prog_1_method_13_code 17 = .ok (.areturn, 1) := by decide +kernel
theorem nd_TK_mayMakeMore_0 : decode prog_1_method_16_code 0 = .ok (.aload_n 0, 1) := by decide +kernel
theorem nd_TK_mayMakeMore_1 : decode prog_1_method_16_code 1 = .ok (.getfield 175, 3) := by decide +kernel
theorem nd_TK_mayMakeMore_4 : decode prog_1_method_16_code 4 = .ok (.sipush 512, 3) := by decide +kernel
theorem nd_TK_mayMakeMore_7 : decode prog_1_method_16_code 7 = .ok (.if_icmp .lt 5, 3) := by decide +kernel
theorem nd_TK_mayMakeMore_10 : decode prog_1_method_16_code 10 = .ok (.iconst 0, 1) := by decide +kernel
theorem nd_TK_mayMakeMore_11 : decode prog_1_method_16_code 11 = .ok (.ireturn, 1) := by decide +kernel
theorem nd_TK_mayMakeMore_12 : decode prog_1_method_16_code 12 = .ok (.aload_n 0, 1) := by decide +kernel
theorem nd_TK_mayMakeMore_13 : decode prog_1_method_16_code 13 = .ok (.dup, 1) := by decide +kernel
theorem nd_TK_mayMakeMore_14 : decode prog_1_method_16_code 14 = .ok (.getfield 175, 3) := by decide +kernel
theorem nd_TK_mayMakeMore_17 : decode prog_1_method_16_code 17 = .ok (.iconst 1, 1) := by decide +kernel
theorem nd_TK_mayMakeMore_18 : decode prog_1_method_16_code 18 = .ok (.iadd, 1) := by decide +kernel
theorem nd_TK_mayMakeMore_19 : decode prog_1_method_16_code 19 = .ok (.putfield 175, 3) := by decide +kernel
theorem nd_TK_mayMakeMore_22 : decode prog_1_method_16_code 22 = .ok (.iconst 1, 1) := by decide +kernel
theorem nd_TK_mayMakeMore_23 : decode prog_1_method_16_code 23 = .ok (.ireturn, 1) := by decide +kernel
theorem nd_EN_turnSending_0 : decode prog_2_method_4_code 0 = .ok (.aload_n 0, 1) := by decide +kernel
theorem nd_EN_turnSending_1 : decode prog_2_method_4_code 1 = .ok (.aload_n 0, 1) := by decide +kernel
theorem nd_EN_turnSending_2 : decode prog_2_method_4_code 2 = .ok (.getfield 40, 3) := by decide +kernel
theorem nd_EN_turnSending_5 : decode prog_2_method_4_code 5 = .ok (.putfield 44, 3) := by decide +kernel
theorem nd_EN_turnSending_8 : decode prog_2_method_4_code 8 = .ok (.aload_n 0, 1) := by decide +kernel
theorem nd_EN_turnSending_9 : decode prog_2_method_4_code 9 = .ok (.iconst 0, 1) := by decide +kernel
theorem nd_EN_turnSending_10 : decode prog_2_method_4_code 10 = .ok (.putfield 40, 3) := by decide +kernel
theorem nd_EN_turnSending_13 : decode prog_2_method_4_code 13 = .ok (.aload_n 0, 1) := by decide +kernel
theorem nd_EN_turnSending_14 : decode prog_2_method_4_code 14 = .ok (.aload_n 1, 1) := by decide +kernel
theorem nd_EN_turnSending_15 : decode prog_2_method_4_code 15 = .ok (.invokevirtual 56, 3) := by decide +kernel
theorem nd_EN_turnSending_18 : decode prog_2_method_4_code 18 = .ok (.putfield 24, 3) := by decide +kernel
theorem nd_EN_turnSending_21 : decode prog_2_method_4_code 21 = .ok (.aload_n 1, 1) := by decide +kernel
theorem nd_EN_turnSending_22 : decode prog_2_method_4_code 22 = .ok (.aload_n 0, 1) := by decide +kernel
theorem nd_EN_turnSending_23 : decode prog_2_method_4_code 23 = .ok (.getfield 24, 3) := by decide +kernel
theorem nd_EN_turnSending_26 : decode prog_2_method_4_code 26 = .ok (.aload_n 0, 1) := by decide +kernel
theorem nd_EN_turnSending_27 : decode prog_2_method_4_code 27 = .ok (.getfield 34, 3) := by decide +kernel
theorem nd_EN_turnSending_30 : decode prog_2_method_4_code 30 = .ok (.invokevirtual 62, 3) := by decide +kernel
theorem nd_EN_turnSending_33 : decode prog_2_method_4_code 33 = .ok (.astore_n 2, 1) := by decide +kernel
theorem nd_EN_turnSending_34 : decode prog_2_method_4_code 34 = .ok (.aload_n 0, 1) := by decide +kernel
theorem nd_EN_turnSending_35 : decode prog_2_method_4_code 35 = .ok (.aload_n 1, 1) := by decide +kernel
theorem nd_EN_turnSending_36 : decode prog_2_method_4_code 36 = .ok (.iconst 5, 1) := by decide +kernel
theorem nd_EN_turnSending_37 : decode prog_2_method_4_code 37 = .ok (.aload_n 0, 1) := by decide +kernel
theorem nd_EN_turnSending_38 : decode prog_2_method_4_code 38 = .ok (.getfield 21, 3) := by decide +kernel
theorem nd_EN_turnSending_41 : decode prog_2_method_4_code 41 = .ok (.aload_n 2, 1) := by decide +kernel
theorem nd_EN_turnSending_42 : decode prog_2_method_4_code 42 = .ok (.invokevirtual 66, 3) := by decide +kernel
theorem nd_EN_turnSending_45 : decode prog_2_method_4_code 45 = .ok (.putfield 37, 3) := by decide +kernel
theorem nd_EN_turnSending_48 : decode prog_2_method_4_code 48 = .ok (.aload_n 0, 1) := by decide +kernel
theorem nd_EN_turnSending_49 : decode prog_2_method_4_code 49 = .ok (.aload_n 1, 1) := by decide +kernel
theorem nd_EN_turnSending_50 : decode prog_2_method_4_code 50 = .ok (.iconst 4, 1) := by decide +kernel
theorem nd_EN_turnSending_51 : decode prog_2_method_4_code 51 = .ok (.aload_n 0, 1) := by decide +kernel
theorem nd_EN_turnSending_52 : decode prog_2_method_4_code 52 = .ok (.getfield 21, 3) := by decide +kernel
theorem nd_EN_turnSending_55 : decode prog_2_method_4_code 55 = .ok (.aload_n 2, 1) := by decide +kernel
theorem nd_EN_turnSending_56 : decode prog_2_method_4_code 56 = .ok (.invokevirtual 66, 3) := by decide +kernel
theorem nd_EN_turnSending_59 : decode prog_2_method_4_code 59 = .ok (.putfield 21, 3) := by decide +kernel
theorem nd_EN_turnSending_62 : decode prog_2_method_4_code 62 = .ok (.return_, 1) := by decide +kernel
theorem nd_EN_sealedWire_0 : decode prog_2_method_5_code 0 = .ok (.aload_n 3, 1) := by decide +kernel
theorem nd_EN_sealedWire_1 : decode prog_2_method_5_code 1 = .ok (.bipush 6, 2) := by decide +kernel
theorem nd_EN_sealedWire_3 : decode prog_2_method_5_code 3 = .ok (.aload_n 0, 1) := by decide +kernel
theorem nd_EN_sealedWire_4 : decode prog_2_method_5_code 4 = .ok (.getfield 37, 3) := by decide +kernel
theorem nd_EN_sealedWire_7 : decode prog_2_method_5_code 7 = .ok (.aconst_null, 1) := by decide +kernel
theorem nd_EN_sealedWire_8 : decode prog_2_method_5_code 8 = .ok (.invokevirtual 66, 3) := by decide +kernel
theorem nd_EN_sealedWire_11 : decode prog_2_method_5_code 11 = .ok (.astore 4, 2) := by decide +kernel
theorem nd_EN_sealedWire_13 : decode prog_2_method_5_code 13 = .ok (.new 70, 3) := by decide +kernel
theorem nd_EN_sealedWire_16 : decode prog_2_method_5_code 16 = .ok (.dup, 1) := by decide +kernel
theorem nd_EN_sealedWire_17 : decode prog_2_method_5_code 17 = .ok (.iload_n 1, 1) := by decide +kernel
theorem nd_EN_sealedWire_18 : decode prog_2_method_5_code 18 = .ok (.aload_n 0, 1) := by decide +kernel
theorem nd_EN_sealedWire_19 : decode prog_2_method_5_code 19 = .ok (.getfield 40, 3) := by decide +kernel
theorem nd_EN_sealedWire_22 : decode prog_2_method_5_code 22 = .ok (.aload_n 0, 1) := by decide +kernel
theorem nd_EN_sealedWire_23 : decode prog_2_method_5_code 23 = .ok (.getfield 44, 3) := by decide +kernel
theorem nd_EN_sealedWire_26 : decode prog_2_method_5_code 26 = .ok (.aload_n 3, 1) := by decide +kernel
theorem nd_EN_sealedWire_27 : decode prog_2_method_5_code 27 = .ok (.aload_n 0, 1) := by decide +kernel
theorem nd_EN_sealedWire_28 : decode prog_2_method_5_code 28 = .ok (.getfield 24, 3) := by decide +kernel
theorem nd_EN_sealedWire_31 : decode prog_2_method_5_code 31 = .ok (.invokevirtual 72, 3) := by decide +kernel
theorem nd_EN_sealedWire_34 : decode prog_2_method_5_code 34 = .ok (.aload 4, 2) := by decide +kernel
theorem nd_EN_sealedWire_36 : decode prog_2_method_5_code 36 = .ok (.aload_n 2, 1) := by decide +kernel
theorem nd_EN_sealedWire_37 : decode prog_2_method_5_code 37 = .ok (.invokespecial 76, 3) := by decide +kernel
theorem nd_EN_sealedWire_40 : decode prog_2_method_5_code 40 = .ok (.astore 5, 2) := by decide +kernel
theorem nd_EN_sealedWire_42 : decode prog_2_method_5_code 42 = .ok (.aload_n 0, 1) := by decide +kernel
theorem nd_EN_sealedWire_43 : decode prog_2_method_5_code 43 = .ok (.aload_n 3, 1) := by decide +kernel
theorem nd_EN_sealedWire_44 : decode prog_2_method_5_code 44 = .ok (.bipush 7, 2) := by decide +kernel
theorem nd_EN_sealedWire_46 : decode prog_2_method_5_code 46 = .ok (.aload_n 0, 1) := by decide +kernel
theorem nd_EN_sealedWire_47 : decode prog_2_method_5_code 47 = .ok (.getfield 37, 3) := by decide +kernel
theorem nd_EN_sealedWire_50 : decode prog_2_method_5_code 50 = .ok (.aconst_null, 1) := by decide +kernel
theorem nd_EN_sealedWire_51 : decode prog_2_method_5_code 51 = .ok (.invokevirtual 66, 3) := by decide +kernel
theorem nd_EN_sealedWire_54 : decode prog_2_method_5_code 54 = .ok (.putfield 37, 3) := by decide +kernel
theorem nd_EN_sealedWire_57 : decode prog_2_method_5_code 57 = .ok (.aload_n 0, 1) := by decide +kernel
theorem nd_EN_sealedWire_58 : decode prog_2_method_5_code 58 = .ok (.dup, 1) := by decide +kernel
theorem nd_EN_sealedWire_59 : decode prog_2_method_5_code 59 = .ok (.getfield 40, 3) := by decide +kernel
theorem nd_EN_sealedWire_62 : decode prog_2_method_5_code 62 = .ok (.iconst 1, 1) := by decide +kernel
theorem nd_EN_sealedWire_63 : decode prog_2_method_5_code 63 = .ok (.iadd, 1) := by decide +kernel
theorem nd_EN_sealedWire_64 : decode prog_2_method_5_code 64 = .ok (.putfield 40, 3) := by decide +kernel
theorem nd_EN_sealedWire_67 : decode prog_2_method_5_code 67 = .ok (.aload 5, 2) := by decide +kernel
theorem nd_EN_sealedWire_69 : decode prog_2_method_5_code 69 = .ok (.areturn, 1) := by decide +kernel
theorem nd_TK_giveWire_0 : decode prog_1_method_17_code 0 = .ok (.aload_n 0, 1) := by decide +kernel
theorem nd_TK_giveWire_1 : decode prog_1_method_17_code 1 = .ok (.getfield 10, 3) := by decide +kernel
theorem nd_TK_giveWire_4 : decode prog_1_method_17_code 4 = .ok (.aload_n 2, 1) := by decide +kernel
theorem nd_TK_giveWire_5 : decode prog_1_method_17_code 5 = .ok (.invokevirtual 118, 3) := by decide +kernel
theorem nd_TK_giveWire_8 : decode prog_1_method_17_code 8 = .ok (.pop, 1) := by decide +kernel
theorem nd_TK_giveWire_9 : decode prog_1_method_17_code 9 = .ok (.aload_n 0, 1) := by decide +kernel
theorem nd_TK_giveWire_10 : decode prog_1_method_17_code 10 = .ok (.getfield 10, 3) := by decide +kernel
theorem nd_TK_giveWire_13 : decode prog_1_method_17_code 13 = .ok (.aload_n 1, 1) := by decide +kernel
theorem nd_TK_giveWire_14 : decode prog_1_method_17_code 14 = .ok (.getfield 178, 3) := by decide +kernel
theorem nd_TK_giveWire_17 : decode prog_1_method_17_code 17 = .ok (.invokevirtual 118, 3) := by decide +kernel
theorem nd_TK_giveWire_20 : decode prog_1_method_17_code 20 = .ok (.pop, 1) := by decide +kernel
theorem nd_TK_giveWire_21 : decode prog_1_method_17_code 21 = .ok (.aload_n 0, 1) := by decide +kernel
theorem nd_TK_giveWire_22 : decode prog_1_method_17_code 22 = .ok (.getfield 10, 3) := by decide +kernel
theorem nd_TK_giveWire_25 : decode prog_1_method_17_code 25 = .ok (.aload_n 0, 1) := by decide +kernel
theorem nd_TK_giveWire_26 : decode prog_1_method_17_code 26 = .ok (.getfield 10, 3) := by decide +kernel
theorem nd_TK_giveWire_29 : decode prog_1_method_17_code 29 = .ok (.iconst 3, 1) := by decide +kernel
theorem nd_TK_giveWire_30 : decode prog_1_method_17_code 30 = .ok (.aload_n 1, 1) := by decide +kernel
theorem nd_TK_giveWire_31 : decode prog_1_method_17_code 31 = .ok (.getfield 115, 3) := by decide +kernel
theorem nd_TK_giveWire_34 : decode prog_1_method_17_code 34 = .ok (.aload_n 1, 1) := by decide +kernel
theorem nd_TK_giveWire_35 : decode prog_1_method_17_code 35 = .ok (.getfield 144, 3) := by decide +kernel
theorem nd_TK_giveWire_38 : decode prog_1_method_17_code 38 = .ok (.invokevirtual 30, 3) := by decide +kernel
theorem nd_TK_giveWire_41 : decode prog_1_method_17_code 41 = .ok (.invokevirtual 118, 3) := by decide +kernel
theorem nd_TK_giveWire_44 : decode prog_1_method_17_code 44 = .ok (.pop, 1) := by decide +kernel
theorem nd_TK_giveWire_45 : decode prog_1_method_17_code 45 = .ok (.return_, 1) := by decide +kernel
theorem nd_TK_take_0 : decode prog_1_method_3_code 0 = .ok (.aload_n 0, 1) := by decide +kernel
theorem nd_TK_take_1 : decode prog_1_method_3_code 1 = .ok (.getfield 44, 3) := by decide +kernel
theorem nd_TK_take_4 : decode prog_1_method_3_code 4 = .ok (.iload_n 1, 1) := by decide +kernel
theorem nd_TK_take_5 : decode prog_1_method_3_code 5 = .ok (.invokestatic 66, 3) := by decide +kernel
theorem nd_TK_take_8 : decode prog_1_method_3_code 8 = .ok (.astore_n 3, 1) := by decide +kernel
theorem nd_TK_take_9 : decode prog_1_method_3_code 9 = .ok (.aload_n 0, 1) := by decide +kernel
theorem nd_TK_take_10 : decode prog_1_method_3_code 10 = .ok (.iload_n 2, 1) := by decide +kernel
theorem nd_TK_take_11 : decode prog_1_method_3_code 11 = .ok (.invokevirtual 97, 3) := by decide +kernel
theorem nd_TK_take_14 : decode prog_1_method_3_code 14 = .ok (.astore 4, 2) := by decide +kernel
theorem nd_TK_take_16 : decode prog_1_method_3_code 16 = .ok (.aload_n 3, 1) := by decide +kernel
theorem nd_TK_take_17 : decode prog_1_method_3_code 17 = .ok (.ifnull 8, 3) := by decide +kernel
theorem nd_TK_take_20 : decode prog_1_method_3_code 20 = .ok (.aload 4, 2) := by decide +kernel
theorem nd_TK_take_22 : decode prog_1_method_3_code 22 = .ok (.ifnonnull 5, 3) := by decide +kernel
theorem nd_TK_take_25 : decode prog_1_method_3_code 25 = .ok (.iconst (-1), 1) := by decide +kernel
theorem nd_TK_take_26 : decode prog_1_method_3_code 26 = .ok (.ireturn, 1) := by decide +kernel
theorem nd_TK_take_27 : decode prog_1_method_3_code 27 = .ok (.aload 4, 2) := by decide +kernel
theorem nd_TK_take_29 : decode prog_1_method_3_code 29 = .ok (.getfield 101, 3) := by decide +kernel
theorem nd_TK_take_32 : decode prog_1_method_3_code 32 = .ok (.iload_n 1, 1) := by decide +kernel
theorem nd_TK_take_33 : decode prog_1_method_3_code 33 = .ok (.if_icmp .ne 6, 3) := by decide +kernel
theorem nd_TK_take_36 : decode prog_1_method_3_code 36 = .ok (.bipush (-11), 2) := by decide +kernel
theorem nd_TK_take_38 : decode prog_1_method_3_code 38 = .ok (.ireturn, 1) := by decide +kernel
theorem nd_TK_take_39 : decode prog_1_method_3_code 39 = .ok (.aload_n 0, 1) := by decide +kernel
theorem nd_TK_take_40 : decode prog_1_method_3_code 40 = .ok (.invokevirtual 70, 3) := by decide +kernel
theorem nd_TK_take_43 : decode prog_1_method_3_code 43 = .ok (.ifCond .ne 5, 3) := by decide +kernel
theorem nd_TK_take_46 : decode prog_1_method_3_code 46 = .ok (.iconst (-1), 1) := by decide +kernel
theorem nd_TK_take_47 : decode prog_1_method_3_code 47 = .ok (.ireturn, 1) := by decide +kernel
theorem nd_TK_take_48 : decode prog_1_method_3_code 48 = .ok (.aload_n 0, 1) := by decide +kernel
theorem nd_TK_take_49 : decode prog_1_method_3_code 49 = .ok (.getfield 55, 3) := by decide +kernel
theorem nd_TK_take_52 : decode prog_1_method_3_code 52 = .ok (.aload_n 3, 1) := by decide +kernel
theorem nd_TK_take_53 : decode prog_1_method_3_code 53 = .ok (.invokevirtual 107, 3) := by decide +kernel
theorem nd_TK_take_56 : decode prog_1_method_3_code 56 = .ok (.aload_n 0, 1) := by decide +kernel
theorem nd_TK_take_57 : decode prog_1_method_3_code 57 = .ok (.getfield 55, 3) := by decide +kernel
theorem nd_TK_take_60 : decode prog_1_method_3_code 60 = .ok (.aload 4, 2) := by decide +kernel
theorem nd_TK_take_62 : decode prog_1_method_3_code 62 = .ok (.aload_n 0, 1) := by decide +kernel
theorem nd_TK_take_63 : decode prog_1_method_3_code 63 = .ok (.getfield 10, 3) := by decide +kernel
theorem nd_TK_take_66 : decode prog_1_method_3_code 66 = .ok (.invokevirtual 111, 3) := by decide +kernel
theorem nd_TK_take_69 : decode prog_1_method_3_code 69 = .ok (.astore 5, 2) := by decide +kernel
theorem nd_TK_take_71 : decode prog_1_method_3_code 71 = .ok (.aload 5, 2) := by decide +kernel
theorem nd_TK_take_73 : decode prog_1_method_3_code 73 = .ok (.ifnonnull 6, 3) := by decide +kernel
theorem nd_TK_take_76 : decode prog_1_method_3_code 76 = .ok (.bipush (-13), 2) := by decide +kernel
theorem nd_TK_take_78 : decode prog_1_method_3_code 78 = .ok (.ireturn, 1) := by decide +kernel
theorem nd_TK_take_79 : decode prog_1_method_3_code 79 = .ok (.aload 5, 2) := by decide +kernel
theorem nd_TK_take_81 : decode prog_1_method_3_code 81 = .ok (.aload 4, 2) := by decide +kernel
theorem nd_TK_take_83 : decode prog_1_method_3_code 83 = .ok (.getfield 115, 3) := by decide +kernel
theorem nd_TK_take_86 : decode prog_1_method_3_code 86 = .ok (.if_acmp .eq 6, 3) := by decide +kernel
theorem nd_TK_take_89 : decode prog_1_method_3_code 89 = .ok (.bipush (-14), 2) := by decide +kernel
theorem nd_TK_take_91 : decode prog_1_method_3_code 91 = .ok (.ireturn, 1) := by decide +kernel
theorem nd_TK_take_92 : decode prog_1_method_3_code 92 = .ok (.aload_n 3, 1) := by decide +kernel
theorem nd_TK_take_93 : decode prog_1_method_3_code 93 = .ok (.aload_n 0, 1) := by decide +kernel
theorem nd_TK_take_94 : decode prog_1_method_3_code 94 = .ok (.getfield 55, 3) := by decide +kernel
theorem nd_TK_take_97 : decode prog_1_method_3_code 97 = .ok (.invokevirtual 107, 3) := by decide +kernel
theorem nd_TK_take_100 : decode prog_1_method_3_code 100 = .ok (.iconst 1, 1) := by decide +kernel
theorem nd_TK_take_101 : decode prog_1_method_3_code 101 = .ok (.ireturn, 1) := by decide +kernel
theorem nd_TK_wireAt_0 : decode prog_1_method_14_code 0 = .ok (.iload_n 1, 1) := by decide +kernel
theorem nd_TK_wireAt_1 : decode prog_1_method_14_code 1 = .ok (.ifCond .lt 28, 3) := by decide +kernel
theorem nd_TK_wireAt_4 : decode prog_1_method_14_code 4 = .ok (.iload_n 1, 1) := by decide +kernel
theorem nd_TK_wireAt_5 : decode prog_1_method_14_code 5 = .ok (.aload_n 0, 1) := by decide +kernel
theorem nd_TK_wireAt_6 : decode prog_1_method_14_code 6 = .ok (.getfield 62, 3) := by decide +kernel
theorem nd_TK_wireAt_9 : decode prog_1_method_14_code 9 = .ok (.invokevirtual 93, 3) := by decide +kernel
theorem nd_TK_wireAt_12 : decode prog_1_method_14_code 12 = .ok (.if_icmp .ge 17, 3) := by decide +kernel
theorem nd_TK_wireAt_15 : decode prog_1_method_14_code 15 = .ok (.aload_n 0, 1) := by decide +kernel
theorem nd_TK_wireAt_16 : decode prog_1_method_14_code 16 = .ok (.getfield 62, 3) := by decide +kernel
theorem nd_TK_wireAt_19 : decode prog_1_method_14_code 19 = .ok (.iload_n 1, 1) := by decide +kernel
theorem nd_TK_wireAt_20 : decode prog_1_method_14_code 20 = .ok (.invokevirtual 171, 3) := by decide +kernel
theorem nd_TK_wireAt_23 : decode prog_1_method_14_code 23 = .ok (.checkcast 102, 3) := by decide +kernel
theorem nd_TK_wireAt_26 : decode prog_1_method_14_code 26 = .ok (.goto 4, 3) := by decide +kernel
theorem nd_TK_wireAt_29 : decode prog_1_method_14_code 29 = .ok (.aconst_null, 1) := by decide +kernel
theorem nd_TK_wireAt_30 : decode prog_1_method_14_code 30 = .ok (.areturn, 1) := by decide +kernel
theorem nd_EN_keyFor_0 : decode prog_2_method_6_code 0 = .ok (.aload_n 0, 1) := by decide +kernel
theorem nd_EN_keyFor_1 : decode prog_2_method_6_code 1 = .ok (.aload_n 1, 1) := by decide +kernel
theorem nd_EN_keyFor_2 : decode prog_2_method_6_code 2 = .ok (.getfield 79, 3) := by decide +kernel
theorem nd_EN_keyFor_5 : decode prog_2_method_6_code 5 = .ok (.aload_n 1, 1) := by decide +kernel
theorem nd_EN_keyFor_6 : decode prog_2_method_6_code 6 = .ok (.getfield 82, 3) := by decide +kernel
theorem nd_EN_keyFor_9 : decode prog_2_method_6_code 9 = .ok (.invokevirtual 85, 3) := by decide +kernel
theorem nd_EN_keyFor_12 : decode prog_2_method_6_code 12 = .ok (.astore_n 3, 1) := by decide +kernel
theorem nd_EN_keyFor_13 : decode prog_2_method_6_code 13 = .ok (.aload_n 3, 1) := by decide +kernel
theorem nd_EN_keyFor_14 : decode prog_2_method_6_code 14 = .ok (.ifnull 5, 3) := by decide +kernel
theorem nd_EN_keyFor_17 : decode prog_2_method_6_code 17 = .ok (.aload_n 3, 1) := by decide +kernel
theorem nd_EN_keyFor_18 : decode prog_2_method_6_code 18 = .ok (.areturn, 1) := by decide +kernel
theorem nd_EN_keyFor_19 : decode prog_2_method_6_code 19 = .ok (.aload_n 1, 1) := by decide +kernel
theorem nd_EN_keyFor_20 : decode prog_2_method_6_code 20 = .ok (.getfield 79, 3) := by decide +kernel
theorem nd_EN_keyFor_23 : decode prog_2_method_6_code 23 = .ok (.aload_n 0, 1) := by decide +kernel
theorem nd_EN_keyFor_24 : decode prog_2_method_6_code 24 = .ok (.getfield 34, 3) := by decide +kernel
theorem nd_EN_keyFor_27 : decode prog_2_method_6_code 27 = .ok (.if_acmp .ne 10, 3) := by decide +kernel
theorem nd_EN_keyFor_30 : decode prog_2_method_6_code 30 = .ok (.aload_n 0, 1) := by decide +kernel
theorem nd_EN_keyFor_31 : decode prog_2_method_6_code 31 = .ok (.getfield 47, 3) := by decide +kernel
theorem nd_EN_keyFor_34 : decode prog_2_method_6_code 34 = .ok (.ifnonnull 44, 3) := by decide +kernel
theorem nd_EN_keyFor_37 : decode prog_2_method_6_code 37 = .ok (.aload_n 0, 1) := by decide +kernel
theorem nd_EN_keyFor_38 : decode prog_2_method_6_code 38 = .ok (.getfield 47, 3) := by decide +kernel
theorem nd_EN_keyFor_41 : decode prog_2_method_6_code 41 = .ok (.ifnull 28, 3) := by decide +kernel
theorem nd_EN_keyFor_44 : decode prog_2_method_6_code 44 = .ok (.aload_n 1, 1) := by decide +kernel
theorem nd_EN_keyFor_45 : decode prog_2_method_6_code 45 = .ok (.getfield 89, 3) := by decide +kernel
theorem nd_EN_keyFor_48 : decode prog_2_method_6_code 48 = .ok (.aload_n 0, 1) := by decide +kernel
theorem nd_EN_keyFor_49 : decode prog_2_method_6_code 49 = .ok (.getfield 50, 3) := by decide +kernel
theorem nd_EN_keyFor_52 : decode prog_2_method_6_code 52 = .ok (.if_icmp .le 17, 3) := by decide +kernel
theorem nd_EN_keyFor_55 : decode prog_2_method_6_code 55 = .ok (.aload_n 0, 1) := by decide +kernel
theorem nd_EN_keyFor_56 : decode prog_2_method_6_code 56 = .ok (.aload_n 1, 1) := by decide +kernel
theorem nd_EN_keyFor_57 : decode prog_2_method_6_code 57 = .ok (.getfield 89, 3) := by decide +kernel
theorem nd_EN_keyFor_60 : decode prog_2_method_6_code 60 = .ok (.aload_n 2, 1) := by decide +kernel
theorem nd_EN_keyFor_61 : decode prog_2_method_6_code 61 = .ok (.invokevirtual 90, 3) := by decide +kernel
theorem nd_EN_keyFor_64 : decode prog_2_method_6_code 64 = .ok (.ifCond .ne 5, 3) := by decide +kernel
theorem nd_EN_keyFor_67 : decode prog_2_method_6_code 67 = .ok (.aconst_null, 1) := by decide +kernel
theorem nd_EN_keyFor_68 : decode prog_2_method_6_code 68 = .ok (.areturn, 1) := by decide +kernel
theorem nd_EN_keyFor_69 : decode prog_2_method_6_code 69 = .ok (.aload_n 0, 1) := by decide +kernel
theorem nd_EN_keyFor_70 : decode prog_2_method_6_code 70 = .ok (.aload_n 1, 1) := by decide +kernel
theorem nd_EN_keyFor_71 : decode prog_2_method_6_code 71 = .ok (.getfield 79, 3) := by decide +kernel
theorem nd_EN_keyFor_74 : decode prog_2_method_6_code 74 = .ok (.aload_n 2, 1) := by decide +kernel
theorem nd_EN_keyFor_75 : decode prog_2_method_6_code 75 = .ok (.invokevirtual 94, 3) := by decide +kernel
theorem nd_EN_keyFor_78 : decode prog_2_method_6_code 78 = .ok (.aload_n 1, 1) := by decide +kernel
theorem nd_EN_keyFor_79 : decode prog_2_method_6_code 79 = .ok (.getfield 82, 3) := by decide +kernel
theorem nd_EN_keyFor_82 : decode prog_2_method_6_code 82 = .ok (.aload_n 0, 1) := by decide +kernel
theorem nd_EN_keyFor_83 : decode prog_2_method_6_code 83 = .ok (.getfield 50, 3) := by decide +kernel
theorem nd_EN_keyFor_86 : decode prog_2_method_6_code 86 = .ok (.if_icmp .lt 15, 3) := by decide +kernel
theorem nd_EN_keyFor_89 : decode prog_2_method_6_code 89 = .ok (.aload_n 0, 1) := by decide +kernel
theorem nd_EN_keyFor_90 : decode prog_2_method_6_code 90 = .ok (.aload_n 1, 1) := by decide +kernel
theorem nd_EN_keyFor_91 : decode prog_2_method_6_code 91 = .ok (.getfield 82, 3) := by decide +kernel
theorem nd_EN_keyFor_94 : decode prog_2_method_6_code 94 = .ok (.aload_n 2, 1) := by decide +kernel
theorem nd_EN_keyFor_95 : decode prog_2_method_6_code 95 = .ok (.invokevirtual 90, 3) := by decide +kernel
theorem nd_EN_keyFor_98 : decode prog_2_method_6_code 98 = .ok (.ifCond .ne 5, 3) := by decide +kernel
theorem nd_EN_keyFor_101 : decode prog_2_method_6_code 101 = .ok (.aconst_null, 1) := by decide +kernel
theorem nd_EN_keyFor_102 : decode prog_2_method_6_code 102 = .ok (.areturn, 1) := by decide +kernel
theorem nd_EN_keyFor_103 : decode prog_2_method_6_code 103 = .ok (.aload_n 0, 1) := by decide +kernel
theorem nd_EN_keyFor_104 : decode prog_2_method_6_code 104 = .ok (.aload_n 2, 1) := by decide +kernel
theorem nd_EN_keyFor_105 : decode prog_2_method_6_code 105 = .ok (.invokevirtual 98, 3) := by decide +kernel
theorem nd_EN_keyFor_108 : decode prog_2_method_6_code 108 = .ok (.areturn, 1) := by decide +kernel
theorem nd_EN_pulledLeftKey_0 : decode prog_2_method_11_code 0 = .ok (.iconst 0, 1) := by decide +kernel
theorem nd_EN_pulledLeftKey_1 : decode prog_2_method_11_code 1 = .ok (.istore_n 3, 1) := by decide +kernel
theorem nd_EN_pulledLeftKey_2 : decode prog_2_method_11_code 2 = .ok (.iload_n 3, 1) := by decide +kernel
theorem nd_EN_pulledLeftKey_3 : decode prog_2_method_11_code 3 = .ok (.aload_n 0, 1) := by decide +kernel
theorem nd_EN_pulledLeftKey_4 : decode prog_2_method_11_code 4 = .ok (.getfield 53, 3) := by decide +kernel
theorem nd_EN_pulledLeftKey_7 : decode prog_2_method_11_code 7 = .ok (.if_icmp .ge 51, 3) := by decide +kernel
theorem nd_EN_pulledLeftKey_10 : decode prog_2_method_11_code 10 = .ok (.aload_n 0, 1) := by decide +kernel
theorem nd_EN_pulledLeftKey_11 : decode prog_2_method_11_code 11 = .ok (.getfield 11, 3) := by decide +kernel
theorem nd_EN_pulledLeftKey_14 : decode prog_2_method_11_code 14 = .ok (.iload_n 3, 1) := by decide +kernel
theorem nd_EN_pulledLeftKey_15 : decode prog_2_method_11_code 15 = .ok (.aaload, 1) := by decide +kernel
theorem nd_EN_pulledLeftKey_16 : decode prog_2_method_11_code 16 = .ok (.astore 4, 2) := by decide +kernel
theorem nd_EN_pulledLeftKey_18 : decode prog_2_method_11_code 18 = .ok (.aload 4, 2) := by decide +kernel
theorem nd_EN_pulledLeftKey_20 : decode prog_2_method_11_code 20 = .ok (.ifnull 32, 3) := by decide +kernel
theorem nd_EN_pulledLeftKey_23 : decode prog_2_method_11_code 23 = .ok (.aload 4, 2) := by decide +kernel
theorem nd_EN_pulledLeftKey_25 : decode prog_2_method_11_code 25 = .ok (.getfield 113, 3) := by decide +kernel
theorem nd_EN_pulledLeftKey_28 : decode prog_2_method_11_code 28 = .ok (.aload_n 1, 1) := by decide +kernel
theorem nd_EN_pulledLeftKey_29 : decode prog_2_method_11_code 29 = .ok (.if_acmp .ne 23, 3) := by decide +kernel
theorem nd_EN_pulledLeftKey_32 : decode prog_2_method_11_code 32 = .ok (.aload 4, 2) := by decide +kernel
theorem nd_EN_pulledLeftKey_34 : decode prog_2_method_11_code 34 = .ok (.getfield 114, 3) := by decide +kernel
theorem nd_EN_pulledLeftKey_37 : decode prog_2_method_11_code 37 = .ok (.iload_n 2, 1) := by decide +kernel
theorem nd_EN_pulledLeftKey_38 : decode prog_2_method_11_code 38 = .ok (.if_icmp .ne 14, 3) := by decide +kernel
theorem nd_EN_pulledLeftKey_41 : decode prog_2_method_11_code 41 = .ok (.aload_n 0, 1) := by decide +kernel
theorem nd_EN_pulledLeftKey_42 : decode prog_2_method_11_code 42 = .ok (.iload_n 3, 1) := by decide +kernel
theorem nd_EN_pulledLeftKey_43 : decode prog_2_method_11_code 43 = .ok (.invokevirtual 109, 3) := by decide +kernel
theorem nd_EN_pulledLeftKey_46 : decode prog_2_method_11_code 46 = .ok (.aload 4, 2) := by decide +kernel
theorem nd_EN_pulledLeftKey_48 : decode prog_2_method_11_code 48 = .ok (.getfield 115, 3) := by decide +kernel
theorem nd_EN_pulledLeftKey_51 : decode prog_2_method_11_code 51 = .ok (.areturn, 1) := by decide +kernel
theorem nd_EN_pulledLeftKey_52 : decode prog_2_method_11_code 52 = .ok (.iinc 3 1, 3) := by decide +kernel
theorem nd_EN_pulledLeftKey_55 : decode prog_2_method_11_code 55 = .ok (.goto (-53), 3) := by decide +kernel
theorem nd_EN_pulledLeftKey_58 : decode prog_2_method_11_code 58 = .ok (.aconst_null, 1) := by decide +kernel
theorem nd_EN_pulledLeftKey_59 : decode prog_2_method_11_code 59 = .ok (.areturn, 1) := by decide +kernel
theorem nd_EN_dropLeftKey_0 : decode prog_2_method_12_code 0 = .ok (.iload_n 1, 1) := by decide +kernel
theorem nd_EN_dropLeftKey_1 : decode prog_2_method_12_code 1 = .ok (.istore_n 2, 1) := by decide +kernel
theorem nd_EN_dropLeftKey_2 : decode prog_2_method_12_code 2 = .ok (.iload_n 2, 1) := by decide +kernel
theorem nd_EN_dropLeftKey_3 : decode prog_2_method_12_code 3 = .ok (.iconst 1, 1) := by decide +kernel
theorem nd_EN_dropLeftKey_4 : decode prog_2_method_12_code 4 = .ok (.iadd, 1) := by decide +kernel
theorem nd_EN_dropLeftKey_5 : decode prog_2_method_12_code 5 = .ok (.aload_n 0, 1) := by decide +kernel
theorem nd_EN_dropLeftKey_6 : decode prog_2_method_12_code 6 = .ok (.getfield 53, 3) := by decide +kernel
theorem nd_EN_dropLeftKey_9 : decode prog_2_method_12_code 9 = .ok (.if_icmp .ge 23, 3) := by decide +kernel
theorem nd_EN_dropLeftKey_12 : decode prog_2_method_12_code 12 = .ok (.aload_n 0, 1) := by decide +kernel
theorem nd_EN_dropLeftKey_13 : decode prog_2_method_12_code 13 = .ok (.getfield 11, 3) := by decide +kernel
theorem nd_EN_dropLeftKey_16 : decode prog_2_method_12_code 16 = .ok (.iload_n 2, 1) := by decide +kernel
theorem nd_EN_dropLeftKey_17 : decode prog_2_method_12_code 17 = .ok (.aload_n 0, 1) := by decide +kernel
theorem nd_EN_dropLeftKey_18 : decode prog_2_method_12_code 18 = .ok (.getfield 11, 3) := by decide +kernel
theorem nd_EN_dropLeftKey_21 : decode prog_2_method_12_code 21 = .ok (.iload_n 2, 1) := by decide +kernel
theorem nd_EN_dropLeftKey_22 : decode prog_2_method_12_code 22 = .ok (.iconst 1, 1) := by decide +kernel
theorem nd_EN_dropLeftKey_23 : decode prog_2_method_12_code 23 = .ok (.iadd, 1) := by decide +kernel
theorem nd_EN_dropLeftKey_24 : decode prog_2_method_12_code 24 = .ok (.aaload, 1) := by decide +kernel
theorem nd_EN_dropLeftKey_25 : decode prog_2_method_12_code 25 = .ok (.aastore, 1) := by decide +kernel
theorem nd_EN_dropLeftKey_26 : decode prog_2_method_12_code 26 = .ok (.iinc 2 1, 3) := by decide +kernel
theorem nd_EN_dropLeftKey_29 : decode prog_2_method_12_code 29 = .ok (.goto (-27), 3) := by decide +kernel
theorem nd_EN_dropLeftKey_32 : decode prog_2_method_12_code 32 = .ok (.aload_n 0, 1) := by decide +kernel
theorem nd_EN_dropLeftKey_33 : decode prog_2_method_12_code 33 = .ok (.dup, 1) := by decide +kernel
theorem nd_EN_dropLeftKey_34 : decode prog_2_method_12_code 34 = .ok (.getfield 53, 3) := by decide +kernel
theorem nd_EN_dropLeftKey_37 : decode prog_2_method_12_code 37 = .ok (.iconst 1, 1) := by decide +kernel
theorem nd_EN_dropLeftKey_38 : decode prog_2_method_12_code 38 = .ok (.isub, 1) := by decide +kernel
theorem nd_EN_dropLeftKey_39 : decode prog_2_method_12_code 39 = .ok (.putfield 53, 3) := by decide +kernel
theorem nd_EN_dropLeftKey_42 : decode prog_2_method_12_code 42 = .ok (.aload_n 0, 1) := by decide +kernel
theorem nd_EN_dropLeftKey_43 : decode prog_2_method_12_code 43 = .ok (.getfield 11, 3) := by decide +kernel
theorem nd_EN_dropLeftKey_46 : decode prog_2_method_12_code 46 = .ok (.aload_n 0, 1) := by decide +kernel
theorem nd_EN_dropLeftKey_47 : decode prog_2_method_12_code 47 = .ok (.getfield 53, 3) := by decide +kernel
theorem nd_EN_dropLeftKey_50 : decode prog_2_method_12_code 50 = .ok (.aconst_null, 1) := by decide +kernel
theorem nd_EN_dropLeftKey_51 : decode prog_2_method_12_code 51 = .ok (.aastore, 1) := by decide +kernel
theorem nd_EN_dropLeftKey_52 : decode prog_2_method_12_code 52 = .ok (.return_, 1) := by decide +kernel
theorem nd_EN_skipsTo_0 : decode prog_2_method_8_code 0 = .ok (.iload_n 1, 1) := by decide +kernel
theorem nd_EN_skipsTo_1 : decode prog_2_method_8_code 1 = .ok (.aload_n 0, 1) := by decide +kernel
theorem nd_EN_skipsTo_2 : decode prog_2_method_8_code 2 = .ok (.getfield 50, 3) := by decide +kernel
theorem nd_EN_skipsTo_5 : decode prog_2_method_8_code 5 = .ok (.isub, 1) := by decide +kernel
theorem nd_EN_skipsTo_6 : decode prog_2_method_8_code 6 = .ok (.iconst 5, 1) := by decide +kernel
theorem nd_EN_skipsTo_7 : decode prog_2_method_8_code 7 = .ok (.if_icmp .le 5, 3) := by decide +kernel
theorem nd_EN_skipsTo_10 : decode prog_2_method_8_code 10 = .ok (.iconst 0, 1) := by decide +kernel
theorem nd_EN_skipsTo_11 : decode prog_2_method_8_code 11 = .ok (.ireturn, 1) := by decide +kernel
theorem nd_EN_skipsTo_12 : decode prog_2_method_8_code 12 = .ok (.aload_n 0, 1) := by decide +kernel
theorem nd_EN_skipsTo_13 : decode prog_2_method_8_code 13 = .ok (.getfield 50, 3) := by decide +kernel
theorem nd_EN_skipsTo_16 : decode prog_2_method_8_code 16 = .ok (.istore_n 3, 1) := by decide +kernel
theorem nd_EN_skipsTo_17 : decode prog_2_method_8_code 17 = .ok (.iload_n 3, 1) := by decide +kernel
theorem nd_EN_skipsTo_18 : decode prog_2_method_8_code 18 = .ok (.iload_n 1, 1) := by decide +kernel
theorem nd_EN_skipsTo_19 : decode prog_2_method_8_code 19 = .ok (.if_icmp .ge 30, 3) := by decide +kernel
theorem nd_EN_skipsTo_22 : decode prog_2_method_8_code 22 = .ok (.aload_n 0, 1) := by decide +kernel
theorem nd_EN_skipsTo_23 : decode prog_2_method_8_code 23 = .ok (.new 9, 3) := by decide +kernel
theorem nd_EN_skipsTo_26 : decode prog_2_method_8_code 26 = .ok (.dup, 1) := by decide +kernel
theorem nd_EN_skipsTo_27 : decode prog_2_method_8_code 27 = .ok (.aload_n 0, 1) := by decide +kernel
theorem nd_EN_skipsTo_28 : decode prog_2_method_8_code 28 = .ok (.getfield 34, 3) := by decide +kernel
theorem nd_EN_skipsTo_31 : decode prog_2_method_8_code 31 = .ok (.iload_n 3, 1) := by decide +kernel
theorem nd_EN_skipsTo_32 : decode prog_2_method_8_code 32 = .ok (.aload_n 0, 1) := by decide +kernel
theorem nd_EN_skipsTo_33 : decode prog_2_method_8_code 33 = .ok (.aload_n 2, 1) := by decide +kernel
theorem nd_EN_skipsTo_34 : decode prog_2_method_8_code 34 = .ok (.invokevirtual 98, 3) := by decide +kernel
theorem nd_EN_skipsTo_37 : decode prog_2_method_8_code 37 = .ok (.invokespecial 102, 3) := by decide +kernel
theorem nd_EN_skipsTo_40 : decode prog_2_method_8_code 40 = .ok (.invokevirtual 105, 3) := by decide +kernel
theorem nd_EN_skipsTo_43 : decode prog_2_method_8_code 43 = .ok (.iinc 3 1, 3) := by decide +kernel
theorem nd_EN_skipsTo_46 : decode prog_2_method_8_code 46 = .ok (.goto (-29), 3) := by decide +kernel
theorem nd_EN_skipsTo_49 : decode prog_2_method_8_code 49 = .ok (.iconst 1, 1) := by decide +kernel
theorem nd_EN_skipsTo_50 : decode prog_2_method_8_code 50 = .ok (.ireturn, 1) := by decide +kernel
theorem nd_EN_steppedKey_0 : decode prog_2_method_9_code 0 = .ok (.aload_n 1, 1) := by decide +kernel
theorem nd_EN_steppedKey_1 : decode prog_2_method_9_code 1 = .ok (.bipush 6, 2) := by decide +kernel
theorem nd_EN_steppedKey_3 : decode prog_2_method_9_code 3 = .ok (.aload_n 0, 1) := by decide +kernel
theorem nd_EN_steppedKey_4 : decode prog_2_method_9_code 4 = .ok (.getfield 47, 3) := by decide +kernel
theorem nd_EN_steppedKey_7 : decode prog_2_method_9_code 7 = .ok (.aconst_null, 1) := by decide +kernel
theorem nd_EN_steppedKey_8 : decode prog_2_method_9_code 8 = .ok (.invokevirtual 66, 3) := by decide +kernel
theorem nd_EN_steppedKey_11 : decode prog_2_method_9_code 11 = .ok (.astore_n 2, 1) := by decide +kernel
theorem nd_EN_steppedKey_12 : decode prog_2_method_9_code 12 = .ok (.aload_n 0, 1) := by decide +kernel
theorem nd_EN_steppedKey_13 : decode prog_2_method_9_code 13 = .ok (.aload_n 1, 1) := by decide +kernel
theorem nd_EN_steppedKey_14 : decode prog_2_method_9_code 14 = .ok (.bipush 7, 2) := by decide +kernel
theorem nd_EN_steppedKey_16 : decode prog_2_method_9_code 16 = .ok (.aload_n 0, 1) := by decide +kernel
theorem nd_EN_steppedKey_17 : decode prog_2_method_9_code 17 = .ok (.getfield 47, 3) := by decide +kernel
theorem nd_EN_steppedKey_20 : decode prog_2_method_9_code 20 = .ok (.aconst_null, 1) := by decide +kernel
theorem nd_EN_steppedKey_21 : decode prog_2_method_9_code 21 = .ok (.invokevirtual 66, 3) := by decide +kernel
theorem nd_EN_steppedKey_24 : decode prog_2_method_9_code 24 = .ok (.putfield 47, 3) := by decide +kernel
theorem nd_EN_steppedKey_27 : decode prog_2_method_9_code 27 = .ok (.aload_n 0, 1) := by decide +kernel
theorem nd_EN_steppedKey_28 : decode prog_2_method_9_code 28 = .ok (.dup, 1) := by decide +kernel
theorem nd_EN_steppedKey_29 : decode prog_2_method_9_code 29 = .ok (.getfield 50, 3) := by decide +kernel
theorem nd_EN_steppedKey_32 : decode prog_2_method_9_code 32 = .ok (.iconst 1, 1) := by decide +kernel
theorem nd_EN_steppedKey_33 : decode prog_2_method_9_code 33 = .ok (.iadd, 1) := by decide +kernel
theorem nd_EN_steppedKey_34 : decode prog_2_method_9_code 34 = .ok (.putfield 50, 3) := by decide +kernel
theorem nd_EN_steppedKey_37 : decode prog_2_method_9_code 37 = .ok (.aload_n 2, 1) := by decide +kernel
theorem nd_EN_steppedKey_38 : decode prog_2_method_9_code 38 = .ok (.areturn, 1) := by decide +kernel
theorem nd_EN_leave_0 : decode prog_2_method_10_code 0 = .ok (.aload_n 0, 1) := by decide +kernel
theorem nd_EN_leave_1 : decode prog_2_method_10_code 1 = .ok (.getfield 53, 3) := by decide +kernel
theorem nd_EN_leave_4 : decode prog_2_method_10_code 4 = .ok (.bipush 8, 2) := by decide +kernel
theorem nd_EN_leave_6 : decode prog_2_method_10_code 6 = .ok (.if_icmp .lt 8, 3) := by decide +kernel
theorem nd_EN_leave_9 : decode prog_2_method_10_code 9 = .ok (.aload_n 0, 1) := by decide +kernel
theorem nd_EN_leave_10 : decode prog_2_method_10_code 10 = .ok (.iconst 0, 1) := by decide +kernel
theorem nd_EN_leave_11 : decode prog_2_method_10_code 11 = .ok (.invokevirtual 109, 3) := by decide +kernel
theorem nd_EN_leave_14 : decode prog_2_method_10_code 14 = .ok (.aload_n 0, 1) := by decide +kernel
theorem nd_EN_leave_15 : decode prog_2_method_10_code 15 = .ok (.getfield 11, 3) := by decide +kernel
theorem nd_EN_leave_18 : decode prog_2_method_10_code 18 = .ok (.aload_n 0, 1) := by decide +kernel
theorem nd_EN_leave_19 : decode prog_2_method_10_code 19 = .ok (.getfield 53, 3) := by decide +kernel
theorem nd_EN_leave_22 : decode prog_2_method_10_code 22 = .ok (.aload_n 1, 1) := by decide +kernel
theorem nd_EN_leave_23 : decode prog_2_method_10_code 23 = .ok (.aastore, 1) := by decide +kernel
theorem nd_EN_leave_24 : decode prog_2_method_10_code 24 = .ok (.aload_n 0, 1) := by decide +kernel
theorem nd_EN_leave_25 : decode prog_2_method_10_code 25 = .ok (.dup, 1) := by decide +kernel
theorem nd_EN_leave_26 : decode prog_2_method_10_code 26 = .ok (.getfield 53, 3) := by decide +kernel
theorem nd_EN_leave_29 : decode prog_2_method_10_code 29 = .ok (.iconst 1, 1) := by decide +kernel
theorem nd_EN_leave_30 : decode prog_2_method_10_code 30 = .ok (.iadd, 1) := by decide +kernel
theorem nd_EN_leave_31 : decode prog_2_method_10_code 31 = .ok (.putfield 53, 3) := by decide +kernel
theorem nd_EN_leave_34 : decode prog_2_method_10_code 34 = .ok (.return_, 1) := by decide +kernel
theorem nd_EN_turnReceiving_0 : decode prog_2_method_7_code 0 = .ok (.aload_n 2, 1) := by decide +kernel
theorem nd_EN_turnReceiving_1 : decode prog_2_method_7_code 1 = .ok (.aload_n 0, 1) := by decide +kernel
theorem nd_EN_turnReceiving_2 : decode prog_2_method_7_code 2 = .ok (.getfield 24, 3) := by decide +kernel
theorem nd_EN_turnReceiving_5 : decode prog_2_method_7_code 5 = .ok (.aload_n 1, 1) := by decide +kernel
theorem nd_EN_turnReceiving_6 : decode prog_2_method_7_code 6 = .ok (.invokevirtual 62, 3) := by decide +kernel
theorem nd_EN_turnReceiving_9 : decode prog_2_method_7_code 9 = .ok (.astore_n 3, 1) := by decide +kernel
theorem nd_EN_turnReceiving_10 : decode prog_2_method_7_code 10 = .ok (.aload_n 0, 1) := by decide +kernel
theorem nd_EN_turnReceiving_11 : decode prog_2_method_7_code 11 = .ok (.aload_n 2, 1) := by decide +kernel
theorem nd_EN_turnReceiving_12 : decode prog_2_method_7_code 12 = .ok (.iconst 5, 1) := by decide +kernel
theorem nd_EN_turnReceiving_13 : decode prog_2_method_7_code 13 = .ok (.aload_n 0, 1) := by decide +kernel
theorem nd_EN_turnReceiving_14 : decode prog_2_method_7_code 14 = .ok (.getfield 21, 3) := by decide +kernel
theorem nd_EN_turnReceiving_17 : decode prog_2_method_7_code 17 = .ok (.aload_n 3, 1) := by decide +kernel
theorem nd_EN_turnReceiving_18 : decode prog_2_method_7_code 18 = .ok (.invokevirtual 66, 3) := by decide +kernel
theorem nd_EN_turnReceiving_21 : decode prog_2_method_7_code 21 = .ok (.putfield 47, 3) := by decide +kernel
theorem nd_EN_turnReceiving_24 : decode prog_2_method_7_code 24 = .ok (.aload_n 0, 1) := by decide +kernel
theorem nd_EN_turnReceiving_25 : decode prog_2_method_7_code 25 = .ok (.aload_n 2, 1) := by decide +kernel
theorem nd_EN_turnReceiving_26 : decode prog_2_method_7_code 26 = .ok (.iconst 4, 1) := by decide +kernel
theorem nd_EN_turnReceiving_27 : decode prog_2_method_7_code 27 = .ok (.aload_n 0, 1) := by decide +kernel
theorem nd_EN_turnReceiving_28 : decode prog_2_method_7_code 28 = .ok (.getfield 21, 3) := by decide +kernel
theorem nd_EN_turnReceiving_31 : decode prog_2_method_7_code 31 = .ok (.aload_n 3, 1) := by decide +kernel
theorem nd_EN_turnReceiving_32 : decode prog_2_method_7_code 32 = .ok (.invokevirtual 66, 3) := by decide +kernel
theorem nd_EN_turnReceiving_35 : decode prog_2_method_7_code 35 = .ok (.putfield 21, 3) := by decide +kernel
theorem nd_EN_turnReceiving_38 : decode prog_2_method_7_code 38 = .ok (.aload_n 0, 1) := by decide +kernel
theorem nd_EN_turnReceiving_39 : decode prog_2_method_7_code 39 = .ok (.aload_n 1, 1) := by decide +kernel
theorem nd_EN_turnReceiving_40 : decode prog_2_method_7_code 40 = .ok (.putfield 34, 3) := by decide +kernel
theorem nd_EN_turnReceiving_43 : decode prog_2_method_7_code 43 = .ok (.aload_n 0, 1) := by decide +kernel
theorem nd_EN_turnReceiving_44 : decode prog_2_method_7_code 44 = .ok (.iconst 0, 1) := by decide +kernel
theorem nd_EN_turnReceiving_45 : decode prog_2_method_7_code 45 = .ok (.putfield 50, 3) := by decide +kernel
theorem nd_EN_turnReceiving_48 : decode prog_2_method_7_code 48 = .ok (.aload_n 0, 1) := by decide +kernel
theorem nd_EN_turnReceiving_49 : decode prog_2_method_7_code 49 = .ok (.aconst_null, 1) := by decide +kernel
theorem nd_EN_turnReceiving_50 : decode prog_2_method_7_code 50 = .ok (.putfield 37, 3) := by decide +kernel
theorem nd_EN_turnReceiving_53 : decode prog_2_method_7_code 53 = .ok (.return_, 1) := by decide +kernel
theorem nd_TK_look_0 : decode prog_1_method_4_code 0 = .ok (.aload_n 0, 1) := by decide +kernel
theorem nd_TK_look_1 : decode prog_1_method_4_code 1 = .ok (.getfield 44, 3) := by decide +kernel
theorem nd_TK_look_4 : decode prog_1_method_4_code 4 = .ok (.iload_n 1, 1) := by decide +kernel
theorem nd_TK_look_5 : decode prog_1_method_4_code 5 = .ok (.invokestatic 66, 3) := by decide +kernel
theorem nd_TK_look_8 : decode prog_1_method_4_code 8 = .ok (.astore_n 2, 1) := by decide +kernel
theorem nd_TK_look_9 : decode prog_1_method_4_code 9 = .ok (.aload_n 2, 1) := by decide +kernel
theorem nd_TK_look_10 : decode prog_1_method_4_code 10 = .ok (.ifnonnull 5, 3) := by decide +kernel
theorem nd_TK_look_13 : decode prog_1_method_4_code 13 = .ok (.iconst (-1), 1) := by decide +kernel
theorem nd_TK_look_14 : decode prog_1_method_4_code 14 = .ok (.ireturn, 1) := by decide +kernel
theorem nd_TK_look_15 : decode prog_1_method_4_code 15 = .ok (.aload_n 0, 1) := by decide +kernel
theorem nd_TK_look_16 : decode prog_1_method_4_code 16 = .ok (.getfield 10, 3) := by decide +kernel
theorem nd_TK_look_19 : decode prog_1_method_4_code 19 = .ok (.aload_n 2, 1) := by decide +kernel
theorem nd_TK_look_20 : decode prog_1_method_4_code 20 = .ok (.getfield 86, 3) := by decide +kernel
theorem nd_TK_look_23 : decode prog_1_method_4_code 23 = .ok (.invokevirtual 118, 3) := by decide +kernel
theorem nd_TK_look_26 : decode prog_1_method_4_code 26 = .ok (.aload_n 0, 1) := by decide +kernel
theorem nd_TK_look_27 : decode prog_1_method_4_code 27 = .ok (.getfield 10, 3) := by decide +kernel
theorem nd_TK_look_30 : decode prog_1_method_4_code 30 = .ok (.aload_n 2, 1) := by decide +kernel
theorem nd_TK_look_31 : decode prog_1_method_4_code 31 = .ok (.getfield 122, 3) := by decide +kernel
theorem nd_TK_look_34 : decode prog_1_method_4_code 34 = .ok (.invokevirtual 118, 3) := by decide +kernel
theorem nd_TK_look_37 : decode prog_1_method_4_code 37 = .ok (.iadd, 1) := by decide +kernel
theorem nd_TK_look_38 : decode prog_1_method_4_code 38 = .ok (.aload_n 0, 1) := by decide +kernel
theorem nd_TK_look_39 : decode prog_1_method_4_code 39 = .ok (.getfield 10, 3) := by decide +kernel
theorem nd_TK_look_42 : decode prog_1_method_4_code 42 = .ok (.aload_n 2, 1) := by decide +kernel
theorem nd_TK_look_43 : decode prog_1_method_4_code 43 = .ok (.getfield 125, 3) := by decide +kernel
theorem nd_TK_look_46 : decode prog_1_method_4_code 46 = .ok (.invokevirtual 118, 3) := by decide +kernel
theorem nd_TK_look_49 : decode prog_1_method_4_code 49 = .ok (.iadd, 1) := by decide +kernel
theorem nd_TK_look_50 : decode prog_1_method_4_code 50 = .ok (.istore_n 3, 1) := by decide +kernel
theorem nd_TK_look_51 : decode prog_1_method_4_code 51 = .ok (.iload_n 3, 1) := by decide +kernel
theorem nd_TK_look_52 : decode prog_1_method_4_code 52 = .ok (.aload_n 0, 1) := by decide +kernel
theorem nd_TK_look_53 : decode prog_1_method_4_code 53 = .ok (.getfield 10, 3) := by decide +kernel
theorem nd_TK_look_56 : decode prog_1_method_4_code 56 = .ok (.aload_n 2, 1) := by decide +kernel
theorem nd_TK_look_57 : decode prog_1_method_4_code 57 = .ok (.getfield 37, 3) := by decide +kernel
theorem nd_TK_look_60 : decode prog_1_method_4_code 60 = .ok (.invokevirtual 118, 3) := by decide +kernel
theorem nd_TK_look_63 : decode prog_1_method_4_code 63 = .ok (.aload_n 0, 1) := by decide +kernel
theorem nd_TK_look_64 : decode prog_1_method_4_code 64 = .ok (.getfield 10, 3) := by decide +kernel
theorem nd_TK_look_67 : decode prog_1_method_4_code 67 = .ok (.aload_n 2, 1) := by decide +kernel
theorem nd_TK_look_68 : decode prog_1_method_4_code 68 = .ok (.getfield 41, 3) := by decide +kernel
theorem nd_TK_look_71 : decode prog_1_method_4_code 71 = .ok (.invokevirtual 118, 3) := by decide +kernel
theorem nd_TK_look_74 : decode prog_1_method_4_code 74 = .ok (.iadd, 1) := by decide +kernel
theorem nd_TK_look_75 : decode prog_1_method_4_code 75 = .ok (.aload_n 0, 1) := by decide +kernel
theorem nd_TK_look_76 : decode prog_1_method_4_code 76 = .ok (.getfield 10, 3) := by decide +kernel
theorem nd_TK_look_79 : decode prog_1_method_4_code 79 = .ok (.aload_n 2, 1) := by decide +kernel
theorem nd_TK_look_80 : decode prog_1_method_4_code 80 = .ok (.getfield 128, 3) := by decide +kernel
theorem nd_TK_look_83 : decode prog_1_method_4_code 83 = .ok (.invokevirtual 118, 3) := by decide +kernel
theorem nd_TK_look_86 : decode prog_1_method_4_code 86 = .ok (.iadd, 1) := by decide +kernel
theorem nd_TK_look_87 : decode prog_1_method_4_code 87 = .ok (.iadd, 1) := by decide +kernel
theorem nd_TK_look_88 : decode prog_1_method_4_code 88 = .ok (.istore_n 3, 1) := by decide +kernel
theorem nd_TK_look_89 : decode prog_1_method_4_code 89 = .ok (.iconst 0, 1) := by decide +kernel
theorem nd_TK_look_90 : decode prog_1_method_4_code 90 = .ok (.istore 4, 2) := by decide +kernel
theorem nd_TK_look_92 : decode prog_1_method_4_code 92 = .ok (.iload 4, 2) := by decide +kernel
theorem nd_TK_look_94 : decode prog_1_method_4_code 94 = .ok (.aload_n 2, 1) := by decide +kernel
theorem nd_TK_look_95 : decode prog_1_method_4_code 95 = .ok (.getfield 131, 3) := by decide +kernel
theorem nd_TK_look_98 : decode prog_1_method_4_code 98 = .ok (.if_icmp .ge 51, 3) := by decide +kernel
theorem nd_TK_look_101 : decode prog_1_method_4_code 101 = .ok (.aload_n 2, 1) := by decide +kernel
theorem nd_TK_look_102 : decode prog_1_method_4_code 102 = .ok (.getfield 134, 3) := by decide +kernel
theorem nd_TK_look_105 : decode prog_1_method_4_code 105 = .ok (.iload 4, 2) := by decide +kernel
theorem nd_TK_look_107 : decode prog_1_method_4_code 107 = .ok (.aaload, 1) := by decide +kernel
theorem nd_TK_look_108 : decode prog_1_method_4_code 108 = .ok (.astore 5, 2) := by decide +kernel
theorem nd_TK_look_110 : decode prog_1_method_4_code 110 = .ok (.aload 5, 2) := by decide +kernel
theorem nd_TK_look_112 : decode prog_1_method_4_code 112 = .ok (.ifnull 31, 3) := by decide +kernel
theorem nd_TK_look_115 : decode prog_1_method_4_code 115 = .ok (.iload_n 3, 1) := by decide +kernel
theorem nd_TK_look_116 : decode prog_1_method_4_code 116 = .ok (.aload_n 0, 1) := by decide +kernel
theorem nd_TK_look_117 : decode prog_1_method_4_code 117 = .ok (.getfield 10, 3) := by decide +kernel
theorem nd_TK_look_120 : decode prog_1_method_4_code 120 = .ok (.aload 5, 2) := by decide +kernel
theorem nd_TK_look_122 : decode prog_1_method_4_code 122 = .ok (.getfield 138, 3) := by decide +kernel
theorem nd_TK_look_125 : decode prog_1_method_4_code 125 = .ok (.invokevirtual 118, 3) := by decide +kernel
theorem nd_TK_look_128 : decode prog_1_method_4_code 128 = .ok (.aload_n 0, 1) := by decide +kernel
theorem nd_TK_look_129 : decode prog_1_method_4_code 129 = .ok (.getfield 10, 3) := by decide +kernel
theorem nd_TK_look_132 : decode prog_1_method_4_code 132 = .ok (.aload 5, 2) := by decide +kernel
theorem nd_TK_look_134 : decode prog_1_method_4_code 134 = .ok (.getfield 143, 3) := by decide +kernel
theorem nd_TK_look_137 : decode prog_1_method_4_code 137 = .ok (.invokevirtual 118, 3) := by decide +kernel
theorem nd_TK_look_140 : decode prog_1_method_4_code 140 = .ok (.iadd, 1) := by decide +kernel
theorem nd_TK_look_141 : decode prog_1_method_4_code 141 = .ok (.iadd, 1) := by decide +kernel
theorem nd_TK_look_142 : decode prog_1_method_4_code 142 = .ok (.istore_n 3, 1) := by decide +kernel
theorem nd_TK_look_143 : decode prog_1_method_4_code 143 = .ok (.iinc 4 1, 3) := by decide +kernel
theorem nd_TK_look_146 : decode prog_1_method_4_code 146 = .ok (.goto (-54), 3) := by decide +kernel
theorem nd_TK_look_149 : decode prog_1_method_4_code 149 = .ok (.iload_n 3, 1) := by decide +kernel
theorem nd_TK_look_150 : decode prog_1_method_4_code 150 = .ok (.ireturn, 1) := by decide +kernel
theorem nd_TK_derived_0 : decode prog_1_method_5_code 0 = .ok (.aload_n 0, 1) := by decide +kernel
theorem nd_TK_derived_1 : decode prog_1_method_5_code 1 = .ok (.iload_n 1, 1) := by decide +kernel
theorem nd_TK_derived_2 : decode prog_1_method_5_code 2 = .ok (.invokevirtual 97, 3) := by decide +kernel
theorem nd_TK_derived_5 : decode prog_1_method_5_code 5 = .ok (.astore_n 2, 1) := by decide +kernel
theorem nd_TK_derived_6 : decode prog_1_method_5_code 6 = .ok (.aload_n 2, 1) := by decide +kernel
theorem nd_TK_derived_7 : decode prog_1_method_5_code 7 = .ok (.ifnonnull 7, 3) := by decide +kernel
theorem nd_TK_derived_10 : decode prog_1_method_5_code 10 = .ok (.iconst (-1), 1) := by decide +kernel
theorem nd_TK_derived_11 : decode prog_1_method_5_code 11 = .ok (.goto 17, 3) := by decide +kernel
theorem nd_TK_derived_14 : decode prog_1_method_5_code 14 = .ok (.aload_n 0, 1) := by decide +kernel
theorem nd_TK_derived_15 : decode prog_1_method_5_code 15 = .ok (.getfield 10, 3) := by decide +kernel
theorem nd_TK_derived_18 : decode prog_1_method_5_code 18 = .ok (.aload_n 2, 1) := by decide +kernel
theorem nd_TK_derived_19 : decode prog_1_method_5_code 19 = .ok (.getfield 144, 3) := by decide +kernel
theorem nd_TK_derived_22 : decode prog_1_method_5_code 22 = .ok (.invokevirtual 147, 3) := by decide +kernel
theorem nd_TK_derived_25 : decode prog_1_method_5_code 25 = .ok (.invokestatic 151, 3) := by decide +kernel
theorem nd_TK_derived_28 : decode prog_1_method_5_code 28 = .ok (.ireturn, 1) := by decide +kernel
theorem nd_TK_oneIf_0 : decode prog_1_method_12_code 0 = .ok (.iload_n 0, 1) := by decide +kernel
theorem nd_TK_oneIf_1 : decode prog_1_method_12_code 1 = .ok (.ifCond .eq 7, 3) := by decide +kernel
theorem nd_TK_oneIf_4 : decode prog_1_method_12_code 4 = .ok (.iconst 1, 1) := by decide +kernel
theorem nd_TK_oneIf_5 : decode prog_1_method_12_code 5 = .ok (.goto 4, 3) := by decide +kernel
theorem nd_TK_oneIf_8 : decode prog_1_method_12_code 8 = .ok (.iconst 0, 1) := by decide +kernel
theorem nd_TK_oneIf_9 : decode prog_1_method_12_code 9 = .ok (.ireturn, 1) := by decide +kernel
theorem nd_TK_opens_0 : decode prog_1_method_6_code 0 = .ok (.aload_n 0, 1) := by decide +kernel
theorem nd_TK_opens_1 : decode prog_1_method_6_code 1 = .ok (.iload_n 1, 1) := by decide +kernel
theorem nd_TK_opens_2 : decode prog_1_method_6_code 2 = .ok (.invokevirtual 97, 3) := by decide +kernel
theorem nd_TK_opens_5 : decode prog_1_method_6_code 5 = .ok (.astore_n 2, 1) := by decide +kernel
theorem nd_TK_opens_6 : decode prog_1_method_6_code 6 = .ok (.aload_n 2, 1) := by decide +kernel
theorem nd_TK_opens_7 : decode prog_1_method_6_code 7 = .ok (.ifnonnull 7, 3) := by decide +kernel
theorem nd_TK_opens_10 : decode prog_1_method_6_code 10 = .ok (.iconst (-1), 1) := by decide +kernel
theorem nd_TK_opens_11 : decode prog_1_method_6_code 11 = .ok (.goto 17, 3) := by decide +kernel
theorem nd_TK_opens_14 : decode prog_1_method_6_code 14 = .ok (.aload_n 0, 1) := by decide +kernel
theorem nd_TK_opens_15 : decode prog_1_method_6_code 15 = .ok (.getfield 10, 3) := by decide +kernel
theorem nd_TK_opens_18 : decode prog_1_method_6_code 18 = .ok (.aload_n 2, 1) := by decide +kernel
theorem nd_TK_opens_19 : decode prog_1_method_6_code 19 = .ok (.getfield 115, 3) := by decide +kernel
theorem nd_TK_opens_22 : decode prog_1_method_6_code 22 = .ok (.invokevirtual 147, 3) := by decide +kernel
theorem nd_TK_opens_25 : decode prog_1_method_6_code 25 = .ok (.invokestatic 151, 3) := by decide +kernel
theorem nd_TK_opens_28 : decode prog_1_method_6_code 28 = .ok (.ireturn, 1) := by decide +kernel
theorem nd_TK_back_0 : decode prog_1_method_7_code 0 = .ok (.aload_n 0, 1) := by decide +kernel
theorem nd_TK_back_1 : decode prog_1_method_7_code 1 = .ok (.getfield 44, 3) := by decide +kernel
theorem nd_TK_back_4 : decode prog_1_method_7_code 4 = .ok (.iload_n 1, 1) := by decide +kernel
theorem nd_TK_back_5 : decode prog_1_method_7_code 5 = .ok (.invokestatic 66, 3) := by decide +kernel
theorem nd_TK_back_8 : decode prog_1_method_7_code 8 = .ok (.aload_n 0, 1) := by decide +kernel
theorem nd_TK_back_9 : decode prog_1_method_7_code 9 = .ok (.getfield 52, 3) := by decide +kernel
theorem nd_TK_back_12 : decode prog_1_method_7_code 12 = .ok (.iload_n 1, 1) := by decide +kernel
theorem nd_TK_back_13 : decode prog_1_method_7_code 13 = .ok (.invokestatic 66, 3) := by decide +kernel
theorem nd_TK_back_16 : decode prog_1_method_7_code 16 = .ok (.invokestatic 155, 3) := by decide +kernel
theorem nd_TK_back_19 : decode prog_1_method_7_code 19 = .ok (.ireturn, 1) := by decide +kernel
theorem nd_TK_replace_0 : decode prog_1_method_15_code 0 = .ok (.aload_n 0, 1) := by decide +kernel
theorem nd_TK_replace_1 : decode prog_1_method_15_code 1 = .ok (.ifnull 7, 3) := by decide +kernel
theorem nd_TK_replace_4 : decode prog_1_method_15_code 4 = .ok (.aload_n 1, 1) := by decide +kernel
theorem nd_TK_replace_5 : decode prog_1_method_15_code 5 = .ok (.ifnonnull 5, 3) := by decide +kernel
theorem nd_TK_replace_8 : decode prog_1_method_15_code 8 = .ok (.iconst (-1), 1) := by decide +kernel
theorem nd_TK_replace_9 : decode prog_1_method_15_code 9 = .ok (.ireturn, 1) := by decide +kernel
theorem nd_TK_replace_10 : decode prog_1_method_15_code 10 = .ok (.aload_n 0, 1) := by decide +kernel
theorem nd_TK_replace_11 : decode prog_1_method_15_code 11 = .ok (.aload_n 1, 1) := by decide +kernel
theorem nd_TK_replace_12 : decode prog_1_method_15_code 12 = .ok (.invokevirtual 107, 3) := by decide +kernel
theorem nd_TK_replace_15 : decode prog_1_method_15_code 15 = .ok (.iconst 1, 1) := by decide +kernel
theorem nd_TK_replace_16 : decode prog_1_method_15_code 16 = .ok (.ireturn, 1) := by decide +kernel
theorem nd_TK_keep_0 : decode prog_1_method_8_code 0 = .ok (.aload_n 0, 1) := by decide +kernel
theorem nd_TK_keep_1 : decode prog_1_method_8_code 1 = .ok (.getfield 52, 3) := by decide +kernel
theorem nd_TK_keep_4 : decode prog_1_method_8_code 4 = .ok (.iload_n 1, 1) := by decide +kernel
theorem nd_TK_keep_5 : decode prog_1_method_8_code 5 = .ok (.invokestatic 66, 3) := by decide +kernel
theorem nd_TK_keep_8 : decode prog_1_method_8_code 8 = .ok (.aload_n 0, 1) := by decide +kernel
theorem nd_TK_keep_9 : decode prog_1_method_8_code 9 = .ok (.getfield 44, 3) := by decide +kernel
theorem nd_TK_keep_12 : decode prog_1_method_8_code 12 = .ok (.iload_n 1, 1) := by decide +kernel
theorem nd_TK_keep_13 : decode prog_1_method_8_code 13 = .ok (.invokestatic 66, 3) := by decide +kernel
theorem nd_TK_keep_16 : decode prog_1_method_8_code 16 = .ok (.invokestatic 155, 3) := by decide +kernel
theorem nd_TK_keep_19 : decode prog_1_method_8_code 19 = .ok (.ireturn, 1) := by decide +kernel
theorem nd_TK_end_0 : decode prog_1_method_9_code 0 = .ok (.aload_n 0, 1) := by decide +kernel
theorem nd_TK_end_1 : decode prog_1_method_9_code 1 = .ok (.getfield 44, 3) := by decide +kernel
theorem nd_TK_end_4 : decode prog_1_method_9_code 4 = .ok (.iload_n 1, 1) := by decide +kernel
theorem nd_TK_end_5 : decode prog_1_method_9_code 5 = .ok (.invokestatic 66, 3) := by decide +kernel
theorem nd_TK_end_8 : decode prog_1_method_9_code 8 = .ok (.astore_n 3, 1) := by decide +kernel
theorem nd_TK_end_9 : decode prog_1_method_9_code 9 = .ok (.aload_n 3, 1) := by decide +kernel
theorem nd_TK_end_10 : decode prog_1_method_9_code 10 = .ok (.ifnonnull 5, 3) := by decide +kernel
theorem nd_TK_end_13 : decode prog_1_method_9_code 13 = .ok (.iconst (-1), 1) := by decide +kernel
theorem nd_TK_end_14 : decode prog_1_method_9_code 14 = .ok (.ireturn, 1) := by decide +kernel
theorem nd_TK_end_15 : decode prog_1_method_9_code 15 = .ok (.iload_n 2, 1) := by decide +kernel
theorem nd_TK_end_16 : decode prog_1_method_9_code 16 = .ok (.tableswitch 112 0 6 #[44, 49, 54, 59, 64, 80, 96], 44) := by decide +kernel
theorem nd_TK_end_60 : decode prog_1_method_9_code 60 = .ok (.aload_n 3, 1) := by decide +kernel
theorem nd_TK_end_61 : decode prog_1_method_9_code 61 = .ok (.getfield 159, 3) := by decide +kernel
theorem nd_TK_end_64 : decode prog_1_method_9_code 64 = .ok (.ireturn, 1) := by decide +kernel
theorem nd_TK_end_65 : decode prog_1_method_9_code 65 = .ok (.aload_n 3, 1) := by decide +kernel
theorem nd_TK_end_66 : decode prog_1_method_9_code 66 = .ok (.getfield 162, 3) := by decide +kernel
theorem nd_TK_end_69 : decode prog_1_method_9_code 69 = .ok (.ireturn, 1) := by decide +kernel
theorem nd_TK_end_70 : decode prog_1_method_9_code 70 = .ok (.aload_n 3, 1) := by decide +kernel
theorem nd_TK_end_71 : decode prog_1_method_9_code 71 = .ok (.getfield 165, 3) := by decide +kernel
theorem nd_TK_end_74 : decode prog_1_method_9_code 74 = .ok (.ireturn, 1) := by decide +kernel
theorem nd_TK_end_75 : decode prog_1_method_9_code 75 = .ok (.aload_n 3, 1) := by decide +kernel
theorem nd_TK_end_76 : decode prog_1_method_9_code 76 = .ok (.getfield 131, 3) := by decide +kernel
theorem nd_TK_end_79 : decode prog_1_method_9_code 79 = .ok (.ireturn, 1) := by decide +kernel
theorem nd_TK_end_80 : decode prog_1_method_9_code 80 = .ok (.aload_n 3, 1) := by decide +kernel
theorem nd_TK_end_81 : decode prog_1_method_9_code 81 = .ok (.getfield 37, 3) := by decide +kernel
theorem nd_TK_end_84 : decode prog_1_method_9_code 84 = .ok (.ifnull 7, 3) := by decide +kernel
theorem nd_TK_end_87 : decode prog_1_method_9_code 87 = .ok (.iconst 1, 1) := by decide +kernel
theorem nd_TK_end_88 : decode prog_1_method_9_code 88 = .ok (.goto 4, 3) := by decide +kernel
theorem nd_TK_end_91 : decode prog_1_method_9_code 91 = .ok (.iconst 0, 1) := by decide +kernel
theorem nd_TK_end_92 : decode prog_1_method_9_code 92 = .ok (.invokestatic 151, 3) := by decide +kernel
theorem nd_TK_end_95 : decode prog_1_method_9_code 95 = .ok (.ireturn, 1) := by decide +kernel
theorem nd_TK_end_96 : decode prog_1_method_9_code 96 = .ok (.aload_n 3, 1) := by decide +kernel
theorem nd_TK_end_97 : decode prog_1_method_9_code 97 = .ok (.getfield 41, 3) := by decide +kernel
theorem nd_TK_end_100 : decode prog_1_method_9_code 100 = .ok (.ifnull 7, 3) := by decide +kernel
theorem nd_TK_end_103 : decode prog_1_method_9_code 103 = .ok (.iconst 1, 1) := by decide +kernel
theorem nd_TK_end_104 : decode prog_1_method_9_code 104 = .ok (.goto 4, 3) := by decide +kernel
theorem nd_TK_end_107 : decode prog_1_method_9_code 107 = .ok (.iconst 0, 1) := by decide +kernel
theorem nd_TK_end_108 : decode prog_1_method_9_code 108 = .ok (.invokestatic 151, 3) := by decide +kernel
theorem nd_TK_end_111 : decode prog_1_method_9_code 111 = .ok (.ireturn, 1) := by decide +kernel
theorem nd_TK_end_112 : decode prog_1_method_9_code 112 = .ok (.aload_n 3, 1) := by decide +kernel
theorem nd_TK_end_113 : decode prog_1_method_9_code 113 = .ok (.getfield 128, 3) := by decide +kernel
theorem nd_TK_end_116 : decode prog_1_method_9_code 116 = .ok (.ifnull 7, 3) := by decide +kernel
theorem nd_TK_end_119 : decode prog_1_method_9_code 119 = .ok (.iconst 1, 1) := by decide +kernel
theorem nd_TK_end_120 : decode prog_1_method_9_code 120 = .ok (.goto 4, 3) := by decide +kernel
theorem nd_TK_end_123 : decode prog_1_method_9_code 123 = .ok (.iconst 0, 1) := by decide +kernel
theorem nd_TK_end_124 : decode prog_1_method_9_code 124 = .ok (.invokestatic 151, 3) := by decide +kernel
theorem nd_TK_end_127 : decode prog_1_method_9_code 127 = .ok (.ireturn, 1) := by decide +kernel
theorem nd_TK_end_128 : decode prog_1_method_9_code 128 = .ok (.iconst (-1), 1) := by decide +kernel
theorem nd_TK_end_129 : decode prog_1_method_9_code 129 = .ok (.ireturn, 1) := by decide +kernel
theorem nd_TK_agree_0 : decode prog_1_method_10_code 0 = .ok (.aload_n 0, 1) := by decide +kernel
theorem nd_TK_agree_1 : decode prog_1_method_10_code 1 = .ok (.getfield 44, 3) := by decide +kernel
theorem nd_TK_agree_4 : decode prog_1_method_10_code 4 = .ok (.iconst 0, 1) := by decide +kernel
theorem nd_TK_agree_5 : decode prog_1_method_10_code 5 = .ok (.aaload, 1) := by decide +kernel
theorem nd_TK_agree_6 : decode prog_1_method_10_code 6 = .ok (.getfield 122, 3) := by decide +kernel
theorem nd_TK_agree_9 : decode prog_1_method_10_code 9 = .ok (.aload_n 0, 1) := by decide +kernel
theorem nd_TK_agree_10 : decode prog_1_method_10_code 10 = .ok (.getfield 44, 3) := by decide +kernel
theorem nd_TK_agree_13 : decode prog_1_method_10_code 13 = .ok (.iconst 1, 1) := by decide +kernel
theorem nd_TK_agree_14 : decode prog_1_method_10_code 14 = .ok (.aaload, 1) := by decide +kernel
theorem nd_TK_agree_15 : decode prog_1_method_10_code 15 = .ok (.getfield 122, 3) := by decide +kernel
theorem nd_TK_agree_18 : decode prog_1_method_10_code 18 = .ok (.if_acmp .ne 7, 3) := by decide +kernel
theorem nd_TK_agree_21 : decode prog_1_method_10_code 21 = .ok (.iconst 1, 1) := by decide +kernel
theorem nd_TK_agree_22 : decode prog_1_method_10_code 22 = .ok (.goto 4, 3) := by decide +kernel
theorem nd_TK_agree_25 : decode prog_1_method_10_code 25 = .ok (.iconst 0, 1) := by decide +kernel
theorem nd_TK_agree_26 : decode prog_1_method_10_code 26 = .ok (.invokestatic 151, 3) := by decide +kernel
theorem nd_TK_agree_29 : decode prog_1_method_10_code 29 = .ok (.ireturn, 1) := by decide +kernel
theorem nd_TK_count_0 : decode prog_1_method_11_code 0 = .ok (.iload_n 1, 1) := by decide +kernel
theorem nd_TK_count_1 : decode prog_1_method_11_code 1 = .ok (.ifCond .ne 11, 3) := by decide +kernel
theorem nd_TK_count_4 : decode prog_1_method_11_code 4 = .ok (.aload_n 0, 1) := by decide +kernel
theorem nd_TK_count_5 : decode prog_1_method_11_code 5 = .ok (.getfield 62, 3) := by decide +kernel
theorem nd_TK_count_8 : decode prog_1_method_11_code 8 = .ok (.invokevirtual 93, 3) := by decide +kernel
theorem nd_TK_count_11 : decode prog_1_method_11_code 11 = .ok (.ireturn, 1) := by decide +kernel
theorem nd_TK_count_12 : decode prog_1_method_11_code 12 = .ok (.iload_n 1, 1) := by decide +kernel
theorem nd_TK_count_13 : decode prog_1_method_11_code 13 = .ok (.iconst 1, 1) := by decide +kernel
theorem nd_TK_count_14 : decode prog_1_method_11_code 14 = .ok (.if_icmp .ne 13, 3) := by decide +kernel
theorem nd_TK_count_17 : decode prog_1_method_11_code 17 = .ok (.aload_n 0, 1) := by decide +kernel
theorem nd_TK_count_18 : decode prog_1_method_11_code 18 = .ok (.getfield 10, 3) := by decide +kernel
theorem nd_TK_count_21 : decode prog_1_method_11_code 21 = .ok (.getfield 168, 3) := by decide +kernel
theorem nd_TK_count_24 : decode prog_1_method_11_code 24 = .ok (.goto 4, 3) := by decide +kernel
theorem nd_TK_count_27 : decode prog_1_method_11_code 27 = .ok (.iconst (-1), 1) := by decide +kernel
theorem nd_TK_count_28 : decode prog_1_method_11_code 28 = .ok (.ireturn, 1) := by decide +kernel
end
section
/-! DECODE ROWS, by program -/
theorem nd_MO_init_0 : decode prog_8_method_1_code 0 = .ok (.aload_n 0, 1) := by decide +kernel
theorem nd_MO_init_1 : decode prog_8_method_1_code 1 = .ok (.invokespecial 1, 3) := by decide +kernel
theorem nd_MO_init_4 : decode prog_8_method_1_code 4 = .ok (.aload_n 0, 1) := by decide +kernel
theorem nd_MO_init_5 : decode prog_8_method_1_code 5 = .ok (.iconst 1, 1) := by decide +kernel
theorem nd_MO_init_6 : decode prog_8_method_1_code 6 = .ok (.putfield 7, 3) := by decide +kernel
theorem nd_MO_init_9 : decode prog_8_method_1_code 9 = .ok (.aload_n 0, 1) := by decide +kernel
theorem nd_MO_init_10 : decode prog_8_method_1_code 10 = .ok (.sipush 20000, 3) := by decide +kernel
theorem nd_MO_init_13 : decode prog_8_method_1_code 13 = .ok (.newarray .byte, 2) := by decide +kernel
theorem nd_MO_init_15 : decode prog_8_method_1_code 15 = .ok (.putfield 13, 3) := by decide +kernel
theorem nd_MO_init_18 : decode prog_8_method_1_code 18 = .ok (.aload_n 0, 1) := by decide +kernel
theorem nd_MO_init_19 : decode prog_8_method_1_code 19 = .ok (.sipush 20000, 3) := by decide +kernel
theorem nd_MO_init_22 : decode prog_8_method_1_code 22 = .ok (.newarray .int, 2) := by decide +kernel
theorem nd_MO_init_24 : decode prog_8_method_1_code 24 = .ok (.putfield 17, 3) := by decide +kernel
theorem nd_MO_init_27 : decode prog_8_method_1_code 27 = .ok (.aload_n 0, 1) := by decide +kernel
theorem nd_MO_init_28 : decode prog_8_method_1_code 28 = .ok (.sipush 20000, 3) := by decide +kernel
theorem nd_MO_init_31 : decode prog_8_method_1_code 31 = .ok (.newarray .int, 2) := by decide +kernel
theorem nd_MO_init_33 : decode prog_8_method_1_code 33 = .ok (.putfield 21, 3) := by decide +kernel
theorem nd_MO_init_36 : decode prog_8_method_1_code 36 = .ok (.aload_n 0, 1) := by decide +kernel
theorem nd_MO_init_37 : decode prog_8_method_1_code 37 = .ok (.sipush 20000, 3) := by decide +kernel
theorem nd_MO_init_40 : decode prog_8_method_1_code 40 = .ok (.newarray .int, 2) := by decide +kernel
theorem nd_MO_init_42 : decode prog_8_method_1_code 42 = .ok (.putfield 24, 3) := by decide +kernel
theorem nd_MO_init_45 : decode prog_8_method_1_code 45 = .ok (.aload_n 0, 1) := by decide +kernel
theorem nd_MO_init_46 : decode prog_8_method_1_code 46 = .ok (.sipush 20000, 3) := by decide +kernel
theorem nd_MO_init_49 : decode prog_8_method_1_code 49 = .ok (.newarray .boolean, 2) := by decide +kernel
theorem nd_MO_init_51 : decode prog_8_method_1_code 51 = .ok (.putfield 27, 3) := by decide +kernel
theorem nd_MO_init_54 : decode prog_8_method_1_code 54 = .ok (.aload_n 0, 1) := by decide +kernel
theorem nd_MO_init_55 : decode prog_8_method_1_code 55 = .ok (.sipush 20000, 3) := by decide +kernel
theorem nd_MO_init_58 : decode prog_8_method_1_code 58 = .ok (.newarray .boolean, 2) := by decide +kernel
theorem nd_MO_init_60 : decode prog_8_method_1_code 60 = .ok (.putfield 31, 3) := by decide +kernel
theorem nd_MO_init_63 : decode prog_8_method_1_code 63 = .ok (.aload_n 0, 1) := by decide +kernel
theorem nd_MO_init_64 : decode prog_8_method_1_code 64 = .ok (.ldc 34, 2) := by decide +kernel
theorem nd_MO_init_66 : decode prog_8_method_1_code 66 = .ok (.newarray .int, 2) := by decide +kernel
theorem nd_MO_init_68 : decode prog_8_method_1_code 68 = .ok (.putfield 35, 3) := by decide +kernel
theorem nd_MO_init_71 : decode prog_8_method_1_code 71 = .ok (.aload_n 0, 1) := by decide +kernel
theorem nd_MO_init_72 : decode prog_8_method_1_code 72 = .ok (.iconst 1, 1) := by decide +kernel
theorem nd_MO_init_73 : decode prog_8_method_1_code 73 = .ok (.putfield 38, 3) := by decide +kernel
theorem nd_MO_init_76 : decode prog_8_method_1_code 76 = .ok (.aload_n 0, 1) := by decide +kernel
theorem nd_MO_init_77 : decode prog_8_method_1_code 77 = .ok (.sipush 520, 3) := by decide +kernel
theorem nd_MO_init_80 : decode prog_8_method_1_code 80 = .ok (.newarray .int, 2) := by decide +kernel
theorem nd_MO_init_82 : decode prog_8_method_1_code 82 = .ok (.putfield 42, 3) := by decide +kernel
theorem nd_MO_init_85 : decode prog_8_method_1_code 85 = .ok (.aload_n 0, 1) := by decide +kernel
theorem nd_MO_init_86 : decode prog_8_method_1_code 86 = .ok (.sipush 520, 3) := by decide +kernel
theorem nd_MO_init_89 : decode prog_8_method_1_code 89 = .ok (.newarray .int, 2) := by decide +kernel
theorem nd_MO_init_91 : decode prog_8_method_1_code 91 = .ok (.putfield 45, 3) := by decide +kernel
theorem nd_MO_init_94 : decode prog_8_method_1_code 94 = .ok (.aload_n 0, 1) := by decide +kernel
theorem nd_MO_init_95 : decode prog_8_method_1_code 95 = .ok (.sipush 520, 3) := by decide +kernel
theorem nd_MO_init_98 : decode prog_8_method_1_code 98 = .ok (.newarray .int, 2) := by decide +kernel
theorem nd_MO_init_100 : decode prog_8_method_1_code 100 = .ok (.putfield 48, 3) := by decide +kernel
theorem nd_MO_init_103 : decode prog_8_method_1_code 103 = .ok (.aload_n 0, 1) := by decide +kernel
theorem nd_MO_init_104 : decode prog_8_method_1_code 104 = .ok (.sipush 520, 3) := by decide +kernel
theorem nd_MO_init_107 : decode prog_8_method_1_code 107 = .ok (.newarray .int, 2) := by decide +kernel
theorem nd_MO_init_109 : decode prog_8_method_1_code 109 = .ok (.putfield 51, 3) := by decide +kernel
theorem nd_MO_init_112 : decode prog_8_method_1_code 112 = .ok (.aload_n 0, 1) := by decide +kernel
theorem nd_MO_init_113 : decode prog_8_method_1_code 113 = .ok (.sipush 520, 3) := by decide +kernel
theorem nd_MO_init_116 : decode prog_8_method_1_code 116 = .ok (.newarray .int, 2) := by decide +kernel
theorem nd_MO_init_118 : decode prog_8_method_1_code 118 = .ok (.putfield 54, 3) := by decide +kernel
theorem nd_MO_init_121 : decode prog_8_method_1_code 121 = .ok (.aload_n 0, 1) := by decide +kernel
theorem nd_MO_init_122 : decode prog_8_method_1_code 122 = .ok (.sipush 520, 3) := by decide +kernel
theorem nd_MO_init_125 : decode prog_8_method_1_code 125 = .ok (.newarray .int, 2) := by decide +kernel
theorem nd_MO_init_127 : decode prog_8_method_1_code 127 = .ok (.putfield 57, 3) := by decide +kernel
theorem nd_MO_init_130 : decode prog_8_method_1_code 130 = .ok (.aload_n 0, 1) := by decide +kernel
theorem nd_MO_init_131 : decode prog_8_method_1_code 131 = .ok (.bipush 66, 2) := by decide +kernel
theorem nd_MO_init_133 : decode prog_8_method_1_code 133 = .ok (.newarray .int, 2) := by decide +kernel
theorem nd_MO_init_135 : decode prog_8_method_1_code 135 = .ok (.putfield 60, 3) := by decide +kernel
theorem nd_MO_init_138 : decode prog_8_method_1_code 138 = .ok (.aload_n 0, 1) := by decide +kernel
theorem nd_MO_init_139 : decode prog_8_method_1_code 139 = .ok (.bipush 66, 2) := by decide +kernel
theorem nd_MO_init_141 : decode prog_8_method_1_code 141 = .ok (.newarray .int, 2) := by decide +kernel
theorem nd_MO_init_143 : decode prog_8_method_1_code 143 = .ok (.putfield 63, 3) := by decide +kernel
theorem nd_MO_init_146 : decode prog_8_method_1_code 146 = .ok (.aload_n 0, 1) := by decide +kernel
theorem nd_MO_init_147 : decode prog_8_method_1_code 147 = .ok (.bipush 33, 2) := by decide +kernel
theorem nd_MO_init_149 : decode prog_8_method_1_code 149 = .ok (.newarray .int, 2) := by decide +kernel
theorem nd_MO_init_151 : decode prog_8_method_1_code 151 = .ok (.putfield 66, 3) := by decide +kernel
theorem nd_MO_init_154 : decode prog_8_method_1_code 154 = .ok (.aload_n 0, 1) := by decide +kernel
theorem nd_MO_init_155 : decode prog_8_method_1_code 155 = .ok (.invokevirtual 69, 3) := by decide +kernel
theorem nd_MO_init_158 : decode prog_8_method_1_code 158 = .ok (.istore_n 1, 1) := by decide +kernel
theorem nd_MO_init_159 : decode prog_8_method_1_code 159 = .ok (.aload_n 0, 1) := by decide +kernel
theorem nd_MO_init_160 : decode prog_8_method_1_code 160 = .ok (.invokevirtual 69, 3) := by decide +kernel
theorem nd_MO_init_163 : decode prog_8_method_1_code 163 = .ok (.istore_n 2, 1) := by decide +kernel
theorem nd_MO_init_164 : decode prog_8_method_1_code 164 = .ok (.aload_n 0, 1) := by decide +kernel
theorem nd_MO_init_165 : decode prog_8_method_1_code 165 = .ok (.invokevirtual 69, 3) := by decide +kernel
theorem nd_MO_init_168 : decode prog_8_method_1_code 168 = .ok (.istore_n 3, 1) := by decide +kernel
theorem nd_MO_init_169 : decode prog_8_method_1_code 169 = .ok (.aload_n 0, 1) := by decide +kernel
theorem nd_MO_init_170 : decode prog_8_method_1_code 170 = .ok (.invokevirtual 69, 3) := by decide +kernel
theorem nd_MO_init_173 : decode prog_8_method_1_code 173 = .ok (.istore 4, 2) := by decide +kernel
theorem nd_MO_init_175 : decode prog_8_method_1_code 175 = .ok (.aload_n 0, 1) := by decide +kernel
theorem nd_MO_init_176 : decode prog_8_method_1_code 176 = .ok (.aload_n 0, 1) := by decide +kernel
theorem nd_MO_init_177 : decode prog_8_method_1_code 177 = .ok (.iload 4, 2) := by decide +kernel
theorem nd_MO_init_179 : decode prog_8_method_1_code 179 = .ok (.invokevirtual 73, 3) := by decide +kernel
theorem nd_MO_init_182 : decode prog_8_method_1_code 182 = .ok (.putfield 77, 3) := by decide +kernel
theorem nd_MO_init_185 : decode prog_8_method_1_code 185 = .ok (.aload_n 0, 1) := by decide +kernel
theorem nd_MO_init_186 : decode prog_8_method_1_code 186 = .ok (.iload_n 3, 1) := by decide +kernel
theorem nd_MO_init_187 : decode prog_8_method_1_code 187 = .ok (.iload_n 2, 1) := by decide +kernel
theorem nd_MO_init_188 : decode prog_8_method_1_code 188 = .ok (.invokevirtual 80, 3) := by decide +kernel
theorem nd_MO_init_191 : decode prog_8_method_1_code 191 = .ok (.istore 5, 2) := by decide +kernel
theorem nd_MO_init_193 : decode prog_8_method_1_code 193 = .ok (.aload_n 0, 1) := by decide +kernel
theorem nd_MO_init_194 : decode prog_8_method_1_code 194 = .ok (.getfield 60, 3) := by decide +kernel
theorem nd_MO_init_197 : decode prog_8_method_1_code 197 = .ok (.iconst 0, 1) := by decide +kernel
theorem nd_MO_init_198 : decode prog_8_method_1_code 198 = .ok (.aload_n 0, 1) := by decide +kernel
theorem nd_MO_init_199 : decode prog_8_method_1_code 199 = .ok (.iconst 4, 1) := by decide +kernel
theorem nd_MO_init_200 : decode prog_8_method_1_code 200 = .ok (.iload_n 1, 1) := by decide +kernel
theorem nd_MO_init_201 : decode prog_8_method_1_code 201 = .ok (.iload 5, 2) := by decide +kernel
theorem nd_MO_init_203 : decode prog_8_method_1_code 203 = .ok (.invokevirtual 84, 3) := by decide +kernel
theorem nd_MO_init_206 : decode prog_8_method_1_code 206 = .ok (.iastore, 1) := by decide +kernel
theorem nd_MO_init_207 : decode prog_8_method_1_code 207 = .ok (.aload_n 0, 1) := by decide +kernel
theorem nd_MO_init_208 : decode prog_8_method_1_code 208 = .ok (.getfield 60, 3) := by decide +kernel
theorem nd_MO_init_211 : decode prog_8_method_1_code 211 = .ok (.iconst 1, 1) := by decide +kernel
theorem nd_MO_init_212 : decode prog_8_method_1_code 212 = .ok (.iload_n 3, 1) := by decide +kernel
theorem nd_MO_init_213 : decode prog_8_method_1_code 213 = .ok (.iastore, 1) := by decide +kernel
theorem nd_MO_init_214 : decode prog_8_method_1_code 214 = .ok (.aload_n 0, 1) := by decide +kernel
theorem nd_MO_init_215 : decode prog_8_method_1_code 215 = .ok (.getfield 60, 3) := by decide +kernel
theorem nd_MO_init_218 : decode prog_8_method_1_code 218 = .ok (.iconst 2, 1) := by decide +kernel
theorem nd_MO_init_219 : decode prog_8_method_1_code 219 = .ok (.aload_n 0, 1) := by decide +kernel
theorem nd_MO_init_220 : decode prog_8_method_1_code 220 = .ok (.iload_n 2, 1) := by decide +kernel
theorem nd_MO_init_221 : decode prog_8_method_1_code 221 = .ok (.invokevirtual 73, 3) := by decide +kernel
theorem nd_MO_init_224 : decode prog_8_method_1_code 224 = .ok (.iastore, 1) := by decide +kernel
theorem nd_MO_init_225 : decode prog_8_method_1_code 225 = .ok (.aload_n 0, 1) := by decide +kernel
theorem nd_MO_init_226 : decode prog_8_method_1_code 226 = .ok (.getfield 60, 3) := by decide +kernel
theorem nd_MO_init_229 : decode prog_8_method_1_code 229 = .ok (.iconst 3, 1) := by decide +kernel
theorem nd_MO_init_230 : decode prog_8_method_1_code 230 = .ok (.aload_n 0, 1) := by decide +kernel
theorem nd_MO_init_231 : decode prog_8_method_1_code 231 = .ok (.iconst 5, 1) := by decide +kernel
theorem nd_MO_init_232 : decode prog_8_method_1_code 232 = .ok (.iload_n 1, 1) := by decide +kernel
theorem nd_MO_init_233 : decode prog_8_method_1_code 233 = .ok (.iload 5, 2) := by decide +kernel
theorem nd_MO_init_235 : decode prog_8_method_1_code 235 = .ok (.invokevirtual 84, 3) := by decide +kernel
theorem nd_MO_init_238 : decode prog_8_method_1_code 238 = .ok (.iastore, 1) := by decide +kernel
theorem nd_MO_init_239 : decode prog_8_method_1_code 239 = .ok (.aload_n 0, 1) := by decide +kernel
theorem nd_MO_init_240 : decode prog_8_method_1_code 240 = .ok (.getfield 60, 3) := by decide +kernel
theorem nd_MO_init_243 : decode prog_8_method_1_code 243 = .ok (.bipush 33, 2) := by decide +kernel
theorem nd_MO_init_245 : decode prog_8_method_1_code 245 = .ok (.iload_n 1, 1) := by decide +kernel
theorem nd_MO_init_246 : decode prog_8_method_1_code 246 = .ok (.iastore, 1) := by decide +kernel
theorem nd_MO_init_247 : decode prog_8_method_1_code 247 = .ok (.aload_n 0, 1) := by decide +kernel
theorem nd_MO_init_248 : decode prog_8_method_1_code 248 = .ok (.getfield 60, 3) := by decide +kernel
theorem nd_MO_init_251 : decode prog_8_method_1_code 251 = .ok (.bipush 34, 2) := by decide +kernel
theorem nd_MO_init_253 : decode prog_8_method_1_code 253 = .ok (.iload_n 2, 1) := by decide +kernel
theorem nd_MO_init_254 : decode prog_8_method_1_code 254 = .ok (.iastore, 1) := by decide +kernel
theorem nd_MO_init_255 : decode prog_8_method_1_code 255 = .ok (.iconst 0, 1) := by decide +kernel
theorem nd_MO_init_256 : decode prog_8_method_1_code 256 = .ok (.istore 6, 2) := by decide +kernel
theorem nd_MO_init_258 : decode prog_8_method_1_code 258 = .ok (.iload 6, 2) := by decide +kernel
theorem nd_MO_init_260 : decode prog_8_method_1_code 260 = .ok (.bipush 66, 2) := by decide +kernel
theorem nd_MO_init_262 : decode prog_8_method_1_code 262 = .ok (.if_icmp .ge 23, 3) := by decide +kernel
theorem nd_MO_init_265 : decode prog_8_method_1_code 265 = .ok (.aload_n 0, 1) := by decide +kernel
theorem nd_MO_init_266 : decode prog_8_method_1_code 266 = .ok (.getfield 63, 3) := by decide +kernel
theorem nd_MO_init_269 : decode prog_8_method_1_code 269 = .ok (.iload 6, 2) := by decide +kernel
theorem nd_MO_init_271 : decode prog_8_method_1_code 271 = .ok (.aload_n 0, 1) := by decide +kernel
theorem nd_MO_init_272 : decode prog_8_method_1_code 272 = .ok (.getfield 60, 3) := by decide +kernel
theorem nd_MO_init_275 : decode prog_8_method_1_code 275 = .ok (.iload 6, 2) := by decide +kernel
theorem nd_MO_init_277 : decode prog_8_method_1_code 277 = .ok (.iaload, 1) := by decide +kernel
theorem nd_MO_init_278 : decode prog_8_method_1_code 278 = .ok (.iastore, 1) := by decide +kernel
theorem nd_MO_init_279 : decode prog_8_method_1_code 279 = .ok (.iinc 6 1, 3) := by decide +kernel
theorem nd_MO_init_282 : decode prog_8_method_1_code 282 = .ok (.goto (-24), 3) := by decide +kernel
theorem nd_MO_init_285 : decode prog_8_method_1_code 285 = .ok (.return_, 1) := by decide +kernel
theorem nd_MO_draw_0 : decode prog_8_method_3_code 0 = .ok (.aload_n 0, 1) := by decide +kernel
theorem nd_MO_draw_1 : decode prog_8_method_3_code 1 = .ok (.dup, 1) := by decide +kernel
theorem nd_MO_draw_2 : decode prog_8_method_3_code 2 = .ok (.getfield 92, 3) := by decide +kernel
theorem nd_MO_draw_5 : decode prog_8_method_3_code 5 = .ok (.iconst 1, 1) := by decide +kernel
theorem nd_MO_draw_6 : decode prog_8_method_3_code 6 = .ok (.iadd, 1) := by decide +kernel
theorem nd_MO_draw_7 : decode prog_8_method_3_code 7 = .ok (.putfield 92, 3) := by decide +kernel
theorem nd_MO_draw_10 : decode prog_8_method_3_code 10 = .ok (.aload_n 0, 1) := by decide +kernel
theorem nd_MO_draw_11 : decode prog_8_method_3_code 11 = .ok (.iconst 1, 1) := by decide +kernel
theorem nd_MO_draw_12 : decode prog_8_method_3_code 12 = .ok (.aload_n 0, 1) := by decide +kernel
theorem nd_MO_draw_13 : decode prog_8_method_3_code 13 = .ok (.getfield 92, 3) := by decide +kernel
theorem nd_MO_draw_16 : decode prog_8_method_3_code 16 = .ok (.iconst 0, 1) := by decide +kernel
theorem nd_MO_draw_17 : decode prog_8_method_3_code 17 = .ok (.iconst 0, 1) := by decide +kernel
theorem nd_MO_draw_18 : decode prog_8_method_3_code 18 = .ok (.invokevirtual 95, 3) := by decide +kernel
theorem nd_MO_draw_21 : decode prog_8_method_3_code 21 = .ok (.ireturn, 1) := by decide +kernel
theorem nd_MO_term_0 : decode prog_8_method_2_code 0 = .ok (.iload_n 1, 1) := by decide +kernel
theorem nd_MO_term_1 : decode prog_8_method_2_code 1 = .ok (.bipush 31, 2) := by decide +kernel
theorem nd_MO_term_3 : decode prog_8_method_2_code 3 = .ok (.imul, 1) := by decide +kernel
theorem nd_MO_term_4 : decode prog_8_method_2_code 4 = .ok (.iload_n 2, 1) := by decide +kernel
theorem nd_MO_term_5 : decode prog_8_method_2_code 5 = .ok (.iadd, 1) := by decide +kernel
theorem nd_MO_term_6 : decode prog_8_method_2_code 6 = .ok (.ldc 88, 2) := by decide +kernel
theorem nd_MO_term_8 : decode prog_8_method_2_code 8 = .ok (.imul, 1) := by decide +kernel
theorem nd_MO_term_9 : decode prog_8_method_2_code 9 = .ok (.iload_n 3, 1) := by decide +kernel
theorem nd_MO_term_10 : decode prog_8_method_2_code 10 = .ok (.ixor, 1) := by decide +kernel
theorem nd_MO_term_11 : decode prog_8_method_2_code 11 = .ok (.ldc 89, 2) := by decide +kernel
theorem nd_MO_term_13 : decode prog_8_method_2_code 13 = .ok (.imul, 1) := by decide +kernel
theorem nd_MO_term_14 : decode prog_8_method_2_code 14 = .ok (.iload 4, 2) := by decide +kernel
theorem nd_MO_term_16 : decode prog_8_method_2_code 16 = .ok (.ldc 90, 2) := by decide +kernel
theorem nd_MO_term_18 : decode prog_8_method_2_code 18 = .ok (.imul, 1) := by decide +kernel
theorem nd_MO_term_19 : decode prog_8_method_2_code 19 = .ok (.ixor, 1) := by decide +kernel
theorem nd_MO_term_20 : decode prog_8_method_2_code 20 = .ok (.istore 5, 2) := by decide +kernel
theorem nd_MO_term_22 : decode prog_8_method_2_code 22 = .ok (.iload 5, 2) := by decide +kernel
theorem nd_MO_term_24 : decode prog_8_method_2_code 24 = .ok (.iload 5, 2) := by decide +kernel
theorem nd_MO_term_26 : decode prog_8_method_2_code 26 = .ok (.bipush 15, 2) := by decide +kernel
theorem nd_MO_term_28 : decode prog_8_method_2_code 28 = .ok (.iushr, 1) := by decide +kernel
theorem nd_MO_term_29 : decode prog_8_method_2_code 29 = .ok (.ixor, 1) := by decide +kernel
theorem nd_MO_term_30 : decode prog_8_method_2_code 30 = .ok (.ldc 91, 2) := by decide +kernel
theorem nd_MO_term_32 : decode prog_8_method_2_code 32 = .ok (.iand, 1) := by decide +kernel
theorem nd_MO_term_33 : decode prog_8_method_2_code 33 = .ok (.istore 6, 2) := by decide +kernel
theorem nd_MO_term_35 : decode prog_8_method_2_code 35 = .ok (.aload_n 0, 1) := by decide +kernel
theorem nd_MO_term_36 : decode prog_8_method_2_code 36 = .ok (.getfield 35, 3) := by decide +kernel
theorem nd_MO_term_39 : decode prog_8_method_2_code 39 = .ok (.iload 6, 2) := by decide +kernel
theorem nd_MO_term_41 : decode prog_8_method_2_code 41 = .ok (.iaload, 1) := by decide +kernel
theorem nd_MO_term_42 : decode prog_8_method_2_code 42 = .ok (.ifCond .eq 72, 3) := by decide +kernel
theorem nd_MO_term_45 : decode prog_8_method_2_code 45 = .ok (.aload_n 0, 1) := by decide +kernel
theorem nd_MO_term_46 : decode prog_8_method_2_code 46 = .ok (.getfield 35, 3) := by decide +kernel
theorem nd_MO_term_49 : decode prog_8_method_2_code 49 = .ok (.iload 6, 2) := by decide +kernel
theorem nd_MO_term_51 : decode prog_8_method_2_code 51 = .ok (.iaload, 1) := by decide +kernel
theorem nd_MO_term_52 : decode prog_8_method_2_code 52 = .ok (.istore 7, 2) := by decide +kernel
theorem nd_MO_term_54 : decode prog_8_method_2_code 54 = .ok (.aload_n 0, 1) := by decide +kernel
theorem nd_MO_term_55 : decode prog_8_method_2_code 55 = .ok (.getfield 13, 3) := by decide +kernel
theorem nd_MO_term_58 : decode prog_8_method_2_code 58 = .ok (.iload 7, 2) := by decide +kernel
theorem nd_MO_term_60 : decode prog_8_method_2_code 60 = .ok (.baload, 1) := by decide +kernel
theorem nd_MO_term_61 : decode prog_8_method_2_code 61 = .ok (.iload_n 1, 1) := by decide +kernel
theorem nd_MO_term_62 : decode prog_8_method_2_code 62 = .ok (.if_icmp .ne 40, 3) := by decide +kernel
theorem nd_MO_term_65 : decode prog_8_method_2_code 65 = .ok (.aload_n 0, 1) := by decide +kernel
theorem nd_MO_term_66 : decode prog_8_method_2_code 66 = .ok (.getfield 17, 3) := by decide +kernel
theorem nd_MO_term_69 : decode prog_8_method_2_code 69 = .ok (.iload 7, 2) := by decide +kernel
theorem nd_MO_term_71 : decode prog_8_method_2_code 71 = .ok (.iaload, 1) := by decide +kernel
theorem nd_MO_term_72 : decode prog_8_method_2_code 72 = .ok (.iload_n 2, 1) := by decide +kernel
theorem nd_MO_term_73 : decode prog_8_method_2_code 73 = .ok (.if_icmp .ne 29, 3) := by decide +kernel
theorem nd_MO_term_76 : decode prog_8_method_2_code 76 = .ok (.aload_n 0, 1) := by decide +kernel
theorem nd_MO_term_77 : decode prog_8_method_2_code 77 = .ok (.getfield 21, 3) := by decide +kernel
theorem nd_MO_term_80 : decode prog_8_method_2_code 80 = .ok (.iload 7, 2) := by decide +kernel
theorem nd_MO_term_82 : decode prog_8_method_2_code 82 = .ok (.iaload, 1) := by decide +kernel
theorem nd_MO_term_83 : decode prog_8_method_2_code 83 = .ok (.iload_n 3, 1) := by decide +kernel
theorem nd_MO_term_84 : decode prog_8_method_2_code 84 = .ok (.if_icmp .ne 18, 3) := by decide +kernel
theorem nd_MO_term_87 : decode prog_8_method_2_code 87 = .ok (.aload_n 0, 1) := by decide +kernel
theorem nd_MO_term_88 : decode prog_8_method_2_code 88 = .ok (.getfield 24, 3) := by decide +kernel
theorem nd_MO_term_91 : decode prog_8_method_2_code 91 = .ok (.iload 7, 2) := by decide +kernel
theorem nd_MO_term_93 : decode prog_8_method_2_code 93 = .ok (.iaload, 1) := by decide +kernel
theorem nd_MO_term_94 : decode prog_8_method_2_code 94 = .ok (.iload 4, 2) := by decide +kernel
theorem nd_MO_term_96 : decode prog_8_method_2_code 96 = .ok (.if_icmp .ne 6, 3) := by decide +kernel
theorem nd_MO_term_99 : decode prog_8_method_2_code 99 = .ok (.iload 7, 2) := by decide +kernel
theorem nd_MO_term_101 : decode prog_8_method_2_code 101 = .ok (.ireturn, 1) := by decide +kernel
theorem nd_MO_term_102 : decode prog_8_method_2_code 102 = .ok (.iload 6, 2) := by decide +kernel
theorem nd_MO_term_104 : decode prog_8_method_2_code 104 = .ok (.iconst 1, 1) := by decide +kernel
theorem nd_MO_term_105 : decode prog_8_method_2_code 105 = .ok (.iadd, 1) := by decide +kernel
theorem nd_MO_term_106 : decode prog_8_method_2_code 106 = .ok (.ldc 91, 2) := by decide +kernel
theorem nd_MO_term_108 : decode prog_8_method_2_code 108 = .ok (.iand, 1) := by decide +kernel
theorem nd_MO_term_109 : decode prog_8_method_2_code 109 = .ok (.istore 6, 2) := by decide +kernel
theorem nd_MO_term_111 : decode prog_8_method_2_code 111 = .ok (.goto (-76), 3) := by decide +kernel
theorem nd_MO_term_114 : decode prog_8_method_2_code 114 = .ok (.aload_n 0, 1) := by decide +kernel
theorem nd_MO_term_115 : decode prog_8_method_2_code 115 = .ok (.getfield 35, 3) := by decide +kernel
theorem nd_MO_term_118 : decode prog_8_method_2_code 118 = .ok (.iload 6, 2) := by decide +kernel
theorem nd_MO_term_120 : decode prog_8_method_2_code 120 = .ok (.aload_n 0, 1) := by decide +kernel
theorem nd_MO_term_121 : decode prog_8_method_2_code 121 = .ok (.getfield 7, 3) := by decide +kernel
theorem nd_MO_term_124 : decode prog_8_method_2_code 124 = .ok (.iastore, 1) := by decide +kernel
theorem nd_MO_term_125 : decode prog_8_method_2_code 125 = .ok (.aload_n 0, 1) := by decide +kernel
theorem nd_MO_term_126 : decode prog_8_method_2_code 126 = .ok (.getfield 13, 3) := by decide +kernel
theorem nd_MO_term_129 : decode prog_8_method_2_code 129 = .ok (.aload_n 0, 1) := by decide +kernel
theorem nd_MO_term_130 : decode prog_8_method_2_code 130 = .ok (.getfield 7, 3) := by decide +kernel
theorem nd_MO_term_133 : decode prog_8_method_2_code 133 = .ok (.iload_n 1, 1) := by decide +kernel
theorem nd_MO_term_134 : decode prog_8_method_2_code 134 = .ok (.i2b, 1) := by decide +kernel
theorem nd_MO_term_135 : decode prog_8_method_2_code 135 = .ok (.bastore, 1) := by decide +kernel
theorem nd_MO_term_136 : decode prog_8_method_2_code 136 = .ok (.aload_n 0, 1) := by decide +kernel
theorem nd_MO_term_137 : decode prog_8_method_2_code 137 = .ok (.getfield 17, 3) := by decide +kernel
theorem nd_MO_term_140 : decode prog_8_method_2_code 140 = .ok (.aload_n 0, 1) := by decide +kernel
theorem nd_MO_term_141 : decode prog_8_method_2_code 141 = .ok (.getfield 7, 3) := by decide +kernel
theorem nd_MO_term_144 : decode prog_8_method_2_code 144 = .ok (.iload_n 2, 1) := by decide +kernel
theorem nd_MO_term_145 : decode prog_8_method_2_code 145 = .ok (.iastore, 1) := by decide +kernel
theorem nd_MO_term_146 : decode prog_8_method_2_code 146 = .ok (.aload_n 0, 1) := by decide +kernel
theorem nd_MO_term_147 : decode prog_8_method_2_code 147 = .ok (.getfield 21, 3) := by decide +kernel
theorem nd_MO_term_150 : decode prog_8_method_2_code 150 = .ok (.aload_n 0, 1) := by decide +kernel
theorem nd_MO_term_151 : decode prog_8_method_2_code 151 = .ok (.getfield 7, 3) := by decide +kernel
theorem nd_MO_term_154 : decode prog_8_method_2_code 154 = .ok (.iload_n 3, 1) := by decide +kernel
theorem nd_MO_term_155 : decode prog_8_method_2_code 155 = .ok (.iastore, 1) := by decide +kernel
theorem nd_MO_term_156 : decode prog_8_method_2_code 156 = .ok (.aload_n 0, 1) := by decide +kernel
theorem nd_MO_term_157 : decode prog_8_method_2_code 157 = .ok (.getfield 24, 3) := by decide +kernel
theorem nd_MO_term_160 : decode prog_8_method_2_code 160 = .ok (.aload_n 0, 1) := by decide +kernel
theorem nd_MO_term_161 : decode prog_8_method_2_code 161 = .ok (.getfield 7, 3) := by decide +kernel
theorem nd_MO_term_164 : decode prog_8_method_2_code 164 = .ok (.iload 4, 2) := by decide +kernel
theorem nd_MO_term_166 : decode prog_8_method_2_code 166 = .ok (.iastore, 1) := by decide +kernel
theorem nd_MO_term_167 : decode prog_8_method_2_code 167 = .ok (.aload_n 0, 1) := by decide +kernel
theorem nd_MO_term_168 : decode prog_8_method_2_code 168 = .ok (.dup, 1) := by decide +kernel
theorem nd_MO_term_169 : decode prog_8_method_2_code 169 = .ok (.getfield 7, 3) := by decide +kernel
theorem nd_MO_term_172 : decode prog_8_method_2_code 172 = .ok (.iconst 1, 1) := by decide +kernel
theorem nd_MO_term_173 : decode prog_8_method_2_code 173 = .ok (.iadd, 1) := by decide +kernel
theorem nd_MO_term_174 : decode prog_8_method_2_code 174 = .ok (.putfield 7, 3) := by decide +kernel
theorem nd_MO_term_177 : decode prog_8_method_2_code 177 = .ok (.aload_n 0, 1) := by decide +kernel
theorem nd_MO_term_178 : decode prog_8_method_2_code 178 = .ok (.getfield 7, 3) := by decide +kernel
theorem nd_MO_term_181 : decode prog_8_method_2_code 181 = .ok (.iconst 1, 1) := by decide +kernel
theorem nd_MO_term_182 : decode prog_8_method_2_code 182 = .ok (.isub, 1) := by decide +kernel
theorem nd_MO_term_183 : decode prog_8_method_2_code 183 = .ok (.ireturn, 1) := by decide +kernel
theorem nd_MO_publicOf_0 : decode prog_8_method_4_code 0 = .ok (.aload_n 0, 1) := by decide +kernel
theorem nd_MO_publicOf_1 : decode prog_8_method_4_code 1 = .ok (.iconst 2, 1) := by decide +kernel
theorem nd_MO_publicOf_2 : decode prog_8_method_4_code 2 = .ok (.iload_n 1, 1) := by decide +kernel
theorem nd_MO_publicOf_3 : decode prog_8_method_4_code 3 = .ok (.iconst 0, 1) := by decide +kernel
theorem nd_MO_publicOf_4 : decode prog_8_method_4_code 4 = .ok (.iconst 0, 1) := by decide +kernel
theorem nd_MO_publicOf_5 : decode prog_8_method_4_code 5 = .ok (.invokevirtual 95, 3) := by decide +kernel
theorem nd_MO_publicOf_8 : decode prog_8_method_4_code 8 = .ok (.ireturn, 1) := by decide +kernel
theorem nd_MO_shared_0 : decode prog_8_method_5_code 0 = .ok (.iload_n 1, 1) := by decide +kernel
theorem nd_MO_shared_1 : decode prog_8_method_5_code 1 = .ok (.iload_n 2, 1) := by decide +kernel
theorem nd_MO_shared_2 : decode prog_8_method_5_code 2 = .ok (.if_icmp .ge 14, 3) := by decide +kernel
theorem nd_MO_shared_5 : decode prog_8_method_5_code 5 = .ok (.aload_n 0, 1) := by decide +kernel
theorem nd_MO_shared_6 : decode prog_8_method_5_code 6 = .ok (.iconst 3, 1) := by decide +kernel
theorem nd_MO_shared_7 : decode prog_8_method_5_code 7 = .ok (.iload_n 1, 1) := by decide +kernel
theorem nd_MO_shared_8 : decode prog_8_method_5_code 8 = .ok (.iload_n 2, 1) := by decide +kernel
theorem nd_MO_shared_9 : decode prog_8_method_5_code 9 = .ok (.iconst 0, 1) := by decide +kernel
theorem nd_MO_shared_10 : decode prog_8_method_5_code 10 = .ok (.invokevirtual 95, 3) := by decide +kernel
theorem nd_MO_shared_13 : decode prog_8_method_5_code 13 = .ok (.goto 11, 3) := by decide +kernel
theorem nd_MO_shared_16 : decode prog_8_method_5_code 16 = .ok (.aload_n 0, 1) := by decide +kernel
theorem nd_MO_shared_17 : decode prog_8_method_5_code 17 = .ok (.iconst 3, 1) := by decide +kernel
theorem nd_MO_shared_18 : decode prog_8_method_5_code 18 = .ok (.iload_n 2, 1) := by decide +kernel
theorem nd_MO_shared_19 : decode prog_8_method_5_code 19 = .ok (.iload_n 1, 1) := by decide +kernel
theorem nd_MO_shared_20 : decode prog_8_method_5_code 20 = .ok (.iconst 0, 1) := by decide +kernel
theorem nd_MO_shared_21 : decode prog_8_method_5_code 21 = .ok (.invokevirtual 95, 3) := by decide +kernel
theorem nd_MO_shared_24 : decode prog_8_method_5_code 24 = .ok (.ireturn, 1) := by decide +kernel
theorem nd_MO_mix_0 : decode prog_8_method_6_code 0 = .ok (.aload_n 0, 1) := by decide +kernel
theorem nd_MO_mix_1 : decode prog_8_method_6_code 1 = .ok (.iconst 4, 1) := by decide +kernel
theorem nd_MO_mix_2 : decode prog_8_method_6_code 2 = .ok (.iload_n 1, 1) := by decide +kernel
theorem nd_MO_mix_3 : decode prog_8_method_6_code 3 = .ok (.iload_n 2, 1) := by decide +kernel
theorem nd_MO_mix_4 : decode prog_8_method_6_code 4 = .ok (.iload_n 3, 1) := by decide +kernel
theorem nd_MO_mix_5 : decode prog_8_method_6_code 5 = .ok (.invokevirtual 95, 3) := by decide +kernel
theorem nd_MO_mix_8 : decode prog_8_method_6_code 8 = .ok (.ireturn, 1) := by decide +kernel
theorem nd_MO_send_0 : decode prog_8_method_17_code 0 = .ok (.iload_n 1, 1) := by decide +kernel
theorem nd_MO_send_1 : decode prog_8_method_17_code 1 = .ok (.invokestatic 115, 3) := by decide +kernel
theorem nd_MO_send_4 : decode prog_8_method_17_code 4 = .ok (.ifCond .ne 5, 3) := by decide +kernel
theorem nd_MO_send_7 : decode prog_8_method_17_code 7 = .ok (.iconst (-1), 1) := by decide +kernel
theorem nd_MO_send_8 : decode prog_8_method_17_code 8 = .ok (.ireturn, 1) := by decide +kernel
theorem nd_MO_send_9 : decode prog_8_method_17_code 9 = .ok (.aload_n 0, 1) := by decide +kernel
theorem nd_MO_send_10 : decode prog_8_method_17_code 10 = .ok (.iload_n 1, 1) := by decide +kernel
theorem nd_MO_send_11 : decode prog_8_method_17_code 11 = .ok (.invokevirtual 118, 3) := by decide +kernel
theorem nd_MO_send_14 : decode prog_8_method_17_code 14 = .ok (.aload_n 0, 1) := by decide +kernel
theorem nd_MO_send_15 : decode prog_8_method_17_code 15 = .ok (.getfield 66, 3) := by decide +kernel
theorem nd_MO_send_18 : decode prog_8_method_17_code 18 = .ok (.iconst 3, 1) := by decide +kernel
theorem nd_MO_send_19 : decode prog_8_method_17_code 19 = .ok (.iaload, 1) := by decide +kernel
theorem nd_MO_send_20 : decode prog_8_method_17_code 20 = .ok (.ifCond .ne 15, 3) := by decide +kernel
theorem nd_MO_send_23 : decode prog_8_method_17_code 23 = .ok (.aload_n 0, 1) := by decide +kernel
theorem nd_MO_send_24 : decode prog_8_method_17_code 24 = .ok (.getfield 66, 3) := by decide +kernel
theorem nd_MO_send_27 : decode prog_8_method_17_code 27 = .ok (.iconst 2, 1) := by decide +kernel
theorem nd_MO_send_28 : decode prog_8_method_17_code 28 = .ok (.iaload, 1) := by decide +kernel
theorem nd_MO_send_29 : decode prog_8_method_17_code 29 = .ok (.ifCond .ne 6, 3) := by decide +kernel
theorem nd_MO_send_32 : decode prog_8_method_17_code 32 = .ok (.bipush (-5), 2) := by decide +kernel
theorem nd_MO_send_34 : decode prog_8_method_17_code 34 = .ok (.ireturn, 1) := by decide +kernel
theorem nd_MO_send_35 : decode prog_8_method_17_code 35 = .ok (.aload_n 0, 1) := by decide +kernel
theorem nd_MO_send_36 : decode prog_8_method_17_code 36 = .ok (.getfield 66, 3) := by decide +kernel
theorem nd_MO_send_39 : decode prog_8_method_17_code 39 = .ok (.iconst 3, 1) := by decide +kernel
theorem nd_MO_send_40 : decode prog_8_method_17_code 40 = .ok (.iaload, 1) := by decide +kernel
theorem nd_MO_send_41 : decode prog_8_method_17_code 41 = .ok (.ifCond .ne 90, 3) := by decide +kernel
theorem nd_MO_send_44 : decode prog_8_method_17_code 44 = .ok (.aload_n 0, 1) := by decide +kernel
theorem nd_MO_send_45 : decode prog_8_method_17_code 45 = .ok (.getfield 66, 3) := by decide +kernel
theorem nd_MO_send_48 : decode prog_8_method_17_code 48 = .ok (.iconst 5, 1) := by decide +kernel
theorem nd_MO_send_49 : decode prog_8_method_17_code 49 = .ok (.aload_n 0, 1) := by decide +kernel
theorem nd_MO_send_50 : decode prog_8_method_17_code 50 = .ok (.getfield 66, 3) := by decide +kernel
theorem nd_MO_send_53 : decode prog_8_method_17_code 53 = .ok (.iconst 4, 1) := by decide +kernel
theorem nd_MO_send_54 : decode prog_8_method_17_code 54 = .ok (.iaload, 1) := by decide +kernel
theorem nd_MO_send_55 : decode prog_8_method_17_code 55 = .ok (.iastore, 1) := by decide +kernel
theorem nd_MO_send_56 : decode prog_8_method_17_code 56 = .ok (.aload_n 0, 1) := by decide +kernel
theorem nd_MO_send_57 : decode prog_8_method_17_code 57 = .ok (.getfield 66, 3) := by decide +kernel
theorem nd_MO_send_60 : decode prog_8_method_17_code 60 = .ok (.iconst 4, 1) := by decide +kernel
theorem nd_MO_send_61 : decode prog_8_method_17_code 61 = .ok (.iconst 0, 1) := by decide +kernel
theorem nd_MO_send_62 : decode prog_8_method_17_code 62 = .ok (.iastore, 1) := by decide +kernel
theorem nd_MO_send_63 : decode prog_8_method_17_code 63 = .ok (.aload_n 0, 1) := by decide +kernel
theorem nd_MO_send_64 : decode prog_8_method_17_code 64 = .ok (.getfield 66, 3) := by decide +kernel
theorem nd_MO_send_67 : decode prog_8_method_17_code 67 = .ok (.iconst 1, 1) := by decide +kernel
theorem nd_MO_send_68 : decode prog_8_method_17_code 68 = .ok (.aload_n 0, 1) := by decide +kernel
theorem nd_MO_send_69 : decode prog_8_method_17_code 69 = .ok (.invokevirtual 69, 3) := by decide +kernel
theorem nd_MO_send_72 : decode prog_8_method_17_code 72 = .ok (.iastore, 1) := by decide +kernel
theorem nd_MO_send_73 : decode prog_8_method_17_code 73 = .ok (.aload_n 0, 1) := by decide +kernel
theorem nd_MO_send_74 : decode prog_8_method_17_code 74 = .ok (.aload_n 0, 1) := by decide +kernel
theorem nd_MO_send_75 : decode prog_8_method_17_code 75 = .ok (.getfield 66, 3) := by decide +kernel
theorem nd_MO_send_78 : decode prog_8_method_17_code 78 = .ok (.iconst 1, 1) := by decide +kernel
theorem nd_MO_send_79 : decode prog_8_method_17_code 79 = .ok (.iaload, 1) := by decide +kernel
theorem nd_MO_send_80 : decode prog_8_method_17_code 80 = .ok (.aload_n 0, 1) := by decide +kernel
theorem nd_MO_send_81 : decode prog_8_method_17_code 81 = .ok (.getfield 17, 3) := by decide +kernel
theorem nd_MO_send_84 : decode prog_8_method_17_code 84 = .ok (.aload_n 0, 1) := by decide +kernel
theorem nd_MO_send_85 : decode prog_8_method_17_code 85 = .ok (.getfield 66, 3) := by decide +kernel
theorem nd_MO_send_88 : decode prog_8_method_17_code 88 = .ok (.iconst 2, 1) := by decide +kernel
theorem nd_MO_send_89 : decode prog_8_method_17_code 89 = .ok (.iaload, 1) := by decide +kernel
theorem nd_MO_send_90 : decode prog_8_method_17_code 90 = .ok (.iaload, 1) := by decide +kernel
theorem nd_MO_send_91 : decode prog_8_method_17_code 91 = .ok (.invokevirtual 80, 3) := by decide +kernel
theorem nd_MO_send_94 : decode prog_8_method_17_code 94 = .ok (.istore_n 2, 1) := by decide +kernel
theorem nd_MO_send_95 : decode prog_8_method_17_code 95 = .ok (.aload_n 0, 1) := by decide +kernel
theorem nd_MO_send_96 : decode prog_8_method_17_code 96 = .ok (.getfield 66, 3) := by decide +kernel
theorem nd_MO_send_99 : decode prog_8_method_17_code 99 = .ok (.iconst 3, 1) := by decide +kernel
theorem nd_MO_send_100 : decode prog_8_method_17_code 100 = .ok (.aload_n 0, 1) := by decide +kernel
theorem nd_MO_send_101 : decode prog_8_method_17_code 101 = .ok (.iconst 5, 1) := by decide +kernel
theorem nd_MO_send_102 : decode prog_8_method_17_code 102 = .ok (.aload_n 0, 1) := by decide +kernel
theorem nd_MO_send_103 : decode prog_8_method_17_code 103 = .ok (.getfield 66, 3) := by decide +kernel
theorem nd_MO_send_106 : decode prog_8_method_17_code 106 = .ok (.iconst 0, 1) := by decide +kernel
theorem nd_MO_send_107 : decode prog_8_method_17_code 107 = .ok (.iaload, 1) := by decide +kernel
theorem nd_MO_send_108 : decode prog_8_method_17_code 108 = .ok (.iload_n 2, 1) := by decide +kernel
theorem nd_MO_send_109 : decode prog_8_method_17_code 109 = .ok (.invokevirtual 84, 3) := by decide +kernel
theorem nd_MO_send_112 : decode prog_8_method_17_code 112 = .ok (.iastore, 1) := by decide +kernel
theorem nd_MO_send_113 : decode prog_8_method_17_code 113 = .ok (.aload_n 0, 1) := by decide +kernel
theorem nd_MO_send_114 : decode prog_8_method_17_code 114 = .ok (.getfield 66, 3) := by decide +kernel
theorem nd_MO_send_117 : decode prog_8_method_17_code 117 = .ok (.iconst 0, 1) := by decide +kernel
theorem nd_MO_send_118 : decode prog_8_method_17_code 118 = .ok (.aload_n 0, 1) := by decide +kernel
theorem nd_MO_send_119 : decode prog_8_method_17_code 119 = .ok (.iconst 4, 1) := by decide +kernel
theorem nd_MO_send_120 : decode prog_8_method_17_code 120 = .ok (.aload_n 0, 1) := by decide +kernel
theorem nd_MO_send_121 : decode prog_8_method_17_code 121 = .ok (.getfield 66, 3) := by decide +kernel
theorem nd_MO_send_124 : decode prog_8_method_17_code 124 = .ok (.iconst 0, 1) := by decide +kernel
theorem nd_MO_send_125 : decode prog_8_method_17_code 125 = .ok (.iaload, 1) := by decide +kernel
theorem nd_MO_send_126 : decode prog_8_method_17_code 126 = .ok (.iload_n 2, 1) := by decide +kernel
theorem nd_MO_send_127 : decode prog_8_method_17_code 127 = .ok (.invokevirtual 84, 3) := by decide +kernel
theorem nd_MO_send_130 : decode prog_8_method_17_code 130 = .ok (.iastore, 1) := by decide +kernel
theorem nd_MO_send_131 : decode prog_8_method_17_code 131 = .ok (.aload_n 0, 1) := by decide +kernel
theorem nd_MO_send_132 : decode prog_8_method_17_code 132 = .ok (.aload_n 0, 1) := by decide +kernel
theorem nd_MO_send_133 : decode prog_8_method_17_code 133 = .ok (.getfield 66, 3) := by decide +kernel
theorem nd_MO_send_136 : decode prog_8_method_17_code 136 = .ok (.iconst 1, 1) := by decide +kernel
theorem nd_MO_send_137 : decode prog_8_method_17_code 137 = .ok (.iaload, 1) := by decide +kernel
theorem nd_MO_send_138 : decode prog_8_method_17_code 138 = .ok (.invokevirtual 73, 3) := by decide +kernel
theorem nd_MO_send_141 : decode prog_8_method_17_code 141 = .ok (.istore_n 2, 1) := by decide +kernel
theorem nd_MO_send_142 : decode prog_8_method_17_code 142 = .ok (.aload_n 0, 1) := by decide +kernel
theorem nd_MO_send_143 : decode prog_8_method_17_code 143 = .ok (.getfield 42, 3) := by decide +kernel
theorem nd_MO_send_146 : decode prog_8_method_17_code 146 = .ok (.aload_n 0, 1) := by decide +kernel
theorem nd_MO_send_147 : decode prog_8_method_17_code 147 = .ok (.getfield 122, 3) := by decide +kernel
theorem nd_MO_send_150 : decode prog_8_method_17_code 150 = .ok (.aload_n 0, 1) := by decide +kernel
theorem nd_MO_send_151 : decode prog_8_method_17_code 151 = .ok (.getfield 66, 3) := by decide +kernel
theorem nd_MO_send_154 : decode prog_8_method_17_code 154 = .ok (.iconst 4, 1) := by decide +kernel
theorem nd_MO_send_155 : decode prog_8_method_17_code 155 = .ok (.iaload, 1) := by decide +kernel
theorem nd_MO_send_156 : decode prog_8_method_17_code 156 = .ok (.iastore, 1) := by decide +kernel
theorem nd_MO_send_157 : decode prog_8_method_17_code 157 = .ok (.aload_n 0, 1) := by decide +kernel
theorem nd_MO_send_158 : decode prog_8_method_17_code 158 = .ok (.getfield 45, 3) := by decide +kernel
theorem nd_MO_send_161 : decode prog_8_method_17_code 161 = .ok (.aload_n 0, 1) := by decide +kernel
theorem nd_MO_send_162 : decode prog_8_method_17_code 162 = .ok (.getfield 122, 3) := by decide +kernel
theorem nd_MO_send_165 : decode prog_8_method_17_code 165 = .ok (.aload_n 0, 1) := by decide +kernel
theorem nd_MO_send_166 : decode prog_8_method_17_code 166 = .ok (.getfield 66, 3) := by decide +kernel
theorem nd_MO_send_169 : decode prog_8_method_17_code 169 = .ok (.iconst 5, 1) := by decide +kernel
theorem nd_MO_send_170 : decode prog_8_method_17_code 170 = .ok (.iaload, 1) := by decide +kernel
theorem nd_MO_send_171 : decode prog_8_method_17_code 171 = .ok (.iastore, 1) := by decide +kernel
theorem nd_MO_send_172 : decode prog_8_method_17_code 172 = .ok (.aload_n 0, 1) := by decide +kernel
theorem nd_MO_send_173 : decode prog_8_method_17_code 173 = .ok (.getfield 48, 3) := by decide +kernel
theorem nd_MO_send_176 : decode prog_8_method_17_code 176 = .ok (.aload_n 0, 1) := by decide +kernel
theorem nd_MO_send_177 : decode prog_8_method_17_code 177 = .ok (.getfield 122, 3) := by decide +kernel
theorem nd_MO_send_180 : decode prog_8_method_17_code 180 = .ok (.iload_n 1, 1) := by decide +kernel
theorem nd_MO_send_181 : decode prog_8_method_17_code 181 = .ok (.iastore, 1) := by decide +kernel
theorem nd_MO_send_182 : decode prog_8_method_17_code 182 = .ok (.aload_n 0, 1) := by decide +kernel
theorem nd_MO_send_183 : decode prog_8_method_17_code 183 = .ok (.getfield 51, 3) := by decide +kernel
theorem nd_MO_send_186 : decode prog_8_method_17_code 186 = .ok (.aload_n 0, 1) := by decide +kernel
theorem nd_MO_send_187 : decode prog_8_method_17_code 187 = .ok (.getfield 122, 3) := by decide +kernel
theorem nd_MO_send_190 : decode prog_8_method_17_code 190 = .ok (.iload_n 2, 1) := by decide +kernel
theorem nd_MO_send_191 : decode prog_8_method_17_code 191 = .ok (.iastore, 1) := by decide +kernel
theorem nd_MO_send_192 : decode prog_8_method_17_code 192 = .ok (.aload_n 0, 1) := by decide +kernel
theorem nd_MO_send_193 : decode prog_8_method_17_code 193 = .ok (.bipush 6, 2) := by decide +kernel
theorem nd_MO_send_195 : decode prog_8_method_17_code 195 = .ok (.iconst 1, 1) := by decide +kernel
theorem nd_MO_send_196 : decode prog_8_method_17_code 196 = .ok (.aload_n 0, 1) := by decide +kernel
theorem nd_MO_send_197 : decode prog_8_method_17_code 197 = .ok (.aload_n 0, 1) := by decide +kernel
theorem nd_MO_send_198 : decode prog_8_method_17_code 198 = .ok (.getfield 122, 3) := by decide +kernel
theorem nd_MO_send_201 : decode prog_8_method_17_code 201 = .ok (.invokevirtual 125, 3) := by decide +kernel
theorem nd_MO_send_204 : decode prog_8_method_17_code 204 = .ok (.iadd, 1) := by decide +kernel
theorem nd_MO_send_205 : decode prog_8_method_17_code 205 = .ok (.aload_n 0, 1) := by decide +kernel
theorem nd_MO_send_206 : decode prog_8_method_17_code 206 = .ok (.getfield 77, 3) := by decide +kernel
theorem nd_MO_send_209 : decode prog_8_method_17_code 209 = .ok (.iload_n 2, 1) := by decide +kernel
theorem nd_MO_send_210 : decode prog_8_method_17_code 210 = .ok (.invokevirtual 95, 3) := by decide +kernel
theorem nd_MO_send_213 : decode prog_8_method_17_code 213 = .ok (.istore_n 3, 1) := by decide +kernel
theorem nd_MO_send_214 : decode prog_8_method_17_code 214 = .ok (.aload_n 0, 1) := by decide +kernel
theorem nd_MO_send_215 : decode prog_8_method_17_code 215 = .ok (.dup, 1) := by decide +kernel
theorem nd_MO_send_216 : decode prog_8_method_17_code 216 = .ok (.getfield 122, 3) := by decide +kernel
theorem nd_MO_send_219 : decode prog_8_method_17_code 219 = .ok (.iconst 1, 1) := by decide +kernel
theorem nd_MO_send_220 : decode prog_8_method_17_code 220 = .ok (.iadd, 1) := by decide +kernel
theorem nd_MO_send_221 : decode prog_8_method_17_code 221 = .ok (.putfield 122, 3) := by decide +kernel
theorem nd_MO_send_224 : decode prog_8_method_17_code 224 = .ok (.aload_n 0, 1) := by decide +kernel
theorem nd_MO_send_225 : decode prog_8_method_17_code 225 = .ok (.getfield 57, 3) := by decide +kernel
theorem nd_MO_send_228 : decode prog_8_method_17_code 228 = .ok (.aload_n 0, 1) := by decide +kernel
theorem nd_MO_send_229 : decode prog_8_method_17_code 229 = .ok (.getfield 128, 3) := by decide +kernel
theorem nd_MO_send_232 : decode prog_8_method_17_code 232 = .ok (.aload_n 0, 1) := by decide +kernel
theorem nd_MO_send_233 : decode prog_8_method_17_code 233 = .ok (.invokevirtual 69, 3) := by decide +kernel
theorem nd_MO_send_236 : decode prog_8_method_17_code 236 = .ok (.iastore, 1) := by decide +kernel
theorem nd_MO_send_237 : decode prog_8_method_17_code 237 = .ok (.aload_n 0, 1) := by decide +kernel
theorem nd_MO_send_238 : decode prog_8_method_17_code 238 = .ok (.getfield 54, 3) := by decide +kernel
theorem nd_MO_send_241 : decode prog_8_method_17_code 241 = .ok (.aload_n 0, 1) := by decide +kernel
theorem nd_MO_send_242 : decode prog_8_method_17_code 242 = .ok (.getfield 128, 3) := by decide +kernel
theorem nd_MO_send_245 : decode prog_8_method_17_code 245 = .ok (.aload_n 0, 1) := by decide +kernel
theorem nd_MO_send_246 : decode prog_8_method_17_code 246 = .ok (.iconst 5, 1) := by decide +kernel
theorem nd_MO_send_247 : decode prog_8_method_17_code 247 = .ok (.aload_n 0, 1) := by decide +kernel
theorem nd_MO_send_248 : decode prog_8_method_17_code 248 = .ok (.bipush 6, 2) := by decide +kernel
theorem nd_MO_send_250 : decode prog_8_method_17_code 250 = .ok (.aload_n 0, 1) := by decide +kernel
theorem nd_MO_send_251 : decode prog_8_method_17_code 251 = .ok (.getfield 66, 3) := by decide +kernel
theorem nd_MO_send_254 : decode prog_8_method_17_code 254 = .ok (.iconst 3, 1) := by decide +kernel
theorem nd_MO_send_255 : decode prog_8_method_17_code 255 = .ok (.iaload, 1) := by decide +kernel
theorem nd_MO_send_256 : decode prog_8_method_17_code 256 = .ok (.iconst 0, 1) := by decide +kernel
theorem nd_MO_send_257 : decode prog_8_method_17_code 257 = .ok (.invokevirtual 84, 3) := by decide +kernel
theorem nd_MO_send_260 : decode prog_8_method_17_code 260 = .ok (.iload_n 3, 1) := by decide +kernel
theorem nd_MO_send_261 : decode prog_8_method_17_code 261 = .ok (.aload_n 0, 1) := by decide +kernel
theorem nd_MO_send_262 : decode prog_8_method_17_code 262 = .ok (.bipush 6, 2) := by decide +kernel
theorem nd_MO_send_264 : decode prog_8_method_17_code 264 = .ok (.iconst 0, 1) := by decide +kernel
theorem nd_MO_send_265 : decode prog_8_method_17_code 265 = .ok (.aload_n 0, 1) := by decide +kernel
theorem nd_MO_send_266 : decode prog_8_method_17_code 266 = .ok (.getfield 57, 3) := by decide +kernel
theorem nd_MO_send_269 : decode prog_8_method_17_code 269 = .ok (.aload_n 0, 1) := by decide +kernel
theorem nd_MO_send_270 : decode prog_8_method_17_code 270 = .ok (.getfield 128, 3) := by decide +kernel
theorem nd_MO_send_273 : decode prog_8_method_17_code 273 = .ok (.iaload, 1) := by decide +kernel
theorem nd_MO_send_274 : decode prog_8_method_17_code 274 = .ok (.iconst 0, 1) := by decide +kernel
theorem nd_MO_send_275 : decode prog_8_method_17_code 275 = .ok (.invokevirtual 95, 3) := by decide +kernel
theorem nd_MO_send_278 : decode prog_8_method_17_code 278 = .ok (.invokevirtual 95, 3) := by decide +kernel
theorem nd_MO_send_281 : decode prog_8_method_17_code 281 = .ok (.iastore, 1) := by decide +kernel
theorem nd_MO_send_282 : decode prog_8_method_17_code 282 = .ok (.aload_n 0, 1) := by decide +kernel
theorem nd_MO_send_283 : decode prog_8_method_17_code 283 = .ok (.aload_n 0, 1) := by decide +kernel
theorem nd_MO_send_284 : decode prog_8_method_17_code 284 = .ok (.getfield 54, 3) := by decide +kernel
theorem nd_MO_send_287 : decode prog_8_method_17_code 287 = .ok (.aload_n 0, 1) := by decide +kernel
theorem nd_MO_send_288 : decode prog_8_method_17_code 288 = .ok (.getfield 128, 3) := by decide +kernel
theorem nd_MO_send_291 : decode prog_8_method_17_code 291 = .ok (.iaload, 1) := by decide +kernel
theorem nd_MO_send_292 : decode prog_8_method_17_code 292 = .ok (.invokevirtual 131, 3) := by decide +kernel
theorem nd_MO_send_295 : decode prog_8_method_17_code 295 = .ok (.aload_n 0, 1) := by decide +kernel
theorem nd_MO_send_296 : decode prog_8_method_17_code 296 = .ok (.getfield 66, 3) := by decide +kernel
theorem nd_MO_send_299 : decode prog_8_method_17_code 299 = .ok (.iconst 3, 1) := by decide +kernel
theorem nd_MO_send_300 : decode prog_8_method_17_code 300 = .ok (.aload_n 0, 1) := by decide +kernel
theorem nd_MO_send_301 : decode prog_8_method_17_code 301 = .ok (.bipush 7, 2) := by decide +kernel
theorem nd_MO_send_303 : decode prog_8_method_17_code 303 = .ok (.aload_n 0, 1) := by decide +kernel
theorem nd_MO_send_304 : decode prog_8_method_17_code 304 = .ok (.getfield 66, 3) := by decide +kernel
theorem nd_MO_send_307 : decode prog_8_method_17_code 307 = .ok (.iconst 3, 1) := by decide +kernel
theorem nd_MO_send_308 : decode prog_8_method_17_code 308 = .ok (.iaload, 1) := by decide +kernel
theorem nd_MO_send_309 : decode prog_8_method_17_code 309 = .ok (.iconst 0, 1) := by decide +kernel
theorem nd_MO_send_310 : decode prog_8_method_17_code 310 = .ok (.invokevirtual 84, 3) := by decide +kernel
theorem nd_MO_send_313 : decode prog_8_method_17_code 313 = .ok (.iastore, 1) := by decide +kernel
theorem nd_MO_send_314 : decode prog_8_method_17_code 314 = .ok (.aload_n 0, 1) := by decide +kernel
theorem nd_MO_send_315 : decode prog_8_method_17_code 315 = .ok (.getfield 66, 3) := by decide +kernel
theorem nd_MO_send_318 : decode prog_8_method_17_code 318 = .ok (.iconst 4, 1) := by decide +kernel
theorem nd_MO_send_319 : decode prog_8_method_17_code 319 = .ok (.dup2, 1) := by decide +kernel
theorem nd_MO_send_320 : decode prog_8_method_17_code 320 = .ok (.iaload, 1) := by decide +kernel
theorem nd_MO_send_321 : decode prog_8_method_17_code 321 = .ok (.iconst 1, 1) := by decide +kernel
theorem nd_MO_send_322 : decode prog_8_method_17_code 322 = .ok (.iadd, 1) := by decide +kernel
theorem nd_MO_send_323 : decode prog_8_method_17_code 323 = .ok (.iastore, 1) := by decide +kernel
theorem nd_MO_send_324 : decode prog_8_method_17_code 324 = .ok (.aload_n 0, 1) := by decide +kernel
theorem nd_MO_send_325 : decode prog_8_method_17_code 325 = .ok (.iload_n 1, 1) := by decide +kernel
theorem nd_MO_send_326 : decode prog_8_method_17_code 326 = .ok (.invokevirtual 134, 3) := by decide +kernel
theorem nd_MO_send_329 : decode prog_8_method_17_code 329 = .ok (.aload_n 0, 1) := by decide +kernel
theorem nd_MO_send_330 : decode prog_8_method_17_code 330 = .ok (.dup, 1) := by decide +kernel
theorem nd_MO_send_331 : decode prog_8_method_17_code 331 = .ok (.getfield 128, 3) := by decide +kernel
theorem nd_MO_send_334 : decode prog_8_method_17_code 334 = .ok (.iconst 1, 1) := by decide +kernel
theorem nd_MO_send_335 : decode prog_8_method_17_code 335 = .ok (.iadd, 1) := by decide +kernel
theorem nd_MO_send_336 : decode prog_8_method_17_code 336 = .ok (.putfield 128, 3) := by decide +kernel
theorem nd_MO_send_339 : decode prog_8_method_17_code 339 = .ok (.aload_n 0, 1) := by decide +kernel
theorem nd_MO_send_340 : decode prog_8_method_17_code 340 = .ok (.getfield 128, 3) := by decide +kernel
theorem nd_MO_send_343 : decode prog_8_method_17_code 343 = .ok (.iconst 1, 1) := by decide +kernel
theorem nd_MO_send_344 : decode prog_8_method_17_code 344 = .ok (.isub, 1) := by decide +kernel
theorem nd_MO_send_345 : decode prog_8_method_17_code 345 = .ok (.ireturn, 1) := by decide +kernel
theorem nd_MO_isEnd_0 : decode prog_8_method_14_code 0 = .ok (.iload_n 0, 1) := by decide +kernel
theorem nd_MO_isEnd_1 : decode prog_8_method_14_code 1 = .ok (.ifCond .eq 8, 3) := by decide +kernel
theorem nd_MO_isEnd_4 : decode prog_8_method_14_code 4 = .ok (.iload_n 0, 1) := by decide +kernel
theorem nd_MO_isEnd_5 : decode prog_8_method_14_code 5 = .ok (.iconst 1, 1) := by decide +kernel
theorem nd_MO_isEnd_6 : decode prog_8_method_14_code 6 = .ok (.if_icmp .ne 7, 3) := by decide +kernel
theorem nd_MO_isEnd_9 : decode prog_8_method_14_code 9 = .ok (.iconst 1, 1) := by decide +kernel
theorem nd_MO_isEnd_10 : decode prog_8_method_14_code 10 = .ok (.goto 4, 3) := by decide +kernel
theorem nd_MO_isEnd_13 : decode prog_8_method_14_code 13 = .ok (.iconst 0, 1) := by decide +kernel
theorem nd_MO_isEnd_14 : decode prog_8_method_14_code 14 = .ok (.ireturn, 1) := by decide +kernel
theorem nd_MO_load_0 : decode prog_8_method_15_code 0 = .ok (.iconst 0, 1) := by decide +kernel
theorem nd_MO_load_1 : decode prog_8_method_15_code 1 = .ok (.istore_n 2, 1) := by decide +kernel
theorem nd_MO_load_2 : decode prog_8_method_15_code 2 = .ok (.iload_n 2, 1) := by decide +kernel
theorem nd_MO_load_3 : decode prog_8_method_15_code 3 = .ok (.bipush 33, 2) := by decide +kernel
theorem nd_MO_load_5 : decode prog_8_method_15_code 5 = .ok (.if_icmp .ge 26, 3) := by decide +kernel
theorem nd_MO_load_8 : decode prog_8_method_15_code 8 = .ok (.aload_n 0, 1) := by decide +kernel
theorem nd_MO_load_9 : decode prog_8_method_15_code 9 = .ok (.getfield 66, 3) := by decide +kernel
theorem nd_MO_load_12 : decode prog_8_method_15_code 12 = .ok (.iload_n 2, 1) := by decide +kernel
theorem nd_MO_load_13 : decode prog_8_method_15_code 13 = .ok (.aload_n 0, 1) := by decide +kernel
theorem nd_MO_load_14 : decode prog_8_method_15_code 14 = .ok (.getfield 60, 3) := by decide +kernel
theorem nd_MO_load_17 : decode prog_8_method_15_code 17 = .ok (.bipush 33, 2) := by decide +kernel
theorem nd_MO_load_19 : decode prog_8_method_15_code 19 = .ok (.iload_n 1, 1) := by decide +kernel
theorem nd_MO_load_20 : decode prog_8_method_15_code 20 = .ok (.imul, 1) := by decide +kernel
theorem nd_MO_load_21 : decode prog_8_method_15_code 21 = .ok (.iload_n 2, 1) := by decide +kernel
theorem nd_MO_load_22 : decode prog_8_method_15_code 22 = .ok (.iadd, 1) := by decide +kernel
theorem nd_MO_load_23 : decode prog_8_method_15_code 23 = .ok (.iaload, 1) := by decide +kernel
theorem nd_MO_load_24 : decode prog_8_method_15_code 24 = .ok (.iastore, 1) := by decide +kernel
theorem nd_MO_load_25 : decode prog_8_method_15_code 25 = .ok (.iinc 2 1, 3) := by decide +kernel
theorem nd_MO_load_28 : decode prog_8_method_15_code 28 = .ok (.goto (-26), 3) := by decide +kernel
theorem nd_MO_load_31 : decode prog_8_method_15_code 31 = .ok (.return_, 1) := by decide +kernel
theorem nd_MO_headLike_0 : decode prog_8_method_18_code 0 = .ok (.iconst 0, 1) := by decide +kernel
theorem nd_MO_headLike_1 : decode prog_8_method_18_code 1 = .ok (.istore_n 2, 1) := by decide +kernel
theorem nd_MO_headLike_2 : decode prog_8_method_18_code 2 = .ok (.aload_n 0, 1) := by decide +kernel
theorem nd_MO_headLike_3 : decode prog_8_method_18_code 3 = .ok (.getfield 42, 3) := by decide +kernel
theorem nd_MO_headLike_6 : decode prog_8_method_18_code 6 = .ok (.iload_n 2, 1) := by decide +kernel
theorem nd_MO_headLike_7 : decode prog_8_method_18_code 7 = .ok (.iaload, 1) := by decide +kernel
theorem nd_MO_headLike_8 : decode prog_8_method_18_code 8 = .ok (.aload_n 0, 1) := by decide +kernel
theorem nd_MO_headLike_9 : decode prog_8_method_18_code 9 = .ok (.getfield 42, 3) := by decide +kernel
theorem nd_MO_headLike_12 : decode prog_8_method_18_code 12 = .ok (.iload_n 1, 1) := by decide +kernel
theorem nd_MO_headLike_13 : decode prog_8_method_18_code 13 = .ok (.iaload, 1) := by decide +kernel
theorem nd_MO_headLike_14 : decode prog_8_method_18_code 14 = .ok (.if_icmp .ne 48, 3) := by decide +kernel
theorem nd_MO_headLike_17 : decode prog_8_method_18_code 17 = .ok (.aload_n 0, 1) := by decide +kernel
theorem nd_MO_headLike_18 : decode prog_8_method_18_code 18 = .ok (.getfield 45, 3) := by decide +kernel
theorem nd_MO_headLike_21 : decode prog_8_method_18_code 21 = .ok (.iload_n 2, 1) := by decide +kernel
theorem nd_MO_headLike_22 : decode prog_8_method_18_code 22 = .ok (.iaload, 1) := by decide +kernel
theorem nd_MO_headLike_23 : decode prog_8_method_18_code 23 = .ok (.aload_n 0, 1) := by decide +kernel
theorem nd_MO_headLike_24 : decode prog_8_method_18_code 24 = .ok (.getfield 45, 3) := by decide +kernel
theorem nd_MO_headLike_27 : decode prog_8_method_18_code 27 = .ok (.iload_n 1, 1) := by decide +kernel
theorem nd_MO_headLike_28 : decode prog_8_method_18_code 28 = .ok (.iaload, 1) := by decide +kernel
theorem nd_MO_headLike_29 : decode prog_8_method_18_code 29 = .ok (.if_icmp .ne 33, 3) := by decide +kernel
theorem nd_MO_headLike_32 : decode prog_8_method_18_code 32 = .ok (.aload_n 0, 1) := by decide +kernel
theorem nd_MO_headLike_33 : decode prog_8_method_18_code 33 = .ok (.getfield 48, 3) := by decide +kernel
theorem nd_MO_headLike_36 : decode prog_8_method_18_code 36 = .ok (.iload_n 2, 1) := by decide +kernel
theorem nd_MO_headLike_37 : decode prog_8_method_18_code 37 = .ok (.iaload, 1) := by decide +kernel
theorem nd_MO_headLike_38 : decode prog_8_method_18_code 38 = .ok (.aload_n 0, 1) := by decide +kernel
theorem nd_MO_headLike_39 : decode prog_8_method_18_code 39 = .ok (.getfield 48, 3) := by decide +kernel
theorem nd_MO_headLike_42 : decode prog_8_method_18_code 42 = .ok (.iload_n 1, 1) := by decide +kernel
theorem nd_MO_headLike_43 : decode prog_8_method_18_code 43 = .ok (.iaload, 1) := by decide +kernel
theorem nd_MO_headLike_44 : decode prog_8_method_18_code 44 = .ok (.if_icmp .ne 18, 3) := by decide +kernel
theorem nd_MO_headLike_47 : decode prog_8_method_18_code 47 = .ok (.aload_n 0, 1) := by decide +kernel
theorem nd_MO_headLike_48 : decode prog_8_method_18_code 48 = .ok (.getfield 51, 3) := by decide +kernel
theorem nd_MO_headLike_51 : decode prog_8_method_18_code 51 = .ok (.iload_n 2, 1) := by decide +kernel
theorem nd_MO_headLike_52 : decode prog_8_method_18_code 52 = .ok (.iaload, 1) := by decide +kernel
theorem nd_MO_headLike_53 : decode prog_8_method_18_code 53 = .ok (.aload_n 0, 1) := by decide +kernel
theorem nd_MO_headLike_54 : decode prog_8_method_18_code 54 = .ok (.getfield 51, 3) := by decide +kernel
theorem nd_MO_headLike_57 : decode prog_8_method_18_code 57 = .ok (.iload_n 1, 1) := by decide +kernel
theorem nd_MO_headLike_58 : decode prog_8_method_18_code 58 = .ok (.iaload, 1) := by decide +kernel
theorem nd_MO_headLike_59 : decode prog_8_method_18_code 59 = .ok (.if_icmp .eq 9, 3) := by decide +kernel
theorem nd_MO_headLike_62 : decode prog_8_method_18_code 62 = .ok (.iinc 2 1, 3) := by decide +kernel
theorem nd_MO_headLike_65 : decode prog_8_method_18_code 65 = .ok (.goto (-63), 3) := by decide +kernel
theorem nd_MO_headLike_68 : decode prog_8_method_18_code 68 = .ok (.iload_n 2, 1) := by decide +kernel
theorem nd_MO_headLike_69 : decode prog_8_method_18_code 69 = .ok (.ireturn, 1) := by decide +kernel
theorem nd_MO_give_0 : decode prog_8_method_7_code 0 = .ok (.iload_n 1, 1) := by decide +kernel
theorem nd_MO_give_1 : decode prog_8_method_7_code 1 = .ok (.ifCond .eq 12, 3) := by decide +kernel
theorem nd_MO_give_4 : decode prog_8_method_7_code 4 = .ok (.aload_n 0, 1) := by decide +kernel
theorem nd_MO_give_5 : decode prog_8_method_7_code 5 = .ok (.getfield 27, 3) := by decide +kernel
theorem nd_MO_give_8 : decode prog_8_method_7_code 8 = .ok (.iload_n 1, 1) := by decide +kernel
theorem nd_MO_give_9 : decode prog_8_method_7_code 9 = .ok (.baload, 1) := by decide +kernel
theorem nd_MO_give_10 : decode prog_8_method_7_code 10 = .ok (.ifCond .eq 4, 3) := by decide +kernel
theorem nd_MO_give_13 : decode prog_8_method_7_code 13 = .ok (.return_, 1) := by decide +kernel
theorem nd_MO_give_14 : decode prog_8_method_7_code 14 = .ok (.aload_n 0, 1) := by decide +kernel
theorem nd_MO_give_15 : decode prog_8_method_7_code 15 = .ok (.getfield 27, 3) := by decide +kernel
theorem nd_MO_give_18 : decode prog_8_method_7_code 18 = .ok (.iload_n 1, 1) := by decide +kernel
theorem nd_MO_give_19 : decode prog_8_method_7_code 19 = .ok (.iconst 1, 1) := by decide +kernel
theorem nd_MO_give_20 : decode prog_8_method_7_code 20 = .ok (.bastore, 1) := by decide +kernel
theorem nd_MO_give_21 : decode prog_8_method_7_code 21 = .ok (.aload_n 0, 1) := by decide +kernel
theorem nd_MO_give_22 : decode prog_8_method_7_code 22 = .ok (.iconst 1, 1) := by decide +kernel
theorem nd_MO_give_23 : decode prog_8_method_7_code 23 = .ok (.putfield 38, 3) := by decide +kernel
theorem nd_MO_give_26 : decode prog_8_method_7_code 26 = .ok (.return_, 1) := by decide +kernel
theorem nd_MO_store_0 : decode prog_8_method_16_code 0 = .ok (.iconst 0, 1) := by decide +kernel
theorem nd_MO_store_1 : decode prog_8_method_16_code 1 = .ok (.istore_n 2, 1) := by decide +kernel
theorem nd_MO_store_2 : decode prog_8_method_16_code 2 = .ok (.iload_n 2, 1) := by decide +kernel
theorem nd_MO_store_3 : decode prog_8_method_16_code 3 = .ok (.bipush 33, 2) := by decide +kernel
theorem nd_MO_store_5 : decode prog_8_method_16_code 5 = .ok (.if_icmp .ge 26, 3) := by decide +kernel
theorem nd_MO_store_8 : decode prog_8_method_16_code 8 = .ok (.aload_n 0, 1) := by decide +kernel
theorem nd_MO_store_9 : decode prog_8_method_16_code 9 = .ok (.getfield 60, 3) := by decide +kernel
theorem nd_MO_store_12 : decode prog_8_method_16_code 12 = .ok (.bipush 33, 2) := by decide +kernel
theorem nd_MO_store_14 : decode prog_8_method_16_code 14 = .ok (.iload_n 1, 1) := by decide +kernel
theorem nd_MO_store_15 : decode prog_8_method_16_code 15 = .ok (.imul, 1) := by decide +kernel
theorem nd_MO_store_16 : decode prog_8_method_16_code 16 = .ok (.iload_n 2, 1) := by decide +kernel
theorem nd_MO_store_17 : decode prog_8_method_16_code 17 = .ok (.iadd, 1) := by decide +kernel
theorem nd_MO_store_18 : decode prog_8_method_16_code 18 = .ok (.aload_n 0, 1) := by decide +kernel
theorem nd_MO_store_19 : decode prog_8_method_16_code 19 = .ok (.getfield 66, 3) := by decide +kernel
theorem nd_MO_store_22 : decode prog_8_method_16_code 22 = .ok (.iload_n 2, 1) := by decide +kernel
theorem nd_MO_store_23 : decode prog_8_method_16_code 23 = .ok (.iaload, 1) := by decide +kernel
theorem nd_MO_store_24 : decode prog_8_method_16_code 24 = .ok (.iastore, 1) := by decide +kernel
theorem nd_MO_store_25 : decode prog_8_method_16_code 25 = .ok (.iinc 2 1, 3) := by decide +kernel
theorem nd_MO_store_28 : decode prog_8_method_16_code 28 = .ok (.goto (-26), 3) := by decide +kernel
theorem nd_MO_store_31 : decode prog_8_method_16_code 31 = .ok (.return_, 1) := by decide +kernel
theorem nd_MO_take_0 : decode prog_8_method_23_code 0 = .ok (.iload_n 1, 1) := by decide +kernel
theorem nd_MO_take_1 : decode prog_8_method_23_code 1 = .ok (.invokestatic 115, 3) := by decide +kernel
theorem nd_MO_take_4 : decode prog_8_method_23_code 4 = .ok (.ifCond .eq 15, 3) := by decide +kernel
theorem nd_MO_take_7 : decode prog_8_method_23_code 7 = .ok (.iload_n 2, 1) := by decide +kernel
theorem nd_MO_take_8 : decode prog_8_method_23_code 8 = .ok (.ifCond .lt 11, 3) := by decide +kernel
theorem nd_MO_take_11 : decode prog_8_method_23_code 11 = .ok (.iload_n 2, 1) := by decide +kernel
theorem nd_MO_take_12 : decode prog_8_method_23_code 12 = .ok (.aload_n 0, 1) := by decide +kernel
theorem nd_MO_take_13 : decode prog_8_method_23_code 13 = .ok (.getfield 128, 3) := by decide +kernel
theorem nd_MO_take_16 : decode prog_8_method_23_code 16 = .ok (.if_icmp .lt 5, 3) := by decide +kernel
theorem nd_MO_take_19 : decode prog_8_method_23_code 19 = .ok (.iconst (-1), 1) := by decide +kernel
theorem nd_MO_take_20 : decode prog_8_method_23_code 20 = .ok (.ireturn, 1) := by decide +kernel
theorem nd_MO_take_21 : decode prog_8_method_23_code 21 = .ok (.aload_n 0, 1) := by decide +kernel
theorem nd_MO_take_22 : decode prog_8_method_23_code 22 = .ok (.getfield 48, 3) := by decide +kernel
theorem nd_MO_take_25 : decode prog_8_method_23_code 25 = .ok (.iload_n 2, 1) := by decide +kernel
theorem nd_MO_take_26 : decode prog_8_method_23_code 26 = .ok (.iaload, 1) := by decide +kernel
theorem nd_MO_take_27 : decode prog_8_method_23_code 27 = .ok (.iload_n 1, 1) := by decide +kernel
theorem nd_MO_take_28 : decode prog_8_method_23_code 28 = .ok (.if_icmp .ne 6, 3) := by decide +kernel
theorem nd_MO_take_31 : decode prog_8_method_23_code 31 = .ok (.bipush (-11), 2) := by decide +kernel
theorem nd_MO_take_33 : decode prog_8_method_23_code 33 = .ok (.ireturn, 1) := by decide +kernel
theorem nd_MO_take_34 : decode prog_8_method_23_code 34 = .ok (.aload_n 0, 1) := by decide +kernel
theorem nd_MO_take_35 : decode prog_8_method_23_code 35 = .ok (.iload_n 1, 1) := by decide +kernel
theorem nd_MO_take_36 : decode prog_8_method_23_code 36 = .ok (.invokevirtual 118, 3) := by decide +kernel
theorem nd_MO_take_39 : decode prog_8_method_23_code 39 = .ok (.aload_n 0, 1) := by decide +kernel
theorem nd_MO_take_40 : decode prog_8_method_23_code 40 = .ok (.aload_n 0, 1) := by decide +kernel
theorem nd_MO_take_41 : decode prog_8_method_23_code 41 = .ok (.getfield 51, 3) := by decide +kernel
theorem nd_MO_take_44 : decode prog_8_method_23_code 44 = .ok (.iload_n 2, 1) := by decide +kernel
theorem nd_MO_take_45 : decode prog_8_method_23_code 45 = .ok (.iaload, 1) := by decide +kernel
theorem nd_MO_take_46 : decode prog_8_method_23_code 46 = .ok (.aload_n 0, 1) := by decide +kernel
theorem nd_MO_take_47 : decode prog_8_method_23_code 47 = .ok (.getfield 42, 3) := by decide +kernel
theorem nd_MO_take_50 : decode prog_8_method_23_code 50 = .ok (.iload_n 2, 1) := by decide +kernel
theorem nd_MO_take_51 : decode prog_8_method_23_code 51 = .ok (.iaload, 1) := by decide +kernel
theorem nd_MO_take_52 : decode prog_8_method_23_code 52 = .ok (.aload_n 0, 1) := by decide +kernel
theorem nd_MO_take_53 : decode prog_8_method_23_code 53 = .ok (.getfield 45, 3) := by decide +kernel
theorem nd_MO_take_56 : decode prog_8_method_23_code 56 = .ok (.iload_n 2, 1) := by decide +kernel
theorem nd_MO_take_57 : decode prog_8_method_23_code 57 = .ok (.iaload, 1) := by decide +kernel
theorem nd_MO_take_58 : decode prog_8_method_23_code 58 = .ok (.invokevirtual 146, 3) := by decide +kernel
theorem nd_MO_take_61 : decode prog_8_method_23_code 61 = .ok (.istore_n 3, 1) := by decide +kernel
theorem nd_MO_take_62 : decode prog_8_method_23_code 62 = .ok (.iload_n 3, 1) := by decide +kernel
theorem nd_MO_take_63 : decode prog_8_method_23_code 63 = .ok (.ifCond .ne 6, 3) := by decide +kernel
theorem nd_MO_take_66 : decode prog_8_method_23_code 66 = .ok (.bipush (-13), 2) := by decide +kernel
theorem nd_MO_take_68 : decode prog_8_method_23_code 68 = .ok (.ireturn, 1) := by decide +kernel
theorem nd_MO_take_69 : decode prog_8_method_23_code 69 = .ok (.iload_n 3, 1) := by decide +kernel
theorem nd_MO_take_70 : decode prog_8_method_23_code 70 = .ok (.aload_n 0, 1) := by decide +kernel
theorem nd_MO_take_71 : decode prog_8_method_23_code 71 = .ok (.getfield 17, 3) := by decide +kernel
theorem nd_MO_take_74 : decode prog_8_method_23_code 74 = .ok (.aload_n 0, 1) := by decide +kernel
theorem nd_MO_take_75 : decode prog_8_method_23_code 75 = .ok (.getfield 54, 3) := by decide +kernel
theorem nd_MO_take_78 : decode prog_8_method_23_code 78 = .ok (.iload_n 2, 1) := by decide +kernel
theorem nd_MO_take_79 : decode prog_8_method_23_code 79 = .ok (.iaload, 1) := by decide +kernel
theorem nd_MO_take_80 : decode prog_8_method_23_code 80 = .ok (.iaload, 1) := by decide +kernel
theorem nd_MO_take_81 : decode prog_8_method_23_code 81 = .ok (.if_icmp .eq 6, 3) := by decide +kernel
theorem nd_MO_take_84 : decode prog_8_method_23_code 84 = .ok (.bipush (-14), 2) := by decide +kernel
theorem nd_MO_take_86 : decode prog_8_method_23_code 86 = .ok (.ireturn, 1) := by decide +kernel
theorem nd_MO_take_87 : decode prog_8_method_23_code 87 = .ok (.aload_n 0, 1) := by decide +kernel
theorem nd_MO_take_88 : decode prog_8_method_23_code 88 = .ok (.iload_n 1, 1) := by decide +kernel
theorem nd_MO_take_89 : decode prog_8_method_23_code 89 = .ok (.invokevirtual 134, 3) := by decide +kernel
theorem nd_MO_take_92 : decode prog_8_method_23_code 92 = .ok (.iconst 1, 1) := by decide +kernel
theorem nd_MO_take_93 : decode prog_8_method_23_code 93 = .ok (.ireturn, 1) := by decide +kernel
theorem nd_MO_keyFor_0 : decode prog_8_method_22_code 0 = .ok (.iconst 0, 1) := by decide +kernel
theorem nd_MO_keyFor_1 : decode prog_8_method_22_code 1 = .ok (.istore 4, 2) := by decide +kernel
theorem nd_MO_keyFor_3 : decode prog_8_method_22_code 3 = .ok (.iload 4, 2) := by decide +kernel
theorem nd_MO_keyFor_5 : decode prog_8_method_22_code 5 = .ok (.aload_n 0, 1) := by decide +kernel
theorem nd_MO_keyFor_6 : decode prog_8_method_22_code 6 = .ok (.getfield 66, 3) := by decide +kernel
theorem nd_MO_keyFor_9 : decode prog_8_method_22_code 9 = .ok (.bipush 8, 2) := by decide +kernel
theorem nd_MO_keyFor_11 : decode prog_8_method_22_code 11 = .ok (.iaload, 1) := by decide +kernel
theorem nd_MO_keyFor_12 : decode prog_8_method_22_code 12 = .ok (.if_icmp .ge 65, 3) := by decide +kernel
theorem nd_MO_keyFor_15 : decode prog_8_method_22_code 15 = .ok (.bipush 9, 2) := by decide +kernel
theorem nd_MO_keyFor_17 : decode prog_8_method_22_code 17 = .ok (.iconst 3, 1) := by decide +kernel
theorem nd_MO_keyFor_18 : decode prog_8_method_22_code 18 = .ok (.iload 4, 2) := by decide +kernel
theorem nd_MO_keyFor_20 : decode prog_8_method_22_code 20 = .ok (.imul, 1) := by decide +kernel
theorem nd_MO_keyFor_21 : decode prog_8_method_22_code 21 = .ok (.iadd, 1) := by decide +kernel
theorem nd_MO_keyFor_22 : decode prog_8_method_22_code 22 = .ok (.istore 5, 2) := by decide +kernel
theorem nd_MO_keyFor_24 : decode prog_8_method_22_code 24 = .ok (.aload_n 0, 1) := by decide +kernel
theorem nd_MO_keyFor_25 : decode prog_8_method_22_code 25 = .ok (.getfield 66, 3) := by decide +kernel
theorem nd_MO_keyFor_28 : decode prog_8_method_22_code 28 = .ok (.iload 5, 2) := by decide +kernel
theorem nd_MO_keyFor_30 : decode prog_8_method_22_code 30 = .ok (.iaload, 1) := by decide +kernel
theorem nd_MO_keyFor_31 : decode prog_8_method_22_code 31 = .ok (.iload_n 1, 1) := by decide +kernel
theorem nd_MO_keyFor_32 : decode prog_8_method_22_code 32 = .ok (.if_icmp .ne 39, 3) := by decide +kernel
theorem nd_MO_keyFor_35 : decode prog_8_method_22_code 35 = .ok (.aload_n 0, 1) := by decide +kernel
theorem nd_MO_keyFor_36 : decode prog_8_method_22_code 36 = .ok (.getfield 66, 3) := by decide +kernel
theorem nd_MO_keyFor_39 : decode prog_8_method_22_code 39 = .ok (.iload 5, 2) := by decide +kernel
theorem nd_MO_keyFor_41 : decode prog_8_method_22_code 41 = .ok (.iconst 1, 1) := by decide +kernel
theorem nd_MO_keyFor_42 : decode prog_8_method_22_code 42 = .ok (.iadd, 1) := by decide +kernel
theorem nd_MO_keyFor_43 : decode prog_8_method_22_code 43 = .ok (.iaload, 1) := by decide +kernel
theorem nd_MO_keyFor_44 : decode prog_8_method_22_code 44 = .ok (.iload_n 2, 1) := by decide +kernel
theorem nd_MO_keyFor_45 : decode prog_8_method_22_code 45 = .ok (.if_icmp .eq 6, 3) := by decide +kernel
theorem nd_MO_keyFor_48 : decode prog_8_method_22_code 48 = .ok (.goto 23, 3) := by decide +kernel
theorem nd_MO_keyFor_51 : decode prog_8_method_22_code 51 = .ok (.aload_n 0, 1) := by decide +kernel
theorem nd_MO_keyFor_52 : decode prog_8_method_22_code 52 = .ok (.getfield 66, 3) := by decide +kernel
theorem nd_MO_keyFor_55 : decode prog_8_method_22_code 55 = .ok (.iload 5, 2) := by decide +kernel
theorem nd_MO_keyFor_57 : decode prog_8_method_22_code 57 = .ok (.iconst 2, 1) := by decide +kernel
theorem nd_MO_keyFor_58 : decode prog_8_method_22_code 58 = .ok (.iadd, 1) := by decide +kernel
theorem nd_MO_keyFor_59 : decode prog_8_method_22_code 59 = .ok (.iaload, 1) := by decide +kernel
theorem nd_MO_keyFor_60 : decode prog_8_method_22_code 60 = .ok (.istore 6, 2) := by decide +kernel
theorem nd_MO_keyFor_62 : decode prog_8_method_22_code 62 = .ok (.aload_n 0, 1) := by decide +kernel
theorem nd_MO_keyFor_63 : decode prog_8_method_22_code 63 = .ok (.iload 4, 2) := by decide +kernel
theorem nd_MO_keyFor_65 : decode prog_8_method_22_code 65 = .ok (.invokevirtual 137, 3) := by decide +kernel
theorem nd_MO_keyFor_68 : decode prog_8_method_22_code 68 = .ok (.iload 6, 2) := by decide +kernel
theorem nd_MO_keyFor_70 : decode prog_8_method_22_code 70 = .ok (.ireturn, 1) := by decide +kernel
theorem nd_MO_keyFor_71 : decode prog_8_method_22_code 71 = .ok (.iinc 4 1, 3) := by decide +kernel
theorem nd_MO_keyFor_74 : decode prog_8_method_22_code 74 = .ok (.goto (-71), 3) := by decide +kernel
theorem nd_MO_keyFor_77 : decode prog_8_method_22_code 77 = .ok (.iload_n 1, 1) := by decide +kernel
theorem nd_MO_keyFor_78 : decode prog_8_method_22_code 78 = .ok (.aload_n 0, 1) := by decide +kernel
theorem nd_MO_keyFor_79 : decode prog_8_method_22_code 79 = .ok (.getfield 66, 3) := by decide +kernel
theorem nd_MO_keyFor_82 : decode prog_8_method_22_code 82 = .ok (.iconst 2, 1) := by decide +kernel
theorem nd_MO_keyFor_83 : decode prog_8_method_22_code 83 = .ok (.iaload, 1) := by decide +kernel
theorem nd_MO_keyFor_84 : decode prog_8_method_22_code 84 = .ok (.if_icmp .ne 13, 3) := by decide +kernel
theorem nd_MO_keyFor_87 : decode prog_8_method_22_code 87 = .ok (.aload_n 0, 1) := by decide +kernel
theorem nd_MO_keyFor_88 : decode prog_8_method_22_code 88 = .ok (.getfield 66, 3) := by decide +kernel
theorem nd_MO_keyFor_91 : decode prog_8_method_22_code 91 = .ok (.bipush 6, 2) := by decide +kernel
theorem nd_MO_keyFor_93 : decode prog_8_method_22_code 93 = .ok (.iaload, 1) := by decide +kernel
theorem nd_MO_keyFor_94 : decode prog_8_method_22_code 94 = .ok (.ifCond .ne 113, 3) := by decide +kernel
theorem nd_MO_keyFor_97 : decode prog_8_method_22_code 97 = .ok (.aload_n 0, 1) := by decide +kernel
theorem nd_MO_keyFor_98 : decode prog_8_method_22_code 98 = .ok (.getfield 66, 3) := by decide +kernel
theorem nd_MO_keyFor_101 : decode prog_8_method_22_code 101 = .ok (.bipush 6, 2) := by decide +kernel
theorem nd_MO_keyFor_103 : decode prog_8_method_22_code 103 = .ok (.iaload, 1) := by decide +kernel
theorem nd_MO_keyFor_104 : decode prog_8_method_22_code 104 = .ok (.ifCond .eq 24, 3) := by decide +kernel
theorem nd_MO_keyFor_107 : decode prog_8_method_22_code 107 = .ok (.iload_n 3, 1) := by decide +kernel
theorem nd_MO_keyFor_108 : decode prog_8_method_22_code 108 = .ok (.aload_n 0, 1) := by decide +kernel
theorem nd_MO_keyFor_109 : decode prog_8_method_22_code 109 = .ok (.getfield 66, 3) := by decide +kernel
theorem nd_MO_keyFor_112 : decode prog_8_method_22_code 112 = .ok (.bipush 7, 2) := by decide +kernel
theorem nd_MO_keyFor_114 : decode prog_8_method_22_code 114 = .ok (.iaload, 1) := by decide +kernel
theorem nd_MO_keyFor_115 : decode prog_8_method_22_code 115 = .ok (.if_icmp .le 13, 3) := by decide +kernel
theorem nd_MO_keyFor_118 : decode prog_8_method_22_code 118 = .ok (.aload_n 0, 1) := by decide +kernel
theorem nd_MO_keyFor_119 : decode prog_8_method_22_code 119 = .ok (.iload_n 3, 1) := by decide +kernel
theorem nd_MO_keyFor_120 : decode prog_8_method_22_code 120 = .ok (.invokevirtual 143, 3) := by decide +kernel
theorem nd_MO_keyFor_123 : decode prog_8_method_22_code 123 = .ok (.ifCond .ne 5, 3) := by decide +kernel
theorem nd_MO_keyFor_126 : decode prog_8_method_22_code 126 = .ok (.iconst 0, 1) := by decide +kernel
theorem nd_MO_keyFor_127 : decode prog_8_method_22_code 127 = .ok (.ireturn, 1) := by decide +kernel
theorem nd_MO_keyFor_128 : decode prog_8_method_22_code 128 = .ok (.aload_n 0, 1) := by decide +kernel
theorem nd_MO_keyFor_129 : decode prog_8_method_22_code 129 = .ok (.aload_n 0, 1) := by decide +kernel
theorem nd_MO_keyFor_130 : decode prog_8_method_22_code 130 = .ok (.getfield 66, 3) := by decide +kernel
theorem nd_MO_keyFor_133 : decode prog_8_method_22_code 133 = .ok (.iconst 1, 1) := by decide +kernel
theorem nd_MO_keyFor_134 : decode prog_8_method_22_code 134 = .ok (.iaload, 1) := by decide +kernel
theorem nd_MO_keyFor_135 : decode prog_8_method_22_code 135 = .ok (.aload_n 0, 1) := by decide +kernel
theorem nd_MO_keyFor_136 : decode prog_8_method_22_code 136 = .ok (.getfield 17, 3) := by decide +kernel
theorem nd_MO_keyFor_139 : decode prog_8_method_22_code 139 = .ok (.iload_n 1, 1) := by decide +kernel
theorem nd_MO_keyFor_140 : decode prog_8_method_22_code 140 = .ok (.iaload, 1) := by decide +kernel
theorem nd_MO_keyFor_141 : decode prog_8_method_22_code 141 = .ok (.invokevirtual 80, 3) := by decide +kernel
theorem nd_MO_keyFor_144 : decode prog_8_method_22_code 144 = .ok (.istore 4, 2) := by decide +kernel
theorem nd_MO_keyFor_146 : decode prog_8_method_22_code 146 = .ok (.aload_n 0, 1) := by decide +kernel
theorem nd_MO_keyFor_147 : decode prog_8_method_22_code 147 = .ok (.getfield 66, 3) := by decide +kernel
theorem nd_MO_keyFor_150 : decode prog_8_method_22_code 150 = .ok (.bipush 6, 2) := by decide +kernel
theorem nd_MO_keyFor_152 : decode prog_8_method_22_code 152 = .ok (.aload_n 0, 1) := by decide +kernel
theorem nd_MO_keyFor_153 : decode prog_8_method_22_code 153 = .ok (.iconst 5, 1) := by decide +kernel
theorem nd_MO_keyFor_154 : decode prog_8_method_22_code 154 = .ok (.aload_n 0, 1) := by decide +kernel
theorem nd_MO_keyFor_155 : decode prog_8_method_22_code 155 = .ok (.getfield 66, 3) := by decide +kernel
theorem nd_MO_keyFor_158 : decode prog_8_method_22_code 158 = .ok (.iconst 0, 1) := by decide +kernel
theorem nd_MO_keyFor_159 : decode prog_8_method_22_code 159 = .ok (.iaload, 1) := by decide +kernel
theorem nd_MO_keyFor_160 : decode prog_8_method_22_code 160 = .ok (.iload 4, 2) := by decide +kernel
theorem nd_MO_keyFor_162 : decode prog_8_method_22_code 162 = .ok (.invokevirtual 84, 3) := by decide +kernel
theorem nd_MO_keyFor_165 : decode prog_8_method_22_code 165 = .ok (.iastore, 1) := by decide +kernel
theorem nd_MO_keyFor_166 : decode prog_8_method_22_code 166 = .ok (.aload_n 0, 1) := by decide +kernel
theorem nd_MO_keyFor_167 : decode prog_8_method_22_code 167 = .ok (.getfield 66, 3) := by decide +kernel
theorem nd_MO_keyFor_170 : decode prog_8_method_22_code 170 = .ok (.iconst 0, 1) := by decide +kernel
theorem nd_MO_keyFor_171 : decode prog_8_method_22_code 171 = .ok (.aload_n 0, 1) := by decide +kernel
theorem nd_MO_keyFor_172 : decode prog_8_method_22_code 172 = .ok (.iconst 4, 1) := by decide +kernel
theorem nd_MO_keyFor_173 : decode prog_8_method_22_code 173 = .ok (.aload_n 0, 1) := by decide +kernel
theorem nd_MO_keyFor_174 : decode prog_8_method_22_code 174 = .ok (.getfield 66, 3) := by decide +kernel
theorem nd_MO_keyFor_177 : decode prog_8_method_22_code 177 = .ok (.iconst 0, 1) := by decide +kernel
theorem nd_MO_keyFor_178 : decode prog_8_method_22_code 178 = .ok (.iaload, 1) := by decide +kernel
theorem nd_MO_keyFor_179 : decode prog_8_method_22_code 179 = .ok (.iload 4, 2) := by decide +kernel
theorem nd_MO_keyFor_181 : decode prog_8_method_22_code 181 = .ok (.invokevirtual 84, 3) := by decide +kernel
theorem nd_MO_keyFor_184 : decode prog_8_method_22_code 184 = .ok (.iastore, 1) := by decide +kernel
theorem nd_MO_keyFor_185 : decode prog_8_method_22_code 185 = .ok (.aload_n 0, 1) := by decide +kernel
theorem nd_MO_keyFor_186 : decode prog_8_method_22_code 186 = .ok (.getfield 66, 3) := by decide +kernel
theorem nd_MO_keyFor_189 : decode prog_8_method_22_code 189 = .ok (.iconst 2, 1) := by decide +kernel
theorem nd_MO_keyFor_190 : decode prog_8_method_22_code 190 = .ok (.iload_n 1, 1) := by decide +kernel
theorem nd_MO_keyFor_191 : decode prog_8_method_22_code 191 = .ok (.iastore, 1) := by decide +kernel
theorem nd_MO_keyFor_192 : decode prog_8_method_22_code 192 = .ok (.aload_n 0, 1) := by decide +kernel
theorem nd_MO_keyFor_193 : decode prog_8_method_22_code 193 = .ok (.getfield 66, 3) := by decide +kernel
theorem nd_MO_keyFor_196 : decode prog_8_method_22_code 196 = .ok (.bipush 7, 2) := by decide +kernel
theorem nd_MO_keyFor_198 : decode prog_8_method_22_code 198 = .ok (.iconst 0, 1) := by decide +kernel
theorem nd_MO_keyFor_199 : decode prog_8_method_22_code 199 = .ok (.iastore, 1) := by decide +kernel
theorem nd_MO_keyFor_200 : decode prog_8_method_22_code 200 = .ok (.aload_n 0, 1) := by decide +kernel
theorem nd_MO_keyFor_201 : decode prog_8_method_22_code 201 = .ok (.getfield 66, 3) := by decide +kernel
theorem nd_MO_keyFor_204 : decode prog_8_method_22_code 204 = .ok (.iconst 3, 1) := by decide +kernel
theorem nd_MO_keyFor_205 : decode prog_8_method_22_code 205 = .ok (.iconst 0, 1) := by decide +kernel
theorem nd_MO_keyFor_206 : decode prog_8_method_22_code 206 = .ok (.iastore, 1) := by decide +kernel
theorem nd_MO_keyFor_207 : decode prog_8_method_22_code 207 = .ok (.iload_n 2, 1) := by decide +kernel
theorem nd_MO_keyFor_208 : decode prog_8_method_22_code 208 = .ok (.aload_n 0, 1) := by decide +kernel
theorem nd_MO_keyFor_209 : decode prog_8_method_22_code 209 = .ok (.getfield 66, 3) := by decide +kernel
theorem nd_MO_keyFor_212 : decode prog_8_method_22_code 212 = .ok (.bipush 7, 2) := by decide +kernel
theorem nd_MO_keyFor_214 : decode prog_8_method_22_code 214 = .ok (.iaload, 1) := by decide +kernel
theorem nd_MO_keyFor_215 : decode prog_8_method_22_code 215 = .ok (.if_icmp .lt 11, 3) := by decide +kernel
theorem nd_MO_keyFor_218 : decode prog_8_method_22_code 218 = .ok (.aload_n 0, 1) := by decide +kernel
theorem nd_MO_keyFor_219 : decode prog_8_method_22_code 219 = .ok (.iload_n 2, 1) := by decide +kernel
theorem nd_MO_keyFor_220 : decode prog_8_method_22_code 220 = .ok (.invokevirtual 143, 3) := by decide +kernel
theorem nd_MO_keyFor_223 : decode prog_8_method_22_code 223 = .ok (.ifCond .ne 5, 3) := by decide +kernel
theorem nd_MO_keyFor_226 : decode prog_8_method_22_code 226 = .ok (.iconst 0, 1) := by decide +kernel
theorem nd_MO_keyFor_227 : decode prog_8_method_22_code 227 = .ok (.ireturn, 1) := by decide +kernel
theorem nd_MO_keyFor_228 : decode prog_8_method_22_code 228 = .ok (.aload_n 0, 1) := by decide +kernel
theorem nd_MO_keyFor_229 : decode prog_8_method_22_code 229 = .ok (.bipush 6, 2) := by decide +kernel
theorem nd_MO_keyFor_231 : decode prog_8_method_22_code 231 = .ok (.aload_n 0, 1) := by decide +kernel
theorem nd_MO_keyFor_232 : decode prog_8_method_22_code 232 = .ok (.getfield 66, 3) := by decide +kernel
theorem nd_MO_keyFor_235 : decode prog_8_method_22_code 235 = .ok (.bipush 6, 2) := by decide +kernel
theorem nd_MO_keyFor_237 : decode prog_8_method_22_code 237 = .ok (.iaload, 1) := by decide +kernel
theorem nd_MO_keyFor_238 : decode prog_8_method_22_code 238 = .ok (.iconst 0, 1) := by decide +kernel
theorem nd_MO_keyFor_239 : decode prog_8_method_22_code 239 = .ok (.invokevirtual 84, 3) := by decide +kernel
theorem nd_MO_keyFor_242 : decode prog_8_method_22_code 242 = .ok (.istore 4, 2) := by decide +kernel
theorem nd_MO_keyFor_244 : decode prog_8_method_22_code 244 = .ok (.aload_n 0, 1) := by decide +kernel
theorem nd_MO_keyFor_245 : decode prog_8_method_22_code 245 = .ok (.invokevirtual 140, 3) := by decide +kernel
theorem nd_MO_keyFor_248 : decode prog_8_method_22_code 248 = .ok (.iload 4, 2) := by decide +kernel
theorem nd_MO_keyFor_250 : decode prog_8_method_22_code 250 = .ok (.ireturn, 1) := by decide +kernel
theorem nd_MO_dropLeft_0 : decode prog_8_method_21_code 0 = .ok (.bipush 9, 2) := by decide +kernel
theorem nd_MO_dropLeft_2 : decode prog_8_method_21_code 2 = .ok (.iconst 3, 1) := by decide +kernel
theorem nd_MO_dropLeft_3 : decode prog_8_method_21_code 3 = .ok (.iload_n 1, 1) := by decide +kernel
theorem nd_MO_dropLeft_4 : decode prog_8_method_21_code 4 = .ok (.imul, 1) := by decide +kernel
theorem nd_MO_dropLeft_5 : decode prog_8_method_21_code 5 = .ok (.iadd, 1) := by decide +kernel
theorem nd_MO_dropLeft_6 : decode prog_8_method_21_code 6 = .ok (.istore_n 2, 1) := by decide +kernel
theorem nd_MO_dropLeft_7 : decode prog_8_method_21_code 7 = .ok (.iload_n 2, 1) := by decide +kernel
theorem nd_MO_dropLeft_8 : decode prog_8_method_21_code 8 = .ok (.iconst 3, 1) := by decide +kernel
theorem nd_MO_dropLeft_9 : decode prog_8_method_21_code 9 = .ok (.iadd, 1) := by decide +kernel
theorem nd_MO_dropLeft_10 : decode prog_8_method_21_code 10 = .ok (.bipush 33, 2) := by decide +kernel
theorem nd_MO_dropLeft_12 : decode prog_8_method_21_code 12 = .ok (.if_icmp .ge 23, 3) := by decide +kernel
theorem nd_MO_dropLeft_15 : decode prog_8_method_21_code 15 = .ok (.aload_n 0, 1) := by decide +kernel
theorem nd_MO_dropLeft_16 : decode prog_8_method_21_code 16 = .ok (.getfield 66, 3) := by decide +kernel
theorem nd_MO_dropLeft_19 : decode prog_8_method_21_code 19 = .ok (.iload_n 2, 1) := by decide +kernel
theorem nd_MO_dropLeft_20 : decode prog_8_method_21_code 20 = .ok (.aload_n 0, 1) := by decide +kernel
theorem nd_MO_dropLeft_21 : decode prog_8_method_21_code 21 = .ok (.getfield 66, 3) := by decide +kernel
theorem nd_MO_dropLeft_24 : decode prog_8_method_21_code 24 = .ok (.iload_n 2, 1) := by decide +kernel
theorem nd_MO_dropLeft_25 : decode prog_8_method_21_code 25 = .ok (.iconst 3, 1) := by decide +kernel
theorem nd_MO_dropLeft_26 : decode prog_8_method_21_code 26 = .ok (.iadd, 1) := by decide +kernel
theorem nd_MO_dropLeft_27 : decode prog_8_method_21_code 27 = .ok (.iaload, 1) := by decide +kernel
theorem nd_MO_dropLeft_28 : decode prog_8_method_21_code 28 = .ok (.iastore, 1) := by decide +kernel
theorem nd_MO_dropLeft_29 : decode prog_8_method_21_code 29 = .ok (.iinc 2 1, 3) := by decide +kernel
theorem nd_MO_dropLeft_32 : decode prog_8_method_21_code 32 = .ok (.goto (-25), 3) := by decide +kernel
theorem nd_MO_dropLeft_35 : decode prog_8_method_21_code 35 = .ok (.aload_n 0, 1) := by decide +kernel
theorem nd_MO_dropLeft_36 : decode prog_8_method_21_code 36 = .ok (.getfield 66, 3) := by decide +kernel
theorem nd_MO_dropLeft_39 : decode prog_8_method_21_code 39 = .ok (.bipush 8, 2) := by decide +kernel
theorem nd_MO_dropLeft_41 : decode prog_8_method_21_code 41 = .ok (.dup2, 1) := by decide +kernel
theorem nd_MO_dropLeft_42 : decode prog_8_method_21_code 42 = .ok (.iaload, 1) := by decide +kernel
theorem nd_MO_dropLeft_43 : decode prog_8_method_21_code 43 = .ok (.iconst 1, 1) := by decide +kernel
theorem nd_MO_dropLeft_44 : decode prog_8_method_21_code 44 = .ok (.isub, 1) := by decide +kernel
theorem nd_MO_dropLeft_45 : decode prog_8_method_21_code 45 = .ok (.iastore, 1) := by decide +kernel
theorem nd_MO_dropLeft_46 : decode prog_8_method_21_code 46 = .ok (.bipush 9, 2) := by decide +kernel
theorem nd_MO_dropLeft_48 : decode prog_8_method_21_code 48 = .ok (.iconst 3, 1) := by decide +kernel
theorem nd_MO_dropLeft_49 : decode prog_8_method_21_code 49 = .ok (.aload_n 0, 1) := by decide +kernel
theorem nd_MO_dropLeft_50 : decode prog_8_method_21_code 50 = .ok (.getfield 66, 3) := by decide +kernel
theorem nd_MO_dropLeft_53 : decode prog_8_method_21_code 53 = .ok (.bipush 8, 2) := by decide +kernel
theorem nd_MO_dropLeft_55 : decode prog_8_method_21_code 55 = .ok (.iaload, 1) := by decide +kernel
theorem nd_MO_dropLeft_56 : decode prog_8_method_21_code 56 = .ok (.imul, 1) := by decide +kernel
theorem nd_MO_dropLeft_57 : decode prog_8_method_21_code 57 = .ok (.iadd, 1) := by decide +kernel
theorem nd_MO_dropLeft_58 : decode prog_8_method_21_code 58 = .ok (.istore_n 2, 1) := by decide +kernel
theorem nd_MO_dropLeft_59 : decode prog_8_method_21_code 59 = .ok (.iload_n 2, 1) := by decide +kernel
theorem nd_MO_dropLeft_60 : decode prog_8_method_21_code 60 = .ok (.bipush 33, 2) := by decide +kernel
theorem nd_MO_dropLeft_62 : decode prog_8_method_21_code 62 = .ok (.if_icmp .ge 16, 3) := by decide +kernel
theorem nd_MO_dropLeft_65 : decode prog_8_method_21_code 65 = .ok (.aload_n 0, 1) := by decide +kernel
theorem nd_MO_dropLeft_66 : decode prog_8_method_21_code 66 = .ok (.getfield 66, 3) := by decide +kernel
theorem nd_MO_dropLeft_69 : decode prog_8_method_21_code 69 = .ok (.iload_n 2, 1) := by decide +kernel
theorem nd_MO_dropLeft_70 : decode prog_8_method_21_code 70 = .ok (.iconst 0, 1) := by decide +kernel
theorem nd_MO_dropLeft_71 : decode prog_8_method_21_code 71 = .ok (.iastore, 1) := by decide +kernel
theorem nd_MO_dropLeft_72 : decode prog_8_method_21_code 72 = .ok (.iinc 2 1, 3) := by decide +kernel
theorem nd_MO_dropLeft_75 : decode prog_8_method_21_code 75 = .ok (.goto (-16), 3) := by decide +kernel
theorem nd_MO_dropLeft_78 : decode prog_8_method_21_code 78 = .ok (.return_, 1) := by decide +kernel
theorem nd_MO_skip_0 : decode prog_8_method_20_code 0 = .ok (.iload_n 1, 1) := by decide +kernel
theorem nd_MO_skip_1 : decode prog_8_method_20_code 1 = .ok (.aload_n 0, 1) := by decide +kernel
theorem nd_MO_skip_2 : decode prog_8_method_20_code 2 = .ok (.getfield 66, 3) := by decide +kernel
theorem nd_MO_skip_5 : decode prog_8_method_20_code 5 = .ok (.bipush 7, 2) := by decide +kernel
theorem nd_MO_skip_7 : decode prog_8_method_20_code 7 = .ok (.iaload, 1) := by decide +kernel
theorem nd_MO_skip_8 : decode prog_8_method_20_code 8 = .ok (.iconst 5, 1) := by decide +kernel
theorem nd_MO_skip_9 : decode prog_8_method_20_code 9 = .ok (.iadd, 1) := by decide +kernel
theorem nd_MO_skip_10 : decode prog_8_method_20_code 10 = .ok (.if_icmp .le 5, 3) := by decide +kernel
theorem nd_MO_skip_13 : decode prog_8_method_20_code 13 = .ok (.iconst 0, 1) := by decide +kernel
theorem nd_MO_skip_14 : decode prog_8_method_20_code 14 = .ok (.ireturn, 1) := by decide +kernel
theorem nd_MO_skip_15 : decode prog_8_method_20_code 15 = .ok (.aload_n 0, 1) := by decide +kernel
theorem nd_MO_skip_16 : decode prog_8_method_20_code 16 = .ok (.getfield 66, 3) := by decide +kernel
theorem nd_MO_skip_19 : decode prog_8_method_20_code 19 = .ok (.bipush 7, 2) := by decide +kernel
theorem nd_MO_skip_21 : decode prog_8_method_20_code 21 = .ok (.iaload, 1) := by decide +kernel
theorem nd_MO_skip_22 : decode prog_8_method_20_code 22 = .ok (.iload_n 1, 1) := by decide +kernel
theorem nd_MO_skip_23 : decode prog_8_method_20_code 23 = .ok (.if_icmp .ge 100, 3) := by decide +kernel
theorem nd_MO_skip_26 : decode prog_8_method_20_code 26 = .ok (.aload_n 0, 1) := by decide +kernel
theorem nd_MO_skip_27 : decode prog_8_method_20_code 27 = .ok (.getfield 66, 3) := by decide +kernel
theorem nd_MO_skip_30 : decode prog_8_method_20_code 30 = .ok (.bipush 8, 2) := by decide +kernel
theorem nd_MO_skip_32 : decode prog_8_method_20_code 32 = .ok (.iaload, 1) := by decide +kernel
theorem nd_MO_skip_33 : decode prog_8_method_20_code 33 = .ok (.bipush 8, 2) := by decide +kernel
theorem nd_MO_skip_35 : decode prog_8_method_20_code 35 = .ok (.if_icmp .ne 8, 3) := by decide +kernel
theorem nd_MO_skip_38 : decode prog_8_method_20_code 38 = .ok (.aload_n 0, 1) := by decide +kernel
theorem nd_MO_skip_39 : decode prog_8_method_20_code 39 = .ok (.iconst 0, 1) := by decide +kernel
theorem nd_MO_skip_40 : decode prog_8_method_20_code 40 = .ok (.invokevirtual 137, 3) := by decide +kernel
theorem nd_MO_skip_43 : decode prog_8_method_20_code 43 = .ok (.bipush 9, 2) := by decide +kernel
theorem nd_MO_skip_45 : decode prog_8_method_20_code 45 = .ok (.iconst 3, 1) := by decide +kernel
theorem nd_MO_skip_46 : decode prog_8_method_20_code 46 = .ok (.aload_n 0, 1) := by decide +kernel
theorem nd_MO_skip_47 : decode prog_8_method_20_code 47 = .ok (.getfield 66, 3) := by decide +kernel
theorem nd_MO_skip_50 : decode prog_8_method_20_code 50 = .ok (.bipush 8, 2) := by decide +kernel
theorem nd_MO_skip_52 : decode prog_8_method_20_code 52 = .ok (.iaload, 1) := by decide +kernel
theorem nd_MO_skip_53 : decode prog_8_method_20_code 53 = .ok (.imul, 1) := by decide +kernel
theorem nd_MO_skip_54 : decode prog_8_method_20_code 54 = .ok (.iadd, 1) := by decide +kernel
theorem nd_MO_skip_55 : decode prog_8_method_20_code 55 = .ok (.istore_n 2, 1) := by decide +kernel
theorem nd_MO_skip_56 : decode prog_8_method_20_code 56 = .ok (.aload_n 0, 1) := by decide +kernel
theorem nd_MO_skip_57 : decode prog_8_method_20_code 57 = .ok (.getfield 66, 3) := by decide +kernel
theorem nd_MO_skip_60 : decode prog_8_method_20_code 60 = .ok (.iload_n 2, 1) := by decide +kernel
theorem nd_MO_skip_61 : decode prog_8_method_20_code 61 = .ok (.aload_n 0, 1) := by decide +kernel
theorem nd_MO_skip_62 : decode prog_8_method_20_code 62 = .ok (.getfield 66, 3) := by decide +kernel
theorem nd_MO_skip_65 : decode prog_8_method_20_code 65 = .ok (.iconst 2, 1) := by decide +kernel
theorem nd_MO_skip_66 : decode prog_8_method_20_code 66 = .ok (.iaload, 1) := by decide +kernel
theorem nd_MO_skip_67 : decode prog_8_method_20_code 67 = .ok (.iastore, 1) := by decide +kernel
theorem nd_MO_skip_68 : decode prog_8_method_20_code 68 = .ok (.aload_n 0, 1) := by decide +kernel
theorem nd_MO_skip_69 : decode prog_8_method_20_code 69 = .ok (.getfield 66, 3) := by decide +kernel
theorem nd_MO_skip_72 : decode prog_8_method_20_code 72 = .ok (.iload_n 2, 1) := by decide +kernel
theorem nd_MO_skip_73 : decode prog_8_method_20_code 73 = .ok (.iconst 1, 1) := by decide +kernel
theorem nd_MO_skip_74 : decode prog_8_method_20_code 74 = .ok (.iadd, 1) := by decide +kernel
theorem nd_MO_skip_75 : decode prog_8_method_20_code 75 = .ok (.aload_n 0, 1) := by decide +kernel
theorem nd_MO_skip_76 : decode prog_8_method_20_code 76 = .ok (.getfield 66, 3) := by decide +kernel
theorem nd_MO_skip_79 : decode prog_8_method_20_code 79 = .ok (.bipush 7, 2) := by decide +kernel
theorem nd_MO_skip_81 : decode prog_8_method_20_code 81 = .ok (.iaload, 1) := by decide +kernel
theorem nd_MO_skip_82 : decode prog_8_method_20_code 82 = .ok (.iastore, 1) := by decide +kernel
theorem nd_MO_skip_83 : decode prog_8_method_20_code 83 = .ok (.aload_n 0, 1) := by decide +kernel
theorem nd_MO_skip_84 : decode prog_8_method_20_code 84 = .ok (.getfield 66, 3) := by decide +kernel
theorem nd_MO_skip_87 : decode prog_8_method_20_code 87 = .ok (.iload_n 2, 1) := by decide +kernel
theorem nd_MO_skip_88 : decode prog_8_method_20_code 88 = .ok (.iconst 2, 1) := by decide +kernel
theorem nd_MO_skip_89 : decode prog_8_method_20_code 89 = .ok (.iadd, 1) := by decide +kernel
theorem nd_MO_skip_90 : decode prog_8_method_20_code 90 = .ok (.aload_n 0, 1) := by decide +kernel
theorem nd_MO_skip_91 : decode prog_8_method_20_code 91 = .ok (.bipush 6, 2) := by decide +kernel
theorem nd_MO_skip_93 : decode prog_8_method_20_code 93 = .ok (.aload_n 0, 1) := by decide +kernel
theorem nd_MO_skip_94 : decode prog_8_method_20_code 94 = .ok (.getfield 66, 3) := by decide +kernel
theorem nd_MO_skip_97 : decode prog_8_method_20_code 97 = .ok (.bipush 6, 2) := by decide +kernel
theorem nd_MO_skip_99 : decode prog_8_method_20_code 99 = .ok (.iaload, 1) := by decide +kernel
theorem nd_MO_skip_100 : decode prog_8_method_20_code 100 = .ok (.iconst 0, 1) := by decide +kernel
theorem nd_MO_skip_101 : decode prog_8_method_20_code 101 = .ok (.invokevirtual 84, 3) := by decide +kernel
theorem nd_MO_skip_104 : decode prog_8_method_20_code 104 = .ok (.iastore, 1) := by decide +kernel
theorem nd_MO_skip_105 : decode prog_8_method_20_code 105 = .ok (.aload_n 0, 1) := by decide +kernel
theorem nd_MO_skip_106 : decode prog_8_method_20_code 106 = .ok (.getfield 66, 3) := by decide +kernel
theorem nd_MO_skip_109 : decode prog_8_method_20_code 109 = .ok (.bipush 8, 2) := by decide +kernel
theorem nd_MO_skip_111 : decode prog_8_method_20_code 111 = .ok (.dup2, 1) := by decide +kernel
theorem nd_MO_skip_112 : decode prog_8_method_20_code 112 = .ok (.iaload, 1) := by decide +kernel
theorem nd_MO_skip_113 : decode prog_8_method_20_code 113 = .ok (.iconst 1, 1) := by decide +kernel
theorem nd_MO_skip_114 : decode prog_8_method_20_code 114 = .ok (.iadd, 1) := by decide +kernel
theorem nd_MO_skip_115 : decode prog_8_method_20_code 115 = .ok (.iastore, 1) := by decide +kernel
theorem nd_MO_skip_116 : decode prog_8_method_20_code 116 = .ok (.aload_n 0, 1) := by decide +kernel
theorem nd_MO_skip_117 : decode prog_8_method_20_code 117 = .ok (.invokevirtual 140, 3) := by decide +kernel
theorem nd_MO_skip_120 : decode prog_8_method_20_code 120 = .ok (.goto (-105), 3) := by decide +kernel
theorem nd_MO_skip_123 : decode prog_8_method_20_code 123 = .ok (.iconst 1, 1) := by decide +kernel
theorem nd_MO_skip_124 : decode prog_8_method_20_code 124 = .ok (.ireturn, 1) := by decide +kernel
theorem nd_MO_stepOn_0 : decode prog_8_method_19_code 0 = .ok (.aload_n 0, 1) := by decide +kernel
theorem nd_MO_stepOn_1 : decode prog_8_method_19_code 1 = .ok (.getfield 66, 3) := by decide +kernel
theorem nd_MO_stepOn_4 : decode prog_8_method_19_code 4 = .ok (.bipush 6, 2) := by decide +kernel
theorem nd_MO_stepOn_6 : decode prog_8_method_19_code 6 = .ok (.aload_n 0, 1) := by decide +kernel
theorem nd_MO_stepOn_7 : decode prog_8_method_19_code 7 = .ok (.bipush 7, 2) := by decide +kernel
theorem nd_MO_stepOn_9 : decode prog_8_method_19_code 9 = .ok (.aload_n 0, 1) := by decide +kernel
theorem nd_MO_stepOn_10 : decode prog_8_method_19_code 10 = .ok (.getfield 66, 3) := by decide +kernel
theorem nd_MO_stepOn_13 : decode prog_8_method_19_code 13 = .ok (.bipush 6, 2) := by decide +kernel
theorem nd_MO_stepOn_15 : decode prog_8_method_19_code 15 = .ok (.iaload, 1) := by decide +kernel
theorem nd_MO_stepOn_16 : decode prog_8_method_19_code 16 = .ok (.iconst 0, 1) := by decide +kernel
theorem nd_MO_stepOn_17 : decode prog_8_method_19_code 17 = .ok (.invokevirtual 84, 3) := by decide +kernel
theorem nd_MO_stepOn_20 : decode prog_8_method_19_code 20 = .ok (.iastore, 1) := by decide +kernel
theorem nd_MO_stepOn_21 : decode prog_8_method_19_code 21 = .ok (.aload_n 0, 1) := by decide +kernel
theorem nd_MO_stepOn_22 : decode prog_8_method_19_code 22 = .ok (.getfield 66, 3) := by decide +kernel
theorem nd_MO_stepOn_25 : decode prog_8_method_19_code 25 = .ok (.bipush 7, 2) := by decide +kernel
theorem nd_MO_stepOn_27 : decode prog_8_method_19_code 27 = .ok (.dup2, 1) := by decide +kernel
theorem nd_MO_stepOn_28 : decode prog_8_method_19_code 28 = .ok (.iaload, 1) := by decide +kernel
theorem nd_MO_stepOn_29 : decode prog_8_method_19_code 29 = .ok (.iconst 1, 1) := by decide +kernel
theorem nd_MO_stepOn_30 : decode prog_8_method_19_code 30 = .ok (.iadd, 1) := by decide +kernel
theorem nd_MO_stepOn_31 : decode prog_8_method_19_code 31 = .ok (.iastore, 1) := by decide +kernel
theorem nd_MO_stepOn_32 : decode prog_8_method_19_code 32 = .ok (.return_, 1) := by decide +kernel
theorem nd_MO_look_0 : decode prog_8_method_25_code 0 = .ok (.iload_n 1, 1) := by decide +kernel
theorem nd_MO_look_1 : decode prog_8_method_25_code 1 = .ok (.invokestatic 115, 3) := by decide +kernel
theorem nd_MO_look_4 : decode prog_8_method_25_code 4 = .ok (.ifCond .ne 5, 3) := by decide +kernel
theorem nd_MO_look_7 : decode prog_8_method_25_code 7 = .ok (.iconst (-1), 1) := by decide +kernel
theorem nd_MO_look_8 : decode prog_8_method_25_code 8 = .ok (.ireturn, 1) := by decide +kernel
theorem nd_MO_look_9 : decode prog_8_method_25_code 9 = .ok (.aload_n 0, 1) := by decide +kernel
theorem nd_MO_look_10 : decode prog_8_method_25_code 10 = .ok (.iload_n 1, 1) := by decide +kernel
theorem nd_MO_look_11 : decode prog_8_method_25_code 11 = .ok (.invokevirtual 118, 3) := by decide +kernel
theorem nd_MO_look_14 : decode prog_8_method_25_code 14 = .ok (.aload_n 0, 1) := by decide +kernel
theorem nd_MO_look_15 : decode prog_8_method_25_code 15 = .ok (.iconst 0, 1) := by decide +kernel
theorem nd_MO_look_16 : decode prog_8_method_25_code 16 = .ok (.putfield 149, 3) := by decide +kernel
theorem nd_MO_look_19 : decode prog_8_method_25_code 19 = .ok (.aload_n 0, 1) := by decide +kernel
theorem nd_MO_look_20 : decode prog_8_method_25_code 20 = .ok (.aload_n 0, 1) := by decide +kernel
theorem nd_MO_look_21 : decode prog_8_method_25_code 21 = .ok (.getfield 77, 3) := by decide +kernel
theorem nd_MO_look_24 : decode prog_8_method_25_code 24 = .ok (.invokevirtual 152, 3) := by decide +kernel
theorem nd_MO_look_27 : decode prog_8_method_25_code 27 = .ok (.aload_n 0, 1) := by decide +kernel
theorem nd_MO_look_28 : decode prog_8_method_25_code 28 = .ok (.aload_n 0, 1) := by decide +kernel
theorem nd_MO_look_29 : decode prog_8_method_25_code 29 = .ok (.getfield 66, 3) := by decide +kernel
theorem nd_MO_look_32 : decode prog_8_method_25_code 32 = .ok (.iconst 0, 1) := by decide +kernel
theorem nd_MO_look_33 : decode prog_8_method_25_code 33 = .ok (.iaload, 1) := by decide +kernel
theorem nd_MO_look_34 : decode prog_8_method_25_code 34 = .ok (.invokevirtual 152, 3) := by decide +kernel
theorem nd_MO_look_37 : decode prog_8_method_25_code 37 = .ok (.aload_n 0, 1) := by decide +kernel
theorem nd_MO_look_38 : decode prog_8_method_25_code 38 = .ok (.aload_n 0, 1) := by decide +kernel
theorem nd_MO_look_39 : decode prog_8_method_25_code 39 = .ok (.getfield 66, 3) := by decide +kernel
theorem nd_MO_look_42 : decode prog_8_method_25_code 42 = .ok (.iconst 1, 1) := by decide +kernel
theorem nd_MO_look_43 : decode prog_8_method_25_code 43 = .ok (.iaload, 1) := by decide +kernel
theorem nd_MO_look_44 : decode prog_8_method_25_code 44 = .ok (.invokevirtual 152, 3) := by decide +kernel
theorem nd_MO_look_47 : decode prog_8_method_25_code 47 = .ok (.aload_n 0, 1) := by decide +kernel
theorem nd_MO_look_48 : decode prog_8_method_25_code 48 = .ok (.aload_n 0, 1) := by decide +kernel
theorem nd_MO_look_49 : decode prog_8_method_25_code 49 = .ok (.getfield 66, 3) := by decide +kernel
theorem nd_MO_look_52 : decode prog_8_method_25_code 52 = .ok (.iconst 2, 1) := by decide +kernel
theorem nd_MO_look_53 : decode prog_8_method_25_code 53 = .ok (.iaload, 1) := by decide +kernel
theorem nd_MO_look_54 : decode prog_8_method_25_code 54 = .ok (.invokevirtual 152, 3) := by decide +kernel
theorem nd_MO_look_57 : decode prog_8_method_25_code 57 = .ok (.aload_n 0, 1) := by decide +kernel
theorem nd_MO_look_58 : decode prog_8_method_25_code 58 = .ok (.aload_n 0, 1) := by decide +kernel
theorem nd_MO_look_59 : decode prog_8_method_25_code 59 = .ok (.getfield 66, 3) := by decide +kernel
theorem nd_MO_look_62 : decode prog_8_method_25_code 62 = .ok (.iconst 3, 1) := by decide +kernel
theorem nd_MO_look_63 : decode prog_8_method_25_code 63 = .ok (.iaload, 1) := by decide +kernel
theorem nd_MO_look_64 : decode prog_8_method_25_code 64 = .ok (.invokevirtual 152, 3) := by decide +kernel
theorem nd_MO_look_67 : decode prog_8_method_25_code 67 = .ok (.aload_n 0, 1) := by decide +kernel
theorem nd_MO_look_68 : decode prog_8_method_25_code 68 = .ok (.aload_n 0, 1) := by decide +kernel
theorem nd_MO_look_69 : decode prog_8_method_25_code 69 = .ok (.getfield 66, 3) := by decide +kernel
theorem nd_MO_look_72 : decode prog_8_method_25_code 72 = .ok (.bipush 6, 2) := by decide +kernel
theorem nd_MO_look_74 : decode prog_8_method_25_code 74 = .ok (.iaload, 1) := by decide +kernel
theorem nd_MO_look_75 : decode prog_8_method_25_code 75 = .ok (.invokevirtual 152, 3) := by decide +kernel
theorem nd_MO_look_78 : decode prog_8_method_25_code 78 = .ok (.iconst 0, 1) := by decide +kernel
theorem nd_MO_look_79 : decode prog_8_method_25_code 79 = .ok (.istore_n 2, 1) := by decide +kernel
theorem nd_MO_look_80 : decode prog_8_method_25_code 80 = .ok (.iload_n 2, 1) := by decide +kernel
theorem nd_MO_look_81 : decode prog_8_method_25_code 81 = .ok (.aload_n 0, 1) := by decide +kernel
theorem nd_MO_look_82 : decode prog_8_method_25_code 82 = .ok (.getfield 66, 3) := by decide +kernel
theorem nd_MO_look_85 : decode prog_8_method_25_code 85 = .ok (.bipush 8, 2) := by decide +kernel
theorem nd_MO_look_87 : decode prog_8_method_25_code 87 = .ok (.iaload, 1) := by decide +kernel
theorem nd_MO_look_88 : decode prog_8_method_25_code 88 = .ok (.if_icmp .ge 41, 3) := by decide +kernel
theorem nd_MO_look_91 : decode prog_8_method_25_code 91 = .ok (.aload_n 0, 1) := by decide +kernel
theorem nd_MO_look_92 : decode prog_8_method_25_code 92 = .ok (.aload_n 0, 1) := by decide +kernel
theorem nd_MO_look_93 : decode prog_8_method_25_code 93 = .ok (.getfield 66, 3) := by decide +kernel
theorem nd_MO_look_96 : decode prog_8_method_25_code 96 = .ok (.bipush 9, 2) := by decide +kernel
theorem nd_MO_look_98 : decode prog_8_method_25_code 98 = .ok (.iconst 3, 1) := by decide +kernel
theorem nd_MO_look_99 : decode prog_8_method_25_code 99 = .ok (.iload_n 2, 1) := by decide +kernel
theorem nd_MO_look_100 : decode prog_8_method_25_code 100 = .ok (.imul, 1) := by decide +kernel
theorem nd_MO_look_101 : decode prog_8_method_25_code 101 = .ok (.iadd, 1) := by decide +kernel
theorem nd_MO_look_102 : decode prog_8_method_25_code 102 = .ok (.iaload, 1) := by decide +kernel
theorem nd_MO_look_103 : decode prog_8_method_25_code 103 = .ok (.invokevirtual 152, 3) := by decide +kernel
theorem nd_MO_look_106 : decode prog_8_method_25_code 106 = .ok (.aload_n 0, 1) := by decide +kernel
theorem nd_MO_look_107 : decode prog_8_method_25_code 107 = .ok (.aload_n 0, 1) := by decide +kernel
theorem nd_MO_look_108 : decode prog_8_method_25_code 108 = .ok (.getfield 66, 3) := by decide +kernel
theorem nd_MO_look_111 : decode prog_8_method_25_code 111 = .ok (.bipush 9, 2) := by decide +kernel
theorem nd_MO_look_113 : decode prog_8_method_25_code 113 = .ok (.iconst 3, 1) := by decide +kernel
theorem nd_MO_look_114 : decode prog_8_method_25_code 114 = .ok (.iload_n 2, 1) := by decide +kernel
theorem nd_MO_look_115 : decode prog_8_method_25_code 115 = .ok (.imul, 1) := by decide +kernel
theorem nd_MO_look_116 : decode prog_8_method_25_code 116 = .ok (.iadd, 1) := by decide +kernel
theorem nd_MO_look_117 : decode prog_8_method_25_code 117 = .ok (.iconst 2, 1) := by decide +kernel
theorem nd_MO_look_118 : decode prog_8_method_25_code 118 = .ok (.iadd, 1) := by decide +kernel
theorem nd_MO_look_119 : decode prog_8_method_25_code 119 = .ok (.iaload, 1) := by decide +kernel
theorem nd_MO_look_120 : decode prog_8_method_25_code 120 = .ok (.invokevirtual 152, 3) := by decide +kernel
theorem nd_MO_look_123 : decode prog_8_method_25_code 123 = .ok (.iinc 2 1, 3) := by decide +kernel
theorem nd_MO_look_126 : decode prog_8_method_25_code 126 = .ok (.goto (-46), 3) := by decide +kernel
theorem nd_MO_look_129 : decode prog_8_method_25_code 129 = .ok (.aload_n 0, 1) := by decide +kernel
theorem nd_MO_look_130 : decode prog_8_method_25_code 130 = .ok (.getfield 149, 3) := by decide +kernel
theorem nd_MO_look_133 : decode prog_8_method_25_code 133 = .ok (.ireturn, 1) := by decide +kernel
theorem nd_MO_shown_0 : decode prog_8_method_24_code 0 = .ok (.iload_n 1, 1) := by decide +kernel
theorem nd_MO_shown_1 : decode prog_8_method_24_code 1 = .ok (.ifCond .ne 4, 3) := by decide +kernel
theorem nd_MO_shown_4 : decode prog_8_method_24_code 4 = .ok (.return_, 1) := by decide +kernel
theorem nd_MO_shown_5 : decode prog_8_method_24_code 5 = .ok (.aload_n 0, 1) := by decide +kernel
theorem nd_MO_shown_6 : decode prog_8_method_24_code 6 = .ok (.iload_n 1, 1) := by decide +kernel
theorem nd_MO_shown_7 : decode prog_8_method_24_code 7 = .ok (.invokevirtual 131, 3) := by decide +kernel
theorem nd_MO_shown_10 : decode prog_8_method_24_code 10 = .ok (.aload_n 0, 1) := by decide +kernel
theorem nd_MO_shown_11 : decode prog_8_method_24_code 11 = .ok (.dup, 1) := by decide +kernel
theorem nd_MO_shown_12 : decode prog_8_method_24_code 12 = .ok (.getfield 149, 3) := by decide +kernel
theorem nd_MO_shown_15 : decode prog_8_method_24_code 15 = .ok (.iconst 1, 1) := by decide +kernel
theorem nd_MO_shown_16 : decode prog_8_method_24_code 16 = .ok (.iadd, 1) := by decide +kernel
theorem nd_MO_shown_17 : decode prog_8_method_24_code 17 = .ok (.putfield 149, 3) := by decide +kernel
theorem nd_MO_shown_20 : decode prog_8_method_24_code 20 = .ok (.return_, 1) := by decide +kernel
theorem nd_MO_derived_0 : decode prog_8_method_26_code 0 = .ok (.iload_n 1, 1) := by decide +kernel
theorem nd_MO_derived_1 : decode prog_8_method_26_code 1 = .ok (.ifCond .lt 11, 3) := by decide +kernel
theorem nd_MO_derived_4 : decode prog_8_method_26_code 4 = .ok (.iload_n 1, 1) := by decide +kernel
theorem nd_MO_derived_5 : decode prog_8_method_26_code 5 = .ok (.aload_n 0, 1) := by decide +kernel
theorem nd_MO_derived_6 : decode prog_8_method_26_code 6 = .ok (.getfield 128, 3) := by decide +kernel
theorem nd_MO_derived_9 : decode prog_8_method_26_code 9 = .ok (.if_icmp .lt 5, 3) := by decide +kernel
theorem nd_MO_derived_12 : decode prog_8_method_26_code 12 = .ok (.iconst (-1), 1) := by decide +kernel
theorem nd_MO_derived_13 : decode prog_8_method_26_code 13 = .ok (.ireturn, 1) := by decide +kernel
theorem nd_MO_derived_14 : decode prog_8_method_26_code 14 = .ok (.aload_n 0, 1) := by decide +kernel
theorem nd_MO_derived_15 : decode prog_8_method_26_code 15 = .ok (.invokevirtual 155, 3) := by decide +kernel
theorem nd_MO_derived_18 : decode prog_8_method_26_code 18 = .ok (.aload_n 0, 1) := by decide +kernel
theorem nd_MO_derived_19 : decode prog_8_method_26_code 19 = .ok (.getfield 31, 3) := by decide +kernel
theorem nd_MO_derived_22 : decode prog_8_method_26_code 22 = .ok (.aload_n 0, 1) := by decide +kernel
theorem nd_MO_derived_23 : decode prog_8_method_26_code 23 = .ok (.getfield 57, 3) := by decide +kernel
theorem nd_MO_derived_26 : decode prog_8_method_26_code 26 = .ok (.iload_n 1, 1) := by decide +kernel
theorem nd_MO_derived_27 : decode prog_8_method_26_code 27 = .ok (.iaload, 1) := by decide +kernel
theorem nd_MO_derived_28 : decode prog_8_method_26_code 28 = .ok (.baload, 1) := by decide +kernel
theorem nd_MO_derived_29 : decode prog_8_method_26_code 29 = .ok (.ifCond .eq 7, 3) := by decide +kernel
theorem nd_MO_derived_32 : decode prog_8_method_26_code 32 = .ok (.iconst 1, 1) := by decide +kernel
theorem nd_MO_derived_33 : decode prog_8_method_26_code 33 = .ok (.goto 4, 3) := by decide +kernel
theorem nd_MO_derived_36 : decode prog_8_method_26_code 36 = .ok (.iconst 0, 1) := by decide +kernel
theorem nd_MO_derived_37 : decode prog_8_method_26_code 37 = .ok (.ireturn, 1) := by decide +kernel
theorem nd_MO_derive_0 : decode prog_8_method_13_code 0 = .ok (.aload_n 0, 1) := by decide +kernel
theorem nd_MO_derive_1 : decode prog_8_method_13_code 1 = .ok (.getfield 38, 3) := by decide +kernel
theorem nd_MO_derive_4 : decode prog_8_method_13_code 4 = .ok (.istore_n 1, 1) := by decide +kernel
theorem nd_MO_derive_5 : decode prog_8_method_13_code 5 = .ok (.aload_n 0, 1) := by decide +kernel
theorem nd_MO_derive_6 : decode prog_8_method_13_code 6 = .ok (.iconst 0, 1) := by decide +kernel
theorem nd_MO_derive_7 : decode prog_8_method_13_code 7 = .ok (.putfield 38, 3) := by decide +kernel
theorem nd_MO_derive_10 : decode prog_8_method_13_code 10 = .ok (.iload_n 1, 1) := by decide +kernel
theorem nd_MO_derive_11 : decode prog_8_method_13_code 11 = .ok (.ifCond .eq 95, 3) := by decide +kernel
theorem nd_MO_derive_14 : decode prog_8_method_13_code 14 = .ok (.iconst 0, 1) := by decide +kernel
theorem nd_MO_derive_15 : decode prog_8_method_13_code 15 = .ok (.istore_n 1, 1) := by decide +kernel
theorem nd_MO_derive_16 : decode prog_8_method_13_code 16 = .ok (.iconst 1, 1) := by decide +kernel
theorem nd_MO_derive_17 : decode prog_8_method_13_code 17 = .ok (.istore_n 2, 1) := by decide +kernel
theorem nd_MO_derive_18 : decode prog_8_method_13_code 18 = .ok (.iload_n 2, 1) := by decide +kernel
theorem nd_MO_derive_19 : decode prog_8_method_13_code 19 = .ok (.aload_n 0, 1) := by decide +kernel
theorem nd_MO_derive_20 : decode prog_8_method_13_code 20 = .ok (.getfield 7, 3) := by decide +kernel
theorem nd_MO_derive_23 : decode prog_8_method_13_code 23 = .ok (.if_icmp .ge 80, 3) := by decide +kernel
theorem nd_MO_derive_26 : decode prog_8_method_13_code 26 = .ok (.aload_n 0, 1) := by decide +kernel
theorem nd_MO_derive_27 : decode prog_8_method_13_code 27 = .ok (.getfield 31, 3) := by decide +kernel
theorem nd_MO_derive_30 : decode prog_8_method_13_code 30 = .ok (.iload_n 2, 1) := by decide +kernel
theorem nd_MO_derive_31 : decode prog_8_method_13_code 31 = .ok (.baload, 1) := by decide +kernel
theorem nd_MO_derive_32 : decode prog_8_method_13_code 32 = .ok (.ifCond .ne 38, 3) := by decide +kernel
theorem nd_MO_derive_35 : decode prog_8_method_13_code 35 = .ok (.aload_n 0, 1) := by decide +kernel
theorem nd_MO_derive_36 : decode prog_8_method_13_code 36 = .ok (.getfield 27, 3) := by decide +kernel
theorem nd_MO_derive_39 : decode prog_8_method_13_code 39 = .ok (.iload_n 2, 1) := by decide +kernel
theorem nd_MO_derive_40 : decode prog_8_method_13_code 40 = .ok (.baload, 1) := by decide +kernel
theorem nd_MO_derive_41 : decode prog_8_method_13_code 41 = .ok (.ifCond .ne 11, 3) := by decide +kernel
theorem nd_MO_derive_44 : decode prog_8_method_13_code 44 = .ok (.aload_n 0, 1) := by decide +kernel
theorem nd_MO_derive_45 : decode prog_8_method_13_code 45 = .ok (.iload_n 2, 1) := by decide +kernel
theorem nd_MO_derive_46 : decode prog_8_method_13_code 46 = .ok (.invokevirtual 109, 3) := by decide +kernel
theorem nd_MO_derive_49 : decode prog_8_method_13_code 49 = .ok (.ifCond .eq 21, 3) := by decide +kernel
theorem nd_MO_derive_52 : decode prog_8_method_13_code 52 = .ok (.aload_n 0, 1) := by decide +kernel
theorem nd_MO_derive_53 : decode prog_8_method_13_code 53 = .ok (.iload_n 2, 1) := by decide +kernel
theorem nd_MO_derive_54 : decode prog_8_method_13_code 54 = .ok (.invokevirtual 106, 3) := by decide +kernel
theorem nd_MO_derive_57 : decode prog_8_method_13_code 57 = .ok (.ifCond .ne 7, 3) := by decide +kernel
theorem nd_MO_derive_60 : decode prog_8_method_13_code 60 = .ok (.iload_n 1, 1) := by decide +kernel
theorem nd_MO_derive_61 : decode prog_8_method_13_code 61 = .ok (.ifCond .eq 7, 3) := by decide +kernel
theorem nd_MO_derive_64 : decode prog_8_method_13_code 64 = .ok (.iconst 1, 1) := by decide +kernel
theorem nd_MO_derive_65 : decode prog_8_method_13_code 65 = .ok (.goto 4, 3) := by decide +kernel
theorem nd_MO_derive_68 : decode prog_8_method_13_code 68 = .ok (.iconst 0, 1) := by decide +kernel
theorem nd_MO_derive_69 : decode prog_8_method_13_code 69 = .ok (.istore_n 1, 1) := by decide +kernel
theorem nd_MO_derive_70 : decode prog_8_method_13_code 70 = .ok (.aload_n 0, 1) := by decide +kernel
theorem nd_MO_derive_71 : decode prog_8_method_13_code 71 = .ok (.getfield 31, 3) := by decide +kernel
theorem nd_MO_derive_74 : decode prog_8_method_13_code 74 = .ok (.iload_n 2, 1) := by decide +kernel
theorem nd_MO_derive_75 : decode prog_8_method_13_code 75 = .ok (.baload, 1) := by decide +kernel
theorem nd_MO_derive_76 : decode prog_8_method_13_code 76 = .ok (.ifCond .eq 21, 3) := by decide +kernel
theorem nd_MO_derive_79 : decode prog_8_method_13_code 79 = .ok (.aload_n 0, 1) := by decide +kernel
theorem nd_MO_derive_80 : decode prog_8_method_13_code 80 = .ok (.iload_n 2, 1) := by decide +kernel
theorem nd_MO_derive_81 : decode prog_8_method_13_code 81 = .ok (.invokevirtual 112, 3) := by decide +kernel
theorem nd_MO_derive_84 : decode prog_8_method_13_code 84 = .ok (.ifCond .ne 7, 3) := by decide +kernel
theorem nd_MO_derive_87 : decode prog_8_method_13_code 87 = .ok (.iload_n 1, 1) := by decide +kernel
theorem nd_MO_derive_88 : decode prog_8_method_13_code 88 = .ok (.ifCond .eq 7, 3) := by decide +kernel
theorem nd_MO_derive_91 : decode prog_8_method_13_code 91 = .ok (.iconst 1, 1) := by decide +kernel
theorem nd_MO_derive_92 : decode prog_8_method_13_code 92 = .ok (.goto 4, 3) := by decide +kernel
theorem nd_MO_derive_95 : decode prog_8_method_13_code 95 = .ok (.iconst 0, 1) := by decide +kernel
theorem nd_MO_derive_96 : decode prog_8_method_13_code 96 = .ok (.istore_n 1, 1) := by decide +kernel
theorem nd_MO_derive_97 : decode prog_8_method_13_code 97 = .ok (.iinc 2 1, 3) := by decide +kernel
theorem nd_MO_derive_100 : decode prog_8_method_13_code 100 = .ok (.goto (-82), 3) := by decide +kernel
theorem nd_MO_derive_103 : decode prog_8_method_13_code 103 = .ok (.goto (-93), 3) := by decide +kernel
theorem nd_MO_derive_106 : decode prog_8_method_13_code 106 = .ok (.return_, 1) := by decide +kernel
theorem nd_MO_canMake_0 : decode prog_8_method_10_code 0 = .ok (.aload_n 0, 1) := by decide +kernel
theorem nd_MO_canMake_1 : decode prog_8_method_10_code 1 = .ok (.getfield 13, 3) := by decide +kernel
theorem nd_MO_canMake_4 : decode prog_8_method_10_code 4 = .ok (.iload_n 1, 1) := by decide +kernel
theorem nd_MO_canMake_5 : decode prog_8_method_10_code 5 = .ok (.baload, 1) := by decide +kernel
theorem nd_MO_canMake_6 : decode prog_8_method_10_code 6 = .ok (.tableswitch 218 2 6 #[34, 46, 106, 138, 186], 34) := by decide +kernel
theorem nd_MO_canMake_40 : decode prog_8_method_10_code 40 = .ok (.aload_n 0, 1) := by decide +kernel
theorem nd_MO_canMake_41 : decode prog_8_method_10_code 41 = .ok (.getfield 31, 3) := by decide +kernel
theorem nd_MO_canMake_44 : decode prog_8_method_10_code 44 = .ok (.aload_n 0, 1) := by decide +kernel
theorem nd_MO_canMake_45 : decode prog_8_method_10_code 45 = .ok (.getfield 17, 3) := by decide +kernel
theorem nd_MO_canMake_48 : decode prog_8_method_10_code 48 = .ok (.iload_n 1, 1) := by decide +kernel
theorem nd_MO_canMake_49 : decode prog_8_method_10_code 49 = .ok (.iaload, 1) := by decide +kernel
theorem nd_MO_canMake_50 : decode prog_8_method_10_code 50 = .ok (.baload, 1) := by decide +kernel
theorem nd_MO_canMake_51 : decode prog_8_method_10_code 51 = .ok (.ireturn, 1) := by decide +kernel
theorem nd_MO_canMake_52 : decode prog_8_method_10_code 52 = .ok (.aload_n 0, 1) := by decide +kernel
theorem nd_MO_canMake_53 : decode prog_8_method_10_code 53 = .ok (.getfield 31, 3) := by decide +kernel
theorem nd_MO_canMake_56 : decode prog_8_method_10_code 56 = .ok (.aload_n 0, 1) := by decide +kernel
theorem nd_MO_canMake_57 : decode prog_8_method_10_code 57 = .ok (.getfield 17, 3) := by decide +kernel
theorem nd_MO_canMake_60 : decode prog_8_method_10_code 60 = .ok (.iload_n 1, 1) := by decide +kernel
theorem nd_MO_canMake_61 : decode prog_8_method_10_code 61 = .ok (.iaload, 1) := by decide +kernel
theorem nd_MO_canMake_62 : decode prog_8_method_10_code 62 = .ok (.baload, 1) := by decide +kernel
theorem nd_MO_canMake_63 : decode prog_8_method_10_code 63 = .ok (.ifCond .eq 16, 3) := by decide +kernel
theorem nd_MO_canMake_66 : decode prog_8_method_10_code 66 = .ok (.aload_n 0, 1) := by decide +kernel
theorem nd_MO_canMake_67 : decode prog_8_method_10_code 67 = .ok (.aload_n 0, 1) := by decide +kernel
theorem nd_MO_canMake_68 : decode prog_8_method_10_code 68 = .ok (.getfield 21, 3) := by decide +kernel
theorem nd_MO_canMake_71 : decode prog_8_method_10_code 71 = .ok (.iload_n 1, 1) := by decide +kernel
theorem nd_MO_canMake_72 : decode prog_8_method_10_code 72 = .ok (.iaload, 1) := by decide +kernel
theorem nd_MO_canMake_73 : decode prog_8_method_10_code 73 = .ok (.invokevirtual 99, 3) := by decide +kernel
theorem nd_MO_canMake_76 : decode prog_8_method_10_code 76 = .ok (.ifCond .ne 30, 3) := by decide +kernel
theorem nd_MO_canMake_79 : decode prog_8_method_10_code 79 = .ok (.aload_n 0, 1) := by decide +kernel
theorem nd_MO_canMake_80 : decode prog_8_method_10_code 80 = .ok (.getfield 31, 3) := by decide +kernel
theorem nd_MO_canMake_83 : decode prog_8_method_10_code 83 = .ok (.aload_n 0, 1) := by decide +kernel
theorem nd_MO_canMake_84 : decode prog_8_method_10_code 84 = .ok (.getfield 21, 3) := by decide +kernel
theorem nd_MO_canMake_87 : decode prog_8_method_10_code 87 = .ok (.iload_n 1, 1) := by decide +kernel
theorem nd_MO_canMake_88 : decode prog_8_method_10_code 88 = .ok (.iaload, 1) := by decide +kernel
theorem nd_MO_canMake_89 : decode prog_8_method_10_code 89 = .ok (.baload, 1) := by decide +kernel
theorem nd_MO_canMake_90 : decode prog_8_method_10_code 90 = .ok (.ifCond .eq 20, 3) := by decide +kernel
theorem nd_MO_canMake_93 : decode prog_8_method_10_code 93 = .ok (.aload_n 0, 1) := by decide +kernel
theorem nd_MO_canMake_94 : decode prog_8_method_10_code 94 = .ok (.aload_n 0, 1) := by decide +kernel
theorem nd_MO_canMake_95 : decode prog_8_method_10_code 95 = .ok (.getfield 17, 3) := by decide +kernel
theorem nd_MO_canMake_98 : decode prog_8_method_10_code 98 = .ok (.iload_n 1, 1) := by decide +kernel
theorem nd_MO_canMake_99 : decode prog_8_method_10_code 99 = .ok (.iaload, 1) := by decide +kernel
theorem nd_MO_canMake_100 : decode prog_8_method_10_code 100 = .ok (.invokevirtual 99, 3) := by decide +kernel
theorem nd_MO_canMake_103 : decode prog_8_method_10_code 103 = .ok (.ifCond .eq 7, 3) := by decide +kernel
theorem nd_MO_canMake_106 : decode prog_8_method_10_code 106 = .ok (.iconst 1, 1) := by decide +kernel
theorem nd_MO_canMake_107 : decode prog_8_method_10_code 107 = .ok (.goto 4, 3) := by decide +kernel
theorem nd_MO_canMake_110 : decode prog_8_method_10_code 110 = .ok (.iconst 0, 1) := by decide +kernel
theorem nd_MO_canMake_111 : decode prog_8_method_10_code 111 = .ok (.ireturn, 1) := by decide +kernel
theorem nd_MO_canMake_112 : decode prog_8_method_10_code 112 = .ok (.aload_n 0, 1) := by decide +kernel
theorem nd_MO_canMake_113 : decode prog_8_method_10_code 113 = .ok (.aload_n 0, 1) := by decide +kernel
theorem nd_MO_canMake_114 : decode prog_8_method_10_code 114 = .ok (.getfield 21, 3) := by decide +kernel
theorem nd_MO_canMake_117 : decode prog_8_method_10_code 117 = .ok (.iload_n 1, 1) := by decide +kernel
theorem nd_MO_canMake_118 : decode prog_8_method_10_code 118 = .ok (.iaload, 1) := by decide +kernel
theorem nd_MO_canMake_119 : decode prog_8_method_10_code 119 = .ok (.invokevirtual 103, 3) := by decide +kernel
theorem nd_MO_canMake_122 : decode prog_8_method_10_code 122 = .ok (.ifCond .eq 20, 3) := by decide +kernel
theorem nd_MO_canMake_125 : decode prog_8_method_10_code 125 = .ok (.aload_n 0, 1) := by decide +kernel
theorem nd_MO_canMake_126 : decode prog_8_method_10_code 126 = .ok (.aload_n 0, 1) := by decide +kernel
theorem nd_MO_canMake_127 : decode prog_8_method_10_code 127 = .ok (.getfield 24, 3) := by decide +kernel
theorem nd_MO_canMake_130 : decode prog_8_method_10_code 130 = .ok (.iload_n 1, 1) := by decide +kernel
theorem nd_MO_canMake_131 : decode prog_8_method_10_code 131 = .ok (.iaload, 1) := by decide +kernel
theorem nd_MO_canMake_132 : decode prog_8_method_10_code 132 = .ok (.invokevirtual 103, 3) := by decide +kernel
theorem nd_MO_canMake_135 : decode prog_8_method_10_code 135 = .ok (.ifCond .eq 7, 3) := by decide +kernel
theorem nd_MO_canMake_138 : decode prog_8_method_10_code 138 = .ok (.iconst 1, 1) := by decide +kernel
theorem nd_MO_canMake_139 : decode prog_8_method_10_code 139 = .ok (.goto 4, 3) := by decide +kernel
theorem nd_MO_canMake_142 : decode prog_8_method_10_code 142 = .ok (.iconst 0, 1) := by decide +kernel
theorem nd_MO_canMake_143 : decode prog_8_method_10_code 143 = .ok (.ireturn, 1) := by decide +kernel
theorem nd_MO_canMake_144 : decode prog_8_method_10_code 144 = .ok (.aload_n 0, 1) := by decide +kernel
theorem nd_MO_canMake_145 : decode prog_8_method_10_code 145 = .ok (.getfield 31, 3) := by decide +kernel
theorem nd_MO_canMake_148 : decode prog_8_method_10_code 148 = .ok (.aload_n 0, 1) := by decide +kernel
theorem nd_MO_canMake_149 : decode prog_8_method_10_code 149 = .ok (.getfield 17, 3) := by decide +kernel
theorem nd_MO_canMake_152 : decode prog_8_method_10_code 152 = .ok (.iload_n 1, 1) := by decide +kernel
theorem nd_MO_canMake_153 : decode prog_8_method_10_code 153 = .ok (.iaload, 1) := by decide +kernel
theorem nd_MO_canMake_154 : decode prog_8_method_10_code 154 = .ok (.baload, 1) := by decide +kernel
theorem nd_MO_canMake_155 : decode prog_8_method_10_code 155 = .ok (.ifCond .eq 35, 3) := by decide +kernel
theorem nd_MO_canMake_158 : decode prog_8_method_10_code 158 = .ok (.aload_n 0, 1) := by decide +kernel
theorem nd_MO_canMake_159 : decode prog_8_method_10_code 159 = .ok (.getfield 31, 3) := by decide +kernel
theorem nd_MO_canMake_162 : decode prog_8_method_10_code 162 = .ok (.aload_n 0, 1) := by decide +kernel
theorem nd_MO_canMake_163 : decode prog_8_method_10_code 163 = .ok (.getfield 21, 3) := by decide +kernel
theorem nd_MO_canMake_166 : decode prog_8_method_10_code 166 = .ok (.iload_n 1, 1) := by decide +kernel
theorem nd_MO_canMake_167 : decode prog_8_method_10_code 167 = .ok (.iaload, 1) := by decide +kernel
theorem nd_MO_canMake_168 : decode prog_8_method_10_code 168 = .ok (.baload, 1) := by decide +kernel
theorem nd_MO_canMake_169 : decode prog_8_method_10_code 169 = .ok (.ifCond .eq 21, 3) := by decide +kernel
theorem nd_MO_canMake_172 : decode prog_8_method_10_code 172 = .ok (.aload_n 0, 1) := by decide +kernel
theorem nd_MO_canMake_173 : decode prog_8_method_10_code 173 = .ok (.getfield 31, 3) := by decide +kernel
theorem nd_MO_canMake_176 : decode prog_8_method_10_code 176 = .ok (.aload_n 0, 1) := by decide +kernel
theorem nd_MO_canMake_177 : decode prog_8_method_10_code 177 = .ok (.getfield 24, 3) := by decide +kernel
theorem nd_MO_canMake_180 : decode prog_8_method_10_code 180 = .ok (.iload_n 1, 1) := by decide +kernel
theorem nd_MO_canMake_181 : decode prog_8_method_10_code 181 = .ok (.iaload, 1) := by decide +kernel
theorem nd_MO_canMake_182 : decode prog_8_method_10_code 182 = .ok (.baload, 1) := by decide +kernel
theorem nd_MO_canMake_183 : decode prog_8_method_10_code 183 = .ok (.ifCond .eq 7, 3) := by decide +kernel
theorem nd_MO_canMake_186 : decode prog_8_method_10_code 186 = .ok (.iconst 1, 1) := by decide +kernel
theorem nd_MO_canMake_187 : decode prog_8_method_10_code 187 = .ok (.goto 4, 3) := by decide +kernel
theorem nd_MO_canMake_190 : decode prog_8_method_10_code 190 = .ok (.iconst 0, 1) := by decide +kernel
theorem nd_MO_canMake_191 : decode prog_8_method_10_code 191 = .ok (.ireturn, 1) := by decide +kernel
theorem nd_MO_canMake_192 : decode prog_8_method_10_code 192 = .ok (.aload_n 0, 1) := by decide +kernel
theorem nd_MO_canMake_193 : decode prog_8_method_10_code 193 = .ok (.aload_n 0, 1) := by decide +kernel
theorem nd_MO_canMake_194 : decode prog_8_method_10_code 194 = .ok (.getfield 21, 3) := by decide +kernel
theorem nd_MO_canMake_197 : decode prog_8_method_10_code 197 = .ok (.iload_n 1, 1) := by decide +kernel
theorem nd_MO_canMake_198 : decode prog_8_method_10_code 198 = .ok (.iaload, 1) := by decide +kernel
theorem nd_MO_canMake_199 : decode prog_8_method_10_code 199 = .ok (.invokevirtual 103, 3) := by decide +kernel
theorem nd_MO_canMake_202 : decode prog_8_method_10_code 202 = .ok (.ifCond .eq 20, 3) := by decide +kernel
theorem nd_MO_canMake_205 : decode prog_8_method_10_code 205 = .ok (.aload_n 0, 1) := by decide +kernel
theorem nd_MO_canMake_206 : decode prog_8_method_10_code 206 = .ok (.aload_n 0, 1) := by decide +kernel
theorem nd_MO_canMake_207 : decode prog_8_method_10_code 207 = .ok (.getfield 24, 3) := by decide +kernel
theorem nd_MO_canMake_210 : decode prog_8_method_10_code 210 = .ok (.iload_n 1, 1) := by decide +kernel
theorem nd_MO_canMake_211 : decode prog_8_method_10_code 211 = .ok (.iaload, 1) := by decide +kernel
theorem nd_MO_canMake_212 : decode prog_8_method_10_code 212 = .ok (.invokevirtual 103, 3) := by decide +kernel
theorem nd_MO_canMake_215 : decode prog_8_method_10_code 215 = .ok (.ifCond .eq 7, 3) := by decide +kernel
theorem nd_MO_canMake_218 : decode prog_8_method_10_code 218 = .ok (.iconst 1, 1) := by decide +kernel
theorem nd_MO_canMake_219 : decode prog_8_method_10_code 219 = .ok (.goto 4, 3) := by decide +kernel
theorem nd_MO_canMake_222 : decode prog_8_method_10_code 222 = .ok (.iconst 0, 1) := by decide +kernel
theorem nd_MO_canMake_223 : decode prog_8_method_10_code 223 = .ok (.ireturn, 1) := by decide +kernel
theorem nd_MO_canMake_224 : decode prog_8_method_10_code 224 = .ok (.iconst 0, 1) := by decide +kernel
theorem nd_MO_canMake_225 : decode prog_8_method_10_code 225 = .ok (.ireturn, 1) := by decide +kernel
theorem nd_MO_shows_0 : decode prog_8_method_9_code 0 = .ok (.aload_n 0, 1) := by decide +kernel
theorem nd_MO_shows_1 : decode prog_8_method_9_code 1 = .ok (.getfield 31, 3) := by decide +kernel
theorem nd_MO_shows_4 : decode prog_8_method_9_code 4 = .ok (.iload_n 1, 1) := by decide +kernel
theorem nd_MO_shows_5 : decode prog_8_method_9_code 5 = .ok (.baload, 1) := by decide +kernel
theorem nd_MO_shows_6 : decode prog_8_method_9_code 6 = .ok (.ifCond .ne 16, 3) := by decide +kernel
theorem nd_MO_shows_9 : decode prog_8_method_9_code 9 = .ok (.aload_n 0, 1) := by decide +kernel
theorem nd_MO_shows_10 : decode prog_8_method_9_code 10 = .ok (.getfield 31, 3) := by decide +kernel
theorem nd_MO_shows_13 : decode prog_8_method_9_code 13 = .ok (.aload_n 0, 1) := by decide +kernel
theorem nd_MO_shows_14 : decode prog_8_method_9_code 14 = .ok (.iload_n 1, 1) := by decide +kernel
theorem nd_MO_shows_15 : decode prog_8_method_9_code 15 = .ok (.invokevirtual 73, 3) := by decide +kernel
theorem nd_MO_shows_18 : decode prog_8_method_9_code 18 = .ok (.baload, 1) := by decide +kernel
theorem nd_MO_shows_19 : decode prog_8_method_9_code 19 = .ok (.ifCond .eq 7, 3) := by decide +kernel
theorem nd_MO_shows_22 : decode prog_8_method_9_code 22 = .ok (.iconst 1, 1) := by decide +kernel
theorem nd_MO_shows_23 : decode prog_8_method_9_code 23 = .ok (.goto 4, 3) := by decide +kernel
theorem nd_MO_shows_26 : decode prog_8_method_9_code 26 = .ok (.iconst 0, 1) := by decide +kernel
theorem nd_MO_shows_27 : decode prog_8_method_9_code 27 = .ok (.ireturn, 1) := by decide +kernel
theorem nd_MO_has_0 : decode prog_8_method_8_code 0 = .ok (.iload_n 1, 1) := by decide +kernel
theorem nd_MO_has_1 : decode prog_8_method_8_code 1 = .ok (.ifCond .eq 12, 3) := by decide +kernel
theorem nd_MO_has_4 : decode prog_8_method_8_code 4 = .ok (.aload_n 0, 1) := by decide +kernel
theorem nd_MO_has_5 : decode prog_8_method_8_code 5 = .ok (.getfield 31, 3) := by decide +kernel
theorem nd_MO_has_8 : decode prog_8_method_8_code 8 = .ok (.iload_n 1, 1) := by decide +kernel
theorem nd_MO_has_9 : decode prog_8_method_8_code 9 = .ok (.baload, 1) := by decide +kernel
theorem nd_MO_has_10 : decode prog_8_method_8_code 10 = .ok (.ifCond .eq 7, 3) := by decide +kernel
theorem nd_MO_has_13 : decode prog_8_method_8_code 13 = .ok (.iconst 1, 1) := by decide +kernel
theorem nd_MO_has_14 : decode prog_8_method_8_code 14 = .ok (.goto 4, 3) := by decide +kernel
theorem nd_MO_has_17 : decode prog_8_method_8_code 17 = .ok (.iconst 0, 1) := by decide +kernel
theorem nd_MO_has_18 : decode prog_8_method_8_code 18 = .ok (.ireturn, 1) := by decide +kernel
theorem nd_MO_learn_0 : decode prog_8_method_11_code 0 = .ok (.aload_n 0, 1) := by decide +kernel
theorem nd_MO_learn_1 : decode prog_8_method_11_code 1 = .ok (.iload_n 1, 1) := by decide +kernel
theorem nd_MO_learn_2 : decode prog_8_method_11_code 2 = .ok (.invokevirtual 103, 3) := by decide +kernel
theorem nd_MO_learn_5 : decode prog_8_method_11_code 5 = .ok (.ifCond .eq 5, 3) := by decide +kernel
theorem nd_MO_learn_8 : decode prog_8_method_11_code 8 = .ok (.iconst 0, 1) := by decide +kernel
theorem nd_MO_learn_9 : decode prog_8_method_11_code 9 = .ok (.ireturn, 1) := by decide +kernel
theorem nd_MO_learn_10 : decode prog_8_method_11_code 10 = .ok (.aload_n 0, 1) := by decide +kernel
theorem nd_MO_learn_11 : decode prog_8_method_11_code 11 = .ok (.getfield 31, 3) := by decide +kernel
theorem nd_MO_learn_14 : decode prog_8_method_11_code 14 = .ok (.iload_n 1, 1) := by decide +kernel
theorem nd_MO_learn_15 : decode prog_8_method_11_code 15 = .ok (.iconst 1, 1) := by decide +kernel
theorem nd_MO_learn_16 : decode prog_8_method_11_code 16 = .ok (.bastore, 1) := by decide +kernel
theorem nd_MO_learn_17 : decode prog_8_method_11_code 17 = .ok (.iconst 1, 1) := by decide +kernel
theorem nd_MO_learn_18 : decode prog_8_method_11_code 18 = .ok (.ireturn, 1) := by decide +kernel
theorem nd_MO_open_0 : decode prog_8_method_12_code 0 = .ok (.iconst 0, 1) := by decide +kernel
theorem nd_MO_open_1 : decode prog_8_method_12_code 1 = .ok (.istore_n 2, 1) := by decide +kernel
theorem nd_MO_open_2 : decode prog_8_method_12_code 2 = .ok (.aload_n 0, 1) := by decide +kernel
theorem nd_MO_open_3 : decode prog_8_method_12_code 3 = .ok (.getfield 13, 3) := by decide +kernel
theorem nd_MO_open_6 : decode prog_8_method_12_code 6 = .ok (.iload_n 1, 1) := by decide +kernel
theorem nd_MO_open_7 : decode prog_8_method_12_code 7 = .ok (.baload, 1) := by decide +kernel
theorem nd_MO_open_8 : decode prog_8_method_12_code 8 = .ok (.iconst 5, 1) := by decide +kernel
theorem nd_MO_open_9 : decode prog_8_method_12_code 9 = .ok (.if_icmp .ne 51, 3) := by decide +kernel
theorem nd_MO_open_12 : decode prog_8_method_12_code 12 = .ok (.aload_n 0, 1) := by decide +kernel
theorem nd_MO_open_13 : decode prog_8_method_12_code 13 = .ok (.aload_n 0, 1) := by decide +kernel
theorem nd_MO_open_14 : decode prog_8_method_12_code 14 = .ok (.getfield 21, 3) := by decide +kernel
theorem nd_MO_open_17 : decode prog_8_method_12_code 17 = .ok (.iload_n 1, 1) := by decide +kernel
theorem nd_MO_open_18 : decode prog_8_method_12_code 18 = .ok (.iaload, 1) := by decide +kernel
theorem nd_MO_open_19 : decode prog_8_method_12_code 19 = .ok (.invokevirtual 106, 3) := by decide +kernel
theorem nd_MO_open_22 : decode prog_8_method_12_code 22 = .ok (.istore_n 2, 1) := by decide +kernel
theorem nd_MO_open_23 : decode prog_8_method_12_code 23 = .ok (.aload_n 0, 1) := by decide +kernel
theorem nd_MO_open_24 : decode prog_8_method_12_code 24 = .ok (.getfield 31, 3) := by decide +kernel
theorem nd_MO_open_27 : decode prog_8_method_12_code 27 = .ok (.aload_n 0, 1) := by decide +kernel
theorem nd_MO_open_28 : decode prog_8_method_12_code 28 = .ok (.getfield 17, 3) := by decide +kernel
theorem nd_MO_open_31 : decode prog_8_method_12_code 31 = .ok (.iload_n 1, 1) := by decide +kernel
theorem nd_MO_open_32 : decode prog_8_method_12_code 32 = .ok (.iaload, 1) := by decide +kernel
theorem nd_MO_open_33 : decode prog_8_method_12_code 33 = .ok (.baload, 1) := by decide +kernel
theorem nd_MO_open_34 : decode prog_8_method_12_code 34 = .ok (.ifCond .eq 26, 3) := by decide +kernel
theorem nd_MO_open_37 : decode prog_8_method_12_code 37 = .ok (.aload_n 0, 1) := by decide +kernel
theorem nd_MO_open_38 : decode prog_8_method_12_code 38 = .ok (.aload_n 0, 1) := by decide +kernel
theorem nd_MO_open_39 : decode prog_8_method_12_code 39 = .ok (.getfield 24, 3) := by decide +kernel
theorem nd_MO_open_42 : decode prog_8_method_12_code 42 = .ok (.iload_n 1, 1) := by decide +kernel
theorem nd_MO_open_43 : decode prog_8_method_12_code 43 = .ok (.iaload, 1) := by decide +kernel
theorem nd_MO_open_44 : decode prog_8_method_12_code 44 = .ok (.invokevirtual 106, 3) := by decide +kernel
theorem nd_MO_open_47 : decode prog_8_method_12_code 47 = .ok (.ifCond .ne 7, 3) := by decide +kernel
theorem nd_MO_open_50 : decode prog_8_method_12_code 50 = .ok (.iload_n 2, 1) := by decide +kernel
theorem nd_MO_open_51 : decode prog_8_method_12_code 51 = .ok (.ifCond .eq 7, 3) := by decide +kernel
theorem nd_MO_open_54 : decode prog_8_method_12_code 54 = .ok (.iconst 1, 1) := by decide +kernel
theorem nd_MO_open_55 : decode prog_8_method_12_code 55 = .ok (.goto 4, 3) := by decide +kernel
theorem nd_MO_open_58 : decode prog_8_method_12_code 58 = .ok (.iconst 0, 1) := by decide +kernel
theorem nd_MO_open_59 : decode prog_8_method_12_code 59 = .ok (.istore_n 2, 1) := by decide +kernel
theorem nd_MO_open_60 : decode prog_8_method_12_code 60 = .ok (.aload_n 0, 1) := by decide +kernel
theorem nd_MO_open_61 : decode prog_8_method_12_code 61 = .ok (.getfield 13, 3) := by decide +kernel
theorem nd_MO_open_64 : decode prog_8_method_12_code 64 = .ok (.iload_n 1, 1) := by decide +kernel
theorem nd_MO_open_65 : decode prog_8_method_12_code 65 = .ok (.baload, 1) := by decide +kernel
theorem nd_MO_open_66 : decode prog_8_method_12_code 66 = .ok (.bipush 6, 2) := by decide +kernel
theorem nd_MO_open_68 : decode prog_8_method_12_code 68 = .ok (.if_icmp .ne 37, 3) := by decide +kernel
theorem nd_MO_open_71 : decode prog_8_method_12_code 71 = .ok (.aload_n 0, 1) := by decide +kernel
theorem nd_MO_open_72 : decode prog_8_method_12_code 72 = .ok (.aload_n 0, 1) := by decide +kernel
theorem nd_MO_open_73 : decode prog_8_method_12_code 73 = .ok (.getfield 21, 3) := by decide +kernel
theorem nd_MO_open_76 : decode prog_8_method_12_code 76 = .ok (.iload_n 1, 1) := by decide +kernel
theorem nd_MO_open_77 : decode prog_8_method_12_code 77 = .ok (.iaload, 1) := by decide +kernel
theorem nd_MO_open_78 : decode prog_8_method_12_code 78 = .ok (.invokevirtual 106, 3) := by decide +kernel
theorem nd_MO_open_81 : decode prog_8_method_12_code 81 = .ok (.istore_n 2, 1) := by decide +kernel
theorem nd_MO_open_82 : decode prog_8_method_12_code 82 = .ok (.aload_n 0, 1) := by decide +kernel
theorem nd_MO_open_83 : decode prog_8_method_12_code 83 = .ok (.aload_n 0, 1) := by decide +kernel
theorem nd_MO_open_84 : decode prog_8_method_12_code 84 = .ok (.getfield 24, 3) := by decide +kernel
theorem nd_MO_open_87 : decode prog_8_method_12_code 87 = .ok (.iload_n 1, 1) := by decide +kernel
theorem nd_MO_open_88 : decode prog_8_method_12_code 88 = .ok (.iaload, 1) := by decide +kernel
theorem nd_MO_open_89 : decode prog_8_method_12_code 89 = .ok (.invokevirtual 106, 3) := by decide +kernel
theorem nd_MO_open_92 : decode prog_8_method_12_code 92 = .ok (.ifCond .ne 7, 3) := by decide +kernel
theorem nd_MO_open_95 : decode prog_8_method_12_code 95 = .ok (.iload_n 2, 1) := by decide +kernel
theorem nd_MO_open_96 : decode prog_8_method_12_code 96 = .ok (.ifCond .eq 7, 3) := by decide +kernel
theorem nd_MO_open_99 : decode prog_8_method_12_code 99 = .ok (.iconst 1, 1) := by decide +kernel
theorem nd_MO_open_100 : decode prog_8_method_12_code 100 = .ok (.goto 4, 3) := by decide +kernel
theorem nd_MO_open_103 : decode prog_8_method_12_code 103 = .ok (.iconst 0, 1) := by decide +kernel
theorem nd_MO_open_104 : decode prog_8_method_12_code 104 = .ok (.istore_n 2, 1) := by decide +kernel
theorem nd_MO_open_105 : decode prog_8_method_12_code 105 = .ok (.iload_n 2, 1) := by decide +kernel
theorem nd_MO_open_106 : decode prog_8_method_12_code 106 = .ok (.ireturn, 1) := by decide +kernel
theorem nd_MO_opens_0 : decode prog_8_method_27_code 0 = .ok (.iload_n 1, 1) := by decide +kernel
theorem nd_MO_opens_1 : decode prog_8_method_27_code 1 = .ok (.ifCond .lt 11, 3) := by decide +kernel
theorem nd_MO_opens_4 : decode prog_8_method_27_code 4 = .ok (.iload_n 1, 1) := by decide +kernel
theorem nd_MO_opens_5 : decode prog_8_method_27_code 5 = .ok (.aload_n 0, 1) := by decide +kernel
theorem nd_MO_opens_6 : decode prog_8_method_27_code 6 = .ok (.getfield 128, 3) := by decide +kernel
theorem nd_MO_opens_9 : decode prog_8_method_27_code 9 = .ok (.if_icmp .lt 5, 3) := by decide +kernel
theorem nd_MO_opens_12 : decode prog_8_method_27_code 12 = .ok (.iconst (-1), 1) := by decide +kernel
theorem nd_MO_opens_13 : decode prog_8_method_27_code 13 = .ok (.ireturn, 1) := by decide +kernel
theorem nd_MO_opens_14 : decode prog_8_method_27_code 14 = .ok (.aload_n 0, 1) := by decide +kernel
theorem nd_MO_opens_15 : decode prog_8_method_27_code 15 = .ok (.iconst 1, 1) := by decide +kernel
theorem nd_MO_opens_16 : decode prog_8_method_27_code 16 = .ok (.putfield 38, 3) := by decide +kernel
theorem nd_MO_opens_19 : decode prog_8_method_27_code 19 = .ok (.aload_n 0, 1) := by decide +kernel
theorem nd_MO_opens_20 : decode prog_8_method_27_code 20 = .ok (.invokevirtual 155, 3) := by decide +kernel
theorem nd_MO_opens_23 : decode prog_8_method_27_code 23 = .ok (.aload_n 0, 1) := by decide +kernel
theorem nd_MO_opens_24 : decode prog_8_method_27_code 24 = .ok (.getfield 31, 3) := by decide +kernel
theorem nd_MO_opens_27 : decode prog_8_method_27_code 27 = .ok (.aload_n 0, 1) := by decide +kernel
theorem nd_MO_opens_28 : decode prog_8_method_27_code 28 = .ok (.getfield 17, 3) := by decide +kernel
theorem nd_MO_opens_31 : decode prog_8_method_27_code 31 = .ok (.aload_n 0, 1) := by decide +kernel
theorem nd_MO_opens_32 : decode prog_8_method_27_code 32 = .ok (.getfield 54, 3) := by decide +kernel
theorem nd_MO_opens_35 : decode prog_8_method_27_code 35 = .ok (.iload_n 1, 1) := by decide +kernel
theorem nd_MO_opens_36 : decode prog_8_method_27_code 36 = .ok (.iaload, 1) := by decide +kernel
theorem nd_MO_opens_37 : decode prog_8_method_27_code 37 = .ok (.iaload, 1) := by decide +kernel
theorem nd_MO_opens_38 : decode prog_8_method_27_code 38 = .ok (.baload, 1) := by decide +kernel
theorem nd_MO_opens_39 : decode prog_8_method_27_code 39 = .ok (.ifCond .eq 7, 3) := by decide +kernel
theorem nd_MO_opens_42 : decode prog_8_method_27_code 42 = .ok (.iconst 1, 1) := by decide +kernel
theorem nd_MO_opens_43 : decode prog_8_method_27_code 43 = .ok (.goto 4, 3) := by decide +kernel
theorem nd_MO_opens_46 : decode prog_8_method_27_code 46 = .ok (.iconst 0, 1) := by decide +kernel
theorem nd_MO_opens_47 : decode prog_8_method_27_code 47 = .ok (.ireturn, 1) := by decide +kernel
theorem nd_MO_back_0 : decode prog_8_method_28_code 0 = .ok (.iload_n 1, 1) := by decide +kernel
theorem nd_MO_back_1 : decode prog_8_method_28_code 1 = .ok (.invokestatic 115, 3) := by decide +kernel
theorem nd_MO_back_4 : decode prog_8_method_28_code 4 = .ok (.ifCond .ne 5, 3) := by decide +kernel
theorem nd_MO_back_7 : decode prog_8_method_28_code 7 = .ok (.iconst (-1), 1) := by decide +kernel
theorem nd_MO_back_8 : decode prog_8_method_28_code 8 = .ok (.ireturn, 1) := by decide +kernel
theorem nd_MO_back_9 : decode prog_8_method_28_code 9 = .ok (.iconst 0, 1) := by decide +kernel
theorem nd_MO_back_10 : decode prog_8_method_28_code 10 = .ok (.istore_n 2, 1) := by decide +kernel
theorem nd_MO_back_11 : decode prog_8_method_28_code 11 = .ok (.iload_n 2, 1) := by decide +kernel
theorem nd_MO_back_12 : decode prog_8_method_28_code 12 = .ok (.bipush 33, 2) := by decide +kernel
theorem nd_MO_back_14 : decode prog_8_method_28_code 14 = .ok (.if_icmp .ge 31, 3) := by decide +kernel
theorem nd_MO_back_17 : decode prog_8_method_28_code 17 = .ok (.aload_n 0, 1) := by decide +kernel
theorem nd_MO_back_18 : decode prog_8_method_28_code 18 = .ok (.getfield 60, 3) := by decide +kernel
theorem nd_MO_back_21 : decode prog_8_method_28_code 21 = .ok (.bipush 33, 2) := by decide +kernel
theorem nd_MO_back_23 : decode prog_8_method_28_code 23 = .ok (.iload_n 1, 1) := by decide +kernel
theorem nd_MO_back_24 : decode prog_8_method_28_code 24 = .ok (.imul, 1) := by decide +kernel
theorem nd_MO_back_25 : decode prog_8_method_28_code 25 = .ok (.iload_n 2, 1) := by decide +kernel
theorem nd_MO_back_26 : decode prog_8_method_28_code 26 = .ok (.iadd, 1) := by decide +kernel
theorem nd_MO_back_27 : decode prog_8_method_28_code 27 = .ok (.aload_n 0, 1) := by decide +kernel
theorem nd_MO_back_28 : decode prog_8_method_28_code 28 = .ok (.getfield 63, 3) := by decide +kernel
theorem nd_MO_back_31 : decode prog_8_method_28_code 31 = .ok (.bipush 33, 2) := by decide +kernel
theorem nd_MO_back_33 : decode prog_8_method_28_code 33 = .ok (.iload_n 1, 1) := by decide +kernel
theorem nd_MO_back_34 : decode prog_8_method_28_code 34 = .ok (.imul, 1) := by decide +kernel
theorem nd_MO_back_35 : decode prog_8_method_28_code 35 = .ok (.iload_n 2, 1) := by decide +kernel
theorem nd_MO_back_36 : decode prog_8_method_28_code 36 = .ok (.iadd, 1) := by decide +kernel
theorem nd_MO_back_37 : decode prog_8_method_28_code 37 = .ok (.iaload, 1) := by decide +kernel
theorem nd_MO_back_38 : decode prog_8_method_28_code 38 = .ok (.iastore, 1) := by decide +kernel
theorem nd_MO_back_39 : decode prog_8_method_28_code 39 = .ok (.iinc 2 1, 3) := by decide +kernel
theorem nd_MO_back_42 : decode prog_8_method_28_code 42 = .ok (.goto (-31), 3) := by decide +kernel
theorem nd_MO_back_45 : decode prog_8_method_28_code 45 = .ok (.iconst 1, 1) := by decide +kernel
theorem nd_MO_back_46 : decode prog_8_method_28_code 46 = .ok (.ireturn, 1) := by decide +kernel
theorem nd_MO_keep_0 : decode prog_8_method_29_code 0 = .ok (.iload_n 1, 1) := by decide +kernel
theorem nd_MO_keep_1 : decode prog_8_method_29_code 1 = .ok (.invokestatic 115, 3) := by decide +kernel
theorem nd_MO_keep_4 : decode prog_8_method_29_code 4 = .ok (.ifCond .ne 5, 3) := by decide +kernel
theorem nd_MO_keep_7 : decode prog_8_method_29_code 7 = .ok (.iconst (-1), 1) := by decide +kernel
theorem nd_MO_keep_8 : decode prog_8_method_29_code 8 = .ok (.ireturn, 1) := by decide +kernel
theorem nd_MO_keep_9 : decode prog_8_method_29_code 9 = .ok (.iconst 0, 1) := by decide +kernel
theorem nd_MO_keep_10 : decode prog_8_method_29_code 10 = .ok (.istore_n 2, 1) := by decide +kernel
theorem nd_MO_keep_11 : decode prog_8_method_29_code 11 = .ok (.iload_n 2, 1) := by decide +kernel
theorem nd_MO_keep_12 : decode prog_8_method_29_code 12 = .ok (.bipush 33, 2) := by decide +kernel
theorem nd_MO_keep_14 : decode prog_8_method_29_code 14 = .ok (.if_icmp .ge 31, 3) := by decide +kernel
theorem nd_MO_keep_17 : decode prog_8_method_29_code 17 = .ok (.aload_n 0, 1) := by decide +kernel
theorem nd_MO_keep_18 : decode prog_8_method_29_code 18 = .ok (.getfield 63, 3) := by decide +kernel
theorem nd_MO_keep_21 : decode prog_8_method_29_code 21 = .ok (.bipush 33, 2) := by decide +kernel
theorem nd_MO_keep_23 : decode prog_8_method_29_code 23 = .ok (.iload_n 1, 1) := by decide +kernel
theorem nd_MO_keep_24 : decode prog_8_method_29_code 24 = .ok (.imul, 1) := by decide +kernel
theorem nd_MO_keep_25 : decode prog_8_method_29_code 25 = .ok (.iload_n 2, 1) := by decide +kernel
theorem nd_MO_keep_26 : decode prog_8_method_29_code 26 = .ok (.iadd, 1) := by decide +kernel
theorem nd_MO_keep_27 : decode prog_8_method_29_code 27 = .ok (.aload_n 0, 1) := by decide +kernel
theorem nd_MO_keep_28 : decode prog_8_method_29_code 28 = .ok (.getfield 60, 3) := by decide +kernel
theorem nd_MO_keep_31 : decode prog_8_method_29_code 31 = .ok (.bipush 33, 2) := by decide +kernel
theorem nd_MO_keep_33 : decode prog_8_method_29_code 33 = .ok (.iload_n 1, 1) := by decide +kernel
theorem nd_MO_keep_34 : decode prog_8_method_29_code 34 = .ok (.imul, 1) := by decide +kernel
theorem nd_MO_keep_35 : decode prog_8_method_29_code 35 = .ok (.iload_n 2, 1) := by decide +kernel
theorem nd_MO_keep_36 : decode prog_8_method_29_code 36 = .ok (.iadd, 1) := by decide +kernel
theorem nd_MO_keep_37 : decode prog_8_method_29_code 37 = .ok (.iaload, 1) := by decide +kernel
theorem nd_MO_keep_38 : decode prog_8_method_29_code 38 = .ok (.iastore, 1) := by decide +kernel
theorem nd_MO_keep_39 : decode prog_8_method_29_code 39 = .ok (.iinc 2 1, 3) := by decide +kernel
theorem nd_MO_keep_42 : decode prog_8_method_29_code 42 = .ok (.goto (-31), 3) := by decide +kernel
theorem nd_MO_keep_45 : decode prog_8_method_29_code 45 = .ok (.iconst 1, 1) := by decide +kernel
theorem nd_MO_keep_46 : decode prog_8_method_29_code 46 = .ok (.ireturn, 1) := by decide +kernel
theorem nd_MO_end_0 : decode prog_8_method_30_code 0 = .ok (.iload_n 1, 1) := by decide +kernel
theorem nd_MO_end_1 : decode prog_8_method_30_code 1 = .ok (.invokestatic 115, 3) := by decide +kernel
theorem nd_MO_end_4 : decode prog_8_method_30_code 4 = .ok (.ifCond .ne 5, 3) := by decide +kernel
theorem nd_MO_end_7 : decode prog_8_method_30_code 7 = .ok (.iconst (-1), 1) := by decide +kernel
theorem nd_MO_end_8 : decode prog_8_method_30_code 8 = .ok (.ireturn, 1) := by decide +kernel
theorem nd_MO_end_9 : decode prog_8_method_30_code 9 = .ok (.aload_n 0, 1) := by decide +kernel
theorem nd_MO_end_10 : decode prog_8_method_30_code 10 = .ok (.iload_n 1, 1) := by decide +kernel
theorem nd_MO_end_11 : decode prog_8_method_30_code 11 = .ok (.invokevirtual 118, 3) := by decide +kernel
theorem nd_MO_end_14 : decode prog_8_method_30_code 14 = .ok (.iload_n 2, 1) := by decide +kernel
theorem nd_MO_end_15 : decode prog_8_method_30_code 15 = .ok (.tableswitch 117 0 6 #[41, 48, 55, 63, 71, 86, 101], 41) := by decide +kernel
theorem nd_MO_end_56 : decode prog_8_method_30_code 56 = .ok (.aload_n 0, 1) := by decide +kernel
theorem nd_MO_end_57 : decode prog_8_method_30_code 57 = .ok (.getfield 66, 3) := by decide +kernel
theorem nd_MO_end_60 : decode prog_8_method_30_code 60 = .ok (.iconst 4, 1) := by decide +kernel
theorem nd_MO_end_61 : decode prog_8_method_30_code 61 = .ok (.iaload, 1) := by decide +kernel
theorem nd_MO_end_62 : decode prog_8_method_30_code 62 = .ok (.ireturn, 1) := by decide +kernel
theorem nd_MO_end_63 : decode prog_8_method_30_code 63 = .ok (.aload_n 0, 1) := by decide +kernel
theorem nd_MO_end_64 : decode prog_8_method_30_code 64 = .ok (.getfield 66, 3) := by decide +kernel
theorem nd_MO_end_67 : decode prog_8_method_30_code 67 = .ok (.iconst 5, 1) := by decide +kernel
theorem nd_MO_end_68 : decode prog_8_method_30_code 68 = .ok (.iaload, 1) := by decide +kernel
theorem nd_MO_end_69 : decode prog_8_method_30_code 69 = .ok (.ireturn, 1) := by decide +kernel
theorem nd_MO_end_70 : decode prog_8_method_30_code 70 = .ok (.aload_n 0, 1) := by decide +kernel
theorem nd_MO_end_71 : decode prog_8_method_30_code 71 = .ok (.getfield 66, 3) := by decide +kernel
theorem nd_MO_end_74 : decode prog_8_method_30_code 74 = .ok (.bipush 7, 2) := by decide +kernel
theorem nd_MO_end_76 : decode prog_8_method_30_code 76 = .ok (.iaload, 1) := by decide +kernel
theorem nd_MO_end_77 : decode prog_8_method_30_code 77 = .ok (.ireturn, 1) := by decide +kernel
theorem nd_MO_end_78 : decode prog_8_method_30_code 78 = .ok (.aload_n 0, 1) := by decide +kernel
theorem nd_MO_end_79 : decode prog_8_method_30_code 79 = .ok (.getfield 66, 3) := by decide +kernel
theorem nd_MO_end_82 : decode prog_8_method_30_code 82 = .ok (.bipush 8, 2) := by decide +kernel
theorem nd_MO_end_84 : decode prog_8_method_30_code 84 = .ok (.iaload, 1) := by decide +kernel
theorem nd_MO_end_85 : decode prog_8_method_30_code 85 = .ok (.ireturn, 1) := by decide +kernel
theorem nd_MO_end_86 : decode prog_8_method_30_code 86 = .ok (.aload_n 0, 1) := by decide +kernel
theorem nd_MO_end_87 : decode prog_8_method_30_code 87 = .ok (.getfield 66, 3) := by decide +kernel
theorem nd_MO_end_90 : decode prog_8_method_30_code 90 = .ok (.iconst 2, 1) := by decide +kernel
theorem nd_MO_end_91 : decode prog_8_method_30_code 91 = .ok (.iaload, 1) := by decide +kernel
theorem nd_MO_end_92 : decode prog_8_method_30_code 92 = .ok (.ifCond .eq 7, 3) := by decide +kernel
theorem nd_MO_end_95 : decode prog_8_method_30_code 95 = .ok (.iconst 1, 1) := by decide +kernel
theorem nd_MO_end_96 : decode prog_8_method_30_code 96 = .ok (.goto 4, 3) := by decide +kernel
theorem nd_MO_end_99 : decode prog_8_method_30_code 99 = .ok (.iconst 0, 1) := by decide +kernel
theorem nd_MO_end_100 : decode prog_8_method_30_code 100 = .ok (.ireturn, 1) := by decide +kernel
theorem nd_MO_end_101 : decode prog_8_method_30_code 101 = .ok (.aload_n 0, 1) := by decide +kernel
theorem nd_MO_end_102 : decode prog_8_method_30_code 102 = .ok (.getfield 66, 3) := by decide +kernel
theorem nd_MO_end_105 : decode prog_8_method_30_code 105 = .ok (.iconst 3, 1) := by decide +kernel
theorem nd_MO_end_106 : decode prog_8_method_30_code 106 = .ok (.iaload, 1) := by decide +kernel
theorem nd_MO_end_107 : decode prog_8_method_30_code 107 = .ok (.ifCond .eq 7, 3) := by decide +kernel
theorem nd_MO_end_110 : decode prog_8_method_30_code 110 = .ok (.iconst 1, 1) := by decide +kernel
theorem nd_MO_end_111 : decode prog_8_method_30_code 111 = .ok (.goto 4, 3) := by decide +kernel
theorem nd_MO_end_114 : decode prog_8_method_30_code 114 = .ok (.iconst 0, 1) := by decide +kernel
theorem nd_MO_end_115 : decode prog_8_method_30_code 115 = .ok (.ireturn, 1) := by decide +kernel
theorem nd_MO_end_116 : decode prog_8_method_30_code 116 = .ok (.aload_n 0, 1) := by decide +kernel
theorem nd_MO_end_117 : decode prog_8_method_30_code 117 = .ok (.getfield 66, 3) := by decide +kernel
theorem nd_MO_end_120 : decode prog_8_method_30_code 120 = .ok (.bipush 6, 2) := by decide +kernel
theorem nd_MO_end_122 : decode prog_8_method_30_code 122 = .ok (.iaload, 1) := by decide +kernel
theorem nd_MO_end_123 : decode prog_8_method_30_code 123 = .ok (.ifCond .eq 7, 3) := by decide +kernel
theorem nd_MO_end_126 : decode prog_8_method_30_code 126 = .ok (.iconst 1, 1) := by decide +kernel
theorem nd_MO_end_127 : decode prog_8_method_30_code 127 = .ok (.goto 4, 3) := by decide +kernel
theorem nd_MO_end_130 : decode prog_8_method_30_code 130 = .ok (.iconst 0, 1) := by decide +kernel
theorem nd_MO_end_131 : decode prog_8_method_30_code 131 = .ok (.ireturn, 1) := by decide +kernel
theorem nd_MO_end_132 : decode prog_8_method_30_code 132 = .ok (.iconst (-1), 1) := by decide +kernel
theorem nd_MO_end_133 : decode prog_8_method_30_code 133 = .ok (.ireturn, 1) := by decide +kernel
theorem nd_MO_agree_0 : decode prog_8_method_31_code 0 = .ok (.aload_n 0, 1) := by decide +kernel
theorem nd_MO_agree_1 : decode prog_8_method_31_code 1 = .ok (.getfield 60, 3) := by decide +kernel
theorem nd_MO_agree_4 : decode prog_8_method_31_code 4 = .ok (.iconst 0, 1) := by decide +kernel
theorem nd_MO_agree_5 : decode prog_8_method_31_code 5 = .ok (.iaload, 1) := by decide +kernel
theorem nd_MO_agree_6 : decode prog_8_method_31_code 6 = .ok (.aload_n 0, 1) := by decide +kernel
theorem nd_MO_agree_7 : decode prog_8_method_31_code 7 = .ok (.getfield 60, 3) := by decide +kernel
theorem nd_MO_agree_10 : decode prog_8_method_31_code 10 = .ok (.bipush 33, 2) := by decide +kernel
theorem nd_MO_agree_12 : decode prog_8_method_31_code 12 = .ok (.iaload, 1) := by decide +kernel
theorem nd_MO_agree_13 : decode prog_8_method_31_code 13 = .ok (.if_icmp .ne 7, 3) := by decide +kernel
theorem nd_MO_agree_16 : decode prog_8_method_31_code 16 = .ok (.iconst 1, 1) := by decide +kernel
theorem nd_MO_agree_17 : decode prog_8_method_31_code 17 = .ok (.goto 4, 3) := by decide +kernel
theorem nd_MO_agree_20 : decode prog_8_method_31_code 20 = .ok (.iconst 0, 1) := by decide +kernel
theorem nd_MO_agree_21 : decode prog_8_method_31_code 21 = .ok (.ireturn, 1) := by decide +kernel
theorem nd_MO_count_0 : decode prog_8_method_32_code 0 = .ok (.iload_n 1, 1) := by decide +kernel
theorem nd_MO_count_1 : decode prog_8_method_32_code 1 = .ok (.ifCond .ne 10, 3) := by decide +kernel
theorem nd_MO_count_4 : decode prog_8_method_32_code 4 = .ok (.aload_n 0, 1) := by decide +kernel
theorem nd_MO_count_5 : decode prog_8_method_32_code 5 = .ok (.getfield 128, 3) := by decide +kernel
theorem nd_MO_count_8 : decode prog_8_method_32_code 8 = .ok (.goto 16, 3) := by decide +kernel
theorem nd_MO_count_11 : decode prog_8_method_32_code 11 = .ok (.iload_n 1, 1) := by decide +kernel
theorem nd_MO_count_12 : decode prog_8_method_32_code 12 = .ok (.iconst 1, 1) := by decide +kernel
theorem nd_MO_count_13 : decode prog_8_method_32_code 13 = .ok (.if_icmp .ne 10, 3) := by decide +kernel
theorem nd_MO_count_16 : decode prog_8_method_32_code 16 = .ok (.aload_n 0, 1) := by decide +kernel
theorem nd_MO_count_17 : decode prog_8_method_32_code 17 = .ok (.getfield 92, 3) := by decide +kernel
theorem nd_MO_count_20 : decode prog_8_method_32_code 20 = .ok (.goto 4, 3) := by decide +kernel
theorem nd_MO_count_23 : decode prog_8_method_32_code 23 = .ok (.iconst (-1), 1) := by decide +kernel
theorem nd_MO_count_24 : decode prog_8_method_32_code 24 = .ok (.ireturn, 1) := by decide +kernel
end
section
/-! DECODE ROWS, by program -/
theorem nd_LA_law_0 : decode code 0 = .ok (.new 7, 3) := by decide +kernel
theorem nd_LA_law_3 : decode code 3 = .ok (.dup, 1) := by decide +kernel
theorem nd_LA_law_4 : decode code 4 = .ok (.invokespecial 9, 3) := by decide +kernel
theorem nd_LA_law_7 : decode code 7 = .ok (.astore_n 1, 1) := by decide +kernel
theorem nd_LA_law_8 : decode code 8 = .ok (.new 10, 3) := by decide +kernel
theorem nd_LA_law_11 : decode code 11 = .ok (.dup, 1) := by decide +kernel
theorem nd_LA_law_12 : decode code 12 = .ok (.invokespecial 12, 3) := by decide +kernel
theorem nd_LA_law_15 : decode code 15 = .ok (.astore_n 2, 1) := by decide +kernel
theorem nd_LA_law_16 : decode code 16 = .ok (.iconst 0, 1) := by decide +kernel
theorem nd_LA_law_17 : decode code 17 = .ok (.istore_n 3, 1) := by decide +kernel
theorem nd_LA_law_18 : decode code 18 = .ok (.iload_n 3, 1) := by decide +kernel
theorem nd_LA_law_19 : decode code 19 = .ok (.aload_n 0, 1) := by decide +kernel
theorem nd_LA_law_20 : decode code 20 = .ok (.arraylength, 1) := by decide +kernel
theorem nd_LA_law_21 : decode code 21 = .ok (.iconst 3, 1) := by decide +kernel
theorem nd_LA_law_22 : decode code 22 = .ok (.isub, 1) := by decide +kernel
theorem nd_LA_law_23 : decode code 23 = .ok (.if_icmp .gt 311, 3) := by decide +kernel
theorem nd_LA_law_26 : decode code 26 = .ok (.aload_n 0, 1) := by decide +kernel
theorem nd_LA_law_27 : decode code 27 = .ok (.iload_n 3, 1) := by decide +kernel
theorem nd_LA_law_28 : decode code 28 = .ok (.iaload, 1) := by decide +kernel
theorem nd_LA_law_29 : decode code 29 = .ok (.bipush 15, 2) := by decide +kernel
theorem nd_LA_law_31 : decode code 31 = .ok (.iand, 1) := by decide +kernel
theorem nd_LA_law_32 : decode code 32 = .ok (.tableswitch 296 0 9 #[56, 79, 112, 135, 158, 181, 204, 227, 260, 273], 56) := by decide +kernel
theorem nd_LA_law_88 : decode code 88 = .ok (.aload_n 1, 1) := by decide +kernel
theorem nd_LA_law_89 : decode code 89 = .ok (.aload_n 0, 1) := by decide +kernel
theorem nd_LA_law_90 : decode code 90 = .ok (.iload_n 3, 1) := by decide +kernel
theorem nd_LA_law_91 : decode code 91 = .ok (.iconst 1, 1) := by decide +kernel
theorem nd_LA_law_92 : decode code 92 = .ok (.iadd, 1) := by decide +kernel
theorem nd_LA_law_93 : decode code 93 = .ok (.iaload, 1) := by decide +kernel
theorem nd_LA_law_94 : decode code 94 = .ok (.invokevirtual 13, 3) := by decide +kernel
theorem nd_LA_law_97 : decode code 97 = .ok (.aload_n 2, 1) := by decide +kernel
theorem nd_LA_law_98 : decode code 98 = .ok (.aload_n 0, 1) := by decide +kernel
theorem nd_LA_law_99 : decode code 99 = .ok (.iload_n 3, 1) := by decide +kernel
theorem nd_LA_law_100 : decode code 100 = .ok (.iconst 1, 1) := by decide +kernel
theorem nd_LA_law_101 : decode code 101 = .ok (.iadd, 1) := by decide +kernel
theorem nd_LA_law_102 : decode code 102 = .ok (.iaload, 1) := by decide +kernel
theorem nd_LA_law_103 : decode code 103 = .ok (.invokevirtual 17, 3) := by decide +kernel
theorem nd_LA_law_106 : decode code 106 = .ok (.if_icmp .eq 222, 3) := by decide +kernel
theorem nd_LA_law_109 : decode code 109 = .ok (.iconst 0, 1) := by decide +kernel
theorem nd_LA_law_110 : decode code 110 = .ok (.ireturn, 1) := by decide +kernel
theorem nd_LA_law_111 : decode code 111 = .ok (.aload_n 1, 1) := by decide +kernel
theorem nd_LA_law_112 : decode code 112 = .ok (.aload_n 0, 1) := by decide +kernel
theorem nd_LA_law_113 : decode code 113 = .ok (.iload_n 3, 1) := by decide +kernel
theorem nd_LA_law_114 : decode code 114 = .ok (.iconst 1, 1) := by decide +kernel
theorem nd_LA_law_115 : decode code 115 = .ok (.iadd, 1) := by decide +kernel
theorem nd_LA_law_116 : decode code 116 = .ok (.iaload, 1) := by decide +kernel
theorem nd_LA_law_117 : decode code 117 = .ok (.aload_n 0, 1) := by decide +kernel
theorem nd_LA_law_118 : decode code 118 = .ok (.iload_n 3, 1) := by decide +kernel
theorem nd_LA_law_119 : decode code 119 = .ok (.iconst 2, 1) := by decide +kernel
theorem nd_LA_law_120 : decode code 120 = .ok (.iadd, 1) := by decide +kernel
theorem nd_LA_law_121 : decode code 121 = .ok (.iaload, 1) := by decide +kernel
theorem nd_LA_law_122 : decode code 122 = .ok (.invokevirtual 18, 3) := by decide +kernel
theorem nd_LA_law_125 : decode code 125 = .ok (.aload_n 2, 1) := by decide +kernel
theorem nd_LA_law_126 : decode code 126 = .ok (.aload_n 0, 1) := by decide +kernel
theorem nd_LA_law_127 : decode code 127 = .ok (.iload_n 3, 1) := by decide +kernel
theorem nd_LA_law_128 : decode code 128 = .ok (.iconst 1, 1) := by decide +kernel
theorem nd_LA_law_129 : decode code 129 = .ok (.iadd, 1) := by decide +kernel
theorem nd_LA_law_130 : decode code 130 = .ok (.iaload, 1) := by decide +kernel
theorem nd_LA_law_131 : decode code 131 = .ok (.aload_n 0, 1) := by decide +kernel
theorem nd_LA_law_132 : decode code 132 = .ok (.iload_n 3, 1) := by decide +kernel
theorem nd_LA_law_133 : decode code 133 = .ok (.iconst 2, 1) := by decide +kernel
theorem nd_LA_law_134 : decode code 134 = .ok (.iadd, 1) := by decide +kernel
theorem nd_LA_law_135 : decode code 135 = .ok (.iaload, 1) := by decide +kernel
theorem nd_LA_law_136 : decode code 136 = .ok (.invokevirtual 22, 3) := by decide +kernel
theorem nd_LA_law_139 : decode code 139 = .ok (.if_icmp .eq 189, 3) := by decide +kernel
theorem nd_LA_law_142 : decode code 142 = .ok (.iconst 0, 1) := by decide +kernel
theorem nd_LA_law_143 : decode code 143 = .ok (.ireturn, 1) := by decide +kernel
theorem nd_LA_law_144 : decode code 144 = .ok (.aload_n 1, 1) := by decide +kernel
theorem nd_LA_law_145 : decode code 145 = .ok (.aload_n 0, 1) := by decide +kernel
theorem nd_LA_law_146 : decode code 146 = .ok (.iload_n 3, 1) := by decide +kernel
theorem nd_LA_law_147 : decode code 147 = .ok (.iconst 1, 1) := by decide +kernel
theorem nd_LA_law_148 : decode code 148 = .ok (.iadd, 1) := by decide +kernel
theorem nd_LA_law_149 : decode code 149 = .ok (.iaload, 1) := by decide +kernel
theorem nd_LA_law_150 : decode code 150 = .ok (.invokevirtual 23, 3) := by decide +kernel
theorem nd_LA_law_153 : decode code 153 = .ok (.aload_n 2, 1) := by decide +kernel
theorem nd_LA_law_154 : decode code 154 = .ok (.aload_n 0, 1) := by decide +kernel
theorem nd_LA_law_155 : decode code 155 = .ok (.iload_n 3, 1) := by decide +kernel
theorem nd_LA_law_156 : decode code 156 = .ok (.iconst 1, 1) := by decide +kernel
theorem nd_LA_law_157 : decode code 157 = .ok (.iadd, 1) := by decide +kernel
theorem nd_LA_law_158 : decode code 158 = .ok (.iaload, 1) := by decide +kernel
theorem nd_LA_law_159 : decode code 159 = .ok (.invokevirtual 26, 3) := by decide +kernel
theorem nd_LA_law_162 : decode code 162 = .ok (.if_icmp .eq 166, 3) := by decide +kernel
theorem nd_LA_law_165 : decode code 165 = .ok (.iconst 0, 1) := by decide +kernel
theorem nd_LA_law_166 : decode code 166 = .ok (.ireturn, 1) := by decide +kernel
theorem nd_LA_law_167 : decode code 167 = .ok (.aload_n 1, 1) := by decide +kernel
theorem nd_LA_law_168 : decode code 168 = .ok (.aload_n 0, 1) := by decide +kernel
theorem nd_LA_law_169 : decode code 169 = .ok (.iload_n 3, 1) := by decide +kernel
theorem nd_LA_law_170 : decode code 170 = .ok (.iconst 1, 1) := by decide +kernel
theorem nd_LA_law_171 : decode code 171 = .ok (.iadd, 1) := by decide +kernel
theorem nd_LA_law_172 : decode code 172 = .ok (.iaload, 1) := by decide +kernel
theorem nd_LA_law_173 : decode code 173 = .ok (.invokevirtual 27, 3) := by decide +kernel
theorem nd_LA_law_176 : decode code 176 = .ok (.aload_n 2, 1) := by decide +kernel
theorem nd_LA_law_177 : decode code 177 = .ok (.aload_n 0, 1) := by decide +kernel
theorem nd_LA_law_178 : decode code 178 = .ok (.iload_n 3, 1) := by decide +kernel
theorem nd_LA_law_179 : decode code 179 = .ok (.iconst 1, 1) := by decide +kernel
theorem nd_LA_law_180 : decode code 180 = .ok (.iadd, 1) := by decide +kernel
theorem nd_LA_law_181 : decode code 181 = .ok (.iaload, 1) := by decide +kernel
theorem nd_LA_law_182 : decode code 182 = .ok (.invokevirtual 30, 3) := by decide +kernel
theorem nd_LA_law_185 : decode code 185 = .ok (.if_icmp .eq 143, 3) := by decide +kernel
theorem nd_LA_law_188 : decode code 188 = .ok (.iconst 0, 1) := by decide +kernel
theorem nd_LA_law_189 : decode code 189 = .ok (.ireturn, 1) := by decide +kernel
theorem nd_LA_law_190 : decode code 190 = .ok (.aload_n 1, 1) := by decide +kernel
theorem nd_LA_law_191 : decode code 191 = .ok (.aload_n 0, 1) := by decide +kernel
theorem nd_LA_law_192 : decode code 192 = .ok (.iload_n 3, 1) := by decide +kernel
theorem nd_LA_law_193 : decode code 193 = .ok (.iconst 1, 1) := by decide +kernel
theorem nd_LA_law_194 : decode code 194 = .ok (.iadd, 1) := by decide +kernel
theorem nd_LA_law_195 : decode code 195 = .ok (.iaload, 1) := by decide +kernel
theorem nd_LA_law_196 : decode code 196 = .ok (.invokevirtual 31, 3) := by decide +kernel
theorem nd_LA_law_199 : decode code 199 = .ok (.aload_n 2, 1) := by decide +kernel
theorem nd_LA_law_200 : decode code 200 = .ok (.aload_n 0, 1) := by decide +kernel
theorem nd_LA_law_201 : decode code 201 = .ok (.iload_n 3, 1) := by decide +kernel
theorem nd_LA_law_202 : decode code 202 = .ok (.iconst 1, 1) := by decide +kernel
theorem nd_LA_law_203 : decode code 203 = .ok (.iadd, 1) := by decide +kernel
theorem nd_LA_law_204 : decode code 204 = .ok (.iaload, 1) := by decide +kernel
theorem nd_LA_law_205 : decode code 205 = .ok (.invokevirtual 34, 3) := by decide +kernel
theorem nd_LA_law_208 : decode code 208 = .ok (.if_icmp .eq 120, 3) := by decide +kernel
theorem nd_LA_law_211 : decode code 211 = .ok (.iconst 0, 1) := by decide +kernel
theorem nd_LA_law_212 : decode code 212 = .ok (.ireturn, 1) := by decide +kernel
theorem nd_LA_law_213 : decode code 213 = .ok (.aload_n 1, 1) := by decide +kernel
theorem nd_LA_law_214 : decode code 214 = .ok (.aload_n 0, 1) := by decide +kernel
theorem nd_LA_law_215 : decode code 215 = .ok (.iload_n 3, 1) := by decide +kernel
theorem nd_LA_law_216 : decode code 216 = .ok (.iconst 1, 1) := by decide +kernel
theorem nd_LA_law_217 : decode code 217 = .ok (.iadd, 1) := by decide +kernel
theorem nd_LA_law_218 : decode code 218 = .ok (.iaload, 1) := by decide +kernel
theorem nd_LA_law_219 : decode code 219 = .ok (.invokevirtual 35, 3) := by decide +kernel
theorem nd_LA_law_222 : decode code 222 = .ok (.aload_n 2, 1) := by decide +kernel
theorem nd_LA_law_223 : decode code 223 = .ok (.aload_n 0, 1) := by decide +kernel
theorem nd_LA_law_224 : decode code 224 = .ok (.iload_n 3, 1) := by decide +kernel
theorem nd_LA_law_225 : decode code 225 = .ok (.iconst 1, 1) := by decide +kernel
theorem nd_LA_law_226 : decode code 226 = .ok (.iadd, 1) := by decide +kernel
theorem nd_LA_law_227 : decode code 227 = .ok (.iaload, 1) := by decide +kernel
theorem nd_LA_law_228 : decode code 228 = .ok (.invokevirtual 38, 3) := by decide +kernel
theorem nd_LA_law_231 : decode code 231 = .ok (.if_icmp .eq 97, 3) := by decide +kernel
theorem nd_LA_law_234 : decode code 234 = .ok (.iconst 0, 1) := by decide +kernel
theorem nd_LA_law_235 : decode code 235 = .ok (.ireturn, 1) := by decide +kernel
theorem nd_LA_law_236 : decode code 236 = .ok (.aload_n 1, 1) := by decide +kernel
theorem nd_LA_law_237 : decode code 237 = .ok (.aload_n 0, 1) := by decide +kernel
theorem nd_LA_law_238 : decode code 238 = .ok (.iload_n 3, 1) := by decide +kernel
theorem nd_LA_law_239 : decode code 239 = .ok (.iconst 1, 1) := by decide +kernel
theorem nd_LA_law_240 : decode code 240 = .ok (.iadd, 1) := by decide +kernel
theorem nd_LA_law_241 : decode code 241 = .ok (.iaload, 1) := by decide +kernel
theorem nd_LA_law_242 : decode code 242 = .ok (.invokevirtual 39, 3) := by decide +kernel
theorem nd_LA_law_245 : decode code 245 = .ok (.aload_n 2, 1) := by decide +kernel
theorem nd_LA_law_246 : decode code 246 = .ok (.aload_n 0, 1) := by decide +kernel
theorem nd_LA_law_247 : decode code 247 = .ok (.iload_n 3, 1) := by decide +kernel
theorem nd_LA_law_248 : decode code 248 = .ok (.iconst 1, 1) := by decide +kernel
theorem nd_LA_law_249 : decode code 249 = .ok (.iadd, 1) := by decide +kernel
theorem nd_LA_law_250 : decode code 250 = .ok (.iaload, 1) := by decide +kernel
theorem nd_LA_law_251 : decode code 251 = .ok (.invokevirtual 42, 3) := by decide +kernel
theorem nd_LA_law_254 : decode code 254 = .ok (.if_icmp .eq 74, 3) := by decide +kernel
theorem nd_LA_law_257 : decode code 257 = .ok (.iconst 0, 1) := by decide +kernel
theorem nd_LA_law_258 : decode code 258 = .ok (.ireturn, 1) := by decide +kernel
theorem nd_LA_law_259 : decode code 259 = .ok (.aload_n 1, 1) := by decide +kernel
theorem nd_LA_law_260 : decode code 260 = .ok (.aload_n 0, 1) := by decide +kernel
theorem nd_LA_law_261 : decode code 261 = .ok (.iload_n 3, 1) := by decide +kernel
theorem nd_LA_law_262 : decode code 262 = .ok (.iconst 1, 1) := by decide +kernel
theorem nd_LA_law_263 : decode code 263 = .ok (.iadd, 1) := by decide +kernel
theorem nd_LA_law_264 : decode code 264 = .ok (.iaload, 1) := by decide +kernel
theorem nd_LA_law_265 : decode code 265 = .ok (.aload_n 0, 1) := by decide +kernel
theorem nd_LA_law_266 : decode code 266 = .ok (.iload_n 3, 1) := by decide +kernel
theorem nd_LA_law_267 : decode code 267 = .ok (.iconst 2, 1) := by decide +kernel
theorem nd_LA_law_268 : decode code 268 = .ok (.iadd, 1) := by decide +kernel
theorem nd_LA_law_269 : decode code 269 = .ok (.iaload, 1) := by decide +kernel
theorem nd_LA_law_270 : decode code 270 = .ok (.invokevirtual 43, 3) := by decide +kernel
theorem nd_LA_law_273 : decode code 273 = .ok (.aload_n 2, 1) := by decide +kernel
theorem nd_LA_law_274 : decode code 274 = .ok (.aload_n 0, 1) := by decide +kernel
theorem nd_LA_law_275 : decode code 275 = .ok (.iload_n 3, 1) := by decide +kernel
theorem nd_LA_law_276 : decode code 276 = .ok (.iconst 1, 1) := by decide +kernel
theorem nd_LA_law_277 : decode code 277 = .ok (.iadd, 1) := by decide +kernel
theorem nd_LA_law_278 : decode code 278 = .ok (.iaload, 1) := by decide +kernel
theorem nd_LA_law_279 : decode code 279 = .ok (.aload_n 0, 1) := by decide +kernel
theorem nd_LA_law_280 : decode code 280 = .ok (.iload_n 3, 1) := by decide +kernel
theorem nd_LA_law_281 : decode code 281 = .ok (.iconst 2, 1) := by decide +kernel
theorem nd_LA_law_282 : decode code 282 = .ok (.iadd, 1) := by decide +kernel
theorem nd_LA_law_283 : decode code 283 = .ok (.iaload, 1) := by decide +kernel
theorem nd_LA_law_284 : decode code 284 = .ok (.invokevirtual 46, 3) := by decide +kernel
theorem nd_LA_law_287 : decode code 287 = .ok (.if_icmp .eq 41, 3) := by decide +kernel
theorem nd_LA_law_290 : decode code 290 = .ok (.iconst 0, 1) := by decide +kernel
theorem nd_LA_law_291 : decode code 291 = .ok (.ireturn, 1) := by decide +kernel
theorem nd_LA_law_292 : decode code 292 = .ok (.aload_n 1, 1) := by decide +kernel
theorem nd_LA_law_293 : decode code 293 = .ok (.invokevirtual 47, 3) := by decide +kernel
theorem nd_LA_law_296 : decode code 296 = .ok (.aload_n 2, 1) := by decide +kernel
theorem nd_LA_law_297 : decode code 297 = .ok (.invokevirtual 51, 3) := by decide +kernel
theorem nd_LA_law_300 : decode code 300 = .ok (.if_icmp .eq 28, 3) := by decide +kernel
theorem nd_LA_law_303 : decode code 303 = .ok (.iconst 0, 1) := by decide +kernel
theorem nd_LA_law_304 : decode code 304 = .ok (.ireturn, 1) := by decide +kernel
theorem nd_LA_law_305 : decode code 305 = .ok (.aload_n 1, 1) := by decide +kernel
theorem nd_LA_law_306 : decode code 306 = .ok (.aload_n 0, 1) := by decide +kernel
theorem nd_LA_law_307 : decode code 307 = .ok (.iload_n 3, 1) := by decide +kernel
theorem nd_LA_law_308 : decode code 308 = .ok (.iconst 1, 1) := by decide +kernel
theorem nd_LA_law_309 : decode code 309 = .ok (.iadd, 1) := by decide +kernel
theorem nd_LA_law_310 : decode code 310 = .ok (.iaload, 1) := by decide +kernel
theorem nd_LA_law_311 : decode code 311 = .ok (.invokevirtual 52, 3) := by decide +kernel
theorem nd_LA_law_314 : decode code 314 = .ok (.aload_n 2, 1) := by decide +kernel
theorem nd_LA_law_315 : decode code 315 = .ok (.aload_n 0, 1) := by decide +kernel
theorem nd_LA_law_316 : decode code 316 = .ok (.iload_n 3, 1) := by decide +kernel
theorem nd_LA_law_317 : decode code 317 = .ok (.iconst 1, 1) := by decide +kernel
theorem nd_LA_law_318 : decode code 318 = .ok (.iadd, 1) := by decide +kernel
theorem nd_LA_law_319 : decode code 319 = .ok (.iaload, 1) := by decide +kernel
theorem nd_LA_law_320 : decode code 320 = .ok (.invokevirtual 55, 3) := by decide +kernel
theorem nd_LA_law_323 : decode code 323 = .ok (.if_icmp .eq 5, 3) := by decide +kernel
theorem nd_LA_law_326 : decode code 326 = .ok (.iconst 0, 1) := by decide +kernel
theorem nd_LA_law_327 : decode code 327 = .ok (.ireturn, 1) := by decide +kernel
theorem nd_LA_law_328 : decode code 328 = .ok (.iinc 3 3, 3) := by decide +kernel
theorem nd_LA_law_331 : decode code 331 = .ok (.goto (-313), 3) := by decide +kernel
theorem nd_LA_law_334 : decode code 334 = .ok (.iconst 1, 1) := by decide +kernel
theorem nd_LA_law_335 : decode code 335 = .ok (.ireturn, 1) := by decide +kernel
end
section
/-! PURE: terms as numbers, and what can be DERIVED -/
def sm_pr (a b : Nat) : Nat := 2 ^ a * (2 * b + 1)
theorem sm_pr_inj : ∀ (a b c d : Nat), sm_pr a b = sm_pr c d → a = c ∧ b = d := by
  intro a
  induction a with
  | zero =>
    intro b c d h
    cases c with
    | zero =>
      simp only [sm_pr, Nat.pow_zero, Nat.one_mul] at h
      exact ⟨rfl, by omega⟩
    | succ c =>
      simp only [sm_pr, Nat.pow_zero, Nat.one_mul, Nat.pow_succ] at h
      rw [Nat.mul_comm (2 ^ c) 2, Nat.mul_assoc] at h
      generalize 2 ^ c * (2 * d + 1) = z at h
      omega
  | succ a ih =>
    intro b c d h
    cases c with
    | zero =>
      simp only [sm_pr, Nat.pow_zero, Nat.one_mul, Nat.pow_succ] at h
      rw [Nat.mul_comm (2 ^ a) 2, Nat.mul_assoc] at h
      generalize 2 ^ a * (2 * b + 1) = z at h
      omega
    | succ c =>
      simp only [sm_pr, Nat.pow_succ] at h
      rw [Nat.mul_comm (2 ^ a) 2, Nat.mul_assoc, Nat.mul_comm (2 ^ c) 2, Nat.mul_assoc] at h
      have h2 : sm_pr a b = sm_pr c d := by
        unfold sm_pr
        omega
      obtain ⟨e1, e2⟩ := ih b c d h2
      exact ⟨by rw [e1], e2⟩
theorem sm_pr_l (a b : Nat) : a < sm_pr a b := by
  have h1 : a < 2 ^ a := Nat.lt_two_pow_self
  have h2 : 2 ^ a * 1 ≤ 2 ^ a * (2 * b + 1) := Nat.mul_le_mul_left _ (by omega)
  unfold sm_pr
  omega
theorem sm_pr_r (a b : Nat) : b < sm_pr a b := by
  have h1 : 1 ≤ 2 ^ a := Nat.one_le_two_pow
  have h2 : 1 * (2 * b + 1) ≤ 2 ^ a * (2 * b + 1) := Nat.mul_le_mul_right _ h1
  unfold sm_pr
  omega
/-- a term of kind k, made of a and b: 0 SECRET(number), 1 PUBLIC(s), 2 SHARED(s, t), 3 SEALED(key, body), 4 to 7 MIX; 0 itself is NOTHING -/
def sm_t (k a b : Nat) : Nat := sm_pr k (sm_pr a b)
theorem sm_t_inj {k a b k' a' b' : Nat} (h : sm_t k a b = sm_t k' a' b') : k = k' ∧ a = a' ∧ b = b' := by
  obtain ⟨h1, h2⟩ := sm_pr_inj _ _ _ _ h
  obtain ⟨h3, h4⟩ := sm_pr_inj _ _ _ _ h2
  exact ⟨h1, h3, h4⟩
theorem sm_t_pos (k a b : Nat) : 0 < sm_t k a b := Nat.lt_of_le_of_lt (Nat.zero_le _) (sm_pr_l k _)
theorem sm_t_ne (k a b : Nat) : sm_t k a b ≠ 0 := Nat.ne_of_gt (sm_t_pos k a b)
theorem sm_t_l (k a b : Nat) : a < sm_t k a b := Nat.lt_trans (sm_pr_l a b) (sm_pr_r k _)
theorem sm_t_r (k a b : Nat) : b < sm_t k a b := Nat.lt_trans (sm_pr_r a b) (sm_pr_r k _)
/-- closed under making -/
def sm_mk (S : Nat → Prop) : Prop := S 0 ∧ (∀ s, S s → S (sm_t 1 s 0)) ∧ (∀ s t, S s → S (sm_t 1 t 0) → S (sm_t 2 s t)) ∧ (∀ s t, S t → S (sm_t 1 s 0) → S (sm_t 2 s t)) ∧ (∀ k a b, 3 ≤ k → S a → S b → S (sm_t k a b))
/-- closed under opening -/
def sm_op (S : Nat → Prop) : Prop := ∀ a b, S (sm_t 3 a b) → S a → S b
/-- DERIVED of what is given -/
def sm_dr (G : Nat → Prop) (v : Nat) : Prop := ∀ S : Nat → Prop, sm_mk S → sm_op S → (∀ g, G g → S g) → S v
/-- made of what is given, with nothing opened -/
def sm_co (F : Nat → Prop) (v : Nat) : Prop := ∀ S : Nat → Prop, sm_mk S → (∀ g, F g → S g) → S v
theorem sm_co_mk (F : Nat → Prop) : sm_mk (sm_co F) :=
  ⟨fun S h _ => h.1, fun s hs S h g => h.2.1 s (hs S h g), fun s t hs ht S h g => h.2.2.1 s t (hs S h g) (ht S h g), fun s t hs ht S h g => h.2.2.2.1 s t (hs S h g) (ht S h g), fun k a b hk ha hb S h g => h.2.2.2.2 k a b hk (ha S h g) (hb S h g)⟩
theorem sm_co_inv {F : Nat → Prop} {a b : Nat} (h : sm_co F (sm_t 3 a b)) : F (sm_t 3 a b) ∨ (sm_co F a ∧ sm_co F b) := by
  have hm := sm_co_mk F
  have key := h (fun v => sm_co F v ∧ (F v ∨ ∀ a b, v = sm_t 3 a b → sm_co F a ∧ sm_co F b)) ⟨⟨hm.1, Or.inr fun a b e => absurd e.symm (sm_t_ne 3 a b)⟩,
    fun s hs => ⟨hm.2.1 s hs.1, Or.inr fun a b e => absurd (sm_t_inj e).1 (by omega)⟩,
    fun s t hs ht => ⟨hm.2.2.1 s t hs.1 ht.1, Or.inr fun a b e => absurd (sm_t_inj e).1 (by omega)⟩,
    fun s t hs ht => ⟨hm.2.2.2.1 s t hs.1 ht.1, Or.inr fun a b e => absurd (sm_t_inj e).1 (by omega)⟩,
    fun k x y hk hx hy => ⟨hm.2.2.2.2 k x y hk hx.1 hy.1, Or.inr fun a b e => by
      obtain ⟨e1, e2, e3⟩ := sm_t_inj e
      subst e2; subst e3
      exact ⟨hx.1, hy.1⟩⟩⟩ (fun g hg => ⟨fun S hS hF => hF g hg, Or.inl hg⟩)
  rcases key.2 with h1 | h1
  · exact Or.inl h1
  · exact Or.inr (h1 a b rfl)
/-- what a table of marks must keep, so that its marks are just what is DERIVED: K the terms of the table, F the marked ones (0 counts as marked) -/
def sm_tab (K F : Nat → Prop) : Prop :=
  (∀ v, F v → K v) ∧ (∀ k a b, K (sm_t k a b) → 3 ≤ k → (a = 0 ∨ K a) ∧ (b = 0 ∨ K b)) ∧ (∀ s, K (sm_t 1 s 0) → K s) ∧ (∀ s t, K (sm_t 2 s t) → K s ∧ K t ∧ K (sm_t 1 s 0) ∧ K (sm_t 1 t 0)) ∧ ¬ K 0 ∧
  (∀ s, K (sm_t 1 s 0) → F s → F (sm_t 1 s 0)) ∧ (∀ s t, K (sm_t 2 s t) → F s → F (sm_t 1 t 0) → F (sm_t 2 s t)) ∧ (∀ s t, K (sm_t 2 s t) → F t → F (sm_t 1 s 0) → F (sm_t 2 s t)) ∧
  (∀ k a b, K (sm_t k a b) → 3 ≤ k → (a = 0 ∨ F a) → (b = 0 ∨ F b) → F (sm_t k a b)) ∧ (∀ a b, F (sm_t 3 a b) → (a = 0 ∨ F a) → (b = 0 ∨ F b))
theorem sm_tab_co {K F : Nat → Prop} (h : sm_tab K F) {v : Nat} (hv : sm_co F v) : (v = 0 ∨ K v) → (v = 0 ∨ F v) := by
  obtain ⟨hFK, hp, hp1, hp2, h0, c1, c2, c3, c4, c5⟩ := h
  have z : ∀ {x : Nat}, K x → x ≠ 0 := fun {x} hx e => h0 (e ▸ hx)
  refine hv (fun v => (v = 0 ∨ K v) → (v = 0 ∨ F v)) ⟨fun _ => Or.inl rfl, fun s hs q => ?_, fun s t hs ht q => ?_, fun s t hs ht q => ?_, fun k a b hk ha hb q => ?_⟩ (fun g hg _ => Or.inr hg)
  · rcases q with q | q
    · exact absurd q (sm_t_ne _ _ _)
    · rcases hs (Or.inr (hp1 s q)) with e | f
      · exact absurd e (z (hp1 s q))
      · exact Or.inr (c1 s q f)
  · rcases q with q | q
    · exact absurd q (sm_t_ne _ _ _)
    · obtain ⟨k1, k2, k3, k4⟩ := hp2 s t q
      rcases hs (Or.inr k1) with e | f
      · exact absurd e (z k1)
      · rcases ht (Or.inr k4) with e | f2
        · exact absurd e (z k4)
        · exact Or.inr (c2 s t q f f2)
  · rcases q with q | q
    · exact absurd q (sm_t_ne _ _ _)
    · obtain ⟨k1, k2, k3, k4⟩ := hp2 s t q
      rcases hs (Or.inr k2) with e | f
      · exact absurd e (z k2)
      · rcases ht (Or.inr k3) with e | f2
        · exact absurd e (z k3)
        · exact Or.inr (c3 s t q f f2)
  · rcases q with q | q
    · exact absurd q (sm_t_ne _ _ _)
    · obtain ⟨k1, k2⟩ := hp k a b q hk
      exact Or.inr (c4 k a b q hk (ha k1) (hb k2))
/-- the marks of such a table, with all that is given marked, hold all that is DERIVED in it -/
theorem sm_tab_dr {K F G : Nat → Prop} (h : sm_tab K F) (hG : ∀ g, G g → g = 0 ∨ F g) {v : Nat} (hv : sm_dr G v) (hK : K v) : F v := by
  have hm := sm_co_mk F
  have hco : sm_co F v := by
    refine hv (sm_co F) hm (fun a b h1 h2 => ?_) (fun g hg => ?_)
    · rcases sm_co_inv h1 with f | ⟨-, f⟩
      · have f3 := h.2.2.2.2.2.2.2.2.2 a b f
        have ka : a = 0 ∨ K a := (h.2.1 3 a b (h.1 _ f) (Nat.le_refl 3)).1
        rcases f3 (sm_tab_co h h2 ka) with e | f4
        · rw [e]; exact hm.1
        · exact fun S _ hF => hF b f4
      · exact f
    · rcases hG g hg with e | f
      · rw [e]; exact hm.1
      · exact fun S _ hF => hF g f
  rcases sm_tab_co h hco (Or.inr hK) with e | f
  · exact absurd (e ▸ hK) h.2.2.2.2.1
  · exact f
theorem sm_dr_mk (G : Nat → Prop) : sm_mk (sm_dr G) :=
  ⟨fun S h _ _ => h.1, fun s hs S h o g => h.2.1 s (hs S h o g), fun s t hs ht S h o g => h.2.2.1 s t (hs S h o g) (ht S h o g), fun s t hs ht S h o g => h.2.2.2.1 s t (hs S h o g) (ht S h o g), fun k a b hk ha hb S h o g => h.2.2.2.2 k a b hk (ha S h o g) (hb S h o g)⟩
theorem sm_dr_op (G : Nat → Prop) : sm_op (sm_dr G) := fun a b h1 h2 S h o g => o a b (h1 S h o g) (h2 S h o g)
theorem sm_dr_in {G : Nat → Prop} {v : Nat} (h : G v) : sm_dr G v := fun _ _ _ g => g v h
theorem sm_dr_mono {G G' : Nat → Prop} (h : ∀ v, G v → G' v) {v : Nat} (hv : sm_dr G v) : sm_dr G' v := fun S m o g => hv S m o (fun x hx => g x (h x hx))
end
section
/-- the elements of an array that may be copied: objects -/
def hm_el (M : hm_M) (c : Nat) (g : Nat → Option Nat) : Prop := ∀ i : Nat, i < c → ∀ y : Nat, g i = some y → ∃ (ci : Nat) (vs : List Value) (r : vw_C), M y = some (hm_ob ci vs) ∧ hm_cl[ci]? = some r ∧ Cond.castable r.1 "java/lang/Object" ∈ lw_tbl
section HMJDK
variable {X : hm_X} {l : Launch} {D : va_G} {BG : Nat → Option Cell} {cc : ByteArray} {own nm : String} {nL fr lo mc ms : Nat} {M : hm_M} {k n pc : Nat} {lv : List (Nat × Value)} {st : List Value}
set_option maxHeartbeats 4000000 in
theorem hm_acopy (C : hm_C X l D BG cc own nm nL fr lo mc ms) {ix a0 a1 n0 n1 c0 : Nat} {f g : Nat → Option Nat} {rest : List Value} (ha0 : M a0 = some (hm_ar D 0 n0 f)) (ha1 : M a1 = some (hm_ar D 0 n1 g)) (hel : hm_el M c0 f) (h40 : c0 ≤ n0) (h41 : c0 ≤ n1) (hc0 : c0 < 2 ^ 31) {i : Int32} (hi : i = nI c0)
    (hlink : Cond.methodLink own ix arraycopyName ∈ hm_tb) (hnat : Cond.native arraycopyName ∈ hm_tb) (hstat : Cond.static arraycopyName ∈ hm_tb) (hini : Cond.initialized "java/lang/System" ∈ hm_tb) (hfr : 1 ≤ fr) (hlo : (rest.map fun v => v.category).sum + (nativeFrameWords "java/lang/System" "arraycopy" 5 + 11) ≤ lo) (hd : decode cc pc = .ok (.invokestatic ix, 3))
    (kk : hm_W X (hm_up M a1 (hm_ar D 0 n1 (va_cpy f g 0 0 c0))) k n (pc + 3) lv rest) : hm_W X M k n pc lv (.int i :: .int 0 :: .ref a1 :: .int 0 :: .ref a0 :: rest) := by
  obtain ⟨p, l', e, R, s, m, args, below, meth, c, Q, D', BG', A⟩ := X
  obtain ⟨hx, hb, hown, hts, hnw, hK, hA, hBG, hR, hml, hnm, el, eD, eB⟩ := C
  intro H locs ls h1 h2 h3 h4 h5
  subst eD
  subst hi
  have hcl : (nI c0).toNatClampNeg = c0 := nI_clamp hc0
  have h0l : (0 : Int32).toNatClampNeg = 0 := by decide
  have hP : va_P D' hm_cl [(a0, hm_ar D' 0 n0 f), (a1, hm_ar D' 0 n1 g)] H := fun i q hq => by
    match i, hq with
    | 0, hq => cases hq; exact h1 a0 _ ha0
    | 1, hq => cases hq; exact h1 a1 _ ha1
    | i + 2, hq => simp at hq
  have hK' : va_K D' hm_cl [(D'.1 (100 + 0), .object "java/lang/Object")] s := ⟨hK.1.1, fun i q hq => by
    cases i with
    | zero => cases hq; exact hK.2.1 0 _ rfl
    | succ i => simp at hq⟩
  have nn : ∀ z : Int32, ¬ z < 0 → z.toInt = (z.toNatClampNeg : Int) := by
    intro z hz
    have hz0 : (0 : Int) ≤ z.toInt := by
      have := Int32.not_lt.mp hz
      simpa using Int32.le_iff_toInt_le.mp this
    show z.toInt = ((z.toInt.toNat : Nat) : Int)
    omega
  intro T hT X
  have hc0' : H[a0]? = some (vp_cell (D'.1 (100 + 0)) (n0, .inr (.inr (.inr (.inr f))))) := h1 a0 _ ha0
  have hc1' : H[a1]? = some (vp_cell (D'.1 (100 + 0)) (n1, .inr (.inr (.inr (.inr g))))) := h1 a1 _ ha1
  obtain ⟨-, k0, hk0, cm0, hkk0⟩ := (hK.2.1 0 _ rfl).1 n0 (fun j => va_rf (f j))
  obtain ⟨-, k1, hk1, cm1, hkk1⟩ := (hK.2.1 0 _ rfl).1 n1 (fun j => va_rf (g j))
  have hz : ¬ (0 : Int32) < 0 := by decide
  have hp : ¬ nI c0 < 0 := nI_pos hc0
  obtain ⟨vm', X', step⟩ := X.arraycopy hx hown (hts _ hlink) (hts _ hnat) (hts _ hstat) (hts _ hini) (src := a0) (dst := a1) (cs := vp_cell (D'.1 (100 + 0)) (n0, .inr (.inr (.inr (.inr f))))) (cd := vp_cell (D'.1 (100 + 0)) (n1, .inr (.inr (.inr (.inr g))))) (srcPos := 0) (destPos := 0) (n := nI c0) (by rw [hT]; exact hc0') (by rw [hT]; exact hc1')
    (fun _ h => by cases h) (fun _ h => by cases h) (fun h => by cases h) (fun h => by cases h) hk0 hk1 hkk0 hkk1 rfl hz hz hp
    (by rw [nn 0 hz, nn _ hp, h0l, hcl]; show ¬ _ > ((arrV _ n0 (fun j => va_rf (f j))).slots.size : Int); rw [arrV_size]; omega)
    (by rw [nn 0 hz, nn _ hp, h0l, hcl]; show ¬ _ > ((arrV _ n1 (fun j => va_rf (g j))).slots.size : Int); rw [arrV_size]; omega)
    (fun vm₁ hal i hi => by
      rw [hcl] at hi
      have e : (vp_cell (D'.1 (100 + 0)) (n0, .inr (.inr (.inr (.inr f))))).slots.getD ((0 : Int32).toNatClampNeg + i) .null = va_rf (f i) := by
        show (arrV _ n0 (fun j => va_rf (f j))).slots.getD _ _ = _
        rw [h0l, Nat.zero_add, Array.getD_eq_getD_getElem?, arrV_read _ _ (by omega)]
        rfl
      rw [e]
      cases hy : f i with
      | none => exact ⟨rfl, trivial⟩
      | some y =>
        obtain ⟨ci, vs, r, m1, m2, m3⟩ := hel i hi y hy
        obtain ⟨r', w0, cellV, w1, w2, w3, -⟩ := h1 y _ m1
        have hcls := (hK.1.1 ci r m2).2
        obtain ⟨c9, t9, f1, f2, f3⟩ := Cond.castable_spec (va_Nw.use (A := args) rfl (hnw _ m3 rfl))
        obtain ⟨kA, comp, r1, r2, r3, -⟩ := (hK.2.1 0 _ rfl).2
        cases hk1.symm.trans r1
        cases hkk1.symm.trans r2
        obtain ⟨kE, hkE, -⟩ := Vm.findClass_spec r3
        obtain ⟨kC, hkC, -⟩ := hcls.2
        cases hcls.1.symm.trans f1
        cases r3.symm.trans f2
        obtain ⟨kC', hkC', -⟩ := hal.2.2 _ _ hkC
        obtain ⟨kE', hkE', -⟩ := hal.2.2 _ _ hkE
        refine ⟨rfl, cellV, (show T.heap[y]? = some cellV by rw [hT]; exact w1), (fun q h => by rw [w3] at h; cases h), ⟨kC', by rw [w2]; exact hkC'⟩, ?_, ?_⟩
        · exact ⟨kE', hkE'⟩
        · show vm₁.assignable _ _ = true
          rw [hal.assignable, w2]
          exact f3)
    (g := F0 m pc ls (.int (nI c0) :: .int 0 :: .ref a1 :: .int 0 :: .ref a0 :: rest)) rfl h5.1 (rest := rest) rfl (by rw [hb]; exact hd) (by rw [hR]; exact hfr) (by rw [hR]; show 2 * 0 + _ + _ ≤ lo; omega)
  have e1 : copied (vp_cell (D'.1 (100 + 0)) (n0, .inr (.inr (.inr (.inr f))))) (vp_cell (D'.1 (100 + 0)) (n1, .inr (.inr (.inr (.inr g))))) 0 0 (nI c0) = vp_cell (D'.1 (100 + 0)) (n1, .inr (.inr (.inr (.inr (va_cpy f g 0 0 c0))))) := by
    rw [vp_cell_q, vp_cell_q, vp_cell_q]
    have h9 := va_copied (fun z => va_rf z) (D'.1 (100 + 0)) (D'.1 (100 + 0)) (n0 := n0) (n1 := n1) (sp := (0 : Int32).toNatClampNeg) (dp := (0 : Int32).toNatClampNeg) (n := (nI c0).toNatClampNeg) f g (by rw [h0l, hcl]; omega)
    refine h9.trans ?_
    rw [h0l, hcl]
  rw [e1] at X' step
  have hl : a1 < H.size := (Array.getElem?_eq_some_iff.mp hc1').1
  generalize hv9 : vp_cell (D'.1 (100 + 0)) (n1, .inr (.inr (.inr (.inr (va_cpy f g 0 0 c0))))) = v9 at X' step
  have hheap : ((T.setVm vm').setCell a1 v9).heap = H.setIfInBounds a1 v9 := by rw [← hT]; rfl
  have oq : ∀ q : Nat, q ≠ a1 → (H.setIfInBounds a1 v9)[q]? = H[q]? := fun q hq => by simp [Array.getElem?_setIfInBounds, Ne.symm hq]
  have sq : (H.setIfInBounds a1 v9)[a1]? = some v9 := by simp [Array.getElem?_setIfInBounds, hl]
  obtain ⟨t, a1', b1⟩ := kk (H.setIfInBounds a1 v9) _ ls (h1.put (by rw [← hv9] at sq ⊢; exact sq) oq) (h2.put hBG (h3 a1 _ ha1) oq) (h3.put (h3 a1 _ ha1)) ⟨by simp; exact h4.1, fun q g1 g2 => by
      rw [oq q (fun e => g2 (by rw [e]; exact h3 a1 _ ha1))]
      exact h4.2.1 q g1 g2, fun q hq => by
      rcases List.mem_append.mp hq with h | h
      · exact h4.2.2 q h
      · obtain ⟨z, -, hz⟩ := List.mem_map.mp h
        rw [← hz]
        exact h3 a1 _ ha1⟩ h5 _ hheap X'
  exact ⟨t, step t a1', b1⟩
/-- getClass of an Object[], and its class object -/
theorem hm_getC (C : hm_C X l D BG cc own nm nL fr lo mc ms) {ix a n0 : Nat} {f : Nat → Option Nat} {rest : List Value} (ha : M a = some (hm_ar D 0 n0 f)) (hlink : Cond.methodLink own ix ⟨"java/lang/Object", "getClass", "()Ljava/lang/Class;"⟩ ∈ hm_tb) (hdecl : Cond.declares ⟨"java/lang/Object", "getClass", "()Ljava/lang/Class;"⟩ ∈ lw_tbl) (hsel : Cond.selects "[Ljava/lang/Object;" ⟨"java/lang/Object", "getClass", "()Ljava/lang/Class;"⟩ ⟨"java/lang/Object", "getClass", "()Ljava/lang/Class;"⟩ ∈ hm_tb) (hinst : Cond.instanceMethod ⟨"java/lang/Object", "getClass", "()Ljava/lang/Class;"⟩ ∈ hm_tb) (hnat : Cond.native ⟨"java/lang/Object", "getClass", "()Ljava/lang/Class;"⟩ ∈ hm_tb) (hfr : 1 ≤ fr) (hlo : (rest.map fun v => v.category).sum + 14 ≤ lo) (hd : decode cc pc = .ok (.invokevirtual ix, 3))
    (kk : hm_W X M k n (pc + 3) lv (.ref (D.2 999 1) :: rest)) : hm_W X M k n pc lv (.ref a :: rest) := by
  obtain ⟨p, l', e, R, s, m, args, below, meth, c, Q, D', BG', A⟩ := X
  obtain ⟨hx, hb, hown, hts, hnw, hK, hA, hBG, hR, hml, hnm, el, eD, eB⟩ := C
  intro H locs ls h1 h2 h3 h4 h5
  subst eD
  have hc' : H[a]? = some (vp_cell (D'.1 (100 + 0)) (n0, .inr (.inr (.inr (.inr f))))) := h1 a _ ha
  exact va_getC hx hb h5.1.symm hown (hts _ hlink) (va_Nw.use rfl (hnw _ hdecl rfl)) (hts _ hsel) (hts _ hinst) (hts _ hnat) hK.2.2.2.2 ⟨_, hc', rfl, va_nmO (hK.2.1 0 _ rfl).2 rfl⟩ (by rw [hR]; exact hfr) (by rw [hR]; exact hlo) hd (kk H locs ls h1 h2 h3 h4 h5)
theorem hm_ldcM (C : hm_C X l D BG cc own nm nL fr lo mc ms) {ix : Nat} (hlink : Cond.classLink own ix "[Ljava/lang/Object;" ∈ hm_tb) (hd : decode cc pc = .ok (.ldc ix, 2)) (kk : hm_W X M k n (pc + 2) lv (.ref (D.2 999 1) :: st)) : hm_W X M k n pc lv st := by
  obtain ⟨p, l', e, R, s, m, args, below, meth, c, Q, D', BG', A⟩ := X
  obtain ⟨hx, hb, hown, hts, hnw, hK, hA, hBG, hR, hml, hnm, el, eD, eB⟩ := C
  intro H locs ls h1 h2 h3 h4 h5
  subst eD
  exact va_ldcM hx hb hown (hts _ hlink) hK.2.2.2.2 hd (kk H locs ls h1 h2 h3 h4 h5)
end HMJDK
end
section
theorem hm_cat (r : Option Nat) : (va_rf r).category = 1 := by cases r <;> rfl
theorem hm_catI (x : Int32) : (Value.int x).category = 1 := rfl
theorem hm_catR (x : Nat) : (Value.ref x).category = 1 := rfl
theorem hm_catN : Value.null.category = 1 := rfl
theorem hm_narq (z : String) (r : Option Nat) : narrow (.object z) (va_rf r) = va_rf r := by cases r <;> rfl
theorem hm_fitq (z : String) (r : Option Nat) : fits (.object z) (va_rf r) = true := by cases r <;> rfl
theorem hm_stk {X : hm_X} {M : hm_M} {k n pc : Nat} {lv : List (Nat × Value)} {st st' : List Value} (h : st = st') (kk : hm_W X M k n pc lv st') : hm_W X M k n pc lv st := h ▸ kk
theorem hm_lv {X : hm_X} {M : hm_M} {k n pc : Nat} {lv lv' : List (Nat × Value)} {st : List Value} (h : lv = lv') (kk : hm_W X M k n pc lv' st) : hm_W X M k n pc lv st := h ▸ kk
theorem hm_sl (r : Option Nat) : (if (va_rf r).category = 2 then [Slot.val (va_rf r), Slot.second] else [Slot.val (va_rf r)]) = [Slot.val (va_rf r)] := by rw [hm_cat]; rfl
/-- how far an ArrayList's array has grown behind an add -/
def li_c (c n : Nat) : Nat := if n = c then (if c = 0 then 10 else c + c / 2) else c
/-- an ArrayList at a: n elements f 0 .. f (n - 1), its array of c places at ea -/
def li_R (D : va_G) (M : hm_M) (a ea c n : Nat) (f : Nat → Nat) : Prop := ∃ m : Int32, M a = some (hm_ob 0 [.ref ea, .int (nI n), .int m]) ∧ n ≤ c ∧ ((c = 0 ∧ ea = D.2 999 0) ∨ (2 ≤ c ∧ ∃ g : Nat → Option Nat, M ea = some (hm_ar D 0 c g) ∧ (∀ i, i < n → g i = some (f i)) ∧ ∀ i, n ≤ i → g i = none))
/-- the elements are objects -/
def li_E (M : hm_M) (n : Nat) (f : Nat → Nat) : Prop := ∀ i, i < n → ∃ (ci : Nat) (vs : List Value) (r : vw_C), M (f i) = some (hm_ob ci vs) ∧ hm_cl[ci]? = some r ∧ Cond.castable r.1 "java/lang/Object" ∈ lw_tbl
theorem hm_up_up (M : hm_M) (a : Nat) (e f : va_E) : hm_up (hm_up M a e) a f = hm_up M a f := by
  funext q
  unfold hm_up
  by_cases h : q = a
  · rw [if_pos h, if_pos h]
  · rw [if_neg h, if_neg h, if_neg h]
theorem li_len {c : Nat} (h2 : 2 ≤ c) (h4 : c ≤ 40000) : nI c + (if nI 1 < nI (c / 2) then nI (c / 2) else nI 1) = nI (c + c / 2) := by
  by_cases k : 1 < c / 2
  · rw [if_pos (nI_lt k (by omega)), nI_add]
  · rw [if_neg (nI_nlt (by omega) (by decide)), nI_add]
    congr 2
    omega
theorem nst_AL : Cond.fieldLink "java/util/ArrayList" 39 "java/util/ArrayList" "DEFAULTCAPACITY_EMPTY_ELEMENTDATA" "[Ljava/lang/Object;" ∈ hm_tb := hm_tb_in (by decide +kernel) (by decide +kernel)
section HMMATH
variable {X : hm_X} {l : Launch} {D : va_G} {BG : Nat → Option Cell} {cc : ByteArray} {own nm : String} {nL fr lo mc ms : Nat} {M : hm_M} {k n pc : Nat} {lv : List (Nat × Value)} {rest : List Value}
theorem hm_mmax (C : hm_C X l D BG cc own nm nL fr lo mc ms) {ix : Nat} (hlink : Cond.methodLink own ix ny_MA_max ∈ hm_tb) {x y : Int32} (hfr : 1 ≤ fr) (hlo : (rest.map fun v => v.category).sum + 13 ≤ lo) (hk : k ≤ mc) (hn : n ≤ ms) (hd : decode cc pc = .ok (.invokestatic ix, 3)) (kk : hm_W X M k n (pc + 3) lv (.int (if x < y then y else x) :: rest)) : hm_W X M k n pc lv (.int y :: .int x :: rest) := by
  obtain ⟨p, l', e, R, s, m, args, below, meth, c, Q, D', BG', A⟩ := X
  obtain ⟨hx, hb, hown, hts, hnw, hK, hA, hBG, hR, hml, hnm, el, eD, eB⟩ := C
  intro H locs ls h1 h2 h3 h4 h5
  exact va_mmax hx hb h5.1.symm hown (hts _ hlink) (hts _ nu_MA_max) (hts _ nz_MA) (hts _ nm_MA_max) (by rw [hR]; exact hfr) (by rw [hR]; exact hlo) (by rw [hR]; exact hk) (by rw [hR]; exact hn) hd (kk H locs ls h1 h2 h3 h4 h5)
theorem hm_mmin (C : hm_C X l D BG cc own nm nL fr lo mc ms) {ix : Nat} (hlink : Cond.methodLink own ix ny_MA_min ∈ hm_tb) {x y : Int32} (hfr : 1 ≤ fr) (hlo : (rest.map fun v => v.category).sum + 13 ≤ lo) (hk : k ≤ mc) (hn : n ≤ ms) (hd : decode cc pc = .ok (.invokestatic ix, 3)) (kk : hm_W X M k n (pc + 3) lv (.int (if y < x then y else x) :: rest)) : hm_W X M k n pc lv (.int y :: .int x :: rest) := by
  obtain ⟨p, l', e, R, s, m, args, below, meth, c, Q, D', BG', A⟩ := X
  obtain ⟨hx, hb, hown, hts, hnw, hK, hA, hBG, hR, hml, hnm, el, eD, eB⟩ := C
  intro H locs ls h1 h2 h3 h4 h5
  exact va_mmin hx hb h5.1.symm hown (hts _ hlink) (hts _ nu_MA_min) (hts _ nz_MA) (hts _ nm_MA_min) (by rw [hR]; exact hfr) (by rw [hR]; exact hlo) (by rw [hR]; exact hk) (by rw [hR]; exact hn) hd (kk H locs ls h1 h2 h3 h4 h5)
end HMMATH
theorem nat_gc : Cond.methodLink "java/util/Arrays" 86 ⟨"java/lang/Object", "getClass", "()Ljava/lang/Class;"⟩ ∈ hm_tb := nq_AR_86
theorem nat_gd : Cond.declares ⟨"java/lang/Object", "getClass", "()Ljava/lang/Class;"⟩ ∈ lw_tbl := by decide +kernel
theorem nat_gs : Cond.selects "[Ljava/lang/Object;" ⟨"java/lang/Object", "getClass", "()Ljava/lang/Class;"⟩ ⟨"java/lang/Object", "getClass", "()Ljava/lang/Class;"⟩ ∈ hm_tb := hm_tb_in (by decide +kernel) (by decide +kernel)
theorem nat_gi : Cond.instanceMethod ⟨"java/lang/Object", "getClass", "()Ljava/lang/Class;"⟩ ∈ hm_tb := hm_tb_in (by decide +kernel) (by decide +kernel)
theorem nat_gn : Cond.native ⟨"java/lang/Object", "getClass", "()Ljava/lang/Class;"⟩ ∈ hm_tb := hm_tb_in (by decide +kernel) (by decide +kernel)
theorem nat_al : Cond.methodLink "java/util/Arrays" 150 arraycopyName ∈ hm_tb := nq_AR_150
theorem nat_an : Cond.native arraycopyName ∈ hm_tb := hm_tb_in (by decide +kernel) (by decide +kernel)
theorem nat_as : Cond.static arraycopyName ∈ hm_tb := hm_tb_in (by decide +kernel) (by decide +kernel)
theorem nat_ai : Cond.initialized "java/lang/System" ∈ hm_tb := nz_SY
theorem li_hf {c : Nat} (h4 : c ≤ 40000) : nI c >>> ((1 : Int32) &&& 31) = nI (c / 2) := by
  have k := pk_shrN (n := c) (by omega) ((1 : Int32) &&& 31) 1 (by decide)
  rw [Nat.pow_one] at k
  exact k
theorem li_d1 {c : Nat} (h4 : c ≤ 40000) : nI (c + 1) - nI c = nI 1 := by
  have k := pk_sub (a := c + 1) (b := c) (by omega)
  rw [Nat.add_sub_cancel_left] at k
  exact k
theorem hm_up_cm {M : hm_M} {a b : Nat} {e f : va_E} (h : a ≠ b) : hm_up (hm_up M b e) a f = hm_up (hm_up M a f) b e := by
  funext q
  unfold hm_up
  by_cases h1 : q = a
  · rw [if_pos h1, if_pos h1, if_neg (fun z => h (h1.symm.trans z))]
  · rw [if_neg h1, if_neg h1]
theorem li_R.mono {D : va_G} {M M' : hm_M} {a ea c n : Nat} {f : Nat → Nat} (h : li_R D M a ea c n f) (hk : ∀ z, M z ≠ none → M' z = M z) : li_R D M' a ea c n f := by
  obtain ⟨m, ha, hnc, hc⟩ := h
  refine ⟨m, by rw [hk a (by rw [ha]; simp)]; exact ha, hnc, ?_⟩
  rcases hc with h | ⟨h2, g, hg, hf⟩
  · exact Or.inl h
  · exact Or.inr ⟨h2, g, by rw [hk ea (by rw [hg]; simp)]; exact hg, hf⟩
theorem hm_newN {X : hm_X} {l : Launch} {D : va_G} {BG : Nat → Option Cell} {cc : ByteArray} {own nm : String} {nL fr lo mc ms : Nat} {M : hm_M} {k n pc : Nat} {lv : List (Nat × Value)} {st : List Value} (C : hm_C X l D BG cc own nm nL fr lo mc ms) {ix ci : Nat} {fs : List Value} (Nf : Nat) (O : hm_O own ix ci fs) (hN : fs.length = Nf) (hk : k + 1 ≤ mc) (hn : n + Nf ≤ ms) (hd : decode cc pc = .ok (.new ix, 3)) (kk : ∀ q : Nat, M q = none → hm_W X (hm_up M q (hm_ob ci fs)) (k + 1) (n + Nf) (pc + 3) lv (.ref q :: st)) : hm_W X M k n pc lv st := by
  subst hN
  exact hm_new C O hk hn hd kk
end
section
set_option maxHeartbeats 4000000 in
set_option maxRecDepth 100000 in
theorem ct_AC_init {l : Launch} {D : va_G} {BG : Nat → Option Cell} (M : hm_M) (a : Nat) : hm_ct l D BG ny_AC_init prog_14_method_1_code 1 none 1 12 0 0 [.ref a] M (fun r M' => r = none ∧ M' = M) := by
  refine hm_ct_of (by decide +kernel) (by exact Nat.le_of_ble_eq_true rfl) ?_
  intro X C E
  have C : hm_C X l D BG prog_14_method_1_code "java/util/AbstractCollection" "<init>" 1 1 12 0 0 := C
  refine hm_lv (lv' := [(0, .ref a)]) rfl ?_
  refine hm_aload_n C nd_AC_init_0 rfl ?_
  refine hm_objInit C nq_AC_1 nj_OJ_init nm_OJ_init (by decide) (by decide) nd_AC_init_1 ?_
  exact hm_vret C E (by omega) (by omega) (⟨rfl, rfl⟩) nd_AC_init_4
set_option maxHeartbeats 4000000 in
set_option maxRecDepth 100000 in
theorem ct_AB_init {l : Launch} {D : va_G} {BG : Nat → Option Cell} (M : hm_M) (a : Nat) (ea : Option Nat) (s m : Int32) (ha : M a = some (hm_ob 0 [va_rf ea, .int s, .int m])) : hm_ct l D BG ny_AB_init prog_15_method_1_code 1 none 2 32 0 0 [.ref a] M (fun r M' => r = none ∧ M' = hm_up M a (hm_ob 0 [va_rf ea, .int s, .int 0])) := by
  refine hm_ct_of (by decide +kernel) (by exact Nat.le_of_ble_eq_true rfl) ?_
  intro X C E
  have C : hm_C X l D BG prog_15_method_1_code "java/util/AbstractList" "<init>" 1 2 32 0 0 := C
  refine hm_lv (lv' := [(0, .ref a)]) rfl ?_
  refine hm_aload_n C nd_AB_init_0 rfl ?_
  refine hm_callI C (ct_AC_init M a) nV_AC_init rfl nq_AB_1 nj_AC_init [] rfl rfl (rest := []) rfl (Nat.le_of_ble_eq_true rfl) (by decide) (by decide) (by omega) (by omega) nd_AB_init_1 (fun r M1 hp => ?_)
  obtain ⟨rfl, eM1⟩ := hp
  rw [eM1]
  refine hm_stk (st' := []) rfl ?_
  refine hm_aload_n C nd_AB_init_4 rfl ?_
  refine hm_iconst (v := 0) C nd_AB_init_5 (by decide) ?_
  refine hm_put C nF_AB_7 ha (Nat.le_of_ble_eq_true rfl) rfl rfl nd_AB_init_6 ?_
  refine hm_eqM (M' := hm_up M a (hm_ob 0 [va_rf ea, .int s, .int 0])) rfl ?_
  generalize hM2 : hm_up M a (hm_ob 0 [va_rf ea, .int s, .int 0]) = M2
  have fM2_0 : M2 a = some (hm_ob 0 [va_rf ea, .int s, .int 0]) := by rw [← hM2]; exact hm_up_s _ _ _
  exact hm_vret C E (by omega) (by omega) (⟨rfl, by rw [← hM2]⟩) nd_AB_init_9
set_option maxHeartbeats 4000000 in
set_option maxRecDepth 100000 in
theorem ct_AL_init {l : Launch} {D : va_G} {BG : Nat → Option Cell} (M : hm_M) (a : Nat) (s m : Int32) (ha : M a = some (hm_ob 0 [.null, .int s, .int m])) : hm_ct l D BG ny_AL_init prog_16_method_2_code 1 none 3 52 0 0 [.ref a] M (fun r M' => r = none ∧ M' = hm_up M a (hm_ob 0 [.ref (D.2 999 0), .int s, .int 0])) := by
  refine hm_ct_of (by decide +kernel) (by exact Nat.le_of_ble_eq_true rfl) ?_
  intro X C E
  have C : hm_C X l D BG prog_16_method_2_code "java/util/ArrayList" "<init>" 1 3 52 0 0 := C
  refine hm_lv (lv' := [(0, .ref a)]) rfl ?_
  refine hm_aload_n C nd_AL_init_0 rfl ?_
  refine hm_callI C (ct_AB_init M a none s m ha) nV_AB_init rfl nq_AL_1 nj_AB_init [] rfl rfl (rest := []) rfl (Nat.le_of_ble_eq_true rfl) (by decide) (by decide) (by omega) (by omega) nd_AL_init_1 (fun r M1 hp => ?_)
  obtain ⟨rfl, e1⟩ := hp
  have h1 : M1 a = some (hm_ob 0 [.null, .int s, .int 0]) := by rw [e1]; exact hm_up_s _ _ _
  refine hm_stk (st' := []) rfl ?_
  refine hm_aload_n C nd_AL_init_4 rfl ?_
  refine hm_gets C nst_AL nd_AL_init_5 ?_
  refine hm_put C nF_AL_9 h1 (Nat.le_of_ble_eq_true rfl) rfl rfl nd_AL_init_8 ?_
  refine hm_eqM (M' := hm_up M1 a (hm_ob 0 [.ref (D.2 999 0), .int s, .int 0])) rfl ?_
  generalize hM2 : hm_up M1 a (hm_ob 0 [.ref (D.2 999 0), .int s, .int 0]) = M2
  have fM2_0 : M2 a = some (hm_ob 0 [.ref (D.2 999 0), .int s, .int 0]) := by rw [← hM2]; exact hm_up_s _ _ _
  exact hm_vret C E (by omega) (by omega) (⟨rfl, by rw [← hM2, e1, hm_up_up]⟩) nd_AL_init_11
set_option maxHeartbeats 4000000 in
set_option maxRecDepth 100000 in
theorem ct_AL_size {l : Launch} {D : va_G} {BG : Nat → Option Cell} (M : hm_M) (a ea : Nat) (s m : Int32) (ha : M a = some (hm_ob 0 [.ref ea, .int s, .int m])) : hm_ct l D BG ny_AL_size prog_16_method_8_code 1 (some .int) 0 0 0 0 [.ref a] M (fun r M' => r = some (.int s) ∧ M' = M) := by
  refine hm_ct_of (by decide +kernel) (by exact Nat.le_of_ble_eq_true rfl) ?_
  intro X C E
  have C : hm_C X l D BG prog_16_method_8_code "java/util/ArrayList" "size" 1 0 0 0 0 := C
  refine hm_lv (lv' := [(0, .ref a)]) rfl ?_
  refine hm_aload_n C nd_AL_size_0 rfl ?_
  refine hm_get C nF_AL_48 ha rfl nd_AL_size_1 ?_
  exact hm_iret C E (by omega) (by omega) (⟨rfl, rfl⟩) nd_AL_size_4
set_option maxHeartbeats 4000000 in
set_option maxRecDepth 100000 in
theorem ct_PR_checkIndex {l : Launch} {D : va_G} {BG : Nat → Option Cell} (M : hm_M) (i s : Int32) (h0 : ¬ i < 0) (h1 : i < s) : hm_ct l D BG ny_PR_checkIndex prog_24_method_11_code 3 (some .int) 0 0 0 0 [.int i, .int s, .null] M (fun r M' => r = some (.int i) ∧ M' = M) := by
  refine hm_ct_of (by decide +kernel) (by exact Nat.le_of_ble_eq_true rfl) ?_
  intro X C E
  have C : hm_C X l D BG prog_24_method_11_code "jdk/internal/util/Preconditions" "checkIndex" 3 0 0 0 0 := C
  refine hm_lv (lv' := [(0, .int i), (1, .int s), (2, .null)]) rfl ?_
  refine hm_iload_n C nd_PR_checkIndex_0 rfl ?_
  refine hm_if_lt (tgt := 9) C nd_PR_checkIndex_1 (by decide) (fun c => absurd c h0) (fun c => ?_)
  refine hm_iload_n C nd_PR_checkIndex_4 rfl ?_
  refine hm_iload_n C nd_PR_checkIndex_5 rfl ?_
  refine hm_icmp_lt (tgt := 16) C nd_PR_checkIndex_6 (by decide) (fun c2 => ?_) (fun c2 => absurd h1 c2)
  refine hm_iload_n C nd_PR_checkIndex_16 rfl ?_
  exact hm_iret C E (by omega) (by omega) (⟨rfl, rfl⟩) nd_PR_checkIndex_17
set_option maxHeartbeats 4000000 in
set_option maxRecDepth 100000 in
theorem ct_OB_checkIndex {l : Launch} {D : va_G} {BG : Nat → Option Cell} (M : hm_M) (i s : Int32) (h0 : ¬ i < 0) (h1 : i < s) : hm_ct l D BG ny_OB_checkIndex prog_20_method_17_code 2 (some .int) 1 22 0 0 [.int i, .int s] M (fun r M' => r = some (.int i) ∧ M' = M) := by
  refine hm_ct_of (by decide +kernel) (by exact Nat.le_of_ble_eq_true rfl) ?_
  intro X C E
  have C : hm_C X l D BG prog_20_method_17_code "java/util/Objects" "checkIndex" 2 1 22 0 0 := C
  refine hm_lv (lv' := [(0, .int i), (1, .int s)]) rfl ?_
  refine hm_iload_n C nd_OB_checkIndex_0 rfl ?_
  refine hm_iload_n C nd_OB_checkIndex_1 rfl ?_
  refine hm_null C nd_OB_checkIndex_2 ?_
  refine hm_callS C (ct_PR_checkIndex M i s h0 h1) nV_PR_checkIndex nq_OB_105 nu_PR_checkIndex rfl (rest := []) rfl (Nat.le_of_ble_eq_true rfl) (by decide) (by decide) (by omega) (by omega) nd_OB_checkIndex_3 (fun r M1 hp => ?_)
  obtain ⟨rfl, eM1⟩ := hp
  rw [eM1]
  refine hm_stk (st' := [.int i]) rfl ?_
  exact hm_iret C E (by omega) (by omega) (⟨rfl, rfl⟩) nd_OB_checkIndex_6
set_option maxHeartbeats 4000000 in
set_option maxRecDepth 100000 in
theorem ct_AL_elementData {l : Launch} {D : va_G} {BG : Nat → Option Cell} (M : hm_M) (a ea n c i : Nat) (g : Nat → Option Nat) (m : Int32) (ha : M a = some (hm_ob 0 [.ref ea, .int (nI n), .int m])) (hg : M ea = some (hm_ar D 0 c g)) (hcN : c < 2 ^ 31) (hc : i < c) : hm_ct l D BG ny_AL_elementData prog_16_method_18_code 2 (some (.object "java/lang/Object")) 0 0 0 0 [.ref a, .int (nI i)] M (fun r M' => r = some (va_rf (g i)) ∧ M' = M) := by
  refine hm_ct_of (by decide +kernel) (by exact Nat.le_of_ble_eq_true rfl) ?_
  intro X C E
  have C : hm_C X l D BG prog_16_method_18_code "java/util/ArrayList" "elementData" 2 0 0 0 0 := C
  refine hm_lv (lv' := [(0, .ref a), (1, .int (nI i))]) rfl ?_
  refine hm_aload_n C nd_AL_elementData_0 rfl ?_
  refine hm_get C nF_AL_9 ha rfl nd_AL_elementData_1 ?_
  refine hm_iload_n C nd_AL_elementData_4 rfl ?_
  refine hm_aald C rfl hg rfl hc hcN nd_AL_elementData_5 ?_
  exact hm_aret (r := (g i)) C E (Or.inl ⟨_, rfl⟩) (by omega) (by omega) (⟨rfl, rfl⟩) nd_AL_elementData_6
set_option maxHeartbeats 4000000 in
set_option maxRecDepth 100000 in
theorem ct_AL_get {l : Launch} {D : va_G} {BG : Nat → Option Cell} (M : hm_M) (a ea n c i : Nat) (g : Nat → Option Nat) (m : Int32) (ha : M a = some (hm_ob 0 [.ref ea, .int (nI n), .int m])) (hg : M ea = some (hm_ar D 0 c g)) (hcN : c < 2 ^ 31) (hi : i < n) (hn : n ≤ c) : hm_ct l D BG ny_AL_get prog_16_method_20_code 2 (some (.object "java/lang/Object")) 2 43 0 0 [.ref a, .int (nI i)] M (fun r M' => r = some (va_rf (g i)) ∧ M' = M) := by
  refine hm_ct_of (by decide +kernel) (by exact Nat.le_of_ble_eq_true rfl) ?_
  intro X C E
  have C : hm_C X l D BG prog_16_method_20_code "java/util/ArrayList" "get" 2 2 43 0 0 := C
  refine hm_lv (lv' := [(0, .ref a), (1, .int (nI i))]) rfl ?_
  refine hm_iload_n C nd_AL_get_0 rfl ?_
  refine hm_aload_n C nd_AL_get_1 rfl ?_
  refine hm_get C nF_AL_48 ha rfl nd_AL_get_2 ?_
  refine hm_callS C (ct_OB_checkIndex M (nI i) (nI n) (nI_pos (by omega)) (nI_lt hi (by omega))) nV_OB_checkIndex nq_AL_118 nu_OB_checkIndex rfl (rest := []) rfl (Nat.le_of_ble_eq_true rfl) (by decide) (by decide) (by omega) (by omega) nd_AL_get_5 (fun r M1 hp => ?_)
  obtain ⟨rfl, eM1⟩ := hp
  rw [eM1]
  refine hm_stk (st' := [.int (nI i)]) rfl ?_
  refine hm_pop C nd_AL_get_8 rfl ?_
  refine hm_aload_n C nd_AL_get_9 rfl ?_
  refine hm_iload_n C nd_AL_get_10 rfl ?_
  refine hm_callV C (ct_AL_elementData M a ea n c i g m ha hg hcN (by omega)) nV_AL_elementData [.int (nI i)] rfl ha rfl nq_AL_123 nj_AL_elementData nx_AL_elementData rfl (rest := []) rfl (Nat.le_of_ble_eq_true rfl) (by decide) (by decide) (by omega) (by omega) nd_AL_get_11 (fun r M2 hp => ?_)
  obtain ⟨rfl, eM2⟩ := hp
  rw [eM2]
  refine hm_stk (st' := [va_rf (g i)]) rfl ?_
  exact hm_aret (r := (g i)) C E (Or.inl ⟨_, rfl⟩) (by omega) (by omega) (⟨rfl, rfl⟩) nd_AL_get_14
set_option maxHeartbeats 4000000 in
set_option maxRecDepth 100000 in
theorem ct_AS_newLength {l : Launch} {D : va_G} {BG : Nat → Option Cell} (M : hm_M) (c : Nat) (h2 : 2 ≤ c) (h4 : c ≤ 40000) : hm_ct l D BG ny_AS_newLength prog_23_method_27_code 4 (some .int) 1 21 0 0 [.int (nI c), .int (nI 1), .int (nI (c / 2))] M (fun r M' => r = some (.int (nI (c + c / 2))) ∧ M' = M) := by
  refine hm_ct_of (by decide +kernel) (by exact Nat.le_of_ble_eq_true rfl) ?_
  intro X C E
  have C : hm_C X l D BG prog_23_method_27_code "jdk/internal/util/ArraysSupport" "newLength" 4 1 21 0 0 := C
  refine hm_lv (lv' := [(0, .int (nI c)), (1, .int (nI 1)), (2, .int (nI (c / 2)))]) rfl ?_
  refine hm_iload_n C nd_AS_newLength_0 rfl ?_
  refine hm_iload_n C nd_AS_newLength_1 rfl ?_
  refine hm_iload_n C nd_AS_newLength_2 rfl ?_
  refine hm_mmax (rest := [.int (nI c)]) C nq_AS_194 (by decide) (Nat.le_of_ble_eq_true rfl) (by omega) (by omega) nd_AS_newLength_3 ?_
  refine hm_iadd C nd_AS_newLength_6 ?_
  rw [li_len h2 h4]
  refine hm_istore_n C [(3, .int (nI (c + c / 2))), (0, .int (nI c)), (1, .int (nI 1)), (2, .int (nI (c / 2)))] nd_AS_newLength_7 (by decide) rfl ?_
  refine hm_iconst (v := 0) C nd_AS_newLength_8 (by decide) ?_
  refine hm_iload_n C nd_AS_newLength_9 rfl ?_
  refine hm_icmp_ge (tgt := 21) C nd_AS_newLength_10 (by decide) (fun c1 => absurd c1 (nI_nle (by omega) (by omega))) (fun c1 => ?_)
  refine hm_iload_n C nd_AS_newLength_13 rfl ?_
  refine hm_ldc (v := 2147483639) C nk_AS_200 nd_AS_newLength_14 ?_
  refine hm_icmp_gt (tgt := 21) C nd_AS_newLength_16 (by decide) (fun c2 => absurd c2 (show ¬ nI 2147483639 < nI (c + c / 2) from nI_nlt (by omega) (by decide))) (fun c2 => ?_)
  refine hm_iload_n C nd_AS_newLength_19 rfl ?_
  exact hm_iret C E (by omega) (by omega) (⟨rfl, rfl⟩) nd_AS_newLength_20
set_option maxHeartbeats 4000000 in
set_option maxRecDepth 100000 in
theorem ct_AR_copyOf2 {l : Launch} {D : va_G} {BG : Nat → Option Cell} (M : hm_M) (ea c : Nat) (g : Nat → Option Nat) (hg : M ea = some (hm_ar D 0 c g)) (hel : hm_el M c g) (h2 : 2 ≤ c) (h4 : c ≤ 40000) : hm_ct l D BG ny_AR_copyOf2 prog_17_method_120_code 4 (some (.array (.object "java/lang/Object"))) 1 40 1 (c + c / 2) [.ref ea, .int (nI (c + c / 2)), .ref (D.2 999 1)] M (fun r M' => ∃ q : Nat, r = some (.ref q) ∧ M q = none ∧ M' = hm_up M q (hm_ar D 0 (c + c / 2) (va_cpy g (fun _ => none) 0 0 c))) := by
  refine hm_ct_of (by decide +kernel) (by exact Nat.le_of_ble_eq_true rfl) ?_
  intro X C E
  have C : hm_C X l D BG prog_17_method_120_code "java/util/Arrays" "copyOf" 4 1 40 1 (c + c / 2) := C
  refine hm_lv (lv' := [(0, .ref ea), (1, .int (nI (c + c / 2))), (2, .ref (D.2 999 1))]) rfl ?_
  refine hm_aload_n C nd_AR_copyOf2_0 rfl ?_
  refine hm_ldcM C nc_AR_110 nd_AR_copyOf2_1 ?_
  refine hm_acmp_ne (tgt := 13) (rx := (some (D.2 999 1))) (ry := (some (D.2 999 1))) C nd_AR_copyOf2_3 (by decide) (fun c1 => absurd rfl c1) (fun c1 => ?_)
  refine hm_iload_n C nd_AR_copyOf2_6 rfl ?_
  refine hm_anew (t := 0) C rfl nc_AR_2 nr_OJ rfl (by omega) (by omega) (by omega) nd_AR_copyOf2_7 (fun q hq => ?_)
  generalize hM1 : hm_up M q (hm_ar D 0 (c + c / 2) (fun _ => none)) = M1
  have aM1_0 : M1 ea = some (hm_ar D 0 c g) := by rw [← hM1, hm_up_n _ _ (hm_neF hg hq)]; exact hg
  have aM1_1 : M1 q = some (hm_ar D 0 (c + c / 2) (fun _ => none)) := by rw [← hM1]; exact hm_up_s _ _ _
  refine hm_goto (tgt := 24) C nd_AR_copyOf2_10 (by decide) ?_
  refine hm_astore_n C [(3, .ref q), (0, .ref ea), (1, .int (nI (c + c / 2))), (2, .ref (D.2 999 1))] nd_AR_copyOf2_24 (by decide) rfl ?_
  refine hm_aload_n C nd_AR_copyOf2_25 rfl ?_
  refine hm_iconst (v := 0) C nd_AR_copyOf2_26 (by decide) ?_
  refine hm_aload_n C nd_AR_copyOf2_27 rfl ?_
  refine hm_iconst (v := 0) C nd_AR_copyOf2_28 (by decide) ?_
  refine hm_aload_n C nd_AR_copyOf2_29 rfl ?_
  refine hm_alen C (t := 0) rfl aM1_0 nd_AR_copyOf2_30 ?_
  refine hm_iload_n C nd_AR_copyOf2_31 rfl ?_
  refine hm_mmin (rest := [.int 0, .ref q, .int 0, .ref ea]) C nq_AR_304 (by decide) (Nat.le_of_ble_eq_true rfl) (by omega) (by omega) nd_AR_copyOf2_32 ?_
  rw [if_neg (nI_nlt (by omega) (by omega))]
  refine hm_acopy (rest := []) C aM1_0 aM1_1 (fun i hi y hy => ?_) (Nat.le_refl c) (by omega) (by omega) rfl nat_al nat_an nat_as nat_ai (by decide) (by decide +kernel) nd_AR_copyOf2_35 ?_
  · obtain ⟨ci, vs, r, m1, m2, m3⟩ := hel i hi y hy
    exact ⟨ci, vs, r, by rw [← hM1, hm_up_n _ _ (hm_neF m1 hq)]; exact m1, m2, m3⟩
  · rw [← hM1, hm_up_up]
    refine hm_aload_n C nd_AR_copyOf2_38 rfl ?_
    exact hm_aret (r := (some q)) C E (Or.inr ⟨_, rfl⟩) (by omega) (by omega) (⟨q, rfl, hq, rfl⟩) nd_AR_copyOf2_39
set_option maxHeartbeats 4000000 in
set_option maxRecDepth 100000 in
theorem ct_AR_copyOf {l : Launch} {D : va_G} {BG : Nat → Option Cell} (M : hm_M) (ea c : Nat) (g : Nat → Option Nat) (hg : M ea = some (hm_ar D 0 c g)) (hel : hm_el M c g) (h2 : 2 ≤ c) (h4 : c ≤ 40000) : hm_ct l D BG ny_AR_copyOf prog_17_method_119_code 2 (some (.array (.object "java/lang/Object"))) 2 63 1 (c + c / 2) [.ref ea, .int (nI (c + c / 2))] M (fun r M' => ∃ q : Nat, r = some (.ref q) ∧ M q = none ∧ M' = hm_up M q (hm_ar D 0 (c + c / 2) (va_cpy g (fun _ => none) 0 0 c))) := by
  refine hm_ct_of (by decide +kernel) (by exact Nat.le_of_ble_eq_true rfl) ?_
  intro X C E
  have C : hm_C X l D BG prog_17_method_119_code "java/util/Arrays" "copyOf" 2 2 63 1 (c + c / 2) := C
  refine hm_lv (lv' := [(0, .ref ea), (1, .int (nI (c + c / 2)))]) rfl ?_
  refine hm_aload_n C nd_AR_copyOf_0 rfl ?_
  refine hm_iload_n C nd_AR_copyOf_1 rfl ?_
  refine hm_aload_n C nd_AR_copyOf_2 rfl ?_
  refine hm_getC (rest := [.int (nI (c + c / 2)), .ref ea]) C hg nat_gc nat_gd nat_gs nat_gi nat_gn (by decide) (Nat.le_of_ble_eq_true rfl) nd_AR_copyOf_3 ?_
  refine hm_callS C (ct_AR_copyOf2 M ea c g hg hel h2 h4) nV_AR_copyOf2 nq_AR_300 nu_AR_copyOf2 rfl (rest := []) rfl (Nat.le_of_ble_eq_true rfl) (by decide) (by decide) (by omega) (by omega) nd_AR_copyOf_6 (fun r M1 hp => ?_)
  obtain ⟨q, rfl, hq, e1⟩ := hp
  refine hm_stk (st' := [.ref q]) rfl ?_
  exact hm_aret (r := (some q)) C E (Or.inr ⟨_, rfl⟩) (by omega) (by omega) (⟨q, rfl, hq, e1⟩) nd_AR_copyOf_9
set_option maxHeartbeats 4000000 in
set_option maxRecDepth 100000 in
theorem ct_AL_grow2_a {l : Launch} {D : va_G} {BG : Nat → Option Cell} (M : hm_M) (a : Nat) (s m : Int32) (ha : M a = some (hm_ob 0 [.ref (D.2 999 0), .int s, .int m])) : hm_ct l D BG ny_AL_grow2 prog_16_method_6_code 4 (some (.array (.object "java/lang/Object"))) 3 84 1 10 [.ref a, .int (nI 1)] M (fun r M' => ∃ q : Nat, r = some (.ref q) ∧ M q = none ∧ M' = hm_up (hm_up M q (hm_ar D 0 10 (fun _ => none))) a (hm_ob 0 [.ref q, .int s, .int m])) := by
  refine hm_ct_of (by decide +kernel) (by exact Nat.le_of_ble_eq_true rfl) ?_
  intro X C E
  have C : hm_C X l D BG prog_16_method_6_code "java/util/ArrayList" "grow" 4 3 84 1 10 := C
  refine hm_lv (lv' := [(0, .ref a), (1, .int (nI 1))]) rfl ?_
  refine hm_aload_n C nd_AL_grow2_0 rfl ?_
  refine hm_get C nF_AL_9 ha rfl nd_AL_grow2_1 ?_
  refine hm_alenE C nd_AL_grow2_4 ?_
  refine hm_istore_n C [(2, .int 0), (0, .ref a), (1, .int (nI 1))] nd_AL_grow2_5 (by decide) rfl ?_
  refine hm_iload_n C nd_AL_grow2_6 rfl ?_
  refine hm_if_gt (tgt := 20) C nd_AL_grow2_7 (by decide) (fun c1 => absurd c1 (by decide)) (fun c1 => ?_)
  refine hm_aload_n C nd_AL_grow2_10 rfl ?_
  refine hm_get C nF_AL_9 ha rfl nd_AL_grow2_11 ?_
  refine hm_gets C nst_AL nd_AL_grow2_14 ?_
  refine hm_acmp_eq (tgt := 45) (rx := (some (D.2 999 0))) (ry := (some (D.2 999 0))) C nd_AL_grow2_17 (by decide) (fun c2 => ?_) (fun c2 => absurd rfl c2)
  refine hm_aload_n C nd_AL_grow2_45 rfl ?_
  refine hm_bipush (v := 10) C nd_AL_grow2_46 (by decide) ?_
  refine hm_iload_n C nd_AL_grow2_48 rfl ?_
  refine hm_mmax (rest := [.ref a]) C nq_AL_79 (by decide) (Nat.le_of_ble_eq_true rfl) (by omega) (by omega) nd_AL_grow2_49 ?_
  rw [if_neg (by decide)]
  refine hm_anew (t := 0) (N := 10) C rfl nc_AL_7 nr_OJ (by decide) (by omega) (by omega) (by omega) nd_AL_grow2_52 (fun q hq => ?_)
  generalize hM1 : hm_up M q (hm_ar D 0 10 (fun _ => none)) = M1
  have fM1_0 : M1 a = some (hm_ob 0 [.ref (D.2 999 0), .int s, .int m]) := by rw [← hM1, hm_up_n _ _ (hm_neF ha hq)]; exact ha
  have aM1_0 : M1 q = some (hm_ar D 0 10 (fun _ => none)) := by rw [← hM1]; exact hm_up_s _ _ _
  refine hm_dup_x1 C nd_AL_grow2_55 rfl rfl ?_
  refine hm_put C nF_AL_9 fM1_0 (Nat.le_of_ble_eq_true rfl) rfl rfl nd_AL_grow2_56 ?_
  refine hm_eqM (M' := hm_up M1 a (hm_ob 0 [.ref q, .int s, .int m])) rfl ?_
  generalize hM2 : hm_up M1 a (hm_ob 0 [.ref q, .int s, .int m]) = M2
  have aM2_0 : M2 q = some (hm_ar D 0 10 (fun _ => none)) := by rw [← hM2, hm_up_n _ _ (Ne.symm (hm_neA fM1_0 aM1_0))]; exact aM1_0
  have fM2_0 : M2 a = some (hm_ob 0 [.ref q, .int s, .int m]) := by rw [← hM2]; exact hm_up_s _ _ _
  exact hm_aret (r := (some q)) C E (Or.inr ⟨_, rfl⟩) (by omega) (by omega) (⟨q, rfl, hq, by rw [← hM2, ← hM1]⟩) nd_AL_grow2_59
set_option maxHeartbeats 4000000 in
set_option maxRecDepth 100000 in
theorem ct_AL_grow2_b {l : Launch} {D : va_G} {BG : Nat → Option Cell} (M : hm_M) (a ea c : Nat) (g : Nat → Option Nat) (s m : Int32) (ha : M a = some (hm_ob 0 [.ref ea, .int s, .int m])) (hg : M ea = some (hm_ar D 0 c g)) (hel : hm_el M c g) (h2 : 2 ≤ c) (h4 : c ≤ 40000) : hm_ct l D BG ny_AL_grow2 prog_16_method_6_code 4 (some (.array (.object "java/lang/Object"))) 3 84 1 (c + c / 2) [.ref a, .int (nI (c + 1))] M (fun r M' => ∃ q : Nat, r = some (.ref q) ∧ M q = none ∧ M' = hm_up (hm_up M q (hm_ar D 0 (c + c / 2) (va_cpy g (fun _ => none) 0 0 c))) a (hm_ob 0 [.ref q, .int s, .int m])) := by
  refine hm_ct_of (by decide +kernel) (by exact Nat.le_of_ble_eq_true rfl) ?_
  intro X C E
  have C : hm_C X l D BG prog_16_method_6_code "java/util/ArrayList" "grow" 4 3 84 1 (c + c / 2) := C
  refine hm_lv (lv' := [(0, .ref a), (1, .int (nI (c + 1)))]) rfl ?_
  refine hm_aload_n C nd_AL_grow2_0 rfl ?_
  refine hm_get C nF_AL_9 ha rfl nd_AL_grow2_1 ?_
  refine hm_alen C (t := 0) rfl hg nd_AL_grow2_4 ?_
  refine hm_istore_n C [(2, .int (nI c)), (0, .ref a), (1, .int (nI (c + 1)))] nd_AL_grow2_5 (by decide) rfl ?_
  refine hm_iload_n C nd_AL_grow2_6 rfl ?_
  refine hm_if_gt (tgt := 20) C nd_AL_grow2_7 (by decide) (fun c1 => ?_) (fun c1 => absurd (show nI 0 < nI c from nI_lt (by omega) (by omega)) c1)
  refine hm_iload_n C nd_AL_grow2_20 rfl ?_
  refine hm_iload_n C nd_AL_grow2_21 rfl ?_
  refine hm_iload_n C nd_AL_grow2_22 rfl ?_
  refine hm_isub C nd_AL_grow2_23 ?_
  refine hm_iload_n C nd_AL_grow2_24 rfl ?_
  refine hm_iconst (v := 1) C nd_AL_grow2_25 (by decide) ?_
  refine hm_ishr C nd_AL_grow2_26 ?_
  refine hm_stk (st' := [.int (nI (c / 2)), .int (nI 1), .int (nI c)]) (by rw [li_hf h4, li_d1 h4]) ?_
  refine hm_callS C (ct_AS_newLength M c h2 h4) nV_AS_newLength nq_AL_73 nu_AS_newLength rfl (rest := []) rfl (Nat.le_of_ble_eq_true rfl) (by decide) (by decide) (by omega) (by omega) nd_AL_grow2_27 (fun r M1 hp => ?_)
  obtain ⟨rfl, eM1⟩ := hp
  rw [eM1]
  refine hm_stk (st' := [.int (nI (c + c / 2))]) rfl ?_
  refine hm_istore_n C [(3, .int (nI (c + c / 2))), (2, .int (nI c)), (0, .ref a), (1, .int (nI (c + 1)))] nd_AL_grow2_30 (by decide) rfl ?_
  refine hm_aload_n C nd_AL_grow2_31 rfl ?_
  refine hm_aload_n C nd_AL_grow2_32 rfl ?_
  refine hm_get C nF_AL_9 ha rfl nd_AL_grow2_33 ?_
  refine hm_iload_n C nd_AL_grow2_36 rfl ?_
  refine hm_callS C (ct_AR_copyOf M ea c g hg hel h2 h4) nV_AR_copyOf nq_AL_66 nu_AR_copyOf rfl (rest := [.ref a]) rfl (Nat.le_of_ble_eq_true rfl) (by decide) (by decide) (by omega) (by omega) nd_AL_grow2_37 (fun r M2 hp => ?_)
  obtain ⟨q, rfl, hq, e2⟩ := hp
  have h3 : M2 a = some (hm_ob 0 [.ref ea, .int s, .int m]) := by rw [e2, hm_up_n _ _ (hm_neF ha hq)]; exact ha
  refine hm_stk (st' := [.ref q, .ref a]) rfl ?_
  refine hm_dup_x1 C nd_AL_grow2_40 rfl rfl ?_
  refine hm_put C nF_AL_9 h3 (Nat.le_of_ble_eq_true rfl) rfl rfl nd_AL_grow2_41 ?_
  refine hm_eqM (M' := hm_up M2 a (hm_ob 0 [.ref q, .int s, .int m])) rfl ?_
  generalize hM3 : hm_up M2 a (hm_ob 0 [.ref q, .int s, .int m]) = M3
  have fM3_0 : M3 a = some (hm_ob 0 [.ref q, .int s, .int m]) := by rw [← hM3]; exact hm_up_s _ _ _
  exact hm_aret (r := (some q)) C E (Or.inr ⟨_, rfl⟩) (by omega) (by omega) (⟨q, rfl, hq, by rw [← hM3, e2]⟩) nd_AL_grow2_44
set_option maxHeartbeats 4000000 in
set_option maxRecDepth 100000 in
theorem ct_AL_grow_a {l : Launch} {D : va_G} {BG : Nat → Option Cell} (M : hm_M) (a : Nat) (m : Int32) (ha : M a = some (hm_ob 0 [.ref (D.2 999 0), .int (nI 0), .int m])) : hm_ct l D BG ny_AL_grow prog_16_method_7_code 1 (some (.array (.object "java/lang/Object"))) 4 107 1 10 [.ref a] M (fun r M' => ∃ q : Nat, r = some (.ref q) ∧ M q = none ∧ M' = hm_up (hm_up M q (hm_ar D 0 10 (fun _ => none))) a (hm_ob 0 [.ref q, .int (nI 0), .int m])) := by
  refine hm_ct_of (by decide +kernel) (by exact Nat.le_of_ble_eq_true rfl) ?_
  intro X C E
  have C : hm_C X l D BG prog_16_method_7_code "java/util/ArrayList" "grow" 1 4 107 1 10 := C
  refine hm_lv (lv' := [(0, .ref a)]) rfl ?_
  refine hm_aload_n C nd_AL_grow_0 rfl ?_
  refine hm_aload_n C nd_AL_grow_1 rfl ?_
  refine hm_get C nF_AL_48 ha rfl nd_AL_grow_2 ?_
  refine hm_iconst (v := 1) C nd_AL_grow_5 (by decide) ?_
  refine hm_iadd C nd_AL_grow_6 ?_
  refine hm_stk (st' := [.int (nI 1), .ref a]) rfl ?_
  refine hm_callV C (ct_AL_grow2_a M a (nI 0) m ha) nV_AL_grow2 [.int (nI 1)] rfl ha rfl nq_AL_69 nj_AL_grow2 nx_AL_grow2 rfl (rest := []) rfl (Nat.le_of_ble_eq_true rfl) (by decide) (by decide) (by omega) (by omega) nd_AL_grow_7 (fun r M1 hp => ?_)
  obtain ⟨q, rfl, hq, e1⟩ := hp
  refine hm_stk (st' := [.ref q]) rfl ?_
  exact hm_aret (r := (some q)) C E (Or.inr ⟨_, rfl⟩) (by omega) (by omega) (⟨q, rfl, hq, e1⟩) nd_AL_grow_10
set_option maxHeartbeats 4000000 in
set_option maxRecDepth 100000 in
theorem ct_AL_grow_b {l : Launch} {D : va_G} {BG : Nat → Option Cell} (M : hm_M) (a ea c : Nat) (g : Nat → Option Nat) (m : Int32) (ha : M a = some (hm_ob 0 [.ref ea, .int (nI c), .int m])) (hg : M ea = some (hm_ar D 0 c g)) (hel : hm_el M c g) (h2 : 2 ≤ c) (h4 : c ≤ 40000) : hm_ct l D BG ny_AL_grow prog_16_method_7_code 1 (some (.array (.object "java/lang/Object"))) 4 107 1 (c + c / 2) [.ref a] M (fun r M' => ∃ q : Nat, r = some (.ref q) ∧ M q = none ∧ M' = hm_up (hm_up M q (hm_ar D 0 (c + c / 2) (va_cpy g (fun _ => none) 0 0 c))) a (hm_ob 0 [.ref q, .int (nI c), .int m])) := by
  refine hm_ct_of (by decide +kernel) (by exact Nat.le_of_ble_eq_true rfl) ?_
  intro X C E
  have C : hm_C X l D BG prog_16_method_7_code "java/util/ArrayList" "grow" 1 4 107 1 (c + c / 2) := C
  refine hm_lv (lv' := [(0, .ref a)]) rfl ?_
  refine hm_aload_n C nd_AL_grow_0 rfl ?_
  refine hm_aload_n C nd_AL_grow_1 rfl ?_
  refine hm_get C nF_AL_48 ha rfl nd_AL_grow_2 ?_
  refine hm_iconst (v := 1) C nd_AL_grow_5 (by decide) ?_
  refine hm_iadd C nd_AL_grow_6 ?_
  refine hm_stk (st' := [.int (nI (c + 1)), .ref a]) (by rw [nI_1]) ?_
  refine hm_callV C (ct_AL_grow2_b M a ea c g (nI c) m ha hg hel h2 h4) nV_AL_grow2 [.int (nI (c + 1))] rfl ha rfl nq_AL_69 nj_AL_grow2 nx_AL_grow2 rfl (rest := []) rfl (Nat.le_of_ble_eq_true rfl) (by decide) (by decide) (by omega) (by omega) nd_AL_grow_7 (fun r M1 hp => ?_)
  obtain ⟨q, rfl, hq, e1⟩ := hp
  refine hm_stk (st' := [.ref q]) rfl ?_
  exact hm_aret (r := (some q)) C E (Or.inr ⟨_, rfl⟩) (by omega) (by omega) (⟨q, rfl, hq, e1⟩) nd_AL_grow_10
end
section
set_option maxHeartbeats 4000000 in
set_option maxRecDepth 100000 in
theorem ct_AL_add2_a {l : Launch} {D : va_G} {BG : Nat → Option Cell} (M : hm_M) (a ea c n : Nat) (g : Nat → Option Nat) (m : Int32) (ha : M a = some (hm_ob 0 [.ref ea, .int (nI n), .int m])) (hg : M ea = some (hm_ar D 0 c g)) (hn : n < c) (h4 : c ≤ 65536) (x ci : Nat) (vs : List Value) (rc : vw_C) (hx : M x = some (hm_ob ci vs)) (hrc : hm_cl[ci]? = some rc) (hca : Cond.castable rc.1 "java/lang/Object" ∈ lw_tbl) : hm_ct l D BG ny_AL_add2 prog_16_method_24_code 4 none 5 127 0 0 [.ref a, .ref x, .ref ea, .int (nI n)] M (fun r M' => r = none ∧ M' = hm_up (hm_up M ea (hm_ar D 0 c (va_up g n (some x)))) a (hm_ob 0 [.ref ea, .int (nI (n + 1)), .int m])) := by
  refine hm_ct_of (by decide +kernel) (by exact Nat.le_of_ble_eq_true rfl) ?_
  intro X C E
  have C : hm_C X l D BG prog_16_method_24_code "java/util/ArrayList" "add" 4 5 127 0 0 := C
  refine hm_lv (lv' := [(0, .ref a), (1, .ref x), (2, .ref ea), (3, .int (nI n))]) rfl ?_
  refine hm_iload_n C nd_AL_add2_0 rfl ?_
  refine hm_aload_n C nd_AL_add2_1 rfl ?_
  refine hm_alen C (t := 0) rfl hg nd_AL_add2_2 ?_
  refine hm_icmp_ne (tgt := 11) C nd_AL_add2_3 (by decide) (fun c1 => ?_) (fun c1 => absurd ((nI_eq (by omega) (by omega)).mp c1) (by omega))
  refine hm_aload_n C nd_AL_add2_11 rfl ?_
  refine hm_iload_n C nd_AL_add2_12 rfl ?_
  refine hm_aload_n C nd_AL_add2_13 rfl ?_
  refine hm_aast C (t := 0) rfl hg hx hrc (Or.inr hca) rfl hn (by omega) nd_AL_add2_14 ?_
  generalize hM1 : hm_up M ea (hm_ar D 0 c (va_up g n (some x))) = M1
  have fM1_0 : M1 a = some (hm_ob 0 [.ref ea, .int (nI n), .int m]) := by rw [← hM1, hm_up_n _ _ (hm_neA ha hg)]; exact ha
  have aM1_0 : M1 ea = some (hm_ar D 0 c (va_up g n (some x))) := by rw [← hM1]; exact hm_up_s _ _ _
  refine hm_aload_n C nd_AL_add2_15 rfl ?_
  refine hm_iload_n C nd_AL_add2_16 rfl ?_
  refine hm_iconst (v := 1) C nd_AL_add2_17 (by decide) ?_
  refine hm_iadd C nd_AL_add2_18 ?_
  rw [nI_1]
  refine hm_put C nF_AL_48 fM1_0 (Nat.le_of_ble_eq_true rfl) rfl rfl nd_AL_add2_19 ?_
  refine hm_eqM (M' := hm_up M1 a (hm_ob 0 [.ref ea, .int (nI (n + 1)), .int m])) rfl ?_
  generalize hM2 : hm_up M1 a (hm_ob 0 [.ref ea, .int (nI (n + 1)), .int m]) = M2
  have aM2_0 : M2 ea = some (hm_ar D 0 c (va_up g n (some x))) := by rw [← hM2, hm_up_n _ _ (Ne.symm (hm_neA fM1_0 aM1_0))]; exact aM1_0
  have fM2_0 : M2 a = some (hm_ob 0 [.ref ea, .int (nI (n + 1)), .int m]) := by rw [← hM2]; exact hm_up_s _ _ _
  exact hm_vret C E (by omega) (by omega) (⟨rfl, by rw [← hM2, ← hM1]⟩) nd_AL_add2_22
set_option maxHeartbeats 4000000 in
set_option maxRecDepth 100000 in
theorem ct_AL_add2_b {l : Launch} {D : va_G} {BG : Nat → Option Cell} (M : hm_M) (a : Nat) (m : Int32) (ha : M a = some (hm_ob 0 [.ref (D.2 999 0), .int (nI 0), .int m])) (x ci : Nat) (vs : List Value) (rc : vw_C) (hx : M x = some (hm_ob ci vs)) (hrc : hm_cl[ci]? = some rc) (hca : Cond.castable rc.1 "java/lang/Object" ∈ lw_tbl) : hm_ct l D BG ny_AL_add2 prog_16_method_24_code 4 none 5 127 1 10 [.ref a, .ref x, .ref (D.2 999 0), .int (nI 0)] M (fun r M' => ∃ q : Nat, r = none ∧ M q = none ∧ M' = hm_up (hm_up M q (hm_ar D 0 10 (va_up (fun _ => none) 0 (some x)))) a (hm_ob 0 [.ref q, .int (nI 1), .int m])) := by
  refine hm_ct_of (by decide +kernel) (by exact Nat.le_of_ble_eq_true rfl) ?_
  intro X C E
  have C : hm_C X l D BG prog_16_method_24_code "java/util/ArrayList" "add" 4 5 127 1 10 := C
  refine hm_lv (lv' := [(0, .ref a), (1, .ref x), (2, .ref (D.2 999 0)), (3, .int (nI 0))]) rfl ?_
  refine hm_iload_n C nd_AL_add2_0 rfl ?_
  refine hm_aload_n C nd_AL_add2_1 rfl ?_
  refine hm_alenE C nd_AL_add2_2 ?_
  refine hm_icmp_ne (tgt := 11) C nd_AL_add2_3 (by decide) (fun c1 => absurd rfl c1) (fun c1 => ?_)
  refine hm_aload_n C nd_AL_add2_6 rfl ?_
  refine hm_callV C (ct_AL_grow_a M a m ha) nV_AL_grow [] rfl ha rfl nq_AL_129 nj_AL_grow nx_AL_grow rfl (rest := []) rfl (Nat.le_of_ble_eq_true rfl) (by decide) (by decide) (by omega) (by omega) nd_AL_add2_7 (fun r M1 hp => ?_)
  obtain ⟨q, rfl, hq, e1⟩ := hp
  have h1 : M1 a = some (hm_ob 0 [.ref q, .int (nI 0), .int m]) := by rw [e1]; exact hm_up_s _ _ _
  have h2 : M1 q = some (hm_ar D 0 10 (fun _ => none)) := by rw [e1, hm_up_n _ _ (Ne.symm (hm_neF ha hq))]; exact hm_up_s _ _ _
  have h3 : M1 x = some (hm_ob ci vs) ∨ x = a := by
    by_cases hxa : x = a
    · exact Or.inr hxa
    · refine Or.inl ?_
      rw [e1, hm_up_n _ _ hxa, hm_up_n _ _ (hm_neF hx hq)]
      exact hx
  obtain ⟨ci2, vs2, rc2, k1, k2, k3⟩ : ∃ ci2 vs2 rc2, M1 x = some (hm_ob ci2 vs2) ∧ hm_cl[ci2]? = some rc2 ∧ Cond.castable rc2.1 "java/lang/Object" ∈ lw_tbl := by
    rcases h3 with h | h
    · exact ⟨ci, vs, rc, h, hrc, hca⟩
    · subst h
      cases ha.symm.trans hx
      exact ⟨_, _, rc, h1, hrc, hca⟩
  refine hm_stk (st' := [.ref q]) rfl ?_
  refine hm_astore_n C [(2, .ref q), (0, .ref a), (1, .ref x), (3, .int (nI 0))] nd_AL_add2_10 (by decide) rfl ?_
  refine hm_aload_n C nd_AL_add2_11 rfl ?_
  refine hm_iload_n C nd_AL_add2_12 rfl ?_
  refine hm_aload_n C nd_AL_add2_13 rfl ?_
  refine hm_aast C (t := 0) (j := 0) rfl h2 k1 k2 (Or.inr k3) rfl (by omega) (by omega) nd_AL_add2_14 ?_
  generalize hM2 : hm_up M1 q (hm_ar D 0 10 (va_up (fun _ => none) 0 (some x))) = M2
  have fM2_0 : M2 a = some (hm_ob 0 [.ref q, .int (nI 0), .int m]) := by rw [← hM2, hm_up_n _ _ (hm_neA h1 h2)]; exact h1
  have aM2_0 : M2 q = some (hm_ar D 0 10 (va_up (fun _ => none) 0 (some x))) := by rw [← hM2]; exact hm_up_s _ _ _
  refine hm_aload_n C nd_AL_add2_15 rfl ?_
  refine hm_iload_n C nd_AL_add2_16 rfl ?_
  refine hm_iconst (v := 1) C nd_AL_add2_17 (by decide) ?_
  refine hm_iadd C nd_AL_add2_18 ?_
  rw [nI_1]
  refine hm_put C nF_AL_48 fM2_0 (Nat.le_of_ble_eq_true rfl) rfl rfl nd_AL_add2_19 ?_
  refine hm_eqM (M' := hm_up M2 a (hm_ob 0 [.ref q, .int (nI (0 + 1)), .int m])) rfl ?_
  generalize hM3 : hm_up M2 a (hm_ob 0 [.ref q, .int (nI (0 + 1)), .int m]) = M3
  have aM3_0 : M3 q = some (hm_ar D 0 10 (va_up (fun _ => none) 0 (some x))) := by rw [← hM3, hm_up_n _ _ (Ne.symm (hm_neA fM2_0 aM2_0))]; exact aM2_0
  have fM3_0 : M3 a = some (hm_ob 0 [.ref q, .int (nI (0 + 1)), .int m]) := by rw [← hM3]; exact hm_up_s _ _ _
  exact hm_vret C E (by omega) (by omega) (⟨q, rfl, hq, by rw [← hM3, ← hM2, e1, hm_up_cm (Ne.symm (hm_neF ha hq)), hm_up_up, hm_up_up]⟩) nd_AL_add2_22
set_option maxHeartbeats 4000000 in
set_option maxRecDepth 100000 in
theorem ct_AL_add2_c {l : Launch} {D : va_G} {BG : Nat → Option Cell} (M : hm_M) (a ea c : Nat) (g : Nat → Option Nat) (m : Int32) (ha : M a = some (hm_ob 0 [.ref ea, .int (nI c), .int m])) (hg : M ea = some (hm_ar D 0 c g)) (hel : hm_el M c g) (h2 : 2 ≤ c) (h4 : c ≤ 40000) (x ci : Nat) (vs : List Value) (rc : vw_C) (hx : M x = some (hm_ob ci vs)) (hrc : hm_cl[ci]? = some rc) (hca : Cond.castable rc.1 "java/lang/Object" ∈ lw_tbl) : hm_ct l D BG ny_AL_add2 prog_16_method_24_code 4 none 5 127 1 (c + c / 2) [.ref a, .ref x, .ref ea, .int (nI c)] M (fun r M' => ∃ q : Nat, r = none ∧ M q = none ∧ M' = hm_up (hm_up M q (hm_ar D 0 (c + c / 2) (va_up (va_cpy g (fun _ => none) 0 0 c) c (some x)))) a (hm_ob 0 [.ref q, .int (nI (c + 1)), .int m])) := by
  refine hm_ct_of (by decide +kernel) (by exact Nat.le_of_ble_eq_true rfl) ?_
  intro X C E
  have C : hm_C X l D BG prog_16_method_24_code "java/util/ArrayList" "add" 4 5 127 1 (c + c / 2) := C
  refine hm_lv (lv' := [(0, .ref a), (1, .ref x), (2, .ref ea), (3, .int (nI c))]) rfl ?_
  refine hm_iload_n C nd_AL_add2_0 rfl ?_
  refine hm_aload_n C nd_AL_add2_1 rfl ?_
  refine hm_alen C (t := 0) rfl hg nd_AL_add2_2 ?_
  refine hm_icmp_ne (tgt := 11) C nd_AL_add2_3 (by decide) (fun c1 => absurd rfl c1) (fun c1 => ?_)
  refine hm_aload_n C nd_AL_add2_6 rfl ?_
  refine hm_callV C (ct_AL_grow_b M a ea c g m ha hg hel h2 h4) nV_AL_grow [] rfl ha rfl nq_AL_129 nj_AL_grow nx_AL_grow rfl (rest := []) rfl (Nat.le_of_ble_eq_true rfl) (by decide) (by decide) (by omega) (by omega) nd_AL_add2_7 (fun r M1 hp => ?_)
  obtain ⟨q, rfl, hq, e1⟩ := hp
  have h1 : M1 a = some (hm_ob 0 [.ref q, .int (nI c), .int m]) := by rw [e1]; exact hm_up_s _ _ _
  have h3 : M1 q = some (hm_ar D 0 (c + c / 2) (va_cpy g (fun _ => none) 0 0 c)) := by rw [e1, hm_up_n _ _ (Ne.symm (hm_neF ha hq))]; exact hm_up_s _ _ _
  obtain ⟨ci2, vs2, rc2, k1, k2, k3⟩ : ∃ ci2 vs2 rc2, M1 x = some (hm_ob ci2 vs2) ∧ hm_cl[ci2]? = some rc2 ∧ Cond.castable rc2.1 "java/lang/Object" ∈ lw_tbl := by
    by_cases hxa : x = a
    · subst hxa
      cases ha.symm.trans hx
      exact ⟨_, _, rc, h1, hrc, hca⟩
    · refine ⟨ci, vs, rc, ?_, hrc, hca⟩
      rw [e1, hm_up_n _ _ hxa, hm_up_n _ _ (hm_neF hx hq)]
      exact hx
  refine hm_stk (st' := [.ref q]) rfl ?_
  refine hm_astore_n C [(2, .ref q), (0, .ref a), (1, .ref x), (3, .int (nI c))] nd_AL_add2_10 (by decide) rfl ?_
  refine hm_aload_n C nd_AL_add2_11 rfl ?_
  refine hm_iload_n C nd_AL_add2_12 rfl ?_
  refine hm_aload_n C nd_AL_add2_13 rfl ?_
  refine hm_aast C (t := 0) (j := c) rfl h3 k1 k2 (Or.inr k3) rfl (by omega) (by omega) nd_AL_add2_14 ?_
  generalize hM2 : hm_up M1 q (hm_ar D 0 (c + c / 2) (va_up (va_cpy g (fun _ => none) 0 0 c) c (some x))) = M2
  have fM2_0 : M2 a = some (hm_ob 0 [.ref q, .int (nI c), .int m]) := by rw [← hM2, hm_up_n _ _ (hm_neA h1 h3)]; exact h1
  have aM2_0 : M2 q = some (hm_ar D 0 (c + c / 2) (va_up (va_cpy g (fun _ => none) 0 0 c) c (some x))) := by rw [← hM2]; exact hm_up_s _ _ _
  refine hm_aload_n C nd_AL_add2_15 rfl ?_
  refine hm_iload_n C nd_AL_add2_16 rfl ?_
  refine hm_iconst (v := 1) C nd_AL_add2_17 (by decide) ?_
  refine hm_iadd C nd_AL_add2_18 ?_
  rw [nI_1]
  refine hm_put C nF_AL_48 fM2_0 (Nat.le_of_ble_eq_true rfl) rfl rfl nd_AL_add2_19 ?_
  refine hm_eqM (M' := hm_up M2 a (hm_ob 0 [.ref q, .int (nI (c + 1)), .int m])) rfl ?_
  generalize hM3 : hm_up M2 a (hm_ob 0 [.ref q, .int (nI (c + 1)), .int m]) = M3
  have aM3_0 : M3 q = some (hm_ar D 0 (c + c / 2) (va_up (va_cpy g (fun _ => none) 0 0 c) c (some x))) := by rw [← hM3, hm_up_n _ _ (Ne.symm (hm_neA fM2_0 aM2_0))]; exact aM2_0
  have fM3_0 : M3 a = some (hm_ob 0 [.ref q, .int (nI (c + 1)), .int m]) := by rw [← hM3]; exact hm_up_s _ _ _
  exact hm_vret C E (by omega) (by omega) (⟨q, rfl, hq, by rw [← hM3, ← hM2, e1, hm_up_cm (Ne.symm (hm_neF ha hq)), hm_up_up, hm_up_up]⟩) nd_AL_add2_22
set_option maxHeartbeats 4000000 in
set_option maxRecDepth 100000 in
/-- ArrayList.add(x) -/
theorem ct_AL_add {l : Launch} {D : va_G} {BG : Nat → Option Cell} (M : hm_M) (a ea c n : Nat) (f : Nat → Nat) (hR : li_R D M a ea c n f) (hE : li_E M n f) (h4 : c ≤ 40000) (x ci : Nat) (vs : List Value) (rc : vw_C) (hx : M x = some (hm_ob ci vs)) (hrc : hm_cl[ci]? = some rc) (hca : Cond.castable rc.1 "java/lang/Object" ∈ lw_tbl) : hm_ct l D BG ny_AL_add prog_16_method_25_code 2 (some .boolean) 6 150 (li_c c n - c) (4 * (li_c c n - c)) [.ref a, .ref x] M (fun r M' => r = some (.int 1) ∧ ∃ ea' : Nat, li_R D M' a ea' (li_c c n) (n + 1) (va_up f n x) ∧ (∀ q, q ≠ a → q ≠ ea' → M' q = M q) ∧ ((ea' = ea ∧ n < c) ∨ M ea' = none)) := by
  obtain ⟨m, ha, hnc, h⟩ := hR
  rcases h with ⟨rfl, rfl⟩ | ⟨h2, g, hg, hf, hno⟩
  · have hn0 : n = 0 := by omega
    subst hn0
    have hc : li_c 0 0 = 10 := rfl
    refine hm_ct_of (by decide +kernel) (by exact Nat.le_of_ble_eq_true rfl) ?_
    intro X C E
    have C : hm_C X l D BG prog_16_method_25_code "java/util/ArrayList" "add" 2 6 150 (li_c 0 0 - 0) (4 * (li_c 0 0 - 0)) := C
    refine hm_lv (lv' := [(0, .ref a), (1, .ref x)]) rfl ?_
    refine hm_aload_n C nd_AL_add_0 rfl ?_
    refine hm_dup C nd_AL_add_1 rfl ?_
    refine hm_get C nF_AL_63 ha rfl nd_AL_add_2 ?_
    refine hm_iconst (v := 1) C nd_AL_add_5 (by decide) ?_
    refine hm_iadd C nd_AL_add_6 ?_
    refine hm_put C nF_AL_63 ha (Nat.le_of_ble_eq_true rfl) rfl rfl nd_AL_add_7 ?_
    refine hm_eqM (M' := hm_up M a (hm_ob 0 [.ref (D.2 999 0), .int (nI 0), .int (m + 1)])) rfl ?_
    generalize hM1 : hm_up M a (hm_ob 0 [.ref (D.2 999 0), .int (nI 0), .int (m + 1)]) = M1
    have fM1_0 : M1 a = some (hm_ob 0 [.ref (D.2 999 0), .int (nI 0), .int (m + 1)]) := by rw [← hM1]; exact hm_up_s _ _ _
    obtain ⟨ci2, vs2, rc2, k1, k2, k3⟩ : ∃ ci2 vs2 rc2, M1 x = some (hm_ob ci2 vs2) ∧ hm_cl[ci2]? = some rc2 ∧ Cond.castable rc2.1 "java/lang/Object" ∈ lw_tbl := by
      by_cases hxa : x = a
      · subst hxa
        cases ha.symm.trans hx
        exact ⟨_, _, rc, fM1_0, hrc, hca⟩
      · exact ⟨ci, vs, rc, by rw [← hM1, hm_up_n _ _ hxa]; exact hx, hrc, hca⟩
    refine hm_aload_n C nd_AL_add_10 rfl ?_
    refine hm_aload_n C nd_AL_add_11 rfl ?_
    refine hm_aload_n C nd_AL_add_12 rfl ?_
    refine hm_get C nF_AL_9 fM1_0 rfl nd_AL_add_13 ?_
    refine hm_aload_n C nd_AL_add_16 rfl ?_
    refine hm_get C nF_AL_48 fM1_0 rfl nd_AL_add_17 ?_
    refine hm_callV C (ct_AL_add2_b M1 a (m + 1) fM1_0 x ci2 vs2 rc2 k1 k2 k3) nV_AL_add2 [.ref x, .ref (D.2 999 0), .int (nI 0)] rfl fM1_0 rfl nq_AL_131 nj_AL_add2 nx_AL_add2 rfl (rest := []) rfl (Nat.le_of_ble_eq_true rfl) (by decide) (by decide) (by omega) (by omega) nd_AL_add_20 (fun r M2 hp => ?_)
    obtain ⟨q, rfl, hq, e2⟩ := hp
    have hqa : q ≠ a := fun e => by rw [e, ← hM1, hm_up_s] at hq; cases hq
    rw [← hM1, hm_up_n _ _ hqa] at hq
    have e3 : M2 = hm_up (hm_up M q (hm_ar D 0 10 (va_up (fun _ => none) 0 (some x)))) a (hm_ob 0 [.ref q, .int (nI 1), .int (m + 1)]) := by rw [e2, ← hM1, hm_up_cm hqa, hm_up_up]
    clear hM1 e2
    subst e3
    refine hm_stk (st' := []) rfl ?_
    refine hm_iconst (v := 1) C nd_AL_add_23 (by decide) ?_
    exact hm_zret C E (by first | exact Or.inl rfl | exact Or.inr rfl) (by omega) (by omega) (⟨rfl, q, ⟨m + 1, hm_up_s _ _ _, by rw [hc]; omega, Or.inr ⟨by rw [hc]; omega, _, by rw [hm_up_n _ _ hqa, hc]; exact hm_up_s _ _ _, fun i hi => (by
        have i0 : i = 0 := by omega
        subst i0
        rw [va_up_self, va_up_self]), fun i hi => (by rw [va_up_ne _ _ (show i ≠ 0 by omega)])⟩⟩, fun z z1 z2 => by rw [hm_up_n _ _ z1, hm_up_n _ _ z2], Or.inr hq⟩) nd_AL_add_24
  · by_cases hn : n < c
    · have hc : li_c c n = c := if_neg (by omega)
      refine hm_ct_of (by decide +kernel) (by exact Nat.le_of_ble_eq_true rfl) ?_
      intro X C E
      have C : hm_C X l D BG prog_16_method_25_code "java/util/ArrayList" "add" 2 6 150 (li_c c n - c) (4 * (li_c c n - c)) := C
      refine hm_lv (lv' := [(0, .ref a), (1, .ref x)]) rfl ?_
      refine hm_aload_n C nd_AL_add_0 rfl ?_
      refine hm_dup C nd_AL_add_1 rfl ?_
      refine hm_get C nF_AL_63 ha rfl nd_AL_add_2 ?_
      refine hm_iconst (v := 1) C nd_AL_add_5 (by decide) ?_
      refine hm_iadd C nd_AL_add_6 ?_
      refine hm_put C nF_AL_63 ha (Nat.le_of_ble_eq_true rfl) rfl rfl nd_AL_add_7 ?_
      refine hm_eqM (M' := hm_up M a (hm_ob 0 [.ref ea, .int (nI n), .int (m + 1)])) rfl ?_
      generalize hM1 : hm_up M a (hm_ob 0 [.ref ea, .int (nI n), .int (m + 1)]) = M1
      have aM1_0 : M1 ea = some (hm_ar D 0 c g) := by rw [← hM1, hm_up_n _ _ (Ne.symm (hm_neA ha hg))]; exact hg
      have fM1_0 : M1 a = some (hm_ob 0 [.ref ea, .int (nI n), .int (m + 1)]) := by rw [← hM1]; exact hm_up_s _ _ _
      obtain ⟨ci2, vs2, rc2, k1, k2, k3⟩ : ∃ ci2 vs2 rc2, M1 x = some (hm_ob ci2 vs2) ∧ hm_cl[ci2]? = some rc2 ∧ Cond.castable rc2.1 "java/lang/Object" ∈ lw_tbl := by
        by_cases hxa : x = a
        · subst hxa
          cases ha.symm.trans hx
          exact ⟨_, _, rc, fM1_0, hrc, hca⟩
        · exact ⟨ci, vs, rc, by rw [← hM1, hm_up_n _ _ hxa]; exact hx, hrc, hca⟩
      refine hm_aload_n C nd_AL_add_10 rfl ?_
      refine hm_aload_n C nd_AL_add_11 rfl ?_
      refine hm_aload_n C nd_AL_add_12 rfl ?_
      refine hm_get C nF_AL_9 fM1_0 rfl nd_AL_add_13 ?_
      refine hm_aload_n C nd_AL_add_16 rfl ?_
      refine hm_get C nF_AL_48 fM1_0 rfl nd_AL_add_17 ?_
      refine hm_callV C (ct_AL_add2_a M1 a ea c n g (m + 1) fM1_0 aM1_0 hn (by omega) x ci2 vs2 rc2 k1 k2 k3) nV_AL_add2 [.ref x, .ref ea, .int (nI n)] rfl fM1_0 rfl nq_AL_131 nj_AL_add2 nx_AL_add2 rfl (rest := []) rfl (Nat.le_of_ble_eq_true rfl) (by decide) (by decide) (by omega) (by omega) nd_AL_add_20 (fun r M2 hp => ?_)
      obtain ⟨rfl, e2⟩ := hp
      have hea : ea ≠ a := Ne.symm (hm_neA ha hg)
      have e3 : M2 = hm_up (hm_up M ea (hm_ar D 0 c (va_up g n (some x)))) a (hm_ob 0 [.ref ea, .int (nI (n + 1)), .int (m + 1)]) := by rw [e2, ← hM1, hm_up_cm hea, hm_up_up]
      clear hM1 e2
      subst e3
      refine hm_stk (st' := []) rfl ?_
      refine hm_iconst (v := 1) C nd_AL_add_23 (by decide) ?_
      exact hm_zret C E (by first | exact Or.inl rfl | exact Or.inr rfl) (by omega) (by omega) (⟨rfl, ea, ⟨m + 1, hm_up_s _ _ _, by rw [hc]; omega, Or.inr ⟨by rw [hc]; omega, _, by rw [hm_up_n _ _ hea, hc]; exact hm_up_s _ _ _, fun i hi => (by
          by_cases hin : i = n
          · subst hin
            rw [va_up_self, va_up_self]
          · rw [va_up_ne _ _ hin, va_up_ne _ _ hin]
            exact hf i (by omega)), fun i hi => (by rw [va_up_ne _ _ (by omega)]; exact hno i (by omega))⟩⟩, fun z z1 z2 => by rw [hm_up_n _ _ z1, hm_up_n _ _ z2], Or.inl ⟨rfl, hn⟩⟩) nd_AL_add_24
    · have hnn : n = c := by omega
      subst hnn
      have hc : li_c n n = n + n / 2 := by unfold li_c; rw [if_pos rfl, if_neg (by omega)]
      refine hm_ct_of (by decide +kernel) (by exact Nat.le_of_ble_eq_true rfl) ?_
      intro X C E
      have C : hm_C X l D BG prog_16_method_25_code "java/util/ArrayList" "add" 2 6 150 (li_c n n - n) (4 * (li_c n n - n)) := C
      refine hm_lv (lv' := [(0, .ref a), (1, .ref x)]) rfl ?_
      refine hm_aload_n C nd_AL_add_0 rfl ?_
      refine hm_dup C nd_AL_add_1 rfl ?_
      refine hm_get C nF_AL_63 ha rfl nd_AL_add_2 ?_
      refine hm_iconst (v := 1) C nd_AL_add_5 (by decide) ?_
      refine hm_iadd C nd_AL_add_6 ?_
      refine hm_put C nF_AL_63 ha (Nat.le_of_ble_eq_true rfl) rfl rfl nd_AL_add_7 ?_
      refine hm_eqM (M' := hm_up M a (hm_ob 0 [.ref ea, .int (nI n), .int (m + 1)])) rfl ?_
      generalize hM1 : hm_up M a (hm_ob 0 [.ref ea, .int (nI n), .int (m + 1)]) = M1
      have aM1_0 : M1 ea = some (hm_ar D 0 n g) := by rw [← hM1, hm_up_n _ _ (Ne.symm (hm_neA ha hg))]; exact hg
      have fM1_0 : M1 a = some (hm_ob 0 [.ref ea, .int (nI n), .int (m + 1)]) := by rw [← hM1]; exact hm_up_s _ _ _
      obtain ⟨ci2, vs2, rc2, k1, k2, k3⟩ : ∃ ci2 vs2 rc2, M1 x = some (hm_ob ci2 vs2) ∧ hm_cl[ci2]? = some rc2 ∧ Cond.castable rc2.1 "java/lang/Object" ∈ lw_tbl := by
        by_cases hxa : x = a
        · subst hxa
          cases ha.symm.trans hx
          exact ⟨_, _, rc, fM1_0, hrc, hca⟩
        · exact ⟨ci, vs, rc, by rw [← hM1, hm_up_n _ _ hxa]; exact hx, hrc, hca⟩
      have hel1 : hm_el M1 n g := by
        intro i hi y hy
        obtain ⟨cj, vj, rj, m1, m2, m3⟩ := hE i hi
        have hyf : y = f i := Option.some.inj (hy.symm.trans (hf i hi))
        rw [← hyf] at m1
        by_cases hya : y = a
        · subst hya
          cases ha.symm.trans m1
          exact ⟨_, _, rj, fM1_0, m2, m3⟩
        · exact ⟨cj, vj, rj, by rw [← hM1, hm_up_n _ _ hya]; exact m1, m2, m3⟩
      refine hm_aload_n C nd_AL_add_10 rfl ?_
      refine hm_aload_n C nd_AL_add_11 rfl ?_
      refine hm_aload_n C nd_AL_add_12 rfl ?_
      refine hm_get C nF_AL_9 fM1_0 rfl nd_AL_add_13 ?_
      refine hm_aload_n C nd_AL_add_16 rfl ?_
      refine hm_get C nF_AL_48 fM1_0 rfl nd_AL_add_17 ?_
      refine hm_callV C (ct_AL_add2_c M1 a ea n g (m + 1) fM1_0 aM1_0 hel1 h2 h4 x ci2 vs2 rc2 k1 k2 k3) nV_AL_add2 [.ref x, .ref ea, .int (nI n)] rfl fM1_0 rfl nq_AL_131 nj_AL_add2 nx_AL_add2 rfl (rest := []) rfl (Nat.le_of_ble_eq_true rfl) (by decide) (by decide) (by omega) (by omega) nd_AL_add_20 (fun r M2 hp => ?_)
      obtain ⟨q, rfl, hq, e2⟩ := hp
      have hqa : q ≠ a := fun e => by rw [e, ← hM1, hm_up_s] at hq; cases hq
      rw [← hM1, hm_up_n _ _ hqa] at hq
      have e3 : M2 = hm_up (hm_up M q (hm_ar D 0 (n + n / 2) (va_up (va_cpy g (fun _ => none) 0 0 n) n (some x)))) a (hm_ob 0 [.ref q, .int (nI (n + 1)), .int (m + 1)]) := by rw [e2, ← hM1, hm_up_cm hqa, hm_up_up]
      clear hM1 e2
      subst e3
      refine hm_stk (st' := []) rfl ?_
      refine hm_iconst (v := 1) C nd_AL_add_23 (by decide) ?_
      exact hm_zret C E (by first | exact Or.inl rfl | exact Or.inr rfl) (by omega) (by omega) (⟨rfl, q, ⟨m + 1, hm_up_s _ _ _, by rw [hc]; omega, Or.inr ⟨by rw [hc]; omega, _, by rw [hm_up_n _ _ hqa, hc]; exact hm_up_s _ _ _, fun i hi => (by
          by_cases hin : i = n
          · subst hin
            rw [va_up_self, va_up_self]
          · rw [va_up_ne _ _ hin, va_up_ne _ _ hin, pk_cpy_in (Nat.zero_le _) (by omega)]
            rw [Nat.zero_add, Nat.sub_zero]
            exact hf i (by omega)), fun i hi => (by rw [va_up_ne _ _ (by omega), pk_cpy_out (Or.inr (by omega))])⟩⟩, fun z z1 z2 => by rw [hm_up_n _ _ z1, hm_up_n _ _ z2], Or.inr hq⟩) nd_AL_add_24
end
section
set_option maxHeartbeats 4000000 in
set_option maxRecDepth 100000 in
theorem ct_TE_init {l : Launch} {D : va_G} {BG : Nat → Option Cell} (M : hm_M) (q : Nat) (kk pp : Int32) (lf rt er : Option Nat) (hq : M q = some (hm_ob 2 [.int 0, .int 0, .null, .null, .null, .null, .null, .int 0])) : hm_ct l D BG ny_TE_init prog_4_method_1_code 6 none 1 12 0 0 [.ref q, .int kk, .int pp, va_rf lf, va_rf rt, va_rf er] M (fun r M' => r = none ∧ M' = hm_up M q (hm_ob 2 [.int kk, .int pp, va_rf lf, va_rf rt, va_rf er, .null, .null, .int 0])) := by
  refine hm_ct_of (by decide +kernel) (by simp [lg_sl, hm_cat, hm_catI, hm_catR, hm_catN]) ?_
  intro X C E
  have C : hm_C X l D BG prog_4_method_1_code "TurnedKeys$Term" "<init>" 6 1 12 0 0 := C
  refine hm_lv (lv' := [(0, .ref q), (1, .int kk), (2, .int pp), (3, va_rf lf), (4, va_rf rt), (5, va_rf er)]) (by simp [lv_args, hm_cat, hm_catI, hm_catR, hm_catN]) ?_
  refine hm_aload_n C nd_TE_init_0 rfl ?_
  refine hm_objInit C nq_TE_1 nj_OJ_init nm_OJ_init (by decide) (by decide) nd_TE_init_1 ?_
  refine hm_aload_n C nd_TE_init_4 rfl ?_
  refine hm_iload_n C nd_TE_init_5 rfl ?_
  refine hm_putF C nF_TE_7 hq (Nat.le_of_ble_eq_true rfl) rfl rfl nd_TE_init_6 ?_
  refine hm_eqM (M' := hm_up M q (hm_ob 2 [.int kk, .int 0, .null, .null, .null, .null, .null, .int 0])) rfl ?_
  generalize hM1 : hm_up M q (hm_ob 2 [.int kk, .int 0, .null, .null, .null, .null, .null, .int 0]) = M1
  have fM1_0 : M1 q = some (hm_ob 2 [.int kk, .int 0, .null, .null, .null, .null, .null, .int 0]) := by rw [← hM1]; exact hm_up_s _ _ _
  refine hm_aload_n C nd_TE_init_9 rfl ?_
  refine hm_iload_n C nd_TE_init_10 rfl ?_
  refine hm_putF C nF_TE_13 fM1_0 (Nat.le_of_ble_eq_true rfl) rfl rfl nd_TE_init_11 ?_
  refine hm_eqM (M' := hm_up M1 q (hm_ob 2 [.int kk, .int pp, .null, .null, .null, .null, .null, .int 0])) rfl ?_
  generalize hM2 : hm_up M1 q (hm_ob 2 [.int kk, .int pp, .null, .null, .null, .null, .null, .int 0]) = M2
  have fM2_0 : M2 q = some (hm_ob 2 [.int kk, .int pp, .null, .null, .null, .null, .null, .int 0]) := by rw [← hM2]; exact hm_up_s _ _ _
  refine hm_aload_n C nd_TE_init_14 rfl ?_
  refine hm_aload_nQ (r := lf) C nd_TE_init_15 rfl ?_
  refine hm_putF C nF_TE_16 fM2_0 (Nat.le_of_ble_eq_true rfl) (hm_narq _ _) (hm_fitq _ _) nd_TE_init_16 ?_
  refine hm_eqM (M' := hm_up M2 q (hm_ob 2 [.int kk, .int pp, va_rf lf, .null, .null, .null, .null, .int 0])) rfl ?_
  generalize hM3 : hm_up M2 q (hm_ob 2 [.int kk, .int pp, va_rf lf, .null, .null, .null, .null, .int 0]) = M3
  have fM3_0 : M3 q = some (hm_ob 2 [.int kk, .int pp, va_rf lf, .null, .null, .null, .null, .int 0]) := by rw [← hM3]; exact hm_up_s _ _ _
  refine hm_aload_n C nd_TE_init_19 rfl ?_
  refine hm_aloadQ (r := rt) C nd_TE_init_20 rfl ?_
  refine hm_putF C nF_TE_20 fM3_0 (Nat.le_of_ble_eq_true rfl) (hm_narq _ _) (hm_fitq _ _) nd_TE_init_22 ?_
  refine hm_eqM (M' := hm_up M3 q (hm_ob 2 [.int kk, .int pp, va_rf lf, va_rf rt, .null, .null, .null, .int 0])) rfl ?_
  generalize hM4 : hm_up M3 q (hm_ob 2 [.int kk, .int pp, va_rf lf, va_rf rt, .null, .null, .null, .int 0]) = M4
  have fM4_0 : M4 q = some (hm_ob 2 [.int kk, .int pp, va_rf lf, va_rf rt, .null, .null, .null, .int 0]) := by rw [← hM4]; exact hm_up_s _ _ _
  refine hm_aload_n C nd_TE_init_25 rfl ?_
  refine hm_aloadQ (r := er) C nd_TE_init_26 rfl ?_
  refine hm_putF C nF_TE_23 fM4_0 (Nat.le_of_ble_eq_true rfl) (hm_narq _ _) (hm_fitq _ _) nd_TE_init_28 ?_
  refine hm_eqM (M' := hm_up M4 q (hm_ob 2 [.int kk, .int pp, va_rf lf, va_rf rt, va_rf er, .null, .null, .int 0])) rfl ?_
  generalize hM5 : hm_up M4 q (hm_ob 2 [.int kk, .int pp, va_rf lf, va_rf rt, va_rf er, .null, .null, .int 0]) = M5
  have fM5_0 : M5 q = some (hm_ob 2 [.int kk, .int pp, va_rf lf, va_rf rt, va_rf er, .null, .null, .int 0]) := by rw [← hM5]; exact hm_up_s _ _ _
  exact hm_vret C E (by omega) (by omega) (⟨rfl, by rw [← hM5 , ← hM4 , ← hM3 , ← hM2 , ← hM1, hm_up_up, hm_up_up, hm_up_up, hm_up_up]⟩) nd_TE_init_31
set_option maxHeartbeats 4000000 in
set_option maxRecDepth 100000 in
theorem ct_LK_init {l : Launch} {D : va_G} {BG : Nat → Option Cell} (M : hm_M) (q : Nat) (pk : Option Nat) (ix : Int32) (ky : Option Nat) (hq : M q = some (hm_ob 4 [.null, .int 0, .null])) : hm_ct l D BG ny_LK_init prog_3_method_1_code 4 none 1 12 0 0 [.ref q, va_rf pk, .int ix, va_rf ky] M (fun r M' => r = none ∧ M' = hm_up M q (hm_ob 4 [va_rf pk, .int ix, va_rf ky])) := by
  refine hm_ct_of (by decide +kernel) (by simp [lg_sl, hm_cat, hm_catI, hm_catR, hm_catN]) ?_
  intro X C E
  have C : hm_C X l D BG prog_3_method_1_code "TurnedKeys$LeftKey" "<init>" 4 1 12 0 0 := C
  refine hm_lv (lv' := [(0, .ref q), (1, va_rf pk), (2, .int ix), (3, va_rf ky)]) (by simp [lv_args, hm_cat, hm_catI, hm_catR, hm_catN]) ?_
  refine hm_aload_n C nd_LK_init_0 rfl ?_
  refine hm_objInit C nq_LK_1 nj_OJ_init nm_OJ_init (by decide) (by decide) nd_LK_init_1 ?_
  refine hm_aload_n C nd_LK_init_4 rfl ?_
  refine hm_aload_nQ (r := pk) C nd_LK_init_5 rfl ?_
  refine hm_putF C nF_LK_7 hq (Nat.le_of_ble_eq_true rfl) (hm_narq _ _) (hm_fitq _ _) nd_LK_init_6 ?_
  refine hm_eqM (M' := hm_up M q (hm_ob 4 [va_rf pk, .int 0, .null])) rfl ?_
  generalize hM1 : hm_up M q (hm_ob 4 [va_rf pk, .int 0, .null]) = M1
  have fM1_0 : M1 q = some (hm_ob 4 [va_rf pk, .int 0, .null]) := by rw [← hM1]; exact hm_up_s _ _ _
  refine hm_aload_n C nd_LK_init_9 rfl ?_
  refine hm_iload_n C nd_LK_init_10 rfl ?_
  refine hm_putF C nF_LK_13 fM1_0 (Nat.le_of_ble_eq_true rfl) rfl rfl nd_LK_init_11 ?_
  refine hm_eqM (M' := hm_up M1 q (hm_ob 4 [va_rf pk, .int ix, .null])) rfl ?_
  generalize hM2 : hm_up M1 q (hm_ob 4 [va_rf pk, .int ix, .null]) = M2
  have fM2_0 : M2 q = some (hm_ob 4 [va_rf pk, .int ix, .null]) := by rw [← hM2]; exact hm_up_s _ _ _
  refine hm_aload_n C nd_LK_init_14 rfl ?_
  refine hm_aload_nQ (r := ky) C nd_LK_init_15 rfl ?_
  refine hm_putF C nF_LK_17 fM2_0 (Nat.le_of_ble_eq_true rfl) (hm_narq _ _) (hm_fitq _ _) nd_LK_init_16 ?_
  refine hm_eqM (M' := hm_up M2 q (hm_ob 4 [va_rf pk, .int ix, va_rf ky])) rfl ?_
  generalize hM3 : hm_up M2 q (hm_ob 4 [va_rf pk, .int ix, va_rf ky]) = M3
  have fM3_0 : M3 q = some (hm_ob 4 [va_rf pk, .int ix, va_rf ky]) := by rw [← hM3]; exact hm_up_s _ _ _
  exact hm_vret C E (by omega) (by omega) (⟨rfl, by rw [← hM3 , ← hM2 , ← hM1, hm_up_up, hm_up_up]⟩) nd_LK_init_19
set_option maxHeartbeats 4000000 in
set_option maxRecDepth 100000 in
theorem ct_WI_init {l : Launch} {D : va_G} {BG : Nat → Option Cell} (M : hm_M) (q : Nat) (se ix bf : Int32) (pk ky le : Option Nat) (hq : M q = some (hm_ob 5 [.int 0, .int 0, .int 0, .null, .null, .null])) : hm_ct l D BG ny_WI_init prog_6_method_1_code 7 none 1 12 0 0 [.ref q, .int se, .int ix, .int bf, va_rf pk, va_rf ky, va_rf le] M (fun r M' => r = none ∧ M' = hm_up M q (hm_ob 5 [.int se, .int ix, .int bf, va_rf pk, va_rf ky, va_rf le])) := by
  refine hm_ct_of (by decide +kernel) (by simp [lg_sl, hm_cat, hm_catI, hm_catR, hm_catN]) ?_
  intro X C E
  have C : hm_C X l D BG prog_6_method_1_code "TurnedKeys$Wire" "<init>" 7 1 12 0 0 := C
  refine hm_lv (lv' := [(0, .ref q), (1, .int se), (2, .int ix), (3, .int bf), (4, va_rf pk), (5, va_rf ky), (6, va_rf le)]) (by simp [lv_args, hm_cat, hm_catI, hm_catR, hm_catN]) ?_
  refine hm_aload_n C nd_WI_init_0 rfl ?_
  refine hm_objInit C nq_WI_1 nj_OJ_init nm_OJ_init (by decide) (by decide) nd_WI_init_1 ?_
  refine hm_aload_n C nd_WI_init_4 rfl ?_
  refine hm_iload_n C nd_WI_init_5 rfl ?_
  refine hm_putF C nF_WI_7 hq (Nat.le_of_ble_eq_true rfl) rfl rfl nd_WI_init_6 ?_
  refine hm_eqM (M' := hm_up M q (hm_ob 5 [.int se, .int 0, .int 0, .null, .null, .null])) rfl ?_
  generalize hM1 : hm_up M q (hm_ob 5 [.int se, .int 0, .int 0, .null, .null, .null]) = M1
  have fM1_0 : M1 q = some (hm_ob 5 [.int se, .int 0, .int 0, .null, .null, .null]) := by rw [← hM1]; exact hm_up_s _ _ _
  refine hm_aload_n C nd_WI_init_9 rfl ?_
  refine hm_iload_n C nd_WI_init_10 rfl ?_
  refine hm_putF C nF_WI_13 fM1_0 (Nat.le_of_ble_eq_true rfl) rfl rfl nd_WI_init_11 ?_
  refine hm_eqM (M' := hm_up M1 q (hm_ob 5 [.int se, .int ix, .int 0, .null, .null, .null])) rfl ?_
  generalize hM2 : hm_up M1 q (hm_ob 5 [.int se, .int ix, .int 0, .null, .null, .null]) = M2
  have fM2_0 : M2 q = some (hm_ob 5 [.int se, .int ix, .int 0, .null, .null, .null]) := by rw [← hM2]; exact hm_up_s _ _ _
  refine hm_aload_n C nd_WI_init_14 rfl ?_
  refine hm_iload_n C nd_WI_init_15 rfl ?_
  refine hm_putF C nF_WI_16 fM2_0 (Nat.le_of_ble_eq_true rfl) rfl rfl nd_WI_init_16 ?_
  refine hm_eqM (M' := hm_up M2 q (hm_ob 5 [.int se, .int ix, .int bf, .null, .null, .null])) rfl ?_
  generalize hM3 : hm_up M2 q (hm_ob 5 [.int se, .int ix, .int bf, .null, .null, .null]) = M3
  have fM3_0 : M3 q = some (hm_ob 5 [.int se, .int ix, .int bf, .null, .null, .null]) := by rw [← hM3]; exact hm_up_s _ _ _
  refine hm_aload_n C nd_WI_init_19 rfl ?_
  refine hm_aloadQ (r := pk) C nd_WI_init_20 rfl ?_
  refine hm_putF C nF_WI_19 fM3_0 (Nat.le_of_ble_eq_true rfl) (hm_narq _ _) (hm_fitq _ _) nd_WI_init_22 ?_
  refine hm_eqM (M' := hm_up M3 q (hm_ob 5 [.int se, .int ix, .int bf, va_rf pk, .null, .null])) rfl ?_
  generalize hM4 : hm_up M3 q (hm_ob 5 [.int se, .int ix, .int bf, va_rf pk, .null, .null]) = M4
  have fM4_0 : M4 q = some (hm_ob 5 [.int se, .int ix, .int bf, va_rf pk, .null, .null]) := by rw [← hM4]; exact hm_up_s _ _ _
  refine hm_aload_n C nd_WI_init_25 rfl ?_
  refine hm_aloadQ (r := ky) C nd_WI_init_26 rfl ?_
  refine hm_putF C nF_WI_23 fM4_0 (Nat.le_of_ble_eq_true rfl) (hm_narq _ _) (hm_fitq _ _) nd_WI_init_28 ?_
  refine hm_eqM (M' := hm_up M4 q (hm_ob 5 [.int se, .int ix, .int bf, va_rf pk, va_rf ky, .null])) rfl ?_
  generalize hM5 : hm_up M4 q (hm_ob 5 [.int se, .int ix, .int bf, va_rf pk, va_rf ky, .null]) = M5
  have fM5_0 : M5 q = some (hm_ob 5 [.int se, .int ix, .int bf, va_rf pk, va_rf ky, .null]) := by rw [← hM5]; exact hm_up_s _ _ _
  refine hm_aload_n C nd_WI_init_31 rfl ?_
  refine hm_aloadQ (r := le) C nd_WI_init_32 rfl ?_
  refine hm_putF C nF_WI_26 fM5_0 (Nat.le_of_ble_eq_true rfl) (hm_narq _ _) (hm_fitq _ _) nd_WI_init_34 ?_
  refine hm_eqM (M' := hm_up M5 q (hm_ob 5 [.int se, .int ix, .int bf, va_rf pk, va_rf ky, va_rf le])) rfl ?_
  generalize hM6 : hm_up M5 q (hm_ob 5 [.int se, .int ix, .int bf, va_rf pk, va_rf ky, va_rf le]) = M6
  have fM6_0 : M6 q = some (hm_ob 5 [.int se, .int ix, .int bf, va_rf pk, va_rf ky, va_rf le]) := by rw [← hM6]; exact hm_up_s _ _ _
  exact hm_vret C E (by omega) (by omega) (⟨rfl, by rw [← hM6 , ← hM5 , ← hM4 , ← hM3 , ← hM2 , ← hM1, hm_up_up, hm_up_up, hm_up_up, hm_up_up, hm_up_up]⟩) nd_WI_init_37
set_option maxHeartbeats 4000000 in
set_option maxRecDepth 100000 in
theorem ct_TS_added {l : Launch} {D : va_G} {BG : Nat → Option Cell} (M : hm_M) (tm la ea c n : Nat) (ad : Nat → Nat) (dr se kk : Int32) (lf rt er : Option Nat) (ht : M tm = some (hm_ob 1 [.ref la, .int dr, .int se])) (hR : li_R D M la ea c n ad) (hE : li_E M n ad) (h4 : c ≤ 40000) : hm_ct l D BG ny_TS_added prog_5_method_6_code 6 (some (.object "TurnedKeys$Term")) 7 171 (1 + (li_c c n - c)) (8 + 4 * (li_c c n - c)) [.ref tm, .int kk, va_rf lf, va_rf rt, va_rf er] M (fun r M' => ∃ q ea' : Nat, r = some (.ref q) ∧ M q = none ∧ M' q = some (hm_ob 2 [.int kk, .int (nI n), va_rf lf, va_rf rt, va_rf er, .null, .null, .int 0]) ∧ li_R D M' la ea' (li_c c n) (n + 1) (va_up ad n q) ∧ (∀ z, z ≠ q → z ≠ la → z ≠ ea' → M' z = M z) ∧ ((ea' = ea ∧ n < c) ∨ (M ea' = none ∧ ea' ≠ q))) := by
  refine hm_ct_of (by decide +kernel) (by simp [lg_sl, hm_cat, hm_catI, hm_catR, hm_catN]) ?_
  intro X C E
  have C : hm_C X l D BG prog_5_method_6_code "TurnedKeys$Terms" "added" 6 7 171 (1 + (li_c c n - c)) (8 + 4 * (li_c c n - c)) := C
  refine hm_lv (lv' := [(0, .ref tm), (1, .int kk), (2, va_rf lf), (3, va_rf rt), (4, va_rf er)]) (by simp [lv_args, hm_cat, hm_catI, hm_catR, hm_catN]) ?_
  obtain ⟨m, hla, hRr⟩ := id hR
  refine hm_newN C 8 nB_TS_27 rfl (by omega) (by omega) nd_TS_added_0 (fun q hq_q => ?_)
  generalize hM1 : hm_up M q (hm_ob 2 [.int 0, .int 0, .null, .null, .null, .null, .null, .int 0]) = M1
  have fM1_0 : M1 tm = some (hm_ob 1 [.ref la, .int dr, .int se]) := by rw [← hM1, hm_up_n _ _ (hm_neF ht hq_q)]; exact ht
  have fM1_1 : M1 la = some (hm_ob 0 [.ref ea, .int (nI n), .int m]) := by rw [← hM1, hm_up_n _ _ (hm_neF hla hq_q)]; exact hla
  have fM1_2 : M1 q = some (hm_ob 2 [.int 0, .int 0, .null, .null, .null, .null, .null, .int 0]) := by rw [← hM1]; exact hm_up_s _ _ _
  refine hm_dup C nd_TS_added_3 rfl ?_
  refine hm_iload_n C nd_TS_added_4 rfl ?_
  refine hm_aload_n C nd_TS_added_5 rfl ?_
  refine hm_get C nF_TS_12 fM1_0 rfl nd_TS_added_6 ?_
  refine hm_callV C (ct_AL_size M1 la ea (nI n) m fM1_1) nV_AL_size [] rfl fM1_1 rfl nq_TS_62 nj_AL_size nx_AL_size rfl (rest := [.int kk, .ref q, .ref q]) rfl (Nat.le_of_ble_eq_true rfl) (by decide) (by decide) (by omega) (by omega) nd_TS_added_9 (fun r M2 hp => ?_)
  obtain ⟨rfl, eM2⟩ := hp
  rw [eM2]
  refine hm_stk (st' := [.int (nI n), .int kk, .ref q, .ref q]) rfl ?_
  refine hm_aload_nQ (r := lf) C nd_TS_added_12 rfl ?_
  refine hm_aload_nQ (r := rt) C nd_TS_added_13 rfl ?_
  refine hm_aloadQ (r := er) C nd_TS_added_14 rfl ?_
  refine hm_callI C (ct_TE_init M1 q kk (nI n) lf rt er fM1_2) nV_TE_init rfl nq_TS_66 nj_TE_init [.int kk, .int (nI n), va_rf lf, va_rf rt, va_rf er] rfl rfl (rest := [.ref q]) rfl (Nat.le_of_ble_eq_true rfl) (by decide) (by decide) (by omega) (by omega) nd_TS_added_16 (fun r M3 hp => ?_)
  obtain ⟨rfl, e3⟩ := hp
  rw [← hM1, hm_up_up] at e3
  have hne : q ≠ tm := Ne.symm (hm_neF ht hq_q)
  have hne2 : q ≠ la := Ne.symm (hm_neF hla hq_q)
  have f3q : M3 q = some (hm_ob 2 [.int kk, .int (nI n), va_rf lf, va_rf rt, va_rf er, .null, .null, .int 0]) := by rw [e3]; exact hm_up_s _ _ _
  have f3t : M3 tm = some (hm_ob 1 [.ref la, .int dr, .int se]) := by rw [e3, hm_up_n _ _ (Ne.symm hne)]; exact ht
  have hR3 : li_R D M3 la ea c n ad := li_R.mono hR (fun z hz => by rw [e3, hm_up_n _ _ (show z ≠ q from fun h => hz (by rw [h]; exact hq_q))])
  have hE3 : li_E M3 n ad := fun i hi => by
    obtain ⟨cj, vj, rj, m1, m2, m3⟩ := hE i hi
    exact ⟨cj, vj, rj, by rw [e3, hm_up_n _ _ (hm_neF m1 hq_q)]; exact m1, m2, m3⟩
  refine hm_stk (st' := [.ref q]) rfl ?_
  refine hm_astore C [(5, .ref q), (0, .ref tm), (1, .int kk), (2, va_rf lf), (3, va_rf rt), (4, va_rf er)] nd_TS_added_19 (by decide) (by simp [hm_cat, hm_catI, hm_catR, hm_catN]) ?_
  refine hm_aload_n C nd_TS_added_21 rfl ?_
  refine hm_get C nF_TS_12 f3t rfl nd_TS_added_22 ?_
  obtain ⟨m3, hla3, hRr3⟩ := id hR3
  refine hm_aload C nd_TS_added_25 rfl ?_
  refine hm_callV C (ct_AL_add M3 la ea c n ad hR3 hE3 h4 q 2 _ _ f3q rfl nh_TE_OJ) nV_AL_add [.ref q] rfl hla3 rfl nq_TS_69 nj_AL_add nx_AL_add rfl (rest := []) rfl (Nat.le_of_ble_eq_true rfl) (by decide) (by decide) (by omega) (by omega) nd_TS_added_27 (fun r M4 hp => ?_)
  obtain ⟨rfl, ea', hR4, hfr, hea⟩ := hp
  have hqe : q ≠ ea' := fun e => by
    rcases hea with ⟨h1, h2⟩ | h1
    · obtain ⟨m9, h9, -, hc9⟩ := id hR3
      rcases hc9 with ⟨h8, -⟩ | ⟨-, g9, h8, -⟩
      · omega
      · rw [← h1, ← e, f3q] at h8; cases h8
    · rw [← e, f3q] at h1; cases h1
  have f4q : M4 q = some (hm_ob 2 [.int kk, .int (nI n), va_rf lf, va_rf rt, va_rf er, .null, .null, .int 0]) := by rw [hfr q hne2 hqe]; exact f3q
  refine hm_stk (st' := [.int 1]) rfl ?_
  refine hm_pop C nd_TS_added_30 rfl ?_
  refine hm_aload C nd_TS_added_31 rfl ?_
  exact hm_aret (r := (some q)) C E (Or.inl ⟨_, rfl⟩) (by omega) (by omega) (⟨q, ea', rfl, hq_q, f4q, hR4, fun z z1 z2 z3 => by rw [hfr z z2 z3, e3, hm_up_n _ _ z1], by rcases hea with h | h; exact Or.inl h; exact Or.inr ⟨by rw [e3] at h; by_cases hz : ea' = q; exact absurd hz.symm hqe; rw [hm_up_n _ _ hz] at h; exact h, fun h9 => hqe h9.symm⟩⟩) nd_TS_added_33
end
section
theorem sm_mono {d e : Nat} (h : d < e) : sm_t 0 d 0 < sm_t 0 e 0 := by
  have h1 : 2 ^ d < 2 ^ e := Nat.pow_lt_pow_right (by omega) h
  unfold sm_t sm_pr
  simp only [Nat.pow_zero, Nat.mul_zero, Nat.zero_add, Nat.mul_one, Nat.one_mul]
  omega
/-! PURE: the table of terms (places, kinds, parts, users, publics, marks, values) -/
def tt_g : Option Nat → Option Nat → Option Nat
  | none, b => b
  | some a, none => some a
  | some a, some b => if b < a then some a else some b
def tt_l (kd : Nat → Nat) (lf rt : Nat → Option Nat) (p : Nat) : Nat → Option Nat
  | 0 => none
  | m + 1 => if 2 ≤ kd m ∧ tt_g (lf m) (rt m) = some p then some m else tt_l kd lf rt p m
theorem tt_l_some {kd : Nat → Nat} {lf rt : Nat → Option Nat} {p : Nat} : ∀ {m i : Nat}, tt_l kd lf rt p m = some i → i < m ∧ 2 ≤ kd i ∧ tt_g (lf i) (rt i) = some p
  | 0, i, h => by cases h
  | m + 1, i, h => by
    unfold tt_l at h
    by_cases c : 2 ≤ kd m ∧ tt_g (lf m) (rt m) = some p
    · rw [if_pos c] at h
      cases h
      exact ⟨Nat.lt_succ_self _, c⟩
    · rw [if_neg c] at h
      obtain ⟨h1, h2⟩ := tt_l_some h
      exact ⟨Nat.lt_succ_of_lt h1, h2⟩
theorem tt_l_max {kd : Nat → Nat} {lf rt : Nat → Option Nat} {p : Nat} : ∀ {m i : Nat}, i < m → 2 ≤ kd i → tt_g (lf i) (rt i) = some p → ∃ j, tt_l kd lf rt p m = some j ∧ i ≤ j
  | 0, i, h, _, _ => by omega
  | m + 1, i, h, h2, h3 => by
    unfold tt_l
    by_cases c : 2 ≤ kd m ∧ tt_g (lf m) (rt m) = some p
    · rw [if_pos c]
      exact ⟨m, rfl, by omega⟩
    · rw [if_neg c]
      by_cases e : i = m
      · subst e
        exact absurd ⟨h2, h3⟩ c
      · exact tt_l_max (by omega) h2 h3
theorem tt_l_congr {kd kd' : Nat → Nat} {lf rt lf' rt' : Nat → Option Nat} {p : Nat} : ∀ {m : Nat}, (∀ i, i < m → kd' i = kd i ∧ lf' i = lf i ∧ rt' i = rt i) → tt_l kd' lf' rt' p m = tt_l kd lf rt p m
  | 0, _ => rfl
  | m + 1, h => by
    unfold tt_l
    obtain ⟨e1, e2, e3⟩ := h m (Nat.lt_succ_self m)
    rw [e1, e2, e3, tt_l_congr (fun i hi => h i (Nat.lt_succ_of_lt hi))]
/-- what lies between an index and the next one of the chain uses p never -/
theorem tt_l_gap {kd : Nat → Nat} {lf rt : Nat → Option Nat} {p m i : Nat} (hi : i < m) (h2 : 2 ≤ kd i) (h3 : tt_g (lf i) (rt i) = some p) : ∃ j, tt_l kd lf rt p m = some j ∧ i ≤ j := tt_l_max hi h2 h3
def tt_vo (vl : Nat → Nat) : Option Nat → Nat
  | none => 0
  | some j => vl j
def tt_W (n : Nat) (kd : Nat → Nat) (lf rt : Nat → Option Nat) : Prop := ∀ i, i < n → kd i ≤ 7 ∧ (∀ j, lf i = some j → j < i) ∧ (∀ j, rt i = some j → j < i)
def tt_K (n : Nat) (kd : Nat → Nat) (lf rt pb : Nat → Option Nat) : Prop := ∀ i, i < n → (kd i = 0 → lf i = none ∧ rt i = none) ∧ (kd i = 1 → rt i = none ∧ ∃ j, lf i = some j ∧ kd j = 0 ∧ pb j = some i) ∧ (kd i = 2 → ∃ a b x y, lf i = some a ∧ rt i = some b ∧ kd a = 0 ∧ kd b = 0 ∧ pb a = some x ∧ x < i ∧ pb b = some y ∧ y < i) ∧ (2 ≤ kd i → tt_g (lf i) (rt i) ≠ none) ∧ (kd i = 3 → ∃ j, rt i = some j ∧ i ≤ j + 4 ∧ kd j = 0) ∧ (∀ j, pb i = some j → i < j ∧ j < n ∧ kd j = 1 ∧ lf j = some i)
def tt_U (n : Nat) (kd : Nat → Nat) (lf rt er lu : Nat → Option Nat) : Prop := ∀ i, i < n → lu i = tt_l kd lf rt i n ∧ er i = if 2 ≤ kd i then (tt_g (lf i) (rt i)).bind (fun p => tt_l kd lf rt p i) else none
def tt_V (n dr : Nat) (kd : Nat → Nat) (lf rt : Nat → Option Nat) (vl : Nat → Nat) : Prop := (∀ i, i < n → kd i ≠ 0 → vl i = sm_t (kd i) (tt_vo vl (lf i)) (tt_vo vl (rt i))) ∧ (∀ i, i < n → kd i = 0 → ∃ d, 1 ≤ d ∧ d ≤ dr ∧ vl i = sm_t 0 d 0) ∧ (∀ i j, i < j → j < n → kd i = 0 → kd j = 0 → vl i < vl j) ∧ (∀ i j, i < n → j < n → vl i = vl j → i = j)
def tt_d (dv : Nat → Bool) (r : Option Nat) : Prop := ∀ j, r = some j → dv j = true
def tt_s (pb : Nat → Option Nat) (dv : Nat → Bool) (a b : Option Nat) : Prop := ∃ x y p, a = some x ∧ b = some y ∧ dv x = true ∧ pb y = some p ∧ dv p = true
def tt_m (kd : Nat → Nat) (lf rt pb : Nat → Option Nat) (dv : Nat → Bool) (i : Nat) : Prop := kd i ≠ 0 ∧ ((kd i = 2 ∧ (tt_s pb dv (lf i) (rt i) ∨ tt_s pb dv (rt i) (lf i))) ∨ (kd i ≠ 2 ∧ tt_d dv (lf i) ∧ tt_d dv (rt i)))
def tt_G (n se : Nat) (G : Nat → Prop) (kd : Nat → Nat) (lf rt pb : Nat → Option Nat) (dv : Nat → Bool) (vl : Nat → Nat) : Prop := se ≤ n ∧ (∀ i, i < n → dv i = true → sm_dr G (vl i)) ∧ (∀ v, G v → ∃ i, i < n ∧ vl i = v ∧ dv i = true) ∧ (∀ i, i < se → tt_m kd lf rt pb dv i → dv i = true) ∧ (∀ i, i < se → kd i = 3 → dv i = true → tt_d dv (lf i) → tt_d dv (rt i))
/-- all of it -/
def tt_I (n dr se : Nat) (G : Nat → Prop) (kd : Nat → Nat) (lf rt er lu pb : Nat → Option Nat) (dv : Nat → Bool) (vl : Nat → Nat) : Prop := tt_W n kd lf rt ∧ tt_K n kd lf rt pb ∧ tt_U n kd lf rt er lu ∧ tt_V n dr kd lf rt vl ∧ tt_G n se G kd lf rt pb dv vl
theorem tt_vo_up {vl : Nat → Nat} {n v : Nat} {r : Option Nat} (h : ∀ j, r = some j → j < n) : tt_vo (va_up vl n v) r = tt_vo vl r := by
  cases r with
  | none => rfl
  | some j => exact va_up_ne _ _ (Nat.ne_of_lt (h j rfl))
/-- one more term: kind k, parts a and b -/
def tt_pb (pb : Nat → Option Nat) (n k : Nat) (a : Option Nat) : Nat → Option Nat := fun i => if i = n then none else if k = 1 ∧ a = some i then some n else pb i
def tt_lu (lu : Nat → Option Nat) (n k : Nat) (a b : Option Nat) : Nat → Option Nat := fun i => if i = n then none else if 2 ≤ k ∧ tt_g a b = some i then some n else lu i
def tt_er (er lu : Nat → Option Nat) (n k : Nat) (a b : Option Nat) : Nat → Option Nat := va_up er n (if 2 ≤ k then (tt_g a b).bind lu else none)
/-- what a new term must keep -/
def tt_ok (n dr dr' : Nat) (kd : Nat → Nat) (pb : Nat → Option Nat) (vl : Nat → Nat) (k : Nat) (a b : Option Nat) (v : Nat) : Prop :=
  k ≤ 7 ∧ (∀ j, a = some j → j < n) ∧ (∀ j, b = some j → j < n) ∧ (∀ i, i < n → vl i ≠ v) ∧
  (k = 0 → a = none ∧ b = none ∧ dr' = dr + 1 ∧ v = sm_t 0 (dr + 1) 0) ∧ (k ≠ 0 → dr' = dr ∧ v = sm_t k (tt_vo vl a) (tt_vo vl b)) ∧
  (k = 1 → b = none ∧ ∃ j, a = some j ∧ kd j = 0 ∧ pb j = none) ∧ (k = 2 → ∃ c d x y, a = some c ∧ b = some d ∧ kd c = 0 ∧ kd d = 0 ∧ pb c = some x ∧ pb d = some y) ∧ (2 ≤ k → tt_g a b ≠ none) ∧ (k = 3 → ∃ j, b = some j ∧ n ≤ j + 4 ∧ kd j = 0)
theorem tt_g_lt {a b : Option Nat} {n p : Nat} (ha : ∀ j, a = some j → j < n) (hb : ∀ j, b = some j → j < n) (h : tt_g a b = some p) : p < n := by
  cases a with
  | none => exact hb p h
  | some x =>
    cases b with
    | none => exact ha p h
    | some y =>
      have h' : (if y < x then some x else some y) = some p := h
      by_cases c : y < x
      · rw [if_pos c] at h'
        exact ha p h'
      · rw [if_neg c] at h'
        exact hb p h'
theorem tt_add {n dr dr' se : Nat} {G : Nat → Prop} {kd : Nat → Nat} {lf rt er lu pb : Nat → Option Nat} {dv : Nat → Bool} {vl : Nat → Nat} {k : Nat} {a b : Option Nat} {v : Nat} (h : tt_I n dr se G kd lf rt er lu pb dv vl) (ok : tt_ok n dr dr' kd pb vl k a b v) :
    tt_I (n + 1) dr' se G (va_up kd n k) (va_up lf n a) (va_up rt n b) (tt_er er lu n k a b) (tt_lu lu n k a b) (tt_pb pb n k a) (va_up dv n false) (va_up vl n v) := by
  obtain ⟨hW, hKk, hU, hV, hG⟩ := h
  obtain ⟨k7, la, lb, hnew, k0, kn0, k1, k2, kg, k3⟩ := ok
  have up : ∀ {α : Type} (f : Nat → α) (x : α) {i : Nat}, i < n → va_up f n x i = f i := fun {α} f x {i} hi => va_up_ne f x (Nat.ne_of_lt hi)
  have se1 : ∀ {α : Type} (f : Nat → α) (x : α), va_up f n x n = x := fun {α} f x => va_up_self f n x
  have pbe : ∀ i, i < n → ∀ j, tt_pb pb n k a i = some j → (pb i = some j ∧ j < n) ∨ (j = n ∧ k = 1 ∧ a = some i) := by
    intro i hi j hj
    unfold tt_pb at hj
    rw [if_neg (Nat.ne_of_lt hi)] at hj
    split at hj
    · rename_i c
      cases hj
      exact Or.inr ⟨rfl, c⟩
    · exact Or.inl ⟨hj, ((hKk i hi).2.2.2.2.2 j hj).2.1⟩
  have pbk : ∀ i, i < n → ∀ j, pb i = some j → tt_pb pb n k a i = some j := by
    intro i hi j hj
    unfold tt_pb
    rw [if_neg (Nat.ne_of_lt hi)]
    split
    · rename_i c
      obtain ⟨-, j2, e1, -, e3⟩ := k1 c.1
      rw [c.2] at e1
      cases e1
      rw [hj] at e3
      cases e3
    · exact hj
  refine ⟨?_, ?_, ?_, ?_, ?_⟩
  · intro i hi
    by_cases e : i = n
    · subst e
      rw [se1, se1, se1]
      exact ⟨k7, la, lb⟩
    · rw [up _ _ (by omega), up _ _ (by omega), up _ _ (by omega)]
      exact hW i (by omega)
  · intro i hi
    by_cases e : i = n
    · subst e
      rw [se1, se1, se1]
      refine ⟨fun c => ⟨(k0 c).1, (k0 c).2.1⟩, fun c => ?_, fun c => ?_, kg, fun c => (by obtain ⟨j, e1, e2, e3⟩ := k3 c; exact ⟨j, e1, e2, by rw [up _ _ (lb j e1)]; exact e3⟩), fun j hj => ?_⟩
      · obtain ⟨e1, j, e2, e3, e4⟩ := k1 c
        have hj := la j e2
        refine ⟨e1, j, e2, by rw [up _ _ hj]; exact e3, ?_⟩
        unfold tt_pb
        rw [if_neg (Nat.ne_of_lt hj), if_pos ⟨c, e2⟩]
      · obtain ⟨c1, d1, x, y, e1, e2, e3, e4, e5, e6⟩ := k2 c
        have h1 := la c1 e1
        have h2 := lb d1 e2
        exact ⟨c1, d1, x, y, e1, e2, by rw [up _ _ h1]; exact e3, by rw [up _ _ h2]; exact e4, pbk _ h1 _ e5, ((hKk c1 h1).2.2.2.2.2 x e5).2.1, pbk _ h2 _ e6, ((hKk d1 h2).2.2.2.2.2 y e6).2.1⟩
      · unfold tt_pb at hj
        rw [if_pos rfl] at hj
        cases hj
    · have hi' : i < n := by omega
      obtain ⟨q0, q1, q2, qg, q3, qp⟩ := hKk i hi'
      obtain ⟨-, wl, wr⟩ := hW i hi'
      rw [up _ _ hi', up _ _ hi', up _ _ hi']
      refine ⟨q0, fun c => ?_, fun c => ?_, qg, fun c => (by obtain ⟨j, e1, e2, e3⟩ := q3 c; exact ⟨j, e1, e2, by rw [up _ _ (Nat.lt_trans (wr j e1) hi')]; exact e3⟩), fun j hj => ?_⟩
      · obtain ⟨e1, j, e2, e3, e4⟩ := q1 c
        have hj : j < n := Nat.lt_trans (wl j e2) hi'
        exact ⟨e1, j, e2, by rw [up _ _ hj]; exact e3, pbk _ hj _ e4⟩
      · obtain ⟨c1, d1, x, y, e1, e2, e3, e4, e5, e6, e7, e8⟩ := q2 c
        have h1 : c1 < n := Nat.lt_trans (wl c1 e1) hi'
        have h2 : d1 < n := Nat.lt_trans (wr d1 e2) hi'
        exact ⟨c1, d1, x, y, e1, e2, by rw [up _ _ h1]; exact e3, by rw [up _ _ h2]; exact e4, pbk _ h1 _ e5, e6, pbk _ h2 _ e7, e8⟩
      · rcases pbe i hi' j hj with ⟨e1, e2⟩ | ⟨e1, e2, e3⟩
        · obtain ⟨p1, p2, p3, p4⟩ := qp j e1
          exact ⟨p1, by omega, by rw [up _ _ p2]; exact p3, by rw [up _ _ p2]; exact p4⟩
        · subst e1
          exact ⟨hi', by omega, by rw [se1]; exact e2, by rw [se1]; exact e3⟩
  · intro i hi
    have cg : ∀ m, m ≤ n → ∀ p, tt_l (va_up kd n k) (va_up lf n a) (va_up rt n b) p m = tt_l kd lf rt p m := fun m hm p => tt_l_congr (fun j hj => ⟨up _ _ (by omega), up _ _ (by omega), up _ _ (by omega)⟩)
    have top : ∀ p, tt_l (va_up kd n k) (va_up lf n a) (va_up rt n b) p (n + 1) = if 2 ≤ k ∧ tt_g a b = some p then some n else tt_l kd lf rt p n := by
      intro p
      show (if 2 ≤ va_up kd n k n ∧ tt_g (va_up lf n a n) (va_up rt n b n) = some p then some n else tt_l (va_up kd n k) (va_up lf n a) (va_up rt n b) p n) = _
      rw [se1, se1, se1, cg n (Nat.le_refl n)]
    by_cases e : i = n
    · subst e
      have nol : tt_l kd lf rt i i = none := by
        cases hl : tt_l kd lf rt i i with
        | none => rfl
        | some j =>
          obtain ⟨h1, h2, h3⟩ := tt_l_some hl
          exact absurd (tt_g_lt (n := i) (fun x hx => Nat.lt_trans ((hW j h1).2.1 x hx) h1) (fun x hx => Nat.lt_trans ((hW j h1).2.2 x hx) h1) h3) (Nat.lt_irrefl _)
      refine ⟨?_, ?_⟩
      · rw [top]
        have ng : ¬ (2 ≤ k ∧ tt_g a b = some i) := fun c => absurd (tt_g_lt la lb c.2) (Nat.lt_irrefl _)
        rw [if_neg ng, nol]
        unfold tt_lu
        rw [if_pos rfl]
      · unfold tt_er
        rw [se1, se1, se1, se1]
        by_cases c : 2 ≤ k
        · rw [if_pos c, if_pos c]
          cases hg : tt_g a b with
          | none => rfl
          | some p =>
            show lu p = tt_l _ _ _ p i
            rw [cg i (Nat.le_refl _)]
            exact (hU p (tt_g_lt la lb hg)).1
        · rw [if_neg c, if_neg c]
    · have hi' : i < n := by omega
      obtain ⟨u1, u2⟩ := hU i hi'
      refine ⟨?_, ?_⟩
      · rw [top]
        unfold tt_lu
        rw [if_neg e]
        split
        · rfl
        · exact u1
      · unfold tt_er
        rw [up _ _ hi', up _ _ hi', up _ _ hi', up _ _ hi', u2]
        by_cases c : 2 ≤ kd i
        · rw [if_pos c, if_pos c]
          cases hg : tt_g (lf i) (rt i) with
          | none => rfl
          | some p =>
            show tt_l kd lf rt p i = tt_l _ _ _ p i
            rw [cg i (by omega)]
        · rw [if_neg c, if_neg c]
  · obtain ⟨v1, v0, vm, vu⟩ := hV
    have hd : dr ≤ dr' := by
      by_cases c : k = 0
      · rw [(k0 c).2.2.1]; omega
      · rw [(kn0 c).1]; exact Nat.le_refl _
    refine ⟨fun i hi c => ?_, fun i hi c => ?_, fun i j hij hj c1 c2 => ?_, fun i j hi hj hv => ?_⟩
    · by_cases e : i = n
      · subst e
        rw [se1] at c
        rw [se1, se1, se1, se1, tt_vo_up la, tt_vo_up lb]
        exact (kn0 c).2
      · have hi' : i < n := by omega
        rw [up _ _ hi'] at c
        obtain ⟨-, wl, wr⟩ := hW i hi'
        rw [up _ _ hi', up _ _ hi', up _ _ hi', up _ _ hi', tt_vo_up (fun j h => Nat.lt_trans (wl j h) hi'), tt_vo_up (fun j h => Nat.lt_trans (wr j h) hi')]
        exact v1 i hi' c
    · by_cases e : i = n
      · subst e
        rw [se1] at c
        obtain ⟨-, -, e3, e4⟩ := k0 c
        exact ⟨dr + 1, by omega, by omega, by rw [se1]; exact e4⟩
      · have hi' : i < n := by omega
        rw [up _ _ hi'] at c
        obtain ⟨d, d1, d2, d3⟩ := v0 i hi' c
        exact ⟨d, d1, by omega, by rw [up _ _ hi']; exact d3⟩
    · have hi' : i < n := by omega
      rw [up _ _ hi'] at c1
      rw [up _ _ hi']
      by_cases e : j = n
      · subst e
        rw [se1] at c2
        rw [se1, (k0 c2).2.2.2]
        obtain ⟨d, d1, d2, d3⟩ := v0 i hi' c1
        rw [d3]
        exact sm_mono (by omega)
      · rw [up _ _ (show j < n by omega)] at c2 ⊢
        exact vm i j hij (by omega) c1 c2
    · by_cases e1 : i = n
      · by_cases e2 : j = n
        · rw [e1, e2]
        · exfalso
          rw [e1, se1, up _ _ (show j < n by omega)] at hv
          exact hnew j (by omega) hv.symm
      · by_cases e2 : j = n
        · exfalso
          rw [e2, se1, up _ _ (show i < n by omega)] at hv
          exact hnew i (by omega) hv
        · rw [up _ _ (show i < n by omega), up _ _ (show j < n by omega)] at hv
          exact vu i j (by omega) (by omega) hv
  · obtain ⟨gs, g1, g2, g3, g4⟩ := hG
    have dk : ∀ {r : Option Nat}, (∀ j, r = some j → j < n) → (tt_d (va_up dv n false) r ↔ tt_d dv r) := by
      intro r hr
      constructor
      · intro h j hj
        have := h j hj
        rwa [up _ _ (hr j hj)] at this
      · intro h j hj
        rw [up _ _ (hr j hj)]
        exact h j hj
    have sk : ∀ {x y : Option Nat}, (∀ j, x = some j → j < n) → (∀ j, y = some j → j < n) → tt_s (tt_pb pb n k a) (va_up dv n false) x y → tt_s pb dv x y := by
      intro x y hx hy h
      obtain ⟨c, d, p, e1, e2, e3, e4, e5⟩ := h
      rw [up _ _ (hx c e1)] at e3
      rcases pbe d (hy d e2) p e4 with ⟨f1, f2⟩ | ⟨f1, -⟩
      · rw [up _ _ f2] at e5
        exact ⟨c, d, p, e1, e2, e3, f1, e5⟩
      · rw [f1, se1] at e5
        cases e5
    refine ⟨by omega, fun i hi c => ?_, fun w hw => ?_, fun i hi c => ?_, fun i hi c c2 c3 => ?_⟩
    · by_cases e : i = n
      · rw [e, se1] at c
        cases c
      · rw [up _ _ (show i < n by omega)] at c ⊢
        exact g1 i (by omega) c
    · obtain ⟨i, i1, i2, i3⟩ := g2 w hw
      exact ⟨i, by omega, by rw [up _ _ i1]; exact i2, by rw [up _ _ i1]; exact i3⟩
    · have hi' : i < n := by omega
      obtain ⟨-, wl, wr⟩ := hW i hi'
      have hl : ∀ j, lf i = some j → j < n := fun j h => Nat.lt_trans (wl j h) hi'
      have hr : ∀ j, rt i = some j → j < n := fun j h => Nat.lt_trans (wr j h) hi'
      rw [up _ _ hi']
      refine g3 i hi ?_
      unfold tt_m at c ⊢
      rw [up _ _ hi', up _ _ hi', up _ _ hi'] at c
      refine ⟨c.1, ?_⟩
      rcases c.2 with ⟨c1, c2⟩ | ⟨c1, c2, c3⟩
      · refine Or.inl ⟨c1, ?_⟩
        rcases c2 with c2 | c2
        · exact Or.inl (sk hl hr c2)
        · exact Or.inr (sk hr hl c2)
      · exact Or.inr ⟨c1, (dk hl).mp c2, (dk hr).mp c3⟩
    · have hi' : i < n := by omega
      obtain ⟨-, wl, wr⟩ := hW i hi'
      have hl : ∀ j, lf i = some j → j < n := fun j h => Nat.lt_trans (wl j h) hi'
      have hr : ∀ j, rt i = some j → j < n := fun j h => Nat.lt_trans (wr j h) hi'
      rw [up _ _ hi'] at c c2 c3 ⊢
      exact (dk hr).mpr (g4 i hi c c2 ((dk hl).mp c3))
end
section
/-! THE MODULE Terms: its cells, what a client sees of it -/
def tt_c (ad kd : Nat → Nat) (lf rt er lu pb : Nat → Option Nat) (dv : Nat → Bool) (i : Nat) : va_E := hm_ob 2 [.int (nI (kd i)), .int (nI i), va_rf ((lf i).map ad), va_rf ((rt i).map ad), va_rf ((er i).map ad), va_rf ((lu i).map ad), va_rf ((pb i).map ad), .int (if dv i = true then 1 else 0)]
def ts_X (D : va_G) (M : hm_M) (tm la ea c n dr se : Nat) (ad kd : Nat → Nat) (lf rt er lu pb : Nat → Option Nat) (dv : Nat → Bool) : Prop := M tm = some (hm_ob 1 [.ref la, .int (nI dr), .int (nI se)]) ∧ li_R D M la ea c n ad ∧ (∀ i, i < n → M (ad i) = some (tt_c ad kd lf rt er lu pb dv i)) ∧ c ≤ 65536
def ts_F (tm la ea c n : Nat) (ad : Nat → Nat) : Nat → Prop := fun a => a = tm ∨ a = la ∨ (a = ea ∧ c ≠ 0) ∨ ∃ i, i < n ∧ a = ad i
/-- the module holds: T a i v: the cell a is the term at place i, of value v; G what is given; dr secrets drawn, n terms, c places, settled up to se; F its cells -/
def ts_S (D : va_G) (M : hm_M) (tm : Nat) (F : Nat → Prop) (T : Nat → Nat → Nat → Prop) (G : Nat → Prop) (dr n c se : Nat) : Prop := ∃ (la ea : Nat) (ad kd : Nat → Nat) (lf rt er lu pb : Nat → Option Nat) (dv : Nat → Bool) (vl : Nat → Nat), ts_X D M tm la ea c n dr se ad kd lf rt er lu pb dv ∧ tt_I n dr se G kd lf rt er lu pb dv vl ∧ F = ts_F tm la ea c n ad ∧ T = (fun a i v => i < n ∧ a = ad i ∧ v = vl i)
/-- nothing outside F has changed, and F has got new cells alone -/
def hm_step (M : hm_M) (F : Nat → Prop) (M' : hm_M) (F' : Nat → Prop) : Prop := (∀ a, ¬ F a → M a ≠ none → M' a = M a) ∧ ∀ a, F' a → F a ∨ M a = none
theorem hm_step.rf (M : hm_M) (F : Nat → Prop) : hm_step M F M F := ⟨fun _ _ _ => rfl, fun _ h => Or.inl h⟩
theorem hm_step.tr {M M' M'' : hm_M} {F F' F'' : Nat → Prop} (h1 : hm_step M F M' F') (h2 : hm_step M' F' M'' F'') : hm_step M F M'' F'' := by
  have key : ∀ a, ¬ F a → M a ≠ none → ¬ F' a := fun a ha hm hf => (h1.2 a hf).elim ha hm
  refine ⟨fun a ha hm => ?_, fun a ha => ?_⟩
  · have e1 := h1.1 a ha hm
    rw [h2.1 a (key a ha hm) (by rw [e1]; exact hm), e1]
  · rcases h2.2 a ha with h | h
    · exact h1.2 a h
    · by_cases hf : F a
      · exact Or.inl hf
      · refine Or.inr ?_
        cases hm : M a with
        | none => rfl
        | some e =>
          have e1 := h1.1 a hf (by rw [hm]; simp)
          rw [e1, hm] at h
          cases h
/-- a cell that is the client's own -/
def hm_ow (M : hm_M) (F : Nat → Prop) (a : Nat) (e : va_E) : Prop := M a = some e ∧ ¬ F a
theorem hm_ow.step {M M' : hm_M} {F F' : Nat → Prop} {a : Nat} {e : va_E} (h : hm_ow M F a e) (hs : hm_step M F M' F') : hm_ow M' F' a e :=
  ⟨by rw [hs.1 a h.2 (by rw [h.1]; simp)]; exact h.1, fun hf => (hs.2 a hf).elim h.2 (fun z => by rw [h.1] at z; cases z)⟩
theorem hm_ow.put {M : hm_M} {F : Nat → Prop} {a b : Nat} {e f : va_E} (h : hm_ow M F a e) (hn : a ≠ b) : hm_ow (hm_up M b f) F a e := ⟨by rw [hm_up_n _ _ hn]; exact h.1, h.2⟩
theorem hm_ow.self {M : hm_M} {F : Nat → Prop} {a : Nat} {e f : va_E} (h : hm_ow M F a e) : hm_ow (hm_up M a f) F a f := ⟨hm_up_s _ _ _, h.2⟩
theorem li_R.ne {D : va_G} {M : hm_M} {a ea c n : Nat} {f : Nat → Nat} (h : li_R D M a ea c n f) (hc : c ≠ 0) : M ea ≠ none := by
  obtain ⟨m, -, -, hh⟩ := h
  rcases hh with ⟨h1, -⟩ | ⟨-, g, hg, -⟩
  · exact absurd h1 hc
  · rw [hg]; simp
theorem ts_F_some {D : va_G} {M : hm_M} {tm la ea c n dr se : Nat} {ad kd : Nat → Nat} {lf rt er lu pb : Nat → Option Nat} {dv : Nat → Bool} (h : ts_X D M tm la ea c n dr se ad kd lf rt er lu pb dv) {a : Nat} (ha : ts_F tm la ea c n ad a) : M a ≠ none := by
  obtain ⟨h1, h2, h3, -⟩ := h
  rcases ha with rfl | rfl | ⟨rfl, hc⟩ | ⟨i, hi, rfl⟩
  · rw [h1]; simp
  · obtain ⟨m, h9, -⟩ := h2
    rw [h9]; simp
  · exact h2.ne hc
  · rw [h3 i hi]; simp
theorem ts_S_some {D : va_G} {M : hm_M} {tm : Nat} {F : Nat → Prop} {T : Nat → Nat → Nat → Prop} {G : Nat → Prop} {dr n c se : Nat} (h : ts_S D M tm F T G dr n c se) {a : Nat} (ha : F a) : M a ≠ none := by
  obtain ⟨la, ea, ad, kd, lf, rt, er, lu, pb, dv, vl, hX, -, rfl, -⟩ := h
  exact ts_F_some hX ha
/-- a model that is the same on the module's cells -/
theorem ts_S.same {D : va_G} {M M' : hm_M} {tm : Nat} {F : Nat → Prop} {T : Nat → Nat → Nat → Prop} {G : Nat → Prop} {dr n c se : Nat} (h : ts_S D M tm F T G dr n c se) (hk : ∀ a, F a → M' a = M a) : ts_S D M' tm F T G dr n c se := by
  obtain ⟨la, ea, ad, kd, lf, rt, er, lu, pb, dv, vl, ⟨h1, h2, h3, h4⟩, hI, rfl, hT⟩ := h
  refine ⟨la, ea, ad, kd, lf, rt, er, lu, pb, dv, vl, ⟨by rw [hk tm (Or.inl rfl)]; exact h1, ?_, fun i hi => by rw [hk _ (Or.inr (Or.inr (Or.inr ⟨i, hi, rfl⟩)))]; exact h3 i hi, h4⟩, hI, rfl, hT⟩
  obtain ⟨m, ha, hnc, hc⟩ := h2
  refine ⟨m, by rw [hk la (Or.inr (Or.inl rfl))]; exact ha, hnc, ?_⟩
  rcases hc with h | ⟨h9, g, hg, hf⟩
  · exact Or.inl h
  · exact Or.inr ⟨h9, g, by rw [hk ea (Or.inr (Or.inr (Or.inl ⟨rfl, by omega⟩)))]; exact hg, hf⟩
theorem ts_S.put {D : va_G} {M : hm_M} {tm : Nat} {F : Nat → Prop} {T : Nat → Nat → Nat → Prop} {G : Nat → Prop} {dr n c se : Nat} (h : ts_S D M tm F T G dr n c se) {a : Nat} (ha : ¬ F a) (e : va_E) : ts_S D (hm_up M a e) tm F T G dr n c se := h.same (fun b hb => hm_up_n _ _ (fun z => ha (z ▸ hb)))
/-- which values there are -/
def ts_k (T : Nat → Nat → Nat → Prop) : Nat → Prop := fun v => ∃ a i, T a i v
/-- how many terms there are, and how many places, when these values are made one after the other -/
noncomputable def ts_r (K : Nat → Prop) (n c : Nat) : List Nat → Nat × Nat
  | [] => (n, c)
  | v :: vs => @ite _ (K v) (Classical.propDecidable _) (ts_r K n c vs) (ts_r (fun x => K x ∨ x = v) (n + 1) (li_c c n) vs)
theorem ts_r_pos {K : Nat → Prop} {n c v : Nat} {vs : List Nat} (h : K v) : ts_r K n c (v :: vs) = ts_r K n c vs := if_pos h
theorem ts_r_neg {K : Nat → Prop} {n c v : Nat} {vs : List Nat} (h : ¬ K v) : ts_r K n c (v :: vs) = ts_r (fun x => K x ∨ x = v) (n + 1) (li_c c n) vs := if_neg h
theorem li_c_ge (c n : Nat) : c ≤ li_c c n := by
  unfold li_c
  split
  · split <;> omega
  · omega
theorem ts_r_ge : ∀ (vs : List Nat) (K : Nat → Prop) (n c : Nat), n ≤ (ts_r K n c vs).1 ∧ c ≤ (ts_r K n c vs).2
  | [], K, n, c => ⟨Nat.le_refl _, Nat.le_refl _⟩
  | v :: vs, K, n, c => by
    by_cases h : K v
    · rw [ts_r_pos h]
      exact ts_r_ge vs K n c
    · rw [ts_r_neg h]
      have h1 := ts_r_ge vs (fun x => K x ∨ x = v) (n + 1) (li_c c n)
      have h2 := li_c_ge c n
      exact ⟨by omega, by omega⟩
theorem ts_r_app : ∀ (vs ws : List Nat) (K : Nat → Prop) (n c : Nat), ts_r K n c (vs ++ ws) = ts_r (fun x => K x ∨ x ∈ vs) (ts_r K n c vs).1 (ts_r K n c vs).2 ws
  | [], ws, K, n, c => by
    have e : (fun x => K x ∨ x ∈ ([] : List Nat)) = K := by funext x; simp
    rw [e]
    rfl
  | v :: vs, ws, K, n, c => by
    rw [List.cons_append]
    by_cases h : K v
    · rw [ts_r_pos h, ts_r_pos h]
      have e : (fun x => K x ∨ x ∈ v :: vs) = (fun x => K x ∨ x ∈ vs) := by
        funext x
        apply propext
        constructor
        · rintro (q | q)
          · exact Or.inl q
          · rcases List.mem_cons.mp q with rfl | q
            · exact Or.inl h
            · exact Or.inr q
        · rintro (q | q)
          · exact Or.inl q
          · exact Or.inr (List.mem_cons_of_mem _ q)
      rw [e]
      exact ts_r_app vs ws K n c
    · rw [ts_r_neg h, ts_r_neg h]
      have e : (fun x => K x ∨ x ∈ v :: vs) = (fun x => (K x ∨ x = v) ∨ x ∈ vs) := by
        funext x
        apply propext
        constructor
        · rintro (q | q)
          · exact Or.inl (Or.inl q)
          · rcases List.mem_cons.mp q with rfl | q
            · exact Or.inl (Or.inr rfl)
            · exact Or.inr q
        · rintro ((q | rfl) | q)
          · exact Or.inl q
          · exact Or.inr List.mem_cons_self
          · exact Or.inr (List.mem_cons_of_mem _ q)
      rw [e]
      exact ts_r_app vs ws (fun x => K x ∨ x = v) (n + 1) (li_c c n)
noncomputable def ts_kc (K : Nat → Prop) (n c : Nat) (vs : List Nat) : Nat := ((ts_r K n c vs).1 - n) + ((ts_r K n c vs).2 - c)
noncomputable def ts_ks (K : Nat → Prop) (n c : Nat) (vs : List Nat) : Nat := 8 * ((ts_r K n c vs).1 - n) + 4 * ((ts_r K n c vs).2 - c)
theorem ts_kc_app (vs ws : List Nat) (K : Nat → Prop) (n c : Nat) : ts_kc K n c (vs ++ ws) = ts_kc K n c vs + ts_kc (fun x => K x ∨ x ∈ vs) (ts_r K n c vs).1 (ts_r K n c vs).2 ws := by
  unfold ts_kc
  rw [ts_r_app]
  have h1 := ts_r_ge vs K n c
  have h2 := ts_r_ge ws (fun x => K x ∨ x ∈ vs) (ts_r K n c vs).1 (ts_r K n c vs).2
  omega
theorem ts_ks_app (vs ws : List Nat) (K : Nat → Prop) (n c : Nat) : ts_ks K n c (vs ++ ws) = ts_ks K n c vs + ts_ks (fun x => K x ∨ x ∈ vs) (ts_r K n c vs).1 (ts_r K n c vs).2 ws := by
  unfold ts_ks
  rw [ts_r_app]
  have h1 := ts_r_ge vs K n c
  have h2 := ts_r_ge ws (fun x => K x ∨ x ∈ vs) (ts_r K n c vs).1 (ts_r K n c vs).2
  omega
theorem ts_r_old {K : Nat → Prop} {n c v : Nat} (h : K v) : ts_r K n c [v] = (n, c) := by
  rw [ts_r_pos h]
  rfl
theorem ts_r_new {K : Nat → Prop} {n c v : Nat} (h : ¬ K v) : ts_r K n c [v] = (n + 1, li_c c n) := by
  rw [ts_r_neg h]
  rfl
/-- behind a call that makes the values vs -/
def ts_P (D : va_G) (tm : Nat) (M : hm_M) (F : Nat → Prop) (T : Nat → Nat → Nat → Prop) (G : Nat → Prop) (n c se dr' : Nat) (vs : List Nat) (M' : hm_M) (F' : Nat → Prop) (T' : Nat → Nat → Nat → Prop) : Prop := ts_S D M' tm F' T' G dr' (ts_r (ts_k T) n c vs).1 (ts_r (ts_k T) n c vs).2 se ∧ hm_step M F M' F' ∧ (∀ a i v, T a i v → T' a i v) ∧ (∀ a i v, T' a i v → T a i v ∨ (n ≤ i ∧ v ∈ vs)) ∧ (∀ v, v ∈ vs → ts_k T' v)
theorem ts_P.k {D : va_G} {tm : Nat} {M M' : hm_M} {F F' : Nat → Prop} {T T' : Nat → Nat → Nat → Prop} {G : Nat → Prop} {n c se dr' : Nat} {vs : List Nat} (h : ts_P D tm M F T G n c se dr' vs M' F' T') : ts_k T' = fun v => ts_k T v ∨ v ∈ vs := by
  funext v
  apply propext
  constructor
  · rintro ⟨a, i, q⟩
    rcases h.2.2.2.1 a i v q with q | q
    · exact Or.inl ⟨a, i, q⟩
    · exact Or.inr q.2
  · rintro (⟨a, i, q⟩ | q)
    · exact ⟨a, i, h.2.2.1 a i v q⟩
    · exact h.2.2.2.2 v q
theorem ts_P.tr {D : va_G} {tm : Nat} {M M' M'' : hm_M} {F F' F'' : Nat → Prop} {T T' T'' : Nat → Nat → Nat → Prop} {G : Nat → Prop} {n c se dr' dr'' : Nat} {vs ws : List Nat} (h : ts_P D tm M F T G n c se dr' vs M' F' T') (h2 : ts_P D tm M' F' T' G (ts_r (ts_k T) n c vs).1 (ts_r (ts_k T) n c vs).2 se dr'' ws M'' F'' T'') : ts_P D tm M F T G n c se dr'' (vs ++ ws) M'' F'' T'' := by
  have hk := h.k
  have hg := ts_r_ge vs (ts_k T) n c
  obtain ⟨s2, st2, u2, w2, k2⟩ := h2
  rw [hk] at s2
  refine ⟨by rw [ts_r_app]; exact s2, h.2.1.tr st2, fun a i v q => u2 a i v (h.2.2.1 a i v q), fun a i v q => ?_, fun v q => ?_⟩
  · rcases w2 a i v q with q | q
    · rcases h.2.2.2.1 a i v q with q | q
      · exact Or.inl q
      · exact Or.inr ⟨q.1, List.mem_append_left _ q.2⟩
    · exact Or.inr ⟨by omega, List.mem_append_right _ q.2⟩
  · rcases List.mem_append.mp q with q | q
    · obtain ⟨a, i, q⟩ := h.2.2.2.2 v q
      exact ⟨a, i, u2 a i v q⟩
    · exact k2 v q
/-- an optional term and its value -/
def ts_o (T : Nat → Nat → Nat → Prop) (r : Option Nat) (v : Nat) : Prop := (r = none ∧ v = 0) ∨ ∃ a i, r = some a ∧ T a i v
theorem ts_o.mono {T T' : Nat → Nat → Nat → Prop} {r : Option Nat} {v : Nat} (h : ts_o T r v) (hs : ∀ a i v, T a i v → T' a i v) : ts_o T' r v := by
  rcases h with h | ⟨a, i, h1, h2⟩
  · exact Or.inl h
  · exact Or.inr ⟨a, i, h1, hs a i v h2⟩
end
section
theorem om_up {ad : Nat → Nat} {n q : Nat} {r : Option Nat} (h : ∀ j, r = some j → j < n) : r.map (va_up ad n q) = r.map ad := by
  cases r with
  | none => rfl
  | some j => exact congrArg some (va_up_ne _ _ (Nat.ne_of_lt (h j rfl)))
theorem tt_lu_lt {n : Nat} {kd : Nat → Nat} {lf rt er lu : Nat → Option Nat} (hU : tt_U n kd lf rt er lu) {i : Nat} (hi : i < n) : (∀ j, lu i = some j → j < n) ∧ (∀ j, er i = some j → j < n ∧ j < i) := by
  obtain ⟨h1, h2⟩ := hU i hi
  refine ⟨fun j hj => ?_, fun j hj => ?_⟩
  · rw [h1] at hj
    exact (tt_l_some hj).1
  · rw [h2] at hj
    by_cases c : 2 ≤ kd i
    · rw [if_pos c] at hj
      cases hg : tt_g (lf i) (rt i) with
      | none => rw [hg] at hj; cases hj
      | some p =>
        rw [hg] at hj
        have := (tt_l_some (show tt_l kd lf rt p i = some j from hj)).1
        exact ⟨by omega, this⟩
    · rw [if_neg c] at hj
      cases hj
/-- pointers below n: the cell of an old term over the grown address map -/
theorem tt_c_up {ad kd : Nat → Nat} {lf rt er lu pb : Nat → Option Nat} {dv : Nat → Bool} {n i q : Nat} (hl : ∀ j, lf i = some j → j < n) (hr : ∀ j, rt i = some j → j < n) (he : ∀ j, er i = some j → j < n) (hu : ∀ j, lu i = some j → j < n) (hp : ∀ j, pb i = some j → j < n) : tt_c (va_up ad n q) kd lf rt er lu pb dv i = tt_c ad kd lf rt er lu pb dv i := by
  unfold tt_c
  rw [om_up hl, om_up hr, om_up he, om_up hu, om_up hp]
set_option maxHeartbeats 1000000 in
theorem ts_ext {D : va_G} {M M' : hm_M} {tm la ea ea' c n dr dr' se q k v : Nat} {G : Nat → Prop} {ad kd : Nat → Nat} {lf rt er lu pb : Nat → Option Nat} {dv : Nat → Bool} {vl : Nat → Nat} {a b : Option Nat} (hX : ts_X D M tm la ea c n dr se ad kd lf rt er lu pb dv) (hI : tt_I n dr se G kd lf rt er lu pb dv vl) (ok : tt_ok n dr dr' kd pb vl k a b v) (hq : M q = none)
    (ht : M' tm = some (hm_ob 1 [.ref la, .int (nI dr'), .int (nI se)])) (hR : li_R D M' la ea' (li_c c n) (n + 1) (va_up ad n q))
    (hcq : M' q = some (hm_ob 2 [.int (nI k), .int (nI n), va_rf (a.map ad), va_rf (b.map ad), va_rf ((if 2 ≤ k then (tt_g a b).bind lu else none).map ad), .null, .null, .int 0]))
    (hold : ∀ i, i < n → M' (ad i) = some (tt_c (va_up ad n q) kd lf rt er (tt_lu lu n k a b) (tt_pb pb n k a) dv i))
    (hfr : ∀ z, z ≠ q → z ≠ la → z ≠ ea' → z ≠ tm → (∀ i, i < n → z ≠ ad i) → M' z = M z) (hea : (ea' = ea ∧ n < c) ∨ (M ea' = none ∧ ea' ≠ q)) (hc : c ≤ 40000) :
    ts_P D tm M (ts_F tm la ea c n ad) (fun a i v => i < n ∧ a = ad i ∧ v = vl i) G n c se dr' [v] M' (ts_F tm la ea' (li_c c n) (n + 1) (va_up ad n q)) (fun a i w => i < n + 1 ∧ a = va_up ad n q i ∧ w = va_up vl n v i) := by
  have hI' := tt_add hI ok
  obtain ⟨k7, la', lb', hnew, -⟩ := ok
  have nk : ¬ ts_k (fun a i v => i < n ∧ a = ad i ∧ v = vl i) v := by
    rintro ⟨z, i, hi, -, e⟩
    exact hnew i hi e.symm
  have hcc : li_c c n ≤ 65536 := by
    unfold li_c
    split
    · split <;> omega
    · omega
  refine ⟨?_, ⟨fun z hz hm => ?_, fun z hz => ?_⟩, fun z i w h => ?_, fun z i w h => ?_, fun w hw => ?_⟩
  · rw [ts_r_new nk]
    refine ⟨la, ea', va_up ad n q, va_up kd n k, va_up lf n a, va_up rt n b, tt_er er lu n k a b, tt_lu lu n k a b, tt_pb pb n k a, va_up dv n false, va_up vl n v, ⟨ht, hR, fun i hi => ?_, hcc⟩, hI', rfl, rfl⟩
    by_cases e : i = n
    · subst e
      rw [va_up_self, hcq]
      have hb : ∀ j, (if 2 ≤ k then (tt_g a b).bind lu else none) = some j → j < i := by
        intro j hj
        by_cases c2 : 2 ≤ k
        · rw [if_pos c2] at hj
          cases hg : tt_g a b with
          | none => rw [hg] at hj; cases hj
          | some p =>
            rw [hg] at hj
            exact (tt_lu_lt hI.2.2.1 (tt_g_lt la' lb' hg)).1 j hj
        · rw [if_neg c2] at hj
          cases hj
      unfold tt_c tt_er
      rw [va_up_self, va_up_self, va_up_self, va_up_self, va_up_self, om_up la', om_up lb', om_up hb]
      have e1 : tt_lu lu i k a b i = none := if_pos rfl
      have e2 : tt_pb pb i k a i = none := if_pos rfl
      rw [e1, e2]
      rfl
    · have hi' : i < n := by omega
      rw [va_up_ne _ _ e, hold i hi']
      unfold tt_c tt_er
      rw [va_up_ne _ _ e, va_up_ne _ _ e, va_up_ne _ _ e, va_up_ne _ _ e, va_up_ne _ _ e]
  · have h1 : z ≠ q := fun e => hm (by rw [e]; exact hq)
    have h2 : z ≠ ea' := by
      intro e
      rcases hea with ⟨h, h'⟩ | ⟨h, -⟩
      · exact hz (Or.inr (Or.inr (Or.inl ⟨e.trans h, by omega⟩)))
      · exact hm (by rw [e]; exact h)
    exact hfr z h1 (fun e => hz (Or.inr (Or.inl e))) h2 (fun e => hz (Or.inl e)) (fun i hi e => hz (Or.inr (Or.inr (Or.inr ⟨i, hi, e⟩))))
  · rcases hz with h | h | ⟨h, h'⟩ | ⟨i, hi, h⟩
    · exact Or.inl (Or.inl h)
    · exact Or.inl (Or.inr (Or.inl h))
    · rcases hea with ⟨h2, h3⟩ | ⟨h2, -⟩
      · exact Or.inl (Or.inr (Or.inr (Or.inl ⟨h.trans h2, by omega⟩)))
      · exact Or.inr (by rw [h]; exact h2)
    · by_cases e : i = n
      · rw [e, va_up_self] at h
        exact Or.inr (by rw [h]; exact hq)
      · rw [va_up_ne _ _ e] at h
        exact Or.inl (Or.inr (Or.inr (Or.inr ⟨i, by omega, h⟩)))
  · obtain ⟨h1, h2, h3⟩ := h
    exact ⟨by omega, by rw [va_up_ne _ _ (Nat.ne_of_lt h1)]; exact h2, by rw [va_up_ne _ _ (Nat.ne_of_lt h1)]; exact h3⟩
  · obtain ⟨h1, h2, h3⟩ := h
    by_cases e : i = n
    · rw [e, va_up_self] at h3
      exact Or.inr ⟨by omega, by rw [h3]; exact List.mem_singleton.mpr rfl⟩
    · rw [va_up_ne _ _ e] at h2 h3
      exact Or.inl ⟨by omega, h2, h3⟩
  · rw [List.mem_singleton.mp hw]
    exact ⟨_, n, by omega, rfl, (va_up_self _ _ _).symm⟩
theorem ts_el {D : va_G} {M : hm_M} {tm la ea c n dr se : Nat} {ad kd : Nat → Nat} {lf rt er lu pb : Nat → Option Nat} {dv : Nat → Bool} (h : ts_X D M tm la ea c n dr se ad kd lf rt er lu pb dv) : li_E M n ad := fun i hi => ⟨2, _, _, h.2.2.1 i hi, rfl, nh_TE_OJ⟩
/-- the cells of terms are no others of the module -/
theorem ts_ne {D : va_G} {M : hm_M} {tm la ea c n dr se : Nat} {ad kd : Nat → Nat} {lf rt er lu pb : Nat → Option Nat} {dv : Nat → Bool} (h : ts_X D M tm la ea c n dr se ad kd lf rt er lu pb dv) {i : Nat} (hi : i < n) : ad i ≠ tm ∧ ad i ≠ la ∧ (c ≠ 0 → ad i ≠ ea) := by
  obtain ⟨h1, ⟨m, h2, -, hc⟩, h3, -⟩ := h
  refine ⟨hm_ne (h3 i hi) h1 (by decide), hm_ne (h3 i hi) h2 (by decide), fun hz => ?_⟩
  rcases hc with ⟨h, -⟩ | ⟨-, g, hg, -⟩
  · exact absurd h hz
  · exact hm_neA (h3 i hi) hg
theorem ts_inj {D : va_G} {M : hm_M} {tm la ea c n dr se : Nat} {ad kd : Nat → Nat} {lf rt er lu pb : Nat → Option Nat} {dv : Nat → Bool} (h : ts_X D M tm la ea c n dr se ad kd lf rt er lu pb dv) {i j : Nat} (hi : i < n) (hj : j < n) (e : ad i = ad j) : i = j := by
  obtain ⟨-, ⟨m, -, hnc, -⟩, h3, h4⟩ := h
  have h1 := h3 i hi
  rw [e, h3 j hj] at h1
  unfold tt_c at h1
  have h2 := Sum.inr.inj (Option.some.inj h1)
  have h5 : nI j = nI i := by
    have h6 := congrArg (fun p : Nat × List Value => p.2[1]?) h2
    simp at h6
    exact h6
  exact ((nI_eq (by omega) (by omega)).mp h5).symm
end
section
theorem tt_pos {n dr : Nat} {kd : Nat → Nat} {lf rt : Nat → Option Nat} {vl : Nat → Nat} (hV : tt_V n dr kd lf rt vl) {i : Nat} (hi : i < n) : vl i ≠ 0 := by
  by_cases c : kd i = 0
  · obtain ⟨d, -, -, e⟩ := hV.2.1 i hi c
    rw [e]; exact sm_t_ne _ _ _
  · rw [hV.1 i hi c]; exact sm_t_ne _ _ _
theorem tt_vo_inj {n dr : Nat} {kd : Nat → Nat} {lf rt : Nat → Option Nat} {vl : Nat → Nat} (hV : tt_V n dr kd lf rt vl) {r r' : Option Nat} (h1 : ∀ j, r = some j → j < n) (h2 : ∀ j, r' = some j → j < n) (e : tt_vo vl r = tt_vo vl r') : r = r' := by
  cases r with
  | none =>
    cases r' with
    | none => rfl
    | some j => exact absurd e.symm (tt_pos hV (h2 j rfl))
  | some i =>
    cases r' with
    | none => exact absurd e (tt_pos hV (h1 i rfl))
    | some j => exact congrArg some (hV.2.2.2 i j (h1 i rfl) (h2 j rfl) e)
theorem tt_ok_draw {n dr se : Nat} {G : Nat → Prop} {kd : Nat → Nat} {lf rt er lu pb : Nat → Option Nat} {dv : Nat → Bool} {vl : Nat → Nat} (h : tt_I n dr se G kd lf rt er lu pb dv vl) : tt_ok n dr (dr + 1) kd pb vl 0 none none (sm_t 0 (dr + 1) 0) := by
  refine ⟨by omega, fun j h => (by cases h), fun j h => (by cases h), fun i hi e => ?_, fun _ => ⟨rfl, rfl, rfl, rfl⟩, fun h => absurd rfl h, fun h => by omega, fun h => by omega, fun h => by omega, fun h => by omega⟩
  obtain ⟨-, -, -, hV, -⟩ := h
  by_cases c : kd i = 0
  · obtain ⟨d, d1, d2, d3⟩ := hV.2.1 i hi c
    rw [d3] at e
    have := (sm_t_inj e).2.1
    omega
  · rw [hV.1 i hi c] at e
    exact c (sm_t_inj e).1
theorem tt_ok_pub {n dr se j : Nat} {G : Nat → Prop} {kd : Nat → Nat} {lf rt er lu pb : Nat → Option Nat} {dv : Nat → Bool} {vl : Nat → Nat} (h : tt_I n dr se G kd lf rt er lu pb dv vl) (hj : j < n) (h0 : kd j = 0) (hp : pb j = none) : tt_ok n dr dr kd pb vl 1 (some j) none (sm_t 1 (vl j) 0) := by
  refine ⟨by omega, fun i h => (by cases h; exact hj), fun i h => (by cases h), fun i hi e => ?_, fun h => by omega, fun _ => ⟨rfl, rfl⟩, fun _ => ⟨rfl, j, rfl, h0, hp⟩, fun h => by omega, fun h => by omega, fun h => by omega⟩
  obtain ⟨hW, hKk, -, hV, -⟩ := h
  by_cases c : kd i = 0
  · obtain ⟨d, d1, d2, d3⟩ := hV.2.1 i hi c
    rw [d3] at e
    have := (sm_t_inj e).1
    omega
  · rw [hV.1 i hi c] at e
    obtain ⟨e1, e2, -⟩ := sm_t_inj e
    obtain ⟨-, j', f1, f2, f3⟩ := (hKk i hi).2.1 e1
    rw [f1] at e2
    have hj' : j' < n := Nat.lt_trans ((hW i hi).2.1 j' f1) hi
    have : j' = j := hV.2.2.2 j' j hj' hj e2
    rw [this, hp] at f3
    cases f3
theorem tt_ok_made {n dr se k : Nat} {G : Nat → Prop} {kd : Nat → Nat} {lf rt er lu pb : Nat → Option Nat} {dv : Nat → Bool} {vl : Nat → Nat} {a b : Option Nat} (h : tt_I n dr se G kd lf rt er lu pb dv vl) (hk : 2 ≤ k) (k7 : k ≤ 7) (ha : ∀ j, a = some j → j < n) (hb : ∀ j, b = some j → j < n) (hg : tt_g a b ≠ none) (k2 : k = 2 → ∃ c d x y, a = some c ∧ b = some d ∧ kd c = 0 ∧ kd d = 0 ∧ pb c = some x ∧ pb d = some y) (k3 : k = 3 → ∃ j, b = some j ∧ n ≤ j + 4 ∧ kd j = 0) (hno : ∀ i, i < n → ¬ (kd i = k ∧ lf i = a ∧ rt i = b)) : tt_ok n dr dr kd pb vl k a b (sm_t k (tt_vo vl a) (tt_vo vl b)) := by
  refine ⟨k7, ha, hb, fun i hi e => ?_, fun h => by omega, fun _ => ⟨rfl, rfl⟩, fun h => by omega, k2, fun _ => hg, k3⟩
  obtain ⟨hW, hKk, -, hV, -⟩ := h
  by_cases c : kd i = 0
  · obtain ⟨d, d1, d2, d3⟩ := hV.2.1 i hi c
    rw [d3] at e
    have := (sm_t_inj e).1
    omega
  · rw [hV.1 i hi c] at e
    obtain ⟨e1, e2, e3⟩ := sm_t_inj e
    exact hno i hi ⟨e1, tt_vo_inj hV (fun j h => Nat.lt_trans ((hW i hi).2.1 j h) hi) ha e2, tt_vo_inj hV (fun j h => Nat.lt_trans ((hW i hi).2.2 j h) hi) hb e3⟩
/-- terms that a client holds, by their places -/
theorem ts_pl {n : Nat} {ad vl : Nat → Nat} {r : Option Nat} {v : Nat} (h : ts_o (fun a i v => i < n ∧ a = ad i ∧ v = vl i) r v) : ∃ p : Option Nat, r = p.map ad ∧ (∀ j, p = some j → j < n) ∧ v = tt_vo vl p := by
  rcases h with ⟨rfl, rfl⟩ | ⟨a, i, rfl, h1, h2, h3⟩
  · exact ⟨none, rfl, fun j h => (by cases h), rfl⟩
  · exact ⟨some i, (by rw [h2]; rfl), fun j h => (by cases h; exact h1), h3⟩
theorem ts_kc1 {K : Nat → Prop} {n c v : Nat} (h : ¬ K v) : ts_kc K n c [v] = 1 + (li_c c n - c) ∧ ts_ks K n c [v] = 8 + 4 * (li_c c n - c) := by
  unfold ts_kc ts_ks
  rw [ts_r_new h]
  have := li_c_ge c n
  constructor <;> (dsimp only; omega)
theorem ts_kc0 {K : Nat → Prop} {n c v : Nat} (h : K v) : ts_kc K n c [v] = 0 ∧ ts_ks K n c [v] = 0 := by
  unfold ts_kc ts_ks
  rw [ts_r_old h]
  constructor <;> (dsimp only; omega)
set_option maxHeartbeats 4000000 in
set_option maxRecDepth 100000 in
theorem ct_TS_draw {l : Launch} {D : va_G} {BG : Nat → Option Cell} (M : hm_M) (tm : Nat) (F : Nat → Prop) (T : Nat → Nat → Nat → Prop) (G : Nat → Prop) (dr n c se : Nat) (hS : ts_S D M tm F T G dr n c se) (hc : c ≤ 40000) : hm_ct l D BG ny_TS_draw prog_5_method_2_code 1 (some (.object "TurnedKeys$Term")) 8 196 (ts_kc (ts_k T) n c [sm_t 0 (dr + 1) 0]) (ts_ks (ts_k T) n c [sm_t 0 (dr + 1) 0]) [.ref tm] M (fun r M' => ∃ q F' T', r = some (.ref q) ∧ ts_P D tm M F T G n c se (dr + 1) [sm_t 0 (dr + 1) 0] M' F' T' ∧ T' q n (sm_t 0 (dr + 1) 0)) := by
  refine hm_ct_of (by decide +kernel) (by exact Nat.le_of_ble_eq_true rfl) ?_
  intro X C E
  have C : hm_C X l D BG prog_5_method_2_code "TurnedKeys$Terms" "draw" 1 8 196 (ts_kc (ts_k T) n c [sm_t 0 (dr + 1) 0]) (ts_ks (ts_k T) n c [sm_t 0 (dr + 1) 0]) := C
  obtain ⟨la, ea, ad, kd, lf, rt, er, lu, pb, dv, vl, hX, hI, rfl, rfl⟩ := hS
  have nk : ¬ ts_k (fun a i v => i < n ∧ a = ad i ∧ v = vl i) (sm_t 0 (dr + 1) 0) := by
    rintro ⟨z, i, hi, -, e⟩
    exact (tt_ok_draw hI).2.2.2.1 i hi e.symm
  have hmc := ts_kc1 (n := n) (c := c) nk
  obtain ⟨ht, hR, hcell, hc6⟩ := id hX
  refine hm_lv (lv' := [(0, .ref tm)]) rfl ?_
  refine hm_aload_n C nd_TS_draw_0 rfl ?_
  refine hm_dup C nd_TS_draw_1 rfl ?_
  refine hm_get C nF_TS_18 ht rfl nd_TS_draw_2 ?_
  refine hm_iconst (v := 1) C nd_TS_draw_5 (by decide) ?_
  refine hm_iadd C nd_TS_draw_6 ?_
  rw [nI_1]
  refine hm_put C nF_TS_18 ht (Nat.le_of_ble_eq_true rfl) rfl rfl nd_TS_draw_7 ?_
  refine hm_eqM (M' := hm_up M tm (hm_ob 1 [.ref la, .int (nI (dr + 1)), .int (nI se)])) rfl ?_
  generalize hM1 : hm_up M tm (hm_ob 1 [.ref la, .int (nI (dr + 1)), .int (nI se)]) = M1
  have fM1_0 : M1 tm = some (hm_ob 1 [.ref la, .int (nI (dr + 1)), .int (nI se)]) := by rw [← hM1]; exact hm_up_s _ _ _
  have hX1 : ∀ i, i < n → M1 (ad i) = some (tt_c ad kd lf rt er lu pb dv i) := fun i hi => by rw [← hM1, hm_up_n _ _ (ts_ne hX hi).1]; exact hcell i hi
  have hR1 : li_R D M1 la ea c n ad := by
    obtain ⟨m, h1, h2, h3⟩ := id hR
    refine ⟨m, by rw [← hM1, hm_up_n _ _ (hm_ne h1 ht (by decide))]; exact h1, h2, ?_⟩
    rcases h3 with h | ⟨h9, g, hg, hf⟩
    · exact Or.inl h
    · exact Or.inr ⟨h9, g, by rw [← hM1, hm_up_n _ _ (Ne.symm (hm_neA ht hg))]; exact hg, hf⟩
  refine hm_aload_n C nd_TS_draw_10 rfl ?_
  refine hm_iconst (v := 0) C nd_TS_draw_11 (by decide) ?_
  refine hm_null C nd_TS_draw_12 ?_
  refine hm_null C nd_TS_draw_13 ?_
  refine hm_null C nd_TS_draw_14 ?_
  refine hm_stk (st' := [va_rf none, va_rf none, va_rf none, .int (nI 0), .ref tm]) rfl ?_
  refine hm_callV C (ct_TS_added M1 tm la ea c n ad (nI (dr + 1)) (nI se) (nI 0) none none none fM1_0 hR1 (fun i hi => ⟨2, _, _, hX1 i hi, rfl, nh_TE_OJ⟩) hc) nV_TS_added [.int (nI 0), va_rf none, va_rf none, va_rf none] rfl fM1_0 rfl nq_TS_22 nj_TS_added nx_TS_added rfl (rest := []) rfl (Nat.le_of_ble_eq_true rfl) (by decide) (by decide) (by omega) (by omega) nd_TS_draw_15 (fun r M2 hp => ?_)
  obtain ⟨q, ea', rfl, hq, hcq, hR2, hfr, hea⟩ := hp
  have hqt : q ≠ tm := fun e => by rw [e, fM1_0] at hq; cases hq
  have hq0 : M q = none := by rw [← hM1, hm_up_n _ _ hqt] at hq; exact hq
  have hea0 : (ea' = ea ∧ n < c) ∨ (M ea' = none ∧ ea' ≠ q) := by
    rcases hea with h | ⟨h, h'⟩
    · exact Or.inl h
    · refine Or.inr ⟨?_, h'⟩
      have : ea' ≠ tm := fun e => by rw [e, fM1_0] at h; cases h
      rw [← hM1, hm_up_n _ _ this] at h
      exact h
  have hld : ∀ i, i < n → ad i ≠ q ∧ ad i ≠ la ∧ ad i ≠ ea' := fun i hi => ⟨hm_neF (hcell i hi) hq0, (ts_ne hX hi).2.1, fun e => by
    rcases hea0 with ⟨h, h'⟩ | ⟨h, -⟩
    · exact (ts_ne hX hi).2.2 (by omega) (e.trans h)
    · rw [← e, hcell i hi] at h; cases h⟩
  have htm : tm ≠ la ∧ tm ≠ ea' := by
    obtain ⟨m, h1, -, h3⟩ := id hR
    refine ⟨hm_ne ht h1 (by decide), fun e => ?_⟩
    rcases hea0 with ⟨h, h'⟩ | ⟨h, -⟩
    · rcases h3 with ⟨h4, -⟩ | ⟨-, g, hg, -⟩
      · omega
      · exact hm_neA ht hg (e.trans h)
    · rw [← e, ht] at h; cases h
  have hext := ts_ext hX hI (tt_ok_draw hI) hq0 (by rw [hfr tm (Ne.symm hqt) htm.1 htm.2]; exact fM1_0) hR2 hcq (fun i hi => by
      obtain ⟨d1, d2, d3⟩ := hld i hi
      rw [hfr _ d1 d2 d3, hX1 i hi]
      have e1 : tt_lu lu n 0 none none i = lu i := by unfold tt_lu; rw [if_neg (by omega), if_neg (by omega)]
      have e2 : tt_pb pb n 0 none i = pb i := by unfold tt_pb; rw [if_neg (by omega), if_neg (by omega)]
      have hlr := hI.1 i hi
      have hul := tt_lu_lt hI.2.2.1 hi
      rw [← tt_c_up (n := n) (q := q) (fun j h => Nat.lt_trans (hlr.2.1 j h) hi) (fun j h => Nat.lt_trans (hlr.2.2 j h) hi) (fun j h => (hul.2 j h).1) hul.1 (fun j h => ((hI.2.1 i hi).2.2.2.2.2 j h).2.1)]
      unfold tt_c
      rw [e1, e2]) (fun z z1 z2 z3 z4 z5 => by rw [hfr z z1 z2 z3, ← hM1, hm_up_n _ _ z4]) hea0 hc
  refine hm_stk (st' := [.ref q]) rfl ?_
  exact hm_aret (r := (some q)) C E (Or.inl ⟨_, rfl⟩) (by omega) (by omega) (⟨q, _, _, rfl, hext, by omega, (va_up_self _ _ _).symm, (va_up_self _ _ _).symm⟩) nd_TS_draw_18
end
section
theorem om_inj {D : va_G} {M : hm_M} {tm la ea c n dr se : Nat} {ad kd : Nat → Nat} {lf rt er lu pb : Nat → Option Nat} {dv : Nat → Bool} (h : ts_X D M tm la ea c n dr se ad kd lf rt er lu pb dv) {r r' : Option Nat} (h1 : ∀ j, r = some j → j < n) (h2 : ∀ j, r' = some j → j < n) (e : r.map ad = r'.map ad) : r = r' := by
  cases r with
  | none =>
    cases r' with
    | none => rfl
    | some j => cases e
  | some i =>
    cases r' with
    | none => cases e
    | some j => exact congrArg some (ts_inj h (h1 i rfl) (h2 j rfl) (Option.some.inj e))
theorem om_none {ad : Nat → Nat} {r : Option Nat} (h : r.map ad = none) : r = none := by
  cases r with
  | none => rfl
  | some j => cases h
theorem om_some {ad : Nat → Nat} {r : Option Nat} (h : ¬ r.map ad = none) : ∃ j, r = some j := by
  cases r with
  | none => exact absurd rfl h
  | some j => exact ⟨j, rfl⟩
theorem li_R.put {D : va_G} {M : hm_M} {a ea c n z : Nat} {f : Nat → Nat} {e : va_E} (h : li_R D M a ea c n f) (h1 : z ≠ a) (h2 : c ≠ 0 → z ≠ ea) : li_R D (hm_up M z e) a ea c n f := by
  obtain ⟨m, ha, hnc, hc⟩ := h
  refine ⟨m, by rw [hm_up_n _ _ (Ne.symm h1)]; exact ha, hnc, ?_⟩
  rcases hc with h | ⟨h9, g, hg, hf⟩
  · exact Or.inl h
  · exact Or.inr ⟨h9, g, by rw [hm_up_n _ _ (Ne.symm (h2 (by omega)))]; exact hg, hf⟩
theorem ts_P.old {D : va_G} {tm : Nat} {M : hm_M} {F : Nat → Prop} {T : Nat → Nat → Nat → Prop} {G : Nat → Prop} {n c se dr v : Nat} (hS : ts_S D M tm F T G dr n c se) (hk : ts_k T v) : ts_P D tm M F T G n c se dr [v] M F T := by
  refine ⟨by rw [ts_r_old hk]; exact hS, hm_step.rf M F, fun _ _ _ h => h, fun _ _ _ h => Or.inl h, fun w hw => ?_⟩
  rw [List.mem_singleton.mp hw]
  exact hk
/-- what an added term leaves as it was -/
theorem ts_left {D : va_G} {M : hm_M} {tm la ea ea' c n dr se q : Nat} {ad kd : Nat → Nat} {lf rt er lu pb : Nat → Option Nat} {dv : Nat → Bool} (hX : ts_X D M tm la ea c n dr se ad kd lf rt er lu pb dv) (hq : M q = none) (hea : (ea' = ea ∧ n < c) ∨ (M ea' = none ∧ ea' ≠ q)) : (∀ i, i < n → ad i ≠ q ∧ ad i ≠ la ∧ ad i ≠ ea') ∧ tm ≠ q ∧ tm ≠ la ∧ tm ≠ ea' := by
  obtain ⟨ht, hR, hcell, -⟩ := id hX
  refine ⟨fun i hi => ⟨hm_neF (hcell i hi) hq, (ts_ne hX hi).2.1, fun e => ?_⟩, hm_neF ht hq, ?_, fun e => ?_⟩
  · rcases hea with ⟨h, h'⟩ | ⟨h, -⟩
    · exact (ts_ne hX hi).2.2 (by omega) (e.trans h)
    · rw [← e, hcell i hi] at h; cases h
  · obtain ⟨m, h1, -⟩ := hR
    exact hm_ne ht h1 (by decide)
  · obtain ⟨m, h1, -, h3⟩ := hR
    rcases hea with ⟨h, h'⟩ | ⟨h, -⟩
    · rcases h3 with ⟨h4, -⟩ | ⟨-, g, hg, -⟩
      · omega
      · exact hm_neA ht hg (e.trans h)
    · rw [← e, ht] at h; cases h
theorem tt_old {n dr se k : Nat} {G : Nat → Prop} {ad kd : Nat → Nat} {lf rt er lu pb : Nat → Option Nat} {dv : Nat → Bool} {vl : Nat → Nat} {a b : Option Nat} {q i : Nat} (hI : tt_I n dr se G kd lf rt er lu pb dv vl) (hi : i < n) (h1 : ¬ (2 ≤ k ∧ tt_g a b = some i)) (h2 : ¬ (k = 1 ∧ a = some i)) : tt_c (va_up ad n q) kd lf rt er (tt_lu lu n k a b) (tt_pb pb n k a) dv i = tt_c ad kd lf rt er lu pb dv i := by
  have e1 : tt_lu lu n k a b i = lu i := by unfold tt_lu; rw [if_neg (by omega), if_neg h1]
  have e2 : tt_pb pb n k a i = pb i := by unfold tt_pb; rw [if_neg (by omega), if_neg h2]
  have hlr := hI.1 i hi
  have hul := tt_lu_lt hI.2.2.1 hi
  rw [← tt_c_up (n := n) (q := q) (fun j h => Nat.lt_trans (hlr.2.1 j h) hi) (fun j h => Nat.lt_trans (hlr.2.2 j h) hi) (fun j h => (hul.2 j h).1) hul.1 (fun j h => ((hI.2.1 i hi).2.2.2.2.2 j h).2.1)]
  unfold tt_c
  rw [e1, e2]
set_option maxHeartbeats 4000000 in
set_option maxRecDepth 100000 in
theorem ct_TS_younger {l : Launch} {D : va_G} {BG : Nat → Option Cell} (M : hm_M) (n : Nat) (ad kd : Nat → Nat) (lf rt er lu pb : Nat → Option Nat) (dv : Nat → Bool) (hcell : ∀ i, i < n → M (ad i) = some (tt_c ad kd lf rt er lu pb dv i)) (hn : n < 2 ^ 31) (a b : Option Nat) (ha : ∀ j, a = some j → j < n) (hb : ∀ j, b = some j → j < n) : hm_ct l D BG ny_TS_younger prog_5_method_7_code 2 (some (.object "TurnedKeys$Term")) 0 0 0 0 [va_rf (a.map ad), va_rf (b.map ad)] M (fun r M' => r = some (va_rf ((tt_g a b).map ad)) ∧ M' = M) := by
  refine hm_ct_of (by decide +kernel) (by simp [lg_sl, hm_cat, hm_catI, hm_catR, hm_catN]) ?_
  intro X C E
  have C : hm_C X l D BG prog_5_method_7_code "TurnedKeys$Terms" "younger" 2 0 0 0 0 := C
  refine hm_lv (lv' := [(0, va_rf (a.map ad)), (1, va_rf (b.map ad))]) (by simp [lv_args, hm_cat, hm_catI, hm_catR, hm_catN]) ?_
  rcases a with _ | x <;> rcases b with _ | y
  · refine hm_lv (lv' := [(0, .null), (1, .null)]) rfl ?_
    refine hm_aload_nN C nd_TS_younger_0 rfl ?_
    refine hm_ifnull (tgt := 8) (r := none) C nd_TS_younger_1 (by decide) (fun _ => ?_) (fun h => absurd rfl h)
    refine hm_aload_nN C nd_TS_younger_8 rfl ?_
    refine hm_ifnonnull (tgt := 16) (r := none) C nd_TS_younger_9 (by decide) (fun h => absurd rfl h) (fun _ => ?_)
    refine hm_aload_nN C nd_TS_younger_12 rfl ?_
    refine hm_goto (tgt := 17) C nd_TS_younger_13 (by decide) ?_
    exact hm_aret (r := none) C E (Or.inl ⟨_, rfl⟩) (by omega) (by omega) (⟨rfl, rfl⟩) nd_TS_younger_17
  · refine hm_lv (lv' := [(0, .null), (1, .ref (ad y))]) rfl ?_
    refine hm_aload_nN C nd_TS_younger_0 rfl ?_
    refine hm_ifnull (tgt := 8) (r := none) C nd_TS_younger_1 (by decide) (fun _ => ?_) (fun h => absurd rfl h)
    refine hm_aload_nN C nd_TS_younger_8 rfl ?_
    refine hm_ifnonnull (tgt := 16) (r := none) C nd_TS_younger_9 (by decide) (fun h => absurd rfl h) (fun _ => ?_)
    refine hm_aload_n C nd_TS_younger_12 rfl ?_
    refine hm_goto (tgt := 17) C nd_TS_younger_13 (by decide) ?_
    exact hm_aret (r := (some (ad y))) C E (Or.inl ⟨_, rfl⟩) (by omega) (by omega) (⟨rfl, rfl⟩) nd_TS_younger_17
  · refine hm_lv (lv' := [(0, .ref (ad x)), (1, .null)]) rfl ?_
    refine hm_aload_n C nd_TS_younger_0 rfl ?_
    refine hm_ifnull (tgt := 8) (r := (some (ad x))) C nd_TS_younger_1 (by decide) (fun h => by cases h) (fun _ => ?_)
    refine hm_aload_nN C nd_TS_younger_4 rfl ?_
    refine hm_ifnonnull (tgt := 18) (r := none) C nd_TS_younger_5 (by decide) (fun h => absurd rfl h) (fun _ => ?_)
    refine hm_aload_n C nd_TS_younger_8 rfl ?_
    refine hm_ifnonnull (tgt := 16) (r := (some (ad x))) C nd_TS_younger_9 (by decide) (fun _ => ?_) (fun h => by cases h)
    refine hm_aload_n C nd_TS_younger_16 rfl ?_
    exact hm_aret (r := (some (ad x))) C E (Or.inl ⟨_, rfl⟩) (by omega) (by omega) (⟨rfl, rfl⟩) nd_TS_younger_17
  · refine hm_lv (lv' := [(0, .ref (ad x)), (1, .ref (ad y))]) rfl ?_
    refine hm_aload_n C nd_TS_younger_0 rfl ?_
    refine hm_ifnull (tgt := 8) (r := (some (ad x))) C nd_TS_younger_1 (by decide) (fun h => by cases h) (fun _ => ?_)
    refine hm_aload_n C nd_TS_younger_4 rfl ?_
    refine hm_ifnonnull (tgt := 18) (r := (some (ad y))) C nd_TS_younger_5 (by decide) (fun _ => ?_) (fun h => by cases h)
    refine hm_aload_n C nd_TS_younger_18 rfl ?_
    refine hm_get C nF_TS_39 (hcell x (ha x rfl)) rfl nd_TS_younger_19 ?_
    refine hm_aload_n C nd_TS_younger_22 rfl ?_
    refine hm_get C nF_TS_39 (hcell y (hb y rfl)) rfl nd_TS_younger_23 ?_
    refine hm_icmp_le (tgt := 33) C nd_TS_younger_26 (by decide) (fun c => ?_) (fun c => ?_)
    · refine hm_aload_n C nd_TS_younger_33 rfl ?_
      exact hm_aret (r := (some (ad y))) C E (Or.inl ⟨_, rfl⟩) (by omega) (by omega) (⟨by rw [show tt_g (some x) (some y) = some y from if_neg (fun z => nI_ge z (by have := ha x rfl; omega) c)]; rfl, rfl⟩) nd_TS_younger_34
    · refine hm_aload_n C nd_TS_younger_29 rfl ?_
      refine hm_goto (tgt := 34) C nd_TS_younger_30 (by decide) ?_
      exact hm_aret (r := (some (ad x))) C E (Or.inl ⟨_, rfl⟩) (by omega) (by omega) (⟨by rw [show tt_g (some x) (some y) = some x from if_pos (by rcases Nat.lt_or_ge y x with z | z; exact z; exact absurd (nI_le z (by have := hb y rfl; omega)) c)]; rfl, rfl⟩) nd_TS_younger_34
set_option maxHeartbeats 4000000 in
set_option maxRecDepth 100000 in
theorem ct_TS_publicOf {l : Launch} {D : va_G} {BG : Nat → Option Cell} (M : hm_M) (tm : Nat) (F : Nat → Prop) (T : Nat → Nat → Nat → Prop) (G : Nat → Prop) (dr n c se : Nat) (hS : ts_S D M tm F T G dr n c se) (hc : c ≤ 40000) (a i x d : Nat) (hT : T a i x) (hd : x = sm_t 0 d 0) : hm_ct l D BG ny_TS_publicOf prog_5_method_3_code 2 (some (.object "TurnedKeys$Term")) 8 196 (ts_kc (ts_k T) n c [sm_t 1 x 0]) (ts_ks (ts_k T) n c [sm_t 1 x 0]) [.ref tm, .ref a] M (fun r M' => ∃ q F' T', r = some (.ref q) ∧ ts_P D tm M F T G n c se dr [sm_t 1 x 0] M' F' T' ∧ ∃ j, T' q j (sm_t 1 x 0)) := by
  refine hm_ct_of (by decide +kernel) (by exact Nat.le_of_ble_eq_true rfl) ?_
  intro X C E
  have C : hm_C X l D BG prog_5_method_3_code "TurnedKeys$Terms" "publicOf" 2 8 196 (ts_kc (ts_k T) n c [sm_t 1 x 0]) (ts_ks (ts_k T) n c [sm_t 1 x 0]) := C
  obtain ⟨la, ea, ad, kd, lf, rt, er, lu, pb, dv, vl, hX, hI, rfl, rfl⟩ := hS
  obtain ⟨hin, rfl, rfl⟩ := hT
  obtain ⟨ht, hR, hcell, hc6⟩ := id hX
  have hk0 : kd i = 0 := by
    rcases Nat.eq_zero_or_pos (kd i) with h | h
    · exact h
    · have h2 := hI.2.2.2.1.1 i hin (by omega)
      rw [hd] at h2
      have := (sm_t_inj h2).1
      omega
  have hci := hcell i hin
  unfold tt_c at hci
  refine hm_lv (lv' := [(0, .ref tm), (1, .ref (ad i))]) rfl ?_
  refine hm_aload_n C nd_TS_publicOf_0 rfl ?_
  refine hm_ifnonnull (tgt := 6) (r := (some (ad i))) C nd_TS_publicOf_1 (by decide) (fun _ => ?_) (fun h => by cases h)
  refine hm_aload_n C nd_TS_publicOf_6 rfl ?_
  refine hm_get C nF_TS_26 hci rfl nd_TS_publicOf_7 ?_
  refine hm_ifnonnull (tgt := 25) (r := ((pb i).map ad)) C nd_TS_publicOf_10 (by decide) (fun cn => ?_) (fun cn => ?_)
  · obtain ⟨p, hp⟩ := om_some cn
    have hp2 := (hI.2.1 i hin).2.2.2.2.2 p hp
    have hv : sm_t 1 (vl i) 0 = vl p := by
      rw [hI.2.2.2.1.1 p hp2.2.1 (by omega), hp2.2.2.1, hp2.2.2.2, ((hI.2.1 p hp2.2.1).2.1 hp2.2.2.1).1]
      rfl
    have hkn : ts_k (fun a i v => i < n ∧ a = ad i ∧ v = vl i) (sm_t 1 (vl i) 0) := ⟨_, p, hp2.2.1, rfl, hv⟩
    refine hm_aload_n C nd_TS_publicOf_25 rfl ?_
    refine hm_get C nF_TS_26 hci rfl nd_TS_publicOf_26 ?_
    exact hm_aret (r := ((pb i).map ad)) C E (Or.inl ⟨_, rfl⟩) (by omega) (by omega) (⟨ad p, _, _, by rw [hp]; rfl, ts_P.old ⟨la, ea, ad, kd, lf, rt, er, lu, pb, dv, vl, hX, hI, rfl, rfl⟩ hkn, p, hp2.2.1, rfl, hv⟩) nd_TS_publicOf_29
  · have hpn := om_none cn
    have ok := tt_ok_pub hI hin hk0 hpn
    have nk : ¬ ts_k (fun a i v => i < n ∧ a = ad i ∧ v = vl i) (sm_t 1 (vl i) 0) := by
      rintro ⟨z, j, hj, -, e⟩
      exact ok.2.2.2.1 j hj e.symm
    have hmc := ts_kc1 (n := n) (c := c) nk
    refine hm_aload_n C nd_TS_publicOf_13 rfl ?_
    refine hm_aload_n C nd_TS_publicOf_14 rfl ?_
    refine hm_iconst (v := 1) C nd_TS_publicOf_15 (by decide) ?_
    refine hm_aload_n C nd_TS_publicOf_16 rfl ?_
    refine hm_null C nd_TS_publicOf_17 ?_
    refine hm_null C nd_TS_publicOf_18 ?_
    refine hm_stk (st' := [va_rf none, va_rf none, va_rf (some (ad i)), .int (nI 1), .ref tm, .ref (ad i)]) rfl ?_
    refine hm_callV C (ct_TS_added M tm la ea c n ad (nI dr) (nI se) (nI 1) (some (ad i)) none none ht hR (ts_el hX) hc) nV_TS_added [.int (nI 1), va_rf (some (ad i)), va_rf none, va_rf none] rfl ht rfl nq_TS_22 nj_TS_added nx_TS_added rfl (rest := [.ref (ad i)]) rfl (Nat.le_of_ble_eq_true rfl) (by decide) (by decide) (by omega) (by omega) nd_TS_publicOf_19 (fun r M1 hp => ?_)
    obtain ⟨q, ea', rfl, hq, hcq, hR2, hfr, hea⟩ := hp
    obtain ⟨hld, hlt1, hlt2, hlt3⟩ := ts_left hX hq hea
    have hci1 : M1 (ad i) = some (hm_ob 2 [.int (nI (kd i)), .int (nI i), va_rf ((lf i).map ad), va_rf ((rt i).map ad), va_rf ((er i).map ad), va_rf ((lu i).map ad), va_rf ((pb i).map ad), .int (if dv i = true then 1 else 0)]) := by rw [hfr _ (hld i hin).1 (hld i hin).2.1 (hld i hin).2.2]; exact hci
    refine hm_stk (st' := [.ref q, .ref (ad i)]) rfl ?_
    refine hm_put C nF_TS_26 hci1 (Nat.le_of_ble_eq_true rfl) rfl rfl nd_TS_publicOf_22 ?_
    refine hm_eqM (M' := hm_up M1 (ad i) (hm_ob 2 [.int (nI (kd i)), .int (nI i), va_rf ((lf i).map ad), va_rf ((rt i).map ad), va_rf ((er i).map ad), va_rf ((lu i).map ad), .ref q, .int (if dv i = true then 1 else 0)])) rfl ?_
    generalize hM2 : hm_up M1 (ad i) (hm_ob 2 [.int (nI (kd i)), .int (nI i), va_rf ((lf i).map ad), va_rf ((rt i).map ad), va_rf ((er i).map ad), va_rf ((lu i).map ad), .ref q, .int (if dv i = true then 1 else 0)]) = M2
    have fM2_0 : M2 (ad i) = some (hm_ob 2 [.int (nI (kd i)), .int (nI i), va_rf ((lf i).map ad), va_rf ((rt i).map ad), va_rf ((er i).map ad), va_rf ((lu i).map ad), .ref q, .int (if dv i = true then 1 else 0)]) := by rw [← hM2]; exact hm_up_s _ _ _
    have hext := ts_ext (M' := M2) hX hI ok hq (by rw [← hM2, hm_up_n _ _ (Ne.symm (ts_ne hX hin).1), hfr tm hlt1 hlt2 hlt3]; exact ht) (by rw [← hM2]; exact hR2.put (hld i hin).2.1 (fun _ => (hld i hin).2.2)) (by rw [← hM2, hm_up_n _ _ (Ne.symm (hld i hin).1)]; exact hcq) (fun j hj => by
        by_cases e : j = i
        · subst e
          rw [fM2_0]
          have hlr := hI.1 j hj
          have hul := tt_lu_lt hI.2.2.1 hj
          have e1 : tt_lu lu n 1 (some j) none j = lu j := by unfold tt_lu; rw [if_neg (by omega), if_neg (by omega)]
          have e2 : tt_pb pb n 1 (some j) j = some n := by unfold tt_pb; rw [if_neg (by omega), if_pos ⟨rfl, rfl⟩]
          unfold tt_c
          rw [e1, e2, om_up (fun x h => Nat.lt_trans (hlr.2.1 x h) hj), om_up (fun x h => Nat.lt_trans (hlr.2.2 x h) hj), om_up (fun x h => (hul.2 x h).1), om_up hul.1]
          show some (hm_ob 2 [_, _, _, _, _, _, .ref q, _]) = some (hm_ob 2 [_, _, _, _, _, _, va_rf (some (va_up ad n q n)), _])
          rw [va_up_self]
          rfl
        · rw [← hM2, hm_up_n _ _ (fun z => e (ts_inj hX hj hin z)), hfr _ (hld j hj).1 (hld j hj).2.1 (hld j hj).2.2, hcell j hj]
          exact congrArg some (tt_old hI hj (fun z => absurd z.1 (by omega)) (fun z => e (Option.some.inj z.2).symm)).symm) (fun z z1 z2 z3 z4 z5 => by rw [← hM2, hm_up_n _ _ (z5 i hin), hfr z z1 z2 z3]) hea hc
    refine hm_aload_n C nd_TS_publicOf_25 rfl ?_
    refine hm_get C nF_TS_26 fM2_0 rfl nd_TS_publicOf_26 ?_
    exact hm_aret (r := (some q)) C E (Or.inl ⟨_, rfl⟩) (by omega) (by omega) (⟨q, _, _, rfl, hext, n, by omega, (va_up_self _ _ _).symm, (va_up_self _ _ _).symm⟩) nd_TS_publicOf_29
end
section
set_option maxHeartbeats 4000000 in
set_option maxRecDepth 100000 in
theorem ct_TS_made {l : Launch} {D : va_G} {BG : Nat → Option Cell} (M : hm_M) (tm : Nat) (F : Nat → Prop) (T : Nat → Nat → Nat → Prop) (G : Nat → Prop) (dr n c se : Nat) (hS : ts_S D M tm F T G dr n c se) (hc : c ≤ 40000) (k x y : Nat) (l0 r0 : Option Nat) (hx : ts_o T l0 x) (hy : ts_o T r0 y) (hnn : ¬ (l0 = none ∧ r0 = none)) (hk : 2 ≤ k) (k7 : k ≤ 7) (h2 : k = 2 → ∃ d1 d2, x = sm_t 0 d1 0 ∧ y = sm_t 0 d2 0 ∧ ts_k T (sm_t 1 x 0) ∧ ts_k T (sm_t 1 y 0)) (h3 : k = 3 → ∃ z j d, r0 = some z ∧ T z j y ∧ n ≤ j + 4 ∧ y = sm_t 0 d 0) : hm_ct l D BG ny_TS_made prog_5_method_5_code 6 (some (.object "TurnedKeys$Term")) 8 196 (ts_kc (ts_k T) n c [sm_t k x y]) (ts_ks (ts_k T) n c [sm_t k x y]) [.ref tm, .int (nI k), va_rf l0, va_rf r0] M (fun r M' => ∃ q F' T', r = some (.ref q) ∧ ts_P D tm M F T G n c se dr [sm_t k x y] M' F' T' ∧ (∃ j, T' q j (sm_t k x y)) ∧ (¬ ts_k T (sm_t k x y) → T' q n (sm_t k x y))) := by
  refine hm_ct_of (by decide +kernel) (by simp [lg_sl, hm_cat, hm_catI, hm_catR, hm_catN]) ?_
  intro X C E
  have C : hm_C X l D BG prog_5_method_5_code "TurnedKeys$Terms" "made" 6 8 196 (ts_kc (ts_k T) n c [sm_t k x y]) (ts_ks (ts_k T) n c [sm_t k x y]) := C
  obtain ⟨la, ea, ad, kd, lf, rt, er, lu, pb, dv, vl, hX, hI, rfl, rfl⟩ := hS
  obtain ⟨a, rfl, ha, rfl⟩ := ts_pl hx
  obtain ⟨b, rfl, hb, rfl⟩ := ts_pl hy
  obtain ⟨ht, hR, hcell, hc6⟩ := id hX
  have hnc : n ≤ c := by obtain ⟨m, -, h, -⟩ := hR; exact h
  obtain ⟨pp, hg⟩ : ∃ pp, tt_g a b = some pp := by
    cases a with
    | none =>
      cases b with
      | none => exact absurd ⟨rfl, rfl⟩ hnn
      | some j => exact ⟨j, rfl⟩
    | some i =>
      cases b with
      | none => exact ⟨i, rfl⟩
      | some j =>
        by_cases h : j < i
        · exact ⟨i, if_pos h⟩
        · exact ⟨j, if_neg h⟩
  have hpp : pp < n := tt_g_lt ha hb hg
  have hcp := hcell pp hpp
  unfold tt_c at hcp
  have k2' : k = 2 → ∃ c d x y, a = some c ∧ b = some d ∧ kd c = 0 ∧ kd d = 0 ∧ pb c = some x ∧ pb d = some y := by
    intro hk
    obtain ⟨d1, d2, e1, e2, ⟨z1, j1, f1, -, f2⟩, ⟨z2, j2, f3, -, f4⟩⟩ := h2 hk
    have key : ∀ (r : Option Nat) (d : Nat), (∀ j, r = some j → j < n) → tt_vo vl r = sm_t 0 d 0 → ∀ j, j < n → sm_t 1 (tt_vo vl r) 0 = vl j → ∃ i, r = some i ∧ kd i = 0 ∧ pb i = some j := by
      intro r d hr e j hj f
      cases r with
      | none => exact absurd e.symm (sm_t_ne _ _ _)
      | some i =>
        have hi := hr i rfl
        have hj1 : kd j ≠ 0 := fun h => by
          obtain ⟨d9, -, -, e9⟩ := hI.2.2.2.1.2.1 j hj h
          rw [e9] at f
          have := (sm_t_inj f).1
          omega
        have f9 := hI.2.2.2.1.1 j hj hj1
        rw [← f] at f9
        obtain ⟨g1, g2, -⟩ := sm_t_inj f9
        obtain ⟨-, i', q1, q2, q3⟩ := (hI.2.1 j hj).2.1 g1.symm
        rw [q1] at g2
        have hi' : i' < n := Nat.lt_trans ((hI.1 j hj).2.1 i' q1) hj
        have : i' = i := hI.2.2.2.1.2.2.2 i' i hi' hi g2.symm
        subst this
        exact ⟨i', rfl, q2, q3⟩
    obtain ⟨i1, q1, q2, q3⟩ := key a d1 ha e1 j1 f1 f2
    obtain ⟨i2, q4, q5, q6⟩ := key b d2 hb e2 j2 f3 f4
    exact ⟨i1, i2, j1, j2, q1, q4, q2, q5, q3, q6⟩
  have k3' : (∀ i, i < n → ¬ (kd i = k ∧ lf i = a ∧ rt i = b)) → k = 3 → ∃ j, b = some j ∧ n ≤ j + 4 ∧ kd j = 0 := by
    intro hno hk
    obtain ⟨z, j, d, hz, ⟨f1, f2, f3⟩, f4, f5⟩ := h3 hk
    cases b with
    | none => cases hz
    | some i =>
      have : i = j := ts_inj hX (hb i rfl) f1 ((Option.some.inj hz).trans f2)
      subst this
      refine ⟨i, rfl, f4, ?_⟩
      rcases Nat.eq_zero_or_pos (kd i) with h | h
      · exact h
      · have h2 := hI.2.2.2.1.1 i f1 (by omega)
        rw [← f3, f5] at h2
        have := (sm_t_inj h2).1
        omega
  have loop : ∀ m : Nat, m ≤ n → (∀ i, m ≤ i → i < n → ¬ (kd i = k ∧ lf i = a ∧ rt i = b)) → hm_W X M 0 0 21 [(5, va_rf ((tt_l kd lf rt pp m).map ad)), (4, .ref (ad pp)), (0, .ref tm), (1, .int (nI k)), (2, va_rf (a.map ad)), (3, va_rf (b.map ad))] [] := by
    intro m
    induction m using Nat.strongRecOn with
    | _ m ih =>
    intro hm hno
    cases hx9 : tt_l kd lf rt pp m with
    | none =>
      refine hm_lv (lv' := [(5, .null), (4, .ref (ad pp)), (0, .ref tm), (1, .int (nI k)), (2, va_rf (a.map ad)), (3, va_rf (b.map ad))]) rfl ?_
      have hno2 : ∀ i, i < n → ¬ (kd i = k ∧ lf i = a ∧ rt i = b) := by
        intro i hi hh
        rcases Nat.lt_or_ge i m with h | h
        · obtain ⟨j, hj, -⟩ := tt_l_max (kd := kd) (lf := lf) (rt := rt) (p := pp) h (by omega) (by rw [hh.2.1, hh.2.2]; exact hg)
          rw [hx9] at hj; cases hj
        · exact hno i h hi hh
      have ok := tt_ok_made hI hk k7 ha hb (by rw [hg]; simp) k2' (k3' hno2) hno2
      have nk : ¬ ts_k (fun a i v => i < n ∧ a = ad i ∧ v = vl i) (sm_t k (tt_vo vl a) (tt_vo vl b)) := by
        rintro ⟨z, j, hj, -, e⟩
        exact ok.2.2.2.1 j hj e.symm
      have hmc := ts_kc1 (n := n) (c := c) nk
      refine hm_aloadN C nd_TS_made_21 rfl ?_
      refine hm_ifnull (tgt := 66) (r := none) C nd_TS_made_23 (by decide) (fun _ => ?_) (fun h => absurd rfl h)
      refine hm_aload C nd_TS_made_66 rfl ?_
      refine hm_aload_n C nd_TS_made_68 rfl ?_
      refine hm_iload_n C nd_TS_made_69 rfl ?_
      refine hm_aload_nQ (r := (a.map ad)) C nd_TS_made_70 rfl ?_
      refine hm_aload_nQ (r := (b.map ad)) C nd_TS_made_71 rfl ?_
      refine hm_aload C nd_TS_made_72 rfl ?_
      refine hm_get C nF_TS_50 hcp rfl nd_TS_made_74 ?_
      refine hm_callV C (ct_TS_added M tm la ea c n ad (nI dr) (nI se) (nI k) (a.map ad) (b.map ad) ((lu pp).map ad) ht hR (ts_el hX) hc) nV_TS_added [.int (nI k), va_rf (a.map ad), va_rf (b.map ad), va_rf ((lu pp).map ad)] rfl ht rfl nq_TS_22 nj_TS_added nx_TS_added rfl (rest := [.ref (ad pp)]) rfl (Nat.le_of_ble_eq_true rfl) (by decide) (by decide) (by omega) (by omega) nd_TS_made_77 (fun r M1 hp => ?_)
      obtain ⟨q, ea', rfl, hq, hcq, hR2, hfr, hea⟩ := hp
      obtain ⟨hld, hlt1, hlt2, hlt3⟩ := ts_left hX hq hea
      have hci1 : M1 (ad pp) = some (hm_ob 2 [.int (nI (kd pp)), .int (nI pp), va_rf ((lf pp).map ad), va_rf ((rt pp).map ad), va_rf ((er pp).map ad), va_rf ((lu pp).map ad), va_rf ((pb pp).map ad), .int (if dv pp = true then 1 else 0)]) := by rw [hfr _ (hld pp hpp).1 (hld pp hpp).2.1 (hld pp hpp).2.2]; exact hcp
      refine hm_stk (st' := [.ref q, .ref (ad pp)]) rfl ?_
      refine hm_put C nF_TS_50 hci1 (Nat.le_of_ble_eq_true rfl) rfl rfl nd_TS_made_80 ?_
      refine hm_eqM (M' := hm_up M1 (ad pp) (hm_ob 2 [.int (nI (kd pp)), .int (nI pp), va_rf ((lf pp).map ad), va_rf ((rt pp).map ad), va_rf ((er pp).map ad), .ref q, va_rf ((pb pp).map ad), .int (if dv pp = true then 1 else 0)])) rfl ?_
      generalize hM2 : hm_up M1 (ad pp) (hm_ob 2 [.int (nI (kd pp)), .int (nI pp), va_rf ((lf pp).map ad), va_rf ((rt pp).map ad), va_rf ((er pp).map ad), .ref q, va_rf ((pb pp).map ad), .int (if dv pp = true then 1 else 0)]) = M2
      have fM2_0 : M2 (ad pp) = some (hm_ob 2 [.int (nI (kd pp)), .int (nI pp), va_rf ((lf pp).map ad), va_rf ((rt pp).map ad), va_rf ((er pp).map ad), .ref q, va_rf ((pb pp).map ad), .int (if dv pp = true then 1 else 0)]) := by rw [← hM2]; exact hm_up_s _ _ _
      have hext := ts_ext (M' := M2) hX hI ok hq (by rw [← hM2, hm_up_n _ _ (Ne.symm (ts_ne hX hpp).1), hfr tm hlt1 hlt2 hlt3]; exact ht) (by rw [← hM2]; exact hR2.put (hld pp hpp).2.1 (fun _ => (hld pp hpp).2.2)) (by rw [← hM2, hm_up_n _ _ (Ne.symm (hld pp hpp).1), if_pos hk, hg]; exact hcq) (fun j hj => by
          by_cases e : j = pp
          · subst e
            rw [fM2_0]
            have hlr := hI.1 j hj
            have hul := tt_lu_lt hI.2.2.1 hj
            have e1 : tt_lu lu n k a b j = some n := by unfold tt_lu; rw [if_neg (by omega), if_pos ⟨hk, hg⟩]
            have e2 : tt_pb pb n k a j = pb j := by unfold tt_pb; rw [if_neg (by omega), if_neg (by omega)]
            unfold tt_c
            rw [e1, e2, om_up (fun x h => Nat.lt_trans (hlr.2.1 x h) hj), om_up (fun x h => Nat.lt_trans (hlr.2.2 x h) hj), om_up (fun x h => (hul.2 x h).1), om_up (fun x h => ((hI.2.1 j hj).2.2.2.2.2 x h).2.1)]
            show some (hm_ob 2 [_, _, _, _, _, .ref q, _, _]) = some (hm_ob 2 [_, _, _, _, _, va_rf (some (va_up ad n q n)), _, _])
            rw [va_up_self]
            rfl
          · rw [← hM2, hm_up_n _ _ (fun z => e (ts_inj hX hj hpp z)), hfr _ (hld j hj).1 (hld j hj).2.1 (hld j hj).2.2, hcell j hj]
            exact congrArg some (tt_old hI hj (fun z => e (Option.some.inj (hg.symm.trans z.2)).symm) (fun z => absurd z.1 (by omega))).symm) (fun z z1 z2 z3 z4 z5 => by rw [← hM2, hm_up_n _ _ (z5 pp hpp), hfr z z1 z2 z3]) hea hc
      
      refine hm_aload C nd_TS_made_83 rfl ?_
      refine hm_get C nF_TS_50 fM2_0 rfl nd_TS_made_85 ?_
      exact hm_aret (r := (some q)) C E (Or.inl ⟨_, rfl⟩) (by omega) (by omega) (⟨q, _, _, rfl, hext, ⟨n, by omega, (va_up_self _ _ _).symm, (va_up_self _ _ _).symm⟩, fun _ => ⟨by omega, (va_up_self _ _ _).symm, (va_up_self _ _ _).symm⟩⟩) nd_TS_made_88
    | some i =>
      refine hm_lv (lv' := [(5, .ref (ad i)), (4, .ref (ad pp)), (0, .ref tm), (1, .int (nI k)), (2, va_rf (a.map ad)), (3, va_rf (b.map ad))]) rfl ?_
      obtain ⟨hi1, hi2, hi3⟩ := tt_l_some hx9
      have hi : i < n := by omega
      have hci := hcell i hi
      unfold tt_c at hci
      have hil := hI.1 i hi
      have next : ¬ (kd i = k ∧ lf i = a ∧ rt i = b) → hm_W X M 0 0 56 [(5, .ref (ad i)), (4, .ref (ad pp)), (0, .ref tm), (1, .int (nI k)), (2, va_rf (a.map ad)), (3, va_rf (b.map ad))] [] := by
        intro hne
        refine hm_aload C nd_TS_made_56 rfl ?_
        refine hm_get C nF_TS_59 hci rfl nd_TS_made_58 ?_
        refine hm_astoreQ (r := ((er i).map ad)) C [(5, va_rf ((er i).map ad)), (4, .ref (ad pp)), (0, .ref tm), (1, .int (nI k)), (2, va_rf (a.map ad)), (3, va_rf (b.map ad))] nd_TS_made_61 (by decide) (by simp [hm_cat, hm_catI, hm_catR, hm_catN]) ?_
        refine hm_goto (tgt := 21) C nd_TS_made_63 (by decide) ?_
        have he : er i = tt_l kd lf rt pp i := by
          rw [(hI.2.2.1 i hi).2, if_pos hi2, hi3]
          rfl
        rw [he]
        refine ih i hi1 (by omega) (fun j hj1 hj2 => ?_)
        by_cases e : j = i
        · rw [e]; exact hne
        · rcases Nat.lt_or_ge j m with h | h
          · intro hh
            obtain ⟨z, hz, hz2⟩ := tt_l_max (kd := kd) (lf := lf) (rt := rt) (p := pp) h (by omega) (by rw [hh.2.1, hh.2.2]; exact hg)
            rw [hx9] at hz
            cases hz
            omega
          · exact hno j h hj2
      refine hm_aload C nd_TS_made_21 rfl ?_
      refine hm_ifnull (tgt := 66) (r := (some (ad i))) C nd_TS_made_23 (by decide) (fun h => by cases h) (fun _ => ?_)
      refine hm_aload C nd_TS_made_26 rfl ?_
      refine hm_get C nF_TS_53 hci rfl nd_TS_made_28 ?_
      refine hm_iload_n C nd_TS_made_31 rfl ?_
      refine hm_icmp_ne (tgt := 56) C nd_TS_made_32 (by decide) (fun c1 => ?_) (fun c1 => ?_)
      · exact next (fun h => c1 (by rw [h.1]))
      · refine hm_aload C nd_TS_made_35 rfl ?_
        refine hm_get C nF_TS_32 hci rfl nd_TS_made_37 ?_
        refine hm_aload_nQ (r := (a.map ad)) C nd_TS_made_40 rfl ?_
        refine hm_acmp_ne (tgt := 56) (rx := ((lf i).map ad)) (ry := (a.map ad)) C nd_TS_made_41 (by decide) (fun c2 => ?_) (fun c2 => ?_)
        · exact next (fun h => c2 (by rw [h.2.1]))
        · refine hm_aload C nd_TS_made_44 rfl ?_
          refine hm_get C nF_TS_56 hci rfl nd_TS_made_46 ?_
          refine hm_aload_nQ (r := (b.map ad)) C nd_TS_made_49 rfl ?_
          refine hm_acmp_ne (tgt := 56) (rx := ((rt i).map ad)) (ry := (b.map ad)) C nd_TS_made_50 (by decide) (fun c3 => ?_) (fun c3 => ?_)
          · exact next (fun h => c3 (by rw [h.2.2]))
          · have m1 : kd i = k := (nI_eq (by omega) (by omega)).mp c1
            have m2 : lf i = a := om_inj hX (fun j h => Nat.lt_trans (hil.2.1 j h) hi) ha c2
            have m3 : rt i = b := om_inj hX (fun j h => Nat.lt_trans (hil.2.2 j h) hi) hb c3
            have hv : sm_t k (tt_vo vl a) (tt_vo vl b) = vl i := by
              rw [hI.2.2.2.1.1 i hi (by omega), m1, m2, m3]
            have hkn : ts_k (fun a i v => i < n ∧ a = ad i ∧ v = vl i) (sm_t k (tt_vo vl a) (tt_vo vl b)) := ⟨_, i, hi, rfl, hv⟩
            refine hm_aload C nd_TS_made_53 rfl ?_
            exact hm_aret (r := (some (ad i))) C E (Or.inl ⟨_, rfl⟩) (by omega) (by omega) (⟨ad i, _, _, rfl, ts_P.old ⟨la, ea, ad, kd, lf, rt, er, lu, pb, dv, vl, hX, hI, rfl, rfl⟩ hkn, ⟨i, hi, rfl, hv⟩, fun h => absurd hkn h⟩) nd_TS_made_55
  refine hm_lv (lv' := [(0, .ref tm), (1, .int (nI k)), (2, va_rf (a.map ad)), (3, va_rf (b.map ad))]) (by simp [lv_args, hm_cat, hm_catI, hm_catR, hm_catN]) ?_
  refine hm_aload_nQ (r := (a.map ad)) C nd_TS_made_0 rfl ?_
  refine hm_aload_nQ (r := (b.map ad)) C nd_TS_made_1 rfl ?_
  refine hm_callS C (ct_TS_younger M n ad kd lf rt er lu pb dv hcell (by omega) a b ha hb) nV_TS_younger nq_TS_46 nu_TS_younger rfl (rest := []) rfl (Nat.le_of_ble_eq_true rfl) (by decide) (by decide) (by omega) (by omega) nd_TS_made_2 (fun r M1 hp => ?_)
  obtain ⟨rfl, eM1⟩ := hp
  rw [eM1]
  refine hm_stk (st' := [va_rf ((tt_g a b).map ad)]) rfl ?_
  refine hm_stk (st' := [.ref (ad pp)]) (by rw [hg]; rfl) ?_
  refine hm_astore C [(4, .ref (ad pp)), (0, .ref tm), (1, .int (nI k)), (2, va_rf (a.map ad)), (3, va_rf (b.map ad))] nd_TS_made_5 (by decide) (by simp [hm_cat, hm_catI, hm_catR, hm_catN]) ?_
  refine hm_aload C nd_TS_made_7 rfl ?_
  refine hm_ifnonnull (tgt := 14) (r := (some (ad pp))) C nd_TS_made_9 (by decide) (fun _ => ?_) (fun h => by cases h)
  refine hm_aload C nd_TS_made_14 rfl ?_
  refine hm_get C nF_TS_50 hcp rfl nd_TS_made_16 ?_
  refine hm_astoreQ (r := ((lu pp).map ad)) C [(5, va_rf ((lu pp).map ad)), (4, .ref (ad pp)), (0, .ref tm), (1, .int (nI k)), (2, va_rf (a.map ad)), (3, va_rf (b.map ad))] nd_TS_made_19 (by decide) (by simp [hm_cat, hm_catI, hm_catR, hm_catN]) ?_
  rw [(hI.2.2.1 pp hpp).1]
  exact loop n (Nat.le_refl n) (fun i h1 h2 => by omega)
end
section
theorem ts_r_bd : ∀ (vs : List Nat) (K : Nat → Prop) (n c : Nat), c ≤ 2 * n + 10 → (ts_r K n c vs).2 ≤ 2 * (ts_r K n c vs).1 + 10 ∧ (ts_r K n c vs).1 ≤ n + vs.length
  | [], K, n, c, h => ⟨h, Nat.le_refl _⟩
  | v :: vs, K, n, c, h => by
    rw [List.length_cons]
    by_cases hk : K v
    · rw [ts_r_pos hk]
      have := ts_r_bd vs K n c h
      exact ⟨this.1, by omega⟩
    · rw [ts_r_neg hk]
      have hl : li_c c n ≤ 2 * (n + 1) + 10 := by
        unfold li_c
        split
        · split <;> omega
        · omega
      have := ts_r_bd vs (fun x => K x ∨ x = v) (n + 1) (li_c c n) hl
      exact ⟨this.1, by omega⟩
/-- what a client may read of a term -/
theorem ts_get {D : va_G} {M : hm_M} {tm : Nat} {F : Nat → Prop} {T : Nat → Nat → Nat → Prop} {G : Nat → Prop} {dr n c se : Nat} (hS : ts_S D M tm F T G dr n c se) {a i v : Nat} (h : T a i v) : ∃ (k : Nat) (lf rt er lu pb : Option Nat) (w : Int32), M a = some (hm_ob 2 [.int (nI k), .int (nI i), va_rf lf, va_rf rt, va_rf er, va_rf lu, va_rf pb, .int w]) ∧ i < n ∧ n ≤ 65536 ∧ (∀ t, v = sm_t 1 t 0 → ∃ z iz, lf = some z ∧ T z iz t) := by
  obtain ⟨la, ea, ad, kd, lf, rt, er, lu, pb, dv, vl, hX, hI, rfl, rfl⟩ := hS
  obtain ⟨hi, rfl, rfl⟩ := h
  refine ⟨kd i, _, _, _, _, _, _, hX.2.2.1 i hi, hi, ?_, fun t ht => ?_⟩
  · obtain ⟨-, ⟨m, -, h1, -⟩, -, h2⟩ := hX
    omega
  · have hk : kd i = 1 := by
      by_cases c0 : kd i = 0
      · obtain ⟨d, -, -, e⟩ := hI.2.2.2.1.2.1 i hi c0
        rw [ht] at e
        have := (sm_t_inj e).1
        omega
      · have e := hI.2.2.2.1.1 i hi c0
        rw [ht] at e
        exact (sm_t_inj e).1.symm
    obtain ⟨e1, j, e2, e3, e4⟩ := (hI.2.1 i hi).2.1 hk
    have e := hI.2.2.2.1.1 i hi (by omega)
    rw [ht, e2] at e
    exact ⟨ad j, j, by rw [e2]; rfl, Nat.lt_trans ((hI.1 i hi).2.1 j e2) hi, rfl, (sm_t_inj e).2.1⟩
/-- a term has one value; a value has one term -/
theorem ts_uni {D : va_G} {M : hm_M} {tm : Nat} {F : Nat → Prop} {T : Nat → Nat → Nat → Prop} {G : Nat → Prop} {dr n c se : Nat} (hS : ts_S D M tm F T G dr n c se) {a i v b j w : Nat} (h1 : T a i v) (h2 : T b j w) : (a = b ↔ v = w) ∧ (a = b → i = j) := by
  obtain ⟨la, ea, ad, kd, lf, rt, er, lu, pb, dv, vl, hX, hI, rfl, rfl⟩ := hS
  obtain ⟨hi, rfl, rfl⟩ := h1
  obtain ⟨hj, rfl, rfl⟩ := h2
  refine ⟨⟨fun e => by rw [ts_inj hX hi hj e], fun e => by rw [hI.2.2.2.1.2.2.2 i j hi hj e]⟩, fun e => ts_inj hX hi hj e⟩
theorem ts_ord {D : va_G} {M : hm_M} {tm : Nat} {F : Nat → Prop} {T : Nat → Nat → Nat → Prop} {G : Nat → Prop} {dr n c se : Nat} (hS : ts_S D M tm F T G dr n c se) {a i x b j y d e : Nat} (h1 : T a i x) (h2 : T b j y) (hx : x = sm_t 0 d 0) (hy : y = sm_t 0 e 0) : i < j ↔ x < y := by
  obtain ⟨la, ea, ad, kd, lf, rt, er, lu, pb, dv, vl, hX, hI, rfl, rfl⟩ := hS
  obtain ⟨hi, rfl, rfl⟩ := h1
  obtain ⟨hj, rfl, rfl⟩ := h2
  have k0 : ∀ {i d : Nat}, i < n → vl i = sm_t 0 d 0 → kd i = 0 := by
    intro i d hi e
    rcases Nat.eq_zero_or_pos (kd i) with h | h
    · exact h
    · have h2 := hI.2.2.2.1.1 i hi (by omega)
      rw [e] at h2
      have := (sm_t_inj h2).1
      omega
  have ki := k0 hi hx
  have kj := k0 hj hy
  constructor
  · intro h
    exact hI.2.2.2.1.2.2.1 i j h hj ki kj
  · intro h
    rcases Nat.lt_trichotomy i j with q | q | q
    · exact q
    · rw [q] at h; exact absurd h (Nat.lt_irrefl _)
    · have := hI.2.2.2.1.2.2.1 j i q hi kj ki
      omega
theorem ts_tm {D : va_G} {M : hm_M} {tm : Nat} {F : Nat → Prop} {T : Nat → Nat → Nat → Prop} {G : Nat → Prop} {dr n c se : Nat} (hS : ts_S D M tm F T G dr n c se) : ∃ la : Nat, M tm = some (hm_ob 1 [.ref la, .int (nI dr), .int (nI se)]) ∧ F tm := by
  obtain ⟨la, ea, ad, kd, lf, rt, er, lu, pb, dv, vl, hX, hI, rfl, rfl⟩ := hS
  exact ⟨la, hX.1, Or.inl rfl⟩
theorem ts_TF {D : va_G} {M : hm_M} {tm : Nat} {F : Nat → Prop} {T : Nat → Nat → Nat → Prop} {G : Nat → Prop} {dr n c se : Nat} (hS : ts_S D M tm F T G dr n c se) {a i v : Nat} (h : T a i v) : F a := by
  obtain ⟨la, ea, ad, kd, lf, rt, er, lu, pb, dv, vl, hX, hI, rfl, rfl⟩ := hS
  exact Or.inr (Or.inr (Or.inr ⟨i, h.1, h.2.1⟩))
/-- SHARED of two secrets, the older first -/
def sm_sh (x t : Nat) : Nat := if x < t then sm_t 2 x t else sm_t 2 t x
set_option maxHeartbeats 4000000 in
set_option maxRecDepth 100000 in
theorem ct_TS_sharedOf {l : Launch} {D : va_G} {BG : Nat → Option Cell} (M : hm_M) (tm : Nat) (F : Nat → Prop) (T : Nat → Nat → Nat → Prop) (G : Nat → Prop) (dr n c se : Nat) (hS : ts_S D M tm F T G dr n c se) (hcn : c ≤ 2 * n + 10) (hn : n ≤ 19900) (a i x d b j t e : Nat) (hTs : T a i x) (hd : x = sm_t 0 d 0) (hTo : T b j (sm_t 1 t 0)) (ht : t = sm_t 0 e 0) : hm_ct l D BG ny_TS_sharedOf prog_5_method_4_code 4 (some (.object "TurnedKeys$Term")) 9 221 (ts_kc (ts_k T) n c [sm_t 1 x 0, sm_sh x t]) (ts_ks (ts_k T) n c [sm_t 1 x 0, sm_sh x t]) [.ref tm, .ref a, .ref b] M (fun r M' => ∃ q F' T', r = some (.ref q) ∧ ts_P D tm M F T G n c se dr [sm_t 1 x 0, sm_sh x t] M' F' T' ∧ ∃ j, T' q j (sm_sh x t)) := by
  refine hm_ct_of (by decide +kernel) (by exact Nat.le_of_ble_eq_true rfl) ?_
  intro X C E
  have C : hm_C X l D BG prog_5_method_4_code "TurnedKeys$Terms" "sharedOf" 4 9 221 (ts_kc (ts_k T) n c [sm_t 1 x 0, sm_sh x t]) (ts_ks (ts_k T) n c [sm_t 1 x 0, sm_sh x t]) := C
  obtain ⟨k0, lf0, rt0, er0, lu0, pb0, w0, ho0, hj0, hn0, hl0⟩ := ts_get hS hTo
  obtain ⟨z0, iz0, rfl, hTz0⟩ := hl0 t rfl
  obtain ⟨la0, ht0, -⟩ := ts_tm hS
  refine hm_lv (lv' := [(0, .ref tm), (1, .ref a), (2, .ref b)]) rfl ?_
  refine hm_aload_n C nd_TS_sharedOf_0 rfl ?_
  refine hm_ifnull (tgt := 15) (r := (some a)) C nd_TS_sharedOf_1 (by decide) (fun h => by cases h) (fun _ => ?_)
  refine hm_aload_n C nd_TS_sharedOf_4 rfl ?_
  refine hm_ifnull (tgt := 15) (r := (some b)) C nd_TS_sharedOf_5 (by decide) (fun h => by cases h) (fun _ => ?_)
  refine hm_aload_n C nd_TS_sharedOf_8 rfl ?_
  refine hm_get C nF_TS_32 ho0 rfl nd_TS_sharedOf_9 ?_
  refine hm_ifnonnull (tgt := 17) (r := (some z0)) C nd_TS_sharedOf_12 (by decide) (fun _ => ?_) (fun h => by cases h)
  refine hm_aload_n C nd_TS_sharedOf_17 rfl ?_
  refine hm_aload_n C nd_TS_sharedOf_18 rfl ?_
  refine hm_callV C (ct_TS_publicOf M tm F T G dr n c se hS (by omega) a i x d hTs hd) nV_TS_publicOf [.ref a] rfl ht0 rfl nq_TS_35 nj_TS_publicOf nx_TS_publicOf rfl (rest := []) rfl (Nat.le_of_ble_eq_true rfl) (by decide) (by decide) (by have := ts_kc_app [sm_t 1 x 0] [sm_sh x t] (ts_k T) n c; rw [List.singleton_append] at this; omega) (by have := ts_ks_app [sm_t 1 x 0] [sm_sh x t] (ts_k T) n c; rw [List.singleton_append] at this; omega) nd_TS_sharedOf_19 (fun r M1 hp => ?_)
  obtain ⟨q1, F1, T1, rfl, hP1, j1, hq1⟩ := hp
  have hb1 := ts_r_bd [sm_t 1 x 0] (ts_k T) n c hcn
  have hkc := ts_kc_app [sm_t 1 x 0] [sm_sh x t] (ts_k T) n c
  have hks := ts_ks_app [sm_t 1 x 0] [sm_sh x t] (ts_k T) n c
  rw [← hP1.k, List.singleton_append] at hkc hks
  have hlen : ([sm_t 1 x 0] : List Nat).length = 1 := rfl
  have hS1 := hP1.1
  have hTo1 := hP1.2.2.1 _ _ _ hTo
  have hTs1 := hP1.2.2.1 _ _ _ hTs
  obtain ⟨k1, lf1, rt1, er1, lu1, pb1, w1, ho1, hj2, hn1, hl1⟩ := ts_get hS1 hTo1
  obtain ⟨z1, iz1, rfl, hTz1⟩ := hl1 t rfl
  obtain ⟨k2, lf2, rt2, er2, lu2, pb2, w2, hs1, hi2, hn2, -⟩ := ts_get hS1 hTs1
  obtain ⟨k3, lf3, rt3, er3, lu3, pb3, w3, hz1, hi3, hn3, -⟩ := ts_get hS1 hTz1
  obtain ⟨la1, ht1, -⟩ := ts_tm hS1
  have hord := ts_ord hS1 hTs1 hTz1 hd ht
  have hkp : ts_k T1 (sm_t 1 x 0) := ⟨_, _, hq1⟩
  have hkt : ts_k T1 (sm_t 1 t 0) := ⟨_, _, hTo1⟩
  refine hm_stk (st' := [.ref q1]) rfl ?_
  refine hm_pop C nd_TS_sharedOf_22 rfl ?_
  refine hm_aload_n C nd_TS_sharedOf_23 rfl ?_
  refine hm_get C nF_TS_32 ho1 rfl nd_TS_sharedOf_24 ?_
  refine hm_astore_n C [(3, .ref z1), (0, .ref tm), (1, .ref a), (2, .ref b)] nd_TS_sharedOf_27 (by decide) rfl ?_
  refine hm_aload_n C nd_TS_sharedOf_28 rfl ?_
  refine hm_get C nF_TS_39 hs1 rfl nd_TS_sharedOf_29 ?_
  refine hm_aload_n C nd_TS_sharedOf_32 rfl ?_
  refine hm_get C nF_TS_39 hz1 rfl nd_TS_sharedOf_33 ?_
  refine hm_icmp_ge (tgt := 49) C nd_TS_sharedOf_36 (by decide) (fun cc => ?_) (fun cc => ?_)
  · have hsh : sm_sh x t = sm_t 2 t x := if_neg (fun h => nI_ge (hord.mpr h) (by omega) cc)
    rw [hsh] at hkc hks
    refine hm_aload_n C nd_TS_sharedOf_49 rfl ?_
    refine hm_iconst (v := 2) C nd_TS_sharedOf_50 (by decide) ?_
    refine hm_aload_n C nd_TS_sharedOf_51 rfl ?_
    refine hm_aload_n C nd_TS_sharedOf_52 rfl ?_
    refine hm_stk (st' := [va_rf (some a), va_rf (some z1), .int (nI 2), .ref tm]) rfl ?_
    refine hm_callV C (ct_TS_made M1 tm F1 T1 G dr _ _ se hS1 (by omega) 2 t x (some z1) (some a) (Or.inr ⟨_, _, rfl, hTz1⟩) (Or.inr ⟨_, _, rfl, hTs1⟩) (fun h => by cases h.1) (by omega) (by omega) (fun _ => ⟨e, d, ht, hd, hkt, hkp⟩) (fun h => by omega)) nV_TS_made [.int (nI 2), va_rf (some z1), va_rf (some a)] rfl ht1 rfl nq_TS_42 nj_TS_made nx_TS_made rfl (rest := []) rfl (Nat.le_of_ble_eq_true rfl) (by decide) (by decide) (by rw [hsh]; omega) (by rw [hsh]; omega) nd_TS_sharedOf_53 (fun r M2 hp => ?_)
    obtain ⟨q, F2, T2, rfl, hP2, hq2, -⟩ := hp
    refine hm_stk (st' := [.ref q]) rfl ?_
    exact hm_aret (r := (some q)) C E (Or.inl ⟨_, rfl⟩) (by rw [hsh]; omega) (by rw [hsh]; omega) (⟨q, F2, T2, rfl, by rw [hsh]; exact hP1.tr hP2, by rw [hsh]; exact hq2⟩) nd_TS_sharedOf_56
  · have hsh : sm_sh x t = sm_t 2 x t := if_pos (hord.mp (by rcases Nat.lt_or_ge i iz1 with z | z; exact z; exact absurd (nI_le z (by omega)) cc))
    rw [hsh] at hkc hks
    refine hm_aload_n C nd_TS_sharedOf_39 rfl ?_
    refine hm_iconst (v := 2) C nd_TS_sharedOf_40 (by decide) ?_
    refine hm_aload_n C nd_TS_sharedOf_41 rfl ?_
    refine hm_aload_n C nd_TS_sharedOf_42 rfl ?_
    refine hm_stk (st' := [va_rf (some z1), va_rf (some a), .int (nI 2), .ref tm]) rfl ?_
    refine hm_callV C (ct_TS_made M1 tm F1 T1 G dr _ _ se hS1 (by omega) 2 x t (some a) (some z1) (Or.inr ⟨_, _, rfl, hTs1⟩) (Or.inr ⟨_, _, rfl, hTz1⟩) (fun h => by cases h.1) (by omega) (by omega) (fun _ => ⟨d, e, hd, ht, hkp, hkt⟩) (fun h => by omega)) nV_TS_made [.int (nI 2), va_rf (some a), va_rf (some z1)] rfl ht1 rfl nq_TS_42 nj_TS_made nx_TS_made rfl (rest := []) rfl (Nat.le_of_ble_eq_true rfl) (by decide) (by decide) (by rw [hsh]; omega) (by rw [hsh]; omega) nd_TS_sharedOf_43 (fun r M3 hp => ?_)
    obtain ⟨q, F2, T2, rfl, hP2, hq2, -⟩ := hp
    refine hm_stk (st' := [.ref q]) rfl ?_
    refine hm_goto (tgt := 56) C nd_TS_sharedOf_46 (by decide) ?_
    exact hm_aret (r := (some q)) C E (Or.inl ⟨_, rfl⟩) (by rw [hsh]; omega) (by rw [hsh]; omega) (⟨q, F2, T2, rfl, by rw [hsh]; exact hP1.tr hP2, by rw [hsh]; exact hq2⟩) nd_TS_sharedOf_56
end
section
/-! PURE: marks -/
def tt_db (dv : Nat → Bool) : Option Nat → Bool
  | none => true
  | some j => dv j
def tt_sb (pb : Nat → Option Nat) (dv : Nat → Bool) : Option Nat → Option Nat → Bool
  | some x, some y => dv x && (match pb y with | some p => dv p | none => false)
  | _, _ => false
def tt_mb (kd : Nat → Nat) (lf rt pb : Nat → Option Nat) (dv : Nat → Bool) (i : Nat) : Bool := if kd i = 0 then false else if kd i = 2 then tt_sb pb dv (lf i) (rt i) || tt_sb pb dv (rt i) (lf i) else tt_db dv (lf i) && tt_db dv (rt i)
theorem tt_db_iff {dv : Nat → Bool} {r : Option Nat} : tt_db dv r = true ↔ tt_d dv r := by
  cases r with
  | none => exact ⟨fun _ j h => (by cases h), fun _ => rfl⟩
  | some j => exact ⟨fun h i e => (by cases e; exact h), fun h => h j rfl⟩
theorem tt_sb_iff {pb : Nat → Option Nat} {dv : Nat → Bool} {a b : Option Nat} : tt_sb pb dv a b = true ↔ tt_s pb dv a b := by
  cases a with
  | none => exact ⟨fun h => (by cases h), fun ⟨x, y, p, h, _⟩ => by cases h⟩
  | some x =>
    cases b with
    | none => exact ⟨fun h => (by cases h), fun ⟨x, y, p, _, h, _⟩ => by cases h⟩
    | some y =>
      unfold tt_s
      have e0 : tt_sb pb dv (some x) (some y) = (dv x && (match pb y with | some p => dv p | none => false)) := rfl
      rw [e0]
      cases hp : pb y with
      | none =>
        constructor
        · intro h
          simp at h
        · rintro ⟨x', y', p, e1, e2, e3, e4, e5⟩
          cases e1; cases e2
          rw [hp] at e4
          cases e4
      | some p =>
        constructor
        · intro h
          simp at h
          exact ⟨x, y, p, rfl, rfl, h.1, hp, h.2⟩
        · rintro ⟨x', y', p', e1, e2, e3, e4, e5⟩
          cases e1; cases e2
          rw [hp] at e4
          cases e4
          simp [e3, e5]
theorem tt_mb_iff {kd : Nat → Nat} {lf rt pb : Nat → Option Nat} {dv : Nat → Bool} {i : Nat} : tt_mb kd lf rt pb dv i = true ↔ tt_m kd lf rt pb dv i := by
  unfold tt_mb tt_m
  by_cases h0 : kd i = 0
  · rw [if_pos h0]
    exact ⟨fun h => (by cases h), fun h => absurd h0 h.1⟩
  · rw [if_neg h0]
    by_cases h2 : kd i = 2
    · rw [if_pos h2, Bool.or_eq_true, tt_sb_iff, tt_sb_iff]
      exact ⟨fun h => ⟨h0, Or.inl ⟨h2, h⟩⟩, fun h => h.2.elim (fun q => q.2) (fun q => absurd h2 q.1)⟩
    · rw [if_neg h2, Bool.and_eq_true, tt_db_iff, tt_db_iff]
      exact ⟨fun h => ⟨h0, Or.inr ⟨h2, h⟩⟩, fun h => h.2.elim (fun q => absurd q.1 h2) (fun q => q.2)⟩
theorem va_upT {dv : Nat → Bool} {i j : Nat} (h : dv j = true) : va_up dv i true j = true := by
  by_cases e : j = i
  · rw [e, va_up_self]
  · rw [va_up_ne _ _ e]; exact h
/-- a mark at i does not touch what is below i -/
theorem tt_d_lo {dv : Nat → Bool} {i j : Nat} {r : Option Nat} (hj : j ≤ i) (hr : ∀ x, r = some x → x < j) : tt_d (va_up dv i true) r ↔ tt_d dv r := by
  constructor
  · intro h x hx
    have := h x hx
    rwa [va_up_ne _ _ (by have := hr x hx; omega)] at this
  · intro h x hx
    exact va_upT (h x hx)
theorem tt_m_lo {n i j : Nat} {kd : Nat → Nat} {lf rt pb : Nat → Option Nat} {dv : Nat → Bool} (hW : tt_W n kd lf rt) (hKk : tt_K n kd lf rt pb) (hj : j < n) (hji : j ≤ i) : tt_m kd lf rt pb (va_up dv i true) j ↔ tt_m kd lf rt pb dv j := by
  obtain ⟨-, wl, wr⟩ := hW j hj
  have ds : ∀ {a b : Option Nat}, (∀ x, a = some x → x < j) → (∀ y, b = some y → ∀ p, pb y = some p → p < j) → (tt_s pb (va_up dv i true) a b ↔ tt_s pb dv a b) := by
    intro a b ha hb
    constructor
    · rintro ⟨x, y, p, e1, e2, e3, e4, e5⟩
      rw [va_up_ne _ _ (by have := ha x e1; omega)] at e3
      rw [va_up_ne _ _ (by have := hb y e2 p e4; omega)] at e5
      exact ⟨x, y, p, e1, e2, e3, e4, e5⟩
    · rintro ⟨x, y, p, e1, e2, e3, e4, e5⟩
      exact ⟨x, y, p, e1, e2, va_upT e3, e4, va_upT e5⟩
  unfold tt_m
  rw [tt_d_lo hji wl, tt_d_lo hji wr]
  by_cases h2 : kd j = 2
  · obtain ⟨a, b, x, y, e1, e2, -, -, e5, e6, e7, e8⟩ := (hKk j hj).2.2.1 h2
    have pa : ∀ z, lf j = some z → ∀ p, pb z = some p → p < j := by
      intro z hz p hp
      rw [e1] at hz
      cases hz
      rw [e5] at hp
      cases hp
      exact e6
    have pb' : ∀ z, rt j = some z → ∀ p, pb z = some p → p < j := by
      intro z hz p hp
      rw [e2] at hz
      cases hz
      rw [e7] at hp
      cases hp
      exact e8
    rw [ds wl pb', ds wr pa]
  · constructor
    · rintro ⟨h0, ⟨h, -⟩ | h⟩
      · exact absurd h h2
      · exact ⟨h0, Or.inr h⟩
    · rintro ⟨h0, ⟨h, -⟩ | h⟩
      · exact absurd h h2
      · exact ⟨h0, Or.inr h⟩
/-- a term is given -/
theorem tt_give {n dr se i : Nat} {G G' : Nat → Prop} {kd : Nat → Nat} {lf rt er lu pb : Nat → Option Nat} {dv : Nat → Bool} {vl : Nat → Nat} (h : tt_I n dr se G kd lf rt er lu pb dv vl) (hi : i < n) (h3 : kd i = 3 → se ≤ i) (hG : ∀ w, G w → G' w) (hG2 : ∀ w, G' w → G w ∨ w = vl i) (hd : sm_dr G' (vl i)) : tt_I n dr (min se (i + 1)) G' kd lf rt er lu pb (va_up dv i true) vl := by
  obtain ⟨hW, hKk, hU, hV, gs, g1, g2, g3, g4⟩ := h
  refine ⟨hW, hKk, hU, hV, by omega, fun j hj c => ?_, fun w hw => ?_, fun j hj c => ?_, fun j hj c c2 c3 => ?_⟩
  · by_cases e : j = i
    · rw [e]; exact hd
    · rw [va_up_ne _ _ e] at c
      exact sm_dr_mono hG (g1 j hj c)
  · rcases hG2 w hw with h | h
    · obtain ⟨j, j1, j2, j3⟩ := g2 w h
      exact ⟨j, j1, j2, va_upT j3⟩
    · exact ⟨i, hi, h.symm, va_up_self _ _ _⟩
  · have hjs : j < se := by omega
    have hji : j ≤ i := by omega
    exact va_upT (g3 j hjs ((tt_m_lo hW hKk (by omega) hji).mp c))
  · have hjs : j < se := by omega
    by_cases e : j = i
    · subst e
      have := h3 c
      omega
    · have hji : j ≤ i := by omega
      rw [va_up_ne _ _ e] at c2
      obtain ⟨-, wl, wr⟩ := hW j (by omega)
      exact (tt_d_lo hji wr).mpr (g4 j hjs c c2 ((tt_d_lo hji wl).mp c3))
theorem tt_giv0 {n dr se i : Nat} {G G' : Nat → Prop} {kd : Nat → Nat} {lf rt er lu pb : Nat → Option Nat} {dv : Nat → Bool} {vl : Nat → Nat} (h : tt_I n dr se G kd lf rt er lu pb dv vl) (hi : i < n) (hdv : dv i = true) (hG : ∀ w, G w → G' w) (hG2 : ∀ w, G' w → G w ∨ w = vl i) : tt_I n dr se G' kd lf rt er lu pb dv vl := by
  obtain ⟨hW, hKk, hU, hV, gs, g1, g2, g3, g4⟩ := h
  refine ⟨hW, hKk, hU, hV, gs, fun j hj c => sm_dr_mono hG (g1 j hj c), fun w hw => ?_, g3, g4⟩
  rcases hG2 w hw with h | h
  · exact g2 w h
  · exact ⟨i, hi, h.symm, hdv⟩
theorem tt_dr_d {n dr se : Nat} {G : Nat → Prop} {kd : Nat → Nat} {lf rt er lu pb : Nat → Option Nat} {dv : Nat → Bool} {vl : Nat → Nat} (h : tt_I n dr se G kd lf rt er lu pb dv vl) {r : Option Nat} (hr : ∀ j, r = some j → j < n) (hd : tt_d dv r) : sm_dr G (tt_vo vl r) := by
  cases r with
  | none => exact (sm_dr_mk G).1
  | some j => exact h.2.2.2.2.2.1 j (hr j rfl) (hd j rfl)
/-- what can be made of derived terms is derived -/
theorem tt_dr_m {n dr se i : Nat} {G : Nat → Prop} {kd : Nat → Nat} {lf rt er lu pb : Nat → Option Nat} {dv : Nat → Bool} {vl : Nat → Nat} (h : tt_I n dr se G kd lf rt er lu pb dv vl) (hi : i < n) (hm : tt_m kd lf rt pb dv i) : sm_dr G (vl i) := by
  obtain ⟨hW, hKk, hU, hV, hG⟩ := id h
  obtain ⟨-, wl, wr⟩ := hW i hi
  have hl : ∀ j, lf i = some j → j < n := fun j e => Nat.lt_trans (wl j e) hi
  have hr : ∀ j, rt i = some j → j < n := fun j e => Nat.lt_trans (wr j e) hi
  rw [hV.1 i hi hm.1]
  have mk := sm_dr_mk G
  rcases hm.2 with ⟨h2, hs⟩ | ⟨h2, hd1, hd2⟩
  · obtain ⟨a, b, x, y, e1, e2, ka, kb, e5, e6, e7, e8⟩ := (hKk i hi).2.2.1 h2
    have pv : ∀ {z p : Nat}, z < n → pb z = some p → dv p = true → sm_dr G (sm_t 1 (vl z) 0) := by
      intro z p hz hp hd
      obtain ⟨-, q1, q2, q3⟩ := (hKk z hz).2.2.2.2.2 p hp
      have := hG.2.1 p q1 hd
      rw [hV.1 p q1 (by omega), q2, q3, ((hKk p q1).2.1 q2).1] at this
      exact this
    rw [e1, e2, h2]
    rcases hs with ⟨x', y', p, f1, f2, f3, f4, f5⟩ | ⟨x', y', p, f1, f2, f3, f4, f5⟩
    · rw [e1] at f1; rw [e2] at f2
      cases f1; cases f2
      exact mk.2.2.1 _ _ (hG.2.1 a (hl a e1) f3) (pv (hr b e2) f4 f5)
    · rw [e2] at f1; rw [e1] at f2
      cases f1; cases f2
      exact mk.2.2.2.1 _ _ (hG.2.1 b (hr b e2) f3) (pv (hl a e1) f4 f5)
  · have d1 := tt_dr_d h hl hd1
    have d2 := tt_dr_d h hr hd2
    by_cases h1 : kd i = 1
    · rw [h1]
      have e := ((hKk i hi).2.1 h1).1
      rw [e]
      exact mk.2.1 _ d1
    · exact mk.2.2.2.2 _ _ _ (by have := hm.1; omega) d1 d2
/-- how many are not marked -/
def tt_n (dv : Nat → Bool) : Nat → Nat
  | 0 => 0
  | m + 1 => (if dv m = true then 0 else 1) + tt_n dv m
theorem tt_n_le (dv : Nat → Bool) : ∀ n, tt_n dv n ≤ n
  | 0 => Nat.le_refl _
  | m + 1 => by
    unfold tt_n
    have := tt_n_le dv m
    split <;> omega
theorem tt_n_same {dv : Nat → Bool} {i : Nat} : ∀ {n : Nat}, n ≤ i → tt_n (va_up dv i true) n = tt_n dv n
  | 0, _ => rfl
  | m + 1, h => by
    unfold tt_n
    rw [va_up_ne _ _ (by omega), tt_n_same (by omega)]
theorem tt_n_up {dv : Nat → Bool} {i : Nat} (hf : ¬ dv i = true) : ∀ {n : Nat}, i < n → tt_n (va_up dv i true) n + 1 = tt_n dv n
  | 0, h => by omega
  | m + 1, h => by
    unfold tt_n
    by_cases e : m = i
    · subst e
      rw [va_up_self, if_pos rfl, if_neg hf, tt_n_same (Nat.le_refl _)]
      omega
    · rw [va_up_ne _ _ e]
      have := tt_n_up hf (n := m) (by omega)
      omega
/-- the next term is tried: what can be made is marked -/
theorem tt_try {n dr se : Nat} {G : Nat → Prop} {kd : Nat → Nat} {lf rt er lu pb : Nat → Option Nat} {dv dv' : Nat → Bool} {vl : Nat → Nat} (h : tt_I n dr se G kd lf rt er lu pb dv vl) (hs : se < n) (hd : (¬ tt_m kd lf rt pb dv se ∧ dv' = dv) ∨ (tt_m kd lf rt pb dv se ∧ dv' = va_up dv se true)) : tt_I n dr se G kd lf rt er lu pb dv' vl ∧ (tt_m kd lf rt pb dv' se → dv' se = true) := by
  obtain ⟨hW, hKk, hU, hV, hG⟩ := id h
  rcases hd with ⟨hm, rfl⟩ | ⟨hm, rfl⟩
  · exact ⟨h, fun c => absurd c hm⟩
  · have hg := tt_give h hs (fun _ => Nat.le_refl _) (fun w q => q) (fun w q => Or.inl q) (tt_dr_m h hs hm)
    rw [Nat.min_eq_left (by omega)] at hg
    exact ⟨hg, fun _ => va_up_self _ _ _⟩
/-- nothing to open there: on to the next -/
theorem tt_on {n dr se : Nat} {G : Nat → Prop} {kd : Nat → Nat} {lf rt er lu pb : Nat → Option Nat} {dv : Nat → Bool} {vl : Nat → Nat} (h : tt_I n dr se G kd lf rt er lu pb dv vl) (hs : se < n) (h1 : tt_m kd lf rt pb dv se → dv se = true) (h2 : kd se = 3 → dv se = true → tt_d dv (lf se) → tt_d dv (rt se)) : tt_I n dr (se + 1) G kd lf rt er lu pb dv vl := by
  obtain ⟨hW, hKk, hU, hV, gs, g1, g2, g3, g4⟩ := h
  refine ⟨hW, hKk, hU, hV, by omega, g1, g2, fun j hj c => ?_, fun j hj c c2 c3 => ?_⟩
  · by_cases e : j = se
    · rw [e] at c ⊢; exact h1 c
    · exact g3 j (by omega) c
  · by_cases e : j = se
    · rw [e] at c c2 c3 ⊢; exact h2 c c2 c3
    · exact g4 j (by omega) c c2 c3
/-- all tried: the marks are just what is DERIVED -/
theorem tt_done {n dr : Nat} {G : Nat → Prop} {kd : Nat → Nat} {lf rt er lu pb : Nat → Option Nat} {dv : Nat → Bool} {vl : Nat → Nat} (h : tt_I n dr n G kd lf rt er lu pb dv vl) {i : Nat} (hi : i < n) : dv i = true ↔ sm_dr G (vl i) := by
  obtain ⟨hW, hKk, hU, hV, gs, g1, g2, g3, g4⟩ := h
  refine ⟨g1 i hi, fun hd => ?_⟩
  have k0 : ∀ {i k a b : Nat}, i < n → vl i = sm_t k a b → k ≠ 0 → kd i = k ∧ tt_vo vl (lf i) = a ∧ tt_vo vl (rt i) = b := by
    intro i k a b hi e hk
    have hk0 : kd i ≠ 0 := fun h => by
      obtain ⟨d, -, -, e9⟩ := hV.2.1 i hi h
      rw [e] at e9
      exact hk (sm_t_inj e9).1
    have e2 := hV.1 i hi hk0
    rw [e] at e2
    obtain ⟨f1, f2, f3⟩ := sm_t_inj e2
    exact ⟨f1.symm, f2.symm, f3.symm⟩
  have fl : ∀ {j : Nat}, j < n → (∃ i, i < n ∧ vl i = vl j ∧ dv i = true) → dv j = true := by
    rintro j hj ⟨i, i1, i2, i3⟩
    rw [← hV.2.2.2 i j i1 hj i2]; exact i3
  have fd : ∀ {r : Option Nat} {a : Nat}, (∀ j, r = some j → j < n) → tt_vo vl r = a → (a = 0 ∨ ∃ i, i < n ∧ vl i = a ∧ dv i = true) → tt_d dv r := by
    intro r a hr e q j hj
    subst hj
    have e2 : vl j = a := e
    rcases q with q | q
    · exact absurd (e2.trans q) (tt_pos hV (hr j rfl))
    · rw [← e2] at q
      exact fl (hr j rfl) q
  have lfn : ∀ {i : Nat}, i < n → ∀ j, lf i = some j → j < n := fun {i} hi j e => Nat.lt_trans ((hW i hi).2.1 j e) hi
  have rtn : ∀ {i : Nat}, i < n → ∀ j, rt i = some j → j < n := fun {i} hi j e => Nat.lt_trans ((hW i hi).2.2 j e) hi
  have vk : ∀ {r : Option Nat} {a : Nat}, (∀ j, r = some j → j < n) → tt_vo vl r = a → (a = 0 ∨ ∃ i, i < n ∧ vl i = a) := by
    intro r a hr e
    cases r with
    | none => exact Or.inl e.symm
    | some j => exact Or.inr ⟨j, hr j rfl, e⟩
  have pv : ∀ {z p : Nat}, z < n → pb z = some p → p < n ∧ vl p = sm_t 1 (vl z) 0 := by
    intro z p hz hp
    obtain ⟨-, q1, q2, q3⟩ := (hKk z hz).2.2.2.2.2 p hp
    refine ⟨q1, ?_⟩
    rw [hV.1 p q1 (by omega), q2, q3, ((hKk p q1).2.1 q2).1]
    rfl
  have tab : sm_tab (fun v => ∃ i, i < n ∧ vl i = v) (fun v => ∃ i, i < n ∧ vl i = v ∧ dv i = true) := by
    refine ⟨fun v ⟨i, h1, h2, h3⟩ => ⟨i, h1, h2⟩, fun k a b ⟨i, hi, e⟩ hk => ?_, fun s ⟨i, hi, e⟩ => ?_, fun s t ⟨i, hi, e⟩ => ?_, fun ⟨i, hi, e⟩ => tt_pos hV hi e, fun s ⟨i, hi, e⟩ hf => ?_, fun s t ⟨i, hi, e⟩ hf1 hf2 => ?_, fun s t ⟨i, hi, e⟩ hf1 hf2 => ?_, fun k a b ⟨i, hi, e⟩ hk ha hb => ?_, fun a b ⟨i, hi, e, hd⟩ ha => ?_⟩
    · obtain ⟨-, f2, f3⟩ := k0 hi e (by omega)
      exact ⟨vk (lfn hi) f2, vk (rtn hi) f3⟩
    · obtain ⟨f1, f2, f3⟩ := k0 hi e (by omega)
      obtain ⟨-, j, q1, -⟩ := (hKk i hi).2.1 f1
      rw [q1] at f2
      exact ⟨j, lfn hi j q1, f2⟩
    · obtain ⟨f1, f2, f3⟩ := k0 hi e (by omega)
      obtain ⟨a, b, x, y, q1, q2, -, -, q5, -, q7, -⟩ := (hKk i hi).2.2.1 f1
      rw [q1] at f2; rw [q2] at f3
      have f2 : vl a = s := f2
      have f3 : vl b = t := f3
      obtain ⟨p1, p2⟩ := pv (lfn hi a q1) q5
      obtain ⟨p3, p4⟩ := pv (rtn hi b q2) q7
      exact ⟨⟨a, lfn hi a q1, f2⟩, ⟨b, rtn hi b q2, f3⟩, ⟨x, p1, by rw [p2, f2]⟩, ⟨y, p3, by rw [p4, f3]⟩⟩
    · obtain ⟨f1, f2, f3⟩ := k0 hi e (by omega)
      refine ⟨i, hi, e, g3 i hi ⟨by omega, Or.inr ⟨by omega, fd (lfn hi) f2 (Or.inr hf), ?_⟩⟩⟩
      rw [((hKk i hi).2.1 f1).1]
      exact fun j h => by cases h
    · obtain ⟨f1, f2, f3⟩ := k0 hi e (by omega)
      obtain ⟨a, b, x, y, q1, q2, -, -, q5, -, q7, -⟩ := (hKk i hi).2.2.1 f1
      rw [q1] at f2; rw [q2] at f3
      have f2 : vl a = s := f2
      have f3 : vl b = t := f3
      obtain ⟨p3, p4⟩ := pv (rtn hi b q2) q7
      refine ⟨i, hi, e, g3 i hi ⟨by omega, Or.inl ⟨f1, Or.inl ⟨a, b, y, q1, q2, fl (lfn hi a q1) (by rw [f2]; exact hf1), q7, fl p3 (by rw [p4, f3]; exact hf2)⟩⟩⟩⟩
    · obtain ⟨f1, f2, f3⟩ := k0 hi e (by omega)
      obtain ⟨a, b, x, y, q1, q2, -, -, q5, -, q7, -⟩ := (hKk i hi).2.2.1 f1
      rw [q1] at f2; rw [q2] at f3
      have f2 : vl a = s := f2
      have f3 : vl b = t := f3
      obtain ⟨p1, p2⟩ := pv (lfn hi a q1) q5
      refine ⟨i, hi, e, g3 i hi ⟨by omega, Or.inl ⟨f1, Or.inr ⟨b, a, x, q2, q1, fl (rtn hi b q2) (by rw [f3]; exact hf1), q5, fl p1 (by rw [p2, f2]; exact hf2)⟩⟩⟩⟩
    · obtain ⟨f1, f2, f3⟩ := k0 hi e (by omega)
      exact ⟨i, hi, e, g3 i hi ⟨by omega, Or.inr ⟨by omega, fd (lfn hi) f2 ha, fd (rtn hi) f3 hb⟩⟩⟩
    · obtain ⟨f1, f2, f3⟩ := k0 hi e (by omega)
      have hr := g4 i hi f1 hd (fd (lfn hi) f2 ha)
      cases hrt : rt i with
      | none => rw [hrt] at f3; exact Or.inl f3.symm
      | some j =>
        rw [hrt] at f3
        exact Or.inr ⟨j, rtn hi j hrt, f3, hr j hrt⟩
  exact fl hi (sm_tab_dr tab (fun g hg => Or.inr (g2 g hg)) hd ⟨i, hi, rfl⟩)
end
section
set_option maxHeartbeats 4000000 in
set_option maxRecDepth 100000 in
theorem ct_TS_isDerived {l : Launch} {D : va_G} {BG : Nat → Option Cell} (M : hm_M) (n : Nat) (ad kd : Nat → Nat) (lf rt er lu pb : Nat → Option Nat) (dv : Nat → Bool) (hcell : ∀ i, i < n → M (ad i) = some (tt_c ad kd lf rt er lu pb dv i)) (r : Option Nat) (hr : ∀ j, r = some j → j < n) : hm_ct l D BG ny_TS_isDerived prog_5_method_13_code 1 (some .boolean) 0 0 0 0 [va_rf (r.map ad)] M (fun r' M' => r' = some (.int (if tt_db dv r = true then 1 else 0)) ∧ M' = M) := by
  refine hm_ct_of (by decide +kernel) (by simp [lg_sl, hm_cat, hm_catI, hm_catR, hm_catN]) ?_
  intro X C E
  have C : hm_C X l D BG prog_5_method_13_code "TurnedKeys$Terms" "isDerived" 1 0 0 0 0 := C
  refine hm_lv (lv' := [(0, va_rf (r.map ad))]) (by simp [lv_args, hm_cat, hm_catI, hm_catR, hm_catN]) ?_
  rcases r with _ | x
  · refine hm_lv (lv' := [(0, .null)]) rfl ?_
    refine hm_aload_nN C nd_TS_isDerived_0 rfl ?_
    refine hm_ifnull (tgt := 11) (r := none) C nd_TS_isDerived_1 (by decide) (fun _ => ?_) (fun h => absurd rfl h)
    refine hm_iconst (v := 1) C nd_TS_isDerived_11 (by decide) ?_
    refine hm_goto (tgt := 16) C nd_TS_isDerived_12 (by decide) ?_
    exact hm_zret C E (by first | exact Or.inl rfl | exact Or.inr rfl) (by omega) (by omega) (⟨rfl, rfl⟩) nd_TS_isDerived_16
  · refine hm_lv (lv' := [(0, .ref (ad x))]) rfl ?_
    refine hm_aload_n C nd_TS_isDerived_0 rfl ?_
    refine hm_ifnull (tgt := 11) (r := (some (ad x))) C nd_TS_isDerived_1 (by decide) (fun h => by cases h) (fun _ => ?_)
    refine hm_aload_n C nd_TS_isDerived_4 rfl ?_
    refine hm_get C nF_TS_73 (hcell x (hr x rfl)) rfl nd_TS_isDerived_5 ?_
    refine hm_if_eq (tgt := 15) C nd_TS_isDerived_8 (by decide) (fun cc => ?_) (fun cc => ?_)
    · refine hm_iconst (v := 0) C nd_TS_isDerived_15 (by decide) ?_
      exact hm_zret C E (by first | exact Or.inl rfl | exact Or.inr rfl) (by omega) (by omega) (⟨by rw [show tt_db dv (some x) = dv x from rfl, if_neg (fun h => by rw [if_pos h] at cc; exact absurd cc (by decide))], rfl⟩) nd_TS_isDerived_16
    · refine hm_iconst (v := 1) C nd_TS_isDerived_11 (by decide) ?_
      refine hm_goto (tgt := 16) C nd_TS_isDerived_12 (by decide) ?_
      exact hm_zret C E (by first | exact Or.inl rfl | exact Or.inr rfl) (by omega) (by omega) (⟨by rw [show tt_db dv (some x) = dv x from rfl, if_pos (by rcases hb : dv x with _ | _; exact absurd (by rw [hb]; rfl) cc; rfl)], rfl⟩) nd_TS_isDerived_16
set_option maxHeartbeats 4000000 in
set_option maxRecDepth 100000 in
theorem ct_TS_sharedByOne {l : Launch} {D : va_G} {BG : Nat → Option Cell} (M : hm_M) (n : Nat) (ad kd : Nat → Nat) (lf rt er lu pb : Nat → Option Nat) (dv : Nat → Bool) (hcell : ∀ i, i < n → M (ad i) = some (tt_c ad kd lf rt er lu pb dv i)) (hpn : ∀ i, i < n → ∀ j, pb i = some j → j < n) (a b : Option Nat) (ha : ∀ j, a = some j → j < n) (hb : ∀ j, b = some j → j < n) : hm_ct l D BG ny_TS_sharedByOne prog_5_method_12_code 2 (some .boolean) 0 0 0 0 [va_rf (a.map ad), va_rf (b.map ad)] M (fun r' M' => r' = some (.int (if tt_sb pb dv a b = true then 1 else 0)) ∧ M' = M) := by
  refine hm_ct_of (by decide +kernel) (by simp [lg_sl, hm_cat, hm_catI, hm_catR, hm_catN]) ?_
  intro X C E
  have C : hm_C X l D BG prog_5_method_12_code "TurnedKeys$Terms" "sharedByOne" 2 0 0 0 0 := C
  refine hm_lv (lv' := [(0, va_rf (a.map ad)), (1, va_rf (b.map ad))]) (by simp [lv_args, hm_cat, hm_catI, hm_catR, hm_catN]) ?_
  rcases a with _ | x
  · refine hm_lv (lv' := [(0, .null), (1, va_rf (b.map ad))]) rfl ?_
    refine hm_aload_nN C nd_TS_sharedByOne_0 rfl ?_
    refine hm_ifnull (tgt := 36) (r := none) C nd_TS_sharedByOne_1 (by decide) (fun _ => ?_) (fun h => absurd rfl h)
    refine hm_iconst (v := 0) C nd_TS_sharedByOne_36 (by decide) ?_
    exact hm_zret C E (by first | exact Or.inl rfl | exact Or.inr rfl) (by omega) (by omega) (⟨by cases b <;> rfl, rfl⟩) nd_TS_sharedByOne_37
  · rcases b with _ | y
    · refine hm_lv (lv' := [(0, .ref (ad x)), (1, .null)]) rfl ?_
      refine hm_aload_n C nd_TS_sharedByOne_0 rfl ?_
      refine hm_ifnull (tgt := 36) (r := (some (ad x))) C nd_TS_sharedByOne_1 (by decide) (fun h => by cases h) (fun _ => ?_)
      refine hm_aload_nN C nd_TS_sharedByOne_4 rfl ?_
      refine hm_ifnull (tgt := 36) (r := none) C nd_TS_sharedByOne_5 (by decide) (fun _ => ?_) (fun h => absurd rfl h)
      refine hm_iconst (v := 0) C nd_TS_sharedByOne_36 (by decide) ?_
      exact hm_zret C E (by first | exact Or.inl rfl | exact Or.inr rfl) (by omega) (by omega) (⟨rfl, rfl⟩) nd_TS_sharedByOne_37
    · refine hm_lv (lv' := [(0, .ref (ad x)), (1, .ref (ad y))]) rfl ?_
      have e0 : tt_sb pb dv (some x) (some y) = (dv x && (match pb y with | some p => dv p | none => false)) := rfl
      rw [e0] at E
      refine hm_aload_n C nd_TS_sharedByOne_0 rfl ?_
      refine hm_ifnull (tgt := 36) (r := (some (ad x))) C nd_TS_sharedByOne_1 (by decide) (fun h => by cases h) (fun _ => ?_)
      refine hm_aload_n C nd_TS_sharedByOne_4 rfl ?_
      refine hm_ifnull (tgt := 36) (r := (some (ad y))) C nd_TS_sharedByOne_5 (by decide) (fun h => by cases h) (fun _ => ?_)
      refine hm_aload_n C nd_TS_sharedByOne_8 rfl ?_
      refine hm_get C nF_TS_73 (hcell x (ha x rfl)) rfl nd_TS_sharedByOne_9 ?_
      refine hm_if_eq (tgt := 36) C nd_TS_sharedByOne_12 (by decide) (fun cc => ?_) (fun cc => ?_)
      · refine hm_iconst (v := 0) C nd_TS_sharedByOne_36 (by decide) ?_
        exact hm_zret C E (by first | exact Or.inl rfl | exact Or.inr rfl) (by omega) (by omega) (⟨by rw [show dv x = false from by rcases h : dv x with _ | _; rfl; rw [if_pos h] at cc; exact absurd cc (by decide)]; rfl, rfl⟩) nd_TS_sharedByOne_37
      · have hdx : dv x = true := by rcases h : dv x with _ | _; exact absurd (by rw [h]; rfl) cc; rfl
        refine hm_aload_n C nd_TS_sharedByOne_15 rfl ?_
        refine hm_get C nF_TS_26 (hcell y (hb y rfl)) rfl nd_TS_sharedByOne_16 ?_
        refine hm_ifnull (tgt := 36) (r := ((pb y).map ad)) C nd_TS_sharedByOne_19 (by decide) (fun c2 => ?_) (fun c2 => ?_)
        · have hp := om_none c2
          refine hm_iconst (v := 0) C nd_TS_sharedByOne_36 (by decide) ?_
          exact hm_zret C E (by first | exact Or.inl rfl | exact Or.inr rfl) (by omega) (by omega) (⟨by rw [hdx, hp]; rfl, rfl⟩) nd_TS_sharedByOne_37
        · obtain ⟨p, hp⟩ := om_some c2
          refine hm_aload_n C nd_TS_sharedByOne_22 rfl ?_
          have hcy : M (ad y) = some (hm_ob 2 [.int (nI (kd y)), .int (nI y), va_rf ((lf y).map ad), va_rf ((rt y).map ad), va_rf ((er y).map ad), va_rf ((lu y).map ad), .ref (ad p), .int (if dv y = true then 1 else 0)]) := by have h := hcell y (hb y rfl); unfold tt_c at h; rw [hp] at h; exact h
          refine hm_get C nF_TS_26 hcy rfl nd_TS_sharedByOne_23 ?_
          refine hm_get C nF_TS_73 (hcell p (hpn y (hb y rfl) p hp)) rfl nd_TS_sharedByOne_26 ?_
          refine hm_if_eq (tgt := 36) C nd_TS_sharedByOne_29 (by decide) (fun c3 => ?_) (fun c3 => ?_)
          · refine hm_iconst (v := 0) C nd_TS_sharedByOne_36 (by decide) ?_
            exact hm_zret C E (by first | exact Or.inl rfl | exact Or.inr rfl) (by omega) (by omega) (⟨by rw [hdx, hp]; show some (Value.int 0) = some (.int (if (true && dv p) = true then 1 else 0)); rw [show dv p = false from by rcases h : dv p with _ | _; rfl; rw [if_pos h] at c3; exact absurd c3 (by decide)]; rfl, rfl⟩) nd_TS_sharedByOne_37
          · refine hm_iconst (v := 1) C nd_TS_sharedByOne_32 (by decide) ?_
            refine hm_goto (tgt := 37) C nd_TS_sharedByOne_33 (by decide) ?_
            exact hm_zret C E (by first | exact Or.inl rfl | exact Or.inr rfl) (by omega) (by omega) (⟨by rw [hdx, hp]; show some (Value.int 1) = some (.int (if (true && dv p) = true then 1 else 0)); rw [show dv p = true from by rcases h : dv p with _ | _; exact absurd (by rw [h]; rfl) c3; rfl]; rfl, rfl⟩) nd_TS_sharedByOne_37
set_option maxHeartbeats 4000000 in
set_option maxRecDepth 100000 in
theorem ct_TS_canBeMade {l : Launch} {D : va_G} {BG : Nat → Option Cell} (M : hm_M) (n : Nat) (ad kd : Nat → Nat) (lf rt er lu pb : Nat → Option Nat) (dv : Nat → Bool) (hcell : ∀ i, i < n → M (ad i) = some (tt_c ad kd lf rt er lu pb dv i)) (hW : tt_W n kd lf rt) (hpn : ∀ i, i < n → ∀ j, pb i = some j → j < n) (i : Nat) (hi : i < n) : hm_ct l D BG ny_TS_canBeMade prog_5_method_11_code 1 (some .boolean) 1 21 0 0 [.ref (ad i)] M (fun r' M' => r' = some (.int (if tt_mb kd lf rt pb dv i = true then 1 else 0)) ∧ M' = M) := by
  refine hm_ct_of (by decide +kernel) (by exact Nat.le_of_ble_eq_true rfl) ?_
  intro X C E
  have C : hm_C X l D BG prog_5_method_11_code "TurnedKeys$Terms" "canBeMade" 1 1 21 0 0 := C
  refine hm_lv (lv' := [(0, .ref (ad i))]) rfl ?_
  obtain ⟨k7, wl, wr⟩ := hW i hi
  have hl : ∀ j, lf i = some j → j < n := fun j e => Nat.lt_trans (wl j e) hi
  have hr : ∀ j, rt i = some j → j < n := fun j e => Nat.lt_trans (wr j e) hi
  have hci := hcell i hi
  unfold tt_c at hci
  refine hm_aload_n C nd_TS_canBeMade_0 rfl ?_
  refine hm_get C nF_TS_53 hci rfl nd_TS_canBeMade_1 ?_
  by_cases h0 : kd i = 0
  · refine hm_lookup (off := 28) (tgt := 32) C nd_TS_canBeMade_4 (by decide) (by rw [h0]; decide) (by decide) ?_
    refine hm_iconst (v := 0) C nd_TS_canBeMade_32 (by decide) ?_
    exact hm_zret C E (by first | exact Or.inl rfl | exact Or.inr rfl) (by omega) (by omega) (⟨by unfold tt_mb; rw [if_pos h0]; rfl, rfl⟩) nd_TS_canBeMade_33
  · by_cases h2 : kd i = 2
    · refine hm_lookup (off := 30) (tgt := 34) C nd_TS_canBeMade_4 (by decide) (by rw [h2]; decide) (by decide) ?_
      have em : tt_mb kd lf rt pb dv i = (tt_sb pb dv (lf i) (rt i) || tt_sb pb dv (rt i) (lf i)) := by unfold tt_mb; rw [if_neg h0, if_pos h2]
      refine hm_aload_n C nd_TS_canBeMade_34 rfl ?_
      refine hm_get C nF_TS_32 hci rfl nd_TS_canBeMade_35 ?_
      refine hm_aload_n C nd_TS_canBeMade_38 rfl ?_
      refine hm_get C nF_TS_56 hci rfl nd_TS_canBeMade_39 ?_
      refine hm_callS C (ct_TS_sharedByOne M n ad kd lf rt er lu pb dv hcell hpn (lf i) (rt i) hl hr) nV_TS_sharedByOne nq_TS_105 nu_TS_sharedByOne rfl (rest := []) rfl (Nat.le_of_ble_eq_true rfl) (by decide) (by decide) (by omega) (by omega) nd_TS_canBeMade_42 (fun r M1 hp => ?_)
      obtain ⟨rfl, eM1⟩ := hp
      rw [eM1]
      refine hm_stk (st' := [.int (if tt_sb pb dv (lf i) (rt i) = true then 1 else 0)]) rfl ?_
      refine hm_if_ne (tgt := 62) C nd_TS_canBeMade_45 (by decide) (fun cc => ?_) (fun cc => ?_)
      · refine hm_iconst (v := 1) C nd_TS_canBeMade_62 (by decide) ?_
        refine hm_goto (tgt := 67) C nd_TS_canBeMade_63 (by decide) ?_
        exact hm_zret C E (by first | exact Or.inl rfl | exact Or.inr rfl) (by omega) (by omega) (⟨by rw [em, show tt_sb pb dv (lf i) (rt i) = true from by rcases h : tt_sb pb dv (lf i) (rt i) with _ | _; exact absurd (by rw [h]; rfl) cc; rfl]; rfl, rfl⟩) nd_TS_canBeMade_67
      · have e1 : tt_sb pb dv (lf i) (rt i) = false := by rcases h : tt_sb pb dv (lf i) (rt i) with _ | _; rfl; rw [if_pos h] at cc; exact absurd cc (by decide)
        refine hm_aload_n C nd_TS_canBeMade_48 rfl ?_
        refine hm_get C nF_TS_56 hci rfl nd_TS_canBeMade_49 ?_
        refine hm_aload_n C nd_TS_canBeMade_52 rfl ?_
        refine hm_get C nF_TS_32 hci rfl nd_TS_canBeMade_53 ?_
        refine hm_callS C (ct_TS_sharedByOne M n ad kd lf rt er lu pb dv hcell hpn (rt i) (lf i) hr hl) nV_TS_sharedByOne nq_TS_105 nu_TS_sharedByOne rfl (rest := []) rfl (Nat.le_of_ble_eq_true rfl) (by decide) (by decide) (by omega) (by omega) nd_TS_canBeMade_56 (fun r M2 hp => ?_)
        obtain ⟨rfl, eM2⟩ := hp
        rw [eM2]
        refine hm_stk (st' := [.int (if tt_sb pb dv (rt i) (lf i) = true then 1 else 0)]) rfl ?_
        refine hm_if_eq (tgt := 66) C nd_TS_canBeMade_59 (by decide) (fun c2 => ?_) (fun c2 => ?_)
        · refine hm_iconst (v := 0) C nd_TS_canBeMade_66 (by decide) ?_
          exact hm_zret C E (by first | exact Or.inl rfl | exact Or.inr rfl) (by omega) (by omega) (⟨by rw [em, e1, show tt_sb pb dv (rt i) (lf i) = false from by rcases h : tt_sb pb dv (rt i) (lf i) with _ | _; rfl; rw [if_pos h] at c2; exact absurd c2 (by decide)]; rfl, rfl⟩) nd_TS_canBeMade_67
        · refine hm_iconst (v := 1) C nd_TS_canBeMade_62 (by decide) ?_
          refine hm_goto (tgt := 67) C nd_TS_canBeMade_63 (by decide) ?_
          exact hm_zret C E (by first | exact Or.inl rfl | exact Or.inr rfl) (by omega) (by omega) (⟨by rw [em, e1, show tt_sb pb dv (rt i) (lf i) = true from by rcases h : tt_sb pb dv (rt i) (lf i) with _ | _; exact absurd (by rw [h]; rfl) c2; rfl]; rfl, rfl⟩) nd_TS_canBeMade_67
    · refine hm_lookup (off := 64) (tgt := 68) C nd_TS_canBeMade_4 (by decide) (by have h9 : kd i = 1 ∨ kd i = 3 ∨ kd i = 4 ∨ kd i = 5 ∨ kd i = 6 ∨ kd i = 7 := (by omega); rcases h9 with h | h | h | h | h | h <;> (rw [h]; decide)) (by decide) ?_
      have em : tt_mb kd lf rt pb dv i = (tt_db dv (lf i) && tt_db dv (rt i)) := by unfold tt_mb; rw [if_neg h0, if_neg h2]
      refine hm_aload_n C nd_TS_canBeMade_68 rfl ?_
      refine hm_get C nF_TS_32 hci rfl nd_TS_canBeMade_69 ?_
      refine hm_callS C (ct_TS_isDerived M n ad kd lf rt er lu pb dv hcell (lf i) hl) nV_TS_isDerived nq_TS_89 nu_TS_isDerived rfl (rest := []) rfl (Nat.le_of_ble_eq_true rfl) (by decide) (by decide) (by omega) (by omega) nd_TS_canBeMade_72 (fun r M1 hp => ?_)
      obtain ⟨rfl, eM1⟩ := hp
      rw [eM1]
      refine hm_stk (st' := [.int (if tt_db dv (lf i) = true then 1 else 0)]) rfl ?_
      refine hm_if_eq (tgt := 92) C nd_TS_canBeMade_75 (by decide) (fun cc => ?_) (fun cc => ?_)
      · refine hm_iconst (v := 0) C nd_TS_canBeMade_92 (by decide) ?_
        exact hm_zret C E (by first | exact Or.inl rfl | exact Or.inr rfl) (by omega) (by omega) (⟨by rw [em, show tt_db dv (lf i) = false from by rcases h : tt_db dv (lf i) with _ | _; rfl; rw [if_pos h] at cc; exact absurd cc (by decide)]; rfl, rfl⟩) nd_TS_canBeMade_93
      · have e1 : tt_db dv (lf i) = true := by rcases h : tt_db dv (lf i) with _ | _; exact absurd (by rw [h]; rfl) cc; rfl
        refine hm_aload_n C nd_TS_canBeMade_78 rfl ?_
        refine hm_get C nF_TS_56 hci rfl nd_TS_canBeMade_79 ?_
        refine hm_callS C (ct_TS_isDerived M n ad kd lf rt er lu pb dv hcell (rt i) hr) nV_TS_isDerived nq_TS_89 nu_TS_isDerived rfl (rest := []) rfl (Nat.le_of_ble_eq_true rfl) (by decide) (by decide) (by omega) (by omega) nd_TS_canBeMade_82 (fun r M2 hp => ?_)
        obtain ⟨rfl, eM2⟩ := hp
        rw [eM2]
        refine hm_stk (st' := [.int (if tt_db dv (rt i) = true then 1 else 0)]) rfl ?_
        refine hm_if_eq (tgt := 92) C nd_TS_canBeMade_85 (by decide) (fun c2 => ?_) (fun c2 => ?_)
        · refine hm_iconst (v := 0) C nd_TS_canBeMade_92 (by decide) ?_
          exact hm_zret C E (by first | exact Or.inl rfl | exact Or.inr rfl) (by omega) (by omega) (⟨by rw [em, e1, show tt_db dv (rt i) = false from by rcases h : tt_db dv (rt i) with _ | _; rfl; rw [if_pos h] at c2; exact absurd c2 (by decide)]; rfl, rfl⟩) nd_TS_canBeMade_93
        · refine hm_iconst (v := 1) C nd_TS_canBeMade_88 (by decide) ?_
          refine hm_goto (tgt := 93) C nd_TS_canBeMade_89 (by decide) ?_
          exact hm_zret C E (by first | exact Or.inl rfl | exact Or.inr rfl) (by omega) (by omega) (⟨by rw [em, e1, show tt_db dv (rt i) = true from by rcases h : tt_db dv (rt i) with _ | _; exact absurd (by rw [h]; rfl) c2; rfl]; rfl, rfl⟩) nd_TS_canBeMade_93
end
section
set_option maxHeartbeats 4000000 in
set_option maxRecDepth 100000 in
theorem ct_TS_give {l : Launch} {D : va_G} {BG : Nat → Option Cell} (M : hm_M) (tm : Nat) (F : Nat → Prop) (T : Nat → Nat → Nat → Prop) (G : Nat → Prop) (dr n c se : Nat) (hS : ts_S D M tm F T G dr n c se) (r0 : Option Nat) (v : Nat) (hr : ts_o T r0 v) (h3 : ∀ a i x y, r0 = some a → T a i v → v = sm_t 3 x y → se ≤ i) : hm_ct l D BG ny_TS_give prog_5_method_8_code 2 (some .int) 1 20 0 0 [.ref tm, va_rf r0] M (fun r M' => r = some (.int (if v = 0 then 0 else 1)) ∧ ∃ se', ts_S D M' tm F T (fun w => G w ∨ (v ≠ 0 ∧ w = v)) dr n c se' ∧ se' ≤ se ∧ (∀ a, ¬ F a → M' a = M a)) := by
  refine hm_ct_of (by decide +kernel) (by simp [lg_sl, hm_cat, hm_catI, hm_catR, hm_catN]) ?_
  intro X C E
  have C : hm_C X l D BG prog_5_method_8_code "TurnedKeys$Terms" "give" 2 1 20 0 0 := C
  obtain ⟨la, ea, ad, kd, lf, rt, er, lu, pb, dv, vl, hX, hI, rfl, rfl⟩ := hS
  obtain ⟨p, rfl, hpn, rfl⟩ := ts_pl hr
  obtain ⟨ht, hR, hcell, hc6⟩ := id hX
  have hnc : n ≤ c := by obtain ⟨m, -, h, -⟩ := hR; exact h
  refine hm_lv (lv' := [(0, .ref tm), (1, va_rf (p.map ad))]) (by simp [lv_args, hm_cat, hm_catI, hm_catR, hm_catN]) ?_
  rcases p with _ | i
  · refine hm_lv (lv' := [(0, .ref tm), (1, .null)]) rfl ?_
    refine hm_aload_nN C nd_TS_give_0 rfl ?_
    refine hm_ifnonnull (tgt := 6) (r := none) C nd_TS_give_1 (by decide) (fun h => absurd rfl h) (fun _ => ?_)
    refine hm_iconst (v := 0) C nd_TS_give_4 (by decide) ?_
    have eG : (fun w => G w ∨ (tt_vo vl none ≠ 0 ∧ w = tt_vo vl none)) = G := by
      funext w
      apply propext
      exact ⟨fun h => h.elim id (fun h => absurd rfl h.1), Or.inl⟩
    exact hm_iret C E (by omega) (by omega) (⟨rfl, se, by rw [eG]; exact ⟨la, ea, ad, kd, lf, rt, er, lu, pb, dv, vl, hX, hI, rfl, rfl⟩, Nat.le_refl _, fun _ _ => rfl⟩) nd_TS_give_5
  · refine hm_lv (lv' := [(0, .ref tm), (1, .ref (ad i))]) rfl ?_
    have hi := hpn i rfl
    have hci := hcell i hi
    unfold tt_c at hci
    have hv0 : tt_vo vl (some i) ≠ 0 := tt_pos hI.2.2.2.1 hi
    have g1 : ∀ w, G w → (fun w => G w ∨ (tt_vo vl (some i) ≠ 0 ∧ w = tt_vo vl (some i))) w := fun w h => Or.inl h
    have g2 : ∀ w, (fun w => G w ∨ (tt_vo vl (some i) ≠ 0 ∧ w = tt_vo vl (some i))) w → G w ∨ w = vl i := fun w h => h.elim Or.inl (fun h => Or.inr h.2)
    refine hm_aload_n C nd_TS_give_0 rfl ?_
    refine hm_ifnonnull (tgt := 6) (r := (some (ad i))) C nd_TS_give_1 (by decide) (fun _ => ?_) (fun h => by cases h)
    refine hm_aload_n C nd_TS_give_6 rfl ?_
    refine hm_get C nF_TS_73 hci rfl nd_TS_give_7 ?_
    refine hm_if_ne (tgt := 35) C nd_TS_give_10 (by decide) (fun cc => ?_) (fun cc => ?_)
    · have hdv : dv i = true := by rcases h : dv i with _ | _; exact absurd (by rw [h]; rfl) cc; rfl
      refine hm_iconst (v := 1) C nd_TS_give_35 (by decide) ?_
      exact hm_iret C E (by omega) (by omega) (⟨by rw [if_neg hv0], se, ⟨la, ea, ad, kd, lf, rt, er, lu, pb, dv, vl, hX, tt_giv0 hI hi hdv g1 g2, rfl, rfl⟩, Nat.le_refl _, fun _ _ => rfl⟩) nd_TS_give_36
    · have hdv : ¬ dv i = true := fun h => by rw [if_pos h] at cc; exact absurd cc (by decide)
      have hgv := tt_give hI hi (fun h => h3 (ad i) i (tt_vo vl (lf i)) (tt_vo vl (rt i)) rfl ⟨hi, rfl, rfl⟩ (by rw [show tt_vo vl (some i) = vl i from rfl, hI.2.2.2.1.1 i hi (by omega), h])) g1 g2 (sm_dr_in (Or.inr ⟨hv0, rfl⟩))
      refine hm_aload_n C nd_TS_give_13 rfl ?_
      refine hm_iconst (v := 1) C nd_TS_give_14 (by decide) ?_
      refine hm_put C nF_TS_73 hci (Nat.le_of_ble_eq_true rfl) rfl rfl nd_TS_give_15 ?_
      refine hm_eqM (M' := hm_up M (ad i) (hm_ob 2 [.int (nI (kd i)), .int (nI i), va_rf ((lf i).map ad), va_rf ((rt i).map ad), va_rf ((er i).map ad), va_rf ((lu i).map ad), va_rf ((pb i).map ad), .int 1])) rfl ?_
      generalize hM1 : hm_up M (ad i) (hm_ob 2 [.int (nI (kd i)), .int (nI i), va_rf ((lf i).map ad), va_rf ((rt i).map ad), va_rf ((er i).map ad), va_rf ((lu i).map ad), va_rf ((pb i).map ad), .int 1]) = M1
      have fM1_0 : M1 tm = some (hm_ob 1 [.ref la, .int (nI dr), .int (nI se)]) := by rw [← hM1, hm_up_n _ _ (hm_ne ht hci (by decide))]; exact ht
      have fM1_1 : M1 (ad i) = some (hm_ob 2 [.int (nI (kd i)), .int (nI i), va_rf ((lf i).map ad), va_rf ((rt i).map ad), va_rf ((er i).map ad), va_rf ((lu i).map ad), va_rf ((pb i).map ad), .int 1]) := by rw [← hM1]; exact hm_up_s _ _ _
      refine hm_aload_n C nd_TS_give_18 rfl ?_
      refine hm_aload_n C nd_TS_give_19 rfl ?_
      refine hm_get C nF_TS_77 fM1_0 rfl nd_TS_give_20 ?_
      refine hm_aload_n C nd_TS_give_23 rfl ?_
      refine hm_get C nF_TS_39 fM1_1 rfl nd_TS_give_24 ?_
      refine hm_iconst (v := 1) C nd_TS_give_27 (by decide) ?_
      refine hm_iadd C nd_TS_give_28 ?_
      rw [nI_1]
      refine hm_mmin (rest := [.ref tm]) C nq_TS_80 (by decide) (Nat.le_of_ble_eq_true rfl) (by omega) (by omega) nd_TS_give_29 ?_
      have hmin : (if nI (i + 1) < nI se then nI (i + 1) else nI se) = nI (min se (i + 1)) := by
        have hsn := hI.2.2.2.2.1
        by_cases h : i + 1 < se
        · rw [if_pos (nI_lt h (by omega)), Nat.min_eq_right (by omega)]
        · rw [if_neg (nI_nlt (by omega) (by omega)), Nat.min_eq_left (by omega)]
      rw [hmin]
      refine hm_put C nF_TS_77 fM1_0 (Nat.le_of_ble_eq_true rfl) rfl rfl nd_TS_give_32 ?_
      refine hm_eqM (M' := hm_up M1 tm (hm_ob 1 [.ref la, .int (nI dr), .int (nI (min se (i + 1)))])) rfl ?_
      generalize hM2 : hm_up M1 tm (hm_ob 1 [.ref la, .int (nI dr), .int (nI (min se (i + 1)))]) = M2
      have fM2_0 : M2 (ad i) = some (hm_ob 2 [.int (nI (kd i)), .int (nI i), va_rf ((lf i).map ad), va_rf ((rt i).map ad), va_rf ((er i).map ad), va_rf ((lu i).map ad), va_rf ((pb i).map ad), .int 1]) := by rw [← hM2, hm_up_n _ _ (hm_ne fM1_1 fM1_0 (by decide))]; exact fM1_1
      have fM2_1 : M2 tm = some (hm_ob 1 [.ref la, .int (nI dr), .int (nI (min se (i + 1)))]) := by rw [← hM2]; exact hm_up_s _ _ _
      refine hm_iconst (v := 1) C nd_TS_give_35 (by decide) ?_
      have hX2 : ts_X D M2 tm la ea c n dr (min se (i + 1)) ad kd lf rt er lu pb (va_up dv i true) := by
        refine ⟨fM2_1, ?_, fun j hj => ?_, hc6⟩
        · rw [← hM2, ← hM1]
          have n1 := ts_ne hX hi
          exact (hR.put n1.2.1 n1.2.2).put (by obtain ⟨m, h9, -⟩ := id hR; exact hm_ne ht h9 (by decide)) (fun h0 => by
            obtain ⟨m, h9, -, h8⟩ := id hR
            rcases h8 with ⟨h7, -⟩ | ⟨-, g, hg, -⟩
            · exact absurd h7 h0
            · exact hm_neA ht hg)
        · rw [← hM2, hm_up_n _ _ (ts_ne hX hj).1]
          by_cases e : j = i
          · subst e
            rw [← hM1, hm_up_s]
            unfold tt_c
            rw [va_up_self]
            rfl
          · rw [← hM1, hm_up_n _ _ (fun z => e (ts_inj hX hj hi z)), hcell j hj]
            unfold tt_c
            rw [va_up_ne _ _ e]
      exact hm_iret C E (by omega) (by omega) (⟨by rw [if_neg hv0], _, ⟨la, ea, ad, kd, lf, rt, er, lu, pb, _, vl, hX2, hgv, rfl, rfl⟩, Nat.min_le_left _ _, fun z hz => by rw [← hM2, hm_up_n _ _ (fun e => hz (Or.inl e)), ← hM1, hm_up_n _ _ (fun e => hz (Or.inr (Or.inr (Or.inr ⟨i, hi, e⟩))))]⟩) nd_TS_give_36
end
section
set_option maxHeartbeats 4000000 in
set_option maxRecDepth 100000 in
theorem ct_TS_giveD {l : Launch} {D : va_G} {BG : Nat → Option Cell} (M : hm_M) (tm la ea c n dr s0 : Nat) (ad kd : Nat → Nat) (lf rt er lu pb : Nat → Option Nat) (dv : Nat → Bool) (hX : ts_X D M tm la ea c n dr s0 ad kd lf rt er lu pb dv) (hs0 : s0 ≤ 65536) (i : Nat) (hi : i < n) : hm_ct l D BG ny_TS_give prog_5_method_8_code 2 (some .int) 1 20 0 0 [.ref tm, .ref (ad i)] M (fun r M' => r = some (.int 1) ∧ ∃ dv' s1, ts_X D M' tm la ea c n dr s1 ad kd lf rt er lu pb dv' ∧ ((dv i = true ∧ dv' = dv ∧ s1 = s0) ∨ (¬ dv i = true ∧ dv' = va_up dv i true ∧ s1 = min s0 (i + 1))) ∧ (∀ a, ¬ ts_F tm la ea c n ad a → M' a = M a)) := by
  refine hm_ct_of (by decide +kernel) (by exact Nat.le_of_ble_eq_true rfl) ?_
  intro X C E
  have C : hm_C X l D BG prog_5_method_8_code "TurnedKeys$Terms" "give" 2 1 20 0 0 := C
  obtain ⟨ht, hR, hcell, hc6⟩ := id hX
  have hnc : n ≤ c := by obtain ⟨m, -, h, -⟩ := hR; exact h
  have hci := hcell i hi
  unfold tt_c at hci
  refine hm_lv (lv' := [(0, .ref tm), (1, .ref (ad i))]) rfl ?_
  refine hm_aload_n C nd_TS_give_0 rfl ?_
  refine hm_ifnonnull (tgt := 6) (r := (some (ad i))) C nd_TS_give_1 (by decide) (fun _ => ?_) (fun h => by cases h)
  refine hm_aload_n C nd_TS_give_6 rfl ?_
  refine hm_get C nF_TS_73 hci rfl nd_TS_give_7 ?_
  refine hm_if_ne (tgt := 35) C nd_TS_give_10 (by decide) (fun cc => ?_) (fun cc => ?_)
  · have hdv : dv i = true := by rcases h : dv i with _ | _; exact absurd (by rw [h]; rfl) cc; rfl
    refine hm_iconst (v := 1) C nd_TS_give_35 (by decide) ?_
    exact hm_iret C E (by omega) (by omega) (⟨rfl, dv, s0, hX, Or.inl ⟨hdv, rfl, rfl⟩, fun _ _ => rfl⟩) nd_TS_give_36
  · have hdv : ¬ dv i = true := fun h => by rw [if_pos h] at cc; exact absurd cc (by decide)
    refine hm_aload_n C nd_TS_give_13 rfl ?_
    refine hm_iconst (v := 1) C nd_TS_give_14 (by decide) ?_
    refine hm_put C nF_TS_73 hci (Nat.le_of_ble_eq_true rfl) rfl rfl nd_TS_give_15 ?_
    refine hm_eqM (M' := hm_up M (ad i) (hm_ob 2 [.int (nI (kd i)), .int (nI i), va_rf ((lf i).map ad), va_rf ((rt i).map ad), va_rf ((er i).map ad), va_rf ((lu i).map ad), va_rf ((pb i).map ad), .int 1])) rfl ?_
    generalize hM1 : hm_up M (ad i) (hm_ob 2 [.int (nI (kd i)), .int (nI i), va_rf ((lf i).map ad), va_rf ((rt i).map ad), va_rf ((er i).map ad), va_rf ((lu i).map ad), va_rf ((pb i).map ad), .int 1]) = M1
    have fM1_0 : M1 tm = some (hm_ob 1 [.ref la, .int (nI dr), .int (nI s0)]) := by rw [← hM1, hm_up_n _ _ (hm_ne ht hci (by decide))]; exact ht
    have fM1_1 : M1 (ad i) = some (hm_ob 2 [.int (nI (kd i)), .int (nI i), va_rf ((lf i).map ad), va_rf ((rt i).map ad), va_rf ((er i).map ad), va_rf ((lu i).map ad), va_rf ((pb i).map ad), .int 1]) := by rw [← hM1]; exact hm_up_s _ _ _
    refine hm_aload_n C nd_TS_give_18 rfl ?_
    refine hm_aload_n C nd_TS_give_19 rfl ?_
    refine hm_get C nF_TS_77 fM1_0 rfl nd_TS_give_20 ?_
    refine hm_aload_n C nd_TS_give_23 rfl ?_
    refine hm_get C nF_TS_39 fM1_1 rfl nd_TS_give_24 ?_
    refine hm_iconst (v := 1) C nd_TS_give_27 (by decide) ?_
    refine hm_iadd C nd_TS_give_28 ?_
    rw [nI_1]
    refine hm_mmin (rest := [.ref tm]) C nq_TS_80 (by decide) (Nat.le_of_ble_eq_true rfl) (by omega) (by omega) nd_TS_give_29 ?_
    have hmin : (if nI (i + 1) < nI s0 then nI (i + 1) else nI s0) = nI (min s0 (i + 1)) := by
      by_cases h : i + 1 < s0
      · rw [if_pos (nI_lt h (by omega)), Nat.min_eq_right (by omega)]
      · rw [if_neg (nI_nlt (by omega) (by omega)), Nat.min_eq_left (by omega)]
    rw [hmin]
    refine hm_put C nF_TS_77 fM1_0 (Nat.le_of_ble_eq_true rfl) rfl rfl nd_TS_give_32 ?_
    refine hm_eqM (M' := hm_up M1 tm (hm_ob 1 [.ref la, .int (nI dr), .int (nI (min s0 (i + 1)))])) rfl ?_
    generalize hM2 : hm_up M1 tm (hm_ob 1 [.ref la, .int (nI dr), .int (nI (min s0 (i + 1)))]) = M2
    have fM2_0 : M2 (ad i) = some (hm_ob 2 [.int (nI (kd i)), .int (nI i), va_rf ((lf i).map ad), va_rf ((rt i).map ad), va_rf ((er i).map ad), va_rf ((lu i).map ad), va_rf ((pb i).map ad), .int 1]) := by rw [← hM2, hm_up_n _ _ (hm_ne fM1_1 fM1_0 (by decide))]; exact fM1_1
    have fM2_1 : M2 tm = some (hm_ob 1 [.ref la, .int (nI dr), .int (nI (min s0 (i + 1)))]) := by rw [← hM2]; exact hm_up_s _ _ _
    refine hm_iconst (v := 1) C nd_TS_give_35 (by decide) ?_
    have hX2 : ts_X D M2 tm la ea c n dr (min s0 (i + 1)) ad kd lf rt er lu pb (va_up dv i true) := by
      refine ⟨fM2_1, ?_, fun j hj => ?_, hc6⟩
      · rw [← hM2, ← hM1]
        have n1 := ts_ne hX hi
        exact (hR.put n1.2.1 n1.2.2).put (by obtain ⟨m, h9, -⟩ := id hR; exact hm_ne ht h9 (by decide)) (fun h0 => by
          obtain ⟨m, h9, -, h8⟩ := id hR
          rcases h8 with ⟨h7, -⟩ | ⟨-, g, hg, -⟩
          · exact absurd h7 h0
          · exact hm_neA ht hg)
      · rw [← hM2, hm_up_n _ _ (ts_ne hX hj).1]
        by_cases e : j = i
        · subst e
          rw [← hM1, hm_up_s]
          unfold tt_c
          rw [va_up_self]
          rfl
        · rw [← hM1, hm_up_n _ _ (fun z => e (ts_inj hX hj hi z)), hcell j hj]
          unfold tt_c
          rw [va_up_ne _ _ e]
    exact hm_iret C E (by omega) (by omega) (⟨rfl, _, _, hX2, Or.inr ⟨hdv, rfl, rfl⟩, fun z hz => by rw [← hM2, hm_up_n _ _ (fun e => hz (Or.inl e)), ← hM1, hm_up_n _ _ (fun e => hz (Or.inr (Or.inr (Or.inr ⟨i, hi, e⟩))))]⟩) nd_TS_give_36
set_option maxHeartbeats 4000000 in
set_option maxRecDepth 100000 in
theorem ct_TS_settle {l : Launch} {D : va_G} {BG : Nat → Option Cell} (M : hm_M) (tm : Nat) (F : Nat → Prop) (T : Nat → Nat → Nat → Prop) (G : Nat → Prop) (dr n c se : Nat) (hS : ts_S D M tm F T G dr n c se) : hm_ct l D BG ny_TS_settle prog_5_method_10_code 3 none 3 64 0 0 [.ref tm] M (fun r M' => r = none ∧ ts_S D M' tm F T G dr n c n ∧ (∀ a, ¬ F a → M' a = M a)) := by
  refine hm_ct_of (by decide +kernel) (by exact Nat.le_of_ble_eq_true rfl) ?_
  intro X C E
  have C : hm_C X l D BG prog_5_method_10_code "TurnedKeys$Terms" "settle" 3 3 64 0 0 := C
  obtain ⟨la, ea, ad, kd, lf, rt, er, lu, pb, dv, vl, hX, hI, rfl, rfl⟩ := hS
  have hnn : n ≤ 65536 := by obtain ⟨-, ⟨m, -, h1, -⟩, -, h2⟩ := id hX; omega
  have loop : ∀ (u : Nat) (Mi : hm_M) (dv : Nat → Bool) (se x : Nat), (n - se) + 5 * tt_n dv n ≤ u → x + u ≤ 1000000 → ts_X D Mi tm la ea c n dr se ad kd lf rt er lu pb dv → tt_I n dr se G kd lf rt er lu pb dv vl → (∀ a, ¬ ts_F tm la ea c n ad a → Mi a = M a) → hm_W X Mi 0 0 2 [(1, .int (nI x)), (0, .ref tm)] [] := by
    intro u
    induction u with
    | zero =>
        intro Mi dv se x hu hxu hX hI hfr
        obtain ⟨ht, hR, hcell, hc6⟩ := id hX
        have hsn : se ≤ n := hI.2.2.2.2.1
        obtain ⟨m0, hla, hnc, hRc⟩ := id hR
        have hse : se = n := by omega
        refine hm_iload_n C nd_TS_settle_2 rfl ?_
        refine hm_ldc (v := 1000000) C nk_TS_93 nd_TS_settle_3 ?_
        refine hm_icmp_ge (tgt := 100) C nd_TS_settle_5 (by decide) (fun c1 => ?_) (fun c1 => ?_)
        · exact hm_vret C E (by omega) (by omega) (⟨rfl, ⟨la, ea, ad, kd, lf, rt, er, lu, pb, dv, vl, by rw [hse] at hX; exact hX, by rw [hse] at hI; exact hI, rfl, rfl⟩, hfr⟩) nd_TS_settle_100
        · refine hm_aload_n C nd_TS_settle_8 rfl ?_
          refine hm_get C nF_TS_77 ht rfl nd_TS_settle_9 ?_
          refine hm_aload_n C nd_TS_settle_12 rfl ?_
          refine hm_get C nF_TS_12 ht rfl nd_TS_settle_13 ?_
          refine hm_callV C (ct_AL_size Mi la ea (nI n) m0 hla) nV_AL_size [] rfl hla rfl nq_TS_62 nj_AL_size nx_AL_size rfl (rest := [.int (nI se)]) rfl (Nat.le_of_ble_eq_true rfl) (by decide) (by decide) (by omega) (by omega) nd_TS_settle_16 (fun r M1 hp => ?_)
          obtain ⟨rfl, eM1⟩ := hp
          rw [eM1]
          refine hm_stk (st' := [.int (nI n), .int (nI se)]) rfl ?_
          refine hm_icmp_ge (tgt := 100) C nd_TS_settle_19 (by decide) (fun c2 => ?_) (fun c2 => absurd (nI_le (show n ≤ se by omega) (by omega)) c2)
          exact hm_vret C E (by omega) (by omega) (⟨rfl, ⟨la, ea, ad, kd, lf, rt, er, lu, pb, dv, vl, by rw [hse] at hX; exact hX, by rw [hse] at hI; exact hI, rfl, rfl⟩, hfr⟩) nd_TS_settle_100
    | succ u ih =>
        intro Mi dv se x hu hxu hX hI hfr
        obtain ⟨ht, hR, hcell, hc6⟩ := id hX
        have hsn : se ≤ n := hI.2.2.2.2.1
        obtain ⟨m0, hla, hnc, hRc⟩ := id hR
        refine hm_iload_n C nd_TS_settle_2 rfl ?_
        refine hm_ldc (v := 1000000) C nk_TS_93 nd_TS_settle_3 ?_
        refine hm_icmp_ge (tgt := 100) C nd_TS_settle_5 (by decide) (fun c1 => ?_) (fun c1 => ?_)
        · have hse : se = n := by
            rcases Nat.lt_or_ge x 1000000 with h | h
            · exact absurd c1 (show ¬ nI 1000000 ≤ nI x from nI_ge h (by omega))
            · omega
          exact hm_vret C E (by omega) (by omega) (⟨rfl, ⟨la, ea, ad, kd, lf, rt, er, lu, pb, dv, vl, by rw [hse] at hX; exact hX, by rw [hse] at hI; exact hI, rfl, rfl⟩, hfr⟩) nd_TS_settle_100
        · refine hm_aload_n C nd_TS_settle_8 rfl ?_
          refine hm_get C nF_TS_77 ht rfl nd_TS_settle_9 ?_
          refine hm_aload_n C nd_TS_settle_12 rfl ?_
          refine hm_get C nF_TS_12 ht rfl nd_TS_settle_13 ?_
          refine hm_callV C (ct_AL_size Mi la ea (nI n) m0 hla) nV_AL_size [] rfl hla rfl nq_TS_62 nj_AL_size nx_AL_size rfl (rest := [.int (nI se)]) rfl (Nat.le_of_ble_eq_true rfl) (by decide) (by decide) (by omega) (by omega) nd_TS_settle_16 (fun r M1 hp => ?_)
          obtain ⟨rfl, eM1⟩ := hp
          rw [eM1]
          refine hm_stk (st' := [.int (nI n), .int (nI se)]) rfl ?_
          refine hm_icmp_ge (tgt := 100) C nd_TS_settle_19 (by decide) (fun c2 => ?_) (fun c2 => ?_)
          · have hse : se = n := by
              rcases Nat.lt_or_ge se n with h | h
              · exact absurd c2 (nI_ge h (by omega))
              · omega
            exact hm_vret C E (by omega) (by omega) (⟨rfl, ⟨la, ea, ad, kd, lf, rt, er, lu, pb, dv, vl, by rw [hse] at hX; exact hX, by rw [hse] at hI; exact hI, rfl, rfl⟩, hfr⟩) nd_TS_settle_100
          · have hs : se < n := by
              rcases Nat.lt_or_ge se n with h | h
              · exact h
              · exact absurd (nI_le h (by omega)) c2
            obtain ⟨h2c, g, hg, hf, hno⟩ : 2 ≤ c ∧ ∃ g : Nat → Option Nat, Mi ea = some (hm_ar D 0 c g) ∧ (∀ i, i < n → g i = some (ad i)) ∧ ∀ i, n ≤ i → g i = none := by
              rcases hRc with ⟨h, -⟩ | h
              · omega
              · exact h
            refine hm_aload_n C nd_TS_settle_22 rfl ?_
            refine hm_get C nF_TS_12 ht rfl nd_TS_settle_23 ?_
            refine hm_aload_n C nd_TS_settle_26 rfl ?_
            refine hm_get C nF_TS_77 ht rfl nd_TS_settle_27 ?_
            refine hm_callV C (ct_AL_get Mi la ea n c se g m0 hla hg (by omega) hs hnc) nV_AL_get [.int (nI se)] rfl hla rfl nq_TS_94 nj_AL_get nx_AL_get rfl (rest := []) rfl (Nat.le_of_ble_eq_true rfl) (by decide) (by decide) (by omega) (by omega) nd_TS_settle_30 (fun r M2 hp => ?_)
            obtain ⟨rfl, eM2⟩ := hp
            rw [eM2]
            refine hm_stk (st' := [va_rf (g se)]) rfl ?_
            refine hm_stk (st' := [.ref (ad se)]) (by rw [hf se hs]; rfl) ?_
            have hci := hcell se hs
            unfold tt_c at hci
            refine hm_cast C hci rfl nc_TS_27 nd_TS_settle_33 ?_
            refine hm_astore_n C [(2, .ref (ad se)), (1, .int (nI x)), (0, .ref tm)] nd_TS_settle_36 (by decide) rfl ?_
            refine hm_aload_n C nd_TS_settle_37 rfl ?_
            refine hm_dup C nd_TS_settle_38 rfl ?_
            refine hm_get C nF_TS_77 ht rfl nd_TS_settle_39 ?_
            refine hm_iconst (v := 1) C nd_TS_settle_42 (by decide) ?_
            refine hm_iadd C nd_TS_settle_43 ?_
            rw [nI_1]
            refine hm_put C nF_TS_77 ht (Nat.le_of_ble_eq_true rfl) rfl rfl nd_TS_settle_44 ?_
            refine hm_eqM (M' := hm_up Mi tm (hm_ob 1 [.ref la, .int (nI dr), .int (nI (se + 1))])) rfl ?_
            generalize hM3 : hm_up Mi tm (hm_ob 1 [.ref la, .int (nI dr), .int (nI (se + 1))]) = M3
            have fM3_0 : M3 la = some (hm_ob 0 [.ref ea, .int (nI n), .int m0]) := by rw [← hM3, hm_up_n _ _ (hm_ne hla ht (by decide))]; exact hla
            have fM3_1 : M3 (ad se) = some (hm_ob 2 [.int (nI (kd se)), .int (nI se), va_rf ((lf se).map ad), va_rf ((rt se).map ad), va_rf ((er se).map ad), va_rf ((lu se).map ad), va_rf ((pb se).map ad), .int (if dv se = true then 1 else 0)]) := by rw [← hM3, hm_up_n _ _ (hm_ne hci ht (by decide))]; exact hci
            have fM3_2 : M3 tm = some (hm_ob 1 [.ref la, .int (nI dr), .int (nI (se + 1))]) := by rw [← hM3]; exact hm_up_s _ _ _
            have hX1 : ts_X D M3 tm la ea c n dr (se + 1) ad kd lf rt er lu pb dv := by
              refine ⟨fM3_2, ?_, fun j hj => by rw [← hM3, hm_up_n _ _ (ts_ne hX hj).1]; exact hcell j hj, hc6⟩
              rw [← hM3]
              exact hR.put (hm_ne ht hla (by decide)) (fun h0 => hm_neA ht hg)
            have hfr1 : ∀ a, ¬ ts_F tm la ea c n ad a → M3 a = M a := fun a ha => by rw [← hM3, hm_up_n _ _ (fun e => ha (Or.inl e))]; exact hfr a ha
            have hW := hI.1
            have hKk := hI.2.1
            have hpbn : ∀ i, i < n → ∀ j, pb i = some j → j < n := fun i hi j h => ((hKk i hi).2.2.2.2.2 j h).2.1
            obtain ⟨k7, wl, wr⟩ := hW se hs
            have hln : ∀ j, lf se = some j → j < n := fun j e => Nat.lt_trans (wl j e) hs
            have mid : ∀ (M2 : hm_M) (dv1 : Nat → Bool), ts_X D M2 tm la ea c n dr (se + 1) ad kd lf rt er lu pb dv1 → tt_I n dr se G kd lf rt er lu pb dv1 vl → (tt_m kd lf rt pb dv1 se → dv1 se = true) → tt_n dv1 n ≤ tt_n dv n → (∀ a, ¬ ts_F tm la ea c n ad a → M2 a = M a) → hm_W X M2 0 0 60 [(2, .ref (ad se)), (1, .int (nI x)), (0, .ref tm)] [] := by
              intro M2 dv1 hX2 hI2 hm2 hn2 hfr2
              obtain ⟨ht2, hR2, hcell2, -⟩ := id hX2
              have hci2 := hcell2 se hs
              unfold tt_c at hci2
              have onw : (kd se = 3 → dv1 se = true → tt_d dv1 (lf se) → tt_d dv1 (rt se)) → hm_W X M2 0 0 94 [(2, .ref (ad se)), (1, .int (nI x)), (0, .ref tm)] [] := by
                intro hop
                refine hm_iinc (x := (nI x)) (v := ((nI x) + 1)) C [(1, .int ((nI x) + 1)), (2, .ref (ad se)), (0, .ref tm)] nd_TS_settle_94 rfl rfl (by decide) rfl ?_
                refine hm_goto (tgt := 2) C nd_TS_settle_97 (by decide) ?_
                rw [nI_1]
                refine hm_less (lv' := [(1, .int (nI (x + 1))), (0, .ref tm)]) (by simp) ?_
                exact ih M2 dv1 (se + 1) (x + 1) (by omega) (by omega) hX2 (tt_on hI2 hs hm2 hop) hfr2
              refine hm_aload_n C nd_TS_settle_60 rfl ?_
              refine hm_get C nF_TS_53 hci2 rfl nd_TS_settle_61 ?_
              refine hm_iconst (v := 3) C nd_TS_settle_64 (by decide) ?_
              refine hm_icmp_ne (tgt := 94) C nd_TS_settle_65 (by decide) (fun c3 => ?_) (fun c3 => ?_)
              · exact onw (fun h => absurd (by rw [h]; rfl) c3)
              · have hk3 : kd se = 3 := (nI_eq (by omega) (by decide)).mp c3
                refine hm_aload_n C nd_TS_settle_68 rfl ?_
                refine hm_get C nF_TS_73 hci2 rfl nd_TS_settle_69 ?_
                refine hm_if_eq (tgt := 94) C nd_TS_settle_72 (by decide) (fun c4 => ?_) (fun c4 => ?_)
                · exact onw (fun _ h => by rw [if_pos h] at c4; exact absurd c4 (by decide))
                · have hd1 : dv1 se = true := by rcases h : dv1 se with _ | _; exact absurd (by rw [h]; rfl) c4; rfl
                  refine hm_aload_n C nd_TS_settle_75 rfl ?_
                  refine hm_get C nF_TS_32 hci2 rfl nd_TS_settle_76 ?_
                  refine hm_callS C (ct_TS_isDerived M2 n ad kd lf rt er lu pb dv1 hcell2 (lf se) hln) nV_TS_isDerived nq_TS_89 nu_TS_isDerived rfl (rest := []) rfl (Nat.le_of_ble_eq_true rfl) (by decide) (by decide) (by omega) (by omega) nd_TS_settle_79 (fun r M51 hp => ?_)
                  obtain ⟨rfl, eM51⟩ := hp
                  rw [eM51]
                  refine hm_stk (st' := [.int (if tt_db dv1 (lf se) = true then 1 else 0)]) rfl ?_
                  refine hm_if_eq (tgt := 94) C nd_TS_settle_82 (by decide) (fun c5 => ?_) (fun c5 => ?_)
                  · exact onw (fun _ _ h => by rw [if_pos (tt_db_iff.mpr h)] at c5; exact absurd c5 (by decide))
                  · have hdl : tt_d dv1 (lf se) := tt_db_iff.mp (by rcases h : tt_db dv1 (lf se) with _ | _; exact absurd (by rw [h]; rfl) c5; rfl)
                    obtain ⟨j, hj, hj4, hj0⟩ := (hKk se hs).2.2.2.2.1 hk3
                    have hjs : j < se := wr j hj
                    have hjn : j < n := by omega
                    have hci3 : M2 (ad se) = some (hm_ob 2 [.int (nI (kd se)), .int (nI se), va_rf ((lf se).map ad), .ref (ad j), va_rf ((er se).map ad), va_rf ((lu se).map ad), va_rf ((pb se).map ad), .int (if dv1 se = true then 1 else 0)]) := by rw [hj] at hci2; exact hci2
                    refine hm_aload_n C nd_TS_settle_85 rfl ?_
                    refine hm_aload_n C nd_TS_settle_86 rfl ?_
                    refine hm_get C nF_TS_56 hci3 rfl nd_TS_settle_87 ?_
                    refine hm_callV C (ct_TS_giveD M2 tm la ea c n dr (se + 1) ad kd lf rt er lu pb dv1 hX2 (by omega) j hjn) nV_TS_give [.ref (ad j)] rfl ht2 rfl nq_TS_101 nj_TS_give nx_TS_give rfl (rest := []) rfl (Nat.le_of_ble_eq_true rfl) (by decide) (by decide) (by omega) (by omega) nd_TS_settle_90 (fun r M52 hp => ?_)
                    obtain ⟨rfl, dv2, s1, hX3, hcs, hfr3⟩ := hp
                    have hfr4 : ∀ a, ¬ ts_F tm la ea c n ad a → M52 a = M a := fun a ha => by rw [hfr3 a ha]; exact hfr2 a ha
                    refine hm_stk (st' := [.int 1]) rfl ?_
                    refine hm_pop C nd_TS_settle_93 rfl ?_
                    refine hm_iinc (x := (nI x)) (v := ((nI x) + 1)) C [(1, .int ((nI x) + 1)), (2, .ref (ad se)), (0, .ref tm)] nd_TS_settle_94 rfl rfl (by decide) rfl ?_
                    refine hm_goto (tgt := 2) C nd_TS_settle_97 (by decide) ?_
                    rw [nI_1]
                    refine hm_less (lv' := [(1, .int (nI (x + 1))), (0, .ref tm)]) (by simp) ?_
                    rcases hcs with ⟨q1, rfl, rfl⟩ | ⟨q1, rfl, rfl⟩
                    · exact ih M52 dv2 (se + 1) (x + 1) (by omega) (by omega) hX3 (tt_on hI2 hs hm2 (fun _ _ _ z hz => by rw [hj] at hz; cases hz; exact q1)) hfr4
                    · have hgd : sm_dr G (vl j) := by
                        have h1 := hI2.2.2.2.2.2.1 se hs hd1
                        rw [hI2.2.2.2.1.1 se hs (by omega), hk3, hj] at h1
                        exact sm_dr_op G _ _ h1 (tt_dr_d hI2 hln hdl)
                      have hgv := tt_give hI2 hjn (fun h => by omega) (fun w q => q) (fun w q => Or.inl q) hgd
                      rw [Nat.min_eq_right (by omega)] at hgv
                      rw [Nat.min_eq_right (by omega)] at hX3
                      have hcnt := tt_n_up q1 hjn
                      exact ih M52 _ (j + 1) (x + 1) (by omega) (by omega) hX3 hgv hfr4
            refine hm_aload_n C nd_TS_settle_47 rfl ?_
            refine hm_callS C (ct_TS_canBeMade M3 n ad kd lf rt er lu pb dv hX1.2.2.1 hW hpbn se hs) nV_TS_canBeMade nq_TS_98 nu_TS_canBeMade rfl (rest := []) rfl (Nat.le_of_ble_eq_true rfl) (by decide) (by decide) (by omega) (by omega) nd_TS_settle_48 (fun r M4 hp => ?_)
            obtain ⟨rfl, eM4⟩ := hp
            rw [eM4]
            refine hm_stk (st' := [.int (if tt_mb kd lf rt pb dv se = true then 1 else 0)]) rfl ?_
            refine hm_if_eq (tgt := 60) C nd_TS_settle_51 (by decide) (fun c6 => ?_) (fun c6 => ?_)
            · have hnm : ¬ tt_m kd lf rt pb dv se := fun h => by rw [if_pos (tt_mb_iff.mpr h)] at c6; exact absurd c6 (by decide)
              obtain ⟨q1, q2⟩ := tt_try hI hs (Or.inl ⟨hnm, rfl⟩)
              exact mid M3 dv hX1 q1 q2 (Nat.le_refl _) hfr1
            · have hm : tt_m kd lf rt pb dv se := tt_mb_iff.mp (by rcases h : tt_mb kd lf rt pb dv se with _ | _; exact absurd (by rw [h]; rfl) c6; rfl)
              refine hm_aload_n C nd_TS_settle_54 rfl ?_
              refine hm_aload_n C nd_TS_settle_55 rfl ?_
              refine hm_callV C (ct_TS_giveD M3 tm la ea c n dr (se + 1) ad kd lf rt er lu pb dv hX1 (by omega) se hs) nV_TS_give [.ref (ad se)] rfl fM3_2 rfl nq_TS_101 nj_TS_give nx_TS_give rfl (rest := []) rfl (Nat.le_of_ble_eq_true rfl) (by decide) (by decide) (by omega) (by omega) nd_TS_settle_56 (fun r M5 hp => ?_)
              obtain ⟨rfl, dv2, s1, hX3, hcs, hfr3⟩ := hp
              have hfr4 : ∀ a, ¬ ts_F tm la ea c n ad a → M5 a = M a := fun a ha => by rw [hfr3 a ha]; exact hfr1 a ha
              refine hm_stk (st' := [.int 1]) rfl ?_
              refine hm_pop C nd_TS_settle_59 rfl ?_
              obtain ⟨p1, p2⟩ := tt_try hI hs (Or.inr ⟨hm, rfl⟩)
              rcases hcs with ⟨q1, rfl, rfl⟩ | ⟨q1, rfl, rfl⟩
              · have e : va_up dv2 se true = dv2 := by
                  funext z
                  by_cases hz : z = se
                  · rw [hz, va_up_self, q1]
                  · rw [va_up_ne _ _ hz]
                rw [e] at p1 p2
                exact mid M5 dv2 hX3 p1 p2 (Nat.le_refl _) hfr4
              · rw [Nat.min_self] at hX3
                have hcnt := tt_n_up q1 hs
                exact mid M5 _ hX3 p1 p2 (by omega) hfr4
  refine hm_lv (lv' := [(0, .ref tm)]) rfl ?_
  refine hm_iconst (v := 0) C nd_TS_settle_0 (by decide) ?_
  refine hm_istore_n C [(1, .int 0), (0, .ref tm)] nd_TS_settle_1 (by decide) rfl ?_
  refine hm_lv (lv' := [(1, .int (nI 0)), (0, .ref tm)]) rfl ?_
  have hcn := tt_n_le dv n
  exact loop ((n - se) + 5 * tt_n dv n) M dv se 0 (Nat.le_refl _) (by omega) hX hI (fun _ _ => rfl)
set_option maxHeartbeats 4000000 in
set_option maxRecDepth 100000 in
theorem ct_TS_hasDerived {l : Launch} {D : va_G} {BG : Nat → Option Cell} (M : hm_M) (tm : Nat) (F : Nat → Prop) (T : Nat → Nat → Nat → Prop) (G : Nat → Prop) (dr n c se : Nat) (hS : ts_S D M tm F T G dr n c se) (a i v : Nat) (hT : T a i v) : hm_ct l D BG ny_TS_hasDerived prog_5_method_9_code 2 (some .boolean) 4 86 0 0 [.ref tm, .ref a] M (fun r M' => r = some (.int (@ite _ (sm_dr G v) (Classical.propDecidable _) 1 0)) ∧ ts_S D M' tm F T G dr n c n ∧ (∀ a, ¬ F a → M' a = M a)) := by
  refine hm_ct_of (by decide +kernel) (by exact Nat.le_of_ble_eq_true rfl) ?_
  intro X C E
  have C : hm_C X l D BG prog_5_method_9_code "TurnedKeys$Terms" "hasDerived" 2 4 86 0 0 := C
  refine hm_lv (lv' := [(0, .ref tm), (1, .ref a)]) rfl ?_
  obtain ⟨la0, ht0, -⟩ := ts_tm hS
  refine hm_aload_n C nd_TS_hasDerived_0 rfl ?_
  refine hm_callV C (ct_TS_settle M tm F T G dr n c se hS) nV_TS_settle [] rfl ht0 rfl nq_TS_86 nj_TS_settle nx_TS_settle rfl (rest := []) rfl (Nat.le_of_ble_eq_true rfl) (by decide) (by decide) (by omega) (by omega) nd_TS_hasDerived_1 (fun r M1 hp => ?_)
  obtain ⟨rfl, hS1, hfr⟩ := hp
  obtain ⟨la, ea, ad, kd, lf, rt, er, lu, pb, dv, vl, hX, hI, rfl, rfl⟩ := id hS1
  obtain ⟨hi, rfl, rfl⟩ := id hT
  refine hm_stk (st' := []) rfl ?_
  refine hm_aload_n C nd_TS_hasDerived_4 rfl ?_
  refine hm_stk (st' := [va_rf ((some i).map ad)]) rfl ?_
  refine hm_callS C (ct_TS_isDerived M1 n ad kd lf rt er lu pb dv hX.2.2.1 (some i) (fun j h => (by cases h; exact hi))) nV_TS_isDerived nq_TS_89 nu_TS_isDerived rfl (rest := []) rfl (Nat.le_of_ble_eq_true rfl) (by decide) (by decide) (by omega) (by omega) nd_TS_hasDerived_5 (fun r M2 hp => ?_)
  obtain ⟨rfl, eM2⟩ := hp
  rw [eM2]
  refine hm_stk (st' := [.int (if tt_db dv (some i) = true then 1 else 0)]) rfl ?_
  exact hm_zret C E (by by_cases h : tt_db dv (some i) = true; exact Or.inr (if_pos h); exact Or.inl (if_neg h)) (by omega) (by omega) (⟨by rw [show tt_db dv (some i) = dv i from rfl]; congr 2; by_cases h : dv i = true; rw [if_pos h, if_pos ((tt_done hI hi).mp h)]; rw [if_neg h, if_neg (fun q => h ((tt_done hI hi).mpr q))], hS1, hfr⟩) nd_TS_hasDerived_8
end
section
theorem en_dr (p m : Nat) (f : Nat → Option Nat) (h : p < m) (h8 : m ≤ 8) (hno : ∀ i, m ≤ i → f i = none) : va_up (fun j => if j < p then f j else if j < m - 1 then f (j + 1) else f j) (m - 1) none = (fun i => if i < p then f i else f (i + 1)) := by
  funext z
  by_cases hz : z = m - 1
  · subst hz
    rw [va_up_self, if_neg (by omega), hno _ (by omega)]
  · rw [va_up_ne _ _ hz]
    by_cases h1 : z < p
    · rw [if_pos h1, if_pos h1]
    · rw [if_neg h1, if_neg h1]
      by_cases h2 : z < m - 1
      · rw [if_pos h2]
      · rw [if_neg h2, hno z (by omega), hno _ (by omega)]
set_option maxHeartbeats 4000000 in
set_option maxRecDepth 100000 in
theorem ct_EN_init {l : Launch} {D : va_G} {BG : Nat → Option Cell} (M : hm_M) (a : Nat) (bs ro mi : Option Nat) (ha : M a = some (hm_ob 3 [.null, .null, .null, .null, .null, .int 0, .int 0, .null, .int 0, .null, .int 0])) : hm_ct l D BG ny_EN_init prog_2_method_1_code 4 none 1 15 1 8 [.ref a, va_rf bs, va_rf ro, va_rf mi] M (fun r M' => ∃ lk : Nat, r = none ∧ M lk = none ∧ M' = hm_up (hm_up M lk (hm_ar D 2 8 (fun _ => none))) a (hm_ob 3 [va_rf bs, va_rf ro, va_rf mi, .null, .null, .int 0, .int 0, .null, .int 0, .ref lk, .int 0])) := by
  refine hm_ct_of (by decide +kernel) (by simp [lg_sl, hm_cat, hm_catI, hm_catR, hm_catN]) ?_
  intro X C E
  have C : hm_C X l D BG prog_2_method_1_code "TurnedKeys$End" "<init>" 4 1 15 1 8 := C
  refine hm_lv (lv' := [(0, .ref a), (1, va_rf bs), (2, va_rf ro), (3, va_rf mi)]) (by simp [lv_args, hm_cat, hm_catI, hm_catR, hm_catN]) ?_
  refine hm_aload_n C nd_EN_init_0 rfl ?_
  refine hm_objInit C nq_EN_3 nj_OJ_init nm_OJ_init (by decide) (by decide) nd_EN_init_1 ?_
  refine hm_aload_n C nd_EN_init_4 rfl ?_
  refine hm_bipush (v := 8) C nd_EN_init_5 (by decide) ?_
  refine hm_anew (t := 2) (N := 8) C rfl nc_EN_9 nr_LK (by decide) (by omega) (by omega) (by omega) nd_EN_init_7 (fun lk hlk => ?_)
  generalize hM1 : hm_up M lk (hm_ar D 2 8 (fun _ => none)) = M1
  have fM1_0 : M1 a = some (hm_ob 3 [.null, .null, .null, .null, .null, .int 0, .int 0, .null, .int 0, .null, .int 0]) := by rw [← hM1, hm_up_n _ _ (hm_neF ha hlk)]; exact ha
  have aM1_0 : M1 lk = some (hm_ar D 2 8 (fun _ => none)) := by rw [← hM1]; exact hm_up_s _ _ _
  refine hm_putF C nF_EN_11 fM1_0 (Nat.le_of_ble_eq_true rfl) rfl rfl nd_EN_init_10 ?_
  refine hm_eqM (M' := hm_up M1 a (hm_ob 3 [.null, .null, .null, .null, .null, .int 0, .int 0, .null, .int 0, .ref lk, .int 0])) rfl ?_
  generalize hM2 : hm_up M1 a (hm_ob 3 [.null, .null, .null, .null, .null, .int 0, .int 0, .null, .int 0, .ref lk, .int 0]) = M2
  have aM2_0 : M2 lk = some (hm_ar D 2 8 (fun _ => none)) := by rw [← hM2, hm_up_n _ _ (Ne.symm (hm_neA fM1_0 aM1_0))]; exact aM1_0
  have fM2_0 : M2 a = some (hm_ob 3 [.null, .null, .null, .null, .null, .int 0, .int 0, .null, .int 0, .ref lk, .int 0]) := by rw [← hM2]; exact hm_up_s _ _ _
  refine hm_aload_n C nd_EN_init_13 rfl ?_
  refine hm_aload_nQ (r := bs) C nd_EN_init_14 rfl ?_
  refine hm_put C nF_EN_17 fM2_0 (Nat.le_of_ble_eq_true rfl) (hm_narq _ _) (hm_fitq _ _) nd_EN_init_15 ?_
  refine hm_eqM (M' := hm_up M2 a (hm_ob 3 [va_rf bs, .null, .null, .null, .null, .int 0, .int 0, .null, .int 0, .ref lk, .int 0])) rfl ?_
  generalize hM3 : hm_up M2 a (hm_ob 3 [va_rf bs, .null, .null, .null, .null, .int 0, .int 0, .null, .int 0, .ref lk, .int 0]) = M3
  have aM3_0 : M3 lk = some (hm_ar D 2 8 (fun _ => none)) := by rw [← hM3, hm_up_n _ _ (Ne.symm (hm_neA fM2_0 aM2_0))]; exact aM2_0
  have fM3_0 : M3 a = some (hm_ob 3 [va_rf bs, .null, .null, .null, .null, .int 0, .int 0, .null, .int 0, .ref lk, .int 0]) := by rw [← hM3]; exact hm_up_s _ _ _
  refine hm_aload_n C nd_EN_init_18 rfl ?_
  refine hm_aload_nQ (r := ro) C nd_EN_init_19 rfl ?_
  refine hm_put C nF_EN_21 fM3_0 (Nat.le_of_ble_eq_true rfl) (hm_narq _ _) (hm_fitq _ _) nd_EN_init_20 ?_
  refine hm_eqM (M' := hm_up M3 a (hm_ob 3 [va_rf bs, va_rf ro, .null, .null, .null, .int 0, .int 0, .null, .int 0, .ref lk, .int 0])) rfl ?_
  generalize hM4 : hm_up M3 a (hm_ob 3 [va_rf bs, va_rf ro, .null, .null, .null, .int 0, .int 0, .null, .int 0, .ref lk, .int 0]) = M4
  have aM4_0 : M4 lk = some (hm_ar D 2 8 (fun _ => none)) := by rw [← hM4, hm_up_n _ _ (Ne.symm (hm_neA fM3_0 aM3_0))]; exact aM3_0
  have fM4_0 : M4 a = some (hm_ob 3 [va_rf bs, va_rf ro, .null, .null, .null, .int 0, .int 0, .null, .int 0, .ref lk, .int 0]) := by rw [← hM4]; exact hm_up_s _ _ _
  refine hm_aload_n C nd_EN_init_23 rfl ?_
  refine hm_aload_nQ (r := mi) C nd_EN_init_24 rfl ?_
  refine hm_put C nF_EN_24 fM4_0 (Nat.le_of_ble_eq_true rfl) (hm_narq _ _) (hm_fitq _ _) nd_EN_init_25 ?_
  refine hm_eqM (M' := hm_up M4 a (hm_ob 3 [va_rf bs, va_rf ro, va_rf mi, .null, .null, .int 0, .int 0, .null, .int 0, .ref lk, .int 0])) rfl ?_
  generalize hM5 : hm_up M4 a (hm_ob 3 [va_rf bs, va_rf ro, va_rf mi, .null, .null, .int 0, .int 0, .null, .int 0, .ref lk, .int 0]) = M5
  have aM5_0 : M5 lk = some (hm_ar D 2 8 (fun _ => none)) := by rw [← hM5, hm_up_n _ _ (Ne.symm (hm_neA fM4_0 aM4_0))]; exact aM4_0
  have fM5_0 : M5 a = some (hm_ob 3 [va_rf bs, va_rf ro, va_rf mi, .null, .null, .int 0, .int 0, .null, .int 0, .ref lk, .int 0]) := by rw [← hM5]; exact hm_up_s _ _ _
  exact hm_vret C E (by omega) (by omega) (⟨lk, rfl, hlk, by rw [← hM5, ← hM4, ← hM3, ← hM2, ← hM1, hm_up_up, hm_up_up, hm_up_up]⟩) nd_EN_init_28
set_option maxHeartbeats 4000000 in
set_option maxRecDepth 100000 in
theorem ct_EN_dropLeftKey {l : Launch} {D : va_G} {BG : Nat → Option Cell} (M : hm_M) (a lk : Nat) (bs ro mi th sc : Option Nat) (st bf : Int32) (rc : Option Nat) (nx : Int32) (m : Nat) (f : Nat → Option Nat) (ha : M a = some (hm_ob 3 [va_rf bs, va_rf ro, va_rf mi, va_rf th, va_rf sc, .int st, .int bf, va_rf rc, .int nx, .ref lk, .int (nI m)])) (hlk : M lk = some (hm_ar D 2 8 f)) (hm8 : m ≤ 8) (hel : ∀ i, i < m → ∃ b vs, f i = some b ∧ M b = some (hm_ob 4 vs)) (p : Nat) (hp : p < m) (hno : ∀ i, m ≤ i → f i = none) : hm_ct l D BG ny_EN_dropLeftKey prog_2_method_12_code 3 none 0 0 0 0 [.ref a, .int (nI p)] M (fun r M' => r = none ∧ M' = hm_up (hm_up M lk (hm_ar D 2 8 (fun i => if i < p then f i else f (i + 1)))) a (hm_ob 3 [va_rf bs, va_rf ro, va_rf mi, va_rf th, va_rf sc, .int st, .int bf, va_rf rc, .int nx, .ref lk, .int (nI (m - 1))])) := by
  refine hm_ct_of (by decide +kernel) (by exact Nat.le_of_ble_eq_true rfl) ?_
  intro X C E
  have C : hm_C X l D BG prog_2_method_12_code "TurnedKeys$End" "dropLeftKey" 3 0 0 0 0 := C
  have loop : ∀ (u i : Nat), m ≤ i + 1 + u → p ≤ i → i + 1 ≤ m → hm_W X (hm_up M lk (hm_ar D 2 8 (fun j => if j < p then f j else if j < i then f (j + 1) else f j))) 0 0 2 [(2, .int (nI i)), (0, .ref a), (1, .int (nI p))] [] := by
    intro u
    induction u with
    | zero =>
        intro i hu hpi him
        generalize hM0 : hm_up M lk (hm_ar D 2 8 (fun j => if j < p then f j else if j < i then f (j + 1) else f j)) = Mi
        have ha0 : Mi a = some (hm_ob 3 [va_rf bs, va_rf ro, va_rf mi, va_rf th, va_rf sc, .int st, .int bf, va_rf rc, .int nx, .ref lk, .int (nI m)]) := by rw [← hM0, hm_up_n _ _ (hm_neA ha hlk)]; exact ha
        have hk0 : Mi lk = some (hm_ar D 2 8 (fun j => if j < p then f j else if j < i then f (j + 1) else f j)) := by rw [← hM0]; exact hm_up_s _ _ _
        have hel0 : ∀ z, z < m → ∃ b vs, f z = some b ∧ Mi b = some (hm_ob 4 vs) := fun z hz => by
          obtain ⟨b, vs, h1, h2⟩ := hel z hz
          exact ⟨b, vs, h1, by rw [← hM0, hm_up_n _ _ (hm_neA h2 hlk)]; exact h2⟩
        refine hm_iload_n C nd_EN_dropLeftKey_2 rfl ?_
        refine hm_iconst (v := 1) C nd_EN_dropLeftKey_3 (by decide) ?_
        refine hm_iadd C nd_EN_dropLeftKey_4 ?_
        refine hm_aload_n C nd_EN_dropLeftKey_5 rfl ?_
        refine hm_get C nF_EN_53 ha0 rfl nd_EN_dropLeftKey_6 ?_
        refine hm_icmp_ge (tgt := 32) C nd_EN_dropLeftKey_9 (by decide) (fun c1 => ?_) (fun c1 => absurd (show nI m ≤ nI i + 1 from by rw [nI_1]; exact nI_le (by omega) (by omega)) c1)
        have hie : i = m - 1 := by omega
        refine hm_aload_n C nd_EN_dropLeftKey_32 rfl ?_
        refine hm_dup C nd_EN_dropLeftKey_33 rfl ?_
        refine hm_get C nF_EN_53 ha0 rfl nd_EN_dropLeftKey_34 ?_
        refine hm_iconst (v := 1) C nd_EN_dropLeftKey_37 (by decide) ?_
        refine hm_isub C nd_EN_dropLeftKey_38 ?_
        rw [show nI m - 1 = nI (m - 1) from by have h := pk_sub (a := m) (b := 1) (by omega); exact h]
        refine hm_put C nF_EN_53 ha0 (Nat.le_of_ble_eq_true rfl) rfl rfl nd_EN_dropLeftKey_39 ?_
        refine hm_eqM (M' := hm_up Mi a (hm_ob 3 [va_rf bs, va_rf ro, va_rf mi, va_rf th, va_rf sc, .int st, .int bf, va_rf rc, .int nx, .ref lk, .int (nI (m - 1))])) rfl ?_
        generalize hM1 : hm_up Mi a (hm_ob 3 [va_rf bs, va_rf ro, va_rf mi, va_rf th, va_rf sc, .int st, .int bf, va_rf rc, .int nx, .ref lk, .int (nI (m - 1))]) = M1
        have aM1_0 : M1 lk = some (hm_ar D 2 8 (fun j => if j < p then f j else if j < i then f (j + 1) else f j)) := by rw [← hM1, hm_up_n _ _ (Ne.symm (hm_neA ha0 hk0))]; exact hk0
        have fM1_0 : M1 a = some (hm_ob 3 [va_rf bs, va_rf ro, va_rf mi, va_rf th, va_rf sc, .int st, .int bf, va_rf rc, .int nx, .ref lk, .int (nI (m - 1))]) := by rw [← hM1]; exact hm_up_s _ _ _
        refine hm_aload_n C nd_EN_dropLeftKey_42 rfl ?_
        refine hm_get C nF_EN_11 fM1_0 rfl nd_EN_dropLeftKey_43 ?_
        refine hm_aload_n C nd_EN_dropLeftKey_46 rfl ?_
        refine hm_get C nF_EN_53 fM1_0 rfl nd_EN_dropLeftKey_47 ?_
        refine hm_null C nd_EN_dropLeftKey_50 ?_
        refine hm_aastN C (t := 2) (j := m - 1) rfl aM1_0 rfl (by omega) (by omega) nd_EN_dropLeftKey_51 ?_
        exact hm_vret C E (by omega) (by omega) (⟨rfl, by rw [← hM1, ← hM0, hie, hm_up_cm (Ne.symm (hm_neA ha hlk)), hm_up_up]; congr 2; exact congrArg (hm_ar D 2 8) (en_dr p m f (by omega) hm8 hno)⟩) nd_EN_dropLeftKey_52
    | succ u ih =>
        intro i hu hpi him
        generalize hM0 : hm_up M lk (hm_ar D 2 8 (fun j => if j < p then f j else if j < i then f (j + 1) else f j)) = Mi
        have ha0 : Mi a = some (hm_ob 3 [va_rf bs, va_rf ro, va_rf mi, va_rf th, va_rf sc, .int st, .int bf, va_rf rc, .int nx, .ref lk, .int (nI m)]) := by rw [← hM0, hm_up_n _ _ (hm_neA ha hlk)]; exact ha
        have hk0 : Mi lk = some (hm_ar D 2 8 (fun j => if j < p then f j else if j < i then f (j + 1) else f j)) := by rw [← hM0]; exact hm_up_s _ _ _
        have hel0 : ∀ z, z < m → ∃ b vs, f z = some b ∧ Mi b = some (hm_ob 4 vs) := fun z hz => by
          obtain ⟨b, vs, h1, h2⟩ := hel z hz
          exact ⟨b, vs, h1, by rw [← hM0, hm_up_n _ _ (hm_neA h2 hlk)]; exact h2⟩
        refine hm_iload_n C nd_EN_dropLeftKey_2 rfl ?_
        refine hm_iconst (v := 1) C nd_EN_dropLeftKey_3 (by decide) ?_
        refine hm_iadd C nd_EN_dropLeftKey_4 ?_
        refine hm_aload_n C nd_EN_dropLeftKey_5 rfl ?_
        refine hm_get C nF_EN_53 ha0 rfl nd_EN_dropLeftKey_6 ?_
        refine hm_icmp_ge (tgt := 32) C nd_EN_dropLeftKey_9 (by decide) (fun c1 => ?_) (fun c1 => ?_)
        · have him2 : m ≤ i + 1 := by
            rcases Nat.lt_or_ge (i + 1) m with h | h
            · rw [nI_1] at c1; exact absurd c1 (nI_ge h (by omega))
            · exact h
          have hie : i = m - 1 := by omega
          refine hm_aload_n C nd_EN_dropLeftKey_32 rfl ?_
          refine hm_dup C nd_EN_dropLeftKey_33 rfl ?_
          refine hm_get C nF_EN_53 ha0 rfl nd_EN_dropLeftKey_34 ?_
          refine hm_iconst (v := 1) C nd_EN_dropLeftKey_37 (by decide) ?_
          refine hm_isub C nd_EN_dropLeftKey_38 ?_
          rw [show nI m - 1 = nI (m - 1) from by have h := pk_sub (a := m) (b := 1) (by omega); exact h]
          refine hm_put C nF_EN_53 ha0 (Nat.le_of_ble_eq_true rfl) rfl rfl nd_EN_dropLeftKey_39 ?_
          refine hm_eqM (M' := hm_up Mi a (hm_ob 3 [va_rf bs, va_rf ro, va_rf mi, va_rf th, va_rf sc, .int st, .int bf, va_rf rc, .int nx, .ref lk, .int (nI (m - 1))])) rfl ?_
          generalize hM1 : hm_up Mi a (hm_ob 3 [va_rf bs, va_rf ro, va_rf mi, va_rf th, va_rf sc, .int st, .int bf, va_rf rc, .int nx, .ref lk, .int (nI (m - 1))]) = M1
          have aM1_0 : M1 lk = some (hm_ar D 2 8 (fun j => if j < p then f j else if j < i then f (j + 1) else f j)) := by rw [← hM1, hm_up_n _ _ (Ne.symm (hm_neA ha0 hk0))]; exact hk0
          have fM1_0 : M1 a = some (hm_ob 3 [va_rf bs, va_rf ro, va_rf mi, va_rf th, va_rf sc, .int st, .int bf, va_rf rc, .int nx, .ref lk, .int (nI (m - 1))]) := by rw [← hM1]; exact hm_up_s _ _ _
          refine hm_aload_n C nd_EN_dropLeftKey_42 rfl ?_
          refine hm_get C nF_EN_11 fM1_0 rfl nd_EN_dropLeftKey_43 ?_
          refine hm_aload_n C nd_EN_dropLeftKey_46 rfl ?_
          refine hm_get C nF_EN_53 fM1_0 rfl nd_EN_dropLeftKey_47 ?_
          refine hm_null C nd_EN_dropLeftKey_50 ?_
          refine hm_aastN C (t := 2) (j := m - 1) rfl aM1_0 rfl (by omega) (by omega) nd_EN_dropLeftKey_51 ?_
          exact hm_vret C E (by omega) (by omega) (⟨rfl, by rw [← hM1, ← hM0, hie, hm_up_cm (Ne.symm (hm_neA ha hlk)), hm_up_up]; congr 2; exact congrArg (hm_ar D 2 8) (en_dr p m f (by omega) hm8 hno)⟩) nd_EN_dropLeftKey_52
        · have him2 : i + 1 < m := by
            rcases Nat.lt_or_ge (i + 1) m with h | h
            · exact h
            · exact absurd (show nI m ≤ nI i + 1 from by rw [nI_1]; exact nI_le h (by omega)) c1
          refine hm_aload_n C nd_EN_dropLeftKey_12 rfl ?_
          refine hm_get C nF_EN_11 ha0 rfl nd_EN_dropLeftKey_13 ?_
          refine hm_iload_n C nd_EN_dropLeftKey_16 rfl ?_
          refine hm_aload_n C nd_EN_dropLeftKey_17 rfl ?_
          refine hm_get C nF_EN_11 ha0 rfl nd_EN_dropLeftKey_18 ?_
          refine hm_iload_n C nd_EN_dropLeftKey_21 rfl ?_
          refine hm_iconst (v := 1) C nd_EN_dropLeftKey_22 (by decide) ?_
          refine hm_iadd C nd_EN_dropLeftKey_23 ?_
          refine hm_aald C (t := 2) (j := i + 1) rfl hk0 (nI_1 i) (by omega) (by omega) nd_EN_dropLeftKey_24 ?_
          obtain ⟨b, vs, hb1, hb2⟩ := hel0 (i + 1) him2
          have hgi : (if i + 1 < p then f (i + 1) else if i + 1 < i then f (i + 1 + 1) else f (i + 1)) = some b := by
            rw [if_neg (by omega), if_neg (by omega)]; exact hb1
          rw [hgi]
          refine hm_stk (st' := [.ref b, .int (nI i), .ref lk]) rfl ?_
          refine hm_aast C (t := 2) (j := i) rfl hk0 hb2 rfl (Or.inl rfl) rfl (by omega) (by omega) nd_EN_dropLeftKey_25 ?_
          rw [← hM0, hm_up_up]
          refine hm_iinc (x := (nI i)) (v := ((nI i) + 1)) C [(2, .int ((nI i) + 1)), (0, .ref a), (1, .int (nI p))] nd_EN_dropLeftKey_26 rfl rfl (by decide) rfl ?_
          refine hm_goto (tgt := 2) C nd_EN_dropLeftKey_29 (by decide) ?_
          rw [nI_1]
          have hg2 : va_up (fun j => if j < p then f j else if j < i then f (j + 1) else f j) i (some b) = (fun j => if j < p then f j else if j < i + 1 then f (j + 1) else f j) := by
            funext z
            by_cases hz : z = i
            · subst hz
              rw [va_up_self, if_neg (by omega), if_pos (by omega), hb1]
            · rw [va_up_ne _ _ hz]
              by_cases h1 : z < p
              · rw [if_pos h1, if_pos h1]
              · rw [if_neg h1, if_neg h1]
                by_cases h2 : z < i
                · rw [if_pos h2, if_pos (by omega)]
                · rw [if_neg h2, if_neg (by omega)]
          rw [hg2]
          exact ih (i + 1) (by omega) (by omega) (by omega)
  refine hm_lv (lv' := [(0, .ref a), (1, .int (nI p))]) rfl ?_
  refine hm_iload_n C nd_EN_dropLeftKey_0 rfl ?_
  refine hm_istore_n C [(2, .int (nI p)), (0, .ref a), (1, .int (nI p))] nd_EN_dropLeftKey_1 (by decide) rfl ?_
  refine hm_lv (lv' := [(2, .int (nI p)), (0, .ref a), (1, .int (nI p))]) rfl ?_
  have e0 : M = hm_up M lk (hm_ar D 2 8 (fun j => if j < p then f j else if j < p then f (j + 1) else f j)) := by
    funext z
    by_cases hz : z = lk
    · subst hz
      rw [hm_up_s, hlk]
      congr 3
      funext j
      by_cases h : j < p
      · rw [if_pos h]
      · rw [if_neg h, if_neg h]
    · rw [hm_up_n _ _ hz]
  refine hm_eqM e0 ?_
  exact loop m p (by omega) (Nat.le_refl p) (by omega)
end
section
set_option maxHeartbeats 4000000 in
set_option maxRecDepth 100000 in
theorem ct_EN_leave {l : Launch} {D : va_G} {BG : Nat → Option Cell} (M : hm_M) (a lk : Nat) (bs ro mi th sc : Option Nat) (st bf : Int32) (rc : Option Nat) (nx : Int32) (m : Nat) (f : Nat → Option Nat) (ha : M a = some (hm_ob 3 [va_rf bs, va_rf ro, va_rf mi, va_rf th, va_rf sc, .int st, .int bf, va_rf rc, .int nx, .ref lk, .int (nI m)])) (hlk : M lk = some (hm_ar D 2 8 f)) (hm8 : m ≤ 8) (hel : ∀ i, i < m → ∃ b vs, f i = some b ∧ M b = some (hm_ob 4 vs)) (hno : ∀ i, m ≤ i → f i = none) (b : Nat) (vs : List Value) (hb : M b = some (hm_ob 4 vs)) : hm_ct l D BG ny_EN_leave prog_2_method_10_code 2 none 1 22 0 0 [.ref a, .ref b] M (fun r M' => r = none ∧ M' = hm_up (hm_up M lk (hm_ar D 2 8 (va_up (fun i => f (if m = 8 then i + 1 else i)) (if m = 8 then 7 else m) (some b)))) a (hm_ob 3 [va_rf bs, va_rf ro, va_rf mi, va_rf th, va_rf sc, .int st, .int bf, va_rf rc, .int nx, .ref lk, .int (nI ((if m = 8 then 7 else m) + 1))])) := by
  refine hm_ct_of (by decide +kernel) (by exact Nat.le_of_ble_eq_true rfl) ?_
  intro X C E
  have C : hm_C X l D BG prog_2_method_10_code "TurnedKeys$End" "leave" 2 1 22 0 0 := C
  refine hm_lv (lv' := [(0, .ref a), (1, .ref b)]) rfl ?_
  refine hm_aload_n C nd_EN_leave_0 rfl ?_
  refine hm_get C nF_EN_53 ha rfl nd_EN_leave_1 ?_
  refine hm_bipush (v := 8) C nd_EN_leave_4 (by decide) ?_
  have h8 : (8 : Int32) = nI 8 := rfl
  refine hm_icmp_lt (tgt := 14) C nd_EN_leave_6 (by decide) (fun c1 => ?_) (fun c1 => ?_)
  · have hm7 : ¬ m = 8 := fun h => by rw [h] at c1; exact absurd c1 (by decide)
    have hb0 : M b = some (hm_ob 4 vs) := hb
    refine hm_aload_n C nd_EN_leave_14 rfl ?_
    refine hm_get C nF_EN_11 ha rfl nd_EN_leave_15 ?_
    refine hm_aload_n C nd_EN_leave_18 rfl ?_
    refine hm_get C nF_EN_53 ha rfl nd_EN_leave_19 ?_
    refine hm_aload_n C nd_EN_leave_22 rfl ?_
    refine hm_aast C (t := 2) (j := m) rfl hlk hb0 rfl (Or.inl rfl) rfl (by omega) (by omega) nd_EN_leave_23 ?_
    generalize hM1 : hm_up M lk (hm_ar D 2 8 (va_up f m (some b))) = M1
    have fM1_0 : M1 a = some (hm_ob 3 [va_rf bs, va_rf ro, va_rf mi, va_rf th, va_rf sc, .int st, .int bf, va_rf rc, .int nx, .ref lk, .int (nI m)]) := by rw [← hM1, hm_up_n _ _ (hm_neA ha hlk)]; exact ha
    have aM1_0 : M1 lk = some (hm_ar D 2 8 (va_up f m (some b))) := by rw [← hM1]; exact hm_up_s _ _ _
    refine hm_aload_n C nd_EN_leave_24 rfl ?_
    refine hm_dup C nd_EN_leave_25 rfl ?_
    refine hm_get C nF_EN_53 fM1_0 rfl nd_EN_leave_26 ?_
    refine hm_iconst (v := 1) C nd_EN_leave_29 (by decide) ?_
    refine hm_iadd C nd_EN_leave_30 ?_
    rw [nI_1]
    refine hm_put C nF_EN_53 fM1_0 (Nat.le_of_ble_eq_true rfl) rfl rfl nd_EN_leave_31 ?_
    refine hm_eqM (M' := hm_up M1 a (hm_ob 3 [va_rf bs, va_rf ro, va_rf mi, va_rf th, va_rf sc, .int st, .int bf, va_rf rc, .int nx, .ref lk, .int (nI (m + 1))])) rfl ?_
    generalize hM2 : hm_up M1 a (hm_ob 3 [va_rf bs, va_rf ro, va_rf mi, va_rf th, va_rf sc, .int st, .int bf, va_rf rc, .int nx, .ref lk, .int (nI (m + 1))]) = M2
    have aM2_0 : M2 lk = some (hm_ar D 2 8 (va_up f m (some b))) := by rw [← hM2, hm_up_n _ _ (Ne.symm (hm_neA fM1_0 aM1_0))]; exact aM1_0
    have fM2_0 : M2 a = some (hm_ob 3 [va_rf bs, va_rf ro, va_rf mi, va_rf th, va_rf sc, .int st, .int bf, va_rf rc, .int nx, .ref lk, .int (nI (m + 1))]) := by rw [← hM2]; exact hm_up_s _ _ _
    exact hm_vret C E (by omega) (by omega) (⟨rfl, by rw [← hM2, ← hM1, if_neg hm7]; congr 4; funext i; rw [if_neg hm7]⟩) nd_EN_leave_34
  · have hm8e : m = 8 := by
      rcases Nat.lt_or_ge m 8 with h | h
      · exact absurd (show nI m < nI 8 from nI_lt h (by omega)) c1
      · omega
    refine hm_aload_n C nd_EN_leave_9 rfl ?_
    refine hm_iconst (v := 0) C nd_EN_leave_10 (by decide) ?_
    refine hm_stk (st' := [.int (nI 0), .ref a]) rfl ?_
    refine hm_callV C (ct_EN_dropLeftKey M a lk bs ro mi th sc st bf rc nx m f ha hlk hm8 hel 0 (by omega) hno) nV_EN_dropLeftKey [.int (nI 0)] rfl ha rfl nq_EN_109 nj_EN_dropLeftKey nx_EN_dropLeftKey rfl (rest := []) rfl (Nat.le_of_ble_eq_true rfl) (by decide) (by decide) (by omega) (by omega) nd_EN_leave_11 (fun r M3 hp => ?_)
    obtain ⟨rfl, e1⟩ := hp
    have hal : a ≠ lk := hm_neA ha hlk
    have ha1 : M3 a = some (hm_ob 3 [va_rf bs, va_rf ro, va_rf mi, va_rf th, va_rf sc, .int st, .int bf, va_rf rc, .int nx, .ref lk, .int (nI 7)]) := by rw [e1, hm_up_s, hm8e]
    have hl1 : M3 lk = some (hm_ar D 2 8 (fun i => f (i + 1))) := by
      rw [e1, hm_up_n _ _ (Ne.symm hal), hm_up_s]
      rfl
    have hb1 : M3 b = some (hm_ob 4 vs) := by rw [e1, hm_up_n _ _ (hm_ne hb ha (by decide)), hm_up_n _ _ (hm_neA hb hlk)]; exact hb
    refine hm_stk (st' := []) rfl ?_
    refine hm_aload_n C nd_EN_leave_14 rfl ?_
    refine hm_get C nF_EN_11 ha1 rfl nd_EN_leave_15 ?_
    refine hm_aload_n C nd_EN_leave_18 rfl ?_
    refine hm_get C nF_EN_53 ha1 rfl nd_EN_leave_19 ?_
    refine hm_aload_n C nd_EN_leave_22 rfl ?_
    refine hm_aast C (t := 2) (j := 7) rfl hl1 hb1 rfl (Or.inl rfl) rfl (by omega) (by omega) nd_EN_leave_23 ?_
    generalize hM4 : hm_up M3 lk (hm_ar D 2 8 (va_up (fun i => f (i + 1)) 7 (some b))) = M4
    have fM4_0 : M4 a = some (hm_ob 3 [va_rf bs, va_rf ro, va_rf mi, va_rf th, va_rf sc, .int st, .int bf, va_rf rc, .int nx, .ref lk, .int (nI 7)]) := by rw [← hM4, hm_up_n _ _ (hm_neA ha1 hl1)]; exact ha1
    have aM4_0 : M4 lk = some (hm_ar D 2 8 (va_up (fun i => f (i + 1)) 7 (some b))) := by rw [← hM4]; exact hm_up_s _ _ _
    refine hm_aload_n C nd_EN_leave_24 rfl ?_
    refine hm_dup C nd_EN_leave_25 rfl ?_
    refine hm_get C nF_EN_53 fM4_0 rfl nd_EN_leave_26 ?_
    refine hm_iconst (v := 1) C nd_EN_leave_29 (by decide) ?_
    refine hm_iadd C nd_EN_leave_30 ?_
    rw [nI_1]
    refine hm_put C nF_EN_53 fM4_0 (Nat.le_of_ble_eq_true rfl) rfl rfl nd_EN_leave_31 ?_
    refine hm_eqM (M' := hm_up M4 a (hm_ob 3 [va_rf bs, va_rf ro, va_rf mi, va_rf th, va_rf sc, .int st, .int bf, va_rf rc, .int nx, .ref lk, .int (nI (7 + 1))])) rfl ?_
    generalize hM5 : hm_up M4 a (hm_ob 3 [va_rf bs, va_rf ro, va_rf mi, va_rf th, va_rf sc, .int st, .int bf, va_rf rc, .int nx, .ref lk, .int (nI (7 + 1))]) = M5
    have aM5_0 : M5 lk = some (hm_ar D 2 8 (va_up (fun i => f (i + 1)) 7 (some b))) := by rw [← hM5, hm_up_n _ _ (Ne.symm (hm_neA fM4_0 aM4_0))]; exact aM4_0
    have fM5_0 : M5 a = some (hm_ob 3 [va_rf bs, va_rf ro, va_rf mi, va_rf th, va_rf sc, .int st, .int bf, va_rf rc, .int nx, .ref lk, .int (nI (7 + 1))]) := by rw [← hM5]; exact hm_up_s _ _ _
    exact hm_vret C E (by omega) (by omega) (⟨rfl, by rw [← hM5, ← hM4, e1, hm_up_cm (a := lk) (b := a) (Ne.symm hal), hm_up_up, hm_up_up]; subst hm8e; rfl⟩) nd_EN_leave_34
set_option maxHeartbeats 4000000 in
set_option maxRecDepth 100000 in
theorem ct_EN_pulledLeftKey {l : Launch} {D : va_G} {BG : Nat → Option Cell} (M : hm_M) (a lk : Nat) (bs ro mi th sc : Option Nat) (st bf : Int32) (rc : Option Nat) (nx : Int32) (m : Nat) (f : Nat → Option Nat) (ha : M a = some (hm_ob 3 [va_rf bs, va_rf ro, va_rf mi, va_rf th, va_rf sc, .int st, .int bf, va_rf rc, .int nx, .ref lk, .int (nI m)])) (hlk : M lk = some (hm_ar D 2 8 f)) (hm8 : m ≤ 8) (pkf : Nat → Option Nat) (ixf : Nat → Nat) (kyf : Nat → Option Nat) (hel : ∀ i, i < m → ixf i < 2 ^ 31 ∧ ∃ b, f i = some b ∧ M b = some (hm_ob 4 [va_rf (pkf i), .int (nI (ixf i)), va_rf (kyf i)])) (hno : ∀ i, m ≤ i → f i = none) (pk : Option Nat) (ix : Nat) (hix : ix < 2 ^ 31) : hm_ct l D BG ny_EN_pulledLeftKey prog_2_method_11_code 5 (some (.object "TurnedKeys$Term")) 1 22 0 0 [.ref a, va_rf pk, .int (nI ix)] M (fun r M' => (∃ i, i < m ∧ pkf i = pk ∧ ixf i = ix ∧ (∀ j, j < i → ¬ (pkf j = pk ∧ ixf j = ix)) ∧ r = some (va_rf (kyf i)) ∧ M' = hm_up (hm_up M lk (hm_ar D 2 8 (fun z => if z < i then f z else f (z + 1)))) a (hm_ob 3 [va_rf bs, va_rf ro, va_rf mi, va_rf th, va_rf sc, .int st, .int bf, va_rf rc, .int nx, .ref lk, .int (nI (m - 1))])) ∨ ((∀ j, j < m → ¬ (pkf j = pk ∧ ixf j = ix)) ∧ r = some (va_rf none) ∧ M' = M)) := by
  refine hm_ct_of (by decide +kernel) (by simp [lg_sl, hm_cat, hm_catI, hm_catR, hm_catN]) ?_
  intro X C E
  have C : hm_C X l D BG prog_2_method_11_code "TurnedKeys$End" "pulledLeftKey" 5 1 22 0 0 := C
  have loop : ∀ (u i : Nat) (lv : List (Nat × Value)), m ≤ i + u → i ≤ m → (∀ j, j < i → ¬ (pkf j = pk ∧ ixf j = ix)) → (∀ q, q ∈ [(3, Value.int (nI i)), (0, .ref a), (1, va_rf pk), (2, .int (nI ix))] → q ∈ lv) → hm_W X M 0 0 2 lv [] := by
    intro u
    induction u with
    | zero =>
        intro i lv hu him hpre hlv
        refine hm_less (lv' := [(3, .int (nI i)), (0, .ref a), (1, va_rf pk), (2, .int (nI ix))]) hlv ?_
        refine hm_iload_n C nd_EN_pulledLeftKey_2 rfl ?_
        refine hm_aload_n C nd_EN_pulledLeftKey_3 rfl ?_
        refine hm_get C nF_EN_53 ha rfl nd_EN_pulledLeftKey_4 ?_
        refine hm_icmp_ge (tgt := 58) C nd_EN_pulledLeftKey_7 (by decide) (fun c1 => ?_) (fun c1 => absurd (nI_le (show m ≤ i by omega) (by omega)) c1)
        refine hm_null C nd_EN_pulledLeftKey_58 ?_
        exact hm_aret (r := none) C E (Or.inl ⟨_, rfl⟩) (by omega) (by omega) (Or.inr ⟨fun j hj => hpre j (by omega), rfl, rfl⟩) nd_EN_pulledLeftKey_59
    | succ u ih =>
        intro i lv hu him hpre hlv
        refine hm_less (lv' := [(3, .int (nI i)), (0, .ref a), (1, va_rf pk), (2, .int (nI ix))]) hlv ?_
        refine hm_iload_n C nd_EN_pulledLeftKey_2 rfl ?_
        refine hm_aload_n C nd_EN_pulledLeftKey_3 rfl ?_
        refine hm_get C nF_EN_53 ha rfl nd_EN_pulledLeftKey_4 ?_
        refine hm_icmp_ge (tgt := 58) C nd_EN_pulledLeftKey_7 (by decide) (fun c1 => ?_) (fun c1 => ?_)
        · have him2 : m ≤ i := by
            rcases Nat.lt_or_ge i m with h | h
            · exact absurd c1 (nI_ge h (by omega))
            · exact h
          refine hm_null C nd_EN_pulledLeftKey_58 ?_
          exact hm_aret (r := none) C E (Or.inl ⟨_, rfl⟩) (by omega) (by omega) (Or.inr ⟨fun j hj => hpre j (by omega), rfl, rfl⟩) nd_EN_pulledLeftKey_59
        · have him2 : i < m := by
            rcases Nat.lt_or_ge i m with h | h
            · exact h
            · exact absurd (nI_le h (by omega)) c1
          obtain ⟨hx1, b, hb1, hb2⟩ := hel i him2
          refine hm_aload_n C nd_EN_pulledLeftKey_10 rfl ?_
          refine hm_get C nF_EN_11 ha rfl nd_EN_pulledLeftKey_11 ?_
          refine hm_iload_n C nd_EN_pulledLeftKey_14 rfl ?_
          refine hm_aald C (t := 2) (j := i) rfl hlk rfl (by omega) (by omega) nd_EN_pulledLeftKey_15 ?_
          refine hm_stk (st' := [.ref b]) (by rw [hb1]; rfl) ?_
          refine hm_astore C [(4, .ref b), (3, .int (nI i)), (0, .ref a), (1, va_rf pk), (2, .int (nI ix))] nd_EN_pulledLeftKey_16 (by decide) (by simp [hm_cat, hm_catI, hm_catR, hm_catN] <;> decide) ?_
          have next : ¬ (pkf i = pk ∧ ixf i = ix) → hm_W X M 0 0 52 [(4, .ref b), (3, .int (nI i)), (0, .ref a), (1, va_rf pk), (2, .int (nI ix))] [] := by
            intro hne
            refine hm_iinc (x := (nI i)) (v := ((nI i) + 1)) C [(3, .int ((nI i) + 1)), (4, .ref b), (0, .ref a), (1, va_rf pk), (2, .int (nI ix))] nd_EN_pulledLeftKey_52 rfl rfl (by decide) (by simp [hm_cat, hm_catI, hm_catR, hm_catN] <;> decide) ?_
            refine hm_goto (tgt := 2) C nd_EN_pulledLeftKey_55 (by decide) ?_
            rw [nI_1]
            exact ih (i + 1) _ (by omega) (by omega) (fun j hj => by
              by_cases e : j = i
              · rw [e]; exact hne
              · exact hpre j (by omega)) (by intro q hq; simp at hq ⊢; rcases hq with h | h | h | h <;> simp [h])
          refine hm_aload C nd_EN_pulledLeftKey_18 rfl ?_
          refine hm_ifnull (tgt := 52) (r := (some b)) C nd_EN_pulledLeftKey_20 (by decide) (fun h => by cases h) (fun _ => ?_)
          refine hm_aload C nd_EN_pulledLeftKey_23 rfl ?_
          refine hm_get C nF_EN_113 hb2 rfl nd_EN_pulledLeftKey_25 ?_
          refine hm_aload_nQ (r := pk) C nd_EN_pulledLeftKey_28 rfl ?_
          refine hm_acmp_ne (tgt := 52) (rx := (pkf i)) (ry := pk) C nd_EN_pulledLeftKey_29 (by decide) (fun c2 => ?_) (fun c2 => ?_)
          · exact next (fun h => c2 h.1)
          · refine hm_aload C nd_EN_pulledLeftKey_32 rfl ?_
            refine hm_get C nF_EN_114 hb2 rfl nd_EN_pulledLeftKey_34 ?_
            refine hm_iload_n C nd_EN_pulledLeftKey_37 rfl ?_
            refine hm_icmp_ne (tgt := 52) C nd_EN_pulledLeftKey_38 (by decide) (fun c3 => ?_) (fun c3 => ?_)
            · exact next (fun h => c3 (by rw [h.2]))
            · have m2 : ixf i = ix := (nI_eq hx1 hix).mp c3
              refine hm_aload_n C nd_EN_pulledLeftKey_41 rfl ?_
              refine hm_iload_n C nd_EN_pulledLeftKey_42 rfl ?_
              refine hm_callV C (ct_EN_dropLeftKey M a lk bs ro mi th sc st bf rc nx m f ha hlk hm8 (fun z hz => (by obtain ⟨-, b9, h1, h2⟩ := hel z hz; exact ⟨b9, _, h1, h2⟩)) i him2 hno) nV_EN_dropLeftKey [.int (nI i)] rfl ha rfl nq_EN_109 nj_EN_dropLeftKey nx_EN_dropLeftKey rfl (rest := []) rfl (Nat.le_of_ble_eq_true rfl) (by decide) (by decide) (by omega) (by omega) nd_EN_pulledLeftKey_43 (fun r M1 hp => ?_)
              obtain ⟨rfl, e1⟩ := hp
              have hb3 : M1 b = some (hm_ob 4 [va_rf (pkf i), .int (nI (ixf i)), va_rf (kyf i)]) := by rw [e1, hm_up_n _ _ (hm_ne hb2 ha (by decide)), hm_up_n _ _ (hm_neA hb2 hlk)]; exact hb2
              refine hm_stk (st' := []) rfl ?_
              refine hm_aload C nd_EN_pulledLeftKey_46 rfl ?_
              refine hm_get C nF_EN_115 hb3 rfl nd_EN_pulledLeftKey_48 ?_
              exact hm_aret (r := (kyf i)) C E (Or.inl ⟨_, rfl⟩) (by omega) (by omega) (Or.inl ⟨i, him2, c2, m2, hpre, rfl, e1⟩) nd_EN_pulledLeftKey_51
  refine hm_lv (lv' := [(0, .ref a), (1, va_rf pk), (2, .int (nI ix))]) (by simp [lv_args, hm_cat, hm_catI, hm_catR, hm_catN]) ?_
  refine hm_iconst (v := 0) C nd_EN_pulledLeftKey_0 (by decide) ?_
  refine hm_istore_n C [(3, .int 0), (0, .ref a), (1, va_rf pk), (2, .int (nI ix))] nd_EN_pulledLeftKey_1 (by decide) (by simp [hm_cat, hm_catI, hm_catR, hm_catN] <;> decide) ?_
  exact loop m 0 _ (by omega) (by omega) (fun j hj => by omega) (fun q hq => hq)
set_option maxHeartbeats 4000000 in
set_option maxRecDepth 100000 in
theorem ct_EN_become {l : Launch} {D : va_G} {BG : Nat → Option Cell} (M : hm_M) (a lk : Nat) (bs ro mi th sc : Option Nat) (st bf : Int32) (rc : Option Nat) (nx lf0 : Int32) (f : Nat → Option Nat) (ha : M a = some (hm_ob 3 [va_rf bs, va_rf ro, va_rf mi, va_rf th, va_rf sc, .int st, .int bf, va_rf rc, .int nx, .ref lk, .int lf0])) (hlk : M lk = some (hm_ar D 2 8 f)) (b lk2 : Nat) (bs2 ro2 mi2 th2 sc2 : Option Nat) (st2 bf2 : Int32) (rc2 : Option Nat) (nx2 lf2 : Int32) (f2 : Nat → Option Nat) (hb : M b = some (hm_ob 3 [va_rf bs2, va_rf ro2, va_rf mi2, va_rf th2, va_rf sc2, .int st2, .int bf2, va_rf rc2, .int nx2, .ref lk2, .int lf2])) (hlk2 : M lk2 = some (hm_ar D 2 8 f2)) (hab : a ≠ b) (hll : lk ≠ lk2) (hel : ∀ i, i < 8 → ∀ z, f2 i = some z → ∃ vs, M z = some (hm_ob 4 vs)) : hm_ct l D BG ny_EN_become prog_2_method_3_code 3 none 0 0 0 0 [.ref a, .ref b] M (fun r M' => r = none ∧ M' = hm_up (hm_up M lk (hm_ar D 2 8 (fun j => if j < 8 then f2 j else f j))) a (hm_ob 3 [va_rf bs2, va_rf ro2, va_rf mi2, va_rf th2, va_rf sc2, .int st2, .int bf2, va_rf rc2, .int nx2, .ref lk, .int lf2])) := by
  refine hm_ct_of (by decide +kernel) (by exact Nat.le_of_ble_eq_true rfl) ?_
  intro X C E
  have C : hm_C X l D BG prog_2_method_3_code "TurnedKeys$End" "become" 3 0 0 0 0 := C
  refine hm_lv (lv' := [(0, .ref a), (1, .ref b)]) rfl ?_
  refine hm_aload_n C nd_EN_become_0 rfl ?_
  refine hm_aload_n C nd_EN_become_1 rfl ?_
  refine hm_get C nF_EN_17 hb rfl nd_EN_become_2 ?_
  refine hm_put C nF_EN_17 ha (Nat.le_of_ble_eq_true rfl) (hm_narq _ _) (hm_fitq _ _) nd_EN_become_5 ?_
  refine hm_eqM (M' := hm_up M a (hm_ob 3 [va_rf bs2, va_rf ro, va_rf mi, va_rf th, va_rf sc, .int st, .int bf, va_rf rc, .int nx, .ref lk, .int lf0])) rfl ?_
  generalize hM1 : hm_up M a (hm_ob 3 [va_rf bs2, va_rf ro, va_rf mi, va_rf th, va_rf sc, .int st, .int bf, va_rf rc, .int nx, .ref lk, .int lf0]) = M1
  have fM1_0 : M1 b = some (hm_ob 3 [va_rf bs2, va_rf ro2, va_rf mi2, va_rf th2, va_rf sc2, .int st2, .int bf2, va_rf rc2, .int nx2, .ref lk2, .int lf2]) := by rw [← hM1, hm_up_n _ _ (Ne.symm hab)]; exact hb
  have aM1_0 : M1 lk = some (hm_ar D 2 8 f) := by rw [← hM1, hm_up_n _ _ (Ne.symm (hm_neA ha hlk))]; exact hlk
  have aM1_1 : M1 lk2 = some (hm_ar D 2 8 f2) := by rw [← hM1, hm_up_n _ _ (Ne.symm (hm_neA ha hlk2))]; exact hlk2
  have fM1_1 : M1 a = some (hm_ob 3 [va_rf bs2, va_rf ro, va_rf mi, va_rf th, va_rf sc, .int st, .int bf, va_rf rc, .int nx, .ref lk, .int lf0]) := by rw [← hM1]; exact hm_up_s _ _ _
  refine hm_aload_n C nd_EN_become_8 rfl ?_
  refine hm_aload_n C nd_EN_become_9 rfl ?_
  refine hm_get C nF_EN_21 fM1_0 rfl nd_EN_become_10 ?_
  refine hm_put C nF_EN_21 fM1_1 (Nat.le_of_ble_eq_true rfl) (hm_narq _ _) (hm_fitq _ _) nd_EN_become_13 ?_
  refine hm_eqM (M' := hm_up M1 a (hm_ob 3 [va_rf bs2, va_rf ro2, va_rf mi, va_rf th, va_rf sc, .int st, .int bf, va_rf rc, .int nx, .ref lk, .int lf0])) rfl ?_
  generalize hM2 : hm_up M1 a (hm_ob 3 [va_rf bs2, va_rf ro2, va_rf mi, va_rf th, va_rf sc, .int st, .int bf, va_rf rc, .int nx, .ref lk, .int lf0]) = M2
  have fM2_0 : M2 b = some (hm_ob 3 [va_rf bs2, va_rf ro2, va_rf mi2, va_rf th2, va_rf sc2, .int st2, .int bf2, va_rf rc2, .int nx2, .ref lk2, .int lf2]) := by rw [← hM2, hm_up_n _ _ (Ne.symm hab)]; exact fM1_0
  have aM2_0 : M2 lk = some (hm_ar D 2 8 f) := by rw [← hM2, hm_up_n _ _ (Ne.symm (hm_neA fM1_1 aM1_0))]; exact aM1_0
  have aM2_1 : M2 lk2 = some (hm_ar D 2 8 f2) := by rw [← hM2, hm_up_n _ _ (Ne.symm (hm_neA fM1_1 aM1_1))]; exact aM1_1
  have fM2_1 : M2 a = some (hm_ob 3 [va_rf bs2, va_rf ro2, va_rf mi, va_rf th, va_rf sc, .int st, .int bf, va_rf rc, .int nx, .ref lk, .int lf0]) := by rw [← hM2]; exact hm_up_s _ _ _
  refine hm_aload_n C nd_EN_become_16 rfl ?_
  refine hm_aload_n C nd_EN_become_17 rfl ?_
  refine hm_get C nF_EN_24 fM2_0 rfl nd_EN_become_18 ?_
  refine hm_put C nF_EN_24 fM2_1 (Nat.le_of_ble_eq_true rfl) (hm_narq _ _) (hm_fitq _ _) nd_EN_become_21 ?_
  refine hm_eqM (M' := hm_up M2 a (hm_ob 3 [va_rf bs2, va_rf ro2, va_rf mi2, va_rf th, va_rf sc, .int st, .int bf, va_rf rc, .int nx, .ref lk, .int lf0])) rfl ?_
  generalize hM3 : hm_up M2 a (hm_ob 3 [va_rf bs2, va_rf ro2, va_rf mi2, va_rf th, va_rf sc, .int st, .int bf, va_rf rc, .int nx, .ref lk, .int lf0]) = M3
  have fM3_0 : M3 b = some (hm_ob 3 [va_rf bs2, va_rf ro2, va_rf mi2, va_rf th2, va_rf sc2, .int st2, .int bf2, va_rf rc2, .int nx2, .ref lk2, .int lf2]) := by rw [← hM3, hm_up_n _ _ (Ne.symm hab)]; exact fM2_0
  have aM3_0 : M3 lk = some (hm_ar D 2 8 f) := by rw [← hM3, hm_up_n _ _ (Ne.symm (hm_neA fM2_1 aM2_0))]; exact aM2_0
  have aM3_1 : M3 lk2 = some (hm_ar D 2 8 f2) := by rw [← hM3, hm_up_n _ _ (Ne.symm (hm_neA fM2_1 aM2_1))]; exact aM2_1
  have fM3_1 : M3 a = some (hm_ob 3 [va_rf bs2, va_rf ro2, va_rf mi2, va_rf th, va_rf sc, .int st, .int bf, va_rf rc, .int nx, .ref lk, .int lf0]) := by rw [← hM3]; exact hm_up_s _ _ _
  refine hm_aload_n C nd_EN_become_24 rfl ?_
  refine hm_aload_n C nd_EN_become_25 rfl ?_
  refine hm_get C nF_EN_34 fM3_0 rfl nd_EN_become_26 ?_
  refine hm_put C nF_EN_34 fM3_1 (Nat.le_of_ble_eq_true rfl) (hm_narq _ _) (hm_fitq _ _) nd_EN_become_29 ?_
  refine hm_eqM (M' := hm_up M3 a (hm_ob 3 [va_rf bs2, va_rf ro2, va_rf mi2, va_rf th2, va_rf sc, .int st, .int bf, va_rf rc, .int nx, .ref lk, .int lf0])) rfl ?_
  generalize hM4 : hm_up M3 a (hm_ob 3 [va_rf bs2, va_rf ro2, va_rf mi2, va_rf th2, va_rf sc, .int st, .int bf, va_rf rc, .int nx, .ref lk, .int lf0]) = M4
  have fM4_0 : M4 b = some (hm_ob 3 [va_rf bs2, va_rf ro2, va_rf mi2, va_rf th2, va_rf sc2, .int st2, .int bf2, va_rf rc2, .int nx2, .ref lk2, .int lf2]) := by rw [← hM4, hm_up_n _ _ (Ne.symm hab)]; exact fM3_0
  have aM4_0 : M4 lk = some (hm_ar D 2 8 f) := by rw [← hM4, hm_up_n _ _ (Ne.symm (hm_neA fM3_1 aM3_0))]; exact aM3_0
  have aM4_1 : M4 lk2 = some (hm_ar D 2 8 f2) := by rw [← hM4, hm_up_n _ _ (Ne.symm (hm_neA fM3_1 aM3_1))]; exact aM3_1
  have fM4_1 : M4 a = some (hm_ob 3 [va_rf bs2, va_rf ro2, va_rf mi2, va_rf th2, va_rf sc, .int st, .int bf, va_rf rc, .int nx, .ref lk, .int lf0]) := by rw [← hM4]; exact hm_up_s _ _ _
  refine hm_aload_n C nd_EN_become_32 rfl ?_
  refine hm_aload_n C nd_EN_become_33 rfl ?_
  refine hm_get C nF_EN_37 fM4_0 rfl nd_EN_become_34 ?_
  refine hm_put C nF_EN_37 fM4_1 (Nat.le_of_ble_eq_true rfl) (hm_narq _ _) (hm_fitq _ _) nd_EN_become_37 ?_
  refine hm_eqM (M' := hm_up M4 a (hm_ob 3 [va_rf bs2, va_rf ro2, va_rf mi2, va_rf th2, va_rf sc2, .int st, .int bf, va_rf rc, .int nx, .ref lk, .int lf0])) rfl ?_
  generalize hM5 : hm_up M4 a (hm_ob 3 [va_rf bs2, va_rf ro2, va_rf mi2, va_rf th2, va_rf sc2, .int st, .int bf, va_rf rc, .int nx, .ref lk, .int lf0]) = M5
  have fM5_0 : M5 b = some (hm_ob 3 [va_rf bs2, va_rf ro2, va_rf mi2, va_rf th2, va_rf sc2, .int st2, .int bf2, va_rf rc2, .int nx2, .ref lk2, .int lf2]) := by rw [← hM5, hm_up_n _ _ (Ne.symm hab)]; exact fM4_0
  have aM5_0 : M5 lk = some (hm_ar D 2 8 f) := by rw [← hM5, hm_up_n _ _ (Ne.symm (hm_neA fM4_1 aM4_0))]; exact aM4_0
  have aM5_1 : M5 lk2 = some (hm_ar D 2 8 f2) := by rw [← hM5, hm_up_n _ _ (Ne.symm (hm_neA fM4_1 aM4_1))]; exact aM4_1
  have fM5_1 : M5 a = some (hm_ob 3 [va_rf bs2, va_rf ro2, va_rf mi2, va_rf th2, va_rf sc2, .int st, .int bf, va_rf rc, .int nx, .ref lk, .int lf0]) := by rw [← hM5]; exact hm_up_s _ _ _
  refine hm_aload_n C nd_EN_become_40 rfl ?_
  refine hm_aload_n C nd_EN_become_41 rfl ?_
  refine hm_get C nF_EN_40 fM5_0 rfl nd_EN_become_42 ?_
  refine hm_put C nF_EN_40 fM5_1 (Nat.le_of_ble_eq_true rfl) rfl rfl nd_EN_become_45 ?_
  refine hm_eqM (M' := hm_up M5 a (hm_ob 3 [va_rf bs2, va_rf ro2, va_rf mi2, va_rf th2, va_rf sc2, .int st2, .int bf, va_rf rc, .int nx, .ref lk, .int lf0])) rfl ?_
  generalize hM6 : hm_up M5 a (hm_ob 3 [va_rf bs2, va_rf ro2, va_rf mi2, va_rf th2, va_rf sc2, .int st2, .int bf, va_rf rc, .int nx, .ref lk, .int lf0]) = M6
  have fM6_0 : M6 b = some (hm_ob 3 [va_rf bs2, va_rf ro2, va_rf mi2, va_rf th2, va_rf sc2, .int st2, .int bf2, va_rf rc2, .int nx2, .ref lk2, .int lf2]) := by rw [← hM6, hm_up_n _ _ (Ne.symm hab)]; exact fM5_0
  have aM6_0 : M6 lk = some (hm_ar D 2 8 f) := by rw [← hM6, hm_up_n _ _ (Ne.symm (hm_neA fM5_1 aM5_0))]; exact aM5_0
  have aM6_1 : M6 lk2 = some (hm_ar D 2 8 f2) := by rw [← hM6, hm_up_n _ _ (Ne.symm (hm_neA fM5_1 aM5_1))]; exact aM5_1
  have fM6_1 : M6 a = some (hm_ob 3 [va_rf bs2, va_rf ro2, va_rf mi2, va_rf th2, va_rf sc2, .int st2, .int bf, va_rf rc, .int nx, .ref lk, .int lf0]) := by rw [← hM6]; exact hm_up_s _ _ _
  refine hm_aload_n C nd_EN_become_48 rfl ?_
  refine hm_aload_n C nd_EN_become_49 rfl ?_
  refine hm_get C nF_EN_44 fM6_0 rfl nd_EN_become_50 ?_
  refine hm_put C nF_EN_44 fM6_1 (Nat.le_of_ble_eq_true rfl) rfl rfl nd_EN_become_53 ?_
  refine hm_eqM (M' := hm_up M6 a (hm_ob 3 [va_rf bs2, va_rf ro2, va_rf mi2, va_rf th2, va_rf sc2, .int st2, .int bf2, va_rf rc, .int nx, .ref lk, .int lf0])) rfl ?_
  generalize hM7 : hm_up M6 a (hm_ob 3 [va_rf bs2, va_rf ro2, va_rf mi2, va_rf th2, va_rf sc2, .int st2, .int bf2, va_rf rc, .int nx, .ref lk, .int lf0]) = M7
  have fM7_0 : M7 b = some (hm_ob 3 [va_rf bs2, va_rf ro2, va_rf mi2, va_rf th2, va_rf sc2, .int st2, .int bf2, va_rf rc2, .int nx2, .ref lk2, .int lf2]) := by rw [← hM7, hm_up_n _ _ (Ne.symm hab)]; exact fM6_0
  have aM7_0 : M7 lk = some (hm_ar D 2 8 f) := by rw [← hM7, hm_up_n _ _ (Ne.symm (hm_neA fM6_1 aM6_0))]; exact aM6_0
  have aM7_1 : M7 lk2 = some (hm_ar D 2 8 f2) := by rw [← hM7, hm_up_n _ _ (Ne.symm (hm_neA fM6_1 aM6_1))]; exact aM6_1
  have fM7_1 : M7 a = some (hm_ob 3 [va_rf bs2, va_rf ro2, va_rf mi2, va_rf th2, va_rf sc2, .int st2, .int bf2, va_rf rc, .int nx, .ref lk, .int lf0]) := by rw [← hM7]; exact hm_up_s _ _ _
  refine hm_aload_n C nd_EN_become_56 rfl ?_
  refine hm_aload_n C nd_EN_become_57 rfl ?_
  refine hm_get C nF_EN_47 fM7_0 rfl nd_EN_become_58 ?_
  refine hm_put C nF_EN_47 fM7_1 (Nat.le_of_ble_eq_true rfl) (hm_narq _ _) (hm_fitq _ _) nd_EN_become_61 ?_
  refine hm_eqM (M' := hm_up M7 a (hm_ob 3 [va_rf bs2, va_rf ro2, va_rf mi2, va_rf th2, va_rf sc2, .int st2, .int bf2, va_rf rc2, .int nx, .ref lk, .int lf0])) rfl ?_
  generalize hM8 : hm_up M7 a (hm_ob 3 [va_rf bs2, va_rf ro2, va_rf mi2, va_rf th2, va_rf sc2, .int st2, .int bf2, va_rf rc2, .int nx, .ref lk, .int lf0]) = M8
  have fM8_0 : M8 b = some (hm_ob 3 [va_rf bs2, va_rf ro2, va_rf mi2, va_rf th2, va_rf sc2, .int st2, .int bf2, va_rf rc2, .int nx2, .ref lk2, .int lf2]) := by rw [← hM8, hm_up_n _ _ (Ne.symm hab)]; exact fM7_0
  have aM8_0 : M8 lk = some (hm_ar D 2 8 f) := by rw [← hM8, hm_up_n _ _ (Ne.symm (hm_neA fM7_1 aM7_0))]; exact aM7_0
  have aM8_1 : M8 lk2 = some (hm_ar D 2 8 f2) := by rw [← hM8, hm_up_n _ _ (Ne.symm (hm_neA fM7_1 aM7_1))]; exact aM7_1
  have fM8_1 : M8 a = some (hm_ob 3 [va_rf bs2, va_rf ro2, va_rf mi2, va_rf th2, va_rf sc2, .int st2, .int bf2, va_rf rc2, .int nx, .ref lk, .int lf0]) := by rw [← hM8]; exact hm_up_s _ _ _
  refine hm_aload_n C nd_EN_become_64 rfl ?_
  refine hm_aload_n C nd_EN_become_65 rfl ?_
  refine hm_get C nF_EN_50 fM8_0 rfl nd_EN_become_66 ?_
  refine hm_put C nF_EN_50 fM8_1 (Nat.le_of_ble_eq_true rfl) rfl rfl nd_EN_become_69 ?_
  refine hm_eqM (M' := hm_up M8 a (hm_ob 3 [va_rf bs2, va_rf ro2, va_rf mi2, va_rf th2, va_rf sc2, .int st2, .int bf2, va_rf rc2, .int nx2, .ref lk, .int lf0])) rfl ?_
  generalize hM9 : hm_up M8 a (hm_ob 3 [va_rf bs2, va_rf ro2, va_rf mi2, va_rf th2, va_rf sc2, .int st2, .int bf2, va_rf rc2, .int nx2, .ref lk, .int lf0]) = M9
  have fM9_0 : M9 b = some (hm_ob 3 [va_rf bs2, va_rf ro2, va_rf mi2, va_rf th2, va_rf sc2, .int st2, .int bf2, va_rf rc2, .int nx2, .ref lk2, .int lf2]) := by rw [← hM9, hm_up_n _ _ (Ne.symm hab)]; exact fM8_0
  have aM9_0 : M9 lk = some (hm_ar D 2 8 f) := by rw [← hM9, hm_up_n _ _ (Ne.symm (hm_neA fM8_1 aM8_0))]; exact aM8_0
  have aM9_1 : M9 lk2 = some (hm_ar D 2 8 f2) := by rw [← hM9, hm_up_n _ _ (Ne.symm (hm_neA fM8_1 aM8_1))]; exact aM8_1
  have fM9_1 : M9 a = some (hm_ob 3 [va_rf bs2, va_rf ro2, va_rf mi2, va_rf th2, va_rf sc2, .int st2, .int bf2, va_rf rc2, .int nx2, .ref lk, .int lf0]) := by rw [← hM9]; exact hm_up_s _ _ _
  refine hm_iconst (v := 0) C nd_EN_become_72 (by decide) ?_
  refine hm_istore_n C [(2, .int 0), (0, .ref a), (1, .ref b)] nd_EN_become_73 (by decide) rfl ?_
  have eM : M9 = hm_up M a (hm_ob 3 [va_rf bs2, va_rf ro2, va_rf mi2, va_rf th2, va_rf sc2, .int st2, .int bf2, va_rf rc2, .int nx2, .ref lk, .int lf0]) := by rw [← hM9, ← hM8, ← hM7, ← hM6, ← hM5, ← hM4, ← hM3, ← hM2, ← hM1, hm_up_up, hm_up_up, hm_up_up, hm_up_up, hm_up_up, hm_up_up, hm_up_up, hm_up_up]
  clear fM1_0 fM1_1 aM1_0 aM1_1 fM2_0 fM2_1 aM2_0 aM2_1 fM3_0 fM3_1 aM3_0 aM3_1 fM4_0 fM4_1 aM4_0 aM4_1 fM5_0 fM5_1 aM5_0 aM5_1 fM6_0 fM6_1 aM6_0 aM6_1 fM7_0 fM7_1 aM7_0 aM7_1 fM8_0 fM8_1 aM8_0 aM8_1
  clear hM9 hM8 hM7 hM6 hM5 hM4 hM3 hM2 hM1
  have hel2 : ∀ i, i < 8 → ∀ z, f2 i = some z → ∃ vs, M9 z = some (hm_ob 4 vs) := fun i hi z hz => by
    obtain ⟨vs, h⟩ := hel i hi z hz
    exact ⟨vs, by rw [eM, hm_up_n _ _ (hm_ne h ha (by decide))]; exact h⟩
  have loop : ∀ (u i : Nat), 8 ≤ i + u → i ≤ 8 → hm_W X (hm_up M9 lk (hm_ar D 2 8 (fun j => if j < i then f2 j else f j))) 0 0 74 [(2, .int (nI i)), (0, .ref a), (1, .ref b)] [] := by
    intro u
    induction u with
    | zero =>
      intro i hu hi8
      generalize hM0 : hm_up M9 lk (hm_ar D 2 8 (fun j => if j < i then f2 j else f j)) = Mi
      have ha0 : Mi a = some (hm_ob 3 [va_rf bs2, va_rf ro2, va_rf mi2, va_rf th2, va_rf sc2, .int st2, .int bf2, va_rf rc2, .int nx2, .ref lk, .int lf0]) := by rw [← hM0, hm_up_n _ _ (hm_neA fM9_1 aM9_0)]; exact fM9_1
      have hb0 : Mi b = some (hm_ob 3 [va_rf bs2, va_rf ro2, va_rf mi2, va_rf th2, va_rf sc2, .int st2, .int bf2, va_rf rc2, .int nx2, .ref lk2, .int lf2]) := by rw [← hM0, hm_up_n _ _ (hm_neA fM9_0 aM9_0)]; exact fM9_0
      have hk0 : Mi lk = some (hm_ar D 2 8 (fun j => if j < i then f2 j else f j)) := by rw [← hM0]; exact hm_up_s _ _ _
      have hk2 : Mi lk2 = some (hm_ar D 2 8 f2) := by rw [← hM0, hm_up_n _ _ (Ne.symm hll)]; exact aM9_1
      refine hm_iload_n C nd_EN_become_74 rfl ?_
      refine hm_bipush (v := 8) C nd_EN_become_75 (by decide) ?_
      refine hm_icmp_ge (tgt := 98) C nd_EN_become_77 (by decide) (fun c1 => ?_) (fun c1 => absurd (show (8 : Int32) ≤ nI i from (show nI 8 ≤ nI i from nI_le (by omega) (by omega))) c1)
      have hie : i = 8 := by omega
      refine hm_aload_n C nd_EN_become_98 rfl ?_
      refine hm_aload_n C nd_EN_become_99 rfl ?_
      refine hm_get C nF_EN_53 hb0 rfl nd_EN_become_100 ?_
      refine hm_put C nF_EN_53 ha0 (Nat.le_of_ble_eq_true rfl) rfl rfl nd_EN_become_103 ?_
      refine hm_eqM (M' := hm_up Mi a (hm_ob 3 [va_rf bs2, va_rf ro2, va_rf mi2, va_rf th2, va_rf sc2, .int st2, .int bf2, va_rf rc2, .int nx2, .ref lk, .int lf2])) rfl ?_
      generalize hM1 : hm_up Mi a (hm_ob 3 [va_rf bs2, va_rf ro2, va_rf mi2, va_rf th2, va_rf sc2, .int st2, .int bf2, va_rf rc2, .int nx2, .ref lk, .int lf2]) = M1
      have fM1_0 : M1 b = some (hm_ob 3 [va_rf bs2, va_rf ro2, va_rf mi2, va_rf th2, va_rf sc2, .int st2, .int bf2, va_rf rc2, .int nx2, .ref lk2, .int lf2]) := by rw [← hM1, hm_up_n _ _ (Ne.symm hab)]; exact hb0
      have aM1_0 : M1 lk = some (hm_ar D 2 8 (fun j => if j < i then f2 j else f j)) := by rw [← hM1, hm_up_n _ _ (Ne.symm (hm_neA ha0 hk0))]; exact hk0
      have aM1_1 : M1 lk2 = some (hm_ar D 2 8 f2) := by rw [← hM1, hm_up_n _ _ (Ne.symm (hm_neA ha0 hk2))]; exact hk2
      have fM1_1 : M1 a = some (hm_ob 3 [va_rf bs2, va_rf ro2, va_rf mi2, va_rf th2, va_rf sc2, .int st2, .int bf2, va_rf rc2, .int nx2, .ref lk, .int lf2]) := by rw [← hM1]; exact hm_up_s _ _ _
      exact hm_vret C E (by omega) (by omega) (⟨rfl, by rw [← hM1, ← hM0, hie, eM, hm_up_cm (hm_neA ha hlk), hm_up_cm (hm_neA ha hlk), hm_up_up]⟩) nd_EN_become_106
    | succ u ih =>
      intro i hu hi8
      generalize hM0 : hm_up M9 lk (hm_ar D 2 8 (fun j => if j < i then f2 j else f j)) = Mi
      have ha0 : Mi a = some (hm_ob 3 [va_rf bs2, va_rf ro2, va_rf mi2, va_rf th2, va_rf sc2, .int st2, .int bf2, va_rf rc2, .int nx2, .ref lk, .int lf0]) := by rw [← hM0, hm_up_n _ _ (hm_neA fM9_1 aM9_0)]; exact fM9_1
      have hb0 : Mi b = some (hm_ob 3 [va_rf bs2, va_rf ro2, va_rf mi2, va_rf th2, va_rf sc2, .int st2, .int bf2, va_rf rc2, .int nx2, .ref lk2, .int lf2]) := by rw [← hM0, hm_up_n _ _ (hm_neA fM9_0 aM9_0)]; exact fM9_0
      have hk0 : Mi lk = some (hm_ar D 2 8 (fun j => if j < i then f2 j else f j)) := by rw [← hM0]; exact hm_up_s _ _ _
      have hk2 : Mi lk2 = some (hm_ar D 2 8 f2) := by rw [← hM0, hm_up_n _ _ (Ne.symm hll)]; exact aM9_1
      refine hm_iload_n C nd_EN_become_74 rfl ?_
      refine hm_bipush (v := 8) C nd_EN_become_75 (by decide) ?_
      refine hm_icmp_ge (tgt := 98) C nd_EN_become_77 (by decide) (fun c1 => ?_) (fun c1 => ?_)
      · have hi82 : 8 ≤ i := by
          rcases Nat.lt_or_ge i 8 with h | h
          · exact absurd c1 (show ¬ nI 8 ≤ nI i from nI_ge h (by omega))
          · exact h
        have hie : i = 8 := by omega
        refine hm_aload_n C nd_EN_become_98 rfl ?_
        refine hm_aload_n C nd_EN_become_99 rfl ?_
        refine hm_get C nF_EN_53 hb0 rfl nd_EN_become_100 ?_
        refine hm_put C nF_EN_53 ha0 (Nat.le_of_ble_eq_true rfl) rfl rfl nd_EN_become_103 ?_
        refine hm_eqM (M' := hm_up Mi a (hm_ob 3 [va_rf bs2, va_rf ro2, va_rf mi2, va_rf th2, va_rf sc2, .int st2, .int bf2, va_rf rc2, .int nx2, .ref lk, .int lf2])) rfl ?_
        generalize hM1 : hm_up Mi a (hm_ob 3 [va_rf bs2, va_rf ro2, va_rf mi2, va_rf th2, va_rf sc2, .int st2, .int bf2, va_rf rc2, .int nx2, .ref lk, .int lf2]) = M1
        have fM1_0 : M1 b = some (hm_ob 3 [va_rf bs2, va_rf ro2, va_rf mi2, va_rf th2, va_rf sc2, .int st2, .int bf2, va_rf rc2, .int nx2, .ref lk2, .int lf2]) := by rw [← hM1, hm_up_n _ _ (Ne.symm hab)]; exact hb0
        have aM1_0 : M1 lk = some (hm_ar D 2 8 (fun j => if j < i then f2 j else f j)) := by rw [← hM1, hm_up_n _ _ (Ne.symm (hm_neA ha0 hk0))]; exact hk0
        have aM1_1 : M1 lk2 = some (hm_ar D 2 8 f2) := by rw [← hM1, hm_up_n _ _ (Ne.symm (hm_neA ha0 hk2))]; exact hk2
        have fM1_1 : M1 a = some (hm_ob 3 [va_rf bs2, va_rf ro2, va_rf mi2, va_rf th2, va_rf sc2, .int st2, .int bf2, va_rf rc2, .int nx2, .ref lk, .int lf2]) := by rw [← hM1]; exact hm_up_s _ _ _
        exact hm_vret C E (by omega) (by omega) (⟨rfl, by rw [← hM1, ← hM0, hie, eM, hm_up_cm (hm_neA ha hlk), hm_up_cm (hm_neA ha hlk), hm_up_up]⟩) nd_EN_become_106
      · have hi8b : i < 8 := by
          rcases Nat.lt_or_ge i 8 with h | h
          · exact h
          · exact absurd (show nI 8 ≤ nI i from nI_le h (by omega)) c1
        refine hm_aload_n C nd_EN_become_80 rfl ?_
        refine hm_get C nF_EN_11 ha0 rfl nd_EN_become_81 ?_
        refine hm_iload_n C nd_EN_become_84 rfl ?_
        refine hm_aload_n C nd_EN_become_85 rfl ?_
        refine hm_get C nF_EN_11 hb0 rfl nd_EN_become_86 ?_
        refine hm_iload_n C nd_EN_become_89 rfl ?_
        refine hm_aald C (t := 2) (j := i) rfl hk2 rfl hi8b (by omega) nd_EN_become_90 ?_
        have onw : hm_W X (hm_up Mi lk (hm_ar D 2 8 (va_up (fun j => if j < i then f2 j else f j) i (f2 i)))) 0 0 92 [(2, .int (nI i)), (0, .ref a), (1, .ref b)] [] := by
          rw [← hM0, hm_up_up]
          refine hm_iinc (x := (nI i)) (v := ((nI i) + 1)) C [(2, .int ((nI i) + 1)), (0, .ref a), (1, .ref b)] nd_EN_become_92 rfl rfl (by decide) rfl ?_
          refine hm_goto (tgt := 74) C nd_EN_become_95 (by decide) ?_
          rw [nI_1]
          have hg2 : va_up (fun j => if j < i then f2 j else f j) i (f2 i) = (fun j => if j < i + 1 then f2 j else f j) := by
            funext z
            by_cases hz : z = i
            · subst hz
              rw [va_up_self, if_pos (by omega)]
            · rw [va_up_ne _ _ hz]
              by_cases h1 : z < i
              · rw [if_pos h1, if_pos (by omega)]
              · rw [if_neg h1, if_neg (by omega)]
          rw [hg2]
          exact ih (i + 1) (by omega) (by omega)
        cases hf2 : f2 i with
        | none =>
          rw [hf2] at onw
          exact hm_aastN C (t := 2) (j := i) rfl hk0 rfl hi8b (by omega) nd_EN_become_91 onw
        | some z =>
          rw [hf2] at onw
          obtain ⟨vs, hz⟩ := hel2 i hi8b z hf2
          have hz0 : Mi z = some (hm_ob 4 vs) := by rw [← hM0, hm_up_n _ _ (hm_neA hz aM9_0)]; exact hz
          exact hm_aast C (t := 2) (j := i) rfl hk0 hz0 rfl (Or.inl rfl) rfl hi8b (by omega) nd_EN_become_91 onw
  have e0 : M9 = hm_up M9 lk (hm_ar D 2 8 (fun j => if j < 0 then f2 j else f j)) := by
    funext z
    by_cases hz : z = lk
    · subst hz
      rw [hm_up_s, aM9_0]
      rfl
    · rw [hm_up_n _ _ hz]
  refine hm_eqM e0 ?_
  refine hm_lv (lv' := [(2, .int (nI 0)), (0, .ref a), (1, .ref b)]) rfl ?_
  exact loop 8 0 (by omega) (by omega)
end
section
/-! AN END, by values -/
def en_L (D : va_G) (M : hm_M) (F : Nat → Prop) (T : Nat → Nat → Nat → Prop) (lk : Nat) (f : Nat → Option Nat) (lf : List (Nat × Nat × Nat)) : Prop := hm_ow M F lk (hm_ar D 2 8 f) ∧ lf.length ≤ 8 ∧ (∀ i q, lf[i]? = some q → q.2.1 < 2 ^ 30 ∧ ∃ b pk ky, f i = some b ∧ hm_ow M F b (hm_ob 4 [va_rf pk, .int (nI q.2.1), va_rf ky]) ∧ ts_o T pk q.1 ∧ ts_o T ky q.2.2) ∧ ∀ i, lf.length ≤ i → f i = none
def en_R (D : va_G) (M : hm_M) (F : Nat → Prop) (T : Nat → Nat → Nat → Prop) (a lk bs ro mi th sc st bf rc nx : Nat) (lf : List (Nat × Nat × Nat)) : Prop := ∃ (bs' ro' mi' th' sc' rc' : Option Nat) (f : Nat → Option Nat), hm_ow M F a (hm_ob 3 [va_rf bs', va_rf ro', va_rf mi', va_rf th', va_rf sc', .int (nI st), .int (nI bf), va_rf rc', .int (nI nx), .ref lk, .int (nI lf.length)]) ∧ ts_o T bs' bs ∧ ts_o T ro' ro ∧ ts_o T mi' mi ∧ ts_o T th' th ∧ ts_o T sc' sc ∧ ts_o T rc' rc ∧ en_L D M F T lk f lf
def en_F (F : Nat → Prop) (a lk : Nat) : Nat → Prop := fun z => F z ∨ z = a ∨ z = lk
theorem en_L.step {D : va_G} {M M' : hm_M} {F F' : Nat → Prop} {T T' : Nat → Nat → Nat → Prop} {lk : Nat} {f : Nat → Option Nat} {lf : List (Nat × Nat × Nat)} (h : en_L D M F T lk f lf) (hs : hm_step M F M' F') (ht : ∀ a i v, T a i v → T' a i v) : en_L D M' F' T' lk f lf := by
  obtain ⟨h1, h2, h3, h4⟩ := h
  refine ⟨h1.step hs, h2, fun i q hq => ?_, h4⟩
  obtain ⟨h5, b, pk, ky, e1, e2, e3, e4⟩ := h3 i q hq
  exact ⟨h5, b, pk, ky, e1, e2.step hs, e3.mono ht, e4.mono ht⟩
theorem en_L.put {D : va_G} {M : hm_M} {F : Nat → Prop} {T : Nat → Nat → Nat → Prop} {lk a : Nat} {f : Nat → Option Nat} {lf : List (Nat × Nat × Nat)} {vs : List Value} {e : va_E} (h : en_L D M F T lk f lf) (ha : M a = some (hm_ob 3 vs)) : en_L D (hm_up M a e) F T lk f lf := by
  obtain ⟨h1, h2, h3, h4⟩ := h
  refine ⟨h1.put (Ne.symm (hm_neA ha h1.1)), h2, fun i q hq => ?_, h4⟩
  obtain ⟨h5, b, pk, ky, e1, e2, e3, e4⟩ := h3 i q hq
  exact ⟨h5, b, pk, ky, e1, e2.put (hm_ne e2.1 ha (by decide)), e3, e4⟩
/-- a new cell beside it -/
theorem en_L.new {D : va_G} {M : hm_M} {F : Nat → Prop} {T : Nat → Nat → Nat → Prop} {lk q : Nat} {f : Nat → Option Nat} {lf : List (Nat × Nat × Nat)} {e : va_E} (h : en_L D M F T lk f lf) (hq : M q = none) : en_L D (hm_up M q e) F T lk f lf := by
  obtain ⟨h1, h2, h3, h4⟩ := h
  refine ⟨h1.put (hm_neF h1.1 hq), h2, fun i z hz => ?_, h4⟩
  obtain ⟨h5, b, pk, ky, e1, e2, e3, e4⟩ := h3 i z hz
  exact ⟨h5, b, pk, ky, e1, e2.put (hm_neF e2.1 hq), e3, e4⟩
theorem en_R.step {D : va_G} {M M' : hm_M} {F F' : Nat → Prop} {T T' : Nat → Nat → Nat → Prop} {a lk bs ro mi th sc st bf rc nx : Nat} {lf : List (Nat × Nat × Nat)} (h : en_R D M F T a lk bs ro mi th sc st bf rc nx lf) (hs : hm_step M F M' F') (ht : ∀ a i v, T a i v → T' a i v) : en_R D M' F' T' a lk bs ro mi th sc st bf rc nx lf := by
  obtain ⟨b1, b2, b3, b4, b5, b6, f, h0, h1, h2, h3, h4, h5, h6, h7⟩ := h
  exact ⟨b1, b2, b3, b4, b5, b6, f, h0.step hs, h1.mono ht, h2.mono ht, h3.mono ht, h4.mono ht, h5.mono ht, h6.mono ht, h7.step hs ht⟩
/-- behind a method of the end at a, that makes the values vs -/
def en_P (D : va_G) (tm : Nat) (M : hm_M) (F : Nat → Prop) (T : Nat → Nat → Nat → Prop) (G : Nat → Prop) (n c se dr' : Nat) (vs : List Nat) (a lk : Nat) (M' : hm_M) (F' : Nat → Prop) (T' : Nat → Nat → Nat → Prop) : Prop := ts_S D M' tm F' T' G dr' (ts_r (ts_k T) n c vs).1 (ts_r (ts_k T) n c vs).2 se ∧ hm_step M (en_F F a lk) M' (en_F F' a lk) ∧ (∀ a i v, T a i v → T' a i v) ∧ (∀ a i v, T' a i v → T a i v ∨ (n ≤ i ∧ v ∈ vs)) ∧ (∀ v, v ∈ vs → ts_k T' v)
theorem hm_step.en {M M' : hm_M} {F F' : Nat → Prop} (h : hm_step M F M' F') (a lk : Nat) : hm_step M (en_F F a lk) M' (en_F F' a lk) := by
  refine ⟨fun z hz hm => h.1 z (fun q => hz (Or.inl q)) hm, fun z hz => ?_⟩
  rcases hz with q | q
  · rcases h.2 z q with r | r
    · exact Or.inl (Or.inl r)
    · exact Or.inr r
  · exact Or.inl (Or.inr q)
theorem ts_P.en {D : va_G} {tm : Nat} {M M' : hm_M} {F F' : Nat → Prop} {T T' : Nat → Nat → Nat → Prop} {G : Nat → Prop} {n c se dr' : Nat} {vs : List Nat} (h : ts_P D tm M F T G n c se dr' vs M' F' T') (a lk : Nat) : en_P D tm M F T G n c se dr' vs a lk M' F' T' := ⟨h.1, h.2.1.en a lk, h.2.2⟩
theorem en_P.k {D : va_G} {tm a lk : Nat} {M M' : hm_M} {F F' : Nat → Prop} {T T' : Nat → Nat → Nat → Prop} {G : Nat → Prop} {n c se dr' : Nat} {vs : List Nat} (h : en_P D tm M F T G n c se dr' vs a lk M' F' T') : ts_k T' = fun v => ts_k T v ∨ v ∈ vs := by
  funext v
  apply propext
  constructor
  · rintro ⟨a, i, q⟩
    rcases h.2.2.2.1 a i v q with q | q
    · exact Or.inl ⟨a, i, q⟩
    · exact Or.inr q.2
  · rintro (⟨a, i, q⟩ | q)
    · exact ⟨a, i, h.2.2.1 a i v q⟩
    · exact h.2.2.2.2 v q
theorem en_P.tr {D : va_G} {tm a lk : Nat} {M M' M'' : hm_M} {F F' F'' : Nat → Prop} {T T' T'' : Nat → Nat → Nat → Prop} {G : Nat → Prop} {n c se dr' dr'' : Nat} {vs ws : List Nat} (h : en_P D tm M F T G n c se dr' vs a lk M' F' T') (h2 : en_P D tm M' F' T' G (ts_r (ts_k T) n c vs).1 (ts_r (ts_k T) n c vs).2 se dr'' ws a lk M'' F'' T'') : en_P D tm M F T G n c se dr'' (vs ++ ws) a lk M'' F'' T'' := by
  have hk := h.k
  have hg := ts_r_ge vs (ts_k T) n c
  obtain ⟨s2, st2, u2, w2, k2⟩ := h2
  rw [hk] at s2
  refine ⟨by rw [ts_r_app]; exact s2, h.2.1.tr st2, fun a i v q => u2 a i v (h.2.2.1 a i v q), fun a i v q => ?_, fun v q => ?_⟩
  · rcases w2 a i v q with q | q
    · rcases h.2.2.2.1 a i v q with q | q
      · exact Or.inl q
      · exact Or.inr ⟨q.1, List.mem_append_left _ q.2⟩
    · exact Or.inr ⟨by omega, List.mem_append_right _ q.2⟩
  · rcases List.mem_append.mp q with q | q
    · obtain ⟨a, i, q⟩ := h.2.2.2.2 v q
      exact ⟨a, i, u2 a i v q⟩
    · exact k2 v q
/-- the end's own cell, or its array, is written -/
theorem en_P.put {D : va_G} {tm a lk z : Nat} {M M' : hm_M} {F F' : Nat → Prop} {T T' : Nat → Nat → Nat → Prop} {G : Nat → Prop} {n c se dr' : Nat} {vs : List Nat} {e : va_E} (h : en_P D tm M F T G n c se dr' vs a lk M' F' T') (hz : z = a ∨ z = lk) (hF : ¬ F' z) : en_P D tm M F T G n c se dr' vs a lk (hm_up M' z e) F' T' := by
  refine ⟨h.1.put hF e, ⟨fun y hy hm => ?_, h.2.1.2⟩, h.2.2⟩
  rw [hm_up_n _ _ (fun q => hy (Or.inr (by rw [q]; exact hz)))]
  exact h.2.1.1 y hy hm
theorem en_P.rf {D : va_G} {tm a lk : Nat} {M : hm_M} {F : Nat → Prop} {T : Nat → Nat → Nat → Prop} {G : Nat → Prop} {dr n c se : Nat} (h : ts_S D M tm F T G dr n c se) : en_P D tm M F T G n c se dr [] a lk M F T := ⟨h, hm_step.rf _ _, fun _ _ _ h => h, fun _ _ _ h => Or.inl h, fun v h => by cases h⟩
/-- a new cell, nobody's -/
theorem en_P.new {D : va_G} {tm a lk z : Nat} {M M' : hm_M} {F F' : Nat → Prop} {T T' : Nat → Nat → Nat → Prop} {G : Nat → Prop} {n c se dr' : Nat} {vs : List Nat} {e : va_E} (h : en_P D tm M F T G n c se dr' vs a lk M' F' T') (hz : M' z = none) : en_P D tm M F T G n c se dr' vs a lk (hm_up M' z e) F' T' := by
  refine ⟨h.1.put (fun q => ts_S_some h.1 q hz) e, ⟨fun y hy hm => ?_, h.2.1.2⟩, h.2.2⟩
  have h9 := h.2.1.1 y hy hm
  rw [hm_up_n _ _ (fun q => hm (by rw [← h9, q]; exact hz))]
  exact h9
/-- one more LEFT key -/
def lv_ad (lf : List (Nat × Nat × Nat)) (q : Nat × Nat × Nat) : List (Nat × Nat × Nat) := (if lf.length = 8 then lf.drop 1 else lf) ++ [q]
def sk_v (rc : Nat) : Nat → List Nat
  | 0 => []
  | d + 1 => sm_t 6 rc 0 :: sm_t 7 rc 0 :: sk_v (sm_t 7 rc 0) d
def sk_r (rc : Nat) : Nat → Nat
  | 0 => rc
  | d + 1 => sk_r (sm_t 7 rc 0) d
def sk_f (th rc nx : Nat) (lf : List (Nat × Nat × Nat)) : Nat → List (Nat × Nat × Nat)
  | 0 => lf
  | d + 1 => sk_f th (sm_t 7 rc 0) (nx + 1) (lv_ad lf (th, nx, sm_t 6 rc 0)) d
theorem lv_ad_len (lf : List (Nat × Nat × Nat)) (q : Nat × Nat × Nat) (h : lf.length ≤ 8) : (lv_ad lf q).length = (if lf.length = 8 then 7 else lf.length) + 1 := by
  unfold lv_ad
  rw [List.length_append]
  by_cases c : lf.length = 8
  · rw [if_pos c, if_pos c, List.length_drop, c]; rfl
  · rw [if_neg c, if_neg c]; rfl
theorem en_L.ad {D : va_G} {M M' : hm_M} {F : Nat → Prop} {T : Nat → Nat → Nat → Prop} {lk b : Nat} {f : Nat → Option Nat} {lf : List (Nat × Nat × Nat)} {pk ky : Option Nat} {q : Nat × Nat × Nat} (h : en_L D M F T lk f lf) (hq : q.2.1 < 2 ^ 30) (hb : hm_ow M F b (hm_ob 4 [va_rf pk, .int (nI q.2.1), va_rf ky])) (h1 : ts_o T pk q.1) (h2 : ts_o T ky q.2.2) (hl : M' lk = some (hm_ar D 2 8 (va_up (fun i => f (if lf.length = 8 then i + 1 else i)) (if lf.length = 8 then 7 else lf.length) (some b)))) (ho : ∀ z vs, M z = some (hm_ob 4 vs) → M' z = M z) : en_L D M' F T lk (va_up (fun i => f (if lf.length = 8 then i + 1 else i)) (if lf.length = 8 then 7 else lf.length) (some b)) (lv_ad lf q) := by
  obtain ⟨a1, a2, a3, a4⟩ := h
  have hlen := lv_ad_len lf q a2
  refine ⟨⟨hl, a1.2⟩, by rw [hlen]; split <;> omega, fun i z hz => ?_, fun i hi => ?_⟩
  · have hi : i < (lv_ad lf q).length := (List.getElem?_eq_some_iff.mp hz).1
    rw [hlen] at hi
    by_cases e : i = (if lf.length = 8 then 7 else lf.length)
    · have hzq : z = q := by
        unfold lv_ad at hz
        have hl9 : (if lf.length = 8 then lf.drop 1 else lf).length = i := by
          rw [e]
          by_cases c : lf.length = 8
          · rw [if_pos c, if_pos c, List.length_drop, c]
          · rw [if_neg c, if_neg c]
        rw [List.getElem?_append_right (by omega), hl9, Nat.sub_self] at hz
        exact (Option.some.inj hz).symm
      subst hzq
      refine ⟨hq, b, pk, ky, by rw [e, va_up_self], ⟨by rw [ho b _ hb.1]; exact hb.1, hb.2⟩, h1, h2⟩
    · have hz2 : lf[if lf.length = 8 then i + 1 else i]? = some z := by
        unfold lv_ad at hz
        have hl9 : i < (if lf.length = 8 then lf.drop 1 else lf).length := by
          by_cases c : lf.length = 8
          · rw [if_pos c, List.length_drop, c]
            rw [if_pos c] at hi e
            omega
          · rw [if_neg c]
            rw [if_neg c] at hi e
            omega
        rw [List.getElem?_append_left hl9] at hz
        by_cases c : lf.length = 8
        · rw [if_pos c] at hz ⊢
          rw [List.getElem?_drop, Nat.add_comm] at hz
          exact hz
        · rw [if_neg c] at hz ⊢
          exact hz
      obtain ⟨h5, b', pk', ky', e1, e2, e3, e4⟩ := a3 _ z hz2
      exact ⟨h5, b', pk', ky', by rw [va_up_ne _ _ e]; exact e1, ⟨by rw [ho b' _ e2.1]; exact e2.1, e2.2⟩, e3, e4⟩
  · rw [hlen] at hi
    rw [va_up_ne _ _ (by omega)]
    refine a4 _ ?_
    by_cases c : lf.length = 8
    · rw [if_pos c] at hi ⊢; omega
    · rw [if_neg c] at hi ⊢; omega
theorem sk_r_ne : ∀ (d rc : Nat), rc ≠ 0 → sk_r rc d ≠ 0
  | 0, rc, h => h
  | d + 1, rc, _ => sk_r_ne d _ (sm_t_ne _ _ _)
theorem sk_f_len : ∀ (d th rc nx : Nat) (lf : List (Nat × Nat × Nat)), lf.length ≤ 8 → (sk_f th rc nx lf d).length ≤ 8
  | 0, th, rc, nx, lf, h => h
  | d + 1, th, rc, nx, lf, h => sk_f_len d th _ _ _ (by rw [lv_ad_len _ _ h]; split <;> omega)
end
section
theorem en_P.room {D : va_G} {tm a lk : Nat} {M M' : hm_M} {F F' : Nat → Prop} {T T' : Nat → Nat → Nat → Prop} {G : Nat → Prop} {n c se dr' : Nat} {vs : List Nat} (h : en_P D tm M F T G n c se dr' vs a lk M' F' T') (ws : List Nat) : ts_kc (ts_k T) n c (vs ++ ws) = ts_kc (ts_k T) n c vs + ts_kc (ts_k T') (ts_r (ts_k T) n c vs).1 (ts_r (ts_k T) n c vs).2 ws ∧ ts_ks (ts_k T) n c (vs ++ ws) = ts_ks (ts_k T) n c vs + ts_ks (ts_k T') (ts_r (ts_k T) n c vs).1 (ts_r (ts_k T) n c vs).2 ws := by
  rw [h.k]
  exact ⟨ts_kc_app vs ws _ _ _, ts_ks_app vs ws _ _ _⟩
theorem ts_kle (vs ws : List Nat) (K : Nat → Prop) (n c : Nat) : ts_kc K n c vs ≤ ts_kc K n c (vs ++ ws) ∧ ts_ks K n c vs ≤ ts_ks K n c (vs ++ ws) := by
  rw [ts_kc_app, ts_ks_app]
  exact ⟨Nat.le_add_right _ _, Nat.le_add_right _ _⟩
theorem ts_kz (K : Nat → Prop) (n c : Nat) : ts_kc K n c [] = 0 ∧ ts_ks K n c [] = 0 := by
  unfold ts_kc ts_ks ts_r
  constructor <;> (dsimp only; omega)
theorem en_P.bd {D : va_G} {tm a lk : Nat} {M M' : hm_M} {F F' : Nat → Prop} {T T' : Nat → Nat → Nat → Prop} {G : Nat → Prop} {n c se dr' : Nat} {vs : List Nat} (_ : en_P D tm M F T G n c se dr' vs a lk M' F' T') (hcn : c ≤ 2 * n + 10) : (ts_r (ts_k T) n c vs).2 ≤ 2 * (ts_r (ts_k T) n c vs).1 + 10 ∧ (ts_r (ts_k T) n c vs).1 ≤ n + vs.length := ts_r_bd vs _ _ _ hcn
theorem ts_o_nn {T : Nat → Nat → Nat → Prop} {r : Option Nat} {v : Nat} (h : ts_o T r v) (hv : v ≠ 0) : r ≠ none := by
  rcases h with ⟨-, h⟩ | ⟨a, i, h, -⟩
  · exact absurd h hv
  · rw [h]; simp
theorem ts_o_so {T : Nat → Nat → Nat → Prop} {r : Option Nat} {v : Nat} (h : ts_o T r v) (hv : v ≠ 0) : ∃ a i, r = some a ∧ T a i v := by
  rcases h with ⟨-, h⟩ | h
  · exact absurd h hv
  · exact h
theorem ts_o_0 {T : Nat → Nat → Nat → Prop} : ts_o T none 0 := Or.inl ⟨rfl, rfl⟩
theorem en_P.wr {D : va_G} {tm a lk z : Nat} {M M' : hm_M} {F F' : Nat → Prop} {T T' : Nat → Nat → Nat → Prop} {G : Nat → Prop} {n c se dr' : Nat} {vs : List Nat} {e : va_E} (h : en_P D tm M F T G n c se dr' vs a lk M' F' T') (hz : ¬ en_F F a lk z → M z = none) (hF : ¬ F' z) : en_P D tm M F T G n c se dr' vs a lk (hm_up M' z e) F' T' := by
  refine ⟨h.1.put hF e, ⟨fun y hy hm => ?_, h.2.1.2⟩, h.2.2⟩
  rw [hm_up_n _ _ (fun q => hm (by rw [q]; exact hz (fun w => hy (by rw [q]; exact w))))]
  exact h.2.1.1 y hy hm
theorem en_P.fr {D : va_G} {tm a lk z : Nat} {M M' : hm_M} {F F' : Nat → Prop} {T T' : Nat → Nat → Nat → Prop} {G : Nat → Prop} {n c se dr' : Nat} {vs : List Nat} (h : en_P D tm M F T G n c se dr' vs a lk M' F' T') (hz : M' z = none) : ¬ en_F F a lk z → M z = none := by
  intro h1
  cases hm : M z with
  | none => rfl
  | some e =>
    have := h.2.1.1 z h1 (by rw [hm]; simp)
    rw [this, hm] at hz
    cases hz
set_option maxHeartbeats 4000000 in
set_option maxRecDepth 100000 in
theorem ct_EN_steppedKey {l : Launch} {D : va_G} {BG : Nat → Option Cell} (M : hm_M) (tm : Nat) (F : Nat → Prop) (T : Nat → Nat → Nat → Prop) (G : Nat → Prop) (dr n c se : Nat) (hS : ts_S D M tm F T G dr n c se) (hcn : c ≤ 2 * n + 10) (hn : n ≤ 19800) (a lk bs ro mi th sc st bf rc nx : Nat) (lf : List (Nat × Nat × Nat)) (hR : en_R D M F T a lk bs ro mi th sc st bf rc nx lf) (hrc : rc ≠ 0) : hm_ct l D BG ny_EN_steppedKey prog_2_method_9_code 3 (some (.object "TurnedKeys$Term")) 9 221 (ts_kc (ts_k T) n c [sm_t 6 rc 0, sm_t 7 rc 0]) (ts_ks (ts_k T) n c [sm_t 6 rc 0, sm_t 7 rc 0]) [.ref a, .ref tm] M (fun r M' => ∃ q F' T' i, r = some (.ref q) ∧ en_P D tm M F T G n c se dr [sm_t 6 rc 0, sm_t 7 rc 0] a lk M' F' T' ∧ T' q i (sm_t 6 rc 0) ∧ M' lk = M lk ∧ en_R D M' F' T' a lk bs ro mi th sc st bf (sm_t 7 rc 0) (nx + 1) lf) := by
  refine hm_ct_of (by decide +kernel) (by exact Nat.le_of_ble_eq_true rfl) ?_
  intro X C E
  have C : hm_C X l D BG prog_2_method_9_code "TurnedKeys$End" "steppedKey" 3 9 221 (ts_kc (ts_k T) n c [sm_t 6 rc 0, sm_t 7 rc 0]) (ts_ks (ts_k T) n c [sm_t 6 rc 0, sm_t 7 rc 0]) := C
  refine hm_lv (lv' := [(0, .ref a), (1, .ref tm)]) rfl ?_
  obtain ⟨bs', ro', mi', th', sc', rc', f, hA, o1, o2, o3, o4, o5, o6, hL⟩ := hR
  obtain ⟨la0, ht0, -⟩ := ts_tm hS
  have hE0 := en_P.rf (a := a) (lk := lk) hS
  have kz := ts_kz (ts_k T) n c
  have hb0 : _ ∧ _ ≤ n + 0 := hE0.bd hcn
  refine hm_aload_n C nd_EN_steppedKey_0 rfl ?_
  refine hm_bipush (v := 6) C nd_EN_steppedKey_1 (by decide) ?_
  refine hm_aload_n C nd_EN_steppedKey_3 rfl ?_
  refine hm_get C nF_EN_47 hA.1 rfl nd_EN_steppedKey_4 ?_
  refine hm_null C nd_EN_steppedKey_7 ?_
  refine hm_stk (st' := [va_rf none, va_rf rc', .int (nI 6), .ref tm]) rfl ?_
  have rm1 : ts_kc (ts_k T) n c [sm_t 6 rc 0] = _ ∧ ts_ks (ts_k T) n c [sm_t 6 rc 0] = _ := hE0.room [sm_t 6 rc 0]
  have rl1 : _ ≤ ts_kc (ts_k T) n c [sm_t 6 rc 0, sm_t 7 rc 0] ∧ _ ≤ ts_ks (ts_k T) n c [sm_t 6 rc 0, sm_t 7 rc 0] := ts_kle [sm_t 6 rc 0] [sm_t 7 rc 0] (ts_k T) n c
  refine hm_callV C (ct_TS_made M tm F T G dr _ _ se hE0.1 (by omega) 6 rc 0 rc' none o6 ts_o_0 (fun h => ts_o_nn o6 hrc h.1) (by omega) (by omega) (fun h => by omega) (fun h => by omega)) nV_TS_made [.int (nI 6), va_rf rc', va_rf none] rfl ht0 rfl nq_EN_66 nj_TS_made nx_TS_made rfl (rest := []) rfl (Nat.le_of_ble_eq_true rfl) (by decide) (by decide) (by omega) (by omega) nd_EN_steppedKey_8 (fun r M1 hp => ?_)
  obtain ⟨q1, F1, T1, rfl, hP1, ⟨i1, hq1⟩, hn1⟩ := hp
  have hE1 : en_P D tm M F T G n c se (dr) [sm_t 6 rc 0] a lk M1 F1 T1 := hE0.tr (hP1.en a lk)
  have hA1 := hA.step hP1.2.1
  have hL1 := hL.step hP1.2.1 hP1.2.2.1
  have hb1 : _ ∧ _ ≤ n + 1 := hE1.bd hcn
  obtain ⟨la1, ht1, -⟩ := ts_tm hE1.1
  refine hm_stk (st' := [.ref q1]) rfl ?_
  refine hm_astore_n C [(2, .ref q1), (0, .ref a), (1, .ref tm)] nd_EN_steppedKey_11 (by decide) rfl ?_
  refine hm_aload_n C nd_EN_steppedKey_12 rfl ?_
  refine hm_aload_n C nd_EN_steppedKey_13 rfl ?_
  refine hm_bipush (v := 7) C nd_EN_steppedKey_14 (by decide) ?_
  refine hm_aload_n C nd_EN_steppedKey_16 rfl ?_
  refine hm_get C nF_EN_47 hA1.1 rfl nd_EN_steppedKey_17 ?_
  refine hm_null C nd_EN_steppedKey_20 ?_
  refine hm_stk (st' := [va_rf none, va_rf rc', .int (nI 7), .ref tm, .ref a]) rfl ?_
  have rm2 : ts_kc (ts_k T) n c [sm_t 6 rc 0, sm_t 7 rc 0] = _ ∧ ts_ks (ts_k T) n c [sm_t 6 rc 0, sm_t 7 rc 0] = _ := hE1.room [sm_t 7 rc 0]
  have rl2 : _ ≤ ts_kc (ts_k T) n c [sm_t 6 rc 0, sm_t 7 rc 0] ∧ _ ≤ ts_ks (ts_k T) n c [sm_t 6 rc 0, sm_t 7 rc 0] := ts_kle [sm_t 6 rc 0, sm_t 7 rc 0] [] (ts_k T) n c
  refine hm_callV C (ct_TS_made M1 tm F1 T1 G dr _ _ se hE1.1 (by omega) 7 rc 0 rc' none (o6.mono hP1.2.2.1) ts_o_0 (fun h => ts_o_nn o6 hrc h.1) (by omega) (by omega) (fun h => by omega) (fun h => by omega)) nV_TS_made [.int (nI 7), va_rf rc', va_rf none] rfl ht1 rfl nq_EN_66 nj_TS_made nx_TS_made rfl (rest := [.ref a]) rfl (Nat.le_of_ble_eq_true rfl) (by decide) (by decide) (by omega) (by omega) nd_EN_steppedKey_21 (fun r M2 hp => ?_)
  obtain ⟨q2, F2, T2, rfl, hP2, ⟨i2, hq2⟩, hn2⟩ := hp
  have hE2 : en_P D tm M F T G n c se (dr) [sm_t 6 rc 0, sm_t 7 rc 0] a lk M2 F2 T2 := hE1.tr (hP2.en a lk)
  have hA2 := hA1.step hP2.2.1
  have hL2 := hL1.step hP2.2.1 hP2.2.2.1
  have hb2 : _ ∧ _ ≤ n + 2 := hE2.bd hcn
  obtain ⟨la2, ht2, -⟩ := ts_tm hE2.1
  refine hm_stk (st' := [.ref q2, .ref a]) rfl ?_
  refine hm_put C nF_EN_47 hA2.1 (Nat.le_of_ble_eq_true rfl) rfl rfl nd_EN_steppedKey_24 ?_
  refine hm_eqM (M' := hm_up M2 a (hm_ob 3 [va_rf bs', va_rf ro', va_rf mi', va_rf th', va_rf sc', .int (nI st), .int (nI bf), .ref q2, .int (nI nx), .ref lk, .int (nI lf.length)])) rfl ?_
  generalize hM2_1 : hm_up M2 a (hm_ob 3 [va_rf bs', va_rf ro', va_rf mi', va_rf th', va_rf sc', .int (nI st), .int (nI bf), .ref q2, .int (nI nx), .ref lk, .int (nI lf.length)]) = Mp2_1
  have hE2_1 : en_P D tm M F T G n c se (dr) [sm_t 6 rc 0, sm_t 7 rc 0] a lk Mp2_1 F2 T2 := by rw [← hM2_1]; exact hE2.put (Or.inl rfl) hA2.2
  have hL2_1 : en_L D Mp2_1 F2 T2 lk f lf := by rw [← hM2_1]; exact hL2.put hA2.1
  have hAA2_1 : hm_ow Mp2_1 F2 a (hm_ob 3 [va_rf bs', va_rf ro', va_rf mi', va_rf th', va_rf sc', .int (nI st), .int (nI bf), .ref q2, .int (nI nx), .ref lk, .int (nI lf.length)]) := by rw [← hM2_1]; exact hA2.self
  have htt2_1 : Mp2_1 tm = some (hm_ob 1 [.ref la2, .int (nI (dr)), .int (nI se)]) := by rw [← hM2_1, hm_up_n _ _ (hm_ne ht2 hA2.1 (by decide))]; exact ht2
  refine hm_aload_n C nd_EN_steppedKey_27 rfl ?_
  refine hm_dup C nd_EN_steppedKey_28 rfl ?_
  refine hm_get C nF_EN_50 hAA2_1.1 rfl nd_EN_steppedKey_29 ?_
  refine hm_iconst (v := 1) C nd_EN_steppedKey_32 (by decide) ?_
  refine hm_iadd C nd_EN_steppedKey_33 ?_
  rw [nI_1]
  refine hm_put C nF_EN_50 hAA2_1.1 (Nat.le_of_ble_eq_true rfl) rfl rfl nd_EN_steppedKey_34 ?_
  refine hm_eqM (M' := hm_up Mp2_1 a (hm_ob 3 [va_rf bs', va_rf ro', va_rf mi', va_rf th', va_rf sc', .int (nI st), .int (nI bf), .ref q2, .int (nI (nx + 1)), .ref lk, .int (nI lf.length)])) rfl ?_
  generalize hM2_2 : hm_up Mp2_1 a (hm_ob 3 [va_rf bs', va_rf ro', va_rf mi', va_rf th', va_rf sc', .int (nI st), .int (nI bf), .ref q2, .int (nI (nx + 1)), .ref lk, .int (nI lf.length)]) = Mp2_2
  have hE2_2 : en_P D tm M F T G n c se (dr) [sm_t 6 rc 0, sm_t 7 rc 0] a lk Mp2_2 F2 T2 := by rw [← hM2_2]; exact hE2_1.put (Or.inl rfl) hAA2_1.2
  have hL2_2 : en_L D Mp2_2 F2 T2 lk f lf := by rw [← hM2_2]; exact hL2_1.put hAA2_1.1
  have hAA2_2 : hm_ow Mp2_2 F2 a (hm_ob 3 [va_rf bs', va_rf ro', va_rf mi', va_rf th', va_rf sc', .int (nI st), .int (nI bf), .ref q2, .int (nI (nx + 1)), .ref lk, .int (nI lf.length)]) := by rw [← hM2_2]; exact hAA2_1.self
  have htt2_2 : Mp2_2 tm = some (hm_ob 1 [.ref la2, .int (nI (dr)), .int (nI se)]) := by rw [← hM2_2, hm_up_n _ _ (hm_ne htt2_1 hAA2_1.1 (by decide))]; exact htt2_1
  refine hm_aload_n C nd_EN_steppedKey_37 rfl ?_
  exact hm_aret (r := (some q1)) C E (Or.inl ⟨_, rfl⟩) (by omega) (by omega) (⟨q1, F2, T2, i1, rfl, hE2_2, hP2.2.2.1 _ _ _ hq1, by rw [hL2_2.1.1, hL.1.1], ⟨bs', ro', mi', th', sc', some q2, f, hAA2_2, (o1.mono hP1.2.2.1).mono hP2.2.2.1, (o2.mono hP1.2.2.1).mono hP2.2.2.1, (o3.mono hP1.2.2.1).mono hP2.2.2.1, (o4.mono hP1.2.2.1).mono hP2.2.2.1, (o5.mono hP1.2.2.1).mono hP2.2.2.1, Or.inr ⟨q2, i2, rfl, hq2⟩, hL2_2⟩⟩) nd_EN_steppedKey_38
end
section
set_option maxHeartbeats 4000000 in
set_option maxRecDepth 100000 in
theorem ct_EN_turnReceiving {l : Launch} {D : va_G} {BG : Nat → Option Cell} (M : hm_M) (tm : Nat) (F : Nat → Prop) (T : Nat → Nat → Nat → Prop) (G : Nat → Prop) (dr n c se : Nat) (hS : ts_S D M tm F T G dr n c se) (hcn : c ≤ 2 * n + 10) (hn : n ≤ 19800) (a lk bs ro mi th sc st bf rc nx : Nat) (lf : List (Nat × Nat × Nat)) (hR : en_R D M F T a lk bs ro mi th sc st bf rc nx lf) (d p ip k e : Nat) (hmi : mi = sm_t 0 d 0) (hTp : T p ip (sm_t 1 k 0)) (hk : k = sm_t 0 e 0) : hm_ct l D BG ny_EN_turnReceiving prog_2_method_7_code 4 none 10 244 (ts_kc (ts_k T) n c [sm_t 1 mi 0, sm_sh mi k, sm_t 5 ro (sm_sh mi k), sm_t 4 ro (sm_sh mi k)]) (ts_ks (ts_k T) n c [sm_t 1 mi 0, sm_sh mi k, sm_t 5 ro (sm_sh mi k), sm_t 4 ro (sm_sh mi k)]) [.ref a, .ref p, .ref tm] M (fun r M' => ∃ F' T', r = none ∧ en_P D tm M F T G n c se dr [sm_t 1 mi 0, sm_sh mi k, sm_t 5 ro (sm_sh mi k), sm_t 4 ro (sm_sh mi k)] a lk M' F' T' ∧ en_R D M' F' T' a lk bs (sm_t 4 ro (sm_sh mi k)) mi (sm_t 1 k 0) 0 st bf (sm_t 5 ro (sm_sh mi k)) 0 lf) := by
  refine hm_ct_of (by decide +kernel) (by exact Nat.le_of_ble_eq_true rfl) ?_
  intro X C E
  have C : hm_C X l D BG prog_2_method_7_code "TurnedKeys$End" "turnReceiving" 4 10 244 (ts_kc (ts_k T) n c [sm_t 1 mi 0, sm_sh mi k, sm_t 5 ro (sm_sh mi k), sm_t 4 ro (sm_sh mi k)]) (ts_ks (ts_k T) n c [sm_t 1 mi 0, sm_sh mi k, sm_t 5 ro (sm_sh mi k), sm_t 4 ro (sm_sh mi k)]) := C
  refine hm_lv (lv' := [(0, .ref a), (1, .ref p), (2, .ref tm)]) rfl ?_
  obtain ⟨bs', ro', mi', th', sc', rc', f, hA, o1, o2, o3, o4, o5, o6, hL⟩ := hR
  obtain ⟨la0, ht0, -⟩ := ts_tm hS
  obtain ⟨m0, im, rfl, hTm⟩ := ts_o_so o3 (by rw [hmi]; exact sm_t_ne _ _ _)
  have hE0 := en_P.rf (a := a) (lk := lk) hS
  have kz := ts_kz (ts_k T) n c
  have hb0 : _ ∧ _ ≤ n + 0 := hE0.bd hcn
  refine hm_aload_n C nd_EN_turnReceiving_0 rfl ?_
  refine hm_aload_n C nd_EN_turnReceiving_1 rfl ?_
  refine hm_get C nF_EN_24 hA.1 rfl nd_EN_turnReceiving_2 ?_
  refine hm_aload_n C nd_EN_turnReceiving_5 rfl ?_
  refine hm_stk (st' := [.ref p, .ref m0, .ref tm]) rfl ?_
  have rm2 : ts_kc (ts_k T) n c [sm_t 1 mi 0, sm_sh mi k] = _ ∧ ts_ks (ts_k T) n c [sm_t 1 mi 0, sm_sh mi k] = _ := hE0.room [sm_t 1 mi 0, sm_sh mi k]
  have rl2 : _ ≤ ts_kc (ts_k T) n c [sm_t 1 mi 0, sm_sh mi k, sm_t 5 ro (sm_sh mi k), sm_t 4 ro (sm_sh mi k)] ∧ _ ≤ ts_ks (ts_k T) n c [sm_t 1 mi 0, sm_sh mi k, sm_t 5 ro (sm_sh mi k), sm_t 4 ro (sm_sh mi k)] := ts_kle [sm_t 1 mi 0, sm_sh mi k] [sm_t 5 ro (sm_sh mi k), sm_t 4 ro (sm_sh mi k)] (ts_k T) n c
  refine hm_callV C (ct_TS_sharedOf M tm F T G dr _ _ se hE0.1 (by omega) (by omega) m0 im mi d p ip k e hTm hmi hTp hk) nV_TS_sharedOf [.ref m0, .ref p] rfl ht0 rfl nq_EN_62 nj_TS_sharedOf nx_TS_sharedOf rfl (rest := []) rfl (Nat.le_of_ble_eq_true rfl) (by decide) (by decide) (by omega) (by omega) nd_EN_turnReceiving_6 (fun r M1 hp => ?_)
  obtain ⟨q2, F2, T2, rfl, hP2, i2, hq2⟩ := hp
  have hE2 : en_P D tm M F T G n c se (dr) [sm_t 1 mi 0, sm_sh mi k] a lk M1 F2 T2 := hE0.tr (hP2.en a lk)
  have hA2 := hA.step hP2.2.1
  have hL2 := hL.step hP2.2.1 hP2.2.2.1
  have hb2 : _ ∧ _ ≤ n + 2 := hE2.bd hcn
  obtain ⟨la2, ht2, -⟩ := ts_tm hE2.1
  refine hm_stk (st' := [.ref q2]) rfl ?_
  refine hm_astore_n C [(3, .ref q2), (0, .ref a), (1, .ref p), (2, .ref tm)] nd_EN_turnReceiving_9 (by decide) rfl ?_
  refine hm_aload_n C nd_EN_turnReceiving_10 rfl ?_
  refine hm_aload_n C nd_EN_turnReceiving_11 rfl ?_
  refine hm_iconst (v := 5) C nd_EN_turnReceiving_12 (by decide) ?_
  refine hm_aload_n C nd_EN_turnReceiving_13 rfl ?_
  refine hm_get C nF_EN_21 hA2.1 rfl nd_EN_turnReceiving_14 ?_
  refine hm_aload_n C nd_EN_turnReceiving_17 rfl ?_
  refine hm_stk (st' := [va_rf (some q2), va_rf ro', .int (nI 5), .ref tm, .ref a]) rfl ?_
  have rm3 : ts_kc (ts_k T) n c [sm_t 1 mi 0, sm_sh mi k, sm_t 5 ro (sm_sh mi k)] = _ ∧ ts_ks (ts_k T) n c [sm_t 1 mi 0, sm_sh mi k, sm_t 5 ro (sm_sh mi k)] = _ := hE2.room [sm_t 5 ro (sm_sh mi k)]
  have rl3 : _ ≤ ts_kc (ts_k T) n c [sm_t 1 mi 0, sm_sh mi k, sm_t 5 ro (sm_sh mi k), sm_t 4 ro (sm_sh mi k)] ∧ _ ≤ ts_ks (ts_k T) n c [sm_t 1 mi 0, sm_sh mi k, sm_t 5 ro (sm_sh mi k), sm_t 4 ro (sm_sh mi k)] := ts_kle [sm_t 1 mi 0, sm_sh mi k, sm_t 5 ro (sm_sh mi k)] [sm_t 4 ro (sm_sh mi k)] (ts_k T) n c
  refine hm_callV C (ct_TS_made M1 tm F2 T2 G dr _ _ se hE2.1 (by omega) 5 ro (sm_sh mi k) ro' (some q2) (o2.mono hP2.2.2.1) (Or.inr ⟨_, _, rfl, hq2⟩) (fun h => by cases h.2) (by omega) (by omega) (fun h => by omega) (fun h => by omega)) nV_TS_made [.int (nI 5), va_rf ro', va_rf (some q2)] rfl ht2 rfl nq_EN_66 nj_TS_made nx_TS_made rfl (rest := [.ref a]) rfl (Nat.le_of_ble_eq_true rfl) (by decide) (by decide) (by omega) (by omega) nd_EN_turnReceiving_18 (fun r M2 hp => ?_)
  obtain ⟨q3, F3, T3, rfl, hP3, ⟨i3, hq3⟩, hn3⟩ := hp
  have hE3 : en_P D tm M F T G n c se (dr) [sm_t 1 mi 0, sm_sh mi k, sm_t 5 ro (sm_sh mi k)] a lk M2 F3 T3 := hE2.tr (hP3.en a lk)
  have hA3 := hA2.step hP3.2.1
  have hL3 := hL2.step hP3.2.1 hP3.2.2.1
  have hb3 : _ ∧ _ ≤ n + 3 := hE3.bd hcn
  obtain ⟨la3, ht3, -⟩ := ts_tm hE3.1
  refine hm_stk (st' := [.ref q3, .ref a]) rfl ?_
  refine hm_put C nF_EN_47 hA3.1 (Nat.le_of_ble_eq_true rfl) rfl rfl nd_EN_turnReceiving_21 ?_
  refine hm_eqM (M' := hm_up M2 a (hm_ob 3 [va_rf bs', va_rf ro', va_rf (some m0), va_rf th', va_rf sc', .int (nI st), .int (nI bf), .ref q3, .int (nI nx), .ref lk, .int (nI lf.length)])) rfl ?_
  generalize hM3_1 : hm_up M2 a (hm_ob 3 [va_rf bs', va_rf ro', va_rf (some m0), va_rf th', va_rf sc', .int (nI st), .int (nI bf), .ref q3, .int (nI nx), .ref lk, .int (nI lf.length)]) = Mp3_1
  have hE3_1 : en_P D tm M F T G n c se (dr) [sm_t 1 mi 0, sm_sh mi k, sm_t 5 ro (sm_sh mi k)] a lk Mp3_1 F3 T3 := by rw [← hM3_1]; exact hE3.put (Or.inl rfl) hA3.2
  have hL3_1 : en_L D Mp3_1 F3 T3 lk f lf := by rw [← hM3_1]; exact hL3.put hA3.1
  have hAA3_1 : hm_ow Mp3_1 F3 a (hm_ob 3 [va_rf bs', va_rf ro', va_rf (some m0), va_rf th', va_rf sc', .int (nI st), .int (nI bf), .ref q3, .int (nI nx), .ref lk, .int (nI lf.length)]) := by rw [← hM3_1]; exact hA3.self
  have htt3_1 : Mp3_1 tm = some (hm_ob 1 [.ref la3, .int (nI (dr)), .int (nI se)]) := by rw [← hM3_1, hm_up_n _ _ (hm_ne ht3 hA3.1 (by decide))]; exact ht3
  refine hm_aload_n C nd_EN_turnReceiving_24 rfl ?_
  refine hm_aload_n C nd_EN_turnReceiving_25 rfl ?_
  refine hm_iconst (v := 4) C nd_EN_turnReceiving_26 (by decide) ?_
  refine hm_aload_n C nd_EN_turnReceiving_27 rfl ?_
  refine hm_get C nF_EN_21 hAA3_1.1 rfl nd_EN_turnReceiving_28 ?_
  refine hm_aload_n C nd_EN_turnReceiving_31 rfl ?_
  refine hm_stk (st' := [va_rf (some q2), va_rf ro', .int (nI 4), .ref tm, .ref a]) rfl ?_
  have rm4 : ts_kc (ts_k T) n c [sm_t 1 mi 0, sm_sh mi k, sm_t 5 ro (sm_sh mi k), sm_t 4 ro (sm_sh mi k)] = _ ∧ ts_ks (ts_k T) n c [sm_t 1 mi 0, sm_sh mi k, sm_t 5 ro (sm_sh mi k), sm_t 4 ro (sm_sh mi k)] = _ := hE3_1.room [sm_t 4 ro (sm_sh mi k)]
  have rl4 : _ ≤ ts_kc (ts_k T) n c [sm_t 1 mi 0, sm_sh mi k, sm_t 5 ro (sm_sh mi k), sm_t 4 ro (sm_sh mi k)] ∧ _ ≤ ts_ks (ts_k T) n c [sm_t 1 mi 0, sm_sh mi k, sm_t 5 ro (sm_sh mi k), sm_t 4 ro (sm_sh mi k)] := ts_kle [sm_t 1 mi 0, sm_sh mi k, sm_t 5 ro (sm_sh mi k), sm_t 4 ro (sm_sh mi k)] [] (ts_k T) n c
  refine hm_callV C (ct_TS_made Mp3_1 tm F3 T3 G dr _ _ se hE3_1.1 (by omega) 4 ro (sm_sh mi k) ro' (some q2) ((o2.mono hP2.2.2.1).mono hP3.2.2.1) (Or.inr ⟨_, _, rfl, hP3.2.2.1 _ _ _ hq2⟩) (fun h => by cases h.2) (by omega) (by omega) (fun h => by omega) (fun h => by omega)) nV_TS_made [.int (nI 4), va_rf ro', va_rf (some q2)] rfl htt3_1 rfl nq_EN_66 nj_TS_made nx_TS_made rfl (rest := [.ref a]) rfl (Nat.le_of_ble_eq_true rfl) (by decide) (by decide) (by omega) (by omega) nd_EN_turnReceiving_32 (fun r M3 hp => ?_)
  obtain ⟨q4, F4, T4, rfl, hP4, ⟨i4, hq4⟩, hn4⟩ := hp
  have hE4 : en_P D tm M F T G n c se (dr) [sm_t 1 mi 0, sm_sh mi k, sm_t 5 ro (sm_sh mi k), sm_t 4 ro (sm_sh mi k)] a lk M3 F4 T4 := hE3_1.tr (hP4.en a lk)
  have hA4 := hAA3_1.step hP4.2.1
  have hL4 := hL3_1.step hP4.2.1 hP4.2.2.1
  have hb4 : _ ∧ _ ≤ n + 4 := hE4.bd hcn
  obtain ⟨la4, ht4, -⟩ := ts_tm hE4.1
  refine hm_stk (st' := [.ref q4, .ref a]) rfl ?_
  refine hm_put C nF_EN_21 hA4.1 (Nat.le_of_ble_eq_true rfl) rfl rfl nd_EN_turnReceiving_35 ?_
  refine hm_eqM (M' := hm_up M3 a (hm_ob 3 [va_rf bs', .ref q4, va_rf (some m0), va_rf th', va_rf sc', .int (nI st), .int (nI bf), .ref q3, .int (nI nx), .ref lk, .int (nI lf.length)])) rfl ?_
  generalize hM4_1 : hm_up M3 a (hm_ob 3 [va_rf bs', .ref q4, va_rf (some m0), va_rf th', va_rf sc', .int (nI st), .int (nI bf), .ref q3, .int (nI nx), .ref lk, .int (nI lf.length)]) = Mp4_1
  have hE4_1 : en_P D tm M F T G n c se (dr) [sm_t 1 mi 0, sm_sh mi k, sm_t 5 ro (sm_sh mi k), sm_t 4 ro (sm_sh mi k)] a lk Mp4_1 F4 T4 := by rw [← hM4_1]; exact hE4.put (Or.inl rfl) hA4.2
  have hL4_1 : en_L D Mp4_1 F4 T4 lk f lf := by rw [← hM4_1]; exact hL4.put hA4.1
  have hAA4_1 : hm_ow Mp4_1 F4 a (hm_ob 3 [va_rf bs', .ref q4, va_rf (some m0), va_rf th', va_rf sc', .int (nI st), .int (nI bf), .ref q3, .int (nI nx), .ref lk, .int (nI lf.length)]) := by rw [← hM4_1]; exact hA4.self
  have htt4_1 : Mp4_1 tm = some (hm_ob 1 [.ref la4, .int (nI (dr)), .int (nI se)]) := by rw [← hM4_1, hm_up_n _ _ (hm_ne ht4 hA4.1 (by decide))]; exact ht4
  refine hm_aload_n C nd_EN_turnReceiving_38 rfl ?_
  refine hm_aload_n C nd_EN_turnReceiving_39 rfl ?_
  refine hm_put C nF_EN_34 hAA4_1.1 (Nat.le_of_ble_eq_true rfl) rfl rfl nd_EN_turnReceiving_40 ?_
  refine hm_eqM (M' := hm_up Mp4_1 a (hm_ob 3 [va_rf bs', .ref q4, va_rf (some m0), .ref p, va_rf sc', .int (nI st), .int (nI bf), .ref q3, .int (nI nx), .ref lk, .int (nI lf.length)])) rfl ?_
  generalize hM4_2 : hm_up Mp4_1 a (hm_ob 3 [va_rf bs', .ref q4, va_rf (some m0), .ref p, va_rf sc', .int (nI st), .int (nI bf), .ref q3, .int (nI nx), .ref lk, .int (nI lf.length)]) = Mp4_2
  have hE4_2 : en_P D tm M F T G n c se (dr) [sm_t 1 mi 0, sm_sh mi k, sm_t 5 ro (sm_sh mi k), sm_t 4 ro (sm_sh mi k)] a lk Mp4_2 F4 T4 := by rw [← hM4_2]; exact hE4_1.put (Or.inl rfl) hAA4_1.2
  have hL4_2 : en_L D Mp4_2 F4 T4 lk f lf := by rw [← hM4_2]; exact hL4_1.put hAA4_1.1
  have hAA4_2 : hm_ow Mp4_2 F4 a (hm_ob 3 [va_rf bs', .ref q4, va_rf (some m0), .ref p, va_rf sc', .int (nI st), .int (nI bf), .ref q3, .int (nI nx), .ref lk, .int (nI lf.length)]) := by rw [← hM4_2]; exact hAA4_1.self
  have htt4_2 : Mp4_2 tm = some (hm_ob 1 [.ref la4, .int (nI (dr)), .int (nI se)]) := by rw [← hM4_2, hm_up_n _ _ (hm_ne htt4_1 hAA4_1.1 (by decide))]; exact htt4_1
  refine hm_aload_n C nd_EN_turnReceiving_43 rfl ?_
  refine hm_iconst (v := 0) C nd_EN_turnReceiving_44 (by decide) ?_
  refine hm_put C nF_EN_50 hAA4_2.1 (Nat.le_of_ble_eq_true rfl) rfl rfl nd_EN_turnReceiving_45 ?_
  refine hm_eqM (M' := hm_up Mp4_2 a (hm_ob 3 [va_rf bs', .ref q4, va_rf (some m0), .ref p, va_rf sc', .int (nI st), .int (nI bf), .ref q3, .int 0, .ref lk, .int (nI lf.length)])) rfl ?_
  generalize hM4_3 : hm_up Mp4_2 a (hm_ob 3 [va_rf bs', .ref q4, va_rf (some m0), .ref p, va_rf sc', .int (nI st), .int (nI bf), .ref q3, .int 0, .ref lk, .int (nI lf.length)]) = Mp4_3
  have hE4_3 : en_P D tm M F T G n c se (dr) [sm_t 1 mi 0, sm_sh mi k, sm_t 5 ro (sm_sh mi k), sm_t 4 ro (sm_sh mi k)] a lk Mp4_3 F4 T4 := by rw [← hM4_3]; exact hE4_2.put (Or.inl rfl) hAA4_2.2
  have hL4_3 : en_L D Mp4_3 F4 T4 lk f lf := by rw [← hM4_3]; exact hL4_2.put hAA4_2.1
  have hAA4_3 : hm_ow Mp4_3 F4 a (hm_ob 3 [va_rf bs', .ref q4, va_rf (some m0), .ref p, va_rf sc', .int (nI st), .int (nI bf), .ref q3, .int 0, .ref lk, .int (nI lf.length)]) := by rw [← hM4_3]; exact hAA4_2.self
  have htt4_3 : Mp4_3 tm = some (hm_ob 1 [.ref la4, .int (nI (dr)), .int (nI se)]) := by rw [← hM4_3, hm_up_n _ _ (hm_ne htt4_2 hAA4_2.1 (by decide))]; exact htt4_2
  refine hm_aload_n C nd_EN_turnReceiving_48 rfl ?_
  refine hm_null C nd_EN_turnReceiving_49 ?_
  refine hm_put C nF_EN_37 hAA4_3.1 (Nat.le_of_ble_eq_true rfl) rfl rfl nd_EN_turnReceiving_50 ?_
  refine hm_eqM (M' := hm_up Mp4_3 a (hm_ob 3 [va_rf bs', .ref q4, va_rf (some m0), .ref p, .null, .int (nI st), .int (nI bf), .ref q3, .int 0, .ref lk, .int (nI lf.length)])) rfl ?_
  generalize hM4_4 : hm_up Mp4_3 a (hm_ob 3 [va_rf bs', .ref q4, va_rf (some m0), .ref p, .null, .int (nI st), .int (nI bf), .ref q3, .int 0, .ref lk, .int (nI lf.length)]) = Mp4_4
  have hE4_4 : en_P D tm M F T G n c se (dr) [sm_t 1 mi 0, sm_sh mi k, sm_t 5 ro (sm_sh mi k), sm_t 4 ro (sm_sh mi k)] a lk Mp4_4 F4 T4 := by rw [← hM4_4]; exact hE4_3.put (Or.inl rfl) hAA4_3.2
  have hL4_4 : en_L D Mp4_4 F4 T4 lk f lf := by rw [← hM4_4]; exact hL4_3.put hAA4_3.1
  have hAA4_4 : hm_ow Mp4_4 F4 a (hm_ob 3 [va_rf bs', .ref q4, va_rf (some m0), .ref p, .null, .int (nI st), .int (nI bf), .ref q3, .int 0, .ref lk, .int (nI lf.length)]) := by rw [← hM4_4]; exact hAA4_3.self
  have htt4_4 : Mp4_4 tm = some (hm_ob 1 [.ref la4, .int (nI (dr)), .int (nI se)]) := by rw [← hM4_4, hm_up_n _ _ (hm_ne htt4_3 hAA4_3.1 (by decide))]; exact htt4_3
  exact hm_vret C E (by omega) (by omega) (⟨F4, T4, rfl, hE4_4, ⟨bs', some q4, some m0, some p, none, some q3, f, hAA4_4, ((o1.mono hP2.2.2.1).mono hP3.2.2.1).mono hP4.2.2.1, Or.inr ⟨q4, i4, rfl, hq4⟩, ((o3.mono hP2.2.2.1).mono hP3.2.2.1).mono hP4.2.2.1, Or.inr ⟨p, ip, rfl, hP4.2.2.1 _ _ _ (hP3.2.2.1 _ _ _ (hP2.2.2.1 _ _ _ hTp))⟩, ts_o_0, Or.inr ⟨q3, i3, rfl, hP4.2.2.1 _ _ _ hq3⟩, hL4_4⟩⟩) nd_EN_turnReceiving_53
set_option maxHeartbeats 4000000 in
set_option maxRecDepth 100000 in
theorem ct_EN_turnSending {l : Launch} {D : va_G} {BG : Nat → Option Cell} (M : hm_M) (tm : Nat) (F : Nat → Prop) (T : Nat → Nat → Nat → Prop) (G : Nat → Prop) (dr n c se : Nat) (hS : ts_S D M tm F T G dr n c se) (hcn : c ≤ 2 * n + 10) (hn : n ≤ 19800) (a lk bs ro mi th sc st bf rc nx : Nat) (lf : List (Nat × Nat × Nat)) (hR : en_R D M F T a lk bs ro mi th sc st bf rc nx lf) (k e : Nat) (hth : th = sm_t 1 k 0) (hk : k = sm_t 0 e 0) : hm_ct l D BG ny_EN_turnSending prog_2_method_4_code 3 none 10 244 (ts_kc (ts_k T) n c [sm_t 0 (dr + 1) 0, sm_t 1 (sm_t 0 (dr + 1) 0) 0, sm_sh (sm_t 0 (dr + 1) 0) k, sm_t 5 ro (sm_sh (sm_t 0 (dr + 1) 0) k), sm_t 4 ro (sm_sh (sm_t 0 (dr + 1) 0) k)]) (ts_ks (ts_k T) n c [sm_t 0 (dr + 1) 0, sm_t 1 (sm_t 0 (dr + 1) 0) 0, sm_sh (sm_t 0 (dr + 1) 0) k, sm_t 5 ro (sm_sh (sm_t 0 (dr + 1) 0) k), sm_t 4 ro (sm_sh (sm_t 0 (dr + 1) 0) k)]) [.ref a, .ref tm] M (fun r M' => ∃ F' T', r = none ∧ en_P D tm M F T G n c se (dr + 1) [sm_t 0 (dr + 1) 0, sm_t 1 (sm_t 0 (dr + 1) 0) 0, sm_sh (sm_t 0 (dr + 1) 0) k, sm_t 5 ro (sm_sh (sm_t 0 (dr + 1) 0) k), sm_t 4 ro (sm_sh (sm_t 0 (dr + 1) 0) k)] a lk M' F' T' ∧ en_R D M' F' T' a lk bs (sm_t 4 ro (sm_sh (sm_t 0 (dr + 1) 0) k)) (sm_t 0 (dr + 1) 0) th (sm_t 5 ro (sm_sh (sm_t 0 (dr + 1) 0) k)) 0 st rc nx lf) := by
  refine hm_ct_of (by decide +kernel) (by exact Nat.le_of_ble_eq_true rfl) ?_
  intro X C E
  have C : hm_C X l D BG prog_2_method_4_code "TurnedKeys$End" "turnSending" 3 10 244 (ts_kc (ts_k T) n c [sm_t 0 (dr + 1) 0, sm_t 1 (sm_t 0 (dr + 1) 0) 0, sm_sh (sm_t 0 (dr + 1) 0) k, sm_t 5 ro (sm_sh (sm_t 0 (dr + 1) 0) k), sm_t 4 ro (sm_sh (sm_t 0 (dr + 1) 0) k)]) (ts_ks (ts_k T) n c [sm_t 0 (dr + 1) 0, sm_t 1 (sm_t 0 (dr + 1) 0) 0, sm_sh (sm_t 0 (dr + 1) 0) k, sm_t 5 ro (sm_sh (sm_t 0 (dr + 1) 0) k), sm_t 4 ro (sm_sh (sm_t 0 (dr + 1) 0) k)]) := C
  refine hm_lv (lv' := [(0, .ref a), (1, .ref tm)]) rfl ?_
  obtain ⟨bs', ro', mi', th', sc', rc', f, hA, o1, o2, o3, o4, o5, o6, hL⟩ := hR
  obtain ⟨la0, ht0, -⟩ := ts_tm hS
  obtain ⟨p, ip, rfl, hTp⟩ := ts_o_so o4 (by rw [hth]; exact sm_t_ne _ _ _)
  rw [hth] at hTp
  have hE0 := en_P.rf (a := a) (lk := lk) hS
  have kz := ts_kz (ts_k T) n c
  have hb0 : _ ∧ _ ≤ n + 0 := hE0.bd hcn
  refine hm_aload_n C nd_EN_turnSending_0 rfl ?_
  refine hm_aload_n C nd_EN_turnSending_1 rfl ?_
  refine hm_get C nF_EN_40 hA.1 rfl nd_EN_turnSending_2 ?_
  refine hm_put C nF_EN_44 hA.1 (Nat.le_of_ble_eq_true rfl) rfl rfl nd_EN_turnSending_5 ?_
  refine hm_eqM (M' := hm_up M a (hm_ob 3 [va_rf bs', va_rf ro', va_rf mi', va_rf (some p), va_rf sc', .int (nI st), .int (nI st), va_rf rc', .int (nI nx), .ref lk, .int (nI lf.length)])) rfl ?_
  generalize hM0_1 : hm_up M a (hm_ob 3 [va_rf bs', va_rf ro', va_rf mi', va_rf (some p), va_rf sc', .int (nI st), .int (nI st), va_rf rc', .int (nI nx), .ref lk, .int (nI lf.length)]) = Mp0_1
  have hE0_1 : en_P D tm M F T G n c se (dr) [] a lk Mp0_1 F T := by rw [← hM0_1]; exact hE0.put (Or.inl rfl) hA.2
  have hL0_1 : en_L D Mp0_1 F T lk f lf := by rw [← hM0_1]; exact hL.put hA.1
  have hAA0_1 : hm_ow Mp0_1 F a (hm_ob 3 [va_rf bs', va_rf ro', va_rf mi', va_rf (some p), va_rf sc', .int (nI st), .int (nI st), va_rf rc', .int (nI nx), .ref lk, .int (nI lf.length)]) := by rw [← hM0_1]; exact hA.self
  have htt0_1 : Mp0_1 tm = some (hm_ob 1 [.ref la0, .int (nI (dr)), .int (nI se)]) := by rw [← hM0_1, hm_up_n _ _ (hm_ne ht0 hA.1 (by decide))]; exact ht0
  refine hm_aload_n C nd_EN_turnSending_8 rfl ?_
  refine hm_iconst (v := 0) C nd_EN_turnSending_9 (by decide) ?_
  refine hm_put C nF_EN_40 hAA0_1.1 (Nat.le_of_ble_eq_true rfl) rfl rfl nd_EN_turnSending_10 ?_
  refine hm_eqM (M' := hm_up Mp0_1 a (hm_ob 3 [va_rf bs', va_rf ro', va_rf mi', va_rf (some p), va_rf sc', .int 0, .int (nI st), va_rf rc', .int (nI nx), .ref lk, .int (nI lf.length)])) rfl ?_
  generalize hM0_2 : hm_up Mp0_1 a (hm_ob 3 [va_rf bs', va_rf ro', va_rf mi', va_rf (some p), va_rf sc', .int 0, .int (nI st), va_rf rc', .int (nI nx), .ref lk, .int (nI lf.length)]) = Mp0_2
  have hE0_2 : en_P D tm M F T G n c se (dr) [] a lk Mp0_2 F T := by rw [← hM0_2]; exact hE0_1.put (Or.inl rfl) hAA0_1.2
  have hL0_2 : en_L D Mp0_2 F T lk f lf := by rw [← hM0_2]; exact hL0_1.put hAA0_1.1
  have hAA0_2 : hm_ow Mp0_2 F a (hm_ob 3 [va_rf bs', va_rf ro', va_rf mi', va_rf (some p), va_rf sc', .int 0, .int (nI st), va_rf rc', .int (nI nx), .ref lk, .int (nI lf.length)]) := by rw [← hM0_2]; exact hAA0_1.self
  have htt0_2 : Mp0_2 tm = some (hm_ob 1 [.ref la0, .int (nI (dr)), .int (nI se)]) := by rw [← hM0_2, hm_up_n _ _ (hm_ne htt0_1 hAA0_1.1 (by decide))]; exact htt0_1
  refine hm_aload_n C nd_EN_turnSending_13 rfl ?_
  refine hm_aload_n C nd_EN_turnSending_14 rfl ?_
  have rm1 : ts_kc (ts_k T) n c [sm_t 0 (dr + 1) 0] = _ ∧ ts_ks (ts_k T) n c [sm_t 0 (dr + 1) 0] = _ := hE0_2.room [sm_t 0 (dr + 1) 0]
  have rl1 : _ ≤ ts_kc (ts_k T) n c [sm_t 0 (dr + 1) 0, sm_t 1 (sm_t 0 (dr + 1) 0) 0, sm_sh (sm_t 0 (dr + 1) 0) k, sm_t 5 ro (sm_sh (sm_t 0 (dr + 1) 0) k), sm_t 4 ro (sm_sh (sm_t 0 (dr + 1) 0) k)] ∧ _ ≤ ts_ks (ts_k T) n c [sm_t 0 (dr + 1) 0, sm_t 1 (sm_t 0 (dr + 1) 0) 0, sm_sh (sm_t 0 (dr + 1) 0) k, sm_t 5 ro (sm_sh (sm_t 0 (dr + 1) 0) k), sm_t 4 ro (sm_sh (sm_t 0 (dr + 1) 0) k)] := ts_kle [sm_t 0 (dr + 1) 0] [sm_t 1 (sm_t 0 (dr + 1) 0) 0, sm_sh (sm_t 0 (dr + 1) 0) k, sm_t 5 ro (sm_sh (sm_t 0 (dr + 1) 0) k), sm_t 4 ro (sm_sh (sm_t 0 (dr + 1) 0) k)] (ts_k T) n c
  refine hm_callV C (ct_TS_draw Mp0_2 tm F T G dr _ _ se hE0_2.1 (by omega)) nV_TS_draw [] rfl htt0_2 rfl nq_EN_56 nj_TS_draw nx_TS_draw rfl (rest := [.ref a]) rfl (Nat.le_of_ble_eq_true rfl) (by decide) (by decide) (by omega) (by omega) nd_EN_turnSending_15 (fun r M1 hp => ?_)
  obtain ⟨q1, F1, T1, rfl, hP1, hq1⟩ := hp
  have hE1 : en_P D tm M F T G n c se ((dr + 1)) [sm_t 0 (dr + 1) 0] a lk M1 F1 T1 := hE0_2.tr (hP1.en a lk)
  have hA1 := hAA0_2.step hP1.2.1
  have hL1 := hL0_2.step hP1.2.1 hP1.2.2.1
  have hb1 : _ ∧ _ ≤ n + 1 := hE1.bd hcn
  obtain ⟨la1, ht1, -⟩ := ts_tm hE1.1
  refine hm_stk (st' := [.ref q1, .ref a]) rfl ?_
  refine hm_put C nF_EN_24 hA1.1 (Nat.le_of_ble_eq_true rfl) rfl rfl nd_EN_turnSending_18 ?_
  refine hm_eqM (M' := hm_up M1 a (hm_ob 3 [va_rf bs', va_rf ro', .ref q1, va_rf (some p), va_rf sc', .int 0, .int (nI st), va_rf rc', .int (nI nx), .ref lk, .int (nI lf.length)])) rfl ?_
  generalize hM1_1 : hm_up M1 a (hm_ob 3 [va_rf bs', va_rf ro', .ref q1, va_rf (some p), va_rf sc', .int 0, .int (nI st), va_rf rc', .int (nI nx), .ref lk, .int (nI lf.length)]) = Mp1_1
  have hE1_1 : en_P D tm M F T G n c se ((dr + 1)) [sm_t 0 (dr + 1) 0] a lk Mp1_1 F1 T1 := by rw [← hM1_1]; exact hE1.put (Or.inl rfl) hA1.2
  have hL1_1 : en_L D Mp1_1 F1 T1 lk f lf := by rw [← hM1_1]; exact hL1.put hA1.1
  have hAA1_1 : hm_ow Mp1_1 F1 a (hm_ob 3 [va_rf bs', va_rf ro', .ref q1, va_rf (some p), va_rf sc', .int 0, .int (nI st), va_rf rc', .int (nI nx), .ref lk, .int (nI lf.length)]) := by rw [← hM1_1]; exact hA1.self
  have htt1_1 : Mp1_1 tm = some (hm_ob 1 [.ref la1, .int (nI ((dr + 1))), .int (nI se)]) := by rw [← hM1_1, hm_up_n _ _ (hm_ne ht1 hA1.1 (by decide))]; exact ht1
  refine hm_aload_n C nd_EN_turnSending_21 rfl ?_
  refine hm_aload_n C nd_EN_turnSending_22 rfl ?_
  refine hm_get C nF_EN_24 hAA1_1.1 rfl nd_EN_turnSending_23 ?_
  refine hm_aload_n C nd_EN_turnSending_26 rfl ?_
  refine hm_get C nF_EN_34 hAA1_1.1 rfl nd_EN_turnSending_27 ?_
  refine hm_stk (st' := [.ref p, .ref q1, .ref tm]) rfl ?_
  have rm3 : ts_kc (ts_k T) n c [sm_t 0 (dr + 1) 0, sm_t 1 (sm_t 0 (dr + 1) 0) 0, sm_sh (sm_t 0 (dr + 1) 0) k] = _ ∧ ts_ks (ts_k T) n c [sm_t 0 (dr + 1) 0, sm_t 1 (sm_t 0 (dr + 1) 0) 0, sm_sh (sm_t 0 (dr + 1) 0) k] = _ := hE1_1.room [sm_t 1 (sm_t 0 (dr + 1) 0) 0, sm_sh (sm_t 0 (dr + 1) 0) k]
  have rl3 : _ ≤ ts_kc (ts_k T) n c [sm_t 0 (dr + 1) 0, sm_t 1 (sm_t 0 (dr + 1) 0) 0, sm_sh (sm_t 0 (dr + 1) 0) k, sm_t 5 ro (sm_sh (sm_t 0 (dr + 1) 0) k), sm_t 4 ro (sm_sh (sm_t 0 (dr + 1) 0) k)] ∧ _ ≤ ts_ks (ts_k T) n c [sm_t 0 (dr + 1) 0, sm_t 1 (sm_t 0 (dr + 1) 0) 0, sm_sh (sm_t 0 (dr + 1) 0) k, sm_t 5 ro (sm_sh (sm_t 0 (dr + 1) 0) k), sm_t 4 ro (sm_sh (sm_t 0 (dr + 1) 0) k)] := ts_kle [sm_t 0 (dr + 1) 0, sm_t 1 (sm_t 0 (dr + 1) 0) 0, sm_sh (sm_t 0 (dr + 1) 0) k] [sm_t 5 ro (sm_sh (sm_t 0 (dr + 1) 0) k), sm_t 4 ro (sm_sh (sm_t 0 (dr + 1) 0) k)] (ts_k T) n c
  refine hm_callV C (ct_TS_sharedOf Mp1_1 tm F1 T1 G (dr + 1) _ _ se hE1_1.1 (by omega) (by omega) q1 _ (sm_t 0 (dr + 1) 0) (dr + 1) p ip k e hq1 rfl (hP1.2.2.1 _ _ _ hTp) hk) nV_TS_sharedOf [.ref q1, .ref p] rfl htt1_1 rfl nq_EN_62 nj_TS_sharedOf nx_TS_sharedOf rfl (rest := []) rfl (Nat.le_of_ble_eq_true rfl) (by decide) (by decide) (by omega) (by omega) nd_EN_turnSending_30 (fun r M2 hp => ?_)
  obtain ⟨q3, F3, T3, rfl, hP3, i3, hq3⟩ := hp
  have hE3 : en_P D tm M F T G n c se ((dr + 1)) [sm_t 0 (dr + 1) 0, sm_t 1 (sm_t 0 (dr + 1) 0) 0, sm_sh (sm_t 0 (dr + 1) 0) k] a lk M2 F3 T3 := hE1_1.tr (hP3.en a lk)
  have hA3 := hAA1_1.step hP3.2.1
  have hL3 := hL1_1.step hP3.2.1 hP3.2.2.1
  have hb3 : _ ∧ _ ≤ n + 3 := hE3.bd hcn
  obtain ⟨la3, ht3, -⟩ := ts_tm hE3.1
  refine hm_stk (st' := [.ref q3]) rfl ?_
  refine hm_astore_n C [(2, .ref q3), (0, .ref a), (1, .ref tm)] nd_EN_turnSending_33 (by decide) rfl ?_
  refine hm_aload_n C nd_EN_turnSending_34 rfl ?_
  refine hm_aload_n C nd_EN_turnSending_35 rfl ?_
  refine hm_iconst (v := 5) C nd_EN_turnSending_36 (by decide) ?_
  refine hm_aload_n C nd_EN_turnSending_37 rfl ?_
  refine hm_get C nF_EN_21 hA3.1 rfl nd_EN_turnSending_38 ?_
  refine hm_aload_n C nd_EN_turnSending_41 rfl ?_
  refine hm_stk (st' := [va_rf (some q3), va_rf ro', .int (nI 5), .ref tm, .ref a]) rfl ?_
  have rm4 : ts_kc (ts_k T) n c [sm_t 0 (dr + 1) 0, sm_t 1 (sm_t 0 (dr + 1) 0) 0, sm_sh (sm_t 0 (dr + 1) 0) k, sm_t 5 ro (sm_sh (sm_t 0 (dr + 1) 0) k)] = _ ∧ ts_ks (ts_k T) n c [sm_t 0 (dr + 1) 0, sm_t 1 (sm_t 0 (dr + 1) 0) 0, sm_sh (sm_t 0 (dr + 1) 0) k, sm_t 5 ro (sm_sh (sm_t 0 (dr + 1) 0) k)] = _ := hE3.room [sm_t 5 ro (sm_sh (sm_t 0 (dr + 1) 0) k)]
  have rl4 : _ ≤ ts_kc (ts_k T) n c [sm_t 0 (dr + 1) 0, sm_t 1 (sm_t 0 (dr + 1) 0) 0, sm_sh (sm_t 0 (dr + 1) 0) k, sm_t 5 ro (sm_sh (sm_t 0 (dr + 1) 0) k), sm_t 4 ro (sm_sh (sm_t 0 (dr + 1) 0) k)] ∧ _ ≤ ts_ks (ts_k T) n c [sm_t 0 (dr + 1) 0, sm_t 1 (sm_t 0 (dr + 1) 0) 0, sm_sh (sm_t 0 (dr + 1) 0) k, sm_t 5 ro (sm_sh (sm_t 0 (dr + 1) 0) k), sm_t 4 ro (sm_sh (sm_t 0 (dr + 1) 0) k)] := ts_kle [sm_t 0 (dr + 1) 0, sm_t 1 (sm_t 0 (dr + 1) 0) 0, sm_sh (sm_t 0 (dr + 1) 0) k, sm_t 5 ro (sm_sh (sm_t 0 (dr + 1) 0) k)] [sm_t 4 ro (sm_sh (sm_t 0 (dr + 1) 0) k)] (ts_k T) n c
  refine hm_callV C (ct_TS_made M2 tm F3 T3 G (dr + 1) _ _ se hE3.1 (by omega) 5 ro (sm_sh (sm_t 0 (dr + 1) 0) k) ro' (some q3) ((o2.mono hP1.2.2.1).mono hP3.2.2.1) (Or.inr ⟨_, _, rfl, hq3⟩) (fun h => by cases h.2) (by omega) (by omega) (fun h => by omega) (fun h => by omega)) nV_TS_made [.int (nI 5), va_rf ro', va_rf (some q3)] rfl ht3 rfl nq_EN_66 nj_TS_made nx_TS_made rfl (rest := [.ref a]) rfl (Nat.le_of_ble_eq_true rfl) (by decide) (by decide) (by omega) (by omega) nd_EN_turnSending_42 (fun r M3 hp => ?_)
  obtain ⟨q4, F4, T4, rfl, hP4, ⟨i4, hq4⟩, hn4⟩ := hp
  have hE4 : en_P D tm M F T G n c se ((dr + 1)) [sm_t 0 (dr + 1) 0, sm_t 1 (sm_t 0 (dr + 1) 0) 0, sm_sh (sm_t 0 (dr + 1) 0) k, sm_t 5 ro (sm_sh (sm_t 0 (dr + 1) 0) k)] a lk M3 F4 T4 := hE3.tr (hP4.en a lk)
  have hA4 := hA3.step hP4.2.1
  have hL4 := hL3.step hP4.2.1 hP4.2.2.1
  have hb4 : _ ∧ _ ≤ n + 4 := hE4.bd hcn
  obtain ⟨la4, ht4, -⟩ := ts_tm hE4.1
  refine hm_stk (st' := [.ref q4, .ref a]) rfl ?_
  refine hm_put C nF_EN_37 hA4.1 (Nat.le_of_ble_eq_true rfl) rfl rfl nd_EN_turnSending_45 ?_
  refine hm_eqM (M' := hm_up M3 a (hm_ob 3 [va_rf bs', va_rf ro', .ref q1, va_rf (some p), .ref q4, .int 0, .int (nI st), va_rf rc', .int (nI nx), .ref lk, .int (nI lf.length)])) rfl ?_
  generalize hM4_1 : hm_up M3 a (hm_ob 3 [va_rf bs', va_rf ro', .ref q1, va_rf (some p), .ref q4, .int 0, .int (nI st), va_rf rc', .int (nI nx), .ref lk, .int (nI lf.length)]) = Mp4_1
  have hE4_1 : en_P D tm M F T G n c se ((dr + 1)) [sm_t 0 (dr + 1) 0, sm_t 1 (sm_t 0 (dr + 1) 0) 0, sm_sh (sm_t 0 (dr + 1) 0) k, sm_t 5 ro (sm_sh (sm_t 0 (dr + 1) 0) k)] a lk Mp4_1 F4 T4 := by rw [← hM4_1]; exact hE4.put (Or.inl rfl) hA4.2
  have hL4_1 : en_L D Mp4_1 F4 T4 lk f lf := by rw [← hM4_1]; exact hL4.put hA4.1
  have hAA4_1 : hm_ow Mp4_1 F4 a (hm_ob 3 [va_rf bs', va_rf ro', .ref q1, va_rf (some p), .ref q4, .int 0, .int (nI st), va_rf rc', .int (nI nx), .ref lk, .int (nI lf.length)]) := by rw [← hM4_1]; exact hA4.self
  have htt4_1 : Mp4_1 tm = some (hm_ob 1 [.ref la4, .int (nI ((dr + 1))), .int (nI se)]) := by rw [← hM4_1, hm_up_n _ _ (hm_ne ht4 hA4.1 (by decide))]; exact ht4
  refine hm_aload_n C nd_EN_turnSending_48 rfl ?_
  refine hm_aload_n C nd_EN_turnSending_49 rfl ?_
  refine hm_iconst (v := 4) C nd_EN_turnSending_50 (by decide) ?_
  refine hm_aload_n C nd_EN_turnSending_51 rfl ?_
  refine hm_get C nF_EN_21 hAA4_1.1 rfl nd_EN_turnSending_52 ?_
  refine hm_aload_n C nd_EN_turnSending_55 rfl ?_
  refine hm_stk (st' := [va_rf (some q3), va_rf ro', .int (nI 4), .ref tm, .ref a]) rfl ?_
  have rm5 : ts_kc (ts_k T) n c [sm_t 0 (dr + 1) 0, sm_t 1 (sm_t 0 (dr + 1) 0) 0, sm_sh (sm_t 0 (dr + 1) 0) k, sm_t 5 ro (sm_sh (sm_t 0 (dr + 1) 0) k), sm_t 4 ro (sm_sh (sm_t 0 (dr + 1) 0) k)] = _ ∧ ts_ks (ts_k T) n c [sm_t 0 (dr + 1) 0, sm_t 1 (sm_t 0 (dr + 1) 0) 0, sm_sh (sm_t 0 (dr + 1) 0) k, sm_t 5 ro (sm_sh (sm_t 0 (dr + 1) 0) k), sm_t 4 ro (sm_sh (sm_t 0 (dr + 1) 0) k)] = _ := hE4_1.room [sm_t 4 ro (sm_sh (sm_t 0 (dr + 1) 0) k)]
  have rl5 : _ ≤ ts_kc (ts_k T) n c [sm_t 0 (dr + 1) 0, sm_t 1 (sm_t 0 (dr + 1) 0) 0, sm_sh (sm_t 0 (dr + 1) 0) k, sm_t 5 ro (sm_sh (sm_t 0 (dr + 1) 0) k), sm_t 4 ro (sm_sh (sm_t 0 (dr + 1) 0) k)] ∧ _ ≤ ts_ks (ts_k T) n c [sm_t 0 (dr + 1) 0, sm_t 1 (sm_t 0 (dr + 1) 0) 0, sm_sh (sm_t 0 (dr + 1) 0) k, sm_t 5 ro (sm_sh (sm_t 0 (dr + 1) 0) k), sm_t 4 ro (sm_sh (sm_t 0 (dr + 1) 0) k)] := ts_kle [sm_t 0 (dr + 1) 0, sm_t 1 (sm_t 0 (dr + 1) 0) 0, sm_sh (sm_t 0 (dr + 1) 0) k, sm_t 5 ro (sm_sh (sm_t 0 (dr + 1) 0) k), sm_t 4 ro (sm_sh (sm_t 0 (dr + 1) 0) k)] [] (ts_k T) n c
  refine hm_callV C (ct_TS_made Mp4_1 tm F4 T4 G (dr + 1) _ _ se hE4_1.1 (by omega) 4 ro (sm_sh (sm_t 0 (dr + 1) 0) k) ro' (some q3) (((o2.mono hP1.2.2.1).mono hP3.2.2.1).mono hP4.2.2.1) (Or.inr ⟨_, _, rfl, hP4.2.2.1 _ _ _ hq3⟩) (fun h => by cases h.2) (by omega) (by omega) (fun h => by omega) (fun h => by omega)) nV_TS_made [.int (nI 4), va_rf ro', va_rf (some q3)] rfl htt4_1 rfl nq_EN_66 nj_TS_made nx_TS_made rfl (rest := [.ref a]) rfl (Nat.le_of_ble_eq_true rfl) (by decide) (by decide) (by omega) (by omega) nd_EN_turnSending_56 (fun r M4 hp => ?_)
  obtain ⟨q5, F5, T5, rfl, hP5, ⟨i5, hq5⟩, hn5⟩ := hp
  have hE5 : en_P D tm M F T G n c se ((dr + 1)) [sm_t 0 (dr + 1) 0, sm_t 1 (sm_t 0 (dr + 1) 0) 0, sm_sh (sm_t 0 (dr + 1) 0) k, sm_t 5 ro (sm_sh (sm_t 0 (dr + 1) 0) k), sm_t 4 ro (sm_sh (sm_t 0 (dr + 1) 0) k)] a lk M4 F5 T5 := hE4_1.tr (hP5.en a lk)
  have hA5 := hAA4_1.step hP5.2.1
  have hL5 := hL4_1.step hP5.2.1 hP5.2.2.1
  have hb5 : _ ∧ _ ≤ n + 5 := hE5.bd hcn
  obtain ⟨la5, ht5, -⟩ := ts_tm hE5.1
  refine hm_stk (st' := [.ref q5, .ref a]) rfl ?_
  refine hm_put C nF_EN_21 hA5.1 (Nat.le_of_ble_eq_true rfl) rfl rfl nd_EN_turnSending_59 ?_
  refine hm_eqM (M' := hm_up M4 a (hm_ob 3 [va_rf bs', .ref q5, .ref q1, va_rf (some p), .ref q4, .int 0, .int (nI st), va_rf rc', .int (nI nx), .ref lk, .int (nI lf.length)])) rfl ?_
  generalize hM5_1 : hm_up M4 a (hm_ob 3 [va_rf bs', .ref q5, .ref q1, va_rf (some p), .ref q4, .int 0, .int (nI st), va_rf rc', .int (nI nx), .ref lk, .int (nI lf.length)]) = Mp5_1
  have hE5_1 : en_P D tm M F T G n c se ((dr + 1)) [sm_t 0 (dr + 1) 0, sm_t 1 (sm_t 0 (dr + 1) 0) 0, sm_sh (sm_t 0 (dr + 1) 0) k, sm_t 5 ro (sm_sh (sm_t 0 (dr + 1) 0) k), sm_t 4 ro (sm_sh (sm_t 0 (dr + 1) 0) k)] a lk Mp5_1 F5 T5 := by rw [← hM5_1]; exact hE5.put (Or.inl rfl) hA5.2
  have hL5_1 : en_L D Mp5_1 F5 T5 lk f lf := by rw [← hM5_1]; exact hL5.put hA5.1
  have hAA5_1 : hm_ow Mp5_1 F5 a (hm_ob 3 [va_rf bs', .ref q5, .ref q1, va_rf (some p), .ref q4, .int 0, .int (nI st), va_rf rc', .int (nI nx), .ref lk, .int (nI lf.length)]) := by rw [← hM5_1]; exact hA5.self
  have htt5_1 : Mp5_1 tm = some (hm_ob 1 [.ref la5, .int (nI ((dr + 1))), .int (nI se)]) := by rw [← hM5_1, hm_up_n _ _ (hm_ne ht5 hA5.1 (by decide))]; exact ht5
  exact hm_vret C E (by omega) (by omega) (⟨F5, T5, rfl, hE5_1, ⟨bs', some q5, some q1, some p, some q4, rc', f, hAA5_1, (((o1.mono hP1.2.2.1).mono hP3.2.2.1).mono hP4.2.2.1).mono hP5.2.2.1, Or.inr ⟨q5, i5, rfl, hq5⟩, Or.inr ⟨q1, _, rfl, hP5.2.2.1 _ _ _ (hP4.2.2.1 _ _ _ (hP3.2.2.1 _ _ _ hq1))⟩, (((o4.mono hP1.2.2.1).mono hP3.2.2.1).mono hP4.2.2.1).mono hP5.2.2.1, Or.inr ⟨q4, i4, rfl, hP5.2.2.1 _ _ _ hq4⟩, (((o6.mono hP1.2.2.1).mono hP3.2.2.1).mono hP4.2.2.1).mono hP5.2.2.1, hL5_1⟩⟩) nd_EN_turnSending_62
end
section
theorem en_L.wr5 {D : va_G} {M : hm_M} {F : Nat → Prop} {T : Nat → Nat → Nat → Prop} {lk a : Nat} {f : Nat → Option Nat} {lf : List (Nat × Nat × Nat)} {vs : List Value} {e : va_E} (h : en_L D M F T lk f lf) (ha : M a = some (hm_ob 5 vs)) : en_L D (hm_up M a e) F T lk f lf := by
  obtain ⟨h1, h2, h3, h4⟩ := h
  refine ⟨h1.put (Ne.symm (hm_neA ha h1.1)), h2, fun i q hq => ?_, h4⟩
  obtain ⟨h5, b, pk, ky, e1, e2, e3, e4⟩ := h3 i q hq
  exact ⟨h5, b, pk, ky, e1, e2.put (hm_ne e2.1 ha (by decide)), e3, e4⟩
set_option maxHeartbeats 4000000 in
set_option maxRecDepth 100000 in
theorem ct_EN_sealedWire {l : Launch} {D : va_G} {BG : Nat → Option Cell} (M : hm_M) (tm : Nat) (F : Nat → Prop) (T : Nat → Nat → Nat → Prop) (G : Nat → Prop) (dr n c se : Nat) (hS : ts_S D M tm F T G dr n c se) (hcn : c ≤ 2 * n + 10) (hn : n ≤ 19800) (a lk bs ro mi th sc st bf rc nx : Nat) (lf : List (Nat × Nat × Nat)) (hR : en_R D M F T a lk bs ro mi th sc st bf rc nx lf) (d s0 : Nat) (le : Option Nat) (hmi : mi = sm_t 0 d 0) (hsc : sc ≠ 0) : hm_ct l D BG ny_EN_sealedWire prog_2_method_5_code 6 (some (.object "TurnedKeys$Wire")) 9 221 (1 + ts_kc (ts_k T) n c [sm_t 6 sc 0, sm_t 1 mi 0, sm_t 7 sc 0]) (6 + ts_ks (ts_k T) n c [sm_t 6 sc 0, sm_t 1 mi 0, sm_t 7 sc 0]) [.ref a, .int (nI s0), va_rf le, .ref tm] M (fun r M' => ∃ wq F' T' pk ky, r = some (.ref wq) ∧ en_P D tm M F T G n c se dr [sm_t 6 sc 0, sm_t 1 mi 0, sm_t 7 sc 0] a lk M' F' T' ∧ hm_ow M' F' wq (hm_ob 5 [.int (nI s0), .int (nI st), .int (nI bf), va_rf pk, va_rf ky, va_rf le]) ∧ ts_o T' pk (sm_t 1 mi 0) ∧ ts_o T' ky (sm_t 6 sc 0) ∧ (¬ en_F F a lk wq → M wq = none) ∧ en_R D M' F' T' a lk bs ro mi th (sm_t 7 sc 0) (st + 1) bf rc nx lf) := by
  refine hm_ct_of (by decide +kernel) (by simp [lg_sl, hm_cat, hm_catI, hm_catR, hm_catN]) ?_
  intro X C E
  have C : hm_C X l D BG prog_2_method_5_code "TurnedKeys$End" "sealedWire" 6 9 221 (1 + ts_kc (ts_k T) n c [sm_t 6 sc 0, sm_t 1 mi 0, sm_t 7 sc 0]) (6 + ts_ks (ts_k T) n c [sm_t 6 sc 0, sm_t 1 mi 0, sm_t 7 sc 0]) := C
  refine hm_lv (lv' := [(0, .ref a), (1, .int (nI s0)), (2, va_rf le), (3, .ref tm)]) (by simp [lv_args, hm_cat, hm_catI, hm_catR, hm_catN]) ?_
  obtain ⟨bs', ro', mi', th', sc', rc', f, hA, o1, o2, o3, o4, o5, o6, hL⟩ := hR
  obtain ⟨la0, ht0, -⟩ := ts_tm hS
  obtain ⟨m0, im, rfl, hTm⟩ := ts_o_so o3 (by rw [hmi]; exact sm_t_ne _ _ _)
  have hE0 := en_P.rf (a := a) (lk := lk) hS
  have kz := ts_kz (ts_k T) n c
  have hb0 : _ ∧ _ ≤ n + 0 := hE0.bd hcn
  refine hm_aload_n C nd_EN_sealedWire_0 rfl ?_
  refine hm_bipush (v := 6) C nd_EN_sealedWire_1 (by decide) ?_
  refine hm_aload_n C nd_EN_sealedWire_3 rfl ?_
  refine hm_get C nF_EN_37 hA.1 rfl nd_EN_sealedWire_4 ?_
  refine hm_null C nd_EN_sealedWire_7 ?_
  refine hm_stk (st' := [va_rf none, va_rf sc', .int (nI 6), .ref tm]) rfl ?_
  have rm1 : ts_kc (ts_k T) n c [sm_t 6 sc 0] = _ ∧ ts_ks (ts_k T) n c [sm_t 6 sc 0] = _ := hE0.room [sm_t 6 sc 0]
  have rl1 : _ ≤ ts_kc (ts_k T) n c [sm_t 6 sc 0, sm_t 1 mi 0, sm_t 7 sc 0] ∧ _ ≤ ts_ks (ts_k T) n c [sm_t 6 sc 0, sm_t 1 mi 0, sm_t 7 sc 0] := ts_kle [sm_t 6 sc 0] [sm_t 1 mi 0, sm_t 7 sc 0] (ts_k T) n c
  refine hm_callV C (ct_TS_made M tm F T G dr _ _ se hE0.1 (by omega) 6 sc 0 sc' none o5 ts_o_0 (fun h => ts_o_nn o5 hsc h.1) (by omega) (by omega) (fun h => by omega) (fun h => by omega)) nV_TS_made [.int (nI 6), va_rf sc', va_rf none] rfl ht0 rfl nq_EN_66 nj_TS_made nx_TS_made rfl (rest := []) rfl (Nat.le_of_ble_eq_true rfl) (by decide) (by decide) (by omega) (by omega) nd_EN_sealedWire_8 (fun r M1 hp => ?_)
  obtain ⟨q1, F1, T1, rfl, hP1, ⟨i1, hq1⟩, hn1⟩ := hp
  have hE1 : en_P D tm M F T G n c se (dr) [sm_t 6 sc 0] a lk M1 F1 T1 := hE0.tr (hP1.en a lk)
  have hA1 := hA.step hP1.2.1
  have hL1 := hL.step hP1.2.1 hP1.2.2.1
  have hb1 : _ ∧ _ ≤ n + 1 := hE1.bd hcn
  obtain ⟨la1, ht1, -⟩ := ts_tm hE1.1
  refine hm_stk (st' := [.ref q1]) rfl ?_
  refine hm_astore C [(4, .ref q1), (0, .ref a), (1, .int (nI s0)), (2, va_rf le), (3, .ref tm)] nd_EN_sealedWire_11 (by decide) (by simp [hm_cat, hm_catI, hm_catR, hm_catN] <;> decide) ?_
  refine hm_newN C 6 nB_EN_70 rfl (by omega) (by omega) nd_EN_sealedWire_13 (fun wq hwq => ?_)
  have hfwq := hE1.fr hwq
  generalize hM1_1 : hm_up M1 wq (hm_ob 5 [.int 0, .int 0, .int 0, .null, .null, .null]) = Mp1_1
  have hE1_1 : en_P D tm M F T G n c se (dr) [sm_t 6 sc 0] a lk Mp1_1 F1 T1 := by rw [← hM1_1]; exact hE1.new hwq
  have hL1_1 : en_L D Mp1_1 F1 T1 lk f lf := by rw [← hM1_1]; exact hL1.new hwq
  have hAA1_1 : hm_ow Mp1_1 F1 a (hm_ob 3 [va_rf bs', va_rf ro', va_rf (some m0), va_rf th', va_rf sc', .int (nI st), .int (nI bf), va_rf rc', .int (nI nx), .ref lk, .int (nI lf.length)]) := by rw [← hM1_1]; exact hA1.put (hm_neF hA1.1 hwq)
  have htt1_1 : Mp1_1 tm = some (hm_ob 1 [.ref la1, .int (nI (dr)), .int (nI se)]) := by rw [← hM1_1, hm_up_n _ _ (hm_neF ht1 hwq)]; exact ht1
  have hWwq_1_1 : hm_ow Mp1_1 F1 wq (hm_ob 5 [.int 0, .int 0, .int 0, .null, .null, .null]) := ⟨by rw [← hM1_1]; exact hm_up_s _ _ _, fun q => ts_S_some hE1.1 q hwq⟩
  refine hm_dup C nd_EN_sealedWire_16 rfl ?_
  refine hm_iload_n C nd_EN_sealedWire_17 rfl ?_
  refine hm_aload_n C nd_EN_sealedWire_18 rfl ?_
  refine hm_get C nF_EN_40 hAA1_1.1 rfl nd_EN_sealedWire_19 ?_
  refine hm_aload_n C nd_EN_sealedWire_22 rfl ?_
  refine hm_get C nF_EN_44 hAA1_1.1 rfl nd_EN_sealedWire_23 ?_
  refine hm_aload_n C nd_EN_sealedWire_26 rfl ?_
  refine hm_aload_n C nd_EN_sealedWire_27 rfl ?_
  refine hm_get C nF_EN_24 hAA1_1.1 rfl nd_EN_sealedWire_28 ?_
  refine hm_stk (st' := [.ref m0, .ref tm, .int (nI bf), .int (nI st), .int (nI s0), .ref wq, .ref wq]) rfl ?_
  have rm2 : ts_kc (ts_k T) n c [sm_t 6 sc 0, sm_t 1 mi 0] = _ ∧ ts_ks (ts_k T) n c [sm_t 6 sc 0, sm_t 1 mi 0] = _ := hE1_1.room [sm_t 1 mi 0]
  have rl2 : _ ≤ ts_kc (ts_k T) n c [sm_t 6 sc 0, sm_t 1 mi 0, sm_t 7 sc 0] ∧ _ ≤ ts_ks (ts_k T) n c [sm_t 6 sc 0, sm_t 1 mi 0, sm_t 7 sc 0] := ts_kle [sm_t 6 sc 0, sm_t 1 mi 0] [sm_t 7 sc 0] (ts_k T) n c
  refine hm_callV C (ct_TS_publicOf Mp1_1 tm F1 T1 G dr _ _ se hE1_1.1 (by omega) m0 im mi d (hP1.2.2.1 _ _ _ hTm) hmi) nV_TS_publicOf [.ref m0] rfl htt1_1 rfl nq_EN_72 nj_TS_publicOf nx_TS_publicOf rfl (rest := [.int (nI bf), .int (nI st), .int (nI s0), .ref wq, .ref wq]) rfl (Nat.le_of_ble_eq_true rfl) (by decide) (by decide) (by omega) (by omega) nd_EN_sealedWire_31 (fun r M2 hp => ?_)
  obtain ⟨q2, F2, T2, rfl, hP2, i2, hq2⟩ := hp
  have hE2 : en_P D tm M F T G n c se (dr) [sm_t 6 sc 0, sm_t 1 mi 0] a lk M2 F2 T2 := hE1_1.tr (hP2.en a lk)
  have hA2 := hAA1_1.step hP2.2.1
  have hL2 := hL1_1.step hP2.2.1 hP2.2.2.1
  have hb2 : _ ∧ _ ≤ n + 2 := hE2.bd hcn
  obtain ⟨la2, ht2, -⟩ := ts_tm hE2.1
  have hWwq_2 := hWwq_1_1.step hP2.2.1
  refine hm_stk (st' := [.ref q2, .int (nI bf), .int (nI st), .int (nI s0), .ref wq, .ref wq]) rfl ?_
  refine hm_aload C nd_EN_sealedWire_34 rfl ?_
  refine hm_aload_nQ (r := le) C nd_EN_sealedWire_36 rfl ?_
  refine hm_stk (st' := [va_rf le, va_rf (some q1), va_rf (some q2), .int (nI bf), .int (nI st), .int (nI s0), .ref wq, .ref wq]) rfl ?_
  refine hm_callI C (ct_WI_init M2 wq (nI s0) (nI st) (nI bf) (some q2) (some q1) le hWwq_2.1) nV_WI_init rfl nq_EN_76 nj_WI_init [.int (nI s0), .int (nI st), .int (nI bf), va_rf (some q2), va_rf (some q1), va_rf le] rfl rfl (rest := [.ref wq]) rfl (Nat.le_of_ble_eq_true rfl) (by decide) (by decide) (by omega) (by omega) nd_EN_sealedWire_37 (fun r M3 hp => ?_)
  obtain ⟨rfl, e9⟩ := hp
  rw [e9]
  refine hm_stk (st' := [.ref wq]) rfl ?_
  generalize hM2_1 : hm_up M2 wq (hm_ob 5 [.int (nI s0), .int (nI st), .int (nI bf), va_rf (some q2), va_rf (some q1), va_rf le]) = Mp2_1
  have hE2_1 : en_P D tm M F T G n c se (dr) [sm_t 6 sc 0, sm_t 1 mi 0] a lk Mp2_1 F2 T2 := by rw [← hM2_1]; exact hE2.wr hfwq hWwq_2.2
  have hL2_1 : en_L D Mp2_1 F2 T2 lk f lf := by rw [← hM2_1]; exact hL2.wr5 hWwq_2.1
  have hAA2_1 : hm_ow Mp2_1 F2 a (hm_ob 3 [va_rf bs', va_rf ro', va_rf (some m0), va_rf th', va_rf sc', .int (nI st), .int (nI bf), va_rf rc', .int (nI nx), .ref lk, .int (nI lf.length)]) := by rw [← hM2_1]; exact hA2.put (hm_ne hA2.1 hWwq_2.1 (by decide))
  have htt2_1 : Mp2_1 tm = some (hm_ob 1 [.ref la2, .int (nI (dr)), .int (nI se)]) := by rw [← hM2_1, hm_up_n _ _ (hm_ne ht2 hWwq_2.1 (by decide))]; exact ht2
  have hWwq_2_1 : hm_ow Mp2_1 F2 wq (hm_ob 5 [.int (nI s0), .int (nI st), .int (nI bf), va_rf (some q2), va_rf (some q1), va_rf le]) := ⟨by rw [← hM2_1]; exact hm_up_s _ _ _, hWwq_2.2⟩
  refine hm_astore C [(5, .ref wq), (4, .ref q1), (0, .ref a), (1, .int (nI s0)), (2, va_rf le), (3, .ref tm)] nd_EN_sealedWire_40 (by decide) (by simp [hm_cat, hm_catI, hm_catR, hm_catN] <;> decide) ?_
  refine hm_aload_n C nd_EN_sealedWire_42 rfl ?_
  refine hm_aload_n C nd_EN_sealedWire_43 rfl ?_
  refine hm_bipush (v := 7) C nd_EN_sealedWire_44 (by decide) ?_
  refine hm_aload_n C nd_EN_sealedWire_46 rfl ?_
  refine hm_get C nF_EN_37 hAA2_1.1 rfl nd_EN_sealedWire_47 ?_
  refine hm_null C nd_EN_sealedWire_50 ?_
  refine hm_stk (st' := [va_rf none, va_rf sc', .int (nI 7), .ref tm, .ref a]) rfl ?_
  have rm3 : ts_kc (ts_k T) n c [sm_t 6 sc 0, sm_t 1 mi 0, sm_t 7 sc 0] = _ ∧ ts_ks (ts_k T) n c [sm_t 6 sc 0, sm_t 1 mi 0, sm_t 7 sc 0] = _ := hE2_1.room [sm_t 7 sc 0]
  have rl3 : _ ≤ ts_kc (ts_k T) n c [sm_t 6 sc 0, sm_t 1 mi 0, sm_t 7 sc 0] ∧ _ ≤ ts_ks (ts_k T) n c [sm_t 6 sc 0, sm_t 1 mi 0, sm_t 7 sc 0] := ts_kle [sm_t 6 sc 0, sm_t 1 mi 0, sm_t 7 sc 0] [] (ts_k T) n c
  refine hm_callV C (ct_TS_made Mp2_1 tm F2 T2 G dr _ _ se hE2_1.1 (by omega) 7 sc 0 sc' none ((o5.mono hP1.2.2.1).mono hP2.2.2.1) ts_o_0 (fun h => ts_o_nn o5 hsc h.1) (by omega) (by omega) (fun h => by omega) (fun h => by omega)) nV_TS_made [.int (nI 7), va_rf sc', va_rf none] rfl htt2_1 rfl nq_EN_66 nj_TS_made nx_TS_made rfl (rest := [.ref a]) rfl (Nat.le_of_ble_eq_true rfl) (by decide) (by decide) (by omega) (by omega) nd_EN_sealedWire_51 (fun r M4 hp => ?_)
  obtain ⟨q3, F3, T3, rfl, hP3, ⟨i3, hq3⟩, hn3⟩ := hp
  have hE3 : en_P D tm M F T G n c se (dr) [sm_t 6 sc 0, sm_t 1 mi 0, sm_t 7 sc 0] a lk M4 F3 T3 := hE2_1.tr (hP3.en a lk)
  have hA3 := hAA2_1.step hP3.2.1
  have hL3 := hL2_1.step hP3.2.1 hP3.2.2.1
  have hb3 : _ ∧ _ ≤ n + 3 := hE3.bd hcn
  obtain ⟨la3, ht3, -⟩ := ts_tm hE3.1
  have hWwq_3 := hWwq_2_1.step hP3.2.1
  refine hm_stk (st' := [.ref q3, .ref a]) rfl ?_
  refine hm_put C nF_EN_37 hA3.1 (Nat.le_of_ble_eq_true rfl) rfl rfl nd_EN_sealedWire_54 ?_
  refine hm_eqM (M' := hm_up M4 a (hm_ob 3 [va_rf bs', va_rf ro', va_rf (some m0), va_rf th', .ref q3, .int (nI st), .int (nI bf), va_rf rc', .int (nI nx), .ref lk, .int (nI lf.length)])) rfl ?_
  generalize hM3_1 : hm_up M4 a (hm_ob 3 [va_rf bs', va_rf ro', va_rf (some m0), va_rf th', .ref q3, .int (nI st), .int (nI bf), va_rf rc', .int (nI nx), .ref lk, .int (nI lf.length)]) = Mp3_1
  have hE3_1 : en_P D tm M F T G n c se (dr) [sm_t 6 sc 0, sm_t 1 mi 0, sm_t 7 sc 0] a lk Mp3_1 F3 T3 := by rw [← hM3_1]; exact hE3.put (Or.inl rfl) hA3.2
  have hL3_1 : en_L D Mp3_1 F3 T3 lk f lf := by rw [← hM3_1]; exact hL3.put hA3.1
  have hAA3_1 : hm_ow Mp3_1 F3 a (hm_ob 3 [va_rf bs', va_rf ro', va_rf (some m0), va_rf th', .ref q3, .int (nI st), .int (nI bf), va_rf rc', .int (nI nx), .ref lk, .int (nI lf.length)]) := by rw [← hM3_1]; exact hA3.self
  have htt3_1 : Mp3_1 tm = some (hm_ob 1 [.ref la3, .int (nI (dr)), .int (nI se)]) := by rw [← hM3_1, hm_up_n _ _ (hm_ne ht3 hA3.1 (by decide))]; exact ht3
  have hWwq_3_1 : hm_ow Mp3_1 F3 wq (hm_ob 5 [.int (nI s0), .int (nI st), .int (nI bf), va_rf (some q2), va_rf (some q1), va_rf le]) := by rw [← hM3_1]; exact hWwq_3.put (hm_ne hWwq_3.1 hA3.1 (by decide))
  refine hm_aload_n C nd_EN_sealedWire_57 rfl ?_
  refine hm_dup C nd_EN_sealedWire_58 rfl ?_
  refine hm_get C nF_EN_40 hAA3_1.1 rfl nd_EN_sealedWire_59 ?_
  refine hm_iconst (v := 1) C nd_EN_sealedWire_62 (by decide) ?_
  refine hm_iadd C nd_EN_sealedWire_63 ?_
  rw [nI_1]
  refine hm_put C nF_EN_40 hAA3_1.1 (Nat.le_of_ble_eq_true rfl) rfl rfl nd_EN_sealedWire_64 ?_
  refine hm_eqM (M' := hm_up Mp3_1 a (hm_ob 3 [va_rf bs', va_rf ro', va_rf (some m0), va_rf th', .ref q3, .int (nI (st + 1)), .int (nI bf), va_rf rc', .int (nI nx), .ref lk, .int (nI lf.length)])) rfl ?_
  generalize hM3_2 : hm_up Mp3_1 a (hm_ob 3 [va_rf bs', va_rf ro', va_rf (some m0), va_rf th', .ref q3, .int (nI (st + 1)), .int (nI bf), va_rf rc', .int (nI nx), .ref lk, .int (nI lf.length)]) = Mp3_2
  have hE3_2 : en_P D tm M F T G n c se (dr) [sm_t 6 sc 0, sm_t 1 mi 0, sm_t 7 sc 0] a lk Mp3_2 F3 T3 := by rw [← hM3_2]; exact hE3_1.put (Or.inl rfl) hAA3_1.2
  have hL3_2 : en_L D Mp3_2 F3 T3 lk f lf := by rw [← hM3_2]; exact hL3_1.put hAA3_1.1
  have hAA3_2 : hm_ow Mp3_2 F3 a (hm_ob 3 [va_rf bs', va_rf ro', va_rf (some m0), va_rf th', .ref q3, .int (nI (st + 1)), .int (nI bf), va_rf rc', .int (nI nx), .ref lk, .int (nI lf.length)]) := by rw [← hM3_2]; exact hAA3_1.self
  have htt3_2 : Mp3_2 tm = some (hm_ob 1 [.ref la3, .int (nI (dr)), .int (nI se)]) := by rw [← hM3_2, hm_up_n _ _ (hm_ne htt3_1 hAA3_1.1 (by decide))]; exact htt3_1
  have hWwq_3_2 : hm_ow Mp3_2 F3 wq (hm_ob 5 [.int (nI s0), .int (nI st), .int (nI bf), va_rf (some q2), va_rf (some q1), va_rf le]) := by rw [← hM3_2]; exact hWwq_3_1.put (hm_ne hWwq_3_1.1 hAA3_1.1 (by decide))
  refine hm_aload C nd_EN_sealedWire_67 rfl ?_
  exact hm_aret (r := (some wq)) C E (Or.inl ⟨_, rfl⟩) (by omega) (by omega) (⟨wq, F3, T3, some q2, some q1, rfl, hE3_2, hWwq_3_2, Or.inr ⟨q2, i2, rfl, hP3.2.2.1 _ _ _ hq2⟩, Or.inr ⟨q1, i1, rfl, hP3.2.2.1 _ _ _ (hP2.2.2.1 _ _ _ hq1)⟩, hfwq, ⟨bs', ro', some m0, th', some q3, rc', f, hAA3_2, ((o1.mono hP1.2.2.1).mono hP2.2.2.1).mono hP3.2.2.1, ((o2.mono hP1.2.2.1).mono hP2.2.2.1).mono hP3.2.2.1, ((o3.mono hP1.2.2.1).mono hP2.2.2.1).mono hP3.2.2.1, ((o4.mono hP1.2.2.1).mono hP2.2.2.1).mono hP3.2.2.1, Or.inr ⟨q3, i3, rfl, hq3⟩, ((o6.mono hP1.2.2.1).mono hP2.2.2.1).mono hP3.2.2.1, hL3_2⟩⟩) nd_EN_sealedWire_69
end
section
theorem hm_ar_inj {D : va_G} {t N : Nat} {f g : Nat → Option Nat} (h : (some (hm_ar D t N f) : Option va_E) = some (hm_ar D t N g)) : f = g := by
  have h1 := Sum.inl.inj (Option.some.inj h)
  have h2 := congrArg (fun p : ClassId × vp_A => p.2.2) h1
  exact Sum.inr.inj (Sum.inr.inj (Sum.inr.inj (Sum.inr.inj h2)))
theorem en_R.new {D : va_G} {M : hm_M} {F : Nat → Prop} {T : Nat → Nat → Nat → Prop} {a lk bs ro mi th sc st bf rc nx z : Nat} {lf : List (Nat × Nat × Nat)} {e : va_E} (h : en_R D M F T a lk bs ro mi th sc st bf rc nx lf) (hz : M z = none) : en_R D (hm_up M z e) F T a lk bs ro mi th sc st bf rc nx lf := by
  obtain ⟨b1, b2, b3, b4, b5, b6, f, h0, h1, h2, h3, h4, h5, h6, h7⟩ := h
  exact ⟨b1, b2, b3, b4, b5, b6, f, h0.put (hm_neF h0.1 hz), h1, h2, h3, h4, h5, h6, h7.new hz⟩
theorem sk_v_len : ∀ (d rc : Nat), (sk_v rc d).length = 2 * d
  | 0, _ => rfl
  | d + 1, rc => by
    show (sk_v (sm_t 7 rc 0) d).length + 1 + 1 = _
    rw [sk_v_len d]
    omega
/-- a LEFT key's own cell is written: it isn't one of those that are left -/
theorem en_L.wrN {D : va_G} {M : hm_M} {F : Nat → Prop} {T : Nat → Nat → Nat → Prop} {lk z : Nat} {f : Nat → Option Nat} {lf : List (Nat × Nat × Nat)} {vs : List Value} {e : va_E} (h : en_L D M F T lk f lf) (hz : M z = some (hm_ob 4 vs)) (hn : ∀ i b, f i = some b → b ≠ z) : en_L D (hm_up M z e) F T lk f lf := by
  obtain ⟨h1, h2, h3, h4⟩ := h
  refine ⟨h1.put (Ne.symm (hm_neA hz h1.1)), h2, fun i q hq => ?_, h4⟩
  obtain ⟨h5, b, pk, ky, e1, e2, e3, e4⟩ := h3 i q hq
  exact ⟨h5, b, pk, ky, e1, e2.put (hn i b e1), e3, e4⟩
set_option maxHeartbeats 4000000 in
set_option maxRecDepth 100000 in
theorem ct_EN_skipsTo_no {l : Launch} {D : va_G} {BG : Nat → Option Cell} (M : hm_M) (tm : Nat) (F : Nat → Prop) (T : Nat → Nat → Nat → Prop) (G : Nat → Prop) (dr n c se : Nat) (hS : ts_S D M tm F T G dr n c se) (hcn : c ≤ 2 * n + 10) (hn : n ≤ 19700) (a lk bs ro mi th sc st bf rc nx : Nat) (lf : List (Nat × Nat × Nat)) (hR : en_R D M F T a lk bs ro mi th sc st bf rc nx lf) (ix : Nat) (hix : ix < 2 ^ 29) (hnx : nx < 2 ^ 29) (hno : nx + 5 < ix) : hm_ct l D BG ny_EN_skipsTo prog_2_method_8_code 4 (some .boolean) 10 243 0 0 [.ref a, .int (nI ix), .ref tm] M (fun r M' => r = some (.int 0) ∧ M' = M) := by
  refine hm_ct_of (by decide +kernel) (by exact Nat.le_of_ble_eq_true rfl) ?_
  intro X C E
  have C : hm_C X l D BG prog_2_method_8_code "TurnedKeys$End" "skipsTo" 4 10 243 0 0 := C
  refine hm_lv (lv' := [(0, .ref a), (1, .int (nI ix)), (2, .ref tm)]) rfl ?_
  obtain ⟨bs', ro', mi', th', sc', rc', f, hA, o1, o2, o3, o4, o5, o6, hL⟩ := hR
  obtain ⟨la0, ht0, -⟩ := ts_tm hS
  refine hm_iload_n C nd_EN_skipsTo_0 rfl ?_
  refine hm_aload_n C nd_EN_skipsTo_1 rfl ?_
  refine hm_get C nF_EN_50 hA.1 rfl nd_EN_skipsTo_2 ?_
  refine hm_isub C nd_EN_skipsTo_5 ?_
  refine hm_iconst (v := 5) C nd_EN_skipsTo_6 (by decide) ?_
  refine hm_icmp_le (tgt := 12) C nd_EN_skipsTo_7 (by decide) (fun cc => absurd cc (by rw [Int32.le_iff_toInt_le, pk_sub_toInt (by omega) (by omega)]; simp; omega)) (fun cc => ?_)
  refine hm_iconst (v := 0) C nd_EN_skipsTo_10 (by decide) ?_
  exact hm_zret C E (by first | exact Or.inl rfl | exact Or.inr rfl) (by omega) (by omega) (⟨rfl, rfl⟩) nd_EN_skipsTo_11
set_option maxHeartbeats 4000000 in
set_option maxRecDepth 100000 in
theorem ct_EN_skipsTo {l : Launch} {D : va_G} {BG : Nat → Option Cell} (M : hm_M) (tm : Nat) (F : Nat → Prop) (T : Nat → Nat → Nat → Prop) (G : Nat → Prop) (dr n c se : Nat) (hS : ts_S D M tm F T G dr n c se) (hcn : c ≤ 2 * n + 10) (hn : n ≤ 19700) (a lk bs ro mi th sc st bf rc nx : Nat) (lf : List (Nat × Nat × Nat)) (hR : en_R D M F T a lk bs ro mi th sc st bf rc nx lf) (d0 : Nat) (hd5 : d0 ≤ 5) (hnx : nx + d0 < 2 ^ 29) (hrc : rc ≠ 0) : hm_ct l D BG ny_EN_skipsTo prog_2_method_8_code 4 (some .boolean) 10 243 (d0 + ts_kc (ts_k T) n c (sk_v rc d0)) (3 * d0 + ts_ks (ts_k T) n c (sk_v rc d0)) [.ref a, .int (nI (nx + d0)), .ref tm] M (fun r M' => ∃ F' T', r = some (.int 1) ∧ en_P D tm M F T G n c se dr (sk_v rc d0) a lk M' F' T' ∧ en_R D M' F' T' a lk bs ro mi th sc st bf (sk_r rc d0) (nx + d0) (sk_f th rc nx lf d0)) := by
  refine hm_ct_of (by decide +kernel) (by exact Nat.le_of_ble_eq_true rfl) ?_
  intro X C E
  have C : hm_C X l D BG prog_2_method_8_code "TurnedKeys$End" "skipsTo" 4 10 243 (d0 + ts_kc (ts_k T) n c (sk_v rc d0)) (3 * d0 + ts_ks (ts_k T) n c (sk_v rc d0)) := C
  have hlen := sk_v_len d0 rc
  have loop : ∀ (d i : Nat) (Mi : hm_M) (Fi : Nat → Prop) (Ti : Nat → Nat → Nat → Prop) (ws : List Nat) (rci : Nat) (lfi : List (Nat × Nat × Nat)), nx + d0 = i + d → nx ≤ i → ws ++ sk_v rci d = sk_v rc d0 → sk_r rci d = sk_r rc d0 → sk_f th rci i lfi d = sk_f th rc nx lf d0 → rci ≠ 0 → en_P D tm M F T G n c se dr ws a lk Mi Fi Ti → en_R D Mi Fi Ti a lk bs ro mi th sc st bf rci i lfi → hm_W X Mi (d0 - d + ts_kc (ts_k T) n c ws) (3 * (d0 - d) + ts_ks (ts_k T) n c ws) 17 [(3, .int (nI i)), (0, .ref a), (1, .int (nI (nx + d0))), (2, .ref tm)] [] := by
    intro d
    induction d with
    | zero =>
        intro i Mi Fi Ti ws rci lfi hi hni hws hr hf hrc hE hR
        have ew : ws = sk_v rc d0 := by rw [← hws]; exact (List.append_nil ws).symm
        subst ew
        have er : rci = sk_r rc d0 := hr
        have ef : lfi = sk_f th rc nx lf d0 := hf
        subst er ef
        have ei : i = nx + d0 := by omega
        subst ei
        refine hm_iload_n C nd_EN_skipsTo_17 rfl ?_
        refine hm_iload_n C nd_EN_skipsTo_18 rfl ?_
        refine hm_icmp_ge (tgt := 49) C nd_EN_skipsTo_19 (by decide) (fun cc => ?_) (fun cc => absurd (nI_le (Nat.le_refl _) (by omega)) cc)
        refine hm_iconst (v := 1) C nd_EN_skipsTo_49 (by decide) ?_
        exact hm_zret C E (by first | exact Or.inl rfl | exact Or.inr rfl) (by omega) (by omega) (⟨Fi, Ti, rfl, hE, hR⟩) nd_EN_skipsTo_50
    | succ d ih =>
        intro i Mi Fi Ti ws rci lfi hi hni hws hr hf hrc hE hR
        have hwl : ws.length + 2 * (d + 1) = 2 * d0 := by
          have h := congrArg List.length hws
          rw [List.length_append, sk_v_len, hlen] at h
          exact h
        have hbi := hE.bd hcn
        have rm := hE.room [sm_t 6 rci 0, sm_t 7 rci 0]
        have hws2 : (ws ++ [sm_t 6 rci 0, sm_t 7 rci 0]) ++ sk_v (sm_t 7 rci 0) d = sk_v rc d0 := by rw [List.append_assoc]; exact hws
        have rl := ts_kle (ws ++ [sm_t 6 rci 0, sm_t 7 rci 0]) (sk_v (sm_t 7 rci 0) d) (ts_k T) n c
        rw [hws2] at rl
        obtain ⟨bs', ro', mi', th', sc', rc', f, hA, o1, o2, o3, o4, o5, o6, hL⟩ := id hR
        have hA1 := hA.1
        refine hm_iload_n C nd_EN_skipsTo_17 rfl ?_
        refine hm_iload_n C nd_EN_skipsTo_18 rfl ?_
        refine hm_icmp_ge (tgt := 49) C nd_EN_skipsTo_19 (by decide) (fun cc => absurd cc (nI_ge (by omega) (by omega))) (fun cc => ?_)
        refine hm_aload_n C nd_EN_skipsTo_22 rfl ?_
        refine hm_newN C 3 nB_EN_9 rfl (by omega) (by omega) nd_EN_skipsTo_23 (fun z hz => ?_)
        generalize hM1 : hm_up Mi z (hm_ob 4 [.null, .int 0, .null]) = M1
        have hfz := hE.fr hz
        have hE1 : en_P D tm M F T G n c se dr ws a lk M1 Fi Ti := by rw [← hM1]; exact hE.new hz
        have hR1 : en_R D M1 Fi Ti a lk bs ro mi th sc st bf rci i lfi := by rw [← hM1]; exact hR.new hz
        have hzn : ∀ y b, f y = some b → b ≠ z := by
          intro y b hy e
          have hyl : y < lfi.length := by
            rcases Nat.lt_or_ge y lfi.length with h | h
            · exact h
            · rw [hL.2.2.2 y h] at hy; cases hy
          obtain ⟨-, b2, pk2, ky2, e1, e2, -⟩ := hL.2.2.1 y lfi[y] (List.getElem?_eq_getElem hyl)
          rw [hy] at e1
          cases e1
          have e9 := e2.1
          rw [e, hz] at e9
          cases e9
        have hzF : ¬ Fi z := fun q => ts_S_some hE.1 q hz
        have hza : z ≠ a := Ne.symm (hm_neF hA.1 hz)
        have hzl : z ≠ lk := Ne.symm (hm_neF hL.1.1 hz)
        have hW1 : hm_ow M1 (en_F Fi a lk) z (hm_ob 4 [.null, .int 0, .null]) := ⟨by rw [← hM1]; exact hm_up_s _ _ _, fun q => by
          rcases q with q | q | q
          · exact hzF q
          · exact hza q
          · exact hzl q⟩
        have hl1 : M1 lk = some (hm_ar D 2 8 f) := by rw [← hM1, hm_up_n _ _ (Ne.symm hzl)]; exact hL.1.1
        have hA2 : M1 a = some (hm_ob 3 [va_rf bs', va_rf ro', va_rf mi', va_rf th', va_rf sc', .int (nI st), .int (nI bf), va_rf rc', .int (nI i), .ref lk, .int (nI lfi.length)]) := by rw [← hM1, hm_up_n _ _ (Ne.symm hza)]; exact hA1
        obtain ⟨la1, ht1, -⟩ := ts_tm hE1.1
        refine hm_dup C nd_EN_skipsTo_26 rfl ?_
        refine hm_aload_n C nd_EN_skipsTo_27 rfl ?_
        refine hm_get C nF_EN_34 hA2 rfl nd_EN_skipsTo_28 ?_
        refine hm_iload_n C nd_EN_skipsTo_31 rfl ?_
        refine hm_aload_n C nd_EN_skipsTo_32 rfl ?_
        refine hm_aload_n C nd_EN_skipsTo_33 rfl ?_
        refine hm_callV C (ct_EN_steppedKey M1 tm Fi Ti G dr _ _ se hE1.1 hbi.1 (by omega) a lk bs ro mi th sc st bf rci i lfi hR1 hrc) nV_EN_steppedKey [.ref tm] rfl hA2 rfl nq_EN_98 nj_EN_steppedKey nx_EN_steppedKey rfl (rest := [.int (nI i), va_rf th', .ref z, .ref z, .ref a]) rfl (by simp [hm_cat, hm_catI, hm_catR, hm_catN] <;> decide) (by decide) (by decide) (by omega) (by omega) nd_EN_skipsTo_34 (fun r M2 hp => ?_)
        obtain ⟨q, F2, T2, iq, rfl, hP2, hq2, hlk2, hR2⟩ := hp
        have hE2 := hE1.tr hP2
        have hW2 := hW1.step hP2.2.1
        have hW2F : ¬ F2 z := fun h => hW2.2 (Or.inl h)
        obtain ⟨bs2, ro2, mi2, th2, sc2, rc2, f2, hA3, p1, p2, p3, p4, p5, p6, hL2⟩ := hR2
        have hff : f2 = f := hm_ar_inj (by rw [← hL2.1.1, hlk2, hl1])
        subst hff
        have o4' := o4.mono hP2.2.2.1
        refine hm_stk (st' := [.ref q, .int (nI i), va_rf th', .ref z, .ref z, .ref a]) rfl ?_
        refine hm_stk (st' := [va_rf (some q), .int (nI i), va_rf th', .ref z, .ref z, .ref a]) rfl ?_
        refine hm_callI C (ct_LK_init M2 z th' (nI i) (some q) hW2.1) nV_LK_init rfl nq_EN_102 nj_LK_init [va_rf th', .int (nI i), va_rf (some q)] rfl rfl (rest := [.ref z, .ref a]) rfl (Nat.le_of_ble_eq_true rfl) (by decide) (by decide) (by omega) (by omega) nd_EN_skipsTo_37 (fun r M3 hp => ?_)
        obtain ⟨rfl, e3⟩ := hp
        rw [e3]
        refine hm_stk (st' := [.ref z, .ref a]) rfl ?_
        clear e3
        generalize hM3 : hm_up M2 z (hm_ob 4 [va_rf th', .int (nI i), va_rf (some q)]) = M3
        have hE3 : en_P D tm M F T G n c se dr (ws ++ [sm_t 6 rci 0, sm_t 7 rci 0]) a lk M3 F2 T2 := by rw [← hM3]; exact hE2.wr hfz hW2F
        have hL3 : en_L D M3 F2 T2 lk f2 lfi := by rw [← hM3]; exact hL2.wrN hW2.1 hzn
        have hA4 : hm_ow M3 F2 a (hm_ob 3 [va_rf bs2, va_rf ro2, va_rf mi2, va_rf th2, va_rf sc2, .int (nI st), .int (nI bf), va_rf rc2, .int (nI (i + 1)), .ref lk, .int (nI lfi.length)]) := by rw [← hM3]; exact hA3.put (Ne.symm hza)
        have hW3 : hm_ow M3 F2 z (hm_ob 4 [va_rf th', .int (nI i), va_rf (some q)]) := ⟨by rw [← hM3]; exact hm_up_s _ _ _, hW2F⟩
        have hA5 := hA4.1
        refine hm_callV C (ct_EN_leave M3 a lk bs2 ro2 mi2 th2 sc2 (nI st) (nI bf) rc2 (nI (i + 1)) lfi.length f2 hA5 hL3.1.1 hL3.2.1 (fun y hy => (by obtain ⟨-, b, pk, ky, e1, e2, -⟩ := hL3.2.2.1 y lfi[y] (List.getElem?_eq_getElem hy); exact ⟨b, _, e1, e2.1⟩)) hL3.2.2.2 z _ hW3.1) nV_EN_leave [.ref z] rfl hA5 rfl nq_EN_105 nj_EN_leave nx_EN_leave rfl (rest := []) rfl (Nat.le_of_ble_eq_true rfl) (by decide) (by decide) (by omega) (by omega) nd_EN_skipsTo_40 (fun r M4 hp => ?_)
        obtain ⟨rfl, e4⟩ := hp
        have hal : a ≠ lk := hm_neA hA5 hL3.1.1
        have hE4 : en_P D tm M F T G n c se dr (ws ++ [sm_t 6 rci 0, sm_t 7 rci 0]) a lk M4 F2 T2 := by rw [e4]; exact (hE3.put (Or.inr rfl) hL3.1.2).put (Or.inl rfl) hA4.2
        have hL4 := en_L.ad (M' := M4) (q := (th, i, sm_t 6 rci 0)) hL3 (show i < 2 ^ 30 by omega) hW3 o4' (Or.inr ⟨q, iq, rfl, hq2⟩) (by rw [e4, hm_up_n _ _ (Ne.symm hal)]; exact hm_up_s _ _ _) (fun y vs hy => by rw [e4, hm_up_n _ _ (hm_ne hy hA5 (by decide)), hm_up_n _ _ (hm_neA hy hL3.1.1)])
        have hR4 : en_R D M4 F2 T2 a lk bs ro mi th sc st bf (sm_t 7 rci 0) (i + 1) (lv_ad lfi (th, i, sm_t 6 rci 0)) := ⟨bs2, ro2, mi2, th2, sc2, rc2, _, ⟨by rw [e4, hm_up_s, lv_ad_len _ _ hL3.2.1], hA4.2⟩, p1, p2, p3, p4, p5, p6, hL4⟩
        refine hm_stk (st' := []) rfl ?_
        refine hm_iinc (x := (nI i)) (v := ((nI i) + 1)) C [(3, .int ((nI i) + 1)), (0, .ref a), (1, .int (nI (nx + d0))), (2, .ref tm)] nd_EN_skipsTo_43 rfl rfl (by decide) rfl ?_
        refine hm_goto (tgt := 17) C nd_EN_skipsTo_46 (by decide) ?_
        rw [nI_1]
        refine hm_widen (k' := d0 - d + ts_kc (ts_k T) n c (ws ++ [sm_t 6 rci 0, sm_t 7 rci 0])) (n' := 3 * (d0 - d) + ts_ks (ts_k T) n c (ws ++ [sm_t 6 rci 0, sm_t 7 rci 0])) (by omega) (by omega) ?_
        exact ih (i + 1) M4 F2 T2 _ (sm_t 7 rci 0) _ (by omega) (by omega) hws2 hr hf (sm_t_ne _ _ _) hE4 hR4
  refine hm_lv (lv' := [(0, .ref a), (1, .int (nI (nx + d0))), (2, .ref tm)]) rfl ?_
  obtain ⟨bs', ro', mi', th', sc', rc', f, hA, o1, o2, o3, o4, o5, o6, hL⟩ := id hR
  obtain ⟨la0, ht0, -⟩ := ts_tm hS
  refine hm_iload_n C nd_EN_skipsTo_0 rfl ?_
  refine hm_aload_n C nd_EN_skipsTo_1 rfl ?_
  refine hm_get C nF_EN_50 hA.1 rfl nd_EN_skipsTo_2 ?_
  refine hm_isub C nd_EN_skipsTo_5 ?_
  refine hm_iconst (v := 5) C nd_EN_skipsTo_6 (by decide) ?_
  refine hm_icmp_le (tgt := 12) C nd_EN_skipsTo_7 (by decide) (fun cc => ?_) (fun cc => absurd (by rw [Int32.le_iff_toInt_le, pk_sub_toInt (by omega) (by omega)]; simp; omega) cc)
  refine hm_aload_n C nd_EN_skipsTo_12 rfl ?_
  refine hm_get C nF_EN_50 hA.1 rfl nd_EN_skipsTo_13 ?_
  refine hm_istore_n C [(3, .int (nI nx)), (0, .ref a), (1, .int (nI (nx + d0))), (2, .ref tm)] nd_EN_skipsTo_16 (by decide) rfl ?_
  have kz := ts_kz (ts_k T) n c
  refine hm_widen (k' := d0 - d0 + ts_kc (ts_k T) n c []) (n' := 3 * (d0 - d0) + ts_ks (ts_k T) n c []) (by omega) (by omega) ?_
  exact loop d0 nx M F T [] rc lf rfl (Nat.le_refl _) rfl rfl rfl hrc (en_P.rf hS) hR
end
section
/-! which LEFT key fits; the key that an end has for a wire, by values -/
def ke_f (pk ix : Nat) : List (Nat × Nat × Nat) → Option (Nat × List (Nat × Nat × Nat))
  | [] => none
  | q :: l => if q.1 = pk ∧ q.2.1 = ix then some (q.2.2, l) else (ke_f pk ix l).map (fun r => (r.1, q :: r.2))
theorem ke_f_none {pk ix : Nat} : ∀ {lf : List (Nat × Nat × Nat)}, (∀ (j : Nat) (q : Nat × Nat × Nat), lf[j]? = some q → ¬ (q.1 = pk ∧ q.2.1 = ix)) → ke_f pk ix lf = none
  | [], _ => rfl
  | q :: l, h => by
    unfold ke_f
    rw [if_neg (h 0 q rfl), ke_f_none (lf := l) (fun j z hz => h (j + 1) z hz)]
    rfl
theorem ke_f_some {pk ix : Nat} : ∀ {lf : List (Nat × Nat × Nat)} {i : Nat} {q : Nat × Nat × Nat}, lf[i]? = some q → (q.1 = pk ∧ q.2.1 = ix) → (∀ j z, j < i → lf[j]? = some z → ¬ (z.1 = pk ∧ z.2.1 = ix)) → ke_f pk ix lf = some (q.2.2, lf.eraseIdx i)
  | [], i, q, h, _, _ => by cases h
  | z :: l, 0, q, h, hm, _ => by
    cases h
    unfold ke_f
    rw [if_pos hm]
    rfl
  | z :: l, i + 1, q, h, hm, hn => by
    unfold ke_f
    rw [if_neg (hn 0 z (by omega) rfl), ke_f_some (lf := l) (i := i) (q := q) h hm (fun j y hj hy => hn (j + 1) y (by omega) hy)]
    rfl
theorem en_L.fn {D : va_G} {M : hm_M} {F : Nat → Prop} {T : Nat → Nat → Nat → Prop} {lk : Nat} {f : Nat → Option Nat} {lf : List (Nat × Nat × Nat)} (h : en_L D M F T lk f lf) : ∃ pkf kyf : Nat → Option Nat, ∀ i q, lf[i]? = some q → q.2.1 < 2 ^ 30 ∧ ∃ b, f i = some b ∧ hm_ow M F b (hm_ob 4 [va_rf (pkf i), .int (nI q.2.1), va_rf (kyf i)]) ∧ ts_o T (pkf i) q.1 ∧ ts_o T (kyf i) q.2.2 := by
  have key : ∀ i, ∃ p : Option Nat × Option Nat, ∀ q, lf[i]? = some q → q.2.1 < 2 ^ 30 ∧ ∃ b, f i = some b ∧ hm_ow M F b (hm_ob 4 [va_rf p.1, .int (nI q.2.1), va_rf p.2]) ∧ ts_o T p.1 q.1 ∧ ts_o T p.2 q.2.2 := by
    intro i
    cases hq : lf[i]? with
    | none => exact ⟨(none, none), fun q h => by cases h⟩
    | some q =>
      obtain ⟨h5, b, pk, ky, e1, e2, e3, e4⟩ := h.2.2.1 i q hq
      exact ⟨(pk, ky), fun q' h' => by cases h'; exact ⟨h5, b, e1, e2, e3, e4⟩⟩
  exact ⟨fun i => (Classical.choose (key i)).1, fun i => (Classical.choose (key i)).2, fun i q hq => Classical.choose_spec (key i) q hq⟩
/-- the LEFT key at i goes -/
theorem en_L.er {D : va_G} {M M' : hm_M} {F : Nat → Prop} {T : Nat → Nat → Nat → Prop} {lk i : Nat} {f : Nat → Option Nat} {lf : List (Nat × Nat × Nat)} (h : en_L D M F T lk f lf) (hi : i < lf.length) (hl : M' lk = some (hm_ar D 2 8 (fun z => if z < i then f z else f (z + 1)))) (ho : ∀ z vs, M z = some (hm_ob 4 vs) → M' z = M z) : en_L D M' F T lk (fun z => if z < i then f z else f (z + 1)) (lf.eraseIdx i) := by
  obtain ⟨a1, a2, a3, a4⟩ := h
  have hlen : (lf.eraseIdx i).length = lf.length - 1 := by rw [List.length_eraseIdx, if_pos hi]
  refine ⟨⟨hl, a1.2⟩, by omega, fun j q hq => ?_, fun j hj => ?_⟩
  · rw [List.getElem?_eraseIdx] at hq
    by_cases c : j < i
    · rw [if_pos c] at hq
      obtain ⟨h5, b, pk, ky, e1, e2, e3, e4⟩ := a3 j q hq
      exact ⟨h5, b, pk, ky, by dsimp only; rw [if_pos c]; exact e1, ⟨by rw [ho b _ e2.1]; exact e2.1, e2.2⟩, e3, e4⟩
    · rw [if_neg c] at hq
      obtain ⟨h5, b, pk, ky, e1, e2, e3, e4⟩ := a3 (j + 1) q hq
      exact ⟨h5, b, pk, ky, by dsimp only; rw [if_neg c]; exact e1, ⟨by rw [ho b _ e2.1]; exact e2.1, e2.2⟩, e3, e4⟩
  · dsimp only
    rw [if_neg (by omega)]
    exact a4 _ (by omega)
/-- PUBLIC, SHARED, and what comes of ROOT -/
def kf_v (mi k ro : Nat) : List Nat := [sm_t 1 mi 0, sm_sh mi k, sm_t 5 ro (sm_sh mi k), sm_t 4 ro (sm_sh mi k)]
/-- what an end has: ROOT, THEIRS, SEND, RECEIVE, NEXT, LEFT -/
abbrev kf_E : Type := Nat × Nat × Nat × Nat × Nat × List (Nat × Nat × Nat)
/-- the turn, if one is due: the values made, and the end behind it -/
noncomputable def kf_1 (k bw mi : Nat) (E : kf_E) : Option (List Nat × kf_E) := match E with
  | (ro, th, sc, rc, nx, lf) => if sm_t 1 k 0 = th ∧ rc ≠ 0 then some ([], ro, th, sc, rc, nx, lf) else if rc ≠ 0 ∧ nx < bw then (if nx + 5 < bw then none else some (sk_v rc (bw - nx) ++ kf_v mi k ro, sm_t 4 ro (sm_sh mi k), sm_t 1 k 0, 0, sm_t 5 ro (sm_sh mi k), 0, sk_f th rc nx lf (bw - nx))) else some (kf_v mi k ro, sm_t 4 ro (sm_sh mi k), sm_t 1 k 0, 0, sm_t 5 ro (sm_sh mi k), 0, lf)
/-- on to the index: the values made; the key and the end behind it -/
noncomputable def kf_2 (ix : Nat) (S : List Nat × kf_E) : List Nat × Option (Nat × kf_E) := match S with
  | (vs, ro, th, sc, rc, nx, lf) => if ix < nx ∨ nx + 5 < ix then (vs, none) else (vs ++ (sk_v rc (ix - nx) ++ [sm_t 6 (sk_r rc (ix - nx)) 0, sm_t 7 (sk_r rc (ix - nx)) 0]), some (sm_t 6 (sk_r rc (ix - nx)) 0, ro, th, sc, sm_t 7 (sk_r rc (ix - nx)) 0, ix + 1, sk_f th rc nx lf (ix - nx)))
noncomputable def kf (k ix bw mi : Nat) (E : kf_E) : List Nat × Option (Nat × kf_E) := match ke_f (sm_t 1 k 0) ix E.2.2.2.2.2 with
  | some r => ([], some (r.1, E.1, E.2.1, E.2.2.1, E.2.2.2.1, E.2.2.2.2.1, r.2))
  | none => match kf_1 k bw mi E with
    | none => ([], none)
    | some S => kf_2 ix S
/-- what comes of a call of keyFor -/
def kf_p (D : va_G) (M : hm_M) (F : Nat → Prop) (T : Nat → Nat → Nat → Prop) (a lk bs mi st bf : Nat) (r : Option Value) (o : Option (Nat × kf_E)) : Prop := match o with
  | none => r = some (va_rf none) ∧ ∃ ro th sc rc nx lf, en_R D M F T a lk bs ro mi th sc st bf rc nx lf
  | some (key, ro, th, sc, rc, nx, lf) => ∃ q i, r = some (.ref q) ∧ T q i key ∧ en_R D M F T a lk bs ro mi th sc st bf rc nx lf
end
section
set_option maxHeartbeats 4000000 in
set_option maxRecDepth 100000 in
theorem ct_EN_keyFor {l : Launch} {D : va_G} {BG : Nat → Option Cell} (M : hm_M) (tm : Nat) (F : Nat → Prop) (T : Nat → Nat → Nat → Prop) (G : Nat → Prop) (dr n c se : Nat) (hS : ts_S D M tm F T G dr n c se) (hcn : c ≤ 2 * n + 10) (hn : n ≤ 19600) (a lk bs ro mi th sc st bf rc nx : Nat) (lf : List (Nat × Nat × Nat)) (hR : en_R D M F T a lk bs ro mi th sc st bf rc nx lf) (w s0 p ip k e ix bw d : Nat) (ky le : Option Nat) (hw : hm_ow M F w (hm_ob 5 [.int (nI s0), .int (nI ix), .int (nI bw), va_rf (some p), va_rf ky, va_rf le])) (hTp : T p ip (sm_t 1 k 0)) (hk : k = sm_t 0 e 0) (hmi : mi = sm_t 0 d 0) (hix : ix < 2 ^ 28) (hbw : bw < 2 ^ 28) (hnx : nx < 2 ^ 28) (hlz : ∀ (i : Nat) (q : Nat × Nat × Nat), lf[i]? = some q → q.2.2 ≠ 0) : hm_ct l D BG ny_EN_keyFor prog_2_method_6_code 4 (some (.object "TurnedKeys$Term")) 11 267 (10 + ts_kc (ts_k T) n c (kf k ix bw mi (ro, th, sc, rc, nx, lf)).1) (30 + ts_ks (ts_k T) n c (kf k ix bw mi (ro, th, sc, rc, nx, lf)).1) [.ref a, .ref w, .ref tm] M (fun r M' => ∃ F' T', en_P D tm M F T G n c se dr (kf k ix bw mi (ro, th, sc, rc, nx, lf)).1 a lk M' F' T' ∧ kf_p D M' F' T' a lk bs mi st bf r (kf k ix bw mi (ro, th, sc, rc, nx, lf)).2) := by
  refine hm_ct_of (by decide +kernel) (by exact Nat.le_of_ble_eq_true rfl) ?_
  intro X C E
  have C : hm_C X l D BG prog_2_method_6_code "TurnedKeys$End" "keyFor" 4 11 267 (10 + ts_kc (ts_k T) n c (kf k ix bw mi (ro, th, sc, rc, nx, lf)).1) (30 + ts_ks (ts_k T) n c (kf k ix bw mi (ro, th, sc, rc, nx, lf)).1) := C
  obtain ⟨bs', ro', mi', th', sc', rc', f, hA, o1, o2, o3, o4, o5, o6, hL⟩ := id hR
  obtain ⟨la0, ht0, -⟩ := ts_tm hS
  have hwa : w ≠ a := hm_ne hw.1 hA.1 (by decide)
  have hwl : w ≠ lk := hm_neA hw.1 hL.1.1
  have hwE : hm_ow M (en_F F a lk) w (hm_ob 5 [.int (nI s0), .int (nI ix), .int (nI bw), va_rf (some p), va_rf ky, va_rf le]) := ⟨hw.1, fun q => by
    rcases q with q | q | q
    · exact hw.2 q
    · exact hwa q
    · exact hwl q⟩
  have kz := ts_kz (ts_k T) n c
  have hl8 : lf.length ≤ 8 := hL.2.1
  have tail : ∀ (M1 : hm_M) (F1 : Nat → Prop) (T1 : Nat → Nat → Nat → Prop) (vs : List Nat) (ro1 th1 sc1 rc1 nx1 : Nat) (lf1 : List (Nat × Nat × Nat)), vs.length ≤ 14 → rc1 ≠ 0 → nx1 < 2 ^ 28 → en_P D tm M F T G n c se dr vs a lk M1 F1 T1 → en_R D M1 F1 T1 a lk bs ro1 mi th1 sc1 st bf rc1 nx1 lf1 → kf k ix bw mi (ro, th, sc, rc, nx, lf) = kf_2 ix (vs, ro1, th1, sc1, rc1, nx1, lf1) → hm_W X M1 (5 + ts_kc (ts_k T) n c vs) (15 + ts_ks (ts_k T) n c vs) 78 [(3, .null), (0, .ref a), (1, .ref w), (2, .ref tm)] [] := by
    intro M1 F1 T1 vs ro1 th1 sc1 rc1 nx1 lf1 hvl hrc1 hnx1 hE1 hR1 hkf
    have hw1 := hwE.step hE1.2.1
    obtain ⟨b1', b2', b3', b4', b5', b6', f1, hA1, u1, u2, u3, u4, u5, u6, hL1⟩ := id hR1
    have hb1 := hE1.bd hcn
    unfold kf_2 at hkf
    dsimp only at hkf
    refine hm_aload_n C nd_EN_keyFor_78 rfl ?_
    refine hm_get C nF_EN_82 hw1.1 rfl nd_EN_keyFor_79 ?_
    refine hm_aload_n C nd_EN_keyFor_82 rfl ?_
    refine hm_get C nF_EN_50 hA1.1 rfl nd_EN_keyFor_83 ?_
    refine hm_icmp_lt (tgt := 101) C nd_EN_keyFor_86 (by decide) (fun c1 => ?_) (fun c1 => ?_)
    · have h1 : ix < nx1 := (nI_ltI (by omega) (by omega)).mp c1
      rw [if_pos (Or.inl h1)] at hkf
      refine hm_null C nd_EN_keyFor_101 ?_
      exact hm_aret (r := none) C E (Or.inl ⟨_, rfl⟩) (by rw [hkf]; dsimp only; omega) (by rw [hkf]; dsimp only; omega) (⟨F1, T1, by rw [hkf]; exact hE1, by rw [hkf]; exact ⟨rfl, _, _, _, _, _, _, hR1⟩⟩) nd_EN_keyFor_102
    · have h1 : nx1 ≤ ix := by
        rcases Nat.lt_or_ge ix nx1 with h | h
        · exact absurd (nI_lt h (by omega)) c1
        · exact h
      by_cases h5 : nx1 + 5 < ix
      · rw [if_pos (Or.inr h5)] at hkf
        have hmc : ts_kc (ts_k T) n c (kf k ix bw mi (ro, th, sc, rc, nx, lf)).1 = ts_kc (ts_k T) n c vs ∧ ts_ks (ts_k T) n c (kf k ix bw mi (ro, th, sc, rc, nx, lf)).1 = ts_ks (ts_k T) n c vs := by rw [hkf]; exact ⟨rfl, rfl⟩
        refine hm_aload_n C nd_EN_keyFor_89 rfl ?_
        refine hm_aload_n C nd_EN_keyFor_90 rfl ?_
        refine hm_get C nF_EN_82 hw1.1 rfl nd_EN_keyFor_91 ?_
        refine hm_aload_n C nd_EN_keyFor_94 rfl ?_
        refine hm_callV C (ct_EN_skipsTo_no M1 tm F1 T1 G dr _ _ se hE1.1 hb1.1 (by omega) a lk bs ro1 mi th1 sc1 st bf rc1 nx1 lf1 hR1 ix (by omega) (by omega) h5) nV_EN_skipsTo [.int (nI ix), .ref tm] rfl hA1.1 rfl nq_EN_90 nj_EN_skipsTo nx_EN_skipsTo rfl (rest := []) rfl (Nat.le_of_ble_eq_true rfl) (by decide) (by decide) (by omega) (by omega) nd_EN_keyFor_95 (fun r M2 hp => ?_)
        obtain ⟨rfl, eM2⟩ := hp
        rw [eM2]
        refine hm_stk (st' := [.int 0]) rfl ?_
        refine hm_if_ne (tgt := 103) C nd_EN_keyFor_98 (by decide) (fun c2 => absurd rfl c2) (fun c2 => ?_)
        refine hm_null C nd_EN_keyFor_101 ?_
        exact hm_aret (r := none) C E (Or.inl ⟨_, rfl⟩) (by rw [hkf]; dsimp only; omega) (by rw [hkf]; dsimp only; omega) (⟨F1, T1, by rw [hkf]; exact hE1, by rw [hkf]; exact ⟨rfl, _, _, _, _, _, _, hR1⟩⟩) nd_EN_keyFor_102
      · obtain ⟨d2, hd2⟩ : ∃ d2, ix = nx1 + d2 := ⟨ix - nx1, by omega⟩
        have hdd : ix - nx1 = d2 := by omega
        rw [if_neg (by omega), hdd] at hkf
        have r1 := hE1.room (sk_v rc1 d2 ++ [sm_t 6 (sk_r rc1 d2) 0, sm_t 7 (sk_r rc1 d2) 0])
        have l2 := sk_v_len d2 rc1
        have hmc : ts_kc (ts_k T) n c (kf k ix bw mi (ro, th, sc, rc, nx, lf)).1 = ts_kc (ts_k T) n c (vs ++ (sk_v rc1 d2 ++ [sm_t 6 (sk_r rc1 d2) 0, sm_t 7 (sk_r rc1 d2) 0])) ∧ ts_ks (ts_k T) n c (kf k ix bw mi (ro, th, sc, rc, nx, lf)).1 = ts_ks (ts_k T) n c (vs ++ (sk_v rc1 d2 ++ [sm_t 6 (sk_r rc1 d2) 0, sm_t 7 (sk_r rc1 d2) 0])) := by rw [hkf]; exact ⟨rfl, rfl⟩
        have rl := ts_kle (sk_v rc1 d2) [sm_t 6 (sk_r rc1 d2) 0, sm_t 7 (sk_r rc1 d2) 0] (ts_k T1) (ts_r (ts_k T) n c vs).1 (ts_r (ts_k T) n c vs).2
        refine hm_aload_n C nd_EN_keyFor_89 rfl ?_
        refine hm_aload_n C nd_EN_keyFor_90 rfl ?_
        refine hm_get C nF_EN_82 hw1.1 rfl nd_EN_keyFor_91 ?_
        refine hm_aload_n C nd_EN_keyFor_94 rfl ?_
        refine hm_stk (st' := [.ref tm, .int (nI (nx1 + d2)), .ref a]) (by rw [hd2]) ?_
        refine hm_callV C (ct_EN_skipsTo M1 tm F1 T1 G dr _ _ se hE1.1 hb1.1 (by omega) a lk bs ro1 mi th1 sc1 st bf rc1 nx1 lf1 hR1 d2 (by omega) (by omega) hrc1) nV_EN_skipsTo [.int (nI (nx1 + d2)), .ref tm] rfl hA1.1 rfl nq_EN_90 nj_EN_skipsTo nx_EN_skipsTo rfl (rest := []) rfl (Nat.le_of_ble_eq_true rfl) (by decide) (by decide) (by omega) (by omega) nd_EN_keyFor_95 (fun r M3 hp => ?_)
        obtain ⟨F2, T2, rfl, hP2, hR2⟩ := hp
        have hE2 := hE1.tr hP2
        have hb2 := hE2.bd hcn
        rw [List.length_append, l2] at hb2
        have r2 := hP2.room [sm_t 6 (sk_r rc1 d2) 0, sm_t 7 (sk_r rc1 d2) 0]
        have hrr : (ts_r (ts_k T1) (ts_r (ts_k T) n c vs).1 (ts_r (ts_k T) n c vs).2 (sk_v rc1 d2)) = ts_r (ts_k T) n c (vs ++ sk_v rc1 d2) := by rw [ts_r_app, hE1.k]
        rw [hrr] at r2
        obtain ⟨bb1, bb2, bb3, bb4, bb5, bb6, ff2, hA2, -⟩ := id hR2
        refine hm_stk (st' := [.int 1]) rfl ?_
        refine hm_if_ne (tgt := 103) C nd_EN_keyFor_98 (by decide) (fun c3 => ?_) (fun c3 => absurd c3 (by decide))
        refine hm_aload_n C nd_EN_keyFor_103 rfl ?_
        refine hm_aload_n C nd_EN_keyFor_104 rfl ?_
        refine hm_callV C (ct_EN_steppedKey M3 tm F2 T2 G dr _ _ se hE2.1 hb2.1 (by omega) a lk bs ro1 mi th1 sc1 st bf (sk_r rc1 d2) (nx1 + d2) (sk_f th1 rc1 nx1 lf1 d2) hR2 (sk_r_ne d2 rc1 hrc1)) nV_EN_steppedKey [.ref tm] rfl hA2.1 rfl nq_EN_98 nj_EN_steppedKey nx_EN_steppedKey rfl (rest := []) rfl (Nat.le_of_ble_eq_true rfl) (by decide) (by decide) (by omega) (by omega) nd_EN_keyFor_105 (fun r M4 hp => ?_)
        obtain ⟨q, F3, T3, iq, rfl, hP3, hq3, -, hR3⟩ := hp
        have hE3 := hE2.tr hP3
        rw [List.append_assoc] at hE3
        refine hm_stk (st' := [.ref q]) rfl ?_
        exact hm_aret (r := (some q)) C E (Or.inl ⟨_, rfl⟩) (by omega) (by omega) (⟨F3, T3, by rw [hkf]; exact hE3, by rw [hkf]; exact ⟨q, iq, rfl, hq3, by rw [hd2]; exact hR3⟩⟩) nd_EN_keyFor_108
  refine hm_lv (lv' := [(0, .ref a), (1, .ref w), (2, .ref tm)]) rfl ?_
  obtain ⟨pkf, kyf, hfn⟩ := hL.fn
  have hgd : ∀ i, i < lf.length → lf[i]? = some (lf.getD i (0, 0, 0)) := fun i hi => by rw [List.getD_eq_getElem?_getD, List.getElem?_eq_getElem hi]; rfl
  have hpe : ∀ i, i < lf.length → (pkf i = some p ↔ (lf.getD i (0, 0, 0)).1 = sm_t 1 k 0) := by
    intro i hi
    obtain ⟨-, b, -, -, h3, -⟩ := hfn i _ (hgd i hi)
    rcases h3 with ⟨h4, h5⟩ | ⟨z, iz, h4, h5⟩
    · rw [h4, h5]
      exact ⟨fun h => (by cases h), fun h => absurd h.symm (sm_t_ne _ _ _)⟩
    · rw [h4]
      have := (ts_uni hS h5 hTp).1
      exact ⟨fun h => this.mp (Option.some.inj h), fun h => congrArg some (this.mpr h)⟩
  refine hm_aload_n C nd_EN_keyFor_0 rfl ?_
  refine hm_aload_n C nd_EN_keyFor_1 rfl ?_
  refine hm_get C nF_EN_79 hw.1 rfl nd_EN_keyFor_2 ?_
  refine hm_aload_n C nd_EN_keyFor_5 rfl ?_
  refine hm_get C nF_EN_82 hw.1 rfl nd_EN_keyFor_6 ?_
  refine hm_callV C (ct_EN_pulledLeftKey M a lk bs' ro' mi' th' sc' (nI st) (nI bf) rc' (nI nx) lf.length f hA.1 hL.1.1 hl8 pkf (fun i => (lf.getD i (0, 0, 0)).2.1) kyf (fun i hi => (by obtain ⟨h5, b, h1, h2, -⟩ := hfn i _ (hgd i hi); exact ⟨by omega, b, h1, h2.1⟩)) hL.2.2.2 (some p) ix (by omega)) nV_EN_pulledLeftKey [va_rf (some p), .int (nI ix)] rfl hA.1 rfl nq_EN_85 nj_EN_pulledLeftKey nx_EN_pulledLeftKey rfl (rest := []) rfl (Nat.le_of_ble_eq_true rfl) (by decide) (by decide) (by omega) (by omega) nd_EN_keyFor_9 (fun r M1 hp => ?_)
  rcases hp with ⟨i, hi, e1, e2, e3, rfl, e4⟩ | ⟨e3, rfl, e4⟩
  · have hq := hgd i hi
    have hkf : ke_f (sm_t 1 k 0) ix lf = some ((lf.getD i (0, 0, 0)).2.2, lf.eraseIdx i) := ke_f_some hq ⟨(hpe i hi).mp e1, e2⟩ (fun j z hj hz hm => e3 j hj (by
      have hjl : j < lf.length := by omega
      have ez : lf.getD j (0, 0, 0) = z := Option.some.inj ((hgd j hjl).symm.trans hz)
      exact ⟨(hpe j hjl).mpr (by rw [ez]; exact hm.1), by rw [ez]; exact hm.2⟩))
    have hkk : (kf k ix bw mi (ro, th, sc, rc, nx, lf)) = ([], some ((lf.getD i (0, 0, 0)).2.2, ro, th, sc, rc, nx, lf.eraseIdx i)) := by
      unfold kf
      rw [show (ro, th, sc, rc, nx, lf).2.2.2.2.2 = lf from rfl, hkf]
    obtain ⟨-, b, hb1, hb2, -, hb4⟩ := hfn i _ hq
    obtain ⟨q, iq, hky, hTq⟩ := ts_o_so hb4 (hlz i _ hq)
    have hal : a ≠ lk := hm_neA hA.1 hL.1.1
    have hL2 := en_L.er (M' := M1) hL hi (by rw [e4, hm_up_n _ _ (Ne.symm hal)]; exact hm_up_s _ _ _) (fun y vs hy => by rw [e4, hm_up_n _ _ (hm_ne hy hA.1 (by decide)), hm_up_n _ _ (hm_neA hy hL.1.1)])
    have hE2 : en_P D tm M F T G n c se dr [] a lk M1 F T := by rw [e4]; exact ((en_P.rf hS).put (Or.inr rfl) hL.1.2).put (Or.inl rfl) hA.2
    have hR2 : en_R D M1 F T a lk bs ro mi th sc st bf rc nx (lf.eraseIdx i) := ⟨bs', ro', mi', th', sc', rc', _, ⟨by rw [e4, hm_up_s, List.length_eraseIdx, if_pos hi], hA.2⟩, o1, o2, o3, o4, o5, o6, hL2⟩
    rw [hky]
    refine hm_stk (st' := [.ref q]) rfl ?_
    refine hm_astore_n C [(3, .ref q), (0, .ref a), (1, .ref w), (2, .ref tm)] nd_EN_keyFor_12 (by decide) rfl ?_
    refine hm_aload_n C nd_EN_keyFor_13 rfl ?_
    refine hm_ifnull (tgt := 19) (r := (some q)) C nd_EN_keyFor_14 (by decide) (fun h => by cases h) (fun _ => ?_)
    refine hm_aload_n C nd_EN_keyFor_17 rfl ?_
    exact hm_aret (r := (some q)) C E (Or.inl ⟨_, rfl⟩) (by omega) (by omega) (⟨F, T, by rw [hkk]; exact hE2, by rw [hkk]; exact ⟨q, iq, rfl, hTq, hR2⟩⟩) nd_EN_keyFor_18
  · have hkf : ke_f (sm_t 1 k 0) ix lf = none := ke_f_none (fun j z hz hm => by
      have hjl : j < lf.length := (List.getElem?_eq_some_iff.mp hz).1
      have ez : lf.getD j (0, 0, 0) = z := Option.some.inj ((hgd j hjl).symm.trans hz)
      exact e3 j hjl ⟨(hpe j hjl).mpr (by rw [ez]; exact hm.1), by rw [ez]; exact hm.2⟩)
    have hk1 : (kf k ix bw mi (ro, th, sc, rc, nx, lf)) = match kf_1 k bw mi (ro, th, sc, rc, nx, lf) with | none => ([], none) | some S => kf_2 ix S := by
      unfold kf
      rw [show (ro, th, sc, rc, nx, lf).2.2.2.2.2 = lf from rfl, hkf]
      rfl
    unfold kf_1 at hk1
    dsimp only at hk1
    rw [e4]
    refine hm_stk (st' := [.null]) rfl ?_
    refine hm_astore_nQ (r := none) C [(3, .null), (0, .ref a), (1, .ref w), (2, .ref tm)] nd_EN_keyFor_12 (by decide) rfl ?_
    refine hm_aload_nN C nd_EN_keyFor_13 rfl ?_
    refine hm_ifnull (tgt := 19) (r := none) C nd_EN_keyFor_14 (by decide) (fun _ => ?_) (fun h => absurd rfl h)
    refine hm_lv (lv' := [(3, .null), (0, .ref a), (1, .ref w), (2, .ref tm)]) rfl ?_
    have hth : (some p = th') ↔ (sm_t 1 k 0 = th) := by
      rcases o4 with ⟨h4, h5⟩ | ⟨z, iz, h4, h5⟩
      · rw [h4, h5]
        exact ⟨fun h => (by cases h), fun h => absurd h (sm_t_ne _ _ _)⟩
      · rw [h4]
        have := (ts_uni hS hTp h5).1
        exact ⟨fun h => this.mp (Option.some.inj h), fun h => congrArg some (this.mpr h)⟩
    have hrc0 : rc' = none ↔ rc = 0 := by
      rcases o6 with ⟨h4, h5⟩ | ⟨z, iz, h4, h5⟩
      · exact ⟨fun _ => h5, fun _ => h4⟩
      · obtain ⟨la9, ea9, ad9, kd9, lf9, rt9, er9, lu9, pb9, dv9, vl9, hX9, hI9, -, rfl⟩ := id hS
        rw [h4]
        exact ⟨fun h => (by cases h), fun h => absurd (h5.2.2.symm.trans h) (tt_pos hI9.2.2.2.1 h5.1)⟩
    have go : ¬ (sm_t 1 k 0 = th ∧ rc ≠ 0) → hm_W X M 0 0 37 [(3, .null), (0, .ref a), (1, .ref w), (2, .ref tm)] [] := by
      intro hcond
      rw [if_neg hcond] at hk1
      have turn : ∀ (M1 : hm_M) (F1 : Nat → Prop) (T1 : Nat → Nat → Nat → Prop) (vs : List Nat) (rc1 nx1 : Nat) (lf1 : List (Nat × Nat × Nat)), vs.length ≤ 10 → en_P D tm M F T G n c se dr vs a lk M1 F1 T1 → en_R D M1 F1 T1 a lk bs ro mi th sc st bf rc1 nx1 lf1 → (kf k ix bw mi (ro, th, sc, rc, nx, lf)) = kf_2 ix (vs ++ kf_v mi k ro, sm_t 4 ro (sm_sh mi k), sm_t 1 k 0, 0, sm_t 5 ro (sm_sh mi k), 0, lf1) → (∀ ws, ts_kc (ts_k T) n c ((vs ++ kf_v mi k ro) ++ ws) = ts_kc (ts_k T) n c (kf k ix bw mi (ro, th, sc, rc, nx, lf)).1 → True) → ts_kc (ts_k T) n c (vs ++ kf_v mi k ro) ≤ ts_kc (ts_k T) n c (kf k ix bw mi (ro, th, sc, rc, nx, lf)).1 → ts_ks (ts_k T) n c (vs ++ kf_v mi k ro) ≤ ts_ks (ts_k T) n c (kf k ix bw mi (ro, th, sc, rc, nx, lf)).1 → hm_W X M1 (5 + ts_kc (ts_k T) n c vs) (15 + ts_ks (ts_k T) n c vs) 69 [(3, .null), (0, .ref a), (1, .ref w), (2, .ref tm)] [] := by
        intro M1 F1 T1 vs rc1 nx1 lf1 hvl hE1 hR1 hkk _ hle1 hle2
        have hw1 := hwE.step hE1.2.1
        obtain ⟨b1', b2', b3', b4', b5', b6', f1, hA1, -⟩ := id hR1
        have hb1 := hE1.bd hcn
        have rm := hE1.room (kf_v mi k ro)
        refine hm_aload_n C nd_EN_keyFor_69 rfl ?_
        refine hm_aload_n C nd_EN_keyFor_70 rfl ?_
        refine hm_get C nF_EN_79 hw1.1 rfl nd_EN_keyFor_71 ?_
        refine hm_aload_n C nd_EN_keyFor_74 rfl ?_
        refine hm_stk (st' := [.ref tm, .ref p, .ref a]) rfl ?_
        refine hm_callV C (ct_EN_turnReceiving M1 tm F1 T1 G dr _ _ se hE1.1 hb1.1 (by omega) a lk bs ro mi th sc st bf rc1 nx1 lf1 hR1 d p ip k e hmi (hE1.2.2.1 _ _ _ hTp) hk) nV_EN_turnReceiving [.ref p, .ref tm] rfl hA1.1 rfl nq_EN_94 nj_EN_turnReceiving nx_EN_turnReceiving rfl (rest := []) rfl (Nat.le_of_ble_eq_true rfl) (by decide) (by decide) (by have h9 := rm.1; unfold kf_v at h9 hle1; omega) (by have h9 := rm.2; unfold kf_v at h9 hle2; omega) nd_EN_keyFor_75 (fun r M21 hp => ?_)
        obtain ⟨F2, T2, rfl, hP2, hR2⟩ := hp
        have hE2 := hE1.tr hP2
        refine hm_stk (st' := []) rfl ?_
        refine hm_widen (k' := 5 + ts_kc (ts_k T) n c (vs ++ kf_v mi k ro)) (n' := 15 + ts_ks (ts_k T) n c (vs ++ kf_v mi k ro)) (by have h9 := rm.1; unfold kf_v at h9 ⊢; omega) (by have h9 := rm.2; unfold kf_v at h9 ⊢; omega) ?_
        exact tail M21 F2 T2 (vs ++ kf_v mi k ro) (sm_t 4 ro (sm_sh mi k)) (sm_t 1 k 0) 0 (sm_t 5 ro (sm_sh mi k)) 0 lf1 (by rw [List.length_append]; show _ + 4 ≤ 14; omega) (sm_t_ne _ _ _) (by omega) hE2 hR2 hkk
      have kle : ∀ S, (kf k ix bw mi (ro, th, sc, rc, nx, lf)) = kf_2 ix S → ts_kc (ts_k T) n c S.1 ≤ ts_kc (ts_k T) n c (kf k ix bw mi (ro, th, sc, rc, nx, lf)).1 ∧ ts_ks (ts_k T) n c S.1 ≤ ts_ks (ts_k T) n c (kf k ix bw mi (ro, th, sc, rc, nx, lf)).1 := by
        intro S hS9
        obtain ⟨vs9, r9, t9, s9, c9, n9, l9⟩ := S
        rw [hS9]
        unfold kf_2
        dsimp only
        split
        · exact ⟨Nat.le_refl _, Nat.le_refl _⟩
        · exact ts_kle _ _ _ _ _
      refine hm_aload_n C nd_EN_keyFor_37 rfl ?_
      refine hm_get C nF_EN_47 hA.1 rfl nd_EN_keyFor_38 ?_
      refine hm_ifnull (tgt := 69) (r := rc') C nd_EN_keyFor_41 (by decide) (fun c3 => ?_) (fun c3 => ?_)
      · have h0 : rc = 0 := hrc0.mp c3
        rw [if_neg (fun h => h.1 h0)] at hk1
        dsimp only at hk1
        have hle := kle _ hk1
        refine hm_widen (k' := 5 + ts_kc (ts_k T) n c []) (n' := 15 + ts_ks (ts_k T) n c []) (by omega) (by omega) ?_
        exact turn M F T [] rc nx lf (by decide) (en_P.rf hS) hR hk1 (fun _ _ => trivial) hle.1 hle.2
      · have h0 : rc ≠ 0 := fun h => c3 (hrc0.mpr h)
        refine hm_aload_n C nd_EN_keyFor_44 rfl ?_
        refine hm_get C nF_EN_89 hw.1 rfl nd_EN_keyFor_45 ?_
        refine hm_aload_n C nd_EN_keyFor_48 rfl ?_
        refine hm_get C nF_EN_50 hA.1 rfl nd_EN_keyFor_49 ?_
        refine hm_icmp_le (tgt := 69) C nd_EN_keyFor_52 (by decide) (fun c4 => ?_) (fun c4 => ?_)
        · have hbn : bw ≤ nx := (nI_leI (by omega) (by omega)).mp c4
          rw [if_neg (fun h => by omega)] at hk1
          dsimp only at hk1
          have hle := kle _ hk1
          refine hm_widen (k' := 5 + ts_kc (ts_k T) n c []) (n' := 15 + ts_ks (ts_k T) n c []) (by omega) (by omega) ?_
          exact turn M F T [] rc nx lf (by decide) (en_P.rf hS) hR hk1 (fun _ _ => trivial) hle.1 hle.2
        · have hbn : nx < bw := by
            rcases Nat.lt_or_ge nx bw with h | h
            · exact h
            · exact absurd (nI_le h (by omega)) c4
          rw [if_pos ⟨h0, hbn⟩] at hk1
          by_cases h5 : nx + 5 < bw
          · rw [if_pos h5] at hk1
            dsimp only at hk1
            refine hm_aload_n C nd_EN_keyFor_55 rfl ?_
            refine hm_aload_n C nd_EN_keyFor_56 rfl ?_
            refine hm_get C nF_EN_89 hw.1 rfl nd_EN_keyFor_57 ?_
            refine hm_aload_n C nd_EN_keyFor_60 rfl ?_
            refine hm_callV C (ct_EN_skipsTo_no M tm F T G dr n c se hS hcn (by omega) a lk bs ro mi th sc st bf rc nx lf hR bw (by omega) (by omega) h5) nV_EN_skipsTo [.int (nI bw), .ref tm] rfl hA.1 rfl nq_EN_90 nj_EN_skipsTo nx_EN_skipsTo rfl (rest := []) rfl (Nat.le_of_ble_eq_true rfl) (by decide) (by decide) (by omega) (by omega) nd_EN_keyFor_61 (fun r M11 hp => ?_)
            obtain ⟨rfl, eM11⟩ := hp
            rw [eM11]
            refine hm_stk (st' := [.int 0]) rfl ?_
            refine hm_if_ne (tgt := 69) C nd_EN_keyFor_64 (by decide) (fun c5 => absurd rfl c5) (fun c5 => ?_)
            refine hm_null C nd_EN_keyFor_67 ?_
            exact hm_aret (r := none) C E (Or.inl ⟨_, rfl⟩) (by omega) (by omega) (⟨F, T, by rw [hk1]; exact en_P.rf hS, by rw [hk1]; exact ⟨rfl, _, _, _, _, _, _, hR⟩⟩) nd_EN_keyFor_68
          · rw [if_neg h5] at hk1
            dsimp only at hk1
            obtain ⟨d1, hd1⟩ : ∃ d1, bw = nx + d1 := ⟨bw - nx, by omega⟩
            have hdd : bw - nx = d1 := by omega
            rw [hdd] at hk1
            have hle := kle _ hk1
            dsimp only at hle
            have rl := ts_kle (sk_v rc d1) (kf_v mi k ro) (ts_k T) n c
            have l1 := sk_v_len d1 rc
            refine hm_aload_n C nd_EN_keyFor_55 rfl ?_
            refine hm_aload_n C nd_EN_keyFor_56 rfl ?_
            refine hm_get C nF_EN_89 hw.1 rfl nd_EN_keyFor_57 ?_
            refine hm_aload_n C nd_EN_keyFor_60 rfl ?_
            refine hm_stk (st' := [.ref tm, .int (nI (nx + d1)), .ref a]) (by rw [hd1]) ?_
            refine hm_callV C (ct_EN_skipsTo M tm F T G dr n c se hS hcn (by omega) a lk bs ro mi th sc st bf rc nx lf hR d1 (by omega) (by omega) h0) nV_EN_skipsTo [.int (nI (nx + d1)), .ref tm] rfl hA.1 rfl nq_EN_90 nj_EN_skipsTo nx_EN_skipsTo rfl (rest := []) rfl (Nat.le_of_ble_eq_true rfl) (by decide) (by decide) (by omega) (by omega) nd_EN_keyFor_61 (fun r M12 hp => ?_)
            obtain ⟨F2, T2, rfl, hP2, hR2⟩ := hp
            refine hm_stk (st' := [.int 1]) rfl ?_
            refine hm_if_ne (tgt := 69) C nd_EN_keyFor_64 (by decide) (fun c5 => ?_) (fun c5 => absurd c5 (by decide))
            refine hm_widen (k' := 5 + ts_kc (ts_k T) n c (sk_v rc d1)) (n' := 15 + ts_ks (ts_k T) n c (sk_v rc d1)) (by omega) (by omega) ?_
            exact turn M12 F2 T2 (sk_v rc d1) (sk_r rc d1) (nx + d1) (sk_f th rc nx lf d1) (by omega) hP2 hR2 hk1 (fun _ _ => trivial) hle.1 hle.2
    refine hm_aload_n C nd_EN_keyFor_19 rfl ?_
    refine hm_get C nF_EN_79 hw.1 rfl nd_EN_keyFor_20 ?_
    refine hm_aload_n C nd_EN_keyFor_23 rfl ?_
    refine hm_get C nF_EN_34 hA.1 rfl nd_EN_keyFor_24 ?_
    refine hm_acmp_ne (tgt := 37) (rx := (some p)) (ry := th') C nd_EN_keyFor_27 (by decide) (fun c1 => ?_) (fun c1 => ?_)
    · exact go (fun h => c1 (hth.mpr h.1))
    · refine hm_aload_n C nd_EN_keyFor_30 rfl ?_
      refine hm_get C nF_EN_47 hA.1 rfl nd_EN_keyFor_31 ?_
      refine hm_ifnonnull (tgt := 78) (r := rc') C nd_EN_keyFor_34 (by decide) (fun c2 => ?_) (fun c2 => ?_)
      · have h0 : rc ≠ 0 := fun h => c2 (hrc0.mpr h)
        rw [if_pos ⟨hth.mp c1, h0⟩] at hk1
        dsimp only at hk1
        refine hm_widen (k' := 5 + ts_kc (ts_k T) n c []) (n' := 15 + ts_ks (ts_k T) n c []) (by omega) (by omega) ?_
        exact tail M F T [] ro th sc rc nx lf (by decide) h0 hnx (en_P.rf hS) hR hk1
      · exact go (fun h => h.2 (hrc0.mp c2))
end
