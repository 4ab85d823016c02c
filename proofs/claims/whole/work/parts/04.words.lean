/-! WORDS, by program (wip/whole/names.py): the places of the words in the table -/
theorem nl_AL_0 : Cond.lays "java/util/ArrayList" "java/util/ArrayList" "elementData" "[Ljava/lang/Object;" ∈ hm_tb := hm_tb_in (List.mem_of_getElem? (i := 84) (by decide +kernel)) (by decide +kernel)
theorem nl_AL_1 : Cond.lays "java/util/ArrayList" "java/util/ArrayList" "size" "I" ∈ hm_tb := hm_tb_in (List.mem_of_getElem? (i := 86) (by decide +kernel)) (by decide +kernel)
theorem nl_AL_2 : Cond.lays "java/util/ArrayList" "java/util/AbstractList" "modCount" "I" ∈ hm_tb := hm_tb_in (List.mem_of_getElem? (i := 88) (by decide +kernel)) (by decide +kernel)
theorem nW_AL : ∀ w ∈ u_ws nR_AL nT_AL 3, w ∈ hm_tb := by
  intro w hw
  obtain ⟨k, hk, rfl⟩ := List.mem_map.mp hw
  have hk := List.mem_range.mp hk
  match k, hk with
  | 0, _ => exact nl_AL_0
  | 1, _ => exact nl_AL_1
  | 2, _ => exact nl_AL_2
  | k + 3, hk => exact absurd hk (by omega)
theorem nl_TS_0 : Cond.laysFinal "TurnedKeys$Terms" "TurnedKeys$Terms" "all" "Ljava/util/ArrayList;" ∈ hm_tb := hm_tb_in (List.mem_of_getElem? (i := 95) (by decide +kernel)) (by decide +kernel)
theorem nl_TS_1 : Cond.lays "TurnedKeys$Terms" "TurnedKeys$Terms" "drawn" "I" ∈ hm_tb := hm_tb_in (List.mem_of_getElem? (i := 97) (by decide +kernel)) (by decide +kernel)
theorem nl_TS_2 : Cond.lays "TurnedKeys$Terms" "TurnedKeys$Terms" "settled" "I" ∈ hm_tb := hm_tb_in (List.mem_of_getElem? (i := 99) (by decide +kernel)) (by decide +kernel)
theorem nW_TS : ∀ w ∈ u_ws nR_TS nT_TS 3, w ∈ hm_tb := by
  intro w hw
  obtain ⟨k, hk, rfl⟩ := List.mem_map.mp hw
  have hk := List.mem_range.mp hk
  match k, hk with
  | 0, _ => exact nl_TS_0
  | 1, _ => exact nl_TS_1
  | 2, _ => exact nl_TS_2
  | k + 3, hk => exact absurd hk (by omega)
theorem nl_TE_0 : Cond.laysFinal "TurnedKeys$Term" "TurnedKeys$Term" "kind" "I" ∈ hm_tb := hm_tb_in (List.mem_of_getElem? (i := 133) (by decide +kernel)) (by decide +kernel)
theorem nl_TE_1 : Cond.laysFinal "TurnedKeys$Term" "TurnedKeys$Term" "place" "I" ∈ hm_tb := hm_tb_in (List.mem_of_getElem? (i := 135) (by decide +kernel)) (by decide +kernel)
theorem nl_TE_2 : Cond.laysFinal "TurnedKeys$Term" "TurnedKeys$Term" "left" "LTurnedKeys$Term;" ∈ hm_tb := hm_tb_in (List.mem_of_getElem? (i := 137) (by decide +kernel)) (by decide +kernel)
theorem nl_TE_3 : Cond.laysFinal "TurnedKeys$Term" "TurnedKeys$Term" "right" "LTurnedKeys$Term;" ∈ hm_tb := hm_tb_in (List.mem_of_getElem? (i := 139) (by decide +kernel)) (by decide +kernel)
theorem nl_TE_4 : Cond.laysFinal "TurnedKeys$Term" "TurnedKeys$Term" "earlierUser" "LTurnedKeys$Term;" ∈ hm_tb := hm_tb_in (List.mem_of_getElem? (i := 141) (by decide +kernel)) (by decide +kernel)
theorem nl_TE_5 : Cond.lays "TurnedKeys$Term" "TurnedKeys$Term" "latestUser" "LTurnedKeys$Term;" ∈ hm_tb := hm_tb_in (List.mem_of_getElem? (i := 143) (by decide +kernel)) (by decide +kernel)
theorem nl_TE_6 : Cond.lays "TurnedKeys$Term" "TurnedKeys$Term" "publicTerm" "LTurnedKeys$Term;" ∈ hm_tb := hm_tb_in (List.mem_of_getElem? (i := 145) (by decide +kernel)) (by decide +kernel)
theorem nl_TE_7 : Cond.lays "TurnedKeys$Term" "TurnedKeys$Term" "derived" "Z" ∈ hm_tb := hm_tb_in (List.mem_of_getElem? (i := 147) (by decide +kernel)) (by decide +kernel)
theorem nW_TE : ∀ w ∈ u_ws nR_TE nT_TE 8, w ∈ hm_tb := by
  intro w hw
  obtain ⟨k, hk, rfl⟩ := List.mem_map.mp hw
  have hk := List.mem_range.mp hk
  match k, hk with
  | 0, _ => exact nl_TE_0
  | 1, _ => exact nl_TE_1
  | 2, _ => exact nl_TE_2
  | 3, _ => exact nl_TE_3
  | 4, _ => exact nl_TE_4
  | 5, _ => exact nl_TE_5
  | 6, _ => exact nl_TE_6
  | 7, _ => exact nl_TE_7
  | k + 8, hk => exact absurd hk (by omega)
theorem nl_EN_0 : Cond.lays "TurnedKeys$End" "TurnedKeys$End" "base" "LTurnedKeys$Term;" ∈ hm_tb := hm_tb_in (List.mem_of_getElem? (i := 252) (by decide +kernel)) (by decide +kernel)
theorem nl_EN_1 : Cond.lays "TurnedKeys$End" "TurnedKeys$End" "root" "LTurnedKeys$Term;" ∈ hm_tb := hm_tb_in (List.mem_of_getElem? (i := 254) (by decide +kernel)) (by decide +kernel)
theorem nl_EN_2 : Cond.lays "TurnedKeys$End" "TurnedKeys$End" "mine" "LTurnedKeys$Term;" ∈ hm_tb := hm_tb_in (List.mem_of_getElem? (i := 256) (by decide +kernel)) (by decide +kernel)
theorem nl_EN_3 : Cond.lays "TurnedKeys$End" "TurnedKeys$End" "theirs" "LTurnedKeys$Term;" ∈ hm_tb := hm_tb_in (List.mem_of_getElem? (i := 258) (by decide +kernel)) (by decide +kernel)
theorem nl_EN_4 : Cond.lays "TurnedKeys$End" "TurnedKeys$End" "sendChain" "LTurnedKeys$Term;" ∈ hm_tb := hm_tb_in (List.mem_of_getElem? (i := 260) (by decide +kernel)) (by decide +kernel)
theorem nl_EN_5 : Cond.lays "TurnedKeys$End" "TurnedKeys$End" "sent" "I" ∈ hm_tb := hm_tb_in (List.mem_of_getElem? (i := 262) (by decide +kernel)) (by decide +kernel)
theorem nl_EN_6 : Cond.lays "TurnedKeys$End" "TurnedKeys$End" "before" "I" ∈ hm_tb := hm_tb_in (List.mem_of_getElem? (i := 264) (by decide +kernel)) (by decide +kernel)
theorem nl_EN_7 : Cond.lays "TurnedKeys$End" "TurnedKeys$End" "receiveChain" "LTurnedKeys$Term;" ∈ hm_tb := hm_tb_in (List.mem_of_getElem? (i := 266) (by decide +kernel)) (by decide +kernel)
theorem nl_EN_8 : Cond.lays "TurnedKeys$End" "TurnedKeys$End" "next" "I" ∈ hm_tb := hm_tb_in (List.mem_of_getElem? (i := 268) (by decide +kernel)) (by decide +kernel)
theorem nl_EN_9 : Cond.laysFinal "TurnedKeys$End" "TurnedKeys$End" "leftKeys" "[LTurnedKeys$LeftKey;" ∈ hm_tb := hm_tb_in (List.mem_of_getElem? (i := 270) (by decide +kernel)) (by decide +kernel)
theorem nl_EN_10 : Cond.lays "TurnedKeys$End" "TurnedKeys$End" "leftCount" "I" ∈ hm_tb := hm_tb_in (List.mem_of_getElem? (i := 272) (by decide +kernel)) (by decide +kernel)
theorem nW_EN : ∀ w ∈ u_ws nR_EN nT_EN 11, w ∈ hm_tb := by
  intro w hw
  obtain ⟨k, hk, rfl⟩ := List.mem_map.mp hw
  have hk := List.mem_range.mp hk
  match k, hk with
  | 0, _ => exact nl_EN_0
  | 1, _ => exact nl_EN_1
  | 2, _ => exact nl_EN_2
  | 3, _ => exact nl_EN_3
  | 4, _ => exact nl_EN_4
  | 5, _ => exact nl_EN_5
  | 6, _ => exact nl_EN_6
  | 7, _ => exact nl_EN_7
  | 8, _ => exact nl_EN_8
  | 9, _ => exact nl_EN_9
  | 10, _ => exact nl_EN_10
  | k + 11, hk => exact absurd hk (by omega)
theorem nl_LK_0 : Cond.laysFinal "TurnedKeys$LeftKey" "TurnedKeys$LeftKey" "publicKey" "LTurnedKeys$Term;" ∈ hm_tb := hm_tb_in (List.mem_of_getElem? (i := 430) (by decide +kernel)) (by decide +kernel)
theorem nl_LK_1 : Cond.laysFinal "TurnedKeys$LeftKey" "TurnedKeys$LeftKey" "index" "I" ∈ hm_tb := hm_tb_in (List.mem_of_getElem? (i := 432) (by decide +kernel)) (by decide +kernel)
theorem nl_LK_2 : Cond.laysFinal "TurnedKeys$LeftKey" "TurnedKeys$LeftKey" "key" "LTurnedKeys$Term;" ∈ hm_tb := hm_tb_in (List.mem_of_getElem? (i := 434) (by decide +kernel)) (by decide +kernel)
theorem nW_LK : ∀ w ∈ u_ws nR_LK nT_LK 3, w ∈ hm_tb := by
  intro w hw
  obtain ⟨k, hk, rfl⟩ := List.mem_map.mp hw
  have hk := List.mem_range.mp hk
  match k, hk with
  | 0, _ => exact nl_LK_0
  | 1, _ => exact nl_LK_1
  | 2, _ => exact nl_LK_2
  | k + 3, hk => exact absurd hk (by omega)
theorem nl_WI_0 : Cond.laysFinal "TurnedKeys$Wire" "TurnedKeys$Wire" "sender" "I" ∈ hm_tb := hm_tb_in (List.mem_of_getElem? (i := 349) (by decide +kernel)) (by decide +kernel)
theorem nl_WI_1 : Cond.laysFinal "TurnedKeys$Wire" "TurnedKeys$Wire" "index" "I" ∈ hm_tb := hm_tb_in (List.mem_of_getElem? (i := 351) (by decide +kernel)) (by decide +kernel)
theorem nl_WI_2 : Cond.laysFinal "TurnedKeys$Wire" "TurnedKeys$Wire" "before" "I" ∈ hm_tb := hm_tb_in (List.mem_of_getElem? (i := 353) (by decide +kernel)) (by decide +kernel)
theorem nl_WI_3 : Cond.laysFinal "TurnedKeys$Wire" "TurnedKeys$Wire" "publicKey" "LTurnedKeys$Term;" ∈ hm_tb := hm_tb_in (List.mem_of_getElem? (i := 355) (by decide +kernel)) (by decide +kernel)
theorem nl_WI_4 : Cond.laysFinal "TurnedKeys$Wire" "TurnedKeys$Wire" "key" "LTurnedKeys$Term;" ∈ hm_tb := hm_tb_in (List.mem_of_getElem? (i := 357) (by decide +kernel)) (by decide +kernel)
theorem nl_WI_5 : Cond.laysFinal "TurnedKeys$Wire" "TurnedKeys$Wire" "letter" "LTurnedKeys$Term;" ∈ hm_tb := hm_tb_in (List.mem_of_getElem? (i := 359) (by decide +kernel)) (by decide +kernel)
theorem nW_WI : ∀ w ∈ u_ws nR_WI nT_WI 6, w ∈ hm_tb := by
  intro w hw
  obtain ⟨k, hk, rfl⟩ := List.mem_map.mp hw
  have hk := List.mem_range.mp hk
  match k, hk with
  | 0, _ => exact nl_WI_0
  | 1, _ => exact nl_WI_1
  | 2, _ => exact nl_WI_2
  | 3, _ => exact nl_WI_3
  | 4, _ => exact nl_WI_4
  | 5, _ => exact nl_WI_5
  | k + 6, hk => exact absurd hk (by omega)
theorem nl_TK_0 : Cond.laysFinal "TurnedKeys" "TurnedKeys" "terms" "LTurnedKeys$Terms;" ∈ hm_tb := hm_tb_in (List.mem_of_getElem? (i := 294) (by decide +kernel)) (by decide +kernel)
theorem nl_TK_1 : Cond.laysFinal "TurnedKeys" "TurnedKeys" "ends" "[LTurnedKeys$End;" ∈ hm_tb := hm_tb_in (List.mem_of_getElem? (i := 296) (by decide +kernel)) (by decide +kernel)
theorem nl_TK_2 : Cond.laysFinal "TurnedKeys" "TurnedKeys" "kept" "[LTurnedKeys$End;" ∈ hm_tb := hm_tb_in (List.mem_of_getElem? (i := 298) (by decide +kernel)) (by decide +kernel)
theorem nl_TK_3 : Cond.laysFinal "TurnedKeys" "TurnedKeys" "trial" "LTurnedKeys$End;" ∈ hm_tb := hm_tb_in (List.mem_of_getElem? (i := 300) (by decide +kernel)) (by decide +kernel)
theorem nl_TK_4 : Cond.laysFinal "TurnedKeys" "TurnedKeys" "wires" "Ljava/util/ArrayList;" ∈ hm_tb := hm_tb_in (List.mem_of_getElem? (i := 302) (by decide +kernel)) (by decide +kernel)
theorem nl_TK_5 : Cond.lays "TurnedKeys" "TurnedKeys" "makingCalls" "I" ∈ hm_tb := hm_tb_in (List.mem_of_getElem? (i := 304) (by decide +kernel)) (by decide +kernel)
theorem nW_TK : ∀ w ∈ u_ws nR_TK nT_TK 6, w ∈ hm_tb := by
  intro w hw
  obtain ⟨k, hk, rfl⟩ := List.mem_map.mp hw
  have hk := List.mem_range.mp hk
  match k, hk with
  | 0, _ => exact nl_TK_0
  | 1, _ => exact nl_TK_1
  | 2, _ => exact nl_TK_2
  | 3, _ => exact nl_TK_3
  | 4, _ => exact nl_TK_4
  | 5, _ => exact nl_TK_5
  | k + 6, hk => exact absurd hk (by omega)
theorem nl_MO_0 : Cond.lays "TurnedKeysModel" "TurnedKeysModel" "terms" "I" ∈ hm_tb := hm_tb_in (List.mem_of_getElem? (i := 557) (by decide +kernel)) (by decide +kernel)
theorem nl_MO_1 : Cond.laysFinal "TurnedKeysModel" "TurnedKeysModel" "sort" "[B" ∈ hm_tb := hm_tb_in (List.mem_of_getElem? (i := 559) (by decide +kernel)) (by decide +kernel)
theorem nl_MO_2 : Cond.laysFinal "TurnedKeysModel" "TurnedKeysModel" "one" "[I" ∈ hm_tb := hm_tb_in (List.mem_of_getElem? (i := 561) (by decide +kernel)) (by decide +kernel)
theorem nl_MO_3 : Cond.laysFinal "TurnedKeysModel" "TurnedKeysModel" "two" "[I" ∈ hm_tb := hm_tb_in (List.mem_of_getElem? (i := 563) (by decide +kernel)) (by decide +kernel)
theorem nl_MO_4 : Cond.laysFinal "TurnedKeysModel" "TurnedKeysModel" "three" "[I" ∈ hm_tb := hm_tb_in (List.mem_of_getElem? (i := 565) (by decide +kernel)) (by decide +kernel)
theorem nl_MO_5 : Cond.laysFinal "TurnedKeysModel" "TurnedKeysModel" "given" "[Z" ∈ hm_tb := hm_tb_in (List.mem_of_getElem? (i := 567) (by decide +kernel)) (by decide +kernel)
theorem nl_MO_6 : Cond.laysFinal "TurnedKeysModel" "TurnedKeysModel" "known" "[Z" ∈ hm_tb := hm_tb_in (List.mem_of_getElem? (i := 569) (by decide +kernel)) (by decide +kernel)
theorem nl_MO_7 : Cond.laysFinal "TurnedKeysModel" "TurnedKeysModel" "table" "[I" ∈ hm_tb := hm_tb_in (List.mem_of_getElem? (i := 571) (by decide +kernel)) (by decide +kernel)
theorem nl_MO_8 : Cond.lays "TurnedKeysModel" "TurnedKeysModel" "isOld" "Z" ∈ hm_tb := hm_tb_in (List.mem_of_getElem? (i := 573) (by decide +kernel)) (by decide +kernel)
theorem nl_MO_9 : Cond.lays "TurnedKeysModel" "TurnedKeysModel" "drawn" "I" ∈ hm_tb := hm_tb_in (List.mem_of_getElem? (i := 575) (by decide +kernel)) (by decide +kernel)
theorem nl_MO_10 : Cond.lays "TurnedKeysModel" "TurnedKeysModel" "heads" "I" ∈ hm_tb := hm_tb_in (List.mem_of_getElem? (i := 577) (by decide +kernel)) (by decide +kernel)
theorem nl_MO_11 : Cond.laysFinal "TurnedKeysModel" "TurnedKeysModel" "headN" "[I" ∈ hm_tb := hm_tb_in (List.mem_of_getElem? (i := 579) (by decide +kernel)) (by decide +kernel)
theorem nl_MO_12 : Cond.laysFinal "TurnedKeysModel" "TurnedKeysModel" "headBefore" "[I" ∈ hm_tb := hm_tb_in (List.mem_of_getElem? (i := 581) (by decide +kernel)) (by decide +kernel)
theorem nl_MO_13 : Cond.laysFinal "TurnedKeysModel" "TurnedKeysModel" "headEnd" "[I" ∈ hm_tb := hm_tb_in (List.mem_of_getElem? (i := 583) (by decide +kernel)) (by decide +kernel)
theorem nl_MO_14 : Cond.laysFinal "TurnedKeysModel" "TurnedKeysModel" "headKey" "[I" ∈ hm_tb := hm_tb_in (List.mem_of_getElem? (i := 585) (by decide +kernel)) (by decide +kernel)
theorem nl_MO_15 : Cond.lays "TurnedKeysModel" "TurnedKeysModel" "wires" "I" ∈ hm_tb := hm_tb_in (List.mem_of_getElem? (i := 587) (by decide +kernel)) (by decide +kernel)
theorem nl_MO_16 : Cond.laysFinal "TurnedKeysModel" "TurnedKeysModel" "wire" "[I" ∈ hm_tb := hm_tb_in (List.mem_of_getElem? (i := 589) (by decide +kernel)) (by decide +kernel)
theorem nl_MO_17 : Cond.laysFinal "TurnedKeysModel" "TurnedKeysModel" "letter" "[I" ∈ hm_tb := hm_tb_in (List.mem_of_getElem? (i := 591) (by decide +kernel)) (by decide +kernel)
theorem nl_MO_18 : Cond.lays "TurnedKeysModel" "TurnedKeysModel" "base" "I" ∈ hm_tb := hm_tb_in (List.mem_of_getElem? (i := 593) (by decide +kernel)) (by decide +kernel)
theorem nl_MO_19 : Cond.laysFinal "TurnedKeysModel" "TurnedKeysModel" "now" "[I" ∈ hm_tb := hm_tb_in (List.mem_of_getElem? (i := 595) (by decide +kernel)) (by decide +kernel)
theorem nl_MO_20 : Cond.laysFinal "TurnedKeysModel" "TurnedKeysModel" "kept" "[I" ∈ hm_tb := hm_tb_in (List.mem_of_getElem? (i := 597) (by decide +kernel)) (by decide +kernel)
theorem nl_MO_21 : Cond.laysFinal "TurnedKeysModel" "TurnedKeysModel" "hand" "[I" ∈ hm_tb := hm_tb_in (List.mem_of_getElem? (i := 599) (by decide +kernel)) (by decide +kernel)
theorem nl_MO_22 : Cond.lays "TurnedKeysModel" "TurnedKeysModel" "looked" "I" ∈ hm_tb := hm_tb_in (List.mem_of_getElem? (i := 601) (by decide +kernel)) (by decide +kernel)
theorem nW_MO : ∀ w ∈ u_ws nR_MO nT_MO 23, w ∈ hm_tb := by
  intro w hw
  obtain ⟨k, hk, rfl⟩ := List.mem_map.mp hw
  have hk := List.mem_range.mp hk
  match k, hk with
  | 0, _ => exact nl_MO_0
  | 1, _ => exact nl_MO_1
  | 2, _ => exact nl_MO_2
  | 3, _ => exact nl_MO_3
  | 4, _ => exact nl_MO_4
  | 5, _ => exact nl_MO_5
  | 6, _ => exact nl_MO_6
  | 7, _ => exact nl_MO_7
  | 8, _ => exact nl_MO_8
  | 9, _ => exact nl_MO_9
  | 10, _ => exact nl_MO_10
  | 11, _ => exact nl_MO_11
  | 12, _ => exact nl_MO_12
  | 13, _ => exact nl_MO_13
  | 14, _ => exact nl_MO_14
  | 15, _ => exact nl_MO_15
  | 16, _ => exact nl_MO_16
  | 17, _ => exact nl_MO_17
  | 18, _ => exact nl_MO_18
  | 19, _ => exact nl_MO_19
  | 20, _ => exact nl_MO_20
  | 21, _ => exact nl_MO_21
  | 22, _ => exact nl_MO_22
  | k + 23, hk => exact absurd hk (by omega)
theorem nf_TK_10 : Cond.fieldLink "TurnedKeys" 10 "TurnedKeys" "terms" "LTurnedKeys$Terms;" ∈ hm_tb := hm_tb_in (List.mem_of_getElem? (i := 288) (by decide +kernel)) (by decide +kernel)
theorem nF_TK_10 : hm_F "TurnedKeys" 10 6 0 (.object "TurnedKeys$Terms") 1 := ⟨_, _, _, "TurnedKeys", nY_TK, nW_TK, rfl, by decide, nf_TK_10, Or.inl rfl, (fun h => absurd h (by decide)), fun _ => ⟨rfl, rfl⟩, by decide +kernel, nO_TK, nN_TK⟩
theorem nf_TK_37 : Cond.fieldLink "TurnedKeys" 37 "TurnedKeys$End" "theirs" "LTurnedKeys$Term;" ∈ hm_tb := hm_tb_in (List.mem_of_getElem? (i := 236) (by decide +kernel)) (by decide +kernel)
theorem nF_TK_37 : hm_F "TurnedKeys" 37 3 3 (.object "TurnedKeys$Term") 0 := ⟨_, _, _, "TurnedKeys$End", nY_EN, nW_EN, rfl, by decide, nf_TK_37, Or.inl rfl, fun _ => rfl, (fun h => absurd h (by decide)), by decide +kernel, nO_EN, nN_EN⟩
theorem nf_TK_41 : Cond.fieldLink "TurnedKeys" 41 "TurnedKeys$End" "sendChain" "LTurnedKeys$Term;" ∈ hm_tb := hm_tb_in (List.mem_of_getElem? (i := 238) (by decide +kernel)) (by decide +kernel)
theorem nF_TK_41 : hm_F "TurnedKeys" 41 3 4 (.object "TurnedKeys$Term") 0 := ⟨_, _, _, "TurnedKeys$End", nY_EN, nW_EN, rfl, by decide, nf_TK_41, Or.inl rfl, fun _ => rfl, (fun h => absurd h (by decide)), by decide +kernel, nO_EN, nN_EN⟩
theorem nf_TK_44 : Cond.fieldLink "TurnedKeys" 44 "TurnedKeys" "ends" "[LTurnedKeys$End;" ∈ hm_tb := hm_tb_in (List.mem_of_getElem? (i := 289) (by decide +kernel)) (by decide +kernel)
theorem nF_TK_44 : hm_F "TurnedKeys" 44 6 1 (.array (.object "TurnedKeys$End")) 1 := ⟨_, _, _, "TurnedKeys", nY_TK, nW_TK, rfl, by decide, nf_TK_44, Or.inl rfl, (fun h => absurd h (by decide)), fun _ => ⟨rfl, rfl⟩, by decide +kernel, nO_TK, nN_TK⟩
theorem nf_TK_52 : Cond.fieldLink "TurnedKeys" 52 "TurnedKeys" "kept" "[LTurnedKeys$End;" ∈ hm_tb := hm_tb_in (List.mem_of_getElem? (i := 290) (by decide +kernel)) (by decide +kernel)
theorem nF_TK_52 : hm_F "TurnedKeys" 52 6 2 (.array (.object "TurnedKeys$End")) 1 := ⟨_, _, _, "TurnedKeys", nY_TK, nW_TK, rfl, by decide, nf_TK_52, Or.inl rfl, (fun h => absurd h (by decide)), fun _ => ⟨rfl, rfl⟩, by decide +kernel, nO_TK, nN_TK⟩
theorem nf_TK_55 : Cond.fieldLink "TurnedKeys" 55 "TurnedKeys" "trial" "LTurnedKeys$End;" ∈ hm_tb := hm_tb_in (List.mem_of_getElem? (i := 291) (by decide +kernel)) (by decide +kernel)
theorem nF_TK_55 : hm_F "TurnedKeys" 55 6 3 (.object "TurnedKeys$End") 1 := ⟨_, _, _, "TurnedKeys", nY_TK, nW_TK, rfl, by decide, nf_TK_55, Or.inl rfl, (fun h => absurd h (by decide)), fun _ => ⟨rfl, rfl⟩, by decide +kernel, nO_TK, nN_TK⟩
theorem nf_TK_62 : Cond.fieldLink "TurnedKeys" 62 "TurnedKeys" "wires" "Ljava/util/ArrayList;" ∈ hm_tb := hm_tb_in (List.mem_of_getElem? (i := 292) (by decide +kernel)) (by decide +kernel)
theorem nF_TK_62 : hm_F "TurnedKeys" 62 6 4 (.object "java/util/ArrayList") 1 := ⟨_, _, _, "TurnedKeys", nY_TK, nW_TK, rfl, by decide, nf_TK_62, Or.inl rfl, (fun h => absurd h (by decide)), fun _ => ⟨rfl, rfl⟩, by decide +kernel, nO_TK, nN_TK⟩
theorem nf_TK_86 : Cond.fieldLink "TurnedKeys" 86 "TurnedKeys$End" "base" "LTurnedKeys$Term;" ∈ hm_tb := hm_tb_in (List.mem_of_getElem? (i := 231) (by decide +kernel)) (by decide +kernel)
theorem nF_TK_86 : hm_F "TurnedKeys" 86 3 0 (.object "TurnedKeys$Term") 0 := ⟨_, _, _, "TurnedKeys$End", nY_EN, nW_EN, rfl, by decide, nf_TK_86, Or.inl rfl, fun _ => rfl, (fun h => absurd h (by decide)), by decide +kernel, nO_EN, nN_EN⟩
theorem nf_TK_101 : Cond.fieldLink "TurnedKeys" 101 "TurnedKeys$Wire" "sender" "I" ∈ hm_tb := hm_tb_in (List.mem_of_getElem? (i := 337) (by decide +kernel)) (by decide +kernel)
theorem nF_TK_101 : hm_F "TurnedKeys" 101 5 0 (.int) 2 := ⟨_, _, _, "TurnedKeys$Wire", nY_WI, nW_WI, rfl, by decide, nf_TK_101, Or.inl rfl, (fun h => absurd h (by decide)), (fun h => absurd h (by decide)), by decide +kernel, nO_WI, nN_WI⟩
theorem nf_TK_115 : Cond.fieldLink "TurnedKeys" 115 "TurnedKeys$Wire" "key" "LTurnedKeys$Term;" ∈ hm_tb := hm_tb_in (List.mem_of_getElem? (i := 346) (by decide +kernel)) (by decide +kernel)
theorem nF_TK_115 : hm_F "TurnedKeys" 115 5 4 (.object "TurnedKeys$Term") 2 := ⟨_, _, _, "TurnedKeys$Wire", nY_WI, nW_WI, rfl, by decide, nf_TK_115, Or.inl rfl, (fun h => absurd h (by decide)), (fun h => absurd h (by decide)), by decide +kernel, nO_WI, nN_WI⟩
theorem nf_TK_122 : Cond.fieldLink "TurnedKeys" 122 "TurnedKeys$End" "root" "LTurnedKeys$Term;" ∈ hm_tb := hm_tb_in (List.mem_of_getElem? (i := 233) (by decide +kernel)) (by decide +kernel)
theorem nF_TK_122 : hm_F "TurnedKeys" 122 3 1 (.object "TurnedKeys$Term") 0 := ⟨_, _, _, "TurnedKeys$End", nY_EN, nW_EN, rfl, by decide, nf_TK_122, Or.inl rfl, fun _ => rfl, (fun h => absurd h (by decide)), by decide +kernel, nO_EN, nN_EN⟩
theorem nf_TK_125 : Cond.fieldLink "TurnedKeys" 125 "TurnedKeys$End" "mine" "LTurnedKeys$Term;" ∈ hm_tb := hm_tb_in (List.mem_of_getElem? (i := 235) (by decide +kernel)) (by decide +kernel)
theorem nF_TK_125 : hm_F "TurnedKeys" 125 3 2 (.object "TurnedKeys$Term") 0 := ⟨_, _, _, "TurnedKeys$End", nY_EN, nW_EN, rfl, by decide, nf_TK_125, Or.inl rfl, fun _ => rfl, (fun h => absurd h (by decide)), by decide +kernel, nO_EN, nN_EN⟩
theorem nf_TK_128 : Cond.fieldLink "TurnedKeys" 128 "TurnedKeys$End" "receiveChain" "LTurnedKeys$Term;" ∈ hm_tb := hm_tb_in (List.mem_of_getElem? (i := 245) (by decide +kernel)) (by decide +kernel)
theorem nF_TK_128 : hm_F "TurnedKeys" 128 3 7 (.object "TurnedKeys$Term") 0 := ⟨_, _, _, "TurnedKeys$End", nY_EN, nW_EN, rfl, by decide, nf_TK_128, Or.inl rfl, fun _ => rfl, (fun h => absurd h (by decide)), by decide +kernel, nO_EN, nN_EN⟩
theorem nf_TK_131 : Cond.fieldLink "TurnedKeys" 131 "TurnedKeys$End" "leftCount" "I" ∈ hm_tb := hm_tb_in (List.mem_of_getElem? (i := 251) (by decide +kernel)) (by decide +kernel)
theorem nF_TK_131 : hm_F "TurnedKeys" 131 3 10 (.int) 0 := ⟨_, _, _, "TurnedKeys$End", nY_EN, nW_EN, rfl, by decide, nf_TK_131, Or.inl rfl, fun _ => rfl, (fun h => absurd h (by decide)), by decide +kernel, nO_EN, nN_EN⟩
theorem nf_TK_134 : Cond.fieldLink "TurnedKeys" 134 "TurnedKeys$End" "leftKeys" "[LTurnedKeys$LeftKey;" ∈ hm_tb := hm_tb_in (List.mem_of_getElem? (i := 249) (by decide +kernel)) (by decide +kernel)
theorem nF_TK_134 : hm_F "TurnedKeys" 134 3 9 (.array (.object "TurnedKeys$LeftKey")) 2 := ⟨_, _, _, "TurnedKeys$End", nY_EN, nW_EN, rfl, by decide, nf_TK_134, Or.inl rfl, (fun h => absurd h (by decide)), (fun h => absurd h (by decide)), by decide +kernel, nO_EN, nN_EN⟩
theorem nf_TK_138 : Cond.fieldLink "TurnedKeys" 138 "TurnedKeys$LeftKey" "publicKey" "LTurnedKeys$Term;" ∈ hm_tb := hm_tb_in (List.mem_of_getElem? (i := 423) (by decide +kernel)) (by decide +kernel)
theorem nF_TK_138 : hm_F "TurnedKeys" 138 4 0 (.object "TurnedKeys$Term") 2 := ⟨_, _, _, "TurnedKeys$LeftKey", nY_LK, nW_LK, rfl, by decide, nf_TK_138, Or.inl rfl, (fun h => absurd h (by decide)), (fun h => absurd h (by decide)), by decide +kernel, nO_LK, nN_LK⟩
theorem nf_TK_143 : Cond.fieldLink "TurnedKeys" 143 "TurnedKeys$LeftKey" "key" "LTurnedKeys$Term;" ∈ hm_tb := hm_tb_in (List.mem_of_getElem? (i := 428) (by decide +kernel)) (by decide +kernel)
theorem nF_TK_143 : hm_F "TurnedKeys" 143 4 2 (.object "TurnedKeys$Term") 2 := ⟨_, _, _, "TurnedKeys$LeftKey", nY_LK, nW_LK, rfl, by decide, nf_TK_143, Or.inl rfl, (fun h => absurd h (by decide)), (fun h => absurd h (by decide)), by decide +kernel, nO_LK, nN_LK⟩
theorem nf_TK_144 : Cond.fieldLink "TurnedKeys" 144 "TurnedKeys$Wire" "letter" "LTurnedKeys$Term;" ∈ hm_tb := hm_tb_in (List.mem_of_getElem? (i := 348) (by decide +kernel)) (by decide +kernel)
theorem nF_TK_144 : hm_F "TurnedKeys" 144 5 5 (.object "TurnedKeys$Term") 2 := ⟨_, _, _, "TurnedKeys$Wire", nY_WI, nW_WI, rfl, by decide, nf_TK_144, Or.inl rfl, (fun h => absurd h (by decide)), (fun h => absurd h (by decide)), by decide +kernel, nO_WI, nN_WI⟩
theorem nf_TK_159 : Cond.fieldLink "TurnedKeys" 159 "TurnedKeys$End" "sent" "I" ∈ hm_tb := hm_tb_in (List.mem_of_getElem? (i := 241) (by decide +kernel)) (by decide +kernel)
theorem nF_TK_159 : hm_F "TurnedKeys" 159 3 5 (.int) 0 := ⟨_, _, _, "TurnedKeys$End", nY_EN, nW_EN, rfl, by decide, nf_TK_159, Or.inl rfl, fun _ => rfl, (fun h => absurd h (by decide)), by decide +kernel, nO_EN, nN_EN⟩
theorem nf_TK_162 : Cond.fieldLink "TurnedKeys" 162 "TurnedKeys$End" "before" "I" ∈ hm_tb := hm_tb_in (List.mem_of_getElem? (i := 243) (by decide +kernel)) (by decide +kernel)
theorem nF_TK_162 : hm_F "TurnedKeys" 162 3 6 (.int) 0 := ⟨_, _, _, "TurnedKeys$End", nY_EN, nW_EN, rfl, by decide, nf_TK_162, Or.inl rfl, fun _ => rfl, (fun h => absurd h (by decide)), by decide +kernel, nO_EN, nN_EN⟩
theorem nf_TK_165 : Cond.fieldLink "TurnedKeys" 165 "TurnedKeys$End" "next" "I" ∈ hm_tb := hm_tb_in (List.mem_of_getElem? (i := 247) (by decide +kernel)) (by decide +kernel)
theorem nF_TK_165 : hm_F "TurnedKeys" 165 3 8 (.int) 0 := ⟨_, _, _, "TurnedKeys$End", nY_EN, nW_EN, rfl, by decide, nf_TK_165, Or.inl rfl, fun _ => rfl, (fun h => absurd h (by decide)), by decide +kernel, nO_EN, nN_EN⟩
theorem nf_TK_168 : Cond.fieldLink "TurnedKeys" 168 "TurnedKeys$Terms" "drawn" "I" ∈ hm_tb := hm_tb_in (List.mem_of_getElem? (i := 93) (by decide +kernel)) (by decide +kernel)
theorem nF_TK_168 : hm_F "TurnedKeys" 168 1 1 (.int) 0 := ⟨_, _, _, "TurnedKeys$Terms", nY_TS, nW_TS, rfl, by decide, nf_TK_168, Or.inl rfl, fun _ => rfl, (fun h => absurd h (by decide)), by decide +kernel, nO_TS, nN_TS⟩
theorem nf_TK_175 : Cond.fieldLink "TurnedKeys" 175 "TurnedKeys" "makingCalls" "I" ∈ hm_tb := hm_tb_in (List.mem_of_getElem? (i := 293) (by decide +kernel)) (by decide +kernel)
theorem nF_TK_175 : hm_F "TurnedKeys" 175 6 5 (.int) 0 := ⟨_, _, _, "TurnedKeys", nY_TK, nW_TK, rfl, by decide, nf_TK_175, Or.inl rfl, fun _ => rfl, (fun h => absurd h (by decide)), by decide +kernel, nO_TK, nN_TK⟩
theorem nf_TK_178 : Cond.fieldLink "TurnedKeys" 178 "TurnedKeys$Wire" "publicKey" "LTurnedKeys$Term;" ∈ hm_tb := hm_tb_in (List.mem_of_getElem? (i := 344) (by decide +kernel)) (by decide +kernel)
theorem nF_TK_178 : hm_F "TurnedKeys" 178 5 3 (.object "TurnedKeys$Term") 2 := ⟨_, _, _, "TurnedKeys$Wire", nY_WI, nW_WI, rfl, by decide, nf_TK_178, Or.inl rfl, (fun h => absurd h (by decide)), (fun h => absurd h (by decide)), by decide +kernel, nO_WI, nN_WI⟩
theorem nf_EN_11 : Cond.fieldLink "TurnedKeys$End" 11 "TurnedKeys$End" "leftKeys" "[LTurnedKeys$LeftKey;" ∈ hm_tb := hm_tb_in (List.mem_of_getElem? (i := 248) (by decide +kernel)) (by decide +kernel)
theorem nF_EN_11 : hm_F "TurnedKeys$End" 11 3 9 (.array (.object "TurnedKeys$LeftKey")) 1 := ⟨_, _, _, "TurnedKeys$End", nY_EN, nW_EN, rfl, by decide, nf_EN_11, Or.inl rfl, (fun h => absurd h (by decide)), fun _ => ⟨rfl, rfl⟩, by decide +kernel, nO_EN, nN_EN⟩
theorem nf_EN_17 : Cond.fieldLink "TurnedKeys$End" 17 "TurnedKeys$End" "base" "LTurnedKeys$Term;" ∈ hm_tb := hm_tb_in (List.mem_of_getElem? (i := 230) (by decide +kernel)) (by decide +kernel)
theorem nF_EN_17 : hm_F "TurnedKeys$End" 17 3 0 (.object "TurnedKeys$Term") 0 := ⟨_, _, _, "TurnedKeys$End", nY_EN, nW_EN, rfl, by decide, nf_EN_17, Or.inl rfl, fun _ => rfl, (fun h => absurd h (by decide)), by decide +kernel, nO_EN, nN_EN⟩
theorem nf_EN_21 : Cond.fieldLink "TurnedKeys$End" 21 "TurnedKeys$End" "root" "LTurnedKeys$Term;" ∈ hm_tb := hm_tb_in (List.mem_of_getElem? (i := 232) (by decide +kernel)) (by decide +kernel)
theorem nF_EN_21 : hm_F "TurnedKeys$End" 21 3 1 (.object "TurnedKeys$Term") 0 := ⟨_, _, _, "TurnedKeys$End", nY_EN, nW_EN, rfl, by decide, nf_EN_21, Or.inl rfl, fun _ => rfl, (fun h => absurd h (by decide)), by decide +kernel, nO_EN, nN_EN⟩
theorem nf_EN_24 : Cond.fieldLink "TurnedKeys$End" 24 "TurnedKeys$End" "mine" "LTurnedKeys$Term;" ∈ hm_tb := hm_tb_in (List.mem_of_getElem? (i := 234) (by decide +kernel)) (by decide +kernel)
theorem nF_EN_24 : hm_F "TurnedKeys$End" 24 3 2 (.object "TurnedKeys$Term") 0 := ⟨_, _, _, "TurnedKeys$End", nY_EN, nW_EN, rfl, by decide, nf_EN_24, Or.inl rfl, fun _ => rfl, (fun h => absurd h (by decide)), by decide +kernel, nO_EN, nN_EN⟩
theorem nf_EN_34 : Cond.fieldLink "TurnedKeys$End" 34 "TurnedKeys$End" "theirs" "LTurnedKeys$Term;" ∈ hm_tb := hm_tb_in (List.mem_of_getElem? (i := 237) (by decide +kernel)) (by decide +kernel)
theorem nF_EN_34 : hm_F "TurnedKeys$End" 34 3 3 (.object "TurnedKeys$Term") 0 := ⟨_, _, _, "TurnedKeys$End", nY_EN, nW_EN, rfl, by decide, nf_EN_34, Or.inl rfl, fun _ => rfl, (fun h => absurd h (by decide)), by decide +kernel, nO_EN, nN_EN⟩
theorem nf_EN_37 : Cond.fieldLink "TurnedKeys$End" 37 "TurnedKeys$End" "sendChain" "LTurnedKeys$Term;" ∈ hm_tb := hm_tb_in (List.mem_of_getElem? (i := 239) (by decide +kernel)) (by decide +kernel)
theorem nF_EN_37 : hm_F "TurnedKeys$End" 37 3 4 (.object "TurnedKeys$Term") 0 := ⟨_, _, _, "TurnedKeys$End", nY_EN, nW_EN, rfl, by decide, nf_EN_37, Or.inl rfl, fun _ => rfl, (fun h => absurd h (by decide)), by decide +kernel, nO_EN, nN_EN⟩
theorem nf_EN_40 : Cond.fieldLink "TurnedKeys$End" 40 "TurnedKeys$End" "sent" "I" ∈ hm_tb := hm_tb_in (List.mem_of_getElem? (i := 240) (by decide +kernel)) (by decide +kernel)
theorem nF_EN_40 : hm_F "TurnedKeys$End" 40 3 5 (.int) 0 := ⟨_, _, _, "TurnedKeys$End", nY_EN, nW_EN, rfl, by decide, nf_EN_40, Or.inl rfl, fun _ => rfl, (fun h => absurd h (by decide)), by decide +kernel, nO_EN, nN_EN⟩
theorem nf_EN_44 : Cond.fieldLink "TurnedKeys$End" 44 "TurnedKeys$End" "before" "I" ∈ hm_tb := hm_tb_in (List.mem_of_getElem? (i := 242) (by decide +kernel)) (by decide +kernel)
theorem nF_EN_44 : hm_F "TurnedKeys$End" 44 3 6 (.int) 0 := ⟨_, _, _, "TurnedKeys$End", nY_EN, nW_EN, rfl, by decide, nf_EN_44, Or.inl rfl, fun _ => rfl, (fun h => absurd h (by decide)), by decide +kernel, nO_EN, nN_EN⟩
theorem nf_EN_47 : Cond.fieldLink "TurnedKeys$End" 47 "TurnedKeys$End" "receiveChain" "LTurnedKeys$Term;" ∈ hm_tb := hm_tb_in (List.mem_of_getElem? (i := 244) (by decide +kernel)) (by decide +kernel)
theorem nF_EN_47 : hm_F "TurnedKeys$End" 47 3 7 (.object "TurnedKeys$Term") 0 := ⟨_, _, _, "TurnedKeys$End", nY_EN, nW_EN, rfl, by decide, nf_EN_47, Or.inl rfl, fun _ => rfl, (fun h => absurd h (by decide)), by decide +kernel, nO_EN, nN_EN⟩
theorem nf_EN_50 : Cond.fieldLink "TurnedKeys$End" 50 "TurnedKeys$End" "next" "I" ∈ hm_tb := hm_tb_in (List.mem_of_getElem? (i := 246) (by decide +kernel)) (by decide +kernel)
theorem nF_EN_50 : hm_F "TurnedKeys$End" 50 3 8 (.int) 0 := ⟨_, _, _, "TurnedKeys$End", nY_EN, nW_EN, rfl, by decide, nf_EN_50, Or.inl rfl, fun _ => rfl, (fun h => absurd h (by decide)), by decide +kernel, nO_EN, nN_EN⟩
theorem nf_EN_53 : Cond.fieldLink "TurnedKeys$End" 53 "TurnedKeys$End" "leftCount" "I" ∈ hm_tb := hm_tb_in (List.mem_of_getElem? (i := 250) (by decide +kernel)) (by decide +kernel)
theorem nF_EN_53 : hm_F "TurnedKeys$End" 53 3 10 (.int) 0 := ⟨_, _, _, "TurnedKeys$End", nY_EN, nW_EN, rfl, by decide, nf_EN_53, Or.inl rfl, fun _ => rfl, (fun h => absurd h (by decide)), by decide +kernel, nO_EN, nN_EN⟩
theorem nf_EN_79 : Cond.fieldLink "TurnedKeys$End" 79 "TurnedKeys$Wire" "publicKey" "LTurnedKeys$Term;" ∈ hm_tb := hm_tb_in (List.mem_of_getElem? (i := 343) (by decide +kernel)) (by decide +kernel)
theorem nF_EN_79 : hm_F "TurnedKeys$End" 79 5 3 (.object "TurnedKeys$Term") 2 := ⟨_, _, _, "TurnedKeys$Wire", nY_WI, nW_WI, rfl, by decide, nf_EN_79, Or.inl rfl, (fun h => absurd h (by decide)), (fun h => absurd h (by decide)), by decide +kernel, nO_WI, nN_WI⟩
theorem nf_EN_82 : Cond.fieldLink "TurnedKeys$End" 82 "TurnedKeys$Wire" "index" "I" ∈ hm_tb := hm_tb_in (List.mem_of_getElem? (i := 339) (by decide +kernel)) (by decide +kernel)
theorem nF_EN_82 : hm_F "TurnedKeys$End" 82 5 1 (.int) 2 := ⟨_, _, _, "TurnedKeys$Wire", nY_WI, nW_WI, rfl, by decide, nf_EN_82, Or.inl rfl, (fun h => absurd h (by decide)), (fun h => absurd h (by decide)), by decide +kernel, nO_WI, nN_WI⟩
theorem nf_EN_89 : Cond.fieldLink "TurnedKeys$End" 89 "TurnedKeys$Wire" "before" "I" ∈ hm_tb := hm_tb_in (List.mem_of_getElem? (i := 341) (by decide +kernel)) (by decide +kernel)
theorem nF_EN_89 : hm_F "TurnedKeys$End" 89 5 2 (.int) 2 := ⟨_, _, _, "TurnedKeys$Wire", nY_WI, nW_WI, rfl, by decide, nf_EN_89, Or.inl rfl, (fun h => absurd h (by decide)), (fun h => absurd h (by decide)), by decide +kernel, nO_WI, nN_WI⟩
theorem nf_EN_113 : Cond.fieldLink "TurnedKeys$End" 113 "TurnedKeys$LeftKey" "publicKey" "LTurnedKeys$Term;" ∈ hm_tb := hm_tb_in (List.mem_of_getElem? (i := 424) (by decide +kernel)) (by decide +kernel)
theorem nF_EN_113 : hm_F "TurnedKeys$End" 113 4 0 (.object "TurnedKeys$Term") 2 := ⟨_, _, _, "TurnedKeys$LeftKey", nY_LK, nW_LK, rfl, by decide, nf_EN_113, Or.inl rfl, (fun h => absurd h (by decide)), (fun h => absurd h (by decide)), by decide +kernel, nO_LK, nN_LK⟩
theorem nf_EN_114 : Cond.fieldLink "TurnedKeys$End" 114 "TurnedKeys$LeftKey" "index" "I" ∈ hm_tb := hm_tb_in (List.mem_of_getElem? (i := 426) (by decide +kernel)) (by decide +kernel)
theorem nF_EN_114 : hm_F "TurnedKeys$End" 114 4 1 (.int) 2 := ⟨_, _, _, "TurnedKeys$LeftKey", nY_LK, nW_LK, rfl, by decide, nf_EN_114, Or.inl rfl, (fun h => absurd h (by decide)), (fun h => absurd h (by decide)), by decide +kernel, nO_LK, nN_LK⟩
theorem nf_EN_115 : Cond.fieldLink "TurnedKeys$End" 115 "TurnedKeys$LeftKey" "key" "LTurnedKeys$Term;" ∈ hm_tb := hm_tb_in (List.mem_of_getElem? (i := 429) (by decide +kernel)) (by decide +kernel)
theorem nF_EN_115 : hm_F "TurnedKeys$End" 115 4 2 (.object "TurnedKeys$Term") 2 := ⟨_, _, _, "TurnedKeys$LeftKey", nY_LK, nW_LK, rfl, by decide, nf_EN_115, Or.inl rfl, (fun h => absurd h (by decide)), (fun h => absurd h (by decide)), by decide +kernel, nO_LK, nN_LK⟩
theorem nf_LK_7 : Cond.fieldLink "TurnedKeys$LeftKey" 7 "TurnedKeys$LeftKey" "publicKey" "LTurnedKeys$Term;" ∈ hm_tb := hm_tb_in (List.mem_of_getElem? (i := 422) (by decide +kernel)) (by decide +kernel)
theorem nF_LK_7 : hm_F "TurnedKeys$LeftKey" 7 4 0 (.object "TurnedKeys$Term") 1 := ⟨_, _, _, "TurnedKeys$LeftKey", nY_LK, nW_LK, rfl, by decide, nf_LK_7, Or.inl rfl, (fun h => absurd h (by decide)), fun _ => ⟨rfl, rfl⟩, by decide +kernel, nO_LK, nN_LK⟩
theorem nf_LK_13 : Cond.fieldLink "TurnedKeys$LeftKey" 13 "TurnedKeys$LeftKey" "index" "I" ∈ hm_tb := hm_tb_in (List.mem_of_getElem? (i := 425) (by decide +kernel)) (by decide +kernel)
theorem nF_LK_13 : hm_F "TurnedKeys$LeftKey" 13 4 1 (.int) 1 := ⟨_, _, _, "TurnedKeys$LeftKey", nY_LK, nW_LK, rfl, by decide, nf_LK_13, Or.inl rfl, (fun h => absurd h (by decide)), fun _ => ⟨rfl, rfl⟩, by decide +kernel, nO_LK, nN_LK⟩
theorem nf_LK_17 : Cond.fieldLink "TurnedKeys$LeftKey" 17 "TurnedKeys$LeftKey" "key" "LTurnedKeys$Term;" ∈ hm_tb := hm_tb_in (List.mem_of_getElem? (i := 427) (by decide +kernel)) (by decide +kernel)
theorem nF_LK_17 : hm_F "TurnedKeys$LeftKey" 17 4 2 (.object "TurnedKeys$Term") 1 := ⟨_, _, _, "TurnedKeys$LeftKey", nY_LK, nW_LK, rfl, by decide, nf_LK_17, Or.inl rfl, (fun h => absurd h (by decide)), fun _ => ⟨rfl, rfl⟩, by decide +kernel, nO_LK, nN_LK⟩
theorem nf_TE_7 : Cond.fieldLink "TurnedKeys$Term" 7 "TurnedKeys$Term" "kind" "I" ∈ hm_tb := hm_tb_in (List.mem_of_getElem? (i := 120) (by decide +kernel)) (by decide +kernel)
theorem nF_TE_7 : hm_F "TurnedKeys$Term" 7 2 0 (.int) 1 := ⟨_, _, _, "TurnedKeys$Term", nY_TE, nW_TE, rfl, by decide, nf_TE_7, Or.inl rfl, (fun h => absurd h (by decide)), fun _ => ⟨rfl, rfl⟩, by decide +kernel, nO_TE, nN_TE⟩
theorem nf_TE_13 : Cond.fieldLink "TurnedKeys$Term" 13 "TurnedKeys$Term" "place" "I" ∈ hm_tb := hm_tb_in (List.mem_of_getElem? (i := 122) (by decide +kernel)) (by decide +kernel)
theorem nF_TE_13 : hm_F "TurnedKeys$Term" 13 2 1 (.int) 1 := ⟨_, _, _, "TurnedKeys$Term", nY_TE, nW_TE, rfl, by decide, nf_TE_13, Or.inl rfl, (fun h => absurd h (by decide)), fun _ => ⟨rfl, rfl⟩, by decide +kernel, nO_TE, nN_TE⟩
theorem nf_TE_16 : Cond.fieldLink "TurnedKeys$Term" 16 "TurnedKeys$Term" "left" "LTurnedKeys$Term;" ∈ hm_tb := hm_tb_in (List.mem_of_getElem? (i := 124) (by decide +kernel)) (by decide +kernel)
theorem nF_TE_16 : hm_F "TurnedKeys$Term" 16 2 2 (.object "TurnedKeys$Term") 1 := ⟨_, _, _, "TurnedKeys$Term", nY_TE, nW_TE, rfl, by decide, nf_TE_16, Or.inl rfl, (fun h => absurd h (by decide)), fun _ => ⟨rfl, rfl⟩, by decide +kernel, nO_TE, nN_TE⟩
theorem nf_TE_20 : Cond.fieldLink "TurnedKeys$Term" 20 "TurnedKeys$Term" "right" "LTurnedKeys$Term;" ∈ hm_tb := hm_tb_in (List.mem_of_getElem? (i := 126) (by decide +kernel)) (by decide +kernel)
theorem nF_TE_20 : hm_F "TurnedKeys$Term" 20 2 3 (.object "TurnedKeys$Term") 1 := ⟨_, _, _, "TurnedKeys$Term", nY_TE, nW_TE, rfl, by decide, nf_TE_20, Or.inl rfl, (fun h => absurd h (by decide)), fun _ => ⟨rfl, rfl⟩, by decide +kernel, nO_TE, nN_TE⟩
theorem nf_TE_23 : Cond.fieldLink "TurnedKeys$Term" 23 "TurnedKeys$Term" "earlierUser" "LTurnedKeys$Term;" ∈ hm_tb := hm_tb_in (List.mem_of_getElem? (i := 128) (by decide +kernel)) (by decide +kernel)
theorem nF_TE_23 : hm_F "TurnedKeys$Term" 23 2 4 (.object "TurnedKeys$Term") 1 := ⟨_, _, _, "TurnedKeys$Term", nY_TE, nW_TE, rfl, by decide, nf_TE_23, Or.inl rfl, (fun h => absurd h (by decide)), fun _ => ⟨rfl, rfl⟩, by decide +kernel, nO_TE, nN_TE⟩
theorem nf_TS_12 : Cond.fieldLink "TurnedKeys$Terms" 12 "TurnedKeys$Terms" "all" "Ljava/util/ArrayList;" ∈ hm_tb := hm_tb_in (List.mem_of_getElem? (i := 91) (by decide +kernel)) (by decide +kernel)
theorem nF_TS_12 : hm_F "TurnedKeys$Terms" 12 1 0 (.object "java/util/ArrayList") 1 := ⟨_, _, _, "TurnedKeys$Terms", nY_TS, nW_TS, rfl, by decide, nf_TS_12, Or.inl rfl, (fun h => absurd h (by decide)), fun _ => ⟨rfl, rfl⟩, by decide +kernel, nO_TS, nN_TS⟩
theorem nf_TS_18 : Cond.fieldLink "TurnedKeys$Terms" 18 "TurnedKeys$Terms" "drawn" "I" ∈ hm_tb := hm_tb_in (List.mem_of_getElem? (i := 92) (by decide +kernel)) (by decide +kernel)
theorem nF_TS_18 : hm_F "TurnedKeys$Terms" 18 1 1 (.int) 0 := ⟨_, _, _, "TurnedKeys$Terms", nY_TS, nW_TS, rfl, by decide, nf_TS_18, Or.inl rfl, fun _ => rfl, (fun h => absurd h (by decide)), by decide +kernel, nO_TS, nN_TS⟩
theorem nf_TS_26 : Cond.fieldLink "TurnedKeys$Terms" 26 "TurnedKeys$Term" "publicTerm" "LTurnedKeys$Term;" ∈ hm_tb := hm_tb_in (List.mem_of_getElem? (i := 131) (by decide +kernel)) (by decide +kernel)
theorem nF_TS_26 : hm_F "TurnedKeys$Terms" 26 2 6 (.object "TurnedKeys$Term") 0 := ⟨_, _, _, "TurnedKeys$Term", nY_TE, nW_TE, rfl, by decide, nf_TS_26, Or.inl rfl, fun _ => rfl, (fun h => absurd h (by decide)), by decide +kernel, nO_TE, nN_TE⟩
theorem nf_TS_32 : Cond.fieldLink "TurnedKeys$Terms" 32 "TurnedKeys$Term" "left" "LTurnedKeys$Term;" ∈ hm_tb := hm_tb_in (List.mem_of_getElem? (i := 125) (by decide +kernel)) (by decide +kernel)
theorem nF_TS_32 : hm_F "TurnedKeys$Terms" 32 2 2 (.object "TurnedKeys$Term") 2 := ⟨_, _, _, "TurnedKeys$Term", nY_TE, nW_TE, rfl, by decide, nf_TS_32, Or.inl rfl, (fun h => absurd h (by decide)), (fun h => absurd h (by decide)), by decide +kernel, nO_TE, nN_TE⟩
theorem nf_TS_39 : Cond.fieldLink "TurnedKeys$Terms" 39 "TurnedKeys$Term" "place" "I" ∈ hm_tb := hm_tb_in (List.mem_of_getElem? (i := 123) (by decide +kernel)) (by decide +kernel)
theorem nF_TS_39 : hm_F "TurnedKeys$Terms" 39 2 1 (.int) 2 := ⟨_, _, _, "TurnedKeys$Term", nY_TE, nW_TE, rfl, by decide, nf_TS_39, Or.inl rfl, (fun h => absurd h (by decide)), (fun h => absurd h (by decide)), by decide +kernel, nO_TE, nN_TE⟩
theorem nf_TS_50 : Cond.fieldLink "TurnedKeys$Terms" 50 "TurnedKeys$Term" "latestUser" "LTurnedKeys$Term;" ∈ hm_tb := hm_tb_in (List.mem_of_getElem? (i := 130) (by decide +kernel)) (by decide +kernel)
theorem nF_TS_50 : hm_F "TurnedKeys$Terms" 50 2 5 (.object "TurnedKeys$Term") 0 := ⟨_, _, _, "TurnedKeys$Term", nY_TE, nW_TE, rfl, by decide, nf_TS_50, Or.inl rfl, fun _ => rfl, (fun h => absurd h (by decide)), by decide +kernel, nO_TE, nN_TE⟩
theorem nf_TS_53 : Cond.fieldLink "TurnedKeys$Terms" 53 "TurnedKeys$Term" "kind" "I" ∈ hm_tb := hm_tb_in (List.mem_of_getElem? (i := 121) (by decide +kernel)) (by decide +kernel)
theorem nF_TS_53 : hm_F "TurnedKeys$Terms" 53 2 0 (.int) 2 := ⟨_, _, _, "TurnedKeys$Term", nY_TE, nW_TE, rfl, by decide, nf_TS_53, Or.inl rfl, (fun h => absurd h (by decide)), (fun h => absurd h (by decide)), by decide +kernel, nO_TE, nN_TE⟩
theorem nf_TS_56 : Cond.fieldLink "TurnedKeys$Terms" 56 "TurnedKeys$Term" "right" "LTurnedKeys$Term;" ∈ hm_tb := hm_tb_in (List.mem_of_getElem? (i := 127) (by decide +kernel)) (by decide +kernel)
theorem nF_TS_56 : hm_F "TurnedKeys$Terms" 56 2 3 (.object "TurnedKeys$Term") 2 := ⟨_, _, _, "TurnedKeys$Term", nY_TE, nW_TE, rfl, by decide, nf_TS_56, Or.inl rfl, (fun h => absurd h (by decide)), (fun h => absurd h (by decide)), by decide +kernel, nO_TE, nN_TE⟩
theorem nf_TS_59 : Cond.fieldLink "TurnedKeys$Terms" 59 "TurnedKeys$Term" "earlierUser" "LTurnedKeys$Term;" ∈ hm_tb := hm_tb_in (List.mem_of_getElem? (i := 129) (by decide +kernel)) (by decide +kernel)
theorem nF_TS_59 : hm_F "TurnedKeys$Terms" 59 2 4 (.object "TurnedKeys$Term") 2 := ⟨_, _, _, "TurnedKeys$Term", nY_TE, nW_TE, rfl, by decide, nf_TS_59, Or.inl rfl, (fun h => absurd h (by decide)), (fun h => absurd h (by decide)), by decide +kernel, nO_TE, nN_TE⟩
theorem nf_TS_73 : Cond.fieldLink "TurnedKeys$Terms" 73 "TurnedKeys$Term" "derived" "Z" ∈ hm_tb := hm_tb_in (List.mem_of_getElem? (i := 132) (by decide +kernel)) (by decide +kernel)
theorem nF_TS_73 : hm_F "TurnedKeys$Terms" 73 2 7 (.boolean) 0 := ⟨_, _, _, "TurnedKeys$Term", nY_TE, nW_TE, rfl, by decide, nf_TS_73, Or.inl rfl, fun _ => rfl, (fun h => absurd h (by decide)), by decide +kernel, nO_TE, nN_TE⟩
theorem nf_TS_77 : Cond.fieldLink "TurnedKeys$Terms" 77 "TurnedKeys$Terms" "settled" "I" ∈ hm_tb := hm_tb_in (List.mem_of_getElem? (i := 94) (by decide +kernel)) (by decide +kernel)
theorem nF_TS_77 : hm_F "TurnedKeys$Terms" 77 1 2 (.int) 0 := ⟨_, _, _, "TurnedKeys$Terms", nY_TS, nW_TS, rfl, by decide, nf_TS_77, Or.inl rfl, fun _ => rfl, (fun h => absurd h (by decide)), by decide +kernel, nO_TS, nN_TS⟩
theorem nf_WI_7 : Cond.fieldLink "TurnedKeys$Wire" 7 "TurnedKeys$Wire" "sender" "I" ∈ hm_tb := hm_tb_in (List.mem_of_getElem? (i := 336) (by decide +kernel)) (by decide +kernel)
theorem nF_WI_7 : hm_F "TurnedKeys$Wire" 7 5 0 (.int) 1 := ⟨_, _, _, "TurnedKeys$Wire", nY_WI, nW_WI, rfl, by decide, nf_WI_7, Or.inl rfl, (fun h => absurd h (by decide)), fun _ => ⟨rfl, rfl⟩, by decide +kernel, nO_WI, nN_WI⟩
theorem nf_WI_13 : Cond.fieldLink "TurnedKeys$Wire" 13 "TurnedKeys$Wire" "index" "I" ∈ hm_tb := hm_tb_in (List.mem_of_getElem? (i := 338) (by decide +kernel)) (by decide +kernel)
theorem nF_WI_13 : hm_F "TurnedKeys$Wire" 13 5 1 (.int) 1 := ⟨_, _, _, "TurnedKeys$Wire", nY_WI, nW_WI, rfl, by decide, nf_WI_13, Or.inl rfl, (fun h => absurd h (by decide)), fun _ => ⟨rfl, rfl⟩, by decide +kernel, nO_WI, nN_WI⟩
theorem nf_WI_16 : Cond.fieldLink "TurnedKeys$Wire" 16 "TurnedKeys$Wire" "before" "I" ∈ hm_tb := hm_tb_in (List.mem_of_getElem? (i := 340) (by decide +kernel)) (by decide +kernel)
theorem nF_WI_16 : hm_F "TurnedKeys$Wire" 16 5 2 (.int) 1 := ⟨_, _, _, "TurnedKeys$Wire", nY_WI, nW_WI, rfl, by decide, nf_WI_16, Or.inl rfl, (fun h => absurd h (by decide)), fun _ => ⟨rfl, rfl⟩, by decide +kernel, nO_WI, nN_WI⟩
theorem nf_WI_19 : Cond.fieldLink "TurnedKeys$Wire" 19 "TurnedKeys$Wire" "publicKey" "LTurnedKeys$Term;" ∈ hm_tb := hm_tb_in (List.mem_of_getElem? (i := 342) (by decide +kernel)) (by decide +kernel)
theorem nF_WI_19 : hm_F "TurnedKeys$Wire" 19 5 3 (.object "TurnedKeys$Term") 1 := ⟨_, _, _, "TurnedKeys$Wire", nY_WI, nW_WI, rfl, by decide, nf_WI_19, Or.inl rfl, (fun h => absurd h (by decide)), fun _ => ⟨rfl, rfl⟩, by decide +kernel, nO_WI, nN_WI⟩
theorem nf_WI_23 : Cond.fieldLink "TurnedKeys$Wire" 23 "TurnedKeys$Wire" "key" "LTurnedKeys$Term;" ∈ hm_tb := hm_tb_in (List.mem_of_getElem? (i := 345) (by decide +kernel)) (by decide +kernel)
theorem nF_WI_23 : hm_F "TurnedKeys$Wire" 23 5 4 (.object "TurnedKeys$Term") 1 := ⟨_, _, _, "TurnedKeys$Wire", nY_WI, nW_WI, rfl, by decide, nf_WI_23, Or.inl rfl, (fun h => absurd h (by decide)), fun _ => ⟨rfl, rfl⟩, by decide +kernel, nO_WI, nN_WI⟩
theorem nf_WI_26 : Cond.fieldLink "TurnedKeys$Wire" 26 "TurnedKeys$Wire" "letter" "LTurnedKeys$Term;" ∈ hm_tb := hm_tb_in (List.mem_of_getElem? (i := 347) (by decide +kernel)) (by decide +kernel)
theorem nF_WI_26 : hm_F "TurnedKeys$Wire" 26 5 5 (.object "TurnedKeys$Term") 1 := ⟨_, _, _, "TurnedKeys$Wire", nY_WI, nW_WI, rfl, by decide, nf_WI_26, Or.inl rfl, (fun h => absurd h (by decide)), fun _ => ⟨rfl, rfl⟩, by decide +kernel, nO_WI, nN_WI⟩
theorem nf_MO_7 : Cond.fieldLink "TurnedKeysModel" 7 "TurnedKeysModel" "terms" "I" ∈ hm_tb := hm_tb_in (List.mem_of_getElem? (i := 534) (by decide +kernel)) (by decide +kernel)
theorem nF_MO_7 : hm_F "TurnedKeysModel" 7 7 0 (.int) 0 := ⟨_, _, _, "TurnedKeysModel", nY_MO, nW_MO, rfl, by decide, nf_MO_7, Or.inl rfl, fun _ => rfl, (fun h => absurd h (by decide)), by decide +kernel, nO_MO, nN_MO⟩
theorem nf_MO_13 : Cond.fieldLink "TurnedKeysModel" 13 "TurnedKeysModel" "sort" "[B" ∈ hm_tb := hm_tb_in (List.mem_of_getElem? (i := 535) (by decide +kernel)) (by decide +kernel)
theorem nF_MO_13 : hm_F "TurnedKeysModel" 13 7 1 (.array (.byte)) 1 := ⟨_, _, _, "TurnedKeysModel", nY_MO, nW_MO, rfl, by decide, nf_MO_13, Or.inl rfl, (fun h => absurd h (by decide)), fun _ => ⟨rfl, rfl⟩, by decide +kernel, nO_MO, nN_MO⟩
theorem nf_MO_17 : Cond.fieldLink "TurnedKeysModel" 17 "TurnedKeysModel" "one" "[I" ∈ hm_tb := hm_tb_in (List.mem_of_getElem? (i := 536) (by decide +kernel)) (by decide +kernel)
theorem nF_MO_17 : hm_F "TurnedKeysModel" 17 7 2 (.array (.int)) 1 := ⟨_, _, _, "TurnedKeysModel", nY_MO, nW_MO, rfl, by decide, nf_MO_17, Or.inl rfl, (fun h => absurd h (by decide)), fun _ => ⟨rfl, rfl⟩, by decide +kernel, nO_MO, nN_MO⟩
theorem nf_MO_21 : Cond.fieldLink "TurnedKeysModel" 21 "TurnedKeysModel" "two" "[I" ∈ hm_tb := hm_tb_in (List.mem_of_getElem? (i := 537) (by decide +kernel)) (by decide +kernel)
theorem nF_MO_21 : hm_F "TurnedKeysModel" 21 7 3 (.array (.int)) 1 := ⟨_, _, _, "TurnedKeysModel", nY_MO, nW_MO, rfl, by decide, nf_MO_21, Or.inl rfl, (fun h => absurd h (by decide)), fun _ => ⟨rfl, rfl⟩, by decide +kernel, nO_MO, nN_MO⟩
theorem nf_MO_24 : Cond.fieldLink "TurnedKeysModel" 24 "TurnedKeysModel" "three" "[I" ∈ hm_tb := hm_tb_in (List.mem_of_getElem? (i := 538) (by decide +kernel)) (by decide +kernel)
theorem nF_MO_24 : hm_F "TurnedKeysModel" 24 7 4 (.array (.int)) 1 := ⟨_, _, _, "TurnedKeysModel", nY_MO, nW_MO, rfl, by decide, nf_MO_24, Or.inl rfl, (fun h => absurd h (by decide)), fun _ => ⟨rfl, rfl⟩, by decide +kernel, nO_MO, nN_MO⟩
theorem nf_MO_27 : Cond.fieldLink "TurnedKeysModel" 27 "TurnedKeysModel" "given" "[Z" ∈ hm_tb := hm_tb_in (List.mem_of_getElem? (i := 539) (by decide +kernel)) (by decide +kernel)
theorem nF_MO_27 : hm_F "TurnedKeysModel" 27 7 5 (.array (.boolean)) 1 := ⟨_, _, _, "TurnedKeysModel", nY_MO, nW_MO, rfl, by decide, nf_MO_27, Or.inl rfl, (fun h => absurd h (by decide)), fun _ => ⟨rfl, rfl⟩, by decide +kernel, nO_MO, nN_MO⟩
theorem nf_MO_31 : Cond.fieldLink "TurnedKeysModel" 31 "TurnedKeysModel" "known" "[Z" ∈ hm_tb := hm_tb_in (List.mem_of_getElem? (i := 540) (by decide +kernel)) (by decide +kernel)
theorem nF_MO_31 : hm_F "TurnedKeysModel" 31 7 6 (.array (.boolean)) 1 := ⟨_, _, _, "TurnedKeysModel", nY_MO, nW_MO, rfl, by decide, nf_MO_31, Or.inl rfl, (fun h => absurd h (by decide)), fun _ => ⟨rfl, rfl⟩, by decide +kernel, nO_MO, nN_MO⟩
theorem nf_MO_35 : Cond.fieldLink "TurnedKeysModel" 35 "TurnedKeysModel" "table" "[I" ∈ hm_tb := hm_tb_in (List.mem_of_getElem? (i := 541) (by decide +kernel)) (by decide +kernel)
theorem nF_MO_35 : hm_F "TurnedKeysModel" 35 7 7 (.array (.int)) 1 := ⟨_, _, _, "TurnedKeysModel", nY_MO, nW_MO, rfl, by decide, nf_MO_35, Or.inl rfl, (fun h => absurd h (by decide)), fun _ => ⟨rfl, rfl⟩, by decide +kernel, nO_MO, nN_MO⟩
theorem nf_MO_38 : Cond.fieldLink "TurnedKeysModel" 38 "TurnedKeysModel" "isOld" "Z" ∈ hm_tb := hm_tb_in (List.mem_of_getElem? (i := 542) (by decide +kernel)) (by decide +kernel)
theorem nF_MO_38 : hm_F "TurnedKeysModel" 38 7 8 (.boolean) 0 := ⟨_, _, _, "TurnedKeysModel", nY_MO, nW_MO, rfl, by decide, nf_MO_38, Or.inl rfl, fun _ => rfl, (fun h => absurd h (by decide)), by decide +kernel, nO_MO, nN_MO⟩
theorem nf_MO_42 : Cond.fieldLink "TurnedKeysModel" 42 "TurnedKeysModel" "headN" "[I" ∈ hm_tb := hm_tb_in (List.mem_of_getElem? (i := 545) (by decide +kernel)) (by decide +kernel)
theorem nF_MO_42 : hm_F "TurnedKeysModel" 42 7 11 (.array (.int)) 1 := ⟨_, _, _, "TurnedKeysModel", nY_MO, nW_MO, rfl, by decide, nf_MO_42, Or.inl rfl, (fun h => absurd h (by decide)), fun _ => ⟨rfl, rfl⟩, by decide +kernel, nO_MO, nN_MO⟩
theorem nf_MO_45 : Cond.fieldLink "TurnedKeysModel" 45 "TurnedKeysModel" "headBefore" "[I" ∈ hm_tb := hm_tb_in (List.mem_of_getElem? (i := 546) (by decide +kernel)) (by decide +kernel)
theorem nF_MO_45 : hm_F "TurnedKeysModel" 45 7 12 (.array (.int)) 1 := ⟨_, _, _, "TurnedKeysModel", nY_MO, nW_MO, rfl, by decide, nf_MO_45, Or.inl rfl, (fun h => absurd h (by decide)), fun _ => ⟨rfl, rfl⟩, by decide +kernel, nO_MO, nN_MO⟩
theorem nf_MO_48 : Cond.fieldLink "TurnedKeysModel" 48 "TurnedKeysModel" "headEnd" "[I" ∈ hm_tb := hm_tb_in (List.mem_of_getElem? (i := 547) (by decide +kernel)) (by decide +kernel)
theorem nF_MO_48 : hm_F "TurnedKeysModel" 48 7 13 (.array (.int)) 1 := ⟨_, _, _, "TurnedKeysModel", nY_MO, nW_MO, rfl, by decide, nf_MO_48, Or.inl rfl, (fun h => absurd h (by decide)), fun _ => ⟨rfl, rfl⟩, by decide +kernel, nO_MO, nN_MO⟩
theorem nf_MO_51 : Cond.fieldLink "TurnedKeysModel" 51 "TurnedKeysModel" "headKey" "[I" ∈ hm_tb := hm_tb_in (List.mem_of_getElem? (i := 548) (by decide +kernel)) (by decide +kernel)
theorem nF_MO_51 : hm_F "TurnedKeysModel" 51 7 14 (.array (.int)) 1 := ⟨_, _, _, "TurnedKeysModel", nY_MO, nW_MO, rfl, by decide, nf_MO_51, Or.inl rfl, (fun h => absurd h (by decide)), fun _ => ⟨rfl, rfl⟩, by decide +kernel, nO_MO, nN_MO⟩
theorem nf_MO_54 : Cond.fieldLink "TurnedKeysModel" 54 "TurnedKeysModel" "wire" "[I" ∈ hm_tb := hm_tb_in (List.mem_of_getElem? (i := 550) (by decide +kernel)) (by decide +kernel)
theorem nF_MO_54 : hm_F "TurnedKeysModel" 54 7 16 (.array (.int)) 1 := ⟨_, _, _, "TurnedKeysModel", nY_MO, nW_MO, rfl, by decide, nf_MO_54, Or.inl rfl, (fun h => absurd h (by decide)), fun _ => ⟨rfl, rfl⟩, by decide +kernel, nO_MO, nN_MO⟩
theorem nf_MO_57 : Cond.fieldLink "TurnedKeysModel" 57 "TurnedKeysModel" "letter" "[I" ∈ hm_tb := hm_tb_in (List.mem_of_getElem? (i := 551) (by decide +kernel)) (by decide +kernel)
theorem nF_MO_57 : hm_F "TurnedKeysModel" 57 7 17 (.array (.int)) 1 := ⟨_, _, _, "TurnedKeysModel", nY_MO, nW_MO, rfl, by decide, nf_MO_57, Or.inl rfl, (fun h => absurd h (by decide)), fun _ => ⟨rfl, rfl⟩, by decide +kernel, nO_MO, nN_MO⟩
theorem nf_MO_60 : Cond.fieldLink "TurnedKeysModel" 60 "TurnedKeysModel" "now" "[I" ∈ hm_tb := hm_tb_in (List.mem_of_getElem? (i := 553) (by decide +kernel)) (by decide +kernel)
theorem nF_MO_60 : hm_F "TurnedKeysModel" 60 7 19 (.array (.int)) 1 := ⟨_, _, _, "TurnedKeysModel", nY_MO, nW_MO, rfl, by decide, nf_MO_60, Or.inl rfl, (fun h => absurd h (by decide)), fun _ => ⟨rfl, rfl⟩, by decide +kernel, nO_MO, nN_MO⟩
theorem nf_MO_63 : Cond.fieldLink "TurnedKeysModel" 63 "TurnedKeysModel" "kept" "[I" ∈ hm_tb := hm_tb_in (List.mem_of_getElem? (i := 554) (by decide +kernel)) (by decide +kernel)
theorem nF_MO_63 : hm_F "TurnedKeysModel" 63 7 20 (.array (.int)) 1 := ⟨_, _, _, "TurnedKeysModel", nY_MO, nW_MO, rfl, by decide, nf_MO_63, Or.inl rfl, (fun h => absurd h (by decide)), fun _ => ⟨rfl, rfl⟩, by decide +kernel, nO_MO, nN_MO⟩
theorem nf_MO_66 : Cond.fieldLink "TurnedKeysModel" 66 "TurnedKeysModel" "hand" "[I" ∈ hm_tb := hm_tb_in (List.mem_of_getElem? (i := 555) (by decide +kernel)) (by decide +kernel)
theorem nF_MO_66 : hm_F "TurnedKeysModel" 66 7 21 (.array (.int)) 1 := ⟨_, _, _, "TurnedKeysModel", nY_MO, nW_MO, rfl, by decide, nf_MO_66, Or.inl rfl, (fun h => absurd h (by decide)), fun _ => ⟨rfl, rfl⟩, by decide +kernel, nO_MO, nN_MO⟩
theorem nf_MO_77 : Cond.fieldLink "TurnedKeysModel" 77 "TurnedKeysModel" "base" "I" ∈ hm_tb := hm_tb_in (List.mem_of_getElem? (i := 552) (by decide +kernel)) (by decide +kernel)
theorem nF_MO_77 : hm_F "TurnedKeysModel" 77 7 18 (.int) 0 := ⟨_, _, _, "TurnedKeysModel", nY_MO, nW_MO, rfl, by decide, nf_MO_77, Or.inl rfl, fun _ => rfl, (fun h => absurd h (by decide)), by decide +kernel, nO_MO, nN_MO⟩
theorem nf_MO_92 : Cond.fieldLink "TurnedKeysModel" 92 "TurnedKeysModel" "drawn" "I" ∈ hm_tb := hm_tb_in (List.mem_of_getElem? (i := 543) (by decide +kernel)) (by decide +kernel)
theorem nF_MO_92 : hm_F "TurnedKeysModel" 92 7 9 (.int) 0 := ⟨_, _, _, "TurnedKeysModel", nY_MO, nW_MO, rfl, by decide, nf_MO_92, Or.inl rfl, fun _ => rfl, (fun h => absurd h (by decide)), by decide +kernel, nO_MO, nN_MO⟩
theorem nf_MO_122 : Cond.fieldLink "TurnedKeysModel" 122 "TurnedKeysModel" "heads" "I" ∈ hm_tb := hm_tb_in (List.mem_of_getElem? (i := 544) (by decide +kernel)) (by decide +kernel)
theorem nF_MO_122 : hm_F "TurnedKeysModel" 122 7 10 (.int) 0 := ⟨_, _, _, "TurnedKeysModel", nY_MO, nW_MO, rfl, by decide, nf_MO_122, Or.inl rfl, fun _ => rfl, (fun h => absurd h (by decide)), by decide +kernel, nO_MO, nN_MO⟩
theorem nf_MO_128 : Cond.fieldLink "TurnedKeysModel" 128 "TurnedKeysModel" "wires" "I" ∈ hm_tb := hm_tb_in (List.mem_of_getElem? (i := 549) (by decide +kernel)) (by decide +kernel)
theorem nF_MO_128 : hm_F "TurnedKeysModel" 128 7 15 (.int) 0 := ⟨_, _, _, "TurnedKeysModel", nY_MO, nW_MO, rfl, by decide, nf_MO_128, Or.inl rfl, fun _ => rfl, (fun h => absurd h (by decide)), by decide +kernel, nO_MO, nN_MO⟩
theorem nf_MO_149 : Cond.fieldLink "TurnedKeysModel" 149 "TurnedKeysModel" "looked" "I" ∈ hm_tb := hm_tb_in (List.mem_of_getElem? (i := 556) (by decide +kernel)) (by decide +kernel)
theorem nF_MO_149 : hm_F "TurnedKeysModel" 149 7 22 (.int) 0 := ⟨_, _, _, "TurnedKeysModel", nY_MO, nW_MO, rfl, by decide, nf_MO_149, Or.inl rfl, fun _ => rfl, (fun h => absurd h (by decide)), by decide +kernel, nO_MO, nN_MO⟩
theorem nf_AB_7 : Cond.fieldLink "java/util/AbstractList" 7 "java/util/AbstractList" "modCount" "I" ∈ hm_tb := hm_tb_in (List.mem_of_getElem? (i := 81) (by decide +kernel)) (by decide +kernel)
theorem nF_AB_7 : hm_F "java/util/AbstractList" 7 0 2 (.int) 0 := ⟨_, _, _, "java/util/AbstractList", nY_AL, nW_AL, rfl, by decide, nf_AB_7, Or.inl rfl, fun _ => rfl, (fun h => absurd h (by decide)), by decide +kernel, nO_AL, nN_AL⟩
theorem nf_AL_9 : Cond.fieldLink "java/util/ArrayList" 9 "java/util/ArrayList" "elementData" "[Ljava/lang/Object;" ∈ hm_tb := hm_tb_in (List.mem_of_getElem? (i := 79) (by decide +kernel)) (by decide +kernel)
theorem nF_AL_9 : hm_F "java/util/ArrayList" 9 0 0 (.array (.object "java/lang/Object")) 0 := ⟨_, _, _, "java/util/ArrayList", nY_AL, nW_AL, rfl, by decide, nf_AL_9, Or.inl rfl, fun _ => rfl, (fun h => absurd h (by decide)), by decide +kernel, nO_AL, nN_AL⟩
theorem nf_AL_48 : Cond.fieldLink "java/util/ArrayList" 48 "java/util/ArrayList" "size" "I" ∈ hm_tb := hm_tb_in (List.mem_of_getElem? (i := 80) (by decide +kernel)) (by decide +kernel)
theorem nF_AL_48 : hm_F "java/util/ArrayList" 48 0 1 (.int) 0 := ⟨_, _, _, "java/util/ArrayList", nY_AL, nW_AL, rfl, by decide, nf_AL_48, Or.inl rfl, fun _ => rfl, (fun h => absurd h (by decide)), by decide +kernel, nO_AL, nN_AL⟩
theorem nf_AL_63 : Cond.fieldLink "java/util/ArrayList" 63 "java/util/ArrayList" "modCount" "I" ∈ hm_tb := hm_tb_in (List.mem_of_getElem? (i := 82) (by decide +kernel)) (by decide +kernel)
theorem ns_AL_63 : Cond.sameField "java/util/ArrayList" "java/util/AbstractList" "modCount" "I" ∈ hm_tb := hm_tb_in (List.mem_of_getElem? (i := 83) (by decide +kernel)) (by decide +kernel)
theorem nF_AL_63 : hm_F "java/util/ArrayList" 63 0 2 (.int) 0 := ⟨_, _, _, "java/util/ArrayList", nY_AL, nW_AL, rfl, by decide, nf_AL_63, Or.inr ns_AL_63, fun _ => rfl, (fun h => absurd h (by decide)), by decide +kernel, nO_AL, nN_AL⟩
theorem nz_LA : Cond.initialized "TurnedKeysLaw" ∈ hm_tb := hm_tb_in (List.mem_of_getElem? (i := 34) (by decide +kernel)) (by decide +kernel)
theorem nz_TK : Cond.initialized "TurnedKeys" ∈ hm_tb := hm_tb_in (List.mem_of_getElem? (i := 35) (by decide +kernel)) (by decide +kernel)
theorem nz_TS : Cond.initialized "TurnedKeys$Terms" ∈ hm_tb := hm_tb_in (List.mem_of_getElem? (i := 36) (by decide +kernel)) (by decide +kernel)
theorem nz_AC : Cond.initialized "java/util/AbstractCollection" ∈ hm_tb := hm_tb_in (List.mem_of_getElem? (i := 37) (by decide +kernel)) (by decide +kernel)
theorem nz_AB : Cond.initialized "java/util/AbstractList" ∈ hm_tb := hm_tb_in (List.mem_of_getElem? (i := 38) (by decide +kernel)) (by decide +kernel)
theorem nz_AL : Cond.initialized "java/util/ArrayList" ∈ hm_tb := hm_tb_in (List.mem_of_getElem? (i := 39) (by decide +kernel)) (by decide +kernel)
theorem nz_TE : Cond.initialized "TurnedKeys$Term" ∈ hm_tb := hm_tb_in (List.mem_of_getElem? (i := 40) (by decide +kernel)) (by decide +kernel)
theorem nz_AS : Cond.initialized "jdk/internal/util/ArraysSupport" ∈ hm_tb := hm_tb_in (List.mem_of_getElem? (i := 41) (by decide +kernel)) (by decide +kernel)
theorem nz_MA : Cond.initialized "java/lang/Math" ∈ hm_tb := hm_tb_in (List.mem_of_getElem? (i := 42) (by decide +kernel)) (by decide +kernel)
theorem nz_AR : Cond.initialized "java/util/Arrays" ∈ hm_tb := hm_tb_in (List.mem_of_getElem? (i := 43) (by decide +kernel)) (by decide +kernel)
theorem nz_SY : Cond.initialized "java/lang/System" ∈ hm_tb := hm_tb_in (List.mem_of_getElem? (i := 44) (by decide +kernel)) (by decide +kernel)
theorem nz_EN : Cond.initialized "TurnedKeys$End" ∈ hm_tb := hm_tb_in (List.mem_of_getElem? (i := 45) (by decide +kernel)) (by decide +kernel)
theorem nz_MO : Cond.initialized "TurnedKeysModel" ∈ hm_tb := hm_tb_in (List.mem_of_getElem? (i := 46) (by decide +kernel)) (by decide +kernel)
theorem nz_WI : Cond.initialized "TurnedKeys$Wire" ∈ hm_tb := hm_tb_in (List.mem_of_getElem? (i := 47) (by decide +kernel)) (by decide +kernel)
theorem nz_OB : Cond.initialized "java/util/Objects" ∈ hm_tb := hm_tb_in (List.mem_of_getElem? (i := 48) (by decide +kernel)) (by decide +kernel)
theorem nz_PR : Cond.initialized "jdk/internal/util/Preconditions" ∈ hm_tb := hm_tb_in (List.mem_of_getElem? (i := 49) (by decide +kernel)) (by decide +kernel)
theorem nz_LK : Cond.initialized "TurnedKeys$LeftKey" ∈ hm_tb := hm_tb_in (List.mem_of_getElem? (i := 50) (by decide +kernel)) (by decide +kernel)
theorem nc_LA_7 : Cond.classLink "TurnedKeysLaw" 7 "TurnedKeys" ∈ hm_tb := hm_tb_in (List.mem_of_getElem? (i := 51) (by decide +kernel)) (by decide +kernel)
theorem ni_TK : Cond.instantiable "TurnedKeys" 6 ∈ hm_tb := hm_tb_in (List.mem_of_getElem? (i := 52) (by decide +kernel)) (by decide +kernel)
theorem nc_TK_7 : Cond.classLink "TurnedKeys" 7 "TurnedKeys$Terms" ∈ hm_tb := hm_tb_in (List.mem_of_getElem? (i := 59) (by decide +kernel)) (by decide +kernel)
theorem ni_TS : Cond.instantiable "TurnedKeys$Terms" 3 ∈ hm_tb := hm_tb_in (List.mem_of_getElem? (i := 60) (by decide +kernel)) (by decide +kernel)
theorem nc_TS_9 : Cond.classLink "TurnedKeys$Terms" 9 "java/util/ArrayList" ∈ hm_tb := hm_tb_in (List.mem_of_getElem? (i := 65) (by decide +kernel)) (by decide +kernel)
theorem ni_AL : Cond.instantiable "java/util/ArrayList" 3 ∈ hm_tb := hm_tb_in (List.mem_of_getElem? (i := 66) (by decide +kernel)) (by decide +kernel)
theorem nc_TS_27 : Cond.classLink "TurnedKeys$Terms" 27 "TurnedKeys$Term" ∈ hm_tb := hm_tb_in (List.mem_of_getElem? (i := 110) (by decide +kernel)) (by decide +kernel)
theorem ni_TE : Cond.instantiable "TurnedKeys$Term" 8 ∈ hm_tb := hm_tb_in (List.mem_of_getElem? (i := 111) (by decide +kernel)) (by decide +kernel)
theorem nk_AS_200 : Cond.constant "jdk/internal/util/ArraysSupport" 200 (2147483639 : Int32) ∈ hm_tb := hm_tb_in (List.mem_of_getElem? (i := 172) (by decide +kernel)) (by decide +kernel)
theorem nc_AR_110 : Cond.classLink "java/util/Arrays" 110 "[Ljava/lang/Object;" ∈ hm_tb := hm_tb_in (List.mem_of_getElem? (i := 194) (by decide +kernel)) (by decide +kernel)
theorem nc_AR_2 : Cond.classLink "java/util/Arrays" 2 "java/lang/Object" ∈ hm_tb := hm_tb_in (List.mem_of_getElem? (i := 196) (by decide +kernel)) (by decide +kernel)
theorem nc_AL_7 : Cond.classLink "java/util/ArrayList" 7 "java/lang/Object" ∈ hm_tb := hm_tb_in (List.mem_of_getElem? (i := 204) (by decide +kernel)) (by decide +kernel)
theorem nc_TK_28 : Cond.classLink "TurnedKeys" 28 "TurnedKeys$End" ∈ hm_tb := hm_tb_in (List.mem_of_getElem? (i := 221) (by decide +kernel)) (by decide +kernel)
theorem ni_EN : Cond.instantiable "TurnedKeys$End" 11 ∈ hm_tb := hm_tb_in (List.mem_of_getElem? (i := 222) (by decide +kernel)) (by decide +kernel)
theorem nc_EN_9 : Cond.classLink "TurnedKeys$End" 9 "TurnedKeys$LeftKey" ∈ hm_tb := hm_tb_in (List.mem_of_getElem? (i := 228) (by decide +kernel)) (by decide +kernel)
theorem nc_EN_12 : Cond.classLink "TurnedKeys$End" 12 "TurnedKeys$End" ∈ hm_tb := hm_tb_in (List.mem_of_getElem? (i := 280) (by decide +kernel)) (by decide +kernel)
theorem nc_TK_59 : Cond.classLink "TurnedKeys" 59 "java/util/ArrayList" ∈ hm_tb := hm_tb_in (List.mem_of_getElem? (i := 286) (by decide +kernel)) (by decide +kernel)
theorem nc_EN_70 : Cond.classLink "TurnedKeys$End" 70 "TurnedKeys$Wire" ∈ hm_tb := hm_tb_in (List.mem_of_getElem? (i := 329) (by decide +kernel)) (by decide +kernel)
theorem ni_WI : Cond.instantiable "TurnedKeys$Wire" 6 ∈ hm_tb := hm_tb_in (List.mem_of_getElem? (i := 330) (by decide +kernel)) (by decide +kernel)
theorem nc_TK_102 : Cond.classLink "TurnedKeys" 102 "TurnedKeys$Wire" ∈ hm_tb := hm_tb_in (List.mem_of_getElem? (i := 395) (by decide +kernel)) (by decide +kernel)
theorem ni_LK : Cond.instantiable "TurnedKeys$LeftKey" 3 ∈ hm_tb := hm_tb_in (List.mem_of_getElem? (i := 413) (by decide +kernel)) (by decide +kernel)
theorem nk_TS_93 : Cond.constant "TurnedKeys$Terms" 93 (1000000 : Int32) ∈ hm_tb := hm_tb_in (List.mem_of_getElem? (i := 461) (by decide +kernel)) (by decide +kernel)
theorem nc_LA_10 : Cond.classLink "TurnedKeysLaw" 10 "TurnedKeysModel" ∈ hm_tb := hm_tb_in (List.mem_of_getElem? (i := 503) (by decide +kernel)) (by decide +kernel)
theorem ni_MO : Cond.instantiable "TurnedKeysModel" 23 ∈ hm_tb := hm_tb_in (List.mem_of_getElem? (i := 504) (by decide +kernel)) (by decide +kernel)
theorem nk_MO_34 : Cond.constant "TurnedKeysModel" 34 (65536 : Int32) ∈ hm_tb := hm_tb_in (List.mem_of_getElem? (i := 509) (by decide +kernel)) (by decide +kernel)
theorem nk_MO_88 : Cond.constant "TurnedKeysModel" 88 (-1640531535 : Int32) ∈ hm_tb := hm_tb_in (List.mem_of_getElem? (i := 518) (by decide +kernel)) (by decide +kernel)
theorem nk_MO_89 : Cond.constant "TurnedKeysModel" 89 (-2048144789 : Int32) ∈ hm_tb := hm_tb_in (List.mem_of_getElem? (i := 519) (by decide +kernel)) (by decide +kernel)
theorem nk_MO_90 : Cond.constant "TurnedKeysModel" 90 (668265263 : Int32) ∈ hm_tb := hm_tb_in (List.mem_of_getElem? (i := 520) (by decide +kernel)) (by decide +kernel)
theorem nk_MO_91 : Cond.constant "TurnedKeysModel" 91 (65535 : Int32) ∈ hm_tb := hm_tb_in (List.mem_of_getElem? (i := 521) (by decide +kernel)) (by decide +kernel)
theorem na_byte : Cond.arrayClass .byte ∈ hm_tb := hm_tb_in (List.mem_of_getElem? (i := 604) (by decide +kernel)) (by decide +kernel)
theorem na_int : Cond.arrayClass .int ∈ hm_tb := hm_tb_in (List.mem_of_getElem? (i := 605) (by decide +kernel)) (by decide +kernel)
theorem na_boolean : Cond.arrayClass .boolean ∈ hm_tb := hm_tb_in (List.mem_of_getElem? (i := 606) (by decide +kernel)) (by decide +kernel)
theorem nB_LA_7 : hm_O "TurnedKeysLaw" 7 6 [.null, .null, .null, .null, .null, .int 0] := ⟨_, _, nY_TK, nW_TK, rfl, nc_LA_7, ni_TK, nz_TK, nO_TK, fun j hj => by
  match j, hj with
  | 0, _ => rfl
  | 1, _ => rfl
  | 2, _ => rfl
  | 3, _ => rfl
  | 4, _ => rfl
  | 5, _ => rfl
  | j + 6, hj => exact absurd hj (by simp)⟩
theorem nB_TK_7 : hm_O "TurnedKeys" 7 1 [.null, .int 0, .int 0] := ⟨_, _, nY_TS, nW_TS, rfl, nc_TK_7, ni_TS, nz_TS, nO_TS, fun j hj => by
  match j, hj with
  | 0, _ => rfl
  | 1, _ => rfl
  | 2, _ => rfl
  | j + 3, hj => exact absurd hj (by simp)⟩
theorem nB_TS_9 : hm_O "TurnedKeys$Terms" 9 0 [.null, .int 0, .int 0] := ⟨_, _, nY_AL, nW_AL, rfl, nc_TS_9, ni_AL, nz_AL, nO_AL, fun j hj => by
  match j, hj with
  | 0, _ => rfl
  | 1, _ => rfl
  | 2, _ => rfl
  | j + 3, hj => exact absurd hj (by simp)⟩
theorem nB_TS_27 : hm_O "TurnedKeys$Terms" 27 2 [.int 0, .int 0, .null, .null, .null, .null, .null, .int 0] := ⟨_, _, nY_TE, nW_TE, rfl, nc_TS_27, ni_TE, nz_TE, nO_TE, fun j hj => by
  match j, hj with
  | 0, _ => rfl
  | 1, _ => rfl
  | 2, _ => rfl
  | 3, _ => rfl
  | 4, _ => rfl
  | 5, _ => rfl
  | 6, _ => rfl
  | 7, _ => rfl
  | j + 8, hj => exact absurd hj (by simp)⟩
theorem nB_TK_28 : hm_O "TurnedKeys" 28 3 [.null, .null, .null, .null, .null, .int 0, .int 0, .null, .int 0, .null, .int 0] := ⟨_, _, nY_EN, nW_EN, rfl, nc_TK_28, ni_EN, nz_EN, nO_EN, fun j hj => by
  match j, hj with
  | 0, _ => rfl
  | 1, _ => rfl
  | 2, _ => rfl
  | 3, _ => rfl
  | 4, _ => rfl
  | 5, _ => rfl
  | 6, _ => rfl
  | 7, _ => rfl
  | 8, _ => rfl
  | 9, _ => rfl
  | 10, _ => rfl
  | j + 11, hj => exact absurd hj (by simp)⟩
theorem nB_EN_9 : hm_O "TurnedKeys$End" 9 4 [.null, .int 0, .null] := ⟨_, _, nY_LK, nW_LK, rfl, nc_EN_9, ni_LK, nz_LK, nO_LK, fun j hj => by
  match j, hj with
  | 0, _ => rfl
  | 1, _ => rfl
  | 2, _ => rfl
  | j + 3, hj => exact absurd hj (by simp)⟩
theorem nB_EN_12 : hm_O "TurnedKeys$End" 12 3 [.null, .null, .null, .null, .null, .int 0, .int 0, .null, .int 0, .null, .int 0] := ⟨_, _, nY_EN, nW_EN, rfl, nc_EN_12, ni_EN, nz_EN, nO_EN, fun j hj => by
  match j, hj with
  | 0, _ => rfl
  | 1, _ => rfl
  | 2, _ => rfl
  | 3, _ => rfl
  | 4, _ => rfl
  | 5, _ => rfl
  | 6, _ => rfl
  | 7, _ => rfl
  | 8, _ => rfl
  | 9, _ => rfl
  | 10, _ => rfl
  | j + 11, hj => exact absurd hj (by simp)⟩
theorem nB_TK_59 : hm_O "TurnedKeys" 59 0 [.null, .int 0, .int 0] := ⟨_, _, nY_AL, nW_AL, rfl, nc_TK_59, ni_AL, nz_AL, nO_AL, fun j hj => by
  match j, hj with
  | 0, _ => rfl
  | 1, _ => rfl
  | 2, _ => rfl
  | j + 3, hj => exact absurd hj (by simp)⟩
theorem nB_EN_70 : hm_O "TurnedKeys$End" 70 5 [.int 0, .int 0, .int 0, .null, .null, .null] := ⟨_, _, nY_WI, nW_WI, rfl, nc_EN_70, ni_WI, nz_WI, nO_WI, fun j hj => by
  match j, hj with
  | 0, _ => rfl
  | 1, _ => rfl
  | 2, _ => rfl
  | 3, _ => rfl
  | 4, _ => rfl
  | 5, _ => rfl
  | j + 6, hj => exact absurd hj (by simp)⟩
theorem nB_TK_102 : hm_O "TurnedKeys" 102 5 [.int 0, .int 0, .int 0, .null, .null, .null] := ⟨_, _, nY_WI, nW_WI, rfl, nc_TK_102, ni_WI, nz_WI, nO_WI, fun j hj => by
  match j, hj with
  | 0, _ => rfl
  | 1, _ => rfl
  | 2, _ => rfl
  | 3, _ => rfl
  | 4, _ => rfl
  | 5, _ => rfl
  | j + 6, hj => exact absurd hj (by simp)⟩
theorem nB_LA_10 : hm_O "TurnedKeysLaw" 10 7 [.int 0, .null, .null, .null, .null, .null, .null, .null, .int 0, .int 0, .int 0, .null, .null, .null, .null, .int 0, .null, .null, .int 0, .null, .null, .null, .int 0] := ⟨_, _, nY_MO, nW_MO, rfl, nc_LA_10, ni_MO, nz_MO, nO_MO, fun j hj => by
  match j, hj with
  | 0, _ => rfl
  | 1, _ => rfl
  | 2, _ => rfl
  | 3, _ => rfl
  | 4, _ => rfl
  | 5, _ => rfl
  | 6, _ => rfl
  | 7, _ => rfl
  | 8, _ => rfl
  | 9, _ => rfl
  | 10, _ => rfl
  | 11, _ => rfl
  | 12, _ => rfl
  | 13, _ => rfl
  | 14, _ => rfl
  | 15, _ => rfl
  | 16, _ => rfl
  | 17, _ => rfl
  | 18, _ => rfl
  | 19, _ => rfl
  | 20, _ => rfl
  | 21, _ => rfl
  | 22, _ => rfl
  | j + 23, hj => exact absurd hj (by simp)⟩
set_option maxRecDepth 20000 in
theorem nm_TK_init : Cond.code ny_TK_init prog_1_method_1_code 9 none ∈ hm_tb := hm_tb_in (List.mem_of_getElem? (i := 55) (by rfl)) (by decide +kernel)
theorem nV_TK_init : hm_Y ny_TK_init prog_1_method_1_code 9 none 0 := ⟨nm_TK_init, nz_TK, ⟨by decide +kernel, by decide +kernel⟩, by decide +kernel⟩
set_option maxRecDepth 20000 in
theorem nj_TK_init : Cond.instanceMethod ny_TK_init ∈ hm_tb := hm_tb_in (List.mem_of_getElem? (i := 54) (by rfl)) (by decide +kernel)
set_option maxRecDepth 20000 in
theorem nm_TS_init : Cond.code ny_TS_init prog_5_method_1_code 1 none ∈ hm_tb := hm_tb_in (List.mem_of_getElem? (i := 63) (by rfl)) (by decide +kernel)
theorem nV_TS_init : hm_Y ny_TS_init prog_5_method_1_code 1 none 0 := ⟨nm_TS_init, nz_TS, ⟨by decide +kernel, by decide +kernel⟩, by decide +kernel⟩
set_option maxRecDepth 20000 in
theorem nj_TS_init : Cond.instanceMethod ny_TS_init ∈ hm_tb := hm_tb_in (List.mem_of_getElem? (i := 62) (by rfl)) (by decide +kernel)
set_option maxRecDepth 20000 in
theorem nm_AL_init : Cond.code ny_AL_init prog_16_method_2_code 1 none ∈ hm_tb := hm_tb_in (List.mem_of_getElem? (i := 69) (by rfl)) (by decide +kernel)
theorem nV_AL_init : hm_Y ny_AL_init prog_16_method_2_code 1 none 0 := ⟨nm_AL_init, nz_AL, ⟨by decide +kernel, by decide +kernel⟩, by decide +kernel⟩
set_option maxRecDepth 20000 in
theorem nj_AL_init : Cond.instanceMethod ny_AL_init ∈ hm_tb := hm_tb_in (List.mem_of_getElem? (i := 68) (by rfl)) (by decide +kernel)
set_option maxRecDepth 20000 in
theorem nm_AB_init : Cond.code ny_AB_init prog_15_method_1_code 1 none ∈ hm_tb := hm_tb_in (List.mem_of_getElem? (i := 72) (by rfl)) (by decide +kernel)
theorem nV_AB_init : hm_Y ny_AB_init prog_15_method_1_code 1 none 0 := ⟨nm_AB_init, nz_AB, ⟨by decide +kernel, by decide +kernel⟩, by decide +kernel⟩
set_option maxRecDepth 20000 in
theorem nj_AB_init : Cond.instanceMethod ny_AB_init ∈ hm_tb := hm_tb_in (List.mem_of_getElem? (i := 71) (by rfl)) (by decide +kernel)
set_option maxRecDepth 20000 in
theorem nm_AC_init : Cond.code ny_AC_init prog_14_method_1_code 1 none ∈ hm_tb := hm_tb_in (List.mem_of_getElem? (i := 75) (by rfl)) (by decide +kernel)
theorem nV_AC_init : hm_Y ny_AC_init prog_14_method_1_code 1 none 0 := ⟨nm_AC_init, nz_AC, ⟨by decide +kernel, by decide +kernel⟩, by decide +kernel⟩
set_option maxRecDepth 20000 in
theorem nj_AC_init : Cond.instanceMethod ny_AC_init ∈ hm_tb := hm_tb_in (List.mem_of_getElem? (i := 74) (by rfl)) (by decide +kernel)
set_option maxRecDepth 20000 in
theorem nm_TS_draw : Cond.code ny_TS_draw prog_5_method_2_code 1 (some (.object "TurnedKeys$Term")) ∈ hm_tb := hm_tb_in (List.mem_of_getElem? (i := 105) (by rfl)) (by decide +kernel)
theorem nV_TS_draw : hm_Y ny_TS_draw prog_5_method_2_code 1 (some (.object "TurnedKeys$Term")) 0 := ⟨nm_TS_draw, nz_TS, ⟨by decide +kernel, by decide +kernel⟩, by decide +kernel⟩
set_option maxRecDepth 20000 in
theorem nj_TS_draw : Cond.instanceMethod ny_TS_draw ∈ hm_tb := hm_tb_in (List.mem_of_getElem? (i := 103) (by rfl)) (by decide +kernel)
set_option maxRecDepth 20000 in
theorem nx_TS_draw : Cond.selects "TurnedKeys$Terms" ny_TS_draw ny_TS_draw ∈ hm_tb := hm_tb_in (List.mem_of_getElem? (i := 104) (by rfl)) (by decide +kernel)
set_option maxRecDepth 20000 in
theorem nm_TS_added : Cond.code ny_TS_added prog_5_method_6_code 6 (some (.object "TurnedKeys$Term")) ∈ hm_tb := hm_tb_in (List.mem_of_getElem? (i := 109) (by rfl)) (by decide +kernel)
theorem nV_TS_added : hm_Y ny_TS_added prog_5_method_6_code 6 (some (.object "TurnedKeys$Term")) 4 := ⟨nm_TS_added, nz_TS, ⟨by decide +kernel, by decide +kernel⟩, by decide +kernel⟩
set_option maxRecDepth 20000 in
theorem nj_TS_added : Cond.instanceMethod ny_TS_added ∈ hm_tb := hm_tb_in (List.mem_of_getElem? (i := 108) (by rfl)) (by decide +kernel)
set_option maxRecDepth 20000 in
theorem nm_AL_size : Cond.code ny_AL_size prog_16_method_8_code 1 (some .int) ∈ hm_tb := hm_tb_in (List.mem_of_getElem? (i := 115) (by rfl)) (by decide +kernel)
theorem nV_AL_size : hm_Y ny_AL_size prog_16_method_8_code 1 (some .int) 0 := ⟨nm_AL_size, nz_AL, ⟨by decide +kernel, by decide +kernel⟩, by decide +kernel⟩
set_option maxRecDepth 20000 in
theorem nj_AL_size : Cond.instanceMethod ny_AL_size ∈ hm_tb := hm_tb_in (List.mem_of_getElem? (i := 113) (by rfl)) (by decide +kernel)
set_option maxRecDepth 20000 in
theorem nx_AL_size : Cond.selects "java/util/ArrayList" ny_AL_size ny_AL_size ∈ hm_tb := hm_tb_in (List.mem_of_getElem? (i := 114) (by rfl)) (by decide +kernel)
set_option maxRecDepth 20000 in
theorem nm_TE_init : Cond.code ny_TE_init prog_4_method_1_code 6 none ∈ hm_tb := hm_tb_in (List.mem_of_getElem? (i := 118) (by rfl)) (by decide +kernel)
theorem nV_TE_init : hm_Y ny_TE_init prog_4_method_1_code 6 none 5 := ⟨nm_TE_init, nz_TE, ⟨by decide +kernel, by decide +kernel⟩, by decide +kernel⟩
set_option maxRecDepth 20000 in
theorem nj_TE_init : Cond.instanceMethod ny_TE_init ∈ hm_tb := hm_tb_in (List.mem_of_getElem? (i := 117) (by rfl)) (by decide +kernel)
set_option maxRecDepth 20000 in
theorem nm_AL_add : Cond.code ny_AL_add prog_16_method_25_code 2 (some .boolean) ∈ hm_tb := hm_tb_in (List.mem_of_getElem? (i := 153) (by rfl)) (by decide +kernel)
theorem nV_AL_add : hm_Y ny_AL_add prog_16_method_25_code 2 (some .boolean) 1 := ⟨nm_AL_add, nz_AL, ⟨by decide +kernel, by decide +kernel⟩, by decide +kernel⟩
set_option maxRecDepth 20000 in
theorem nj_AL_add : Cond.instanceMethod ny_AL_add ∈ hm_tb := hm_tb_in (List.mem_of_getElem? (i := 151) (by rfl)) (by decide +kernel)
set_option maxRecDepth 20000 in
theorem nx_AL_add : Cond.selects "java/util/ArrayList" ny_AL_add ny_AL_add ∈ hm_tb := hm_tb_in (List.mem_of_getElem? (i := 152) (by rfl)) (by decide +kernel)
set_option maxRecDepth 20000 in
theorem nm_AL_add2 : Cond.code ny_AL_add2 prog_16_method_24_code 4 none ∈ hm_tb := hm_tb_in (List.mem_of_getElem? (i := 157) (by rfl)) (by decide +kernel)
theorem nV_AL_add2 : hm_Y ny_AL_add2 prog_16_method_24_code 4 none 3 := ⟨nm_AL_add2, nz_AL, ⟨by decide +kernel, by decide +kernel⟩, by decide +kernel⟩
set_option maxRecDepth 20000 in
theorem nj_AL_add2 : Cond.instanceMethod ny_AL_add2 ∈ hm_tb := hm_tb_in (List.mem_of_getElem? (i := 156) (by rfl)) (by decide +kernel)
set_option maxRecDepth 20000 in
theorem nm_AL_grow : Cond.code ny_AL_grow prog_16_method_7_code 1 (some (.array (.object "java/lang/Object"))) ∈ hm_tb := hm_tb_in (List.mem_of_getElem? (i := 161) (by rfl)) (by decide +kernel)
theorem nV_AL_grow : hm_Y ny_AL_grow prog_16_method_7_code 1 (some (.array (.object "java/lang/Object"))) 0 := ⟨nm_AL_grow, nz_AL, ⟨by decide +kernel, by decide +kernel⟩, by decide +kernel⟩
set_option maxRecDepth 20000 in
theorem nj_AL_grow : Cond.instanceMethod ny_AL_grow ∈ hm_tb := hm_tb_in (List.mem_of_getElem? (i := 160) (by rfl)) (by decide +kernel)
set_option maxRecDepth 20000 in
theorem nm_AL_grow2 : Cond.code ny_AL_grow2 prog_16_method_6_code 4 (some (.array (.object "java/lang/Object"))) ∈ hm_tb := hm_tb_in (List.mem_of_getElem? (i := 165) (by rfl)) (by decide +kernel)
theorem nV_AL_grow2 : hm_Y ny_AL_grow2 prog_16_method_6_code 4 (some (.array (.object "java/lang/Object"))) 1 := ⟨nm_AL_grow2, nz_AL, ⟨by decide +kernel, by decide +kernel⟩, by decide +kernel⟩
set_option maxRecDepth 20000 in
theorem nj_AL_grow2 : Cond.instanceMethod ny_AL_grow2 ∈ hm_tb := hm_tb_in (List.mem_of_getElem? (i := 164) (by rfl)) (by decide +kernel)
set_option maxRecDepth 20000 in
theorem nm_AS_newLength : Cond.code ny_AS_newLength prog_23_method_27_code 4 (some .int) ∈ hm_tb := hm_tb_in (List.mem_of_getElem? (i := 168) (by rfl)) (by decide +kernel)
theorem nV_AS_newLength : hm_Y ny_AS_newLength prog_23_method_27_code 4 (some .int) 3 := ⟨nm_AS_newLength, nz_AS, ⟨by decide +kernel, by decide +kernel⟩, by decide +kernel⟩
set_option maxRecDepth 20000 in
theorem nu_AS_newLength : Cond.static ny_AS_newLength ∈ hm_tb := hm_tb_in (List.mem_of_getElem? (i := 167) (by rfl)) (by decide +kernel)
set_option maxRecDepth 20000 in
theorem nm_MA_max : Cond.code ny_MA_max prog_12_method_65_code 2 (some .int) ∈ hm_tb := hm_tb_in (List.mem_of_getElem? (i := 171) (by rfl)) (by decide +kernel)
theorem nV_MA_max : hm_Y ny_MA_max prog_12_method_65_code 2 (some .int) 2 := ⟨nm_MA_max, nz_MA, ⟨by decide +kernel, by decide +kernel⟩, by decide +kernel⟩
set_option maxRecDepth 20000 in
theorem nu_MA_max : Cond.static ny_MA_max ∈ hm_tb := hm_tb_in (List.mem_of_getElem? (i := 170) (by rfl)) (by decide +kernel)
set_option maxRecDepth 20000 in
theorem nm_AS_hugeLength : Cond.code ny_AS_hugeLength prog_23_method_28_code 3 (some .int) ∈ hm_tb := hm_tb_in (List.mem_of_getElem? (i := 175) (by rfl)) (by decide +kernel)
theorem nV_AS_hugeLength : hm_Y ny_AS_hugeLength prog_23_method_28_code 3 (some .int) 2 := ⟨nm_AS_hugeLength, nz_AS, ⟨by decide +kernel, by decide +kernel⟩, by decide +kernel⟩
set_option maxRecDepth 20000 in
theorem nu_AS_hugeLength : Cond.static ny_AS_hugeLength ∈ hm_tb := hm_tb_in (List.mem_of_getElem? (i := 174) (by rfl)) (by decide +kernel)
set_option maxRecDepth 20000 in
theorem nm_AR_copyOf : Cond.code ny_AR_copyOf prog_17_method_119_code 2 (some (.array (.object "java/lang/Object"))) ∈ hm_tb := hm_tb_in (List.mem_of_getElem? (i := 178) (by rfl)) (by decide +kernel)
theorem nV_AR_copyOf : hm_Y ny_AR_copyOf prog_17_method_119_code 2 (some (.array (.object "java/lang/Object"))) 2 := ⟨nm_AR_copyOf, nz_AR, ⟨by decide +kernel, by decide +kernel⟩, by decide +kernel⟩
set_option maxRecDepth 20000 in
theorem nu_AR_copyOf : Cond.static ny_AR_copyOf ∈ hm_tb := hm_tb_in (List.mem_of_getElem? (i := 177) (by rfl)) (by decide +kernel)
set_option maxRecDepth 20000 in
theorem nm_AR_copyOf2 : Cond.code ny_AR_copyOf2 prog_17_method_120_code 4 (some (.array (.object "java/lang/Object"))) ∈ hm_tb := hm_tb_in (List.mem_of_getElem? (i := 193) (by rfl)) (by decide +kernel)
theorem nV_AR_copyOf2 : hm_Y ny_AR_copyOf2 prog_17_method_120_code 4 (some (.array (.object "java/lang/Object"))) 3 := ⟨nm_AR_copyOf2, nz_AR, ⟨by decide +kernel, by decide +kernel⟩, by decide +kernel⟩
set_option maxRecDepth 20000 in
theorem nu_AR_copyOf2 : Cond.static ny_AR_copyOf2 ∈ hm_tb := hm_tb_in (List.mem_of_getElem? (i := 192) (by rfl)) (by decide +kernel)
set_option maxRecDepth 20000 in
theorem nm_MA_min : Cond.code ny_MA_min prog_12_method_69_code 2 (some .int) ∈ hm_tb := hm_tb_in (List.mem_of_getElem? (i := 199) (by rfl)) (by decide +kernel)
theorem nV_MA_min : hm_Y ny_MA_min prog_12_method_69_code 2 (some .int) 2 := ⟨nm_MA_min, nz_MA, ⟨by decide +kernel, by decide +kernel⟩, by decide +kernel⟩
set_option maxRecDepth 20000 in
theorem nu_MA_min : Cond.static ny_MA_min ∈ hm_tb := hm_tb_in (List.mem_of_getElem? (i := 198) (by rfl)) (by decide +kernel)
set_option maxRecDepth 20000 in
theorem nm_TS_publicOf : Cond.code ny_TS_publicOf prog_5_method_3_code 2 (some (.object "TurnedKeys$Term")) ∈ hm_tb := hm_tb_in (List.mem_of_getElem? (i := 208) (by rfl)) (by decide +kernel)
theorem nV_TS_publicOf : hm_Y ny_TS_publicOf prog_5_method_3_code 2 (some (.object "TurnedKeys$Term")) 1 := ⟨nm_TS_publicOf, nz_TS, ⟨by decide +kernel, by decide +kernel⟩, by decide +kernel⟩
set_option maxRecDepth 20000 in
theorem nj_TS_publicOf : Cond.instanceMethod ny_TS_publicOf ∈ hm_tb := hm_tb_in (List.mem_of_getElem? (i := 206) (by rfl)) (by decide +kernel)
set_option maxRecDepth 20000 in
theorem nx_TS_publicOf : Cond.selects "TurnedKeys$Terms" ny_TS_publicOf ny_TS_publicOf ∈ hm_tb := hm_tb_in (List.mem_of_getElem? (i := 207) (by rfl)) (by decide +kernel)
set_option maxRecDepth 20000 in
theorem nm_TS_sharedOf : Cond.code ny_TS_sharedOf prog_5_method_4_code 4 (some (.object "TurnedKeys$Term")) ∈ hm_tb := hm_tb_in (List.mem_of_getElem? (i := 212) (by rfl)) (by decide +kernel)
theorem nV_TS_sharedOf : hm_Y ny_TS_sharedOf prog_5_method_4_code 4 (some (.object "TurnedKeys$Term")) 2 := ⟨nm_TS_sharedOf, nz_TS, ⟨by decide +kernel, by decide +kernel⟩, by decide +kernel⟩
set_option maxRecDepth 20000 in
theorem nj_TS_sharedOf : Cond.instanceMethod ny_TS_sharedOf ∈ hm_tb := hm_tb_in (List.mem_of_getElem? (i := 210) (by rfl)) (by decide +kernel)
set_option maxRecDepth 20000 in
theorem nx_TS_sharedOf : Cond.selects "TurnedKeys$Terms" ny_TS_sharedOf ny_TS_sharedOf ∈ hm_tb := hm_tb_in (List.mem_of_getElem? (i := 211) (by rfl)) (by decide +kernel)
set_option maxRecDepth 20000 in
theorem nm_TS_made : Cond.code ny_TS_made prog_5_method_5_code 6 (some (.object "TurnedKeys$Term")) ∈ hm_tb := hm_tb_in (List.mem_of_getElem? (i := 217) (by rfl)) (by decide +kernel)
theorem nV_TS_made : hm_Y ny_TS_made prog_5_method_5_code 6 (some (.object "TurnedKeys$Term")) 3 := ⟨nm_TS_made, nz_TS, ⟨by decide +kernel, by decide +kernel⟩, by decide +kernel⟩
set_option maxRecDepth 20000 in
theorem nj_TS_made : Cond.instanceMethod ny_TS_made ∈ hm_tb := hm_tb_in (List.mem_of_getElem? (i := 215) (by rfl)) (by decide +kernel)
set_option maxRecDepth 20000 in
theorem nx_TS_made : Cond.selects "TurnedKeys$Terms" ny_TS_made ny_TS_made ∈ hm_tb := hm_tb_in (List.mem_of_getElem? (i := 216) (by rfl)) (by decide +kernel)
set_option maxRecDepth 20000 in
theorem nm_TS_younger : Cond.code ny_TS_younger prog_5_method_7_code 2 (some (.object "TurnedKeys$Term")) ∈ hm_tb := hm_tb_in (List.mem_of_getElem? (i := 220) (by rfl)) (by decide +kernel)
theorem nV_TS_younger : hm_Y ny_TS_younger prog_5_method_7_code 2 (some (.object "TurnedKeys$Term")) 2 := ⟨nm_TS_younger, nz_TS, ⟨by decide +kernel, by decide +kernel⟩, by decide +kernel⟩
set_option maxRecDepth 20000 in
theorem nu_TS_younger : Cond.static ny_TS_younger ∈ hm_tb := hm_tb_in (List.mem_of_getElem? (i := 219) (by rfl)) (by decide +kernel)
set_option maxRecDepth 20000 in
theorem nm_EN_init : Cond.code ny_EN_init prog_2_method_1_code 4 none ∈ hm_tb := hm_tb_in (List.mem_of_getElem? (i := 226) (by rfl)) (by decide +kernel)
theorem nV_EN_init : hm_Y ny_EN_init prog_2_method_1_code 4 none 3 := ⟨nm_EN_init, nz_EN, ⟨by decide +kernel, by decide +kernel⟩, by decide +kernel⟩
set_option maxRecDepth 20000 in
theorem nj_EN_init : Cond.instanceMethod ny_EN_init ∈ hm_tb := hm_tb_in (List.mem_of_getElem? (i := 225) (by rfl)) (by decide +kernel)
set_option maxRecDepth 20000 in
theorem nm_EN_copied : Cond.code ny_EN_copied prog_2_method_2_code 2 (some (.object "TurnedKeys$End")) ∈ hm_tb := hm_tb_in (List.mem_of_getElem? (i := 279) (by rfl)) (by decide +kernel)
theorem nV_EN_copied : hm_Y ny_EN_copied prog_2_method_2_code 2 (some (.object "TurnedKeys$End")) 0 := ⟨nm_EN_copied, nz_EN, ⟨by decide +kernel, by decide +kernel⟩, by decide +kernel⟩
set_option maxRecDepth 20000 in
theorem nj_EN_copied : Cond.instanceMethod ny_EN_copied ∈ hm_tb := hm_tb_in (List.mem_of_getElem? (i := 277) (by rfl)) (by decide +kernel)
set_option maxRecDepth 20000 in
theorem nx_EN_copied : Cond.selects "TurnedKeys$End" ny_EN_copied ny_EN_copied ∈ hm_tb := hm_tb_in (List.mem_of_getElem? (i := 278) (by rfl)) (by decide +kernel)
set_option maxRecDepth 20000 in
theorem nm_EN_become : Cond.code ny_EN_become prog_2_method_3_code 3 none ∈ hm_tb := hm_tb_in (List.mem_of_getElem? (i := 285) (by rfl)) (by decide +kernel)
theorem nV_EN_become : hm_Y ny_EN_become prog_2_method_3_code 3 none 1 := ⟨nm_EN_become, nz_EN, ⟨by decide +kernel, by decide +kernel⟩, by decide +kernel⟩
set_option maxRecDepth 20000 in
theorem nj_EN_become : Cond.instanceMethod ny_EN_become ∈ hm_tb := hm_tb_in (List.mem_of_getElem? (i := 283) (by rfl)) (by decide +kernel)
set_option maxRecDepth 20000 in
theorem nx_EN_become : Cond.selects "TurnedKeys$End" ny_EN_become ny_EN_become ∈ hm_tb := hm_tb_in (List.mem_of_getElem? (i := 284) (by rfl)) (by decide +kernel)
set_option maxRecDepth 20000 in
theorem nm_TK_send : Cond.code ny_TK_send prog_1_method_2_code 4 (some .int) ∈ hm_tb := hm_tb_in (List.mem_of_getElem? (i := 310) (by rfl)) (by decide +kernel)
theorem nV_TK_send : hm_Y ny_TK_send prog_1_method_2_code 4 (some .int) 1 := ⟨nm_TK_send, nz_TK, ⟨by decide +kernel, by decide +kernel⟩, by decide +kernel⟩
set_option maxRecDepth 20000 in
theorem nj_TK_send : Cond.instanceMethod ny_TK_send ∈ hm_tb := hm_tb_in (List.mem_of_getElem? (i := 308) (by rfl)) (by decide +kernel)
set_option maxRecDepth 20000 in
theorem nx_TK_send : Cond.selects "TurnedKeys" ny_TK_send ny_TK_send ∈ hm_tb := hm_tb_in (List.mem_of_getElem? (i := 309) (by rfl)) (by decide +kernel)
set_option maxRecDepth 20000 in
theorem nm_TK_endAt : Cond.code ny_TK_endAt prog_1_method_13_code 2 (some (.object "TurnedKeys$End")) ∈ hm_tb := hm_tb_in (List.mem_of_getElem? (i := 313) (by rfl)) (by decide +kernel)
theorem nV_TK_endAt : hm_Y ny_TK_endAt prog_1_method_13_code 2 (some (.object "TurnedKeys$End")) 2 := ⟨nm_TK_endAt, nz_TK, ⟨by decide +kernel, by decide +kernel⟩, by decide +kernel⟩
set_option maxRecDepth 20000 in
theorem nu_TK_endAt : Cond.static ny_TK_endAt ∈ hm_tb := hm_tb_in (List.mem_of_getElem? (i := 312) (by rfl)) (by decide +kernel)
set_option maxRecDepth 20000 in
theorem nm_TK_mayMakeMore : Cond.code ny_TK_mayMakeMore prog_1_method_16_code 1 (some .boolean) ∈ hm_tb := hm_tb_in (List.mem_of_getElem? (i := 317) (by rfl)) (by decide +kernel)
theorem nV_TK_mayMakeMore : hm_Y ny_TK_mayMakeMore prog_1_method_16_code 1 (some .boolean) 0 := ⟨nm_TK_mayMakeMore, nz_TK, ⟨by decide +kernel, by decide +kernel⟩, by decide +kernel⟩
set_option maxRecDepth 20000 in
theorem nj_TK_mayMakeMore : Cond.instanceMethod ny_TK_mayMakeMore ∈ hm_tb := hm_tb_in (List.mem_of_getElem? (i := 316) (by rfl)) (by decide +kernel)
set_option maxRecDepth 20000 in
theorem nm_EN_turnSending : Cond.code ny_EN_turnSending prog_2_method_4_code 3 none ∈ hm_tb := hm_tb_in (List.mem_of_getElem? (i := 321) (by rfl)) (by decide +kernel)
theorem nV_EN_turnSending : hm_Y ny_EN_turnSending prog_2_method_4_code 3 none 1 := ⟨nm_EN_turnSending, nz_EN, ⟨by decide +kernel, by decide +kernel⟩, by decide +kernel⟩
set_option maxRecDepth 20000 in
theorem nj_EN_turnSending : Cond.instanceMethod ny_EN_turnSending ∈ hm_tb := hm_tb_in (List.mem_of_getElem? (i := 319) (by rfl)) (by decide +kernel)
set_option maxRecDepth 20000 in
theorem nx_EN_turnSending : Cond.selects "TurnedKeys$End" ny_EN_turnSending ny_EN_turnSending ∈ hm_tb := hm_tb_in (List.mem_of_getElem? (i := 320) (by rfl)) (by decide +kernel)
set_option maxRecDepth 20000 in
theorem nm_EN_sealedWire : Cond.code ny_EN_sealedWire prog_2_method_5_code 6 (some (.object "TurnedKeys$Wire")) ∈ hm_tb := hm_tb_in (List.mem_of_getElem? (i := 328) (by rfl)) (by decide +kernel)
theorem nV_EN_sealedWire : hm_Y ny_EN_sealedWire prog_2_method_5_code 6 (some (.object "TurnedKeys$Wire")) 3 := ⟨nm_EN_sealedWire, nz_EN, ⟨by decide +kernel, by decide +kernel⟩, by decide +kernel⟩
set_option maxRecDepth 20000 in
theorem nj_EN_sealedWire : Cond.instanceMethod ny_EN_sealedWire ∈ hm_tb := hm_tb_in (List.mem_of_getElem? (i := 326) (by rfl)) (by decide +kernel)
set_option maxRecDepth 20000 in
theorem nx_EN_sealedWire : Cond.selects "TurnedKeys$End" ny_EN_sealedWire ny_EN_sealedWire ∈ hm_tb := hm_tb_in (List.mem_of_getElem? (i := 327) (by rfl)) (by decide +kernel)
set_option maxRecDepth 20000 in
theorem nm_WI_init : Cond.code ny_WI_init prog_6_method_1_code 7 none ∈ hm_tb := hm_tb_in (List.mem_of_getElem? (i := 334) (by rfl)) (by decide +kernel)
theorem nV_WI_init : hm_Y ny_WI_init prog_6_method_1_code 7 none 6 := ⟨nm_WI_init, nz_WI, ⟨by decide +kernel, by decide +kernel⟩, by decide +kernel⟩
set_option maxRecDepth 20000 in
theorem nj_WI_init : Cond.instanceMethod ny_WI_init ∈ hm_tb := hm_tb_in (List.mem_of_getElem? (i := 333) (by rfl)) (by decide +kernel)
set_option maxRecDepth 20000 in
theorem nm_TK_giveWire : Cond.code ny_TK_giveWire prog_1_method_17_code 3 none ∈ hm_tb := hm_tb_in (List.mem_of_getElem? (i := 366) (by rfl)) (by decide +kernel)
theorem nV_TK_giveWire : hm_Y ny_TK_giveWire prog_1_method_17_code 3 none 2 := ⟨nm_TK_giveWire, nz_TK, ⟨by decide +kernel, by decide +kernel⟩, by decide +kernel⟩
set_option maxRecDepth 20000 in
theorem nj_TK_giveWire : Cond.instanceMethod ny_TK_giveWire ∈ hm_tb := hm_tb_in (List.mem_of_getElem? (i := 365) (by rfl)) (by decide +kernel)
set_option maxRecDepth 20000 in
theorem nm_TS_give : Cond.code ny_TS_give prog_5_method_8_code 2 (some .int) ∈ hm_tb := hm_tb_in (List.mem_of_getElem? (i := 370) (by rfl)) (by decide +kernel)
theorem nV_TS_give : hm_Y ny_TS_give prog_5_method_8_code 2 (some .int) 1 := ⟨nm_TS_give, nz_TS, ⟨by decide +kernel, by decide +kernel⟩, by decide +kernel⟩
set_option maxRecDepth 20000 in
theorem nj_TS_give : Cond.instanceMethod ny_TS_give ∈ hm_tb := hm_tb_in (List.mem_of_getElem? (i := 368) (by rfl)) (by decide +kernel)
set_option maxRecDepth 20000 in
theorem nx_TS_give : Cond.selects "TurnedKeys$Terms" ny_TS_give ny_TS_give ∈ hm_tb := hm_tb_in (List.mem_of_getElem? (i := 369) (by rfl)) (by decide +kernel)
set_option maxRecDepth 20000 in
theorem nm_TK_take : Cond.code ny_TK_take prog_1_method_3_code 6 (some .int) ∈ hm_tb := hm_tb_in (List.mem_of_getElem? (i := 376) (by rfl)) (by decide +kernel)
theorem nV_TK_take : hm_Y ny_TK_take prog_1_method_3_code 6 (some .int) 2 := ⟨nm_TK_take, nz_TK, ⟨by decide +kernel, by decide +kernel⟩, by decide +kernel⟩
set_option maxRecDepth 20000 in
theorem nj_TK_take : Cond.instanceMethod ny_TK_take ∈ hm_tb := hm_tb_in (List.mem_of_getElem? (i := 374) (by rfl)) (by decide +kernel)
set_option maxRecDepth 20000 in
theorem nx_TK_take : Cond.selects "TurnedKeys" ny_TK_take ny_TK_take ∈ hm_tb := hm_tb_in (List.mem_of_getElem? (i := 375) (by rfl)) (by decide +kernel)
set_option maxRecDepth 20000 in
theorem nm_TK_wireAt : Cond.code ny_TK_wireAt prog_1_method_14_code 2 (some (.object "TurnedKeys$Wire")) ∈ hm_tb := hm_tb_in (List.mem_of_getElem? (i := 380) (by rfl)) (by decide +kernel)
theorem nV_TK_wireAt : hm_Y ny_TK_wireAt prog_1_method_14_code 2 (some (.object "TurnedKeys$Wire")) 1 := ⟨nm_TK_wireAt, nz_TK, ⟨by decide +kernel, by decide +kernel⟩, by decide +kernel⟩
set_option maxRecDepth 20000 in
theorem nj_TK_wireAt : Cond.instanceMethod ny_TK_wireAt ∈ hm_tb := hm_tb_in (List.mem_of_getElem? (i := 379) (by rfl)) (by decide +kernel)
set_option maxRecDepth 20000 in
theorem nm_AL_get : Cond.code ny_AL_get prog_16_method_20_code 2 (some (.object "java/lang/Object")) ∈ hm_tb := hm_tb_in (List.mem_of_getElem? (i := 384) (by rfl)) (by decide +kernel)
theorem nV_AL_get : hm_Y ny_AL_get prog_16_method_20_code 2 (some (.object "java/lang/Object")) 1 := ⟨nm_AL_get, nz_AL, ⟨by decide +kernel, by decide +kernel⟩, by decide +kernel⟩
set_option maxRecDepth 20000 in
theorem nj_AL_get : Cond.instanceMethod ny_AL_get ∈ hm_tb := hm_tb_in (List.mem_of_getElem? (i := 382) (by rfl)) (by decide +kernel)
set_option maxRecDepth 20000 in
theorem nx_AL_get : Cond.selects "java/util/ArrayList" ny_AL_get ny_AL_get ∈ hm_tb := hm_tb_in (List.mem_of_getElem? (i := 383) (by rfl)) (by decide +kernel)
set_option maxRecDepth 20000 in
theorem nm_OB_checkIndex : Cond.code ny_OB_checkIndex prog_20_method_17_code 2 (some .int) ∈ hm_tb := hm_tb_in (List.mem_of_getElem? (i := 387) (by rfl)) (by decide +kernel)
theorem nV_OB_checkIndex : hm_Y ny_OB_checkIndex prog_20_method_17_code 2 (some .int) 2 := ⟨nm_OB_checkIndex, nz_OB, ⟨by decide +kernel, by decide +kernel⟩, by decide +kernel⟩
set_option maxRecDepth 20000 in
theorem nu_OB_checkIndex : Cond.static ny_OB_checkIndex ∈ hm_tb := hm_tb_in (List.mem_of_getElem? (i := 386) (by rfl)) (by decide +kernel)
set_option maxRecDepth 20000 in
theorem nm_PR_checkIndex : Cond.code ny_PR_checkIndex prog_24_method_11_code 3 (some .int) ∈ hm_tb := hm_tb_in (List.mem_of_getElem? (i := 390) (by rfl)) (by decide +kernel)
theorem nV_PR_checkIndex : hm_Y ny_PR_checkIndex prog_24_method_11_code 3 (some .int) 3 := ⟨nm_PR_checkIndex, nz_PR, ⟨by decide +kernel, by decide +kernel⟩, by decide +kernel⟩
set_option maxRecDepth 20000 in
theorem nu_PR_checkIndex : Cond.static ny_PR_checkIndex ∈ hm_tb := hm_tb_in (List.mem_of_getElem? (i := 389) (by rfl)) (by decide +kernel)
set_option maxRecDepth 20000 in
theorem nm_AL_elementData : Cond.code ny_AL_elementData prog_16_method_18_code 2 (some (.object "java/lang/Object")) ∈ hm_tb := hm_tb_in (List.mem_of_getElem? (i := 394) (by rfl)) (by decide +kernel)
theorem nV_AL_elementData : hm_Y ny_AL_elementData prog_16_method_18_code 2 (some (.object "java/lang/Object")) 1 := ⟨nm_AL_elementData, nz_AL, ⟨by decide +kernel, by decide +kernel⟩, by decide +kernel⟩
set_option maxRecDepth 20000 in
theorem nj_AL_elementData : Cond.instanceMethod ny_AL_elementData ∈ hm_tb := hm_tb_in (List.mem_of_getElem? (i := 392) (by rfl)) (by decide +kernel)
set_option maxRecDepth 20000 in
theorem nx_AL_elementData : Cond.selects "java/util/ArrayList" ny_AL_elementData ny_AL_elementData ∈ hm_tb := hm_tb_in (List.mem_of_getElem? (i := 393) (by rfl)) (by decide +kernel)
set_option maxRecDepth 20000 in
theorem nm_EN_keyFor : Cond.code ny_EN_keyFor prog_2_method_6_code 4 (some (.object "TurnedKeys$Term")) ∈ hm_tb := hm_tb_in (List.mem_of_getElem? (i := 400) (by rfl)) (by decide +kernel)
theorem nV_EN_keyFor : hm_Y ny_EN_keyFor prog_2_method_6_code 4 (some (.object "TurnedKeys$Term")) 2 := ⟨nm_EN_keyFor, nz_EN, ⟨by decide +kernel, by decide +kernel⟩, by decide +kernel⟩
set_option maxRecDepth 20000 in
theorem nj_EN_keyFor : Cond.instanceMethod ny_EN_keyFor ∈ hm_tb := hm_tb_in (List.mem_of_getElem? (i := 398) (by rfl)) (by decide +kernel)
set_option maxRecDepth 20000 in
theorem nx_EN_keyFor : Cond.selects "TurnedKeys$End" ny_EN_keyFor ny_EN_keyFor ∈ hm_tb := hm_tb_in (List.mem_of_getElem? (i := 399) (by rfl)) (by decide +kernel)
set_option maxRecDepth 20000 in
theorem nm_EN_pulledLeftKey : Cond.code ny_EN_pulledLeftKey prog_2_method_11_code 5 (some (.object "TurnedKeys$Term")) ∈ hm_tb := hm_tb_in (List.mem_of_getElem? (i := 404) (by rfl)) (by decide +kernel)
theorem nV_EN_pulledLeftKey : hm_Y ny_EN_pulledLeftKey prog_2_method_11_code 5 (some (.object "TurnedKeys$Term")) 2 := ⟨nm_EN_pulledLeftKey, nz_EN, ⟨by decide +kernel, by decide +kernel⟩, by decide +kernel⟩
set_option maxRecDepth 20000 in
theorem nj_EN_pulledLeftKey : Cond.instanceMethod ny_EN_pulledLeftKey ∈ hm_tb := hm_tb_in (List.mem_of_getElem? (i := 403) (by rfl)) (by decide +kernel)
set_option maxRecDepth 20000 in
theorem nm_EN_dropLeftKey : Cond.code ny_EN_dropLeftKey prog_2_method_12_code 3 none ∈ hm_tb := hm_tb_in (List.mem_of_getElem? (i := 408) (by rfl)) (by decide +kernel)
theorem nV_EN_dropLeftKey : hm_Y ny_EN_dropLeftKey prog_2_method_12_code 3 none 1 := ⟨nm_EN_dropLeftKey, nz_EN, ⟨by decide +kernel, by decide +kernel⟩, by decide +kernel⟩
set_option maxRecDepth 20000 in
theorem nj_EN_dropLeftKey : Cond.instanceMethod ny_EN_dropLeftKey ∈ hm_tb := hm_tb_in (List.mem_of_getElem? (i := 407) (by rfl)) (by decide +kernel)
set_option maxRecDepth 20000 in
theorem nm_EN_skipsTo : Cond.code ny_EN_skipsTo prog_2_method_8_code 4 (some .boolean) ∈ hm_tb := hm_tb_in (List.mem_of_getElem? (i := 412) (by rfl)) (by decide +kernel)
theorem nV_EN_skipsTo : hm_Y ny_EN_skipsTo prog_2_method_8_code 4 (some .boolean) 2 := ⟨nm_EN_skipsTo, nz_EN, ⟨by decide +kernel, by decide +kernel⟩, by decide +kernel⟩
set_option maxRecDepth 20000 in
theorem nj_EN_skipsTo : Cond.instanceMethod ny_EN_skipsTo ∈ hm_tb := hm_tb_in (List.mem_of_getElem? (i := 411) (by rfl)) (by decide +kernel)
set_option maxRecDepth 20000 in
theorem nm_EN_steppedKey : Cond.code ny_EN_steppedKey prog_2_method_9_code 3 (some (.object "TurnedKeys$Term")) ∈ hm_tb := hm_tb_in (List.mem_of_getElem? (i := 417) (by rfl)) (by decide +kernel)
theorem nV_EN_steppedKey : hm_Y ny_EN_steppedKey prog_2_method_9_code 3 (some (.object "TurnedKeys$Term")) 1 := ⟨nm_EN_steppedKey, nz_EN, ⟨by decide +kernel, by decide +kernel⟩, by decide +kernel⟩
set_option maxRecDepth 20000 in
theorem nj_EN_steppedKey : Cond.instanceMethod ny_EN_steppedKey ∈ hm_tb := hm_tb_in (List.mem_of_getElem? (i := 416) (by rfl)) (by decide +kernel)
set_option maxRecDepth 20000 in
theorem nm_LK_init : Cond.code ny_LK_init prog_3_method_1_code 4 none ∈ hm_tb := hm_tb_in (List.mem_of_getElem? (i := 420) (by rfl)) (by decide +kernel)
theorem nV_LK_init : hm_Y ny_LK_init prog_3_method_1_code 4 none 3 := ⟨nm_LK_init, nz_LK, ⟨by decide +kernel, by decide +kernel⟩, by decide +kernel⟩
set_option maxRecDepth 20000 in
theorem nj_LK_init : Cond.instanceMethod ny_LK_init ∈ hm_tb := hm_tb_in (List.mem_of_getElem? (i := 419) (by rfl)) (by decide +kernel)
set_option maxRecDepth 20000 in
theorem nm_EN_leave : Cond.code ny_EN_leave prog_2_method_10_code 2 none ∈ hm_tb := hm_tb_in (List.mem_of_getElem? (i := 440) (by rfl)) (by decide +kernel)
theorem nV_EN_leave : hm_Y ny_EN_leave prog_2_method_10_code 2 none 1 := ⟨nm_EN_leave, nz_EN, ⟨by decide +kernel, by decide +kernel⟩, by decide +kernel⟩
set_option maxRecDepth 20000 in
theorem nj_EN_leave : Cond.instanceMethod ny_EN_leave ∈ hm_tb := hm_tb_in (List.mem_of_getElem? (i := 439) (by rfl)) (by decide +kernel)
set_option maxRecDepth 20000 in
theorem nm_EN_turnReceiving : Cond.code ny_EN_turnReceiving prog_2_method_7_code 4 none ∈ hm_tb := hm_tb_in (List.mem_of_getElem? (i := 444) (by rfl)) (by decide +kernel)
theorem nV_EN_turnReceiving : hm_Y ny_EN_turnReceiving prog_2_method_7_code 4 none 2 := ⟨nm_EN_turnReceiving, nz_EN, ⟨by decide +kernel, by decide +kernel⟩, by decide +kernel⟩
set_option maxRecDepth 20000 in
theorem nj_EN_turnReceiving : Cond.instanceMethod ny_EN_turnReceiving ∈ hm_tb := hm_tb_in (List.mem_of_getElem? (i := 443) (by rfl)) (by decide +kernel)
set_option maxRecDepth 20000 in
theorem nm_TK_look : Cond.code ny_TK_look prog_1_method_4_code 6 (some .int) ∈ hm_tb := hm_tb_in (List.mem_of_getElem? (i := 448) (by rfl)) (by decide +kernel)
theorem nV_TK_look : hm_Y ny_TK_look prog_1_method_4_code 6 (some .int) 1 := ⟨nm_TK_look, nz_TK, ⟨by decide +kernel, by decide +kernel⟩, by decide +kernel⟩
set_option maxRecDepth 20000 in
theorem nj_TK_look : Cond.instanceMethod ny_TK_look ∈ hm_tb := hm_tb_in (List.mem_of_getElem? (i := 446) (by rfl)) (by decide +kernel)
set_option maxRecDepth 20000 in
theorem nx_TK_look : Cond.selects "TurnedKeys" ny_TK_look ny_TK_look ∈ hm_tb := hm_tb_in (List.mem_of_getElem? (i := 447) (by rfl)) (by decide +kernel)
set_option maxRecDepth 20000 in
theorem nm_TK_derived : Cond.code ny_TK_derived prog_1_method_5_code 3 (some .int) ∈ hm_tb := hm_tb_in (List.mem_of_getElem? (i := 452) (by rfl)) (by decide +kernel)
theorem nV_TK_derived : hm_Y ny_TK_derived prog_1_method_5_code 3 (some .int) 1 := ⟨nm_TK_derived, nz_TK, ⟨by decide +kernel, by decide +kernel⟩, by decide +kernel⟩
set_option maxRecDepth 20000 in
theorem nj_TK_derived : Cond.instanceMethod ny_TK_derived ∈ hm_tb := hm_tb_in (List.mem_of_getElem? (i := 450) (by rfl)) (by decide +kernel)
set_option maxRecDepth 20000 in
theorem nx_TK_derived : Cond.selects "TurnedKeys" ny_TK_derived ny_TK_derived ∈ hm_tb := hm_tb_in (List.mem_of_getElem? (i := 451) (by rfl)) (by decide +kernel)
set_option maxRecDepth 20000 in
theorem nm_TS_hasDerived : Cond.code ny_TS_hasDerived prog_5_method_9_code 2 (some .boolean) ∈ hm_tb := hm_tb_in (List.mem_of_getElem? (i := 456) (by rfl)) (by decide +kernel)
theorem nV_TS_hasDerived : hm_Y ny_TS_hasDerived prog_5_method_9_code 2 (some .boolean) 1 := ⟨nm_TS_hasDerived, nz_TS, ⟨by decide +kernel, by decide +kernel⟩, by decide +kernel⟩
set_option maxRecDepth 20000 in
theorem nj_TS_hasDerived : Cond.instanceMethod ny_TS_hasDerived ∈ hm_tb := hm_tb_in (List.mem_of_getElem? (i := 454) (by rfl)) (by decide +kernel)
set_option maxRecDepth 20000 in
theorem nx_TS_hasDerived : Cond.selects "TurnedKeys$Terms" ny_TS_hasDerived ny_TS_hasDerived ∈ hm_tb := hm_tb_in (List.mem_of_getElem? (i := 455) (by rfl)) (by decide +kernel)
set_option maxRecDepth 20000 in
theorem nm_TS_settle : Cond.code ny_TS_settle prog_5_method_10_code 3 none ∈ hm_tb := hm_tb_in (List.mem_of_getElem? (i := 460) (by rfl)) (by decide +kernel)
theorem nV_TS_settle : hm_Y ny_TS_settle prog_5_method_10_code 3 none 0 := ⟨nm_TS_settle, nz_TS, ⟨by decide +kernel, by decide +kernel⟩, by decide +kernel⟩
set_option maxRecDepth 20000 in
theorem nj_TS_settle : Cond.instanceMethod ny_TS_settle ∈ hm_tb := hm_tb_in (List.mem_of_getElem? (i := 459) (by rfl)) (by decide +kernel)
set_option maxRecDepth 20000 in
theorem nm_TS_canBeMade : Cond.code ny_TS_canBeMade prog_5_method_11_code 1 (some .boolean) ∈ hm_tb := hm_tb_in (List.mem_of_getElem? (i := 465) (by rfl)) (by decide +kernel)
theorem nV_TS_canBeMade : hm_Y ny_TS_canBeMade prog_5_method_11_code 1 (some .boolean) 1 := ⟨nm_TS_canBeMade, nz_TS, ⟨by decide +kernel, by decide +kernel⟩, by decide +kernel⟩
set_option maxRecDepth 20000 in
theorem nu_TS_canBeMade : Cond.static ny_TS_canBeMade ∈ hm_tb := hm_tb_in (List.mem_of_getElem? (i := 464) (by rfl)) (by decide +kernel)
set_option maxRecDepth 20000 in
theorem nm_TS_sharedByOne : Cond.code ny_TS_sharedByOne prog_5_method_12_code 2 (some .boolean) ∈ hm_tb := hm_tb_in (List.mem_of_getElem? (i := 468) (by rfl)) (by decide +kernel)
theorem nV_TS_sharedByOne : hm_Y ny_TS_sharedByOne prog_5_method_12_code 2 (some .boolean) 2 := ⟨nm_TS_sharedByOne, nz_TS, ⟨by decide +kernel, by decide +kernel⟩, by decide +kernel⟩
set_option maxRecDepth 20000 in
theorem nu_TS_sharedByOne : Cond.static ny_TS_sharedByOne ∈ hm_tb := hm_tb_in (List.mem_of_getElem? (i := 467) (by rfl)) (by decide +kernel)
set_option maxRecDepth 20000 in
theorem nm_TS_isDerived : Cond.code ny_TS_isDerived prog_5_method_13_code 1 (some .boolean) ∈ hm_tb := hm_tb_in (List.mem_of_getElem? (i := 471) (by rfl)) (by decide +kernel)
theorem nV_TS_isDerived : hm_Y ny_TS_isDerived prog_5_method_13_code 1 (some .boolean) 1 := ⟨nm_TS_isDerived, nz_TS, ⟨by decide +kernel, by decide +kernel⟩, by decide +kernel⟩
set_option maxRecDepth 20000 in
theorem nu_TS_isDerived : Cond.static ny_TS_isDerived ∈ hm_tb := hm_tb_in (List.mem_of_getElem? (i := 470) (by rfl)) (by decide +kernel)
set_option maxRecDepth 20000 in
theorem nm_TK_oneIf : Cond.code ny_TK_oneIf prog_1_method_12_code 1 (some .int) ∈ hm_tb := hm_tb_in (List.mem_of_getElem? (i := 475) (by rfl)) (by decide +kernel)
theorem nV_TK_oneIf : hm_Y ny_TK_oneIf prog_1_method_12_code 1 (some .int) 1 := ⟨nm_TK_oneIf, nz_TK, ⟨by decide +kernel, by decide +kernel⟩, by decide +kernel⟩
set_option maxRecDepth 20000 in
theorem nu_TK_oneIf : Cond.static ny_TK_oneIf ∈ hm_tb := hm_tb_in (List.mem_of_getElem? (i := 474) (by rfl)) (by decide +kernel)
set_option maxRecDepth 20000 in
theorem nm_TK_opens : Cond.code ny_TK_opens prog_1_method_6_code 3 (some .int) ∈ hm_tb := hm_tb_in (List.mem_of_getElem? (i := 479) (by rfl)) (by decide +kernel)
theorem nV_TK_opens : hm_Y ny_TK_opens prog_1_method_6_code 3 (some .int) 1 := ⟨nm_TK_opens, nz_TK, ⟨by decide +kernel, by decide +kernel⟩, by decide +kernel⟩
set_option maxRecDepth 20000 in
theorem nj_TK_opens : Cond.instanceMethod ny_TK_opens ∈ hm_tb := hm_tb_in (List.mem_of_getElem? (i := 477) (by rfl)) (by decide +kernel)
set_option maxRecDepth 20000 in
theorem nx_TK_opens : Cond.selects "TurnedKeys" ny_TK_opens ny_TK_opens ∈ hm_tb := hm_tb_in (List.mem_of_getElem? (i := 478) (by rfl)) (by decide +kernel)
set_option maxRecDepth 20000 in
theorem nm_TK_back : Cond.code ny_TK_back prog_1_method_7_code 2 (some .int) ∈ hm_tb := hm_tb_in (List.mem_of_getElem? (i := 483) (by rfl)) (by decide +kernel)
theorem nV_TK_back : hm_Y ny_TK_back prog_1_method_7_code 2 (some .int) 1 := ⟨nm_TK_back, nz_TK, ⟨by decide +kernel, by decide +kernel⟩, by decide +kernel⟩
set_option maxRecDepth 20000 in
theorem nj_TK_back : Cond.instanceMethod ny_TK_back ∈ hm_tb := hm_tb_in (List.mem_of_getElem? (i := 481) (by rfl)) (by decide +kernel)
set_option maxRecDepth 20000 in
theorem nx_TK_back : Cond.selects "TurnedKeys" ny_TK_back ny_TK_back ∈ hm_tb := hm_tb_in (List.mem_of_getElem? (i := 482) (by rfl)) (by decide +kernel)
set_option maxRecDepth 20000 in
theorem nm_TK_replace : Cond.code ny_TK_replace prog_1_method_15_code 2 (some .int) ∈ hm_tb := hm_tb_in (List.mem_of_getElem? (i := 486) (by rfl)) (by decide +kernel)
theorem nV_TK_replace : hm_Y ny_TK_replace prog_1_method_15_code 2 (some .int) 2 := ⟨nm_TK_replace, nz_TK, ⟨by decide +kernel, by decide +kernel⟩, by decide +kernel⟩
set_option maxRecDepth 20000 in
theorem nu_TK_replace : Cond.static ny_TK_replace ∈ hm_tb := hm_tb_in (List.mem_of_getElem? (i := 485) (by rfl)) (by decide +kernel)
set_option maxRecDepth 20000 in
theorem nm_TK_keep : Cond.code ny_TK_keep prog_1_method_8_code 2 (some .int) ∈ hm_tb := hm_tb_in (List.mem_of_getElem? (i := 490) (by rfl)) (by decide +kernel)
theorem nV_TK_keep : hm_Y ny_TK_keep prog_1_method_8_code 2 (some .int) 1 := ⟨nm_TK_keep, nz_TK, ⟨by decide +kernel, by decide +kernel⟩, by decide +kernel⟩
set_option maxRecDepth 20000 in
theorem nj_TK_keep : Cond.instanceMethod ny_TK_keep ∈ hm_tb := hm_tb_in (List.mem_of_getElem? (i := 488) (by rfl)) (by decide +kernel)
set_option maxRecDepth 20000 in
theorem nx_TK_keep : Cond.selects "TurnedKeys" ny_TK_keep ny_TK_keep ∈ hm_tb := hm_tb_in (List.mem_of_getElem? (i := 489) (by rfl)) (by decide +kernel)
set_option maxRecDepth 20000 in
theorem nm_TK_end : Cond.code ny_TK_end prog_1_method_9_code 4 (some .int) ∈ hm_tb := hm_tb_in (List.mem_of_getElem? (i := 494) (by rfl)) (by decide +kernel)
theorem nV_TK_end : hm_Y ny_TK_end prog_1_method_9_code 4 (some .int) 2 := ⟨nm_TK_end, nz_TK, ⟨by decide +kernel, by decide +kernel⟩, by decide +kernel⟩
set_option maxRecDepth 20000 in
theorem nj_TK_end : Cond.instanceMethod ny_TK_end ∈ hm_tb := hm_tb_in (List.mem_of_getElem? (i := 492) (by rfl)) (by decide +kernel)
set_option maxRecDepth 20000 in
theorem nx_TK_end : Cond.selects "TurnedKeys" ny_TK_end ny_TK_end ∈ hm_tb := hm_tb_in (List.mem_of_getElem? (i := 493) (by rfl)) (by decide +kernel)
set_option maxRecDepth 20000 in
theorem nm_TK_agree : Cond.code ny_TK_agree prog_1_method_10_code 1 (some .int) ∈ hm_tb := hm_tb_in (List.mem_of_getElem? (i := 498) (by rfl)) (by decide +kernel)
theorem nV_TK_agree : hm_Y ny_TK_agree prog_1_method_10_code 1 (some .int) 0 := ⟨nm_TK_agree, nz_TK, ⟨by decide +kernel, by decide +kernel⟩, by decide +kernel⟩
set_option maxRecDepth 20000 in
theorem nj_TK_agree : Cond.instanceMethod ny_TK_agree ∈ hm_tb := hm_tb_in (List.mem_of_getElem? (i := 496) (by rfl)) (by decide +kernel)
set_option maxRecDepth 20000 in
theorem nx_TK_agree : Cond.selects "TurnedKeys" ny_TK_agree ny_TK_agree ∈ hm_tb := hm_tb_in (List.mem_of_getElem? (i := 497) (by rfl)) (by decide +kernel)
set_option maxRecDepth 20000 in
theorem nm_TK_count : Cond.code ny_TK_count prog_1_method_11_code 2 (some .int) ∈ hm_tb := hm_tb_in (List.mem_of_getElem? (i := 502) (by rfl)) (by decide +kernel)
theorem nV_TK_count : hm_Y ny_TK_count prog_1_method_11_code 2 (some .int) 1 := ⟨nm_TK_count, nz_TK, ⟨by decide +kernel, by decide +kernel⟩, by decide +kernel⟩
set_option maxRecDepth 20000 in
theorem nj_TK_count : Cond.instanceMethod ny_TK_count ∈ hm_tb := hm_tb_in (List.mem_of_getElem? (i := 500) (by rfl)) (by decide +kernel)
set_option maxRecDepth 20000 in
theorem nx_TK_count : Cond.selects "TurnedKeys" ny_TK_count ny_TK_count ∈ hm_tb := hm_tb_in (List.mem_of_getElem? (i := 501) (by rfl)) (by decide +kernel)
set_option maxRecDepth 20000 in
theorem nm_MO_init : Cond.code ny_MO_init prog_8_method_1_code 7 none ∈ hm_tb := hm_tb_in (List.mem_of_getElem? (i := 507) (by rfl)) (by decide +kernel)
theorem nV_MO_init : hm_Y ny_MO_init prog_8_method_1_code 7 none 0 := ⟨nm_MO_init, nz_MO, ⟨by decide +kernel, by decide +kernel⟩, by decide +kernel⟩
set_option maxRecDepth 20000 in
theorem nj_MO_init : Cond.instanceMethod ny_MO_init ∈ hm_tb := hm_tb_in (List.mem_of_getElem? (i := 506) (by rfl)) (by decide +kernel)
set_option maxRecDepth 20000 in
theorem nm_MO_draw : Cond.code ny_MO_draw prog_8_method_3_code 1 (some .int) ∈ hm_tb := hm_tb_in (List.mem_of_getElem? (i := 513) (by rfl)) (by decide +kernel)
theorem nV_MO_draw : hm_Y ny_MO_draw prog_8_method_3_code 1 (some .int) 0 := ⟨nm_MO_draw, nz_MO, ⟨by decide +kernel, by decide +kernel⟩, by decide +kernel⟩
set_option maxRecDepth 20000 in
theorem nj_MO_draw : Cond.instanceMethod ny_MO_draw ∈ hm_tb := hm_tb_in (List.mem_of_getElem? (i := 512) (by rfl)) (by decide +kernel)
set_option maxRecDepth 20000 in
theorem nm_MO_term : Cond.code ny_MO_term prog_8_method_2_code 8 (some .int) ∈ hm_tb := hm_tb_in (List.mem_of_getElem? (i := 517) (by rfl)) (by decide +kernel)
theorem nV_MO_term : hm_Y ny_MO_term prog_8_method_2_code 8 (some .int) 4 := ⟨nm_MO_term, nz_MO, ⟨by decide +kernel, by decide +kernel⟩, by decide +kernel⟩
set_option maxRecDepth 20000 in
theorem nj_MO_term : Cond.instanceMethod ny_MO_term ∈ hm_tb := hm_tb_in (List.mem_of_getElem? (i := 516) (by rfl)) (by decide +kernel)
set_option maxRecDepth 20000 in
theorem nm_MO_publicOf : Cond.code ny_MO_publicOf prog_8_method_4_code 2 (some .int) ∈ hm_tb := hm_tb_in (List.mem_of_getElem? (i := 525) (by rfl)) (by decide +kernel)
theorem nV_MO_publicOf : hm_Y ny_MO_publicOf prog_8_method_4_code 2 (some .int) 1 := ⟨nm_MO_publicOf, nz_MO, ⟨by decide +kernel, by decide +kernel⟩, by decide +kernel⟩
set_option maxRecDepth 20000 in
theorem nj_MO_publicOf : Cond.instanceMethod ny_MO_publicOf ∈ hm_tb := hm_tb_in (List.mem_of_getElem? (i := 524) (by rfl)) (by decide +kernel)
set_option maxRecDepth 20000 in
theorem nm_MO_shared : Cond.code ny_MO_shared prog_8_method_5_code 3 (some .int) ∈ hm_tb := hm_tb_in (List.mem_of_getElem? (i := 529) (by rfl)) (by decide +kernel)
theorem nV_MO_shared : hm_Y ny_MO_shared prog_8_method_5_code 3 (some .int) 2 := ⟨nm_MO_shared, nz_MO, ⟨by decide +kernel, by decide +kernel⟩, by decide +kernel⟩
set_option maxRecDepth 20000 in
theorem nj_MO_shared : Cond.instanceMethod ny_MO_shared ∈ hm_tb := hm_tb_in (List.mem_of_getElem? (i := 528) (by rfl)) (by decide +kernel)
set_option maxRecDepth 20000 in
theorem nm_MO_mix : Cond.code ny_MO_mix prog_8_method_6_code 4 (some .int) ∈ hm_tb := hm_tb_in (List.mem_of_getElem? (i := 533) (by rfl)) (by decide +kernel)
theorem nV_MO_mix : hm_Y ny_MO_mix prog_8_method_6_code 4 (some .int) 3 := ⟨nm_MO_mix, nz_MO, ⟨by decide +kernel, by decide +kernel⟩, by decide +kernel⟩
set_option maxRecDepth 20000 in
theorem nj_MO_mix : Cond.instanceMethod ny_MO_mix ∈ hm_tb := hm_tb_in (List.mem_of_getElem? (i := 532) (by rfl)) (by decide +kernel)
set_option maxRecDepth 20000 in
theorem nm_MO_send : Cond.code ny_MO_send prog_8_method_17_code 4 (some .int) ∈ hm_tb := hm_tb_in (List.mem_of_getElem? (i := 610) (by rfl)) (by decide +kernel)
theorem nV_MO_send : hm_Y ny_MO_send prog_8_method_17_code 4 (some .int) 1 := ⟨nm_MO_send, nz_MO, ⟨by decide +kernel, by decide +kernel⟩, by decide +kernel⟩
set_option maxRecDepth 20000 in
theorem nj_MO_send : Cond.instanceMethod ny_MO_send ∈ hm_tb := hm_tb_in (List.mem_of_getElem? (i := 608) (by rfl)) (by decide +kernel)
set_option maxRecDepth 20000 in
theorem nx_MO_send : Cond.selects "TurnedKeysModel" ny_MO_send ny_MO_send ∈ hm_tb := hm_tb_in (List.mem_of_getElem? (i := 609) (by rfl)) (by decide +kernel)
set_option maxRecDepth 20000 in
theorem nm_MO_isEnd : Cond.code ny_MO_isEnd prog_8_method_14_code 1 (some .boolean) ∈ hm_tb := hm_tb_in (List.mem_of_getElem? (i := 613) (by rfl)) (by decide +kernel)
theorem nV_MO_isEnd : hm_Y ny_MO_isEnd prog_8_method_14_code 1 (some .boolean) 1 := ⟨nm_MO_isEnd, nz_MO, ⟨by decide +kernel, by decide +kernel⟩, by decide +kernel⟩
set_option maxRecDepth 20000 in
theorem nu_MO_isEnd : Cond.static ny_MO_isEnd ∈ hm_tb := hm_tb_in (List.mem_of_getElem? (i := 612) (by rfl)) (by decide +kernel)
set_option maxRecDepth 20000 in
theorem nm_MO_load : Cond.code ny_MO_load prog_8_method_15_code 3 none ∈ hm_tb := hm_tb_in (List.mem_of_getElem? (i := 617) (by rfl)) (by decide +kernel)
theorem nV_MO_load : hm_Y ny_MO_load prog_8_method_15_code 3 none 1 := ⟨nm_MO_load, nz_MO, ⟨by decide +kernel, by decide +kernel⟩, by decide +kernel⟩
set_option maxRecDepth 20000 in
theorem nj_MO_load : Cond.instanceMethod ny_MO_load ∈ hm_tb := hm_tb_in (List.mem_of_getElem? (i := 616) (by rfl)) (by decide +kernel)
set_option maxRecDepth 20000 in
theorem nm_MO_headLike : Cond.code ny_MO_headLike prog_8_method_18_code 3 (some .int) ∈ hm_tb := hm_tb_in (List.mem_of_getElem? (i := 621) (by rfl)) (by decide +kernel)
theorem nV_MO_headLike : hm_Y ny_MO_headLike prog_8_method_18_code 3 (some .int) 1 := ⟨nm_MO_headLike, nz_MO, ⟨by decide +kernel, by decide +kernel⟩, by decide +kernel⟩
set_option maxRecDepth 20000 in
theorem nj_MO_headLike : Cond.instanceMethod ny_MO_headLike ∈ hm_tb := hm_tb_in (List.mem_of_getElem? (i := 620) (by rfl)) (by decide +kernel)
set_option maxRecDepth 20000 in
theorem nm_MO_give : Cond.code ny_MO_give prog_8_method_7_code 2 none ∈ hm_tb := hm_tb_in (List.mem_of_getElem? (i := 625) (by rfl)) (by decide +kernel)
theorem nV_MO_give : hm_Y ny_MO_give prog_8_method_7_code 2 none 1 := ⟨nm_MO_give, nz_MO, ⟨by decide +kernel, by decide +kernel⟩, by decide +kernel⟩
set_option maxRecDepth 20000 in
theorem nj_MO_give : Cond.instanceMethod ny_MO_give ∈ hm_tb := hm_tb_in (List.mem_of_getElem? (i := 624) (by rfl)) (by decide +kernel)
set_option maxRecDepth 20000 in
theorem nm_MO_store : Cond.code ny_MO_store prog_8_method_16_code 3 none ∈ hm_tb := hm_tb_in (List.mem_of_getElem? (i := 629) (by rfl)) (by decide +kernel)
theorem nV_MO_store : hm_Y ny_MO_store prog_8_method_16_code 3 none 1 := ⟨nm_MO_store, nz_MO, ⟨by decide +kernel, by decide +kernel⟩, by decide +kernel⟩
set_option maxRecDepth 20000 in
theorem nj_MO_store : Cond.instanceMethod ny_MO_store ∈ hm_tb := hm_tb_in (List.mem_of_getElem? (i := 628) (by rfl)) (by decide +kernel)
set_option maxRecDepth 20000 in
theorem nm_MO_take : Cond.code ny_MO_take prog_8_method_23_code 4 (some .int) ∈ hm_tb := hm_tb_in (List.mem_of_getElem? (i := 633) (by rfl)) (by decide +kernel)
theorem nV_MO_take : hm_Y ny_MO_take prog_8_method_23_code 4 (some .int) 2 := ⟨nm_MO_take, nz_MO, ⟨by decide +kernel, by decide +kernel⟩, by decide +kernel⟩
set_option maxRecDepth 20000 in
theorem nj_MO_take : Cond.instanceMethod ny_MO_take ∈ hm_tb := hm_tb_in (List.mem_of_getElem? (i := 631) (by rfl)) (by decide +kernel)
set_option maxRecDepth 20000 in
theorem nx_MO_take : Cond.selects "TurnedKeysModel" ny_MO_take ny_MO_take ∈ hm_tb := hm_tb_in (List.mem_of_getElem? (i := 632) (by rfl)) (by decide +kernel)
set_option maxRecDepth 20000 in
theorem nm_MO_keyFor : Cond.code ny_MO_keyFor prog_8_method_22_code 7 (some .int) ∈ hm_tb := hm_tb_in (List.mem_of_getElem? (i := 637) (by rfl)) (by decide +kernel)
theorem nV_MO_keyFor : hm_Y ny_MO_keyFor prog_8_method_22_code 7 (some .int) 3 := ⟨nm_MO_keyFor, nz_MO, ⟨by decide +kernel, by decide +kernel⟩, by decide +kernel⟩
set_option maxRecDepth 20000 in
theorem nj_MO_keyFor : Cond.instanceMethod ny_MO_keyFor ∈ hm_tb := hm_tb_in (List.mem_of_getElem? (i := 636) (by rfl)) (by decide +kernel)
set_option maxRecDepth 20000 in
theorem nm_MO_dropLeft : Cond.code ny_MO_dropLeft prog_8_method_21_code 3 none ∈ hm_tb := hm_tb_in (List.mem_of_getElem? (i := 641) (by rfl)) (by decide +kernel)
theorem nV_MO_dropLeft : hm_Y ny_MO_dropLeft prog_8_method_21_code 3 none 1 := ⟨nm_MO_dropLeft, nz_MO, ⟨by decide +kernel, by decide +kernel⟩, by decide +kernel⟩
set_option maxRecDepth 20000 in
theorem nj_MO_dropLeft : Cond.instanceMethod ny_MO_dropLeft ∈ hm_tb := hm_tb_in (List.mem_of_getElem? (i := 640) (by rfl)) (by decide +kernel)
set_option maxRecDepth 20000 in
theorem nm_MO_skip : Cond.code ny_MO_skip prog_8_method_20_code 3 (some .boolean) ∈ hm_tb := hm_tb_in (List.mem_of_getElem? (i := 645) (by rfl)) (by decide +kernel)
theorem nV_MO_skip : hm_Y ny_MO_skip prog_8_method_20_code 3 (some .boolean) 1 := ⟨nm_MO_skip, nz_MO, ⟨by decide +kernel, by decide +kernel⟩, by decide +kernel⟩
set_option maxRecDepth 20000 in
theorem nj_MO_skip : Cond.instanceMethod ny_MO_skip ∈ hm_tb := hm_tb_in (List.mem_of_getElem? (i := 644) (by rfl)) (by decide +kernel)
set_option maxRecDepth 20000 in
theorem nm_MO_stepOn : Cond.code ny_MO_stepOn prog_8_method_19_code 1 none ∈ hm_tb := hm_tb_in (List.mem_of_getElem? (i := 649) (by rfl)) (by decide +kernel)
theorem nV_MO_stepOn : hm_Y ny_MO_stepOn prog_8_method_19_code 1 none 0 := ⟨nm_MO_stepOn, nz_MO, ⟨by decide +kernel, by decide +kernel⟩, by decide +kernel⟩
set_option maxRecDepth 20000 in
theorem nj_MO_stepOn : Cond.instanceMethod ny_MO_stepOn ∈ hm_tb := hm_tb_in (List.mem_of_getElem? (i := 648) (by rfl)) (by decide +kernel)
set_option maxRecDepth 20000 in
theorem nm_MO_look : Cond.code ny_MO_look prog_8_method_25_code 3 (some .int) ∈ hm_tb := hm_tb_in (List.mem_of_getElem? (i := 653) (by rfl)) (by decide +kernel)
theorem nV_MO_look : hm_Y ny_MO_look prog_8_method_25_code 3 (some .int) 1 := ⟨nm_MO_look, nz_MO, ⟨by decide +kernel, by decide +kernel⟩, by decide +kernel⟩
set_option maxRecDepth 20000 in
theorem nj_MO_look : Cond.instanceMethod ny_MO_look ∈ hm_tb := hm_tb_in (List.mem_of_getElem? (i := 651) (by rfl)) (by decide +kernel)
set_option maxRecDepth 20000 in
theorem nx_MO_look : Cond.selects "TurnedKeysModel" ny_MO_look ny_MO_look ∈ hm_tb := hm_tb_in (List.mem_of_getElem? (i := 652) (by rfl)) (by decide +kernel)
set_option maxRecDepth 20000 in
theorem nm_MO_shown : Cond.code ny_MO_shown prog_8_method_24_code 2 none ∈ hm_tb := hm_tb_in (List.mem_of_getElem? (i := 657) (by rfl)) (by decide +kernel)
theorem nV_MO_shown : hm_Y ny_MO_shown prog_8_method_24_code 2 none 1 := ⟨nm_MO_shown, nz_MO, ⟨by decide +kernel, by decide +kernel⟩, by decide +kernel⟩
set_option maxRecDepth 20000 in
theorem nj_MO_shown : Cond.instanceMethod ny_MO_shown ∈ hm_tb := hm_tb_in (List.mem_of_getElem? (i := 656) (by rfl)) (by decide +kernel)
set_option maxRecDepth 20000 in
theorem nm_MO_derived : Cond.code ny_MO_derived prog_8_method_26_code 2 (some .int) ∈ hm_tb := hm_tb_in (List.mem_of_getElem? (i := 661) (by rfl)) (by decide +kernel)
theorem nV_MO_derived : hm_Y ny_MO_derived prog_8_method_26_code 2 (some .int) 1 := ⟨nm_MO_derived, nz_MO, ⟨by decide +kernel, by decide +kernel⟩, by decide +kernel⟩
set_option maxRecDepth 20000 in
theorem nj_MO_derived : Cond.instanceMethod ny_MO_derived ∈ hm_tb := hm_tb_in (List.mem_of_getElem? (i := 659) (by rfl)) (by decide +kernel)
set_option maxRecDepth 20000 in
theorem nx_MO_derived : Cond.selects "TurnedKeysModel" ny_MO_derived ny_MO_derived ∈ hm_tb := hm_tb_in (List.mem_of_getElem? (i := 660) (by rfl)) (by decide +kernel)
set_option maxRecDepth 20000 in
theorem nm_MO_derive : Cond.code ny_MO_derive prog_8_method_13_code 3 none ∈ hm_tb := hm_tb_in (List.mem_of_getElem? (i := 665) (by rfl)) (by decide +kernel)
theorem nV_MO_derive : hm_Y ny_MO_derive prog_8_method_13_code 3 none 0 := ⟨nm_MO_derive, nz_MO, ⟨by decide +kernel, by decide +kernel⟩, by decide +kernel⟩
set_option maxRecDepth 20000 in
theorem nj_MO_derive : Cond.instanceMethod ny_MO_derive ∈ hm_tb := hm_tb_in (List.mem_of_getElem? (i := 664) (by rfl)) (by decide +kernel)
set_option maxRecDepth 20000 in
theorem nm_MO_canMake : Cond.code ny_MO_canMake prog_8_method_10_code 2 (some .boolean) ∈ hm_tb := hm_tb_in (List.mem_of_getElem? (i := 669) (by rfl)) (by decide +kernel)
theorem nV_MO_canMake : hm_Y ny_MO_canMake prog_8_method_10_code 2 (some .boolean) 1 := ⟨nm_MO_canMake, nz_MO, ⟨by decide +kernel, by decide +kernel⟩, by decide +kernel⟩
set_option maxRecDepth 20000 in
theorem nj_MO_canMake : Cond.instanceMethod ny_MO_canMake ∈ hm_tb := hm_tb_in (List.mem_of_getElem? (i := 668) (by rfl)) (by decide +kernel)
set_option maxRecDepth 20000 in
theorem nm_MO_shows : Cond.code ny_MO_shows prog_8_method_9_code 2 (some .boolean) ∈ hm_tb := hm_tb_in (List.mem_of_getElem? (i := 673) (by rfl)) (by decide +kernel)
theorem nV_MO_shows : hm_Y ny_MO_shows prog_8_method_9_code 2 (some .boolean) 1 := ⟨nm_MO_shows, nz_MO, ⟨by decide +kernel, by decide +kernel⟩, by decide +kernel⟩
set_option maxRecDepth 20000 in
theorem nj_MO_shows : Cond.instanceMethod ny_MO_shows ∈ hm_tb := hm_tb_in (List.mem_of_getElem? (i := 672) (by rfl)) (by decide +kernel)
set_option maxRecDepth 20000 in
theorem nm_MO_has : Cond.code ny_MO_has prog_8_method_8_code 2 (some .boolean) ∈ hm_tb := hm_tb_in (List.mem_of_getElem? (i := 677) (by rfl)) (by decide +kernel)
theorem nV_MO_has : hm_Y ny_MO_has prog_8_method_8_code 2 (some .boolean) 1 := ⟨nm_MO_has, nz_MO, ⟨by decide +kernel, by decide +kernel⟩, by decide +kernel⟩
set_option maxRecDepth 20000 in
theorem nj_MO_has : Cond.instanceMethod ny_MO_has ∈ hm_tb := hm_tb_in (List.mem_of_getElem? (i := 676) (by rfl)) (by decide +kernel)
set_option maxRecDepth 20000 in
theorem nm_MO_learn : Cond.code ny_MO_learn prog_8_method_11_code 2 (some .boolean) ∈ hm_tb := hm_tb_in (List.mem_of_getElem? (i := 681) (by rfl)) (by decide +kernel)
theorem nV_MO_learn : hm_Y ny_MO_learn prog_8_method_11_code 2 (some .boolean) 1 := ⟨nm_MO_learn, nz_MO, ⟨by decide +kernel, by decide +kernel⟩, by decide +kernel⟩
set_option maxRecDepth 20000 in
theorem nj_MO_learn : Cond.instanceMethod ny_MO_learn ∈ hm_tb := hm_tb_in (List.mem_of_getElem? (i := 680) (by rfl)) (by decide +kernel)
set_option maxRecDepth 20000 in
theorem nm_MO_open : Cond.code ny_MO_open prog_8_method_12_code 3 (some .boolean) ∈ hm_tb := hm_tb_in (List.mem_of_getElem? (i := 685) (by rfl)) (by decide +kernel)
theorem nV_MO_open : hm_Y ny_MO_open prog_8_method_12_code 3 (some .boolean) 1 := ⟨nm_MO_open, nz_MO, ⟨by decide +kernel, by decide +kernel⟩, by decide +kernel⟩
set_option maxRecDepth 20000 in
theorem nj_MO_open : Cond.instanceMethod ny_MO_open ∈ hm_tb := hm_tb_in (List.mem_of_getElem? (i := 684) (by rfl)) (by decide +kernel)
set_option maxRecDepth 20000 in
theorem nm_MO_opens : Cond.code ny_MO_opens prog_8_method_27_code 2 (some .int) ∈ hm_tb := hm_tb_in (List.mem_of_getElem? (i := 689) (by rfl)) (by decide +kernel)
theorem nV_MO_opens : hm_Y ny_MO_opens prog_8_method_27_code 2 (some .int) 1 := ⟨nm_MO_opens, nz_MO, ⟨by decide +kernel, by decide +kernel⟩, by decide +kernel⟩
set_option maxRecDepth 20000 in
theorem nj_MO_opens : Cond.instanceMethod ny_MO_opens ∈ hm_tb := hm_tb_in (List.mem_of_getElem? (i := 687) (by rfl)) (by decide +kernel)
set_option maxRecDepth 20000 in
theorem nx_MO_opens : Cond.selects "TurnedKeysModel" ny_MO_opens ny_MO_opens ∈ hm_tb := hm_tb_in (List.mem_of_getElem? (i := 688) (by rfl)) (by decide +kernel)
set_option maxRecDepth 20000 in
theorem nm_MO_back : Cond.code ny_MO_back prog_8_method_28_code 3 (some .int) ∈ hm_tb := hm_tb_in (List.mem_of_getElem? (i := 693) (by rfl)) (by decide +kernel)
theorem nV_MO_back : hm_Y ny_MO_back prog_8_method_28_code 3 (some .int) 1 := ⟨nm_MO_back, nz_MO, ⟨by decide +kernel, by decide +kernel⟩, by decide +kernel⟩
set_option maxRecDepth 20000 in
theorem nj_MO_back : Cond.instanceMethod ny_MO_back ∈ hm_tb := hm_tb_in (List.mem_of_getElem? (i := 691) (by rfl)) (by decide +kernel)
set_option maxRecDepth 20000 in
theorem nx_MO_back : Cond.selects "TurnedKeysModel" ny_MO_back ny_MO_back ∈ hm_tb := hm_tb_in (List.mem_of_getElem? (i := 692) (by rfl)) (by decide +kernel)
set_option maxRecDepth 20000 in
theorem nm_MO_keep : Cond.code ny_MO_keep prog_8_method_29_code 3 (some .int) ∈ hm_tb := hm_tb_in (List.mem_of_getElem? (i := 697) (by rfl)) (by decide +kernel)
theorem nV_MO_keep : hm_Y ny_MO_keep prog_8_method_29_code 3 (some .int) 1 := ⟨nm_MO_keep, nz_MO, ⟨by decide +kernel, by decide +kernel⟩, by decide +kernel⟩
set_option maxRecDepth 20000 in
theorem nj_MO_keep : Cond.instanceMethod ny_MO_keep ∈ hm_tb := hm_tb_in (List.mem_of_getElem? (i := 695) (by rfl)) (by decide +kernel)
set_option maxRecDepth 20000 in
theorem nx_MO_keep : Cond.selects "TurnedKeysModel" ny_MO_keep ny_MO_keep ∈ hm_tb := hm_tb_in (List.mem_of_getElem? (i := 696) (by rfl)) (by decide +kernel)
set_option maxRecDepth 20000 in
theorem nm_MO_end : Cond.code ny_MO_end prog_8_method_30_code 3 (some .int) ∈ hm_tb := hm_tb_in (List.mem_of_getElem? (i := 701) (by rfl)) (by decide +kernel)
theorem nV_MO_end : hm_Y ny_MO_end prog_8_method_30_code 3 (some .int) 2 := ⟨nm_MO_end, nz_MO, ⟨by decide +kernel, by decide +kernel⟩, by decide +kernel⟩
set_option maxRecDepth 20000 in
theorem nj_MO_end : Cond.instanceMethod ny_MO_end ∈ hm_tb := hm_tb_in (List.mem_of_getElem? (i := 699) (by rfl)) (by decide +kernel)
set_option maxRecDepth 20000 in
theorem nx_MO_end : Cond.selects "TurnedKeysModel" ny_MO_end ny_MO_end ∈ hm_tb := hm_tb_in (List.mem_of_getElem? (i := 700) (by rfl)) (by decide +kernel)
set_option maxRecDepth 20000 in
theorem nm_MO_agree : Cond.code ny_MO_agree prog_8_method_31_code 1 (some .int) ∈ hm_tb := hm_tb_in (List.mem_of_getElem? (i := 705) (by rfl)) (by decide +kernel)
theorem nV_MO_agree : hm_Y ny_MO_agree prog_8_method_31_code 1 (some .int) 0 := ⟨nm_MO_agree, nz_MO, ⟨by decide +kernel, by decide +kernel⟩, by decide +kernel⟩
set_option maxRecDepth 20000 in
theorem nj_MO_agree : Cond.instanceMethod ny_MO_agree ∈ hm_tb := hm_tb_in (List.mem_of_getElem? (i := 703) (by rfl)) (by decide +kernel)
set_option maxRecDepth 20000 in
theorem nx_MO_agree : Cond.selects "TurnedKeysModel" ny_MO_agree ny_MO_agree ∈ hm_tb := hm_tb_in (List.mem_of_getElem? (i := 704) (by rfl)) (by decide +kernel)
set_option maxRecDepth 20000 in
theorem nm_MO_count : Cond.code ny_MO_count prog_8_method_32_code 2 (some .int) ∈ hm_tb := hm_tb_in (List.mem_of_getElem? (i := 709) (by rfl)) (by decide +kernel)
theorem nV_MO_count : hm_Y ny_MO_count prog_8_method_32_code 2 (some .int) 1 := ⟨nm_MO_count, nz_MO, ⟨by decide +kernel, by decide +kernel⟩, by decide +kernel⟩
set_option maxRecDepth 20000 in
theorem nj_MO_count : Cond.instanceMethod ny_MO_count ∈ hm_tb := hm_tb_in (List.mem_of_getElem? (i := 707) (by rfl)) (by decide +kernel)
set_option maxRecDepth 20000 in
theorem nx_MO_count : Cond.selects "TurnedKeysModel" ny_MO_count ny_MO_count ∈ hm_tb := hm_tb_in (List.mem_of_getElem? (i := 708) (by rfl)) (by decide +kernel)
set_option maxRecDepth 20000 in
theorem nx_TS_added : Cond.selects "TurnedKeys$Terms" ny_TS_added ny_TS_added ∈ hm_tb := hm_tb_in (List.mem_of_getElem? (i := 0) (by rfl)) (by decide +kernel)
set_option maxRecDepth 20000 in
theorem nx_AL_add2 : Cond.selects "java/util/ArrayList" ny_AL_add2 ny_AL_add2 ∈ hm_tb := hm_tb_in (List.mem_of_getElem? (i := 1) (by rfl)) (by decide +kernel)
set_option maxRecDepth 20000 in
theorem nx_AL_grow : Cond.selects "java/util/ArrayList" ny_AL_grow ny_AL_grow ∈ hm_tb := hm_tb_in (List.mem_of_getElem? (i := 2) (by rfl)) (by decide +kernel)
set_option maxRecDepth 20000 in
theorem nx_AL_grow2 : Cond.selects "java/util/ArrayList" ny_AL_grow2 ny_AL_grow2 ∈ hm_tb := hm_tb_in (List.mem_of_getElem? (i := 3) (by rfl)) (by decide +kernel)
set_option maxRecDepth 20000 in
theorem nx_TK_mayMakeMore : Cond.selects "TurnedKeys" ny_TK_mayMakeMore ny_TK_mayMakeMore ∈ hm_tb := hm_tb_in (List.mem_of_getElem? (i := 4) (by rfl)) (by decide +kernel)
set_option maxRecDepth 20000 in
theorem nx_TK_giveWire : Cond.selects "TurnedKeys" ny_TK_giveWire ny_TK_giveWire ∈ hm_tb := hm_tb_in (List.mem_of_getElem? (i := 5) (by rfl)) (by decide +kernel)
set_option maxRecDepth 20000 in
theorem nx_TK_wireAt : Cond.selects "TurnedKeys" ny_TK_wireAt ny_TK_wireAt ∈ hm_tb := hm_tb_in (List.mem_of_getElem? (i := 6) (by rfl)) (by decide +kernel)
set_option maxRecDepth 20000 in
theorem nx_EN_pulledLeftKey : Cond.selects "TurnedKeys$End" ny_EN_pulledLeftKey ny_EN_pulledLeftKey ∈ hm_tb := hm_tb_in (List.mem_of_getElem? (i := 7) (by rfl)) (by decide +kernel)
set_option maxRecDepth 20000 in
theorem nx_EN_dropLeftKey : Cond.selects "TurnedKeys$End" ny_EN_dropLeftKey ny_EN_dropLeftKey ∈ hm_tb := hm_tb_in (List.mem_of_getElem? (i := 8) (by rfl)) (by decide +kernel)
set_option maxRecDepth 20000 in
theorem nx_EN_skipsTo : Cond.selects "TurnedKeys$End" ny_EN_skipsTo ny_EN_skipsTo ∈ hm_tb := hm_tb_in (List.mem_of_getElem? (i := 9) (by rfl)) (by decide +kernel)
set_option maxRecDepth 20000 in
theorem nx_EN_steppedKey : Cond.selects "TurnedKeys$End" ny_EN_steppedKey ny_EN_steppedKey ∈ hm_tb := hm_tb_in (List.mem_of_getElem? (i := 10) (by rfl)) (by decide +kernel)
set_option maxRecDepth 20000 in
theorem nx_EN_leave : Cond.selects "TurnedKeys$End" ny_EN_leave ny_EN_leave ∈ hm_tb := hm_tb_in (List.mem_of_getElem? (i := 11) (by rfl)) (by decide +kernel)
set_option maxRecDepth 20000 in
theorem nx_EN_turnReceiving : Cond.selects "TurnedKeys$End" ny_EN_turnReceiving ny_EN_turnReceiving ∈ hm_tb := hm_tb_in (List.mem_of_getElem? (i := 12) (by rfl)) (by decide +kernel)
set_option maxRecDepth 20000 in
theorem nx_TS_settle : Cond.selects "TurnedKeys$Terms" ny_TS_settle ny_TS_settle ∈ hm_tb := hm_tb_in (List.mem_of_getElem? (i := 13) (by rfl)) (by decide +kernel)
set_option maxRecDepth 20000 in
theorem nx_MO_draw : Cond.selects "TurnedKeysModel" ny_MO_draw ny_MO_draw ∈ hm_tb := hm_tb_in (List.mem_of_getElem? (i := 14) (by rfl)) (by decide +kernel)
set_option maxRecDepth 20000 in
theorem nx_MO_term : Cond.selects "TurnedKeysModel" ny_MO_term ny_MO_term ∈ hm_tb := hm_tb_in (List.mem_of_getElem? (i := 15) (by rfl)) (by decide +kernel)
set_option maxRecDepth 20000 in
theorem nx_MO_publicOf : Cond.selects "TurnedKeysModel" ny_MO_publicOf ny_MO_publicOf ∈ hm_tb := hm_tb_in (List.mem_of_getElem? (i := 16) (by rfl)) (by decide +kernel)
set_option maxRecDepth 20000 in
theorem nx_MO_shared : Cond.selects "TurnedKeysModel" ny_MO_shared ny_MO_shared ∈ hm_tb := hm_tb_in (List.mem_of_getElem? (i := 17) (by rfl)) (by decide +kernel)
set_option maxRecDepth 20000 in
theorem nx_MO_mix : Cond.selects "TurnedKeysModel" ny_MO_mix ny_MO_mix ∈ hm_tb := hm_tb_in (List.mem_of_getElem? (i := 18) (by rfl)) (by decide +kernel)
set_option maxRecDepth 20000 in
theorem nx_MO_load : Cond.selects "TurnedKeysModel" ny_MO_load ny_MO_load ∈ hm_tb := hm_tb_in (List.mem_of_getElem? (i := 19) (by rfl)) (by decide +kernel)
set_option maxRecDepth 20000 in
theorem nx_MO_headLike : Cond.selects "TurnedKeysModel" ny_MO_headLike ny_MO_headLike ∈ hm_tb := hm_tb_in (List.mem_of_getElem? (i := 20) (by rfl)) (by decide +kernel)
set_option maxRecDepth 20000 in
theorem nx_MO_give : Cond.selects "TurnedKeysModel" ny_MO_give ny_MO_give ∈ hm_tb := hm_tb_in (List.mem_of_getElem? (i := 21) (by rfl)) (by decide +kernel)
set_option maxRecDepth 20000 in
theorem nx_MO_store : Cond.selects "TurnedKeysModel" ny_MO_store ny_MO_store ∈ hm_tb := hm_tb_in (List.mem_of_getElem? (i := 22) (by rfl)) (by decide +kernel)
set_option maxRecDepth 20000 in
theorem nx_MO_keyFor : Cond.selects "TurnedKeysModel" ny_MO_keyFor ny_MO_keyFor ∈ hm_tb := hm_tb_in (List.mem_of_getElem? (i := 23) (by rfl)) (by decide +kernel)
set_option maxRecDepth 20000 in
theorem nx_MO_dropLeft : Cond.selects "TurnedKeysModel" ny_MO_dropLeft ny_MO_dropLeft ∈ hm_tb := hm_tb_in (List.mem_of_getElem? (i := 24) (by rfl)) (by decide +kernel)
set_option maxRecDepth 20000 in
theorem nx_MO_skip : Cond.selects "TurnedKeysModel" ny_MO_skip ny_MO_skip ∈ hm_tb := hm_tb_in (List.mem_of_getElem? (i := 25) (by rfl)) (by decide +kernel)
set_option maxRecDepth 20000 in
theorem nx_MO_stepOn : Cond.selects "TurnedKeysModel" ny_MO_stepOn ny_MO_stepOn ∈ hm_tb := hm_tb_in (List.mem_of_getElem? (i := 26) (by rfl)) (by decide +kernel)
set_option maxRecDepth 20000 in
theorem nx_MO_shown : Cond.selects "TurnedKeysModel" ny_MO_shown ny_MO_shown ∈ hm_tb := hm_tb_in (List.mem_of_getElem? (i := 27) (by rfl)) (by decide +kernel)
set_option maxRecDepth 20000 in
theorem nx_MO_derive : Cond.selects "TurnedKeysModel" ny_MO_derive ny_MO_derive ∈ hm_tb := hm_tb_in (List.mem_of_getElem? (i := 28) (by rfl)) (by decide +kernel)
set_option maxRecDepth 20000 in
theorem nx_MO_canMake : Cond.selects "TurnedKeysModel" ny_MO_canMake ny_MO_canMake ∈ hm_tb := hm_tb_in (List.mem_of_getElem? (i := 29) (by rfl)) (by decide +kernel)
set_option maxRecDepth 20000 in
theorem nx_MO_shows : Cond.selects "TurnedKeysModel" ny_MO_shows ny_MO_shows ∈ hm_tb := hm_tb_in (List.mem_of_getElem? (i := 30) (by rfl)) (by decide +kernel)
set_option maxRecDepth 20000 in
theorem nx_MO_has : Cond.selects "TurnedKeysModel" ny_MO_has ny_MO_has ∈ hm_tb := hm_tb_in (List.mem_of_getElem? (i := 31) (by rfl)) (by decide +kernel)
set_option maxRecDepth 20000 in
theorem nx_MO_learn : Cond.selects "TurnedKeysModel" ny_MO_learn ny_MO_learn ∈ hm_tb := hm_tb_in (List.mem_of_getElem? (i := 32) (by rfl)) (by decide +kernel)
set_option maxRecDepth 20000 in
theorem nx_MO_open : Cond.selects "TurnedKeysModel" ny_MO_open ny_MO_open ∈ hm_tb := hm_tb_in (List.mem_of_getElem? (i := 33) (by rfl)) (by decide +kernel)
set_option maxRecDepth 20000 in
theorem nq_LA_9 : Cond.methodLink "TurnedKeysLaw" 9 ny_TK_init ∈ hm_tb := hm_tb_in (List.mem_of_getElem? (i := 53) (by rfl)) (by decide +kernel)
set_option maxRecDepth 20000 in
theorem nq_TK_1 : Cond.methodLink "TurnedKeys" 1 objectInit ∈ hm_tb := hm_tb_in (List.mem_of_getElem? (i := 56) (by rfl)) (by decide +kernel)
set_option maxRecDepth 20000 in
theorem nq_TK_9 : Cond.methodLinkNest "TurnedKeys" 9 ny_TS_init "TurnedKeys" ∈ lw_tbl := List.mem_of_getElem? (i := 61) (by rfl)
set_option maxRecDepth 20000 in
theorem nq_TS_3 : Cond.methodLink "TurnedKeys$Terms" 3 objectInit ∈ hm_tb := hm_tb_in (List.mem_of_getElem? (i := 64) (by rfl)) (by decide +kernel)
set_option maxRecDepth 20000 in
theorem nq_TS_11 : Cond.methodLink "TurnedKeys$Terms" 11 ny_AL_init ∈ hm_tb := hm_tb_in (List.mem_of_getElem? (i := 67) (by rfl)) (by decide +kernel)
set_option maxRecDepth 20000 in
theorem nq_AL_1 : Cond.methodLink "java/util/ArrayList" 1 ny_AB_init ∈ hm_tb := hm_tb_in (List.mem_of_getElem? (i := 70) (by rfl)) (by decide +kernel)
set_option maxRecDepth 20000 in
theorem nq_AB_1 : Cond.methodLink "java/util/AbstractList" 1 ny_AC_init ∈ hm_tb := hm_tb_in (List.mem_of_getElem? (i := 73) (by rfl)) (by decide +kernel)
set_option maxRecDepth 20000 in
theorem nq_AC_1 : Cond.methodLink "java/util/AbstractCollection" 1 objectInit ∈ hm_tb := hm_tb_in (List.mem_of_getElem? (i := 76) (by rfl)) (by decide +kernel)
set_option maxRecDepth 20000 in
theorem nq_TK_16 : Cond.methodLink "TurnedKeys" 16 ny_TS_draw ∈ hm_tb := hm_tb_in (List.mem_of_getElem? (i := 102) (by rfl)) (by decide +kernel)
set_option maxRecDepth 20000 in
theorem nq_TS_22 : Cond.methodLink "TurnedKeys$Terms" 22 ny_TS_added ∈ hm_tb := hm_tb_in (List.mem_of_getElem? (i := 106) (by rfl)) (by decide +kernel)
set_option maxRecDepth 20000 in
theorem nq_TS_62 : Cond.methodLink "TurnedKeys$Terms" 62 ny_AL_size ∈ hm_tb := hm_tb_in (List.mem_of_getElem? (i := 112) (by rfl)) (by decide +kernel)
set_option maxRecDepth 20000 in
theorem nq_TS_66 : Cond.methodLink "TurnedKeys$Terms" 66 ny_TE_init ∈ hm_tb := hm_tb_in (List.mem_of_getElem? (i := 116) (by rfl)) (by decide +kernel)
set_option maxRecDepth 20000 in
theorem nq_TE_1 : Cond.methodLink "TurnedKeys$Term" 1 objectInit ∈ hm_tb := hm_tb_in (List.mem_of_getElem? (i := 119) (by rfl)) (by decide +kernel)
set_option maxRecDepth 20000 in
theorem nq_TS_69 : Cond.methodLink "TurnedKeys$Terms" 69 ny_AL_add ∈ hm_tb := hm_tb_in (List.mem_of_getElem? (i := 150) (by rfl)) (by decide +kernel)
set_option maxRecDepth 20000 in
theorem nq_AL_131 : Cond.methodLink "java/util/ArrayList" 131 ny_AL_add2 ∈ hm_tb := hm_tb_in (List.mem_of_getElem? (i := 154) (by rfl)) (by decide +kernel)
set_option maxRecDepth 20000 in
theorem nq_AL_129 : Cond.methodLink "java/util/ArrayList" 129 ny_AL_grow ∈ hm_tb := hm_tb_in (List.mem_of_getElem? (i := 158) (by rfl)) (by decide +kernel)
set_option maxRecDepth 20000 in
theorem nq_AL_69 : Cond.methodLink "java/util/ArrayList" 69 ny_AL_grow2 ∈ hm_tb := hm_tb_in (List.mem_of_getElem? (i := 162) (by rfl)) (by decide +kernel)
set_option maxRecDepth 20000 in
theorem nq_AL_73 : Cond.methodLink "java/util/ArrayList" 73 ny_AS_newLength ∈ hm_tb := hm_tb_in (List.mem_of_getElem? (i := 166) (by rfl)) (by decide +kernel)
set_option maxRecDepth 20000 in
theorem nq_AS_194 : Cond.methodLink "jdk/internal/util/ArraysSupport" 194 ny_MA_max ∈ hm_tb := hm_tb_in (List.mem_of_getElem? (i := 169) (by rfl)) (by decide +kernel)
set_option maxRecDepth 20000 in
theorem nq_AS_201 : Cond.methodLink "jdk/internal/util/ArraysSupport" 201 ny_AS_hugeLength ∈ hm_tb := hm_tb_in (List.mem_of_getElem? (i := 173) (by rfl)) (by decide +kernel)
set_option maxRecDepth 20000 in
theorem nq_AL_66 : Cond.methodLink "java/util/ArrayList" 66 ny_AR_copyOf ∈ hm_tb := hm_tb_in (List.mem_of_getElem? (i := 176) (by rfl)) (by decide +kernel)
set_option maxRecDepth 20000 in
theorem nq_AR_86 : Cond.methodLink "java/util/Arrays" 86 ⟨"java/lang/Object", "getClass", "()Ljava/lang/Class;"⟩ ∈ hm_tb := hm_tb_in (List.mem_of_getElem? (i := 179) (by rfl)) (by decide +kernel)
set_option maxRecDepth 20000 in
theorem nq_AR_300 : Cond.methodLink "java/util/Arrays" 300 ny_AR_copyOf2 ∈ hm_tb := hm_tb_in (List.mem_of_getElem? (i := 191) (by rfl)) (by decide +kernel)
set_option maxRecDepth 20000 in
theorem nr_OJ : Cond.arrayOver (.object "java/lang/Object") ∈ lw_tbl := List.mem_of_getElem? (i := 195) (by rfl)
set_option maxRecDepth 20000 in
theorem nq_AR_304 : Cond.methodLink "java/util/Arrays" 304 ny_MA_min ∈ hm_tb := hm_tb_in (List.mem_of_getElem? (i := 197) (by rfl)) (by decide +kernel)
set_option maxRecDepth 20000 in
theorem nq_AR_150 : Cond.methodLink "java/util/Arrays" 150 ⟨"java/lang/System", "arraycopy", "(Ljava/lang/Object;ILjava/lang/Object;II)V"⟩ ∈ hm_tb := hm_tb_in (List.mem_of_getElem? (i := 200) (by rfl)) (by decide +kernel)
set_option maxRecDepth 20000 in
theorem nq_AL_79 : Cond.methodLink "java/util/ArrayList" 79 ny_MA_max ∈ hm_tb := hm_tb_in (List.mem_of_getElem? (i := 203) (by rfl)) (by decide +kernel)
set_option maxRecDepth 20000 in
theorem nq_TK_20 : Cond.methodLink "TurnedKeys" 20 ny_TS_publicOf ∈ hm_tb := hm_tb_in (List.mem_of_getElem? (i := 205) (by rfl)) (by decide +kernel)
set_option maxRecDepth 20000 in
theorem nq_TK_24 : Cond.methodLink "TurnedKeys" 24 ny_TS_sharedOf ∈ hm_tb := hm_tb_in (List.mem_of_getElem? (i := 209) (by rfl)) (by decide +kernel)
set_option maxRecDepth 20000 in
theorem nq_TS_35 : Cond.methodLink "TurnedKeys$Terms" 35 ny_TS_publicOf ∈ hm_tb := hm_tb_in (List.mem_of_getElem? (i := 213) (by rfl)) (by decide +kernel)
set_option maxRecDepth 20000 in
theorem nq_TS_42 : Cond.methodLink "TurnedKeys$Terms" 42 ny_TS_made ∈ hm_tb := hm_tb_in (List.mem_of_getElem? (i := 214) (by rfl)) (by decide +kernel)
set_option maxRecDepth 20000 in
theorem nq_TS_46 : Cond.methodLink "TurnedKeys$Terms" 46 ny_TS_younger ∈ hm_tb := hm_tb_in (List.mem_of_getElem? (i := 218) (by rfl)) (by decide +kernel)
set_option maxRecDepth 20000 in
theorem nq_TK_30 : Cond.methodLink "TurnedKeys" 30 ny_TS_made ∈ hm_tb := hm_tb_in (List.mem_of_getElem? (i := 223) (by rfl)) (by decide +kernel)
set_option maxRecDepth 20000 in
theorem nq_TK_34 : Cond.methodLink "TurnedKeys" 34 ny_EN_init ∈ hm_tb := hm_tb_in (List.mem_of_getElem? (i := 224) (by rfl)) (by decide +kernel)
set_option maxRecDepth 20000 in
theorem nq_EN_3 : Cond.methodLink "TurnedKeys$End" 3 objectInit ∈ hm_tb := hm_tb_in (List.mem_of_getElem? (i := 227) (by rfl)) (by decide +kernel)
set_option maxRecDepth 20000 in
theorem nr_LK : Cond.arrayOver (.object "TurnedKeys$LeftKey") ∈ lw_tbl := List.mem_of_getElem? (i := 229) (by rfl)
set_option maxRecDepth 20000 in
theorem nr_EN : Cond.arrayOver (.object "TurnedKeys$End") ∈ lw_tbl := List.mem_of_getElem? (i := 275) (by rfl)
set_option maxRecDepth 20000 in
theorem nq_TK_48 : Cond.methodLink "TurnedKeys" 48 ny_EN_copied ∈ hm_tb := hm_tb_in (List.mem_of_getElem? (i := 276) (by rfl)) (by decide +kernel)
set_option maxRecDepth 20000 in
theorem nq_EN_27 : Cond.methodLink "TurnedKeys$End" 27 ny_EN_init ∈ hm_tb := hm_tb_in (List.mem_of_getElem? (i := 281) (by rfl)) (by decide +kernel)
set_option maxRecDepth 20000 in
theorem nq_EN_30 : Cond.methodLink "TurnedKeys$End" 30 ny_EN_become ∈ hm_tb := hm_tb_in (List.mem_of_getElem? (i := 282) (by rfl)) (by decide +kernel)
set_option maxRecDepth 20000 in
theorem nq_TK_61 : Cond.methodLink "TurnedKeys" 61 ny_AL_init ∈ hm_tb := hm_tb_in (List.mem_of_getElem? (i := 287) (by rfl)) (by decide +kernel)
set_option maxRecDepth 20000 in
theorem nq_LA_13 : Cond.methodLink "TurnedKeysLaw" 13 ny_TK_send ∈ hm_tb := hm_tb_in (List.mem_of_getElem? (i := 307) (by rfl)) (by decide +kernel)
set_option maxRecDepth 20000 in
theorem nq_TK_66 : Cond.methodLink "TurnedKeys" 66 ny_TK_endAt ∈ hm_tb := hm_tb_in (List.mem_of_getElem? (i := 311) (by rfl)) (by decide +kernel)
set_option maxRecDepth 20000 in
theorem nq_TK_70 : Cond.methodLink "TurnedKeys" 70 ny_TK_mayMakeMore ∈ hm_tb := hm_tb_in (List.mem_of_getElem? (i := 314) (by rfl)) (by decide +kernel)
set_option maxRecDepth 20000 in
theorem nq_TK_74 : Cond.methodLink "TurnedKeys" 74 ny_EN_turnSending ∈ hm_tb := hm_tb_in (List.mem_of_getElem? (i := 318) (by rfl)) (by decide +kernel)
set_option maxRecDepth 20000 in
theorem nq_EN_56 : Cond.methodLink "TurnedKeys$End" 56 ny_TS_draw ∈ hm_tb := hm_tb_in (List.mem_of_getElem? (i := 322) (by rfl)) (by decide +kernel)
set_option maxRecDepth 20000 in
theorem nq_EN_62 : Cond.methodLink "TurnedKeys$End" 62 ny_TS_sharedOf ∈ hm_tb := hm_tb_in (List.mem_of_getElem? (i := 323) (by rfl)) (by decide +kernel)
set_option maxRecDepth 20000 in
theorem nq_EN_66 : Cond.methodLink "TurnedKeys$End" 66 ny_TS_made ∈ hm_tb := hm_tb_in (List.mem_of_getElem? (i := 324) (by rfl)) (by decide +kernel)
set_option maxRecDepth 20000 in
theorem nq_TK_78 : Cond.methodLink "TurnedKeys" 78 ny_EN_sealedWire ∈ hm_tb := hm_tb_in (List.mem_of_getElem? (i := 325) (by rfl)) (by decide +kernel)
set_option maxRecDepth 20000 in
theorem nq_EN_72 : Cond.methodLink "TurnedKeys$End" 72 ny_TS_publicOf ∈ hm_tb := hm_tb_in (List.mem_of_getElem? (i := 331) (by rfl)) (by decide +kernel)
set_option maxRecDepth 20000 in
theorem nq_EN_76 : Cond.methodLink "TurnedKeys$End" 76 ny_WI_init ∈ hm_tb := hm_tb_in (List.mem_of_getElem? (i := 332) (by rfl)) (by decide +kernel)
set_option maxRecDepth 20000 in
theorem nq_WI_1 : Cond.methodLink "TurnedKeys$Wire" 1 objectInit ∈ hm_tb := hm_tb_in (List.mem_of_getElem? (i := 335) (by rfl)) (by decide +kernel)
set_option maxRecDepth 20000 in
theorem nq_TK_82 : Cond.methodLink "TurnedKeys" 82 ny_AL_add ∈ hm_tb := hm_tb_in (List.mem_of_getElem? (i := 362) (by rfl)) (by decide +kernel)
set_option maxRecDepth 20000 in
theorem nq_TK_89 : Cond.methodLink "TurnedKeys" 89 ny_TK_giveWire ∈ hm_tb := hm_tb_in (List.mem_of_getElem? (i := 363) (by rfl)) (by decide +kernel)
set_option maxRecDepth 20000 in
theorem nq_TK_118 : Cond.methodLink "TurnedKeys" 118 ny_TS_give ∈ hm_tb := hm_tb_in (List.mem_of_getElem? (i := 367) (by rfl)) (by decide +kernel)
set_option maxRecDepth 20000 in
theorem nq_TS_80 : Cond.methodLink "TurnedKeys$Terms" 80 ny_MA_min ∈ hm_tb := hm_tb_in (List.mem_of_getElem? (i := 371) (by rfl)) (by decide +kernel)
set_option maxRecDepth 20000 in
theorem nq_TK_93 : Cond.methodLink "TurnedKeys" 93 ny_AL_size ∈ hm_tb := hm_tb_in (List.mem_of_getElem? (i := 372) (by rfl)) (by decide +kernel)
set_option maxRecDepth 20000 in
theorem nq_LA_18 : Cond.methodLink "TurnedKeysLaw" 18 ny_TK_take ∈ hm_tb := hm_tb_in (List.mem_of_getElem? (i := 373) (by rfl)) (by decide +kernel)
set_option maxRecDepth 20000 in
theorem nq_TK_97 : Cond.methodLink "TurnedKeys" 97 ny_TK_wireAt ∈ hm_tb := hm_tb_in (List.mem_of_getElem? (i := 377) (by rfl)) (by decide +kernel)
set_option maxRecDepth 20000 in
theorem nq_TK_171 : Cond.methodLink "TurnedKeys" 171 ny_AL_get ∈ hm_tb := hm_tb_in (List.mem_of_getElem? (i := 381) (by rfl)) (by decide +kernel)
set_option maxRecDepth 20000 in
theorem nq_AL_118 : Cond.methodLink "java/util/ArrayList" 118 ny_OB_checkIndex ∈ hm_tb := hm_tb_in (List.mem_of_getElem? (i := 385) (by rfl)) (by decide +kernel)
set_option maxRecDepth 20000 in
theorem nq_OB_105 : Cond.methodLink "java/util/Objects" 105 ny_PR_checkIndex ∈ hm_tb := hm_tb_in (List.mem_of_getElem? (i := 388) (by rfl)) (by decide +kernel)
set_option maxRecDepth 20000 in
theorem nq_AL_123 : Cond.methodLink "java/util/ArrayList" 123 ny_AL_elementData ∈ hm_tb := hm_tb_in (List.mem_of_getElem? (i := 391) (by rfl)) (by decide +kernel)
set_option maxRecDepth 20000 in
theorem nq_TK_107 : Cond.methodLink "TurnedKeys" 107 ny_EN_become ∈ hm_tb := hm_tb_in (List.mem_of_getElem? (i := 396) (by rfl)) (by decide +kernel)
set_option maxRecDepth 20000 in
theorem nq_TK_111 : Cond.methodLink "TurnedKeys" 111 ny_EN_keyFor ∈ hm_tb := hm_tb_in (List.mem_of_getElem? (i := 397) (by rfl)) (by decide +kernel)
set_option maxRecDepth 20000 in
theorem nq_EN_85 : Cond.methodLink "TurnedKeys$End" 85 ny_EN_pulledLeftKey ∈ hm_tb := hm_tb_in (List.mem_of_getElem? (i := 401) (by rfl)) (by decide +kernel)
set_option maxRecDepth 20000 in
theorem nq_EN_109 : Cond.methodLink "TurnedKeys$End" 109 ny_EN_dropLeftKey ∈ hm_tb := hm_tb_in (List.mem_of_getElem? (i := 405) (by rfl)) (by decide +kernel)
set_option maxRecDepth 20000 in
theorem nq_EN_90 : Cond.methodLink "TurnedKeys$End" 90 ny_EN_skipsTo ∈ hm_tb := hm_tb_in (List.mem_of_getElem? (i := 409) (by rfl)) (by decide +kernel)
set_option maxRecDepth 20000 in
theorem nq_EN_98 : Cond.methodLink "TurnedKeys$End" 98 ny_EN_steppedKey ∈ hm_tb := hm_tb_in (List.mem_of_getElem? (i := 414) (by rfl)) (by decide +kernel)
set_option maxRecDepth 20000 in
theorem nq_EN_102 : Cond.methodLink "TurnedKeys$End" 102 ny_LK_init ∈ hm_tb := hm_tb_in (List.mem_of_getElem? (i := 418) (by rfl)) (by decide +kernel)
set_option maxRecDepth 20000 in
theorem nq_LK_1 : Cond.methodLink "TurnedKeys$LeftKey" 1 objectInit ∈ hm_tb := hm_tb_in (List.mem_of_getElem? (i := 421) (by rfl)) (by decide +kernel)
set_option maxRecDepth 20000 in
theorem nq_EN_105 : Cond.methodLink "TurnedKeys$End" 105 ny_EN_leave ∈ hm_tb := hm_tb_in (List.mem_of_getElem? (i := 437) (by rfl)) (by decide +kernel)
set_option maxRecDepth 20000 in
theorem nq_EN_94 : Cond.methodLink "TurnedKeys$End" 94 ny_EN_turnReceiving ∈ hm_tb := hm_tb_in (List.mem_of_getElem? (i := 441) (by rfl)) (by decide +kernel)
set_option maxRecDepth 20000 in
theorem nq_LA_23 : Cond.methodLink "TurnedKeysLaw" 23 ny_TK_look ∈ hm_tb := hm_tb_in (List.mem_of_getElem? (i := 445) (by rfl)) (by decide +kernel)
set_option maxRecDepth 20000 in
theorem nq_LA_27 : Cond.methodLink "TurnedKeysLaw" 27 ny_TK_derived ∈ hm_tb := hm_tb_in (List.mem_of_getElem? (i := 449) (by rfl)) (by decide +kernel)
set_option maxRecDepth 20000 in
theorem nq_TK_147 : Cond.methodLink "TurnedKeys" 147 ny_TS_hasDerived ∈ hm_tb := hm_tb_in (List.mem_of_getElem? (i := 453) (by rfl)) (by decide +kernel)
set_option maxRecDepth 20000 in
theorem nq_TS_86 : Cond.methodLink "TurnedKeys$Terms" 86 ny_TS_settle ∈ hm_tb := hm_tb_in (List.mem_of_getElem? (i := 457) (by rfl)) (by decide +kernel)
set_option maxRecDepth 20000 in
theorem nq_TS_94 : Cond.methodLink "TurnedKeys$Terms" 94 ny_AL_get ∈ hm_tb := hm_tb_in (List.mem_of_getElem? (i := 462) (by rfl)) (by decide +kernel)
set_option maxRecDepth 20000 in
theorem nq_TS_98 : Cond.methodLink "TurnedKeys$Terms" 98 ny_TS_canBeMade ∈ hm_tb := hm_tb_in (List.mem_of_getElem? (i := 463) (by rfl)) (by decide +kernel)
set_option maxRecDepth 20000 in
theorem nq_TS_105 : Cond.methodLink "TurnedKeys$Terms" 105 ny_TS_sharedByOne ∈ hm_tb := hm_tb_in (List.mem_of_getElem? (i := 466) (by rfl)) (by decide +kernel)
set_option maxRecDepth 20000 in
theorem nq_TS_89 : Cond.methodLink "TurnedKeys$Terms" 89 ny_TS_isDerived ∈ hm_tb := hm_tb_in (List.mem_of_getElem? (i := 469) (by rfl)) (by decide +kernel)
set_option maxRecDepth 20000 in
theorem nq_TS_101 : Cond.methodLink "TurnedKeys$Terms" 101 ny_TS_give ∈ hm_tb := hm_tb_in (List.mem_of_getElem? (i := 472) (by rfl)) (by decide +kernel)
set_option maxRecDepth 20000 in
theorem nq_TK_151 : Cond.methodLink "TurnedKeys" 151 ny_TK_oneIf ∈ hm_tb := hm_tb_in (List.mem_of_getElem? (i := 473) (by rfl)) (by decide +kernel)
set_option maxRecDepth 20000 in
theorem nq_LA_31 : Cond.methodLink "TurnedKeysLaw" 31 ny_TK_opens ∈ hm_tb := hm_tb_in (List.mem_of_getElem? (i := 476) (by rfl)) (by decide +kernel)
set_option maxRecDepth 20000 in
theorem nq_LA_35 : Cond.methodLink "TurnedKeysLaw" 35 ny_TK_back ∈ hm_tb := hm_tb_in (List.mem_of_getElem? (i := 480) (by rfl)) (by decide +kernel)
set_option maxRecDepth 20000 in
theorem nq_TK_155 : Cond.methodLink "TurnedKeys" 155 ny_TK_replace ∈ hm_tb := hm_tb_in (List.mem_of_getElem? (i := 484) (by rfl)) (by decide +kernel)
set_option maxRecDepth 20000 in
theorem nq_LA_39 : Cond.methodLink "TurnedKeysLaw" 39 ny_TK_keep ∈ hm_tb := hm_tb_in (List.mem_of_getElem? (i := 487) (by rfl)) (by decide +kernel)
set_option maxRecDepth 20000 in
theorem nq_LA_43 : Cond.methodLink "TurnedKeysLaw" 43 ny_TK_end ∈ hm_tb := hm_tb_in (List.mem_of_getElem? (i := 491) (by rfl)) (by decide +kernel)
set_option maxRecDepth 20000 in
theorem nq_LA_47 : Cond.methodLink "TurnedKeysLaw" 47 ny_TK_agree ∈ hm_tb := hm_tb_in (List.mem_of_getElem? (i := 495) (by rfl)) (by decide +kernel)
set_option maxRecDepth 20000 in
theorem nq_LA_52 : Cond.methodLink "TurnedKeysLaw" 52 ny_TK_count ∈ hm_tb := hm_tb_in (List.mem_of_getElem? (i := 499) (by rfl)) (by decide +kernel)
set_option maxRecDepth 20000 in
theorem nq_LA_12 : Cond.methodLink "TurnedKeysLaw" 12 ny_MO_init ∈ hm_tb := hm_tb_in (List.mem_of_getElem? (i := 505) (by rfl)) (by decide +kernel)
set_option maxRecDepth 20000 in
theorem nq_MO_1 : Cond.methodLink "TurnedKeysModel" 1 objectInit ∈ hm_tb := hm_tb_in (List.mem_of_getElem? (i := 508) (by rfl)) (by decide +kernel)
set_option maxRecDepth 20000 in
theorem nq_MO_69 : Cond.methodLink "TurnedKeysModel" 69 ny_MO_draw ∈ hm_tb := hm_tb_in (List.mem_of_getElem? (i := 510) (by rfl)) (by decide +kernel)
set_option maxRecDepth 20000 in
theorem nq_MO_95 : Cond.methodLink "TurnedKeysModel" 95 ny_MO_term ∈ hm_tb := hm_tb_in (List.mem_of_getElem? (i := 514) (by rfl)) (by decide +kernel)
set_option maxRecDepth 20000 in
theorem nq_MO_73 : Cond.methodLink "TurnedKeysModel" 73 ny_MO_publicOf ∈ hm_tb := hm_tb_in (List.mem_of_getElem? (i := 522) (by rfl)) (by decide +kernel)
set_option maxRecDepth 20000 in
theorem nq_MO_80 : Cond.methodLink "TurnedKeysModel" 80 ny_MO_shared ∈ hm_tb := hm_tb_in (List.mem_of_getElem? (i := 526) (by rfl)) (by decide +kernel)
set_option maxRecDepth 20000 in
theorem nq_MO_84 : Cond.methodLink "TurnedKeysModel" 84 ny_MO_mix ∈ hm_tb := hm_tb_in (List.mem_of_getElem? (i := 530) (by rfl)) (by decide +kernel)
set_option maxRecDepth 20000 in
theorem nq_LA_17 : Cond.methodLink "TurnedKeysLaw" 17 ny_MO_send ∈ hm_tb := hm_tb_in (List.mem_of_getElem? (i := 607) (by rfl)) (by decide +kernel)
set_option maxRecDepth 20000 in
theorem nq_MO_115 : Cond.methodLink "TurnedKeysModel" 115 ny_MO_isEnd ∈ hm_tb := hm_tb_in (List.mem_of_getElem? (i := 611) (by rfl)) (by decide +kernel)
set_option maxRecDepth 20000 in
theorem nq_MO_118 : Cond.methodLink "TurnedKeysModel" 118 ny_MO_load ∈ hm_tb := hm_tb_in (List.mem_of_getElem? (i := 614) (by rfl)) (by decide +kernel)
set_option maxRecDepth 20000 in
theorem nq_MO_125 : Cond.methodLink "TurnedKeysModel" 125 ny_MO_headLike ∈ hm_tb := hm_tb_in (List.mem_of_getElem? (i := 618) (by rfl)) (by decide +kernel)
set_option maxRecDepth 20000 in
theorem nq_MO_131 : Cond.methodLink "TurnedKeysModel" 131 ny_MO_give ∈ hm_tb := hm_tb_in (List.mem_of_getElem? (i := 622) (by rfl)) (by decide +kernel)
set_option maxRecDepth 20000 in
theorem nq_MO_134 : Cond.methodLink "TurnedKeysModel" 134 ny_MO_store ∈ hm_tb := hm_tb_in (List.mem_of_getElem? (i := 626) (by rfl)) (by decide +kernel)
set_option maxRecDepth 20000 in
theorem nq_LA_22 : Cond.methodLink "TurnedKeysLaw" 22 ny_MO_take ∈ hm_tb := hm_tb_in (List.mem_of_getElem? (i := 630) (by rfl)) (by decide +kernel)
set_option maxRecDepth 20000 in
theorem nq_MO_146 : Cond.methodLink "TurnedKeysModel" 146 ny_MO_keyFor ∈ hm_tb := hm_tb_in (List.mem_of_getElem? (i := 634) (by rfl)) (by decide +kernel)
set_option maxRecDepth 20000 in
theorem nq_MO_137 : Cond.methodLink "TurnedKeysModel" 137 ny_MO_dropLeft ∈ hm_tb := hm_tb_in (List.mem_of_getElem? (i := 638) (by rfl)) (by decide +kernel)
set_option maxRecDepth 20000 in
theorem nq_MO_143 : Cond.methodLink "TurnedKeysModel" 143 ny_MO_skip ∈ hm_tb := hm_tb_in (List.mem_of_getElem? (i := 642) (by rfl)) (by decide +kernel)
set_option maxRecDepth 20000 in
theorem nq_MO_140 : Cond.methodLink "TurnedKeysModel" 140 ny_MO_stepOn ∈ hm_tb := hm_tb_in (List.mem_of_getElem? (i := 646) (by rfl)) (by decide +kernel)
set_option maxRecDepth 20000 in
theorem nq_LA_26 : Cond.methodLink "TurnedKeysLaw" 26 ny_MO_look ∈ hm_tb := hm_tb_in (List.mem_of_getElem? (i := 650) (by rfl)) (by decide +kernel)
set_option maxRecDepth 20000 in
theorem nq_MO_152 : Cond.methodLink "TurnedKeysModel" 152 ny_MO_shown ∈ hm_tb := hm_tb_in (List.mem_of_getElem? (i := 654) (by rfl)) (by decide +kernel)
set_option maxRecDepth 20000 in
theorem nq_LA_30 : Cond.methodLink "TurnedKeysLaw" 30 ny_MO_derived ∈ hm_tb := hm_tb_in (List.mem_of_getElem? (i := 658) (by rfl)) (by decide +kernel)
set_option maxRecDepth 20000 in
theorem nq_MO_155 : Cond.methodLink "TurnedKeysModel" 155 ny_MO_derive ∈ hm_tb := hm_tb_in (List.mem_of_getElem? (i := 662) (by rfl)) (by decide +kernel)
set_option maxRecDepth 20000 in
theorem nq_MO_109 : Cond.methodLink "TurnedKeysModel" 109 ny_MO_canMake ∈ hm_tb := hm_tb_in (List.mem_of_getElem? (i := 666) (by rfl)) (by decide +kernel)
set_option maxRecDepth 20000 in
theorem nq_MO_99 : Cond.methodLink "TurnedKeysModel" 99 ny_MO_shows ∈ hm_tb := hm_tb_in (List.mem_of_getElem? (i := 670) (by rfl)) (by decide +kernel)
set_option maxRecDepth 20000 in
theorem nq_MO_103 : Cond.methodLink "TurnedKeysModel" 103 ny_MO_has ∈ hm_tb := hm_tb_in (List.mem_of_getElem? (i := 674) (by rfl)) (by decide +kernel)
set_option maxRecDepth 20000 in
theorem nq_MO_106 : Cond.methodLink "TurnedKeysModel" 106 ny_MO_learn ∈ hm_tb := hm_tb_in (List.mem_of_getElem? (i := 678) (by rfl)) (by decide +kernel)
set_option maxRecDepth 20000 in
theorem nq_MO_112 : Cond.methodLink "TurnedKeysModel" 112 ny_MO_open ∈ hm_tb := hm_tb_in (List.mem_of_getElem? (i := 682) (by rfl)) (by decide +kernel)
set_option maxRecDepth 20000 in
theorem nq_LA_34 : Cond.methodLink "TurnedKeysLaw" 34 ny_MO_opens ∈ hm_tb := hm_tb_in (List.mem_of_getElem? (i := 686) (by rfl)) (by decide +kernel)
set_option maxRecDepth 20000 in
theorem nq_LA_38 : Cond.methodLink "TurnedKeysLaw" 38 ny_MO_back ∈ hm_tb := hm_tb_in (List.mem_of_getElem? (i := 690) (by rfl)) (by decide +kernel)
set_option maxRecDepth 20000 in
theorem nq_LA_42 : Cond.methodLink "TurnedKeysLaw" 42 ny_MO_keep ∈ hm_tb := hm_tb_in (List.mem_of_getElem? (i := 694) (by rfl)) (by decide +kernel)
set_option maxRecDepth 20000 in
theorem nq_LA_46 : Cond.methodLink "TurnedKeysLaw" 46 ny_MO_end ∈ hm_tb := hm_tb_in (List.mem_of_getElem? (i := 698) (by rfl)) (by decide +kernel)
set_option maxRecDepth 20000 in
theorem nq_LA_51 : Cond.methodLink "TurnedKeysLaw" 51 ny_MO_agree ∈ hm_tb := hm_tb_in (List.mem_of_getElem? (i := 702) (by rfl)) (by decide +kernel)
set_option maxRecDepth 20000 in
theorem nq_LA_55 : Cond.methodLink "TurnedKeysLaw" 55 ny_MO_count ∈ hm_tb := hm_tb_in (List.mem_of_getElem? (i := 706) (by rfl)) (by decide +kernel)
set_option maxRecDepth 20000 in
theorem nh_WI_WI : Cond.castable "TurnedKeys$Wire" "TurnedKeys$Wire" ∈ lw_tbl := List.mem_of_getElem? (i := 710) (by rfl)
set_option maxRecDepth 20000 in
theorem nh_TE_TE : Cond.castable "TurnedKeys$Term" "TurnedKeys$Term" ∈ lw_tbl := List.mem_of_getElem? (i := 711) (by rfl)
set_option maxRecDepth 20000 in
theorem nh_TK_OJ : Cond.castable "TurnedKeys" "java/lang/Object" ∈ lw_tbl := List.mem_of_getElem? (i := 715) (by rfl)
set_option maxRecDepth 20000 in
theorem nh_TS_OJ : Cond.castable "TurnedKeys$Terms" "java/lang/Object" ∈ lw_tbl := List.mem_of_getElem? (i := 716) (by rfl)
set_option maxRecDepth 20000 in
theorem nh_TE_OJ : Cond.castable "TurnedKeys$Term" "java/lang/Object" ∈ lw_tbl := List.mem_of_getElem? (i := 717) (by rfl)
set_option maxRecDepth 20000 in
theorem nh_EN_OJ : Cond.castable "TurnedKeys$End" "java/lang/Object" ∈ lw_tbl := List.mem_of_getElem? (i := 718) (by rfl)
set_option maxRecDepth 20000 in
theorem nh_MO_OJ : Cond.castable "TurnedKeysModel" "java/lang/Object" ∈ lw_tbl := List.mem_of_getElem? (i := 719) (by rfl)
set_option maxRecDepth 20000 in
theorem nh_WI_OJ : Cond.castable "TurnedKeys$Wire" "java/lang/Object" ∈ lw_tbl := List.mem_of_getElem? (i := 720) (by rfl)
set_option maxRecDepth 20000 in
theorem nh_LK_OJ : Cond.castable "TurnedKeys$LeftKey" "java/lang/Object" ∈ lw_tbl := List.mem_of_getElem? (i := 721) (by rfl)
set_option maxRecDepth 20000 in
theorem nm_OJ_init : Cond.code objectInit ⟨#[0xb1]⟩ 1 none ∈ hm_tb := hm_tb_in (List.mem_of_getElem? (i := 58) (by rfl)) (by decide +kernel)
set_option maxRecDepth 20000 in
theorem nj_OJ_init : Cond.instanceMethod objectInit ∈ hm_tb := hm_tb_in (List.mem_of_getElem? (i := 57) (by rfl)) (by decide +kernel)
