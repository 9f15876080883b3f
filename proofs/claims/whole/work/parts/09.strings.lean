theorem cw_String_coder : Cond.code y_String_coder c_String_coder 1 (some .byte) ∈ tb := tw_628
theorem ini_String_coder : Cond.initialized y_String_coder.cls ∈ tb := tw_74
theorem hd_String_coder : y_String_coder.cls ≠ "java/lang/invoke/MethodHandle" ∧ y_String_coder.cls ≠ "java/lang/invoke/VarHandle" ∧ (parseMethodDescriptor y_String_coder.desc).map (fun d => d.parameters.length) = some 0 := by decide +kernel
theorem ins_String_coder : Cond.instanceMethod y_String_coder ∈ tb := tw_626
theorem sel_String_coder : Cond.selects "java/lang/String" y_String_coder y_String_coder ∈ tb := tw_627
theorem d_String_coder_0 : decode c_String_coder 0 = .ok (.getstatic 38, 3) := by decide +kernel
theorem d_String_coder_3 : decode c_String_coder 3 = .ok (.ifCond .eq 10, 3) := by decide +kernel
theorem d_String_coder_6 : decode c_String_coder 6 = .ok (.aload_n 0, 1) := by decide +kernel
theorem d_String_coder_7 : decode c_String_coder 7 = .ok (.getfield 15, 3) := by decide +kernel
theorem d_String_coder_10 : decode c_String_coder 10 = .ok (.goto 4, 3) := by decide +kernel
theorem d_String_coder_13 : decode c_String_coder 13 = .ok (.iconst 1, 1) := by decide +kernel
theorem d_String_coder_14 : decode c_String_coder 14 = .ok (.ireturn, 1) := by decide +kernel
theorem cw_String_isLatin1 : Cond.code y_String_isLatin1 c_String_isLatin1 1 (some .boolean) ∈ tb := tw_638
theorem ini_String_isLatin1 : Cond.initialized y_String_isLatin1.cls ∈ tb := tw_74
theorem hd_String_isLatin1 : y_String_isLatin1.cls ≠ "java/lang/invoke/MethodHandle" ∧ y_String_isLatin1.cls ≠ "java/lang/invoke/VarHandle" ∧ (parseMethodDescriptor y_String_isLatin1.desc).map (fun d => d.parameters.length) = some 0 := by decide +kernel
theorem ins_String_isLatin1 : Cond.instanceMethod y_String_isLatin1 ∈ tb := tw_636
theorem sel_String_isLatin1 : Cond.selects "java/lang/String" y_String_isLatin1 y_String_isLatin1 ∈ tb := tw_637
theorem d_String_isLatin1_0 : decode c_String_isLatin1 0 = .ok (.getstatic 38, 3) := by decide +kernel
theorem d_String_isLatin1_3 : decode c_String_isLatin1 3 = .ok (.ifCond .eq 14, 3) := by decide +kernel
theorem d_String_isLatin1_6 : decode c_String_isLatin1 6 = .ok (.aload_n 0, 1) := by decide +kernel
theorem d_String_isLatin1_7 : decode c_String_isLatin1 7 = .ok (.getfield 15, 3) := by decide +kernel
theorem d_String_isLatin1_10 : decode c_String_isLatin1 10 = .ok (.ifCond .ne 7, 3) := by decide +kernel
theorem d_String_isLatin1_13 : decode c_String_isLatin1 13 = .ok (.iconst 1, 1) := by decide +kernel
theorem d_String_isLatin1_14 : decode c_String_isLatin1 14 = .ok (.goto 4, 3) := by decide +kernel
theorem d_String_isLatin1_17 : decode c_String_isLatin1 17 = .ok (.iconst 0, 1) := by decide +kernel
theorem d_String_isLatin1_18 : decode c_String_isLatin1 18 = .ok (.ireturn, 1) := by decide +kernel
theorem d_String_length_0 : decode c_String_length 0 = .ok (.aload_n 0, 1) := by decide +kernel
theorem d_String_length_1 : decode c_String_length 1 = .ok (.getfield 9, 3) := by decide +kernel
theorem d_String_length_4 : decode c_String_length 4 = .ok (.arraylength, 1) := by decide +kernel
theorem d_String_length_5 : decode c_String_length 5 = .ok (.aload_n 0, 1) := by decide +kernel
theorem d_String_length_6 : decode c_String_length 6 = .ok (.invokevirtual 335, 3) := by decide +kernel
theorem d_String_length_9 : decode c_String_length 9 = .ok (.ishr, 1) := by decide +kernel
theorem d_String_length_10 : decode c_String_length 10 = .ok (.ireturn, 1) := by decide +kernel
theorem cw_Pre_checkIndex : Cond.code y_Pre_checkIndex c_Pre_checkIndex 3 (some .int) ∈ tb := tw_649
theorem ini_Pre_checkIndex : Cond.initialized y_Pre_checkIndex.cls ∈ tb := tw_76
theorem hd_Pre_checkIndex : y_Pre_checkIndex.cls ≠ "java/lang/invoke/MethodHandle" ∧ y_Pre_checkIndex.cls ≠ "java/lang/invoke/VarHandle" ∧ (parseMethodDescriptor y_Pre_checkIndex.desc).map (fun d => d.parameters.length) = some 3 := by decide +kernel
theorem sta_Pre_checkIndex : Cond.static y_Pre_checkIndex ∈ tb := tw_648
theorem d_Pre_checkIndex_0 : decode c_Pre_checkIndex 0 = .ok (.iload_n 0, 1) := by decide +kernel
theorem d_Pre_checkIndex_1 : decode c_Pre_checkIndex 1 = .ok (.ifCond .lt 8, 3) := by decide +kernel
theorem d_Pre_checkIndex_4 : decode c_Pre_checkIndex 4 = .ok (.iload_n 0, 1) := by decide +kernel
theorem d_Pre_checkIndex_5 : decode c_Pre_checkIndex 5 = .ok (.iload_n 1, 1) := by decide +kernel
theorem d_Pre_checkIndex_6 : decode c_Pre_checkIndex 6 = .ok (.if_icmp .lt 10, 3) := by decide +kernel
theorem d_Pre_checkIndex_9 : decode c_Pre_checkIndex 9 = .ok (.aload_n 2, 1) := by decide +kernel
theorem d_Pre_checkIndex_10 : decode c_Pre_checkIndex 10 = .ok (.iload_n 0, 1) := by decide +kernel
theorem d_Pre_checkIndex_11 : decode c_Pre_checkIndex 11 = .ok (.iload_n 1, 1) := by decide +kernel
theorem d_Pre_checkIndex_12 : decode c_Pre_checkIndex 12 = .ok (.invokestatic 95, 3) := by decide +kernel
theorem d_Pre_checkIndex_15 : decode c_Pre_checkIndex 15 = .ok (.athrow, 1) := by decide +kernel
theorem d_Pre_checkIndex_16 : decode c_Pre_checkIndex 16 = .ok (.iload_n 0, 1) := by decide +kernel
theorem d_Pre_checkIndex_17 : decode c_Pre_checkIndex 17 = .ok (.ireturn, 1) := by decide +kernel
theorem cw_String_checkIndex : Cond.code y_String_checkIndex c_String_checkIndex 2 none ∈ tb := tw_644
theorem ini_String_checkIndex : Cond.initialized y_String_checkIndex.cls ∈ tb := tw_74
theorem hd_String_checkIndex : y_String_checkIndex.cls ≠ "java/lang/invoke/MethodHandle" ∧ y_String_checkIndex.cls ≠ "java/lang/invoke/VarHandle" ∧ (parseMethodDescriptor y_String_checkIndex.desc).map (fun d => d.parameters.length) = some 2 := by decide +kernel
theorem sta_String_checkIndex : Cond.static y_String_checkIndex ∈ tb := tw_643
theorem d_String_checkIndex_0 : decode c_String_checkIndex 0 = .ok (.iload_n 0, 1) := by decide +kernel
theorem d_String_checkIndex_1 : decode c_String_checkIndex 1 = .ok (.iload_n 1, 1) := by decide +kernel
theorem d_String_checkIndex_2 : decode c_String_checkIndex 2 = .ok (.getstatic 1053, 3) := by decide +kernel
theorem d_String_checkIndex_5 : decode c_String_checkIndex 5 = .ok (.invokestatic 1059, 3) := by decide +kernel
theorem d_String_checkIndex_8 : decode c_String_checkIndex 8 = .ok (.pop, 1) := by decide +kernel
theorem d_String_checkIndex_9 : decode c_String_checkIndex 9 = .ok (.return_, 1) := by decide +kernel
theorem cw_Latin_charAt : Cond.code y_Latin_charAt c_Latin_charAt 2 (some .char) ∈ tb := tw_641
theorem ini_Latin_charAt : Cond.initialized y_Latin_charAt.cls ∈ tb := tw_75
theorem hd_Latin_charAt : y_Latin_charAt.cls ≠ "java/lang/invoke/MethodHandle" ∧ y_Latin_charAt.cls ≠ "java/lang/invoke/VarHandle" ∧ (parseMethodDescriptor y_Latin_charAt.desc).map (fun d => d.parameters.length) = some 2 := by decide +kernel
theorem sta_Latin_charAt : Cond.static y_Latin_charAt ∈ tb := tw_640
theorem d_Latin_charAt_0 : decode c_Latin_charAt 0 = .ok (.iload_n 1, 1) := by decide +kernel
theorem d_Latin_charAt_1 : decode c_Latin_charAt 1 = .ok (.aload_n 0, 1) := by decide +kernel
theorem d_Latin_charAt_2 : decode c_Latin_charAt 2 = .ok (.arraylength, 1) := by decide +kernel
theorem d_Latin_charAt_3 : decode c_Latin_charAt 3 = .ok (.invokestatic 9, 3) := by decide +kernel
theorem d_Latin_charAt_6 : decode c_Latin_charAt 6 = .ok (.aload_n 0, 1) := by decide +kernel
theorem d_Latin_charAt_7 : decode c_Latin_charAt 7 = .ok (.iload_n 1, 1) := by decide +kernel
theorem d_Latin_charAt_8 : decode c_Latin_charAt 8 = .ok (.baload, 1) := by decide +kernel
theorem d_Latin_charAt_9 : decode c_Latin_charAt 9 = .ok (.sipush 255, 3) := by decide +kernel
theorem d_Latin_charAt_12 : decode c_Latin_charAt 12 = .ok (.iand, 1) := by decide +kernel
theorem d_Latin_charAt_13 : decode c_Latin_charAt 13 = .ok (.i2c, 1) := by decide +kernel
theorem d_Latin_charAt_14 : decode c_Latin_charAt 14 = .ok (.ireturn, 1) := by decide +kernel
theorem d_String_charAt_0 : decode c_String_charAt 0 = .ok (.aload_n 0, 1) := by decide +kernel
theorem d_String_charAt_1 : decode c_String_charAt 1 = .ok (.invokevirtual 492, 3) := by decide +kernel
theorem d_String_charAt_4 : decode c_String_charAt 4 = .ok (.ifCond .eq 12, 3) := by decide +kernel
theorem d_String_charAt_7 : decode c_String_charAt 7 = .ok (.aload_n 0, 1) := by decide +kernel
theorem d_String_charAt_8 : decode c_String_charAt 8 = .ok (.getfield 9, 3) := by decide +kernel
theorem d_String_charAt_11 : decode c_String_charAt 11 = .ok (.iload_n 1, 1) := by decide +kernel
theorem d_String_charAt_12 : decode c_String_charAt 12 = .ok (.invokestatic 495, 3) := by decide +kernel
theorem d_String_charAt_15 : decode c_String_charAt 15 = .ok (.ireturn, 1) := by decide +kernel
theorem d_String_charAt_16 : decode c_String_charAt 16 = .ok (.aload_n 0, 1) := by decide +kernel
theorem d_String_charAt_17 : decode c_String_charAt 17 = .ok (.getfield 9, 3) := by decide +kernel
theorem d_String_charAt_20 : decode c_String_charAt 20 = .ok (.iload_n 1, 1) := by decide +kernel
theorem d_String_charAt_21 : decode c_String_charAt 21 = .ok (.invokestatic 498, 3) := by decide +kernel
theorem d_String_charAt_24 : decode c_String_charAt 24 = .ok (.ireturn, 1) := by decide +kernel
theorem sb_all : ∀ w, w < 11 → ∀ i, i < slen.getD w 0 → ((((sbyt.getD w []).getD i 0 &&& 255).toUInt32 % 65536).toInt32 = (sbyt.getD w []).getD i 0 ∧ narrow .char (.int ((sbyt.getD w []).getD i 0)) = .int ((sbyt.getD w []).getD i 0)) := by decide +kernel
theorem sl_all : ∀ w, w < 11 → slen.getD w 0 < 2 ^ 31 := by decide +kernel
theorem r_nret {p : Program} {l : Launch} {e : Env} {R : Room} {s : State} {m : MethodId} {args : Array Value} {below : List Frame} {meth : Method} {c : Code} {H : Heap} {locs : List Loc} {cells slots : Nat} {cc : ByteArray} {nL : Nat} {own : String} {ret : Option FieldType} {E : En} {X : Mem} {pc : Nat} {ls : Array Slot} {r v : Int32} {ty : FieldType} (C : Cx p s m args meth c cc nL own ret E) (hS : Hs E s.heap X H locs) (hr : ret = some ty) (hn : narrow ty (.int v) = .int v) (h : v = r) (hdg : decode cc pc = .ok (.ireturn, 1)) : W p l e R s m args below meth c H locs cells slots (MQ below (PostI E r X) args s cells slots (Ad E)) (F0 m pc ls [.int v]) := by
  obtain ⟨hx, hb, -, -, -, hrt, hlk, -⟩ := C
  subst h
  exact W.zret (v := v) hx hb (hrt.trans hr) hn (fun t ht hW => ⟨⟨v, (), rfl, rfl, wP ht hS.1⟩, hS.2.F ht⟩) hS.2.2.2 hdg hlk
set_option maxRecDepth 100000 in
theorem k_String_coder {l : Launch} {E : En} {X : Mem} {w : Nat} (hw : w < 11) : Met l y_String_coder (Cond.code y_String_coder c_String_coder 1 (some .byte) :: tb) ({ frames := 0, cells := 0, slots := 0, locals := 0 } : Room) (PreC E [.ref (eK E w)] X) (PostI E 0 X) 0 0 (Ad E) := by
  refine met_of (by decide) (Nat.le_of_ble_eq_true rfl) (fun p e s m below meth c C hS ls hl => ?_)
  replace C : Cx p s m ([.ref (eK E w)] : List Value).toArray meth c c_String_coder 1 "java/lang/String" (some .byte) E := C
  replace hl : lv_has ls 1 [(0, .ref (eK E w))] := hl
  obtain ⟨hx, hb, hml, hown, hts, hrt, hlk, hKx⟩ := id C
  refine va_gets hx hb hKx.2.2.2.2.2.1 hS.2 hown (hts _ tw_629) (fun _ h => h) d_String_coder_0 ?_
  refine lv_if_eq (tgt := 13) hx hb d_String_coder_3 (by decide) (fun q => absurd q (by decide)) (fun _ => ?_)
  refine lv_aload_n hx hb d_String_coder_6 rfl (lv_at hl 0 rfl) ?_
  refine vk_getf hx hb (hKx.2.2.2.2.1.1 w hw).2.1 hS.2 hown (hts _ tw_1209) (fun _ h => h) d_String_coder_7 ?_
  refine lv_goto (tgt := 14) hx hb d_String_coder_10 (by decide) ?_
  exact r_nret C hS rfl rfl rfl d_String_coder_14
set_option maxRecDepth 100000 in
theorem k_String_isLatin1 {l : Launch} {E : En} {X : Mem} {w : Nat} (hw : w < 11) : Met l y_String_isLatin1 (Cond.code y_String_isLatin1 c_String_isLatin1 1 (some .boolean) :: tb) ({ frames := 0, cells := 0, slots := 0, locals := 0 } : Room) (PreC E [.ref (eK E w)] X) (PostI E 1 X) 0 0 (Ad E) := by
  refine met_of (by decide) (Nat.le_of_ble_eq_true rfl) (fun p e s m below meth c C hS ls hl => ?_)
  replace C : Cx p s m ([.ref (eK E w)] : List Value).toArray meth c c_String_isLatin1 1 "java/lang/String" (some .boolean) E := C
  replace hl : lv_has ls 1 [(0, .ref (eK E w))] := hl
  obtain ⟨hx, hb, hml, hown, hts, hrt, hlk, hKx⟩ := id C
  refine va_gets hx hb hKx.2.2.2.2.2.1 hS.2 hown (hts _ tw_629) (fun _ h => h) d_String_isLatin1_0 ?_
  refine lv_if_eq (tgt := 17) hx hb d_String_isLatin1_3 (by decide) (fun q => absurd q (by decide)) (fun _ => ?_)
  refine lv_aload_n hx hb d_String_isLatin1_6 rfl (lv_at hl 0 rfl) ?_
  refine vk_getf hx hb (hKx.2.2.2.2.1.1 w hw).2.1 hS.2 hown (hts _ tw_1209) (fun _ h => h) d_String_isLatin1_7 ?_
  refine lv_if_ne (tgt := 17) hx hb d_String_isLatin1_10 (by decide) (fun q => absurd rfl q) (fun _ => ?_)
  refine lv_iconst (v := 1) hx hb d_String_isLatin1_13 (by decide) ?_
  refine lv_goto (tgt := 18) hx hb d_String_isLatin1_14 (by decide) ?_
  exact r_nret C hS rfl rfl rfl d_String_isLatin1_18
set_option maxRecDepth 100000 in
theorem k_String_length {l : Launch} {E : En} {X : Mem} {w : Nat} {r : Int32} (h : f_String_length w = some r) : Met l y_String_length (Cond.code y_String_length c_String_length 1 (some .int) :: tb) ({ frames := 3, cells := 0, slots := 0, locals := 80 } : Room) (PreC E [.ref (eK E w)] X) (PostI E r X) 0 0 (Ad E) := by
  refine met_of (by decide) (Nat.le_of_ble_eq_true rfl) (fun p e s m below meth c C hS ls hl => ?_)
  replace C : Cx p s m ([.ref (eK E w)] : List Value).toArray meth c c_String_length 1 "java/lang/String" (some .int) E := C
  replace hl : lv_has ls 1 [(0, .ref (eK E w))] := hl
  obtain ⟨hx, hb, hml, hown, hts, hrt, hlk, hKx⟩ := id C
  obtain ⟨hw, h⟩ := if_tr h
  have hT := (hKx.2.2.2.2.1.1 w hw).2.2.2
  refine lv_aload_n hx hb d_String_length_0 rfl (lv_at hl 0 rfl) ?_
  refine vk_getf hx hb (hKx.2.2.2.2.1.1 w hw).2.2.1 hS.2 hown (hts _ tw_1208) (fun _ h => h) d_String_length_1 ?_
  refine va_tlen (v := nI (slen.getD w 0)) hx hb hT hS.2 rfl d_String_length_4 ?_
  refine lv_aload_n hx hb d_String_length_5 rfl (lv_at hl 0 rfl) ?_
  refine c_I hS (c_runStr (As := []) (rest := [.int (nI (slen.getD w 0))]) C hS hw (k_String_coder (l := l) (E := E) (X := X) hw) cw_String_coder ini_String_coder ins_String_coder sel_String_coder tw_625 hd_String_coder rfl ⟨⟨rfl, rfl⟩, (Nat.le_of_ble_eq_true rfl), (Nat.le_of_ble_eq_true rfl)⟩ ⟨(Nat.le_of_ble_eq_true rfl), (Nat.le_of_ble_eq_true rfl)⟩ hl.1 rfl (Nat.le_of_ble_eq_true rfl) d_String_length_6) (fun H locs hS => ?_)
  refine lv_ishr hx hb d_String_length_9 ?_
  have e1 : nI (slen.getD w 0) >>> ((0 : Int32) &&& 31) = r := by
    rw [sc_shr0 (sl_all w hw)]; exact Option.some.inj h
  exact r_nret C hS rfl rfl e1 d_String_length_10
set_option maxRecDepth 100000 in
theorem k_Pre_checkIndex {l : Launch} {E : En} {X : Mem} {i : Int32} {n : Nat} {v : Value} (hv : v = .null ∨ ∃ t, v = .ref t) (hi : ck i n = true) (hn : n < 2 ^ 31) : Met l y_Pre_checkIndex (Cond.code y_Pre_checkIndex c_Pre_checkIndex 3 (some .int) :: tb) ({ frames := 0, cells := 0, slots := 0, locals := 0 } : Room) (PreC E [.int i, .int (nI n), v] X) (PostI E i X) 0 0 (Ad E) := by
  obtain ⟨j, hj, rfl⟩ := vp_in_of (ck_in hi) hn
  have hlen : (lg_sl [Value.int (nI j), .int (nI n), v]).length ≤ 3 := by rcases hv with rfl | ⟨t, rfl⟩ <;> exact (Nat.le_of_ble_eq_true rfl)
  refine met_of (by decide) hlen (fun p e s m below meth c C hS ls hl => ?_)
  replace C : Cx p s m ([.int (nI j), .int (nI n), v] : List Value).toArray meth c c_Pre_checkIndex 3 "jdk/internal/util/Preconditions" (some .int) E := C
  replace hl : lv_has ls 3 [(0, .int (nI j)), (1, .int (nI n)), (2, v)] := hl
  obtain ⟨hx, hb, hml, hown, hts, hrt, hlk, hKx⟩ := id C
  refine lv_iload_n hx hb d_Pre_checkIndex_0 rfl (lv_at hl 0 rfl) ?_
  refine lv_if_lt (tgt := 9) hx hb d_Pre_checkIndex_1 (by decide) (fun q => absurd q (nI_pos (by omega))) (fun _ => ?_)
  refine lv_iload_n hx hb d_Pre_checkIndex_4 rfl (lv_at hl 0 rfl) ?_
  refine lv_iload_n hx hb d_Pre_checkIndex_5 rfl (lv_at hl 1 rfl) ?_
  refine lv_icmp_lt (tgt := 16) hx hb d_Pre_checkIndex_6 (by decide) (fun _ => ?_) (fun q => absurd (nI_lt hj hn) q)
  refine lv_iload_n hx hb d_Pre_checkIndex_16 rfl (lv_at hl 0 rfl) ?_
  exact r_nret C hS rfl rfl rfl d_Pre_checkIndex_17
set_option maxRecDepth 100000 in
theorem k_String_checkIndex {l : Launch} {E : En} {X : Mem} {i : Int32} {n : Nat} (hi : ck i n = true) (hn : n < 2 ^ 31) : Met l y_String_checkIndex (Cond.code y_String_checkIndex c_String_checkIndex 2 none :: tb) ({ frames := 1, cells := 0, slots := 0, locals := 30 } : Room) (PreC E [.int i, .int (nI n)] X) (PostV E X) 0 0 (Ad E) := by
  refine met_of (by decide) (Nat.le_of_ble_eq_true rfl) (fun p e s m below meth c C hS ls hl => ?_)
  replace C : Cx p s m ([.int i, .int (nI n)] : List Value).toArray meth c c_String_checkIndex 2 "java/lang/String" none E := C
  replace hl : lv_has ls 2 [(0, .int i), (1, .int (nI n))] := hl
  obtain ⟨hx, hb, hml, hown, hts, hrt, hlk, hKx⟩ := id C
  refine lv_iload_n hx hb d_String_checkIndex_0 rfl (lv_at hl 0 rfl) ?_
  refine lv_iload_n hx hb d_String_checkIndex_1 rfl (lv_at hl 1 rfl) ?_
  rcases hKx.2.2.2.2.2.2 with hZ | ⟨t, hZ⟩
  · refine va_gets hx hb hZ hS.2 hown (hts _ tw_645) (fun _ h => h) d_String_checkIndex_2 ?_
    refine c_I hS (c_runS (As := [.int i, .int (nI n), .null]) (rest := []) C hS (k_Pre_checkIndex (l := l) (E := E) (X := X) (Or.inl rfl) hi hn) cw_Pre_checkIndex ini_Pre_checkIndex sta_Pre_checkIndex tw_647 hd_Pre_checkIndex rfl ⟨⟨rfl, rfl⟩, (Nat.le_of_ble_eq_true rfl), (Nat.le_of_ble_eq_true rfl)⟩ ⟨(Nat.le_of_ble_eq_true rfl), (Nat.le_of_ble_eq_true rfl)⟩ hl.1 rfl (Nat.le_of_ble_eq_true rfl) d_String_checkIndex_5) (fun H locs hS => ?_)
    refine lv_pop hx hb d_String_checkIndex_8 rfl ?_
    exact r_vret C hS rfl rfl d_String_checkIndex_9
  · refine va_gets hx hb hZ hS.2 hown (hts _ tw_645) (fun _ h => h) d_String_checkIndex_2 ?_
    refine c_I hS (c_runS (As := [.int i, .int (nI n), .ref t]) (rest := []) C hS (k_Pre_checkIndex (l := l) (E := E) (X := X) (Or.inr ⟨t, rfl⟩) hi hn) cw_Pre_checkIndex ini_Pre_checkIndex sta_Pre_checkIndex tw_647 hd_Pre_checkIndex rfl ⟨⟨rfl, rfl⟩, (Nat.le_of_ble_eq_true rfl), (Nat.le_of_ble_eq_true rfl)⟩ ⟨(Nat.le_of_ble_eq_true rfl), (Nat.le_of_ble_eq_true rfl)⟩ hl.1 rfl (Nat.le_of_ble_eq_true rfl) d_String_checkIndex_5) (fun H locs hS => ?_)
    refine lv_pop hx hb d_String_checkIndex_8 rfl ?_
    exact r_vret C hS rfl rfl d_String_checkIndex_9
set_option maxRecDepth 100000 in
theorem k_Latin_charAt {l : Launch} {E : En} {X : Mem} {w : Nat} {i : Int32} (hw : w < 11) (hi : ck i (slen.getD w 0) = true) : Met l y_Latin_charAt (Cond.code y_Latin_charAt c_Latin_charAt 2 (some .char) :: tb) ({ frames := 2, cells := 0, slots := 0, locals := 60 } : Room) (PreC E [.ref (eV E w), .int i] X) (PostI E ((sbyt.getD w []).getD i.toNatClampNeg 0) X) 0 0 (Ad E) := by
  refine met_of (by decide) (Nat.le_of_ble_eq_true rfl) (fun p e s m below meth c C hS ls hl => ?_)
  replace C : Cx p s m ([.ref (eV E w), .int i] : List Value).toArray meth c c_Latin_charAt 2 "java/lang/StringLatin1" (some .char) E := C
  replace hl : lv_has ls 2 [(0, .ref (eV E w)), (1, .int i)] := hl
  obtain ⟨hx, hb, hml, hown, hts, hrt, hlk, hKx⟩ := id C
  have hT := (hKx.2.2.2.2.1.1 w hw).2.2.2
  have hb9 := sb_all w hw _ (ck_lt hi)
  refine lv_iload_n hx hb d_Latin_charAt_0 rfl (lv_at hl 1 rfl) ?_
  refine lv_aload_n hx hb d_Latin_charAt_1 rfl (lv_at hl 0 rfl) ?_
  refine va_tlen (v := nI (slen.getD w 0)) hx hb hT hS.2 rfl d_Latin_charAt_2 ?_
  refine c_V hS (c_runS (As := [.int i, .int (nI (slen.getD w 0))]) (rest := []) C hS (k_String_checkIndex (l := l) (E := E) (X := X) hi (sl_all w hw)) cw_String_checkIndex ini_String_checkIndex sta_String_checkIndex tw_642 hd_String_checkIndex rfl ⟨⟨rfl, rfl⟩, (Nat.le_of_ble_eq_true rfl), (Nat.le_of_ble_eq_true rfl)⟩ ⟨(Nat.le_of_ble_eq_true rfl), (Nat.le_of_ble_eq_true rfl)⟩ hl.1 rfl (Nat.le_of_ble_eq_true rfl) d_Latin_charAt_3) (fun H locs hS => ?_)
  refine lv_aload_n hx hb d_Latin_charAt_6 rfl (lv_at hl 0 rfl) ?_
  refine lv_iload_n hx hb d_Latin_charAt_7 rfl (lv_at hl 1 rfl) ?_
  refine va_tb hx hb hT hS.2 (ck_in hi) rfl d_Latin_charAt_8 ?_
  refine lv_sipush (v := 255) hx hb d_Latin_charAt_9 (by decide) ?_
  refine lv_iand hx hb d_Latin_charAt_12 ?_
  refine lv_i2c hx hb d_Latin_charAt_13 hb9.1 ?_
  exact r_nret C hS rfl hb9.2 rfl d_Latin_charAt_14
set_option maxRecDepth 100000 in
theorem k_String_charAt {l : Launch} {E : En} {X : Mem} {w : Nat} {i r : Int32} (h : f_String_charAt w i = some r) : Met l y_String_charAt (Cond.code y_String_charAt c_String_charAt 2 (some .char) :: tb) ({ frames := 6, cells := 0, slots := 0, locals := 160 } : Room) (PreC E [.ref (eK E w), .int i] X) (PostI E r X) 0 0 (Ad E) := by
  refine met_of (by decide) (Nat.le_of_ble_eq_true rfl) (fun p e s m below meth c C hS ls hl => ?_)
  replace C : Cx p s m ([.ref (eK E w), .int i] : List Value).toArray meth c c_String_charAt 2 "java/lang/String" (some .char) E := C
  replace hl : lv_has ls 2 [(0, .ref (eK E w)), (1, .int i)] := hl
  obtain ⟨hx, hb, hml, hown, hts, hrt, hlk, hKx⟩ := id C
  obtain ⟨⟨hw, hi⟩, h⟩ := if_tr h
  have hb9 := sb_all w hw _ (ck_lt hi)
  refine lv_aload_n hx hb d_String_charAt_0 rfl (lv_at hl 0 rfl) ?_
  refine c_I hS (c_runStr (As := []) (rest := []) C hS hw (k_String_isLatin1 (l := l) (E := E) (X := X) hw) cw_String_isLatin1 ini_String_isLatin1 ins_String_isLatin1 sel_String_isLatin1 tw_635 hd_String_isLatin1 rfl ⟨⟨rfl, rfl⟩, (Nat.le_of_ble_eq_true rfl), (Nat.le_of_ble_eq_true rfl)⟩ ⟨(Nat.le_of_ble_eq_true rfl), (Nat.le_of_ble_eq_true rfl)⟩ hl.1 rfl (Nat.le_of_ble_eq_true rfl) d_String_charAt_1) (fun H locs hS => ?_)
  refine lv_if_eq (tgt := 16) hx hb d_String_charAt_4 (by decide) (fun q => absurd q (by decide)) (fun _ => ?_)
  refine lv_aload_n hx hb d_String_charAt_7 rfl (lv_at hl 0 rfl) ?_
  refine vk_getf hx hb (hKx.2.2.2.2.1.1 w hw).2.2.1 hS.2 hown (hts _ tw_1208) (fun _ h => h) d_String_charAt_8 ?_
  refine lv_iload_n hx hb d_String_charAt_11 rfl (lv_at hl 1 rfl) ?_
  refine c_I hS (c_runS (As := [.ref (eV E w), .int i]) (rest := []) C hS (k_Latin_charAt (l := l) (E := E) (X := X) hw hi) cw_Latin_charAt ini_Latin_charAt sta_Latin_charAt tw_639 hd_Latin_charAt rfl ⟨⟨rfl, rfl⟩, (Nat.le_of_ble_eq_true rfl), (Nat.le_of_ble_eq_true rfl)⟩ ⟨(Nat.le_of_ble_eq_true rfl), (Nat.le_of_ble_eq_true rfl)⟩ hl.1 rfl (Nat.le_of_ble_eq_true rfl) d_String_charAt_12) (fun H locs hS => ?_)
  exact r_nret C hS rfl hb9.2 (Option.some.inj h) d_String_charAt_15
