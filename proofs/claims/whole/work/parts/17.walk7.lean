set_option maxHeartbeats 4000000 in
set_option maxRecDepth 100000 in
theorem k_Model_isNumber_j30 {p : Program} {l : Launch} {e : Env} {s : State} {m : MethodId} {args : Array Value} {below : List Frame} {meth : Method} {c : Code} {E : En} {r : Int32} {Y : Mem} (C : Cx p s m args meth c c_Model_isNumber 3 "TideLoansModel" (some .boolean) E) {X : Mem} (h : f_Model_isNumber_j30 X = some (r, Y)) {H : Heap} {locs : List Loc} (hS : Hs E s.heap X H locs) {ls : Array Slot} (hl : lv_has ls 3 []) : W p l e ({ frames := 1, cells := 0, slots := 0, locals := 25 } : Room) s m args below meth c H locs 0 0 (MQ below (PostI E r Y) args s 0 0 (Ad E)) (F0 m 30 ls []) := by
  obtain ⟨hx, hb, hml, hown, hts, hrt, hlk, hKx⟩ := id C
  unfold f_Model_isNumber_j30 at h
  refine lv_iconst (v := 1) hx hb d_Model_isNumber_30 (by decide) ?_
  refine lv_goto (tgt := 35) hx hb d_Model_isNumber_31 (by decide) ?_
  exact r_zret C hS rfl (Or.inr rfl) h d_Model_isNumber_35
set_option maxHeartbeats 4000000 in
set_option maxRecDepth 100000 in
theorem k_Model_isNumber_j23 {p : Program} {l : Launch} {e : Env} {s : State} {m : MethodId} {args : Array Value} {below : List Frame} {meth : Method} {c : Code} {E : En} {r : Int32} {Y : Mem} (C : Cx p s m args meth c c_Model_isNumber 3 "TideLoansModel" (some .boolean) E) {X : Mem} (h : f_Model_isNumber_j23 X = some (r, Y)) {H : Heap} {locs : List Loc} (hS : Hs E s.heap X H locs) {ls : Array Slot} (hl : lv_has ls 3 [(0, .ref (ad E 70))]) : W p l e ({ frames := 1, cells := 0, slots := 0, locals := 25 } : Room) s m args below meth c H locs 0 0 (MQ below (PostI E r Y) args s 0 0 (Ad E)) (F0 m 23 ls []) := by
  obtain ⟨hx, hb, hml, hown, hts, hrt, hlk, hKx⟩ := id C
  unfold f_Model_isNumber_j23 at h
  refine lv_aload_n hx hb d_Model_isNumber_23 rfl (lv_at hl 0 rfl) ?_
  obtain ⟨v1, X3, hr2, h⟩ := bd2_el h
  refine c_I hS (c_runV (As := []) (rest := []) C hS (by decide) cel_Model (rfl : cls[6]? = some (R_Model, T_Model, 16)) (k_Model_fails (l := l) (E := E) (X := X) hr2) cw_Model_fails ini_Model_fails ins_Model_fails sel_Model_fails tw_1126 hd_Model_fails rfl ⟨⟨rfl, rfl⟩, (Nat.le_of_ble_eq_true rfl), (Nat.le_of_ble_eq_true rfl)⟩ ⟨(Nat.le_of_ble_eq_true rfl), (Nat.le_of_ble_eq_true rfl)⟩ hl.1 rfl (Nat.le_of_ble_eq_true rfl) d_Model_isNumber_24) (fun H locs hS => ?_)
  refine r_if_eq (tgt := 34) C h d_Model_isNumber_27 (by decide) (fun h => ?_) (fun h => ?_)
  · skip
    refine lv_iconst (v := 0) hx hb d_Model_isNumber_34 (by decide) ?_
    exact r_zret C hS rfl (Or.inl rfl) h d_Model_isNumber_35
  · skip
    exact k_Model_isNumber_j30 C h hS (lv_sub hl [] rfl)
set_option maxHeartbeats 4000000 in
set_option maxRecDepth 100000 in
theorem k_Model_isNumber {l : Launch} {E : En} {p1 : Int32} {p2 : Int32} {X : Mem} {r : Int32} {Y : Mem} (h : f_Model_isNumber p1 p2 X = some (r, Y)) : Met l y_Model_isNumber (Cond.code y_Model_isNumber c_Model_isNumber 3 (some .boolean) :: tb) ({ frames := 1, cells := 0, slots := 0, locals := 25 } : Room) (PreC E [.ref (ad E 70), .int p1, .int p2] X) (PostI E r Y) 0 0 (Ad E) := by
  refine met_of (by decide) (Nat.le_of_ble_eq_true rfl) (fun p e s m below meth c C hS ls hl => ?_)
  replace C : Cx p s m ([.ref (ad E 70), .int p1, .int p2] : List Value).toArray meth c c_Model_isNumber 3 "TideLoansModel" (some .boolean) E := C
  replace hl : lv_has ls 3 [(0, .ref (ad E 70)), (1, .int p1), (2, .int p2)] := hl
  obtain ⟨hx, hb, hml, hown, hts, hrt, hlk, hKx⟩ := id C
  unfold f_Model_isNumber at h
  refine lv_aload_n hx hb d_Model_isNumber_0 rfl (lv_at hl 0 rfl) ?_
  refine r_getI C hS (by decide) cel_Model (rfl : cls[6]? = some (R_Model, T_Model, 16)) in_Model 11 (by decide) tw_805 rfl h d_Model_isNumber_1 (fun v1 h => ?_)
  refine lv_iconst (v := 2) hx hb d_Model_isNumber_4 (by decide) ?_
  refine r_icmp_ne (tgt := 23) C h d_Model_isNumber_5 (by decide) (fun h => ?_) (fun h => ?_)
  · skip
    exact k_Model_isNumber_j23 C h hS (lv_sub hl [0] rfl)
  · skip
    refine lv_aload_n hx hb d_Model_isNumber_8 rfl (lv_at hl 0 rfl) ?_
    refine r_getI C hS (by decide) cel_Model (rfl : cls[6]? = some (R_Model, T_Model, 16)) in_Model 14 (by decide) tw_808 rfl h d_Model_isNumber_9 (fun v2 h => ?_)
    refine lv_i2l hx hb d_Model_isNumber_12 rfl ?_
    refine lv_iload_n hx hb d_Model_isNumber_13 rfl (lv_at hl 1 rfl) ?_
    refine lv_i2l hx hb d_Model_isNumber_14 rfl ?_
    refine lv_iload_n hx hb d_Model_isNumber_15 rfl (lv_at hl 2 rfl) ?_
    refine lv_i2l hx hb d_Model_isNumber_16 rfl ?_
    obtain ⟨v3, hr4, h⟩ := bd_el h
    refine c_I hS (c_runS (As := [.long (v2.toInt64), .long (p1.toInt64), .long (p2.toInt64)]) (rest := []) C hS (k_Model_isIn (l := l) (E := E) (X := X) hr4) cw_Model_isIn ini_Model_isIn sta_Model_isIn tw_851 hd_Model_isIn rfl ⟨⟨rfl, rfl⟩, (Nat.le_of_ble_eq_true rfl), (Nat.le_of_ble_eq_true rfl)⟩ ⟨(Nat.le_of_ble_eq_true rfl), (Nat.le_of_ble_eq_true rfl)⟩ hl.1 rfl (Nat.le_of_ble_eq_true rfl) d_Model_isNumber_17) (fun H locs hS => ?_)
    refine r_if_ne (tgt := 30) C h d_Model_isNumber_20 (by decide) (fun h => ?_) (fun h => ?_)
    · skip
      exact k_Model_isNumber_j30 C h hS (lv_sub hl [] rfl)
    · skip
      exact k_Model_isNumber_j23 C h hS (lv_sub hl [0] rfl)
set_option maxHeartbeats 4000000 in
set_option maxRecDepth 100000 in
theorem k_Model_isTwo {l : Launch} {E : En} {p1 : Int32} {p2 : Int32} {X : Mem} {r : Int32} (h : f_Model_isTwo p1 p2 X = some r) : Met l y_Model_isTwo (Cond.code y_Model_isTwo c_Model_isTwo 3 (some .boolean) :: tb) ({ frames := 1, cells := 0, slots := 0, locals := 21 } : Room) (PreC E [.ref (ad E 70), .int p1, .int p2] X) (PostI E r X) 0 0 (Ad E) := by
  refine met_of (by decide) (Nat.le_of_ble_eq_true rfl) (fun p e s m below meth c C hS ls hl => ?_)
  replace C : Cx p s m ([.ref (ad E 70), .int p1, .int p2] : List Value).toArray meth c c_Model_isTwo 3 "TideLoansModel" (some .boolean) E := C
  replace hl : lv_has ls 3 [(0, .ref (ad E 70)), (1, .int p1), (2, .int p2)] := hl
  obtain ⟨hx, hb, hml, hown, hts, hrt, hlk, hKx⟩ := id C
  unfold f_Model_isTwo at h
  refine lv_aload_n hx hb d_Model_isTwo_0 rfl (lv_at hl 0 rfl) ?_
  refine lv_iconst (v := 2) hx hb d_Model_isTwo_1 (by decide) ?_
  obtain ⟨v1, hr2, h⟩ := bd_el h
  refine c_I hS (c_runV (As := [.int (2 : Int32)]) (rest := []) C hS (by decide) cel_Model (rfl : cls[6]? = some (R_Model, T_Model, 16)) (k_Model_isWord (l := l) (E := E) (X := X) hr2) cw_Model_isWord ini_Model_isWord ins_Model_isWord sel_Model_isWord tw_1110 hd_Model_isWord rfl ⟨⟨rfl, rfl⟩, (Nat.le_of_ble_eq_true rfl), (Nat.le_of_ble_eq_true rfl)⟩ ⟨(Nat.le_of_ble_eq_true rfl), (Nat.le_of_ble_eq_true rfl)⟩ hl.1 rfl (Nat.le_of_ble_eq_true rfl) d_Model_isTwo_2) (fun H locs hS => ?_)
  refine r_if_eq (tgt := 38) C h d_Model_isTwo_5 (by decide) (fun h => ?_) (fun h => ?_)
  · skip
    refine lv_iconst (v := 0) hx hb d_Model_isTwo_38 (by decide) ?_
    exact r_zret0 C hS rfl (Or.inl rfl) h d_Model_isTwo_39
  · skip
    refine lv_aload_n hx hb d_Model_isTwo_8 rfl (lv_at hl 0 rfl) ?_
    refine lv_aload_n hx hb d_Model_isTwo_9 rfl (lv_at hl 0 rfl) ?_
    refine r_getI C hS (by decide) cel_Model (rfl : cls[6]? = some (R_Model, T_Model, 16)) in_Model 12 (by decide) tw_806 rfl h d_Model_isTwo_10 (fun v3 h => ?_)
    obtain ⟨v4, hr5, h⟩ := bd_el h
    refine c_I hS (c_runV (As := [.int v3]) (rest := []) C hS (by decide) cel_Model (rfl : cls[6]? = some (R_Model, T_Model, 16)) (k_Model_byteAt (l := l) (E := E) (X := X) hr5) cw_Model_byteAt ini_Model_byteAt ins_Model_byteAt sel_Model_byteAt tw_1088 hd_Model_byteAt rfl ⟨⟨rfl, rfl⟩, (Nat.le_of_ble_eq_true rfl), (Nat.le_of_ble_eq_true rfl)⟩ ⟨(Nat.le_of_ble_eq_true rfl), (Nat.le_of_ble_eq_true rfl)⟩ hl.1 rfl (Nat.le_of_ble_eq_true rfl) d_Model_isTwo_13) (fun H locs hS => ?_)
    refine lv_iload_n hx hb d_Model_isTwo_16 rfl (lv_at hl 1 rfl) ?_
    refine r_icmp_ne (tgt := 38) C h d_Model_isTwo_17 (by decide) (fun h => ?_) (fun h => ?_)
    · skip
      refine lv_iconst (v := 0) hx hb d_Model_isTwo_38 (by decide) ?_
      exact r_zret0 C hS rfl (Or.inl rfl) h d_Model_isTwo_39
    · skip
      refine lv_aload_n hx hb d_Model_isTwo_20 rfl (lv_at hl 0 rfl) ?_
      refine lv_aload_n hx hb d_Model_isTwo_21 rfl (lv_at hl 0 rfl) ?_
      refine r_getI C hS (by decide) cel_Model (rfl : cls[6]? = some (R_Model, T_Model, 16)) in_Model 12 (by decide) tw_806 rfl h d_Model_isTwo_22 (fun v6 h => ?_)
      refine lv_iconst (v := 1) hx hb d_Model_isTwo_25 (by decide) ?_
      refine lv_iadd hx hb d_Model_isTwo_26 ?_
      obtain ⟨v7, hr8, h⟩ := bd_el h
      refine c_I hS (c_runV (As := [.int (v6 + (1 : Int32))]) (rest := []) C hS (by decide) cel_Model (rfl : cls[6]? = some (R_Model, T_Model, 16)) (k_Model_byteAt (l := l) (E := E) (X := X) hr8) cw_Model_byteAt ini_Model_byteAt ins_Model_byteAt sel_Model_byteAt tw_1088 hd_Model_byteAt rfl ⟨⟨rfl, rfl⟩, (Nat.le_of_ble_eq_true rfl), (Nat.le_of_ble_eq_true rfl)⟩ ⟨(Nat.le_of_ble_eq_true rfl), (Nat.le_of_ble_eq_true rfl)⟩ hl.1 rfl (Nat.le_of_ble_eq_true rfl) d_Model_isTwo_27) (fun H locs hS => ?_)
      refine lv_iload_n hx hb d_Model_isTwo_30 rfl (lv_at hl 2 rfl) ?_
      refine r_icmp_ne (tgt := 38) C h d_Model_isTwo_31 (by decide) (fun h => ?_) (fun h => ?_)
      · skip
        refine lv_iconst (v := 0) hx hb d_Model_isTwo_38 (by decide) ?_
        exact r_zret0 C hS rfl (Or.inl rfl) h d_Model_isTwo_39
      · skip
        refine lv_iconst (v := 1) hx hb d_Model_isTwo_34 (by decide) ?_
        refine lv_goto (tgt := 39) hx hb d_Model_isTwo_35 (by decide) ?_
        exact r_zret0 C hS rfl (Or.inr rfl) h d_Model_isTwo_39
set_option maxHeartbeats 4000000 in
set_option maxRecDepth 100000 in
theorem k_Model_thingHere_j125 {p : Program} {l : Launch} {e : Env} {s : State} {m : MethodId} {args : Array Value} {below : List Frame} {meth : Method} {c : Code} {E : En} {r : Int32} {Y : Mem} (C : Cx p s m args meth c c_Model_thingHere 3 "TideLoansModel" (some .boolean) E) {x2 : Int32} {X : Mem} (h : f_Model_thingHere_j125 x2 X = some (r, Y)) {H : Heap} {locs : List Loc} (hS : Hs E s.heap X H locs) {ls : Array Slot} (hl : lv_has ls 3 [(0, .ref (ad E 70)), (2, .int x2)]) : W p l e ({ frames := 3, cells := 0, slots := 0, locals := 70 } : Room) s m args below meth c H locs 0 0 (MQ below (PostI E r Y) args s 0 0 (Ad E)) (F0 m 125 ls []) := by
  obtain ⟨hx, hb, hml, hown, hts, hrt, hlk, hKx⟩ := id C
  unfold f_Model_thingHere_j125 at h
  refine lv_aload_n hx hb d_Model_thingHere_125 rfl (lv_at hl 0 rfl) ?_
  refine lv_bipush (v := 97) hx hb d_Model_thingHere_126 (by decide) ?_
  refine lv_bipush (v := 116) hx hb d_Model_thingHere_128 (by decide) ?_
  obtain ⟨v1, hr2, h⟩ := bd_el h
  refine c_I hS (c_runV (As := [.int (97 : Int32), .int (116 : Int32)]) (rest := []) C hS (by decide) cel_Model (rfl : cls[6]? = some (R_Model, T_Model, 16)) (k_Model_isTwo (l := l) (E := E) (X := X) hr2) cw_Model_isTwo ini_Model_isTwo ins_Model_isTwo sel_Model_isTwo tw_1130 hd_Model_isTwo rfl ⟨⟨rfl, rfl⟩, (Nat.le_of_ble_eq_true rfl), (Nat.le_of_ble_eq_true rfl)⟩ ⟨(Nat.le_of_ble_eq_true rfl), (Nat.le_of_ble_eq_true rfl)⟩ hl.1 rfl (Nat.le_of_ble_eq_true rfl) d_Model_thingHere_130) (fun H locs hS => ?_)
  refine r_if_ne (tgt := 138) C h d_Model_thingHere_133 (by decide) (fun h => ?_) (fun h => ?_)
  · skip
    refine lv_aload_n hx hb d_Model_thingHere_138 rfl (lv_at hl 0 rfl) ?_
    obtain ⟨X4, hr3, h⟩ := bd_el h
    refine c_V hS (c_runV (As := []) (rest := []) C hS (by decide) cel_Model (rfl : cls[6]? = some (R_Model, T_Model, 16)) (k_Model_nextToken (l := l) (E := E) (X := X) hr3) cw_Model_nextToken ini_Model_nextToken ins_Model_nextToken sel_Model_nextToken tw_1084 hd_Model_nextToken rfl ⟨⟨rfl, rfl⟩, (Nat.le_of_ble_eq_true rfl), (Nat.le_of_ble_eq_true rfl)⟩ ⟨(Nat.le_of_ble_eq_true rfl), (Nat.le_of_ble_eq_true rfl)⟩ hl.1 rfl (Nat.le_of_ble_eq_true rfl) d_Model_thingHere_139) (fun H locs hS => ?_)
    refine lv_aload_n hx hb d_Model_thingHere_142 rfl (lv_at hl 0 rfl) ?_
    refine lv_iconst (v := 0) hx hb d_Model_thingHere_143 (by decide) ?_
    refine lv_bipush (v := 15) hx hb d_Model_thingHere_144 (by decide) ?_
    obtain ⟨v5, X7, hr6, h⟩ := bd2_el h
    refine c_I hS (c_runV (As := [.int (0 : Int32), .int (15 : Int32)]) (rest := []) C hS (by decide) cel_Model (rfl : cls[6]? = some (R_Model, T_Model, 16)) (k_Model_isNumber (l := l) (E := E) (X := X4) hr6) cw_Model_isNumber ini_Model_isNumber ins_Model_isNumber sel_Model_isNumber tw_1134 hd_Model_isNumber rfl ⟨⟨rfl, rfl⟩, (Nat.le_of_ble_eq_true rfl), (Nat.le_of_ble_eq_true rfl)⟩ ⟨(Nat.le_of_ble_eq_true rfl), (Nat.le_of_ble_eq_true rfl)⟩ hl.1 rfl (Nat.le_of_ble_eq_true rfl) d_Model_thingHere_146) (fun H locs hS => ?_)
    refine r_if_ne (tgt := 154) C h d_Model_thingHere_149 (by decide) (fun h => ?_) (fun h => ?_)
    · skip
      refine lv_aload_n hx hb d_Model_thingHere_154 rfl (lv_at hl 0 rfl) ?_
      refine lv_iload_n hx hb d_Model_thingHere_155 rfl (lv_at hl 1 rfl) ?_
      refine lv_aload_n hx hb d_Model_thingHere_156 rfl (lv_at hl 0 rfl) ?_
      refine r_getI C hS (by decide) cel_Model (rfl : cls[6]? = some (R_Model, T_Model, 16)) in_Model 14 (by decide) tw_808 rfl h d_Model_thingHere_157 (fun v8 h => ?_)
      obtain ⟨X10, hr9, h⟩ := bd_el h
      refine c_V hS (c_runV (As := [.int x2, .int v8]) (rest := []) C hS (by decide) cel_Model (rfl : cls[6]? = some (R_Model, T_Model, 16)) (k_Model_lies (l := l) (E := E) (X := X7) hr9) cw_Model_lies ini_Model_lies ins_Model_lies sel_Model_lies tw_959 hd_Model_lies rfl ⟨⟨rfl, rfl⟩, (Nat.le_of_ble_eq_true rfl), (Nat.le_of_ble_eq_true rfl)⟩ ⟨(Nat.le_of_ble_eq_true rfl), (Nat.le_of_ble_eq_true rfl)⟩ hl.1 rfl (Nat.le_of_ble_eq_true rfl) d_Model_thingHere_160) (fun H locs hS => ?_)
      refine lv_aload_n hx hb d_Model_thingHere_163 rfl (lv_at hl 0 rfl) ?_
      obtain ⟨X12, hr11, h⟩ := bd_el h
      refine c_V hS (c_runV (As := []) (rest := []) C hS (by decide) cel_Model (rfl : cls[6]? = some (R_Model, T_Model, 16)) (k_Model_nextToken (l := l) (E := E) (X := X10) hr11) cw_Model_nextToken ini_Model_nextToken ins_Model_nextToken sel_Model_nextToken tw_1084 hd_Model_nextToken rfl ⟨⟨rfl, rfl⟩, (Nat.le_of_ble_eq_true rfl), (Nat.le_of_ble_eq_true rfl)⟩ ⟨(Nat.le_of_ble_eq_true rfl), (Nat.le_of_ble_eq_true rfl)⟩ hl.1 rfl (Nat.le_of_ble_eq_true rfl) d_Model_thingHere_164) (fun H locs hS => ?_)
      refine lv_iconst (v := 1) hx hb d_Model_thingHere_167 (by decide) ?_
      exact r_zret C hS rfl (Or.inr rfl) h d_Model_thingHere_168
    · skip
      refine lv_iconst (v := 0) hx hb d_Model_thingHere_152 (by decide) ?_
      exact r_zret C hS rfl (Or.inl rfl) h d_Model_thingHere_153
  · skip
    refine lv_iconst (v := 1) hx hb d_Model_thingHere_136 (by decide) ?_
    exact r_zret C hS rfl (Or.inr rfl) h d_Model_thingHere_137
set_option maxHeartbeats 4000000 in
set_option maxRecDepth 100000 in
theorem k_Model_thingHere {l : Launch} {E : En} {p1 : Int32} {X : Mem} {r : Int32} {Y : Mem} (h : f_Model_thingHere p1 X = some (r, Y)) : Met l y_Model_thingHere (Cond.code y_Model_thingHere c_Model_thingHere 3 (some .boolean) :: tb) ({ frames := 3, cells := 0, slots := 0, locals := 70 } : Room) (PreC E [.ref (ad E 70), .int p1] X) (PostI E r Y) 0 0 (Ad E) := by
  refine met_of (by decide) (Nat.le_of_ble_eq_true rfl) (fun p e s m below meth c C hS ls hl => ?_)
  replace C : Cx p s m ([.ref (ad E 70), .int p1] : List Value).toArray meth c c_Model_thingHere 3 "TideLoansModel" (some .boolean) E := C
  replace hl : lv_has ls 3 [(0, .ref (ad E 70)), (1, .int p1)] := hl
  obtain ⟨hx, hb, hml, hown, hts, hrt, hlk, hKx⟩ := id C
  unfold f_Model_thingHere at h
  refine lv_aload_n hx hb d_Model_thingHere_0 rfl (lv_at hl 0 rfl) ?_
  refine r_get C hS (by decide) cel_Model (rfl : cls[6]? = some (R_Model, T_Model, 16)) in_Model 0 (by decide) tw_794 rfl d_Model_thingHere_1 ?_
  refine lv_iconst (v := 0) hx hb d_Model_thingHere_4 (by decide) ?_
  refine r_ldI C hS (n := 83) rfl (by decide) h d_Model_thingHere_5 (fun v1 h => ?_)
  refine lv_bipush (v := 10) hx hb d_Model_thingHere_6 (by decide) ?_
  refine r_icmp_ne (tgt := 16) C h d_Model_thingHere_8 (by decide) (fun h => ?_) (fun h => ?_)
  · skip
    refine lv_aload_n hx hb d_Model_thingHere_16 rfl (lv_at hl 0 rfl) ?_
    obtain ⟨X3, hr2, h⟩ := bd_el h
    refine c_V hS (c_runV (As := []) (rest := []) C hS (by decide) cel_Model (rfl : cls[6]? = some (R_Model, T_Model, 16)) (k_Model_nextToken (l := l) (E := E) (X := X) hr2) cw_Model_nextToken ini_Model_nextToken ins_Model_nextToken sel_Model_nextToken tw_1084 hd_Model_nextToken rfl ⟨⟨rfl, rfl⟩, (Nat.le_of_ble_eq_true rfl), (Nat.le_of_ble_eq_true rfl)⟩ ⟨(Nat.le_of_ble_eq_true rfl), (Nat.le_of_ble_eq_true rfl)⟩ hl.1 rfl (Nat.le_of_ble_eq_true rfl) d_Model_thingHere_17) (fun H locs hS => ?_)
    refine lv_aload_n hx hb d_Model_thingHere_20 rfl (lv_at hl 0 rfl) ?_
    refine lv_bipush (v := 111) hx hb d_Model_thingHere_21 (by decide) ?_
    refine lv_bipush (v := 102) hx hb d_Model_thingHere_23 (by decide) ?_
    obtain ⟨v4, hr5, h⟩ := bd_el h
    refine c_I hS (c_runV (As := [.int (111 : Int32), .int (102 : Int32)]) (rest := []) C hS (by decide) cel_Model (rfl : cls[6]? = some (R_Model, T_Model, 16)) (k_Model_isTwo (l := l) (E := E) (X := X3) hr5) cw_Model_isTwo ini_Model_isTwo ins_Model_isTwo sel_Model_isTwo tw_1130 hd_Model_isTwo rfl ⟨⟨rfl, rfl⟩, (Nat.le_of_ble_eq_true rfl), (Nat.le_of_ble_eq_true rfl)⟩ ⟨(Nat.le_of_ble_eq_true rfl), (Nat.le_of_ble_eq_true rfl)⟩ hl.1 rfl (Nat.le_of_ble_eq_true rfl) d_Model_thingHere_25) (fun H locs hS => ?_)
    refine r_if_ne (tgt := 36) C h d_Model_thingHere_28 (by decide) (fun h => ?_) (fun h => ?_)
    · skip
      refine lv_aload_n hx hb d_Model_thingHere_36 rfl (lv_at hl 0 rfl) ?_
      obtain ⟨X7, hr6, h⟩ := bd_el h
      refine c_V hS (c_runV (As := []) (rest := []) C hS (by decide) cel_Model (rfl : cls[6]? = some (R_Model, T_Model, 16)) (k_Model_nextToken (l := l) (E := E) (X := X3) hr6) cw_Model_nextToken ini_Model_nextToken ins_Model_nextToken sel_Model_nextToken tw_1084 hd_Model_nextToken rfl ⟨⟨rfl, rfl⟩, (Nat.le_of_ble_eq_true rfl), (Nat.le_of_ble_eq_true rfl)⟩ ⟨(Nat.le_of_ble_eq_true rfl), (Nat.le_of_ble_eq_true rfl)⟩ hl.1 rfl (Nat.le_of_ble_eq_true rfl) d_Model_thingHere_37) (fun H locs hS => ?_)
      refine lv_aload_n hx hb d_Model_thingHere_40 rfl (lv_at hl 0 rfl) ?_
      refine lv_iconst (v := 0) hx hb d_Model_thingHere_41 (by decide) ?_
      refine lv_iconst (v := 3) hx hb d_Model_thingHere_42 (by decide) ?_
      obtain ⟨v8, X10, hr9, h⟩ := bd2_el h
      refine c_I hS (c_runV (As := [.int (0 : Int32), .int (3 : Int32)]) (rest := []) C hS (by decide) cel_Model (rfl : cls[6]? = some (R_Model, T_Model, 16)) (k_Model_isNumber (l := l) (E := E) (X := X7) hr9) cw_Model_isNumber ini_Model_isNumber ins_Model_isNumber sel_Model_isNumber tw_1134 hd_Model_isNumber rfl ⟨⟨rfl, rfl⟩, (Nat.le_of_ble_eq_true rfl), (Nat.le_of_ble_eq_true rfl)⟩ ⟨(Nat.le_of_ble_eq_true rfl), (Nat.le_of_ble_eq_true rfl)⟩ hl.1 rfl (Nat.le_of_ble_eq_true rfl) d_Model_thingHere_43) (fun H locs hS => ?_)
      refine r_if_ne (tgt := 51) C h d_Model_thingHere_46 (by decide) (fun h => ?_) (fun h => ?_)
      · skip
        refine lv_aload_n hx hb d_Model_thingHere_51 rfl (lv_at hl 0 rfl) ?_
        refine lv_iload_n hx hb d_Model_thingHere_52 rfl (lv_at hl 1 rfl) ?_
        refine lv_aload_n hx hb d_Model_thingHere_53 rfl (lv_at hl 0 rfl) ?_
        refine r_getI C hS (by decide) cel_Model (rfl : cls[6]? = some (R_Model, T_Model, 16)) in_Model 14 (by decide) tw_808 rfl h d_Model_thingHere_54 (fun v11 h => ?_)
        obtain ⟨X13, hr12, h⟩ := bd_el h
        refine c_V hS (c_runV (As := [.int p1, .int v11]) (rest := []) C hS (by decide) cel_Model (rfl : cls[6]? = some (R_Model, T_Model, 16)) (k_Model_comes (l := l) (E := E) (X := X10) hr12) cw_Model_comes ini_Model_comes ins_Model_comes sel_Model_comes tw_910 hd_Model_comes rfl ⟨⟨rfl, rfl⟩, (Nat.le_of_ble_eq_true rfl), (Nat.le_of_ble_eq_true rfl)⟩ ⟨(Nat.le_of_ble_eq_true rfl), (Nat.le_of_ble_eq_true rfl)⟩ hl.1 rfl (Nat.le_of_ble_eq_true rfl) d_Model_thingHere_57) (fun H locs hS => ?_)
        refine lv_aload_n hx hb d_Model_thingHere_60 rfl (lv_at hl 0 rfl) ?_
        refine r_get C hS (by decide) cel_Model (rfl : cls[6]? = some (R_Model, T_Model, 16)) in_Model 0 (by decide) tw_794 rfl d_Model_thingHere_61 ?_
        refine lv_iconst (v := 0) hx hb d_Model_thingHere_64 (by decide) ?_
        refine r_ldI C hS (n := 83) rfl (by decide) h d_Model_thingHere_65 (fun v14 h => ?_)
        refine lv_iconst (v := 1) hx hb d_Model_thingHere_66 (by decide) ?_
        refine lv_isub hx hb d_Model_thingHere_67 ?_
        refine r_top h (fun v15 h => ?_)
        refine lv_istore_n (lv' := [(2, .int v15), (0, .ref (ad E 70)), (1, .int p1)]) hx hb d_Model_thingHere_68 rfl hl (by decide) rfl (fun ls hl => ?_)
        refine lv_aload_n hx hb d_Model_thingHere_69 rfl (lv_at hl 1 rfl) ?_
        obtain ⟨X17, hr16, h⟩ := bd_el h
        refine c_V hS (c_runV (As := []) (rest := []) C hS (by decide) cel_Model (rfl : cls[6]? = some (R_Model, T_Model, 16)) (k_Model_nextToken (l := l) (E := E) (X := X13) hr16) cw_Model_nextToken ini_Model_nextToken ins_Model_nextToken sel_Model_nextToken tw_1084 hd_Model_nextToken rfl ⟨⟨rfl, rfl⟩, (Nat.le_of_ble_eq_true rfl), (Nat.le_of_ble_eq_true rfl)⟩ ⟨(Nat.le_of_ble_eq_true rfl), (Nat.le_of_ble_eq_true rfl)⟩ hl.1 rfl (Nat.le_of_ble_eq_true rfl) d_Model_thingHere_70) (fun H locs hS => ?_)
        refine lv_aload_n hx hb d_Model_thingHere_73 rfl (lv_at hl 1 rfl) ?_
        refine lv_bipush (v := 119) hx hb d_Model_thingHere_74 (by decide) ?_
        refine lv_bipush (v := 111) hx hb d_Model_thingHere_76 (by decide) ?_
        refine lv_bipush (v := 114) hx hb d_Model_thingHere_78 (by decide) ?_
        refine lv_bipush (v := 116) hx hb d_Model_thingHere_80 (by decide) ?_
        refine lv_bipush (v := 104) hx hb d_Model_thingHere_82 (by decide) ?_
        obtain ⟨v18, hr19, h⟩ := bd_el h
        refine c_I hS (c_runV (As := [.int (119 : Int32), .int (111 : Int32), .int (114 : Int32), .int (116 : Int32), .int (104 : Int32)]) (rest := []) C hS (by decide) cel_Model (rfl : cls[6]? = some (R_Model, T_Model, 16)) (k_Model_isFive (l := l) (E := E) (X := X17) hr19) cw_Model_isFive ini_Model_isFive ins_Model_isFive sel_Model_isFive tw_1106 hd_Model_isFive rfl ⟨⟨rfl, rfl⟩, (Nat.le_of_ble_eq_true rfl), (Nat.le_of_ble_eq_true rfl)⟩ ⟨(Nat.le_of_ble_eq_true rfl), (Nat.le_of_ble_eq_true rfl)⟩ hl.1 rfl (Nat.le_of_ble_eq_true rfl) d_Model_thingHere_84) (fun H locs hS => ?_)
        refine r_if_eq (tgt := 125) C h d_Model_thingHere_87 (by decide) (fun h => ?_) (fun h => ?_)
        · skip
          exact k_Model_thingHere_j125 C h hS (lv_sub hl [1, 0] rfl)
        · skip
          refine lv_aload_n hx hb d_Model_thingHere_90 rfl (lv_at hl 1 rfl) ?_
          obtain ⟨X21, hr20, h⟩ := bd_el h
          refine c_V hS (c_runV (As := []) (rest := []) C hS (by decide) cel_Model (rfl : cls[6]? = some (R_Model, T_Model, 16)) (k_Model_nextToken (l := l) (E := E) (X := X17) hr20) cw_Model_nextToken ini_Model_nextToken ins_Model_nextToken sel_Model_nextToken tw_1084 hd_Model_nextToken rfl ⟨⟨rfl, rfl⟩, (Nat.le_of_ble_eq_true rfl), (Nat.le_of_ble_eq_true rfl)⟩ ⟨(Nat.le_of_ble_eq_true rfl), (Nat.le_of_ble_eq_true rfl)⟩ hl.1 rfl (Nat.le_of_ble_eq_true rfl) d_Model_thingHere_91) (fun H locs hS => ?_)
          refine lv_aload_n hx hb d_Model_thingHere_94 rfl (lv_at hl 1 rfl) ?_
          refine lv_iconst (v := 0) hx hb d_Model_thingHere_95 (by decide) ?_
          refine lv_sipush (v := 9999) hx hb d_Model_thingHere_96 (by decide) ?_
          obtain ⟨v22, X24, hr23, h⟩ := bd2_el h
          refine c_I hS (c_runV (As := [.int (0 : Int32), .int (9999 : Int32)]) (rest := []) C hS (by decide) cel_Model (rfl : cls[6]? = some (R_Model, T_Model, 16)) (k_Model_isNumber (l := l) (E := E) (X := X21) hr23) cw_Model_isNumber ini_Model_isNumber ins_Model_isNumber sel_Model_isNumber tw_1134 hd_Model_isNumber rfl ⟨⟨rfl, rfl⟩, (Nat.le_of_ble_eq_true rfl), (Nat.le_of_ble_eq_true rfl)⟩ ⟨(Nat.le_of_ble_eq_true rfl), (Nat.le_of_ble_eq_true rfl)⟩ hl.1 rfl (Nat.le_of_ble_eq_true rfl) d_Model_thingHere_99) (fun H locs hS => ?_)
          refine r_if_ne (tgt := 107) C h d_Model_thingHere_102 (by decide) (fun h => ?_) (fun h => ?_)
          · skip
            refine lv_aload_n hx hb d_Model_thingHere_107 rfl (lv_at hl 1 rfl) ?_
            refine r_get C hS (by decide) cel_Model (rfl : cls[6]? = some (R_Model, T_Model, 16)) in_Model 0 (by decide) tw_794 rfl d_Model_thingHere_108 ?_
            refine lv_iload_n hx hb d_Model_thingHere_111 rfl (lv_at hl 0 rfl) ?_
            refine lv_iconst (v := 3) hx hb d_Model_thingHere_112 (by decide) ?_
            obtain ⟨v25, hr26, h⟩ := bd_el h
            refine c_I hS (c_runS (As := [.int v15, .int (3 : Int32)]) (rest := [.ref (ad E 71)]) C hS (k_Model_at (l := l) (E := E) (X := X24) hr26) cw_Model_at ini_Model_at sta_Model_at tw_914 hd_Model_at rfl ⟨⟨rfl, rfl⟩, (Nat.le_of_ble_eq_true rfl), (Nat.le_of_ble_eq_true rfl)⟩ ⟨(Nat.le_of_ble_eq_true rfl), (Nat.le_of_ble_eq_true rfl)⟩ hl.1 rfl (Nat.le_of_ble_eq_true rfl) d_Model_thingHere_113) (fun H locs hS => ?_)
            refine lv_aload_n hx hb d_Model_thingHere_116 rfl (lv_at hl 1 rfl) ?_
            refine r_getI C hS (by decide) cel_Model (rfl : cls[6]? = some (R_Model, T_Model, 16)) in_Model 14 (by decide) tw_808 rfl h d_Model_thingHere_117 (fun v27 h => ?_)
            refine r_stI C hS (n := 83) rfl (by decide) h d_Model_thingHere_120 (fun X28 H locs hS h => ?_)
            refine lv_aload_n hx hb d_Model_thingHere_121 rfl (lv_at hl 1 rfl) ?_
            obtain ⟨X30, hr29, h⟩ := bd_el h
            refine c_V hS (c_runV (As := []) (rest := []) C hS (by decide) cel_Model (rfl : cls[6]? = some (R_Model, T_Model, 16)) (k_Model_nextToken (l := l) (E := E) (X := X28) hr29) cw_Model_nextToken ini_Model_nextToken ins_Model_nextToken sel_Model_nextToken tw_1084 hd_Model_nextToken rfl ⟨⟨rfl, rfl⟩, (Nat.le_of_ble_eq_true rfl), (Nat.le_of_ble_eq_true rfl)⟩ ⟨(Nat.le_of_ble_eq_true rfl), (Nat.le_of_ble_eq_true rfl)⟩ hl.1 rfl (Nat.le_of_ble_eq_true rfl) d_Model_thingHere_122) (fun H locs hS => ?_)
            exact k_Model_thingHere_j125 C h hS (lv_sub hl [1, 0] rfl)
          · skip
            refine lv_iconst (v := 0) hx hb d_Model_thingHere_105 (by decide) ?_
            exact r_zret C hS rfl (Or.inl rfl) h d_Model_thingHere_106
      · skip
        refine lv_iconst (v := 0) hx hb d_Model_thingHere_49 (by decide) ?_
        exact r_zret C hS rfl (Or.inl rfl) h d_Model_thingHere_50
    · skip
      refine lv_aload_n hx hb d_Model_thingHere_31 rfl (lv_at hl 0 rfl) ?_
      obtain ⟨v31, X33, hr32, h⟩ := bd2_el h
      refine c_I hS (c_runV (As := []) (rest := []) C hS (by decide) cel_Model (rfl : cls[6]? = some (R_Model, T_Model, 16)) (k_Model_fails (l := l) (E := E) (X := X3) hr32) cw_Model_fails ini_Model_fails ins_Model_fails sel_Model_fails tw_1126 hd_Model_fails rfl ⟨⟨rfl, rfl⟩, (Nat.le_of_ble_eq_true rfl), (Nat.le_of_ble_eq_true rfl)⟩ ⟨(Nat.le_of_ble_eq_true rfl), (Nat.le_of_ble_eq_true rfl)⟩ hl.1 rfl (Nat.le_of_ble_eq_true rfl) d_Model_thingHere_32) (fun H locs hS => ?_)
      obtain ⟨hz, h⟩ := if_tr h
      exact r_zret C hS rfl hz h d_Model_thingHere_35
  · skip
    refine lv_aload_n hx hb d_Model_thingHere_11 rfl (lv_at hl 0 rfl) ?_
    obtain ⟨v34, X36, hr35, h⟩ := bd2_el h
    refine c_I hS (c_runV (As := []) (rest := []) C hS (by decide) cel_Model (rfl : cls[6]? = some (R_Model, T_Model, 16)) (k_Model_fails (l := l) (E := E) (X := X) hr35) cw_Model_fails ini_Model_fails ins_Model_fails sel_Model_fails tw_1126 hd_Model_fails rfl ⟨⟨rfl, rfl⟩, (Nat.le_of_ble_eq_true rfl), (Nat.le_of_ble_eq_true rfl)⟩ ⟨(Nat.le_of_ble_eq_true rfl), (Nat.le_of_ble_eq_true rfl)⟩ hl.1 rfl (Nat.le_of_ble_eq_true rfl) d_Model_thingHere_12) (fun H locs hS => ?_)
    obtain ⟨hz, h⟩ := if_tr h
    exact r_zret C hS rfl hz h d_Model_thingHere_15
set_option maxHeartbeats 4000000 in
set_option maxRecDepth 100000 in
theorem k_Model_heightHere {l : Launch} {E : En} {X : Mem} {r : Int32} {Y : Mem} (h : f_Model_heightHere X = some (r, Y)) : Met l y_Model_heightHere (Cond.code y_Model_heightHere c_Model_heightHere 2 (some .boolean) :: tb) ({ frames := 2, cells := 0, slots := 0, locals := 47 } : Room) (PreC E [.ref (ad E 70)] X) (PostI E r Y) 0 0 (Ad E) := by
  refine met_of (by decide) (Nat.le_of_ble_eq_true rfl) (fun p e s m below meth c C hS ls hl => ?_)
  replace C : Cx p s m ([.ref (ad E 70)] : List Value).toArray meth c c_Model_heightHere 2 "TideLoansModel" (some .boolean) E := C
  replace hl : lv_has ls 2 [(0, .ref (ad E 70))] := hl
  obtain ⟨hx, hb, hml, hown, hts, hrt, hlk, hKx⟩ := id C
  unfold f_Model_heightHere at h
  refine lv_aload_n hx hb d_Model_heightHere_0 rfl (lv_at hl 0 rfl) ?_
  obtain ⟨X2, hr1, h⟩ := bd_el h
  refine c_V hS (c_runV (As := []) (rest := []) C hS (by decide) cel_Model (rfl : cls[6]? = some (R_Model, T_Model, 16)) (k_Model_nextToken (l := l) (E := E) (X := X) hr1) cw_Model_nextToken ini_Model_nextToken ins_Model_nextToken sel_Model_nextToken tw_1084 hd_Model_nextToken rfl ⟨⟨rfl, rfl⟩, (Nat.le_of_ble_eq_true rfl), (Nat.le_of_ble_eq_true rfl)⟩ ⟨(Nat.le_of_ble_eq_true rfl), (Nat.le_of_ble_eq_true rfl)⟩ hl.1 rfl (Nat.le_of_ble_eq_true rfl) d_Model_heightHere_1) (fun H locs hS => ?_)
  refine lv_aload_n hx hb d_Model_heightHere_4 rfl (lv_at hl 0 rfl) ?_
  refine lv_iconst (v := 0) hx hb d_Model_heightHere_5 (by decide) ?_
  refine lv_bipush (v := 15) hx hb d_Model_heightHere_6 (by decide) ?_
  obtain ⟨v3, X5, hr4, h⟩ := bd2_el h
  refine c_I hS (c_runV (As := [.int (0 : Int32), .int (15 : Int32)]) (rest := []) C hS (by decide) cel_Model (rfl : cls[6]? = some (R_Model, T_Model, 16)) (k_Model_isNumber (l := l) (E := E) (X := X2) hr4) cw_Model_isNumber ini_Model_isNumber ins_Model_isNumber sel_Model_isNumber tw_1134 hd_Model_isNumber rfl ⟨⟨rfl, rfl⟩, (Nat.le_of_ble_eq_true rfl), (Nat.le_of_ble_eq_true rfl)⟩ ⟨(Nat.le_of_ble_eq_true rfl), (Nat.le_of_ble_eq_true rfl)⟩ hl.1 rfl (Nat.le_of_ble_eq_true rfl) d_Model_heightHere_8) (fun H locs hS => ?_)
  refine r_if_ne (tgt := 16) C h d_Model_heightHere_11 (by decide) (fun h => ?_) (fun h => ?_)
  · skip
    refine lv_aload_n hx hb d_Model_heightHere_16 rfl (lv_at hl 0 rfl) ?_
    refine r_getI C hS (by decide) cel_Model (rfl : cls[6]? = some (R_Model, T_Model, 16)) in_Model 14 (by decide) tw_808 rfl h d_Model_heightHere_17 (fun v6 h => ?_)
    refine lv_istore_n (lv' := [(1, .int v6), (0, .ref (ad E 70))]) hx hb d_Model_heightHere_20 rfl hl (by decide) rfl (fun ls hl => ?_)
    refine lv_aload_n hx hb d_Model_heightHere_21 rfl (lv_at hl 1 rfl) ?_
    obtain ⟨X8, hr7, h⟩ := bd_el h
    refine c_V hS (c_runV (As := []) (rest := []) C hS (by decide) cel_Model (rfl : cls[6]? = some (R_Model, T_Model, 16)) (k_Model_nextToken (l := l) (E := E) (X := X5) hr7) cw_Model_nextToken ini_Model_nextToken ins_Model_nextToken sel_Model_nextToken tw_1084 hd_Model_nextToken rfl ⟨⟨rfl, rfl⟩, (Nat.le_of_ble_eq_true rfl), (Nat.le_of_ble_eq_true rfl)⟩ ⟨(Nat.le_of_ble_eq_true rfl), (Nat.le_of_ble_eq_true rfl)⟩ hl.1 rfl (Nat.le_of_ble_eq_true rfl) d_Model_heightHere_22) (fun H locs hS => ?_)
    refine lv_aload_n hx hb d_Model_heightHere_25 rfl (lv_at hl 1 rfl) ?_
    refine lv_iconst (v := 0) hx hb d_Model_heightHere_26 (by decide) ?_
    refine lv_bipush (v := 9) hx hb d_Model_heightHere_27 (by decide) ?_
    obtain ⟨v9, X11, hr10, h⟩ := bd2_el h
    refine c_I hS (c_runV (As := [.int (0 : Int32), .int (9 : Int32)]) (rest := []) C hS (by decide) cel_Model (rfl : cls[6]? = some (R_Model, T_Model, 16)) (k_Model_isNumber (l := l) (E := E) (X := X8) hr10) cw_Model_isNumber ini_Model_isNumber ins_Model_isNumber sel_Model_isNumber tw_1134 hd_Model_isNumber rfl ⟨⟨rfl, rfl⟩, (Nat.le_of_ble_eq_true rfl), (Nat.le_of_ble_eq_true rfl)⟩ ⟨(Nat.le_of_ble_eq_true rfl), (Nat.le_of_ble_eq_true rfl)⟩ hl.1 rfl (Nat.le_of_ble_eq_true rfl) d_Model_heightHere_29) (fun H locs hS => ?_)
    refine r_if_ne (tgt := 37) C h d_Model_heightHere_32 (by decide) (fun h => ?_) (fun h => ?_)
    · skip
      refine lv_aload_n hx hb d_Model_heightHere_37 rfl (lv_at hl 1 rfl) ?_
      refine r_get C hS (by decide) cel_Model (rfl : cls[6]? = some (R_Model, T_Model, 16)) in_Model 0 (by decide) tw_794 rfl d_Model_heightHere_38 ?_
      refine lv_iconst (v := 3) hx hb d_Model_heightHere_41 (by decide) ?_
      refine lv_iload_n hx hb d_Model_heightHere_42 rfl (lv_at hl 0 rfl) ?_
      refine lv_iadd hx hb d_Model_heightHere_43 ?_
      refine lv_aload_n hx hb d_Model_heightHere_44 rfl (lv_at hl 1 rfl) ?_
      refine r_getI C hS (by decide) cel_Model (rfl : cls[6]? = some (R_Model, T_Model, 16)) in_Model 14 (by decide) tw_808 rfl h d_Model_heightHere_45 (fun v12 h => ?_)
      refine r_stI C hS (n := 83) rfl (by decide) h d_Model_heightHere_48 (fun X13 H locs hS h => ?_)
      refine lv_aload_n hx hb d_Model_heightHere_49 rfl (lv_at hl 1 rfl) ?_
      obtain ⟨X15, hr14, h⟩ := bd_el h
      refine c_V hS (c_runV (As := []) (rest := []) C hS (by decide) cel_Model (rfl : cls[6]? = some (R_Model, T_Model, 16)) (k_Model_nextToken (l := l) (E := E) (X := X13) hr14) cw_Model_nextToken ini_Model_nextToken ins_Model_nextToken sel_Model_nextToken tw_1084 hd_Model_nextToken rfl ⟨⟨rfl, rfl⟩, (Nat.le_of_ble_eq_true rfl), (Nat.le_of_ble_eq_true rfl)⟩ ⟨(Nat.le_of_ble_eq_true rfl), (Nat.le_of_ble_eq_true rfl)⟩ hl.1 rfl (Nat.le_of_ble_eq_true rfl) d_Model_heightHere_50) (fun H locs hS => ?_)
      refine lv_iconst (v := 1) hx hb d_Model_heightHere_53 (by decide) ?_
      exact r_zret C hS rfl (Or.inr rfl) h d_Model_heightHere_54
    · skip
      refine lv_iconst (v := 0) hx hb d_Model_heightHere_35 (by decide) ?_
      exact r_zret C hS rfl (Or.inl rfl) h d_Model_heightHere_36
  · skip
    refine lv_iconst (v := 0) hx hb d_Model_heightHere_14 (by decide) ?_
    exact r_zret C hS rfl (Or.inl rfl) h d_Model_heightHere_15
set_option maxHeartbeats 4000000 in
set_option maxRecDepth 100000 in
theorem k_Model_interestHere {l : Launch} {E : En} {X : Mem} {r : Int32} {Y : Mem} (h : f_Model_interestHere X = some (r, Y)) : Met l y_Model_interestHere (Cond.code y_Model_interestHere c_Model_interestHere 1 (some .boolean) :: tb) ({ frames := 2, cells := 0, slots := 0, locals := 47 } : Room) (PreC E [.ref (ad E 70)] X) (PostI E r Y) 0 0 (Ad E) := by
  refine met_of (by decide) (Nat.le_of_ble_eq_true rfl) (fun p e s m below meth c C hS ls hl => ?_)
  replace C : Cx p s m ([.ref (ad E 70)] : List Value).toArray meth c c_Model_interestHere 1 "TideLoansModel" (some .boolean) E := C
  replace hl : lv_has ls 1 [(0, .ref (ad E 70))] := hl
  obtain ⟨hx, hb, hml, hown, hts, hrt, hlk, hKx⟩ := id C
  unfold f_Model_interestHere at h
  refine lv_aload_n hx hb d_Model_interestHere_0 rfl (lv_at hl 0 rfl) ?_
  obtain ⟨X2, hr1, h⟩ := bd_el h
  refine c_V hS (c_runV (As := []) (rest := []) C hS (by decide) cel_Model (rfl : cls[6]? = some (R_Model, T_Model, 16)) (k_Model_nextToken (l := l) (E := E) (X := X) hr1) cw_Model_nextToken ini_Model_nextToken ins_Model_nextToken sel_Model_nextToken tw_1084 hd_Model_nextToken rfl ⟨⟨rfl, rfl⟩, (Nat.le_of_ble_eq_true rfl), (Nat.le_of_ble_eq_true rfl)⟩ ⟨(Nat.le_of_ble_eq_true rfl), (Nat.le_of_ble_eq_true rfl)⟩ hl.1 rfl (Nat.le_of_ble_eq_true rfl) d_Model_interestHere_1) (fun H locs hS => ?_)
  refine lv_aload_n hx hb d_Model_interestHere_4 rfl (lv_at hl 0 rfl) ?_
  refine lv_iconst (v := 0) hx hb d_Model_interestHere_5 (by decide) ?_
  refine lv_bipush (v := 50) hx hb d_Model_interestHere_6 (by decide) ?_
  obtain ⟨v3, X5, hr4, h⟩ := bd2_el h
  refine c_I hS (c_runV (As := [.int (0 : Int32), .int (50 : Int32)]) (rest := []) C hS (by decide) cel_Model (rfl : cls[6]? = some (R_Model, T_Model, 16)) (k_Model_isNumber (l := l) (E := E) (X := X2) hr4) cw_Model_isNumber ini_Model_isNumber ins_Model_isNumber sel_Model_isNumber tw_1134 hd_Model_isNumber rfl ⟨⟨rfl, rfl⟩, (Nat.le_of_ble_eq_true rfl), (Nat.le_of_ble_eq_true rfl)⟩ ⟨(Nat.le_of_ble_eq_true rfl), (Nat.le_of_ble_eq_true rfl)⟩ hl.1 rfl (Nat.le_of_ble_eq_true rfl) d_Model_interestHere_8) (fun H locs hS => ?_)
  refine r_if_ne (tgt := 16) C h d_Model_interestHere_11 (by decide) (fun h => ?_) (fun h => ?_)
  · skip
    refine lv_aload_n hx hb d_Model_interestHere_16 rfl (lv_at hl 0 rfl) ?_
    refine r_get C hS (by decide) cel_Model (rfl : cls[6]? = some (R_Model, T_Model, 16)) in_Model 0 (by decide) tw_794 rfl d_Model_interestHere_17 ?_
    refine lv_iconst (v := 2) hx hb d_Model_interestHere_20 (by decide) ?_
    refine lv_aload_n hx hb d_Model_interestHere_21 rfl (lv_at hl 0 rfl) ?_
    refine r_getI C hS (by decide) cel_Model (rfl : cls[6]? = some (R_Model, T_Model, 16)) in_Model 14 (by decide) tw_808 rfl h d_Model_interestHere_22 (fun v6 h => ?_)
    refine r_stI C hS (n := 83) rfl (by decide) h d_Model_interestHere_25 (fun X7 H locs hS h => ?_)
    refine lv_aload_n hx hb d_Model_interestHere_26 rfl (lv_at hl 0 rfl) ?_
    obtain ⟨X9, hr8, h⟩ := bd_el h
    refine c_V hS (c_runV (As := []) (rest := []) C hS (by decide) cel_Model (rfl : cls[6]? = some (R_Model, T_Model, 16)) (k_Model_nextToken (l := l) (E := E) (X := X7) hr8) cw_Model_nextToken ini_Model_nextToken ins_Model_nextToken sel_Model_nextToken tw_1084 hd_Model_nextToken rfl ⟨⟨rfl, rfl⟩, (Nat.le_of_ble_eq_true rfl), (Nat.le_of_ble_eq_true rfl)⟩ ⟨(Nat.le_of_ble_eq_true rfl), (Nat.le_of_ble_eq_true rfl)⟩ hl.1 rfl (Nat.le_of_ble_eq_true rfl) d_Model_interestHere_27) (fun H locs hS => ?_)
    refine lv_iconst (v := 1) hx hb d_Model_interestHere_30 (by decide) ?_
    exact r_zret C hS rfl (Or.inr rfl) h d_Model_interestHere_31
  · skip
    refine lv_iconst (v := 0) hx hb d_Model_interestHere_14 (by decide) ?_
    exact r_zret C hS rfl (Or.inl rfl) h d_Model_interestHere_15
set_option maxHeartbeats 4000000 in
set_option maxRecDepth 100000 in
theorem k_Model_itemHere_j97 {p : Program} {l : Launch} {e : Env} {s : State} {m : MethodId} {args : Array Value} {below : List Frame} {meth : Method} {c : Code} {E : En} {r : Int32} {Y : Mem} (C : Cx p s m args meth c c_Model_itemHere 2 "TideLoansModel" (some .boolean) E) {X : Mem} (h : f_Model_itemHere_j97 X = some (r, Y)) {H : Heap} {locs : List Loc} (hS : Hs E s.heap X H locs) {ls : Array Slot} (hl : lv_has ls 2 [(0, .ref (ad E 70))]) : W p l e ({ frames := 4, cells := 0, slots := 0, locals := 92 } : Room) s m args below meth c H locs 0 0 (MQ below (PostI E r Y) args s 0 0 (Ad E)) (F0 m 97 ls []) := by
  obtain ⟨hx, hb, hml, hown, hts, hrt, hlk, hKx⟩ := id C
  unfold f_Model_itemHere_j97 at h
  refine lv_aload_n hx hb d_Model_itemHere_97 rfl (lv_at hl 0 rfl) ?_
  obtain ⟨v1, X3, hr2, h⟩ := bd2_el h
  refine c_I hS (c_runV (As := []) (rest := []) C hS (by decide) cel_Model (rfl : cls[6]? = some (R_Model, T_Model, 16)) (k_Model_fails (l := l) (E := E) (X := X) hr2) cw_Model_fails ini_Model_fails ins_Model_fails sel_Model_fails tw_1126 hd_Model_fails rfl ⟨⟨rfl, rfl⟩, (Nat.le_of_ble_eq_true rfl), (Nat.le_of_ble_eq_true rfl)⟩ ⟨(Nat.le_of_ble_eq_true rfl), (Nat.le_of_ble_eq_true rfl)⟩ hl.1 rfl (Nat.le_of_ble_eq_true rfl) d_Model_itemHere_98) (fun H locs hS => ?_)
  obtain ⟨hz, h⟩ := if_tr h
  exact r_zret C hS rfl hz h d_Model_itemHere_101
set_option maxHeartbeats 4000000 in
set_option maxRecDepth 100000 in
theorem k_Model_itemHere {l : Launch} {E : En} {X : Mem} {r : Int32} {Y : Mem} (h : f_Model_itemHere X = some (r, Y)) : Met l y_Model_itemHere (Cond.code y_Model_itemHere c_Model_itemHere 2 (some .boolean) :: tb) ({ frames := 4, cells := 0, slots := 0, locals := 92 } : Room) (PreC E [.ref (ad E 70)] X) (PostI E r Y) 0 0 (Ad E) := by
  refine met_of (by decide) (Nat.le_of_ble_eq_true rfl) (fun p e s m below meth c C hS ls hl => ?_)
  replace C : Cx p s m ([.ref (ad E 70)] : List Value).toArray meth c c_Model_itemHere 2 "TideLoansModel" (some .boolean) E := C
  replace hl : lv_has ls 2 [(0, .ref (ad E 70))] := hl
  obtain ⟨hx, hb, hml, hown, hts, hrt, hlk, hKx⟩ := id C
  unfold f_Model_itemHere at h
  refine lv_aload_n hx hb d_Model_itemHere_0 rfl (lv_at hl 0 rfl) ?_
  obtain ⟨v1, hr2, h⟩ := bd_el h
  refine c_I hS (c_runV (As := []) (rest := []) C hS (by decide) cel_Model (rfl : cls[6]? = some (R_Model, T_Model, 16)) (k_Model_kindHere (l := l) (E := E) (X := X) hr2) cw_Model_kindHere ini_Model_kindHere ins_Model_kindHere sel_Model_kindHere tw_1102 hd_Model_kindHere rfl ⟨⟨rfl, rfl⟩, (Nat.le_of_ble_eq_true rfl), (Nat.le_of_ble_eq_true rfl)⟩ ⟨(Nat.le_of_ble_eq_true rfl), (Nat.le_of_ble_eq_true rfl)⟩ hl.1 rfl (Nat.le_of_ble_eq_true rfl) d_Model_itemHere_1) (fun H locs hS => ?_)
  refine lv_istore_n (lv' := [(1, .int v1), (0, .ref (ad E 70))]) hx hb d_Model_itemHere_4 rfl hl (by decide) rfl (fun ls hl => ?_)
  refine lv_iload_n hx hb d_Model_itemHere_5 rfl (lv_at hl 0 rfl) ?_
  refine r_if_lt (tgt := 15) C h d_Model_itemHere_6 (by decide) (fun h => ?_) (fun h => ?_)
  · skip
    refine lv_aload_n hx hb d_Model_itemHere_15 rfl (lv_at hl 1 rfl) ?_
    refine lv_bipush (v := 104) hx hb d_Model_itemHere_16 (by decide) ?_
    refine lv_bipush (v := 101) hx hb d_Model_itemHere_18 (by decide) ?_
    refine lv_bipush (v := 105) hx hb d_Model_itemHere_20 (by decide) ?_
    refine lv_bipush (v := 103) hx hb d_Model_itemHere_22 (by decide) ?_
    refine lv_bipush (v := 104) hx hb d_Model_itemHere_24 (by decide) ?_
    refine lv_bipush (v := 116) hx hb d_Model_itemHere_26 (by decide) ?_
    obtain ⟨v3, hr4, h⟩ := bd_el h
    refine c_I hS (c_runV (As := [.int (104 : Int32), .int (101 : Int32), .int (105 : Int32), .int (103 : Int32), .int (104 : Int32), .int (116 : Int32)]) (rest := []) C hS (by decide) cel_Model (rfl : cls[6]? = some (R_Model, T_Model, 16)) (k_Model_isSix (l := l) (E := E) (X := X) hr4) cw_Model_isSix ini_Model_isSix ins_Model_isSix sel_Model_isSix tw_1118 hd_Model_isSix rfl ⟨⟨rfl, rfl⟩, (Nat.le_of_ble_eq_true rfl), (Nat.le_of_ble_eq_true rfl)⟩ ⟨(Nat.le_of_ble_eq_true rfl), (Nat.le_of_ble_eq_true rfl)⟩ hl.1 rfl (Nat.le_of_ble_eq_true rfl) d_Model_itemHere_28) (fun H locs hS => ?_)
    refine r_if_eq (tgt := 39) C h d_Model_itemHere_31 (by decide) (fun h => ?_) (fun h => ?_)
    · skip
      refine lv_aload_n hx hb d_Model_itemHere_39 rfl (lv_at hl 1 rfl) ?_
      refine lv_bipush (v := 8) hx hb d_Model_itemHere_40 (by decide) ?_
      obtain ⟨v5, hr6, h⟩ := bd_el h
      refine c_I hS (c_runV (As := [.int (8 : Int32)]) (rest := []) C hS (by decide) cel_Model (rfl : cls[6]? = some (R_Model, T_Model, 16)) (k_Model_isWord (l := l) (E := E) (X := X) hr6) cw_Model_isWord ini_Model_isWord ins_Model_isWord sel_Model_isWord tw_1110 hd_Model_isWord rfl ⟨⟨rfl, rfl⟩, (Nat.le_of_ble_eq_true rfl), (Nat.le_of_ble_eq_true rfl)⟩ ⟨(Nat.le_of_ble_eq_true rfl), (Nat.le_of_ble_eq_true rfl)⟩ hl.1 rfl (Nat.le_of_ble_eq_true rfl) d_Model_itemHere_42) (fun H locs hS => ?_)
      refine r_if_eq (tgt := 97) C h d_Model_itemHere_45 (by decide) (fun h => ?_) (fun h => ?_)
      · skip
        exact k_Model_itemHere_j97 C h hS (lv_sub hl [1] rfl)
      · skip
        refine lv_aload_n hx hb d_Model_itemHere_48 rfl (lv_at hl 1 rfl) ?_
        refine lv_iconst (v := 0) hx hb d_Model_itemHere_49 (by decide) ?_
        refine lv_bipush (v := 105) hx hb d_Model_itemHere_50 (by decide) ?_
        refine lv_bipush (v := 110) hx hb d_Model_itemHere_52 (by decide) ?_
        refine lv_bipush (v := 116) hx hb d_Model_itemHere_54 (by decide) ?_
        obtain ⟨v7, hr8, h⟩ := bd_el h
        refine c_I hS (c_runV (As := [.int (0 : Int32), .int (105 : Int32), .int (110 : Int32), .int (116 : Int32)]) (rest := []) C hS (by decide) cel_Model (rfl : cls[6]? = some (R_Model, T_Model, 16)) (k_Model_has3 (l := l) (E := E) (X := X) hr8) cw_Model_has3 ini_Model_has3 ins_Model_has3 sel_Model_has3 tw_1114 hd_Model_has3 rfl ⟨⟨rfl, rfl⟩, (Nat.le_of_ble_eq_true rfl), (Nat.le_of_ble_eq_true rfl)⟩ ⟨(Nat.le_of_ble_eq_true rfl), (Nat.le_of_ble_eq_true rfl)⟩ hl.1 rfl (Nat.le_of_ble_eq_true rfl) d_Model_itemHere_56) (fun H locs hS => ?_)
        refine r_if_eq (tgt := 97) C h d_Model_itemHere_59 (by decide) (fun h => ?_) (fun h => ?_)
        · skip
          exact k_Model_itemHere_j97 C h hS (lv_sub hl [1] rfl)
        · skip
          refine lv_aload_n hx hb d_Model_itemHere_62 rfl (lv_at hl 1 rfl) ?_
          refine lv_iconst (v := 3) hx hb d_Model_itemHere_63 (by decide) ?_
          refine lv_bipush (v := 101) hx hb d_Model_itemHere_64 (by decide) ?_
          refine lv_bipush (v := 114) hx hb d_Model_itemHere_66 (by decide) ?_
          refine lv_bipush (v := 101) hx hb d_Model_itemHere_68 (by decide) ?_
          obtain ⟨v9, hr10, h⟩ := bd_el h
          refine c_I hS (c_runV (As := [.int (3 : Int32), .int (101 : Int32), .int (114 : Int32), .int (101 : Int32)]) (rest := []) C hS (by decide) cel_Model (rfl : cls[6]? = some (R_Model, T_Model, 16)) (k_Model_has3 (l := l) (E := E) (X := X) hr10) cw_Model_has3 ini_Model_has3 ins_Model_has3 sel_Model_has3 tw_1114 hd_Model_has3 rfl ⟨⟨rfl, rfl⟩, (Nat.le_of_ble_eq_true rfl), (Nat.le_of_ble_eq_true rfl)⟩ ⟨(Nat.le_of_ble_eq_true rfl), (Nat.le_of_ble_eq_true rfl)⟩ hl.1 rfl (Nat.le_of_ble_eq_true rfl) d_Model_itemHere_70) (fun H locs hS => ?_)
          refine r_if_eq (tgt := 97) C h d_Model_itemHere_73 (by decide) (fun h => ?_) (fun h => ?_)
          · skip
            exact k_Model_itemHere_j97 C h hS (lv_sub hl [1] rfl)
          · skip
            refine lv_aload_n hx hb d_Model_itemHere_76 rfl (lv_at hl 1 rfl) ?_
            refine lv_iconst (v := 5) hx hb d_Model_itemHere_77 (by decide) ?_
            refine lv_bipush (v := 101) hx hb d_Model_itemHere_78 (by decide) ?_
            refine lv_bipush (v := 115) hx hb d_Model_itemHere_80 (by decide) ?_
            refine lv_bipush (v := 116) hx hb d_Model_itemHere_82 (by decide) ?_
            obtain ⟨v11, hr12, h⟩ := bd_el h
            refine c_I hS (c_runV (As := [.int (5 : Int32), .int (101 : Int32), .int (115 : Int32), .int (116 : Int32)]) (rest := []) C hS (by decide) cel_Model (rfl : cls[6]? = some (R_Model, T_Model, 16)) (k_Model_has3 (l := l) (E := E) (X := X) hr12) cw_Model_has3 ini_Model_has3 ins_Model_has3 sel_Model_has3 tw_1114 hd_Model_has3 rfl ⟨⟨rfl, rfl⟩, (Nat.le_of_ble_eq_true rfl), (Nat.le_of_ble_eq_true rfl)⟩ ⟨(Nat.le_of_ble_eq_true rfl), (Nat.le_of_ble_eq_true rfl)⟩ hl.1 rfl (Nat.le_of_ble_eq_true rfl) d_Model_itemHere_84) (fun H locs hS => ?_)
            refine r_if_eq (tgt := 97) C h d_Model_itemHere_87 (by decide) (fun h => ?_) (fun h => ?_)
            · skip
              exact k_Model_itemHere_j97 C h hS (lv_sub hl [1] rfl)
            · skip
              refine lv_aload_n hx hb d_Model_itemHere_90 rfl (lv_at hl 1 rfl) ?_
              obtain ⟨v13, X15, hr14, h⟩ := bd2_el h
              refine c_I hS (c_runV (As := []) (rest := []) C hS (by decide) cel_Model (rfl : cls[6]? = some (R_Model, T_Model, 16)) (k_Model_interestHere (l := l) (E := E) (X := X) hr14) cw_Model_interestHere ini_Model_interestHere ins_Model_interestHere sel_Model_interestHere tw_1142 hd_Model_interestHere rfl ⟨⟨rfl, rfl⟩, (Nat.le_of_ble_eq_true rfl), (Nat.le_of_ble_eq_true rfl)⟩ ⟨(Nat.le_of_ble_eq_true rfl), (Nat.le_of_ble_eq_true rfl)⟩ hl.1 rfl (Nat.le_of_ble_eq_true rfl) d_Model_itemHere_91) (fun H locs hS => ?_)
              refine lv_goto (tgt := 101) hx hb d_Model_itemHere_94 (by decide) ?_
              obtain ⟨hz, h⟩ := if_tr h
              exact r_zret C hS rfl hz h d_Model_itemHere_101
    · skip
      refine lv_aload_n hx hb d_Model_itemHere_34 rfl (lv_at hl 1 rfl) ?_
      obtain ⟨v16, X18, hr17, h⟩ := bd2_el h
      refine c_I hS (c_runV (As := []) (rest := []) C hS (by decide) cel_Model (rfl : cls[6]? = some (R_Model, T_Model, 16)) (k_Model_heightHere (l := l) (E := E) (X := X) hr17) cw_Model_heightHere ini_Model_heightHere ins_Model_heightHere sel_Model_heightHere tw_1138 hd_Model_heightHere rfl ⟨⟨rfl, rfl⟩, (Nat.le_of_ble_eq_true rfl), (Nat.le_of_ble_eq_true rfl)⟩ ⟨(Nat.le_of_ble_eq_true rfl), (Nat.le_of_ble_eq_true rfl)⟩ hl.1 rfl (Nat.le_of_ble_eq_true rfl) d_Model_itemHere_35) (fun H locs hS => ?_)
      obtain ⟨hz, h⟩ := if_tr h
      exact r_zret C hS rfl hz h d_Model_itemHere_38
  · skip
    refine lv_aload_n hx hb d_Model_itemHere_9 rfl (lv_at hl 1 rfl) ?_
    refine lv_iload_n hx hb d_Model_itemHere_10 rfl (lv_at hl 0 rfl) ?_
    obtain ⟨v19, X21, hr20, h⟩ := bd2_el h
    refine c_I hS (c_runV (As := [.int v1]) (rest := []) C hS (by decide) cel_Model (rfl : cls[6]? = some (R_Model, T_Model, 16)) (k_Model_thingHere (l := l) (E := E) (X := X) hr20) cw_Model_thingHere ini_Model_thingHere ins_Model_thingHere sel_Model_thingHere tw_1122 hd_Model_thingHere rfl ⟨⟨rfl, rfl⟩, (Nat.le_of_ble_eq_true rfl), (Nat.le_of_ble_eq_true rfl)⟩ ⟨(Nat.le_of_ble_eq_true rfl), (Nat.le_of_ble_eq_true rfl)⟩ hl.1 rfl (Nat.le_of_ble_eq_true rfl) d_Model_itemHere_11) (fun H locs hS => ?_)
    obtain ⟨hz, h⟩ := if_tr h
    exact r_zret C hS rfl hz h d_Model_itemHere_14
def I_Model_shore_b27 (p : Program) (l : Launch) (e : Env) (s : State) (m : MethodId) (args : Array Value) (below : List Frame) (meth : Method) (c : Code) (E : En) (r : Int32) (Y : Mem) (n : Nat) (tg : (Int32 × Mem)) : Prop := ∀ (x1 : Int32) (x2 : Int32) (X : Mem) (H : Heap) (locs : List Loc) (ls : Array Slot), it (fun a => f_Model_shore_b27 a.1 a.2.1 a.2.2) n (x1, x2, X) = some tg → Hs E s.heap X H locs → lv_has ls 3 [(0, .ref (ad E 70)), (1, .int x1), (2, .int x2)] → W p l e ({ frames := 5, cells := 0, slots := 0, locals := 113 } : Room) s m args below meth c H locs 0 0 (MQ below (PostI E r Y) args s 0 0 (Ad E)) (F0 m 27 ls [])
set_option maxHeartbeats 4000000 in
set_option maxRecDepth 100000 in
theorem k_Model_shore_j98 {p : Program} {l : Launch} {e : Env} {s : State} {m : MethodId} {args : Array Value} {below : List Frame} {meth : Method} {c : Code} {E : En} {r : Int32} {Y : Mem} (C : Cx p s m args meth c c_Model_shore 3 "TideLoansModel" (some .int) E) {x1 : Int32} {x2 : Int32} {X : Mem} (h : f_Model_shore_j98 x1 x2 X = some (r, Y)) {H : Heap} {locs : List Loc} (hS : Hs E s.heap X H locs) {ls : Array Slot} (hl : lv_has ls 3 [(0, .ref (ad E 70)), (1, .int x1), (2, .int x2)]) : W p l e ({ frames := 5, cells := 0, slots := 0, locals := 113 } : Room) s m args below meth c H locs 0 0 (MQ below (PostI E r Y) args s 0 0 (Ad E)) (F0 m 98 ls []) := by
  obtain ⟨hx, hb, hml, hown, hts, hrt, hlk, hKx⟩ := id C
  unfold f_Model_shore_j98 at h
  refine lv_iload_n hx hb d_Model_shore_98 rfl (lv_at hl 2 rfl) ?_
  refine r_if_eq (tgt := 106) C h d_Model_shore_99 (by decide) (fun h => ?_) (fun h => ?_)
  · skip
    refine lv_iconst (v := -1) hx hb d_Model_shore_106 (by decide) ?_
    refine lv_aload_n hx hb d_Model_shore_107 rfl (lv_at hl 0 rfl) ?_
    refine r_getI C hS (by decide) cel_Model (rfl : cls[6]? = some (R_Model, T_Model, 16)) in_Model 15 (by decide) tw_809 rfl h d_Model_shore_108 (fun v1 h => ?_)
    refine lv_isub hx hb d_Model_shore_111 ?_
    exact r_iret C hS rfl h d_Model_shore_112
  · skip
    refine lv_iload_n hx hb d_Model_shore_102 rfl (lv_at hl 1 rfl) ?_
    refine lv_goto (tgt := 112) hx hb d_Model_shore_103 (by decide) ?_
    exact r_iret C hS rfl h d_Model_shore_112
set_option maxHeartbeats 4000000 in
set_option maxRecDepth 100000 in
theorem k_Model_shore_j77 {p : Program} {l : Launch} {e : Env} {s : State} {m : MethodId} {args : Array Value} {below : List Frame} {meth : Method} {c : Code} {E : En} {r : Int32} {Y : Mem} (C : Cx p s m args meth c c_Model_shore 3 "TideLoansModel" (some .int) E) {x1 : Int32} {q0 : Int32} {X : Mem} (h : f_Model_shore_j77 x1 q0 X = some (r, Y)) {H : Heap} {locs : List Loc} (hS : Hs E s.heap X H locs) {ls : Array Slot} (hl : lv_has ls 3 [(0, .ref (ad E 70)), (1, .int x1)]) : W p l e ({ frames := 5, cells := 0, slots := 0, locals := 113 } : Room) s m args below meth c H locs 0 0 (MQ below (PostI E r Y) args s 0 0 (Ad E)) (F0 m 77 ls [.int q0]) := by
  obtain ⟨hx, hb, hml, hown, hts, hrt, hlk, hKx⟩ := id C
  unfold f_Model_shore_j77 at h
  refine lv_istore_n (lv' := [(2, .int q0), (0, .ref (ad E 70)), (1, .int x1)]) hx hb d_Model_shore_77 rfl hl (by decide) rfl (fun ls hl => ?_)
  refine lv_aload_n hx hb d_Model_shore_78 rfl (lv_at hl 1 rfl) ?_
  refine lv_iconst (v := 0) hx hb d_Model_shore_79 (by decide) ?_
  refine r_putI C hS (by decide) cel_Model (rfl : cls[6]? = some (R_Model, T_Model, 16)) in_Model ty_Model tyok_Model nm_Model 7 (by decide) tw_801 rfl rfl rfl (Nat.le_of_ble_eq_true rfl) set_Model_7 rfl h d_Model_shore_80 (fun X1 H locs hS h => ?_)
  refine lv_iload_n hx hb d_Model_shore_83 rfl (lv_at hl 0 rfl) ?_
  refine r_if_ne (tgt := 98) C h d_Model_shore_84 (by decide) (fun h => ?_) (fun h => ?_)
  · skip
    exact k_Model_shore_j98 C h hS (lv_sub hl [1, 2, 0] rfl)
  · skip
    refine lv_aload_n hx hb d_Model_shore_87 rfl (lv_at hl 1 rfl) ?_
    refine r_get C hS (by decide) cel_Model (rfl : cls[6]? = some (R_Model, T_Model, 16)) in_Model 2 (by decide) tw_796 rfl d_Model_shore_88 ?_
    refine lv_aload_n hx hb d_Model_shore_91 rfl (lv_at hl 1 rfl) ?_
    refine r_get C hS (by decide) cel_Model (rfl : cls[6]? = some (R_Model, T_Model, 16)) in_Model 0 (by decide) tw_794 rfl d_Model_shore_92 ?_
    obtain ⟨X3, hr2, h⟩ := bd_el h
    refine c_V hS (c_runS (As := [.ref (ad E 73), .ref (ad E 71)]) (rest := []) C hS (k_Model_copyRow (l := l) (E := E) (X := X1) rfl rfl hr2) cw_Model_copyRow ini_Model_copyRow sta_Model_copyRow tw_1012 hd_Model_copyRow rfl ⟨⟨rfl, rfl⟩, (Nat.le_of_ble_eq_true rfl), (Nat.le_of_ble_eq_true rfl)⟩ ⟨(Nat.le_of_ble_eq_true rfl), (Nat.le_of_ble_eq_true rfl)⟩ hl.1 rfl (Nat.le_of_ble_eq_true rfl) d_Model_shore_95) (fun H locs hS => ?_)
    exact k_Model_shore_j98 C h hS (lv_sub hl [1, 2, 0] rfl)
set_option maxHeartbeats 4000000 in
set_option maxRecDepth 100000 in
theorem k_Model_shore_j76 {p : Program} {l : Launch} {e : Env} {s : State} {m : MethodId} {args : Array Value} {below : List Frame} {meth : Method} {c : Code} {E : En} {r : Int32} {Y : Mem} (C : Cx p s m args meth c c_Model_shore 3 "TideLoansModel" (some .int) E) {x1 : Int32} {X : Mem} (h : f_Model_shore_j76 x1 X = some (r, Y)) {H : Heap} {locs : List Loc} (hS : Hs E s.heap X H locs) {ls : Array Slot} (hl : lv_has ls 3 [(0, .ref (ad E 70)), (1, .int x1)]) : W p l e ({ frames := 5, cells := 0, slots := 0, locals := 113 } : Room) s m args below meth c H locs 0 0 (MQ below (PostI E r Y) args s 0 0 (Ad E)) (F0 m 76 ls []) := by
  obtain ⟨hx, hb, hml, hown, hts, hrt, hlk, hKx⟩ := id C
  unfold f_Model_shore_j76 at h
  refine lv_iconst (v := 0) hx hb d_Model_shore_76 (by decide) ?_
  exact k_Model_shore_j77 C h hS (lv_sub hl [0, 1] rfl)
set_option maxHeartbeats 4000000 in
set_option maxRecDepth 100000 in
theorem k_Model_shore_j72 {p : Program} {l : Launch} {e : Env} {s : State} {m : MethodId} {args : Array Value} {below : List Frame} {meth : Method} {c : Code} {E : En} {r : Int32} {Y : Mem} (C : Cx p s m args meth c c_Model_shore 3 "TideLoansModel" (some .int) E) {x1 : Int32} {X : Mem} (h : f_Model_shore_j72 x1 X = some (r, Y)) {H : Heap} {locs : List Loc} (hS : Hs E s.heap X H locs) {ls : Array Slot} (hl : lv_has ls 3 [(0, .ref (ad E 70)), (1, .int x1)]) : W p l e ({ frames := 5, cells := 0, slots := 0, locals := 113 } : Room) s m args below meth c H locs 0 0 (MQ below (PostI E r Y) args s 0 0 (Ad E)) (F0 m 72 ls []) := by
  obtain ⟨hx, hb, hml, hown, hts, hrt, hlk, hKx⟩ := id C
  unfold f_Model_shore_j72 at h
  refine lv_iconst (v := 1) hx hb d_Model_shore_72 (by decide) ?_
  refine lv_goto (tgt := 77) hx hb d_Model_shore_73 (by decide) ?_
  exact k_Model_shore_j77 C h hS (lv_sub hl [0, 1] rfl)
set_option maxHeartbeats 4000000 in
set_option maxRecDepth 100000 in
theorem k_Model_shore_j54 {p : Program} {l : Launch} {e : Env} {s : State} {m : MethodId} {args : Array Value} {below : List Frame} {meth : Method} {c : Code} {E : En} {r : Int32} {Y : Mem} (C : Cx p s m args meth c c_Model_shore 3 "TideLoansModel" (some .int) E) {x1 : Int32} {x2 : Int32} {X : Mem} (h : f_Model_shore_j54 x1 x2 X = some (r, Y)) {H : Heap} {locs : List Loc} (hS : Hs E s.heap X H locs) {ls : Array Slot} (hl : lv_has ls 3 [(0, .ref (ad E 70)), (1, .int x1), (2, .int x2)]) : W p l e ({ frames := 5, cells := 0, slots := 0, locals := 113 } : Room) s m args below meth c H locs 0 0 (MQ below (PostI E r Y) args s 0 0 (Ad E)) (F0 m 54 ls []) := by
  obtain ⟨hx, hb, hml, hown, hts, hrt, hlk, hKx⟩ := id C
  unfold f_Model_shore_j54 at h
  refine lv_iload_n hx hb d_Model_shore_54 rfl (lv_at hl 2 rfl) ?_
  refine r_if_eq (tgt := 76) C h d_Model_shore_55 (by decide) (fun h => ?_) (fun h => ?_)
  · skip
    exact k_Model_shore_j76 C h hS (lv_sub hl [0, 1] rfl)
  · skip
    refine lv_aload_n hx hb d_Model_shore_58 rfl (lv_at hl 0 rfl) ?_
    refine r_getI C hS (by decide) cel_Model (rfl : cls[6]? = some (R_Model, T_Model, 16)) in_Model 11 (by decide) tw_805 rfl h d_Model_shore_59 (fun v1 h => ?_)
    refine r_if_eq (tgt := 72) C h d_Model_shore_62 (by decide) (fun h => ?_) (fun h => ?_)
    · skip
      exact k_Model_shore_j72 C h hS (lv_sub hl [0, 1] rfl)
    · skip
      refine lv_aload_n hx hb d_Model_shore_65 rfl (lv_at hl 0 rfl) ?_
      obtain ⟨v2, X4, hr3, h⟩ := bd2_el h
      refine c_I hS (c_runV (As := []) (rest := []) C hS (by decide) cel_Model (rfl : cls[6]? = some (R_Model, T_Model, 16)) (k_Model_fails (l := l) (E := E) (X := X) hr3) cw_Model_fails ini_Model_fails ins_Model_fails sel_Model_fails tw_1126 hd_Model_fails rfl ⟨⟨rfl, rfl⟩, (Nat.le_of_ble_eq_true rfl), (Nat.le_of_ble_eq_true rfl)⟩ ⟨(Nat.le_of_ble_eq_true rfl), (Nat.le_of_ble_eq_true rfl)⟩ hl.1 rfl (Nat.le_of_ble_eq_true rfl) d_Model_shore_66) (fun H locs hS => ?_)
      refine r_if_eq (tgt := 76) C h d_Model_shore_69 (by decide) (fun h => ?_) (fun h => ?_)
      · skip
        exact k_Model_shore_j76 C h hS (lv_sub hl [0, 1] rfl)
      · skip
        exact k_Model_shore_j72 C h hS (lv_sub hl [0, 1] rfl)
set_option maxHeartbeats 4000000 in
set_option maxRecDepth 100000 in
theorem k_Model_shore_b27 {p : Program} {l : Launch} {e : Env} {s : State} {m : MethodId} {args : Array Value} {below : List Frame} {meth : Method} {c : Code} {E : En} {r : Int32} {Y : Mem} (C : Cx p s m args meth c c_Model_shore 3 "TideLoansModel" (some .int) E) : ∀ n, I_Model_shore_b27 p l e s m args below meth c E r Y n (r, Y) := by
  obtain ⟨hx, hb, hml, hown, hts, hrt, hlk, hKx⟩ := id C
  intro n
  induction n with
  | zero => intro x1 x2 X H locs ls h; exact it_0 h
  | succ n ih =>
    intro x1 x2 X H locs ls h hS hl
    obtain ⟨cc27, h, hc27⟩ := it_el h
    replace h : f_Model_shore_b27 x1 x2 X = some cc27 := h
    unfold f_Model_shore_b27 at h
    refine lv_iload_n hx hb d_Model_shore_27 rfl (lv_at hl 2 rfl) ?_
    refine r_if_eq (tgt := 54) C h d_Model_shore_28 (by decide) (fun h => ?_) (fun h => ?_)
    · skip
      replace h := lp_up h hc27
      exact k_Model_shore_j54 C h hS (lv_sub hl [0, 1, 2] rfl)
    · skip
      refine lv_aload_n hx hb d_Model_shore_31 rfl (lv_at hl 0 rfl) ?_
      refine r_getI C hS (by decide) cel_Model (rfl : cls[6]? = some (R_Model, T_Model, 16)) in_Model 11 (by decide) tw_805 rfl h d_Model_shore_32 (fun v1 h => ?_)
      refine lv_iconst (v := 3) hx hb d_Model_shore_35 (by decide) ?_
      refine r_icmp_ne (tgt := 54) C h d_Model_shore_36 (by decide) (fun h => ?_) (fun h => ?_)
      · skip
        replace h := lp_up h hc27
        exact k_Model_shore_j54 C h hS (lv_sub hl [0, 1, 2] rfl)
      · skip
        refine lv_aload_n hx hb d_Model_shore_39 rfl (lv_at hl 0 rfl) ?_
        obtain ⟨X3, hr2, h⟩ := bd_el h
        refine c_V hS (c_runV (As := []) (rest := []) C hS (by decide) cel_Model (rfl : cls[6]? = some (R_Model, T_Model, 16)) (k_Model_nextToken (l := l) (E := E) (X := X) hr2) cw_Model_nextToken ini_Model_nextToken ins_Model_nextToken sel_Model_nextToken tw_1084 hd_Model_nextToken rfl ⟨⟨rfl, rfl⟩, (Nat.le_of_ble_eq_true rfl), (Nat.le_of_ble_eq_true rfl)⟩ ⟨(Nat.le_of_ble_eq_true rfl), (Nat.le_of_ble_eq_true rfl)⟩ hl.1 rfl (Nat.le_of_ble_eq_true rfl) d_Model_shore_40) (fun H locs hS => ?_)
        refine lv_aload_n hx hb d_Model_shore_43 rfl (lv_at hl 0 rfl) ?_
        obtain ⟨v4, X6, hr5, h⟩ := bd2_el h
        refine c_I hS (c_runV (As := []) (rest := []) C hS (by decide) cel_Model (rfl : cls[6]? = some (R_Model, T_Model, 16)) (k_Model_itemHere (l := l) (E := E) (X := X3) hr5) cw_Model_itemHere ini_Model_itemHere ins_Model_itemHere sel_Model_itemHere tw_1098 hd_Model_itemHere rfl ⟨⟨rfl, rfl⟩, (Nat.le_of_ble_eq_true rfl), (Nat.le_of_ble_eq_true rfl)⟩ ⟨(Nat.le_of_ble_eq_true rfl), (Nat.le_of_ble_eq_true rfl)⟩ hl.1 rfl (Nat.le_of_ble_eq_true rfl) d_Model_shore_44) (fun H locs hS => ?_)
        refine lv_istore_n (lv' := [(2, .int v4), (0, .ref (ad E 70)), (1, .int x1)]) hx hb d_Model_shore_47 rfl hl (by decide) rfl (fun ls hl => ?_)
        refine r_iinc C (w := 1) (lv' := fun z => [(1, .int z), (2, .int v4), (0, .ref (ad E 70))]) h d_Model_shore_48 hl (k := 2) rfl (by decide) (by decide) (fun _ => rfl) (fun v7 ls h hl => ?_)
        refine lv_goto (tgt := 27) hx hb d_Model_shore_51 (by decide) ?_
        exact ih _ _ _ _ _ _ (lp_next h hc27) hS (lv_sub hl [2, 0, 1] rfl)
set_option maxHeartbeats 4000000 in
set_option maxRecDepth 100000 in
theorem k_Model_shore {l : Launch} {E : En} {X : Mem} {r : Int32} {Y : Mem} (h : f_Model_shore X = some (r, Y)) : Met l y_Model_shore (Cond.code y_Model_shore c_Model_shore 3 (some .int) :: tb) ({ frames := 5, cells := 0, slots := 0, locals := 113 } : Room) (PreC E [.ref (ad E 70)] X) (PostI E r Y) 0 0 (Ad E) := by
  refine met_of (by decide) (Nat.le_of_ble_eq_true rfl) (fun p e s m below meth c C hS ls hl => ?_)
  replace C : Cx p s m ([.ref (ad E 70)] : List Value).toArray meth c c_Model_shore 3 "TideLoansModel" (some .int) E := C
  replace hl : lv_has ls 3 [(0, .ref (ad E 70))] := hl
  obtain ⟨hx, hb, hml, hown, hts, hrt, hlk, hKx⟩ := id C
  unfold f_Model_shore at h
  refine lv_aload_n hx hb d_Model_shore_0 rfl (lv_at hl 0 rfl) ?_
  refine r_get C hS (by decide) cel_Model (rfl : cls[6]? = some (R_Model, T_Model, 16)) in_Model 0 (by decide) tw_794 rfl d_Model_shore_1 ?_
  refine lv_aload_n hx hb d_Model_shore_4 rfl (lv_at hl 0 rfl) ?_
  refine r_get C hS (by decide) cel_Model (rfl : cls[6]? = some (R_Model, T_Model, 16)) in_Model 2 (by decide) tw_796 rfl d_Model_shore_5 ?_
  obtain ⟨X2, hr1, h⟩ := bd_el h
  refine c_V hS (c_runS (As := [.ref (ad E 71), .ref (ad E 73)]) (rest := []) C hS (k_Model_copyRow (l := l) (E := E) (X := X) rfl rfl hr1) cw_Model_copyRow ini_Model_copyRow sta_Model_copyRow tw_1012 hd_Model_copyRow rfl ⟨⟨rfl, rfl⟩, (Nat.le_of_ble_eq_true rfl), (Nat.le_of_ble_eq_true rfl)⟩ ⟨(Nat.le_of_ble_eq_true rfl), (Nat.le_of_ble_eq_true rfl)⟩ hl.1 rfl (Nat.le_of_ble_eq_true rfl) d_Model_shore_8) (fun H locs hS => ?_)
  refine lv_aload_n hx hb d_Model_shore_11 rfl (lv_at hl 0 rfl) ?_
  refine lv_iconst (v := 0) hx hb d_Model_shore_12 (by decide) ?_
  refine r_putI C hS (by decide) cel_Model (rfl : cls[6]? = some (R_Model, T_Model, 16)) in_Model ty_Model tyok_Model nm_Model 13 (by decide) tw_807 rfl rfl rfl (Nat.le_of_ble_eq_true rfl) set_Model_13 rfl h d_Model_shore_13 (fun X3 H locs hS h => ?_)
  refine lv_aload_n hx hb d_Model_shore_16 rfl (lv_at hl 0 rfl) ?_
  obtain ⟨X5, hr4, h⟩ := bd_el h
  refine c_V hS (c_runV (As := []) (rest := []) C hS (by decide) cel_Model (rfl : cls[6]? = some (R_Model, T_Model, 16)) (k_Model_nextToken (l := l) (E := E) (X := X3) hr4) cw_Model_nextToken ini_Model_nextToken ins_Model_nextToken sel_Model_nextToken tw_1084 hd_Model_nextToken rfl ⟨⟨rfl, rfl⟩, (Nat.le_of_ble_eq_true rfl), (Nat.le_of_ble_eq_true rfl)⟩ ⟨(Nat.le_of_ble_eq_true rfl), (Nat.le_of_ble_eq_true rfl)⟩ hl.1 rfl (Nat.le_of_ble_eq_true rfl) d_Model_shore_17) (fun H locs hS => ?_)
  refine lv_iconst (v := 1) hx hb d_Model_shore_20 (by decide) ?_
  refine lv_istore_n (lv' := [(1, .int (1 : Int32)), (0, .ref (ad E 70))]) hx hb d_Model_shore_21 rfl hl (by decide) rfl (fun ls hl => ?_)
  refine lv_aload_n hx hb d_Model_shore_22 rfl (lv_at hl 1 rfl) ?_
  obtain ⟨v6, X8, hr7, h⟩ := bd2_el h
  refine c_I hS (c_runV (As := []) (rest := []) C hS (by decide) cel_Model (rfl : cls[6]? = some (R_Model, T_Model, 16)) (k_Model_itemHere (l := l) (E := E) (X := X5) hr7) cw_Model_itemHere ini_Model_itemHere ins_Model_itemHere sel_Model_itemHere tw_1098 hd_Model_itemHere rfl ⟨⟨rfl, rfl⟩, (Nat.le_of_ble_eq_true rfl), (Nat.le_of_ble_eq_true rfl)⟩ ⟨(Nat.le_of_ble_eq_true rfl), (Nat.le_of_ble_eq_true rfl)⟩ hl.1 rfl (Nat.le_of_ble_eq_true rfl) d_Model_shore_23) (fun H locs hS => ?_)
  refine lv_istore_n (lv' := [(2, .int v6), (1, .int (1 : Int32)), (0, .ref (ad E 70))]) hx hb d_Model_shore_26 rfl hl (by decide) rfl (fun ls hl => ?_)
  exact k_Model_shore_b27 C FU _ _ _ _ _ _ h hS (lv_sub hl [2, 1, 0] rfl)
set_option maxHeartbeats 4000000 in
set_option maxRecDepth 100000 in
theorem k_Model_isSheet {l : Launch} {E : En} {p0 : Int32} {X : Mem} {r : Int32} (h : f_Model_isSheet p0 = some r) : Met l y_Model_isSheet (Cond.code y_Model_isSheet c_Model_isSheet 1 (some .boolean) :: tb) ({ frames := 0, cells := 0, slots := 0, locals := 0 } : Room) (PreC E [.int p0] X) (PostI E r X) 0 0 (Ad E) := by
  refine met_of (by decide) (Nat.le_of_ble_eq_true rfl) (fun p e s m below meth c C hS ls hl => ?_)
  replace C : Cx p s m ([.int p0] : List Value).toArray meth c c_Model_isSheet 1 "TideLoansModel" (some .boolean) E := C
  replace hl : lv_has ls 1 [(0, .int p0)] := hl
  obtain ⟨hx, hb, hml, hown, hts, hrt, hlk, hKx⟩ := id C
  unfold f_Model_isSheet at h
  refine lv_iload_n hx hb d_Model_isSheet_0 rfl (lv_at hl 0 rfl) ?_
  refine r_if_lt (tgt := 13) C h d_Model_isSheet_1 (by decide) (fun h => ?_) (fun h => ?_)
  · skip
    refine lv_iconst (v := 0) hx hb d_Model_isSheet_13 (by decide) ?_
    exact r_zret0 C hS rfl (Or.inl rfl) h d_Model_isSheet_14
  · skip
    refine lv_iload_n hx hb d_Model_isSheet_4 rfl (lv_at hl 0 rfl) ?_
    refine lv_iconst (v := 4) hx hb d_Model_isSheet_5 (by decide) ?_
    refine r_icmp_ge (tgt := 13) C h d_Model_isSheet_6 (by decide) (fun h => ?_) (fun h => ?_)
    · skip
      refine lv_iconst (v := 0) hx hb d_Model_isSheet_13 (by decide) ?_
      exact r_zret0 C hS rfl (Or.inl rfl) h d_Model_isSheet_14
    · skip
      refine lv_iconst (v := 1) hx hb d_Model_isSheet_9 (by decide) ?_
      refine lv_goto (tgt := 14) hx hb d_Model_isSheet_10 (by decide) ?_
      exact r_zret0 C hS rfl (Or.inr rfl) h d_Model_isSheet_14
set_option maxHeartbeats 4000000 in
set_option maxRecDepth 100000 in
theorem k_Model_narrow {l : Launch} {E : En} {p0 : Int32} {p1 : Int64} {X : Mem} {r : Int64} (h : f_Model_narrow p0 p1 = some r) : Met l y_Model_narrow (Cond.code y_Model_narrow c_Model_narrow 3 (some .long) :: tb) ({ frames := 0, cells := 0, slots := 0, locals := 0 } : Room) (PreC E [.int p0, .long p1] X) (PostL E r X) 0 0 (Ad E) := by
  refine met_of (by decide) (Nat.le_of_ble_eq_true rfl) (fun p e s m below meth c C hS ls hl => ?_)
  replace C : Cx p s m ([.int p0, .long p1] : List Value).toArray meth c c_Model_narrow 3 "TideLoansModel" (some .long) E := C
  replace hl : lv_has ls 3 [(0, .int p0), (1, .long p1)] := hl
  obtain ⟨hx, hb, hml, hown, hts, hrt, hlk, hKx⟩ := id C
  unfold f_Model_narrow at h
  refine lv_iload_n hx hb d_Model_narrow_0 rfl (lv_at hl 0 rfl) ?_
  refine lv_bipush (v := 8) hx hb d_Model_narrow_1 (by decide) ?_
  refine r_icmp_ne (tgt := 13) C h d_Model_narrow_3 (by decide) (fun h => ?_) (fun h => ?_)
  · skip
    refine lv_iload_n hx hb d_Model_narrow_13 rfl (lv_at hl 0 rfl) ?_
    refine lv_bipush (v := 16) hx hb d_Model_narrow_14 (by decide) ?_
    refine r_icmp_ne (tgt := 26) C h d_Model_narrow_16 (by decide) (fun h => ?_) (fun h => ?_)
    · skip
      refine lv_lload_n hx hb d_Model_narrow_26 rfl (lv_at hl 1 rfl) ?_
      exact r_lret0 C hS rfl h d_Model_narrow_27
    · skip
      refine lv_lload_n hx hb d_Model_narrow_19 rfl (lv_at hl 1 rfl) ?_
      refine lv_l2i hx hb d_Model_narrow_20 rfl ?_
      refine lv_i2s hx hb d_Model_narrow_21 rfl ?_
      refine lv_i2l hx hb d_Model_narrow_22 rfl ?_
      refine lv_goto (tgt := 27) hx hb d_Model_narrow_23 (by decide) ?_
      exact r_lret0 C hS rfl h d_Model_narrow_27
  · skip
    refine lv_lload_n hx hb d_Model_narrow_6 rfl (lv_at hl 1 rfl) ?_
    refine lv_l2i hx hb d_Model_narrow_7 rfl ?_
    refine lv_i2b hx hb d_Model_narrow_8 rfl ?_
    refine lv_i2l hx hb d_Model_narrow_9 rfl ?_
    refine lv_goto (tgt := 27) hx hb d_Model_narrow_10 (by decide) ?_
    exact r_lret0 C hS rfl h d_Model_narrow_27
def I_Model_sheet_b93 (p : Program) (l : Launch) (e : Env) (s : State) (m : MethodId) (args : Array Value) (below : List Frame) (meth : Method) (c : Code) (E : En) (r : Int32) (Y : Mem) (x1 : Int32) (n : Nat) (tg : (Int32 × Mem)) : Prop := ∀ (x4 : Int32) (X : Mem) (H : Heap) (locs : List Loc) (ls : Array Slot), it (fun a => f_Model_sheet_b93 x1 a.1 a.2) n (x4, X) = some tg → Hs E s.heap X H locs → lv_has ls 5 [(0, .ref (ad E 70)), (1, .int x1), (4, .int x4)] → W p l e ({ frames := 1, cells := 0, slots := 0, locals := 21 } : Room) s m args below meth c H locs 0 0 (MQ below (PostI E r Y) args s 0 0 (Ad E)) (F0 m 93 ls [])
set_option maxHeartbeats 4000000 in
set_option maxRecDepth 100000 in
theorem k_Model_sheet_b93 {p : Program} {l : Launch} {e : Env} {s : State} {m : MethodId} {args : Array Value} {below : List Frame} {meth : Method} {c : Code} {E : En} {r : Int32} {Y : Mem} (C : Cx p s m args meth c c_Model_sheet 5 "TideLoansModel" (some .int) E) (x1 : Int32) : ∀ n, I_Model_sheet_b93 p l e s m args below meth c E r Y x1 n (r, Y) := by
  obtain ⟨hx, hb, hml, hown, hts, hrt, hlk, hKx⟩ := id C
  intro n
  induction n with
  | zero => intro x4 X H locs ls h; exact it_0 h
  | succ n ih =>
    intro x4 X H locs ls h hS hl
    obtain ⟨cc93, h, hc93⟩ := it_el h
    replace h : f_Model_sheet_b93 x1 x4 X = some cc93 := h
    unfold f_Model_sheet_b93 at h
    refine lv_iload hx hb d_Model_sheet_93 (lv_at hl 2 rfl) ?_
    refine lv_bipush (v := 40) hx hb d_Model_sheet_95 (by decide) ?_
    refine r_icmp_ge (tgt := 119) C h d_Model_sheet_97 (by decide) (fun h => ?_) (fun h => ?_)
    · skip
      refine lv_aload_n hx hb d_Model_sheet_119 rfl (lv_at hl 0 rfl) ?_
      refine r_get C hS (by decide) cel_Model (rfl : cls[6]? = some (R_Model, T_Model, 16)) in_Model 9 (by decide) tw_803 rfl d_Model_sheet_120 ?_
      refine lv_iload_n hx hb d_Model_sheet_123 rfl (lv_at hl 1 rfl) ?_
      refine r_ldI C hS (n := 4) rfl (by decide) h d_Model_sheet_124 (fun v1 h => ?_)
      replace h := lp_ret h hc93
      exact r_iret C hS rfl h d_Model_sheet_125
    · skip
      refine lv_aload_n hx hb d_Model_sheet_100 rfl (lv_at hl 0 rfl) ?_
      refine r_get C hS (by decide) cel_Model (rfl : cls[6]? = some (R_Model, T_Model, 16)) in_Model 10 (by decide) tw_804 rfl d_Model_sheet_101 ?_
      refine lv_bipush (v := 40) hx hb d_Model_sheet_104 (by decide) ?_
      refine lv_iload_n hx hb d_Model_sheet_106 rfl (lv_at hl 1 rfl) ?_
      refine lv_imul hx hb d_Model_sheet_107 ?_
      refine lv_iload hx hb d_Model_sheet_108 (lv_at hl 2 rfl) ?_
      refine lv_iadd hx hb d_Model_sheet_110 ?_
      refine lv_lconst (v := 0) hx hb d_Model_sheet_111 (by decide) ?_
      refine r_stL C hS (n := 160) rfl (by decide) h d_Model_sheet_112 (fun X2 H locs hS h => ?_)
      refine r_iinc C (w := 1) (lv' := fun z => [(4, .int z), (0, .ref (ad E 70)), (1, .int x1)]) h d_Model_sheet_113 hl (k := 2) rfl (by decide) (by decide) (fun _ => rfl) (fun v3 ls h hl => ?_)
      refine lv_goto (tgt := 93) hx hb d_Model_sheet_116 (by decide) ?_
      exact ih _ _ _ _ _ (lp_next h hc93) hS (lv_sub hl [1, 2, 0] rfl)
set_option maxHeartbeats 4000000 in
set_option maxRecDepth 100000 in
theorem k_Model_sheet_j89 {p : Program} {l : Launch} {e : Env} {s : State} {m : MethodId} {args : Array Value} {below : List Frame} {meth : Method} {c : Code} {E : En} {r : Int32} {Y : Mem} (C : Cx p s m args meth c c_Model_sheet 5 "TideLoansModel" (some .int) E) {x1 : Int32} {q0 : Nat} {q1 : Int32} {q2 : Int32} {X : Mem} (hq0 : kd q0 = 1000 + 4) (h : f_Model_sheet_j89 x1 q0 q1 q2 X = some (r, Y)) {H : Heap} {locs : List Loc} (hS : Hs E s.heap X H locs) {ls : Array Slot} (hl : lv_has ls 5 [(0, .ref (ad E 70)), (1, .int x1)]) : W p l e ({ frames := 1, cells := 0, slots := 0, locals := 21 } : Room) s m args below meth c H locs 0 0 (MQ below (PostI E r Y) args s 0 0 (Ad E)) (F0 m 89 ls [.int q2, .int q1, .ref (ad E q0)]) := by
  obtain ⟨hx, hb, hml, hown, hts, hrt, hlk, hKx⟩ := id C
  unfold f_Model_sheet_j89 at h
  refine r_stI C hS (n := 4) hq0 (by decide) h d_Model_sheet_89 (fun X1 H locs hS h => ?_)
  refine lv_iconst (v := 0) hx hb d_Model_sheet_90 (by decide) ?_
  refine lv_istore (lv' := [(4, .int (0 : Int32)), (0, .ref (ad E 70)), (1, .int x1)]) hx hb d_Model_sheet_91 hl (by decide) rfl (fun ls hl => ?_)
  exact k_Model_sheet_b93 C _ FU _ _ _ _ _ h hS (lv_sub hl [1, 2, 0] rfl)
set_option maxHeartbeats 4000000 in
set_option maxRecDepth 100000 in
theorem k_Model_sheet_j74 {p : Program} {l : Launch} {e : Env} {s : State} {m : MethodId} {args : Array Value} {below : List Frame} {meth : Method} {c : Code} {E : En} {r : Int32} {Y : Mem} (C : Cx p s m args meth c c_Model_sheet 5 "TideLoansModel" (some .int) E) {x1 : Int32} {x2 : Int32} {x3 : Int32} {q0 : Nat} {q1 : Int32} {q2 : Int32} {X : Mem} (hq0 : kd q0 = 1000 + 4) (h : f_Model_sheet_j74 x1 x2 x3 q0 q1 q2 X = some (r, Y)) {H : Heap} {locs : List Loc} (hS : Hs E s.heap X H locs) {ls : Array Slot} (hl : lv_has ls 5 [(0, .ref (ad E 70)), (1, .int x1), (2, .int x2), (3, .int x3)]) : W p l e ({ frames := 1, cells := 0, slots := 0, locals := 21 } : Room) s m args below meth c H locs 0 0 (MQ below (PostI E r Y) args s 0 0 (Ad E)) (F0 m 74 ls [.int q2, .int q1, .ref (ad E q0)]) := by
  obtain ⟨hx, hb, hml, hown, hts, hrt, hlk, hKx⟩ := id C
  unfold f_Model_sheet_j74 at h
  refine r_stI C hS (n := 4) hq0 (by decide) h d_Model_sheet_74 (fun X1 H locs hS h => ?_)
  refine lv_aload_n hx hb d_Model_sheet_75 rfl (lv_at hl 0 rfl) ?_
  refine r_get C hS (by decide) cel_Model (rfl : cls[6]? = some (R_Model, T_Model, 16)) in_Model 9 (by decide) tw_803 rfl d_Model_sheet_76 ?_
  refine lv_iload_n hx hb d_Model_sheet_79 rfl (lv_at hl 1 rfl) ?_
  refine lv_iload_n hx hb d_Model_sheet_80 rfl (lv_at hl 2 rfl) ?_
  refine r_if_ne (tgt := 88) C h d_Model_sheet_81 (by decide) (fun h => ?_) (fun h => ?_)
  · skip
    refine lv_iload_n hx hb d_Model_sheet_88 rfl (lv_at hl 3 rfl) ?_
    exact k_Model_sheet_j89 C rfl h hS (lv_sub hl [0, 1] rfl)
  · skip
    refine lv_iconst (v := 0) hx hb d_Model_sheet_84 (by decide) ?_
    refine lv_goto (tgt := 89) hx hb d_Model_sheet_85 (by decide) ?_
    exact k_Model_sheet_j89 C rfl h hS (lv_sub hl [0, 1] rfl)
set_option maxHeartbeats 4000000 in
set_option maxRecDepth 100000 in
theorem k_Model_sheet_j36 {p : Program} {l : Launch} {e : Env} {s : State} {m : MethodId} {args : Array Value} {below : List Frame} {meth : Method} {c : Code} {E : En} {r : Int32} {Y : Mem} (C : Cx p s m args meth c c_Model_sheet 5 "TideLoansModel" (some .int) E) {x1 : Int32} {x2 : Int32} {x3 : Int32} {X : Mem} (h : f_Model_sheet_j36 x1 x2 x3 X = some (r, Y)) {H : Heap} {locs : List Loc} (hS : Hs E s.heap X H locs) {ls : Array Slot} (hl : lv_has ls 5 [(0, .ref (ad E 70)), (1, .int x1), (2, .int x2), (3, .int x3)]) : W p l e ({ frames := 1, cells := 0, slots := 0, locals := 21 } : Room) s m args below meth c H locs 0 0 (MQ below (PostI E r Y) args s 0 0 (Ad E)) (F0 m 36 ls []) := by
  obtain ⟨hx, hb, hml, hown, hts, hrt, hlk, hKx⟩ := id C
  unfold f_Model_sheet_j36 at h
  refine lv_iload_n hx hb d_Model_sheet_36 rfl (lv_at hl 3 rfl) ?_
  refine r_if_ge (tgt := 47) C h d_Model_sheet_37 (by decide) (fun h => ?_) (fun h => ?_)
  · skip
    refine lv_iload_n hx hb d_Model_sheet_47 rfl (lv_at hl 3 rfl) ?_
    refine lv_bipush (v := 40) hx hb d_Model_sheet_48 (by decide) ?_
    refine r_icmp_le (tgt := 60) C h d_Model_sheet_50 (by decide) (fun h => ?_) (fun h => ?_)
    · skip
      refine lv_aload_n hx hb d_Model_sheet_60 rfl (lv_at hl 0 rfl) ?_
      refine r_get C hS (by decide) cel_Model (rfl : cls[6]? = some (R_Model, T_Model, 16)) in_Model 8 (by decide) tw_802 rfl d_Model_sheet_61 ?_
      refine lv_iload_n hx hb d_Model_sheet_64 rfl (lv_at hl 1 rfl) ?_
      refine lv_iload_n hx hb d_Model_sheet_65 rfl (lv_at hl 2 rfl) ?_
      refine r_if_ne (tgt := 73) C h d_Model_sheet_66 (by decide) (fun h => ?_) (fun h => ?_)
      · skip
        refine lv_iload_n hx hb d_Model_sheet_73 rfl (lv_at hl 2 rfl) ?_
        exact k_Model_sheet_j74 C rfl h hS (lv_sub hl [0, 1, 2, 3] rfl)
      · skip
        refine lv_iconst (v := -1) hx hb d_Model_sheet_69 (by decide) ?_
        refine lv_goto (tgt := 74) hx hb d_Model_sheet_70 (by decide) ?_
        exact k_Model_sheet_j74 C rfl h hS (lv_sub hl [0, 1, 2, 3] rfl)
    · skip
      refine lv_aload_n hx hb d_Model_sheet_53 rfl (lv_at hl 0 rfl) ?_
      refine lv_ldc (v := -1000000001) hx hb hown (hts _ tw_858) d_Model_sheet_54 ?_
      obtain ⟨v1, X3, hr2, h⟩ := bd2_el h
      refine c_I hS (c_runV (As := [.int (-1000000001 : Int32)]) (rest := []) C hS (by decide) cel_Model (rfl : cls[6]? = some (R_Model, T_Model, 16)) (k_Model_finds (l := l) (E := E) (X := X) hr2) cw_Model_finds ini_Model_finds ins_Model_finds sel_Model_finds tw_859 hd_Model_finds rfl ⟨⟨rfl, rfl⟩, (Nat.le_of_ble_eq_true rfl), (Nat.le_of_ble_eq_true rfl)⟩ ⟨(Nat.le_of_ble_eq_true rfl), (Nat.le_of_ble_eq_true rfl)⟩ hl.1 rfl (Nat.le_of_ble_eq_true rfl) d_Model_sheet_56) (fun H locs hS => ?_)
      exact r_iret C hS rfl h d_Model_sheet_59
  · skip
    refine lv_aload_n hx hb d_Model_sheet_40 rfl (lv_at hl 0 rfl) ?_
    refine lv_ldc (v := -1000000007) hx hb hown (hts _ tw_1153) d_Model_sheet_41 ?_
    obtain ⟨v4, X6, hr5, h⟩ := bd2_el h
    refine c_I hS (c_runV (As := [.int (-1000000007 : Int32)]) (rest := []) C hS (by decide) cel_Model (rfl : cls[6]? = some (R_Model, T_Model, 16)) (k_Model_finds (l := l) (E := E) (X := X) hr5) cw_Model_finds ini_Model_finds ins_Model_finds sel_Model_finds tw_859 hd_Model_finds rfl ⟨⟨rfl, rfl⟩, (Nat.le_of_ble_eq_true rfl), (Nat.le_of_ble_eq_true rfl)⟩ ⟨(Nat.le_of_ble_eq_true rfl), (Nat.le_of_ble_eq_true rfl)⟩ hl.1 rfl (Nat.le_of_ble_eq_true rfl) d_Model_sheet_43) (fun H locs hS => ?_)
    exact r_iret C hS rfl h d_Model_sheet_46
set_option maxHeartbeats 4000000 in
set_option maxRecDepth 100000 in
theorem k_Model_sheet_j29 {p : Program} {l : Launch} {e : Env} {s : State} {m : MethodId} {args : Array Value} {below : List Frame} {meth : Method} {c : Code} {E : En} {r : Int32} {Y : Mem} (C : Cx p s m args meth c c_Model_sheet 5 "TideLoansModel" (some .int) E) {X : Mem} (h : f_Model_sheet_j29 X = some (r, Y)) {H : Heap} {locs : List Loc} (hS : Hs E s.heap X H locs) {ls : Array Slot} (hl : lv_has ls 5 [(0, .ref (ad E 70))]) : W p l e ({ frames := 1, cells := 0, slots := 0, locals := 21 } : Room) s m args below meth c H locs 0 0 (MQ below (PostI E r Y) args s 0 0 (Ad E)) (F0 m 29 ls []) := by
  obtain ⟨hx, hb, hml, hown, hts, hrt, hlk, hKx⟩ := id C
  unfold f_Model_sheet_j29 at h
  refine lv_aload_n hx hb d_Model_sheet_29 rfl (lv_at hl 0 rfl) ?_
  refine lv_ldc (v := -1000000001) hx hb hown (hts _ tw_858) d_Model_sheet_30 ?_
  obtain ⟨v1, X3, hr2, h⟩ := bd2_el h
  refine c_I hS (c_runV (As := [.int (-1000000001 : Int32)]) (rest := []) C hS (by decide) cel_Model (rfl : cls[6]? = some (R_Model, T_Model, 16)) (k_Model_finds (l := l) (E := E) (X := X) hr2) cw_Model_finds ini_Model_finds ins_Model_finds sel_Model_finds tw_859 hd_Model_finds rfl ⟨⟨rfl, rfl⟩, (Nat.le_of_ble_eq_true rfl), (Nat.le_of_ble_eq_true rfl)⟩ ⟨(Nat.le_of_ble_eq_true rfl), (Nat.le_of_ble_eq_true rfl)⟩ hl.1 rfl (Nat.le_of_ble_eq_true rfl) d_Model_sheet_32) (fun H locs hS => ?_)
  exact r_iret C hS rfl h d_Model_sheet_35
set_option maxHeartbeats 4000000 in
set_option maxRecDepth 100000 in
theorem k_Model_sheet {l : Launch} {E : En} {p1 : Int32} {p2 : Int32} {p3 : Int32} {X : Mem} {r : Int32} {Y : Mem} (h : f_Model_sheet p1 p2 p3 X = some (r, Y)) : Met l y_Model_sheet (Cond.code y_Model_sheet c_Model_sheet 5 (some .int) :: tb) ({ frames := 1, cells := 0, slots := 0, locals := 21 } : Room) (PreC E [.ref (ad E 70), .int p1, .int p2, .int p3] X) (PostI E r Y) 0 0 (Ad E) := by
  refine met_of (by decide) (Nat.le_of_ble_eq_true rfl) (fun p e s m below meth c C hS ls hl => ?_)
  replace C : Cx p s m ([.ref (ad E 70), .int p1, .int p2, .int p3] : List Value).toArray meth c c_Model_sheet 5 "TideLoansModel" (some .int) E := C
  replace hl : lv_has ls 5 [(0, .ref (ad E 70)), (1, .int p1), (2, .int p2), (3, .int p3)] := hl
  obtain ⟨hx, hb, hml, hown, hts, hrt, hlk, hKx⟩ := id C
  unfold f_Model_sheet at h
  refine lv_iload_n hx hb d_Model_sheet_0 rfl (lv_at hl 1 rfl) ?_
  obtain ⟨v1, hr2, h⟩ := bd_el h
  refine c_I hS (c_runS (As := [.int p1]) (rest := []) C hS (k_Model_isSheet (l := l) (E := E) (X := X) hr2) cw_Model_isSheet ini_Model_isSheet sta_Model_isSheet tw_1150 hd_Model_isSheet rfl ⟨⟨rfl, rfl⟩, (Nat.le_of_ble_eq_true rfl), (Nat.le_of_ble_eq_true rfl)⟩ ⟨(Nat.le_of_ble_eq_true rfl), (Nat.le_of_ble_eq_true rfl)⟩ hl.1 rfl (Nat.le_of_ble_eq_true rfl) d_Model_sheet_1) (fun H locs hS => ?_)
  refine r_if_eq (tgt := 29) C h d_Model_sheet_4 (by decide) (fun h => ?_) (fun h => ?_)
  · skip
    exact k_Model_sheet_j29 C h hS (lv_sub hl [0] rfl)
  · skip
    refine lv_iload_n hx hb d_Model_sheet_7 rfl (lv_at hl 2 rfl) ?_
    refine r_if_eq (tgt := 36) C h d_Model_sheet_8 (by decide) (fun h => ?_) (fun h => ?_)
    · skip
      exact k_Model_sheet_j36 C h hS (lv_sub hl [0, 1, 2, 3] rfl)
    · skip
      refine lv_iload_n hx hb d_Model_sheet_11 rfl (lv_at hl 2 rfl) ?_
      refine lv_bipush (v := 8) hx hb d_Model_sheet_12 (by decide) ?_
      refine r_icmp_eq (tgt := 36) C h d_Model_sheet_14 (by decide) (fun h => ?_) (fun h => ?_)
      · skip
        exact k_Model_sheet_j36 C h hS (lv_sub hl [0, 1, 2, 3] rfl)
      · skip
        refine lv_iload_n hx hb d_Model_sheet_17 rfl (lv_at hl 2 rfl) ?_
        refine lv_bipush (v := 16) hx hb d_Model_sheet_18 (by decide) ?_
        refine r_icmp_eq (tgt := 36) C h d_Model_sheet_20 (by decide) (fun h => ?_) (fun h => ?_)
        · skip
          exact k_Model_sheet_j36 C h hS (lv_sub hl [0, 1, 2, 3] rfl)
        · skip
          refine lv_iload_n hx hb d_Model_sheet_23 rfl (lv_at hl 2 rfl) ?_
          refine lv_bipush (v := 64) hx hb d_Model_sheet_24 (by decide) ?_
          refine r_icmp_eq (tgt := 36) C h d_Model_sheet_26 (by decide) (fun h => ?_) (fun h => ?_)
          · skip
            exact k_Model_sheet_j36 C h hS (lv_sub hl [0, 1, 2, 3] rfl)
          · skip
            exact k_Model_sheet_j29 C h hS (lv_sub hl [0] rfl)
set_option maxHeartbeats 4000000 in
set_option maxRecDepth 100000 in
theorem k_Model_write {l : Launch} {E : En} {p1 : Int32} {p2 : Int32} {p3 : Int64} {X : Mem} {r : Int64} {Y : Mem} (h : f_Model_write p1 p2 p3 X = some (r, Y)) : Met l y_Model_write (Cond.code y_Model_write c_Model_write 7 (some .long) :: tb) ({ frames := 1, cells := 0, slots := 0, locals := 25 } : Room) (PreC E [.ref (ad E 70), .int p1, .int p2, .long p3] X) (PostL E r Y) 0 0 (Ad E) := by
  refine met_of (by decide) (Nat.le_of_ble_eq_true rfl) (fun p e s m below meth c C hS ls hl => ?_)
  replace C : Cx p s m ([.ref (ad E 70), .int p1, .int p2, .long p3] : List Value).toArray meth c c_Model_write 7 "TideLoansModel" (some .long) E := C
  replace hl : lv_has ls 7 [(0, .ref (ad E 70)), (1, .int p1), (2, .int p2), (3, .long p3)] := hl
  obtain ⟨hx, hb, hml, hown, hts, hrt, hlk, hKx⟩ := id C
  unfold f_Model_write at h
  refine lv_iload_n hx hb d_Model_write_0 rfl (lv_at hl 1 rfl) ?_
  obtain ⟨v1, hr2, h⟩ := bd_el h
  refine c_I hS (c_runS (As := [.int p1]) (rest := []) C hS (k_Model_isSheet (l := l) (E := E) (X := X) hr2) cw_Model_isSheet ini_Model_isSheet sta_Model_isSheet tw_1150 hd_Model_isSheet rfl ⟨⟨rfl, rfl⟩, (Nat.le_of_ble_eq_true rfl), (Nat.le_of_ble_eq_true rfl)⟩ ⟨(Nat.le_of_ble_eq_true rfl), (Nat.le_of_ble_eq_true rfl)⟩ hl.1 rfl (Nat.le_of_ble_eq_true rfl) d_Model_write_1) (fun H locs hS => ?_)
  refine r_if_ne (tgt := 15) C h d_Model_write_4 (by decide) (fun h => ?_) (fun h => ?_)
  · skip
    refine lv_aload_n hx hb d_Model_write_15 rfl (lv_at hl 0 rfl) ?_
    refine r_get C hS (by decide) cel_Model (rfl : cls[6]? = some (R_Model, T_Model, 16)) in_Model 8 (by decide) tw_802 rfl d_Model_write_16 ?_
    refine lv_iload_n hx hb d_Model_write_19 rfl (lv_at hl 1 rfl) ?_
    refine r_ldI C hS (n := 4) rfl (by decide) h d_Model_write_20 (fun v3 h => ?_)
    refine r_if_ge (tgt := 32) C h d_Model_write_21 (by decide) (fun h => ?_) (fun h => ?_)
    · skip
      refine lv_iload_n hx hb d_Model_write_32 rfl (lv_at hl 2 rfl) ?_
      refine lv_i2l hx hb d_Model_write_33 rfl ?_
      refine lv_lconst (v := 0) hx hb d_Model_write_34 (by decide) ?_
      refine lv_aload_n hx hb d_Model_write_35 rfl (lv_at hl 0 rfl) ?_
      refine r_get C hS (by decide) cel_Model (rfl : cls[6]? = some (R_Model, T_Model, 16)) in_Model 9 (by decide) tw_803 rfl d_Model_write_36 ?_
      refine lv_iload_n hx hb d_Model_write_39 rfl (lv_at hl 1 rfl) ?_
      refine r_ldI C hS (n := 4) rfl (by decide) h d_Model_write_40 (fun v4 h => ?_)
      refine lv_iconst (v := 1) hx hb d_Model_write_41 (by decide) ?_
      refine lv_isub hx hb d_Model_write_42 ?_
      refine lv_i2l hx hb d_Model_write_43 rfl ?_
      obtain ⟨v5, hr6, h⟩ := bd_el h
      refine c_I hS (c_runS (As := [.long (p2.toInt64), .long (0 : Int64), .long ((v4 - (1 : Int32)).toInt64)]) (rest := []) C hS (k_Model_isIn (l := l) (E := E) (X := X) hr6) cw_Model_isIn ini_Model_isIn sta_Model_isIn tw_851 hd_Model_isIn rfl ⟨⟨rfl, rfl⟩, (Nat.le_of_ble_eq_true rfl), (Nat.le_of_ble_eq_true rfl)⟩ ⟨(Nat.le_of_ble_eq_true rfl), (Nat.le_of_ble_eq_true rfl)⟩ hl.1 rfl (Nat.le_of_ble_eq_true rfl) d_Model_write_44) (fun H locs hS => ?_)
      refine r_if_ne (tgt := 58) C h d_Model_write_47 (by decide) (fun h => ?_) (fun h => ?_)
      · skip
        refine lv_aload_n hx hb d_Model_write_58 rfl (lv_at hl 0 rfl) ?_
        refine r_get C hS (by decide) cel_Model (rfl : cls[6]? = some (R_Model, T_Model, 16)) in_Model 10 (by decide) tw_804 rfl d_Model_write_59 ?_
        refine lv_bipush (v := 40) hx hb d_Model_write_62 (by decide) ?_
        refine lv_iload_n hx hb d_Model_write_64 rfl (lv_at hl 1 rfl) ?_
        refine lv_imul hx hb d_Model_write_65 ?_
        refine lv_iload_n hx hb d_Model_write_66 rfl (lv_at hl 2 rfl) ?_
        refine lv_iadd hx hb d_Model_write_67 ?_
        refine r_ldL C hS (n := 160) rfl (by decide) h d_Model_write_68 (fun v7 h => ?_)
        refine lv_lstore (lv' := [(5, .long v7), (0, .ref (ad E 70)), (1, .int p1), (2, .int p2), (3, .long p3)]) hx hb d_Model_write_69 hl (by decide) rfl (fun ls hl => ?_)
        refine lv_aload_n hx hb d_Model_write_71 rfl (lv_at hl 1 rfl) ?_
        refine r_get C hS (by decide) cel_Model (rfl : cls[6]? = some (R_Model, T_Model, 16)) in_Model 10 (by decide) tw_804 rfl d_Model_write_72 ?_
        refine lv_bipush (v := 40) hx hb d_Model_write_75 (by decide) ?_
        refine lv_iload_n hx hb d_Model_write_77 rfl (lv_at hl 2 rfl) ?_
        refine lv_imul hx hb d_Model_write_78 ?_
        refine lv_iload_n hx hb d_Model_write_79 rfl (lv_at hl 3 rfl) ?_
        refine lv_iadd hx hb d_Model_write_80 ?_
        refine lv_aload_n hx hb d_Model_write_81 rfl (lv_at hl 1 rfl) ?_
        refine r_get C hS (by decide) cel_Model (rfl : cls[6]? = some (R_Model, T_Model, 16)) in_Model 8 (by decide) tw_802 rfl d_Model_write_82 ?_
        refine lv_iload_n hx hb d_Model_write_85 rfl (lv_at hl 2 rfl) ?_
        refine r_ldI C hS (n := 4) rfl (by decide) h d_Model_write_86 (fun v8 h => ?_)
        refine lv_lload_n hx hb d_Model_write_87 rfl (lv_at hl 4 rfl) ?_
        obtain ⟨v9, hr10, h⟩ := bd_el h
        refine c_L hS (c_runS (As := [.int v8, .long p3]) (rest := [.int (((40 : Int32) * p1) + p2), .ref (ad E 79)]) C hS (k_Model_narrow (l := l) (E := E) (X := X) hr10) cw_Model_narrow ini_Model_narrow sta_Model_narrow tw_1159 hd_Model_narrow rfl ⟨⟨rfl, rfl⟩, (Nat.le_of_ble_eq_true rfl), (Nat.le_of_ble_eq_true rfl)⟩ ⟨(Nat.le_of_ble_eq_true rfl), (Nat.le_of_ble_eq_true rfl)⟩ hl.1 rfl (Nat.le_of_ble_eq_true rfl) d_Model_write_88) (fun H locs hS => ?_)
        refine r_stL C hS (n := 160) rfl (by decide) h d_Model_write_91 (fun X11 H locs hS h => ?_)
        refine lv_lload hx hb d_Model_write_92 (lv_at hl 0 rfl) ?_
        exact r_lret C hS rfl h d_Model_write_94
      · skip
        refine lv_aload_n hx hb d_Model_write_50 rfl (lv_at hl 0 rfl) ?_
        refine lv_ldc (v := -1000000001) hx hb hown (hts _ tw_858) d_Model_write_51 ?_
        obtain ⟨v12, X14, hr13, h⟩ := bd2_el h
        refine c_I hS (c_runV (As := [.int (-1000000001 : Int32)]) (rest := []) C hS (by decide) cel_Model (rfl : cls[6]? = some (R_Model, T_Model, 16)) (k_Model_finds (l := l) (E := E) (X := X) hr13) cw_Model_finds ini_Model_finds ins_Model_finds sel_Model_finds tw_859 hd_Model_finds rfl ⟨⟨rfl, rfl⟩, (Nat.le_of_ble_eq_true rfl), (Nat.le_of_ble_eq_true rfl)⟩ ⟨(Nat.le_of_ble_eq_true rfl), (Nat.le_of_ble_eq_true rfl)⟩ hl.1 rfl (Nat.le_of_ble_eq_true rfl) d_Model_write_53) (fun H locs hS => ?_)
        refine lv_i2l hx hb d_Model_write_56 rfl ?_
        exact r_lret C hS rfl h d_Model_write_57
    · skip
      refine lv_aload_n hx hb d_Model_write_24 rfl (lv_at hl 0 rfl) ?_
      refine lv_ldc (v := -1000000006) hx hb hown (hts _ tw_1158) d_Model_write_25 ?_
      obtain ⟨v15, X17, hr16, h⟩ := bd2_el h
      refine c_I hS (c_runV (As := [.int (-1000000006 : Int32)]) (rest := []) C hS (by decide) cel_Model (rfl : cls[6]? = some (R_Model, T_Model, 16)) (k_Model_finds (l := l) (E := E) (X := X) hr16) cw_Model_finds ini_Model_finds ins_Model_finds sel_Model_finds tw_859 hd_Model_finds rfl ⟨⟨rfl, rfl⟩, (Nat.le_of_ble_eq_true rfl), (Nat.le_of_ble_eq_true rfl)⟩ ⟨(Nat.le_of_ble_eq_true rfl), (Nat.le_of_ble_eq_true rfl)⟩ hl.1 rfl (Nat.le_of_ble_eq_true rfl) d_Model_write_27) (fun H locs hS => ?_)
      refine lv_i2l hx hb d_Model_write_30 rfl ?_
      exact r_lret C hS rfl h d_Model_write_31
  · skip
    refine lv_aload_n hx hb d_Model_write_7 rfl (lv_at hl 0 rfl) ?_
    refine lv_ldc (v := -1000000001) hx hb hown (hts _ tw_858) d_Model_write_8 ?_
    obtain ⟨v18, X20, hr19, h⟩ := bd2_el h
    refine c_I hS (c_runV (As := [.int (-1000000001 : Int32)]) (rest := []) C hS (by decide) cel_Model (rfl : cls[6]? = some (R_Model, T_Model, 16)) (k_Model_finds (l := l) (E := E) (X := X) hr19) cw_Model_finds ini_Model_finds ins_Model_finds sel_Model_finds tw_859 hd_Model_finds rfl ⟨⟨rfl, rfl⟩, (Nat.le_of_ble_eq_true rfl), (Nat.le_of_ble_eq_true rfl)⟩ ⟨(Nat.le_of_ble_eq_true rfl), (Nat.le_of_ble_eq_true rfl)⟩ hl.1 rfl (Nat.le_of_ble_eq_true rfl) d_Model_write_10) (fun H locs hS => ?_)
    refine lv_i2l hx hb d_Model_write_13 rfl ?_
    exact r_lret C hS rfl h d_Model_write_14
def I_Model_copy_b136 (p : Program) (l : Launch) (e : Env) (s : State) (m : MethodId) (args : Array Value) (below : List Frame) (meth : Method) (c : Code) (E : En) (r : Int32) (Y : Mem) (x5 : Int32) (x6 : Int32) (x7 : Int32) (n : Nat) (tg : (Int32 × Mem)) : Prop := ∀ (x8 : Int32) (X : Mem) (H : Heap) (locs : List Loc) (ls : Array Slot), it (fun a => f_Model_copy_b136 x5 x6 x7 a.1 a.2) n (x8, X) = some tg → Hs E s.heap X H locs → lv_has ls 10 [(0, .ref (ad E 70)), (5, .int x5), (6, .int x6), (7, .int x7), (8, .int x8)] → W p l e ({ frames := 1, cells := 0, slots := 0, locals := 21 } : Room) s m args below meth c H locs 0 0 (MQ below (PostI E r Y) args s 0 0 (Ad E)) (F0 m 136 ls [])
set_option maxHeartbeats 4000000 in
set_option maxRecDepth 100000 in
theorem k_Model_copy_j162 {p : Program} {l : Launch} {e : Env} {s : State} {m : MethodId} {args : Array Value} {below : List Frame} {meth : Method} {c : Code} {E : En} {r : Int32} {Y : Mem} (C : Cx p s m args meth c c_Model_copy 10 "TideLoansModel" (some .int) E) {x5 : Int32} {x6 : Int32} {x7 : Int32} {x8 : Int32} {q0 : Int32} {X : Mem} {tg : ((Int32 × Mem) ⊕ (Int32 × Mem))} {n136 : Nat} (hc136 : fin (fun a => f_Model_copy_b136 x5 x6 x7 a.1 a.2) n136 (r, Y) tg) (ih136 : I_Model_copy_b136 p l e s m args below meth c E r Y x5 x6 x7 n136 (r, Y)) (h : f_Model_copy_j162 x5 x6 x7 x8 q0 X = some tg) {H : Heap} {locs : List Loc} (hS : Hs E s.heap X H locs) {ls : Array Slot} (hl : lv_has ls 10 [(0, .ref (ad E 70)), (5, .int x5), (6, .int x6), (7, .int x7), (8, .int x8)]) : W p l e ({ frames := 1, cells := 0, slots := 0, locals := 21 } : Room) s m args below meth c H locs 0 0 (MQ below (PostI E r Y) args s 0 0 (Ad E)) (F0 m 162 ls [.int q0]) := by
  obtain ⟨hx, hb, hml, hown, hts, hrt, hlk, hKx⟩ := id C
  unfold f_Model_copy_j162 at h
  refine lv_istore (lv' := [(9, .int q0), (0, .ref (ad E 70)), (5, .int x5), (6, .int x6), (7, .int x7), (8, .int x8)]) hx hb d_Model_copy_162 hl (by decide) rfl (fun ls hl => ?_)
  refine lv_aload_n hx hb d_Model_copy_164 rfl (lv_at hl 1 rfl) ?_
  refine r_get C hS (by decide) cel_Model (rfl : cls[6]? = some (R_Model, T_Model, 16)) in_Model 10 (by decide) tw_804 rfl d_Model_copy_165 ?_
  refine lv_iload hx hb d_Model_copy_168 (lv_at hl 4 rfl) ?_
  refine lv_iload hx hb d_Model_copy_170 (lv_at hl 0 rfl) ?_
  refine lv_iadd hx hb d_Model_copy_172 ?_
  refine lv_aload_n hx hb d_Model_copy_173 rfl (lv_at hl 1 rfl) ?_
  refine r_get C hS (by decide) cel_Model (rfl : cls[6]? = some (R_Model, T_Model, 16)) in_Model 10 (by decide) tw_804 rfl d_Model_copy_174 ?_
  refine lv_iload hx hb d_Model_copy_177 (lv_at hl 3 rfl) ?_
  refine lv_iload hx hb d_Model_copy_179 (lv_at hl 0 rfl) ?_
  refine lv_iadd hx hb d_Model_copy_181 ?_
  refine r_ldL C hS (n := 160) rfl (by decide) h d_Model_copy_182 (fun v1 h => ?_)
  refine r_stL C hS (n := 160) rfl (by decide) h d_Model_copy_183 (fun X2 H locs hS h => ?_)
  refine r_iinc C (w := 1) (lv' := fun z => [(8, .int z), (9, .int q0), (0, .ref (ad E 70)), (5, .int x5), (6, .int x6), (7, .int x7)]) h d_Model_copy_184 hl (k := 5) rfl (by decide) (by decide) (fun _ => rfl) (fun v3 ls h hl => ?_)
  refine lv_goto (tgt := 136) hx hb d_Model_copy_187 (by decide) ?_
  exact ih136 _ _ _ _ _ (lp_next h hc136) hS (lv_sub hl [2, 3, 4, 5, 0] rfl)
set_option maxHeartbeats 4000000 in
set_option maxRecDepth 100000 in
theorem k_Model_copy_b136 {p : Program} {l : Launch} {e : Env} {s : State} {m : MethodId} {args : Array Value} {below : List Frame} {meth : Method} {c : Code} {E : En} {r : Int32} {Y : Mem} (C : Cx p s m args meth c c_Model_copy 10 "TideLoansModel" (some .int) E) (x5 : Int32) (x6 : Int32) (x7 : Int32) : ∀ n, I_Model_copy_b136 p l e s m args below meth c E r Y x5 x6 x7 n (r, Y) := by
  obtain ⟨hx, hb, hml, hown, hts, hrt, hlk, hKx⟩ := id C
  intro n
  induction n with
  | zero => intro x8 X H locs ls h; exact it_0 h
  | succ n ih =>
    intro x8 X H locs ls h hS hl
    obtain ⟨cc136, h, hc136⟩ := it_el h
    replace h : f_Model_copy_b136 x5 x6 x7 x8 X = some cc136 := h
    unfold f_Model_copy_b136 at h
    refine lv_iload hx hb d_Model_copy_136 (lv_at hl 4 rfl) ?_
    refine lv_iload hx hb d_Model_copy_138 (lv_at hl 1 rfl) ?_
    refine r_icmp_ge (tgt := 190) C h d_Model_copy_140 (by decide) (fun h => ?_) (fun h => ?_)
    · skip
      refine lv_iload hx hb d_Model_copy_190 (lv_at hl 1 rfl) ?_
      replace h := lp_ret h hc136
      exact r_iret C hS rfl h d_Model_copy_192
    · skip
      refine lv_iload hx hb d_Model_copy_143 (lv_at hl 2 rfl) ?_
      refine lv_iload hx hb d_Model_copy_145 (lv_at hl 3 rfl) ?_
      refine r_icmp_ge (tgt := 160) C h d_Model_copy_147 (by decide) (fun h => ?_) (fun h => ?_)
      · skip
        refine lv_iload hx hb d_Model_copy_160 (lv_at hl 4 rfl) ?_
        exact k_Model_copy_j162 C hc136 ih h hS (lv_sub hl [0, 1, 2, 3, 4] rfl)
      · skip
        refine lv_iload hx hb d_Model_copy_150 (lv_at hl 1 rfl) ?_
        refine lv_iconst (v := 1) hx hb d_Model_copy_152 (by decide) ?_
        refine lv_isub hx hb d_Model_copy_153 ?_
        refine lv_iload hx hb d_Model_copy_154 (lv_at hl 4 rfl) ?_
        refine lv_isub hx hb d_Model_copy_156 ?_
        refine lv_goto (tgt := 162) hx hb d_Model_copy_157 (by decide) ?_
        exact k_Model_copy_j162 C hc136 ih h hS (lv_sub hl [0, 1, 2, 3, 4] rfl)
set_option maxHeartbeats 4000000 in
set_option maxRecDepth 100000 in
theorem k_Model_copy_j109 {p : Program} {l : Launch} {e : Env} {s : State} {m : MethodId} {args : Array Value} {below : List Frame} {meth : Method} {c : Code} {E : En} {r : Int32} {Y : Mem} (C : Cx p s m args meth c c_Model_copy 10 "TideLoansModel" (some .int) E) {X : Mem} (h : f_Model_copy_j109 X = some (r, Y)) {H : Heap} {locs : List Loc} (hS : Hs E s.heap X H locs) {ls : Array Slot} (hl : lv_has ls 10 [(0, .ref (ad E 70))]) : W p l e ({ frames := 1, cells := 0, slots := 0, locals := 21 } : Room) s m args below meth c H locs 0 0 (MQ below (PostI E r Y) args s 0 0 (Ad E)) (F0 m 109 ls []) := by
  obtain ⟨hx, hb, hml, hown, hts, hrt, hlk, hKx⟩ := id C
  unfold f_Model_copy_j109 at h
  refine lv_aload_n hx hb d_Model_copy_109 rfl (lv_at hl 0 rfl) ?_
  refine lv_ldc (v := -1000000001) hx hb hown (hts _ tw_858) d_Model_copy_110 ?_
  obtain ⟨v1, X3, hr2, h⟩ := bd2_el h
  refine c_I hS (c_runV (As := [.int (-1000000001 : Int32)]) (rest := []) C hS (by decide) cel_Model (rfl : cls[6]? = some (R_Model, T_Model, 16)) (k_Model_finds (l := l) (E := E) (X := X) hr2) cw_Model_finds ini_Model_finds ins_Model_finds sel_Model_finds tw_859 hd_Model_finds rfl ⟨⟨rfl, rfl⟩, (Nat.le_of_ble_eq_true rfl), (Nat.le_of_ble_eq_true rfl)⟩ ⟨(Nat.le_of_ble_eq_true rfl), (Nat.le_of_ble_eq_true rfl)⟩ hl.1 rfl (Nat.le_of_ble_eq_true rfl) d_Model_copy_112) (fun H locs hS => ?_)
  exact r_iret C hS rfl h d_Model_copy_115
set_option maxHeartbeats 4000000 in
set_option maxRecDepth 100000 in
theorem k_Model_copy_j39 {p : Program} {l : Launch} {e : Env} {s : State} {m : MethodId} {args : Array Value} {below : List Frame} {meth : Method} {c : Code} {E : En} {r : Int32} {Y : Mem} (C : Cx p s m args meth c c_Model_copy 10 "TideLoansModel" (some .int) E) {X : Mem} (h : f_Model_copy_j39 X = some (r, Y)) {H : Heap} {locs : List Loc} (hS : Hs E s.heap X H locs) {ls : Array Slot} (hl : lv_has ls 10 [(0, .ref (ad E 70))]) : W p l e ({ frames := 1, cells := 0, slots := 0, locals := 21 } : Room) s m args below meth c H locs 0 0 (MQ below (PostI E r Y) args s 0 0 (Ad E)) (F0 m 39 ls []) := by
  obtain ⟨hx, hb, hml, hown, hts, hrt, hlk, hKx⟩ := id C
  unfold f_Model_copy_j39 at h
  refine lv_aload_n hx hb d_Model_copy_39 rfl (lv_at hl 0 rfl) ?_
  refine lv_ldc (v := -1000000006) hx hb hown (hts _ tw_1158) d_Model_copy_40 ?_
  obtain ⟨v1, X3, hr2, h⟩ := bd2_el h
  refine c_I hS (c_runV (As := [.int (-1000000006 : Int32)]) (rest := []) C hS (by decide) cel_Model (rfl : cls[6]? = some (R_Model, T_Model, 16)) (k_Model_finds (l := l) (E := E) (X := X) hr2) cw_Model_finds ini_Model_finds ins_Model_finds sel_Model_finds tw_859 hd_Model_finds rfl ⟨⟨rfl, rfl⟩, (Nat.le_of_ble_eq_true rfl), (Nat.le_of_ble_eq_true rfl)⟩ ⟨(Nat.le_of_ble_eq_true rfl), (Nat.le_of_ble_eq_true rfl)⟩ hl.1 rfl (Nat.le_of_ble_eq_true rfl) d_Model_copy_42) (fun H locs hS => ?_)
  exact r_iret C hS rfl h d_Model_copy_45
set_option maxHeartbeats 4000000 in
set_option maxRecDepth 100000 in
theorem k_Model_copy_j14 {p : Program} {l : Launch} {e : Env} {s : State} {m : MethodId} {args : Array Value} {below : List Frame} {meth : Method} {c : Code} {E : En} {r : Int32} {Y : Mem} (C : Cx p s m args meth c c_Model_copy 10 "TideLoansModel" (some .int) E) {X : Mem} (h : f_Model_copy_j14 X = some (r, Y)) {H : Heap} {locs : List Loc} (hS : Hs E s.heap X H locs) {ls : Array Slot} (hl : lv_has ls 10 [(0, .ref (ad E 70))]) : W p l e ({ frames := 1, cells := 0, slots := 0, locals := 21 } : Room) s m args below meth c H locs 0 0 (MQ below (PostI E r Y) args s 0 0 (Ad E)) (F0 m 14 ls []) := by
  obtain ⟨hx, hb, hml, hown, hts, hrt, hlk, hKx⟩ := id C
  unfold f_Model_copy_j14 at h
  refine lv_aload_n hx hb d_Model_copy_14 rfl (lv_at hl 0 rfl) ?_
  refine lv_ldc (v := -1000000001) hx hb hown (hts _ tw_858) d_Model_copy_15 ?_
  obtain ⟨v1, X3, hr2, h⟩ := bd2_el h
  refine c_I hS (c_runV (As := [.int (-1000000001 : Int32)]) (rest := []) C hS (by decide) cel_Model (rfl : cls[6]? = some (R_Model, T_Model, 16)) (k_Model_finds (l := l) (E := E) (X := X) hr2) cw_Model_finds ini_Model_finds ins_Model_finds sel_Model_finds tw_859 hd_Model_finds rfl ⟨⟨rfl, rfl⟩, (Nat.le_of_ble_eq_true rfl), (Nat.le_of_ble_eq_true rfl)⟩ ⟨(Nat.le_of_ble_eq_true rfl), (Nat.le_of_ble_eq_true rfl)⟩ hl.1 rfl (Nat.le_of_ble_eq_true rfl) d_Model_copy_17) (fun H locs hS => ?_)
  exact r_iret C hS rfl h d_Model_copy_20
set_option maxHeartbeats 4000000 in
set_option maxRecDepth 100000 in
theorem k_Model_copy {l : Launch} {E : En} {p1 : Int32} {p2 : Int32} {p3 : Int32} {p4 : Int32} {p5 : Int32} {X : Mem} {r : Int32} {Y : Mem} (h : f_Model_copy p1 p2 p3 p4 p5 X = some (r, Y)) : Met l y_Model_copy (Cond.code y_Model_copy c_Model_copy 10 (some .int) :: tb) ({ frames := 1, cells := 0, slots := 0, locals := 21 } : Room) (PreC E [.ref (ad E 70), .int p1, .int p2, .int p3, .int p4, .int p5] X) (PostI E r Y) 0 0 (Ad E) := by
  refine met_of (by decide) (Nat.le_of_ble_eq_true rfl) (fun p e s m below meth c C hS ls hl => ?_)
  replace C : Cx p s m ([.ref (ad E 70), .int p1, .int p2, .int p3, .int p4, .int p5] : List Value).toArray meth c c_Model_copy 10 "TideLoansModel" (some .int) E := C
  replace hl : lv_has ls 10 [(0, .ref (ad E 70)), (1, .int p1), (2, .int p2), (3, .int p3), (4, .int p4), (5, .int p5)] := hl
  obtain ⟨hx, hb, hml, hown, hts, hrt, hlk, hKx⟩ := id C
  unfold f_Model_copy at h
  refine lv_iload_n hx hb d_Model_copy_0 rfl (lv_at hl 1 rfl) ?_
  obtain ⟨v1, hr2, h⟩ := bd_el h
  refine c_I hS (c_runS (As := [.int p1]) (rest := []) C hS (k_Model_isSheet (l := l) (E := E) (X := X) hr2) cw_Model_isSheet ini_Model_isSheet sta_Model_isSheet tw_1150 hd_Model_isSheet rfl ⟨⟨rfl, rfl⟩, (Nat.le_of_ble_eq_true rfl), (Nat.le_of_ble_eq_true rfl)⟩ ⟨(Nat.le_of_ble_eq_true rfl), (Nat.le_of_ble_eq_true rfl)⟩ hl.1 rfl (Nat.le_of_ble_eq_true rfl) d_Model_copy_1) (fun H locs hS => ?_)
  refine r_if_eq (tgt := 14) C h d_Model_copy_4 (by decide) (fun h => ?_) (fun h => ?_)
  · skip
    exact k_Model_copy_j14 C h hS (lv_sub hl [0] rfl)
  · skip
    refine lv_iload_n hx hb d_Model_copy_7 rfl (lv_at hl 3 rfl) ?_
    obtain ⟨v3, hr4, h⟩ := bd_el h
    refine c_I hS (c_runS (As := [.int p3]) (rest := []) C hS (k_Model_isSheet (l := l) (E := E) (X := X) hr4) cw_Model_isSheet ini_Model_isSheet sta_Model_isSheet tw_1150 hd_Model_isSheet rfl ⟨⟨rfl, rfl⟩, (Nat.le_of_ble_eq_true rfl), (Nat.le_of_ble_eq_true rfl)⟩ ⟨(Nat.le_of_ble_eq_true rfl), (Nat.le_of_ble_eq_true rfl)⟩ hl.1 rfl (Nat.le_of_ble_eq_true rfl) d_Model_copy_8) (fun H locs hS => ?_)
    refine r_if_ne (tgt := 21) C h d_Model_copy_11 (by decide) (fun h => ?_) (fun h => ?_)
    · skip
      refine lv_aload_n hx hb d_Model_copy_21 rfl (lv_at hl 0 rfl) ?_
      refine r_get C hS (by decide) cel_Model (rfl : cls[6]? = some (R_Model, T_Model, 16)) in_Model 8 (by decide) tw_802 rfl d_Model_copy_22 ?_
      refine lv_iload_n hx hb d_Model_copy_25 rfl (lv_at hl 1 rfl) ?_
      refine r_ldI C hS (n := 4) rfl (by decide) h d_Model_copy_26 (fun v5 h => ?_)
      refine r_if_lt (tgt := 39) C h d_Model_copy_27 (by decide) (fun h => ?_) (fun h => ?_)
      · skip
        exact k_Model_copy_j39 C h hS (lv_sub hl [0] rfl)
      · skip
        refine lv_aload_n hx hb d_Model_copy_30 rfl (lv_at hl 0 rfl) ?_
        refine r_get C hS (by decide) cel_Model (rfl : cls[6]? = some (R_Model, T_Model, 16)) in_Model 8 (by decide) tw_802 rfl d_Model_copy_31 ?_
        refine lv_iload_n hx hb d_Model_copy_34 rfl (lv_at hl 3 rfl) ?_
        refine r_ldI C hS (n := 4) rfl (by decide) h d_Model_copy_35 (fun v6 h => ?_)
        refine r_if_ge (tgt := 46) C h d_Model_copy_36 (by decide) (fun h => ?_) (fun h => ?_)
        · skip
          refine lv_aload_n hx hb d_Model_copy_46 rfl (lv_at hl 0 rfl) ?_
          refine r_get C hS (by decide) cel_Model (rfl : cls[6]? = some (R_Model, T_Model, 16)) in_Model 8 (by decide) tw_802 rfl d_Model_copy_47 ?_
          refine lv_iload_n hx hb d_Model_copy_50 rfl (lv_at hl 1 rfl) ?_
          refine r_ldI C hS (n := 4) rfl (by decide) h d_Model_copy_51 (fun v7 h => ?_)
          refine lv_aload_n hx hb d_Model_copy_52 rfl (lv_at hl 0 rfl) ?_
          refine r_get C hS (by decide) cel_Model (rfl : cls[6]? = some (R_Model, T_Model, 16)) in_Model 8 (by decide) tw_802 rfl d_Model_copy_53 ?_
          refine lv_iload_n hx hb d_Model_copy_56 rfl (lv_at hl 3 rfl) ?_
          refine r_ldI C hS (n := 4) rfl (by decide) h d_Model_copy_57 (fun v8 h => ?_)
          refine r_icmp_eq (tgt := 68) C h d_Model_copy_58 (by decide) (fun h => ?_) (fun h => ?_)
          · skip
            refine lv_iload_n hx hb d_Model_copy_68 rfl (lv_at hl 2 rfl) ?_
            refine r_if_lt (tgt := 109) C h d_Model_copy_69 (by decide) (fun h => ?_) (fun h => ?_)
            · skip
              exact k_Model_copy_j109 C h hS (lv_sub hl [0] rfl)
            · skip
              refine lv_iload hx hb d_Model_copy_72 (lv_at hl 4 rfl) ?_
              refine r_if_lt (tgt := 109) C h d_Model_copy_74 (by decide) (fun h => ?_) (fun h => ?_)
              · skip
                exact k_Model_copy_j109 C h hS (lv_sub hl [0] rfl)
              · skip
                refine lv_iload hx hb d_Model_copy_77 (lv_at hl 5 rfl) ?_
                refine r_if_lt (tgt := 109) C h d_Model_copy_79 (by decide) (fun h => ?_) (fun h => ?_)
                · skip
                  exact k_Model_copy_j109 C h hS (lv_sub hl [0] rfl)
                · skip
                  refine lv_iload hx hb d_Model_copy_82 (lv_at hl 5 rfl) ?_
                  refine lv_aload_n hx hb d_Model_copy_84 rfl (lv_at hl 0 rfl) ?_
                  refine r_get C hS (by decide) cel_Model (rfl : cls[6]? = some (R_Model, T_Model, 16)) in_Model 9 (by decide) tw_803 rfl d_Model_copy_85 ?_
                  refine lv_iload_n hx hb d_Model_copy_88 rfl (lv_at hl 1 rfl) ?_
                  refine r_ldI C hS (n := 4) rfl (by decide) h d_Model_copy_89 (fun v9 h => ?_)
                  refine lv_iload_n hx hb d_Model_copy_90 rfl (lv_at hl 2 rfl) ?_
                  refine lv_isub hx hb d_Model_copy_91 ?_
                  refine r_icmp_gt (tgt := 109) C h d_Model_copy_92 (by decide) (fun h => ?_) (fun h => ?_)
                  · skip
                    exact k_Model_copy_j109 C h hS (lv_sub hl [0] rfl)
                  · skip
                    refine lv_iload hx hb d_Model_copy_95 (lv_at hl 5 rfl) ?_
                    refine lv_aload_n hx hb d_Model_copy_97 rfl (lv_at hl 0 rfl) ?_
                    refine r_get C hS (by decide) cel_Model (rfl : cls[6]? = some (R_Model, T_Model, 16)) in_Model 9 (by decide) tw_803 rfl d_Model_copy_98 ?_
                    refine lv_iload_n hx hb d_Model_copy_101 rfl (lv_at hl 3 rfl) ?_
                    refine r_ldI C hS (n := 4) rfl (by decide) h d_Model_copy_102 (fun v10 h => ?_)
                    refine lv_iload hx hb d_Model_copy_103 (lv_at hl 4 rfl) ?_
                    refine lv_isub hx hb d_Model_copy_105 ?_
                    refine r_icmp_le (tgt := 116) C h d_Model_copy_106 (by decide) (fun h => ?_) (fun h => ?_)
                    · skip
                      refine lv_bipush (v := 40) hx hb d_Model_copy_116 (by decide) ?_
                      refine lv_iload_n hx hb d_Model_copy_118 rfl (lv_at hl 1 rfl) ?_
                      refine lv_imul hx hb d_Model_copy_119 ?_
                      refine lv_iload_n hx hb d_Model_copy_120 rfl (lv_at hl 2 rfl) ?_
                      refine lv_iadd hx hb d_Model_copy_121 ?_
                      refine r_top h (fun v11 h => ?_)
                      refine lv_istore (lv' := [(6, .int v11), (0, .ref (ad E 70)), (1, .int p1), (2, .int p2), (3, .int p3), (4, .int p4), (5, .int p5)]) hx hb d_Model_copy_122 hl (by decide) rfl (fun ls hl => ?_)
                      refine lv_bipush (v := 40) hx hb d_Model_copy_124 (by decide) ?_
                      refine lv_iload_n hx hb d_Model_copy_126 rfl (lv_at hl 4 rfl) ?_
                      refine lv_imul hx hb d_Model_copy_127 ?_
                      refine lv_iload hx hb d_Model_copy_128 (lv_at hl 5 rfl) ?_
                      refine lv_iadd hx hb d_Model_copy_130 ?_
                      refine r_top h (fun v12 h => ?_)
                      refine lv_istore (lv' := [(7, .int v12), (6, .int v11), (0, .ref (ad E 70)), (1, .int p1), (2, .int p2), (3, .int p3), (4, .int p4), (5, .int p5)]) hx hb d_Model_copy_131 hl (by decide) rfl (fun ls hl => ?_)
                      refine lv_iconst (v := 0) hx hb d_Model_copy_133 (by decide) ?_
                      refine lv_istore (lv' := [(8, .int (0 : Int32)), (7, .int v12), (6, .int v11), (0, .ref (ad E 70)), (1, .int p1), (2, .int p2), (3, .int p3), (4, .int p4), (5, .int p5)]) hx hb d_Model_copy_134 hl (by decide) rfl (fun ls hl => ?_)
                      exact k_Model_copy_b136 C _ _ _ FU _ _ _ _ _ h hS (lv_sub hl [3, 8, 2, 1, 0] rfl)
                    · skip
                      exact k_Model_copy_j109 C h hS (lv_sub hl [0] rfl)
          · skip
            refine lv_aload_n hx hb d_Model_copy_61 rfl (lv_at hl 0 rfl) ?_
            refine lv_ldc (v := -1000000003) hx hb hown (hts _ tw_953) d_Model_copy_62 ?_
            obtain ⟨v13, X15, hr14, h⟩ := bd2_el h
            refine c_I hS (c_runV (As := [.int (-1000000003 : Int32)]) (rest := []) C hS (by decide) cel_Model (rfl : cls[6]? = some (R_Model, T_Model, 16)) (k_Model_finds (l := l) (E := E) (X := X) hr14) cw_Model_finds ini_Model_finds ins_Model_finds sel_Model_finds tw_859 hd_Model_finds rfl ⟨⟨rfl, rfl⟩, (Nat.le_of_ble_eq_true rfl), (Nat.le_of_ble_eq_true rfl)⟩ ⟨(Nat.le_of_ble_eq_true rfl), (Nat.le_of_ble_eq_true rfl)⟩ hl.1 rfl (Nat.le_of_ble_eq_true rfl) d_Model_copy_64) (fun H locs hS => ?_)
            exact r_iret C hS rfl h d_Model_copy_67
        · skip
          exact k_Model_copy_j39 C h hS (lv_sub hl [0] rfl)
    · skip
      exact k_Model_copy_j14 C h hS (lv_sub hl [0] rfl)
set_option maxHeartbeats 4000000 in
set_option maxRecDepth 100000 in
theorem k_Model_wants {l : Launch} {E : En} {p1 : Int32} {X : Mem} {r : Int32} (h : f_Model_wants p1 X = some r) : Met l y_Model_wants (Cond.code y_Model_wants c_Model_wants 2 (some .int) :: tb) ({ frames := 1, cells := 0, slots := 0, locals := 20 } : Room) (PreC E [.ref (ad E 70), .int p1] X) (PostI E r X) 0 0 (Ad E) := by
  refine met_of (by decide) (Nat.le_of_ble_eq_true rfl) (fun p e s m below meth c C hS ls hl => ?_)
  replace C : Cx p s m ([.ref (ad E 70), .int p1] : List Value).toArray meth c c_Model_wants 2 "TideLoansModel" (some .int) E := C
  replace hl : lv_has ls 2 [(0, .ref (ad E 70)), (1, .int p1)] := hl
  obtain ⟨hx, hb, hml, hown, hts, hrt, hlk, hKx⟩ := id C
  unfold f_Model_wants at h
  refine lv_iload_n hx hb d_Model_wants_0 rfl (lv_at hl 1 rfl) ?_
  obtain ⟨v1, hr2, h⟩ := bd_el h
  refine c_I hS (c_runS (As := [.int p1]) (rest := []) C hS (k_Model_isSheet (l := l) (E := E) (X := X) hr2) cw_Model_isSheet ini_Model_isSheet sta_Model_isSheet tw_1150 hd_Model_isSheet rfl ⟨⟨rfl, rfl⟩, (Nat.le_of_ble_eq_true rfl), (Nat.le_of_ble_eq_true rfl)⟩ ⟨(Nat.le_of_ble_eq_true rfl), (Nat.le_of_ble_eq_true rfl)⟩ hl.1 rfl (Nat.le_of_ble_eq_true rfl) d_Model_wants_1) (fun H locs hS => ?_)
  refine r_if_ne (tgt := 12) C h d_Model_wants_4 (by decide) (fun h => ?_) (fun h => ?_)
  · skip
    refine lv_aload_n hx hb d_Model_wants_12 rfl (lv_at hl 0 rfl) ?_
    refine r_get C hS (by decide) cel_Model (rfl : cls[6]? = some (R_Model, T_Model, 16)) in_Model 8 (by decide) tw_802 rfl d_Model_wants_13 ?_
    refine lv_iload_n hx hb d_Model_wants_16 rfl (lv_at hl 1 rfl) ?_
    refine r_ldI C hS (n := 4) rfl (by decide) h d_Model_wants_17 (fun v3 h => ?_)
    refine r_if_ge (tgt := 26) C h d_Model_wants_18 (by decide) (fun h => ?_) (fun h => ?_)
    · skip
      refine lv_iconst (v := 0) hx hb d_Model_wants_26 (by decide) ?_
      exact r_iret0 C hS rfl h d_Model_wants_27
    · skip
      refine lv_ldc (v := -1000000006) hx hb hown (hts _ tw_1158) d_Model_wants_21 ?_
      refine lv_goto (tgt := 27) hx hb d_Model_wants_23 (by decide) ?_
      exact r_iret0 C hS rfl h d_Model_wants_27
  · skip
    refine lv_ldc (v := -1000000001) hx hb hown (hts _ tw_858) d_Model_wants_7 ?_
    refine lv_goto (tgt := 27) hx hb d_Model_wants_9 (by decide) ?_
    exact r_iret0 C hS rfl h d_Model_wants_27
def I_Model_lays_b22 (p : Program) (l : Launch) (e : Env) (s : State) (m : MethodId) (args : Array Value) (below : List Frame) (meth : Method) (c : Code) (E : En) (r : Int32) (Y : Mem) (x1 : Int32) (n : Nat) (tg : (Int32 × Mem)) : Prop := ∀ (x2 : Int32) (x3 : Int32) (X : Mem) (H : Heap) (locs : List Loc) (ls : Array Slot), it (fun a => f_Model_lays_b22 x1 a.1 a.2.1 a.2.2) n (x2, x3, X) = some tg → Hs E s.heap X H locs → lv_has ls 6 [(0, .ref (ad E 70)), (1, .int x1), (2, .int x2), (3, .int x3)] → W p l e ({ frames := 2, cells := 0, slots := 0, locals := 41 } : Room) s m args below meth c H locs 0 0 (MQ below (PostI E r Y) args s 0 0 (Ad E)) (F0 m 22 ls [])
set_option maxHeartbeats 4000000 in
set_option maxRecDepth 100000 in
theorem k_Model_lays_j77 {p : Program} {l : Launch} {e : Env} {s : State} {m : MethodId} {args : Array Value} {below : List Frame} {meth : Method} {c : Code} {E : En} {r : Int32} {Y : Mem} (C : Cx p s m args meth c c_Model_lays 6 "TideLoansModel" (some .int) E) {x1 : Int32} {x2 : Int32} {x3 : Int32} {X : Mem} {tg : ((Int32 × Mem) ⊕ (Int32 × Int32 × Mem))} {n22 : Nat} (hc22 : fin (fun a => f_Model_lays_b22 x1 a.1 a.2.1 a.2.2) n22 (r, Y) tg) (ih22 : I_Model_lays_b22 p l e s m args below meth c E r Y x1 n22 (r, Y)) (h : f_Model_lays_j77 x1 x2 x3 X = some tg) {H : Heap} {locs : List Loc} (hS : Hs E s.heap X H locs) {ls : Array Slot} (hl : lv_has ls 6 [(0, .ref (ad E 70)), (1, .int x1), (2, .int x2), (3, .int x3)]) : W p l e ({ frames := 2, cells := 0, slots := 0, locals := 41 } : Room) s m args below meth c H locs 0 0 (MQ below (PostI E r Y) args s 0 0 (Ad E)) (F0 m 77 ls []) := by
  obtain ⟨hx, hb, hml, hown, hts, hrt, hlk, hKx⟩ := id C
  unfold f_Model_lays_j77 at h
  refine r_iinc C (w := 1) (lv' := fun z => [(3, .int z), (0, .ref (ad E 70)), (1, .int x1), (2, .int x2)]) h d_Model_lays_77 hl (k := 3) rfl (by decide) (by decide) (fun _ => rfl) (fun v1 ls h hl => ?_)
  refine lv_goto (tgt := 22) hx hb d_Model_lays_80 (by decide) ?_
  exact ih22 _ _ _ _ _ _ (lp_next h hc22) hS (lv_sub hl [1, 2, 3, 0] rfl)
set_option maxHeartbeats 4000000 in
set_option maxRecDepth 100000 in
theorem k_Model_lays_b22 {p : Program} {l : Launch} {e : Env} {s : State} {m : MethodId} {args : Array Value} {below : List Frame} {meth : Method} {c : Code} {E : En} {r : Int32} {Y : Mem} (C : Cx p s m args meth c c_Model_lays 6 "TideLoansModel" (some .int) E) (x1 : Int32) : ∀ n, I_Model_lays_b22 p l e s m args below meth c E r Y x1 n (r, Y) := by
  obtain ⟨hx, hb, hml, hown, hts, hrt, hlk, hKx⟩ := id C
  intro n
  induction n with
  | zero => intro x2 x3 X H locs ls h; exact it_0 h
  | succ n ih =>
    intro x2 x3 X H locs ls h hS hl
    obtain ⟨cc22, h, hc22⟩ := it_el h
    replace h : f_Model_lays_b22 x1 x2 x3 X = some cc22 := h
    unfold f_Model_lays_b22 at h
    refine lv_iload_n hx hb d_Model_lays_22 rfl (lv_at hl 3 rfl) ?_
    refine lv_aload_n hx hb d_Model_lays_23 rfl (lv_at hl 0 rfl) ?_
    refine r_get C hS (by decide) cel_Model (rfl : cls[6]? = some (R_Model, T_Model, 16)) in_Model 9 (by decide) tw_803 rfl d_Model_lays_24 ?_
    refine lv_iload_n hx hb d_Model_lays_27 rfl (lv_at hl 1 rfl) ?_
    refine r_ldI C hS (n := 4) rfl (by decide) h d_Model_lays_28 (fun v1 h => ?_)
    refine r_icmp_ge (tgt := 83) C h d_Model_lays_29 (by decide) (fun h => ?_) (fun h => ?_)
    · skip
      refine lv_iload_n hx hb d_Model_lays_83 rfl (lv_at hl 2 rfl) ?_
      replace h := lp_ret h hc22
      exact r_iret C hS rfl h d_Model_lays_84
    · skip
      refine lv_iload_n hx hb d_Model_lays_32 rfl (lv_at hl 3 rfl) ?_
      refine lv_bipush (v := 16) hx hb d_Model_lays_33 (by decide) ?_
      refine r_icmp_ge (tgt := 83) C h d_Model_lays_35 (by decide) (fun h => ?_) (fun h => ?_)
      · skip
        refine lv_iload_n hx hb d_Model_lays_83 rfl (lv_at hl 2 rfl) ?_
        replace h := lp_ret h hc22
        exact r_iret C hS rfl h d_Model_lays_84
      · skip
        refine lv_aload_n hx hb d_Model_lays_38 rfl (lv_at hl 0 rfl) ?_
        refine r_get C hS (by decide) cel_Model (rfl : cls[6]? = some (R_Model, T_Model, 16)) in_Model 10 (by decide) tw_804 rfl d_Model_lays_39 ?_
        refine lv_bipush (v := 40) hx hb d_Model_lays_42 (by decide) ?_
        refine lv_iload_n hx hb d_Model_lays_44 rfl (lv_at hl 1 rfl) ?_
        refine lv_imul hx hb d_Model_lays_45 ?_
        refine lv_iload_n hx hb d_Model_lays_46 rfl (lv_at hl 3 rfl) ?_
        refine lv_iadd hx hb d_Model_lays_47 ?_
        refine r_ldL C hS (n := 160) rfl (by decide) h d_Model_lays_48 (fun v2 h => ?_)
        refine lv_lstore (lv' := [(4, .long v2), (0, .ref (ad E 70)), (1, .int x1), (2, .int x2), (3, .int x3)]) hx hb d_Model_lays_49 hl (by decide) rfl (fun ls hl => ?_)
        refine lv_lload hx hb d_Model_lays_51 (lv_at hl 0 rfl) ?_
        refine lv_lconst (v := 0) hx hb d_Model_lays_53 (by decide) ?_
        refine lv_ldc2 (v := 9) hx hb hown (hts _ tw_850) d_Model_lays_54 ?_
        obtain ⟨v3, hr4, h⟩ := bd_el h
        refine c_I hS (c_runS (As := [.long v2, .long (0 : Int64), .long (9 : Int64)]) (rest := []) C hS (k_Model_isIn (l := l) (E := E) (X := X) hr4) cw_Model_isIn ini_Model_isIn sta_Model_isIn tw_851 hd_Model_isIn rfl ⟨⟨rfl, rfl⟩, (Nat.le_of_ble_eq_true rfl), (Nat.le_of_ble_eq_true rfl)⟩ ⟨(Nat.le_of_ble_eq_true rfl), (Nat.le_of_ble_eq_true rfl)⟩ hl.1 rfl (Nat.le_of_ble_eq_true rfl) d_Model_lays_57) (fun H locs hS => ?_)
        refine r_if_eq (tgt := 77) C h d_Model_lays_60 (by decide) (fun h => ?_) (fun h => ?_)
        · skip
          exact k_Model_lays_j77 C hc22 ih h hS (lv_sub hl [1, 2, 3, 4] rfl)
        · skip
          refine lv_aload_n hx hb d_Model_lays_63 rfl (lv_at hl 1 rfl) ?_
          refine r_get C hS (by decide) cel_Model (rfl : cls[6]? = some (R_Model, T_Model, 16)) in_Model 0 (by decide) tw_794 rfl d_Model_lays_64 ?_
          refine lv_iconst (v := 3) hx hb d_Model_lays_67 (by decide) ?_
          refine lv_iload_n hx hb d_Model_lays_68 rfl (lv_at hl 4 rfl) ?_
          refine lv_iadd hx hb d_Model_lays_69 ?_
          refine lv_lload hx hb d_Model_lays_70 (lv_at hl 0 rfl) ?_
          refine lv_l2i hx hb d_Model_lays_72 rfl ?_
          refine r_stI C hS (n := 83) rfl (by decide) h d_Model_lays_73 (fun X5 H locs hS h => ?_)
          refine r_iinc C (w := 1) (lv' := fun z => [(2, .int z), (4, .long v2), (0, .ref (ad E 70)), (1, .int x1), (3, .int x3)]) h d_Model_lays_74 hl (k := 3) rfl (by decide) (by decide) (fun _ => rfl) (fun v6 ls h hl => ?_)
          exact k_Model_lays_j77 C hc22 ih h hS (lv_sub hl [2, 3, 0, 4] rfl)
set_option maxHeartbeats 4000000 in
set_option maxRecDepth 100000 in
theorem k_Model_lays {l : Launch} {E : En} {p1 : Int32} {X : Mem} {r : Int32} {Y : Mem} (h : f_Model_lays p1 X = some (r, Y)) : Met l y_Model_lays (Cond.code y_Model_lays c_Model_lays 6 (some .int) :: tb) ({ frames := 2, cells := 0, slots := 0, locals := 41 } : Room) (PreC E [.ref (ad E 70), .int p1] X) (PostI E r Y) 0 0 (Ad E) := by
  refine met_of (by decide) (Nat.le_of_ble_eq_true rfl) (fun p e s m below meth c C hS ls hl => ?_)
  replace C : Cx p s m ([.ref (ad E 70), .int p1] : List Value).toArray meth c c_Model_lays 6 "TideLoansModel" (some .int) E := C
  replace hl : lv_has ls 6 [(0, .ref (ad E 70)), (1, .int p1)] := hl
  obtain ⟨hx, hb, hml, hown, hts, hrt, hlk, hKx⟩ := id C
  unfold f_Model_lays at h
  refine lv_aload_n hx hb d_Model_lays_0 rfl (lv_at hl 0 rfl) ?_
  refine lv_iload_n hx hb d_Model_lays_1 rfl (lv_at hl 1 rfl) ?_
  obtain ⟨v1, hr2, h⟩ := bd_el h
  refine c_I hS (c_runV (As := [.int p1]) (rest := []) C hS (by decide) cel_Model (rfl : cls[6]? = some (R_Model, T_Model, 16)) (k_Model_wants (l := l) (E := E) (X := X) hr2) cw_Model_wants ini_Model_wants ins_Model_wants sel_Model_wants tw_1170 hd_Model_wants rfl ⟨⟨rfl, rfl⟩, (Nat.le_of_ble_eq_true rfl), (Nat.le_of_ble_eq_true rfl)⟩ ⟨(Nat.le_of_ble_eq_true rfl), (Nat.le_of_ble_eq_true rfl)⟩ hl.1 rfl (Nat.le_of_ble_eq_true rfl) d_Model_lays_2) (fun H locs hS => ?_)
  refine r_if_eq (tgt := 18) C h d_Model_lays_5 (by decide) (fun h => ?_) (fun h => ?_)
  · skip
    refine lv_iconst (v := 0) hx hb d_Model_lays_18 (by decide) ?_
    refine lv_istore_n (lv' := [(2, .int (0 : Int32)), (0, .ref (ad E 70)), (1, .int p1)]) hx hb d_Model_lays_19 rfl hl (by decide) rfl (fun ls hl => ?_)
    refine lv_iconst (v := 0) hx hb d_Model_lays_20 (by decide) ?_
    refine lv_istore_n (lv' := [(3, .int (0 : Int32)), (2, .int (0 : Int32)), (0, .ref (ad E 70)), (1, .int p1)]) hx hb d_Model_lays_21 rfl hl (by decide) rfl (fun ls hl => ?_)
    exact k_Model_lays_b22 C _ FU _ _ _ _ _ _ h hS (lv_sub hl [2, 3, 1, 0] rfl)
  · skip
    refine lv_aload_n hx hb d_Model_lays_8 rfl (lv_at hl 0 rfl) ?_
    refine lv_aload_n hx hb d_Model_lays_9 rfl (lv_at hl 0 rfl) ?_
    refine lv_iload_n hx hb d_Model_lays_10 rfl (lv_at hl 1 rfl) ?_
    obtain ⟨v3, hr4, h⟩ := bd_el h
    refine c_I hS (c_runV (As := [.int p1]) (rest := [.ref (ad E 70)]) C hS (by decide) cel_Model (rfl : cls[6]? = some (R_Model, T_Model, 16)) (k_Model_wants (l := l) (E := E) (X := X) hr4) cw_Model_wants ini_Model_wants ins_Model_wants sel_Model_wants tw_1170 hd_Model_wants rfl ⟨⟨rfl, rfl⟩, (Nat.le_of_ble_eq_true rfl), (Nat.le_of_ble_eq_true rfl)⟩ ⟨(Nat.le_of_ble_eq_true rfl), (Nat.le_of_ble_eq_true rfl)⟩ hl.1 rfl (Nat.le_of_ble_eq_true rfl) d_Model_lays_11) (fun H locs hS => ?_)
    obtain ⟨v5, X7, hr6, h⟩ := bd2_el h
    refine c_I hS (c_runV (As := [.int v3]) (rest := []) C hS (by decide) cel_Model (rfl : cls[6]? = some (R_Model, T_Model, 16)) (k_Model_finds (l := l) (E := E) (X := X) hr6) cw_Model_finds ini_Model_finds ins_Model_finds sel_Model_finds tw_859 hd_Model_finds rfl ⟨⟨rfl, rfl⟩, (Nat.le_of_ble_eq_true rfl), (Nat.le_of_ble_eq_true rfl)⟩ ⟨(Nat.le_of_ble_eq_true rfl), (Nat.le_of_ble_eq_true rfl)⟩ hl.1 rfl (Nat.le_of_ble_eq_true rfl) d_Model_lays_14) (fun H locs hS => ?_)
    exact r_iret C hS rfl h d_Model_lays_17
def I_Model_book_b54 (p : Program) (l : Launch) (e : Env) (s : State) (m : MethodId) (args : Array Value) (below : List Frame) (meth : Method) (c : Code) (E : En) (r : Int32) (Y : Mem) (x1 : Int32) (x2 : Int32) (n : Nat) (tg : (Int32 × Mem)) : Prop := ∀ (x4 : Int32) (X : Mem) (H : Heap) (locs : List Loc) (ls : Array Slot), it (fun a => f_Model_book_b54 x1 x2 a.1 a.2) n (x4, X) = some tg → Hs E s.heap X H locs → lv_has ls 5 [(0, .ref (ad E 70)), (1, .int x1), (2, .int x2), (4, .int x4)] → W p l e ({ frames := 4, cells := 0, slots := 0, locals := 96 } : Room) s m args below meth c H locs 0 0 (MQ below (PostI E r Y) args s 0 0 (Ad E)) (F0 m 54 ls [])
set_option maxHeartbeats 4000000 in
set_option maxRecDepth 100000 in
theorem k_Model_book_b54 {p : Program} {l : Launch} {e : Env} {s : State} {m : MethodId} {args : Array Value} {below : List Frame} {meth : Method} {c : Code} {E : En} {r : Int32} {Y : Mem} (C : Cx p s m args meth c c_Model_book 5 "TideLoansModel" (some .int) E) (x1 : Int32) (x2 : Int32) : ∀ n, I_Model_book_b54 p l e s m args below meth c E r Y x1 x2 n (r, Y) := by
  obtain ⟨hx, hb, hml, hown, hts, hrt, hlk, hKx⟩ := id C
  intro n
  induction n with
  | zero => intro x4 X H locs ls h; exact it_0 h
  | succ n ih =>
    intro x4 X H locs ls h hS hl
    obtain ⟨cc54, h, hc54⟩ := it_el h
    replace h : f_Model_book_b54 x1 x2 x4 X = some cc54 := h
    unfold f_Model_book_b54 at h
    refine lv_iload hx hb d_Model_book_54 (lv_at hl 3 rfl) ?_
    refine lv_aload_n hx hb d_Model_book_56 rfl (lv_at hl 0 rfl) ?_
    refine r_get C hS (by decide) cel_Model (rfl : cls[6]? = some (R_Model, T_Model, 16)) in_Model 9 (by decide) tw_803 rfl d_Model_book_57 ?_
    refine lv_iload_n hx hb d_Model_book_60 rfl (lv_at hl 1 rfl) ?_
    refine r_ldI C hS (n := 4) rfl (by decide) h d_Model_book_61 (fun v1 h => ?_)
    refine r_icmp_ge (tgt := 106) C h d_Model_book_62 (by decide) (fun h => ?_) (fun h => ?_)
    · skip
      refine lv_aload_n hx hb d_Model_book_106 rfl (lv_at hl 0 rfl) ?_
      refine r_get C hS (by decide) cel_Model (rfl : cls[6]? = some (R_Model, T_Model, 16)) in_Model 3 (by decide) tw_797 rfl d_Model_book_107 ?_
      refine lv_aload_n hx hb d_Model_book_110 rfl (lv_at hl 0 rfl) ?_
      refine r_get C hS (by decide) cel_Model (rfl : cls[6]? = some (R_Model, T_Model, 16)) in_Model 0 (by decide) tw_794 rfl d_Model_book_111 ?_
      obtain ⟨X3, hr2, h⟩ := bd_el h
      refine c_V hS (c_runS (As := [.ref (ad E 74), .ref (ad E 71)]) (rest := []) C hS (k_Model_copyRow (l := l) (E := E) (X := X) rfl rfl hr2) cw_Model_copyRow ini_Model_copyRow sta_Model_copyRow tw_1012 hd_Model_copyRow rfl ⟨⟨rfl, rfl⟩, (Nat.le_of_ble_eq_true rfl), (Nat.le_of_ble_eq_true rfl)⟩ ⟨(Nat.le_of_ble_eq_true rfl), (Nat.le_of_ble_eq_true rfl)⟩ hl.1 rfl (Nat.le_of_ble_eq_true rfl) d_Model_book_114) (fun H locs hS => ?_)
      refine lv_aload_n hx hb d_Model_book_117 rfl (lv_at hl 0 rfl) ?_
      refine r_get C hS (by decide) cel_Model (rfl : cls[6]? = some (R_Model, T_Model, 16)) in_Model 9 (by decide) tw_803 rfl d_Model_book_118 ?_
      refine lv_iload_n hx hb d_Model_book_121 rfl (lv_at hl 1 rfl) ?_
      refine r_ldI C hS (n := 4) rfl (by decide) h d_Model_book_122 (fun v4 h => ?_)
      replace h := lp_ret h hc54
      exact r_iret C hS rfl h d_Model_book_123
    · skip
      refine lv_aload_n hx hb d_Model_book_65 rfl (lv_at hl 0 rfl) ?_
      refine r_get C hS (by decide) cel_Model (rfl : cls[6]? = some (R_Model, T_Model, 16)) in_Model 10 (by decide) tw_804 rfl d_Model_book_66 ?_
      refine lv_bipush (v := 40) hx hb d_Model_book_69 (by decide) ?_
      refine lv_iload_n hx hb d_Model_book_71 rfl (lv_at hl 1 rfl) ?_
      refine lv_imul hx hb d_Model_book_72 ?_
      refine lv_iload hx hb d_Model_book_73 (lv_at hl 3 rfl) ?_
      refine lv_iadd hx hb d_Model_book_75 ?_
      refine lv_aload_n hx hb d_Model_book_76 rfl (lv_at hl 0 rfl) ?_
      refine r_get C hS (by decide) cel_Model (rfl : cls[6]? = some (R_Model, T_Model, 16)) in_Model 8 (by decide) tw_802 rfl d_Model_book_77 ?_
      refine lv_iload_n hx hb d_Model_book_80 rfl (lv_at hl 1 rfl) ?_
      refine r_ldI C hS (n := 4) rfl (by decide) h d_Model_book_81 (fun v5 h => ?_)
      refine lv_aload_n hx hb d_Model_book_82 rfl (lv_at hl 0 rfl) ?_
      refine r_get C hS (by decide) cel_Model (rfl : cls[6]? = some (R_Model, T_Model, 16)) in_Model 0 (by decide) tw_794 rfl d_Model_book_83 ?_
      refine lv_bipush (v := 19) hx hb d_Model_book_86 (by decide) ?_
      refine lv_iload_n hx hb d_Model_book_88 rfl (lv_at hl 2 rfl) ?_
      refine lv_iadd hx hb d_Model_book_89 ?_
      refine r_ldI C hS (n := 83) rfl (by decide) h d_Model_book_90 (fun v6 h => ?_)
      refine lv_i2l hx hb d_Model_book_91 rfl ?_
      obtain ⟨v7, hr8, h⟩ := bd_el h
      refine c_L hS (c_runS (As := [.int v5, .long (v6.toInt64)]) (rest := [.int (((40 : Int32) * x1) + x4), .ref (ad E 79)]) C hS (k_Model_narrow (l := l) (E := E) (X := X) hr8) cw_Model_narrow ini_Model_narrow sta_Model_narrow tw_1159 hd_Model_narrow rfl ⟨⟨rfl, rfl⟩, (Nat.le_of_ble_eq_true rfl), (Nat.le_of_ble_eq_true rfl)⟩ ⟨(Nat.le_of_ble_eq_true rfl), (Nat.le_of_ble_eq_true rfl)⟩ hl.1 rfl (Nat.le_of_ble_eq_true rfl) d_Model_book_92) (fun H locs hS => ?_)
      refine r_stL C hS (n := 160) rfl (by decide) h d_Model_book_95 (fun X9 H locs hS h => ?_)
      refine lv_aload_n hx hb d_Model_book_96 rfl (lv_at hl 0 rfl) ?_
      obtain ⟨X11, hr10, h⟩ := bd_el h
      refine c_V hS (c_runV (As := []) (rest := []) C hS (by decide) cel_Model (rfl : cls[6]? = some (R_Model, T_Model, 16)) (k_Model_day (l := l) (E := E) (X := X9) hr10) cw_Model_day ini_Model_day ins_Model_day sel_Model_day tw_980 hd_Model_day rfl ⟨⟨rfl, rfl⟩, (Nat.le_of_ble_eq_true rfl), (Nat.le_of_ble_eq_true rfl)⟩ ⟨(Nat.le_of_ble_eq_true rfl), (Nat.le_of_ble_eq_true rfl)⟩ hl.1 rfl (Nat.le_of_ble_eq_true rfl) d_Model_book_97) (fun H locs hS => ?_)
      refine r_iinc C (w := 1) (lv' := fun z => [(4, .int z), (0, .ref (ad E 70)), (1, .int x1), (2, .int x2)]) h d_Model_book_100 hl (k := 3) rfl (by decide) (by decide) (fun _ => rfl) (fun v12 ls h hl => ?_)
      refine lv_goto (tgt := 54) hx hb d_Model_book_103 (by decide) ?_
      exact ih _ _ _ _ _ (lp_next h hc54) hS (lv_sub hl [1, 2, 3, 0] rfl)
set_option maxHeartbeats 4000000 in
set_option maxRecDepth 100000 in
theorem k_Model_book_j29 {p : Program} {l : Launch} {e : Env} {s : State} {m : MethodId} {args : Array Value} {below : List Frame} {meth : Method} {c : Code} {E : En} {r : Int32} {Y : Mem} (C : Cx p s m args meth c c_Model_book 5 "TideLoansModel" (some .int) E) {x1 : Int32} {x2 : Int32} {q0 : Int32} {X : Mem} (h : f_Model_book_j29 x1 x2 q0 X = some (r, Y)) {H : Heap} {locs : List Loc} (hS : Hs E s.heap X H locs) {ls : Array Slot} (hl : lv_has ls 5 [(0, .ref (ad E 70)), (1, .int x1), (2, .int x2)]) : W p l e ({ frames := 4, cells := 0, slots := 0, locals := 96 } : Room) s m args below meth c H locs 0 0 (MQ below (PostI E r Y) args s 0 0 (Ad E)) (F0 m 29 ls [.int q0]) := by
  obtain ⟨hx, hb, hml, hown, hts, hrt, hlk, hKx⟩ := id C
  unfold f_Model_book_j29 at h
  refine lv_istore_n (lv' := [(3, .int q0), (0, .ref (ad E 70)), (1, .int x1), (2, .int x2)]) hx hb d_Model_book_29 rfl hl (by decide) rfl (fun ls hl => ?_)
  refine lv_iload_n hx hb d_Model_book_30 rfl (lv_at hl 0 rfl) ?_
  refine r_if_eq (tgt := 40) C h d_Model_book_31 (by decide) (fun h => ?_) (fun h => ?_)
  · skip
    refine lv_aload_n hx hb d_Model_book_40 rfl (lv_at hl 1 rfl) ?_
    refine r_get C hS (by decide) cel_Model (rfl : cls[6]? = some (R_Model, T_Model, 16)) in_Model 0 (by decide) tw_794 rfl d_Model_book_41 ?_
    refine lv_aload_n hx hb d_Model_book_44 rfl (lv_at hl 1 rfl) ?_
    refine r_get C hS (by decide) cel_Model (rfl : cls[6]? = some (R_Model, T_Model, 16)) in_Model 3 (by decide) tw_797 rfl d_Model_book_45 ?_
    obtain ⟨X2, hr1, h⟩ := bd_el h
    refine c_V hS (c_runS (As := [.ref (ad E 71), .ref (ad E 74)]) (rest := []) C hS (k_Model_copyRow (l := l) (E := E) (X := X) rfl rfl hr1) cw_Model_copyRow ini_Model_copyRow sta_Model_copyRow tw_1012 hd_Model_copyRow rfl ⟨⟨rfl, rfl⟩, (Nat.le_of_ble_eq_true rfl), (Nat.le_of_ble_eq_true rfl)⟩ ⟨(Nat.le_of_ble_eq_true rfl), (Nat.le_of_ble_eq_true rfl)⟩ hl.1 rfl (Nat.le_of_ble_eq_true rfl) d_Model_book_48) (fun H locs hS => ?_)
    refine lv_iconst (v := 0) hx hb d_Model_book_51 (by decide) ?_
    refine lv_istore (lv' := [(4, .int (0 : Int32)), (3, .int q0), (0, .ref (ad E 70)), (1, .int x1), (2, .int x2)]) hx hb d_Model_book_52 hl (by decide) rfl (fun ls hl => ?_)
    exact k_Model_book_b54 C _ _ FU _ _ _ _ _ h hS (lv_sub hl [2, 3, 4, 0] rfl)
  · skip
    refine lv_aload_n hx hb d_Model_book_34 rfl (lv_at hl 1 rfl) ?_
    refine lv_iload_n hx hb d_Model_book_35 rfl (lv_at hl 0 rfl) ?_
    obtain ⟨v3, X5, hr4, h⟩ := bd2_el h
    refine c_I hS (c_runV (As := [.int q0]) (rest := []) C hS (by decide) cel_Model (rfl : cls[6]? = some (R_Model, T_Model, 16)) (k_Model_finds (l := l) (E := E) (X := X) hr4) cw_Model_finds ini_Model_finds ins_Model_finds sel_Model_finds tw_859 hd_Model_finds rfl ⟨⟨rfl, rfl⟩, (Nat.le_of_ble_eq_true rfl), (Nat.le_of_ble_eq_true rfl)⟩ ⟨(Nat.le_of_ble_eq_true rfl), (Nat.le_of_ble_eq_true rfl)⟩ hl.1 rfl (Nat.le_of_ble_eq_true rfl) d_Model_book_36) (fun H locs hS => ?_)
    exact r_iret C hS rfl h d_Model_book_39
set_option maxHeartbeats 4000000 in
set_option maxRecDepth 100000 in
theorem k_Model_book {l : Launch} {E : En} {p1 : Int32} {p2 : Int32} {X : Mem} {r : Int32} {Y : Mem} (h : f_Model_book p1 p2 X = some (r, Y)) : Met l y_Model_book (Cond.code y_Model_book c_Model_book 5 (some .int) :: tb) ({ frames := 4, cells := 0, slots := 0, locals := 96 } : Room) (PreC E [.ref (ad E 70), .int p1, .int p2] X) (PostI E r Y) 0 0 (Ad E) := by
  refine met_of (by decide) (Nat.le_of_ble_eq_true rfl) (fun p e s m below meth c C hS ls hl => ?_)
  replace C : Cx p s m ([.ref (ad E 70), .int p1, .int p2] : List Value).toArray meth c c_Model_book 5 "TideLoansModel" (some .int) E := C
  replace hl : lv_has ls 5 [(0, .ref (ad E 70)), (1, .int p1), (2, .int p2)] := hl
  obtain ⟨hx, hb, hml, hown, hts, hrt, hlk, hKx⟩ := id C
  unfold f_Model_book at h
  refine lv_aload_n hx hb d_Model_book_0 rfl (lv_at hl 0 rfl) ?_
  refine lv_iload_n hx hb d_Model_book_1 rfl (lv_at hl 1 rfl) ?_
  obtain ⟨v1, hr2, h⟩ := bd_el h
  refine c_I hS (c_runV (As := [.int p1]) (rest := []) C hS (by decide) cel_Model (rfl : cls[6]? = some (R_Model, T_Model, 16)) (k_Model_wants (l := l) (E := E) (X := X) hr2) cw_Model_wants ini_Model_wants ins_Model_wants sel_Model_wants tw_1170 hd_Model_wants rfl ⟨⟨rfl, rfl⟩, (Nat.le_of_ble_eq_true rfl), (Nat.le_of_ble_eq_true rfl)⟩ ⟨(Nat.le_of_ble_eq_true rfl), (Nat.le_of_ble_eq_true rfl)⟩ hl.1 rfl (Nat.le_of_ble_eq_true rfl) d_Model_book_2) (fun H locs hS => ?_)
  refine r_if_eq (tgt := 16) C h d_Model_book_5 (by decide) (fun h => ?_) (fun h => ?_)
  · skip
    refine lv_iload_n hx hb d_Model_book_16 rfl (lv_at hl 2 rfl) ?_
    obtain ⟨v3, hr4, h⟩ := bd_el h
    refine c_I hS (c_runS (As := [.int p2]) (rest := []) C hS (k_Model_isFamily (l := l) (E := E) (X := X) hr4) cw_Model_isFamily ini_Model_isFamily sta_Model_isFamily tw_900 hd_Model_isFamily rfl ⟨⟨rfl, rfl⟩, (Nat.le_of_ble_eq_true rfl), (Nat.le_of_ble_eq_true rfl)⟩ ⟨(Nat.le_of_ble_eq_true rfl), (Nat.le_of_ble_eq_true rfl)⟩ hl.1 rfl (Nat.le_of_ble_eq_true rfl) d_Model_book_17) (fun H locs hS => ?_)
    refine r_if_eq (tgt := 27) C h d_Model_book_20 (by decide) (fun h => ?_) (fun h => ?_)
    · skip
      refine lv_ldc (v := -1000000001) hx hb hown (hts _ tw_858) d_Model_book_27 ?_
      exact k_Model_book_j29 C h hS (lv_sub hl [0, 1, 2] rfl)
    · skip
      refine lv_iconst (v := 0) hx hb d_Model_book_23 (by decide) ?_
      refine lv_goto (tgt := 29) hx hb d_Model_book_24 (by decide) ?_
      exact k_Model_book_j29 C h hS (lv_sub hl [0, 1, 2] rfl)
  · skip
    refine lv_aload_n hx hb d_Model_book_8 rfl (lv_at hl 0 rfl) ?_
    refine lv_iload_n hx hb d_Model_book_9 rfl (lv_at hl 1 rfl) ?_
    obtain ⟨v5, hr6, h⟩ := bd_el h
    refine c_I hS (c_runV (As := [.int p1]) (rest := []) C hS (by decide) cel_Model (rfl : cls[6]? = some (R_Model, T_Model, 16)) (k_Model_wants (l := l) (E := E) (X := X) hr6) cw_Model_wants ini_Model_wants ins_Model_wants sel_Model_wants tw_1170 hd_Model_wants rfl ⟨⟨rfl, rfl⟩, (Nat.le_of_ble_eq_true rfl), (Nat.le_of_ble_eq_true rfl)⟩ ⟨(Nat.le_of_ble_eq_true rfl), (Nat.le_of_ble_eq_true rfl)⟩ hl.1 rfl (Nat.le_of_ble_eq_true rfl) d_Model_book_10) (fun H locs hS => ?_)
    refine lv_goto (tgt := 29) hx hb d_Model_book_13 (by decide) ?_
    exact k_Model_book_j29 C h hS (lv_sub hl [0, 1, 2] rfl)
def I_Model_isTold_b16 (p : Program) (l : Launch) (e : Env) (s : State) (m : MethodId) (args : Array Value) (below : List Frame) (meth : Method) (c : Code) (E : En) (r : Int32) (Y : Mem) (x1 : Int32) (x2 : Int32) (n : Nat) (tg : (Int32 × Mem)) : Prop := ∀ (x3 : Int32) (x4 : Int32) (X : Mem) (H : Heap) (locs : List Loc) (ls : Array Slot), it (fun a => f_Model_isTold_b16 x1 x2 a.1 a.2.1 a.2.2) n (x3, x4, X) = some tg → Hs E s.heap X H locs → lv_has ls 5 [(0, .ref (ad E 70)), (1, .int x1), (2, .int x2), (3, .int x3), (4, .int x4)] → W p l e ({ frames := 4, cells := 0, slots := 0, locals := 96 } : Room) s m args below meth c H locs 0 0 (MQ below (PostI E r Y) args s 0 0 (Ad E)) (F0 m 16 ls [])
set_option maxHeartbeats 4000000 in
set_option maxRecDepth 100000 in
theorem k_Model_isTold_j73 {p : Program} {l : Launch} {e : Env} {s : State} {m : MethodId} {args : Array Value} {below : List Frame} {meth : Method} {c : Code} {E : En} {r : Int32} {Y : Mem} (C : Cx p s m args meth c c_Model_isTold 5 "TideLoansModel" (some .boolean) E) {x3 : Int32} {X : Mem} (h : f_Model_isTold_j73 x3 X = some (r, Y)) {H : Heap} {locs : List Loc} (hS : Hs E s.heap X H locs) {ls : Array Slot} (hl : lv_has ls 5 [(0, .ref (ad E 70)), (3, .int x3)]) : W p l e ({ frames := 4, cells := 0, slots := 0, locals := 96 } : Room) s m args below meth c H locs 0 0 (MQ below (PostI E r Y) args s 0 0 (Ad E)) (F0 m 73 ls []) := by
  obtain ⟨hx, hb, hml, hown, hts, hrt, hlk, hKx⟩ := id C
  unfold f_Model_isTold_j73 at h
  refine lv_aload_n hx hb d_Model_isTold_73 rfl (lv_at hl 0 rfl) ?_
  refine r_get C hS (by decide) cel_Model (rfl : cls[6]? = some (R_Model, T_Model, 16)) in_Model 3 (by decide) tw_797 rfl d_Model_isTold_74 ?_
  refine lv_aload_n hx hb d_Model_isTold_77 rfl (lv_at hl 0 rfl) ?_
  refine r_get C hS (by decide) cel_Model (rfl : cls[6]? = some (R_Model, T_Model, 16)) in_Model 0 (by decide) tw_794 rfl d_Model_isTold_78 ?_
  obtain ⟨X2, hr1, h⟩ := bd_el h
  refine c_V hS (c_runS (As := [.ref (ad E 74), .ref (ad E 71)]) (rest := []) C hS (k_Model_copyRow (l := l) (E := E) (X := X) rfl rfl hr1) cw_Model_copyRow ini_Model_copyRow sta_Model_copyRow tw_1012 hd_Model_copyRow rfl ⟨⟨rfl, rfl⟩, (Nat.le_of_ble_eq_true rfl), (Nat.le_of_ble_eq_true rfl)⟩ ⟨(Nat.le_of_ble_eq_true rfl), (Nat.le_of_ble_eq_true rfl)⟩ hl.1 rfl (Nat.le_of_ble_eq_true rfl) d_Model_isTold_81) (fun H locs hS => ?_)
  refine lv_iload_n hx hb d_Model_isTold_84 rfl (lv_at hl 1 rfl) ?_
  obtain ⟨hz, h⟩ := if_tr h
  exact r_zret C hS rfl hz h d_Model_isTold_85
set_option maxHeartbeats 4000000 in
set_option maxRecDepth 100000 in
theorem k_Model_isTold_j62 {p : Program} {l : Launch} {e : Env} {s : State} {m : MethodId} {args : Array Value} {below : List Frame} {meth : Method} {c : Code} {E : En} {r : Int32} {Y : Mem} (C : Cx p s m args meth c c_Model_isTold 5 "TideLoansModel" (some .boolean) E) {x1 : Int32} {x2 : Int32} {x4 : Int32} {q0 : Int32} {X : Mem} {tg : ((Int32 × Mem) ⊕ (Int32 × Int32 × Mem))} {n16 : Nat} (hc16 : fin (fun a => f_Model_isTold_b16 x1 x2 a.1 a.2.1 a.2.2) n16 (r, Y) tg) (ih16 : I_Model_isTold_b16 p l e s m args below meth c E r Y x1 x2 n16 (r, Y)) (h : f_Model_isTold_j62 x1 x2 x4 q0 X = some tg) {H : Heap} {locs : List Loc} (hS : Hs E s.heap X H locs) {ls : Array Slot} (hl : lv_has ls 5 [(0, .ref (ad E 70)), (1, .int x1), (2, .int x2), (4, .int x4)]) : W p l e ({ frames := 4, cells := 0, slots := 0, locals := 96 } : Room) s m args below meth c H locs 0 0 (MQ below (PostI E r Y) args s 0 0 (Ad E)) (F0 m 62 ls [.int q0]) := by
  obtain ⟨hx, hb, hml, hown, hts, hrt, hlk, hKx⟩ := id C
  unfold f_Model_isTold_j62 at h
  refine lv_istore_n (lv' := [(3, .int q0), (0, .ref (ad E 70)), (1, .int x1), (2, .int x2), (4, .int x4)]) hx hb d_Model_isTold_62 rfl hl (by decide) rfl (fun ls hl => ?_)
  refine lv_aload_n hx hb d_Model_isTold_63 rfl (lv_at hl 1 rfl) ?_
  obtain ⟨X2, hr1, h⟩ := bd_el h
  refine c_V hS (c_runV (As := []) (rest := []) C hS (by decide) cel_Model (rfl : cls[6]? = some (R_Model, T_Model, 16)) (k_Model_day (l := l) (E := E) (X := X) hr1) cw_Model_day ini_Model_day ins_Model_day sel_Model_day tw_980 hd_Model_day rfl ⟨⟨rfl, rfl⟩, (Nat.le_of_ble_eq_true rfl), (Nat.le_of_ble_eq_true rfl)⟩ ⟨(Nat.le_of_ble_eq_true rfl), (Nat.le_of_ble_eq_true rfl)⟩ hl.1 rfl (Nat.le_of_ble_eq_true rfl) d_Model_isTold_64) (fun H locs hS => ?_)
  refine r_iinc C (w := 1) (lv' := fun z => [(4, .int z), (3, .int q0), (0, .ref (ad E 70)), (1, .int x1), (2, .int x2)]) h d_Model_isTold_67 hl (k := 4) rfl (by decide) (by decide) (fun _ => rfl) (fun v3 ls h hl => ?_)
  refine lv_goto (tgt := 16) hx hb d_Model_isTold_70 (by decide) ?_
  exact ih16 _ _ _ _ _ _ (lp_next h hc16) hS (lv_sub hl [2, 3, 4, 1, 0] rfl)
set_option maxHeartbeats 4000000 in
set_option maxRecDepth 100000 in
theorem k_Model_isTold_b16 {p : Program} {l : Launch} {e : Env} {s : State} {m : MethodId} {args : Array Value} {below : List Frame} {meth : Method} {c : Code} {E : En} {r : Int32} {Y : Mem} (C : Cx p s m args meth c c_Model_isTold 5 "TideLoansModel" (some .boolean) E) (x1 : Int32) (x2 : Int32) : ∀ n, I_Model_isTold_b16 p l e s m args below meth c E r Y x1 x2 n (r, Y) := by
  obtain ⟨hx, hb, hml, hown, hts, hrt, hlk, hKx⟩ := id C
  intro n
  induction n with
  | zero => intro x3 x4 X H locs ls h; exact it_0 h
  | succ n ih =>
    intro x3 x4 X H locs ls h hS hl
    obtain ⟨cc16, h, hc16⟩ := it_el h
    replace h : f_Model_isTold_b16 x1 x2 x3 x4 X = some cc16 := h
    unfold f_Model_isTold_b16 at h
    refine lv_iload hx hb d_Model_isTold_16 (lv_at hl 4 rfl) ?_
    refine lv_aload_n hx hb d_Model_isTold_18 rfl (lv_at hl 0 rfl) ?_
    refine r_get C hS (by decide) cel_Model (rfl : cls[6]? = some (R_Model, T_Model, 16)) in_Model 9 (by decide) tw_803 rfl d_Model_isTold_19 ?_
    refine lv_iload_n hx hb d_Model_isTold_22 rfl (lv_at hl 1 rfl) ?_
    refine r_ldI C hS (n := 4) rfl (by decide) h d_Model_isTold_23 (fun v1 h => ?_)
    refine r_icmp_ge (tgt := 73) C h d_Model_isTold_24 (by decide) (fun h => ?_) (fun h => ?_)
    · skip
      replace h := lp_up h hc16
      exact k_Model_isTold_j73 C h hS (lv_sub hl [0, 3] rfl)
    · skip
      refine lv_iload_n hx hb d_Model_isTold_27 rfl (lv_at hl 3 rfl) ?_
      refine r_if_eq (tgt := 73) C h d_Model_isTold_28 (by decide) (fun h => ?_) (fun h => ?_)
      · skip
        replace h := lp_up h hc16
        exact k_Model_isTold_j73 C h hS (lv_sub hl [0, 3] rfl)
      · skip
        refine lv_aload_n hx hb d_Model_isTold_31 rfl (lv_at hl 0 rfl) ?_
        refine r_get C hS (by decide) cel_Model (rfl : cls[6]? = some (R_Model, T_Model, 16)) in_Model 10 (by decide) tw_804 rfl d_Model_isTold_32 ?_
        refine lv_bipush (v := 40) hx hb d_Model_isTold_35 (by decide) ?_
        refine lv_iload_n hx hb d_Model_isTold_37 rfl (lv_at hl 1 rfl) ?_
        refine lv_imul hx hb d_Model_isTold_38 ?_
        refine lv_iload hx hb d_Model_isTold_39 (lv_at hl 4 rfl) ?_
        refine lv_iadd hx hb d_Model_isTold_41 ?_
        refine r_ldL C hS (n := 160) rfl (by decide) h d_Model_isTold_42 (fun v2 h => ?_)
        refine lv_aload_n hx hb d_Model_isTold_43 rfl (lv_at hl 0 rfl) ?_
        refine r_get C hS (by decide) cel_Model (rfl : cls[6]? = some (R_Model, T_Model, 16)) in_Model 0 (by decide) tw_794 rfl d_Model_isTold_44 ?_
        refine lv_bipush (v := 19) hx hb d_Model_isTold_47 (by decide) ?_
        refine lv_iload_n hx hb d_Model_isTold_49 rfl (lv_at hl 2 rfl) ?_
        refine lv_iadd hx hb d_Model_isTold_50 ?_
        refine r_ldI C hS (n := 83) rfl (by decide) h d_Model_isTold_51 (fun v3 h => ?_)
        refine lv_i2l hx hb d_Model_isTold_52 rfl ?_
        refine W.lcmp hx hb d_Model_isTold_53 ?_
        refine r_if_ne (tgt := 61) C h d_Model_isTold_54 (by decide) (fun h => ?_) (fun h => ?_)
        · skip
          refine lv_iconst (v := 0) hx hb d_Model_isTold_61 (by decide) ?_
          exact k_Model_isTold_j62 C hc16 ih h hS (lv_sub hl [0, 1, 2, 4] rfl)
        · skip
          refine lv_iconst (v := 1) hx hb d_Model_isTold_57 (by decide) ?_
          refine lv_goto (tgt := 62) hx hb d_Model_isTold_58 (by decide) ?_
          exact k_Model_isTold_j62 C hc16 ih h hS (lv_sub hl [0, 1, 2, 4] rfl)
set_option maxHeartbeats 4000000 in
set_option maxRecDepth 100000 in
theorem k_Model_isTold {l : Launch} {E : En} {p1 : Int32} {p2 : Int32} {X : Mem} {r : Int32} {Y : Mem} (h : f_Model_isTold p1 p2 X = some (r, Y)) : Met l y_Model_isTold (Cond.code y_Model_isTold c_Model_isTold 5 (some .boolean) :: tb) ({ frames := 4, cells := 0, slots := 0, locals := 96 } : Room) (PreC E [.ref (ad E 70), .int p1, .int p2] X) (PostI E r Y) 0 0 (Ad E) := by
  refine met_of (by decide) (Nat.le_of_ble_eq_true rfl) (fun p e s m below meth c C hS ls hl => ?_)
  replace C : Cx p s m ([.ref (ad E 70), .int p1, .int p2] : List Value).toArray meth c c_Model_isTold 5 "TideLoansModel" (some .boolean) E := C
  replace hl : lv_has ls 5 [(0, .ref (ad E 70)), (1, .int p1), (2, .int p2)] := hl
  obtain ⟨hx, hb, hml, hown, hts, hrt, hlk, hKx⟩ := id C
  unfold f_Model_isTold at h
  refine lv_aload_n hx hb d_Model_isTold_0 rfl (lv_at hl 0 rfl) ?_
  refine r_get C hS (by decide) cel_Model (rfl : cls[6]? = some (R_Model, T_Model, 16)) in_Model 0 (by decide) tw_794 rfl d_Model_isTold_1 ?_
  refine lv_aload_n hx hb d_Model_isTold_4 rfl (lv_at hl 0 rfl) ?_
  refine r_get C hS (by decide) cel_Model (rfl : cls[6]? = some (R_Model, T_Model, 16)) in_Model 3 (by decide) tw_797 rfl d_Model_isTold_5 ?_
  obtain ⟨X2, hr1, h⟩ := bd_el h
  refine c_V hS (c_runS (As := [.ref (ad E 71), .ref (ad E 74)]) (rest := []) C hS (k_Model_copyRow (l := l) (E := E) (X := X) rfl rfl hr1) cw_Model_copyRow ini_Model_copyRow sta_Model_copyRow tw_1012 hd_Model_copyRow rfl ⟨⟨rfl, rfl⟩, (Nat.le_of_ble_eq_true rfl), (Nat.le_of_ble_eq_true rfl)⟩ ⟨(Nat.le_of_ble_eq_true rfl), (Nat.le_of_ble_eq_true rfl)⟩ hl.1 rfl (Nat.le_of_ble_eq_true rfl) d_Model_isTold_8) (fun H locs hS => ?_)
  refine lv_iconst (v := 1) hx hb d_Model_isTold_11 (by decide) ?_
  refine lv_istore_n (lv' := [(3, .int (1 : Int32)), (0, .ref (ad E 70)), (1, .int p1), (2, .int p2)]) hx hb d_Model_isTold_12 rfl hl (by decide) rfl (fun ls hl => ?_)
  refine lv_iconst (v := 0) hx hb d_Model_isTold_13 (by decide) ?_
  refine lv_istore (lv' := [(4, .int (0 : Int32)), (3, .int (1 : Int32)), (0, .ref (ad E 70)), (1, .int p1), (2, .int p2)]) hx hb d_Model_isTold_14 hl (by decide) rfl (fun ls hl => ?_)
  exact k_Model_isTold_b16 C _ _ FU _ _ _ _ _ _ h hS (lv_sub hl [2, 3, 4, 1, 0] rfl)
def I_Model_read_b113 (p : Program) (l : Launch) (e : Env) (s : State) (m : MethodId) (args : Array Value) (below : List Frame) (meth : Method) (c : Code) (E : En) (r : Int32) (Y : Mem) (x1 : Int32) (x2 : Int32) (x3 : Int32) (x5 : Int32) (x6 : Int32) (x7 : Int32) (x9 : Int32) (n : Nat) (tg : ((Int32 × Mem) ⊕ (Int32 × Int32 × Mem))) : Prop := ∀ (x8 : Int32) (x10 : Int32) (X : Mem) (H : Heap) (locs : List Loc) (ls : Array Slot), it (fun a => f_Model_read_b113 x1 x2 x3 x5 x6 x7 x9 a.1 a.2.1 a.2.2) n (x8, x10, X) = some tg → Hs E s.heap X H locs → lv_has ls 11 [(0, .ref (ad E 70)), (1, .int x1), (2, .int x2), (3, .int x3), (5, .int x5), (6, .int x6), (7, .int x7), (8, .int x8), (9, .int x9), (10, .int x10)] → W p l e ({ frames := 5, cells := 0, slots := 0, locals := 120 } : Room) s m args below meth c H locs 0 0 (MQ below (PostI E r Y) args s 0 0 (Ad E)) (F0 m 113 ls [])
def I_Model_read_b104 (p : Program) (l : Launch) (e : Env) (s : State) (m : MethodId) (args : Array Value) (below : List Frame) (meth : Method) (c : Code) (E : En) (r : Int32) (Y : Mem) (x1 : Int32) (x2 : Int32) (x3 : Int32) (x5 : Int32) (x6 : Int32) (x7 : Int32) (n : Nat) (tg : (Int32 × Mem)) : Prop := ∀ (x8 : Int32) (x9 : Int32) (X : Mem) (H : Heap) (locs : List Loc) (ls : Array Slot), it (fun a => f_Model_read_b104 x1 x2 x3 x5 x6 x7 a.1 a.2.1 a.2.2) n (x8, x9, X) = some tg → Hs E s.heap X H locs → lv_has ls 11 [(0, .ref (ad E 70)), (1, .int x1), (2, .int x2), (3, .int x3), (5, .int x5), (6, .int x6), (7, .int x7), (8, .int x8), (9, .int x9)] → W p l e ({ frames := 5, cells := 0, slots := 0, locals := 120 } : Room) s m args below meth c H locs 0 0 (MQ below (PostI E r Y) args s 0 0 (Ad E)) (F0 m 104 ls [])
set_option maxHeartbeats 4000000 in
set_option maxRecDepth 100000 in
theorem k_Model_read_j155 {p : Program} {l : Launch} {e : Env} {s : State} {m : MethodId} {args : Array Value} {below : List Frame} {meth : Method} {c : Code} {E : En} {r : Int32} {Y : Mem} (C : Cx p s m args meth c c_Model_read 11 "TideLoansModel" (some .int) E) {x1 : Int32} {x2 : Int32} {x3 : Int32} {x5 : Int32} {x6 : Int32} {x7 : Int32} {x9 : Int32} {x10 : Int32} {q0 : Int32} {q1 : Int32} {X : Mem} {tg : (((Int32 × Mem) ⊕ (Int32 × Int32 × Mem)) ⊕ (Int32 × Int32 × Mem))} {t104 : ((Int32 × Mem) ⊕ (Int32 × Int32 × Mem))} {n113 : Nat} (hc113 : fin (fun a => f_Model_read_b113 x1 x2 x3 x5 x6 x7 x9 a.1 a.2.1 a.2.2) n113 t104 tg) (ih113 : I_Model_read_b113 p l e s m args below meth c E r Y x1 x2 x3 x5 x6 x7 x9 n113 t104) {n104 : Nat} (hc104 : fin (fun a => f_Model_read_b104 x1 x2 x3 x5 x6 x7 a.1 a.2.1 a.2.2) n104 (r, Y) t104) (ih104 : I_Model_read_b104 p l e s m args below meth c E r Y x1 x2 x3 x5 x6 x7 n104 (r, Y)) (h : f_Model_read_j155 x1 x2 x3 x5 x6 x7 x9 x10 q0 q1 X = some tg) {H : Heap} {locs : List Loc} (hS : Hs E s.heap X H locs) {ls : Array Slot} (hl : lv_has ls 11 [(0, .ref (ad E 70)), (1, .int x1), (2, .int x2), (3, .int x3), (5, .int x5), (6, .int x6), (7, .int x7), (9, .int x9), (10, .int x10)]) : W p l e ({ frames := 5, cells := 0, slots := 0, locals := 120 } : Room) s m args below meth c H locs 0 0 (MQ below (PostI E r Y) args s 0 0 (Ad E)) (F0 m 155 ls [.int q1, .int q0]) := by
  obtain ⟨hx, hb, hml, hown, hts, hrt, hlk, hKx⟩ := id C
  unfold f_Model_read_j155 at h
  refine lv_iadd hx hb d_Model_read_155 ?_
  refine r_top h (fun v1 h => ?_)
  refine lv_istore (lv' := [(8, .int v1), (0, .ref (ad E 70)), (1, .int x1), (2, .int x2), (3, .int x3), (5, .int x5), (6, .int x6), (7, .int x7), (9, .int x9), (10, .int x10)]) hx hb d_Model_read_156 hl (by decide) rfl (fun ls hl => ?_)
  refine r_iinc C (w := 1) (lv' := fun z => [(10, .int z), (8, .int v1), (0, .ref (ad E 70)), (1, .int x1), (2, .int x2), (3, .int x3), (5, .int x5), (6, .int x6), (7, .int x7), (9, .int x9)]) h d_Model_read_158 hl (k := 9) rfl (by decide) (by decide) (fun _ => rfl) (fun v2 ls h hl => ?_)
  refine lv_goto (tgt := 113) hx hb d_Model_read_161 (by decide) ?_
  exact ih113 _ _ _ _ _ _ (lp_next h hc113) hS (lv_sub hl [2, 3, 4, 5, 6, 7, 8, 1, 9, 0] rfl)
set_option maxHeartbeats 4000000 in
set_option maxRecDepth 100000 in
theorem k_Model_read_b113 {p : Program} {l : Launch} {e : Env} {s : State} {m : MethodId} {args : Array Value} {below : List Frame} {meth : Method} {c : Code} {E : En} {r : Int32} {Y : Mem} (C : Cx p s m args meth c c_Model_read 11 "TideLoansModel" (some .int) E) (x1 : Int32) (x2 : Int32) (x3 : Int32) (x5 : Int32) (x6 : Int32) (x7 : Int32) (x9 : Int32) {tg : ((Int32 × Mem) ⊕ (Int32 × Int32 × Mem))} {n104 : Nat} (hc104 : fin (fun a => f_Model_read_b104 x1 x2 x3 x5 x6 x7 a.1 a.2.1 a.2.2) n104 (r, Y) tg) (ih104 : I_Model_read_b104 p l e s m args below meth c E r Y x1 x2 x3 x5 x6 x7 n104 (r, Y)) : ∀ n, I_Model_read_b113 p l e s m args below meth c E r Y x1 x2 x3 x5 x6 x7 x9 n tg := by
  obtain ⟨hx, hb, hml, hown, hts, hrt, hlk, hKx⟩ := id C
  intro n
  induction n with
  | zero => intro x8 x10 X H locs ls h; exact it_0 h
  | succ n ih =>
    intro x8 x10 X H locs ls h hS hl
    obtain ⟨cc113, h, hc113⟩ := it_el h
    replace h : f_Model_read_b113 x1 x2 x3 x5 x6 x7 x9 x8 x10 X = some cc113 := h
    unfold f_Model_read_b113 at h
    refine lv_iload hx hb d_Model_read_113 (lv_at hl 9 rfl) ?_
    refine lv_bipush (v := 16) hx hb d_Model_read_115 (by decide) ?_
    refine r_icmp_ge (tgt := 164) C h d_Model_read_117 (by decide) (fun h => ?_) (fun h => ?_)
    · skip
      refine r_iinc C (w := 1) (lv' := fun z => [(9, .int z), (0, .ref (ad E 70)), (1, .int x1), (2, .int x2), (3, .int x3), (5, .int x5), (6, .int x6), (7, .int x7), (8, .int x8), (10, .int x10)]) h d_Model_read_164 hl (k := 8) rfl (by decide) (by decide) (fun _ => rfl) (fun v1 ls h hl => ?_)
      refine lv_goto (tgt := 104) hx hb d_Model_read_167 (by decide) ?_
      replace h := lp_ret h hc113
      exact ih104 _ _ _ _ _ _ (lp_next h hc104) hS (lv_sub hl [1, 2, 3, 4, 5, 6, 7, 8, 0] rfl)
    · skip
      refine lv_aload_n hx hb d_Model_read_120 rfl (lv_at hl 0 rfl) ?_
      refine r_get C hS (by decide) cel_Model (rfl : cls[6]? = some (R_Model, T_Model, 16)) in_Model 0 (by decide) tw_794 rfl d_Model_read_121 ?_
      refine lv_iload_n hx hb d_Model_read_124 rfl (lv_at hl 3 rfl) ?_
      refine lv_iconst (v := 0) hx hb d_Model_read_125 (by decide) ?_
      obtain ⟨v2, hr3, h⟩ := bd_el h
      refine c_I hS (c_runS (As := [.int x3, .int (0 : Int32)]) (rest := [.ref (ad E 71)]) C hS (k_Model_at (l := l) (E := E) (X := X) hr3) cw_Model_at ini_Model_at sta_Model_at tw_914 hd_Model_at rfl ⟨⟨rfl, rfl⟩, (Nat.le_of_ble_eq_true rfl), (Nat.le_of_ble_eq_true rfl)⟩ ⟨(Nat.le_of_ble_eq_true rfl), (Nat.le_of_ble_eq_true rfl)⟩ hl.1 rfl (Nat.le_of_ble_eq_true rfl) d_Model_read_126) (fun H locs hS => ?_)
      refine lv_iload hx hb d_Model_read_129 (lv_at hl 8 rfl) ?_
      refine r_stI C hS (n := 83) rfl (by decide) h d_Model_read_131 (fun X4 H locs hS h => ?_)
      refine lv_aload_n hx hb d_Model_read_132 rfl (lv_at hl 0 rfl) ?_
      refine lv_iload_n hx hb d_Model_read_133 rfl (lv_at hl 3 rfl) ?_
      refine lv_iload hx hb d_Model_read_134 (lv_at hl 9 rfl) ?_
      obtain ⟨X6, hr5, h⟩ := bd_el h
      refine c_V hS (c_runV (As := [.int x3, .int x10]) (rest := []) C hS (by decide) cel_Model (rfl : cls[6]? = some (R_Model, T_Model, 16)) (k_Model_lies (l := l) (E := E) (X := X4) hr5) cw_Model_lies ini_Model_lies ins_Model_lies sel_Model_lies tw_959 hd_Model_lies rfl ⟨⟨rfl, rfl⟩, (Nat.le_of_ble_eq_true rfl), (Nat.le_of_ble_eq_true rfl)⟩ ⟨(Nat.le_of_ble_eq_true rfl), (Nat.le_of_ble_eq_true rfl)⟩ hl.1 rfl (Nat.le_of_ble_eq_true rfl) d_Model_read_136) (fun H locs hS => ?_)
      refine lv_iload hx hb d_Model_read_139 (lv_at hl 7 rfl) ?_
      refine lv_aload_n hx hb d_Model_read_141 rfl (lv_at hl 0 rfl) ?_
      refine lv_iload_n hx hb d_Model_read_142 rfl (lv_at hl 1 rfl) ?_
      refine lv_iload_n hx hb d_Model_read_143 rfl (lv_at hl 2 rfl) ?_
      obtain ⟨v7, X9, hr8, h⟩ := bd2_el h
      refine c_I hS (c_runV (As := [.int x1, .int x2]) (rest := [.int x8]) C hS (by decide) cel_Model (rfl : cls[6]? = some (R_Model, T_Model, 16)) (k_Model_isTold (l := l) (E := E) (X := X6) hr8) cw_Model_isTold ini_Model_isTold ins_Model_isTold sel_Model_isTold tw_1182 hd_Model_isTold rfl ⟨⟨rfl, rfl⟩, (Nat.le_of_ble_eq_true rfl), (Nat.le_of_ble_eq_true rfl)⟩ ⟨(Nat.le_of_ble_eq_true rfl), (Nat.le_of_ble_eq_true rfl)⟩ hl.1 rfl (Nat.le_of_ble_eq_true rfl) d_Model_read_144) (fun H locs hS => ?_)
      refine r_if_eq (tgt := 154) C h d_Model_read_147 (by decide) (fun h => ?_) (fun h => ?_)
      · skip
        refine lv_iconst (v := 0) hx hb d_Model_read_154 (by decide) ?_
        exact k_Model_read_j155 C hc113 ih hc104 ih104 h hS (lv_sub hl [0, 1, 2, 3, 4, 5, 6, 8, 9] rfl)
      · skip
        refine lv_iconst (v := 1) hx hb d_Model_read_150 (by decide) ?_
        refine lv_goto (tgt := 155) hx hb d_Model_read_151 (by decide) ?_
        exact k_Model_read_j155 C hc113 ih hc104 ih104 h hS (lv_sub hl [0, 1, 2, 3, 4, 5, 6, 8, 9] rfl)
set_option maxHeartbeats 4000000 in
set_option maxRecDepth 100000 in
theorem k_Model_read_b104 {p : Program} {l : Launch} {e : Env} {s : State} {m : MethodId} {args : Array Value} {below : List Frame} {meth : Method} {c : Code} {E : En} {r : Int32} {Y : Mem} (C : Cx p s m args meth c c_Model_read 11 "TideLoansModel" (some .int) E) (x1 : Int32) (x2 : Int32) (x3 : Int32) (x5 : Int32) (x6 : Int32) (x7 : Int32) : ∀ n, I_Model_read_b104 p l e s m args below meth c E r Y x1 x2 x3 x5 x6 x7 n (r, Y) := by
  obtain ⟨hx, hb, hml, hown, hts, hrt, hlk, hKx⟩ := id C
  intro n
  induction n with
  | zero => intro x8 x9 X H locs ls h; exact it_0 h
  | succ n ih =>
    intro x8 x9 X H locs ls h hS hl
    obtain ⟨cc104, h, hc104⟩ := it_el h
    replace h : f_Model_read_b104 x1 x2 x3 x5 x6 x7 x8 x9 X = some cc104 := h
    unfold f_Model_read_b104 at h
    refine lv_iload hx hb d_Model_read_104 (lv_at hl 8 rfl) ?_
    refine lv_iconst (v := 5) hx hb d_Model_read_106 (by decide) ?_
    refine r_icmp_gt (tgt := 170) C h d_Model_read_107 (by decide) (fun h => ?_) (fun h => ?_)
    · skip
      refine lv_aload_n hx hb d_Model_read_170 rfl (lv_at hl 0 rfl) ?_
      refine r_get C hS (by decide) cel_Model (rfl : cls[6]? = some (R_Model, T_Model, 16)) in_Model 0 (by decide) tw_794 rfl d_Model_read_171 ?_
      refine lv_iload_n hx hb d_Model_read_174 rfl (lv_at hl 3 rfl) ?_
      refine lv_iconst (v := 0) hx hb d_Model_read_175 (by decide) ?_
      obtain ⟨v1, hr2, h⟩ := bd_el h
      refine c_I hS (c_runS (As := [.int x3, .int (0 : Int32)]) (rest := [.ref (ad E 71)]) C hS (k_Model_at (l := l) (E := E) (X := X) hr2) cw_Model_at ini_Model_at sta_Model_at tw_914 hd_Model_at rfl ⟨⟨rfl, rfl⟩, (Nat.le_of_ble_eq_true rfl), (Nat.le_of_ble_eq_true rfl)⟩ ⟨(Nat.le_of_ble_eq_true rfl), (Nat.le_of_ble_eq_true rfl)⟩ hl.1 rfl (Nat.le_of_ble_eq_true rfl) d_Model_read_176) (fun H locs hS => ?_)
      refine lv_iload hx hb d_Model_read_179 (lv_at hl 4 rfl) ?_
      refine r_stI C hS (n := 83) rfl (by decide) h d_Model_read_181 (fun X3 H locs hS h => ?_)
      refine lv_aload_n hx hb d_Model_read_182 rfl (lv_at hl 0 rfl) ?_
      refine r_get C hS (by decide) cel_Model (rfl : cls[6]? = some (R_Model, T_Model, 16)) in_Model 0 (by decide) tw_794 rfl d_Model_read_183 ?_
      refine lv_iload_n hx hb d_Model_read_186 rfl (lv_at hl 3 rfl) ?_
      refine lv_iconst (v := 2) hx hb d_Model_read_187 (by decide) ?_
      obtain ⟨v4, hr5, h⟩ := bd_el h
      refine c_I hS (c_runS (As := [.int x3, .int (2 : Int32)]) (rest := [.ref (ad E 71)]) C hS (k_Model_at (l := l) (E := E) (X := X3) hr5) cw_Model_at ini_Model_at sta_Model_at tw_914 hd_Model_at rfl ⟨⟨rfl, rfl⟩, (Nat.le_of_ble_eq_true rfl), (Nat.le_of_ble_eq_true rfl)⟩ ⟨(Nat.le_of_ble_eq_true rfl), (Nat.le_of_ble_eq_true rfl)⟩ hl.1 rfl (Nat.le_of_ble_eq_true rfl) d_Model_read_188) (fun H locs hS => ?_)
      refine lv_iload hx hb d_Model_read_191 (lv_at hl 5 rfl) ?_
      refine r_stI C hS (n := 83) rfl (by decide) h d_Model_read_193 (fun X6 H locs hS h => ?_)
      refine lv_aload_n hx hb d_Model_read_194 rfl (lv_at hl 0 rfl) ?_
      refine r_get C hS (by decide) cel_Model (rfl : cls[6]? = some (R_Model, T_Model, 16)) in_Model 0 (by decide) tw_794 rfl d_Model_read_195 ?_
      refine lv_iload_n hx hb d_Model_read_198 rfl (lv_at hl 3 rfl) ?_
      refine lv_iconst (v := 4) hx hb d_Model_read_199 (by decide) ?_
      obtain ⟨v7, hr8, h⟩ := bd_el h
      refine c_I hS (c_runS (As := [.int x3, .int (4 : Int32)]) (rest := [.ref (ad E 71)]) C hS (k_Model_at (l := l) (E := E) (X := X6) hr8) cw_Model_at ini_Model_at sta_Model_at tw_914 hd_Model_at rfl ⟨⟨rfl, rfl⟩, (Nat.le_of_ble_eq_true rfl), (Nat.le_of_ble_eq_true rfl)⟩ ⟨(Nat.le_of_ble_eq_true rfl), (Nat.le_of_ble_eq_true rfl)⟩ hl.1 rfl (Nat.le_of_ble_eq_true rfl) d_Model_read_200) (fun H locs hS => ?_)
      refine lv_iload hx hb d_Model_read_203 (lv_at hl 6 rfl) ?_
      refine r_stI C hS (n := 83) rfl (by decide) h d_Model_read_205 (fun X9 H locs hS h => ?_)
      refine lv_iload hx hb d_Model_read_206 (lv_at hl 7 rfl) ?_
      replace h := lp_ret h hc104
      exact r_iret C hS rfl h d_Model_read_208
    · skip
      refine lv_iconst (v := 0) hx hb d_Model_read_110 (by decide) ?_
      refine lv_istore (lv' := [(10, .int (0 : Int32)), (0, .ref (ad E 70)), (1, .int x1), (2, .int x2), (3, .int x3), (5, .int x5), (6, .int x6), (7, .int x7), (8, .int x8), (9, .int x9)]) hx hb d_Model_read_111 hl (by decide) rfl (fun ls hl => ?_)
      exact k_Model_read_b113 C _ _ _ _ _ _ _ hc104 ih FU _ _ _ _ _ _ h hS (lv_sub hl [1, 2, 3, 4, 5, 6, 7, 8, 9, 0] rfl)
set_option maxHeartbeats 4000000 in
set_option maxRecDepth 100000 in
theorem k_Model_read_j60 {p : Program} {l : Launch} {e : Env} {s : State} {m : MethodId} {args : Array Value} {below : List Frame} {meth : Method} {c : Code} {E : En} {r : Int32} {Y : Mem} (C : Cx p s m args meth c c_Model_read 11 "TideLoansModel" (some .int) E) {x1 : Int32} {x2 : Int32} {x3 : Int32} {q0 : Int32} {X : Mem} (h : f_Model_read_j60 x1 x2 x3 q0 X = some (r, Y)) {H : Heap} {locs : List Loc} (hS : Hs E s.heap X H locs) {ls : Array Slot} (hl : lv_has ls 11 [(0, .ref (ad E 70)), (1, .int x1), (2, .int x2), (3, .int x3)]) : W p l e ({ frames := 5, cells := 0, slots := 0, locals := 120 } : Room) s m args below meth c H locs 0 0 (MQ below (PostI E r Y) args s 0 0 (Ad E)) (F0 m 60 ls [.int q0]) := by
  obtain ⟨hx, hb, hml, hown, hts, hrt, hlk, hKx⟩ := id C
  unfold f_Model_read_j60 at h
  refine lv_istore (lv' := [(4, .int q0), (0, .ref (ad E 70)), (1, .int x1), (2, .int x2), (3, .int x3)]) hx hb d_Model_read_60 hl (by decide) rfl (fun ls hl => ?_)
  refine lv_iload hx hb d_Model_read_62 (lv_at hl 0 rfl) ?_
  refine r_if_eq (tgt := 74) C h d_Model_read_64 (by decide) (fun h => ?_) (fun h => ?_)
  · skip
    refine lv_aload_n hx hb d_Model_read_74 rfl (lv_at hl 1 rfl) ?_
    refine lv_iload_n hx hb d_Model_read_75 rfl (lv_at hl 4 rfl) ?_
    refine lv_iconst (v := 0) hx hb d_Model_read_76 (by decide) ?_
    obtain ⟨v1, hr2, h⟩ := bd_el h
    refine c_I hS (c_runV (As := [.int x3, .int (0 : Int32)]) (rest := []) C hS (by decide) cel_Model (rfl : cls[6]? = some (R_Model, T_Model, 16)) (k_Model_its (l := l) (E := E) (X := X) hr2) cw_Model_its ini_Model_its ins_Model_its sel_Model_its tw_875 hd_Model_its rfl ⟨⟨rfl, rfl⟩, (Nat.le_of_ble_eq_true rfl), (Nat.le_of_ble_eq_true rfl)⟩ ⟨(Nat.le_of_ble_eq_true rfl), (Nat.le_of_ble_eq_true rfl)⟩ hl.1 rfl (Nat.le_of_ble_eq_true rfl) d_Model_read_77) (fun H locs hS => ?_)
    refine lv_istore (lv' := [(5, .int v1), (4, .int q0), (0, .ref (ad E 70)), (1, .int x1), (2, .int x2), (3, .int x3)]) hx hb d_Model_read_80 hl (by decide) rfl (fun ls hl => ?_)
    refine lv_aload_n hx hb d_Model_read_82 rfl (lv_at hl 2 rfl) ?_
    refine lv_iload_n hx hb d_Model_read_83 rfl (lv_at hl 5 rfl) ?_
    refine lv_iconst (v := 2) hx hb d_Model_read_84 (by decide) ?_
    obtain ⟨v3, hr4, h⟩ := bd_el h
    refine c_I hS (c_runV (As := [.int x3, .int (2 : Int32)]) (rest := []) C hS (by decide) cel_Model (rfl : cls[6]? = some (R_Model, T_Model, 16)) (k_Model_its (l := l) (E := E) (X := X) hr4) cw_Model_its ini_Model_its ins_Model_its sel_Model_its tw_875 hd_Model_its rfl ⟨⟨rfl, rfl⟩, (Nat.le_of_ble_eq_true rfl), (Nat.le_of_ble_eq_true rfl)⟩ ⟨(Nat.le_of_ble_eq_true rfl), (Nat.le_of_ble_eq_true rfl)⟩ hl.1 rfl (Nat.le_of_ble_eq_true rfl) d_Model_read_85) (fun H locs hS => ?_)
    refine lv_istore (lv' := [(6, .int v3), (5, .int v1), (4, .int q0), (0, .ref (ad E 70)), (1, .int x1), (2, .int x2), (3, .int x3)]) hx hb d_Model_read_88 hl (by decide) rfl (fun ls hl => ?_)
    refine lv_aload_n hx hb d_Model_read_90 rfl (lv_at hl 3 rfl) ?_
    refine lv_iload_n hx hb d_Model_read_91 rfl (lv_at hl 6 rfl) ?_
    refine lv_iconst (v := 4) hx hb d_Model_read_92 (by decide) ?_
    obtain ⟨v5, hr6, h⟩ := bd_el h
    refine c_I hS (c_runV (As := [.int x3, .int (4 : Int32)]) (rest := []) C hS (by decide) cel_Model (rfl : cls[6]? = some (R_Model, T_Model, 16)) (k_Model_its (l := l) (E := E) (X := X) hr6) cw_Model_its ini_Model_its ins_Model_its sel_Model_its tw_875 hd_Model_its rfl ⟨⟨rfl, rfl⟩, (Nat.le_of_ble_eq_true rfl), (Nat.le_of_ble_eq_true rfl)⟩ ⟨(Nat.le_of_ble_eq_true rfl), (Nat.le_of_ble_eq_true rfl)⟩ hl.1 rfl (Nat.le_of_ble_eq_true rfl) d_Model_read_93) (fun H locs hS => ?_)
    refine lv_istore (lv' := [(7, .int v5), (6, .int v3), (5, .int v1), (4, .int q0), (0, .ref (ad E 70)), (1, .int x1), (2, .int x2), (3, .int x3)]) hx hb d_Model_read_96 hl (by decide) rfl (fun ls hl => ?_)
    refine lv_iconst (v := 0) hx hb d_Model_read_98 (by decide) ?_
    refine lv_istore (lv' := [(8, .int (0 : Int32)), (7, .int v5), (6, .int v3), (5, .int v1), (4, .int q0), (0, .ref (ad E 70)), (1, .int x1), (2, .int x2), (3, .int x3)]) hx hb d_Model_read_99 hl (by decide) rfl (fun ls hl => ?_)
    refine lv_iconst (v := 0) hx hb d_Model_read_101 (by decide) ?_
    refine lv_istore (lv' := [(9, .int (0 : Int32)), (8, .int (0 : Int32)), (7, .int v5), (6, .int v3), (5, .int v1), (4, .int q0), (0, .ref (ad E 70)), (1, .int x1), (2, .int x2), (3, .int x3)]) hx hb d_Model_read_102 hl (by decide) rfl (fun ls hl => ?_)
    exact k_Model_read_b104 C _ _ _ _ _ _ FU _ _ _ _ _ _ h hS (lv_sub hl [6, 7, 8, 9, 4, 3, 2, 1, 0] rfl)
  · skip
    refine lv_aload_n hx hb d_Model_read_67 rfl (lv_at hl 1 rfl) ?_
    refine lv_iload hx hb d_Model_read_68 (lv_at hl 0 rfl) ?_
    obtain ⟨v7, X9, hr8, h⟩ := bd2_el h
    refine c_I hS (c_runV (As := [.int q0]) (rest := []) C hS (by decide) cel_Model (rfl : cls[6]? = some (R_Model, T_Model, 16)) (k_Model_finds (l := l) (E := E) (X := X) hr8) cw_Model_finds ini_Model_finds ins_Model_finds sel_Model_finds tw_859 hd_Model_finds rfl ⟨⟨rfl, rfl⟩, (Nat.le_of_ble_eq_true rfl), (Nat.le_of_ble_eq_true rfl)⟩ ⟨(Nat.le_of_ble_eq_true rfl), (Nat.le_of_ble_eq_true rfl)⟩ hl.1 rfl (Nat.le_of_ble_eq_true rfl) d_Model_read_70) (fun H locs hS => ?_)
    exact r_iret C hS rfl h d_Model_read_73
set_option maxHeartbeats 4000000 in
set_option maxRecDepth 100000 in
theorem k_Model_read_j58 {p : Program} {l : Launch} {e : Env} {s : State} {m : MethodId} {args : Array Value} {below : List Frame} {meth : Method} {c : Code} {E : En} {r : Int32} {Y : Mem} (C : Cx p s m args meth c c_Model_read 11 "TideLoansModel" (some .int) E) {x1 : Int32} {x2 : Int32} {x3 : Int32} {x4 : Int32} {X : Mem} (h : f_Model_read_j58 x1 x2 x3 x4 X = some (r, Y)) {H : Heap} {locs : List Loc} (hS : Hs E s.heap X H locs) {ls : Array Slot} (hl : lv_has ls 11 [(0, .ref (ad E 70)), (1, .int x1), (2, .int x2), (3, .int x3), (4, .int x4)]) : W p l e ({ frames := 5, cells := 0, slots := 0, locals := 120 } : Room) s m args below meth c H locs 0 0 (MQ below (PostI E r Y) args s 0 0 (Ad E)) (F0 m 58 ls []) := by
  obtain ⟨hx, hb, hml, hown, hts, hrt, hlk, hKx⟩ := id C
  unfold f_Model_read_j58 at h
  refine lv_iload hx hb d_Model_read_58 (lv_at hl 4 rfl) ?_
  exact k_Model_read_j60 C h hS (lv_sub hl [0, 1, 2, 3] rfl)
set_option maxHeartbeats 4000000 in
set_option maxRecDepth 100000 in
theorem k_Model_read_j37 {p : Program} {l : Launch} {e : Env} {s : State} {m : MethodId} {args : Array Value} {below : List Frame} {meth : Method} {c : Code} {E : En} {r : Int32} {Y : Mem} (C : Cx p s m args meth c c_Model_read 11 "TideLoansModel" (some .int) E) {x1 : Int32} {x2 : Int32} {x3 : Int32} {q0 : Int32} {X : Mem} (h : f_Model_read_j37 x1 x2 x3 q0 X = some (r, Y)) {H : Heap} {locs : List Loc} (hS : Hs E s.heap X H locs) {ls : Array Slot} (hl : lv_has ls 11 [(0, .ref (ad E 70)), (1, .int x1), (2, .int x2), (3, .int x3)]) : W p l e ({ frames := 5, cells := 0, slots := 0, locals := 120 } : Room) s m args below meth c H locs 0 0 (MQ below (PostI E r Y) args s 0 0 (Ad E)) (F0 m 37 ls [.int q0]) := by
  obtain ⟨hx, hb, hml, hown, hts, hrt, hlk, hKx⟩ := id C
  unfold f_Model_read_j37 at h
  refine lv_istore (lv' := [(4, .int q0), (0, .ref (ad E 70)), (1, .int x1), (2, .int x2), (3, .int x3)]) hx hb d_Model_read_37 hl (by decide) rfl (fun ls hl => ?_)
  refine lv_iload hx hb d_Model_read_39 (lv_at hl 0 rfl) ?_
  refine r_if_ne (tgt := 58) C h d_Model_read_41 (by decide) (fun h => ?_) (fun h => ?_)
  · skip
    exact k_Model_read_j58 C h hS (lv_sub hl [1, 2, 3, 4, 0] rfl)
  · skip
    refine lv_aload_n hx hb d_Model_read_44 rfl (lv_at hl 1 rfl) ?_
    refine lv_iload_n hx hb d_Model_read_45 rfl (lv_at hl 4 rfl) ?_
    refine lv_iconst (v := 2) hx hb d_Model_read_46 (by decide) ?_
    obtain ⟨v1, hr2, h⟩ := bd_el h
    refine c_I hS (c_runV (As := [.int x3, .int (2 : Int32)]) (rest := []) C hS (by decide) cel_Model (rfl : cls[6]? = some (R_Model, T_Model, 16)) (k_Model_isIt (l := l) (E := E) (X := X) hr2) cw_Model_isIt ini_Model_isIt ins_Model_isIt sel_Model_isIt tw_871 hd_Model_isIt rfl ⟨⟨rfl, rfl⟩, (Nat.le_of_ble_eq_true rfl), (Nat.le_of_ble_eq_true rfl)⟩ ⟨(Nat.le_of_ble_eq_true rfl), (Nat.le_of_ble_eq_true rfl)⟩ hl.1 rfl (Nat.le_of_ble_eq_true rfl) d_Model_read_47) (fun H locs hS => ?_)
    refine r_if_eq (tgt := 58) C h d_Model_read_50 (by decide) (fun h => ?_) (fun h => ?_)
    · skip
      exact k_Model_read_j58 C h hS (lv_sub hl [1, 2, 3, 4, 0] rfl)
    · skip
      refine lv_ldc (v := -1000000005) hx hb hown (hts _ tw_958) d_Model_read_53 ?_
      refine lv_goto (tgt := 60) hx hb d_Model_read_55 (by decide) ?_
      exact k_Model_read_j60 C h hS (lv_sub hl [1, 2, 3, 4] rfl)
set_option maxHeartbeats 4000000 in
set_option maxRecDepth 100000 in
theorem k_Model_read_j35 {p : Program} {l : Launch} {e : Env} {s : State} {m : MethodId} {args : Array Value} {below : List Frame} {meth : Method} {c : Code} {E : En} {r : Int32} {Y : Mem} (C : Cx p s m args meth c c_Model_read 11 "TideLoansModel" (some .int) E) {x1 : Int32} {x2 : Int32} {x3 : Int32} {X : Mem} (h : f_Model_read_j35 x1 x2 x3 X = some (r, Y)) {H : Heap} {locs : List Loc} (hS : Hs E s.heap X H locs) {ls : Array Slot} (hl : lv_has ls 11 [(0, .ref (ad E 70)), (1, .int x1), (2, .int x2), (3, .int x3)]) : W p l e ({ frames := 5, cells := 0, slots := 0, locals := 120 } : Room) s m args below meth c H locs 0 0 (MQ below (PostI E r Y) args s 0 0 (Ad E)) (F0 m 35 ls []) := by
  obtain ⟨hx, hb, hml, hown, hts, hrt, hlk, hKx⟩ := id C
  unfold f_Model_read_j35 at h
  refine lv_ldc (v := -1000000001) hx hb hown (hts _ tw_858) d_Model_read_35 ?_
  exact k_Model_read_j37 C h hS (lv_sub hl [0, 1, 2, 3] rfl)
set_option maxHeartbeats 4000000 in
set_option maxRecDepth 100000 in
theorem k_Model_read {l : Launch} {E : En} {p1 : Int32} {p2 : Int32} {p3 : Int32} {X : Mem} {r : Int32} {Y : Mem} (h : f_Model_read p1 p2 p3 X = some (r, Y)) : Met l y_Model_read (Cond.code y_Model_read c_Model_read 11 (some .int) :: tb) ({ frames := 5, cells := 0, slots := 0, locals := 120 } : Room) (PreC E [.ref (ad E 70), .int p1, .int p2, .int p3] X) (PostI E r Y) 0 0 (Ad E) := by
  refine met_of (by decide) (Nat.le_of_ble_eq_true rfl) (fun p e s m below meth c C hS ls hl => ?_)
  replace C : Cx p s m ([.ref (ad E 70), .int p1, .int p2, .int p3] : List Value).toArray meth c c_Model_read 11 "TideLoansModel" (some .int) E := C
  replace hl : lv_has ls 11 [(0, .ref (ad E 70)), (1, .int p1), (2, .int p2), (3, .int p3)] := hl
  obtain ⟨hx, hb, hml, hown, hts, hrt, hlk, hKx⟩ := id C
  unfold f_Model_read at h
  refine lv_aload_n hx hb d_Model_read_0 rfl (lv_at hl 0 rfl) ?_
  refine lv_iload_n hx hb d_Model_read_1 rfl (lv_at hl 1 rfl) ?_
  obtain ⟨v1, hr2, h⟩ := bd_el h
  refine c_I hS (c_runV (As := [.int p1]) (rest := []) C hS (by decide) cel_Model (rfl : cls[6]? = some (R_Model, T_Model, 16)) (k_Model_wants (l := l) (E := E) (X := X) hr2) cw_Model_wants ini_Model_wants ins_Model_wants sel_Model_wants tw_1170 hd_Model_wants rfl ⟨⟨rfl, rfl⟩, (Nat.le_of_ble_eq_true rfl), (Nat.le_of_ble_eq_true rfl)⟩ ⟨(Nat.le_of_ble_eq_true rfl), (Nat.le_of_ble_eq_true rfl)⟩ hl.1 rfl (Nat.le_of_ble_eq_true rfl) d_Model_read_2) (fun H locs hS => ?_)
  refine r_if_eq (tgt := 16) C h d_Model_read_5 (by decide) (fun h => ?_) (fun h => ?_)
  · skip
    refine lv_iload_n hx hb d_Model_read_16 rfl (lv_at hl 2 rfl) ?_
    obtain ⟨v3, hr4, h⟩ := bd_el h
    refine c_I hS (c_runS (As := [.int p2]) (rest := []) C hS (k_Model_isFamily (l := l) (E := E) (X := X) hr4) cw_Model_isFamily ini_Model_isFamily sta_Model_isFamily tw_900 hd_Model_isFamily rfl ⟨⟨rfl, rfl⟩, (Nat.le_of_ble_eq_true rfl), (Nat.le_of_ble_eq_true rfl)⟩ ⟨(Nat.le_of_ble_eq_true rfl), (Nat.le_of_ble_eq_true rfl)⟩ hl.1 rfl (Nat.le_of_ble_eq_true rfl) d_Model_read_17) (fun H locs hS => ?_)
    refine r_if_eq (tgt := 35) C h d_Model_read_20 (by decide) (fun h => ?_) (fun h => ?_)
    · skip
      exact k_Model_read_j35 C h hS (lv_sub hl [0, 1, 2, 3] rfl)
    · skip
      refine lv_aload_n hx hb d_Model_read_23 rfl (lv_at hl 0 rfl) ?_
      refine lv_iload_n hx hb d_Model_read_24 rfl (lv_at hl 3 rfl) ?_
      obtain ⟨v5, hr6, h⟩ := bd_el h
      refine c_I hS (c_runV (As := [.int p3]) (rest := []) C hS (by decide) cel_Model (rfl : cls[6]? = some (R_Model, T_Model, 16)) (k_Model_isThing (l := l) (E := E) (X := X) hr6) cw_Model_isThing ini_Model_isThing ins_Model_isThing sel_Model_isThing tw_921 hd_Model_isThing rfl ⟨⟨rfl, rfl⟩, (Nat.le_of_ble_eq_true rfl), (Nat.le_of_ble_eq_true rfl)⟩ ⟨(Nat.le_of_ble_eq_true rfl), (Nat.le_of_ble_eq_true rfl)⟩ hl.1 rfl (Nat.le_of_ble_eq_true rfl) d_Model_read_25) (fun H locs hS => ?_)
      refine r_if_eq (tgt := 35) C h d_Model_read_28 (by decide) (fun h => ?_) (fun h => ?_)
      · skip
        exact k_Model_read_j35 C h hS (lv_sub hl [0, 1, 2, 3] rfl)
      · skip
        refine lv_iconst (v := 0) hx hb d_Model_read_31 (by decide) ?_
        refine lv_goto (tgt := 37) hx hb d_Model_read_32 (by decide) ?_
        exact k_Model_read_j37 C h hS (lv_sub hl [0, 1, 2, 3] rfl)
  · skip
    refine lv_aload_n hx hb d_Model_read_8 rfl (lv_at hl 0 rfl) ?_
    refine lv_iload_n hx hb d_Model_read_9 rfl (lv_at hl 1 rfl) ?_
    obtain ⟨v7, hr8, h⟩ := bd_el h
    refine c_I hS (c_runV (As := [.int p1]) (rest := []) C hS (by decide) cel_Model (rfl : cls[6]? = some (R_Model, T_Model, 16)) (k_Model_wants (l := l) (E := E) (X := X) hr8) cw_Model_wants ini_Model_wants ins_Model_wants sel_Model_wants tw_1170 hd_Model_wants rfl ⟨⟨rfl, rfl⟩, (Nat.le_of_ble_eq_true rfl), (Nat.le_of_ble_eq_true rfl)⟩ ⟨(Nat.le_of_ble_eq_true rfl), (Nat.le_of_ble_eq_true rfl)⟩ hl.1 rfl (Nat.le_of_ble_eq_true rfl) d_Model_read_10) (fun H locs hS => ?_)
    refine lv_goto (tgt := 37) hx hb d_Model_read_13 (by decide) ?_
    exact k_Model_read_j37 C h hS (lv_sub hl [0, 1, 2, 3] rfl)
