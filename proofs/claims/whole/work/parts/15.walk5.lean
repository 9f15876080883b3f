set_option maxHeartbeats 4000000 in
set_option maxRecDepth 100000 in
theorem k_Model_wouldRepay {l : Launch} {E : En} {p1 : Int32} {X : Mem} {r : Int32} (h : f_Model_wouldRepay p1 X = some r) : Met l y_Model_wouldRepay (Cond.code y_Model_wouldRepay c_Model_wouldRepay 2 (some .int) :: tb) ({ frames := 2, cells := 0, slots := 0, locals := 50 } : Room) (PreC E [.ref (ad E 70), .int p1] X) (PostI E r X) 0 0 (Ad E) := by
  refine met_of (by decide) (Nat.le_of_ble_eq_true rfl) (fun p e s m below meth c C hS ls hl => ?_)
  replace C : Cx p s m ([.ref (ad E 70), .int p1] : List Value).toArray meth c c_Model_wouldRepay 2 "TideLoansModel" (some .int) E := C
  replace hl : lv_has ls 2 [(0, .ref (ad E 70)), (1, .int p1)] := hl
  obtain ⟨hx, hb, hml, hown, hts, hrt, hlk, hKx⟩ := id C
  unfold f_Model_wouldRepay at h
  refine lv_aload_n hx hb d_Model_wouldRepay_0 rfl (lv_at hl 0 rfl) ?_
  refine lv_iload_n hx hb d_Model_wouldRepay_1 rfl (lv_at hl 1 rfl) ?_
  refine lv_iconst (v := 2) hx hb d_Model_wouldRepay_2 (by decide) ?_
  obtain ⟨v1, hr2, h⟩ := bd_el h
  refine c_I hS (c_runV (As := [.int p1, .int (2 : Int32)]) (rest := []) C hS (by decide) cel_Model (rfl : cls[6]? = some (R_Model, T_Model, 16)) (k_Model_isIt (l := l) (E := E) (X := X) hr2) cw_Model_isIt ini_Model_isIt ins_Model_isIt sel_Model_isIt tw_871 hd_Model_isIt rfl ⟨⟨rfl, rfl⟩, (Nat.le_of_ble_eq_true rfl), (Nat.le_of_ble_eq_true rfl)⟩ ⟨(Nat.le_of_ble_eq_true rfl), (Nat.le_of_ble_eq_true rfl)⟩ hl.1 rfl (Nat.le_of_ble_eq_true rfl) d_Model_wouldRepay_3) (fun H locs hS => ?_)
  refine r_if_eq (tgt := 30) C h d_Model_wouldRepay_6 (by decide) (fun h => ?_) (fun h => ?_)
  · skip
    refine lv_iconst (v := 0) hx hb d_Model_wouldRepay_30 (by decide) ?_
    exact r_iret0 C hS rfl h d_Model_wouldRepay_31
  · skip
    refine lv_aload_n hx hb d_Model_wouldRepay_9 rfl (lv_at hl 0 rfl) ?_
    refine lv_iload_n hx hb d_Model_wouldRepay_10 rfl (lv_at hl 1 rfl) ?_
    refine lv_aload_n hx hb d_Model_wouldRepay_11 rfl (lv_at hl 0 rfl) ?_
    refine r_get C hS (by decide) cel_Model (rfl : cls[6]? = some (R_Model, T_Model, 16)) in_Model 0 (by decide) tw_794 rfl d_Model_wouldRepay_12 ?_
    refine lv_iconst (v := 1) hx hb d_Model_wouldRepay_15 (by decide) ?_
    refine r_ldI C hS (n := 83) rfl (by decide) h d_Model_wouldRepay_16 (fun v3 h => ?_)
    refine lv_aload_n hx hb d_Model_wouldRepay_17 rfl (lv_at hl 0 rfl) ?_
    refine lv_iload_n hx hb d_Model_wouldRepay_18 rfl (lv_at hl 1 rfl) ?_
    refine lv_iconst (v := 5) hx hb d_Model_wouldRepay_19 (by decide) ?_
    obtain ⟨v4, hr5, h⟩ := bd_el h
    refine c_I hS (c_runV (As := [.int p1, .int (5 : Int32)]) (rest := [.int v3, .int p1, .ref (ad E 70)]) C hS (by decide) cel_Model (rfl : cls[6]? = some (R_Model, T_Model, 16)) (k_Model_its (l := l) (E := E) (X := X) hr5) cw_Model_its ini_Model_its ins_Model_its sel_Model_its tw_875 hd_Model_its rfl ⟨⟨rfl, rfl⟩, (Nat.le_of_ble_eq_true rfl), (Nat.le_of_ble_eq_true rfl)⟩ ⟨(Nat.le_of_ble_eq_true rfl), (Nat.le_of_ble_eq_true rfl)⟩ hl.1 rfl (Nat.le_of_ble_eq_true rfl) d_Model_wouldRepay_20) (fun H locs hS => ?_)
    refine lv_isub hx hb d_Model_wouldRepay_23 ?_
    obtain ⟨v6, hr7, h⟩ := bd_el h
    refine c_I hS (c_runV (As := [.int p1, .int (v3 - v4)]) (rest := []) C hS (by decide) cel_Model (rfl : cls[6]? = some (R_Model, T_Model, 16)) (k_Model_repays (l := l) (E := E) (X := X) hr7) cw_Model_repays ini_Model_repays ins_Model_repays sel_Model_repays tw_933 hd_Model_repays rfl ⟨⟨rfl, rfl⟩, (Nat.le_of_ble_eq_true rfl), (Nat.le_of_ble_eq_true rfl)⟩ ⟨(Nat.le_of_ble_eq_true rfl), (Nat.le_of_ble_eq_true rfl)⟩ hl.1 rfl (Nat.le_of_ble_eq_true rfl) d_Model_wouldRepay_24) (fun H locs hS => ?_)
    refine lv_goto (tgt := 31) hx hb d_Model_wouldRepay_27 (by decide) ?_
    exact r_iret0 C hS rfl h d_Model_wouldRepay_31
set_option maxHeartbeats 4000000 in
set_option maxRecDepth 100000 in
theorem k_Model_of_j20 {p : Program} {l : Launch} {e : Env} {s : State} {m : MethodId} {args : Array Value} {below : List Frame} {meth : Method} {c : Code} {E : En} {r : Int32} {Y : Mem} (C : Cx p s m args meth c c_Model_of 3 "TideLoansModel" (some .int) E) {X : Mem} (h : f_Model_of_j20 X = some (r, Y)) {H : Heap} {locs : List Loc} (hS : Hs E s.heap X H locs) {ls : Array Slot} (hl : lv_has ls 3 [(0, .ref (ad E 70))]) : W p l e ({ frames := 3, cells := 0, slots := 0, locals := 71 } : Room) s m args below meth c H locs 0 0 (MQ below (PostI E r Y) args s 0 0 (Ad E)) (F0 m 20 ls []) := by
  obtain ⟨hx, hb, hml, hown, hts, hrt, hlk, hKx⟩ := id C
  unfold f_Model_of_j20 at h
  refine lv_aload_n hx hb d_Model_of_20 rfl (lv_at hl 0 rfl) ?_
  refine lv_ldc (v := -1000000001) hx hb hown (hts _ tw_858) d_Model_of_21 ?_
  obtain ⟨v1, X3, hr2, h⟩ := bd2_el h
  refine c_I hS (c_runV (As := [.int (-1000000001 : Int32)]) (rest := []) C hS (by decide) cel_Model (rfl : cls[6]? = some (R_Model, T_Model, 16)) (k_Model_finds (l := l) (E := E) (X := X) hr2) cw_Model_finds ini_Model_finds ins_Model_finds sel_Model_finds tw_859 hd_Model_finds rfl ⟨⟨rfl, rfl⟩, (Nat.le_of_ble_eq_true rfl), (Nat.le_of_ble_eq_true rfl)⟩ ⟨(Nat.le_of_ble_eq_true rfl), (Nat.le_of_ble_eq_true rfl)⟩ hl.1 rfl (Nat.le_of_ble_eq_true rfl) d_Model_of_23) (fun H locs hS => ?_)
  exact r_iret C hS rfl h d_Model_of_26
set_option maxHeartbeats 4000000 in
set_option maxRecDepth 100000 in
theorem k_Model_of {l : Launch} {E : En} {p1 : Int32} {p2 : Int32} {X : Mem} {r : Int32} {Y : Mem} (h : f_Model_of p1 p2 X = some (r, Y)) : Met l y_Model_of (Cond.code y_Model_of c_Model_of 3 (some .int) :: tb) ({ frames := 3, cells := 0, slots := 0, locals := 71 } : Room) (PreC E [.ref (ad E 70), .int p1, .int p2] X) (PostI E r Y) 0 0 (Ad E) := by
  refine met_of (by decide) (Nat.le_of_ble_eq_true rfl) (fun p e s m below meth c C hS ls hl => ?_)
  replace C : Cx p s m ([.ref (ad E 70), .int p1, .int p2] : List Value).toArray meth c c_Model_of 3 "TideLoansModel" (some .int) E := C
  replace hl : lv_has ls 3 [(0, .ref (ad E 70)), (1, .int p1), (2, .int p2)] := hl
  obtain ⟨hx, hb, hml, hown, hts, hrt, hlk, hKx⟩ := id C
  unfold f_Model_of at h
  refine lv_aload_n hx hb d_Model_of_0 rfl (lv_at hl 0 rfl) ?_
  refine lv_iload_n hx hb d_Model_of_1 rfl (lv_at hl 1 rfl) ?_
  obtain ⟨v1, hr2, h⟩ := bd_el h
  refine c_I hS (c_runV (As := [.int p1]) (rest := []) C hS (by decide) cel_Model (rfl : cls[6]? = some (R_Model, T_Model, 16)) (k_Model_isThing (l := l) (E := E) (X := X) hr2) cw_Model_isThing ini_Model_isThing ins_Model_isThing sel_Model_isThing tw_921 hd_Model_isThing rfl ⟨⟨rfl, rfl⟩, (Nat.le_of_ble_eq_true rfl), (Nat.le_of_ble_eq_true rfl)⟩ ⟨(Nat.le_of_ble_eq_true rfl), (Nat.le_of_ble_eq_true rfl)⟩ hl.1 rfl (Nat.le_of_ble_eq_true rfl) d_Model_of_2) (fun H locs hS => ?_)
  refine r_if_eq (tgt := 20) C h d_Model_of_5 (by decide) (fun h => ?_) (fun h => ?_)
  · skip
    exact k_Model_of_j20 C h hS (lv_sub hl [0] rfl)
  · skip
    refine lv_iload_n hx hb d_Model_of_8 rfl (lv_at hl 2 rfl) ?_
    refine lv_i2l hx hb d_Model_of_9 rfl ?_
    refine lv_lconst (v := 0) hx hb d_Model_of_10 (by decide) ?_
    refine lv_ldc2 (v := 7) hx hb hown (hts _ tw_925) d_Model_of_11 ?_
    obtain ⟨v3, hr4, h⟩ := bd_el h
    refine c_I hS (c_runS (As := [.long (p2.toInt64), .long (0 : Int64), .long (7 : Int64)]) (rest := []) C hS (k_Model_isIn (l := l) (E := E) (X := X) hr4) cw_Model_isIn ini_Model_isIn sta_Model_isIn tw_851 hd_Model_isIn rfl ⟨⟨rfl, rfl⟩, (Nat.le_of_ble_eq_true rfl), (Nat.le_of_ble_eq_true rfl)⟩ ⟨(Nat.le_of_ble_eq_true rfl), (Nat.le_of_ble_eq_true rfl)⟩ hl.1 rfl (Nat.le_of_ble_eq_true rfl) d_Model_of_14) (fun H locs hS => ?_)
    refine r_if_ne (tgt := 27) C h d_Model_of_17 (by decide) (fun h => ?_) (fun h => ?_)
    · skip
      refine lv_iload_n hx hb d_Model_of_27 rfl (lv_at hl 2 rfl) ?_
      refine lv_bipush (v := 6) hx hb d_Model_of_28 (by decide) ?_
      refine r_icmp_ge (tgt := 42) C h d_Model_of_30 (by decide) (fun h => ?_) (fun h => ?_)
      · skip
        refine lv_iload_n hx hb d_Model_of_42 rfl (lv_at hl 2 rfl) ?_
        refine lv_bipush (v := 6) hx hb d_Model_of_43 (by decide) ?_
        refine r_icmp_ne (tgt := 60) C h d_Model_of_45 (by decide) (fun h => ?_) (fun h => ?_)
        · skip
          refine lv_aload_n hx hb d_Model_of_60 rfl (lv_at hl 0 rfl) ?_
          refine lv_iload_n hx hb d_Model_of_61 rfl (lv_at hl 1 rfl) ?_
          obtain ⟨v5, hr6, h⟩ := bd_el h
          refine c_I hS (c_runV (As := [.int p1]) (rest := []) C hS (by decide) cel_Model (rfl : cls[6]? = some (R_Model, T_Model, 16)) (k_Model_wouldRepay (l := l) (E := E) (X := X) hr6) cw_Model_wouldRepay ini_Model_wouldRepay ins_Model_wouldRepay sel_Model_wouldRepay tw_929 hd_Model_wouldRepay rfl ⟨⟨rfl, rfl⟩, (Nat.le_of_ble_eq_true rfl), (Nat.le_of_ble_eq_true rfl)⟩ ⟨(Nat.le_of_ble_eq_true rfl), (Nat.le_of_ble_eq_true rfl)⟩ hl.1 rfl (Nat.le_of_ble_eq_true rfl) d_Model_of_62) (fun H locs hS => ?_)
          exact r_iret C hS rfl h d_Model_of_65
        · skip
          refine lv_aload_n hx hb d_Model_of_48 rfl (lv_at hl 0 rfl) ?_
          refine lv_iload_n hx hb d_Model_of_49 rfl (lv_at hl 1 rfl) ?_
          refine lv_iconst (v := 0) hx hb d_Model_of_50 (by decide) ?_
          obtain ⟨v7, hr8, h⟩ := bd_el h
          refine c_I hS (c_runV (As := [.int p1, .int (0 : Int32)]) (rest := []) C hS (by decide) cel_Model (rfl : cls[6]? = some (R_Model, T_Model, 16)) (k_Model_its (l := l) (E := E) (X := X) hr8) cw_Model_its ini_Model_its ins_Model_its sel_Model_its tw_875 hd_Model_its rfl ⟨⟨rfl, rfl⟩, (Nat.le_of_ble_eq_true rfl), (Nat.le_of_ble_eq_true rfl)⟩ ⟨(Nat.le_of_ble_eq_true rfl), (Nat.le_of_ble_eq_true rfl)⟩ hl.1 rfl (Nat.le_of_ble_eq_true rfl) d_Model_of_51) (fun H locs hS => ?_)
          obtain ⟨v9, hr10, h⟩ := bd_el h
          refine c_I hS (c_runS (As := [.int v7]) (rest := []) C hS (k_Model_term (l := l) (E := E) (X := X) hr10) cw_Model_term ini_Model_term sta_Model_term tw_926 hd_Model_term rfl ⟨⟨rfl, rfl⟩, (Nat.le_of_ble_eq_true rfl), (Nat.le_of_ble_eq_true rfl)⟩ ⟨(Nat.le_of_ble_eq_true rfl), (Nat.le_of_ble_eq_true rfl)⟩ hl.1 rfl (Nat.le_of_ble_eq_true rfl) d_Model_of_54) (fun H locs hS => ?_)
          refine lv_goto (tgt := 65) hx hb d_Model_of_57 (by decide) ?_
          exact r_iret C hS rfl h d_Model_of_65
      · skip
        refine lv_aload_n hx hb d_Model_of_33 rfl (lv_at hl 0 rfl) ?_
        refine lv_iload_n hx hb d_Model_of_34 rfl (lv_at hl 1 rfl) ?_
        refine lv_iload_n hx hb d_Model_of_35 rfl (lv_at hl 2 rfl) ?_
        obtain ⟨v11, hr12, h⟩ := bd_el h
        refine c_I hS (c_runV (As := [.int p1, .int p2]) (rest := []) C hS (by decide) cel_Model (rfl : cls[6]? = some (R_Model, T_Model, 16)) (k_Model_its (l := l) (E := E) (X := X) hr12) cw_Model_its ini_Model_its ins_Model_its sel_Model_its tw_875 hd_Model_its rfl ⟨⟨rfl, rfl⟩, (Nat.le_of_ble_eq_true rfl), (Nat.le_of_ble_eq_true rfl)⟩ ⟨(Nat.le_of_ble_eq_true rfl), (Nat.le_of_ble_eq_true rfl)⟩ hl.1 rfl (Nat.le_of_ble_eq_true rfl) d_Model_of_36) (fun H locs hS => ?_)
        refine lv_goto (tgt := 65) hx hb d_Model_of_39 (by decide) ?_
        exact r_iret C hS rfl h d_Model_of_65
    · skip
      exact k_Model_of_j20 C h hS (lv_sub hl [0] rfl)
set_option maxHeartbeats 4000000 in
set_option maxRecDepth 100000 in
theorem k_Model_set_j42 {p : Program} {l : Launch} {e : Env} {s : State} {m : MethodId} {args : Array Value} {below : List Frame} {meth : Method} {c : Code} {E : En} {r : Int32} {Y : Mem} (C : Cx p s m args meth c c_Model_set 5 "TideLoansModel" (some .int) E) {x1 : Int32} {x2 : Int32} {x3 : Int32} {q0 : Int32} {X : Mem} (h : f_Model_set_j42 x1 x2 x3 q0 X = some (r, Y)) {H : Heap} {locs : List Loc} (hS : Hs E s.heap X H locs) {ls : Array Slot} (hl : lv_has ls 5 [(0, .ref (ad E 70)), (1, .int x1), (2, .int x2), (3, .int x3)]) : W p l e ({ frames := 1, cells := 0, slots := 0, locals := 25 } : Room) s m args below meth c H locs 0 0 (MQ below (PostI E r Y) args s 0 0 (Ad E)) (F0 m 42 ls [.int q0]) := by
  obtain ⟨hx, hb, hml, hown, hts, hrt, hlk, hKx⟩ := id C
  unfold f_Model_set_j42 at h
  refine lv_istore (lv' := [(4, .int q0), (0, .ref (ad E 70)), (1, .int x1), (2, .int x2), (3, .int x3)]) hx hb d_Model_set_42 hl (by decide) rfl (fun ls hl => ?_)
  refine lv_iload hx hb d_Model_set_44 (lv_at hl 0 rfl) ?_
  refine r_if_eq (tgt := 62) C h d_Model_set_46 (by decide) (fun h => ?_) (fun h => ?_)
  · skip
    refine lv_aload_n hx hb d_Model_set_62 rfl (lv_at hl 1 rfl) ?_
    refine lv_ldc (v := -1000000001) hx hb hown (hts _ tw_858) d_Model_set_63 ?_
    obtain ⟨v1, X3, hr2, h⟩ := bd2_el h
    refine c_I hS (c_runV (As := [.int (-1000000001 : Int32)]) (rest := []) C hS (by decide) cel_Model (rfl : cls[6]? = some (R_Model, T_Model, 16)) (k_Model_finds (l := l) (E := E) (X := X) hr2) cw_Model_finds ini_Model_finds ins_Model_finds sel_Model_finds tw_859 hd_Model_finds rfl ⟨⟨rfl, rfl⟩, (Nat.le_of_ble_eq_true rfl), (Nat.le_of_ble_eq_true rfl)⟩ ⟨(Nat.le_of_ble_eq_true rfl), (Nat.le_of_ble_eq_true rfl)⟩ hl.1 rfl (Nat.le_of_ble_eq_true rfl) d_Model_set_65) (fun H locs hS => ?_)
    exact r_iret C hS rfl h d_Model_set_68
  · skip
    refine lv_aload_n hx hb d_Model_set_49 rfl (lv_at hl 1 rfl) ?_
    refine lv_iload_n hx hb d_Model_set_50 rfl (lv_at hl 2 rfl) ?_
    refine lv_iload_n hx hb d_Model_set_51 rfl (lv_at hl 3 rfl) ?_
    obtain ⟨v4, hr5, h⟩ := bd_el h
    refine c_I hS (c_runS (As := [.int x1, .int x2]) (rest := [.ref (ad E 70)]) C hS (k_Model_at (l := l) (E := E) (X := X) hr5) cw_Model_at ini_Model_at sta_Model_at tw_914 hd_Model_at rfl ⟨⟨rfl, rfl⟩, (Nat.le_of_ble_eq_true rfl), (Nat.le_of_ble_eq_true rfl)⟩ ⟨(Nat.le_of_ble_eq_true rfl), (Nat.le_of_ble_eq_true rfl)⟩ hl.1 rfl (Nat.le_of_ble_eq_true rfl) d_Model_set_52) (fun H locs hS => ?_)
    refine lv_iload_n hx hb d_Model_set_55 rfl (lv_at hl 4 rfl) ?_
    obtain ⟨v6, X8, hr7, h⟩ := bd2_el h
    refine c_I hS (c_runV (As := [.int v4, .int x3]) (rest := []) C hS (by decide) cel_Model (rfl : cls[6]? = some (R_Model, T_Model, 16)) (k_Model_becomes (l := l) (E := E) (X := X) hr7) cw_Model_becomes ini_Model_becomes ins_Model_becomes sel_Model_becomes tw_854 hd_Model_becomes rfl ⟨⟨rfl, rfl⟩, (Nat.le_of_ble_eq_true rfl), (Nat.le_of_ble_eq_true rfl)⟩ ⟨(Nat.le_of_ble_eq_true rfl), (Nat.le_of_ble_eq_true rfl)⟩ hl.1 rfl (Nat.le_of_ble_eq_true rfl) d_Model_set_56) (fun H locs hS => ?_)
    refine lv_goto (tgt := 68) hx hb d_Model_set_59 (by decide) ?_
    exact r_iret C hS rfl h d_Model_set_68
set_option maxHeartbeats 4000000 in
set_option maxRecDepth 100000 in
theorem k_Model_set_j41 {p : Program} {l : Launch} {e : Env} {s : State} {m : MethodId} {args : Array Value} {below : List Frame} {meth : Method} {c : Code} {E : En} {r : Int32} {Y : Mem} (C : Cx p s m args meth c c_Model_set 5 "TideLoansModel" (some .int) E) {x1 : Int32} {x2 : Int32} {x3 : Int32} {X : Mem} (h : f_Model_set_j41 x1 x2 x3 X = some (r, Y)) {H : Heap} {locs : List Loc} (hS : Hs E s.heap X H locs) {ls : Array Slot} (hl : lv_has ls 5 [(0, .ref (ad E 70)), (1, .int x1), (2, .int x2), (3, .int x3)]) : W p l e ({ frames := 1, cells := 0, slots := 0, locals := 25 } : Room) s m args below meth c H locs 0 0 (MQ below (PostI E r Y) args s 0 0 (Ad E)) (F0 m 41 ls []) := by
  obtain ⟨hx, hb, hml, hown, hts, hrt, hlk, hKx⟩ := id C
  unfold f_Model_set_j41 at h
  refine lv_iconst (v := 0) hx hb d_Model_set_41 (by decide) ?_
  exact k_Model_set_j42 C h hS (lv_sub hl [0, 1, 2, 3] rfl)
set_option maxHeartbeats 4000000 in
set_option maxRecDepth 100000 in
theorem k_Model_set_j37 {p : Program} {l : Launch} {e : Env} {s : State} {m : MethodId} {args : Array Value} {below : List Frame} {meth : Method} {c : Code} {E : En} {r : Int32} {Y : Mem} (C : Cx p s m args meth c c_Model_set 5 "TideLoansModel" (some .int) E) {x1 : Int32} {x2 : Int32} {x3 : Int32} {X : Mem} (h : f_Model_set_j37 x1 x2 x3 X = some (r, Y)) {H : Heap} {locs : List Loc} (hS : Hs E s.heap X H locs) {ls : Array Slot} (hl : lv_has ls 5 [(0, .ref (ad E 70)), (1, .int x1), (2, .int x2), (3, .int x3)]) : W p l e ({ frames := 1, cells := 0, slots := 0, locals := 25 } : Room) s m args below meth c H locs 0 0 (MQ below (PostI E r Y) args s 0 0 (Ad E)) (F0 m 37 ls []) := by
  obtain ⟨hx, hb, hml, hown, hts, hrt, hlk, hKx⟩ := id C
  unfold f_Model_set_j37 at h
  refine lv_iconst (v := 1) hx hb d_Model_set_37 (by decide) ?_
  refine lv_goto (tgt := 42) hx hb d_Model_set_38 (by decide) ?_
  exact k_Model_set_j42 C h hS (lv_sub hl [0, 1, 2, 3] rfl)
set_option maxHeartbeats 4000000 in
set_option maxRecDepth 100000 in
theorem k_Model_set_j20 {p : Program} {l : Launch} {e : Env} {s : State} {m : MethodId} {args : Array Value} {below : List Frame} {meth : Method} {c : Code} {E : En} {r : Int32} {Y : Mem} (C : Cx p s m args meth c c_Model_set 5 "TideLoansModel" (some .int) E) {x1 : Int32} {x2 : Int32} {x3 : Int32} {X : Mem} (h : f_Model_set_j20 x1 x2 x3 X = some (r, Y)) {H : Heap} {locs : List Loc} (hS : Hs E s.heap X H locs) {ls : Array Slot} (hl : lv_has ls 5 [(0, .ref (ad E 70)), (1, .int x1), (2, .int x2), (3, .int x3)]) : W p l e ({ frames := 1, cells := 0, slots := 0, locals := 25 } : Room) s m args below meth c H locs 0 0 (MQ below (PostI E r Y) args s 0 0 (Ad E)) (F0 m 20 ls []) := by
  obtain ⟨hx, hb, hml, hown, hts, hrt, hlk, hKx⟩ := id C
  unfold f_Model_set_j20 at h
  refine lv_iload_n hx hb d_Model_set_20 rfl (lv_at hl 2 rfl) ?_
  refine lv_iconst (v := 3) hx hb d_Model_set_21 (by decide) ?_
  refine r_icmp_ne (tgt := 41) C h d_Model_set_22 (by decide) (fun h => ?_) (fun h => ?_)
  · skip
    exact k_Model_set_j41 C h hS (lv_sub hl [0, 1, 2, 3] rfl)
  · skip
    refine lv_iload_n hx hb d_Model_set_25 rfl (lv_at hl 3 rfl) ?_
    refine lv_i2l hx hb d_Model_set_26 rfl ?_
    refine lv_lconst (v := 0) hx hb d_Model_set_27 (by decide) ?_
    refine lv_ldc2 (v := 9999) hx hb hown (hts _ tw_944) d_Model_set_28 ?_
    obtain ⟨v1, hr2, h⟩ := bd_el h
    refine c_I hS (c_runS (As := [.long (x3.toInt64), .long (0 : Int64), .long (9999 : Int64)]) (rest := []) C hS (k_Model_isIn (l := l) (E := E) (X := X) hr2) cw_Model_isIn ini_Model_isIn sta_Model_isIn tw_851 hd_Model_isIn rfl ⟨⟨rfl, rfl⟩, (Nat.le_of_ble_eq_true rfl), (Nat.le_of_ble_eq_true rfl)⟩ ⟨(Nat.le_of_ble_eq_true rfl), (Nat.le_of_ble_eq_true rfl)⟩ hl.1 rfl (Nat.le_of_ble_eq_true rfl) d_Model_set_31) (fun H locs hS => ?_)
    refine r_if_eq (tgt := 41) C h d_Model_set_34 (by decide) (fun h => ?_) (fun h => ?_)
    · skip
      exact k_Model_set_j41 C h hS (lv_sub hl [0, 1, 2, 3] rfl)
    · skip
      exact k_Model_set_j37 C h hS (lv_sub hl [0, 1, 2, 3] rfl)
set_option maxHeartbeats 4000000 in
set_option maxRecDepth 100000 in
theorem k_Model_set {l : Launch} {E : En} {p1 : Int32} {p2 : Int32} {p3 : Int32} {X : Mem} {r : Int32} {Y : Mem} (h : f_Model_set p1 p2 p3 X = some (r, Y)) : Met l y_Model_set (Cond.code y_Model_set c_Model_set 5 (some .int) :: tb) ({ frames := 1, cells := 0, slots := 0, locals := 25 } : Room) (PreC E [.ref (ad E 70), .int p1, .int p2, .int p3] X) (PostI E r Y) 0 0 (Ad E) := by
  refine met_of (by decide) (Nat.le_of_ble_eq_true rfl) (fun p e s m below meth c C hS ls hl => ?_)
  replace C : Cx p s m ([.ref (ad E 70), .int p1, .int p2, .int p3] : List Value).toArray meth c c_Model_set 5 "TideLoansModel" (some .int) E := C
  replace hl : lv_has ls 5 [(0, .ref (ad E 70)), (1, .int p1), (2, .int p2), (3, .int p3)] := hl
  obtain ⟨hx, hb, hml, hown, hts, hrt, hlk, hKx⟩ := id C
  unfold f_Model_set at h
  refine lv_aload_n hx hb d_Model_set_0 rfl (lv_at hl 0 rfl) ?_
  refine lv_iload_n hx hb d_Model_set_1 rfl (lv_at hl 1 rfl) ?_
  obtain ⟨v1, hr2, h⟩ := bd_el h
  refine c_I hS (c_runV (As := [.int p1]) (rest := []) C hS (by decide) cel_Model (rfl : cls[6]? = some (R_Model, T_Model, 16)) (k_Model_isThing (l := l) (E := E) (X := X) hr2) cw_Model_isThing ini_Model_isThing ins_Model_isThing sel_Model_isThing tw_921 hd_Model_isThing rfl ⟨⟨rfl, rfl⟩, (Nat.le_of_ble_eq_true rfl), (Nat.le_of_ble_eq_true rfl)⟩ ⟨(Nat.le_of_ble_eq_true rfl), (Nat.le_of_ble_eq_true rfl)⟩ hl.1 rfl (Nat.le_of_ble_eq_true rfl) d_Model_set_2) (fun H locs hS => ?_)
  refine r_if_eq (tgt := 41) C h d_Model_set_5 (by decide) (fun h => ?_) (fun h => ?_)
  · skip
    exact k_Model_set_j41 C h hS (lv_sub hl [0, 1, 2, 3] rfl)
  · skip
    refine lv_iload_n hx hb d_Model_set_8 rfl (lv_at hl 2 rfl) ?_
    refine lv_iconst (v := 1) hx hb d_Model_set_9 (by decide) ?_
    refine r_icmp_ne (tgt := 20) C h d_Model_set_10 (by decide) (fun h => ?_) (fun h => ?_)
    · skip
      exact k_Model_set_j20 C h hS (lv_sub hl [0, 1, 2, 3] rfl)
    · skip
      refine lv_iload_n hx hb d_Model_set_13 rfl (lv_at hl 3 rfl) ?_
      obtain ⟨v3, hr4, h⟩ := bd_el h
      refine c_I hS (c_runS (As := [.int p3]) (rest := []) C hS (k_Model_isFamily (l := l) (E := E) (X := X) hr4) cw_Model_isFamily ini_Model_isFamily sta_Model_isFamily tw_900 hd_Model_isFamily rfl ⟨⟨rfl, rfl⟩, (Nat.le_of_ble_eq_true rfl), (Nat.le_of_ble_eq_true rfl)⟩ ⟨(Nat.le_of_ble_eq_true rfl), (Nat.le_of_ble_eq_true rfl)⟩ hl.1 rfl (Nat.le_of_ble_eq_true rfl) d_Model_set_14) (fun H locs hS => ?_)
      refine r_if_ne (tgt := 37) C h d_Model_set_17 (by decide) (fun h => ?_) (fun h => ?_)
      · skip
        exact k_Model_set_j37 C h hS (lv_sub hl [0, 1, 2, 3] rfl)
      · skip
        exact k_Model_set_j20 C h hS (lv_sub hl [0, 1, 2, 3] rfl)
set_option maxHeartbeats 4000000 in
set_option maxRecDepth 100000 in
theorem k_Model_turn_j33 {p : Program} {l : Launch} {e : Env} {s : State} {m : MethodId} {args : Array Value} {below : List Frame} {meth : Method} {c : Code} {E : En} {r : Int32} {Y : Mem} (C : Cx p s m args meth c c_Model_turn 3 "TideLoansModel" (some .int) E) {X : Mem} (h : f_Model_turn_j33 X = some (r, Y)) {H : Heap} {locs : List Loc} (hS : Hs E s.heap X H locs) {ls : Array Slot} (hl : lv_has ls 3 [(0, .ref (ad E 70))]) : W p l e ({ frames := 1, cells := 0, slots := 0, locals := 25 } : Room) s m args below meth c H locs 0 0 (MQ below (PostI E r Y) args s 0 0 (Ad E)) (F0 m 33 ls []) := by
  obtain ⟨hx, hb, hml, hown, hts, hrt, hlk, hKx⟩ := id C
  unfold f_Model_turn_j33 at h
  refine lv_aload_n hx hb d_Model_turn_33 rfl (lv_at hl 0 rfl) ?_
  refine lv_ldc (v := -1000000001) hx hb hown (hts _ tw_858) d_Model_turn_34 ?_
  obtain ⟨v1, X3, hr2, h⟩ := bd2_el h
  refine c_I hS (c_runV (As := [.int (-1000000001 : Int32)]) (rest := []) C hS (by decide) cel_Model (rfl : cls[6]? = some (R_Model, T_Model, 16)) (k_Model_finds (l := l) (E := E) (X := X) hr2) cw_Model_finds ini_Model_finds ins_Model_finds sel_Model_finds tw_859 hd_Model_finds rfl ⟨⟨rfl, rfl⟩, (Nat.le_of_ble_eq_true rfl), (Nat.le_of_ble_eq_true rfl)⟩ ⟨(Nat.le_of_ble_eq_true rfl), (Nat.le_of_ble_eq_true rfl)⟩ hl.1 rfl (Nat.le_of_ble_eq_true rfl) d_Model_turn_36) (fun H locs hS => ?_)
  exact r_iret C hS rfl h d_Model_turn_39
set_option maxHeartbeats 4000000 in
set_option maxRecDepth 100000 in
theorem k_Model_turn {l : Launch} {E : En} {p1 : Int32} {p2 : Int32} {X : Mem} {r : Int32} {Y : Mem} (h : f_Model_turn p1 p2 X = some (r, Y)) : Met l y_Model_turn (Cond.code y_Model_turn c_Model_turn 3 (some .int) :: tb) ({ frames := 1, cells := 0, slots := 0, locals := 25 } : Room) (PreC E [.ref (ad E 70), .int p1, .int p2] X) (PostI E r Y) 0 0 (Ad E) := by
  refine met_of (by decide) (Nat.le_of_ble_eq_true rfl) (fun p e s m below meth c C hS ls hl => ?_)
  replace C : Cx p s m ([.ref (ad E 70), .int p1, .int p2] : List Value).toArray meth c c_Model_turn 3 "TideLoansModel" (some .int) E := C
  replace hl : lv_has ls 3 [(0, .ref (ad E 70)), (1, .int p1), (2, .int p2)] := hl
  obtain ⟨hx, hb, hml, hown, hts, hrt, hlk, hKx⟩ := id C
  unfold f_Model_turn at h
  refine lv_aload_n hx hb d_Model_turn_0 rfl (lv_at hl 0 rfl) ?_
  refine lv_iload_n hx hb d_Model_turn_1 rfl (lv_at hl 1 rfl) ?_
  obtain ⟨v1, hr2, h⟩ := bd_el h
  refine c_I hS (c_runV (As := [.int p1]) (rest := []) C hS (by decide) cel_Model (rfl : cls[6]? = some (R_Model, T_Model, 16)) (k_Model_isThing (l := l) (E := E) (X := X) hr2) cw_Model_isThing ini_Model_isThing ins_Model_isThing sel_Model_isThing tw_921 hd_Model_isThing rfl ⟨⟨rfl, rfl⟩, (Nat.le_of_ble_eq_true rfl), (Nat.le_of_ble_eq_true rfl)⟩ ⟨(Nat.le_of_ble_eq_true rfl), (Nat.le_of_ble_eq_true rfl)⟩ hl.1 rfl (Nat.le_of_ble_eq_true rfl) d_Model_turn_2) (fun H locs hS => ?_)
  refine r_if_eq (tgt := 33) C h d_Model_turn_5 (by decide) (fun h => ?_) (fun h => ?_)
  · skip
    exact k_Model_turn_j33 C h hS (lv_sub hl [0] rfl)
  · skip
    refine lv_iload_n hx hb d_Model_turn_8 rfl (lv_at hl 2 rfl) ?_
    refine lv_i2l hx hb d_Model_turn_9 rfl ?_
    refine lv_lconst (v := 0) hx hb d_Model_turn_10 (by decide) ?_
    refine lv_ldc2 (v := 5) hx hb hown (hts _ tw_908) d_Model_turn_11 ?_
    obtain ⟨v3, hr4, h⟩ := bd_el h
    refine c_I hS (c_runS (As := [.long (p2.toInt64), .long (0 : Int64), .long (5 : Int64)]) (rest := []) C hS (k_Model_isIn (l := l) (E := E) (X := X) hr4) cw_Model_isIn ini_Model_isIn sta_Model_isIn tw_851 hd_Model_isIn rfl ⟨⟨rfl, rfl⟩, (Nat.le_of_ble_eq_true rfl), (Nat.le_of_ble_eq_true rfl)⟩ ⟨(Nat.le_of_ble_eq_true rfl), (Nat.le_of_ble_eq_true rfl)⟩ hl.1 rfl (Nat.le_of_ble_eq_true rfl) d_Model_turn_14) (fun H locs hS => ?_)
    refine r_if_eq (tgt := 33) C h d_Model_turn_17 (by decide) (fun h => ?_) (fun h => ?_)
    · skip
      exact k_Model_turn_j33 C h hS (lv_sub hl [0] rfl)
    · skip
      refine lv_aload_n hx hb d_Model_turn_20 rfl (lv_at hl 0 rfl) ?_
      refine lv_iload_n hx hb d_Model_turn_21 rfl (lv_at hl 1 rfl) ?_
      refine lv_iconst (v := 0) hx hb d_Model_turn_22 (by decide) ?_
      obtain ⟨v5, hr6, h⟩ := bd_el h
      refine c_I hS (c_runS (As := [.int p1, .int (0 : Int32)]) (rest := [.ref (ad E 70)]) C hS (k_Model_at (l := l) (E := E) (X := X) hr6) cw_Model_at ini_Model_at sta_Model_at tw_914 hd_Model_at rfl ⟨⟨rfl, rfl⟩, (Nat.le_of_ble_eq_true rfl), (Nat.le_of_ble_eq_true rfl)⟩ ⟨(Nat.le_of_ble_eq_true rfl), (Nat.le_of_ble_eq_true rfl)⟩ hl.1 rfl (Nat.le_of_ble_eq_true rfl) d_Model_turn_23) (fun H locs hS => ?_)
      refine lv_iload_n hx hb d_Model_turn_26 rfl (lv_at hl 2 rfl) ?_
      obtain ⟨v7, X9, hr8, h⟩ := bd2_el h
      refine c_I hS (c_runV (As := [.int v5, .int p2]) (rest := []) C hS (by decide) cel_Model (rfl : cls[6]? = some (R_Model, T_Model, 16)) (k_Model_becomes (l := l) (E := E) (X := X) hr8) cw_Model_becomes ini_Model_becomes ins_Model_becomes sel_Model_becomes tw_854 hd_Model_becomes rfl ⟨⟨rfl, rfl⟩, (Nat.le_of_ble_eq_true rfl), (Nat.le_of_ble_eq_true rfl)⟩ ⟨(Nat.le_of_ble_eq_true rfl), (Nat.le_of_ble_eq_true rfl)⟩ hl.1 rfl (Nat.le_of_ble_eq_true rfl) d_Model_turn_27) (fun H locs hS => ?_)
      refine lv_goto (tgt := 39) hx hb d_Model_turn_30 (by decide) ?_
      exact r_iret C hS rfl h d_Model_turn_39
set_option maxHeartbeats 4000000 in
set_option maxRecDepth 100000 in
theorem k_Model_as_j68 {p : Program} {l : Launch} {e : Env} {s : State} {m : MethodId} {args : Array Value} {below : List Frame} {meth : Method} {c : Code} {E : En} {r : Int32} {Y : Mem} (C : Cx p s m args meth c c_Model_as 5 "TideLoansModel" (some .int) E) {x1 : Int32} {q0 : Int32} {X : Mem} (h : f_Model_as_j68 x1 q0 X = some (r, Y)) {H : Heap} {locs : List Loc} (hS : Hs E s.heap X H locs) {ls : Array Slot} (hl : lv_has ls 5 [(0, .ref (ad E 70)), (1, .int x1)]) : W p l e ({ frames := 1, cells := 0, slots := 0, locals := 25 } : Room) s m args below meth c H locs 0 0 (MQ below (PostI E r Y) args s 0 0 (Ad E)) (F0 m 68 ls [.int q0]) := by
  obtain ⟨hx, hb, hml, hown, hts, hrt, hlk, hKx⟩ := id C
  unfold f_Model_as_j68 at h
  refine lv_istore (lv' := [(4, .int q0), (0, .ref (ad E 70)), (1, .int x1)]) hx hb d_Model_as_68 hl (by decide) rfl (fun ls hl => ?_)
  refine lv_iload hx hb d_Model_as_70 (lv_at hl 0 rfl) ?_
  refine r_if_eq (tgt := 84) C h d_Model_as_72 (by decide) (fun h => ?_) (fun h => ?_)
  · skip
    refine lv_aload_n hx hb d_Model_as_84 rfl (lv_at hl 1 rfl) ?_
    refine lv_ldc (v := -1000000003) hx hb hown (hts _ tw_953) d_Model_as_85 ?_
    obtain ⟨v1, X3, hr2, h⟩ := bd2_el h
    refine c_I hS (c_runV (As := [.int (-1000000003 : Int32)]) (rest := []) C hS (by decide) cel_Model (rfl : cls[6]? = some (R_Model, T_Model, 16)) (k_Model_finds (l := l) (E := E) (X := X) hr2) cw_Model_finds ini_Model_finds ins_Model_finds sel_Model_finds tw_859 hd_Model_finds rfl ⟨⟨rfl, rfl⟩, (Nat.le_of_ble_eq_true rfl), (Nat.le_of_ble_eq_true rfl)⟩ ⟨(Nat.le_of_ble_eq_true rfl), (Nat.le_of_ble_eq_true rfl)⟩ hl.1 rfl (Nat.le_of_ble_eq_true rfl) d_Model_as_87) (fun H locs hS => ?_)
    exact r_iret C hS rfl h d_Model_as_90
  · skip
    refine lv_aload_n hx hb d_Model_as_75 rfl (lv_at hl 1 rfl) ?_
    refine lv_iload_n hx hb d_Model_as_76 rfl (lv_at hl 2 rfl) ?_
    refine lv_iconst (v := 3) hx hb d_Model_as_77 (by decide) ?_
    obtain ⟨v4, hr5, h⟩ := bd_el h
    refine c_I hS (c_runV (As := [.int x1, .int (3 : Int32)]) (rest := []) C hS (by decide) cel_Model (rfl : cls[6]? = some (R_Model, T_Model, 16)) (k_Model_its (l := l) (E := E) (X := X) hr5) cw_Model_its ini_Model_its ins_Model_its sel_Model_its tw_875 hd_Model_its rfl ⟨⟨rfl, rfl⟩, (Nat.le_of_ble_eq_true rfl), (Nat.le_of_ble_eq_true rfl)⟩ ⟨(Nat.le_of_ble_eq_true rfl), (Nat.le_of_ble_eq_true rfl)⟩ hl.1 rfl (Nat.le_of_ble_eq_true rfl) d_Model_as_78) (fun H locs hS => ?_)
    refine lv_goto (tgt := 90) hx hb d_Model_as_81 (by decide) ?_
    exact r_iret C hS rfl h d_Model_as_90
set_option maxHeartbeats 4000000 in
set_option maxRecDepth 100000 in
theorem k_Model_as_j67 {p : Program} {l : Launch} {e : Env} {s : State} {m : MethodId} {args : Array Value} {below : List Frame} {meth : Method} {c : Code} {E : En} {r : Int32} {Y : Mem} (C : Cx p s m args meth c c_Model_as 5 "TideLoansModel" (some .int) E) {x1 : Int32} {X : Mem} (h : f_Model_as_j67 x1 X = some (r, Y)) {H : Heap} {locs : List Loc} (hS : Hs E s.heap X H locs) {ls : Array Slot} (hl : lv_has ls 5 [(0, .ref (ad E 70)), (1, .int x1)]) : W p l e ({ frames := 1, cells := 0, slots := 0, locals := 25 } : Room) s m args below meth c H locs 0 0 (MQ below (PostI E r Y) args s 0 0 (Ad E)) (F0 m 67 ls []) := by
  obtain ⟨hx, hb, hml, hown, hts, hrt, hlk, hKx⟩ := id C
  unfold f_Model_as_j67 at h
  refine lv_iconst (v := 0) hx hb d_Model_as_67 (by decide) ?_
  exact k_Model_as_j68 C h hS (lv_sub hl [0, 1] rfl)
set_option maxHeartbeats 4000000 in
set_option maxRecDepth 100000 in
theorem k_Model_as_j63 {p : Program} {l : Launch} {e : Env} {s : State} {m : MethodId} {args : Array Value} {below : List Frame} {meth : Method} {c : Code} {E : En} {r : Int32} {Y : Mem} (C : Cx p s m args meth c c_Model_as 5 "TideLoansModel" (some .int) E) {x1 : Int32} {X : Mem} (h : f_Model_as_j63 x1 X = some (r, Y)) {H : Heap} {locs : List Loc} (hS : Hs E s.heap X H locs) {ls : Array Slot} (hl : lv_has ls 5 [(0, .ref (ad E 70)), (1, .int x1)]) : W p l e ({ frames := 1, cells := 0, slots := 0, locals := 25 } : Room) s m args below meth c H locs 0 0 (MQ below (PostI E r Y) args s 0 0 (Ad E)) (F0 m 63 ls []) := by
  obtain ⟨hx, hb, hml, hown, hts, hrt, hlk, hKx⟩ := id C
  unfold f_Model_as_j63 at h
  refine lv_iconst (v := 1) hx hb d_Model_as_63 (by decide) ?_
  refine lv_goto (tgt := 68) hx hb d_Model_as_64 (by decide) ?_
  exact k_Model_as_j68 C h hS (lv_sub hl [0, 1] rfl)
set_option maxHeartbeats 4000000 in
set_option maxRecDepth 100000 in
theorem k_Model_as_j53 {p : Program} {l : Launch} {e : Env} {s : State} {m : MethodId} {args : Array Value} {below : List Frame} {meth : Method} {c : Code} {E : En} {r : Int32} {Y : Mem} (C : Cx p s m args meth c c_Model_as 5 "TideLoansModel" (some .int) E) {x1 : Int32} {x2 : Int32} {x3 : Int32} {X : Mem} (h : f_Model_as_j53 x1 x2 x3 X = some (r, Y)) {H : Heap} {locs : List Loc} (hS : Hs E s.heap X H locs) {ls : Array Slot} (hl : lv_has ls 5 [(0, .ref (ad E 70)), (1, .int x1), (2, .int x2), (3, .int x3)]) : W p l e ({ frames := 1, cells := 0, slots := 0, locals := 25 } : Room) s m args below meth c H locs 0 0 (MQ below (PostI E r Y) args s 0 0 (Ad E)) (F0 m 53 ls []) := by
  obtain ⟨hx, hb, hml, hown, hts, hrt, hlk, hKx⟩ := id C
  unfold f_Model_as_j53 at h
  refine lv_iload_n hx hb d_Model_as_53 rfl (lv_at hl 2 rfl) ?_
  refine lv_iconst (v := 2) hx hb d_Model_as_54 (by decide) ?_
  refine r_icmp_ne (tgt := 67) C h d_Model_as_55 (by decide) (fun h => ?_) (fun h => ?_)
  · skip
    exact k_Model_as_j67 C h hS (lv_sub hl [0, 1] rfl)
  · skip
    refine lv_iload_n hx hb d_Model_as_58 rfl (lv_at hl 3 rfl) ?_
    refine lv_iconst (v := 5) hx hb d_Model_as_59 (by decide) ?_
    refine r_icmp_ne (tgt := 67) C h d_Model_as_60 (by decide) (fun h => ?_) (fun h => ?_)
    · skip
      exact k_Model_as_j67 C h hS (lv_sub hl [0, 1] rfl)
    · skip
      exact k_Model_as_j63 C h hS (lv_sub hl [0, 1] rfl)
set_option maxHeartbeats 4000000 in
set_option maxRecDepth 100000 in
theorem k_Model_as_j20 {p : Program} {l : Launch} {e : Env} {s : State} {m : MethodId} {args : Array Value} {below : List Frame} {meth : Method} {c : Code} {E : En} {r : Int32} {Y : Mem} (C : Cx p s m args meth c c_Model_as 5 "TideLoansModel" (some .int) E) {X : Mem} (h : f_Model_as_j20 X = some (r, Y)) {H : Heap} {locs : List Loc} (hS : Hs E s.heap X H locs) {ls : Array Slot} (hl : lv_has ls 5 [(0, .ref (ad E 70))]) : W p l e ({ frames := 1, cells := 0, slots := 0, locals := 25 } : Room) s m args below meth c H locs 0 0 (MQ below (PostI E r Y) args s 0 0 (Ad E)) (F0 m 20 ls []) := by
  obtain ⟨hx, hb, hml, hown, hts, hrt, hlk, hKx⟩ := id C
  unfold f_Model_as_j20 at h
  refine lv_aload_n hx hb d_Model_as_20 rfl (lv_at hl 0 rfl) ?_
  refine lv_ldc (v := -1000000001) hx hb hown (hts _ tw_858) d_Model_as_21 ?_
  obtain ⟨v1, X3, hr2, h⟩ := bd2_el h
  refine c_I hS (c_runV (As := [.int (-1000000001 : Int32)]) (rest := []) C hS (by decide) cel_Model (rfl : cls[6]? = some (R_Model, T_Model, 16)) (k_Model_finds (l := l) (E := E) (X := X) hr2) cw_Model_finds ini_Model_finds ins_Model_finds sel_Model_finds tw_859 hd_Model_finds rfl ⟨⟨rfl, rfl⟩, (Nat.le_of_ble_eq_true rfl), (Nat.le_of_ble_eq_true rfl)⟩ ⟨(Nat.le_of_ble_eq_true rfl), (Nat.le_of_ble_eq_true rfl)⟩ hl.1 rfl (Nat.le_of_ble_eq_true rfl) d_Model_as_23) (fun H locs hS => ?_)
  exact r_iret C hS rfl h d_Model_as_26
set_option maxHeartbeats 4000000 in
set_option maxRecDepth 100000 in
theorem k_Model_as {l : Launch} {E : En} {p1 : Int32} {p2 : Int32} {X : Mem} {r : Int32} {Y : Mem} (h : f_Model_as p1 p2 X = some (r, Y)) : Met l y_Model_as (Cond.code y_Model_as c_Model_as 5 (some .int) :: tb) ({ frames := 1, cells := 0, slots := 0, locals := 25 } : Room) (PreC E [.ref (ad E 70), .int p1, .int p2] X) (PostI E r Y) 0 0 (Ad E) := by
  refine met_of (by decide) (Nat.le_of_ble_eq_true rfl) (fun p e s m below meth c C hS ls hl => ?_)
  replace C : Cx p s m ([.ref (ad E 70), .int p1, .int p2] : List Value).toArray meth c c_Model_as 5 "TideLoansModel" (some .int) E := C
  replace hl : lv_has ls 5 [(0, .ref (ad E 70)), (1, .int p1), (2, .int p2)] := hl
  obtain ⟨hx, hb, hml, hown, hts, hrt, hlk, hKx⟩ := id C
  unfold f_Model_as at h
  refine lv_aload_n hx hb d_Model_as_0 rfl (lv_at hl 0 rfl) ?_
  refine lv_iload_n hx hb d_Model_as_1 rfl (lv_at hl 1 rfl) ?_
  obtain ⟨v1, hr2, h⟩ := bd_el h
  refine c_I hS (c_runV (As := [.int p1]) (rest := []) C hS (by decide) cel_Model (rfl : cls[6]? = some (R_Model, T_Model, 16)) (k_Model_isThing (l := l) (E := E) (X := X) hr2) cw_Model_isThing ini_Model_isThing ins_Model_isThing sel_Model_isThing tw_921 hd_Model_isThing rfl ⟨⟨rfl, rfl⟩, (Nat.le_of_ble_eq_true rfl), (Nat.le_of_ble_eq_true rfl)⟩ ⟨(Nat.le_of_ble_eq_true rfl), (Nat.le_of_ble_eq_true rfl)⟩ hl.1 rfl (Nat.le_of_ble_eq_true rfl) d_Model_as_2) (fun H locs hS => ?_)
  refine r_if_eq (tgt := 20) C h d_Model_as_5 (by decide) (fun h => ?_) (fun h => ?_)
  · skip
    exact k_Model_as_j20 C h hS (lv_sub hl [0] rfl)
  · skip
    refine lv_iload_n hx hb d_Model_as_8 rfl (lv_at hl 2 rfl) ?_
    refine lv_i2l hx hb d_Model_as_9 rfl ?_
    refine lv_lconst (v := 0) hx hb d_Model_as_10 (by decide) ?_
    refine lv_ldc2 (v := 5) hx hb hown (hts _ tw_908) d_Model_as_11 ?_
    obtain ⟨v3, hr4, h⟩ := bd_el h
    refine c_I hS (c_runS (As := [.long (p2.toInt64), .long (0 : Int64), .long (5 : Int64)]) (rest := []) C hS (k_Model_isIn (l := l) (E := E) (X := X) hr4) cw_Model_isIn ini_Model_isIn sta_Model_isIn tw_851 hd_Model_isIn rfl ⟨⟨rfl, rfl⟩, (Nat.le_of_ble_eq_true rfl), (Nat.le_of_ble_eq_true rfl)⟩ ⟨(Nat.le_of_ble_eq_true rfl), (Nat.le_of_ble_eq_true rfl)⟩ hl.1 rfl (Nat.le_of_ble_eq_true rfl) d_Model_as_14) (fun H locs hS => ?_)
    refine r_if_ne (tgt := 27) C h d_Model_as_17 (by decide) (fun h => ?_) (fun h => ?_)
    · skip
      refine lv_aload_n hx hb d_Model_as_27 rfl (lv_at hl 0 rfl) ?_
      refine lv_iload_n hx hb d_Model_as_28 rfl (lv_at hl 1 rfl) ?_
      refine lv_iconst (v := 0) hx hb d_Model_as_29 (by decide) ?_
      obtain ⟨v5, hr6, h⟩ := bd_el h
      refine c_I hS (c_runV (As := [.int p1, .int (0 : Int32)]) (rest := []) C hS (by decide) cel_Model (rfl : cls[6]? = some (R_Model, T_Model, 16)) (k_Model_its (l := l) (E := E) (X := X) hr6) cw_Model_its ini_Model_its ins_Model_its sel_Model_its tw_875 hd_Model_its rfl ⟨⟨rfl, rfl⟩, (Nat.le_of_ble_eq_true rfl), (Nat.le_of_ble_eq_true rfl)⟩ ⟨(Nat.le_of_ble_eq_true rfl), (Nat.le_of_ble_eq_true rfl)⟩ hl.1 rfl (Nat.le_of_ble_eq_true rfl) d_Model_as_30) (fun H locs hS => ?_)
      refine lv_istore_n (lv' := [(3, .int v5), (0, .ref (ad E 70)), (1, .int p1), (2, .int p2)]) hx hb d_Model_as_33 rfl hl (by decide) rfl (fun ls hl => ?_)
      refine lv_iload_n hx hb d_Model_as_34 rfl (lv_at hl 3 rfl) ?_
      refine r_if_eq (tgt := 63) C h d_Model_as_35 (by decide) (fun h => ?_) (fun h => ?_)
      · skip
        exact k_Model_as_j63 C h hS (lv_sub hl [1, 2] rfl)
      · skip
        refine lv_iload_n hx hb d_Model_as_38 rfl (lv_at hl 0 rfl) ?_
        refine lv_iload_n hx hb d_Model_as_39 rfl (lv_at hl 3 rfl) ?_
        refine r_icmp_eq (tgt := 63) C h d_Model_as_40 (by decide) (fun h => ?_) (fun h => ?_)
        · skip
          exact k_Model_as_j63 C h hS (lv_sub hl [1, 2] rfl)
        · skip
          refine lv_iload_n hx hb d_Model_as_43 rfl (lv_at hl 3 rfl) ?_
          refine lv_iconst (v := 1) hx hb d_Model_as_44 (by decide) ?_
          refine r_icmp_ne (tgt := 53) C h d_Model_as_45 (by decide) (fun h => ?_) (fun h => ?_)
          · skip
            exact k_Model_as_j53 C h hS (lv_sub hl [1, 2, 3, 0] rfl)
          · skip
            refine lv_iload_n hx hb d_Model_as_48 rfl (lv_at hl 0 rfl) ?_
            refine lv_iconst (v := 4) hx hb d_Model_as_49 (by decide) ?_
            refine r_icmp_eq (tgt := 63) C h d_Model_as_50 (by decide) (fun h => ?_) (fun h => ?_)
            · skip
              exact k_Model_as_j63 C h hS (lv_sub hl [1, 2] rfl)
            · skip
              exact k_Model_as_j53 C h hS (lv_sub hl [1, 2, 3, 0] rfl)
    · skip
      exact k_Model_as_j20 C h hS (lv_sub hl [0] rfl)
set_option maxHeartbeats 4000000 in
set_option maxRecDepth 100000 in
theorem k_Model_lies {l : Launch} {E : En} {p1 : Int32} {p2 : Int32} {X : Mem} {Y : Mem} (h : f_Model_lies p1 p2 X = some Y) : Met l y_Model_lies (Cond.code y_Model_lies c_Model_lies 3 none :: tb) ({ frames := 1, cells := 0, slots := 0, locals := 21 } : Room) (PreC E [.ref (ad E 70), .int p1, .int p2] X) (PostV E Y) 0 0 (Ad E) := by
  refine met_of (by decide) (Nat.le_of_ble_eq_true rfl) (fun p e s m below meth c C hS ls hl => ?_)
  replace C : Cx p s m ([.ref (ad E 70), .int p1, .int p2] : List Value).toArray meth c c_Model_lies 3 "TideLoansModel" none E := C
  replace hl : lv_has ls 3 [(0, .ref (ad E 70)), (1, .int p1), (2, .int p2)] := hl
  obtain ⟨hx, hb, hml, hown, hts, hrt, hlk, hKx⟩ := id C
  unfold f_Model_lies at h
  refine lv_aload_n hx hb d_Model_lies_0 rfl (lv_at hl 0 rfl) ?_
  refine r_get C hS (by decide) cel_Model (rfl : cls[6]? = some (R_Model, T_Model, 16)) in_Model 0 (by decide) tw_794 rfl d_Model_lies_1 ?_
  refine lv_iload_n hx hb d_Model_lies_4 rfl (lv_at hl 1 rfl) ?_
  refine lv_iconst (v := 2) hx hb d_Model_lies_5 (by decide) ?_
  obtain ⟨v1, hr2, h⟩ := bd_el h
  refine c_I hS (c_runS (As := [.int p1, .int (2 : Int32)]) (rest := [.ref (ad E 71)]) C hS (k_Model_at (l := l) (E := E) (X := X) hr2) cw_Model_at ini_Model_at sta_Model_at tw_914 hd_Model_at rfl ⟨⟨rfl, rfl⟩, (Nat.le_of_ble_eq_true rfl), (Nat.le_of_ble_eq_true rfl)⟩ ⟨(Nat.le_of_ble_eq_true rfl), (Nat.le_of_ble_eq_true rfl)⟩ hl.1 rfl (Nat.le_of_ble_eq_true rfl) d_Model_lies_6) (fun H locs hS => ?_)
  refine lv_iload_n hx hb d_Model_lies_9 rfl (lv_at hl 2 rfl) ?_
  refine r_stI C hS (n := 83) rfl (by decide) h d_Model_lies_10 (fun X3 H locs hS h => ?_)
  refine lv_aload_n hx hb d_Model_lies_11 rfl (lv_at hl 0 rfl) ?_
  refine r_get C hS (by decide) cel_Model (rfl : cls[6]? = some (R_Model, T_Model, 16)) in_Model 0 (by decide) tw_794 rfl d_Model_lies_12 ?_
  refine lv_iload_n hx hb d_Model_lies_15 rfl (lv_at hl 1 rfl) ?_
  refine lv_iconst (v := 4) hx hb d_Model_lies_16 (by decide) ?_
  obtain ⟨v4, hr5, h⟩ := bd_el h
  refine c_I hS (c_runS (As := [.int p1, .int (4 : Int32)]) (rest := [.ref (ad E 71)]) C hS (k_Model_at (l := l) (E := E) (X := X3) hr5) cw_Model_at ini_Model_at sta_Model_at tw_914 hd_Model_at rfl ⟨⟨rfl, rfl⟩, (Nat.le_of_ble_eq_true rfl), (Nat.le_of_ble_eq_true rfl)⟩ ⟨(Nat.le_of_ble_eq_true rfl), (Nat.le_of_ble_eq_true rfl)⟩ hl.1 rfl (Nat.le_of_ble_eq_true rfl) d_Model_lies_17) (fun H locs hS => ?_)
  refine lv_iconst (v := 1) hx hb d_Model_lies_20 (by decide) ?_
  refine r_stI C hS (n := 83) rfl (by decide) h d_Model_lies_21 (fun X6 H locs hS h => ?_)
  exact r_vret C hS rfl h d_Model_lies_22
set_option maxHeartbeats 4000000 in
set_option maxRecDepth 100000 in
theorem k_Model_lay_j15 {p : Program} {l : Launch} {e : Env} {s : State} {m : MethodId} {args : Array Value} {below : List Frame} {meth : Method} {c : Code} {E : En} {r : Int32} {Y : Mem} (C : Cx p s m args meth c c_Model_lay 3 "TideLoansModel" (some .int) E) {X : Mem} (h : f_Model_lay_j15 X = some (r, Y)) {H : Heap} {locs : List Loc} (hS : Hs E s.heap X H locs) {ls : Array Slot} (hl : lv_has ls 3 [(0, .ref (ad E 70))]) : W p l e ({ frames := 3, cells := 0, slots := 0, locals := 67 } : Room) s m args below meth c H locs 0 0 (MQ below (PostI E r Y) args s 0 0 (Ad E)) (F0 m 15 ls []) := by
  obtain ⟨hx, hb, hml, hown, hts, hrt, hlk, hKx⟩ := id C
  unfold f_Model_lay_j15 at h
  refine lv_aload_n hx hb d_Model_lay_15 rfl (lv_at hl 0 rfl) ?_
  refine lv_ldc (v := -1000000001) hx hb hown (hts _ tw_858) d_Model_lay_16 ?_
  obtain ⟨v1, X3, hr2, h⟩ := bd2_el h
  refine c_I hS (c_runV (As := [.int (-1000000001 : Int32)]) (rest := []) C hS (by decide) cel_Model (rfl : cls[6]? = some (R_Model, T_Model, 16)) (k_Model_finds (l := l) (E := E) (X := X) hr2) cw_Model_finds ini_Model_finds ins_Model_finds sel_Model_finds tw_859 hd_Model_finds rfl ⟨⟨rfl, rfl⟩, (Nat.le_of_ble_eq_true rfl), (Nat.le_of_ble_eq_true rfl)⟩ ⟨(Nat.le_of_ble_eq_true rfl), (Nat.le_of_ble_eq_true rfl)⟩ hl.1 rfl (Nat.le_of_ble_eq_true rfl) d_Model_lay_18) (fun H locs hS => ?_)
  exact r_iret C hS rfl h d_Model_lay_21
set_option maxHeartbeats 4000000 in
set_option maxRecDepth 100000 in
theorem k_Model_lay {l : Launch} {E : En} {p1 : Int32} {p2 : Int32} {X : Mem} {r : Int32} {Y : Mem} (h : f_Model_lay p1 p2 X = some (r, Y)) : Met l y_Model_lay (Cond.code y_Model_lay c_Model_lay 3 (some .int) :: tb) ({ frames := 3, cells := 0, slots := 0, locals := 67 } : Room) (PreC E [.ref (ad E 70), .int p1, .int p2] X) (PostI E r Y) 0 0 (Ad E) := by
  refine met_of (by decide) (Nat.le_of_ble_eq_true rfl) (fun p e s m below meth c C hS ls hl => ?_)
  replace C : Cx p s m ([.ref (ad E 70), .int p1, .int p2] : List Value).toArray meth c c_Model_lay 3 "TideLoansModel" (some .int) E := C
  replace hl : lv_has ls 3 [(0, .ref (ad E 70)), (1, .int p1), (2, .int p2)] := hl
  obtain ⟨hx, hb, hml, hown, hts, hrt, hlk, hKx⟩ := id C
  unfold f_Model_lay at h
  refine lv_aload_n hx hb d_Model_lay_0 rfl (lv_at hl 0 rfl) ?_
  refine lv_iload_n hx hb d_Model_lay_1 rfl (lv_at hl 1 rfl) ?_
  obtain ⟨v1, hr2, h⟩ := bd_el h
  refine c_I hS (c_runV (As := [.int p1]) (rest := []) C hS (by decide) cel_Model (rfl : cls[6]? = some (R_Model, T_Model, 16)) (k_Model_isThing (l := l) (E := E) (X := X) hr2) cw_Model_isThing ini_Model_isThing ins_Model_isThing sel_Model_isThing tw_921 hd_Model_isThing rfl ⟨⟨rfl, rfl⟩, (Nat.le_of_ble_eq_true rfl), (Nat.le_of_ble_eq_true rfl)⟩ ⟨(Nat.le_of_ble_eq_true rfl), (Nat.le_of_ble_eq_true rfl)⟩ hl.1 rfl (Nat.le_of_ble_eq_true rfl) d_Model_lay_2) (fun H locs hS => ?_)
  refine r_if_eq (tgt := 15) C h d_Model_lay_5 (by decide) (fun h => ?_) (fun h => ?_)
  · skip
    exact k_Model_lay_j15 C h hS (lv_sub hl [0] rfl)
  · skip
    refine lv_iload_n hx hb d_Model_lay_8 rfl (lv_at hl 2 rfl) ?_
    obtain ⟨v3, hr4, h⟩ := bd_el h
    refine c_I hS (c_runS (As := [.int p2]) (rest := []) C hS (k_Model_isCell (l := l) (E := E) (X := X) hr4) cw_Model_isCell ini_Model_isCell sta_Model_isCell tw_847 hd_Model_isCell rfl ⟨⟨rfl, rfl⟩, (Nat.le_of_ble_eq_true rfl), (Nat.le_of_ble_eq_true rfl)⟩ ⟨(Nat.le_of_ble_eq_true rfl), (Nat.le_of_ble_eq_true rfl)⟩ hl.1 rfl (Nat.le_of_ble_eq_true rfl) d_Model_lay_9) (fun H locs hS => ?_)
    refine r_if_ne (tgt := 22) C h d_Model_lay_12 (by decide) (fun h => ?_) (fun h => ?_)
    · skip
      refine lv_aload_n hx hb d_Model_lay_22 rfl (lv_at hl 0 rfl) ?_
      refine lv_iload_n hx hb d_Model_lay_23 rfl (lv_at hl 1 rfl) ?_
      refine lv_iconst (v := 2) hx hb d_Model_lay_24 (by decide) ?_
      obtain ⟨v5, hr6, h⟩ := bd_el h
      refine c_I hS (c_runV (As := [.int p1, .int (2 : Int32)]) (rest := []) C hS (by decide) cel_Model (rfl : cls[6]? = some (R_Model, T_Model, 16)) (k_Model_isIt (l := l) (E := E) (X := X) hr6) cw_Model_isIt ini_Model_isIt ins_Model_isIt sel_Model_isIt tw_871 hd_Model_isIt rfl ⟨⟨rfl, rfl⟩, (Nat.le_of_ble_eq_true rfl), (Nat.le_of_ble_eq_true rfl)⟩ ⟨(Nat.le_of_ble_eq_true rfl), (Nat.le_of_ble_eq_true rfl)⟩ hl.1 rfl (Nat.le_of_ble_eq_true rfl) d_Model_lay_25) (fun H locs hS => ?_)
      refine r_if_eq (tgt := 38) C h d_Model_lay_28 (by decide) (fun h => ?_) (fun h => ?_)
      · skip
        refine lv_aload_n hx hb d_Model_lay_38 rfl (lv_at hl 0 rfl) ?_
        refine lv_iload_n hx hb d_Model_lay_39 rfl (lv_at hl 1 rfl) ?_
        refine lv_iload_n hx hb d_Model_lay_40 rfl (lv_at hl 2 rfl) ?_
        obtain ⟨X8, hr7, h⟩ := bd_el h
        refine c_V hS (c_runV (As := [.int p1, .int p2]) (rest := []) C hS (by decide) cel_Model (rfl : cls[6]? = some (R_Model, T_Model, 16)) (k_Model_lies (l := l) (E := E) (X := X) hr7) cw_Model_lies ini_Model_lies ins_Model_lies sel_Model_lies tw_959 hd_Model_lies rfl ⟨⟨rfl, rfl⟩, (Nat.le_of_ble_eq_true rfl), (Nat.le_of_ble_eq_true rfl)⟩ ⟨(Nat.le_of_ble_eq_true rfl), (Nat.le_of_ble_eq_true rfl)⟩ hl.1 rfl (Nat.le_of_ble_eq_true rfl) d_Model_lay_41) (fun H locs hS => ?_)
        refine lv_aload_n hx hb d_Model_lay_44 rfl (lv_at hl 0 rfl) ?_
        refine lv_iload_n hx hb d_Model_lay_45 rfl (lv_at hl 2 rfl) ?_
        obtain ⟨v9, hr10, h⟩ := bd_el h
        refine c_I hS (c_runV (As := [.int p2]) (rest := []) C hS (by decide) cel_Model (rfl : cls[6]? = some (R_Model, T_Model, 16)) (k_Model_laidAt (l := l) (E := E) (X := X8) hr10) cw_Model_laidAt ini_Model_laidAt ins_Model_laidAt sel_Model_laidAt tw_867 hd_Model_laidAt rfl ⟨⟨rfl, rfl⟩, (Nat.le_of_ble_eq_true rfl), (Nat.le_of_ble_eq_true rfl)⟩ ⟨(Nat.le_of_ble_eq_true rfl), (Nat.le_of_ble_eq_true rfl)⟩ hl.1 rfl (Nat.le_of_ble_eq_true rfl) d_Model_lay_46) (fun H locs hS => ?_)
        obtain ⟨v11, hr12, h⟩ := bd_el h
        refine c_I hS (c_runS (As := [.int v9]) (rest := []) C hS (k_Model_many (l := l) (E := E) (X := X8) hr12) cw_Model_many ini_Model_many sta_Model_many tw_963 hd_Model_many rfl ⟨⟨rfl, rfl⟩, (Nat.le_of_ble_eq_true rfl), (Nat.le_of_ble_eq_true rfl)⟩ ⟨(Nat.le_of_ble_eq_true rfl), (Nat.le_of_ble_eq_true rfl)⟩ hl.1 rfl (Nat.le_of_ble_eq_true rfl) d_Model_lay_49) (fun H locs hS => ?_)
        exact r_iret C hS rfl h d_Model_lay_52
      · skip
        refine lv_aload_n hx hb d_Model_lay_31 rfl (lv_at hl 0 rfl) ?_
        refine lv_ldc (v := -1000000005) hx hb hown (hts _ tw_958) d_Model_lay_32 ?_
        obtain ⟨v13, X15, hr14, h⟩ := bd2_el h
        refine c_I hS (c_runV (As := [.int (-1000000005 : Int32)]) (rest := []) C hS (by decide) cel_Model (rfl : cls[6]? = some (R_Model, T_Model, 16)) (k_Model_finds (l := l) (E := E) (X := X) hr14) cw_Model_finds ini_Model_finds ins_Model_finds sel_Model_finds tw_859 hd_Model_finds rfl ⟨⟨rfl, rfl⟩, (Nat.le_of_ble_eq_true rfl), (Nat.le_of_ble_eq_true rfl)⟩ ⟨(Nat.le_of_ble_eq_true rfl), (Nat.le_of_ble_eq_true rfl)⟩ hl.1 rfl (Nat.le_of_ble_eq_true rfl) d_Model_lay_34) (fun H locs hS => ?_)
        exact r_iret C hS rfl h d_Model_lay_37
    · skip
      exact k_Model_lay_j15 C h hS (lv_sub hl [0] rfl)
set_option maxHeartbeats 4000000 in
set_option maxRecDepth 100000 in
theorem k_Model_fetch {l : Launch} {E : En} {p1 : Int32} {X : Mem} {r : Int32} {Y : Mem} (h : f_Model_fetch p1 X = some (r, Y)) : Met l y_Model_fetch (Cond.code y_Model_fetch c_Model_fetch 2 (some .int) :: tb) ({ frames := 2, cells := 0, slots := 0, locals := 44 } : Room) (PreC E [.ref (ad E 70), .int p1] X) (PostI E r Y) 0 0 (Ad E) := by
  refine met_of (by decide) (Nat.le_of_ble_eq_true rfl) (fun p e s m below meth c C hS ls hl => ?_)
  replace C : Cx p s m ([.ref (ad E 70), .int p1] : List Value).toArray meth c c_Model_fetch 2 "TideLoansModel" (some .int) E := C
  replace hl : lv_has ls 2 [(0, .ref (ad E 70)), (1, .int p1)] := hl
  obtain ⟨hx, hb, hml, hown, hts, hrt, hlk, hKx⟩ := id C
  unfold f_Model_fetch at h
  refine lv_aload_n hx hb d_Model_fetch_0 rfl (lv_at hl 0 rfl) ?_
  refine lv_iload_n hx hb d_Model_fetch_1 rfl (lv_at hl 1 rfl) ?_
  obtain ⟨v1, hr2, h⟩ := bd_el h
  refine c_I hS (c_runV (As := [.int p1]) (rest := []) C hS (by decide) cel_Model (rfl : cls[6]? = some (R_Model, T_Model, 16)) (k_Model_isThing (l := l) (E := E) (X := X) hr2) cw_Model_isThing ini_Model_isThing ins_Model_isThing sel_Model_isThing tw_921 hd_Model_isThing rfl ⟨⟨rfl, rfl⟩, (Nat.le_of_ble_eq_true rfl), (Nat.le_of_ble_eq_true rfl)⟩ ⟨(Nat.le_of_ble_eq_true rfl), (Nat.le_of_ble_eq_true rfl)⟩ hl.1 rfl (Nat.le_of_ble_eq_true rfl) d_Model_fetch_2) (fun H locs hS => ?_)
  refine r_if_ne (tgt := 15) C h d_Model_fetch_5 (by decide) (fun h => ?_) (fun h => ?_)
  · skip
    refine lv_aload_n hx hb d_Model_fetch_15 rfl (lv_at hl 0 rfl) ?_
    refine lv_iload_n hx hb d_Model_fetch_16 rfl (lv_at hl 1 rfl) ?_
    refine lv_iconst (v := 1) hx hb d_Model_fetch_17 (by decide) ?_
    obtain ⟨v3, hr4, h⟩ := bd_el h
    refine c_I hS (c_runV (As := [.int p1, .int (1 : Int32)]) (rest := []) C hS (by decide) cel_Model (rfl : cls[6]? = some (R_Model, T_Model, 16)) (k_Model_isIt (l := l) (E := E) (X := X) hr4) cw_Model_isIt ini_Model_isIt ins_Model_isIt sel_Model_isIt tw_871 hd_Model_isIt rfl ⟨⟨rfl, rfl⟩, (Nat.le_of_ble_eq_true rfl), (Nat.le_of_ble_eq_true rfl)⟩ ⟨(Nat.le_of_ble_eq_true rfl), (Nat.le_of_ble_eq_true rfl)⟩ hl.1 rfl (Nat.le_of_ble_eq_true rfl) d_Model_fetch_18) (fun H locs hS => ?_)
    refine r_if_ne (tgt := 31) C h d_Model_fetch_21 (by decide) (fun h => ?_) (fun h => ?_)
    · skip
      refine lv_aload_n hx hb d_Model_fetch_31 rfl (lv_at hl 0 rfl) ?_
      refine r_get C hS (by decide) cel_Model (rfl : cls[6]? = some (R_Model, T_Model, 16)) in_Model 0 (by decide) tw_794 rfl d_Model_fetch_32 ?_
      refine lv_iload_n hx hb d_Model_fetch_35 rfl (lv_at hl 1 rfl) ?_
      refine lv_iconst (v := 4) hx hb d_Model_fetch_36 (by decide) ?_
      obtain ⟨v5, hr6, h⟩ := bd_el h
      refine c_I hS (c_runS (As := [.int p1, .int (4 : Int32)]) (rest := [.ref (ad E 71)]) C hS (k_Model_at (l := l) (E := E) (X := X) hr6) cw_Model_at ini_Model_at sta_Model_at tw_914 hd_Model_at rfl ⟨⟨rfl, rfl⟩, (Nat.le_of_ble_eq_true rfl), (Nat.le_of_ble_eq_true rfl)⟩ ⟨(Nat.le_of_ble_eq_true rfl), (Nat.le_of_ble_eq_true rfl)⟩ hl.1 rfl (Nat.le_of_ble_eq_true rfl) d_Model_fetch_37) (fun H locs hS => ?_)
      refine lv_iconst (v := 0) hx hb d_Model_fetch_40 (by decide) ?_
      refine r_stI C hS (n := 83) rfl (by decide) h d_Model_fetch_41 (fun X7 H locs hS h => ?_)
      refine lv_aload_n hx hb d_Model_fetch_42 rfl (lv_at hl 0 rfl) ?_
      refine lv_iload_n hx hb d_Model_fetch_43 rfl (lv_at hl 1 rfl) ?_
      refine lv_iconst (v := 2) hx hb d_Model_fetch_44 (by decide) ?_
      obtain ⟨v8, hr9, h⟩ := bd_el h
      refine c_I hS (c_runV (As := [.int p1, .int (2 : Int32)]) (rest := []) C hS (by decide) cel_Model (rfl : cls[6]? = some (R_Model, T_Model, 16)) (k_Model_its (l := l) (E := E) (X := X7) hr9) cw_Model_its ini_Model_its ins_Model_its sel_Model_its tw_875 hd_Model_its rfl ⟨⟨rfl, rfl⟩, (Nat.le_of_ble_eq_true rfl), (Nat.le_of_ble_eq_true rfl)⟩ ⟨(Nat.le_of_ble_eq_true rfl), (Nat.le_of_ble_eq_true rfl)⟩ hl.1 rfl (Nat.le_of_ble_eq_true rfl) d_Model_fetch_45) (fun H locs hS => ?_)
      exact r_iret C hS rfl h d_Model_fetch_48
    · skip
      refine lv_aload_n hx hb d_Model_fetch_24 rfl (lv_at hl 0 rfl) ?_
      refine lv_ldc (v := -1000000005) hx hb hown (hts _ tw_958) d_Model_fetch_25 ?_
      obtain ⟨v10, X12, hr11, h⟩ := bd2_el h
      refine c_I hS (c_runV (As := [.int (-1000000005 : Int32)]) (rest := []) C hS (by decide) cel_Model (rfl : cls[6]? = some (R_Model, T_Model, 16)) (k_Model_finds (l := l) (E := E) (X := X) hr11) cw_Model_finds ini_Model_finds ins_Model_finds sel_Model_finds tw_859 hd_Model_finds rfl ⟨⟨rfl, rfl⟩, (Nat.le_of_ble_eq_true rfl), (Nat.le_of_ble_eq_true rfl)⟩ ⟨(Nat.le_of_ble_eq_true rfl), (Nat.le_of_ble_eq_true rfl)⟩ hl.1 rfl (Nat.le_of_ble_eq_true rfl) d_Model_fetch_27) (fun H locs hS => ?_)
      exact r_iret C hS rfl h d_Model_fetch_30
  · skip
    refine lv_aload_n hx hb d_Model_fetch_8 rfl (lv_at hl 0 rfl) ?_
    refine lv_ldc (v := -1000000001) hx hb hown (hts _ tw_858) d_Model_fetch_9 ?_
    obtain ⟨v13, X15, hr14, h⟩ := bd2_el h
    refine c_I hS (c_runV (As := [.int (-1000000001 : Int32)]) (rest := []) C hS (by decide) cel_Model (rfl : cls[6]? = some (R_Model, T_Model, 16)) (k_Model_finds (l := l) (E := E) (X := X) hr14) cw_Model_finds ini_Model_finds ins_Model_finds sel_Model_finds tw_859 hd_Model_finds rfl ⟨⟨rfl, rfl⟩, (Nat.le_of_ble_eq_true rfl), (Nat.le_of_ble_eq_true rfl)⟩ ⟨(Nat.le_of_ble_eq_true rfl), (Nat.le_of_ble_eq_true rfl)⟩ hl.1 rfl (Nat.le_of_ble_eq_true rfl) d_Model_fetch_11) (fun H locs hS => ?_)
    exact r_iret C hS rfl h d_Model_fetch_14
set_option maxHeartbeats 4000000 in
set_option maxRecDepth 100000 in
theorem k_Model_isTaken_j119 {p : Program} {l : Launch} {e : Env} {s : State} {m : MethodId} {args : Array Value} {below : List Frame} {meth : Method} {c : Code} {E : En} {r : Int32} (C : Cx p s m args meth c c_Model_isTaken 5 "TideLoansModel" (some .boolean) E) {x2 : Int32} {x3 : Int32} {X : Mem} (h : f_Model_isTaken_j119 x2 x3 X = some r) {H : Heap} {locs : List Loc} (hS : Hs E s.heap X H locs) {ls : Array Slot} (hl : lv_has ls 5 [(2, .int x2), (3, .int x3)]) : W p l e ({ frames := 1, cells := 0, slots := 0, locals := 22 } : Room) s m args below meth c H locs 0 0 (MQ below (PostI E r X) args s 0 0 (Ad E)) (F0 m 119 ls []) := by
  obtain ⟨hx, hb, hml, hown, hts, hrt, hlk, hKx⟩ := id C
  unfold f_Model_isTaken_j119 at h
  refine lv_iload_n hx hb d_Model_isTaken_119 rfl (lv_at hl 0 rfl) ?_
  refine lv_iload_n hx hb d_Model_isTaken_120 rfl (lv_at hl 1 rfl) ?_
  refine r_icmp_ge (tgt := 128) C h d_Model_isTaken_121 (by decide) (fun h => ?_) (fun h => ?_)
  · skip
    refine lv_iconst (v := 0) hx hb d_Model_isTaken_128 (by decide) ?_
    exact r_zret0 C hS rfl (Or.inl rfl) h d_Model_isTaken_129
  · skip
    refine lv_iconst (v := 1) hx hb d_Model_isTaken_124 (by decide) ?_
    refine lv_goto (tgt := 129) hx hb d_Model_isTaken_125 (by decide) ?_
    exact r_zret0 C hS rfl (Or.inr rfl) h d_Model_isTaken_129
set_option maxHeartbeats 4000000 in
set_option maxRecDepth 100000 in
theorem k_Model_isTaken_j76 {p : Program} {l : Launch} {e : Env} {s : State} {m : MethodId} {args : Array Value} {below : List Frame} {meth : Method} {c : Code} {E : En} {r : Int32} (C : Cx p s m args meth c c_Model_isTaken 5 "TideLoansModel" (some .boolean) E) {x2 : Int32} {x3 : Int32} {x4 : Int32} {X : Mem} (h : f_Model_isTaken_j76 x2 x3 x4 X = some r) {H : Heap} {locs : List Loc} (hS : Hs E s.heap X H locs) {ls : Array Slot} (hl : lv_has ls 5 [(2, .int x2), (3, .int x3), (4, .int x4)]) : W p l e ({ frames := 1, cells := 0, slots := 0, locals := 22 } : Room) s m args below meth c H locs 0 0 (MQ below (PostI E r X) args s 0 0 (Ad E)) (F0 m 76 ls []) := by
  obtain ⟨hx, hb, hml, hown, hts, hrt, hlk, hKx⟩ := id C
  unfold f_Model_isTaken_j76 at h
  refine lv_iload_n hx hb d_Model_isTaken_76 rfl (lv_at hl 0 rfl) ?_
  refine lv_iload_n hx hb d_Model_isTaken_77 rfl (lv_at hl 1 rfl) ?_
  refine r_icmp_ge (tgt := 90) C h d_Model_isTaken_78 (by decide) (fun h => ?_) (fun h => ?_)
  · skip
    refine lv_iconst (v := 0) hx hb d_Model_isTaken_90 (by decide) ?_
    exact r_zret0 C hS rfl (Or.inl rfl) h d_Model_isTaken_91
  · skip
    refine lv_iload hx hb d_Model_isTaken_81 (lv_at hl 2 rfl) ?_
    refine r_if_ne (tgt := 90) C h d_Model_isTaken_83 (by decide) (fun h => ?_) (fun h => ?_)
    · skip
      refine lv_iconst (v := 0) hx hb d_Model_isTaken_90 (by decide) ?_
      exact r_zret0 C hS rfl (Or.inl rfl) h d_Model_isTaken_91
    · skip
      refine lv_iconst (v := 1) hx hb d_Model_isTaken_86 (by decide) ?_
      refine lv_goto (tgt := 91) hx hb d_Model_isTaken_87 (by decide) ?_
      exact r_zret0 C hS rfl (Or.inr rfl) h d_Model_isTaken_91
set_option maxHeartbeats 4000000 in
set_option maxRecDepth 100000 in
theorem k_Model_isTaken {l : Launch} {E : En} {p1 : Int32} {X : Mem} {r : Int32} (h : f_Model_isTaken p1 X = some r) : Met l y_Model_isTaken (Cond.code y_Model_isTaken c_Model_isTaken 5 (some .boolean) :: tb) ({ frames := 1, cells := 0, slots := 0, locals := 22 } : Room) (PreC E [.ref (ad E 70), .int p1] X) (PostI E r X) 0 0 (Ad E) := by
  refine met_of (by decide) (Nat.le_of_ble_eq_true rfl) (fun p e s m below meth c C hS ls hl => ?_)
  replace C : Cx p s m ([.ref (ad E 70), .int p1] : List Value).toArray meth c c_Model_isTaken 5 "TideLoansModel" (some .boolean) E := C
  replace hl : lv_has ls 5 [(0, .ref (ad E 70)), (1, .int p1)] := hl
  obtain ⟨hx, hb, hml, hown, hts, hrt, hlk, hKx⟩ := id C
  unfold f_Model_isTaken at h
  refine lv_aload_n hx hb d_Model_isTaken_0 rfl (lv_at hl 0 rfl) ?_
  refine r_get C hS (by decide) cel_Model (rfl : cls[6]? = some (R_Model, T_Model, 16)) in_Model 0 (by decide) tw_794 rfl d_Model_isTaken_1 ?_
  refine lv_iconst (v := 3) hx hb d_Model_isTaken_4 (by decide) ?_
  refine lv_aload_n hx hb d_Model_isTaken_5 rfl (lv_at hl 0 rfl) ?_
  refine lv_iload_n hx hb d_Model_isTaken_6 rfl (lv_at hl 1 rfl) ?_
  refine lv_iconst (v := 2) hx hb d_Model_isTaken_7 (by decide) ?_
  obtain ⟨v1, hr2, h⟩ := bd_el h
  refine c_I hS (c_runV (As := [.int p1, .int (2 : Int32)]) (rest := [.int (3 : Int32), .ref (ad E 71)]) C hS (by decide) cel_Model (rfl : cls[6]? = some (R_Model, T_Model, 16)) (k_Model_its (l := l) (E := E) (X := X) hr2) cw_Model_its ini_Model_its ins_Model_its sel_Model_its tw_875 hd_Model_its rfl ⟨⟨rfl, rfl⟩, (Nat.le_of_ble_eq_true rfl), (Nat.le_of_ble_eq_true rfl)⟩ ⟨(Nat.le_of_ble_eq_true rfl), (Nat.le_of_ble_eq_true rfl)⟩ hl.1 rfl (Nat.le_of_ble_eq_true rfl) d_Model_isTaken_8) (fun H locs hS => ?_)
  refine lv_iadd hx hb d_Model_isTaken_11 ?_
  refine r_ldI C hS (n := 83) rfl (by decide) h d_Model_isTaken_12 (fun v3 h => ?_)
  refine lv_istore_n (lv' := [(2, .int v3), (0, .ref (ad E 70)), (1, .int p1)]) hx hb d_Model_isTaken_13 rfl hl (by decide) rfl (fun ls hl => ?_)
  refine lv_aload_n hx hb d_Model_isTaken_14 rfl (lv_at hl 1 rfl) ?_
  refine r_get C hS (by decide) cel_Model (rfl : cls[6]? = some (R_Model, T_Model, 16)) in_Model 0 (by decide) tw_794 rfl d_Model_isTaken_15 ?_
  refine lv_iconst (v := 1) hx hb d_Model_isTaken_18 (by decide) ?_
  refine r_ldI C hS (n := 83) rfl (by decide) h d_Model_isTaken_19 (fun v4 h => ?_)
  obtain ⟨v5, hr6, h⟩ := bd_el h
  refine c_I hS (c_runS (As := [.int v4]) (rest := []) C hS (k_Model_mark (l := l) (E := E) (X := X) hr6) cw_Model_mark ini_Model_mark sta_Model_mark tw_890 hd_Model_mark rfl ⟨⟨rfl, rfl⟩, (Nat.le_of_ble_eq_true rfl), (Nat.le_of_ble_eq_true rfl)⟩ ⟨(Nat.le_of_ble_eq_true rfl), (Nat.le_of_ble_eq_true rfl)⟩ hl.1 rfl (Nat.le_of_ble_eq_true rfl) d_Model_isTaken_20) (fun H locs hS => ?_)
  refine lv_istore_n (lv' := [(3, .int v5), (2, .int v3), (0, .ref (ad E 70)), (1, .int p1)]) hx hb d_Model_isTaken_23 rfl hl (by decide) rfl (fun ls hl => ?_)
  refine lv_aload_n hx hb d_Model_isTaken_24 rfl (lv_at hl 2 rfl) ?_
  refine r_get C hS (by decide) cel_Model (rfl : cls[6]? = some (R_Model, T_Model, 16)) in_Model 0 (by decide) tw_794 rfl d_Model_isTaken_25 ?_
  refine lv_iconst (v := 1) hx hb d_Model_isTaken_28 (by decide) ?_
  refine r_ldI C hS (n := 83) rfl (by decide) h d_Model_isTaken_29 (fun v7 h => ?_)
  obtain ⟨v8, hr9, h⟩ := bd_el h
  refine c_I hS (c_runS (As := [.int v7]) (rest := []) C hS (k_Model_isSpring (l := l) (E := E) (X := X) hr9) cw_Model_isSpring ini_Model_isSpring sta_Model_isSpring tw_893 hd_Model_isSpring rfl ⟨⟨rfl, rfl⟩, (Nat.le_of_ble_eq_true rfl), (Nat.le_of_ble_eq_true rfl)⟩ ⟨(Nat.le_of_ble_eq_true rfl), (Nat.le_of_ble_eq_true rfl)⟩ hl.1 rfl (Nat.le_of_ble_eq_true rfl) d_Model_isTaken_30) (fun H locs hS => ?_)
  refine lv_istore (lv' := [(4, .int v8), (3, .int v5), (2, .int v3), (0, .ref (ad E 70)), (1, .int p1)]) hx hb d_Model_isTaken_33 hl (by decide) rfl (fun ls hl => ?_)
  refine lv_aload_n hx hb d_Model_isTaken_35 rfl (lv_at hl 3 rfl) ?_
  refine lv_iload_n hx hb d_Model_isTaken_36 rfl (lv_at hl 4 rfl) ?_
  refine lv_iconst (v := 0) hx hb d_Model_isTaken_37 (by decide) ?_
  obtain ⟨v10, hr11, h⟩ := bd_el h
  refine c_I hS (c_runV (As := [.int p1, .int (0 : Int32)]) (rest := []) C hS (by decide) cel_Model (rfl : cls[6]? = some (R_Model, T_Model, 16)) (k_Model_its (l := l) (E := E) (X := X) hr11) cw_Model_its ini_Model_its ins_Model_its sel_Model_its tw_875 hd_Model_its rfl ⟨⟨rfl, rfl⟩, (Nat.le_of_ble_eq_true rfl), (Nat.le_of_ble_eq_true rfl)⟩ ⟨(Nat.le_of_ble_eq_true rfl), (Nat.le_of_ble_eq_true rfl)⟩ hl.1 rfl (Nat.le_of_ble_eq_true rfl) d_Model_isTaken_38) (fun H locs hS => ?_)
  refine sw_c (v := 1) (w := 1) (by decide) h (fun hv h => ?_) (fun hn1 h => ?_)
  · refine r_tabIn C hv d_Model_isTaken_41 (by decide) (by decide) rfl (tgt := 76) (by decide) ?_
    exact k_Model_isTaken_j76 C h hS (lv_sub hl [2, 1, 0] rfl)
  refine sw_c (v := 2) (w := 2) (by decide) h (fun hv h => ?_) (fun hn2 h => ?_)
  · refine r_tabIn C hv d_Model_isTaken_41 (by decide) (by decide) rfl (tgt := 92) (by decide) ?_
    refine lv_iload_n hx hb d_Model_isTaken_92 rfl (lv_at hl 2 rfl) ?_
    refine lv_iload_n hx hb d_Model_isTaken_93 rfl (lv_at hl 1 rfl) ?_
    refine r_icmp_gt (tgt := 101) C h d_Model_isTaken_94 (by decide) (fun h => ?_) (fun h => ?_)
    · skip
      refine lv_iconst (v := 0) hx hb d_Model_isTaken_101 (by decide) ?_
      exact r_zret0 C hS rfl (Or.inl rfl) h d_Model_isTaken_102
    · skip
      refine lv_iconst (v := 1) hx hb d_Model_isTaken_97 (by decide) ?_
      refine lv_goto (tgt := 102) hx hb d_Model_isTaken_98 (by decide) ?_
      exact r_zret0 C hS rfl (Or.inr rfl) h d_Model_isTaken_102
  refine sw_c (v := 3) (w := 3) (by decide) h (fun hv h => ?_) (fun hn3 h => ?_)
  · refine r_tabIn C hv d_Model_isTaken_41 (by decide) (by decide) rfl (tgt := 119) (by decide) ?_
    exact k_Model_isTaken_j119 C h hS (lv_sub hl [2, 1] rfl)
  refine sw_c (v := 4) (w := 4) (by decide) h (fun hv h => ?_) (fun hn4 h => ?_)
  · refine r_tabIn C hv d_Model_isTaken_41 (by decide) (by decide) rfl (tgt := 76) (by decide) ?_
    exact k_Model_isTaken_j76 C h hS (lv_sub hl [2, 1, 0] rfl)
  refine sw_c (v := 5) (w := 5) (by decide) h (fun hv h => ?_) (fun hn5 h => ?_)
  · refine r_tabIn C hv d_Model_isTaken_41 (by decide) (by decide) rfl (tgt := 103) (by decide) ?_
    refine lv_iload_n hx hb d_Model_isTaken_103 rfl (lv_at hl 2 rfl) ?_
    refine lv_iload_n hx hb d_Model_isTaken_104 rfl (lv_at hl 1 rfl) ?_
    refine r_icmp_gt (tgt := 117) C h d_Model_isTaken_105 (by decide) (fun h => ?_) (fun h => ?_)
    · skip
      refine lv_iconst (v := 0) hx hb d_Model_isTaken_117 (by decide) ?_
      exact r_zret0 C hS rfl (Or.inl rfl) h d_Model_isTaken_118
    · skip
      refine lv_iload hx hb d_Model_isTaken_108 (lv_at hl 0 rfl) ?_
      refine r_if_eq (tgt := 117) C h d_Model_isTaken_110 (by decide) (fun h => ?_) (fun h => ?_)
      · skip
        refine lv_iconst (v := 0) hx hb d_Model_isTaken_117 (by decide) ?_
        exact r_zret0 C hS rfl (Or.inl rfl) h d_Model_isTaken_118
      · skip
        refine lv_iconst (v := 1) hx hb d_Model_isTaken_113 (by decide) ?_
        refine lv_goto (tgt := 118) hx hb d_Model_isTaken_114 (by decide) ?_
        exact r_zret0 C hS rfl (Or.inr rfl) h d_Model_isTaken_118
  refine lv_tableOut (tgt := 119) hx hb d_Model_isTaken_41 (out_e (k := 6) (out_s (k := 5) (k1 := 6) (out_s (k := 4) (k1 := 5) (out_s (k := 3) (k1 := 4) (out_s (k := 2) (k1 := 3) (out_s (k := 1) (k1 := 2) out_0 hn1 (by decide)) hn2 (by decide)) hn3 (by decide)) hn4 (by decide)) hn5 (by decide)) (by decide)) (by decide) ?_
  exact k_Model_isTaken_j119 C h hS (lv_sub hl [2, 1] rfl)
set_option maxHeartbeats 4000000 in
set_option maxRecDepth 100000 in
theorem k_Model_comesHome_j52 {p : Program} {l : Launch} {e : Env} {s : State} {m : MethodId} {args : Array Value} {below : List Frame} {meth : Method} {c : Code} {E : En} {Y : Mem} (C : Cx p s m args meth c c_Model_comesHome 5 "TideLoansModel" none E) {x1 : Int32} {q0 : Nat} {q1 : Int32} {q2 : Int64} {X : Mem} (hq0 : kd q0 = 1000 + 83) (h : f_Model_comesHome_j52 x1 q0 q1 q2 X = some Y) {H : Heap} {locs : List Loc} (hS : Hs E s.heap X H locs) {ls : Array Slot} (hl : lv_has ls 5 [(0, .ref (ad E 70)), (1, .int x1)]) : W p l e ({ frames := 2, cells := 0, slots := 0, locals := 50 } : Room) s m args below meth c H locs 0 0 (MQ below (PostV E Y) args s 0 0 (Ad E)) (F0 m 52 ls [.long q2, .int q1, .ref (ad E q0)]) := by
  obtain ⟨hx, hb, hml, hown, hts, hrt, hlk, hKx⟩ := id C
  unfold f_Model_comesHome_j52 at h
  refine lv_l2i hx hb d_Model_comesHome_52 rfl ?_
  refine r_stI C hS (n := 83) hq0 (by decide) h d_Model_comesHome_53 (fun X1 H locs hS h => ?_)
  refine lv_aload_n hx hb d_Model_comesHome_54 rfl (lv_at hl 0 rfl) ?_
  refine r_get C hS (by decide) cel_Model (rfl : cls[6]? = some (R_Model, T_Model, 16)) in_Model 0 (by decide) tw_794 rfl d_Model_comesHome_55 ?_
  refine lv_iload_n hx hb d_Model_comesHome_58 rfl (lv_at hl 1 rfl) ?_
  refine lv_iconst (v := 4) hx hb d_Model_comesHome_59 (by decide) ?_
  obtain ⟨v2, hr3, h⟩ := bd_el h
  refine c_I hS (c_runS (As := [.int x1, .int (4 : Int32)]) (rest := [.ref (ad E 71)]) C hS (k_Model_at (l := l) (E := E) (X := X1) hr3) cw_Model_at ini_Model_at sta_Model_at tw_914 hd_Model_at rfl ⟨⟨rfl, rfl⟩, (Nat.le_of_ble_eq_true rfl), (Nat.le_of_ble_eq_true rfl)⟩ ⟨(Nat.le_of_ble_eq_true rfl), (Nat.le_of_ble_eq_true rfl)⟩ hl.1 rfl (Nat.le_of_ble_eq_true rfl) d_Model_comesHome_60) (fun H locs hS => ?_)
  refine lv_iconst (v := 0) hx hb d_Model_comesHome_63 (by decide) ?_
  refine r_stI C hS (n := 83) rfl (by decide) h d_Model_comesHome_64 (fun X4 H locs hS h => ?_)
  exact r_vret C hS rfl h d_Model_comesHome_65
set_option maxHeartbeats 4000000 in
set_option maxRecDepth 100000 in
theorem k_Model_comesHome {l : Launch} {E : En} {p1 : Int32} {p2 : Int32} {X : Mem} {Y : Mem} (h : f_Model_comesHome p1 p2 X = some Y) : Met l y_Model_comesHome (Cond.code y_Model_comesHome c_Model_comesHome 5 none :: tb) ({ frames := 2, cells := 0, slots := 0, locals := 50 } : Room) (PreC E [.ref (ad E 70), .int p1, .int p2] X) (PostV E Y) 0 0 (Ad E) := by
  refine met_of (by decide) (Nat.le_of_ble_eq_true rfl) (fun p e s m below meth c C hS ls hl => ?_)
  replace C : Cx p s m ([.ref (ad E 70), .int p1, .int p2] : List Value).toArray meth c c_Model_comesHome 5 "TideLoansModel" none E := C
  replace hl : lv_has ls 5 [(0, .ref (ad E 70)), (1, .int p1), (2, .int p2)] := hl
  obtain ⟨hx, hb, hml, hown, hts, hrt, hlk, hKx⟩ := id C
  unfold f_Model_comesHome at h
  refine lv_aload_n hx hb d_Model_comesHome_0 rfl (lv_at hl 0 rfl) ?_
  refine r_get C hS (by decide) cel_Model (rfl : cls[6]? = some (R_Model, T_Model, 16)) in_Model 0 (by decide) tw_794 rfl d_Model_comesHome_1 ?_
  refine lv_bipush (v := 19) hx hb d_Model_comesHome_4 (by decide) ?_
  refine lv_aload_n hx hb d_Model_comesHome_6 rfl (lv_at hl 0 rfl) ?_
  refine lv_iload_n hx hb d_Model_comesHome_7 rfl (lv_at hl 1 rfl) ?_
  refine lv_iconst (v := 1) hx hb d_Model_comesHome_8 (by decide) ?_
  obtain ⟨v1, hr2, h⟩ := bd_el h
  refine c_I hS (c_runV (As := [.int p1, .int (1 : Int32)]) (rest := [.int (19 : Int32), .ref (ad E 71)]) C hS (by decide) cel_Model (rfl : cls[6]? = some (R_Model, T_Model, 16)) (k_Model_its (l := l) (E := E) (X := X) hr2) cw_Model_its ini_Model_its ins_Model_its sel_Model_its tw_875 hd_Model_its rfl ⟨⟨rfl, rfl⟩, (Nat.le_of_ble_eq_true rfl), (Nat.le_of_ble_eq_true rfl)⟩ ⟨(Nat.le_of_ble_eq_true rfl), (Nat.le_of_ble_eq_true rfl)⟩ hl.1 rfl (Nat.le_of_ble_eq_true rfl) d_Model_comesHome_9) (fun H locs hS => ?_)
  refine lv_iadd hx hb d_Model_comesHome_12 ?_
  refine r_ldI C hS (n := 83) rfl (by decide) h d_Model_comesHome_13 (fun v3 h => ?_)
  refine lv_i2l hx hb d_Model_comesHome_14 rfl ?_
  refine lv_aload_n hx hb d_Model_comesHome_15 rfl (lv_at hl 0 rfl) ?_
  refine lv_iload_n hx hb d_Model_comesHome_16 rfl (lv_at hl 1 rfl) ?_
  refine lv_iload_n hx hb d_Model_comesHome_17 rfl (lv_at hl 2 rfl) ?_
  obtain ⟨v4, hr5, h⟩ := bd_el h
  refine c_I hS (c_runV (As := [.int p1, .int p2]) (rest := [.long (v3.toInt64)]) C hS (by decide) cel_Model (rfl : cls[6]? = some (R_Model, T_Model, 16)) (k_Model_repays (l := l) (E := E) (X := X) hr5) cw_Model_repays ini_Model_repays ins_Model_repays sel_Model_repays tw_933 hd_Model_repays rfl ⟨⟨rfl, rfl⟩, (Nat.le_of_ble_eq_true rfl), (Nat.le_of_ble_eq_true rfl)⟩ ⟨(Nat.le_of_ble_eq_true rfl), (Nat.le_of_ble_eq_true rfl)⟩ hl.1 rfl (Nat.le_of_ble_eq_true rfl) d_Model_comesHome_18) (fun H locs hS => ?_)
  refine lv_i2l hx hb d_Model_comesHome_21 rfl ?_
  refine lv_ladd hx hb d_Model_comesHome_22 ?_
  refine r_topL h (fun v6 h => ?_)
  refine lv_lstore_n (lv' := [(3, .long v6), (0, .ref (ad E 70)), (1, .int p1), (2, .int p2)]) hx hb d_Model_comesHome_23 rfl hl (by decide) rfl (fun ls hl => ?_)
  refine lv_aload_n hx hb d_Model_comesHome_24 rfl (lv_at hl 1 rfl) ?_
  refine r_get C hS (by decide) cel_Model (rfl : cls[6]? = some (R_Model, T_Model, 16)) in_Model 0 (by decide) tw_794 rfl d_Model_comesHome_25 ?_
  refine lv_bipush (v := 19) hx hb d_Model_comesHome_28 (by decide) ?_
  refine lv_aload_n hx hb d_Model_comesHome_30 rfl (lv_at hl 1 rfl) ?_
  refine lv_iload_n hx hb d_Model_comesHome_31 rfl (lv_at hl 2 rfl) ?_
  refine lv_iconst (v := 1) hx hb d_Model_comesHome_32 (by decide) ?_
  obtain ⟨v7, hr8, h⟩ := bd_el h
  refine c_I hS (c_runV (As := [.int p1, .int (1 : Int32)]) (rest := [.int (19 : Int32), .ref (ad E 71)]) C hS (by decide) cel_Model (rfl : cls[6]? = some (R_Model, T_Model, 16)) (k_Model_its (l := l) (E := E) (X := X) hr8) cw_Model_its ini_Model_its ins_Model_its sel_Model_its tw_875 hd_Model_its rfl ⟨⟨rfl, rfl⟩, (Nat.le_of_ble_eq_true rfl), (Nat.le_of_ble_eq_true rfl)⟩ ⟨(Nat.le_of_ble_eq_true rfl), (Nat.le_of_ble_eq_true rfl)⟩ hl.1 rfl (Nat.le_of_ble_eq_true rfl) d_Model_comesHome_33) (fun H locs hS => ?_)
  refine lv_iadd hx hb d_Model_comesHome_36 ?_
  refine lv_lload_n hx hb d_Model_comesHome_37 rfl (lv_at hl 0 rfl) ?_
  refine lv_ldc2 (v := 999999999) hx hb hown (hts _ tw_903) d_Model_comesHome_38 ?_
  refine W.lcmp hx hb d_Model_comesHome_41 ?_
  refine r_if_le (tgt := 51) C h d_Model_comesHome_42 (by decide) (fun h => ?_) (fun h => ?_)
  · skip
    refine lv_lload_n hx hb d_Model_comesHome_51 rfl (lv_at hl 0 rfl) ?_
    exact k_Model_comesHome_j52 C rfl h hS (lv_sub hl [1, 2] rfl)
  · skip
    refine lv_ldc2 (v := 999999999) hx hb hown (hts _ tw_903) d_Model_comesHome_45 ?_
    refine lv_goto (tgt := 52) hx hb d_Model_comesHome_48 (by decide) ?_
    exact k_Model_comesHome_j52 C rfl h hS (lv_sub hl [1, 2] rfl)
def I_Model_day_b2 (p : Program) (l : Launch) (e : Env) (s : State) (m : MethodId) (args : Array Value) (below : List Frame) (meth : Method) (c : Code) (E : En) (Y : Mem) (n : Nat) (tg : Mem) : Prop := ∀ (x1 : Int32) (X : Mem) (H : Heap) (locs : List Loc) (ls : Array Slot), it (fun a => f_Model_day_b2 a.1 a.2) n (x1, X) = some tg → Hs E s.heap X H locs → lv_has ls 3 [(0, .ref (ad E 70)), (1, .int x1)] → W p l e ({ frames := 3, cells := 0, slots := 0, locals := 74 } : Room) s m args below meth c H locs 0 0 (MQ below (PostV E Y) args s 0 0 (Ad E)) (F0 m 2 ls [])
set_option maxHeartbeats 4000000 in
set_option maxRecDepth 100000 in
theorem k_Model_day_j113 {p : Program} {l : Launch} {e : Env} {s : State} {m : MethodId} {args : Array Value} {below : List Frame} {meth : Method} {c : Code} {E : En} {Y : Mem} (C : Cx p s m args meth c c_Model_day 3 "TideLoansModel" none E) {x1 : Int32} {X : Mem} {tg : (Mem ⊕ (Int32 × Mem))} {n2 : Nat} (hc2 : fin (fun a => f_Model_day_b2 a.1 a.2) n2 Y tg) (ih2 : I_Model_day_b2 p l e s m args below meth c E Y n2 Y) (h : f_Model_day_j113 x1 X = some tg) {H : Heap} {locs : List Loc} (hS : Hs E s.heap X H locs) {ls : Array Slot} (hl : lv_has ls 3 [(0, .ref (ad E 70)), (1, .int x1)]) : W p l e ({ frames := 3, cells := 0, slots := 0, locals := 74 } : Room) s m args below meth c H locs 0 0 (MQ below (PostV E Y) args s 0 0 (Ad E)) (F0 m 113 ls []) := by
  obtain ⟨hx, hb, hml, hown, hts, hrt, hlk, hKx⟩ := id C
  unfold f_Model_day_j113 at h
  refine r_iinc C (w := 1) (lv' := fun z => [(1, .int z), (0, .ref (ad E 70))]) h d_Model_day_113 hl (k := 1) rfl (by decide) (by decide) (fun _ => rfl) (fun v1 ls h hl => ?_)
  refine lv_goto (tgt := 2) hx hb d_Model_day_116 (by decide) ?_
  exact ih2 _ _ _ _ _ (lp_next h hc2) hS (lv_sub hl [1, 0] rfl)
set_option maxHeartbeats 4000000 in
set_option maxRecDepth 100000 in
theorem k_Model_day_b2 {p : Program} {l : Launch} {e : Env} {s : State} {m : MethodId} {args : Array Value} {below : List Frame} {meth : Method} {c : Code} {E : En} {Y : Mem} (C : Cx p s m args meth c c_Model_day 3 "TideLoansModel" none E) : ∀ n, I_Model_day_b2 p l e s m args below meth c E Y n Y := by
  obtain ⟨hx, hb, hml, hown, hts, hrt, hlk, hKx⟩ := id C
  intro n
  induction n with
  | zero => intro x1 X H locs ls h; exact it_0 h
  | succ n ih =>
    intro x1 X H locs ls h hS hl
    obtain ⟨cc2, h, hc2⟩ := it_el h
    replace h : f_Model_day_b2 x1 X = some cc2 := h
    unfold f_Model_day_b2 at h
    refine lv_iload_n hx hb d_Model_day_2 rfl (lv_at hl 1 rfl) ?_
    refine lv_aload_n hx hb d_Model_day_3 rfl (lv_at hl 0 rfl) ?_
    refine r_get C hS (by decide) cel_Model (rfl : cls[6]? = some (R_Model, T_Model, 16)) in_Model 0 (by decide) tw_794 rfl d_Model_day_4 ?_
    refine lv_iconst (v := 0) hx hb d_Model_day_7 (by decide) ?_
    refine r_ldI C hS (n := 83) rfl (by decide) h d_Model_day_8 (fun v1 h => ?_)
    refine r_icmp_ge (tgt := 119) C h d_Model_day_9 (by decide) (fun h => ?_) (fun h => ?_)
    · skip
      refine lv_aload_n hx hb d_Model_day_119 rfl (lv_at hl 0 rfl) ?_
      refine r_get C hS (by decide) cel_Model (rfl : cls[6]? = some (R_Model, T_Model, 16)) in_Model 0 (by decide) tw_794 rfl d_Model_day_120 ?_
      refine lv_iconst (v := 1) hx hb d_Model_day_123 (by decide) ?_
      refine lv_dup2_11 hx hb d_Model_day_124 rfl rfl ?_
      refine r_ldI C hS (n := 83) rfl (by decide) h d_Model_day_125 (fun v2 h => ?_)
      refine lv_iconst (v := 1) hx hb d_Model_day_126 (by decide) ?_
      refine lv_iadd hx hb d_Model_day_127 ?_
      refine r_stI C hS (n := 83) rfl (by decide) h d_Model_day_128 (fun X3 H locs hS h => ?_)
      replace h := lp_ret h hc2
      exact r_vret C hS rfl h d_Model_day_129
    · skip
      refine lv_aload_n hx hb d_Model_day_12 rfl (lv_at hl 0 rfl) ?_
      refine r_get C hS (by decide) cel_Model (rfl : cls[6]? = some (R_Model, T_Model, 16)) in_Model 0 (by decide) tw_794 rfl d_Model_day_13 ?_
      refine lv_iconst (v := 1) hx hb d_Model_day_16 (by decide) ?_
      refine r_ldI C hS (n := 83) rfl (by decide) h d_Model_day_17 (fun v4 h => ?_)
      refine lv_aload_n hx hb d_Model_day_18 rfl (lv_at hl 0 rfl) ?_
      refine lv_iload_n hx hb d_Model_day_19 rfl (lv_at hl 1 rfl) ?_
      refine lv_iconst (v := 5) hx hb d_Model_day_20 (by decide) ?_
      obtain ⟨v5, hr6, h⟩ := bd_el h
      refine c_I hS (c_runV (As := [.int x1, .int (5 : Int32)]) (rest := [.int v4]) C hS (by decide) cel_Model (rfl : cls[6]? = some (R_Model, T_Model, 16)) (k_Model_its (l := l) (E := E) (X := X) hr6) cw_Model_its ini_Model_its ins_Model_its sel_Model_its tw_875 hd_Model_its rfl ⟨⟨rfl, rfl⟩, (Nat.le_of_ble_eq_true rfl), (Nat.le_of_ble_eq_true rfl)⟩ ⟨(Nat.le_of_ble_eq_true rfl), (Nat.le_of_ble_eq_true rfl)⟩ hl.1 rfl (Nat.le_of_ble_eq_true rfl) d_Model_day_21) (fun H locs hS => ?_)
      refine lv_isub hx hb d_Model_day_24 ?_
      refine r_top h (fun v7 h => ?_)
      refine lv_istore_n (lv' := [(2, .int v7), (0, .ref (ad E 70)), (1, .int x1)]) hx hb d_Model_day_25 rfl hl (by decide) rfl (fun ls hl => ?_)
      refine lv_aload_n hx hb d_Model_day_26 rfl (lv_at hl 1 rfl) ?_
      refine lv_iload_n hx hb d_Model_day_27 rfl (lv_at hl 2 rfl) ?_
      refine lv_iconst (v := 2) hx hb d_Model_day_28 (by decide) ?_
      obtain ⟨v8, hr9, h⟩ := bd_el h
      refine c_I hS (c_runV (As := [.int x1, .int (2 : Int32)]) (rest := []) C hS (by decide) cel_Model (rfl : cls[6]? = some (R_Model, T_Model, 16)) (k_Model_isIt (l := l) (E := E) (X := X) hr9) cw_Model_isIt ini_Model_isIt ins_Model_isIt sel_Model_isIt tw_871 hd_Model_isIt rfl ⟨⟨rfl, rfl⟩, (Nat.le_of_ble_eq_true rfl), (Nat.le_of_ble_eq_true rfl)⟩ ⟨(Nat.le_of_ble_eq_true rfl), (Nat.le_of_ble_eq_true rfl)⟩ hl.1 rfl (Nat.le_of_ble_eq_true rfl) d_Model_day_29) (fun H locs hS => ?_)
      refine r_if_eq (tgt := 69) C h d_Model_day_32 (by decide) (fun h => ?_) (fun h => ?_)
      · skip
        refine lv_aload_n hx hb d_Model_day_69 rfl (lv_at hl 1 rfl) ?_
        refine lv_iload_n hx hb d_Model_day_70 rfl (lv_at hl 2 rfl) ?_
        refine lv_iconst (v := 1) hx hb d_Model_day_71 (by decide) ?_
        obtain ⟨v10, hr11, h⟩ := bd_el h
        refine c_I hS (c_runV (As := [.int x1, .int (1 : Int32)]) (rest := []) C hS (by decide) cel_Model (rfl : cls[6]? = some (R_Model, T_Model, 16)) (k_Model_isIt (l := l) (E := E) (X := X) hr11) cw_Model_isIt ini_Model_isIt ins_Model_isIt sel_Model_isIt tw_871 hd_Model_isIt rfl ⟨⟨rfl, rfl⟩, (Nat.le_of_ble_eq_true rfl), (Nat.le_of_ble_eq_true rfl)⟩ ⟨(Nat.le_of_ble_eq_true rfl), (Nat.le_of_ble_eq_true rfl)⟩ hl.1 rfl (Nat.le_of_ble_eq_true rfl) d_Model_day_72) (fun H locs hS => ?_)
        refine r_if_eq (tgt := 113) C h d_Model_day_75 (by decide) (fun h => ?_) (fun h => ?_)
        · skip
          exact k_Model_day_j113 C hc2 ih h hS (lv_sub hl [1, 2] rfl)
        · skip
          refine lv_aload_n hx hb d_Model_day_78 rfl (lv_at hl 1 rfl) ?_
          refine lv_iload_n hx hb d_Model_day_79 rfl (lv_at hl 2 rfl) ?_
          obtain ⟨v12, hr13, h⟩ := bd_el h
          refine c_I hS (c_runV (As := [.int x1]) (rest := []) C hS (by decide) cel_Model (rfl : cls[6]? = some (R_Model, T_Model, 16)) (k_Model_isTaken (l := l) (E := E) (X := X) hr13) cw_Model_isTaken ini_Model_isTaken ins_Model_isTaken sel_Model_isTaken tw_988 hd_Model_isTaken rfl ⟨⟨rfl, rfl⟩, (Nat.le_of_ble_eq_true rfl), (Nat.le_of_ble_eq_true rfl)⟩ ⟨(Nat.le_of_ble_eq_true rfl), (Nat.le_of_ble_eq_true rfl)⟩ hl.1 rfl (Nat.le_of_ble_eq_true rfl) d_Model_day_80) (fun H locs hS => ?_)
          refine r_if_eq (tgt := 113) C h d_Model_day_83 (by decide) (fun h => ?_) (fun h => ?_)
          · skip
            exact k_Model_day_j113 C hc2 ih h hS (lv_sub hl [1, 2] rfl)
          · skip
            refine lv_aload_n hx hb d_Model_day_86 rfl (lv_at hl 1 rfl) ?_
            refine r_get C hS (by decide) cel_Model (rfl : cls[6]? = some (R_Model, T_Model, 16)) in_Model 0 (by decide) tw_794 rfl d_Model_day_87 ?_
            refine lv_iload_n hx hb d_Model_day_90 rfl (lv_at hl 2 rfl) ?_
            refine lv_iconst (v := 4) hx hb d_Model_day_91 (by decide) ?_
            obtain ⟨v14, hr15, h⟩ := bd_el h
            refine c_I hS (c_runS (As := [.int x1, .int (4 : Int32)]) (rest := [.ref (ad E 71)]) C hS (k_Model_at (l := l) (E := E) (X := X) hr15) cw_Model_at ini_Model_at sta_Model_at tw_914 hd_Model_at rfl ⟨⟨rfl, rfl⟩, (Nat.le_of_ble_eq_true rfl), (Nat.le_of_ble_eq_true rfl)⟩ ⟨(Nat.le_of_ble_eq_true rfl), (Nat.le_of_ble_eq_true rfl)⟩ hl.1 rfl (Nat.le_of_ble_eq_true rfl) d_Model_day_92) (fun H locs hS => ?_)
            refine lv_iconst (v := 2) hx hb d_Model_day_95 (by decide) ?_
            refine r_stI C hS (n := 83) rfl (by decide) h d_Model_day_96 (fun X16 H locs hS h => ?_)
            refine lv_aload_n hx hb d_Model_day_97 rfl (lv_at hl 1 rfl) ?_
            refine r_get C hS (by decide) cel_Model (rfl : cls[6]? = some (R_Model, T_Model, 16)) in_Model 0 (by decide) tw_794 rfl d_Model_day_98 ?_
            refine lv_iload_n hx hb d_Model_day_101 rfl (lv_at hl 2 rfl) ?_
            refine lv_iconst (v := 5) hx hb d_Model_day_102 (by decide) ?_
            obtain ⟨v17, hr18, h⟩ := bd_el h
            refine c_I hS (c_runS (As := [.int x1, .int (5 : Int32)]) (rest := [.ref (ad E 71)]) C hS (k_Model_at (l := l) (E := E) (X := X16) hr18) cw_Model_at ini_Model_at sta_Model_at tw_914 hd_Model_at rfl ⟨⟨rfl, rfl⟩, (Nat.le_of_ble_eq_true rfl), (Nat.le_of_ble_eq_true rfl)⟩ ⟨(Nat.le_of_ble_eq_true rfl), (Nat.le_of_ble_eq_true rfl)⟩ hl.1 rfl (Nat.le_of_ble_eq_true rfl) d_Model_day_103) (fun H locs hS => ?_)
            refine lv_aload_n hx hb d_Model_day_106 rfl (lv_at hl 1 rfl) ?_
            refine r_get C hS (by decide) cel_Model (rfl : cls[6]? = some (R_Model, T_Model, 16)) in_Model 0 (by decide) tw_794 rfl d_Model_day_107 ?_
            refine lv_iconst (v := 1) hx hb d_Model_day_110 (by decide) ?_
            refine r_ldI C hS (n := 83) rfl (by decide) h d_Model_day_111 (fun v19 h => ?_)
            refine r_stI C hS (n := 83) rfl (by decide) h d_Model_day_112 (fun X20 H locs hS h => ?_)
            exact k_Model_day_j113 C hc2 ih h hS (lv_sub hl [1, 2] rfl)
      · skip
        refine lv_aload_n hx hb d_Model_day_35 rfl (lv_at hl 1 rfl) ?_
        refine r_get C hS (by decide) cel_Model (rfl : cls[6]? = some (R_Model, T_Model, 16)) in_Model 0 (by decide) tw_794 rfl d_Model_day_36 ?_
        refine lv_iconst (v := 1) hx hb d_Model_day_39 (by decide) ?_
        refine r_ldI C hS (n := 83) rfl (by decide) h d_Model_day_40 (fun v21 h => ?_)
        obtain ⟨v22, hr23, h⟩ := bd_el h
        refine c_I hS (c_runS (As := [.int v21]) (rest := []) C hS (k_Model_isSpring (l := l) (E := E) (X := X) hr23) cw_Model_isSpring ini_Model_isSpring sta_Model_isSpring tw_893 hd_Model_isSpring rfl ⟨⟨rfl, rfl⟩, (Nat.le_of_ble_eq_true rfl), (Nat.le_of_ble_eq_true rfl)⟩ ⟨(Nat.le_of_ble_eq_true rfl), (Nat.le_of_ble_eq_true rfl)⟩ hl.1 rfl (Nat.le_of_ble_eq_true rfl) d_Model_day_41) (fun H locs hS => ?_)
        refine r_if_eq (tgt := 113) C h d_Model_day_44 (by decide) (fun h => ?_) (fun h => ?_)
        · skip
          exact k_Model_day_j113 C hc2 ih h hS (lv_sub hl [1, 2] rfl)
        · skip
          refine lv_iload_n hx hb d_Model_day_47 rfl (lv_at hl 0 rfl) ?_
          refine lv_aload_n hx hb d_Model_day_48 rfl (lv_at hl 1 rfl) ?_
          refine lv_iload_n hx hb d_Model_day_49 rfl (lv_at hl 2 rfl) ?_
          refine lv_iconst (v := 0) hx hb d_Model_day_50 (by decide) ?_
          obtain ⟨v24, hr25, h⟩ := bd_el h
          refine c_I hS (c_runV (As := [.int x1, .int (0 : Int32)]) (rest := [.int v7]) C hS (by decide) cel_Model (rfl : cls[6]? = some (R_Model, T_Model, 16)) (k_Model_its (l := l) (E := E) (X := X) hr25) cw_Model_its ini_Model_its ins_Model_its sel_Model_its tw_875 hd_Model_its rfl ⟨⟨rfl, rfl⟩, (Nat.le_of_ble_eq_true rfl), (Nat.le_of_ble_eq_true rfl)⟩ ⟨(Nat.le_of_ble_eq_true rfl), (Nat.le_of_ble_eq_true rfl)⟩ hl.1 rfl (Nat.le_of_ble_eq_true rfl) d_Model_day_51) (fun H locs hS => ?_)
          obtain ⟨v26, hr27, h⟩ := bd_el h
          refine c_I hS (c_runS (As := [.int v24]) (rest := [.int v7]) C hS (k_Model_term (l := l) (E := E) (X := X) hr27) cw_Model_term ini_Model_term sta_Model_term tw_926 hd_Model_term rfl ⟨⟨rfl, rfl⟩, (Nat.le_of_ble_eq_true rfl), (Nat.le_of_ble_eq_true rfl)⟩ ⟨(Nat.le_of_ble_eq_true rfl), (Nat.le_of_ble_eq_true rfl)⟩ hl.1 rfl (Nat.le_of_ble_eq_true rfl) d_Model_day_54) (fun H locs hS => ?_)
          refine r_icmp_lt (tgt := 113) C h d_Model_day_57 (by decide) (fun h => ?_) (fun h => ?_)
          · skip
            exact k_Model_day_j113 C hc2 ih h hS (lv_sub hl [1, 2] rfl)
          · skip
            refine lv_aload_n hx hb d_Model_day_60 rfl (lv_at hl 1 rfl) ?_
            refine lv_iload_n hx hb d_Model_day_61 rfl (lv_at hl 2 rfl) ?_
            refine lv_iload_n hx hb d_Model_day_62 rfl (lv_at hl 0 rfl) ?_
            obtain ⟨X29, hr28, h⟩ := bd_el h
            refine c_V hS (c_runV (As := [.int x1, .int v7]) (rest := []) C hS (by decide) cel_Model (rfl : cls[6]? = some (R_Model, T_Model, 16)) (k_Model_comesHome (l := l) (E := E) (X := X) hr28) cw_Model_comesHome ini_Model_comesHome ins_Model_comesHome sel_Model_comesHome tw_984 hd_Model_comesHome rfl ⟨⟨rfl, rfl⟩, (Nat.le_of_ble_eq_true rfl), (Nat.le_of_ble_eq_true rfl)⟩ ⟨(Nat.le_of_ble_eq_true rfl), (Nat.le_of_ble_eq_true rfl)⟩ hl.1 rfl (Nat.le_of_ble_eq_true rfl) d_Model_day_63) (fun H locs hS => ?_)
            refine lv_goto (tgt := 113) hx hb d_Model_day_66 (by decide) ?_
            exact k_Model_day_j113 C hc2 ih h hS (lv_sub hl [1, 2] rfl)
set_option maxHeartbeats 4000000 in
set_option maxRecDepth 100000 in
theorem k_Model_day {l : Launch} {E : En} {X : Mem} {Y : Mem} (h : f_Model_day X = some Y) : Met l y_Model_day (Cond.code y_Model_day c_Model_day 3 none :: tb) ({ frames := 3, cells := 0, slots := 0, locals := 74 } : Room) (PreC E [.ref (ad E 70)] X) (PostV E Y) 0 0 (Ad E) := by
  refine met_of (by decide) (Nat.le_of_ble_eq_true rfl) (fun p e s m below meth c C hS ls hl => ?_)
  replace C : Cx p s m ([.ref (ad E 70)] : List Value).toArray meth c c_Model_day 3 "TideLoansModel" none E := C
  replace hl : lv_has ls 3 [(0, .ref (ad E 70))] := hl
  obtain ⟨hx, hb, hml, hown, hts, hrt, hlk, hKx⟩ := id C
  unfold f_Model_day at h
  refine lv_iconst (v := 0) hx hb d_Model_day_0 (by decide) ?_
  refine lv_istore_n (lv' := [(1, .int (0 : Int32)), (0, .ref (ad E 70))]) hx hb d_Model_day_1 rfl hl (by decide) rfl (fun ls hl => ?_)
  exact k_Model_day_b2 C FU _ _ _ _ _ h hS (lv_sub hl [1, 0] rfl)
def I_Model_goes_b2 (p : Program) (l : Launch) (e : Env) (s : State) (m : MethodId) (args : Array Value) (below : List Frame) (meth : Method) (c : Code) (E : En) (Y : Mem) (x1 : Int32) (n : Nat) (tg : Mem) : Prop := ∀ (x2 : Int32) (X : Mem) (H : Heap) (locs : List Loc) (ls : Array Slot), it (fun a => f_Model_goes_b2 x1 a.1 a.2) n (x2, X) = some tg → Hs E s.heap X H locs → lv_has ls 3 [(0, .ref (ad E 70)), (1, .int x1), (2, .int x2)] → W p l e ({ frames := 4, cells := 0, slots := 0, locals := 96 } : Room) s m args below meth c H locs 0 0 (MQ below (PostV E Y) args s 0 0 (Ad E)) (F0 m 2 ls [])
set_option maxHeartbeats 4000000 in
set_option maxRecDepth 100000 in
theorem k_Model_goes_b2 {p : Program} {l : Launch} {e : Env} {s : State} {m : MethodId} {args : Array Value} {below : List Frame} {meth : Method} {c : Code} {E : En} {Y : Mem} (C : Cx p s m args meth c c_Model_goes 3 "TideLoansModel" none E) (x1 : Int32) : ∀ n, I_Model_goes_b2 p l e s m args below meth c E Y x1 n Y := by
  obtain ⟨hx, hb, hml, hown, hts, hrt, hlk, hKx⟩ := id C
  intro n
  induction n with
  | zero => intro x2 X H locs ls h; exact it_0 h
  | succ n ih =>
    intro x2 X H locs ls h hS hl
    obtain ⟨cc2, h, hc2⟩ := it_el h
    replace h : f_Model_goes_b2 x1 x2 X = some cc2 := h
    unfold f_Model_goes_b2 at h
    refine lv_iload_n hx hb d_Model_goes_2 rfl (lv_at hl 2 rfl) ?_
    refine lv_iload_n hx hb d_Model_goes_3 rfl (lv_at hl 1 rfl) ?_
    refine r_icmp_ge (tgt := 17) C h d_Model_goes_4 (by decide) (fun h => ?_) (fun h => ?_)
    · skip
      replace h := lp_ret h hc2
      exact r_vret C hS rfl h d_Model_goes_17
    · skip
      refine lv_aload_n hx hb d_Model_goes_7 rfl (lv_at hl 0 rfl) ?_
      obtain ⟨X2, hr1, h⟩ := bd_el h
      refine c_V hS (c_runV (As := []) (rest := []) C hS (by decide) cel_Model (rfl : cls[6]? = some (R_Model, T_Model, 16)) (k_Model_day (l := l) (E := E) (X := X) hr1) cw_Model_day ini_Model_day ins_Model_day sel_Model_day tw_980 hd_Model_day rfl ⟨⟨rfl, rfl⟩, (Nat.le_of_ble_eq_true rfl), (Nat.le_of_ble_eq_true rfl)⟩ ⟨(Nat.le_of_ble_eq_true rfl), (Nat.le_of_ble_eq_true rfl)⟩ hl.1 rfl (Nat.le_of_ble_eq_true rfl) d_Model_goes_8) (fun H locs hS => ?_)
      refine r_iinc C (w := 1) (lv' := fun z => [(2, .int z), (0, .ref (ad E 70)), (1, .int x1)]) h d_Model_goes_11 hl (k := 2) rfl (by decide) (by decide) (fun _ => rfl) (fun v3 ls h hl => ?_)
      refine lv_goto (tgt := 2) hx hb d_Model_goes_14 (by decide) ?_
      exact ih _ _ _ _ _ (lp_next h hc2) hS (lv_sub hl [1, 2, 0] rfl)
set_option maxHeartbeats 4000000 in
set_option maxRecDepth 100000 in
theorem k_Model_goes {l : Launch} {E : En} {p1 : Int32} {X : Mem} {Y : Mem} (h : f_Model_goes p1 X = some Y) : Met l y_Model_goes (Cond.code y_Model_goes c_Model_goes 3 none :: tb) ({ frames := 4, cells := 0, slots := 0, locals := 96 } : Room) (PreC E [.ref (ad E 70), .int p1] X) (PostV E Y) 0 0 (Ad E) := by
  refine met_of (by decide) (Nat.le_of_ble_eq_true rfl) (fun p e s m below meth c C hS ls hl => ?_)
  replace C : Cx p s m ([.ref (ad E 70), .int p1] : List Value).toArray meth c c_Model_goes 3 "TideLoansModel" none E := C
  replace hl : lv_has ls 3 [(0, .ref (ad E 70)), (1, .int p1)] := hl
  obtain ⟨hx, hb, hml, hown, hts, hrt, hlk, hKx⟩ := id C
  unfold f_Model_goes at h
  refine lv_iconst (v := 0) hx hb d_Model_goes_0 (by decide) ?_
  refine lv_istore_n (lv' := [(2, .int (0 : Int32)), (0, .ref (ad E 70)), (1, .int p1)]) hx hb d_Model_goes_1 rfl hl (by decide) rfl (fun ls hl => ?_)
  exact k_Model_goes_b2 C _ FU _ _ _ _ _ h hS (lv_sub hl [1, 2, 0] rfl)
set_option maxHeartbeats 4000000 in
set_option maxRecDepth 100000 in
theorem k_Model_purses {l : Launch} {E : En} {X : Mem} {r : Int64} (h : f_Model_purses X = some r) : Met l y_Model_purses (Cond.code y_Model_purses c_Model_purses 1 (some .long) :: tb) ({ frames := 0, cells := 0, slots := 0, locals := 0 } : Room) (PreC E [.ref (ad E 70)] X) (PostL E r X) 0 0 (Ad E) := by
  refine met_of (by decide) (Nat.le_of_ble_eq_true rfl) (fun p e s m below meth c C hS ls hl => ?_)
  replace C : Cx p s m ([.ref (ad E 70)] : List Value).toArray meth c c_Model_purses 1 "TideLoansModel" (some .long) E := C
  replace hl : lv_has ls 1 [(0, .ref (ad E 70))] := hl
  obtain ⟨hx, hb, hml, hown, hts, hrt, hlk, hKx⟩ := id C
  unfold f_Model_purses at h
  refine lv_aload_n hx hb d_Model_purses_0 rfl (lv_at hl 0 rfl) ?_
  refine r_get C hS (by decide) cel_Model (rfl : cls[6]? = some (R_Model, T_Model, 16)) in_Model 0 (by decide) tw_794 rfl d_Model_purses_1 ?_
  refine lv_bipush (v := 19) hx hb d_Model_purses_4 (by decide) ?_
  refine r_ldI C hS (n := 83) rfl (by decide) h d_Model_purses_6 (fun v1 h => ?_)
  refine lv_i2l hx hb d_Model_purses_7 rfl ?_
  refine lv_aload_n hx hb d_Model_purses_8 rfl (lv_at hl 0 rfl) ?_
  refine r_get C hS (by decide) cel_Model (rfl : cls[6]? = some (R_Model, T_Model, 16)) in_Model 0 (by decide) tw_794 rfl d_Model_purses_9 ?_
  refine lv_bipush (v := 20) hx hb d_Model_purses_12 (by decide) ?_
  refine r_ldI C hS (n := 83) rfl (by decide) h d_Model_purses_14 (fun v2 h => ?_)
  refine lv_i2l hx hb d_Model_purses_15 rfl ?_
  refine lv_ladd hx hb d_Model_purses_16 ?_
  refine lv_aload_n hx hb d_Model_purses_17 rfl (lv_at hl 0 rfl) ?_
  refine r_get C hS (by decide) cel_Model (rfl : cls[6]? = some (R_Model, T_Model, 16)) in_Model 0 (by decide) tw_794 rfl d_Model_purses_18 ?_
  refine lv_bipush (v := 21) hx hb d_Model_purses_21 (by decide) ?_
  refine r_ldI C hS (n := 83) rfl (by decide) h d_Model_purses_23 (fun v3 h => ?_)
  refine lv_i2l hx hb d_Model_purses_24 rfl ?_
  refine lv_ladd hx hb d_Model_purses_25 ?_
  refine lv_aload_n hx hb d_Model_purses_26 rfl (lv_at hl 0 rfl) ?_
  refine r_get C hS (by decide) cel_Model (rfl : cls[6]? = some (R_Model, T_Model, 16)) in_Model 0 (by decide) tw_794 rfl d_Model_purses_27 ?_
  refine lv_bipush (v := 22) hx hb d_Model_purses_30 (by decide) ?_
  refine r_ldI C hS (n := 83) rfl (by decide) h d_Model_purses_32 (fun v4 h => ?_)
  refine lv_i2l hx hb d_Model_purses_33 rfl ?_
  refine lv_ladd hx hb d_Model_purses_34 ?_
  exact r_lret0 C hS rfl h d_Model_purses_35
set_option maxHeartbeats 4000000 in
set_option maxRecDepth 100000 in
theorem k_Model_days {l : Launch} {E : En} {p1 : Int32} {X : Mem} {r : Int64} {Y : Mem} (h : f_Model_days p1 X = some (r, Y)) : Met l y_Model_days (Cond.code y_Model_days c_Model_days 2 (some .long) :: tb) ({ frames := 5, cells := 0, slots := 0, locals := 118 } : Room) (PreC E [.ref (ad E 70), .int p1] X) (PostL E r Y) 0 0 (Ad E) := by
  refine met_of (by decide) (Nat.le_of_ble_eq_true rfl) (fun p e s m below meth c C hS ls hl => ?_)
  replace C : Cx p s m ([.ref (ad E 70), .int p1] : List Value).toArray meth c c_Model_days 2 "TideLoansModel" (some .long) E := C
  replace hl : lv_has ls 2 [(0, .ref (ad E 70)), (1, .int p1)] := hl
  obtain ⟨hx, hb, hml, hown, hts, hrt, hlk, hKx⟩ := id C
  unfold f_Model_days at h
  refine lv_iload_n hx hb d_Model_days_0 rfl (lv_at hl 1 rfl) ?_
  refine lv_i2l hx hb d_Model_days_1 rfl ?_
  refine lv_lconst (v := 1) hx hb d_Model_days_2 (by decide) ?_
  refine lv_ldc2 (v := 400) hx hb hown (hts _ tw_974) d_Model_days_3 ?_
  obtain ⟨v1, hr2, h⟩ := bd_el h
  refine c_I hS (c_runS (As := [.long (p1.toInt64), .long (1 : Int64), .long (400 : Int64)]) (rest := []) C hS (k_Model_isIn (l := l) (E := E) (X := X) hr2) cw_Model_isIn ini_Model_isIn sta_Model_isIn tw_851 hd_Model_isIn rfl ⟨⟨rfl, rfl⟩, (Nat.le_of_ble_eq_true rfl), (Nat.le_of_ble_eq_true rfl)⟩ ⟨(Nat.le_of_ble_eq_true rfl), (Nat.le_of_ble_eq_true rfl)⟩ hl.1 rfl (Nat.le_of_ble_eq_true rfl) d_Model_days_6) (fun H locs hS => ?_)
  refine r_if_ne (tgt := 20) C h d_Model_days_9 (by decide) (fun h => ?_) (fun h => ?_)
  · skip
    refine lv_aload_n hx hb d_Model_days_20 rfl (lv_at hl 0 rfl) ?_
    refine r_get C hS (by decide) cel_Model (rfl : cls[6]? = some (R_Model, T_Model, 16)) in_Model 0 (by decide) tw_794 rfl d_Model_days_21 ?_
    refine lv_iconst (v := 1) hx hb d_Model_days_24 (by decide) ?_
    refine r_ldI C hS (n := 83) rfl (by decide) h d_Model_days_25 (fun v3 h => ?_)
    refine lv_iload_n hx hb d_Model_days_26 rfl (lv_at hl 1 rfl) ?_
    refine lv_iadd hx hb d_Model_days_27 ?_
    refine lv_ldc (v := 99999) hx hb hown (hts _ tw_975) d_Model_days_28 ?_
    refine r_icmp_le (tgt := 41) C h d_Model_days_30 (by decide) (fun h => ?_) (fun h => ?_)
    · skip
      refine lv_aload_n hx hb d_Model_days_41 rfl (lv_at hl 0 rfl) ?_
      refine lv_iload_n hx hb d_Model_days_42 rfl (lv_at hl 1 rfl) ?_
      obtain ⟨X5, hr4, h⟩ := bd_el h
      refine c_V hS (c_runV (As := [.int p1]) (rest := []) C hS (by decide) cel_Model (rfl : cls[6]? = some (R_Model, T_Model, 16)) (k_Model_goes (l := l) (E := E) (X := X) hr4) cw_Model_goes ini_Model_goes ins_Model_goes sel_Model_goes tw_976 hd_Model_goes rfl ⟨⟨rfl, rfl⟩, (Nat.le_of_ble_eq_true rfl), (Nat.le_of_ble_eq_true rfl)⟩ ⟨(Nat.le_of_ble_eq_true rfl), (Nat.le_of_ble_eq_true rfl)⟩ hl.1 rfl (Nat.le_of_ble_eq_true rfl) d_Model_days_43) (fun H locs hS => ?_)
      refine lv_aload_n hx hb d_Model_days_46 rfl (lv_at hl 0 rfl) ?_
      obtain ⟨v6, hr7, h⟩ := bd_el h
      refine c_L hS (c_runV (As := []) (rest := []) C hS (by decide) cel_Model (rfl : cls[6]? = some (R_Model, T_Model, 16)) (k_Model_purses (l := l) (E := E) (X := X5) hr7) cw_Model_purses ini_Model_purses ins_Model_purses sel_Model_purses tw_992 hd_Model_purses rfl ⟨⟨rfl, rfl⟩, (Nat.le_of_ble_eq_true rfl), (Nat.le_of_ble_eq_true rfl)⟩ ⟨(Nat.le_of_ble_eq_true rfl), (Nat.le_of_ble_eq_true rfl)⟩ hl.1 rfl (Nat.le_of_ble_eq_true rfl) d_Model_days_47) (fun H locs hS => ?_)
      exact r_lret C hS rfl h d_Model_days_50
    · skip
      refine lv_aload_n hx hb d_Model_days_33 rfl (lv_at hl 0 rfl) ?_
      refine lv_ldc (v := -1000000005) hx hb hown (hts _ tw_958) d_Model_days_34 ?_
      obtain ⟨v8, X10, hr9, h⟩ := bd2_el h
      refine c_I hS (c_runV (As := [.int (-1000000005 : Int32)]) (rest := []) C hS (by decide) cel_Model (rfl : cls[6]? = some (R_Model, T_Model, 16)) (k_Model_finds (l := l) (E := E) (X := X) hr9) cw_Model_finds ini_Model_finds ins_Model_finds sel_Model_finds tw_859 hd_Model_finds rfl ⟨⟨rfl, rfl⟩, (Nat.le_of_ble_eq_true rfl), (Nat.le_of_ble_eq_true rfl)⟩ ⟨(Nat.le_of_ble_eq_true rfl), (Nat.le_of_ble_eq_true rfl)⟩ hl.1 rfl (Nat.le_of_ble_eq_true rfl) d_Model_days_36) (fun H locs hS => ?_)
      refine lv_i2l hx hb d_Model_days_39 rfl ?_
      exact r_lret C hS rfl h d_Model_days_40
  · skip
    refine lv_aload_n hx hb d_Model_days_12 rfl (lv_at hl 0 rfl) ?_
    refine lv_ldc (v := -1000000001) hx hb hown (hts _ tw_858) d_Model_days_13 ?_
    obtain ⟨v11, X13, hr12, h⟩ := bd2_el h
    refine c_I hS (c_runV (As := [.int (-1000000001 : Int32)]) (rest := []) C hS (by decide) cel_Model (rfl : cls[6]? = some (R_Model, T_Model, 16)) (k_Model_finds (l := l) (E := E) (X := X) hr12) cw_Model_finds ini_Model_finds ins_Model_finds sel_Model_finds tw_859 hd_Model_finds rfl ⟨⟨rfl, rfl⟩, (Nat.le_of_ble_eq_true rfl), (Nat.le_of_ble_eq_true rfl)⟩ ⟨(Nat.le_of_ble_eq_true rfl), (Nat.le_of_ble_eq_true rfl)⟩ hl.1 rfl (Nat.le_of_ble_eq_true rfl) d_Model_days_15) (fun H locs hS => ?_)
    refine lv_i2l hx hb d_Model_days_18 rfl ?_
    exact r_lret C hS rfl h d_Model_days_19
def I_Model_thoseThatAre_b4 (p : Program) (l : Launch) (e : Env) (s : State) (m : MethodId) (args : Array Value) (below : List Frame) (meth : Method) (c : Code) (E : En) (r : Int32) (x1 : Int32) (X : Mem) (n : Nat) (tg : Int32) : Prop := ∀ (x2 : Int32) (x3 : Int32) (H : Heap) (locs : List Loc) (ls : Array Slot), it (fun a => f_Model_thoseThatAre_b4 x1 X a.1 a.2) n (x2, x3) = some tg → Hs E s.heap X H locs → lv_has ls 4 [(0, .ref (ad E 70)), (1, .int x1), (2, .int x2), (3, .int x3)] → W p l e ({ frames := 2, cells := 0, slots := 0, locals := 44 } : Room) s m args below meth c H locs 0 0 (MQ below (PostI E r X) args s 0 0 (Ad E)) (F0 m 4 ls [])
set_option maxHeartbeats 4000000 in
set_option maxRecDepth 100000 in
theorem k_Model_thoseThatAre_j31 {p : Program} {l : Launch} {e : Env} {s : State} {m : MethodId} {args : Array Value} {below : List Frame} {meth : Method} {c : Code} {E : En} {r : Int32} (C : Cx p s m args meth c c_Model_thoseThatAre 4 "TideLoansModel" (some .int) E) {x1 : Int32} {x3 : Int32} {q0 : Int32} {q1 : Int32} {X : Mem} {tg : (Int32 ⊕ (Int32 × Int32))} {n4 : Nat} (hc4 : fin (fun a => f_Model_thoseThatAre_b4 x1 X a.1 a.2) n4 r tg) (ih4 : I_Model_thoseThatAre_b4 p l e s m args below meth c E r x1 X n4 r) (h : f_Model_thoseThatAre_j31 x1 x3 q0 q1 X = some tg) {H : Heap} {locs : List Loc} (hS : Hs E s.heap X H locs) {ls : Array Slot} (hl : lv_has ls 4 [(0, .ref (ad E 70)), (1, .int x1), (3, .int x3)]) : W p l e ({ frames := 2, cells := 0, slots := 0, locals := 44 } : Room) s m args below meth c H locs 0 0 (MQ below (PostI E r X) args s 0 0 (Ad E)) (F0 m 31 ls [.int q1, .int q0]) := by
  obtain ⟨hx, hb, hml, hown, hts, hrt, hlk, hKx⟩ := id C
  unfold f_Model_thoseThatAre_j31 at h
  refine lv_ior hx hb d_Model_thoseThatAre_31 ?_
  refine r_top h (fun v1 h => ?_)
  refine lv_istore_n (lv' := [(2, .int v1), (0, .ref (ad E 70)), (1, .int x1), (3, .int x3)]) hx hb d_Model_thoseThatAre_32 rfl hl (by decide) rfl (fun ls hl => ?_)
  refine r_iinc C (w := 1) (lv' := fun z => [(3, .int z), (2, .int v1), (0, .ref (ad E 70)), (1, .int x1)]) h d_Model_thoseThatAre_33 hl (k := 3) rfl (by decide) (by decide) (fun _ => rfl) (fun v2 ls h hl => ?_)
  refine lv_goto (tgt := 4) hx hb d_Model_thoseThatAre_36 (by decide) ?_
  exact ih4 _ _ _ _ _ (lp_next h hc4) hS (lv_sub hl [2, 3, 1, 0] rfl)
set_option maxHeartbeats 4000000 in
set_option maxRecDepth 100000 in
theorem k_Model_thoseThatAre_b4 {p : Program} {l : Launch} {e : Env} {s : State} {m : MethodId} {args : Array Value} {below : List Frame} {meth : Method} {c : Code} {E : En} {r : Int32} (C : Cx p s m args meth c c_Model_thoseThatAre 4 "TideLoansModel" (some .int) E) (x1 : Int32) {X : Mem} : ∀ n, I_Model_thoseThatAre_b4 p l e s m args below meth c E r x1 X n r := by
  obtain ⟨hx, hb, hml, hown, hts, hrt, hlk, hKx⟩ := id C
  intro n
  induction n with
  | zero => intro x2 x3 H locs ls h; exact it_0 h
  | succ n ih =>
    intro x2 x3 H locs ls h hS hl
    obtain ⟨cc4, h, hc4⟩ := it_el h
    replace h : f_Model_thoseThatAre_b4 x1 X x2 x3 = some cc4 := h
    unfold f_Model_thoseThatAre_b4 at h
    refine lv_iload_n hx hb d_Model_thoseThatAre_4 rfl (lv_at hl 3 rfl) ?_
    refine lv_aload_n hx hb d_Model_thoseThatAre_5 rfl (lv_at hl 0 rfl) ?_
    refine r_get C hS (by decide) cel_Model (rfl : cls[6]? = some (R_Model, T_Model, 16)) in_Model 0 (by decide) tw_794 rfl d_Model_thoseThatAre_6 ?_
    refine lv_iconst (v := 0) hx hb d_Model_thoseThatAre_9 (by decide) ?_
    refine r_ldI C hS (n := 83) rfl (by decide) h d_Model_thoseThatAre_10 (fun v1 h => ?_)
    refine r_icmp_ge (tgt := 39) C h d_Model_thoseThatAre_11 (by decide) (fun h => ?_) (fun h => ?_)
    · skip
      refine lv_iload_n hx hb d_Model_thoseThatAre_39 rfl (lv_at hl 2 rfl) ?_
      replace h := lp_ret h hc4
      exact r_iret0 C hS rfl h d_Model_thoseThatAre_40
    · skip
      refine lv_iload_n hx hb d_Model_thoseThatAre_14 rfl (lv_at hl 2 rfl) ?_
      refine lv_aload_n hx hb d_Model_thoseThatAre_15 rfl (lv_at hl 0 rfl) ?_
      refine lv_iload_n hx hb d_Model_thoseThatAre_16 rfl (lv_at hl 3 rfl) ?_
      refine lv_iload_n hx hb d_Model_thoseThatAre_17 rfl (lv_at hl 1 rfl) ?_
      obtain ⟨v2, hr3, h⟩ := bd_el h
      refine c_I hS (c_runV (As := [.int x3, .int x1]) (rest := [.int x2]) C hS (by decide) cel_Model (rfl : cls[6]? = some (R_Model, T_Model, 16)) (k_Model_isIt (l := l) (E := E) (X := X) hr3) cw_Model_isIt ini_Model_isIt ins_Model_isIt sel_Model_isIt tw_871 hd_Model_isIt rfl ⟨⟨rfl, rfl⟩, (Nat.le_of_ble_eq_true rfl), (Nat.le_of_ble_eq_true rfl)⟩ ⟨(Nat.le_of_ble_eq_true rfl), (Nat.le_of_ble_eq_true rfl)⟩ hl.1 rfl (Nat.le_of_ble_eq_true rfl) d_Model_thoseThatAre_18) (fun H locs hS => ?_)
      refine r_if_eq (tgt := 30) C h d_Model_thoseThatAre_21 (by decide) (fun h => ?_) (fun h => ?_)
      · skip
        refine lv_iconst (v := 0) hx hb d_Model_thoseThatAre_30 (by decide) ?_
        exact k_Model_thoseThatAre_j31 C hc4 ih h hS (lv_sub hl [0, 1, 3] rfl)
      · skip
        refine lv_iconst (v := 1) hx hb d_Model_thoseThatAre_24 (by decide) ?_
        refine lv_iload_n hx hb d_Model_thoseThatAre_25 rfl (lv_at hl 3 rfl) ?_
        refine lv_ishl hx hb d_Model_thoseThatAre_26 ?_
        refine lv_goto (tgt := 31) hx hb d_Model_thoseThatAre_27 (by decide) ?_
        exact k_Model_thoseThatAre_j31 C hc4 ih h hS (lv_sub hl [0, 1, 3] rfl)
set_option maxHeartbeats 4000000 in
set_option maxRecDepth 100000 in
theorem k_Model_thoseThatAre {l : Launch} {E : En} {p1 : Int32} {X : Mem} {r : Int32} (h : f_Model_thoseThatAre p1 X = some r) : Met l y_Model_thoseThatAre (Cond.code y_Model_thoseThatAre c_Model_thoseThatAre 4 (some .int) :: tb) ({ frames := 2, cells := 0, slots := 0, locals := 44 } : Room) (PreC E [.ref (ad E 70), .int p1] X) (PostI E r X) 0 0 (Ad E) := by
  refine met_of (by decide) (Nat.le_of_ble_eq_true rfl) (fun p e s m below meth c C hS ls hl => ?_)
  replace C : Cx p s m ([.ref (ad E 70), .int p1] : List Value).toArray meth c c_Model_thoseThatAre 4 "TideLoansModel" (some .int) E := C
  replace hl : lv_has ls 4 [(0, .ref (ad E 70)), (1, .int p1)] := hl
  obtain ⟨hx, hb, hml, hown, hts, hrt, hlk, hKx⟩ := id C
  unfold f_Model_thoseThatAre at h
  refine lv_iconst (v := 0) hx hb d_Model_thoseThatAre_0 (by decide) ?_
  refine lv_istore_n (lv' := [(2, .int (0 : Int32)), (0, .ref (ad E 70)), (1, .int p1)]) hx hb d_Model_thoseThatAre_1 rfl hl (by decide) rfl (fun ls hl => ?_)
  refine lv_iconst (v := 0) hx hb d_Model_thoseThatAre_2 (by decide) ?_
  refine lv_istore_n (lv' := [(3, .int (0 : Int32)), (2, .int (0 : Int32)), (0, .ref (ad E 70)), (1, .int p1)]) hx hb d_Model_thoseThatAre_3 rfl hl (by decide) rfl (fun ls hl => ?_)
  exact k_Model_thoseThatAre_b4 C _ FU _ _ _ _ _ h hS (lv_sub hl [2, 3, 1, 0] rfl)
def I_Model_now_b91 (p : Program) (l : Launch) (e : Env) (s : State) (m : MethodId) (args : Array Value) (below : List Frame) (meth : Method) (c : Code) (E : En) (r : Int32) (Y : Mem) (X : Mem) (n : Nat) (tg : (Int32 × Mem)) : Prop := ∀ (x2 : Int32) (x3 : Int32) (H : Heap) (locs : List Loc) (ls : Array Slot), it (fun a => f_Model_now_b91 X a.1 a.2) n (x2, x3) = some tg → Hs E s.heap X H locs → lv_has ls 4 [(0, .ref (ad E 70)), (2, .int x2), (3, .int x3)] → W p l e ({ frames := 3, cells := 0, slots := 0, locals := 71 } : Room) s m args below meth c H locs 0 0 (MQ below (PostI E r Y) args s 0 0 (Ad E)) (F0 m 91 ls [])
def I_Model_now_b63 (p : Program) (l : Launch) (e : Env) (s : State) (m : MethodId) (args : Array Value) (below : List Frame) (meth : Method) (c : Code) (E : En) (r : Int32) (Y : Mem) (X : Mem) (n : Nat) (tg : (Int32 × Mem)) : Prop := ∀ (x2 : Int32) (x3 : Int32) (H : Heap) (locs : List Loc) (ls : Array Slot), it (fun a => f_Model_now_b63 X a.1 a.2) n (x2, x3) = some tg → Hs E s.heap X H locs → lv_has ls 4 [(0, .ref (ad E 70)), (2, .int x2), (3, .int x3)] → W p l e ({ frames := 3, cells := 0, slots := 0, locals := 71 } : Room) s m args below meth c H locs 0 0 (MQ below (PostI E r Y) args s 0 0 (Ad E)) (F0 m 63 ls [])
set_option maxHeartbeats 4000000 in
set_option maxRecDepth 100000 in
theorem k_Model_now_b91 {p : Program} {l : Launch} {e : Env} {s : State} {m : MethodId} {args : Array Value} {below : List Frame} {meth : Method} {c : Code} {E : En} {r : Int32} {Y : Mem} (C : Cx p s m args meth c c_Model_now 4 "TideLoansModel" (some .int) E) {X : Mem} : ∀ n, I_Model_now_b91 p l e s m args below meth c E r Y X n (r, Y) := by
  obtain ⟨hx, hb, hml, hown, hts, hrt, hlk, hKx⟩ := id C
  intro n
  induction n with
  | zero => intro x2 x3 H locs ls h; exact it_0 h
  | succ n ih =>
    intro x2 x3 H locs ls h hS hl
    obtain ⟨cc91, h, hc91⟩ := it_el h
    replace h : f_Model_now_b91 X x2 x3 = some cc91 := h
    unfold f_Model_now_b91 at h
    refine lv_iload_n hx hb d_Model_now_91 rfl (lv_at hl 2 rfl) ?_
    refine lv_aload_n hx hb d_Model_now_92 rfl (lv_at hl 0 rfl) ?_
    refine r_get C hS (by decide) cel_Model (rfl : cls[6]? = some (R_Model, T_Model, 16)) in_Model 0 (by decide) tw_794 rfl d_Model_now_93 ?_
    refine lv_iconst (v := 0) hx hb d_Model_now_96 (by decide) ?_
    refine r_ldI C hS (n := 83) rfl (by decide) h d_Model_now_97 (fun v1 h => ?_)
    refine r_icmp_ge (tgt := 116) C h d_Model_now_98 (by decide) (fun h => ?_) (fun h => ?_)
    · skip
      refine lv_iload_n hx hb d_Model_now_116 rfl (lv_at hl 1 rfl) ?_
      replace h := lp_ret h hc91
      exact r_iret C hS rfl h d_Model_now_117
    · skip
      refine lv_iload_n hx hb d_Model_now_101 rfl (lv_at hl 1 rfl) ?_
      refine lv_aload_n hx hb d_Model_now_102 rfl (lv_at hl 0 rfl) ?_
      refine lv_iload_n hx hb d_Model_now_103 rfl (lv_at hl 2 rfl) ?_
      refine lv_iconst (v := 3) hx hb d_Model_now_104 (by decide) ?_
      obtain ⟨v2, hr3, h⟩ := bd_el h
      refine c_I hS (c_runV (As := [.int x3, .int (3 : Int32)]) (rest := [.int x2]) C hS (by decide) cel_Model (rfl : cls[6]? = some (R_Model, T_Model, 16)) (k_Model_its (l := l) (E := E) (X := X) hr3) cw_Model_its ini_Model_its ins_Model_its sel_Model_its tw_875 hd_Model_its rfl ⟨⟨rfl, rfl⟩, (Nat.le_of_ble_eq_true rfl), (Nat.le_of_ble_eq_true rfl)⟩ ⟨(Nat.le_of_ble_eq_true rfl), (Nat.le_of_ble_eq_true rfl)⟩ hl.1 rfl (Nat.le_of_ble_eq_true rfl) d_Model_now_105) (fun H locs hS => ?_)
      refine lv_iadd hx hb d_Model_now_108 ?_
      refine r_top h (fun v4 h => ?_)
      refine lv_istore_n (lv' := [(2, .int v4), (0, .ref (ad E 70)), (3, .int x3)]) hx hb d_Model_now_109 rfl hl (by decide) rfl (fun ls hl => ?_)
      refine r_iinc C (w := 1) (lv' := fun z => [(3, .int z), (2, .int v4), (0, .ref (ad E 70))]) h d_Model_now_110 hl (k := 2) rfl (by decide) (by decide) (fun _ => rfl) (fun v5 ls h hl => ?_)
      refine lv_goto (tgt := 91) hx hb d_Model_now_113 (by decide) ?_
      exact ih _ _ _ _ _ (lp_next h hc91) hS (lv_sub hl [2, 1, 0] rfl)
set_option maxHeartbeats 4000000 in
set_option maxRecDepth 100000 in
theorem k_Model_now_b63 {p : Program} {l : Launch} {e : Env} {s : State} {m : MethodId} {args : Array Value} {below : List Frame} {meth : Method} {c : Code} {E : En} {r : Int32} {Y : Mem} (C : Cx p s m args meth c c_Model_now 4 "TideLoansModel" (some .int) E) {X : Mem} : ∀ n, I_Model_now_b63 p l e s m args below meth c E r Y X n (r, Y) := by
  obtain ⟨hx, hb, hml, hown, hts, hrt, hlk, hKx⟩ := id C
  intro n
  induction n with
  | zero => intro x2 x3 H locs ls h; exact it_0 h
  | succ n ih =>
    intro x2 x3 H locs ls h hS hl
    obtain ⟨cc63, h, hc63⟩ := it_el h
    replace h : f_Model_now_b63 X x2 x3 = some cc63 := h
    unfold f_Model_now_b63 at h
    refine lv_iload_n hx hb d_Model_now_63 rfl (lv_at hl 2 rfl) ?_
    refine lv_aload_n hx hb d_Model_now_64 rfl (lv_at hl 0 rfl) ?_
    refine r_get C hS (by decide) cel_Model (rfl : cls[6]? = some (R_Model, T_Model, 16)) in_Model 0 (by decide) tw_794 rfl d_Model_now_65 ?_
    refine lv_iconst (v := 0) hx hb d_Model_now_68 (by decide) ?_
    refine r_ldI C hS (n := 83) rfl (by decide) h d_Model_now_69 (fun v1 h => ?_)
    refine r_icmp_ge (tgt := 87) C h d_Model_now_70 (by decide) (fun h => ?_) (fun h => ?_)
    · skip
      refine lv_iload_n hx hb d_Model_now_87 rfl (lv_at hl 1 rfl) ?_
      replace h := lp_ret h hc63
      exact r_iret C hS rfl h d_Model_now_88
    · skip
      refine lv_iload_n hx hb d_Model_now_73 rfl (lv_at hl 1 rfl) ?_
      refine lv_aload_n hx hb d_Model_now_74 rfl (lv_at hl 0 rfl) ?_
      refine lv_iload_n hx hb d_Model_now_75 rfl (lv_at hl 2 rfl) ?_
      obtain ⟨v2, hr3, h⟩ := bd_el h
      refine c_I hS (c_runV (As := [.int x3]) (rest := [.int x2]) C hS (by decide) cel_Model (rfl : cls[6]? = some (R_Model, T_Model, 16)) (k_Model_wouldRepay (l := l) (E := E) (X := X) hr3) cw_Model_wouldRepay ini_Model_wouldRepay ins_Model_wouldRepay sel_Model_wouldRepay tw_929 hd_Model_wouldRepay rfl ⟨⟨rfl, rfl⟩, (Nat.le_of_ble_eq_true rfl), (Nat.le_of_ble_eq_true rfl)⟩ ⟨(Nat.le_of_ble_eq_true rfl), (Nat.le_of_ble_eq_true rfl)⟩ hl.1 rfl (Nat.le_of_ble_eq_true rfl) d_Model_now_76) (fun H locs hS => ?_)
      refine lv_iadd hx hb d_Model_now_79 ?_
      refine r_top h (fun v4 h => ?_)
      refine lv_istore_n (lv' := [(2, .int v4), (0, .ref (ad E 70)), (3, .int x3)]) hx hb d_Model_now_80 rfl hl (by decide) rfl (fun ls hl => ?_)
      refine r_iinc C (w := 1) (lv' := fun z => [(3, .int z), (2, .int v4), (0, .ref (ad E 70))]) h d_Model_now_81 hl (k := 2) rfl (by decide) (by decide) (fun _ => rfl) (fun v5 ls h hl => ?_)
      refine lv_goto (tgt := 63) hx hb d_Model_now_84 (by decide) ?_
      exact ih _ _ _ _ _ (lp_next h hc63) hS (lv_sub hl [2, 1, 0] rfl)
set_option maxHeartbeats 4000000 in
set_option maxRecDepth 100000 in
theorem k_Model_now_j40 {p : Program} {l : Launch} {e : Env} {s : State} {m : MethodId} {args : Array Value} {below : List Frame} {meth : Method} {c : Code} {E : En} {r : Int32} {Y : Mem} (C : Cx p s m args meth c c_Model_now 4 "TideLoansModel" (some .int) E) {x1 : Int32} {X : Mem} (h : f_Model_now_j40 x1 X = some (r, Y)) {H : Heap} {locs : List Loc} (hS : Hs E s.heap X H locs) {ls : Array Slot} (hl : lv_has ls 4 [(0, .ref (ad E 70)), (1, .int x1)]) : W p l e ({ frames := 3, cells := 0, slots := 0, locals := 71 } : Room) s m args below meth c H locs 0 0 (MQ below (PostI E r Y) args s 0 0 (Ad E)) (F0 m 40 ls []) := by
  obtain ⟨hx, hb, hml, hown, hts, hrt, hlk, hKx⟩ := id C
  unfold f_Model_now_j40 at h
  refine lv_aload_n hx hb d_Model_now_40 rfl (lv_at hl 0 rfl) ?_
  refine r_get C hS (by decide) cel_Model (rfl : cls[6]? = some (R_Model, T_Model, 16)) in_Model 0 (by decide) tw_794 rfl d_Model_now_41 ?_
  refine lv_iconst (v := 1) hx hb d_Model_now_44 (by decide) ?_
  refine lv_iload_n hx hb d_Model_now_45 rfl (lv_at hl 1 rfl) ?_
  refine lv_iadd hx hb d_Model_now_46 ?_
  refine r_ldI C hS (n := 83) rfl (by decide) h d_Model_now_47 (fun v1 h => ?_)
  exact r_iret C hS rfl h d_Model_now_48
set_option maxHeartbeats 4000000 in
set_option maxRecDepth 100000 in
theorem k_Model_now {l : Launch} {E : En} {p1 : Int32} {X : Mem} {r : Int32} {Y : Mem} (h : f_Model_now p1 X = some (r, Y)) : Met l y_Model_now (Cond.code y_Model_now c_Model_now 4 (some .int) :: tb) ({ frames := 3, cells := 0, slots := 0, locals := 71 } : Room) (PreC E [.ref (ad E 70), .int p1] X) (PostI E r Y) 0 0 (Ad E) := by
  refine met_of (by decide) (Nat.le_of_ble_eq_true rfl) (fun p e s m below meth c C hS ls hl => ?_)
  replace C : Cx p s m ([.ref (ad E 70), .int p1] : List Value).toArray meth c c_Model_now 4 "TideLoansModel" (some .int) E := C
  replace hl : lv_has ls 4 [(0, .ref (ad E 70)), (1, .int p1)] := hl
  obtain ⟨hx, hb, hml, hown, hts, hrt, hlk, hKx⟩ := id C
  unfold f_Model_now at h
  refine lv_iconst (v := 0) hx hb d_Model_now_0 (by decide) ?_
  refine lv_istore_n (lv' := [(2, .int (0 : Int32)), (0, .ref (ad E 70)), (1, .int p1)]) hx hb d_Model_now_1 rfl hl (by decide) rfl (fun ls hl => ?_)
  refine lv_iload_n hx hb d_Model_now_2 rfl (lv_at hl 2 rfl) ?_
  refine sw_c (v := 0) (w := 0) (by decide) h (fun hv h => ?_) (fun hn0 h => ?_)
  · refine r_tabIn C hv d_Model_now_3 (by decide) (by decide) rfl (tgt := 40) (by decide) ?_
    exact k_Model_now_j40 C h hS (lv_sub hl [1, 2] rfl)
  refine sw_c (v := 1) (w := 1) (by decide) h (fun hv h => ?_) (fun hn1 h => ?_)
  · refine r_tabIn C hv d_Model_now_3 (by decide) (by decide) rfl (tgt := 40) (by decide) ?_
    exact k_Model_now_j40 C h hS (lv_sub hl [1, 2] rfl)
  refine sw_c (v := 2) (w := 2) (by decide) h (fun hv h => ?_) (fun hn2 h => ?_)
  · refine r_tabIn C hv d_Model_now_3 (by decide) (by decide) rfl (tgt := 49) (by decide) ?_
    refine lv_aload_n hx hb d_Model_now_49 rfl (lv_at hl 1 rfl) ?_
    refine lv_iconst (v := 1) hx hb d_Model_now_50 (by decide) ?_
    obtain ⟨v1, hr2, h⟩ := bd_el h
    refine c_I hS (c_runV (As := [.int (1 : Int32)]) (rest := []) C hS (by decide) cel_Model (rfl : cls[6]? = some (R_Model, T_Model, 16)) (k_Model_thoseThatAre (l := l) (E := E) (X := X) hr2) cw_Model_thoseThatAre ini_Model_thoseThatAre ins_Model_thoseThatAre sel_Model_thoseThatAre tw_1000 hd_Model_thoseThatAre rfl ⟨⟨rfl, rfl⟩, (Nat.le_of_ble_eq_true rfl), (Nat.le_of_ble_eq_true rfl)⟩ ⟨(Nat.le_of_ble_eq_true rfl), (Nat.le_of_ble_eq_true rfl)⟩ hl.1 rfl (Nat.le_of_ble_eq_true rfl) d_Model_now_51) (fun H locs hS => ?_)
    exact r_iret C hS rfl h d_Model_now_54
  refine sw_c (v := 3) (w := 3) (by decide) h (fun hv h => ?_) (fun hn3 h => ?_)
  · refine r_tabIn C hv d_Model_now_3 (by decide) (by decide) rfl (tgt := 55) (by decide) ?_
    refine lv_aload_n hx hb d_Model_now_55 rfl (lv_at hl 1 rfl) ?_
    refine lv_iconst (v := 2) hx hb d_Model_now_56 (by decide) ?_
    obtain ⟨v3, hr4, h⟩ := bd_el h
    refine c_I hS (c_runV (As := [.int (2 : Int32)]) (rest := []) C hS (by decide) cel_Model (rfl : cls[6]? = some (R_Model, T_Model, 16)) (k_Model_thoseThatAre (l := l) (E := E) (X := X) hr4) cw_Model_thoseThatAre ini_Model_thoseThatAre ins_Model_thoseThatAre sel_Model_thoseThatAre tw_1000 hd_Model_thoseThatAre rfl ⟨⟨rfl, rfl⟩, (Nat.le_of_ble_eq_true rfl), (Nat.le_of_ble_eq_true rfl)⟩ ⟨(Nat.le_of_ble_eq_true rfl), (Nat.le_of_ble_eq_true rfl)⟩ hl.1 rfl (Nat.le_of_ble_eq_true rfl) d_Model_now_57) (fun H locs hS => ?_)
    exact r_iret C hS rfl h d_Model_now_60
  refine sw_c (v := 4) (w := 4) (by decide) h (fun hv h => ?_) (fun hn4 h => ?_)
  · refine r_tabIn C hv d_Model_now_3 (by decide) (by decide) rfl (tgt := 61) (by decide) ?_
    refine lv_iconst (v := 0) hx hb d_Model_now_61 (by decide) ?_
    refine lv_istore_n (lv' := [(3, .int (0 : Int32)), (2, .int (0 : Int32)), (0, .ref (ad E 70)), (1, .int p1)]) hx hb d_Model_now_62 rfl hl (by decide) rfl (fun ls hl => ?_)
    exact k_Model_now_b63 C FU _ _ _ _ _ h hS (lv_sub hl [2, 1, 0] rfl)
  refine sw_c (v := 5) (w := 5) (by decide) h (fun hv h => ?_) (fun hn5 h => ?_)
  · refine r_tabIn C hv d_Model_now_3 (by decide) (by decide) rfl (tgt := 89) (by decide) ?_
    refine lv_iconst (v := 0) hx hb d_Model_now_89 (by decide) ?_
    refine lv_istore_n (lv' := [(3, .int (0 : Int32)), (2, .int (0 : Int32)), (0, .ref (ad E 70)), (1, .int p1)]) hx hb d_Model_now_90 rfl hl (by decide) rfl (fun ls hl => ?_)
    exact k_Model_now_b91 C FU _ _ _ _ _ h hS (lv_sub hl [2, 1, 0] rfl)
  refine lv_tableOut (tgt := 118) hx hb d_Model_now_3 (out_e (k := 6) (out_s (k := 5) (k1 := 6) (out_s (k := 4) (k1 := 5) (out_s (k := 3) (k1 := 4) (out_s (k := 2) (k1 := 3) (out_s (k := 1) (k1 := 2) (out_s (k := 0) (k1 := 1) out_0 hn0 (by decide)) hn1 (by decide)) hn2 (by decide)) hn3 (by decide)) hn4 (by decide)) hn5 (by decide)) (by decide)) (by decide) ?_
  refine lv_aload_n hx hb d_Model_now_118 rfl (lv_at hl 1 rfl) ?_
  refine lv_ldc (v := -1000000001) hx hb hown (hts _ tw_858) d_Model_now_119 ?_
  obtain ⟨v5, X7, hr6, h⟩ := bd2_el h
  refine c_I hS (c_runV (As := [.int (-1000000001 : Int32)]) (rest := []) C hS (by decide) cel_Model (rfl : cls[6]? = some (R_Model, T_Model, 16)) (k_Model_finds (l := l) (E := E) (X := X) hr6) cw_Model_finds ini_Model_finds ins_Model_finds sel_Model_finds tw_859 hd_Model_finds rfl ⟨⟨rfl, rfl⟩, (Nat.le_of_ble_eq_true rfl), (Nat.le_of_ble_eq_true rfl)⟩ ⟨(Nat.le_of_ble_eq_true rfl), (Nat.le_of_ble_eq_true rfl)⟩ hl.1 rfl (Nat.le_of_ble_eq_true rfl) d_Model_now_121) (fun H locs hS => ?_)
  exact r_iret C hS rfl h d_Model_now_124
set_option maxHeartbeats 4000000 in
set_option maxRecDepth 100000 in
theorem k_Model_purseOn {l : Launch} {E : En} {p1 : Int32} {p2 : Int32} {X : Mem} {r : Int32} {Y : Mem} (h : f_Model_purseOn p1 p2 X = some (r, Y)) : Met l y_Model_purseOn (Cond.code y_Model_purseOn c_Model_purseOn 4 (some .int) :: tb) ({ frames := 5, cells := 0, slots := 0, locals := 118 } : Room) (PreC E [.ref (ad E 70), .int p1, .int p2] X) (PostI E r Y) 0 0 (Ad E) := by
  refine met_of (by decide) (Nat.le_of_ble_eq_true rfl) (fun p e s m below meth c C hS ls hl => ?_)
  replace C : Cx p s m ([.ref (ad E 70), .int p1, .int p2] : List Value).toArray meth c c_Model_purseOn 4 "TideLoansModel" (some .int) E := C
  replace hl : lv_has ls 4 [(0, .ref (ad E 70)), (1, .int p1), (2, .int p2)] := hl
  obtain ⟨hx, hb, hml, hown, hts, hrt, hlk, hKx⟩ := id C
  unfold f_Model_purseOn at h
  refine lv_aload_n hx hb d_Model_purseOn_0 rfl (lv_at hl 0 rfl) ?_
  refine r_get C hS (by decide) cel_Model (rfl : cls[6]? = some (R_Model, T_Model, 16)) in_Model 0 (by decide) tw_794 rfl d_Model_purseOn_1 ?_
  refine lv_aload_n hx hb d_Model_purseOn_4 rfl (lv_at hl 0 rfl) ?_
  refine r_get C hS (by decide) cel_Model (rfl : cls[6]? = some (R_Model, T_Model, 16)) in_Model 3 (by decide) tw_797 rfl d_Model_purseOn_5 ?_
  obtain ⟨X2, hr1, h⟩ := bd_el h
  refine c_V hS (c_runS (As := [.ref (ad E 71), .ref (ad E 74)]) (rest := []) C hS (k_Model_copyRow (l := l) (E := E) (X := X) rfl rfl hr1) cw_Model_copyRow ini_Model_copyRow sta_Model_copyRow tw_1012 hd_Model_copyRow rfl ⟨⟨rfl, rfl⟩, (Nat.le_of_ble_eq_true rfl), (Nat.le_of_ble_eq_true rfl)⟩ ⟨(Nat.le_of_ble_eq_true rfl), (Nat.le_of_ble_eq_true rfl)⟩ hl.1 rfl (Nat.le_of_ble_eq_true rfl) d_Model_purseOn_8) (fun H locs hS => ?_)
  refine lv_aload_n hx hb d_Model_purseOn_11 rfl (lv_at hl 0 rfl) ?_
  refine lv_iload_n hx hb d_Model_purseOn_12 rfl (lv_at hl 2 rfl) ?_
  obtain ⟨X4, hr3, h⟩ := bd_el h
  refine c_V hS (c_runV (As := [.int p2]) (rest := []) C hS (by decide) cel_Model (rfl : cls[6]? = some (R_Model, T_Model, 16)) (k_Model_goes (l := l) (E := E) (X := X2) hr3) cw_Model_goes ini_Model_goes ins_Model_goes sel_Model_goes tw_976 hd_Model_goes rfl ⟨⟨rfl, rfl⟩, (Nat.le_of_ble_eq_true rfl), (Nat.le_of_ble_eq_true rfl)⟩ ⟨(Nat.le_of_ble_eq_true rfl), (Nat.le_of_ble_eq_true rfl)⟩ hl.1 rfl (Nat.le_of_ble_eq_true rfl) d_Model_purseOn_13) (fun H locs hS => ?_)
  refine lv_aload_n hx hb d_Model_purseOn_16 rfl (lv_at hl 0 rfl) ?_
  refine r_get C hS (by decide) cel_Model (rfl : cls[6]? = some (R_Model, T_Model, 16)) in_Model 0 (by decide) tw_794 rfl d_Model_purseOn_17 ?_
  refine lv_bipush (v := 19) hx hb d_Model_purseOn_20 (by decide) ?_
  refine lv_iload_n hx hb d_Model_purseOn_22 rfl (lv_at hl 1 rfl) ?_
  refine lv_iadd hx hb d_Model_purseOn_23 ?_
  refine r_ldI C hS (n := 83) rfl (by decide) h d_Model_purseOn_24 (fun v5 h => ?_)
  refine lv_istore_n (lv' := [(3, .int v5), (0, .ref (ad E 70)), (1, .int p1), (2, .int p2)]) hx hb d_Model_purseOn_25 rfl hl (by decide) rfl (fun ls hl => ?_)
  refine lv_aload_n hx hb d_Model_purseOn_26 rfl (lv_at hl 1 rfl) ?_
  refine r_get C hS (by decide) cel_Model (rfl : cls[6]? = some (R_Model, T_Model, 16)) in_Model 3 (by decide) tw_797 rfl d_Model_purseOn_27 ?_
  refine lv_aload_n hx hb d_Model_purseOn_30 rfl (lv_at hl 1 rfl) ?_
  refine r_get C hS (by decide) cel_Model (rfl : cls[6]? = some (R_Model, T_Model, 16)) in_Model 0 (by decide) tw_794 rfl d_Model_purseOn_31 ?_
  obtain ⟨X7, hr6, h⟩ := bd_el h
  refine c_V hS (c_runS (As := [.ref (ad E 74), .ref (ad E 71)]) (rest := []) C hS (k_Model_copyRow (l := l) (E := E) (X := X4) rfl rfl hr6) cw_Model_copyRow ini_Model_copyRow sta_Model_copyRow tw_1012 hd_Model_copyRow rfl ⟨⟨rfl, rfl⟩, (Nat.le_of_ble_eq_true rfl), (Nat.le_of_ble_eq_true rfl)⟩ ⟨(Nat.le_of_ble_eq_true rfl), (Nat.le_of_ble_eq_true rfl)⟩ hl.1 rfl (Nat.le_of_ble_eq_true rfl) d_Model_purseOn_34) (fun H locs hS => ?_)
  refine lv_iload_n hx hb d_Model_purseOn_37 rfl (lv_at hl 0 rfl) ?_
  exact r_iret C hS rfl h d_Model_purseOn_38
set_option maxHeartbeats 4000000 in
set_option maxRecDepth 100000 in
theorem k_Model_on_j28 {p : Program} {l : Launch} {e : Env} {s : State} {m : MethodId} {args : Array Value} {below : List Frame} {meth : Method} {c : Code} {E : En} {r : Int32} {Y : Mem} (C : Cx p s m args meth c c_Model_on 3 "TideLoansModel" (some .int) E) {X : Mem} (h : f_Model_on_j28 X = some (r, Y)) {H : Heap} {locs : List Loc} (hS : Hs E s.heap X H locs) {ls : Array Slot} (hl : lv_has ls 3 [(0, .ref (ad E 70))]) : W p l e ({ frames := 6, cells := 0, slots := 0, locals := 141 } : Room) s m args below meth c H locs 0 0 (MQ below (PostI E r Y) args s 0 0 (Ad E)) (F0 m 28 ls []) := by
  obtain ⟨hx, hb, hml, hown, hts, hrt, hlk, hKx⟩ := id C
  unfold f_Model_on_j28 at h
  refine lv_aload_n hx hb d_Model_on_28 rfl (lv_at hl 0 rfl) ?_
  refine lv_ldc (v := -1000000001) hx hb hown (hts _ tw_858) d_Model_on_29 ?_
  obtain ⟨v1, X3, hr2, h⟩ := bd2_el h
  refine c_I hS (c_runV (As := [.int (-1000000001 : Int32)]) (rest := []) C hS (by decide) cel_Model (rfl : cls[6]? = some (R_Model, T_Model, 16)) (k_Model_finds (l := l) (E := E) (X := X) hr2) cw_Model_finds ini_Model_finds ins_Model_finds sel_Model_finds tw_859 hd_Model_finds rfl ⟨⟨rfl, rfl⟩, (Nat.le_of_ble_eq_true rfl), (Nat.le_of_ble_eq_true rfl)⟩ ⟨(Nat.le_of_ble_eq_true rfl), (Nat.le_of_ble_eq_true rfl)⟩ hl.1 rfl (Nat.le_of_ble_eq_true rfl) d_Model_on_31) (fun H locs hS => ?_)
  exact r_iret C hS rfl h d_Model_on_34
set_option maxHeartbeats 4000000 in
set_option maxRecDepth 100000 in
theorem k_Model_on {l : Launch} {E : En} {p1 : Int32} {p2 : Int32} {X : Mem} {r : Int32} {Y : Mem} (h : f_Model_on p1 p2 X = some (r, Y)) : Met l y_Model_on (Cond.code y_Model_on c_Model_on 3 (some .int) :: tb) ({ frames := 6, cells := 0, slots := 0, locals := 141 } : Room) (PreC E [.ref (ad E 70), .int p1, .int p2] X) (PostI E r Y) 0 0 (Ad E) := by
  refine met_of (by decide) (Nat.le_of_ble_eq_true rfl) (fun p e s m below meth c C hS ls hl => ?_)
  replace C : Cx p s m ([.ref (ad E 70), .int p1, .int p2] : List Value).toArray meth c c_Model_on 3 "TideLoansModel" (some .int) E := C
  replace hl : lv_has ls 3 [(0, .ref (ad E 70)), (1, .int p1), (2, .int p2)] := hl
  obtain ⟨hx, hb, hml, hown, hts, hrt, hlk, hKx⟩ := id C
  unfold f_Model_on at h
  refine lv_iload_n hx hb d_Model_on_0 rfl (lv_at hl 1 rfl) ?_
  obtain ⟨v1, hr2, h⟩ := bd_el h
  refine c_I hS (c_runS (As := [.int p1]) (rest := []) C hS (k_Model_isFamily (l := l) (E := E) (X := X) hr2) cw_Model_isFamily ini_Model_isFamily sta_Model_isFamily tw_900 hd_Model_isFamily rfl ⟨⟨rfl, rfl⟩, (Nat.le_of_ble_eq_true rfl), (Nat.le_of_ble_eq_true rfl)⟩ ⟨(Nat.le_of_ble_eq_true rfl), (Nat.le_of_ble_eq_true rfl)⟩ hl.1 rfl (Nat.le_of_ble_eq_true rfl) d_Model_on_1) (fun H locs hS => ?_)
  refine r_if_eq (tgt := 28) C h d_Model_on_4 (by decide) (fun h => ?_) (fun h => ?_)
  · skip
    exact k_Model_on_j28 C h hS (lv_sub hl [0] rfl)
  · skip
    refine lv_iload_n hx hb d_Model_on_7 rfl (lv_at hl 2 rfl) ?_
    refine lv_i2l hx hb d_Model_on_8 rfl ?_
    refine lv_lconst (v := 0) hx hb d_Model_on_9 (by decide) ?_
    refine lv_ldc2 (v := 400) hx hb hown (hts _ tw_974) d_Model_on_10 ?_
    obtain ⟨v3, hr4, h⟩ := bd_el h
    refine c_I hS (c_runS (As := [.long (p2.toInt64), .long (0 : Int64), .long (400 : Int64)]) (rest := []) C hS (k_Model_isIn (l := l) (E := E) (X := X) hr4) cw_Model_isIn ini_Model_isIn sta_Model_isIn tw_851 hd_Model_isIn rfl ⟨⟨rfl, rfl⟩, (Nat.le_of_ble_eq_true rfl), (Nat.le_of_ble_eq_true rfl)⟩ ⟨(Nat.le_of_ble_eq_true rfl), (Nat.le_of_ble_eq_true rfl)⟩ hl.1 rfl (Nat.le_of_ble_eq_true rfl) d_Model_on_13) (fun H locs hS => ?_)
    refine r_if_eq (tgt := 28) C h d_Model_on_16 (by decide) (fun h => ?_) (fun h => ?_)
    · skip
      exact k_Model_on_j28 C h hS (lv_sub hl [0] rfl)
    · skip
      refine lv_aload_n hx hb d_Model_on_19 rfl (lv_at hl 0 rfl) ?_
      refine lv_iload_n hx hb d_Model_on_20 rfl (lv_at hl 1 rfl) ?_
      refine lv_iload_n hx hb d_Model_on_21 rfl (lv_at hl 2 rfl) ?_
      obtain ⟨v5, X7, hr6, h⟩ := bd2_el h
      refine c_I hS (c_runV (As := [.int p1, .int p2]) (rest := []) C hS (by decide) cel_Model (rfl : cls[6]? = some (R_Model, T_Model, 16)) (k_Model_purseOn (l := l) (E := E) (X := X) hr6) cw_Model_purseOn ini_Model_purseOn ins_Model_purseOn sel_Model_purseOn tw_1008 hd_Model_purseOn rfl ⟨⟨rfl, rfl⟩, (Nat.le_of_ble_eq_true rfl), (Nat.le_of_ble_eq_true rfl)⟩ ⟨(Nat.le_of_ble_eq_true rfl), (Nat.le_of_ble_eq_true rfl)⟩ hl.1 rfl (Nat.le_of_ble_eq_true rfl) d_Model_on_22) (fun H locs hS => ?_)
      refine lv_goto (tgt := 34) hx hb d_Model_on_25 (by decide) ?_
      exact r_iret C hS rfl h d_Model_on_34
def I_Model_whenIt_b13 (p : Program) (l : Launch) (e : Env) (s : State) (m : MethodId) (args : Array Value) (below : List Frame) (meth : Method) (c : Code) (E : En) (r : Int32) (Y : Mem) (x1 : Int32) (x2 : Int32) (n : Nat) (tg : (Int32 × Mem)) : Prop := ∀ (x3 : Int32) (X : Mem) (H : Heap) (locs : List Loc) (ls : Array Slot), it (fun a => f_Model_whenIt_b13 x1 x2 a.1 a.2) n (x3, X) = some tg → Hs E s.heap X H locs → lv_has ls 4 [(0, .ref (ad E 70)), (1, .int x1), (2, .int x2), (3, .int x3)] → W p l e ({ frames := 4, cells := 0, slots := 0, locals := 96 } : Room) s m args below meth c H locs 0 0 (MQ below (PostI E r Y) args s 0 0 (Ad E)) (F0 m 13 ls [])
set_option maxHeartbeats 4000000 in
set_option maxRecDepth 100000 in
theorem k_Model_whenIt_j39 {p : Program} {l : Launch} {e : Env} {s : State} {m : MethodId} {args : Array Value} {below : List Frame} {meth : Method} {c : Code} {E : En} {r : Int32} {Y : Mem} (C : Cx p s m args meth c c_Model_whenIt 4 "TideLoansModel" (some .int) E) {x3 : Int32} {X : Mem} (h : f_Model_whenIt_j39 x3 X = some (r, Y)) {H : Heap} {locs : List Loc} (hS : Hs E s.heap X H locs) {ls : Array Slot} (hl : lv_has ls 4 [(0, .ref (ad E 70)), (3, .int x3)]) : W p l e ({ frames := 4, cells := 0, slots := 0, locals := 96 } : Room) s m args below meth c H locs 0 0 (MQ below (PostI E r Y) args s 0 0 (Ad E)) (F0 m 39 ls []) := by
  obtain ⟨hx, hb, hml, hown, hts, hrt, hlk, hKx⟩ := id C
  unfold f_Model_whenIt_j39 at h
  refine lv_aload_n hx hb d_Model_whenIt_39 rfl (lv_at hl 0 rfl) ?_
  refine r_get C hS (by decide) cel_Model (rfl : cls[6]? = some (R_Model, T_Model, 16)) in_Model 3 (by decide) tw_797 rfl d_Model_whenIt_40 ?_
  refine lv_aload_n hx hb d_Model_whenIt_43 rfl (lv_at hl 0 rfl) ?_
  refine r_get C hS (by decide) cel_Model (rfl : cls[6]? = some (R_Model, T_Model, 16)) in_Model 0 (by decide) tw_794 rfl d_Model_whenIt_44 ?_
  obtain ⟨X2, hr1, h⟩ := bd_el h
  refine c_V hS (c_runS (As := [.ref (ad E 74), .ref (ad E 71)]) (rest := []) C hS (k_Model_copyRow (l := l) (E := E) (X := X) rfl rfl hr1) cw_Model_copyRow ini_Model_copyRow sta_Model_copyRow tw_1012 hd_Model_copyRow rfl ⟨⟨rfl, rfl⟩, (Nat.le_of_ble_eq_true rfl), (Nat.le_of_ble_eq_true rfl)⟩ ⟨(Nat.le_of_ble_eq_true rfl), (Nat.le_of_ble_eq_true rfl)⟩ hl.1 rfl (Nat.le_of_ble_eq_true rfl) d_Model_whenIt_47) (fun H locs hS => ?_)
  refine lv_iload_n hx hb d_Model_whenIt_50 rfl (lv_at hl 1 rfl) ?_
  refine lv_sipush (v := 400) hx hb d_Model_whenIt_51 (by decide) ?_
  refine r_icmp_gt (tgt := 61) C h d_Model_whenIt_54 (by decide) (fun h => ?_) (fun h => ?_)
  · skip
    refine lv_iconst (v := -1) hx hb d_Model_whenIt_61 (by decide) ?_
    exact r_iret C hS rfl h d_Model_whenIt_62
  · skip
    refine lv_iload_n hx hb d_Model_whenIt_57 rfl (lv_at hl 1 rfl) ?_
    refine lv_goto (tgt := 62) hx hb d_Model_whenIt_58 (by decide) ?_
    exact r_iret C hS rfl h d_Model_whenIt_62
set_option maxHeartbeats 4000000 in
set_option maxRecDepth 100000 in
theorem k_Model_whenIt_b13 {p : Program} {l : Launch} {e : Env} {s : State} {m : MethodId} {args : Array Value} {below : List Frame} {meth : Method} {c : Code} {E : En} {r : Int32} {Y : Mem} (C : Cx p s m args meth c c_Model_whenIt 4 "TideLoansModel" (some .int) E) (x1 : Int32) (x2 : Int32) : ∀ n, I_Model_whenIt_b13 p l e s m args below meth c E r Y x1 x2 n (r, Y) := by
  obtain ⟨hx, hb, hml, hown, hts, hrt, hlk, hKx⟩ := id C
  intro n
  induction n with
  | zero => intro x3 X H locs ls h; exact it_0 h
  | succ n ih =>
    intro x3 X H locs ls h hS hl
    obtain ⟨cc13, h, hc13⟩ := it_el h
    replace h : f_Model_whenIt_b13 x1 x2 x3 X = some cc13 := h
    unfold f_Model_whenIt_b13 at h
    refine lv_iload_n hx hb d_Model_whenIt_13 rfl (lv_at hl 3 rfl) ?_
    refine lv_sipush (v := 400) hx hb d_Model_whenIt_14 (by decide) ?_
    refine r_icmp_gt (tgt := 39) C h d_Model_whenIt_17 (by decide) (fun h => ?_) (fun h => ?_)
    · skip
      replace h := lp_up h hc13
      exact k_Model_whenIt_j39 C h hS (lv_sub hl [0, 3] rfl)
    · skip
      refine lv_aload_n hx hb d_Model_whenIt_20 rfl (lv_at hl 0 rfl) ?_
      refine lv_iload_n hx hb d_Model_whenIt_21 rfl (lv_at hl 1 rfl) ?_
      refine lv_iload_n hx hb d_Model_whenIt_22 rfl (lv_at hl 2 rfl) ?_
      obtain ⟨v1, hr2, h⟩ := bd_el h
      refine c_I hS (c_runV (As := [.int x1, .int x2]) (rest := []) C hS (by decide) cel_Model (rfl : cls[6]? = some (R_Model, T_Model, 16)) (k_Model_isIt (l := l) (E := E) (X := X) hr2) cw_Model_isIt ini_Model_isIt ins_Model_isIt sel_Model_isIt tw_871 hd_Model_isIt rfl ⟨⟨rfl, rfl⟩, (Nat.le_of_ble_eq_true rfl), (Nat.le_of_ble_eq_true rfl)⟩ ⟨(Nat.le_of_ble_eq_true rfl), (Nat.le_of_ble_eq_true rfl)⟩ hl.1 rfl (Nat.le_of_ble_eq_true rfl) d_Model_whenIt_23) (fun H locs hS => ?_)
      refine r_if_ne (tgt := 39) C h d_Model_whenIt_26 (by decide) (fun h => ?_) (fun h => ?_)
      · skip
        replace h := lp_up h hc13
        exact k_Model_whenIt_j39 C h hS (lv_sub hl [0, 3] rfl)
      · skip
        refine lv_aload_n hx hb d_Model_whenIt_29 rfl (lv_at hl 0 rfl) ?_
        obtain ⟨X4, hr3, h⟩ := bd_el h
        refine c_V hS (c_runV (As := []) (rest := []) C hS (by decide) cel_Model (rfl : cls[6]? = some (R_Model, T_Model, 16)) (k_Model_day (l := l) (E := E) (X := X) hr3) cw_Model_day ini_Model_day ins_Model_day sel_Model_day tw_980 hd_Model_day rfl ⟨⟨rfl, rfl⟩, (Nat.le_of_ble_eq_true rfl), (Nat.le_of_ble_eq_true rfl)⟩ ⟨(Nat.le_of_ble_eq_true rfl), (Nat.le_of_ble_eq_true rfl)⟩ hl.1 rfl (Nat.le_of_ble_eq_true rfl) d_Model_whenIt_30) (fun H locs hS => ?_)
        refine r_iinc C (w := 1) (lv' := fun z => [(3, .int z), (0, .ref (ad E 70)), (1, .int x1), (2, .int x2)]) h d_Model_whenIt_33 hl (k := 3) rfl (by decide) (by decide) (fun _ => rfl) (fun v5 ls h hl => ?_)
        refine lv_goto (tgt := 13) hx hb d_Model_whenIt_36 (by decide) ?_
        exact ih _ _ _ _ _ (lp_next h hc13) hS (lv_sub hl [1, 2, 3, 0] rfl)
set_option maxHeartbeats 4000000 in
set_option maxRecDepth 100000 in
theorem k_Model_whenIt {l : Launch} {E : En} {p1 : Int32} {p2 : Int32} {X : Mem} {r : Int32} {Y : Mem} (h : f_Model_whenIt p1 p2 X = some (r, Y)) : Met l y_Model_whenIt (Cond.code y_Model_whenIt c_Model_whenIt 4 (some .int) :: tb) ({ frames := 4, cells := 0, slots := 0, locals := 96 } : Room) (PreC E [.ref (ad E 70), .int p1, .int p2] X) (PostI E r Y) 0 0 (Ad E) := by
  refine met_of (by decide) (Nat.le_of_ble_eq_true rfl) (fun p e s m below meth c C hS ls hl => ?_)
  replace C : Cx p s m ([.ref (ad E 70), .int p1, .int p2] : List Value).toArray meth c c_Model_whenIt 4 "TideLoansModel" (some .int) E := C
  replace hl : lv_has ls 4 [(0, .ref (ad E 70)), (1, .int p1), (2, .int p2)] := hl
  obtain ⟨hx, hb, hml, hown, hts, hrt, hlk, hKx⟩ := id C
  unfold f_Model_whenIt at h
  refine lv_aload_n hx hb d_Model_whenIt_0 rfl (lv_at hl 0 rfl) ?_
  refine r_get C hS (by decide) cel_Model (rfl : cls[6]? = some (R_Model, T_Model, 16)) in_Model 0 (by decide) tw_794 rfl d_Model_whenIt_1 ?_
  refine lv_aload_n hx hb d_Model_whenIt_4 rfl (lv_at hl 0 rfl) ?_
  refine r_get C hS (by decide) cel_Model (rfl : cls[6]? = some (R_Model, T_Model, 16)) in_Model 3 (by decide) tw_797 rfl d_Model_whenIt_5 ?_
  obtain ⟨X2, hr1, h⟩ := bd_el h
  refine c_V hS (c_runS (As := [.ref (ad E 71), .ref (ad E 74)]) (rest := []) C hS (k_Model_copyRow (l := l) (E := E) (X := X) rfl rfl hr1) cw_Model_copyRow ini_Model_copyRow sta_Model_copyRow tw_1012 hd_Model_copyRow rfl ⟨⟨rfl, rfl⟩, (Nat.le_of_ble_eq_true rfl), (Nat.le_of_ble_eq_true rfl)⟩ ⟨(Nat.le_of_ble_eq_true rfl), (Nat.le_of_ble_eq_true rfl)⟩ hl.1 rfl (Nat.le_of_ble_eq_true rfl) d_Model_whenIt_8) (fun H locs hS => ?_)
  refine lv_iconst (v := 0) hx hb d_Model_whenIt_11 (by decide) ?_
  refine lv_istore_n (lv' := [(3, .int (0 : Int32)), (0, .ref (ad E 70)), (1, .int p1), (2, .int p2)]) hx hb d_Model_whenIt_12 rfl hl (by decide) rfl (fun ls hl => ?_)
  exact k_Model_whenIt_b13 C _ _ FU _ _ _ _ _ h hS (lv_sub hl [1, 2, 3, 0] rfl)
set_option maxHeartbeats 4000000 in
set_option maxRecDepth 100000 in
theorem k_Model_taken {l : Launch} {E : En} {p1 : Int32} {X : Mem} {r : Int32} {Y : Mem} (h : f_Model_taken p1 X = some (r, Y)) : Met l y_Model_taken (Cond.code y_Model_taken c_Model_taken 2 (some .int) :: tb) ({ frames := 5, cells := 0, slots := 0, locals := 119 } : Room) (PreC E [.ref (ad E 70), .int p1] X) (PostI E r Y) 0 0 (Ad E) := by
  refine met_of (by decide) (Nat.le_of_ble_eq_true rfl) (fun p e s m below meth c C hS ls hl => ?_)
  replace C : Cx p s m ([.ref (ad E 70), .int p1] : List Value).toArray meth c c_Model_taken 2 "TideLoansModel" (some .int) E := C
  replace hl : lv_has ls 2 [(0, .ref (ad E 70)), (1, .int p1)] := hl
  obtain ⟨hx, hb, hml, hown, hts, hrt, hlk, hKx⟩ := id C
  unfold f_Model_taken at h
  refine lv_aload_n hx hb d_Model_taken_0 rfl (lv_at hl 0 rfl) ?_
  refine lv_iload_n hx hb d_Model_taken_1 rfl (lv_at hl 1 rfl) ?_
  obtain ⟨v1, hr2, h⟩ := bd_el h
  refine c_I hS (c_runV (As := [.int p1]) (rest := []) C hS (by decide) cel_Model (rfl : cls[6]? = some (R_Model, T_Model, 16)) (k_Model_isThing (l := l) (E := E) (X := X) hr2) cw_Model_isThing ini_Model_isThing ins_Model_isThing sel_Model_isThing tw_921 hd_Model_isThing rfl ⟨⟨rfl, rfl⟩, (Nat.le_of_ble_eq_true rfl), (Nat.le_of_ble_eq_true rfl)⟩ ⟨(Nat.le_of_ble_eq_true rfl), (Nat.le_of_ble_eq_true rfl)⟩ hl.1 rfl (Nat.le_of_ble_eq_true rfl) d_Model_taken_2) (fun H locs hS => ?_)
  refine r_if_ne (tgt := 15) C h d_Model_taken_5 (by decide) (fun h => ?_) (fun h => ?_)
  · skip
    refine lv_aload_n hx hb d_Model_taken_15 rfl (lv_at hl 0 rfl) ?_
    refine lv_iload_n hx hb d_Model_taken_16 rfl (lv_at hl 1 rfl) ?_
    refine lv_iconst (v := 1) hx hb d_Model_taken_17 (by decide) ?_
    obtain ⟨v3, hr4, h⟩ := bd_el h
    refine c_I hS (c_runV (As := [.int p1, .int (1 : Int32)]) (rest := []) C hS (by decide) cel_Model (rfl : cls[6]? = some (R_Model, T_Model, 16)) (k_Model_isIt (l := l) (E := E) (X := X) hr4) cw_Model_isIt ini_Model_isIt ins_Model_isIt sel_Model_isIt tw_871 hd_Model_isIt rfl ⟨⟨rfl, rfl⟩, (Nat.le_of_ble_eq_true rfl), (Nat.le_of_ble_eq_true rfl)⟩ ⟨(Nat.le_of_ble_eq_true rfl), (Nat.le_of_ble_eq_true rfl)⟩ hl.1 rfl (Nat.le_of_ble_eq_true rfl) d_Model_taken_18) (fun H locs hS => ?_)
    refine r_if_eq (tgt := 37) C h d_Model_taken_21 (by decide) (fun h => ?_) (fun h => ?_)
    · skip
      refine lv_aload_n hx hb d_Model_taken_37 rfl (lv_at hl 0 rfl) ?_
      refine lv_ldc (v := -1000000005) hx hb hown (hts _ tw_958) d_Model_taken_38 ?_
      obtain ⟨v5, X7, hr6, h⟩ := bd2_el h
      refine c_I hS (c_runV (As := [.int (-1000000005 : Int32)]) (rest := []) C hS (by decide) cel_Model (rfl : cls[6]? = some (R_Model, T_Model, 16)) (k_Model_finds (l := l) (E := E) (X := X) hr6) cw_Model_finds ini_Model_finds ins_Model_finds sel_Model_finds tw_859 hd_Model_finds rfl ⟨⟨rfl, rfl⟩, (Nat.le_of_ble_eq_true rfl), (Nat.le_of_ble_eq_true rfl)⟩ ⟨(Nat.le_of_ble_eq_true rfl), (Nat.le_of_ble_eq_true rfl)⟩ hl.1 rfl (Nat.le_of_ble_eq_true rfl) d_Model_taken_40) (fun H locs hS => ?_)
      exact r_iret C hS rfl h d_Model_taken_43
    · skip
      refine lv_aload_n hx hb d_Model_taken_24 rfl (lv_at hl 0 rfl) ?_
      refine lv_aload_n hx hb d_Model_taken_25 rfl (lv_at hl 0 rfl) ?_
      refine lv_iload_n hx hb d_Model_taken_26 rfl (lv_at hl 1 rfl) ?_
      refine lv_iconst (v := 2) hx hb d_Model_taken_27 (by decide) ?_
      obtain ⟨v8, X10, hr9, h⟩ := bd2_el h
      refine c_I hS (c_runV (As := [.int p1, .int (2 : Int32)]) (rest := [.ref (ad E 70)]) C hS (by decide) cel_Model (rfl : cls[6]? = some (R_Model, T_Model, 16)) (k_Model_whenIt (l := l) (E := E) (X := X) hr9) cw_Model_whenIt ini_Model_whenIt ins_Model_whenIt sel_Model_whenIt tw_1019 hd_Model_whenIt rfl ⟨⟨rfl, rfl⟩, (Nat.le_of_ble_eq_true rfl), (Nat.le_of_ble_eq_true rfl)⟩ ⟨(Nat.le_of_ble_eq_true rfl), (Nat.le_of_ble_eq_true rfl)⟩ hl.1 rfl (Nat.le_of_ble_eq_true rfl) d_Model_taken_28) (fun H locs hS => ?_)
      obtain ⟨v11, X13, hr12, h⟩ := bd2_el h
      refine c_I hS (c_runV (As := [.int v8]) (rest := []) C hS (by decide) cel_Model (rfl : cls[6]? = some (R_Model, T_Model, 16)) (k_Model_orNone (l := l) (E := E) (X := X10) hr12) cw_Model_orNone ini_Model_orNone ins_Model_orNone sel_Model_orNone tw_1023 hd_Model_orNone rfl ⟨⟨rfl, rfl⟩, (Nat.le_of_ble_eq_true rfl), (Nat.le_of_ble_eq_true rfl)⟩ ⟨(Nat.le_of_ble_eq_true rfl), (Nat.le_of_ble_eq_true rfl)⟩ hl.1 rfl (Nat.le_of_ble_eq_true rfl) d_Model_taken_31) (fun H locs hS => ?_)
      refine lv_goto (tgt := 43) hx hb d_Model_taken_34 (by decide) ?_
      exact r_iret C hS rfl h d_Model_taken_43
  · skip
    refine lv_aload_n hx hb d_Model_taken_8 rfl (lv_at hl 0 rfl) ?_
    refine lv_ldc (v := -1000000001) hx hb hown (hts _ tw_858) d_Model_taken_9 ?_
    obtain ⟨v14, X16, hr15, h⟩ := bd2_el h
    refine c_I hS (c_runV (As := [.int (-1000000001 : Int32)]) (rest := []) C hS (by decide) cel_Model (rfl : cls[6]? = some (R_Model, T_Model, 16)) (k_Model_finds (l := l) (E := E) (X := X) hr15) cw_Model_finds ini_Model_finds ins_Model_finds sel_Model_finds tw_859 hd_Model_finds rfl ⟨⟨rfl, rfl⟩, (Nat.le_of_ble_eq_true rfl), (Nat.le_of_ble_eq_true rfl)⟩ ⟨(Nat.le_of_ble_eq_true rfl), (Nat.le_of_ble_eq_true rfl)⟩ hl.1 rfl (Nat.le_of_ble_eq_true rfl) d_Model_taken_11) (fun H locs hS => ?_)
    exact r_iret C hS rfl h d_Model_taken_14
set_option maxHeartbeats 4000000 in
set_option maxRecDepth 100000 in
theorem k_Model_home {l : Launch} {E : En} {p1 : Int32} {X : Mem} {r : Int32} {Y : Mem} (h : f_Model_home p1 X = some (r, Y)) : Met l y_Model_home (Cond.code y_Model_home c_Model_home 2 (some .int) :: tb) ({ frames := 5, cells := 0, slots := 0, locals := 119 } : Room) (PreC E [.ref (ad E 70), .int p1] X) (PostI E r Y) 0 0 (Ad E) := by
  refine met_of (by decide) (Nat.le_of_ble_eq_true rfl) (fun p e s m below meth c C hS ls hl => ?_)
  replace C : Cx p s m ([.ref (ad E 70), .int p1] : List Value).toArray meth c c_Model_home 2 "TideLoansModel" (some .int) E := C
  replace hl : lv_has ls 2 [(0, .ref (ad E 70)), (1, .int p1)] := hl
  obtain ⟨hx, hb, hml, hown, hts, hrt, hlk, hKx⟩ := id C
  unfold f_Model_home at h
  refine lv_aload_n hx hb d_Model_home_0 rfl (lv_at hl 0 rfl) ?_
  refine lv_iload_n hx hb d_Model_home_1 rfl (lv_at hl 1 rfl) ?_
  obtain ⟨v1, hr2, h⟩ := bd_el h
  refine c_I hS (c_runV (As := [.int p1]) (rest := []) C hS (by decide) cel_Model (rfl : cls[6]? = some (R_Model, T_Model, 16)) (k_Model_isThing (l := l) (E := E) (X := X) hr2) cw_Model_isThing ini_Model_isThing ins_Model_isThing sel_Model_isThing tw_921 hd_Model_isThing rfl ⟨⟨rfl, rfl⟩, (Nat.le_of_ble_eq_true rfl), (Nat.le_of_ble_eq_true rfl)⟩ ⟨(Nat.le_of_ble_eq_true rfl), (Nat.le_of_ble_eq_true rfl)⟩ hl.1 rfl (Nat.le_of_ble_eq_true rfl) d_Model_home_2) (fun H locs hS => ?_)
  refine r_if_ne (tgt := 15) C h d_Model_home_5 (by decide) (fun h => ?_) (fun h => ?_)
  · skip
    refine lv_aload_n hx hb d_Model_home_15 rfl (lv_at hl 0 rfl) ?_
    refine lv_iload_n hx hb d_Model_home_16 rfl (lv_at hl 1 rfl) ?_
    refine lv_iconst (v := 0) hx hb d_Model_home_17 (by decide) ?_
    obtain ⟨v3, hr4, h⟩ := bd_el h
    refine c_I hS (c_runV (As := [.int p1, .int (0 : Int32)]) (rest := []) C hS (by decide) cel_Model (rfl : cls[6]? = some (R_Model, T_Model, 16)) (k_Model_isIt (l := l) (E := E) (X := X) hr4) cw_Model_isIt ini_Model_isIt ins_Model_isIt sel_Model_isIt tw_871 hd_Model_isIt rfl ⟨⟨rfl, rfl⟩, (Nat.le_of_ble_eq_true rfl), (Nat.le_of_ble_eq_true rfl)⟩ ⟨(Nat.le_of_ble_eq_true rfl), (Nat.le_of_ble_eq_true rfl)⟩ hl.1 rfl (Nat.le_of_ble_eq_true rfl) d_Model_home_18) (fun H locs hS => ?_)
    refine r_if_eq (tgt := 33) C h d_Model_home_21 (by decide) (fun h => ?_) (fun h => ?_)
    · skip
      refine lv_aload_n hx hb d_Model_home_33 rfl (lv_at hl 0 rfl) ?_
      refine lv_aload_n hx hb d_Model_home_34 rfl (lv_at hl 0 rfl) ?_
      refine lv_iload_n hx hb d_Model_home_35 rfl (lv_at hl 1 rfl) ?_
      refine lv_iconst (v := 0) hx hb d_Model_home_36 (by decide) ?_
      obtain ⟨v5, X7, hr6, h⟩ := bd2_el h
      refine c_I hS (c_runV (As := [.int p1, .int (0 : Int32)]) (rest := [.ref (ad E 70)]) C hS (by decide) cel_Model (rfl : cls[6]? = some (R_Model, T_Model, 16)) (k_Model_whenIt (l := l) (E := E) (X := X) hr6) cw_Model_whenIt ini_Model_whenIt ins_Model_whenIt sel_Model_whenIt tw_1019 hd_Model_whenIt rfl ⟨⟨rfl, rfl⟩, (Nat.le_of_ble_eq_true rfl), (Nat.le_of_ble_eq_true rfl)⟩ ⟨(Nat.le_of_ble_eq_true rfl), (Nat.le_of_ble_eq_true rfl)⟩ hl.1 rfl (Nat.le_of_ble_eq_true rfl) d_Model_home_37) (fun H locs hS => ?_)
      obtain ⟨v8, X10, hr9, h⟩ := bd2_el h
      refine c_I hS (c_runV (As := [.int v5]) (rest := []) C hS (by decide) cel_Model (rfl : cls[6]? = some (R_Model, T_Model, 16)) (k_Model_orNone (l := l) (E := E) (X := X7) hr9) cw_Model_orNone ini_Model_orNone ins_Model_orNone sel_Model_orNone tw_1023 hd_Model_orNone rfl ⟨⟨rfl, rfl⟩, (Nat.le_of_ble_eq_true rfl), (Nat.le_of_ble_eq_true rfl)⟩ ⟨(Nat.le_of_ble_eq_true rfl), (Nat.le_of_ble_eq_true rfl)⟩ hl.1 rfl (Nat.le_of_ble_eq_true rfl) d_Model_home_40) (fun H locs hS => ?_)
      exact r_iret C hS rfl h d_Model_home_43
    · skip
      refine lv_aload_n hx hb d_Model_home_24 rfl (lv_at hl 0 rfl) ?_
      refine lv_ldc (v := -1000000005) hx hb hown (hts _ tw_958) d_Model_home_25 ?_
      obtain ⟨v11, X13, hr12, h⟩ := bd2_el h
      refine c_I hS (c_runV (As := [.int (-1000000005 : Int32)]) (rest := []) C hS (by decide) cel_Model (rfl : cls[6]? = some (R_Model, T_Model, 16)) (k_Model_finds (l := l) (E := E) (X := X) hr12) cw_Model_finds ini_Model_finds ins_Model_finds sel_Model_finds tw_859 hd_Model_finds rfl ⟨⟨rfl, rfl⟩, (Nat.le_of_ble_eq_true rfl), (Nat.le_of_ble_eq_true rfl)⟩ ⟨(Nat.le_of_ble_eq_true rfl), (Nat.le_of_ble_eq_true rfl)⟩ hl.1 rfl (Nat.le_of_ble_eq_true rfl) d_Model_home_27) (fun H locs hS => ?_)
      refine lv_goto (tgt := 43) hx hb d_Model_home_30 (by decide) ?_
      exact r_iret C hS rfl h d_Model_home_43
  · skip
    refine lv_aload_n hx hb d_Model_home_8 rfl (lv_at hl 0 rfl) ?_
    refine lv_ldc (v := -1000000001) hx hb hown (hts _ tw_858) d_Model_home_9 ?_
    obtain ⟨v14, X16, hr15, h⟩ := bd2_el h
    refine c_I hS (c_runV (As := [.int (-1000000001 : Int32)]) (rest := []) C hS (by decide) cel_Model (rfl : cls[6]? = some (R_Model, T_Model, 16)) (k_Model_finds (l := l) (E := E) (X := X) hr15) cw_Model_finds ini_Model_finds ins_Model_finds sel_Model_finds tw_859 hd_Model_finds rfl ⟨⟨rfl, rfl⟩, (Nat.le_of_ble_eq_true rfl), (Nat.le_of_ble_eq_true rfl)⟩ ⟨(Nat.le_of_ble_eq_true rfl), (Nat.le_of_ble_eq_true rfl)⟩ hl.1 rfl (Nat.le_of_ble_eq_true rfl) d_Model_home_11) (fun H locs hS => ?_)
    exact r_iret C hS rfl h d_Model_home_14
def I_Model_due_b11 (p : Program) (l : Launch) (e : Env) (s : State) (m : MethodId) (args : Array Value) (below : List Frame) (meth : Method) (c : Code) (E : En) (r : Int32) (Y : Mem) (n : Nat) (tg : (Int32 × Mem)) : Prop := ∀ (X : Mem) (H : Heap) (locs : List Loc) (ls : Array Slot), it (fun a => f_Model_due_b11 a) n X = some tg → Hs E s.heap X H locs → lv_has ls 3 [(0, .ref (ad E 70))] → W p l e ({ frames := 4, cells := 0, slots := 0, locals := 96 } : Room) s m args below meth c H locs 0 0 (MQ below (PostI E r Y) args s 0 0 (Ad E)) (F0 m 11 ls [])
set_option maxHeartbeats 4000000 in
set_option maxRecDepth 100000 in
theorem k_Model_due_b11 {p : Program} {l : Launch} {e : Env} {s : State} {m : MethodId} {args : Array Value} {below : List Frame} {meth : Method} {c : Code} {E : En} {r : Int32} {Y : Mem} (C : Cx p s m args meth c c_Model_due 3 "TideLoansModel" (some .int) E) : ∀ n, I_Model_due_b11 p l e s m args below meth c E r Y n (r, Y) := by
  obtain ⟨hx, hb, hml, hown, hts, hrt, hlk, hKx⟩ := id C
  intro n
  induction n with
  | zero => intro X H locs ls h; exact it_0 h
  | succ n ih =>
    intro X H locs ls h hS hl
    obtain ⟨cc11, h, hc11⟩ := it_el h
    replace h : f_Model_due_b11 X = some cc11 := h
    unfold f_Model_due_b11 at h
    refine lv_aload_n hx hb d_Model_due_11 rfl (lv_at hl 0 rfl) ?_
    refine r_get C hS (by decide) cel_Model (rfl : cls[6]? = some (R_Model, T_Model, 16)) in_Model 0 (by decide) tw_794 rfl d_Model_due_12 ?_
    refine lv_iconst (v := 1) hx hb d_Model_due_15 (by decide) ?_
    refine r_ldI C hS (n := 83) rfl (by decide) h d_Model_due_16 (fun v1 h => ?_)
    obtain ⟨v2, hr3, h⟩ := bd_el h
    refine c_I hS (c_runS (As := [.int v1]) (rest := []) C hS (k_Model_isSpring (l := l) (E := E) (X := X) hr3) cw_Model_isSpring ini_Model_isSpring sta_Model_isSpring tw_893 hd_Model_isSpring rfl ⟨⟨rfl, rfl⟩, (Nat.le_of_ble_eq_true rfl), (Nat.le_of_ble_eq_true rfl)⟩ ⟨(Nat.le_of_ble_eq_true rfl), (Nat.le_of_ble_eq_true rfl)⟩ hl.1 rfl (Nat.le_of_ble_eq_true rfl) d_Model_due_17) (fun H locs hS => ?_)
    refine r_if_ne (tgt := 30) C h d_Model_due_20 (by decide) (fun h => ?_) (fun h => ?_)
    · skip
      refine lv_aload_n hx hb d_Model_due_30 rfl (lv_at hl 0 rfl) ?_
      refine lv_iconst (v := 2) hx hb d_Model_due_31 (by decide) ?_
      obtain ⟨v4, hr5, h⟩ := bd_el h
      refine c_I hS (c_runV (As := [.int (2 : Int32)]) (rest := []) C hS (by decide) cel_Model (rfl : cls[6]? = some (R_Model, T_Model, 16)) (k_Model_thoseThatAre (l := l) (E := E) (X := X) hr5) cw_Model_thoseThatAre ini_Model_thoseThatAre ins_Model_thoseThatAre sel_Model_thoseThatAre tw_1000 hd_Model_thoseThatAre rfl ⟨⟨rfl, rfl⟩, (Nat.le_of_ble_eq_true rfl), (Nat.le_of_ble_eq_true rfl)⟩ ⟨(Nat.le_of_ble_eq_true rfl), (Nat.le_of_ble_eq_true rfl)⟩ hl.1 rfl (Nat.le_of_ble_eq_true rfl) d_Model_due_32) (fun H locs hS => ?_)
      refine lv_istore_n (lv' := [(1, .int v4), (0, .ref (ad E 70))]) hx hb d_Model_due_35 rfl hl (by decide) rfl (fun ls hl => ?_)
      refine lv_aload_n hx hb d_Model_due_36 rfl (lv_at hl 1 rfl) ?_
      obtain ⟨X7, hr6, h⟩ := bd_el h
      refine c_V hS (c_runV (As := []) (rest := []) C hS (by decide) cel_Model (rfl : cls[6]? = some (R_Model, T_Model, 16)) (k_Model_day (l := l) (E := E) (X := X) hr6) cw_Model_day ini_Model_day ins_Model_day sel_Model_day tw_980 hd_Model_day rfl ⟨⟨rfl, rfl⟩, (Nat.le_of_ble_eq_true rfl), (Nat.le_of_ble_eq_true rfl)⟩ ⟨(Nat.le_of_ble_eq_true rfl), (Nat.le_of_ble_eq_true rfl)⟩ hl.1 rfl (Nat.le_of_ble_eq_true rfl) d_Model_due_37) (fun H locs hS => ?_)
      refine lv_aload_n hx hb d_Model_due_40 rfl (lv_at hl 1 rfl) ?_
      refine lv_iconst (v := 0) hx hb d_Model_due_41 (by decide) ?_
      obtain ⟨v8, hr9, h⟩ := bd_el h
      refine c_I hS (c_runV (As := [.int (0 : Int32)]) (rest := []) C hS (by decide) cel_Model (rfl : cls[6]? = some (R_Model, T_Model, 16)) (k_Model_thoseThatAre (l := l) (E := E) (X := X7) hr9) cw_Model_thoseThatAre ini_Model_thoseThatAre ins_Model_thoseThatAre sel_Model_thoseThatAre tw_1000 hd_Model_thoseThatAre rfl ⟨⟨rfl, rfl⟩, (Nat.le_of_ble_eq_true rfl), (Nat.le_of_ble_eq_true rfl)⟩ ⟨(Nat.le_of_ble_eq_true rfl), (Nat.le_of_ble_eq_true rfl)⟩ hl.1 rfl (Nat.le_of_ble_eq_true rfl) d_Model_due_42) (fun H locs hS => ?_)
      refine lv_istore_n (lv' := [(2, .int v8), (1, .int v4), (0, .ref (ad E 70))]) hx hb d_Model_due_45 rfl hl (by decide) rfl (fun ls hl => ?_)
      refine lv_aload_n hx hb d_Model_due_46 rfl (lv_at hl 2 rfl) ?_
      refine r_get C hS (by decide) cel_Model (rfl : cls[6]? = some (R_Model, T_Model, 16)) in_Model 3 (by decide) tw_797 rfl d_Model_due_47 ?_
      refine lv_aload_n hx hb d_Model_due_50 rfl (lv_at hl 2 rfl) ?_
      refine r_get C hS (by decide) cel_Model (rfl : cls[6]? = some (R_Model, T_Model, 16)) in_Model 0 (by decide) tw_794 rfl d_Model_due_51 ?_
      obtain ⟨X11, hr10, h⟩ := bd_el h
      refine c_V hS (c_runS (As := [.ref (ad E 74), .ref (ad E 71)]) (rest := []) C hS (k_Model_copyRow (l := l) (E := E) (X := X7) rfl rfl hr10) cw_Model_copyRow ini_Model_copyRow sta_Model_copyRow tw_1012 hd_Model_copyRow rfl ⟨⟨rfl, rfl⟩, (Nat.le_of_ble_eq_true rfl), (Nat.le_of_ble_eq_true rfl)⟩ ⟨(Nat.le_of_ble_eq_true rfl), (Nat.le_of_ble_eq_true rfl)⟩ hl.1 rfl (Nat.le_of_ble_eq_true rfl) d_Model_due_54) (fun H locs hS => ?_)
      refine lv_iload_n hx hb d_Model_due_57 rfl (lv_at hl 1 rfl) ?_
      refine lv_iload_n hx hb d_Model_due_58 rfl (lv_at hl 0 rfl) ?_
      refine lv_iand hx hb d_Model_due_59 ?_
      replace h := lp_ret h hc11
      exact r_iret C hS rfl h d_Model_due_60
    · skip
      refine lv_aload_n hx hb d_Model_due_23 rfl (lv_at hl 0 rfl) ?_
      obtain ⟨X13, hr12, h⟩ := bd_el h
      refine c_V hS (c_runV (As := []) (rest := []) C hS (by decide) cel_Model (rfl : cls[6]? = some (R_Model, T_Model, 16)) (k_Model_day (l := l) (E := E) (X := X) hr12) cw_Model_day ini_Model_day ins_Model_day sel_Model_day tw_980 hd_Model_day rfl ⟨⟨rfl, rfl⟩, (Nat.le_of_ble_eq_true rfl), (Nat.le_of_ble_eq_true rfl)⟩ ⟨(Nat.le_of_ble_eq_true rfl), (Nat.le_of_ble_eq_true rfl)⟩ hl.1 rfl (Nat.le_of_ble_eq_true rfl) d_Model_due_24) (fun H locs hS => ?_)
      refine lv_goto (tgt := 11) hx hb d_Model_due_27 (by decide) ?_
      exact ih _ _ _ _ (lp_next h hc11) hS (lv_sub hl [0] rfl)
set_option maxHeartbeats 4000000 in
set_option maxRecDepth 100000 in
theorem k_Model_due {l : Launch} {E : En} {X : Mem} {r : Int32} {Y : Mem} (h : f_Model_due X = some (r, Y)) : Met l y_Model_due (Cond.code y_Model_due c_Model_due 3 (some .int) :: tb) ({ frames := 4, cells := 0, slots := 0, locals := 96 } : Room) (PreC E [.ref (ad E 70)] X) (PostI E r Y) 0 0 (Ad E) := by
  refine met_of (by decide) (Nat.le_of_ble_eq_true rfl) (fun p e s m below meth c C hS ls hl => ?_)
  replace C : Cx p s m ([.ref (ad E 70)] : List Value).toArray meth c c_Model_due 3 "TideLoansModel" (some .int) E := C
  replace hl : lv_has ls 3 [(0, .ref (ad E 70))] := hl
  obtain ⟨hx, hb, hml, hown, hts, hrt, hlk, hKx⟩ := id C
  unfold f_Model_due at h
  refine lv_aload_n hx hb d_Model_due_0 rfl (lv_at hl 0 rfl) ?_
  refine r_get C hS (by decide) cel_Model (rfl : cls[6]? = some (R_Model, T_Model, 16)) in_Model 0 (by decide) tw_794 rfl d_Model_due_1 ?_
  refine lv_aload_n hx hb d_Model_due_4 rfl (lv_at hl 0 rfl) ?_
  refine r_get C hS (by decide) cel_Model (rfl : cls[6]? = some (R_Model, T_Model, 16)) in_Model 3 (by decide) tw_797 rfl d_Model_due_5 ?_
  obtain ⟨X2, hr1, h⟩ := bd_el h
  refine c_V hS (c_runS (As := [.ref (ad E 71), .ref (ad E 74)]) (rest := []) C hS (k_Model_copyRow (l := l) (E := E) (X := X) rfl rfl hr1) cw_Model_copyRow ini_Model_copyRow sta_Model_copyRow tw_1012 hd_Model_copyRow rfl ⟨⟨rfl, rfl⟩, (Nat.le_of_ble_eq_true rfl), (Nat.le_of_ble_eq_true rfl)⟩ ⟨(Nat.le_of_ble_eq_true rfl), (Nat.le_of_ble_eq_true rfl)⟩ hl.1 rfl (Nat.le_of_ble_eq_true rfl) d_Model_due_8) (fun H locs hS => ?_)
  exact k_Model_due_b11 C FU _ _ _ _ h hS (lv_sub hl [0] rfl)
set_option maxHeartbeats 4000000 in
set_option maxRecDepth 100000 in
theorem k_Model_pursesOn {l : Launch} {E : En} {p1 : Int32} {X : Mem} {r : Int64} {Y : Mem} (h : f_Model_pursesOn p1 X = some (r, Y)) : Met l y_Model_pursesOn (Cond.code y_Model_pursesOn c_Model_pursesOn 4 (some .long) :: tb) ({ frames := 5, cells := 0, slots := 0, locals := 118 } : Room) (PreC E [.ref (ad E 70), .int p1] X) (PostL E r Y) 0 0 (Ad E) := by
  refine met_of (by decide) (Nat.le_of_ble_eq_true rfl) (fun p e s m below meth c C hS ls hl => ?_)
  replace C : Cx p s m ([.ref (ad E 70), .int p1] : List Value).toArray meth c c_Model_pursesOn 4 "TideLoansModel" (some .long) E := C
  replace hl : lv_has ls 4 [(0, .ref (ad E 70)), (1, .int p1)] := hl
  obtain ⟨hx, hb, hml, hown, hts, hrt, hlk, hKx⟩ := id C
  unfold f_Model_pursesOn at h
  refine lv_aload_n hx hb d_Model_pursesOn_0 rfl (lv_at hl 0 rfl) ?_
  refine r_get C hS (by decide) cel_Model (rfl : cls[6]? = some (R_Model, T_Model, 16)) in_Model 0 (by decide) tw_794 rfl d_Model_pursesOn_1 ?_
  refine lv_aload_n hx hb d_Model_pursesOn_4 rfl (lv_at hl 0 rfl) ?_
  refine r_get C hS (by decide) cel_Model (rfl : cls[6]? = some (R_Model, T_Model, 16)) in_Model 3 (by decide) tw_797 rfl d_Model_pursesOn_5 ?_
  obtain ⟨X2, hr1, h⟩ := bd_el h
  refine c_V hS (c_runS (As := [.ref (ad E 71), .ref (ad E 74)]) (rest := []) C hS (k_Model_copyRow (l := l) (E := E) (X := X) rfl rfl hr1) cw_Model_copyRow ini_Model_copyRow sta_Model_copyRow tw_1012 hd_Model_copyRow rfl ⟨⟨rfl, rfl⟩, (Nat.le_of_ble_eq_true rfl), (Nat.le_of_ble_eq_true rfl)⟩ ⟨(Nat.le_of_ble_eq_true rfl), (Nat.le_of_ble_eq_true rfl)⟩ hl.1 rfl (Nat.le_of_ble_eq_true rfl) d_Model_pursesOn_8) (fun H locs hS => ?_)
  refine lv_aload_n hx hb d_Model_pursesOn_11 rfl (lv_at hl 0 rfl) ?_
  refine lv_iload_n hx hb d_Model_pursesOn_12 rfl (lv_at hl 1 rfl) ?_
  obtain ⟨X4, hr3, h⟩ := bd_el h
  refine c_V hS (c_runV (As := [.int p1]) (rest := []) C hS (by decide) cel_Model (rfl : cls[6]? = some (R_Model, T_Model, 16)) (k_Model_goes (l := l) (E := E) (X := X2) hr3) cw_Model_goes ini_Model_goes ins_Model_goes sel_Model_goes tw_976 hd_Model_goes rfl ⟨⟨rfl, rfl⟩, (Nat.le_of_ble_eq_true rfl), (Nat.le_of_ble_eq_true rfl)⟩ ⟨(Nat.le_of_ble_eq_true rfl), (Nat.le_of_ble_eq_true rfl)⟩ hl.1 rfl (Nat.le_of_ble_eq_true rfl) d_Model_pursesOn_13) (fun H locs hS => ?_)
  refine lv_aload_n hx hb d_Model_pursesOn_16 rfl (lv_at hl 0 rfl) ?_
  obtain ⟨v5, hr6, h⟩ := bd_el h
  refine c_L hS (c_runV (As := []) (rest := []) C hS (by decide) cel_Model (rfl : cls[6]? = some (R_Model, T_Model, 16)) (k_Model_purses (l := l) (E := E) (X := X4) hr6) cw_Model_purses ini_Model_purses ins_Model_purses sel_Model_purses tw_992 hd_Model_purses rfl ⟨⟨rfl, rfl⟩, (Nat.le_of_ble_eq_true rfl), (Nat.le_of_ble_eq_true rfl)⟩ ⟨(Nat.le_of_ble_eq_true rfl), (Nat.le_of_ble_eq_true rfl)⟩ hl.1 rfl (Nat.le_of_ble_eq_true rfl) d_Model_pursesOn_17) (fun H locs hS => ?_)
  refine lv_lstore_n (lv' := [(2, .long v5), (0, .ref (ad E 70)), (1, .int p1)]) hx hb d_Model_pursesOn_20 rfl hl (by decide) rfl (fun ls hl => ?_)
  refine lv_aload_n hx hb d_Model_pursesOn_21 rfl (lv_at hl 1 rfl) ?_
  refine r_get C hS (by decide) cel_Model (rfl : cls[6]? = some (R_Model, T_Model, 16)) in_Model 3 (by decide) tw_797 rfl d_Model_pursesOn_22 ?_
  refine lv_aload_n hx hb d_Model_pursesOn_25 rfl (lv_at hl 1 rfl) ?_
  refine r_get C hS (by decide) cel_Model (rfl : cls[6]? = some (R_Model, T_Model, 16)) in_Model 0 (by decide) tw_794 rfl d_Model_pursesOn_26 ?_
  obtain ⟨X8, hr7, h⟩ := bd_el h
  refine c_V hS (c_runS (As := [.ref (ad E 74), .ref (ad E 71)]) (rest := []) C hS (k_Model_copyRow (l := l) (E := E) (X := X4) rfl rfl hr7) cw_Model_copyRow ini_Model_copyRow sta_Model_copyRow tw_1012 hd_Model_copyRow rfl ⟨⟨rfl, rfl⟩, (Nat.le_of_ble_eq_true rfl), (Nat.le_of_ble_eq_true rfl)⟩ ⟨(Nat.le_of_ble_eq_true rfl), (Nat.le_of_ble_eq_true rfl)⟩ hl.1 rfl (Nat.le_of_ble_eq_true rfl) d_Model_pursesOn_29) (fun H locs hS => ?_)
  refine lv_lload_n hx hb d_Model_pursesOn_32 rfl (lv_at hl 0 rfl) ?_
  exact r_lret C hS rfl h d_Model_pursesOn_33
def I_Model_spot_b69 (p : Program) (l : Launch) (e : Env) (s : State) (m : MethodId) (args : Array Value) (below : List Frame) (meth : Method) (c : Code) (E : En) (r : Int32) (Y : Mem) (x1 : Int32) (x2 : Int32) (x3 : Int32) (x4 : Int32) (n : Nat) (tg : (Int32 × Mem)) : Prop := ∀ (x5 : Int32) (x6 : Int64) (x8 : Int32) (X : Mem) (H : Heap) (locs : List Loc) (ls : Array Slot), it (fun a => f_Model_spot_b69 x1 x2 x3 x4 a.1 a.2.1 a.2.2.1 a.2.2.2) n (x5, x6, x8, X) = some tg → Hs E s.heap X H locs → lv_has ls 11 [(0, .ref (ad E 70)), (1, .int x1), (2, .int x2), (3, .int x3), (4, .int x4), (5, .int x5), (6, .long x6), (8, .int x8)] → W p l e ({ frames := 6, cells := 0, slots := 0, locals := 141 } : Room) s m args below meth c H locs 0 0 (MQ below (PostI E r Y) args s 0 0 (Ad E)) (F0 m 69 ls [])
set_option maxHeartbeats 4000000 in
set_option maxRecDepth 100000 in
theorem k_Model_spot_j122 {p : Program} {l : Launch} {e : Env} {s : State} {m : MethodId} {args : Array Value} {below : List Frame} {meth : Method} {c : Code} {E : En} {r : Int32} {Y : Mem} (C : Cx p s m args meth c c_Model_spot 11 "TideLoansModel" (some .int) E) {x1 : Int32} {x2 : Int32} {x3 : Int32} {x4 : Int32} {x5 : Int32} {x8 : Int32} {q0 : Int64} {X : Mem} {tg : ((Int32 × Mem) ⊕ (Int32 × Int64 × Int32 × Mem))} {n69 : Nat} (hc69 : fin (fun a => f_Model_spot_b69 x1 x2 x3 x4 a.1 a.2.1 a.2.2.1 a.2.2.2) n69 (r, Y) tg) (ih69 : I_Model_spot_b69 p l e s m args below meth c E r Y x1 x2 x3 x4 n69 (r, Y)) (h : f_Model_spot_j122 x1 x2 x3 x4 x5 x8 q0 X = some tg) {H : Heap} {locs : List Loc} (hS : Hs E s.heap X H locs) {ls : Array Slot} (hl : lv_has ls 11 [(0, .ref (ad E 70)), (1, .int x1), (2, .int x2), (3, .int x3), (4, .int x4), (5, .int x5), (8, .int x8)]) : W p l e ({ frames := 6, cells := 0, slots := 0, locals := 141 } : Room) s m args below meth c H locs 0 0 (MQ below (PostI E r Y) args s 0 0 (Ad E)) (F0 m 122 ls [.long q0]) := by
  obtain ⟨hx, hb, hml, hown, hts, hrt, hlk, hKx⟩ := id C
  unfold f_Model_spot_j122 at h
  refine lv_lstore (lv' := [(6, .long q0), (0, .ref (ad E 70)), (1, .int x1), (2, .int x2), (3, .int x3), (4, .int x4), (5, .int x5), (8, .int x8)]) hx hb d_Model_spot_122 hl (by decide) rfl (fun ls hl => ?_)
  refine r_iinc C (w := 1) (lv' := fun z => [(8, .int z), (6, .long q0), (0, .ref (ad E 70)), (1, .int x1), (2, .int x2), (3, .int x3), (4, .int x4), (5, .int x5)]) h d_Model_spot_124 hl (k := 7) rfl (by decide) (by decide) (fun _ => rfl) (fun v1 ls h hl => ?_)
  refine lv_goto (tgt := 69) hx hb d_Model_spot_127 (by decide) ?_
  exact ih69 _ _ _ _ _ _ _ (lp_next h hc69) hS (lv_sub hl [2, 3, 4, 5, 6, 7, 1, 0] rfl)
set_option maxHeartbeats 4000000 in
set_option maxRecDepth 100000 in
theorem k_Model_spot_j105 {p : Program} {l : Launch} {e : Env} {s : State} {m : MethodId} {args : Array Value} {below : List Frame} {meth : Method} {c : Code} {E : En} {r : Int32} {Y : Mem} (C : Cx p s m args meth c c_Model_spot 11 "TideLoansModel" (some .int) E) {x1 : Int32} {x2 : Int32} {x3 : Int32} {x4 : Int32} {x6 : Int64} {x8 : Int32} {x9 : Int64} {q0 : Int32} {X : Mem} {tg : ((Int32 × Mem) ⊕ (Int32 × Int64 × Int32 × Mem))} {n69 : Nat} (hc69 : fin (fun a => f_Model_spot_b69 x1 x2 x3 x4 a.1 a.2.1 a.2.2.1 a.2.2.2) n69 (r, Y) tg) (ih69 : I_Model_spot_b69 p l e s m args below meth c E r Y x1 x2 x3 x4 n69 (r, Y)) (h : f_Model_spot_j105 x1 x2 x3 x4 x6 x8 x9 q0 X = some tg) {H : Heap} {locs : List Loc} (hS : Hs E s.heap X H locs) {ls : Array Slot} (hl : lv_has ls 11 [(0, .ref (ad E 70)), (1, .int x1), (2, .int x2), (3, .int x3), (4, .int x4), (6, .long x6), (8, .int x8), (9, .long x9)]) : W p l e ({ frames := 6, cells := 0, slots := 0, locals := 141 } : Room) s m args below meth c H locs 0 0 (MQ below (PostI E r Y) args s 0 0 (Ad E)) (F0 m 105 ls [.int q0]) := by
  obtain ⟨hx, hb, hml, hown, hts, hrt, hlk, hKx⟩ := id C
  unfold f_Model_spot_j105 at h
  refine lv_istore (lv' := [(5, .int q0), (0, .ref (ad E 70)), (1, .int x1), (2, .int x2), (3, .int x3), (4, .int x4), (6, .long x6), (8, .int x8), (9, .long x9)]) hx hb d_Model_spot_105 hl (by decide) rfl (fun ls hl => ?_)
  refine lv_lload hx hb d_Model_spot_107 (lv_at hl 8 rfl) ?_
  refine lv_lload hx hb d_Model_spot_109 (lv_at hl 6 rfl) ?_
  refine W.lcmp hx hb d_Model_spot_111 ?_
  refine r_if_le (tgt := 120) C h d_Model_spot_112 (by decide) (fun h => ?_) (fun h => ?_)
  · skip
    refine lv_lload hx hb d_Model_spot_120 (lv_at hl 6 rfl) ?_
    exact k_Model_spot_j122 C hc69 ih69 h hS (lv_sub hl [1, 2, 3, 4, 5, 0, 7] rfl)
  · skip
    refine lv_lload hx hb d_Model_spot_115 (lv_at hl 8 rfl) ?_
    refine lv_goto (tgt := 122) hx hb d_Model_spot_117 (by decide) ?_
    exact k_Model_spot_j122 C hc69 ih69 h hS (lv_sub hl [1, 2, 3, 4, 5, 0, 7] rfl)
set_option maxHeartbeats 4000000 in
set_option maxRecDepth 100000 in
theorem k_Model_spot_b69 {p : Program} {l : Launch} {e : Env} {s : State} {m : MethodId} {args : Array Value} {below : List Frame} {meth : Method} {c : Code} {E : En} {r : Int32} {Y : Mem} (C : Cx p s m args meth c c_Model_spot 11 "TideLoansModel" (some .int) E) (x1 : Int32) (x2 : Int32) (x3 : Int32) (x4 : Int32) : ∀ n, I_Model_spot_b69 p l e s m args below meth c E r Y x1 x2 x3 x4 n (r, Y) := by
  obtain ⟨hx, hb, hml, hown, hts, hrt, hlk, hKx⟩ := id C
  intro n
  induction n with
  | zero => intro x5 x6 x8 X H locs ls h; exact it_0 h
  | succ n ih =>
    intro x5 x6 x8 X H locs ls h hS hl
    obtain ⟨cc69, h, hc69⟩ := it_el h
    replace h : f_Model_spot_b69 x1 x2 x3 x4 x5 x6 x8 X = some cc69 := h
    unfold f_Model_spot_b69 at h
    refine lv_iload hx hb d_Model_spot_69 (lv_at hl 7 rfl) ?_
    refine lv_bipush (v := 16) hx hb d_Model_spot_71 (by decide) ?_
    refine r_icmp_ge (tgt := 130) C h d_Model_spot_73 (by decide) (fun h => ?_) (fun h => ?_)
    · skip
      refine lv_aload_n hx hb d_Model_spot_130 rfl (lv_at hl 0 rfl) ?_
      refine r_get C hS (by decide) cel_Model (rfl : cls[6]? = some (R_Model, T_Model, 16)) in_Model 0 (by decide) tw_794 rfl d_Model_spot_131 ?_
      refine lv_iload_n hx hb d_Model_spot_134 rfl (lv_at hl 1 rfl) ?_
      refine lv_iconst (v := 2) hx hb d_Model_spot_135 (by decide) ?_
      obtain ⟨v1, hr2, h⟩ := bd_el h
      refine c_I hS (c_runS (As := [.int x1, .int (2 : Int32)]) (rest := [.ref (ad E 71)]) C hS (k_Model_at (l := l) (E := E) (X := X) hr2) cw_Model_at ini_Model_at sta_Model_at tw_914 hd_Model_at rfl ⟨⟨rfl, rfl⟩, (Nat.le_of_ble_eq_true rfl), (Nat.le_of_ble_eq_true rfl)⟩ ⟨(Nat.le_of_ble_eq_true rfl), (Nat.le_of_ble_eq_true rfl)⟩ hl.1 rfl (Nat.le_of_ble_eq_true rfl) d_Model_spot_136) (fun H locs hS => ?_)
      refine lv_iload_n hx hb d_Model_spot_139 rfl (lv_at hl 3 rfl) ?_
      refine r_stI C hS (n := 83) rfl (by decide) h d_Model_spot_140 (fun X3 H locs hS h => ?_)
      refine lv_aload_n hx hb d_Model_spot_141 rfl (lv_at hl 0 rfl) ?_
      refine r_get C hS (by decide) cel_Model (rfl : cls[6]? = some (R_Model, T_Model, 16)) in_Model 0 (by decide) tw_794 rfl d_Model_spot_142 ?_
      refine lv_iload_n hx hb d_Model_spot_145 rfl (lv_at hl 1 rfl) ?_
      refine lv_iconst (v := 4) hx hb d_Model_spot_146 (by decide) ?_
      obtain ⟨v4, hr5, h⟩ := bd_el h
      refine c_I hS (c_runS (As := [.int x1, .int (4 : Int32)]) (rest := [.ref (ad E 71)]) C hS (k_Model_at (l := l) (E := E) (X := X3) hr5) cw_Model_at ini_Model_at sta_Model_at tw_914 hd_Model_at rfl ⟨⟨rfl, rfl⟩, (Nat.le_of_ble_eq_true rfl), (Nat.le_of_ble_eq_true rfl)⟩ ⟨(Nat.le_of_ble_eq_true rfl), (Nat.le_of_ble_eq_true rfl)⟩ hl.1 rfl (Nat.le_of_ble_eq_true rfl) d_Model_spot_147) (fun H locs hS => ?_)
      refine lv_iload hx hb d_Model_spot_150 (lv_at hl 4 rfl) ?_
      refine r_stI C hS (n := 83) rfl (by decide) h d_Model_spot_152 (fun X6 H locs hS h => ?_)
      refine lv_iload hx hb d_Model_spot_153 (lv_at hl 5 rfl) ?_
      replace h := lp_ret h hc69
      exact r_iret C hS rfl h d_Model_spot_155
    · skip
      refine lv_aload_n hx hb d_Model_spot_76 rfl (lv_at hl 0 rfl) ?_
      refine lv_iload_n hx hb d_Model_spot_77 rfl (lv_at hl 1 rfl) ?_
      refine lv_iload hx hb d_Model_spot_78 (lv_at hl 7 rfl) ?_
      obtain ⟨X8, hr7, h⟩ := bd_el h
      refine c_V hS (c_runV (As := [.int x1, .int x8]) (rest := []) C hS (by decide) cel_Model (rfl : cls[6]? = some (R_Model, T_Model, 16)) (k_Model_lies (l := l) (E := E) (X := X) hr7) cw_Model_lies ini_Model_lies ins_Model_lies sel_Model_lies tw_959 hd_Model_lies rfl ⟨⟨rfl, rfl⟩, (Nat.le_of_ble_eq_true rfl), (Nat.le_of_ble_eq_true rfl)⟩ ⟨(Nat.le_of_ble_eq_true rfl), (Nat.le_of_ble_eq_true rfl)⟩ hl.1 rfl (Nat.le_of_ble_eq_true rfl) d_Model_spot_80) (fun H locs hS => ?_)
      refine lv_aload_n hx hb d_Model_spot_83 rfl (lv_at hl 0 rfl) ?_
      refine lv_iload_n hx hb d_Model_spot_84 rfl (lv_at hl 2 rfl) ?_
      obtain ⟨v9, X11, hr10, h⟩ := bd2_el h
      refine c_L hS (c_runV (As := [.int x2]) (rest := []) C hS (by decide) cel_Model (rfl : cls[6]? = some (R_Model, T_Model, 16)) (k_Model_pursesOn (l := l) (E := E) (X := X8) hr10) cw_Model_pursesOn ini_Model_pursesOn ins_Model_pursesOn sel_Model_pursesOn tw_1041 hd_Model_pursesOn rfl ⟨⟨rfl, rfl⟩, (Nat.le_of_ble_eq_true rfl), (Nat.le_of_ble_eq_true rfl)⟩ ⟨(Nat.le_of_ble_eq_true rfl), (Nat.le_of_ble_eq_true rfl)⟩ hl.1 rfl (Nat.le_of_ble_eq_true rfl) d_Model_spot_85) (fun H locs hS => ?_)
      refine lv_lstore (lv' := [(9, .long v9), (0, .ref (ad E 70)), (1, .int x1), (2, .int x2), (3, .int x3), (4, .int x4), (5, .int x5), (6, .long x6), (8, .int x8)]) hx hb d_Model_spot_88 hl (by decide) rfl (fun ls hl => ?_)
      refine lv_lload hx hb d_Model_spot_90 (lv_at hl 0 rfl) ?_
      refine lv_lload hx hb d_Model_spot_92 (lv_at hl 7 rfl) ?_
      refine W.lcmp hx hb d_Model_spot_94 ?_
      refine r_if_le (tgt := 103) C h d_Model_spot_95 (by decide) (fun h => ?_) (fun h => ?_)
      · skip
        refine lv_iload hx hb d_Model_spot_103 (lv_at hl 6 rfl) ?_
        exact k_Model_spot_j105 C hc69 ih h hS (lv_sub hl [1, 2, 3, 4, 5, 7, 8, 0] rfl)
      · skip
        refine lv_iload hx hb d_Model_spot_98 (lv_at hl 8 rfl) ?_
        refine lv_goto (tgt := 105) hx hb d_Model_spot_100 (by decide) ?_
        exact k_Model_spot_j105 C hc69 ih h hS (lv_sub hl [1, 2, 3, 4, 5, 7, 8, 0] rfl)
set_option maxHeartbeats 4000000 in
set_option maxRecDepth 100000 in
theorem k_Model_spot_j20 {p : Program} {l : Launch} {e : Env} {s : State} {m : MethodId} {args : Array Value} {below : List Frame} {meth : Method} {c : Code} {E : En} {r : Int32} {Y : Mem} (C : Cx p s m args meth c c_Model_spot 11 "TideLoansModel" (some .int) E) {X : Mem} (h : f_Model_spot_j20 X = some (r, Y)) {H : Heap} {locs : List Loc} (hS : Hs E s.heap X H locs) {ls : Array Slot} (hl : lv_has ls 11 [(0, .ref (ad E 70))]) : W p l e ({ frames := 6, cells := 0, slots := 0, locals := 141 } : Room) s m args below meth c H locs 0 0 (MQ below (PostI E r Y) args s 0 0 (Ad E)) (F0 m 20 ls []) := by
  obtain ⟨hx, hb, hml, hown, hts, hrt, hlk, hKx⟩ := id C
  unfold f_Model_spot_j20 at h
  refine lv_aload_n hx hb d_Model_spot_20 rfl (lv_at hl 0 rfl) ?_
  refine lv_ldc (v := -1000000001) hx hb hown (hts _ tw_858) d_Model_spot_21 ?_
  obtain ⟨v1, X3, hr2, h⟩ := bd2_el h
  refine c_I hS (c_runV (As := [.int (-1000000001 : Int32)]) (rest := []) C hS (by decide) cel_Model (rfl : cls[6]? = some (R_Model, T_Model, 16)) (k_Model_finds (l := l) (E := E) (X := X) hr2) cw_Model_finds ini_Model_finds ins_Model_finds sel_Model_finds tw_859 hd_Model_finds rfl ⟨⟨rfl, rfl⟩, (Nat.le_of_ble_eq_true rfl), (Nat.le_of_ble_eq_true rfl)⟩ ⟨(Nat.le_of_ble_eq_true rfl), (Nat.le_of_ble_eq_true rfl)⟩ hl.1 rfl (Nat.le_of_ble_eq_true rfl) d_Model_spot_23) (fun H locs hS => ?_)
  exact r_iret C hS rfl h d_Model_spot_26
set_option maxHeartbeats 4000000 in
set_option maxRecDepth 100000 in
theorem k_Model_spot {l : Launch} {E : En} {p1 : Int32} {p2 : Int32} {X : Mem} {r : Int32} {Y : Mem} (h : f_Model_spot p1 p2 X = some (r, Y)) : Met l y_Model_spot (Cond.code y_Model_spot c_Model_spot 11 (some .int) :: tb) ({ frames := 6, cells := 0, slots := 0, locals := 141 } : Room) (PreC E [.ref (ad E 70), .int p1, .int p2] X) (PostI E r Y) 0 0 (Ad E) := by
  refine met_of (by decide) (Nat.le_of_ble_eq_true rfl) (fun p e s m below meth c C hS ls hl => ?_)
  replace C : Cx p s m ([.ref (ad E 70), .int p1, .int p2] : List Value).toArray meth c c_Model_spot 11 "TideLoansModel" (some .int) E := C
  replace hl : lv_has ls 11 [(0, .ref (ad E 70)), (1, .int p1), (2, .int p2)] := hl
  obtain ⟨hx, hb, hml, hown, hts, hrt, hlk, hKx⟩ := id C
  unfold f_Model_spot at h
  refine lv_aload_n hx hb d_Model_spot_0 rfl (lv_at hl 0 rfl) ?_
  refine lv_iload_n hx hb d_Model_spot_1 rfl (lv_at hl 1 rfl) ?_
  obtain ⟨v1, hr2, h⟩ := bd_el h
  refine c_I hS (c_runV (As := [.int p1]) (rest := []) C hS (by decide) cel_Model (rfl : cls[6]? = some (R_Model, T_Model, 16)) (k_Model_isThing (l := l) (E := E) (X := X) hr2) cw_Model_isThing ini_Model_isThing ins_Model_isThing sel_Model_isThing tw_921 hd_Model_isThing rfl ⟨⟨rfl, rfl⟩, (Nat.le_of_ble_eq_true rfl), (Nat.le_of_ble_eq_true rfl)⟩ ⟨(Nat.le_of_ble_eq_true rfl), (Nat.le_of_ble_eq_true rfl)⟩ hl.1 rfl (Nat.le_of_ble_eq_true rfl) d_Model_spot_2) (fun H locs hS => ?_)
  refine r_if_eq (tgt := 20) C h d_Model_spot_5 (by decide) (fun h => ?_) (fun h => ?_)
  · skip
    exact k_Model_spot_j20 C h hS (lv_sub hl [0] rfl)
  · skip
    refine lv_iload_n hx hb d_Model_spot_8 rfl (lv_at hl 2 rfl) ?_
    refine lv_i2l hx hb d_Model_spot_9 rfl ?_
    refine lv_lconst (v := 1) hx hb d_Model_spot_10 (by decide) ?_
    refine lv_ldc2 (v := 100) hx hb hown (hts _ tw_937) d_Model_spot_11 ?_
    obtain ⟨v3, hr4, h⟩ := bd_el h
    refine c_I hS (c_runS (As := [.long (p2.toInt64), .long (1 : Int64), .long (100 : Int64)]) (rest := []) C hS (k_Model_isIn (l := l) (E := E) (X := X) hr4) cw_Model_isIn ini_Model_isIn sta_Model_isIn tw_851 hd_Model_isIn rfl ⟨⟨rfl, rfl⟩, (Nat.le_of_ble_eq_true rfl), (Nat.le_of_ble_eq_true rfl)⟩ ⟨(Nat.le_of_ble_eq_true rfl), (Nat.le_of_ble_eq_true rfl)⟩ hl.1 rfl (Nat.le_of_ble_eq_true rfl) d_Model_spot_14) (fun H locs hS => ?_)
    refine r_if_ne (tgt := 27) C h d_Model_spot_17 (by decide) (fun h => ?_) (fun h => ?_)
    · skip
      refine lv_aload_n hx hb d_Model_spot_27 rfl (lv_at hl 0 rfl) ?_
      refine lv_iload_n hx hb d_Model_spot_28 rfl (lv_at hl 1 rfl) ?_
      refine lv_iconst (v := 2) hx hb d_Model_spot_29 (by decide) ?_
      obtain ⟨v5, hr6, h⟩ := bd_el h
      refine c_I hS (c_runV (As := [.int p1, .int (2 : Int32)]) (rest := []) C hS (by decide) cel_Model (rfl : cls[6]? = some (R_Model, T_Model, 16)) (k_Model_isIt (l := l) (E := E) (X := X) hr6) cw_Model_isIt ini_Model_isIt ins_Model_isIt sel_Model_isIt tw_871 hd_Model_isIt rfl ⟨⟨rfl, rfl⟩, (Nat.le_of_ble_eq_true rfl), (Nat.le_of_ble_eq_true rfl)⟩ ⟨(Nat.le_of_ble_eq_true rfl), (Nat.le_of_ble_eq_true rfl)⟩ hl.1 rfl (Nat.le_of_ble_eq_true rfl) d_Model_spot_30) (fun H locs hS => ?_)
      refine r_if_eq (tgt := 43) C h d_Model_spot_33 (by decide) (fun h => ?_) (fun h => ?_)
      · skip
        refine lv_aload_n hx hb d_Model_spot_43 rfl (lv_at hl 0 rfl) ?_
        refine lv_iload_n hx hb d_Model_spot_44 rfl (lv_at hl 1 rfl) ?_
        refine lv_iconst (v := 2) hx hb d_Model_spot_45 (by decide) ?_
        obtain ⟨v7, hr8, h⟩ := bd_el h
        refine c_I hS (c_runV (As := [.int p1, .int (2 : Int32)]) (rest := []) C hS (by decide) cel_Model (rfl : cls[6]? = some (R_Model, T_Model, 16)) (k_Model_its (l := l) (E := E) (X := X) hr8) cw_Model_its ini_Model_its ins_Model_its sel_Model_its tw_875 hd_Model_its rfl ⟨⟨rfl, rfl⟩, (Nat.le_of_ble_eq_true rfl), (Nat.le_of_ble_eq_true rfl)⟩ ⟨(Nat.le_of_ble_eq_true rfl), (Nat.le_of_ble_eq_true rfl)⟩ hl.1 rfl (Nat.le_of_ble_eq_true rfl) d_Model_spot_46) (fun H locs hS => ?_)
        refine lv_istore_n (lv' := [(3, .int v7), (0, .ref (ad E 70)), (1, .int p1), (2, .int p2)]) hx hb d_Model_spot_49 rfl hl (by decide) rfl (fun ls hl => ?_)
        refine lv_aload_n hx hb d_Model_spot_50 rfl (lv_at hl 1 rfl) ?_
        refine lv_iload_n hx hb d_Model_spot_51 rfl (lv_at hl 2 rfl) ?_
        refine lv_iconst (v := 4) hx hb d_Model_spot_52 (by decide) ?_
        obtain ⟨v9, hr10, h⟩ := bd_el h
        refine c_I hS (c_runV (As := [.int p1, .int (4 : Int32)]) (rest := []) C hS (by decide) cel_Model (rfl : cls[6]? = some (R_Model, T_Model, 16)) (k_Model_its (l := l) (E := E) (X := X) hr10) cw_Model_its ini_Model_its ins_Model_its sel_Model_its tw_875 hd_Model_its rfl ⟨⟨rfl, rfl⟩, (Nat.le_of_ble_eq_true rfl), (Nat.le_of_ble_eq_true rfl)⟩ ⟨(Nat.le_of_ble_eq_true rfl), (Nat.le_of_ble_eq_true rfl)⟩ hl.1 rfl (Nat.le_of_ble_eq_true rfl) d_Model_spot_53) (fun H locs hS => ?_)
        refine lv_istore (lv' := [(4, .int v9), (3, .int v7), (0, .ref (ad E 70)), (1, .int p1), (2, .int p2)]) hx hb d_Model_spot_56 hl (by decide) rfl (fun ls hl => ?_)
        refine lv_iconst (v := 0) hx hb d_Model_spot_58 (by decide) ?_
        refine lv_istore (lv' := [(5, .int (0 : Int32)), (4, .int v9), (3, .int v7), (0, .ref (ad E 70)), (1, .int p1), (2, .int p2)]) hx hb d_Model_spot_59 hl (by decide) rfl (fun ls hl => ?_)
        refine lv_ldc2 (v := -1) hx hb hown (hts _ tw_1040) d_Model_spot_61 ?_
        refine lv_lstore (lv' := [(6, .long (-1 : Int64)), (5, .int (0 : Int32)), (4, .int v9), (3, .int v7), (0, .ref (ad E 70)), (1, .int p1), (2, .int p2)]) hx hb d_Model_spot_64 hl (by decide) rfl (fun ls hl => ?_)
        refine lv_iconst (v := 0) hx hb d_Model_spot_66 (by decide) ?_
        refine lv_istore (lv' := [(8, .int (0 : Int32)), (6, .long (-1 : Int64)), (5, .int (0 : Int32)), (4, .int v9), (3, .int v7), (0, .ref (ad E 70)), (1, .int p1), (2, .int p2)]) hx hb d_Model_spot_67 hl (by decide) rfl (fun ls hl => ?_)
        exact k_Model_spot_b69 C _ _ _ _ FU _ _ _ _ _ _ _ h hS (lv_sub hl [5, 6, 7, 4, 3, 2, 1, 0] rfl)
      · skip
        refine lv_aload_n hx hb d_Model_spot_36 rfl (lv_at hl 0 rfl) ?_
        refine lv_ldc (v := -1000000005) hx hb hown (hts _ tw_958) d_Model_spot_37 ?_
        obtain ⟨v11, X13, hr12, h⟩ := bd2_el h
        refine c_I hS (c_runV (As := [.int (-1000000005 : Int32)]) (rest := []) C hS (by decide) cel_Model (rfl : cls[6]? = some (R_Model, T_Model, 16)) (k_Model_finds (l := l) (E := E) (X := X) hr12) cw_Model_finds ini_Model_finds ins_Model_finds sel_Model_finds tw_859 hd_Model_finds rfl ⟨⟨rfl, rfl⟩, (Nat.le_of_ble_eq_true rfl), (Nat.le_of_ble_eq_true rfl)⟩ ⟨(Nat.le_of_ble_eq_true rfl), (Nat.le_of_ble_eq_true rfl)⟩ hl.1 rfl (Nat.le_of_ble_eq_true rfl) d_Model_spot_39) (fun H locs hS => ?_)
        exact r_iret C hS rfl h d_Model_spot_42
    · skip
      exact k_Model_spot_j20 C h hS (lv_sub hl [0] rfl)
