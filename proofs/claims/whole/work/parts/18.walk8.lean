set_option maxHeartbeats 4000000 in
set_option maxRecDepth 100000 in
theorem k_Model_image {l : Launch} {E : En} {X : Mem} {r : Int32} {Y : Mem} (h : f_Model_image X = some (r, Y)) : Met l y_Model_image (Cond.code y_Model_image c_Model_image 1 (some .int) :: tb) ({ frames := 1, cells := 0, slots := 0, locals := 22 } : Room) (PreC E [.ref (ad E 70)] X) (PostI E r Y) 0 0 (Ad E) := by
  refine met_of (by decide) (Nat.le_of_ble_eq_true rfl) (fun p e s m below meth c C hS ls hl => ?_)
  replace C : Cx p s m ([.ref (ad E 70)] : List Value).toArray meth c c_Model_image 1 "TideLoansModel" (some .int) E := C
  replace hl : lv_has ls 1 [(0, .ref (ad E 70))] := hl
  obtain ⟨hx, hb, hml, hown, hts, hrt, hlk, hKx⟩ := id C
  unfold f_Model_image at h
  refine lv_aload_n hx hb d_Model_image_0 rfl (lv_at hl 0 rfl) ?_
  refine r_get C hS (by decide) cel_Model (rfl : cls[6]? = some (R_Model, T_Model, 16)) in_Model 0 (by decide) tw_794 rfl d_Model_image_1 ?_
  refine lv_aload_n hx hb d_Model_image_4 rfl (lv_at hl 0 rfl) ?_
  refine r_get C hS (by decide) cel_Model (rfl : cls[6]? = some (R_Model, T_Model, 16)) in_Model 1 (by decide) tw_795 rfl d_Model_image_5 ?_
  obtain ⟨X2, hr1, h⟩ := bd_el h
  refine c_V hS (c_runS (As := [.ref (ad E 71), .ref (ad E 72)]) (rest := []) C hS (k_Model_copyRow (l := l) (E := E) (X := X) rfl rfl hr1) cw_Model_copyRow ini_Model_copyRow sta_Model_copyRow tw_1012 hd_Model_copyRow rfl ⟨⟨rfl, rfl⟩, (Nat.le_of_ble_eq_true rfl), (Nat.le_of_ble_eq_true rfl)⟩ ⟨(Nat.le_of_ble_eq_true rfl), (Nat.le_of_ble_eq_true rfl)⟩ hl.1 rfl (Nat.le_of_ble_eq_true rfl) d_Model_image_8) (fun H locs hS => ?_)
  refine lv_aload_n hx hb d_Model_image_11 rfl (lv_at hl 0 rfl) ?_
  refine lv_iconst (v := 1) hx hb d_Model_image_12 (by decide) ?_
  refine r_putI C hS (by decide) cel_Model (rfl : cls[6]? = some (R_Model, T_Model, 16)) in_Model ty_Model tyok_Model nm_Model 4 (by decide) tw_798 rfl rfl rfl (Nat.le_of_ble_eq_true rfl) set_Model_4 rfl h d_Model_image_13 (fun X3 H locs hS h => ?_)
  refine lv_iconst (v := 1) hx hb d_Model_image_16 (by decide) ?_
  exact r_iret C hS rfl h d_Model_image_17
set_option maxHeartbeats 4000000 in
set_option maxRecDepth 100000 in
theorem k_Model_undo {l : Launch} {E : En} {X : Mem} {r : Int32} {Y : Mem} (h : f_Model_undo X = some (r, Y)) : Met l y_Model_undo (Cond.code y_Model_undo c_Model_undo 1 (some .int) :: tb) ({ frames := 1, cells := 0, slots := 0, locals := 22 } : Room) (PreC E [.ref (ad E 70)] X) (PostI E r Y) 0 0 (Ad E) := by
  refine met_of (by decide) (Nat.le_of_ble_eq_true rfl) (fun p e s m below meth c C hS ls hl => ?_)
  replace C : Cx p s m ([.ref (ad E 70)] : List Value).toArray meth c c_Model_undo 1 "TideLoansModel" (some .int) E := C
  replace hl : lv_has ls 1 [(0, .ref (ad E 70))] := hl
  obtain ⟨hx, hb, hml, hown, hts, hrt, hlk, hKx⟩ := id C
  unfold f_Model_undo at h
  refine lv_aload_n hx hb d_Model_undo_0 rfl (lv_at hl 0 rfl) ?_
  refine r_getI C hS (by decide) cel_Model (rfl : cls[6]? = some (R_Model, T_Model, 16)) in_Model 4 (by decide) tw_798 rfl h d_Model_undo_1 (fun v1 h => ?_)
  refine r_if_ne (tgt := 14) C h d_Model_undo_4 (by decide) (fun h => ?_) (fun h => ?_)
  · skip
    refine lv_aload_n hx hb d_Model_undo_14 rfl (lv_at hl 0 rfl) ?_
    refine r_get C hS (by decide) cel_Model (rfl : cls[6]? = some (R_Model, T_Model, 16)) in_Model 1 (by decide) tw_795 rfl d_Model_undo_15 ?_
    refine lv_aload_n hx hb d_Model_undo_18 rfl (lv_at hl 0 rfl) ?_
    refine r_get C hS (by decide) cel_Model (rfl : cls[6]? = some (R_Model, T_Model, 16)) in_Model 0 (by decide) tw_794 rfl d_Model_undo_19 ?_
    obtain ⟨X3, hr2, h⟩ := bd_el h
    refine c_V hS (c_runS (As := [.ref (ad E 72), .ref (ad E 71)]) (rest := []) C hS (k_Model_copyRow (l := l) (E := E) (X := X) rfl rfl hr2) cw_Model_copyRow ini_Model_copyRow sta_Model_copyRow tw_1012 hd_Model_copyRow rfl ⟨⟨rfl, rfl⟩, (Nat.le_of_ble_eq_true rfl), (Nat.le_of_ble_eq_true rfl)⟩ ⟨(Nat.le_of_ble_eq_true rfl), (Nat.le_of_ble_eq_true rfl)⟩ hl.1 rfl (Nat.le_of_ble_eq_true rfl) d_Model_undo_22) (fun H locs hS => ?_)
    refine lv_aload_n hx hb d_Model_undo_25 rfl (lv_at hl 0 rfl) ?_
    refine r_get C hS (by decide) cel_Model (rfl : cls[6]? = some (R_Model, T_Model, 16)) in_Model 0 (by decide) tw_794 rfl d_Model_undo_26 ?_
    refine lv_iconst (v := 0) hx hb d_Model_undo_29 (by decide) ?_
    refine r_ldI C hS (n := 83) rfl (by decide) h d_Model_undo_30 (fun v4 h => ?_)
    exact r_iret C hS rfl h d_Model_undo_31
  · skip
    refine lv_aload_n hx hb d_Model_undo_7 rfl (lv_at hl 0 rfl) ?_
    refine lv_ldc (v := -1000000004) hx hb hown (hts _ tw_1027) d_Model_undo_8 ?_
    obtain ⟨v5, X7, hr6, h⟩ := bd2_el h
    refine c_I hS (c_runV (As := [.int (-1000000004 : Int32)]) (rest := []) C hS (by decide) cel_Model (rfl : cls[6]? = some (R_Model, T_Model, 16)) (k_Model_finds (l := l) (E := E) (X := X) hr6) cw_Model_finds ini_Model_finds ins_Model_finds sel_Model_finds tw_859 hd_Model_finds rfl ⟨⟨rfl, rfl⟩, (Nat.le_of_ble_eq_true rfl), (Nat.le_of_ble_eq_true rfl)⟩ ⟨(Nat.le_of_ble_eq_true rfl), (Nat.le_of_ble_eq_true rfl)⟩ hl.1 rfl (Nat.le_of_ble_eq_true rfl) d_Model_undo_10) (fun H locs hS => ?_)
    exact r_iret C hS rfl h d_Model_undo_13
set_option maxHeartbeats 4000000 in
set_option maxRecDepth 100000 in
theorem k_Model_tear {l : Launch} {E : En} {X : Mem} {r : Int32} {Y : Mem} (h : f_Model_tear X = some (r, Y)) : Met l y_Model_tear (Cond.code y_Model_tear c_Model_tear 2 (some .int) :: tb) ({ frames := 0, cells := 0, slots := 0, locals := 0 } : Room) (PreC E [.ref (ad E 70)] X) (PostI E r Y) 0 0 (Ad E) := by
  refine met_of (by decide) (Nat.le_of_ble_eq_true rfl) (fun p e s m below meth c C hS ls hl => ?_)
  replace C : Cx p s m ([.ref (ad E 70)] : List Value).toArray meth c c_Model_tear 2 "TideLoansModel" (some .int) E := C
  replace hl : lv_has ls 2 [(0, .ref (ad E 70))] := hl
  obtain ⟨hx, hb, hml, hown, hts, hrt, hlk, hKx⟩ := id C
  unfold f_Model_tear at h
  refine lv_aload_n hx hb d_Model_tear_0 rfl (lv_at hl 0 rfl) ?_
  refine r_getI C hS (by decide) cel_Model (rfl : cls[6]? = some (R_Model, T_Model, 16)) in_Model 4 (by decide) tw_798 rfl h d_Model_tear_1 (fun v1 h => ?_)
  refine lv_istore_n (lv' := [(1, .int v1), (0, .ref (ad E 70))]) hx hb d_Model_tear_4 rfl hl (by decide) rfl (fun ls hl => ?_)
  refine lv_aload_n hx hb d_Model_tear_5 rfl (lv_at hl 1 rfl) ?_
  refine lv_iconst (v := 0) hx hb d_Model_tear_6 (by decide) ?_
  refine r_putI C hS (by decide) cel_Model (rfl : cls[6]? = some (R_Model, T_Model, 16)) in_Model ty_Model tyok_Model nm_Model 4 (by decide) tw_798 rfl rfl rfl (Nat.le_of_ble_eq_true rfl) set_Model_4 rfl h d_Model_tear_7 (fun X2 H locs hS h => ?_)
  refine lv_iload_n hx hb d_Model_tear_10 rfl (lv_at hl 0 rfl) ?_
  refine r_if_eq (tgt := 18) C h d_Model_tear_11 (by decide) (fun h => ?_) (fun h => ?_)
  · skip
    refine lv_iconst (v := 0) hx hb d_Model_tear_18 (by decide) ?_
    exact r_iret C hS rfl h d_Model_tear_19
  · skip
    refine lv_iconst (v := 1) hx hb d_Model_tear_14 (by decide) ?_
    refine lv_goto (tgt := 19) hx hb d_Model_tear_15 (by decide) ?_
    exact r_iret C hS rfl h d_Model_tear_19
def I_Model_count_b55 (p : Program) (l : Launch) (e : Env) (s : State) (m : MethodId) (args : Array Value) (below : List Frame) (meth : Method) (c : Code) (E : En) (r : Int32) (Y : Mem) (X : Mem) (n : Nat) (tg : (Int32 × Mem)) : Prop := ∀ (x2 : Int32) (x3 : Int32) (H : Heap) (locs : List Loc) (ls : Array Slot), it (fun a => f_Model_count_b55 X a.1 a.2) n (x2, x3) = some tg → Hs E s.heap X H locs → lv_has ls 4 [(0, .ref (ad E 70)), (2, .int x2), (3, .int x3)] → W p l e ({ frames := 3, cells := 0, slots := 0, locals := 67 } : Room) s m args below meth c H locs 0 0 (MQ below (PostI E r Y) args s 0 0 (Ad E)) (F0 m 55 ls [])
set_option maxHeartbeats 4000000 in
set_option maxRecDepth 100000 in
theorem k_Model_count_b55 {p : Program} {l : Launch} {e : Env} {s : State} {m : MethodId} {args : Array Value} {below : List Frame} {meth : Method} {c : Code} {E : En} {r : Int32} {Y : Mem} (C : Cx p s m args meth c c_Model_count 4 "TideLoansModel" (some .int) E) {X : Mem} : ∀ n, I_Model_count_b55 p l e s m args below meth c E r Y X n (r, Y) := by
  obtain ⟨hx, hb, hml, hown, hts, hrt, hlk, hKx⟩ := id C
  intro n
  induction n with
  | zero => intro x2 x3 H locs ls h; exact it_0 h
  | succ n ih =>
    intro x2 x3 H locs ls h hS hl
    obtain ⟨cc55, h, hc55⟩ := it_el h
    replace h : f_Model_count_b55 X x2 x3 = some cc55 := h
    unfold f_Model_count_b55 at h
    refine lv_iload_n hx hb d_Model_count_55 rfl (lv_at hl 2 rfl) ?_
    refine lv_bipush (v := 16) hx hb d_Model_count_56 (by decide) ?_
    refine r_icmp_ge (tgt := 78) C h d_Model_count_58 (by decide) (fun h => ?_) (fun h => ?_)
    · skip
      refine lv_iload_n hx hb d_Model_count_78 rfl (lv_at hl 1 rfl) ?_
      replace h := lp_ret h hc55
      exact r_iret C hS rfl h d_Model_count_79
    · skip
      refine lv_iload_n hx hb d_Model_count_61 rfl (lv_at hl 1 rfl) ?_
      refine lv_aload_n hx hb d_Model_count_62 rfl (lv_at hl 0 rfl) ?_
      refine r_get C hS (by decide) cel_Model (rfl : cls[6]? = some (R_Model, T_Model, 16)) in_Model 0 (by decide) tw_794 rfl d_Model_count_63 ?_
      refine lv_iconst (v := 3) hx hb d_Model_count_66 (by decide) ?_
      refine lv_iload_n hx hb d_Model_count_67 rfl (lv_at hl 2 rfl) ?_
      refine lv_iadd hx hb d_Model_count_68 ?_
      refine r_ldI C hS (n := 83) rfl (by decide) h d_Model_count_69 (fun v1 h => ?_)
      refine lv_iadd hx hb d_Model_count_70 ?_
      refine r_top h (fun v2 h => ?_)
      refine lv_istore_n (lv' := [(2, .int v2), (0, .ref (ad E 70)), (3, .int x3)]) hx hb d_Model_count_71 rfl hl (by decide) rfl (fun ls hl => ?_)
      refine r_iinc C (w := 1) (lv' := fun z => [(3, .int z), (2, .int v2), (0, .ref (ad E 70))]) h d_Model_count_72 hl (k := 2) rfl (by decide) (by decide) (fun _ => rfl) (fun v3 ls h hl => ?_)
      refine lv_goto (tgt := 55) hx hb d_Model_count_75 (by decide) ?_
      exact ih _ _ _ _ _ (lp_next h hc55) hS (lv_sub hl [2, 1, 0] rfl)
set_option maxHeartbeats 4000000 in
set_option maxRecDepth 100000 in
theorem k_Model_count {l : Launch} {E : En} {p1 : Int32} {X : Mem} {r : Int32} {Y : Mem} (h : f_Model_count p1 X = some (r, Y)) : Met l y_Model_count (Cond.code y_Model_count c_Model_count 4 (some .int) :: tb) ({ frames := 3, cells := 0, slots := 0, locals := 67 } : Room) (PreC E [.ref (ad E 70), .int p1] X) (PostI E r Y) 0 0 (Ad E) := by
  refine met_of (by decide) (Nat.le_of_ble_eq_true rfl) (fun p e s m below meth c C hS ls hl => ?_)
  replace C : Cx p s m ([.ref (ad E 70), .int p1] : List Value).toArray meth c c_Model_count 4 "TideLoansModel" (some .int) E := C
  replace hl : lv_has ls 4 [(0, .ref (ad E 70)), (1, .int p1)] := hl
  obtain ⟨hx, hb, hml, hown, hts, hrt, hlk, hKx⟩ := id C
  unfold f_Model_count at h
  refine lv_iconst (v := 0) hx hb d_Model_count_0 (by decide) ?_
  refine lv_istore_n (lv' := [(2, .int (0 : Int32)), (0, .ref (ad E 70)), (1, .int p1)]) hx hb d_Model_count_1 rfl hl (by decide) rfl (fun ls hl => ?_)
  refine lv_iload_n hx hb d_Model_count_2 rfl (lv_at hl 2 rfl) ?_
  refine sw_c (v := 0) (w := 0) (by decide) h (fun hv h => ?_) (fun hn0 h => ?_)
  · refine r_tabIn C hv d_Model_count_3 (by decide) (by decide) rfl (tgt := 32) (by decide) ?_
    refine lv_aload_n hx hb d_Model_count_32 rfl (lv_at hl 1 rfl) ?_
    refine r_get C hS (by decide) cel_Model (rfl : cls[6]? = some (R_Model, T_Model, 16)) in_Model 0 (by decide) tw_794 rfl d_Model_count_33 ?_
    refine lv_iconst (v := 0) hx hb d_Model_count_36 (by decide) ?_
    refine r_ldI C hS (n := 83) rfl (by decide) h d_Model_count_37 (fun v1 h => ?_)
    exact r_iret C hS rfl h d_Model_count_38
  refine sw_c (v := 1) (w := 1) (by decide) h (fun hv h => ?_) (fun hn1 h => ?_)
  · refine r_tabIn C hv d_Model_count_3 (by decide) (by decide) rfl (tgt := 39) (by decide) ?_
    refine lv_aload_n hx hb d_Model_count_39 rfl (lv_at hl 1 rfl) ?_
    refine r_getI C hS (by decide) cel_Model (rfl : cls[6]? = some (R_Model, T_Model, 16)) in_Model 7 (by decide) tw_801 rfl h d_Model_count_40 (fun v2 h => ?_)
    exact r_iret C hS rfl h d_Model_count_43
  refine sw_c (v := 2) (w := 2) (by decide) h (fun hv h => ?_) (fun hn2 h => ?_)
  · refine r_tabIn C hv d_Model_count_3 (by decide) (by decide) rfl (tgt := 44) (by decide) ?_
    refine lv_aload_n hx hb d_Model_count_44 rfl (lv_at hl 1 rfl) ?_
    refine lv_iconst (v := 0) hx hb d_Model_count_45 (by decide) ?_
    obtain ⟨v3, hr4, h⟩ := bd_el h
    refine c_I hS (c_runV (As := [.int (0 : Int32)]) (rest := []) C hS (by decide) cel_Model (rfl : cls[6]? = some (R_Model, T_Model, 16)) (k_Model_thoseThatAre (l := l) (E := E) (X := X) hr4) cw_Model_thoseThatAre ini_Model_thoseThatAre ins_Model_thoseThatAre sel_Model_thoseThatAre tw_1000 hd_Model_thoseThatAre rfl ⟨⟨rfl, rfl⟩, (Nat.le_of_ble_eq_true rfl), (Nat.le_of_ble_eq_true rfl)⟩ ⟨(Nat.le_of_ble_eq_true rfl), (Nat.le_of_ble_eq_true rfl)⟩ hl.1 rfl (Nat.le_of_ble_eq_true rfl) d_Model_count_46) (fun H locs hS => ?_)
    obtain ⟨v5, hr6, h⟩ := bd_el h
    refine c_I hS (c_runS (As := [.int v3]) (rest := []) C hS (k_Model_many (l := l) (E := E) (X := X) hr6) cw_Model_many ini_Model_many sta_Model_many tw_963 hd_Model_many rfl ⟨⟨rfl, rfl⟩, (Nat.le_of_ble_eq_true rfl), (Nat.le_of_ble_eq_true rfl)⟩ ⟨(Nat.le_of_ble_eq_true rfl), (Nat.le_of_ble_eq_true rfl)⟩ hl.1 rfl (Nat.le_of_ble_eq_true rfl) d_Model_count_49) (fun H locs hS => ?_)
    exact r_iret C hS rfl h d_Model_count_52
  refine sw_c (v := 3) (w := 3) (by decide) h (fun hv h => ?_) (fun hn3 h => ?_)
  · refine r_tabIn C hv d_Model_count_3 (by decide) (by decide) rfl (tgt := 53) (by decide) ?_
    refine lv_iconst (v := 0) hx hb d_Model_count_53 (by decide) ?_
    refine lv_istore_n (lv' := [(3, .int (0 : Int32)), (2, .int (0 : Int32)), (0, .ref (ad E 70)), (1, .int p1)]) hx hb d_Model_count_54 rfl hl (by decide) rfl (fun ls hl => ?_)
    exact k_Model_count_b55 C FU _ _ _ _ _ h hS (lv_sub hl [2, 1, 0] rfl)
  refine lv_tableOut (tgt := 80) hx hb d_Model_count_3 (out_e (k := 4) (out_s (k := 3) (k1 := 4) (out_s (k := 2) (k1 := 3) (out_s (k := 1) (k1 := 2) (out_s (k := 0) (k1 := 1) out_0 hn0 (by decide)) hn1 (by decide)) hn2 (by decide)) hn3 (by decide)) (by decide)) (by decide) ?_
  refine lv_aload_n hx hb d_Model_count_80 rfl (lv_at hl 1 rfl) ?_
  refine lv_ldc (v := -1000000001) hx hb hown (hts _ tw_858) d_Model_count_81 ?_
  obtain ⟨v7, X9, hr8, h⟩ := bd2_el h
  refine c_I hS (c_runV (As := [.int (-1000000001 : Int32)]) (rest := []) C hS (by decide) cel_Model (rfl : cls[6]? = some (R_Model, T_Model, 16)) (k_Model_finds (l := l) (E := E) (X := X) hr8) cw_Model_finds ini_Model_finds ins_Model_finds sel_Model_finds tw_859 hd_Model_finds rfl ⟨⟨rfl, rfl⟩, (Nat.le_of_ble_eq_true rfl), (Nat.le_of_ble_eq_true rfl)⟩ ⟨(Nat.le_of_ble_eq_true rfl), (Nat.le_of_ble_eq_true rfl)⟩ hl.1 rfl (Nat.le_of_ble_eq_true rfl) d_Model_count_83) (fun H locs hS => ?_)
  exact r_iret C hS rfl h d_Model_count_86
set_option maxHeartbeats 4000000 in
set_option maxRecDepth 100000 in
theorem k_Model_status {l : Launch} {E : En} {p1 : Int32} {X : Mem} {r : Int32} {Y : Mem} (h : f_Model_status p1 X = some (r, Y)) : Met l y_Model_status (Cond.code y_Model_status c_Model_status 2 (some .int) :: tb) ({ frames := 1, cells := 0, slots := 0, locals := 25 } : Room) (PreC E [.ref (ad E 70), .int p1] X) (PostI E r Y) 0 0 (Ad E) := by
  refine met_of (by decide) (Nat.le_of_ble_eq_true rfl) (fun p e s m below meth c C hS ls hl => ?_)
  replace C : Cx p s m ([.ref (ad E 70), .int p1] : List Value).toArray meth c c_Model_status 2 "TideLoansModel" (some .int) E := C
  replace hl : lv_has ls 2 [(0, .ref (ad E 70)), (1, .int p1)] := hl
  obtain ⟨hx, hb, hml, hown, hts, hrt, hlk, hKx⟩ := id C
  unfold f_Model_status at h
  refine lv_iload_n hx hb d_Model_status_0 rfl (lv_at hl 1 rfl) ?_
  refine lv_i2l hx hb d_Model_status_1 rfl ?_
  refine lv_ldc2 (v := -1) hx hb hown (hts _ tw_1040) d_Model_status_2 ?_
  refine lv_ldc2 (v := 6) hx hb hown (hts _ tw_1206) d_Model_status_5 ?_
  obtain ⟨v1, hr2, h⟩ := bd_el h
  refine c_I hS (c_runS (As := [.long (p1.toInt64), .long (-1 : Int64), .long (6 : Int64)]) (rest := []) C hS (k_Model_isIn (l := l) (E := E) (X := X) hr2) cw_Model_isIn ini_Model_isIn sta_Model_isIn tw_851 hd_Model_isIn rfl ⟨⟨rfl, rfl⟩, (Nat.le_of_ble_eq_true rfl), (Nat.le_of_ble_eq_true rfl)⟩ ⟨(Nat.le_of_ble_eq_true rfl), (Nat.le_of_ble_eq_true rfl)⟩ hl.1 rfl (Nat.le_of_ble_eq_true rfl) d_Model_status_8) (fun H locs hS => ?_)
  refine r_if_eq (tgt := 25) C h d_Model_status_11 (by decide) (fun h => ?_) (fun h => ?_)
  · skip
    refine lv_aload_n hx hb d_Model_status_25 rfl (lv_at hl 0 rfl) ?_
    refine lv_ldc (v := -1000000001) hx hb hown (hts _ tw_858) d_Model_status_26 ?_
    obtain ⟨v3, X5, hr4, h⟩ := bd2_el h
    refine c_I hS (c_runV (As := [.int (-1000000001 : Int32)]) (rest := []) C hS (by decide) cel_Model (rfl : cls[6]? = some (R_Model, T_Model, 16)) (k_Model_finds (l := l) (E := E) (X := X) hr4) cw_Model_finds ini_Model_finds ins_Model_finds sel_Model_finds tw_859 hd_Model_finds rfl ⟨⟨rfl, rfl⟩, (Nat.le_of_ble_eq_true rfl), (Nat.le_of_ble_eq_true rfl)⟩ ⟨(Nat.le_of_ble_eq_true rfl), (Nat.le_of_ble_eq_true rfl)⟩ hl.1 rfl (Nat.le_of_ble_eq_true rfl) d_Model_status_28) (fun H locs hS => ?_)
    exact r_iret C hS rfl h d_Model_status_31
  · skip
    refine lv_aload_n hx hb d_Model_status_14 rfl (lv_at hl 0 rfl) ?_
    refine r_get C hS (by decide) cel_Model (rfl : cls[6]? = some (R_Model, T_Model, 16)) in_Model 5 (by decide) tw_799 rfl d_Model_status_15 ?_
    refine lv_iload_n hx hb d_Model_status_18 rfl (lv_at hl 1 rfl) ?_
    refine lv_iconst (v := 1) hx hb d_Model_status_19 (by decide) ?_
    refine lv_iadd hx hb d_Model_status_20 ?_
    refine r_ldI C hS (n := 8) rfl (by decide) h d_Model_status_21 (fun v6 h => ?_)
    refine lv_goto (tgt := 31) hx hb d_Model_status_22 (by decide) ?_
    exact r_iret C hS rfl h d_Model_status_31
