set_option maxHeartbeats 4000000 in
set_option maxRecDepth 100000 in
theorem k_Tide_follow {l : Launch} {E : En} {p1 : Int32} {p2 : Int32} {X : Mem} {Y : Mem} (h : f_Tide_follow p1 p2 X = some Y) : Met l y_Tide_follow (Cond.code y_Tide_follow c_Tide_follow 4 none :: tb) ({ frames := 6, cells := 0, slots := 0, locals := 137 } : Room) (PreC E [.ref (ad E 0), .int p1, .int p2] X) (PostV E Y) 0 0 (Ad E) := by
  refine met_of (by decide) (Nat.le_of_ble_eq_true rfl) (fun p e s m below meth c C hS ls hl => ?_)
  replace C : Cx p s m ([.ref (ad E 0), .int p1, .int p2] : List Value).toArray meth c c_Tide_follow 4 "TideLoans" none E := C
  replace hl : lv_has ls 4 [(0, .ref (ad E 0)), (1, .int p1), (2, .int p2)] := hl
  obtain ⟨hx, hb, hml, hown, hts, hrt, hlk, hKx⟩ := id C
  unfold f_Tide_follow at h
  refine lv_aload_n hx hb d_Tide_follow_0 rfl (lv_at hl 0 rfl) ?_
  refine r_get C hS (by decide) cel_Tide (rfl : cls[5]? = some (R_Tide, T_Tide, 12)) in_Tide 1 (by decide) tw_237 rfl d_Tide_follow_1 ?_
  refine r_get C hS (by decide) (cel_Shore (rfl : kd 2 = 1)) (rfl : cls[1]? = some (R_Shore, T_Shore, 6)) in_Shore 2 (by decide) tw_136 rfl d_Tide_follow_4 ?_
  refine lv_iload_n hx hb d_Tide_follow_7 rfl (lv_at hl 1 rfl) ?_
  refine r_ldT C hS (kd_things rfl) h d_Tide_follow_8 (fun j1 hj1 h => ?_)
  refine lv_astore_n (lv' := [(3, .ref (ad E ((2 + 3) + 1 + j1))), (0, .ref (ad E 0)), (1, .int p1), (2, .int p2)]) hx hb d_Tide_follow_9 rfl hl (by decide) rfl (fun ls hl => ?_)
  refine lv_aload_n hx hb d_Tide_follow_10 rfl (lv_at hl 1 rfl) ?_
  refine r_get C hS (by decide) cel_Tide (rfl : cls[5]? = some (R_Tide, T_Tide, 12)) in_Tide 6 (by decide) tw_242 rfl d_Tide_follow_11 ?_
  refine lv_iload_n hx hb d_Tide_follow_14 rfl (lv_at hl 2 rfl) ?_
  refine r_ldW C hS h d_Tide_follow_15 (fun j2 hj2 h => ?_)
  refine lv_aload_n hx hb d_Tide_follow_16 rfl (lv_at hl 0 rfl) ?_
  refine lv_aload_n hx hb d_Tide_follow_17 rfl (lv_at hl 1 rfl) ?_
  refine r_get C hS (by decide) cel_Tide (rfl : cls[5]? = some (R_Tide, T_Tide, 12)) in_Tide 1 (by decide) tw_237 rfl d_Tide_follow_18 ?_
  refine r_get C hS (by decide) (cel_Shore (rfl : kd 2 = 1)) (rfl : cls[1]? = some (R_Shore, T_Shore, 6)) in_Shore 0 (by decide) tw_132 rfl d_Tide_follow_21 ?_
  refine lv_aload_n hx hb d_Tide_follow_24 rfl (lv_at hl 0 rfl) ?_
  refine r_getI C hS (kd_lt (kd_thing (kd_things rfl) hj1) (by decide)) (cel_Thing (kd_thing (kd_things rfl) hj1)) (rfl : cls[3]? = some (R_Thing, T_Thing, 6)) in_Thing 2 (by decide) tw_106 rfl h d_Tide_follow_25 (fun v3 h => ?_)
  refine r_ldI C hS (n := 16) (kd_heights rfl) (by decide) h d_Tide_follow_28 (fun v4 h => ?_)
  refine lv_aload_n hx hb d_Tide_follow_29 rfl (lv_at hl 1 rfl) ?_
  refine r_get C hS (by decide) cel_Tide (rfl : cls[5]? = some (R_Tide, T_Tide, 12)) in_Tide 1 (by decide) tw_237 rfl d_Tide_follow_30 ?_
  refine r_getI C hS (by decide) (cel_Shore (rfl : kd 2 = 1)) (rfl : cls[1]? = some (R_Shore, T_Shore, 6)) in_Shore 4 (by decide) tw_140 rfl h d_Tide_follow_33 (fun v5 h => ?_)
  refine lv_iload_n hx hb d_Tide_follow_36 rfl (lv_at hl 3 rfl) ?_
  obtain ⟨X7, hr6, h⟩ := bd_el h
  refine c_V hS (c_runV (As := [.ref (ad E ((2 + 3) + 1 + j1)), .int v4, .int v5, .int p2]) (rest := []) C hS (kd_lt (kd_way hj2) (by decide)) (cel_Way (kd_way hj2)) (rfl : cls[4]? = some (R_Way, T_Way, 5)) (k_Way_follow (l := l) (E := E) (X := X) (kd_way hj2) (kd_thing (kd_things rfl) hj1) hr6) cw_Way_follow ini_Way_follow ins_Way_follow sel_Way_follow tw_421 hd_Way_follow rfl ⟨⟨rfl, rfl⟩, (Nat.le_of_ble_eq_true rfl), (Nat.le_of_ble_eq_true rfl)⟩ ⟨(Nat.le_of_ble_eq_true rfl), (Nat.le_of_ble_eq_true rfl)⟩ hl.1 rfl (Nat.le_of_ble_eq_true rfl) d_Tide_follow_37) (fun H locs hS => ?_)
  exact r_vret C hS rfl h d_Tide_follow_40
def I_Tide_followAll_b2 (p : Program) (l : Launch) (e : Env) (s : State) (m : MethodId) (args : Array Value) (below : List Frame) (meth : Method) (c : Code) (E : En) (Y : Mem) (x1 : Int32) (n : Nat) (tg : Mem) : Prop := ∀ (x2 : Int32) (X : Mem) (H : Heap) (locs : List Loc) (ls : Array Slot), it (fun a => f_Tide_followAll_b2 x1 a.1 a.2) n (x2, X) = some tg → Hs E s.heap X H locs → lv_has ls 3 [(0, .ref (ad E 0)), (1, .int x1), (2, .int x2)] → W p l e ({ frames := 7, cells := 0, slots := 0, locals := 160 } : Room) s m args below meth c H locs 0 0 (MQ below (PostV E Y) args s 0 0 (Ad E)) (F0 m 2 ls [])
set_option maxHeartbeats 4000000 in
set_option maxRecDepth 100000 in
theorem k_Tide_followAll_b2 {p : Program} {l : Launch} {e : Env} {s : State} {m : MethodId} {args : Array Value} {below : List Frame} {meth : Method} {c : Code} {E : En} {Y : Mem} (C : Cx p s m args meth c c_Tide_followAll 3 "TideLoans" none E) (x1 : Int32) : ∀ n, I_Tide_followAll_b2 p l e s m args below meth c E Y x1 n Y := by
  obtain ⟨hx, hb, hml, hown, hts, hrt, hlk, hKx⟩ := id C
  intro n
  induction n with
  | zero => intro x2 X H locs ls h; exact it_0 h
  | succ n ih =>
    intro x2 X H locs ls h hS hl
    obtain ⟨cc2, h, hc2⟩ := it_el h
    replace h : f_Tide_followAll_b2 x1 x2 X = some cc2 := h
    unfold f_Tide_followAll_b2 at h
    refine lv_iload_n hx hb d_Tide_followAll_2 rfl (lv_at hl 2 rfl) ?_
    refine lv_aload_n hx hb d_Tide_followAll_3 rfl (lv_at hl 0 rfl) ?_
    refine r_get C hS (by decide) cel_Tide (rfl : cls[5]? = some (R_Tide, T_Tide, 12)) in_Tide 1 (by decide) tw_237 rfl d_Tide_followAll_4 ?_
    refine r_getI C hS (by decide) (cel_Shore (rfl : kd 2 = 1)) (rfl : cls[1]? = some (R_Shore, T_Shore, 6)) in_Shore 3 (by decide) tw_138 rfl h d_Tide_followAll_7 (fun v1 h => ?_)
    refine r_icmp_ge (tgt := 25) C h d_Tide_followAll_10 (by decide) (fun h => ?_) (fun h => ?_)
    · skip
      replace h := lp_ret h hc2
      exact r_vret C hS rfl h d_Tide_followAll_25
    · skip
      refine lv_aload_n hx hb d_Tide_followAll_13 rfl (lv_at hl 0 rfl) ?_
      refine lv_iload_n hx hb d_Tide_followAll_14 rfl (lv_at hl 2 rfl) ?_
      refine lv_iload_n hx hb d_Tide_followAll_15 rfl (lv_at hl 1 rfl) ?_
      obtain ⟨X3, hr2, h⟩ := bd_el h
      refine c_V hS (c_runV (As := [.int x2, .int x1]) (rest := []) C hS (by decide) cel_Tide (rfl : cls[5]? = some (R_Tide, T_Tide, 12)) (k_Tide_follow (l := l) (E := E) (X := X) hr2) cw_Tide_follow ini_Tide_follow ins_Tide_follow sel_Tide_follow tw_417 hd_Tide_follow rfl ⟨⟨rfl, rfl⟩, (Nat.le_of_ble_eq_true rfl), (Nat.le_of_ble_eq_true rfl)⟩ ⟨(Nat.le_of_ble_eq_true rfl), (Nat.le_of_ble_eq_true rfl)⟩ hl.1 rfl (Nat.le_of_ble_eq_true rfl) d_Tide_followAll_16) (fun H locs hS => ?_)
      refine r_iinc C (w := 1) (lv' := fun z => [(2, .int z), (0, .ref (ad E 0)), (1, .int x1)]) h d_Tide_followAll_19 hl (k := 2) rfl (by decide) (by decide) (fun _ => rfl) (fun v4 ls h hl => ?_)
      refine lv_goto (tgt := 2) hx hb d_Tide_followAll_22 (by decide) ?_
      exact ih _ _ _ _ _ (lp_next h hc2) hS (lv_sub hl [1, 2, 0] rfl)
set_option maxHeartbeats 4000000 in
set_option maxRecDepth 100000 in
theorem k_Tide_followAll {l : Launch} {E : En} {p1 : Int32} {X : Mem} {Y : Mem} (h : f_Tide_followAll p1 X = some Y) : Met l y_Tide_followAll (Cond.code y_Tide_followAll c_Tide_followAll 3 none :: tb) ({ frames := 7, cells := 0, slots := 0, locals := 160 } : Room) (PreC E [.ref (ad E 0), .int p1] X) (PostV E Y) 0 0 (Ad E) := by
  refine met_of (by decide) (Nat.le_of_ble_eq_true rfl) (fun p e s m below meth c C hS ls hl => ?_)
  replace C : Cx p s m ([.ref (ad E 0), .int p1] : List Value).toArray meth c c_Tide_followAll 3 "TideLoans" none E := C
  replace hl : lv_has ls 3 [(0, .ref (ad E 0)), (1, .int p1)] := hl
  obtain ⟨hx, hb, hml, hown, hts, hrt, hlk, hKx⟩ := id C
  unfold f_Tide_followAll at h
  refine lv_iconst (v := 0) hx hb d_Tide_followAll_0 (by decide) ?_
  refine lv_istore_n (lv' := [(2, .int (0 : Int32)), (0, .ref (ad E 0)), (1, .int p1)]) hx hb d_Tide_followAll_1 rfl hl (by decide) rfl (fun ls hl => ?_)
  exact k_Tide_followAll_b2 C _ FU _ _ _ _ _ h hS (lv_sub hl [1, 2, 0] rfl)
set_option maxHeartbeats 4000000 in
set_option maxRecDepth 100000 in
theorem k_Tide_filled {l : Launch} {E : En} {p0 : Int32} {p1 : Int32} {X : Mem} {r : Int32} (h : f_Tide_filled p0 p1 = some r) : Met l y_Tide_filled (Cond.code y_Tide_filled c_Tide_filled 2 (some .int) :: tb) ({ frames := 1, cells := 0, slots := 0, locals := 30 } : Room) (PreC E [.int p0, .int p1] X) (PostI E r X) 0 0 (Ad E) := by
  refine met_of (by decide) (Nat.le_of_ble_eq_true rfl) (fun p e s m below meth c C hS ls hl => ?_)
  replace C : Cx p s m ([.int p0, .int p1] : List Value).toArray meth c c_Tide_filled 2 "TideLoans" (some .int) E := C
  replace hl : lv_has ls 2 [(0, .int p0), (1, .int p1)] := hl
  obtain ⟨hx, hb, hml, hown, hts, hrt, hlk, hKx⟩ := id C
  unfold f_Tide_filled at h
  refine lv_ldc (v := 999999999) hx hb hown (hts _ tw_322) d_Tide_filled_0 ?_
  refine lv_iload_n hx hb d_Tide_filled_2 rfl (lv_at hl 0 rfl) ?_
  refine lv_iload_n hx hb d_Tide_filled_3 rfl (lv_at hl 1 rfl) ?_
  refine lv_iadd hx hb d_Tide_filled_4 ?_
  refine va_mmin hx hb (hml.trans hl.1.symm) hown (hts _ tw_456) (hts _ tw_457) (hts _ tw_71) (hts _ code_va_mmin) (Nat.le_of_ble_eq_true rfl) (Nat.le_of_ble_eq_true rfl) (Nat.le_of_ble_eq_true rfl) (Nat.le_of_ble_eq_true rfl) d_Tide_filled_5 ?_
  refine r_top h (fun v1 h => ?_)
  exact r_iret0 C hS rfl h d_Tide_filled_8
set_option maxHeartbeats 4000000 in
set_option maxRecDepth 100000 in
theorem k_Tide_bring {l : Launch} {E : En} {k1 : Nat} {k2 : Nat} {X : Mem} {Y : Mem} (hk1 : kd k1 = 2) (hk2 : kd k2 = 3) (h : f_Tide_bring k1 k2 X = some Y) : Met l y_Tide_bring (Cond.code y_Tide_bring c_Tide_bring 3 none :: tb) ({ frames := 6, cells := 0, slots := 0, locals := 136 } : Room) (PreC E [.ref (ad E 0), .ref (ad E k1), .ref (ad E k2)] X) (PostV E Y) 0 0 (Ad E) := by
  refine met_of (by decide) (Nat.le_of_ble_eq_true rfl) (fun p e s m below meth c C hS ls hl => ?_)
  replace C : Cx p s m ([.ref (ad E 0), .ref (ad E k1), .ref (ad E k2)] : List Value).toArray meth c c_Tide_bring 3 "TideLoans" none E := C
  replace hl : lv_has ls 3 [(0, .ref (ad E 0)), (1, .ref (ad E k1)), (2, .ref (ad E k2))] := hl
  obtain ⟨hx, hb, hml, hown, hts, hrt, hlk, hKx⟩ := id C
  unfold f_Tide_bring at h
  refine lv_aload_n hx hb d_Tide_bring_0 rfl (lv_at hl 0 rfl) ?_
  refine r_get C hS (by decide) cel_Tide (rfl : cls[5]? = some (R_Tide, T_Tide, 12)) in_Tide 1 (by decide) tw_237 rfl d_Tide_bring_1 ?_
  refine r_get C hS (by decide) (cel_Shore (rfl : kd 2 = 1)) (rfl : cls[1]? = some (R_Shore, T_Shore, 6)) in_Shore 1 (by decide) tw_134 rfl d_Tide_bring_4 ?_
  refine lv_aload_n hx hb d_Tide_bring_7 rfl (lv_at hl 1 rfl) ?_
  refine r_getI C hS (kd_lt hk1 (by decide)) (cel_Thing hk1) (rfl : cls[3]? = some (R_Thing, T_Thing, 6)) in_Thing 1 (by decide) tw_103 rfl h d_Tide_bring_8 (fun v1 h => ?_)
  refine lv_aload_n hx hb d_Tide_bring_11 rfl (lv_at hl 0 rfl) ?_
  refine r_get C hS (by decide) cel_Tide (rfl : cls[5]? = some (R_Tide, T_Tide, 12)) in_Tide 1 (by decide) tw_237 rfl d_Tide_bring_12 ?_
  refine r_get C hS (by decide) (cel_Shore (rfl : kd 2 = 1)) (rfl : cls[1]? = some (R_Shore, T_Shore, 6)) in_Shore 1 (by decide) tw_134 rfl d_Tide_bring_15 ?_
  refine lv_aload_n hx hb d_Tide_bring_18 rfl (lv_at hl 1 rfl) ?_
  refine r_getI C hS (kd_lt hk1 (by decide)) (cel_Thing hk1) (rfl : cls[3]? = some (R_Thing, T_Thing, 6)) in_Thing 1 (by decide) tw_103 rfl h d_Tide_bring_19 (fun v2 h => ?_)
  refine r_ldI C hS (n := 4) (kd_purses rfl) (by decide) h d_Tide_bring_22 (fun v3 h => ?_)
  refine lv_aload_n hx hb d_Tide_bring_23 rfl (lv_at hl 2 rfl) ?_
  refine lv_aload_n hx hb d_Tide_bring_24 rfl (lv_at hl 1 rfl) ?_
  refine lv_aload_n hx hb d_Tide_bring_25 rfl (lv_at hl 0 rfl) ?_
  refine r_get C hS (by decide) cel_Tide (rfl : cls[5]? = some (R_Tide, T_Tide, 12)) in_Tide 1 (by decide) tw_237 rfl d_Tide_bring_26 ?_
  refine r_getI C hS (by decide) (cel_Shore (rfl : kd 2 = 1)) (rfl : cls[1]? = some (R_Shore, T_Shore, 6)) in_Shore 5 (by decide) tw_142 rfl h d_Tide_bring_29 (fun v4 h => ?_)
  obtain ⟨v5, hr6, h⟩ := bd_el h
  refine c_I hS (c_runV (As := [.ref (ad E k1), .int v4]) (rest := [.int v3, .int v1, .ref (ad E (2 + 2))]) C hS (kd_lt hk2 (by decide)) (cel_Way hk2) (rfl : cls[4]? = some (R_Way, T_Way, 5)) (k_Way_brings (l := l) (E := E) (X := X) hk2 hk1 hr6) cw_Way_brings ini_Way_brings ins_Way_brings sel_Way_brings tw_448 hd_Way_brings rfl ⟨⟨rfl, rfl⟩, (Nat.le_of_ble_eq_true rfl), (Nat.le_of_ble_eq_true rfl)⟩ ⟨(Nat.le_of_ble_eq_true rfl), (Nat.le_of_ble_eq_true rfl)⟩ hl.1 rfl (Nat.le_of_ble_eq_true rfl) d_Tide_bring_32) (fun H locs hS => ?_)
  obtain ⟨v7, hr8, h⟩ := bd_el h
  refine c_I hS (c_runS (As := [.int v3, .int v5]) (rest := [.int v1, .ref (ad E (2 + 2))]) C hS (k_Tide_filled (l := l) (E := E) (X := X) hr8) cw_Tide_filled ini_Tide_filled sta_Tide_filled tw_453 hd_Tide_filled rfl ⟨⟨rfl, rfl⟩, (Nat.le_of_ble_eq_true rfl), (Nat.le_of_ble_eq_true rfl)⟩ ⟨(Nat.le_of_ble_eq_true rfl), (Nat.le_of_ble_eq_true rfl)⟩ hl.1 rfl (Nat.le_of_ble_eq_true rfl) d_Tide_bring_35) (fun H locs hS => ?_)
  refine r_stI C hS (n := 4) (kd_purses rfl) (by decide) h d_Tide_bring_38 (fun X9 H locs hS h => ?_)
  refine lv_aload_n hx hb d_Tide_bring_39 rfl (lv_at hl 1 rfl) ?_
  refine lv_aload_n hx hb d_Tide_bring_40 rfl (lv_at hl 2 rfl) ?_
  refine r_getI C hS (kd_lt hk2 (by decide)) (cel_Way hk2) (rfl : cls[4]? = some (R_Way, T_Way, 5)) in_Way 3 (by decide) tw_203 rfl h d_Tide_bring_41 (fun v10 h => ?_)
  refine r_putI C hS (kd_lt hk1 (by decide)) (cel_Thing hk1) (rfl : cls[3]? = some (R_Thing, T_Thing, 6)) in_Thing ty_Thing tyok_Thing nm_Thing 4 (by decide) tw_113 rfl rfl rfl (Nat.le_of_ble_eq_true rfl) (set_Thing_4 hk1) rfl h d_Tide_bring_44 (fun X11 H locs hS h => ?_)
  refine lv_aload_n hx hb d_Tide_bring_47 rfl (lv_at hl 1 rfl) ?_
  refine lv_aload_n hx hb d_Tide_bring_48 rfl (lv_at hl 2 rfl) ?_
  refine r_getI C hS (kd_lt hk2 (by decide)) (cel_Way hk2) (rfl : cls[4]? = some (R_Way, T_Way, 5)) in_Way 4 (by decide) tw_205 rfl h d_Tide_bring_49 (fun v12 h => ?_)
  refine r_putI C hS (kd_lt hk1 (by decide)) (cel_Thing hk1) (rfl : cls[3]? = some (R_Thing, T_Thing, 6)) in_Thing ty_Thing tyok_Thing nm_Thing 5 (by decide) tw_116 rfl rfl rfl (Nat.le_of_ble_eq_true rfl) (set_Thing_5 hk1) rfl h d_Tide_bring_52 (fun X13 H locs hS h => ?_)
  exact r_vret C hS rfl h d_Tide_bring_55
def I_Tide_days_b48 (p : Program) (l : Launch) (e : Env) (s : State) (m : MethodId) (args : Array Value) (below : List Frame) (meth : Method) (c : Code) (E : En) (r : Int64) (Y : Mem) (x1 : Int32) (n : Nat) (tg : (Int64 × Mem)) : Prop := ∀ (x2 : Int32) (X : Mem) (H : Heap) (locs : List Loc) (ls : Array Slot), it (fun a => f_Tide_days_b48 x1 a.1 a.2) n (x2, X) = some tg → Hs E s.heap X H locs → lv_has ls 3 [(0, .ref (ad E 0)), (1, .int x1), (2, .int x2)] → W p l e ({ frames := 8, cells := 0, slots := 0, locals := 182 } : Room) s m args below meth c H locs 0 0 (MQ below (PostL E r Y) args s 0 0 (Ad E)) (F0 m 48 ls [])
set_option maxHeartbeats 4000000 in
set_option maxRecDepth 100000 in
theorem k_Tide_days_b48 {p : Program} {l : Launch} {e : Env} {s : State} {m : MethodId} {args : Array Value} {below : List Frame} {meth : Method} {c : Code} {E : En} {r : Int64} {Y : Mem} (C : Cx p s m args meth c c_Tide_days 3 "TideLoans" (some .long) E) (x1 : Int32) : ∀ n, I_Tide_days_b48 p l e s m args below meth c E r Y x1 n (r, Y) := by
  obtain ⟨hx, hb, hml, hown, hts, hrt, hlk, hKx⟩ := id C
  intro n
  induction n with
  | zero => intro x2 X H locs ls h; exact it_0 h
  | succ n ih =>
    intro x2 X H locs ls h hS hl
    obtain ⟨cc48, h, hc48⟩ := it_el h
    replace h : f_Tide_days_b48 x1 x2 X = some cc48 := h
    unfold f_Tide_days_b48 at h
    refine lv_iload_n hx hb d_Tide_days_48 rfl (lv_at hl 2 rfl) ?_
    refine lv_aload_n hx hb d_Tide_days_49 rfl (lv_at hl 0 rfl) ?_
    refine r_get C hS (by decide) cel_Tide (rfl : cls[5]? = some (R_Tide, T_Tide, 12)) in_Tide 1 (by decide) tw_237 rfl d_Tide_days_50 ?_
    refine r_getI C hS (by decide) (cel_Shore (rfl : kd 2 = 1)) (rfl : cls[1]? = some (R_Shore, T_Shore, 6)) in_Shore 3 (by decide) tw_138 rfl h d_Tide_days_53 (fun v1 h => ?_)
    refine r_icmp_ge (tgt := 84) C h d_Tide_days_56 (by decide) (fun h => ?_) (fun h => ?_)
    · skip
      refine lv_aload_n hx hb d_Tide_days_84 rfl (lv_at hl 0 rfl) ?_
      refine r_get C hS (by decide) cel_Tide (rfl : cls[5]? = some (R_Tide, T_Tide, 12)) in_Tide 1 (by decide) tw_237 rfl d_Tide_days_85 ?_
      refine lv_dup hx hb d_Tide_days_88 rfl ?_
      refine r_getI C hS (by decide) (cel_Shore (rfl : kd 2 = 1)) (rfl : cls[1]? = some (R_Shore, T_Shore, 6)) in_Shore 4 (by decide) tw_140 rfl h d_Tide_days_89 (fun v2 h => ?_)
      refine lv_iload_n hx hb d_Tide_days_92 rfl (lv_at hl 1 rfl) ?_
      refine lv_iadd hx hb d_Tide_days_93 ?_
      refine r_putI C hS (by decide) (cel_Shore (rfl : kd 2 = 1)) (rfl : cls[1]? = some (R_Shore, T_Shore, 6)) in_Shore ty_Shore tyok_Shore nm_Shore 4 (by decide) tw_140 rfl rfl rfl (Nat.le_of_ble_eq_true rfl) (set_Shore_4 (rfl : kd 2 = 1)) rfl h d_Tide_days_94 (fun X3 H locs hS h => ?_)
      refine lv_aload_n hx hb d_Tide_days_97 rfl (lv_at hl 0 rfl) ?_
      refine r_get C hS (by decide) cel_Tide (rfl : cls[5]? = some (R_Tide, T_Tide, 12)) in_Tide 1 (by decide) tw_237 rfl d_Tide_days_98 ?_
      obtain ⟨v4, hr5, h⟩ := bd_el h
      refine c_L hS (c_runV (As := []) (rest := []) C hS (by decide) (cel_Shore (rfl : kd 2 = 1)) (rfl : cls[1]? = some (R_Shore, T_Shore, 6)) (k_Shore_allPurses (l := l) (E := E) (X := X3) rfl hr5) cw_Shore_allPurses ini_Shore_allPurses ins_Shore_allPurses sel_Shore_allPurses tw_459 hd_Shore_allPurses rfl ⟨⟨rfl, rfl⟩, (Nat.le_of_ble_eq_true rfl), (Nat.le_of_ble_eq_true rfl)⟩ ⟨(Nat.le_of_ble_eq_true rfl), (Nat.le_of_ble_eq_true rfl)⟩ hl.1 rfl (Nat.le_of_ble_eq_true rfl) d_Tide_days_101) (fun H locs hS => ?_)
      replace h := lp_ret h hc48
      exact r_lret C hS rfl h d_Tide_days_104
    · skip
      refine lv_aload_n hx hb d_Tide_days_59 rfl (lv_at hl 0 rfl) ?_
      refine lv_aload_n hx hb d_Tide_days_60 rfl (lv_at hl 0 rfl) ?_
      refine r_get C hS (by decide) cel_Tide (rfl : cls[5]? = some (R_Tide, T_Tide, 12)) in_Tide 1 (by decide) tw_237 rfl d_Tide_days_61 ?_
      refine r_get C hS (by decide) (cel_Shore (rfl : kd 2 = 1)) (rfl : cls[1]? = some (R_Shore, T_Shore, 6)) in_Shore 2 (by decide) tw_136 rfl d_Tide_days_64 ?_
      refine lv_iload_n hx hb d_Tide_days_67 rfl (lv_at hl 2 rfl) ?_
      refine r_ldT C hS (kd_things rfl) h d_Tide_days_68 (fun j6 hj6 h => ?_)
      refine lv_aload_n hx hb d_Tide_days_69 rfl (lv_at hl 0 rfl) ?_
      refine r_get C hS (by decide) cel_Tide (rfl : cls[5]? = some (R_Tide, T_Tide, 12)) in_Tide 6 (by decide) tw_242 rfl d_Tide_days_70 ?_
      refine lv_iload_n hx hb d_Tide_days_73 rfl (lv_at hl 2 rfl) ?_
      refine r_ldW C hS h d_Tide_days_74 (fun j7 hj7 h => ?_)
      obtain ⟨X9, hr8, h⟩ := bd_el h
      refine c_V hS (c_runV (As := [.ref (ad E ((2 + 3) + 1 + j6)), .ref (ad E (60 + j7))]) (rest := []) C hS (by decide) cel_Tide (rfl : cls[5]? = some (R_Tide, T_Tide, 12)) (k_Tide_bring (l := l) (E := E) (X := X) (kd_thing (kd_things rfl) hj6) (kd_way hj7) hr8) cw_Tide_bring ini_Tide_bring ins_Tide_bring sel_Tide_bring tw_444 hd_Tide_bring rfl ⟨⟨rfl, rfl⟩, (Nat.le_of_ble_eq_true rfl), (Nat.le_of_ble_eq_true rfl)⟩ ⟨(Nat.le_of_ble_eq_true rfl), (Nat.le_of_ble_eq_true rfl)⟩ hl.1 rfl (Nat.le_of_ble_eq_true rfl) d_Tide_days_75) (fun H locs hS => ?_)
      refine r_iinc C (w := 1) (lv' := fun z => [(2, .int z), (0, .ref (ad E 0)), (1, .int x1)]) h d_Tide_days_78 hl (k := 2) rfl (by decide) (by decide) (fun _ => rfl) (fun v10 ls h hl => ?_)
      refine lv_goto (tgt := 48) hx hb d_Tide_days_81 (by decide) ?_
      exact ih _ _ _ _ _ (lp_next h hc48) hS (lv_sub hl [1, 2, 0] rfl)
set_option maxHeartbeats 4000000 in
set_option maxRecDepth 100000 in
theorem k_Tide_days {l : Launch} {E : En} {p1 : Int32} {X : Mem} {r : Int64} {Y : Mem} (h : f_Tide_days p1 X = some (r, Y)) : Met l y_Tide_days (Cond.code y_Tide_days c_Tide_days 3 (some .long) :: tb) ({ frames := 8, cells := 0, slots := 0, locals := 182 } : Room) (PreC E [.ref (ad E 0), .int p1] X) (PostL E r Y) 0 0 (Ad E) := by
  refine met_of (by decide) (Nat.le_of_ble_eq_true rfl) (fun p e s m below meth c C hS ls hl => ?_)
  replace C : Cx p s m ([.ref (ad E 0), .int p1] : List Value).toArray meth c c_Tide_days 3 "TideLoans" (some .long) E := C
  replace hl : lv_has ls 3 [(0, .ref (ad E 0)), (1, .int p1)] := hl
  obtain ⟨hx, hb, hml, hown, hts, hrt, hlk, hKx⟩ := id C
  unfold f_Tide_days at h
  refine lv_iload_n hx hb d_Tide_days_0 rfl (lv_at hl 1 rfl) ?_
  refine lv_iconst (v := 1) hx hb d_Tide_days_1 (by decide) ?_
  refine lv_sipush (v := 400) hx hb d_Tide_days_2 (by decide) ?_
  obtain ⟨v1, hr2, h⟩ := bd_el h
  refine c_I hS (c_runS (As := [.int p1, .int (1 : Int32), .int (400 : Int32)]) (rest := []) C hS (k_Tide_isUpTo (l := l) (E := E) (X := X) hr2) cw_Tide_isUpTo ini_Tide_isUpTo sta_Tide_isUpTo tw_297 hd_Tide_isUpTo rfl ⟨⟨rfl, rfl⟩, (Nat.le_of_ble_eq_true rfl), (Nat.le_of_ble_eq_true rfl)⟩ ⟨(Nat.le_of_ble_eq_true rfl), (Nat.le_of_ble_eq_true rfl)⟩ hl.1 rfl (Nat.le_of_ble_eq_true rfl) d_Tide_days_5) (fun H locs hS => ?_)
  refine r_if_ne (tgt := 19) C h d_Tide_days_8 (by decide) (fun h => ?_) (fun h => ?_)
  · skip
    refine lv_aload_n hx hb d_Tide_days_19 rfl (lv_at hl 0 rfl) ?_
    refine r_get C hS (by decide) cel_Tide (rfl : cls[5]? = some (R_Tide, T_Tide, 12)) in_Tide 1 (by decide) tw_237 rfl d_Tide_days_20 ?_
    refine r_getI C hS (by decide) (cel_Shore (rfl : kd 2 = 1)) (rfl : cls[1]? = some (R_Shore, T_Shore, 6)) in_Shore 4 (by decide) tw_140 rfl h d_Tide_days_23 (fun v3 h => ?_)
    refine lv_iload_n hx hb d_Tide_days_26 rfl (lv_at hl 1 rfl) ?_
    refine lv_iadd hx hb d_Tide_days_27 ?_
    refine lv_ldc (v := 99999) hx hb hown (hts _ tw_304) d_Tide_days_28 ?_
    refine r_icmp_le (tgt := 41) C h d_Tide_days_30 (by decide) (fun h => ?_) (fun h => ?_)
    · skip
      refine lv_aload_n hx hb d_Tide_days_41 rfl (lv_at hl 0 rfl) ?_
      refine lv_iload_n hx hb d_Tide_days_42 rfl (lv_at hl 1 rfl) ?_
      obtain ⟨X5, hr4, h⟩ := bd_el h
      refine c_V hS (c_runV (As := [.int p1]) (rest := []) C hS (by decide) cel_Tide (rfl : cls[5]? = some (R_Tide, T_Tide, 12)) (k_Tide_followAll (l := l) (E := E) (X := X) hr4) cw_Tide_followAll ini_Tide_followAll ins_Tide_followAll sel_Tide_followAll tw_413 hd_Tide_followAll rfl ⟨⟨rfl, rfl⟩, (Nat.le_of_ble_eq_true rfl), (Nat.le_of_ble_eq_true rfl)⟩ ⟨(Nat.le_of_ble_eq_true rfl), (Nat.le_of_ble_eq_true rfl)⟩ hl.1 rfl (Nat.le_of_ble_eq_true rfl) d_Tide_days_43) (fun H locs hS => ?_)
      refine lv_iconst (v := 0) hx hb d_Tide_days_46 (by decide) ?_
      refine lv_istore_n (lv' := [(2, .int (0 : Int32)), (0, .ref (ad E 0)), (1, .int p1)]) hx hb d_Tide_days_47 rfl hl (by decide) rfl (fun ls hl => ?_)
      exact k_Tide_days_b48 C _ FU _ _ _ _ _ h hS (lv_sub hl [1, 2, 0] rfl)
    · skip
      refine lv_aload_n hx hb d_Tide_days_33 rfl (lv_at hl 0 rfl) ?_
      refine lv_ldc (v := -1000000005) hx hb hown (hts _ tw_394) d_Tide_days_34 ?_
      obtain ⟨v6, X8, hr7, h⟩ := bd2_el h
      refine c_I hS (c_runV (As := [.int (-1000000005 : Int32)]) (rest := []) C hS (by decide) cel_Tide (rfl : cls[5]? = some (R_Tide, T_Tide, 12)) (k_Tide_finding (l := l) (E := E) (X := X) hr7) cw_Tide_finding ini_Tide_finding ins_Tide_finding sel_Tide_finding tw_281 hd_Tide_finding rfl ⟨⟨rfl, rfl⟩, (Nat.le_of_ble_eq_true rfl), (Nat.le_of_ble_eq_true rfl)⟩ ⟨(Nat.le_of_ble_eq_true rfl), (Nat.le_of_ble_eq_true rfl)⟩ hl.1 rfl (Nat.le_of_ble_eq_true rfl) d_Tide_days_36) (fun H locs hS => ?_)
      refine lv_i2l hx hb d_Tide_days_39 rfl ?_
      exact r_lret C hS rfl h d_Tide_days_40
  · skip
    refine lv_aload_n hx hb d_Tide_days_11 rfl (lv_at hl 0 rfl) ?_
    refine lv_ldc (v := -1000000001) hx hb hown (hts _ tw_280) d_Tide_days_12 ?_
    obtain ⟨v9, X11, hr10, h⟩ := bd2_el h
    refine c_I hS (c_runV (As := [.int (-1000000001 : Int32)]) (rest := []) C hS (by decide) cel_Tide (rfl : cls[5]? = some (R_Tide, T_Tide, 12)) (k_Tide_finding (l := l) (E := E) (X := X) hr10) cw_Tide_finding ini_Tide_finding ins_Tide_finding sel_Tide_finding tw_281 hd_Tide_finding rfl ⟨⟨rfl, rfl⟩, (Nat.le_of_ble_eq_true rfl), (Nat.le_of_ble_eq_true rfl)⟩ ⟨(Nat.le_of_ble_eq_true rfl), (Nat.le_of_ble_eq_true rfl)⟩ hl.1 rfl (Nat.le_of_ble_eq_true rfl) d_Tide_days_14) (fun H locs hS => ?_)
    refine lv_i2l hx hb d_Tide_days_17 rfl ?_
    exact r_lret C hS rfl h d_Tide_days_18
def I_Tide_allOwedNow_b4 (p : Program) (l : Launch) (e : Env) (s : State) (m : MethodId) (args : Array Value) (below : List Frame) (meth : Method) (c : Code) (E : En) (r : Int32) (X : Mem) (n : Nat) (tg : Int32) : Prop := ∀ (x1 : Int32) (x2 : Int32) (H : Heap) (locs : List Loc) (ls : Array Slot), it (fun a => f_Tide_allOwedNow_b4 X a.1 a.2) n (x1, x2) = some tg → Hs E s.heap X H locs → lv_has ls 3 [(0, .ref (ad E 0)), (1, .int x1), (2, .int x2)] → W p l e ({ frames := 6, cells := 0, slots := 0, locals := 135 } : Room) s m args below meth c H locs 0 0 (MQ below (PostI E r X) args s 0 0 (Ad E)) (F0 m 4 ls [])
set_option maxHeartbeats 4000000 in
set_option maxRecDepth 100000 in
theorem k_Tide_allOwedNow_b4 {p : Program} {l : Launch} {e : Env} {s : State} {m : MethodId} {args : Array Value} {below : List Frame} {meth : Method} {c : Code} {E : En} {r : Int32} (C : Cx p s m args meth c c_Tide_allOwedNow 3 "TideLoans" (some .int) E) {X : Mem} : ∀ n, I_Tide_allOwedNow_b4 p l e s m args below meth c E r X n r := by
  obtain ⟨hx, hb, hml, hown, hts, hrt, hlk, hKx⟩ := id C
  intro n
  induction n with
  | zero => intro x1 x2 H locs ls h; exact it_0 h
  | succ n ih =>
    intro x1 x2 H locs ls h hS hl
    obtain ⟨cc4, h, hc4⟩ := it_el h
    replace h : f_Tide_allOwedNow_b4 X x1 x2 = some cc4 := h
    unfold f_Tide_allOwedNow_b4 at h
    refine lv_iload_n hx hb d_Tide_allOwedNow_4 rfl (lv_at hl 2 rfl) ?_
    refine lv_aload_n hx hb d_Tide_allOwedNow_5 rfl (lv_at hl 0 rfl) ?_
    refine r_get C hS (by decide) cel_Tide (rfl : cls[5]? = some (R_Tide, T_Tide, 12)) in_Tide 1 (by decide) tw_237 rfl d_Tide_allOwedNow_6 ?_
    refine r_getI C hS (by decide) (cel_Shore (rfl : kd 2 = 1)) (rfl : cls[1]? = some (R_Shore, T_Shore, 6)) in_Shore 3 (by decide) tw_138 rfl h d_Tide_allOwedNow_9 (fun v1 h => ?_)
    refine r_icmp_ge (tgt := 37) C h d_Tide_allOwedNow_12 (by decide) (fun h => ?_) (fun h => ?_)
    · skip
      refine lv_iload_n hx hb d_Tide_allOwedNow_37 rfl (lv_at hl 1 rfl) ?_
      replace h := lp_ret h hc4
      exact r_iret0 C hS rfl h d_Tide_allOwedNow_38
    · skip
      refine lv_iload_n hx hb d_Tide_allOwedNow_15 rfl (lv_at hl 1 rfl) ?_
      refine lv_aload_n hx hb d_Tide_allOwedNow_16 rfl (lv_at hl 0 rfl) ?_
      refine lv_aload_n hx hb d_Tide_allOwedNow_17 rfl (lv_at hl 0 rfl) ?_
      refine r_get C hS (by decide) cel_Tide (rfl : cls[5]? = some (R_Tide, T_Tide, 12)) in_Tide 1 (by decide) tw_237 rfl d_Tide_allOwedNow_18 ?_
      refine r_get C hS (by decide) (cel_Shore (rfl : kd 2 = 1)) (rfl : cls[1]? = some (R_Shore, T_Shore, 6)) in_Shore 2 (by decide) tw_136 rfl d_Tide_allOwedNow_21 ?_
      refine lv_iload_n hx hb d_Tide_allOwedNow_24 rfl (lv_at hl 2 rfl) ?_
      refine r_ldT C hS (kd_things rfl) h d_Tide_allOwedNow_25 (fun j2 hj2 h => ?_)
      obtain ⟨v3, hr4, h⟩ := bd_el h
      refine c_I hS (c_runV (As := [.ref (ad E ((2 + 3) + 1 + j2))]) (rest := [.int x1]) C hS (by decide) cel_Tide (rfl : cls[5]? = some (R_Tide, T_Tide, 12)) (k_Tide_owedNow (l := l) (E := E) (X := X) (kd_thing (kd_things rfl) hj2) hr4) cw_Tide_owedNow ini_Tide_owedNow ins_Tide_owedNow sel_Tide_owedNow tw_353 hd_Tide_owedNow rfl ⟨⟨rfl, rfl⟩, (Nat.le_of_ble_eq_true rfl), (Nat.le_of_ble_eq_true rfl)⟩ ⟨(Nat.le_of_ble_eq_true rfl), (Nat.le_of_ble_eq_true rfl)⟩ hl.1 rfl (Nat.le_of_ble_eq_true rfl) d_Tide_allOwedNow_26) (fun H locs hS => ?_)
      refine lv_iadd hx hb d_Tide_allOwedNow_29 ?_
      refine r_top h (fun v5 h => ?_)
      refine lv_istore_n (lv' := [(1, .int v5), (0, .ref (ad E 0)), (2, .int x2)]) hx hb d_Tide_allOwedNow_30 rfl hl (by decide) rfl (fun ls hl => ?_)
      refine r_iinc C (w := 1) (lv' := fun z => [(2, .int z), (1, .int v5), (0, .ref (ad E 0))]) h d_Tide_allOwedNow_31 hl (k := 2) rfl (by decide) (by decide) (fun _ => rfl) (fun v6 ls h hl => ?_)
      refine lv_goto (tgt := 4) hx hb d_Tide_allOwedNow_34 (by decide) ?_
      exact ih _ _ _ _ _ (lp_next h hc4) hS (lv_sub hl [2, 1, 0] rfl)
set_option maxHeartbeats 4000000 in
set_option maxRecDepth 100000 in
theorem k_Tide_allOwedNow {l : Launch} {E : En} {X : Mem} {r : Int32} (h : f_Tide_allOwedNow X = some r) : Met l y_Tide_allOwedNow (Cond.code y_Tide_allOwedNow c_Tide_allOwedNow 3 (some .int) :: tb) ({ frames := 6, cells := 0, slots := 0, locals := 135 } : Room) (PreC E [.ref (ad E 0)] X) (PostI E r X) 0 0 (Ad E) := by
  refine met_of (by decide) (Nat.le_of_ble_eq_true rfl) (fun p e s m below meth c C hS ls hl => ?_)
  replace C : Cx p s m ([.ref (ad E 0)] : List Value).toArray meth c c_Tide_allOwedNow 3 "TideLoans" (some .int) E := C
  replace hl : lv_has ls 3 [(0, .ref (ad E 0))] := hl
  obtain ⟨hx, hb, hml, hown, hts, hrt, hlk, hKx⟩ := id C
  unfold f_Tide_allOwedNow at h
  refine lv_iconst (v := 0) hx hb d_Tide_allOwedNow_0 (by decide) ?_
  refine lv_istore_n (lv' := [(1, .int (0 : Int32)), (0, .ref (ad E 0))]) hx hb d_Tide_allOwedNow_1 rfl hl (by decide) rfl (fun ls hl => ?_)
  refine lv_iconst (v := 0) hx hb d_Tide_allOwedNow_2 (by decide) ?_
  refine lv_istore_n (lv' := [(2, .int (0 : Int32)), (1, .int (0 : Int32)), (0, .ref (ad E 0))]) hx hb d_Tide_allOwedNow_3 rfl hl (by decide) rfl (fun ls hl => ?_)
  exact k_Tide_allOwedNow_b4 C FU _ _ _ _ _ h hS (lv_sub hl [2, 1, 0] rfl)
set_option maxHeartbeats 4000000 in
set_option maxRecDepth 100000 in
theorem k_Tide_now {l : Launch} {E : En} {p1 : Int32} {X : Mem} {r : Int32} {Y : Mem} (h : f_Tide_now p1 X = some (r, Y)) : Met l y_Tide_now (Cond.code y_Tide_now c_Tide_now 2 (some .int) :: tb) ({ frames := 7, cells := 0, slots := 0, locals := 157 } : Room) (PreC E [.ref (ad E 0), .int p1] X) (PostI E r Y) 0 0 (Ad E) := by
  refine met_of (by decide) (Nat.le_of_ble_eq_true rfl) (fun p e s m below meth c C hS ls hl => ?_)
  replace C : Cx p s m ([.ref (ad E 0), .int p1] : List Value).toArray meth c c_Tide_now 2 "TideLoans" (some .int) E := C
  replace hl : lv_has ls 2 [(0, .ref (ad E 0)), (1, .int p1)] := hl
  obtain ⟨hx, hb, hml, hown, hts, hrt, hlk, hKx⟩ := id C
  unfold f_Tide_now at h
  refine lv_iload_n hx hb d_Tide_now_0 rfl (lv_at hl 1 rfl) ?_
  refine sw_c (v := 0) (w := 0) (by decide) h (fun hv h => ?_) (fun hn0 h => ?_)
  · refine r_tabIn C hv d_Tide_now_1 (by decide) (by decide) rfl (tgt := 40) (by decide) ?_
    refine lv_aload_n hx hb d_Tide_now_40 rfl (lv_at hl 0 rfl) ?_
    refine r_get C hS (by decide) cel_Tide (rfl : cls[5]? = some (R_Tide, T_Tide, 12)) in_Tide 1 (by decide) tw_237 rfl d_Tide_now_41 ?_
    refine r_getI C hS (by decide) (cel_Shore (rfl : kd 2 = 1)) (rfl : cls[1]? = some (R_Shore, T_Shore, 6)) in_Shore 4 (by decide) tw_140 rfl h d_Tide_now_44 (fun v1 h => ?_)
    exact r_iret C hS rfl h d_Tide_now_47
  refine sw_c (v := 1) (w := 1) (by decide) h (fun hv h => ?_) (fun hn1 h => ?_)
  · refine r_tabIn C hv d_Tide_now_1 (by decide) (by decide) rfl (tgt := 48) (by decide) ?_
    refine lv_aload_n hx hb d_Tide_now_48 rfl (lv_at hl 0 rfl) ?_
    refine r_get C hS (by decide) cel_Tide (rfl : cls[5]? = some (R_Tide, T_Tide, 12)) in_Tide 1 (by decide) tw_237 rfl d_Tide_now_49 ?_
    refine r_getI C hS (by decide) (cel_Shore (rfl : kd 2 = 1)) (rfl : cls[1]? = some (R_Shore, T_Shore, 6)) in_Shore 5 (by decide) tw_142 rfl h d_Tide_now_52 (fun v2 h => ?_)
    exact r_iret C hS rfl h d_Tide_now_55
  refine sw_c (v := 2) (w := 2) (by decide) h (fun hv h => ?_) (fun hn2 h => ?_)
  · refine r_tabIn C hv d_Tide_now_1 (by decide) (by decide) rfl (tgt := 56) (by decide) ?_
    refine lv_aload_n hx hb d_Tide_now_56 rfl (lv_at hl 0 rfl) ?_
    refine r_get C hS (by decide) cel_Tide (rfl : cls[5]? = some (R_Tide, T_Tide, 12)) in_Tide 1 (by decide) tw_237 rfl d_Tide_now_57 ?_
    refine lv_iconst (v := 1) hx hb d_Tide_now_60 (by decide) ?_
    obtain ⟨v3, hr4, h⟩ := bd_el h
    refine c_I hS (c_runV (As := [.int (1 : Int32)]) (rest := []) C hS (by decide) (cel_Shore (rfl : kd 2 = 1)) (rfl : cls[1]? = some (R_Shore, T_Shore, 6)) (k_Shore_allIn (l := l) (E := E) (X := X) rfl hr4) cw_Shore_allIn ini_Shore_allIn ins_Shore_allIn sel_Shore_allIn tw_467 hd_Shore_allIn rfl ⟨⟨rfl, rfl⟩, (Nat.le_of_ble_eq_true rfl), (Nat.le_of_ble_eq_true rfl)⟩ ⟨(Nat.le_of_ble_eq_true rfl), (Nat.le_of_ble_eq_true rfl)⟩ hl.1 rfl (Nat.le_of_ble_eq_true rfl) d_Tide_now_61) (fun H locs hS => ?_)
    exact r_iret C hS rfl h d_Tide_now_64
  refine sw_c (v := 3) (w := 3) (by decide) h (fun hv h => ?_) (fun hn3 h => ?_)
  · refine r_tabIn C hv d_Tide_now_1 (by decide) (by decide) rfl (tgt := 65) (by decide) ?_
    refine lv_aload_n hx hb d_Tide_now_65 rfl (lv_at hl 0 rfl) ?_
    refine r_get C hS (by decide) cel_Tide (rfl : cls[5]? = some (R_Tide, T_Tide, 12)) in_Tide 1 (by decide) tw_237 rfl d_Tide_now_66 ?_
    refine lv_iconst (v := 2) hx hb d_Tide_now_69 (by decide) ?_
    obtain ⟨v5, hr6, h⟩ := bd_el h
    refine c_I hS (c_runV (As := [.int (2 : Int32)]) (rest := []) C hS (by decide) (cel_Shore (rfl : kd 2 = 1)) (rfl : cls[1]? = some (R_Shore, T_Shore, 6)) (k_Shore_allIn (l := l) (E := E) (X := X) rfl hr6) cw_Shore_allIn ini_Shore_allIn ins_Shore_allIn sel_Shore_allIn tw_467 hd_Shore_allIn rfl ⟨⟨rfl, rfl⟩, (Nat.le_of_ble_eq_true rfl), (Nat.le_of_ble_eq_true rfl)⟩ ⟨(Nat.le_of_ble_eq_true rfl), (Nat.le_of_ble_eq_true rfl)⟩ hl.1 rfl (Nat.le_of_ble_eq_true rfl) d_Tide_now_70) (fun H locs hS => ?_)
    exact r_iret C hS rfl h d_Tide_now_73
  refine sw_c (v := 4) (w := 4) (by decide) h (fun hv h => ?_) (fun hn4 h => ?_)
  · refine r_tabIn C hv d_Tide_now_1 (by decide) (by decide) rfl (tgt := 74) (by decide) ?_
    refine lv_aload_n hx hb d_Tide_now_74 rfl (lv_at hl 0 rfl) ?_
    obtain ⟨v7, hr8, h⟩ := bd_el h
    refine c_I hS (c_runV (As := []) (rest := []) C hS (by decide) cel_Tide (rfl : cls[5]? = some (R_Tide, T_Tide, 12)) (k_Tide_allOwedNow (l := l) (E := E) (X := X) hr8) cw_Tide_allOwedNow ini_Tide_allOwedNow ins_Tide_allOwedNow sel_Tide_allOwedNow tw_471 hd_Tide_allOwedNow rfl ⟨⟨rfl, rfl⟩, (Nat.le_of_ble_eq_true rfl), (Nat.le_of_ble_eq_true rfl)⟩ ⟨(Nat.le_of_ble_eq_true rfl), (Nat.le_of_ble_eq_true rfl)⟩ hl.1 rfl (Nat.le_of_ble_eq_true rfl) d_Tide_now_75) (fun H locs hS => ?_)
    exact r_iret C hS rfl h d_Tide_now_78
  refine sw_c (v := 5) (w := 5) (by decide) h (fun hv h => ?_) (fun hn5 h => ?_)
  · refine r_tabIn C hv d_Tide_now_1 (by decide) (by decide) rfl (tgt := 79) (by decide) ?_
    refine lv_aload_n hx hb d_Tide_now_79 rfl (lv_at hl 0 rfl) ?_
    refine r_get C hS (by decide) cel_Tide (rfl : cls[5]? = some (R_Tide, T_Tide, 12)) in_Tide 1 (by decide) tw_237 rfl d_Tide_now_80 ?_
    obtain ⟨v9, hr10, h⟩ := bd_el h
    refine c_I hS (c_runV (As := []) (rest := []) C hS (by decide) (cel_Shore (rfl : kd 2 = 1)) (rfl : cls[1]? = some (R_Shore, T_Shore, 6)) (k_Shore_allWorth (l := l) (E := E) (X := X) rfl hr10) cw_Shore_allWorth ini_Shore_allWorth ins_Shore_allWorth sel_Shore_allWorth tw_475 hd_Shore_allWorth rfl ⟨⟨rfl, rfl⟩, (Nat.le_of_ble_eq_true rfl), (Nat.le_of_ble_eq_true rfl)⟩ ⟨(Nat.le_of_ble_eq_true rfl), (Nat.le_of_ble_eq_true rfl)⟩ hl.1 rfl (Nat.le_of_ble_eq_true rfl) d_Tide_now_83) (fun H locs hS => ?_)
    exact r_iret C hS rfl h d_Tide_now_86
  refine lv_tableOut (tgt := 87) hx hb d_Tide_now_1 (out_e (k := 6) (out_s (k := 5) (k1 := 6) (out_s (k := 4) (k1 := 5) (out_s (k := 3) (k1 := 4) (out_s (k := 2) (k1 := 3) (out_s (k := 1) (k1 := 2) (out_s (k := 0) (k1 := 1) out_0 hn0 (by decide)) hn1 (by decide)) hn2 (by decide)) hn3 (by decide)) hn4 (by decide)) hn5 (by decide)) (by decide)) (by decide) ?_
  refine lv_aload_n hx hb d_Tide_now_87 rfl (lv_at hl 0 rfl) ?_
  refine lv_ldc (v := -1000000001) hx hb hown (hts _ tw_280) d_Tide_now_88 ?_
  obtain ⟨v11, X13, hr12, h⟩ := bd2_el h
  refine c_I hS (c_runV (As := [.int (-1000000001 : Int32)]) (rest := []) C hS (by decide) cel_Tide (rfl : cls[5]? = some (R_Tide, T_Tide, 12)) (k_Tide_finding (l := l) (E := E) (X := X) hr12) cw_Tide_finding ini_Tide_finding ins_Tide_finding sel_Tide_finding tw_281 hd_Tide_finding rfl ⟨⟨rfl, rfl⟩, (Nat.le_of_ble_eq_true rfl), (Nat.le_of_ble_eq_true rfl)⟩ ⟨(Nat.le_of_ble_eq_true rfl), (Nat.le_of_ble_eq_true rfl)⟩ hl.1 rfl (Nat.le_of_ble_eq_true rfl) d_Tide_now_90) (fun H locs hS => ?_)
  exact r_iret C hS rfl h d_Tide_now_93
def I_Tide_purseThen_b14 (p : Program) (l : Launch) (e : Env) (s : State) (m : MethodId) (args : Array Value) (below : List Frame) (meth : Method) (c : Code) (E : En) (r : Int32) (x1 : Int32) (x2 : Int32) (x3 : Int32) (X : Mem) (n : Nat) (tg : Int32) : Prop := ∀ (x4 : Int32) (x5 : Int32) (H : Heap) (locs : List Loc) (ls : Array Slot), it (fun a => f_Tide_purseThen_b14 x1 x2 x3 X a.1 a.2) n (x4, x5) = some tg → Hs E s.heap X H locs → lv_has ls 7 [(0, .ref (ad E 0)), (1, .int x1), (2, .int x2), (3, .int x3), (4, .int x4), (5, .int x5)] → W p l e ({ frames := 6, cells := 0, slots := 0, locals := 136 } : Room) s m args below meth c H locs 0 0 (MQ below (PostI E r X) args s 0 0 (Ad E)) (F0 m 14 ls [])
set_option maxHeartbeats 4000000 in
set_option maxRecDepth 100000 in
theorem k_Tide_purseThen_j73 {p : Program} {l : Launch} {e : Env} {s : State} {m : MethodId} {args : Array Value} {below : List Frame} {meth : Method} {c : Code} {E : En} {r : Int32} (C : Cx p s m args meth c c_Tide_purseThen 7 "TideLoans" (some .int) E) {x1 : Int32} {x2 : Int32} {x3 : Int32} {x4 : Int32} {x5 : Int32} {X : Mem} {tg : (Int32 ⊕ (Int32 × Int32))} {n14 : Nat} (hc14 : fin (fun a => f_Tide_purseThen_b14 x1 x2 x3 X a.1 a.2) n14 r tg) (ih14 : I_Tide_purseThen_b14 p l e s m args below meth c E r x1 x2 x3 X n14 r) (h : f_Tide_purseThen_j73 x1 x2 x3 x4 x5 X = some tg) {H : Heap} {locs : List Loc} (hS : Hs E s.heap X H locs) {ls : Array Slot} (hl : lv_has ls 7 [(0, .ref (ad E 0)), (1, .int x1), (2, .int x2), (3, .int x3), (4, .int x4), (5, .int x5)]) : W p l e ({ frames := 6, cells := 0, slots := 0, locals := 136 } : Room) s m args below meth c H locs 0 0 (MQ below (PostI E r X) args s 0 0 (Ad E)) (F0 m 73 ls []) := by
  obtain ⟨hx, hb, hml, hown, hts, hrt, hlk, hKx⟩ := id C
  unfold f_Tide_purseThen_j73 at h
  refine r_iinc C (w := 1) (lv' := fun z => [(5, .int z), (0, .ref (ad E 0)), (1, .int x1), (2, .int x2), (3, .int x3), (4, .int x4)]) h d_Tide_purseThen_73 hl (k := 5) rfl (by decide) (by decide) (fun _ => rfl) (fun v1 ls h hl => ?_)
  refine lv_goto (tgt := 14) hx hb d_Tide_purseThen_76 (by decide) ?_
  exact ih14 _ _ _ _ _ (lp_next h hc14) hS (lv_sub hl [1, 2, 3, 4, 5, 0] rfl)
set_option maxHeartbeats 4000000 in
set_option maxRecDepth 100000 in
theorem k_Tide_purseThen_b14 {p : Program} {l : Launch} {e : Env} {s : State} {m : MethodId} {args : Array Value} {below : List Frame} {meth : Method} {c : Code} {E : En} {r : Int32} (C : Cx p s m args meth c c_Tide_purseThen 7 "TideLoans" (some .int) E) (x1 : Int32) (x2 : Int32) (x3 : Int32) {X : Mem} : ∀ n, I_Tide_purseThen_b14 p l e s m args below meth c E r x1 x2 x3 X n r := by
  obtain ⟨hx, hb, hml, hown, hts, hrt, hlk, hKx⟩ := id C
  intro n
  induction n with
  | zero => intro x4 x5 H locs ls h; exact it_0 h
  | succ n ih =>
    intro x4 x5 H locs ls h hS hl
    obtain ⟨cc14, h, hc14⟩ := it_el h
    replace h : f_Tide_purseThen_b14 x1 x2 x3 X x4 x5 = some cc14 := h
    unfold f_Tide_purseThen_b14 at h
    refine lv_iload hx hb d_Tide_purseThen_14 (lv_at hl 5 rfl) ?_
    refine lv_aload_n hx hb d_Tide_purseThen_16 rfl (lv_at hl 0 rfl) ?_
    refine r_get C hS (by decide) cel_Tide (rfl : cls[5]? = some (R_Tide, T_Tide, 12)) in_Tide 1 (by decide) tw_237 rfl d_Tide_purseThen_17 ?_
    refine r_getI C hS (by decide) (cel_Shore (rfl : kd 2 = 1)) (rfl : cls[1]? = some (R_Shore, T_Shore, 6)) in_Shore 3 (by decide) tw_138 rfl h d_Tide_purseThen_20 (fun v1 h => ?_)
    refine r_icmp_ge (tgt := 79) C h d_Tide_purseThen_23 (by decide) (fun h => ?_) (fun h => ?_)
    · skip
      refine lv_iload hx hb d_Tide_purseThen_79 (lv_at hl 4 rfl) ?_
      replace h := lp_ret h hc14
      exact r_iret0 C hS rfl h d_Tide_purseThen_81
    · skip
      refine lv_aload_n hx hb d_Tide_purseThen_26 rfl (lv_at hl 0 rfl) ?_
      refine r_get C hS (by decide) cel_Tide (rfl : cls[5]? = some (R_Tide, T_Tide, 12)) in_Tide 1 (by decide) tw_237 rfl d_Tide_purseThen_27 ?_
      refine r_get C hS (by decide) (cel_Shore (rfl : kd 2 = 1)) (rfl : cls[1]? = some (R_Shore, T_Shore, 6)) in_Shore 2 (by decide) tw_136 rfl d_Tide_purseThen_30 ?_
      refine lv_iload hx hb d_Tide_purseThen_33 (lv_at hl 5 rfl) ?_
      refine r_ldT C hS (kd_things rfl) h d_Tide_purseThen_35 (fun j2 hj2 h => ?_)
      refine lv_astore (lv' := [(6, .ref (ad E ((2 + 3) + 1 + j2))), (0, .ref (ad E 0)), (1, .int x1), (2, .int x2), (3, .int x3), (4, .int x4), (5, .int x5)]) hx hb d_Tide_purseThen_36 hl (by decide) rfl (fun ls hl => ?_)
      refine lv_aload hx hb d_Tide_purseThen_38 (lv_at hl 0 rfl) ?_
      refine r_getI C hS (kd_lt (kd_thing (kd_things rfl) hj2) (by decide)) (cel_Thing (kd_thing (kd_things rfl) hj2)) (rfl : cls[3]? = some (R_Thing, T_Thing, 6)) in_Thing 1 (by decide) tw_103 rfl h d_Tide_purseThen_40 (fun v3 h => ?_)
      refine lv_iload_n hx hb d_Tide_purseThen_43 rfl (lv_at hl 2 rfl) ?_
      refine r_icmp_ne (tgt := 73) C h d_Tide_purseThen_44 (by decide) (fun h => ?_) (fun h => ?_)
      · skip
        exact k_Tide_purseThen_j73 C hc14 ih h hS (lv_sub hl [1, 2, 3, 4, 5, 6] rfl)
      · skip
        refine lv_iload hx hb d_Tide_purseThen_47 (lv_at hl 6 rfl) ?_
        refine lv_iload_n hx hb d_Tide_purseThen_49 rfl (lv_at hl 4 rfl) ?_
        refine r_icmp_eq (tgt := 73) C h d_Tide_purseThen_50 (by decide) (fun h => ?_) (fun h => ?_)
        · skip
          exact k_Tide_purseThen_j73 C hc14 ih h hS (lv_sub hl [1, 2, 3, 4, 5, 6] rfl)
        · skip
          refine lv_iload hx hb d_Tide_purseThen_53 (lv_at hl 5 rfl) ?_
          refine lv_aload_n hx hb d_Tide_purseThen_55 rfl (lv_at hl 1 rfl) ?_
          refine r_get C hS (by decide) cel_Tide (rfl : cls[5]? = some (R_Tide, T_Tide, 12)) in_Tide 6 (by decide) tw_242 rfl d_Tide_purseThen_56 ?_
          refine lv_iload hx hb d_Tide_purseThen_59 (lv_at hl 6 rfl) ?_
          refine r_ldW C hS h d_Tide_purseThen_61 (fun j4 hj4 h => ?_)
          refine lv_aload hx hb d_Tide_purseThen_62 (lv_at hl 0 rfl) ?_
          refine lv_iload_n hx hb d_Tide_purseThen_64 rfl (lv_at hl 3 rfl) ?_
          obtain ⟨v5, hr6, h⟩ := bd_el h
          refine c_I hS (c_runV (As := [.ref (ad E ((2 + 3) + 1 + j2)), .int x2]) (rest := [.int x4]) C hS (kd_lt (kd_way hj4) (by decide)) (cel_Way (kd_way hj4)) (rfl : cls[4]? = some (R_Way, T_Way, 5)) (k_Way_brings (l := l) (E := E) (X := X) (kd_way hj4) (kd_thing (kd_things rfl) hj2) hr6) cw_Way_brings ini_Way_brings ins_Way_brings sel_Way_brings tw_448 hd_Way_brings rfl ⟨⟨rfl, rfl⟩, (Nat.le_of_ble_eq_true rfl), (Nat.le_of_ble_eq_true rfl)⟩ ⟨(Nat.le_of_ble_eq_true rfl), (Nat.le_of_ble_eq_true rfl)⟩ hl.1 rfl (Nat.le_of_ble_eq_true rfl) d_Tide_purseThen_65) (fun H locs hS => ?_)
          obtain ⟨v7, hr8, h⟩ := bd_el h
          refine c_I hS (c_runS (As := [.int x4, .int v5]) (rest := []) C hS (k_Tide_filled (l := l) (E := E) (X := X) hr8) cw_Tide_filled ini_Tide_filled sta_Tide_filled tw_453 hd_Tide_filled rfl ⟨⟨rfl, rfl⟩, (Nat.le_of_ble_eq_true rfl), (Nat.le_of_ble_eq_true rfl)⟩ ⟨(Nat.le_of_ble_eq_true rfl), (Nat.le_of_ble_eq_true rfl)⟩ hl.1 rfl (Nat.le_of_ble_eq_true rfl) d_Tide_purseThen_68) (fun H locs hS => ?_)
          refine lv_istore (lv' := [(4, .int v7), (6, .ref (ad E ((2 + 3) + 1 + j2))), (0, .ref (ad E 0)), (1, .int x1), (2, .int x2), (3, .int x3), (5, .int x5)]) hx hb d_Tide_purseThen_71 hl (by decide) rfl (fun ls hl => ?_)
          exact k_Tide_purseThen_j73 C hc14 ih h hS (lv_sub hl [2, 3, 4, 5, 0, 6] rfl)
set_option maxHeartbeats 4000000 in
set_option maxRecDepth 100000 in
theorem k_Tide_purseThen {l : Launch} {E : En} {p1 : Int32} {p2 : Int32} {p3 : Int32} {X : Mem} {r : Int32} (h : f_Tide_purseThen p1 p2 p3 X = some r) : Met l y_Tide_purseThen (Cond.code y_Tide_purseThen c_Tide_purseThen 7 (some .int) :: tb) ({ frames := 6, cells := 0, slots := 0, locals := 136 } : Room) (PreC E [.ref (ad E 0), .int p1, .int p2, .int p3] X) (PostI E r X) 0 0 (Ad E) := by
  refine met_of (by decide) (Nat.le_of_ble_eq_true rfl) (fun p e s m below meth c C hS ls hl => ?_)
  replace C : Cx p s m ([.ref (ad E 0), .int p1, .int p2, .int p3] : List Value).toArray meth c c_Tide_purseThen 7 "TideLoans" (some .int) E := C
  replace hl : lv_has ls 7 [(0, .ref (ad E 0)), (1, .int p1), (2, .int p2), (3, .int p3)] := hl
  obtain ⟨hx, hb, hml, hown, hts, hrt, hlk, hKx⟩ := id C
  unfold f_Tide_purseThen at h
  refine lv_aload_n hx hb d_Tide_purseThen_0 rfl (lv_at hl 0 rfl) ?_
  refine r_get C hS (by decide) cel_Tide (rfl : cls[5]? = some (R_Tide, T_Tide, 12)) in_Tide 1 (by decide) tw_237 rfl d_Tide_purseThen_1 ?_
  refine r_get C hS (by decide) (cel_Shore (rfl : kd 2 = 1)) (rfl : cls[1]? = some (R_Shore, T_Shore, 6)) in_Shore 1 (by decide) tw_134 rfl d_Tide_purseThen_4 ?_
  refine lv_iload_n hx hb d_Tide_purseThen_7 rfl (lv_at hl 1 rfl) ?_
  refine r_ldI C hS (n := 4) (kd_purses rfl) (by decide) h d_Tide_purseThen_8 (fun v1 h => ?_)
  refine lv_istore (lv' := [(4, .int v1), (0, .ref (ad E 0)), (1, .int p1), (2, .int p2), (3, .int p3)]) hx hb d_Tide_purseThen_9 hl (by decide) rfl (fun ls hl => ?_)
  refine lv_iconst (v := 0) hx hb d_Tide_purseThen_11 (by decide) ?_
  refine lv_istore (lv' := [(5, .int (0 : Int32)), (4, .int v1), (0, .ref (ad E 0)), (1, .int p1), (2, .int p2), (3, .int p3)]) hx hb d_Tide_purseThen_12 hl (by decide) rfl (fun ls hl => ?_)
  exact k_Tide_purseThen_b14 C _ _ _ FU _ _ _ _ _ h hS (lv_sub hl [2, 3, 4, 5, 1, 0] rfl)
set_option maxHeartbeats 4000000 in
set_option maxRecDepth 100000 in
theorem k_Tide_on_j19 {p : Program} {l : Launch} {e : Env} {s : State} {m : MethodId} {args : Array Value} {below : List Frame} {meth : Method} {c : Code} {E : En} {r : Int32} {Y : Mem} (C : Cx p s m args meth c c_Tide_on 3 "TideLoans" (some .int) E) {X : Mem} (h : f_Tide_on_j19 X = some (r, Y)) {H : Heap} {locs : List Loc} (hS : Hs E s.heap X H locs) {ls : Array Slot} (hl : lv_has ls 3 [(0, .ref (ad E 0))]) : W p l e ({ frames := 8, cells := 0, slots := 0, locals := 182 } : Room) s m args below meth c H locs 0 0 (MQ below (PostI E r Y) args s 0 0 (Ad E)) (F0 m 19 ls []) := by
  obtain ⟨hx, hb, hml, hown, hts, hrt, hlk, hKx⟩ := id C
  unfold f_Tide_on_j19 at h
  refine lv_aload_n hx hb d_Tide_on_19 rfl (lv_at hl 0 rfl) ?_
  refine lv_ldc (v := -1000000001) hx hb hown (hts _ tw_280) d_Tide_on_20 ?_
  obtain ⟨v1, X3, hr2, h⟩ := bd2_el h
  refine c_I hS (c_runV (As := [.int (-1000000001 : Int32)]) (rest := []) C hS (by decide) cel_Tide (rfl : cls[5]? = some (R_Tide, T_Tide, 12)) (k_Tide_finding (l := l) (E := E) (X := X) hr2) cw_Tide_finding ini_Tide_finding ins_Tide_finding sel_Tide_finding tw_281 hd_Tide_finding rfl ⟨⟨rfl, rfl⟩, (Nat.le_of_ble_eq_true rfl), (Nat.le_of_ble_eq_true rfl)⟩ ⟨(Nat.le_of_ble_eq_true rfl), (Nat.le_of_ble_eq_true rfl)⟩ hl.1 rfl (Nat.le_of_ble_eq_true rfl) d_Tide_on_22) (fun H locs hS => ?_)
  exact r_iret C hS rfl h d_Tide_on_25
set_option maxHeartbeats 4000000 in
set_option maxRecDepth 100000 in
theorem k_Tide_on {l : Launch} {E : En} {p1 : Int32} {p2 : Int32} {X : Mem} {r : Int32} {Y : Mem} (h : f_Tide_on p1 p2 X = some (r, Y)) : Met l y_Tide_on (Cond.code y_Tide_on c_Tide_on 3 (some .int) :: tb) ({ frames := 8, cells := 0, slots := 0, locals := 182 } : Room) (PreC E [.ref (ad E 0), .int p1, .int p2] X) (PostI E r Y) 0 0 (Ad E) := by
  refine met_of (by decide) (Nat.le_of_ble_eq_true rfl) (fun p e s m below meth c C hS ls hl => ?_)
  replace C : Cx p s m ([.ref (ad E 0), .int p1, .int p2] : List Value).toArray meth c c_Tide_on 3 "TideLoans" (some .int) E := C
  replace hl : lv_has ls 3 [(0, .ref (ad E 0)), (1, .int p1), (2, .int p2)] := hl
  obtain ⟨hx, hb, hml, hown, hts, hrt, hlk, hKx⟩ := id C
  unfold f_Tide_on at h
  refine lv_iload_n hx hb d_Tide_on_0 rfl (lv_at hl 1 rfl) ?_
  refine lv_iconst (v := 4) hx hb d_Tide_on_1 (by decide) ?_
  obtain ⟨v1, hr2, h⟩ := bd_el h
  refine c_I hS (c_runS (As := [.int p1, .int (4 : Int32)]) (rest := []) C hS (k_Tide_isBelow (l := l) (E := E) (X := X) hr2) cw_Tide_isBelow ini_Tide_isBelow sta_Tide_isBelow tw_277 hd_Tide_isBelow rfl ⟨⟨rfl, rfl⟩, (Nat.le_of_ble_eq_true rfl), (Nat.le_of_ble_eq_true rfl)⟩ ⟨(Nat.le_of_ble_eq_true rfl), (Nat.le_of_ble_eq_true rfl)⟩ hl.1 rfl (Nat.le_of_ble_eq_true rfl) d_Tide_on_2) (fun H locs hS => ?_)
  refine r_if_eq (tgt := 19) C h d_Tide_on_5 (by decide) (fun h => ?_) (fun h => ?_)
  · skip
    exact k_Tide_on_j19 C h hS (lv_sub hl [0] rfl)
  · skip
    refine lv_iload_n hx hb d_Tide_on_8 rfl (lv_at hl 2 rfl) ?_
    refine lv_iconst (v := 0) hx hb d_Tide_on_9 (by decide) ?_
    refine lv_sipush (v := 400) hx hb d_Tide_on_10 (by decide) ?_
    obtain ⟨v3, hr4, h⟩ := bd_el h
    refine c_I hS (c_runS (As := [.int p2, .int (0 : Int32), .int (400 : Int32)]) (rest := []) C hS (k_Tide_isUpTo (l := l) (E := E) (X := X) hr4) cw_Tide_isUpTo ini_Tide_isUpTo sta_Tide_isUpTo tw_297 hd_Tide_isUpTo rfl ⟨⟨rfl, rfl⟩, (Nat.le_of_ble_eq_true rfl), (Nat.le_of_ble_eq_true rfl)⟩ ⟨(Nat.le_of_ble_eq_true rfl), (Nat.le_of_ble_eq_true rfl)⟩ hl.1 rfl (Nat.le_of_ble_eq_true rfl) d_Tide_on_13) (fun H locs hS => ?_)
    refine r_if_ne (tgt := 26) C h d_Tide_on_16 (by decide) (fun h => ?_) (fun h => ?_)
    · skip
      refine lv_aload_n hx hb d_Tide_on_26 rfl (lv_at hl 0 rfl) ?_
      refine lv_iload_n hx hb d_Tide_on_27 rfl (lv_at hl 2 rfl) ?_
      obtain ⟨X6, hr5, h⟩ := bd_el h
      refine c_V hS (c_runV (As := [.int p2]) (rest := []) C hS (by decide) cel_Tide (rfl : cls[5]? = some (R_Tide, T_Tide, 12)) (k_Tide_followAll (l := l) (E := E) (X := X) hr5) cw_Tide_followAll ini_Tide_followAll ins_Tide_followAll sel_Tide_followAll tw_413 hd_Tide_followAll rfl ⟨⟨rfl, rfl⟩, (Nat.le_of_ble_eq_true rfl), (Nat.le_of_ble_eq_true rfl)⟩ ⟨(Nat.le_of_ble_eq_true rfl), (Nat.le_of_ble_eq_true rfl)⟩ hl.1 rfl (Nat.le_of_ble_eq_true rfl) d_Tide_on_28) (fun H locs hS => ?_)
      refine lv_aload_n hx hb d_Tide_on_31 rfl (lv_at hl 0 rfl) ?_
      refine lv_iload_n hx hb d_Tide_on_32 rfl (lv_at hl 1 rfl) ?_
      refine lv_aload_n hx hb d_Tide_on_33 rfl (lv_at hl 0 rfl) ?_
      refine r_get C hS (by decide) cel_Tide (rfl : cls[5]? = some (R_Tide, T_Tide, 12)) in_Tide 1 (by decide) tw_237 rfl d_Tide_on_34 ?_
      refine r_getI C hS (by decide) (cel_Shore (rfl : kd 2 = 1)) (rfl : cls[1]? = some (R_Shore, T_Shore, 6)) in_Shore 5 (by decide) tw_142 rfl h d_Tide_on_37 (fun v7 h => ?_)
      refine lv_iconst (v := -1) hx hb d_Tide_on_40 (by decide) ?_
      obtain ⟨v8, hr9, h⟩ := bd_el h
      refine c_I hS (c_runV (As := [.int p1, .int v7, .int (-1 : Int32)]) (rest := []) C hS (by decide) cel_Tide (rfl : cls[5]? = some (R_Tide, T_Tide, 12)) (k_Tide_purseThen (l := l) (E := E) (X := X6) hr9) cw_Tide_purseThen ini_Tide_purseThen ins_Tide_purseThen sel_Tide_purseThen tw_483 hd_Tide_purseThen rfl ⟨⟨rfl, rfl⟩, (Nat.le_of_ble_eq_true rfl), (Nat.le_of_ble_eq_true rfl)⟩ ⟨(Nat.le_of_ble_eq_true rfl), (Nat.le_of_ble_eq_true rfl)⟩ hl.1 rfl (Nat.le_of_ble_eq_true rfl) d_Tide_on_41) (fun H locs hS => ?_)
      exact r_iret C hS rfl h d_Tide_on_44
    · skip
      exact k_Tide_on_j19 C h hS (lv_sub hl [0] rfl)
set_option maxHeartbeats 4000000 in
set_option maxRecDepth 100000 in
theorem k_Tide_taken {l : Launch} {E : En} {p1 : Int32} {X : Mem} {r : Int32} {Y : Mem} (h : f_Tide_taken p1 X = some (r, Y)) : Met l y_Tide_taken (Cond.code y_Tide_taken c_Tide_taken 3 (some .int) :: tb) ({ frames := 7, cells := 0, slots := 0, locals := 160 } : Room) (PreC E [.ref (ad E 0), .int p1] X) (PostI E r Y) 0 0 (Ad E) := by
  refine met_of (by decide) (Nat.le_of_ble_eq_true rfl) (fun p e s m below meth c C hS ls hl => ?_)
  replace C : Cx p s m ([.ref (ad E 0), .int p1] : List Value).toArray meth c c_Tide_taken 3 "TideLoans" (some .int) E := C
  replace hl : lv_has ls 3 [(0, .ref (ad E 0)), (1, .int p1)] := hl
  obtain ⟨hx, hb, hml, hown, hts, hrt, hlk, hKx⟩ := id C
  unfold f_Tide_taken at h
  refine lv_aload_n hx hb d_Tide_taken_0 rfl (lv_at hl 0 rfl) ?_
  refine r_get C hS (by decide) cel_Tide (rfl : cls[5]? = some (R_Tide, T_Tide, 12)) in_Tide 1 (by decide) tw_237 rfl d_Tide_taken_1 ?_
  refine lv_iload_n hx hb d_Tide_taken_4 rfl (lv_at hl 1 rfl) ?_
  obtain ⟨v1, hr2, h⟩ := bd_el h
  refine c_I hS (c_runV (As := [.int p1]) (rest := []) C hS (by decide) (cel_Shore (rfl : kd 2 = 1)) (rfl : cls[1]? = some (R_Shore, T_Shore, 6)) (k_Shore_has (l := l) (E := E) (X := X) rfl hr2) cw_Shore_has ini_Shore_has ins_Shore_has sel_Shore_has tw_345 hd_Shore_has rfl ⟨⟨rfl, rfl⟩, (Nat.le_of_ble_eq_true rfl), (Nat.le_of_ble_eq_true rfl)⟩ ⟨(Nat.le_of_ble_eq_true rfl), (Nat.le_of_ble_eq_true rfl)⟩ hl.1 rfl (Nat.le_of_ble_eq_true rfl) d_Tide_taken_5) (fun H locs hS => ?_)
  refine r_if_ne (tgt := 18) C h d_Tide_taken_8 (by decide) (fun h => ?_) (fun h => ?_)
  · skip
    refine lv_aload_n hx hb d_Tide_taken_18 rfl (lv_at hl 0 rfl) ?_
    refine r_get C hS (by decide) cel_Tide (rfl : cls[5]? = some (R_Tide, T_Tide, 12)) in_Tide 1 (by decide) tw_237 rfl d_Tide_taken_19 ?_
    refine r_get C hS (by decide) (cel_Shore (rfl : kd 2 = 1)) (rfl : cls[1]? = some (R_Shore, T_Shore, 6)) in_Shore 2 (by decide) tw_136 rfl d_Tide_taken_22 ?_
    refine lv_iload_n hx hb d_Tide_taken_25 rfl (lv_at hl 1 rfl) ?_
    refine r_ldT C hS (kd_things rfl) h d_Tide_taken_26 (fun j3 hj3 h => ?_)
    refine r_getI C hS (kd_lt (kd_thing (kd_things rfl) hj3) (by decide)) (cel_Thing (kd_thing (kd_things rfl) hj3)) (rfl : cls[3]? = some (R_Thing, T_Thing, 6)) in_Thing 4 (by decide) tw_113 rfl h d_Tide_taken_27 (fun v4 h => ?_)
    refine lv_iconst (v := 1) hx hb d_Tide_taken_30 (by decide) ?_
    refine r_icmp_eq (tgt := 41) C h d_Tide_taken_31 (by decide) (fun h => ?_) (fun h => ?_)
    · skip
      refine lv_aload_n hx hb d_Tide_taken_41 rfl (lv_at hl 0 rfl) ?_
      refine lv_iload_n hx hb d_Tide_taken_42 rfl (lv_at hl 1 rfl) ?_
      refine lv_sipush (v := 400) hx hb d_Tide_taken_43 (by decide) ?_
      obtain ⟨X6, hr5, h⟩ := bd_el h
      refine c_V hS (c_runV (As := [.int p1, .int (400 : Int32)]) (rest := []) C hS (by decide) cel_Tide (rfl : cls[5]? = some (R_Tide, T_Tide, 12)) (k_Tide_follow (l := l) (E := E) (X := X) hr5) cw_Tide_follow ini_Tide_follow ins_Tide_follow sel_Tide_follow tw_417 hd_Tide_follow rfl ⟨⟨rfl, rfl⟩, (Nat.le_of_ble_eq_true rfl), (Nat.le_of_ble_eq_true rfl)⟩ ⟨(Nat.le_of_ble_eq_true rfl), (Nat.le_of_ble_eq_true rfl)⟩ hl.1 rfl (Nat.le_of_ble_eq_true rfl) d_Tide_taken_46) (fun H locs hS => ?_)
      refine lv_aload_n hx hb d_Tide_taken_49 rfl (lv_at hl 0 rfl) ?_
      refine r_get C hS (by decide) cel_Tide (rfl : cls[5]? = some (R_Tide, T_Tide, 12)) in_Tide 6 (by decide) tw_242 rfl d_Tide_taken_50 ?_
      refine lv_iload_n hx hb d_Tide_taken_53 rfl (lv_at hl 1 rfl) ?_
      refine r_ldW C hS h d_Tide_taken_54 (fun j7 hj7 h => ?_)
      refine r_getI C hS (kd_lt (kd_way hj7) (by decide)) (cel_Way (kd_way hj7)) (rfl : cls[4]? = some (R_Way, T_Way, 5)) in_Way 0 (by decide) tw_198 rfl h d_Tide_taken_55 (fun v8 h => ?_)
      refine lv_istore_n (lv' := [(2, .int v8), (0, .ref (ad E 0)), (1, .int p1)]) hx hb d_Tide_taken_58 rfl hl (by decide) rfl (fun ls hl => ?_)
      refine lv_iload_n hx hb d_Tide_taken_59 rfl (lv_at hl 0 rfl) ?_
      refine r_if_le (tgt := 67) C h d_Tide_taken_60 (by decide) (fun h => ?_) (fun h => ?_)
      · skip
        refine lv_aload_n hx hb d_Tide_taken_67 rfl (lv_at hl 1 rfl) ?_
        refine lv_ldc (v := -1000000004) hx hb hown (hts _ tw_491) d_Tide_taken_68 ?_
        obtain ⟨v9, X11, hr10, h⟩ := bd2_el h
        refine c_I hS (c_runV (As := [.int (-1000000004 : Int32)]) (rest := []) C hS (by decide) cel_Tide (rfl : cls[5]? = some (R_Tide, T_Tide, 12)) (k_Tide_finding (l := l) (E := E) (X := X6) hr10) cw_Tide_finding ini_Tide_finding ins_Tide_finding sel_Tide_finding tw_281 hd_Tide_finding rfl ⟨⟨rfl, rfl⟩, (Nat.le_of_ble_eq_true rfl), (Nat.le_of_ble_eq_true rfl)⟩ ⟨(Nat.le_of_ble_eq_true rfl), (Nat.le_of_ble_eq_true rfl)⟩ hl.1 rfl (Nat.le_of_ble_eq_true rfl) d_Tide_taken_70) (fun H locs hS => ?_)
        exact r_iret C hS rfl h d_Tide_taken_73
      · skip
        refine lv_iload_n hx hb d_Tide_taken_63 rfl (lv_at hl 0 rfl) ?_
        refine lv_goto (tgt := 73) hx hb d_Tide_taken_64 (by decide) ?_
        exact r_iret C hS rfl h d_Tide_taken_73
    · skip
      refine lv_aload_n hx hb d_Tide_taken_34 rfl (lv_at hl 0 rfl) ?_
      refine lv_ldc (v := -1000000005) hx hb hown (hts _ tw_394) d_Tide_taken_35 ?_
      obtain ⟨v12, X14, hr13, h⟩ := bd2_el h
      refine c_I hS (c_runV (As := [.int (-1000000005 : Int32)]) (rest := []) C hS (by decide) cel_Tide (rfl : cls[5]? = some (R_Tide, T_Tide, 12)) (k_Tide_finding (l := l) (E := E) (X := X) hr13) cw_Tide_finding ini_Tide_finding ins_Tide_finding sel_Tide_finding tw_281 hd_Tide_finding rfl ⟨⟨rfl, rfl⟩, (Nat.le_of_ble_eq_true rfl), (Nat.le_of_ble_eq_true rfl)⟩ ⟨(Nat.le_of_ble_eq_true rfl), (Nat.le_of_ble_eq_true rfl)⟩ hl.1 rfl (Nat.le_of_ble_eq_true rfl) d_Tide_taken_37) (fun H locs hS => ?_)
      exact r_iret C hS rfl h d_Tide_taken_40
  · skip
    refine lv_aload_n hx hb d_Tide_taken_11 rfl (lv_at hl 0 rfl) ?_
    refine lv_ldc (v := -1000000001) hx hb hown (hts _ tw_280) d_Tide_taken_12 ?_
    obtain ⟨v15, X17, hr16, h⟩ := bd2_el h
    refine c_I hS (c_runV (As := [.int (-1000000001 : Int32)]) (rest := []) C hS (by decide) cel_Tide (rfl : cls[5]? = some (R_Tide, T_Tide, 12)) (k_Tide_finding (l := l) (E := E) (X := X) hr16) cw_Tide_finding ini_Tide_finding ins_Tide_finding sel_Tide_finding tw_281 hd_Tide_finding rfl ⟨⟨rfl, rfl⟩, (Nat.le_of_ble_eq_true rfl), (Nat.le_of_ble_eq_true rfl)⟩ ⟨(Nat.le_of_ble_eq_true rfl), (Nat.le_of_ble_eq_true rfl)⟩ hl.1 rfl (Nat.le_of_ble_eq_true rfl) d_Tide_taken_14) (fun H locs hS => ?_)
    exact r_iret C hS rfl h d_Tide_taken_17
set_option maxHeartbeats 4000000 in
set_option maxRecDepth 100000 in
theorem k_Tide_home {l : Launch} {E : En} {p1 : Int32} {X : Mem} {r : Int32} {Y : Mem} (h : f_Tide_home p1 X = some (r, Y)) : Met l y_Tide_home (Cond.code y_Tide_home c_Tide_home 3 (some .int) :: tb) ({ frames := 7, cells := 0, slots := 0, locals := 160 } : Room) (PreC E [.ref (ad E 0), .int p1] X) (PostI E r Y) 0 0 (Ad E) := by
  refine met_of (by decide) (Nat.le_of_ble_eq_true rfl) (fun p e s m below meth c C hS ls hl => ?_)
  replace C : Cx p s m ([.ref (ad E 0), .int p1] : List Value).toArray meth c c_Tide_home 3 "TideLoans" (some .int) E := C
  replace hl : lv_has ls 3 [(0, .ref (ad E 0)), (1, .int p1)] := hl
  obtain ⟨hx, hb, hml, hown, hts, hrt, hlk, hKx⟩ := id C
  unfold f_Tide_home at h
  refine lv_aload_n hx hb d_Tide_home_0 rfl (lv_at hl 0 rfl) ?_
  refine r_get C hS (by decide) cel_Tide (rfl : cls[5]? = some (R_Tide, T_Tide, 12)) in_Tide 1 (by decide) tw_237 rfl d_Tide_home_1 ?_
  refine lv_iload_n hx hb d_Tide_home_4 rfl (lv_at hl 1 rfl) ?_
  obtain ⟨v1, hr2, h⟩ := bd_el h
  refine c_I hS (c_runV (As := [.int p1]) (rest := []) C hS (by decide) (cel_Shore (rfl : kd 2 = 1)) (rfl : cls[1]? = some (R_Shore, T_Shore, 6)) (k_Shore_has (l := l) (E := E) (X := X) rfl hr2) cw_Shore_has ini_Shore_has ins_Shore_has sel_Shore_has tw_345 hd_Shore_has rfl ⟨⟨rfl, rfl⟩, (Nat.le_of_ble_eq_true rfl), (Nat.le_of_ble_eq_true rfl)⟩ ⟨(Nat.le_of_ble_eq_true rfl), (Nat.le_of_ble_eq_true rfl)⟩ hl.1 rfl (Nat.le_of_ble_eq_true rfl) d_Tide_home_5) (fun H locs hS => ?_)
  refine r_if_ne (tgt := 18) C h d_Tide_home_8 (by decide) (fun h => ?_) (fun h => ?_)
  · skip
    refine lv_aload_n hx hb d_Tide_home_18 rfl (lv_at hl 0 rfl) ?_
    refine r_get C hS (by decide) cel_Tide (rfl : cls[5]? = some (R_Tide, T_Tide, 12)) in_Tide 1 (by decide) tw_237 rfl d_Tide_home_19 ?_
    refine r_get C hS (by decide) (cel_Shore (rfl : kd 2 = 1)) (rfl : cls[1]? = some (R_Shore, T_Shore, 6)) in_Shore 2 (by decide) tw_136 rfl d_Tide_home_22 ?_
    refine lv_iload_n hx hb d_Tide_home_25 rfl (lv_at hl 1 rfl) ?_
    refine r_ldT C hS (kd_things rfl) h d_Tide_home_26 (fun j3 hj3 h => ?_)
    refine r_getI C hS (kd_lt (kd_thing (kd_things rfl) hj3) (by decide)) (cel_Thing (kd_thing (kd_things rfl) hj3)) (rfl : cls[3]? = some (R_Thing, T_Thing, 6)) in_Thing 4 (by decide) tw_113 rfl h d_Tide_home_27 (fun v4 h => ?_)
    refine r_if_ne (tgt := 40) C h d_Tide_home_30 (by decide) (fun h => ?_) (fun h => ?_)
    · skip
      refine lv_aload_n hx hb d_Tide_home_40 rfl (lv_at hl 0 rfl) ?_
      refine lv_iload_n hx hb d_Tide_home_41 rfl (lv_at hl 1 rfl) ?_
      refine lv_sipush (v := 400) hx hb d_Tide_home_42 (by decide) ?_
      obtain ⟨X6, hr5, h⟩ := bd_el h
      refine c_V hS (c_runV (As := [.int p1, .int (400 : Int32)]) (rest := []) C hS (by decide) cel_Tide (rfl : cls[5]? = some (R_Tide, T_Tide, 12)) (k_Tide_follow (l := l) (E := E) (X := X) hr5) cw_Tide_follow ini_Tide_follow ins_Tide_follow sel_Tide_follow tw_417 hd_Tide_follow rfl ⟨⟨rfl, rfl⟩, (Nat.le_of_ble_eq_true rfl), (Nat.le_of_ble_eq_true rfl)⟩ ⟨(Nat.le_of_ble_eq_true rfl), (Nat.le_of_ble_eq_true rfl)⟩ hl.1 rfl (Nat.le_of_ble_eq_true rfl) d_Tide_home_45) (fun H locs hS => ?_)
      refine lv_aload_n hx hb d_Tide_home_48 rfl (lv_at hl 0 rfl) ?_
      refine r_get C hS (by decide) cel_Tide (rfl : cls[5]? = some (R_Tide, T_Tide, 12)) in_Tide 6 (by decide) tw_242 rfl d_Tide_home_49 ?_
      refine lv_iload_n hx hb d_Tide_home_52 rfl (lv_at hl 1 rfl) ?_
      refine r_ldW C hS h d_Tide_home_53 (fun j7 hj7 h => ?_)
      refine r_getI C hS (kd_lt (kd_way hj7) (by decide)) (cel_Way (kd_way hj7)) (rfl : cls[4]? = some (R_Way, T_Way, 5)) in_Way 1 (by decide) tw_200 rfl h d_Tide_home_54 (fun v8 h => ?_)
      refine lv_istore_n (lv' := [(2, .int v8), (0, .ref (ad E 0)), (1, .int p1)]) hx hb d_Tide_home_57 rfl hl (by decide) rfl (fun ls hl => ?_)
      refine lv_iload_n hx hb d_Tide_home_58 rfl (lv_at hl 0 rfl) ?_
      refine r_if_le (tgt := 66) C h d_Tide_home_59 (by decide) (fun h => ?_) (fun h => ?_)
      · skip
        refine lv_aload_n hx hb d_Tide_home_66 rfl (lv_at hl 1 rfl) ?_
        refine lv_ldc (v := -1000000004) hx hb hown (hts _ tw_491) d_Tide_home_67 ?_
        obtain ⟨v9, X11, hr10, h⟩ := bd2_el h
        refine c_I hS (c_runV (As := [.int (-1000000004 : Int32)]) (rest := []) C hS (by decide) cel_Tide (rfl : cls[5]? = some (R_Tide, T_Tide, 12)) (k_Tide_finding (l := l) (E := E) (X := X6) hr10) cw_Tide_finding ini_Tide_finding ins_Tide_finding sel_Tide_finding tw_281 hd_Tide_finding rfl ⟨⟨rfl, rfl⟩, (Nat.le_of_ble_eq_true rfl), (Nat.le_of_ble_eq_true rfl)⟩ ⟨(Nat.le_of_ble_eq_true rfl), (Nat.le_of_ble_eq_true rfl)⟩ hl.1 rfl (Nat.le_of_ble_eq_true rfl) d_Tide_home_69) (fun H locs hS => ?_)
        exact r_iret C hS rfl h d_Tide_home_72
      · skip
        refine lv_iload_n hx hb d_Tide_home_62 rfl (lv_at hl 0 rfl) ?_
        refine lv_goto (tgt := 72) hx hb d_Tide_home_63 (by decide) ?_
        exact r_iret C hS rfl h d_Tide_home_72
    · skip
      refine lv_aload_n hx hb d_Tide_home_33 rfl (lv_at hl 0 rfl) ?_
      refine lv_ldc (v := -1000000005) hx hb hown (hts _ tw_394) d_Tide_home_34 ?_
      obtain ⟨v12, X14, hr13, h⟩ := bd2_el h
      refine c_I hS (c_runV (As := [.int (-1000000005 : Int32)]) (rest := []) C hS (by decide) cel_Tide (rfl : cls[5]? = some (R_Tide, T_Tide, 12)) (k_Tide_finding (l := l) (E := E) (X := X) hr13) cw_Tide_finding ini_Tide_finding ins_Tide_finding sel_Tide_finding tw_281 hd_Tide_finding rfl ⟨⟨rfl, rfl⟩, (Nat.le_of_ble_eq_true rfl), (Nat.le_of_ble_eq_true rfl)⟩ ⟨(Nat.le_of_ble_eq_true rfl), (Nat.le_of_ble_eq_true rfl)⟩ hl.1 rfl (Nat.le_of_ble_eq_true rfl) d_Tide_home_36) (fun H locs hS => ?_)
      exact r_iret C hS rfl h d_Tide_home_39
  · skip
    refine lv_aload_n hx hb d_Tide_home_11 rfl (lv_at hl 0 rfl) ?_
    refine lv_ldc (v := -1000000001) hx hb hown (hts _ tw_280) d_Tide_home_12 ?_
    obtain ⟨v15, X17, hr16, h⟩ := bd2_el h
    refine c_I hS (c_runV (As := [.int (-1000000001 : Int32)]) (rest := []) C hS (by decide) cel_Tide (rfl : cls[5]? = some (R_Tide, T_Tide, 12)) (k_Tide_finding (l := l) (E := E) (X := X) hr16) cw_Tide_finding ini_Tide_finding ins_Tide_finding sel_Tide_finding tw_281 hd_Tide_finding rfl ⟨⟨rfl, rfl⟩, (Nat.le_of_ble_eq_true rfl), (Nat.le_of_ble_eq_true rfl)⟩ ⟨(Nat.le_of_ble_eq_true rfl), (Nat.le_of_ble_eq_true rfl)⟩ hl.1 rfl (Nat.le_of_ble_eq_true rfl) d_Tide_home_14) (fun H locs hS => ?_)
    exact r_iret C hS rfl h d_Tide_home_17
def I_Tide_due_b28 (p : Program) (l : Launch) (e : Env) (s : State) (m : MethodId) (args : Array Value) (below : List Frame) (meth : Method) (c : Code) (E : En) (r : Int32) (Y : Mem) (X : Mem) (n : Nat) (tg : (Int32 × Mem)) : Prop := ∀ (x1 : Int32) (x2 : Int32) (H : Heap) (locs : List Loc) (ls : Array Slot), it (fun a => f_Tide_due_b28 X a.1 a.2) n (x1, x2) = some tg → Hs E s.heap X H locs → lv_has ls 3 [(0, .ref (ad E 0)), (1, .int x1), (2, .int x2)] → W p l e ({ frames := 8, cells := 0, slots := 0, locals := 182 } : Room) s m args below meth c H locs 0 0 (MQ below (PostI E r Y) args s 0 0 (Ad E)) (F0 m 28 ls [])
set_option maxHeartbeats 4000000 in
set_option maxRecDepth 100000 in
theorem k_Tide_due_j57 {p : Program} {l : Launch} {e : Env} {s : State} {m : MethodId} {args : Array Value} {below : List Frame} {meth : Method} {c : Code} {E : En} {r : Int32} {Y : Mem} (C : Cx p s m args meth c c_Tide_due 3 "TideLoans" (some .int) E) {x1 : Int32} {x2 : Int32} {X : Mem} {tg : ((Int32 × Mem) ⊕ (Int32 × Int32))} {n28 : Nat} (hc28 : fin (fun a => f_Tide_due_b28 X a.1 a.2) n28 (r, Y) tg) (ih28 : I_Tide_due_b28 p l e s m args below meth c E r Y X n28 (r, Y)) (h : f_Tide_due_j57 x1 x2 X = some tg) {H : Heap} {locs : List Loc} (hS : Hs E s.heap X H locs) {ls : Array Slot} (hl : lv_has ls 3 [(0, .ref (ad E 0)), (1, .int x1), (2, .int x2)]) : W p l e ({ frames := 8, cells := 0, slots := 0, locals := 182 } : Room) s m args below meth c H locs 0 0 (MQ below (PostI E r Y) args s 0 0 (Ad E)) (F0 m 57 ls []) := by
  obtain ⟨hx, hb, hml, hown, hts, hrt, hlk, hKx⟩ := id C
  unfold f_Tide_due_j57 at h
  refine r_iinc C (w := 1) (lv' := fun z => [(2, .int z), (0, .ref (ad E 0)), (1, .int x1)]) h d_Tide_due_57 hl (k := 2) rfl (by decide) (by decide) (fun _ => rfl) (fun v1 ls h hl => ?_)
  refine lv_goto (tgt := 28) hx hb d_Tide_due_60 (by decide) ?_
  exact ih28 _ _ _ _ _ (lp_next h hc28) hS (lv_sub hl [1, 2, 0] rfl)
set_option maxHeartbeats 4000000 in
set_option maxRecDepth 100000 in
theorem k_Tide_due_b28 {p : Program} {l : Launch} {e : Env} {s : State} {m : MethodId} {args : Array Value} {below : List Frame} {meth : Method} {c : Code} {E : En} {r : Int32} {Y : Mem} (C : Cx p s m args meth c c_Tide_due 3 "TideLoans" (some .int) E) {X : Mem} : ∀ n, I_Tide_due_b28 p l e s m args below meth c E r Y X n (r, Y) := by
  obtain ⟨hx, hb, hml, hown, hts, hrt, hlk, hKx⟩ := id C
  intro n
  induction n with
  | zero => intro x1 x2 H locs ls h; exact it_0 h
  | succ n ih =>
    intro x1 x2 H locs ls h hS hl
    obtain ⟨cc28, h, hc28⟩ := it_el h
    replace h : f_Tide_due_b28 X x1 x2 = some cc28 := h
    unfold f_Tide_due_b28 at h
    refine lv_iload_n hx hb d_Tide_due_28 rfl (lv_at hl 2 rfl) ?_
    refine lv_aload_n hx hb d_Tide_due_29 rfl (lv_at hl 0 rfl) ?_
    refine r_get C hS (by decide) cel_Tide (rfl : cls[5]? = some (R_Tide, T_Tide, 12)) in_Tide 1 (by decide) tw_237 rfl d_Tide_due_30 ?_
    refine r_getI C hS (by decide) (cel_Shore (rfl : kd 2 = 1)) (rfl : cls[1]? = some (R_Shore, T_Shore, 6)) in_Shore 3 (by decide) tw_138 rfl h d_Tide_due_33 (fun v1 h => ?_)
    refine r_icmp_ge (tgt := 63) C h d_Tide_due_36 (by decide) (fun h => ?_) (fun h => ?_)
    · skip
      refine lv_iload_n hx hb d_Tide_due_63 rfl (lv_at hl 1 rfl) ?_
      replace h := lp_ret h hc28
      exact r_iret C hS rfl h d_Tide_due_64
    · skip
      refine lv_aload_n hx hb d_Tide_due_39 rfl (lv_at hl 0 rfl) ?_
      refine r_get C hS (by decide) cel_Tide (rfl : cls[5]? = some (R_Tide, T_Tide, 12)) in_Tide 6 (by decide) tw_242 rfl d_Tide_due_40 ?_
      refine lv_iload_n hx hb d_Tide_due_43 rfl (lv_at hl 2 rfl) ?_
      refine r_ldW C hS h d_Tide_due_44 (fun j2 hj2 h => ?_)
      refine r_getI C hS (kd_lt (kd_way hj2) (by decide)) (cel_Way (kd_way hj2)) (rfl : cls[4]? = some (R_Way, T_Way, 5)) in_Way 1 (by decide) tw_200 rfl h d_Tide_due_45 (fun v3 h => ?_)
      refine r_if_le (tgt := 57) C h d_Tide_due_48 (by decide) (fun h => ?_) (fun h => ?_)
      · skip
        exact k_Tide_due_j57 C hc28 ih h hS (lv_sub hl [0, 1, 2] rfl)
      · skip
        refine lv_iload_n hx hb d_Tide_due_51 rfl (lv_at hl 1 rfl) ?_
        refine lv_iconst (v := 1) hx hb d_Tide_due_52 (by decide) ?_
        refine lv_iload_n hx hb d_Tide_due_53 rfl (lv_at hl 2 rfl) ?_
        refine lv_ishl hx hb d_Tide_due_54 ?_
        refine lv_ior hx hb d_Tide_due_55 ?_
        refine r_top h (fun v4 h => ?_)
        refine lv_istore_n (lv' := [(1, .int v4), (0, .ref (ad E 0)), (2, .int x2)]) hx hb d_Tide_due_56 rfl hl (by decide) rfl (fun ls hl => ?_)
        exact k_Tide_due_j57 C hc28 ih h hS (lv_sub hl [1, 0, 2] rfl)
set_option maxHeartbeats 4000000 in
set_option maxRecDepth 100000 in
theorem k_Tide_due {l : Launch} {E : En} {X : Mem} {r : Int32} {Y : Mem} (h : f_Tide_due X = some (r, Y)) : Met l y_Tide_due (Cond.code y_Tide_due c_Tide_due 3 (some .int) :: tb) ({ frames := 8, cells := 0, slots := 0, locals := 182 } : Room) (PreC E [.ref (ad E 0)] X) (PostI E r Y) 0 0 (Ad E) := by
  refine met_of (by decide) (Nat.le_of_ble_eq_true rfl) (fun p e s m below meth c C hS ls hl => ?_)
  replace C : Cx p s m ([.ref (ad E 0)] : List Value).toArray meth c c_Tide_due 3 "TideLoans" (some .int) E := C
  replace hl : lv_has ls 3 [(0, .ref (ad E 0))] := hl
  obtain ⟨hx, hb, hml, hown, hts, hrt, hlk, hKx⟩ := id C
  unfold f_Tide_due at h
  refine lv_aload_n hx hb d_Tide_due_0 rfl (lv_at hl 0 rfl) ?_
  refine lv_aload_n hx hb d_Tide_due_1 rfl (lv_at hl 0 rfl) ?_
  refine r_get C hS (by decide) cel_Tide (rfl : cls[5]? = some (R_Tide, T_Tide, 12)) in_Tide 1 (by decide) tw_237 rfl d_Tide_due_2 ?_
  refine r_getI C hS (by decide) (cel_Shore (rfl : kd 2 = 1)) (rfl : cls[1]? = some (R_Shore, T_Shore, 6)) in_Shore 4 (by decide) tw_140 rfl h d_Tide_due_5 (fun v1 h => ?_)
  obtain ⟨v2, hr3, h⟩ := bd_el h
  refine c_I hS (c_runS (As := [.int v1]) (rest := [.ref (ad E 0)]) C hS (k_Tide_springFrom (l := l) (E := E) (X := X) hr3) cw_Tide_springFrom ini_Tide_springFrom sta_Tide_springFrom tw_500 hd_Tide_springFrom rfl ⟨⟨rfl, rfl⟩, (Nat.le_of_ble_eq_true rfl), (Nat.le_of_ble_eq_true rfl)⟩ ⟨(Nat.le_of_ble_eq_true rfl), (Nat.le_of_ble_eq_true rfl)⟩ hl.1 rfl (Nat.le_of_ble_eq_true rfl) d_Tide_due_8) (fun H locs hS => ?_)
  refine lv_aload_n hx hb d_Tide_due_11 rfl (lv_at hl 0 rfl) ?_
  refine r_get C hS (by decide) cel_Tide (rfl : cls[5]? = some (R_Tide, T_Tide, 12)) in_Tide 1 (by decide) tw_237 rfl d_Tide_due_12 ?_
  refine r_getI C hS (by decide) (cel_Shore (rfl : kd 2 = 1)) (rfl : cls[1]? = some (R_Shore, T_Shore, 6)) in_Shore 4 (by decide) tw_140 rfl h d_Tide_due_15 (fun v4 h => ?_)
  refine lv_isub hx hb d_Tide_due_18 ?_
  refine lv_iconst (v := 1) hx hb d_Tide_due_19 (by decide) ?_
  refine lv_iadd hx hb d_Tide_due_20 ?_
  obtain ⟨X6, hr5, h⟩ := bd_el h
  refine c_V hS (c_runV (As := [.int ((v2 - v4) + (1 : Int32))]) (rest := []) C hS (by decide) cel_Tide (rfl : cls[5]? = some (R_Tide, T_Tide, 12)) (k_Tide_followAll (l := l) (E := E) (X := X) hr5) cw_Tide_followAll ini_Tide_followAll ins_Tide_followAll sel_Tide_followAll tw_413 hd_Tide_followAll rfl ⟨⟨rfl, rfl⟩, (Nat.le_of_ble_eq_true rfl), (Nat.le_of_ble_eq_true rfl)⟩ ⟨(Nat.le_of_ble_eq_true rfl), (Nat.le_of_ble_eq_true rfl)⟩ hl.1 rfl (Nat.le_of_ble_eq_true rfl) d_Tide_due_21) (fun H locs hS => ?_)
  refine lv_iconst (v := 0) hx hb d_Tide_due_24 (by decide) ?_
  refine lv_istore_n (lv' := [(1, .int (0 : Int32)), (0, .ref (ad E 0))]) hx hb d_Tide_due_25 rfl hl (by decide) rfl (fun ls hl => ?_)
  refine lv_iconst (v := 0) hx hb d_Tide_due_26 (by decide) ?_
  refine lv_istore_n (lv' := [(2, .int (0 : Int32)), (1, .int (0 : Int32)), (0, .ref (ad E 0))]) hx hb d_Tide_due_27 rfl hl (by decide) rfl (fun ls hl => ?_)
  exact k_Tide_due_b28 C FU _ _ _ _ _ h hS (lv_sub hl [2, 1, 0] rfl)
set_option maxHeartbeats 4000000 in
set_option maxRecDepth 100000 in
theorem k_Tide_tryOn {l : Launch} {E : En} {p1 : Int32} {p2 : Int32} {X : Mem} {r : Int32} {Y : Mem} (h : f_Tide_tryOn p1 p2 X = some (r, Y)) : Met l y_Tide_tryOn (Cond.code y_Tide_tryOn c_Tide_tryOn 3 (some .int) :: tb) ({ frames := 8, cells := 0, slots := 0, locals := 182 } : Room) (PreC E [.ref (ad E 0), .int p1, .int p2] X) (PostI E r Y) 0 0 (Ad E) := by
  refine met_of (by decide) (Nat.le_of_ble_eq_true rfl) (fun p e s m below meth c C hS ls hl => ?_)
  replace C : Cx p s m ([.ref (ad E 0), .int p1, .int p2] : List Value).toArray meth c c_Tide_tryOn 3 "TideLoans" (some .int) E := C
  replace hl : lv_has ls 3 [(0, .ref (ad E 0)), (1, .int p1), (2, .int p2)] := hl
  obtain ⟨hx, hb, hml, hown, hts, hrt, hlk, hKx⟩ := id C
  unfold f_Tide_tryOn at h
  refine lv_aload_n hx hb d_Tide_tryOn_0 rfl (lv_at hl 0 rfl) ?_
  refine r_get C hS (by decide) cel_Tide (rfl : cls[5]? = some (R_Tide, T_Tide, 12)) in_Tide 9 (by decide) tw_245 rfl d_Tide_tryOn_1 ?_
  refine lv_aload_n hx hb d_Tide_tryOn_4 rfl (lv_at hl 0 rfl) ?_
  refine r_get C hS (by decide) cel_Tide (rfl : cls[5]? = some (R_Tide, T_Tide, 12)) in_Tide 1 (by decide) tw_237 rfl d_Tide_tryOn_5 ?_
  refine r_get C hS (by decide) (cel_Shore (rfl : kd 2 = 1)) (rfl : cls[1]? = some (R_Shore, T_Shore, 6)) in_Shore 2 (by decide) tw_136 rfl d_Tide_tryOn_8 ?_
  refine lv_iload_n hx hb d_Tide_tryOn_11 rfl (lv_at hl 1 rfl) ?_
  refine r_ldT C hS (kd_things rfl) h d_Tide_tryOn_12 (fun j1 hj1 h => ?_)
  obtain ⟨X3, hr2, h⟩ := bd_el h
  refine c_V hS (c_runV (As := [.ref (ad E ((2 + 3) + 1 + j1))]) (rest := []) C hS (by decide) (cel_Thing (rfl : kd 50 = 2)) (rfl : cls[3]? = some (R_Thing, T_Thing, 6)) (k_Thing_become (l := l) (E := E) (X := X) rfl (kd_thing (kd_things rfl) hj1) hr2) cw_Thing_become ini_Thing_become ins_Thing_become sel_Thing_become tw_509 hd_Thing_become rfl ⟨⟨rfl, rfl⟩, (Nat.le_of_ble_eq_true rfl), (Nat.le_of_ble_eq_true rfl)⟩ ⟨(Nat.le_of_ble_eq_true rfl), (Nat.le_of_ble_eq_true rfl)⟩ hl.1 rfl (Nat.le_of_ble_eq_true rfl) d_Tide_tryOn_13) (fun H locs hS => ?_)
  refine lv_aload_n hx hb d_Tide_tryOn_16 rfl (lv_at hl 0 rfl) ?_
  refine lv_iload_n hx hb d_Tide_tryOn_17 rfl (lv_at hl 2 rfl) ?_
  obtain ⟨X5, hr4, h⟩ := bd_el h
  refine c_V hS (c_runV (As := [.int p2]) (rest := []) C hS (by decide) cel_Tide (rfl : cls[5]? = some (R_Tide, T_Tide, 12)) (k_Tide_followAll (l := l) (E := E) (X := X3) hr4) cw_Tide_followAll ini_Tide_followAll ins_Tide_followAll sel_Tide_followAll tw_413 hd_Tide_followAll rfl ⟨⟨rfl, rfl⟩, (Nat.le_of_ble_eq_true rfl), (Nat.le_of_ble_eq_true rfl)⟩ ⟨(Nat.le_of_ble_eq_true rfl), (Nat.le_of_ble_eq_true rfl)⟩ hl.1 rfl (Nat.le_of_ble_eq_true rfl) d_Tide_tryOn_18) (fun H locs hS => ?_)
  refine lv_aload_n hx hb d_Tide_tryOn_21 rfl (lv_at hl 0 rfl) ?_
  refine lv_aload_n hx hb d_Tide_tryOn_22 rfl (lv_at hl 0 rfl) ?_
  refine r_get C hS (by decide) cel_Tide (rfl : cls[5]? = some (R_Tide, T_Tide, 12)) in_Tide 9 (by decide) tw_245 rfl d_Tide_tryOn_23 ?_
  refine r_getI C hS (by decide) (cel_Thing (rfl : kd 50 = 2)) (rfl : cls[3]? = some (R_Thing, T_Thing, 6)) in_Thing 1 (by decide) tw_103 rfl h d_Tide_tryOn_26 (fun v6 h => ?_)
  refine lv_aload_n hx hb d_Tide_tryOn_29 rfl (lv_at hl 0 rfl) ?_
  refine r_get C hS (by decide) cel_Tide (rfl : cls[5]? = some (R_Tide, T_Tide, 12)) in_Tide 1 (by decide) tw_237 rfl d_Tide_tryOn_30 ?_
  refine r_getI C hS (by decide) (cel_Shore (rfl : kd 2 = 1)) (rfl : cls[1]? = some (R_Shore, T_Shore, 6)) in_Shore 5 (by decide) tw_142 rfl h d_Tide_tryOn_33 (fun v7 h => ?_)
  refine lv_iload_n hx hb d_Tide_tryOn_36 rfl (lv_at hl 1 rfl) ?_
  obtain ⟨v8, hr9, h⟩ := bd_el h
  refine c_I hS (c_runV (As := [.int v6, .int v7, .int p1]) (rest := []) C hS (by decide) cel_Tide (rfl : cls[5]? = some (R_Tide, T_Tide, 12)) (k_Tide_purseThen (l := l) (E := E) (X := X5) hr9) cw_Tide_purseThen ini_Tide_purseThen ins_Tide_purseThen sel_Tide_purseThen tw_483 hd_Tide_purseThen rfl ⟨⟨rfl, rfl⟩, (Nat.le_of_ble_eq_true rfl), (Nat.le_of_ble_eq_true rfl)⟩ ⟨(Nat.le_of_ble_eq_true rfl), (Nat.le_of_ble_eq_true rfl)⟩ hl.1 rfl (Nat.le_of_ble_eq_true rfl) d_Tide_tryOn_37) (fun H locs hS => ?_)
  exact r_iret C hS rfl h d_Tide_tryOn_40
set_option maxHeartbeats 4000000 in
set_option maxRecDepth 100000 in
theorem k_Tide_followTrial {l : Launch} {E : En} {p1 : Int32} {p2 : Int32} {X : Mem} {Y : Mem} (h : f_Tide_followTrial p1 p2 X = some Y) : Met l y_Tide_followTrial (Cond.code y_Tide_followTrial c_Tide_followTrial 3 none :: tb) ({ frames := 6, cells := 0, slots := 0, locals := 137 } : Room) (PreC E [.ref (ad E 0), .int p1, .int p2] X) (PostV E Y) 0 0 (Ad E) := by
  refine met_of (by decide) (Nat.le_of_ble_eq_true rfl) (fun p e s m below meth c C hS ls hl => ?_)
  replace C : Cx p s m ([.ref (ad E 0), .int p1, .int p2] : List Value).toArray meth c c_Tide_followTrial 3 "TideLoans" none E := C
  replace hl : lv_has ls 3 [(0, .ref (ad E 0)), (1, .int p1), (2, .int p2)] := hl
  obtain ⟨hx, hb, hml, hown, hts, hrt, hlk, hKx⟩ := id C
  unfold f_Tide_followTrial at h
  refine lv_aload_n hx hb d_Tide_followTrial_0 rfl (lv_at hl 0 rfl) ?_
  refine r_get C hS (by decide) cel_Tide (rfl : cls[5]? = some (R_Tide, T_Tide, 12)) in_Tide 10 (by decide) tw_246 rfl d_Tide_followTrial_1 ?_
  refine lv_aload_n hx hb d_Tide_followTrial_4 rfl (lv_at hl 0 rfl) ?_
  refine r_get C hS (by decide) cel_Tide (rfl : cls[5]? = some (R_Tide, T_Tide, 12)) in_Tide 9 (by decide) tw_245 rfl d_Tide_followTrial_5 ?_
  refine lv_aload_n hx hb d_Tide_followTrial_8 rfl (lv_at hl 0 rfl) ?_
  refine r_get C hS (by decide) cel_Tide (rfl : cls[5]? = some (R_Tide, T_Tide, 12)) in_Tide 1 (by decide) tw_237 rfl d_Tide_followTrial_9 ?_
  refine r_get C hS (by decide) (cel_Shore (rfl : kd 2 = 1)) (rfl : cls[1]? = some (R_Shore, T_Shore, 6)) in_Shore 0 (by decide) tw_132 rfl d_Tide_followTrial_12 ?_
  refine lv_aload_n hx hb d_Tide_followTrial_15 rfl (lv_at hl 0 rfl) ?_
  refine r_get C hS (by decide) cel_Tide (rfl : cls[5]? = some (R_Tide, T_Tide, 12)) in_Tide 9 (by decide) tw_245 rfl d_Tide_followTrial_16 ?_
  refine r_getI C hS (by decide) (cel_Thing (rfl : kd 50 = 2)) (rfl : cls[3]? = some (R_Thing, T_Thing, 6)) in_Thing 2 (by decide) tw_106 rfl h d_Tide_followTrial_19 (fun v1 h => ?_)
  refine r_ldI C hS (n := 16) (kd_heights rfl) (by decide) h d_Tide_followTrial_22 (fun v2 h => ?_)
  refine lv_aload_n hx hb d_Tide_followTrial_23 rfl (lv_at hl 0 rfl) ?_
  refine r_get C hS (by decide) cel_Tide (rfl : cls[5]? = some (R_Tide, T_Tide, 12)) in_Tide 1 (by decide) tw_237 rfl d_Tide_followTrial_24 ?_
  refine r_getI C hS (by decide) (cel_Shore (rfl : kd 2 = 1)) (rfl : cls[1]? = some (R_Shore, T_Shore, 6)) in_Shore 4 (by decide) tw_140 rfl h d_Tide_followTrial_27 (fun v3 h => ?_)
  refine lv_iload_n hx hb d_Tide_followTrial_30 rfl (lv_at hl 1 rfl) ?_
  refine lv_iadd hx hb d_Tide_followTrial_31 ?_
  refine lv_iload_n hx hb d_Tide_followTrial_32 rfl (lv_at hl 2 rfl) ?_
  refine lv_iload_n hx hb d_Tide_followTrial_33 rfl (lv_at hl 1 rfl) ?_
  refine lv_isub hx hb d_Tide_followTrial_34 ?_
  obtain ⟨X5, hr4, h⟩ := bd_el h
  refine c_V hS (c_runV (As := [.ref (ad E 50), .int v2, .int (v3 + p1), .int (p2 - p1)]) (rest := []) C hS (by decide) (cel_Way (rfl : kd 51 = 3)) (rfl : cls[4]? = some (R_Way, T_Way, 5)) (k_Way_follow (l := l) (E := E) (X := X) rfl rfl hr4) cw_Way_follow ini_Way_follow ins_Way_follow sel_Way_follow tw_421 hd_Way_follow rfl ⟨⟨rfl, rfl⟩, (Nat.le_of_ble_eq_true rfl), (Nat.le_of_ble_eq_true rfl)⟩ ⟨(Nat.le_of_ble_eq_true rfl), (Nat.le_of_ble_eq_true rfl)⟩ hl.1 rfl (Nat.le_of_ble_eq_true rfl) d_Tide_followTrial_35) (fun H locs hS => ?_)
  exact r_vret C hS rfl h d_Tide_followTrial_38
set_option maxHeartbeats 4000000 in
set_option maxRecDepth 100000 in
theorem k_Tide_purseWithTrial {l : Launch} {E : En} {p1 : Int32} {p2 : Int32} {p3 : Int32} {X : Mem} {r : Int32} {Y : Mem} (h : f_Tide_purseWithTrial p1 p2 p3 X = some (r, Y)) : Met l y_Tide_purseWithTrial (Cond.code y_Tide_purseWithTrial c_Tide_purseWithTrial 4 (some .int) :: tb) ({ frames := 7, cells := 0, slots := 0, locals := 159 } : Room) (PreC E [.ref (ad E 0), .int p1, .int p2, .int p3] X) (PostI E r Y) 0 0 (Ad E) := by
  refine met_of (by decide) (Nat.le_of_ble_eq_true rfl) (fun p e s m below meth c C hS ls hl => ?_)
  replace C : Cx p s m ([.ref (ad E 0), .int p1, .int p2, .int p3] : List Value).toArray meth c c_Tide_purseWithTrial 4 "TideLoans" (some .int) E := C
  replace hl : lv_has ls 4 [(0, .ref (ad E 0)), (1, .int p1), (2, .int p2), (3, .int p3)] := hl
  obtain ⟨hx, hb, hml, hown, hts, hrt, hlk, hKx⟩ := id C
  unfold f_Tide_purseWithTrial at h
  refine lv_aload_n hx hb d_Tide_purseWithTrial_0 rfl (lv_at hl 0 rfl) ?_
  refine lv_iload_n hx hb d_Tide_purseWithTrial_1 rfl (lv_at hl 2 rfl) ?_
  refine lv_iload_n hx hb d_Tide_purseWithTrial_2 rfl (lv_at hl 3 rfl) ?_
  obtain ⟨X2, hr1, h⟩ := bd_el h
  refine c_V hS (c_runV (As := [.int p2, .int p3]) (rest := []) C hS (by decide) cel_Tide (rfl : cls[5]? = some (R_Tide, T_Tide, 12)) (k_Tide_followTrial (l := l) (E := E) (X := X) hr1) cw_Tide_followTrial ini_Tide_followTrial ins_Tide_followTrial sel_Tide_followTrial tw_517 hd_Tide_followTrial rfl ⟨⟨rfl, rfl⟩, (Nat.le_of_ble_eq_true rfl), (Nat.le_of_ble_eq_true rfl)⟩ ⟨(Nat.le_of_ble_eq_true rfl), (Nat.le_of_ble_eq_true rfl)⟩ hl.1 rfl (Nat.le_of_ble_eq_true rfl) d_Tide_purseWithTrial_3) (fun H locs hS => ?_)
  refine lv_iload_n hx hb d_Tide_purseWithTrial_6 rfl (lv_at hl 1 rfl) ?_
  refine lv_aload_n hx hb d_Tide_purseWithTrial_7 rfl (lv_at hl 0 rfl) ?_
  refine r_get C hS (by decide) cel_Tide (rfl : cls[5]? = some (R_Tide, T_Tide, 12)) in_Tide 10 (by decide) tw_246 rfl d_Tide_purseWithTrial_8 ?_
  refine lv_aload_n hx hb d_Tide_purseWithTrial_11 rfl (lv_at hl 0 rfl) ?_
  refine r_get C hS (by decide) cel_Tide (rfl : cls[5]? = some (R_Tide, T_Tide, 12)) in_Tide 9 (by decide) tw_245 rfl d_Tide_purseWithTrial_12 ?_
  refine lv_aload_n hx hb d_Tide_purseWithTrial_15 rfl (lv_at hl 0 rfl) ?_
  refine r_get C hS (by decide) cel_Tide (rfl : cls[5]? = some (R_Tide, T_Tide, 12)) in_Tide 1 (by decide) tw_237 rfl d_Tide_purseWithTrial_16 ?_
  refine r_getI C hS (by decide) (cel_Shore (rfl : kd 2 = 1)) (rfl : cls[1]? = some (R_Shore, T_Shore, 6)) in_Shore 5 (by decide) tw_142 rfl h d_Tide_purseWithTrial_19 (fun v3 h => ?_)
  obtain ⟨v4, hr5, h⟩ := bd_el h
  refine c_I hS (c_runV (As := [.ref (ad E 50), .int v3]) (rest := [.int p1]) C hS (by decide) (cel_Way (rfl : kd 51 = 3)) (rfl : cls[4]? = some (R_Way, T_Way, 5)) (k_Way_brings (l := l) (E := E) (X := X2) rfl rfl hr5) cw_Way_brings ini_Way_brings ins_Way_brings sel_Way_brings tw_448 hd_Way_brings rfl ⟨⟨rfl, rfl⟩, (Nat.le_of_ble_eq_true rfl), (Nat.le_of_ble_eq_true rfl)⟩ ⟨(Nat.le_of_ble_eq_true rfl), (Nat.le_of_ble_eq_true rfl)⟩ hl.1 rfl (Nat.le_of_ble_eq_true rfl) d_Tide_purseWithTrial_22) (fun H locs hS => ?_)
  obtain ⟨v6, hr7, h⟩ := bd_el h
  refine c_I hS (c_runS (As := [.int p1, .int v4]) (rest := []) C hS (k_Tide_filled (l := l) (E := E) (X := X2) hr7) cw_Tide_filled ini_Tide_filled sta_Tide_filled tw_453 hd_Tide_filled rfl ⟨⟨rfl, rfl⟩, (Nat.le_of_ble_eq_true rfl), (Nat.le_of_ble_eq_true rfl)⟩ ⟨(Nat.le_of_ble_eq_true rfl), (Nat.le_of_ble_eq_true rfl)⟩ hl.1 rfl (Nat.le_of_ble_eq_true rfl) d_Tide_purseWithTrial_25) (fun H locs hS => ?_)
  exact r_iret C hS rfl h d_Tide_purseWithTrial_28
def I_Tide_spot_b67 (p : Program) (l : Launch) (e : Env) (s : State) (m : MethodId) (args : Array Value) (below : List Frame) (meth : Method) (c : Code) (E : En) (r : Int32) (Y : Mem) (x2 : Int32) (x3 : Int32) (n : Nat) (tg : (Int32 × Mem)) : Prop := ∀ (x4 : Int32) (x5 : Int32) (x6 : Int32) (X : Mem) (H : Heap) (locs : List Loc) (ls : Array Slot), it (fun a => f_Tide_spot_b67 x2 x3 a.1 a.2.1 a.2.2.1 a.2.2.2) n (x4, x5, x6, X) = some tg → Hs E s.heap X H locs → lv_has ls 8 [(0, .ref (ad E 0)), (2, .int x2), (3, .int x3), (4, .int x4), (5, .int x5), (6, .int x6)] → W p l e ({ frames := 9, cells := 0, slots := 0, locals := 204 } : Room) s m args below meth c H locs 0 0 (MQ below (PostI E r Y) args s 0 0 (Ad E)) (F0 m 67 ls [])
set_option maxHeartbeats 4000000 in
set_option maxRecDepth 100000 in
theorem k_Tide_spot_j107 {p : Program} {l : Launch} {e : Env} {s : State} {m : MethodId} {args : Array Value} {below : List Frame} {meth : Method} {c : Code} {E : En} {r : Int32} {Y : Mem} (C : Cx p s m args meth c c_Tide_spot 8 "TideLoans" (some .int) E) {x2 : Int32} {x3 : Int32} {x4 : Int32} {x5 : Int32} {x6 : Int32} {X : Mem} {tg : ((Int32 × Mem) ⊕ (Int32 × Int32 × Int32 × Mem))} {n67 : Nat} (hc67 : fin (fun a => f_Tide_spot_b67 x2 x3 a.1 a.2.1 a.2.2.1 a.2.2.2) n67 (r, Y) tg) (ih67 : I_Tide_spot_b67 p l e s m args below meth c E r Y x2 x3 n67 (r, Y)) (h : f_Tide_spot_j107 x2 x3 x4 x5 x6 X = some tg) {H : Heap} {locs : List Loc} (hS : Hs E s.heap X H locs) {ls : Array Slot} (hl : lv_has ls 8 [(0, .ref (ad E 0)), (2, .int x2), (3, .int x3), (4, .int x4), (5, .int x5), (6, .int x6)]) : W p l e ({ frames := 9, cells := 0, slots := 0, locals := 204 } : Room) s m args below meth c H locs 0 0 (MQ below (PostI E r Y) args s 0 0 (Ad E)) (F0 m 107 ls []) := by
  obtain ⟨hx, hb, hml, hown, hts, hrt, hlk, hKx⟩ := id C
  unfold f_Tide_spot_j107 at h
  refine r_iinc C (w := 1) (lv' := fun z => [(6, .int z), (0, .ref (ad E 0)), (2, .int x2), (3, .int x3), (4, .int x4), (5, .int x5)]) h d_Tide_spot_107 hl (k := 5) rfl (by decide) (by decide) (fun _ => rfl) (fun v1 ls h hl => ?_)
  refine lv_goto (tgt := 67) hx hb d_Tide_spot_110 (by decide) ?_
  exact ih67 _ _ _ _ _ _ _ (lp_next h hc67) hS (lv_sub hl [1, 2, 3, 4, 5, 0] rfl)
set_option maxHeartbeats 4000000 in
set_option maxRecDepth 100000 in
theorem k_Tide_spot_b67 {p : Program} {l : Launch} {e : Env} {s : State} {m : MethodId} {args : Array Value} {below : List Frame} {meth : Method} {c : Code} {E : En} {r : Int32} {Y : Mem} (C : Cx p s m args meth c c_Tide_spot 8 "TideLoans" (some .int) E) (x2 : Int32) (x3 : Int32) : ∀ n, I_Tide_spot_b67 p l e s m args below meth c E r Y x2 x3 n (r, Y) := by
  obtain ⟨hx, hb, hml, hown, hts, hrt, hlk, hKx⟩ := id C
  intro n
  induction n with
  | zero => intro x4 x5 x6 X H locs ls h; exact it_0 h
  | succ n ih =>
    intro x4 x5 x6 X H locs ls h hS hl
    obtain ⟨cc67, h, hc67⟩ := it_el h
    replace h : f_Tide_spot_b67 x2 x3 x4 x5 x6 X = some cc67 := h
    unfold f_Tide_spot_b67 at h
    refine lv_iload hx hb d_Tide_spot_67 (lv_at hl 5 rfl) ?_
    refine lv_bipush (v := 16) hx hb d_Tide_spot_69 (by decide) ?_
    refine r_icmp_ge (tgt := 113) C h d_Tide_spot_71 (by decide) (fun h => ?_) (fun h => ?_)
    · skip
      refine lv_iload hx hb d_Tide_spot_113 (lv_at hl 3 rfl) ?_
      replace h := lp_ret h hc67
      exact r_iret C hS rfl h d_Tide_spot_115
    · skip
      refine lv_aload_n hx hb d_Tide_spot_74 rfl (lv_at hl 0 rfl) ?_
      refine r_get C hS (by decide) cel_Tide (rfl : cls[5]? = some (R_Tide, T_Tide, 12)) in_Tide 9 (by decide) tw_245 rfl d_Tide_spot_75 ?_
      refine lv_iload hx hb d_Tide_spot_78 (lv_at hl 5 rfl) ?_
      obtain ⟨X2, hr1, h⟩ := bd_el h
      refine c_V hS (c_runV (As := [.int x6]) (rest := []) C hS (by decide) (cel_Thing (rfl : kd 50 = 2)) (rfl : cls[3]? = some (R_Thing, T_Thing, 6)) (k_Thing_layAt (l := l) (E := E) (X := X) rfl hr1) cw_Thing_layAt ini_Thing_layAt ins_Thing_layAt sel_Thing_layAt tw_395 hd_Thing_layAt rfl ⟨⟨rfl, rfl⟩, (Nat.le_of_ble_eq_true rfl), (Nat.le_of_ble_eq_true rfl)⟩ ⟨(Nat.le_of_ble_eq_true rfl), (Nat.le_of_ble_eq_true rfl)⟩ hl.1 rfl (Nat.le_of_ble_eq_true rfl) d_Tide_spot_80) (fun H locs hS => ?_)
      refine lv_aload_n hx hb d_Tide_spot_83 rfl (lv_at hl 0 rfl) ?_
      refine lv_iload_n hx hb d_Tide_spot_84 rfl (lv_at hl 2 rfl) ?_
      refine lv_iconst (v := 0) hx hb d_Tide_spot_85 (by decide) ?_
      refine lv_iload_n hx hb d_Tide_spot_86 rfl (lv_at hl 1 rfl) ?_
      obtain ⟨v3, X5, hr4, h⟩ := bd2_el h
      refine c_I hS (c_runV (As := [.int x3, .int (0 : Int32), .int x2]) (rest := []) C hS (by decide) cel_Tide (rfl : cls[5]? = some (R_Tide, T_Tide, 12)) (k_Tide_purseWithTrial (l := l) (E := E) (X := X2) hr4) cw_Tide_purseWithTrial ini_Tide_purseWithTrial ins_Tide_purseWithTrial sel_Tide_purseWithTrial tw_513 hd_Tide_purseWithTrial rfl ⟨⟨rfl, rfl⟩, (Nat.le_of_ble_eq_true rfl), (Nat.le_of_ble_eq_true rfl)⟩ ⟨(Nat.le_of_ble_eq_true rfl), (Nat.le_of_ble_eq_true rfl)⟩ hl.1 rfl (Nat.le_of_ble_eq_true rfl) d_Tide_spot_87) (fun H locs hS => ?_)
      refine lv_istore (lv' := [(7, .int v3), (0, .ref (ad E 0)), (2, .int x2), (3, .int x3), (4, .int x4), (5, .int x5), (6, .int x6)]) hx hb d_Tide_spot_90 hl (by decide) rfl (fun ls hl => ?_)
      refine lv_iload hx hb d_Tide_spot_92 (lv_at hl 0 rfl) ?_
      refine lv_iload hx hb d_Tide_spot_94 (lv_at hl 5 rfl) ?_
      refine r_icmp_le (tgt := 107) C h d_Tide_spot_96 (by decide) (fun h => ?_) (fun h => ?_)
      · skip
        exact k_Tide_spot_j107 C hc67 ih h hS (lv_sub hl [1, 2, 3, 4, 5, 6] rfl)
      · skip
        refine lv_iload hx hb d_Tide_spot_99 (lv_at hl 0 rfl) ?_
        refine lv_istore (lv' := [(5, .int v3), (7, .int v3), (0, .ref (ad E 0)), (2, .int x2), (3, .int x3), (4, .int x4), (6, .int x6)]) hx hb d_Tide_spot_101 hl (by decide) rfl (fun ls hl => ?_)
        refine lv_iload hx hb d_Tide_spot_103 (lv_at hl 6 rfl) ?_
        refine lv_istore (lv' := [(4, .int x6), (5, .int v3), (7, .int v3), (0, .ref (ad E 0)), (2, .int x2), (3, .int x3), (6, .int x6)]) hx hb d_Tide_spot_105 hl (by decide) rfl (fun ls hl => ?_)
        exact k_Tide_spot_j107 C hc67 ih h hS (lv_sub hl [3, 4, 5, 0, 1, 6] rfl)
set_option maxHeartbeats 4000000 in
set_option maxRecDepth 100000 in
theorem k_Tide_spot_j21 {p : Program} {l : Launch} {e : Env} {s : State} {m : MethodId} {args : Array Value} {below : List Frame} {meth : Method} {c : Code} {E : En} {r : Int32} {Y : Mem} (C : Cx p s m args meth c c_Tide_spot 8 "TideLoans" (some .int) E) {X : Mem} (h : f_Tide_spot_j21 X = some (r, Y)) {H : Heap} {locs : List Loc} (hS : Hs E s.heap X H locs) {ls : Array Slot} (hl : lv_has ls 8 [(0, .ref (ad E 0))]) : W p l e ({ frames := 9, cells := 0, slots := 0, locals := 204 } : Room) s m args below meth c H locs 0 0 (MQ below (PostI E r Y) args s 0 0 (Ad E)) (F0 m 21 ls []) := by
  obtain ⟨hx, hb, hml, hown, hts, hrt, hlk, hKx⟩ := id C
  unfold f_Tide_spot_j21 at h
  refine lv_aload_n hx hb d_Tide_spot_21 rfl (lv_at hl 0 rfl) ?_
  refine lv_ldc (v := -1000000001) hx hb hown (hts _ tw_280) d_Tide_spot_22 ?_
  obtain ⟨v1, X3, hr2, h⟩ := bd2_el h
  refine c_I hS (c_runV (As := [.int (-1000000001 : Int32)]) (rest := []) C hS (by decide) cel_Tide (rfl : cls[5]? = some (R_Tide, T_Tide, 12)) (k_Tide_finding (l := l) (E := E) (X := X) hr2) cw_Tide_finding ini_Tide_finding ins_Tide_finding sel_Tide_finding tw_281 hd_Tide_finding rfl ⟨⟨rfl, rfl⟩, (Nat.le_of_ble_eq_true rfl), (Nat.le_of_ble_eq_true rfl)⟩ ⟨(Nat.le_of_ble_eq_true rfl), (Nat.le_of_ble_eq_true rfl)⟩ hl.1 rfl (Nat.le_of_ble_eq_true rfl) d_Tide_spot_24) (fun H locs hS => ?_)
  exact r_iret C hS rfl h d_Tide_spot_27
set_option maxHeartbeats 4000000 in
set_option maxRecDepth 100000 in
theorem k_Tide_spot {l : Launch} {E : En} {p1 : Int32} {p2 : Int32} {X : Mem} {r : Int32} {Y : Mem} (h : f_Tide_spot p1 p2 X = some (r, Y)) : Met l y_Tide_spot (Cond.code y_Tide_spot c_Tide_spot 8 (some .int) :: tb) ({ frames := 9, cells := 0, slots := 0, locals := 204 } : Room) (PreC E [.ref (ad E 0), .int p1, .int p2] X) (PostI E r Y) 0 0 (Ad E) := by
  refine met_of (by decide) (Nat.le_of_ble_eq_true rfl) (fun p e s m below meth c C hS ls hl => ?_)
  replace C : Cx p s m ([.ref (ad E 0), .int p1, .int p2] : List Value).toArray meth c c_Tide_spot 8 "TideLoans" (some .int) E := C
  replace hl : lv_has ls 8 [(0, .ref (ad E 0)), (1, .int p1), (2, .int p2)] := hl
  obtain ⟨hx, hb, hml, hown, hts, hrt, hlk, hKx⟩ := id C
  unfold f_Tide_spot at h
  refine lv_aload_n hx hb d_Tide_spot_0 rfl (lv_at hl 0 rfl) ?_
  refine r_get C hS (by decide) cel_Tide (rfl : cls[5]? = some (R_Tide, T_Tide, 12)) in_Tide 1 (by decide) tw_237 rfl d_Tide_spot_1 ?_
  refine lv_iload_n hx hb d_Tide_spot_4 rfl (lv_at hl 1 rfl) ?_
  obtain ⟨v1, hr2, h⟩ := bd_el h
  refine c_I hS (c_runV (As := [.int p1]) (rest := []) C hS (by decide) (cel_Shore (rfl : kd 2 = 1)) (rfl : cls[1]? = some (R_Shore, T_Shore, 6)) (k_Shore_has (l := l) (E := E) (X := X) rfl hr2) cw_Shore_has ini_Shore_has ins_Shore_has sel_Shore_has tw_345 hd_Shore_has rfl ⟨⟨rfl, rfl⟩, (Nat.le_of_ble_eq_true rfl), (Nat.le_of_ble_eq_true rfl)⟩ ⟨(Nat.le_of_ble_eq_true rfl), (Nat.le_of_ble_eq_true rfl)⟩ hl.1 rfl (Nat.le_of_ble_eq_true rfl) d_Tide_spot_5) (fun H locs hS => ?_)
  refine r_if_eq (tgt := 21) C h d_Tide_spot_8 (by decide) (fun h => ?_) (fun h => ?_)
  · skip
    exact k_Tide_spot_j21 C h hS (lv_sub hl [0] rfl)
  · skip
    refine lv_iload_n hx hb d_Tide_spot_11 rfl (lv_at hl 2 rfl) ?_
    refine lv_iconst (v := 1) hx hb d_Tide_spot_12 (by decide) ?_
    refine lv_bipush (v := 100) hx hb d_Tide_spot_13 (by decide) ?_
    obtain ⟨v3, hr4, h⟩ := bd_el h
    refine c_I hS (c_runS (As := [.int p2, .int (1 : Int32), .int (100 : Int32)]) (rest := []) C hS (k_Tide_isUpTo (l := l) (E := E) (X := X) hr4) cw_Tide_isUpTo ini_Tide_isUpTo sta_Tide_isUpTo tw_297 hd_Tide_isUpTo rfl ⟨⟨rfl, rfl⟩, (Nat.le_of_ble_eq_true rfl), (Nat.le_of_ble_eq_true rfl)⟩ ⟨(Nat.le_of_ble_eq_true rfl), (Nat.le_of_ble_eq_true rfl)⟩ hl.1 rfl (Nat.le_of_ble_eq_true rfl) d_Tide_spot_15) (fun H locs hS => ?_)
    refine r_if_ne (tgt := 28) C h d_Tide_spot_18 (by decide) (fun h => ?_) (fun h => ?_)
    · skip
      refine lv_aload_n hx hb d_Tide_spot_28 rfl (lv_at hl 0 rfl) ?_
      refine r_get C hS (by decide) cel_Tide (rfl : cls[5]? = some (R_Tide, T_Tide, 12)) in_Tide 1 (by decide) tw_237 rfl d_Tide_spot_29 ?_
      refine r_get C hS (by decide) (cel_Shore (rfl : kd 2 = 1)) (rfl : cls[1]? = some (R_Shore, T_Shore, 6)) in_Shore 2 (by decide) tw_136 rfl d_Tide_spot_32 ?_
      refine lv_iload_n hx hb d_Tide_spot_35 rfl (lv_at hl 1 rfl) ?_
      refine r_ldT C hS (kd_things rfl) h d_Tide_spot_36 (fun j5 hj5 h => ?_)
      refine r_getI C hS (kd_lt (kd_thing (kd_things rfl) hj5) (by decide)) (cel_Thing (kd_thing (kd_things rfl) hj5)) (rfl : cls[3]? = some (R_Thing, T_Thing, 6)) in_Thing 4 (by decide) tw_113 rfl h d_Tide_spot_37 (fun v6 h => ?_)
      refine lv_iconst (v := 2) hx hb d_Tide_spot_40 (by decide) ?_
      refine r_icmp_ne (tgt := 51) C h d_Tide_spot_41 (by decide) (fun h => ?_) (fun h => ?_)
      · skip
        refine lv_aload_n hx hb d_Tide_spot_51 rfl (lv_at hl 0 rfl) ?_
        refine lv_iload_n hx hb d_Tide_spot_52 rfl (lv_at hl 1 rfl) ?_
        refine lv_iload_n hx hb d_Tide_spot_53 rfl (lv_at hl 2 rfl) ?_
        obtain ⟨v7, X9, hr8, h⟩ := bd2_el h
        refine c_I hS (c_runV (As := [.int p1, .int p2]) (rest := []) C hS (by decide) cel_Tide (rfl : cls[5]? = some (R_Tide, T_Tide, 12)) (k_Tide_tryOn (l := l) (E := E) (X := X) hr8) cw_Tide_tryOn ini_Tide_tryOn ins_Tide_tryOn sel_Tide_tryOn tw_505 hd_Tide_tryOn rfl ⟨⟨rfl, rfl⟩, (Nat.le_of_ble_eq_true rfl), (Nat.le_of_ble_eq_true rfl)⟩ ⟨(Nat.le_of_ble_eq_true rfl), (Nat.le_of_ble_eq_true rfl)⟩ hl.1 rfl (Nat.le_of_ble_eq_true rfl) d_Tide_spot_54) (fun H locs hS => ?_)
        refine lv_istore_n (lv' := [(3, .int v7), (0, .ref (ad E 0)), (1, .int p1), (2, .int p2)]) hx hb d_Tide_spot_57 rfl hl (by decide) rfl (fun ls hl => ?_)
        refine lv_iconst (v := 0) hx hb d_Tide_spot_58 (by decide) ?_
        refine lv_istore (lv' := [(4, .int (0 : Int32)), (3, .int v7), (0, .ref (ad E 0)), (1, .int p1), (2, .int p2)]) hx hb d_Tide_spot_59 hl (by decide) rfl (fun ls hl => ?_)
        refine lv_iconst (v := -1) hx hb d_Tide_spot_61 (by decide) ?_
        refine lv_istore (lv' := [(5, .int (-1 : Int32)), (4, .int (0 : Int32)), (3, .int v7), (0, .ref (ad E 0)), (1, .int p1), (2, .int p2)]) hx hb d_Tide_spot_62 hl (by decide) rfl (fun ls hl => ?_)
        refine lv_iconst (v := 0) hx hb d_Tide_spot_64 (by decide) ?_
        refine lv_istore (lv' := [(6, .int (0 : Int32)), (5, .int (-1 : Int32)), (4, .int (0 : Int32)), (3, .int v7), (0, .ref (ad E 0)), (1, .int p1), (2, .int p2)]) hx hb d_Tide_spot_65 hl (by decide) rfl (fun ls hl => ?_)
        exact k_Tide_spot_b67 C _ _ FU _ _ _ _ _ _ _ h hS (lv_sub hl [4, 6, 3, 2, 1, 0] rfl)
      · skip
        refine lv_aload_n hx hb d_Tide_spot_44 rfl (lv_at hl 0 rfl) ?_
        refine lv_ldc (v := -1000000005) hx hb hown (hts _ tw_394) d_Tide_spot_45 ?_
        obtain ⟨v10, X12, hr11, h⟩ := bd2_el h
        refine c_I hS (c_runV (As := [.int (-1000000005 : Int32)]) (rest := []) C hS (by decide) cel_Tide (rfl : cls[5]? = some (R_Tide, T_Tide, 12)) (k_Tide_finding (l := l) (E := E) (X := X) hr11) cw_Tide_finding ini_Tide_finding ins_Tide_finding sel_Tide_finding tw_281 hd_Tide_finding rfl ⟨⟨rfl, rfl⟩, (Nat.le_of_ble_eq_true rfl), (Nat.le_of_ble_eq_true rfl)⟩ ⟨(Nat.le_of_ble_eq_true rfl), (Nat.le_of_ble_eq_true rfl)⟩ hl.1 rfl (Nat.le_of_ble_eq_true rfl) d_Tide_spot_47) (fun H locs hS => ?_)
        exact r_iret C hS rfl h d_Tide_spot_50
    · skip
      exact k_Tide_spot_j21 C h hS (lv_sub hl [0] rfl)
def I_Tide_delay_b85 (p : Program) (l : Launch) (e : Env) (s : State) (m : MethodId) (args : Array Value) (below : List Frame) (meth : Method) (c : Code) (E : En) (r : Int32) (Y : Mem) (x3 : Int32) (x4 : Int32) (n : Nat) (tg : (Int32 × Mem)) : Prop := ∀ (x5 : Int32) (x6 : Int32) (x7 : Int32) (X : Mem) (H : Heap) (locs : List Loc) (ls : Array Slot), it (fun a => f_Tide_delay_b85 x3 x4 a.1 a.2.1 a.2.2.1 a.2.2.2) n (x5, x6, x7, X) = some tg → Hs E s.heap X H locs → lv_has ls 9 [(0, .ref (ad E 0)), (3, .int x3), (4, .int x4), (5, .int x5), (6, .int x6), (7, .int x7)] → W p l e ({ frames := 9, cells := 0, slots := 0, locals := 204 } : Room) s m args below meth c H locs 0 0 (MQ below (PostI E r Y) args s 0 0 (Ad E)) (F0 m 85 ls [])
set_option maxHeartbeats 4000000 in
set_option maxRecDepth 100000 in
theorem k_Tide_delay_j117 {p : Program} {l : Launch} {e : Env} {s : State} {m : MethodId} {args : Array Value} {below : List Frame} {meth : Method} {c : Code} {E : En} {r : Int32} {Y : Mem} (C : Cx p s m args meth c c_Tide_delay 9 "TideLoans" (some .int) E) {x3 : Int32} {x4 : Int32} {x5 : Int32} {x6 : Int32} {x7 : Int32} {X : Mem} {tg : ((Int32 × Mem) ⊕ (Int32 × Int32 × Int32 × Mem))} {n85 : Nat} (hc85 : fin (fun a => f_Tide_delay_b85 x3 x4 a.1 a.2.1 a.2.2.1 a.2.2.2) n85 (r, Y) tg) (ih85 : I_Tide_delay_b85 p l e s m args below meth c E r Y x3 x4 n85 (r, Y)) (h : f_Tide_delay_j117 x3 x4 x5 x6 x7 X = some tg) {H : Heap} {locs : List Loc} (hS : Hs E s.heap X H locs) {ls : Array Slot} (hl : lv_has ls 9 [(0, .ref (ad E 0)), (3, .int x3), (4, .int x4), (5, .int x5), (6, .int x6), (7, .int x7)]) : W p l e ({ frames := 9, cells := 0, slots := 0, locals := 204 } : Room) s m args below meth c H locs 0 0 (MQ below (PostI E r Y) args s 0 0 (Ad E)) (F0 m 117 ls []) := by
  obtain ⟨hx, hb, hml, hown, hts, hrt, hlk, hKx⟩ := id C
  unfold f_Tide_delay_j117 at h
  refine r_iinc C (w := 1) (lv' := fun z => [(7, .int z), (0, .ref (ad E 0)), (3, .int x3), (4, .int x4), (5, .int x5), (6, .int x6)]) h d_Tide_delay_117 hl (k := 5) rfl (by decide) (by decide) (fun _ => rfl) (fun v1 ls h hl => ?_)
  refine lv_goto (tgt := 85) hx hb d_Tide_delay_120 (by decide) ?_
  exact ih85 _ _ _ _ _ _ _ (lp_next h hc85) hS (lv_sub hl [1, 2, 3, 4, 5, 0] rfl)
set_option maxHeartbeats 4000000 in
set_option maxRecDepth 100000 in
theorem k_Tide_delay_b85 {p : Program} {l : Launch} {e : Env} {s : State} {m : MethodId} {args : Array Value} {below : List Frame} {meth : Method} {c : Code} {E : En} {r : Int32} {Y : Mem} (C : Cx p s m args meth c c_Tide_delay 9 "TideLoans" (some .int) E) (x3 : Int32) (x4 : Int32) : ∀ n, I_Tide_delay_b85 p l e s m args below meth c E r Y x3 x4 n (r, Y) := by
  obtain ⟨hx, hb, hml, hown, hts, hrt, hlk, hKx⟩ := id C
  intro n
  induction n with
  | zero => intro x5 x6 x7 X H locs ls h; exact it_0 h
  | succ n ih =>
    intro x5 x6 x7 X H locs ls h hS hl
    obtain ⟨cc85, h, hc85⟩ := it_el h
    replace h : f_Tide_delay_b85 x3 x4 x5 x6 x7 X = some cc85 := h
    unfold f_Tide_delay_b85 at h
    refine lv_iload hx hb d_Tide_delay_85 (lv_at hl 5 rfl) ?_
    refine lv_iload_n hx hb d_Tide_delay_87 rfl (lv_at hl 1 rfl) ?_
    refine r_icmp_ge (tgt := 123) C h d_Tide_delay_88 (by decide) (fun h => ?_) (fun h => ?_)
    · skip
      refine lv_iload hx hb d_Tide_delay_123 (lv_at hl 3 rfl) ?_
      replace h := lp_ret h hc85
      exact r_iret C hS rfl h d_Tide_delay_125
    · skip
      refine lv_aload_n hx hb d_Tide_delay_91 rfl (lv_at hl 0 rfl) ?_
      refine lv_iload hx hb d_Tide_delay_92 (lv_at hl 2 rfl) ?_
      refine lv_iload hx hb d_Tide_delay_94 (lv_at hl 5 rfl) ?_
      refine lv_iload_n hx hb d_Tide_delay_96 rfl (lv_at hl 1 rfl) ?_
      obtain ⟨v1, X3, hr2, h⟩ := bd2_el h
      refine c_I hS (c_runV (As := [.int x4, .int x7, .int x3]) (rest := []) C hS (by decide) cel_Tide (rfl : cls[5]? = some (R_Tide, T_Tide, 12)) (k_Tide_purseWithTrial (l := l) (E := E) (X := X) hr2) cw_Tide_purseWithTrial ini_Tide_purseWithTrial ins_Tide_purseWithTrial sel_Tide_purseWithTrial tw_513 hd_Tide_purseWithTrial rfl ⟨⟨rfl, rfl⟩, (Nat.le_of_ble_eq_true rfl), (Nat.le_of_ble_eq_true rfl)⟩ ⟨(Nat.le_of_ble_eq_true rfl), (Nat.le_of_ble_eq_true rfl)⟩ hl.1 rfl (Nat.le_of_ble_eq_true rfl) d_Tide_delay_97) (fun H locs hS => ?_)
      refine lv_istore (lv' := [(8, .int v1), (0, .ref (ad E 0)), (3, .int x3), (4, .int x4), (5, .int x5), (6, .int x6), (7, .int x7)]) hx hb d_Tide_delay_100 hl (by decide) rfl (fun ls hl => ?_)
      refine lv_iload hx hb d_Tide_delay_102 (lv_at hl 0 rfl) ?_
      refine lv_iload hx hb d_Tide_delay_104 (lv_at hl 5 rfl) ?_
      refine r_icmp_le (tgt := 117) C h d_Tide_delay_106 (by decide) (fun h => ?_) (fun h => ?_)
      · skip
        exact k_Tide_delay_j117 C hc85 ih h hS (lv_sub hl [1, 2, 3, 4, 5, 6] rfl)
      · skip
        refine lv_iload hx hb d_Tide_delay_109 (lv_at hl 0 rfl) ?_
        refine lv_istore (lv' := [(6, .int v1), (8, .int v1), (0, .ref (ad E 0)), (3, .int x3), (4, .int x4), (5, .int x5), (7, .int x7)]) hx hb d_Tide_delay_111 hl (by decide) rfl (fun ls hl => ?_)
        refine lv_iload hx hb d_Tide_delay_113 (lv_at hl 6 rfl) ?_
        refine lv_istore (lv' := [(5, .int x7), (6, .int v1), (8, .int v1), (0, .ref (ad E 0)), (3, .int x3), (4, .int x4), (7, .int x7)]) hx hb d_Tide_delay_115 hl (by decide) rfl (fun ls hl => ?_)
        exact k_Tide_delay_j117 C hc85 ih h hS (lv_sub hl [3, 4, 5, 0, 1, 6] rfl)
set_option maxHeartbeats 4000000 in
set_option maxRecDepth 100000 in
theorem k_Tide_delay_j30 {p : Program} {l : Launch} {e : Env} {s : State} {m : MethodId} {args : Array Value} {below : List Frame} {meth : Method} {c : Code} {E : En} {r : Int32} {Y : Mem} (C : Cx p s m args meth c c_Tide_delay 9 "TideLoans" (some .int) E) {X : Mem} (h : f_Tide_delay_j30 X = some (r, Y)) {H : Heap} {locs : List Loc} (hS : Hs E s.heap X H locs) {ls : Array Slot} (hl : lv_has ls 9 [(0, .ref (ad E 0))]) : W p l e ({ frames := 9, cells := 0, slots := 0, locals := 204 } : Room) s m args below meth c H locs 0 0 (MQ below (PostI E r Y) args s 0 0 (Ad E)) (F0 m 30 ls []) := by
  obtain ⟨hx, hb, hml, hown, hts, hrt, hlk, hKx⟩ := id C
  unfold f_Tide_delay_j30 at h
  refine lv_aload_n hx hb d_Tide_delay_30 rfl (lv_at hl 0 rfl) ?_
  refine lv_ldc (v := -1000000001) hx hb hown (hts _ tw_280) d_Tide_delay_31 ?_
  obtain ⟨v1, X3, hr2, h⟩ := bd2_el h
  refine c_I hS (c_runV (As := [.int (-1000000001 : Int32)]) (rest := []) C hS (by decide) cel_Tide (rfl : cls[5]? = some (R_Tide, T_Tide, 12)) (k_Tide_finding (l := l) (E := E) (X := X) hr2) cw_Tide_finding ini_Tide_finding ins_Tide_finding sel_Tide_finding tw_281 hd_Tide_finding rfl ⟨⟨rfl, rfl⟩, (Nat.le_of_ble_eq_true rfl), (Nat.le_of_ble_eq_true rfl)⟩ ⟨(Nat.le_of_ble_eq_true rfl), (Nat.le_of_ble_eq_true rfl)⟩ hl.1 rfl (Nat.le_of_ble_eq_true rfl) d_Tide_delay_33) (fun H locs hS => ?_)
  exact r_iret C hS rfl h d_Tide_delay_36
set_option maxHeartbeats 4000000 in
set_option maxRecDepth 100000 in
theorem k_Tide_delay {l : Launch} {E : En} {p1 : Int32} {p2 : Int32} {p3 : Int32} {X : Mem} {r : Int32} {Y : Mem} (h : f_Tide_delay p1 p2 p3 X = some (r, Y)) : Met l y_Tide_delay (Cond.code y_Tide_delay c_Tide_delay 9 (some .int) :: tb) ({ frames := 9, cells := 0, slots := 0, locals := 204 } : Room) (PreC E [.ref (ad E 0), .int p1, .int p2, .int p3] X) (PostI E r Y) 0 0 (Ad E) := by
  refine met_of (by decide) (Nat.le_of_ble_eq_true rfl) (fun p e s m below meth c C hS ls hl => ?_)
  replace C : Cx p s m ([.ref (ad E 0), .int p1, .int p2, .int p3] : List Value).toArray meth c c_Tide_delay 9 "TideLoans" (some .int) E := C
  replace hl : lv_has ls 9 [(0, .ref (ad E 0)), (1, .int p1), (2, .int p2), (3, .int p3)] := hl
  obtain ⟨hx, hb, hml, hown, hts, hrt, hlk, hKx⟩ := id C
  unfold f_Tide_delay at h
  refine lv_aload_n hx hb d_Tide_delay_0 rfl (lv_at hl 0 rfl) ?_
  refine r_get C hS (by decide) cel_Tide (rfl : cls[5]? = some (R_Tide, T_Tide, 12)) in_Tide 1 (by decide) tw_237 rfl d_Tide_delay_1 ?_
  refine lv_iload_n hx hb d_Tide_delay_4 rfl (lv_at hl 1 rfl) ?_
  obtain ⟨v1, hr2, h⟩ := bd_el h
  refine c_I hS (c_runV (As := [.int p1]) (rest := []) C hS (by decide) (cel_Shore (rfl : kd 2 = 1)) (rfl : cls[1]? = some (R_Shore, T_Shore, 6)) (k_Shore_has (l := l) (E := E) (X := X) rfl hr2) cw_Shore_has ini_Shore_has ins_Shore_has sel_Shore_has tw_345 hd_Shore_has rfl ⟨⟨rfl, rfl⟩, (Nat.le_of_ble_eq_true rfl), (Nat.le_of_ble_eq_true rfl)⟩ ⟨(Nat.le_of_ble_eq_true rfl), (Nat.le_of_ble_eq_true rfl)⟩ hl.1 rfl (Nat.le_of_ble_eq_true rfl) d_Tide_delay_5) (fun H locs hS => ?_)
  refine r_if_eq (tgt := 30) C h d_Tide_delay_8 (by decide) (fun h => ?_) (fun h => ?_)
  · skip
    exact k_Tide_delay_j30 C h hS (lv_sub hl [0] rfl)
  · skip
    refine lv_iload_n hx hb d_Tide_delay_11 rfl (lv_at hl 2 rfl) ?_
    refine lv_bipush (v := 16) hx hb d_Tide_delay_12 (by decide) ?_
    obtain ⟨v3, hr4, h⟩ := bd_el h
    refine c_I hS (c_runS (As := [.int p2, .int (16 : Int32)]) (rest := []) C hS (k_Tide_isBelow (l := l) (E := E) (X := X) hr4) cw_Tide_isBelow ini_Tide_isBelow sta_Tide_isBelow tw_277 hd_Tide_isBelow rfl ⟨⟨rfl, rfl⟩, (Nat.le_of_ble_eq_true rfl), (Nat.le_of_ble_eq_true rfl)⟩ ⟨(Nat.le_of_ble_eq_true rfl), (Nat.le_of_ble_eq_true rfl)⟩ hl.1 rfl (Nat.le_of_ble_eq_true rfl) d_Tide_delay_14) (fun H locs hS => ?_)
    refine r_if_eq (tgt := 30) C h d_Tide_delay_17 (by decide) (fun h => ?_) (fun h => ?_)
    · skip
      exact k_Tide_delay_j30 C h hS (lv_sub hl [0] rfl)
    · skip
      refine lv_iload_n hx hb d_Tide_delay_20 rfl (lv_at hl 3 rfl) ?_
      refine lv_iconst (v := 1) hx hb d_Tide_delay_21 (by decide) ?_
      refine lv_bipush (v := 60) hx hb d_Tide_delay_22 (by decide) ?_
      obtain ⟨v5, hr6, h⟩ := bd_el h
      refine c_I hS (c_runS (As := [.int p3, .int (1 : Int32), .int (60 : Int32)]) (rest := []) C hS (k_Tide_isUpTo (l := l) (E := E) (X := X) hr6) cw_Tide_isUpTo ini_Tide_isUpTo sta_Tide_isUpTo tw_297 hd_Tide_isUpTo rfl ⟨⟨rfl, rfl⟩, (Nat.le_of_ble_eq_true rfl), (Nat.le_of_ble_eq_true rfl)⟩ ⟨(Nat.le_of_ble_eq_true rfl), (Nat.le_of_ble_eq_true rfl)⟩ hl.1 rfl (Nat.le_of_ble_eq_true rfl) d_Tide_delay_24) (fun H locs hS => ?_)
      refine r_if_ne (tgt := 37) C h d_Tide_delay_27 (by decide) (fun h => ?_) (fun h => ?_)
      · skip
        refine lv_aload_n hx hb d_Tide_delay_37 rfl (lv_at hl 0 rfl) ?_
        refine r_get C hS (by decide) cel_Tide (rfl : cls[5]? = some (R_Tide, T_Tide, 12)) in_Tide 1 (by decide) tw_237 rfl d_Tide_delay_38 ?_
        refine r_get C hS (by decide) (cel_Shore (rfl : kd 2 = 1)) (rfl : cls[1]? = some (R_Shore, T_Shore, 6)) in_Shore 2 (by decide) tw_136 rfl d_Tide_delay_41 ?_
        refine lv_iload_n hx hb d_Tide_delay_44 rfl (lv_at hl 1 rfl) ?_
        refine r_ldT C hS (kd_things rfl) h d_Tide_delay_45 (fun j7 hj7 h => ?_)
        refine r_getI C hS (kd_lt (kd_thing (kd_things rfl) hj7) (by decide)) (cel_Thing (kd_thing (kd_things rfl) hj7)) (rfl : cls[3]? = some (R_Thing, T_Thing, 6)) in_Thing 4 (by decide) tw_113 rfl h d_Tide_delay_46 (fun v8 h => ?_)
        refine lv_iconst (v := 2) hx hb d_Tide_delay_49 (by decide) ?_
        refine r_icmp_ne (tgt := 60) C h d_Tide_delay_50 (by decide) (fun h => ?_) (fun h => ?_)
        · skip
          refine lv_aload_n hx hb d_Tide_delay_60 rfl (lv_at hl 0 rfl) ?_
          refine lv_iload_n hx hb d_Tide_delay_61 rfl (lv_at hl 1 rfl) ?_
          refine lv_iload_n hx hb d_Tide_delay_62 rfl (lv_at hl 3 rfl) ?_
          obtain ⟨v9, X11, hr10, h⟩ := bd2_el h
          refine c_I hS (c_runV (As := [.int p1, .int p3]) (rest := []) C hS (by decide) cel_Tide (rfl : cls[5]? = some (R_Tide, T_Tide, 12)) (k_Tide_tryOn (l := l) (E := E) (X := X) hr10) cw_Tide_tryOn ini_Tide_tryOn ins_Tide_tryOn sel_Tide_tryOn tw_505 hd_Tide_tryOn rfl ⟨⟨rfl, rfl⟩, (Nat.le_of_ble_eq_true rfl), (Nat.le_of_ble_eq_true rfl)⟩ ⟨(Nat.le_of_ble_eq_true rfl), (Nat.le_of_ble_eq_true rfl)⟩ hl.1 rfl (Nat.le_of_ble_eq_true rfl) d_Tide_delay_63) (fun H locs hS => ?_)
          refine lv_istore (lv' := [(4, .int v9), (0, .ref (ad E 0)), (1, .int p1), (2, .int p2), (3, .int p3)]) hx hb d_Tide_delay_66 hl (by decide) rfl (fun ls hl => ?_)
          refine lv_aload_n hx hb d_Tide_delay_68 rfl (lv_at hl 1 rfl) ?_
          refine r_get C hS (by decide) cel_Tide (rfl : cls[5]? = some (R_Tide, T_Tide, 12)) in_Tide 9 (by decide) tw_245 rfl d_Tide_delay_69 ?_
          refine lv_iload_n hx hb d_Tide_delay_72 rfl (lv_at hl 3 rfl) ?_
          obtain ⟨X13, hr12, h⟩ := bd_el h
          refine c_V hS (c_runV (As := [.int p2]) (rest := []) C hS (by decide) (cel_Thing (rfl : kd 50 = 2)) (rfl : cls[3]? = some (R_Thing, T_Thing, 6)) (k_Thing_layAt (l := l) (E := E) (X := X11) rfl hr12) cw_Thing_layAt ini_Thing_layAt ins_Thing_layAt sel_Thing_layAt tw_395 hd_Thing_layAt rfl ⟨⟨rfl, rfl⟩, (Nat.le_of_ble_eq_true rfl), (Nat.le_of_ble_eq_true rfl)⟩ ⟨(Nat.le_of_ble_eq_true rfl), (Nat.le_of_ble_eq_true rfl)⟩ hl.1 rfl (Nat.le_of_ble_eq_true rfl) d_Tide_delay_73) (fun H locs hS => ?_)
          refine lv_iconst (v := 0) hx hb d_Tide_delay_76 (by decide) ?_
          refine lv_istore (lv' := [(5, .int (0 : Int32)), (4, .int v9), (0, .ref (ad E 0)), (1, .int p1), (2, .int p2), (3, .int p3)]) hx hb d_Tide_delay_77 hl (by decide) rfl (fun ls hl => ?_)
          refine lv_iconst (v := -1) hx hb d_Tide_delay_79 (by decide) ?_
          refine lv_istore (lv' := [(6, .int (-1 : Int32)), (5, .int (0 : Int32)), (4, .int v9), (0, .ref (ad E 0)), (1, .int p1), (2, .int p2), (3, .int p3)]) hx hb d_Tide_delay_80 hl (by decide) rfl (fun ls hl => ?_)
          refine lv_iconst (v := 0) hx hb d_Tide_delay_82 (by decide) ?_
          refine lv_istore (lv' := [(7, .int (0 : Int32)), (6, .int (-1 : Int32)), (5, .int (0 : Int32)), (4, .int v9), (0, .ref (ad E 0)), (1, .int p1), (2, .int p2), (3, .int p3)]) hx hb d_Tide_delay_83 hl (by decide) rfl (fun ls hl => ?_)
          exact k_Tide_delay_b85 C _ _ FU _ _ _ _ _ _ _ h hS (lv_sub hl [4, 7, 3, 2, 1, 0] rfl)
        · skip
          refine lv_aload_n hx hb d_Tide_delay_53 rfl (lv_at hl 0 rfl) ?_
          refine lv_ldc (v := -1000000005) hx hb hown (hts _ tw_394) d_Tide_delay_54 ?_
          obtain ⟨v14, X16, hr15, h⟩ := bd2_el h
          refine c_I hS (c_runV (As := [.int (-1000000005 : Int32)]) (rest := []) C hS (by decide) cel_Tide (rfl : cls[5]? = some (R_Tide, T_Tide, 12)) (k_Tide_finding (l := l) (E := E) (X := X) hr15) cw_Tide_finding ini_Tide_finding ins_Tide_finding sel_Tide_finding tw_281 hd_Tide_finding rfl ⟨⟨rfl, rfl⟩, (Nat.le_of_ble_eq_true rfl), (Nat.le_of_ble_eq_true rfl)⟩ ⟨(Nat.le_of_ble_eq_true rfl), (Nat.le_of_ble_eq_true rfl)⟩ hl.1 rfl (Nat.le_of_ble_eq_true rfl) d_Tide_delay_56) (fun H locs hS => ?_)
          exact r_iret C hS rfl h d_Tide_delay_59
      · skip
        exact k_Tide_delay_j30 C h hS (lv_sub hl [0] rfl)
def I_Tide_kind_b44 (p : Program) (l : Launch) (e : Env) (s : State) (m : MethodId) (args : Array Value) (below : List Frame) (meth : Method) (c : Code) (E : En) (r : Int32) (Y : Mem) (x2 : Int32) (x3 : Int32) (n : Nat) (tg : (Int32 × Mem)) : Prop := ∀ (x4 : Int32) (x5 : Int32) (x6 : Int32) (X : Mem) (H : Heap) (locs : List Loc) (ls : Array Slot), it (fun a => f_Tide_kind_b44 x2 x3 a.1 a.2.1 a.2.2.1 a.2.2.2) n (x4, x5, x6, X) = some tg → Hs E s.heap X H locs → lv_has ls 8 [(0, .ref (ad E 0)), (2, .int x2), (3, .int x3), (4, .int x4), (5, .int x5), (6, .int x6)] → W p l e ({ frames := 9, cells := 0, slots := 0, locals := 204 } : Room) s m args below meth c H locs 0 0 (MQ below (PostI E r Y) args s 0 0 (Ad E)) (F0 m 44 ls [])
set_option maxHeartbeats 4000000 in
set_option maxRecDepth 100000 in
theorem k_Tide_kind_j84 {p : Program} {l : Launch} {e : Env} {s : State} {m : MethodId} {args : Array Value} {below : List Frame} {meth : Method} {c : Code} {E : En} {r : Int32} {Y : Mem} (C : Cx p s m args meth c c_Tide_kind 8 "TideLoans" (some .int) E) {x2 : Int32} {x3 : Int32} {x4 : Int32} {x5 : Int32} {x6 : Int32} {X : Mem} {tg : ((Int32 × Mem) ⊕ (Int32 × Int32 × Int32 × Mem))} {n44 : Nat} (hc44 : fin (fun a => f_Tide_kind_b44 x2 x3 a.1 a.2.1 a.2.2.1 a.2.2.2) n44 (r, Y) tg) (ih44 : I_Tide_kind_b44 p l e s m args below meth c E r Y x2 x3 n44 (r, Y)) (h : f_Tide_kind_j84 x2 x3 x4 x5 x6 X = some tg) {H : Heap} {locs : List Loc} (hS : Hs E s.heap X H locs) {ls : Array Slot} (hl : lv_has ls 8 [(0, .ref (ad E 0)), (2, .int x2), (3, .int x3), (4, .int x4), (5, .int x5), (6, .int x6)]) : W p l e ({ frames := 9, cells := 0, slots := 0, locals := 204 } : Room) s m args below meth c H locs 0 0 (MQ below (PostI E r Y) args s 0 0 (Ad E)) (F0 m 84 ls []) := by
  obtain ⟨hx, hb, hml, hown, hts, hrt, hlk, hKx⟩ := id C
  unfold f_Tide_kind_j84 at h
  refine r_iinc C (w := 1) (lv' := fun z => [(6, .int z), (0, .ref (ad E 0)), (2, .int x2), (3, .int x3), (4, .int x4), (5, .int x5)]) h d_Tide_kind_84 hl (k := 5) rfl (by decide) (by decide) (fun _ => rfl) (fun v1 ls h hl => ?_)
  refine lv_goto (tgt := 44) hx hb d_Tide_kind_87 (by decide) ?_
  exact ih44 _ _ _ _ _ _ _ (lp_next h hc44) hS (lv_sub hl [1, 2, 3, 4, 5, 0] rfl)
set_option maxHeartbeats 4000000 in
set_option maxRecDepth 100000 in
theorem k_Tide_kind_b44 {p : Program} {l : Launch} {e : Env} {s : State} {m : MethodId} {args : Array Value} {below : List Frame} {meth : Method} {c : Code} {E : En} {r : Int32} {Y : Mem} (C : Cx p s m args meth c c_Tide_kind 8 "TideLoans" (some .int) E) (x2 : Int32) (x3 : Int32) : ∀ n, I_Tide_kind_b44 p l e s m args below meth c E r Y x2 x3 n (r, Y) := by
  obtain ⟨hx, hb, hml, hown, hts, hrt, hlk, hKx⟩ := id C
  intro n
  induction n with
  | zero => intro x4 x5 x6 X H locs ls h; exact it_0 h
  | succ n ih =>
    intro x4 x5 x6 X H locs ls h hS hl
    obtain ⟨cc44, h, hc44⟩ := it_el h
    replace h : f_Tide_kind_b44 x2 x3 x4 x5 x6 X = some cc44 := h
    unfold f_Tide_kind_b44 at h
    refine lv_iload hx hb d_Tide_kind_44 (lv_at hl 5 rfl) ?_
    refine lv_bipush (v := 6) hx hb d_Tide_kind_46 (by decide) ?_
    refine r_icmp_ge (tgt := 90) C h d_Tide_kind_48 (by decide) (fun h => ?_) (fun h => ?_)
    · skip
      refine lv_iload hx hb d_Tide_kind_90 (lv_at hl 3 rfl) ?_
      replace h := lp_ret h hc44
      exact r_iret C hS rfl h d_Tide_kind_92
    · skip
      refine lv_aload_n hx hb d_Tide_kind_51 rfl (lv_at hl 0 rfl) ?_
      refine r_get C hS (by decide) cel_Tide (rfl : cls[5]? = some (R_Tide, T_Tide, 12)) in_Tide 9 (by decide) tw_245 rfl d_Tide_kind_52 ?_
      refine lv_iload hx hb d_Tide_kind_55 (lv_at hl 5 rfl) ?_
      refine r_putI C hS (by decide) (cel_Thing (rfl : kd 50 = 2)) (rfl : cls[3]? = some (R_Thing, T_Thing, 6)) in_Thing ty_Thing tyok_Thing nm_Thing 0 (by decide) tw_101 rfl rfl rfl (Nat.le_of_ble_eq_true rfl) (set_Thing_0 (rfl : kd 50 = 2)) rfl h d_Tide_kind_57 (fun X1 H locs hS h => ?_)
      refine lv_aload_n hx hb d_Tide_kind_60 rfl (lv_at hl 0 rfl) ?_
      refine lv_iload_n hx hb d_Tide_kind_61 rfl (lv_at hl 2 rfl) ?_
      refine lv_iconst (v := 0) hx hb d_Tide_kind_62 (by decide) ?_
      refine lv_iload_n hx hb d_Tide_kind_63 rfl (lv_at hl 1 rfl) ?_
      obtain ⟨v2, X4, hr3, h⟩ := bd2_el h
      refine c_I hS (c_runV (As := [.int x3, .int (0 : Int32), .int x2]) (rest := []) C hS (by decide) cel_Tide (rfl : cls[5]? = some (R_Tide, T_Tide, 12)) (k_Tide_purseWithTrial (l := l) (E := E) (X := X1) hr3) cw_Tide_purseWithTrial ini_Tide_purseWithTrial ins_Tide_purseWithTrial sel_Tide_purseWithTrial tw_513 hd_Tide_purseWithTrial rfl ⟨⟨rfl, rfl⟩, (Nat.le_of_ble_eq_true rfl), (Nat.le_of_ble_eq_true rfl)⟩ ⟨(Nat.le_of_ble_eq_true rfl), (Nat.le_of_ble_eq_true rfl)⟩ hl.1 rfl (Nat.le_of_ble_eq_true rfl) d_Tide_kind_64) (fun H locs hS => ?_)
      refine lv_istore (lv' := [(7, .int v2), (0, .ref (ad E 0)), (2, .int x2), (3, .int x3), (4, .int x4), (5, .int x5), (6, .int x6)]) hx hb d_Tide_kind_67 hl (by decide) rfl (fun ls hl => ?_)
      refine lv_iload hx hb d_Tide_kind_69 (lv_at hl 0 rfl) ?_
      refine lv_iload hx hb d_Tide_kind_71 (lv_at hl 5 rfl) ?_
      refine r_icmp_le (tgt := 84) C h d_Tide_kind_73 (by decide) (fun h => ?_) (fun h => ?_)
      · skip
        exact k_Tide_kind_j84 C hc44 ih h hS (lv_sub hl [1, 2, 3, 4, 5, 6] rfl)
      · skip
        refine lv_iload hx hb d_Tide_kind_76 (lv_at hl 0 rfl) ?_
        refine lv_istore (lv' := [(5, .int v2), (7, .int v2), (0, .ref (ad E 0)), (2, .int x2), (3, .int x3), (4, .int x4), (6, .int x6)]) hx hb d_Tide_kind_78 hl (by decide) rfl (fun ls hl => ?_)
        refine lv_iload hx hb d_Tide_kind_80 (lv_at hl 6 rfl) ?_
        refine lv_istore (lv' := [(4, .int x6), (5, .int v2), (7, .int v2), (0, .ref (ad E 0)), (2, .int x2), (3, .int x3), (6, .int x6)]) hx hb d_Tide_kind_82 hl (by decide) rfl (fun ls hl => ?_)
        exact k_Tide_kind_j84 C hc44 ih h hS (lv_sub hl [3, 4, 5, 0, 1, 6] rfl)
set_option maxHeartbeats 4000000 in
set_option maxRecDepth 100000 in
theorem k_Tide_kind_j21 {p : Program} {l : Launch} {e : Env} {s : State} {m : MethodId} {args : Array Value} {below : List Frame} {meth : Method} {c : Code} {E : En} {r : Int32} {Y : Mem} (C : Cx p s m args meth c c_Tide_kind 8 "TideLoans" (some .int) E) {X : Mem} (h : f_Tide_kind_j21 X = some (r, Y)) {H : Heap} {locs : List Loc} (hS : Hs E s.heap X H locs) {ls : Array Slot} (hl : lv_has ls 8 [(0, .ref (ad E 0))]) : W p l e ({ frames := 9, cells := 0, slots := 0, locals := 204 } : Room) s m args below meth c H locs 0 0 (MQ below (PostI E r Y) args s 0 0 (Ad E)) (F0 m 21 ls []) := by
  obtain ⟨hx, hb, hml, hown, hts, hrt, hlk, hKx⟩ := id C
  unfold f_Tide_kind_j21 at h
  refine lv_aload_n hx hb d_Tide_kind_21 rfl (lv_at hl 0 rfl) ?_
  refine lv_ldc (v := -1000000001) hx hb hown (hts _ tw_280) d_Tide_kind_22 ?_
  obtain ⟨v1, X3, hr2, h⟩ := bd2_el h
  refine c_I hS (c_runV (As := [.int (-1000000001 : Int32)]) (rest := []) C hS (by decide) cel_Tide (rfl : cls[5]? = some (R_Tide, T_Tide, 12)) (k_Tide_finding (l := l) (E := E) (X := X) hr2) cw_Tide_finding ini_Tide_finding ins_Tide_finding sel_Tide_finding tw_281 hd_Tide_finding rfl ⟨⟨rfl, rfl⟩, (Nat.le_of_ble_eq_true rfl), (Nat.le_of_ble_eq_true rfl)⟩ ⟨(Nat.le_of_ble_eq_true rfl), (Nat.le_of_ble_eq_true rfl)⟩ hl.1 rfl (Nat.le_of_ble_eq_true rfl) d_Tide_kind_24) (fun H locs hS => ?_)
  exact r_iret C hS rfl h d_Tide_kind_27
set_option maxHeartbeats 4000000 in
set_option maxRecDepth 100000 in
theorem k_Tide_kind {l : Launch} {E : En} {p1 : Int32} {p2 : Int32} {X : Mem} {r : Int32} {Y : Mem} (h : f_Tide_kind p1 p2 X = some (r, Y)) : Met l y_Tide_kind (Cond.code y_Tide_kind c_Tide_kind 8 (some .int) :: tb) ({ frames := 9, cells := 0, slots := 0, locals := 204 } : Room) (PreC E [.ref (ad E 0), .int p1, .int p2] X) (PostI E r Y) 0 0 (Ad E) := by
  refine met_of (by decide) (Nat.le_of_ble_eq_true rfl) (fun p e s m below meth c C hS ls hl => ?_)
  replace C : Cx p s m ([.ref (ad E 0), .int p1, .int p2] : List Value).toArray meth c c_Tide_kind 8 "TideLoans" (some .int) E := C
  replace hl : lv_has ls 8 [(0, .ref (ad E 0)), (1, .int p1), (2, .int p2)] := hl
  obtain ⟨hx, hb, hml, hown, hts, hrt, hlk, hKx⟩ := id C
  unfold f_Tide_kind at h
  refine lv_aload_n hx hb d_Tide_kind_0 rfl (lv_at hl 0 rfl) ?_
  refine r_get C hS (by decide) cel_Tide (rfl : cls[5]? = some (R_Tide, T_Tide, 12)) in_Tide 1 (by decide) tw_237 rfl d_Tide_kind_1 ?_
  refine lv_iload_n hx hb d_Tide_kind_4 rfl (lv_at hl 1 rfl) ?_
  obtain ⟨v1, hr2, h⟩ := bd_el h
  refine c_I hS (c_runV (As := [.int p1]) (rest := []) C hS (by decide) (cel_Shore (rfl : kd 2 = 1)) (rfl : cls[1]? = some (R_Shore, T_Shore, 6)) (k_Shore_has (l := l) (E := E) (X := X) rfl hr2) cw_Shore_has ini_Shore_has ins_Shore_has sel_Shore_has tw_345 hd_Shore_has rfl ⟨⟨rfl, rfl⟩, (Nat.le_of_ble_eq_true rfl), (Nat.le_of_ble_eq_true rfl)⟩ ⟨(Nat.le_of_ble_eq_true rfl), (Nat.le_of_ble_eq_true rfl)⟩ hl.1 rfl (Nat.le_of_ble_eq_true rfl) d_Tide_kind_5) (fun H locs hS => ?_)
  refine r_if_eq (tgt := 21) C h d_Tide_kind_8 (by decide) (fun h => ?_) (fun h => ?_)
  · skip
    exact k_Tide_kind_j21 C h hS (lv_sub hl [0] rfl)
  · skip
    refine lv_iload_n hx hb d_Tide_kind_11 rfl (lv_at hl 2 rfl) ?_
    refine lv_iconst (v := 1) hx hb d_Tide_kind_12 (by decide) ?_
    refine lv_bipush (v := 100) hx hb d_Tide_kind_13 (by decide) ?_
    obtain ⟨v3, hr4, h⟩ := bd_el h
    refine c_I hS (c_runS (As := [.int p2, .int (1 : Int32), .int (100 : Int32)]) (rest := []) C hS (k_Tide_isUpTo (l := l) (E := E) (X := X) hr4) cw_Tide_isUpTo ini_Tide_isUpTo sta_Tide_isUpTo tw_297 hd_Tide_isUpTo rfl ⟨⟨rfl, rfl⟩, (Nat.le_of_ble_eq_true rfl), (Nat.le_of_ble_eq_true rfl)⟩ ⟨(Nat.le_of_ble_eq_true rfl), (Nat.le_of_ble_eq_true rfl)⟩ hl.1 rfl (Nat.le_of_ble_eq_true rfl) d_Tide_kind_15) (fun H locs hS => ?_)
    refine r_if_ne (tgt := 28) C h d_Tide_kind_18 (by decide) (fun h => ?_) (fun h => ?_)
    · skip
      refine lv_aload_n hx hb d_Tide_kind_28 rfl (lv_at hl 0 rfl) ?_
      refine lv_iload_n hx hb d_Tide_kind_29 rfl (lv_at hl 1 rfl) ?_
      refine lv_iload_n hx hb d_Tide_kind_30 rfl (lv_at hl 2 rfl) ?_
      obtain ⟨v5, X7, hr6, h⟩ := bd2_el h
      refine c_I hS (c_runV (As := [.int p1, .int p2]) (rest := []) C hS (by decide) cel_Tide (rfl : cls[5]? = some (R_Tide, T_Tide, 12)) (k_Tide_tryOn (l := l) (E := E) (X := X) hr6) cw_Tide_tryOn ini_Tide_tryOn ins_Tide_tryOn sel_Tide_tryOn tw_505 hd_Tide_tryOn rfl ⟨⟨rfl, rfl⟩, (Nat.le_of_ble_eq_true rfl), (Nat.le_of_ble_eq_true rfl)⟩ ⟨(Nat.le_of_ble_eq_true rfl), (Nat.le_of_ble_eq_true rfl)⟩ hl.1 rfl (Nat.le_of_ble_eq_true rfl) d_Tide_kind_31) (fun H locs hS => ?_)
      refine lv_istore_n (lv' := [(3, .int v5), (0, .ref (ad E 0)), (1, .int p1), (2, .int p2)]) hx hb d_Tide_kind_34 rfl hl (by decide) rfl (fun ls hl => ?_)
      refine lv_iconst (v := 0) hx hb d_Tide_kind_35 (by decide) ?_
      refine lv_istore (lv' := [(4, .int (0 : Int32)), (3, .int v5), (0, .ref (ad E 0)), (1, .int p1), (2, .int p2)]) hx hb d_Tide_kind_36 hl (by decide) rfl (fun ls hl => ?_)
      refine lv_iconst (v := -1) hx hb d_Tide_kind_38 (by decide) ?_
      refine lv_istore (lv' := [(5, .int (-1 : Int32)), (4, .int (0 : Int32)), (3, .int v5), (0, .ref (ad E 0)), (1, .int p1), (2, .int p2)]) hx hb d_Tide_kind_39 hl (by decide) rfl (fun ls hl => ?_)
      refine lv_iconst (v := 0) hx hb d_Tide_kind_41 (by decide) ?_
      refine lv_istore (lv' := [(6, .int (0 : Int32)), (5, .int (-1 : Int32)), (4, .int (0 : Int32)), (3, .int v5), (0, .ref (ad E 0)), (1, .int p1), (2, .int p2)]) hx hb d_Tide_kind_42 hl (by decide) rfl (fun ls hl => ?_)
      exact k_Tide_kind_b44 C _ _ FU _ _ _ _ _ _ _ h hS (lv_sub hl [4, 6, 3, 2, 1, 0] rfl)
    · skip
      exact k_Tide_kind_j21 C h hS (lv_sub hl [0] rfl)
def I_Tide_worth_b55 (p : Program) (l : Launch) (e : Env) (s : State) (m : MethodId) (args : Array Value) (below : List Frame) (meth : Method) (c : Code) (E : En) (r : Int32) (Y : Mem) (x3 : Int32) (x4 : Int32) (n : Nat) (tg : (Int32 × Mem)) : Prop := ∀ (x5 : Int32) (X : Mem) (H : Heap) (locs : List Loc) (ls : Array Slot), it (fun a => f_Tide_worth_b55 x3 x4 a.1 a.2) n (x5, X) = some tg → Hs E s.heap X H locs → lv_has ls 6 [(0, .ref (ad E 0)), (3, .int x3), (4, .int x4), (5, .int x5)] → W p l e ({ frames := 9, cells := 0, slots := 0, locals := 204 } : Room) s m args below meth c H locs 0 0 (MQ below (PostI E r Y) args s 0 0 (Ad E)) (F0 m 55 ls [])
set_option maxHeartbeats 4000000 in
set_option maxRecDepth 100000 in
theorem k_Tide_worth_b55 {p : Program} {l : Launch} {e : Env} {s : State} {m : MethodId} {args : Array Value} {below : List Frame} {meth : Method} {c : Code} {E : En} {r : Int32} {Y : Mem} (C : Cx p s m args meth c c_Tide_worth 6 "TideLoans" (some .int) E) (x3 : Int32) (x4 : Int32) : ∀ n, I_Tide_worth_b55 p l e s m args below meth c E r Y x3 x4 n (r, Y) := by
  obtain ⟨hx, hb, hml, hown, hts, hrt, hlk, hKx⟩ := id C
  intro n
  induction n with
  | zero => intro x5 X H locs ls h; exact it_0 h
  | succ n ih =>
    intro x5 X H locs ls h hS hl
    obtain ⟨cc55, h, hc55⟩ := it_el h
    replace h : f_Tide_worth_b55 x3 x4 x5 X = some cc55 := h
    unfold f_Tide_worth_b55 at h
    refine lv_iload hx hb d_Tide_worth_55 (lv_at hl 3 rfl) ?_
    refine lv_sipush (v := 999) hx hb d_Tide_worth_57 (by decide) ?_
    refine r_icmp_gt (tgt := 108) C h d_Tide_worth_60 (by decide) (fun h => ?_) (fun h => ?_)
    · skip
      refine lv_aload_n hx hb d_Tide_worth_108 rfl (lv_at hl 0 rfl) ?_
      refine lv_ldc (v := -1000000004) hx hb hown (hts _ tw_491) d_Tide_worth_109 ?_
      obtain ⟨v1, X3, hr2, h⟩ := bd2_el h
      refine c_I hS (c_runV (As := [.int (-1000000004 : Int32)]) (rest := []) C hS (by decide) cel_Tide (rfl : cls[5]? = some (R_Tide, T_Tide, 12)) (k_Tide_finding (l := l) (E := E) (X := X) hr2) cw_Tide_finding ini_Tide_finding ins_Tide_finding sel_Tide_finding tw_281 hd_Tide_finding rfl ⟨⟨rfl, rfl⟩, (Nat.le_of_ble_eq_true rfl), (Nat.le_of_ble_eq_true rfl)⟩ ⟨(Nat.le_of_ble_eq_true rfl), (Nat.le_of_ble_eq_true rfl)⟩ hl.1 rfl (Nat.le_of_ble_eq_true rfl) d_Tide_worth_111) (fun H locs hS => ?_)
      replace h := lp_ret h hc55
      exact r_iret C hS rfl h d_Tide_worth_114
    · skip
      refine lv_aload_n hx hb d_Tide_worth_63 rfl (lv_at hl 0 rfl) ?_
      refine r_get C hS (by decide) cel_Tide (rfl : cls[5]? = some (R_Tide, T_Tide, 12)) in_Tide 9 (by decide) tw_245 rfl d_Tide_worth_64 ?_
      refine lv_iload hx hb d_Tide_worth_67 (lv_at hl 3 rfl) ?_
      refine r_putI C hS (by decide) (cel_Thing (rfl : kd 50 = 2)) (rfl : cls[3]? = some (R_Thing, T_Thing, 6)) in_Thing ty_Thing tyok_Thing nm_Thing 3 (by decide) tw_109 rfl rfl rfl (Nat.le_of_ble_eq_true rfl) (set_Thing_3 (rfl : kd 50 = 2)) rfl h d_Tide_worth_69 (fun X4 H locs hS h => ?_)
      refine lv_iload hx hb d_Tide_worth_72 (lv_at hl 2 rfl) ?_
      refine lv_aload_n hx hb d_Tide_worth_74 rfl (lv_at hl 0 rfl) ?_
      refine r_get C hS (by decide) cel_Tide (rfl : cls[5]? = some (R_Tide, T_Tide, 12)) in_Tide 10 (by decide) tw_246 rfl d_Tide_worth_75 ?_
      refine lv_aload_n hx hb d_Tide_worth_78 rfl (lv_at hl 0 rfl) ?_
      refine r_get C hS (by decide) cel_Tide (rfl : cls[5]? = some (R_Tide, T_Tide, 12)) in_Tide 9 (by decide) tw_245 rfl d_Tide_worth_79 ?_
      refine lv_aload_n hx hb d_Tide_worth_82 rfl (lv_at hl 0 rfl) ?_
      refine r_get C hS (by decide) cel_Tide (rfl : cls[5]? = some (R_Tide, T_Tide, 12)) in_Tide 1 (by decide) tw_237 rfl d_Tide_worth_83 ?_
      refine r_getI C hS (by decide) (cel_Shore (rfl : kd 2 = 1)) (rfl : cls[1]? = some (R_Shore, T_Shore, 6)) in_Shore 5 (by decide) tw_142 rfl h d_Tide_worth_86 (fun v5 h => ?_)
      obtain ⟨v6, hr7, h⟩ := bd_el h
      refine c_I hS (c_runV (As := [.ref (ad E 50), .int v5]) (rest := [.int x4]) C hS (by decide) (cel_Way (rfl : kd 51 = 3)) (rfl : cls[4]? = some (R_Way, T_Way, 5)) (k_Way_brings (l := l) (E := E) (X := X4) rfl rfl hr7) cw_Way_brings ini_Way_brings ins_Way_brings sel_Way_brings tw_448 hd_Way_brings rfl ⟨⟨rfl, rfl⟩, (Nat.le_of_ble_eq_true rfl), (Nat.le_of_ble_eq_true rfl)⟩ ⟨(Nat.le_of_ble_eq_true rfl), (Nat.le_of_ble_eq_true rfl)⟩ hl.1 rfl (Nat.le_of_ble_eq_true rfl) d_Tide_worth_89) (fun H locs hS => ?_)
      obtain ⟨v8, hr9, h⟩ := bd_el h
      refine c_I hS (c_runS (As := [.int x4, .int v6]) (rest := []) C hS (k_Tide_filled (l := l) (E := E) (X := X4) hr9) cw_Tide_filled ini_Tide_filled sta_Tide_filled tw_453 hd_Tide_filled rfl ⟨⟨rfl, rfl⟩, (Nat.le_of_ble_eq_true rfl), (Nat.le_of_ble_eq_true rfl)⟩ ⟨(Nat.le_of_ble_eq_true rfl), (Nat.le_of_ble_eq_true rfl)⟩ hl.1 rfl (Nat.le_of_ble_eq_true rfl) d_Tide_worth_92) (fun H locs hS => ?_)
      refine lv_iload_n hx hb d_Tide_worth_95 rfl (lv_at hl 1 rfl) ?_
      refine r_icmp_lt (tgt := 102) C h d_Tide_worth_96 (by decide) (fun h => ?_) (fun h => ?_)
      · skip
        refine r_iinc C (w := 1) (lv' := fun z => [(5, .int z), (0, .ref (ad E 0)), (3, .int x3), (4, .int x4)]) h d_Tide_worth_102 hl (k := 3) rfl (by decide) (by decide) (fun _ => rfl) (fun v10 ls h hl => ?_)
        refine lv_goto (tgt := 55) hx hb d_Tide_worth_105 (by decide) ?_
        exact ih _ _ _ _ _ (lp_next h hc55) hS (lv_sub hl [1, 2, 3, 0] rfl)
      · skip
        refine lv_iload hx hb d_Tide_worth_99 (lv_at hl 3 rfl) ?_
        replace h := lp_ret h hc55
        exact r_iret C hS rfl h d_Tide_worth_101
set_option maxHeartbeats 4000000 in
set_option maxRecDepth 100000 in
theorem k_Tide_worth_j31 {p : Program} {l : Launch} {e : Env} {s : State} {m : MethodId} {args : Array Value} {below : List Frame} {meth : Method} {c : Code} {E : En} {r : Int32} {Y : Mem} (C : Cx p s m args meth c c_Tide_worth 6 "TideLoans" (some .int) E) {X : Mem} (h : f_Tide_worth_j31 X = some (r, Y)) {H : Heap} {locs : List Loc} (hS : Hs E s.heap X H locs) {ls : Array Slot} (hl : lv_has ls 6 [(0, .ref (ad E 0))]) : W p l e ({ frames := 9, cells := 0, slots := 0, locals := 204 } : Room) s m args below meth c H locs 0 0 (MQ below (PostI E r Y) args s 0 0 (Ad E)) (F0 m 31 ls []) := by
  obtain ⟨hx, hb, hml, hown, hts, hrt, hlk, hKx⟩ := id C
  unfold f_Tide_worth_j31 at h
  refine lv_aload_n hx hb d_Tide_worth_31 rfl (lv_at hl 0 rfl) ?_
  refine lv_ldc (v := -1000000001) hx hb hown (hts _ tw_280) d_Tide_worth_32 ?_
  obtain ⟨v1, X3, hr2, h⟩ := bd2_el h
  refine c_I hS (c_runV (As := [.int (-1000000001 : Int32)]) (rest := []) C hS (by decide) cel_Tide (rfl : cls[5]? = some (R_Tide, T_Tide, 12)) (k_Tide_finding (l := l) (E := E) (X := X) hr2) cw_Tide_finding ini_Tide_finding ins_Tide_finding sel_Tide_finding tw_281 hd_Tide_finding rfl ⟨⟨rfl, rfl⟩, (Nat.le_of_ble_eq_true rfl), (Nat.le_of_ble_eq_true rfl)⟩ ⟨(Nat.le_of_ble_eq_true rfl), (Nat.le_of_ble_eq_true rfl)⟩ hl.1 rfl (Nat.le_of_ble_eq_true rfl) d_Tide_worth_34) (fun H locs hS => ?_)
  exact r_iret C hS rfl h d_Tide_worth_37
set_option maxHeartbeats 4000000 in
set_option maxRecDepth 100000 in
theorem k_Tide_worth {l : Launch} {E : En} {p1 : Int32} {p2 : Int32} {p3 : Int32} {X : Mem} {r : Int32} {Y : Mem} (h : f_Tide_worth p1 p2 p3 X = some (r, Y)) : Met l y_Tide_worth (Cond.code y_Tide_worth c_Tide_worth 6 (some .int) :: tb) ({ frames := 9, cells := 0, slots := 0, locals := 204 } : Room) (PreC E [.ref (ad E 0), .int p1, .int p2, .int p3] X) (PostI E r Y) 0 0 (Ad E) := by
  refine met_of (by decide) (Nat.le_of_ble_eq_true rfl) (fun p e s m below meth c C hS ls hl => ?_)
  replace C : Cx p s m ([.ref (ad E 0), .int p1, .int p2, .int p3] : List Value).toArray meth c c_Tide_worth 6 "TideLoans" (some .int) E := C
  replace hl : lv_has ls 6 [(0, .ref (ad E 0)), (1, .int p1), (2, .int p2), (3, .int p3)] := hl
  obtain ⟨hx, hb, hml, hown, hts, hrt, hlk, hKx⟩ := id C
  unfold f_Tide_worth at h
  refine lv_aload_n hx hb d_Tide_worth_0 rfl (lv_at hl 0 rfl) ?_
  refine r_get C hS (by decide) cel_Tide (rfl : cls[5]? = some (R_Tide, T_Tide, 12)) in_Tide 1 (by decide) tw_237 rfl d_Tide_worth_1 ?_
  refine lv_iload_n hx hb d_Tide_worth_4 rfl (lv_at hl 1 rfl) ?_
  obtain ⟨v1, hr2, h⟩ := bd_el h
  refine c_I hS (c_runV (As := [.int p1]) (rest := []) C hS (by decide) (cel_Shore (rfl : kd 2 = 1)) (rfl : cls[1]? = some (R_Shore, T_Shore, 6)) (k_Shore_has (l := l) (E := E) (X := X) rfl hr2) cw_Shore_has ini_Shore_has ins_Shore_has sel_Shore_has tw_345 hd_Shore_has rfl ⟨⟨rfl, rfl⟩, (Nat.le_of_ble_eq_true rfl), (Nat.le_of_ble_eq_true rfl)⟩ ⟨(Nat.le_of_ble_eq_true rfl), (Nat.le_of_ble_eq_true rfl)⟩ hl.1 rfl (Nat.le_of_ble_eq_true rfl) d_Tide_worth_5) (fun H locs hS => ?_)
  refine r_if_eq (tgt := 31) C h d_Tide_worth_8 (by decide) (fun h => ?_) (fun h => ?_)
  · skip
    exact k_Tide_worth_j31 C h hS (lv_sub hl [0] rfl)
  · skip
    refine lv_iload_n hx hb d_Tide_worth_11 rfl (lv_at hl 2 rfl) ?_
    refine lv_iconst (v := 1) hx hb d_Tide_worth_12 (by decide) ?_
    refine lv_bipush (v := 40) hx hb d_Tide_worth_13 (by decide) ?_
    obtain ⟨v3, hr4, h⟩ := bd_el h
    refine c_I hS (c_runS (As := [.int p2, .int (1 : Int32), .int (40 : Int32)]) (rest := []) C hS (k_Tide_isUpTo (l := l) (E := E) (X := X) hr4) cw_Tide_isUpTo ini_Tide_isUpTo sta_Tide_isUpTo tw_297 hd_Tide_isUpTo rfl ⟨⟨rfl, rfl⟩, (Nat.le_of_ble_eq_true rfl), (Nat.le_of_ble_eq_true rfl)⟩ ⟨(Nat.le_of_ble_eq_true rfl), (Nat.le_of_ble_eq_true rfl)⟩ hl.1 rfl (Nat.le_of_ble_eq_true rfl) d_Tide_worth_15) (fun H locs hS => ?_)
    refine r_if_eq (tgt := 31) C h d_Tide_worth_18 (by decide) (fun h => ?_) (fun h => ?_)
    · skip
      exact k_Tide_worth_j31 C h hS (lv_sub hl [0] rfl)
    · skip
      refine lv_iload_n hx hb d_Tide_worth_21 rfl (lv_at hl 3 rfl) ?_
      refine lv_iconst (v := 0) hx hb d_Tide_worth_22 (by decide) ?_
      refine lv_ldc (v := 999999999) hx hb hown (hts _ tw_322) d_Tide_worth_23 ?_
      obtain ⟨v5, hr6, h⟩ := bd_el h
      refine c_I hS (c_runS (As := [.int p3, .int (0 : Int32), .int (999999999 : Int32)]) (rest := []) C hS (k_Tide_isUpTo (l := l) (E := E) (X := X) hr6) cw_Tide_isUpTo ini_Tide_isUpTo sta_Tide_isUpTo tw_297 hd_Tide_isUpTo rfl ⟨⟨rfl, rfl⟩, (Nat.le_of_ble_eq_true rfl), (Nat.le_of_ble_eq_true rfl)⟩ ⟨(Nat.le_of_ble_eq_true rfl), (Nat.le_of_ble_eq_true rfl)⟩ hl.1 rfl (Nat.le_of_ble_eq_true rfl) d_Tide_worth_25) (fun H locs hS => ?_)
      refine r_if_ne (tgt := 38) C h d_Tide_worth_28 (by decide) (fun h => ?_) (fun h => ?_)
      · skip
        refine lv_aload_n hx hb d_Tide_worth_38 rfl (lv_at hl 0 rfl) ?_
        refine lv_iload_n hx hb d_Tide_worth_39 rfl (lv_at hl 1 rfl) ?_
        refine lv_iload_n hx hb d_Tide_worth_40 rfl (lv_at hl 2 rfl) ?_
        obtain ⟨v7, X9, hr8, h⟩ := bd2_el h
        refine c_I hS (c_runV (As := [.int p1, .int p2]) (rest := []) C hS (by decide) cel_Tide (rfl : cls[5]? = some (R_Tide, T_Tide, 12)) (k_Tide_tryOn (l := l) (E := E) (X := X) hr8) cw_Tide_tryOn ini_Tide_tryOn ins_Tide_tryOn sel_Tide_tryOn tw_505 hd_Tide_tryOn rfl ⟨⟨rfl, rfl⟩, (Nat.le_of_ble_eq_true rfl), (Nat.le_of_ble_eq_true rfl)⟩ ⟨(Nat.le_of_ble_eq_true rfl), (Nat.le_of_ble_eq_true rfl)⟩ hl.1 rfl (Nat.le_of_ble_eq_true rfl) d_Tide_worth_41) (fun H locs hS => ?_)
        refine lv_istore (lv' := [(4, .int v7), (0, .ref (ad E 0)), (1, .int p1), (2, .int p2), (3, .int p3)]) hx hb d_Tide_worth_44 hl (by decide) rfl (fun ls hl => ?_)
        refine lv_aload_n hx hb d_Tide_worth_46 rfl (lv_at hl 1 rfl) ?_
        refine lv_iconst (v := 0) hx hb d_Tide_worth_47 (by decide) ?_
        refine lv_iload_n hx hb d_Tide_worth_48 rfl (lv_at hl 3 rfl) ?_
        obtain ⟨X11, hr10, h⟩ := bd_el h
        refine c_V hS (c_runV (As := [.int (0 : Int32), .int p2]) (rest := []) C hS (by decide) cel_Tide (rfl : cls[5]? = some (R_Tide, T_Tide, 12)) (k_Tide_followTrial (l := l) (E := E) (X := X9) hr10) cw_Tide_followTrial ini_Tide_followTrial ins_Tide_followTrial sel_Tide_followTrial tw_517 hd_Tide_followTrial rfl ⟨⟨rfl, rfl⟩, (Nat.le_of_ble_eq_true rfl), (Nat.le_of_ble_eq_true rfl)⟩ ⟨(Nat.le_of_ble_eq_true rfl), (Nat.le_of_ble_eq_true rfl)⟩ hl.1 rfl (Nat.le_of_ble_eq_true rfl) d_Tide_worth_49) (fun H locs hS => ?_)
        refine lv_iconst (v := 0) hx hb d_Tide_worth_52 (by decide) ?_
        refine lv_istore (lv' := [(5, .int (0 : Int32)), (4, .int v7), (0, .ref (ad E 0)), (1, .int p1), (2, .int p2), (3, .int p3)]) hx hb d_Tide_worth_53 hl (by decide) rfl (fun ls hl => ?_)
        exact k_Tide_worth_b55 C _ _ FU _ _ _ _ _ h hS (lv_sub hl [2, 5, 1, 0] rfl)
      · skip
        exact k_Tide_worth_j31 C h hS (lv_sub hl [0] rfl)
def I_Tide_richest_b30 (p : Program) (l : Launch) (e : Env) (s : State) (m : MethodId) (args : Array Value) (below : List Frame) (meth : Method) (c : Code) (E : En) (r : Int32) (Y : Mem) (X : Mem) (n : Nat) (tg : (Int32 × Mem)) : Prop := ∀ (x2 : Int32) (x3 : Int32) (x4 : Int32) (H : Heap) (locs : List Loc) (ls : Array Slot), it (fun a => f_Tide_richest_b30 X a.1 a.2.1 a.2.2) n (x2, x3, x4) = some tg → Hs E s.heap X H locs → lv_has ls 6 [(0, .ref (ad E 0)), (2, .int x2), (3, .int x3), (4, .int x4)] → W p l e ({ frames := 8, cells := 0, slots := 0, locals := 182 } : Room) s m args below meth c H locs 0 0 (MQ below (PostI E r Y) args s 0 0 (Ad E)) (F0 m 30 ls [])
set_option maxHeartbeats 4000000 in
set_option maxRecDepth 100000 in
theorem k_Tide_richest_j64 {p : Program} {l : Launch} {e : Env} {s : State} {m : MethodId} {args : Array Value} {below : List Frame} {meth : Method} {c : Code} {E : En} {r : Int32} {Y : Mem} (C : Cx p s m args meth c c_Tide_richest 6 "TideLoans" (some .int) E) {x2 : Int32} {x3 : Int32} {x4 : Int32} {X : Mem} {tg : ((Int32 × Mem) ⊕ (Int32 × Int32 × Int32))} {n30 : Nat} (hc30 : fin (fun a => f_Tide_richest_b30 X a.1 a.2.1 a.2.2) n30 (r, Y) tg) (ih30 : I_Tide_richest_b30 p l e s m args below meth c E r Y X n30 (r, Y)) (h : f_Tide_richest_j64 x2 x3 x4 X = some tg) {H : Heap} {locs : List Loc} (hS : Hs E s.heap X H locs) {ls : Array Slot} (hl : lv_has ls 6 [(0, .ref (ad E 0)), (2, .int x2), (3, .int x3), (4, .int x4)]) : W p l e ({ frames := 8, cells := 0, slots := 0, locals := 182 } : Room) s m args below meth c H locs 0 0 (MQ below (PostI E r Y) args s 0 0 (Ad E)) (F0 m 64 ls []) := by
  obtain ⟨hx, hb, hml, hown, hts, hrt, hlk, hKx⟩ := id C
  unfold f_Tide_richest_j64 at h
  refine r_iinc C (w := 1) (lv' := fun z => [(4, .int z), (0, .ref (ad E 0)), (2, .int x2), (3, .int x3)]) h d_Tide_richest_64 hl (k := 3) rfl (by decide) (by decide) (fun _ => rfl) (fun v1 ls h hl => ?_)
  refine lv_goto (tgt := 30) hx hb d_Tide_richest_67 (by decide) ?_
  exact ih30 _ _ _ _ _ _ (lp_next h hc30) hS (lv_sub hl [1, 2, 3, 0] rfl)
set_option maxHeartbeats 4000000 in
set_option maxRecDepth 100000 in
theorem k_Tide_richest_b30 {p : Program} {l : Launch} {e : Env} {s : State} {m : MethodId} {args : Array Value} {below : List Frame} {meth : Method} {c : Code} {E : En} {r : Int32} {Y : Mem} (C : Cx p s m args meth c c_Tide_richest 6 "TideLoans" (some .int) E) {X : Mem} : ∀ n, I_Tide_richest_b30 p l e s m args below meth c E r Y X n (r, Y) := by
  obtain ⟨hx, hb, hml, hown, hts, hrt, hlk, hKx⟩ := id C
  intro n
  induction n with
  | zero => intro x2 x3 x4 H locs ls h; exact it_0 h
  | succ n ih =>
    intro x2 x3 x4 H locs ls h hS hl
    obtain ⟨cc30, h, hc30⟩ := it_el h
    replace h : f_Tide_richest_b30 X x2 x3 x4 = some cc30 := h
    unfold f_Tide_richest_b30 at h
    refine lv_iload hx hb d_Tide_richest_30 (lv_at hl 3 rfl) ?_
    refine lv_iconst (v := 4) hx hb d_Tide_richest_32 (by decide) ?_
    refine r_icmp_ge (tgt := 70) C h d_Tide_richest_33 (by decide) (fun h => ?_) (fun h => ?_)
    · skip
      refine lv_iload_n hx hb d_Tide_richest_70 rfl (lv_at hl 1 rfl) ?_
      replace h := lp_ret h hc30
      exact r_iret C hS rfl h d_Tide_richest_71
    · skip
      refine lv_aload_n hx hb d_Tide_richest_36 rfl (lv_at hl 0 rfl) ?_
      refine lv_iload hx hb d_Tide_richest_37 (lv_at hl 3 rfl) ?_
      refine lv_aload_n hx hb d_Tide_richest_39 rfl (lv_at hl 0 rfl) ?_
      refine r_get C hS (by decide) cel_Tide (rfl : cls[5]? = some (R_Tide, T_Tide, 12)) in_Tide 1 (by decide) tw_237 rfl d_Tide_richest_40 ?_
      refine r_getI C hS (by decide) (cel_Shore (rfl : kd 2 = 1)) (rfl : cls[1]? = some (R_Shore, T_Shore, 6)) in_Shore 5 (by decide) tw_142 rfl h d_Tide_richest_43 (fun v1 h => ?_)
      refine lv_iconst (v := -1) hx hb d_Tide_richest_46 (by decide) ?_
      obtain ⟨v2, hr3, h⟩ := bd_el h
      refine c_I hS (c_runV (As := [.int x4, .int v1, .int (-1 : Int32)]) (rest := []) C hS (by decide) cel_Tide (rfl : cls[5]? = some (R_Tide, T_Tide, 12)) (k_Tide_purseThen (l := l) (E := E) (X := X) hr3) cw_Tide_purseThen ini_Tide_purseThen ins_Tide_purseThen sel_Tide_purseThen tw_483 hd_Tide_purseThen rfl ⟨⟨rfl, rfl⟩, (Nat.le_of_ble_eq_true rfl), (Nat.le_of_ble_eq_true rfl)⟩ ⟨(Nat.le_of_ble_eq_true rfl), (Nat.le_of_ble_eq_true rfl)⟩ hl.1 rfl (Nat.le_of_ble_eq_true rfl) d_Tide_richest_47) (fun H locs hS => ?_)
      refine lv_istore (lv' := [(5, .int v2), (0, .ref (ad E 0)), (2, .int x2), (3, .int x3), (4, .int x4)]) hx hb d_Tide_richest_50 hl (by decide) rfl (fun ls hl => ?_)
      refine lv_iload hx hb d_Tide_richest_52 (lv_at hl 0 rfl) ?_
      refine lv_iload_n hx hb d_Tide_richest_54 rfl (lv_at hl 3 rfl) ?_
      refine r_icmp_le (tgt := 64) C h d_Tide_richest_55 (by decide) (fun h => ?_) (fun h => ?_)
      · skip
        exact k_Tide_richest_j64 C hc30 ih h hS (lv_sub hl [1, 2, 3, 4] rfl)
      · skip
        refine lv_iload hx hb d_Tide_richest_58 (lv_at hl 0 rfl) ?_
        refine lv_istore_n (lv' := [(3, .int v2), (5, .int v2), (0, .ref (ad E 0)), (2, .int x2), (4, .int x4)]) hx hb d_Tide_richest_60 rfl hl (by decide) rfl (fun ls hl => ?_)
        refine lv_iload hx hb d_Tide_richest_61 (lv_at hl 4 rfl) ?_
        refine lv_istore_n (lv' := [(2, .int x4), (3, .int v2), (5, .int v2), (0, .ref (ad E 0)), (4, .int x4)]) hx hb d_Tide_richest_63 rfl hl (by decide) rfl (fun ls hl => ?_)
        exact k_Tide_richest_j64 C hc30 ih h hS (lv_sub hl [3, 0, 1, 4] rfl)
set_option maxHeartbeats 4000000 in
set_option maxRecDepth 100000 in
theorem k_Tide_richest {l : Launch} {E : En} {p1 : Int32} {X : Mem} {r : Int32} {Y : Mem} (h : f_Tide_richest p1 X = some (r, Y)) : Met l y_Tide_richest (Cond.code y_Tide_richest c_Tide_richest 6 (some .int) :: tb) ({ frames := 8, cells := 0, slots := 0, locals := 182 } : Room) (PreC E [.ref (ad E 0), .int p1] X) (PostI E r Y) 0 0 (Ad E) := by
  refine met_of (by decide) (Nat.le_of_ble_eq_true rfl) (fun p e s m below meth c C hS ls hl => ?_)
  replace C : Cx p s m ([.ref (ad E 0), .int p1] : List Value).toArray meth c c_Tide_richest 6 "TideLoans" (some .int) E := C
  replace hl : lv_has ls 6 [(0, .ref (ad E 0)), (1, .int p1)] := hl
  obtain ⟨hx, hb, hml, hown, hts, hrt, hlk, hKx⟩ := id C
  unfold f_Tide_richest at h
  refine lv_iload_n hx hb d_Tide_richest_0 rfl (lv_at hl 1 rfl) ?_
  refine lv_iconst (v := 0) hx hb d_Tide_richest_1 (by decide) ?_
  refine lv_sipush (v := 400) hx hb d_Tide_richest_2 (by decide) ?_
  obtain ⟨v1, hr2, h⟩ := bd_el h
  refine c_I hS (c_runS (As := [.int p1, .int (0 : Int32), .int (400 : Int32)]) (rest := []) C hS (k_Tide_isUpTo (l := l) (E := E) (X := X) hr2) cw_Tide_isUpTo ini_Tide_isUpTo sta_Tide_isUpTo tw_297 hd_Tide_isUpTo rfl ⟨⟨rfl, rfl⟩, (Nat.le_of_ble_eq_true rfl), (Nat.le_of_ble_eq_true rfl)⟩ ⟨(Nat.le_of_ble_eq_true rfl), (Nat.le_of_ble_eq_true rfl)⟩ hl.1 rfl (Nat.le_of_ble_eq_true rfl) d_Tide_richest_5) (fun H locs hS => ?_)
  refine r_if_ne (tgt := 18) C h d_Tide_richest_8 (by decide) (fun h => ?_) (fun h => ?_)
  · skip
    refine lv_aload_n hx hb d_Tide_richest_18 rfl (lv_at hl 0 rfl) ?_
    refine lv_iload_n hx hb d_Tide_richest_19 rfl (lv_at hl 1 rfl) ?_
    obtain ⟨X4, hr3, h⟩ := bd_el h
    refine c_V hS (c_runV (As := [.int p1]) (rest := []) C hS (by decide) cel_Tide (rfl : cls[5]? = some (R_Tide, T_Tide, 12)) (k_Tide_followAll (l := l) (E := E) (X := X) hr3) cw_Tide_followAll ini_Tide_followAll ins_Tide_followAll sel_Tide_followAll tw_413 hd_Tide_followAll rfl ⟨⟨rfl, rfl⟩, (Nat.le_of_ble_eq_true rfl), (Nat.le_of_ble_eq_true rfl)⟩ ⟨(Nat.le_of_ble_eq_true rfl), (Nat.le_of_ble_eq_true rfl)⟩ hl.1 rfl (Nat.le_of_ble_eq_true rfl) d_Tide_richest_20) (fun H locs hS => ?_)
    refine lv_iconst (v := 0) hx hb d_Tide_richest_23 (by decide) ?_
    refine lv_istore_n (lv' := [(2, .int (0 : Int32)), (0, .ref (ad E 0)), (1, .int p1)]) hx hb d_Tide_richest_24 rfl hl (by decide) rfl (fun ls hl => ?_)
    refine lv_iconst (v := -1) hx hb d_Tide_richest_25 (by decide) ?_
    refine lv_istore_n (lv' := [(3, .int (-1 : Int32)), (2, .int (0 : Int32)), (0, .ref (ad E 0)), (1, .int p1)]) hx hb d_Tide_richest_26 rfl hl (by decide) rfl (fun ls hl => ?_)
    refine lv_iconst (v := 0) hx hb d_Tide_richest_27 (by decide) ?_
    refine lv_istore (lv' := [(4, .int (0 : Int32)), (3, .int (-1 : Int32)), (2, .int (0 : Int32)), (0, .ref (ad E 0)), (1, .int p1)]) hx hb d_Tide_richest_28 hl (by decide) rfl (fun ls hl => ?_)
    exact k_Tide_richest_b30 C FU _ _ _ _ _ _ h hS (lv_sub hl [3, 2, 1, 0] rfl)
  · skip
    refine lv_aload_n hx hb d_Tide_richest_11 rfl (lv_at hl 0 rfl) ?_
    refine lv_ldc (v := -1000000001) hx hb hown (hts _ tw_280) d_Tide_richest_12 ?_
    obtain ⟨v5, X7, hr6, h⟩ := bd2_el h
    refine c_I hS (c_runV (As := [.int (-1000000001 : Int32)]) (rest := []) C hS (by decide) cel_Tide (rfl : cls[5]? = some (R_Tide, T_Tide, 12)) (k_Tide_finding (l := l) (E := E) (X := X) hr6) cw_Tide_finding ini_Tide_finding ins_Tide_finding sel_Tide_finding tw_281 hd_Tide_finding rfl ⟨⟨rfl, rfl⟩, (Nat.le_of_ble_eq_true rfl), (Nat.le_of_ble_eq_true rfl)⟩ ⟨(Nat.le_of_ble_eq_true rfl), (Nat.le_of_ble_eq_true rfl)⟩ hl.1 rfl (Nat.le_of_ble_eq_true rfl) d_Tide_richest_14) (fun H locs hS => ?_)
    exact r_iret C hS rfl h d_Tide_richest_17
def I_Tide_shareOut_b4 (p : Program) (l : Launch) (e : Env) (s : State) (m : MethodId) (args : Array Value) (below : List Frame) (meth : Method) (c : Code) (E : En) (r : Int32) (Y : Mem) (x1 : Int32) (n : Nat) (tg : (Int32 × Mem)) : Prop := ∀ (x2 : Int32) (x3 : Int32) (X : Mem) (H : Heap) (locs : List Loc) (ls : Array Slot), it (fun a => f_Tide_shareOut_b4 x1 a.1 a.2.1 a.2.2) n (x2, x3, X) = some tg → Hs E s.heap X H locs → lv_has ls 6 [(0, .ref (ad E 0)), (1, .int x1), (2, .int x2), (3, .int x3)] → W p l e ({ frames := 6, cells := 0, slots := 0, locals := 136 } : Room) s m args below meth c H locs 0 0 (MQ below (PostI E r Y) args s 0 0 (Ad E)) (F0 m 4 ls [])
set_option maxHeartbeats 4000000 in
set_option maxRecDepth 100000 in
theorem k_Tide_shareOut_j99 {p : Program} {l : Launch} {e : Env} {s : State} {m : MethodId} {args : Array Value} {below : List Frame} {meth : Method} {c : Code} {E : En} {r : Int32} {Y : Mem} (C : Cx p s m args meth c c_Tide_shareOut 6 "TideLoans" (some .int) E) {x1 : Int32} {x2 : Int32} {x3 : Int32} {X : Mem} {tg : ((Int32 × Mem) ⊕ (Int32 × Int32 × Mem))} {n4 : Nat} (hc4 : fin (fun a => f_Tide_shareOut_b4 x1 a.1 a.2.1 a.2.2) n4 (r, Y) tg) (ih4 : I_Tide_shareOut_b4 p l e s m args below meth c E r Y x1 n4 (r, Y)) (h : f_Tide_shareOut_j99 x1 x2 x3 X = some tg) {H : Heap} {locs : List Loc} (hS : Hs E s.heap X H locs) {ls : Array Slot} (hl : lv_has ls 6 [(0, .ref (ad E 0)), (1, .int x1), (2, .int x2), (3, .int x3)]) : W p l e ({ frames := 6, cells := 0, slots := 0, locals := 136 } : Room) s m args below meth c H locs 0 0 (MQ below (PostI E r Y) args s 0 0 (Ad E)) (F0 m 99 ls []) := by
  obtain ⟨hx, hb, hml, hown, hts, hrt, hlk, hKx⟩ := id C
  unfold f_Tide_shareOut_j99 at h
  refine r_iinc C (w := 1) (lv' := fun z => [(3, .int z), (0, .ref (ad E 0)), (1, .int x1), (2, .int x2)]) h d_Tide_shareOut_99 hl (k := 3) rfl (by decide) (by decide) (fun _ => rfl) (fun v1 ls h hl => ?_)
  refine lv_goto (tgt := 4) hx hb d_Tide_shareOut_102 (by decide) ?_
  exact ih4 _ _ _ _ _ _ (lp_next h hc4) hS (lv_sub hl [1, 2, 3, 0] rfl)
set_option maxHeartbeats 4000000 in
set_option maxRecDepth 100000 in
theorem k_Tide_shareOut_j83 {p : Program} {l : Launch} {e : Env} {s : State} {m : MethodId} {args : Array Value} {below : List Frame} {meth : Method} {c : Code} {E : En} {r : Int32} {Y : Mem} (C : Cx p s m args meth c c_Tide_shareOut 6 "TideLoans" (some .int) E) {x1 : Int32} {x2 : Int32} {x3 : Int32} {q0 : Nat} {q1 : Int32} {q2 : Int32} {X : Mem} {tg : ((Int32 × Mem) ⊕ (Int32 × Int32 × Mem))} (hq0 : kd q0 = 1000 + 10) {n4 : Nat} (hc4 : fin (fun a => f_Tide_shareOut_b4 x1 a.1 a.2.1 a.2.2) n4 (r, Y) tg) (ih4 : I_Tide_shareOut_b4 p l e s m args below meth c E r Y x1 n4 (r, Y)) (h : f_Tide_shareOut_j83 x1 x2 x3 q0 q1 q2 X = some tg) {H : Heap} {locs : List Loc} (hS : Hs E s.heap X H locs) {ls : Array Slot} (hl : lv_has ls 6 [(0, .ref (ad E 0)), (1, .int x1), (2, .int x2), (3, .int x3)]) : W p l e ({ frames := 6, cells := 0, slots := 0, locals := 136 } : Room) s m args below meth c H locs 0 0 (MQ below (PostI E r Y) args s 0 0 (Ad E)) (F0 m 83 ls [.int q2, .int q1, .ref (ad E q0)]) := by
  obtain ⟨hx, hb, hml, hown, hts, hrt, hlk, hKx⟩ := id C
  unfold f_Tide_shareOut_j83 at h
  refine r_stI C hS (n := 10) hq0 (by decide) h d_Tide_shareOut_83 (fun X1 H locs hS h => ?_)
  refine lv_aload_n hx hb d_Tide_shareOut_84 rfl (lv_at hl 0 rfl) ?_
  refine r_get C hS (by decide) cel_Tide (rfl : cls[5]? = some (R_Tide, T_Tide, 12)) in_Tide 7 (by decide) tw_243 rfl d_Tide_shareOut_85 ?_
  refine lv_iload_n hx hb d_Tide_shareOut_88 rfl (lv_at hl 3 rfl) ?_
  refine r_ldI C hS (n := 10) rfl (by decide) h d_Tide_shareOut_89 (fun v2 h => ?_)
  refine r_if_le (tgt := 99) C h d_Tide_shareOut_90 (by decide) (fun h => ?_) (fun h => ?_)
  · skip
    exact k_Tide_shareOut_j99 C hc4 ih4 h hS (lv_sub hl [0, 1, 2, 3] rfl)
  · skip
    refine lv_iload_n hx hb d_Tide_shareOut_93 rfl (lv_at hl 2 rfl) ?_
    refine lv_iconst (v := 1) hx hb d_Tide_shareOut_94 (by decide) ?_
    refine lv_iload_n hx hb d_Tide_shareOut_95 rfl (lv_at hl 3 rfl) ?_
    refine lv_ishl hx hb d_Tide_shareOut_96 ?_
    refine lv_ior hx hb d_Tide_shareOut_97 ?_
    refine r_top h (fun v3 h => ?_)
    refine lv_istore_n (lv' := [(2, .int v3), (0, .ref (ad E 0)), (1, .int x1), (3, .int x3)]) hx hb d_Tide_shareOut_98 rfl hl (by decide) rfl (fun ls hl => ?_)
    exact k_Tide_shareOut_j99 C hc4 ih4 h hS (lv_sub hl [1, 2, 0, 3] rfl)
set_option maxHeartbeats 4000000 in
set_option maxRecDepth 100000 in
theorem k_Tide_shareOut_j49 {p : Program} {l : Launch} {e : Env} {s : State} {m : MethodId} {args : Array Value} {below : List Frame} {meth : Method} {c : Code} {E : En} {r : Int32} {Y : Mem} (C : Cx p s m args meth c c_Tide_shareOut 6 "TideLoans" (some .int) E) {x1 : Int32} {x2 : Int32} {x3 : Int32} {x4 : Nat} {q0 : Int32} {X : Mem} {tg : ((Int32 × Mem) ⊕ (Int32 × Int32 × Mem))} (hx4 : kd x4 = 2) {n4 : Nat} (hc4 : fin (fun a => f_Tide_shareOut_b4 x1 a.1 a.2.1 a.2.2) n4 (r, Y) tg) (ih4 : I_Tide_shareOut_b4 p l e s m args below meth c E r Y x1 n4 (r, Y)) (h : f_Tide_shareOut_j49 x1 x2 x3 x4 q0 X = some tg) {H : Heap} {locs : List Loc} (hS : Hs E s.heap X H locs) {ls : Array Slot} (hl : lv_has ls 6 [(0, .ref (ad E 0)), (1, .int x1), (2, .int x2), (3, .int x3), (4, .ref (ad E x4))]) : W p l e ({ frames := 6, cells := 0, slots := 0, locals := 136 } : Room) s m args below meth c H locs 0 0 (MQ below (PostI E r Y) args s 0 0 (Ad E)) (F0 m 49 ls [.int q0]) := by
  obtain ⟨hx, hb, hml, hown, hts, hrt, hlk, hKx⟩ := id C
  unfold f_Tide_shareOut_j49 at h
  refine lv_istore (lv' := [(5, .int q0), (0, .ref (ad E 0)), (1, .int x1), (2, .int x2), (3, .int x3), (4, .ref (ad E x4))]) hx hb d_Tide_shareOut_49 hl (by decide) rfl (fun ls hl => ?_)
  refine lv_aload_n hx hb d_Tide_shareOut_51 rfl (lv_at hl 1 rfl) ?_
  refine r_get C hS (by decide) cel_Tide (rfl : cls[5]? = some (R_Tide, T_Tide, 12)) in_Tide 7 (by decide) tw_243 rfl d_Tide_shareOut_52 ?_
  refine lv_iload_n hx hb d_Tide_shareOut_55 rfl (lv_at hl 4 rfl) ?_
  refine lv_iload hx hb d_Tide_shareOut_56 (lv_at hl 0 rfl) ?_
  refine r_if_eq (tgt := 82) C h d_Tide_shareOut_58 (by decide) (fun h => ?_) (fun h => ?_)
  · skip
    refine lv_iconst (v := 0) hx hb d_Tide_shareOut_82 (by decide) ?_
    exact k_Tide_shareOut_j83 C rfl hc4 ih4 h hS (lv_sub hl [1, 2, 3, 4] rfl)
  · skip
    refine lv_aload_n hx hb d_Tide_shareOut_61 rfl (lv_at hl 1 rfl) ?_
    refine r_get C hS (by decide) cel_Tide (rfl : cls[5]? = some (R_Tide, T_Tide, 12)) in_Tide 6 (by decide) tw_242 rfl d_Tide_shareOut_62 ?_
    refine lv_iload_n hx hb d_Tide_shareOut_65 rfl (lv_at hl 4 rfl) ?_
    refine r_ldW C hS h d_Tide_shareOut_66 (fun j1 hj1 h => ?_)
    refine lv_aload hx hb d_Tide_shareOut_67 (lv_at hl 5 rfl) ?_
    refine lv_aload_n hx hb d_Tide_shareOut_69 rfl (lv_at hl 1 rfl) ?_
    refine r_get C hS (by decide) cel_Tide (rfl : cls[5]? = some (R_Tide, T_Tide, 12)) in_Tide 1 (by decide) tw_237 rfl d_Tide_shareOut_70 ?_
    refine r_getI C hS (by decide) (cel_Shore (rfl : kd 2 = 1)) (rfl : cls[1]? = some (R_Shore, T_Shore, 6)) in_Shore 5 (by decide) tw_142 rfl h d_Tide_shareOut_73 (fun v2 h => ?_)
    obtain ⟨v3, hr4, h⟩ := bd_el h
    refine c_I hS (c_runV (As := [.ref (ad E x4), .int v2]) (rest := [.int x3, .ref (ad E 48)]) C hS (kd_lt (kd_way hj1) (by decide)) (cel_Way (kd_way hj1)) (rfl : cls[4]? = some (R_Way, T_Way, 5)) (k_Way_brings (l := l) (E := E) (X := X) (kd_way hj1) hx4 hr4) cw_Way_brings ini_Way_brings ins_Way_brings sel_Way_brings tw_448 hd_Way_brings rfl ⟨⟨rfl, rfl⟩, (Nat.le_of_ble_eq_true rfl), (Nat.le_of_ble_eq_true rfl)⟩ ⟨(Nat.le_of_ble_eq_true rfl), (Nat.le_of_ble_eq_true rfl)⟩ hl.1 rfl (Nat.le_of_ble_eq_true rfl) d_Tide_shareOut_76) (fun H locs hS => ?_)
    refine lv_goto (tgt := 83) hx hb d_Tide_shareOut_79 (by decide) ?_
    exact k_Tide_shareOut_j83 C rfl hc4 ih4 h hS (lv_sub hl [1, 2, 3, 4] rfl)
set_option maxHeartbeats 4000000 in
set_option maxRecDepth 100000 in
theorem k_Tide_shareOut_j48 {p : Program} {l : Launch} {e : Env} {s : State} {m : MethodId} {args : Array Value} {below : List Frame} {meth : Method} {c : Code} {E : En} {r : Int32} {Y : Mem} (C : Cx p s m args meth c c_Tide_shareOut 6 "TideLoans" (some .int) E) {x1 : Int32} {x2 : Int32} {x3 : Int32} {x4 : Nat} {X : Mem} {tg : ((Int32 × Mem) ⊕ (Int32 × Int32 × Mem))} (hx4 : kd x4 = 2) {n4 : Nat} (hc4 : fin (fun a => f_Tide_shareOut_b4 x1 a.1 a.2.1 a.2.2) n4 (r, Y) tg) (ih4 : I_Tide_shareOut_b4 p l e s m args below meth c E r Y x1 n4 (r, Y)) (h : f_Tide_shareOut_j48 x1 x2 x3 x4 X = some tg) {H : Heap} {locs : List Loc} (hS : Hs E s.heap X H locs) {ls : Array Slot} (hl : lv_has ls 6 [(0, .ref (ad E 0)), (1, .int x1), (2, .int x2), (3, .int x3), (4, .ref (ad E x4))]) : W p l e ({ frames := 6, cells := 0, slots := 0, locals := 136 } : Room) s m args below meth c H locs 0 0 (MQ below (PostI E r Y) args s 0 0 (Ad E)) (F0 m 48 ls []) := by
  obtain ⟨hx, hb, hml, hown, hts, hrt, hlk, hKx⟩ := id C
  unfold f_Tide_shareOut_j48 at h
  refine lv_iconst (v := 0) hx hb d_Tide_shareOut_48 (by decide) ?_
  exact k_Tide_shareOut_j49 C hx4 hc4 ih4 h hS (lv_sub hl [0, 1, 2, 3, 4] rfl)
set_option maxHeartbeats 4000000 in
set_option maxRecDepth 100000 in
theorem k_Tide_shareOut_b4 {p : Program} {l : Launch} {e : Env} {s : State} {m : MethodId} {args : Array Value} {below : List Frame} {meth : Method} {c : Code} {E : En} {r : Int32} {Y : Mem} (C : Cx p s m args meth c c_Tide_shareOut 6 "TideLoans" (some .int) E) (x1 : Int32) : ∀ n, I_Tide_shareOut_b4 p l e s m args below meth c E r Y x1 n (r, Y) := by
  obtain ⟨hx, hb, hml, hown, hts, hrt, hlk, hKx⟩ := id C
  intro n
  induction n with
  | zero => intro x2 x3 X H locs ls h; exact it_0 h
  | succ n ih =>
    intro x2 x3 X H locs ls h hS hl
    obtain ⟨cc4, h, hc4⟩ := it_el h
    replace h : f_Tide_shareOut_b4 x1 x2 x3 X = some cc4 := h
    unfold f_Tide_shareOut_b4 at h
    refine lv_iload_n hx hb d_Tide_shareOut_4 rfl (lv_at hl 3 rfl) ?_
    refine lv_aload_n hx hb d_Tide_shareOut_5 rfl (lv_at hl 0 rfl) ?_
    refine r_get C hS (by decide) cel_Tide (rfl : cls[5]? = some (R_Tide, T_Tide, 12)) in_Tide 1 (by decide) tw_237 rfl d_Tide_shareOut_6 ?_
    refine r_getI C hS (by decide) (cel_Shore (rfl : kd 2 = 1)) (rfl : cls[1]? = some (R_Shore, T_Shore, 6)) in_Shore 3 (by decide) tw_138 rfl h d_Tide_shareOut_9 (fun v1 h => ?_)
    refine r_icmp_ge (tgt := 105) C h d_Tide_shareOut_12 (by decide) (fun h => ?_) (fun h => ?_)
    · skip
      refine lv_iload_n hx hb d_Tide_shareOut_105 rfl (lv_at hl 2 rfl) ?_
      replace h := lp_ret h hc4
      exact r_iret C hS rfl h d_Tide_shareOut_106
    · skip
      refine lv_aload_n hx hb d_Tide_shareOut_15 rfl (lv_at hl 0 rfl) ?_
      refine r_get C hS (by decide) cel_Tide (rfl : cls[5]? = some (R_Tide, T_Tide, 12)) in_Tide 1 (by decide) tw_237 rfl d_Tide_shareOut_16 ?_
      refine r_get C hS (by decide) (cel_Shore (rfl : kd 2 = 1)) (rfl : cls[1]? = some (R_Shore, T_Shore, 6)) in_Shore 2 (by decide) tw_136 rfl d_Tide_shareOut_19 ?_
      refine lv_iload_n hx hb d_Tide_shareOut_22 rfl (lv_at hl 3 rfl) ?_
      refine r_ldT C hS (kd_things rfl) h d_Tide_shareOut_23 (fun j2 hj2 h => ?_)
      refine lv_astore (lv' := [(4, .ref (ad E ((2 + 3) + 1 + j2))), (0, .ref (ad E 0)), (1, .int x1), (2, .int x2), (3, .int x3)]) hx hb d_Tide_shareOut_24 hl (by decide) rfl (fun ls hl => ?_)
      refine lv_aload hx hb d_Tide_shareOut_26 (lv_at hl 0 rfl) ?_
      refine r_getI C hS (kd_lt (kd_thing (kd_things rfl) hj2) (by decide)) (cel_Thing (kd_thing (kd_things rfl) hj2)) (rfl : cls[3]? = some (R_Thing, T_Thing, 6)) in_Thing 1 (by decide) tw_103 rfl h d_Tide_shareOut_28 (fun v3 h => ?_)
      refine lv_iload_n hx hb d_Tide_shareOut_31 rfl (lv_at hl 2 rfl) ?_
      refine r_icmp_ne (tgt := 48) C h d_Tide_shareOut_32 (by decide) (fun h => ?_) (fun h => ?_)
      · skip
        exact k_Tide_shareOut_j48 C (kd_thing (kd_things rfl) hj2) hc4 ih h hS (lv_sub hl [1, 2, 3, 4, 0] rfl)
      · skip
        refine lv_aload hx hb d_Tide_shareOut_35 (lv_at hl 0 rfl) ?_
        refine r_getI C hS (kd_lt (kd_thing (kd_things rfl) hj2) (by decide)) (cel_Thing (kd_thing (kd_things rfl) hj2)) (rfl : cls[3]? = some (R_Thing, T_Thing, 6)) in_Thing 4 (by decide) tw_113 rfl h d_Tide_shareOut_37 (fun v4 h => ?_)
        refine lv_iconst (v := 1) hx hb d_Tide_shareOut_40 (by decide) ?_
        refine r_icmp_ne (tgt := 48) C h d_Tide_shareOut_41 (by decide) (fun h => ?_) (fun h => ?_)
        · skip
          exact k_Tide_shareOut_j48 C (kd_thing (kd_things rfl) hj2) hc4 ih h hS (lv_sub hl [1, 2, 3, 4, 0] rfl)
        · skip
          refine lv_iconst (v := 1) hx hb d_Tide_shareOut_44 (by decide) ?_
          refine lv_goto (tgt := 49) hx hb d_Tide_shareOut_45 (by decide) ?_
          exact k_Tide_shareOut_j49 C (kd_thing (kd_things rfl) hj2) hc4 ih h hS (lv_sub hl [1, 2, 3, 4, 0] rfl)
set_option maxHeartbeats 4000000 in
set_option maxRecDepth 100000 in
theorem k_Tide_shareOut {l : Launch} {E : En} {p1 : Int32} {X : Mem} {r : Int32} {Y : Mem} (h : f_Tide_shareOut p1 X = some (r, Y)) : Met l y_Tide_shareOut (Cond.code y_Tide_shareOut c_Tide_shareOut 6 (some .int) :: tb) ({ frames := 6, cells := 0, slots := 0, locals := 136 } : Room) (PreC E [.ref (ad E 0), .int p1] X) (PostI E r Y) 0 0 (Ad E) := by
  refine met_of (by decide) (Nat.le_of_ble_eq_true rfl) (fun p e s m below meth c C hS ls hl => ?_)
  replace C : Cx p s m ([.ref (ad E 0), .int p1] : List Value).toArray meth c c_Tide_shareOut 6 "TideLoans" (some .int) E := C
  replace hl : lv_has ls 6 [(0, .ref (ad E 0)), (1, .int p1)] := hl
  obtain ⟨hx, hb, hml, hown, hts, hrt, hlk, hKx⟩ := id C
  unfold f_Tide_shareOut at h
  refine lv_iconst (v := 0) hx hb d_Tide_shareOut_0 (by decide) ?_
  refine lv_istore_n (lv' := [(2, .int (0 : Int32)), (0, .ref (ad E 0)), (1, .int p1)]) hx hb d_Tide_shareOut_1 rfl hl (by decide) rfl (fun ls hl => ?_)
  refine lv_iconst (v := 0) hx hb d_Tide_shareOut_2 (by decide) ?_
  refine lv_istore_n (lv' := [(3, .int (0 : Int32)), (2, .int (0 : Int32)), (0, .ref (ad E 0)), (1, .int p1)]) hx hb d_Tide_shareOut_3 rfl hl (by decide) rfl (fun ls hl => ?_)
  exact k_Tide_shareOut_b4 C _ FU _ _ _ _ _ _ h hS (lv_sub hl [2, 3, 1, 0] rfl)
def I_Tide_sureThen_b12 (p : Program) (l : Launch) (e : Env) (s : State) (m : MethodId) (args : Array Value) (below : List Frame) (meth : Method) (c : Code) (E : En) (r : Int32) (x1 : Int32) (X : Mem) (n : Nat) (tg : Int32) : Prop := ∀ (x2 : Int32) (x3 : Int32) (H : Heap) (locs : List Loc) (ls : Array Slot), it (fun a => f_Tide_sureThen_b12 x1 X a.1 a.2) n (x2, x3) = some tg → Hs E s.heap X H locs → lv_has ls 5 [(0, .ref (ad E 0)), (1, .int x1), (2, .int x2), (3, .int x3)] → W p l e ({ frames := 6, cells := 0, slots := 0, locals := 136 } : Room) s m args below meth c H locs 0 0 (MQ below (PostI E r X) args s 0 0 (Ad E)) (F0 m 12 ls [])
set_option maxHeartbeats 4000000 in
set_option maxRecDepth 100000 in
theorem k_Tide_sureThen_j75 {p : Program} {l : Launch} {e : Env} {s : State} {m : MethodId} {args : Array Value} {below : List Frame} {meth : Method} {c : Code} {E : En} {r : Int32} (C : Cx p s m args meth c c_Tide_sureThen 5 "TideLoans" (some .int) E) {x1 : Int32} {x2 : Int32} {x3 : Int32} {X : Mem} {tg : (Int32 ⊕ (Int32 × Int32))} {n12 : Nat} (hc12 : fin (fun a => f_Tide_sureThen_b12 x1 X a.1 a.2) n12 r tg) (ih12 : I_Tide_sureThen_b12 p l e s m args below meth c E r x1 X n12 r) (h : f_Tide_sureThen_j75 x1 x2 x3 X = some tg) {H : Heap} {locs : List Loc} (hS : Hs E s.heap X H locs) {ls : Array Slot} (hl : lv_has ls 5 [(0, .ref (ad E 0)), (1, .int x1), (2, .int x2), (3, .int x3)]) : W p l e ({ frames := 6, cells := 0, slots := 0, locals := 136 } : Room) s m args below meth c H locs 0 0 (MQ below (PostI E r X) args s 0 0 (Ad E)) (F0 m 75 ls []) := by
  obtain ⟨hx, hb, hml, hown, hts, hrt, hlk, hKx⟩ := id C
  unfold f_Tide_sureThen_j75 at h
  refine r_iinc C (w := 1) (lv' := fun z => [(3, .int z), (0, .ref (ad E 0)), (1, .int x1), (2, .int x2)]) h d_Tide_sureThen_75 hl (k := 3) rfl (by decide) (by decide) (fun _ => rfl) (fun v1 ls h hl => ?_)
  refine lv_goto (tgt := 12) hx hb d_Tide_sureThen_78 (by decide) ?_
  exact ih12 _ _ _ _ _ (lp_next h hc12) hS (lv_sub hl [1, 2, 3, 0] rfl)
set_option maxHeartbeats 4000000 in
set_option maxRecDepth 100000 in
theorem k_Tide_sureThen_b12 {p : Program} {l : Launch} {e : Env} {s : State} {m : MethodId} {args : Array Value} {below : List Frame} {meth : Method} {c : Code} {E : En} {r : Int32} (C : Cx p s m args meth c c_Tide_sureThen 5 "TideLoans" (some .int) E) (x1 : Int32) {X : Mem} : ∀ n, I_Tide_sureThen_b12 p l e s m args below meth c E r x1 X n r := by
  obtain ⟨hx, hb, hml, hown, hts, hrt, hlk, hKx⟩ := id C
  intro n
  induction n with
  | zero => intro x2 x3 H locs ls h; exact it_0 h
  | succ n ih =>
    intro x2 x3 H locs ls h hS hl
    obtain ⟨cc12, h, hc12⟩ := it_el h
    replace h : f_Tide_sureThen_b12 x1 X x2 x3 = some cc12 := h
    unfold f_Tide_sureThen_b12 at h
    refine lv_iload_n hx hb d_Tide_sureThen_12 rfl (lv_at hl 3 rfl) ?_
    refine lv_aload_n hx hb d_Tide_sureThen_13 rfl (lv_at hl 0 rfl) ?_
    refine r_get C hS (by decide) cel_Tide (rfl : cls[5]? = some (R_Tide, T_Tide, 12)) in_Tide 1 (by decide) tw_237 rfl d_Tide_sureThen_14 ?_
    refine r_getI C hS (by decide) (cel_Shore (rfl : kd 2 = 1)) (rfl : cls[1]? = some (R_Shore, T_Shore, 6)) in_Shore 3 (by decide) tw_138 rfl h d_Tide_sureThen_17 (fun v1 h => ?_)
    refine r_icmp_ge (tgt := 81) C h d_Tide_sureThen_20 (by decide) (fun h => ?_) (fun h => ?_)
    · skip
      refine lv_iload_n hx hb d_Tide_sureThen_81 rfl (lv_at hl 2 rfl) ?_
      replace h := lp_ret h hc12
      exact r_iret0 C hS rfl h d_Tide_sureThen_82
    · skip
      refine lv_aload_n hx hb d_Tide_sureThen_23 rfl (lv_at hl 0 rfl) ?_
      refine r_get C hS (by decide) cel_Tide (rfl : cls[5]? = some (R_Tide, T_Tide, 12)) in_Tide 1 (by decide) tw_237 rfl d_Tide_sureThen_24 ?_
      refine r_get C hS (by decide) (cel_Shore (rfl : kd 2 = 1)) (rfl : cls[1]? = some (R_Shore, T_Shore, 6)) in_Shore 2 (by decide) tw_136 rfl d_Tide_sureThen_27 ?_
      refine lv_iload_n hx hb d_Tide_sureThen_30 rfl (lv_at hl 3 rfl) ?_
      refine r_ldT C hS (kd_things rfl) h d_Tide_sureThen_31 (fun j2 hj2 h => ?_)
      refine lv_astore (lv' := [(4, .ref (ad E ((2 + 3) + 1 + j2))), (0, .ref (ad E 0)), (1, .int x1), (2, .int x2), (3, .int x3)]) hx hb d_Tide_sureThen_32 hl (by decide) rfl (fun ls hl => ?_)
      refine lv_aload hx hb d_Tide_sureThen_34 (lv_at hl 0 rfl) ?_
      refine r_getI C hS (kd_lt (kd_thing (kd_things rfl) hj2) (by decide)) (cel_Thing (kd_thing (kd_things rfl) hj2)) (rfl : cls[3]? = some (R_Thing, T_Thing, 6)) in_Thing 1 (by decide) tw_103 rfl h d_Tide_sureThen_36 (fun v3 h => ?_)
      refine lv_iload_n hx hb d_Tide_sureThen_39 rfl (lv_at hl 2 rfl) ?_
      refine r_icmp_ne (tgt := 75) C h d_Tide_sureThen_40 (by decide) (fun h => ?_) (fun h => ?_)
      · skip
        exact k_Tide_sureThen_j75 C hc12 ih h hS (lv_sub hl [1, 2, 3, 4] rfl)
      · skip
        refine lv_aload hx hb d_Tide_sureThen_43 (lv_at hl 0 rfl) ?_
        refine r_getI C hS (kd_lt (kd_thing (kd_things rfl) hj2) (by decide)) (cel_Thing (kd_thing (kd_things rfl) hj2)) (rfl : cls[3]? = some (R_Thing, T_Thing, 6)) in_Thing 4 (by decide) tw_113 rfl h d_Tide_sureThen_45 (fun v4 h => ?_)
        refine lv_iconst (v := 2) hx hb d_Tide_sureThen_48 (by decide) ?_
        refine r_icmp_ne (tgt := 75) C h d_Tide_sureThen_49 (by decide) (fun h => ?_) (fun h => ?_)
        · skip
          exact k_Tide_sureThen_j75 C hc12 ih h hS (lv_sub hl [1, 2, 3, 4] rfl)
        · skip
          refine lv_iload_n hx hb d_Tide_sureThen_52 rfl (lv_at hl 3 rfl) ?_
          refine lv_aload_n hx hb d_Tide_sureThen_53 rfl (lv_at hl 1 rfl) ?_
          refine r_get C hS (by decide) cel_Tide (rfl : cls[5]? = some (R_Tide, T_Tide, 12)) in_Tide 6 (by decide) tw_242 rfl d_Tide_sureThen_54 ?_
          refine lv_iload_n hx hb d_Tide_sureThen_57 rfl (lv_at hl 4 rfl) ?_
          refine r_ldW C hS h d_Tide_sureThen_58 (fun j5 hj5 h => ?_)
          refine lv_aload hx hb d_Tide_sureThen_59 (lv_at hl 0 rfl) ?_
          refine lv_aload_n hx hb d_Tide_sureThen_61 rfl (lv_at hl 1 rfl) ?_
          refine r_get C hS (by decide) cel_Tide (rfl : cls[5]? = some (R_Tide, T_Tide, 12)) in_Tide 1 (by decide) tw_237 rfl d_Tide_sureThen_62 ?_
          refine r_getI C hS (by decide) (cel_Shore (rfl : kd 2 = 1)) (rfl : cls[1]? = some (R_Shore, T_Shore, 6)) in_Shore 5 (by decide) tw_142 rfl h d_Tide_sureThen_65 (fun v6 h => ?_)
          obtain ⟨v7, hr8, h⟩ := bd_el h
          refine c_I hS (c_runV (As := [.ref (ad E ((2 + 3) + 1 + j2)), .int v6]) (rest := [.int x2]) C hS (kd_lt (kd_way hj5) (by decide)) (cel_Way (kd_way hj5)) (rfl : cls[4]? = some (R_Way, T_Way, 5)) (k_Way_brings (l := l) (E := E) (X := X) (kd_way hj5) (kd_thing (kd_things rfl) hj2) hr8) cw_Way_brings ini_Way_brings ins_Way_brings sel_Way_brings tw_448 hd_Way_brings rfl ⟨⟨rfl, rfl⟩, (Nat.le_of_ble_eq_true rfl), (Nat.le_of_ble_eq_true rfl)⟩ ⟨(Nat.le_of_ble_eq_true rfl), (Nat.le_of_ble_eq_true rfl)⟩ hl.1 rfl (Nat.le_of_ble_eq_true rfl) d_Tide_sureThen_68) (fun H locs hS => ?_)
          obtain ⟨v9, hr10, h⟩ := bd_el h
          refine c_I hS (c_runS (As := [.int x2, .int v7]) (rest := []) C hS (k_Tide_filled (l := l) (E := E) (X := X) hr10) cw_Tide_filled ini_Tide_filled sta_Tide_filled tw_453 hd_Tide_filled rfl ⟨⟨rfl, rfl⟩, (Nat.le_of_ble_eq_true rfl), (Nat.le_of_ble_eq_true rfl)⟩ ⟨(Nat.le_of_ble_eq_true rfl), (Nat.le_of_ble_eq_true rfl)⟩ hl.1 rfl (Nat.le_of_ble_eq_true rfl) d_Tide_sureThen_71) (fun H locs hS => ?_)
          refine lv_istore_n (lv' := [(2, .int v9), (4, .ref (ad E ((2 + 3) + 1 + j2))), (0, .ref (ad E 0)), (1, .int x1), (3, .int x3)]) hx hb d_Tide_sureThen_74 rfl hl (by decide) rfl (fun ls hl => ?_)
          exact k_Tide_sureThen_j75 C hc12 ih h hS (lv_sub hl [2, 3, 0, 4] rfl)
set_option maxHeartbeats 4000000 in
set_option maxRecDepth 100000 in
theorem k_Tide_sureThen {l : Launch} {E : En} {p1 : Int32} {X : Mem} {r : Int32} (h : f_Tide_sureThen p1 X = some r) : Met l y_Tide_sureThen (Cond.code y_Tide_sureThen c_Tide_sureThen 5 (some .int) :: tb) ({ frames := 6, cells := 0, slots := 0, locals := 136 } : Room) (PreC E [.ref (ad E 0), .int p1] X) (PostI E r X) 0 0 (Ad E) := by
  refine met_of (by decide) (Nat.le_of_ble_eq_true rfl) (fun p e s m below meth c C hS ls hl => ?_)
  replace C : Cx p s m ([.ref (ad E 0), .int p1] : List Value).toArray meth c c_Tide_sureThen 5 "TideLoans" (some .int) E := C
  replace hl : lv_has ls 5 [(0, .ref (ad E 0)), (1, .int p1)] := hl
  obtain ⟨hx, hb, hml, hown, hts, hrt, hlk, hKx⟩ := id C
  unfold f_Tide_sureThen at h
  refine lv_aload_n hx hb d_Tide_sureThen_0 rfl (lv_at hl 0 rfl) ?_
  refine r_get C hS (by decide) cel_Tide (rfl : cls[5]? = some (R_Tide, T_Tide, 12)) in_Tide 1 (by decide) tw_237 rfl d_Tide_sureThen_1 ?_
  refine r_get C hS (by decide) (cel_Shore (rfl : kd 2 = 1)) (rfl : cls[1]? = some (R_Shore, T_Shore, 6)) in_Shore 1 (by decide) tw_134 rfl d_Tide_sureThen_4 ?_
  refine lv_iload_n hx hb d_Tide_sureThen_7 rfl (lv_at hl 1 rfl) ?_
  refine r_ldI C hS (n := 4) (kd_purses rfl) (by decide) h d_Tide_sureThen_8 (fun v1 h => ?_)
  refine lv_istore_n (lv' := [(2, .int v1), (0, .ref (ad E 0)), (1, .int p1)]) hx hb d_Tide_sureThen_9 rfl hl (by decide) rfl (fun ls hl => ?_)
  refine lv_iconst (v := 0) hx hb d_Tide_sureThen_10 (by decide) ?_
  refine lv_istore_n (lv' := [(3, .int (0 : Int32)), (2, .int v1), (0, .ref (ad E 0)), (1, .int p1)]) hx hb d_Tide_sureThen_11 rfl hl (by decide) rfl (fun ls hl => ?_)
  exact k_Tide_sureThen_b12 C _ FU _ _ _ _ _ h hS (lv_sub hl [2, 3, 1, 0] rfl)
def I_Tide_sharesOf_b4 (p : Program) (l : Launch) (e : Env) (s : State) (m : MethodId) (args : Array Value) (below : List Frame) (meth : Method) (c : Code) (E : En) (r : Int32) (x1 : Int32) (X : Mem) (n : Nat) (tg : Int32) : Prop := ∀ (x2 : Int32) (x3 : Int32) (H : Heap) (locs : List Loc) (ls : Array Slot), it (fun a => f_Tide_sharesOf_b4 x1 X a.1 a.2) n (x2, x3) = some tg → Hs E s.heap X H locs → lv_has ls 4 [(0, .ref (ad E 0)), (1, .int x1), (2, .int x2), (3, .int x3)] → W p l e ({ frames := 0, cells := 0, slots := 0, locals := 0 } : Room) s m args below meth c H locs 0 0 (MQ below (PostI E r X) args s 0 0 (Ad E)) (F0 m 4 ls [])
set_option maxHeartbeats 4000000 in
set_option maxRecDepth 100000 in
theorem k_Tide_sharesOf_j28 {p : Program} {l : Launch} {e : Env} {s : State} {m : MethodId} {args : Array Value} {below : List Frame} {meth : Method} {c : Code} {E : En} {r : Int32} (C : Cx p s m args meth c c_Tide_sharesOf 4 "TideLoans" (some .int) E) {x1 : Int32} {x2 : Int32} {x3 : Int32} {X : Mem} {tg : (Int32 ⊕ (Int32 × Int32))} {n4 : Nat} (hc4 : fin (fun a => f_Tide_sharesOf_b4 x1 X a.1 a.2) n4 r tg) (ih4 : I_Tide_sharesOf_b4 p l e s m args below meth c E r x1 X n4 r) (h : f_Tide_sharesOf_j28 x1 x2 x3 X = some tg) {H : Heap} {locs : List Loc} (hS : Hs E s.heap X H locs) {ls : Array Slot} (hl : lv_has ls 4 [(0, .ref (ad E 0)), (1, .int x1), (2, .int x2), (3, .int x3)]) : W p l e ({ frames := 0, cells := 0, slots := 0, locals := 0 } : Room) s m args below meth c H locs 0 0 (MQ below (PostI E r X) args s 0 0 (Ad E)) (F0 m 28 ls []) := by
  obtain ⟨hx, hb, hml, hown, hts, hrt, hlk, hKx⟩ := id C
  unfold f_Tide_sharesOf_j28 at h
  refine r_iinc C (w := 1) (lv' := fun z => [(3, .int z), (0, .ref (ad E 0)), (1, .int x1), (2, .int x2)]) h d_Tide_sharesOf_28 hl (k := 3) rfl (by decide) (by decide) (fun _ => rfl) (fun v1 ls h hl => ?_)
  refine lv_goto (tgt := 4) hx hb d_Tide_sharesOf_31 (by decide) ?_
  exact ih4 _ _ _ _ _ (lp_next h hc4) hS (lv_sub hl [1, 2, 3, 0] rfl)
set_option maxHeartbeats 4000000 in
set_option maxRecDepth 100000 in
theorem k_Tide_sharesOf_b4 {p : Program} {l : Launch} {e : Env} {s : State} {m : MethodId} {args : Array Value} {below : List Frame} {meth : Method} {c : Code} {E : En} {r : Int32} (C : Cx p s m args meth c c_Tide_sharesOf 4 "TideLoans" (some .int) E) (x1 : Int32) {X : Mem} : ∀ n, I_Tide_sharesOf_b4 p l e s m args below meth c E r x1 X n r := by
  obtain ⟨hx, hb, hml, hown, hts, hrt, hlk, hKx⟩ := id C
  intro n
  induction n with
  | zero => intro x2 x3 H locs ls h; exact it_0 h
  | succ n ih =>
    intro x2 x3 H locs ls h hS hl
    obtain ⟨cc4, h, hc4⟩ := it_el h
    replace h : f_Tide_sharesOf_b4 x1 X x2 x3 = some cc4 := h
    unfold f_Tide_sharesOf_b4 at h
    refine lv_iload_n hx hb d_Tide_sharesOf_4 rfl (lv_at hl 3 rfl) ?_
    refine lv_bipush (v := 10) hx hb d_Tide_sharesOf_5 (by decide) ?_
    refine r_icmp_ge (tgt := 34) C h d_Tide_sharesOf_7 (by decide) (fun h => ?_) (fun h => ?_)
    · skip
      refine lv_iload_n hx hb d_Tide_sharesOf_34 rfl (lv_at hl 2 rfl) ?_
      replace h := lp_ret h hc4
      exact r_iret0 C hS rfl h d_Tide_sharesOf_35
    · skip
      refine lv_iload_n hx hb d_Tide_sharesOf_10 rfl (lv_at hl 1 rfl) ?_
      refine lv_iload_n hx hb d_Tide_sharesOf_11 rfl (lv_at hl 3 rfl) ?_
      refine lv_ishr hx hb d_Tide_sharesOf_12 ?_
      refine lv_iconst (v := 1) hx hb d_Tide_sharesOf_13 (by decide) ?_
      refine lv_iand hx hb d_Tide_sharesOf_14 ?_
      refine lv_iconst (v := 1) hx hb d_Tide_sharesOf_15 (by decide) ?_
      refine r_icmp_ne (tgt := 28) C h d_Tide_sharesOf_16 (by decide) (fun h => ?_) (fun h => ?_)
      · skip
        exact k_Tide_sharesOf_j28 C hc4 ih h hS (lv_sub hl [0, 1, 2, 3] rfl)
      · skip
        refine lv_iload_n hx hb d_Tide_sharesOf_19 rfl (lv_at hl 2 rfl) ?_
        refine lv_aload_n hx hb d_Tide_sharesOf_20 rfl (lv_at hl 0 rfl) ?_
        refine r_get C hS (by decide) cel_Tide (rfl : cls[5]? = some (R_Tide, T_Tide, 12)) in_Tide 7 (by decide) tw_243 rfl d_Tide_sharesOf_21 ?_
        refine lv_iload_n hx hb d_Tide_sharesOf_24 rfl (lv_at hl 3 rfl) ?_
        refine r_ldI C hS (n := 10) rfl (by decide) h d_Tide_sharesOf_25 (fun v1 h => ?_)
        refine lv_iadd hx hb d_Tide_sharesOf_26 ?_
        refine r_top h (fun v2 h => ?_)
        refine lv_istore_n (lv' := [(2, .int v2), (0, .ref (ad E 0)), (1, .int x1), (3, .int x3)]) hx hb d_Tide_sharesOf_27 rfl hl (by decide) rfl (fun ls hl => ?_)
        exact k_Tide_sharesOf_j28 C hc4 ih h hS (lv_sub hl [1, 2, 0, 3] rfl)
set_option maxHeartbeats 4000000 in
set_option maxRecDepth 100000 in
theorem k_Tide_sharesOf {l : Launch} {E : En} {p1 : Int32} {X : Mem} {r : Int32} (h : f_Tide_sharesOf p1 X = some r) : Met l y_Tide_sharesOf (Cond.code y_Tide_sharesOf c_Tide_sharesOf 4 (some .int) :: tb) ({ frames := 0, cells := 0, slots := 0, locals := 0 } : Room) (PreC E [.ref (ad E 0), .int p1] X) (PostI E r X) 0 0 (Ad E) := by
  refine met_of (by decide) (Nat.le_of_ble_eq_true rfl) (fun p e s m below meth c C hS ls hl => ?_)
  replace C : Cx p s m ([.ref (ad E 0), .int p1] : List Value).toArray meth c c_Tide_sharesOf 4 "TideLoans" (some .int) E := C
  replace hl : lv_has ls 4 [(0, .ref (ad E 0)), (1, .int p1)] := hl
  obtain ⟨hx, hb, hml, hown, hts, hrt, hlk, hKx⟩ := id C
  unfold f_Tide_sharesOf at h
  refine lv_iconst (v := 0) hx hb d_Tide_sharesOf_0 (by decide) ?_
  refine lv_istore_n (lv' := [(2, .int (0 : Int32)), (0, .ref (ad E 0)), (1, .int p1)]) hx hb d_Tide_sharesOf_1 rfl hl (by decide) rfl (fun ls hl => ?_)
  refine lv_iconst (v := 0) hx hb d_Tide_sharesOf_2 (by decide) ?_
  refine lv_istore_n (lv' := [(3, .int (0 : Int32)), (2, .int (0 : Int32)), (0, .ref (ad E 0)), (1, .int p1)]) hx hb d_Tide_sharesOf_3 rfl hl (by decide) rfl (fun ls hl => ?_)
  exact k_Tide_sharesOf_b4 C _ FU _ _ _ _ _ h hS (lv_sub hl [2, 3, 1, 0] rfl)
