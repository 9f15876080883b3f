def I_Way_waitForTide_b3 (p : Program) (l : Launch) (e : Env) (s : State) (m : MethodId) (args : Array Value) (below : List Frame) (meth : Method) (c : Code) (E : En) (Y : Mem) (x0 : Nat) (x1 : Int32) (x2 : Int32) (x3 : Int32) (x4 : Int32) (n : Nat) (tg : Mem) : Prop := ∀ (x5 : Int32) (X : Mem) (H : Heap) (locs : List Loc) (ls : Array Slot), it (fun a => f_Way_waitForTide_b3 x0 x1 x2 x3 x4 a.1 a.2) n (x5, X) = some tg → Hs E s.heap X H locs → lv_has ls 6 [(0, .ref (ad E x0)), (1, .int x1), (2, .int x2), (3, .int x3), (4, .int x4), (5, .int x5)] → W p l e ({ frames := 4, cells := 0, slots := 0, locals := 88 } : Room) s m args below meth c H locs 0 0 (MQ below (PostV E Y) args s 0 0 (Ad E)) (F0 m 3 ls [])
set_option maxHeartbeats 4000000 in
set_option maxRecDepth 100000 in
theorem k_Way_waitForTide_j58 {p : Program} {l : Launch} {e : Env} {s : State} {m : MethodId} {args : Array Value} {below : List Frame} {meth : Method} {c : Code} {E : En} {Y : Mem} (C : Cx p s m args meth c c_Way_waitForTide 6 "TideLoans$Way" none E) {x0 : Nat} {x1 : Int32} {x2 : Int32} {x3 : Int32} {x4 : Int32} {x5 : Int32} {X : Mem} {tg : (Mem ⊕ (Int32 × Mem))} (hx0 : kd x0 = 3) {n3 : Nat} (hc3 : fin (fun a => f_Way_waitForTide_b3 x0 x1 x2 x3 x4 a.1 a.2) n3 Y tg) (ih3 : I_Way_waitForTide_b3 p l e s m args below meth c E Y x0 x1 x2 x3 x4 n3 Y) (h : f_Way_waitForTide_j58 x0 x1 x2 x3 x4 x5 X = some tg) {H : Heap} {locs : List Loc} (hS : Hs E s.heap X H locs) {ls : Array Slot} (hl : lv_has ls 6 [(0, .ref (ad E x0)), (1, .int x1), (2, .int x2), (3, .int x3), (4, .int x4), (5, .int x5)]) : W p l e ({ frames := 4, cells := 0, slots := 0, locals := 88 } : Room) s m args below meth c H locs 0 0 (MQ below (PostV E Y) args s 0 0 (Ad E)) (F0 m 58 ls []) := by
  obtain ⟨hx, hb, hml, hown, hts, hrt, hlk, hKx⟩ := id C
  unfold f_Way_waitForTide_j58 at h
  refine r_iinc C (w := 1) (lv' := fun z => [(5, .int z), (0, .ref (ad E x0)), (1, .int x1), (2, .int x2), (3, .int x3), (4, .int x4)]) h d_Way_waitForTide_58 hl (k := 5) rfl (by decide) (by decide) (fun _ => rfl) (fun v1 ls h hl => ?_)
  refine lv_goto (tgt := 3) hx hb d_Way_waitForTide_61 (by decide) ?_
  exact ih3 _ _ _ _ _ (lp_next h hc3) hS (lv_sub hl [1, 2, 3, 4, 5, 0] rfl)
set_option maxHeartbeats 4000000 in
set_option maxRecDepth 100000 in
theorem k_Way_waitForTide_b3 {p : Program} {l : Launch} {e : Env} {s : State} {m : MethodId} {args : Array Value} {below : List Frame} {meth : Method} {c : Code} {E : En} {Y : Mem} (C : Cx p s m args meth c c_Way_waitForTide 6 "TideLoans$Way" none E) (x0 : Nat) (x1 : Int32) (x2 : Int32) (x3 : Int32) (x4 : Int32) (hx0 : kd x0 = 3) : ∀ n, I_Way_waitForTide_b3 p l e s m args below meth c E Y x0 x1 x2 x3 x4 n Y := by
  obtain ⟨hx, hb, hml, hown, hts, hrt, hlk, hKx⟩ := id C
  intro n
  induction n with
  | zero => intro x5 X H locs ls h; exact it_0 h
  | succ n ih =>
    intro x5 X H locs ls h hS hl
    obtain ⟨cc3, h, hc3⟩ := it_el h
    replace h : f_Way_waitForTide_b3 x0 x1 x2 x3 x4 x5 X = some cc3 := h
    unfold f_Way_waitForTide_b3 at h
    refine lv_iload hx hb d_Way_waitForTide_3 (lv_at hl 5 rfl) ?_
    refine lv_iload hx hb d_Way_waitForTide_5 (lv_at hl 4 rfl) ?_
    refine r_icmp_ge (tgt := 64) C h d_Way_waitForTide_7 (by decide) (fun h => ?_) (fun h => ?_)
    · skip
      replace h := lp_ret h hc3
      exact r_vret C hS rfl h d_Way_waitForTide_64
    · skip
      refine lv_iload hx hb d_Way_waitForTide_10 (lv_at hl 5 rfl) ?_
      refine lv_bipush (v := 14) hx hb d_Way_waitForTide_12 (by decide) ?_
      refine r_icmp_ge (tgt := 64) C h d_Way_waitForTide_14 (by decide) (fun h => ?_) (fun h => ?_)
      · skip
        replace h := lp_ret h hc3
        exact r_vret C hS rfl h d_Way_waitForTide_64
      · skip
        refine lv_aload_n hx hb d_Way_waitForTide_17 rfl (lv_at hl 0 rfl) ?_
        refine r_getI C hS (kd_lt hx0 (by decide)) (cel_Way hx0) (rfl : cls[4]? = some (R_Way, T_Way, 5)) in_Way 3 (by decide) tw_202 rfl h d_Way_waitForTide_18 (fun v1 h => ?_)
        refine lv_iconst (v := 1) hx hb d_Way_waitForTide_21 (by decide) ?_
        refine r_icmp_ne (tgt := 64) C h d_Way_waitForTide_22 (by decide) (fun h => ?_) (fun h => ?_)
        · skip
          replace h := lp_ret h hc3
          exact r_vret C hS rfl h d_Way_waitForTide_64
        · skip
          refine lv_iload_n hx hb d_Way_waitForTide_25 rfl (lv_at hl 1 rfl) ?_
          refine lv_iload_n hx hb d_Way_waitForTide_26 rfl (lv_at hl 2 rfl) ?_
          refine lv_iload_n hx hb d_Way_waitForTide_27 rfl (lv_at hl 3 rfl) ?_
          refine lv_iload hx hb d_Way_waitForTide_28 (lv_at hl 5 rfl) ?_
          refine lv_iadd hx hb d_Way_waitForTide_30 ?_
          obtain ⟨v2, hr3, h⟩ := bd_el h
          refine c_I hS (c_runSN (As := [.int x1, .int x2, .int (x3 + x5)]) (rest := []) C hS (k_Tide_isTaken_2 (l := l) (E := E) (X := X) hr3) cw_Tide_isTaken ini_Tide_isTaken sta_Tide_isTaken tw_429 hd_Tide_isTaken rfl ⟨⟨rfl, rfl⟩, (Nat.le_of_ble_eq_true rfl), (Nat.le_of_ble_eq_true rfl)⟩ ⟨(Nat.le_of_ble_eq_true rfl), (Nat.le_of_ble_eq_true rfl)⟩ hl.1 rfl (Nat.le_of_ble_eq_true rfl) d_Way_waitForTide_31) (fun H locs hS => ?_)
          refine r_if_eq (tgt := 58) C h d_Way_waitForTide_34 (by decide) (fun h => ?_) (fun h => ?_)
          · skip
            exact k_Way_waitForTide_j58 C hx0 hc3 ih h hS (lv_sub hl [0, 1, 2, 3, 4, 5] rfl)
          · skip
            refine lv_aload_n hx hb d_Way_waitForTide_37 rfl (lv_at hl 0 rfl) ?_
            refine lv_iconst (v := 2) hx hb d_Way_waitForTide_38 (by decide) ?_
            refine r_putI C hS (kd_lt hx0 (by decide)) (cel_Way hx0) (rfl : cls[4]? = some (R_Way, T_Way, 5)) in_Way ty_Way tyok_Way nm_Way 3 (by decide) tw_202 rfl rfl rfl (Nat.le_of_ble_eq_true rfl) (set_Way_3 hx0) rfl h d_Way_waitForTide_39 (fun X4 H locs hS h => ?_)
            refine lv_aload_n hx hb d_Way_waitForTide_42 rfl (lv_at hl 0 rfl) ?_
            refine lv_iload_n hx hb d_Way_waitForTide_43 rfl (lv_at hl 3 rfl) ?_
            refine lv_iload hx hb d_Way_waitForTide_44 (lv_at hl 5 rfl) ?_
            refine lv_iadd hx hb d_Way_waitForTide_46 ?_
            refine r_putI C hS (kd_lt hx0 (by decide)) (cel_Way hx0) (rfl : cls[4]? = some (R_Way, T_Way, 5)) in_Way ty_Way tyok_Way nm_Way 4 (by decide) tw_204 rfl rfl rfl (Nat.le_of_ble_eq_true rfl) (set_Way_4 hx0) rfl h d_Way_waitForTide_47 (fun X5 H locs hS h => ?_)
            refine lv_aload_n hx hb d_Way_waitForTide_50 rfl (lv_at hl 0 rfl) ?_
            refine lv_iload hx hb d_Way_waitForTide_51 (lv_at hl 5 rfl) ?_
            refine lv_iconst (v := 1) hx hb d_Way_waitForTide_53 (by decide) ?_
            refine lv_iadd hx hb d_Way_waitForTide_54 ?_
            refine r_putI C hS (kd_lt hx0 (by decide)) (cel_Way hx0) (rfl : cls[4]? = some (R_Way, T_Way, 5)) in_Way ty_Way tyok_Way nm_Way 0 (by decide) tw_197 rfl rfl rfl (Nat.le_of_ble_eq_true rfl) (set_Way_0 hx0) rfl h d_Way_waitForTide_55 (fun X6 H locs hS h => ?_)
            exact k_Way_waitForTide_j58 C hx0 hc3 ih h hS (lv_sub hl [0, 1, 2, 3, 4, 5] rfl)
set_option maxHeartbeats 4000000 in
set_option maxRecDepth 100000 in
theorem k_Way_waitForTide {l : Launch} {E : En} {k0 : Nat} {p1 : Int32} {p2 : Int32} {p3 : Int32} {p4 : Int32} {X : Mem} {Y : Mem} (hk0 : kd k0 = 3) (h : f_Way_waitForTide k0 p1 p2 p3 p4 X = some Y) : Met l y_Way_waitForTide (Cond.code y_Way_waitForTide c_Way_waitForTide 6 none :: tb) ({ frames := 4, cells := 0, slots := 0, locals := 88 } : Room) (PreC E [.ref (ad E k0), .int p1, .int p2, .int p3, .int p4] X) (PostV E Y) 0 0 (Ad E) := by
  refine met_of (by decide) (Nat.le_of_ble_eq_true rfl) (fun p e s m below meth c C hS ls hl => ?_)
  replace C : Cx p s m ([.ref (ad E k0), .int p1, .int p2, .int p3, .int p4] : List Value).toArray meth c c_Way_waitForTide 6 "TideLoans$Way" none E := C
  replace hl : lv_has ls 6 [(0, .ref (ad E k0)), (1, .int p1), (2, .int p2), (3, .int p3), (4, .int p4)] := hl
  obtain ⟨hx, hb, hml, hown, hts, hrt, hlk, hKx⟩ := id C
  unfold f_Way_waitForTide at h
  refine lv_iconst (v := 0) hx hb d_Way_waitForTide_0 (by decide) ?_
  refine lv_istore (lv' := [(5, .int (0 : Int32)), (0, .ref (ad E k0)), (1, .int p1), (2, .int p2), (3, .int p3), (4, .int p4)]) hx hb d_Way_waitForTide_1 hl (by decide) rfl (fun ls hl => ?_)
  exact k_Way_waitForTide_b3 C _ _ _ _ _ hk0 FU _ _ _ _ _ h hS (lv_sub hl [1, 2, 3, 4, 5, 0] rfl)
set_option maxHeartbeats 4000000 in
set_option maxRecDepth 100000 in
theorem k_Tide_termOf_0 {l : Launch} {E : En} {p0 : Int32} {X : Mem} {r : Int32} (h : f_Tide_termOf_0 p0 = some r) : Met l y_Tide_termOf (Cond.code y_Tide_termOf c_Tide_termOf 1 (some .int) :: tb) ({ frames := 0, cells := 0, slots := 0, locals := 0 } : Room) (PreC E [.int p0] X) (PostI E r X) 0 0 (Ad E) := by
  refine met_of (by decide) (Nat.le_of_ble_eq_true rfl) (fun p e s m below meth c C hS ls hl => ?_)
  replace C : Cx p s m ([.int p0] : List Value).toArray meth c c_Tide_termOf 1 "TideLoans" (some .int) E := C
  replace hl : lv_has ls 1 [(0, .int p0)] := hl
  obtain ⟨hx, hb, hml, hown, hts, hrt, hlk, hKx⟩ := id C
  unfold f_Tide_termOf_0 at h
  refine lv_iload_n hx hb d_Tide_termOf_0 rfl (lv_at hl 0 rfl) ?_
  refine sw_c (v := 1) (w := 1) (by decide) h (fun hv h => ?_) (fun hn1 h => ?_)
  · refine r_tabIn C hv d_Tide_termOf_1 (by decide) (by decide) rfl (tgt := 36) (by decide) ?_
    refine lv_iconst (v := 0) hx hb d_Tide_termOf_36 (by decide) ?_
    cases h
  refine sw_c (v := 2) (w := 2) (by decide) h (fun hv h => ?_) (fun hn2 h => ?_)
  · refine r_tabIn C hv d_Tide_termOf_1 (by decide) (by decide) rfl (tgt := 44) (by decide) ?_
    refine lv_iconst (v := 0) hx hb d_Tide_termOf_44 (by decide) ?_
    cases h
  refine sw_c (v := 3) (w := 3) (by decide) h (fun hv h => ?_) (fun hn3 h => ?_)
  · refine r_tabIn C hv d_Tide_termOf_1 (by decide) (by decide) rfl (tgt := 49) (by decide) ?_
    refine lv_bipush (v := 28) hx hb d_Tide_termOf_49 (by decide) ?_
    exact r_iret0 C hS rfl h d_Tide_termOf_51
  refine sw_c (v := 4) (w := 4) (by decide) h (fun hv h => ?_) (fun hn4 h => ?_)
  · refine r_tabIn C hv d_Tide_termOf_1 (by decide) (by decide) rfl (tgt := 52) (by decide) ?_
    refine lv_iconst (v := 2) hx hb d_Tide_termOf_52 (by decide) ?_
    refine lv_iconst (v := 1) hx hb d_Tide_termOf_53 (by decide) ?_
    cases h
  refine sw_c (v := 5) (w := 5) (by decide) h (fun hv h => ?_) (fun hn5 h => ?_)
  · refine r_tabIn C hv d_Tide_termOf_1 (by decide) (by decide) rfl (tgt := 59) (by decide) ?_
    refine lv_iconst (v := 2) hx hb d_Tide_termOf_59 (by decide) ?_
    cases h
  refine lv_tableOut (tgt := 67) hx hb d_Tide_termOf_1 (out_e (k := 6) (out_s (k := 5) (k1 := 6) (out_s (k := 4) (k1 := 5) (out_s (k := 3) (k1 := 4) (out_s (k := 2) (k1 := 3) (out_s (k := 1) (k1 := 2) out_0 hn1 (by decide)) hn2 (by decide)) hn3 (by decide)) hn4 (by decide)) hn5 (by decide)) (by decide)) (by decide) ?_
  refine lv_iconst (v := 1) hx hb d_Tide_termOf_67 (by decide) ?_
  exact r_iret0 C hS rfl h d_Tide_termOf_68
set_option maxHeartbeats 4000000 in
set_option maxRecDepth 100000 in
theorem k_Tide_termOf_1 {l : Launch} {E : En} {p0 : Int32} {X : Mem} {r : Int32} (h : f_Tide_termOf_1 p0 = some r) : Met l y_Tide_termOf (Cond.code y_Tide_termOf c_Tide_termOf 1 (some .int) :: tb) ({ frames := 1, cells := 0, slots := 0, locals := 20 } : Room) (PreC E [.int p0] X) (PostI E r X) 0 0 (Ad E) := by
  refine met_of (by decide) (Nat.le_of_ble_eq_true rfl) (fun p e s m below meth c C hS ls hl => ?_)
  replace C : Cx p s m ([.int p0] : List Value).toArray meth c c_Tide_termOf 1 "TideLoans" (some .int) E := C
  replace hl : lv_has ls 1 [(0, .int p0)] := hl
  obtain ⟨hx, hb, hml, hown, hts, hrt, hlk, hKx⟩ := id C
  unfold f_Tide_termOf_1 at h
  refine lv_iload_n hx hb d_Tide_termOf_0 rfl (lv_at hl 0 rfl) ?_
  refine sw_c (v := 1) (w := 1) (by decide) h (fun hv h => ?_) (fun hn1 h => ?_)
  · refine r_tabIn C hv d_Tide_termOf_1 (by decide) (by decide) rfl (tgt := 36) (by decide) ?_
    refine lv_iconst (v := 0) hx hb d_Tide_termOf_36 (by decide) ?_
    obtain ⟨v1, hr2, h⟩ := bd_el h
    refine c_I hS (c_runS (As := [.int (0 : Int32)]) (rest := []) C hS (k_Tide_termOf_0 (l := l) (E := E) (X := X) hr2) cw_Tide_termOf ini_Tide_termOf sta_Tide_termOf tw_350 hd_Tide_termOf rfl ⟨⟨rfl, rfl⟩, (Nat.le_of_ble_eq_true rfl), (Nat.le_of_ble_eq_true rfl)⟩ ⟨(Nat.le_of_ble_eq_true rfl), (Nat.le_of_ble_eq_true rfl)⟩ hl.1 rfl (Nat.le_of_ble_eq_true rfl) d_Tide_termOf_37) (fun H locs hS => ?_)
    refine lv_bipush (v := 7) hx hb d_Tide_termOf_40 (by decide) ?_
    refine lv_iadd hx hb d_Tide_termOf_42 ?_
    exact r_iret0 C hS rfl h d_Tide_termOf_43
  refine sw_c (v := 2) (w := 2) (by decide) h (fun hv h => ?_) (fun hn2 h => ?_)
  · refine r_tabIn C hv d_Tide_termOf_1 (by decide) (by decide) rfl (tgt := 44) (by decide) ?_
    refine lv_iconst (v := 0) hx hb d_Tide_termOf_44 (by decide) ?_
    obtain ⟨v3, hr4, h⟩ := bd_el h
    refine c_I hS (c_runS (As := [.int (0 : Int32)]) (rest := []) C hS (k_Tide_termOf_0 (l := l) (E := E) (X := X) hr4) cw_Tide_termOf ini_Tide_termOf sta_Tide_termOf tw_350 hd_Tide_termOf rfl ⟨⟨rfl, rfl⟩, (Nat.le_of_ble_eq_true rfl), (Nat.le_of_ble_eq_true rfl)⟩ ⟨(Nat.le_of_ble_eq_true rfl), (Nat.le_of_ble_eq_true rfl)⟩ hl.1 rfl (Nat.le_of_ble_eq_true rfl) d_Tide_termOf_45) (fun H locs hS => ?_)
    exact r_iret0 C hS rfl h d_Tide_termOf_48
  refine sw_c (v := 3) (w := 3) (by decide) h (fun hv h => ?_) (fun hn3 h => ?_)
  · refine r_tabIn C hv d_Tide_termOf_1 (by decide) (by decide) rfl (tgt := 49) (by decide) ?_
    refine lv_bipush (v := 28) hx hb d_Tide_termOf_49 (by decide) ?_
    exact r_iret0 C hS rfl h d_Tide_termOf_51
  refine sw_c (v := 4) (w := 4) (by decide) h (fun hv h => ?_) (fun hn4 h => ?_)
  · refine r_tabIn C hv d_Tide_termOf_1 (by decide) (by decide) rfl (tgt := 52) (by decide) ?_
    refine lv_iconst (v := 2) hx hb d_Tide_termOf_52 (by decide) ?_
    refine lv_iconst (v := 1) hx hb d_Tide_termOf_53 (by decide) ?_
    obtain ⟨v5, hr6, h⟩ := bd_el h
    refine c_I hS (c_runS (As := [.int (1 : Int32)]) (rest := [.int (2 : Int32)]) C hS (k_Tide_termOf_0 (l := l) (E := E) (X := X) hr6) cw_Tide_termOf ini_Tide_termOf sta_Tide_termOf tw_350 hd_Tide_termOf rfl ⟨⟨rfl, rfl⟩, (Nat.le_of_ble_eq_true rfl), (Nat.le_of_ble_eq_true rfl)⟩ ⟨(Nat.le_of_ble_eq_true rfl), (Nat.le_of_ble_eq_true rfl)⟩ hl.1 rfl (Nat.le_of_ble_eq_true rfl) d_Tide_termOf_54) (fun H locs hS => ?_)
    refine lv_imul hx hb d_Tide_termOf_57 ?_
    exact r_iret0 C hS rfl h d_Tide_termOf_58
  refine sw_c (v := 5) (w := 5) (by decide) h (fun hv h => ?_) (fun hn5 h => ?_)
  · refine r_tabIn C hv d_Tide_termOf_1 (by decide) (by decide) rfl (tgt := 59) (by decide) ?_
    refine lv_iconst (v := 2) hx hb d_Tide_termOf_59 (by decide) ?_
    obtain ⟨v7, hr8, h⟩ := bd_el h
    refine c_I hS (c_runS (As := [.int (2 : Int32)]) (rest := []) C hS (k_Tide_termOf_0 (l := l) (E := E) (X := X) hr8) cw_Tide_termOf ini_Tide_termOf sta_Tide_termOf tw_350 hd_Tide_termOf rfl ⟨⟨rfl, rfl⟩, (Nat.le_of_ble_eq_true rfl), (Nat.le_of_ble_eq_true rfl)⟩ ⟨(Nat.le_of_ble_eq_true rfl), (Nat.le_of_ble_eq_true rfl)⟩ hl.1 rfl (Nat.le_of_ble_eq_true rfl) d_Tide_termOf_60) (fun H locs hS => ?_)
    refine lv_bipush (v := 14) hx hb d_Tide_termOf_63 (by decide) ?_
    refine lv_iadd hx hb d_Tide_termOf_65 ?_
    exact r_iret0 C hS rfl h d_Tide_termOf_66
  refine lv_tableOut (tgt := 67) hx hb d_Tide_termOf_1 (out_e (k := 6) (out_s (k := 5) (k1 := 6) (out_s (k := 4) (k1 := 5) (out_s (k := 3) (k1 := 4) (out_s (k := 2) (k1 := 3) (out_s (k := 1) (k1 := 2) out_0 hn1 (by decide)) hn2 (by decide)) hn3 (by decide)) hn4 (by decide)) hn5 (by decide)) (by decide)) (by decide) ?_
  refine lv_iconst (v := 1) hx hb d_Tide_termOf_67 (by decide) ?_
  exact r_iret0 C hS rfl h d_Tide_termOf_68
set_option maxHeartbeats 4000000 in
set_option maxRecDepth 100000 in
theorem k_Tide_termOf_2 {l : Launch} {E : En} {p0 : Int32} {X : Mem} {r : Int32} (h : f_Tide_termOf_2 p0 = some r) : Met l y_Tide_termOf (Cond.code y_Tide_termOf c_Tide_termOf 1 (some .int) :: tb) ({ frames := 2, cells := 0, slots := 0, locals := 40 } : Room) (PreC E [.int p0] X) (PostI E r X) 0 0 (Ad E) := by
  refine met_of (by decide) (Nat.le_of_ble_eq_true rfl) (fun p e s m below meth c C hS ls hl => ?_)
  replace C : Cx p s m ([.int p0] : List Value).toArray meth c c_Tide_termOf 1 "TideLoans" (some .int) E := C
  replace hl : lv_has ls 1 [(0, .int p0)] := hl
  obtain ⟨hx, hb, hml, hown, hts, hrt, hlk, hKx⟩ := id C
  unfold f_Tide_termOf_2 at h
  refine lv_iload_n hx hb d_Tide_termOf_0 rfl (lv_at hl 0 rfl) ?_
  refine sw_c (v := 1) (w := 1) (by decide) h (fun hv h => ?_) (fun hn1 h => ?_)
  · refine r_tabIn C hv d_Tide_termOf_1 (by decide) (by decide) rfl (tgt := 36) (by decide) ?_
    refine lv_iconst (v := 0) hx hb d_Tide_termOf_36 (by decide) ?_
    obtain ⟨v1, hr2, h⟩ := bd_el h
    refine c_I hS (c_runS (As := [.int (0 : Int32)]) (rest := []) C hS (k_Tide_termOf_1 (l := l) (E := E) (X := X) hr2) cw_Tide_termOf ini_Tide_termOf sta_Tide_termOf tw_350 hd_Tide_termOf rfl ⟨⟨rfl, rfl⟩, (Nat.le_of_ble_eq_true rfl), (Nat.le_of_ble_eq_true rfl)⟩ ⟨(Nat.le_of_ble_eq_true rfl), (Nat.le_of_ble_eq_true rfl)⟩ hl.1 rfl (Nat.le_of_ble_eq_true rfl) d_Tide_termOf_37) (fun H locs hS => ?_)
    refine lv_bipush (v := 7) hx hb d_Tide_termOf_40 (by decide) ?_
    refine lv_iadd hx hb d_Tide_termOf_42 ?_
    exact r_iret0 C hS rfl h d_Tide_termOf_43
  refine sw_c (v := 2) (w := 2) (by decide) h (fun hv h => ?_) (fun hn2 h => ?_)
  · refine r_tabIn C hv d_Tide_termOf_1 (by decide) (by decide) rfl (tgt := 44) (by decide) ?_
    refine lv_iconst (v := 0) hx hb d_Tide_termOf_44 (by decide) ?_
    obtain ⟨v3, hr4, h⟩ := bd_el h
    refine c_I hS (c_runS (As := [.int (0 : Int32)]) (rest := []) C hS (k_Tide_termOf_1 (l := l) (E := E) (X := X) hr4) cw_Tide_termOf ini_Tide_termOf sta_Tide_termOf tw_350 hd_Tide_termOf rfl ⟨⟨rfl, rfl⟩, (Nat.le_of_ble_eq_true rfl), (Nat.le_of_ble_eq_true rfl)⟩ ⟨(Nat.le_of_ble_eq_true rfl), (Nat.le_of_ble_eq_true rfl)⟩ hl.1 rfl (Nat.le_of_ble_eq_true rfl) d_Tide_termOf_45) (fun H locs hS => ?_)
    exact r_iret0 C hS rfl h d_Tide_termOf_48
  refine sw_c (v := 3) (w := 3) (by decide) h (fun hv h => ?_) (fun hn3 h => ?_)
  · refine r_tabIn C hv d_Tide_termOf_1 (by decide) (by decide) rfl (tgt := 49) (by decide) ?_
    refine lv_bipush (v := 28) hx hb d_Tide_termOf_49 (by decide) ?_
    exact r_iret0 C hS rfl h d_Tide_termOf_51
  refine sw_c (v := 4) (w := 4) (by decide) h (fun hv h => ?_) (fun hn4 h => ?_)
  · refine r_tabIn C hv d_Tide_termOf_1 (by decide) (by decide) rfl (tgt := 52) (by decide) ?_
    refine lv_iconst (v := 2) hx hb d_Tide_termOf_52 (by decide) ?_
    refine lv_iconst (v := 1) hx hb d_Tide_termOf_53 (by decide) ?_
    obtain ⟨v5, hr6, h⟩ := bd_el h
    refine c_I hS (c_runS (As := [.int (1 : Int32)]) (rest := [.int (2 : Int32)]) C hS (k_Tide_termOf_1 (l := l) (E := E) (X := X) hr6) cw_Tide_termOf ini_Tide_termOf sta_Tide_termOf tw_350 hd_Tide_termOf rfl ⟨⟨rfl, rfl⟩, (Nat.le_of_ble_eq_true rfl), (Nat.le_of_ble_eq_true rfl)⟩ ⟨(Nat.le_of_ble_eq_true rfl), (Nat.le_of_ble_eq_true rfl)⟩ hl.1 rfl (Nat.le_of_ble_eq_true rfl) d_Tide_termOf_54) (fun H locs hS => ?_)
    refine lv_imul hx hb d_Tide_termOf_57 ?_
    exact r_iret0 C hS rfl h d_Tide_termOf_58
  refine sw_c (v := 5) (w := 5) (by decide) h (fun hv h => ?_) (fun hn5 h => ?_)
  · refine r_tabIn C hv d_Tide_termOf_1 (by decide) (by decide) rfl (tgt := 59) (by decide) ?_
    refine lv_iconst (v := 2) hx hb d_Tide_termOf_59 (by decide) ?_
    obtain ⟨v7, hr8, h⟩ := bd_el h
    refine c_I hS (c_runS (As := [.int (2 : Int32)]) (rest := []) C hS (k_Tide_termOf_1 (l := l) (E := E) (X := X) hr8) cw_Tide_termOf ini_Tide_termOf sta_Tide_termOf tw_350 hd_Tide_termOf rfl ⟨⟨rfl, rfl⟩, (Nat.le_of_ble_eq_true rfl), (Nat.le_of_ble_eq_true rfl)⟩ ⟨(Nat.le_of_ble_eq_true rfl), (Nat.le_of_ble_eq_true rfl)⟩ hl.1 rfl (Nat.le_of_ble_eq_true rfl) d_Tide_termOf_60) (fun H locs hS => ?_)
    refine lv_bipush (v := 14) hx hb d_Tide_termOf_63 (by decide) ?_
    refine lv_iadd hx hb d_Tide_termOf_65 ?_
    exact r_iret0 C hS rfl h d_Tide_termOf_66
  refine lv_tableOut (tgt := 67) hx hb d_Tide_termOf_1 (out_e (k := 6) (out_s (k := 5) (k1 := 6) (out_s (k := 4) (k1 := 5) (out_s (k := 3) (k1 := 4) (out_s (k := 2) (k1 := 3) (out_s (k := 1) (k1 := 2) out_0 hn1 (by decide)) hn2 (by decide)) hn3 (by decide)) hn4 (by decide)) hn5 (by decide)) (by decide)) (by decide) ?_
  refine lv_iconst (v := 1) hx hb d_Tide_termOf_67 (by decide) ?_
  exact r_iret0 C hS rfl h d_Tide_termOf_68
set_option maxHeartbeats 4000000 in
set_option maxRecDepth 100000 in
theorem k_Tide_springFrom {l : Launch} {E : En} {p0 : Int32} {X : Mem} {r : Int32} (h : f_Tide_springFrom p0 = some r) : Met l y_Tide_springFrom (Cond.code y_Tide_springFrom c_Tide_springFrom 1 (some .int) :: tb) ({ frames := 0, cells := 0, slots := 0, locals := 0 } : Room) (PreC E [.int p0] X) (PostI E r X) 0 0 (Ad E) := by
  refine met_of (by decide) (Nat.le_of_ble_eq_true rfl) (fun p e s m below meth c C hS ls hl => ?_)
  replace C : Cx p s m ([.int p0] : List Value).toArray meth c c_Tide_springFrom 1 "TideLoans" (some .int) E := C
  replace hl : lv_has ls 1 [(0, .int p0)] := hl
  obtain ⟨hx, hb, hml, hown, hts, hrt, hlk, hKx⟩ := id C
  unfold f_Tide_springFrom at h
  refine lv_iload_n hx hb d_Tide_springFrom_0 rfl (lv_at hl 0 rfl) ?_
  refine lv_bipush (v := 14) hx hb d_Tide_springFrom_1 (by decide) ?_
  refine lv_iadd hx hb d_Tide_springFrom_3 ?_
  refine lv_iconst (v := 1) hx hb d_Tide_springFrom_4 (by decide) ?_
  refine lv_isub hx hb d_Tide_springFrom_5 ?_
  refine lv_bipush (v := 14) hx hb d_Tide_springFrom_6 (by decide) ?_
  refine lv_idiv hx hb d_Tide_springFrom_8 (by decide) ?_
  refine lv_bipush (v := 14) hx hb d_Tide_springFrom_9 (by decide) ?_
  refine lv_imul hx hb d_Tide_springFrom_11 ?_
  exact r_iret0 C hS rfl h d_Tide_springFrom_12
set_option maxHeartbeats 4000000 in
set_option maxRecDepth 100000 in
theorem k_Way_waitForSpring {l : Launch} {E : En} {k0 : Nat} {p1 : Int32} {p2 : Int32} {p3 : Int32} {X : Mem} {Y : Mem} (hk0 : kd k0 = 3) (h : f_Way_waitForSpring k0 p1 p2 p3 X = some Y) : Met l y_Way_waitForSpring (Cond.code y_Way_waitForSpring c_Way_waitForSpring 5 none :: tb) ({ frames := 3, cells := 0, slots := 0, locals := 60 } : Room) (PreC E [.ref (ad E k0), .int p1, .int p2, .int p3] X) (PostV E Y) 0 0 (Ad E) := by
  refine met_of (by decide) (Nat.le_of_ble_eq_true rfl) (fun p e s m below meth c C hS ls hl => ?_)
  replace C : Cx p s m ([.ref (ad E k0), .int p1, .int p2, .int p3] : List Value).toArray meth c c_Way_waitForSpring 5 "TideLoans$Way" none E := C
  replace hl : lv_has ls 5 [(0, .ref (ad E k0)), (1, .int p1), (2, .int p2), (3, .int p3)] := hl
  obtain ⟨hx, hb, hml, hown, hts, hrt, hlk, hKx⟩ := id C
  unfold f_Way_waitForSpring at h
  refine lv_iload_n hx hb d_Way_waitForSpring_0 rfl (lv_at hl 2 rfl) ?_
  refine lv_aload_n hx hb d_Way_waitForSpring_1 rfl (lv_at hl 0 rfl) ?_
  refine r_getI C hS (kd_lt hk0 (by decide)) (cel_Way hk0) (rfl : cls[4]? = some (R_Way, T_Way, 5)) in_Way 4 (by decide) tw_204 rfl h d_Way_waitForSpring_2 (fun v1 h => ?_)
  refine lv_iload_n hx hb d_Way_waitForSpring_5 rfl (lv_at hl 1 rfl) ?_
  obtain ⟨v2, hr3, h⟩ := bd_el h
  refine c_I hS (c_runSN (As := [.int p1]) (rest := [.int v1, .int p2]) C hS (k_Tide_termOf_2 (l := l) (E := E) (X := X) hr3) cw_Tide_termOf ini_Tide_termOf sta_Tide_termOf tw_437 hd_Tide_termOf rfl ⟨⟨rfl, rfl⟩, (Nat.le_of_ble_eq_true rfl), (Nat.le_of_ble_eq_true rfl)⟩ ⟨(Nat.le_of_ble_eq_true rfl), (Nat.le_of_ble_eq_true rfl)⟩ hl.1 rfl (Nat.le_of_ble_eq_true rfl) d_Way_waitForSpring_6) (fun H locs hS => ?_)
  refine lv_iadd hx hb d_Way_waitForSpring_9 ?_
  refine va_mmax hx hb (hml.trans hl.1.symm) hown (hts _ tw_438) (hts _ tw_439) (hts _ tw_71) (hts _ code_va_mmax) (Nat.le_of_ble_eq_true rfl) (Nat.le_of_ble_eq_true rfl) (Nat.le_of_ble_eq_true rfl) (Nat.le_of_ble_eq_true rfl) d_Way_waitForSpring_10 ?_
  refine r_top h (fun v4 h => ?_)
  obtain ⟨v5, hr6, h⟩ := bd_el h
  refine c_I hS (c_runSN (As := [.int v4]) (rest := []) C hS (k_Tide_springFrom (l := l) (E := E) (X := X) hr6) cw_Tide_springFrom ini_Tide_springFrom sta_Tide_springFrom tw_441 hd_Tide_springFrom rfl ⟨⟨rfl, rfl⟩, (Nat.le_of_ble_eq_true rfl), (Nat.le_of_ble_eq_true rfl)⟩ ⟨(Nat.le_of_ble_eq_true rfl), (Nat.le_of_ble_eq_true rfl)⟩ hl.1 rfl (Nat.le_of_ble_eq_true rfl) d_Way_waitForSpring_13) (fun H locs hS => ?_)
  refine lv_istore (lv' := [(4, .int v5), (0, .ref (ad E k0)), (1, .int p1), (2, .int p2), (3, .int p3)]) hx hb d_Way_waitForSpring_16 hl (by decide) rfl (fun ls hl => ?_)
  refine lv_iload hx hb d_Way_waitForSpring_18 (lv_at hl 0 rfl) ?_
  refine lv_iload_n hx hb d_Way_waitForSpring_20 rfl (lv_at hl 3 rfl) ?_
  refine lv_isub hx hb d_Way_waitForSpring_21 ?_
  refine lv_iload_n hx hb d_Way_waitForSpring_22 rfl (lv_at hl 4 rfl) ?_
  refine r_icmp_ge (tgt := 52) C h d_Way_waitForSpring_23 (by decide) (fun h => ?_) (fun h => ?_)
  · skip
    exact r_vret C hS rfl h d_Way_waitForSpring_52
  · skip
    refine lv_aload_n hx hb d_Way_waitForSpring_26 rfl (lv_at hl 1 rfl) ?_
    refine lv_iconst (v := 0) hx hb d_Way_waitForSpring_27 (by decide) ?_
    refine r_putI C hS (kd_lt hk0 (by decide)) (cel_Way hk0) (rfl : cls[4]? = some (R_Way, T_Way, 5)) in_Way ty_Way tyok_Way nm_Way 3 (by decide) tw_202 rfl rfl rfl (Nat.le_of_ble_eq_true rfl) (set_Way_3 hk0) rfl h d_Way_waitForSpring_28 (fun X7 H locs hS h => ?_)
    refine lv_aload_n hx hb d_Way_waitForSpring_31 rfl (lv_at hl 1 rfl) ?_
    refine lv_iload hx hb d_Way_waitForSpring_32 (lv_at hl 0 rfl) ?_
    refine lv_iload_n hx hb d_Way_waitForSpring_34 rfl (lv_at hl 3 rfl) ?_
    refine lv_isub hx hb d_Way_waitForSpring_35 ?_
    refine lv_iconst (v := 1) hx hb d_Way_waitForSpring_36 (by decide) ?_
    refine lv_iadd hx hb d_Way_waitForSpring_37 ?_
    refine r_putI C hS (kd_lt hk0 (by decide)) (cel_Way hk0) (rfl : cls[4]? = some (R_Way, T_Way, 5)) in_Way ty_Way tyok_Way nm_Way 1 (by decide) tw_199 rfl rfl rfl (Nat.le_of_ble_eq_true rfl) (set_Way_1 hk0) rfl h d_Way_waitForSpring_38 (fun X8 H locs hS h => ?_)
    refine lv_aload_n hx hb d_Way_waitForSpring_41 rfl (lv_at hl 1 rfl) ?_
    refine lv_iload hx hb d_Way_waitForSpring_42 (lv_at hl 0 rfl) ?_
    refine lv_aload_n hx hb d_Way_waitForSpring_44 rfl (lv_at hl 1 rfl) ?_
    refine r_getI C hS (kd_lt hk0 (by decide)) (cel_Way hk0) (rfl : cls[4]? = some (R_Way, T_Way, 5)) in_Way 4 (by decide) tw_204 rfl h d_Way_waitForSpring_45 (fun v9 h => ?_)
    refine lv_isub hx hb d_Way_waitForSpring_48 ?_
    refine r_putI C hS (kd_lt hk0 (by decide)) (cel_Way hk0) (rfl : cls[4]? = some (R_Way, T_Way, 5)) in_Way ty_Way tyok_Way nm_Way 2 (by decide) tw_201 rfl rfl rfl (Nat.le_of_ble_eq_true rfl) (set_Way_2 hk0) rfl h d_Way_waitForSpring_49 (fun X10 H locs hS h => ?_)
    exact r_vret C hS rfl h d_Way_waitForSpring_52
set_option maxHeartbeats 4000000 in
set_option maxRecDepth 100000 in
theorem k_Way_follow_j51 {p : Program} {l : Launch} {e : Env} {s : State} {m : MethodId} {args : Array Value} {below : List Frame} {meth : Method} {c : Code} {E : En} {Y : Mem} (C : Cx p s m args meth c c_Way_follow 5 "TideLoans$Way" none E) {x0 : Nat} {x1 : Nat} {x3 : Int32} {x4 : Int32} {X : Mem} (hx0 : kd x0 = 3) (hx1 : kd x1 = 2) (h : f_Way_follow_j51 x0 x1 x3 x4 X = some Y) {H : Heap} {locs : List Loc} (hS : Hs E s.heap X H locs) {ls : Array Slot} (hl : lv_has ls 5 [(0, .ref (ad E x0)), (1, .ref (ad E x1)), (3, .int x3), (4, .int x4)]) : W p l e ({ frames := 5, cells := 0, slots := 0, locals := 113 } : Room) s m args below meth c H locs 0 0 (MQ below (PostV E Y) args s 0 0 (Ad E)) (F0 m 51 ls []) := by
  obtain ⟨hx, hb, hml, hown, hts, hrt, hlk, hKx⟩ := id C
  unfold f_Way_follow_j51 at h
  refine lv_aload_n hx hb d_Way_follow_51 rfl (lv_at hl 0 rfl) ?_
  refine r_getI C hS (kd_lt hx0 (by decide)) (cel_Way hx0) (rfl : cls[4]? = some (R_Way, T_Way, 5)) in_Way 3 (by decide) tw_202 rfl h d_Way_follow_52 (fun v1 h => ?_)
  refine lv_iconst (v := 2) hx hb d_Way_follow_55 (by decide) ?_
  refine r_icmp_ne (tgt := 70) C h d_Way_follow_56 (by decide) (fun h => ?_) (fun h => ?_)
  · skip
    exact r_vret C hS rfl h d_Way_follow_70
  · skip
    refine lv_aload_n hx hb d_Way_follow_59 rfl (lv_at hl 0 rfl) ?_
    refine lv_aload_n hx hb d_Way_follow_60 rfl (lv_at hl 1 rfl) ?_
    refine r_getI C hS (kd_lt hx1 (by decide)) (cel_Thing hx1) (rfl : cls[3]? = some (R_Thing, T_Thing, 6)) in_Thing 0 (by decide) tw_100 rfl h d_Way_follow_61 (fun v2 h => ?_)
    refine lv_iload_n hx hb d_Way_follow_64 rfl (lv_at hl 2 rfl) ?_
    refine lv_iload hx hb d_Way_follow_65 (lv_at hl 3 rfl) ?_
    obtain ⟨X4, hr3, h⟩ := bd_el h
    refine c_V hS (c_runV (As := [.int v2, .int x3, .int x4]) (rest := []) C hS (kd_lt hx0 (by decide)) (cel_Way hx0) (rfl : cls[4]? = some (R_Way, T_Way, 5)) (k_Way_waitForSpring (l := l) (E := E) (X := X) hx0 hr3) cw_Way_waitForSpring ini_Way_waitForSpring ins_Way_waitForSpring sel_Way_waitForSpring tw_433 hd_Way_waitForSpring rfl ⟨⟨rfl, rfl⟩, (Nat.le_of_ble_eq_true rfl), (Nat.le_of_ble_eq_true rfl)⟩ ⟨(Nat.le_of_ble_eq_true rfl), (Nat.le_of_ble_eq_true rfl)⟩ hl.1 rfl (Nat.le_of_ble_eq_true rfl) d_Way_follow_67) (fun H locs hS => ?_)
    exact r_vret C hS rfl h d_Way_follow_70
set_option maxHeartbeats 4000000 in
set_option maxRecDepth 100000 in
theorem k_Way_follow {l : Launch} {E : En} {k0 : Nat} {k1 : Nat} {p2 : Int32} {p3 : Int32} {p4 : Int32} {X : Mem} {Y : Mem} (hk0 : kd k0 = 3) (hk1 : kd k1 = 2) (h : f_Way_follow k0 k1 p2 p3 p4 X = some Y) : Met l y_Way_follow (Cond.code y_Way_follow c_Way_follow 5 none :: tb) ({ frames := 5, cells := 0, slots := 0, locals := 113 } : Room) (PreC E [.ref (ad E k0), .ref (ad E k1), .int p2, .int p3, .int p4] X) (PostV E Y) 0 0 (Ad E) := by
  refine met_of (by decide) (Nat.le_of_ble_eq_true rfl) (fun p e s m below meth c C hS ls hl => ?_)
  replace C : Cx p s m ([.ref (ad E k0), .ref (ad E k1), .int p2, .int p3, .int p4] : List Value).toArray meth c c_Way_follow 5 "TideLoans$Way" none E := C
  replace hl : lv_has ls 5 [(0, .ref (ad E k0)), (1, .ref (ad E k1)), (2, .int p2), (3, .int p3), (4, .int p4)] := hl
  obtain ⟨hx, hb, hml, hown, hts, hrt, hlk, hKx⟩ := id C
  unfold f_Way_follow at h
  refine lv_aload_n hx hb d_Way_follow_0 rfl (lv_at hl 0 rfl) ?_
  refine lv_iconst (v := 0) hx hb d_Way_follow_1 (by decide) ?_
  refine r_putI C hS (kd_lt hk0 (by decide)) (cel_Way hk0) (rfl : cls[4]? = some (R_Way, T_Way, 5)) in_Way ty_Way tyok_Way nm_Way 0 (by decide) tw_197 rfl rfl rfl (Nat.le_of_ble_eq_true rfl) (set_Way_0 hk0) rfl h d_Way_follow_2 (fun X1 H locs hS h => ?_)
  refine lv_aload_n hx hb d_Way_follow_5 rfl (lv_at hl 0 rfl) ?_
  refine lv_iconst (v := 0) hx hb d_Way_follow_6 (by decide) ?_
  refine r_putI C hS (kd_lt hk0 (by decide)) (cel_Way hk0) (rfl : cls[4]? = some (R_Way, T_Way, 5)) in_Way ty_Way tyok_Way nm_Way 1 (by decide) tw_199 rfl rfl rfl (Nat.le_of_ble_eq_true rfl) (set_Way_1 hk0) rfl h d_Way_follow_7 (fun X2 H locs hS h => ?_)
  refine lv_aload_n hx hb d_Way_follow_10 rfl (lv_at hl 0 rfl) ?_
  refine lv_iconst (v := 0) hx hb d_Way_follow_11 (by decide) ?_
  refine r_putI C hS (kd_lt hk0 (by decide)) (cel_Way hk0) (rfl : cls[4]? = some (R_Way, T_Way, 5)) in_Way ty_Way tyok_Way nm_Way 2 (by decide) tw_201 rfl rfl rfl (Nat.le_of_ble_eq_true rfl) (set_Way_2 hk0) rfl h d_Way_follow_12 (fun X3 H locs hS h => ?_)
  refine lv_aload_n hx hb d_Way_follow_15 rfl (lv_at hl 0 rfl) ?_
  refine lv_aload_n hx hb d_Way_follow_16 rfl (lv_at hl 1 rfl) ?_
  refine r_getI C hS (kd_lt hk1 (by decide)) (cel_Thing hk1) (rfl : cls[3]? = some (R_Thing, T_Thing, 6)) in_Thing 4 (by decide) tw_110 rfl h d_Way_follow_17 (fun v4 h => ?_)
  refine r_putI C hS (kd_lt hk0 (by decide)) (cel_Way hk0) (rfl : cls[4]? = some (R_Way, T_Way, 5)) in_Way ty_Way tyok_Way nm_Way 3 (by decide) tw_202 rfl rfl rfl (Nat.le_of_ble_eq_true rfl) (set_Way_3 hk0) rfl h d_Way_follow_20 (fun X5 H locs hS h => ?_)
  refine lv_aload_n hx hb d_Way_follow_23 rfl (lv_at hl 0 rfl) ?_
  refine lv_aload_n hx hb d_Way_follow_24 rfl (lv_at hl 1 rfl) ?_
  refine r_getI C hS (kd_lt hk1 (by decide)) (cel_Thing hk1) (rfl : cls[3]? = some (R_Thing, T_Thing, 6)) in_Thing 5 (by decide) tw_114 rfl h d_Way_follow_25 (fun v6 h => ?_)
  refine r_putI C hS (kd_lt hk0 (by decide)) (cel_Way hk0) (rfl : cls[4]? = some (R_Way, T_Way, 5)) in_Way ty_Way tyok_Way nm_Way 4 (by decide) tw_204 rfl rfl rfl (Nat.le_of_ble_eq_true rfl) (set_Way_4 hk0) rfl h d_Way_follow_28 (fun X7 H locs hS h => ?_)
  refine lv_aload_n hx hb d_Way_follow_31 rfl (lv_at hl 0 rfl) ?_
  refine r_getI C hS (kd_lt hk0 (by decide)) (cel_Way hk0) (rfl : cls[4]? = some (R_Way, T_Way, 5)) in_Way 3 (by decide) tw_202 rfl h d_Way_follow_32 (fun v8 h => ?_)
  refine lv_iconst (v := 1) hx hb d_Way_follow_35 (by decide) ?_
  refine r_icmp_ne (tgt := 51) C h d_Way_follow_36 (by decide) (fun h => ?_) (fun h => ?_)
  · skip
    exact k_Way_follow_j51 C hk0 hk1 h hS (lv_sub hl [0, 1, 3, 4] rfl)
  · skip
    refine lv_aload_n hx hb d_Way_follow_39 rfl (lv_at hl 0 rfl) ?_
    refine lv_aload_n hx hb d_Way_follow_40 rfl (lv_at hl 1 rfl) ?_
    refine r_getI C hS (kd_lt hk1 (by decide)) (cel_Thing hk1) (rfl : cls[3]? = some (R_Thing, T_Thing, 6)) in_Thing 0 (by decide) tw_100 rfl h d_Way_follow_41 (fun v9 h => ?_)
    refine lv_iload_n hx hb d_Way_follow_44 rfl (lv_at hl 2 rfl) ?_
    refine lv_iload_n hx hb d_Way_follow_45 rfl (lv_at hl 3 rfl) ?_
    refine lv_iload hx hb d_Way_follow_46 (lv_at hl 4 rfl) ?_
    obtain ⟨X11, hr10, h⟩ := bd_el h
    refine c_V hS (c_runV (As := [.int v9, .int p2, .int p3, .int p4]) (rest := []) C hS (kd_lt hk0 (by decide)) (cel_Way hk0) (rfl : cls[4]? = some (R_Way, T_Way, 5)) (k_Way_waitForTide (l := l) (E := E) (X := X7) hk0 hr10) cw_Way_waitForTide ini_Way_waitForTide ins_Way_waitForTide sel_Way_waitForTide tw_425 hd_Way_waitForTide rfl ⟨⟨rfl, rfl⟩, (Nat.le_of_ble_eq_true rfl), (Nat.le_of_ble_eq_true rfl)⟩ ⟨(Nat.le_of_ble_eq_true rfl), (Nat.le_of_ble_eq_true rfl)⟩ hl.1 rfl (Nat.le_of_ble_eq_true rfl) d_Way_follow_48) (fun H locs hS => ?_)
    exact k_Way_follow_j51 C hk0 hk1 h hS (lv_sub hl [0, 1, 3, 4] rfl)
set_option maxHeartbeats 4000000 in
set_option maxRecDepth 100000 in
theorem k_Tide_moonOf {l : Launch} {E : En} {p0 : Int32} {X : Mem} {r : Int32} (h : f_Tide_moonOf p0 = some r) : Met l y_Tide_moonOf (Cond.code y_Tide_moonOf c_Tide_moonOf 1 (some .int) :: tb) ({ frames := 0, cells := 0, slots := 0, locals := 0 } : Room) (PreC E [.int p0] X) (PostI E r X) 0 0 (Ad E) := by
  refine met_of (by decide) (Nat.le_of_ble_eq_true rfl) (fun p e s m below meth c C hS ls hl => ?_)
  replace C : Cx p s m ([.int p0] : List Value).toArray meth c c_Tide_moonOf 1 "TideLoans" (some .int) E := C
  replace hl : lv_has ls 1 [(0, .int p0)] := hl
  obtain ⟨hx, hb, hml, hown, hts, hrt, hlk, hKx⟩ := id C
  unfold f_Tide_moonOf at h
  refine lv_iload_n hx hb d_Tide_moonOf_0 rfl (lv_at hl 0 rfl) ?_
  refine lv_bipush (v := 28) hx hb d_Tide_moonOf_1 (by decide) ?_
  refine lv_irem hx hb d_Tide_moonOf_3 (by decide) ?_
  exact r_iret0 C hS rfl h d_Tide_moonOf_4
set_option maxHeartbeats 4000000 in
set_option maxRecDepth 100000 in
theorem k_Tide_broughtAs_0 {l : Launch} {E : En} {p0 : Int32} {p1 : Int64} {p3 : Int32} {X : Mem} {r : Int64} (h : f_Tide_broughtAs_0 p0 p1 p3 = some r) : Met l y_Tide_broughtAs (Cond.code y_Tide_broughtAs c_Tide_broughtAs 4 (some .long) :: tb) ({ frames := 1, cells := 0, slots := 0, locals := 20 } : Room) (PreC E [.int p0, .long p1, .int p3] X) (PostL E r X) 0 0 (Ad E) := by
  refine met_of (by decide) (Nat.le_of_ble_eq_true rfl) (fun p e s m below meth c C hS ls hl => ?_)
  replace C : Cx p s m ([.int p0, .long p1, .int p3] : List Value).toArray meth c c_Tide_broughtAs 4 "TideLoans" (some .long) E := C
  replace hl : lv_has ls 4 [(0, .int p0), (1, .long p1), (3, .int p3)] := hl
  obtain ⟨hx, hb, hml, hown, hts, hrt, hlk, hKx⟩ := id C
  unfold f_Tide_broughtAs_0 at h
  refine lv_iload_n hx hb d_Tide_broughtAs_0 rfl (lv_at hl 0 rfl) ?_
  refine sw_c (v := 1) (w := 1) (by decide) h (fun hv h => ?_) (fun hn1 h => ?_)
  · refine r_tabIn C hv d_Tide_broughtAs_1 (by decide) (by decide) rfl (tgt := 36) (by decide) ?_
    refine lv_iconst (v := 0) hx hb d_Tide_broughtAs_36 (by decide) ?_
    refine lv_lload_n hx hb d_Tide_broughtAs_37 rfl (lv_at hl 1 rfl) ?_
    refine lv_iload_n hx hb d_Tide_broughtAs_38 rfl (lv_at hl 2 rfl) ?_
    cases h
  refine sw_c (v := 2) (w := 2) (by decide) h (fun hv h => ?_) (fun hn2 h => ?_)
  · refine r_tabIn C hv d_Tide_broughtAs_1 (by decide) (by decide) rfl (tgt := 47) (by decide) ?_
    refine lv_iconst (v := 0) hx hb d_Tide_broughtAs_47 (by decide) ?_
    refine lv_lload_n hx hb d_Tide_broughtAs_48 rfl (lv_at hl 1 rfl) ?_
    refine lv_iload_n hx hb d_Tide_broughtAs_49 rfl (lv_at hl 2 rfl) ?_
    cases h
  refine sw_c (v := 3) (w := 3) (by decide) h (fun hv h => ?_) (fun hn3 h => ?_)
  · refine r_tabIn C hv d_Tide_broughtAs_1 (by decide) (by decide) rfl (tgt := 58) (by decide) ?_
    refine lv_iload_n hx hb d_Tide_broughtAs_58 rfl (lv_at hl 2 rfl) ?_
    obtain ⟨v1, hr2, h⟩ := bd_el h
    refine c_I hS (c_runS (As := [.int p3]) (rest := []) C hS (k_Tide_moonOf (l := l) (E := E) (X := X) hr2) cw_Tide_moonOf ini_Tide_moonOf sta_Tide_moonOf tw_308 hd_Tide_moonOf rfl ⟨⟨rfl, rfl⟩, (Nat.le_of_ble_eq_true rfl), (Nat.le_of_ble_eq_true rfl)⟩ ⟨(Nat.le_of_ble_eq_true rfl), (Nat.le_of_ble_eq_true rfl)⟩ hl.1 rfl (Nat.le_of_ble_eq_true rfl) d_Tide_broughtAs_59) (fun H locs hS => ?_)
    refine lv_bipush (v := 14) hx hb d_Tide_broughtAs_62 (by decide) ?_
    refine r_icmp_ne (tgt := 71) C h d_Tide_broughtAs_64 (by decide) (fun h => ?_) (fun h => ?_)
    · skip
      refine lv_iconst (v := 0) hx hb d_Tide_broughtAs_71 (by decide) ?_
      refine lv_lload_n hx hb d_Tide_broughtAs_72 rfl (lv_at hl 1 rfl) ?_
      refine lv_iload_n hx hb d_Tide_broughtAs_73 rfl (lv_at hl 2 rfl) ?_
      cases h
    · skip
      refine lv_lconst (v := 0) hx hb d_Tide_broughtAs_67 (by decide) ?_
      refine lv_goto (tgt := 77) hx hb d_Tide_broughtAs_68 (by decide) ?_
      exact r_lret0 C hS rfl h d_Tide_broughtAs_77
  refine sw_c (v := 4) (w := 4) (by decide) h (fun hv h => ?_) (fun hn4 h => ?_)
  · refine r_tabIn C hv d_Tide_broughtAs_1 (by decide) (by decide) rfl (tgt := 78) (by decide) ?_
    refine lv_ldc2 (v := 2) hx hb hown (hts _ tw_366) d_Tide_broughtAs_78 ?_
    refine lv_iconst (v := 1) hx hb d_Tide_broughtAs_81 (by decide) ?_
    refine lv_lload_n hx hb d_Tide_broughtAs_82 rfl (lv_at hl 1 rfl) ?_
    refine lv_iload_n hx hb d_Tide_broughtAs_83 rfl (lv_at hl 2 rfl) ?_
    cases h
  refine sw_c (v := 5) (w := 5) (by decide) h (fun hv h => ?_) (fun hn5 h => ?_)
  · refine r_tabIn C hv d_Tide_broughtAs_1 (by decide) (by decide) rfl (tgt := 89) (by decide) ?_
    refine lv_iconst (v := 2) hx hb d_Tide_broughtAs_89 (by decide) ?_
    refine lv_lload_n hx hb d_Tide_broughtAs_90 rfl (lv_at hl 1 rfl) ?_
    refine lv_iload_n hx hb d_Tide_broughtAs_91 rfl (lv_at hl 2 rfl) ?_
    cases h
  refine lv_tableOut (tgt := 100) hx hb d_Tide_broughtAs_1 (out_e (k := 6) (out_s (k := 5) (k1 := 6) (out_s (k := 4) (k1 := 5) (out_s (k := 3) (k1 := 4) (out_s (k := 2) (k1 := 3) (out_s (k := 1) (k1 := 2) out_0 hn1 (by decide)) hn2 (by decide)) hn3 (by decide)) hn4 (by decide)) hn5 (by decide)) (by decide)) (by decide) ?_
  refine lv_lload_n hx hb d_Tide_broughtAs_100 rfl (lv_at hl 1 rfl) ?_
  exact r_lret0 C hS rfl h d_Tide_broughtAs_101
set_option maxHeartbeats 4000000 in
set_option maxRecDepth 100000 in
theorem k_Tide_broughtAs_1 {l : Launch} {E : En} {p0 : Int32} {p1 : Int64} {p3 : Int32} {X : Mem} {r : Int64} (h : f_Tide_broughtAs_1 p0 p1 p3 = some r) : Met l y_Tide_broughtAs (Cond.code y_Tide_broughtAs c_Tide_broughtAs 4 (some .long) :: tb) ({ frames := 2, cells := 0, slots := 0, locals := 43 } : Room) (PreC E [.int p0, .long p1, .int p3] X) (PostL E r X) 0 0 (Ad E) := by
  refine met_of (by decide) (Nat.le_of_ble_eq_true rfl) (fun p e s m below meth c C hS ls hl => ?_)
  replace C : Cx p s m ([.int p0, .long p1, .int p3] : List Value).toArray meth c c_Tide_broughtAs 4 "TideLoans" (some .long) E := C
  replace hl : lv_has ls 4 [(0, .int p0), (1, .long p1), (3, .int p3)] := hl
  obtain ⟨hx, hb, hml, hown, hts, hrt, hlk, hKx⟩ := id C
  unfold f_Tide_broughtAs_1 at h
  refine lv_iload_n hx hb d_Tide_broughtAs_0 rfl (lv_at hl 0 rfl) ?_
  refine sw_c (v := 1) (w := 1) (by decide) h (fun hv h => ?_) (fun hn1 h => ?_)
  · refine r_tabIn C hv d_Tide_broughtAs_1 (by decide) (by decide) rfl (tgt := 36) (by decide) ?_
    refine lv_iconst (v := 0) hx hb d_Tide_broughtAs_36 (by decide) ?_
    refine lv_lload_n hx hb d_Tide_broughtAs_37 rfl (lv_at hl 1 rfl) ?_
    refine lv_iload_n hx hb d_Tide_broughtAs_38 rfl (lv_at hl 2 rfl) ?_
    obtain ⟨v1, hr2, h⟩ := bd_el h
    refine c_L hS (c_runS (As := [.int (0 : Int32), .long p1, .int p3]) (rest := []) C hS (k_Tide_broughtAs_0 (l := l) (E := E) (X := X) hr2) cw_Tide_broughtAs ini_Tide_broughtAs sta_Tide_broughtAs tw_362 hd_Tide_broughtAs rfl ⟨⟨rfl, rfl⟩, (Nat.le_of_ble_eq_true rfl), (Nat.le_of_ble_eq_true rfl)⟩ ⟨(Nat.le_of_ble_eq_true rfl), (Nat.le_of_ble_eq_true rfl)⟩ hl.1 rfl (Nat.le_of_ble_eq_true rfl) d_Tide_broughtAs_39) (fun H locs hS => ?_)
    refine lv_ldc2 (v := 5) hx hb hown (hts _ tw_365) d_Tide_broughtAs_42 ?_
    refine lv_ladd hx hb d_Tide_broughtAs_45 ?_
    exact r_lret0 C hS rfl h d_Tide_broughtAs_46
  refine sw_c (v := 2) (w := 2) (by decide) h (fun hv h => ?_) (fun hn2 h => ?_)
  · refine r_tabIn C hv d_Tide_broughtAs_1 (by decide) (by decide) rfl (tgt := 47) (by decide) ?_
    refine lv_iconst (v := 0) hx hb d_Tide_broughtAs_47 (by decide) ?_
    refine lv_lload_n hx hb d_Tide_broughtAs_48 rfl (lv_at hl 1 rfl) ?_
    refine lv_iload_n hx hb d_Tide_broughtAs_49 rfl (lv_at hl 2 rfl) ?_
    obtain ⟨v3, hr4, h⟩ := bd_el h
    refine c_L hS (c_runS (As := [.int (0 : Int32), .long p1, .int p3]) (rest := []) C hS (k_Tide_broughtAs_0 (l := l) (E := E) (X := X) hr4) cw_Tide_broughtAs ini_Tide_broughtAs sta_Tide_broughtAs tw_362 hd_Tide_broughtAs rfl ⟨⟨rfl, rfl⟩, (Nat.le_of_ble_eq_true rfl), (Nat.le_of_ble_eq_true rfl)⟩ ⟨(Nat.le_of_ble_eq_true rfl), (Nat.le_of_ble_eq_true rfl)⟩ hl.1 rfl (Nat.le_of_ble_eq_true rfl) d_Tide_broughtAs_50) (fun H locs hS => ?_)
    refine lv_ldc2 (v := 2) hx hb hown (hts _ tw_366) d_Tide_broughtAs_53 ?_
    refine lv_ldiv hx hb d_Tide_broughtAs_56 (by decide) ?_
    exact r_lret0 C hS rfl h d_Tide_broughtAs_57
  refine sw_c (v := 3) (w := 3) (by decide) h (fun hv h => ?_) (fun hn3 h => ?_)
  · refine r_tabIn C hv d_Tide_broughtAs_1 (by decide) (by decide) rfl (tgt := 58) (by decide) ?_
    refine lv_iload_n hx hb d_Tide_broughtAs_58 rfl (lv_at hl 2 rfl) ?_
    obtain ⟨v5, hr6, h⟩ := bd_el h
    refine c_I hS (c_runS (As := [.int p3]) (rest := []) C hS (k_Tide_moonOf (l := l) (E := E) (X := X) hr6) cw_Tide_moonOf ini_Tide_moonOf sta_Tide_moonOf tw_308 hd_Tide_moonOf rfl ⟨⟨rfl, rfl⟩, (Nat.le_of_ble_eq_true rfl), (Nat.le_of_ble_eq_true rfl)⟩ ⟨(Nat.le_of_ble_eq_true rfl), (Nat.le_of_ble_eq_true rfl)⟩ hl.1 rfl (Nat.le_of_ble_eq_true rfl) d_Tide_broughtAs_59) (fun H locs hS => ?_)
    refine lv_bipush (v := 14) hx hb d_Tide_broughtAs_62 (by decide) ?_
    refine r_icmp_ne (tgt := 71) C h d_Tide_broughtAs_64 (by decide) (fun h => ?_) (fun h => ?_)
    · skip
      refine lv_iconst (v := 0) hx hb d_Tide_broughtAs_71 (by decide) ?_
      refine lv_lload_n hx hb d_Tide_broughtAs_72 rfl (lv_at hl 1 rfl) ?_
      refine lv_iload_n hx hb d_Tide_broughtAs_73 rfl (lv_at hl 2 rfl) ?_
      obtain ⟨v7, hr8, h⟩ := bd_el h
      refine c_L hS (c_runS (As := [.int (0 : Int32), .long p1, .int p3]) (rest := []) C hS (k_Tide_broughtAs_0 (l := l) (E := E) (X := X) hr8) cw_Tide_broughtAs ini_Tide_broughtAs sta_Tide_broughtAs tw_362 hd_Tide_broughtAs rfl ⟨⟨rfl, rfl⟩, (Nat.le_of_ble_eq_true rfl), (Nat.le_of_ble_eq_true rfl)⟩ ⟨(Nat.le_of_ble_eq_true rfl), (Nat.le_of_ble_eq_true rfl)⟩ hl.1 rfl (Nat.le_of_ble_eq_true rfl) d_Tide_broughtAs_74) (fun H locs hS => ?_)
      exact r_lret0 C hS rfl h d_Tide_broughtAs_77
    · skip
      refine lv_lconst (v := 0) hx hb d_Tide_broughtAs_67 (by decide) ?_
      refine lv_goto (tgt := 77) hx hb d_Tide_broughtAs_68 (by decide) ?_
      exact r_lret0 C hS rfl h d_Tide_broughtAs_77
  refine sw_c (v := 4) (w := 4) (by decide) h (fun hv h => ?_) (fun hn4 h => ?_)
  · refine r_tabIn C hv d_Tide_broughtAs_1 (by decide) (by decide) rfl (tgt := 78) (by decide) ?_
    refine lv_ldc2 (v := 2) hx hb hown (hts _ tw_366) d_Tide_broughtAs_78 ?_
    refine lv_iconst (v := 1) hx hb d_Tide_broughtAs_81 (by decide) ?_
    refine lv_lload_n hx hb d_Tide_broughtAs_82 rfl (lv_at hl 1 rfl) ?_
    refine lv_iload_n hx hb d_Tide_broughtAs_83 rfl (lv_at hl 2 rfl) ?_
    obtain ⟨v9, hr10, h⟩ := bd_el h
    refine c_L hS (c_runS (As := [.int (1 : Int32), .long p1, .int p3]) (rest := [.long (2 : Int64)]) C hS (k_Tide_broughtAs_0 (l := l) (E := E) (X := X) hr10) cw_Tide_broughtAs ini_Tide_broughtAs sta_Tide_broughtAs tw_362 hd_Tide_broughtAs rfl ⟨⟨rfl, rfl⟩, (Nat.le_of_ble_eq_true rfl), (Nat.le_of_ble_eq_true rfl)⟩ ⟨(Nat.le_of_ble_eq_true rfl), (Nat.le_of_ble_eq_true rfl)⟩ hl.1 rfl (Nat.le_of_ble_eq_true rfl) d_Tide_broughtAs_84) (fun H locs hS => ?_)
    refine lv_lmul hx hb d_Tide_broughtAs_87 ?_
    exact r_lret0 C hS rfl h d_Tide_broughtAs_88
  refine sw_c (v := 5) (w := 5) (by decide) h (fun hv h => ?_) (fun hn5 h => ?_)
  · refine r_tabIn C hv d_Tide_broughtAs_1 (by decide) (by decide) rfl (tgt := 89) (by decide) ?_
    refine lv_iconst (v := 2) hx hb d_Tide_broughtAs_89 (by decide) ?_
    refine lv_lload_n hx hb d_Tide_broughtAs_90 rfl (lv_at hl 1 rfl) ?_
    refine lv_iload_n hx hb d_Tide_broughtAs_91 rfl (lv_at hl 2 rfl) ?_
    obtain ⟨v11, hr12, h⟩ := bd_el h
    refine c_L hS (c_runS (As := [.int (2 : Int32), .long p1, .int p3]) (rest := []) C hS (k_Tide_broughtAs_0 (l := l) (E := E) (X := X) hr12) cw_Tide_broughtAs ini_Tide_broughtAs sta_Tide_broughtAs tw_362 hd_Tide_broughtAs rfl ⟨⟨rfl, rfl⟩, (Nat.le_of_ble_eq_true rfl), (Nat.le_of_ble_eq_true rfl)⟩ ⟨(Nat.le_of_ble_eq_true rfl), (Nat.le_of_ble_eq_true rfl)⟩ hl.1 rfl (Nat.le_of_ble_eq_true rfl) d_Tide_broughtAs_92) (fun H locs hS => ?_)
    refine lv_ldc2 (v := 3) hx hb hown (hts _ tw_367) d_Tide_broughtAs_95 ?_
    refine lv_ladd hx hb d_Tide_broughtAs_98 ?_
    exact r_lret0 C hS rfl h d_Tide_broughtAs_99
  refine lv_tableOut (tgt := 100) hx hb d_Tide_broughtAs_1 (out_e (k := 6) (out_s (k := 5) (k1 := 6) (out_s (k := 4) (k1 := 5) (out_s (k := 3) (k1 := 4) (out_s (k := 2) (k1 := 3) (out_s (k := 1) (k1 := 2) out_0 hn1 (by decide)) hn2 (by decide)) hn3 (by decide)) hn4 (by decide)) hn5 (by decide)) (by decide)) (by decide) ?_
  refine lv_lload_n hx hb d_Tide_broughtAs_100 rfl (lv_at hl 1 rfl) ?_
  exact r_lret0 C hS rfl h d_Tide_broughtAs_101
set_option maxHeartbeats 4000000 in
set_option maxRecDepth 100000 in
theorem k_Tide_broughtAs_2 {l : Launch} {E : En} {p0 : Int32} {p1 : Int64} {p3 : Int32} {X : Mem} {r : Int64} (h : f_Tide_broughtAs_2 p0 p1 p3 = some r) : Met l y_Tide_broughtAs (Cond.code y_Tide_broughtAs c_Tide_broughtAs 4 (some .long) :: tb) ({ frames := 3, cells := 0, slots := 0, locals := 66 } : Room) (PreC E [.int p0, .long p1, .int p3] X) (PostL E r X) 0 0 (Ad E) := by
  refine met_of (by decide) (Nat.le_of_ble_eq_true rfl) (fun p e s m below meth c C hS ls hl => ?_)
  replace C : Cx p s m ([.int p0, .long p1, .int p3] : List Value).toArray meth c c_Tide_broughtAs 4 "TideLoans" (some .long) E := C
  replace hl : lv_has ls 4 [(0, .int p0), (1, .long p1), (3, .int p3)] := hl
  obtain ⟨hx, hb, hml, hown, hts, hrt, hlk, hKx⟩ := id C
  unfold f_Tide_broughtAs_2 at h
  refine lv_iload_n hx hb d_Tide_broughtAs_0 rfl (lv_at hl 0 rfl) ?_
  refine sw_c (v := 1) (w := 1) (by decide) h (fun hv h => ?_) (fun hn1 h => ?_)
  · refine r_tabIn C hv d_Tide_broughtAs_1 (by decide) (by decide) rfl (tgt := 36) (by decide) ?_
    refine lv_iconst (v := 0) hx hb d_Tide_broughtAs_36 (by decide) ?_
    refine lv_lload_n hx hb d_Tide_broughtAs_37 rfl (lv_at hl 1 rfl) ?_
    refine lv_iload_n hx hb d_Tide_broughtAs_38 rfl (lv_at hl 2 rfl) ?_
    obtain ⟨v1, hr2, h⟩ := bd_el h
    refine c_L hS (c_runS (As := [.int (0 : Int32), .long p1, .int p3]) (rest := []) C hS (k_Tide_broughtAs_1 (l := l) (E := E) (X := X) hr2) cw_Tide_broughtAs ini_Tide_broughtAs sta_Tide_broughtAs tw_362 hd_Tide_broughtAs rfl ⟨⟨rfl, rfl⟩, (Nat.le_of_ble_eq_true rfl), (Nat.le_of_ble_eq_true rfl)⟩ ⟨(Nat.le_of_ble_eq_true rfl), (Nat.le_of_ble_eq_true rfl)⟩ hl.1 rfl (Nat.le_of_ble_eq_true rfl) d_Tide_broughtAs_39) (fun H locs hS => ?_)
    refine lv_ldc2 (v := 5) hx hb hown (hts _ tw_365) d_Tide_broughtAs_42 ?_
    refine lv_ladd hx hb d_Tide_broughtAs_45 ?_
    exact r_lret0 C hS rfl h d_Tide_broughtAs_46
  refine sw_c (v := 2) (w := 2) (by decide) h (fun hv h => ?_) (fun hn2 h => ?_)
  · refine r_tabIn C hv d_Tide_broughtAs_1 (by decide) (by decide) rfl (tgt := 47) (by decide) ?_
    refine lv_iconst (v := 0) hx hb d_Tide_broughtAs_47 (by decide) ?_
    refine lv_lload_n hx hb d_Tide_broughtAs_48 rfl (lv_at hl 1 rfl) ?_
    refine lv_iload_n hx hb d_Tide_broughtAs_49 rfl (lv_at hl 2 rfl) ?_
    obtain ⟨v3, hr4, h⟩ := bd_el h
    refine c_L hS (c_runS (As := [.int (0 : Int32), .long p1, .int p3]) (rest := []) C hS (k_Tide_broughtAs_1 (l := l) (E := E) (X := X) hr4) cw_Tide_broughtAs ini_Tide_broughtAs sta_Tide_broughtAs tw_362 hd_Tide_broughtAs rfl ⟨⟨rfl, rfl⟩, (Nat.le_of_ble_eq_true rfl), (Nat.le_of_ble_eq_true rfl)⟩ ⟨(Nat.le_of_ble_eq_true rfl), (Nat.le_of_ble_eq_true rfl)⟩ hl.1 rfl (Nat.le_of_ble_eq_true rfl) d_Tide_broughtAs_50) (fun H locs hS => ?_)
    refine lv_ldc2 (v := 2) hx hb hown (hts _ tw_366) d_Tide_broughtAs_53 ?_
    refine lv_ldiv hx hb d_Tide_broughtAs_56 (by decide) ?_
    exact r_lret0 C hS rfl h d_Tide_broughtAs_57
  refine sw_c (v := 3) (w := 3) (by decide) h (fun hv h => ?_) (fun hn3 h => ?_)
  · refine r_tabIn C hv d_Tide_broughtAs_1 (by decide) (by decide) rfl (tgt := 58) (by decide) ?_
    refine lv_iload_n hx hb d_Tide_broughtAs_58 rfl (lv_at hl 2 rfl) ?_
    obtain ⟨v5, hr6, h⟩ := bd_el h
    refine c_I hS (c_runS (As := [.int p3]) (rest := []) C hS (k_Tide_moonOf (l := l) (E := E) (X := X) hr6) cw_Tide_moonOf ini_Tide_moonOf sta_Tide_moonOf tw_308 hd_Tide_moonOf rfl ⟨⟨rfl, rfl⟩, (Nat.le_of_ble_eq_true rfl), (Nat.le_of_ble_eq_true rfl)⟩ ⟨(Nat.le_of_ble_eq_true rfl), (Nat.le_of_ble_eq_true rfl)⟩ hl.1 rfl (Nat.le_of_ble_eq_true rfl) d_Tide_broughtAs_59) (fun H locs hS => ?_)
    refine lv_bipush (v := 14) hx hb d_Tide_broughtAs_62 (by decide) ?_
    refine r_icmp_ne (tgt := 71) C h d_Tide_broughtAs_64 (by decide) (fun h => ?_) (fun h => ?_)
    · skip
      refine lv_iconst (v := 0) hx hb d_Tide_broughtAs_71 (by decide) ?_
      refine lv_lload_n hx hb d_Tide_broughtAs_72 rfl (lv_at hl 1 rfl) ?_
      refine lv_iload_n hx hb d_Tide_broughtAs_73 rfl (lv_at hl 2 rfl) ?_
      obtain ⟨v7, hr8, h⟩ := bd_el h
      refine c_L hS (c_runS (As := [.int (0 : Int32), .long p1, .int p3]) (rest := []) C hS (k_Tide_broughtAs_1 (l := l) (E := E) (X := X) hr8) cw_Tide_broughtAs ini_Tide_broughtAs sta_Tide_broughtAs tw_362 hd_Tide_broughtAs rfl ⟨⟨rfl, rfl⟩, (Nat.le_of_ble_eq_true rfl), (Nat.le_of_ble_eq_true rfl)⟩ ⟨(Nat.le_of_ble_eq_true rfl), (Nat.le_of_ble_eq_true rfl)⟩ hl.1 rfl (Nat.le_of_ble_eq_true rfl) d_Tide_broughtAs_74) (fun H locs hS => ?_)
      exact r_lret0 C hS rfl h d_Tide_broughtAs_77
    · skip
      refine lv_lconst (v := 0) hx hb d_Tide_broughtAs_67 (by decide) ?_
      refine lv_goto (tgt := 77) hx hb d_Tide_broughtAs_68 (by decide) ?_
      exact r_lret0 C hS rfl h d_Tide_broughtAs_77
  refine sw_c (v := 4) (w := 4) (by decide) h (fun hv h => ?_) (fun hn4 h => ?_)
  · refine r_tabIn C hv d_Tide_broughtAs_1 (by decide) (by decide) rfl (tgt := 78) (by decide) ?_
    refine lv_ldc2 (v := 2) hx hb hown (hts _ tw_366) d_Tide_broughtAs_78 ?_
    refine lv_iconst (v := 1) hx hb d_Tide_broughtAs_81 (by decide) ?_
    refine lv_lload_n hx hb d_Tide_broughtAs_82 rfl (lv_at hl 1 rfl) ?_
    refine lv_iload_n hx hb d_Tide_broughtAs_83 rfl (lv_at hl 2 rfl) ?_
    obtain ⟨v9, hr10, h⟩ := bd_el h
    refine c_L hS (c_runS (As := [.int (1 : Int32), .long p1, .int p3]) (rest := [.long (2 : Int64)]) C hS (k_Tide_broughtAs_1 (l := l) (E := E) (X := X) hr10) cw_Tide_broughtAs ini_Tide_broughtAs sta_Tide_broughtAs tw_362 hd_Tide_broughtAs rfl ⟨⟨rfl, rfl⟩, (Nat.le_of_ble_eq_true rfl), (Nat.le_of_ble_eq_true rfl)⟩ ⟨(Nat.le_of_ble_eq_true rfl), (Nat.le_of_ble_eq_true rfl)⟩ hl.1 rfl (Nat.le_of_ble_eq_true rfl) d_Tide_broughtAs_84) (fun H locs hS => ?_)
    refine lv_lmul hx hb d_Tide_broughtAs_87 ?_
    exact r_lret0 C hS rfl h d_Tide_broughtAs_88
  refine sw_c (v := 5) (w := 5) (by decide) h (fun hv h => ?_) (fun hn5 h => ?_)
  · refine r_tabIn C hv d_Tide_broughtAs_1 (by decide) (by decide) rfl (tgt := 89) (by decide) ?_
    refine lv_iconst (v := 2) hx hb d_Tide_broughtAs_89 (by decide) ?_
    refine lv_lload_n hx hb d_Tide_broughtAs_90 rfl (lv_at hl 1 rfl) ?_
    refine lv_iload_n hx hb d_Tide_broughtAs_91 rfl (lv_at hl 2 rfl) ?_
    obtain ⟨v11, hr12, h⟩ := bd_el h
    refine c_L hS (c_runS (As := [.int (2 : Int32), .long p1, .int p3]) (rest := []) C hS (k_Tide_broughtAs_1 (l := l) (E := E) (X := X) hr12) cw_Tide_broughtAs ini_Tide_broughtAs sta_Tide_broughtAs tw_362 hd_Tide_broughtAs rfl ⟨⟨rfl, rfl⟩, (Nat.le_of_ble_eq_true rfl), (Nat.le_of_ble_eq_true rfl)⟩ ⟨(Nat.le_of_ble_eq_true rfl), (Nat.le_of_ble_eq_true rfl)⟩ hl.1 rfl (Nat.le_of_ble_eq_true rfl) d_Tide_broughtAs_92) (fun H locs hS => ?_)
    refine lv_ldc2 (v := 3) hx hb hown (hts _ tw_367) d_Tide_broughtAs_95 ?_
    refine lv_ladd hx hb d_Tide_broughtAs_98 ?_
    exact r_lret0 C hS rfl h d_Tide_broughtAs_99
  refine lv_tableOut (tgt := 100) hx hb d_Tide_broughtAs_1 (out_e (k := 6) (out_s (k := 5) (k1 := 6) (out_s (k := 4) (k1 := 5) (out_s (k := 3) (k1 := 4) (out_s (k := 2) (k1 := 3) (out_s (k := 1) (k1 := 2) out_0 hn1 (by decide)) hn2 (by decide)) hn3 (by decide)) hn4 (by decide)) hn5 (by decide)) (by decide)) (by decide) ?_
  refine lv_lload_n hx hb d_Tide_broughtAs_100 rfl (lv_at hl 1 rfl) ?_
  exact r_lret0 C hS rfl h d_Tide_broughtAs_101
set_option maxHeartbeats 4000000 in
set_option maxRecDepth 100000 in
theorem k_Tide_repaid {l : Launch} {E : En} {k0 : Nat} {p1 : Int32} {p2 : Int32} {p3 : Int32} {X : Mem} {r : Int32} (hk0 : kd k0 = 2) (h : f_Tide_repaid k0 p1 p2 p3 X = some r) : Met l y_Tide_repaid (Cond.code y_Tide_repaid c_Tide_repaid 6 (some .int) :: tb) ({ frames := 4, cells := 0, slots := 0, locals := 89 } : Room) (PreC E [.ref (ad E k0), .int p1, .int p2, .int p3] X) (PostI E r X) 0 0 (Ad E) := by
  refine met_of (by decide) (Nat.le_of_ble_eq_true rfl) (fun p e s m below meth c C hS ls hl => ?_)
  replace C : Cx p s m ([.ref (ad E k0), .int p1, .int p2, .int p3] : List Value).toArray meth c c_Tide_repaid 6 "TideLoans" (some .int) E := C
  replace hl : lv_has ls 6 [(0, .ref (ad E k0)), (1, .int p1), (2, .int p2), (3, .int p3)] := hl
  obtain ⟨hx, hb, hml, hown, hts, hrt, hlk, hKx⟩ := id C
  unfold f_Tide_repaid at h
  refine lv_aload_n hx hb d_Tide_repaid_0 rfl (lv_at hl 0 rfl) ?_
  refine r_getI C hS (kd_lt hk0 (by decide)) (cel_Thing hk0) (rfl : cls[3]? = some (R_Thing, T_Thing, 6)) in_Thing 3 (by decide) tw_109 rfl h d_Tide_repaid_1 (fun v1 h => ?_)
  refine lv_i2l hx hb d_Tide_repaid_4 rfl ?_
  refine lv_aload_n hx hb d_Tide_repaid_5 rfl (lv_at hl 0 rfl) ?_
  refine r_getI C hS (kd_lt hk0 (by decide)) (cel_Thing hk0) (rfl : cls[3]? = some (R_Thing, T_Thing, 6)) in_Thing 3 (by decide) tw_109 rfl h d_Tide_repaid_6 (fun v2 h => ?_)
  refine lv_i2l hx hb d_Tide_repaid_9 rfl ?_
  refine lv_iload_n hx hb d_Tide_repaid_10 rfl (lv_at hl 1 rfl) ?_
  refine lv_i2l hx hb d_Tide_repaid_11 rfl ?_
  refine lv_lmul hx hb d_Tide_repaid_12 ?_
  refine lv_iload_n hx hb d_Tide_repaid_13 rfl (lv_at hl 3 rfl) ?_
  refine lv_i2l hx hb d_Tide_repaid_14 rfl ?_
  refine lv_lmul hx hb d_Tide_repaid_15 ?_
  refine lv_ldc2 (v := 100) hx hb hown (hts _ tw_360) d_Tide_repaid_16 ?_
  refine lv_ldiv hx hb d_Tide_repaid_19 (by decide) ?_
  refine lv_ladd hx hb d_Tide_repaid_20 ?_
  refine r_topL h (fun v3 h => ?_)
  refine lv_lstore (lv' := [(4, .long v3), (0, .ref (ad E k0)), (1, .int p1), (2, .int p2), (3, .int p3)]) hx hb d_Tide_repaid_21 hl (by decide) rfl (fun ls hl => ?_)
  refine lv_ldc2 (v := 99999999) hx hb hown (hts _ tw_361) d_Tide_repaid_23 ?_
  refine lv_aload_n hx hb d_Tide_repaid_26 rfl (lv_at hl 1 rfl) ?_
  refine r_getI C hS (kd_lt hk0 (by decide)) (cel_Thing hk0) (rfl : cls[3]? = some (R_Thing, T_Thing, 6)) in_Thing 0 (by decide) tw_101 rfl h d_Tide_repaid_27 (fun v4 h => ?_)
  refine lv_lload hx hb d_Tide_repaid_30 (lv_at hl 0 rfl) ?_
  refine lv_iload_n hx hb d_Tide_repaid_32 rfl (lv_at hl 3 rfl) ?_
  obtain ⟨v5, hr6, h⟩ := bd_el h
  refine c_L hS (c_runS (As := [.int v4, .long v3, .int p2]) (rest := [.long (99999999 : Int64)]) C hS (k_Tide_broughtAs_2 (l := l) (E := E) (X := X) hr6) cw_Tide_broughtAs ini_Tide_broughtAs sta_Tide_broughtAs tw_362 hd_Tide_broughtAs rfl ⟨⟨rfl, rfl⟩, (Nat.le_of_ble_eq_true rfl), (Nat.le_of_ble_eq_true rfl)⟩ ⟨(Nat.le_of_ble_eq_true rfl), (Nat.le_of_ble_eq_true rfl)⟩ hl.1 rfl (Nat.le_of_ble_eq_true rfl) d_Tide_repaid_33) (fun H locs hS => ?_)
  refine va_mmin_long hx hb (hml.trans hl.1.symm) hown (hts _ tw_368) (hts _ tw_369) (hts _ tw_71) (hts _ code_va_mmin_long) (Nat.le_of_ble_eq_true rfl) (Nat.le_of_ble_eq_true rfl) (Nat.le_of_ble_eq_true rfl) (Nat.le_of_ble_eq_true rfl) d_Tide_repaid_36 ?_
  refine r_topL h (fun v7 h => ?_)
  refine lv_l2i hx hb d_Tide_repaid_39 rfl ?_
  exact r_iret0 C hS rfl h d_Tide_repaid_40
set_option maxHeartbeats 4000000 in
set_option maxRecDepth 100000 in
theorem k_Way_brings {l : Launch} {E : En} {k0 : Nat} {k1 : Nat} {p2 : Int32} {X : Mem} {r : Int32} (hk0 : kd k0 = 3) (hk1 : kd k1 = 2) (h : f_Way_brings k0 k1 p2 X = some r) : Met l y_Way_brings (Cond.code y_Way_brings c_Way_brings 3 (some .int) :: tb) ({ frames := 5, cells := 0, slots := 0, locals := 114 } : Room) (PreC E [.ref (ad E k0), .ref (ad E k1), .int p2] X) (PostI E r X) 0 0 (Ad E) := by
  refine met_of (by decide) (Nat.le_of_ble_eq_true rfl) (fun p e s m below meth c C hS ls hl => ?_)
  replace C : Cx p s m ([.ref (ad E k0), .ref (ad E k1), .int p2] : List Value).toArray meth c c_Way_brings 3 "TideLoans$Way" (some .int) E := C
  replace hl : lv_has ls 3 [(0, .ref (ad E k0)), (1, .ref (ad E k1)), (2, .int p2)] := hl
  obtain ⟨hx, hb, hml, hown, hts, hrt, hlk, hKx⟩ := id C
  unfold f_Way_brings at h
  refine lv_aload_n hx hb d_Way_brings_0 rfl (lv_at hl 0 rfl) ?_
  refine r_getI C hS (kd_lt hk0 (by decide)) (cel_Way hk0) (rfl : cls[4]? = some (R_Way, T_Way, 5)) in_Way 1 (by decide) tw_199 rfl h d_Way_brings_1 (fun v1 h => ?_)
  refine r_if_le (tgt := 23) C h d_Way_brings_4 (by decide) (fun h => ?_) (fun h => ?_)
  · skip
    refine lv_iconst (v := 0) hx hb d_Way_brings_23 (by decide) ?_
    exact r_iret0 C hS rfl h d_Way_brings_24
  · skip
    refine lv_aload_n hx hb d_Way_brings_7 rfl (lv_at hl 1 rfl) ?_
    refine lv_iload_n hx hb d_Way_brings_8 rfl (lv_at hl 2 rfl) ?_
    refine lv_aload_n hx hb d_Way_brings_9 rfl (lv_at hl 0 rfl) ?_
    refine r_getI C hS (kd_lt hk0 (by decide)) (cel_Way hk0) (rfl : cls[4]? = some (R_Way, T_Way, 5)) in_Way 4 (by decide) tw_204 rfl h d_Way_brings_10 (fun v2 h => ?_)
    refine lv_aload_n hx hb d_Way_brings_13 rfl (lv_at hl 0 rfl) ?_
    refine r_getI C hS (kd_lt hk0 (by decide)) (cel_Way hk0) (rfl : cls[4]? = some (R_Way, T_Way, 5)) in_Way 2 (by decide) tw_201 rfl h d_Way_brings_14 (fun v3 h => ?_)
    obtain ⟨v4, hr5, h⟩ := bd_el h
    refine c_I hS (c_runSN (As := [.ref (ad E k1), .int p2, .int v2, .int v3]) (rest := []) C hS (k_Tide_repaid (l := l) (E := E) (X := X) hk1 hr5) cw_Tide_repaid ini_Tide_repaid sta_Tide_repaid tw_452 hd_Tide_repaid rfl ⟨⟨rfl, rfl⟩, (Nat.le_of_ble_eq_true rfl), (Nat.le_of_ble_eq_true rfl)⟩ ⟨(Nat.le_of_ble_eq_true rfl), (Nat.le_of_ble_eq_true rfl)⟩ hl.1 rfl (Nat.le_of_ble_eq_true rfl) d_Way_brings_17) (fun H locs hS => ?_)
    refine lv_goto (tgt := 24) hx hb d_Way_brings_20 (by decide) ?_
    exact r_iret0 C hS rfl h d_Way_brings_24
set_option maxHeartbeats 4000000 in
set_option maxRecDepth 100000 in
theorem k_Tide_finding {l : Launch} {E : En} {p1 : Int32} {X : Mem} {r : Int32} {Y : Mem} (h : f_Tide_finding p1 X = some (r, Y)) : Met l y_Tide_finding (Cond.code y_Tide_finding c_Tide_finding 3 (some .int) :: tb) ({ frames := 1, cells := 0, slots := 0, locals := 21 } : Room) (PreC E [.ref (ad E 0), .int p1] X) (PostI E r Y) 0 0 (Ad E) := by
  refine met_of (by decide) (Nat.le_of_ble_eq_true rfl) (fun p e s m below meth c C hS ls hl => ?_)
  replace C : Cx p s m ([.ref (ad E 0), .int p1] : List Value).toArray meth c c_Tide_finding 3 "TideLoans" (some .int) E := C
  replace hl : lv_has ls 3 [(0, .ref (ad E 0)), (1, .int p1)] := hl
  obtain ⟨hx, hb, hml, hown, hts, hrt, hlk, hKx⟩ := id C
  unfold f_Tide_finding at h
  refine lv_ldc (v := -1000000001) hx hb hown (hts _ tw_280) d_Tide_finding_0 ?_
  refine lv_iload_n hx hb d_Tide_finding_2 rfl (lv_at hl 1 rfl) ?_
  refine lv_isub hx hb d_Tide_finding_3 ?_
  refine r_top h (fun v1 h => ?_)
  refine lv_istore_n (lv' := [(2, .int v1), (0, .ref (ad E 0)), (1, .int p1)]) hx hb d_Tide_finding_4 rfl hl (by decide) rfl (fun ls hl => ?_)
  refine lv_iload_n hx hb d_Tide_finding_5 rfl (lv_at hl 0 rfl) ?_
  refine lv_bipush (v := 7) hx hb d_Tide_finding_6 (by decide) ?_
  obtain ⟨v2, hr3, h⟩ := bd_el h
  refine c_I hS (c_runS (As := [.int v1, .int (7 : Int32)]) (rest := []) C hS (k_Tide_isBelow (l := l) (E := E) (X := X) hr3) cw_Tide_isBelow ini_Tide_isBelow sta_Tide_isBelow tw_277 hd_Tide_isBelow rfl ⟨⟨rfl, rfl⟩, (Nat.le_of_ble_eq_true rfl), (Nat.le_of_ble_eq_true rfl)⟩ ⟨(Nat.le_of_ble_eq_true rfl), (Nat.le_of_ble_eq_true rfl)⟩ hl.1 rfl (Nat.le_of_ble_eq_true rfl) d_Tide_finding_8) (fun H locs hS => ?_)
  refine r_if_eq (tgt := 24) C h d_Tide_finding_11 (by decide) (fun h => ?_) (fun h => ?_)
  · skip
    refine lv_iload_n hx hb d_Tide_finding_24 rfl (lv_at hl 2 rfl) ?_
    exact r_iret C hS rfl h d_Tide_finding_25
  · skip
    refine lv_aload_n hx hb d_Tide_finding_14 rfl (lv_at hl 1 rfl) ?_
    refine r_get C hS (by decide) cel_Tide (rfl : cls[5]? = some (R_Tide, T_Tide, 12)) in_Tide 0 (by decide) tw_236 rfl d_Tide_finding_15 ?_
    refine lv_iload_n hx hb d_Tide_finding_18 rfl (lv_at hl 0 rfl) ?_
    refine lv_dup2_11 hx hb d_Tide_finding_19 rfl rfl ?_
    refine r_ldI C hS (n := 7) rfl (by decide) h d_Tide_finding_20 (fun v4 h => ?_)
    refine lv_iconst (v := 1) hx hb d_Tide_finding_21 (by decide) ?_
    refine lv_iadd hx hb d_Tide_finding_22 ?_
    refine r_stI C hS (n := 7) rfl (by decide) h d_Tide_finding_23 (fun X5 H locs hS h => ?_)
    refine lv_iload_n hx hb d_Tide_finding_24 rfl (lv_at hl 2 rfl) ?_
    exact r_iret C hS rfl h d_Tide_finding_25
set_option maxHeartbeats 4000000 in
set_option maxRecDepth 100000 in
theorem k_Tide_height_j18 {p : Program} {l : Launch} {e : Env} {s : State} {m : MethodId} {args : Array Value} {below : List Frame} {meth : Method} {c : Code} {E : En} {r : Int32} {Y : Mem} (C : Cx p s m args meth c c_Tide_height 4 "TideLoans" (some .int) E) {X : Mem} (h : f_Tide_height_j18 X = some (r, Y)) {H : Heap} {locs : List Loc} (hS : Hs E s.heap X H locs) {ls : Array Slot} (hl : lv_has ls 4 [(0, .ref (ad E 0))]) : W p l e ({ frames := 2, cells := 0, slots := 0, locals := 43 } : Room) s m args below meth c H locs 0 0 (MQ below (PostI E r Y) args s 0 0 (Ad E)) (F0 m 18 ls []) := by
  obtain ⟨hx, hb, hml, hown, hts, hrt, hlk, hKx⟩ := id C
  unfold f_Tide_height_j18 at h
  refine lv_aload_n hx hb d_Tide_height_18 rfl (lv_at hl 0 rfl) ?_
  refine lv_ldc (v := -1000000001) hx hb hown (hts _ tw_280) d_Tide_height_19 ?_
  obtain ⟨v1, X3, hr2, h⟩ := bd2_el h
  refine c_I hS (c_runV (As := [.int (-1000000001 : Int32)]) (rest := []) C hS (by decide) cel_Tide (rfl : cls[5]? = some (R_Tide, T_Tide, 12)) (k_Tide_finding (l := l) (E := E) (X := X) hr2) cw_Tide_finding ini_Tide_finding ins_Tide_finding sel_Tide_finding tw_281 hd_Tide_finding rfl ⟨⟨rfl, rfl⟩, (Nat.le_of_ble_eq_true rfl), (Nat.le_of_ble_eq_true rfl)⟩ ⟨(Nat.le_of_ble_eq_true rfl), (Nat.le_of_ble_eq_true rfl)⟩ hl.1 rfl (Nat.le_of_ble_eq_true rfl) d_Tide_height_21) (fun H locs hS => ?_)
  exact r_iret C hS rfl h d_Tide_height_24
set_option maxHeartbeats 4000000 in
set_option maxRecDepth 100000 in
theorem k_Tide_height {l : Launch} {E : En} {p1 : Int32} {p2 : Int32} {X : Mem} {r : Int32} {Y : Mem} (h : f_Tide_height p1 p2 X = some (r, Y)) : Met l y_Tide_height (Cond.code y_Tide_height c_Tide_height 4 (some .int) :: tb) ({ frames := 2, cells := 0, slots := 0, locals := 43 } : Room) (PreC E [.ref (ad E 0), .int p1, .int p2] X) (PostI E r Y) 0 0 (Ad E) := by
  refine met_of (by decide) (Nat.le_of_ble_eq_true rfl) (fun p e s m below meth c C hS ls hl => ?_)
  replace C : Cx p s m ([.ref (ad E 0), .int p1, .int p2] : List Value).toArray meth c c_Tide_height 4 "TideLoans" (some .int) E := C
  replace hl : lv_has ls 4 [(0, .ref (ad E 0)), (1, .int p1), (2, .int p2)] := hl
  obtain ⟨hx, hb, hml, hown, hts, hrt, hlk, hKx⟩ := id C
  unfold f_Tide_height at h
  refine lv_iload_n hx hb d_Tide_height_0 rfl (lv_at hl 1 rfl) ?_
  refine lv_bipush (v := 16) hx hb d_Tide_height_1 (by decide) ?_
  obtain ⟨v1, hr2, h⟩ := bd_el h
  refine c_I hS (c_runS (As := [.int p1, .int (16 : Int32)]) (rest := []) C hS (k_Tide_isBelow (l := l) (E := E) (X := X) hr2) cw_Tide_isBelow ini_Tide_isBelow sta_Tide_isBelow tw_277 hd_Tide_isBelow rfl ⟨⟨rfl, rfl⟩, (Nat.le_of_ble_eq_true rfl), (Nat.le_of_ble_eq_true rfl)⟩ ⟨(Nat.le_of_ble_eq_true rfl), (Nat.le_of_ble_eq_true rfl)⟩ hl.1 rfl (Nat.le_of_ble_eq_true rfl) d_Tide_height_3) (fun H locs hS => ?_)
  refine r_if_eq (tgt := 18) C h d_Tide_height_6 (by decide) (fun h => ?_) (fun h => ?_)
  · skip
    exact k_Tide_height_j18 C h hS (lv_sub hl [0] rfl)
  · skip
    refine lv_iload_n hx hb d_Tide_height_9 rfl (lv_at hl 2 rfl) ?_
    refine lv_bipush (v := 10) hx hb d_Tide_height_10 (by decide) ?_
    obtain ⟨v3, hr4, h⟩ := bd_el h
    refine c_I hS (c_runS (As := [.int p2, .int (10 : Int32)]) (rest := []) C hS (k_Tide_isBelow (l := l) (E := E) (X := X) hr4) cw_Tide_isBelow ini_Tide_isBelow sta_Tide_isBelow tw_277 hd_Tide_isBelow rfl ⟨⟨rfl, rfl⟩, (Nat.le_of_ble_eq_true rfl), (Nat.le_of_ble_eq_true rfl)⟩ ⟨(Nat.le_of_ble_eq_true rfl), (Nat.le_of_ble_eq_true rfl)⟩ hl.1 rfl (Nat.le_of_ble_eq_true rfl) d_Tide_height_12) (fun H locs hS => ?_)
    refine r_if_ne (tgt := 25) C h d_Tide_height_15 (by decide) (fun h => ?_) (fun h => ?_)
    · skip
      refine lv_aload_n hx hb d_Tide_height_25 rfl (lv_at hl 0 rfl) ?_
      refine r_get C hS (by decide) cel_Tide (rfl : cls[5]? = some (R_Tide, T_Tide, 12)) in_Tide 1 (by decide) tw_237 rfl d_Tide_height_26 ?_
      refine r_get C hS (by decide) (cel_Shore (rfl : kd 2 = 1)) (rfl : cls[1]? = some (R_Shore, T_Shore, 6)) in_Shore 0 (by decide) tw_132 rfl d_Tide_height_29 ?_
      refine lv_iload_n hx hb d_Tide_height_32 rfl (lv_at hl 1 rfl) ?_
      refine r_ldI C hS (n := 16) (kd_heights rfl) (by decide) h d_Tide_height_33 (fun v5 h => ?_)
      refine lv_istore_n (lv' := [(3, .int v5), (0, .ref (ad E 0)), (1, .int p1), (2, .int p2)]) hx hb d_Tide_height_34 rfl hl (by decide) rfl (fun ls hl => ?_)
      refine lv_aload_n hx hb d_Tide_height_35 rfl (lv_at hl 1 rfl) ?_
      refine r_get C hS (by decide) cel_Tide (rfl : cls[5]? = some (R_Tide, T_Tide, 12)) in_Tide 1 (by decide) tw_237 rfl d_Tide_height_36 ?_
      refine r_get C hS (by decide) (cel_Shore (rfl : kd 2 = 1)) (rfl : cls[1]? = some (R_Shore, T_Shore, 6)) in_Shore 0 (by decide) tw_132 rfl d_Tide_height_39 ?_
      refine lv_iload_n hx hb d_Tide_height_42 rfl (lv_at hl 2 rfl) ?_
      refine lv_iload_n hx hb d_Tide_height_43 rfl (lv_at hl 3 rfl) ?_
      refine r_stI C hS (n := 16) (kd_heights rfl) (by decide) h d_Tide_height_44 (fun X6 H locs hS h => ?_)
      refine lv_iload_n hx hb d_Tide_height_45 rfl (lv_at hl 0 rfl) ?_
      exact r_iret C hS rfl h d_Tide_height_46
    · skip
      exact k_Tide_height_j18 C h hS (lv_sub hl [0] rfl)
set_option maxHeartbeats 4000000 in
set_option maxRecDepth 100000 in
theorem k_Tide_cell_j17 {p : Program} {l : Launch} {e : Env} {s : State} {m : MethodId} {args : Array Value} {below : List Frame} {meth : Method} {c : Code} {E : En} {r : Int32} {Y : Mem} (C : Cx p s m args meth c c_Tide_cell 3 "TideLoans" (some .int) E) {X : Mem} (h : f_Tide_cell_j17 X = some (r, Y)) {H : Heap} {locs : List Loc} (hS : Hs E s.heap X H locs) {ls : Array Slot} (hl : lv_has ls 3 [(0, .ref (ad E 0))]) : W p l e ({ frames := 2, cells := 0, slots := 0, locals := 43 } : Room) s m args below meth c H locs 0 0 (MQ below (PostI E r Y) args s 0 0 (Ad E)) (F0 m 17 ls []) := by
  obtain ⟨hx, hb, hml, hown, hts, hrt, hlk, hKx⟩ := id C
  unfold f_Tide_cell_j17 at h
  refine lv_aload_n hx hb d_Tide_cell_17 rfl (lv_at hl 0 rfl) ?_
  refine lv_ldc (v := -1000000001) hx hb hown (hts _ tw_280) d_Tide_cell_18 ?_
  obtain ⟨v1, X3, hr2, h⟩ := bd2_el h
  refine c_I hS (c_runV (As := [.int (-1000000001 : Int32)]) (rest := []) C hS (by decide) cel_Tide (rfl : cls[5]? = some (R_Tide, T_Tide, 12)) (k_Tide_finding (l := l) (E := E) (X := X) hr2) cw_Tide_finding ini_Tide_finding ins_Tide_finding sel_Tide_finding tw_281 hd_Tide_finding rfl ⟨⟨rfl, rfl⟩, (Nat.le_of_ble_eq_true rfl), (Nat.le_of_ble_eq_true rfl)⟩ ⟨(Nat.le_of_ble_eq_true rfl), (Nat.le_of_ble_eq_true rfl)⟩ hl.1 rfl (Nat.le_of_ble_eq_true rfl) d_Tide_cell_20) (fun H locs hS => ?_)
  exact r_iret C hS rfl h d_Tide_cell_23
set_option maxHeartbeats 4000000 in
set_option maxRecDepth 100000 in
theorem k_Tide_cell {l : Launch} {E : En} {p1 : Int32} {p2 : Int32} {X : Mem} {r : Int32} {Y : Mem} (h : f_Tide_cell p1 p2 X = some (r, Y)) : Met l y_Tide_cell (Cond.code y_Tide_cell c_Tide_cell 3 (some .int) :: tb) ({ frames := 2, cells := 0, slots := 0, locals := 43 } : Room) (PreC E [.ref (ad E 0), .int p1, .int p2] X) (PostI E r Y) 0 0 (Ad E) := by
  refine met_of (by decide) (Nat.le_of_ble_eq_true rfl) (fun p e s m below meth c C hS ls hl => ?_)
  replace C : Cx p s m ([.ref (ad E 0), .int p1, .int p2] : List Value).toArray meth c c_Tide_cell 3 "TideLoans" (some .int) E := C
  replace hl : lv_has ls 3 [(0, .ref (ad E 0)), (1, .int p1), (2, .int p2)] := hl
  obtain ⟨hx, hb, hml, hown, hts, hrt, hlk, hKx⟩ := id C
  unfold f_Tide_cell at h
  refine lv_iload_n hx hb d_Tide_cell_0 rfl (lv_at hl 1 rfl) ?_
  refine lv_bipush (v := 16) hx hb d_Tide_cell_1 (by decide) ?_
  obtain ⟨v1, hr2, h⟩ := bd_el h
  refine c_I hS (c_runS (As := [.int p1, .int (16 : Int32)]) (rest := []) C hS (k_Tide_isBelow (l := l) (E := E) (X := X) hr2) cw_Tide_isBelow ini_Tide_isBelow sta_Tide_isBelow tw_277 hd_Tide_isBelow rfl ⟨⟨rfl, rfl⟩, (Nat.le_of_ble_eq_true rfl), (Nat.le_of_ble_eq_true rfl)⟩ ⟨(Nat.le_of_ble_eq_true rfl), (Nat.le_of_ble_eq_true rfl)⟩ hl.1 rfl (Nat.le_of_ble_eq_true rfl) d_Tide_cell_3) (fun H locs hS => ?_)
  refine r_if_eq (tgt := 17) C h d_Tide_cell_6 (by decide) (fun h => ?_) (fun h => ?_)
  · skip
    exact k_Tide_cell_j17 C h hS (lv_sub hl [0] rfl)
  · skip
    refine lv_iload_n hx hb d_Tide_cell_9 rfl (lv_at hl 2 rfl) ?_
    refine lv_iconst (v := 2) hx hb d_Tide_cell_10 (by decide) ?_
    obtain ⟨v3, hr4, h⟩ := bd_el h
    refine c_I hS (c_runS (As := [.int p2, .int (2 : Int32)]) (rest := []) C hS (k_Tide_isBelow (l := l) (E := E) (X := X) hr4) cw_Tide_isBelow ini_Tide_isBelow sta_Tide_isBelow tw_277 hd_Tide_isBelow rfl ⟨⟨rfl, rfl⟩, (Nat.le_of_ble_eq_true rfl), (Nat.le_of_ble_eq_true rfl)⟩ ⟨(Nat.le_of_ble_eq_true rfl), (Nat.le_of_ble_eq_true rfl)⟩ hl.1 rfl (Nat.le_of_ble_eq_true rfl) d_Tide_cell_11) (fun H locs hS => ?_)
    refine r_if_ne (tgt := 24) C h d_Tide_cell_14 (by decide) (fun h => ?_) (fun h => ?_)
    · skip
      refine lv_iload_n hx hb d_Tide_cell_24 rfl (lv_at hl 2 rfl) ?_
      refine r_if_ne (tgt := 40) C h d_Tide_cell_25 (by decide) (fun h => ?_) (fun h => ?_)
      · skip
        refine lv_aload_n hx hb d_Tide_cell_40 rfl (lv_at hl 0 rfl) ?_
        refine r_get C hS (by decide) cel_Tide (rfl : cls[5]? = some (R_Tide, T_Tide, 12)) in_Tide 1 (by decide) tw_237 rfl d_Tide_cell_41 ?_
        refine lv_iload_n hx hb d_Tide_cell_44 rfl (lv_at hl 1 rfl) ?_
        obtain ⟨v5, hr6, h⟩ := bd_el h
        refine c_I hS (c_runV (As := [.int p1]) (rest := []) C hS (by decide) (cel_Shore (rfl : kd 2 = 1)) (rfl : cls[1]? = some (R_Shore, T_Shore, 6)) (k_Shore_laidAt (l := l) (E := E) (X := X) rfl hr6) cw_Shore_laidAt ini_Shore_laidAt ins_Shore_laidAt sel_Shore_laidAt tw_289 hd_Shore_laidAt rfl ⟨⟨rfl, rfl⟩, (Nat.le_of_ble_eq_true rfl), (Nat.le_of_ble_eq_true rfl)⟩ ⟨(Nat.le_of_ble_eq_true rfl), (Nat.le_of_ble_eq_true rfl)⟩ hl.1 rfl (Nat.le_of_ble_eq_true rfl) d_Tide_cell_45) (fun H locs hS => ?_)
        exact r_iret C hS rfl h d_Tide_cell_48
      · skip
        refine lv_aload_n hx hb d_Tide_cell_28 rfl (lv_at hl 0 rfl) ?_
        refine r_get C hS (by decide) cel_Tide (rfl : cls[5]? = some (R_Tide, T_Tide, 12)) in_Tide 1 (by decide) tw_237 rfl d_Tide_cell_29 ?_
        refine r_get C hS (by decide) (cel_Shore (rfl : kd 2 = 1)) (rfl : cls[1]? = some (R_Shore, T_Shore, 6)) in_Shore 0 (by decide) tw_132 rfl d_Tide_cell_32 ?_
        refine lv_iload_n hx hb d_Tide_cell_35 rfl (lv_at hl 1 rfl) ?_
        refine r_ldI C hS (n := 16) (kd_heights rfl) (by decide) h d_Tide_cell_36 (fun v7 h => ?_)
        refine lv_goto (tgt := 48) hx hb d_Tide_cell_37 (by decide) ?_
        exact r_iret C hS rfl h d_Tide_cell_48
    · skip
      exact k_Tide_cell_j17 C h hS (lv_sub hl [0] rfl)
set_option maxHeartbeats 4000000 in
set_option maxRecDepth 100000 in
theorem k_Tide_isUpTo {l : Launch} {E : En} {p0 : Int32} {p1 : Int32} {p2 : Int32} {X : Mem} {r : Int32} (h : f_Tide_isUpTo p0 p1 p2 = some r) : Met l y_Tide_isUpTo (Cond.code y_Tide_isUpTo c_Tide_isUpTo 3 (some .boolean) :: tb) ({ frames := 0, cells := 0, slots := 0, locals := 0 } : Room) (PreC E [.int p0, .int p1, .int p2] X) (PostI E r X) 0 0 (Ad E) := by
  refine met_of (by decide) (Nat.le_of_ble_eq_true rfl) (fun p e s m below meth c C hS ls hl => ?_)
  replace C : Cx p s m ([.int p0, .int p1, .int p2] : List Value).toArray meth c c_Tide_isUpTo 3 "TideLoans" (some .boolean) E := C
  replace hl : lv_has ls 3 [(0, .int p0), (1, .int p1), (2, .int p2)] := hl
  obtain ⟨hx, hb, hml, hown, hts, hrt, hlk, hKx⟩ := id C
  unfold f_Tide_isUpTo at h
  refine lv_iload_n hx hb d_Tide_isUpTo_0 rfl (lv_at hl 0 rfl) ?_
  refine lv_iload_n hx hb d_Tide_isUpTo_1 rfl (lv_at hl 1 rfl) ?_
  refine r_icmp_lt (tgt := 14) C h d_Tide_isUpTo_2 (by decide) (fun h => ?_) (fun h => ?_)
  · skip
    refine lv_iconst (v := 0) hx hb d_Tide_isUpTo_14 (by decide) ?_
    exact r_zret0 C hS rfl (Or.inl rfl) h d_Tide_isUpTo_15
  · skip
    refine lv_iload_n hx hb d_Tide_isUpTo_5 rfl (lv_at hl 0 rfl) ?_
    refine lv_iload_n hx hb d_Tide_isUpTo_6 rfl (lv_at hl 2 rfl) ?_
    refine r_icmp_gt (tgt := 14) C h d_Tide_isUpTo_7 (by decide) (fun h => ?_) (fun h => ?_)
    · skip
      refine lv_iconst (v := 0) hx hb d_Tide_isUpTo_14 (by decide) ?_
      exact r_zret0 C hS rfl (Or.inl rfl) h d_Tide_isUpTo_15
    · skip
      refine lv_iconst (v := 1) hx hb d_Tide_isUpTo_10 (by decide) ?_
      refine lv_goto (tgt := 15) hx hb d_Tide_isUpTo_11 (by decide) ?_
      exact r_zret0 C hS rfl (Or.inr rfl) h d_Tide_isUpTo_15
set_option maxHeartbeats 4000000 in
set_option maxRecDepth 100000 in
theorem k_Tide_interest {l : Launch} {E : En} {p1 : Int32} {X : Mem} {r : Int32} {Y : Mem} (h : f_Tide_interest p1 X = some (r, Y)) : Met l y_Tide_interest (Cond.code y_Tide_interest c_Tide_interest 3 (some .int) :: tb) ({ frames := 2, cells := 0, slots := 0, locals := 43 } : Room) (PreC E [.ref (ad E 0), .int p1] X) (PostI E r Y) 0 0 (Ad E) := by
  refine met_of (by decide) (Nat.le_of_ble_eq_true rfl) (fun p e s m below meth c C hS ls hl => ?_)
  replace C : Cx p s m ([.ref (ad E 0), .int p1] : List Value).toArray meth c c_Tide_interest 3 "TideLoans" (some .int) E := C
  replace hl : lv_has ls 3 [(0, .ref (ad E 0)), (1, .int p1)] := hl
  obtain ⟨hx, hb, hml, hown, hts, hrt, hlk, hKx⟩ := id C
  unfold f_Tide_interest at h
  refine lv_iload_n hx hb d_Tide_interest_0 rfl (lv_at hl 1 rfl) ?_
  refine lv_iconst (v := 0) hx hb d_Tide_interest_1 (by decide) ?_
  refine lv_bipush (v := 50) hx hb d_Tide_interest_2 (by decide) ?_
  obtain ⟨v1, hr2, h⟩ := bd_el h
  refine c_I hS (c_runS (As := [.int p1, .int (0 : Int32), .int (50 : Int32)]) (rest := []) C hS (k_Tide_isUpTo (l := l) (E := E) (X := X) hr2) cw_Tide_isUpTo ini_Tide_isUpTo sta_Tide_isUpTo tw_297 hd_Tide_isUpTo rfl ⟨⟨rfl, rfl⟩, (Nat.le_of_ble_eq_true rfl), (Nat.le_of_ble_eq_true rfl)⟩ ⟨(Nat.le_of_ble_eq_true rfl), (Nat.le_of_ble_eq_true rfl)⟩ hl.1 rfl (Nat.le_of_ble_eq_true rfl) d_Tide_interest_4) (fun H locs hS => ?_)
  refine r_if_ne (tgt := 17) C h d_Tide_interest_7 (by decide) (fun h => ?_) (fun h => ?_)
  · skip
    refine lv_aload_n hx hb d_Tide_interest_17 rfl (lv_at hl 0 rfl) ?_
    refine r_get C hS (by decide) cel_Tide (rfl : cls[5]? = some (R_Tide, T_Tide, 12)) in_Tide 1 (by decide) tw_237 rfl d_Tide_interest_18 ?_
    refine r_getI C hS (by decide) (cel_Shore (rfl : kd 2 = 1)) (rfl : cls[1]? = some (R_Shore, T_Shore, 6)) in_Shore 5 (by decide) tw_142 rfl h d_Tide_interest_21 (fun v3 h => ?_)
    refine lv_istore_n (lv' := [(2, .int v3), (0, .ref (ad E 0)), (1, .int p1)]) hx hb d_Tide_interest_24 rfl hl (by decide) rfl (fun ls hl => ?_)
    refine lv_aload_n hx hb d_Tide_interest_25 rfl (lv_at hl 1 rfl) ?_
    refine r_get C hS (by decide) cel_Tide (rfl : cls[5]? = some (R_Tide, T_Tide, 12)) in_Tide 1 (by decide) tw_237 rfl d_Tide_interest_26 ?_
    refine lv_iload_n hx hb d_Tide_interest_29 rfl (lv_at hl 2 rfl) ?_
    refine r_putI C hS (by decide) (cel_Shore (rfl : kd 2 = 1)) (rfl : cls[1]? = some (R_Shore, T_Shore, 6)) in_Shore ty_Shore tyok_Shore nm_Shore 5 (by decide) tw_142 rfl rfl rfl (Nat.le_of_ble_eq_true rfl) (set_Shore_5 (rfl : kd 2 = 1)) rfl h d_Tide_interest_30 (fun X4 H locs hS h => ?_)
    refine lv_iload_n hx hb d_Tide_interest_33 rfl (lv_at hl 0 rfl) ?_
    exact r_iret C hS rfl h d_Tide_interest_34
  · skip
    refine lv_aload_n hx hb d_Tide_interest_10 rfl (lv_at hl 0 rfl) ?_
    refine lv_ldc (v := -1000000001) hx hb hown (hts _ tw_280) d_Tide_interest_11 ?_
    obtain ⟨v5, X7, hr6, h⟩ := bd2_el h
    refine c_I hS (c_runV (As := [.int (-1000000001 : Int32)]) (rest := []) C hS (by decide) cel_Tide (rfl : cls[5]? = some (R_Tide, T_Tide, 12)) (k_Tide_finding (l := l) (E := E) (X := X) hr6) cw_Tide_finding ini_Tide_finding ins_Tide_finding sel_Tide_finding tw_281 hd_Tide_finding rfl ⟨⟨rfl, rfl⟩, (Nat.le_of_ble_eq_true rfl), (Nat.le_of_ble_eq_true rfl)⟩ ⟨(Nat.le_of_ble_eq_true rfl), (Nat.le_of_ble_eq_true rfl)⟩ hl.1 rfl (Nat.le_of_ble_eq_true rfl) d_Tide_interest_13) (fun H locs hS => ?_)
    exact r_iret C hS rfl h d_Tide_interest_16
set_option maxHeartbeats 4000000 in
set_option maxRecDepth 100000 in
theorem k_Tide_tide {l : Launch} {E : En} {p1 : Int32} {p2 : Int32} {X : Mem} {r : Int32} {Y : Mem} (h : f_Tide_tide p1 p2 X = some (r, Y)) : Met l y_Tide_tide (Cond.code y_Tide_tide c_Tide_tide 3 (some .int) :: tb) ({ frames := 2, cells := 0, slots := 0, locals := 43 } : Room) (PreC E [.ref (ad E 0), .int p1, .int p2] X) (PostI E r Y) 0 0 (Ad E) := by
  refine met_of (by decide) (Nat.le_of_ble_eq_true rfl) (fun p e s m below meth c C hS ls hl => ?_)
  replace C : Cx p s m ([.ref (ad E 0), .int p1, .int p2] : List Value).toArray meth c c_Tide_tide 3 "TideLoans" (some .int) E := C
  replace hl : lv_has ls 3 [(0, .ref (ad E 0)), (1, .int p1), (2, .int p2)] := hl
  obtain ⟨hx, hb, hml, hown, hts, hrt, hlk, hKx⟩ := id C
  unfold f_Tide_tide at h
  refine lv_iload_n hx hb d_Tide_tide_0 rfl (lv_at hl 1 rfl) ?_
  refine lv_iconst (v := 0) hx hb d_Tide_tide_1 (by decide) ?_
  refine lv_ldc (v := 99999) hx hb hown (hts _ tw_304) d_Tide_tide_2 ?_
  obtain ⟨v1, hr2, h⟩ := bd_el h
  refine c_I hS (c_runS (As := [.int p1, .int (0 : Int32), .int (99999 : Int32)]) (rest := []) C hS (k_Tide_isUpTo (l := l) (E := E) (X := X) hr2) cw_Tide_isUpTo ini_Tide_isUpTo sta_Tide_isUpTo tw_297 hd_Tide_isUpTo rfl ⟨⟨rfl, rfl⟩, (Nat.le_of_ble_eq_true rfl), (Nat.le_of_ble_eq_true rfl)⟩ ⟨(Nat.le_of_ble_eq_true rfl), (Nat.le_of_ble_eq_true rfl)⟩ hl.1 rfl (Nat.le_of_ble_eq_true rfl) d_Tide_tide_4) (fun H locs hS => ?_)
  refine r_if_ne (tgt := 17) C h d_Tide_tide_7 (by decide) (fun h => ?_) (fun h => ?_)
  · skip
    refine lv_iload_n hx hb d_Tide_tide_17 rfl (lv_at hl 2 rfl) ?_
    refine sw_c (v := 0) (w := 0) (by decide) h (fun hv h => ?_) (fun hn0 h => ?_)
    · refine r_tabIn C hv d_Tide_tide_18 (by decide) (by decide) rfl (tgt := 48) (by decide) ?_
      refine lv_iload_n hx hb d_Tide_tide_48 rfl (lv_at hl 1 rfl) ?_
      obtain ⟨v3, hr4, h⟩ := bd_el h
      refine c_I hS (c_runS (As := [.int p1]) (rest := []) C hS (k_Tide_markOf (l := l) (E := E) (X := X) hr4) cw_Tide_markOf ini_Tide_markOf sta_Tide_markOf tw_305 hd_Tide_markOf rfl ⟨⟨rfl, rfl⟩, (Nat.le_of_ble_eq_true rfl), (Nat.le_of_ble_eq_true rfl)⟩ ⟨(Nat.le_of_ble_eq_true rfl), (Nat.le_of_ble_eq_true rfl)⟩ hl.1 rfl (Nat.le_of_ble_eq_true rfl) d_Tide_tide_49) (fun H locs hS => ?_)
      exact r_iret C hS rfl h d_Tide_tide_52
    refine sw_c (v := 1) (w := 1) (by decide) h (fun hv h => ?_) (fun hn1 h => ?_)
    · refine r_tabIn C hv d_Tide_tide_18 (by decide) (by decide) rfl (tgt := 53) (by decide) ?_
      refine lv_iload_n hx hb d_Tide_tide_53 rfl (lv_at hl 1 rfl) ?_
      obtain ⟨v5, hr6, h⟩ := bd_el h
      refine c_I hS (c_runS (As := [.int p1]) (rest := []) C hS (k_Tide_moonOf (l := l) (E := E) (X := X) hr6) cw_Tide_moonOf ini_Tide_moonOf sta_Tide_moonOf tw_308 hd_Tide_moonOf rfl ⟨⟨rfl, rfl⟩, (Nat.le_of_ble_eq_true rfl), (Nat.le_of_ble_eq_true rfl)⟩ ⟨(Nat.le_of_ble_eq_true rfl), (Nat.le_of_ble_eq_true rfl)⟩ hl.1 rfl (Nat.le_of_ble_eq_true rfl) d_Tide_tide_54) (fun H locs hS => ?_)
      exact r_iret C hS rfl h d_Tide_tide_57
    refine sw_c (v := 2) (w := 2) (by decide) h (fun hv h => ?_) (fun hn2 h => ?_)
    · refine r_tabIn C hv d_Tide_tide_18 (by decide) (by decide) rfl (tgt := 58) (by decide) ?_
      refine lv_iload_n hx hb d_Tide_tide_58 rfl (lv_at hl 1 rfl) ?_
      obtain ⟨v7, hr8, h⟩ := bd_el h
      refine c_I hS (c_runS (As := [.int p1]) (rest := []) C hS (k_Tide_isSpring (l := l) (E := E) (X := X) hr8) cw_Tide_isSpring ini_Tide_isSpring sta_Tide_isSpring tw_311 hd_Tide_isSpring rfl ⟨⟨rfl, rfl⟩, (Nat.le_of_ble_eq_true rfl), (Nat.le_of_ble_eq_true rfl)⟩ ⟨(Nat.le_of_ble_eq_true rfl), (Nat.le_of_ble_eq_true rfl)⟩ hl.1 rfl (Nat.le_of_ble_eq_true rfl) d_Tide_tide_59) (fun H locs hS => ?_)
      refine r_if_eq (tgt := 69) C h d_Tide_tide_62 (by decide) (fun h => ?_) (fun h => ?_)
      · skip
        refine lv_iconst (v := 0) hx hb d_Tide_tide_69 (by decide) ?_
        exact r_iret C hS rfl h d_Tide_tide_70
      · skip
        refine lv_iconst (v := 1) hx hb d_Tide_tide_65 (by decide) ?_
        refine lv_goto (tgt := 70) hx hb d_Tide_tide_66 (by decide) ?_
        exact r_iret C hS rfl h d_Tide_tide_70
    refine sw_c (v := 3) (w := 3) (by decide) h (fun hv h => ?_) (fun hn3 h => ?_)
    · refine r_tabIn C hv d_Tide_tide_18 (by decide) (by decide) rfl (tgt := 71) (by decide) ?_
      refine lv_aload_n hx hb d_Tide_tide_71 rfl (lv_at hl 0 rfl) ?_
      refine r_get C hS (by decide) cel_Tide (rfl : cls[5]? = some (R_Tide, T_Tide, 12)) in_Tide 1 (by decide) tw_237 rfl d_Tide_tide_72 ?_
      refine lv_iload_n hx hb d_Tide_tide_75 rfl (lv_at hl 1 rfl) ?_
      obtain ⟨v9, hr10, h⟩ := bd_el h
      refine c_I hS (c_runS (As := [.int p1]) (rest := [.ref (ad E 2)]) C hS (k_Tide_markOf (l := l) (E := E) (X := X) hr10) cw_Tide_markOf ini_Tide_markOf sta_Tide_markOf tw_305 hd_Tide_markOf rfl ⟨⟨rfl, rfl⟩, (Nat.le_of_ble_eq_true rfl), (Nat.le_of_ble_eq_true rfl)⟩ ⟨(Nat.le_of_ble_eq_true rfl), (Nat.le_of_ble_eq_true rfl)⟩ hl.1 rfl (Nat.le_of_ble_eq_true rfl) d_Tide_tide_76) (fun H locs hS => ?_)
      obtain ⟨v11, hr12, h⟩ := bd_el h
      refine c_I hS (c_runV (As := [.int v9]) (rest := []) C hS (by decide) (cel_Shore (rfl : kd 2 = 1)) (rfl : cls[1]? = some (R_Shore, T_Shore, 6)) (k_Shore_cellsBelow (l := l) (E := E) (X := X) rfl hr12) cw_Shore_cellsBelow ini_Shore_cellsBelow ins_Shore_cellsBelow sel_Shore_cellsBelow tw_314 hd_Shore_cellsBelow rfl ⟨⟨rfl, rfl⟩, (Nat.le_of_ble_eq_true rfl), (Nat.le_of_ble_eq_true rfl)⟩ ⟨(Nat.le_of_ble_eq_true rfl), (Nat.le_of_ble_eq_true rfl)⟩ hl.1 rfl (Nat.le_of_ble_eq_true rfl) d_Tide_tide_79) (fun H locs hS => ?_)
      exact r_iret C hS rfl h d_Tide_tide_82
    refine lv_tableOut (tgt := 83) hx hb d_Tide_tide_18 (out_e (k := 4) (out_s (k := 3) (k1 := 4) (out_s (k := 2) (k1 := 3) (out_s (k := 1) (k1 := 2) (out_s (k := 0) (k1 := 1) out_0 hn0 (by decide)) hn1 (by decide)) hn2 (by decide)) hn3 (by decide)) (by decide)) (by decide) ?_
    refine lv_aload_n hx hb d_Tide_tide_83 rfl (lv_at hl 0 rfl) ?_
    refine lv_ldc (v := -1000000001) hx hb hown (hts _ tw_280) d_Tide_tide_84 ?_
    obtain ⟨v13, X15, hr14, h⟩ := bd2_el h
    refine c_I hS (c_runV (As := [.int (-1000000001 : Int32)]) (rest := []) C hS (by decide) cel_Tide (rfl : cls[5]? = some (R_Tide, T_Tide, 12)) (k_Tide_finding (l := l) (E := E) (X := X) hr14) cw_Tide_finding ini_Tide_finding ins_Tide_finding sel_Tide_finding tw_281 hd_Tide_finding rfl ⟨⟨rfl, rfl⟩, (Nat.le_of_ble_eq_true rfl), (Nat.le_of_ble_eq_true rfl)⟩ ⟨(Nat.le_of_ble_eq_true rfl), (Nat.le_of_ble_eq_true rfl)⟩ hl.1 rfl (Nat.le_of_ble_eq_true rfl) d_Tide_tide_86) (fun H locs hS => ?_)
    exact r_iret C hS rfl h d_Tide_tide_89
  · skip
    refine lv_aload_n hx hb d_Tide_tide_10 rfl (lv_at hl 0 rfl) ?_
    refine lv_ldc (v := -1000000001) hx hb hown (hts _ tw_280) d_Tide_tide_11 ?_
    obtain ⟨v16, X18, hr17, h⟩ := bd2_el h
    refine c_I hS (c_runV (As := [.int (-1000000001 : Int32)]) (rest := []) C hS (by decide) cel_Tide (rfl : cls[5]? = some (R_Tide, T_Tide, 12)) (k_Tide_finding (l := l) (E := E) (X := X) hr17) cw_Tide_finding ini_Tide_finding ins_Tide_finding sel_Tide_finding tw_281 hd_Tide_finding rfl ⟨⟨rfl, rfl⟩, (Nat.le_of_ble_eq_true rfl), (Nat.le_of_ble_eq_true rfl)⟩ ⟨(Nat.le_of_ble_eq_true rfl), (Nat.le_of_ble_eq_true rfl)⟩ hl.1 rfl (Nat.le_of_ble_eq_true rfl) d_Tide_tide_13) (fun H locs hS => ?_)
    exact r_iret C hS rfl h d_Tide_tide_16
set_option maxHeartbeats 4000000 in
set_option maxRecDepth 100000 in
theorem k_Tide_purse_j18 {p : Program} {l : Launch} {e : Env} {s : State} {m : MethodId} {args : Array Value} {below : List Frame} {meth : Method} {c : Code} {E : En} {r : Int32} {Y : Mem} (C : Cx p s m args meth c c_Tide_purse 4 "TideLoans" (some .int) E) {X : Mem} (h : f_Tide_purse_j18 X = some (r, Y)) {H : Heap} {locs : List Loc} (hS : Hs E s.heap X H locs) {ls : Array Slot} (hl : lv_has ls 4 [(0, .ref (ad E 0))]) : W p l e ({ frames := 2, cells := 0, slots := 0, locals := 43 } : Room) s m args below meth c H locs 0 0 (MQ below (PostI E r Y) args s 0 0 (Ad E)) (F0 m 18 ls []) := by
  obtain ⟨hx, hb, hml, hown, hts, hrt, hlk, hKx⟩ := id C
  unfold f_Tide_purse_j18 at h
  refine lv_aload_n hx hb d_Tide_purse_18 rfl (lv_at hl 0 rfl) ?_
  refine lv_ldc (v := -1000000001) hx hb hown (hts _ tw_280) d_Tide_purse_19 ?_
  obtain ⟨v1, X3, hr2, h⟩ := bd2_el h
  refine c_I hS (c_runV (As := [.int (-1000000001 : Int32)]) (rest := []) C hS (by decide) cel_Tide (rfl : cls[5]? = some (R_Tide, T_Tide, 12)) (k_Tide_finding (l := l) (E := E) (X := X) hr2) cw_Tide_finding ini_Tide_finding ins_Tide_finding sel_Tide_finding tw_281 hd_Tide_finding rfl ⟨⟨rfl, rfl⟩, (Nat.le_of_ble_eq_true rfl), (Nat.le_of_ble_eq_true rfl)⟩ ⟨(Nat.le_of_ble_eq_true rfl), (Nat.le_of_ble_eq_true rfl)⟩ hl.1 rfl (Nat.le_of_ble_eq_true rfl) d_Tide_purse_21) (fun H locs hS => ?_)
  exact r_iret C hS rfl h d_Tide_purse_24
set_option maxHeartbeats 4000000 in
set_option maxRecDepth 100000 in
theorem k_Tide_purse {l : Launch} {E : En} {p1 : Int32} {p2 : Int32} {X : Mem} {r : Int32} {Y : Mem} (h : f_Tide_purse p1 p2 X = some (r, Y)) : Met l y_Tide_purse (Cond.code y_Tide_purse c_Tide_purse 4 (some .int) :: tb) ({ frames := 2, cells := 0, slots := 0, locals := 43 } : Room) (PreC E [.ref (ad E 0), .int p1, .int p2] X) (PostI E r Y) 0 0 (Ad E) := by
  refine met_of (by decide) (Nat.le_of_ble_eq_true rfl) (fun p e s m below meth c C hS ls hl => ?_)
  replace C : Cx p s m ([.ref (ad E 0), .int p1, .int p2] : List Value).toArray meth c c_Tide_purse 4 "TideLoans" (some .int) E := C
  replace hl : lv_has ls 4 [(0, .ref (ad E 0)), (1, .int p1), (2, .int p2)] := hl
  obtain ⟨hx, hb, hml, hown, hts, hrt, hlk, hKx⟩ := id C
  unfold f_Tide_purse at h
  refine lv_iload_n hx hb d_Tide_purse_0 rfl (lv_at hl 1 rfl) ?_
  refine lv_iconst (v := 4) hx hb d_Tide_purse_1 (by decide) ?_
  obtain ⟨v1, hr2, h⟩ := bd_el h
  refine c_I hS (c_runS (As := [.int p1, .int (4 : Int32)]) (rest := []) C hS (k_Tide_isBelow (l := l) (E := E) (X := X) hr2) cw_Tide_isBelow ini_Tide_isBelow sta_Tide_isBelow tw_277 hd_Tide_isBelow rfl ⟨⟨rfl, rfl⟩, (Nat.le_of_ble_eq_true rfl), (Nat.le_of_ble_eq_true rfl)⟩ ⟨(Nat.le_of_ble_eq_true rfl), (Nat.le_of_ble_eq_true rfl)⟩ hl.1 rfl (Nat.le_of_ble_eq_true rfl) d_Tide_purse_2) (fun H locs hS => ?_)
  refine r_if_eq (tgt := 18) C h d_Tide_purse_5 (by decide) (fun h => ?_) (fun h => ?_)
  · skip
    exact k_Tide_purse_j18 C h hS (lv_sub hl [0] rfl)
  · skip
    refine lv_iload_n hx hb d_Tide_purse_8 rfl (lv_at hl 2 rfl) ?_
    refine lv_iconst (v := 0) hx hb d_Tide_purse_9 (by decide) ?_
    refine lv_ldc (v := 999999999) hx hb hown (hts _ tw_322) d_Tide_purse_10 ?_
    obtain ⟨v3, hr4, h⟩ := bd_el h
    refine c_I hS (c_runS (As := [.int p2, .int (0 : Int32), .int (999999999 : Int32)]) (rest := []) C hS (k_Tide_isUpTo (l := l) (E := E) (X := X) hr4) cw_Tide_isUpTo ini_Tide_isUpTo sta_Tide_isUpTo tw_297 hd_Tide_isUpTo rfl ⟨⟨rfl, rfl⟩, (Nat.le_of_ble_eq_true rfl), (Nat.le_of_ble_eq_true rfl)⟩ ⟨(Nat.le_of_ble_eq_true rfl), (Nat.le_of_ble_eq_true rfl)⟩ hl.1 rfl (Nat.le_of_ble_eq_true rfl) d_Tide_purse_12) (fun H locs hS => ?_)
    refine r_if_ne (tgt := 25) C h d_Tide_purse_15 (by decide) (fun h => ?_) (fun h => ?_)
    · skip
      refine lv_aload_n hx hb d_Tide_purse_25 rfl (lv_at hl 0 rfl) ?_
      refine r_get C hS (by decide) cel_Tide (rfl : cls[5]? = some (R_Tide, T_Tide, 12)) in_Tide 1 (by decide) tw_237 rfl d_Tide_purse_26 ?_
      refine r_get C hS (by decide) (cel_Shore (rfl : kd 2 = 1)) (rfl : cls[1]? = some (R_Shore, T_Shore, 6)) in_Shore 1 (by decide) tw_134 rfl d_Tide_purse_29 ?_
      refine lv_iload_n hx hb d_Tide_purse_32 rfl (lv_at hl 1 rfl) ?_
      refine r_ldI C hS (n := 4) (kd_purses rfl) (by decide) h d_Tide_purse_33 (fun v5 h => ?_)
      refine lv_istore_n (lv' := [(3, .int v5), (0, .ref (ad E 0)), (1, .int p1), (2, .int p2)]) hx hb d_Tide_purse_34 rfl hl (by decide) rfl (fun ls hl => ?_)
      refine lv_aload_n hx hb d_Tide_purse_35 rfl (lv_at hl 1 rfl) ?_
      refine r_get C hS (by decide) cel_Tide (rfl : cls[5]? = some (R_Tide, T_Tide, 12)) in_Tide 1 (by decide) tw_237 rfl d_Tide_purse_36 ?_
      refine r_get C hS (by decide) (cel_Shore (rfl : kd 2 = 1)) (rfl : cls[1]? = some (R_Shore, T_Shore, 6)) in_Shore 1 (by decide) tw_134 rfl d_Tide_purse_39 ?_
      refine lv_iload_n hx hb d_Tide_purse_42 rfl (lv_at hl 2 rfl) ?_
      refine lv_iload_n hx hb d_Tide_purse_43 rfl (lv_at hl 3 rfl) ?_
      refine r_stI C hS (n := 4) (kd_purses rfl) (by decide) h d_Tide_purse_44 (fun X6 H locs hS h => ?_)
      refine lv_iload_n hx hb d_Tide_purse_45 rfl (lv_at hl 0 rfl) ?_
      exact r_iret C hS rfl h d_Tide_purse_46
    · skip
      exact k_Tide_purse_j18 C h hS (lv_sub hl [0] rfl)
set_option maxHeartbeats 4000000 in
set_option maxRecDepth 100000 in
theorem k_Tide_thing_j17 {p : Program} {l : Launch} {e : Env} {s : State} {m : MethodId} {args : Array Value} {below : List Frame} {meth : Method} {c : Code} {E : En} {r : Int32} {Y : Mem} (C : Cx p s m args meth c c_Tide_thing 3 "TideLoans" (some .int) E) {X : Mem} (h : f_Tide_thing_j17 X = some (r, Y)) {H : Heap} {locs : List Loc} (hS : Hs E s.heap X H locs) {ls : Array Slot} (hl : lv_has ls 3 [(0, .ref (ad E 0))]) : W p l e ({ frames := 2, cells := 0, slots := 0, locals := 44 } : Room) s m args below meth c H locs 0 0 (MQ below (PostI E r Y) args s 0 0 (Ad E)) (F0 m 17 ls []) := by
  obtain ⟨hx, hb, hml, hown, hts, hrt, hlk, hKx⟩ := id C
  unfold f_Tide_thing_j17 at h
  refine lv_aload_n hx hb d_Tide_thing_17 rfl (lv_at hl 0 rfl) ?_
  refine lv_ldc (v := -1000000001) hx hb hown (hts _ tw_280) d_Tide_thing_18 ?_
  obtain ⟨v1, X3, hr2, h⟩ := bd2_el h
  refine c_I hS (c_runV (As := [.int (-1000000001 : Int32)]) (rest := []) C hS (by decide) cel_Tide (rfl : cls[5]? = some (R_Tide, T_Tide, 12)) (k_Tide_finding (l := l) (E := E) (X := X) hr2) cw_Tide_finding ini_Tide_finding ins_Tide_finding sel_Tide_finding tw_281 hd_Tide_finding rfl ⟨⟨rfl, rfl⟩, (Nat.le_of_ble_eq_true rfl), (Nat.le_of_ble_eq_true rfl)⟩ ⟨(Nat.le_of_ble_eq_true rfl), (Nat.le_of_ble_eq_true rfl)⟩ hl.1 rfl (Nat.le_of_ble_eq_true rfl) d_Tide_thing_20) (fun H locs hS => ?_)
  exact r_iret C hS rfl h d_Tide_thing_23
set_option maxHeartbeats 4000000 in
set_option maxRecDepth 100000 in
theorem k_Tide_thing {l : Launch} {E : En} {p1 : Int32} {p2 : Int32} {X : Mem} {r : Int32} {Y : Mem} (h : f_Tide_thing p1 p2 X = some (r, Y)) : Met l y_Tide_thing (Cond.code y_Tide_thing c_Tide_thing 3 (some .int) :: tb) ({ frames := 2, cells := 0, slots := 0, locals := 44 } : Room) (PreC E [.ref (ad E 0), .int p1, .int p2] X) (PostI E r Y) 0 0 (Ad E) := by
  refine met_of (by decide) (Nat.le_of_ble_eq_true rfl) (fun p e s m below meth c C hS ls hl => ?_)
  replace C : Cx p s m ([.ref (ad E 0), .int p1, .int p2] : List Value).toArray meth c c_Tide_thing 3 "TideLoans" (some .int) E := C
  replace hl : lv_has ls 3 [(0, .ref (ad E 0)), (1, .int p1), (2, .int p2)] := hl
  obtain ⟨hx, hb, hml, hown, hts, hrt, hlk, hKx⟩ := id C
  unfold f_Tide_thing at h
  refine lv_iload_n hx hb d_Tide_thing_0 rfl (lv_at hl 1 rfl) ?_
  refine lv_bipush (v := 6) hx hb d_Tide_thing_1 (by decide) ?_
  obtain ⟨v1, hr2, h⟩ := bd_el h
  refine c_I hS (c_runS (As := [.int p1, .int (6 : Int32)]) (rest := []) C hS (k_Tide_isBelow (l := l) (E := E) (X := X) hr2) cw_Tide_isBelow ini_Tide_isBelow sta_Tide_isBelow tw_277 hd_Tide_isBelow rfl ⟨⟨rfl, rfl⟩, (Nat.le_of_ble_eq_true rfl), (Nat.le_of_ble_eq_true rfl)⟩ ⟨(Nat.le_of_ble_eq_true rfl), (Nat.le_of_ble_eq_true rfl)⟩ hl.1 rfl (Nat.le_of_ble_eq_true rfl) d_Tide_thing_3) (fun H locs hS => ?_)
  refine r_if_eq (tgt := 17) C h d_Tide_thing_6 (by decide) (fun h => ?_) (fun h => ?_)
  · skip
    exact k_Tide_thing_j17 C h hS (lv_sub hl [0] rfl)
  · skip
    refine lv_iload_n hx hb d_Tide_thing_9 rfl (lv_at hl 2 rfl) ?_
    refine lv_iconst (v := 4) hx hb d_Tide_thing_10 (by decide) ?_
    obtain ⟨v3, hr4, h⟩ := bd_el h
    refine c_I hS (c_runS (As := [.int p2, .int (4 : Int32)]) (rest := []) C hS (k_Tide_isBelow (l := l) (E := E) (X := X) hr4) cw_Tide_isBelow ini_Tide_isBelow sta_Tide_isBelow tw_277 hd_Tide_isBelow rfl ⟨⟨rfl, rfl⟩, (Nat.le_of_ble_eq_true rfl), (Nat.le_of_ble_eq_true rfl)⟩ ⟨(Nat.le_of_ble_eq_true rfl), (Nat.le_of_ble_eq_true rfl)⟩ hl.1 rfl (Nat.le_of_ble_eq_true rfl) d_Tide_thing_11) (fun H locs hS => ?_)
    refine r_if_ne (tgt := 24) C h d_Tide_thing_14 (by decide) (fun h => ?_) (fun h => ?_)
    · skip
      refine lv_aload_n hx hb d_Tide_thing_24 rfl (lv_at hl 0 rfl) ?_
      refine r_get C hS (by decide) cel_Tide (rfl : cls[5]? = some (R_Tide, T_Tide, 12)) in_Tide 1 (by decide) tw_237 rfl d_Tide_thing_25 ?_
      obtain ⟨v5, hr6, h⟩ := bd_el h
      refine c_I hS (c_runV (As := []) (rest := []) C hS (by decide) (cel_Shore (rfl : kd 2 = 1)) (rfl : cls[1]? = some (R_Shore, T_Shore, 6)) (k_Shore_isFull (l := l) (E := E) (X := X) rfl hr6) cw_Shore_isFull ini_Shore_isFull ins_Shore_isFull sel_Shore_isFull tw_327 hd_Shore_isFull rfl ⟨⟨rfl, rfl⟩, (Nat.le_of_ble_eq_true rfl), (Nat.le_of_ble_eq_true rfl)⟩ ⟨(Nat.le_of_ble_eq_true rfl), (Nat.le_of_ble_eq_true rfl)⟩ hl.1 rfl (Nat.le_of_ble_eq_true rfl) d_Tide_thing_28) (fun H locs hS => ?_)
      refine r_if_eq (tgt := 41) C h d_Tide_thing_31 (by decide) (fun h => ?_) (fun h => ?_)
      · skip
        refine lv_aload_n hx hb d_Tide_thing_41 rfl (lv_at hl 0 rfl) ?_
        refine r_get C hS (by decide) cel_Tide (rfl : cls[5]? = some (R_Tide, T_Tide, 12)) in_Tide 1 (by decide) tw_237 rfl d_Tide_thing_42 ?_
        refine lv_iload_n hx hb d_Tide_thing_45 rfl (lv_at hl 1 rfl) ?_
        refine lv_iload_n hx hb d_Tide_thing_46 rfl (lv_at hl 2 rfl) ?_
        obtain ⟨v7, X9, hr8, h⟩ := bd2_el h
        refine c_I hS (c_runV (As := [.int p1, .int p2]) (rest := []) C hS (by decide) (cel_Shore (rfl : kd 2 = 1)) (rfl : cls[1]? = some (R_Shore, T_Shore, 6)) (k_Shore_add (l := l) (E := E) (X := X) rfl hr8) cw_Shore_add ini_Shore_add ins_Shore_add sel_Shore_add tw_332 hd_Shore_add rfl ⟨⟨rfl, rfl⟩, (Nat.le_of_ble_eq_true rfl), (Nat.le_of_ble_eq_true rfl)⟩ ⟨(Nat.le_of_ble_eq_true rfl), (Nat.le_of_ble_eq_true rfl)⟩ hl.1 rfl (Nat.le_of_ble_eq_true rfl) d_Tide_thing_47) (fun H locs hS => ?_)
        exact r_iret C hS rfl h d_Tide_thing_50
      · skip
        refine lv_aload_n hx hb d_Tide_thing_34 rfl (lv_at hl 0 rfl) ?_
        refine lv_ldc (v := -1000000002) hx hb hown (hts _ tw_331) d_Tide_thing_35 ?_
        obtain ⟨v10, X12, hr11, h⟩ := bd2_el h
        refine c_I hS (c_runV (As := [.int (-1000000002 : Int32)]) (rest := []) C hS (by decide) cel_Tide (rfl : cls[5]? = some (R_Tide, T_Tide, 12)) (k_Tide_finding (l := l) (E := E) (X := X) hr11) cw_Tide_finding ini_Tide_finding ins_Tide_finding sel_Tide_finding tw_281 hd_Tide_finding rfl ⟨⟨rfl, rfl⟩, (Nat.le_of_ble_eq_true rfl), (Nat.le_of_ble_eq_true rfl)⟩ ⟨(Nat.le_of_ble_eq_true rfl), (Nat.le_of_ble_eq_true rfl)⟩ hl.1 rfl (Nat.le_of_ble_eq_true rfl) d_Tide_thing_37) (fun H locs hS => ?_)
        exact r_iret C hS rfl h d_Tide_thing_40
    · skip
      exact k_Tide_thing_j17 C h hS (lv_sub hl [0] rfl)
set_option maxHeartbeats 4000000 in
set_option maxRecDepth 100000 in
theorem k_Tide_owedNow {l : Launch} {E : En} {k1 : Nat} {X : Mem} {r : Int32} (hk1 : kd k1 = 2) (h : f_Tide_owedNow k1 X = some r) : Met l y_Tide_owedNow (Cond.code y_Tide_owedNow c_Tide_owedNow 2 (some .int) :: tb) ({ frames := 5, cells := 0, slots := 0, locals := 114 } : Room) (PreC E [.ref (ad E 0), .ref (ad E k1)] X) (PostI E r X) 0 0 (Ad E) := by
  refine met_of (by decide) (Nat.le_of_ble_eq_true rfl) (fun p e s m below meth c C hS ls hl => ?_)
  replace C : Cx p s m ([.ref (ad E 0), .ref (ad E k1)] : List Value).toArray meth c c_Tide_owedNow 2 "TideLoans" (some .int) E := C
  replace hl : lv_has ls 2 [(0, .ref (ad E 0)), (1, .ref (ad E k1))] := hl
  obtain ⟨hx, hb, hml, hown, hts, hrt, hlk, hKx⟩ := id C
  unfold f_Tide_owedNow at h
  refine lv_aload_n hx hb d_Tide_owedNow_0 rfl (lv_at hl 1 rfl) ?_
  refine r_getI C hS (kd_lt hk1 (by decide)) (cel_Thing hk1) (rfl : cls[3]? = some (R_Thing, T_Thing, 6)) in_Thing 4 (by decide) tw_113 rfl h d_Tide_owedNow_1 (fun v1 h => ?_)
  refine lv_iconst (v := 2) hx hb d_Tide_owedNow_4 (by decide) ?_
  refine r_icmp_ne (tgt := 38) C h d_Tide_owedNow_5 (by decide) (fun h => ?_) (fun h => ?_)
  · skip
    refine lv_iconst (v := 0) hx hb d_Tide_owedNow_38 (by decide) ?_
    exact r_iret0 C hS rfl h d_Tide_owedNow_39
  · skip
    refine lv_aload_n hx hb d_Tide_owedNow_8 rfl (lv_at hl 1 rfl) ?_
    refine lv_aload_n hx hb d_Tide_owedNow_9 rfl (lv_at hl 0 rfl) ?_
    refine r_get C hS (by decide) cel_Tide (rfl : cls[5]? = some (R_Tide, T_Tide, 12)) in_Tide 1 (by decide) tw_237 rfl d_Tide_owedNow_10 ?_
    refine r_getI C hS (by decide) (cel_Shore (rfl : kd 2 = 1)) (rfl : cls[1]? = some (R_Shore, T_Shore, 6)) in_Shore 5 (by decide) tw_142 rfl h d_Tide_owedNow_13 (fun v2 h => ?_)
    refine lv_aload_n hx hb d_Tide_owedNow_16 rfl (lv_at hl 1 rfl) ?_
    refine r_getI C hS (kd_lt hk1 (by decide)) (cel_Thing hk1) (rfl : cls[3]? = some (R_Thing, T_Thing, 6)) in_Thing 5 (by decide) tw_116 rfl h d_Tide_owedNow_17 (fun v3 h => ?_)
    refine lv_aload_n hx hb d_Tide_owedNow_20 rfl (lv_at hl 0 rfl) ?_
    refine r_get C hS (by decide) cel_Tide (rfl : cls[5]? = some (R_Tide, T_Tide, 12)) in_Tide 1 (by decide) tw_237 rfl d_Tide_owedNow_21 ?_
    refine r_getI C hS (by decide) (cel_Shore (rfl : kd 2 = 1)) (rfl : cls[1]? = some (R_Shore, T_Shore, 6)) in_Shore 4 (by decide) tw_140 rfl h d_Tide_owedNow_24 (fun v4 h => ?_)
    refine lv_aload_n hx hb d_Tide_owedNow_27 rfl (lv_at hl 1 rfl) ?_
    refine r_getI C hS (kd_lt hk1 (by decide)) (cel_Thing hk1) (rfl : cls[3]? = some (R_Thing, T_Thing, 6)) in_Thing 5 (by decide) tw_116 rfl h d_Tide_owedNow_28 (fun v5 h => ?_)
    refine lv_isub hx hb d_Tide_owedNow_31 ?_
    obtain ⟨v6, hr7, h⟩ := bd_el h
    refine c_I hS (c_runS (As := [.ref (ad E k1), .int v2, .int v3, .int (v4 - v5)]) (rest := []) C hS (k_Tide_repaid (l := l) (E := E) (X := X) hk1 hr7) cw_Tide_repaid ini_Tide_repaid sta_Tide_repaid tw_357 hd_Tide_repaid rfl ⟨⟨rfl, rfl⟩, (Nat.le_of_ble_eq_true rfl), (Nat.le_of_ble_eq_true rfl)⟩ ⟨(Nat.le_of_ble_eq_true rfl), (Nat.le_of_ble_eq_true rfl)⟩ hl.1 rfl (Nat.le_of_ble_eq_true rfl) d_Tide_owedNow_32) (fun H locs hS => ?_)
    refine lv_goto (tgt := 39) hx hb d_Tide_owedNow_35 (by decide) ?_
    exact r_iret0 C hS rfl h d_Tide_owedNow_39
set_option maxHeartbeats 4000000 in
set_option maxRecDepth 100000 in
theorem k_Tide_of {l : Launch} {E : En} {p1 : Int32} {p2 : Int32} {X : Mem} {r : Int32} {Y : Mem} (h : f_Tide_of p1 p2 X = some (r, Y)) : Met l y_Tide_of (Cond.code y_Tide_of c_Tide_of 4 (some .int) :: tb) ({ frames := 6, cells := 0, slots := 0, locals := 135 } : Room) (PreC E [.ref (ad E 0), .int p1, .int p2] X) (PostI E r Y) 0 0 (Ad E) := by
  refine met_of (by decide) (Nat.le_of_ble_eq_true rfl) (fun p e s m below meth c C hS ls hl => ?_)
  replace C : Cx p s m ([.ref (ad E 0), .int p1, .int p2] : List Value).toArray meth c c_Tide_of 4 "TideLoans" (some .int) E := C
  replace hl : lv_has ls 4 [(0, .ref (ad E 0)), (1, .int p1), (2, .int p2)] := hl
  obtain ⟨hx, hb, hml, hown, hts, hrt, hlk, hKx⟩ := id C
  unfold f_Tide_of at h
  refine lv_aload_n hx hb d_Tide_of_0 rfl (lv_at hl 0 rfl) ?_
  refine r_get C hS (by decide) cel_Tide (rfl : cls[5]? = some (R_Tide, T_Tide, 12)) in_Tide 1 (by decide) tw_237 rfl d_Tide_of_1 ?_
  refine lv_iload_n hx hb d_Tide_of_4 rfl (lv_at hl 1 rfl) ?_
  obtain ⟨v1, hr2, h⟩ := bd_el h
  refine c_I hS (c_runV (As := [.int p1]) (rest := []) C hS (by decide) (cel_Shore (rfl : kd 2 = 1)) (rfl : cls[1]? = some (R_Shore, T_Shore, 6)) (k_Shore_has (l := l) (E := E) (X := X) rfl hr2) cw_Shore_has ini_Shore_has ins_Shore_has sel_Shore_has tw_345 hd_Shore_has rfl ⟨⟨rfl, rfl⟩, (Nat.le_of_ble_eq_true rfl), (Nat.le_of_ble_eq_true rfl)⟩ ⟨(Nat.le_of_ble_eq_true rfl), (Nat.le_of_ble_eq_true rfl)⟩ hl.1 rfl (Nat.le_of_ble_eq_true rfl) d_Tide_of_5) (fun H locs hS => ?_)
  refine r_if_ne (tgt := 18) C h d_Tide_of_8 (by decide) (fun h => ?_) (fun h => ?_)
  · skip
    refine lv_aload_n hx hb d_Tide_of_18 rfl (lv_at hl 0 rfl) ?_
    refine r_get C hS (by decide) cel_Tide (rfl : cls[5]? = some (R_Tide, T_Tide, 12)) in_Tide 1 (by decide) tw_237 rfl d_Tide_of_19 ?_
    refine r_get C hS (by decide) (cel_Shore (rfl : kd 2 = 1)) (rfl : cls[1]? = some (R_Shore, T_Shore, 6)) in_Shore 2 (by decide) tw_136 rfl d_Tide_of_22 ?_
    refine lv_iload_n hx hb d_Tide_of_25 rfl (lv_at hl 1 rfl) ?_
    refine r_ldT C hS (kd_things rfl) h d_Tide_of_26 (fun j3 hj3 h => ?_)
    refine lv_astore_n (lv' := [(3, .ref (ad E ((2 + 3) + 1 + j3))), (0, .ref (ad E 0)), (1, .int p1), (2, .int p2)]) hx hb d_Tide_of_27 rfl hl (by decide) rfl (fun ls hl => ?_)
    refine lv_iload_n hx hb d_Tide_of_28 rfl (lv_at hl 3 rfl) ?_
    refine sw_c (v := 0) (w := 0) (by decide) h (fun hv h => ?_) (fun hn0 h => ?_)
    · refine r_tabIn C hv d_Tide_of_29 (by decide) (by decide) rfl (tgt := 76) (by decide) ?_
      refine lv_aload_n hx hb d_Tide_of_76 rfl (lv_at hl 0 rfl) ?_
      refine r_getI C hS (kd_lt (kd_thing (kd_things rfl) hj3) (by decide)) (cel_Thing (kd_thing (kd_things rfl) hj3)) (rfl : cls[3]? = some (R_Thing, T_Thing, 6)) in_Thing 0 (by decide) tw_101 rfl h d_Tide_of_77 (fun v4 h => ?_)
      exact r_iret C hS rfl h d_Tide_of_80
    refine sw_c (v := 1) (w := 1) (by decide) h (fun hv h => ?_) (fun hn1 h => ?_)
    · refine r_tabIn C hv d_Tide_of_29 (by decide) (by decide) rfl (tgt := 81) (by decide) ?_
      refine lv_aload_n hx hb d_Tide_of_81 rfl (lv_at hl 0 rfl) ?_
      refine r_getI C hS (kd_lt (kd_thing (kd_things rfl) hj3) (by decide)) (cel_Thing (kd_thing (kd_things rfl) hj3)) (rfl : cls[3]? = some (R_Thing, T_Thing, 6)) in_Thing 1 (by decide) tw_103 rfl h d_Tide_of_82 (fun v5 h => ?_)
      exact r_iret C hS rfl h d_Tide_of_85
    refine sw_c (v := 2) (w := 2) (by decide) h (fun hv h => ?_) (fun hn2 h => ?_)
    · refine r_tabIn C hv d_Tide_of_29 (by decide) (by decide) rfl (tgt := 86) (by decide) ?_
      refine lv_aload_n hx hb d_Tide_of_86 rfl (lv_at hl 0 rfl) ?_
      refine r_getI C hS (kd_lt (kd_thing (kd_things rfl) hj3) (by decide)) (cel_Thing (kd_thing (kd_things rfl) hj3)) (rfl : cls[3]? = some (R_Thing, T_Thing, 6)) in_Thing 2 (by decide) tw_106 rfl h d_Tide_of_87 (fun v6 h => ?_)
      exact r_iret C hS rfl h d_Tide_of_90
    refine sw_c (v := 3) (w := 3) (by decide) h (fun hv h => ?_) (fun hn3 h => ?_)
    · refine r_tabIn C hv d_Tide_of_29 (by decide) (by decide) rfl (tgt := 91) (by decide) ?_
      refine lv_aload_n hx hb d_Tide_of_91 rfl (lv_at hl 0 rfl) ?_
      refine r_getI C hS (kd_lt (kd_thing (kd_things rfl) hj3) (by decide)) (cel_Thing (kd_thing (kd_things rfl) hj3)) (rfl : cls[3]? = some (R_Thing, T_Thing, 6)) in_Thing 3 (by decide) tw_109 rfl h d_Tide_of_92 (fun v7 h => ?_)
      exact r_iret C hS rfl h d_Tide_of_95
    refine sw_c (v := 4) (w := 4) (by decide) h (fun hv h => ?_) (fun hn4 h => ?_)
    · refine r_tabIn C hv d_Tide_of_29 (by decide) (by decide) rfl (tgt := 96) (by decide) ?_
      refine lv_aload_n hx hb d_Tide_of_96 rfl (lv_at hl 0 rfl) ?_
      refine r_getI C hS (kd_lt (kd_thing (kd_things rfl) hj3) (by decide)) (cel_Thing (kd_thing (kd_things rfl) hj3)) (rfl : cls[3]? = some (R_Thing, T_Thing, 6)) in_Thing 4 (by decide) tw_113 rfl h d_Tide_of_97 (fun v8 h => ?_)
      exact r_iret C hS rfl h d_Tide_of_100
    refine sw_c (v := 5) (w := 5) (by decide) h (fun hv h => ?_) (fun hn5 h => ?_)
    · refine r_tabIn C hv d_Tide_of_29 (by decide) (by decide) rfl (tgt := 101) (by decide) ?_
      refine lv_aload_n hx hb d_Tide_of_101 rfl (lv_at hl 0 rfl) ?_
      refine r_getI C hS (kd_lt (kd_thing (kd_things rfl) hj3) (by decide)) (cel_Thing (kd_thing (kd_things rfl) hj3)) (rfl : cls[3]? = some (R_Thing, T_Thing, 6)) in_Thing 5 (by decide) tw_116 rfl h d_Tide_of_102 (fun v9 h => ?_)
      exact r_iret C hS rfl h d_Tide_of_105
    refine sw_c (v := 6) (w := 6) (by decide) h (fun hv h => ?_) (fun hn6 h => ?_)
    · refine r_tabIn C hv d_Tide_of_29 (by decide) (by decide) rfl (tgt := 106) (by decide) ?_
      refine lv_aload_n hx hb d_Tide_of_106 rfl (lv_at hl 0 rfl) ?_
      refine r_getI C hS (kd_lt (kd_thing (kd_things rfl) hj3) (by decide)) (cel_Thing (kd_thing (kd_things rfl) hj3)) (rfl : cls[3]? = some (R_Thing, T_Thing, 6)) in_Thing 0 (by decide) tw_101 rfl h d_Tide_of_107 (fun v10 h => ?_)
      obtain ⟨v11, hr12, h⟩ := bd_el h
      refine c_I hS (c_runS (As := [.int v10]) (rest := []) C hS (k_Tide_termOf_2 (l := l) (E := E) (X := X) hr12) cw_Tide_termOf ini_Tide_termOf sta_Tide_termOf tw_350 hd_Tide_termOf rfl ⟨⟨rfl, rfl⟩, (Nat.le_of_ble_eq_true rfl), (Nat.le_of_ble_eq_true rfl)⟩ ⟨(Nat.le_of_ble_eq_true rfl), (Nat.le_of_ble_eq_true rfl)⟩ hl.1 rfl (Nat.le_of_ble_eq_true rfl) d_Tide_of_110) (fun H locs hS => ?_)
      exact r_iret C hS rfl h d_Tide_of_113
    refine sw_c (v := 7) (w := 7) (by decide) h (fun hv h => ?_) (fun hn7 h => ?_)
    · refine r_tabIn C hv d_Tide_of_29 (by decide) (by decide) rfl (tgt := 114) (by decide) ?_
      refine lv_aload_n hx hb d_Tide_of_114 rfl (lv_at hl 1 rfl) ?_
      refine lv_aload_n hx hb d_Tide_of_115 rfl (lv_at hl 0 rfl) ?_
      obtain ⟨v13, hr14, h⟩ := bd_el h
      refine c_I hS (c_runV (As := [.ref (ad E ((2 + 3) + 1 + j3))]) (rest := []) C hS (by decide) cel_Tide (rfl : cls[5]? = some (R_Tide, T_Tide, 12)) (k_Tide_owedNow (l := l) (E := E) (X := X) (kd_thing (kd_things rfl) hj3) hr14) cw_Tide_owedNow ini_Tide_owedNow ins_Tide_owedNow sel_Tide_owedNow tw_353 hd_Tide_owedNow rfl ⟨⟨rfl, rfl⟩, (Nat.le_of_ble_eq_true rfl), (Nat.le_of_ble_eq_true rfl)⟩ ⟨(Nat.le_of_ble_eq_true rfl), (Nat.le_of_ble_eq_true rfl)⟩ hl.1 rfl (Nat.le_of_ble_eq_true rfl) d_Tide_of_116) (fun H locs hS => ?_)
      exact r_iret C hS rfl h d_Tide_of_119
    refine lv_tableOut (tgt := 120) hx hb d_Tide_of_29 (out_e (k := 8) (out_s (k := 7) (k1 := 8) (out_s (k := 6) (k1 := 7) (out_s (k := 5) (k1 := 6) (out_s (k := 4) (k1 := 5) (out_s (k := 3) (k1 := 4) (out_s (k := 2) (k1 := 3) (out_s (k := 1) (k1 := 2) (out_s (k := 0) (k1 := 1) out_0 hn0 (by decide)) hn1 (by decide)) hn2 (by decide)) hn3 (by decide)) hn4 (by decide)) hn5 (by decide)) hn6 (by decide)) hn7 (by decide)) (by decide)) (by decide) ?_
    refine lv_aload_n hx hb d_Tide_of_120 rfl (lv_at hl 1 rfl) ?_
    refine lv_ldc (v := -1000000001) hx hb hown (hts _ tw_280) d_Tide_of_121 ?_
    obtain ⟨v15, X17, hr16, h⟩ := bd2_el h
    refine c_I hS (c_runV (As := [.int (-1000000001 : Int32)]) (rest := []) C hS (by decide) cel_Tide (rfl : cls[5]? = some (R_Tide, T_Tide, 12)) (k_Tide_finding (l := l) (E := E) (X := X) hr16) cw_Tide_finding ini_Tide_finding ins_Tide_finding sel_Tide_finding tw_281 hd_Tide_finding rfl ⟨⟨rfl, rfl⟩, (Nat.le_of_ble_eq_true rfl), (Nat.le_of_ble_eq_true rfl)⟩ ⟨(Nat.le_of_ble_eq_true rfl), (Nat.le_of_ble_eq_true rfl)⟩ hl.1 rfl (Nat.le_of_ble_eq_true rfl) d_Tide_of_123) (fun H locs hS => ?_)
    exact r_iret C hS rfl h d_Tide_of_126
  · skip
    refine lv_aload_n hx hb d_Tide_of_11 rfl (lv_at hl 0 rfl) ?_
    refine lv_ldc (v := -1000000001) hx hb hown (hts _ tw_280) d_Tide_of_12 ?_
    obtain ⟨v18, X20, hr19, h⟩ := bd2_el h
    refine c_I hS (c_runV (As := [.int (-1000000001 : Int32)]) (rest := []) C hS (by decide) cel_Tide (rfl : cls[5]? = some (R_Tide, T_Tide, 12)) (k_Tide_finding (l := l) (E := E) (X := X) hr19) cw_Tide_finding ini_Tide_finding ins_Tide_finding sel_Tide_finding tw_281 hd_Tide_finding rfl ⟨⟨rfl, rfl⟩, (Nat.le_of_ble_eq_true rfl), (Nat.le_of_ble_eq_true rfl)⟩ ⟨(Nat.le_of_ble_eq_true rfl), (Nat.le_of_ble_eq_true rfl)⟩ hl.1 rfl (Nat.le_of_ble_eq_true rfl) d_Tide_of_14) (fun H locs hS => ?_)
    exact r_iret C hS rfl h d_Tide_of_17
set_option maxHeartbeats 4000000 in
set_option maxRecDepth 100000 in
theorem k_Tide_set_j90 {p : Program} {l : Launch} {e : Env} {s : State} {m : MethodId} {args : Array Value} {below : List Frame} {meth : Method} {c : Code} {E : En} {r : Int32} {Y : Mem} (C : Cx p s m args meth c c_Tide_set 6 "TideLoans" (some .int) E) {X : Mem} (h : f_Tide_set_j90 X = some (r, Y)) {H : Heap} {locs : List Loc} (hS : Hs E s.heap X H locs) {ls : Array Slot} (hl : lv_has ls 6 [(0, .ref (ad E 0))]) : W p l e ({ frames := 2, cells := 0, slots := 0, locals := 43 } : Room) s m args below meth c H locs 0 0 (MQ below (PostI E r Y) args s 0 0 (Ad E)) (F0 m 90 ls []) := by
  obtain ⟨hx, hb, hml, hown, hts, hrt, hlk, hKx⟩ := id C
  unfold f_Tide_set_j90 at h
  refine lv_aload_n hx hb d_Tide_set_90 rfl (lv_at hl 0 rfl) ?_
  refine lv_ldc (v := -1000000001) hx hb hown (hts _ tw_280) d_Tide_set_91 ?_
  obtain ⟨v1, X3, hr2, h⟩ := bd2_el h
  refine c_I hS (c_runV (As := [.int (-1000000001 : Int32)]) (rest := []) C hS (by decide) cel_Tide (rfl : cls[5]? = some (R_Tide, T_Tide, 12)) (k_Tide_finding (l := l) (E := E) (X := X) hr2) cw_Tide_finding ini_Tide_finding ins_Tide_finding sel_Tide_finding tw_281 hd_Tide_finding rfl ⟨⟨rfl, rfl⟩, (Nat.le_of_ble_eq_true rfl), (Nat.le_of_ble_eq_true rfl)⟩ ⟨(Nat.le_of_ble_eq_true rfl), (Nat.le_of_ble_eq_true rfl)⟩ hl.1 rfl (Nat.le_of_ble_eq_true rfl) d_Tide_set_93) (fun H locs hS => ?_)
  refine lv_istore (lv' := [(5, .int v1), (0, .ref (ad E 0))]) hx hb d_Tide_set_96 hl (by decide) rfl (fun ls hl => ?_)
  refine lv_iload hx hb d_Tide_set_98 (lv_at hl 0 rfl) ?_
  exact r_iret C hS rfl h d_Tide_set_100
set_option maxHeartbeats 4000000 in
set_option maxRecDepth 100000 in
theorem k_Tide_set_j58 {p : Program} {l : Launch} {e : Env} {s : State} {m : MethodId} {args : Array Value} {below : List Frame} {meth : Method} {c : Code} {E : En} {r : Int32} {Y : Mem} (C : Cx p s m args meth c c_Tide_set 6 "TideLoans" (some .int) E) {x2 : Int32} {x3 : Int32} {x4 : Nat} {X : Mem} (hx4 : kd x4 = 2) (h : f_Tide_set_j58 x2 x3 x4 X = some (r, Y)) {H : Heap} {locs : List Loc} (hS : Hs E s.heap X H locs) {ls : Array Slot} (hl : lv_has ls 6 [(0, .ref (ad E 0)), (2, .int x2), (3, .int x3), (4, .ref (ad E x4))]) : W p l e ({ frames := 2, cells := 0, slots := 0, locals := 43 } : Room) s m args below meth c H locs 0 0 (MQ below (PostI E r Y) args s 0 0 (Ad E)) (F0 m 58 ls []) := by
  obtain ⟨hx, hb, hml, hown, hts, hrt, hlk, hKx⟩ := id C
  unfold f_Tide_set_j58 at h
  refine lv_iload_n hx hb d_Tide_set_58 rfl (lv_at hl 1 rfl) ?_
  refine lv_iconst (v := 3) hx hb d_Tide_set_59 (by decide) ?_
  refine r_icmp_ne (tgt := 90) C h d_Tide_set_60 (by decide) (fun h => ?_) (fun h => ?_)
  · skip
    exact k_Tide_set_j90 C h hS (lv_sub hl [0] rfl)
  · skip
    refine lv_iload_n hx hb d_Tide_set_63 rfl (lv_at hl 2 rfl) ?_
    refine lv_iconst (v := 0) hx hb d_Tide_set_64 (by decide) ?_
    refine lv_sipush (v := 9999) hx hb d_Tide_set_65 (by decide) ?_
    obtain ⟨v1, hr2, h⟩ := bd_el h
    refine c_I hS (c_runS (As := [.int x3, .int (0 : Int32), .int (9999 : Int32)]) (rest := []) C hS (k_Tide_isUpTo (l := l) (E := E) (X := X) hr2) cw_Tide_isUpTo ini_Tide_isUpTo sta_Tide_isUpTo tw_297 hd_Tide_isUpTo rfl ⟨⟨rfl, rfl⟩, (Nat.le_of_ble_eq_true rfl), (Nat.le_of_ble_eq_true rfl)⟩ ⟨(Nat.le_of_ble_eq_true rfl), (Nat.le_of_ble_eq_true rfl)⟩ hl.1 rfl (Nat.le_of_ble_eq_true rfl) d_Tide_set_68) (fun H locs hS => ?_)
    refine r_if_eq (tgt := 90) C h d_Tide_set_71 (by decide) (fun h => ?_) (fun h => ?_)
    · skip
      exact k_Tide_set_j90 C h hS (lv_sub hl [0] rfl)
    · skip
      refine lv_aload hx hb d_Tide_set_74 (lv_at hl 3 rfl) ?_
      refine r_getI C hS (kd_lt hx4 (by decide)) (cel_Thing hx4) (rfl : cls[3]? = some (R_Thing, T_Thing, 6)) in_Thing 3 (by decide) tw_109 rfl h d_Tide_set_76 (fun v3 h => ?_)
      refine lv_istore (lv' := [(5, .int v3), (0, .ref (ad E 0)), (2, .int x2), (3, .int x3), (4, .ref (ad E x4))]) hx hb d_Tide_set_79 hl (by decide) rfl (fun ls hl => ?_)
      refine lv_aload hx hb d_Tide_set_81 (lv_at hl 4 rfl) ?_
      refine lv_iload_n hx hb d_Tide_set_83 rfl (lv_at hl 3 rfl) ?_
      refine r_putI C hS (kd_lt hx4 (by decide)) (cel_Thing hx4) (rfl : cls[3]? = some (R_Thing, T_Thing, 6)) in_Thing ty_Thing tyok_Thing nm_Thing 3 (by decide) tw_109 rfl rfl rfl (Nat.le_of_ble_eq_true rfl) (set_Thing_3 hx4) rfl h d_Tide_set_84 (fun X4 H locs hS h => ?_)
      refine lv_goto (tgt := 98) hx hb d_Tide_set_87 (by decide) ?_
      refine lv_iload hx hb d_Tide_set_98 (lv_at hl 0 rfl) ?_
      exact r_iret C hS rfl h d_Tide_set_100
set_option maxHeartbeats 4000000 in
set_option maxRecDepth 100000 in
theorem k_Tide_set {l : Launch} {E : En} {p1 : Int32} {p2 : Int32} {p3 : Int32} {X : Mem} {r : Int32} {Y : Mem} (h : f_Tide_set p1 p2 p3 X = some (r, Y)) : Met l y_Tide_set (Cond.code y_Tide_set c_Tide_set 6 (some .int) :: tb) ({ frames := 2, cells := 0, slots := 0, locals := 43 } : Room) (PreC E [.ref (ad E 0), .int p1, .int p2, .int p3] X) (PostI E r Y) 0 0 (Ad E) := by
  refine met_of (by decide) (Nat.le_of_ble_eq_true rfl) (fun p e s m below meth c C hS ls hl => ?_)
  replace C : Cx p s m ([.ref (ad E 0), .int p1, .int p2, .int p3] : List Value).toArray meth c c_Tide_set 6 "TideLoans" (some .int) E := C
  replace hl : lv_has ls 6 [(0, .ref (ad E 0)), (1, .int p1), (2, .int p2), (3, .int p3)] := hl
  obtain ⟨hx, hb, hml, hown, hts, hrt, hlk, hKx⟩ := id C
  unfold f_Tide_set at h
  refine lv_aload_n hx hb d_Tide_set_0 rfl (lv_at hl 0 rfl) ?_
  refine r_get C hS (by decide) cel_Tide (rfl : cls[5]? = some (R_Tide, T_Tide, 12)) in_Tide 1 (by decide) tw_237 rfl d_Tide_set_1 ?_
  refine lv_iload_n hx hb d_Tide_set_4 rfl (lv_at hl 1 rfl) ?_
  obtain ⟨v1, hr2, h⟩ := bd_el h
  refine c_I hS (c_runV (As := [.int p1]) (rest := []) C hS (by decide) (cel_Shore (rfl : kd 2 = 1)) (rfl : cls[1]? = some (R_Shore, T_Shore, 6)) (k_Shore_has (l := l) (E := E) (X := X) rfl hr2) cw_Shore_has ini_Shore_has ins_Shore_has sel_Shore_has tw_345 hd_Shore_has rfl ⟨⟨rfl, rfl⟩, (Nat.le_of_ble_eq_true rfl), (Nat.le_of_ble_eq_true rfl)⟩ ⟨(Nat.le_of_ble_eq_true rfl), (Nat.le_of_ble_eq_true rfl)⟩ hl.1 rfl (Nat.le_of_ble_eq_true rfl) d_Tide_set_5) (fun H locs hS => ?_)
  refine r_if_ne (tgt := 18) C h d_Tide_set_8 (by decide) (fun h => ?_) (fun h => ?_)
  · skip
    refine lv_aload_n hx hb d_Tide_set_18 rfl (lv_at hl 0 rfl) ?_
    refine r_get C hS (by decide) cel_Tide (rfl : cls[5]? = some (R_Tide, T_Tide, 12)) in_Tide 1 (by decide) tw_237 rfl d_Tide_set_19 ?_
    refine r_get C hS (by decide) (cel_Shore (rfl : kd 2 = 1)) (rfl : cls[1]? = some (R_Shore, T_Shore, 6)) in_Shore 2 (by decide) tw_136 rfl d_Tide_set_22 ?_
    refine lv_iload_n hx hb d_Tide_set_25 rfl (lv_at hl 1 rfl) ?_
    refine r_ldT C hS (kd_things rfl) h d_Tide_set_26 (fun j3 hj3 h => ?_)
    refine lv_astore (lv' := [(4, .ref (ad E ((2 + 3) + 1 + j3))), (0, .ref (ad E 0)), (1, .int p1), (2, .int p2), (3, .int p3)]) hx hb d_Tide_set_27 hl (by decide) rfl (fun ls hl => ?_)
    refine lv_iload_n hx hb d_Tide_set_29 rfl (lv_at hl 3 rfl) ?_
    refine lv_iconst (v := 1) hx hb d_Tide_set_30 (by decide) ?_
    refine r_icmp_ne (tgt := 58) C h d_Tide_set_31 (by decide) (fun h => ?_) (fun h => ?_)
    · skip
      exact k_Tide_set_j58 C (kd_thing (kd_things rfl) hj3) h hS (lv_sub hl [1, 3, 4, 0] rfl)
    · skip
      refine lv_iload_n hx hb d_Tide_set_34 rfl (lv_at hl 4 rfl) ?_
      refine lv_iconst (v := 4) hx hb d_Tide_set_35 (by decide) ?_
      obtain ⟨v4, hr5, h⟩ := bd_el h
      refine c_I hS (c_runS (As := [.int p3, .int (4 : Int32)]) (rest := []) C hS (k_Tide_isBelow (l := l) (E := E) (X := X) hr5) cw_Tide_isBelow ini_Tide_isBelow sta_Tide_isBelow tw_277 hd_Tide_isBelow rfl ⟨⟨rfl, rfl⟩, (Nat.le_of_ble_eq_true rfl), (Nat.le_of_ble_eq_true rfl)⟩ ⟨(Nat.le_of_ble_eq_true rfl), (Nat.le_of_ble_eq_true rfl)⟩ hl.1 rfl (Nat.le_of_ble_eq_true rfl) d_Tide_set_36) (fun H locs hS => ?_)
      refine r_if_eq (tgt := 58) C h d_Tide_set_39 (by decide) (fun h => ?_) (fun h => ?_)
      · skip
        exact k_Tide_set_j58 C (kd_thing (kd_things rfl) hj3) h hS (lv_sub hl [1, 3, 4, 0] rfl)
      · skip
        refine lv_aload hx hb d_Tide_set_42 (lv_at hl 0 rfl) ?_
        refine r_getI C hS (kd_lt (kd_thing (kd_things rfl) hj3) (by decide)) (cel_Thing (kd_thing (kd_things rfl) hj3)) (rfl : cls[3]? = some (R_Thing, T_Thing, 6)) in_Thing 1 (by decide) tw_103 rfl h d_Tide_set_44 (fun v6 h => ?_)
        refine lv_istore (lv' := [(5, .int v6), (4, .ref (ad E ((2 + 3) + 1 + j3))), (0, .ref (ad E 0)), (1, .int p1), (2, .int p2), (3, .int p3)]) hx hb d_Tide_set_47 hl (by decide) rfl (fun ls hl => ?_)
        refine lv_aload hx hb d_Tide_set_49 (lv_at hl 1 rfl) ?_
        refine lv_iload_n hx hb d_Tide_set_51 rfl (lv_at hl 5 rfl) ?_
        refine r_putI C hS (kd_lt (kd_thing (kd_things rfl) hj3) (by decide)) (cel_Thing (kd_thing (kd_things rfl) hj3)) (rfl : cls[3]? = some (R_Thing, T_Thing, 6)) in_Thing ty_Thing tyok_Thing nm_Thing 1 (by decide) tw_103 rfl rfl rfl (Nat.le_of_ble_eq_true rfl) (set_Thing_1 (kd_thing (kd_things rfl) hj3)) rfl h d_Tide_set_52 (fun X7 H locs hS h => ?_)
        refine lv_goto (tgt := 98) hx hb d_Tide_set_55 (by decide) ?_
        refine lv_iload hx hb d_Tide_set_98 (lv_at hl 0 rfl) ?_
        exact r_iret C hS rfl h d_Tide_set_100
  · skip
    refine lv_aload_n hx hb d_Tide_set_11 rfl (lv_at hl 0 rfl) ?_
    refine lv_ldc (v := -1000000001) hx hb hown (hts _ tw_280) d_Tide_set_12 ?_
    obtain ⟨v8, X10, hr9, h⟩ := bd2_el h
    refine c_I hS (c_runV (As := [.int (-1000000001 : Int32)]) (rest := []) C hS (by decide) cel_Tide (rfl : cls[5]? = some (R_Tide, T_Tide, 12)) (k_Tide_finding (l := l) (E := E) (X := X) hr9) cw_Tide_finding ini_Tide_finding ins_Tide_finding sel_Tide_finding tw_281 hd_Tide_finding rfl ⟨⟨rfl, rfl⟩, (Nat.le_of_ble_eq_true rfl), (Nat.le_of_ble_eq_true rfl)⟩ ⟨(Nat.le_of_ble_eq_true rfl), (Nat.le_of_ble_eq_true rfl)⟩ hl.1 rfl (Nat.le_of_ble_eq_true rfl) d_Tide_set_14) (fun H locs hS => ?_)
    exact r_iret C hS rfl h d_Tide_set_17
set_option maxHeartbeats 4000000 in
set_option maxRecDepth 100000 in
theorem k_Tide_turn_j20 {p : Program} {l : Launch} {e : Env} {s : State} {m : MethodId} {args : Array Value} {below : List Frame} {meth : Method} {c : Code} {E : En} {r : Int32} {Y : Mem} (C : Cx p s m args meth c c_Tide_turn 5 "TideLoans" (some .int) E) {X : Mem} (h : f_Tide_turn_j20 X = some (r, Y)) {H : Heap} {locs : List Loc} (hS : Hs E s.heap X H locs) {ls : Array Slot} (hl : lv_has ls 5 [(0, .ref (ad E 0))]) : W p l e ({ frames := 2, cells := 0, slots := 0, locals := 43 } : Room) s m args below meth c H locs 0 0 (MQ below (PostI E r Y) args s 0 0 (Ad E)) (F0 m 20 ls []) := by
  obtain ⟨hx, hb, hml, hown, hts, hrt, hlk, hKx⟩ := id C
  unfold f_Tide_turn_j20 at h
  refine lv_aload_n hx hb d_Tide_turn_20 rfl (lv_at hl 0 rfl) ?_
  refine lv_ldc (v := -1000000001) hx hb hown (hts _ tw_280) d_Tide_turn_21 ?_
  obtain ⟨v1, X3, hr2, h⟩ := bd2_el h
  refine c_I hS (c_runV (As := [.int (-1000000001 : Int32)]) (rest := []) C hS (by decide) cel_Tide (rfl : cls[5]? = some (R_Tide, T_Tide, 12)) (k_Tide_finding (l := l) (E := E) (X := X) hr2) cw_Tide_finding ini_Tide_finding ins_Tide_finding sel_Tide_finding tw_281 hd_Tide_finding rfl ⟨⟨rfl, rfl⟩, (Nat.le_of_ble_eq_true rfl), (Nat.le_of_ble_eq_true rfl)⟩ ⟨(Nat.le_of_ble_eq_true rfl), (Nat.le_of_ble_eq_true rfl)⟩ hl.1 rfl (Nat.le_of_ble_eq_true rfl) d_Tide_turn_23) (fun H locs hS => ?_)
  exact r_iret C hS rfl h d_Tide_turn_26
set_option maxHeartbeats 4000000 in
set_option maxRecDepth 100000 in
theorem k_Tide_turn {l : Launch} {E : En} {p1 : Int32} {p2 : Int32} {X : Mem} {r : Int32} {Y : Mem} (h : f_Tide_turn p1 p2 X = some (r, Y)) : Met l y_Tide_turn (Cond.code y_Tide_turn c_Tide_turn 5 (some .int) :: tb) ({ frames := 2, cells := 0, slots := 0, locals := 43 } : Room) (PreC E [.ref (ad E 0), .int p1, .int p2] X) (PostI E r Y) 0 0 (Ad E) := by
  refine met_of (by decide) (Nat.le_of_ble_eq_true rfl) (fun p e s m below meth c C hS ls hl => ?_)
  replace C : Cx p s m ([.ref (ad E 0), .int p1, .int p2] : List Value).toArray meth c c_Tide_turn 5 "TideLoans" (some .int) E := C
  replace hl : lv_has ls 5 [(0, .ref (ad E 0)), (1, .int p1), (2, .int p2)] := hl
  obtain ⟨hx, hb, hml, hown, hts, hrt, hlk, hKx⟩ := id C
  unfold f_Tide_turn at h
  refine lv_aload_n hx hb d_Tide_turn_0 rfl (lv_at hl 0 rfl) ?_
  refine r_get C hS (by decide) cel_Tide (rfl : cls[5]? = some (R_Tide, T_Tide, 12)) in_Tide 1 (by decide) tw_237 rfl d_Tide_turn_1 ?_
  refine lv_iload_n hx hb d_Tide_turn_4 rfl (lv_at hl 1 rfl) ?_
  obtain ⟨v1, hr2, h⟩ := bd_el h
  refine c_I hS (c_runV (As := [.int p1]) (rest := []) C hS (by decide) (cel_Shore (rfl : kd 2 = 1)) (rfl : cls[1]? = some (R_Shore, T_Shore, 6)) (k_Shore_has (l := l) (E := E) (X := X) rfl hr2) cw_Shore_has ini_Shore_has ins_Shore_has sel_Shore_has tw_345 hd_Shore_has rfl ⟨⟨rfl, rfl⟩, (Nat.le_of_ble_eq_true rfl), (Nat.le_of_ble_eq_true rfl)⟩ ⟨(Nat.le_of_ble_eq_true rfl), (Nat.le_of_ble_eq_true rfl)⟩ hl.1 rfl (Nat.le_of_ble_eq_true rfl) d_Tide_turn_5) (fun H locs hS => ?_)
  refine r_if_eq (tgt := 20) C h d_Tide_turn_8 (by decide) (fun h => ?_) (fun h => ?_)
  · skip
    exact k_Tide_turn_j20 C h hS (lv_sub hl [0] rfl)
  · skip
    refine lv_iload_n hx hb d_Tide_turn_11 rfl (lv_at hl 2 rfl) ?_
    refine lv_bipush (v := 6) hx hb d_Tide_turn_12 (by decide) ?_
    obtain ⟨v3, hr4, h⟩ := bd_el h
    refine c_I hS (c_runS (As := [.int p2, .int (6 : Int32)]) (rest := []) C hS (k_Tide_isBelow (l := l) (E := E) (X := X) hr4) cw_Tide_isBelow ini_Tide_isBelow sta_Tide_isBelow tw_277 hd_Tide_isBelow rfl ⟨⟨rfl, rfl⟩, (Nat.le_of_ble_eq_true rfl), (Nat.le_of_ble_eq_true rfl)⟩ ⟨(Nat.le_of_ble_eq_true rfl), (Nat.le_of_ble_eq_true rfl)⟩ hl.1 rfl (Nat.le_of_ble_eq_true rfl) d_Tide_turn_14) (fun H locs hS => ?_)
    refine r_if_ne (tgt := 27) C h d_Tide_turn_17 (by decide) (fun h => ?_) (fun h => ?_)
    · skip
      refine lv_aload_n hx hb d_Tide_turn_27 rfl (lv_at hl 0 rfl) ?_
      refine r_get C hS (by decide) cel_Tide (rfl : cls[5]? = some (R_Tide, T_Tide, 12)) in_Tide 1 (by decide) tw_237 rfl d_Tide_turn_28 ?_
      refine r_get C hS (by decide) (cel_Shore (rfl : kd 2 = 1)) (rfl : cls[1]? = some (R_Shore, T_Shore, 6)) in_Shore 2 (by decide) tw_136 rfl d_Tide_turn_31 ?_
      refine lv_iload_n hx hb d_Tide_turn_34 rfl (lv_at hl 1 rfl) ?_
      refine r_ldT C hS (kd_things rfl) h d_Tide_turn_35 (fun j5 hj5 h => ?_)
      refine lv_astore_n (lv' := [(3, .ref (ad E ((2 + 3) + 1 + j5))), (0, .ref (ad E 0)), (1, .int p1), (2, .int p2)]) hx hb d_Tide_turn_36 rfl hl (by decide) rfl (fun ls hl => ?_)
      refine lv_aload_n hx hb d_Tide_turn_37 rfl (lv_at hl 0 rfl) ?_
      refine r_getI C hS (kd_lt (kd_thing (kd_things rfl) hj5) (by decide)) (cel_Thing (kd_thing (kd_things rfl) hj5)) (rfl : cls[3]? = some (R_Thing, T_Thing, 6)) in_Thing 0 (by decide) tw_101 rfl h d_Tide_turn_38 (fun v6 h => ?_)
      refine lv_istore (lv' := [(4, .int v6), (3, .ref (ad E ((2 + 3) + 1 + j5))), (0, .ref (ad E 0)), (1, .int p1), (2, .int p2)]) hx hb d_Tide_turn_41 hl (by decide) rfl (fun ls hl => ?_)
      refine lv_aload_n hx hb d_Tide_turn_43 rfl (lv_at hl 1 rfl) ?_
      refine lv_iload_n hx hb d_Tide_turn_44 rfl (lv_at hl 4 rfl) ?_
      refine r_putI C hS (kd_lt (kd_thing (kd_things rfl) hj5) (by decide)) (cel_Thing (kd_thing (kd_things rfl) hj5)) (rfl : cls[3]? = some (R_Thing, T_Thing, 6)) in_Thing ty_Thing tyok_Thing nm_Thing 0 (by decide) tw_101 rfl rfl rfl (Nat.le_of_ble_eq_true rfl) (set_Thing_0 (kd_thing (kd_things rfl) hj5)) rfl h d_Tide_turn_45 (fun X7 H locs hS h => ?_)
      refine lv_iload hx hb d_Tide_turn_48 (lv_at hl 0 rfl) ?_
      exact r_iret C hS rfl h d_Tide_turn_50
    · skip
      exact k_Tide_turn_j20 C h hS (lv_sub hl [0] rfl)
set_option maxHeartbeats 4000000 in
set_option maxRecDepth 100000 in
theorem k_Tide_kindAbove {l : Launch} {E : En} {p0 : Int32} {X : Mem} {r : Int32} (h : f_Tide_kindAbove p0 = some r) : Met l y_Tide_kindAbove (Cond.code y_Tide_kindAbove c_Tide_kindAbove 1 (some .int) :: tb) ({ frames := 0, cells := 0, slots := 0, locals := 0 } : Room) (PreC E [.int p0] X) (PostI E r X) 0 0 (Ad E) := by
  refine met_of (by decide) (Nat.le_of_ble_eq_true rfl) (fun p e s m below meth c C hS ls hl => ?_)
  replace C : Cx p s m ([.int p0] : List Value).toArray meth c c_Tide_kindAbove 1 "TideLoans" (some .int) E := C
  replace hl : lv_has ls 1 [(0, .int p0)] := hl
  obtain ⟨hx, hb, hml, hown, hts, hrt, hlk, hKx⟩ := id C
  unfold f_Tide_kindAbove at h
  refine lv_iload_n hx hb d_Tide_kindAbove_0 rfl (lv_at hl 0 rfl) ?_
  refine sw_c (v := 0) (w := 0) (by decide) h (fun hv h => ?_) (fun hn0 h => ?_)
  · refine r_lookIn (off := 35) (tgt := 36) C hv d_Tide_kindAbove_1 (by decide) (by decide) (by decide) ?_
    refine lv_iconst (v := -1) hx hb d_Tide_kindAbove_36 (by decide) ?_
    exact r_iret0 C hS rfl h d_Tide_kindAbove_37
  refine sw_c (v := 4) (w := 4) (by decide) h (fun hv h => ?_) (fun hn4 h => ?_)
  · refine r_lookIn (off := 37) (tgt := 38) C hv d_Tide_kindAbove_1 (by decide) (by decide) (by decide) ?_
    refine lv_iconst (v := 1) hx hb d_Tide_kindAbove_38 (by decide) ?_
    exact r_iret0 C hS rfl h d_Tide_kindAbove_39
  refine sw_c (v := 5) (w := 5) (by decide) h (fun hv h => ?_) (fun hn5 h => ?_)
  · refine r_lookIn (off := 39) (tgt := 40) C hv d_Tide_kindAbove_1 (by decide) (by decide) (by decide) ?_
    refine lv_iconst (v := 2) hx hb d_Tide_kindAbove_40 (by decide) ?_
    exact r_iret0 C hS rfl h d_Tide_kindAbove_41
  refine lv_lookup (tgt := 42) (off := 41) hx hb d_Tide_kindAbove_1 (by decide) (by simp [Op.lookupswitch.offset, hn0, Ne.symm hn0, hn4, Ne.symm hn4, hn5, Ne.symm hn5]) (by decide) ?_
  refine lv_iconst (v := 0) hx hb d_Tide_kindAbove_42 (by decide) ?_
  exact r_iret0 C hS rfl h d_Tide_kindAbove_43
def I_Tide_isUnder_b4 (p : Program) (l : Launch) (e : Env) (s : State) (m : MethodId) (args : Array Value) (below : List Frame) (meth : Method) (c : Code) (E : En) (r : Int32) (x1 : Int32) (X : Mem) (n : Nat) (tg : Int32) : Prop := ∀ (x2 : Int32) (x3 : Int32) (H : Heap) (locs : List Loc) (ls : Array Slot), it (fun a => f_Tide_isUnder_b4 x1 a.1 a.2) n (x2, x3) = some tg → Hs E s.heap X H locs → lv_has ls 4 [(1, .int x1), (2, .int x2), (3, .int x3)] → W p l e ({ frames := 1, cells := 0, slots := 0, locals := 20 } : Room) s m args below meth c H locs 0 0 (MQ below (PostI E r X) args s 0 0 (Ad E)) (F0 m 4 ls [])
set_option maxHeartbeats 4000000 in
set_option maxRecDepth 100000 in
theorem k_Tide_isUnder_j31 {p : Program} {l : Launch} {e : Env} {s : State} {m : MethodId} {args : Array Value} {below : List Frame} {meth : Method} {c : Code} {E : En} {r : Int32} (C : Cx p s m args meth c c_Tide_isUnder 4 "TideLoans" (some .boolean) E) {x1 : Int32} {x2 : Int32} {X : Mem} (h : f_Tide_isUnder_j31 x1 x2 = some r) {H : Heap} {locs : List Loc} (hS : Hs E s.heap X H locs) {ls : Array Slot} (hl : lv_has ls 4 [(1, .int x1), (2, .int x2)]) : W p l e ({ frames := 1, cells := 0, slots := 0, locals := 20 } : Room) s m args below meth c H locs 0 0 (MQ below (PostI E r X) args s 0 0 (Ad E)) (F0 m 31 ls []) := by
  obtain ⟨hx, hb, hml, hown, hts, hrt, hlk, hKx⟩ := id C
  unfold f_Tide_isUnder_j31 at h
  refine lv_iload_n hx hb d_Tide_isUnder_31 rfl (lv_at hl 1 rfl) ?_
  refine lv_iload_n hx hb d_Tide_isUnder_32 rfl (lv_at hl 0 rfl) ?_
  refine r_icmp_ne (tgt := 40) C h d_Tide_isUnder_33 (by decide) (fun h => ?_) (fun h => ?_)
  · skip
    refine lv_iconst (v := 0) hx hb d_Tide_isUnder_40 (by decide) ?_
    exact r_zret0 C hS rfl (Or.inl rfl) h d_Tide_isUnder_41
  · skip
    refine lv_iconst (v := 1) hx hb d_Tide_isUnder_36 (by decide) ?_
    refine lv_goto (tgt := 41) hx hb d_Tide_isUnder_37 (by decide) ?_
    exact r_zret0 C hS rfl (Or.inr rfl) h d_Tide_isUnder_41
set_option maxHeartbeats 4000000 in
set_option maxRecDepth 100000 in
theorem k_Tide_isUnder_b4 {p : Program} {l : Launch} {e : Env} {s : State} {m : MethodId} {args : Array Value} {below : List Frame} {meth : Method} {c : Code} {E : En} {r : Int32} (C : Cx p s m args meth c c_Tide_isUnder 4 "TideLoans" (some .boolean) E) (x1 : Int32) {X : Mem} : ∀ n, I_Tide_isUnder_b4 p l e s m args below meth c E r x1 X n r := by
  obtain ⟨hx, hb, hml, hown, hts, hrt, hlk, hKx⟩ := id C
  intro n
  induction n with
  | zero => intro x2 x3 H locs ls h; exact it_0 h
  | succ n ih =>
    intro x2 x3 H locs ls h hS hl
    obtain ⟨cc4, h, hc4⟩ := it_el h
    replace h : f_Tide_isUnder_b4 x1 x2 x3 = some cc4 := h
    unfold f_Tide_isUnder_b4 at h
    refine lv_iload_n hx hb d_Tide_isUnder_4 rfl (lv_at hl 2 rfl) ?_
    refine lv_bipush (v := 6) hx hb d_Tide_isUnder_5 (by decide) ?_
    refine r_icmp_ge (tgt := 31) C h d_Tide_isUnder_7 (by decide) (fun h => ?_) (fun h => ?_)
    · skip
      replace h := lp_up h hc4
      exact k_Tide_isUnder_j31 C h hS (lv_sub hl [0, 1] rfl)
    · skip
      refine lv_iload_n hx hb d_Tide_isUnder_10 rfl (lv_at hl 1 rfl) ?_
      refine lv_iload_n hx hb d_Tide_isUnder_11 rfl (lv_at hl 0 rfl) ?_
      refine r_icmp_eq (tgt := 31) C h d_Tide_isUnder_12 (by decide) (fun h => ?_) (fun h => ?_)
      · skip
        replace h := lp_up h hc4
        exact k_Tide_isUnder_j31 C h hS (lv_sub hl [0, 1] rfl)
      · skip
        refine lv_iload_n hx hb d_Tide_isUnder_15 rfl (lv_at hl 1 rfl) ?_
        refine lv_iconst (v := -1) hx hb d_Tide_isUnder_16 (by decide) ?_
        refine r_icmp_eq (tgt := 31) C h d_Tide_isUnder_17 (by decide) (fun h => ?_) (fun h => ?_)
        · skip
          replace h := lp_up h hc4
          exact k_Tide_isUnder_j31 C h hS (lv_sub hl [0, 1] rfl)
        · skip
          refine lv_iload_n hx hb d_Tide_isUnder_20 rfl (lv_at hl 1 rfl) ?_
          obtain ⟨v1, hr2, h⟩ := bd_el h
          refine c_I hS (c_runS (As := [.int x2]) (rest := []) C hS (k_Tide_kindAbove (l := l) (E := E) (X := X) hr2) cw_Tide_kindAbove ini_Tide_kindAbove sta_Tide_kindAbove tw_386 hd_Tide_kindAbove rfl ⟨⟨rfl, rfl⟩, (Nat.le_of_ble_eq_true rfl), (Nat.le_of_ble_eq_true rfl)⟩ ⟨(Nat.le_of_ble_eq_true rfl), (Nat.le_of_ble_eq_true rfl)⟩ hl.1 rfl (Nat.le_of_ble_eq_true rfl) d_Tide_isUnder_21) (fun H locs hS => ?_)
          refine lv_istore_n (lv' := [(2, .int v1), (1, .int x1), (3, .int x3)]) hx hb d_Tide_isUnder_24 rfl hl (by decide) rfl (fun ls hl => ?_)
          refine r_iinc C (w := 1) (lv' := fun z => [(3, .int z), (2, .int v1), (1, .int x1)]) h d_Tide_isUnder_25 hl (k := 2) rfl (by decide) (by decide) (fun _ => rfl) (fun v3 ls h hl => ?_)
          refine lv_goto (tgt := 4) hx hb d_Tide_isUnder_28 (by decide) ?_
          exact ih _ _ _ _ _ (lp_next h hc4) hS (lv_sub hl [2, 1, 0] rfl)
set_option maxHeartbeats 4000000 in
set_option maxRecDepth 100000 in
theorem k_Tide_isUnder {l : Launch} {E : En} {p0 : Int32} {p1 : Int32} {X : Mem} {r : Int32} (h : f_Tide_isUnder p0 p1 = some r) : Met l y_Tide_isUnder (Cond.code y_Tide_isUnder c_Tide_isUnder 4 (some .boolean) :: tb) ({ frames := 1, cells := 0, slots := 0, locals := 20 } : Room) (PreC E [.int p0, .int p1] X) (PostI E r X) 0 0 (Ad E) := by
  refine met_of (by decide) (Nat.le_of_ble_eq_true rfl) (fun p e s m below meth c C hS ls hl => ?_)
  replace C : Cx p s m ([.int p0, .int p1] : List Value).toArray meth c c_Tide_isUnder 4 "TideLoans" (some .boolean) E := C
  replace hl : lv_has ls 4 [(0, .int p0), (1, .int p1)] := hl
  obtain ⟨hx, hb, hml, hown, hts, hrt, hlk, hKx⟩ := id C
  unfold f_Tide_isUnder at h
  refine lv_iload_n hx hb d_Tide_isUnder_0 rfl (lv_at hl 0 rfl) ?_
  refine lv_istore_n (lv' := [(2, .int p0), (0, .int p0), (1, .int p1)]) hx hb d_Tide_isUnder_1 rfl hl (by decide) rfl (fun ls hl => ?_)
  refine lv_iconst (v := 0) hx hb d_Tide_isUnder_2 (by decide) ?_
  refine lv_istore_n (lv' := [(3, .int (0 : Int32)), (2, .int p0), (0, .int p0), (1, .int p1)]) hx hb d_Tide_isUnder_3 rfl hl (by decide) rfl (fun ls hl => ?_)
  exact k_Tide_isUnder_b4 C _ FU _ _ _ _ _ h hS (lv_sub hl [3, 1, 0] rfl)
set_option maxHeartbeats 4000000 in
set_option maxRecDepth 100000 in
theorem k_Tide_as_j20 {p : Program} {l : Launch} {e : Env} {s : State} {m : MethodId} {args : Array Value} {below : List Frame} {meth : Method} {c : Code} {E : En} {r : Int32} {Y : Mem} (C : Cx p s m args meth c c_Tide_as 4 "TideLoans" (some .int) E) {X : Mem} (h : f_Tide_as_j20 X = some (r, Y)) {H : Heap} {locs : List Loc} (hS : Hs E s.heap X H locs) {ls : Array Slot} (hl : lv_has ls 4 [(0, .ref (ad E 0))]) : W p l e ({ frames := 2, cells := 0, slots := 0, locals := 43 } : Room) s m args below meth c H locs 0 0 (MQ below (PostI E r Y) args s 0 0 (Ad E)) (F0 m 20 ls []) := by
  obtain ⟨hx, hb, hml, hown, hts, hrt, hlk, hKx⟩ := id C
  unfold f_Tide_as_j20 at h
  refine lv_aload_n hx hb d_Tide_as_20 rfl (lv_at hl 0 rfl) ?_
  refine lv_ldc (v := -1000000001) hx hb hown (hts _ tw_280) d_Tide_as_21 ?_
  obtain ⟨v1, X3, hr2, h⟩ := bd2_el h
  refine c_I hS (c_runV (As := [.int (-1000000001 : Int32)]) (rest := []) C hS (by decide) cel_Tide (rfl : cls[5]? = some (R_Tide, T_Tide, 12)) (k_Tide_finding (l := l) (E := E) (X := X) hr2) cw_Tide_finding ini_Tide_finding ins_Tide_finding sel_Tide_finding tw_281 hd_Tide_finding rfl ⟨⟨rfl, rfl⟩, (Nat.le_of_ble_eq_true rfl), (Nat.le_of_ble_eq_true rfl)⟩ ⟨(Nat.le_of_ble_eq_true rfl), (Nat.le_of_ble_eq_true rfl)⟩ hl.1 rfl (Nat.le_of_ble_eq_true rfl) d_Tide_as_23) (fun H locs hS => ?_)
  exact r_iret C hS rfl h d_Tide_as_26
set_option maxHeartbeats 4000000 in
set_option maxRecDepth 100000 in
theorem k_Tide_as {l : Launch} {E : En} {p1 : Int32} {p2 : Int32} {X : Mem} {r : Int32} {Y : Mem} (h : f_Tide_as p1 p2 X = some (r, Y)) : Met l y_Tide_as (Cond.code y_Tide_as c_Tide_as 4 (some .int) :: tb) ({ frames := 2, cells := 0, slots := 0, locals := 43 } : Room) (PreC E [.ref (ad E 0), .int p1, .int p2] X) (PostI E r Y) 0 0 (Ad E) := by
  refine met_of (by decide) (Nat.le_of_ble_eq_true rfl) (fun p e s m below meth c C hS ls hl => ?_)
  replace C : Cx p s m ([.ref (ad E 0), .int p1, .int p2] : List Value).toArray meth c c_Tide_as 4 "TideLoans" (some .int) E := C
  replace hl : lv_has ls 4 [(0, .ref (ad E 0)), (1, .int p1), (2, .int p2)] := hl
  obtain ⟨hx, hb, hml, hown, hts, hrt, hlk, hKx⟩ := id C
  unfold f_Tide_as at h
  refine lv_aload_n hx hb d_Tide_as_0 rfl (lv_at hl 0 rfl) ?_
  refine r_get C hS (by decide) cel_Tide (rfl : cls[5]? = some (R_Tide, T_Tide, 12)) in_Tide 1 (by decide) tw_237 rfl d_Tide_as_1 ?_
  refine lv_iload_n hx hb d_Tide_as_4 rfl (lv_at hl 1 rfl) ?_
  obtain ⟨v1, hr2, h⟩ := bd_el h
  refine c_I hS (c_runV (As := [.int p1]) (rest := []) C hS (by decide) (cel_Shore (rfl : kd 2 = 1)) (rfl : cls[1]? = some (R_Shore, T_Shore, 6)) (k_Shore_has (l := l) (E := E) (X := X) rfl hr2) cw_Shore_has ini_Shore_has ins_Shore_has sel_Shore_has tw_345 hd_Shore_has rfl ⟨⟨rfl, rfl⟩, (Nat.le_of_ble_eq_true rfl), (Nat.le_of_ble_eq_true rfl)⟩ ⟨(Nat.le_of_ble_eq_true rfl), (Nat.le_of_ble_eq_true rfl)⟩ hl.1 rfl (Nat.le_of_ble_eq_true rfl) d_Tide_as_5) (fun H locs hS => ?_)
  refine r_if_eq (tgt := 20) C h d_Tide_as_8 (by decide) (fun h => ?_) (fun h => ?_)
  · skip
    exact k_Tide_as_j20 C h hS (lv_sub hl [0] rfl)
  · skip
    refine lv_iload_n hx hb d_Tide_as_11 rfl (lv_at hl 2 rfl) ?_
    refine lv_bipush (v := 6) hx hb d_Tide_as_12 (by decide) ?_
    obtain ⟨v3, hr4, h⟩ := bd_el h
    refine c_I hS (c_runS (As := [.int p2, .int (6 : Int32)]) (rest := []) C hS (k_Tide_isBelow (l := l) (E := E) (X := X) hr4) cw_Tide_isBelow ini_Tide_isBelow sta_Tide_isBelow tw_277 hd_Tide_isBelow rfl ⟨⟨rfl, rfl⟩, (Nat.le_of_ble_eq_true rfl), (Nat.le_of_ble_eq_true rfl)⟩ ⟨(Nat.le_of_ble_eq_true rfl), (Nat.le_of_ble_eq_true rfl)⟩ hl.1 rfl (Nat.le_of_ble_eq_true rfl) d_Tide_as_14) (fun H locs hS => ?_)
    refine r_if_ne (tgt := 27) C h d_Tide_as_17 (by decide) (fun h => ?_) (fun h => ?_)
    · skip
      refine lv_aload_n hx hb d_Tide_as_27 rfl (lv_at hl 0 rfl) ?_
      refine r_get C hS (by decide) cel_Tide (rfl : cls[5]? = some (R_Tide, T_Tide, 12)) in_Tide 1 (by decide) tw_237 rfl d_Tide_as_28 ?_
      refine r_get C hS (by decide) (cel_Shore (rfl : kd 2 = 1)) (rfl : cls[1]? = some (R_Shore, T_Shore, 6)) in_Shore 2 (by decide) tw_136 rfl d_Tide_as_31 ?_
      refine lv_iload_n hx hb d_Tide_as_34 rfl (lv_at hl 1 rfl) ?_
      refine r_ldT C hS (kd_things rfl) h d_Tide_as_35 (fun j5 hj5 h => ?_)
      refine lv_astore_n (lv' := [(3, .ref (ad E ((2 + 3) + 1 + j5))), (0, .ref (ad E 0)), (1, .int p1), (2, .int p2)]) hx hb d_Tide_as_36 rfl hl (by decide) rfl (fun ls hl => ?_)
      refine lv_aload_n hx hb d_Tide_as_37 rfl (lv_at hl 0 rfl) ?_
      refine r_getI C hS (kd_lt (kd_thing (kd_things rfl) hj5) (by decide)) (cel_Thing (kd_thing (kd_things rfl) hj5)) (rfl : cls[3]? = some (R_Thing, T_Thing, 6)) in_Thing 0 (by decide) tw_101 rfl h d_Tide_as_38 (fun v6 h => ?_)
      refine lv_iload_n hx hb d_Tide_as_41 rfl (lv_at hl 3 rfl) ?_
      obtain ⟨v7, hr8, h⟩ := bd_el h
      refine c_I hS (c_runS (As := [.int v6, .int p2]) (rest := []) C hS (k_Tide_isUnder (l := l) (E := E) (X := X) hr8) cw_Tide_isUnder ini_Tide_isUnder sta_Tide_isUnder tw_383 hd_Tide_isUnder rfl ⟨⟨rfl, rfl⟩, (Nat.le_of_ble_eq_true rfl), (Nat.le_of_ble_eq_true rfl)⟩ ⟨(Nat.le_of_ble_eq_true rfl), (Nat.le_of_ble_eq_true rfl)⟩ hl.1 rfl (Nat.le_of_ble_eq_true rfl) d_Tide_as_42) (fun H locs hS => ?_)
      refine r_if_ne (tgt := 55) C h d_Tide_as_45 (by decide) (fun h => ?_) (fun h => ?_)
      · skip
        refine lv_aload_n hx hb d_Tide_as_55 rfl (lv_at hl 0 rfl) ?_
        refine r_getI C hS (kd_lt (kd_thing (kd_things rfl) hj5) (by decide)) (cel_Thing (kd_thing (kd_things rfl) hj5)) (rfl : cls[3]? = some (R_Thing, T_Thing, 6)) in_Thing 3 (by decide) tw_109 rfl h d_Tide_as_56 (fun v9 h => ?_)
        exact r_iret C hS rfl h d_Tide_as_59
      · skip
        refine lv_aload_n hx hb d_Tide_as_48 rfl (lv_at hl 1 rfl) ?_
        refine lv_ldc (v := -1000000003) hx hb hown (hts _ tw_389) d_Tide_as_49 ?_
        obtain ⟨v10, X12, hr11, h⟩ := bd2_el h
        refine c_I hS (c_runV (As := [.int (-1000000003 : Int32)]) (rest := []) C hS (by decide) cel_Tide (rfl : cls[5]? = some (R_Tide, T_Tide, 12)) (k_Tide_finding (l := l) (E := E) (X := X) hr11) cw_Tide_finding ini_Tide_finding ins_Tide_finding sel_Tide_finding tw_281 hd_Tide_finding rfl ⟨⟨rfl, rfl⟩, (Nat.le_of_ble_eq_true rfl), (Nat.le_of_ble_eq_true rfl)⟩ ⟨(Nat.le_of_ble_eq_true rfl), (Nat.le_of_ble_eq_true rfl)⟩ hl.1 rfl (Nat.le_of_ble_eq_true rfl) d_Tide_as_51) (fun H locs hS => ?_)
        exact r_iret C hS rfl h d_Tide_as_54
    · skip
      exact k_Tide_as_j20 C h hS (lv_sub hl [0] rfl)
set_option maxHeartbeats 4000000 in
set_option maxRecDepth 100000 in
theorem k_Integer_bitCount {l : Launch} {E : En} {p0 : Int32} {X : Mem} {r : Int32} (h : f_Integer_bitCount p0 = some r) : Met l y_Integer_bitCount (Cond.code y_Integer_bitCount c_Integer_bitCount 1 (some .int) :: tb) ({ frames := 0, cells := 0, slots := 0, locals := 0 } : Room) (PreC E [.int p0] X) (PostI E r X) 0 0 (Ad E) := by
  refine met_of (by decide) (Nat.le_of_ble_eq_true rfl) (fun p e s m below meth c C hS ls hl => ?_)
  replace C : Cx p s m ([.int p0] : List Value).toArray meth c c_Integer_bitCount 1 "java/lang/Integer" (some .int) E := C
  replace hl : lv_has ls 1 [(0, .int p0)] := hl
  obtain ⟨hx, hb, hml, hown, hts, hrt, hlk, hKx⟩ := id C
  unfold f_Integer_bitCount at h
  refine lv_iload_n hx hb d_Integer_bitCount_0 rfl (lv_at hl 0 rfl) ?_
  refine lv_iload_n hx hb d_Integer_bitCount_1 rfl (lv_at hl 0 rfl) ?_
  refine lv_iconst (v := 1) hx hb d_Integer_bitCount_2 (by decide) ?_
  refine lv_iushr hx hb d_Integer_bitCount_3 rfl ?_
  refine lv_ldcw (v := 1431655765) hx hb hown (hts _ tw_402) d_Integer_bitCount_4 ?_
  refine lv_iand hx hb d_Integer_bitCount_7 ?_
  refine lv_isub hx hb d_Integer_bitCount_8 ?_
  refine r_top h (fun v1 h => ?_)
  refine lv_istore_n (lv' := [(0, .int v1)]) hx hb d_Integer_bitCount_9 rfl hl (by decide) rfl (fun ls hl => ?_)
  refine lv_iload_n hx hb d_Integer_bitCount_10 rfl (lv_at hl 0 rfl) ?_
  refine lv_ldcw (v := 858993459) hx hb hown (hts _ tw_403) d_Integer_bitCount_11 ?_
  refine lv_iand hx hb d_Integer_bitCount_14 ?_
  refine lv_iload_n hx hb d_Integer_bitCount_15 rfl (lv_at hl 0 rfl) ?_
  refine lv_iconst (v := 2) hx hb d_Integer_bitCount_16 (by decide) ?_
  refine lv_iushr hx hb d_Integer_bitCount_17 rfl ?_
  refine lv_ldcw (v := 858993459) hx hb hown (hts _ tw_403) d_Integer_bitCount_18 ?_
  refine lv_iand hx hb d_Integer_bitCount_21 ?_
  refine lv_iadd hx hb d_Integer_bitCount_22 ?_
  refine r_top h (fun v2 h => ?_)
  refine lv_istore_n (lv' := [(0, .int v2)]) hx hb d_Integer_bitCount_23 rfl hl (by decide) rfl (fun ls hl => ?_)
  refine lv_iload_n hx hb d_Integer_bitCount_24 rfl (lv_at hl 0 rfl) ?_
  refine lv_iload_n hx hb d_Integer_bitCount_25 rfl (lv_at hl 0 rfl) ?_
  refine lv_iconst (v := 4) hx hb d_Integer_bitCount_26 (by decide) ?_
  refine lv_iushr hx hb d_Integer_bitCount_27 rfl ?_
  refine lv_iadd hx hb d_Integer_bitCount_28 ?_
  refine lv_ldcw (v := 252645135) hx hb hown (hts _ tw_404) d_Integer_bitCount_29 ?_
  refine lv_iand hx hb d_Integer_bitCount_32 ?_
  refine r_top h (fun v3 h => ?_)
  refine lv_istore_n (lv' := [(0, .int v3)]) hx hb d_Integer_bitCount_33 rfl hl (by decide) rfl (fun ls hl => ?_)
  refine lv_iload_n hx hb d_Integer_bitCount_34 rfl (lv_at hl 0 rfl) ?_
  refine lv_iload_n hx hb d_Integer_bitCount_35 rfl (lv_at hl 0 rfl) ?_
  refine lv_bipush (v := 8) hx hb d_Integer_bitCount_36 (by decide) ?_
  refine lv_iushr hx hb d_Integer_bitCount_38 rfl ?_
  refine lv_iadd hx hb d_Integer_bitCount_39 ?_
  refine r_top h (fun v4 h => ?_)
  refine lv_istore_n (lv' := [(0, .int v4)]) hx hb d_Integer_bitCount_40 rfl hl (by decide) rfl (fun ls hl => ?_)
  refine lv_iload_n hx hb d_Integer_bitCount_41 rfl (lv_at hl 0 rfl) ?_
  refine lv_iload_n hx hb d_Integer_bitCount_42 rfl (lv_at hl 0 rfl) ?_
  refine lv_bipush (v := 16) hx hb d_Integer_bitCount_43 (by decide) ?_
  refine lv_iushr hx hb d_Integer_bitCount_45 rfl ?_
  refine lv_iadd hx hb d_Integer_bitCount_46 ?_
  refine r_top h (fun v5 h => ?_)
  refine lv_istore_n (lv' := [(0, .int v5)]) hx hb d_Integer_bitCount_47 rfl hl (by decide) rfl (fun ls hl => ?_)
  refine lv_iload_n hx hb d_Integer_bitCount_48 rfl (lv_at hl 0 rfl) ?_
  refine lv_bipush (v := 63) hx hb d_Integer_bitCount_49 (by decide) ?_
  refine lv_iand hx hb d_Integer_bitCount_51 ?_
  exact r_iret0 C hS rfl h d_Integer_bitCount_52
set_option maxHeartbeats 4000000 in
set_option maxRecDepth 100000 in
theorem k_Tide_lay_j20 {p : Program} {l : Launch} {e : Env} {s : State} {m : MethodId} {args : Array Value} {below : List Frame} {meth : Method} {c : Code} {E : En} {r : Int32} {Y : Mem} (C : Cx p s m args meth c c_Tide_lay 4 "TideLoans" (some .int) E) {X : Mem} (h : f_Tide_lay_j20 X = some (r, Y)) {H : Heap} {locs : List Loc} (hS : Hs E s.heap X H locs) {ls : Array Slot} (hl : lv_has ls 4 [(0, .ref (ad E 0))]) : W p l e ({ frames := 2, cells := 0, slots := 0, locals := 43 } : Room) s m args below meth c H locs 0 0 (MQ below (PostI E r Y) args s 0 0 (Ad E)) (F0 m 20 ls []) := by
  obtain ⟨hx, hb, hml, hown, hts, hrt, hlk, hKx⟩ := id C
  unfold f_Tide_lay_j20 at h
  refine lv_aload_n hx hb d_Tide_lay_20 rfl (lv_at hl 0 rfl) ?_
  refine lv_ldc (v := -1000000001) hx hb hown (hts _ tw_280) d_Tide_lay_21 ?_
  obtain ⟨v1, X3, hr2, h⟩ := bd2_el h
  refine c_I hS (c_runV (As := [.int (-1000000001 : Int32)]) (rest := []) C hS (by decide) cel_Tide (rfl : cls[5]? = some (R_Tide, T_Tide, 12)) (k_Tide_finding (l := l) (E := E) (X := X) hr2) cw_Tide_finding ini_Tide_finding ins_Tide_finding sel_Tide_finding tw_281 hd_Tide_finding rfl ⟨⟨rfl, rfl⟩, (Nat.le_of_ble_eq_true rfl), (Nat.le_of_ble_eq_true rfl)⟩ ⟨(Nat.le_of_ble_eq_true rfl), (Nat.le_of_ble_eq_true rfl)⟩ hl.1 rfl (Nat.le_of_ble_eq_true rfl) d_Tide_lay_23) (fun H locs hS => ?_)
  exact r_iret C hS rfl h d_Tide_lay_26
set_option maxHeartbeats 4000000 in
set_option maxRecDepth 100000 in
theorem k_Tide_lay {l : Launch} {E : En} {p1 : Int32} {p2 : Int32} {X : Mem} {r : Int32} {Y : Mem} (h : f_Tide_lay p1 p2 X = some (r, Y)) : Met l y_Tide_lay (Cond.code y_Tide_lay c_Tide_lay 4 (some .int) :: tb) ({ frames := 2, cells := 0, slots := 0, locals := 43 } : Room) (PreC E [.ref (ad E 0), .int p1, .int p2] X) (PostI E r Y) 0 0 (Ad E) := by
  refine met_of (by decide) (Nat.le_of_ble_eq_true rfl) (fun p e s m below meth c C hS ls hl => ?_)
  replace C : Cx p s m ([.ref (ad E 0), .int p1, .int p2] : List Value).toArray meth c c_Tide_lay 4 "TideLoans" (some .int) E := C
  replace hl : lv_has ls 4 [(0, .ref (ad E 0)), (1, .int p1), (2, .int p2)] := hl
  obtain ⟨hx, hb, hml, hown, hts, hrt, hlk, hKx⟩ := id C
  unfold f_Tide_lay at h
  refine lv_aload_n hx hb d_Tide_lay_0 rfl (lv_at hl 0 rfl) ?_
  refine r_get C hS (by decide) cel_Tide (rfl : cls[5]? = some (R_Tide, T_Tide, 12)) in_Tide 1 (by decide) tw_237 rfl d_Tide_lay_1 ?_
  refine lv_iload_n hx hb d_Tide_lay_4 rfl (lv_at hl 1 rfl) ?_
  obtain ⟨v1, hr2, h⟩ := bd_el h
  refine c_I hS (c_runV (As := [.int p1]) (rest := []) C hS (by decide) (cel_Shore (rfl : kd 2 = 1)) (rfl : cls[1]? = some (R_Shore, T_Shore, 6)) (k_Shore_has (l := l) (E := E) (X := X) rfl hr2) cw_Shore_has ini_Shore_has ins_Shore_has sel_Shore_has tw_345 hd_Shore_has rfl ⟨⟨rfl, rfl⟩, (Nat.le_of_ble_eq_true rfl), (Nat.le_of_ble_eq_true rfl)⟩ ⟨(Nat.le_of_ble_eq_true rfl), (Nat.le_of_ble_eq_true rfl)⟩ hl.1 rfl (Nat.le_of_ble_eq_true rfl) d_Tide_lay_5) (fun H locs hS => ?_)
  refine r_if_eq (tgt := 20) C h d_Tide_lay_8 (by decide) (fun h => ?_) (fun h => ?_)
  · skip
    exact k_Tide_lay_j20 C h hS (lv_sub hl [0] rfl)
  · skip
    refine lv_iload_n hx hb d_Tide_lay_11 rfl (lv_at hl 2 rfl) ?_
    refine lv_bipush (v := 16) hx hb d_Tide_lay_12 (by decide) ?_
    obtain ⟨v3, hr4, h⟩ := bd_el h
    refine c_I hS (c_runS (As := [.int p2, .int (16 : Int32)]) (rest := []) C hS (k_Tide_isBelow (l := l) (E := E) (X := X) hr4) cw_Tide_isBelow ini_Tide_isBelow sta_Tide_isBelow tw_277 hd_Tide_isBelow rfl ⟨⟨rfl, rfl⟩, (Nat.le_of_ble_eq_true rfl), (Nat.le_of_ble_eq_true rfl)⟩ ⟨(Nat.le_of_ble_eq_true rfl), (Nat.le_of_ble_eq_true rfl)⟩ hl.1 rfl (Nat.le_of_ble_eq_true rfl) d_Tide_lay_14) (fun H locs hS => ?_)
    refine r_if_ne (tgt := 27) C h d_Tide_lay_17 (by decide) (fun h => ?_) (fun h => ?_)
    · skip
      refine lv_aload_n hx hb d_Tide_lay_27 rfl (lv_at hl 0 rfl) ?_
      refine r_get C hS (by decide) cel_Tide (rfl : cls[5]? = some (R_Tide, T_Tide, 12)) in_Tide 1 (by decide) tw_237 rfl d_Tide_lay_28 ?_
      refine r_get C hS (by decide) (cel_Shore (rfl : kd 2 = 1)) (rfl : cls[1]? = some (R_Shore, T_Shore, 6)) in_Shore 2 (by decide) tw_136 rfl d_Tide_lay_31 ?_
      refine lv_iload_n hx hb d_Tide_lay_34 rfl (lv_at hl 1 rfl) ?_
      refine r_ldT C hS (kd_things rfl) h d_Tide_lay_35 (fun j5 hj5 h => ?_)
      refine lv_astore_n (lv' := [(3, .ref (ad E ((2 + 3) + 1 + j5))), (0, .ref (ad E 0)), (1, .int p1), (2, .int p2)]) hx hb d_Tide_lay_36 rfl hl (by decide) rfl (fun ls hl => ?_)
      refine lv_aload_n hx hb d_Tide_lay_37 rfl (lv_at hl 0 rfl) ?_
      refine r_getI C hS (kd_lt (kd_thing (kd_things rfl) hj5) (by decide)) (cel_Thing (kd_thing (kd_things rfl) hj5)) (rfl : cls[3]? = some (R_Thing, T_Thing, 6)) in_Thing 4 (by decide) tw_113 rfl h d_Tide_lay_38 (fun v6 h => ?_)
      refine lv_iconst (v := 2) hx hb d_Tide_lay_41 (by decide) ?_
      refine r_icmp_ne (tgt := 52) C h d_Tide_lay_42 (by decide) (fun h => ?_) (fun h => ?_)
      · skip
        refine lv_aload_n hx hb d_Tide_lay_52 rfl (lv_at hl 0 rfl) ?_
        refine lv_iload_n hx hb d_Tide_lay_53 rfl (lv_at hl 3 rfl) ?_
        obtain ⟨X8, hr7, h⟩ := bd_el h
        refine c_V hS (c_runV (As := [.int p2]) (rest := []) C hS (kd_lt (kd_thing (kd_things rfl) hj5) (by decide)) (cel_Thing (kd_thing (kd_things rfl) hj5)) (rfl : cls[3]? = some (R_Thing, T_Thing, 6)) (k_Thing_layAt (l := l) (E := E) (X := X) (kd_thing (kd_things rfl) hj5) hr7) cw_Thing_layAt ini_Thing_layAt ins_Thing_layAt sel_Thing_layAt tw_395 hd_Thing_layAt rfl ⟨⟨rfl, rfl⟩, (Nat.le_of_ble_eq_true rfl), (Nat.le_of_ble_eq_true rfl)⟩ ⟨(Nat.le_of_ble_eq_true rfl), (Nat.le_of_ble_eq_true rfl)⟩ hl.1 rfl (Nat.le_of_ble_eq_true rfl) d_Tide_lay_54) (fun H locs hS => ?_)
        refine lv_aload_n hx hb d_Tide_lay_57 rfl (lv_at hl 1 rfl) ?_
        refine r_get C hS (by decide) cel_Tide (rfl : cls[5]? = some (R_Tide, T_Tide, 12)) in_Tide 1 (by decide) tw_237 rfl d_Tide_lay_58 ?_
        refine lv_iload_n hx hb d_Tide_lay_61 rfl (lv_at hl 3 rfl) ?_
        obtain ⟨v9, hr10, h⟩ := bd_el h
        refine c_I hS (c_runV (As := [.int p2]) (rest := []) C hS (by decide) (cel_Shore (rfl : kd 2 = 1)) (rfl : cls[1]? = some (R_Shore, T_Shore, 6)) (k_Shore_laidAt (l := l) (E := E) (X := X8) rfl hr10) cw_Shore_laidAt ini_Shore_laidAt ins_Shore_laidAt sel_Shore_laidAt tw_289 hd_Shore_laidAt rfl ⟨⟨rfl, rfl⟩, (Nat.le_of_ble_eq_true rfl), (Nat.le_of_ble_eq_true rfl)⟩ ⟨(Nat.le_of_ble_eq_true rfl), (Nat.le_of_ble_eq_true rfl)⟩ hl.1 rfl (Nat.le_of_ble_eq_true rfl) d_Tide_lay_62) (fun H locs hS => ?_)
        obtain ⟨v11, hr12, h⟩ := bd_el h
        refine c_I hS (c_runS (As := [.int v9]) (rest := []) C hS (k_Integer_bitCount (l := l) (E := E) (X := X8) hr12) cw_Integer_bitCount ini_Integer_bitCount sta_Integer_bitCount tw_399 hd_Integer_bitCount rfl ⟨⟨rfl, rfl⟩, (Nat.le_of_ble_eq_true rfl), (Nat.le_of_ble_eq_true rfl)⟩ ⟨(Nat.le_of_ble_eq_true rfl), (Nat.le_of_ble_eq_true rfl)⟩ hl.1 rfl (Nat.le_of_ble_eq_true rfl) d_Tide_lay_65) (fun H locs hS => ?_)
        exact r_iret C hS rfl h d_Tide_lay_68
      · skip
        refine lv_aload_n hx hb d_Tide_lay_45 rfl (lv_at hl 1 rfl) ?_
        refine lv_ldc (v := -1000000005) hx hb hown (hts _ tw_394) d_Tide_lay_46 ?_
        obtain ⟨v13, X15, hr14, h⟩ := bd2_el h
        refine c_I hS (c_runV (As := [.int (-1000000005 : Int32)]) (rest := []) C hS (by decide) cel_Tide (rfl : cls[5]? = some (R_Tide, T_Tide, 12)) (k_Tide_finding (l := l) (E := E) (X := X) hr14) cw_Tide_finding ini_Tide_finding ins_Tide_finding sel_Tide_finding tw_281 hd_Tide_finding rfl ⟨⟨rfl, rfl⟩, (Nat.le_of_ble_eq_true rfl), (Nat.le_of_ble_eq_true rfl)⟩ ⟨(Nat.le_of_ble_eq_true rfl), (Nat.le_of_ble_eq_true rfl)⟩ hl.1 rfl (Nat.le_of_ble_eq_true rfl) d_Tide_lay_48) (fun H locs hS => ?_)
        exact r_iret C hS rfl h d_Tide_lay_51
    · skip
      exact k_Tide_lay_j20 C h hS (lv_sub hl [0] rfl)
set_option maxHeartbeats 4000000 in
set_option maxRecDepth 100000 in
theorem k_Tide_fetch {l : Launch} {E : En} {p1 : Int32} {X : Mem} {r : Int32} {Y : Mem} (h : f_Tide_fetch p1 X = some (r, Y)) : Met l y_Tide_fetch (Cond.code y_Tide_fetch c_Tide_fetch 3 (some .int) :: tb) ({ frames := 2, cells := 0, slots := 0, locals := 43 } : Room) (PreC E [.ref (ad E 0), .int p1] X) (PostI E r Y) 0 0 (Ad E) := by
  refine met_of (by decide) (Nat.le_of_ble_eq_true rfl) (fun p e s m below meth c C hS ls hl => ?_)
  replace C : Cx p s m ([.ref (ad E 0), .int p1] : List Value).toArray meth c c_Tide_fetch 3 "TideLoans" (some .int) E := C
  replace hl : lv_has ls 3 [(0, .ref (ad E 0)), (1, .int p1)] := hl
  obtain ⟨hx, hb, hml, hown, hts, hrt, hlk, hKx⟩ := id C
  unfold f_Tide_fetch at h
  refine lv_aload_n hx hb d_Tide_fetch_0 rfl (lv_at hl 0 rfl) ?_
  refine r_get C hS (by decide) cel_Tide (rfl : cls[5]? = some (R_Tide, T_Tide, 12)) in_Tide 1 (by decide) tw_237 rfl d_Tide_fetch_1 ?_
  refine lv_iload_n hx hb d_Tide_fetch_4 rfl (lv_at hl 1 rfl) ?_
  obtain ⟨v1, hr2, h⟩ := bd_el h
  refine c_I hS (c_runV (As := [.int p1]) (rest := []) C hS (by decide) (cel_Shore (rfl : kd 2 = 1)) (rfl : cls[1]? = some (R_Shore, T_Shore, 6)) (k_Shore_has (l := l) (E := E) (X := X) rfl hr2) cw_Shore_has ini_Shore_has ins_Shore_has sel_Shore_has tw_345 hd_Shore_has rfl ⟨⟨rfl, rfl⟩, (Nat.le_of_ble_eq_true rfl), (Nat.le_of_ble_eq_true rfl)⟩ ⟨(Nat.le_of_ble_eq_true rfl), (Nat.le_of_ble_eq_true rfl)⟩ hl.1 rfl (Nat.le_of_ble_eq_true rfl) d_Tide_fetch_5) (fun H locs hS => ?_)
  refine r_if_ne (tgt := 18) C h d_Tide_fetch_8 (by decide) (fun h => ?_) (fun h => ?_)
  · skip
    refine lv_aload_n hx hb d_Tide_fetch_18 rfl (lv_at hl 0 rfl) ?_
    refine r_get C hS (by decide) cel_Tide (rfl : cls[5]? = some (R_Tide, T_Tide, 12)) in_Tide 1 (by decide) tw_237 rfl d_Tide_fetch_19 ?_
    refine r_get C hS (by decide) (cel_Shore (rfl : kd 2 = 1)) (rfl : cls[1]? = some (R_Shore, T_Shore, 6)) in_Shore 2 (by decide) tw_136 rfl d_Tide_fetch_22 ?_
    refine lv_iload_n hx hb d_Tide_fetch_25 rfl (lv_at hl 1 rfl) ?_
    refine r_ldT C hS (kd_things rfl) h d_Tide_fetch_26 (fun j3 hj3 h => ?_)
    refine lv_astore_n (lv' := [(2, .ref (ad E ((2 + 3) + 1 + j3))), (0, .ref (ad E 0)), (1, .int p1)]) hx hb d_Tide_fetch_27 rfl hl (by decide) rfl (fun ls hl => ?_)
    refine lv_aload_n hx hb d_Tide_fetch_28 rfl (lv_at hl 0 rfl) ?_
    refine r_getI C hS (kd_lt (kd_thing (kd_things rfl) hj3) (by decide)) (cel_Thing (kd_thing (kd_things rfl) hj3)) (rfl : cls[3]? = some (R_Thing, T_Thing, 6)) in_Thing 4 (by decide) tw_113 rfl h d_Tide_fetch_29 (fun v4 h => ?_)
    refine lv_iconst (v := 1) hx hb d_Tide_fetch_32 (by decide) ?_
    refine r_icmp_eq (tgt := 43) C h d_Tide_fetch_33 (by decide) (fun h => ?_) (fun h => ?_)
    · skip
      refine lv_aload_n hx hb d_Tide_fetch_43 rfl (lv_at hl 0 rfl) ?_
      refine lv_iconst (v := 0) hx hb d_Tide_fetch_44 (by decide) ?_
      refine r_putI C hS (kd_lt (kd_thing (kd_things rfl) hj3) (by decide)) (cel_Thing (kd_thing (kd_things rfl) hj3)) (rfl : cls[3]? = some (R_Thing, T_Thing, 6)) in_Thing ty_Thing tyok_Thing nm_Thing 4 (by decide) tw_113 rfl rfl rfl (Nat.le_of_ble_eq_true rfl) (set_Thing_4 (kd_thing (kd_things rfl) hj3)) rfl h d_Tide_fetch_45 (fun X5 H locs hS h => ?_)
      refine lv_aload_n hx hb d_Tide_fetch_48 rfl (lv_at hl 0 rfl) ?_
      refine r_getI C hS (kd_lt (kd_thing (kd_things rfl) hj3) (by decide)) (cel_Thing (kd_thing (kd_things rfl) hj3)) (rfl : cls[3]? = some (R_Thing, T_Thing, 6)) in_Thing 2 (by decide) tw_106 rfl h d_Tide_fetch_49 (fun v6 h => ?_)
      exact r_iret C hS rfl h d_Tide_fetch_52
    · skip
      refine lv_aload_n hx hb d_Tide_fetch_36 rfl (lv_at hl 1 rfl) ?_
      refine lv_ldc (v := -1000000005) hx hb hown (hts _ tw_394) d_Tide_fetch_37 ?_
      obtain ⟨v7, X9, hr8, h⟩ := bd2_el h
      refine c_I hS (c_runV (As := [.int (-1000000005 : Int32)]) (rest := []) C hS (by decide) cel_Tide (rfl : cls[5]? = some (R_Tide, T_Tide, 12)) (k_Tide_finding (l := l) (E := E) (X := X) hr8) cw_Tide_finding ini_Tide_finding ins_Tide_finding sel_Tide_finding tw_281 hd_Tide_finding rfl ⟨⟨rfl, rfl⟩, (Nat.le_of_ble_eq_true rfl), (Nat.le_of_ble_eq_true rfl)⟩ ⟨(Nat.le_of_ble_eq_true rfl), (Nat.le_of_ble_eq_true rfl)⟩ hl.1 rfl (Nat.le_of_ble_eq_true rfl) d_Tide_fetch_39) (fun H locs hS => ?_)
      exact r_iret C hS rfl h d_Tide_fetch_42
  · skip
    refine lv_aload_n hx hb d_Tide_fetch_11 rfl (lv_at hl 0 rfl) ?_
    refine lv_ldc (v := -1000000001) hx hb hown (hts _ tw_280) d_Tide_fetch_12 ?_
    obtain ⟨v10, X12, hr11, h⟩ := bd2_el h
    refine c_I hS (c_runV (As := [.int (-1000000001 : Int32)]) (rest := []) C hS (by decide) cel_Tide (rfl : cls[5]? = some (R_Tide, T_Tide, 12)) (k_Tide_finding (l := l) (E := E) (X := X) hr11) cw_Tide_finding ini_Tide_finding ins_Tide_finding sel_Tide_finding tw_281 hd_Tide_finding rfl ⟨⟨rfl, rfl⟩, (Nat.le_of_ble_eq_true rfl), (Nat.le_of_ble_eq_true rfl)⟩ ⟨(Nat.le_of_ble_eq_true rfl), (Nat.le_of_ble_eq_true rfl)⟩ hl.1 rfl (Nat.le_of_ble_eq_true rfl) d_Tide_fetch_14) (fun H locs hS => ?_)
    exact r_iret C hS rfl h d_Tide_fetch_17
