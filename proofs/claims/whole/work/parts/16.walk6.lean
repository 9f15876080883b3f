def I_Model_delay_b61 (p : Program) (l : Launch) (e : Env) (s : State) (m : MethodId) (args : Array Value) (below : List Frame) (meth : Method) (c : Code) (E : En) (r : Int32) (Y : Mem) (x1 : Int32) (x2 : Int32) (x3 : Int32) (n : Nat) (tg : (Int32 × Mem)) : Prop := ∀ (x4 : Int32) (x5 : Int64) (x7 : Int32) (X : Mem) (H : Heap) (locs : List Loc) (ls : Array Slot), it (fun a => f_Model_delay_b61 x1 x2 x3 a.1 a.2.1 a.2.2.1 a.2.2.2) n (x4, x5, x7, X) = some tg → Hs E s.heap X H locs → lv_has ls 10 [(0, .ref (ad E 70)), (1, .int x1), (2, .int x2), (3, .int x3), (4, .int x4), (5, .long x5), (7, .int x7)] → W p l e ({ frames := 5, cells := 0, slots := 0, locals := 118 } : Room) s m args below meth c H locs 0 0 (MQ below (PostI E r Y) args s 0 0 (Ad E)) (F0 m 61 ls [])
set_option maxHeartbeats 4000000 in
set_option maxRecDepth 100000 in
theorem k_Model_delay_j158 {p : Program} {l : Launch} {e : Env} {s : State} {m : MethodId} {args : Array Value} {below : List Frame} {meth : Method} {c : Code} {E : En} {r : Int32} {Y : Mem} (C : Cx p s m args meth c c_Model_delay 10 "TideLoansModel" (some .int) E) {x1 : Int32} {x2 : Int32} {x3 : Int32} {x4 : Int32} {x7 : Int32} {q0 : Int64} {X : Mem} {tg : ((Int32 × Mem) ⊕ (Int32 × Int64 × Int32 × Mem))} {n61 : Nat} (hc61 : fin (fun a => f_Model_delay_b61 x1 x2 x3 a.1 a.2.1 a.2.2.1 a.2.2.2) n61 (r, Y) tg) (ih61 : I_Model_delay_b61 p l e s m args below meth c E r Y x1 x2 x3 n61 (r, Y)) (h : f_Model_delay_j158 x1 x2 x3 x4 x7 q0 X = some tg) {H : Heap} {locs : List Loc} (hS : Hs E s.heap X H locs) {ls : Array Slot} (hl : lv_has ls 10 [(0, .ref (ad E 70)), (1, .int x1), (2, .int x2), (3, .int x3), (4, .int x4), (7, .int x7)]) : W p l e ({ frames := 5, cells := 0, slots := 0, locals := 118 } : Room) s m args below meth c H locs 0 0 (MQ below (PostI E r Y) args s 0 0 (Ad E)) (F0 m 158 ls [.long q0]) := by
  obtain ⟨hx, hb, hml, hown, hts, hrt, hlk, hKx⟩ := id C
  unfold f_Model_delay_j158 at h
  refine lv_lstore (lv' := [(5, .long q0), (0, .ref (ad E 70)), (1, .int x1), (2, .int x2), (3, .int x3), (4, .int x4), (7, .int x7)]) hx hb d_Model_delay_158 hl (by decide) rfl (fun ls hl => ?_)
  refine r_iinc C (w := 1) (lv' := fun z => [(7, .int z), (5, .long q0), (0, .ref (ad E 70)), (1, .int x1), (2, .int x2), (3, .int x3), (4, .int x4)]) h d_Model_delay_160 hl (k := 6) rfl (by decide) (by decide) (fun _ => rfl) (fun v1 ls h hl => ?_)
  refine lv_goto (tgt := 61) hx hb d_Model_delay_163 (by decide) ?_
  exact ih61 _ _ _ _ _ _ _ (lp_next h hc61) hS (lv_sub hl [2, 3, 4, 5, 6, 1, 0] rfl)
set_option maxHeartbeats 4000000 in
set_option maxRecDepth 100000 in
theorem k_Model_delay_j141 {p : Program} {l : Launch} {e : Env} {s : State} {m : MethodId} {args : Array Value} {below : List Frame} {meth : Method} {c : Code} {E : En} {r : Int32} {Y : Mem} (C : Cx p s m args meth c c_Model_delay 10 "TideLoansModel" (some .int) E) {x1 : Int32} {x2 : Int32} {x3 : Int32} {x5 : Int64} {x7 : Int32} {x8 : Int64} {q0 : Int32} {X : Mem} {tg : ((Int32 × Mem) ⊕ (Int32 × Int64 × Int32 × Mem))} {n61 : Nat} (hc61 : fin (fun a => f_Model_delay_b61 x1 x2 x3 a.1 a.2.1 a.2.2.1 a.2.2.2) n61 (r, Y) tg) (ih61 : I_Model_delay_b61 p l e s m args below meth c E r Y x1 x2 x3 n61 (r, Y)) (h : f_Model_delay_j141 x1 x2 x3 x5 x7 x8 q0 X = some tg) {H : Heap} {locs : List Loc} (hS : Hs E s.heap X H locs) {ls : Array Slot} (hl : lv_has ls 10 [(0, .ref (ad E 70)), (1, .int x1), (2, .int x2), (3, .int x3), (5, .long x5), (7, .int x7), (8, .long x8)]) : W p l e ({ frames := 5, cells := 0, slots := 0, locals := 118 } : Room) s m args below meth c H locs 0 0 (MQ below (PostI E r Y) args s 0 0 (Ad E)) (F0 m 141 ls [.int q0]) := by
  obtain ⟨hx, hb, hml, hown, hts, hrt, hlk, hKx⟩ := id C
  unfold f_Model_delay_j141 at h
  refine lv_istore (lv' := [(4, .int q0), (0, .ref (ad E 70)), (1, .int x1), (2, .int x2), (3, .int x3), (5, .long x5), (7, .int x7), (8, .long x8)]) hx hb d_Model_delay_141 hl (by decide) rfl (fun ls hl => ?_)
  refine lv_lload hx hb d_Model_delay_143 (lv_at hl 7 rfl) ?_
  refine lv_lload hx hb d_Model_delay_145 (lv_at hl 5 rfl) ?_
  refine W.lcmp hx hb d_Model_delay_147 ?_
  refine r_if_le (tgt := 156) C h d_Model_delay_148 (by decide) (fun h => ?_) (fun h => ?_)
  · skip
    refine lv_lload hx hb d_Model_delay_156 (lv_at hl 5 rfl) ?_
    exact k_Model_delay_j158 C hc61 ih61 h hS (lv_sub hl [1, 2, 3, 4, 0, 6] rfl)
  · skip
    refine lv_lload hx hb d_Model_delay_151 (lv_at hl 7 rfl) ?_
    refine lv_goto (tgt := 158) hx hb d_Model_delay_153 (by decide) ?_
    exact k_Model_delay_j158 C hc61 ih61 h hS (lv_sub hl [1, 2, 3, 4, 0, 6] rfl)
set_option maxHeartbeats 4000000 in
set_option maxRecDepth 100000 in
theorem k_Model_delay_b61 {p : Program} {l : Launch} {e : Env} {s : State} {m : MethodId} {args : Array Value} {below : List Frame} {meth : Method} {c : Code} {E : En} {r : Int32} {Y : Mem} (C : Cx p s m args meth c c_Model_delay 10 "TideLoansModel" (some .int) E) (x1 : Int32) (x2 : Int32) (x3 : Int32) : ∀ n, I_Model_delay_b61 p l e s m args below meth c E r Y x1 x2 x3 n (r, Y) := by
  obtain ⟨hx, hb, hml, hown, hts, hrt, hlk, hKx⟩ := id C
  intro n
  induction n with
  | zero => intro x4 x5 x7 X H locs ls h; exact it_0 h
  | succ n ih =>
    intro x4 x5 x7 X H locs ls h hS hl
    obtain ⟨cc61, h, hc61⟩ := it_el h
    replace h : f_Model_delay_b61 x1 x2 x3 x4 x5 x7 X = some cc61 := h
    unfold f_Model_delay_b61 at h
    refine lv_iload hx hb d_Model_delay_61 (lv_at hl 6 rfl) ?_
    refine lv_iload_n hx hb d_Model_delay_63 rfl (lv_at hl 3 rfl) ?_
    refine r_icmp_ge (tgt := 166) C h d_Model_delay_64 (by decide) (fun h => ?_) (fun h => ?_)
    · skip
      refine lv_iload hx hb d_Model_delay_166 (lv_at hl 4 rfl) ?_
      replace h := lp_ret h hc61
      exact r_iret C hS rfl h d_Model_delay_168
    · skip
      refine lv_aload_n hx hb d_Model_delay_67 rfl (lv_at hl 0 rfl) ?_
      refine r_get C hS (by decide) cel_Model (rfl : cls[6]? = some (R_Model, T_Model, 16)) in_Model 0 (by decide) tw_794 rfl d_Model_delay_68 ?_
      refine lv_aload_n hx hb d_Model_delay_71 rfl (lv_at hl 0 rfl) ?_
      refine r_get C hS (by decide) cel_Model (rfl : cls[6]? = some (R_Model, T_Model, 16)) in_Model 3 (by decide) tw_797 rfl d_Model_delay_72 ?_
      obtain ⟨X2, hr1, h⟩ := bd_el h
      refine c_V hS (c_runS (As := [.ref (ad E 71), .ref (ad E 74)]) (rest := []) C hS (k_Model_copyRow (l := l) (E := E) (X := X) rfl rfl hr1) cw_Model_copyRow ini_Model_copyRow sta_Model_copyRow tw_1012 hd_Model_copyRow rfl ⟨⟨rfl, rfl⟩, (Nat.le_of_ble_eq_true rfl), (Nat.le_of_ble_eq_true rfl)⟩ ⟨(Nat.le_of_ble_eq_true rfl), (Nat.le_of_ble_eq_true rfl)⟩ hl.1 rfl (Nat.le_of_ble_eq_true rfl) d_Model_delay_75) (fun H locs hS => ?_)
      refine lv_aload_n hx hb d_Model_delay_78 rfl (lv_at hl 0 rfl) ?_
      refine r_get C hS (by decide) cel_Model (rfl : cls[6]? = some (R_Model, T_Model, 16)) in_Model 0 (by decide) tw_794 rfl d_Model_delay_79 ?_
      refine lv_iload_n hx hb d_Model_delay_82 rfl (lv_at hl 1 rfl) ?_
      refine lv_iconst (v := 4) hx hb d_Model_delay_83 (by decide) ?_
      obtain ⟨v3, hr4, h⟩ := bd_el h
      refine c_I hS (c_runS (As := [.int x1, .int (4 : Int32)]) (rest := [.ref (ad E 71)]) C hS (k_Model_at (l := l) (E := E) (X := X2) hr4) cw_Model_at ini_Model_at sta_Model_at tw_914 hd_Model_at rfl ⟨⟨rfl, rfl⟩, (Nat.le_of_ble_eq_true rfl), (Nat.le_of_ble_eq_true rfl)⟩ ⟨(Nat.le_of_ble_eq_true rfl), (Nat.le_of_ble_eq_true rfl)⟩ hl.1 rfl (Nat.le_of_ble_eq_true rfl) d_Model_delay_84) (fun H locs hS => ?_)
      refine lv_iconst (v := 0) hx hb d_Model_delay_87 (by decide) ?_
      refine r_stI C hS (n := 83) rfl (by decide) h d_Model_delay_88 (fun X5 H locs hS h => ?_)
      refine lv_aload_n hx hb d_Model_delay_89 rfl (lv_at hl 0 rfl) ?_
      refine lv_iload hx hb d_Model_delay_90 (lv_at hl 6 rfl) ?_
      obtain ⟨X7, hr6, h⟩ := bd_el h
      refine c_V hS (c_runV (As := [.int x7]) (rest := []) C hS (by decide) cel_Model (rfl : cls[6]? = some (R_Model, T_Model, 16)) (k_Model_goes (l := l) (E := E) (X := X5) hr6) cw_Model_goes ini_Model_goes ins_Model_goes sel_Model_goes tw_976 hd_Model_goes rfl ⟨⟨rfl, rfl⟩, (Nat.le_of_ble_eq_true rfl), (Nat.le_of_ble_eq_true rfl)⟩ ⟨(Nat.le_of_ble_eq_true rfl), (Nat.le_of_ble_eq_true rfl)⟩ hl.1 rfl (Nat.le_of_ble_eq_true rfl) d_Model_delay_92) (fun H locs hS => ?_)
      refine lv_aload_n hx hb d_Model_delay_95 rfl (lv_at hl 0 rfl) ?_
      refine lv_iload_n hx hb d_Model_delay_96 rfl (lv_at hl 1 rfl) ?_
      refine lv_iload_n hx hb d_Model_delay_97 rfl (lv_at hl 2 rfl) ?_
      obtain ⟨X9, hr8, h⟩ := bd_el h
      refine c_V hS (c_runV (As := [.int x1, .int x2]) (rest := []) C hS (by decide) cel_Model (rfl : cls[6]? = some (R_Model, T_Model, 16)) (k_Model_lies (l := l) (E := E) (X := X7) hr8) cw_Model_lies ini_Model_lies ins_Model_lies sel_Model_lies tw_959 hd_Model_lies rfl ⟨⟨rfl, rfl⟩, (Nat.le_of_ble_eq_true rfl), (Nat.le_of_ble_eq_true rfl)⟩ ⟨(Nat.le_of_ble_eq_true rfl), (Nat.le_of_ble_eq_true rfl)⟩ hl.1 rfl (Nat.le_of_ble_eq_true rfl) d_Model_delay_98) (fun H locs hS => ?_)
      refine lv_aload_n hx hb d_Model_delay_101 rfl (lv_at hl 0 rfl) ?_
      refine lv_iload_n hx hb d_Model_delay_102 rfl (lv_at hl 3 rfl) ?_
      refine lv_iload hx hb d_Model_delay_103 (lv_at hl 6 rfl) ?_
      refine lv_isub hx hb d_Model_delay_105 ?_
      obtain ⟨X11, hr10, h⟩ := bd_el h
      refine c_V hS (c_runV (As := [.int (x3 - x7)]) (rest := []) C hS (by decide) cel_Model (rfl : cls[6]? = some (R_Model, T_Model, 16)) (k_Model_goes (l := l) (E := E) (X := X9) hr10) cw_Model_goes ini_Model_goes ins_Model_goes sel_Model_goes tw_976 hd_Model_goes rfl ⟨⟨rfl, rfl⟩, (Nat.le_of_ble_eq_true rfl), (Nat.le_of_ble_eq_true rfl)⟩ ⟨(Nat.le_of_ble_eq_true rfl), (Nat.le_of_ble_eq_true rfl)⟩ hl.1 rfl (Nat.le_of_ble_eq_true rfl) d_Model_delay_106) (fun H locs hS => ?_)
      refine lv_aload_n hx hb d_Model_delay_109 rfl (lv_at hl 0 rfl) ?_
      obtain ⟨v12, hr13, h⟩ := bd_el h
      refine c_L hS (c_runV (As := []) (rest := []) C hS (by decide) cel_Model (rfl : cls[6]? = some (R_Model, T_Model, 16)) (k_Model_purses (l := l) (E := E) (X := X11) hr13) cw_Model_purses ini_Model_purses ins_Model_purses sel_Model_purses tw_992 hd_Model_purses rfl ⟨⟨rfl, rfl⟩, (Nat.le_of_ble_eq_true rfl), (Nat.le_of_ble_eq_true rfl)⟩ ⟨(Nat.le_of_ble_eq_true rfl), (Nat.le_of_ble_eq_true rfl)⟩ hl.1 rfl (Nat.le_of_ble_eq_true rfl) d_Model_delay_110) (fun H locs hS => ?_)
      refine lv_lstore (lv' := [(8, .long v12), (0, .ref (ad E 70)), (1, .int x1), (2, .int x2), (3, .int x3), (4, .int x4), (5, .long x5), (7, .int x7)]) hx hb d_Model_delay_113 hl (by decide) rfl (fun ls hl => ?_)
      refine lv_aload_n hx hb d_Model_delay_115 rfl (lv_at hl 1 rfl) ?_
      refine r_get C hS (by decide) cel_Model (rfl : cls[6]? = some (R_Model, T_Model, 16)) in_Model 3 (by decide) tw_797 rfl d_Model_delay_116 ?_
      refine lv_aload_n hx hb d_Model_delay_119 rfl (lv_at hl 1 rfl) ?_
      refine r_get C hS (by decide) cel_Model (rfl : cls[6]? = some (R_Model, T_Model, 16)) in_Model 0 (by decide) tw_794 rfl d_Model_delay_120 ?_
      obtain ⟨X15, hr14, h⟩ := bd_el h
      refine c_V hS (c_runS (As := [.ref (ad E 74), .ref (ad E 71)]) (rest := []) C hS (k_Model_copyRow (l := l) (E := E) (X := X11) rfl rfl hr14) cw_Model_copyRow ini_Model_copyRow sta_Model_copyRow tw_1012 hd_Model_copyRow rfl ⟨⟨rfl, rfl⟩, (Nat.le_of_ble_eq_true rfl), (Nat.le_of_ble_eq_true rfl)⟩ ⟨(Nat.le_of_ble_eq_true rfl), (Nat.le_of_ble_eq_true rfl)⟩ hl.1 rfl (Nat.le_of_ble_eq_true rfl) d_Model_delay_123) (fun H locs hS => ?_)
      refine lv_lload hx hb d_Model_delay_126 (lv_at hl 0 rfl) ?_
      refine lv_lload hx hb d_Model_delay_128 (lv_at hl 6 rfl) ?_
      refine W.lcmp hx hb d_Model_delay_130 ?_
      refine r_if_le (tgt := 139) C h d_Model_delay_131 (by decide) (fun h => ?_) (fun h => ?_)
      · skip
        refine lv_iload hx hb d_Model_delay_139 (lv_at hl 5 rfl) ?_
        exact k_Model_delay_j141 C hc61 ih h hS (lv_sub hl [1, 2, 3, 4, 6, 7, 0] rfl)
      · skip
        refine lv_iload hx hb d_Model_delay_134 (lv_at hl 7 rfl) ?_
        refine lv_goto (tgt := 141) hx hb d_Model_delay_136 (by decide) ?_
        exact k_Model_delay_j141 C hc61 ih h hS (lv_sub hl [1, 2, 3, 4, 6, 7, 0] rfl)
set_option maxHeartbeats 4000000 in
set_option maxRecDepth 100000 in
theorem k_Model_delay_j27 {p : Program} {l : Launch} {e : Env} {s : State} {m : MethodId} {args : Array Value} {below : List Frame} {meth : Method} {c : Code} {E : En} {r : Int32} {Y : Mem} (C : Cx p s m args meth c c_Model_delay 10 "TideLoansModel" (some .int) E) {X : Mem} (h : f_Model_delay_j27 X = some (r, Y)) {H : Heap} {locs : List Loc} (hS : Hs E s.heap X H locs) {ls : Array Slot} (hl : lv_has ls 10 [(0, .ref (ad E 70))]) : W p l e ({ frames := 5, cells := 0, slots := 0, locals := 118 } : Room) s m args below meth c H locs 0 0 (MQ below (PostI E r Y) args s 0 0 (Ad E)) (F0 m 27 ls []) := by
  obtain ⟨hx, hb, hml, hown, hts, hrt, hlk, hKx⟩ := id C
  unfold f_Model_delay_j27 at h
  refine lv_aload_n hx hb d_Model_delay_27 rfl (lv_at hl 0 rfl) ?_
  refine lv_ldc (v := -1000000001) hx hb hown (hts _ tw_858) d_Model_delay_28 ?_
  obtain ⟨v1, X3, hr2, h⟩ := bd2_el h
  refine c_I hS (c_runV (As := [.int (-1000000001 : Int32)]) (rest := []) C hS (by decide) cel_Model (rfl : cls[6]? = some (R_Model, T_Model, 16)) (k_Model_finds (l := l) (E := E) (X := X) hr2) cw_Model_finds ini_Model_finds ins_Model_finds sel_Model_finds tw_859 hd_Model_finds rfl ⟨⟨rfl, rfl⟩, (Nat.le_of_ble_eq_true rfl), (Nat.le_of_ble_eq_true rfl)⟩ ⟨(Nat.le_of_ble_eq_true rfl), (Nat.le_of_ble_eq_true rfl)⟩ hl.1 rfl (Nat.le_of_ble_eq_true rfl) d_Model_delay_30) (fun H locs hS => ?_)
  exact r_iret C hS rfl h d_Model_delay_33
set_option maxHeartbeats 4000000 in
set_option maxRecDepth 100000 in
theorem k_Model_delay {l : Launch} {E : En} {p1 : Int32} {p2 : Int32} {p3 : Int32} {X : Mem} {r : Int32} {Y : Mem} (h : f_Model_delay p1 p2 p3 X = some (r, Y)) : Met l y_Model_delay (Cond.code y_Model_delay c_Model_delay 10 (some .int) :: tb) ({ frames := 5, cells := 0, slots := 0, locals := 118 } : Room) (PreC E [.ref (ad E 70), .int p1, .int p2, .int p3] X) (PostI E r Y) 0 0 (Ad E) := by
  refine met_of (by decide) (Nat.le_of_ble_eq_true rfl) (fun p e s m below meth c C hS ls hl => ?_)
  replace C : Cx p s m ([.ref (ad E 70), .int p1, .int p2, .int p3] : List Value).toArray meth c c_Model_delay 10 "TideLoansModel" (some .int) E := C
  replace hl : lv_has ls 10 [(0, .ref (ad E 70)), (1, .int p1), (2, .int p2), (3, .int p3)] := hl
  obtain ⟨hx, hb, hml, hown, hts, hrt, hlk, hKx⟩ := id C
  unfold f_Model_delay at h
  refine lv_aload_n hx hb d_Model_delay_0 rfl (lv_at hl 0 rfl) ?_
  refine lv_iload_n hx hb d_Model_delay_1 rfl (lv_at hl 1 rfl) ?_
  obtain ⟨v1, hr2, h⟩ := bd_el h
  refine c_I hS (c_runV (As := [.int p1]) (rest := []) C hS (by decide) cel_Model (rfl : cls[6]? = some (R_Model, T_Model, 16)) (k_Model_isThing (l := l) (E := E) (X := X) hr2) cw_Model_isThing ini_Model_isThing ins_Model_isThing sel_Model_isThing tw_921 hd_Model_isThing rfl ⟨⟨rfl, rfl⟩, (Nat.le_of_ble_eq_true rfl), (Nat.le_of_ble_eq_true rfl)⟩ ⟨(Nat.le_of_ble_eq_true rfl), (Nat.le_of_ble_eq_true rfl)⟩ hl.1 rfl (Nat.le_of_ble_eq_true rfl) d_Model_delay_2) (fun H locs hS => ?_)
  refine r_if_eq (tgt := 27) C h d_Model_delay_5 (by decide) (fun h => ?_) (fun h => ?_)
  · skip
    exact k_Model_delay_j27 C h hS (lv_sub hl [0] rfl)
  · skip
    refine lv_iload_n hx hb d_Model_delay_8 rfl (lv_at hl 2 rfl) ?_
    obtain ⟨v3, hr4, h⟩ := bd_el h
    refine c_I hS (c_runS (As := [.int p2]) (rest := []) C hS (k_Model_isCell (l := l) (E := E) (X := X) hr4) cw_Model_isCell ini_Model_isCell sta_Model_isCell tw_847 hd_Model_isCell rfl ⟨⟨rfl, rfl⟩, (Nat.le_of_ble_eq_true rfl), (Nat.le_of_ble_eq_true rfl)⟩ ⟨(Nat.le_of_ble_eq_true rfl), (Nat.le_of_ble_eq_true rfl)⟩ hl.1 rfl (Nat.le_of_ble_eq_true rfl) d_Model_delay_9) (fun H locs hS => ?_)
    refine r_if_eq (tgt := 27) C h d_Model_delay_12 (by decide) (fun h => ?_) (fun h => ?_)
    · skip
      exact k_Model_delay_j27 C h hS (lv_sub hl [0] rfl)
    · skip
      refine lv_iload_n hx hb d_Model_delay_15 rfl (lv_at hl 3 rfl) ?_
      refine lv_i2l hx hb d_Model_delay_16 rfl ?_
      refine lv_lconst (v := 1) hx hb d_Model_delay_17 (by decide) ?_
      refine lv_ldc2 (v := 60) hx hb hown (hts _ tw_1049) d_Model_delay_18 ?_
      obtain ⟨v5, hr6, h⟩ := bd_el h
      refine c_I hS (c_runS (As := [.long (p3.toInt64), .long (1 : Int64), .long (60 : Int64)]) (rest := []) C hS (k_Model_isIn (l := l) (E := E) (X := X) hr6) cw_Model_isIn ini_Model_isIn sta_Model_isIn tw_851 hd_Model_isIn rfl ⟨⟨rfl, rfl⟩, (Nat.le_of_ble_eq_true rfl), (Nat.le_of_ble_eq_true rfl)⟩ ⟨(Nat.le_of_ble_eq_true rfl), (Nat.le_of_ble_eq_true rfl)⟩ hl.1 rfl (Nat.le_of_ble_eq_true rfl) d_Model_delay_21) (fun H locs hS => ?_)
      refine r_if_ne (tgt := 34) C h d_Model_delay_24 (by decide) (fun h => ?_) (fun h => ?_)
      · skip
        refine lv_aload_n hx hb d_Model_delay_34 rfl (lv_at hl 0 rfl) ?_
        refine lv_iload_n hx hb d_Model_delay_35 rfl (lv_at hl 1 rfl) ?_
        refine lv_iconst (v := 2) hx hb d_Model_delay_36 (by decide) ?_
        obtain ⟨v7, hr8, h⟩ := bd_el h
        refine c_I hS (c_runV (As := [.int p1, .int (2 : Int32)]) (rest := []) C hS (by decide) cel_Model (rfl : cls[6]? = some (R_Model, T_Model, 16)) (k_Model_isIt (l := l) (E := E) (X := X) hr8) cw_Model_isIt ini_Model_isIt ins_Model_isIt sel_Model_isIt tw_871 hd_Model_isIt rfl ⟨⟨rfl, rfl⟩, (Nat.le_of_ble_eq_true rfl), (Nat.le_of_ble_eq_true rfl)⟩ ⟨(Nat.le_of_ble_eq_true rfl), (Nat.le_of_ble_eq_true rfl)⟩ hl.1 rfl (Nat.le_of_ble_eq_true rfl) d_Model_delay_37) (fun H locs hS => ?_)
        refine r_if_eq (tgt := 50) C h d_Model_delay_40 (by decide) (fun h => ?_) (fun h => ?_)
        · skip
          refine lv_iconst (v := 0) hx hb d_Model_delay_50 (by decide) ?_
          refine lv_istore (lv' := [(4, .int (0 : Int32)), (0, .ref (ad E 70)), (1, .int p1), (2, .int p2), (3, .int p3)]) hx hb d_Model_delay_51 hl (by decide) rfl (fun ls hl => ?_)
          refine lv_ldc2 (v := -1) hx hb hown (hts _ tw_1040) d_Model_delay_53 ?_
          refine lv_lstore (lv' := [(5, .long (-1 : Int64)), (4, .int (0 : Int32)), (0, .ref (ad E 70)), (1, .int p1), (2, .int p2), (3, .int p3)]) hx hb d_Model_delay_56 hl (by decide) rfl (fun ls hl => ?_)
          refine lv_iconst (v := 0) hx hb d_Model_delay_58 (by decide) ?_
          refine lv_istore (lv' := [(7, .int (0 : Int32)), (5, .long (-1 : Int64)), (4, .int (0 : Int32)), (0, .ref (ad E 70)), (1, .int p1), (2, .int p2), (3, .int p3)]) hx hb d_Model_delay_59 hl (by decide) rfl (fun ls hl => ?_)
          exact k_Model_delay_b61 C _ _ _ FU _ _ _ _ _ _ _ h hS (lv_sub hl [3, 4, 5, 6, 2, 1, 0] rfl)
        · skip
          refine lv_aload_n hx hb d_Model_delay_43 rfl (lv_at hl 0 rfl) ?_
          refine lv_ldc (v := -1000000005) hx hb hown (hts _ tw_958) d_Model_delay_44 ?_
          obtain ⟨v9, X11, hr10, h⟩ := bd2_el h
          refine c_I hS (c_runV (As := [.int (-1000000005 : Int32)]) (rest := []) C hS (by decide) cel_Model (rfl : cls[6]? = some (R_Model, T_Model, 16)) (k_Model_finds (l := l) (E := E) (X := X) hr10) cw_Model_finds ini_Model_finds ins_Model_finds sel_Model_finds tw_859 hd_Model_finds rfl ⟨⟨rfl, rfl⟩, (Nat.le_of_ble_eq_true rfl), (Nat.le_of_ble_eq_true rfl)⟩ ⟨(Nat.le_of_ble_eq_true rfl), (Nat.le_of_ble_eq_true rfl)⟩ hl.1 rfl (Nat.le_of_ble_eq_true rfl) d_Model_delay_46) (fun H locs hS => ?_)
          exact r_iret C hS rfl h d_Model_delay_49
      · skip
        exact k_Model_delay_j27 C h hS (lv_sub hl [0] rfl)
def I_Model_kind_b45 (p : Program) (l : Launch) (e : Env) (s : State) (m : MethodId) (args : Array Value) (below : List Frame) (meth : Method) (c : Code) (E : En) (r : Int32) (Y : Mem) (x1 : Int32) (x2 : Int32) (x3 : Int32) (n : Nat) (tg : (Int32 × Mem)) : Prop := ∀ (x4 : Int32) (x5 : Int64) (x7 : Int32) (X : Mem) (H : Heap) (locs : List Loc) (ls : Array Slot), it (fun a => f_Model_kind_b45 x1 x2 x3 a.1 a.2.1 a.2.2.1 a.2.2.2) n (x4, x5, x7, X) = some tg → Hs E s.heap X H locs → lv_has ls 10 [(0, .ref (ad E 70)), (1, .int x1), (2, .int x2), (3, .int x3), (4, .int x4), (5, .long x5), (7, .int x7)] → W p l e ({ frames := 6, cells := 0, slots := 0, locals := 141 } : Room) s m args below meth c H locs 0 0 (MQ below (PostI E r Y) args s 0 0 (Ad E)) (F0 m 45 ls [])
set_option maxHeartbeats 4000000 in
set_option maxRecDepth 100000 in
theorem k_Model_kind_j102 {p : Program} {l : Launch} {e : Env} {s : State} {m : MethodId} {args : Array Value} {below : List Frame} {meth : Method} {c : Code} {E : En} {r : Int32} {Y : Mem} (C : Cx p s m args meth c c_Model_kind 10 "TideLoansModel" (some .int) E) {x1 : Int32} {x2 : Int32} {x3 : Int32} {x4 : Int32} {x7 : Int32} {q0 : Int64} {X : Mem} {tg : ((Int32 × Mem) ⊕ (Int32 × Int64 × Int32 × Mem))} {n45 : Nat} (hc45 : fin (fun a => f_Model_kind_b45 x1 x2 x3 a.1 a.2.1 a.2.2.1 a.2.2.2) n45 (r, Y) tg) (ih45 : I_Model_kind_b45 p l e s m args below meth c E r Y x1 x2 x3 n45 (r, Y)) (h : f_Model_kind_j102 x1 x2 x3 x4 x7 q0 X = some tg) {H : Heap} {locs : List Loc} (hS : Hs E s.heap X H locs) {ls : Array Slot} (hl : lv_has ls 10 [(0, .ref (ad E 70)), (1, .int x1), (2, .int x2), (3, .int x3), (4, .int x4), (7, .int x7)]) : W p l e ({ frames := 6, cells := 0, slots := 0, locals := 141 } : Room) s m args below meth c H locs 0 0 (MQ below (PostI E r Y) args s 0 0 (Ad E)) (F0 m 102 ls [.long q0]) := by
  obtain ⟨hx, hb, hml, hown, hts, hrt, hlk, hKx⟩ := id C
  unfold f_Model_kind_j102 at h
  refine lv_lstore (lv' := [(5, .long q0), (0, .ref (ad E 70)), (1, .int x1), (2, .int x2), (3, .int x3), (4, .int x4), (7, .int x7)]) hx hb d_Model_kind_102 hl (by decide) rfl (fun ls hl => ?_)
  refine r_iinc C (w := 1) (lv' := fun z => [(7, .int z), (5, .long q0), (0, .ref (ad E 70)), (1, .int x1), (2, .int x2), (3, .int x3), (4, .int x4)]) h d_Model_kind_104 hl (k := 6) rfl (by decide) (by decide) (fun _ => rfl) (fun v1 ls h hl => ?_)
  refine lv_goto (tgt := 45) hx hb d_Model_kind_107 (by decide) ?_
  exact ih45 _ _ _ _ _ _ _ (lp_next h hc45) hS (lv_sub hl [2, 3, 4, 5, 6, 1, 0] rfl)
set_option maxHeartbeats 4000000 in
set_option maxRecDepth 100000 in
theorem k_Model_kind_j85 {p : Program} {l : Launch} {e : Env} {s : State} {m : MethodId} {args : Array Value} {below : List Frame} {meth : Method} {c : Code} {E : En} {r : Int32} {Y : Mem} (C : Cx p s m args meth c c_Model_kind 10 "TideLoansModel" (some .int) E) {x1 : Int32} {x2 : Int32} {x3 : Int32} {x5 : Int64} {x7 : Int32} {x8 : Int64} {q0 : Int32} {X : Mem} {tg : ((Int32 × Mem) ⊕ (Int32 × Int64 × Int32 × Mem))} {n45 : Nat} (hc45 : fin (fun a => f_Model_kind_b45 x1 x2 x3 a.1 a.2.1 a.2.2.1 a.2.2.2) n45 (r, Y) tg) (ih45 : I_Model_kind_b45 p l e s m args below meth c E r Y x1 x2 x3 n45 (r, Y)) (h : f_Model_kind_j85 x1 x2 x3 x5 x7 x8 q0 X = some tg) {H : Heap} {locs : List Loc} (hS : Hs E s.heap X H locs) {ls : Array Slot} (hl : lv_has ls 10 [(0, .ref (ad E 70)), (1, .int x1), (2, .int x2), (3, .int x3), (5, .long x5), (7, .int x7), (8, .long x8)]) : W p l e ({ frames := 6, cells := 0, slots := 0, locals := 141 } : Room) s m args below meth c H locs 0 0 (MQ below (PostI E r Y) args s 0 0 (Ad E)) (F0 m 85 ls [.int q0]) := by
  obtain ⟨hx, hb, hml, hown, hts, hrt, hlk, hKx⟩ := id C
  unfold f_Model_kind_j85 at h
  refine lv_istore (lv' := [(4, .int q0), (0, .ref (ad E 70)), (1, .int x1), (2, .int x2), (3, .int x3), (5, .long x5), (7, .int x7), (8, .long x8)]) hx hb d_Model_kind_85 hl (by decide) rfl (fun ls hl => ?_)
  refine lv_lload hx hb d_Model_kind_87 (lv_at hl 7 rfl) ?_
  refine lv_lload hx hb d_Model_kind_89 (lv_at hl 5 rfl) ?_
  refine W.lcmp hx hb d_Model_kind_91 ?_
  refine r_if_le (tgt := 100) C h d_Model_kind_92 (by decide) (fun h => ?_) (fun h => ?_)
  · skip
    refine lv_lload hx hb d_Model_kind_100 (lv_at hl 5 rfl) ?_
    exact k_Model_kind_j102 C hc45 ih45 h hS (lv_sub hl [1, 2, 3, 4, 0, 6] rfl)
  · skip
    refine lv_lload hx hb d_Model_kind_95 (lv_at hl 7 rfl) ?_
    refine lv_goto (tgt := 102) hx hb d_Model_kind_97 (by decide) ?_
    exact k_Model_kind_j102 C hc45 ih45 h hS (lv_sub hl [1, 2, 3, 4, 0, 6] rfl)
set_option maxHeartbeats 4000000 in
set_option maxRecDepth 100000 in
theorem k_Model_kind_b45 {p : Program} {l : Launch} {e : Env} {s : State} {m : MethodId} {args : Array Value} {below : List Frame} {meth : Method} {c : Code} {E : En} {r : Int32} {Y : Mem} (C : Cx p s m args meth c c_Model_kind 10 "TideLoansModel" (some .int) E) (x1 : Int32) (x2 : Int32) (x3 : Int32) : ∀ n, I_Model_kind_b45 p l e s m args below meth c E r Y x1 x2 x3 n (r, Y) := by
  obtain ⟨hx, hb, hml, hown, hts, hrt, hlk, hKx⟩ := id C
  intro n
  induction n with
  | zero => intro x4 x5 x7 X H locs ls h; exact it_0 h
  | succ n ih =>
    intro x4 x5 x7 X H locs ls h hS hl
    obtain ⟨cc45, h, hc45⟩ := it_el h
    replace h : f_Model_kind_b45 x1 x2 x3 x4 x5 x7 X = some cc45 := h
    unfold f_Model_kind_b45 at h
    refine lv_iload hx hb d_Model_kind_45 (lv_at hl 6 rfl) ?_
    refine lv_iconst (v := 5) hx hb d_Model_kind_47 (by decide) ?_
    refine r_icmp_gt (tgt := 110) C h d_Model_kind_48 (by decide) (fun h => ?_) (fun h => ?_)
    · skip
      refine lv_aload_n hx hb d_Model_kind_110 rfl (lv_at hl 0 rfl) ?_
      refine r_get C hS (by decide) cel_Model (rfl : cls[6]? = some (R_Model, T_Model, 16)) in_Model 0 (by decide) tw_794 rfl d_Model_kind_111 ?_
      refine lv_iload_n hx hb d_Model_kind_114 rfl (lv_at hl 1 rfl) ?_
      refine lv_iconst (v := 0) hx hb d_Model_kind_115 (by decide) ?_
      obtain ⟨v1, hr2, h⟩ := bd_el h
      refine c_I hS (c_runS (As := [.int x1, .int (0 : Int32)]) (rest := [.ref (ad E 71)]) C hS (k_Model_at (l := l) (E := E) (X := X) hr2) cw_Model_at ini_Model_at sta_Model_at tw_914 hd_Model_at rfl ⟨⟨rfl, rfl⟩, (Nat.le_of_ble_eq_true rfl), (Nat.le_of_ble_eq_true rfl)⟩ ⟨(Nat.le_of_ble_eq_true rfl), (Nat.le_of_ble_eq_true rfl)⟩ hl.1 rfl (Nat.le_of_ble_eq_true rfl) d_Model_kind_116) (fun H locs hS => ?_)
      refine lv_iload_n hx hb d_Model_kind_119 rfl (lv_at hl 3 rfl) ?_
      refine r_stI C hS (n := 83) rfl (by decide) h d_Model_kind_120 (fun X3 H locs hS h => ?_)
      refine lv_iload hx hb d_Model_kind_121 (lv_at hl 4 rfl) ?_
      replace h := lp_ret h hc45
      exact r_iret C hS rfl h d_Model_kind_123
    · skip
      refine lv_aload_n hx hb d_Model_kind_51 rfl (lv_at hl 0 rfl) ?_
      refine r_get C hS (by decide) cel_Model (rfl : cls[6]? = some (R_Model, T_Model, 16)) in_Model 0 (by decide) tw_794 rfl d_Model_kind_52 ?_
      refine lv_iload_n hx hb d_Model_kind_55 rfl (lv_at hl 1 rfl) ?_
      refine lv_iconst (v := 0) hx hb d_Model_kind_56 (by decide) ?_
      obtain ⟨v4, hr5, h⟩ := bd_el h
      refine c_I hS (c_runS (As := [.int x1, .int (0 : Int32)]) (rest := [.ref (ad E 71)]) C hS (k_Model_at (l := l) (E := E) (X := X) hr5) cw_Model_at ini_Model_at sta_Model_at tw_914 hd_Model_at rfl ⟨⟨rfl, rfl⟩, (Nat.le_of_ble_eq_true rfl), (Nat.le_of_ble_eq_true rfl)⟩ ⟨(Nat.le_of_ble_eq_true rfl), (Nat.le_of_ble_eq_true rfl)⟩ hl.1 rfl (Nat.le_of_ble_eq_true rfl) d_Model_kind_57) (fun H locs hS => ?_)
      refine lv_iload hx hb d_Model_kind_60 (lv_at hl 6 rfl) ?_
      refine r_stI C hS (n := 83) rfl (by decide) h d_Model_kind_62 (fun X6 H locs hS h => ?_)
      refine lv_aload_n hx hb d_Model_kind_63 rfl (lv_at hl 0 rfl) ?_
      refine lv_iload_n hx hb d_Model_kind_64 rfl (lv_at hl 2 rfl) ?_
      obtain ⟨v7, X9, hr8, h⟩ := bd2_el h
      refine c_L hS (c_runV (As := [.int x2]) (rest := []) C hS (by decide) cel_Model (rfl : cls[6]? = some (R_Model, T_Model, 16)) (k_Model_pursesOn (l := l) (E := E) (X := X6) hr8) cw_Model_pursesOn ini_Model_pursesOn ins_Model_pursesOn sel_Model_pursesOn tw_1041 hd_Model_pursesOn rfl ⟨⟨rfl, rfl⟩, (Nat.le_of_ble_eq_true rfl), (Nat.le_of_ble_eq_true rfl)⟩ ⟨(Nat.le_of_ble_eq_true rfl), (Nat.le_of_ble_eq_true rfl)⟩ hl.1 rfl (Nat.le_of_ble_eq_true rfl) d_Model_kind_65) (fun H locs hS => ?_)
      refine lv_lstore (lv' := [(8, .long v7), (0, .ref (ad E 70)), (1, .int x1), (2, .int x2), (3, .int x3), (4, .int x4), (5, .long x5), (7, .int x7)]) hx hb d_Model_kind_68 hl (by decide) rfl (fun ls hl => ?_)
      refine lv_lload hx hb d_Model_kind_70 (lv_at hl 0 rfl) ?_
      refine lv_lload hx hb d_Model_kind_72 (lv_at hl 6 rfl) ?_
      refine W.lcmp hx hb d_Model_kind_74 ?_
      refine r_if_le (tgt := 83) C h d_Model_kind_75 (by decide) (fun h => ?_) (fun h => ?_)
      · skip
        refine lv_iload hx hb d_Model_kind_83 (lv_at hl 5 rfl) ?_
        exact k_Model_kind_j85 C hc45 ih h hS (lv_sub hl [1, 2, 3, 4, 6, 7, 0] rfl)
      · skip
        refine lv_iload hx hb d_Model_kind_78 (lv_at hl 7 rfl) ?_
        refine lv_goto (tgt := 85) hx hb d_Model_kind_80 (by decide) ?_
        exact k_Model_kind_j85 C hc45 ih h hS (lv_sub hl [1, 2, 3, 4, 6, 7, 0] rfl)
set_option maxHeartbeats 4000000 in
set_option maxRecDepth 100000 in
theorem k_Model_kind_j20 {p : Program} {l : Launch} {e : Env} {s : State} {m : MethodId} {args : Array Value} {below : List Frame} {meth : Method} {c : Code} {E : En} {r : Int32} {Y : Mem} (C : Cx p s m args meth c c_Model_kind 10 "TideLoansModel" (some .int) E) {X : Mem} (h : f_Model_kind_j20 X = some (r, Y)) {H : Heap} {locs : List Loc} (hS : Hs E s.heap X H locs) {ls : Array Slot} (hl : lv_has ls 10 [(0, .ref (ad E 70))]) : W p l e ({ frames := 6, cells := 0, slots := 0, locals := 141 } : Room) s m args below meth c H locs 0 0 (MQ below (PostI E r Y) args s 0 0 (Ad E)) (F0 m 20 ls []) := by
  obtain ⟨hx, hb, hml, hown, hts, hrt, hlk, hKx⟩ := id C
  unfold f_Model_kind_j20 at h
  refine lv_aload_n hx hb d_Model_kind_20 rfl (lv_at hl 0 rfl) ?_
  refine lv_ldc (v := -1000000001) hx hb hown (hts _ tw_858) d_Model_kind_21 ?_
  obtain ⟨v1, X3, hr2, h⟩ := bd2_el h
  refine c_I hS (c_runV (As := [.int (-1000000001 : Int32)]) (rest := []) C hS (by decide) cel_Model (rfl : cls[6]? = some (R_Model, T_Model, 16)) (k_Model_finds (l := l) (E := E) (X := X) hr2) cw_Model_finds ini_Model_finds ins_Model_finds sel_Model_finds tw_859 hd_Model_finds rfl ⟨⟨rfl, rfl⟩, (Nat.le_of_ble_eq_true rfl), (Nat.le_of_ble_eq_true rfl)⟩ ⟨(Nat.le_of_ble_eq_true rfl), (Nat.le_of_ble_eq_true rfl)⟩ hl.1 rfl (Nat.le_of_ble_eq_true rfl) d_Model_kind_23) (fun H locs hS => ?_)
  exact r_iret C hS rfl h d_Model_kind_26
set_option maxHeartbeats 4000000 in
set_option maxRecDepth 100000 in
theorem k_Model_kind {l : Launch} {E : En} {p1 : Int32} {p2 : Int32} {X : Mem} {r : Int32} {Y : Mem} (h : f_Model_kind p1 p2 X = some (r, Y)) : Met l y_Model_kind (Cond.code y_Model_kind c_Model_kind 10 (some .int) :: tb) ({ frames := 6, cells := 0, slots := 0, locals := 141 } : Room) (PreC E [.ref (ad E 70), .int p1, .int p2] X) (PostI E r Y) 0 0 (Ad E) := by
  refine met_of (by decide) (Nat.le_of_ble_eq_true rfl) (fun p e s m below meth c C hS ls hl => ?_)
  replace C : Cx p s m ([.ref (ad E 70), .int p1, .int p2] : List Value).toArray meth c c_Model_kind 10 "TideLoansModel" (some .int) E := C
  replace hl : lv_has ls 10 [(0, .ref (ad E 70)), (1, .int p1), (2, .int p2)] := hl
  obtain ⟨hx, hb, hml, hown, hts, hrt, hlk, hKx⟩ := id C
  unfold f_Model_kind at h
  refine lv_aload_n hx hb d_Model_kind_0 rfl (lv_at hl 0 rfl) ?_
  refine lv_iload_n hx hb d_Model_kind_1 rfl (lv_at hl 1 rfl) ?_
  obtain ⟨v1, hr2, h⟩ := bd_el h
  refine c_I hS (c_runV (As := [.int p1]) (rest := []) C hS (by decide) cel_Model (rfl : cls[6]? = some (R_Model, T_Model, 16)) (k_Model_isThing (l := l) (E := E) (X := X) hr2) cw_Model_isThing ini_Model_isThing ins_Model_isThing sel_Model_isThing tw_921 hd_Model_isThing rfl ⟨⟨rfl, rfl⟩, (Nat.le_of_ble_eq_true rfl), (Nat.le_of_ble_eq_true rfl)⟩ ⟨(Nat.le_of_ble_eq_true rfl), (Nat.le_of_ble_eq_true rfl)⟩ hl.1 rfl (Nat.le_of_ble_eq_true rfl) d_Model_kind_2) (fun H locs hS => ?_)
  refine r_if_eq (tgt := 20) C h d_Model_kind_5 (by decide) (fun h => ?_) (fun h => ?_)
  · skip
    exact k_Model_kind_j20 C h hS (lv_sub hl [0] rfl)
  · skip
    refine lv_iload_n hx hb d_Model_kind_8 rfl (lv_at hl 2 rfl) ?_
    refine lv_i2l hx hb d_Model_kind_9 rfl ?_
    refine lv_lconst (v := 1) hx hb d_Model_kind_10 (by decide) ?_
    refine lv_ldc2 (v := 100) hx hb hown (hts _ tw_937) d_Model_kind_11 ?_
    obtain ⟨v3, hr4, h⟩ := bd_el h
    refine c_I hS (c_runS (As := [.long (p2.toInt64), .long (1 : Int64), .long (100 : Int64)]) (rest := []) C hS (k_Model_isIn (l := l) (E := E) (X := X) hr4) cw_Model_isIn ini_Model_isIn sta_Model_isIn tw_851 hd_Model_isIn rfl ⟨⟨rfl, rfl⟩, (Nat.le_of_ble_eq_true rfl), (Nat.le_of_ble_eq_true rfl)⟩ ⟨(Nat.le_of_ble_eq_true rfl), (Nat.le_of_ble_eq_true rfl)⟩ hl.1 rfl (Nat.le_of_ble_eq_true rfl) d_Model_kind_14) (fun H locs hS => ?_)
    refine r_if_ne (tgt := 27) C h d_Model_kind_17 (by decide) (fun h => ?_) (fun h => ?_)
    · skip
      refine lv_aload_n hx hb d_Model_kind_27 rfl (lv_at hl 0 rfl) ?_
      refine lv_iload_n hx hb d_Model_kind_28 rfl (lv_at hl 1 rfl) ?_
      refine lv_iconst (v := 0) hx hb d_Model_kind_29 (by decide) ?_
      obtain ⟨v5, hr6, h⟩ := bd_el h
      refine c_I hS (c_runV (As := [.int p1, .int (0 : Int32)]) (rest := []) C hS (by decide) cel_Model (rfl : cls[6]? = some (R_Model, T_Model, 16)) (k_Model_its (l := l) (E := E) (X := X) hr6) cw_Model_its ini_Model_its ins_Model_its sel_Model_its tw_875 hd_Model_its rfl ⟨⟨rfl, rfl⟩, (Nat.le_of_ble_eq_true rfl), (Nat.le_of_ble_eq_true rfl)⟩ ⟨(Nat.le_of_ble_eq_true rfl), (Nat.le_of_ble_eq_true rfl)⟩ hl.1 rfl (Nat.le_of_ble_eq_true rfl) d_Model_kind_30) (fun H locs hS => ?_)
      refine lv_istore_n (lv' := [(3, .int v5), (0, .ref (ad E 70)), (1, .int p1), (2, .int p2)]) hx hb d_Model_kind_33 rfl hl (by decide) rfl (fun ls hl => ?_)
      refine lv_iconst (v := 0) hx hb d_Model_kind_34 (by decide) ?_
      refine lv_istore (lv' := [(4, .int (0 : Int32)), (3, .int v5), (0, .ref (ad E 70)), (1, .int p1), (2, .int p2)]) hx hb d_Model_kind_35 hl (by decide) rfl (fun ls hl => ?_)
      refine lv_ldc2 (v := -1) hx hb hown (hts _ tw_1040) d_Model_kind_37 ?_
      refine lv_lstore (lv' := [(5, .long (-1 : Int64)), (4, .int (0 : Int32)), (3, .int v5), (0, .ref (ad E 70)), (1, .int p1), (2, .int p2)]) hx hb d_Model_kind_40 hl (by decide) rfl (fun ls hl => ?_)
      refine lv_iconst (v := 0) hx hb d_Model_kind_42 (by decide) ?_
      refine lv_istore (lv' := [(7, .int (0 : Int32)), (5, .long (-1 : Int64)), (4, .int (0 : Int32)), (3, .int v5), (0, .ref (ad E 70)), (1, .int p1), (2, .int p2)]) hx hb d_Model_kind_43 hl (by decide) rfl (fun ls hl => ?_)
      exact k_Model_kind_b45 C _ _ _ FU _ _ _ _ _ _ _ h hS (lv_sub hl [4, 5, 6, 3, 2, 1, 0] rfl)
    · skip
      exact k_Model_kind_j20 C h hS (lv_sub hl [0] rfl)
def I_Model_worth_b53 (p : Program) (l : Launch) (e : Env) (s : State) (m : MethodId) (args : Array Value) (below : List Frame) (meth : Method) (c : Code) (E : En) (r : Int32) (Y : Mem) (x1 : Int32) (x2 : Int32) (x3 : Int32) (x4 : Int32) (n : Nat) (tg : (Int32 × Mem)) : Prop := ∀ (x5 : Int32) (x6 : Int32) (X : Mem) (H : Heap) (locs : List Loc) (ls : Array Slot), it (fun a => f_Model_worth_b53 x1 x2 x3 x4 a.1 a.2.1 a.2.2) n (x5, x6, X) = some tg → Hs E s.heap X H locs → lv_has ls 7 [(0, .ref (ad E 70)), (1, .int x1), (2, .int x2), (3, .int x3), (4, .int x4), (5, .int x5), (6, .int x6)] → W p l e ({ frames := 6, cells := 0, slots := 0, locals := 141 } : Room) s m args below meth c H locs 0 0 (MQ below (PostI E r Y) args s 0 0 (Ad E)) (F0 m 53 ls [])
set_option maxHeartbeats 4000000 in
set_option maxRecDepth 100000 in
theorem k_Model_worth_j107 {p : Program} {l : Launch} {e : Env} {s : State} {m : MethodId} {args : Array Value} {below : List Frame} {meth : Method} {c : Code} {E : En} {r : Int32} {Y : Mem} (C : Cx p s m args meth c c_Model_worth 7 "TideLoansModel" (some .int) E) {x1 : Int32} {x4 : Int32} {x5 : Int32} {X : Mem} (h : f_Model_worth_j107 x1 x4 x5 X = some (r, Y)) {H : Heap} {locs : List Loc} (hS : Hs E s.heap X H locs) {ls : Array Slot} (hl : lv_has ls 7 [(0, .ref (ad E 70)), (1, .int x1), (4, .int x4), (5, .int x5)]) : W p l e ({ frames := 6, cells := 0, slots := 0, locals := 141 } : Room) s m args below meth c H locs 0 0 (MQ below (PostI E r Y) args s 0 0 (Ad E)) (F0 m 107 ls []) := by
  obtain ⟨hx, hb, hml, hown, hts, hrt, hlk, hKx⟩ := id C
  unfold f_Model_worth_j107 at h
  refine lv_aload_n hx hb d_Model_worth_107 rfl (lv_at hl 0 rfl) ?_
  refine r_get C hS (by decide) cel_Model (rfl : cls[6]? = some (R_Model, T_Model, 16)) in_Model 0 (by decide) tw_794 rfl d_Model_worth_108 ?_
  refine lv_iload_n hx hb d_Model_worth_111 rfl (lv_at hl 1 rfl) ?_
  refine lv_iconst (v := 3) hx hb d_Model_worth_112 (by decide) ?_
  obtain ⟨v1, hr2, h⟩ := bd_el h
  refine c_I hS (c_runS (As := [.int x1, .int (3 : Int32)]) (rest := [.ref (ad E 71)]) C hS (k_Model_at (l := l) (E := E) (X := X) hr2) cw_Model_at ini_Model_at sta_Model_at tw_914 hd_Model_at rfl ⟨⟨rfl, rfl⟩, (Nat.le_of_ble_eq_true rfl), (Nat.le_of_ble_eq_true rfl)⟩ ⟨(Nat.le_of_ble_eq_true rfl), (Nat.le_of_ble_eq_true rfl)⟩ hl.1 rfl (Nat.le_of_ble_eq_true rfl) d_Model_worth_113) (fun H locs hS => ?_)
  refine lv_iload hx hb d_Model_worth_116 (lv_at hl 2 rfl) ?_
  refine r_stI C hS (n := 83) rfl (by decide) h d_Model_worth_118 (fun X3 H locs hS h => ?_)
  refine lv_aload_n hx hb d_Model_worth_119 rfl (lv_at hl 0 rfl) ?_
  refine lv_iload hx hb d_Model_worth_120 (lv_at hl 3 rfl) ?_
  obtain ⟨v4, X6, hr5, h⟩ := bd2_el h
  refine c_I hS (c_runV (As := [.int x5]) (rest := []) C hS (by decide) cel_Model (rfl : cls[6]? = some (R_Model, T_Model, 16)) (k_Model_orNone (l := l) (E := E) (X := X3) hr5) cw_Model_orNone ini_Model_orNone ins_Model_orNone sel_Model_orNone tw_1023 hd_Model_orNone rfl ⟨⟨rfl, rfl⟩, (Nat.le_of_ble_eq_true rfl), (Nat.le_of_ble_eq_true rfl)⟩ ⟨(Nat.le_of_ble_eq_true rfl), (Nat.le_of_ble_eq_true rfl)⟩ hl.1 rfl (Nat.le_of_ble_eq_true rfl) d_Model_worth_122) (fun H locs hS => ?_)
  exact r_iret C hS rfl h d_Model_worth_125
set_option maxHeartbeats 4000000 in
set_option maxRecDepth 100000 in
theorem k_Model_worth_j99 {p : Program} {l : Launch} {e : Env} {s : State} {m : MethodId} {args : Array Value} {below : List Frame} {meth : Method} {c : Code} {E : En} {r : Int32} {Y : Mem} (C : Cx p s m args meth c c_Model_worth 7 "TideLoansModel" (some .int) E) {x1 : Int32} {x2 : Int32} {x3 : Int32} {x4 : Int32} {x6 : Int32} {q0 : Int32} {X : Mem} {tg : ((Int32 × Mem) ⊕ (Int32 × Int32 × Mem))} {n53 : Nat} (hc53 : fin (fun a => f_Model_worth_b53 x1 x2 x3 x4 a.1 a.2.1 a.2.2) n53 (r, Y) tg) (ih53 : I_Model_worth_b53 p l e s m args below meth c E r Y x1 x2 x3 x4 n53 (r, Y)) (h : f_Model_worth_j99 x1 x2 x3 x4 x6 q0 X = some tg) {H : Heap} {locs : List Loc} (hS : Hs E s.heap X H locs) {ls : Array Slot} (hl : lv_has ls 7 [(0, .ref (ad E 70)), (1, .int x1), (2, .int x2), (3, .int x3), (4, .int x4), (6, .int x6)]) : W p l e ({ frames := 6, cells := 0, slots := 0, locals := 141 } : Room) s m args below meth c H locs 0 0 (MQ below (PostI E r Y) args s 0 0 (Ad E)) (F0 m 99 ls [.int q0]) := by
  obtain ⟨hx, hb, hml, hown, hts, hrt, hlk, hKx⟩ := id C
  unfold f_Model_worth_j99 at h
  refine lv_istore (lv' := [(5, .int q0), (0, .ref (ad E 70)), (1, .int x1), (2, .int x2), (3, .int x3), (4, .int x4), (6, .int x6)]) hx hb d_Model_worth_99 hl (by decide) rfl (fun ls hl => ?_)
  refine r_iinc C (w := 1) (lv' := fun z => [(6, .int z), (5, .int q0), (0, .ref (ad E 70)), (1, .int x1), (2, .int x2), (3, .int x3), (4, .int x4)]) h d_Model_worth_101 hl (k := 6) rfl (by decide) (by decide) (fun _ => rfl) (fun v1 ls h hl => ?_)
  refine lv_goto (tgt := 53) hx hb d_Model_worth_104 (by decide) ?_
  exact ih53 _ _ _ _ _ _ (lp_next h hc53) hS (lv_sub hl [2, 3, 4, 5, 6, 1, 0] rfl)
set_option maxHeartbeats 4000000 in
set_option maxRecDepth 100000 in
theorem k_Model_worth_b53 {p : Program} {l : Launch} {e : Env} {s : State} {m : MethodId} {args : Array Value} {below : List Frame} {meth : Method} {c : Code} {E : En} {r : Int32} {Y : Mem} (C : Cx p s m args meth c c_Model_worth 7 "TideLoansModel" (some .int) E) (x1 : Int32) (x2 : Int32) (x3 : Int32) (x4 : Int32) : ∀ n, I_Model_worth_b53 p l e s m args below meth c E r Y x1 x2 x3 x4 n (r, Y) := by
  obtain ⟨hx, hb, hml, hown, hts, hrt, hlk, hKx⟩ := id C
  intro n
  induction n with
  | zero => intro x5 x6 X H locs ls h; exact it_0 h
  | succ n ih =>
    intro x5 x6 X H locs ls h hS hl
    obtain ⟨cc53, h, hc53⟩ := it_el h
    replace h : f_Model_worth_b53 x1 x2 x3 x4 x5 x6 X = some cc53 := h
    unfold f_Model_worth_b53 at h
    refine lv_iload hx hb d_Model_worth_53 (lv_at hl 6 rfl) ?_
    refine lv_sipush (v := 999) hx hb d_Model_worth_55 (by decide) ?_
    refine r_icmp_gt (tgt := 107) C h d_Model_worth_58 (by decide) (fun h => ?_) (fun h => ?_)
    · skip
      replace h := lp_up h hc53
      exact k_Model_worth_j107 C h hS (lv_sub hl [0, 1, 4, 5] rfl)
    · skip
      refine lv_iload hx hb d_Model_worth_61 (lv_at hl 5 rfl) ?_
      refine r_if_ge (tgt := 107) C h d_Model_worth_63 (by decide) (fun h => ?_) (fun h => ?_)
      · skip
        replace h := lp_up h hc53
        exact k_Model_worth_j107 C h hS (lv_sub hl [0, 1, 4, 5] rfl)
      · skip
        refine lv_aload_n hx hb d_Model_worth_66 rfl (lv_at hl 0 rfl) ?_
        refine r_get C hS (by decide) cel_Model (rfl : cls[6]? = some (R_Model, T_Model, 16)) in_Model 0 (by decide) tw_794 rfl d_Model_worth_67 ?_
        refine lv_iload_n hx hb d_Model_worth_70 rfl (lv_at hl 1 rfl) ?_
        refine lv_iconst (v := 3) hx hb d_Model_worth_71 (by decide) ?_
        obtain ⟨v1, hr2, h⟩ := bd_el h
        refine c_I hS (c_runS (As := [.int x1, .int (3 : Int32)]) (rest := [.ref (ad E 71)]) C hS (k_Model_at (l := l) (E := E) (X := X) hr2) cw_Model_at ini_Model_at sta_Model_at tw_914 hd_Model_at rfl ⟨⟨rfl, rfl⟩, (Nat.le_of_ble_eq_true rfl), (Nat.le_of_ble_eq_true rfl)⟩ ⟨(Nat.le_of_ble_eq_true rfl), (Nat.le_of_ble_eq_true rfl)⟩ hl.1 rfl (Nat.le_of_ble_eq_true rfl) d_Model_worth_72) (fun H locs hS => ?_)
        refine lv_iload hx hb d_Model_worth_75 (lv_at hl 6 rfl) ?_
        refine r_stI C hS (n := 83) rfl (by decide) h d_Model_worth_77 (fun X3 H locs hS h => ?_)
        refine lv_aload_n hx hb d_Model_worth_78 rfl (lv_at hl 0 rfl) ?_
        refine lv_aload_n hx hb d_Model_worth_79 rfl (lv_at hl 0 rfl) ?_
        refine lv_iload_n hx hb d_Model_worth_80 rfl (lv_at hl 1 rfl) ?_
        refine lv_iconst (v := 1) hx hb d_Model_worth_81 (by decide) ?_
        obtain ⟨v4, hr5, h⟩ := bd_el h
        refine c_I hS (c_runV (As := [.int x1, .int (1 : Int32)]) (rest := [.ref (ad E 70)]) C hS (by decide) cel_Model (rfl : cls[6]? = some (R_Model, T_Model, 16)) (k_Model_its (l := l) (E := E) (X := X3) hr5) cw_Model_its ini_Model_its ins_Model_its sel_Model_its tw_875 hd_Model_its rfl ⟨⟨rfl, rfl⟩, (Nat.le_of_ble_eq_true rfl), (Nat.le_of_ble_eq_true rfl)⟩ ⟨(Nat.le_of_ble_eq_true rfl), (Nat.le_of_ble_eq_true rfl)⟩ hl.1 rfl (Nat.le_of_ble_eq_true rfl) d_Model_worth_82) (fun H locs hS => ?_)
        refine lv_iload_n hx hb d_Model_worth_85 rfl (lv_at hl 2 rfl) ?_
        obtain ⟨v6, X8, hr7, h⟩ := bd2_el h
        refine c_I hS (c_runV (As := [.int v4, .int x2]) (rest := []) C hS (by decide) cel_Model (rfl : cls[6]? = some (R_Model, T_Model, 16)) (k_Model_purseOn (l := l) (E := E) (X := X3) hr7) cw_Model_purseOn ini_Model_purseOn ins_Model_purseOn sel_Model_purseOn tw_1008 hd_Model_purseOn rfl ⟨⟨rfl, rfl⟩, (Nat.le_of_ble_eq_true rfl), (Nat.le_of_ble_eq_true rfl)⟩ ⟨(Nat.le_of_ble_eq_true rfl), (Nat.le_of_ble_eq_true rfl)⟩ hl.1 rfl (Nat.le_of_ble_eq_true rfl) d_Model_worth_86) (fun H locs hS => ?_)
        refine lv_iload_n hx hb d_Model_worth_89 rfl (lv_at hl 3 rfl) ?_
        refine r_icmp_lt (tgt := 98) C h d_Model_worth_90 (by decide) (fun h => ?_) (fun h => ?_)
        · skip
          refine lv_iconst (v := -1) hx hb d_Model_worth_98 (by decide) ?_
          exact k_Model_worth_j99 C hc53 ih h hS (lv_sub hl [0, 1, 2, 3, 4, 6] rfl)
        · skip
          refine lv_iload hx hb d_Model_worth_93 (lv_at hl 6 rfl) ?_
          refine lv_goto (tgt := 99) hx hb d_Model_worth_95 (by decide) ?_
          exact k_Model_worth_j99 C hc53 ih h hS (lv_sub hl [0, 1, 2, 3, 4, 6] rfl)
set_option maxHeartbeats 4000000 in
set_option maxRecDepth 100000 in
theorem k_Model_worth_j32 {p : Program} {l : Launch} {e : Env} {s : State} {m : MethodId} {args : Array Value} {below : List Frame} {meth : Method} {c : Code} {E : En} {r : Int32} {Y : Mem} (C : Cx p s m args meth c c_Model_worth 7 "TideLoansModel" (some .int) E) {X : Mem} (h : f_Model_worth_j32 X = some (r, Y)) {H : Heap} {locs : List Loc} (hS : Hs E s.heap X H locs) {ls : Array Slot} (hl : lv_has ls 7 [(0, .ref (ad E 70))]) : W p l e ({ frames := 6, cells := 0, slots := 0, locals := 141 } : Room) s m args below meth c H locs 0 0 (MQ below (PostI E r Y) args s 0 0 (Ad E)) (F0 m 32 ls []) := by
  obtain ⟨hx, hb, hml, hown, hts, hrt, hlk, hKx⟩ := id C
  unfold f_Model_worth_j32 at h
  refine lv_aload_n hx hb d_Model_worth_32 rfl (lv_at hl 0 rfl) ?_
  refine lv_ldc (v := -1000000001) hx hb hown (hts _ tw_858) d_Model_worth_33 ?_
  obtain ⟨v1, X3, hr2, h⟩ := bd2_el h
  refine c_I hS (c_runV (As := [.int (-1000000001 : Int32)]) (rest := []) C hS (by decide) cel_Model (rfl : cls[6]? = some (R_Model, T_Model, 16)) (k_Model_finds (l := l) (E := E) (X := X) hr2) cw_Model_finds ini_Model_finds ins_Model_finds sel_Model_finds tw_859 hd_Model_finds rfl ⟨⟨rfl, rfl⟩, (Nat.le_of_ble_eq_true rfl), (Nat.le_of_ble_eq_true rfl)⟩ ⟨(Nat.le_of_ble_eq_true rfl), (Nat.le_of_ble_eq_true rfl)⟩ hl.1 rfl (Nat.le_of_ble_eq_true rfl) d_Model_worth_35) (fun H locs hS => ?_)
  exact r_iret C hS rfl h d_Model_worth_38
set_option maxHeartbeats 4000000 in
set_option maxRecDepth 100000 in
theorem k_Model_worth {l : Launch} {E : En} {p1 : Int32} {p2 : Int32} {p3 : Int32} {X : Mem} {r : Int32} {Y : Mem} (h : f_Model_worth p1 p2 p3 X = some (r, Y)) : Met l y_Model_worth (Cond.code y_Model_worth c_Model_worth 7 (some .int) :: tb) ({ frames := 6, cells := 0, slots := 0, locals := 141 } : Room) (PreC E [.ref (ad E 70), .int p1, .int p2, .int p3] X) (PostI E r Y) 0 0 (Ad E) := by
  refine met_of (by decide) (Nat.le_of_ble_eq_true rfl) (fun p e s m below meth c C hS ls hl => ?_)
  replace C : Cx p s m ([.ref (ad E 70), .int p1, .int p2, .int p3] : List Value).toArray meth c c_Model_worth 7 "TideLoansModel" (some .int) E := C
  replace hl : lv_has ls 7 [(0, .ref (ad E 70)), (1, .int p1), (2, .int p2), (3, .int p3)] := hl
  obtain ⟨hx, hb, hml, hown, hts, hrt, hlk, hKx⟩ := id C
  unfold f_Model_worth at h
  refine lv_aload_n hx hb d_Model_worth_0 rfl (lv_at hl 0 rfl) ?_
  refine lv_iload_n hx hb d_Model_worth_1 rfl (lv_at hl 1 rfl) ?_
  obtain ⟨v1, hr2, h⟩ := bd_el h
  refine c_I hS (c_runV (As := [.int p1]) (rest := []) C hS (by decide) cel_Model (rfl : cls[6]? = some (R_Model, T_Model, 16)) (k_Model_isThing (l := l) (E := E) (X := X) hr2) cw_Model_isThing ini_Model_isThing ins_Model_isThing sel_Model_isThing tw_921 hd_Model_isThing rfl ⟨⟨rfl, rfl⟩, (Nat.le_of_ble_eq_true rfl), (Nat.le_of_ble_eq_true rfl)⟩ ⟨(Nat.le_of_ble_eq_true rfl), (Nat.le_of_ble_eq_true rfl)⟩ hl.1 rfl (Nat.le_of_ble_eq_true rfl) d_Model_worth_2) (fun H locs hS => ?_)
  refine r_if_eq (tgt := 32) C h d_Model_worth_5 (by decide) (fun h => ?_) (fun h => ?_)
  · skip
    exact k_Model_worth_j32 C h hS (lv_sub hl [0] rfl)
  · skip
    refine lv_iload_n hx hb d_Model_worth_8 rfl (lv_at hl 2 rfl) ?_
    refine lv_i2l hx hb d_Model_worth_9 rfl ?_
    refine lv_lconst (v := 1) hx hb d_Model_worth_10 (by decide) ?_
    refine lv_ldc2 (v := 40) hx hb hown (hts _ tw_1058) d_Model_worth_11 ?_
    obtain ⟨v3, hr4, h⟩ := bd_el h
    refine c_I hS (c_runS (As := [.long (p2.toInt64), .long (1 : Int64), .long (40 : Int64)]) (rest := []) C hS (k_Model_isIn (l := l) (E := E) (X := X) hr4) cw_Model_isIn ini_Model_isIn sta_Model_isIn tw_851 hd_Model_isIn rfl ⟨⟨rfl, rfl⟩, (Nat.le_of_ble_eq_true rfl), (Nat.le_of_ble_eq_true rfl)⟩ ⟨(Nat.le_of_ble_eq_true rfl), (Nat.le_of_ble_eq_true rfl)⟩ hl.1 rfl (Nat.le_of_ble_eq_true rfl) d_Model_worth_14) (fun H locs hS => ?_)
    refine r_if_eq (tgt := 32) C h d_Model_worth_17 (by decide) (fun h => ?_) (fun h => ?_)
    · skip
      exact k_Model_worth_j32 C h hS (lv_sub hl [0] rfl)
    · skip
      refine lv_iload_n hx hb d_Model_worth_20 rfl (lv_at hl 3 rfl) ?_
      refine lv_i2l hx hb d_Model_worth_21 rfl ?_
      refine lv_lconst (v := 0) hx hb d_Model_worth_22 (by decide) ?_
      refine lv_ldc2 (v := 999999999) hx hb hown (hts _ tw_903) d_Model_worth_23 ?_
      obtain ⟨v5, hr6, h⟩ := bd_el h
      refine c_I hS (c_runS (As := [.long (p3.toInt64), .long (0 : Int64), .long (999999999 : Int64)]) (rest := []) C hS (k_Model_isIn (l := l) (E := E) (X := X) hr6) cw_Model_isIn ini_Model_isIn sta_Model_isIn tw_851 hd_Model_isIn rfl ⟨⟨rfl, rfl⟩, (Nat.le_of_ble_eq_true rfl), (Nat.le_of_ble_eq_true rfl)⟩ ⟨(Nat.le_of_ble_eq_true rfl), (Nat.le_of_ble_eq_true rfl)⟩ hl.1 rfl (Nat.le_of_ble_eq_true rfl) d_Model_worth_26) (fun H locs hS => ?_)
      refine r_if_ne (tgt := 39) C h d_Model_worth_29 (by decide) (fun h => ?_) (fun h => ?_)
      · skip
        refine lv_aload_n hx hb d_Model_worth_39 rfl (lv_at hl 0 rfl) ?_
        refine lv_iload_n hx hb d_Model_worth_40 rfl (lv_at hl 1 rfl) ?_
        refine lv_iconst (v := 3) hx hb d_Model_worth_41 (by decide) ?_
        obtain ⟨v7, hr8, h⟩ := bd_el h
        refine c_I hS (c_runV (As := [.int p1, .int (3 : Int32)]) (rest := []) C hS (by decide) cel_Model (rfl : cls[6]? = some (R_Model, T_Model, 16)) (k_Model_its (l := l) (E := E) (X := X) hr8) cw_Model_its ini_Model_its ins_Model_its sel_Model_its tw_875 hd_Model_its rfl ⟨⟨rfl, rfl⟩, (Nat.le_of_ble_eq_true rfl), (Nat.le_of_ble_eq_true rfl)⟩ ⟨(Nat.le_of_ble_eq_true rfl), (Nat.le_of_ble_eq_true rfl)⟩ hl.1 rfl (Nat.le_of_ble_eq_true rfl) d_Model_worth_42) (fun H locs hS => ?_)
        refine lv_istore (lv' := [(4, .int v7), (0, .ref (ad E 70)), (1, .int p1), (2, .int p2), (3, .int p3)]) hx hb d_Model_worth_45 hl (by decide) rfl (fun ls hl => ?_)
        refine lv_iconst (v := -1) hx hb d_Model_worth_47 (by decide) ?_
        refine lv_istore (lv' := [(5, .int (-1 : Int32)), (4, .int v7), (0, .ref (ad E 70)), (1, .int p1), (2, .int p2), (3, .int p3)]) hx hb d_Model_worth_48 hl (by decide) rfl (fun ls hl => ?_)
        refine lv_iconst (v := 0) hx hb d_Model_worth_50 (by decide) ?_
        refine lv_istore (lv' := [(6, .int (0 : Int32)), (5, .int (-1 : Int32)), (4, .int v7), (0, .ref (ad E 70)), (1, .int p1), (2, .int p2), (3, .int p3)]) hx hb d_Model_worth_51 hl (by decide) rfl (fun ls hl => ?_)
        exact k_Model_worth_b53 C _ _ _ _ FU _ _ _ _ _ _ h hS (lv_sub hl [3, 4, 5, 6, 2, 1, 0] rfl)
      · skip
        exact k_Model_worth_j32 C h hS (lv_sub hl [0] rfl)
def I_Model_richest_b39 (p : Program) (l : Launch) (e : Env) (s : State) (m : MethodId) (args : Array Value) (below : List Frame) (meth : Method) (c : Code) (E : En) (r : Int32) (Y : Mem) (X : Mem) (n : Nat) (tg : (Int32 × Mem)) : Prop := ∀ (x2 : Int32) (x3 : Int32) (H : Heap) (locs : List Loc) (ls : Array Slot), it (fun a => f_Model_richest_b39 X a.1 a.2) n (x2, x3) = some tg → Hs E s.heap X H locs → lv_has ls 4 [(0, .ref (ad E 70)), (2, .int x2), (3, .int x3)] → W p l e ({ frames := 5, cells := 0, slots := 0, locals := 118 } : Room) s m args below meth c H locs 0 0 (MQ below (PostI E r Y) args s 0 0 (Ad E)) (F0 m 39 ls [])
set_option maxHeartbeats 4000000 in
set_option maxRecDepth 100000 in
theorem k_Model_richest_j70 {p : Program} {l : Launch} {e : Env} {s : State} {m : MethodId} {args : Array Value} {below : List Frame} {meth : Method} {c : Code} {E : En} {r : Int32} {Y : Mem} (C : Cx p s m args meth c c_Model_richest 4 "TideLoansModel" (some .int) E) {x3 : Int32} {q0 : Int32} {X : Mem} {tg : ((Int32 × Mem) ⊕ (Int32 × Int32))} {n39 : Nat} (hc39 : fin (fun a => f_Model_richest_b39 X a.1 a.2) n39 (r, Y) tg) (ih39 : I_Model_richest_b39 p l e s m args below meth c E r Y X n39 (r, Y)) (h : f_Model_richest_j70 x3 q0 X = some tg) {H : Heap} {locs : List Loc} (hS : Hs E s.heap X H locs) {ls : Array Slot} (hl : lv_has ls 4 [(0, .ref (ad E 70)), (3, .int x3)]) : W p l e ({ frames := 5, cells := 0, slots := 0, locals := 118 } : Room) s m args below meth c H locs 0 0 (MQ below (PostI E r Y) args s 0 0 (Ad E)) (F0 m 70 ls [.int q0]) := by
  obtain ⟨hx, hb, hml, hown, hts, hrt, hlk, hKx⟩ := id C
  unfold f_Model_richest_j70 at h
  refine lv_istore_n (lv' := [(2, .int q0), (0, .ref (ad E 70)), (3, .int x3)]) hx hb d_Model_richest_70 rfl hl (by decide) rfl (fun ls hl => ?_)
  refine r_iinc C (w := 1) (lv' := fun z => [(3, .int z), (2, .int q0), (0, .ref (ad E 70))]) h d_Model_richest_71 hl (k := 2) rfl (by decide) (by decide) (fun _ => rfl) (fun v1 ls h hl => ?_)
  refine lv_goto (tgt := 39) hx hb d_Model_richest_74 (by decide) ?_
  exact ih39 _ _ _ _ _ (lp_next h hc39) hS (lv_sub hl [2, 1, 0] rfl)
set_option maxHeartbeats 4000000 in
set_option maxRecDepth 100000 in
theorem k_Model_richest_b39 {p : Program} {l : Launch} {e : Env} {s : State} {m : MethodId} {args : Array Value} {below : List Frame} {meth : Method} {c : Code} {E : En} {r : Int32} {Y : Mem} (C : Cx p s m args meth c c_Model_richest 4 "TideLoansModel" (some .int) E) {X : Mem} : ∀ n, I_Model_richest_b39 p l e s m args below meth c E r Y X n (r, Y) := by
  obtain ⟨hx, hb, hml, hown, hts, hrt, hlk, hKx⟩ := id C
  intro n
  induction n with
  | zero => intro x2 x3 H locs ls h; exact it_0 h
  | succ n ih =>
    intro x2 x3 H locs ls h hS hl
    obtain ⟨cc39, h, hc39⟩ := it_el h
    replace h : f_Model_richest_b39 X x2 x3 = some cc39 := h
    unfold f_Model_richest_b39 at h
    refine lv_iload_n hx hb d_Model_richest_39 rfl (lv_at hl 2 rfl) ?_
    refine lv_iconst (v := 4) hx hb d_Model_richest_40 (by decide) ?_
    refine r_icmp_ge (tgt := 77) C h d_Model_richest_41 (by decide) (fun h => ?_) (fun h => ?_)
    · skip
      refine lv_aload_n hx hb d_Model_richest_77 rfl (lv_at hl 0 rfl) ?_
      refine r_get C hS (by decide) cel_Model (rfl : cls[6]? = some (R_Model, T_Model, 16)) in_Model 3 (by decide) tw_797 rfl d_Model_richest_78 ?_
      refine lv_aload_n hx hb d_Model_richest_81 rfl (lv_at hl 0 rfl) ?_
      refine r_get C hS (by decide) cel_Model (rfl : cls[6]? = some (R_Model, T_Model, 16)) in_Model 0 (by decide) tw_794 rfl d_Model_richest_82 ?_
      obtain ⟨X2, hr1, h⟩ := bd_el h
      refine c_V hS (c_runS (As := [.ref (ad E 74), .ref (ad E 71)]) (rest := []) C hS (k_Model_copyRow (l := l) (E := E) (X := X) rfl rfl hr1) cw_Model_copyRow ini_Model_copyRow sta_Model_copyRow tw_1012 hd_Model_copyRow rfl ⟨⟨rfl, rfl⟩, (Nat.le_of_ble_eq_true rfl), (Nat.le_of_ble_eq_true rfl)⟩ ⟨(Nat.le_of_ble_eq_true rfl), (Nat.le_of_ble_eq_true rfl)⟩ hl.1 rfl (Nat.le_of_ble_eq_true rfl) d_Model_richest_85) (fun H locs hS => ?_)
      refine lv_iload_n hx hb d_Model_richest_88 rfl (lv_at hl 1 rfl) ?_
      replace h := lp_ret h hc39
      exact r_iret C hS rfl h d_Model_richest_89
    · skip
      refine lv_aload_n hx hb d_Model_richest_44 rfl (lv_at hl 0 rfl) ?_
      refine r_get C hS (by decide) cel_Model (rfl : cls[6]? = some (R_Model, T_Model, 16)) in_Model 0 (by decide) tw_794 rfl d_Model_richest_45 ?_
      refine lv_bipush (v := 19) hx hb d_Model_richest_48 (by decide) ?_
      refine lv_iload_n hx hb d_Model_richest_50 rfl (lv_at hl 2 rfl) ?_
      refine lv_iadd hx hb d_Model_richest_51 ?_
      refine r_ldI C hS (n := 83) rfl (by decide) h d_Model_richest_52 (fun v3 h => ?_)
      refine lv_aload_n hx hb d_Model_richest_53 rfl (lv_at hl 0 rfl) ?_
      refine r_get C hS (by decide) cel_Model (rfl : cls[6]? = some (R_Model, T_Model, 16)) in_Model 0 (by decide) tw_794 rfl d_Model_richest_54 ?_
      refine lv_bipush (v := 19) hx hb d_Model_richest_57 (by decide) ?_
      refine lv_iload_n hx hb d_Model_richest_59 rfl (lv_at hl 1 rfl) ?_
      refine lv_iadd hx hb d_Model_richest_60 ?_
      refine r_ldI C hS (n := 83) rfl (by decide) h d_Model_richest_61 (fun v4 h => ?_)
      refine r_icmp_le (tgt := 69) C h d_Model_richest_62 (by decide) (fun h => ?_) (fun h => ?_)
      · skip
        refine lv_iload_n hx hb d_Model_richest_69 rfl (lv_at hl 1 rfl) ?_
        exact k_Model_richest_j70 C hc39 ih h hS (lv_sub hl [0, 2] rfl)
      · skip
        refine lv_iload_n hx hb d_Model_richest_65 rfl (lv_at hl 2 rfl) ?_
        refine lv_goto (tgt := 70) hx hb d_Model_richest_66 (by decide) ?_
        exact k_Model_richest_j70 C hc39 ih h hS (lv_sub hl [0, 2] rfl)
set_option maxHeartbeats 4000000 in
set_option maxRecDepth 100000 in
theorem k_Model_richest {l : Launch} {E : En} {p1 : Int32} {X : Mem} {r : Int32} {Y : Mem} (h : f_Model_richest p1 X = some (r, Y)) : Met l y_Model_richest (Cond.code y_Model_richest c_Model_richest 4 (some .int) :: tb) ({ frames := 5, cells := 0, slots := 0, locals := 118 } : Room) (PreC E [.ref (ad E 70), .int p1] X) (PostI E r Y) 0 0 (Ad E) := by
  refine met_of (by decide) (Nat.le_of_ble_eq_true rfl) (fun p e s m below meth c C hS ls hl => ?_)
  replace C : Cx p s m ([.ref (ad E 70), .int p1] : List Value).toArray meth c c_Model_richest 4 "TideLoansModel" (some .int) E := C
  replace hl : lv_has ls 4 [(0, .ref (ad E 70)), (1, .int p1)] := hl
  obtain ⟨hx, hb, hml, hown, hts, hrt, hlk, hKx⟩ := id C
  unfold f_Model_richest at h
  refine lv_iload_n hx hb d_Model_richest_0 rfl (lv_at hl 1 rfl) ?_
  refine lv_i2l hx hb d_Model_richest_1 rfl ?_
  refine lv_lconst (v := 0) hx hb d_Model_richest_2 (by decide) ?_
  refine lv_ldc2 (v := 400) hx hb hown (hts _ tw_974) d_Model_richest_3 ?_
  obtain ⟨v1, hr2, h⟩ := bd_el h
  refine c_I hS (c_runS (As := [.long (p1.toInt64), .long (0 : Int64), .long (400 : Int64)]) (rest := []) C hS (k_Model_isIn (l := l) (E := E) (X := X) hr2) cw_Model_isIn ini_Model_isIn sta_Model_isIn tw_851 hd_Model_isIn rfl ⟨⟨rfl, rfl⟩, (Nat.le_of_ble_eq_true rfl), (Nat.le_of_ble_eq_true rfl)⟩ ⟨(Nat.le_of_ble_eq_true rfl), (Nat.le_of_ble_eq_true rfl)⟩ hl.1 rfl (Nat.le_of_ble_eq_true rfl) d_Model_richest_6) (fun H locs hS => ?_)
  refine r_if_ne (tgt := 19) C h d_Model_richest_9 (by decide) (fun h => ?_) (fun h => ?_)
  · skip
    refine lv_aload_n hx hb d_Model_richest_19 rfl (lv_at hl 0 rfl) ?_
    refine r_get C hS (by decide) cel_Model (rfl : cls[6]? = some (R_Model, T_Model, 16)) in_Model 0 (by decide) tw_794 rfl d_Model_richest_20 ?_
    refine lv_aload_n hx hb d_Model_richest_23 rfl (lv_at hl 0 rfl) ?_
    refine r_get C hS (by decide) cel_Model (rfl : cls[6]? = some (R_Model, T_Model, 16)) in_Model 3 (by decide) tw_797 rfl d_Model_richest_24 ?_
    obtain ⟨X4, hr3, h⟩ := bd_el h
    refine c_V hS (c_runS (As := [.ref (ad E 71), .ref (ad E 74)]) (rest := []) C hS (k_Model_copyRow (l := l) (E := E) (X := X) rfl rfl hr3) cw_Model_copyRow ini_Model_copyRow sta_Model_copyRow tw_1012 hd_Model_copyRow rfl ⟨⟨rfl, rfl⟩, (Nat.le_of_ble_eq_true rfl), (Nat.le_of_ble_eq_true rfl)⟩ ⟨(Nat.le_of_ble_eq_true rfl), (Nat.le_of_ble_eq_true rfl)⟩ hl.1 rfl (Nat.le_of_ble_eq_true rfl) d_Model_richest_27) (fun H locs hS => ?_)
    refine lv_aload_n hx hb d_Model_richest_30 rfl (lv_at hl 0 rfl) ?_
    refine lv_iload_n hx hb d_Model_richest_31 rfl (lv_at hl 1 rfl) ?_
    obtain ⟨X6, hr5, h⟩ := bd_el h
    refine c_V hS (c_runV (As := [.int p1]) (rest := []) C hS (by decide) cel_Model (rfl : cls[6]? = some (R_Model, T_Model, 16)) (k_Model_goes (l := l) (E := E) (X := X4) hr5) cw_Model_goes ini_Model_goes ins_Model_goes sel_Model_goes tw_976 hd_Model_goes rfl ⟨⟨rfl, rfl⟩, (Nat.le_of_ble_eq_true rfl), (Nat.le_of_ble_eq_true rfl)⟩ ⟨(Nat.le_of_ble_eq_true rfl), (Nat.le_of_ble_eq_true rfl)⟩ hl.1 rfl (Nat.le_of_ble_eq_true rfl) d_Model_richest_32) (fun H locs hS => ?_)
    refine lv_iconst (v := 0) hx hb d_Model_richest_35 (by decide) ?_
    refine lv_istore_n (lv' := [(2, .int (0 : Int32)), (0, .ref (ad E 70)), (1, .int p1)]) hx hb d_Model_richest_36 rfl hl (by decide) rfl (fun ls hl => ?_)
    refine lv_iconst (v := 1) hx hb d_Model_richest_37 (by decide) ?_
    refine lv_istore_n (lv' := [(3, .int (1 : Int32)), (2, .int (0 : Int32)), (0, .ref (ad E 70)), (1, .int p1)]) hx hb d_Model_richest_38 rfl hl (by decide) rfl (fun ls hl => ?_)
    exact k_Model_richest_b39 C FU _ _ _ _ _ h hS (lv_sub hl [2, 1, 0] rfl)
  · skip
    refine lv_aload_n hx hb d_Model_richest_12 rfl (lv_at hl 0 rfl) ?_
    refine lv_ldc (v := -1000000001) hx hb hown (hts _ tw_858) d_Model_richest_13 ?_
    obtain ⟨v7, X9, hr8, h⟩ := bd2_el h
    refine c_I hS (c_runV (As := [.int (-1000000001 : Int32)]) (rest := []) C hS (by decide) cel_Model (rfl : cls[6]? = some (R_Model, T_Model, 16)) (k_Model_finds (l := l) (E := E) (X := X) hr8) cw_Model_finds ini_Model_finds ins_Model_finds sel_Model_finds tw_859 hd_Model_finds rfl ⟨⟨rfl, rfl⟩, (Nat.le_of_ble_eq_true rfl), (Nat.le_of_ble_eq_true rfl)⟩ ⟨(Nat.le_of_ble_eq_true rfl), (Nat.le_of_ble_eq_true rfl)⟩ hl.1 rfl (Nat.le_of_ble_eq_true rfl) d_Model_richest_15) (fun H locs hS => ?_)
    exact r_iret C hS rfl h d_Model_richest_18
def I_Model_fewest_b100 (p : Program) (l : Launch) (e : Env) (s : State) (m : MethodId) (args : Array Value) (below : List Frame) (meth : Method) (c : Code) (E : En) (r : Int32) (Y : Mem) (x1 : Int32) (x2 : Int32) (x3 : Int32) (x4 : Int32) (x5 : Int32) (x6 : Int32) (n : Nat) (tg : ((Int32 × Mem) ⊕ (Int32 × Int32 × Mem))) : Prop := ∀ (x7 : Int32) (X : Mem) (H : Heap) (locs : List Loc) (ls : Array Slot), it (fun a => f_Model_fewest_b100 x1 x2 x3 x4 x5 x6 a.1 a.2) n (x7, X) = some tg → Hs E s.heap X H locs → lv_has ls 8 [(0, .ref (ad E 70)), (1, .int x1), (2, .int x2), (3, .int x3), (4, .int x4), (5, .int x5), (6, .int x6), (7, .int x7)] → W p l e ({ frames := 5, cells := 0, slots := 0, locals := 118 } : Room) s m args below meth c H locs 0 0 (MQ below (PostI E r Y) args s 0 0 (Ad E)) (F0 m 100 ls [])
def I_Model_fewest_b62 (p : Program) (l : Launch) (e : Env) (s : State) (m : MethodId) (args : Array Value) (below : List Frame) (meth : Method) (c : Code) (E : En) (r : Int32) (Y : Mem) (x1 : Int32) (x2 : Int32) (x3 : Int32) (x4 : Int32) (n : Nat) (tg : (Int32 × Mem)) : Prop := ∀ (x5 : Int32) (x6 : Int32) (X : Mem) (H : Heap) (locs : List Loc) (ls : Array Slot), it (fun a => f_Model_fewest_b62 x1 x2 x3 x4 a.1 a.2.1 a.2.2) n (x5, x6, X) = some tg → Hs E s.heap X H locs → lv_has ls 8 [(0, .ref (ad E 70)), (1, .int x1), (2, .int x2), (3, .int x3), (4, .int x4), (5, .int x5), (6, .int x6)] → W p l e ({ frames := 5, cells := 0, slots := 0, locals := 118 } : Room) s m args below meth c H locs 0 0 (MQ below (PostI E r Y) args s 0 0 (Ad E)) (F0 m 62 ls [])
set_option maxHeartbeats 4000000 in
set_option maxRecDepth 100000 in
theorem k_Model_fewest_j193 {p : Program} {l : Launch} {e : Env} {s : State} {m : MethodId} {args : Array Value} {below : List Frame} {meth : Method} {c : Code} {E : En} {r : Int32} {Y : Mem} (C : Cx p s m args meth c c_Model_fewest 8 "TideLoansModel" (some .int) E) {x1 : Int32} {x2 : Int32} {x3 : Int32} {x4 : Int32} {x5 : Int32} {x6 : Int32} {X : Mem} {tg : ((Int32 × Mem) ⊕ (Int32 × Int32 × Mem))} {n62 : Nat} (hc62 : fin (fun a => f_Model_fewest_b62 x1 x2 x3 x4 a.1 a.2.1 a.2.2) n62 (r, Y) tg) (ih62 : I_Model_fewest_b62 p l e s m args below meth c E r Y x1 x2 x3 x4 n62 (r, Y)) (h : f_Model_fewest_j193 x1 x2 x3 x4 x5 x6 X = some tg) {H : Heap} {locs : List Loc} (hS : Hs E s.heap X H locs) {ls : Array Slot} (hl : lv_has ls 8 [(0, .ref (ad E 70)), (1, .int x1), (2, .int x2), (3, .int x3), (4, .int x4), (5, .int x5), (6, .int x6)]) : W p l e ({ frames := 5, cells := 0, slots := 0, locals := 118 } : Room) s m args below meth c H locs 0 0 (MQ below (PostI E r Y) args s 0 0 (Ad E)) (F0 m 193 ls []) := by
  obtain ⟨hx, hb, hml, hown, hts, hrt, hlk, hKx⟩ := id C
  unfold f_Model_fewest_j193 at h
  refine r_iinc C (w := 1) (lv' := fun z => [(6, .int z), (0, .ref (ad E 70)), (1, .int x1), (2, .int x2), (3, .int x3), (4, .int x4), (5, .int x5)]) h d_Model_fewest_193 hl (k := 6) rfl (by decide) (by decide) (fun _ => rfl) (fun v1 ls h hl => ?_)
  refine lv_goto (tgt := 62) hx hb d_Model_fewest_196 (by decide) ?_
  exact ih62 _ _ _ _ _ _ (lp_next h hc62) hS (lv_sub hl [1, 2, 3, 4, 5, 6, 0] rfl)
set_option maxHeartbeats 4000000 in
set_option maxRecDepth 100000 in
theorem k_Model_fewest_j180 {p : Program} {l : Launch} {e : Env} {s : State} {m : MethodId} {args : Array Value} {below : List Frame} {meth : Method} {c : Code} {E : En} {r : Int32} {Y : Mem} (C : Cx p s m args meth c c_Model_fewest 8 "TideLoansModel" (some .int) E) {x1 : Int32} {x2 : Int32} {x3 : Int32} {x4 : Int32} {x6 : Int32} {q0 : Int32} {X : Mem} {tg : ((Int32 × Mem) ⊕ (Int32 × Int32 × Mem))} {n62 : Nat} (hc62 : fin (fun a => f_Model_fewest_b62 x1 x2 x3 x4 a.1 a.2.1 a.2.2) n62 (r, Y) tg) (ih62 : I_Model_fewest_b62 p l e s m args below meth c E r Y x1 x2 x3 x4 n62 (r, Y)) (h : f_Model_fewest_j180 x1 x2 x3 x4 x6 q0 X = some tg) {H : Heap} {locs : List Loc} (hS : Hs E s.heap X H locs) {ls : Array Slot} (hl : lv_has ls 8 [(0, .ref (ad E 70)), (1, .int x1), (2, .int x2), (3, .int x3), (4, .int x4), (6, .int x6)]) : W p l e ({ frames := 5, cells := 0, slots := 0, locals := 118 } : Room) s m args below meth c H locs 0 0 (MQ below (PostI E r Y) args s 0 0 (Ad E)) (F0 m 180 ls [.int q0]) := by
  obtain ⟨hx, hb, hml, hown, hts, hrt, hlk, hKx⟩ := id C
  unfold f_Model_fewest_j180 at h
  refine lv_istore (lv' := [(5, .int q0), (0, .ref (ad E 70)), (1, .int x1), (2, .int x2), (3, .int x3), (4, .int x4), (6, .int x6)]) hx hb d_Model_fewest_180 hl (by decide) rfl (fun ls hl => ?_)
  refine lv_aload_n hx hb d_Model_fewest_182 rfl (lv_at hl 1 rfl) ?_
  refine r_get C hS (by decide) cel_Model (rfl : cls[6]? = some (R_Model, T_Model, 16)) in_Model 3 (by decide) tw_797 rfl d_Model_fewest_183 ?_
  refine lv_aload_n hx hb d_Model_fewest_186 rfl (lv_at hl 1 rfl) ?_
  refine r_get C hS (by decide) cel_Model (rfl : cls[6]? = some (R_Model, T_Model, 16)) in_Model 0 (by decide) tw_794 rfl d_Model_fewest_187 ?_
  obtain ⟨X2, hr1, h⟩ := bd_el h
  refine c_V hS (c_runS (As := [.ref (ad E 74), .ref (ad E 71)]) (rest := []) C hS (k_Model_copyRow (l := l) (E := E) (X := X) rfl rfl hr1) cw_Model_copyRow ini_Model_copyRow sta_Model_copyRow tw_1012 hd_Model_copyRow rfl ⟨⟨rfl, rfl⟩, (Nat.le_of_ble_eq_true rfl), (Nat.le_of_ble_eq_true rfl)⟩ ⟨(Nat.le_of_ble_eq_true rfl), (Nat.le_of_ble_eq_true rfl)⟩ hl.1 rfl (Nat.le_of_ble_eq_true rfl) d_Model_fewest_190) (fun H locs hS => ?_)
  exact k_Model_fewest_j193 C hc62 ih62 h hS (lv_sub hl [1, 2, 3, 4, 5, 0, 6] rfl)
set_option maxHeartbeats 4000000 in
set_option maxRecDepth 100000 in
theorem k_Model_fewest_j148 {p : Program} {l : Launch} {e : Env} {s : State} {m : MethodId} {args : Array Value} {below : List Frame} {meth : Method} {c : Code} {E : En} {r : Int32} {Y : Mem} (C : Cx p s m args meth c c_Model_fewest 8 "TideLoansModel" (some .int) E) {x1 : Int32} {x2 : Int32} {x3 : Int32} {x4 : Int32} {x5 : Int32} {x6 : Int32} {x7 : Int32} {q0 : Nat} {q1 : Int32} {q2 : Int32} {X : Mem} {tg : (((Int32 × Mem) ⊕ (Int32 × Int32 × Mem)) ⊕ (Int32 × Mem))} (hq0 : kd q0 = 1000 + 83) {t62 : ((Int32 × Mem) ⊕ (Int32 × Int32 × Mem))} {n100 : Nat} (hc100 : fin (fun a => f_Model_fewest_b100 x1 x2 x3 x4 x5 x6 a.1 a.2) n100 t62 tg) (ih100 : I_Model_fewest_b100 p l e s m args below meth c E r Y x1 x2 x3 x4 x5 x6 n100 t62) {n62 : Nat} (hc62 : fin (fun a => f_Model_fewest_b62 x1 x2 x3 x4 a.1 a.2.1 a.2.2) n62 (r, Y) t62) (ih62 : I_Model_fewest_b62 p l e s m args below meth c E r Y x1 x2 x3 x4 n62 (r, Y)) (h : f_Model_fewest_j148 x1 x2 x3 x4 x5 x6 x7 q0 q1 q2 X = some tg) {H : Heap} {locs : List Loc} (hS : Hs E s.heap X H locs) {ls : Array Slot} (hl : lv_has ls 8 [(0, .ref (ad E 70)), (1, .int x1), (2, .int x2), (3, .int x3), (4, .int x4), (5, .int x5), (6, .int x6), (7, .int x7)]) : W p l e ({ frames := 5, cells := 0, slots := 0, locals := 118 } : Room) s m args below meth c H locs 0 0 (MQ below (PostI E r Y) args s 0 0 (Ad E)) (F0 m 148 ls [.int q2, .int q1, .ref (ad E q0)]) := by
  obtain ⟨hx, hb, hml, hown, hts, hrt, hlk, hKx⟩ := id C
  unfold f_Model_fewest_j148 at h
  refine r_stI C hS (n := 83) hq0 (by decide) h d_Model_fewest_148 (fun X1 H locs hS h => ?_)
  refine r_iinc C (w := 1) (lv' := fun z => [(7, .int z), (0, .ref (ad E 70)), (1, .int x1), (2, .int x2), (3, .int x3), (4, .int x4), (5, .int x5), (6, .int x6)]) h d_Model_fewest_149 hl (k := 7) rfl (by decide) (by decide) (fun _ => rfl) (fun v2 ls h hl => ?_)
  refine lv_goto (tgt := 100) hx hb d_Model_fewest_152 (by decide) ?_
  exact ih100 _ _ _ _ _ (lp_next h hc100) hS (lv_sub hl [1, 2, 3, 4, 5, 6, 7, 0] rfl)
set_option maxHeartbeats 4000000 in
set_option maxRecDepth 100000 in
theorem k_Model_fewest_b100 {p : Program} {l : Launch} {e : Env} {s : State} {m : MethodId} {args : Array Value} {below : List Frame} {meth : Method} {c : Code} {E : En} {r : Int32} {Y : Mem} (C : Cx p s m args meth c c_Model_fewest 8 "TideLoansModel" (some .int) E) (x1 : Int32) (x2 : Int32) (x3 : Int32) (x4 : Int32) (x5 : Int32) (x6 : Int32) {tg : ((Int32 × Mem) ⊕ (Int32 × Int32 × Mem))} {n62 : Nat} (hc62 : fin (fun a => f_Model_fewest_b62 x1 x2 x3 x4 a.1 a.2.1 a.2.2) n62 (r, Y) tg) (ih62 : I_Model_fewest_b62 p l e s m args below meth c E r Y x1 x2 x3 x4 n62 (r, Y)) : ∀ n, I_Model_fewest_b100 p l e s m args below meth c E r Y x1 x2 x3 x4 x5 x6 n tg := by
  obtain ⟨hx, hb, hml, hown, hts, hrt, hlk, hKx⟩ := id C
  intro n
  induction n with
  | zero => intro x7 X H locs ls h; exact it_0 h
  | succ n ih =>
    intro x7 X H locs ls h hS hl
    obtain ⟨cc100, h, hc100⟩ := it_el h
    replace h : f_Model_fewest_b100 x1 x2 x3 x4 x5 x6 x7 X = some cc100 := h
    unfold f_Model_fewest_b100 at h
    refine lv_iload hx hb d_Model_fewest_100 (lv_at hl 7 rfl) ?_
    refine lv_aload_n hx hb d_Model_fewest_102 rfl (lv_at hl 0 rfl) ?_
    refine r_get C hS (by decide) cel_Model (rfl : cls[6]? = some (R_Model, T_Model, 16)) in_Model 0 (by decide) tw_794 rfl d_Model_fewest_103 ?_
    refine lv_iconst (v := 0) hx hb d_Model_fewest_106 (by decide) ?_
    refine r_ldI C hS (n := 83) rfl (by decide) h d_Model_fewest_107 (fun v1 h => ?_)
    refine r_icmp_ge (tgt := 155) C h d_Model_fewest_108 (by decide) (fun h => ?_) (fun h => ?_)
    · skip
      refine lv_aload_n hx hb d_Model_fewest_155 rfl (lv_at hl 0 rfl) ?_
      refine lv_iload_n hx hb d_Model_fewest_156 rfl (lv_at hl 2 rfl) ?_
      obtain ⟨X3, hr2, h⟩ := bd_el h
      refine c_V hS (c_runV (As := [.int x2]) (rest := []) C hS (by decide) cel_Model (rfl : cls[6]? = some (R_Model, T_Model, 16)) (k_Model_goes (l := l) (E := E) (X := X) hr2) cw_Model_goes ini_Model_goes ins_Model_goes sel_Model_goes tw_976 hd_Model_goes rfl ⟨⟨rfl, rfl⟩, (Nat.le_of_ble_eq_true rfl), (Nat.le_of_ble_eq_true rfl)⟩ ⟨(Nat.le_of_ble_eq_true rfl), (Nat.le_of_ble_eq_true rfl)⟩ hl.1 rfl (Nat.le_of_ble_eq_true rfl) d_Model_fewest_157) (fun H locs hS => ?_)
      refine lv_aload_n hx hb d_Model_fewest_160 rfl (lv_at hl 0 rfl) ?_
      refine r_get C hS (by decide) cel_Model (rfl : cls[6]? = some (R_Model, T_Model, 16)) in_Model 0 (by decide) tw_794 rfl d_Model_fewest_161 ?_
      refine lv_bipush (v := 19) hx hb d_Model_fewest_164 (by decide) ?_
      refine lv_iload_n hx hb d_Model_fewest_166 rfl (lv_at hl 1 rfl) ?_
      refine lv_iadd hx hb d_Model_fewest_167 ?_
      refine r_ldI C hS (n := 83) rfl (by decide) h d_Model_fewest_168 (fun v4 h => ?_)
      refine lv_iload_n hx hb d_Model_fewest_169 rfl (lv_at hl 3 rfl) ?_
      refine r_icmp_lt (tgt := 178) C h d_Model_fewest_170 (by decide) (fun h => ?_) (fun h => ?_)
      · skip
        refine lv_iload hx hb d_Model_fewest_178 (lv_at hl 5 rfl) ?_
        replace h := lp_up h hc100
        exact k_Model_fewest_j180 C hc62 ih62 h hS (lv_sub hl [0, 1, 2, 3, 4, 6] rfl)
      · skip
        refine lv_iload hx hb d_Model_fewest_173 (lv_at hl 6 rfl) ?_
        refine lv_goto (tgt := 180) hx hb d_Model_fewest_175 (by decide) ?_
        replace h := lp_up h hc100
        exact k_Model_fewest_j180 C hc62 ih62 h hS (lv_sub hl [0, 1, 2, 3, 4, 6] rfl)
    · skip
      refine lv_aload_n hx hb d_Model_fewest_111 rfl (lv_at hl 0 rfl) ?_
      refine r_get C hS (by decide) cel_Model (rfl : cls[6]? = some (R_Model, T_Model, 16)) in_Model 0 (by decide) tw_794 rfl d_Model_fewest_112 ?_
      refine lv_iload hx hb d_Model_fewest_115 (lv_at hl 7 rfl) ?_
      refine lv_iconst (v := 4) hx hb d_Model_fewest_117 (by decide) ?_
      obtain ⟨v5, hr6, h⟩ := bd_el h
      refine c_I hS (c_runS (As := [.int x7, .int (4 : Int32)]) (rest := [.ref (ad E 71)]) C hS (k_Model_at (l := l) (E := E) (X := X) hr6) cw_Model_at ini_Model_at sta_Model_at tw_914 hd_Model_at rfl ⟨⟨rfl, rfl⟩, (Nat.le_of_ble_eq_true rfl), (Nat.le_of_ble_eq_true rfl)⟩ ⟨(Nat.le_of_ble_eq_true rfl), (Nat.le_of_ble_eq_true rfl)⟩ hl.1 rfl (Nat.le_of_ble_eq_true rfl) d_Model_fewest_118) (fun H locs hS => ?_)
      refine lv_iload hx hb d_Model_fewest_121 (lv_at hl 4 rfl) ?_
      refine lv_iload hx hb d_Model_fewest_123 (lv_at hl 6 rfl) ?_
      refine lv_iconst (v := -1) hx hb d_Model_fewest_125 (by decide) ?_
      refine lv_ixor hx hb d_Model_fewest_126 ?_
      refine lv_iand hx hb d_Model_fewest_127 ?_
      refine lv_iload hx hb d_Model_fewest_128 (lv_at hl 7 rfl) ?_
      refine lv_ishr hx hb d_Model_fewest_130 ?_
      refine lv_iconst (v := 1) hx hb d_Model_fewest_131 (by decide) ?_
      refine lv_iand hx hb d_Model_fewest_132 ?_
      refine lv_iconst (v := 1) hx hb d_Model_fewest_133 (by decide) ?_
      refine r_icmp_ne (tgt := 141) C h d_Model_fewest_134 (by decide) (fun h => ?_) (fun h => ?_)
      · skip
        refine lv_aload_n hx hb d_Model_fewest_141 rfl (lv_at hl 0 rfl) ?_
        refine lv_iload hx hb d_Model_fewest_142 (lv_at hl 7 rfl) ?_
        refine lv_iconst (v := 4) hx hb d_Model_fewest_144 (by decide) ?_
        obtain ⟨v7, hr8, h⟩ := bd_el h
        refine c_I hS (c_runV (As := [.int x7, .int (4 : Int32)]) (rest := [.int v5, .ref (ad E 71)]) C hS (by decide) cel_Model (rfl : cls[6]? = some (R_Model, T_Model, 16)) (k_Model_its (l := l) (E := E) (X := X) hr8) cw_Model_its ini_Model_its ins_Model_its sel_Model_its tw_875 hd_Model_its rfl ⟨⟨rfl, rfl⟩, (Nat.le_of_ble_eq_true rfl), (Nat.le_of_ble_eq_true rfl)⟩ ⟨(Nat.le_of_ble_eq_true rfl), (Nat.le_of_ble_eq_true rfl)⟩ hl.1 rfl (Nat.le_of_ble_eq_true rfl) d_Model_fewest_145) (fun H locs hS => ?_)
        exact k_Model_fewest_j148 C rfl hc100 ih hc62 ih62 h hS (lv_sub hl [0, 1, 2, 3, 4, 5, 6, 7] rfl)
      · skip
        refine lv_iconst (v := 0) hx hb d_Model_fewest_137 (by decide) ?_
        refine lv_goto (tgt := 148) hx hb d_Model_fewest_138 (by decide) ?_
        exact k_Model_fewest_j148 C rfl hc100 ih hc62 ih62 h hS (lv_sub hl [0, 1, 2, 3, 4, 5, 6, 7] rfl)
set_option maxHeartbeats 4000000 in
set_option maxRecDepth 100000 in
theorem k_Model_fewest_j97 {p : Program} {l : Launch} {e : Env} {s : State} {m : MethodId} {args : Array Value} {below : List Frame} {meth : Method} {c : Code} {E : En} {r : Int32} {Y : Mem} (C : Cx p s m args meth c c_Model_fewest 8 "TideLoansModel" (some .int) E) {x1 : Int32} {x2 : Int32} {x3 : Int32} {x4 : Int32} {x5 : Int32} {x6 : Int32} {X : Mem} {tg : ((Int32 × Mem) ⊕ (Int32 × Int32 × Mem))} {n62 : Nat} (hc62 : fin (fun a => f_Model_fewest_b62 x1 x2 x3 x4 a.1 a.2.1 a.2.2) n62 (r, Y) tg) (ih62 : I_Model_fewest_b62 p l e s m args below meth c E r Y x1 x2 x3 x4 n62 (r, Y)) (h : f_Model_fewest_j97 x1 x2 x3 x4 x5 x6 X = some tg) {H : Heap} {locs : List Loc} (hS : Hs E s.heap X H locs) {ls : Array Slot} (hl : lv_has ls 8 [(0, .ref (ad E 70)), (1, .int x1), (2, .int x2), (3, .int x3), (4, .int x4), (5, .int x5), (6, .int x6)]) : W p l e ({ frames := 5, cells := 0, slots := 0, locals := 118 } : Room) s m args below meth c H locs 0 0 (MQ below (PostI E r Y) args s 0 0 (Ad E)) (F0 m 97 ls []) := by
  obtain ⟨hx, hb, hml, hown, hts, hrt, hlk, hKx⟩ := id C
  unfold f_Model_fewest_j97 at h
  refine lv_iconst (v := 0) hx hb d_Model_fewest_97 (by decide) ?_
  refine lv_istore (lv' := [(7, .int (0 : Int32)), (0, .ref (ad E 70)), (1, .int x1), (2, .int x2), (3, .int x3), (4, .int x4), (5, .int x5), (6, .int x6)]) hx hb d_Model_fewest_98 hl (by decide) rfl (fun ls hl => ?_)
  exact k_Model_fewest_b100 C _ _ _ _ _ _ hc62 ih62 FU _ _ _ _ _ h hS (lv_sub hl [1, 2, 3, 4, 5, 6, 7, 0] rfl)
set_option maxHeartbeats 4000000 in
set_option maxRecDepth 100000 in
theorem k_Model_fewest_b62 {p : Program} {l : Launch} {e : Env} {s : State} {m : MethodId} {args : Array Value} {below : List Frame} {meth : Method} {c : Code} {E : En} {r : Int32} {Y : Mem} (C : Cx p s m args meth c c_Model_fewest 8 "TideLoansModel" (some .int) E) (x1 : Int32) (x2 : Int32) (x3 : Int32) (x4 : Int32) : ∀ n, I_Model_fewest_b62 p l e s m args below meth c E r Y x1 x2 x3 x4 n (r, Y) := by
  obtain ⟨hx, hb, hml, hown, hts, hrt, hlk, hKx⟩ := id C
  intro n
  induction n with
  | zero => intro x5 x6 X H locs ls h; exact it_0 h
  | succ n ih =>
    intro x5 x6 X H locs ls h hS hl
    obtain ⟨cc62, h, hc62⟩ := it_el h
    replace h : f_Model_fewest_b62 x1 x2 x3 x4 x5 x6 X = some cc62 := h
    unfold f_Model_fewest_b62 at h
    refine lv_iload hx hb d_Model_fewest_62 (lv_at hl 6 rfl) ?_
    refine lv_iload hx hb d_Model_fewest_64 (lv_at hl 4 rfl) ?_
    refine r_icmp_gt (tgt := 199) C h d_Model_fewest_66 (by decide) (fun h => ?_) (fun h => ?_)
    · skip
      refine lv_aload_n hx hb d_Model_fewest_199 rfl (lv_at hl 0 rfl) ?_
      refine lv_iload hx hb d_Model_fewest_200 (lv_at hl 5 rfl) ?_
      obtain ⟨v1, X3, hr2, h⟩ := bd2_el h
      refine c_I hS (c_runV (As := [.int x5]) (rest := []) C hS (by decide) cel_Model (rfl : cls[6]? = some (R_Model, T_Model, 16)) (k_Model_orNone (l := l) (E := E) (X := X) hr2) cw_Model_orNone ini_Model_orNone ins_Model_orNone sel_Model_orNone tw_1023 hd_Model_orNone rfl ⟨⟨rfl, rfl⟩, (Nat.le_of_ble_eq_true rfl), (Nat.le_of_ble_eq_true rfl)⟩ ⟨(Nat.le_of_ble_eq_true rfl), (Nat.le_of_ble_eq_true rfl)⟩ hl.1 rfl (Nat.le_of_ble_eq_true rfl) d_Model_fewest_202) (fun H locs hS => ?_)
      replace h := lp_ret h hc62
      exact r_iret C hS rfl h d_Model_fewest_205
    · skip
      refine lv_iload hx hb d_Model_fewest_69 (lv_at hl 6 rfl) ?_
      refine lv_iload hx hb d_Model_fewest_71 (lv_at hl 4 rfl) ?_
      refine lv_iconst (v := -1) hx hb d_Model_fewest_73 (by decide) ?_
      refine lv_ixor hx hb d_Model_fewest_74 ?_
      refine lv_iand hx hb d_Model_fewest_75 ?_
      refine r_if_ne (tgt := 193) C h d_Model_fewest_76 (by decide) (fun h => ?_) (fun h => ?_)
      · skip
        exact k_Model_fewest_j193 C hc62 ih h hS (lv_sub hl [0, 1, 2, 3, 4, 5, 6] rfl)
      · skip
        refine lv_iload hx hb d_Model_fewest_79 (lv_at hl 5 rfl) ?_
        refine r_if_lt (tgt := 97) C h d_Model_fewest_81 (by decide) (fun h => ?_) (fun h => ?_)
        · skip
          exact k_Model_fewest_j97 C hc62 ih h hS (lv_sub hl [0, 1, 2, 3, 4, 5, 6] rfl)
        · skip
          refine lv_iload hx hb d_Model_fewest_84 (lv_at hl 6 rfl) ?_
          obtain ⟨v4, hr5, h⟩ := bd_el h
          refine c_I hS (c_runS (As := [.int x6]) (rest := []) C hS (k_Model_many (l := l) (E := E) (X := X) hr5) cw_Model_many ini_Model_many sta_Model_many tw_963 hd_Model_many rfl ⟨⟨rfl, rfl⟩, (Nat.le_of_ble_eq_true rfl), (Nat.le_of_ble_eq_true rfl)⟩ ⟨(Nat.le_of_ble_eq_true rfl), (Nat.le_of_ble_eq_true rfl)⟩ hl.1 rfl (Nat.le_of_ble_eq_true rfl) d_Model_fewest_86) (fun H locs hS => ?_)
          refine lv_iload hx hb d_Model_fewest_89 (lv_at hl 5 rfl) ?_
          obtain ⟨v6, hr7, h⟩ := bd_el h
          refine c_I hS (c_runS (As := [.int x5]) (rest := [.int v4]) C hS (k_Model_many (l := l) (E := E) (X := X) hr7) cw_Model_many ini_Model_many sta_Model_many tw_963 hd_Model_many rfl ⟨⟨rfl, rfl⟩, (Nat.le_of_ble_eq_true rfl), (Nat.le_of_ble_eq_true rfl)⟩ ⟨(Nat.le_of_ble_eq_true rfl), (Nat.le_of_ble_eq_true rfl)⟩ hl.1 rfl (Nat.le_of_ble_eq_true rfl) d_Model_fewest_91) (fun H locs hS => ?_)
          refine r_icmp_ge (tgt := 193) C h d_Model_fewest_94 (by decide) (fun h => ?_) (fun h => ?_)
          · skip
            exact k_Model_fewest_j193 C hc62 ih h hS (lv_sub hl [0, 1, 2, 3, 4, 5, 6] rfl)
          · skip
            exact k_Model_fewest_j97 C hc62 ih h hS (lv_sub hl [0, 1, 2, 3, 4, 5, 6] rfl)
set_option maxHeartbeats 4000000 in
set_option maxRecDepth 100000 in
theorem k_Model_fewest_j31 {p : Program} {l : Launch} {e : Env} {s : State} {m : MethodId} {args : Array Value} {below : List Frame} {meth : Method} {c : Code} {E : En} {r : Int32} {Y : Mem} (C : Cx p s m args meth c c_Model_fewest 8 "TideLoansModel" (some .int) E) {X : Mem} (h : f_Model_fewest_j31 X = some (r, Y)) {H : Heap} {locs : List Loc} (hS : Hs E s.heap X H locs) {ls : Array Slot} (hl : lv_has ls 8 [(0, .ref (ad E 70))]) : W p l e ({ frames := 5, cells := 0, slots := 0, locals := 118 } : Room) s m args below meth c H locs 0 0 (MQ below (PostI E r Y) args s 0 0 (Ad E)) (F0 m 31 ls []) := by
  obtain ⟨hx, hb, hml, hown, hts, hrt, hlk, hKx⟩ := id C
  unfold f_Model_fewest_j31 at h
  refine lv_aload_n hx hb d_Model_fewest_31 rfl (lv_at hl 0 rfl) ?_
  refine lv_ldc (v := -1000000001) hx hb hown (hts _ tw_858) d_Model_fewest_32 ?_
  obtain ⟨v1, X3, hr2, h⟩ := bd2_el h
  refine c_I hS (c_runV (As := [.int (-1000000001 : Int32)]) (rest := []) C hS (by decide) cel_Model (rfl : cls[6]? = some (R_Model, T_Model, 16)) (k_Model_finds (l := l) (E := E) (X := X) hr2) cw_Model_finds ini_Model_finds ins_Model_finds sel_Model_finds tw_859 hd_Model_finds rfl ⟨⟨rfl, rfl⟩, (Nat.le_of_ble_eq_true rfl), (Nat.le_of_ble_eq_true rfl)⟩ ⟨(Nat.le_of_ble_eq_true rfl), (Nat.le_of_ble_eq_true rfl)⟩ hl.1 rfl (Nat.le_of_ble_eq_true rfl) d_Model_fewest_34) (fun H locs hS => ?_)
  exact r_iret C hS rfl h d_Model_fewest_37
set_option maxHeartbeats 4000000 in
set_option maxRecDepth 100000 in
theorem k_Model_fewest {l : Launch} {E : En} {p1 : Int32} {p2 : Int32} {p3 : Int32} {X : Mem} {r : Int32} {Y : Mem} (h : f_Model_fewest p1 p2 p3 X = some (r, Y)) : Met l y_Model_fewest (Cond.code y_Model_fewest c_Model_fewest 8 (some .int) :: tb) ({ frames := 5, cells := 0, slots := 0, locals := 118 } : Room) (PreC E [.ref (ad E 70), .int p1, .int p2, .int p3] X) (PostI E r Y) 0 0 (Ad E) := by
  refine met_of (by decide) (Nat.le_of_ble_eq_true rfl) (fun p e s m below meth c C hS ls hl => ?_)
  replace C : Cx p s m ([.ref (ad E 70), .int p1, .int p2, .int p3] : List Value).toArray meth c c_Model_fewest 8 "TideLoansModel" (some .int) E := C
  replace hl : lv_has ls 8 [(0, .ref (ad E 70)), (1, .int p1), (2, .int p2), (3, .int p3)] := hl
  obtain ⟨hx, hb, hml, hown, hts, hrt, hlk, hKx⟩ := id C
  unfold f_Model_fewest at h
  refine lv_iload_n hx hb d_Model_fewest_0 rfl (lv_at hl 1 rfl) ?_
  obtain ⟨v1, hr2, h⟩ := bd_el h
  refine c_I hS (c_runS (As := [.int p1]) (rest := []) C hS (k_Model_isFamily (l := l) (E := E) (X := X) hr2) cw_Model_isFamily ini_Model_isFamily sta_Model_isFamily tw_900 hd_Model_isFamily rfl ⟨⟨rfl, rfl⟩, (Nat.le_of_ble_eq_true rfl), (Nat.le_of_ble_eq_true rfl)⟩ ⟨(Nat.le_of_ble_eq_true rfl), (Nat.le_of_ble_eq_true rfl)⟩ hl.1 rfl (Nat.le_of_ble_eq_true rfl) d_Model_fewest_1) (fun H locs hS => ?_)
  refine r_if_eq (tgt := 31) C h d_Model_fewest_4 (by decide) (fun h => ?_) (fun h => ?_)
  · skip
    exact k_Model_fewest_j31 C h hS (lv_sub hl [0] rfl)
  · skip
    refine lv_iload_n hx hb d_Model_fewest_7 rfl (lv_at hl 2 rfl) ?_
    refine lv_i2l hx hb d_Model_fewest_8 rfl ?_
    refine lv_lconst (v := 1) hx hb d_Model_fewest_9 (by decide) ?_
    refine lv_ldc2 (v := 40) hx hb hown (hts _ tw_1058) d_Model_fewest_10 ?_
    obtain ⟨v3, hr4, h⟩ := bd_el h
    refine c_I hS (c_runS (As := [.long (p2.toInt64), .long (1 : Int64), .long (40 : Int64)]) (rest := []) C hS (k_Model_isIn (l := l) (E := E) (X := X) hr4) cw_Model_isIn ini_Model_isIn sta_Model_isIn tw_851 hd_Model_isIn rfl ⟨⟨rfl, rfl⟩, (Nat.le_of_ble_eq_true rfl), (Nat.le_of_ble_eq_true rfl)⟩ ⟨(Nat.le_of_ble_eq_true rfl), (Nat.le_of_ble_eq_true rfl)⟩ hl.1 rfl (Nat.le_of_ble_eq_true rfl) d_Model_fewest_13) (fun H locs hS => ?_)
    refine r_if_eq (tgt := 31) C h d_Model_fewest_16 (by decide) (fun h => ?_) (fun h => ?_)
    · skip
      exact k_Model_fewest_j31 C h hS (lv_sub hl [0] rfl)
    · skip
      refine lv_iload_n hx hb d_Model_fewest_19 rfl (lv_at hl 3 rfl) ?_
      refine lv_i2l hx hb d_Model_fewest_20 rfl ?_
      refine lv_lconst (v := 0) hx hb d_Model_fewest_21 (by decide) ?_
      refine lv_ldc2 (v := 999999999) hx hb hown (hts _ tw_903) d_Model_fewest_22 ?_
      obtain ⟨v5, hr6, h⟩ := bd_el h
      refine c_I hS (c_runS (As := [.long (p3.toInt64), .long (0 : Int64), .long (999999999 : Int64)]) (rest := []) C hS (k_Model_isIn (l := l) (E := E) (X := X) hr6) cw_Model_isIn ini_Model_isIn sta_Model_isIn tw_851 hd_Model_isIn rfl ⟨⟨rfl, rfl⟩, (Nat.le_of_ble_eq_true rfl), (Nat.le_of_ble_eq_true rfl)⟩ ⟨(Nat.le_of_ble_eq_true rfl), (Nat.le_of_ble_eq_true rfl)⟩ hl.1 rfl (Nat.le_of_ble_eq_true rfl) d_Model_fewest_25) (fun H locs hS => ?_)
      refine r_if_ne (tgt := 38) C h d_Model_fewest_28 (by decide) (fun h => ?_) (fun h => ?_)
      · skip
        refine lv_aload_n hx hb d_Model_fewest_38 rfl (lv_at hl 0 rfl) ?_
        refine lv_iconst (v := 1) hx hb d_Model_fewest_39 (by decide) ?_
        obtain ⟨v7, hr8, h⟩ := bd_el h
        refine c_I hS (c_runV (As := [.int (1 : Int32)]) (rest := []) C hS (by decide) cel_Model (rfl : cls[6]? = some (R_Model, T_Model, 16)) (k_Model_thoseThatAre (l := l) (E := E) (X := X) hr8) cw_Model_thoseThatAre ini_Model_thoseThatAre ins_Model_thoseThatAre sel_Model_thoseThatAre tw_1000 hd_Model_thoseThatAre rfl ⟨⟨rfl, rfl⟩, (Nat.le_of_ble_eq_true rfl), (Nat.le_of_ble_eq_true rfl)⟩ ⟨(Nat.le_of_ble_eq_true rfl), (Nat.le_of_ble_eq_true rfl)⟩ hl.1 rfl (Nat.le_of_ble_eq_true rfl) d_Model_fewest_40) (fun H locs hS => ?_)
        refine lv_istore (lv' := [(4, .int v7), (0, .ref (ad E 70)), (1, .int p1), (2, .int p2), (3, .int p3)]) hx hb d_Model_fewest_43 hl (by decide) rfl (fun ls hl => ?_)
        refine lv_iconst (v := -1) hx hb d_Model_fewest_45 (by decide) ?_
        refine lv_istore (lv' := [(5, .int (-1 : Int32)), (4, .int v7), (0, .ref (ad E 70)), (1, .int p1), (2, .int p2), (3, .int p3)]) hx hb d_Model_fewest_46 hl (by decide) rfl (fun ls hl => ?_)
        refine lv_aload_n hx hb d_Model_fewest_48 rfl (lv_at hl 2 rfl) ?_
        refine r_get C hS (by decide) cel_Model (rfl : cls[6]? = some (R_Model, T_Model, 16)) in_Model 0 (by decide) tw_794 rfl d_Model_fewest_49 ?_
        refine lv_aload_n hx hb d_Model_fewest_52 rfl (lv_at hl 2 rfl) ?_
        refine r_get C hS (by decide) cel_Model (rfl : cls[6]? = some (R_Model, T_Model, 16)) in_Model 3 (by decide) tw_797 rfl d_Model_fewest_53 ?_
        obtain ⟨X10, hr9, h⟩ := bd_el h
        refine c_V hS (c_runS (As := [.ref (ad E 71), .ref (ad E 74)]) (rest := []) C hS (k_Model_copyRow (l := l) (E := E) (X := X) rfl rfl hr9) cw_Model_copyRow ini_Model_copyRow sta_Model_copyRow tw_1012 hd_Model_copyRow rfl ⟨⟨rfl, rfl⟩, (Nat.le_of_ble_eq_true rfl), (Nat.le_of_ble_eq_true rfl)⟩ ⟨(Nat.le_of_ble_eq_true rfl), (Nat.le_of_ble_eq_true rfl)⟩ hl.1 rfl (Nat.le_of_ble_eq_true rfl) d_Model_fewest_56) (fun H locs hS => ?_)
        refine lv_iconst (v := 0) hx hb d_Model_fewest_59 (by decide) ?_
        refine lv_istore (lv' := [(6, .int (0 : Int32)), (5, .int (-1 : Int32)), (4, .int v7), (0, .ref (ad E 70)), (1, .int p1), (2, .int p2), (3, .int p3)]) hx hb d_Model_fewest_60 hl (by decide) rfl (fun ls hl => ?_)
        exact k_Model_fewest_b62 C _ _ _ _ FU _ _ _ _ _ _ h hS (lv_sub hl [3, 4, 5, 6, 2, 1, 0] rfl)
      · skip
        exact k_Model_fewest_j31 C h hS (lv_sub hl [0] rfl)
def I_Model_rate_b44 (p : Program) (l : Launch) (e : Env) (s : State) (m : MethodId) (args : Array Value) (below : List Frame) (meth : Method) (c : Code) (E : En) (r : Int32) (Y : Mem) (x1 : Int32) (x2 : Int32) (x3 : Int32) (n : Nat) (tg : (Int32 × Mem)) : Prop := ∀ (x4 : Int32) (x5 : Int32) (X : Mem) (H : Heap) (locs : List Loc) (ls : Array Slot), it (fun a => f_Model_rate_b44 x1 x2 x3 a.1 a.2.1 a.2.2) n (x4, x5, X) = some tg → Hs E s.heap X H locs → lv_has ls 6 [(0, .ref (ad E 70)), (1, .int x1), (2, .int x2), (3, .int x3), (4, .int x4), (5, .int x5)] → W p l e ({ frames := 6, cells := 0, slots := 0, locals := 141 } : Room) s m args below meth c H locs 0 0 (MQ below (PostI E r Y) args s 0 0 (Ad E)) (F0 m 44 ls [])
set_option maxHeartbeats 4000000 in
set_option maxRecDepth 100000 in
theorem k_Model_rate_j94 {p : Program} {l : Launch} {e : Env} {s : State} {m : MethodId} {args : Array Value} {below : List Frame} {meth : Method} {c : Code} {E : En} {r : Int32} {Y : Mem} (C : Cx p s m args meth c c_Model_rate 6 "TideLoansModel" (some .int) E) {x3 : Int32} {x4 : Int32} {X : Mem} (h : f_Model_rate_j94 x3 x4 X = some (r, Y)) {H : Heap} {locs : List Loc} (hS : Hs E s.heap X H locs) {ls : Array Slot} (hl : lv_has ls 6 [(0, .ref (ad E 70)), (3, .int x3), (4, .int x4)]) : W p l e ({ frames := 6, cells := 0, slots := 0, locals := 141 } : Room) s m args below meth c H locs 0 0 (MQ below (PostI E r Y) args s 0 0 (Ad E)) (F0 m 94 ls []) := by
  obtain ⟨hx, hb, hml, hown, hts, hrt, hlk, hKx⟩ := id C
  unfold f_Model_rate_j94 at h
  refine lv_aload_n hx hb d_Model_rate_94 rfl (lv_at hl 0 rfl) ?_
  refine r_get C hS (by decide) cel_Model (rfl : cls[6]? = some (R_Model, T_Model, 16)) in_Model 0 (by decide) tw_794 rfl d_Model_rate_95 ?_
  refine lv_iconst (v := 2) hx hb d_Model_rate_98 (by decide) ?_
  refine lv_iload_n hx hb d_Model_rate_99 rfl (lv_at hl 1 rfl) ?_
  refine r_stI C hS (n := 83) rfl (by decide) h d_Model_rate_100 (fun X1 H locs hS h => ?_)
  refine lv_aload_n hx hb d_Model_rate_101 rfl (lv_at hl 0 rfl) ?_
  refine lv_iload hx hb d_Model_rate_102 (lv_at hl 2 rfl) ?_
  obtain ⟨v2, X4, hr3, h⟩ := bd2_el h
  refine c_I hS (c_runV (As := [.int x4]) (rest := []) C hS (by decide) cel_Model (rfl : cls[6]? = some (R_Model, T_Model, 16)) (k_Model_orNone (l := l) (E := E) (X := X1) hr3) cw_Model_orNone ini_Model_orNone ins_Model_orNone sel_Model_orNone tw_1023 hd_Model_orNone rfl ⟨⟨rfl, rfl⟩, (Nat.le_of_ble_eq_true rfl), (Nat.le_of_ble_eq_true rfl)⟩ ⟨(Nat.le_of_ble_eq_true rfl), (Nat.le_of_ble_eq_true rfl)⟩ hl.1 rfl (Nat.le_of_ble_eq_true rfl) d_Model_rate_104) (fun H locs hS => ?_)
  exact r_iret C hS rfl h d_Model_rate_107
set_option maxHeartbeats 4000000 in
set_option maxRecDepth 100000 in
theorem k_Model_rate_j86 {p : Program} {l : Launch} {e : Env} {s : State} {m : MethodId} {args : Array Value} {below : List Frame} {meth : Method} {c : Code} {E : En} {r : Int32} {Y : Mem} (C : Cx p s m args meth c c_Model_rate 6 "TideLoansModel" (some .int) E) {x1 : Int32} {x2 : Int32} {x3 : Int32} {x5 : Int32} {q0 : Int32} {X : Mem} {tg : ((Int32 × Mem) ⊕ (Int32 × Int32 × Mem))} {n44 : Nat} (hc44 : fin (fun a => f_Model_rate_b44 x1 x2 x3 a.1 a.2.1 a.2.2) n44 (r, Y) tg) (ih44 : I_Model_rate_b44 p l e s m args below meth c E r Y x1 x2 x3 n44 (r, Y)) (h : f_Model_rate_j86 x1 x2 x3 x5 q0 X = some tg) {H : Heap} {locs : List Loc} (hS : Hs E s.heap X H locs) {ls : Array Slot} (hl : lv_has ls 6 [(0, .ref (ad E 70)), (1, .int x1), (2, .int x2), (3, .int x3), (5, .int x5)]) : W p l e ({ frames := 6, cells := 0, slots := 0, locals := 141 } : Room) s m args below meth c H locs 0 0 (MQ below (PostI E r Y) args s 0 0 (Ad E)) (F0 m 86 ls [.int q0]) := by
  obtain ⟨hx, hb, hml, hown, hts, hrt, hlk, hKx⟩ := id C
  unfold f_Model_rate_j86 at h
  refine lv_istore (lv' := [(4, .int q0), (0, .ref (ad E 70)), (1, .int x1), (2, .int x2), (3, .int x3), (5, .int x5)]) hx hb d_Model_rate_86 hl (by decide) rfl (fun ls hl => ?_)
  refine r_iinc C (w := 1) (lv' := fun z => [(5, .int z), (4, .int q0), (0, .ref (ad E 70)), (1, .int x1), (2, .int x2), (3, .int x3)]) h d_Model_rate_88 hl (k := 5) rfl (by decide) (by decide) (fun _ => rfl) (fun v1 ls h hl => ?_)
  refine lv_goto (tgt := 44) hx hb d_Model_rate_91 (by decide) ?_
  exact ih44 _ _ _ _ _ _ (lp_next h hc44) hS (lv_sub hl [2, 3, 4, 5, 1, 0] rfl)
set_option maxHeartbeats 4000000 in
set_option maxRecDepth 100000 in
theorem k_Model_rate_b44 {p : Program} {l : Launch} {e : Env} {s : State} {m : MethodId} {args : Array Value} {below : List Frame} {meth : Method} {c : Code} {E : En} {r : Int32} {Y : Mem} (C : Cx p s m args meth c c_Model_rate 6 "TideLoansModel" (some .int) E) (x1 : Int32) (x2 : Int32) (x3 : Int32) : ∀ n, I_Model_rate_b44 p l e s m args below meth c E r Y x1 x2 x3 n (r, Y) := by
  obtain ⟨hx, hb, hml, hown, hts, hrt, hlk, hKx⟩ := id C
  intro n
  induction n with
  | zero => intro x4 x5 X H locs ls h; exact it_0 h
  | succ n ih =>
    intro x4 x5 X H locs ls h hS hl
    obtain ⟨cc44, h, hc44⟩ := it_el h
    replace h : f_Model_rate_b44 x1 x2 x3 x4 x5 X = some cc44 := h
    unfold f_Model_rate_b44 at h
    refine lv_iload hx hb d_Model_rate_44 (lv_at hl 5 rfl) ?_
    refine lv_bipush (v := 50) hx hb d_Model_rate_46 (by decide) ?_
    refine r_icmp_gt (tgt := 94) C h d_Model_rate_48 (by decide) (fun h => ?_) (fun h => ?_)
    · skip
      replace h := lp_up h hc44
      exact k_Model_rate_j94 C h hS (lv_sub hl [0, 3, 4] rfl)
    · skip
      refine lv_iload hx hb d_Model_rate_51 (lv_at hl 4 rfl) ?_
      refine r_if_ge (tgt := 94) C h d_Model_rate_53 (by decide) (fun h => ?_) (fun h => ?_)
      · skip
        replace h := lp_up h hc44
        exact k_Model_rate_j94 C h hS (lv_sub hl [0, 3, 4] rfl)
      · skip
        refine lv_aload_n hx hb d_Model_rate_56 rfl (lv_at hl 0 rfl) ?_
        refine r_get C hS (by decide) cel_Model (rfl : cls[6]? = some (R_Model, T_Model, 16)) in_Model 0 (by decide) tw_794 rfl d_Model_rate_57 ?_
        refine lv_iconst (v := 2) hx hb d_Model_rate_60 (by decide) ?_
        refine lv_iload hx hb d_Model_rate_61 (lv_at hl 5 rfl) ?_
        refine r_stI C hS (n := 83) rfl (by decide) h d_Model_rate_63 (fun X1 H locs hS h => ?_)
        refine lv_aload_n hx hb d_Model_rate_64 rfl (lv_at hl 0 rfl) ?_
        refine lv_iload_n hx hb d_Model_rate_65 rfl (lv_at hl 1 rfl) ?_
        obtain ⟨v2, X4, hr3, h⟩ := bd2_el h
        refine c_L hS (c_runV (As := [.int x1]) (rest := []) C hS (by decide) cel_Model (rfl : cls[6]? = some (R_Model, T_Model, 16)) (k_Model_pursesOn (l := l) (E := E) (X := X1) hr3) cw_Model_pursesOn ini_Model_pursesOn ins_Model_pursesOn sel_Model_pursesOn tw_1041 hd_Model_pursesOn rfl ⟨⟨rfl, rfl⟩, (Nat.le_of_ble_eq_true rfl), (Nat.le_of_ble_eq_true rfl)⟩ ⟨(Nat.le_of_ble_eq_true rfl), (Nat.le_of_ble_eq_true rfl)⟩ hl.1 rfl (Nat.le_of_ble_eq_true rfl) d_Model_rate_66) (fun H locs hS => ?_)
        refine lv_aload_n hx hb d_Model_rate_69 rfl (lv_at hl 0 rfl) ?_
        obtain ⟨v5, hr6, h⟩ := bd_el h
        refine c_L hS (c_runV (As := []) (rest := [.long v2]) C hS (by decide) cel_Model (rfl : cls[6]? = some (R_Model, T_Model, 16)) (k_Model_purses (l := l) (E := E) (X := X4) hr6) cw_Model_purses ini_Model_purses ins_Model_purses sel_Model_purses tw_992 hd_Model_purses rfl ⟨⟨rfl, rfl⟩, (Nat.le_of_ble_eq_true rfl), (Nat.le_of_ble_eq_true rfl)⟩ ⟨(Nat.le_of_ble_eq_true rfl), (Nat.le_of_ble_eq_true rfl)⟩ hl.1 rfl (Nat.le_of_ble_eq_true rfl) d_Model_rate_70) (fun H locs hS => ?_)
        refine lv_lsub hx hb d_Model_rate_73 ?_
        refine lv_iload_n hx hb d_Model_rate_74 rfl (lv_at hl 2 rfl) ?_
        refine lv_i2l hx hb d_Model_rate_75 rfl ?_
        refine W.lcmp hx hb d_Model_rate_76 ?_
        refine r_if_lt (tgt := 85) C h d_Model_rate_77 (by decide) (fun h => ?_) (fun h => ?_)
        · skip
          refine lv_iconst (v := -1) hx hb d_Model_rate_85 (by decide) ?_
          exact k_Model_rate_j86 C hc44 ih h hS (lv_sub hl [0, 1, 2, 3, 5] rfl)
        · skip
          refine lv_iload hx hb d_Model_rate_80 (lv_at hl 5 rfl) ?_
          refine lv_goto (tgt := 86) hx hb d_Model_rate_82 (by decide) ?_
          exact k_Model_rate_j86 C hc44 ih h hS (lv_sub hl [0, 1, 2, 3, 5] rfl)
set_option maxHeartbeats 4000000 in
set_option maxRecDepth 100000 in
theorem k_Model_rate_j24 {p : Program} {l : Launch} {e : Env} {s : State} {m : MethodId} {args : Array Value} {below : List Frame} {meth : Method} {c : Code} {E : En} {r : Int32} {Y : Mem} (C : Cx p s m args meth c c_Model_rate 6 "TideLoansModel" (some .int) E) {X : Mem} (h : f_Model_rate_j24 X = some (r, Y)) {H : Heap} {locs : List Loc} (hS : Hs E s.heap X H locs) {ls : Array Slot} (hl : lv_has ls 6 [(0, .ref (ad E 70))]) : W p l e ({ frames := 6, cells := 0, slots := 0, locals := 141 } : Room) s m args below meth c H locs 0 0 (MQ below (PostI E r Y) args s 0 0 (Ad E)) (F0 m 24 ls []) := by
  obtain ⟨hx, hb, hml, hown, hts, hrt, hlk, hKx⟩ := id C
  unfold f_Model_rate_j24 at h
  refine lv_aload_n hx hb d_Model_rate_24 rfl (lv_at hl 0 rfl) ?_
  refine lv_ldc (v := -1000000001) hx hb hown (hts _ tw_858) d_Model_rate_25 ?_
  obtain ⟨v1, X3, hr2, h⟩ := bd2_el h
  refine c_I hS (c_runV (As := [.int (-1000000001 : Int32)]) (rest := []) C hS (by decide) cel_Model (rfl : cls[6]? = some (R_Model, T_Model, 16)) (k_Model_finds (l := l) (E := E) (X := X) hr2) cw_Model_finds ini_Model_finds ins_Model_finds sel_Model_finds tw_859 hd_Model_finds rfl ⟨⟨rfl, rfl⟩, (Nat.le_of_ble_eq_true rfl), (Nat.le_of_ble_eq_true rfl)⟩ ⟨(Nat.le_of_ble_eq_true rfl), (Nat.le_of_ble_eq_true rfl)⟩ hl.1 rfl (Nat.le_of_ble_eq_true rfl) d_Model_rate_27) (fun H locs hS => ?_)
  exact r_iret C hS rfl h d_Model_rate_30
set_option maxHeartbeats 4000000 in
set_option maxRecDepth 100000 in
theorem k_Model_rate {l : Launch} {E : En} {p1 : Int32} {p2 : Int32} {X : Mem} {r : Int32} {Y : Mem} (h : f_Model_rate p1 p2 X = some (r, Y)) : Met l y_Model_rate (Cond.code y_Model_rate c_Model_rate 6 (some .int) :: tb) ({ frames := 6, cells := 0, slots := 0, locals := 141 } : Room) (PreC E [.ref (ad E 70), .int p1, .int p2] X) (PostI E r Y) 0 0 (Ad E) := by
  refine met_of (by decide) (Nat.le_of_ble_eq_true rfl) (fun p e s m below meth c C hS ls hl => ?_)
  replace C : Cx p s m ([.ref (ad E 70), .int p1, .int p2] : List Value).toArray meth c c_Model_rate 6 "TideLoansModel" (some .int) E := C
  replace hl : lv_has ls 6 [(0, .ref (ad E 70)), (1, .int p1), (2, .int p2)] := hl
  obtain ⟨hx, hb, hml, hown, hts, hrt, hlk, hKx⟩ := id C
  unfold f_Model_rate at h
  refine lv_iload_n hx hb d_Model_rate_0 rfl (lv_at hl 1 rfl) ?_
  refine lv_i2l hx hb d_Model_rate_1 rfl ?_
  refine lv_lconst (v := 1) hx hb d_Model_rate_2 (by decide) ?_
  refine lv_ldc2 (v := 100) hx hb hown (hts _ tw_937) d_Model_rate_3 ?_
  obtain ⟨v1, hr2, h⟩ := bd_el h
  refine c_I hS (c_runS (As := [.long (p1.toInt64), .long (1 : Int64), .long (100 : Int64)]) (rest := []) C hS (k_Model_isIn (l := l) (E := E) (X := X) hr2) cw_Model_isIn ini_Model_isIn sta_Model_isIn tw_851 hd_Model_isIn rfl ⟨⟨rfl, rfl⟩, (Nat.le_of_ble_eq_true rfl), (Nat.le_of_ble_eq_true rfl)⟩ ⟨(Nat.le_of_ble_eq_true rfl), (Nat.le_of_ble_eq_true rfl)⟩ hl.1 rfl (Nat.le_of_ble_eq_true rfl) d_Model_rate_6) (fun H locs hS => ?_)
  refine r_if_eq (tgt := 24) C h d_Model_rate_9 (by decide) (fun h => ?_) (fun h => ?_)
  · skip
    exact k_Model_rate_j24 C h hS (lv_sub hl [0] rfl)
  · skip
    refine lv_iload_n hx hb d_Model_rate_12 rfl (lv_at hl 2 rfl) ?_
    refine lv_i2l hx hb d_Model_rate_13 rfl ?_
    refine lv_lconst (v := 0) hx hb d_Model_rate_14 (by decide) ?_
    refine lv_ldc2 (v := 999999999) hx hb hown (hts _ tw_903) d_Model_rate_15 ?_
    obtain ⟨v3, hr4, h⟩ := bd_el h
    refine c_I hS (c_runS (As := [.long (p2.toInt64), .long (0 : Int64), .long (999999999 : Int64)]) (rest := []) C hS (k_Model_isIn (l := l) (E := E) (X := X) hr4) cw_Model_isIn ini_Model_isIn sta_Model_isIn tw_851 hd_Model_isIn rfl ⟨⟨rfl, rfl⟩, (Nat.le_of_ble_eq_true rfl), (Nat.le_of_ble_eq_true rfl)⟩ ⟨(Nat.le_of_ble_eq_true rfl), (Nat.le_of_ble_eq_true rfl)⟩ hl.1 rfl (Nat.le_of_ble_eq_true rfl) d_Model_rate_18) (fun H locs hS => ?_)
    refine r_if_ne (tgt := 31) C h d_Model_rate_21 (by decide) (fun h => ?_) (fun h => ?_)
    · skip
      refine lv_aload_n hx hb d_Model_rate_31 rfl (lv_at hl 0 rfl) ?_
      refine r_get C hS (by decide) cel_Model (rfl : cls[6]? = some (R_Model, T_Model, 16)) in_Model 0 (by decide) tw_794 rfl d_Model_rate_32 ?_
      refine lv_iconst (v := 2) hx hb d_Model_rate_35 (by decide) ?_
      refine r_ldI C hS (n := 83) rfl (by decide) h d_Model_rate_36 (fun v5 h => ?_)
      refine lv_istore_n (lv' := [(3, .int v5), (0, .ref (ad E 70)), (1, .int p1), (2, .int p2)]) hx hb d_Model_rate_37 rfl hl (by decide) rfl (fun ls hl => ?_)
      refine lv_iconst (v := -1) hx hb d_Model_rate_38 (by decide) ?_
      refine lv_istore (lv' := [(4, .int (-1 : Int32)), (3, .int v5), (0, .ref (ad E 70)), (1, .int p1), (2, .int p2)]) hx hb d_Model_rate_39 hl (by decide) rfl (fun ls hl => ?_)
      refine lv_iconst (v := 0) hx hb d_Model_rate_41 (by decide) ?_
      refine lv_istore (lv' := [(5, .int (0 : Int32)), (4, .int (-1 : Int32)), (3, .int v5), (0, .ref (ad E 70)), (1, .int p1), (2, .int p2)]) hx hb d_Model_rate_42 hl (by decide) rfl (fun ls hl => ?_)
      exact k_Model_rate_b44 C _ _ _ FU _ _ _ _ _ _ h hS (lv_sub hl [3, 4, 5, 2, 1, 0] rfl)
    · skip
      exact k_Model_rate_j24 C h hS (lv_sub hl [0] rfl)
def I_Model_feed_b41 (p : Program) (l : Launch) (e : Env) (s : State) (m : MethodId) (args : Array Value) (below : List Frame) (meth : Method) (c : Code) (E : En) (r : Int32) (Y : Mem) (x1 : Int32) (n : Nat) (tg : (Int32 × Mem)) : Prop := ∀ (x3 : Int32) (X : Mem) (H : Heap) (locs : List Loc) (ls : Array Slot), it (fun a => f_Model_feed_b41 x1 a.1 a.2) n (x3, X) = some tg → Hs E s.heap X H locs → lv_has ls 4 [(0, .ref (ad E 70)), (1, .int x1), (3, .int x3)] → W p l e ({ frames := 1, cells := 0, slots := 0, locals := 25 } : Room) s m args below meth c H locs 0 0 (MQ below (PostI E r Y) args s 0 0 (Ad E)) (F0 m 41 ls [])
set_option maxHeartbeats 4000000 in
set_option maxRecDepth 100000 in
theorem k_Model_feed_b41 {p : Program} {l : Launch} {e : Env} {s : State} {m : MethodId} {args : Array Value} {below : List Frame} {meth : Method} {c : Code} {E : En} {r : Int32} {Y : Mem} (C : Cx p s m args meth c c_Model_feed 4 "TideLoansModel" (some .int) E) (x1 : Int32) : ∀ n, I_Model_feed_b41 p l e s m args below meth c E r Y x1 n (r, Y) := by
  obtain ⟨hx, hb, hml, hown, hts, hrt, hlk, hKx⟩ := id C
  intro n
  induction n with
  | zero => intro x3 X H locs ls h; exact it_0 h
  | succ n ih =>
    intro x3 X H locs ls h hS hl
    obtain ⟨cc41, h, hc41⟩ := it_el h
    replace h : f_Model_feed_b41 x1 x3 X = some cc41 := h
    unfold f_Model_feed_b41 at h
    refine lv_iload_n hx hb d_Model_feed_41 rfl (lv_at hl 2 rfl) ?_
    refine r_if_lt (tgt := 80) C h d_Model_feed_42 (by decide) (fun h => ?_) (fun h => ?_)
    · skip
      refine lv_aload_n hx hb d_Model_feed_80 rfl (lv_at hl 0 rfl) ?_
      refine r_getI C hS (by decide) cel_Model (rfl : cls[6]? = some (R_Model, T_Model, 16)) in_Model 7 (by decide) tw_801 rfl h d_Model_feed_81 (fun v1 h => ?_)
      replace h := lp_ret h hc41
      exact r_iret C hS rfl h d_Model_feed_84
    · skip
      refine lv_aload_n hx hb d_Model_feed_45 rfl (lv_at hl 0 rfl) ?_
      refine r_get C hS (by decide) cel_Model (rfl : cls[6]? = some (R_Model, T_Model, 16)) in_Model 6 (by decide) tw_800 rfl d_Model_feed_46 ?_
      refine lv_aload_n hx hb d_Model_feed_49 rfl (lv_at hl 0 rfl) ?_
      refine r_getI C hS (by decide) cel_Model (rfl : cls[6]? = some (R_Model, T_Model, 16)) in_Model 7 (by decide) tw_801 rfl h d_Model_feed_50 (fun v2 h => ?_)
      refine lv_iload_n hx hb d_Model_feed_53 rfl (lv_at hl 1 rfl) ?_
      refine lv_bipush (v := 8) hx hb d_Model_feed_54 (by decide) ?_
      refine lv_iload_n hx hb d_Model_feed_56 rfl (lv_at hl 2 rfl) ?_
      refine lv_imul hx hb d_Model_feed_57 ?_
      refine lv_ishr hx hb d_Model_feed_58 ?_
      refine lv_sipush (v := 255) hx hb d_Model_feed_59 (by decide) ?_
      refine lv_iand hx hb d_Model_feed_62 ?_
      refine r_stI C hS (n := 120) rfl (by decide) h d_Model_feed_63 (fun X3 H locs hS h => ?_)
      refine lv_aload_n hx hb d_Model_feed_64 rfl (lv_at hl 0 rfl) ?_
      refine lv_dup hx hb d_Model_feed_65 rfl ?_
      refine r_getI C hS (by decide) cel_Model (rfl : cls[6]? = some (R_Model, T_Model, 16)) in_Model 7 (by decide) tw_801 rfl h d_Model_feed_66 (fun v4 h => ?_)
      refine lv_iconst (v := 1) hx hb d_Model_feed_69 (by decide) ?_
      refine lv_iadd hx hb d_Model_feed_70 ?_
      refine r_putI C hS (by decide) cel_Model (rfl : cls[6]? = some (R_Model, T_Model, 16)) in_Model ty_Model tyok_Model nm_Model 7 (by decide) tw_801 rfl rfl rfl (Nat.le_of_ble_eq_true rfl) set_Model_7 rfl h d_Model_feed_71 (fun X5 H locs hS h => ?_)
      refine r_iinc C (w := -1) (lv' := fun z => [(3, .int z), (0, .ref (ad E 70)), (1, .int x1)]) h d_Model_feed_74 hl (k := 2) rfl (by decide) (by decide) (fun _ => rfl) (fun v6 ls h hl => ?_)
      refine lv_goto (tgt := 41) hx hb d_Model_feed_77 (by decide) ?_
      exact ih _ _ _ _ _ (lp_next h hc41) hS (lv_sub hl [1, 2, 0] rfl)
set_option maxHeartbeats 4000000 in
set_option maxRecDepth 100000 in
theorem k_Model_feed {l : Launch} {E : En} {p1 : Int32} {p2 : Int32} {X : Mem} {r : Int32} {Y : Mem} (h : f_Model_feed p1 p2 X = some (r, Y)) : Met l y_Model_feed (Cond.code y_Model_feed c_Model_feed 4 (some .int) :: tb) ({ frames := 1, cells := 0, slots := 0, locals := 25 } : Room) (PreC E [.ref (ad E 70), .int p1, .int p2] X) (PostI E r Y) 0 0 (Ad E) := by
  refine met_of (by decide) (Nat.le_of_ble_eq_true rfl) (fun p e s m below meth c C hS ls hl => ?_)
  replace C : Cx p s m ([.ref (ad E 70), .int p1, .int p2] : List Value).toArray meth c c_Model_feed 4 "TideLoansModel" (some .int) E := C
  replace hl : lv_has ls 4 [(0, .ref (ad E 70)), (1, .int p1), (2, .int p2)] := hl
  obtain ⟨hx, hb, hml, hown, hts, hrt, hlk, hKx⟩ := id C
  unfold f_Model_feed at h
  refine lv_iload_n hx hb d_Model_feed_0 rfl (lv_at hl 2 rfl) ?_
  refine lv_i2l hx hb d_Model_feed_1 rfl ?_
  refine lv_lconst (v := 1) hx hb d_Model_feed_2 (by decide) ?_
  refine lv_ldc2 (v := 4) hx hb hown (hts _ tw_1075) d_Model_feed_3 ?_
  obtain ⟨v1, hr2, h⟩ := bd_el h
  refine c_I hS (c_runS (As := [.long (p2.toInt64), .long (1 : Int64), .long (4 : Int64)]) (rest := []) C hS (k_Model_isIn (l := l) (E := E) (X := X) hr2) cw_Model_isIn ini_Model_isIn sta_Model_isIn tw_851 hd_Model_isIn rfl ⟨⟨rfl, rfl⟩, (Nat.le_of_ble_eq_true rfl), (Nat.le_of_ble_eq_true rfl)⟩ ⟨(Nat.le_of_ble_eq_true rfl), (Nat.le_of_ble_eq_true rfl)⟩ hl.1 rfl (Nat.le_of_ble_eq_true rfl) d_Model_feed_6) (fun H locs hS => ?_)
  refine r_if_ne (tgt := 19) C h d_Model_feed_9 (by decide) (fun h => ?_) (fun h => ?_)
  · skip
    refine lv_aload_n hx hb d_Model_feed_19 rfl (lv_at hl 0 rfl) ?_
    refine r_getI C hS (by decide) cel_Model (rfl : cls[6]? = some (R_Model, T_Model, 16)) in_Model 7 (by decide) tw_801 rfl h d_Model_feed_20 (fun v3 h => ?_)
    refine lv_iload_n hx hb d_Model_feed_23 rfl (lv_at hl 2 rfl) ?_
    refine lv_iadd hx hb d_Model_feed_24 ?_
    refine lv_bipush (v := 120) hx hb d_Model_feed_25 (by decide) ?_
    refine r_icmp_le (tgt := 37) C h d_Model_feed_27 (by decide) (fun h => ?_) (fun h => ?_)
    · skip
      refine lv_iload_n hx hb d_Model_feed_37 rfl (lv_at hl 2 rfl) ?_
      refine lv_iconst (v := 1) hx hb d_Model_feed_38 (by decide) ?_
      refine lv_isub hx hb d_Model_feed_39 ?_
      refine r_top h (fun v4 h => ?_)
      refine lv_istore_n (lv' := [(3, .int v4), (0, .ref (ad E 70)), (1, .int p1), (2, .int p2)]) hx hb d_Model_feed_40 rfl hl (by decide) rfl (fun ls hl => ?_)
      exact k_Model_feed_b41 C _ FU _ _ _ _ _ h hS (lv_sub hl [1, 2, 0] rfl)
    · skip
      refine lv_aload_n hx hb d_Model_feed_30 rfl (lv_at hl 0 rfl) ?_
      refine lv_ldc (v := -1000000002) hx hb hown (hts _ tw_909) d_Model_feed_31 ?_
      obtain ⟨v5, X7, hr6, h⟩ := bd2_el h
      refine c_I hS (c_runV (As := [.int (-1000000002 : Int32)]) (rest := []) C hS (by decide) cel_Model (rfl : cls[6]? = some (R_Model, T_Model, 16)) (k_Model_finds (l := l) (E := E) (X := X) hr6) cw_Model_finds ini_Model_finds ins_Model_finds sel_Model_finds tw_859 hd_Model_finds rfl ⟨⟨rfl, rfl⟩, (Nat.le_of_ble_eq_true rfl), (Nat.le_of_ble_eq_true rfl)⟩ ⟨(Nat.le_of_ble_eq_true rfl), (Nat.le_of_ble_eq_true rfl)⟩ hl.1 rfl (Nat.le_of_ble_eq_true rfl) d_Model_feed_33) (fun H locs hS => ?_)
      exact r_iret C hS rfl h d_Model_feed_36
  · skip
    refine lv_aload_n hx hb d_Model_feed_12 rfl (lv_at hl 0 rfl) ?_
    refine lv_ldc (v := -1000000001) hx hb hown (hts _ tw_858) d_Model_feed_13 ?_
    obtain ⟨v8, X10, hr9, h⟩ := bd2_el h
    refine c_I hS (c_runV (As := [.int (-1000000001 : Int32)]) (rest := []) C hS (by decide) cel_Model (rfl : cls[6]? = some (R_Model, T_Model, 16)) (k_Model_finds (l := l) (E := E) (X := X) hr9) cw_Model_finds ini_Model_finds ins_Model_finds sel_Model_finds tw_859 hd_Model_finds rfl ⟨⟨rfl, rfl⟩, (Nat.le_of_ble_eq_true rfl), (Nat.le_of_ble_eq_true rfl)⟩ ⟨(Nat.le_of_ble_eq_true rfl), (Nat.le_of_ble_eq_true rfl)⟩ hl.1 rfl (Nat.le_of_ble_eq_true rfl) d_Model_feed_15) (fun H locs hS => ?_)
    exact r_iret C hS rfl h d_Model_feed_18
set_option maxHeartbeats 4000000 in
set_option maxRecDepth 100000 in
theorem k_Model_wipe {l : Launch} {E : En} {X : Mem} {r : Int32} {Y : Mem} (h : f_Model_wipe X = some (r, Y)) : Met l y_Model_wipe (Cond.code y_Model_wipe c_Model_wipe 2 (some .int) :: tb) ({ frames := 0, cells := 0, slots := 0, locals := 0 } : Room) (PreC E [.ref (ad E 70)] X) (PostI E r Y) 0 0 (Ad E) := by
  refine met_of (by decide) (Nat.le_of_ble_eq_true rfl) (fun p e s m below meth c C hS ls hl => ?_)
  replace C : Cx p s m ([.ref (ad E 70)] : List Value).toArray meth c c_Model_wipe 2 "TideLoansModel" (some .int) E := C
  replace hl : lv_has ls 2 [(0, .ref (ad E 70))] := hl
  obtain ⟨hx, hb, hml, hown, hts, hrt, hlk, hKx⟩ := id C
  unfold f_Model_wipe at h
  refine lv_aload_n hx hb d_Model_wipe_0 rfl (lv_at hl 0 rfl) ?_
  refine r_getI C hS (by decide) cel_Model (rfl : cls[6]? = some (R_Model, T_Model, 16)) in_Model 7 (by decide) tw_801 rfl h d_Model_wipe_1 (fun v1 h => ?_)
  refine lv_istore_n (lv' := [(1, .int v1), (0, .ref (ad E 70))]) hx hb d_Model_wipe_4 rfl hl (by decide) rfl (fun ls hl => ?_)
  refine lv_aload_n hx hb d_Model_wipe_5 rfl (lv_at hl 1 rfl) ?_
  refine lv_iconst (v := 0) hx hb d_Model_wipe_6 (by decide) ?_
  refine r_putI C hS (by decide) cel_Model (rfl : cls[6]? = some (R_Model, T_Model, 16)) in_Model ty_Model tyok_Model nm_Model 7 (by decide) tw_801 rfl rfl rfl (Nat.le_of_ble_eq_true rfl) set_Model_7 rfl h d_Model_wipe_7 (fun X2 H locs hS h => ?_)
  refine lv_iload_n hx hb d_Model_wipe_10 rfl (lv_at hl 0 rfl) ?_
  exact r_iret C hS rfl h d_Model_wipe_11
set_option maxHeartbeats 4000000 in
set_option maxRecDepth 100000 in
theorem k_Model_isLetter {l : Launch} {E : En} {p0 : Int32} {X : Mem} {r : Int32} (h : f_Model_isLetter p0 = some r) : Met l y_Model_isLetter (Cond.code y_Model_isLetter c_Model_isLetter 1 (some .boolean) :: tb) ({ frames := 0, cells := 0, slots := 0, locals := 0 } : Room) (PreC E [.int p0] X) (PostI E r X) 0 0 (Ad E) := by
  refine met_of (by decide) (Nat.le_of_ble_eq_true rfl) (fun p e s m below meth c C hS ls hl => ?_)
  replace C : Cx p s m ([.int p0] : List Value).toArray meth c c_Model_isLetter 1 "TideLoansModel" (some .boolean) E := C
  replace hl : lv_has ls 1 [(0, .int p0)] := hl
  obtain ⟨hx, hb, hml, hown, hts, hrt, hlk, hKx⟩ := id C
  unfold f_Model_isLetter at h
  refine lv_iload_n hx hb d_Model_isLetter_0 rfl (lv_at hl 0 rfl) ?_
  refine lv_bipush (v := 97) hx hb d_Model_isLetter_1 (by decide) ?_
  refine r_icmp_lt (tgt := 16) C h d_Model_isLetter_3 (by decide) (fun h => ?_) (fun h => ?_)
  · skip
    refine lv_iconst (v := 0) hx hb d_Model_isLetter_16 (by decide) ?_
    exact r_zret0 C hS rfl (Or.inl rfl) h d_Model_isLetter_17
  · skip
    refine lv_iload_n hx hb d_Model_isLetter_6 rfl (lv_at hl 0 rfl) ?_
    refine lv_bipush (v := 122) hx hb d_Model_isLetter_7 (by decide) ?_
    refine r_icmp_gt (tgt := 16) C h d_Model_isLetter_9 (by decide) (fun h => ?_) (fun h => ?_)
    · skip
      refine lv_iconst (v := 0) hx hb d_Model_isLetter_16 (by decide) ?_
      exact r_zret0 C hS rfl (Or.inl rfl) h d_Model_isLetter_17
    · skip
      refine lv_iconst (v := 1) hx hb d_Model_isLetter_12 (by decide) ?_
      refine lv_goto (tgt := 17) hx hb d_Model_isLetter_13 (by decide) ?_
      exact r_zret0 C hS rfl (Or.inr rfl) h d_Model_isLetter_17
set_option maxHeartbeats 4000000 in
set_option maxRecDepth 100000 in
theorem k_Model_isDigit {l : Launch} {E : En} {p0 : Int32} {X : Mem} {r : Int32} (h : f_Model_isDigit p0 = some r) : Met l y_Model_isDigit (Cond.code y_Model_isDigit c_Model_isDigit 1 (some .boolean) :: tb) ({ frames := 0, cells := 0, slots := 0, locals := 0 } : Room) (PreC E [.int p0] X) (PostI E r X) 0 0 (Ad E) := by
  refine met_of (by decide) (Nat.le_of_ble_eq_true rfl) (fun p e s m below meth c C hS ls hl => ?_)
  replace C : Cx p s m ([.int p0] : List Value).toArray meth c c_Model_isDigit 1 "TideLoansModel" (some .boolean) E := C
  replace hl : lv_has ls 1 [(0, .int p0)] := hl
  obtain ⟨hx, hb, hml, hown, hts, hrt, hlk, hKx⟩ := id C
  unfold f_Model_isDigit at h
  refine lv_iload_n hx hb d_Model_isDigit_0 rfl (lv_at hl 0 rfl) ?_
  refine lv_bipush (v := 48) hx hb d_Model_isDigit_1 (by decide) ?_
  refine r_icmp_lt (tgt := 16) C h d_Model_isDigit_3 (by decide) (fun h => ?_) (fun h => ?_)
  · skip
    refine lv_iconst (v := 0) hx hb d_Model_isDigit_16 (by decide) ?_
    exact r_zret0 C hS rfl (Or.inl rfl) h d_Model_isDigit_17
  · skip
    refine lv_iload_n hx hb d_Model_isDigit_6 rfl (lv_at hl 0 rfl) ?_
    refine lv_bipush (v := 57) hx hb d_Model_isDigit_7 (by decide) ?_
    refine r_icmp_gt (tgt := 16) C h d_Model_isDigit_9 (by decide) (fun h => ?_) (fun h => ?_)
    · skip
      refine lv_iconst (v := 0) hx hb d_Model_isDigit_16 (by decide) ?_
      exact r_zret0 C hS rfl (Or.inl rfl) h d_Model_isDigit_17
    · skip
      refine lv_iconst (v := 1) hx hb d_Model_isDigit_12 (by decide) ?_
      refine lv_goto (tgt := 17) hx hb d_Model_isDigit_13 (by decide) ?_
      exact r_zret0 C hS rfl (Or.inr rfl) h d_Model_isDigit_17
set_option maxHeartbeats 4000000 in
set_option maxRecDepth 100000 in
theorem k_Model_byteAt {l : Launch} {E : En} {p1 : Int32} {X : Mem} {r : Int32} (h : f_Model_byteAt p1 X = some r) : Met l y_Model_byteAt (Cond.code y_Model_byteAt c_Model_byteAt 2 (some .int) :: tb) ({ frames := 0, cells := 0, slots := 0, locals := 0 } : Room) (PreC E [.ref (ad E 70), .int p1] X) (PostI E r X) 0 0 (Ad E) := by
  refine met_of (by decide) (Nat.le_of_ble_eq_true rfl) (fun p e s m below meth c C hS ls hl => ?_)
  replace C : Cx p s m ([.ref (ad E 70), .int p1] : List Value).toArray meth c c_Model_byteAt 2 "TideLoansModel" (some .int) E := C
  replace hl : lv_has ls 2 [(0, .ref (ad E 70)), (1, .int p1)] := hl
  obtain ⟨hx, hb, hml, hown, hts, hrt, hlk, hKx⟩ := id C
  unfold f_Model_byteAt at h
  refine lv_iload_n hx hb d_Model_byteAt_0 rfl (lv_at hl 1 rfl) ?_
  refine lv_aload_n hx hb d_Model_byteAt_1 rfl (lv_at hl 0 rfl) ?_
  refine r_getI C hS (by decide) cel_Model (rfl : cls[6]? = some (R_Model, T_Model, 16)) in_Model 7 (by decide) tw_801 rfl h d_Model_byteAt_2 (fun v1 h => ?_)
  refine r_icmp_ge (tgt := 17) C h d_Model_byteAt_5 (by decide) (fun h => ?_) (fun h => ?_)
  · skip
    refine lv_iconst (v := -1) hx hb d_Model_byteAt_17 (by decide) ?_
    exact r_iret0 C hS rfl h d_Model_byteAt_18
  · skip
    refine lv_aload_n hx hb d_Model_byteAt_8 rfl (lv_at hl 0 rfl) ?_
    refine r_get C hS (by decide) cel_Model (rfl : cls[6]? = some (R_Model, T_Model, 16)) in_Model 6 (by decide) tw_800 rfl d_Model_byteAt_9 ?_
    refine lv_iload_n hx hb d_Model_byteAt_12 rfl (lv_at hl 1 rfl) ?_
    refine r_ldI C hS (n := 120) rfl (by decide) h d_Model_byteAt_13 (fun v2 h => ?_)
    refine lv_goto (tgt := 18) hx hb d_Model_byteAt_14 (by decide) ?_
    exact r_iret0 C hS rfl h d_Model_byteAt_18
def I_Model_nextToken_b136 (p : Program) (l : Launch) (e : Env) (s : State) (m : MethodId) (args : Array Value) (below : List Frame) (meth : Method) (c : Code) (E : En) (Y : Mem) (n : Nat) (tg : Mem) : Prop := ∀ (X : Mem) (H : Heap) (locs : List Loc) (ls : Array Slot), it (fun a => f_Model_nextToken_b136 a) n X = some tg → Hs E s.heap X H locs → lv_has ls 2 [(0, .ref (ad E 70))] → W p l e ({ frames := 1, cells := 0, slots := 0, locals := 21 } : Room) s m args below meth c H locs 0 0 (MQ below (PostV E Y) args s 0 0 (Ad E)) (F0 m 136 ls [])
def I_Model_nextToken_b101 (p : Program) (l : Launch) (e : Env) (s : State) (m : MethodId) (args : Array Value) (below : List Frame) (meth : Method) (c : Code) (E : En) (Y : Mem) (n : Nat) (tg : Mem) : Prop := ∀ (X : Mem) (H : Heap) (locs : List Loc) (ls : Array Slot), it (fun a => f_Model_nextToken_b101 a) n X = some tg → Hs E s.heap X H locs → lv_has ls 2 [(0, .ref (ad E 70))] → W p l e ({ frames := 1, cells := 0, slots := 0, locals := 21 } : Room) s m args below meth c H locs 0 0 (MQ below (PostV E Y) args s 0 0 (Ad E)) (F0 m 101 ls [])
def I_Model_nextToken_b8 (p : Program) (l : Launch) (e : Env) (s : State) (m : MethodId) (args : Array Value) (below : List Frame) (meth : Method) (c : Code) (E : En) (Y : Mem) (n : Nat) (tg : Mem) : Prop := ∀ (X : Mem) (H : Heap) (locs : List Loc) (ls : Array Slot), it (fun a => f_Model_nextToken_b8 a) n X = some tg → Hs E s.heap X H locs → lv_has ls 2 [(0, .ref (ad E 70))] → W p l e ({ frames := 1, cells := 0, slots := 0, locals := 21 } : Room) s m args below meth c H locs 0 0 (MQ below (PostV E Y) args s 0 0 (Ad E)) (F0 m 8 ls [])
set_option maxHeartbeats 4000000 in
set_option maxRecDepth 100000 in
theorem k_Model_nextToken_j229 {p : Program} {l : Launch} {e : Env} {s : State} {m : MethodId} {args : Array Value} {below : List Frame} {meth : Method} {c : Code} {E : En} {Y : Mem} (C : Cx p s m args meth c c_Model_nextToken 2 "TideLoansModel" none E) {q1 : Int32} {q2 : Int32} {X : Mem} (h : f_Model_nextToken_j229 q1 q2 X = some Y) {H : Heap} {locs : List Loc} (hS : Hs E s.heap X H locs) {ls : Array Slot} (hl : lv_has ls 2 []) : W p l e ({ frames := 1, cells := 0, slots := 0, locals := 21 } : Room) s m args below meth c H locs 0 0 (MQ below (PostV E Y) args s 0 0 (Ad E)) (F0 m 229 ls [.int q2, .int q1, .ref (ad E 70)]) := by
  obtain ⟨hx, hb, hml, hown, hts, hrt, hlk, hKx⟩ := id C
  unfold f_Model_nextToken_j229 at h
  refine lv_iadd hx hb d_Model_nextToken_229 ?_
  refine r_putI C hS (by decide) cel_Model (rfl : cls[6]? = some (R_Model, T_Model, 16)) in_Model ty_Model tyok_Model nm_Model 13 (by decide) tw_807 rfl rfl rfl (Nat.le_of_ble_eq_true rfl) set_Model_13 rfl h d_Model_nextToken_230 (fun X1 H locs hS h => ?_)
  exact r_vret C hS rfl h d_Model_nextToken_233
set_option maxHeartbeats 4000000 in
set_option maxRecDepth 100000 in
theorem k_Model_nextToken_j211 {p : Program} {l : Launch} {e : Env} {s : State} {m : MethodId} {args : Array Value} {below : List Frame} {meth : Method} {c : Code} {E : En} {Y : Mem} (C : Cx p s m args meth c c_Model_nextToken 2 "TideLoansModel" none E) {X : Mem} (h : f_Model_nextToken_j211 X = some Y) {H : Heap} {locs : List Loc} (hS : Hs E s.heap X H locs) {ls : Array Slot} (hl : lv_has ls 2 [(0, .ref (ad E 70))]) : W p l e ({ frames := 1, cells := 0, slots := 0, locals := 21 } : Room) s m args below meth c H locs 0 0 (MQ below (PostV E Y) args s 0 0 (Ad E)) (F0 m 211 ls []) := by
  obtain ⟨hx, hb, hml, hown, hts, hrt, hlk, hKx⟩ := id C
  unfold f_Model_nextToken_j211 at h
  refine lv_aload_n hx hb d_Model_nextToken_211 rfl (lv_at hl 0 rfl) ?_
  refine lv_dup hx hb d_Model_nextToken_212 rfl ?_
  refine r_getI C hS (by decide) cel_Model (rfl : cls[6]? = some (R_Model, T_Model, 16)) in_Model 13 (by decide) tw_807 rfl h d_Model_nextToken_213 (fun v1 h => ?_)
  refine lv_aload_n hx hb d_Model_nextToken_216 rfl (lv_at hl 0 rfl) ?_
  refine r_getI C hS (by decide) cel_Model (rfl : cls[6]? = some (R_Model, T_Model, 16)) in_Model 11 (by decide) tw_805 rfl h d_Model_nextToken_217 (fun v2 h => ?_)
  refine lv_iconst (v := 2) hx hb d_Model_nextToken_220 (by decide) ?_
  refine r_icmp_le (tgt := 228) C h d_Model_nextToken_221 (by decide) (fun h => ?_) (fun h => ?_)
  · skip
    refine lv_iconst (v := 0) hx hb d_Model_nextToken_228 (by decide) ?_
    exact k_Model_nextToken_j229 C h hS (lv_sub hl [] rfl)
  · skip
    refine lv_iconst (v := 1) hx hb d_Model_nextToken_224 (by decide) ?_
    refine lv_goto (tgt := 229) hx hb d_Model_nextToken_225 (by decide) ?_
    exact k_Model_nextToken_j229 C h hS (lv_sub hl [] rfl)
set_option maxHeartbeats 4000000 in
set_option maxRecDepth 100000 in
theorem k_Model_nextToken_j195 {p : Program} {l : Launch} {e : Env} {s : State} {m : MethodId} {args : Array Value} {below : List Frame} {meth : Method} {c : Code} {E : En} {Y : Mem} (C : Cx p s m args meth c c_Model_nextToken 2 "TideLoansModel" none E) {q1 : Int32} {X : Mem} {tg : (Mem ⊕ Mem)} {n136 : Nat} (hc136 : fin (fun a => f_Model_nextToken_b136 a) n136 Y tg) (ih136 : I_Model_nextToken_b136 p l e s m args below meth c E Y n136 Y) (h : f_Model_nextToken_j195 q1 X = some tg) {H : Heap} {locs : List Loc} (hS : Hs E s.heap X H locs) {ls : Array Slot} (hl : lv_has ls 2 [(0, .ref (ad E 70))]) : W p l e ({ frames := 1, cells := 0, slots := 0, locals := 21 } : Room) s m args below meth c H locs 0 0 (MQ below (PostV E Y) args s 0 0 (Ad E)) (F0 m 195 ls [.int q1, .ref (ad E 70)]) := by
  obtain ⟨hx, hb, hml, hown, hts, hrt, hlk, hKx⟩ := id C
  unfold f_Model_nextToken_j195 at h
  refine r_putI C hS (by decide) cel_Model (rfl : cls[6]? = some (R_Model, T_Model, 16)) in_Model ty_Model tyok_Model nm_Model 14 (by decide) tw_808 rfl rfl rfl (Nat.le_of_ble_eq_true rfl) set_Model_14 rfl h d_Model_nextToken_195 (fun X1 H locs hS h => ?_)
  refine lv_aload_n hx hb d_Model_nextToken_198 rfl (lv_at hl 0 rfl) ?_
  refine lv_dup hx hb d_Model_nextToken_199 rfl ?_
  refine r_getI C hS (by decide) cel_Model (rfl : cls[6]? = some (R_Model, T_Model, 16)) in_Model 13 (by decide) tw_807 rfl h d_Model_nextToken_200 (fun v2 h => ?_)
  refine lv_iconst (v := 1) hx hb d_Model_nextToken_203 (by decide) ?_
  refine lv_iadd hx hb d_Model_nextToken_204 ?_
  refine r_putI C hS (by decide) cel_Model (rfl : cls[6]? = some (R_Model, T_Model, 16)) in_Model ty_Model tyok_Model nm_Model 13 (by decide) tw_807 rfl rfl rfl (Nat.le_of_ble_eq_true rfl) set_Model_13 rfl h d_Model_nextToken_205 (fun X3 H locs hS h => ?_)
  refine lv_goto (tgt := 136) hx hb d_Model_nextToken_208 (by decide) ?_
  exact ih136 _ _ _ _ (lp_next h hc136) hS (lv_sub hl [0] rfl)
set_option maxHeartbeats 4000000 in
set_option maxRecDepth 100000 in
theorem k_Model_nextToken_b136 {p : Program} {l : Launch} {e : Env} {s : State} {m : MethodId} {args : Array Value} {below : List Frame} {meth : Method} {c : Code} {E : En} {Y : Mem} (C : Cx p s m args meth c c_Model_nextToken 2 "TideLoansModel" none E) : ∀ n, I_Model_nextToken_b136 p l e s m args below meth c E Y n Y := by
  obtain ⟨hx, hb, hml, hown, hts, hrt, hlk, hKx⟩ := id C
  intro n
  induction n with
  | zero => intro X H locs ls h; exact it_0 h
  | succ n ih =>
    intro X H locs ls h hS hl
    obtain ⟨cc136, h, hc136⟩ := it_el h
    replace h : f_Model_nextToken_b136 X = some cc136 := h
    unfold f_Model_nextToken_b136 at h
    refine lv_aload_n hx hb d_Model_nextToken_136 rfl (lv_at hl 0 rfl) ?_
    refine r_getI C hS (by decide) cel_Model (rfl : cls[6]? = some (R_Model, T_Model, 16)) in_Model 11 (by decide) tw_805 rfl h d_Model_nextToken_137 (fun v1 h => ?_)
    refine lv_iconst (v := 2) hx hb d_Model_nextToken_140 (by decide) ?_
    refine r_icmp_ne (tgt := 211) C h d_Model_nextToken_141 (by decide) (fun h => ?_) (fun h => ?_)
    · skip
      replace h := lp_up h hc136
      exact k_Model_nextToken_j211 C h hS (lv_sub hl [0] rfl)
    · skip
      refine lv_aload_n hx hb d_Model_nextToken_144 rfl (lv_at hl 0 rfl) ?_
      refine lv_aload_n hx hb d_Model_nextToken_145 rfl (lv_at hl 0 rfl) ?_
      refine r_getI C hS (by decide) cel_Model (rfl : cls[6]? = some (R_Model, T_Model, 16)) in_Model 13 (by decide) tw_807 rfl h d_Model_nextToken_146 (fun v2 h => ?_)
      obtain ⟨v3, hr4, h⟩ := bd_el h
      refine c_I hS (c_runV (As := [.int v2]) (rest := []) C hS (by decide) cel_Model (rfl : cls[6]? = some (R_Model, T_Model, 16)) (k_Model_byteAt (l := l) (E := E) (X := X) hr4) cw_Model_byteAt ini_Model_byteAt ins_Model_byteAt sel_Model_byteAt tw_1088 hd_Model_byteAt rfl ⟨⟨rfl, rfl⟩, (Nat.le_of_ble_eq_true rfl), (Nat.le_of_ble_eq_true rfl)⟩ ⟨(Nat.le_of_ble_eq_true rfl), (Nat.le_of_ble_eq_true rfl)⟩ hl.1 rfl (Nat.le_of_ble_eq_true rfl) d_Model_nextToken_149) (fun H locs hS => ?_)
      obtain ⟨v5, hr6, h⟩ := bd_el h
      refine c_I hS (c_runS (As := [.int v3]) (rest := []) C hS (k_Model_isDigit (l := l) (E := E) (X := X) hr6) cw_Model_isDigit ini_Model_isDigit sta_Model_isDigit tw_1095 hd_Model_isDigit rfl ⟨⟨rfl, rfl⟩, (Nat.le_of_ble_eq_true rfl), (Nat.le_of_ble_eq_true rfl)⟩ ⟨(Nat.le_of_ble_eq_true rfl), (Nat.le_of_ble_eq_true rfl)⟩ hl.1 rfl (Nat.le_of_ble_eq_true rfl) d_Model_nextToken_152) (fun H locs hS => ?_)
      refine r_if_eq (tgt := 211) C h d_Model_nextToken_155 (by decide) (fun h => ?_) (fun h => ?_)
      · skip
        replace h := lp_up h hc136
        exact k_Model_nextToken_j211 C h hS (lv_sub hl [0] rfl)
      · skip
        refine lv_aload_n hx hb d_Model_nextToken_158 rfl (lv_at hl 0 rfl) ?_
        refine lv_aload_n hx hb d_Model_nextToken_159 rfl (lv_at hl 0 rfl) ?_
        refine r_getI C hS (by decide) cel_Model (rfl : cls[6]? = some (R_Model, T_Model, 16)) in_Model 14 (by decide) tw_808 rfl h d_Model_nextToken_160 (fun v7 h => ?_)
        refine lv_sipush (v := 9999) hx hb d_Model_nextToken_163 (by decide) ?_
        refine r_icmp_le (tgt := 176) C h d_Model_nextToken_166 (by decide) (fun h => ?_) (fun h => ?_)
        · skip
          refine lv_bipush (v := 10) hx hb d_Model_nextToken_176 (by decide) ?_
          refine lv_aload_n hx hb d_Model_nextToken_178 rfl (lv_at hl 0 rfl) ?_
          refine r_getI C hS (by decide) cel_Model (rfl : cls[6]? = some (R_Model, T_Model, 16)) in_Model 14 (by decide) tw_808 rfl h d_Model_nextToken_179 (fun v8 h => ?_)
          refine lv_imul hx hb d_Model_nextToken_182 ?_
          refine lv_aload_n hx hb d_Model_nextToken_183 rfl (lv_at hl 0 rfl) ?_
          refine lv_aload_n hx hb d_Model_nextToken_184 rfl (lv_at hl 0 rfl) ?_
          refine r_getI C hS (by decide) cel_Model (rfl : cls[6]? = some (R_Model, T_Model, 16)) in_Model 13 (by decide) tw_807 rfl h d_Model_nextToken_185 (fun v9 h => ?_)
          obtain ⟨v10, hr11, h⟩ := bd_el h
          refine c_I hS (c_runV (As := [.int v9]) (rest := [.int ((10 : Int32) * v8), .ref (ad E 70)]) C hS (by decide) cel_Model (rfl : cls[6]? = some (R_Model, T_Model, 16)) (k_Model_byteAt (l := l) (E := E) (X := X) hr11) cw_Model_byteAt ini_Model_byteAt ins_Model_byteAt sel_Model_byteAt tw_1088 hd_Model_byteAt rfl ⟨⟨rfl, rfl⟩, (Nat.le_of_ble_eq_true rfl), (Nat.le_of_ble_eq_true rfl)⟩ ⟨(Nat.le_of_ble_eq_true rfl), (Nat.le_of_ble_eq_true rfl)⟩ hl.1 rfl (Nat.le_of_ble_eq_true rfl) d_Model_nextToken_188) (fun H locs hS => ?_)
          refine lv_iadd hx hb d_Model_nextToken_191 ?_
          refine lv_bipush (v := 48) hx hb d_Model_nextToken_192 (by decide) ?_
          refine lv_isub hx hb d_Model_nextToken_194 ?_
          exact k_Model_nextToken_j195 C hc136 ih h hS (lv_sub hl [0] rfl)
        · skip
          refine lv_aload_n hx hb d_Model_nextToken_169 rfl (lv_at hl 0 rfl) ?_
          refine r_getI C hS (by decide) cel_Model (rfl : cls[6]? = some (R_Model, T_Model, 16)) in_Model 14 (by decide) tw_808 rfl h d_Model_nextToken_170 (fun v12 h => ?_)
          refine lv_goto (tgt := 195) hx hb d_Model_nextToken_173 (by decide) ?_
          exact k_Model_nextToken_j195 C hc136 ih h hS (lv_sub hl [0] rfl)
set_option maxHeartbeats 4000000 in
set_option maxRecDepth 100000 in
theorem k_Model_nextToken_b101 {p : Program} {l : Launch} {e : Env} {s : State} {m : MethodId} {args : Array Value} {below : List Frame} {meth : Method} {c : Code} {E : En} {Y : Mem} (C : Cx p s m args meth c c_Model_nextToken 2 "TideLoansModel" none E) : ∀ n, I_Model_nextToken_b101 p l e s m args below meth c E Y n Y := by
  obtain ⟨hx, hb, hml, hown, hts, hrt, hlk, hKx⟩ := id C
  intro n
  induction n with
  | zero => intro X H locs ls h; exact it_0 h
  | succ n ih =>
    intro X H locs ls h hS hl
    obtain ⟨cc101, h, hc101⟩ := it_el h
    replace h : f_Model_nextToken_b101 X = some cc101 := h
    unfold f_Model_nextToken_b101 at h
    refine lv_aload_n hx hb d_Model_nextToken_101 rfl (lv_at hl 0 rfl) ?_
    refine r_getI C hS (by decide) cel_Model (rfl : cls[6]? = some (R_Model, T_Model, 16)) in_Model 11 (by decide) tw_805 rfl h d_Model_nextToken_102 (fun v1 h => ?_)
    refine lv_iconst (v := 1) hx hb d_Model_nextToken_105 (by decide) ?_
    refine r_icmp_ne (tgt := 136) C h d_Model_nextToken_106 (by decide) (fun h => ?_) (fun h => ?_)
    · skip
      replace h := lp_up h hc101
      exact k_Model_nextToken_b136 C FU _ _ _ _ h hS (lv_sub hl [0] rfl)
    · skip
      refine lv_aload_n hx hb d_Model_nextToken_109 rfl (lv_at hl 0 rfl) ?_
      refine lv_aload_n hx hb d_Model_nextToken_110 rfl (lv_at hl 0 rfl) ?_
      refine r_getI C hS (by decide) cel_Model (rfl : cls[6]? = some (R_Model, T_Model, 16)) in_Model 13 (by decide) tw_807 rfl h d_Model_nextToken_111 (fun v2 h => ?_)
      obtain ⟨v3, hr4, h⟩ := bd_el h
      refine c_I hS (c_runV (As := [.int v2]) (rest := []) C hS (by decide) cel_Model (rfl : cls[6]? = some (R_Model, T_Model, 16)) (k_Model_byteAt (l := l) (E := E) (X := X) hr4) cw_Model_byteAt ini_Model_byteAt ins_Model_byteAt sel_Model_byteAt tw_1088 hd_Model_byteAt rfl ⟨⟨rfl, rfl⟩, (Nat.le_of_ble_eq_true rfl), (Nat.le_of_ble_eq_true rfl)⟩ ⟨(Nat.le_of_ble_eq_true rfl), (Nat.le_of_ble_eq_true rfl)⟩ hl.1 rfl (Nat.le_of_ble_eq_true rfl) d_Model_nextToken_114) (fun H locs hS => ?_)
      obtain ⟨v5, hr6, h⟩ := bd_el h
      refine c_I hS (c_runS (As := [.int v3]) (rest := []) C hS (k_Model_isLetter (l := l) (E := E) (X := X) hr6) cw_Model_isLetter ini_Model_isLetter sta_Model_isLetter tw_1092 hd_Model_isLetter rfl ⟨⟨rfl, rfl⟩, (Nat.le_of_ble_eq_true rfl), (Nat.le_of_ble_eq_true rfl)⟩ ⟨(Nat.le_of_ble_eq_true rfl), (Nat.le_of_ble_eq_true rfl)⟩ hl.1 rfl (Nat.le_of_ble_eq_true rfl) d_Model_nextToken_117) (fun H locs hS => ?_)
      refine r_if_eq (tgt := 136) C h d_Model_nextToken_120 (by decide) (fun h => ?_) (fun h => ?_)
      · skip
        replace h := lp_up h hc101
        exact k_Model_nextToken_b136 C FU _ _ _ _ h hS (lv_sub hl [0] rfl)
      · skip
        refine lv_aload_n hx hb d_Model_nextToken_123 rfl (lv_at hl 0 rfl) ?_
        refine lv_dup hx hb d_Model_nextToken_124 rfl ?_
        refine r_getI C hS (by decide) cel_Model (rfl : cls[6]? = some (R_Model, T_Model, 16)) in_Model 13 (by decide) tw_807 rfl h d_Model_nextToken_125 (fun v7 h => ?_)
        refine lv_iconst (v := 1) hx hb d_Model_nextToken_128 (by decide) ?_
        refine lv_iadd hx hb d_Model_nextToken_129 ?_
        refine r_putI C hS (by decide) cel_Model (rfl : cls[6]? = some (R_Model, T_Model, 16)) in_Model ty_Model tyok_Model nm_Model 13 (by decide) tw_807 rfl rfl rfl (Nat.le_of_ble_eq_true rfl) set_Model_13 rfl h d_Model_nextToken_130 (fun X8 H locs hS h => ?_)
        refine lv_goto (tgt := 101) hx hb d_Model_nextToken_133 (by decide) ?_
        exact ih _ _ _ _ (lp_next h hc101) hS (lv_sub hl [0] rfl)
set_option maxHeartbeats 4000000 in
set_option maxRecDepth 100000 in
theorem k_Model_nextToken_j93 {p : Program} {l : Launch} {e : Env} {s : State} {m : MethodId} {args : Array Value} {below : List Frame} {meth : Method} {c : Code} {E : En} {Y : Mem} (C : Cx p s m args meth c c_Model_nextToken 2 "TideLoansModel" none E) {q1 : Int32} {X : Mem} (h : f_Model_nextToken_j93 q1 X = some Y) {H : Heap} {locs : List Loc} (hS : Hs E s.heap X H locs) {ls : Array Slot} (hl : lv_has ls 2 [(0, .ref (ad E 70))]) : W p l e ({ frames := 1, cells := 0, slots := 0, locals := 21 } : Room) s m args below meth c H locs 0 0 (MQ below (PostV E Y) args s 0 0 (Ad E)) (F0 m 93 ls [.int q1, .ref (ad E 70)]) := by
  obtain ⟨hx, hb, hml, hown, hts, hrt, hlk, hKx⟩ := id C
  unfold f_Model_nextToken_j93 at h
  refine r_putI C hS (by decide) cel_Model (rfl : cls[6]? = some (R_Model, T_Model, 16)) in_Model ty_Model tyok_Model nm_Model 11 (by decide) tw_805 rfl rfl rfl (Nat.le_of_ble_eq_true rfl) set_Model_11 rfl h d_Model_nextToken_93 (fun X1 H locs hS h => ?_)
  refine lv_aload_n hx hb d_Model_nextToken_96 rfl (lv_at hl 0 rfl) ?_
  refine lv_iconst (v := 0) hx hb d_Model_nextToken_97 (by decide) ?_
  refine r_putI C hS (by decide) cel_Model (rfl : cls[6]? = some (R_Model, T_Model, 16)) in_Model ty_Model tyok_Model nm_Model 14 (by decide) tw_808 rfl rfl rfl (Nat.le_of_ble_eq_true rfl) set_Model_14 rfl h d_Model_nextToken_98 (fun X2 H locs hS h => ?_)
  exact k_Model_nextToken_b101 C FU _ _ _ _ h hS (lv_sub hl [0] rfl)
set_option maxHeartbeats 4000000 in
set_option maxRecDepth 100000 in
theorem k_Model_nextToken_b8 {p : Program} {l : Launch} {e : Env} {s : State} {m : MethodId} {args : Array Value} {below : List Frame} {meth : Method} {c : Code} {E : En} {Y : Mem} (C : Cx p s m args meth c c_Model_nextToken 2 "TideLoansModel" none E) : ∀ n, I_Model_nextToken_b8 p l e s m args below meth c E Y n Y := by
  obtain ⟨hx, hb, hml, hown, hts, hrt, hlk, hKx⟩ := id C
  intro n
  induction n with
  | zero => intro X H locs ls h; exact it_0 h
  | succ n ih =>
    intro X H locs ls h hS hl
    obtain ⟨cc8, h, hc8⟩ := it_el h
    replace h : f_Model_nextToken_b8 X = some cc8 := h
    unfold f_Model_nextToken_b8 at h
    refine lv_aload_n hx hb d_Model_nextToken_8 rfl (lv_at hl 0 rfl) ?_
    refine lv_aload_n hx hb d_Model_nextToken_9 rfl (lv_at hl 0 rfl) ?_
    refine r_getI C hS (by decide) cel_Model (rfl : cls[6]? = some (R_Model, T_Model, 16)) in_Model 12 (by decide) tw_806 rfl h d_Model_nextToken_10 (fun v1 h => ?_)
    obtain ⟨v2, hr3, h⟩ := bd_el h
    refine c_I hS (c_runV (As := [.int v1]) (rest := []) C hS (by decide) cel_Model (rfl : cls[6]? = some (R_Model, T_Model, 16)) (k_Model_byteAt (l := l) (E := E) (X := X) hr3) cw_Model_byteAt ini_Model_byteAt ins_Model_byteAt sel_Model_byteAt tw_1088 hd_Model_byteAt rfl ⟨⟨rfl, rfl⟩, (Nat.le_of_ble_eq_true rfl), (Nat.le_of_ble_eq_true rfl)⟩ ⟨(Nat.le_of_ble_eq_true rfl), (Nat.le_of_ble_eq_true rfl)⟩ hl.1 rfl (Nat.le_of_ble_eq_true rfl) d_Model_nextToken_13) (fun H locs hS => ?_)
    refine lv_bipush (v := 32) hx hb d_Model_nextToken_16 (by decide) ?_
    refine r_icmp_ne (tgt := 34) C h d_Model_nextToken_18 (by decide) (fun h => ?_) (fun h => ?_)
    · skip
      refine lv_aload_n hx hb d_Model_nextToken_34 rfl (lv_at hl 0 rfl) ?_
      refine lv_aload_n hx hb d_Model_nextToken_35 rfl (lv_at hl 0 rfl) ?_
      refine r_getI C hS (by decide) cel_Model (rfl : cls[6]? = some (R_Model, T_Model, 16)) in_Model 12 (by decide) tw_806 rfl h d_Model_nextToken_36 (fun v4 h => ?_)
      refine r_putI C hS (by decide) cel_Model (rfl : cls[6]? = some (R_Model, T_Model, 16)) in_Model ty_Model tyok_Model nm_Model 13 (by decide) tw_807 rfl rfl rfl (Nat.le_of_ble_eq_true rfl) set_Model_13 rfl h d_Model_nextToken_39 (fun X5 H locs hS h => ?_)
      refine lv_aload_n hx hb d_Model_nextToken_42 rfl (lv_at hl 0 rfl) ?_
      refine lv_aload_n hx hb d_Model_nextToken_43 rfl (lv_at hl 0 rfl) ?_
      refine r_getI C hS (by decide) cel_Model (rfl : cls[6]? = some (R_Model, T_Model, 16)) in_Model 12 (by decide) tw_806 rfl h d_Model_nextToken_44 (fun v6 h => ?_)
      obtain ⟨v7, hr8, h⟩ := bd_el h
      refine c_I hS (c_runV (As := [.int v6]) (rest := []) C hS (by decide) cel_Model (rfl : cls[6]? = some (R_Model, T_Model, 16)) (k_Model_byteAt (l := l) (E := E) (X := X5) hr8) cw_Model_byteAt ini_Model_byteAt ins_Model_byteAt sel_Model_byteAt tw_1088 hd_Model_byteAt rfl ⟨⟨rfl, rfl⟩, (Nat.le_of_ble_eq_true rfl), (Nat.le_of_ble_eq_true rfl)⟩ ⟨(Nat.le_of_ble_eq_true rfl), (Nat.le_of_ble_eq_true rfl)⟩ hl.1 rfl (Nat.le_of_ble_eq_true rfl) d_Model_nextToken_47) (fun H locs hS => ?_)
      refine lv_istore_n (lv' := [(1, .int v7), (0, .ref (ad E 70))]) hx hb d_Model_nextToken_50 rfl hl (by decide) rfl (fun ls hl => ?_)
      refine lv_aload_n hx hb d_Model_nextToken_51 rfl (lv_at hl 1 rfl) ?_
      refine lv_iload_n hx hb d_Model_nextToken_52 rfl (lv_at hl 0 rfl) ?_
      refine r_if_ge (tgt := 60) C h d_Model_nextToken_53 (by decide) (fun h => ?_) (fun h => ?_)
      · skip
        refine lv_iload_n hx hb d_Model_nextToken_60 rfl (lv_at hl 0 rfl) ?_
        obtain ⟨v9, hr10, h⟩ := bd_el h
        refine c_I hS (c_runS (As := [.int v7]) (rest := [.ref (ad E 70)]) C hS (k_Model_isLetter (l := l) (E := E) (X := X5) hr10) cw_Model_isLetter ini_Model_isLetter sta_Model_isLetter tw_1092 hd_Model_isLetter rfl ⟨⟨rfl, rfl⟩, (Nat.le_of_ble_eq_true rfl), (Nat.le_of_ble_eq_true rfl)⟩ ⟨(Nat.le_of_ble_eq_true rfl), (Nat.le_of_ble_eq_true rfl)⟩ hl.1 rfl (Nat.le_of_ble_eq_true rfl) d_Model_nextToken_61) (fun H locs hS => ?_)
        refine r_if_eq (tgt := 71) C h d_Model_nextToken_64 (by decide) (fun h => ?_) (fun h => ?_)
        · skip
          refine lv_iload_n hx hb d_Model_nextToken_71 rfl (lv_at hl 0 rfl) ?_
          obtain ⟨v11, hr12, h⟩ := bd_el h
          refine c_I hS (c_runS (As := [.int v7]) (rest := [.ref (ad E 70)]) C hS (k_Model_isDigit (l := l) (E := E) (X := X5) hr12) cw_Model_isDigit ini_Model_isDigit sta_Model_isDigit tw_1095 hd_Model_isDigit rfl ⟨⟨rfl, rfl⟩, (Nat.le_of_ble_eq_true rfl), (Nat.le_of_ble_eq_true rfl)⟩ ⟨(Nat.le_of_ble_eq_true rfl), (Nat.le_of_ble_eq_true rfl)⟩ hl.1 rfl (Nat.le_of_ble_eq_true rfl) d_Model_nextToken_72) (fun H locs hS => ?_)
          refine r_if_eq (tgt := 82) C h d_Model_nextToken_75 (by decide) (fun h => ?_) (fun h => ?_)
          · skip
            refine lv_iload_n hx hb d_Model_nextToken_82 rfl (lv_at hl 0 rfl) ?_
            refine lv_bipush (v := 59) hx hb d_Model_nextToken_83 (by decide) ?_
            refine r_icmp_ne (tgt := 92) C h d_Model_nextToken_85 (by decide) (fun h => ?_) (fun h => ?_)
            · skip
              refine lv_iconst (v := 4) hx hb d_Model_nextToken_92 (by decide) ?_
              replace h := lp_up h hc8
              exact k_Model_nextToken_j93 C h hS (lv_sub hl [1] rfl)
            · skip
              refine lv_iconst (v := 3) hx hb d_Model_nextToken_88 (by decide) ?_
              refine lv_goto (tgt := 93) hx hb d_Model_nextToken_89 (by decide) ?_
              replace h := lp_up h hc8
              exact k_Model_nextToken_j93 C h hS (lv_sub hl [1] rfl)
          · skip
            refine lv_iconst (v := 2) hx hb d_Model_nextToken_78 (by decide) ?_
            refine lv_goto (tgt := 93) hx hb d_Model_nextToken_79 (by decide) ?_
            replace h := lp_up h hc8
            exact k_Model_nextToken_j93 C h hS (lv_sub hl [1] rfl)
        · skip
          refine lv_iconst (v := 1) hx hb d_Model_nextToken_67 (by decide) ?_
          refine lv_goto (tgt := 93) hx hb d_Model_nextToken_68 (by decide) ?_
          replace h := lp_up h hc8
          exact k_Model_nextToken_j93 C h hS (lv_sub hl [1] rfl)
      · skip
        refine lv_iconst (v := 0) hx hb d_Model_nextToken_56 (by decide) ?_
        refine lv_goto (tgt := 93) hx hb d_Model_nextToken_57 (by decide) ?_
        replace h := lp_up h hc8
        exact k_Model_nextToken_j93 C h hS (lv_sub hl [1] rfl)
    · skip
      refine lv_aload_n hx hb d_Model_nextToken_21 rfl (lv_at hl 0 rfl) ?_
      refine lv_dup hx hb d_Model_nextToken_22 rfl ?_
      refine r_getI C hS (by decide) cel_Model (rfl : cls[6]? = some (R_Model, T_Model, 16)) in_Model 12 (by decide) tw_806 rfl h d_Model_nextToken_23 (fun v13 h => ?_)
      refine lv_iconst (v := 1) hx hb d_Model_nextToken_26 (by decide) ?_
      refine lv_iadd hx hb d_Model_nextToken_27 ?_
      refine r_putI C hS (by decide) cel_Model (rfl : cls[6]? = some (R_Model, T_Model, 16)) in_Model ty_Model tyok_Model nm_Model 12 (by decide) tw_806 rfl rfl rfl (Nat.le_of_ble_eq_true rfl) set_Model_12 rfl h d_Model_nextToken_28 (fun X14 H locs hS h => ?_)
      refine lv_goto (tgt := 8) hx hb d_Model_nextToken_31 (by decide) ?_
      exact ih _ _ _ _ (lp_next h hc8) hS (lv_sub hl [0] rfl)
set_option maxHeartbeats 4000000 in
set_option maxRecDepth 100000 in
theorem k_Model_nextToken {l : Launch} {E : En} {X : Mem} {Y : Mem} (h : f_Model_nextToken X = some Y) : Met l y_Model_nextToken (Cond.code y_Model_nextToken c_Model_nextToken 2 none :: tb) ({ frames := 1, cells := 0, slots := 0, locals := 21 } : Room) (PreC E [.ref (ad E 70)] X) (PostV E Y) 0 0 (Ad E) := by
  refine met_of (by decide) (Nat.le_of_ble_eq_true rfl) (fun p e s m below meth c C hS ls hl => ?_)
  replace C : Cx p s m ([.ref (ad E 70)] : List Value).toArray meth c c_Model_nextToken 2 "TideLoansModel" none E := C
  replace hl : lv_has ls 2 [(0, .ref (ad E 70))] := hl
  obtain ⟨hx, hb, hml, hown, hts, hrt, hlk, hKx⟩ := id C
  unfold f_Model_nextToken at h
  refine lv_aload_n hx hb d_Model_nextToken_0 rfl (lv_at hl 0 rfl) ?_
  refine lv_aload_n hx hb d_Model_nextToken_1 rfl (lv_at hl 0 rfl) ?_
  refine r_getI C hS (by decide) cel_Model (rfl : cls[6]? = some (R_Model, T_Model, 16)) in_Model 13 (by decide) tw_807 rfl h d_Model_nextToken_2 (fun v1 h => ?_)
  refine r_putI C hS (by decide) cel_Model (rfl : cls[6]? = some (R_Model, T_Model, 16)) in_Model ty_Model tyok_Model nm_Model 12 (by decide) tw_806 rfl rfl rfl (Nat.le_of_ble_eq_true rfl) set_Model_12 rfl h d_Model_nextToken_5 (fun X2 H locs hS h => ?_)
  exact k_Model_nextToken_b8 C FU _ _ _ _ h hS (lv_sub hl [0] rfl)
set_option maxHeartbeats 4000000 in
set_option maxRecDepth 100000 in
theorem k_Model_has3 {l : Launch} {E : En} {p1 : Int32} {p2 : Int32} {p3 : Int32} {p4 : Int32} {X : Mem} {r : Int32} (h : f_Model_has3 p1 p2 p3 p4 X = some r) : Met l y_Model_has3 (Cond.code y_Model_has3 c_Model_has3 5 (some .boolean) :: tb) ({ frames := 1, cells := 0, slots := 0, locals := 21 } : Room) (PreC E [.ref (ad E 70), .int p1, .int p2, .int p3, .int p4] X) (PostI E r X) 0 0 (Ad E) := by
  refine met_of (by decide) (Nat.le_of_ble_eq_true rfl) (fun p e s m below meth c C hS ls hl => ?_)
  replace C : Cx p s m ([.ref (ad E 70), .int p1, .int p2, .int p3, .int p4] : List Value).toArray meth c c_Model_has3 5 "TideLoansModel" (some .boolean) E := C
  replace hl : lv_has ls 5 [(0, .ref (ad E 70)), (1, .int p1), (2, .int p2), (3, .int p3), (4, .int p4)] := hl
  obtain ⟨hx, hb, hml, hown, hts, hrt, hlk, hKx⟩ := id C
  unfold f_Model_has3 at h
  refine lv_aload_n hx hb d_Model_has3_0 rfl (lv_at hl 0 rfl) ?_
  refine lv_aload_n hx hb d_Model_has3_1 rfl (lv_at hl 0 rfl) ?_
  refine r_getI C hS (by decide) cel_Model (rfl : cls[6]? = some (R_Model, T_Model, 16)) in_Model 12 (by decide) tw_806 rfl h d_Model_has3_2 (fun v1 h => ?_)
  refine lv_iload_n hx hb d_Model_has3_5 rfl (lv_at hl 1 rfl) ?_
  refine lv_iadd hx hb d_Model_has3_6 ?_
  obtain ⟨v2, hr3, h⟩ := bd_el h
  refine c_I hS (c_runV (As := [.int (v1 + p1)]) (rest := []) C hS (by decide) cel_Model (rfl : cls[6]? = some (R_Model, T_Model, 16)) (k_Model_byteAt (l := l) (E := E) (X := X) hr3) cw_Model_byteAt ini_Model_byteAt ins_Model_byteAt sel_Model_byteAt tw_1088 hd_Model_byteAt rfl ⟨⟨rfl, rfl⟩, (Nat.le_of_ble_eq_true rfl), (Nat.le_of_ble_eq_true rfl)⟩ ⟨(Nat.le_of_ble_eq_true rfl), (Nat.le_of_ble_eq_true rfl)⟩ hl.1 rfl (Nat.le_of_ble_eq_true rfl) d_Model_has3_7) (fun H locs hS => ?_)
  refine lv_iload_n hx hb d_Model_has3_10 rfl (lv_at hl 2 rfl) ?_
  refine r_icmp_ne (tgt := 51) C h d_Model_has3_11 (by decide) (fun h => ?_) (fun h => ?_)
  · skip
    refine lv_iconst (v := 0) hx hb d_Model_has3_51 (by decide) ?_
    exact r_zret0 C hS rfl (Or.inl rfl) h d_Model_has3_52
  · skip
    refine lv_aload_n hx hb d_Model_has3_14 rfl (lv_at hl 0 rfl) ?_
    refine lv_aload_n hx hb d_Model_has3_15 rfl (lv_at hl 0 rfl) ?_
    refine r_getI C hS (by decide) cel_Model (rfl : cls[6]? = some (R_Model, T_Model, 16)) in_Model 12 (by decide) tw_806 rfl h d_Model_has3_16 (fun v4 h => ?_)
    refine lv_iload_n hx hb d_Model_has3_19 rfl (lv_at hl 1 rfl) ?_
    refine lv_iadd hx hb d_Model_has3_20 ?_
    refine lv_iconst (v := 1) hx hb d_Model_has3_21 (by decide) ?_
    refine lv_iadd hx hb d_Model_has3_22 ?_
    obtain ⟨v5, hr6, h⟩ := bd_el h
    refine c_I hS (c_runV (As := [.int ((v4 + p1) + (1 : Int32))]) (rest := []) C hS (by decide) cel_Model (rfl : cls[6]? = some (R_Model, T_Model, 16)) (k_Model_byteAt (l := l) (E := E) (X := X) hr6) cw_Model_byteAt ini_Model_byteAt ins_Model_byteAt sel_Model_byteAt tw_1088 hd_Model_byteAt rfl ⟨⟨rfl, rfl⟩, (Nat.le_of_ble_eq_true rfl), (Nat.le_of_ble_eq_true rfl)⟩ ⟨(Nat.le_of_ble_eq_true rfl), (Nat.le_of_ble_eq_true rfl)⟩ hl.1 rfl (Nat.le_of_ble_eq_true rfl) d_Model_has3_23) (fun H locs hS => ?_)
    refine lv_iload_n hx hb d_Model_has3_26 rfl (lv_at hl 3 rfl) ?_
    refine r_icmp_ne (tgt := 51) C h d_Model_has3_27 (by decide) (fun h => ?_) (fun h => ?_)
    · skip
      refine lv_iconst (v := 0) hx hb d_Model_has3_51 (by decide) ?_
      exact r_zret0 C hS rfl (Or.inl rfl) h d_Model_has3_52
    · skip
      refine lv_aload_n hx hb d_Model_has3_30 rfl (lv_at hl 0 rfl) ?_
      refine lv_aload_n hx hb d_Model_has3_31 rfl (lv_at hl 0 rfl) ?_
      refine r_getI C hS (by decide) cel_Model (rfl : cls[6]? = some (R_Model, T_Model, 16)) in_Model 12 (by decide) tw_806 rfl h d_Model_has3_32 (fun v7 h => ?_)
      refine lv_iload_n hx hb d_Model_has3_35 rfl (lv_at hl 1 rfl) ?_
      refine lv_iadd hx hb d_Model_has3_36 ?_
      refine lv_iconst (v := 2) hx hb d_Model_has3_37 (by decide) ?_
      refine lv_iadd hx hb d_Model_has3_38 ?_
      obtain ⟨v8, hr9, h⟩ := bd_el h
      refine c_I hS (c_runV (As := [.int ((v7 + p1) + (2 : Int32))]) (rest := []) C hS (by decide) cel_Model (rfl : cls[6]? = some (R_Model, T_Model, 16)) (k_Model_byteAt (l := l) (E := E) (X := X) hr9) cw_Model_byteAt ini_Model_byteAt ins_Model_byteAt sel_Model_byteAt tw_1088 hd_Model_byteAt rfl ⟨⟨rfl, rfl⟩, (Nat.le_of_ble_eq_true rfl), (Nat.le_of_ble_eq_true rfl)⟩ ⟨(Nat.le_of_ble_eq_true rfl), (Nat.le_of_ble_eq_true rfl)⟩ hl.1 rfl (Nat.le_of_ble_eq_true rfl) d_Model_has3_39) (fun H locs hS => ?_)
      refine lv_iload hx hb d_Model_has3_42 (lv_at hl 4 rfl) ?_
      refine r_icmp_ne (tgt := 51) C h d_Model_has3_44 (by decide) (fun h => ?_) (fun h => ?_)
      · skip
        refine lv_iconst (v := 0) hx hb d_Model_has3_51 (by decide) ?_
        exact r_zret0 C hS rfl (Or.inl rfl) h d_Model_has3_52
      · skip
        refine lv_iconst (v := 1) hx hb d_Model_has3_47 (by decide) ?_
        refine lv_goto (tgt := 52) hx hb d_Model_has3_48 (by decide) ?_
        exact r_zret0 C hS rfl (Or.inr rfl) h d_Model_has3_52
set_option maxHeartbeats 4000000 in
set_option maxRecDepth 100000 in
theorem k_Model_isWord {l : Launch} {E : En} {p1 : Int32} {X : Mem} {r : Int32} (h : f_Model_isWord p1 X = some r) : Met l y_Model_isWord (Cond.code y_Model_isWord c_Model_isWord 2 (some .boolean) :: tb) ({ frames := 0, cells := 0, slots := 0, locals := 0 } : Room) (PreC E [.ref (ad E 70), .int p1] X) (PostI E r X) 0 0 (Ad E) := by
  refine met_of (by decide) (Nat.le_of_ble_eq_true rfl) (fun p e s m below meth c C hS ls hl => ?_)
  replace C : Cx p s m ([.ref (ad E 70), .int p1] : List Value).toArray meth c c_Model_isWord 2 "TideLoansModel" (some .boolean) E := C
  replace hl : lv_has ls 2 [(0, .ref (ad E 70)), (1, .int p1)] := hl
  obtain ⟨hx, hb, hml, hown, hts, hrt, hlk, hKx⟩ := id C
  unfold f_Model_isWord at h
  refine lv_aload_n hx hb d_Model_isWord_0 rfl (lv_at hl 0 rfl) ?_
  refine r_getI C hS (by decide) cel_Model (rfl : cls[6]? = some (R_Model, T_Model, 16)) in_Model 11 (by decide) tw_805 rfl h d_Model_isWord_1 (fun v1 h => ?_)
  refine lv_iconst (v := 1) hx hb d_Model_isWord_4 (by decide) ?_
  refine r_icmp_ne (tgt := 25) C h d_Model_isWord_5 (by decide) (fun h => ?_) (fun h => ?_)
  · skip
    refine lv_iconst (v := 0) hx hb d_Model_isWord_25 (by decide) ?_
    exact r_zret0 C hS rfl (Or.inl rfl) h d_Model_isWord_26
  · skip
    refine lv_aload_n hx hb d_Model_isWord_8 rfl (lv_at hl 0 rfl) ?_
    refine r_getI C hS (by decide) cel_Model (rfl : cls[6]? = some (R_Model, T_Model, 16)) in_Model 13 (by decide) tw_807 rfl h d_Model_isWord_9 (fun v2 h => ?_)
    refine lv_aload_n hx hb d_Model_isWord_12 rfl (lv_at hl 0 rfl) ?_
    refine r_getI C hS (by decide) cel_Model (rfl : cls[6]? = some (R_Model, T_Model, 16)) in_Model 12 (by decide) tw_806 rfl h d_Model_isWord_13 (fun v3 h => ?_)
    refine lv_isub hx hb d_Model_isWord_16 ?_
    refine lv_iload_n hx hb d_Model_isWord_17 rfl (lv_at hl 1 rfl) ?_
    refine r_icmp_ne (tgt := 25) C h d_Model_isWord_18 (by decide) (fun h => ?_) (fun h => ?_)
    · skip
      refine lv_iconst (v := 0) hx hb d_Model_isWord_25 (by decide) ?_
      exact r_zret0 C hS rfl (Or.inl rfl) h d_Model_isWord_26
    · skip
      refine lv_iconst (v := 1) hx hb d_Model_isWord_21 (by decide) ?_
      refine lv_goto (tgt := 26) hx hb d_Model_isWord_22 (by decide) ?_
      exact r_zret0 C hS rfl (Or.inr rfl) h d_Model_isWord_26
set_option maxHeartbeats 4000000 in
set_option maxRecDepth 100000 in
theorem k_Model_fails {l : Launch} {E : En} {X : Mem} {r : Int32} {Y : Mem} (h : f_Model_fails X = some (r, Y)) : Met l y_Model_fails (Cond.code y_Model_fails c_Model_fails 1 (some .boolean) :: tb) ({ frames := 0, cells := 0, slots := 0, locals := 0 } : Room) (PreC E [.ref (ad E 70)] X) (PostI E r Y) 0 0 (Ad E) := by
  refine met_of (by decide) (Nat.le_of_ble_eq_true rfl) (fun p e s m below meth c C hS ls hl => ?_)
  replace C : Cx p s m ([.ref (ad E 70)] : List Value).toArray meth c c_Model_fails 1 "TideLoansModel" (some .boolean) E := C
  replace hl : lv_has ls 1 [(0, .ref (ad E 70))] := hl
  obtain ⟨hx, hb, hml, hown, hts, hrt, hlk, hKx⟩ := id C
  unfold f_Model_fails at h
  refine lv_aload_n hx hb d_Model_fails_0 rfl (lv_at hl 0 rfl) ?_
  refine lv_aload_n hx hb d_Model_fails_1 rfl (lv_at hl 0 rfl) ?_
  refine r_getI C hS (by decide) cel_Model (rfl : cls[6]? = some (R_Model, T_Model, 16)) in_Model 12 (by decide) tw_806 rfl h d_Model_fails_2 (fun v1 h => ?_)
  refine r_putI C hS (by decide) cel_Model (rfl : cls[6]? = some (R_Model, T_Model, 16)) in_Model ty_Model tyok_Model nm_Model 15 (by decide) tw_809 rfl rfl rfl (Nat.le_of_ble_eq_true rfl) set_Model_15 rfl h d_Model_fails_5 (fun X2 H locs hS h => ?_)
  refine lv_iconst (v := 0) hx hb d_Model_fails_8 (by decide) ?_
  exact r_zret C hS rfl (Or.inl rfl) h d_Model_fails_9
set_option maxHeartbeats 4000000 in
set_option maxRecDepth 100000 in
theorem k_Model_isFive {l : Launch} {E : En} {p1 : Int32} {p2 : Int32} {p3 : Int32} {p4 : Int32} {p5 : Int32} {X : Mem} {r : Int32} (h : f_Model_isFive p1 p2 p3 p4 p5 X = some r) : Met l y_Model_isFive (Cond.code y_Model_isFive c_Model_isFive 6 (some .boolean) :: tb) ({ frames := 2, cells := 0, slots := 0, locals := 45 } : Room) (PreC E [.ref (ad E 70), .int p1, .int p2, .int p3, .int p4, .int p5] X) (PostI E r X) 0 0 (Ad E) := by
  refine met_of (by decide) (Nat.le_of_ble_eq_true rfl) (fun p e s m below meth c C hS ls hl => ?_)
  replace C : Cx p s m ([.ref (ad E 70), .int p1, .int p2, .int p3, .int p4, .int p5] : List Value).toArray meth c c_Model_isFive 6 "TideLoansModel" (some .boolean) E := C
  replace hl : lv_has ls 6 [(0, .ref (ad E 70)), (1, .int p1), (2, .int p2), (3, .int p3), (4, .int p4), (5, .int p5)] := hl
  obtain ⟨hx, hb, hml, hown, hts, hrt, hlk, hKx⟩ := id C
  unfold f_Model_isFive at h
  refine lv_aload_n hx hb d_Model_isFive_0 rfl (lv_at hl 0 rfl) ?_
  refine lv_iconst (v := 5) hx hb d_Model_isFive_1 (by decide) ?_
  obtain ⟨v1, hr2, h⟩ := bd_el h
  refine c_I hS (c_runV (As := [.int (5 : Int32)]) (rest := []) C hS (by decide) cel_Model (rfl : cls[6]? = some (R_Model, T_Model, 16)) (k_Model_isWord (l := l) (E := E) (X := X) hr2) cw_Model_isWord ini_Model_isWord ins_Model_isWord sel_Model_isWord tw_1110 hd_Model_isWord rfl ⟨⟨rfl, rfl⟩, (Nat.le_of_ble_eq_true rfl), (Nat.le_of_ble_eq_true rfl)⟩ ⟨(Nat.le_of_ble_eq_true rfl), (Nat.le_of_ble_eq_true rfl)⟩ hl.1 rfl (Nat.le_of_ble_eq_true rfl) d_Model_isFive_2) (fun H locs hS => ?_)
  refine r_if_eq (tgt := 36) C h d_Model_isFive_5 (by decide) (fun h => ?_) (fun h => ?_)
  · skip
    refine lv_iconst (v := 0) hx hb d_Model_isFive_36 (by decide) ?_
    exact r_zret0 C hS rfl (Or.inl rfl) h d_Model_isFive_37
  · skip
    refine lv_aload_n hx hb d_Model_isFive_8 rfl (lv_at hl 0 rfl) ?_
    refine lv_iconst (v := 0) hx hb d_Model_isFive_9 (by decide) ?_
    refine lv_iload_n hx hb d_Model_isFive_10 rfl (lv_at hl 1 rfl) ?_
    refine lv_iload_n hx hb d_Model_isFive_11 rfl (lv_at hl 2 rfl) ?_
    refine lv_iload_n hx hb d_Model_isFive_12 rfl (lv_at hl 3 rfl) ?_
    obtain ⟨v3, hr4, h⟩ := bd_el h
    refine c_I hS (c_runV (As := [.int (0 : Int32), .int p1, .int p2, .int p3]) (rest := []) C hS (by decide) cel_Model (rfl : cls[6]? = some (R_Model, T_Model, 16)) (k_Model_has3 (l := l) (E := E) (X := X) hr4) cw_Model_has3 ini_Model_has3 ins_Model_has3 sel_Model_has3 tw_1114 hd_Model_has3 rfl ⟨⟨rfl, rfl⟩, (Nat.le_of_ble_eq_true rfl), (Nat.le_of_ble_eq_true rfl)⟩ ⟨(Nat.le_of_ble_eq_true rfl), (Nat.le_of_ble_eq_true rfl)⟩ hl.1 rfl (Nat.le_of_ble_eq_true rfl) d_Model_isFive_13) (fun H locs hS => ?_)
    refine r_if_eq (tgt := 36) C h d_Model_isFive_16 (by decide) (fun h => ?_) (fun h => ?_)
    · skip
      refine lv_iconst (v := 0) hx hb d_Model_isFive_36 (by decide) ?_
      exact r_zret0 C hS rfl (Or.inl rfl) h d_Model_isFive_37
    · skip
      refine lv_aload_n hx hb d_Model_isFive_19 rfl (lv_at hl 0 rfl) ?_
      refine lv_iconst (v := 2) hx hb d_Model_isFive_20 (by decide) ?_
      refine lv_iload_n hx hb d_Model_isFive_21 rfl (lv_at hl 3 rfl) ?_
      refine lv_iload hx hb d_Model_isFive_22 (lv_at hl 4 rfl) ?_
      refine lv_iload hx hb d_Model_isFive_24 (lv_at hl 5 rfl) ?_
      obtain ⟨v5, hr6, h⟩ := bd_el h
      refine c_I hS (c_runV (As := [.int (2 : Int32), .int p3, .int p4, .int p5]) (rest := []) C hS (by decide) cel_Model (rfl : cls[6]? = some (R_Model, T_Model, 16)) (k_Model_has3 (l := l) (E := E) (X := X) hr6) cw_Model_has3 ini_Model_has3 ins_Model_has3 sel_Model_has3 tw_1114 hd_Model_has3 rfl ⟨⟨rfl, rfl⟩, (Nat.le_of_ble_eq_true rfl), (Nat.le_of_ble_eq_true rfl)⟩ ⟨(Nat.le_of_ble_eq_true rfl), (Nat.le_of_ble_eq_true rfl)⟩ hl.1 rfl (Nat.le_of_ble_eq_true rfl) d_Model_isFive_26) (fun H locs hS => ?_)
      refine r_if_eq (tgt := 36) C h d_Model_isFive_29 (by decide) (fun h => ?_) (fun h => ?_)
      · skip
        refine lv_iconst (v := 0) hx hb d_Model_isFive_36 (by decide) ?_
        exact r_zret0 C hS rfl (Or.inl rfl) h d_Model_isFive_37
      · skip
        refine lv_iconst (v := 1) hx hb d_Model_isFive_32 (by decide) ?_
        refine lv_goto (tgt := 37) hx hb d_Model_isFive_33 (by decide) ?_
        exact r_zret0 C hS rfl (Or.inr rfl) h d_Model_isFive_37
set_option maxHeartbeats 4000000 in
set_option maxRecDepth 100000 in
theorem k_Model_isSix {l : Launch} {E : En} {p1 : Int32} {p2 : Int32} {p3 : Int32} {p4 : Int32} {p5 : Int32} {p6 : Int32} {X : Mem} {r : Int32} (h : f_Model_isSix p1 p2 p3 p4 p5 p6 X = some r) : Met l y_Model_isSix (Cond.code y_Model_isSix c_Model_isSix 7 (some .boolean) :: tb) ({ frames := 2, cells := 0, slots := 0, locals := 45 } : Room) (PreC E [.ref (ad E 70), .int p1, .int p2, .int p3, .int p4, .int p5, .int p6] X) (PostI E r X) 0 0 (Ad E) := by
  refine met_of (by decide) (Nat.le_of_ble_eq_true rfl) (fun p e s m below meth c C hS ls hl => ?_)
  replace C : Cx p s m ([.ref (ad E 70), .int p1, .int p2, .int p3, .int p4, .int p5, .int p6] : List Value).toArray meth c c_Model_isSix 7 "TideLoansModel" (some .boolean) E := C
  replace hl : lv_has ls 7 [(0, .ref (ad E 70)), (1, .int p1), (2, .int p2), (3, .int p3), (4, .int p4), (5, .int p5), (6, .int p6)] := hl
  obtain ⟨hx, hb, hml, hown, hts, hrt, hlk, hKx⟩ := id C
  unfold f_Model_isSix at h
  refine lv_aload_n hx hb d_Model_isSix_0 rfl (lv_at hl 0 rfl) ?_
  refine lv_bipush (v := 6) hx hb d_Model_isSix_1 (by decide) ?_
  obtain ⟨v1, hr2, h⟩ := bd_el h
  refine c_I hS (c_runV (As := [.int (6 : Int32)]) (rest := []) C hS (by decide) cel_Model (rfl : cls[6]? = some (R_Model, T_Model, 16)) (k_Model_isWord (l := l) (E := E) (X := X) hr2) cw_Model_isWord ini_Model_isWord ins_Model_isWord sel_Model_isWord tw_1110 hd_Model_isWord rfl ⟨⟨rfl, rfl⟩, (Nat.le_of_ble_eq_true rfl), (Nat.le_of_ble_eq_true rfl)⟩ ⟨(Nat.le_of_ble_eq_true rfl), (Nat.le_of_ble_eq_true rfl)⟩ hl.1 rfl (Nat.le_of_ble_eq_true rfl) d_Model_isSix_3) (fun H locs hS => ?_)
  refine r_if_eq (tgt := 38) C h d_Model_isSix_6 (by decide) (fun h => ?_) (fun h => ?_)
  · skip
    refine lv_iconst (v := 0) hx hb d_Model_isSix_38 (by decide) ?_
    exact r_zret0 C hS rfl (Or.inl rfl) h d_Model_isSix_39
  · skip
    refine lv_aload_n hx hb d_Model_isSix_9 rfl (lv_at hl 0 rfl) ?_
    refine lv_iconst (v := 0) hx hb d_Model_isSix_10 (by decide) ?_
    refine lv_iload_n hx hb d_Model_isSix_11 rfl (lv_at hl 1 rfl) ?_
    refine lv_iload_n hx hb d_Model_isSix_12 rfl (lv_at hl 2 rfl) ?_
    refine lv_iload_n hx hb d_Model_isSix_13 rfl (lv_at hl 3 rfl) ?_
    obtain ⟨v3, hr4, h⟩ := bd_el h
    refine c_I hS (c_runV (As := [.int (0 : Int32), .int p1, .int p2, .int p3]) (rest := []) C hS (by decide) cel_Model (rfl : cls[6]? = some (R_Model, T_Model, 16)) (k_Model_has3 (l := l) (E := E) (X := X) hr4) cw_Model_has3 ini_Model_has3 ins_Model_has3 sel_Model_has3 tw_1114 hd_Model_has3 rfl ⟨⟨rfl, rfl⟩, (Nat.le_of_ble_eq_true rfl), (Nat.le_of_ble_eq_true rfl)⟩ ⟨(Nat.le_of_ble_eq_true rfl), (Nat.le_of_ble_eq_true rfl)⟩ hl.1 rfl (Nat.le_of_ble_eq_true rfl) d_Model_isSix_14) (fun H locs hS => ?_)
    refine r_if_eq (tgt := 38) C h d_Model_isSix_17 (by decide) (fun h => ?_) (fun h => ?_)
    · skip
      refine lv_iconst (v := 0) hx hb d_Model_isSix_38 (by decide) ?_
      exact r_zret0 C hS rfl (Or.inl rfl) h d_Model_isSix_39
    · skip
      refine lv_aload_n hx hb d_Model_isSix_20 rfl (lv_at hl 0 rfl) ?_
      refine lv_iconst (v := 3) hx hb d_Model_isSix_21 (by decide) ?_
      refine lv_iload hx hb d_Model_isSix_22 (lv_at hl 4 rfl) ?_
      refine lv_iload hx hb d_Model_isSix_24 (lv_at hl 5 rfl) ?_
      refine lv_iload hx hb d_Model_isSix_26 (lv_at hl 6 rfl) ?_
      obtain ⟨v5, hr6, h⟩ := bd_el h
      refine c_I hS (c_runV (As := [.int (3 : Int32), .int p4, .int p5, .int p6]) (rest := []) C hS (by decide) cel_Model (rfl : cls[6]? = some (R_Model, T_Model, 16)) (k_Model_has3 (l := l) (E := E) (X := X) hr6) cw_Model_has3 ini_Model_has3 ins_Model_has3 sel_Model_has3 tw_1114 hd_Model_has3 rfl ⟨⟨rfl, rfl⟩, (Nat.le_of_ble_eq_true rfl), (Nat.le_of_ble_eq_true rfl)⟩ ⟨(Nat.le_of_ble_eq_true rfl), (Nat.le_of_ble_eq_true rfl)⟩ hl.1 rfl (Nat.le_of_ble_eq_true rfl) d_Model_isSix_28) (fun H locs hS => ?_)
      refine r_if_eq (tgt := 38) C h d_Model_isSix_31 (by decide) (fun h => ?_) (fun h => ?_)
      · skip
        refine lv_iconst (v := 0) hx hb d_Model_isSix_38 (by decide) ?_
        exact r_zret0 C hS rfl (Or.inl rfl) h d_Model_isSix_39
      · skip
        refine lv_iconst (v := 1) hx hb d_Model_isSix_34 (by decide) ?_
        refine lv_goto (tgt := 39) hx hb d_Model_isSix_35 (by decide) ?_
        exact r_zret0 C hS rfl (Or.inr rfl) h d_Model_isSix_39
set_option maxHeartbeats 4000000 in
set_option maxRecDepth 100000 in
theorem k_Model_kindHere_j112 {p : Program} {l : Launch} {e : Env} {s : State} {m : MethodId} {args : Array Value} {below : List Frame} {meth : Method} {c : Code} {E : En} {r : Int32} (C : Cx p s m args meth c c_Model_kindHere 1 "TideLoansModel" (some .int) E) {X : Mem} (h : f_Model_kindHere_j112 X = some r) {H : Heap} {locs : List Loc} (hS : Hs E s.heap X H locs) {ls : Array Slot} (hl : lv_has ls 1 [(0, .ref (ad E 70))]) : W p l e ({ frames := 3, cells := 0, slots := 0, locals := 71 } : Room) s m args below meth c H locs 0 0 (MQ below (PostI E r X) args s 0 0 (Ad E)) (F0 m 112 ls []) := by
  obtain ⟨hx, hb, hml, hown, hts, hrt, hlk, hKx⟩ := id C
  unfold f_Model_kindHere_j112 at h
  refine lv_aload_n hx hb d_Model_kindHere_112 rfl (lv_at hl 0 rfl) ?_
  refine lv_bipush (v := 116) hx hb d_Model_kindHere_113 (by decide) ?_
  refine lv_bipush (v := 119) hx hb d_Model_kindHere_115 (by decide) ?_
  refine lv_bipush (v := 105) hx hb d_Model_kindHere_117 (by decide) ?_
  refine lv_bipush (v := 99) hx hb d_Model_kindHere_119 (by decide) ?_
  refine lv_bipush (v := 101) hx hb d_Model_kindHere_121 (by decide) ?_
  obtain ⟨v1, hr2, h⟩ := bd_el h
  refine c_I hS (c_runV (As := [.int (116 : Int32), .int (119 : Int32), .int (105 : Int32), .int (99 : Int32), .int (101 : Int32)]) (rest := []) C hS (by decide) cel_Model (rfl : cls[6]? = some (R_Model, T_Model, 16)) (k_Model_isFive (l := l) (E := E) (X := X) hr2) cw_Model_isFive ini_Model_isFive ins_Model_isFive sel_Model_isFive tw_1106 hd_Model_isFive rfl ⟨⟨rfl, rfl⟩, (Nat.le_of_ble_eq_true rfl), (Nat.le_of_ble_eq_true rfl)⟩ ⟨(Nat.le_of_ble_eq_true rfl), (Nat.le_of_ble_eq_true rfl)⟩ hl.1 rfl (Nat.le_of_ble_eq_true rfl) d_Model_kindHere_123) (fun H locs hS => ?_)
  refine r_if_eq (tgt := 131) C h d_Model_kindHere_126 (by decide) (fun h => ?_) (fun h => ?_)
  · skip
    refine lv_aload_n hx hb d_Model_kindHere_131 rfl (lv_at hl 0 rfl) ?_
    refine lv_bipush (v := 103) hx hb d_Model_kindHere_132 (by decide) ?_
    refine lv_bipush (v := 108) hx hb d_Model_kindHere_134 (by decide) ?_
    refine lv_bipush (v := 97) hx hb d_Model_kindHere_136 (by decide) ?_
    refine lv_bipush (v := 115) hx hb d_Model_kindHere_138 (by decide) ?_
    refine lv_bipush (v := 115) hx hb d_Model_kindHere_140 (by decide) ?_
    obtain ⟨v3, hr4, h⟩ := bd_el h
    refine c_I hS (c_runV (As := [.int (103 : Int32), .int (108 : Int32), .int (97 : Int32), .int (115 : Int32), .int (115 : Int32)]) (rest := []) C hS (by decide) cel_Model (rfl : cls[6]? = some (R_Model, T_Model, 16)) (k_Model_isFive (l := l) (E := E) (X := X) hr4) cw_Model_isFive ini_Model_isFive ins_Model_isFive sel_Model_isFive tw_1106 hd_Model_isFive rfl ⟨⟨rfl, rfl⟩, (Nat.le_of_ble_eq_true rfl), (Nat.le_of_ble_eq_true rfl)⟩ ⟨(Nat.le_of_ble_eq_true rfl), (Nat.le_of_ble_eq_true rfl)⟩ hl.1 rfl (Nat.le_of_ble_eq_true rfl) d_Model_kindHere_142) (fun H locs hS => ?_)
    refine r_if_eq (tgt := 152) C h d_Model_kindHere_145 (by decide) (fun h => ?_) (fun h => ?_)
    · skip
      refine lv_iconst (v := -1) hx hb d_Model_kindHere_152 (by decide) ?_
      exact r_iret0 C hS rfl h d_Model_kindHere_153
    · skip
      refine lv_iconst (v := 5) hx hb d_Model_kindHere_148 (by decide) ?_
      refine lv_goto (tgt := 153) hx hb d_Model_kindHere_149 (by decide) ?_
      exact r_iret0 C hS rfl h d_Model_kindHere_153
  · skip
    refine lv_iconst (v := 4) hx hb d_Model_kindHere_129 (by decide) ?_
    exact r_iret0 C hS rfl h d_Model_kindHere_130
set_option maxHeartbeats 4000000 in
set_option maxRecDepth 100000 in
theorem k_Model_kindHere {l : Launch} {E : En} {X : Mem} {r : Int32} (h : f_Model_kindHere X = some r) : Met l y_Model_kindHere (Cond.code y_Model_kindHere c_Model_kindHere 1 (some .int) :: tb) ({ frames := 3, cells := 0, slots := 0, locals := 71 } : Room) (PreC E [.ref (ad E 70)] X) (PostI E r X) 0 0 (Ad E) := by
  refine met_of (by decide) (Nat.le_of_ble_eq_true rfl) (fun p e s m below meth c C hS ls hl => ?_)
  replace C : Cx p s m ([.ref (ad E 70)] : List Value).toArray meth c c_Model_kindHere 1 "TideLoansModel" (some .int) E := C
  replace hl : lv_has ls 1 [(0, .ref (ad E 70))] := hl
  obtain ⟨hx, hb, hml, hown, hts, hrt, hlk, hKx⟩ := id C
  unfold f_Model_kindHere at h
  refine lv_aload_n hx hb d_Model_kindHere_0 rfl (lv_at hl 0 rfl) ?_
  refine lv_bipush (v := 99) hx hb d_Model_kindHere_1 (by decide) ?_
  refine lv_bipush (v := 104) hx hb d_Model_kindHere_3 (by decide) ?_
  refine lv_bipush (v := 97) hx hb d_Model_kindHere_5 (by decide) ?_
  refine lv_bipush (v := 105) hx hb d_Model_kindHere_7 (by decide) ?_
  refine lv_bipush (v := 114) hx hb d_Model_kindHere_9 (by decide) ?_
  obtain ⟨v1, hr2, h⟩ := bd_el h
  refine c_I hS (c_runV (As := [.int (99 : Int32), .int (104 : Int32), .int (97 : Int32), .int (105 : Int32), .int (114 : Int32)]) (rest := []) C hS (by decide) cel_Model (rfl : cls[6]? = some (R_Model, T_Model, 16)) (k_Model_isFive (l := l) (E := E) (X := X) hr2) cw_Model_isFive ini_Model_isFive ins_Model_isFive sel_Model_isFive tw_1106 hd_Model_isFive rfl ⟨⟨rfl, rfl⟩, (Nat.le_of_ble_eq_true rfl), (Nat.le_of_ble_eq_true rfl)⟩ ⟨(Nat.le_of_ble_eq_true rfl), (Nat.le_of_ble_eq_true rfl)⟩ hl.1 rfl (Nat.le_of_ble_eq_true rfl) d_Model_kindHere_11) (fun H locs hS => ?_)
  refine r_if_eq (tgt := 19) C h d_Model_kindHere_14 (by decide) (fun h => ?_) (fun h => ?_)
  · skip
    refine lv_aload_n hx hb d_Model_kindHere_19 rfl (lv_at hl 0 rfl) ?_
    refine lv_bipush (v := 110) hx hb d_Model_kindHere_20 (by decide) ?_
    refine lv_bipush (v := 97) hx hb d_Model_kindHere_22 (by decide) ?_
    refine lv_bipush (v := 109) hx hb d_Model_kindHere_24 (by decide) ?_
    refine lv_bipush (v := 101) hx hb d_Model_kindHere_26 (by decide) ?_
    refine lv_bipush (v := 100) hx hb d_Model_kindHere_28 (by decide) ?_
    obtain ⟨v3, hr4, h⟩ := bd_el h
    refine c_I hS (c_runV (As := [.int (110 : Int32), .int (97 : Int32), .int (109 : Int32), .int (101 : Int32), .int (100 : Int32)]) (rest := []) C hS (by decide) cel_Model (rfl : cls[6]? = some (R_Model, T_Model, 16)) (k_Model_isFive (l := l) (E := E) (X := X) hr4) cw_Model_isFive ini_Model_isFive ins_Model_isFive sel_Model_isFive tw_1106 hd_Model_isFive rfl ⟨⟨rfl, rfl⟩, (Nat.le_of_ble_eq_true rfl), (Nat.le_of_ble_eq_true rfl)⟩ ⟨(Nat.le_of_ble_eq_true rfl), (Nat.le_of_ble_eq_true rfl)⟩ hl.1 rfl (Nat.le_of_ble_eq_true rfl) d_Model_kindHere_30) (fun H locs hS => ?_)
    refine r_if_eq (tgt := 38) C h d_Model_kindHere_33 (by decide) (fun h => ?_) (fun h => ?_)
    · skip
      refine lv_aload_n hx hb d_Model_kindHere_38 rfl (lv_at hl 0 rfl) ?_
      refine lv_bipush (v := 103) hx hb d_Model_kindHere_39 (by decide) ?_
      refine lv_bipush (v := 114) hx hb d_Model_kindHere_41 (by decide) ?_
      refine lv_bipush (v := 117) hx hb d_Model_kindHere_43 (by decide) ?_
      refine lv_bipush (v := 100) hx hb d_Model_kindHere_45 (by decide) ?_
      refine lv_bipush (v := 103) hx hb d_Model_kindHere_47 (by decide) ?_
      refine lv_bipush (v := 101) hx hb d_Model_kindHere_49 (by decide) ?_
      obtain ⟨v5, hr6, h⟩ := bd_el h
      refine c_I hS (c_runV (As := [.int (103 : Int32), .int (114 : Int32), .int (117 : Int32), .int (100 : Int32), .int (103 : Int32), .int (101 : Int32)]) (rest := []) C hS (by decide) cel_Model (rfl : cls[6]? = some (R_Model, T_Model, 16)) (k_Model_isSix (l := l) (E := E) (X := X) hr6) cw_Model_isSix ini_Model_isSix ins_Model_isSix sel_Model_isSix tw_1118 hd_Model_isSix rfl ⟨⟨rfl, rfl⟩, (Nat.le_of_ble_eq_true rfl), (Nat.le_of_ble_eq_true rfl)⟩ ⟨(Nat.le_of_ble_eq_true rfl), (Nat.le_of_ble_eq_true rfl)⟩ hl.1 rfl (Nat.le_of_ble_eq_true rfl) d_Model_kindHere_51) (fun H locs hS => ?_)
      refine r_if_eq (tgt := 59) C h d_Model_kindHere_54 (by decide) (fun h => ?_) (fun h => ?_)
      · skip
        refine lv_aload_n hx hb d_Model_kindHere_59 rfl (lv_at hl 0 rfl) ?_
        refine lv_bipush (v := 8) hx hb d_Model_kindHere_60 (by decide) ?_
        obtain ⟨v7, hr8, h⟩ := bd_el h
        refine c_I hS (c_runV (As := [.int (8 : Int32)]) (rest := []) C hS (by decide) cel_Model (rfl : cls[6]? = some (R_Model, T_Model, 16)) (k_Model_isWord (l := l) (E := E) (X := X) hr8) cw_Model_isWord ini_Model_isWord ins_Model_isWord sel_Model_isWord tw_1110 hd_Model_isWord rfl ⟨⟨rfl, rfl⟩, (Nat.le_of_ble_eq_true rfl), (Nat.le_of_ble_eq_true rfl)⟩ ⟨(Nat.le_of_ble_eq_true rfl), (Nat.le_of_ble_eq_true rfl)⟩ hl.1 rfl (Nat.le_of_ble_eq_true rfl) d_Model_kindHere_62) (fun H locs hS => ?_)
        refine r_if_eq (tgt := 112) C h d_Model_kindHere_65 (by decide) (fun h => ?_) (fun h => ?_)
        · skip
          exact k_Model_kindHere_j112 C h hS (lv_sub hl [0] rfl)
        · skip
          refine lv_aload_n hx hb d_Model_kindHere_68 rfl (lv_at hl 0 rfl) ?_
          refine lv_iconst (v := 0) hx hb d_Model_kindHere_69 (by decide) ?_
          refine lv_bipush (v := 109) hx hb d_Model_kindHere_70 (by decide) ?_
          refine lv_bipush (v := 111) hx hb d_Model_kindHere_72 (by decide) ?_
          refine lv_bipush (v := 111) hx hb d_Model_kindHere_74 (by decide) ?_
          obtain ⟨v9, hr10, h⟩ := bd_el h
          refine c_I hS (c_runV (As := [.int (0 : Int32), .int (109 : Int32), .int (111 : Int32), .int (111 : Int32)]) (rest := []) C hS (by decide) cel_Model (rfl : cls[6]? = some (R_Model, T_Model, 16)) (k_Model_has3 (l := l) (E := E) (X := X) hr10) cw_Model_has3 ini_Model_has3 ins_Model_has3 sel_Model_has3 tw_1114 hd_Model_has3 rfl ⟨⟨rfl, rfl⟩, (Nat.le_of_ble_eq_true rfl), (Nat.le_of_ble_eq_true rfl)⟩ ⟨(Nat.le_of_ble_eq_true rfl), (Nat.le_of_ble_eq_true rfl)⟩ hl.1 rfl (Nat.le_of_ble_eq_true rfl) d_Model_kindHere_76) (fun H locs hS => ?_)
          refine r_if_eq (tgt := 112) C h d_Model_kindHere_79 (by decide) (fun h => ?_) (fun h => ?_)
          · skip
            exact k_Model_kindHere_j112 C h hS (lv_sub hl [0] rfl)
          · skip
            refine lv_aload_n hx hb d_Model_kindHere_82 rfl (lv_at hl 0 rfl) ?_
            refine lv_iconst (v := 3) hx hb d_Model_kindHere_83 (by decide) ?_
            refine lv_bipush (v := 110) hx hb d_Model_kindHere_84 (by decide) ?_
            refine lv_bipush (v := 108) hx hb d_Model_kindHere_86 (by decide) ?_
            refine lv_bipush (v := 101) hx hb d_Model_kindHere_88 (by decide) ?_
            obtain ⟨v11, hr12, h⟩ := bd_el h
            refine c_I hS (c_runV (As := [.int (3 : Int32), .int (110 : Int32), .int (108 : Int32), .int (101 : Int32)]) (rest := []) C hS (by decide) cel_Model (rfl : cls[6]? = some (R_Model, T_Model, 16)) (k_Model_has3 (l := l) (E := E) (X := X) hr12) cw_Model_has3 ini_Model_has3 ins_Model_has3 sel_Model_has3 tw_1114 hd_Model_has3 rfl ⟨⟨rfl, rfl⟩, (Nat.le_of_ble_eq_true rfl), (Nat.le_of_ble_eq_true rfl)⟩ ⟨(Nat.le_of_ble_eq_true rfl), (Nat.le_of_ble_eq_true rfl)⟩ hl.1 rfl (Nat.le_of_ble_eq_true rfl) d_Model_kindHere_90) (fun H locs hS => ?_)
            refine r_if_eq (tgt := 112) C h d_Model_kindHere_93 (by decide) (fun h => ?_) (fun h => ?_)
            · skip
              exact k_Model_kindHere_j112 C h hS (lv_sub hl [0] rfl)
            · skip
              refine lv_aload_n hx hb d_Model_kindHere_96 rfl (lv_at hl 0 rfl) ?_
              refine lv_iconst (v := 5) hx hb d_Model_kindHere_97 (by decide) ?_
              refine lv_bipush (v := 101) hx hb d_Model_kindHere_98 (by decide) ?_
              refine lv_bipush (v := 115) hx hb d_Model_kindHere_100 (by decide) ?_
              refine lv_bipush (v := 115) hx hb d_Model_kindHere_102 (by decide) ?_
              obtain ⟨v13, hr14, h⟩ := bd_el h
              refine c_I hS (c_runV (As := [.int (5 : Int32), .int (101 : Int32), .int (115 : Int32), .int (115 : Int32)]) (rest := []) C hS (by decide) cel_Model (rfl : cls[6]? = some (R_Model, T_Model, 16)) (k_Model_has3 (l := l) (E := E) (X := X) hr14) cw_Model_has3 ini_Model_has3 ins_Model_has3 sel_Model_has3 tw_1114 hd_Model_has3 rfl ⟨⟨rfl, rfl⟩, (Nat.le_of_ble_eq_true rfl), (Nat.le_of_ble_eq_true rfl)⟩ ⟨(Nat.le_of_ble_eq_true rfl), (Nat.le_of_ble_eq_true rfl)⟩ hl.1 rfl (Nat.le_of_ble_eq_true rfl) d_Model_kindHere_104) (fun H locs hS => ?_)
              refine r_if_eq (tgt := 112) C h d_Model_kindHere_107 (by decide) (fun h => ?_) (fun h => ?_)
              · skip
                exact k_Model_kindHere_j112 C h hS (lv_sub hl [0] rfl)
              · skip
                refine lv_iconst (v := 3) hx hb d_Model_kindHere_110 (by decide) ?_
                exact r_iret0 C hS rfl h d_Model_kindHere_111
      · skip
        refine lv_iconst (v := 2) hx hb d_Model_kindHere_57 (by decide) ?_
        exact r_iret0 C hS rfl h d_Model_kindHere_58
    · skip
      refine lv_iconst (v := 1) hx hb d_Model_kindHere_36 (by decide) ?_
      exact r_iret0 C hS rfl h d_Model_kindHere_37
  · skip
    refine lv_iconst (v := 0) hx hb d_Model_kindHere_17 (by decide) ?_
    exact r_iret0 C hS rfl h d_Model_kindHere_18
