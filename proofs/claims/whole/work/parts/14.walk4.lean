def I_Tide_isCourseWith_b3 (p : Program) (l : Launch) (e : Env) (s : State) (m : MethodId) (args : Array Value) (below : List Frame) (meth : Method) (c : Code) (E : En) (r : Int32) (x1 : Nat) (x2 : Int32) (x3 : Int32) (X : Mem) (n : Nat) (tg : Int32) : Prop := ∀ (x4 : Int32) (H : Heap) (locs : List Loc) (ls : Array Slot), it (fun a => f_Tide_isCourseWith_b3 x1 x2 x3 X a) n x4 = some tg → Hs E s.heap X H locs → lv_has ls 6 [(0, .ref (ad E 0)), (1, .ref (ad E x1)), (2, .int x2), (3, .int x3), (4, .int x4)] → W p l e ({ frames := 2, cells := 0, slots := 0, locals := 51 } : Room) s m args below meth c H locs 0 0 (MQ below (PostI E r X) args s 0 0 (Ad E)) (F0 m 3 ls [])
set_option maxHeartbeats 4000000 in
set_option maxRecDepth 100000 in
theorem k_Tide_isCourseWith_j46 {p : Program} {l : Launch} {e : Env} {s : State} {m : MethodId} {args : Array Value} {below : List Frame} {meth : Method} {c : Code} {E : En} {r : Int32} (C : Cx p s m args meth c c_Tide_isCourseWith 6 "TideLoans" (some .boolean) E) {x1 : Nat} {x2 : Int32} {x3 : Int32} {x4 : Int32} {q0 : Int32} {X : Mem} {tg : (Int32 ⊕ Int32)} (hx1 : kd x1 = 4) {n3 : Nat} (hc3 : fin (fun a => f_Tide_isCourseWith_b3 x1 x2 x3 X a) n3 r tg) (ih3 : I_Tide_isCourseWith_b3 p l e s m args below meth c E r x1 x2 x3 X n3 r) (h : f_Tide_isCourseWith_j46 x1 x2 x3 x4 q0 X = some tg) {H : Heap} {locs : List Loc} (hS : Hs E s.heap X H locs) {ls : Array Slot} (hl : lv_has ls 6 [(0, .ref (ad E 0)), (1, .ref (ad E x1)), (2, .int x2), (3, .int x3), (4, .int x4)]) : W p l e ({ frames := 2, cells := 0, slots := 0, locals := 51 } : Room) s m args below meth c H locs 0 0 (MQ below (PostI E r X) args s 0 0 (Ad E)) (F0 m 46 ls [.int q0]) := by
  obtain ⟨hx, hb, hml, hown, hts, hrt, hlk, hKx⟩ := id C
  unfold f_Tide_isCourseWith_j46 at h
  refine lv_istore (lv' := [(5, .int q0), (0, .ref (ad E 0)), (1, .ref (ad E x1)), (2, .int x2), (3, .int x3), (4, .int x4)]) hx hb d_Tide_isCourseWith_46 hl (by decide) rfl (fun ls hl => ?_)
  refine lv_aload_n hx hb d_Tide_isCourseWith_48 rfl (lv_at hl 2 rfl) ?_
  refine r_get C hS (kd_lt hx1 (by decide)) (cel_Sheet hx1) (rfl : cls[0]? = some (R_Sheet, T_Sheet, 3)) in_Sheet 0 (by decide) tw_223 rfl d_Tide_isCourseWith_49 ?_
  refine lv_iload hx hb d_Tide_isCourseWith_52 (lv_at hl 5 rfl) ?_
  refine r_ldL C hS (n := 40) (kd_numbers hx1) (by decide) h d_Tide_isCourseWith_54 (fun v1 h => ?_)
  refine lv_iload hx hb d_Tide_isCourseWith_55 (lv_at hl 0 rfl) ?_
  refine lv_i2l hx hb d_Tide_isCourseWith_57 rfl ?_
  refine W.lcmp hx hb d_Tide_isCourseWith_58 ?_
  refine r_if_eq (tgt := 64) C h d_Tide_isCourseWith_59 (by decide) (fun h => ?_) (fun h => ?_)
  · skip
    refine r_iinc C (w := 1) (lv' := fun z => [(4, .int z), (5, .int q0), (0, .ref (ad E 0)), (1, .ref (ad E x1)), (2, .int x2), (3, .int x3)]) h d_Tide_isCourseWith_64 hl (k := 5) rfl (by decide) (by decide) (fun _ => rfl) (fun v2 ls h hl => ?_)
    refine lv_goto (tgt := 3) hx hb d_Tide_isCourseWith_67 (by decide) ?_
    exact ih3 _ _ _ _ (lp_next h hc3) hS (lv_sub hl [2, 3, 4, 5, 0] rfl)
  · skip
    refine lv_iconst (v := 0) hx hb d_Tide_isCourseWith_62 (by decide) ?_
    replace h := lp_ret h hc3
    exact r_zret0 C hS rfl (Or.inl rfl) h d_Tide_isCourseWith_63
set_option maxHeartbeats 4000000 in
set_option maxRecDepth 100000 in
theorem k_Tide_isCourseWith_b3 {p : Program} {l : Launch} {e : Env} {s : State} {m : MethodId} {args : Array Value} {below : List Frame} {meth : Method} {c : Code} {E : En} {r : Int32} (C : Cx p s m args meth c c_Tide_isCourseWith 6 "TideLoans" (some .boolean) E) (x1 : Nat) (x2 : Int32) (x3 : Int32) {X : Mem} (hx1 : kd x1 = 4) : ∀ n, I_Tide_isCourseWith_b3 p l e s m args below meth c E r x1 x2 x3 X n r := by
  obtain ⟨hx, hb, hml, hown, hts, hrt, hlk, hKx⟩ := id C
  intro n
  induction n with
  | zero => intro x4 H locs ls h; exact it_0 h
  | succ n ih =>
    intro x4 H locs ls h hS hl
    obtain ⟨cc3, h, hc3⟩ := it_el h
    replace h : f_Tide_isCourseWith_b3 x1 x2 x3 X x4 = some cc3 := h
    unfold f_Tide_isCourseWith_b3 at h
    refine lv_iload hx hb d_Tide_isCourseWith_3 (lv_at hl 4 rfl) ?_
    refine lv_aload_n hx hb d_Tide_isCourseWith_5 rfl (lv_at hl 1 rfl) ?_
    refine r_getI C hS (kd_lt hx1 (by decide)) (cel_Sheet hx1) (rfl : cls[0]? = some (R_Sheet, T_Sheet, 3)) in_Sheet 2 (by decide) tw_227 rfl h d_Tide_isCourseWith_6 (fun v1 h => ?_)
    refine r_icmp_ge (tgt := 70) C h d_Tide_isCourseWith_9 (by decide) (fun h => ?_) (fun h => ?_)
    · skip
      refine lv_iconst (v := 1) hx hb d_Tide_isCourseWith_70 (by decide) ?_
      replace h := lp_ret h hc3
      exact r_zret0 C hS rfl (Or.inr rfl) h d_Tide_isCourseWith_71
    · skip
      refine lv_iload hx hb d_Tide_isCourseWith_12 (lv_at hl 4 rfl) ?_
      refine lv_bipush (v := 40) hx hb d_Tide_isCourseWith_14 (by decide) ?_
      refine r_icmp_ge (tgt := 70) C h d_Tide_isCourseWith_16 (by decide) (fun h => ?_) (fun h => ?_)
      · skip
        refine lv_iconst (v := 1) hx hb d_Tide_isCourseWith_70 (by decide) ?_
        replace h := lp_ret h hc3
        exact r_zret0 C hS rfl (Or.inr rfl) h d_Tide_isCourseWith_71
      · skip
        refine lv_iload hx hb d_Tide_isCourseWith_19 (lv_at hl 4 rfl) ?_
        refine lv_iload_n hx hb d_Tide_isCourseWith_21 rfl (lv_at hl 2 rfl) ?_
        refine r_icmp_lt (tgt := 39) C h d_Tide_isCourseWith_22 (by decide) (fun h => ?_) (fun h => ?_)
        · skip
          refine lv_aload_n hx hb d_Tide_isCourseWith_39 rfl (lv_at hl 0 rfl) ?_
          refine r_get C hS (by decide) cel_Tide (rfl : cls[5]? = some (R_Tide, T_Tide, 12)) in_Tide 8 (by decide) tw_244 rfl d_Tide_isCourseWith_40 ?_
          refine lv_iload hx hb d_Tide_isCourseWith_43 (lv_at hl 4 rfl) ?_
          refine r_ldI C hS (n := 40) rfl (by decide) h d_Tide_isCourseWith_45 (fun v2 h => ?_)
          exact k_Tide_isCourseWith_j46 C hx1 hc3 ih h hS (lv_sub hl [0, 1, 2, 3, 4] rfl)
        · skip
          refine lv_aload_n hx hb d_Tide_isCourseWith_25 rfl (lv_at hl 0 rfl) ?_
          refine r_get C hS (by decide) cel_Tide (rfl : cls[5]? = some (R_Tide, T_Tide, 12)) in_Tide 8 (by decide) tw_244 rfl d_Tide_isCourseWith_26 ?_
          refine lv_iload hx hb d_Tide_isCourseWith_29 (lv_at hl 4 rfl) ?_
          refine r_ldI C hS (n := 40) rfl (by decide) h d_Tide_isCourseWith_31 (fun v3 h => ?_)
          refine lv_iload_n hx hb d_Tide_isCourseWith_32 rfl (lv_at hl 3 rfl) ?_
          obtain ⟨v4, hr5, h⟩ := bd_el h
          refine c_I hS (c_runS (As := [.int v3, .int x3]) (rest := []) C hS (k_Tide_filled (l := l) (E := E) (X := X) hr5) cw_Tide_filled ini_Tide_filled sta_Tide_filled tw_453 hd_Tide_filled rfl ⟨⟨rfl, rfl⟩, (Nat.le_of_ble_eq_true rfl), (Nat.le_of_ble_eq_true rfl)⟩ ⟨(Nat.le_of_ble_eq_true rfl), (Nat.le_of_ble_eq_true rfl)⟩ hl.1 rfl (Nat.le_of_ble_eq_true rfl) d_Tide_isCourseWith_33) (fun H locs hS => ?_)
          refine lv_goto (tgt := 46) hx hb d_Tide_isCourseWith_36 (by decide) ?_
          exact k_Tide_isCourseWith_j46 C hx1 hc3 ih h hS (lv_sub hl [0, 1, 2, 3, 4] rfl)
set_option maxHeartbeats 4000000 in
set_option maxRecDepth 100000 in
theorem k_Tide_isCourseWith {l : Launch} {E : En} {k1 : Nat} {p2 : Int32} {p3 : Int32} {X : Mem} {r : Int32} (hk1 : kd k1 = 4) (h : f_Tide_isCourseWith k1 p2 p3 X = some r) : Met l y_Tide_isCourseWith (Cond.code y_Tide_isCourseWith c_Tide_isCourseWith 6 (some .boolean) :: tb) ({ frames := 2, cells := 0, slots := 0, locals := 51 } : Room) (PreC E [.ref (ad E 0), .ref (ad E k1), .int p2, .int p3] X) (PostI E r X) 0 0 (Ad E) := by
  refine met_of (by decide) (Nat.le_of_ble_eq_true rfl) (fun p e s m below meth c C hS ls hl => ?_)
  replace C : Cx p s m ([.ref (ad E 0), .ref (ad E k1), .int p2, .int p3] : List Value).toArray meth c c_Tide_isCourseWith 6 "TideLoans" (some .boolean) E := C
  replace hl : lv_has ls 6 [(0, .ref (ad E 0)), (1, .ref (ad E k1)), (2, .int p2), (3, .int p3)] := hl
  obtain ⟨hx, hb, hml, hown, hts, hrt, hlk, hKx⟩ := id C
  unfold f_Tide_isCourseWith at h
  refine lv_iconst (v := 0) hx hb d_Tide_isCourseWith_0 (by decide) ?_
  refine lv_istore (lv' := [(4, .int (0 : Int32)), (0, .ref (ad E 0)), (1, .ref (ad E k1)), (2, .int p2), (3, .int p3)]) hx hb d_Tide_isCourseWith_1 hl (by decide) rfl (fun ls hl => ?_)
  exact k_Tide_isCourseWith_b3 C _ _ _ hk1 FU _ _ _ _ h hS (lv_sub hl [1, 2, 3, 4, 0] rfl)
def I_Tide_cellsThatFit_b14 (p : Program) (l : Launch) (e : Env) (s : State) (m : MethodId) (args : Array Value) (below : List Frame) (meth : Method) (c : Code) (E : En) (r : Int32) (Y : Mem) (x1 : Nat) (x2 : Int32) (n : Nat) (tg : (Int32 × Mem)) : Prop := ∀ (x4 : Int32) (x5 : Int32) (X : Mem) (H : Heap) (locs : List Loc) (ls : Array Slot), it (fun a => f_Tide_cellsThatFit_b14 x1 x2 a.1 a.2.1 a.2.2) n (x4, x5, X) = some tg → Hs E s.heap X H locs → lv_has ls 7 [(0, .ref (ad E 0)), (1, .ref (ad E x1)), (2, .int x2), (4, .int x4), (5, .int x5)] → W p l e ({ frames := 7, cells := 0, slots := 0, locals := 159 } : Room) s m args below meth c H locs 0 0 (MQ below (PostI E r Y) args s 0 0 (Ad E)) (F0 m 14 ls [])
set_option maxHeartbeats 4000000 in
set_option maxRecDepth 100000 in
theorem k_Tide_cellsThatFit_j96 {p : Program} {l : Launch} {e : Env} {s : State} {m : MethodId} {args : Array Value} {below : List Frame} {meth : Method} {c : Code} {E : En} {r : Int32} {Y : Mem} (C : Cx p s m args meth c c_Tide_cellsThatFit 7 "TideLoans" (some .int) E) {x1 : Nat} {x2 : Int32} {x4 : Int32} {x5 : Int32} {X : Mem} {tg : ((Int32 × Mem) ⊕ (Int32 × Int32 × Mem))} (hx1 : kd x1 = 4) {n14 : Nat} (hc14 : fin (fun a => f_Tide_cellsThatFit_b14 x1 x2 a.1 a.2.1 a.2.2) n14 (r, Y) tg) (ih14 : I_Tide_cellsThatFit_b14 p l e s m args below meth c E r Y x1 x2 n14 (r, Y)) (h : f_Tide_cellsThatFit_j96 x1 x2 x4 x5 X = some tg) {H : Heap} {locs : List Loc} (hS : Hs E s.heap X H locs) {ls : Array Slot} (hl : lv_has ls 7 [(0, .ref (ad E 0)), (1, .ref (ad E x1)), (2, .int x2), (4, .int x4), (5, .int x5)]) : W p l e ({ frames := 7, cells := 0, slots := 0, locals := 159 } : Room) s m args below meth c H locs 0 0 (MQ below (PostI E r Y) args s 0 0 (Ad E)) (F0 m 96 ls []) := by
  obtain ⟨hx, hb, hml, hown, hts, hrt, hlk, hKx⟩ := id C
  unfold f_Tide_cellsThatFit_j96 at h
  refine r_iinc C (w := 1) (lv' := fun z => [(5, .int z), (0, .ref (ad E 0)), (1, .ref (ad E x1)), (2, .int x2), (4, .int x4)]) h d_Tide_cellsThatFit_96 hl (k := 4) rfl (by decide) (by decide) (fun _ => rfl) (fun v1 ls h hl => ?_)
  refine lv_goto (tgt := 14) hx hb d_Tide_cellsThatFit_99 (by decide) ?_
  exact ih14 _ _ _ _ _ _ (lp_next h hc14) hS (lv_sub hl [1, 2, 3, 4, 0] rfl)
set_option maxHeartbeats 4000000 in
set_option maxRecDepth 100000 in
theorem k_Tide_cellsThatFit_j74 {p : Program} {l : Launch} {e : Env} {s : State} {m : MethodId} {args : Array Value} {below : List Frame} {meth : Method} {c : Code} {E : En} {r : Int32} {Y : Mem} (C : Cx p s m args meth c c_Tide_cellsThatFit 7 "TideLoans" (some .int) E) {x1 : Nat} {x2 : Int32} {x4 : Int32} {x5 : Int32} {q0 : Int32} {X : Mem} {tg : ((Int32 × Mem) ⊕ (Int32 × Int32 × Mem))} (hx1 : kd x1 = 4) {n14 : Nat} (hc14 : fin (fun a => f_Tide_cellsThatFit_b14 x1 x2 a.1 a.2.1 a.2.2) n14 (r, Y) tg) (ih14 : I_Tide_cellsThatFit_b14 p l e s m args below meth c E r Y x1 x2 n14 (r, Y)) (h : f_Tide_cellsThatFit_j74 x1 x2 x4 x5 q0 X = some tg) {H : Heap} {locs : List Loc} (hS : Hs E s.heap X H locs) {ls : Array Slot} (hl : lv_has ls 7 [(0, .ref (ad E 0)), (1, .ref (ad E x1)), (2, .int x2), (4, .int x4), (5, .int x5)]) : W p l e ({ frames := 7, cells := 0, slots := 0, locals := 159 } : Room) s m args below meth c H locs 0 0 (MQ below (PostI E r Y) args s 0 0 (Ad E)) (F0 m 74 ls [.int q0]) := by
  obtain ⟨hx, hb, hml, hown, hts, hrt, hlk, hKx⟩ := id C
  unfold f_Tide_cellsThatFit_j74 at h
  refine lv_istore (lv' := [(6, .int q0), (0, .ref (ad E 0)), (1, .ref (ad E x1)), (2, .int x2), (4, .int x4), (5, .int x5)]) hx hb d_Tide_cellsThatFit_74 hl (by decide) rfl (fun ls hl => ?_)
  refine lv_aload_n hx hb d_Tide_cellsThatFit_76 rfl (lv_at hl 1 rfl) ?_
  refine lv_aload_n hx hb d_Tide_cellsThatFit_77 rfl (lv_at hl 2 rfl) ?_
  refine lv_aload_n hx hb d_Tide_cellsThatFit_78 rfl (lv_at hl 1 rfl) ?_
  refine r_get C hS (by decide) cel_Tide (rfl : cls[5]? = some (R_Tide, T_Tide, 12)) in_Tide 10 (by decide) tw_246 rfl d_Tide_cellsThatFit_79 ?_
  refine r_getI C hS (by decide) (cel_Way (rfl : kd 51 = 3)) (rfl : cls[4]? = some (R_Way, T_Way, 5)) in_Way 1 (by decide) tw_200 rfl h d_Tide_cellsThatFit_82 (fun v1 h => ?_)
  refine lv_iload hx hb d_Tide_cellsThatFit_85 (lv_at hl 0 rfl) ?_
  obtain ⟨v2, hr3, h⟩ := bd_el h
  refine c_I hS (c_runV (As := [.ref (ad E x1), .int v1, .int q0]) (rest := []) C hS (by decide) cel_Tide (rfl : cls[5]? = some (R_Tide, T_Tide, 12)) (k_Tide_isCourseWith (l := l) (E := E) (X := X) hx1 hr3) cw_Tide_isCourseWith ini_Tide_isCourseWith ins_Tide_isCourseWith sel_Tide_isCourseWith tw_760 hd_Tide_isCourseWith rfl ⟨⟨rfl, rfl⟩, (Nat.le_of_ble_eq_true rfl), (Nat.le_of_ble_eq_true rfl)⟩ ⟨(Nat.le_of_ble_eq_true rfl), (Nat.le_of_ble_eq_true rfl)⟩ hl.1 rfl (Nat.le_of_ble_eq_true rfl) d_Tide_cellsThatFit_87) (fun H locs hS => ?_)
  refine r_if_eq (tgt := 96) C h d_Tide_cellsThatFit_90 (by decide) (fun h => ?_) (fun h => ?_)
  · skip
    exact k_Tide_cellsThatFit_j96 C hx1 hc14 ih14 h hS (lv_sub hl [1, 2, 3, 4, 5] rfl)
  · skip
    refine r_iinc C (w := 1) (lv' := fun z => [(4, .int z), (6, .int q0), (0, .ref (ad E 0)), (1, .ref (ad E x1)), (2, .int x2), (5, .int x5)]) h d_Tide_cellsThatFit_93 hl (k := 4) rfl (by decide) (by decide) (fun _ => rfl) (fun v4 ls h hl => ?_)
    exact k_Tide_cellsThatFit_j96 C hx1 hc14 ih14 h hS (lv_sub hl [2, 3, 4, 0, 5] rfl)
set_option maxHeartbeats 4000000 in
set_option maxRecDepth 100000 in
theorem k_Tide_cellsThatFit_b14 {p : Program} {l : Launch} {e : Env} {s : State} {m : MethodId} {args : Array Value} {below : List Frame} {meth : Method} {c : Code} {E : En} {r : Int32} {Y : Mem} (C : Cx p s m args meth c c_Tide_cellsThatFit 7 "TideLoans" (some .int) E) (x1 : Nat) (x2 : Int32) (hx1 : kd x1 = 4) : ∀ n, I_Tide_cellsThatFit_b14 p l e s m args below meth c E r Y x1 x2 n (r, Y) := by
  obtain ⟨hx, hb, hml, hown, hts, hrt, hlk, hKx⟩ := id C
  intro n
  induction n with
  | zero => intro x4 x5 X H locs ls h; exact it_0 h
  | succ n ih =>
    intro x4 x5 X H locs ls h hS hl
    obtain ⟨cc14, h, hc14⟩ := it_el h
    replace h : f_Tide_cellsThatFit_b14 x1 x2 x4 x5 X = some cc14 := h
    unfold f_Tide_cellsThatFit_b14 at h
    refine lv_iload hx hb d_Tide_cellsThatFit_14 (lv_at hl 4 rfl) ?_
    refine lv_bipush (v := 16) hx hb d_Tide_cellsThatFit_16 (by decide) ?_
    refine r_icmp_ge (tgt := 102) C h d_Tide_cellsThatFit_18 (by decide) (fun h => ?_) (fun h => ?_)
    · skip
      refine lv_iload hx hb d_Tide_cellsThatFit_102 (lv_at hl 3 rfl) ?_
      replace h := lp_ret h hc14
      exact r_iret C hS rfl h d_Tide_cellsThatFit_104
    · skip
      refine lv_aload_n hx hb d_Tide_cellsThatFit_21 rfl (lv_at hl 0 rfl) ?_
      refine r_get C hS (by decide) cel_Tide (rfl : cls[5]? = some (R_Tide, T_Tide, 12)) in_Tide 9 (by decide) tw_245 rfl d_Tide_cellsThatFit_22 ?_
      refine lv_iload hx hb d_Tide_cellsThatFit_25 (lv_at hl 4 rfl) ?_
      obtain ⟨X2, hr1, h⟩ := bd_el h
      refine c_V hS (c_runV (As := [.int x5]) (rest := []) C hS (by decide) (cel_Thing (rfl : kd 50 = 2)) (rfl : cls[3]? = some (R_Thing, T_Thing, 6)) (k_Thing_layAt (l := l) (E := E) (X := X) rfl hr1) cw_Thing_layAt ini_Thing_layAt ins_Thing_layAt sel_Thing_layAt tw_395 hd_Thing_layAt rfl ⟨⟨rfl, rfl⟩, (Nat.le_of_ble_eq_true rfl), (Nat.le_of_ble_eq_true rfl)⟩ ⟨(Nat.le_of_ble_eq_true rfl), (Nat.le_of_ble_eq_true rfl)⟩ hl.1 rfl (Nat.le_of_ble_eq_true rfl) d_Tide_cellsThatFit_27) (fun H locs hS => ?_)
      refine lv_aload_n hx hb d_Tide_cellsThatFit_30 rfl (lv_at hl 0 rfl) ?_
      refine lv_iconst (v := 0) hx hb d_Tide_cellsThatFit_31 (by decide) ?_
      refine lv_aload_n hx hb d_Tide_cellsThatFit_32 rfl (lv_at hl 1 rfl) ?_
      refine r_getI C hS (kd_lt hx1 (by decide)) (cel_Sheet hx1) (rfl : cls[0]? = some (R_Sheet, T_Sheet, 3)) in_Sheet 2 (by decide) tw_227 rfl h d_Tide_cellsThatFit_33 (fun v3 h => ?_)
      refine lv_iconst (v := 1) hx hb d_Tide_cellsThatFit_36 (by decide) ?_
      refine lv_isub hx hb d_Tide_cellsThatFit_37 ?_
      obtain ⟨X5, hr4, h⟩ := bd_el h
      refine c_V hS (c_runV (As := [.int (0 : Int32), .int (v3 - (1 : Int32))]) (rest := []) C hS (by decide) cel_Tide (rfl : cls[5]? = some (R_Tide, T_Tide, 12)) (k_Tide_followTrial (l := l) (E := E) (X := X2) hr4) cw_Tide_followTrial ini_Tide_followTrial ins_Tide_followTrial sel_Tide_followTrial tw_517 hd_Tide_followTrial rfl ⟨⟨rfl, rfl⟩, (Nat.le_of_ble_eq_true rfl), (Nat.le_of_ble_eq_true rfl)⟩ ⟨(Nat.le_of_ble_eq_true rfl), (Nat.le_of_ble_eq_true rfl)⟩ hl.1 rfl (Nat.le_of_ble_eq_true rfl) d_Tide_cellsThatFit_38) (fun H locs hS => ?_)
      refine lv_aload_n hx hb d_Tide_cellsThatFit_41 rfl (lv_at hl 0 rfl) ?_
      refine r_get C hS (by decide) cel_Tide (rfl : cls[5]? = some (R_Tide, T_Tide, 12)) in_Tide 9 (by decide) tw_245 rfl d_Tide_cellsThatFit_42 ?_
      refine r_getI C hS (by decide) (cel_Thing (rfl : kd 50 = 2)) (rfl : cls[3]? = some (R_Thing, T_Thing, 6)) in_Thing 1 (by decide) tw_103 rfl h d_Tide_cellsThatFit_45 (fun v6 h => ?_)
      refine lv_iload_n hx hb d_Tide_cellsThatFit_48 rfl (lv_at hl 2 rfl) ?_
      refine r_icmp_ne (tgt := 73) C h d_Tide_cellsThatFit_49 (by decide) (fun h => ?_) (fun h => ?_)
      · skip
        refine lv_iconst (v := 0) hx hb d_Tide_cellsThatFit_73 (by decide) ?_
        exact k_Tide_cellsThatFit_j74 C hx1 hc14 ih h hS (lv_sub hl [0, 1, 2, 3, 4] rfl)
      · skip
        refine lv_aload_n hx hb d_Tide_cellsThatFit_52 rfl (lv_at hl 0 rfl) ?_
        refine r_get C hS (by decide) cel_Tide (rfl : cls[5]? = some (R_Tide, T_Tide, 12)) in_Tide 10 (by decide) tw_246 rfl d_Tide_cellsThatFit_53 ?_
        refine lv_aload_n hx hb d_Tide_cellsThatFit_56 rfl (lv_at hl 0 rfl) ?_
        refine r_get C hS (by decide) cel_Tide (rfl : cls[5]? = some (R_Tide, T_Tide, 12)) in_Tide 9 (by decide) tw_245 rfl d_Tide_cellsThatFit_57 ?_
        refine lv_aload_n hx hb d_Tide_cellsThatFit_60 rfl (lv_at hl 0 rfl) ?_
        refine r_get C hS (by decide) cel_Tide (rfl : cls[5]? = some (R_Tide, T_Tide, 12)) in_Tide 1 (by decide) tw_237 rfl d_Tide_cellsThatFit_61 ?_
        refine r_getI C hS (by decide) (cel_Shore (rfl : kd 2 = 1)) (rfl : cls[1]? = some (R_Shore, T_Shore, 6)) in_Shore 5 (by decide) tw_142 rfl h d_Tide_cellsThatFit_64 (fun v7 h => ?_)
        obtain ⟨v8, hr9, h⟩ := bd_el h
        refine c_I hS (c_runV (As := [.ref (ad E 50), .int v7]) (rest := []) C hS (by decide) (cel_Way (rfl : kd 51 = 3)) (rfl : cls[4]? = some (R_Way, T_Way, 5)) (k_Way_brings (l := l) (E := E) (X := X5) rfl rfl hr9) cw_Way_brings ini_Way_brings ins_Way_brings sel_Way_brings tw_448 hd_Way_brings rfl ⟨⟨rfl, rfl⟩, (Nat.le_of_ble_eq_true rfl), (Nat.le_of_ble_eq_true rfl)⟩ ⟨(Nat.le_of_ble_eq_true rfl), (Nat.le_of_ble_eq_true rfl)⟩ hl.1 rfl (Nat.le_of_ble_eq_true rfl) d_Tide_cellsThatFit_67) (fun H locs hS => ?_)
        refine lv_goto (tgt := 74) hx hb d_Tide_cellsThatFit_70 (by decide) ?_
        exact k_Tide_cellsThatFit_j74 C hx1 hc14 ih h hS (lv_sub hl [0, 1, 2, 3, 4] rfl)
set_option maxHeartbeats 4000000 in
set_option maxRecDepth 100000 in
theorem k_Tide_cellsThatFit {l : Launch} {E : En} {k1 : Nat} {p2 : Int32} {p3 : Int32} {X : Mem} {r : Int32} {Y : Mem} (hk1 : kd k1 = 4) (h : f_Tide_cellsThatFit k1 p2 p3 X = some (r, Y)) : Met l y_Tide_cellsThatFit (Cond.code y_Tide_cellsThatFit c_Tide_cellsThatFit 7 (some .int) :: tb) ({ frames := 7, cells := 0, slots := 0, locals := 159 } : Room) (PreC E [.ref (ad E 0), .ref (ad E k1), .int p2, .int p3] X) (PostI E r Y) 0 0 (Ad E) := by
  refine met_of (by decide) (Nat.le_of_ble_eq_true rfl) (fun p e s m below meth c C hS ls hl => ?_)
  replace C : Cx p s m ([.ref (ad E 0), .ref (ad E k1), .int p2, .int p3] : List Value).toArray meth c c_Tide_cellsThatFit 7 "TideLoans" (some .int) E := C
  replace hl : lv_has ls 7 [(0, .ref (ad E 0)), (1, .ref (ad E k1)), (2, .int p2), (3, .int p3)] := hl
  obtain ⟨hx, hb, hml, hown, hts, hrt, hlk, hKx⟩ := id C
  unfold f_Tide_cellsThatFit at h
  refine lv_iconst (v := 0) hx hb d_Tide_cellsThatFit_0 (by decide) ?_
  refine lv_istore (lv' := [(4, .int (0 : Int32)), (0, .ref (ad E 0)), (1, .ref (ad E k1)), (2, .int p2), (3, .int p3)]) hx hb d_Tide_cellsThatFit_1 hl (by decide) rfl (fun ls hl => ?_)
  refine lv_aload_n hx hb d_Tide_cellsThatFit_3 rfl (lv_at hl 1 rfl) ?_
  refine r_get C hS (by decide) cel_Tide (rfl : cls[5]? = some (R_Tide, T_Tide, 12)) in_Tide 9 (by decide) tw_245 rfl d_Tide_cellsThatFit_4 ?_
  refine lv_iload_n hx hb d_Tide_cellsThatFit_7 rfl (lv_at hl 4 rfl) ?_
  refine r_putI C hS (by decide) (cel_Thing (rfl : kd 50 = 2)) (rfl : cls[3]? = some (R_Thing, T_Thing, 6)) in_Thing ty_Thing tyok_Thing nm_Thing 0 (by decide) tw_101 rfl rfl rfl (Nat.le_of_ble_eq_true rfl) (set_Thing_0 (rfl : kd 50 = 2)) rfl h d_Tide_cellsThatFit_8 (fun X1 H locs hS h => ?_)
  refine lv_iconst (v := 0) hx hb d_Tide_cellsThatFit_11 (by decide) ?_
  refine lv_istore (lv' := [(5, .int (0 : Int32)), (4, .int (0 : Int32)), (0, .ref (ad E 0)), (1, .ref (ad E k1)), (2, .int p2), (3, .int p3)]) hx hb d_Tide_cellsThatFit_12 hl (by decide) rfl (fun ls hl => ?_)
  exact k_Tide_cellsThatFit_b14 C _ _ hk1 FU _ _ _ _ _ _ h hS (lv_sub hl [2, 3, 4, 1, 0] rfl)
def I_Tide_read_b121 (p : Program) (l : Launch) (e : Env) (s : State) (m : MethodId) (args : Array Value) (below : List Frame) (meth : Method) (c : Code) (E : En) (r : Int32) (Y : Mem) (x2 : Int32) (x4 : Nat) (n : Nat) (tg : (Int32 × Mem)) : Prop := ∀ (x5 : Int32) (x6 : Int32) (X : Mem) (H : Heap) (locs : List Loc) (ls : Array Slot), it (fun a => f_Tide_read_b121 x2 x4 a.1 a.2.1 a.2.2) n (x5, x6, X) = some tg → Hs E s.heap X H locs → lv_has ls 7 [(0, .ref (ad E 0)), (2, .int x2), (4, .ref (ad E x4)), (5, .int x5), (6, .int x6)] → W p l e ({ frames := 9, cells := 0, slots := 0, locals := 206 } : Room) s m args below meth c H locs 0 0 (MQ below (PostI E r Y) args s 0 0 (Ad E)) (F0 m 121 ls [])
set_option maxHeartbeats 4000000 in
set_option maxRecDepth 100000 in
theorem k_Tide_read_b121 {p : Program} {l : Launch} {e : Env} {s : State} {m : MethodId} {args : Array Value} {below : List Frame} {meth : Method} {c : Code} {E : En} {r : Int32} {Y : Mem} (C : Cx p s m args meth c c_Tide_read 7 "TideLoans" (some .int) E) (x2 : Int32) (x4 : Nat) (hx4 : kd x4 = 4) : ∀ n, I_Tide_read_b121 p l e s m args below meth c E r Y x2 x4 n (r, Y) := by
  obtain ⟨hx, hb, hml, hown, hts, hrt, hlk, hKx⟩ := id C
  intro n
  induction n with
  | zero => intro x5 x6 X H locs ls h; exact it_0 h
  | succ n ih =>
    intro x5 x6 X H locs ls h hS hl
    obtain ⟨cc121, h, hc121⟩ := it_el h
    replace h : f_Tide_read_b121 x2 x4 x5 x6 X = some cc121 := h
    unfold f_Tide_read_b121 at h
    refine lv_iload hx hb d_Tide_read_121 (lv_at hl 4 rfl) ?_
    refine lv_bipush (v := 6) hx hb d_Tide_read_123 (by decide) ?_
    refine r_icmp_ge (tgt := 148) C h d_Tide_read_125 (by decide) (fun h => ?_) (fun h => ?_)
    · skip
      refine lv_iload hx hb d_Tide_read_148 (lv_at hl 3 rfl) ?_
      replace h := lp_ret h hc121
      exact r_iret C hS rfl h d_Tide_read_150
    · skip
      refine lv_iload hx hb d_Tide_read_128 (lv_at hl 3 rfl) ?_
      refine lv_aload_n hx hb d_Tide_read_130 rfl (lv_at hl 0 rfl) ?_
      refine lv_aload hx hb d_Tide_read_131 (lv_at hl 2 rfl) ?_
      refine lv_iload_n hx hb d_Tide_read_133 rfl (lv_at hl 1 rfl) ?_
      refine lv_iload hx hb d_Tide_read_134 (lv_at hl 4 rfl) ?_
      obtain ⟨v1, X3, hr2, h⟩ := bd2_el h
      refine c_I hS (c_runV (As := [.ref (ad E x4), .int x2, .int x6]) (rest := [.int x5]) C hS (by decide) cel_Tide (rfl : cls[5]? = some (R_Tide, T_Tide, 12)) (k_Tide_cellsThatFit (l := l) (E := E) (X := X) hx4 hr2) cw_Tide_cellsThatFit ini_Tide_cellsThatFit ins_Tide_cellsThatFit sel_Tide_cellsThatFit tw_756 hd_Tide_cellsThatFit rfl ⟨⟨rfl, rfl⟩, (Nat.le_of_ble_eq_true rfl), (Nat.le_of_ble_eq_true rfl)⟩ ⟨(Nat.le_of_ble_eq_true rfl), (Nat.le_of_ble_eq_true rfl)⟩ hl.1 rfl (Nat.le_of_ble_eq_true rfl) d_Tide_read_136) (fun H locs hS => ?_)
      refine lv_iadd hx hb d_Tide_read_139 ?_
      refine r_top h (fun v4 h => ?_)
      refine lv_istore (lv' := [(5, .int v4), (0, .ref (ad E 0)), (2, .int x2), (4, .ref (ad E x4)), (6, .int x6)]) hx hb d_Tide_read_140 hl (by decide) rfl (fun ls hl => ?_)
      refine r_iinc C (w := 1) (lv' := fun z => [(6, .int z), (5, .int v4), (0, .ref (ad E 0)), (2, .int x2), (4, .ref (ad E x4))]) h d_Tide_read_142 hl (k := 4) rfl (by decide) (by decide) (fun _ => rfl) (fun v5 ls h hl => ?_)
      refine lv_goto (tgt := 121) hx hb d_Tide_read_145 (by decide) ?_
      exact ih _ _ _ _ _ _ (lp_next h hc121) hS (lv_sub hl [2, 3, 4, 1, 0] rfl)
set_option maxHeartbeats 4000000 in
set_option maxRecDepth 100000 in
theorem k_Tide_read_j58 {p : Program} {l : Launch} {e : Env} {s : State} {m : MethodId} {args : Array Value} {below : List Frame} {meth : Method} {c : Code} {E : En} {r : Int32} {Y : Mem} (C : Cx p s m args meth c c_Tide_read 7 "TideLoans" (some .int) E) {X : Mem} (h : f_Tide_read_j58 X = some (r, Y)) {H : Heap} {locs : List Loc} (hS : Hs E s.heap X H locs) {ls : Array Slot} (hl : lv_has ls 7 [(0, .ref (ad E 0))]) : W p l e ({ frames := 9, cells := 0, slots := 0, locals := 206 } : Room) s m args below meth c H locs 0 0 (MQ below (PostI E r Y) args s 0 0 (Ad E)) (F0 m 58 ls []) := by
  obtain ⟨hx, hb, hml, hown, hts, hrt, hlk, hKx⟩ := id C
  unfold f_Tide_read_j58 at h
  refine lv_aload_n hx hb d_Tide_read_58 rfl (lv_at hl 0 rfl) ?_
  refine lv_ldc (v := -1000000001) hx hb hown (hts _ tw_280) d_Tide_read_59 ?_
  obtain ⟨v1, X3, hr2, h⟩ := bd2_el h
  refine c_I hS (c_runV (As := [.int (-1000000001 : Int32)]) (rest := []) C hS (by decide) cel_Tide (rfl : cls[5]? = some (R_Tide, T_Tide, 12)) (k_Tide_finding (l := l) (E := E) (X := X) hr2) cw_Tide_finding ini_Tide_finding ins_Tide_finding sel_Tide_finding tw_281 hd_Tide_finding rfl ⟨⟨rfl, rfl⟩, (Nat.le_of_ble_eq_true rfl), (Nat.le_of_ble_eq_true rfl)⟩ ⟨(Nat.le_of_ble_eq_true rfl), (Nat.le_of_ble_eq_true rfl)⟩ hl.1 rfl (Nat.le_of_ble_eq_true rfl) d_Tide_read_61) (fun H locs hS => ?_)
  exact r_iret C hS rfl h d_Tide_read_64
set_option maxHeartbeats 4000000 in
set_option maxRecDepth 100000 in
theorem k_Tide_read {l : Launch} {E : En} {p1 : Int32} {p2 : Int32} {p3 : Int32} {X : Mem} {r : Int32} {Y : Mem} (h : f_Tide_read p1 p2 p3 X = some (r, Y)) : Met l y_Tide_read (Cond.code y_Tide_read c_Tide_read 7 (some .int) :: tb) ({ frames := 9, cells := 0, slots := 0, locals := 206 } : Room) (PreC E [.ref (ad E 0), .int p1, .int p2, .int p3] X) (PostI E r Y) 0 0 (Ad E) := by
  refine met_of (by decide) (Nat.le_of_ble_eq_true rfl) (fun p e s m below meth c C hS ls hl => ?_)
  replace C : Cx p s m ([.ref (ad E 0), .int p1, .int p2, .int p3] : List Value).toArray meth c c_Tide_read 7 "TideLoans" (some .int) E := C
  replace hl : lv_has ls 7 [(0, .ref (ad E 0)), (1, .int p1), (2, .int p2), (3, .int p3)] := hl
  obtain ⟨hx, hb, hml, hown, hts, hrt, hlk, hKx⟩ := id C
  unfold f_Tide_read at h
  refine lv_iload_n hx hb d_Tide_read_0 rfl (lv_at hl 1 rfl) ?_
  refine lv_iconst (v := 4) hx hb d_Tide_read_1 (by decide) ?_
  obtain ⟨v1, hr2, h⟩ := bd_el h
  refine c_I hS (c_runS (As := [.int p1, .int (4 : Int32)]) (rest := []) C hS (k_Tide_isBelow (l := l) (E := E) (X := X) hr2) cw_Tide_isBelow ini_Tide_isBelow sta_Tide_isBelow tw_277 hd_Tide_isBelow rfl ⟨⟨rfl, rfl⟩, (Nat.le_of_ble_eq_true rfl), (Nat.le_of_ble_eq_true rfl)⟩ ⟨(Nat.le_of_ble_eq_true rfl), (Nat.le_of_ble_eq_true rfl)⟩ hl.1 rfl (Nat.le_of_ble_eq_true rfl) d_Tide_read_2) (fun H locs hS => ?_)
  refine r_if_ne (tgt := 15) C h d_Tide_read_5 (by decide) (fun h => ?_) (fun h => ?_)
  · skip
    refine lv_aload_n hx hb d_Tide_read_15 rfl (lv_at hl 0 rfl) ?_
    refine r_get C hS (by decide) cel_Tide (rfl : cls[5]? = some (R_Tide, T_Tide, 12)) in_Tide 5 (by decide) tw_241 rfl d_Tide_read_16 ?_
    refine lv_iload_n hx hb d_Tide_read_19 rfl (lv_at hl 1 rfl) ?_
    refine r_ldS C hS h d_Tide_read_20 (fun j3 hj3 h => ?_)
    refine lv_astore (lv' := [(4, .ref (ad E (52 + 2 * j3))), (0, .ref (ad E 0)), (1, .int p1), (2, .int p2), (3, .int p3)]) hx hb d_Tide_read_21 hl (by decide) rfl (fun ls hl => ?_)
    refine lv_aload hx hb d_Tide_read_23 (lv_at hl 0 rfl) ?_
    obtain ⟨v4, hr5, h⟩ := bd_el h
    refine c_I hS (c_runV (As := []) (rest := []) C hS (kd_lt (kd_sheet hj3) (by decide)) (cel_Sheet (kd_sheet hj3)) (rfl : cls[0]? = some (R_Sheet, T_Sheet, 3)) (k_Sheet_isMissing (l := l) (E := E) (X := X) (kd_sheet hj3) hr5) cw_Sheet_isMissing ini_Sheet_isMissing ins_Sheet_isMissing sel_Sheet_isMissing tw_717 hd_Sheet_isMissing rfl ⟨⟨rfl, rfl⟩, (Nat.le_of_ble_eq_true rfl), (Nat.le_of_ble_eq_true rfl)⟩ ⟨(Nat.le_of_ble_eq_true rfl), (Nat.le_of_ble_eq_true rfl)⟩ hl.1 rfl (Nat.le_of_ble_eq_true rfl) d_Tide_read_25) (fun H locs hS => ?_)
    refine r_if_eq (tgt := 39) C h d_Tide_read_28 (by decide) (fun h => ?_) (fun h => ?_)
    · skip
      refine lv_iload_n hx hb d_Tide_read_39 rfl (lv_at hl 3 rfl) ?_
      refine lv_iconst (v := 4) hx hb d_Tide_read_40 (by decide) ?_
      obtain ⟨v6, hr7, h⟩ := bd_el h
      refine c_I hS (c_runS (As := [.int p2, .int (4 : Int32)]) (rest := []) C hS (k_Tide_isBelow (l := l) (E := E) (X := X) hr7) cw_Tide_isBelow ini_Tide_isBelow sta_Tide_isBelow tw_277 hd_Tide_isBelow rfl ⟨⟨rfl, rfl⟩, (Nat.le_of_ble_eq_true rfl), (Nat.le_of_ble_eq_true rfl)⟩ ⟨(Nat.le_of_ble_eq_true rfl), (Nat.le_of_ble_eq_true rfl)⟩ hl.1 rfl (Nat.le_of_ble_eq_true rfl) d_Tide_read_41) (fun H locs hS => ?_)
      refine r_if_eq (tgt := 58) C h d_Tide_read_44 (by decide) (fun h => ?_) (fun h => ?_)
      · skip
        exact k_Tide_read_j58 C h hS (lv_sub hl [1] rfl)
      · skip
        refine lv_aload_n hx hb d_Tide_read_47 rfl (lv_at hl 1 rfl) ?_
        refine r_get C hS (by decide) cel_Tide (rfl : cls[5]? = some (R_Tide, T_Tide, 12)) in_Tide 1 (by decide) tw_237 rfl d_Tide_read_48 ?_
        refine lv_iload_n hx hb d_Tide_read_51 rfl (lv_at hl 4 rfl) ?_
        obtain ⟨v8, hr9, h⟩ := bd_el h
        refine c_I hS (c_runV (As := [.int p3]) (rest := []) C hS (by decide) (cel_Shore (rfl : kd 2 = 1)) (rfl : cls[1]? = some (R_Shore, T_Shore, 6)) (k_Shore_has (l := l) (E := E) (X := X) rfl hr9) cw_Shore_has ini_Shore_has ins_Shore_has sel_Shore_has tw_345 hd_Shore_has rfl ⟨⟨rfl, rfl⟩, (Nat.le_of_ble_eq_true rfl), (Nat.le_of_ble_eq_true rfl)⟩ ⟨(Nat.le_of_ble_eq_true rfl), (Nat.le_of_ble_eq_true rfl)⟩ hl.1 rfl (Nat.le_of_ble_eq_true rfl) d_Tide_read_52) (fun H locs hS => ?_)
        refine r_if_ne (tgt := 65) C h d_Tide_read_55 (by decide) (fun h => ?_) (fun h => ?_)
        · skip
          refine lv_aload_n hx hb d_Tide_read_65 rfl (lv_at hl 1 rfl) ?_
          refine r_get C hS (by decide) cel_Tide (rfl : cls[5]? = some (R_Tide, T_Tide, 12)) in_Tide 1 (by decide) tw_237 rfl d_Tide_read_66 ?_
          refine r_get C hS (by decide) (cel_Shore (rfl : kd 2 = 1)) (rfl : cls[1]? = some (R_Shore, T_Shore, 6)) in_Shore 2 (by decide) tw_136 rfl d_Tide_read_69 ?_
          refine lv_iload_n hx hb d_Tide_read_72 rfl (lv_at hl 4 rfl) ?_
          refine r_ldT C hS (kd_things rfl) h d_Tide_read_73 (fun j10 hj10 h => ?_)
          refine r_getI C hS (kd_lt (kd_thing (kd_things rfl) hj10) (by decide)) (cel_Thing (kd_thing (kd_things rfl) hj10)) (rfl : cls[3]? = some (R_Thing, T_Thing, 6)) in_Thing 4 (by decide) tw_113 rfl h d_Tide_read_74 (fun v11 h => ?_)
          refine lv_iconst (v := 2) hx hb d_Tide_read_77 (by decide) ?_
          refine r_icmp_ne (tgt := 88) C h d_Tide_read_78 (by decide) (fun h => ?_) (fun h => ?_)
          · skip
            refine lv_aload_n hx hb d_Tide_read_88 rfl (lv_at hl 1 rfl) ?_
            refine lv_iload_n hx hb d_Tide_read_89 rfl (lv_at hl 3 rfl) ?_
            refine lv_iload_n hx hb d_Tide_read_90 rfl (lv_at hl 4 rfl) ?_
            refine lv_aload hx hb d_Tide_read_91 (lv_at hl 0 rfl) ?_
            refine r_getI C hS (kd_lt (kd_sheet hj3) (by decide)) (cel_Sheet (kd_sheet hj3)) (rfl : cls[0]? = some (R_Sheet, T_Sheet, 3)) in_Sheet 2 (by decide) tw_227 rfl h d_Tide_read_93 (fun v12 h => ?_)
            obtain ⟨X14, hr13, h⟩ := bd_el h
            refine c_V hS (c_runV (As := [.int p2, .int p3, .int v12]) (rest := []) C hS (by decide) cel_Tide (rfl : cls[5]? = some (R_Tide, T_Tide, 12)) (k_Tide_plotCourse (l := l) (E := E) (X := X) hr13) cw_Tide_plotCourse ini_Tide_plotCourse ins_Tide_plotCourse sel_Tide_plotCourse tw_744 hd_Tide_plotCourse rfl ⟨⟨rfl, rfl⟩, (Nat.le_of_ble_eq_true rfl), (Nat.le_of_ble_eq_true rfl)⟩ ⟨(Nat.le_of_ble_eq_true rfl), (Nat.le_of_ble_eq_true rfl)⟩ hl.1 rfl (Nat.le_of_ble_eq_true rfl) d_Tide_read_96) (fun H locs hS => ?_)
            refine lv_aload_n hx hb d_Tide_read_99 rfl (lv_at hl 1 rfl) ?_
            refine r_get C hS (by decide) cel_Tide (rfl : cls[5]? = some (R_Tide, T_Tide, 12)) in_Tide 9 (by decide) tw_245 rfl d_Tide_read_100 ?_
            refine lv_aload_n hx hb d_Tide_read_103 rfl (lv_at hl 1 rfl) ?_
            refine r_get C hS (by decide) cel_Tide (rfl : cls[5]? = some (R_Tide, T_Tide, 12)) in_Tide 1 (by decide) tw_237 rfl d_Tide_read_104 ?_
            refine r_get C hS (by decide) (cel_Shore (rfl : kd 2 = 1)) (rfl : cls[1]? = some (R_Shore, T_Shore, 6)) in_Shore 2 (by decide) tw_136 rfl d_Tide_read_107 ?_
            refine lv_iload_n hx hb d_Tide_read_110 rfl (lv_at hl 4 rfl) ?_
            refine r_ldT C hS (kd_things rfl) h d_Tide_read_111 (fun j15 hj15 h => ?_)
            obtain ⟨X17, hr16, h⟩ := bd_el h
            refine c_V hS (c_runV (As := [.ref (ad E ((2 + 3) + 1 + j15))]) (rest := []) C hS (by decide) (cel_Thing (rfl : kd 50 = 2)) (rfl : cls[3]? = some (R_Thing, T_Thing, 6)) (k_Thing_become (l := l) (E := E) (X := X14) rfl (kd_thing (kd_things rfl) hj15) hr16) cw_Thing_become ini_Thing_become ins_Thing_become sel_Thing_become tw_509 hd_Thing_become rfl ⟨⟨rfl, rfl⟩, (Nat.le_of_ble_eq_true rfl), (Nat.le_of_ble_eq_true rfl)⟩ ⟨(Nat.le_of_ble_eq_true rfl), (Nat.le_of_ble_eq_true rfl)⟩ hl.1 rfl (Nat.le_of_ble_eq_true rfl) d_Tide_read_112) (fun H locs hS => ?_)
            refine lv_iconst (v := 0) hx hb d_Tide_read_115 (by decide) ?_
            refine lv_istore (lv' := [(5, .int (0 : Int32)), (4, .ref (ad E (52 + 2 * j3))), (0, .ref (ad E 0)), (1, .int p1), (2, .int p2), (3, .int p3)]) hx hb d_Tide_read_116 hl (by decide) rfl (fun ls hl => ?_)
            refine lv_iconst (v := 0) hx hb d_Tide_read_118 (by decide) ?_
            refine lv_istore (lv' := [(6, .int (0 : Int32)), (5, .int (0 : Int32)), (4, .ref (ad E (52 + 2 * j3))), (0, .ref (ad E 0)), (1, .int p1), (2, .int p2), (3, .int p3)]) hx hb d_Tide_read_119 hl (by decide) rfl (fun ls hl => ?_)
            exact k_Tide_read_b121 C _ _ (kd_sheet hj3) FU _ _ _ _ _ _ h hS (lv_sub hl [3, 5, 2, 1, 0] rfl)
          · skip
            refine lv_aload_n hx hb d_Tide_read_81 rfl (lv_at hl 1 rfl) ?_
            refine lv_ldc (v := -1000000005) hx hb hown (hts _ tw_394) d_Tide_read_82 ?_
            obtain ⟨v18, X20, hr19, h⟩ := bd2_el h
            refine c_I hS (c_runV (As := [.int (-1000000005 : Int32)]) (rest := []) C hS (by decide) cel_Tide (rfl : cls[5]? = some (R_Tide, T_Tide, 12)) (k_Tide_finding (l := l) (E := E) (X := X) hr19) cw_Tide_finding ini_Tide_finding ins_Tide_finding sel_Tide_finding tw_281 hd_Tide_finding rfl ⟨⟨rfl, rfl⟩, (Nat.le_of_ble_eq_true rfl), (Nat.le_of_ble_eq_true rfl)⟩ ⟨(Nat.le_of_ble_eq_true rfl), (Nat.le_of_ble_eq_true rfl)⟩ hl.1 rfl (Nat.le_of_ble_eq_true rfl) d_Tide_read_84) (fun H locs hS => ?_)
            exact r_iret C hS rfl h d_Tide_read_87
        · skip
          exact k_Tide_read_j58 C h hS (lv_sub hl [1] rfl)
    · skip
      refine lv_aload_n hx hb d_Tide_read_31 rfl (lv_at hl 1 rfl) ?_
      refine lv_ldcw (v := -1000000006) hx hb hown (hts _ tw_721) d_Tide_read_32 ?_
      obtain ⟨v21, X23, hr22, h⟩ := bd2_el h
      refine c_I hS (c_runV (As := [.int (-1000000006 : Int32)]) (rest := []) C hS (by decide) cel_Tide (rfl : cls[5]? = some (R_Tide, T_Tide, 12)) (k_Tide_finding (l := l) (E := E) (X := X) hr22) cw_Tide_finding ini_Tide_finding ins_Tide_finding sel_Tide_finding tw_281 hd_Tide_finding rfl ⟨⟨rfl, rfl⟩, (Nat.le_of_ble_eq_true rfl), (Nat.le_of_ble_eq_true rfl)⟩ ⟨(Nat.le_of_ble_eq_true rfl), (Nat.le_of_ble_eq_true rfl)⟩ hl.1 rfl (Nat.le_of_ble_eq_true rfl) d_Tide_read_35) (fun H locs hS => ?_)
      exact r_iret C hS rfl h d_Tide_read_38
  · skip
    refine lv_aload_n hx hb d_Tide_read_8 rfl (lv_at hl 0 rfl) ?_
    refine lv_ldc (v := -1000000001) hx hb hown (hts _ tw_280) d_Tide_read_9 ?_
    obtain ⟨v24, X26, hr25, h⟩ := bd2_el h
    refine c_I hS (c_runV (As := [.int (-1000000001 : Int32)]) (rest := []) C hS (by decide) cel_Tide (rfl : cls[5]? = some (R_Tide, T_Tide, 12)) (k_Tide_finding (l := l) (E := E) (X := X) hr25) cw_Tide_finding ini_Tide_finding ins_Tide_finding sel_Tide_finding tw_281 hd_Tide_finding rfl ⟨⟨rfl, rfl⟩, (Nat.le_of_ble_eq_true rfl), (Nat.le_of_ble_eq_true rfl)⟩ ⟨(Nat.le_of_ble_eq_true rfl), (Nat.le_of_ble_eq_true rfl)⟩ hl.1 rfl (Nat.le_of_ble_eq_true rfl) d_Tide_read_11) (fun H locs hS => ?_)
    exact r_iret C hS rfl h d_Tide_read_14
set_option maxHeartbeats 4000000 in
set_option maxRecDepth 100000 in
theorem k_Tide_image {l : Launch} {E : En} {X : Mem} {r : Int32} {Y : Mem} (h : f_Tide_image X = some (r, Y)) : Met l y_Tide_image (Cond.code y_Tide_image c_Tide_image 1 (some .int) :: tb) ({ frames := 2, cells := 0, slots := 0, locals := 82 } : Room) (PreC E [.ref (ad E 0)] X) (PostI E r Y) 0 0 (Ad E) := by
  refine met_of (by decide) (Nat.le_of_ble_eq_true rfl) (fun p e s m below meth c C hS ls hl => ?_)
  replace C : Cx p s m ([.ref (ad E 0)] : List Value).toArray meth c c_Tide_image 1 "TideLoans" (some .int) E := C
  replace hl : lv_has ls 1 [(0, .ref (ad E 0))] := hl
  obtain ⟨hx, hb, hml, hown, hts, hrt, hlk, hKx⟩ := id C
  unfold f_Tide_image at h
  refine lv_aload_n hx hb d_Tide_image_0 rfl (lv_at hl 0 rfl) ?_
  refine r_get C hS (by decide) cel_Tide (rfl : cls[5]? = some (R_Tide, T_Tide, 12)) in_Tide 2 (by decide) tw_238 rfl d_Tide_image_1 ?_
  refine lv_aload_n hx hb d_Tide_image_4 rfl (lv_at hl 0 rfl) ?_
  refine r_get C hS (by decide) cel_Tide (rfl : cls[5]? = some (R_Tide, T_Tide, 12)) in_Tide 1 (by decide) tw_237 rfl d_Tide_image_5 ?_
  obtain ⟨X2, hr1, h⟩ := bd_el h
  refine c_V hS (c_runV (As := [.ref (ad E 2)]) (rest := []) C hS (by decide) (cel_Shore (rfl : kd 16 = 1)) (rfl : cls[1]? = some (R_Shore, T_Shore, 6)) (k_Shore_become (l := l) (E := E) (X := X) rfl rfl hr1) cw_Shore_become ini_Shore_become ins_Shore_become sel_Shore_become tw_577 hd_Shore_become rfl ⟨⟨rfl, rfl⟩, (Nat.le_of_ble_eq_true rfl), (Nat.le_of_ble_eq_true rfl)⟩ ⟨(Nat.le_of_ble_eq_true rfl), (Nat.le_of_ble_eq_true rfl)⟩ hl.1 rfl (Nat.le_of_ble_eq_true rfl) d_Tide_image_8) (fun H locs hS => ?_)
  refine lv_aload_n hx hb d_Tide_image_11 rfl (lv_at hl 0 rfl) ?_
  refine lv_iconst (v := 1) hx hb d_Tide_image_12 (by decide) ?_
  refine r_putI C hS (by decide) cel_Tide (rfl : cls[5]? = some (R_Tide, T_Tide, 12)) in_Tide ty_Tide tyok_Tide nm_Tide 11 (by decide) tw_247 rfl rfl rfl (Nat.le_of_ble_eq_true rfl) set_Tide_11 rfl h d_Tide_image_13 (fun X3 H locs hS h => ?_)
  refine lv_iconst (v := 1) hx hb d_Tide_image_16 (by decide) ?_
  exact r_iret C hS rfl h d_Tide_image_17
set_option maxHeartbeats 4000000 in
set_option maxRecDepth 100000 in
theorem k_Tide_undo {l : Launch} {E : En} {X : Mem} {r : Int32} {Y : Mem} (h : f_Tide_undo X = some (r, Y)) : Met l y_Tide_undo (Cond.code y_Tide_undo c_Tide_undo 1 (some .int) :: tb) ({ frames := 2, cells := 0, slots := 0, locals := 82 } : Room) (PreC E [.ref (ad E 0)] X) (PostI E r Y) 0 0 (Ad E) := by
  refine met_of (by decide) (Nat.le_of_ble_eq_true rfl) (fun p e s m below meth c C hS ls hl => ?_)
  replace C : Cx p s m ([.ref (ad E 0)] : List Value).toArray meth c c_Tide_undo 1 "TideLoans" (some .int) E := C
  replace hl : lv_has ls 1 [(0, .ref (ad E 0))] := hl
  obtain ⟨hx, hb, hml, hown, hts, hrt, hlk, hKx⟩ := id C
  unfold f_Tide_undo at h
  refine lv_aload_n hx hb d_Tide_undo_0 rfl (lv_at hl 0 rfl) ?_
  refine r_getI C hS (by decide) cel_Tide (rfl : cls[5]? = some (R_Tide, T_Tide, 12)) in_Tide 11 (by decide) tw_247 rfl h d_Tide_undo_1 (fun v1 h => ?_)
  refine r_if_ne (tgt := 14) C h d_Tide_undo_4 (by decide) (fun h => ?_) (fun h => ?_)
  · skip
    refine lv_aload_n hx hb d_Tide_undo_14 rfl (lv_at hl 0 rfl) ?_
    refine r_get C hS (by decide) cel_Tide (rfl : cls[5]? = some (R_Tide, T_Tide, 12)) in_Tide 1 (by decide) tw_237 rfl d_Tide_undo_15 ?_
    refine lv_aload_n hx hb d_Tide_undo_18 rfl (lv_at hl 0 rfl) ?_
    refine r_get C hS (by decide) cel_Tide (rfl : cls[5]? = some (R_Tide, T_Tide, 12)) in_Tide 2 (by decide) tw_238 rfl d_Tide_undo_19 ?_
    obtain ⟨X3, hr2, h⟩ := bd_el h
    refine c_V hS (c_runV (As := [.ref (ad E 16)]) (rest := []) C hS (by decide) (cel_Shore (rfl : kd 2 = 1)) (rfl : cls[1]? = some (R_Shore, T_Shore, 6)) (k_Shore_become (l := l) (E := E) (X := X) rfl rfl hr2) cw_Shore_become ini_Shore_become ins_Shore_become sel_Shore_become tw_577 hd_Shore_become rfl ⟨⟨rfl, rfl⟩, (Nat.le_of_ble_eq_true rfl), (Nat.le_of_ble_eq_true rfl)⟩ ⟨(Nat.le_of_ble_eq_true rfl), (Nat.le_of_ble_eq_true rfl)⟩ hl.1 rfl (Nat.le_of_ble_eq_true rfl) d_Tide_undo_22) (fun H locs hS => ?_)
    refine lv_aload_n hx hb d_Tide_undo_25 rfl (lv_at hl 0 rfl) ?_
    refine r_get C hS (by decide) cel_Tide (rfl : cls[5]? = some (R_Tide, T_Tide, 12)) in_Tide 1 (by decide) tw_237 rfl d_Tide_undo_26 ?_
    refine r_getI C hS (by decide) (cel_Shore (rfl : kd 2 = 1)) (rfl : cls[1]? = some (R_Shore, T_Shore, 6)) in_Shore 3 (by decide) tw_138 rfl h d_Tide_undo_29 (fun v4 h => ?_)
    exact r_iret C hS rfl h d_Tide_undo_32
  · skip
    refine lv_aload_n hx hb d_Tide_undo_7 rfl (lv_at hl 0 rfl) ?_
    refine lv_ldc (v := -1000000004) hx hb hown (hts _ tw_491) d_Tide_undo_8 ?_
    obtain ⟨v5, X7, hr6, h⟩ := bd2_el h
    refine c_I hS (c_runV (As := [.int (-1000000004 : Int32)]) (rest := []) C hS (by decide) cel_Tide (rfl : cls[5]? = some (R_Tide, T_Tide, 12)) (k_Tide_finding (l := l) (E := E) (X := X) hr6) cw_Tide_finding ini_Tide_finding ins_Tide_finding sel_Tide_finding tw_281 hd_Tide_finding rfl ⟨⟨rfl, rfl⟩, (Nat.le_of_ble_eq_true rfl), (Nat.le_of_ble_eq_true rfl)⟩ ⟨(Nat.le_of_ble_eq_true rfl), (Nat.le_of_ble_eq_true rfl)⟩ hl.1 rfl (Nat.le_of_ble_eq_true rfl) d_Tide_undo_10) (fun H locs hS => ?_)
    exact r_iret C hS rfl h d_Tide_undo_13
set_option maxHeartbeats 4000000 in
set_option maxRecDepth 100000 in
theorem k_Tide_tear_j12 {p : Program} {l : Launch} {e : Env} {s : State} {m : MethodId} {args : Array Value} {below : List Frame} {meth : Method} {c : Code} {E : En} {r : Int32} {Y : Mem} (C : Cx p s m args meth c c_Tide_tear 2 "TideLoans" (some .int) E) {q0 : Int32} {X : Mem} (h : f_Tide_tear_j12 q0 X = some (r, Y)) {H : Heap} {locs : List Loc} (hS : Hs E s.heap X H locs) {ls : Array Slot} (hl : lv_has ls 2 [(0, .ref (ad E 0))]) : W p l e ({ frames := 0, cells := 0, slots := 0, locals := 0 } : Room) s m args below meth c H locs 0 0 (MQ below (PostI E r Y) args s 0 0 (Ad E)) (F0 m 12 ls [.int q0]) := by
  obtain ⟨hx, hb, hml, hown, hts, hrt, hlk, hKx⟩ := id C
  unfold f_Tide_tear_j12 at h
  refine lv_istore_n (lv' := [(1, .int q0), (0, .ref (ad E 0))]) hx hb d_Tide_tear_12 rfl hl (by decide) rfl (fun ls hl => ?_)
  refine lv_aload_n hx hb d_Tide_tear_13 rfl (lv_at hl 1 rfl) ?_
  refine lv_iconst (v := 0) hx hb d_Tide_tear_14 (by decide) ?_
  refine r_putI C hS (by decide) cel_Tide (rfl : cls[5]? = some (R_Tide, T_Tide, 12)) in_Tide ty_Tide tyok_Tide nm_Tide 11 (by decide) tw_247 rfl rfl rfl (Nat.le_of_ble_eq_true rfl) set_Tide_11 rfl h d_Tide_tear_15 (fun X1 H locs hS h => ?_)
  refine lv_iload_n hx hb d_Tide_tear_18 rfl (lv_at hl 0 rfl) ?_
  exact r_iret C hS rfl h d_Tide_tear_19
set_option maxHeartbeats 4000000 in
set_option maxRecDepth 100000 in
theorem k_Tide_tear {l : Launch} {E : En} {X : Mem} {r : Int32} {Y : Mem} (h : f_Tide_tear X = some (r, Y)) : Met l y_Tide_tear (Cond.code y_Tide_tear c_Tide_tear 2 (some .int) :: tb) ({ frames := 0, cells := 0, slots := 0, locals := 0 } : Room) (PreC E [.ref (ad E 0)] X) (PostI E r Y) 0 0 (Ad E) := by
  refine met_of (by decide) (Nat.le_of_ble_eq_true rfl) (fun p e s m below meth c C hS ls hl => ?_)
  replace C : Cx p s m ([.ref (ad E 0)] : List Value).toArray meth c c_Tide_tear 2 "TideLoans" (some .int) E := C
  replace hl : lv_has ls 2 [(0, .ref (ad E 0))] := hl
  obtain ⟨hx, hb, hml, hown, hts, hrt, hlk, hKx⟩ := id C
  unfold f_Tide_tear at h
  refine lv_aload_n hx hb d_Tide_tear_0 rfl (lv_at hl 0 rfl) ?_
  refine r_getI C hS (by decide) cel_Tide (rfl : cls[5]? = some (R_Tide, T_Tide, 12)) in_Tide 11 (by decide) tw_247 rfl h d_Tide_tear_1 (fun v1 h => ?_)
  refine r_if_eq (tgt := 11) C h d_Tide_tear_4 (by decide) (fun h => ?_) (fun h => ?_)
  · skip
    refine lv_iconst (v := 0) hx hb d_Tide_tear_11 (by decide) ?_
    exact k_Tide_tear_j12 C h hS (lv_sub hl [0] rfl)
  · skip
    refine lv_iconst (v := 1) hx hb d_Tide_tear_7 (by decide) ?_
    refine lv_goto (tgt := 12) hx hb d_Tide_tear_8 (by decide) ?_
    exact k_Tide_tear_j12 C h hS (lv_sub hl [0] rfl)
set_option maxHeartbeats 4000000 in
set_option maxRecDepth 100000 in
theorem k_Tide_count {l : Launch} {E : En} {p1 : Int32} {X : Mem} {r : Int32} {Y : Mem} (h : f_Tide_count p1 X = some (r, Y)) : Met l y_Tide_count (Cond.code y_Tide_count c_Tide_count 2 (some .int) :: tb) ({ frames := 2, cells := 0, slots := 0, locals := 43 } : Room) (PreC E [.ref (ad E 0), .int p1] X) (PostI E r Y) 0 0 (Ad E) := by
  refine met_of (by decide) (Nat.le_of_ble_eq_true rfl) (fun p e s m below meth c C hS ls hl => ?_)
  replace C : Cx p s m ([.ref (ad E 0), .int p1] : List Value).toArray meth c c_Tide_count 2 "TideLoans" (some .int) E := C
  replace hl : lv_has ls 2 [(0, .ref (ad E 0)), (1, .int p1)] := hl
  obtain ⟨hx, hb, hml, hown, hts, hrt, hlk, hKx⟩ := id C
  unfold f_Tide_count at h
  refine lv_iload_n hx hb d_Tide_count_0 rfl (lv_at hl 1 rfl) ?_
  refine sw_c (v := 0) (w := 0) (by decide) h (fun hv h => ?_) (fun hn0 h => ?_)
  · refine r_tabIn C hv d_Tide_count_1 (by decide) (by decide) rfl (tgt := 32) (by decide) ?_
    refine lv_aload_n hx hb d_Tide_count_32 rfl (lv_at hl 0 rfl) ?_
    refine r_get C hS (by decide) cel_Tide (rfl : cls[5]? = some (R_Tide, T_Tide, 12)) in_Tide 1 (by decide) tw_237 rfl d_Tide_count_33 ?_
    refine r_getI C hS (by decide) (cel_Shore (rfl : kd 2 = 1)) (rfl : cls[1]? = some (R_Shore, T_Shore, 6)) in_Shore 3 (by decide) tw_138 rfl h d_Tide_count_36 (fun v1 h => ?_)
    exact r_iret C hS rfl h d_Tide_count_39
  refine sw_c (v := 1) (w := 1) (by decide) h (fun hv h => ?_) (fun hn1 h => ?_)
  · refine r_tabIn C hv d_Tide_count_1 (by decide) (by decide) rfl (tgt := 40) (by decide) ?_
    refine lv_aload_n hx hb d_Tide_count_40 rfl (lv_at hl 0 rfl) ?_
    refine r_get C hS (by decide) cel_Tide (rfl : cls[5]? = some (R_Tide, T_Tide, 12)) in_Tide 4 (by decide) tw_240 rfl d_Tide_count_41 ?_
    refine r_getI C hS (by decide) cel_Tape (rfl : cls[2]? = some (R_Tape, T_Tape, 6)) in_Tape 1 (by decide) tw_164 rfl h d_Tide_count_44 (fun v2 h => ?_)
    exact r_iret C hS rfl h d_Tide_count_47
  refine sw_c (v := 2) (w := 2) (by decide) h (fun hv h => ?_) (fun hn2 h => ?_)
  · refine r_tabIn C hv d_Tide_count_1 (by decide) (by decide) rfl (tgt := 48) (by decide) ?_
    refine lv_aload_n hx hb d_Tide_count_48 rfl (lv_at hl 0 rfl) ?_
    refine r_get C hS (by decide) cel_Tide (rfl : cls[5]? = some (R_Tide, T_Tide, 12)) in_Tide 1 (by decide) tw_237 rfl d_Tide_count_49 ?_
    refine lv_iconst (v := 0) hx hb d_Tide_count_52 (by decide) ?_
    obtain ⟨v3, hr4, h⟩ := bd_el h
    refine c_I hS (c_runV (As := [.int (0 : Int32)]) (rest := []) C hS (by decide) (cel_Shore (rfl : kd 2 = 1)) (rfl : cls[1]? = some (R_Shore, T_Shore, 6)) (k_Shore_allIn (l := l) (E := E) (X := X) rfl hr4) cw_Shore_allIn ini_Shore_allIn ins_Shore_allIn sel_Shore_allIn tw_467 hd_Shore_allIn rfl ⟨⟨rfl, rfl⟩, (Nat.le_of_ble_eq_true rfl), (Nat.le_of_ble_eq_true rfl)⟩ ⟨(Nat.le_of_ble_eq_true rfl), (Nat.le_of_ble_eq_true rfl)⟩ hl.1 rfl (Nat.le_of_ble_eq_true rfl) d_Tide_count_53) (fun H locs hS => ?_)
    obtain ⟨v5, hr6, h⟩ := bd_el h
    refine c_I hS (c_runS (As := [.int v3]) (rest := []) C hS (k_Integer_bitCount (l := l) (E := E) (X := X) hr6) cw_Integer_bitCount ini_Integer_bitCount sta_Integer_bitCount tw_399 hd_Integer_bitCount rfl ⟨⟨rfl, rfl⟩, (Nat.le_of_ble_eq_true rfl), (Nat.le_of_ble_eq_true rfl)⟩ ⟨(Nat.le_of_ble_eq_true rfl), (Nat.le_of_ble_eq_true rfl)⟩ hl.1 rfl (Nat.le_of_ble_eq_true rfl) d_Tide_count_56) (fun H locs hS => ?_)
    exact r_iret C hS rfl h d_Tide_count_59
  refine sw_c (v := 3) (w := 3) (by decide) h (fun hv h => ?_) (fun hn3 h => ?_)
  · refine r_tabIn C hv d_Tide_count_1 (by decide) (by decide) rfl (tgt := 60) (by decide) ?_
    refine lv_aload_n hx hb d_Tide_count_60 rfl (lv_at hl 0 rfl) ?_
    refine r_get C hS (by decide) cel_Tide (rfl : cls[5]? = some (R_Tide, T_Tide, 12)) in_Tide 1 (by decide) tw_237 rfl d_Tide_count_61 ?_
    obtain ⟨v7, hr8, h⟩ := bd_el h
    refine c_I hS (c_runV (As := []) (rest := []) C hS (by decide) (cel_Shore (rfl : kd 2 = 1)) (rfl : cls[1]? = some (R_Shore, T_Shore, 6)) (k_Shore_allHeights (l := l) (E := E) (X := X) rfl hr8) cw_Shore_allHeights ini_Shore_allHeights ins_Shore_allHeights sel_Shore_allHeights tw_780 hd_Shore_allHeights rfl ⟨⟨rfl, rfl⟩, (Nat.le_of_ble_eq_true rfl), (Nat.le_of_ble_eq_true rfl)⟩ ⟨(Nat.le_of_ble_eq_true rfl), (Nat.le_of_ble_eq_true rfl)⟩ hl.1 rfl (Nat.le_of_ble_eq_true rfl) d_Tide_count_64) (fun H locs hS => ?_)
    exact r_iret C hS rfl h d_Tide_count_67
  refine lv_tableOut (tgt := 68) hx hb d_Tide_count_1 (out_e (k := 4) (out_s (k := 3) (k1 := 4) (out_s (k := 2) (k1 := 3) (out_s (k := 1) (k1 := 2) (out_s (k := 0) (k1 := 1) out_0 hn0 (by decide)) hn1 (by decide)) hn2 (by decide)) hn3 (by decide)) (by decide)) (by decide) ?_
  refine lv_aload_n hx hb d_Tide_count_68 rfl (lv_at hl 0 rfl) ?_
  refine lv_ldc (v := -1000000001) hx hb hown (hts _ tw_280) d_Tide_count_69 ?_
  obtain ⟨v9, X11, hr10, h⟩ := bd2_el h
  refine c_I hS (c_runV (As := [.int (-1000000001 : Int32)]) (rest := []) C hS (by decide) cel_Tide (rfl : cls[5]? = some (R_Tide, T_Tide, 12)) (k_Tide_finding (l := l) (E := E) (X := X) hr10) cw_Tide_finding ini_Tide_finding ins_Tide_finding sel_Tide_finding tw_281 hd_Tide_finding rfl ⟨⟨rfl, rfl⟩, (Nat.le_of_ble_eq_true rfl), (Nat.le_of_ble_eq_true rfl)⟩ ⟨(Nat.le_of_ble_eq_true rfl), (Nat.le_of_ble_eq_true rfl)⟩ hl.1 rfl (Nat.le_of_ble_eq_true rfl) d_Tide_count_71) (fun H locs hS => ?_)
  exact r_iret C hS rfl h d_Tide_count_74
def I_Tide_status_b32 (p : Program) (l : Launch) (e : Env) (s : State) (m : MethodId) (args : Array Value) (below : List Frame) (meth : Method) (c : Code) (E : En) (r : Int32) (Y : Mem) (X : Mem) (n : Nat) (tg : (Int32 × Mem)) : Prop := ∀ (x2 : Int32) (x3 : Int32) (H : Heap) (locs : List Loc) (ls : Array Slot), it (fun a => f_Tide_status_b32 X a.1 a.2) n (x2, x3) = some tg → Hs E s.heap X H locs → lv_has ls 4 [(0, .ref (ad E 0)), (2, .int x2), (3, .int x3)] → W p l e ({ frames := 2, cells := 0, slots := 0, locals := 43 } : Room) s m args below meth c H locs 0 0 (MQ below (PostI E r Y) args s 0 0 (Ad E)) (F0 m 32 ls [])
set_option maxHeartbeats 4000000 in
set_option maxRecDepth 100000 in
theorem k_Tide_status_b32 {p : Program} {l : Launch} {e : Env} {s : State} {m : MethodId} {args : Array Value} {below : List Frame} {meth : Method} {c : Code} {E : En} {r : Int32} {Y : Mem} (C : Cx p s m args meth c c_Tide_status 4 "TideLoans" (some .int) E) {X : Mem} : ∀ n, I_Tide_status_b32 p l e s m args below meth c E r Y X n (r, Y) := by
  obtain ⟨hx, hb, hml, hown, hts, hrt, hlk, hKx⟩ := id C
  intro n
  induction n with
  | zero => intro x2 x3 H locs ls h; exact it_0 h
  | succ n ih =>
    intro x2 x3 H locs ls h hS hl
    obtain ⟨cc32, h, hc32⟩ := it_el h
    replace h : f_Tide_status_b32 X x2 x3 = some cc32 := h
    unfold f_Tide_status_b32 at h
    refine lv_iload_n hx hb d_Tide_status_32 rfl (lv_at hl 2 rfl) ?_
    refine lv_bipush (v := 7) hx hb d_Tide_status_33 (by decide) ?_
    refine r_icmp_ge (tgt := 53) C h d_Tide_status_35 (by decide) (fun h => ?_) (fun h => ?_)
    · skip
      refine lv_iload_n hx hb d_Tide_status_53 rfl (lv_at hl 1 rfl) ?_
      replace h := lp_ret h hc32
      exact r_iret C hS rfl h d_Tide_status_54
    · skip
      refine lv_iload_n hx hb d_Tide_status_38 rfl (lv_at hl 1 rfl) ?_
      refine lv_aload_n hx hb d_Tide_status_39 rfl (lv_at hl 0 rfl) ?_
      refine r_get C hS (by decide) cel_Tide (rfl : cls[5]? = some (R_Tide, T_Tide, 12)) in_Tide 0 (by decide) tw_236 rfl d_Tide_status_40 ?_
      refine lv_iload_n hx hb d_Tide_status_43 rfl (lv_at hl 2 rfl) ?_
      refine r_ldI C hS (n := 7) rfl (by decide) h d_Tide_status_44 (fun v1 h => ?_)
      refine lv_iadd hx hb d_Tide_status_45 ?_
      refine r_top h (fun v2 h => ?_)
      refine lv_istore_n (lv' := [(2, .int v2), (0, .ref (ad E 0)), (3, .int x3)]) hx hb d_Tide_status_46 rfl hl (by decide) rfl (fun ls hl => ?_)
      refine r_iinc C (w := 1) (lv' := fun z => [(3, .int z), (2, .int v2), (0, .ref (ad E 0))]) h d_Tide_status_47 hl (k := 2) rfl (by decide) (by decide) (fun _ => rfl) (fun v3 ls h hl => ?_)
      refine lv_goto (tgt := 32) hx hb d_Tide_status_50 (by decide) ?_
      exact ih _ _ _ _ _ (lp_next h hc32) hS (lv_sub hl [2, 1, 0] rfl)
set_option maxHeartbeats 4000000 in
set_option maxRecDepth 100000 in
theorem k_Tide_status {l : Launch} {E : En} {p1 : Int32} {X : Mem} {r : Int32} {Y : Mem} (h : f_Tide_status p1 X = some (r, Y)) : Met l y_Tide_status (Cond.code y_Tide_status c_Tide_status 4 (some .int) :: tb) ({ frames := 2, cells := 0, slots := 0, locals := 43 } : Room) (PreC E [.ref (ad E 0), .int p1] X) (PostI E r Y) 0 0 (Ad E) := by
  refine met_of (by decide) (Nat.le_of_ble_eq_true rfl) (fun p e s m below meth c C hS ls hl => ?_)
  replace C : Cx p s m ([.ref (ad E 0), .int p1] : List Value).toArray meth c c_Tide_status 4 "TideLoans" (some .int) E := C
  replace hl : lv_has ls 4 [(0, .ref (ad E 0)), (1, .int p1)] := hl
  obtain ⟨hx, hb, hml, hown, hts, hrt, hlk, hKx⟩ := id C
  unfold f_Tide_status at h
  refine lv_iload_n hx hb d_Tide_status_0 rfl (lv_at hl 1 rfl) ?_
  refine lv_bipush (v := 7) hx hb d_Tide_status_1 (by decide) ?_
  obtain ⟨v1, hr2, h⟩ := bd_el h
  refine c_I hS (c_runS (As := [.int p1, .int (7 : Int32)]) (rest := []) C hS (k_Tide_isBelow (l := l) (E := E) (X := X) hr2) cw_Tide_isBelow ini_Tide_isBelow sta_Tide_isBelow tw_277 hd_Tide_isBelow rfl ⟨⟨rfl, rfl⟩, (Nat.le_of_ble_eq_true rfl), (Nat.le_of_ble_eq_true rfl)⟩ ⟨(Nat.le_of_ble_eq_true rfl), (Nat.le_of_ble_eq_true rfl)⟩ hl.1 rfl (Nat.le_of_ble_eq_true rfl) d_Tide_status_3) (fun H locs hS => ?_)
  refine r_if_eq (tgt := 16) C h d_Tide_status_6 (by decide) (fun h => ?_) (fun h => ?_)
  · skip
    refine lv_iload_n hx hb d_Tide_status_16 rfl (lv_at hl 1 rfl) ?_
    refine lv_iconst (v := -1) hx hb d_Tide_status_17 (by decide) ?_
    refine r_icmp_eq (tgt := 28) C h d_Tide_status_18 (by decide) (fun h => ?_) (fun h => ?_)
    · skip
      refine lv_iconst (v := 0) hx hb d_Tide_status_28 (by decide) ?_
      refine lv_istore_n (lv' := [(2, .int (0 : Int32)), (0, .ref (ad E 0)), (1, .int p1)]) hx hb d_Tide_status_29 rfl hl (by decide) rfl (fun ls hl => ?_)
      refine lv_iconst (v := 0) hx hb d_Tide_status_30 (by decide) ?_
      refine lv_istore_n (lv' := [(3, .int (0 : Int32)), (2, .int (0 : Int32)), (0, .ref (ad E 0)), (1, .int p1)]) hx hb d_Tide_status_31 rfl hl (by decide) rfl (fun ls hl => ?_)
      exact k_Tide_status_b32 C FU _ _ _ _ _ h hS (lv_sub hl [2, 1, 0] rfl)
    · skip
      refine lv_aload_n hx hb d_Tide_status_21 rfl (lv_at hl 0 rfl) ?_
      refine lv_ldc (v := -1000000001) hx hb hown (hts _ tw_280) d_Tide_status_22 ?_
      obtain ⟨v3, X5, hr4, h⟩ := bd2_el h
      refine c_I hS (c_runV (As := [.int (-1000000001 : Int32)]) (rest := []) C hS (by decide) cel_Tide (rfl : cls[5]? = some (R_Tide, T_Tide, 12)) (k_Tide_finding (l := l) (E := E) (X := X) hr4) cw_Tide_finding ini_Tide_finding ins_Tide_finding sel_Tide_finding tw_281 hd_Tide_finding rfl ⟨⟨rfl, rfl⟩, (Nat.le_of_ble_eq_true rfl), (Nat.le_of_ble_eq_true rfl)⟩ ⟨(Nat.le_of_ble_eq_true rfl), (Nat.le_of_ble_eq_true rfl)⟩ hl.1 rfl (Nat.le_of_ble_eq_true rfl) d_Tide_status_24) (fun H locs hS => ?_)
      exact r_iret C hS rfl h d_Tide_status_27
  · skip
    refine lv_aload_n hx hb d_Tide_status_9 rfl (lv_at hl 0 rfl) ?_
    refine r_get C hS (by decide) cel_Tide (rfl : cls[5]? = some (R_Tide, T_Tide, 12)) in_Tide 0 (by decide) tw_236 rfl d_Tide_status_10 ?_
    refine lv_iload_n hx hb d_Tide_status_13 rfl (lv_at hl 1 rfl) ?_
    refine r_ldI C hS (n := 7) rfl (by decide) h d_Tide_status_14 (fun v6 h => ?_)
    exact r_iret C hS rfl h d_Tide_status_15
set_option maxHeartbeats 4000000 in
set_option maxRecDepth 100000 in
theorem k_Model_isIn {l : Launch} {E : En} {p0 : Int64} {p2 : Int64} {p4 : Int64} {X : Mem} {r : Int32} (h : f_Model_isIn p0 p2 p4 = some r) : Met l y_Model_isIn (Cond.code y_Model_isIn c_Model_isIn 6 (some .boolean) :: tb) ({ frames := 0, cells := 0, slots := 0, locals := 0 } : Room) (PreC E [.long p0, .long p2, .long p4] X) (PostI E r X) 0 0 (Ad E) := by
  refine met_of (by decide) (Nat.le_of_ble_eq_true rfl) (fun p e s m below meth c C hS ls hl => ?_)
  replace C : Cx p s m ([.long p0, .long p2, .long p4] : List Value).toArray meth c c_Model_isIn 6 "TideLoansModel" (some .boolean) E := C
  replace hl : lv_has ls 6 [(0, .long p0), (2, .long p2), (4, .long p4)] := hl
  obtain ⟨hx, hb, hml, hown, hts, hrt, hlk, hKx⟩ := id C
  unfold f_Model_isIn at h
  refine lv_lload_n hx hb d_Model_isIn_0 rfl (lv_at hl 0 rfl) ?_
  refine lv_lload_n hx hb d_Model_isIn_1 rfl (lv_at hl 1 rfl) ?_
  refine W.lcmp hx hb d_Model_isIn_2 ?_
  refine r_if_lt (tgt := 17) C h d_Model_isIn_3 (by decide) (fun h => ?_) (fun h => ?_)
  · skip
    refine lv_iconst (v := 0) hx hb d_Model_isIn_17 (by decide) ?_
    exact r_zret0 C hS rfl (Or.inl rfl) h d_Model_isIn_18
  · skip
    refine lv_lload_n hx hb d_Model_isIn_6 rfl (lv_at hl 0 rfl) ?_
    refine lv_lload hx hb d_Model_isIn_7 (lv_at hl 2 rfl) ?_
    refine W.lcmp hx hb d_Model_isIn_9 ?_
    refine r_if_gt (tgt := 17) C h d_Model_isIn_10 (by decide) (fun h => ?_) (fun h => ?_)
    · skip
      refine lv_iconst (v := 0) hx hb d_Model_isIn_17 (by decide) ?_
      exact r_zret0 C hS rfl (Or.inl rfl) h d_Model_isIn_18
    · skip
      refine lv_iconst (v := 1) hx hb d_Model_isIn_13 (by decide) ?_
      refine lv_goto (tgt := 18) hx hb d_Model_isIn_14 (by decide) ?_
      exact r_zret0 C hS rfl (Or.inr rfl) h d_Model_isIn_18
set_option maxHeartbeats 4000000 in
set_option maxRecDepth 100000 in
theorem k_Model_finds {l : Launch} {E : En} {p1 : Int32} {X : Mem} {r : Int32} {Y : Mem} (h : f_Model_finds p1 X = some (r, Y)) : Met l y_Model_finds (Cond.code y_Model_finds c_Model_finds 2 (some .int) :: tb) ({ frames := 0, cells := 0, slots := 0, locals := 0 } : Room) (PreC E [.ref (ad E 70), .int p1] X) (PostI E r Y) 0 0 (Ad E) := by
  refine met_of (by decide) (Nat.le_of_ble_eq_true rfl) (fun p e s m below meth c C hS ls hl => ?_)
  replace C : Cx p s m ([.ref (ad E 70), .int p1] : List Value).toArray meth c c_Model_finds 2 "TideLoansModel" (some .int) E := C
  replace hl : lv_has ls 2 [(0, .ref (ad E 70)), (1, .int p1)] := hl
  obtain ⟨hx, hb, hml, hown, hts, hrt, hlk, hKx⟩ := id C
  unfold f_Model_finds at h
  refine lv_aload_n hx hb d_Model_finds_0 rfl (lv_at hl 0 rfl) ?_
  refine r_get C hS (by decide) cel_Model (rfl : cls[6]? = some (R_Model, T_Model, 16)) in_Model 5 (by decide) tw_799 rfl d_Model_finds_1 ?_
  refine lv_iconst (v := 0) hx hb d_Model_finds_4 (by decide) ?_
  refine lv_dup2_11 hx hb d_Model_finds_5 rfl rfl ?_
  refine r_ldI C hS (n := 8) rfl (by decide) h d_Model_finds_6 (fun v1 h => ?_)
  refine lv_iconst (v := 1) hx hb d_Model_finds_7 (by decide) ?_
  refine lv_iadd hx hb d_Model_finds_8 ?_
  refine r_stI C hS (n := 8) rfl (by decide) h d_Model_finds_9 (fun X2 H locs hS h => ?_)
  refine lv_aload_n hx hb d_Model_finds_10 rfl (lv_at hl 0 rfl) ?_
  refine r_get C hS (by decide) cel_Model (rfl : cls[6]? = some (R_Model, T_Model, 16)) in_Model 5 (by decide) tw_799 rfl d_Model_finds_11 ?_
  refine lv_ldc (v := -1000000001) hx hb hown (hts _ tw_858) d_Model_finds_14 ?_
  refine lv_iload_n hx hb d_Model_finds_16 rfl (lv_at hl 1 rfl) ?_
  refine lv_isub hx hb d_Model_finds_17 ?_
  refine lv_iconst (v := 1) hx hb d_Model_finds_18 (by decide) ?_
  refine lv_iadd hx hb d_Model_finds_19 ?_
  refine r_top h (fun v3 h => ?_)
  refine lv_dup2_11 hx hb d_Model_finds_20 rfl rfl ?_
  refine r_ldI C hS (n := 8) rfl (by decide) h d_Model_finds_21 (fun v4 h => ?_)
  refine lv_iconst (v := 1) hx hb d_Model_finds_22 (by decide) ?_
  refine lv_iadd hx hb d_Model_finds_23 ?_
  refine r_stI C hS (n := 8) rfl (by decide) h d_Model_finds_24 (fun X5 H locs hS h => ?_)
  refine lv_iload_n hx hb d_Model_finds_25 rfl (lv_at hl 1 rfl) ?_
  exact r_iret C hS rfl h d_Model_finds_26
set_option maxHeartbeats 4000000 in
set_option maxRecDepth 100000 in
theorem k_Model_becomes {l : Launch} {E : En} {p1 : Int32} {p2 : Int32} {X : Mem} {r : Int32} {Y : Mem} (h : f_Model_becomes p1 p2 X = some (r, Y)) : Met l y_Model_becomes (Cond.code y_Model_becomes c_Model_becomes 4 (some .int) :: tb) ({ frames := 0, cells := 0, slots := 0, locals := 0 } : Room) (PreC E [.ref (ad E 70), .int p1, .int p2] X) (PostI E r Y) 0 0 (Ad E) := by
  refine met_of (by decide) (Nat.le_of_ble_eq_true rfl) (fun p e s m below meth c C hS ls hl => ?_)
  replace C : Cx p s m ([.ref (ad E 70), .int p1, .int p2] : List Value).toArray meth c c_Model_becomes 4 "TideLoansModel" (some .int) E := C
  replace hl : lv_has ls 4 [(0, .ref (ad E 70)), (1, .int p1), (2, .int p2)] := hl
  obtain ⟨hx, hb, hml, hown, hts, hrt, hlk, hKx⟩ := id C
  unfold f_Model_becomes at h
  refine lv_aload_n hx hb d_Model_becomes_0 rfl (lv_at hl 0 rfl) ?_
  refine r_get C hS (by decide) cel_Model (rfl : cls[6]? = some (R_Model, T_Model, 16)) in_Model 0 (by decide) tw_794 rfl d_Model_becomes_1 ?_
  refine lv_iload_n hx hb d_Model_becomes_4 rfl (lv_at hl 1 rfl) ?_
  refine r_ldI C hS (n := 83) rfl (by decide) h d_Model_becomes_5 (fun v1 h => ?_)
  refine lv_istore_n (lv' := [(3, .int v1), (0, .ref (ad E 70)), (1, .int p1), (2, .int p2)]) hx hb d_Model_becomes_6 rfl hl (by decide) rfl (fun ls hl => ?_)
  refine lv_aload_n hx hb d_Model_becomes_7 rfl (lv_at hl 1 rfl) ?_
  refine r_get C hS (by decide) cel_Model (rfl : cls[6]? = some (R_Model, T_Model, 16)) in_Model 0 (by decide) tw_794 rfl d_Model_becomes_8 ?_
  refine lv_iload_n hx hb d_Model_becomes_11 rfl (lv_at hl 2 rfl) ?_
  refine lv_iload_n hx hb d_Model_becomes_12 rfl (lv_at hl 3 rfl) ?_
  refine r_stI C hS (n := 83) rfl (by decide) h d_Model_becomes_13 (fun X2 H locs hS h => ?_)
  refine lv_iload_n hx hb d_Model_becomes_14 rfl (lv_at hl 0 rfl) ?_
  exact r_iret C hS rfl h d_Model_becomes_15
def I_Model_copyRow_b2 (p : Program) (l : Launch) (e : Env) (s : State) (m : MethodId) (args : Array Value) (below : List Frame) (meth : Method) (c : Code) (E : En) (Y : Mem) (x0 : Nat) (x1 : Nat) (n : Nat) (tg : Mem) : Prop := ∀ (x2 : Int32) (X : Mem) (H : Heap) (locs : List Loc) (ls : Array Slot), it (fun a => f_Model_copyRow_b2 x0 x1 a.1 a.2) n (x2, X) = some tg → Hs E s.heap X H locs → lv_has ls 3 [(0, .ref (ad E x0)), (1, .ref (ad E x1)), (2, .int x2)] → W p l e ({ frames := 0, cells := 0, slots := 0, locals := 0 } : Room) s m args below meth c H locs 0 0 (MQ below (PostV E Y) args s 0 0 (Ad E)) (F0 m 2 ls [])
set_option maxHeartbeats 4000000 in
set_option maxRecDepth 100000 in
theorem k_Model_copyRow_b2 {p : Program} {l : Launch} {e : Env} {s : State} {m : MethodId} {args : Array Value} {below : List Frame} {meth : Method} {c : Code} {E : En} {Y : Mem} (C : Cx p s m args meth c c_Model_copyRow 3 "TideLoansModel" none E) (x0 : Nat) (x1 : Nat) (hx0 : kd x0 = 1000 + 83) (hx1 : kd x1 = 1000 + 83) : ∀ n, I_Model_copyRow_b2 p l e s m args below meth c E Y x0 x1 n Y := by
  obtain ⟨hx, hb, hml, hown, hts, hrt, hlk, hKx⟩ := id C
  intro n
  induction n with
  | zero => intro x2 X H locs ls h; exact it_0 h
  | succ n ih =>
    intro x2 X H locs ls h hS hl
    obtain ⟨cc2, h, hc2⟩ := it_el h
    replace h : f_Model_copyRow_b2 x0 x1 x2 X = some cc2 := h
    unfold f_Model_copyRow_b2 at h
    refine lv_iload_n hx hb d_Model_copyRow_2 rfl (lv_at hl 2 rfl) ?_
    refine lv_bipush (v := 83) hx hb d_Model_copyRow_3 (by decide) ?_
    refine r_icmp_ge (tgt := 20) C h d_Model_copyRow_5 (by decide) (fun h => ?_) (fun h => ?_)
    · skip
      replace h := lp_ret h hc2
      exact r_vret C hS rfl h d_Model_copyRow_20
    · skip
      refine lv_aload_n hx hb d_Model_copyRow_8 rfl (lv_at hl 1 rfl) ?_
      refine lv_iload_n hx hb d_Model_copyRow_9 rfl (lv_at hl 2 rfl) ?_
      refine lv_aload_n hx hb d_Model_copyRow_10 rfl (lv_at hl 0 rfl) ?_
      refine lv_iload_n hx hb d_Model_copyRow_11 rfl (lv_at hl 2 rfl) ?_
      refine r_ldI C hS (n := 83) hx0 (by decide) h d_Model_copyRow_12 (fun v1 h => ?_)
      refine r_stI C hS (n := 83) hx1 (by decide) h d_Model_copyRow_13 (fun X2 H locs hS h => ?_)
      refine r_iinc C (w := 1) (lv' := fun z => [(2, .int z), (0, .ref (ad E x0)), (1, .ref (ad E x1))]) h d_Model_copyRow_14 hl (k := 2) rfl (by decide) (by decide) (fun _ => rfl) (fun v3 ls h hl => ?_)
      refine lv_goto (tgt := 2) hx hb d_Model_copyRow_17 (by decide) ?_
      exact ih _ _ _ _ _ (lp_next h hc2) hS (lv_sub hl [1, 2, 0] rfl)
set_option maxHeartbeats 4000000 in
set_option maxRecDepth 100000 in
theorem k_Model_copyRow {l : Launch} {E : En} {k0 : Nat} {k1 : Nat} {X : Mem} {Y : Mem} (hk0 : kd k0 = 1000 + 83) (hk1 : kd k1 = 1000 + 83) (h : f_Model_copyRow k0 k1 X = some Y) : Met l y_Model_copyRow (Cond.code y_Model_copyRow c_Model_copyRow 3 none :: tb) ({ frames := 0, cells := 0, slots := 0, locals := 0 } : Room) (PreC E [.ref (ad E k0), .ref (ad E k1)] X) (PostV E Y) 0 0 (Ad E) := by
  refine met_of (by decide) (Nat.le_of_ble_eq_true rfl) (fun p e s m below meth c C hS ls hl => ?_)
  replace C : Cx p s m ([.ref (ad E k0), .ref (ad E k1)] : List Value).toArray meth c c_Model_copyRow 3 "TideLoansModel" none E := C
  replace hl : lv_has ls 3 [(0, .ref (ad E k0)), (1, .ref (ad E k1))] := hl
  obtain ⟨hx, hb, hml, hown, hts, hrt, hlk, hKx⟩ := id C
  unfold f_Model_copyRow at h
  refine lv_iconst (v := 0) hx hb d_Model_copyRow_0 (by decide) ?_
  refine lv_istore_n (lv' := [(2, .int (0 : Int32)), (0, .ref (ad E k0)), (1, .ref (ad E k1))]) hx hb d_Model_copyRow_1 rfl hl (by decide) rfl (fun ls hl => ?_)
  exact k_Model_copyRow_b2 C _ _ hk0 hk1 FU _ _ _ _ _ h hS (lv_sub hl [1, 2, 0] rfl)
set_option maxHeartbeats 4000000 in
set_option maxRecDepth 100000 in
theorem k_Model_isCell {l : Launch} {E : En} {p0 : Int32} {X : Mem} {r : Int32} (h : f_Model_isCell p0 = some r) : Met l y_Model_isCell (Cond.code y_Model_isCell c_Model_isCell 1 (some .boolean) :: tb) ({ frames := 0, cells := 0, slots := 0, locals := 0 } : Room) (PreC E [.int p0] X) (PostI E r X) 0 0 (Ad E) := by
  refine met_of (by decide) (Nat.le_of_ble_eq_true rfl) (fun p e s m below meth c C hS ls hl => ?_)
  replace C : Cx p s m ([.int p0] : List Value).toArray meth c c_Model_isCell 1 "TideLoansModel" (some .boolean) E := C
  replace hl : lv_has ls 1 [(0, .int p0)] := hl
  obtain ⟨hx, hb, hml, hown, hts, hrt, hlk, hKx⟩ := id C
  unfold f_Model_isCell at h
  refine lv_iload_n hx hb d_Model_isCell_0 rfl (lv_at hl 0 rfl) ?_
  refine r_if_lt (tgt := 14) C h d_Model_isCell_1 (by decide) (fun h => ?_) (fun h => ?_)
  · skip
    refine lv_iconst (v := 0) hx hb d_Model_isCell_14 (by decide) ?_
    exact r_zret0 C hS rfl (Or.inl rfl) h d_Model_isCell_15
  · skip
    refine lv_iload_n hx hb d_Model_isCell_4 rfl (lv_at hl 0 rfl) ?_
    refine lv_bipush (v := 16) hx hb d_Model_isCell_5 (by decide) ?_
    refine r_icmp_ge (tgt := 14) C h d_Model_isCell_7 (by decide) (fun h => ?_) (fun h => ?_)
    · skip
      refine lv_iconst (v := 0) hx hb d_Model_isCell_14 (by decide) ?_
      exact r_zret0 C hS rfl (Or.inl rfl) h d_Model_isCell_15
    · skip
      refine lv_iconst (v := 1) hx hb d_Model_isCell_10 (by decide) ?_
      refine lv_goto (tgt := 15) hx hb d_Model_isCell_11 (by decide) ?_
      exact r_zret0 C hS rfl (Or.inr rfl) h d_Model_isCell_15
set_option maxHeartbeats 4000000 in
set_option maxRecDepth 100000 in
theorem k_Model_isFamily {l : Launch} {E : En} {p0 : Int32} {X : Mem} {r : Int32} (h : f_Model_isFamily p0 = some r) : Met l y_Model_isFamily (Cond.code y_Model_isFamily c_Model_isFamily 1 (some .boolean) :: tb) ({ frames := 0, cells := 0, slots := 0, locals := 0 } : Room) (PreC E [.int p0] X) (PostI E r X) 0 0 (Ad E) := by
  refine met_of (by decide) (Nat.le_of_ble_eq_true rfl) (fun p e s m below meth c C hS ls hl => ?_)
  replace C : Cx p s m ([.int p0] : List Value).toArray meth c c_Model_isFamily 1 "TideLoansModel" (some .boolean) E := C
  replace hl : lv_has ls 1 [(0, .int p0)] := hl
  obtain ⟨hx, hb, hml, hown, hts, hrt, hlk, hKx⟩ := id C
  unfold f_Model_isFamily at h
  refine lv_iload_n hx hb d_Model_isFamily_0 rfl (lv_at hl 0 rfl) ?_
  refine r_if_lt (tgt := 13) C h d_Model_isFamily_1 (by decide) (fun h => ?_) (fun h => ?_)
  · skip
    refine lv_iconst (v := 0) hx hb d_Model_isFamily_13 (by decide) ?_
    exact r_zret0 C hS rfl (Or.inl rfl) h d_Model_isFamily_14
  · skip
    refine lv_iload_n hx hb d_Model_isFamily_4 rfl (lv_at hl 0 rfl) ?_
    refine lv_iconst (v := 4) hx hb d_Model_isFamily_5 (by decide) ?_
    refine r_icmp_ge (tgt := 13) C h d_Model_isFamily_6 (by decide) (fun h => ?_) (fun h => ?_)
    · skip
      refine lv_iconst (v := 0) hx hb d_Model_isFamily_13 (by decide) ?_
      exact r_zret0 C hS rfl (Or.inl rfl) h d_Model_isFamily_14
    · skip
      refine lv_iconst (v := 1) hx hb d_Model_isFamily_9 (by decide) ?_
      refine lv_goto (tgt := 14) hx hb d_Model_isFamily_10 (by decide) ?_
      exact r_zret0 C hS rfl (Or.inr rfl) h d_Model_isFamily_14
set_option maxHeartbeats 4000000 in
set_option maxRecDepth 100000 in
theorem k_Model_isThing {l : Launch} {E : En} {p1 : Int32} {X : Mem} {r : Int32} (h : f_Model_isThing p1 X = some r) : Met l y_Model_isThing (Cond.code y_Model_isThing c_Model_isThing 2 (some .boolean) :: tb) ({ frames := 0, cells := 0, slots := 0, locals := 0 } : Room) (PreC E [.ref (ad E 70), .int p1] X) (PostI E r X) 0 0 (Ad E) := by
  refine met_of (by decide) (Nat.le_of_ble_eq_true rfl) (fun p e s m below meth c C hS ls hl => ?_)
  replace C : Cx p s m ([.ref (ad E 70), .int p1] : List Value).toArray meth c c_Model_isThing 2 "TideLoansModel" (some .boolean) E := C
  replace hl : lv_has ls 2 [(0, .ref (ad E 70)), (1, .int p1)] := hl
  obtain ⟨hx, hb, hml, hown, hts, hrt, hlk, hKx⟩ := id C
  unfold f_Model_isThing at h
  refine lv_iload_n hx hb d_Model_isThing_0 rfl (lv_at hl 1 rfl) ?_
  refine r_if_lt (tgt := 18) C h d_Model_isThing_1 (by decide) (fun h => ?_) (fun h => ?_)
  · skip
    refine lv_iconst (v := 0) hx hb d_Model_isThing_18 (by decide) ?_
    exact r_zret0 C hS rfl (Or.inl rfl) h d_Model_isThing_19
  · skip
    refine lv_iload_n hx hb d_Model_isThing_4 rfl (lv_at hl 1 rfl) ?_
    refine lv_aload_n hx hb d_Model_isThing_5 rfl (lv_at hl 0 rfl) ?_
    refine r_get C hS (by decide) cel_Model (rfl : cls[6]? = some (R_Model, T_Model, 16)) in_Model 0 (by decide) tw_794 rfl d_Model_isThing_6 ?_
    refine lv_iconst (v := 0) hx hb d_Model_isThing_9 (by decide) ?_
    refine r_ldI C hS (n := 83) rfl (by decide) h d_Model_isThing_10 (fun v1 h => ?_)
    refine r_icmp_ge (tgt := 18) C h d_Model_isThing_11 (by decide) (fun h => ?_) (fun h => ?_)
    · skip
      refine lv_iconst (v := 0) hx hb d_Model_isThing_18 (by decide) ?_
      exact r_zret0 C hS rfl (Or.inl rfl) h d_Model_isThing_19
    · skip
      refine lv_iconst (v := 1) hx hb d_Model_isThing_14 (by decide) ?_
      refine lv_goto (tgt := 19) hx hb d_Model_isThing_15 (by decide) ?_
      exact r_zret0 C hS rfl (Or.inr rfl) h d_Model_isThing_19
set_option maxHeartbeats 4000000 in
set_option maxRecDepth 100000 in
theorem k_Model_at {l : Launch} {E : En} {p0 : Int32} {p1 : Int32} {X : Mem} {r : Int32} (h : f_Model_at p0 p1 = some r) : Met l y_Model_at (Cond.code y_Model_at c_Model_at 2 (some .int) :: tb) ({ frames := 0, cells := 0, slots := 0, locals := 0 } : Room) (PreC E [.int p0, .int p1] X) (PostI E r X) 0 0 (Ad E) := by
  refine met_of (by decide) (Nat.le_of_ble_eq_true rfl) (fun p e s m below meth c C hS ls hl => ?_)
  replace C : Cx p s m ([.int p0, .int p1] : List Value).toArray meth c c_Model_at 2 "TideLoansModel" (some .int) E := C
  replace hl : lv_has ls 2 [(0, .int p0), (1, .int p1)] := hl
  obtain ⟨hx, hb, hml, hown, hts, hrt, hlk, hKx⟩ := id C
  unfold f_Model_at at h
  refine lv_bipush (v := 23) hx hb d_Model_at_0 (by decide) ?_
  refine lv_bipush (v := 6) hx hb d_Model_at_2 (by decide) ?_
  refine lv_iload_n hx hb d_Model_at_4 rfl (lv_at hl 0 rfl) ?_
  refine lv_imul hx hb d_Model_at_5 ?_
  refine lv_iadd hx hb d_Model_at_6 ?_
  refine lv_iload_n hx hb d_Model_at_7 rfl (lv_at hl 1 rfl) ?_
  refine lv_iadd hx hb d_Model_at_8 ?_
  exact r_iret0 C hS rfl h d_Model_at_9
set_option maxHeartbeats 4000000 in
set_option maxRecDepth 100000 in
theorem k_Model_its {l : Launch} {E : En} {p1 : Int32} {p2 : Int32} {X : Mem} {r : Int32} (h : f_Model_its p1 p2 X = some r) : Met l y_Model_its (Cond.code y_Model_its c_Model_its 3 (some .int) :: tb) ({ frames := 0, cells := 0, slots := 0, locals := 0 } : Room) (PreC E [.ref (ad E 70), .int p1, .int p2] X) (PostI E r X) 0 0 (Ad E) := by
  refine met_of (by decide) (Nat.le_of_ble_eq_true rfl) (fun p e s m below meth c C hS ls hl => ?_)
  replace C : Cx p s m ([.ref (ad E 70), .int p1, .int p2] : List Value).toArray meth c c_Model_its 3 "TideLoansModel" (some .int) E := C
  replace hl : lv_has ls 3 [(0, .ref (ad E 70)), (1, .int p1), (2, .int p2)] := hl
  obtain ⟨hx, hb, hml, hown, hts, hrt, hlk, hKx⟩ := id C
  unfold f_Model_its at h
  refine lv_aload_n hx hb d_Model_its_0 rfl (lv_at hl 0 rfl) ?_
  refine r_get C hS (by decide) cel_Model (rfl : cls[6]? = some (R_Model, T_Model, 16)) in_Model 0 (by decide) tw_794 rfl d_Model_its_1 ?_
  refine lv_bipush (v := 23) hx hb d_Model_its_4 (by decide) ?_
  refine lv_bipush (v := 6) hx hb d_Model_its_6 (by decide) ?_
  refine lv_iload_n hx hb d_Model_its_8 rfl (lv_at hl 1 rfl) ?_
  refine lv_imul hx hb d_Model_its_9 ?_
  refine lv_iadd hx hb d_Model_its_10 ?_
  refine lv_iload_n hx hb d_Model_its_11 rfl (lv_at hl 2 rfl) ?_
  refine lv_iadd hx hb d_Model_its_12 ?_
  refine r_ldI C hS (n := 83) rfl (by decide) h d_Model_its_13 (fun v1 h => ?_)
  exact r_iret0 C hS rfl h d_Model_its_14
set_option maxHeartbeats 4000000 in
set_option maxRecDepth 100000 in
theorem k_Model_isIt {l : Launch} {E : En} {p1 : Int32} {p2 : Int32} {X : Mem} {r : Int32} (h : f_Model_isIt p1 p2 X = some r) : Met l y_Model_isIt (Cond.code y_Model_isIt c_Model_isIt 3 (some .boolean) :: tb) ({ frames := 1, cells := 0, slots := 0, locals := 22 } : Room) (PreC E [.ref (ad E 70), .int p1, .int p2] X) (PostI E r X) 0 0 (Ad E) := by
  refine met_of (by decide) (Nat.le_of_ble_eq_true rfl) (fun p e s m below meth c C hS ls hl => ?_)
  replace C : Cx p s m ([.ref (ad E 70), .int p1, .int p2] : List Value).toArray meth c c_Model_isIt 3 "TideLoansModel" (some .boolean) E := C
  replace hl : lv_has ls 3 [(0, .ref (ad E 70)), (1, .int p1), (2, .int p2)] := hl
  obtain ⟨hx, hb, hml, hown, hts, hrt, hlk, hKx⟩ := id C
  unfold f_Model_isIt at h
  refine lv_aload_n hx hb d_Model_isIt_0 rfl (lv_at hl 0 rfl) ?_
  refine lv_iload_n hx hb d_Model_isIt_1 rfl (lv_at hl 1 rfl) ?_
  refine lv_iconst (v := 4) hx hb d_Model_isIt_2 (by decide) ?_
  obtain ⟨v1, hr2, h⟩ := bd_el h
  refine c_I hS (c_runV (As := [.int p1, .int (4 : Int32)]) (rest := []) C hS (by decide) cel_Model (rfl : cls[6]? = some (R_Model, T_Model, 16)) (k_Model_its (l := l) (E := E) (X := X) hr2) cw_Model_its ini_Model_its ins_Model_its sel_Model_its tw_875 hd_Model_its rfl ⟨⟨rfl, rfl⟩, (Nat.le_of_ble_eq_true rfl), (Nat.le_of_ble_eq_true rfl)⟩ ⟨(Nat.le_of_ble_eq_true rfl), (Nat.le_of_ble_eq_true rfl)⟩ hl.1 rfl (Nat.le_of_ble_eq_true rfl) d_Model_isIt_3) (fun H locs hS => ?_)
  refine lv_iload_n hx hb d_Model_isIt_6 rfl (lv_at hl 2 rfl) ?_
  refine r_icmp_ne (tgt := 14) C h d_Model_isIt_7 (by decide) (fun h => ?_) (fun h => ?_)
  · skip
    refine lv_iconst (v := 0) hx hb d_Model_isIt_14 (by decide) ?_
    exact r_zret0 C hS rfl (Or.inl rfl) h d_Model_isIt_15
  · skip
    refine lv_iconst (v := 1) hx hb d_Model_isIt_10 (by decide) ?_
    refine lv_goto (tgt := 15) hx hb d_Model_isIt_11 (by decide) ?_
    exact r_zret0 C hS rfl (Or.inr rfl) h d_Model_isIt_15
set_option maxHeartbeats 4000000 in
set_option maxRecDepth 100000 in
theorem k_Model_orNone {l : Launch} {E : En} {p1 : Int32} {X : Mem} {r : Int32} {Y : Mem} (h : f_Model_orNone p1 X = some (r, Y)) : Met l y_Model_orNone (Cond.code y_Model_orNone c_Model_orNone 2 (some .int) :: tb) ({ frames := 1, cells := 0, slots := 0, locals := 21 } : Room) (PreC E [.ref (ad E 70), .int p1] X) (PostI E r Y) 0 0 (Ad E) := by
  refine met_of (by decide) (Nat.le_of_ble_eq_true rfl) (fun p e s m below meth c C hS ls hl => ?_)
  replace C : Cx p s m ([.ref (ad E 70), .int p1] : List Value).toArray meth c c_Model_orNone 2 "TideLoansModel" (some .int) E := C
  replace hl : lv_has ls 2 [(0, .ref (ad E 70)), (1, .int p1)] := hl
  obtain ⟨hx, hb, hml, hown, hts, hrt, hlk, hKx⟩ := id C
  unfold f_Model_orNone at h
  refine lv_iload_n hx hb d_Model_orNone_0 rfl (lv_at hl 1 rfl) ?_
  refine r_if_ge (tgt := 13) C h d_Model_orNone_1 (by decide) (fun h => ?_) (fun h => ?_)
  · skip
    refine lv_iload_n hx hb d_Model_orNone_13 rfl (lv_at hl 1 rfl) ?_
    exact r_iret C hS rfl h d_Model_orNone_14
  · skip
    refine lv_aload_n hx hb d_Model_orNone_4 rfl (lv_at hl 0 rfl) ?_
    refine lv_ldc (v := -1000000004) hx hb hown (hts _ tw_1027) d_Model_orNone_5 ?_
    obtain ⟨v1, X3, hr2, h⟩ := bd2_el h
    refine c_I hS (c_runV (As := [.int (-1000000004 : Int32)]) (rest := []) C hS (by decide) cel_Model (rfl : cls[6]? = some (R_Model, T_Model, 16)) (k_Model_finds (l := l) (E := E) (X := X) hr2) cw_Model_finds ini_Model_finds ins_Model_finds sel_Model_finds tw_859 hd_Model_finds rfl ⟨⟨rfl, rfl⟩, (Nat.le_of_ble_eq_true rfl), (Nat.le_of_ble_eq_true rfl)⟩ ⟨(Nat.le_of_ble_eq_true rfl), (Nat.le_of_ble_eq_true rfl)⟩ hl.1 rfl (Nat.le_of_ble_eq_true rfl) d_Model_orNone_7) (fun H locs hS => ?_)
    refine lv_goto (tgt := 14) hx hb d_Model_orNone_10 (by decide) ?_
    exact r_iret C hS rfl h d_Model_orNone_14
def I_Model_many_b4 (p : Program) (l : Launch) (e : Env) (s : State) (m : MethodId) (args : Array Value) (below : List Frame) (meth : Method) (c : Code) (E : En) (r : Int32) (X : Mem) (n : Nat) (tg : Int32) : Prop := ∀ (x1 : Int32) (x2 : Int32) (H : Heap) (locs : List Loc) (ls : Array Slot), it (fun a => f_Model_many_b4 a.1 a.2) n (x1, x2) = some tg → Hs E s.heap X H locs → lv_has ls 3 [(1, .int x1), (2, .int x2)] → W p l e ({ frames := 0, cells := 0, slots := 0, locals := 0 } : Room) s m args below meth c H locs 0 0 (MQ below (PostI E r X) args s 0 0 (Ad E)) (F0 m 4 ls [])
set_option maxHeartbeats 4000000 in
set_option maxRecDepth 100000 in
theorem k_Model_many_b4 {p : Program} {l : Launch} {e : Env} {s : State} {m : MethodId} {args : Array Value} {below : List Frame} {meth : Method} {c : Code} {E : En} {r : Int32} (C : Cx p s m args meth c c_Model_many 3 "TideLoansModel" (some .int) E) {X : Mem} : ∀ n, I_Model_many_b4 p l e s m args below meth c E r X n r := by
  obtain ⟨hx, hb, hml, hown, hts, hrt, hlk, hKx⟩ := id C
  intro n
  induction n with
  | zero => intro x1 x2 H locs ls h; exact it_0 h
  | succ n ih =>
    intro x1 x2 H locs ls h hS hl
    obtain ⟨cc4, h, hc4⟩ := it_el h
    replace h : f_Model_many_b4 x1 x2 = some cc4 := h
    unfold f_Model_many_b4 at h
    refine lv_iload_n hx hb d_Model_many_4 rfl (lv_at hl 1 rfl) ?_
    refine r_if_eq (tgt := 20) C h d_Model_many_5 (by decide) (fun h => ?_) (fun h => ?_)
    · skip
      refine lv_iload_n hx hb d_Model_many_20 rfl (lv_at hl 0 rfl) ?_
      replace h := lp_ret h hc4
      exact r_iret0 C hS rfl h d_Model_many_21
    · skip
      refine r_iinc C (w := 1) (lv' := fun z => [(1, .int z), (2, .int x2)]) h d_Model_many_8 hl (k := 0) rfl (by decide) (by decide) (fun _ => rfl) (fun v1 ls h hl => ?_)
      refine lv_iload_n hx hb d_Model_many_11 rfl (lv_at hl 1 rfl) ?_
      refine lv_iload_n hx hb d_Model_many_12 rfl (lv_at hl 1 rfl) ?_
      refine lv_iconst (v := 1) hx hb d_Model_many_13 (by decide) ?_
      refine lv_isub hx hb d_Model_many_14 ?_
      refine lv_iand hx hb d_Model_many_15 ?_
      refine r_top h (fun v2 h => ?_)
      refine lv_istore_n (lv' := [(2, .int v2), (1, .int v1)]) hx hb d_Model_many_16 rfl hl (by decide) rfl (fun ls hl => ?_)
      refine lv_goto (tgt := 4) hx hb d_Model_many_17 (by decide) ?_
      exact ih _ _ _ _ _ (lp_next h hc4) hS (lv_sub hl [1, 0] rfl)
set_option maxHeartbeats 4000000 in
set_option maxRecDepth 100000 in
theorem k_Model_many {l : Launch} {E : En} {p0 : Int32} {X : Mem} {r : Int32} (h : f_Model_many p0 = some r) : Met l y_Model_many (Cond.code y_Model_many c_Model_many 3 (some .int) :: tb) ({ frames := 0, cells := 0, slots := 0, locals := 0 } : Room) (PreC E [.int p0] X) (PostI E r X) 0 0 (Ad E) := by
  refine met_of (by decide) (Nat.le_of_ble_eq_true rfl) (fun p e s m below meth c C hS ls hl => ?_)
  replace C : Cx p s m ([.int p0] : List Value).toArray meth c c_Model_many 3 "TideLoansModel" (some .int) E := C
  replace hl : lv_has ls 3 [(0, .int p0)] := hl
  obtain ⟨hx, hb, hml, hown, hts, hrt, hlk, hKx⟩ := id C
  unfold f_Model_many at h
  refine lv_iconst (v := 0) hx hb d_Model_many_0 (by decide) ?_
  refine lv_istore_n (lv' := [(1, .int (0 : Int32)), (0, .int p0)]) hx hb d_Model_many_1 rfl hl (by decide) rfl (fun ls hl => ?_)
  refine lv_iload_n hx hb d_Model_many_2 rfl (lv_at hl 1 rfl) ?_
  refine lv_istore_n (lv' := [(2, .int p0), (1, .int (0 : Int32)), (0, .int p0)]) hx hb d_Model_many_3 rfl hl (by decide) rfl (fun ls hl => ?_)
  exact k_Model_many_b4 C FU _ _ _ _ _ h hS (lv_sub hl [1, 0] rfl)
set_option maxHeartbeats 4000000 in
set_option maxRecDepth 100000 in
theorem k_Model_height_j30 {p : Program} {l : Launch} {e : Env} {s : State} {m : MethodId} {args : Array Value} {below : List Frame} {meth : Method} {c : Code} {E : En} {r : Int32} {Y : Mem} (C : Cx p s m args meth c c_Model_height 3 "TideLoansModel" (some .int) E) {X : Mem} (h : f_Model_height_j30 X = some (r, Y)) {H : Heap} {locs : List Loc} (hS : Hs E s.heap X H locs) {ls : Array Slot} (hl : lv_has ls 3 [(0, .ref (ad E 70))]) : W p l e ({ frames := 1, cells := 0, slots := 0, locals := 25 } : Room) s m args below meth c H locs 0 0 (MQ below (PostI E r Y) args s 0 0 (Ad E)) (F0 m 30 ls []) := by
  obtain ⟨hx, hb, hml, hown, hts, hrt, hlk, hKx⟩ := id C
  unfold f_Model_height_j30 at h
  refine lv_aload_n hx hb d_Model_height_30 rfl (lv_at hl 0 rfl) ?_
  refine lv_ldc (v := -1000000001) hx hb hown (hts _ tw_858) d_Model_height_31 ?_
  obtain ⟨v1, X3, hr2, h⟩ := bd2_el h
  refine c_I hS (c_runV (As := [.int (-1000000001 : Int32)]) (rest := []) C hS (by decide) cel_Model (rfl : cls[6]? = some (R_Model, T_Model, 16)) (k_Model_finds (l := l) (E := E) (X := X) hr2) cw_Model_finds ini_Model_finds ins_Model_finds sel_Model_finds tw_859 hd_Model_finds rfl ⟨⟨rfl, rfl⟩, (Nat.le_of_ble_eq_true rfl), (Nat.le_of_ble_eq_true rfl)⟩ ⟨(Nat.le_of_ble_eq_true rfl), (Nat.le_of_ble_eq_true rfl)⟩ hl.1 rfl (Nat.le_of_ble_eq_true rfl) d_Model_height_33) (fun H locs hS => ?_)
  exact r_iret C hS rfl h d_Model_height_36
set_option maxHeartbeats 4000000 in
set_option maxRecDepth 100000 in
theorem k_Model_height {l : Launch} {E : En} {p1 : Int32} {p2 : Int32} {X : Mem} {r : Int32} {Y : Mem} (h : f_Model_height p1 p2 X = some (r, Y)) : Met l y_Model_height (Cond.code y_Model_height c_Model_height 3 (some .int) :: tb) ({ frames := 1, cells := 0, slots := 0, locals := 25 } : Room) (PreC E [.ref (ad E 70), .int p1, .int p2] X) (PostI E r Y) 0 0 (Ad E) := by
  refine met_of (by decide) (Nat.le_of_ble_eq_true rfl) (fun p e s m below meth c C hS ls hl => ?_)
  replace C : Cx p s m ([.ref (ad E 70), .int p1, .int p2] : List Value).toArray meth c c_Model_height 3 "TideLoansModel" (some .int) E := C
  replace hl : lv_has ls 3 [(0, .ref (ad E 70)), (1, .int p1), (2, .int p2)] := hl
  obtain ⟨hx, hb, hml, hown, hts, hrt, hlk, hKx⟩ := id C
  unfold f_Model_height at h
  refine lv_iload_n hx hb d_Model_height_0 rfl (lv_at hl 1 rfl) ?_
  obtain ⟨v1, hr2, h⟩ := bd_el h
  refine c_I hS (c_runS (As := [.int p1]) (rest := []) C hS (k_Model_isCell (l := l) (E := E) (X := X) hr2) cw_Model_isCell ini_Model_isCell sta_Model_isCell tw_847 hd_Model_isCell rfl ⟨⟨rfl, rfl⟩, (Nat.le_of_ble_eq_true rfl), (Nat.le_of_ble_eq_true rfl)⟩ ⟨(Nat.le_of_ble_eq_true rfl), (Nat.le_of_ble_eq_true rfl)⟩ hl.1 rfl (Nat.le_of_ble_eq_true rfl) d_Model_height_1) (fun H locs hS => ?_)
  refine r_if_eq (tgt := 30) C h d_Model_height_4 (by decide) (fun h => ?_) (fun h => ?_)
  · skip
    exact k_Model_height_j30 C h hS (lv_sub hl [0] rfl)
  · skip
    refine lv_iload_n hx hb d_Model_height_7 rfl (lv_at hl 2 rfl) ?_
    refine lv_i2l hx hb d_Model_height_8 rfl ?_
    refine lv_lconst (v := 0) hx hb d_Model_height_9 (by decide) ?_
    refine lv_ldc2 (v := 9) hx hb hown (hts _ tw_850) d_Model_height_10 ?_
    obtain ⟨v3, hr4, h⟩ := bd_el h
    refine c_I hS (c_runS (As := [.long (p2.toInt64), .long (0 : Int64), .long (9 : Int64)]) (rest := []) C hS (k_Model_isIn (l := l) (E := E) (X := X) hr4) cw_Model_isIn ini_Model_isIn sta_Model_isIn tw_851 hd_Model_isIn rfl ⟨⟨rfl, rfl⟩, (Nat.le_of_ble_eq_true rfl), (Nat.le_of_ble_eq_true rfl)⟩ ⟨(Nat.le_of_ble_eq_true rfl), (Nat.le_of_ble_eq_true rfl)⟩ hl.1 rfl (Nat.le_of_ble_eq_true rfl) d_Model_height_13) (fun H locs hS => ?_)
    refine r_if_eq (tgt := 30) C h d_Model_height_16 (by decide) (fun h => ?_) (fun h => ?_)
    · skip
      exact k_Model_height_j30 C h hS (lv_sub hl [0] rfl)
    · skip
      refine lv_aload_n hx hb d_Model_height_19 rfl (lv_at hl 0 rfl) ?_
      refine lv_iconst (v := 3) hx hb d_Model_height_20 (by decide) ?_
      refine lv_iload_n hx hb d_Model_height_21 rfl (lv_at hl 1 rfl) ?_
      refine lv_iadd hx hb d_Model_height_22 ?_
      refine lv_iload_n hx hb d_Model_height_23 rfl (lv_at hl 2 rfl) ?_
      obtain ⟨v5, X7, hr6, h⟩ := bd2_el h
      refine c_I hS (c_runV (As := [.int ((3 : Int32) + p1), .int p2]) (rest := []) C hS (by decide) cel_Model (rfl : cls[6]? = some (R_Model, T_Model, 16)) (k_Model_becomes (l := l) (E := E) (X := X) hr6) cw_Model_becomes ini_Model_becomes ins_Model_becomes sel_Model_becomes tw_854 hd_Model_becomes rfl ⟨⟨rfl, rfl⟩, (Nat.le_of_ble_eq_true rfl), (Nat.le_of_ble_eq_true rfl)⟩ ⟨(Nat.le_of_ble_eq_true rfl), (Nat.le_of_ble_eq_true rfl)⟩ hl.1 rfl (Nat.le_of_ble_eq_true rfl) d_Model_height_24) (fun H locs hS => ?_)
      refine lv_goto (tgt := 36) hx hb d_Model_height_27 (by decide) ?_
      exact r_iret C hS rfl h d_Model_height_36
def I_Model_laidAt_b4 (p : Program) (l : Launch) (e : Env) (s : State) (m : MethodId) (args : Array Value) (below : List Frame) (meth : Method) (c : Code) (E : En) (r : Int32) (x1 : Int32) (X : Mem) (n : Nat) (tg : Int32) : Prop := ∀ (x2 : Int32) (x3 : Int32) (H : Heap) (locs : List Loc) (ls : Array Slot), it (fun a => f_Model_laidAt_b4 x1 X a.1 a.2) n (x2, x3) = some tg → Hs E s.heap X H locs → lv_has ls 4 [(0, .ref (ad E 70)), (1, .int x1), (2, .int x2), (3, .int x3)] → W p l e ({ frames := 2, cells := 0, slots := 0, locals := 44 } : Room) s m args below meth c H locs 0 0 (MQ below (PostI E r X) args s 0 0 (Ad E)) (F0 m 4 ls [])
set_option maxHeartbeats 4000000 in
set_option maxRecDepth 100000 in
theorem k_Model_laidAt_j41 {p : Program} {l : Launch} {e : Env} {s : State} {m : MethodId} {args : Array Value} {below : List Frame} {meth : Method} {c : Code} {E : En} {r : Int32} (C : Cx p s m args meth c c_Model_laidAt 4 "TideLoansModel" (some .int) E) {x1 : Int32} {x3 : Int32} {q0 : Int32} {q1 : Int32} {X : Mem} {tg : (Int32 ⊕ (Int32 × Int32))} {n4 : Nat} (hc4 : fin (fun a => f_Model_laidAt_b4 x1 X a.1 a.2) n4 r tg) (ih4 : I_Model_laidAt_b4 p l e s m args below meth c E r x1 X n4 r) (h : f_Model_laidAt_j41 x1 x3 q0 q1 X = some tg) {H : Heap} {locs : List Loc} (hS : Hs E s.heap X H locs) {ls : Array Slot} (hl : lv_has ls 4 [(0, .ref (ad E 70)), (1, .int x1), (3, .int x3)]) : W p l e ({ frames := 2, cells := 0, slots := 0, locals := 44 } : Room) s m args below meth c H locs 0 0 (MQ below (PostI E r X) args s 0 0 (Ad E)) (F0 m 41 ls [.int q1, .int q0]) := by
  obtain ⟨hx, hb, hml, hown, hts, hrt, hlk, hKx⟩ := id C
  unfold f_Model_laidAt_j41 at h
  refine lv_ior hx hb d_Model_laidAt_41 ?_
  refine r_top h (fun v1 h => ?_)
  refine lv_istore_n (lv' := [(2, .int v1), (0, .ref (ad E 70)), (1, .int x1), (3, .int x3)]) hx hb d_Model_laidAt_42 rfl hl (by decide) rfl (fun ls hl => ?_)
  refine r_iinc C (w := 1) (lv' := fun z => [(3, .int z), (2, .int v1), (0, .ref (ad E 70)), (1, .int x1)]) h d_Model_laidAt_43 hl (k := 3) rfl (by decide) (by decide) (fun _ => rfl) (fun v2 ls h hl => ?_)
  refine lv_goto (tgt := 4) hx hb d_Model_laidAt_46 (by decide) ?_
  exact ih4 _ _ _ _ _ (lp_next h hc4) hS (lv_sub hl [2, 3, 1, 0] rfl)
set_option maxHeartbeats 4000000 in
set_option maxRecDepth 100000 in
theorem k_Model_laidAt_j40 {p : Program} {l : Launch} {e : Env} {s : State} {m : MethodId} {args : Array Value} {below : List Frame} {meth : Method} {c : Code} {E : En} {r : Int32} (C : Cx p s m args meth c c_Model_laidAt 4 "TideLoansModel" (some .int) E) {x1 : Int32} {x3 : Int32} {q0 : Int32} {X : Mem} {tg : (Int32 ⊕ (Int32 × Int32))} {n4 : Nat} (hc4 : fin (fun a => f_Model_laidAt_b4 x1 X a.1 a.2) n4 r tg) (ih4 : I_Model_laidAt_b4 p l e s m args below meth c E r x1 X n4 r) (h : f_Model_laidAt_j40 x1 x3 q0 X = some tg) {H : Heap} {locs : List Loc} (hS : Hs E s.heap X H locs) {ls : Array Slot} (hl : lv_has ls 4 [(0, .ref (ad E 70)), (1, .int x1), (3, .int x3)]) : W p l e ({ frames := 2, cells := 0, slots := 0, locals := 44 } : Room) s m args below meth c H locs 0 0 (MQ below (PostI E r X) args s 0 0 (Ad E)) (F0 m 40 ls [.int q0]) := by
  obtain ⟨hx, hb, hml, hown, hts, hrt, hlk, hKx⟩ := id C
  unfold f_Model_laidAt_j40 at h
  refine lv_iconst (v := 0) hx hb d_Model_laidAt_40 (by decide) ?_
  exact k_Model_laidAt_j41 C hc4 ih4 h hS (lv_sub hl [0, 1, 2] rfl)
set_option maxHeartbeats 4000000 in
set_option maxRecDepth 100000 in
theorem k_Model_laidAt_b4 {p : Program} {l : Launch} {e : Env} {s : State} {m : MethodId} {args : Array Value} {below : List Frame} {meth : Method} {c : Code} {E : En} {r : Int32} (C : Cx p s m args meth c c_Model_laidAt 4 "TideLoansModel" (some .int) E) (x1 : Int32) {X : Mem} : ∀ n, I_Model_laidAt_b4 p l e s m args below meth c E r x1 X n r := by
  obtain ⟨hx, hb, hml, hown, hts, hrt, hlk, hKx⟩ := id C
  intro n
  induction n with
  | zero => intro x2 x3 H locs ls h; exact it_0 h
  | succ n ih =>
    intro x2 x3 H locs ls h hS hl
    obtain ⟨cc4, h, hc4⟩ := it_el h
    replace h : f_Model_laidAt_b4 x1 X x2 x3 = some cc4 := h
    unfold f_Model_laidAt_b4 at h
    refine lv_iload_n hx hb d_Model_laidAt_4 rfl (lv_at hl 3 rfl) ?_
    refine lv_aload_n hx hb d_Model_laidAt_5 rfl (lv_at hl 0 rfl) ?_
    refine r_get C hS (by decide) cel_Model (rfl : cls[6]? = some (R_Model, T_Model, 16)) in_Model 0 (by decide) tw_794 rfl d_Model_laidAt_6 ?_
    refine lv_iconst (v := 0) hx hb d_Model_laidAt_9 (by decide) ?_
    refine r_ldI C hS (n := 83) rfl (by decide) h d_Model_laidAt_10 (fun v1 h => ?_)
    refine r_icmp_ge (tgt := 49) C h d_Model_laidAt_11 (by decide) (fun h => ?_) (fun h => ?_)
    · skip
      refine lv_iload_n hx hb d_Model_laidAt_49 rfl (lv_at hl 2 rfl) ?_
      replace h := lp_ret h hc4
      exact r_iret0 C hS rfl h d_Model_laidAt_50
    · skip
      refine lv_iload_n hx hb d_Model_laidAt_14 rfl (lv_at hl 2 rfl) ?_
      refine lv_aload_n hx hb d_Model_laidAt_15 rfl (lv_at hl 0 rfl) ?_
      refine lv_iload_n hx hb d_Model_laidAt_16 rfl (lv_at hl 3 rfl) ?_
      refine lv_iconst (v := 1) hx hb d_Model_laidAt_17 (by decide) ?_
      obtain ⟨v2, hr3, h⟩ := bd_el h
      refine c_I hS (c_runV (As := [.int x3, .int (1 : Int32)]) (rest := [.int x2]) C hS (by decide) cel_Model (rfl : cls[6]? = some (R_Model, T_Model, 16)) (k_Model_isIt (l := l) (E := E) (X := X) hr3) cw_Model_isIt ini_Model_isIt ins_Model_isIt sel_Model_isIt tw_871 hd_Model_isIt rfl ⟨⟨rfl, rfl⟩, (Nat.le_of_ble_eq_true rfl), (Nat.le_of_ble_eq_true rfl)⟩ ⟨(Nat.le_of_ble_eq_true rfl), (Nat.le_of_ble_eq_true rfl)⟩ hl.1 rfl (Nat.le_of_ble_eq_true rfl) d_Model_laidAt_18) (fun H locs hS => ?_)
      refine r_if_eq (tgt := 40) C h d_Model_laidAt_21 (by decide) (fun h => ?_) (fun h => ?_)
      · skip
        exact k_Model_laidAt_j40 C hc4 ih h hS (lv_sub hl [0, 1, 3] rfl)
      · skip
        refine lv_aload_n hx hb d_Model_laidAt_24 rfl (lv_at hl 0 rfl) ?_
        refine lv_iload_n hx hb d_Model_laidAt_25 rfl (lv_at hl 3 rfl) ?_
        refine lv_iconst (v := 2) hx hb d_Model_laidAt_26 (by decide) ?_
        obtain ⟨v4, hr5, h⟩ := bd_el h
        refine c_I hS (c_runV (As := [.int x3, .int (2 : Int32)]) (rest := [.int x2]) C hS (by decide) cel_Model (rfl : cls[6]? = some (R_Model, T_Model, 16)) (k_Model_its (l := l) (E := E) (X := X) hr5) cw_Model_its ini_Model_its ins_Model_its sel_Model_its tw_875 hd_Model_its rfl ⟨⟨rfl, rfl⟩, (Nat.le_of_ble_eq_true rfl), (Nat.le_of_ble_eq_true rfl)⟩ ⟨(Nat.le_of_ble_eq_true rfl), (Nat.le_of_ble_eq_true rfl)⟩ hl.1 rfl (Nat.le_of_ble_eq_true rfl) d_Model_laidAt_27) (fun H locs hS => ?_)
        refine lv_iload_n hx hb d_Model_laidAt_30 rfl (lv_at hl 1 rfl) ?_
        refine r_icmp_ne (tgt := 40) C h d_Model_laidAt_31 (by decide) (fun h => ?_) (fun h => ?_)
        · skip
          exact k_Model_laidAt_j40 C hc4 ih h hS (lv_sub hl [0, 1, 3] rfl)
        · skip
          refine lv_iconst (v := 1) hx hb d_Model_laidAt_34 (by decide) ?_
          refine lv_iload_n hx hb d_Model_laidAt_35 rfl (lv_at hl 3 rfl) ?_
          refine lv_ishl hx hb d_Model_laidAt_36 ?_
          refine lv_goto (tgt := 41) hx hb d_Model_laidAt_37 (by decide) ?_
          exact k_Model_laidAt_j41 C hc4 ih h hS (lv_sub hl [0, 1, 3] rfl)
set_option maxHeartbeats 4000000 in
set_option maxRecDepth 100000 in
theorem k_Model_laidAt {l : Launch} {E : En} {p1 : Int32} {X : Mem} {r : Int32} (h : f_Model_laidAt p1 X = some r) : Met l y_Model_laidAt (Cond.code y_Model_laidAt c_Model_laidAt 4 (some .int) :: tb) ({ frames := 2, cells := 0, slots := 0, locals := 44 } : Room) (PreC E [.ref (ad E 70), .int p1] X) (PostI E r X) 0 0 (Ad E) := by
  refine met_of (by decide) (Nat.le_of_ble_eq_true rfl) (fun p e s m below meth c C hS ls hl => ?_)
  replace C : Cx p s m ([.ref (ad E 70), .int p1] : List Value).toArray meth c c_Model_laidAt 4 "TideLoansModel" (some .int) E := C
  replace hl : lv_has ls 4 [(0, .ref (ad E 70)), (1, .int p1)] := hl
  obtain ⟨hx, hb, hml, hown, hts, hrt, hlk, hKx⟩ := id C
  unfold f_Model_laidAt at h
  refine lv_iconst (v := 0) hx hb d_Model_laidAt_0 (by decide) ?_
  refine lv_istore_n (lv' := [(2, .int (0 : Int32)), (0, .ref (ad E 70)), (1, .int p1)]) hx hb d_Model_laidAt_1 rfl hl (by decide) rfl (fun ls hl => ?_)
  refine lv_iconst (v := 0) hx hb d_Model_laidAt_2 (by decide) ?_
  refine lv_istore_n (lv' := [(3, .int (0 : Int32)), (2, .int (0 : Int32)), (0, .ref (ad E 70)), (1, .int p1)]) hx hb d_Model_laidAt_3 rfl hl (by decide) rfl (fun ls hl => ?_)
  exact k_Model_laidAt_b4 C _ FU _ _ _ _ _ h hS (lv_sub hl [2, 3, 1, 0] rfl)
set_option maxHeartbeats 4000000 in
set_option maxRecDepth 100000 in
theorem k_Model_cell_j17 {p : Program} {l : Launch} {e : Env} {s : State} {m : MethodId} {args : Array Value} {below : List Frame} {meth : Method} {c : Code} {E : En} {r : Int32} {Y : Mem} (C : Cx p s m args meth c c_Model_cell 3 "TideLoansModel" (some .int) E) {X : Mem} (h : f_Model_cell_j17 X = some (r, Y)) {H : Heap} {locs : List Loc} (hS : Hs E s.heap X H locs) {ls : Array Slot} (hl : lv_has ls 3 [(0, .ref (ad E 70))]) : W p l e ({ frames := 3, cells := 0, slots := 0, locals := 67 } : Room) s m args below meth c H locs 0 0 (MQ below (PostI E r Y) args s 0 0 (Ad E)) (F0 m 17 ls []) := by
  obtain ⟨hx, hb, hml, hown, hts, hrt, hlk, hKx⟩ := id C
  unfold f_Model_cell_j17 at h
  refine lv_aload_n hx hb d_Model_cell_17 rfl (lv_at hl 0 rfl) ?_
  refine lv_ldc (v := -1000000001) hx hb hown (hts _ tw_858) d_Model_cell_18 ?_
  obtain ⟨v1, X3, hr2, h⟩ := bd2_el h
  refine c_I hS (c_runV (As := [.int (-1000000001 : Int32)]) (rest := []) C hS (by decide) cel_Model (rfl : cls[6]? = some (R_Model, T_Model, 16)) (k_Model_finds (l := l) (E := E) (X := X) hr2) cw_Model_finds ini_Model_finds ins_Model_finds sel_Model_finds tw_859 hd_Model_finds rfl ⟨⟨rfl, rfl⟩, (Nat.le_of_ble_eq_true rfl), (Nat.le_of_ble_eq_true rfl)⟩ ⟨(Nat.le_of_ble_eq_true rfl), (Nat.le_of_ble_eq_true rfl)⟩ hl.1 rfl (Nat.le_of_ble_eq_true rfl) d_Model_cell_20) (fun H locs hS => ?_)
  exact r_iret C hS rfl h d_Model_cell_23
set_option maxHeartbeats 4000000 in
set_option maxRecDepth 100000 in
theorem k_Model_cell {l : Launch} {E : En} {p1 : Int32} {p2 : Int32} {X : Mem} {r : Int32} {Y : Mem} (h : f_Model_cell p1 p2 X = some (r, Y)) : Met l y_Model_cell (Cond.code y_Model_cell c_Model_cell 3 (some .int) :: tb) ({ frames := 3, cells := 0, slots := 0, locals := 67 } : Room) (PreC E [.ref (ad E 70), .int p1, .int p2] X) (PostI E r Y) 0 0 (Ad E) := by
  refine met_of (by decide) (Nat.le_of_ble_eq_true rfl) (fun p e s m below meth c C hS ls hl => ?_)
  replace C : Cx p s m ([.ref (ad E 70), .int p1, .int p2] : List Value).toArray meth c c_Model_cell 3 "TideLoansModel" (some .int) E := C
  replace hl : lv_has ls 3 [(0, .ref (ad E 70)), (1, .int p1), (2, .int p2)] := hl
  obtain ⟨hx, hb, hml, hown, hts, hrt, hlk, hKx⟩ := id C
  unfold f_Model_cell at h
  refine lv_iload_n hx hb d_Model_cell_0 rfl (lv_at hl 1 rfl) ?_
  obtain ⟨v1, hr2, h⟩ := bd_el h
  refine c_I hS (c_runS (As := [.int p1]) (rest := []) C hS (k_Model_isCell (l := l) (E := E) (X := X) hr2) cw_Model_isCell ini_Model_isCell sta_Model_isCell tw_847 hd_Model_isCell rfl ⟨⟨rfl, rfl⟩, (Nat.le_of_ble_eq_true rfl), (Nat.le_of_ble_eq_true rfl)⟩ ⟨(Nat.le_of_ble_eq_true rfl), (Nat.le_of_ble_eq_true rfl)⟩ hl.1 rfl (Nat.le_of_ble_eq_true rfl) d_Model_cell_1) (fun H locs hS => ?_)
  refine r_if_eq (tgt := 17) C h d_Model_cell_4 (by decide) (fun h => ?_) (fun h => ?_)
  · skip
    exact k_Model_cell_j17 C h hS (lv_sub hl [0] rfl)
  · skip
    refine lv_iload_n hx hb d_Model_cell_7 rfl (lv_at hl 2 rfl) ?_
    refine lv_i2l hx hb d_Model_cell_8 rfl ?_
    refine lv_lconst (v := 0) hx hb d_Model_cell_9 (by decide) ?_
    refine lv_lconst (v := 1) hx hb d_Model_cell_10 (by decide) ?_
    obtain ⟨v3, hr4, h⟩ := bd_el h
    refine c_I hS (c_runS (As := [.long (p2.toInt64), .long (0 : Int64), .long (1 : Int64)]) (rest := []) C hS (k_Model_isIn (l := l) (E := E) (X := X) hr4) cw_Model_isIn ini_Model_isIn sta_Model_isIn tw_851 hd_Model_isIn rfl ⟨⟨rfl, rfl⟩, (Nat.le_of_ble_eq_true rfl), (Nat.le_of_ble_eq_true rfl)⟩ ⟨(Nat.le_of_ble_eq_true rfl), (Nat.le_of_ble_eq_true rfl)⟩ hl.1 rfl (Nat.le_of_ble_eq_true rfl) d_Model_cell_11) (fun H locs hS => ?_)
    refine r_if_ne (tgt := 24) C h d_Model_cell_14 (by decide) (fun h => ?_) (fun h => ?_)
    · skip
      refine lv_iload_n hx hb d_Model_cell_24 rfl (lv_at hl 2 rfl) ?_
      refine r_if_ne (tgt := 39) C h d_Model_cell_25 (by decide) (fun h => ?_) (fun h => ?_)
      · skip
        refine lv_aload_n hx hb d_Model_cell_39 rfl (lv_at hl 0 rfl) ?_
        refine lv_iload_n hx hb d_Model_cell_40 rfl (lv_at hl 1 rfl) ?_
        obtain ⟨v5, hr6, h⟩ := bd_el h
        refine c_I hS (c_runV (As := [.int p1]) (rest := []) C hS (by decide) cel_Model (rfl : cls[6]? = some (R_Model, T_Model, 16)) (k_Model_laidAt (l := l) (E := E) (X := X) hr6) cw_Model_laidAt ini_Model_laidAt ins_Model_laidAt sel_Model_laidAt tw_867 hd_Model_laidAt rfl ⟨⟨rfl, rfl⟩, (Nat.le_of_ble_eq_true rfl), (Nat.le_of_ble_eq_true rfl)⟩ ⟨(Nat.le_of_ble_eq_true rfl), (Nat.le_of_ble_eq_true rfl)⟩ hl.1 rfl (Nat.le_of_ble_eq_true rfl) d_Model_cell_41) (fun H locs hS => ?_)
        exact r_iret C hS rfl h d_Model_cell_44
      · skip
        refine lv_aload_n hx hb d_Model_cell_28 rfl (lv_at hl 0 rfl) ?_
        refine r_get C hS (by decide) cel_Model (rfl : cls[6]? = some (R_Model, T_Model, 16)) in_Model 0 (by decide) tw_794 rfl d_Model_cell_29 ?_
        refine lv_iconst (v := 3) hx hb d_Model_cell_32 (by decide) ?_
        refine lv_iload_n hx hb d_Model_cell_33 rfl (lv_at hl 1 rfl) ?_
        refine lv_iadd hx hb d_Model_cell_34 ?_
        refine r_ldI C hS (n := 83) rfl (by decide) h d_Model_cell_35 (fun v7 h => ?_)
        refine lv_goto (tgt := 44) hx hb d_Model_cell_36 (by decide) ?_
        exact r_iret C hS rfl h d_Model_cell_44
    · skip
      exact k_Model_cell_j17 C h hS (lv_sub hl [0] rfl)
set_option maxHeartbeats 4000000 in
set_option maxRecDepth 100000 in
theorem k_Model_interest {l : Launch} {E : En} {p1 : Int32} {X : Mem} {r : Int32} {Y : Mem} (h : f_Model_interest p1 X = some (r, Y)) : Met l y_Model_interest (Cond.code y_Model_interest c_Model_interest 2 (some .int) :: tb) ({ frames := 1, cells := 0, slots := 0, locals := 25 } : Room) (PreC E [.ref (ad E 70), .int p1] X) (PostI E r Y) 0 0 (Ad E) := by
  refine met_of (by decide) (Nat.le_of_ble_eq_true rfl) (fun p e s m below meth c C hS ls hl => ?_)
  replace C : Cx p s m ([.ref (ad E 70), .int p1] : List Value).toArray meth c c_Model_interest 2 "TideLoansModel" (some .int) E := C
  replace hl : lv_has ls 2 [(0, .ref (ad E 70)), (1, .int p1)] := hl
  obtain ⟨hx, hb, hml, hown, hts, hrt, hlk, hKx⟩ := id C
  unfold f_Model_interest at h
  refine lv_iload_n hx hb d_Model_interest_0 rfl (lv_at hl 1 rfl) ?_
  refine lv_i2l hx hb d_Model_interest_1 rfl ?_
  refine lv_lconst (v := 0) hx hb d_Model_interest_2 (by decide) ?_
  refine lv_ldc2 (v := 50) hx hb hown (hts _ tw_883) d_Model_interest_3 ?_
  obtain ⟨v1, hr2, h⟩ := bd_el h
  refine c_I hS (c_runS (As := [.long (p1.toInt64), .long (0 : Int64), .long (50 : Int64)]) (rest := []) C hS (k_Model_isIn (l := l) (E := E) (X := X) hr2) cw_Model_isIn ini_Model_isIn sta_Model_isIn tw_851 hd_Model_isIn rfl ⟨⟨rfl, rfl⟩, (Nat.le_of_ble_eq_true rfl), (Nat.le_of_ble_eq_true rfl)⟩ ⟨(Nat.le_of_ble_eq_true rfl), (Nat.le_of_ble_eq_true rfl)⟩ hl.1 rfl (Nat.le_of_ble_eq_true rfl) d_Model_interest_6) (fun H locs hS => ?_)
  refine r_if_eq (tgt := 21) C h d_Model_interest_9 (by decide) (fun h => ?_) (fun h => ?_)
  · skip
    refine lv_aload_n hx hb d_Model_interest_21 rfl (lv_at hl 0 rfl) ?_
    refine lv_ldc (v := -1000000001) hx hb hown (hts _ tw_858) d_Model_interest_22 ?_
    obtain ⟨v3, X5, hr4, h⟩ := bd2_el h
    refine c_I hS (c_runV (As := [.int (-1000000001 : Int32)]) (rest := []) C hS (by decide) cel_Model (rfl : cls[6]? = some (R_Model, T_Model, 16)) (k_Model_finds (l := l) (E := E) (X := X) hr4) cw_Model_finds ini_Model_finds ins_Model_finds sel_Model_finds tw_859 hd_Model_finds rfl ⟨⟨rfl, rfl⟩, (Nat.le_of_ble_eq_true rfl), (Nat.le_of_ble_eq_true rfl)⟩ ⟨(Nat.le_of_ble_eq_true rfl), (Nat.le_of_ble_eq_true rfl)⟩ hl.1 rfl (Nat.le_of_ble_eq_true rfl) d_Model_interest_24) (fun H locs hS => ?_)
    exact r_iret C hS rfl h d_Model_interest_27
  · skip
    refine lv_aload_n hx hb d_Model_interest_12 rfl (lv_at hl 0 rfl) ?_
    refine lv_iconst (v := 2) hx hb d_Model_interest_13 (by decide) ?_
    refine lv_iload_n hx hb d_Model_interest_14 rfl (lv_at hl 1 rfl) ?_
    obtain ⟨v6, X8, hr7, h⟩ := bd2_el h
    refine c_I hS (c_runV (As := [.int (2 : Int32), .int p1]) (rest := []) C hS (by decide) cel_Model (rfl : cls[6]? = some (R_Model, T_Model, 16)) (k_Model_becomes (l := l) (E := E) (X := X) hr7) cw_Model_becomes ini_Model_becomes ins_Model_becomes sel_Model_becomes tw_854 hd_Model_becomes rfl ⟨⟨rfl, rfl⟩, (Nat.le_of_ble_eq_true rfl), (Nat.le_of_ble_eq_true rfl)⟩ ⟨(Nat.le_of_ble_eq_true rfl), (Nat.le_of_ble_eq_true rfl)⟩ hl.1 rfl (Nat.le_of_ble_eq_true rfl) d_Model_interest_15) (fun H locs hS => ?_)
    refine lv_goto (tgt := 27) hx hb d_Model_interest_18 (by decide) ?_
    exact r_iret C hS rfl h d_Model_interest_27
set_option maxHeartbeats 4000000 in
set_option maxRecDepth 100000 in
theorem k_Model_isSpring {l : Launch} {E : En} {p0 : Int32} {X : Mem} {r : Int32} (h : f_Model_isSpring p0 = some r) : Met l y_Model_isSpring (Cond.code y_Model_isSpring c_Model_isSpring 1 (some .boolean) :: tb) ({ frames := 0, cells := 0, slots := 0, locals := 0 } : Room) (PreC E [.int p0] X) (PostI E r X) 0 0 (Ad E) := by
  refine met_of (by decide) (Nat.le_of_ble_eq_true rfl) (fun p e s m below meth c C hS ls hl => ?_)
  replace C : Cx p s m ([.int p0] : List Value).toArray meth c c_Model_isSpring 1 "TideLoansModel" (some .boolean) E := C
  replace hl : lv_has ls 1 [(0, .int p0)] := hl
  obtain ⟨hx, hb, hml, hown, hts, hrt, hlk, hKx⟩ := id C
  unfold f_Model_isSpring at h
  refine lv_iload_n hx hb d_Model_isSpring_0 rfl (lv_at hl 0 rfl) ?_
  refine lv_bipush (v := 14) hx hb d_Model_isSpring_1 (by decide) ?_
  refine lv_irem hx hb d_Model_isSpring_3 (by decide) ?_
  refine r_if_ne (tgt := 11) C h d_Model_isSpring_4 (by decide) (fun h => ?_) (fun h => ?_)
  · skip
    refine lv_iconst (v := 0) hx hb d_Model_isSpring_11 (by decide) ?_
    exact r_zret0 C hS rfl (Or.inl rfl) h d_Model_isSpring_12
  · skip
    refine lv_iconst (v := 1) hx hb d_Model_isSpring_7 (by decide) ?_
    refine lv_goto (tgt := 12) hx hb d_Model_isSpring_8 (by decide) ?_
    exact r_zret0 C hS rfl (Or.inr rfl) h d_Model_isSpring_12
set_option maxHeartbeats 4000000 in
set_option maxRecDepth 100000 in
theorem k_Model_mark {l : Launch} {E : En} {p0 : Int32} {X : Mem} {r : Int32} (h : f_Model_mark p0 = some r) : Met l y_Model_mark (Cond.code y_Model_mark c_Model_mark 2 (some .int) :: tb) ({ frames := 0, cells := 0, slots := 0, locals := 0 } : Room) (PreC E [.int p0] X) (PostI E r X) 0 0 (Ad E) := by
  refine met_of (by decide) (Nat.le_of_ble_eq_true rfl) (fun p e s m below meth c C hS ls hl => ?_)
  replace C : Cx p s m ([.int p0] : List Value).toArray meth c c_Model_mark 2 "TideLoansModel" (some .int) E := C
  replace hl : lv_has ls 2 [(0, .int p0)] := hl
  obtain ⟨hx, hb, hml, hown, hts, hrt, hlk, hKx⟩ := id C
  unfold f_Model_mark at h
  refine lv_iload_n hx hb d_Model_mark_0 rfl (lv_at hl 0 rfl) ?_
  refine lv_bipush (v := 14) hx hb d_Model_mark_1 (by decide) ?_
  refine lv_irem hx hb d_Model_mark_3 (by decide) ?_
  refine r_top h (fun v1 h => ?_)
  refine lv_istore_n (lv' := [(1, .int v1), (0, .int p0)]) hx hb d_Model_mark_4 rfl hl (by decide) rfl (fun ls hl => ?_)
  refine lv_iload_n hx hb d_Model_mark_5 rfl (lv_at hl 0 rfl) ?_
  refine lv_bipush (v := 7) hx hb d_Model_mark_6 (by decide) ?_
  refine r_icmp_ge (tgt := 18) C h d_Model_mark_8 (by decide) (fun h => ?_) (fun h => ?_)
  · skip
    refine lv_iload_n hx hb d_Model_mark_18 rfl (lv_at hl 0 rfl) ?_
    refine lv_iconst (v := 5) hx hb d_Model_mark_19 (by decide) ?_
    refine lv_isub hx hb d_Model_mark_20 ?_
    exact r_iret0 C hS rfl h d_Model_mark_21
  · skip
    refine lv_bipush (v := 9) hx hb d_Model_mark_11 (by decide) ?_
    refine lv_iload_n hx hb d_Model_mark_13 rfl (lv_at hl 0 rfl) ?_
    refine lv_isub hx hb d_Model_mark_14 ?_
    refine lv_goto (tgt := 21) hx hb d_Model_mark_15 (by decide) ?_
    exact r_iret0 C hS rfl h d_Model_mark_21
def I_Model_tide_b77 (p : Program) (l : Launch) (e : Env) (s : State) (m : MethodId) (args : Array Value) (below : List Frame) (meth : Method) (c : Code) (E : En) (r : Int32) (Y : Mem) (x1 : Int32) (X : Mem) (n : Nat) (tg : (Int32 × Mem)) : Prop := ∀ (x3 : Int32) (x4 : Int32) (H : Heap) (locs : List Loc) (ls : Array Slot), it (fun a => f_Model_tide_b77 x1 X a.1 a.2) n (x3, x4) = some tg → Hs E s.heap X H locs → lv_has ls 5 [(0, .ref (ad E 70)), (1, .int x1), (3, .int x3), (4, .int x4)] → W p l e ({ frames := 1, cells := 0, slots := 0, locals := 25 } : Room) s m args below meth c H locs 0 0 (MQ below (PostI E r Y) args s 0 0 (Ad E)) (F0 m 77 ls [])
set_option maxHeartbeats 4000000 in
set_option maxRecDepth 100000 in
theorem k_Model_tide_j106 {p : Program} {l : Launch} {e : Env} {s : State} {m : MethodId} {args : Array Value} {below : List Frame} {meth : Method} {c : Code} {E : En} {r : Int32} {Y : Mem} (C : Cx p s m args meth c c_Model_tide 5 "TideLoansModel" (some .int) E) {x1 : Int32} {x4 : Int32} {q0 : Int32} {q1 : Int32} {X : Mem} {tg : ((Int32 × Mem) ⊕ (Int32 × Int32))} {n77 : Nat} (hc77 : fin (fun a => f_Model_tide_b77 x1 X a.1 a.2) n77 (r, Y) tg) (ih77 : I_Model_tide_b77 p l e s m args below meth c E r Y x1 X n77 (r, Y)) (h : f_Model_tide_j106 x1 x4 q0 q1 X = some tg) {H : Heap} {locs : List Loc} (hS : Hs E s.heap X H locs) {ls : Array Slot} (hl : lv_has ls 5 [(0, .ref (ad E 70)), (1, .int x1), (4, .int x4)]) : W p l e ({ frames := 1, cells := 0, slots := 0, locals := 25 } : Room) s m args below meth c H locs 0 0 (MQ below (PostI E r Y) args s 0 0 (Ad E)) (F0 m 106 ls [.int q1, .int q0]) := by
  obtain ⟨hx, hb, hml, hown, hts, hrt, hlk, hKx⟩ := id C
  unfold f_Model_tide_j106 at h
  refine lv_iadd hx hb d_Model_tide_106 ?_
  refine r_top h (fun v1 h => ?_)
  refine lv_istore_n (lv' := [(3, .int v1), (0, .ref (ad E 70)), (1, .int x1), (4, .int x4)]) hx hb d_Model_tide_107 rfl hl (by decide) rfl (fun ls hl => ?_)
  refine r_iinc C (w := 1) (lv' := fun z => [(4, .int z), (3, .int v1), (0, .ref (ad E 70)), (1, .int x1)]) h d_Model_tide_108 hl (k := 3) rfl (by decide) (by decide) (fun _ => rfl) (fun v2 ls h hl => ?_)
  refine lv_goto (tgt := 77) hx hb d_Model_tide_111 (by decide) ?_
  exact ih77 _ _ _ _ _ (lp_next h hc77) hS (lv_sub hl [2, 3, 1, 0] rfl)
set_option maxHeartbeats 4000000 in
set_option maxRecDepth 100000 in
theorem k_Model_tide_b77 {p : Program} {l : Launch} {e : Env} {s : State} {m : MethodId} {args : Array Value} {below : List Frame} {meth : Method} {c : Code} {E : En} {r : Int32} {Y : Mem} (C : Cx p s m args meth c c_Model_tide 5 "TideLoansModel" (some .int) E) (x1 : Int32) {X : Mem} : ∀ n, I_Model_tide_b77 p l e s m args below meth c E r Y x1 X n (r, Y) := by
  obtain ⟨hx, hb, hml, hown, hts, hrt, hlk, hKx⟩ := id C
  intro n
  induction n with
  | zero => intro x3 x4 H locs ls h; exact it_0 h
  | succ n ih =>
    intro x3 x4 H locs ls h hS hl
    obtain ⟨cc77, h, hc77⟩ := it_el h
    replace h : f_Model_tide_b77 x1 X x3 x4 = some cc77 := h
    unfold f_Model_tide_b77 at h
    refine lv_iload hx hb d_Model_tide_77 (lv_at hl 3 rfl) ?_
    refine lv_bipush (v := 16) hx hb d_Model_tide_79 (by decide) ?_
    refine r_icmp_ge (tgt := 114) C h d_Model_tide_81 (by decide) (fun h => ?_) (fun h => ?_)
    · skip
      refine lv_iload_n hx hb d_Model_tide_114 rfl (lv_at hl 2 rfl) ?_
      replace h := lp_ret h hc77
      exact r_iret C hS rfl h d_Model_tide_115
    · skip
      refine lv_iload_n hx hb d_Model_tide_84 rfl (lv_at hl 2 rfl) ?_
      refine lv_aload_n hx hb d_Model_tide_85 rfl (lv_at hl 0 rfl) ?_
      refine r_get C hS (by decide) cel_Model (rfl : cls[6]? = some (R_Model, T_Model, 16)) in_Model 0 (by decide) tw_794 rfl d_Model_tide_86 ?_
      refine lv_iconst (v := 3) hx hb d_Model_tide_89 (by decide) ?_
      refine lv_iload hx hb d_Model_tide_90 (lv_at hl 3 rfl) ?_
      refine lv_iadd hx hb d_Model_tide_92 ?_
      refine r_ldI C hS (n := 83) rfl (by decide) h d_Model_tide_93 (fun v1 h => ?_)
      refine lv_iload_n hx hb d_Model_tide_94 rfl (lv_at hl 1 rfl) ?_
      obtain ⟨v2, hr3, h⟩ := bd_el h
      refine c_I hS (c_runS (As := [.int x1]) (rest := [.int v1, .int x3]) C hS (k_Model_mark (l := l) (E := E) (X := X) hr3) cw_Model_mark ini_Model_mark sta_Model_mark tw_890 hd_Model_mark rfl ⟨⟨rfl, rfl⟩, (Nat.le_of_ble_eq_true rfl), (Nat.le_of_ble_eq_true rfl)⟩ ⟨(Nat.le_of_ble_eq_true rfl), (Nat.le_of_ble_eq_true rfl)⟩ hl.1 rfl (Nat.le_of_ble_eq_true rfl) d_Model_tide_95) (fun H locs hS => ?_)
      refine r_icmp_ge (tgt := 105) C h d_Model_tide_98 (by decide) (fun h => ?_) (fun h => ?_)
      · skip
        refine lv_iconst (v := 0) hx hb d_Model_tide_105 (by decide) ?_
        exact k_Model_tide_j106 C hc77 ih h hS (lv_sub hl [0, 1, 3] rfl)
      · skip
        refine lv_iconst (v := 1) hx hb d_Model_tide_101 (by decide) ?_
        refine lv_goto (tgt := 106) hx hb d_Model_tide_102 (by decide) ?_
        exact k_Model_tide_j106 C hc77 ih h hS (lv_sub hl [0, 1, 3] rfl)
set_option maxHeartbeats 4000000 in
set_option maxRecDepth 100000 in
theorem k_Model_tide_j24 {p : Program} {l : Launch} {e : Env} {s : State} {m : MethodId} {args : Array Value} {below : List Frame} {meth : Method} {c : Code} {E : En} {r : Int32} {Y : Mem} (C : Cx p s m args meth c c_Model_tide 5 "TideLoansModel" (some .int) E) {X : Mem} (h : f_Model_tide_j24 X = some (r, Y)) {H : Heap} {locs : List Loc} (hS : Hs E s.heap X H locs) {ls : Array Slot} (hl : lv_has ls 5 [(0, .ref (ad E 70))]) : W p l e ({ frames := 1, cells := 0, slots := 0, locals := 25 } : Room) s m args below meth c H locs 0 0 (MQ below (PostI E r Y) args s 0 0 (Ad E)) (F0 m 24 ls []) := by
  obtain ⟨hx, hb, hml, hown, hts, hrt, hlk, hKx⟩ := id C
  unfold f_Model_tide_j24 at h
  refine lv_aload_n hx hb d_Model_tide_24 rfl (lv_at hl 0 rfl) ?_
  refine lv_ldc (v := -1000000001) hx hb hown (hts _ tw_858) d_Model_tide_25 ?_
  obtain ⟨v1, X3, hr2, h⟩ := bd2_el h
  refine c_I hS (c_runV (As := [.int (-1000000001 : Int32)]) (rest := []) C hS (by decide) cel_Model (rfl : cls[6]? = some (R_Model, T_Model, 16)) (k_Model_finds (l := l) (E := E) (X := X) hr2) cw_Model_finds ini_Model_finds ins_Model_finds sel_Model_finds tw_859 hd_Model_finds rfl ⟨⟨rfl, rfl⟩, (Nat.le_of_ble_eq_true rfl), (Nat.le_of_ble_eq_true rfl)⟩ ⟨(Nat.le_of_ble_eq_true rfl), (Nat.le_of_ble_eq_true rfl)⟩ hl.1 rfl (Nat.le_of_ble_eq_true rfl) d_Model_tide_27) (fun H locs hS => ?_)
  exact r_iret C hS rfl h d_Model_tide_30
set_option maxHeartbeats 4000000 in
set_option maxRecDepth 100000 in
theorem k_Model_tide {l : Launch} {E : En} {p1 : Int32} {p2 : Int32} {X : Mem} {r : Int32} {Y : Mem} (h : f_Model_tide p1 p2 X = some (r, Y)) : Met l y_Model_tide (Cond.code y_Model_tide c_Model_tide 5 (some .int) :: tb) ({ frames := 1, cells := 0, slots := 0, locals := 25 } : Room) (PreC E [.ref (ad E 70), .int p1, .int p2] X) (PostI E r Y) 0 0 (Ad E) := by
  refine met_of (by decide) (Nat.le_of_ble_eq_true rfl) (fun p e s m below meth c C hS ls hl => ?_)
  replace C : Cx p s m ([.ref (ad E 70), .int p1, .int p2] : List Value).toArray meth c c_Model_tide 5 "TideLoansModel" (some .int) E := C
  replace hl : lv_has ls 5 [(0, .ref (ad E 70)), (1, .int p1), (2, .int p2)] := hl
  obtain ⟨hx, hb, hml, hown, hts, hrt, hlk, hKx⟩ := id C
  unfold f_Model_tide at h
  refine lv_iload_n hx hb d_Model_tide_0 rfl (lv_at hl 1 rfl) ?_
  refine lv_i2l hx hb d_Model_tide_1 rfl ?_
  refine lv_lconst (v := 0) hx hb d_Model_tide_2 (by decide) ?_
  refine lv_ldc2 (v := 99999) hx hb hown (hts _ tw_888) d_Model_tide_3 ?_
  obtain ⟨v1, hr2, h⟩ := bd_el h
  refine c_I hS (c_runS (As := [.long (p1.toInt64), .long (0 : Int64), .long (99999 : Int64)]) (rest := []) C hS (k_Model_isIn (l := l) (E := E) (X := X) hr2) cw_Model_isIn ini_Model_isIn sta_Model_isIn tw_851 hd_Model_isIn rfl ⟨⟨rfl, rfl⟩, (Nat.le_of_ble_eq_true rfl), (Nat.le_of_ble_eq_true rfl)⟩ ⟨(Nat.le_of_ble_eq_true rfl), (Nat.le_of_ble_eq_true rfl)⟩ hl.1 rfl (Nat.le_of_ble_eq_true rfl) d_Model_tide_6) (fun H locs hS => ?_)
  refine r_if_eq (tgt := 24) C h d_Model_tide_9 (by decide) (fun h => ?_) (fun h => ?_)
  · skip
    exact k_Model_tide_j24 C h hS (lv_sub hl [0] rfl)
  · skip
    refine lv_iload_n hx hb d_Model_tide_12 rfl (lv_at hl 2 rfl) ?_
    refine lv_i2l hx hb d_Model_tide_13 rfl ?_
    refine lv_lconst (v := 0) hx hb d_Model_tide_14 (by decide) ?_
    refine lv_ldc2 (v := 3) hx hb hown (hts _ tw_889) d_Model_tide_15 ?_
    obtain ⟨v3, hr4, h⟩ := bd_el h
    refine c_I hS (c_runS (As := [.long (p2.toInt64), .long (0 : Int64), .long (3 : Int64)]) (rest := []) C hS (k_Model_isIn (l := l) (E := E) (X := X) hr4) cw_Model_isIn ini_Model_isIn sta_Model_isIn tw_851 hd_Model_isIn rfl ⟨⟨rfl, rfl⟩, (Nat.le_of_ble_eq_true rfl), (Nat.le_of_ble_eq_true rfl)⟩ ⟨(Nat.le_of_ble_eq_true rfl), (Nat.le_of_ble_eq_true rfl)⟩ hl.1 rfl (Nat.le_of_ble_eq_true rfl) d_Model_tide_18) (fun H locs hS => ?_)
    refine r_if_ne (tgt := 31) C h d_Model_tide_21 (by decide) (fun h => ?_) (fun h => ?_)
    · skip
      refine lv_iload_n hx hb d_Model_tide_31 rfl (lv_at hl 2 rfl) ?_
      refine lv_iconst (v := 3) hx hb d_Model_tide_32 (by decide) ?_
      refine r_icmp_ge (tgt := 72) C h d_Model_tide_33 (by decide) (fun h => ?_) (fun h => ?_)
      · skip
        refine lv_iconst (v := 0) hx hb d_Model_tide_72 (by decide) ?_
        refine lv_istore_n (lv' := [(3, .int (0 : Int32)), (0, .ref (ad E 70)), (1, .int p1), (2, .int p2)]) hx hb d_Model_tide_73 rfl hl (by decide) rfl (fun ls hl => ?_)
        refine lv_iconst (v := 0) hx hb d_Model_tide_74 (by decide) ?_
        refine lv_istore (lv' := [(4, .int (0 : Int32)), (3, .int (0 : Int32)), (0, .ref (ad E 70)), (1, .int p1), (2, .int p2)]) hx hb d_Model_tide_75 hl (by decide) rfl (fun ls hl => ?_)
        exact k_Model_tide_b77 C _ FU _ _ _ _ _ h hS (lv_sub hl [2, 3, 1, 0] rfl)
      · skip
        refine lv_iload_n hx hb d_Model_tide_36 rfl (lv_at hl 2 rfl) ?_
        refine r_if_ne (tgt := 47) C h d_Model_tide_37 (by decide) (fun h => ?_) (fun h => ?_)
        · skip
          refine lv_iload_n hx hb d_Model_tide_47 rfl (lv_at hl 2 rfl) ?_
          refine lv_iconst (v := 1) hx hb d_Model_tide_48 (by decide) ?_
          refine r_icmp_ne (tgt := 59) C h d_Model_tide_49 (by decide) (fun h => ?_) (fun h => ?_)
          · skip
            refine lv_iload_n hx hb d_Model_tide_59 rfl (lv_at hl 1 rfl) ?_
            obtain ⟨v5, hr6, h⟩ := bd_el h
            refine c_I hS (c_runS (As := [.int p1]) (rest := []) C hS (k_Model_isSpring (l := l) (E := E) (X := X) hr6) cw_Model_isSpring ini_Model_isSpring sta_Model_isSpring tw_893 hd_Model_isSpring rfl ⟨⟨rfl, rfl⟩, (Nat.le_of_ble_eq_true rfl), (Nat.le_of_ble_eq_true rfl)⟩ ⟨(Nat.le_of_ble_eq_true rfl), (Nat.le_of_ble_eq_true rfl)⟩ hl.1 rfl (Nat.le_of_ble_eq_true rfl) d_Model_tide_60) (fun H locs hS => ?_)
            refine r_if_eq (tgt := 70) C h d_Model_tide_63 (by decide) (fun h => ?_) (fun h => ?_)
            · skip
              refine lv_iconst (v := 0) hx hb d_Model_tide_70 (by decide) ?_
              exact r_iret C hS rfl h d_Model_tide_71
            · skip
              refine lv_iconst (v := 1) hx hb d_Model_tide_66 (by decide) ?_
              refine lv_goto (tgt := 71) hx hb d_Model_tide_67 (by decide) ?_
              exact r_iret C hS rfl h d_Model_tide_71
          · skip
            refine lv_iload_n hx hb d_Model_tide_52 rfl (lv_at hl 1 rfl) ?_
            refine lv_bipush (v := 28) hx hb d_Model_tide_53 (by decide) ?_
            refine lv_irem hx hb d_Model_tide_55 (by decide) ?_
            refine lv_goto (tgt := 71) hx hb d_Model_tide_56 (by decide) ?_
            exact r_iret C hS rfl h d_Model_tide_71
        · skip
          refine lv_iload_n hx hb d_Model_tide_40 rfl (lv_at hl 1 rfl) ?_
          obtain ⟨v7, hr8, h⟩ := bd_el h
          refine c_I hS (c_runS (As := [.int p1]) (rest := []) C hS (k_Model_mark (l := l) (E := E) (X := X) hr8) cw_Model_mark ini_Model_mark sta_Model_mark tw_890 hd_Model_mark rfl ⟨⟨rfl, rfl⟩, (Nat.le_of_ble_eq_true rfl), (Nat.le_of_ble_eq_true rfl)⟩ ⟨(Nat.le_of_ble_eq_true rfl), (Nat.le_of_ble_eq_true rfl)⟩ hl.1 rfl (Nat.le_of_ble_eq_true rfl) d_Model_tide_41) (fun H locs hS => ?_)
          refine lv_goto (tgt := 71) hx hb d_Model_tide_44 (by decide) ?_
          exact r_iret C hS rfl h d_Model_tide_71
    · skip
      exact k_Model_tide_j24 C h hS (lv_sub hl [0] rfl)
set_option maxHeartbeats 4000000 in
set_option maxRecDepth 100000 in
theorem k_Model_purse_j31 {p : Program} {l : Launch} {e : Env} {s : State} {m : MethodId} {args : Array Value} {below : List Frame} {meth : Method} {c : Code} {E : En} {r : Int32} {Y : Mem} (C : Cx p s m args meth c c_Model_purse 3 "TideLoansModel" (some .int) E) {X : Mem} (h : f_Model_purse_j31 X = some (r, Y)) {H : Heap} {locs : List Loc} (hS : Hs E s.heap X H locs) {ls : Array Slot} (hl : lv_has ls 3 [(0, .ref (ad E 70))]) : W p l e ({ frames := 1, cells := 0, slots := 0, locals := 25 } : Room) s m args below meth c H locs 0 0 (MQ below (PostI E r Y) args s 0 0 (Ad E)) (F0 m 31 ls []) := by
  obtain ⟨hx, hb, hml, hown, hts, hrt, hlk, hKx⟩ := id C
  unfold f_Model_purse_j31 at h
  refine lv_aload_n hx hb d_Model_purse_31 rfl (lv_at hl 0 rfl) ?_
  refine lv_ldc (v := -1000000001) hx hb hown (hts _ tw_858) d_Model_purse_32 ?_
  obtain ⟨v1, X3, hr2, h⟩ := bd2_el h
  refine c_I hS (c_runV (As := [.int (-1000000001 : Int32)]) (rest := []) C hS (by decide) cel_Model (rfl : cls[6]? = some (R_Model, T_Model, 16)) (k_Model_finds (l := l) (E := E) (X := X) hr2) cw_Model_finds ini_Model_finds ins_Model_finds sel_Model_finds tw_859 hd_Model_finds rfl ⟨⟨rfl, rfl⟩, (Nat.le_of_ble_eq_true rfl), (Nat.le_of_ble_eq_true rfl)⟩ ⟨(Nat.le_of_ble_eq_true rfl), (Nat.le_of_ble_eq_true rfl)⟩ hl.1 rfl (Nat.le_of_ble_eq_true rfl) d_Model_purse_34) (fun H locs hS => ?_)
  exact r_iret C hS rfl h d_Model_purse_37
set_option maxHeartbeats 4000000 in
set_option maxRecDepth 100000 in
theorem k_Model_purse {l : Launch} {E : En} {p1 : Int32} {p2 : Int32} {X : Mem} {r : Int32} {Y : Mem} (h : f_Model_purse p1 p2 X = some (r, Y)) : Met l y_Model_purse (Cond.code y_Model_purse c_Model_purse 3 (some .int) :: tb) ({ frames := 1, cells := 0, slots := 0, locals := 25 } : Room) (PreC E [.ref (ad E 70), .int p1, .int p2] X) (PostI E r Y) 0 0 (Ad E) := by
  refine met_of (by decide) (Nat.le_of_ble_eq_true rfl) (fun p e s m below meth c C hS ls hl => ?_)
  replace C : Cx p s m ([.ref (ad E 70), .int p1, .int p2] : List Value).toArray meth c c_Model_purse 3 "TideLoansModel" (some .int) E := C
  replace hl : lv_has ls 3 [(0, .ref (ad E 70)), (1, .int p1), (2, .int p2)] := hl
  obtain ⟨hx, hb, hml, hown, hts, hrt, hlk, hKx⟩ := id C
  unfold f_Model_purse at h
  refine lv_iload_n hx hb d_Model_purse_0 rfl (lv_at hl 1 rfl) ?_
  obtain ⟨v1, hr2, h⟩ := bd_el h
  refine c_I hS (c_runS (As := [.int p1]) (rest := []) C hS (k_Model_isFamily (l := l) (E := E) (X := X) hr2) cw_Model_isFamily ini_Model_isFamily sta_Model_isFamily tw_900 hd_Model_isFamily rfl ⟨⟨rfl, rfl⟩, (Nat.le_of_ble_eq_true rfl), (Nat.le_of_ble_eq_true rfl)⟩ ⟨(Nat.le_of_ble_eq_true rfl), (Nat.le_of_ble_eq_true rfl)⟩ hl.1 rfl (Nat.le_of_ble_eq_true rfl) d_Model_purse_1) (fun H locs hS => ?_)
  refine r_if_eq (tgt := 31) C h d_Model_purse_4 (by decide) (fun h => ?_) (fun h => ?_)
  · skip
    exact k_Model_purse_j31 C h hS (lv_sub hl [0] rfl)
  · skip
    refine lv_iload_n hx hb d_Model_purse_7 rfl (lv_at hl 2 rfl) ?_
    refine lv_i2l hx hb d_Model_purse_8 rfl ?_
    refine lv_lconst (v := 0) hx hb d_Model_purse_9 (by decide) ?_
    refine lv_ldc2 (v := 999999999) hx hb hown (hts _ tw_903) d_Model_purse_10 ?_
    obtain ⟨v3, hr4, h⟩ := bd_el h
    refine c_I hS (c_runS (As := [.long (p2.toInt64), .long (0 : Int64), .long (999999999 : Int64)]) (rest := []) C hS (k_Model_isIn (l := l) (E := E) (X := X) hr4) cw_Model_isIn ini_Model_isIn sta_Model_isIn tw_851 hd_Model_isIn rfl ⟨⟨rfl, rfl⟩, (Nat.le_of_ble_eq_true rfl), (Nat.le_of_ble_eq_true rfl)⟩ ⟨(Nat.le_of_ble_eq_true rfl), (Nat.le_of_ble_eq_true rfl)⟩ hl.1 rfl (Nat.le_of_ble_eq_true rfl) d_Model_purse_13) (fun H locs hS => ?_)
    refine r_if_eq (tgt := 31) C h d_Model_purse_16 (by decide) (fun h => ?_) (fun h => ?_)
    · skip
      exact k_Model_purse_j31 C h hS (lv_sub hl [0] rfl)
    · skip
      refine lv_aload_n hx hb d_Model_purse_19 rfl (lv_at hl 0 rfl) ?_
      refine lv_bipush (v := 19) hx hb d_Model_purse_20 (by decide) ?_
      refine lv_iload_n hx hb d_Model_purse_22 rfl (lv_at hl 1 rfl) ?_
      refine lv_iadd hx hb d_Model_purse_23 ?_
      refine lv_iload_n hx hb d_Model_purse_24 rfl (lv_at hl 2 rfl) ?_
      obtain ⟨v5, X7, hr6, h⟩ := bd2_el h
      refine c_I hS (c_runV (As := [.int ((19 : Int32) + p1), .int p2]) (rest := []) C hS (by decide) cel_Model (rfl : cls[6]? = some (R_Model, T_Model, 16)) (k_Model_becomes (l := l) (E := E) (X := X) hr6) cw_Model_becomes ini_Model_becomes ins_Model_becomes sel_Model_becomes tw_854 hd_Model_becomes rfl ⟨⟨rfl, rfl⟩, (Nat.le_of_ble_eq_true rfl), (Nat.le_of_ble_eq_true rfl)⟩ ⟨(Nat.le_of_ble_eq_true rfl), (Nat.le_of_ble_eq_true rfl)⟩ hl.1 rfl (Nat.le_of_ble_eq_true rfl) d_Model_purse_25) (fun H locs hS => ?_)
      refine lv_goto (tgt := 37) hx hb d_Model_purse_28 (by decide) ?_
      exact r_iret C hS rfl h d_Model_purse_37
set_option maxHeartbeats 4000000 in
set_option maxRecDepth 100000 in
theorem k_Model_comes {l : Launch} {E : En} {p1 : Int32} {p2 : Int32} {X : Mem} {Y : Mem} (h : f_Model_comes p1 p2 X = some Y) : Met l y_Model_comes (Cond.code y_Model_comes c_Model_comes 4 none :: tb) ({ frames := 1, cells := 0, slots := 0, locals := 21 } : Room) (PreC E [.ref (ad E 70), .int p1, .int p2] X) (PostV E Y) 0 0 (Ad E) := by
  refine met_of (by decide) (Nat.le_of_ble_eq_true rfl) (fun p e s m below meth c C hS ls hl => ?_)
  replace C : Cx p s m ([.ref (ad E 70), .int p1, .int p2] : List Value).toArray meth c c_Model_comes 4 "TideLoansModel" none E := C
  replace hl : lv_has ls 4 [(0, .ref (ad E 70)), (1, .int p1), (2, .int p2)] := hl
  obtain ⟨hx, hb, hml, hown, hts, hrt, hlk, hKx⟩ := id C
  unfold f_Model_comes at h
  refine lv_aload_n hx hb d_Model_comes_0 rfl (lv_at hl 0 rfl) ?_
  refine r_get C hS (by decide) cel_Model (rfl : cls[6]? = some (R_Model, T_Model, 16)) in_Model 0 (by decide) tw_794 rfl d_Model_comes_1 ?_
  refine lv_iconst (v := 0) hx hb d_Model_comes_4 (by decide) ?_
  refine r_ldI C hS (n := 83) rfl (by decide) h d_Model_comes_5 (fun v1 h => ?_)
  refine lv_istore_n (lv' := [(3, .int v1), (0, .ref (ad E 70)), (1, .int p1), (2, .int p2)]) hx hb d_Model_comes_6 rfl hl (by decide) rfl (fun ls hl => ?_)
  refine lv_aload_n hx hb d_Model_comes_7 rfl (lv_at hl 1 rfl) ?_
  refine r_get C hS (by decide) cel_Model (rfl : cls[6]? = some (R_Model, T_Model, 16)) in_Model 0 (by decide) tw_794 rfl d_Model_comes_8 ?_
  refine lv_iload_n hx hb d_Model_comes_11 rfl (lv_at hl 0 rfl) ?_
  refine lv_iconst (v := 0) hx hb d_Model_comes_12 (by decide) ?_
  obtain ⟨v2, hr3, h⟩ := bd_el h
  refine c_I hS (c_runS (As := [.int v1, .int (0 : Int32)]) (rest := [.ref (ad E 71)]) C hS (k_Model_at (l := l) (E := E) (X := X) hr3) cw_Model_at ini_Model_at sta_Model_at tw_914 hd_Model_at rfl ⟨⟨rfl, rfl⟩, (Nat.le_of_ble_eq_true rfl), (Nat.le_of_ble_eq_true rfl)⟩ ⟨(Nat.le_of_ble_eq_true rfl), (Nat.le_of_ble_eq_true rfl)⟩ hl.1 rfl (Nat.le_of_ble_eq_true rfl) d_Model_comes_13) (fun H locs hS => ?_)
  refine lv_iload_n hx hb d_Model_comes_16 rfl (lv_at hl 2 rfl) ?_
  refine r_stI C hS (n := 83) rfl (by decide) h d_Model_comes_17 (fun X4 H locs hS h => ?_)
  refine lv_aload_n hx hb d_Model_comes_18 rfl (lv_at hl 1 rfl) ?_
  refine r_get C hS (by decide) cel_Model (rfl : cls[6]? = some (R_Model, T_Model, 16)) in_Model 0 (by decide) tw_794 rfl d_Model_comes_19 ?_
  refine lv_iload_n hx hb d_Model_comes_22 rfl (lv_at hl 0 rfl) ?_
  refine lv_iconst (v := 1) hx hb d_Model_comes_23 (by decide) ?_
  obtain ⟨v5, hr6, h⟩ := bd_el h
  refine c_I hS (c_runS (As := [.int v1, .int (1 : Int32)]) (rest := [.ref (ad E 71)]) C hS (k_Model_at (l := l) (E := E) (X := X4) hr6) cw_Model_at ini_Model_at sta_Model_at tw_914 hd_Model_at rfl ⟨⟨rfl, rfl⟩, (Nat.le_of_ble_eq_true rfl), (Nat.le_of_ble_eq_true rfl)⟩ ⟨(Nat.le_of_ble_eq_true rfl), (Nat.le_of_ble_eq_true rfl)⟩ hl.1 rfl (Nat.le_of_ble_eq_true rfl) d_Model_comes_24) (fun H locs hS => ?_)
  refine lv_iload_n hx hb d_Model_comes_27 rfl (lv_at hl 3 rfl) ?_
  refine r_stI C hS (n := 83) rfl (by decide) h d_Model_comes_28 (fun X7 H locs hS h => ?_)
  refine lv_aload_n hx hb d_Model_comes_29 rfl (lv_at hl 1 rfl) ?_
  refine r_get C hS (by decide) cel_Model (rfl : cls[6]? = some (R_Model, T_Model, 16)) in_Model 0 (by decide) tw_794 rfl d_Model_comes_30 ?_
  refine lv_iload_n hx hb d_Model_comes_33 rfl (lv_at hl 0 rfl) ?_
  refine lv_iconst (v := 2) hx hb d_Model_comes_34 (by decide) ?_
  obtain ⟨v8, hr9, h⟩ := bd_el h
  refine c_I hS (c_runS (As := [.int v1, .int (2 : Int32)]) (rest := [.ref (ad E 71)]) C hS (k_Model_at (l := l) (E := E) (X := X7) hr9) cw_Model_at ini_Model_at sta_Model_at tw_914 hd_Model_at rfl ⟨⟨rfl, rfl⟩, (Nat.le_of_ble_eq_true rfl), (Nat.le_of_ble_eq_true rfl)⟩ ⟨(Nat.le_of_ble_eq_true rfl), (Nat.le_of_ble_eq_true rfl)⟩ hl.1 rfl (Nat.le_of_ble_eq_true rfl) d_Model_comes_35) (fun H locs hS => ?_)
  refine lv_iconst (v := 0) hx hb d_Model_comes_38 (by decide) ?_
  refine r_stI C hS (n := 83) rfl (by decide) h d_Model_comes_39 (fun X10 H locs hS h => ?_)
  refine lv_aload_n hx hb d_Model_comes_40 rfl (lv_at hl 1 rfl) ?_
  refine r_get C hS (by decide) cel_Model (rfl : cls[6]? = some (R_Model, T_Model, 16)) in_Model 0 (by decide) tw_794 rfl d_Model_comes_41 ?_
  refine lv_iload_n hx hb d_Model_comes_44 rfl (lv_at hl 0 rfl) ?_
  refine lv_iconst (v := 3) hx hb d_Model_comes_45 (by decide) ?_
  obtain ⟨v11, hr12, h⟩ := bd_el h
  refine c_I hS (c_runS (As := [.int v1, .int (3 : Int32)]) (rest := [.ref (ad E 71)]) C hS (k_Model_at (l := l) (E := E) (X := X10) hr12) cw_Model_at ini_Model_at sta_Model_at tw_914 hd_Model_at rfl ⟨⟨rfl, rfl⟩, (Nat.le_of_ble_eq_true rfl), (Nat.le_of_ble_eq_true rfl)⟩ ⟨(Nat.le_of_ble_eq_true rfl), (Nat.le_of_ble_eq_true rfl)⟩ hl.1 rfl (Nat.le_of_ble_eq_true rfl) d_Model_comes_46) (fun H locs hS => ?_)
  refine lv_bipush (v := 10) hx hb d_Model_comes_49 (by decide) ?_
  refine r_stI C hS (n := 83) rfl (by decide) h d_Model_comes_51 (fun X13 H locs hS h => ?_)
  refine lv_aload_n hx hb d_Model_comes_52 rfl (lv_at hl 1 rfl) ?_
  refine r_get C hS (by decide) cel_Model (rfl : cls[6]? = some (R_Model, T_Model, 16)) in_Model 0 (by decide) tw_794 rfl d_Model_comes_53 ?_
  refine lv_iload_n hx hb d_Model_comes_56 rfl (lv_at hl 0 rfl) ?_
  refine lv_iconst (v := 4) hx hb d_Model_comes_57 (by decide) ?_
  obtain ⟨v14, hr15, h⟩ := bd_el h
  refine c_I hS (c_runS (As := [.int v1, .int (4 : Int32)]) (rest := [.ref (ad E 71)]) C hS (k_Model_at (l := l) (E := E) (X := X13) hr15) cw_Model_at ini_Model_at sta_Model_at tw_914 hd_Model_at rfl ⟨⟨rfl, rfl⟩, (Nat.le_of_ble_eq_true rfl), (Nat.le_of_ble_eq_true rfl)⟩ ⟨(Nat.le_of_ble_eq_true rfl), (Nat.le_of_ble_eq_true rfl)⟩ hl.1 rfl (Nat.le_of_ble_eq_true rfl) d_Model_comes_58) (fun H locs hS => ?_)
  refine lv_iconst (v := 0) hx hb d_Model_comes_61 (by decide) ?_
  refine r_stI C hS (n := 83) rfl (by decide) h d_Model_comes_62 (fun X16 H locs hS h => ?_)
  refine lv_aload_n hx hb d_Model_comes_63 rfl (lv_at hl 1 rfl) ?_
  refine r_get C hS (by decide) cel_Model (rfl : cls[6]? = some (R_Model, T_Model, 16)) in_Model 0 (by decide) tw_794 rfl d_Model_comes_64 ?_
  refine lv_iload_n hx hb d_Model_comes_67 rfl (lv_at hl 0 rfl) ?_
  refine lv_iconst (v := 5) hx hb d_Model_comes_68 (by decide) ?_
  obtain ⟨v17, hr18, h⟩ := bd_el h
  refine c_I hS (c_runS (As := [.int v1, .int (5 : Int32)]) (rest := [.ref (ad E 71)]) C hS (k_Model_at (l := l) (E := E) (X := X16) hr18) cw_Model_at ini_Model_at sta_Model_at tw_914 hd_Model_at rfl ⟨⟨rfl, rfl⟩, (Nat.le_of_ble_eq_true rfl), (Nat.le_of_ble_eq_true rfl)⟩ ⟨(Nat.le_of_ble_eq_true rfl), (Nat.le_of_ble_eq_true rfl)⟩ hl.1 rfl (Nat.le_of_ble_eq_true rfl) d_Model_comes_69) (fun H locs hS => ?_)
  refine lv_iconst (v := 0) hx hb d_Model_comes_72 (by decide) ?_
  refine r_stI C hS (n := 83) rfl (by decide) h d_Model_comes_73 (fun X19 H locs hS h => ?_)
  refine lv_aload_n hx hb d_Model_comes_74 rfl (lv_at hl 1 rfl) ?_
  refine r_get C hS (by decide) cel_Model (rfl : cls[6]? = some (R_Model, T_Model, 16)) in_Model 0 (by decide) tw_794 rfl d_Model_comes_75 ?_
  refine lv_iconst (v := 0) hx hb d_Model_comes_78 (by decide) ?_
  refine lv_dup2_11 hx hb d_Model_comes_79 rfl rfl ?_
  refine r_ldI C hS (n := 83) rfl (by decide) h d_Model_comes_80 (fun v20 h => ?_)
  refine lv_iconst (v := 1) hx hb d_Model_comes_81 (by decide) ?_
  refine lv_iadd hx hb d_Model_comes_82 ?_
  refine r_stI C hS (n := 83) rfl (by decide) h d_Model_comes_83 (fun X21 H locs hS h => ?_)
  exact r_vret C hS rfl h d_Model_comes_84
set_option maxHeartbeats 4000000 in
set_option maxRecDepth 100000 in
theorem k_Model_thing_j19 {p : Program} {l : Launch} {e : Env} {s : State} {m : MethodId} {args : Array Value} {below : List Frame} {meth : Method} {c : Code} {E : En} {r : Int32} {Y : Mem} (C : Cx p s m args meth c c_Model_thing 3 "TideLoansModel" (some .int) E) {X : Mem} (h : f_Model_thing_j19 X = some (r, Y)) {H : Heap} {locs : List Loc} (hS : Hs E s.heap X H locs) {ls : Array Slot} (hl : lv_has ls 3 [(0, .ref (ad E 70))]) : W p l e ({ frames := 2, cells := 0, slots := 0, locals := 44 } : Room) s m args below meth c H locs 0 0 (MQ below (PostI E r Y) args s 0 0 (Ad E)) (F0 m 19 ls []) := by
  obtain ⟨hx, hb, hml, hown, hts, hrt, hlk, hKx⟩ := id C
  unfold f_Model_thing_j19 at h
  refine lv_aload_n hx hb d_Model_thing_19 rfl (lv_at hl 0 rfl) ?_
  refine lv_ldc (v := -1000000001) hx hb hown (hts _ tw_858) d_Model_thing_20 ?_
  obtain ⟨v1, X3, hr2, h⟩ := bd2_el h
  refine c_I hS (c_runV (As := [.int (-1000000001 : Int32)]) (rest := []) C hS (by decide) cel_Model (rfl : cls[6]? = some (R_Model, T_Model, 16)) (k_Model_finds (l := l) (E := E) (X := X) hr2) cw_Model_finds ini_Model_finds ins_Model_finds sel_Model_finds tw_859 hd_Model_finds rfl ⟨⟨rfl, rfl⟩, (Nat.le_of_ble_eq_true rfl), (Nat.le_of_ble_eq_true rfl)⟩ ⟨(Nat.le_of_ble_eq_true rfl), (Nat.le_of_ble_eq_true rfl)⟩ hl.1 rfl (Nat.le_of_ble_eq_true rfl) d_Model_thing_22) (fun H locs hS => ?_)
  exact r_iret C hS rfl h d_Model_thing_25
set_option maxHeartbeats 4000000 in
set_option maxRecDepth 100000 in
theorem k_Model_thing {l : Launch} {E : En} {p1 : Int32} {p2 : Int32} {X : Mem} {r : Int32} {Y : Mem} (h : f_Model_thing p1 p2 X = some (r, Y)) : Met l y_Model_thing (Cond.code y_Model_thing c_Model_thing 3 (some .int) :: tb) ({ frames := 2, cells := 0, slots := 0, locals := 44 } : Room) (PreC E [.ref (ad E 70), .int p1, .int p2] X) (PostI E r Y) 0 0 (Ad E) := by
  refine met_of (by decide) (Nat.le_of_ble_eq_true rfl) (fun p e s m below meth c C hS ls hl => ?_)
  replace C : Cx p s m ([.ref (ad E 70), .int p1, .int p2] : List Value).toArray meth c c_Model_thing 3 "TideLoansModel" (some .int) E := C
  replace hl : lv_has ls 3 [(0, .ref (ad E 70)), (1, .int p1), (2, .int p2)] := hl
  obtain ⟨hx, hb, hml, hown, hts, hrt, hlk, hKx⟩ := id C
  unfold f_Model_thing at h
  refine lv_iload_n hx hb d_Model_thing_0 rfl (lv_at hl 1 rfl) ?_
  refine lv_i2l hx hb d_Model_thing_1 rfl ?_
  refine lv_lconst (v := 0) hx hb d_Model_thing_2 (by decide) ?_
  refine lv_ldc2 (v := 5) hx hb hown (hts _ tw_908) d_Model_thing_3 ?_
  obtain ⟨v1, hr2, h⟩ := bd_el h
  refine c_I hS (c_runS (As := [.long (p1.toInt64), .long (0 : Int64), .long (5 : Int64)]) (rest := []) C hS (k_Model_isIn (l := l) (E := E) (X := X) hr2) cw_Model_isIn ini_Model_isIn sta_Model_isIn tw_851 hd_Model_isIn rfl ⟨⟨rfl, rfl⟩, (Nat.le_of_ble_eq_true rfl), (Nat.le_of_ble_eq_true rfl)⟩ ⟨(Nat.le_of_ble_eq_true rfl), (Nat.le_of_ble_eq_true rfl)⟩ hl.1 rfl (Nat.le_of_ble_eq_true rfl) d_Model_thing_6) (fun H locs hS => ?_)
  refine r_if_eq (tgt := 19) C h d_Model_thing_9 (by decide) (fun h => ?_) (fun h => ?_)
  · skip
    exact k_Model_thing_j19 C h hS (lv_sub hl [0] rfl)
  · skip
    refine lv_iload_n hx hb d_Model_thing_12 rfl (lv_at hl 2 rfl) ?_
    obtain ⟨v3, hr4, h⟩ := bd_el h
    refine c_I hS (c_runS (As := [.int p2]) (rest := []) C hS (k_Model_isFamily (l := l) (E := E) (X := X) hr4) cw_Model_isFamily ini_Model_isFamily sta_Model_isFamily tw_900 hd_Model_isFamily rfl ⟨⟨rfl, rfl⟩, (Nat.le_of_ble_eq_true rfl), (Nat.le_of_ble_eq_true rfl)⟩ ⟨(Nat.le_of_ble_eq_true rfl), (Nat.le_of_ble_eq_true rfl)⟩ hl.1 rfl (Nat.le_of_ble_eq_true rfl) d_Model_thing_13) (fun H locs hS => ?_)
    refine r_if_ne (tgt := 26) C h d_Model_thing_16 (by decide) (fun h => ?_) (fun h => ?_)
    · skip
      refine lv_aload_n hx hb d_Model_thing_26 rfl (lv_at hl 0 rfl) ?_
      refine r_get C hS (by decide) cel_Model (rfl : cls[6]? = some (R_Model, T_Model, 16)) in_Model 0 (by decide) tw_794 rfl d_Model_thing_27 ?_
      refine lv_iconst (v := 0) hx hb d_Model_thing_30 (by decide) ?_
      refine r_ldI C hS (n := 83) rfl (by decide) h d_Model_thing_31 (fun v5 h => ?_)
      refine lv_bipush (v := 10) hx hb d_Model_thing_32 (by decide) ?_
      refine r_icmp_ne (tgt := 44) C h d_Model_thing_34 (by decide) (fun h => ?_) (fun h => ?_)
      · skip
        refine lv_aload_n hx hb d_Model_thing_44 rfl (lv_at hl 0 rfl) ?_
        refine lv_iload_n hx hb d_Model_thing_45 rfl (lv_at hl 1 rfl) ?_
        refine lv_iload_n hx hb d_Model_thing_46 rfl (lv_at hl 2 rfl) ?_
        obtain ⟨X7, hr6, h⟩ := bd_el h
        refine c_V hS (c_runV (As := [.int p1, .int p2]) (rest := []) C hS (by decide) cel_Model (rfl : cls[6]? = some (R_Model, T_Model, 16)) (k_Model_comes (l := l) (E := E) (X := X) hr6) cw_Model_comes ini_Model_comes ins_Model_comes sel_Model_comes tw_910 hd_Model_comes rfl ⟨⟨rfl, rfl⟩, (Nat.le_of_ble_eq_true rfl), (Nat.le_of_ble_eq_true rfl)⟩ ⟨(Nat.le_of_ble_eq_true rfl), (Nat.le_of_ble_eq_true rfl)⟩ hl.1 rfl (Nat.le_of_ble_eq_true rfl) d_Model_thing_47) (fun H locs hS => ?_)
        refine lv_aload_n hx hb d_Model_thing_50 rfl (lv_at hl 0 rfl) ?_
        refine r_get C hS (by decide) cel_Model (rfl : cls[6]? = some (R_Model, T_Model, 16)) in_Model 0 (by decide) tw_794 rfl d_Model_thing_51 ?_
        refine lv_iconst (v := 0) hx hb d_Model_thing_54 (by decide) ?_
        refine r_ldI C hS (n := 83) rfl (by decide) h d_Model_thing_55 (fun v8 h => ?_)
        refine lv_iconst (v := 1) hx hb d_Model_thing_56 (by decide) ?_
        refine lv_isub hx hb d_Model_thing_57 ?_
        exact r_iret C hS rfl h d_Model_thing_58
      · skip
        refine lv_aload_n hx hb d_Model_thing_37 rfl (lv_at hl 0 rfl) ?_
        refine lv_ldc (v := -1000000002) hx hb hown (hts _ tw_909) d_Model_thing_38 ?_
        obtain ⟨v9, X11, hr10, h⟩ := bd2_el h
        refine c_I hS (c_runV (As := [.int (-1000000002 : Int32)]) (rest := []) C hS (by decide) cel_Model (rfl : cls[6]? = some (R_Model, T_Model, 16)) (k_Model_finds (l := l) (E := E) (X := X) hr10) cw_Model_finds ini_Model_finds ins_Model_finds sel_Model_finds tw_859 hd_Model_finds rfl ⟨⟨rfl, rfl⟩, (Nat.le_of_ble_eq_true rfl), (Nat.le_of_ble_eq_true rfl)⟩ ⟨(Nat.le_of_ble_eq_true rfl), (Nat.le_of_ble_eq_true rfl)⟩ hl.1 rfl (Nat.le_of_ble_eq_true rfl) d_Model_thing_40) (fun H locs hS => ?_)
        exact r_iret C hS rfl h d_Model_thing_43
    · skip
      exact k_Model_thing_j19 C h hS (lv_sub hl [0] rfl)
set_option maxHeartbeats 4000000 in
set_option maxRecDepth 100000 in
theorem k_Model_term {l : Launch} {E : En} {p0 : Int32} {X : Mem} {r : Int32} (h : f_Model_term p0 = some r) : Met l y_Model_term (Cond.code y_Model_term c_Model_term 1 (some .int) :: tb) ({ frames := 0, cells := 0, slots := 0, locals := 0 } : Room) (PreC E [.int p0] X) (PostI E r X) 0 0 (Ad E) := by
  refine met_of (by decide) (Nat.le_of_ble_eq_true rfl) (fun p e s m below meth c C hS ls hl => ?_)
  replace C : Cx p s m ([.int p0] : List Value).toArray meth c c_Model_term 1 "TideLoansModel" (some .int) E := C
  replace hl : lv_has ls 1 [(0, .int p0)] := hl
  obtain ⟨hx, hb, hml, hown, hts, hrt, hlk, hKx⟩ := id C
  unfold f_Model_term at h
  refine lv_iload_n hx hb d_Model_term_0 rfl (lv_at hl 0 rfl) ?_
  refine sw_c (v := 1) (w := 1) (by decide) h (fun hv h => ?_) (fun hn1 h => ?_)
  · refine r_tabIn C hv d_Model_term_1 (by decide) (by decide) rfl (tgt := 36) (by decide) ?_
    refine lv_bipush (v := 8) hx hb d_Model_term_36 (by decide) ?_
    exact r_iret0 C hS rfl h d_Model_term_38
  refine sw_c (v := 2) (w := 2) (by decide) h (fun hv h => ?_) (fun hn2 h => ?_)
  · refine r_tabIn C hv d_Model_term_1 (by decide) (by decide) rfl (tgt := 48) (by decide) ?_
    refine lv_iconst (v := 1) hx hb d_Model_term_48 (by decide) ?_
    exact r_iret0 C hS rfl h d_Model_term_49
  refine sw_c (v := 3) (w := 3) (by decide) h (fun hv h => ?_) (fun hn3 h => ?_)
  · refine r_tabIn C hv d_Model_term_1 (by decide) (by decide) rfl (tgt := 39) (by decide) ?_
    refine lv_bipush (v := 28) hx hb d_Model_term_39 (by decide) ?_
    exact r_iret0 C hS rfl h d_Model_term_41
  refine sw_c (v := 4) (w := 4) (by decide) h (fun hv h => ?_) (fun hn4 h => ?_)
  · refine r_tabIn C hv d_Model_term_1 (by decide) (by decide) rfl (tgt := 42) (by decide) ?_
    refine lv_bipush (v := 16) hx hb d_Model_term_42 (by decide) ?_
    exact r_iret0 C hS rfl h d_Model_term_44
  refine sw_c (v := 5) (w := 5) (by decide) h (fun hv h => ?_) (fun hn5 h => ?_)
  · refine r_tabIn C hv d_Model_term_1 (by decide) (by decide) rfl (tgt := 45) (by decide) ?_
    refine lv_bipush (v := 15) hx hb d_Model_term_45 (by decide) ?_
    exact r_iret0 C hS rfl h d_Model_term_47
  refine lv_tableOut (tgt := 48) hx hb d_Model_term_1 (out_e (k := 6) (out_s (k := 5) (k1 := 6) (out_s (k := 4) (k1 := 5) (out_s (k := 3) (k1 := 4) (out_s (k := 2) (k1 := 3) (out_s (k := 1) (k1 := 2) out_0 hn1 (by decide)) hn2 (by decide)) hn3 (by decide)) hn4 (by decide)) hn5 (by decide)) (by decide)) (by decide) ?_
  refine lv_iconst (v := 1) hx hb d_Model_term_48 (by decide) ?_
  exact r_iret0 C hS rfl h d_Model_term_49
set_option maxHeartbeats 4000000 in
set_option maxRecDepth 100000 in
theorem k_Model_repays_j166 {p : Program} {l : Launch} {e : Env} {s : State} {m : MethodId} {args : Array Value} {below : List Frame} {meth : Method} {c : Code} {E : En} {r : Int32} (C : Cx p s m args meth c c_Model_repays 9 "TideLoansModel" (some .int) E) {q0 : Int64} {X : Mem} (h : f_Model_repays_j166 q0 X = some r) {H : Heap} {locs : List Loc} (hS : Hs E s.heap X H locs) {ls : Array Slot} (hl : lv_has ls 9 []) : W p l e ({ frames := 1, cells := 0, slots := 0, locals := 22 } : Room) s m args below meth c H locs 0 0 (MQ below (PostI E r X) args s 0 0 (Ad E)) (F0 m 166 ls [.long q0]) := by
  obtain ⟨hx, hb, hml, hown, hts, hrt, hlk, hKx⟩ := id C
  unfold f_Model_repays_j166 at h
  refine lv_l2i hx hb d_Model_repays_166 rfl ?_
  exact r_iret0 C hS rfl h d_Model_repays_167
set_option maxHeartbeats 4000000 in
set_option maxRecDepth 100000 in
theorem k_Model_repays_j149 {p : Program} {l : Launch} {e : Env} {s : State} {m : MethodId} {args : Array Value} {below : List Frame} {meth : Method} {c : Code} {E : En} {r : Int32} (C : Cx p s m args meth c c_Model_repays 9 "TideLoansModel" (some .int) E) {x7 : Int64} {X : Mem} (h : f_Model_repays_j149 x7 X = some r) {H : Heap} {locs : List Loc} (hS : Hs E s.heap X H locs) {ls : Array Slot} (hl : lv_has ls 9 [(7, .long x7)]) : W p l e ({ frames := 1, cells := 0, slots := 0, locals := 22 } : Room) s m args below meth c H locs 0 0 (MQ below (PostI E r X) args s 0 0 (Ad E)) (F0 m 149 ls []) := by
  obtain ⟨hx, hb, hml, hown, hts, hrt, hlk, hKx⟩ := id C
  unfold f_Model_repays_j149 at h
  refine lv_lload hx hb d_Model_repays_149 (lv_at hl 0 rfl) ?_
  refine lv_ldc2 (v := 99999999) hx hb hown (hts _ tw_939) d_Model_repays_151 ?_
  refine W.lcmp hx hb d_Model_repays_154 ?_
  refine r_if_le (tgt := 164) C h d_Model_repays_155 (by decide) (fun h => ?_) (fun h => ?_)
  · skip
    refine lv_lload hx hb d_Model_repays_164 (lv_at hl 0 rfl) ?_
    exact k_Model_repays_j166 C h hS (lv_sub hl [] rfl)
  · skip
    refine lv_ldc2 (v := 99999999) hx hb hown (hts _ tw_939) d_Model_repays_158 ?_
    refine lv_goto (tgt := 166) hx hb d_Model_repays_161 (by decide) ?_
    exact k_Model_repays_j166 C h hS (lv_sub hl [] rfl)
set_option maxHeartbeats 4000000 in
set_option maxRecDepth 100000 in
theorem k_Model_repays_j114 {p : Program} {l : Launch} {e : Env} {s : State} {m : MethodId} {args : Array Value} {below : List Frame} {meth : Method} {c : Code} {E : En} {r : Int32} (C : Cx p s m args meth c c_Model_repays 9 "TideLoansModel" (some .int) E) {q0 : Int64} {X : Mem} (h : f_Model_repays_j114 q0 X = some r) {H : Heap} {locs : List Loc} (hS : Hs E s.heap X H locs) {ls : Array Slot} (hl : lv_has ls 9 []) : W p l e ({ frames := 1, cells := 0, slots := 0, locals := 22 } : Room) s m args below meth c H locs 0 0 (MQ below (PostI E r X) args s 0 0 (Ad E)) (F0 m 114 ls [.long q0]) := by
  obtain ⟨hx, hb, hml, hown, hts, hrt, hlk, hKx⟩ := id C
  unfold f_Model_repays_j114 at h
  refine lv_lstore (lv' := [(7, .long q0)]) hx hb d_Model_repays_114 hl (by decide) rfl (fun ls hl => ?_)
  refine lv_goto (tgt := 149) hx hb d_Model_repays_116 (by decide) ?_
  exact k_Model_repays_j149 C h hS (lv_sub hl [0] rfl)
set_option maxHeartbeats 4000000 in
set_option maxRecDepth 100000 in
theorem k_Model_repays {l : Launch} {E : En} {p1 : Int32} {p2 : Int32} {X : Mem} {r : Int32} (h : f_Model_repays p1 p2 X = some r) : Met l y_Model_repays (Cond.code y_Model_repays c_Model_repays 9 (some .int) :: tb) ({ frames := 1, cells := 0, slots := 0, locals := 22 } : Room) (PreC E [.ref (ad E 70), .int p1, .int p2] X) (PostI E r X) 0 0 (Ad E) := by
  refine met_of (by decide) (Nat.le_of_ble_eq_true rfl) (fun p e s m below meth c C hS ls hl => ?_)
  replace C : Cx p s m ([.ref (ad E 70), .int p1, .int p2] : List Value).toArray meth c c_Model_repays 9 "TideLoansModel" (some .int) E := C
  replace hl : lv_has ls 9 [(0, .ref (ad E 70)), (1, .int p1), (2, .int p2)] := hl
  obtain ⟨hx, hb, hml, hown, hts, hrt, hlk, hKx⟩ := id C
  unfold f_Model_repays at h
  refine lv_aload_n hx hb d_Model_repays_0 rfl (lv_at hl 0 rfl) ?_
  refine lv_iload_n hx hb d_Model_repays_1 rfl (lv_at hl 1 rfl) ?_
  refine lv_iconst (v := 3) hx hb d_Model_repays_2 (by decide) ?_
  obtain ⟨v1, hr2, h⟩ := bd_el h
  refine c_I hS (c_runV (As := [.int p1, .int (3 : Int32)]) (rest := []) C hS (by decide) cel_Model (rfl : cls[6]? = some (R_Model, T_Model, 16)) (k_Model_its (l := l) (E := E) (X := X) hr2) cw_Model_its ini_Model_its ins_Model_its sel_Model_its tw_875 hd_Model_its rfl ⟨⟨rfl, rfl⟩, (Nat.le_of_ble_eq_true rfl), (Nat.le_of_ble_eq_true rfl)⟩ ⟨(Nat.le_of_ble_eq_true rfl), (Nat.le_of_ble_eq_true rfl)⟩ hl.1 rfl (Nat.le_of_ble_eq_true rfl) d_Model_repays_3) (fun H locs hS => ?_)
  refine lv_i2l hx hb d_Model_repays_6 rfl ?_
  refine r_topL h (fun v3 h => ?_)
  refine lv_lstore_n (lv' := [(3, .long v3), (0, .ref (ad E 70)), (1, .int p1), (2, .int p2)]) hx hb d_Model_repays_7 rfl hl (by decide) rfl (fun ls hl => ?_)
  refine lv_lload_n hx hb d_Model_repays_8 rfl (lv_at hl 0 rfl) ?_
  refine lv_lload_n hx hb d_Model_repays_9 rfl (lv_at hl 0 rfl) ?_
  refine lv_aload_n hx hb d_Model_repays_10 rfl (lv_at hl 1 rfl) ?_
  refine r_get C hS (by decide) cel_Model (rfl : cls[6]? = some (R_Model, T_Model, 16)) in_Model 0 (by decide) tw_794 rfl d_Model_repays_11 ?_
  refine lv_iconst (v := 2) hx hb d_Model_repays_14 (by decide) ?_
  refine r_ldI C hS (n := 83) rfl (by decide) h d_Model_repays_15 (fun v4 h => ?_)
  refine lv_i2l hx hb d_Model_repays_16 rfl ?_
  refine lv_lmul hx hb d_Model_repays_17 ?_
  refine lv_iload_n hx hb d_Model_repays_18 rfl (lv_at hl 3 rfl) ?_
  refine lv_i2l hx hb d_Model_repays_19 rfl ?_
  refine lv_lmul hx hb d_Model_repays_20 ?_
  refine lv_ldc2 (v := 100) hx hb hown (hts _ tw_937) d_Model_repays_21 ?_
  refine lv_ldiv hx hb d_Model_repays_24 (by decide) ?_
  refine lv_ladd hx hb d_Model_repays_25 ?_
  refine r_topL h (fun v5 h => ?_)
  refine lv_lstore (lv' := [(5, .long v5), (3, .long v3), (0, .ref (ad E 70)), (1, .int p1), (2, .int p2)]) hx hb d_Model_repays_26 hl (by decide) rfl (fun ls hl => ?_)
  refine lv_lload hx hb d_Model_repays_28 (lv_at hl 0 rfl) ?_
  refine lv_lstore (lv' := [(7, .long v5), (5, .long v5), (3, .long v3), (0, .ref (ad E 70)), (1, .int p1), (2, .int p2)]) hx hb d_Model_repays_30 hl (by decide) rfl (fun ls hl => ?_)
  refine lv_aload_n hx hb d_Model_repays_32 rfl (lv_at hl 3 rfl) ?_
  refine lv_iload_n hx hb d_Model_repays_33 rfl (lv_at hl 4 rfl) ?_
  refine lv_iconst (v := 0) hx hb d_Model_repays_34 (by decide) ?_
  obtain ⟨v6, hr7, h⟩ := bd_el h
  refine c_I hS (c_runV (As := [.int p1, .int (0 : Int32)]) (rest := []) C hS (by decide) cel_Model (rfl : cls[6]? = some (R_Model, T_Model, 16)) (k_Model_its (l := l) (E := E) (X := X) hr7) cw_Model_its ini_Model_its ins_Model_its sel_Model_its tw_875 hd_Model_its rfl ⟨⟨rfl, rfl⟩, (Nat.le_of_ble_eq_true rfl), (Nat.le_of_ble_eq_true rfl)⟩ ⟨(Nat.le_of_ble_eq_true rfl), (Nat.le_of_ble_eq_true rfl)⟩ hl.1 rfl (Nat.le_of_ble_eq_true rfl) d_Model_repays_35) (fun H locs hS => ?_)
  refine sw_c (v := 1) (w := 1) (by decide) h (fun hv h => ?_) (fun hn1 h => ?_)
  · refine r_tabIn C hv d_Model_repays_38 (by decide) (by decide) rfl (tgt := 72) (by decide) ?_
    refine lv_lload hx hb d_Model_repays_72 (lv_at hl 1 rfl) ?_
    refine lv_ldc2 (v := 5) hx hb hown (hts _ tw_908) d_Model_repays_74 ?_
    refine lv_ladd hx hb d_Model_repays_77 ?_
    refine r_topL h (fun v8 h => ?_)
    refine lv_lstore (lv' := [(7, .long v8), (5, .long v5), (3, .long v3), (0, .ref (ad E 70)), (1, .int p1), (2, .int p2)]) hx hb d_Model_repays_78 hl (by decide) rfl (fun ls hl => ?_)
    refine lv_goto (tgt := 149) hx hb d_Model_repays_80 (by decide) ?_
    exact k_Model_repays_j149 C h hS (lv_sub hl [0] rfl)
  refine sw_c (v := 2) (w := 2) (by decide) h (fun hv h => ?_) (fun hn2 h => ?_)
  · refine r_tabIn C hv d_Model_repays_38 (by decide) (by decide) rfl (tgt := 83) (by decide) ?_
    refine lv_lload hx hb d_Model_repays_83 (lv_at hl 1 rfl) ?_
    refine lv_ldc2 (v := 2) hx hb hown (hts _ tw_938) d_Model_repays_85 ?_
    refine lv_ldiv hx hb d_Model_repays_88 (by decide) ?_
    refine r_topL h (fun v9 h => ?_)
    refine lv_lstore (lv' := [(7, .long v9), (5, .long v5), (3, .long v3), (0, .ref (ad E 70)), (1, .int p1), (2, .int p2)]) hx hb d_Model_repays_89 hl (by decide) rfl (fun ls hl => ?_)
    refine lv_goto (tgt := 149) hx hb d_Model_repays_91 (by decide) ?_
    exact k_Model_repays_j149 C h hS (lv_sub hl [0] rfl)
  refine sw_c (v := 3) (w := 3) (by decide) h (fun hv h => ?_) (fun hn3 h => ?_)
  · refine r_tabIn C hv d_Model_repays_38 (by decide) (by decide) rfl (tgt := 94) (by decide) ?_
    refine lv_aload_n hx hb d_Model_repays_94 rfl (lv_at hl 3 rfl) ?_
    refine lv_iload_n hx hb d_Model_repays_95 rfl (lv_at hl 4 rfl) ?_
    refine lv_iconst (v := 5) hx hb d_Model_repays_96 (by decide) ?_
    obtain ⟨v10, hr11, h⟩ := bd_el h
    refine c_I hS (c_runV (As := [.int p1, .int (5 : Int32)]) (rest := []) C hS (by decide) cel_Model (rfl : cls[6]? = some (R_Model, T_Model, 16)) (k_Model_its (l := l) (E := E) (X := X) hr11) cw_Model_its ini_Model_its ins_Model_its sel_Model_its tw_875 hd_Model_its rfl ⟨⟨rfl, rfl⟩, (Nat.le_of_ble_eq_true rfl), (Nat.le_of_ble_eq_true rfl)⟩ ⟨(Nat.le_of_ble_eq_true rfl), (Nat.le_of_ble_eq_true rfl)⟩ hl.1 rfl (Nat.le_of_ble_eq_true rfl) d_Model_repays_97) (fun H locs hS => ?_)
    refine lv_bipush (v := 28) hx hb d_Model_repays_100 (by decide) ?_
    refine lv_irem hx hb d_Model_repays_102 (by decide) ?_
    refine lv_bipush (v := 14) hx hb d_Model_repays_103 (by decide) ?_
    refine r_icmp_ne (tgt := 112) C h d_Model_repays_105 (by decide) (fun h => ?_) (fun h => ?_)
    · skip
      refine lv_lload hx hb d_Model_repays_112 (lv_at hl 1 rfl) ?_
      exact k_Model_repays_j114 C h hS (lv_sub hl [] rfl)
    · skip
      refine lv_lconst (v := 0) hx hb d_Model_repays_108 (by decide) ?_
      refine lv_goto (tgt := 114) hx hb d_Model_repays_109 (by decide) ?_
      exact k_Model_repays_j114 C h hS (lv_sub hl [] rfl)
  refine sw_c (v := 4) (w := 4) (by decide) h (fun hv h => ?_) (fun hn4 h => ?_)
  · refine r_tabIn C hv d_Model_repays_38 (by decide) (by decide) rfl (tgt := 119) (by decide) ?_
    refine lv_ldc2 (v := 2) hx hb hown (hts _ tw_938) d_Model_repays_119 ?_
    refine lv_lload hx hb d_Model_repays_122 (lv_at hl 1 rfl) ?_
    refine lv_ldc2 (v := 5) hx hb hown (hts _ tw_908) d_Model_repays_124 ?_
    refine lv_ladd hx hb d_Model_repays_127 ?_
    refine lv_lmul hx hb d_Model_repays_128 ?_
    refine r_topL h (fun v12 h => ?_)
    refine lv_lstore (lv' := [(7, .long v12), (5, .long v5), (3, .long v3), (0, .ref (ad E 70)), (1, .int p1), (2, .int p2)]) hx hb d_Model_repays_129 hl (by decide) rfl (fun ls hl => ?_)
    refine lv_goto (tgt := 149) hx hb d_Model_repays_131 (by decide) ?_
    exact k_Model_repays_j149 C h hS (lv_sub hl [0] rfl)
  refine sw_c (v := 5) (w := 5) (by decide) h (fun hv h => ?_) (fun hn5 h => ?_)
  · refine r_tabIn C hv d_Model_repays_38 (by decide) (by decide) rfl (tgt := 134) (by decide) ?_
    refine lv_lload hx hb d_Model_repays_134 (lv_at hl 1 rfl) ?_
    refine lv_ldc2 (v := 2) hx hb hown (hts _ tw_938) d_Model_repays_136 ?_
    refine lv_ldiv hx hb d_Model_repays_139 (by decide) ?_
    refine lv_ldc2 (v := 3) hx hb hown (hts _ tw_889) d_Model_repays_140 ?_
    refine lv_ladd hx hb d_Model_repays_143 ?_
    refine r_topL h (fun v13 h => ?_)
    refine lv_lstore (lv' := [(7, .long v13), (5, .long v5), (3, .long v3), (0, .ref (ad E 70)), (1, .int p1), (2, .int p2)]) hx hb d_Model_repays_144 hl (by decide) rfl (fun ls hl => ?_)
    refine lv_goto (tgt := 149) hx hb d_Model_repays_146 (by decide) ?_
    exact k_Model_repays_j149 C h hS (lv_sub hl [0] rfl)
  refine lv_tableOut (tgt := 149) hx hb d_Model_repays_38 (out_e (k := 6) (out_s (k := 5) (k1 := 6) (out_s (k := 4) (k1 := 5) (out_s (k := 3) (k1 := 4) (out_s (k := 2) (k1 := 3) (out_s (k := 1) (k1 := 2) out_0 hn1 (by decide)) hn2 (by decide)) hn3 (by decide)) hn4 (by decide)) hn5 (by decide)) (by decide)) (by decide) ?_
  exact k_Model_repays_j149 C h hS (lv_sub hl [0] rfl)
