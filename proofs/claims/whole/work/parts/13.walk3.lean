def I_Tide_fewest_b64 (p : Program) (l : Launch) (e : Env) (s : State) (m : MethodId) (args : Array Value) (below : List Frame) (meth : Method) (c : Code) (E : En) (r : Int32) (Y : Mem) (x3 : Int32) (x4 : Int32) (x5 : Int32) (X : Mem) (n : Nat) (tg : (Int32 × Mem)) : Prop := ∀ (x6 : Int32) (x7 : Int32) (x8 : Int32) (H : Heap) (locs : List Loc) (ls : Array Slot), it (fun a => f_Tide_fewest_b64 x3 x4 x5 X a.1 a.2.1 a.2.2) n (x6, x7, x8) = some tg → Hs E s.heap X H locs → lv_has ls 10 [(0, .ref (ad E 0)), (3, .int x3), (4, .int x4), (5, .int x5), (6, .int x6), (7, .int x7), (8, .int x8)] → W p l e ({ frames := 8, cells := 0, slots := 0, locals := 182 } : Room) s m args below meth c H locs 0 0 (MQ below (PostI E r Y) args s 0 0 (Ad E)) (F0 m 64 ls [])
set_option maxHeartbeats 4000000 in
set_option maxRecDepth 100000 in
theorem k_Tide_fewest_j129 {p : Program} {l : Launch} {e : Env} {s : State} {m : MethodId} {args : Array Value} {below : List Frame} {meth : Method} {c : Code} {E : En} {r : Int32} {Y : Mem} (C : Cx p s m args meth c c_Tide_fewest 10 "TideLoans" (some .int) E) {x3 : Int32} {x4 : Int32} {x5 : Int32} {x6 : Int32} {x7 : Int32} {x8 : Int32} {X : Mem} {tg : ((Int32 × Mem) ⊕ (Int32 × Int32 × Int32))} {n64 : Nat} (hc64 : fin (fun a => f_Tide_fewest_b64 x3 x4 x5 X a.1 a.2.1 a.2.2) n64 (r, Y) tg) (ih64 : I_Tide_fewest_b64 p l e s m args below meth c E r Y x3 x4 x5 X n64 (r, Y)) (h : f_Tide_fewest_j129 x3 x4 x5 x6 x7 x8 X = some tg) {H : Heap} {locs : List Loc} (hS : Hs E s.heap X H locs) {ls : Array Slot} (hl : lv_has ls 10 [(0, .ref (ad E 0)), (3, .int x3), (4, .int x4), (5, .int x5), (6, .int x6), (7, .int x7), (8, .int x8)]) : W p l e ({ frames := 8, cells := 0, slots := 0, locals := 182 } : Room) s m args below meth c H locs 0 0 (MQ below (PostI E r Y) args s 0 0 (Ad E)) (F0 m 129 ls []) := by
  obtain ⟨hx, hb, hml, hown, hts, hrt, hlk, hKx⟩ := id C
  unfold f_Tide_fewest_j129 at h
  refine r_iinc C (w := 1) (lv' := fun z => [(8, .int z), (0, .ref (ad E 0)), (3, .int x3), (4, .int x4), (5, .int x5), (6, .int x6), (7, .int x7)]) h d_Tide_fewest_129 hl (k := 6) rfl (by decide) (by decide) (fun _ => rfl) (fun v1 ls h hl => ?_)
  refine lv_goto (tgt := 64) hx hb d_Tide_fewest_132 (by decide) ?_
  exact ih64 _ _ _ _ _ _ (lp_next h hc64) hS (lv_sub hl [1, 2, 3, 4, 5, 6, 0] rfl)
set_option maxHeartbeats 4000000 in
set_option maxRecDepth 100000 in
theorem k_Tide_fewest_j96 {p : Program} {l : Launch} {e : Env} {s : State} {m : MethodId} {args : Array Value} {below : List Frame} {meth : Method} {c : Code} {E : En} {r : Int32} {Y : Mem} (C : Cx p s m args meth c c_Tide_fewest 10 "TideLoans" (some .int) E) {x3 : Int32} {x4 : Int32} {x5 : Int32} {x6 : Int32} {x7 : Int32} {x8 : Int32} {q0 : Int32} {X : Mem} {tg : ((Int32 × Mem) ⊕ (Int32 × Int32 × Int32))} {n64 : Nat} (hc64 : fin (fun a => f_Tide_fewest_b64 x3 x4 x5 X a.1 a.2.1 a.2.2) n64 (r, Y) tg) (ih64 : I_Tide_fewest_b64 p l e s m args below meth c E r Y x3 x4 x5 X n64 (r, Y)) (h : f_Tide_fewest_j96 x3 x4 x5 x6 x7 x8 q0 X = some tg) {H : Heap} {locs : List Loc} (hS : Hs E s.heap X H locs) {ls : Array Slot} (hl : lv_has ls 10 [(0, .ref (ad E 0)), (3, .int x3), (4, .int x4), (5, .int x5), (6, .int x6), (7, .int x7), (8, .int x8)]) : W p l e ({ frames := 8, cells := 0, slots := 0, locals := 182 } : Room) s m args below meth c H locs 0 0 (MQ below (PostI E r Y) args s 0 0 (Ad E)) (F0 m 96 ls [.int q0]) := by
  obtain ⟨hx, hb, hml, hown, hts, hrt, hlk, hKx⟩ := id C
  unfold f_Tide_fewest_j96 at h
  refine lv_istore (lv' := [(9, .int q0), (0, .ref (ad E 0)), (3, .int x3), (4, .int x4), (5, .int x5), (6, .int x6), (7, .int x7), (8, .int x8)]) hx hb d_Tide_fewest_96 hl (by decide) rfl (fun ls hl => ?_)
  refine lv_iload hx hb d_Tide_fewest_98 (lv_at hl 0 rfl) ?_
  refine r_if_eq (tgt := 129) C h d_Tide_fewest_100 (by decide) (fun h => ?_) (fun h => ?_)
  · skip
    exact k_Tide_fewest_j129 C hc64 ih64 h hS (lv_sub hl [1, 2, 3, 4, 5, 6, 7] rfl)
  · skip
    refine lv_iload hx hb d_Tide_fewest_103 (lv_at hl 4 rfl) ?_
    refine lv_aload_n hx hb d_Tide_fewest_105 rfl (lv_at hl 1 rfl) ?_
    refine lv_iload hx hb d_Tide_fewest_106 (lv_at hl 7 rfl) ?_
    obtain ⟨v1, hr2, h⟩ := bd_el h
    refine c_I hS (c_runV (As := [.int x8]) (rest := [.int x5]) C hS (by decide) cel_Tide (rfl : cls[5]? = some (R_Tide, T_Tide, 12)) (k_Tide_sharesOf (l := l) (E := E) (X := X) hr2) cw_Tide_sharesOf ini_Tide_sharesOf ins_Tide_sharesOf sel_Tide_sharesOf tw_549 hd_Tide_sharesOf rfl ⟨⟨rfl, rfl⟩, (Nat.le_of_ble_eq_true rfl), (Nat.le_of_ble_eq_true rfl)⟩ ⟨(Nat.le_of_ble_eq_true rfl), (Nat.le_of_ble_eq_true rfl)⟩ hl.1 rfl (Nat.le_of_ble_eq_true rfl) d_Tide_fewest_108) (fun H locs hS => ?_)
    obtain ⟨v3, hr4, h⟩ := bd_el h
    refine c_I hS (c_runS (As := [.int x5, .int v1]) (rest := []) C hS (k_Tide_filled (l := l) (E := E) (X := X) hr4) cw_Tide_filled ini_Tide_filled sta_Tide_filled tw_453 hd_Tide_filled rfl ⟨⟨rfl, rfl⟩, (Nat.le_of_ble_eq_true rfl), (Nat.le_of_ble_eq_true rfl)⟩ ⟨(Nat.le_of_ble_eq_true rfl), (Nat.le_of_ble_eq_true rfl)⟩ hl.1 rfl (Nat.le_of_ble_eq_true rfl) d_Tide_fewest_111) (fun H locs hS => ?_)
    refine lv_iload_n hx hb d_Tide_fewest_114 rfl (lv_at hl 2 rfl) ?_
    refine r_icmp_lt (tgt := 129) C h d_Tide_fewest_115 (by decide) (fun h => ?_) (fun h => ?_)
    · skip
      exact k_Tide_fewest_j129 C hc64 ih64 h hS (lv_sub hl [1, 2, 3, 4, 5, 6, 7] rfl)
    · skip
      refine lv_iload hx hb d_Tide_fewest_118 (lv_at hl 7 rfl) ?_
      refine lv_istore (lv' := [(6, .int x8), (9, .int q0), (0, .ref (ad E 0)), (3, .int x3), (4, .int x4), (5, .int x5), (7, .int x7), (8, .int x8)]) hx hb d_Tide_fewest_120 hl (by decide) rfl (fun ls hl => ?_)
      refine lv_iload hx hb d_Tide_fewest_122 (lv_at hl 7 rfl) ?_
      obtain ⟨v5, hr6, h⟩ := bd_el h
      refine c_I hS (c_runS (As := [.int x8]) (rest := []) C hS (k_Integer_bitCount (l := l) (E := E) (X := X) hr6) cw_Integer_bitCount ini_Integer_bitCount sta_Integer_bitCount tw_399 hd_Integer_bitCount rfl ⟨⟨rfl, rfl⟩, (Nat.le_of_ble_eq_true rfl), (Nat.le_of_ble_eq_true rfl)⟩ ⟨(Nat.le_of_ble_eq_true rfl), (Nat.le_of_ble_eq_true rfl)⟩ hl.1 rfl (Nat.le_of_ble_eq_true rfl) d_Tide_fewest_124) (fun H locs hS => ?_)
      refine lv_istore (lv' := [(7, .int v5), (6, .int x8), (9, .int q0), (0, .ref (ad E 0)), (3, .int x3), (4, .int x4), (5, .int x5), (8, .int x8)]) hx hb d_Tide_fewest_127 hl (by decide) rfl (fun ls hl => ?_)
      exact k_Tide_fewest_j129 C hc64 ih64 h hS (lv_sub hl [3, 4, 5, 6, 1, 0, 7] rfl)
set_option maxHeartbeats 4000000 in
set_option maxRecDepth 100000 in
theorem k_Tide_fewest_j95 {p : Program} {l : Launch} {e : Env} {s : State} {m : MethodId} {args : Array Value} {below : List Frame} {meth : Method} {c : Code} {E : En} {r : Int32} {Y : Mem} (C : Cx p s m args meth c c_Tide_fewest 10 "TideLoans" (some .int) E) {x3 : Int32} {x4 : Int32} {x5 : Int32} {x6 : Int32} {x7 : Int32} {x8 : Int32} {X : Mem} {tg : ((Int32 × Mem) ⊕ (Int32 × Int32 × Int32))} {n64 : Nat} (hc64 : fin (fun a => f_Tide_fewest_b64 x3 x4 x5 X a.1 a.2.1 a.2.2) n64 (r, Y) tg) (ih64 : I_Tide_fewest_b64 p l e s m args below meth c E r Y x3 x4 x5 X n64 (r, Y)) (h : f_Tide_fewest_j95 x3 x4 x5 x6 x7 x8 X = some tg) {H : Heap} {locs : List Loc} (hS : Hs E s.heap X H locs) {ls : Array Slot} (hl : lv_has ls 10 [(0, .ref (ad E 0)), (3, .int x3), (4, .int x4), (5, .int x5), (6, .int x6), (7, .int x7), (8, .int x8)]) : W p l e ({ frames := 8, cells := 0, slots := 0, locals := 182 } : Room) s m args below meth c H locs 0 0 (MQ below (PostI E r Y) args s 0 0 (Ad E)) (F0 m 95 ls []) := by
  obtain ⟨hx, hb, hml, hown, hts, hrt, hlk, hKx⟩ := id C
  unfold f_Tide_fewest_j95 at h
  refine lv_iconst (v := 0) hx hb d_Tide_fewest_95 (by decide) ?_
  exact k_Tide_fewest_j96 C hc64 ih64 h hS (lv_sub hl [0, 1, 2, 3, 4, 5, 6] rfl)
set_option maxHeartbeats 4000000 in
set_option maxRecDepth 100000 in
theorem k_Tide_fewest_b64 {p : Program} {l : Launch} {e : Env} {s : State} {m : MethodId} {args : Array Value} {below : List Frame} {meth : Method} {c : Code} {E : En} {r : Int32} {Y : Mem} (C : Cx p s m args meth c c_Tide_fewest 10 "TideLoans" (some .int) E) (x3 : Int32) (x4 : Int32) (x5 : Int32) {X : Mem} : ∀ n, I_Tide_fewest_b64 p l e s m args below meth c E r Y x3 x4 x5 X n (r, Y) := by
  obtain ⟨hx, hb, hml, hown, hts, hrt, hlk, hKx⟩ := id C
  intro n
  induction n with
  | zero => intro x6 x7 x8 H locs ls h; exact it_0 h
  | succ n ih =>
    intro x6 x7 x8 H locs ls h hS hl
    obtain ⟨cc64, h, hc64⟩ := it_el h
    replace h : f_Tide_fewest_b64 x3 x4 x5 X x6 x7 x8 = some cc64 := h
    unfold f_Tide_fewest_b64 at h
    refine lv_iload hx hb d_Tide_fewest_64 (lv_at hl 6 rfl) ?_
    refine lv_iload hx hb d_Tide_fewest_66 (lv_at hl 2 rfl) ?_
    refine r_icmp_gt (tgt := 135) C h d_Tide_fewest_68 (by decide) (fun h => ?_) (fun h => ?_)
    · skip
      refine lv_iload hx hb d_Tide_fewest_135 (lv_at hl 4 rfl) ?_
      refine r_if_lt (tgt := 145) C h d_Tide_fewest_137 (by decide) (fun h => ?_) (fun h => ?_)
      · skip
        refine lv_aload_n hx hb d_Tide_fewest_145 rfl (lv_at hl 0 rfl) ?_
        refine lv_ldc (v := -1000000004) hx hb hown (hts _ tw_491) d_Tide_fewest_146 ?_
        obtain ⟨v1, X3, hr2, h⟩ := bd2_el h
        refine c_I hS (c_runV (As := [.int (-1000000004 : Int32)]) (rest := []) C hS (by decide) cel_Tide (rfl : cls[5]? = some (R_Tide, T_Tide, 12)) (k_Tide_finding (l := l) (E := E) (X := X) hr2) cw_Tide_finding ini_Tide_finding ins_Tide_finding sel_Tide_finding tw_281 hd_Tide_finding rfl ⟨⟨rfl, rfl⟩, (Nat.le_of_ble_eq_true rfl), (Nat.le_of_ble_eq_true rfl)⟩ ⟨(Nat.le_of_ble_eq_true rfl), (Nat.le_of_ble_eq_true rfl)⟩ hl.1 rfl (Nat.le_of_ble_eq_true rfl) d_Tide_fewest_148) (fun H locs hS => ?_)
        replace h := lp_ret h hc64
        exact r_iret C hS rfl h d_Tide_fewest_151
      · skip
        refine lv_iload hx hb d_Tide_fewest_140 (lv_at hl 4 rfl) ?_
        refine lv_goto (tgt := 151) hx hb d_Tide_fewest_142 (by decide) ?_
        replace h := lp_ret h hc64
        exact r_iret C hS rfl h d_Tide_fewest_151
    · skip
      refine lv_iload hx hb d_Tide_fewest_71 (lv_at hl 6 rfl) ?_
      refine lv_iload hx hb d_Tide_fewest_73 (lv_at hl 2 rfl) ?_
      refine lv_iconst (v := -1) hx hb d_Tide_fewest_75 (by decide) ?_
      refine lv_ixor hx hb d_Tide_fewest_76 ?_
      refine lv_iand hx hb d_Tide_fewest_77 ?_
      refine r_if_ne (tgt := 95) C h d_Tide_fewest_78 (by decide) (fun h => ?_) (fun h => ?_)
      · skip
        exact k_Tide_fewest_j95 C hc64 ih h hS (lv_sub hl [0, 1, 2, 3, 4, 5, 6] rfl)
      · skip
        refine lv_iload hx hb d_Tide_fewest_81 (lv_at hl 6 rfl) ?_
        obtain ⟨v4, hr5, h⟩ := bd_el h
        refine c_I hS (c_runS (As := [.int x8]) (rest := []) C hS (k_Integer_bitCount (l := l) (E := E) (X := X) hr5) cw_Integer_bitCount ini_Integer_bitCount sta_Integer_bitCount tw_399 hd_Integer_bitCount rfl ⟨⟨rfl, rfl⟩, (Nat.le_of_ble_eq_true rfl), (Nat.le_of_ble_eq_true rfl)⟩ ⟨(Nat.le_of_ble_eq_true rfl), (Nat.le_of_ble_eq_true rfl)⟩ hl.1 rfl (Nat.le_of_ble_eq_true rfl) d_Tide_fewest_83) (fun H locs hS => ?_)
        refine lv_iload hx hb d_Tide_fewest_86 (lv_at hl 5 rfl) ?_
        refine r_icmp_ge (tgt := 95) C h d_Tide_fewest_88 (by decide) (fun h => ?_) (fun h => ?_)
        · skip
          exact k_Tide_fewest_j95 C hc64 ih h hS (lv_sub hl [0, 1, 2, 3, 4, 5, 6] rfl)
        · skip
          refine lv_iconst (v := 1) hx hb d_Tide_fewest_91 (by decide) ?_
          refine lv_goto (tgt := 96) hx hb d_Tide_fewest_92 (by decide) ?_
          exact k_Tide_fewest_j96 C hc64 ih h hS (lv_sub hl [0, 1, 2, 3, 4, 5, 6] rfl)
set_option maxHeartbeats 4000000 in
set_option maxRecDepth 100000 in
theorem k_Tide_fewest_j28 {p : Program} {l : Launch} {e : Env} {s : State} {m : MethodId} {args : Array Value} {below : List Frame} {meth : Method} {c : Code} {E : En} {r : Int32} {Y : Mem} (C : Cx p s m args meth c c_Tide_fewest 10 "TideLoans" (some .int) E) {X : Mem} (h : f_Tide_fewest_j28 X = some (r, Y)) {H : Heap} {locs : List Loc} (hS : Hs E s.heap X H locs) {ls : Array Slot} (hl : lv_has ls 10 [(0, .ref (ad E 0))]) : W p l e ({ frames := 8, cells := 0, slots := 0, locals := 182 } : Room) s m args below meth c H locs 0 0 (MQ below (PostI E r Y) args s 0 0 (Ad E)) (F0 m 28 ls []) := by
  obtain ⟨hx, hb, hml, hown, hts, hrt, hlk, hKx⟩ := id C
  unfold f_Tide_fewest_j28 at h
  refine lv_aload_n hx hb d_Tide_fewest_28 rfl (lv_at hl 0 rfl) ?_
  refine lv_ldc (v := -1000000001) hx hb hown (hts _ tw_280) d_Tide_fewest_29 ?_
  obtain ⟨v1, X3, hr2, h⟩ := bd2_el h
  refine c_I hS (c_runV (As := [.int (-1000000001 : Int32)]) (rest := []) C hS (by decide) cel_Tide (rfl : cls[5]? = some (R_Tide, T_Tide, 12)) (k_Tide_finding (l := l) (E := E) (X := X) hr2) cw_Tide_finding ini_Tide_finding ins_Tide_finding sel_Tide_finding tw_281 hd_Tide_finding rfl ⟨⟨rfl, rfl⟩, (Nat.le_of_ble_eq_true rfl), (Nat.le_of_ble_eq_true rfl)⟩ ⟨(Nat.le_of_ble_eq_true rfl), (Nat.le_of_ble_eq_true rfl)⟩ hl.1 rfl (Nat.le_of_ble_eq_true rfl) d_Tide_fewest_31) (fun H locs hS => ?_)
  exact r_iret C hS rfl h d_Tide_fewest_34
set_option maxHeartbeats 4000000 in
set_option maxRecDepth 100000 in
theorem k_Tide_fewest {l : Launch} {E : En} {p1 : Int32} {p2 : Int32} {p3 : Int32} {X : Mem} {r : Int32} {Y : Mem} (h : f_Tide_fewest p1 p2 p3 X = some (r, Y)) : Met l y_Tide_fewest (Cond.code y_Tide_fewest c_Tide_fewest 10 (some .int) :: tb) ({ frames := 8, cells := 0, slots := 0, locals := 182 } : Room) (PreC E [.ref (ad E 0), .int p1, .int p2, .int p3] X) (PostI E r Y) 0 0 (Ad E) := by
  refine met_of (by decide) (Nat.le_of_ble_eq_true rfl) (fun p e s m below meth c C hS ls hl => ?_)
  replace C : Cx p s m ([.ref (ad E 0), .int p1, .int p2, .int p3] : List Value).toArray meth c c_Tide_fewest 10 "TideLoans" (some .int) E := C
  replace hl : lv_has ls 10 [(0, .ref (ad E 0)), (1, .int p1), (2, .int p2), (3, .int p3)] := hl
  obtain ⟨hx, hb, hml, hown, hts, hrt, hlk, hKx⟩ := id C
  unfold f_Tide_fewest at h
  refine lv_iload_n hx hb d_Tide_fewest_0 rfl (lv_at hl 1 rfl) ?_
  refine lv_iconst (v := 4) hx hb d_Tide_fewest_1 (by decide) ?_
  obtain ⟨v1, hr2, h⟩ := bd_el h
  refine c_I hS (c_runS (As := [.int p1, .int (4 : Int32)]) (rest := []) C hS (k_Tide_isBelow (l := l) (E := E) (X := X) hr2) cw_Tide_isBelow ini_Tide_isBelow sta_Tide_isBelow tw_277 hd_Tide_isBelow rfl ⟨⟨rfl, rfl⟩, (Nat.le_of_ble_eq_true rfl), (Nat.le_of_ble_eq_true rfl)⟩ ⟨(Nat.le_of_ble_eq_true rfl), (Nat.le_of_ble_eq_true rfl)⟩ hl.1 rfl (Nat.le_of_ble_eq_true rfl) d_Tide_fewest_2) (fun H locs hS => ?_)
  refine r_if_eq (tgt := 28) C h d_Tide_fewest_5 (by decide) (fun h => ?_) (fun h => ?_)
  · skip
    exact k_Tide_fewest_j28 C h hS (lv_sub hl [0] rfl)
  · skip
    refine lv_iload_n hx hb d_Tide_fewest_8 rfl (lv_at hl 2 rfl) ?_
    refine lv_iconst (v := 1) hx hb d_Tide_fewest_9 (by decide) ?_
    refine lv_bipush (v := 40) hx hb d_Tide_fewest_10 (by decide) ?_
    obtain ⟨v3, hr4, h⟩ := bd_el h
    refine c_I hS (c_runS (As := [.int p2, .int (1 : Int32), .int (40 : Int32)]) (rest := []) C hS (k_Tide_isUpTo (l := l) (E := E) (X := X) hr4) cw_Tide_isUpTo ini_Tide_isUpTo sta_Tide_isUpTo tw_297 hd_Tide_isUpTo rfl ⟨⟨rfl, rfl⟩, (Nat.le_of_ble_eq_true rfl), (Nat.le_of_ble_eq_true rfl)⟩ ⟨(Nat.le_of_ble_eq_true rfl), (Nat.le_of_ble_eq_true rfl)⟩ hl.1 rfl (Nat.le_of_ble_eq_true rfl) d_Tide_fewest_12) (fun H locs hS => ?_)
    refine r_if_eq (tgt := 28) C h d_Tide_fewest_15 (by decide) (fun h => ?_) (fun h => ?_)
    · skip
      exact k_Tide_fewest_j28 C h hS (lv_sub hl [0] rfl)
    · skip
      refine lv_iload_n hx hb d_Tide_fewest_18 rfl (lv_at hl 3 rfl) ?_
      refine lv_iconst (v := 0) hx hb d_Tide_fewest_19 (by decide) ?_
      refine lv_ldc (v := 999999999) hx hb hown (hts _ tw_322) d_Tide_fewest_20 ?_
      obtain ⟨v5, hr6, h⟩ := bd_el h
      refine c_I hS (c_runS (As := [.int p3, .int (0 : Int32), .int (999999999 : Int32)]) (rest := []) C hS (k_Tide_isUpTo (l := l) (E := E) (X := X) hr6) cw_Tide_isUpTo ini_Tide_isUpTo sta_Tide_isUpTo tw_297 hd_Tide_isUpTo rfl ⟨⟨rfl, rfl⟩, (Nat.le_of_ble_eq_true rfl), (Nat.le_of_ble_eq_true rfl)⟩ ⟨(Nat.le_of_ble_eq_true rfl), (Nat.le_of_ble_eq_true rfl)⟩ hl.1 rfl (Nat.le_of_ble_eq_true rfl) d_Tide_fewest_22) (fun H locs hS => ?_)
      refine r_if_ne (tgt := 35) C h d_Tide_fewest_25 (by decide) (fun h => ?_) (fun h => ?_)
      · skip
        refine lv_aload_n hx hb d_Tide_fewest_35 rfl (lv_at hl 0 rfl) ?_
        refine lv_iload_n hx hb d_Tide_fewest_36 rfl (lv_at hl 2 rfl) ?_
        obtain ⟨X8, hr7, h⟩ := bd_el h
        refine c_V hS (c_runV (As := [.int p2]) (rest := []) C hS (by decide) cel_Tide (rfl : cls[5]? = some (R_Tide, T_Tide, 12)) (k_Tide_followAll (l := l) (E := E) (X := X) hr7) cw_Tide_followAll ini_Tide_followAll ins_Tide_followAll sel_Tide_followAll tw_413 hd_Tide_followAll rfl ⟨⟨rfl, rfl⟩, (Nat.le_of_ble_eq_true rfl), (Nat.le_of_ble_eq_true rfl)⟩ ⟨(Nat.le_of_ble_eq_true rfl), (Nat.le_of_ble_eq_true rfl)⟩ hl.1 rfl (Nat.le_of_ble_eq_true rfl) d_Tide_fewest_37) (fun H locs hS => ?_)
        refine lv_aload_n hx hb d_Tide_fewest_40 rfl (lv_at hl 0 rfl) ?_
        refine lv_iload_n hx hb d_Tide_fewest_41 rfl (lv_at hl 1 rfl) ?_
        obtain ⟨v9, X11, hr10, h⟩ := bd2_el h
        refine c_I hS (c_runV (As := [.int p1]) (rest := []) C hS (by decide) cel_Tide (rfl : cls[5]? = some (R_Tide, T_Tide, 12)) (k_Tide_shareOut (l := l) (E := E) (X := X8) hr10) cw_Tide_shareOut ini_Tide_shareOut ins_Tide_shareOut sel_Tide_shareOut tw_541 hd_Tide_shareOut rfl ⟨⟨rfl, rfl⟩, (Nat.le_of_ble_eq_true rfl), (Nat.le_of_ble_eq_true rfl)⟩ ⟨(Nat.le_of_ble_eq_true rfl), (Nat.le_of_ble_eq_true rfl)⟩ hl.1 rfl (Nat.le_of_ble_eq_true rfl) d_Tide_fewest_42) (fun H locs hS => ?_)
        refine lv_istore (lv' := [(4, .int v9), (0, .ref (ad E 0)), (1, .int p1), (2, .int p2), (3, .int p3)]) hx hb d_Tide_fewest_45 hl (by decide) rfl (fun ls hl => ?_)
        refine lv_aload_n hx hb d_Tide_fewest_47 rfl (lv_at hl 1 rfl) ?_
        refine lv_iload_n hx hb d_Tide_fewest_48 rfl (lv_at hl 2 rfl) ?_
        obtain ⟨v12, hr13, h⟩ := bd_el h
        refine c_I hS (c_runV (As := [.int p1]) (rest := []) C hS (by decide) cel_Tide (rfl : cls[5]? = some (R_Tide, T_Tide, 12)) (k_Tide_sureThen (l := l) (E := E) (X := X11) hr13) cw_Tide_sureThen ini_Tide_sureThen ins_Tide_sureThen sel_Tide_sureThen tw_545 hd_Tide_sureThen rfl ⟨⟨rfl, rfl⟩, (Nat.le_of_ble_eq_true rfl), (Nat.le_of_ble_eq_true rfl)⟩ ⟨(Nat.le_of_ble_eq_true rfl), (Nat.le_of_ble_eq_true rfl)⟩ hl.1 rfl (Nat.le_of_ble_eq_true rfl) d_Tide_fewest_49) (fun H locs hS => ?_)
        refine lv_istore (lv' := [(5, .int v12), (4, .int v9), (0, .ref (ad E 0)), (1, .int p1), (2, .int p2), (3, .int p3)]) hx hb d_Tide_fewest_52 hl (by decide) rfl (fun ls hl => ?_)
        refine lv_iconst (v := -1) hx hb d_Tide_fewest_54 (by decide) ?_
        refine lv_istore (lv' := [(6, .int (-1 : Int32)), (5, .int v12), (4, .int v9), (0, .ref (ad E 0)), (1, .int p1), (2, .int p2), (3, .int p3)]) hx hb d_Tide_fewest_55 hl (by decide) rfl (fun ls hl => ?_)
        refine lv_bipush (v := 11) hx hb d_Tide_fewest_57 (by decide) ?_
        refine lv_istore (lv' := [(7, .int (11 : Int32)), (6, .int (-1 : Int32)), (5, .int v12), (4, .int v9), (0, .ref (ad E 0)), (1, .int p1), (2, .int p2), (3, .int p3)]) hx hb d_Tide_fewest_59 hl (by decide) rfl (fun ls hl => ?_)
        refine lv_iconst (v := 0) hx hb d_Tide_fewest_61 (by decide) ?_
        refine lv_istore (lv' := [(8, .int (0 : Int32)), (7, .int (11 : Int32)), (6, .int (-1 : Int32)), (5, .int v12), (4, .int v9), (0, .ref (ad E 0)), (1, .int p1), (2, .int p2), (3, .int p3)]) hx hb d_Tide_fewest_62 hl (by decide) rfl (fun ls hl => ?_)
        exact k_Tide_fewest_b64 C _ _ _ FU _ _ _ _ _ _ h hS (lv_sub hl [5, 8, 4, 3, 2, 1, 0] rfl)
      · skip
        exact k_Tide_fewest_j28 C h hS (lv_sub hl [0] rfl)
def I_Tide_gainAt_b5 (p : Program) (l : Launch) (e : Env) (s : State) (m : MethodId) (args : Array Value) (below : List Frame) (meth : Method) (c : Code) (E : En) (r : Int64) (x1 : Int32) (X : Mem) (n : Nat) (tg : Int64) : Prop := ∀ (x2 : Int64) (x4 : Int32) (H : Heap) (locs : List Loc) (ls : Array Slot), it (fun a => f_Tide_gainAt_b5 x1 X a.1 a.2) n (x2, x4) = some tg → Hs E s.heap X H locs → lv_has ls 5 [(0, .ref (ad E 0)), (1, .int x1), (2, .long x2), (4, .int x4)] → W p l e ({ frames := 7, cells := 0, slots := 0, locals := 162 } : Room) s m args below meth c H locs 0 0 (MQ below (PostL E r X) args s 0 0 (Ad E)) (F0 m 5 ls [])
set_option maxHeartbeats 4000000 in
set_option maxRecDepth 100000 in
theorem k_Tide_gainAt_b5 {p : Program} {l : Launch} {e : Env} {s : State} {m : MethodId} {args : Array Value} {below : List Frame} {meth : Method} {c : Code} {E : En} {r : Int64} (C : Cx p s m args meth c c_Tide_gainAt 5 "TideLoans" (some .long) E) (x1 : Int32) {X : Mem} : ∀ n, I_Tide_gainAt_b5 p l e s m args below meth c E r x1 X n r := by
  obtain ⟨hx, hb, hml, hown, hts, hrt, hlk, hKx⟩ := id C
  intro n
  induction n with
  | zero => intro x2 x4 H locs ls h; exact it_0 h
  | succ n ih =>
    intro x2 x4 H locs ls h hS hl
    obtain ⟨cc5, h, hc5⟩ := it_el h
    replace h : f_Tide_gainAt_b5 x1 X x2 x4 = some cc5 := h
    unfold f_Tide_gainAt_b5 at h
    refine lv_iload hx hb d_Tide_gainAt_5 (lv_at hl 3 rfl) ?_
    refine lv_iconst (v := 4) hx hb d_Tide_gainAt_7 (by decide) ?_
    refine r_icmp_ge (tgt := 29) C h d_Tide_gainAt_8 (by decide) (fun h => ?_) (fun h => ?_)
    · skip
      refine lv_lload_n hx hb d_Tide_gainAt_29 rfl (lv_at hl 2 rfl) ?_
      refine lv_aload_n hx hb d_Tide_gainAt_30 rfl (lv_at hl 0 rfl) ?_
      refine r_get C hS (by decide) cel_Tide (rfl : cls[5]? = some (R_Tide, T_Tide, 12)) in_Tide 1 (by decide) tw_237 rfl d_Tide_gainAt_31 ?_
      obtain ⟨v1, hr2, h⟩ := bd_el h
      refine c_L hS (c_runV (As := []) (rest := [.long x2]) C hS (by decide) (cel_Shore (rfl : kd 2 = 1)) (rfl : cls[1]? = some (R_Shore, T_Shore, 6)) (k_Shore_allPurses (l := l) (E := E) (X := X) rfl hr2) cw_Shore_allPurses ini_Shore_allPurses ins_Shore_allPurses sel_Shore_allPurses tw_459 hd_Shore_allPurses rfl ⟨⟨rfl, rfl⟩, (Nat.le_of_ble_eq_true rfl), (Nat.le_of_ble_eq_true rfl)⟩ ⟨(Nat.le_of_ble_eq_true rfl), (Nat.le_of_ble_eq_true rfl)⟩ hl.1 rfl (Nat.le_of_ble_eq_true rfl) d_Tide_gainAt_34) (fun H locs hS => ?_)
      refine lv_lsub hx hb d_Tide_gainAt_37 ?_
      replace h := lp_ret h hc5
      exact r_lret0 C hS rfl h d_Tide_gainAt_38
    · skip
      refine lv_lload_n hx hb d_Tide_gainAt_11 rfl (lv_at hl 2 rfl) ?_
      refine lv_aload_n hx hb d_Tide_gainAt_12 rfl (lv_at hl 0 rfl) ?_
      refine lv_iload hx hb d_Tide_gainAt_13 (lv_at hl 3 rfl) ?_
      refine lv_iload_n hx hb d_Tide_gainAt_15 rfl (lv_at hl 1 rfl) ?_
      refine lv_iconst (v := -1) hx hb d_Tide_gainAt_16 (by decide) ?_
      obtain ⟨v3, hr4, h⟩ := bd_el h
      refine c_I hS (c_runV (As := [.int x4, .int x1, .int (-1 : Int32)]) (rest := [.long x2]) C hS (by decide) cel_Tide (rfl : cls[5]? = some (R_Tide, T_Tide, 12)) (k_Tide_purseThen (l := l) (E := E) (X := X) hr4) cw_Tide_purseThen ini_Tide_purseThen ins_Tide_purseThen sel_Tide_purseThen tw_483 hd_Tide_purseThen rfl ⟨⟨rfl, rfl⟩, (Nat.le_of_ble_eq_true rfl), (Nat.le_of_ble_eq_true rfl)⟩ ⟨(Nat.le_of_ble_eq_true rfl), (Nat.le_of_ble_eq_true rfl)⟩ hl.1 rfl (Nat.le_of_ble_eq_true rfl) d_Tide_gainAt_17) (fun H locs hS => ?_)
      refine lv_i2l hx hb d_Tide_gainAt_20 rfl ?_
      refine lv_ladd hx hb d_Tide_gainAt_21 ?_
      refine r_topL h (fun v5 h => ?_)
      refine lv_lstore_n (lv' := [(2, .long v5), (0, .ref (ad E 0)), (1, .int x1), (4, .int x4)]) hx hb d_Tide_gainAt_22 rfl hl (by decide) rfl (fun ls hl => ?_)
      refine r_iinc C (w := 1) (lv' := fun z => [(4, .int z), (2, .long v5), (0, .ref (ad E 0)), (1, .int x1)]) h d_Tide_gainAt_23 hl (k := 3) rfl (by decide) (by decide) (fun _ => rfl) (fun v6 ls h hl => ?_)
      refine lv_goto (tgt := 5) hx hb d_Tide_gainAt_26 (by decide) ?_
      exact ih _ _ _ _ _ (lp_next h hc5) hS (lv_sub hl [2, 3, 1, 0] rfl)
set_option maxHeartbeats 4000000 in
set_option maxRecDepth 100000 in
theorem k_Tide_gainAt {l : Launch} {E : En} {p1 : Int32} {X : Mem} {r : Int64} (h : f_Tide_gainAt p1 X = some r) : Met l y_Tide_gainAt (Cond.code y_Tide_gainAt c_Tide_gainAt 5 (some .long) :: tb) ({ frames := 7, cells := 0, slots := 0, locals := 162 } : Room) (PreC E [.ref (ad E 0), .int p1] X) (PostL E r X) 0 0 (Ad E) := by
  refine met_of (by decide) (Nat.le_of_ble_eq_true rfl) (fun p e s m below meth c C hS ls hl => ?_)
  replace C : Cx p s m ([.ref (ad E 0), .int p1] : List Value).toArray meth c c_Tide_gainAt 5 "TideLoans" (some .long) E := C
  replace hl : lv_has ls 5 [(0, .ref (ad E 0)), (1, .int p1)] := hl
  obtain ⟨hx, hb, hml, hown, hts, hrt, hlk, hKx⟩ := id C
  unfold f_Tide_gainAt at h
  refine lv_lconst (v := 0) hx hb d_Tide_gainAt_0 (by decide) ?_
  refine lv_lstore_n (lv' := [(2, .long (0 : Int64)), (0, .ref (ad E 0)), (1, .int p1)]) hx hb d_Tide_gainAt_1 rfl hl (by decide) rfl (fun ls hl => ?_)
  refine lv_iconst (v := 0) hx hb d_Tide_gainAt_2 (by decide) ?_
  refine lv_istore (lv' := [(4, .int (0 : Int32)), (2, .long (0 : Int64)), (0, .ref (ad E 0)), (1, .int p1)]) hx hb d_Tide_gainAt_3 hl (by decide) rfl (fun ls hl => ?_)
  exact k_Tide_gainAt_b5 C _ FU _ _ _ _ _ h hS (lv_sub hl [2, 3, 1, 0] rfl)
def I_Tide_rate_b34 (p : Program) (l : Launch) (e : Env) (s : State) (m : MethodId) (args : Array Value) (below : List Frame) (meth : Method) (c : Code) (E : En) (r : Int32) (Y : Mem) (x2 : Int32) (X : Mem) (n : Nat) (tg : (Int32 × Mem)) : Prop := ∀ (x3 : Int32) (H : Heap) (locs : List Loc) (ls : Array Slot), it (fun a => f_Tide_rate_b34 x2 X a) n x3 = some tg → Hs E s.heap X H locs → lv_has ls 4 [(0, .ref (ad E 0)), (2, .int x2), (3, .int x3)] → W p l e ({ frames := 8, cells := 0, slots := 0, locals := 186 } : Room) s m args below meth c H locs 0 0 (MQ below (PostI E r Y) args s 0 0 (Ad E)) (F0 m 34 ls [])
set_option maxHeartbeats 4000000 in
set_option maxRecDepth 100000 in
theorem k_Tide_rate_b34 {p : Program} {l : Launch} {e : Env} {s : State} {m : MethodId} {args : Array Value} {below : List Frame} {meth : Method} {c : Code} {E : En} {r : Int32} {Y : Mem} (C : Cx p s m args meth c c_Tide_rate 4 "TideLoans" (some .int) E) (x2 : Int32) {X : Mem} : ∀ n, I_Tide_rate_b34 p l e s m args below meth c E r Y x2 X n (r, Y) := by
  obtain ⟨hx, hb, hml, hown, hts, hrt, hlk, hKx⟩ := id C
  intro n
  induction n with
  | zero => intro x3 H locs ls h; exact it_0 h
  | succ n ih =>
    intro x3 H locs ls h hS hl
    obtain ⟨cc34, h, hc34⟩ := it_el h
    replace h : f_Tide_rate_b34 x2 X x3 = some cc34 := h
    unfold f_Tide_rate_b34 at h
    refine lv_iload_n hx hb d_Tide_rate_34 rfl (lv_at hl 2 rfl) ?_
    refine lv_bipush (v := 50) hx hb d_Tide_rate_35 (by decide) ?_
    refine r_icmp_gt (tgt := 59) C h d_Tide_rate_37 (by decide) (fun h => ?_) (fun h => ?_)
    · skip
      refine lv_aload_n hx hb d_Tide_rate_59 rfl (lv_at hl 0 rfl) ?_
      refine lv_ldc (v := -1000000004) hx hb hown (hts _ tw_491) d_Tide_rate_60 ?_
      obtain ⟨v1, X3, hr2, h⟩ := bd2_el h
      refine c_I hS (c_runV (As := [.int (-1000000004 : Int32)]) (rest := []) C hS (by decide) cel_Tide (rfl : cls[5]? = some (R_Tide, T_Tide, 12)) (k_Tide_finding (l := l) (E := E) (X := X) hr2) cw_Tide_finding ini_Tide_finding ins_Tide_finding sel_Tide_finding tw_281 hd_Tide_finding rfl ⟨⟨rfl, rfl⟩, (Nat.le_of_ble_eq_true rfl), (Nat.le_of_ble_eq_true rfl)⟩ ⟨(Nat.le_of_ble_eq_true rfl), (Nat.le_of_ble_eq_true rfl)⟩ hl.1 rfl (Nat.le_of_ble_eq_true rfl) d_Tide_rate_62) (fun H locs hS => ?_)
      replace h := lp_ret h hc34
      exact r_iret C hS rfl h d_Tide_rate_65
    · skip
      refine lv_aload_n hx hb d_Tide_rate_40 rfl (lv_at hl 0 rfl) ?_
      refine lv_iload_n hx hb d_Tide_rate_41 rfl (lv_at hl 2 rfl) ?_
      obtain ⟨v4, hr5, h⟩ := bd_el h
      refine c_L hS (c_runV (As := [.int x3]) (rest := []) C hS (by decide) cel_Tide (rfl : cls[5]? = some (R_Tide, T_Tide, 12)) (k_Tide_gainAt (l := l) (E := E) (X := X) hr5) cw_Tide_gainAt ini_Tide_gainAt ins_Tide_gainAt sel_Tide_gainAt tw_557 hd_Tide_gainAt rfl ⟨⟨rfl, rfl⟩, (Nat.le_of_ble_eq_true rfl), (Nat.le_of_ble_eq_true rfl)⟩ ⟨(Nat.le_of_ble_eq_true rfl), (Nat.le_of_ble_eq_true rfl)⟩ hl.1 rfl (Nat.le_of_ble_eq_true rfl) d_Tide_rate_42) (fun H locs hS => ?_)
      refine lv_iload_n hx hb d_Tide_rate_45 rfl (lv_at hl 1 rfl) ?_
      refine lv_i2l hx hb d_Tide_rate_46 rfl ?_
      refine W.lcmp hx hb d_Tide_rate_47 ?_
      refine r_if_lt (tgt := 53) C h d_Tide_rate_48 (by decide) (fun h => ?_) (fun h => ?_)
      · skip
        refine r_iinc C (w := 1) (lv' := fun z => [(3, .int z), (0, .ref (ad E 0)), (2, .int x2)]) h d_Tide_rate_53 hl (k := 2) rfl (by decide) (by decide) (fun _ => rfl) (fun v6 ls h hl => ?_)
        refine lv_goto (tgt := 34) hx hb d_Tide_rate_56 (by decide) ?_
        exact ih _ _ _ _ (lp_next h hc34) hS (lv_sub hl [1, 2, 0] rfl)
      · skip
        refine lv_iload_n hx hb d_Tide_rate_51 rfl (lv_at hl 2 rfl) ?_
        replace h := lp_ret h hc34
        exact r_iret C hS rfl h d_Tide_rate_52
set_option maxHeartbeats 4000000 in
set_option maxRecDepth 100000 in
theorem k_Tide_rate_j20 {p : Program} {l : Launch} {e : Env} {s : State} {m : MethodId} {args : Array Value} {below : List Frame} {meth : Method} {c : Code} {E : En} {r : Int32} {Y : Mem} (C : Cx p s m args meth c c_Tide_rate 4 "TideLoans" (some .int) E) {X : Mem} (h : f_Tide_rate_j20 X = some (r, Y)) {H : Heap} {locs : List Loc} (hS : Hs E s.heap X H locs) {ls : Array Slot} (hl : lv_has ls 4 [(0, .ref (ad E 0))]) : W p l e ({ frames := 8, cells := 0, slots := 0, locals := 186 } : Room) s m args below meth c H locs 0 0 (MQ below (PostI E r Y) args s 0 0 (Ad E)) (F0 m 20 ls []) := by
  obtain ⟨hx, hb, hml, hown, hts, hrt, hlk, hKx⟩ := id C
  unfold f_Tide_rate_j20 at h
  refine lv_aload_n hx hb d_Tide_rate_20 rfl (lv_at hl 0 rfl) ?_
  refine lv_ldc (v := -1000000001) hx hb hown (hts _ tw_280) d_Tide_rate_21 ?_
  obtain ⟨v1, X3, hr2, h⟩ := bd2_el h
  refine c_I hS (c_runV (As := [.int (-1000000001 : Int32)]) (rest := []) C hS (by decide) cel_Tide (rfl : cls[5]? = some (R_Tide, T_Tide, 12)) (k_Tide_finding (l := l) (E := E) (X := X) hr2) cw_Tide_finding ini_Tide_finding ins_Tide_finding sel_Tide_finding tw_281 hd_Tide_finding rfl ⟨⟨rfl, rfl⟩, (Nat.le_of_ble_eq_true rfl), (Nat.le_of_ble_eq_true rfl)⟩ ⟨(Nat.le_of_ble_eq_true rfl), (Nat.le_of_ble_eq_true rfl)⟩ hl.1 rfl (Nat.le_of_ble_eq_true rfl) d_Tide_rate_23) (fun H locs hS => ?_)
  exact r_iret C hS rfl h d_Tide_rate_26
set_option maxHeartbeats 4000000 in
set_option maxRecDepth 100000 in
theorem k_Tide_rate {l : Launch} {E : En} {p1 : Int32} {p2 : Int32} {X : Mem} {r : Int32} {Y : Mem} (h : f_Tide_rate p1 p2 X = some (r, Y)) : Met l y_Tide_rate (Cond.code y_Tide_rate c_Tide_rate 4 (some .int) :: tb) ({ frames := 8, cells := 0, slots := 0, locals := 186 } : Room) (PreC E [.ref (ad E 0), .int p1, .int p2] X) (PostI E r Y) 0 0 (Ad E) := by
  refine met_of (by decide) (Nat.le_of_ble_eq_true rfl) (fun p e s m below meth c C hS ls hl => ?_)
  replace C : Cx p s m ([.ref (ad E 0), .int p1, .int p2] : List Value).toArray meth c c_Tide_rate 4 "TideLoans" (some .int) E := C
  replace hl : lv_has ls 4 [(0, .ref (ad E 0)), (1, .int p1), (2, .int p2)] := hl
  obtain ⟨hx, hb, hml, hown, hts, hrt, hlk, hKx⟩ := id C
  unfold f_Tide_rate at h
  refine lv_iload_n hx hb d_Tide_rate_0 rfl (lv_at hl 1 rfl) ?_
  refine lv_iconst (v := 1) hx hb d_Tide_rate_1 (by decide) ?_
  refine lv_bipush (v := 100) hx hb d_Tide_rate_2 (by decide) ?_
  obtain ⟨v1, hr2, h⟩ := bd_el h
  refine c_I hS (c_runS (As := [.int p1, .int (1 : Int32), .int (100 : Int32)]) (rest := []) C hS (k_Tide_isUpTo (l := l) (E := E) (X := X) hr2) cw_Tide_isUpTo ini_Tide_isUpTo sta_Tide_isUpTo tw_297 hd_Tide_isUpTo rfl ⟨⟨rfl, rfl⟩, (Nat.le_of_ble_eq_true rfl), (Nat.le_of_ble_eq_true rfl)⟩ ⟨(Nat.le_of_ble_eq_true rfl), (Nat.le_of_ble_eq_true rfl)⟩ hl.1 rfl (Nat.le_of_ble_eq_true rfl) d_Tide_rate_4) (fun H locs hS => ?_)
  refine r_if_eq (tgt := 20) C h d_Tide_rate_7 (by decide) (fun h => ?_) (fun h => ?_)
  · skip
    exact k_Tide_rate_j20 C h hS (lv_sub hl [0] rfl)
  · skip
    refine lv_iload_n hx hb d_Tide_rate_10 rfl (lv_at hl 2 rfl) ?_
    refine lv_iconst (v := 0) hx hb d_Tide_rate_11 (by decide) ?_
    refine lv_ldc (v := 999999999) hx hb hown (hts _ tw_322) d_Tide_rate_12 ?_
    obtain ⟨v3, hr4, h⟩ := bd_el h
    refine c_I hS (c_runS (As := [.int p2, .int (0 : Int32), .int (999999999 : Int32)]) (rest := []) C hS (k_Tide_isUpTo (l := l) (E := E) (X := X) hr4) cw_Tide_isUpTo ini_Tide_isUpTo sta_Tide_isUpTo tw_297 hd_Tide_isUpTo rfl ⟨⟨rfl, rfl⟩, (Nat.le_of_ble_eq_true rfl), (Nat.le_of_ble_eq_true rfl)⟩ ⟨(Nat.le_of_ble_eq_true rfl), (Nat.le_of_ble_eq_true rfl)⟩ hl.1 rfl (Nat.le_of_ble_eq_true rfl) d_Tide_rate_14) (fun H locs hS => ?_)
    refine r_if_ne (tgt := 27) C h d_Tide_rate_17 (by decide) (fun h => ?_) (fun h => ?_)
    · skip
      refine lv_aload_n hx hb d_Tide_rate_27 rfl (lv_at hl 0 rfl) ?_
      refine lv_iload_n hx hb d_Tide_rate_28 rfl (lv_at hl 1 rfl) ?_
      obtain ⟨X6, hr5, h⟩ := bd_el h
      refine c_V hS (c_runV (As := [.int p1]) (rest := []) C hS (by decide) cel_Tide (rfl : cls[5]? = some (R_Tide, T_Tide, 12)) (k_Tide_followAll (l := l) (E := E) (X := X) hr5) cw_Tide_followAll ini_Tide_followAll ins_Tide_followAll sel_Tide_followAll tw_413 hd_Tide_followAll rfl ⟨⟨rfl, rfl⟩, (Nat.le_of_ble_eq_true rfl), (Nat.le_of_ble_eq_true rfl)⟩ ⟨(Nat.le_of_ble_eq_true rfl), (Nat.le_of_ble_eq_true rfl)⟩ hl.1 rfl (Nat.le_of_ble_eq_true rfl) d_Tide_rate_29) (fun H locs hS => ?_)
      refine lv_iconst (v := 0) hx hb d_Tide_rate_32 (by decide) ?_
      refine lv_istore_n (lv' := [(3, .int (0 : Int32)), (0, .ref (ad E 0)), (1, .int p1), (2, .int p2)]) hx hb d_Tide_rate_33 rfl hl (by decide) rfl (fun ls hl => ?_)
      exact k_Tide_rate_b34 C _ FU _ _ _ _ h hS (lv_sub hl [1, 3, 0] rfl)
    · skip
      exact k_Tide_rate_j20 C h hS (lv_sub hl [0] rfl)
def I_Tide_feed_b41 (p : Program) (l : Launch) (e : Env) (s : State) (m : MethodId) (args : Array Value) (below : List Frame) (meth : Method) (c : Code) (E : En) (r : Int32) (Y : Mem) (x1 : Int32) (n : Nat) (tg : (Int32 × Mem)) : Prop := ∀ (x3 : Int32) (X : Mem) (H : Heap) (locs : List Loc) (ls : Array Slot), it (fun a => f_Tide_feed_b41 x1 a.1 a.2) n (x3, X) = some tg → Hs E s.heap X H locs → lv_has ls 4 [(0, .ref (ad E 0)), (1, .int x1), (3, .int x3)] → W p l e ({ frames := 2, cells := 0, slots := 0, locals := 43 } : Room) s m args below meth c H locs 0 0 (MQ below (PostI E r Y) args s 0 0 (Ad E)) (F0 m 41 ls [])
set_option maxHeartbeats 4000000 in
set_option maxRecDepth 100000 in
theorem k_Tide_feed_b41 {p : Program} {l : Launch} {e : Env} {s : State} {m : MethodId} {args : Array Value} {below : List Frame} {meth : Method} {c : Code} {E : En} {r : Int32} {Y : Mem} (C : Cx p s m args meth c c_Tide_feed 4 "TideLoans" (some .int) E) (x1 : Int32) : ∀ n, I_Tide_feed_b41 p l e s m args below meth c E r Y x1 n (r, Y) := by
  obtain ⟨hx, hb, hml, hown, hts, hrt, hlk, hKx⟩ := id C
  intro n
  induction n with
  | zero => intro x3 X H locs ls h; exact it_0 h
  | succ n ih =>
    intro x3 X H locs ls h hS hl
    obtain ⟨cc41, h, hc41⟩ := it_el h
    replace h : f_Tide_feed_b41 x1 x3 X = some cc41 := h
    unfold f_Tide_feed_b41 at h
    refine lv_iload_n hx hb d_Tide_feed_41 rfl (lv_at hl 2 rfl) ?_
    refine r_if_lt (tgt := 65) C h d_Tide_feed_42 (by decide) (fun h => ?_) (fun h => ?_)
    · skip
      refine lv_aload_n hx hb d_Tide_feed_65 rfl (lv_at hl 0 rfl) ?_
      refine r_get C hS (by decide) cel_Tide (rfl : cls[5]? = some (R_Tide, T_Tide, 12)) in_Tide 4 (by decide) tw_240 rfl d_Tide_feed_66 ?_
      refine r_getI C hS (by decide) cel_Tape (rfl : cls[2]? = some (R_Tape, T_Tape, 6)) in_Tape 1 (by decide) tw_164 rfl h d_Tide_feed_69 (fun v1 h => ?_)
      replace h := lp_ret h hc41
      exact r_iret C hS rfl h d_Tide_feed_72
    · skip
      refine lv_aload_n hx hb d_Tide_feed_45 rfl (lv_at hl 0 rfl) ?_
      refine r_get C hS (by decide) cel_Tide (rfl : cls[5]? = some (R_Tide, T_Tide, 12)) in_Tide 4 (by decide) tw_240 rfl d_Tide_feed_46 ?_
      refine lv_iload_n hx hb d_Tide_feed_49 rfl (lv_at hl 1 rfl) ?_
      refine lv_bipush (v := 8) hx hb d_Tide_feed_50 (by decide) ?_
      refine lv_iload_n hx hb d_Tide_feed_52 rfl (lv_at hl 2 rfl) ?_
      refine lv_imul hx hb d_Tide_feed_53 ?_
      refine lv_ishr hx hb d_Tide_feed_54 ?_
      refine lv_i2b hx hb d_Tide_feed_55 rfl ?_
      obtain ⟨X3, hr2, h⟩ := bd_el h
      refine c_V hS (c_runV (As := [.int ((x1 >>> (((8 : Int32) * x3) &&& 31)).toInt8.toInt32)]) (rest := []) C hS (by decide) cel_Tape (rfl : cls[2]? = some (R_Tape, T_Tape, 6)) (k_Tape_put (l := l) (E := E) (X := X) hr2) cw_Tape_put ini_Tape_put ins_Tape_put sel_Tape_put tw_565 hd_Tape_put rfl ⟨⟨rfl, rfl⟩, (Nat.le_of_ble_eq_true rfl), (Nat.le_of_ble_eq_true rfl)⟩ ⟨(Nat.le_of_ble_eq_true rfl), (Nat.le_of_ble_eq_true rfl)⟩ hl.1 rfl (Nat.le_of_ble_eq_true rfl) d_Tide_feed_56) (fun H locs hS => ?_)
      refine r_iinc C (w := -1) (lv' := fun z => [(3, .int z), (0, .ref (ad E 0)), (1, .int x1)]) h d_Tide_feed_59 hl (k := 2) rfl (by decide) (by decide) (fun _ => rfl) (fun v4 ls h hl => ?_)
      refine lv_goto (tgt := 41) hx hb d_Tide_feed_62 (by decide) ?_
      exact ih _ _ _ _ _ (lp_next h hc41) hS (lv_sub hl [1, 2, 0] rfl)
set_option maxHeartbeats 4000000 in
set_option maxRecDepth 100000 in
theorem k_Tide_feed {l : Launch} {E : En} {p1 : Int32} {p2 : Int32} {X : Mem} {r : Int32} {Y : Mem} (h : f_Tide_feed p1 p2 X = some (r, Y)) : Met l y_Tide_feed (Cond.code y_Tide_feed c_Tide_feed 4 (some .int) :: tb) ({ frames := 2, cells := 0, slots := 0, locals := 43 } : Room) (PreC E [.ref (ad E 0), .int p1, .int p2] X) (PostI E r Y) 0 0 (Ad E) := by
  refine met_of (by decide) (Nat.le_of_ble_eq_true rfl) (fun p e s m below meth c C hS ls hl => ?_)
  replace C : Cx p s m ([.ref (ad E 0), .int p1, .int p2] : List Value).toArray meth c c_Tide_feed 4 "TideLoans" (some .int) E := C
  replace hl : lv_has ls 4 [(0, .ref (ad E 0)), (1, .int p1), (2, .int p2)] := hl
  obtain ⟨hx, hb, hml, hown, hts, hrt, hlk, hKx⟩ := id C
  unfold f_Tide_feed at h
  refine lv_iload_n hx hb d_Tide_feed_0 rfl (lv_at hl 2 rfl) ?_
  refine lv_iconst (v := 1) hx hb d_Tide_feed_1 (by decide) ?_
  refine lv_iconst (v := 4) hx hb d_Tide_feed_2 (by decide) ?_
  obtain ⟨v1, hr2, h⟩ := bd_el h
  refine c_I hS (c_runS (As := [.int p2, .int (1 : Int32), .int (4 : Int32)]) (rest := []) C hS (k_Tide_isUpTo (l := l) (E := E) (X := X) hr2) cw_Tide_isUpTo ini_Tide_isUpTo sta_Tide_isUpTo tw_297 hd_Tide_isUpTo rfl ⟨⟨rfl, rfl⟩, (Nat.le_of_ble_eq_true rfl), (Nat.le_of_ble_eq_true rfl)⟩ ⟨(Nat.le_of_ble_eq_true rfl), (Nat.le_of_ble_eq_true rfl)⟩ hl.1 rfl (Nat.le_of_ble_eq_true rfl) d_Tide_feed_3) (fun H locs hS => ?_)
  refine r_if_ne (tgt := 16) C h d_Tide_feed_6 (by decide) (fun h => ?_) (fun h => ?_)
  · skip
    refine lv_aload_n hx hb d_Tide_feed_16 rfl (lv_at hl 0 rfl) ?_
    refine r_get C hS (by decide) cel_Tide (rfl : cls[5]? = some (R_Tide, T_Tide, 12)) in_Tide 4 (by decide) tw_240 rfl d_Tide_feed_17 ?_
    refine r_getI C hS (by decide) cel_Tape (rfl : cls[2]? = some (R_Tape, T_Tape, 6)) in_Tape 1 (by decide) tw_164 rfl h d_Tide_feed_20 (fun v3 h => ?_)
    refine lv_iload_n hx hb d_Tide_feed_23 rfl (lv_at hl 2 rfl) ?_
    refine lv_iadd hx hb d_Tide_feed_24 ?_
    refine lv_bipush (v := 120) hx hb d_Tide_feed_25 (by decide) ?_
    refine r_icmp_le (tgt := 37) C h d_Tide_feed_27 (by decide) (fun h => ?_) (fun h => ?_)
    · skip
      refine lv_iload_n hx hb d_Tide_feed_37 rfl (lv_at hl 2 rfl) ?_
      refine lv_iconst (v := 1) hx hb d_Tide_feed_38 (by decide) ?_
      refine lv_isub hx hb d_Tide_feed_39 ?_
      refine r_top h (fun v4 h => ?_)
      refine lv_istore_n (lv' := [(3, .int v4), (0, .ref (ad E 0)), (1, .int p1), (2, .int p2)]) hx hb d_Tide_feed_40 rfl hl (by decide) rfl (fun ls hl => ?_)
      exact k_Tide_feed_b41 C _ FU _ _ _ _ _ h hS (lv_sub hl [1, 2, 0] rfl)
    · skip
      refine lv_aload_n hx hb d_Tide_feed_30 rfl (lv_at hl 0 rfl) ?_
      refine lv_ldc (v := -1000000002) hx hb hown (hts _ tw_331) d_Tide_feed_31 ?_
      obtain ⟨v5, X7, hr6, h⟩ := bd2_el h
      refine c_I hS (c_runV (As := [.int (-1000000002 : Int32)]) (rest := []) C hS (by decide) cel_Tide (rfl : cls[5]? = some (R_Tide, T_Tide, 12)) (k_Tide_finding (l := l) (E := E) (X := X) hr6) cw_Tide_finding ini_Tide_finding ins_Tide_finding sel_Tide_finding tw_281 hd_Tide_finding rfl ⟨⟨rfl, rfl⟩, (Nat.le_of_ble_eq_true rfl), (Nat.le_of_ble_eq_true rfl)⟩ ⟨(Nat.le_of_ble_eq_true rfl), (Nat.le_of_ble_eq_true rfl)⟩ hl.1 rfl (Nat.le_of_ble_eq_true rfl) d_Tide_feed_33) (fun H locs hS => ?_)
      exact r_iret C hS rfl h d_Tide_feed_36
  · skip
    refine lv_aload_n hx hb d_Tide_feed_9 rfl (lv_at hl 0 rfl) ?_
    refine lv_ldc (v := -1000000001) hx hb hown (hts _ tw_280) d_Tide_feed_10 ?_
    obtain ⟨v8, X10, hr9, h⟩ := bd2_el h
    refine c_I hS (c_runV (As := [.int (-1000000001 : Int32)]) (rest := []) C hS (by decide) cel_Tide (rfl : cls[5]? = some (R_Tide, T_Tide, 12)) (k_Tide_finding (l := l) (E := E) (X := X) hr9) cw_Tide_finding ini_Tide_finding ins_Tide_finding sel_Tide_finding tw_281 hd_Tide_finding rfl ⟨⟨rfl, rfl⟩, (Nat.le_of_ble_eq_true rfl), (Nat.le_of_ble_eq_true rfl)⟩ ⟨(Nat.le_of_ble_eq_true rfl), (Nat.le_of_ble_eq_true rfl)⟩ hl.1 rfl (Nat.le_of_ble_eq_true rfl) d_Tide_feed_12) (fun H locs hS => ?_)
    exact r_iret C hS rfl h d_Tide_feed_15
set_option maxHeartbeats 4000000 in
set_option maxRecDepth 100000 in
theorem k_Tide_wipe {l : Launch} {E : En} {X : Mem} {r : Int32} {Y : Mem} (h : f_Tide_wipe X = some (r, Y)) : Met l y_Tide_wipe (Cond.code y_Tide_wipe c_Tide_wipe 2 (some .int) :: tb) ({ frames := 0, cells := 0, slots := 0, locals := 0 } : Room) (PreC E [.ref (ad E 0)] X) (PostI E r Y) 0 0 (Ad E) := by
  refine met_of (by decide) (Nat.le_of_ble_eq_true rfl) (fun p e s m below meth c C hS ls hl => ?_)
  replace C : Cx p s m ([.ref (ad E 0)] : List Value).toArray meth c c_Tide_wipe 2 "TideLoans" (some .int) E := C
  replace hl : lv_has ls 2 [(0, .ref (ad E 0))] := hl
  obtain ⟨hx, hb, hml, hown, hts, hrt, hlk, hKx⟩ := id C
  unfold f_Tide_wipe at h
  refine lv_aload_n hx hb d_Tide_wipe_0 rfl (lv_at hl 0 rfl) ?_
  refine r_get C hS (by decide) cel_Tide (rfl : cls[5]? = some (R_Tide, T_Tide, 12)) in_Tide 4 (by decide) tw_240 rfl d_Tide_wipe_1 ?_
  refine r_getI C hS (by decide) cel_Tape (rfl : cls[2]? = some (R_Tape, T_Tape, 6)) in_Tape 1 (by decide) tw_164 rfl h d_Tide_wipe_4 (fun v1 h => ?_)
  refine lv_istore_n (lv' := [(1, .int v1), (0, .ref (ad E 0))]) hx hb d_Tide_wipe_7 rfl hl (by decide) rfl (fun ls hl => ?_)
  refine lv_aload_n hx hb d_Tide_wipe_8 rfl (lv_at hl 1 rfl) ?_
  refine r_get C hS (by decide) cel_Tide (rfl : cls[5]? = some (R_Tide, T_Tide, 12)) in_Tide 4 (by decide) tw_240 rfl d_Tide_wipe_9 ?_
  refine lv_iconst (v := 0) hx hb d_Tide_wipe_12 (by decide) ?_
  refine r_putI C hS (by decide) cel_Tape (rfl : cls[2]? = some (R_Tape, T_Tape, 6)) in_Tape ty_Tape tyok_Tape nm_Tape 1 (by decide) tw_164 rfl rfl rfl (Nat.le_of_ble_eq_true rfl) set_Tape_1 rfl h d_Tide_wipe_13 (fun X2 H locs hS h => ?_)
  refine lv_iload_n hx hb d_Tide_wipe_16 rfl (lv_at hl 0 rfl) ?_
  exact r_iret C hS rfl h d_Tide_wipe_17
set_option maxHeartbeats 4000000 in
set_option maxRecDepth 100000 in
theorem k_Tide_readWorth {l : Launch} {E : En} {k1 : Nat} {X : Mem} {r : Int32} {Y : Mem} (hk1 : kd k1 = 2) (h : f_Tide_readWorth k1 X = some (r, Y)) : Met l y_Tide_readWorth (Cond.code y_Tide_readWorth c_Tide_readWorth 2 (some .boolean) :: tb) ({ frames := 8, cells := 0, slots := 0, locals := 203 } : Room) (PreC E [.ref (ad E 0), .ref (ad E k1)] X) (PostI E r Y) 0 0 (Ad E) := by
  refine met_of (by decide) (Nat.le_of_ble_eq_true rfl) (fun p e s m below meth c C hS ls hl => ?_)
  replace C : Cx p s m ([.ref (ad E 0), .ref (ad E k1)] : List Value).toArray meth c c_Tide_readWorth 2 "TideLoans" (some .boolean) E := C
  replace hl : lv_has ls 2 [(0, .ref (ad E 0)), (1, .ref (ad E k1))] := hl
  obtain ⟨hx, hb, hml, hown, hts, hrt, hlk, hKx⟩ := id C
  unfold f_Tide_readWorth at h
  refine lv_aload_n hx hb d_Tide_readWorth_0 rfl (lv_at hl 0 rfl) ?_
  refine r_get C hS (by decide) cel_Tide (rfl : cls[5]? = some (R_Tide, T_Tide, 12)) in_Tide 4 (by decide) tw_240 rfl d_Tide_readWorth_1 ?_
  refine r_ldcSW (own := "TideLoans") (index := 392) (tx := "worth") (q := eK E 7) hx hb hown (hKx.2.2.2.1 7 (by decide)) d_Tide_readWorth_4 ?_
  obtain ⟨v1, hr2, h⟩ := bd_el h
  refine c_I hS (c_runV (As := [.ref (eK E 7)]) (rest := []) C hS (by decide) cel_Tape (rfl : cls[2]? = some (R_Tape, T_Tape, 6)) (k_Tape_isWord (l := l) (E := E) (X := X) hr2) cw_Tape_isWord ini_Tape_isWord ins_Tape_isWord sel_Tape_isWord tw_675 hd_Tape_isWord rfl ⟨⟨rfl, rfl⟩, (Nat.le_of_ble_eq_true rfl), (Nat.le_of_ble_eq_true rfl)⟩ ⟨(Nat.le_of_ble_eq_true rfl), (Nat.le_of_ble_eq_true rfl)⟩ hl.1 rfl (Nat.le_of_ble_eq_true rfl) d_Tide_readWorth_7) (fun H locs hS => ?_)
  refine r_if_ne (tgt := 15) C h d_Tide_readWorth_10 (by decide) (fun h => ?_) (fun h => ?_)
  · skip
    refine lv_aload_n hx hb d_Tide_readWorth_15 rfl (lv_at hl 0 rfl) ?_
    refine r_get C hS (by decide) cel_Tide (rfl : cls[5]? = some (R_Tide, T_Tide, 12)) in_Tide 4 (by decide) tw_240 rfl d_Tide_readWorth_16 ?_
    obtain ⟨X4, hr3, h⟩ := bd_el h
    refine c_V hS (c_runV (As := []) (rest := []) C hS (by decide) cel_Tape (rfl : cls[2]? = some (R_Tape, T_Tape, 6)) (k_Tape_step (l := l) (E := E) (X := X) hr3) cw_Tape_step ini_Tape_step ins_Tape_step sel_Tape_step tw_673 hd_Tape_step rfl ⟨⟨rfl, rfl⟩, (Nat.le_of_ble_eq_true rfl), (Nat.le_of_ble_eq_true rfl)⟩ ⟨(Nat.le_of_ble_eq_true rfl), (Nat.le_of_ble_eq_true rfl)⟩ hl.1 rfl (Nat.le_of_ble_eq_true rfl) d_Tide_readWorth_19) (fun H locs hS => ?_)
    refine lv_aload_n hx hb d_Tide_readWorth_22 rfl (lv_at hl 0 rfl) ?_
    refine r_get C hS (by decide) cel_Tide (rfl : cls[5]? = some (R_Tide, T_Tide, 12)) in_Tide 4 (by decide) tw_240 rfl d_Tide_readWorth_23 ?_
    refine lv_sipush (v := 9999) hx hb d_Tide_readWorth_26 (by decide) ?_
    obtain ⟨v5, X7, hr6, h⟩ := bd2_el h
    refine c_I hS (c_runV (As := [.int (9999 : Int32)]) (rest := []) C hS (by decide) cel_Tape (rfl : cls[2]? = some (R_Tape, T_Tape, 6)) (k_Tape_isNumberTo (l := l) (E := E) (X := X4) hr6) cw_Tape_isNumberTo ini_Tape_isNumberTo ins_Tape_isNumberTo sel_Tape_isNumberTo tw_676 hd_Tape_isNumberTo rfl ⟨⟨rfl, rfl⟩, (Nat.le_of_ble_eq_true rfl), (Nat.le_of_ble_eq_true rfl)⟩ ⟨(Nat.le_of_ble_eq_true rfl), (Nat.le_of_ble_eq_true rfl)⟩ hl.1 rfl (Nat.le_of_ble_eq_true rfl) d_Tide_readWorth_29) (fun H locs hS => ?_)
    refine r_if_ne (tgt := 37) C h d_Tide_readWorth_32 (by decide) (fun h => ?_) (fun h => ?_)
    · skip
      refine lv_aload_n hx hb d_Tide_readWorth_37 rfl (lv_at hl 1 rfl) ?_
      refine lv_aload_n hx hb d_Tide_readWorth_38 rfl (lv_at hl 0 rfl) ?_
      refine r_get C hS (by decide) cel_Tide (rfl : cls[5]? = some (R_Tide, T_Tide, 12)) in_Tide 4 (by decide) tw_240 rfl d_Tide_readWorth_39 ?_
      refine r_getI C hS (by decide) cel_Tape (rfl : cls[2]? = some (R_Tape, T_Tape, 6)) in_Tape 5 (by decide) tw_171 rfl h d_Tide_readWorth_42 (fun v8 h => ?_)
      refine r_putI C hS (kd_lt hk1 (by decide)) (cel_Thing hk1) (rfl : cls[3]? = some (R_Thing, T_Thing, 6)) in_Thing ty_Thing tyok_Thing nm_Thing 3 (by decide) tw_109 rfl rfl rfl (Nat.le_of_ble_eq_true rfl) (set_Thing_3 hk1) rfl h d_Tide_readWorth_45 (fun X9 H locs hS h => ?_)
      refine lv_aload_n hx hb d_Tide_readWorth_48 rfl (lv_at hl 0 rfl) ?_
      refine r_get C hS (by decide) cel_Tide (rfl : cls[5]? = some (R_Tide, T_Tide, 12)) in_Tide 4 (by decide) tw_240 rfl d_Tide_readWorth_49 ?_
      obtain ⟨X11, hr10, h⟩ := bd_el h
      refine c_V hS (c_runV (As := []) (rest := []) C hS (by decide) cel_Tape (rfl : cls[2]? = some (R_Tape, T_Tape, 6)) (k_Tape_step (l := l) (E := E) (X := X9) hr10) cw_Tape_step ini_Tape_step ins_Tape_step sel_Tape_step tw_673 hd_Tape_step rfl ⟨⟨rfl, rfl⟩, (Nat.le_of_ble_eq_true rfl), (Nat.le_of_ble_eq_true rfl)⟩ ⟨(Nat.le_of_ble_eq_true rfl), (Nat.le_of_ble_eq_true rfl)⟩ hl.1 rfl (Nat.le_of_ble_eq_true rfl) d_Tide_readWorth_52) (fun H locs hS => ?_)
      refine lv_iconst (v := 1) hx hb d_Tide_readWorth_55 (by decide) ?_
      exact r_zret C hS rfl (Or.inr rfl) h d_Tide_readWorth_56
    · skip
      refine lv_iconst (v := 0) hx hb d_Tide_readWorth_35 (by decide) ?_
      exact r_zret C hS rfl (Or.inl rfl) h d_Tide_readWorth_36
  · skip
    refine lv_iconst (v := 1) hx hb d_Tide_readWorth_13 (by decide) ?_
    exact r_zret C hS rfl (Or.inr rfl) h d_Tide_readWorth_14
set_option maxHeartbeats 4000000 in
set_option maxRecDepth 100000 in
theorem k_Tide_readPlace {l : Launch} {E : En} {k1 : Nat} {X : Mem} {r : Int32} {Y : Mem} (hk1 : kd k1 = 2) (h : f_Tide_readPlace k1 X = some (r, Y)) : Met l y_Tide_readPlace (Cond.code y_Tide_readPlace c_Tide_readPlace 2 (some .boolean) :: tb) ({ frames := 8, cells := 0, slots := 0, locals := 203 } : Room) (PreC E [.ref (ad E 0), .ref (ad E k1)] X) (PostI E r Y) 0 0 (Ad E) := by
  refine met_of (by decide) (Nat.le_of_ble_eq_true rfl) (fun p e s m below meth c C hS ls hl => ?_)
  replace C : Cx p s m ([.ref (ad E 0), .ref (ad E k1)] : List Value).toArray meth c c_Tide_readPlace 2 "TideLoans" (some .boolean) E := C
  replace hl : lv_has ls 2 [(0, .ref (ad E 0)), (1, .ref (ad E k1))] := hl
  obtain ⟨hx, hb, hml, hown, hts, hrt, hlk, hKx⟩ := id C
  unfold f_Tide_readPlace at h
  refine lv_aload_n hx hb d_Tide_readPlace_0 rfl (lv_at hl 0 rfl) ?_
  refine r_get C hS (by decide) cel_Tide (rfl : cls[5]? = some (R_Tide, T_Tide, 12)) in_Tide 4 (by decide) tw_240 rfl d_Tide_readPlace_1 ?_
  refine r_ldcSW (own := "TideLoans") (index := 393) (tx := "at") (q := eK E 8) hx hb hown (hKx.2.2.2.1 8 (by decide)) d_Tide_readPlace_4 ?_
  obtain ⟨v1, hr2, h⟩ := bd_el h
  refine c_I hS (c_runV (As := [.ref (eK E 8)]) (rest := []) C hS (by decide) cel_Tape (rfl : cls[2]? = some (R_Tape, T_Tape, 6)) (k_Tape_isWord (l := l) (E := E) (X := X) hr2) cw_Tape_isWord ini_Tape_isWord ins_Tape_isWord sel_Tape_isWord tw_675 hd_Tape_isWord rfl ⟨⟨rfl, rfl⟩, (Nat.le_of_ble_eq_true rfl), (Nat.le_of_ble_eq_true rfl)⟩ ⟨(Nat.le_of_ble_eq_true rfl), (Nat.le_of_ble_eq_true rfl)⟩ hl.1 rfl (Nat.le_of_ble_eq_true rfl) d_Tide_readPlace_7) (fun H locs hS => ?_)
  refine r_if_ne (tgt := 15) C h d_Tide_readPlace_10 (by decide) (fun h => ?_) (fun h => ?_)
  · skip
    refine lv_aload_n hx hb d_Tide_readPlace_15 rfl (lv_at hl 0 rfl) ?_
    refine r_get C hS (by decide) cel_Tide (rfl : cls[5]? = some (R_Tide, T_Tide, 12)) in_Tide 4 (by decide) tw_240 rfl d_Tide_readPlace_16 ?_
    obtain ⟨X4, hr3, h⟩ := bd_el h
    refine c_V hS (c_runV (As := []) (rest := []) C hS (by decide) cel_Tape (rfl : cls[2]? = some (R_Tape, T_Tape, 6)) (k_Tape_step (l := l) (E := E) (X := X) hr3) cw_Tape_step ini_Tape_step ins_Tape_step sel_Tape_step tw_673 hd_Tape_step rfl ⟨⟨rfl, rfl⟩, (Nat.le_of_ble_eq_true rfl), (Nat.le_of_ble_eq_true rfl)⟩ ⟨(Nat.le_of_ble_eq_true rfl), (Nat.le_of_ble_eq_true rfl)⟩ hl.1 rfl (Nat.le_of_ble_eq_true rfl) d_Tide_readPlace_19) (fun H locs hS => ?_)
    refine lv_aload_n hx hb d_Tide_readPlace_22 rfl (lv_at hl 0 rfl) ?_
    refine r_get C hS (by decide) cel_Tide (rfl : cls[5]? = some (R_Tide, T_Tide, 12)) in_Tide 4 (by decide) tw_240 rfl d_Tide_readPlace_23 ?_
    refine lv_bipush (v := 15) hx hb d_Tide_readPlace_26 (by decide) ?_
    obtain ⟨v5, X7, hr6, h⟩ := bd2_el h
    refine c_I hS (c_runV (As := [.int (15 : Int32)]) (rest := []) C hS (by decide) cel_Tape (rfl : cls[2]? = some (R_Tape, T_Tape, 6)) (k_Tape_isNumberTo (l := l) (E := E) (X := X4) hr6) cw_Tape_isNumberTo ini_Tape_isNumberTo ins_Tape_isNumberTo sel_Tape_isNumberTo tw_676 hd_Tape_isNumberTo rfl ⟨⟨rfl, rfl⟩, (Nat.le_of_ble_eq_true rfl), (Nat.le_of_ble_eq_true rfl)⟩ ⟨(Nat.le_of_ble_eq_true rfl), (Nat.le_of_ble_eq_true rfl)⟩ hl.1 rfl (Nat.le_of_ble_eq_true rfl) d_Tide_readPlace_28) (fun H locs hS => ?_)
    refine r_if_ne (tgt := 36) C h d_Tide_readPlace_31 (by decide) (fun h => ?_) (fun h => ?_)
    · skip
      refine lv_aload_n hx hb d_Tide_readPlace_36 rfl (lv_at hl 1 rfl) ?_
      refine lv_aload_n hx hb d_Tide_readPlace_37 rfl (lv_at hl 0 rfl) ?_
      refine r_get C hS (by decide) cel_Tide (rfl : cls[5]? = some (R_Tide, T_Tide, 12)) in_Tide 4 (by decide) tw_240 rfl d_Tide_readPlace_38 ?_
      refine r_getI C hS (by decide) cel_Tape (rfl : cls[2]? = some (R_Tape, T_Tape, 6)) in_Tape 5 (by decide) tw_171 rfl h d_Tide_readPlace_41 (fun v8 h => ?_)
      obtain ⟨X10, hr9, h⟩ := bd_el h
      refine c_V hS (c_runV (As := [.int v8]) (rest := []) C hS (kd_lt hk1 (by decide)) (cel_Thing hk1) (rfl : cls[3]? = some (R_Thing, T_Thing, 6)) (k_Thing_layAt (l := l) (E := E) (X := X7) hk1 hr9) cw_Thing_layAt ini_Thing_layAt ins_Thing_layAt sel_Thing_layAt tw_395 hd_Thing_layAt rfl ⟨⟨rfl, rfl⟩, (Nat.le_of_ble_eq_true rfl), (Nat.le_of_ble_eq_true rfl)⟩ ⟨(Nat.le_of_ble_eq_true rfl), (Nat.le_of_ble_eq_true rfl)⟩ hl.1 rfl (Nat.le_of_ble_eq_true rfl) d_Tide_readPlace_44) (fun H locs hS => ?_)
      refine lv_aload_n hx hb d_Tide_readPlace_47 rfl (lv_at hl 0 rfl) ?_
      refine r_get C hS (by decide) cel_Tide (rfl : cls[5]? = some (R_Tide, T_Tide, 12)) in_Tide 4 (by decide) tw_240 rfl d_Tide_readPlace_48 ?_
      obtain ⟨X12, hr11, h⟩ := bd_el h
      refine c_V hS (c_runV (As := []) (rest := []) C hS (by decide) cel_Tape (rfl : cls[2]? = some (R_Tape, T_Tape, 6)) (k_Tape_step (l := l) (E := E) (X := X10) hr11) cw_Tape_step ini_Tape_step ins_Tape_step sel_Tape_step tw_673 hd_Tape_step rfl ⟨⟨rfl, rfl⟩, (Nat.le_of_ble_eq_true rfl), (Nat.le_of_ble_eq_true rfl)⟩ ⟨(Nat.le_of_ble_eq_true rfl), (Nat.le_of_ble_eq_true rfl)⟩ hl.1 rfl (Nat.le_of_ble_eq_true rfl) d_Tide_readPlace_51) (fun H locs hS => ?_)
      refine lv_iconst (v := 1) hx hb d_Tide_readPlace_54 (by decide) ?_
      exact r_zret C hS rfl (Or.inr rfl) h d_Tide_readPlace_55
    · skip
      refine lv_iconst (v := 0) hx hb d_Tide_readPlace_34 (by decide) ?_
      exact r_zret C hS rfl (Or.inl rfl) h d_Tide_readPlace_35
  · skip
    refine lv_iconst (v := 1) hx hb d_Tide_readPlace_13 (by decide) ?_
    exact r_zret C hS rfl (Or.inr rfl) h d_Tide_readPlace_14
set_option maxHeartbeats 4000000 in
set_option maxRecDepth 100000 in
theorem k_Tide_readThing {l : Launch} {E : En} {p1 : Int32} {X : Mem} {r : Int32} {Y : Mem} (h : f_Tide_readThing p1 X = some (r, Y)) : Met l y_Tide_readThing (Cond.code y_Tide_readThing c_Tide_readThing 3 (some .boolean) :: tb) ({ frames := 9, cells := 0, slots := 0, locals := 224 } : Room) (PreC E [.ref (ad E 0), .int p1] X) (PostI E r Y) 0 0 (Ad E) := by
  refine met_of (by decide) (Nat.le_of_ble_eq_true rfl) (fun p e s m below meth c C hS ls hl => ?_)
  replace C : Cx p s m ([.ref (ad E 0), .int p1] : List Value).toArray meth c c_Tide_readThing 3 "TideLoans" (some .boolean) E := C
  replace hl : lv_has ls 3 [(0, .ref (ad E 0)), (1, .int p1)] := hl
  obtain ⟨hx, hb, hml, hown, hts, hrt, hlk, hKx⟩ := id C
  unfold f_Tide_readThing at h
  refine lv_aload_n hx hb d_Tide_readThing_0 rfl (lv_at hl 0 rfl) ?_
  refine r_get C hS (by decide) cel_Tide (rfl : cls[5]? = some (R_Tide, T_Tide, 12)) in_Tide 4 (by decide) tw_240 rfl d_Tide_readThing_1 ?_
  obtain ⟨X2, hr1, h⟩ := bd_el h
  refine c_V hS (c_runV (As := []) (rest := []) C hS (by decide) cel_Tape (rfl : cls[2]? = some (R_Tape, T_Tape, 6)) (k_Tape_step (l := l) (E := E) (X := X) hr1) cw_Tape_step ini_Tape_step ins_Tape_step sel_Tape_step tw_673 hd_Tape_step rfl ⟨⟨rfl, rfl⟩, (Nat.le_of_ble_eq_true rfl), (Nat.le_of_ble_eq_true rfl)⟩ ⟨(Nat.le_of_ble_eq_true rfl), (Nat.le_of_ble_eq_true rfl)⟩ hl.1 rfl (Nat.le_of_ble_eq_true rfl) d_Tide_readThing_4) (fun H locs hS => ?_)
  refine lv_aload_n hx hb d_Tide_readThing_7 rfl (lv_at hl 0 rfl) ?_
  refine r_get C hS (by decide) cel_Tide (rfl : cls[5]? = some (R_Tide, T_Tide, 12)) in_Tide 4 (by decide) tw_240 rfl d_Tide_readThing_8 ?_
  refine r_ldcSW (own := "TideLoans") (index := 377) (tx := "of") (q := eK E 6) hx hb hown (hKx.2.2.2.1 6 (by decide)) d_Tide_readThing_11 ?_
  obtain ⟨v3, hr4, h⟩ := bd_el h
  refine c_I hS (c_runV (As := [.ref (eK E 6)]) (rest := []) C hS (by decide) cel_Tape (rfl : cls[2]? = some (R_Tape, T_Tape, 6)) (k_Tape_isWord (l := l) (E := E) (X := X2) hr4) cw_Tape_isWord ini_Tape_isWord ins_Tape_isWord sel_Tape_isWord tw_675 hd_Tape_isWord rfl ⟨⟨rfl, rfl⟩, (Nat.le_of_ble_eq_true rfl), (Nat.le_of_ble_eq_true rfl)⟩ ⟨(Nat.le_of_ble_eq_true rfl), (Nat.le_of_ble_eq_true rfl)⟩ hl.1 rfl (Nat.le_of_ble_eq_true rfl) d_Tide_readThing_14) (fun H locs hS => ?_)
  refine r_if_ne (tgt := 22) C h d_Tide_readThing_17 (by decide) (fun h => ?_) (fun h => ?_)
  · skip
    refine lv_aload_n hx hb d_Tide_readThing_22 rfl (lv_at hl 0 rfl) ?_
    refine r_get C hS (by decide) cel_Tide (rfl : cls[5]? = some (R_Tide, T_Tide, 12)) in_Tide 4 (by decide) tw_240 rfl d_Tide_readThing_23 ?_
    obtain ⟨X6, hr5, h⟩ := bd_el h
    refine c_V hS (c_runV (As := []) (rest := []) C hS (by decide) cel_Tape (rfl : cls[2]? = some (R_Tape, T_Tape, 6)) (k_Tape_step (l := l) (E := E) (X := X2) hr5) cw_Tape_step ini_Tape_step ins_Tape_step sel_Tape_step tw_673 hd_Tape_step rfl ⟨⟨rfl, rfl⟩, (Nat.le_of_ble_eq_true rfl), (Nat.le_of_ble_eq_true rfl)⟩ ⟨(Nat.le_of_ble_eq_true rfl), (Nat.le_of_ble_eq_true rfl)⟩ hl.1 rfl (Nat.le_of_ble_eq_true rfl) d_Tide_readThing_26) (fun H locs hS => ?_)
    refine lv_aload_n hx hb d_Tide_readThing_29 rfl (lv_at hl 0 rfl) ?_
    refine r_get C hS (by decide) cel_Tide (rfl : cls[5]? = some (R_Tide, T_Tide, 12)) in_Tide 4 (by decide) tw_240 rfl d_Tide_readThing_30 ?_
    refine lv_iconst (v := 3) hx hb d_Tide_readThing_33 (by decide) ?_
    obtain ⟨v7, X9, hr8, h⟩ := bd2_el h
    refine c_I hS (c_runV (As := [.int (3 : Int32)]) (rest := []) C hS (by decide) cel_Tape (rfl : cls[2]? = some (R_Tape, T_Tape, 6)) (k_Tape_isNumberTo (l := l) (E := E) (X := X6) hr8) cw_Tape_isNumberTo ini_Tape_isNumberTo ins_Tape_isNumberTo sel_Tape_isNumberTo tw_676 hd_Tape_isNumberTo rfl ⟨⟨rfl, rfl⟩, (Nat.le_of_ble_eq_true rfl), (Nat.le_of_ble_eq_true rfl)⟩ ⟨(Nat.le_of_ble_eq_true rfl), (Nat.le_of_ble_eq_true rfl)⟩ hl.1 rfl (Nat.le_of_ble_eq_true rfl) d_Tide_readThing_34) (fun H locs hS => ?_)
    refine r_if_ne (tgt := 42) C h d_Tide_readThing_37 (by decide) (fun h => ?_) (fun h => ?_)
    · skip
      refine lv_aload_n hx hb d_Tide_readThing_42 rfl (lv_at hl 0 rfl) ?_
      refine r_get C hS (by decide) cel_Tide (rfl : cls[5]? = some (R_Tide, T_Tide, 12)) in_Tide 3 (by decide) tw_239 rfl d_Tide_readThing_43 ?_
      refine lv_iload_n hx hb d_Tide_readThing_46 rfl (lv_at hl 1 rfl) ?_
      refine lv_aload_n hx hb d_Tide_readThing_47 rfl (lv_at hl 0 rfl) ?_
      refine r_get C hS (by decide) cel_Tide (rfl : cls[5]? = some (R_Tide, T_Tide, 12)) in_Tide 4 (by decide) tw_240 rfl d_Tide_readThing_48 ?_
      refine r_getI C hS (by decide) cel_Tape (rfl : cls[2]? = some (R_Tape, T_Tape, 6)) in_Tape 5 (by decide) tw_171 rfl h d_Tide_readThing_51 (fun v10 h => ?_)
      obtain ⟨v11, X13, hr12, h⟩ := bd2_el h
      refine c_I hS (c_runV (As := [.int p1, .int v10]) (rest := []) C hS (by decide) (cel_Shore (rfl : kd 30 = 1)) (rfl : cls[1]? = some (R_Shore, T_Shore, 6)) (k_Shore_add (l := l) (E := E) (X := X9) rfl hr12) cw_Shore_add ini_Shore_add ins_Shore_add sel_Shore_add tw_332 hd_Shore_add rfl ⟨⟨rfl, rfl⟩, (Nat.le_of_ble_eq_true rfl), (Nat.le_of_ble_eq_true rfl)⟩ ⟨(Nat.le_of_ble_eq_true rfl), (Nat.le_of_ble_eq_true rfl)⟩ hl.1 rfl (Nat.le_of_ble_eq_true rfl) d_Tide_readThing_54) (fun H locs hS => ?_)
      refine lv_istore_n (lv' := [(2, .int v11), (0, .ref (ad E 0)), (1, .int p1)]) hx hb d_Tide_readThing_57 rfl hl (by decide) rfl (fun ls hl => ?_)
      refine lv_aload_n hx hb d_Tide_readThing_58 rfl (lv_at hl 1 rfl) ?_
      refine r_get C hS (by decide) cel_Tide (rfl : cls[5]? = some (R_Tide, T_Tide, 12)) in_Tide 4 (by decide) tw_240 rfl d_Tide_readThing_59 ?_
      obtain ⟨X15, hr14, h⟩ := bd_el h
      refine c_V hS (c_runV (As := []) (rest := []) C hS (by decide) cel_Tape (rfl : cls[2]? = some (R_Tape, T_Tape, 6)) (k_Tape_step (l := l) (E := E) (X := X13) hr14) cw_Tape_step ini_Tape_step ins_Tape_step sel_Tape_step tw_673 hd_Tape_step rfl ⟨⟨rfl, rfl⟩, (Nat.le_of_ble_eq_true rfl), (Nat.le_of_ble_eq_true rfl)⟩ ⟨(Nat.le_of_ble_eq_true rfl), (Nat.le_of_ble_eq_true rfl)⟩ hl.1 rfl (Nat.le_of_ble_eq_true rfl) d_Tide_readThing_62) (fun H locs hS => ?_)
      refine lv_aload_n hx hb d_Tide_readThing_65 rfl (lv_at hl 1 rfl) ?_
      refine r_get C hS (by decide) cel_Tide (rfl : cls[5]? = some (R_Tide, T_Tide, 12)) in_Tide 3 (by decide) tw_239 rfl d_Tide_readThing_66 ?_
      refine lv_iload_n hx hb d_Tide_readThing_69 rfl (lv_at hl 0 rfl) ?_
      obtain ⟨v16, hr17, h⟩ := bd_el h
      refine c_I hS (c_runV (As := [.int v11]) (rest := []) C hS (by decide) (cel_Shore (rfl : kd 30 = 1)) (rfl : cls[1]? = some (R_Shore, T_Shore, 6)) (k_Shore_has (l := l) (E := E) (X := X15) rfl hr17) cw_Shore_has ini_Shore_has ins_Shore_has sel_Shore_has tw_345 hd_Shore_has rfl ⟨⟨rfl, rfl⟩, (Nat.le_of_ble_eq_true rfl), (Nat.le_of_ble_eq_true rfl)⟩ ⟨(Nat.le_of_ble_eq_true rfl), (Nat.le_of_ble_eq_true rfl)⟩ hl.1 rfl (Nat.le_of_ble_eq_true rfl) d_Tide_readThing_70) (fun H locs hS => ?_)
      refine r_if_eq (tgt := 112) C h d_Tide_readThing_73 (by decide) (fun h => ?_) (fun h => ?_)
      · skip
        refine lv_iconst (v := 0) hx hb d_Tide_readThing_112 (by decide) ?_
        exact r_zret C hS rfl (Or.inl rfl) h d_Tide_readThing_113
      · skip
        refine lv_aload_n hx hb d_Tide_readThing_76 rfl (lv_at hl 1 rfl) ?_
        refine lv_aload_n hx hb d_Tide_readThing_77 rfl (lv_at hl 1 rfl) ?_
        refine r_get C hS (by decide) cel_Tide (rfl : cls[5]? = some (R_Tide, T_Tide, 12)) in_Tide 3 (by decide) tw_239 rfl d_Tide_readThing_78 ?_
        refine r_get C hS (by decide) (cel_Shore (rfl : kd 30 = 1)) (rfl : cls[1]? = some (R_Shore, T_Shore, 6)) in_Shore 2 (by decide) tw_136 rfl d_Tide_readThing_81 ?_
        refine lv_iload_n hx hb d_Tide_readThing_84 rfl (lv_at hl 0 rfl) ?_
        refine r_ldT C hS (kd_things rfl) h d_Tide_readThing_85 (fun j18 hj18 h => ?_)
        obtain ⟨v19, X21, hr20, h⟩ := bd2_el h
        refine c_I hS (c_runV (As := [.ref (ad E ((30 + 3) + 1 + j18))]) (rest := []) C hS (by decide) cel_Tide (rfl : cls[5]? = some (R_Tide, T_Tide, 12)) (k_Tide_readWorth (l := l) (E := E) (X := X15) (kd_thing (kd_things rfl) hj18) hr20) cw_Tide_readWorth ini_Tide_readWorth ins_Tide_readWorth sel_Tide_readWorth tw_681 hd_Tide_readWorth rfl ⟨⟨rfl, rfl⟩, (Nat.le_of_ble_eq_true rfl), (Nat.le_of_ble_eq_true rfl)⟩ ⟨(Nat.le_of_ble_eq_true rfl), (Nat.le_of_ble_eq_true rfl)⟩ hl.1 rfl (Nat.le_of_ble_eq_true rfl) d_Tide_readThing_86) (fun H locs hS => ?_)
        refine r_if_eq (tgt := 112) C h d_Tide_readThing_89 (by decide) (fun h => ?_) (fun h => ?_)
        · skip
          refine lv_iconst (v := 0) hx hb d_Tide_readThing_112 (by decide) ?_
          exact r_zret C hS rfl (Or.inl rfl) h d_Tide_readThing_113
        · skip
          refine lv_aload_n hx hb d_Tide_readThing_92 rfl (lv_at hl 1 rfl) ?_
          refine lv_aload_n hx hb d_Tide_readThing_93 rfl (lv_at hl 1 rfl) ?_
          refine r_get C hS (by decide) cel_Tide (rfl : cls[5]? = some (R_Tide, T_Tide, 12)) in_Tide 3 (by decide) tw_239 rfl d_Tide_readThing_94 ?_
          refine r_get C hS (by decide) (cel_Shore (rfl : kd 30 = 1)) (rfl : cls[1]? = some (R_Shore, T_Shore, 6)) in_Shore 2 (by decide) tw_136 rfl d_Tide_readThing_97 ?_
          refine lv_iload_n hx hb d_Tide_readThing_100 rfl (lv_at hl 0 rfl) ?_
          refine r_ldT C hS (kd_things rfl) h d_Tide_readThing_101 (fun j22 hj22 h => ?_)
          obtain ⟨v23, X25, hr24, h⟩ := bd2_el h
          refine c_I hS (c_runV (As := [.ref (ad E ((30 + 3) + 1 + j22))]) (rest := []) C hS (by decide) cel_Tide (rfl : cls[5]? = some (R_Tide, T_Tide, 12)) (k_Tide_readPlace (l := l) (E := E) (X := X21) (kd_thing (kd_things rfl) hj22) hr24) cw_Tide_readPlace ini_Tide_readPlace ins_Tide_readPlace sel_Tide_readPlace tw_686 hd_Tide_readPlace rfl ⟨⟨rfl, rfl⟩, (Nat.le_of_ble_eq_true rfl), (Nat.le_of_ble_eq_true rfl)⟩ ⟨(Nat.le_of_ble_eq_true rfl), (Nat.le_of_ble_eq_true rfl)⟩ hl.1 rfl (Nat.le_of_ble_eq_true rfl) d_Tide_readThing_102) (fun H locs hS => ?_)
          refine r_if_eq (tgt := 112) C h d_Tide_readThing_105 (by decide) (fun h => ?_) (fun h => ?_)
          · skip
            refine lv_iconst (v := 0) hx hb d_Tide_readThing_112 (by decide) ?_
            exact r_zret C hS rfl (Or.inl rfl) h d_Tide_readThing_113
          · skip
            refine lv_iconst (v := 1) hx hb d_Tide_readThing_108 (by decide) ?_
            refine lv_goto (tgt := 113) hx hb d_Tide_readThing_109 (by decide) ?_
            exact r_zret C hS rfl (Or.inr rfl) h d_Tide_readThing_113
    · skip
      refine lv_iconst (v := 0) hx hb d_Tide_readThing_40 (by decide) ?_
      exact r_zret C hS rfl (Or.inl rfl) h d_Tide_readThing_41
  · skip
    refine lv_iconst (v := 0) hx hb d_Tide_readThing_20 (by decide) ?_
    exact r_zret C hS rfl (Or.inl rfl) h d_Tide_readThing_21
set_option maxHeartbeats 4000000 in
set_option maxRecDepth 100000 in
theorem k_Tide_readHeight {l : Launch} {E : En} {X : Mem} {r : Int32} {Y : Mem} (h : f_Tide_readHeight X = some (r, Y)) : Met l y_Tide_readHeight (Cond.code y_Tide_readHeight c_Tide_readHeight 2 (some .boolean) :: tb) ({ frames := 2, cells := 0, slots := 0, locals := 52 } : Room) (PreC E [.ref (ad E 0)] X) (PostI E r Y) 0 0 (Ad E) := by
  refine met_of (by decide) (Nat.le_of_ble_eq_true rfl) (fun p e s m below meth c C hS ls hl => ?_)
  replace C : Cx p s m ([.ref (ad E 0)] : List Value).toArray meth c c_Tide_readHeight 2 "TideLoans" (some .boolean) E := C
  replace hl : lv_has ls 2 [(0, .ref (ad E 0))] := hl
  obtain ⟨hx, hb, hml, hown, hts, hrt, hlk, hKx⟩ := id C
  unfold f_Tide_readHeight at h
  refine lv_aload_n hx hb d_Tide_readHeight_0 rfl (lv_at hl 0 rfl) ?_
  refine r_get C hS (by decide) cel_Tide (rfl : cls[5]? = some (R_Tide, T_Tide, 12)) in_Tide 4 (by decide) tw_240 rfl d_Tide_readHeight_1 ?_
  obtain ⟨X2, hr1, h⟩ := bd_el h
  refine c_V hS (c_runV (As := []) (rest := []) C hS (by decide) cel_Tape (rfl : cls[2]? = some (R_Tape, T_Tape, 6)) (k_Tape_step (l := l) (E := E) (X := X) hr1) cw_Tape_step ini_Tape_step ins_Tape_step sel_Tape_step tw_673 hd_Tape_step rfl ⟨⟨rfl, rfl⟩, (Nat.le_of_ble_eq_true rfl), (Nat.le_of_ble_eq_true rfl)⟩ ⟨(Nat.le_of_ble_eq_true rfl), (Nat.le_of_ble_eq_true rfl)⟩ hl.1 rfl (Nat.le_of_ble_eq_true rfl) d_Tide_readHeight_4) (fun H locs hS => ?_)
  refine lv_aload_n hx hb d_Tide_readHeight_7 rfl (lv_at hl 0 rfl) ?_
  refine r_get C hS (by decide) cel_Tide (rfl : cls[5]? = some (R_Tide, T_Tide, 12)) in_Tide 4 (by decide) tw_240 rfl d_Tide_readHeight_8 ?_
  refine lv_bipush (v := 15) hx hb d_Tide_readHeight_11 (by decide) ?_
  obtain ⟨v3, X5, hr4, h⟩ := bd2_el h
  refine c_I hS (c_runV (As := [.int (15 : Int32)]) (rest := []) C hS (by decide) cel_Tape (rfl : cls[2]? = some (R_Tape, T_Tape, 6)) (k_Tape_isNumberTo (l := l) (E := E) (X := X2) hr4) cw_Tape_isNumberTo ini_Tape_isNumberTo ins_Tape_isNumberTo sel_Tape_isNumberTo tw_676 hd_Tape_isNumberTo rfl ⟨⟨rfl, rfl⟩, (Nat.le_of_ble_eq_true rfl), (Nat.le_of_ble_eq_true rfl)⟩ ⟨(Nat.le_of_ble_eq_true rfl), (Nat.le_of_ble_eq_true rfl)⟩ hl.1 rfl (Nat.le_of_ble_eq_true rfl) d_Tide_readHeight_13) (fun H locs hS => ?_)
  refine r_if_ne (tgt := 21) C h d_Tide_readHeight_16 (by decide) (fun h => ?_) (fun h => ?_)
  · skip
    refine lv_aload_n hx hb d_Tide_readHeight_21 rfl (lv_at hl 0 rfl) ?_
    refine r_get C hS (by decide) cel_Tide (rfl : cls[5]? = some (R_Tide, T_Tide, 12)) in_Tide 4 (by decide) tw_240 rfl d_Tide_readHeight_22 ?_
    refine r_getI C hS (by decide) cel_Tape (rfl : cls[2]? = some (R_Tape, T_Tape, 6)) in_Tape 5 (by decide) tw_171 rfl h d_Tide_readHeight_25 (fun v6 h => ?_)
    refine lv_istore_n (lv' := [(1, .int v6), (0, .ref (ad E 0))]) hx hb d_Tide_readHeight_28 rfl hl (by decide) rfl (fun ls hl => ?_)
    refine lv_aload_n hx hb d_Tide_readHeight_29 rfl (lv_at hl 1 rfl) ?_
    refine r_get C hS (by decide) cel_Tide (rfl : cls[5]? = some (R_Tide, T_Tide, 12)) in_Tide 4 (by decide) tw_240 rfl d_Tide_readHeight_30 ?_
    obtain ⟨X8, hr7, h⟩ := bd_el h
    refine c_V hS (c_runV (As := []) (rest := []) C hS (by decide) cel_Tape (rfl : cls[2]? = some (R_Tape, T_Tape, 6)) (k_Tape_step (l := l) (E := E) (X := X5) hr7) cw_Tape_step ini_Tape_step ins_Tape_step sel_Tape_step tw_673 hd_Tape_step rfl ⟨⟨rfl, rfl⟩, (Nat.le_of_ble_eq_true rfl), (Nat.le_of_ble_eq_true rfl)⟩ ⟨(Nat.le_of_ble_eq_true rfl), (Nat.le_of_ble_eq_true rfl)⟩ hl.1 rfl (Nat.le_of_ble_eq_true rfl) d_Tide_readHeight_33) (fun H locs hS => ?_)
    refine lv_aload_n hx hb d_Tide_readHeight_36 rfl (lv_at hl 1 rfl) ?_
    refine r_get C hS (by decide) cel_Tide (rfl : cls[5]? = some (R_Tide, T_Tide, 12)) in_Tide 4 (by decide) tw_240 rfl d_Tide_readHeight_37 ?_
    refine lv_bipush (v := 9) hx hb d_Tide_readHeight_40 (by decide) ?_
    obtain ⟨v9, X11, hr10, h⟩ := bd2_el h
    refine c_I hS (c_runV (As := [.int (9 : Int32)]) (rest := []) C hS (by decide) cel_Tape (rfl : cls[2]? = some (R_Tape, T_Tape, 6)) (k_Tape_isNumberTo (l := l) (E := E) (X := X8) hr10) cw_Tape_isNumberTo ini_Tape_isNumberTo ins_Tape_isNumberTo sel_Tape_isNumberTo tw_676 hd_Tape_isNumberTo rfl ⟨⟨rfl, rfl⟩, (Nat.le_of_ble_eq_true rfl), (Nat.le_of_ble_eq_true rfl)⟩ ⟨(Nat.le_of_ble_eq_true rfl), (Nat.le_of_ble_eq_true rfl)⟩ hl.1 rfl (Nat.le_of_ble_eq_true rfl) d_Tide_readHeight_42) (fun H locs hS => ?_)
    refine r_if_ne (tgt := 50) C h d_Tide_readHeight_45 (by decide) (fun h => ?_) (fun h => ?_)
    · skip
      refine lv_aload_n hx hb d_Tide_readHeight_50 rfl (lv_at hl 1 rfl) ?_
      refine r_get C hS (by decide) cel_Tide (rfl : cls[5]? = some (R_Tide, T_Tide, 12)) in_Tide 3 (by decide) tw_239 rfl d_Tide_readHeight_51 ?_
      refine r_get C hS (by decide) (cel_Shore (rfl : kd 30 = 1)) (rfl : cls[1]? = some (R_Shore, T_Shore, 6)) in_Shore 0 (by decide) tw_132 rfl d_Tide_readHeight_54 ?_
      refine lv_iload_n hx hb d_Tide_readHeight_57 rfl (lv_at hl 0 rfl) ?_
      refine lv_aload_n hx hb d_Tide_readHeight_58 rfl (lv_at hl 1 rfl) ?_
      refine r_get C hS (by decide) cel_Tide (rfl : cls[5]? = some (R_Tide, T_Tide, 12)) in_Tide 4 (by decide) tw_240 rfl d_Tide_readHeight_59 ?_
      refine r_getI C hS (by decide) cel_Tape (rfl : cls[2]? = some (R_Tape, T_Tape, 6)) in_Tape 5 (by decide) tw_171 rfl h d_Tide_readHeight_62 (fun v12 h => ?_)
      refine r_stI C hS (n := 16) (kd_heights rfl) (by decide) h d_Tide_readHeight_65 (fun X13 H locs hS h => ?_)
      refine lv_aload_n hx hb d_Tide_readHeight_66 rfl (lv_at hl 1 rfl) ?_
      refine r_get C hS (by decide) cel_Tide (rfl : cls[5]? = some (R_Tide, T_Tide, 12)) in_Tide 4 (by decide) tw_240 rfl d_Tide_readHeight_67 ?_
      obtain ⟨X15, hr14, h⟩ := bd_el h
      refine c_V hS (c_runV (As := []) (rest := []) C hS (by decide) cel_Tape (rfl : cls[2]? = some (R_Tape, T_Tape, 6)) (k_Tape_step (l := l) (E := E) (X := X13) hr14) cw_Tape_step ini_Tape_step ins_Tape_step sel_Tape_step tw_673 hd_Tape_step rfl ⟨⟨rfl, rfl⟩, (Nat.le_of_ble_eq_true rfl), (Nat.le_of_ble_eq_true rfl)⟩ ⟨(Nat.le_of_ble_eq_true rfl), (Nat.le_of_ble_eq_true rfl)⟩ hl.1 rfl (Nat.le_of_ble_eq_true rfl) d_Tide_readHeight_70) (fun H locs hS => ?_)
      refine lv_iconst (v := 1) hx hb d_Tide_readHeight_73 (by decide) ?_
      exact r_zret C hS rfl (Or.inr rfl) h d_Tide_readHeight_74
    · skip
      refine lv_iconst (v := 0) hx hb d_Tide_readHeight_48 (by decide) ?_
      exact r_zret C hS rfl (Or.inl rfl) h d_Tide_readHeight_49
  · skip
    refine lv_iconst (v := 0) hx hb d_Tide_readHeight_19 (by decide) ?_
    exact r_zret C hS rfl (Or.inl rfl) h d_Tide_readHeight_20
set_option maxHeartbeats 4000000 in
set_option maxRecDepth 100000 in
theorem k_Tide_readInterest {l : Launch} {E : En} {X : Mem} {r : Int32} {Y : Mem} (h : f_Tide_readInterest X = some (r, Y)) : Met l y_Tide_readInterest (Cond.code y_Tide_readInterest c_Tide_readInterest 1 (some .boolean) :: tb) ({ frames := 2, cells := 0, slots := 0, locals := 52 } : Room) (PreC E [.ref (ad E 0)] X) (PostI E r Y) 0 0 (Ad E) := by
  refine met_of (by decide) (Nat.le_of_ble_eq_true rfl) (fun p e s m below meth c C hS ls hl => ?_)
  replace C : Cx p s m ([.ref (ad E 0)] : List Value).toArray meth c c_Tide_readInterest 1 "TideLoans" (some .boolean) E := C
  replace hl : lv_has ls 1 [(0, .ref (ad E 0))] := hl
  obtain ⟨hx, hb, hml, hown, hts, hrt, hlk, hKx⟩ := id C
  unfold f_Tide_readInterest at h
  refine lv_aload_n hx hb d_Tide_readInterest_0 rfl (lv_at hl 0 rfl) ?_
  refine r_get C hS (by decide) cel_Tide (rfl : cls[5]? = some (R_Tide, T_Tide, 12)) in_Tide 4 (by decide) tw_240 rfl d_Tide_readInterest_1 ?_
  obtain ⟨X2, hr1, h⟩ := bd_el h
  refine c_V hS (c_runV (As := []) (rest := []) C hS (by decide) cel_Tape (rfl : cls[2]? = some (R_Tape, T_Tape, 6)) (k_Tape_step (l := l) (E := E) (X := X) hr1) cw_Tape_step ini_Tape_step ins_Tape_step sel_Tape_step tw_673 hd_Tape_step rfl ⟨⟨rfl, rfl⟩, (Nat.le_of_ble_eq_true rfl), (Nat.le_of_ble_eq_true rfl)⟩ ⟨(Nat.le_of_ble_eq_true rfl), (Nat.le_of_ble_eq_true rfl)⟩ hl.1 rfl (Nat.le_of_ble_eq_true rfl) d_Tide_readInterest_4) (fun H locs hS => ?_)
  refine lv_aload_n hx hb d_Tide_readInterest_7 rfl (lv_at hl 0 rfl) ?_
  refine r_get C hS (by decide) cel_Tide (rfl : cls[5]? = some (R_Tide, T_Tide, 12)) in_Tide 4 (by decide) tw_240 rfl d_Tide_readInterest_8 ?_
  refine lv_bipush (v := 50) hx hb d_Tide_readInterest_11 (by decide) ?_
  obtain ⟨v3, X5, hr4, h⟩ := bd2_el h
  refine c_I hS (c_runV (As := [.int (50 : Int32)]) (rest := []) C hS (by decide) cel_Tape (rfl : cls[2]? = some (R_Tape, T_Tape, 6)) (k_Tape_isNumberTo (l := l) (E := E) (X := X2) hr4) cw_Tape_isNumberTo ini_Tape_isNumberTo ins_Tape_isNumberTo sel_Tape_isNumberTo tw_676 hd_Tape_isNumberTo rfl ⟨⟨rfl, rfl⟩, (Nat.le_of_ble_eq_true rfl), (Nat.le_of_ble_eq_true rfl)⟩ ⟨(Nat.le_of_ble_eq_true rfl), (Nat.le_of_ble_eq_true rfl)⟩ hl.1 rfl (Nat.le_of_ble_eq_true rfl) d_Tide_readInterest_13) (fun H locs hS => ?_)
  refine r_if_ne (tgt := 21) C h d_Tide_readInterest_16 (by decide) (fun h => ?_) (fun h => ?_)
  · skip
    refine lv_aload_n hx hb d_Tide_readInterest_21 rfl (lv_at hl 0 rfl) ?_
    refine r_get C hS (by decide) cel_Tide (rfl : cls[5]? = some (R_Tide, T_Tide, 12)) in_Tide 3 (by decide) tw_239 rfl d_Tide_readInterest_22 ?_
    refine lv_aload_n hx hb d_Tide_readInterest_25 rfl (lv_at hl 0 rfl) ?_
    refine r_get C hS (by decide) cel_Tide (rfl : cls[5]? = some (R_Tide, T_Tide, 12)) in_Tide 4 (by decide) tw_240 rfl d_Tide_readInterest_26 ?_
    refine r_getI C hS (by decide) cel_Tape (rfl : cls[2]? = some (R_Tape, T_Tape, 6)) in_Tape 5 (by decide) tw_171 rfl h d_Tide_readInterest_29 (fun v6 h => ?_)
    refine r_putI C hS (by decide) (cel_Shore (rfl : kd 30 = 1)) (rfl : cls[1]? = some (R_Shore, T_Shore, 6)) in_Shore ty_Shore tyok_Shore nm_Shore 5 (by decide) tw_142 rfl rfl rfl (Nat.le_of_ble_eq_true rfl) (set_Shore_5 (rfl : kd 30 = 1)) rfl h d_Tide_readInterest_32 (fun X7 H locs hS h => ?_)
    refine lv_aload_n hx hb d_Tide_readInterest_35 rfl (lv_at hl 0 rfl) ?_
    refine r_get C hS (by decide) cel_Tide (rfl : cls[5]? = some (R_Tide, T_Tide, 12)) in_Tide 4 (by decide) tw_240 rfl d_Tide_readInterest_36 ?_
    obtain ⟨X9, hr8, h⟩ := bd_el h
    refine c_V hS (c_runV (As := []) (rest := []) C hS (by decide) cel_Tape (rfl : cls[2]? = some (R_Tape, T_Tape, 6)) (k_Tape_step (l := l) (E := E) (X := X7) hr8) cw_Tape_step ini_Tape_step ins_Tape_step sel_Tape_step tw_673 hd_Tape_step rfl ⟨⟨rfl, rfl⟩, (Nat.le_of_ble_eq_true rfl), (Nat.le_of_ble_eq_true rfl)⟩ ⟨(Nat.le_of_ble_eq_true rfl), (Nat.le_of_ble_eq_true rfl)⟩ hl.1 rfl (Nat.le_of_ble_eq_true rfl) d_Tide_readInterest_39) (fun H locs hS => ?_)
    refine lv_iconst (v := 1) hx hb d_Tide_readInterest_42 (by decide) ?_
    exact r_zret C hS rfl (Or.inr rfl) h d_Tide_readInterest_43
  · skip
    refine lv_iconst (v := 0) hx hb d_Tide_readInterest_19 (by decide) ?_
    exact r_zret C hS rfl (Or.inl rfl) h d_Tide_readInterest_20
set_option maxHeartbeats 4000000 in
set_option maxRecDepth 100000 in
theorem k_Tide_readItem {l : Launch} {E : En} {X : Mem} {r : Int32} {Y : Mem} (h : f_Tide_readItem X = some (r, Y)) : Met l y_Tide_readItem (Cond.code y_Tide_readItem c_Tide_readItem 2 (some .boolean) :: tb) ({ frames := 10, cells := 0, slots := 0, locals := 246 } : Room) (PreC E [.ref (ad E 0)] X) (PostI E r Y) 0 0 (Ad E) := by
  refine met_of (by decide) (Nat.le_of_ble_eq_true rfl) (fun p e s m below meth c C hS ls hl => ?_)
  replace C : Cx p s m ([.ref (ad E 0)] : List Value).toArray meth c c_Tide_readItem 2 "TideLoans" (some .boolean) E := C
  replace hl : lv_has ls 2 [(0, .ref (ad E 0))] := hl
  obtain ⟨hx, hb, hml, hown, hts, hrt, hlk, hKx⟩ := id C
  unfold f_Tide_readItem at h
  refine lv_aload_n hx hb d_Tide_readItem_0 rfl (lv_at hl 0 rfl) ?_
  refine r_get C hS (by decide) cel_Tide (rfl : cls[5]? = some (R_Tide, T_Tide, 12)) in_Tide 4 (by decide) tw_240 rfl d_Tide_readItem_1 ?_
  obtain ⟨v1, hr2, h⟩ := bd_el h
  refine c_I hS (c_runV (As := []) (rest := []) C hS (by decide) cel_Tape (rfl : cls[2]? = some (R_Tape, T_Tape, 6)) (k_Tape_kindNamed (l := l) (E := E) (X := X) hr2) cw_Tape_kindNamed ini_Tape_kindNamed ins_Tape_kindNamed sel_Tape_kindNamed tw_604 hd_Tape_kindNamed rfl ⟨⟨rfl, rfl⟩, (Nat.le_of_ble_eq_true rfl), (Nat.le_of_ble_eq_true rfl)⟩ ⟨(Nat.le_of_ble_eq_true rfl), (Nat.le_of_ble_eq_true rfl)⟩ hl.1 rfl (Nat.le_of_ble_eq_true rfl) d_Tide_readItem_4) (fun H locs hS => ?_)
  refine lv_istore_n (lv' := [(1, .int v1), (0, .ref (ad E 0))]) hx hb d_Tide_readItem_7 rfl hl (by decide) rfl (fun ls hl => ?_)
  refine lv_iload_n hx hb d_Tide_readItem_8 rfl (lv_at hl 0 rfl) ?_
  refine lv_iconst (v := -1) hx hb d_Tide_readItem_9 (by decide) ?_
  refine r_icmp_eq (tgt := 37) C h d_Tide_readItem_10 (by decide) (fun h => ?_) (fun h => ?_)
  · skip
    refine lv_aload_n hx hb d_Tide_readItem_37 rfl (lv_at hl 1 rfl) ?_
    refine r_get C hS (by decide) cel_Tide (rfl : cls[5]? = some (R_Tide, T_Tide, 12)) in_Tide 4 (by decide) tw_240 rfl d_Tide_readItem_38 ?_
    refine r_ldcSW (own := "TideLoans") (index := 364) (tx := "height") (q := eK E 9) hx hb hown (hKx.2.2.2.1 9 (by decide)) d_Tide_readItem_41 ?_
    obtain ⟨v3, hr4, h⟩ := bd_el h
    refine c_I hS (c_runV (As := [.ref (eK E 9)]) (rest := []) C hS (by decide) cel_Tape (rfl : cls[2]? = some (R_Tape, T_Tape, 6)) (k_Tape_isWord (l := l) (E := E) (X := X) hr4) cw_Tape_isWord ini_Tape_isWord ins_Tape_isWord sel_Tape_isWord tw_675 hd_Tape_isWord rfl ⟨⟨rfl, rfl⟩, (Nat.le_of_ble_eq_true rfl), (Nat.le_of_ble_eq_true rfl)⟩ ⟨(Nat.le_of_ble_eq_true rfl), (Nat.le_of_ble_eq_true rfl)⟩ hl.1 rfl (Nat.le_of_ble_eq_true rfl) d_Tide_readItem_44) (fun H locs hS => ?_)
    refine r_if_eq (tgt := 55) C h d_Tide_readItem_47 (by decide) (fun h => ?_) (fun h => ?_)
    · skip
      refine lv_aload_n hx hb d_Tide_readItem_55 rfl (lv_at hl 1 rfl) ?_
      refine r_get C hS (by decide) cel_Tide (rfl : cls[5]? = some (R_Tide, T_Tide, 12)) in_Tide 4 (by decide) tw_240 rfl d_Tide_readItem_56 ?_
      refine r_ldcSW (own := "TideLoans") (index := 373) (tx := "interest") (q := eK E 10) hx hb hown (hKx.2.2.2.1 10 (by decide)) d_Tide_readItem_59 ?_
      obtain ⟨v5, hr6, h⟩ := bd_el h
      refine c_I hS (c_runV (As := [.ref (eK E 10)]) (rest := []) C hS (by decide) cel_Tape (rfl : cls[2]? = some (R_Tape, T_Tape, 6)) (k_Tape_isWord (l := l) (E := E) (X := X) hr6) cw_Tape_isWord ini_Tape_isWord ins_Tape_isWord sel_Tape_isWord tw_675 hd_Tape_isWord rfl ⟨⟨rfl, rfl⟩, (Nat.le_of_ble_eq_true rfl), (Nat.le_of_ble_eq_true rfl)⟩ ⟨(Nat.le_of_ble_eq_true rfl), (Nat.le_of_ble_eq_true rfl)⟩ hl.1 rfl (Nat.le_of_ble_eq_true rfl) d_Tide_readItem_62) (fun H locs hS => ?_)
      refine r_if_eq (tgt := 79) C h d_Tide_readItem_65 (by decide) (fun h => ?_) (fun h => ?_)
      · skip
        refine lv_iconst (v := 0) hx hb d_Tide_readItem_79 (by decide) ?_
        exact r_zret C hS rfl (Or.inl rfl) h d_Tide_readItem_80
      · skip
        refine lv_aload_n hx hb d_Tide_readItem_68 rfl (lv_at hl 1 rfl) ?_
        obtain ⟨v7, X9, hr8, h⟩ := bd2_el h
        refine c_I hS (c_runV (As := []) (rest := []) C hS (by decide) cel_Tide (rfl : cls[5]? = some (R_Tide, T_Tide, 12)) (k_Tide_readInterest (l := l) (E := E) (X := X) hr8) cw_Tide_readInterest ini_Tide_readInterest ins_Tide_readInterest sel_Tide_readInterest tw_697 hd_Tide_readInterest rfl ⟨⟨rfl, rfl⟩, (Nat.le_of_ble_eq_true rfl), (Nat.le_of_ble_eq_true rfl)⟩ ⟨(Nat.le_of_ble_eq_true rfl), (Nat.le_of_ble_eq_true rfl)⟩ hl.1 rfl (Nat.le_of_ble_eq_true rfl) d_Tide_readItem_69) (fun H locs hS => ?_)
        refine r_if_eq (tgt := 79) C h d_Tide_readItem_72 (by decide) (fun h => ?_) (fun h => ?_)
        · skip
          refine lv_iconst (v := 0) hx hb d_Tide_readItem_79 (by decide) ?_
          exact r_zret C hS rfl (Or.inl rfl) h d_Tide_readItem_80
        · skip
          refine lv_iconst (v := 1) hx hb d_Tide_readItem_75 (by decide) ?_
          refine lv_goto (tgt := 80) hx hb d_Tide_readItem_76 (by decide) ?_
          exact r_zret C hS rfl (Or.inr rfl) h d_Tide_readItem_80
    · skip
      refine lv_aload_n hx hb d_Tide_readItem_50 rfl (lv_at hl 1 rfl) ?_
      obtain ⟨v10, X12, hr11, h⟩ := bd2_el h
      refine c_I hS (c_runV (As := []) (rest := []) C hS (by decide) cel_Tide (rfl : cls[5]? = some (R_Tide, T_Tide, 12)) (k_Tide_readHeight (l := l) (E := E) (X := X) hr11) cw_Tide_readHeight ini_Tide_readHeight ins_Tide_readHeight sel_Tide_readHeight tw_692 hd_Tide_readHeight rfl ⟨⟨rfl, rfl⟩, (Nat.le_of_ble_eq_true rfl), (Nat.le_of_ble_eq_true rfl)⟩ ⟨(Nat.le_of_ble_eq_true rfl), (Nat.le_of_ble_eq_true rfl)⟩ hl.1 rfl (Nat.le_of_ble_eq_true rfl) d_Tide_readItem_51) (fun H locs hS => ?_)
      obtain ⟨hz, h⟩ := if_tr h
      exact r_zret C hS rfl hz h d_Tide_readItem_54
  · skip
    refine lv_aload_n hx hb d_Tide_readItem_13 rfl (lv_at hl 1 rfl) ?_
    refine r_get C hS (by decide) cel_Tide (rfl : cls[5]? = some (R_Tide, T_Tide, 12)) in_Tide 3 (by decide) tw_239 rfl d_Tide_readItem_14 ?_
    obtain ⟨v13, hr14, h⟩ := bd_el h
    refine c_I hS (c_runV (As := []) (rest := []) C hS (by decide) (cel_Shore (rfl : kd 30 = 1)) (rfl : cls[1]? = some (R_Shore, T_Shore, 6)) (k_Shore_isFull (l := l) (E := E) (X := X) rfl hr14) cw_Shore_isFull ini_Shore_isFull ins_Shore_isFull sel_Shore_isFull tw_327 hd_Shore_isFull rfl ⟨⟨rfl, rfl⟩, (Nat.le_of_ble_eq_true rfl), (Nat.le_of_ble_eq_true rfl)⟩ ⟨(Nat.le_of_ble_eq_true rfl), (Nat.le_of_ble_eq_true rfl)⟩ hl.1 rfl (Nat.le_of_ble_eq_true rfl) d_Tide_readItem_17) (fun H locs hS => ?_)
    refine r_if_ne (tgt := 35) C h d_Tide_readItem_20 (by decide) (fun h => ?_) (fun h => ?_)
    · skip
      refine lv_iconst (v := 0) hx hb d_Tide_readItem_35 (by decide) ?_
      exact r_zret C hS rfl (Or.inl rfl) h d_Tide_readItem_36
    · skip
      refine lv_aload_n hx hb d_Tide_readItem_23 rfl (lv_at hl 1 rfl) ?_
      refine lv_iload_n hx hb d_Tide_readItem_24 rfl (lv_at hl 0 rfl) ?_
      obtain ⟨v15, X17, hr16, h⟩ := bd2_el h
      refine c_I hS (c_runV (As := [.int v1]) (rest := []) C hS (by decide) cel_Tide (rfl : cls[5]? = some (R_Tide, T_Tide, 12)) (k_Tide_readThing (l := l) (E := E) (X := X) hr16) cw_Tide_readThing ini_Tide_readThing ins_Tide_readThing sel_Tide_readThing tw_669 hd_Tide_readThing rfl ⟨⟨rfl, rfl⟩, (Nat.le_of_ble_eq_true rfl), (Nat.le_of_ble_eq_true rfl)⟩ ⟨(Nat.le_of_ble_eq_true rfl), (Nat.le_of_ble_eq_true rfl)⟩ hl.1 rfl (Nat.le_of_ble_eq_true rfl) d_Tide_readItem_25) (fun H locs hS => ?_)
      refine r_if_eq (tgt := 35) C h d_Tide_readItem_28 (by decide) (fun h => ?_) (fun h => ?_)
      · skip
        refine lv_iconst (v := 0) hx hb d_Tide_readItem_35 (by decide) ?_
        exact r_zret C hS rfl (Or.inl rfl) h d_Tide_readItem_36
      · skip
        refine lv_iconst (v := 1) hx hb d_Tide_readItem_31 (by decide) ?_
        refine lv_goto (tgt := 36) hx hb d_Tide_readItem_32 (by decide) ?_
        exact r_zret C hS rfl (Or.inr rfl) h d_Tide_readItem_36
def I_Tide_readText_b11 (p : Program) (l : Launch) (e : Env) (s : State) (m : MethodId) (args : Array Value) (below : List Frame) (meth : Method) (c : Code) (E : En) (r : Int32) (Y : Mem) (n : Nat) (tg : (Int32 × Mem)) : Prop := ∀ (x1 : Int32) (x2 : Int32) (X : Mem) (H : Heap) (locs : List Loc) (ls : Array Slot), it (fun a => f_Tide_readText_b11 a.1 a.2.1 a.2.2) n (x1, x2, X) = some tg → Hs E s.heap X H locs → lv_has ls 3 [(0, .ref (ad E 0)), (1, .int x1), (2, .int x2)] → W p l e ({ frames := 11, cells := 0, slots := 0, locals := 267 } : Room) s m args below meth c H locs 0 0 (MQ below (PostI E r Y) args s 0 0 (Ad E)) (F0 m 11 ls [])
set_option maxHeartbeats 4000000 in
set_option maxRecDepth 100000 in
theorem k_Tide_readText_j72 {p : Program} {l : Launch} {e : Env} {s : State} {m : MethodId} {args : Array Value} {below : List Frame} {meth : Method} {c : Code} {E : En} {r : Int32} {Y : Mem} (C : Cx p s m args meth c c_Tide_readText 3 "TideLoans" (some .int) E) {x1 : Int32} {X : Mem} (h : f_Tide_readText_j72 x1 X = some (r, Y)) {H : Heap} {locs : List Loc} (hS : Hs E s.heap X H locs) {ls : Array Slot} (hl : lv_has ls 3 [(0, .ref (ad E 0)), (1, .int x1)]) : W p l e ({ frames := 11, cells := 0, slots := 0, locals := 267 } : Room) s m args below meth c H locs 0 0 (MQ below (PostI E r Y) args s 0 0 (Ad E)) (F0 m 72 ls []) := by
  obtain ⟨hx, hb, hml, hown, hts, hrt, hlk, hKx⟩ := id C
  unfold f_Tide_readText_j72 at h
  refine lv_aload_n hx hb d_Tide_readText_72 rfl (lv_at hl 0 rfl) ?_
  refine r_get C hS (by decide) cel_Tide (rfl : cls[5]? = some (R_Tide, T_Tide, 12)) in_Tide 4 (by decide) tw_240 rfl d_Tide_readText_73 ?_
  refine r_getI C hS (by decide) cel_Tape (rfl : cls[2]? = some (R_Tape, T_Tape, 6)) in_Tape 2 (by decide) tw_166 rfl h d_Tide_readText_76 (fun v1 h => ?_)
  refine r_if_ne (tgt := 86) C h d_Tide_readText_79 (by decide) (fun h => ?_) (fun h => ?_)
  · skip
    refine lv_iconst (v := -1) hx hb d_Tide_readText_86 (by decide) ?_
    refine lv_aload_n hx hb d_Tide_readText_87 rfl (lv_at hl 0 rfl) ?_
    refine r_get C hS (by decide) cel_Tide (rfl : cls[5]? = some (R_Tide, T_Tide, 12)) in_Tide 4 (by decide) tw_240 rfl d_Tide_readText_88 ?_
    refine r_getI C hS (by decide) cel_Tape (rfl : cls[2]? = some (R_Tape, T_Tape, 6)) in_Tape 3 (by decide) tw_168 rfl h d_Tide_readText_91 (fun v2 h => ?_)
    refine lv_isub hx hb d_Tide_readText_94 ?_
    exact r_iret C hS rfl h d_Tide_readText_95
  · skip
    refine lv_iload_n hx hb d_Tide_readText_82 rfl (lv_at hl 1 rfl) ?_
    refine lv_goto (tgt := 95) hx hb d_Tide_readText_83 (by decide) ?_
    exact r_iret C hS rfl h d_Tide_readText_95
set_option maxHeartbeats 4000000 in
set_option maxRecDepth 100000 in
theorem k_Tide_readText_j57 {p : Program} {l : Launch} {e : Env} {s : State} {m : MethodId} {args : Array Value} {below : List Frame} {meth : Method} {c : Code} {E : En} {r : Int32} {Y : Mem} (C : Cx p s m args meth c c_Tide_readText 3 "TideLoans" (some .int) E) {x1 : Int32} {q0 : Int32} {X : Mem} {tg : ((Int32 × Mem) ⊕ (Int32 × Int32 × Mem))} {n11 : Nat} (hc11 : fin (fun a => f_Tide_readText_b11 a.1 a.2.1 a.2.2) n11 (r, Y) tg) (ih11 : I_Tide_readText_b11 p l e s m args below meth c E r Y n11 (r, Y)) (h : f_Tide_readText_j57 x1 q0 X = some tg) {H : Heap} {locs : List Loc} (hS : Hs E s.heap X H locs) {ls : Array Slot} (hl : lv_has ls 3 [(0, .ref (ad E 0)), (1, .int x1)]) : W p l e ({ frames := 11, cells := 0, slots := 0, locals := 267 } : Room) s m args below meth c H locs 0 0 (MQ below (PostI E r Y) args s 0 0 (Ad E)) (F0 m 57 ls [.int q0]) := by
  obtain ⟨hx, hb, hml, hown, hts, hrt, hlk, hKx⟩ := id C
  unfold f_Tide_readText_j57 at h
  refine lv_istore_n (lv' := [(2, .int q0), (0, .ref (ad E 0)), (1, .int x1)]) hx hb d_Tide_readText_57 rfl hl (by decide) rfl (fun ls hl => ?_)
  refine lv_iload_n hx hb d_Tide_readText_58 rfl (lv_at hl 0 rfl) ?_
  refine r_if_eq (tgt := 11) C h d_Tide_readText_59 (by decide) (fun h => ?_) (fun h => ?_)
  · skip
    exact ih11 _ _ _ _ _ _ (lp_next h hc11) hS (lv_sub hl [1, 2, 0] rfl)
  · skip
    refine lv_aload_n hx hb d_Tide_readText_62 rfl (lv_at hl 1 rfl) ?_
    refine r_get C hS (by decide) cel_Tide (rfl : cls[5]? = some (R_Tide, T_Tide, 12)) in_Tide 4 (by decide) tw_240 rfl d_Tide_readText_63 ?_
    obtain ⟨X2, hr1, h⟩ := bd_el h
    refine c_V hS (c_runV (As := []) (rest := []) C hS (by decide) cel_Tape (rfl : cls[2]? = some (R_Tape, T_Tape, 6)) (k_Tape_step (l := l) (E := E) (X := X) hr1) cw_Tape_step ini_Tape_step ins_Tape_step sel_Tape_step tw_673 hd_Tape_step rfl ⟨⟨rfl, rfl⟩, (Nat.le_of_ble_eq_true rfl), (Nat.le_of_ble_eq_true rfl)⟩ ⟨(Nat.le_of_ble_eq_true rfl), (Nat.le_of_ble_eq_true rfl)⟩ hl.1 rfl (Nat.le_of_ble_eq_true rfl) d_Tide_readText_66) (fun H locs hS => ?_)
    refine lv_goto (tgt := 11) hx hb d_Tide_readText_69 (by decide) ?_
    exact ih11 _ _ _ _ _ _ (lp_next h hc11) hS (lv_sub hl [1, 2, 0] rfl)
set_option maxHeartbeats 4000000 in
set_option maxRecDepth 100000 in
theorem k_Tide_readText_b11 {p : Program} {l : Launch} {e : Env} {s : State} {m : MethodId} {args : Array Value} {below : List Frame} {meth : Method} {c : Code} {E : En} {r : Int32} {Y : Mem} (C : Cx p s m args meth c c_Tide_readText 3 "TideLoans" (some .int) E) : ∀ n, I_Tide_readText_b11 p l e s m args below meth c E r Y n (r, Y) := by
  obtain ⟨hx, hb, hml, hown, hts, hrt, hlk, hKx⟩ := id C
  intro n
  induction n with
  | zero => intro x1 x2 X H locs ls h; exact it_0 h
  | succ n ih =>
    intro x1 x2 X H locs ls h hS hl
    obtain ⟨cc11, h, hc11⟩ := it_el h
    replace h : f_Tide_readText_b11 x1 x2 X = some cc11 := h
    unfold f_Tide_readText_b11 at h
    refine lv_iload_n hx hb d_Tide_readText_11 rfl (lv_at hl 2 rfl) ?_
    refine r_if_eq (tgt := 72) C h d_Tide_readText_12 (by decide) (fun h => ?_) (fun h => ?_)
    · skip
      replace h := lp_up h hc11
      exact k_Tide_readText_j72 C h hS (lv_sub hl [0, 1] rfl)
    · skip
      refine lv_iload_n hx hb d_Tide_readText_15 rfl (lv_at hl 1 rfl) ?_
      refine lv_bipush (v := 120) hx hb d_Tide_readText_16 (by decide) ?_
      refine r_icmp_ge (tgt := 72) C h d_Tide_readText_18 (by decide) (fun h => ?_) (fun h => ?_)
      · skip
        replace h := lp_up h hc11
        exact k_Tide_readText_j72 C h hS (lv_sub hl [0, 1] rfl)
      · skip
        refine lv_aload_n hx hb d_Tide_readText_21 rfl (lv_at hl 0 rfl) ?_
        obtain ⟨v1, X3, hr2, h⟩ := bd2_el h
        refine c_I hS (c_runV (As := []) (rest := []) C hS (by decide) cel_Tide (rfl : cls[5]? = some (R_Tide, T_Tide, 12)) (k_Tide_readItem (l := l) (E := E) (X := X) hr2) cw_Tide_readItem ini_Tide_readItem ins_Tide_readItem sel_Tide_readItem tw_600 hd_Tide_readItem rfl ⟨⟨rfl, rfl⟩, (Nat.le_of_ble_eq_true rfl), (Nat.le_of_ble_eq_true rfl)⟩ ⟨(Nat.le_of_ble_eq_true rfl), (Nat.le_of_ble_eq_true rfl)⟩ hl.1 rfl (Nat.le_of_ble_eq_true rfl) d_Tide_readText_22) (fun H locs hS => ?_)
        refine r_if_ne (tgt := 38) C h d_Tide_readText_25 (by decide) (fun h => ?_) (fun h => ?_)
        · skip
          refine r_iinc C (w := 1) (lv' := fun z => [(1, .int z), (0, .ref (ad E 0)), (2, .int x2)]) h d_Tide_readText_38 hl (k := 1) rfl (by decide) (by decide) (fun _ => rfl) (fun v4 ls h hl => ?_)
          refine lv_aload_n hx hb d_Tide_readText_41 rfl (lv_at hl 1 rfl) ?_
          refine r_get C hS (by decide) cel_Tide (rfl : cls[5]? = some (R_Tide, T_Tide, 12)) in_Tide 4 (by decide) tw_240 rfl d_Tide_readText_42 ?_
          refine r_getI C hS (by decide) cel_Tape (rfl : cls[2]? = some (R_Tape, T_Tape, 6)) in_Tape 2 (by decide) tw_166 rfl h d_Tide_readText_45 (fun v5 h => ?_)
          refine lv_iconst (v := 3) hx hb d_Tide_readText_48 (by decide) ?_
          refine r_icmp_ne (tgt := 56) C h d_Tide_readText_49 (by decide) (fun h => ?_) (fun h => ?_)
          · skip
            refine lv_iconst (v := 0) hx hb d_Tide_readText_56 (by decide) ?_
            exact k_Tide_readText_j57 C hc11 ih h hS (lv_sub hl [1, 0] rfl)
          · skip
            refine lv_iconst (v := 1) hx hb d_Tide_readText_52 (by decide) ?_
            refine lv_goto (tgt := 57) hx hb d_Tide_readText_53 (by decide) ?_
            exact k_Tide_readText_j57 C hc11 ih h hS (lv_sub hl [1, 0] rfl)
        · skip
          refine lv_iconst (v := -1) hx hb d_Tide_readText_28 (by decide) ?_
          refine lv_aload_n hx hb d_Tide_readText_29 rfl (lv_at hl 0 rfl) ?_
          refine r_get C hS (by decide) cel_Tide (rfl : cls[5]? = some (R_Tide, T_Tide, 12)) in_Tide 4 (by decide) tw_240 rfl d_Tide_readText_30 ?_
          refine r_getI C hS (by decide) cel_Tape (rfl : cls[2]? = some (R_Tape, T_Tape, 6)) in_Tape 3 (by decide) tw_168 rfl h d_Tide_readText_33 (fun v6 h => ?_)
          refine lv_isub hx hb d_Tide_readText_36 ?_
          replace h := lp_ret h hc11
          exact r_iret C hS rfl h d_Tide_readText_37
set_option maxHeartbeats 4000000 in
set_option maxRecDepth 100000 in
theorem k_Tide_readText {l : Launch} {E : En} {X : Mem} {r : Int32} {Y : Mem} (h : f_Tide_readText X = some (r, Y)) : Met l y_Tide_readText (Cond.code y_Tide_readText c_Tide_readText 3 (some .int) :: tb) ({ frames := 11, cells := 0, slots := 0, locals := 267 } : Room) (PreC E [.ref (ad E 0)] X) (PostI E r Y) 0 0 (Ad E) := by
  refine met_of (by decide) (Nat.le_of_ble_eq_true rfl) (fun p e s m below meth c C hS ls hl => ?_)
  replace C : Cx p s m ([.ref (ad E 0)] : List Value).toArray meth c c_Tide_readText 3 "TideLoans" (some .int) E := C
  replace hl : lv_has ls 3 [(0, .ref (ad E 0))] := hl
  obtain ⟨hx, hb, hml, hown, hts, hrt, hlk, hKx⟩ := id C
  unfold f_Tide_readText at h
  refine lv_aload_n hx hb d_Tide_readText_0 rfl (lv_at hl 0 rfl) ?_
  refine r_get C hS (by decide) cel_Tide (rfl : cls[5]? = some (R_Tide, T_Tide, 12)) in_Tide 4 (by decide) tw_240 rfl d_Tide_readText_1 ?_
  obtain ⟨X2, hr1, h⟩ := bd_el h
  refine c_V hS (c_runV (As := []) (rest := []) C hS (by decide) cel_Tape (rfl : cls[2]? = some (R_Tape, T_Tape, 6)) (k_Tape_rewind (l := l) (E := E) (X := X) hr1) cw_Tape_rewind ini_Tape_rewind ins_Tape_rewind sel_Tape_rewind tw_589 hd_Tape_rewind rfl ⟨⟨rfl, rfl⟩, (Nat.le_of_ble_eq_true rfl), (Nat.le_of_ble_eq_true rfl)⟩ ⟨(Nat.le_of_ble_eq_true rfl), (Nat.le_of_ble_eq_true rfl)⟩ hl.1 rfl (Nat.le_of_ble_eq_true rfl) d_Tide_readText_4) (fun H locs hS => ?_)
  refine lv_iconst (v := 0) hx hb d_Tide_readText_7 (by decide) ?_
  refine lv_istore_n (lv' := [(1, .int (0 : Int32)), (0, .ref (ad E 0))]) hx hb d_Tide_readText_8 rfl hl (by decide) rfl (fun ls hl => ?_)
  refine lv_iconst (v := 1) hx hb d_Tide_readText_9 (by decide) ?_
  refine lv_istore_n (lv' := [(2, .int (1 : Int32)), (1, .int (0 : Int32)), (0, .ref (ad E 0))]) hx hb d_Tide_readText_10 rfl hl (by decide) rfl (fun ls hl => ?_)
  exact k_Tide_readText_b11 C FU _ _ _ _ _ _ h hS (lv_sub hl [2, 1, 0] rfl)
set_option maxHeartbeats 4000000 in
set_option maxRecDepth 100000 in
theorem k_Tide_shore_j31 {p : Program} {l : Launch} {e : Env} {s : State} {m : MethodId} {args : Array Value} {below : List Frame} {meth : Method} {c : Code} {E : En} {r : Int32} {Y : Mem} (C : Cx p s m args meth c c_Tide_shore 2 "TideLoans" (some .int) E) {x1 : Int32} {X : Mem} (h : f_Tide_shore_j31 x1 X = some (r, Y)) {H : Heap} {locs : List Loc} (hS : Hs E s.heap X H locs) {ls : Array Slot} (hl : lv_has ls 2 [(0, .ref (ad E 0)), (1, .int x1)]) : W p l e ({ frames := 12, cells := 0, slots := 0, locals := 289 } : Room) s m args below meth c H locs 0 0 (MQ below (PostI E r Y) args s 0 0 (Ad E)) (F0 m 31 ls []) := by
  obtain ⟨hx, hb, hml, hown, hts, hrt, hlk, hKx⟩ := id C
  unfold f_Tide_shore_j31 at h
  refine lv_aload_n hx hb d_Tide_shore_31 rfl (lv_at hl 0 rfl) ?_
  refine r_get C hS (by decide) cel_Tide (rfl : cls[5]? = some (R_Tide, T_Tide, 12)) in_Tide 4 (by decide) tw_240 rfl d_Tide_shore_32 ?_
  refine lv_iconst (v := 0) hx hb d_Tide_shore_35 (by decide) ?_
  refine r_putI C hS (by decide) cel_Tape (rfl : cls[2]? = some (R_Tape, T_Tape, 6)) in_Tape ty_Tape tyok_Tape nm_Tape 1 (by decide) tw_164 rfl rfl rfl (Nat.le_of_ble_eq_true rfl) set_Tape_1 rfl h d_Tide_shore_36 (fun X1 H locs hS h => ?_)
  refine lv_iload_n hx hb d_Tide_shore_39 rfl (lv_at hl 1 rfl) ?_
  exact r_iret C hS rfl h d_Tide_shore_40
set_option maxHeartbeats 4000000 in
set_option maxRecDepth 100000 in
theorem k_Tide_shore {l : Launch} {E : En} {X : Mem} {r : Int32} {Y : Mem} (h : f_Tide_shore X = some (r, Y)) : Met l y_Tide_shore (Cond.code y_Tide_shore c_Tide_shore 2 (some .int) :: tb) ({ frames := 12, cells := 0, slots := 0, locals := 289 } : Room) (PreC E [.ref (ad E 0)] X) (PostI E r Y) 0 0 (Ad E) := by
  refine met_of (by decide) (Nat.le_of_ble_eq_true rfl) (fun p e s m below meth c C hS ls hl => ?_)
  replace C : Cx p s m ([.ref (ad E 0)] : List Value).toArray meth c c_Tide_shore 2 "TideLoans" (some .int) E := C
  replace hl : lv_has ls 2 [(0, .ref (ad E 0))] := hl
  obtain ⟨hx, hb, hml, hown, hts, hrt, hlk, hKx⟩ := id C
  unfold f_Tide_shore at h
  refine lv_aload_n hx hb d_Tide_shore_0 rfl (lv_at hl 0 rfl) ?_
  refine r_get C hS (by decide) cel_Tide (rfl : cls[5]? = some (R_Tide, T_Tide, 12)) in_Tide 3 (by decide) tw_239 rfl d_Tide_shore_1 ?_
  refine lv_aload_n hx hb d_Tide_shore_4 rfl (lv_at hl 0 rfl) ?_
  refine r_get C hS (by decide) cel_Tide (rfl : cls[5]? = some (R_Tide, T_Tide, 12)) in_Tide 1 (by decide) tw_237 rfl d_Tide_shore_5 ?_
  obtain ⟨X2, hr1, h⟩ := bd_el h
  refine c_V hS (c_runV (As := [.ref (ad E 2)]) (rest := []) C hS (by decide) (cel_Shore (rfl : kd 30 = 1)) (rfl : cls[1]? = some (R_Shore, T_Shore, 6)) (k_Shore_become (l := l) (E := E) (X := X) rfl rfl hr1) cw_Shore_become ini_Shore_become ins_Shore_become sel_Shore_become tw_577 hd_Shore_become rfl ⟨⟨rfl, rfl⟩, (Nat.le_of_ble_eq_true rfl), (Nat.le_of_ble_eq_true rfl)⟩ ⟨(Nat.le_of_ble_eq_true rfl), (Nat.le_of_ble_eq_true rfl)⟩ hl.1 rfl (Nat.le_of_ble_eq_true rfl) d_Tide_shore_8) (fun H locs hS => ?_)
  refine lv_aload_n hx hb d_Tide_shore_11 rfl (lv_at hl 0 rfl) ?_
  obtain ⟨v3, X5, hr4, h⟩ := bd2_el h
  refine c_I hS (c_runV (As := []) (rest := []) C hS (by decide) cel_Tide (rfl : cls[5]? = some (R_Tide, T_Tide, 12)) (k_Tide_readText (l := l) (E := E) (X := X2) hr4) cw_Tide_readText ini_Tide_readText ins_Tide_readText sel_Tide_readText tw_585 hd_Tide_readText rfl ⟨⟨rfl, rfl⟩, (Nat.le_of_ble_eq_true rfl), (Nat.le_of_ble_eq_true rfl)⟩ ⟨(Nat.le_of_ble_eq_true rfl), (Nat.le_of_ble_eq_true rfl)⟩ hl.1 rfl (Nat.le_of_ble_eq_true rfl) d_Tide_shore_12) (fun H locs hS => ?_)
  refine lv_istore_n (lv' := [(1, .int v3), (0, .ref (ad E 0))]) hx hb d_Tide_shore_15 rfl hl (by decide) rfl (fun ls hl => ?_)
  refine lv_iload_n hx hb d_Tide_shore_16 rfl (lv_at hl 0 rfl) ?_
  refine r_if_le (tgt := 31) C h d_Tide_shore_17 (by decide) (fun h => ?_) (fun h => ?_)
  · skip
    exact k_Tide_shore_j31 C h hS (lv_sub hl [1, 0] rfl)
  · skip
    refine lv_aload_n hx hb d_Tide_shore_20 rfl (lv_at hl 1 rfl) ?_
    refine r_get C hS (by decide) cel_Tide (rfl : cls[5]? = some (R_Tide, T_Tide, 12)) in_Tide 1 (by decide) tw_237 rfl d_Tide_shore_21 ?_
    refine lv_aload_n hx hb d_Tide_shore_24 rfl (lv_at hl 1 rfl) ?_
    refine r_get C hS (by decide) cel_Tide (rfl : cls[5]? = some (R_Tide, T_Tide, 12)) in_Tide 3 (by decide) tw_239 rfl d_Tide_shore_25 ?_
    obtain ⟨X7, hr6, h⟩ := bd_el h
    refine c_V hS (c_runV (As := [.ref (ad E 30)]) (rest := []) C hS (by decide) (cel_Shore (rfl : kd 2 = 1)) (rfl : cls[1]? = some (R_Shore, T_Shore, 6)) (k_Shore_become (l := l) (E := E) (X := X5) rfl rfl hr6) cw_Shore_become ini_Shore_become ins_Shore_become sel_Shore_become tw_577 hd_Shore_become rfl ⟨⟨rfl, rfl⟩, (Nat.le_of_ble_eq_true rfl), (Nat.le_of_ble_eq_true rfl)⟩ ⟨(Nat.le_of_ble_eq_true rfl), (Nat.le_of_ble_eq_true rfl)⟩ hl.1 rfl (Nat.le_of_ble_eq_true rfl) d_Tide_shore_28) (fun H locs hS => ?_)
    exact k_Tide_shore_j31 C h hS (lv_sub hl [1, 0] rfl)
set_option maxHeartbeats 4000000 in
set_option maxRecDepth 100000 in
theorem k_Tide_isWidth_j22 {p : Program} {l : Launch} {e : Env} {s : State} {m : MethodId} {args : Array Value} {below : List Frame} {meth : Method} {c : Code} {E : En} {r : Int32} (C : Cx p s m args meth c c_Tide_isWidth 1 "TideLoans" (some .boolean) E) {X : Mem} (h : f_Tide_isWidth_j22 = some r) {H : Heap} {locs : List Loc} (hS : Hs E s.heap X H locs) {ls : Array Slot} (hl : lv_has ls 1 []) : W p l e ({ frames := 0, cells := 0, slots := 0, locals := 0 } : Room) s m args below meth c H locs 0 0 (MQ below (PostI E r X) args s 0 0 (Ad E)) (F0 m 22 ls []) := by
  obtain ⟨hx, hb, hml, hown, hts, hrt, hlk, hKx⟩ := id C
  unfold f_Tide_isWidth_j22 at h
  refine lv_iconst (v := 1) hx hb d_Tide_isWidth_22 (by decide) ?_
  refine lv_goto (tgt := 27) hx hb d_Tide_isWidth_23 (by decide) ?_
  exact r_zret0 C hS rfl (Or.inr rfl) h d_Tide_isWidth_27
set_option maxHeartbeats 4000000 in
set_option maxRecDepth 100000 in
theorem k_Tide_isWidth {l : Launch} {E : En} {p0 : Int32} {X : Mem} {r : Int32} (h : f_Tide_isWidth p0 = some r) : Met l y_Tide_isWidth (Cond.code y_Tide_isWidth c_Tide_isWidth 1 (some .boolean) :: tb) ({ frames := 0, cells := 0, slots := 0, locals := 0 } : Room) (PreC E [.int p0] X) (PostI E r X) 0 0 (Ad E) := by
  refine met_of (by decide) (Nat.le_of_ble_eq_true rfl) (fun p e s m below meth c C hS ls hl => ?_)
  replace C : Cx p s m ([.int p0] : List Value).toArray meth c c_Tide_isWidth 1 "TideLoans" (some .boolean) E := C
  replace hl : lv_has ls 1 [(0, .int p0)] := hl
  obtain ⟨hx, hb, hml, hown, hts, hrt, hlk, hKx⟩ := id C
  unfold f_Tide_isWidth at h
  refine lv_iload_n hx hb d_Tide_isWidth_0 rfl (lv_at hl 0 rfl) ?_
  refine r_if_eq (tgt := 22) C h d_Tide_isWidth_1 (by decide) (fun h => ?_) (fun h => ?_)
  · skip
    exact k_Tide_isWidth_j22 C h hS (lv_sub hl [] rfl)
  · skip
    refine lv_iload_n hx hb d_Tide_isWidth_4 rfl (lv_at hl 0 rfl) ?_
    refine lv_bipush (v := 8) hx hb d_Tide_isWidth_5 (by decide) ?_
    refine r_icmp_eq (tgt := 22) C h d_Tide_isWidth_7 (by decide) (fun h => ?_) (fun h => ?_)
    · skip
      exact k_Tide_isWidth_j22 C h hS (lv_sub hl [] rfl)
    · skip
      refine lv_iload_n hx hb d_Tide_isWidth_10 rfl (lv_at hl 0 rfl) ?_
      refine lv_bipush (v := 16) hx hb d_Tide_isWidth_11 (by decide) ?_
      refine r_icmp_eq (tgt := 22) C h d_Tide_isWidth_13 (by decide) (fun h => ?_) (fun h => ?_)
      · skip
        exact k_Tide_isWidth_j22 C h hS (lv_sub hl [] rfl)
      · skip
        refine lv_iload_n hx hb d_Tide_isWidth_16 rfl (lv_at hl 0 rfl) ?_
        refine lv_bipush (v := 64) hx hb d_Tide_isWidth_17 (by decide) ?_
        refine r_icmp_ne (tgt := 26) C h d_Tide_isWidth_19 (by decide) (fun h => ?_) (fun h => ?_)
        · skip
          refine lv_iconst (v := 0) hx hb d_Tide_isWidth_26 (by decide) ?_
          exact r_zret0 C hS rfl (Or.inl rfl) h d_Tide_isWidth_27
        · skip
          exact k_Tide_isWidth_j22 C h hS (lv_sub hl [] rfl)
set_option maxHeartbeats 4000000 in
set_option maxRecDepth 100000 in
theorem k_Tide_sheet_j15 {p : Program} {l : Launch} {e : Env} {s : State} {m : MethodId} {args : Array Value} {below : List Frame} {meth : Method} {c : Code} {E : En} {r : Int32} {Y : Mem} (C : Cx p s m args meth c c_Tide_sheet 4 "TideLoans" (some .int) E) {X : Mem} (h : f_Tide_sheet_j15 X = some (r, Y)) {H : Heap} {locs : List Loc} (hS : Hs E s.heap X H locs) {ls : Array Slot} (hl : lv_has ls 4 [(0, .ref (ad E 0))]) : W p l e ({ frames := 2, cells := 0, slots := 0, locals := 43 } : Room) s m args below meth c H locs 0 0 (MQ below (PostI E r Y) args s 0 0 (Ad E)) (F0 m 15 ls []) := by
  obtain ⟨hx, hb, hml, hown, hts, hrt, hlk, hKx⟩ := id C
  unfold f_Tide_sheet_j15 at h
  refine lv_aload_n hx hb d_Tide_sheet_15 rfl (lv_at hl 0 rfl) ?_
  refine lv_ldc (v := -1000000001) hx hb hown (hts _ tw_280) d_Tide_sheet_16 ?_
  obtain ⟨v1, X3, hr2, h⟩ := bd2_el h
  refine c_I hS (c_runV (As := [.int (-1000000001 : Int32)]) (rest := []) C hS (by decide) cel_Tide (rfl : cls[5]? = some (R_Tide, T_Tide, 12)) (k_Tide_finding (l := l) (E := E) (X := X) hr2) cw_Tide_finding ini_Tide_finding ins_Tide_finding sel_Tide_finding tw_281 hd_Tide_finding rfl ⟨⟨rfl, rfl⟩, (Nat.le_of_ble_eq_true rfl), (Nat.le_of_ble_eq_true rfl)⟩ ⟨(Nat.le_of_ble_eq_true rfl), (Nat.le_of_ble_eq_true rfl)⟩ hl.1 rfl (Nat.le_of_ble_eq_true rfl) d_Tide_sheet_18) (fun H locs hS => ?_)
  exact r_iret C hS rfl h d_Tide_sheet_21
set_option maxHeartbeats 4000000 in
set_option maxRecDepth 100000 in
theorem k_Tide_sheet {l : Launch} {E : En} {p1 : Int32} {p2 : Int32} {p3 : Int32} {X : Mem} {r : Int32} {Y : Mem} (h : f_Tide_sheet p1 p2 p3 X = some (r, Y)) : Met l y_Tide_sheet (Cond.code y_Tide_sheet c_Tide_sheet 4 (some .int) :: tb) ({ frames := 2, cells := 0, slots := 0, locals := 43 } : Room) (PreC E [.ref (ad E 0), .int p1, .int p2, .int p3] X) (PostI E r Y) 0 0 (Ad E) := by
  refine met_of (by decide) (Nat.le_of_ble_eq_true rfl) (fun p e s m below meth c C hS ls hl => ?_)
  replace C : Cx p s m ([.ref (ad E 0), .int p1, .int p2, .int p3] : List Value).toArray meth c c_Tide_sheet 4 "TideLoans" (some .int) E := C
  replace hl : lv_has ls 4 [(0, .ref (ad E 0)), (1, .int p1), (2, .int p2), (3, .int p3)] := hl
  obtain ⟨hx, hb, hml, hown, hts, hrt, hlk, hKx⟩ := id C
  unfold f_Tide_sheet at h
  refine lv_iload_n hx hb d_Tide_sheet_0 rfl (lv_at hl 1 rfl) ?_
  refine lv_iconst (v := 4) hx hb d_Tide_sheet_1 (by decide) ?_
  obtain ⟨v1, hr2, h⟩ := bd_el h
  refine c_I hS (c_runS (As := [.int p1, .int (4 : Int32)]) (rest := []) C hS (k_Tide_isBelow (l := l) (E := E) (X := X) hr2) cw_Tide_isBelow ini_Tide_isBelow sta_Tide_isBelow tw_277 hd_Tide_isBelow rfl ⟨⟨rfl, rfl⟩, (Nat.le_of_ble_eq_true rfl), (Nat.le_of_ble_eq_true rfl)⟩ ⟨(Nat.le_of_ble_eq_true rfl), (Nat.le_of_ble_eq_true rfl)⟩ hl.1 rfl (Nat.le_of_ble_eq_true rfl) d_Tide_sheet_2) (fun H locs hS => ?_)
  refine r_if_eq (tgt := 15) C h d_Tide_sheet_5 (by decide) (fun h => ?_) (fun h => ?_)
  · skip
    exact k_Tide_sheet_j15 C h hS (lv_sub hl [0] rfl)
  · skip
    refine lv_iload_n hx hb d_Tide_sheet_8 rfl (lv_at hl 2 rfl) ?_
    obtain ⟨v3, hr4, h⟩ := bd_el h
    refine c_I hS (c_runS (As := [.int p2]) (rest := []) C hS (k_Tide_isWidth (l := l) (E := E) (X := X) hr4) cw_Tide_isWidth ini_Tide_isWidth sta_Tide_isWidth tw_705 hd_Tide_isWidth rfl ⟨⟨rfl, rfl⟩, (Nat.le_of_ble_eq_true rfl), (Nat.le_of_ble_eq_true rfl)⟩ ⟨(Nat.le_of_ble_eq_true rfl), (Nat.le_of_ble_eq_true rfl)⟩ hl.1 rfl (Nat.le_of_ble_eq_true rfl) d_Tide_sheet_9) (fun H locs hS => ?_)
    refine r_if_ne (tgt := 22) C h d_Tide_sheet_12 (by decide) (fun h => ?_) (fun h => ?_)
    · skip
      refine lv_iload_n hx hb d_Tide_sheet_22 rfl (lv_at hl 3 rfl) ?_
      refine r_if_ge (tgt := 33) C h d_Tide_sheet_23 (by decide) (fun h => ?_) (fun h => ?_)
      · skip
        refine lv_iload_n hx hb d_Tide_sheet_33 rfl (lv_at hl 3 rfl) ?_
        refine lv_bipush (v := 40) hx hb d_Tide_sheet_34 (by decide) ?_
        refine r_icmp_le (tgt := 46) C h d_Tide_sheet_36 (by decide) (fun h => ?_) (fun h => ?_)
        · skip
          refine lv_aload_n hx hb d_Tide_sheet_46 rfl (lv_at hl 0 rfl) ?_
          refine r_get C hS (by decide) cel_Tide (rfl : cls[5]? = some (R_Tide, T_Tide, 12)) in_Tide 5 (by decide) tw_241 rfl d_Tide_sheet_47 ?_
          refine lv_iload_n hx hb d_Tide_sheet_50 rfl (lv_at hl 1 rfl) ?_
          refine r_ldS C hS h d_Tide_sheet_51 (fun j5 hj5 h => ?_)
          refine lv_iload_n hx hb d_Tide_sheet_52 rfl (lv_at hl 2 rfl) ?_
          refine lv_iload_n hx hb d_Tide_sheet_53 rfl (lv_at hl 3 rfl) ?_
          obtain ⟨X7, hr6, h⟩ := bd_el h
          refine c_V hS (c_runV (As := [.int p2, .int p3]) (rest := []) C hS (kd_lt (kd_sheet hj5) (by decide)) (cel_Sheet (kd_sheet hj5)) (rfl : cls[0]? = some (R_Sheet, T_Sheet, 3)) (k_Sheet_renew (l := l) (E := E) (X := X) (kd_sheet hj5) hr6) cw_Sheet_renew ini_Sheet_renew ins_Sheet_renew sel_Sheet_renew tw_709 hd_Sheet_renew rfl ⟨⟨rfl, rfl⟩, (Nat.le_of_ble_eq_true rfl), (Nat.le_of_ble_eq_true rfl)⟩ ⟨(Nat.le_of_ble_eq_true rfl), (Nat.le_of_ble_eq_true rfl)⟩ hl.1 rfl (Nat.le_of_ble_eq_true rfl) d_Tide_sheet_54) (fun H locs hS => ?_)
          refine lv_aload_n hx hb d_Tide_sheet_57 rfl (lv_at hl 0 rfl) ?_
          refine r_get C hS (by decide) cel_Tide (rfl : cls[5]? = some (R_Tide, T_Tide, 12)) in_Tide 5 (by decide) tw_241 rfl d_Tide_sheet_58 ?_
          refine lv_iload_n hx hb d_Tide_sheet_61 rfl (lv_at hl 1 rfl) ?_
          refine r_ldS C hS h d_Tide_sheet_62 (fun j8 hj8 h => ?_)
          refine r_getI C hS (kd_lt (kd_sheet hj8) (by decide)) (cel_Sheet (kd_sheet hj8)) (rfl : cls[0]? = some (R_Sheet, T_Sheet, 3)) in_Sheet 2 (by decide) tw_227 rfl h d_Tide_sheet_63 (fun v9 h => ?_)
          exact r_iret C hS rfl h d_Tide_sheet_66
        · skip
          refine lv_aload_n hx hb d_Tide_sheet_39 rfl (lv_at hl 0 rfl) ?_
          refine lv_ldc (v := -1000000001) hx hb hown (hts _ tw_280) d_Tide_sheet_40 ?_
          obtain ⟨v10, X12, hr11, h⟩ := bd2_el h
          refine c_I hS (c_runV (As := [.int (-1000000001 : Int32)]) (rest := []) C hS (by decide) cel_Tide (rfl : cls[5]? = some (R_Tide, T_Tide, 12)) (k_Tide_finding (l := l) (E := E) (X := X) hr11) cw_Tide_finding ini_Tide_finding ins_Tide_finding sel_Tide_finding tw_281 hd_Tide_finding rfl ⟨⟨rfl, rfl⟩, (Nat.le_of_ble_eq_true rfl), (Nat.le_of_ble_eq_true rfl)⟩ ⟨(Nat.le_of_ble_eq_true rfl), (Nat.le_of_ble_eq_true rfl)⟩ hl.1 rfl (Nat.le_of_ble_eq_true rfl) d_Tide_sheet_42) (fun H locs hS => ?_)
          exact r_iret C hS rfl h d_Tide_sheet_45
      · skip
        refine lv_aload_n hx hb d_Tide_sheet_26 rfl (lv_at hl 0 rfl) ?_
        refine lv_ldc (v := -1000000007) hx hb hown (hts _ tw_708) d_Tide_sheet_27 ?_
        obtain ⟨v13, X15, hr14, h⟩ := bd2_el h
        refine c_I hS (c_runV (As := [.int (-1000000007 : Int32)]) (rest := []) C hS (by decide) cel_Tide (rfl : cls[5]? = some (R_Tide, T_Tide, 12)) (k_Tide_finding (l := l) (E := E) (X := X) hr14) cw_Tide_finding ini_Tide_finding ins_Tide_finding sel_Tide_finding tw_281 hd_Tide_finding rfl ⟨⟨rfl, rfl⟩, (Nat.le_of_ble_eq_true rfl), (Nat.le_of_ble_eq_true rfl)⟩ ⟨(Nat.le_of_ble_eq_true rfl), (Nat.le_of_ble_eq_true rfl)⟩ hl.1 rfl (Nat.le_of_ble_eq_true rfl) d_Tide_sheet_29) (fun H locs hS => ?_)
        exact r_iret C hS rfl h d_Tide_sheet_32
    · skip
      exact k_Tide_sheet_j15 C h hS (lv_sub hl [0] rfl)
set_option maxHeartbeats 4000000 in
set_option maxRecDepth 100000 in
theorem k_Tide_write {l : Launch} {E : En} {p1 : Int32} {p2 : Int32} {p3 : Int64} {X : Mem} {r : Int64} {Y : Mem} (h : f_Tide_write p1 p2 p3 X = some (r, Y)) : Met l y_Tide_write (Cond.code y_Tide_write c_Tide_write 8 (some .long) :: tb) ({ frames := 2, cells := 0, slots := 0, locals := 43 } : Room) (PreC E [.ref (ad E 0), .int p1, .int p2, .long p3] X) (PostL E r Y) 0 0 (Ad E) := by
  refine met_of (by decide) (Nat.le_of_ble_eq_true rfl) (fun p e s m below meth c C hS ls hl => ?_)
  replace C : Cx p s m ([.ref (ad E 0), .int p1, .int p2, .long p3] : List Value).toArray meth c c_Tide_write 8 "TideLoans" (some .long) E := C
  replace hl : lv_has ls 8 [(0, .ref (ad E 0)), (1, .int p1), (2, .int p2), (3, .long p3)] := hl
  obtain ⟨hx, hb, hml, hown, hts, hrt, hlk, hKx⟩ := id C
  unfold f_Tide_write at h
  refine lv_iload_n hx hb d_Tide_write_0 rfl (lv_at hl 1 rfl) ?_
  refine lv_iconst (v := 4) hx hb d_Tide_write_1 (by decide) ?_
  obtain ⟨v1, hr2, h⟩ := bd_el h
  refine c_I hS (c_runS (As := [.int p1, .int (4 : Int32)]) (rest := []) C hS (k_Tide_isBelow (l := l) (E := E) (X := X) hr2) cw_Tide_isBelow ini_Tide_isBelow sta_Tide_isBelow tw_277 hd_Tide_isBelow rfl ⟨⟨rfl, rfl⟩, (Nat.le_of_ble_eq_true rfl), (Nat.le_of_ble_eq_true rfl)⟩ ⟨(Nat.le_of_ble_eq_true rfl), (Nat.le_of_ble_eq_true rfl)⟩ hl.1 rfl (Nat.le_of_ble_eq_true rfl) d_Tide_write_2) (fun H locs hS => ?_)
  refine r_if_ne (tgt := 16) C h d_Tide_write_5 (by decide) (fun h => ?_) (fun h => ?_)
  · skip
    refine lv_aload_n hx hb d_Tide_write_16 rfl (lv_at hl 0 rfl) ?_
    refine r_get C hS (by decide) cel_Tide (rfl : cls[5]? = some (R_Tide, T_Tide, 12)) in_Tide 5 (by decide) tw_241 rfl d_Tide_write_17 ?_
    refine lv_iload_n hx hb d_Tide_write_20 rfl (lv_at hl 1 rfl) ?_
    refine r_ldS C hS h d_Tide_write_21 (fun j3 hj3 h => ?_)
    refine lv_astore (lv' := [(5, .ref (ad E (52 + 2 * j3))), (0, .ref (ad E 0)), (1, .int p1), (2, .int p2), (3, .long p3)]) hx hb d_Tide_write_22 hl (by decide) rfl (fun ls hl => ?_)
    refine lv_aload hx hb d_Tide_write_24 (lv_at hl 0 rfl) ?_
    obtain ⟨v4, hr5, h⟩ := bd_el h
    refine c_I hS (c_runV (As := []) (rest := []) C hS (kd_lt (kd_sheet hj3) (by decide)) (cel_Sheet (kd_sheet hj3)) (rfl : cls[0]? = some (R_Sheet, T_Sheet, 3)) (k_Sheet_isMissing (l := l) (E := E) (X := X) (kd_sheet hj3) hr5) cw_Sheet_isMissing ini_Sheet_isMissing ins_Sheet_isMissing sel_Sheet_isMissing tw_717 hd_Sheet_isMissing rfl ⟨⟨rfl, rfl⟩, (Nat.le_of_ble_eq_true rfl), (Nat.le_of_ble_eq_true rfl)⟩ ⟨(Nat.le_of_ble_eq_true rfl), (Nat.le_of_ble_eq_true rfl)⟩ hl.1 rfl (Nat.le_of_ble_eq_true rfl) d_Tide_write_26) (fun H locs hS => ?_)
    refine r_if_eq (tgt := 41) C h d_Tide_write_29 (by decide) (fun h => ?_) (fun h => ?_)
    · skip
      refine lv_iload_n hx hb d_Tide_write_41 rfl (lv_at hl 3 rfl) ?_
      refine lv_aload hx hb d_Tide_write_42 (lv_at hl 0 rfl) ?_
      refine r_getI C hS (kd_lt (kd_sheet hj3) (by decide)) (cel_Sheet (kd_sheet hj3)) (rfl : cls[0]? = some (R_Sheet, T_Sheet, 3)) in_Sheet 2 (by decide) tw_227 rfl h d_Tide_write_44 (fun v6 h => ?_)
      obtain ⟨v7, hr8, h⟩ := bd_el h
      refine c_I hS (c_runS (As := [.int p2, .int v6]) (rest := []) C hS (k_Tide_isBelow (l := l) (E := E) (X := X) hr8) cw_Tide_isBelow ini_Tide_isBelow sta_Tide_isBelow tw_277 hd_Tide_isBelow rfl ⟨⟨rfl, rfl⟩, (Nat.le_of_ble_eq_true rfl), (Nat.le_of_ble_eq_true rfl)⟩ ⟨(Nat.le_of_ble_eq_true rfl), (Nat.le_of_ble_eq_true rfl)⟩ hl.1 rfl (Nat.le_of_ble_eq_true rfl) d_Tide_write_47) (fun H locs hS => ?_)
      refine r_if_ne (tgt := 61) C h d_Tide_write_50 (by decide) (fun h => ?_) (fun h => ?_)
      · skip
        refine lv_aload hx hb d_Tide_write_61 (lv_at hl 0 rfl) ?_
        refine r_get C hS (kd_lt (kd_sheet hj3) (by decide)) (cel_Sheet (kd_sheet hj3)) (rfl : cls[0]? = some (R_Sheet, T_Sheet, 3)) in_Sheet 0 (by decide) tw_223 rfl d_Tide_write_63 ?_
        refine lv_iload_n hx hb d_Tide_write_66 rfl (lv_at hl 3 rfl) ?_
        refine r_ldL C hS (n := 40) (kd_numbers (kd_sheet hj3)) (by decide) h d_Tide_write_67 (fun v9 h => ?_)
        refine lv_lstore (lv' := [(6, .long v9), (5, .ref (ad E (52 + 2 * j3))), (0, .ref (ad E 0)), (1, .int p1), (2, .int p2), (3, .long p3)]) hx hb d_Tide_write_68 hl (by decide) rfl (fun ls hl => ?_)
        refine lv_aload hx hb d_Tide_write_70 (lv_at hl 1 rfl) ?_
        refine lv_iload_n hx hb d_Tide_write_72 rfl (lv_at hl 4 rfl) ?_
        refine lv_lload_n hx hb d_Tide_write_73 rfl (lv_at hl 5 rfl) ?_
        obtain ⟨X11, hr10, h⟩ := bd_el h
        refine c_V hS (c_runV (As := [.int p2, .long p3]) (rest := []) C hS (kd_lt (kd_sheet hj3) (by decide)) (cel_Sheet (kd_sheet hj3)) (rfl : cls[0]? = some (R_Sheet, T_Sheet, 3)) (k_Sheet_put (l := l) (E := E) (X := X) (kd_sheet hj3) hr10) cw_Sheet_put ini_Sheet_put ins_Sheet_put sel_Sheet_put tw_722 hd_Sheet_put rfl ⟨⟨rfl, rfl⟩, (Nat.le_of_ble_eq_true rfl), (Nat.le_of_ble_eq_true rfl)⟩ ⟨(Nat.le_of_ble_eq_true rfl), (Nat.le_of_ble_eq_true rfl)⟩ hl.1 rfl (Nat.le_of_ble_eq_true rfl) d_Tide_write_74) (fun H locs hS => ?_)
        refine lv_lload hx hb d_Tide_write_77 (lv_at hl 0 rfl) ?_
        exact r_lret C hS rfl h d_Tide_write_79
      · skip
        refine lv_aload_n hx hb d_Tide_write_53 rfl (lv_at hl 1 rfl) ?_
        refine lv_ldc (v := -1000000001) hx hb hown (hts _ tw_280) d_Tide_write_54 ?_
        obtain ⟨v12, X14, hr13, h⟩ := bd2_el h
        refine c_I hS (c_runV (As := [.int (-1000000001 : Int32)]) (rest := []) C hS (by decide) cel_Tide (rfl : cls[5]? = some (R_Tide, T_Tide, 12)) (k_Tide_finding (l := l) (E := E) (X := X) hr13) cw_Tide_finding ini_Tide_finding ins_Tide_finding sel_Tide_finding tw_281 hd_Tide_finding rfl ⟨⟨rfl, rfl⟩, (Nat.le_of_ble_eq_true rfl), (Nat.le_of_ble_eq_true rfl)⟩ ⟨(Nat.le_of_ble_eq_true rfl), (Nat.le_of_ble_eq_true rfl)⟩ hl.1 rfl (Nat.le_of_ble_eq_true rfl) d_Tide_write_56) (fun H locs hS => ?_)
        refine lv_i2l hx hb d_Tide_write_59 rfl ?_
        exact r_lret C hS rfl h d_Tide_write_60
    · skip
      refine lv_aload_n hx hb d_Tide_write_32 rfl (lv_at hl 1 rfl) ?_
      refine lv_ldcw (v := -1000000006) hx hb hown (hts _ tw_721) d_Tide_write_33 ?_
      obtain ⟨v15, X17, hr16, h⟩ := bd2_el h
      refine c_I hS (c_runV (As := [.int (-1000000006 : Int32)]) (rest := []) C hS (by decide) cel_Tide (rfl : cls[5]? = some (R_Tide, T_Tide, 12)) (k_Tide_finding (l := l) (E := E) (X := X) hr16) cw_Tide_finding ini_Tide_finding ins_Tide_finding sel_Tide_finding tw_281 hd_Tide_finding rfl ⟨⟨rfl, rfl⟩, (Nat.le_of_ble_eq_true rfl), (Nat.le_of_ble_eq_true rfl)⟩ ⟨(Nat.le_of_ble_eq_true rfl), (Nat.le_of_ble_eq_true rfl)⟩ hl.1 rfl (Nat.le_of_ble_eq_true rfl) d_Tide_write_36) (fun H locs hS => ?_)
      refine lv_i2l hx hb d_Tide_write_39 rfl ?_
      exact r_lret C hS rfl h d_Tide_write_40
  · skip
    refine lv_aload_n hx hb d_Tide_write_8 rfl (lv_at hl 0 rfl) ?_
    refine lv_ldc (v := -1000000001) hx hb hown (hts _ tw_280) d_Tide_write_9 ?_
    obtain ⟨v18, X20, hr19, h⟩ := bd2_el h
    refine c_I hS (c_runV (As := [.int (-1000000001 : Int32)]) (rest := []) C hS (by decide) cel_Tide (rfl : cls[5]? = some (R_Tide, T_Tide, 12)) (k_Tide_finding (l := l) (E := E) (X := X) hr19) cw_Tide_finding ini_Tide_finding ins_Tide_finding sel_Tide_finding tw_281 hd_Tide_finding rfl ⟨⟨rfl, rfl⟩, (Nat.le_of_ble_eq_true rfl), (Nat.le_of_ble_eq_true rfl)⟩ ⟨(Nat.le_of_ble_eq_true rfl), (Nat.le_of_ble_eq_true rfl)⟩ hl.1 rfl (Nat.le_of_ble_eq_true rfl) d_Tide_write_11) (fun H locs hS => ?_)
    refine lv_i2l hx hb d_Tide_write_14 rfl ?_
    exact r_lret C hS rfl h d_Tide_write_15
set_option maxHeartbeats 4000000 in
set_option maxRecDepth 100000 in
theorem k_Tide_copy_j106 {p : Program} {l : Launch} {e : Env} {s : State} {m : MethodId} {args : Array Value} {below : List Frame} {meth : Method} {c : Code} {E : En} {r : Int32} {Y : Mem} (C : Cx p s m args meth c c_Tide_copy 8 "TideLoans" (some .int) E) {X : Mem} (h : f_Tide_copy_j106 X = some (r, Y)) {H : Heap} {locs : List Loc} (hS : Hs E s.heap X H locs) {ls : Array Slot} (hl : lv_has ls 8 [(0, .ref (ad E 0))]) : W p l e ({ frames := 2, cells := 0, slots := 0, locals := 60 } : Room) s m args below meth c H locs 0 0 (MQ below (PostI E r Y) args s 0 0 (Ad E)) (F0 m 106 ls []) := by
  obtain ⟨hx, hb, hml, hown, hts, hrt, hlk, hKx⟩ := id C
  unfold f_Tide_copy_j106 at h
  refine lv_aload_n hx hb d_Tide_copy_106 rfl (lv_at hl 0 rfl) ?_
  refine lv_ldc (v := -1000000001) hx hb hown (hts _ tw_280) d_Tide_copy_107 ?_
  obtain ⟨v1, X3, hr2, h⟩ := bd2_el h
  refine c_I hS (c_runV (As := [.int (-1000000001 : Int32)]) (rest := []) C hS (by decide) cel_Tide (rfl : cls[5]? = some (R_Tide, T_Tide, 12)) (k_Tide_finding (l := l) (E := E) (X := X) hr2) cw_Tide_finding ini_Tide_finding ins_Tide_finding sel_Tide_finding tw_281 hd_Tide_finding rfl ⟨⟨rfl, rfl⟩, (Nat.le_of_ble_eq_true rfl), (Nat.le_of_ble_eq_true rfl)⟩ ⟨(Nat.le_of_ble_eq_true rfl), (Nat.le_of_ble_eq_true rfl)⟩ hl.1 rfl (Nat.le_of_ble_eq_true rfl) d_Tide_copy_109) (fun H locs hS => ?_)
  exact r_iret C hS rfl h d_Tide_copy_112
set_option maxHeartbeats 4000000 in
set_option maxRecDepth 100000 in
theorem k_Tide_copy_j55 {p : Program} {l : Launch} {e : Env} {s : State} {m : MethodId} {args : Array Value} {below : List Frame} {meth : Method} {c : Code} {E : En} {r : Int32} {Y : Mem} (C : Cx p s m args meth c c_Tide_copy 8 "TideLoans" (some .int) E) {X : Mem} (h : f_Tide_copy_j55 X = some (r, Y)) {H : Heap} {locs : List Loc} (hS : Hs E s.heap X H locs) {ls : Array Slot} (hl : lv_has ls 8 [(0, .ref (ad E 0))]) : W p l e ({ frames := 2, cells := 0, slots := 0, locals := 60 } : Room) s m args below meth c H locs 0 0 (MQ below (PostI E r Y) args s 0 0 (Ad E)) (F0 m 55 ls []) := by
  obtain ⟨hx, hb, hml, hown, hts, hrt, hlk, hKx⟩ := id C
  unfold f_Tide_copy_j55 at h
  refine lv_aload_n hx hb d_Tide_copy_55 rfl (lv_at hl 0 rfl) ?_
  refine lv_ldcw (v := -1000000006) hx hb hown (hts _ tw_721) d_Tide_copy_56 ?_
  obtain ⟨v1, X3, hr2, h⟩ := bd2_el h
  refine c_I hS (c_runV (As := [.int (-1000000006 : Int32)]) (rest := []) C hS (by decide) cel_Tide (rfl : cls[5]? = some (R_Tide, T_Tide, 12)) (k_Tide_finding (l := l) (E := E) (X := X) hr2) cw_Tide_finding ini_Tide_finding ins_Tide_finding sel_Tide_finding tw_281 hd_Tide_finding rfl ⟨⟨rfl, rfl⟩, (Nat.le_of_ble_eq_true rfl), (Nat.le_of_ble_eq_true rfl)⟩ ⟨(Nat.le_of_ble_eq_true rfl), (Nat.le_of_ble_eq_true rfl)⟩ hl.1 rfl (Nat.le_of_ble_eq_true rfl) d_Tide_copy_59) (fun H locs hS => ?_)
  exact r_iret C hS rfl h d_Tide_copy_62
set_option maxHeartbeats 4000000 in
set_option maxRecDepth 100000 in
theorem k_Tide_copy_j16 {p : Program} {l : Launch} {e : Env} {s : State} {m : MethodId} {args : Array Value} {below : List Frame} {meth : Method} {c : Code} {E : En} {r : Int32} {Y : Mem} (C : Cx p s m args meth c c_Tide_copy 8 "TideLoans" (some .int) E) {X : Mem} (h : f_Tide_copy_j16 X = some (r, Y)) {H : Heap} {locs : List Loc} (hS : Hs E s.heap X H locs) {ls : Array Slot} (hl : lv_has ls 8 [(0, .ref (ad E 0))]) : W p l e ({ frames := 2, cells := 0, slots := 0, locals := 60 } : Room) s m args below meth c H locs 0 0 (MQ below (PostI E r Y) args s 0 0 (Ad E)) (F0 m 16 ls []) := by
  obtain ⟨hx, hb, hml, hown, hts, hrt, hlk, hKx⟩ := id C
  unfold f_Tide_copy_j16 at h
  refine lv_aload_n hx hb d_Tide_copy_16 rfl (lv_at hl 0 rfl) ?_
  refine lv_ldc (v := -1000000001) hx hb hown (hts _ tw_280) d_Tide_copy_17 ?_
  obtain ⟨v1, X3, hr2, h⟩ := bd2_el h
  refine c_I hS (c_runV (As := [.int (-1000000001 : Int32)]) (rest := []) C hS (by decide) cel_Tide (rfl : cls[5]? = some (R_Tide, T_Tide, 12)) (k_Tide_finding (l := l) (E := E) (X := X) hr2) cw_Tide_finding ini_Tide_finding ins_Tide_finding sel_Tide_finding tw_281 hd_Tide_finding rfl ⟨⟨rfl, rfl⟩, (Nat.le_of_ble_eq_true rfl), (Nat.le_of_ble_eq_true rfl)⟩ ⟨(Nat.le_of_ble_eq_true rfl), (Nat.le_of_ble_eq_true rfl)⟩ hl.1 rfl (Nat.le_of_ble_eq_true rfl) d_Tide_copy_19) (fun H locs hS => ?_)
  exact r_iret C hS rfl h d_Tide_copy_22
set_option maxHeartbeats 4000000 in
set_option maxRecDepth 100000 in
theorem k_Tide_copy {l : Launch} {E : En} {p1 : Int32} {p2 : Int32} {p3 : Int32} {p4 : Int32} {p5 : Int32} {X : Mem} {r : Int32} {Y : Mem} (h : f_Tide_copy p1 p2 p3 p4 p5 X = some (r, Y)) : Met l y_Tide_copy (Cond.code y_Tide_copy c_Tide_copy 8 (some .int) :: tb) ({ frames := 2, cells := 0, slots := 0, locals := 60 } : Room) (PreC E [.ref (ad E 0), .int p1, .int p2, .int p3, .int p4, .int p5] X) (PostI E r Y) 0 0 (Ad E) := by
  refine met_of (by decide) (Nat.le_of_ble_eq_true rfl) (fun p e s m below meth c C hS ls hl => ?_)
  replace C : Cx p s m ([.ref (ad E 0), .int p1, .int p2, .int p3, .int p4, .int p5] : List Value).toArray meth c c_Tide_copy 8 "TideLoans" (some .int) E := C
  replace hl : lv_has ls 8 [(0, .ref (ad E 0)), (1, .int p1), (2, .int p2), (3, .int p3), (4, .int p4), (5, .int p5)] := hl
  obtain ⟨hx, hb, hml, hown, hts, hrt, hlk, hKx⟩ := id C
  unfold f_Tide_copy at h
  refine lv_iload_n hx hb d_Tide_copy_0 rfl (lv_at hl 1 rfl) ?_
  refine lv_iconst (v := 4) hx hb d_Tide_copy_1 (by decide) ?_
  obtain ⟨v1, hr2, h⟩ := bd_el h
  refine c_I hS (c_runS (As := [.int p1, .int (4 : Int32)]) (rest := []) C hS (k_Tide_isBelow (l := l) (E := E) (X := X) hr2) cw_Tide_isBelow ini_Tide_isBelow sta_Tide_isBelow tw_277 hd_Tide_isBelow rfl ⟨⟨rfl, rfl⟩, (Nat.le_of_ble_eq_true rfl), (Nat.le_of_ble_eq_true rfl)⟩ ⟨(Nat.le_of_ble_eq_true rfl), (Nat.le_of_ble_eq_true rfl)⟩ hl.1 rfl (Nat.le_of_ble_eq_true rfl) d_Tide_copy_2) (fun H locs hS => ?_)
  refine r_if_eq (tgt := 16) C h d_Tide_copy_5 (by decide) (fun h => ?_) (fun h => ?_)
  · skip
    exact k_Tide_copy_j16 C h hS (lv_sub hl [0] rfl)
  · skip
    refine lv_iload_n hx hb d_Tide_copy_8 rfl (lv_at hl 3 rfl) ?_
    refine lv_iconst (v := 4) hx hb d_Tide_copy_9 (by decide) ?_
    obtain ⟨v3, hr4, h⟩ := bd_el h
    refine c_I hS (c_runS (As := [.int p3, .int (4 : Int32)]) (rest := []) C hS (k_Tide_isBelow (l := l) (E := E) (X := X) hr4) cw_Tide_isBelow ini_Tide_isBelow sta_Tide_isBelow tw_277 hd_Tide_isBelow rfl ⟨⟨rfl, rfl⟩, (Nat.le_of_ble_eq_true rfl), (Nat.le_of_ble_eq_true rfl)⟩ ⟨(Nat.le_of_ble_eq_true rfl), (Nat.le_of_ble_eq_true rfl)⟩ hl.1 rfl (Nat.le_of_ble_eq_true rfl) d_Tide_copy_10) (fun H locs hS => ?_)
    refine r_if_ne (tgt := 23) C h d_Tide_copy_13 (by decide) (fun h => ?_) (fun h => ?_)
    · skip
      refine lv_aload_n hx hb d_Tide_copy_23 rfl (lv_at hl 0 rfl) ?_
      refine r_get C hS (by decide) cel_Tide (rfl : cls[5]? = some (R_Tide, T_Tide, 12)) in_Tide 5 (by decide) tw_241 rfl d_Tide_copy_24 ?_
      refine lv_iload_n hx hb d_Tide_copy_27 rfl (lv_at hl 1 rfl) ?_
      refine r_ldS C hS h d_Tide_copy_28 (fun j5 hj5 h => ?_)
      refine lv_astore (lv' := [(6, .ref (ad E (52 + 2 * j5))), (0, .ref (ad E 0)), (1, .int p1), (2, .int p2), (3, .int p3), (4, .int p4), (5, .int p5)]) hx hb d_Tide_copy_29 hl (by decide) rfl (fun ls hl => ?_)
      refine lv_aload_n hx hb d_Tide_copy_31 rfl (lv_at hl 1 rfl) ?_
      refine r_get C hS (by decide) cel_Tide (rfl : cls[5]? = some (R_Tide, T_Tide, 12)) in_Tide 5 (by decide) tw_241 rfl d_Tide_copy_32 ?_
      refine lv_iload_n hx hb d_Tide_copy_35 rfl (lv_at hl 4 rfl) ?_
      refine r_ldS C hS h d_Tide_copy_36 (fun j6 hj6 h => ?_)
      refine lv_astore (lv' := [(7, .ref (ad E (52 + 2 * j6))), (6, .ref (ad E (52 + 2 * j5))), (0, .ref (ad E 0)), (1, .int p1), (2, .int p2), (3, .int p3), (4, .int p4), (5, .int p5)]) hx hb d_Tide_copy_37 hl (by decide) rfl (fun ls hl => ?_)
      refine lv_aload hx hb d_Tide_copy_39 (lv_at hl 1 rfl) ?_
      obtain ⟨v7, hr8, h⟩ := bd_el h
      refine c_I hS (c_runV (As := []) (rest := []) C hS (kd_lt (kd_sheet hj5) (by decide)) (cel_Sheet (kd_sheet hj5)) (rfl : cls[0]? = some (R_Sheet, T_Sheet, 3)) (k_Sheet_isMissing (l := l) (E := E) (X := X) (kd_sheet hj5) hr8) cw_Sheet_isMissing ini_Sheet_isMissing ins_Sheet_isMissing sel_Sheet_isMissing tw_717 hd_Sheet_isMissing rfl ⟨⟨rfl, rfl⟩, (Nat.le_of_ble_eq_true rfl), (Nat.le_of_ble_eq_true rfl)⟩ ⟨(Nat.le_of_ble_eq_true rfl), (Nat.le_of_ble_eq_true rfl)⟩ hl.1 rfl (Nat.le_of_ble_eq_true rfl) d_Tide_copy_41) (fun H locs hS => ?_)
      refine r_if_ne (tgt := 55) C h d_Tide_copy_44 (by decide) (fun h => ?_) (fun h => ?_)
      · skip
        exact k_Tide_copy_j55 C h hS (lv_sub hl [2] rfl)
      · skip
        refine lv_aload hx hb d_Tide_copy_47 (lv_at hl 0 rfl) ?_
        obtain ⟨v9, hr10, h⟩ := bd_el h
        refine c_I hS (c_runV (As := []) (rest := []) C hS (kd_lt (kd_sheet hj6) (by decide)) (cel_Sheet (kd_sheet hj6)) (rfl : cls[0]? = some (R_Sheet, T_Sheet, 3)) (k_Sheet_isMissing (l := l) (E := E) (X := X) (kd_sheet hj6) hr10) cw_Sheet_isMissing ini_Sheet_isMissing ins_Sheet_isMissing sel_Sheet_isMissing tw_717 hd_Sheet_isMissing rfl ⟨⟨rfl, rfl⟩, (Nat.le_of_ble_eq_true rfl), (Nat.le_of_ble_eq_true rfl)⟩ ⟨(Nat.le_of_ble_eq_true rfl), (Nat.le_of_ble_eq_true rfl)⟩ hl.1 rfl (Nat.le_of_ble_eq_true rfl) d_Tide_copy_49) (fun H locs hS => ?_)
        refine r_if_eq (tgt := 63) C h d_Tide_copy_52 (by decide) (fun h => ?_) (fun h => ?_)
        · skip
          refine lv_aload hx hb d_Tide_copy_63 (lv_at hl 1 rfl) ?_
          refine r_getI C hS (kd_lt (kd_sheet hj5) (by decide)) (cel_Sheet (kd_sheet hj5)) (rfl : cls[0]? = some (R_Sheet, T_Sheet, 3)) in_Sheet 1 (by decide) tw_225 rfl h d_Tide_copy_65 (fun v11 h => ?_)
          refine lv_aload hx hb d_Tide_copy_68 (lv_at hl 0 rfl) ?_
          refine r_getI C hS (kd_lt (kd_sheet hj6) (by decide)) (cel_Sheet (kd_sheet hj6)) (rfl : cls[0]? = some (R_Sheet, T_Sheet, 3)) in_Sheet 1 (by decide) tw_225 rfl h d_Tide_copy_70 (fun v12 h => ?_)
          refine r_icmp_eq (tgt := 83) C h d_Tide_copy_73 (by decide) (fun h => ?_) (fun h => ?_)
          · skip
            refine lv_aload hx hb d_Tide_copy_83 (lv_at hl 1 rfl) ?_
            refine lv_iload_n hx hb d_Tide_copy_85 rfl (lv_at hl 4 rfl) ?_
            refine lv_iload hx hb d_Tide_copy_86 (lv_at hl 7 rfl) ?_
            obtain ⟨v13, hr14, h⟩ := bd_el h
            refine c_I hS (c_runV (As := [.int p2, .int p5]) (rest := []) C hS (kd_lt (kd_sheet hj5) (by decide)) (cel_Sheet (kd_sheet hj5)) (rfl : cls[0]? = some (R_Sheet, T_Sheet, 3)) (k_Sheet_hasRun (l := l) (E := E) (X := X) (kd_sheet hj5) hr14) cw_Sheet_hasRun ini_Sheet_hasRun ins_Sheet_hasRun sel_Sheet_hasRun tw_730 hd_Sheet_hasRun rfl ⟨⟨rfl, rfl⟩, (Nat.le_of_ble_eq_true rfl), (Nat.le_of_ble_eq_true rfl)⟩ ⟨(Nat.le_of_ble_eq_true rfl), (Nat.le_of_ble_eq_true rfl)⟩ hl.1 rfl (Nat.le_of_ble_eq_true rfl) d_Tide_copy_88) (fun H locs hS => ?_)
            refine r_if_eq (tgt := 106) C h d_Tide_copy_91 (by decide) (fun h => ?_) (fun h => ?_)
            · skip
              exact k_Tide_copy_j106 C h hS (lv_sub hl [2] rfl)
            · skip
              refine lv_aload hx hb d_Tide_copy_94 (lv_at hl 0 rfl) ?_
              refine lv_iload hx hb d_Tide_copy_96 (lv_at hl 6 rfl) ?_
              refine lv_iload hx hb d_Tide_copy_98 (lv_at hl 7 rfl) ?_
              obtain ⟨v15, hr16, h⟩ := bd_el h
              refine c_I hS (c_runV (As := [.int p4, .int p5]) (rest := []) C hS (kd_lt (kd_sheet hj6) (by decide)) (cel_Sheet (kd_sheet hj6)) (rfl : cls[0]? = some (R_Sheet, T_Sheet, 3)) (k_Sheet_hasRun (l := l) (E := E) (X := X) (kd_sheet hj6) hr16) cw_Sheet_hasRun ini_Sheet_hasRun ins_Sheet_hasRun sel_Sheet_hasRun tw_730 hd_Sheet_hasRun rfl ⟨⟨rfl, rfl⟩, (Nat.le_of_ble_eq_true rfl), (Nat.le_of_ble_eq_true rfl)⟩ ⟨(Nat.le_of_ble_eq_true rfl), (Nat.le_of_ble_eq_true rfl)⟩ hl.1 rfl (Nat.le_of_ble_eq_true rfl) d_Tide_copy_100) (fun H locs hS => ?_)
              refine r_if_ne (tgt := 113) C h d_Tide_copy_103 (by decide) (fun h => ?_) (fun h => ?_)
              · skip
                refine lv_aload hx hb d_Tide_copy_113 (lv_at hl 1 rfl) ?_
                refine r_get C hS (kd_lt (kd_sheet hj5) (by decide)) (cel_Sheet (kd_sheet hj5)) (rfl : cls[0]? = some (R_Sheet, T_Sheet, 3)) in_Sheet 0 (by decide) tw_223 rfl d_Tide_copy_115 ?_
                refine lv_iload_n hx hb d_Tide_copy_118 rfl (lv_at hl 4 rfl) ?_
                refine lv_aload hx hb d_Tide_copy_119 (lv_at hl 0 rfl) ?_
                refine r_get C hS (kd_lt (kd_sheet hj6) (by decide)) (cel_Sheet (kd_sheet hj6)) (rfl : cls[0]? = some (R_Sheet, T_Sheet, 3)) in_Sheet 0 (by decide) tw_223 rfl d_Tide_copy_121 ?_
                refine lv_iload hx hb d_Tide_copy_124 (lv_at hl 6 rfl) ?_
                refine lv_iload hx hb d_Tide_copy_126 (lv_at hl 7 rfl) ?_
                refine r_acL C hS hl.1 (n0 := 40) (n1 := 40) (kd_numbers (kd_sheet hj5)) (by decide) (kd_numbers (kd_sheet hj6)) (by decide) h tw_734 tw_583 tw_582 tw_73 (Nat.le_of_ble_eq_true rfl) (Nat.le_of_ble_eq_true rfl) d_Tide_copy_128 (fun X17 H locs hS h => ?_)
                refine lv_iload hx hb d_Tide_copy_131 (lv_at hl 7 rfl) ?_
                exact r_iret C hS rfl h d_Tide_copy_133
              · skip
                exact k_Tide_copy_j106 C h hS (lv_sub hl [2] rfl)
          · skip
            refine lv_aload_n hx hb d_Tide_copy_76 rfl (lv_at hl 2 rfl) ?_
            refine lv_ldc (v := -1000000003) hx hb hown (hts _ tw_389) d_Tide_copy_77 ?_
            obtain ⟨v18, X20, hr19, h⟩ := bd2_el h
            refine c_I hS (c_runV (As := [.int (-1000000003 : Int32)]) (rest := []) C hS (by decide) cel_Tide (rfl : cls[5]? = some (R_Tide, T_Tide, 12)) (k_Tide_finding (l := l) (E := E) (X := X) hr19) cw_Tide_finding ini_Tide_finding ins_Tide_finding sel_Tide_finding tw_281 hd_Tide_finding rfl ⟨⟨rfl, rfl⟩, (Nat.le_of_ble_eq_true rfl), (Nat.le_of_ble_eq_true rfl)⟩ ⟨(Nat.le_of_ble_eq_true rfl), (Nat.le_of_ble_eq_true rfl)⟩ hl.1 rfl (Nat.le_of_ble_eq_true rfl) d_Tide_copy_79) (fun H locs hS => ?_)
            exact r_iret C hS rfl h d_Tide_copy_82
        · skip
          exact k_Tide_copy_j55 C h hS (lv_sub hl [2] rfl)
    · skip
      exact k_Tide_copy_j16 C h hS (lv_sub hl [0] rfl)
def I_Tide_lays_b42 (p : Program) (l : Launch) (e : Env) (s : State) (m : MethodId) (args : Array Value) (below : List Frame) (meth : Method) (c : Code) (E : En) (r : Int32) (Y : Mem) (x2 : Nat) (n : Nat) (tg : (Int32 × Mem)) : Prop := ∀ (x3 : Int32) (x4 : Int32) (X : Mem) (H : Heap) (locs : List Loc) (ls : Array Slot), it (fun a => f_Tide_lays_b42 x2 a.1 a.2.1 a.2.2) n (x3, x4, X) = some tg → Hs E s.heap X H locs → lv_has ls 7 [(0, .ref (ad E 0)), (2, .ref (ad E x2)), (3, .int x3), (4, .int x4)] → W p l e ({ frames := 2, cells := 0, slots := 0, locals := 43 } : Room) s m args below meth c H locs 0 0 (MQ below (PostI E r Y) args s 0 0 (Ad E)) (F0 m 42 ls [])
set_option maxHeartbeats 4000000 in
set_option maxRecDepth 100000 in
theorem k_Tide_lays_j99 {p : Program} {l : Launch} {e : Env} {s : State} {m : MethodId} {args : Array Value} {below : List Frame} {meth : Method} {c : Code} {E : En} {r : Int32} {Y : Mem} (C : Cx p s m args meth c c_Tide_lays 7 "TideLoans" (some .int) E) {x2 : Nat} {x3 : Int32} {x4 : Int32} {X : Mem} {tg : ((Int32 × Mem) ⊕ (Int32 × Int32 × Mem))} (hx2 : kd x2 = 4) {n42 : Nat} (hc42 : fin (fun a => f_Tide_lays_b42 x2 a.1 a.2.1 a.2.2) n42 (r, Y) tg) (ih42 : I_Tide_lays_b42 p l e s m args below meth c E r Y x2 n42 (r, Y)) (h : f_Tide_lays_j99 x2 x3 x4 X = some tg) {H : Heap} {locs : List Loc} (hS : Hs E s.heap X H locs) {ls : Array Slot} (hl : lv_has ls 7 [(0, .ref (ad E 0)), (2, .ref (ad E x2)), (3, .int x3), (4, .int x4)]) : W p l e ({ frames := 2, cells := 0, slots := 0, locals := 43 } : Room) s m args below meth c H locs 0 0 (MQ below (PostI E r Y) args s 0 0 (Ad E)) (F0 m 99 ls []) := by
  obtain ⟨hx, hb, hml, hown, hts, hrt, hlk, hKx⟩ := id C
  unfold f_Tide_lays_j99 at h
  refine r_iinc C (w := 1) (lv' := fun z => [(4, .int z), (0, .ref (ad E 0)), (2, .ref (ad E x2)), (3, .int x3)]) h d_Tide_lays_99 hl (k := 3) rfl (by decide) (by decide) (fun _ => rfl) (fun v1 ls h hl => ?_)
  refine lv_goto (tgt := 42) hx hb d_Tide_lays_102 (by decide) ?_
  exact ih42 _ _ _ _ _ _ (lp_next h hc42) hS (lv_sub hl [1, 2, 3, 0] rfl)
set_option maxHeartbeats 4000000 in
set_option maxRecDepth 100000 in
theorem k_Tide_lays_b42 {p : Program} {l : Launch} {e : Env} {s : State} {m : MethodId} {args : Array Value} {below : List Frame} {meth : Method} {c : Code} {E : En} {r : Int32} {Y : Mem} (C : Cx p s m args meth c c_Tide_lays 7 "TideLoans" (some .int) E) (x2 : Nat) (hx2 : kd x2 = 4) : ∀ n, I_Tide_lays_b42 p l e s m args below meth c E r Y x2 n (r, Y) := by
  obtain ⟨hx, hb, hml, hown, hts, hrt, hlk, hKx⟩ := id C
  intro n
  induction n with
  | zero => intro x3 x4 X H locs ls h; exact it_0 h
  | succ n ih =>
    intro x3 x4 X H locs ls h hS hl
    obtain ⟨cc42, h, hc42⟩ := it_el h
    replace h : f_Tide_lays_b42 x2 x3 x4 X = some cc42 := h
    unfold f_Tide_lays_b42 at h
    refine lv_iload hx hb d_Tide_lays_42 (lv_at hl 3 rfl) ?_
    refine lv_aload_n hx hb d_Tide_lays_44 rfl (lv_at hl 1 rfl) ?_
    refine r_getI C hS (kd_lt hx2 (by decide)) (cel_Sheet hx2) (rfl : cls[0]? = some (R_Sheet, T_Sheet, 3)) in_Sheet 2 (by decide) tw_227 rfl h d_Tide_lays_45 (fun v1 h => ?_)
    refine r_icmp_ge (tgt := 105) C h d_Tide_lays_48 (by decide) (fun h => ?_) (fun h => ?_)
    · skip
      refine lv_iload_n hx hb d_Tide_lays_105 rfl (lv_at hl 2 rfl) ?_
      replace h := lp_ret h hc42
      exact r_iret C hS rfl h d_Tide_lays_106
    · skip
      refine lv_iload hx hb d_Tide_lays_51 (lv_at hl 3 rfl) ?_
      refine lv_bipush (v := 16) hx hb d_Tide_lays_53 (by decide) ?_
      refine r_icmp_ge (tgt := 105) C h d_Tide_lays_55 (by decide) (fun h => ?_) (fun h => ?_)
      · skip
        refine lv_iload_n hx hb d_Tide_lays_105 rfl (lv_at hl 2 rfl) ?_
        replace h := lp_ret h hc42
        exact r_iret C hS rfl h d_Tide_lays_106
      · skip
        refine lv_aload_n hx hb d_Tide_lays_58 rfl (lv_at hl 1 rfl) ?_
        refine r_get C hS (kd_lt hx2 (by decide)) (cel_Sheet hx2) (rfl : cls[0]? = some (R_Sheet, T_Sheet, 3)) in_Sheet 0 (by decide) tw_223 rfl d_Tide_lays_59 ?_
        refine lv_iload hx hb d_Tide_lays_62 (lv_at hl 3 rfl) ?_
        refine r_ldL C hS (n := 40) (kd_numbers hx2) (by decide) h d_Tide_lays_64 (fun v2 h => ?_)
        refine lv_lstore (lv' := [(5, .long v2), (0, .ref (ad E 0)), (2, .ref (ad E x2)), (3, .int x3), (4, .int x4)]) hx hb d_Tide_lays_65 hl (by decide) rfl (fun ls hl => ?_)
        refine lv_lload hx hb d_Tide_lays_67 (lv_at hl 0 rfl) ?_
        refine lv_lconst (v := 0) hx hb d_Tide_lays_69 (by decide) ?_
        refine W.lcmp hx hb d_Tide_lays_70 ?_
        refine r_if_lt (tgt := 99) C h d_Tide_lays_71 (by decide) (fun h => ?_) (fun h => ?_)
        · skip
          exact k_Tide_lays_j99 C hx2 hc42 ih h hS (lv_sub hl [1, 2, 3, 4] rfl)
        · skip
          refine lv_lload hx hb d_Tide_lays_74 (lv_at hl 0 rfl) ?_
          refine lv_ldc2 (v := 10) hx hb hown (hts _ tw_739) d_Tide_lays_76 ?_
          refine W.lcmp hx hb d_Tide_lays_79 ?_
          refine r_if_ge (tgt := 99) C h d_Tide_lays_80 (by decide) (fun h => ?_) (fun h => ?_)
          · skip
            exact k_Tide_lays_j99 C hx2 hc42 ih h hS (lv_sub hl [1, 2, 3, 4] rfl)
          · skip
            refine lv_aload_n hx hb d_Tide_lays_83 rfl (lv_at hl 1 rfl) ?_
            refine r_get C hS (by decide) cel_Tide (rfl : cls[5]? = some (R_Tide, T_Tide, 12)) in_Tide 1 (by decide) tw_237 rfl d_Tide_lays_84 ?_
            refine r_get C hS (by decide) (cel_Shore (rfl : kd 2 = 1)) (rfl : cls[1]? = some (R_Shore, T_Shore, 6)) in_Shore 0 (by decide) tw_132 rfl d_Tide_lays_87 ?_
            refine lv_iload hx hb d_Tide_lays_90 (lv_at hl 4 rfl) ?_
            refine lv_lload hx hb d_Tide_lays_92 (lv_at hl 0 rfl) ?_
            refine lv_l2i hx hb d_Tide_lays_94 rfl ?_
            refine r_stI C hS (n := 16) (kd_heights rfl) (by decide) h d_Tide_lays_95 (fun X3 H locs hS h => ?_)
            refine r_iinc C (w := 1) (lv' := fun z => [(3, .int z), (5, .long v2), (0, .ref (ad E 0)), (2, .ref (ad E x2)), (4, .int x4)]) h d_Tide_lays_96 hl (k := 3) rfl (by decide) (by decide) (fun _ => rfl) (fun v4 ls h hl => ?_)
            exact k_Tide_lays_j99 C hx2 hc42 ih h hS (lv_sub hl [2, 3, 0, 4] rfl)
set_option maxHeartbeats 4000000 in
set_option maxRecDepth 100000 in
theorem k_Tide_lays {l : Launch} {E : En} {p1 : Int32} {X : Mem} {r : Int32} {Y : Mem} (h : f_Tide_lays p1 X = some (r, Y)) : Met l y_Tide_lays (Cond.code y_Tide_lays c_Tide_lays 7 (some .int) :: tb) ({ frames := 2, cells := 0, slots := 0, locals := 43 } : Room) (PreC E [.ref (ad E 0), .int p1] X) (PostI E r Y) 0 0 (Ad E) := by
  refine met_of (by decide) (Nat.le_of_ble_eq_true rfl) (fun p e s m below meth c C hS ls hl => ?_)
  replace C : Cx p s m ([.ref (ad E 0), .int p1] : List Value).toArray meth c c_Tide_lays 7 "TideLoans" (some .int) E := C
  replace hl : lv_has ls 7 [(0, .ref (ad E 0)), (1, .int p1)] := hl
  obtain ⟨hx, hb, hml, hown, hts, hrt, hlk, hKx⟩ := id C
  unfold f_Tide_lays at h
  refine lv_iload_n hx hb d_Tide_lays_0 rfl (lv_at hl 1 rfl) ?_
  refine lv_iconst (v := 4) hx hb d_Tide_lays_1 (by decide) ?_
  obtain ⟨v1, hr2, h⟩ := bd_el h
  refine c_I hS (c_runS (As := [.int p1, .int (4 : Int32)]) (rest := []) C hS (k_Tide_isBelow (l := l) (E := E) (X := X) hr2) cw_Tide_isBelow ini_Tide_isBelow sta_Tide_isBelow tw_277 hd_Tide_isBelow rfl ⟨⟨rfl, rfl⟩, (Nat.le_of_ble_eq_true rfl), (Nat.le_of_ble_eq_true rfl)⟩ ⟨(Nat.le_of_ble_eq_true rfl), (Nat.le_of_ble_eq_true rfl)⟩ hl.1 rfl (Nat.le_of_ble_eq_true rfl) d_Tide_lays_2) (fun H locs hS => ?_)
  refine r_if_ne (tgt := 15) C h d_Tide_lays_5 (by decide) (fun h => ?_) (fun h => ?_)
  · skip
    refine lv_aload_n hx hb d_Tide_lays_15 rfl (lv_at hl 0 rfl) ?_
    refine r_get C hS (by decide) cel_Tide (rfl : cls[5]? = some (R_Tide, T_Tide, 12)) in_Tide 5 (by decide) tw_241 rfl d_Tide_lays_16 ?_
    refine lv_iload_n hx hb d_Tide_lays_19 rfl (lv_at hl 1 rfl) ?_
    refine r_ldS C hS h d_Tide_lays_20 (fun j3 hj3 h => ?_)
    refine lv_astore_n (lv' := [(2, .ref (ad E (52 + 2 * j3))), (0, .ref (ad E 0)), (1, .int p1)]) hx hb d_Tide_lays_21 rfl hl (by decide) rfl (fun ls hl => ?_)
    refine lv_aload_n hx hb d_Tide_lays_22 rfl (lv_at hl 0 rfl) ?_
    obtain ⟨v4, hr5, h⟩ := bd_el h
    refine c_I hS (c_runV (As := []) (rest := []) C hS (kd_lt (kd_sheet hj3) (by decide)) (cel_Sheet (kd_sheet hj3)) (rfl : cls[0]? = some (R_Sheet, T_Sheet, 3)) (k_Sheet_isMissing (l := l) (E := E) (X := X) (kd_sheet hj3) hr5) cw_Sheet_isMissing ini_Sheet_isMissing ins_Sheet_isMissing sel_Sheet_isMissing tw_717 hd_Sheet_isMissing rfl ⟨⟨rfl, rfl⟩, (Nat.le_of_ble_eq_true rfl), (Nat.le_of_ble_eq_true rfl)⟩ ⟨(Nat.le_of_ble_eq_true rfl), (Nat.le_of_ble_eq_true rfl)⟩ hl.1 rfl (Nat.le_of_ble_eq_true rfl) d_Tide_lays_23) (fun H locs hS => ?_)
    refine r_if_eq (tgt := 37) C h d_Tide_lays_26 (by decide) (fun h => ?_) (fun h => ?_)
    · skip
      refine lv_iconst (v := 0) hx hb d_Tide_lays_37 (by decide) ?_
      refine lv_istore_n (lv' := [(3, .int (0 : Int32)), (2, .ref (ad E (52 + 2 * j3))), (0, .ref (ad E 0)), (1, .int p1)]) hx hb d_Tide_lays_38 rfl hl (by decide) rfl (fun ls hl => ?_)
      refine lv_iconst (v := 0) hx hb d_Tide_lays_39 (by decide) ?_
      refine lv_istore (lv' := [(4, .int (0 : Int32)), (3, .int (0 : Int32)), (2, .ref (ad E (52 + 2 * j3))), (0, .ref (ad E 0)), (1, .int p1)]) hx hb d_Tide_lays_40 hl (by decide) rfl (fun ls hl => ?_)
      exact k_Tide_lays_b42 C _ (kd_sheet hj3) FU _ _ _ _ _ _ h hS (lv_sub hl [3, 2, 1, 0] rfl)
    · skip
      refine lv_aload_n hx hb d_Tide_lays_29 rfl (lv_at hl 1 rfl) ?_
      refine lv_ldcw (v := -1000000006) hx hb hown (hts _ tw_721) d_Tide_lays_30 ?_
      obtain ⟨v6, X8, hr7, h⟩ := bd2_el h
      refine c_I hS (c_runV (As := [.int (-1000000006 : Int32)]) (rest := []) C hS (by decide) cel_Tide (rfl : cls[5]? = some (R_Tide, T_Tide, 12)) (k_Tide_finding (l := l) (E := E) (X := X) hr7) cw_Tide_finding ini_Tide_finding ins_Tide_finding sel_Tide_finding tw_281 hd_Tide_finding rfl ⟨⟨rfl, rfl⟩, (Nat.le_of_ble_eq_true rfl), (Nat.le_of_ble_eq_true rfl)⟩ ⟨(Nat.le_of_ble_eq_true rfl), (Nat.le_of_ble_eq_true rfl)⟩ hl.1 rfl (Nat.le_of_ble_eq_true rfl) d_Tide_lays_33) (fun H locs hS => ?_)
      exact r_iret C hS rfl h d_Tide_lays_36
  · skip
    refine lv_aload_n hx hb d_Tide_lays_8 rfl (lv_at hl 0 rfl) ?_
    refine lv_ldc (v := -1000000001) hx hb hown (hts _ tw_280) d_Tide_lays_9 ?_
    obtain ⟨v9, X11, hr10, h⟩ := bd2_el h
    refine c_I hS (c_runV (As := [.int (-1000000001 : Int32)]) (rest := []) C hS (by decide) cel_Tide (rfl : cls[5]? = some (R_Tide, T_Tide, 12)) (k_Tide_finding (l := l) (E := E) (X := X) hr10) cw_Tide_finding ini_Tide_finding ins_Tide_finding sel_Tide_finding tw_281 hd_Tide_finding rfl ⟨⟨rfl, rfl⟩, (Nat.le_of_ble_eq_true rfl), (Nat.le_of_ble_eq_true rfl)⟩ ⟨(Nat.le_of_ble_eq_true rfl), (Nat.le_of_ble_eq_true rfl)⟩ hl.1 rfl (Nat.le_of_ble_eq_true rfl) d_Tide_lays_11) (fun H locs hS => ?_)
    exact r_iret C hS rfl h d_Tide_lays_14
def I_Tide_addToCourse_b3 (p : Program) (l : Launch) (e : Env) (s : State) (m : MethodId) (args : Array Value) (below : List Frame) (meth : Method) (c : Code) (E : En) (Y : Mem) (x2 : Int32) (x3 : Int32) (n : Nat) (tg : Mem) : Prop := ∀ (x4 : Int32) (X : Mem) (H : Heap) (locs : List Loc) (ls : Array Slot), it (fun a => f_Tide_addToCourse_b3 x2 x3 a.1 a.2) n (x4, X) = some tg → Hs E s.heap X H locs → lv_has ls 5 [(0, .ref (ad E 0)), (2, .int x2), (3, .int x3), (4, .int x4)] → W p l e ({ frames := 2, cells := 0, slots := 0, locals := 51 } : Room) s m args below meth c H locs 0 0 (MQ below (PostV E Y) args s 0 0 (Ad E)) (F0 m 3 ls [])
set_option maxHeartbeats 4000000 in
set_option maxRecDepth 100000 in
theorem k_Tide_addToCourse_b3 {p : Program} {l : Launch} {e : Env} {s : State} {m : MethodId} {args : Array Value} {below : List Frame} {meth : Method} {c : Code} {E : En} {Y : Mem} (C : Cx p s m args meth c c_Tide_addToCourse 5 "TideLoans" none E) (x2 : Int32) (x3 : Int32) : ∀ n, I_Tide_addToCourse_b3 p l e s m args below meth c E Y x2 x3 n Y := by
  obtain ⟨hx, hb, hml, hown, hts, hrt, hlk, hKx⟩ := id C
  intro n
  induction n with
  | zero => intro x4 X H locs ls h; exact it_0 h
  | succ n ih =>
    intro x4 X H locs ls h hS hl
    obtain ⟨cc3, h, hc3⟩ := it_el h
    replace h : f_Tide_addToCourse_b3 x2 x3 x4 X = some cc3 := h
    unfold f_Tide_addToCourse_b3 at h
    refine lv_iload hx hb d_Tide_addToCourse_3 (lv_at hl 3 rfl) ?_
    refine lv_iload_n hx hb d_Tide_addToCourse_5 rfl (lv_at hl 2 rfl) ?_
    refine r_icmp_ge (tgt := 40) C h d_Tide_addToCourse_6 (by decide) (fun h => ?_) (fun h => ?_)
    · skip
      replace h := lp_ret h hc3
      exact r_vret C hS rfl h d_Tide_addToCourse_40
    · skip
      refine lv_iload hx hb d_Tide_addToCourse_9 (lv_at hl 3 rfl) ?_
      refine lv_bipush (v := 40) hx hb d_Tide_addToCourse_11 (by decide) ?_
      refine r_icmp_ge (tgt := 40) C h d_Tide_addToCourse_13 (by decide) (fun h => ?_) (fun h => ?_)
      · skip
        replace h := lp_ret h hc3
        exact r_vret C hS rfl h d_Tide_addToCourse_40
      · skip
        refine lv_aload_n hx hb d_Tide_addToCourse_16 rfl (lv_at hl 0 rfl) ?_
        refine r_get C hS (by decide) cel_Tide (rfl : cls[5]? = some (R_Tide, T_Tide, 12)) in_Tide 8 (by decide) tw_244 rfl d_Tide_addToCourse_17 ?_
        refine lv_iload hx hb d_Tide_addToCourse_20 (lv_at hl 3 rfl) ?_
        refine lv_aload_n hx hb d_Tide_addToCourse_22 rfl (lv_at hl 0 rfl) ?_
        refine r_get C hS (by decide) cel_Tide (rfl : cls[5]? = some (R_Tide, T_Tide, 12)) in_Tide 8 (by decide) tw_244 rfl d_Tide_addToCourse_23 ?_
        refine lv_iload hx hb d_Tide_addToCourse_26 (lv_at hl 3 rfl) ?_
        refine r_ldI C hS (n := 40) rfl (by decide) h d_Tide_addToCourse_28 (fun v1 h => ?_)
        refine lv_iload_n hx hb d_Tide_addToCourse_29 rfl (lv_at hl 1 rfl) ?_
        obtain ⟨v2, hr3, h⟩ := bd_el h
        refine c_I hS (c_runS (As := [.int v1, .int x2]) (rest := [.int x4, .ref (ad E 49)]) C hS (k_Tide_filled (l := l) (E := E) (X := X) hr3) cw_Tide_filled ini_Tide_filled sta_Tide_filled tw_453 hd_Tide_filled rfl ⟨⟨rfl, rfl⟩, (Nat.le_of_ble_eq_true rfl), (Nat.le_of_ble_eq_true rfl)⟩ ⟨(Nat.le_of_ble_eq_true rfl), (Nat.le_of_ble_eq_true rfl)⟩ hl.1 rfl (Nat.le_of_ble_eq_true rfl) d_Tide_addToCourse_30) (fun H locs hS => ?_)
        refine r_stI C hS (n := 40) rfl (by decide) h d_Tide_addToCourse_33 (fun X4 H locs hS h => ?_)
        refine r_iinc C (w := 1) (lv' := fun z => [(4, .int z), (0, .ref (ad E 0)), (2, .int x2), (3, .int x3)]) h d_Tide_addToCourse_34 hl (k := 3) rfl (by decide) (by decide) (fun _ => rfl) (fun v5 ls h hl => ?_)
        refine lv_goto (tgt := 3) hx hb d_Tide_addToCourse_37 (by decide) ?_
        exact ih _ _ _ _ _ (lp_next h hc3) hS (lv_sub hl [1, 2, 3, 0] rfl)
set_option maxHeartbeats 4000000 in
set_option maxRecDepth 100000 in
theorem k_Tide_addToCourse {l : Launch} {E : En} {p1 : Int32} {p2 : Int32} {p3 : Int32} {X : Mem} {Y : Mem} (h : f_Tide_addToCourse p1 p2 p3 X = some Y) : Met l y_Tide_addToCourse (Cond.code y_Tide_addToCourse c_Tide_addToCourse 5 none :: tb) ({ frames := 2, cells := 0, slots := 0, locals := 51 } : Room) (PreC E [.ref (ad E 0), .int p1, .int p2, .int p3] X) (PostV E Y) 0 0 (Ad E) := by
  refine met_of (by decide) (Nat.le_of_ble_eq_true rfl) (fun p e s m below meth c C hS ls hl => ?_)
  replace C : Cx p s m ([.ref (ad E 0), .int p1, .int p2, .int p3] : List Value).toArray meth c c_Tide_addToCourse 5 "TideLoans" none E := C
  replace hl : lv_has ls 5 [(0, .ref (ad E 0)), (1, .int p1), (2, .int p2), (3, .int p3)] := hl
  obtain ⟨hx, hb, hml, hown, hts, hrt, hlk, hKx⟩ := id C
  unfold f_Tide_addToCourse at h
  refine lv_iload_n hx hb d_Tide_addToCourse_0 rfl (lv_at hl 1 rfl) ?_
  refine lv_istore (lv' := [(4, .int p1), (0, .ref (ad E 0)), (1, .int p1), (2, .int p2), (3, .int p3)]) hx hb d_Tide_addToCourse_1 hl (by decide) rfl (fun ls hl => ?_)
  exact k_Tide_addToCourse_b3 C _ _ FU _ _ _ _ _ h hS (lv_sub hl [1, 3, 4, 0] rfl)
def I_Tide_plotCourse_b48 (p : Program) (l : Launch) (e : Env) (s : State) (m : MethodId) (args : Array Value) (below : List Frame) (meth : Method) (c : Code) (E : En) (Y : Mem) (x1 : Int32) (x2 : Int32) (x3 : Int32) (n : Nat) (tg : Mem) : Prop := ∀ (x4 : Int32) (X : Mem) (H : Heap) (locs : List Loc) (ls : Array Slot), it (fun a => f_Tide_plotCourse_b48 x1 x2 x3 a.1 a.2) n (x4, X) = some tg → Hs E s.heap X H locs → lv_has ls 5 [(0, .ref (ad E 0)), (1, .int x1), (2, .int x2), (3, .int x3), (4, .int x4)] → W p l e ({ frames := 8, cells := 0, slots := 0, locals := 182 } : Room) s m args below meth c H locs 0 0 (MQ below (PostV E Y) args s 0 0 (Ad E)) (F0 m 48 ls [])
def I_Tide_plotCourse_b3 (p : Program) (l : Launch) (e : Env) (s : State) (m : MethodId) (args : Array Value) (below : List Frame) (meth : Method) (c : Code) (E : En) (Y : Mem) (x1 : Int32) (x2 : Int32) (x3 : Int32) (n : Nat) (tg : Mem) : Prop := ∀ (x4 : Int32) (X : Mem) (H : Heap) (locs : List Loc) (ls : Array Slot), it (fun a => f_Tide_plotCourse_b3 x1 x2 x3 a.1 a.2) n (x4, X) = some tg → Hs E s.heap X H locs → lv_has ls 5 [(0, .ref (ad E 0)), (1, .int x1), (2, .int x2), (3, .int x3), (4, .int x4)] → W p l e ({ frames := 8, cells := 0, slots := 0, locals := 182 } : Room) s m args below meth c H locs 0 0 (MQ below (PostV E Y) args s 0 0 (Ad E)) (F0 m 3 ls [])
set_option maxHeartbeats 4000000 in
set_option maxRecDepth 100000 in
theorem k_Tide_plotCourse_j125 {p : Program} {l : Launch} {e : Env} {s : State} {m : MethodId} {args : Array Value} {below : List Frame} {meth : Method} {c : Code} {E : En} {Y : Mem} (C : Cx p s m args meth c c_Tide_plotCourse 5 "TideLoans" none E) {x1 : Int32} {x2 : Int32} {x3 : Int32} {x4 : Int32} {X : Mem} {tg : (Mem ⊕ (Int32 × Mem))} {n48 : Nat} (hc48 : fin (fun a => f_Tide_plotCourse_b48 x1 x2 x3 a.1 a.2) n48 Y tg) (ih48 : I_Tide_plotCourse_b48 p l e s m args below meth c E Y x1 x2 x3 n48 Y) (h : f_Tide_plotCourse_j125 x1 x2 x3 x4 X = some tg) {H : Heap} {locs : List Loc} (hS : Hs E s.heap X H locs) {ls : Array Slot} (hl : lv_has ls 5 [(0, .ref (ad E 0)), (1, .int x1), (2, .int x2), (3, .int x3), (4, .int x4)]) : W p l e ({ frames := 8, cells := 0, slots := 0, locals := 182 } : Room) s m args below meth c H locs 0 0 (MQ below (PostV E Y) args s 0 0 (Ad E)) (F0 m 125 ls []) := by
  obtain ⟨hx, hb, hml, hown, hts, hrt, hlk, hKx⟩ := id C
  unfold f_Tide_plotCourse_j125 at h
  refine r_iinc C (w := 1) (lv' := fun z => [(4, .int z), (0, .ref (ad E 0)), (1, .int x1), (2, .int x2), (3, .int x3)]) h d_Tide_plotCourse_125 hl (k := 4) rfl (by decide) (by decide) (fun _ => rfl) (fun v1 ls h hl => ?_)
  refine lv_goto (tgt := 48) hx hb d_Tide_plotCourse_128 (by decide) ?_
  exact ih48 _ _ _ _ _ (lp_next h hc48) hS (lv_sub hl [1, 2, 3, 4, 0] rfl)
set_option maxHeartbeats 4000000 in
set_option maxRecDepth 100000 in
theorem k_Tide_plotCourse_b48 {p : Program} {l : Launch} {e : Env} {s : State} {m : MethodId} {args : Array Value} {below : List Frame} {meth : Method} {c : Code} {E : En} {Y : Mem} (C : Cx p s m args meth c c_Tide_plotCourse 5 "TideLoans" none E) (x1 : Int32) (x2 : Int32) (x3 : Int32) : ∀ n, I_Tide_plotCourse_b48 p l e s m args below meth c E Y x1 x2 x3 n Y := by
  obtain ⟨hx, hb, hml, hown, hts, hrt, hlk, hKx⟩ := id C
  intro n
  induction n with
  | zero => intro x4 X H locs ls h; exact it_0 h
  | succ n ih =>
    intro x4 X H locs ls h hS hl
    obtain ⟨cc48, h, hc48⟩ := it_el h
    replace h : f_Tide_plotCourse_b48 x1 x2 x3 x4 X = some cc48 := h
    unfold f_Tide_plotCourse_b48 at h
    refine lv_iload hx hb d_Tide_plotCourse_48 (lv_at hl 4 rfl) ?_
    refine lv_aload_n hx hb d_Tide_plotCourse_50 rfl (lv_at hl 0 rfl) ?_
    refine r_get C hS (by decide) cel_Tide (rfl : cls[5]? = some (R_Tide, T_Tide, 12)) in_Tide 1 (by decide) tw_237 rfl d_Tide_plotCourse_51 ?_
    refine r_getI C hS (by decide) (cel_Shore (rfl : kd 2 = 1)) (rfl : cls[1]? = some (R_Shore, T_Shore, 6)) in_Shore 3 (by decide) tw_138 rfl h d_Tide_plotCourse_54 (fun v1 h => ?_)
    refine r_icmp_ge (tgt := 131) C h d_Tide_plotCourse_57 (by decide) (fun h => ?_) (fun h => ?_)
    · skip
      replace h := lp_ret h hc48
      exact r_vret C hS rfl h d_Tide_plotCourse_131
    · skip
      refine lv_aload_n hx hb d_Tide_plotCourse_60 rfl (lv_at hl 0 rfl) ?_
      refine r_get C hS (by decide) cel_Tide (rfl : cls[5]? = some (R_Tide, T_Tide, 12)) in_Tide 1 (by decide) tw_237 rfl d_Tide_plotCourse_61 ?_
      refine r_get C hS (by decide) (cel_Shore (rfl : kd 2 = 1)) (rfl : cls[1]? = some (R_Shore, T_Shore, 6)) in_Shore 2 (by decide) tw_136 rfl d_Tide_plotCourse_64 ?_
      refine lv_iload hx hb d_Tide_plotCourse_67 (lv_at hl 4 rfl) ?_
      refine r_ldT C hS (kd_things rfl) h d_Tide_plotCourse_69 (fun j2 hj2 h => ?_)
      refine r_getI C hS (kd_lt (kd_thing (kd_things rfl) hj2) (by decide)) (cel_Thing (kd_thing (kd_things rfl) hj2)) (rfl : cls[3]? = some (R_Thing, T_Thing, 6)) in_Thing 1 (by decide) tw_103 rfl h d_Tide_plotCourse_70 (fun v3 h => ?_)
      refine lv_iload_n hx hb d_Tide_plotCourse_73 rfl (lv_at hl 1 rfl) ?_
      refine r_icmp_ne (tgt := 125) C h d_Tide_plotCourse_74 (by decide) (fun h => ?_) (fun h => ?_)
      · skip
        exact k_Tide_plotCourse_j125 C hc48 ih h hS (lv_sub hl [0, 1, 2, 3, 4] rfl)
      · skip
        refine lv_iload hx hb d_Tide_plotCourse_77 (lv_at hl 4 rfl) ?_
        refine lv_iload_n hx hb d_Tide_plotCourse_79 rfl (lv_at hl 2 rfl) ?_
        refine r_icmp_eq (tgt := 125) C h d_Tide_plotCourse_80 (by decide) (fun h => ?_) (fun h => ?_)
        · skip
          exact k_Tide_plotCourse_j125 C hc48 ih h hS (lv_sub hl [0, 1, 2, 3, 4] rfl)
        · skip
          refine lv_aload_n hx hb d_Tide_plotCourse_83 rfl (lv_at hl 0 rfl) ?_
          refine lv_aload_n hx hb d_Tide_plotCourse_84 rfl (lv_at hl 0 rfl) ?_
          refine r_get C hS (by decide) cel_Tide (rfl : cls[5]? = some (R_Tide, T_Tide, 12)) in_Tide 6 (by decide) tw_242 rfl d_Tide_plotCourse_85 ?_
          refine lv_iload hx hb d_Tide_plotCourse_88 (lv_at hl 4 rfl) ?_
          refine r_ldW C hS h d_Tide_plotCourse_90 (fun j4 hj4 h => ?_)
          refine r_getI C hS (kd_lt (kd_way hj4) (by decide)) (cel_Way (kd_way hj4)) (rfl : cls[4]? = some (R_Way, T_Way, 5)) in_Way 1 (by decide) tw_200 rfl h d_Tide_plotCourse_91 (fun v5 h => ?_)
          refine lv_aload_n hx hb d_Tide_plotCourse_94 rfl (lv_at hl 0 rfl) ?_
          refine r_get C hS (by decide) cel_Tide (rfl : cls[5]? = some (R_Tide, T_Tide, 12)) in_Tide 6 (by decide) tw_242 rfl d_Tide_plotCourse_95 ?_
          refine lv_iload hx hb d_Tide_plotCourse_98 (lv_at hl 4 rfl) ?_
          refine r_ldW C hS h d_Tide_plotCourse_100 (fun j6 hj6 h => ?_)
          refine lv_aload_n hx hb d_Tide_plotCourse_101 rfl (lv_at hl 0 rfl) ?_
          refine r_get C hS (by decide) cel_Tide (rfl : cls[5]? = some (R_Tide, T_Tide, 12)) in_Tide 1 (by decide) tw_237 rfl d_Tide_plotCourse_102 ?_
          refine r_get C hS (by decide) (cel_Shore (rfl : kd 2 = 1)) (rfl : cls[1]? = some (R_Shore, T_Shore, 6)) in_Shore 2 (by decide) tw_136 rfl d_Tide_plotCourse_105 ?_
          refine lv_iload hx hb d_Tide_plotCourse_108 (lv_at hl 4 rfl) ?_
          refine r_ldT C hS (kd_things rfl) h d_Tide_plotCourse_110 (fun j7 hj7 h => ?_)
          refine lv_aload_n hx hb d_Tide_plotCourse_111 rfl (lv_at hl 0 rfl) ?_
          refine r_get C hS (by decide) cel_Tide (rfl : cls[5]? = some (R_Tide, T_Tide, 12)) in_Tide 1 (by decide) tw_237 rfl d_Tide_plotCourse_112 ?_
          refine r_getI C hS (by decide) (cel_Shore (rfl : kd 2 = 1)) (rfl : cls[1]? = some (R_Shore, T_Shore, 6)) in_Shore 5 (by decide) tw_142 rfl h d_Tide_plotCourse_115 (fun v8 h => ?_)
          obtain ⟨v9, hr10, h⟩ := bd_el h
          refine c_I hS (c_runV (As := [.ref (ad E ((2 + 3) + 1 + j7)), .int v8]) (rest := [.int v5, .ref (ad E 0)]) C hS (kd_lt (kd_way hj6) (by decide)) (cel_Way (kd_way hj6)) (rfl : cls[4]? = some (R_Way, T_Way, 5)) (k_Way_brings (l := l) (E := E) (X := X) (kd_way hj6) (kd_thing (kd_things rfl) hj7) hr10) cw_Way_brings ini_Way_brings ins_Way_brings sel_Way_brings tw_448 hd_Way_brings rfl ⟨⟨rfl, rfl⟩, (Nat.le_of_ble_eq_true rfl), (Nat.le_of_ble_eq_true rfl)⟩ ⟨(Nat.le_of_ble_eq_true rfl), (Nat.le_of_ble_eq_true rfl)⟩ hl.1 rfl (Nat.le_of_ble_eq_true rfl) d_Tide_plotCourse_118) (fun H locs hS => ?_)
          refine lv_iload_n hx hb d_Tide_plotCourse_121 rfl (lv_at hl 3 rfl) ?_
          obtain ⟨X12, hr11, h⟩ := bd_el h
          refine c_V hS (c_runV (As := [.int v5, .int v9, .int x3]) (rest := []) C hS (by decide) cel_Tide (rfl : cls[5]? = some (R_Tide, T_Tide, 12)) (k_Tide_addToCourse (l := l) (E := E) (X := X) hr11) cw_Tide_addToCourse ini_Tide_addToCourse ins_Tide_addToCourse sel_Tide_addToCourse tw_748 hd_Tide_addToCourse rfl ⟨⟨rfl, rfl⟩, (Nat.le_of_ble_eq_true rfl), (Nat.le_of_ble_eq_true rfl)⟩ ⟨(Nat.le_of_ble_eq_true rfl), (Nat.le_of_ble_eq_true rfl)⟩ hl.1 rfl (Nat.le_of_ble_eq_true rfl) d_Tide_plotCourse_122) (fun H locs hS => ?_)
          exact k_Tide_plotCourse_j125 C hc48 ih h hS (lv_sub hl [0, 1, 2, 3, 4] rfl)
set_option maxHeartbeats 4000000 in
set_option maxRecDepth 100000 in
theorem k_Tide_plotCourse_j38 {p : Program} {l : Launch} {e : Env} {s : State} {m : MethodId} {args : Array Value} {below : List Frame} {meth : Method} {c : Code} {E : En} {Y : Mem} (C : Cx p s m args meth c c_Tide_plotCourse 5 "TideLoans" none E) {x1 : Int32} {x2 : Int32} {x3 : Int32} {X : Mem} (h : f_Tide_plotCourse_j38 x1 x2 x3 X = some Y) {H : Heap} {locs : List Loc} (hS : Hs E s.heap X H locs) {ls : Array Slot} (hl : lv_has ls 5 [(0, .ref (ad E 0)), (1, .int x1), (2, .int x2), (3, .int x3)]) : W p l e ({ frames := 8, cells := 0, slots := 0, locals := 182 } : Room) s m args below meth c H locs 0 0 (MQ below (PostV E Y) args s 0 0 (Ad E)) (F0 m 38 ls []) := by
  obtain ⟨hx, hb, hml, hown, hts, hrt, hlk, hKx⟩ := id C
  unfold f_Tide_plotCourse_j38 at h
  refine lv_aload_n hx hb d_Tide_plotCourse_38 rfl (lv_at hl 0 rfl) ?_
  refine lv_iload_n hx hb d_Tide_plotCourse_39 rfl (lv_at hl 3 rfl) ?_
  refine lv_iconst (v := 1) hx hb d_Tide_plotCourse_40 (by decide) ?_
  refine lv_isub hx hb d_Tide_plotCourse_41 ?_
  obtain ⟨X2, hr1, h⟩ := bd_el h
  refine c_V hS (c_runV (As := [.int (x3 - (1 : Int32))]) (rest := []) C hS (by decide) cel_Tide (rfl : cls[5]? = some (R_Tide, T_Tide, 12)) (k_Tide_followAll (l := l) (E := E) (X := X) hr1) cw_Tide_followAll ini_Tide_followAll ins_Tide_followAll sel_Tide_followAll tw_413 hd_Tide_followAll rfl ⟨⟨rfl, rfl⟩, (Nat.le_of_ble_eq_true rfl), (Nat.le_of_ble_eq_true rfl)⟩ ⟨(Nat.le_of_ble_eq_true rfl), (Nat.le_of_ble_eq_true rfl)⟩ hl.1 rfl (Nat.le_of_ble_eq_true rfl) d_Tide_plotCourse_42) (fun H locs hS => ?_)
  refine lv_iconst (v := 0) hx hb d_Tide_plotCourse_45 (by decide) ?_
  refine lv_istore (lv' := [(4, .int (0 : Int32)), (0, .ref (ad E 0)), (1, .int x1), (2, .int x2), (3, .int x3)]) hx hb d_Tide_plotCourse_46 hl (by decide) rfl (fun ls hl => ?_)
  exact k_Tide_plotCourse_b48 C _ _ _ FU _ _ _ _ _ h hS (lv_sub hl [1, 2, 3, 4, 0] rfl)
set_option maxHeartbeats 4000000 in
set_option maxRecDepth 100000 in
theorem k_Tide_plotCourse_b3 {p : Program} {l : Launch} {e : Env} {s : State} {m : MethodId} {args : Array Value} {below : List Frame} {meth : Method} {c : Code} {E : En} {Y : Mem} (C : Cx p s m args meth c c_Tide_plotCourse 5 "TideLoans" none E) (x1 : Int32) (x2 : Int32) (x3 : Int32) : ∀ n, I_Tide_plotCourse_b3 p l e s m args below meth c E Y x1 x2 x3 n Y := by
  obtain ⟨hx, hb, hml, hown, hts, hrt, hlk, hKx⟩ := id C
  intro n
  induction n with
  | zero => intro x4 X H locs ls h; exact it_0 h
  | succ n ih =>
    intro x4 X H locs ls h hS hl
    obtain ⟨cc3, h, hc3⟩ := it_el h
    replace h : f_Tide_plotCourse_b3 x1 x2 x3 x4 X = some cc3 := h
    unfold f_Tide_plotCourse_b3 at h
    refine lv_iload hx hb d_Tide_plotCourse_3 (lv_at hl 4 rfl) ?_
    refine lv_iload_n hx hb d_Tide_plotCourse_5 rfl (lv_at hl 3 rfl) ?_
    refine r_icmp_ge (tgt := 38) C h d_Tide_plotCourse_6 (by decide) (fun h => ?_) (fun h => ?_)
    · skip
      replace h := lp_up h hc3
      exact k_Tide_plotCourse_j38 C h hS (lv_sub hl [0, 1, 2, 3] rfl)
    · skip
      refine lv_iload hx hb d_Tide_plotCourse_9 (lv_at hl 4 rfl) ?_
      refine lv_bipush (v := 40) hx hb d_Tide_plotCourse_11 (by decide) ?_
      refine r_icmp_ge (tgt := 38) C h d_Tide_plotCourse_13 (by decide) (fun h => ?_) (fun h => ?_)
      · skip
        replace h := lp_up h hc3
        exact k_Tide_plotCourse_j38 C h hS (lv_sub hl [0, 1, 2, 3] rfl)
      · skip
        refine lv_aload_n hx hb d_Tide_plotCourse_16 rfl (lv_at hl 0 rfl) ?_
        refine r_get C hS (by decide) cel_Tide (rfl : cls[5]? = some (R_Tide, T_Tide, 12)) in_Tide 8 (by decide) tw_244 rfl d_Tide_plotCourse_17 ?_
        refine lv_iload hx hb d_Tide_plotCourse_20 (lv_at hl 4 rfl) ?_
        refine lv_aload_n hx hb d_Tide_plotCourse_22 rfl (lv_at hl 0 rfl) ?_
        refine r_get C hS (by decide) cel_Tide (rfl : cls[5]? = some (R_Tide, T_Tide, 12)) in_Tide 1 (by decide) tw_237 rfl d_Tide_plotCourse_23 ?_
        refine r_get C hS (by decide) (cel_Shore (rfl : kd 2 = 1)) (rfl : cls[1]? = some (R_Shore, T_Shore, 6)) in_Shore 1 (by decide) tw_134 rfl d_Tide_plotCourse_26 ?_
        refine lv_iload_n hx hb d_Tide_plotCourse_29 rfl (lv_at hl 1 rfl) ?_
        refine r_ldI C hS (n := 4) (kd_purses rfl) (by decide) h d_Tide_plotCourse_30 (fun v1 h => ?_)
        refine r_stI C hS (n := 40) rfl (by decide) h d_Tide_plotCourse_31 (fun X2 H locs hS h => ?_)
        refine r_iinc C (w := 1) (lv' := fun z => [(4, .int z), (0, .ref (ad E 0)), (1, .int x1), (2, .int x2), (3, .int x3)]) h d_Tide_plotCourse_32 hl (k := 4) rfl (by decide) (by decide) (fun _ => rfl) (fun v3 ls h hl => ?_)
        refine lv_goto (tgt := 3) hx hb d_Tide_plotCourse_35 (by decide) ?_
        exact ih _ _ _ _ _ (lp_next h hc3) hS (lv_sub hl [1, 2, 3, 4, 0] rfl)
set_option maxHeartbeats 4000000 in
set_option maxRecDepth 100000 in
theorem k_Tide_plotCourse {l : Launch} {E : En} {p1 : Int32} {p2 : Int32} {p3 : Int32} {X : Mem} {Y : Mem} (h : f_Tide_plotCourse p1 p2 p3 X = some Y) : Met l y_Tide_plotCourse (Cond.code y_Tide_plotCourse c_Tide_plotCourse 5 none :: tb) ({ frames := 8, cells := 0, slots := 0, locals := 182 } : Room) (PreC E [.ref (ad E 0), .int p1, .int p2, .int p3] X) (PostV E Y) 0 0 (Ad E) := by
  refine met_of (by decide) (Nat.le_of_ble_eq_true rfl) (fun p e s m below meth c C hS ls hl => ?_)
  replace C : Cx p s m ([.ref (ad E 0), .int p1, .int p2, .int p3] : List Value).toArray meth c c_Tide_plotCourse 5 "TideLoans" none E := C
  replace hl : lv_has ls 5 [(0, .ref (ad E 0)), (1, .int p1), (2, .int p2), (3, .int p3)] := hl
  obtain ⟨hx, hb, hml, hown, hts, hrt, hlk, hKx⟩ := id C
  unfold f_Tide_plotCourse at h
  refine lv_iconst (v := 0) hx hb d_Tide_plotCourse_0 (by decide) ?_
  refine lv_istore (lv' := [(4, .int (0 : Int32)), (0, .ref (ad E 0)), (1, .int p1), (2, .int p2), (3, .int p3)]) hx hb d_Tide_plotCourse_1 hl (by decide) rfl (fun ls hl => ?_)
  exact k_Tide_plotCourse_b3 C _ _ _ FU _ _ _ _ _ h hS (lv_sub hl [1, 2, 3, 4, 0] rfl)
def I_Tide_book_b65 (p : Program) (l : Launch) (e : Env) (s : State) (m : MethodId) (args : Array Value) (below : List Frame) (meth : Method) (c : Code) (E : En) (r : Int32) (Y : Mem) (x3 : Nat) (n : Nat) (tg : (Int32 × Mem)) : Prop := ∀ (x4 : Int32) (X : Mem) (H : Heap) (locs : List Loc) (ls : Array Slot), it (fun a => f_Tide_book_b65 x3 a.1 a.2) n (x4, X) = some tg → Hs E s.heap X H locs → lv_has ls 5 [(0, .ref (ad E 0)), (3, .ref (ad E x3)), (4, .int x4)] → W p l e ({ frames := 9, cells := 0, slots := 0, locals := 206 } : Room) s m args below meth c H locs 0 0 (MQ below (PostI E r Y) args s 0 0 (Ad E)) (F0 m 65 ls [])
set_option maxHeartbeats 4000000 in
set_option maxRecDepth 100000 in
theorem k_Tide_book_b65 {p : Program} {l : Launch} {e : Env} {s : State} {m : MethodId} {args : Array Value} {below : List Frame} {meth : Method} {c : Code} {E : En} {r : Int32} {Y : Mem} (C : Cx p s m args meth c c_Tide_book 5 "TideLoans" (some .int) E) (x3 : Nat) (hx3 : kd x3 = 4) : ∀ n, I_Tide_book_b65 p l e s m args below meth c E r Y x3 n (r, Y) := by
  obtain ⟨hx, hb, hml, hown, hts, hrt, hlk, hKx⟩ := id C
  intro n
  induction n with
  | zero => intro x4 X H locs ls h; exact it_0 h
  | succ n ih =>
    intro x4 X H locs ls h hS hl
    obtain ⟨cc65, h, hc65⟩ := it_el h
    replace h : f_Tide_book_b65 x3 x4 X = some cc65 := h
    unfold f_Tide_book_b65 at h
    refine lv_iload hx hb d_Tide_book_65 (lv_at hl 2 rfl) ?_
    refine lv_aload_n hx hb d_Tide_book_67 rfl (lv_at hl 1 rfl) ?_
    refine r_getI C hS (kd_lt hx3 (by decide)) (cel_Sheet hx3) (rfl : cls[0]? = some (R_Sheet, T_Sheet, 3)) in_Sheet 2 (by decide) tw_227 rfl h d_Tide_book_68 (fun v1 h => ?_)
    refine r_icmp_ge (tgt := 94) C h d_Tide_book_71 (by decide) (fun h => ?_) (fun h => ?_)
    · skip
      refine lv_aload_n hx hb d_Tide_book_94 rfl (lv_at hl 1 rfl) ?_
      refine r_getI C hS (kd_lt hx3 (by decide)) (cel_Sheet hx3) (rfl : cls[0]? = some (R_Sheet, T_Sheet, 3)) in_Sheet 2 (by decide) tw_227 rfl h d_Tide_book_95 (fun v2 h => ?_)
      replace h := lp_ret h hc65
      exact r_iret C hS rfl h d_Tide_book_98
    · skip
      refine lv_aload_n hx hb d_Tide_book_74 rfl (lv_at hl 1 rfl) ?_
      refine lv_iload hx hb d_Tide_book_75 (lv_at hl 2 rfl) ?_
      refine lv_aload_n hx hb d_Tide_book_77 rfl (lv_at hl 0 rfl) ?_
      refine r_get C hS (by decide) cel_Tide (rfl : cls[5]? = some (R_Tide, T_Tide, 12)) in_Tide 8 (by decide) tw_244 rfl d_Tide_book_78 ?_
      refine lv_iload hx hb d_Tide_book_81 (lv_at hl 2 rfl) ?_
      refine r_ldI C hS (n := 40) rfl (by decide) h d_Tide_book_83 (fun v3 h => ?_)
      refine lv_i2l hx hb d_Tide_book_84 rfl ?_
      obtain ⟨X5, hr4, h⟩ := bd_el h
      refine c_V hS (c_runV (As := [.int x4, .long (v3.toInt64)]) (rest := []) C hS (kd_lt hx3 (by decide)) (cel_Sheet hx3) (rfl : cls[0]? = some (R_Sheet, T_Sheet, 3)) (k_Sheet_put (l := l) (E := E) (X := X) hx3 hr4) cw_Sheet_put ini_Sheet_put ins_Sheet_put sel_Sheet_put tw_722 hd_Sheet_put rfl ⟨⟨rfl, rfl⟩, (Nat.le_of_ble_eq_true rfl), (Nat.le_of_ble_eq_true rfl)⟩ ⟨(Nat.le_of_ble_eq_true rfl), (Nat.le_of_ble_eq_true rfl)⟩ hl.1 rfl (Nat.le_of_ble_eq_true rfl) d_Tide_book_85) (fun H locs hS => ?_)
      refine r_iinc C (w := 1) (lv' := fun z => [(4, .int z), (0, .ref (ad E 0)), (3, .ref (ad E x3))]) h d_Tide_book_88 hl (k := 2) rfl (by decide) (by decide) (fun _ => rfl) (fun v6 ls h hl => ?_)
      refine lv_goto (tgt := 65) hx hb d_Tide_book_91 (by decide) ?_
      exact ih _ _ _ _ _ (lp_next h hc65) hS (lv_sub hl [1, 2, 0] rfl)
set_option maxHeartbeats 4000000 in
set_option maxRecDepth 100000 in
theorem k_Tide_book {l : Launch} {E : En} {p1 : Int32} {p2 : Int32} {X : Mem} {r : Int32} {Y : Mem} (h : f_Tide_book p1 p2 X = some (r, Y)) : Met l y_Tide_book (Cond.code y_Tide_book c_Tide_book 5 (some .int) :: tb) ({ frames := 9, cells := 0, slots := 0, locals := 206 } : Room) (PreC E [.ref (ad E 0), .int p1, .int p2] X) (PostI E r Y) 0 0 (Ad E) := by
  refine met_of (by decide) (Nat.le_of_ble_eq_true rfl) (fun p e s m below meth c C hS ls hl => ?_)
  replace C : Cx p s m ([.ref (ad E 0), .int p1, .int p2] : List Value).toArray meth c c_Tide_book 5 "TideLoans" (some .int) E := C
  replace hl : lv_has ls 5 [(0, .ref (ad E 0)), (1, .int p1), (2, .int p2)] := hl
  obtain ⟨hx, hb, hml, hown, hts, hrt, hlk, hKx⟩ := id C
  unfold f_Tide_book at h
  refine lv_iload_n hx hb d_Tide_book_0 rfl (lv_at hl 1 rfl) ?_
  refine lv_iconst (v := 4) hx hb d_Tide_book_1 (by decide) ?_
  obtain ⟨v1, hr2, h⟩ := bd_el h
  refine c_I hS (c_runS (As := [.int p1, .int (4 : Int32)]) (rest := []) C hS (k_Tide_isBelow (l := l) (E := E) (X := X) hr2) cw_Tide_isBelow ini_Tide_isBelow sta_Tide_isBelow tw_277 hd_Tide_isBelow rfl ⟨⟨rfl, rfl⟩, (Nat.le_of_ble_eq_true rfl), (Nat.le_of_ble_eq_true rfl)⟩ ⟨(Nat.le_of_ble_eq_true rfl), (Nat.le_of_ble_eq_true rfl)⟩ hl.1 rfl (Nat.le_of_ble_eq_true rfl) d_Tide_book_2) (fun H locs hS => ?_)
  refine r_if_ne (tgt := 15) C h d_Tide_book_5 (by decide) (fun h => ?_) (fun h => ?_)
  · skip
    refine lv_aload_n hx hb d_Tide_book_15 rfl (lv_at hl 0 rfl) ?_
    refine r_get C hS (by decide) cel_Tide (rfl : cls[5]? = some (R_Tide, T_Tide, 12)) in_Tide 5 (by decide) tw_241 rfl d_Tide_book_16 ?_
    refine lv_iload_n hx hb d_Tide_book_19 rfl (lv_at hl 1 rfl) ?_
    refine r_ldS C hS h d_Tide_book_20 (fun j3 hj3 h => ?_)
    refine lv_astore_n (lv' := [(3, .ref (ad E (52 + 2 * j3))), (0, .ref (ad E 0)), (1, .int p1), (2, .int p2)]) hx hb d_Tide_book_21 rfl hl (by decide) rfl (fun ls hl => ?_)
    refine lv_aload_n hx hb d_Tide_book_22 rfl (lv_at hl 0 rfl) ?_
    obtain ⟨v4, hr5, h⟩ := bd_el h
    refine c_I hS (c_runV (As := []) (rest := []) C hS (kd_lt (kd_sheet hj3) (by decide)) (cel_Sheet (kd_sheet hj3)) (rfl : cls[0]? = some (R_Sheet, T_Sheet, 3)) (k_Sheet_isMissing (l := l) (E := E) (X := X) (kd_sheet hj3) hr5) cw_Sheet_isMissing ini_Sheet_isMissing ins_Sheet_isMissing sel_Sheet_isMissing tw_717 hd_Sheet_isMissing rfl ⟨⟨rfl, rfl⟩, (Nat.le_of_ble_eq_true rfl), (Nat.le_of_ble_eq_true rfl)⟩ ⟨(Nat.le_of_ble_eq_true rfl), (Nat.le_of_ble_eq_true rfl)⟩ hl.1 rfl (Nat.le_of_ble_eq_true rfl) d_Tide_book_23) (fun H locs hS => ?_)
    refine r_if_eq (tgt := 37) C h d_Tide_book_26 (by decide) (fun h => ?_) (fun h => ?_)
    · skip
      refine lv_iload_n hx hb d_Tide_book_37 rfl (lv_at hl 3 rfl) ?_
      refine lv_iconst (v := 4) hx hb d_Tide_book_38 (by decide) ?_
      obtain ⟨v6, hr7, h⟩ := bd_el h
      refine c_I hS (c_runS (As := [.int p2, .int (4 : Int32)]) (rest := []) C hS (k_Tide_isBelow (l := l) (E := E) (X := X) hr7) cw_Tide_isBelow ini_Tide_isBelow sta_Tide_isBelow tw_277 hd_Tide_isBelow rfl ⟨⟨rfl, rfl⟩, (Nat.le_of_ble_eq_true rfl), (Nat.le_of_ble_eq_true rfl)⟩ ⟨(Nat.le_of_ble_eq_true rfl), (Nat.le_of_ble_eq_true rfl)⟩ hl.1 rfl (Nat.le_of_ble_eq_true rfl) d_Tide_book_39) (fun H locs hS => ?_)
      refine r_if_ne (tgt := 52) C h d_Tide_book_42 (by decide) (fun h => ?_) (fun h => ?_)
      · skip
        refine lv_aload_n hx hb d_Tide_book_52 rfl (lv_at hl 1 rfl) ?_
        refine lv_iload_n hx hb d_Tide_book_53 rfl (lv_at hl 3 rfl) ?_
        refine lv_iconst (v := -1) hx hb d_Tide_book_54 (by decide) ?_
        refine lv_aload_n hx hb d_Tide_book_55 rfl (lv_at hl 0 rfl) ?_
        refine r_getI C hS (kd_lt (kd_sheet hj3) (by decide)) (cel_Sheet (kd_sheet hj3)) (rfl : cls[0]? = some (R_Sheet, T_Sheet, 3)) in_Sheet 2 (by decide) tw_227 rfl h d_Tide_book_56 (fun v8 h => ?_)
        obtain ⟨X10, hr9, h⟩ := bd_el h
        refine c_V hS (c_runV (As := [.int p2, .int (-1 : Int32), .int v8]) (rest := []) C hS (by decide) cel_Tide (rfl : cls[5]? = some (R_Tide, T_Tide, 12)) (k_Tide_plotCourse (l := l) (E := E) (X := X) hr9) cw_Tide_plotCourse ini_Tide_plotCourse ins_Tide_plotCourse sel_Tide_plotCourse tw_744 hd_Tide_plotCourse rfl ⟨⟨rfl, rfl⟩, (Nat.le_of_ble_eq_true rfl), (Nat.le_of_ble_eq_true rfl)⟩ ⟨(Nat.le_of_ble_eq_true rfl), (Nat.le_of_ble_eq_true rfl)⟩ hl.1 rfl (Nat.le_of_ble_eq_true rfl) d_Tide_book_59) (fun H locs hS => ?_)
        refine lv_iconst (v := 0) hx hb d_Tide_book_62 (by decide) ?_
        refine lv_istore (lv' := [(4, .int (0 : Int32)), (3, .ref (ad E (52 + 2 * j3))), (0, .ref (ad E 0)), (1, .int p1), (2, .int p2)]) hx hb d_Tide_book_63 hl (by decide) rfl (fun ls hl => ?_)
        exact k_Tide_book_b65 C _ (kd_sheet hj3) FU _ _ _ _ _ h hS (lv_sub hl [2, 1, 0] rfl)
      · skip
        refine lv_aload_n hx hb d_Tide_book_45 rfl (lv_at hl 1 rfl) ?_
        refine lv_ldc (v := -1000000001) hx hb hown (hts _ tw_280) d_Tide_book_46 ?_
        obtain ⟨v11, X13, hr12, h⟩ := bd2_el h
        refine c_I hS (c_runV (As := [.int (-1000000001 : Int32)]) (rest := []) C hS (by decide) cel_Tide (rfl : cls[5]? = some (R_Tide, T_Tide, 12)) (k_Tide_finding (l := l) (E := E) (X := X) hr12) cw_Tide_finding ini_Tide_finding ins_Tide_finding sel_Tide_finding tw_281 hd_Tide_finding rfl ⟨⟨rfl, rfl⟩, (Nat.le_of_ble_eq_true rfl), (Nat.le_of_ble_eq_true rfl)⟩ ⟨(Nat.le_of_ble_eq_true rfl), (Nat.le_of_ble_eq_true rfl)⟩ hl.1 rfl (Nat.le_of_ble_eq_true rfl) d_Tide_book_48) (fun H locs hS => ?_)
        exact r_iret C hS rfl h d_Tide_book_51
    · skip
      refine lv_aload_n hx hb d_Tide_book_29 rfl (lv_at hl 1 rfl) ?_
      refine lv_ldcw (v := -1000000006) hx hb hown (hts _ tw_721) d_Tide_book_30 ?_
      obtain ⟨v14, X16, hr15, h⟩ := bd2_el h
      refine c_I hS (c_runV (As := [.int (-1000000006 : Int32)]) (rest := []) C hS (by decide) cel_Tide (rfl : cls[5]? = some (R_Tide, T_Tide, 12)) (k_Tide_finding (l := l) (E := E) (X := X) hr15) cw_Tide_finding ini_Tide_finding ins_Tide_finding sel_Tide_finding tw_281 hd_Tide_finding rfl ⟨⟨rfl, rfl⟩, (Nat.le_of_ble_eq_true rfl), (Nat.le_of_ble_eq_true rfl)⟩ ⟨(Nat.le_of_ble_eq_true rfl), (Nat.le_of_ble_eq_true rfl)⟩ hl.1 rfl (Nat.le_of_ble_eq_true rfl) d_Tide_book_33) (fun H locs hS => ?_)
      exact r_iret C hS rfl h d_Tide_book_36
  · skip
    refine lv_aload_n hx hb d_Tide_book_8 rfl (lv_at hl 0 rfl) ?_
    refine lv_ldc (v := -1000000001) hx hb hown (hts _ tw_280) d_Tide_book_9 ?_
    obtain ⟨v17, X19, hr18, h⟩ := bd2_el h
    refine c_I hS (c_runV (As := [.int (-1000000001 : Int32)]) (rest := []) C hS (by decide) cel_Tide (rfl : cls[5]? = some (R_Tide, T_Tide, 12)) (k_Tide_finding (l := l) (E := E) (X := X) hr18) cw_Tide_finding ini_Tide_finding ins_Tide_finding sel_Tide_finding tw_281 hd_Tide_finding rfl ⟨⟨rfl, rfl⟩, (Nat.le_of_ble_eq_true rfl), (Nat.le_of_ble_eq_true rfl)⟩ ⟨(Nat.le_of_ble_eq_true rfl), (Nat.le_of_ble_eq_true rfl)⟩ hl.1 rfl (Nat.le_of_ble_eq_true rfl) d_Tide_book_11) (fun H locs hS => ?_)
    exact r_iret C hS rfl h d_Tide_book_14
