set_option maxHeartbeats 4000000 in
set_option maxRecDepth 100000 in
theorem k_Sheet_isMissing {l : Launch} {E : En} {k0 : Nat} {X : Mem} {r : Int32} (hk0 : kd k0 = 4) (h : f_Sheet_isMissing k0 X = some r) : Met l y_Sheet_isMissing (Cond.code y_Sheet_isMissing c_Sheet_isMissing 1 (some .boolean) :: tb) ({ frames := 0, cells := 0, slots := 0, locals := 0 } : Room) (PreC E [.ref (ad E k0)] X) (PostI E r X) 0 0 (Ad E) := by
  refine met_of (by decide) (Nat.le_of_ble_eq_true rfl) (fun p e s m below meth c C hS ls hl => ?_)
  replace C : Cx p s m ([.ref (ad E k0)] : List Value).toArray meth c c_Sheet_isMissing 1 "TideLoans$Sheet" (some .boolean) E := C
  replace hl : lv_has ls 1 [(0, .ref (ad E k0))] := hl
  obtain ⟨hx, hb, hml, hown, hts, hrt, hlk, hKx⟩ := id C
  unfold f_Sheet_isMissing at h
  refine lv_aload_n hx hb d_Sheet_isMissing_0 rfl (lv_at hl 0 rfl) ?_
  refine r_getI C hS (kd_lt hk0 (by decide)) (cel_Sheet hk0) (rfl : cls[0]? = some (R_Sheet, T_Sheet, 3)) in_Sheet 1 (by decide) tw_224 rfl h d_Sheet_isMissing_1 (fun v1 h => ?_)
  refine r_if_ne (tgt := 11) C h d_Sheet_isMissing_4 (by decide) (fun h => ?_) (fun h => ?_)
  · skip
    refine lv_iconst (v := 0) hx hb d_Sheet_isMissing_11 (by decide) ?_
    exact r_zret0 C hS rfl (Or.inl rfl) h d_Sheet_isMissing_12
  · skip
    refine lv_iconst (v := 1) hx hb d_Sheet_isMissing_7 (by decide) ?_
    refine lv_goto (tgt := 12) hx hb d_Sheet_isMissing_8 (by decide) ?_
    exact r_zret0 C hS rfl (Or.inr rfl) h d_Sheet_isMissing_12
def I_Sheet_renew_b20 (p : Program) (l : Launch) (e : Env) (s : State) (m : MethodId) (args : Array Value) (below : List Frame) (meth : Method) (c : Code) (E : En) (Y : Mem) (x0 : Nat) (n : Nat) (tg : Mem) : Prop := ∀ (x3 : Int32) (X : Mem) (H : Heap) (locs : List Loc) (ls : Array Slot), it (fun a => f_Sheet_renew_b20 x0 a.1 a.2) n (x3, X) = some tg → Hs E s.heap X H locs → lv_has ls 4 [(0, .ref (ad E x0)), (3, .int x3)] → W p l e ({ frames := 0, cells := 0, slots := 0, locals := 0 } : Room) s m args below meth c H locs 0 0 (MQ below (PostV E Y) args s 0 0 (Ad E)) (F0 m 20 ls [])
set_option maxHeartbeats 4000000 in
set_option maxRecDepth 100000 in
theorem k_Sheet_renew_b20 {p : Program} {l : Launch} {e : Env} {s : State} {m : MethodId} {args : Array Value} {below : List Frame} {meth : Method} {c : Code} {E : En} {Y : Mem} (C : Cx p s m args meth c c_Sheet_renew 4 "TideLoans$Sheet" none E) (x0 : Nat) (hx0 : kd x0 = 4) : ∀ n, I_Sheet_renew_b20 p l e s m args below meth c E Y x0 n Y := by
  obtain ⟨hx, hb, hml, hown, hts, hrt, hlk, hKx⟩ := id C
  intro n
  induction n with
  | zero => intro x3 X H locs ls h; exact it_0 h
  | succ n ih =>
    intro x3 X H locs ls h hS hl
    obtain ⟨cc20, h, hc20⟩ := it_el h
    replace h : f_Sheet_renew_b20 x0 x3 X = some cc20 := h
    unfold f_Sheet_renew_b20 at h
    refine lv_iload_n hx hb d_Sheet_renew_20 rfl (lv_at hl 1 rfl) ?_
    refine lv_bipush (v := 40) hx hb d_Sheet_renew_21 (by decide) ?_
    refine r_icmp_ge (tgt := 39) C h d_Sheet_renew_23 (by decide) (fun h => ?_) (fun h => ?_)
    · skip
      replace h := lp_ret h hc20
      exact r_vret C hS rfl h d_Sheet_renew_39
    · skip
      refine lv_aload_n hx hb d_Sheet_renew_26 rfl (lv_at hl 0 rfl) ?_
      refine r_get C hS (kd_lt hx0 (by decide)) (cel_Sheet hx0) (rfl : cls[0]? = some (R_Sheet, T_Sheet, 3)) in_Sheet 0 (by decide) tw_222 rfl d_Sheet_renew_27 ?_
      refine lv_iload_n hx hb d_Sheet_renew_30 rfl (lv_at hl 1 rfl) ?_
      refine lv_lconst (v := 0) hx hb d_Sheet_renew_31 (by decide) ?_
      refine r_stL C hS (n := 40) (kd_numbers hx0) (by decide) h d_Sheet_renew_32 (fun X1 H locs hS h => ?_)
      refine r_iinc C (w := 1) (lv' := fun z => [(3, .int z), (0, .ref (ad E x0))]) h d_Sheet_renew_33 hl (k := 1) rfl (by decide) (by decide) (fun _ => rfl) (fun v2 ls h hl => ?_)
      refine lv_goto (tgt := 20) hx hb d_Sheet_renew_36 (by decide) ?_
      exact ih _ _ _ _ _ (lp_next h hc20) hS (lv_sub hl [1, 0] rfl)
set_option maxHeartbeats 4000000 in
set_option maxRecDepth 100000 in
theorem k_Sheet_renew_j15 {p : Program} {l : Launch} {e : Env} {s : State} {m : MethodId} {args : Array Value} {below : List Frame} {meth : Method} {c : Code} {E : En} {Y : Mem} (C : Cx p s m args meth c c_Sheet_renew 4 "TideLoans$Sheet" none E) {x0 : Nat} {q0 : Nat} {q1 : Int32} {X : Mem} (hx0 : kd x0 = 4) (hq0 : kd q0 = 4) (h : f_Sheet_renew_j15 x0 q0 q1 X = some Y) {H : Heap} {locs : List Loc} (hS : Hs E s.heap X H locs) {ls : Array Slot} (hl : lv_has ls 4 [(0, .ref (ad E x0))]) : W p l e ({ frames := 0, cells := 0, slots := 0, locals := 0 } : Room) s m args below meth c H locs 0 0 (MQ below (PostV E Y) args s 0 0 (Ad E)) (F0 m 15 ls [.int q1, .ref (ad E q0)]) := by
  obtain ⟨hx, hb, hml, hown, hts, hrt, hlk, hKx⟩ := id C
  unfold f_Sheet_renew_j15 at h
  refine r_putI C hS (kd_lt hq0 (by decide)) (cel_Sheet hq0) (rfl : cls[0]? = some (R_Sheet, T_Sheet, 3)) in_Sheet ty_Sheet tyok_Sheet nm_Sheet 2 (by decide) tw_226 rfl rfl rfl (Nat.le_of_ble_eq_true rfl) (set_Sheet_2 hq0) rfl h d_Sheet_renew_15 (fun X1 H locs hS h => ?_)
  refine lv_iconst (v := 0) hx hb d_Sheet_renew_18 (by decide) ?_
  refine lv_istore_n (lv' := [(3, .int (0 : Int32)), (0, .ref (ad E x0))]) hx hb d_Sheet_renew_19 rfl hl (by decide) rfl (fun ls hl => ?_)
  exact k_Sheet_renew_b20 C _ hx0 FU _ _ _ _ _ h hS (lv_sub hl [1, 0] rfl)
set_option maxHeartbeats 4000000 in
set_option maxRecDepth 100000 in
theorem k_Sheet_renew {l : Launch} {E : En} {k0 : Nat} {p1 : Int32} {p2 : Int32} {X : Mem} {Y : Mem} (hk0 : kd k0 = 4) (h : f_Sheet_renew k0 p1 p2 X = some Y) : Met l y_Sheet_renew (Cond.code y_Sheet_renew c_Sheet_renew 4 none :: tb) ({ frames := 0, cells := 0, slots := 0, locals := 0 } : Room) (PreC E [.ref (ad E k0), .int p1, .int p2] X) (PostV E Y) 0 0 (Ad E) := by
  refine met_of (by decide) (Nat.le_of_ble_eq_true rfl) (fun p e s m below meth c C hS ls hl => ?_)
  replace C : Cx p s m ([.ref (ad E k0), .int p1, .int p2] : List Value).toArray meth c c_Sheet_renew 4 "TideLoans$Sheet" none E := C
  replace hl : lv_has ls 4 [(0, .ref (ad E k0)), (1, .int p1), (2, .int p2)] := hl
  obtain ⟨hx, hb, hml, hown, hts, hrt, hlk, hKx⟩ := id C
  unfold f_Sheet_renew at h
  refine lv_aload_n hx hb d_Sheet_renew_0 rfl (lv_at hl 0 rfl) ?_
  refine lv_iload_n hx hb d_Sheet_renew_1 rfl (lv_at hl 1 rfl) ?_
  refine r_putI C hS (kd_lt hk0 (by decide)) (cel_Sheet hk0) (rfl : cls[0]? = some (R_Sheet, T_Sheet, 3)) in_Sheet ty_Sheet tyok_Sheet nm_Sheet 1 (by decide) tw_224 rfl rfl rfl (Nat.le_of_ble_eq_true rfl) (set_Sheet_1 hk0) rfl h d_Sheet_renew_2 (fun X1 H locs hS h => ?_)
  refine lv_aload_n hx hb d_Sheet_renew_5 rfl (lv_at hl 0 rfl) ?_
  refine lv_iload_n hx hb d_Sheet_renew_6 rfl (lv_at hl 1 rfl) ?_
  refine r_if_ne (tgt := 14) C h d_Sheet_renew_7 (by decide) (fun h => ?_) (fun h => ?_)
  · skip
    refine lv_iload_n hx hb d_Sheet_renew_14 rfl (lv_at hl 2 rfl) ?_
    exact k_Sheet_renew_j15 C hk0 hk0 h hS (lv_sub hl [0] rfl)
  · skip
    refine lv_iconst (v := 0) hx hb d_Sheet_renew_10 (by decide) ?_
    refine lv_goto (tgt := 15) hx hb d_Sheet_renew_11 (by decide) ?_
    exact k_Sheet_renew_j15 C hk0 hk0 h hS (lv_sub hl [0] rfl)
set_option maxHeartbeats 4000000 in
set_option maxRecDepth 100000 in
theorem k_Sheet_put {l : Launch} {E : En} {k0 : Nat} {p1 : Int32} {p2 : Int64} {X : Mem} {Y : Mem} (hk0 : kd k0 = 4) (h : f_Sheet_put k0 p1 p2 X = some Y) : Met l y_Sheet_put (Cond.code y_Sheet_put c_Sheet_put 4 none :: tb) ({ frames := 0, cells := 0, slots := 0, locals := 0 } : Room) (PreC E [.ref (ad E k0), .int p1, .long p2] X) (PostV E Y) 0 0 (Ad E) := by
  refine met_of (by decide) (Nat.le_of_ble_eq_true rfl) (fun p e s m below meth c C hS ls hl => ?_)
  replace C : Cx p s m ([.ref (ad E k0), .int p1, .long p2] : List Value).toArray meth c c_Sheet_put 4 "TideLoans$Sheet" none E := C
  replace hl : lv_has ls 4 [(0, .ref (ad E k0)), (1, .int p1), (2, .long p2)] := hl
  obtain ⟨hx, hb, hml, hown, hts, hrt, hlk, hKx⟩ := id C
  unfold f_Sheet_put at h
  refine lv_aload_n hx hb d_Sheet_put_0 rfl (lv_at hl 0 rfl) ?_
  refine r_getI C hS (kd_lt hk0 (by decide)) (cel_Sheet hk0) (rfl : cls[0]? = some (R_Sheet, T_Sheet, 3)) in_Sheet 1 (by decide) tw_224 rfl h d_Sheet_put_1 (fun v1 h => ?_)
  refine lv_bipush (v := 8) hx hb d_Sheet_put_4 (by decide) ?_
  refine r_icmp_ne (tgt := 22) C h d_Sheet_put_6 (by decide) (fun h => ?_) (fun h => ?_)
  · skip
    refine lv_aload_n hx hb d_Sheet_put_22 rfl (lv_at hl 0 rfl) ?_
    refine r_getI C hS (kd_lt hk0 (by decide)) (cel_Sheet hk0) (rfl : cls[0]? = some (R_Sheet, T_Sheet, 3)) in_Sheet 1 (by decide) tw_224 rfl h d_Sheet_put_23 (fun v2 h => ?_)
    refine lv_bipush (v := 16) hx hb d_Sheet_put_26 (by decide) ?_
    refine r_icmp_ne (tgt := 44) C h d_Sheet_put_28 (by decide) (fun h => ?_) (fun h => ?_)
    · skip
      refine lv_aload_n hx hb d_Sheet_put_44 rfl (lv_at hl 0 rfl) ?_
      refine r_get C hS (kd_lt hk0 (by decide)) (cel_Sheet hk0) (rfl : cls[0]? = some (R_Sheet, T_Sheet, 3)) in_Sheet 0 (by decide) tw_222 rfl d_Sheet_put_45 ?_
      refine lv_iload_n hx hb d_Sheet_put_48 rfl (lv_at hl 1 rfl) ?_
      refine lv_lload_n hx hb d_Sheet_put_49 rfl (lv_at hl 2 rfl) ?_
      refine r_stL C hS (n := 40) (kd_numbers hk0) (by decide) h d_Sheet_put_50 (fun X3 H locs hS h => ?_)
      exact r_vret C hS rfl h d_Sheet_put_51
    · skip
      refine lv_aload_n hx hb d_Sheet_put_31 rfl (lv_at hl 0 rfl) ?_
      refine r_get C hS (kd_lt hk0 (by decide)) (cel_Sheet hk0) (rfl : cls[0]? = some (R_Sheet, T_Sheet, 3)) in_Sheet 0 (by decide) tw_222 rfl d_Sheet_put_32 ?_
      refine lv_iload_n hx hb d_Sheet_put_35 rfl (lv_at hl 1 rfl) ?_
      refine lv_lload_n hx hb d_Sheet_put_36 rfl (lv_at hl 2 rfl) ?_
      refine lv_l2i hx hb d_Sheet_put_37 rfl ?_
      refine lv_i2s hx hb d_Sheet_put_38 rfl ?_
      refine lv_i2l hx hb d_Sheet_put_39 rfl ?_
      refine r_stL C hS (n := 40) (kd_numbers hk0) (by decide) h d_Sheet_put_40 (fun X4 H locs hS h => ?_)
      refine lv_goto (tgt := 51) hx hb d_Sheet_put_41 (by decide) ?_
      exact r_vret C hS rfl h d_Sheet_put_51
  · skip
    refine lv_aload_n hx hb d_Sheet_put_9 rfl (lv_at hl 0 rfl) ?_
    refine r_get C hS (kd_lt hk0 (by decide)) (cel_Sheet hk0) (rfl : cls[0]? = some (R_Sheet, T_Sheet, 3)) in_Sheet 0 (by decide) tw_222 rfl d_Sheet_put_10 ?_
    refine lv_iload_n hx hb d_Sheet_put_13 rfl (lv_at hl 1 rfl) ?_
    refine lv_lload_n hx hb d_Sheet_put_14 rfl (lv_at hl 2 rfl) ?_
    refine lv_l2i hx hb d_Sheet_put_15 rfl ?_
    refine lv_i2b hx hb d_Sheet_put_16 rfl ?_
    refine lv_i2l hx hb d_Sheet_put_17 rfl ?_
    refine r_stL C hS (n := 40) (kd_numbers hk0) (by decide) h d_Sheet_put_18 (fun X5 H locs hS h => ?_)
    refine lv_goto (tgt := 51) hx hb d_Sheet_put_19 (by decide) ?_
    exact r_vret C hS rfl h d_Sheet_put_51
set_option maxHeartbeats 4000000 in
set_option maxRecDepth 100000 in
theorem k_Sheet_hasRun {l : Launch} {E : En} {k0 : Nat} {p1 : Int32} {p2 : Int32} {X : Mem} {r : Int32} (hk0 : kd k0 = 4) (h : f_Sheet_hasRun k0 p1 p2 X = some r) : Met l y_Sheet_hasRun (Cond.code y_Sheet_hasRun c_Sheet_hasRun 3 (some .boolean) :: tb) ({ frames := 0, cells := 0, slots := 0, locals := 0 } : Room) (PreC E [.ref (ad E k0), .int p1, .int p2] X) (PostI E r X) 0 0 (Ad E) := by
  refine met_of (by decide) (Nat.le_of_ble_eq_true rfl) (fun p e s m below meth c C hS ls hl => ?_)
  replace C : Cx p s m ([.ref (ad E k0), .int p1, .int p2] : List Value).toArray meth c c_Sheet_hasRun 3 "TideLoans$Sheet" (some .boolean) E := C
  replace hl : lv_has ls 3 [(0, .ref (ad E k0)), (1, .int p1), (2, .int p2)] := hl
  obtain ⟨hx, hb, hml, hown, hts, hrt, hlk, hKx⟩ := id C
  unfold f_Sheet_hasRun at h
  refine lv_iload_n hx hb d_Sheet_hasRun_0 rfl (lv_at hl 1 rfl) ?_
  refine r_if_lt (tgt := 30) C h d_Sheet_hasRun_1 (by decide) (fun h => ?_) (fun h => ?_)
  · skip
    refine lv_iconst (v := 0) hx hb d_Sheet_hasRun_30 (by decide) ?_
    exact r_zret0 C hS rfl (Or.inl rfl) h d_Sheet_hasRun_31
  · skip
    refine lv_iload_n hx hb d_Sheet_hasRun_4 rfl (lv_at hl 2 rfl) ?_
    refine r_if_lt (tgt := 30) C h d_Sheet_hasRun_5 (by decide) (fun h => ?_) (fun h => ?_)
    · skip
      refine lv_iconst (v := 0) hx hb d_Sheet_hasRun_30 (by decide) ?_
      exact r_zret0 C hS rfl (Or.inl rfl) h d_Sheet_hasRun_31
    · skip
      refine lv_iload_n hx hb d_Sheet_hasRun_8 rfl (lv_at hl 1 rfl) ?_
      refine lv_aload_n hx hb d_Sheet_hasRun_9 rfl (lv_at hl 0 rfl) ?_
      refine r_getI C hS (kd_lt hk0 (by decide)) (cel_Sheet hk0) (rfl : cls[0]? = some (R_Sheet, T_Sheet, 3)) in_Sheet 2 (by decide) tw_226 rfl h d_Sheet_hasRun_10 (fun v1 h => ?_)
      refine r_icmp_gt (tgt := 30) C h d_Sheet_hasRun_13 (by decide) (fun h => ?_) (fun h => ?_)
      · skip
        refine lv_iconst (v := 0) hx hb d_Sheet_hasRun_30 (by decide) ?_
        exact r_zret0 C hS rfl (Or.inl rfl) h d_Sheet_hasRun_31
      · skip
        refine lv_iload_n hx hb d_Sheet_hasRun_16 rfl (lv_at hl 2 rfl) ?_
        refine lv_aload_n hx hb d_Sheet_hasRun_17 rfl (lv_at hl 0 rfl) ?_
        refine r_getI C hS (kd_lt hk0 (by decide)) (cel_Sheet hk0) (rfl : cls[0]? = some (R_Sheet, T_Sheet, 3)) in_Sheet 2 (by decide) tw_226 rfl h d_Sheet_hasRun_18 (fun v2 h => ?_)
        refine lv_iload_n hx hb d_Sheet_hasRun_21 rfl (lv_at hl 1 rfl) ?_
        refine lv_isub hx hb d_Sheet_hasRun_22 ?_
        refine r_icmp_gt (tgt := 30) C h d_Sheet_hasRun_23 (by decide) (fun h => ?_) (fun h => ?_)
        · skip
          refine lv_iconst (v := 0) hx hb d_Sheet_hasRun_30 (by decide) ?_
          exact r_zret0 C hS rfl (Or.inl rfl) h d_Sheet_hasRun_31
        · skip
          refine lv_iconst (v := 1) hx hb d_Sheet_hasRun_26 (by decide) ?_
          refine lv_goto (tgt := 31) hx hb d_Sheet_hasRun_27 (by decide) ?_
          exact r_zret0 C hS rfl (Or.inr rfl) h d_Sheet_hasRun_31
set_option maxHeartbeats 4000000 in
set_option maxRecDepth 100000 in
theorem k_Thing_become {l : Launch} {E : En} {k0 : Nat} {k1 : Nat} {X : Mem} {Y : Mem} (hk0 : kd k0 = 2) (hk1 : kd k1 = 2) (h : f_Thing_become k0 k1 X = some Y) : Met l y_Thing_become (Cond.code y_Thing_become c_Thing_become 2 none :: tb) ({ frames := 0, cells := 0, slots := 0, locals := 0 } : Room) (PreC E [.ref (ad E k0), .ref (ad E k1)] X) (PostV E Y) 0 0 (Ad E) := by
  refine met_of (by decide) (Nat.le_of_ble_eq_true rfl) (fun p e s m below meth c C hS ls hl => ?_)
  replace C : Cx p s m ([.ref (ad E k0), .ref (ad E k1)] : List Value).toArray meth c c_Thing_become 2 "TideLoans$Thing" none E := C
  replace hl : lv_has ls 2 [(0, .ref (ad E k0)), (1, .ref (ad E k1))] := hl
  obtain ⟨hx, hb, hml, hown, hts, hrt, hlk, hKx⟩ := id C
  unfold f_Thing_become at h
  refine lv_aload_n hx hb d_Thing_become_0 rfl (lv_at hl 0 rfl) ?_
  refine lv_aload_n hx hb d_Thing_become_1 rfl (lv_at hl 1 rfl) ?_
  refine r_getI C hS (kd_lt hk1 (by decide)) (cel_Thing hk1) (rfl : cls[3]? = some (R_Thing, T_Thing, 6)) in_Thing 0 (by decide) tw_99 rfl h d_Thing_become_2 (fun v1 h => ?_)
  refine r_putI C hS (kd_lt hk0 (by decide)) (cel_Thing hk0) (rfl : cls[3]? = some (R_Thing, T_Thing, 6)) in_Thing ty_Thing tyok_Thing nm_Thing 0 (by decide) tw_99 rfl rfl rfl (Nat.le_of_ble_eq_true rfl) (set_Thing_0 hk0) rfl h d_Thing_become_5 (fun X2 H locs hS h => ?_)
  refine lv_aload_n hx hb d_Thing_become_8 rfl (lv_at hl 0 rfl) ?_
  refine lv_aload_n hx hb d_Thing_become_9 rfl (lv_at hl 1 rfl) ?_
  refine r_getI C hS (kd_lt hk1 (by decide)) (cel_Thing hk1) (rfl : cls[3]? = some (R_Thing, T_Thing, 6)) in_Thing 1 (by decide) tw_102 rfl h d_Thing_become_10 (fun v3 h => ?_)
  refine r_putI C hS (kd_lt hk0 (by decide)) (cel_Thing hk0) (rfl : cls[3]? = some (R_Thing, T_Thing, 6)) in_Thing ty_Thing tyok_Thing nm_Thing 1 (by decide) tw_102 rfl rfl rfl (Nat.le_of_ble_eq_true rfl) (set_Thing_1 hk0) rfl h d_Thing_become_13 (fun X4 H locs hS h => ?_)
  refine lv_aload_n hx hb d_Thing_become_16 rfl (lv_at hl 0 rfl) ?_
  refine lv_aload_n hx hb d_Thing_become_17 rfl (lv_at hl 1 rfl) ?_
  refine r_getI C hS (kd_lt hk1 (by decide)) (cel_Thing hk1) (rfl : cls[3]? = some (R_Thing, T_Thing, 6)) in_Thing 2 (by decide) tw_104 rfl h d_Thing_become_18 (fun v5 h => ?_)
  refine r_putI C hS (kd_lt hk0 (by decide)) (cel_Thing hk0) (rfl : cls[3]? = some (R_Thing, T_Thing, 6)) in_Thing ty_Thing tyok_Thing nm_Thing 2 (by decide) tw_104 rfl rfl rfl (Nat.le_of_ble_eq_true rfl) (set_Thing_2 hk0) rfl h d_Thing_become_21 (fun X6 H locs hS h => ?_)
  refine lv_aload_n hx hb d_Thing_become_24 rfl (lv_at hl 0 rfl) ?_
  refine lv_aload_n hx hb d_Thing_become_25 rfl (lv_at hl 1 rfl) ?_
  refine r_getI C hS (kd_lt hk1 (by decide)) (cel_Thing hk1) (rfl : cls[3]? = some (R_Thing, T_Thing, 6)) in_Thing 3 (by decide) tw_107 rfl h d_Thing_become_26 (fun v7 h => ?_)
  refine r_putI C hS (kd_lt hk0 (by decide)) (cel_Thing hk0) (rfl : cls[3]? = some (R_Thing, T_Thing, 6)) in_Thing ty_Thing tyok_Thing nm_Thing 3 (by decide) tw_107 rfl rfl rfl (Nat.le_of_ble_eq_true rfl) (set_Thing_3 hk0) rfl h d_Thing_become_29 (fun X8 H locs hS h => ?_)
  refine lv_aload_n hx hb d_Thing_become_32 rfl (lv_at hl 0 rfl) ?_
  refine lv_aload_n hx hb d_Thing_become_33 rfl (lv_at hl 1 rfl) ?_
  refine r_getI C hS (kd_lt hk1 (by decide)) (cel_Thing hk1) (rfl : cls[3]? = some (R_Thing, T_Thing, 6)) in_Thing 4 (by decide) tw_111 rfl h d_Thing_become_34 (fun v9 h => ?_)
  refine r_putI C hS (kd_lt hk0 (by decide)) (cel_Thing hk0) (rfl : cls[3]? = some (R_Thing, T_Thing, 6)) in_Thing ty_Thing tyok_Thing nm_Thing 4 (by decide) tw_111 rfl rfl rfl (Nat.le_of_ble_eq_true rfl) (set_Thing_4 hk0) rfl h d_Thing_become_37 (fun X10 H locs hS h => ?_)
  refine lv_aload_n hx hb d_Thing_become_40 rfl (lv_at hl 0 rfl) ?_
  refine lv_aload_n hx hb d_Thing_become_41 rfl (lv_at hl 1 rfl) ?_
  refine r_getI C hS (kd_lt hk1 (by decide)) (cel_Thing hk1) (rfl : cls[3]? = some (R_Thing, T_Thing, 6)) in_Thing 5 (by decide) tw_115 rfl h d_Thing_become_42 (fun v11 h => ?_)
  refine r_putI C hS (kd_lt hk0 (by decide)) (cel_Thing hk0) (rfl : cls[3]? = some (R_Thing, T_Thing, 6)) in_Thing ty_Thing tyok_Thing nm_Thing 5 (by decide) tw_115 rfl rfl rfl (Nat.le_of_ble_eq_true rfl) (set_Thing_5 hk0) rfl h d_Thing_become_45 (fun X12 H locs hS h => ?_)
  exact r_vret C hS rfl h d_Thing_become_48
def I_Shore_become_b55 (p : Program) (l : Launch) (e : Env) (s : State) (m : MethodId) (args : Array Value) (below : List Frame) (meth : Method) (c : Code) (E : En) (Y : Mem) (x0 : Nat) (x1 : Nat) (n : Nat) (tg : Mem) : Prop := ∀ (x2 : Int32) (X : Mem) (H : Heap) (locs : List Loc) (ls : Array Slot), it (fun a => f_Shore_become_b55 x0 x1 a.1 a.2) n (x2, X) = some tg → Hs E s.heap X H locs → lv_has ls 3 [(0, .ref (ad E x0)), (1, .ref (ad E x1)), (2, .int x2)] → W p l e ({ frames := 1, cells := 0, slots := 0, locals := 60 } : Room) s m args below meth c H locs 0 0 (MQ below (PostV E Y) args s 0 0 (Ad E)) (F0 m 55 ls [])
set_option maxHeartbeats 4000000 in
set_option maxRecDepth 100000 in
theorem k_Shore_become_b55 {p : Program} {l : Launch} {e : Env} {s : State} {m : MethodId} {args : Array Value} {below : List Frame} {meth : Method} {c : Code} {E : En} {Y : Mem} (C : Cx p s m args meth c c_Shore_become 3 "TideLoans$Shore" none E) (x0 : Nat) (x1 : Nat) (hx0 : kd x0 = 1) (hx1 : kd x1 = 1) : ∀ n, I_Shore_become_b55 p l e s m args below meth c E Y x0 x1 n Y := by
  obtain ⟨hx, hb, hml, hown, hts, hrt, hlk, hKx⟩ := id C
  intro n
  induction n with
  | zero => intro x2 X H locs ls h; exact it_0 h
  | succ n ih =>
    intro x2 X H locs ls h hS hl
    obtain ⟨cc55, h, hc55⟩ := it_el h
    replace h : f_Shore_become_b55 x0 x1 x2 X = some cc55 := h
    unfold f_Shore_become_b55 at h
    refine lv_iload_n hx hb d_Shore_become_55 rfl (lv_at hl 2 rfl) ?_
    refine lv_aload_n hx hb d_Shore_become_56 rfl (lv_at hl 0 rfl) ?_
    refine r_getI C hS (kd_lt hx0 (by decide)) (cel_Shore hx0) (rfl : cls[1]? = some (R_Shore, T_Shore, 6)) in_Shore 3 (by decide) tw_137 rfl h d_Shore_become_57 (fun v1 h => ?_)
    refine r_icmp_ge (tgt := 84) C h d_Shore_become_60 (by decide) (fun h => ?_) (fun h => ?_)
    · skip
      replace h := lp_ret h hc55
      exact r_vret C hS rfl h d_Shore_become_84
    · skip
      refine lv_aload_n hx hb d_Shore_become_63 rfl (lv_at hl 0 rfl) ?_
      refine r_get C hS (kd_lt hx0 (by decide)) (cel_Shore hx0) (rfl : cls[1]? = some (R_Shore, T_Shore, 6)) in_Shore 2 (by decide) tw_135 rfl d_Shore_become_64 ?_
      refine lv_iload_n hx hb d_Shore_become_67 rfl (lv_at hl 2 rfl) ?_
      refine r_ldT C hS (kd_things hx0) h d_Shore_become_68 (fun j2 hj2 h => ?_)
      refine lv_aload_n hx hb d_Shore_become_69 rfl (lv_at hl 1 rfl) ?_
      refine r_get C hS (kd_lt hx1 (by decide)) (cel_Shore hx1) (rfl : cls[1]? = some (R_Shore, T_Shore, 6)) in_Shore 2 (by decide) tw_135 rfl d_Shore_become_70 ?_
      refine lv_iload_n hx hb d_Shore_become_73 rfl (lv_at hl 2 rfl) ?_
      refine r_ldT C hS (kd_things hx1) h d_Shore_become_74 (fun j3 hj3 h => ?_)
      obtain ⟨X5, hr4, h⟩ := bd_el h
      refine c_V hS (c_runV (As := [.ref (ad E ((x1 + 3) + 1 + j3))]) (rest := []) C hS (kd_lt (kd_thing (kd_things hx0) hj2) (by decide)) (cel_Thing (kd_thing (kd_things hx0) hj2)) (rfl : cls[3]? = some (R_Thing, T_Thing, 6)) (k_Thing_become (l := l) (E := E) (X := X) (kd_thing (kd_things hx0) hj2) (kd_thing (kd_things hx1) hj3) hr4) cw_Thing_become ini_Thing_become ins_Thing_become sel_Thing_become tw_584 hd_Thing_become rfl ⟨⟨rfl, rfl⟩, (Nat.le_of_ble_eq_true rfl), (Nat.le_of_ble_eq_true rfl)⟩ ⟨(Nat.le_of_ble_eq_true rfl), (Nat.le_of_ble_eq_true rfl)⟩ hl.1 rfl (Nat.le_of_ble_eq_true rfl) d_Shore_become_75) (fun H locs hS => ?_)
      refine r_iinc C (w := 1) (lv' := fun z => [(2, .int z), (0, .ref (ad E x0)), (1, .ref (ad E x1))]) h d_Shore_become_78 hl (k := 2) rfl (by decide) (by decide) (fun _ => rfl) (fun v6 ls h hl => ?_)
      refine lv_goto (tgt := 55) hx hb d_Shore_become_81 (by decide) ?_
      exact ih _ _ _ _ _ (lp_next h hc55) hS (lv_sub hl [1, 2, 0] rfl)
set_option maxHeartbeats 4000000 in
set_option maxRecDepth 100000 in
theorem k_Shore_become {l : Launch} {E : En} {k0 : Nat} {k1 : Nat} {X : Mem} {Y : Mem} (hk0 : kd k0 = 1) (hk1 : kd k1 = 1) (h : f_Shore_become k0 k1 X = some Y) : Met l y_Shore_become (Cond.code y_Shore_become c_Shore_become 3 none :: tb) ({ frames := 1, cells := 0, slots := 0, locals := 60 } : Room) (PreC E [.ref (ad E k0), .ref (ad E k1)] X) (PostV E Y) 0 0 (Ad E) := by
  refine met_of (by decide) (Nat.le_of_ble_eq_true rfl) (fun p e s m below meth c C hS ls hl => ?_)
  replace C : Cx p s m ([.ref (ad E k0), .ref (ad E k1)] : List Value).toArray meth c c_Shore_become 3 "TideLoans$Shore" none E := C
  replace hl : lv_has ls 3 [(0, .ref (ad E k0)), (1, .ref (ad E k1))] := hl
  obtain ⟨hx, hb, hml, hown, hts, hrt, hlk, hKx⟩ := id C
  unfold f_Shore_become at h
  refine lv_aload_n hx hb d_Shore_become_0 rfl (lv_at hl 1 rfl) ?_
  refine r_get C hS (kd_lt hk1 (by decide)) (cel_Shore hk1) (rfl : cls[1]? = some (R_Shore, T_Shore, 6)) in_Shore 0 (by decide) tw_131 rfl d_Shore_become_1 ?_
  refine lv_iconst (v := 0) hx hb d_Shore_become_4 (by decide) ?_
  refine lv_aload_n hx hb d_Shore_become_5 rfl (lv_at hl 0 rfl) ?_
  refine r_get C hS (kd_lt hk0 (by decide)) (cel_Shore hk0) (rfl : cls[1]? = some (R_Shore, T_Shore, 6)) in_Shore 0 (by decide) tw_131 rfl d_Shore_become_6 ?_
  refine lv_iconst (v := 0) hx hb d_Shore_become_9 (by decide) ?_
  refine lv_bipush (v := 16) hx hb d_Shore_become_10 (by decide) ?_
  refine r_acI C hS hl.1 (n0 := 16) (n1 := 16) (kd_heights hk1) (by decide) (kd_heights hk0) (by decide) h tw_581 tw_583 tw_582 tw_73 (Nat.le_of_ble_eq_true rfl) (Nat.le_of_ble_eq_true rfl) d_Shore_become_12 (fun X1 H locs hS h => ?_)
  refine lv_aload_n hx hb d_Shore_become_15 rfl (lv_at hl 1 rfl) ?_
  refine r_get C hS (kd_lt hk1 (by decide)) (cel_Shore hk1) (rfl : cls[1]? = some (R_Shore, T_Shore, 6)) in_Shore 1 (by decide) tw_133 rfl d_Shore_become_16 ?_
  refine lv_iconst (v := 0) hx hb d_Shore_become_19 (by decide) ?_
  refine lv_aload_n hx hb d_Shore_become_20 rfl (lv_at hl 0 rfl) ?_
  refine r_get C hS (kd_lt hk0 (by decide)) (cel_Shore hk0) (rfl : cls[1]? = some (R_Shore, T_Shore, 6)) in_Shore 1 (by decide) tw_133 rfl d_Shore_become_21 ?_
  refine lv_iconst (v := 0) hx hb d_Shore_become_24 (by decide) ?_
  refine lv_iconst (v := 4) hx hb d_Shore_become_25 (by decide) ?_
  refine r_acI C hS hl.1 (n0 := 4) (n1 := 4) (kd_purses hk1) (by decide) (kd_purses hk0) (by decide) h tw_581 tw_583 tw_582 tw_73 (Nat.le_of_ble_eq_true rfl) (Nat.le_of_ble_eq_true rfl) d_Shore_become_26 (fun X2 H locs hS h => ?_)
  refine lv_aload_n hx hb d_Shore_become_29 rfl (lv_at hl 0 rfl) ?_
  refine lv_aload_n hx hb d_Shore_become_30 rfl (lv_at hl 1 rfl) ?_
  refine r_getI C hS (kd_lt hk1 (by decide)) (cel_Shore hk1) (rfl : cls[1]? = some (R_Shore, T_Shore, 6)) in_Shore 3 (by decide) tw_137 rfl h d_Shore_become_31 (fun v3 h => ?_)
  refine r_putI C hS (kd_lt hk0 (by decide)) (cel_Shore hk0) (rfl : cls[1]? = some (R_Shore, T_Shore, 6)) in_Shore ty_Shore tyok_Shore nm_Shore 3 (by decide) tw_137 rfl rfl rfl (Nat.le_of_ble_eq_true rfl) (set_Shore_3 hk0) rfl h d_Shore_become_34 (fun X4 H locs hS h => ?_)
  refine lv_aload_n hx hb d_Shore_become_37 rfl (lv_at hl 0 rfl) ?_
  refine lv_aload_n hx hb d_Shore_become_38 rfl (lv_at hl 1 rfl) ?_
  refine r_getI C hS (kd_lt hk1 (by decide)) (cel_Shore hk1) (rfl : cls[1]? = some (R_Shore, T_Shore, 6)) in_Shore 4 (by decide) tw_139 rfl h d_Shore_become_39 (fun v5 h => ?_)
  refine r_putI C hS (kd_lt hk0 (by decide)) (cel_Shore hk0) (rfl : cls[1]? = some (R_Shore, T_Shore, 6)) in_Shore ty_Shore tyok_Shore nm_Shore 4 (by decide) tw_139 rfl rfl rfl (Nat.le_of_ble_eq_true rfl) (set_Shore_4 hk0) rfl h d_Shore_become_42 (fun X6 H locs hS h => ?_)
  refine lv_aload_n hx hb d_Shore_become_45 rfl (lv_at hl 0 rfl) ?_
  refine lv_aload_n hx hb d_Shore_become_46 rfl (lv_at hl 1 rfl) ?_
  refine r_getI C hS (kd_lt hk1 (by decide)) (cel_Shore hk1) (rfl : cls[1]? = some (R_Shore, T_Shore, 6)) in_Shore 5 (by decide) tw_141 rfl h d_Shore_become_47 (fun v7 h => ?_)
  refine r_putI C hS (kd_lt hk0 (by decide)) (cel_Shore hk0) (rfl : cls[1]? = some (R_Shore, T_Shore, 6)) in_Shore ty_Shore tyok_Shore nm_Shore 5 (by decide) tw_141 rfl rfl rfl (Nat.le_of_ble_eq_true rfl) (set_Shore_5 hk0) rfl h d_Shore_become_50 (fun X8 H locs hS h => ?_)
  refine lv_iconst (v := 0) hx hb d_Shore_become_53 (by decide) ?_
  refine lv_istore_n (lv' := [(2, .int (0 : Int32)), (0, .ref (ad E k0)), (1, .ref (ad E k1))]) hx hb d_Shore_become_54 rfl hl (by decide) rfl (fun ls hl => ?_)
  exact k_Shore_become_b55 C _ _ hk0 hk1 FU _ _ _ _ _ h hS (lv_sub hl [1, 2, 0] rfl)
set_option maxHeartbeats 4000000 in
set_option maxRecDepth 100000 in
theorem k_Tide_isBelow {l : Launch} {E : En} {p0 : Int32} {p1 : Int32} {X : Mem} {r : Int32} (h : f_Tide_isBelow p0 p1 = some r) : Met l y_Tide_isBelow (Cond.code y_Tide_isBelow c_Tide_isBelow 2 (some .boolean) :: tb) ({ frames := 0, cells := 0, slots := 0, locals := 0 } : Room) (PreC E [.int p0, .int p1] X) (PostI E r X) 0 0 (Ad E) := by
  refine met_of (by decide) (Nat.le_of_ble_eq_true rfl) (fun p e s m below meth c C hS ls hl => ?_)
  replace C : Cx p s m ([.int p0, .int p1] : List Value).toArray meth c c_Tide_isBelow 2 "TideLoans" (some .boolean) E := C
  replace hl : lv_has ls 2 [(0, .int p0), (1, .int p1)] := hl
  obtain ⟨hx, hb, hml, hown, hts, hrt, hlk, hKx⟩ := id C
  unfold f_Tide_isBelow at h
  refine lv_iload_n hx hb d_Tide_isBelow_0 rfl (lv_at hl 0 rfl) ?_
  refine r_if_lt (tgt := 13) C h d_Tide_isBelow_1 (by decide) (fun h => ?_) (fun h => ?_)
  · skip
    refine lv_iconst (v := 0) hx hb d_Tide_isBelow_13 (by decide) ?_
    exact r_zret0 C hS rfl (Or.inl rfl) h d_Tide_isBelow_14
  · skip
    refine lv_iload_n hx hb d_Tide_isBelow_4 rfl (lv_at hl 0 rfl) ?_
    refine lv_iload_n hx hb d_Tide_isBelow_5 rfl (lv_at hl 1 rfl) ?_
    refine r_icmp_ge (tgt := 13) C h d_Tide_isBelow_6 (by decide) (fun h => ?_) (fun h => ?_)
    · skip
      refine lv_iconst (v := 0) hx hb d_Tide_isBelow_13 (by decide) ?_
      exact r_zret0 C hS rfl (Or.inl rfl) h d_Tide_isBelow_14
    · skip
      refine lv_iconst (v := 1) hx hb d_Tide_isBelow_9 (by decide) ?_
      refine lv_goto (tgt := 14) hx hb d_Tide_isBelow_10 (by decide) ?_
      exact r_zret0 C hS rfl (Or.inr rfl) h d_Tide_isBelow_14
set_option maxHeartbeats 4000000 in
set_option maxRecDepth 100000 in
theorem k_Shore_has {l : Launch} {E : En} {k0 : Nat} {p1 : Int32} {X : Mem} {r : Int32} (hk0 : kd k0 = 1) (h : f_Shore_has k0 p1 X = some r) : Met l y_Shore_has (Cond.code y_Shore_has c_Shore_has 2 (some .boolean) :: tb) ({ frames := 1, cells := 0, slots := 0, locals := 21 } : Room) (PreC E [.ref (ad E k0), .int p1] X) (PostI E r X) 0 0 (Ad E) := by
  refine met_of (by decide) (Nat.le_of_ble_eq_true rfl) (fun p e s m below meth c C hS ls hl => ?_)
  replace C : Cx p s m ([.ref (ad E k0), .int p1] : List Value).toArray meth c c_Shore_has 2 "TideLoans$Shore" (some .boolean) E := C
  replace hl : lv_has ls 2 [(0, .ref (ad E k0)), (1, .int p1)] := hl
  obtain ⟨hx, hb, hml, hown, hts, hrt, hlk, hKx⟩ := id C
  unfold f_Shore_has at h
  refine lv_iload_n hx hb d_Shore_has_0 rfl (lv_at hl 1 rfl) ?_
  refine lv_aload_n hx hb d_Shore_has_1 rfl (lv_at hl 0 rfl) ?_
  refine r_getI C hS (kd_lt hk0 (by decide)) (cel_Shore hk0) (rfl : cls[1]? = some (R_Shore, T_Shore, 6)) in_Shore 3 (by decide) tw_137 rfl h d_Shore_has_2 (fun v1 h => ?_)
  obtain ⟨v2, hr3, h⟩ := bd_el h
  refine c_I hS (c_runSN (As := [.int p1, .int v1]) (rest := []) C hS (k_Tide_isBelow (l := l) (E := E) (X := X) hr3) cw_Tide_isBelow ini_Tide_isBelow sta_Tide_isBelow tw_349 hd_Tide_isBelow rfl ⟨⟨rfl, rfl⟩, (Nat.le_of_ble_eq_true rfl), (Nat.le_of_ble_eq_true rfl)⟩ ⟨(Nat.le_of_ble_eq_true rfl), (Nat.le_of_ble_eq_true rfl)⟩ hl.1 rfl (Nat.le_of_ble_eq_true rfl) d_Shore_has_5) (fun H locs hS => ?_)
  obtain ⟨hz, h⟩ := if_tr h
  exact r_zret0 C hS rfl hz h d_Shore_has_8
set_option maxHeartbeats 4000000 in
set_option maxRecDepth 100000 in
theorem k_Shore_isFull {l : Launch} {E : En} {k0 : Nat} {X : Mem} {r : Int32} (hk0 : kd k0 = 1) (h : f_Shore_isFull k0 X = some r) : Met l y_Shore_isFull (Cond.code y_Shore_isFull c_Shore_isFull 1 (some .boolean) :: tb) ({ frames := 0, cells := 0, slots := 0, locals := 0 } : Room) (PreC E [.ref (ad E k0)] X) (PostI E r X) 0 0 (Ad E) := by
  refine met_of (by decide) (Nat.le_of_ble_eq_true rfl) (fun p e s m below meth c C hS ls hl => ?_)
  replace C : Cx p s m ([.ref (ad E k0)] : List Value).toArray meth c c_Shore_isFull 1 "TideLoans$Shore" (some .boolean) E := C
  replace hl : lv_has ls 1 [(0, .ref (ad E k0))] := hl
  obtain ⟨hx, hb, hml, hown, hts, hrt, hlk, hKx⟩ := id C
  unfold f_Shore_isFull at h
  refine lv_aload_n hx hb d_Shore_isFull_0 rfl (lv_at hl 0 rfl) ?_
  refine r_getI C hS (kd_lt hk0 (by decide)) (cel_Shore hk0) (rfl : cls[1]? = some (R_Shore, T_Shore, 6)) in_Shore 3 (by decide) tw_137 rfl h d_Shore_isFull_1 (fun v1 h => ?_)
  refine lv_bipush (v := 10) hx hb d_Shore_isFull_4 (by decide) ?_
  refine r_icmp_lt (tgt := 13) C h d_Shore_isFull_6 (by decide) (fun h => ?_) (fun h => ?_)
  · skip
    refine lv_iconst (v := 0) hx hb d_Shore_isFull_13 (by decide) ?_
    exact r_zret0 C hS rfl (Or.inl rfl) h d_Shore_isFull_14
  · skip
    refine lv_iconst (v := 1) hx hb d_Shore_isFull_9 (by decide) ?_
    refine lv_goto (tgt := 14) hx hb d_Shore_isFull_10 (by decide) ?_
    exact r_zret0 C hS rfl (Or.inr rfl) h d_Shore_isFull_14
set_option maxHeartbeats 4000000 in
set_option maxRecDepth 100000 in
theorem k_Thing_begin {l : Launch} {E : En} {k0 : Nat} {p1 : Int32} {p2 : Int32} {X : Mem} {Y : Mem} (hk0 : kd k0 = 2) (h : f_Thing_begin k0 p1 p2 X = some Y) : Met l y_Thing_begin (Cond.code y_Thing_begin c_Thing_begin 3 none :: tb) ({ frames := 0, cells := 0, slots := 0, locals := 0 } : Room) (PreC E [.ref (ad E k0), .int p1, .int p2] X) (PostV E Y) 0 0 (Ad E) := by
  refine met_of (by decide) (Nat.le_of_ble_eq_true rfl) (fun p e s m below meth c C hS ls hl => ?_)
  replace C : Cx p s m ([.ref (ad E k0), .int p1, .int p2] : List Value).toArray meth c c_Thing_begin 3 "TideLoans$Thing" none E := C
  replace hl : lv_has ls 3 [(0, .ref (ad E k0)), (1, .int p1), (2, .int p2)] := hl
  obtain ⟨hx, hb, hml, hown, hts, hrt, hlk, hKx⟩ := id C
  unfold f_Thing_begin at h
  refine lv_aload_n hx hb d_Thing_begin_0 rfl (lv_at hl 0 rfl) ?_
  refine lv_iload_n hx hb d_Thing_begin_1 rfl (lv_at hl 1 rfl) ?_
  refine r_putI C hS (kd_lt hk0 (by decide)) (cel_Thing hk0) (rfl : cls[3]? = some (R_Thing, T_Thing, 6)) in_Thing ty_Thing tyok_Thing nm_Thing 0 (by decide) tw_99 rfl rfl rfl (Nat.le_of_ble_eq_true rfl) (set_Thing_0 hk0) rfl h d_Thing_begin_2 (fun X1 H locs hS h => ?_)
  refine lv_aload_n hx hb d_Thing_begin_5 rfl (lv_at hl 0 rfl) ?_
  refine lv_iload_n hx hb d_Thing_begin_6 rfl (lv_at hl 2 rfl) ?_
  refine r_putI C hS (kd_lt hk0 (by decide)) (cel_Thing hk0) (rfl : cls[3]? = some (R_Thing, T_Thing, 6)) in_Thing ty_Thing tyok_Thing nm_Thing 1 (by decide) tw_102 rfl rfl rfl (Nat.le_of_ble_eq_true rfl) (set_Thing_1 hk0) rfl h d_Thing_begin_7 (fun X2 H locs hS h => ?_)
  refine lv_aload_n hx hb d_Thing_begin_10 rfl (lv_at hl 0 rfl) ?_
  refine lv_iconst (v := 0) hx hb d_Thing_begin_11 (by decide) ?_
  refine r_putI C hS (kd_lt hk0 (by decide)) (cel_Thing hk0) (rfl : cls[3]? = some (R_Thing, T_Thing, 6)) in_Thing ty_Thing tyok_Thing nm_Thing 2 (by decide) tw_104 rfl rfl rfl (Nat.le_of_ble_eq_true rfl) (set_Thing_2 hk0) rfl h d_Thing_begin_12 (fun X3 H locs hS h => ?_)
  refine lv_aload_n hx hb d_Thing_begin_15 rfl (lv_at hl 0 rfl) ?_
  refine lv_bipush (v := 10) hx hb d_Thing_begin_16 (by decide) ?_
  refine r_putI C hS (kd_lt hk0 (by decide)) (cel_Thing hk0) (rfl : cls[3]? = some (R_Thing, T_Thing, 6)) in_Thing ty_Thing tyok_Thing nm_Thing 3 (by decide) tw_107 rfl rfl rfl (Nat.le_of_ble_eq_true rfl) (set_Thing_3 hk0) rfl h d_Thing_begin_18 (fun X4 H locs hS h => ?_)
  refine lv_aload_n hx hb d_Thing_begin_21 rfl (lv_at hl 0 rfl) ?_
  refine lv_iconst (v := 0) hx hb d_Thing_begin_22 (by decide) ?_
  refine r_putI C hS (kd_lt hk0 (by decide)) (cel_Thing hk0) (rfl : cls[3]? = some (R_Thing, T_Thing, 6)) in_Thing ty_Thing tyok_Thing nm_Thing 4 (by decide) tw_111 rfl rfl rfl (Nat.le_of_ble_eq_true rfl) (set_Thing_4 hk0) rfl h d_Thing_begin_23 (fun X5 H locs hS h => ?_)
  refine lv_aload_n hx hb d_Thing_begin_26 rfl (lv_at hl 0 rfl) ?_
  refine lv_iconst (v := 0) hx hb d_Thing_begin_27 (by decide) ?_
  refine r_putI C hS (kd_lt hk0 (by decide)) (cel_Thing hk0) (rfl : cls[3]? = some (R_Thing, T_Thing, 6)) in_Thing ty_Thing tyok_Thing nm_Thing 5 (by decide) tw_115 rfl rfl rfl (Nat.le_of_ble_eq_true rfl) (set_Thing_5 hk0) rfl h d_Thing_begin_28 (fun X6 H locs hS h => ?_)
  exact r_vret C hS rfl h d_Thing_begin_31
set_option maxHeartbeats 4000000 in
set_option maxRecDepth 100000 in
theorem k_Shore_add {l : Launch} {E : En} {k0 : Nat} {p1 : Int32} {p2 : Int32} {X : Mem} {r : Int32} {Y : Mem} (hk0 : kd k0 = 1) (h : f_Shore_add k0 p1 p2 X = some (r, Y)) : Met l y_Shore_add (Cond.code y_Shore_add c_Shore_add 3 (some .int) :: tb) ({ frames := 1, cells := 0, slots := 0, locals := 22 } : Room) (PreC E [.ref (ad E k0), .int p1, .int p2] X) (PostI E r Y) 0 0 (Ad E) := by
  refine met_of (by decide) (Nat.le_of_ble_eq_true rfl) (fun p e s m below meth c C hS ls hl => ?_)
  replace C : Cx p s m ([.ref (ad E k0), .int p1, .int p2] : List Value).toArray meth c c_Shore_add 3 "TideLoans$Shore" (some .int) E := C
  replace hl : lv_has ls 3 [(0, .ref (ad E k0)), (1, .int p1), (2, .int p2)] := hl
  obtain ⟨hx, hb, hml, hown, hts, hrt, hlk, hKx⟩ := id C
  unfold f_Shore_add at h
  refine lv_aload_n hx hb d_Shore_add_0 rfl (lv_at hl 0 rfl) ?_
  obtain ⟨v1, hr2, h⟩ := bd_el h
  refine c_I hS (c_runV (As := []) (rest := []) C hS (kd_lt hk0 (by decide)) (cel_Shore hk0) (rfl : cls[1]? = some (R_Shore, T_Shore, 6)) (k_Shore_isFull (l := l) (E := E) (X := X) hk0 hr2) cw_Shore_isFull ini_Shore_isFull ins_Shore_isFull sel_Shore_isFull tw_336 hd_Shore_isFull rfl ⟨⟨rfl, rfl⟩, (Nat.le_of_ble_eq_true rfl), (Nat.le_of_ble_eq_true rfl)⟩ ⟨(Nat.le_of_ble_eq_true rfl), (Nat.le_of_ble_eq_true rfl)⟩ hl.1 rfl (Nat.le_of_ble_eq_true rfl) d_Shore_add_1) (fun H locs hS => ?_)
  refine r_if_eq (tgt := 9) C h d_Shore_add_4 (by decide) (fun h => ?_) (fun h => ?_)
  · skip
    refine lv_aload_n hx hb d_Shore_add_9 rfl (lv_at hl 0 rfl) ?_
    refine r_get C hS (kd_lt hk0 (by decide)) (cel_Shore hk0) (rfl : cls[1]? = some (R_Shore, T_Shore, 6)) in_Shore 2 (by decide) tw_135 rfl d_Shore_add_10 ?_
    refine lv_aload_n hx hb d_Shore_add_13 rfl (lv_at hl 0 rfl) ?_
    refine r_getI C hS (kd_lt hk0 (by decide)) (cel_Shore hk0) (rfl : cls[1]? = some (R_Shore, T_Shore, 6)) in_Shore 3 (by decide) tw_137 rfl h d_Shore_add_14 (fun v3 h => ?_)
    refine r_ldT C hS (kd_things hk0) h d_Shore_add_17 (fun j4 hj4 h => ?_)
    refine lv_iload_n hx hb d_Shore_add_18 rfl (lv_at hl 1 rfl) ?_
    refine lv_iload_n hx hb d_Shore_add_19 rfl (lv_at hl 2 rfl) ?_
    obtain ⟨X6, hr5, h⟩ := bd_el h
    refine c_V hS (c_runV (As := [.int p1, .int p2]) (rest := []) C hS (kd_lt (kd_thing (kd_things hk0) hj4) (by decide)) (cel_Thing (kd_thing (kd_things hk0) hj4)) (rfl : cls[3]? = some (R_Thing, T_Thing, 6)) (k_Thing_begin (l := l) (E := E) (X := X) (kd_thing (kd_things hk0) hj4) hr5) cw_Thing_begin ini_Thing_begin ins_Thing_begin sel_Thing_begin tw_337 hd_Thing_begin rfl ⟨⟨rfl, rfl⟩, (Nat.le_of_ble_eq_true rfl), (Nat.le_of_ble_eq_true rfl)⟩ ⟨(Nat.le_of_ble_eq_true rfl), (Nat.le_of_ble_eq_true rfl)⟩ hl.1 rfl (Nat.le_of_ble_eq_true rfl) d_Shore_add_20) (fun H locs hS => ?_)
    refine lv_aload_n hx hb d_Shore_add_23 rfl (lv_at hl 0 rfl) ?_
    refine lv_dup hx hb d_Shore_add_24 rfl ?_
    refine r_getI C hS (kd_lt hk0 (by decide)) (cel_Shore hk0) (rfl : cls[1]? = some (R_Shore, T_Shore, 6)) in_Shore 3 (by decide) tw_137 rfl h d_Shore_add_25 (fun v7 h => ?_)
    refine lv_iconst (v := 1) hx hb d_Shore_add_28 (by decide) ?_
    refine lv_iadd hx hb d_Shore_add_29 ?_
    refine r_putI C hS (kd_lt hk0 (by decide)) (cel_Shore hk0) (rfl : cls[1]? = some (R_Shore, T_Shore, 6)) in_Shore ty_Shore tyok_Shore nm_Shore 3 (by decide) tw_137 rfl rfl rfl (Nat.le_of_ble_eq_true rfl) (set_Shore_3 hk0) rfl h d_Shore_add_30 (fun X8 H locs hS h => ?_)
    refine lv_aload_n hx hb d_Shore_add_33 rfl (lv_at hl 0 rfl) ?_
    refine r_getI C hS (kd_lt hk0 (by decide)) (cel_Shore hk0) (rfl : cls[1]? = some (R_Shore, T_Shore, 6)) in_Shore 3 (by decide) tw_137 rfl h d_Shore_add_34 (fun v9 h => ?_)
    refine lv_iconst (v := 1) hx hb d_Shore_add_37 (by decide) ?_
    refine lv_isub hx hb d_Shore_add_38 ?_
    exact r_iret C hS rfl h d_Shore_add_39
  · skip
    refine lv_iconst (v := -1) hx hb d_Shore_add_7 (by decide) ?_
    exact r_iret C hS rfl h d_Shore_add_8
def I_Shore_laidAt_b4 (p : Program) (l : Launch) (e : Env) (s : State) (m : MethodId) (args : Array Value) (below : List Frame) (meth : Method) (c : Code) (E : En) (r : Int32) (x0 : Nat) (x1 : Int32) (X : Mem) (n : Nat) (tg : Int32) : Prop := ∀ (x2 : Int32) (x3 : Int32) (H : Heap) (locs : List Loc) (ls : Array Slot), it (fun a => f_Shore_laidAt_b4 x0 x1 X a.1 a.2) n (x2, x3) = some tg → Hs E s.heap X H locs → lv_has ls 4 [(0, .ref (ad E x0)), (1, .int x1), (2, .int x2), (3, .int x3)] → W p l e ({ frames := 0, cells := 0, slots := 0, locals := 0 } : Room) s m args below meth c H locs 0 0 (MQ below (PostI E r X) args s 0 0 (Ad E)) (F0 m 4 ls [])
set_option maxHeartbeats 4000000 in
set_option maxRecDepth 100000 in
theorem k_Shore_laidAt_j44 {p : Program} {l : Launch} {e : Env} {s : State} {m : MethodId} {args : Array Value} {below : List Frame} {meth : Method} {c : Code} {E : En} {r : Int32} (C : Cx p s m args meth c c_Shore_laidAt 4 "TideLoans$Shore" (some .int) E) {x0 : Nat} {x1 : Int32} {x2 : Int32} {x3 : Int32} {X : Mem} {tg : (Int32 ⊕ (Int32 × Int32))} (hx0 : kd x0 = 1) {n4 : Nat} (hc4 : fin (fun a => f_Shore_laidAt_b4 x0 x1 X a.1 a.2) n4 r tg) (ih4 : I_Shore_laidAt_b4 p l e s m args below meth c E r x0 x1 X n4 r) (h : f_Shore_laidAt_j44 x0 x1 x2 x3 X = some tg) {H : Heap} {locs : List Loc} (hS : Hs E s.heap X H locs) {ls : Array Slot} (hl : lv_has ls 4 [(0, .ref (ad E x0)), (1, .int x1), (2, .int x2), (3, .int x3)]) : W p l e ({ frames := 0, cells := 0, slots := 0, locals := 0 } : Room) s m args below meth c H locs 0 0 (MQ below (PostI E r X) args s 0 0 (Ad E)) (F0 m 44 ls []) := by
  obtain ⟨hx, hb, hml, hown, hts, hrt, hlk, hKx⟩ := id C
  unfold f_Shore_laidAt_j44 at h
  refine r_iinc C (w := 1) (lv' := fun z => [(3, .int z), (0, .ref (ad E x0)), (1, .int x1), (2, .int x2)]) h d_Shore_laidAt_44 hl (k := 3) rfl (by decide) (by decide) (fun _ => rfl) (fun v1 ls h hl => ?_)
  refine lv_goto (tgt := 4) hx hb d_Shore_laidAt_47 (by decide) ?_
  exact ih4 _ _ _ _ _ (lp_next h hc4) hS (lv_sub hl [1, 2, 3, 0] rfl)
set_option maxHeartbeats 4000000 in
set_option maxRecDepth 100000 in
theorem k_Shore_laidAt_b4 {p : Program} {l : Launch} {e : Env} {s : State} {m : MethodId} {args : Array Value} {below : List Frame} {meth : Method} {c : Code} {E : En} {r : Int32} (C : Cx p s m args meth c c_Shore_laidAt 4 "TideLoans$Shore" (some .int) E) (x0 : Nat) (x1 : Int32) {X : Mem} (hx0 : kd x0 = 1) : ∀ n, I_Shore_laidAt_b4 p l e s m args below meth c E r x0 x1 X n r := by
  obtain ⟨hx, hb, hml, hown, hts, hrt, hlk, hKx⟩ := id C
  intro n
  induction n with
  | zero => intro x2 x3 H locs ls h; exact it_0 h
  | succ n ih =>
    intro x2 x3 H locs ls h hS hl
    obtain ⟨cc4, h, hc4⟩ := it_el h
    replace h : f_Shore_laidAt_b4 x0 x1 X x2 x3 = some cc4 := h
    unfold f_Shore_laidAt_b4 at h
    refine lv_iload_n hx hb d_Shore_laidAt_4 rfl (lv_at hl 3 rfl) ?_
    refine lv_aload_n hx hb d_Shore_laidAt_5 rfl (lv_at hl 0 rfl) ?_
    refine r_getI C hS (kd_lt hx0 (by decide)) (cel_Shore hx0) (rfl : cls[1]? = some (R_Shore, T_Shore, 6)) in_Shore 3 (by decide) tw_137 rfl h d_Shore_laidAt_6 (fun v1 h => ?_)
    refine r_icmp_ge (tgt := 50) C h d_Shore_laidAt_9 (by decide) (fun h => ?_) (fun h => ?_)
    · skip
      refine lv_iload_n hx hb d_Shore_laidAt_50 rfl (lv_at hl 2 rfl) ?_
      replace h := lp_ret h hc4
      exact r_iret0 C hS rfl h d_Shore_laidAt_51
    · skip
      refine lv_aload_n hx hb d_Shore_laidAt_12 rfl (lv_at hl 0 rfl) ?_
      refine r_get C hS (kd_lt hx0 (by decide)) (cel_Shore hx0) (rfl : cls[1]? = some (R_Shore, T_Shore, 6)) in_Shore 2 (by decide) tw_135 rfl d_Shore_laidAt_13 ?_
      refine lv_iload_n hx hb d_Shore_laidAt_16 rfl (lv_at hl 3 rfl) ?_
      refine r_ldT C hS (kd_things hx0) h d_Shore_laidAt_17 (fun j2 hj2 h => ?_)
      refine r_getI C hS (kd_lt (kd_thing (kd_things hx0) hj2) (by decide)) (cel_Thing (kd_thing (kd_things hx0) hj2)) (rfl : cls[3]? = some (R_Thing, T_Thing, 6)) in_Thing 4 (by decide) tw_112 rfl h d_Shore_laidAt_18 (fun v3 h => ?_)
      refine lv_iconst (v := 1) hx hb d_Shore_laidAt_21 (by decide) ?_
      refine r_icmp_ne (tgt := 44) C h d_Shore_laidAt_22 (by decide) (fun h => ?_) (fun h => ?_)
      · skip
        exact k_Shore_laidAt_j44 C hx0 hc4 ih h hS (lv_sub hl [0, 1, 2, 3] rfl)
      · skip
        refine lv_aload_n hx hb d_Shore_laidAt_25 rfl (lv_at hl 0 rfl) ?_
        refine r_get C hS (kd_lt hx0 (by decide)) (cel_Shore hx0) (rfl : cls[1]? = some (R_Shore, T_Shore, 6)) in_Shore 2 (by decide) tw_135 rfl d_Shore_laidAt_26 ?_
        refine lv_iload_n hx hb d_Shore_laidAt_29 rfl (lv_at hl 3 rfl) ?_
        refine r_ldT C hS (kd_things hx0) h d_Shore_laidAt_30 (fun j4 hj4 h => ?_)
        refine r_getI C hS (kd_lt (kd_thing (kd_things hx0) hj4) (by decide)) (cel_Thing (kd_thing (kd_things hx0) hj4)) (rfl : cls[3]? = some (R_Thing, T_Thing, 6)) in_Thing 2 (by decide) tw_105 rfl h d_Shore_laidAt_31 (fun v5 h => ?_)
        refine lv_iload_n hx hb d_Shore_laidAt_34 rfl (lv_at hl 1 rfl) ?_
        refine r_icmp_ne (tgt := 44) C h d_Shore_laidAt_35 (by decide) (fun h => ?_) (fun h => ?_)
        · skip
          exact k_Shore_laidAt_j44 C hx0 hc4 ih h hS (lv_sub hl [0, 1, 2, 3] rfl)
        · skip
          refine lv_iload_n hx hb d_Shore_laidAt_38 rfl (lv_at hl 2 rfl) ?_
          refine lv_iconst (v := 1) hx hb d_Shore_laidAt_39 (by decide) ?_
          refine lv_iload_n hx hb d_Shore_laidAt_40 rfl (lv_at hl 3 rfl) ?_
          refine lv_ishl hx hb d_Shore_laidAt_41 ?_
          refine lv_ior hx hb d_Shore_laidAt_42 ?_
          refine r_top h (fun v6 h => ?_)
          refine lv_istore_n (lv' := [(2, .int v6), (0, .ref (ad E x0)), (1, .int x1), (3, .int x3)]) hx hb d_Shore_laidAt_43 rfl hl (by decide) rfl (fun ls hl => ?_)
          exact k_Shore_laidAt_j44 C hx0 hc4 ih h hS (lv_sub hl [1, 2, 0, 3] rfl)
set_option maxHeartbeats 4000000 in
set_option maxRecDepth 100000 in
theorem k_Shore_laidAt {l : Launch} {E : En} {k0 : Nat} {p1 : Int32} {X : Mem} {r : Int32} (hk0 : kd k0 = 1) (h : f_Shore_laidAt k0 p1 X = some r) : Met l y_Shore_laidAt (Cond.code y_Shore_laidAt c_Shore_laidAt 4 (some .int) :: tb) ({ frames := 0, cells := 0, slots := 0, locals := 0 } : Room) (PreC E [.ref (ad E k0), .int p1] X) (PostI E r X) 0 0 (Ad E) := by
  refine met_of (by decide) (Nat.le_of_ble_eq_true rfl) (fun p e s m below meth c C hS ls hl => ?_)
  replace C : Cx p s m ([.ref (ad E k0), .int p1] : List Value).toArray meth c c_Shore_laidAt 4 "TideLoans$Shore" (some .int) E := C
  replace hl : lv_has ls 4 [(0, .ref (ad E k0)), (1, .int p1)] := hl
  obtain ⟨hx, hb, hml, hown, hts, hrt, hlk, hKx⟩ := id C
  unfold f_Shore_laidAt at h
  refine lv_iconst (v := 0) hx hb d_Shore_laidAt_0 (by decide) ?_
  refine lv_istore_n (lv' := [(2, .int (0 : Int32)), (0, .ref (ad E k0)), (1, .int p1)]) hx hb d_Shore_laidAt_1 rfl hl (by decide) rfl (fun ls hl => ?_)
  refine lv_iconst (v := 0) hx hb d_Shore_laidAt_2 (by decide) ?_
  refine lv_istore_n (lv' := [(3, .int (0 : Int32)), (2, .int (0 : Int32)), (0, .ref (ad E k0)), (1, .int p1)]) hx hb d_Shore_laidAt_3 rfl hl (by decide) rfl (fun ls hl => ?_)
  exact k_Shore_laidAt_b4 C _ _ hk0 FU _ _ _ _ _ h hS (lv_sub hl [2, 3, 1, 0] rfl)
def I_Shore_allIn_b4 (p : Program) (l : Launch) (e : Env) (s : State) (m : MethodId) (args : Array Value) (below : List Frame) (meth : Method) (c : Code) (E : En) (r : Int32) (x0 : Nat) (x1 : Int32) (X : Mem) (n : Nat) (tg : Int32) : Prop := ∀ (x2 : Int32) (x3 : Int32) (H : Heap) (locs : List Loc) (ls : Array Slot), it (fun a => f_Shore_allIn_b4 x0 x1 X a.1 a.2) n (x2, x3) = some tg → Hs E s.heap X H locs → lv_has ls 4 [(0, .ref (ad E x0)), (1, .int x1), (2, .int x2), (3, .int x3)] → W p l e ({ frames := 0, cells := 0, slots := 0, locals := 0 } : Room) s m args below meth c H locs 0 0 (MQ below (PostI E r X) args s 0 0 (Ad E)) (F0 m 4 ls [])
set_option maxHeartbeats 4000000 in
set_option maxRecDepth 100000 in
theorem k_Shore_allIn_j31 {p : Program} {l : Launch} {e : Env} {s : State} {m : MethodId} {args : Array Value} {below : List Frame} {meth : Method} {c : Code} {E : En} {r : Int32} (C : Cx p s m args meth c c_Shore_allIn 4 "TideLoans$Shore" (some .int) E) {x0 : Nat} {x1 : Int32} {x2 : Int32} {x3 : Int32} {X : Mem} {tg : (Int32 ⊕ (Int32 × Int32))} (hx0 : kd x0 = 1) {n4 : Nat} (hc4 : fin (fun a => f_Shore_allIn_b4 x0 x1 X a.1 a.2) n4 r tg) (ih4 : I_Shore_allIn_b4 p l e s m args below meth c E r x0 x1 X n4 r) (h : f_Shore_allIn_j31 x0 x1 x2 x3 X = some tg) {H : Heap} {locs : List Loc} (hS : Hs E s.heap X H locs) {ls : Array Slot} (hl : lv_has ls 4 [(0, .ref (ad E x0)), (1, .int x1), (2, .int x2), (3, .int x3)]) : W p l e ({ frames := 0, cells := 0, slots := 0, locals := 0 } : Room) s m args below meth c H locs 0 0 (MQ below (PostI E r X) args s 0 0 (Ad E)) (F0 m 31 ls []) := by
  obtain ⟨hx, hb, hml, hown, hts, hrt, hlk, hKx⟩ := id C
  unfold f_Shore_allIn_j31 at h
  refine r_iinc C (w := 1) (lv' := fun z => [(3, .int z), (0, .ref (ad E x0)), (1, .int x1), (2, .int x2)]) h d_Shore_allIn_31 hl (k := 3) rfl (by decide) (by decide) (fun _ => rfl) (fun v1 ls h hl => ?_)
  refine lv_goto (tgt := 4) hx hb d_Shore_allIn_34 (by decide) ?_
  exact ih4 _ _ _ _ _ (lp_next h hc4) hS (lv_sub hl [1, 2, 3, 0] rfl)
set_option maxHeartbeats 4000000 in
set_option maxRecDepth 100000 in
theorem k_Shore_allIn_b4 {p : Program} {l : Launch} {e : Env} {s : State} {m : MethodId} {args : Array Value} {below : List Frame} {meth : Method} {c : Code} {E : En} {r : Int32} (C : Cx p s m args meth c c_Shore_allIn 4 "TideLoans$Shore" (some .int) E) (x0 : Nat) (x1 : Int32) {X : Mem} (hx0 : kd x0 = 1) : ∀ n, I_Shore_allIn_b4 p l e s m args below meth c E r x0 x1 X n r := by
  obtain ⟨hx, hb, hml, hown, hts, hrt, hlk, hKx⟩ := id C
  intro n
  induction n with
  | zero => intro x2 x3 H locs ls h; exact it_0 h
  | succ n ih =>
    intro x2 x3 H locs ls h hS hl
    obtain ⟨cc4, h, hc4⟩ := it_el h
    replace h : f_Shore_allIn_b4 x0 x1 X x2 x3 = some cc4 := h
    unfold f_Shore_allIn_b4 at h
    refine lv_iload_n hx hb d_Shore_allIn_4 rfl (lv_at hl 3 rfl) ?_
    refine lv_aload_n hx hb d_Shore_allIn_5 rfl (lv_at hl 0 rfl) ?_
    refine r_getI C hS (kd_lt hx0 (by decide)) (cel_Shore hx0) (rfl : cls[1]? = some (R_Shore, T_Shore, 6)) in_Shore 3 (by decide) tw_137 rfl h d_Shore_allIn_6 (fun v1 h => ?_)
    refine r_icmp_ge (tgt := 37) C h d_Shore_allIn_9 (by decide) (fun h => ?_) (fun h => ?_)
    · skip
      refine lv_iload_n hx hb d_Shore_allIn_37 rfl (lv_at hl 2 rfl) ?_
      replace h := lp_ret h hc4
      exact r_iret0 C hS rfl h d_Shore_allIn_38
    · skip
      refine lv_aload_n hx hb d_Shore_allIn_12 rfl (lv_at hl 0 rfl) ?_
      refine r_get C hS (kd_lt hx0 (by decide)) (cel_Shore hx0) (rfl : cls[1]? = some (R_Shore, T_Shore, 6)) in_Shore 2 (by decide) tw_135 rfl d_Shore_allIn_13 ?_
      refine lv_iload_n hx hb d_Shore_allIn_16 rfl (lv_at hl 3 rfl) ?_
      refine r_ldT C hS (kd_things hx0) h d_Shore_allIn_17 (fun j2 hj2 h => ?_)
      refine r_getI C hS (kd_lt (kd_thing (kd_things hx0) hj2) (by decide)) (cel_Thing (kd_thing (kd_things hx0) hj2)) (rfl : cls[3]? = some (R_Thing, T_Thing, 6)) in_Thing 4 (by decide) tw_112 rfl h d_Shore_allIn_18 (fun v3 h => ?_)
      refine lv_iload_n hx hb d_Shore_allIn_21 rfl (lv_at hl 1 rfl) ?_
      refine r_icmp_ne (tgt := 31) C h d_Shore_allIn_22 (by decide) (fun h => ?_) (fun h => ?_)
      · skip
        exact k_Shore_allIn_j31 C hx0 hc4 ih h hS (lv_sub hl [0, 1, 2, 3] rfl)
      · skip
        refine lv_iload_n hx hb d_Shore_allIn_25 rfl (lv_at hl 2 rfl) ?_
        refine lv_iconst (v := 1) hx hb d_Shore_allIn_26 (by decide) ?_
        refine lv_iload_n hx hb d_Shore_allIn_27 rfl (lv_at hl 3 rfl) ?_
        refine lv_ishl hx hb d_Shore_allIn_28 ?_
        refine lv_ior hx hb d_Shore_allIn_29 ?_
        refine r_top h (fun v4 h => ?_)
        refine lv_istore_n (lv' := [(2, .int v4), (0, .ref (ad E x0)), (1, .int x1), (3, .int x3)]) hx hb d_Shore_allIn_30 rfl hl (by decide) rfl (fun ls hl => ?_)
        exact k_Shore_allIn_j31 C hx0 hc4 ih h hS (lv_sub hl [1, 2, 0, 3] rfl)
set_option maxHeartbeats 4000000 in
set_option maxRecDepth 100000 in
theorem k_Shore_allIn {l : Launch} {E : En} {k0 : Nat} {p1 : Int32} {X : Mem} {r : Int32} (hk0 : kd k0 = 1) (h : f_Shore_allIn k0 p1 X = some r) : Met l y_Shore_allIn (Cond.code y_Shore_allIn c_Shore_allIn 4 (some .int) :: tb) ({ frames := 0, cells := 0, slots := 0, locals := 0 } : Room) (PreC E [.ref (ad E k0), .int p1] X) (PostI E r X) 0 0 (Ad E) := by
  refine met_of (by decide) (Nat.le_of_ble_eq_true rfl) (fun p e s m below meth c C hS ls hl => ?_)
  replace C : Cx p s m ([.ref (ad E k0), .int p1] : List Value).toArray meth c c_Shore_allIn 4 "TideLoans$Shore" (some .int) E := C
  replace hl : lv_has ls 4 [(0, .ref (ad E k0)), (1, .int p1)] := hl
  obtain ⟨hx, hb, hml, hown, hts, hrt, hlk, hKx⟩ := id C
  unfold f_Shore_allIn at h
  refine lv_iconst (v := 0) hx hb d_Shore_allIn_0 (by decide) ?_
  refine lv_istore_n (lv' := [(2, .int (0 : Int32)), (0, .ref (ad E k0)), (1, .int p1)]) hx hb d_Shore_allIn_1 rfl hl (by decide) rfl (fun ls hl => ?_)
  refine lv_iconst (v := 0) hx hb d_Shore_allIn_2 (by decide) ?_
  refine lv_istore_n (lv' := [(3, .int (0 : Int32)), (2, .int (0 : Int32)), (0, .ref (ad E k0)), (1, .int p1)]) hx hb d_Shore_allIn_3 rfl hl (by decide) rfl (fun ls hl => ?_)
  exact k_Shore_allIn_b4 C _ _ hk0 FU _ _ _ _ _ h hS (lv_sub hl [2, 3, 1, 0] rfl)
def I_Shore_allWorth_b4 (p : Program) (l : Launch) (e : Env) (s : State) (m : MethodId) (args : Array Value) (below : List Frame) (meth : Method) (c : Code) (E : En) (r : Int32) (x0 : Nat) (X : Mem) (n : Nat) (tg : Int32) : Prop := ∀ (x1 : Int32) (x2 : Int32) (H : Heap) (locs : List Loc) (ls : Array Slot), it (fun a => f_Shore_allWorth_b4 x0 X a.1 a.2) n (x1, x2) = some tg → Hs E s.heap X H locs → lv_has ls 3 [(0, .ref (ad E x0)), (1, .int x1), (2, .int x2)] → W p l e ({ frames := 0, cells := 0, slots := 0, locals := 0 } : Room) s m args below meth c H locs 0 0 (MQ below (PostI E r X) args s 0 0 (Ad E)) (F0 m 4 ls [])
set_option maxHeartbeats 4000000 in
set_option maxRecDepth 100000 in
theorem k_Shore_allWorth_b4 {p : Program} {l : Launch} {e : Env} {s : State} {m : MethodId} {args : Array Value} {below : List Frame} {meth : Method} {c : Code} {E : En} {r : Int32} (C : Cx p s m args meth c c_Shore_allWorth 3 "TideLoans$Shore" (some .int) E) (x0 : Nat) {X : Mem} (hx0 : kd x0 = 1) : ∀ n, I_Shore_allWorth_b4 p l e s m args below meth c E r x0 X n r := by
  obtain ⟨hx, hb, hml, hown, hts, hrt, hlk, hKx⟩ := id C
  intro n
  induction n with
  | zero => intro x1 x2 H locs ls h; exact it_0 h
  | succ n ih =>
    intro x1 x2 H locs ls h hS hl
    obtain ⟨cc4, h, hc4⟩ := it_el h
    replace h : f_Shore_allWorth_b4 x0 X x1 x2 = some cc4 := h
    unfold f_Shore_allWorth_b4 at h
    refine lv_iload_n hx hb d_Shore_allWorth_4 rfl (lv_at hl 2 rfl) ?_
    refine lv_aload_n hx hb d_Shore_allWorth_5 rfl (lv_at hl 0 rfl) ?_
    refine r_getI C hS (kd_lt hx0 (by decide)) (cel_Shore hx0) (rfl : cls[1]? = some (R_Shore, T_Shore, 6)) in_Shore 3 (by decide) tw_137 rfl h d_Shore_allWorth_6 (fun v1 h => ?_)
    refine r_icmp_ge (tgt := 30) C h d_Shore_allWorth_9 (by decide) (fun h => ?_) (fun h => ?_)
    · skip
      refine lv_iload_n hx hb d_Shore_allWorth_30 rfl (lv_at hl 1 rfl) ?_
      replace h := lp_ret h hc4
      exact r_iret0 C hS rfl h d_Shore_allWorth_31
    · skip
      refine lv_iload_n hx hb d_Shore_allWorth_12 rfl (lv_at hl 1 rfl) ?_
      refine lv_aload_n hx hb d_Shore_allWorth_13 rfl (lv_at hl 0 rfl) ?_
      refine r_get C hS (kd_lt hx0 (by decide)) (cel_Shore hx0) (rfl : cls[1]? = some (R_Shore, T_Shore, 6)) in_Shore 2 (by decide) tw_135 rfl d_Shore_allWorth_14 ?_
      refine lv_iload_n hx hb d_Shore_allWorth_17 rfl (lv_at hl 2 rfl) ?_
      refine r_ldT C hS (kd_things hx0) h d_Shore_allWorth_18 (fun j2 hj2 h => ?_)
      refine r_getI C hS (kd_lt (kd_thing (kd_things hx0) hj2) (by decide)) (cel_Thing (kd_thing (kd_things hx0) hj2)) (rfl : cls[3]? = some (R_Thing, T_Thing, 6)) in_Thing 3 (by decide) tw_108 rfl h d_Shore_allWorth_19 (fun v3 h => ?_)
      refine lv_iadd hx hb d_Shore_allWorth_22 ?_
      refine r_top h (fun v4 h => ?_)
      refine lv_istore_n (lv' := [(1, .int v4), (0, .ref (ad E x0)), (2, .int x2)]) hx hb d_Shore_allWorth_23 rfl hl (by decide) rfl (fun ls hl => ?_)
      refine r_iinc C (w := 1) (lv' := fun z => [(2, .int z), (1, .int v4), (0, .ref (ad E x0))]) h d_Shore_allWorth_24 hl (k := 2) rfl (by decide) (by decide) (fun _ => rfl) (fun v5 ls h hl => ?_)
      refine lv_goto (tgt := 4) hx hb d_Shore_allWorth_27 (by decide) ?_
      exact ih _ _ _ _ _ (lp_next h hc4) hS (lv_sub hl [2, 1, 0] rfl)
set_option maxHeartbeats 4000000 in
set_option maxRecDepth 100000 in
theorem k_Shore_allWorth {l : Launch} {E : En} {k0 : Nat} {X : Mem} {r : Int32} (hk0 : kd k0 = 1) (h : f_Shore_allWorth k0 X = some r) : Met l y_Shore_allWorth (Cond.code y_Shore_allWorth c_Shore_allWorth 3 (some .int) :: tb) ({ frames := 0, cells := 0, slots := 0, locals := 0 } : Room) (PreC E [.ref (ad E k0)] X) (PostI E r X) 0 0 (Ad E) := by
  refine met_of (by decide) (Nat.le_of_ble_eq_true rfl) (fun p e s m below meth c C hS ls hl => ?_)
  replace C : Cx p s m ([.ref (ad E k0)] : List Value).toArray meth c c_Shore_allWorth 3 "TideLoans$Shore" (some .int) E := C
  replace hl : lv_has ls 3 [(0, .ref (ad E k0))] := hl
  obtain ⟨hx, hb, hml, hown, hts, hrt, hlk, hKx⟩ := id C
  unfold f_Shore_allWorth at h
  refine lv_iconst (v := 0) hx hb d_Shore_allWorth_0 (by decide) ?_
  refine lv_istore_n (lv' := [(1, .int (0 : Int32)), (0, .ref (ad E k0))]) hx hb d_Shore_allWorth_1 rfl hl (by decide) rfl (fun ls hl => ?_)
  refine lv_iconst (v := 0) hx hb d_Shore_allWorth_2 (by decide) ?_
  refine lv_istore_n (lv' := [(2, .int (0 : Int32)), (1, .int (0 : Int32)), (0, .ref (ad E k0))]) hx hb d_Shore_allWorth_3 rfl hl (by decide) rfl (fun ls hl => ?_)
  exact k_Shore_allWorth_b4 C _ hk0 FU _ _ _ _ _ h hS (lv_sub hl [2, 1, 0] rfl)
def I_Shore_allHeights_b4 (p : Program) (l : Launch) (e : Env) (s : State) (m : MethodId) (args : Array Value) (below : List Frame) (meth : Method) (c : Code) (E : En) (r : Int32) (x0 : Nat) (X : Mem) (n : Nat) (tg : Int32) : Prop := ∀ (x1 : Int32) (x2 : Int32) (H : Heap) (locs : List Loc) (ls : Array Slot), it (fun a => f_Shore_allHeights_b4 x0 X a.1 a.2) n (x1, x2) = some tg → Hs E s.heap X H locs → lv_has ls 3 [(0, .ref (ad E x0)), (1, .int x1), (2, .int x2)] → W p l e ({ frames := 0, cells := 0, slots := 0, locals := 0 } : Room) s m args below meth c H locs 0 0 (MQ below (PostI E r X) args s 0 0 (Ad E)) (F0 m 4 ls [])
set_option maxHeartbeats 4000000 in
set_option maxRecDepth 100000 in
theorem k_Shore_allHeights_b4 {p : Program} {l : Launch} {e : Env} {s : State} {m : MethodId} {args : Array Value} {below : List Frame} {meth : Method} {c : Code} {E : En} {r : Int32} (C : Cx p s m args meth c c_Shore_allHeights 3 "TideLoans$Shore" (some .int) E) (x0 : Nat) {X : Mem} (hx0 : kd x0 = 1) : ∀ n, I_Shore_allHeights_b4 p l e s m args below meth c E r x0 X n r := by
  obtain ⟨hx, hb, hml, hown, hts, hrt, hlk, hKx⟩ := id C
  intro n
  induction n with
  | zero => intro x1 x2 H locs ls h; exact it_0 h
  | succ n ih =>
    intro x1 x2 H locs ls h hS hl
    obtain ⟨cc4, h, hc4⟩ := it_el h
    replace h : f_Shore_allHeights_b4 x0 X x1 x2 = some cc4 := h
    unfold f_Shore_allHeights_b4 at h
    refine lv_iload_n hx hb d_Shore_allHeights_4 rfl (lv_at hl 2 rfl) ?_
    refine lv_bipush (v := 16) hx hb d_Shore_allHeights_5 (by decide) ?_
    refine r_icmp_ge (tgt := 25) C h d_Shore_allHeights_7 (by decide) (fun h => ?_) (fun h => ?_)
    · skip
      refine lv_iload_n hx hb d_Shore_allHeights_25 rfl (lv_at hl 1 rfl) ?_
      replace h := lp_ret h hc4
      exact r_iret0 C hS rfl h d_Shore_allHeights_26
    · skip
      refine lv_iload_n hx hb d_Shore_allHeights_10 rfl (lv_at hl 1 rfl) ?_
      refine lv_aload_n hx hb d_Shore_allHeights_11 rfl (lv_at hl 0 rfl) ?_
      refine r_get C hS (kd_lt hx0 (by decide)) (cel_Shore hx0) (rfl : cls[1]? = some (R_Shore, T_Shore, 6)) in_Shore 0 (by decide) tw_131 rfl d_Shore_allHeights_12 ?_
      refine lv_iload_n hx hb d_Shore_allHeights_15 rfl (lv_at hl 2 rfl) ?_
      refine r_ldI C hS (n := 16) (kd_heights hx0) (by decide) h d_Shore_allHeights_16 (fun v1 h => ?_)
      refine lv_iadd hx hb d_Shore_allHeights_17 ?_
      refine r_top h (fun v2 h => ?_)
      refine lv_istore_n (lv' := [(1, .int v2), (0, .ref (ad E x0)), (2, .int x2)]) hx hb d_Shore_allHeights_18 rfl hl (by decide) rfl (fun ls hl => ?_)
      refine r_iinc C (w := 1) (lv' := fun z => [(2, .int z), (1, .int v2), (0, .ref (ad E x0))]) h d_Shore_allHeights_19 hl (k := 2) rfl (by decide) (by decide) (fun _ => rfl) (fun v3 ls h hl => ?_)
      refine lv_goto (tgt := 4) hx hb d_Shore_allHeights_22 (by decide) ?_
      exact ih _ _ _ _ _ (lp_next h hc4) hS (lv_sub hl [2, 1, 0] rfl)
set_option maxHeartbeats 4000000 in
set_option maxRecDepth 100000 in
theorem k_Shore_allHeights {l : Launch} {E : En} {k0 : Nat} {X : Mem} {r : Int32} (hk0 : kd k0 = 1) (h : f_Shore_allHeights k0 X = some r) : Met l y_Shore_allHeights (Cond.code y_Shore_allHeights c_Shore_allHeights 3 (some .int) :: tb) ({ frames := 0, cells := 0, slots := 0, locals := 0 } : Room) (PreC E [.ref (ad E k0)] X) (PostI E r X) 0 0 (Ad E) := by
  refine met_of (by decide) (Nat.le_of_ble_eq_true rfl) (fun p e s m below meth c C hS ls hl => ?_)
  replace C : Cx p s m ([.ref (ad E k0)] : List Value).toArray meth c c_Shore_allHeights 3 "TideLoans$Shore" (some .int) E := C
  replace hl : lv_has ls 3 [(0, .ref (ad E k0))] := hl
  obtain ⟨hx, hb, hml, hown, hts, hrt, hlk, hKx⟩ := id C
  unfold f_Shore_allHeights at h
  refine lv_iconst (v := 0) hx hb d_Shore_allHeights_0 (by decide) ?_
  refine lv_istore_n (lv' := [(1, .int (0 : Int32)), (0, .ref (ad E k0))]) hx hb d_Shore_allHeights_1 rfl hl (by decide) rfl (fun ls hl => ?_)
  refine lv_iconst (v := 0) hx hb d_Shore_allHeights_2 (by decide) ?_
  refine lv_istore_n (lv' := [(2, .int (0 : Int32)), (1, .int (0 : Int32)), (0, .ref (ad E k0))]) hx hb d_Shore_allHeights_3 rfl hl (by decide) rfl (fun ls hl => ?_)
  exact k_Shore_allHeights_b4 C _ hk0 FU _ _ _ _ _ h hS (lv_sub hl [2, 1, 0] rfl)
def I_Shore_cellsBelow_b4 (p : Program) (l : Launch) (e : Env) (s : State) (m : MethodId) (args : Array Value) (below : List Frame) (meth : Method) (c : Code) (E : En) (r : Int32) (x0 : Nat) (x1 : Int32) (X : Mem) (n : Nat) (tg : Int32) : Prop := ∀ (x2 : Int32) (x3 : Int32) (H : Heap) (locs : List Loc) (ls : Array Slot), it (fun a => f_Shore_cellsBelow_b4 x0 x1 X a.1 a.2) n (x2, x3) = some tg → Hs E s.heap X H locs → lv_has ls 4 [(0, .ref (ad E x0)), (1, .int x1), (2, .int x2), (3, .int x3)] → W p l e ({ frames := 0, cells := 0, slots := 0, locals := 0 } : Room) s m args below meth c H locs 0 0 (MQ below (PostI E r X) args s 0 0 (Ad E)) (F0 m 4 ls [])
set_option maxHeartbeats 4000000 in
set_option maxRecDepth 100000 in
theorem k_Shore_cellsBelow_j23 {p : Program} {l : Launch} {e : Env} {s : State} {m : MethodId} {args : Array Value} {below : List Frame} {meth : Method} {c : Code} {E : En} {r : Int32} (C : Cx p s m args meth c c_Shore_cellsBelow 4 "TideLoans$Shore" (some .int) E) {x0 : Nat} {x1 : Int32} {x2 : Int32} {x3 : Int32} {X : Mem} {tg : (Int32 ⊕ (Int32 × Int32))} (hx0 : kd x0 = 1) {n4 : Nat} (hc4 : fin (fun a => f_Shore_cellsBelow_b4 x0 x1 X a.1 a.2) n4 r tg) (ih4 : I_Shore_cellsBelow_b4 p l e s m args below meth c E r x0 x1 X n4 r) (h : f_Shore_cellsBelow_j23 x0 x1 x2 x3 X = some tg) {H : Heap} {locs : List Loc} (hS : Hs E s.heap X H locs) {ls : Array Slot} (hl : lv_has ls 4 [(0, .ref (ad E x0)), (1, .int x1), (2, .int x2), (3, .int x3)]) : W p l e ({ frames := 0, cells := 0, slots := 0, locals := 0 } : Room) s m args below meth c H locs 0 0 (MQ below (PostI E r X) args s 0 0 (Ad E)) (F0 m 23 ls []) := by
  obtain ⟨hx, hb, hml, hown, hts, hrt, hlk, hKx⟩ := id C
  unfold f_Shore_cellsBelow_j23 at h
  refine r_iinc C (w := 1) (lv' := fun z => [(3, .int z), (0, .ref (ad E x0)), (1, .int x1), (2, .int x2)]) h d_Shore_cellsBelow_23 hl (k := 3) rfl (by decide) (by decide) (fun _ => rfl) (fun v1 ls h hl => ?_)
  refine lv_goto (tgt := 4) hx hb d_Shore_cellsBelow_26 (by decide) ?_
  exact ih4 _ _ _ _ _ (lp_next h hc4) hS (lv_sub hl [1, 2, 3, 0] rfl)
set_option maxHeartbeats 4000000 in
set_option maxRecDepth 100000 in
theorem k_Shore_cellsBelow_b4 {p : Program} {l : Launch} {e : Env} {s : State} {m : MethodId} {args : Array Value} {below : List Frame} {meth : Method} {c : Code} {E : En} {r : Int32} (C : Cx p s m args meth c c_Shore_cellsBelow 4 "TideLoans$Shore" (some .int) E) (x0 : Nat) (x1 : Int32) {X : Mem} (hx0 : kd x0 = 1) : ∀ n, I_Shore_cellsBelow_b4 p l e s m args below meth c E r x0 x1 X n r := by
  obtain ⟨hx, hb, hml, hown, hts, hrt, hlk, hKx⟩ := id C
  intro n
  induction n with
  | zero => intro x2 x3 H locs ls h; exact it_0 h
  | succ n ih =>
    intro x2 x3 H locs ls h hS hl
    obtain ⟨cc4, h, hc4⟩ := it_el h
    replace h : f_Shore_cellsBelow_b4 x0 x1 X x2 x3 = some cc4 := h
    unfold f_Shore_cellsBelow_b4 at h
    refine lv_iload_n hx hb d_Shore_cellsBelow_4 rfl (lv_at hl 3 rfl) ?_
    refine lv_bipush (v := 16) hx hb d_Shore_cellsBelow_5 (by decide) ?_
    refine r_icmp_ge (tgt := 29) C h d_Shore_cellsBelow_7 (by decide) (fun h => ?_) (fun h => ?_)
    · skip
      refine lv_iload_n hx hb d_Shore_cellsBelow_29 rfl (lv_at hl 2 rfl) ?_
      replace h := lp_ret h hc4
      exact r_iret0 C hS rfl h d_Shore_cellsBelow_30
    · skip
      refine lv_aload_n hx hb d_Shore_cellsBelow_10 rfl (lv_at hl 0 rfl) ?_
      refine r_get C hS (kd_lt hx0 (by decide)) (cel_Shore hx0) (rfl : cls[1]? = some (R_Shore, T_Shore, 6)) in_Shore 0 (by decide) tw_131 rfl d_Shore_cellsBelow_11 ?_
      refine lv_iload_n hx hb d_Shore_cellsBelow_14 rfl (lv_at hl 3 rfl) ?_
      refine r_ldI C hS (n := 16) (kd_heights hx0) (by decide) h d_Shore_cellsBelow_15 (fun v1 h => ?_)
      refine lv_iload_n hx hb d_Shore_cellsBelow_16 rfl (lv_at hl 1 rfl) ?_
      refine r_icmp_ge (tgt := 23) C h d_Shore_cellsBelow_17 (by decide) (fun h => ?_) (fun h => ?_)
      · skip
        exact k_Shore_cellsBelow_j23 C hx0 hc4 ih h hS (lv_sub hl [0, 1, 2, 3] rfl)
      · skip
        refine r_iinc C (w := 1) (lv' := fun z => [(2, .int z), (0, .ref (ad E x0)), (1, .int x1), (3, .int x3)]) h d_Shore_cellsBelow_20 hl (k := 2) rfl (by decide) (by decide) (fun _ => rfl) (fun v2 ls h hl => ?_)
        exact k_Shore_cellsBelow_j23 C hx0 hc4 ih h hS (lv_sub hl [1, 2, 0, 3] rfl)
set_option maxHeartbeats 4000000 in
set_option maxRecDepth 100000 in
theorem k_Shore_cellsBelow {l : Launch} {E : En} {k0 : Nat} {p1 : Int32} {X : Mem} {r : Int32} (hk0 : kd k0 = 1) (h : f_Shore_cellsBelow k0 p1 X = some r) : Met l y_Shore_cellsBelow (Cond.code y_Shore_cellsBelow c_Shore_cellsBelow 4 (some .int) :: tb) ({ frames := 0, cells := 0, slots := 0, locals := 0 } : Room) (PreC E [.ref (ad E k0), .int p1] X) (PostI E r X) 0 0 (Ad E) := by
  refine met_of (by decide) (Nat.le_of_ble_eq_true rfl) (fun p e s m below meth c C hS ls hl => ?_)
  replace C : Cx p s m ([.ref (ad E k0), .int p1] : List Value).toArray meth c c_Shore_cellsBelow 4 "TideLoans$Shore" (some .int) E := C
  replace hl : lv_has ls 4 [(0, .ref (ad E k0)), (1, .int p1)] := hl
  obtain ⟨hx, hb, hml, hown, hts, hrt, hlk, hKx⟩ := id C
  unfold f_Shore_cellsBelow at h
  refine lv_iconst (v := 0) hx hb d_Shore_cellsBelow_0 (by decide) ?_
  refine lv_istore_n (lv' := [(2, .int (0 : Int32)), (0, .ref (ad E k0)), (1, .int p1)]) hx hb d_Shore_cellsBelow_1 rfl hl (by decide) rfl (fun ls hl => ?_)
  refine lv_iconst (v := 0) hx hb d_Shore_cellsBelow_2 (by decide) ?_
  refine lv_istore_n (lv' := [(3, .int (0 : Int32)), (2, .int (0 : Int32)), (0, .ref (ad E k0)), (1, .int p1)]) hx hb d_Shore_cellsBelow_3 rfl hl (by decide) rfl (fun ls hl => ?_)
  exact k_Shore_cellsBelow_b4 C _ _ hk0 FU _ _ _ _ _ h hS (lv_sub hl [2, 3, 1, 0] rfl)
def I_Shore_allPurses_b4 (p : Program) (l : Launch) (e : Env) (s : State) (m : MethodId) (args : Array Value) (below : List Frame) (meth : Method) (c : Code) (E : En) (r : Int64) (x0 : Nat) (X : Mem) (n : Nat) (tg : Int64) : Prop := ∀ (x1 : Int64) (x3 : Int32) (H : Heap) (locs : List Loc) (ls : Array Slot), it (fun a => f_Shore_allPurses_b4 x0 X a.1 a.2) n (x1, x3) = some tg → Hs E s.heap X H locs → lv_has ls 4 [(0, .ref (ad E x0)), (1, .long x1), (3, .int x3)] → W p l e ({ frames := 0, cells := 0, slots := 0, locals := 0 } : Room) s m args below meth c H locs 0 0 (MQ below (PostL E r X) args s 0 0 (Ad E)) (F0 m 4 ls [])
set_option maxHeartbeats 4000000 in
set_option maxRecDepth 100000 in
theorem k_Shore_allPurses_b4 {p : Program} {l : Launch} {e : Env} {s : State} {m : MethodId} {args : Array Value} {below : List Frame} {meth : Method} {c : Code} {E : En} {r : Int64} (C : Cx p s m args meth c c_Shore_allPurses 4 "TideLoans$Shore" (some .long) E) (x0 : Nat) {X : Mem} (hx0 : kd x0 = 1) : ∀ n, I_Shore_allPurses_b4 p l e s m args below meth c E r x0 X n r := by
  obtain ⟨hx, hb, hml, hown, hts, hrt, hlk, hKx⟩ := id C
  intro n
  induction n with
  | zero => intro x1 x3 H locs ls h; exact it_0 h
  | succ n ih =>
    intro x1 x3 H locs ls h hS hl
    obtain ⟨cc4, h, hc4⟩ := it_el h
    replace h : f_Shore_allPurses_b4 x0 X x1 x3 = some cc4 := h
    unfold f_Shore_allPurses_b4 at h
    refine lv_iload_n hx hb d_Shore_allPurses_4 rfl (lv_at hl 2 rfl) ?_
    refine lv_iconst (v := 4) hx hb d_Shore_allPurses_5 (by decide) ?_
    refine r_icmp_ge (tgt := 25) C h d_Shore_allPurses_6 (by decide) (fun h => ?_) (fun h => ?_)
    · skip
      refine lv_lload_n hx hb d_Shore_allPurses_25 rfl (lv_at hl 1 rfl) ?_
      replace h := lp_ret h hc4
      exact r_lret0 C hS rfl h d_Shore_allPurses_26
    · skip
      refine lv_lload_n hx hb d_Shore_allPurses_9 rfl (lv_at hl 1 rfl) ?_
      refine lv_aload_n hx hb d_Shore_allPurses_10 rfl (lv_at hl 0 rfl) ?_
      refine r_get C hS (kd_lt hx0 (by decide)) (cel_Shore hx0) (rfl : cls[1]? = some (R_Shore, T_Shore, 6)) in_Shore 1 (by decide) tw_133 rfl d_Shore_allPurses_11 ?_
      refine lv_iload_n hx hb d_Shore_allPurses_14 rfl (lv_at hl 2 rfl) ?_
      refine r_ldI C hS (n := 4) (kd_purses hx0) (by decide) h d_Shore_allPurses_15 (fun v1 h => ?_)
      refine lv_i2l hx hb d_Shore_allPurses_16 rfl ?_
      refine lv_ladd hx hb d_Shore_allPurses_17 ?_
      refine r_topL h (fun v2 h => ?_)
      refine lv_lstore_n (lv' := [(1, .long v2), (0, .ref (ad E x0)), (3, .int x3)]) hx hb d_Shore_allPurses_18 rfl hl (by decide) rfl (fun ls hl => ?_)
      refine r_iinc C (w := 1) (lv' := fun z => [(3, .int z), (1, .long v2), (0, .ref (ad E x0))]) h d_Shore_allPurses_19 hl (k := 2) rfl (by decide) (by decide) (fun _ => rfl) (fun v3 ls h hl => ?_)
      refine lv_goto (tgt := 4) hx hb d_Shore_allPurses_22 (by decide) ?_
      exact ih _ _ _ _ _ (lp_next h hc4) hS (lv_sub hl [2, 1, 0] rfl)
set_option maxHeartbeats 4000000 in
set_option maxRecDepth 100000 in
theorem k_Shore_allPurses {l : Launch} {E : En} {k0 : Nat} {X : Mem} {r : Int64} (hk0 : kd k0 = 1) (h : f_Shore_allPurses k0 X = some r) : Met l y_Shore_allPurses (Cond.code y_Shore_allPurses c_Shore_allPurses 4 (some .long) :: tb) ({ frames := 0, cells := 0, slots := 0, locals := 0 } : Room) (PreC E [.ref (ad E k0)] X) (PostL E r X) 0 0 (Ad E) := by
  refine met_of (by decide) (Nat.le_of_ble_eq_true rfl) (fun p e s m below meth c C hS ls hl => ?_)
  replace C : Cx p s m ([.ref (ad E k0)] : List Value).toArray meth c c_Shore_allPurses 4 "TideLoans$Shore" (some .long) E := C
  replace hl : lv_has ls 4 [(0, .ref (ad E k0))] := hl
  obtain ⟨hx, hb, hml, hown, hts, hrt, hlk, hKx⟩ := id C
  unfold f_Shore_allPurses at h
  refine lv_lconst (v := 0) hx hb d_Shore_allPurses_0 (by decide) ?_
  refine lv_lstore_n (lv' := [(1, .long (0 : Int64)), (0, .ref (ad E k0))]) hx hb d_Shore_allPurses_1 rfl hl (by decide) rfl (fun ls hl => ?_)
  refine lv_iconst (v := 0) hx hb d_Shore_allPurses_2 (by decide) ?_
  refine lv_istore_n (lv' := [(3, .int (0 : Int32)), (1, .long (0 : Int64)), (0, .ref (ad E k0))]) hx hb d_Shore_allPurses_3 rfl hl (by decide) rfl (fun ls hl => ?_)
  exact k_Shore_allPurses_b4 C _ hk0 FU _ _ _ _ _ h hS (lv_sub hl [2, 1, 0] rfl)
set_option maxHeartbeats 4000000 in
set_option maxRecDepth 100000 in
theorem k_Tape_put {l : Launch} {E : En} {p1 : Int32} {X : Mem} {Y : Mem} (h : f_Tape_put p1 X = some Y) : Met l y_Tape_put (Cond.code y_Tape_put c_Tape_put 2 none :: tb) ({ frames := 0, cells := 0, slots := 0, locals := 0 } : Room) (PreC E [.ref (ad E 44), .int p1] X) (PostV E Y) 0 0 (Ad E) := by
  refine met_of (by decide) (Nat.le_of_ble_eq_true rfl) (fun p e s m below meth c C hS ls hl => ?_)
  replace C : Cx p s m ([.ref (ad E 44), .int p1] : List Value).toArray meth c c_Tape_put 2 "TideLoans$Tape" none E := C
  replace hl : lv_has ls 2 [(0, .ref (ad E 44)), (1, .int p1)] := hl
  obtain ⟨hx, hb, hml, hown, hts, hrt, hlk, hKx⟩ := id C
  unfold f_Tape_put at h
  refine lv_aload_n hx hb d_Tape_put_0 rfl (lv_at hl 0 rfl) ?_
  refine r_getI C hS (by decide) cel_Tape (rfl : cls[2]? = some (R_Tape, T_Tape, 6)) in_Tape 1 (by decide) tw_163 rfl h d_Tape_put_1 (fun v1 h => ?_)
  refine lv_bipush (v := 120) hx hb d_Tape_put_4 (by decide) ?_
  refine r_icmp_ge (tgt := 29) C h d_Tape_put_6 (by decide) (fun h => ?_) (fun h => ?_)
  · skip
    exact r_vret C hS rfl h d_Tape_put_29
  · skip
    refine lv_aload_n hx hb d_Tape_put_9 rfl (lv_at hl 0 rfl) ?_
    refine r_get C hS (by decide) cel_Tape (rfl : cls[2]? = some (R_Tape, T_Tape, 6)) in_Tape 0 (by decide) tw_162 rfl d_Tape_put_10 ?_
    refine lv_aload_n hx hb d_Tape_put_13 rfl (lv_at hl 0 rfl) ?_
    refine r_getI C hS (by decide) cel_Tape (rfl : cls[2]? = some (R_Tape, T_Tape, 6)) in_Tape 1 (by decide) tw_163 rfl h d_Tape_put_14 (fun v2 h => ?_)
    refine lv_iload_n hx hb d_Tape_put_17 rfl (lv_at hl 1 rfl) ?_
    refine r_stB C hS (n := 120) rfl (by decide) h d_Tape_put_18 (fun X3 H locs hS h => ?_)
    refine lv_aload_n hx hb d_Tape_put_19 rfl (lv_at hl 0 rfl) ?_
    refine lv_dup hx hb d_Tape_put_20 rfl ?_
    refine r_getI C hS (by decide) cel_Tape (rfl : cls[2]? = some (R_Tape, T_Tape, 6)) in_Tape 1 (by decide) tw_163 rfl h d_Tape_put_21 (fun v4 h => ?_)
    refine lv_iconst (v := 1) hx hb d_Tape_put_24 (by decide) ?_
    refine lv_iadd hx hb d_Tape_put_25 ?_
    refine r_putI C hS (by decide) cel_Tape (rfl : cls[2]? = some (R_Tape, T_Tape, 6)) in_Tape ty_Tape tyok_Tape nm_Tape 1 (by decide) tw_163 rfl rfl rfl (Nat.le_of_ble_eq_true rfl) set_Tape_1 rfl h d_Tape_put_26 (fun X5 H locs hS h => ?_)
    exact r_vret C hS rfl h d_Tape_put_29
set_option maxHeartbeats 4000000 in
set_option maxRecDepth 100000 in
theorem k_Tape_tokenOf_j28 {p : Program} {l : Launch} {e : Env} {s : State} {m : MethodId} {args : Array Value} {below : List Frame} {meth : Method} {c : Code} {E : En} {r : Int32} (C : Cx p s m args meth c c_Tape_tokenOf 1 "TideLoans$Tape" (some .int) E) {x0 : Int32} {X : Mem} (h : f_Tape_tokenOf_j28 x0 = some r) {H : Heap} {locs : List Loc} (hS : Hs E s.heap X H locs) {ls : Array Slot} (hl : lv_has ls 1 [(0, .int x0)]) : W p l e ({ frames := 0, cells := 0, slots := 0, locals := 0 } : Room) s m args below meth c H locs 0 0 (MQ below (PostI E r X) args s 0 0 (Ad E)) (F0 m 28 ls []) := by
  obtain ⟨hx, hb, hml, hown, hts, hrt, hlk, hKx⟩ := id C
  unfold f_Tape_tokenOf_j28 at h
  refine lv_iload_n hx hb d_Tape_tokenOf_28 rfl (lv_at hl 0 rfl) ?_
  refine lv_bipush (v := 59) hx hb d_Tape_tokenOf_29 (by decide) ?_
  refine r_icmp_ne (tgt := 38) C h d_Tape_tokenOf_31 (by decide) (fun h => ?_) (fun h => ?_)
  · skip
    refine lv_iconst (v := 4) hx hb d_Tape_tokenOf_38 (by decide) ?_
    exact r_iret0 C hS rfl h d_Tape_tokenOf_39
  · skip
    refine lv_iconst (v := 3) hx hb d_Tape_tokenOf_34 (by decide) ?_
    refine lv_goto (tgt := 39) hx hb d_Tape_tokenOf_35 (by decide) ?_
    exact r_iret0 C hS rfl h d_Tape_tokenOf_39
set_option maxHeartbeats 4000000 in
set_option maxRecDepth 100000 in
theorem k_Tape_tokenOf_j14 {p : Program} {l : Launch} {e : Env} {s : State} {m : MethodId} {args : Array Value} {below : List Frame} {meth : Method} {c : Code} {E : En} {r : Int32} (C : Cx p s m args meth c c_Tape_tokenOf 1 "TideLoans$Tape" (some .int) E) {x0 : Int32} {X : Mem} (h : f_Tape_tokenOf_j14 x0 = some r) {H : Heap} {locs : List Loc} (hS : Hs E s.heap X H locs) {ls : Array Slot} (hl : lv_has ls 1 [(0, .int x0)]) : W p l e ({ frames := 0, cells := 0, slots := 0, locals := 0 } : Room) s m args below meth c H locs 0 0 (MQ below (PostI E r X) args s 0 0 (Ad E)) (F0 m 14 ls []) := by
  obtain ⟨hx, hb, hml, hown, hts, hrt, hlk, hKx⟩ := id C
  unfold f_Tape_tokenOf_j14 at h
  refine lv_iload_n hx hb d_Tape_tokenOf_14 rfl (lv_at hl 0 rfl) ?_
  refine lv_bipush (v := 48) hx hb d_Tape_tokenOf_15 (by decide) ?_
  refine r_icmp_lt (tgt := 28) C h d_Tape_tokenOf_17 (by decide) (fun h => ?_) (fun h => ?_)
  · skip
    exact k_Tape_tokenOf_j28 C h hS (lv_sub hl [0] rfl)
  · skip
    refine lv_iload_n hx hb d_Tape_tokenOf_20 rfl (lv_at hl 0 rfl) ?_
    refine lv_bipush (v := 57) hx hb d_Tape_tokenOf_21 (by decide) ?_
    refine r_icmp_gt (tgt := 28) C h d_Tape_tokenOf_23 (by decide) (fun h => ?_) (fun h => ?_)
    · skip
      exact k_Tape_tokenOf_j28 C h hS (lv_sub hl [0] rfl)
    · skip
      refine lv_iconst (v := 2) hx hb d_Tape_tokenOf_26 (by decide) ?_
      exact r_iret0 C hS rfl h d_Tape_tokenOf_27
set_option maxHeartbeats 4000000 in
set_option maxRecDepth 100000 in
theorem k_Tape_tokenOf {l : Launch} {E : En} {p0 : Int32} {X : Mem} {r : Int32} (h : f_Tape_tokenOf p0 = some r) : Met l y_Tape_tokenOf (Cond.code y_Tape_tokenOf c_Tape_tokenOf 1 (some .int) :: tb) ({ frames := 0, cells := 0, slots := 0, locals := 0 } : Room) (PreC E [.int p0] X) (PostI E r X) 0 0 (Ad E) := by
  refine met_of (by decide) (Nat.le_of_ble_eq_true rfl) (fun p e s m below meth c C hS ls hl => ?_)
  replace C : Cx p s m ([.int p0] : List Value).toArray meth c c_Tape_tokenOf 1 "TideLoans$Tape" (some .int) E := C
  replace hl : lv_has ls 1 [(0, .int p0)] := hl
  obtain ⟨hx, hb, hml, hown, hts, hrt, hlk, hKx⟩ := id C
  unfold f_Tape_tokenOf at h
  refine lv_iload_n hx hb d_Tape_tokenOf_0 rfl (lv_at hl 0 rfl) ?_
  refine lv_bipush (v := 97) hx hb d_Tape_tokenOf_1 (by decide) ?_
  refine r_icmp_lt (tgt := 14) C h d_Tape_tokenOf_3 (by decide) (fun h => ?_) (fun h => ?_)
  · skip
    exact k_Tape_tokenOf_j14 C h hS (lv_sub hl [0] rfl)
  · skip
    refine lv_iload_n hx hb d_Tape_tokenOf_6 rfl (lv_at hl 0 rfl) ?_
    refine lv_bipush (v := 122) hx hb d_Tape_tokenOf_7 (by decide) ?_
    refine r_icmp_gt (tgt := 14) C h d_Tape_tokenOf_9 (by decide) (fun h => ?_) (fun h => ?_)
    · skip
      exact k_Tape_tokenOf_j14 C h hS (lv_sub hl [0] rfl)
    · skip
      refine lv_iconst (v := 1) hx hb d_Tape_tokenOf_12 (by decide) ?_
      exact r_iret0 C hS rfl h d_Tape_tokenOf_13
def I_Tape_step_b93 (p : Program) (l : Launch) (e : Env) (s : State) (m : MethodId) (args : Array Value) (below : List Frame) (meth : Method) (c : Code) (E : En) (Y : Mem) (n : Nat) (tg : Mem) : Prop := ∀ (X : Mem) (H : Heap) (locs : List Loc) (ls : Array Slot), it (fun a => f_Tape_step_b93 a) n X = some tg → Hs E s.heap X H locs → lv_has ls 1 [(0, .ref (ad E 44))] → W p l e ({ frames := 1, cells := 0, slots := 0, locals := 20 } : Room) s m args below meth c H locs 0 0 (MQ below (PostV E Y) args s 0 0 (Ad E)) (F0 m 93 ls [])
def I_Tape_step_b0 (p : Program) (l : Launch) (e : Env) (s : State) (m : MethodId) (args : Array Value) (below : List Frame) (meth : Method) (c : Code) (E : En) (Y : Mem) (n : Nat) (tg : Mem) : Prop := ∀ (X : Mem) (H : Heap) (locs : List Loc) (ls : Array Slot), it (fun a => f_Tape_step_b0 a) n X = some tg → Hs E s.heap X H locs → lv_has ls 1 [(0, .ref (ad E 44))] → W p l e ({ frames := 1, cells := 0, slots := 0, locals := 20 } : Room) s m args below meth c H locs 0 0 (MQ below (PostV E Y) args s 0 0 (Ad E)) (F0 m 0 ls [])
set_option maxHeartbeats 4000000 in
set_option maxRecDepth 100000 in
theorem k_Tape_step_b93 {p : Program} {l : Launch} {e : Env} {s : State} {m : MethodId} {args : Array Value} {below : List Frame} {meth : Method} {c : Code} {E : En} {Y : Mem} (C : Cx p s m args meth c c_Tape_step 1 "TideLoans$Tape" none E) : ∀ n, I_Tape_step_b93 p l e s m args below meth c E Y n Y := by
  obtain ⟨hx, hb, hml, hown, hts, hrt, hlk, hKx⟩ := id C
  intro n
  induction n with
  | zero => intro X H locs ls h; exact it_0 h
  | succ n ih =>
    intro X H locs ls h hS hl
    obtain ⟨cc93, h, hc93⟩ := it_el h
    replace h : f_Tape_step_b93 X = some cc93 := h
    unfold f_Tape_step_b93 at h
    refine lv_aload_n hx hb d_Tape_step_93 rfl (lv_at hl 0 rfl) ?_
    refine r_getI C hS (by decide) cel_Tape (rfl : cls[2]? = some (R_Tape, T_Tape, 6)) in_Tape 4 (by decide) tw_169 rfl h d_Tape_step_94 (fun v1 h => ?_)
    refine lv_aload_n hx hb d_Tape_step_97 rfl (lv_at hl 0 rfl) ?_
    refine r_getI C hS (by decide) cel_Tape (rfl : cls[2]? = some (R_Tape, T_Tape, 6)) in_Tape 1 (by decide) tw_163 rfl h d_Tape_step_98 (fun v2 h => ?_)
    refine r_icmp_ge (tgt := 153) C h d_Tape_step_101 (by decide) (fun h => ?_) (fun h => ?_)
    · skip
      replace h := lp_ret h hc93
      exact r_vret C hS rfl h d_Tape_step_153
    · skip
      refine lv_aload_n hx hb d_Tape_step_104 rfl (lv_at hl 0 rfl) ?_
      refine r_get C hS (by decide) cel_Tape (rfl : cls[2]? = some (R_Tape, T_Tape, 6)) in_Tape 0 (by decide) tw_162 rfl d_Tape_step_105 ?_
      refine lv_aload_n hx hb d_Tape_step_108 rfl (lv_at hl 0 rfl) ?_
      refine r_getI C hS (by decide) cel_Tape (rfl : cls[2]? = some (R_Tape, T_Tape, 6)) in_Tape 4 (by decide) tw_169 rfl h d_Tape_step_109 (fun v3 h => ?_)
      refine r_ldB C hS (n := 120) rfl (by decide) h d_Tape_step_112 (fun v4 h => ?_)
      obtain ⟨v5, hr6, h⟩ := bd_el h
      refine c_I hS (c_runS (As := [.int v4]) (rest := []) C hS (k_Tape_tokenOf (l := l) (E := E) (X := X) hr6) cw_Tape_tokenOf ini_Tape_tokenOf sta_Tape_tokenOf tw_597 hd_Tape_tokenOf rfl ⟨⟨rfl, rfl⟩, (Nat.le_of_ble_eq_true rfl), (Nat.le_of_ble_eq_true rfl)⟩ ⟨(Nat.le_of_ble_eq_true rfl), (Nat.le_of_ble_eq_true rfl)⟩ hl.1 rfl (Nat.le_of_ble_eq_true rfl) d_Tape_step_113) (fun H locs hS => ?_)
      refine lv_aload_n hx hb d_Tape_step_116 rfl (lv_at hl 0 rfl) ?_
      refine r_getI C hS (by decide) cel_Tape (rfl : cls[2]? = some (R_Tape, T_Tape, 6)) in_Tape 2 (by decide) tw_165 rfl h d_Tape_step_117 (fun v7 h => ?_)
      refine r_icmp_ne (tgt := 153) C h d_Tape_step_120 (by decide) (fun h => ?_) (fun h => ?_)
      · skip
        replace h := lp_ret h hc93
        exact r_vret C hS rfl h d_Tape_step_153
      · skip
        refine lv_aload_n hx hb d_Tape_step_123 rfl (lv_at hl 0 rfl) ?_
        refine lv_dup hx hb d_Tape_step_124 rfl ?_
        refine r_getI C hS (by decide) cel_Tape (rfl : cls[2]? = some (R_Tape, T_Tape, 6)) in_Tape 4 (by decide) tw_169 rfl h d_Tape_step_125 (fun v8 h => ?_)
        refine lv_iconst (v := 1) hx hb d_Tape_step_128 (by decide) ?_
        refine lv_iadd hx hb d_Tape_step_129 ?_
        refine r_putI C hS (by decide) cel_Tape (rfl : cls[2]? = some (R_Tape, T_Tape, 6)) in_Tape ty_Tape tyok_Tape nm_Tape 4 (by decide) tw_169 rfl rfl rfl (Nat.le_of_ble_eq_true rfl) set_Tape_4 rfl h d_Tape_step_130 (fun X9 H locs hS h => ?_)
        refine lv_goto (tgt := 93) hx hb d_Tape_step_133 (by decide) ?_
        exact ih _ _ _ _ (lp_next h hc93) hS (lv_sub hl [0] rfl)
set_option maxHeartbeats 4000000 in
set_option maxRecDepth 100000 in
theorem k_Tape_step_j74 {p : Program} {l : Launch} {e : Env} {s : State} {m : MethodId} {args : Array Value} {below : List Frame} {meth : Method} {c : Code} {E : En} {Y : Mem} (C : Cx p s m args meth c c_Tape_step 1 "TideLoans$Tape" none E) {q1 : Int32} {X : Mem} (h : f_Tape_step_j74 q1 X = some Y) {H : Heap} {locs : List Loc} (hS : Hs E s.heap X H locs) {ls : Array Slot} (hl : lv_has ls 1 [(0, .ref (ad E 44))]) : W p l e ({ frames := 1, cells := 0, slots := 0, locals := 20 } : Room) s m args below meth c H locs 0 0 (MQ below (PostV E Y) args s 0 0 (Ad E)) (F0 m 74 ls [.int q1, .ref (ad E 44)]) := by
  obtain ⟨hx, hb, hml, hown, hts, hrt, hlk, hKx⟩ := id C
  unfold f_Tape_step_j74 at h
  refine r_putI C hS (by decide) cel_Tape (rfl : cls[2]? = some (R_Tape, T_Tape, 6)) in_Tape ty_Tape tyok_Tape nm_Tape 2 (by decide) tw_165 rfl rfl rfl (Nat.le_of_ble_eq_true rfl) set_Tape_2 rfl h d_Tape_step_74 (fun X1 H locs hS h => ?_)
  refine lv_aload_n hx hb d_Tape_step_77 rfl (lv_at hl 0 rfl) ?_
  refine r_getI C hS (by decide) cel_Tape (rfl : cls[2]? = some (R_Tape, T_Tape, 6)) in_Tape 2 (by decide) tw_165 rfl h d_Tape_step_78 (fun v2 h => ?_)
  refine lv_iconst (v := 1) hx hb d_Tape_step_81 (by decide) ?_
  refine r_icmp_eq (tgt := 93) C h d_Tape_step_82 (by decide) (fun h => ?_) (fun h => ?_)
  · skip
    exact k_Tape_step_b93 C FU _ _ _ _ h hS (lv_sub hl [0] rfl)
  · skip
    refine lv_aload_n hx hb d_Tape_step_85 rfl (lv_at hl 0 rfl) ?_
    refine r_getI C hS (by decide) cel_Tape (rfl : cls[2]? = some (R_Tape, T_Tape, 6)) in_Tape 2 (by decide) tw_165 rfl h d_Tape_step_86 (fun v3 h => ?_)
    refine lv_iconst (v := 2) hx hb d_Tape_step_89 (by decide) ?_
    refine r_icmp_ne (tgt := 136) C h d_Tape_step_90 (by decide) (fun h => ?_) (fun h => ?_)
    · skip
      refine lv_aload_n hx hb d_Tape_step_136 rfl (lv_at hl 0 rfl) ?_
      refine r_getI C hS (by decide) cel_Tape (rfl : cls[2]? = some (R_Tape, T_Tape, 6)) in_Tape 2 (by decide) tw_165 rfl h d_Tape_step_137 (fun v4 h => ?_)
      refine r_if_eq (tgt := 153) C h d_Tape_step_140 (by decide) (fun h => ?_) (fun h => ?_)
      · skip
        exact r_vret C hS rfl h d_Tape_step_153
      · skip
        refine lv_aload_n hx hb d_Tape_step_143 rfl (lv_at hl 0 rfl) ?_
        refine lv_dup hx hb d_Tape_step_144 rfl ?_
        refine r_getI C hS (by decide) cel_Tape (rfl : cls[2]? = some (R_Tape, T_Tape, 6)) in_Tape 4 (by decide) tw_169 rfl h d_Tape_step_145 (fun v5 h => ?_)
        refine lv_iconst (v := 1) hx hb d_Tape_step_148 (by decide) ?_
        refine lv_iadd hx hb d_Tape_step_149 ?_
        refine r_putI C hS (by decide) cel_Tape (rfl : cls[2]? = some (R_Tape, T_Tape, 6)) in_Tape ty_Tape tyok_Tape nm_Tape 4 (by decide) tw_169 rfl rfl rfl (Nat.le_of_ble_eq_true rfl) set_Tape_4 rfl h d_Tape_step_150 (fun X6 H locs hS h => ?_)
        exact r_vret C hS rfl h d_Tape_step_153
    · skip
      exact k_Tape_step_b93 C FU _ _ _ _ h hS (lv_sub hl [0] rfl)
set_option maxHeartbeats 4000000 in
set_option maxRecDepth 100000 in
theorem k_Tape_step_j38 {p : Program} {l : Launch} {e : Env} {s : State} {m : MethodId} {args : Array Value} {below : List Frame} {meth : Method} {c : Code} {E : En} {Y : Mem} (C : Cx p s m args meth c c_Tape_step 1 "TideLoans$Tape" none E) {X : Mem} (h : f_Tape_step_j38 X = some Y) {H : Heap} {locs : List Loc} (hS : Hs E s.heap X H locs) {ls : Array Slot} (hl : lv_has ls 1 [(0, .ref (ad E 44))]) : W p l e ({ frames := 1, cells := 0, slots := 0, locals := 20 } : Room) s m args below meth c H locs 0 0 (MQ below (PostV E Y) args s 0 0 (Ad E)) (F0 m 38 ls []) := by
  obtain ⟨hx, hb, hml, hown, hts, hrt, hlk, hKx⟩ := id C
  unfold f_Tape_step_j38 at h
  refine lv_aload_n hx hb d_Tape_step_38 rfl (lv_at hl 0 rfl) ?_
  refine lv_aload_n hx hb d_Tape_step_39 rfl (lv_at hl 0 rfl) ?_
  refine r_getI C hS (by decide) cel_Tape (rfl : cls[2]? = some (R_Tape, T_Tape, 6)) in_Tape 4 (by decide) tw_169 rfl h d_Tape_step_40 (fun v1 h => ?_)
  refine r_putI C hS (by decide) cel_Tape (rfl : cls[2]? = some (R_Tape, T_Tape, 6)) in_Tape ty_Tape tyok_Tape nm_Tape 3 (by decide) tw_167 rfl rfl rfl (Nat.le_of_ble_eq_true rfl) set_Tape_3 rfl h d_Tape_step_43 (fun X2 H locs hS h => ?_)
  refine lv_aload_n hx hb d_Tape_step_46 rfl (lv_at hl 0 rfl) ?_
  refine lv_aload_n hx hb d_Tape_step_47 rfl (lv_at hl 0 rfl) ?_
  refine r_getI C hS (by decide) cel_Tape (rfl : cls[2]? = some (R_Tape, T_Tape, 6)) in_Tape 4 (by decide) tw_169 rfl h d_Tape_step_48 (fun v3 h => ?_)
  refine lv_aload_n hx hb d_Tape_step_51 rfl (lv_at hl 0 rfl) ?_
  refine r_getI C hS (by decide) cel_Tape (rfl : cls[2]? = some (R_Tape, T_Tape, 6)) in_Tape 1 (by decide) tw_163 rfl h d_Tape_step_52 (fun v4 h => ?_)
  refine r_icmp_ge (tgt := 73) C h d_Tape_step_55 (by decide) (fun h => ?_) (fun h => ?_)
  · skip
    refine lv_iconst (v := 0) hx hb d_Tape_step_73 (by decide) ?_
    exact k_Tape_step_j74 C h hS (lv_sub hl [0] rfl)
  · skip
    refine lv_aload_n hx hb d_Tape_step_58 rfl (lv_at hl 0 rfl) ?_
    refine r_get C hS (by decide) cel_Tape (rfl : cls[2]? = some (R_Tape, T_Tape, 6)) in_Tape 0 (by decide) tw_162 rfl d_Tape_step_59 ?_
    refine lv_aload_n hx hb d_Tape_step_62 rfl (lv_at hl 0 rfl) ?_
    refine r_getI C hS (by decide) cel_Tape (rfl : cls[2]? = some (R_Tape, T_Tape, 6)) in_Tape 4 (by decide) tw_169 rfl h d_Tape_step_63 (fun v5 h => ?_)
    refine r_ldB C hS (n := 120) rfl (by decide) h d_Tape_step_66 (fun v6 h => ?_)
    obtain ⟨v7, hr8, h⟩ := bd_el h
    refine c_I hS (c_runS (As := [.int v6]) (rest := [.ref (ad E 44)]) C hS (k_Tape_tokenOf (l := l) (E := E) (X := X2) hr8) cw_Tape_tokenOf ini_Tape_tokenOf sta_Tape_tokenOf tw_597 hd_Tape_tokenOf rfl ⟨⟨rfl, rfl⟩, (Nat.le_of_ble_eq_true rfl), (Nat.le_of_ble_eq_true rfl)⟩ ⟨(Nat.le_of_ble_eq_true rfl), (Nat.le_of_ble_eq_true rfl)⟩ hl.1 rfl (Nat.le_of_ble_eq_true rfl) d_Tape_step_67) (fun H locs hS => ?_)
    refine lv_goto (tgt := 74) hx hb d_Tape_step_70 (by decide) ?_
    exact k_Tape_step_j74 C h hS (lv_sub hl [0] rfl)
set_option maxHeartbeats 4000000 in
set_option maxRecDepth 100000 in
theorem k_Tape_step_b0 {p : Program} {l : Launch} {e : Env} {s : State} {m : MethodId} {args : Array Value} {below : List Frame} {meth : Method} {c : Code} {E : En} {Y : Mem} (C : Cx p s m args meth c c_Tape_step 1 "TideLoans$Tape" none E) : ∀ n, I_Tape_step_b0 p l e s m args below meth c E Y n Y := by
  obtain ⟨hx, hb, hml, hown, hts, hrt, hlk, hKx⟩ := id C
  intro n
  induction n with
  | zero => intro X H locs ls h; exact it_0 h
  | succ n ih =>
    intro X H locs ls h hS hl
    obtain ⟨cc0, h, hc0⟩ := it_el h
    replace h : f_Tape_step_b0 X = some cc0 := h
    unfold f_Tape_step_b0 at h
    refine lv_aload_n hx hb d_Tape_step_0 rfl (lv_at hl 0 rfl) ?_
    refine r_getI C hS (by decide) cel_Tape (rfl : cls[2]? = some (R_Tape, T_Tape, 6)) in_Tape 4 (by decide) tw_169 rfl h d_Tape_step_1 (fun v1 h => ?_)
    refine lv_aload_n hx hb d_Tape_step_4 rfl (lv_at hl 0 rfl) ?_
    refine r_getI C hS (by decide) cel_Tape (rfl : cls[2]? = some (R_Tape, T_Tape, 6)) in_Tape 1 (by decide) tw_163 rfl h d_Tape_step_5 (fun v2 h => ?_)
    refine r_icmp_ge (tgt := 38) C h d_Tape_step_8 (by decide) (fun h => ?_) (fun h => ?_)
    · skip
      replace h := lp_up h hc0
      exact k_Tape_step_j38 C h hS (lv_sub hl [0] rfl)
    · skip
      refine lv_aload_n hx hb d_Tape_step_11 rfl (lv_at hl 0 rfl) ?_
      refine r_get C hS (by decide) cel_Tape (rfl : cls[2]? = some (R_Tape, T_Tape, 6)) in_Tape 0 (by decide) tw_162 rfl d_Tape_step_12 ?_
      refine lv_aload_n hx hb d_Tape_step_15 rfl (lv_at hl 0 rfl) ?_
      refine r_getI C hS (by decide) cel_Tape (rfl : cls[2]? = some (R_Tape, T_Tape, 6)) in_Tape 4 (by decide) tw_169 rfl h d_Tape_step_16 (fun v3 h => ?_)
      refine r_ldB C hS (n := 120) rfl (by decide) h d_Tape_step_19 (fun v4 h => ?_)
      refine lv_bipush (v := 32) hx hb d_Tape_step_20 (by decide) ?_
      refine r_icmp_ne (tgt := 38) C h d_Tape_step_22 (by decide) (fun h => ?_) (fun h => ?_)
      · skip
        replace h := lp_up h hc0
        exact k_Tape_step_j38 C h hS (lv_sub hl [0] rfl)
      · skip
        refine lv_aload_n hx hb d_Tape_step_25 rfl (lv_at hl 0 rfl) ?_
        refine lv_dup hx hb d_Tape_step_26 rfl ?_
        refine r_getI C hS (by decide) cel_Tape (rfl : cls[2]? = some (R_Tape, T_Tape, 6)) in_Tape 4 (by decide) tw_169 rfl h d_Tape_step_27 (fun v5 h => ?_)
        refine lv_iconst (v := 1) hx hb d_Tape_step_30 (by decide) ?_
        refine lv_iadd hx hb d_Tape_step_31 ?_
        refine r_putI C hS (by decide) cel_Tape (rfl : cls[2]? = some (R_Tape, T_Tape, 6)) in_Tape ty_Tape tyok_Tape nm_Tape 4 (by decide) tw_169 rfl rfl rfl (Nat.le_of_ble_eq_true rfl) set_Tape_4 rfl h d_Tape_step_32 (fun X6 H locs hS h => ?_)
        refine lv_goto (tgt := 0) hx hb d_Tape_step_35 (by decide) ?_
        exact ih _ _ _ _ (lp_next h hc0) hS (lv_sub hl [0] rfl)
set_option maxHeartbeats 4000000 in
set_option maxRecDepth 100000 in
theorem k_Tape_step {l : Launch} {E : En} {X : Mem} {Y : Mem} (h : f_Tape_step X = some Y) : Met l y_Tape_step (Cond.code y_Tape_step c_Tape_step 1 none :: tb) ({ frames := 1, cells := 0, slots := 0, locals := 20 } : Room) (PreC E [.ref (ad E 44)] X) (PostV E Y) 0 0 (Ad E) := by
  refine met_of (by decide) (Nat.le_of_ble_eq_true rfl) (fun p e s m below meth c C hS ls hl => ?_)
  replace C : Cx p s m ([.ref (ad E 44)] : List Value).toArray meth c c_Tape_step 1 "TideLoans$Tape" none E := C
  replace hl : lv_has ls 1 [(0, .ref (ad E 44))] := hl
  obtain ⟨hx, hb, hml, hown, hts, hrt, hlk, hKx⟩ := id C
  unfold f_Tape_step at h
  exact k_Tape_step_b0 C FU _ _ _ _ h hS (lv_sub hl [0] rfl)
set_option maxHeartbeats 4000000 in
set_option maxRecDepth 100000 in
theorem k_Tape_rewind {l : Launch} {E : En} {X : Mem} {Y : Mem} (h : f_Tape_rewind X = some Y) : Met l y_Tape_rewind (Cond.code y_Tape_rewind c_Tape_rewind 1 none :: tb) ({ frames := 2, cells := 0, slots := 0, locals := 40 } : Room) (PreC E [.ref (ad E 44)] X) (PostV E Y) 0 0 (Ad E) := by
  refine met_of (by decide) (Nat.le_of_ble_eq_true rfl) (fun p e s m below meth c C hS ls hl => ?_)
  replace C : Cx p s m ([.ref (ad E 44)] : List Value).toArray meth c c_Tape_rewind 1 "TideLoans$Tape" none E := C
  replace hl : lv_has ls 1 [(0, .ref (ad E 44))] := hl
  obtain ⟨hx, hb, hml, hown, hts, hrt, hlk, hKx⟩ := id C
  unfold f_Tape_rewind at h
  refine lv_aload_n hx hb d_Tape_rewind_0 rfl (lv_at hl 0 rfl) ?_
  refine lv_iconst (v := 0) hx hb d_Tape_rewind_1 (by decide) ?_
  refine r_putI C hS (by decide) cel_Tape (rfl : cls[2]? = some (R_Tape, T_Tape, 6)) in_Tape ty_Tape tyok_Tape nm_Tape 4 (by decide) tw_169 rfl rfl rfl (Nat.le_of_ble_eq_true rfl) set_Tape_4 rfl h d_Tape_rewind_2 (fun X1 H locs hS h => ?_)
  refine lv_aload_n hx hb d_Tape_rewind_5 rfl (lv_at hl 0 rfl) ?_
  obtain ⟨X3, hr2, h⟩ := bd_el h
  refine c_V hS (c_runV (As := []) (rest := []) C hS (by decide) cel_Tape (rfl : cls[2]? = some (R_Tape, T_Tape, 6)) (k_Tape_step (l := l) (E := E) (X := X1) hr2) cw_Tape_step ini_Tape_step ins_Tape_step sel_Tape_step tw_593 hd_Tape_step rfl ⟨⟨rfl, rfl⟩, (Nat.le_of_ble_eq_true rfl), (Nat.le_of_ble_eq_true rfl)⟩ ⟨(Nat.le_of_ble_eq_true rfl), (Nat.le_of_ble_eq_true rfl)⟩ hl.1 rfl (Nat.le_of_ble_eq_true rfl) d_Tape_rewind_6) (fun H locs hS => ?_)
  exact r_vret C hS rfl h d_Tape_rewind_9
def I_Tape_isNumberTo_b10 (p : Program) (l : Launch) (e : Env) (s : State) (m : MethodId) (args : Array Value) (below : List Frame) (meth : Method) (c : Code) (E : En) (r : Int32) (Y : Mem) (x1 : Int32) (n : Nat) (tg : (Int32 × Mem)) : Prop := ∀ (x2 : Int32) (X : Mem) (H : Heap) (locs : List Loc) (ls : Array Slot), it (fun a => f_Tape_isNumberTo_b10 x1 a.1 a.2) n (x2, X) = some tg → Hs E s.heap X H locs → lv_has ls 3 [(0, .ref (ad E 44)), (1, .int x1), (2, .int x2)] → W p l e ({ frames := 1, cells := 0, slots := 0, locals := 30 } : Room) s m args below meth c H locs 0 0 (MQ below (PostI E r Y) args s 0 0 (Ad E)) (F0 m 10 ls [])
set_option maxHeartbeats 4000000 in
set_option maxRecDepth 100000 in
theorem k_Tape_isNumberTo_j59 {p : Program} {l : Launch} {e : Env} {s : State} {m : MethodId} {args : Array Value} {below : List Frame} {meth : Method} {c : Code} {E : En} {r : Int32} {Y : Mem} (C : Cx p s m args meth c c_Tape_isNumberTo 3 "TideLoans$Tape" (some .boolean) E) {x1 : Int32} {X : Mem} (h : f_Tape_isNumberTo_j59 x1 X = some (r, Y)) {H : Heap} {locs : List Loc} (hS : Hs E s.heap X H locs) {ls : Array Slot} (hl : lv_has ls 3 [(0, .ref (ad E 44)), (1, .int x1)]) : W p l e ({ frames := 1, cells := 0, slots := 0, locals := 30 } : Room) s m args below meth c H locs 0 0 (MQ below (PostI E r Y) args s 0 0 (Ad E)) (F0 m 59 ls []) := by
  obtain ⟨hx, hb, hml, hown, hts, hrt, hlk, hKx⟩ := id C
  unfold f_Tape_isNumberTo_j59 at h
  refine lv_aload_n hx hb d_Tape_isNumberTo_59 rfl (lv_at hl 0 rfl) ?_
  refine r_getI C hS (by decide) cel_Tape (rfl : cls[2]? = some (R_Tape, T_Tape, 6)) in_Tape 2 (by decide) tw_165 rfl h d_Tape_isNumberTo_60 (fun v1 h => ?_)
  refine lv_iconst (v := 2) hx hb d_Tape_isNumberTo_63 (by decide) ?_
  refine r_icmp_ne (tgt := 79) C h d_Tape_isNumberTo_64 (by decide) (fun h => ?_) (fun h => ?_)
  · skip
    refine lv_iconst (v := 0) hx hb d_Tape_isNumberTo_79 (by decide) ?_
    exact r_zret C hS rfl (Or.inl rfl) h d_Tape_isNumberTo_80
  · skip
    refine lv_aload_n hx hb d_Tape_isNumberTo_67 rfl (lv_at hl 0 rfl) ?_
    refine r_getI C hS (by decide) cel_Tape (rfl : cls[2]? = some (R_Tape, T_Tape, 6)) in_Tape 5 (by decide) tw_170 rfl h d_Tape_isNumberTo_68 (fun v2 h => ?_)
    refine lv_iload_n hx hb d_Tape_isNumberTo_71 rfl (lv_at hl 1 rfl) ?_
    refine r_icmp_gt (tgt := 79) C h d_Tape_isNumberTo_72 (by decide) (fun h => ?_) (fun h => ?_)
    · skip
      refine lv_iconst (v := 0) hx hb d_Tape_isNumberTo_79 (by decide) ?_
      exact r_zret C hS rfl (Or.inl rfl) h d_Tape_isNumberTo_80
    · skip
      refine lv_iconst (v := 1) hx hb d_Tape_isNumberTo_75 (by decide) ?_
      refine lv_goto (tgt := 80) hx hb d_Tape_isNumberTo_76 (by decide) ?_
      exact r_zret C hS rfl (Or.inr rfl) h d_Tape_isNumberTo_80
set_option maxHeartbeats 4000000 in
set_option maxRecDepth 100000 in
theorem k_Tape_isNumberTo_b10 {p : Program} {l : Launch} {e : Env} {s : State} {m : MethodId} {args : Array Value} {below : List Frame} {meth : Method} {c : Code} {E : En} {r : Int32} {Y : Mem} (C : Cx p s m args meth c c_Tape_isNumberTo 3 "TideLoans$Tape" (some .boolean) E) (x1 : Int32) : ∀ n, I_Tape_isNumberTo_b10 p l e s m args below meth c E r Y x1 n (r, Y) := by
  obtain ⟨hx, hb, hml, hown, hts, hrt, hlk, hKx⟩ := id C
  intro n
  induction n with
  | zero => intro x2 X H locs ls h; exact it_0 h
  | succ n ih =>
    intro x2 X H locs ls h hS hl
    obtain ⟨cc10, h, hc10⟩ := it_el h
    replace h : f_Tape_isNumberTo_b10 x1 x2 X = some cc10 := h
    unfold f_Tape_isNumberTo_b10 at h
    refine lv_iload_n hx hb d_Tape_isNumberTo_10 rfl (lv_at hl 2 rfl) ?_
    refine lv_aload_n hx hb d_Tape_isNumberTo_11 rfl (lv_at hl 0 rfl) ?_
    refine r_getI C hS (by decide) cel_Tape (rfl : cls[2]? = some (R_Tape, T_Tape, 6)) in_Tape 4 (by decide) tw_169 rfl h d_Tape_isNumberTo_12 (fun v1 h => ?_)
    refine r_icmp_ge (tgt := 59) C h d_Tape_isNumberTo_15 (by decide) (fun h => ?_) (fun h => ?_)
    · skip
      replace h := lp_up h hc10
      exact k_Tape_isNumberTo_j59 C h hS (lv_sub hl [0, 1] rfl)
    · skip
      refine lv_aload_n hx hb d_Tape_isNumberTo_18 rfl (lv_at hl 0 rfl) ?_
      refine r_getI C hS (by decide) cel_Tape (rfl : cls[2]? = some (R_Tape, T_Tape, 6)) in_Tape 2 (by decide) tw_165 rfl h d_Tape_isNumberTo_19 (fun v2 h => ?_)
      refine lv_iconst (v := 2) hx hb d_Tape_isNumberTo_22 (by decide) ?_
      refine r_icmp_ne (tgt := 59) C h d_Tape_isNumberTo_23 (by decide) (fun h => ?_) (fun h => ?_)
      · skip
        replace h := lp_up h hc10
        exact k_Tape_isNumberTo_j59 C h hS (lv_sub hl [0, 1] rfl)
      · skip
        refine lv_aload_n hx hb d_Tape_isNumberTo_26 rfl (lv_at hl 0 rfl) ?_
        refine lv_sipush (v := 10000) hx hb d_Tape_isNumberTo_27 (by decide) ?_
        refine lv_aload_n hx hb d_Tape_isNumberTo_30 rfl (lv_at hl 0 rfl) ?_
        refine r_getI C hS (by decide) cel_Tape (rfl : cls[2]? = some (R_Tape, T_Tape, 6)) in_Tape 5 (by decide) tw_170 rfl h d_Tape_isNumberTo_31 (fun v3 h => ?_)
        refine lv_bipush (v := 10) hx hb d_Tape_isNumberTo_34 (by decide) ?_
        refine lv_imul hx hb d_Tape_isNumberTo_36 ?_
        refine lv_aload_n hx hb d_Tape_isNumberTo_37 rfl (lv_at hl 0 rfl) ?_
        refine r_get C hS (by decide) cel_Tape (rfl : cls[2]? = some (R_Tape, T_Tape, 6)) in_Tape 0 (by decide) tw_162 rfl d_Tape_isNumberTo_38 ?_
        refine lv_iload_n hx hb d_Tape_isNumberTo_41 rfl (lv_at hl 2 rfl) ?_
        refine r_ldB C hS (n := 120) rfl (by decide) h d_Tape_isNumberTo_42 (fun v4 h => ?_)
        refine lv_iadd hx hb d_Tape_isNumberTo_43 ?_
        refine lv_bipush (v := 48) hx hb d_Tape_isNumberTo_44 (by decide) ?_
        refine lv_isub hx hb d_Tape_isNumberTo_46 ?_
        refine va_mmin hx hb (hml.trans hl.1.symm) hown (hts _ tw_680) (hts _ tw_457) (hts _ tw_71) (hts _ code_va_mmin) (Nat.le_of_ble_eq_true rfl) (Nat.le_of_ble_eq_true rfl) (Nat.le_of_ble_eq_true rfl) (Nat.le_of_ble_eq_true rfl) d_Tape_isNumberTo_47 ?_
        refine r_top h (fun v5 h => ?_)
        refine r_putI C hS (by decide) cel_Tape (rfl : cls[2]? = some (R_Tape, T_Tape, 6)) in_Tape ty_Tape tyok_Tape nm_Tape 5 (by decide) tw_170 rfl rfl rfl (Nat.le_of_ble_eq_true rfl) set_Tape_5 rfl h d_Tape_isNumberTo_50 (fun X6 H locs hS h => ?_)
        refine r_iinc C (w := 1) (lv' := fun z => [(2, .int z), (0, .ref (ad E 44)), (1, .int x1)]) h d_Tape_isNumberTo_53 hl (k := 2) rfl (by decide) (by decide) (fun _ => rfl) (fun v7 ls h hl => ?_)
        refine lv_goto (tgt := 10) hx hb d_Tape_isNumberTo_56 (by decide) ?_
        exact ih _ _ _ _ _ (lp_next h hc10) hS (lv_sub hl [1, 2, 0] rfl)
set_option maxHeartbeats 4000000 in
set_option maxRecDepth 100000 in
theorem k_Tape_isNumberTo {l : Launch} {E : En} {p1 : Int32} {X : Mem} {r : Int32} {Y : Mem} (h : f_Tape_isNumberTo p1 X = some (r, Y)) : Met l y_Tape_isNumberTo (Cond.code y_Tape_isNumberTo c_Tape_isNumberTo 3 (some .boolean) :: tb) ({ frames := 1, cells := 0, slots := 0, locals := 30 } : Room) (PreC E [.ref (ad E 44), .int p1] X) (PostI E r Y) 0 0 (Ad E) := by
  refine met_of (by decide) (Nat.le_of_ble_eq_true rfl) (fun p e s m below meth c C hS ls hl => ?_)
  replace C : Cx p s m ([.ref (ad E 44), .int p1] : List Value).toArray meth c c_Tape_isNumberTo 3 "TideLoans$Tape" (some .boolean) E := C
  replace hl : lv_has ls 3 [(0, .ref (ad E 44)), (1, .int p1)] := hl
  obtain ⟨hx, hb, hml, hown, hts, hrt, hlk, hKx⟩ := id C
  unfold f_Tape_isNumberTo at h
  refine lv_aload_n hx hb d_Tape_isNumberTo_0 rfl (lv_at hl 0 rfl) ?_
  refine lv_iconst (v := 0) hx hb d_Tape_isNumberTo_1 (by decide) ?_
  refine r_putI C hS (by decide) cel_Tape (rfl : cls[2]? = some (R_Tape, T_Tape, 6)) in_Tape ty_Tape tyok_Tape nm_Tape 5 (by decide) tw_170 rfl rfl rfl (Nat.le_of_ble_eq_true rfl) set_Tape_5 rfl h d_Tape_isNumberTo_2 (fun X1 H locs hS h => ?_)
  refine lv_aload_n hx hb d_Tape_isNumberTo_5 rfl (lv_at hl 0 rfl) ?_
  refine r_getI C hS (by decide) cel_Tape (rfl : cls[2]? = some (R_Tape, T_Tape, 6)) in_Tape 3 (by decide) tw_167 rfl h d_Tape_isNumberTo_6 (fun v2 h => ?_)
  refine lv_istore_n (lv' := [(2, .int v2), (0, .ref (ad E 44)), (1, .int p1)]) hx hb d_Tape_isNumberTo_9 rfl hl (by decide) rfl (fun ls hl => ?_)
  exact k_Tape_isNumberTo_b10 C _ FU _ _ _ _ _ h hS (lv_sub hl [1, 2, 0] rfl)
def I_Tape_isWord_b28 (p : Program) (l : Launch) (e : Env) (s : State) (m : MethodId) (args : Array Value) (below : List Frame) (meth : Method) (c : Code) (E : En) (r : Int32) (x1 : Nat) (X : Mem) (n : Nat) (tg : Int32) : Prop := ∀ (x2 : Int32) (H : Heap) (locs : List Loc) (ls : Array Slot), it (fun a => f_Tape_isWord_b28 x1 X a) n x2 = some tg → Hs E s.heap X H locs → lv_has ls 3 [(0, .ref (ad E 44)), (1, .ref (eK E x1)), (2, .int x2)] → W p l e ({ frames := 7, cells := 0, slots := 0, locals := 181 } : Room) s m args below meth c H locs 0 0 (MQ below (PostI E r X) args s 0 0 (Ad E)) (F0 m 28 ls [])
set_option maxHeartbeats 4000000 in
set_option maxRecDepth 100000 in
theorem k_Tape_isWord_b28 {p : Program} {l : Launch} {e : Env} {s : State} {m : MethodId} {args : Array Value} {below : List Frame} {meth : Method} {c : Code} {E : En} {r : Int32} (C : Cx p s m args meth c c_Tape_isWord 3 "TideLoans$Tape" (some .boolean) E) (x1 : Nat) {X : Mem} : ∀ n, I_Tape_isWord_b28 p l e s m args below meth c E r x1 X n r := by
  obtain ⟨hx, hb, hml, hown, hts, hrt, hlk, hKx⟩ := id C
  intro n
  induction n with
  | zero => intro x2 H locs ls h; exact it_0 h
  | succ n ih =>
    intro x2 H locs ls h hS hl
    obtain ⟨cc28, h, hc28⟩ := it_el h
    replace h : f_Tape_isWord_b28 x1 X x2 = some cc28 := h
    unfold f_Tape_isWord_b28 at h
    refine lv_iload_n hx hb d_Tape_isWord_28 rfl (lv_at hl 2 rfl) ?_
    refine lv_aload_n hx hb d_Tape_isWord_29 rfl (lv_at hl 1 rfl) ?_
    obtain ⟨v1, hr2, h⟩ := bd_el h
    refine c_I hS (c_runStr (As := []) (rest := [.int x2]) C hS (str_lt_String_length hr2) (k_String_length (l := l) (E := E) (X := X) hr2) cw_String_length ini_String_length ins_String_length sel_String_length tw_621 hd_String_length rfl ⟨⟨rfl, rfl⟩, (Nat.le_of_ble_eq_true rfl), (Nat.le_of_ble_eq_true rfl)⟩ ⟨(Nat.le_of_ble_eq_true rfl), (Nat.le_of_ble_eq_true rfl)⟩ hl.1 rfl (Nat.le_of_ble_eq_true rfl) d_Tape_isWord_30) (fun H locs hS => ?_)
    refine r_icmp_ge (tgt := 63) C h d_Tape_isWord_33 (by decide) (fun h => ?_) (fun h => ?_)
    · skip
      refine lv_iconst (v := 1) hx hb d_Tape_isWord_63 (by decide) ?_
      replace h := lp_ret h hc28
      exact r_zret0 C hS rfl (Or.inr rfl) h d_Tape_isWord_64
    · skip
      refine lv_aload_n hx hb d_Tape_isWord_36 rfl (lv_at hl 0 rfl) ?_
      refine r_get C hS (by decide) cel_Tape (rfl : cls[2]? = some (R_Tape, T_Tape, 6)) in_Tape 0 (by decide) tw_162 rfl d_Tape_isWord_37 ?_
      refine lv_aload_n hx hb d_Tape_isWord_40 rfl (lv_at hl 0 rfl) ?_
      refine r_getI C hS (by decide) cel_Tape (rfl : cls[2]? = some (R_Tape, T_Tape, 6)) in_Tape 3 (by decide) tw_167 rfl h d_Tape_isWord_41 (fun v3 h => ?_)
      refine lv_iload_n hx hb d_Tape_isWord_44 rfl (lv_at hl 2 rfl) ?_
      refine lv_iadd hx hb d_Tape_isWord_45 ?_
      refine r_ldB C hS (n := 120) rfl (by decide) h d_Tape_isWord_46 (fun v4 h => ?_)
      refine lv_aload_n hx hb d_Tape_isWord_47 rfl (lv_at hl 1 rfl) ?_
      refine lv_iload_n hx hb d_Tape_isWord_48 rfl (lv_at hl 2 rfl) ?_
      obtain ⟨v5, hr6, h⟩ := bd_el h
      refine c_I hS (c_runStr (As := [.int x2]) (rest := [.int v4]) C hS (str_lt_String_charAt hr6) (k_String_charAt (l := l) (E := E) (X := X) hr6) cw_String_charAt ini_String_charAt ins_String_charAt sel_String_charAt tw_631 hd_String_charAt rfl ⟨⟨rfl, rfl⟩, (Nat.le_of_ble_eq_true rfl), (Nat.le_of_ble_eq_true rfl)⟩ ⟨(Nat.le_of_ble_eq_true rfl), (Nat.le_of_ble_eq_true rfl)⟩ hl.1 rfl (Nat.le_of_ble_eq_true rfl) d_Tape_isWord_49) (fun H locs hS => ?_)
      refine r_icmp_eq (tgt := 57) C h d_Tape_isWord_52 (by decide) (fun h => ?_) (fun h => ?_)
      · skip
        refine r_iinc C (w := 1) (lv' := fun z => [(2, .int z), (0, .ref (ad E 44)), (1, .ref (eK E x1))]) h d_Tape_isWord_57 hl (k := 2) rfl (by decide) (by decide) (fun _ => rfl) (fun v7 ls h hl => ?_)
        refine lv_goto (tgt := 28) hx hb d_Tape_isWord_60 (by decide) ?_
        exact ih _ _ _ _ (lp_next h hc28) hS (lv_sub hl [1, 2, 0] rfl)
      · skip
        refine lv_iconst (v := 0) hx hb d_Tape_isWord_55 (by decide) ?_
        replace h := lp_ret h hc28
        exact r_zret0 C hS rfl (Or.inl rfl) h d_Tape_isWord_56
set_option maxHeartbeats 4000000 in
set_option maxRecDepth 100000 in
theorem k_Tape_isWord {l : Launch} {E : En} {p1 : Nat} {X : Mem} {r : Int32} (h : f_Tape_isWord p1 X = some r) : Met l y_Tape_isWord (Cond.code y_Tape_isWord c_Tape_isWord 3 (some .boolean) :: tb) ({ frames := 7, cells := 0, slots := 0, locals := 181 } : Room) (PreC E [.ref (ad E 44), .ref (eK E p1)] X) (PostI E r X) 0 0 (Ad E) := by
  refine met_of (by decide) (Nat.le_of_ble_eq_true rfl) (fun p e s m below meth c C hS ls hl => ?_)
  replace C : Cx p s m ([.ref (ad E 44), .ref (eK E p1)] : List Value).toArray meth c c_Tape_isWord 3 "TideLoans$Tape" (some .boolean) E := C
  replace hl : lv_has ls 3 [(0, .ref (ad E 44)), (1, .ref (eK E p1))] := hl
  obtain ⟨hx, hb, hml, hown, hts, hrt, hlk, hKx⟩ := id C
  unfold f_Tape_isWord at h
  refine lv_aload_n hx hb d_Tape_isWord_0 rfl (lv_at hl 0 rfl) ?_
  refine r_getI C hS (by decide) cel_Tape (rfl : cls[2]? = some (R_Tape, T_Tape, 6)) in_Tape 2 (by decide) tw_165 rfl h d_Tape_isWord_1 (fun v1 h => ?_)
  refine lv_iconst (v := 1) hx hb d_Tape_isWord_4 (by decide) ?_
  refine r_icmp_ne (tgt := 24) C h d_Tape_isWord_5 (by decide) (fun h => ?_) (fun h => ?_)
  · skip
    refine lv_iconst (v := 0) hx hb d_Tape_isWord_24 (by decide) ?_
    exact r_zret0 C hS rfl (Or.inl rfl) h d_Tape_isWord_25
  · skip
    refine lv_aload_n hx hb d_Tape_isWord_8 rfl (lv_at hl 0 rfl) ?_
    refine r_getI C hS (by decide) cel_Tape (rfl : cls[2]? = some (R_Tape, T_Tape, 6)) in_Tape 4 (by decide) tw_169 rfl h d_Tape_isWord_9 (fun v2 h => ?_)
    refine lv_aload_n hx hb d_Tape_isWord_12 rfl (lv_at hl 0 rfl) ?_
    refine r_getI C hS (by decide) cel_Tape (rfl : cls[2]? = some (R_Tape, T_Tape, 6)) in_Tape 3 (by decide) tw_167 rfl h d_Tape_isWord_13 (fun v3 h => ?_)
    refine lv_isub hx hb d_Tape_isWord_16 ?_
    refine lv_aload_n hx hb d_Tape_isWord_17 rfl (lv_at hl 1 rfl) ?_
    obtain ⟨v4, hr5, h⟩ := bd_el h
    refine c_I hS (c_runStr (As := []) (rest := [.int (v2 - v3)]) C hS (str_lt_String_length hr5) (k_String_length (l := l) (E := E) (X := X) hr5) cw_String_length ini_String_length ins_String_length sel_String_length tw_621 hd_String_length rfl ⟨⟨rfl, rfl⟩, (Nat.le_of_ble_eq_true rfl), (Nat.le_of_ble_eq_true rfl)⟩ ⟨(Nat.le_of_ble_eq_true rfl), (Nat.le_of_ble_eq_true rfl)⟩ hl.1 rfl (Nat.le_of_ble_eq_true rfl) d_Tape_isWord_18) (fun H locs hS => ?_)
    refine r_icmp_eq (tgt := 26) C h d_Tape_isWord_21 (by decide) (fun h => ?_) (fun h => ?_)
    · skip
      refine lv_iconst (v := 0) hx hb d_Tape_isWord_26 (by decide) ?_
      refine lv_istore_n (lv' := [(2, .int (0 : Int32)), (0, .ref (ad E 44)), (1, .ref (eK E p1))]) hx hb d_Tape_isWord_27 rfl hl (by decide) rfl (fun ls hl => ?_)
      exact k_Tape_isWord_b28 C _ FU _ _ _ _ h hS (lv_sub hl [1, 2, 0] rfl)
    · skip
      refine lv_iconst (v := 0) hx hb d_Tape_isWord_24 (by decide) ?_
      exact r_zret0 C hS rfl (Or.inl rfl) h d_Tape_isWord_25
set_option maxHeartbeats 4000000 in
set_option maxRecDepth 100000 in
theorem k_Tape_nameOf {l : Launch} {E : En} {p0 : Int32} {X : Mem} {r : Nat} (h : f_Tape_nameOf p0 = some r) : Met l y_Tape_nameOf (Cond.code y_Tape_nameOf c_Tape_nameOf 1 (some (.object "java/lang/String")) :: tb) ({ frames := 0, cells := 0, slots := 0, locals := 0 } : Room) (PreC E [.int p0] X) (PostR E r X) 0 0 (Ad E) := by
  refine met_of (by decide) (Nat.le_of_ble_eq_true rfl) (fun p e s m below meth c C hS ls hl => ?_)
  replace C : Cx p s m ([.int p0] : List Value).toArray meth c c_Tape_nameOf 1 "TideLoans$Tape" (some (.object "java/lang/String")) E := C
  replace hl : lv_has ls 1 [(0, .int p0)] := hl
  obtain ⟨hx, hb, hml, hown, hts, hrt, hlk, hKx⟩ := id C
  unfold f_Tape_nameOf at h
  refine lv_iload_n hx hb d_Tape_nameOf_0 rfl (lv_at hl 0 rfl) ?_
  refine sw_c (v := 1) (w := 1) (by decide) h (fun hv h => ?_) (fun hn1 h => ?_)
  · refine r_tabIn C hv d_Tape_nameOf_1 (by decide) (by decide) rfl (tgt := 36) (by decide) ?_
    refine va_ldcS (own := "TideLoans$Tape") (index := 61) (tx := "named") (q := eK E 0) hx hb hown (hKx.2.2.2.1 0 (by decide)) d_Tape_nameOf_36 ?_
    exact r_sret C hS rfl h d_Tape_nameOf_38
  refine sw_c (v := 2) (w := 2) (by decide) h (fun hv h => ?_) (fun hn2 h => ?_)
  · refine r_tabIn C hv d_Tape_nameOf_1 (by decide) (by decide) rfl (tgt := 39) (by decide) ?_
    refine va_ldcS (own := "TideLoans$Tape") (index := 63) (tx := "grudge") (q := eK E 1) hx hb hown (hKx.2.2.2.1 1 (by decide)) d_Tape_nameOf_39 ?_
    exact r_sret C hS rfl h d_Tape_nameOf_41
  refine sw_c (v := 3) (w := 3) (by decide) h (fun hv h => ?_) (fun hn3 h => ?_)
  · refine r_tabIn C hv d_Tape_nameOf_1 (by decide) (by decide) rfl (tgt := 42) (by decide) ?_
    refine va_ldcS (own := "TideLoans$Tape") (index := 65) (tx := "moonless") (q := eK E 2) hx hb hown (hKx.2.2.2.1 2 (by decide)) d_Tape_nameOf_42 ?_
    exact r_sret C hS rfl h d_Tape_nameOf_44
  refine sw_c (v := 4) (w := 4) (by decide) h (fun hv h => ?_) (fun hn4 h => ?_)
  · refine r_tabIn C hv d_Tape_nameOf_1 (by decide) (by decide) rfl (tgt := 45) (by decide) ?_
    refine va_ldcS (own := "TideLoans$Tape") (index := 67) (tx := "twice") (q := eK E 3) hx hb hown (hKx.2.2.2.1 3 (by decide)) d_Tape_nameOf_45 ?_
    exact r_sret C hS rfl h d_Tape_nameOf_47
  refine sw_c (v := 5) (w := 5) (by decide) h (fun hv h => ?_) (fun hn5 h => ?_)
  · refine r_tabIn C hv d_Tape_nameOf_1 (by decide) (by decide) rfl (tgt := 48) (by decide) ?_
    refine va_ldcS (own := "TideLoans$Tape") (index := 69) (tx := "glass") (q := eK E 4) hx hb hown (hKx.2.2.2.1 4 (by decide)) d_Tape_nameOf_48 ?_
    exact r_sret C hS rfl h d_Tape_nameOf_50
  refine lv_tableOut (tgt := 51) hx hb d_Tape_nameOf_1 (out_e (k := 6) (out_s (k := 5) (k1 := 6) (out_s (k := 4) (k1 := 5) (out_s (k := 3) (k1 := 4) (out_s (k := 2) (k1 := 3) (out_s (k := 1) (k1 := 2) out_0 hn1 (by decide)) hn2 (by decide)) hn3 (by decide)) hn4 (by decide)) hn5 (by decide)) (by decide)) (by decide) ?_
  refine va_ldcS (own := "TideLoans$Tape") (index := 71) (tx := "chair") (q := eK E 5) hx hb hown (hKx.2.2.2.1 5 (by decide)) d_Tape_nameOf_51 ?_
  exact r_sret C hS rfl h d_Tape_nameOf_53
def I_Tape_kindNamed_b2 (p : Program) (l : Launch) (e : Env) (s : State) (m : MethodId) (args : Array Value) (below : List Frame) (meth : Method) (c : Code) (E : En) (r : Int32) (X : Mem) (n : Nat) (tg : Int32) : Prop := ∀ (x1 : Int32) (H : Heap) (locs : List Loc) (ls : Array Slot), it (fun a => f_Tape_kindNamed_b2 X a) n x1 = some tg → Hs E s.heap X H locs → lv_has ls 2 [(0, .ref (ad E 44)), (1, .int x1)] → W p l e ({ frames := 8, cells := 0, slots := 0, locals := 203 } : Room) s m args below meth c H locs 0 0 (MQ below (PostI E r X) args s 0 0 (Ad E)) (F0 m 2 ls [])
set_option maxHeartbeats 4000000 in
set_option maxRecDepth 100000 in
theorem k_Tape_kindNamed_b2 {p : Program} {l : Launch} {e : Env} {s : State} {m : MethodId} {args : Array Value} {below : List Frame} {meth : Method} {c : Code} {E : En} {r : Int32} (C : Cx p s m args meth c c_Tape_kindNamed 2 "TideLoans$Tape" (some .int) E) {X : Mem} : ∀ n, I_Tape_kindNamed_b2 p l e s m args below meth c E r X n r := by
  obtain ⟨hx, hb, hml, hown, hts, hrt, hlk, hKx⟩ := id C
  intro n
  induction n with
  | zero => intro x1 H locs ls h; exact it_0 h
  | succ n ih =>
    intro x1 H locs ls h hS hl
    obtain ⟨cc2, h, hc2⟩ := it_el h
    replace h : f_Tape_kindNamed_b2 X x1 = some cc2 := h
    unfold f_Tape_kindNamed_b2 at h
    refine lv_iload_n hx hb d_Tape_kindNamed_2 rfl (lv_at hl 1 rfl) ?_
    refine lv_bipush (v := 6) hx hb d_Tape_kindNamed_3 (by decide) ?_
    refine r_icmp_ge (tgt := 27) C h d_Tape_kindNamed_5 (by decide) (fun h => ?_) (fun h => ?_)
    · skip
      refine lv_iconst (v := -1) hx hb d_Tape_kindNamed_27 (by decide) ?_
      replace h := lp_ret h hc2
      exact r_iret0 C hS rfl h d_Tape_kindNamed_28
    · skip
      refine lv_aload_n hx hb d_Tape_kindNamed_8 rfl (lv_at hl 0 rfl) ?_
      refine lv_iload_n hx hb d_Tape_kindNamed_9 rfl (lv_at hl 1 rfl) ?_
      obtain ⟨v1, hr2, h⟩ := bd_el h
      refine c_R hS (c_runS (As := [.int x1]) (rest := [.ref (ad E 44)]) C hS (k_Tape_nameOf (l := l) (E := E) (X := X) hr2) cw_Tape_nameOf ini_Tape_nameOf sta_Tape_nameOf tw_608 hd_Tape_nameOf rfl ⟨⟨rfl, rfl⟩, (Nat.le_of_ble_eq_true rfl), (Nat.le_of_ble_eq_true rfl)⟩ ⟨(Nat.le_of_ble_eq_true rfl), (Nat.le_of_ble_eq_true rfl)⟩ hl.1 rfl (Nat.le_of_ble_eq_true rfl) d_Tape_kindNamed_10) (fun H locs hS => ?_)
      obtain ⟨v3, hr4, h⟩ := bd_el h
      refine c_I hS (c_runV (As := [.ref (eK E v1)]) (rest := []) C hS (by decide) cel_Tape (rfl : cls[2]? = some (R_Tape, T_Tape, 6)) (k_Tape_isWord (l := l) (E := E) (X := X) hr4) cw_Tape_isWord ini_Tape_isWord ins_Tape_isWord sel_Tape_isWord tw_617 hd_Tape_isWord rfl ⟨⟨rfl, rfl⟩, (Nat.le_of_ble_eq_true rfl), (Nat.le_of_ble_eq_true rfl)⟩ ⟨(Nat.le_of_ble_eq_true rfl), (Nat.le_of_ble_eq_true rfl)⟩ hl.1 rfl (Nat.le_of_ble_eq_true rfl) d_Tape_kindNamed_13) (fun H locs hS => ?_)
      refine r_if_eq (tgt := 21) C h d_Tape_kindNamed_16 (by decide) (fun h => ?_) (fun h => ?_)
      · skip
        refine r_iinc C (w := 1) (lv' := fun z => [(1, .int z), (0, .ref (ad E 44))]) h d_Tape_kindNamed_21 hl (k := 1) rfl (by decide) (by decide) (fun _ => rfl) (fun v5 ls h hl => ?_)
        refine lv_goto (tgt := 2) hx hb d_Tape_kindNamed_24 (by decide) ?_
        exact ih _ _ _ _ (lp_next h hc2) hS (lv_sub hl [1, 0] rfl)
      · skip
        refine lv_iload_n hx hb d_Tape_kindNamed_19 rfl (lv_at hl 1 rfl) ?_
        replace h := lp_ret h hc2
        exact r_iret0 C hS rfl h d_Tape_kindNamed_20
set_option maxHeartbeats 4000000 in
set_option maxRecDepth 100000 in
theorem k_Tape_kindNamed {l : Launch} {E : En} {X : Mem} {r : Int32} (h : f_Tape_kindNamed X = some r) : Met l y_Tape_kindNamed (Cond.code y_Tape_kindNamed c_Tape_kindNamed 2 (some .int) :: tb) ({ frames := 8, cells := 0, slots := 0, locals := 203 } : Room) (PreC E [.ref (ad E 44)] X) (PostI E r X) 0 0 (Ad E) := by
  refine met_of (by decide) (Nat.le_of_ble_eq_true rfl) (fun p e s m below meth c C hS ls hl => ?_)
  replace C : Cx p s m ([.ref (ad E 44)] : List Value).toArray meth c c_Tape_kindNamed 2 "TideLoans$Tape" (some .int) E := C
  replace hl : lv_has ls 2 [(0, .ref (ad E 44))] := hl
  obtain ⟨hx, hb, hml, hown, hts, hrt, hlk, hKx⟩ := id C
  unfold f_Tape_kindNamed at h
  refine lv_iconst (v := 0) hx hb d_Tape_kindNamed_0 (by decide) ?_
  refine lv_istore_n (lv' := [(1, .int (0 : Int32)), (0, .ref (ad E 44))]) hx hb d_Tape_kindNamed_1 rfl hl (by decide) rfl (fun ls hl => ?_)
  exact k_Tape_kindNamed_b2 C FU _ _ _ _ h hS (lv_sub hl [1, 0] rfl)
set_option maxHeartbeats 4000000 in
set_option maxRecDepth 100000 in
theorem k_Thing_layAt {l : Launch} {E : En} {k0 : Nat} {p1 : Int32} {X : Mem} {Y : Mem} (hk0 : kd k0 = 2) (h : f_Thing_layAt k0 p1 X = some Y) : Met l y_Thing_layAt (Cond.code y_Thing_layAt c_Thing_layAt 2 none :: tb) ({ frames := 0, cells := 0, slots := 0, locals := 0 } : Room) (PreC E [.ref (ad E k0), .int p1] X) (PostV E Y) 0 0 (Ad E) := by
  refine met_of (by decide) (Nat.le_of_ble_eq_true rfl) (fun p e s m below meth c C hS ls hl => ?_)
  replace C : Cx p s m ([.ref (ad E k0), .int p1] : List Value).toArray meth c c_Thing_layAt 2 "TideLoans$Thing" none E := C
  replace hl : lv_has ls 2 [(0, .ref (ad E k0)), (1, .int p1)] := hl
  obtain ⟨hx, hb, hml, hown, hts, hrt, hlk, hKx⟩ := id C
  unfold f_Thing_layAt at h
  refine lv_aload_n hx hb d_Thing_layAt_0 rfl (lv_at hl 0 rfl) ?_
  refine lv_iload_n hx hb d_Thing_layAt_1 rfl (lv_at hl 1 rfl) ?_
  refine r_putI C hS (kd_lt hk0 (by decide)) (cel_Thing hk0) (rfl : cls[3]? = some (R_Thing, T_Thing, 6)) in_Thing ty_Thing tyok_Thing nm_Thing 2 (by decide) tw_104 rfl rfl rfl (Nat.le_of_ble_eq_true rfl) (set_Thing_2 hk0) rfl h d_Thing_layAt_2 (fun X1 H locs hS h => ?_)
  refine lv_aload_n hx hb d_Thing_layAt_5 rfl (lv_at hl 0 rfl) ?_
  refine lv_iconst (v := 1) hx hb d_Thing_layAt_6 (by decide) ?_
  refine r_putI C hS (kd_lt hk0 (by decide)) (cel_Thing hk0) (rfl : cls[3]? = some (R_Thing, T_Thing, 6)) in_Thing ty_Thing tyok_Thing nm_Thing 4 (by decide) tw_111 rfl rfl rfl (Nat.le_of_ble_eq_true rfl) (set_Thing_4 hk0) rfl h d_Thing_layAt_7 (fun X2 H locs hS h => ?_)
  exact r_vret C hS rfl h d_Thing_layAt_10
set_option maxHeartbeats 4000000 in
set_option maxRecDepth 100000 in
theorem k_Tide_isSpring {l : Launch} {E : En} {p0 : Int32} {X : Mem} {r : Int32} (h : f_Tide_isSpring p0 = some r) : Met l y_Tide_isSpring (Cond.code y_Tide_isSpring c_Tide_isSpring 1 (some .boolean) :: tb) ({ frames := 0, cells := 0, slots := 0, locals := 0 } : Room) (PreC E [.int p0] X) (PostI E r X) 0 0 (Ad E) := by
  refine met_of (by decide) (Nat.le_of_ble_eq_true rfl) (fun p e s m below meth c C hS ls hl => ?_)
  replace C : Cx p s m ([.int p0] : List Value).toArray meth c c_Tide_isSpring 1 "TideLoans" (some .boolean) E := C
  replace hl : lv_has ls 1 [(0, .int p0)] := hl
  obtain ⟨hx, hb, hml, hown, hts, hrt, hlk, hKx⟩ := id C
  unfold f_Tide_isSpring at h
  refine lv_iload_n hx hb d_Tide_isSpring_0 rfl (lv_at hl 0 rfl) ?_
  refine lv_bipush (v := 14) hx hb d_Tide_isSpring_1 (by decide) ?_
  refine lv_irem hx hb d_Tide_isSpring_3 (by decide) ?_
  refine r_if_ne (tgt := 11) C h d_Tide_isSpring_4 (by decide) (fun h => ?_) (fun h => ?_)
  · skip
    refine lv_iconst (v := 0) hx hb d_Tide_isSpring_11 (by decide) ?_
    exact r_zret0 C hS rfl (Or.inl rfl) h d_Tide_isSpring_12
  · skip
    refine lv_iconst (v := 1) hx hb d_Tide_isSpring_7 (by decide) ?_
    refine lv_goto (tgt := 12) hx hb d_Tide_isSpring_8 (by decide) ?_
    exact r_zret0 C hS rfl (Or.inr rfl) h d_Tide_isSpring_12
set_option maxHeartbeats 4000000 in
set_option maxRecDepth 100000 in
theorem k_Tide_markOf_j21 {p : Program} {l : Launch} {e : Env} {s : State} {m : MethodId} {args : Array Value} {below : List Frame} {meth : Method} {c : Code} {E : En} {r : Int32} (C : Cx p s m args meth c c_Tide_markOf 3 "TideLoans" (some .int) E) {q0 : Int32} {X : Mem} (h : f_Tide_markOf_j21 q0 = some r) {H : Heap} {locs : List Loc} (hS : Hs E s.heap X H locs) {ls : Array Slot} (hl : lv_has ls 3 []) : W p l e ({ frames := 0, cells := 0, slots := 0, locals := 0 } : Room) s m args below meth c H locs 0 0 (MQ below (PostI E r X) args s 0 0 (Ad E)) (F0 m 21 ls [.int q0]) := by
  obtain ⟨hx, hb, hml, hown, hts, hrt, hlk, hKx⟩ := id C
  unfold f_Tide_markOf_j21 at h
  refine lv_istore_n (lv' := [(2, .int q0)]) hx hb d_Tide_markOf_21 rfl hl (by decide) rfl (fun ls hl => ?_)
  refine lv_bipush (v := 9) hx hb d_Tide_markOf_22 (by decide) ?_
  refine lv_iload_n hx hb d_Tide_markOf_24 rfl (lv_at hl 0 rfl) ?_
  refine lv_isub hx hb d_Tide_markOf_25 ?_
  exact r_iret0 C hS rfl h d_Tide_markOf_26
set_option maxHeartbeats 4000000 in
set_option maxRecDepth 100000 in
theorem k_Tide_markOf {l : Launch} {E : En} {p0 : Int32} {X : Mem} {r : Int32} (h : f_Tide_markOf p0 = some r) : Met l y_Tide_markOf (Cond.code y_Tide_markOf c_Tide_markOf 3 (some .int) :: tb) ({ frames := 0, cells := 0, slots := 0, locals := 0 } : Room) (PreC E [.int p0] X) (PostI E r X) 0 0 (Ad E) := by
  refine met_of (by decide) (Nat.le_of_ble_eq_true rfl) (fun p e s m below meth c C hS ls hl => ?_)
  replace C : Cx p s m ([.int p0] : List Value).toArray meth c c_Tide_markOf 3 "TideLoans" (some .int) E := C
  replace hl : lv_has ls 3 [(0, .int p0)] := hl
  obtain ⟨hx, hb, hml, hown, hts, hrt, hlk, hKx⟩ := id C
  unfold f_Tide_markOf at h
  refine lv_iload_n hx hb d_Tide_markOf_0 rfl (lv_at hl 0 rfl) ?_
  refine lv_bipush (v := 14) hx hb d_Tide_markOf_1 (by decide) ?_
  refine lv_irem hx hb d_Tide_markOf_3 (by decide) ?_
  refine r_top h (fun v1 h => ?_)
  refine lv_istore_n (lv' := [(1, .int v1), (0, .int p0)]) hx hb d_Tide_markOf_4 rfl hl (by decide) rfl (fun ls hl => ?_)
  refine lv_iload_n hx hb d_Tide_markOf_5 rfl (lv_at hl 0 rfl) ?_
  refine lv_bipush (v := 14) hx hb d_Tide_markOf_6 (by decide) ?_
  refine lv_iload_n hx hb d_Tide_markOf_8 rfl (lv_at hl 0 rfl) ?_
  refine lv_isub hx hb d_Tide_markOf_9 ?_
  refine r_icmp_ge (tgt := 17) C h d_Tide_markOf_10 (by decide) (fun h => ?_) (fun h => ?_)
  · skip
    refine lv_bipush (v := 14) hx hb d_Tide_markOf_17 (by decide) ?_
    refine lv_iload_n hx hb d_Tide_markOf_19 rfl (lv_at hl 0 rfl) ?_
    refine lv_isub hx hb d_Tide_markOf_20 ?_
    exact k_Tide_markOf_j21 C h hS (lv_sub hl [] rfl)
  · skip
    refine lv_iload_n hx hb d_Tide_markOf_13 rfl (lv_at hl 0 rfl) ?_
    refine lv_goto (tgt := 21) hx hb d_Tide_markOf_14 (by decide) ?_
    exact k_Tide_markOf_j21 C h hS (lv_sub hl [] rfl)
set_option maxHeartbeats 4000000 in
set_option maxRecDepth 100000 in
theorem k_Tide_isTaken_0 {l : Launch} {E : En} {p0 : Int32} {p1 : Int32} {p2 : Int32} {X : Mem} {r : Int32} (h : f_Tide_isTaken_0 p0 p1 p2 = some r) : Met l y_Tide_isTaken (Cond.code y_Tide_isTaken c_Tide_isTaken 3 (some .boolean) :: tb) ({ frames := 1, cells := 0, slots := 0, locals := 22 } : Room) (PreC E [.int p0, .int p1, .int p2] X) (PostI E r X) 0 0 (Ad E) := by
  refine met_of (by decide) (Nat.le_of_ble_eq_true rfl) (fun p e s m below meth c C hS ls hl => ?_)
  replace C : Cx p s m ([.int p0, .int p1, .int p2] : List Value).toArray meth c c_Tide_isTaken 3 "TideLoans" (some .boolean) E := C
  replace hl : lv_has ls 3 [(0, .int p0), (1, .int p1), (2, .int p2)] := hl
  obtain ⟨hx, hb, hml, hown, hts, hrt, hlk, hKx⟩ := id C
  unfold f_Tide_isTaken_0 at h
  refine lv_iload_n hx hb d_Tide_isTaken_0 rfl (lv_at hl 0 rfl) ?_
  refine sw_c (v := 1) (w := 1) (by decide) h (fun hv h => ?_) (fun hn1 h => ?_)
  · refine r_tabIn C hv d_Tide_isTaken_1 (by decide) (by decide) rfl (tgt := 36) (by decide) ?_
    refine lv_iconst (v := 0) hx hb d_Tide_isTaken_36 (by decide) ?_
    refine lv_iload_n hx hb d_Tide_isTaken_37 rfl (lv_at hl 1 rfl) ?_
    refine lv_iload_n hx hb d_Tide_isTaken_38 rfl (lv_at hl 2 rfl) ?_
    cases h
  refine sw_c (v := 2) (w := 2) (by decide) h (fun hv h => ?_) (fun hn2 h => ?_)
  · refine r_tabIn C hv d_Tide_isTaken_1 (by decide) (by decide) rfl (tgt := 58) (by decide) ?_
    refine lv_iload_n hx hb d_Tide_isTaken_58 rfl (lv_at hl 1 rfl) ?_
    refine lv_iload_n hx hb d_Tide_isTaken_59 rfl (lv_at hl 2 rfl) ?_
    obtain ⟨v1, hr2, h⟩ := bd_el h
    refine c_I hS (c_runS (As := [.int p2]) (rest := [.int p1]) C hS (k_Tide_markOf (l := l) (E := E) (X := X) hr2) cw_Tide_markOf ini_Tide_markOf sta_Tide_markOf tw_305 hd_Tide_markOf rfl ⟨⟨rfl, rfl⟩, (Nat.le_of_ble_eq_true rfl), (Nat.le_of_ble_eq_true rfl)⟩ ⟨(Nat.le_of_ble_eq_true rfl), (Nat.le_of_ble_eq_true rfl)⟩ hl.1 rfl (Nat.le_of_ble_eq_true rfl) d_Tide_isTaken_60) (fun H locs hS => ?_)
    refine r_icmp_gt (tgt := 70) C h d_Tide_isTaken_63 (by decide) (fun h => ?_) (fun h => ?_)
    · skip
      refine lv_iconst (v := 0) hx hb d_Tide_isTaken_70 (by decide) ?_
      exact r_zret0 C hS rfl (Or.inl rfl) h d_Tide_isTaken_71
    · skip
      refine lv_iconst (v := 1) hx hb d_Tide_isTaken_66 (by decide) ?_
      refine lv_goto (tgt := 71) hx hb d_Tide_isTaken_67 (by decide) ?_
      exact r_zret0 C hS rfl (Or.inr rfl) h d_Tide_isTaken_71
  refine sw_c (v := 3) (w := 3) (by decide) h (fun hv h => ?_) (fun hn3 h => ?_)
  · refine r_tabIn C hv d_Tide_isTaken_1 (by decide) (by decide) rfl (tgt := 72) (by decide) ?_
    refine lv_iconst (v := 0) hx hb d_Tide_isTaken_72 (by decide) ?_
    refine lv_iload_n hx hb d_Tide_isTaken_73 rfl (lv_at hl 1 rfl) ?_
    refine lv_iload_n hx hb d_Tide_isTaken_74 rfl (lv_at hl 2 rfl) ?_
    cases h
  refine sw_c (v := 4) (w := 4) (by decide) h (fun hv h => ?_) (fun hn4 h => ?_)
  · refine r_tabIn C hv d_Tide_isTaken_1 (by decide) (by decide) rfl (tgt := 79) (by decide) ?_
    refine lv_iconst (v := 1) hx hb d_Tide_isTaken_79 (by decide) ?_
    refine lv_iload_n hx hb d_Tide_isTaken_80 rfl (lv_at hl 1 rfl) ?_
    refine lv_iload_n hx hb d_Tide_isTaken_81 rfl (lv_at hl 2 rfl) ?_
    cases h
  refine sw_c (v := 5) (w := 5) (by decide) h (fun hv h => ?_) (fun hn5 h => ?_)
  · refine r_tabIn C hv d_Tide_isTaken_1 (by decide) (by decide) rfl (tgt := 86) (by decide) ?_
    refine lv_iconst (v := 2) hx hb d_Tide_isTaken_86 (by decide) ?_
    refine lv_iload_n hx hb d_Tide_isTaken_87 rfl (lv_at hl 1 rfl) ?_
    refine lv_iload_n hx hb d_Tide_isTaken_88 rfl (lv_at hl 2 rfl) ?_
    cases h
  refine lv_tableOut (tgt := 108) hx hb d_Tide_isTaken_1 (out_e (k := 6) (out_s (k := 5) (k1 := 6) (out_s (k := 4) (k1 := 5) (out_s (k := 3) (k1 := 4) (out_s (k := 2) (k1 := 3) (out_s (k := 1) (k1 := 2) out_0 hn1 (by decide)) hn2 (by decide)) hn3 (by decide)) hn4 (by decide)) hn5 (by decide)) (by decide)) (by decide) ?_
  refine lv_iload_n hx hb d_Tide_isTaken_108 rfl (lv_at hl 1 rfl) ?_
  refine lv_iload_n hx hb d_Tide_isTaken_109 rfl (lv_at hl 2 rfl) ?_
  obtain ⟨v3, hr4, h⟩ := bd_el h
  refine c_I hS (c_runS (As := [.int p2]) (rest := [.int p1]) C hS (k_Tide_markOf (l := l) (E := E) (X := X) hr4) cw_Tide_markOf ini_Tide_markOf sta_Tide_markOf tw_305 hd_Tide_markOf rfl ⟨⟨rfl, rfl⟩, (Nat.le_of_ble_eq_true rfl), (Nat.le_of_ble_eq_true rfl)⟩ ⟨(Nat.le_of_ble_eq_true rfl), (Nat.le_of_ble_eq_true rfl)⟩ hl.1 rfl (Nat.le_of_ble_eq_true rfl) d_Tide_isTaken_110) (fun H locs hS => ?_)
  refine r_icmp_ge (tgt := 120) C h d_Tide_isTaken_113 (by decide) (fun h => ?_) (fun h => ?_)
  · skip
    refine lv_iconst (v := 0) hx hb d_Tide_isTaken_120 (by decide) ?_
    exact r_zret0 C hS rfl (Or.inl rfl) h d_Tide_isTaken_121
  · skip
    refine lv_iconst (v := 1) hx hb d_Tide_isTaken_116 (by decide) ?_
    refine lv_goto (tgt := 121) hx hb d_Tide_isTaken_117 (by decide) ?_
    exact r_zret0 C hS rfl (Or.inr rfl) h d_Tide_isTaken_121
set_option maxHeartbeats 4000000 in
set_option maxRecDepth 100000 in
theorem k_Tide_isTaken_1 {l : Launch} {E : En} {p0 : Int32} {p1 : Int32} {p2 : Int32} {X : Mem} {r : Int32} (h : f_Tide_isTaken_1 p0 p1 p2 = some r) : Met l y_Tide_isTaken (Cond.code y_Tide_isTaken c_Tide_isTaken 3 (some .boolean) :: tb) ({ frames := 2, cells := 0, slots := 0, locals := 44 } : Room) (PreC E [.int p0, .int p1, .int p2] X) (PostI E r X) 0 0 (Ad E) := by
  refine met_of (by decide) (Nat.le_of_ble_eq_true rfl) (fun p e s m below meth c C hS ls hl => ?_)
  replace C : Cx p s m ([.int p0, .int p1, .int p2] : List Value).toArray meth c c_Tide_isTaken 3 "TideLoans" (some .boolean) E := C
  replace hl : lv_has ls 3 [(0, .int p0), (1, .int p1), (2, .int p2)] := hl
  obtain ⟨hx, hb, hml, hown, hts, hrt, hlk, hKx⟩ := id C
  unfold f_Tide_isTaken_1 at h
  refine lv_iload_n hx hb d_Tide_isTaken_0 rfl (lv_at hl 0 rfl) ?_
  refine sw_c (v := 1) (w := 1) (by decide) h (fun hv h => ?_) (fun hn1 h => ?_)
  · refine r_tabIn C hv d_Tide_isTaken_1 (by decide) (by decide) rfl (tgt := 36) (by decide) ?_
    refine lv_iconst (v := 0) hx hb d_Tide_isTaken_36 (by decide) ?_
    refine lv_iload_n hx hb d_Tide_isTaken_37 rfl (lv_at hl 1 rfl) ?_
    refine lv_iload_n hx hb d_Tide_isTaken_38 rfl (lv_at hl 2 rfl) ?_
    obtain ⟨v1, hr2, h⟩ := bd_el h
    refine c_I hS (c_runS (As := [.int (0 : Int32), .int p1, .int p2]) (rest := []) C hS (k_Tide_isTaken_0 (l := l) (E := E) (X := X) hr2) cw_Tide_isTaken ini_Tide_isTaken sta_Tide_isTaken tw_432 hd_Tide_isTaken rfl ⟨⟨rfl, rfl⟩, (Nat.le_of_ble_eq_true rfl), (Nat.le_of_ble_eq_true rfl)⟩ ⟨(Nat.le_of_ble_eq_true rfl), (Nat.le_of_ble_eq_true rfl)⟩ hl.1 rfl (Nat.le_of_ble_eq_true rfl) d_Tide_isTaken_39) (fun H locs hS => ?_)
    refine r_if_eq (tgt := 56) C h d_Tide_isTaken_42 (by decide) (fun h => ?_) (fun h => ?_)
    · skip
      refine lv_iconst (v := 0) hx hb d_Tide_isTaken_56 (by decide) ?_
      exact r_zret0 C hS rfl (Or.inl rfl) h d_Tide_isTaken_57
    · skip
      refine lv_iload_n hx hb d_Tide_isTaken_45 rfl (lv_at hl 2 rfl) ?_
      obtain ⟨v3, hr4, h⟩ := bd_el h
      refine c_I hS (c_runS (As := [.int p2]) (rest := []) C hS (k_Tide_isSpring (l := l) (E := E) (X := X) hr4) cw_Tide_isSpring ini_Tide_isSpring sta_Tide_isSpring tw_311 hd_Tide_isSpring rfl ⟨⟨rfl, rfl⟩, (Nat.le_of_ble_eq_true rfl), (Nat.le_of_ble_eq_true rfl)⟩ ⟨(Nat.le_of_ble_eq_true rfl), (Nat.le_of_ble_eq_true rfl)⟩ hl.1 rfl (Nat.le_of_ble_eq_true rfl) d_Tide_isTaken_46) (fun H locs hS => ?_)
      refine r_if_ne (tgt := 56) C h d_Tide_isTaken_49 (by decide) (fun h => ?_) (fun h => ?_)
      · skip
        refine lv_iconst (v := 0) hx hb d_Tide_isTaken_56 (by decide) ?_
        exact r_zret0 C hS rfl (Or.inl rfl) h d_Tide_isTaken_57
      · skip
        refine lv_iconst (v := 1) hx hb d_Tide_isTaken_52 (by decide) ?_
        refine lv_goto (tgt := 57) hx hb d_Tide_isTaken_53 (by decide) ?_
        exact r_zret0 C hS rfl (Or.inr rfl) h d_Tide_isTaken_57
  refine sw_c (v := 2) (w := 2) (by decide) h (fun hv h => ?_) (fun hn2 h => ?_)
  · refine r_tabIn C hv d_Tide_isTaken_1 (by decide) (by decide) rfl (tgt := 58) (by decide) ?_
    refine lv_iload_n hx hb d_Tide_isTaken_58 rfl (lv_at hl 1 rfl) ?_
    refine lv_iload_n hx hb d_Tide_isTaken_59 rfl (lv_at hl 2 rfl) ?_
    obtain ⟨v5, hr6, h⟩ := bd_el h
    refine c_I hS (c_runS (As := [.int p2]) (rest := [.int p1]) C hS (k_Tide_markOf (l := l) (E := E) (X := X) hr6) cw_Tide_markOf ini_Tide_markOf sta_Tide_markOf tw_305 hd_Tide_markOf rfl ⟨⟨rfl, rfl⟩, (Nat.le_of_ble_eq_true rfl), (Nat.le_of_ble_eq_true rfl)⟩ ⟨(Nat.le_of_ble_eq_true rfl), (Nat.le_of_ble_eq_true rfl)⟩ hl.1 rfl (Nat.le_of_ble_eq_true rfl) d_Tide_isTaken_60) (fun H locs hS => ?_)
    refine r_icmp_gt (tgt := 70) C h d_Tide_isTaken_63 (by decide) (fun h => ?_) (fun h => ?_)
    · skip
      refine lv_iconst (v := 0) hx hb d_Tide_isTaken_70 (by decide) ?_
      exact r_zret0 C hS rfl (Or.inl rfl) h d_Tide_isTaken_71
    · skip
      refine lv_iconst (v := 1) hx hb d_Tide_isTaken_66 (by decide) ?_
      refine lv_goto (tgt := 71) hx hb d_Tide_isTaken_67 (by decide) ?_
      exact r_zret0 C hS rfl (Or.inr rfl) h d_Tide_isTaken_71
  refine sw_c (v := 3) (w := 3) (by decide) h (fun hv h => ?_) (fun hn3 h => ?_)
  · refine r_tabIn C hv d_Tide_isTaken_1 (by decide) (by decide) rfl (tgt := 72) (by decide) ?_
    refine lv_iconst (v := 0) hx hb d_Tide_isTaken_72 (by decide) ?_
    refine lv_iload_n hx hb d_Tide_isTaken_73 rfl (lv_at hl 1 rfl) ?_
    refine lv_iload_n hx hb d_Tide_isTaken_74 rfl (lv_at hl 2 rfl) ?_
    obtain ⟨v7, hr8, h⟩ := bd_el h
    refine c_I hS (c_runS (As := [.int (0 : Int32), .int p1, .int p2]) (rest := []) C hS (k_Tide_isTaken_0 (l := l) (E := E) (X := X) hr8) cw_Tide_isTaken ini_Tide_isTaken sta_Tide_isTaken tw_432 hd_Tide_isTaken rfl ⟨⟨rfl, rfl⟩, (Nat.le_of_ble_eq_true rfl), (Nat.le_of_ble_eq_true rfl)⟩ ⟨(Nat.le_of_ble_eq_true rfl), (Nat.le_of_ble_eq_true rfl)⟩ hl.1 rfl (Nat.le_of_ble_eq_true rfl) d_Tide_isTaken_75) (fun H locs hS => ?_)
    obtain ⟨hz, h⟩ := if_tr h
    exact r_zret0 C hS rfl hz h d_Tide_isTaken_78
  refine sw_c (v := 4) (w := 4) (by decide) h (fun hv h => ?_) (fun hn4 h => ?_)
  · refine r_tabIn C hv d_Tide_isTaken_1 (by decide) (by decide) rfl (tgt := 79) (by decide) ?_
    refine lv_iconst (v := 1) hx hb d_Tide_isTaken_79 (by decide) ?_
    refine lv_iload_n hx hb d_Tide_isTaken_80 rfl (lv_at hl 1 rfl) ?_
    refine lv_iload_n hx hb d_Tide_isTaken_81 rfl (lv_at hl 2 rfl) ?_
    obtain ⟨v9, hr10, h⟩ := bd_el h
    refine c_I hS (c_runS (As := [.int (1 : Int32), .int p1, .int p2]) (rest := []) C hS (k_Tide_isTaken_0 (l := l) (E := E) (X := X) hr10) cw_Tide_isTaken ini_Tide_isTaken sta_Tide_isTaken tw_432 hd_Tide_isTaken rfl ⟨⟨rfl, rfl⟩, (Nat.le_of_ble_eq_true rfl), (Nat.le_of_ble_eq_true rfl)⟩ ⟨(Nat.le_of_ble_eq_true rfl), (Nat.le_of_ble_eq_true rfl)⟩ hl.1 rfl (Nat.le_of_ble_eq_true rfl) d_Tide_isTaken_82) (fun H locs hS => ?_)
    obtain ⟨hz, h⟩ := if_tr h
    exact r_zret0 C hS rfl hz h d_Tide_isTaken_85
  refine sw_c (v := 5) (w := 5) (by decide) h (fun hv h => ?_) (fun hn5 h => ?_)
  · refine r_tabIn C hv d_Tide_isTaken_1 (by decide) (by decide) rfl (tgt := 86) (by decide) ?_
    refine lv_iconst (v := 2) hx hb d_Tide_isTaken_86 (by decide) ?_
    refine lv_iload_n hx hb d_Tide_isTaken_87 rfl (lv_at hl 1 rfl) ?_
    refine lv_iload_n hx hb d_Tide_isTaken_88 rfl (lv_at hl 2 rfl) ?_
    obtain ⟨v11, hr12, h⟩ := bd_el h
    refine c_I hS (c_runS (As := [.int (2 : Int32), .int p1, .int p2]) (rest := []) C hS (k_Tide_isTaken_0 (l := l) (E := E) (X := X) hr12) cw_Tide_isTaken ini_Tide_isTaken sta_Tide_isTaken tw_432 hd_Tide_isTaken rfl ⟨⟨rfl, rfl⟩, (Nat.le_of_ble_eq_true rfl), (Nat.le_of_ble_eq_true rfl)⟩ ⟨(Nat.le_of_ble_eq_true rfl), (Nat.le_of_ble_eq_true rfl)⟩ hl.1 rfl (Nat.le_of_ble_eq_true rfl) d_Tide_isTaken_89) (fun H locs hS => ?_)
    refine r_if_eq (tgt := 106) C h d_Tide_isTaken_92 (by decide) (fun h => ?_) (fun h => ?_)
    · skip
      refine lv_iconst (v := 0) hx hb d_Tide_isTaken_106 (by decide) ?_
      exact r_zret0 C hS rfl (Or.inl rfl) h d_Tide_isTaken_107
    · skip
      refine lv_iload_n hx hb d_Tide_isTaken_95 rfl (lv_at hl 2 rfl) ?_
      obtain ⟨v13, hr14, h⟩ := bd_el h
      refine c_I hS (c_runS (As := [.int p2]) (rest := []) C hS (k_Tide_isSpring (l := l) (E := E) (X := X) hr14) cw_Tide_isSpring ini_Tide_isSpring sta_Tide_isSpring tw_311 hd_Tide_isSpring rfl ⟨⟨rfl, rfl⟩, (Nat.le_of_ble_eq_true rfl), (Nat.le_of_ble_eq_true rfl)⟩ ⟨(Nat.le_of_ble_eq_true rfl), (Nat.le_of_ble_eq_true rfl)⟩ hl.1 rfl (Nat.le_of_ble_eq_true rfl) d_Tide_isTaken_96) (fun H locs hS => ?_)
      refine r_if_eq (tgt := 106) C h d_Tide_isTaken_99 (by decide) (fun h => ?_) (fun h => ?_)
      · skip
        refine lv_iconst (v := 0) hx hb d_Tide_isTaken_106 (by decide) ?_
        exact r_zret0 C hS rfl (Or.inl rfl) h d_Tide_isTaken_107
      · skip
        refine lv_iconst (v := 1) hx hb d_Tide_isTaken_102 (by decide) ?_
        refine lv_goto (tgt := 107) hx hb d_Tide_isTaken_103 (by decide) ?_
        exact r_zret0 C hS rfl (Or.inr rfl) h d_Tide_isTaken_107
  refine lv_tableOut (tgt := 108) hx hb d_Tide_isTaken_1 (out_e (k := 6) (out_s (k := 5) (k1 := 6) (out_s (k := 4) (k1 := 5) (out_s (k := 3) (k1 := 4) (out_s (k := 2) (k1 := 3) (out_s (k := 1) (k1 := 2) out_0 hn1 (by decide)) hn2 (by decide)) hn3 (by decide)) hn4 (by decide)) hn5 (by decide)) (by decide)) (by decide) ?_
  refine lv_iload_n hx hb d_Tide_isTaken_108 rfl (lv_at hl 1 rfl) ?_
  refine lv_iload_n hx hb d_Tide_isTaken_109 rfl (lv_at hl 2 rfl) ?_
  obtain ⟨v15, hr16, h⟩ := bd_el h
  refine c_I hS (c_runS (As := [.int p2]) (rest := [.int p1]) C hS (k_Tide_markOf (l := l) (E := E) (X := X) hr16) cw_Tide_markOf ini_Tide_markOf sta_Tide_markOf tw_305 hd_Tide_markOf rfl ⟨⟨rfl, rfl⟩, (Nat.le_of_ble_eq_true rfl), (Nat.le_of_ble_eq_true rfl)⟩ ⟨(Nat.le_of_ble_eq_true rfl), (Nat.le_of_ble_eq_true rfl)⟩ hl.1 rfl (Nat.le_of_ble_eq_true rfl) d_Tide_isTaken_110) (fun H locs hS => ?_)
  refine r_icmp_ge (tgt := 120) C h d_Tide_isTaken_113 (by decide) (fun h => ?_) (fun h => ?_)
  · skip
    refine lv_iconst (v := 0) hx hb d_Tide_isTaken_120 (by decide) ?_
    exact r_zret0 C hS rfl (Or.inl rfl) h d_Tide_isTaken_121
  · skip
    refine lv_iconst (v := 1) hx hb d_Tide_isTaken_116 (by decide) ?_
    refine lv_goto (tgt := 121) hx hb d_Tide_isTaken_117 (by decide) ?_
    exact r_zret0 C hS rfl (Or.inr rfl) h d_Tide_isTaken_121
set_option maxHeartbeats 4000000 in
set_option maxRecDepth 100000 in
theorem k_Tide_isTaken_2 {l : Launch} {E : En} {p0 : Int32} {p1 : Int32} {p2 : Int32} {X : Mem} {r : Int32} (h : f_Tide_isTaken_2 p0 p1 p2 = some r) : Met l y_Tide_isTaken (Cond.code y_Tide_isTaken c_Tide_isTaken 3 (some .boolean) :: tb) ({ frames := 3, cells := 0, slots := 0, locals := 66 } : Room) (PreC E [.int p0, .int p1, .int p2] X) (PostI E r X) 0 0 (Ad E) := by
  refine met_of (by decide) (Nat.le_of_ble_eq_true rfl) (fun p e s m below meth c C hS ls hl => ?_)
  replace C : Cx p s m ([.int p0, .int p1, .int p2] : List Value).toArray meth c c_Tide_isTaken 3 "TideLoans" (some .boolean) E := C
  replace hl : lv_has ls 3 [(0, .int p0), (1, .int p1), (2, .int p2)] := hl
  obtain ⟨hx, hb, hml, hown, hts, hrt, hlk, hKx⟩ := id C
  unfold f_Tide_isTaken_2 at h
  refine lv_iload_n hx hb d_Tide_isTaken_0 rfl (lv_at hl 0 rfl) ?_
  refine sw_c (v := 1) (w := 1) (by decide) h (fun hv h => ?_) (fun hn1 h => ?_)
  · refine r_tabIn C hv d_Tide_isTaken_1 (by decide) (by decide) rfl (tgt := 36) (by decide) ?_
    refine lv_iconst (v := 0) hx hb d_Tide_isTaken_36 (by decide) ?_
    refine lv_iload_n hx hb d_Tide_isTaken_37 rfl (lv_at hl 1 rfl) ?_
    refine lv_iload_n hx hb d_Tide_isTaken_38 rfl (lv_at hl 2 rfl) ?_
    obtain ⟨v1, hr2, h⟩ := bd_el h
    refine c_I hS (c_runS (As := [.int (0 : Int32), .int p1, .int p2]) (rest := []) C hS (k_Tide_isTaken_1 (l := l) (E := E) (X := X) hr2) cw_Tide_isTaken ini_Tide_isTaken sta_Tide_isTaken tw_432 hd_Tide_isTaken rfl ⟨⟨rfl, rfl⟩, (Nat.le_of_ble_eq_true rfl), (Nat.le_of_ble_eq_true rfl)⟩ ⟨(Nat.le_of_ble_eq_true rfl), (Nat.le_of_ble_eq_true rfl)⟩ hl.1 rfl (Nat.le_of_ble_eq_true rfl) d_Tide_isTaken_39) (fun H locs hS => ?_)
    refine r_if_eq (tgt := 56) C h d_Tide_isTaken_42 (by decide) (fun h => ?_) (fun h => ?_)
    · skip
      refine lv_iconst (v := 0) hx hb d_Tide_isTaken_56 (by decide) ?_
      exact r_zret0 C hS rfl (Or.inl rfl) h d_Tide_isTaken_57
    · skip
      refine lv_iload_n hx hb d_Tide_isTaken_45 rfl (lv_at hl 2 rfl) ?_
      obtain ⟨v3, hr4, h⟩ := bd_el h
      refine c_I hS (c_runS (As := [.int p2]) (rest := []) C hS (k_Tide_isSpring (l := l) (E := E) (X := X) hr4) cw_Tide_isSpring ini_Tide_isSpring sta_Tide_isSpring tw_311 hd_Tide_isSpring rfl ⟨⟨rfl, rfl⟩, (Nat.le_of_ble_eq_true rfl), (Nat.le_of_ble_eq_true rfl)⟩ ⟨(Nat.le_of_ble_eq_true rfl), (Nat.le_of_ble_eq_true rfl)⟩ hl.1 rfl (Nat.le_of_ble_eq_true rfl) d_Tide_isTaken_46) (fun H locs hS => ?_)
      refine r_if_ne (tgt := 56) C h d_Tide_isTaken_49 (by decide) (fun h => ?_) (fun h => ?_)
      · skip
        refine lv_iconst (v := 0) hx hb d_Tide_isTaken_56 (by decide) ?_
        exact r_zret0 C hS rfl (Or.inl rfl) h d_Tide_isTaken_57
      · skip
        refine lv_iconst (v := 1) hx hb d_Tide_isTaken_52 (by decide) ?_
        refine lv_goto (tgt := 57) hx hb d_Tide_isTaken_53 (by decide) ?_
        exact r_zret0 C hS rfl (Or.inr rfl) h d_Tide_isTaken_57
  refine sw_c (v := 2) (w := 2) (by decide) h (fun hv h => ?_) (fun hn2 h => ?_)
  · refine r_tabIn C hv d_Tide_isTaken_1 (by decide) (by decide) rfl (tgt := 58) (by decide) ?_
    refine lv_iload_n hx hb d_Tide_isTaken_58 rfl (lv_at hl 1 rfl) ?_
    refine lv_iload_n hx hb d_Tide_isTaken_59 rfl (lv_at hl 2 rfl) ?_
    obtain ⟨v5, hr6, h⟩ := bd_el h
    refine c_I hS (c_runS (As := [.int p2]) (rest := [.int p1]) C hS (k_Tide_markOf (l := l) (E := E) (X := X) hr6) cw_Tide_markOf ini_Tide_markOf sta_Tide_markOf tw_305 hd_Tide_markOf rfl ⟨⟨rfl, rfl⟩, (Nat.le_of_ble_eq_true rfl), (Nat.le_of_ble_eq_true rfl)⟩ ⟨(Nat.le_of_ble_eq_true rfl), (Nat.le_of_ble_eq_true rfl)⟩ hl.1 rfl (Nat.le_of_ble_eq_true rfl) d_Tide_isTaken_60) (fun H locs hS => ?_)
    refine r_icmp_gt (tgt := 70) C h d_Tide_isTaken_63 (by decide) (fun h => ?_) (fun h => ?_)
    · skip
      refine lv_iconst (v := 0) hx hb d_Tide_isTaken_70 (by decide) ?_
      exact r_zret0 C hS rfl (Or.inl rfl) h d_Tide_isTaken_71
    · skip
      refine lv_iconst (v := 1) hx hb d_Tide_isTaken_66 (by decide) ?_
      refine lv_goto (tgt := 71) hx hb d_Tide_isTaken_67 (by decide) ?_
      exact r_zret0 C hS rfl (Or.inr rfl) h d_Tide_isTaken_71
  refine sw_c (v := 3) (w := 3) (by decide) h (fun hv h => ?_) (fun hn3 h => ?_)
  · refine r_tabIn C hv d_Tide_isTaken_1 (by decide) (by decide) rfl (tgt := 72) (by decide) ?_
    refine lv_iconst (v := 0) hx hb d_Tide_isTaken_72 (by decide) ?_
    refine lv_iload_n hx hb d_Tide_isTaken_73 rfl (lv_at hl 1 rfl) ?_
    refine lv_iload_n hx hb d_Tide_isTaken_74 rfl (lv_at hl 2 rfl) ?_
    obtain ⟨v7, hr8, h⟩ := bd_el h
    refine c_I hS (c_runS (As := [.int (0 : Int32), .int p1, .int p2]) (rest := []) C hS (k_Tide_isTaken_1 (l := l) (E := E) (X := X) hr8) cw_Tide_isTaken ini_Tide_isTaken sta_Tide_isTaken tw_432 hd_Tide_isTaken rfl ⟨⟨rfl, rfl⟩, (Nat.le_of_ble_eq_true rfl), (Nat.le_of_ble_eq_true rfl)⟩ ⟨(Nat.le_of_ble_eq_true rfl), (Nat.le_of_ble_eq_true rfl)⟩ hl.1 rfl (Nat.le_of_ble_eq_true rfl) d_Tide_isTaken_75) (fun H locs hS => ?_)
    obtain ⟨hz, h⟩ := if_tr h
    exact r_zret0 C hS rfl hz h d_Tide_isTaken_78
  refine sw_c (v := 4) (w := 4) (by decide) h (fun hv h => ?_) (fun hn4 h => ?_)
  · refine r_tabIn C hv d_Tide_isTaken_1 (by decide) (by decide) rfl (tgt := 79) (by decide) ?_
    refine lv_iconst (v := 1) hx hb d_Tide_isTaken_79 (by decide) ?_
    refine lv_iload_n hx hb d_Tide_isTaken_80 rfl (lv_at hl 1 rfl) ?_
    refine lv_iload_n hx hb d_Tide_isTaken_81 rfl (lv_at hl 2 rfl) ?_
    obtain ⟨v9, hr10, h⟩ := bd_el h
    refine c_I hS (c_runS (As := [.int (1 : Int32), .int p1, .int p2]) (rest := []) C hS (k_Tide_isTaken_1 (l := l) (E := E) (X := X) hr10) cw_Tide_isTaken ini_Tide_isTaken sta_Tide_isTaken tw_432 hd_Tide_isTaken rfl ⟨⟨rfl, rfl⟩, (Nat.le_of_ble_eq_true rfl), (Nat.le_of_ble_eq_true rfl)⟩ ⟨(Nat.le_of_ble_eq_true rfl), (Nat.le_of_ble_eq_true rfl)⟩ hl.1 rfl (Nat.le_of_ble_eq_true rfl) d_Tide_isTaken_82) (fun H locs hS => ?_)
    obtain ⟨hz, h⟩ := if_tr h
    exact r_zret0 C hS rfl hz h d_Tide_isTaken_85
  refine sw_c (v := 5) (w := 5) (by decide) h (fun hv h => ?_) (fun hn5 h => ?_)
  · refine r_tabIn C hv d_Tide_isTaken_1 (by decide) (by decide) rfl (tgt := 86) (by decide) ?_
    refine lv_iconst (v := 2) hx hb d_Tide_isTaken_86 (by decide) ?_
    refine lv_iload_n hx hb d_Tide_isTaken_87 rfl (lv_at hl 1 rfl) ?_
    refine lv_iload_n hx hb d_Tide_isTaken_88 rfl (lv_at hl 2 rfl) ?_
    obtain ⟨v11, hr12, h⟩ := bd_el h
    refine c_I hS (c_runS (As := [.int (2 : Int32), .int p1, .int p2]) (rest := []) C hS (k_Tide_isTaken_1 (l := l) (E := E) (X := X) hr12) cw_Tide_isTaken ini_Tide_isTaken sta_Tide_isTaken tw_432 hd_Tide_isTaken rfl ⟨⟨rfl, rfl⟩, (Nat.le_of_ble_eq_true rfl), (Nat.le_of_ble_eq_true rfl)⟩ ⟨(Nat.le_of_ble_eq_true rfl), (Nat.le_of_ble_eq_true rfl)⟩ hl.1 rfl (Nat.le_of_ble_eq_true rfl) d_Tide_isTaken_89) (fun H locs hS => ?_)
    refine r_if_eq (tgt := 106) C h d_Tide_isTaken_92 (by decide) (fun h => ?_) (fun h => ?_)
    · skip
      refine lv_iconst (v := 0) hx hb d_Tide_isTaken_106 (by decide) ?_
      exact r_zret0 C hS rfl (Or.inl rfl) h d_Tide_isTaken_107
    · skip
      refine lv_iload_n hx hb d_Tide_isTaken_95 rfl (lv_at hl 2 rfl) ?_
      obtain ⟨v13, hr14, h⟩ := bd_el h
      refine c_I hS (c_runS (As := [.int p2]) (rest := []) C hS (k_Tide_isSpring (l := l) (E := E) (X := X) hr14) cw_Tide_isSpring ini_Tide_isSpring sta_Tide_isSpring tw_311 hd_Tide_isSpring rfl ⟨⟨rfl, rfl⟩, (Nat.le_of_ble_eq_true rfl), (Nat.le_of_ble_eq_true rfl)⟩ ⟨(Nat.le_of_ble_eq_true rfl), (Nat.le_of_ble_eq_true rfl)⟩ hl.1 rfl (Nat.le_of_ble_eq_true rfl) d_Tide_isTaken_96) (fun H locs hS => ?_)
      refine r_if_eq (tgt := 106) C h d_Tide_isTaken_99 (by decide) (fun h => ?_) (fun h => ?_)
      · skip
        refine lv_iconst (v := 0) hx hb d_Tide_isTaken_106 (by decide) ?_
        exact r_zret0 C hS rfl (Or.inl rfl) h d_Tide_isTaken_107
      · skip
        refine lv_iconst (v := 1) hx hb d_Tide_isTaken_102 (by decide) ?_
        refine lv_goto (tgt := 107) hx hb d_Tide_isTaken_103 (by decide) ?_
        exact r_zret0 C hS rfl (Or.inr rfl) h d_Tide_isTaken_107
  refine lv_tableOut (tgt := 108) hx hb d_Tide_isTaken_1 (out_e (k := 6) (out_s (k := 5) (k1 := 6) (out_s (k := 4) (k1 := 5) (out_s (k := 3) (k1 := 4) (out_s (k := 2) (k1 := 3) (out_s (k := 1) (k1 := 2) out_0 hn1 (by decide)) hn2 (by decide)) hn3 (by decide)) hn4 (by decide)) hn5 (by decide)) (by decide)) (by decide) ?_
  refine lv_iload_n hx hb d_Tide_isTaken_108 rfl (lv_at hl 1 rfl) ?_
  refine lv_iload_n hx hb d_Tide_isTaken_109 rfl (lv_at hl 2 rfl) ?_
  obtain ⟨v15, hr16, h⟩ := bd_el h
  refine c_I hS (c_runS (As := [.int p2]) (rest := [.int p1]) C hS (k_Tide_markOf (l := l) (E := E) (X := X) hr16) cw_Tide_markOf ini_Tide_markOf sta_Tide_markOf tw_305 hd_Tide_markOf rfl ⟨⟨rfl, rfl⟩, (Nat.le_of_ble_eq_true rfl), (Nat.le_of_ble_eq_true rfl)⟩ ⟨(Nat.le_of_ble_eq_true rfl), (Nat.le_of_ble_eq_true rfl)⟩ hl.1 rfl (Nat.le_of_ble_eq_true rfl) d_Tide_isTaken_110) (fun H locs hS => ?_)
  refine r_icmp_ge (tgt := 120) C h d_Tide_isTaken_113 (by decide) (fun h => ?_) (fun h => ?_)
  · skip
    refine lv_iconst (v := 0) hx hb d_Tide_isTaken_120 (by decide) ?_
    exact r_zret0 C hS rfl (Or.inl rfl) h d_Tide_isTaken_121
  · skip
    refine lv_iconst (v := 1) hx hb d_Tide_isTaken_116 (by decide) ?_
    refine lv_goto (tgt := 121) hx hb d_Tide_isTaken_117 (by decide) ?_
    exact r_zret0 C hS rfl (Or.inr rfl) h d_Tide_isTaken_121
