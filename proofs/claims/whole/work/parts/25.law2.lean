set_option maxHeartbeats 4000000 in
set_option maxRecDepth 100000 in
theorem k_law_j762 {p : Program} {l : Launch} {e : Env} {s : State} {m : MethodId} {below : List Frame} {meth : Method} {c : Code} {E : En} {b L : Nat} {xs : Nat → Int32} (C : Cx p s m #[Value.ref b] meth c code 4 "TideLoansLaw" (some .boolean) E) (S : Sx s E b L xs) {x3 : Int32} {X : Mem} {tg : (Int32 ⊕ (Int32 × Mem))} {n18 : Nat} (hc18 : fin (fun a => f_law_b18 xs L a.1 a.2) n18 (1 : Int32) tg) (ih18 : I_law_b18 p l e s m below meth c E b L xs n18 (1 : Int32)) (h : f_law_j762 xs L x3 X = some tg) {H : Heap} {locs : List Loc} (hS : Hs E s.heap X H locs) {ls : Array Slot} (hl : lv_has ls 4 [(0, .ref b), (1, .ref (ad E 0)), (2, .ref (ad E 70)), (3, .int x3)]) : W p l e room_1 s m #[Value.ref b] below meth c H locs 80 1374 (lw_Z below #[Value.ref b] s) (F0 m 762 ls []) := by
  obtain ⟨hx, hb, hml, hown, hts, hrt, hlk, hKx⟩ := id C
  unfold f_law_j762 at h
  refine lv_aload_n hx hb dL_762 rfl (lv_at hl 1 rfl) ?_
  refine lv_aload_n hx hb dL_763 rfl (lv_at hl 0 rfl) ?_
  refine lv_iload_n hx hb dL_764 rfl (lv_at hl 3 rfl) ?_
  refine lv_iconst (v := 1) hx hb dL_765 (by decide) ?_
  refine lv_iadd hx hb dL_766 ?_
  refine r_sld C hS S h dL_767 (fun v1 h => ?_)
  refine lv_aload_n hx hb dL_768 rfl (lv_at hl 0 rfl) ?_
  refine lv_iload_n hx hb dL_769 rfl (lv_at hl 3 rfl) ?_
  refine lv_iconst (v := 2) hx hb dL_770 (by decide) ?_
  refine lv_iadd hx hb dL_771 ?_
  refine r_sld C hS S h dL_772 (fun v2 h => ?_)
  refine lv_aload_n hx hb dL_773 rfl (lv_at hl 0 rfl) ?_
  refine lv_iload_n hx hb dL_774 rfl (lv_at hl 3 rfl) ?_
  refine lv_iconst (v := 3) hx hb dL_775 (by decide) ?_
  refine lv_iadd hx hb dL_776 ?_
  refine r_sld C hS S h dL_777 (fun v3 h => ?_)
  obtain ⟨v4, X6, hr5, h⟩ := bd2_el h
  refine c_I hS (c_runV (As := [.int v1, .int v2, .int v3]) (rest := []) C hS (by decide) cel_Tide (rfl : cls[5]? = some (R_Tide, T_Tide, 12)) (k_Tide_delay (l := l) (E := E) (X := X) hr5) cw_Tide_delay ini_Tide_delay ins_Tide_delay sel_Tide_delay tw_521 hd_Tide_delay rfl ⟨⟨rfl, rfl⟩, (Nat.le_of_ble_eq_true rfl), (Nat.le_of_ble_eq_true rfl)⟩ ⟨(Nat.le_of_ble_eq_true rfl), (Nat.le_of_ble_eq_true rfl)⟩ hl.1 rfl (Nat.le_of_ble_eq_true rfl) dL_778) (fun H locs hS => ?_)
  refine lv_aload_n hx hb dL_781 rfl (lv_at hl 2 rfl) ?_
  refine lv_aload_n hx hb dL_782 rfl (lv_at hl 0 rfl) ?_
  refine lv_iload_n hx hb dL_783 rfl (lv_at hl 3 rfl) ?_
  refine lv_iconst (v := 1) hx hb dL_784 (by decide) ?_
  refine lv_iadd hx hb dL_785 ?_
  refine r_sld C hS S h dL_786 (fun v7 h => ?_)
  refine lv_aload_n hx hb dL_787 rfl (lv_at hl 0 rfl) ?_
  refine lv_iload_n hx hb dL_788 rfl (lv_at hl 3 rfl) ?_
  refine lv_iconst (v := 2) hx hb dL_789 (by decide) ?_
  refine lv_iadd hx hb dL_790 ?_
  refine r_sld C hS S h dL_791 (fun v8 h => ?_)
  refine lv_aload_n hx hb dL_792 rfl (lv_at hl 0 rfl) ?_
  refine lv_iload_n hx hb dL_793 rfl (lv_at hl 3 rfl) ?_
  refine lv_iconst (v := 3) hx hb dL_794 (by decide) ?_
  refine lv_iadd hx hb dL_795 ?_
  refine r_sld C hS S h dL_796 (fun v9 h => ?_)
  obtain ⟨v10, X12, hr11, h⟩ := bd2_el h
  refine c_I hS (c_runV (As := [.int v7, .int v8, .int v9]) (rest := [.int v4]) C hS (by decide) cel_Model (rfl : cls[6]? = some (R_Model, T_Model, 16)) (k_Model_delay (l := l) (E := E) (X := X6) hr11) cw_Model_delay ini_Model_delay ins_Model_delay sel_Model_delay tw_1045 hd_Model_delay rfl ⟨⟨rfl, rfl⟩, (Nat.le_of_ble_eq_true rfl), (Nat.le_of_ble_eq_true rfl)⟩ ⟨(Nat.le_of_ble_eq_true rfl), (Nat.le_of_ble_eq_true rfl)⟩ hl.1 rfl (Nat.le_of_ble_eq_true rfl) dL_797) (fun H locs hS => ?_)
  refine r_icmp_eq (tgt := 1403) C h dL_800 (by decide) (fun h => ?_) (fun h => ?_)
  · skip
    exact k_law_j1403 C S hc18 ih18 h hS (lv_sub hl [0, 1, 2, 3] rfl)
  · skip
    refine lv_iconst (v := 0) hx hb dL_803 (by decide) ?_
    exact absurd (lp_ret h hc18) (by decide)
set_option maxHeartbeats 4000000 in
set_option maxRecDepth 100000 in
theorem k_law_j805 {p : Program} {l : Launch} {e : Env} {s : State} {m : MethodId} {below : List Frame} {meth : Method} {c : Code} {E : En} {b L : Nat} {xs : Nat → Int32} (C : Cx p s m #[Value.ref b] meth c code 4 "TideLoansLaw" (some .boolean) E) (S : Sx s E b L xs) {x3 : Int32} {X : Mem} {tg : (Int32 ⊕ (Int32 × Mem))} {n18 : Nat} (hc18 : fin (fun a => f_law_b18 xs L a.1 a.2) n18 (1 : Int32) tg) (ih18 : I_law_b18 p l e s m below meth c E b L xs n18 (1 : Int32)) (h : f_law_j805 xs L x3 X = some tg) {H : Heap} {locs : List Loc} (hS : Hs E s.heap X H locs) {ls : Array Slot} (hl : lv_has ls 4 [(0, .ref b), (1, .ref (ad E 0)), (2, .ref (ad E 70)), (3, .int x3)]) : W p l e room_1 s m #[Value.ref b] below meth c H locs 80 1374 (lw_Z below #[Value.ref b] s) (F0 m 805 ls []) := by
  obtain ⟨hx, hb, hml, hown, hts, hrt, hlk, hKx⟩ := id C
  unfold f_law_j805 at h
  refine lv_aload_n hx hb dL_805 rfl (lv_at hl 1 rfl) ?_
  refine lv_aload_n hx hb dL_806 rfl (lv_at hl 0 rfl) ?_
  refine lv_iload_n hx hb dL_807 rfl (lv_at hl 3 rfl) ?_
  refine lv_iconst (v := 1) hx hb dL_808 (by decide) ?_
  refine lv_iadd hx hb dL_809 ?_
  refine r_sld C hS S h dL_810 (fun v1 h => ?_)
  refine lv_aload_n hx hb dL_811 rfl (lv_at hl 0 rfl) ?_
  refine lv_iload_n hx hb dL_812 rfl (lv_at hl 3 rfl) ?_
  refine lv_iconst (v := 2) hx hb dL_813 (by decide) ?_
  refine lv_iadd hx hb dL_814 ?_
  refine r_sld C hS S h dL_815 (fun v2 h => ?_)
  obtain ⟨v3, X5, hr4, h⟩ := bd2_el h
  refine c_I hS (c_runV (As := [.int v1, .int v2]) (rest := []) C hS (by decide) cel_Tide (rfl : cls[5]? = some (R_Tide, T_Tide, 12)) (k_Tide_kind (l := l) (E := E) (X := X) hr4) cw_Tide_kind ini_Tide_kind ins_Tide_kind sel_Tide_kind tw_525 hd_Tide_kind rfl ⟨⟨rfl, rfl⟩, (Nat.le_of_ble_eq_true rfl), (Nat.le_of_ble_eq_true rfl)⟩ ⟨(Nat.le_of_ble_eq_true rfl), (Nat.le_of_ble_eq_true rfl)⟩ hl.1 rfl (Nat.le_of_ble_eq_true rfl) dL_816) (fun H locs hS => ?_)
  refine lv_aload_n hx hb dL_819 rfl (lv_at hl 2 rfl) ?_
  refine lv_aload_n hx hb dL_820 rfl (lv_at hl 0 rfl) ?_
  refine lv_iload_n hx hb dL_821 rfl (lv_at hl 3 rfl) ?_
  refine lv_iconst (v := 1) hx hb dL_822 (by decide) ?_
  refine lv_iadd hx hb dL_823 ?_
  refine r_sld C hS S h dL_824 (fun v6 h => ?_)
  refine lv_aload_n hx hb dL_825 rfl (lv_at hl 0 rfl) ?_
  refine lv_iload_n hx hb dL_826 rfl (lv_at hl 3 rfl) ?_
  refine lv_iconst (v := 2) hx hb dL_827 (by decide) ?_
  refine lv_iadd hx hb dL_828 ?_
  refine r_sld C hS S h dL_829 (fun v7 h => ?_)
  obtain ⟨v8, X10, hr9, h⟩ := bd2_el h
  refine c_I hS (c_runV (As := [.int v6, .int v7]) (rest := [.int v3]) C hS (by decide) cel_Model (rfl : cls[6]? = some (R_Model, T_Model, 16)) (k_Model_kind (l := l) (E := E) (X := X5) hr9) cw_Model_kind ini_Model_kind ins_Model_kind sel_Model_kind tw_1050 hd_Model_kind rfl ⟨⟨rfl, rfl⟩, (Nat.le_of_ble_eq_true rfl), (Nat.le_of_ble_eq_true rfl)⟩ ⟨(Nat.le_of_ble_eq_true rfl), (Nat.le_of_ble_eq_true rfl)⟩ hl.1 rfl (Nat.le_of_ble_eq_true rfl) dL_830) (fun H locs hS => ?_)
  refine r_icmp_eq (tgt := 1403) C h dL_833 (by decide) (fun h => ?_) (fun h => ?_)
  · skip
    exact k_law_j1403 C S hc18 ih18 h hS (lv_sub hl [0, 1, 2, 3] rfl)
  · skip
    refine lv_iconst (v := 0) hx hb dL_836 (by decide) ?_
    exact absurd (lp_ret h hc18) (by decide)
set_option maxHeartbeats 4000000 in
set_option maxRecDepth 100000 in
theorem k_law_j838 {p : Program} {l : Launch} {e : Env} {s : State} {m : MethodId} {below : List Frame} {meth : Method} {c : Code} {E : En} {b L : Nat} {xs : Nat → Int32} (C : Cx p s m #[Value.ref b] meth c code 4 "TideLoansLaw" (some .boolean) E) (S : Sx s E b L xs) {x3 : Int32} {X : Mem} {tg : (Int32 ⊕ (Int32 × Mem))} {n18 : Nat} (hc18 : fin (fun a => f_law_b18 xs L a.1 a.2) n18 (1 : Int32) tg) (ih18 : I_law_b18 p l e s m below meth c E b L xs n18 (1 : Int32)) (h : f_law_j838 xs L x3 X = some tg) {H : Heap} {locs : List Loc} (hS : Hs E s.heap X H locs) {ls : Array Slot} (hl : lv_has ls 4 [(0, .ref b), (1, .ref (ad E 0)), (2, .ref (ad E 70)), (3, .int x3)]) : W p l e room_1 s m #[Value.ref b] below meth c H locs 80 1374 (lw_Z below #[Value.ref b] s) (F0 m 838 ls []) := by
  obtain ⟨hx, hb, hml, hown, hts, hrt, hlk, hKx⟩ := id C
  unfold f_law_j838 at h
  refine lv_aload_n hx hb dL_838 rfl (lv_at hl 1 rfl) ?_
  refine lv_aload_n hx hb dL_839 rfl (lv_at hl 0 rfl) ?_
  refine lv_iload_n hx hb dL_840 rfl (lv_at hl 3 rfl) ?_
  refine lv_iconst (v := 1) hx hb dL_841 (by decide) ?_
  refine lv_iadd hx hb dL_842 ?_
  refine r_sld C hS S h dL_843 (fun v1 h => ?_)
  refine lv_aload_n hx hb dL_844 rfl (lv_at hl 0 rfl) ?_
  refine lv_iload_n hx hb dL_845 rfl (lv_at hl 3 rfl) ?_
  refine lv_iconst (v := 2) hx hb dL_846 (by decide) ?_
  refine lv_iadd hx hb dL_847 ?_
  refine r_sld C hS S h dL_848 (fun v2 h => ?_)
  refine lv_aload_n hx hb dL_849 rfl (lv_at hl 0 rfl) ?_
  refine lv_iload_n hx hb dL_850 rfl (lv_at hl 3 rfl) ?_
  refine lv_iconst (v := 3) hx hb dL_851 (by decide) ?_
  refine lv_iadd hx hb dL_852 ?_
  refine r_sld C hS S h dL_853 (fun v3 h => ?_)
  obtain ⟨v4, X6, hr5, h⟩ := bd2_el h
  refine c_I hS (c_runV (As := [.int v1, .int v2, .int v3]) (rest := []) C hS (by decide) cel_Tide (rfl : cls[5]? = some (R_Tide, T_Tide, 12)) (k_Tide_worth (l := l) (E := E) (X := X) hr5) cw_Tide_worth ini_Tide_worth ins_Tide_worth sel_Tide_worth tw_529 hd_Tide_worth rfl ⟨⟨rfl, rfl⟩, (Nat.le_of_ble_eq_true rfl), (Nat.le_of_ble_eq_true rfl)⟩ ⟨(Nat.le_of_ble_eq_true rfl), (Nat.le_of_ble_eq_true rfl)⟩ hl.1 rfl (Nat.le_of_ble_eq_true rfl) dL_854) (fun H locs hS => ?_)
  refine lv_aload_n hx hb dL_857 rfl (lv_at hl 2 rfl) ?_
  refine lv_aload_n hx hb dL_858 rfl (lv_at hl 0 rfl) ?_
  refine lv_iload_n hx hb dL_859 rfl (lv_at hl 3 rfl) ?_
  refine lv_iconst (v := 1) hx hb dL_860 (by decide) ?_
  refine lv_iadd hx hb dL_861 ?_
  refine r_sld C hS S h dL_862 (fun v7 h => ?_)
  refine lv_aload_n hx hb dL_863 rfl (lv_at hl 0 rfl) ?_
  refine lv_iload_n hx hb dL_864 rfl (lv_at hl 3 rfl) ?_
  refine lv_iconst (v := 2) hx hb dL_865 (by decide) ?_
  refine lv_iadd hx hb dL_866 ?_
  refine r_sld C hS S h dL_867 (fun v8 h => ?_)
  refine lv_aload_n hx hb dL_868 rfl (lv_at hl 0 rfl) ?_
  refine lv_iload_n hx hb dL_869 rfl (lv_at hl 3 rfl) ?_
  refine lv_iconst (v := 3) hx hb dL_870 (by decide) ?_
  refine lv_iadd hx hb dL_871 ?_
  refine r_sld C hS S h dL_872 (fun v9 h => ?_)
  obtain ⟨v10, X12, hr11, h⟩ := bd2_el h
  refine c_I hS (c_runV (As := [.int v7, .int v8, .int v9]) (rest := [.int v4]) C hS (by decide) cel_Model (rfl : cls[6]? = some (R_Model, T_Model, 16)) (k_Model_worth (l := l) (E := E) (X := X6) hr11) cw_Model_worth ini_Model_worth ins_Model_worth sel_Model_worth tw_1054 hd_Model_worth rfl ⟨⟨rfl, rfl⟩, (Nat.le_of_ble_eq_true rfl), (Nat.le_of_ble_eq_true rfl)⟩ ⟨(Nat.le_of_ble_eq_true rfl), (Nat.le_of_ble_eq_true rfl)⟩ hl.1 rfl (Nat.le_of_ble_eq_true rfl) dL_873) (fun H locs hS => ?_)
  refine r_icmp_eq (tgt := 1403) C h dL_876 (by decide) (fun h => ?_) (fun h => ?_)
  · skip
    exact k_law_j1403 C S hc18 ih18 h hS (lv_sub hl [0, 1, 2, 3] rfl)
  · skip
    refine lv_iconst (v := 0) hx hb dL_879 (by decide) ?_
    exact absurd (lp_ret h hc18) (by decide)
set_option maxHeartbeats 4000000 in
set_option maxRecDepth 100000 in
theorem k_law_j881 {p : Program} {l : Launch} {e : Env} {s : State} {m : MethodId} {below : List Frame} {meth : Method} {c : Code} {E : En} {b L : Nat} {xs : Nat → Int32} (C : Cx p s m #[Value.ref b] meth c code 4 "TideLoansLaw" (some .boolean) E) (S : Sx s E b L xs) {x3 : Int32} {X : Mem} {tg : (Int32 ⊕ (Int32 × Mem))} {n18 : Nat} (hc18 : fin (fun a => f_law_b18 xs L a.1 a.2) n18 (1 : Int32) tg) (ih18 : I_law_b18 p l e s m below meth c E b L xs n18 (1 : Int32)) (h : f_law_j881 xs L x3 X = some tg) {H : Heap} {locs : List Loc} (hS : Hs E s.heap X H locs) {ls : Array Slot} (hl : lv_has ls 4 [(0, .ref b), (1, .ref (ad E 0)), (2, .ref (ad E 70)), (3, .int x3)]) : W p l e room_1 s m #[Value.ref b] below meth c H locs 80 1374 (lw_Z below #[Value.ref b] s) (F0 m 881 ls []) := by
  obtain ⟨hx, hb, hml, hown, hts, hrt, hlk, hKx⟩ := id C
  unfold f_law_j881 at h
  refine lv_aload_n hx hb dL_881 rfl (lv_at hl 1 rfl) ?_
  refine lv_aload_n hx hb dL_882 rfl (lv_at hl 0 rfl) ?_
  refine lv_iload_n hx hb dL_883 rfl (lv_at hl 3 rfl) ?_
  refine lv_iconst (v := 1) hx hb dL_884 (by decide) ?_
  refine lv_iadd hx hb dL_885 ?_
  refine r_sld C hS S h dL_886 (fun v1 h => ?_)
  obtain ⟨v2, X4, hr3, h⟩ := bd2_el h
  refine c_I hS (c_runV (As := [.int v1]) (rest := []) C hS (by decide) cel_Tide (rfl : cls[5]? = some (R_Tide, T_Tide, 12)) (k_Tide_richest (l := l) (E := E) (X := X) hr3) cw_Tide_richest ini_Tide_richest ins_Tide_richest sel_Tide_richest tw_533 hd_Tide_richest rfl ⟨⟨rfl, rfl⟩, (Nat.le_of_ble_eq_true rfl), (Nat.le_of_ble_eq_true rfl)⟩ ⟨(Nat.le_of_ble_eq_true rfl), (Nat.le_of_ble_eq_true rfl)⟩ hl.1 rfl (Nat.le_of_ble_eq_true rfl) dL_887) (fun H locs hS => ?_)
  refine lv_aload_n hx hb dL_890 rfl (lv_at hl 2 rfl) ?_
  refine lv_aload_n hx hb dL_891 rfl (lv_at hl 0 rfl) ?_
  refine lv_iload_n hx hb dL_892 rfl (lv_at hl 3 rfl) ?_
  refine lv_iconst (v := 1) hx hb dL_893 (by decide) ?_
  refine lv_iadd hx hb dL_894 ?_
  refine r_sld C hS S h dL_895 (fun v5 h => ?_)
  obtain ⟨v6, X8, hr7, h⟩ := bd2_el h
  refine c_I hS (c_runV (As := [.int v5]) (rest := [.int v2]) C hS (by decide) cel_Model (rfl : cls[6]? = some (R_Model, T_Model, 16)) (k_Model_richest (l := l) (E := E) (X := X4) hr7) cw_Model_richest ini_Model_richest ins_Model_richest sel_Model_richest tw_1059 hd_Model_richest rfl ⟨⟨rfl, rfl⟩, (Nat.le_of_ble_eq_true rfl), (Nat.le_of_ble_eq_true rfl)⟩ ⟨(Nat.le_of_ble_eq_true rfl), (Nat.le_of_ble_eq_true rfl)⟩ hl.1 rfl (Nat.le_of_ble_eq_true rfl) dL_896) (fun H locs hS => ?_)
  refine r_icmp_eq (tgt := 1403) C h dL_899 (by decide) (fun h => ?_) (fun h => ?_)
  · skip
    exact k_law_j1403 C S hc18 ih18 h hS (lv_sub hl [0, 1, 2, 3] rfl)
  · skip
    refine lv_iconst (v := 0) hx hb dL_902 (by decide) ?_
    exact absurd (lp_ret h hc18) (by decide)
set_option maxHeartbeats 4000000 in
set_option maxRecDepth 100000 in
theorem k_law_j904 {p : Program} {l : Launch} {e : Env} {s : State} {m : MethodId} {below : List Frame} {meth : Method} {c : Code} {E : En} {b L : Nat} {xs : Nat → Int32} (C : Cx p s m #[Value.ref b] meth c code 4 "TideLoansLaw" (some .boolean) E) (S : Sx s E b L xs) {x3 : Int32} {X : Mem} {tg : (Int32 ⊕ (Int32 × Mem))} {n18 : Nat} (hc18 : fin (fun a => f_law_b18 xs L a.1 a.2) n18 (1 : Int32) tg) (ih18 : I_law_b18 p l e s m below meth c E b L xs n18 (1 : Int32)) (h : f_law_j904 xs L x3 X = some tg) {H : Heap} {locs : List Loc} (hS : Hs E s.heap X H locs) {ls : Array Slot} (hl : lv_has ls 4 [(0, .ref b), (1, .ref (ad E 0)), (2, .ref (ad E 70)), (3, .int x3)]) : W p l e room_1 s m #[Value.ref b] below meth c H locs 80 1374 (lw_Z below #[Value.ref b] s) (F0 m 904 ls []) := by
  obtain ⟨hx, hb, hml, hown, hts, hrt, hlk, hKx⟩ := id C
  unfold f_law_j904 at h
  refine lv_aload_n hx hb dL_904 rfl (lv_at hl 1 rfl) ?_
  refine lv_aload_n hx hb dL_905 rfl (lv_at hl 0 rfl) ?_
  refine lv_iload_n hx hb dL_906 rfl (lv_at hl 3 rfl) ?_
  refine lv_iconst (v := 1) hx hb dL_907 (by decide) ?_
  refine lv_iadd hx hb dL_908 ?_
  refine r_sld C hS S h dL_909 (fun v1 h => ?_)
  refine lv_aload_n hx hb dL_910 rfl (lv_at hl 0 rfl) ?_
  refine lv_iload_n hx hb dL_911 rfl (lv_at hl 3 rfl) ?_
  refine lv_iconst (v := 2) hx hb dL_912 (by decide) ?_
  refine lv_iadd hx hb dL_913 ?_
  refine r_sld C hS S h dL_914 (fun v2 h => ?_)
  refine lv_aload_n hx hb dL_915 rfl (lv_at hl 0 rfl) ?_
  refine lv_iload_n hx hb dL_916 rfl (lv_at hl 3 rfl) ?_
  refine lv_iconst (v := 3) hx hb dL_917 (by decide) ?_
  refine lv_iadd hx hb dL_918 ?_
  refine r_sld C hS S h dL_919 (fun v3 h => ?_)
  obtain ⟨v4, X6, hr5, h⟩ := bd2_el h
  refine c_I hS (c_runV (As := [.int v1, .int v2, .int v3]) (rest := []) C hS (by decide) cel_Tide (rfl : cls[5]? = some (R_Tide, T_Tide, 12)) (k_Tide_fewest (l := l) (E := E) (X := X) hr5) cw_Tide_fewest ini_Tide_fewest ins_Tide_fewest sel_Tide_fewest tw_537 hd_Tide_fewest rfl ⟨⟨rfl, rfl⟩, (Nat.le_of_ble_eq_true rfl), (Nat.le_of_ble_eq_true rfl)⟩ ⟨(Nat.le_of_ble_eq_true rfl), (Nat.le_of_ble_eq_true rfl)⟩ hl.1 rfl (Nat.le_of_ble_eq_true rfl) dL_920) (fun H locs hS => ?_)
  refine lv_aload_n hx hb dL_923 rfl (lv_at hl 2 rfl) ?_
  refine lv_aload_n hx hb dL_924 rfl (lv_at hl 0 rfl) ?_
  refine lv_iload_n hx hb dL_925 rfl (lv_at hl 3 rfl) ?_
  refine lv_iconst (v := 1) hx hb dL_926 (by decide) ?_
  refine lv_iadd hx hb dL_927 ?_
  refine r_sld C hS S h dL_928 (fun v7 h => ?_)
  refine lv_aload_n hx hb dL_929 rfl (lv_at hl 0 rfl) ?_
  refine lv_iload_n hx hb dL_930 rfl (lv_at hl 3 rfl) ?_
  refine lv_iconst (v := 2) hx hb dL_931 (by decide) ?_
  refine lv_iadd hx hb dL_932 ?_
  refine r_sld C hS S h dL_933 (fun v8 h => ?_)
  refine lv_aload_n hx hb dL_934 rfl (lv_at hl 0 rfl) ?_
  refine lv_iload_n hx hb dL_935 rfl (lv_at hl 3 rfl) ?_
  refine lv_iconst (v := 3) hx hb dL_936 (by decide) ?_
  refine lv_iadd hx hb dL_937 ?_
  refine r_sld C hS S h dL_938 (fun v9 h => ?_)
  obtain ⟨v10, X12, hr11, h⟩ := bd2_el h
  refine c_I hS (c_runV (As := [.int v7, .int v8, .int v9]) (rest := [.int v4]) C hS (by decide) cel_Model (rfl : cls[6]? = some (R_Model, T_Model, 16)) (k_Model_fewest (l := l) (E := E) (X := X6) hr11) cw_Model_fewest ini_Model_fewest ins_Model_fewest sel_Model_fewest tw_1063 hd_Model_fewest rfl ⟨⟨rfl, rfl⟩, (Nat.le_of_ble_eq_true rfl), (Nat.le_of_ble_eq_true rfl)⟩ ⟨(Nat.le_of_ble_eq_true rfl), (Nat.le_of_ble_eq_true rfl)⟩ hl.1 rfl (Nat.le_of_ble_eq_true rfl) dL_939) (fun H locs hS => ?_)
  refine r_icmp_eq (tgt := 1403) C h dL_942 (by decide) (fun h => ?_) (fun h => ?_)
  · skip
    exact k_law_j1403 C S hc18 ih18 h hS (lv_sub hl [0, 1, 2, 3] rfl)
  · skip
    refine lv_iconst (v := 0) hx hb dL_945 (by decide) ?_
    exact absurd (lp_ret h hc18) (by decide)
set_option maxHeartbeats 4000000 in
set_option maxRecDepth 100000 in
theorem k_law_j947 {p : Program} {l : Launch} {e : Env} {s : State} {m : MethodId} {below : List Frame} {meth : Method} {c : Code} {E : En} {b L : Nat} {xs : Nat → Int32} (C : Cx p s m #[Value.ref b] meth c code 4 "TideLoansLaw" (some .boolean) E) (S : Sx s E b L xs) {x3 : Int32} {X : Mem} {tg : (Int32 ⊕ (Int32 × Mem))} {n18 : Nat} (hc18 : fin (fun a => f_law_b18 xs L a.1 a.2) n18 (1 : Int32) tg) (ih18 : I_law_b18 p l e s m below meth c E b L xs n18 (1 : Int32)) (h : f_law_j947 xs L x3 X = some tg) {H : Heap} {locs : List Loc} (hS : Hs E s.heap X H locs) {ls : Array Slot} (hl : lv_has ls 4 [(0, .ref b), (1, .ref (ad E 0)), (2, .ref (ad E 70)), (3, .int x3)]) : W p l e room_1 s m #[Value.ref b] below meth c H locs 80 1374 (lw_Z below #[Value.ref b] s) (F0 m 947 ls []) := by
  obtain ⟨hx, hb, hml, hown, hts, hrt, hlk, hKx⟩ := id C
  unfold f_law_j947 at h
  refine lv_aload_n hx hb dL_947 rfl (lv_at hl 1 rfl) ?_
  refine lv_aload_n hx hb dL_948 rfl (lv_at hl 0 rfl) ?_
  refine lv_iload_n hx hb dL_949 rfl (lv_at hl 3 rfl) ?_
  refine lv_iconst (v := 1) hx hb dL_950 (by decide) ?_
  refine lv_iadd hx hb dL_951 ?_
  refine r_sld C hS S h dL_952 (fun v1 h => ?_)
  refine lv_aload_n hx hb dL_953 rfl (lv_at hl 0 rfl) ?_
  refine lv_iload_n hx hb dL_954 rfl (lv_at hl 3 rfl) ?_
  refine lv_iconst (v := 2) hx hb dL_955 (by decide) ?_
  refine lv_iadd hx hb dL_956 ?_
  refine r_sld C hS S h dL_957 (fun v2 h => ?_)
  obtain ⟨v3, X5, hr4, h⟩ := bd2_el h
  refine c_I hS (c_runV (As := [.int v1, .int v2]) (rest := []) C hS (by decide) cel_Tide (rfl : cls[5]? = some (R_Tide, T_Tide, 12)) (k_Tide_rate (l := l) (E := E) (X := X) hr4) cw_Tide_rate ini_Tide_rate ins_Tide_rate sel_Tide_rate tw_553 hd_Tide_rate rfl ⟨⟨rfl, rfl⟩, (Nat.le_of_ble_eq_true rfl), (Nat.le_of_ble_eq_true rfl)⟩ ⟨(Nat.le_of_ble_eq_true rfl), (Nat.le_of_ble_eq_true rfl)⟩ hl.1 rfl (Nat.le_of_ble_eq_true rfl) dL_958) (fun H locs hS => ?_)
  refine lv_aload_n hx hb dL_961 rfl (lv_at hl 2 rfl) ?_
  refine lv_aload_n hx hb dL_962 rfl (lv_at hl 0 rfl) ?_
  refine lv_iload_n hx hb dL_963 rfl (lv_at hl 3 rfl) ?_
  refine lv_iconst (v := 1) hx hb dL_964 (by decide) ?_
  refine lv_iadd hx hb dL_965 ?_
  refine r_sld C hS S h dL_966 (fun v6 h => ?_)
  refine lv_aload_n hx hb dL_967 rfl (lv_at hl 0 rfl) ?_
  refine lv_iload_n hx hb dL_968 rfl (lv_at hl 3 rfl) ?_
  refine lv_iconst (v := 2) hx hb dL_969 (by decide) ?_
  refine lv_iadd hx hb dL_970 ?_
  refine r_sld C hS S h dL_971 (fun v7 h => ?_)
  obtain ⟨v8, X10, hr9, h⟩ := bd2_el h
  refine c_I hS (c_runV (As := [.int v6, .int v7]) (rest := [.int v3]) C hS (by decide) cel_Model (rfl : cls[6]? = some (R_Model, T_Model, 16)) (k_Model_rate (l := l) (E := E) (X := X5) hr9) cw_Model_rate ini_Model_rate ins_Model_rate sel_Model_rate tw_1067 hd_Model_rate rfl ⟨⟨rfl, rfl⟩, (Nat.le_of_ble_eq_true rfl), (Nat.le_of_ble_eq_true rfl)⟩ ⟨(Nat.le_of_ble_eq_true rfl), (Nat.le_of_ble_eq_true rfl)⟩ hl.1 rfl (Nat.le_of_ble_eq_true rfl) dL_972) (fun H locs hS => ?_)
  refine r_icmp_eq (tgt := 1403) C h dL_975 (by decide) (fun h => ?_) (fun h => ?_)
  · skip
    exact k_law_j1403 C S hc18 ih18 h hS (lv_sub hl [0, 1, 2, 3] rfl)
  · skip
    refine lv_iconst (v := 0) hx hb dL_978 (by decide) ?_
    exact absurd (lp_ret h hc18) (by decide)
set_option maxHeartbeats 4000000 in
set_option maxRecDepth 100000 in
theorem k_law_j980 {p : Program} {l : Launch} {e : Env} {s : State} {m : MethodId} {below : List Frame} {meth : Method} {c : Code} {E : En} {b L : Nat} {xs : Nat → Int32} (C : Cx p s m #[Value.ref b] meth c code 4 "TideLoansLaw" (some .boolean) E) (S : Sx s E b L xs) {x3 : Int32} {X : Mem} {tg : (Int32 ⊕ (Int32 × Mem))} {n18 : Nat} (hc18 : fin (fun a => f_law_b18 xs L a.1 a.2) n18 (1 : Int32) tg) (ih18 : I_law_b18 p l e s m below meth c E b L xs n18 (1 : Int32)) (h : f_law_j980 xs L x3 X = some tg) {H : Heap} {locs : List Loc} (hS : Hs E s.heap X H locs) {ls : Array Slot} (hl : lv_has ls 4 [(0, .ref b), (1, .ref (ad E 0)), (2, .ref (ad E 70)), (3, .int x3)]) : W p l e room_1 s m #[Value.ref b] below meth c H locs 80 1374 (lw_Z below #[Value.ref b] s) (F0 m 980 ls []) := by
  obtain ⟨hx, hb, hml, hown, hts, hrt, hlk, hKx⟩ := id C
  unfold f_law_j980 at h
  refine lv_aload_n hx hb dL_980 rfl (lv_at hl 1 rfl) ?_
  refine lv_aload_n hx hb dL_981 rfl (lv_at hl 0 rfl) ?_
  refine lv_iload_n hx hb dL_982 rfl (lv_at hl 3 rfl) ?_
  refine lv_iconst (v := 1) hx hb dL_983 (by decide) ?_
  refine lv_iadd hx hb dL_984 ?_
  refine r_sld C hS S h dL_985 (fun v1 h => ?_)
  refine lv_aload_n hx hb dL_986 rfl (lv_at hl 0 rfl) ?_
  refine lv_iload_n hx hb dL_987 rfl (lv_at hl 3 rfl) ?_
  refine lv_iconst (v := 2) hx hb dL_988 (by decide) ?_
  refine lv_iadd hx hb dL_989 ?_
  refine r_sld C hS S h dL_990 (fun v2 h => ?_)
  obtain ⟨v3, X5, hr4, h⟩ := bd2_el h
  refine c_I hS (c_runV (As := [.int v1, .int v2]) (rest := []) C hS (by decide) cel_Tide (rfl : cls[5]? = some (R_Tide, T_Tide, 12)) (k_Tide_feed (l := l) (E := E) (X := X) hr4) cw_Tide_feed ini_Tide_feed ins_Tide_feed sel_Tide_feed tw_561 hd_Tide_feed rfl ⟨⟨rfl, rfl⟩, (Nat.le_of_ble_eq_true rfl), (Nat.le_of_ble_eq_true rfl)⟩ ⟨(Nat.le_of_ble_eq_true rfl), (Nat.le_of_ble_eq_true rfl)⟩ hl.1 rfl (Nat.le_of_ble_eq_true rfl) dL_991) (fun H locs hS => ?_)
  refine lv_aload_n hx hb dL_994 rfl (lv_at hl 2 rfl) ?_
  refine lv_aload_n hx hb dL_995 rfl (lv_at hl 0 rfl) ?_
  refine lv_iload_n hx hb dL_996 rfl (lv_at hl 3 rfl) ?_
  refine lv_iconst (v := 1) hx hb dL_997 (by decide) ?_
  refine lv_iadd hx hb dL_998 ?_
  refine r_sld C hS S h dL_999 (fun v6 h => ?_)
  refine lv_aload_n hx hb dL_1000 rfl (lv_at hl 0 rfl) ?_
  refine lv_iload_n hx hb dL_1001 rfl (lv_at hl 3 rfl) ?_
  refine lv_iconst (v := 2) hx hb dL_1002 (by decide) ?_
  refine lv_iadd hx hb dL_1003 ?_
  refine r_sld C hS S h dL_1004 (fun v7 h => ?_)
  obtain ⟨v8, X10, hr9, h⟩ := bd2_el h
  refine c_I hS (c_runV (As := [.int v6, .int v7]) (rest := [.int v3]) C hS (by decide) cel_Model (rfl : cls[6]? = some (R_Model, T_Model, 16)) (k_Model_feed (l := l) (E := E) (X := X5) hr9) cw_Model_feed ini_Model_feed ins_Model_feed sel_Model_feed tw_1071 hd_Model_feed rfl ⟨⟨rfl, rfl⟩, (Nat.le_of_ble_eq_true rfl), (Nat.le_of_ble_eq_true rfl)⟩ ⟨(Nat.le_of_ble_eq_true rfl), (Nat.le_of_ble_eq_true rfl)⟩ hl.1 rfl (Nat.le_of_ble_eq_true rfl) dL_1005) (fun H locs hS => ?_)
  refine r_icmp_eq (tgt := 1403) C h dL_1008 (by decide) (fun h => ?_) (fun h => ?_)
  · skip
    exact k_law_j1403 C S hc18 ih18 h hS (lv_sub hl [0, 1, 2, 3] rfl)
  · skip
    refine lv_iconst (v := 0) hx hb dL_1011 (by decide) ?_
    exact absurd (lp_ret h hc18) (by decide)
set_option maxHeartbeats 4000000 in
set_option maxRecDepth 100000 in
theorem k_law_j1013 {p : Program} {l : Launch} {e : Env} {s : State} {m : MethodId} {below : List Frame} {meth : Method} {c : Code} {E : En} {b L : Nat} {xs : Nat → Int32} (C : Cx p s m #[Value.ref b] meth c code 4 "TideLoansLaw" (some .boolean) E) (S : Sx s E b L xs) {x3 : Int32} {X : Mem} {tg : (Int32 ⊕ (Int32 × Mem))} {n18 : Nat} (hc18 : fin (fun a => f_law_b18 xs L a.1 a.2) n18 (1 : Int32) tg) (ih18 : I_law_b18 p l e s m below meth c E b L xs n18 (1 : Int32)) (h : f_law_j1013 xs L x3 X = some tg) {H : Heap} {locs : List Loc} (hS : Hs E s.heap X H locs) {ls : Array Slot} (hl : lv_has ls 4 [(0, .ref b), (1, .ref (ad E 0)), (2, .ref (ad E 70)), (3, .int x3)]) : W p l e room_1 s m #[Value.ref b] below meth c H locs 80 1374 (lw_Z below #[Value.ref b] s) (F0 m 1013 ls []) := by
  obtain ⟨hx, hb, hml, hown, hts, hrt, hlk, hKx⟩ := id C
  unfold f_law_j1013 at h
  refine lv_aload_n hx hb dL_1013 rfl (lv_at hl 1 rfl) ?_
  obtain ⟨v1, X3, hr2, h⟩ := bd2_el h
  refine c_I hS (c_runV (As := []) (rest := []) C hS (by decide) cel_Tide (rfl : cls[5]? = some (R_Tide, T_Tide, 12)) (k_Tide_wipe (l := l) (E := E) (X := X) hr2) cw_Tide_wipe ini_Tide_wipe ins_Tide_wipe sel_Tide_wipe tw_569 hd_Tide_wipe rfl ⟨⟨rfl, rfl⟩, (Nat.le_of_ble_eq_true rfl), (Nat.le_of_ble_eq_true rfl)⟩ ⟨(Nat.le_of_ble_eq_true rfl), (Nat.le_of_ble_eq_true rfl)⟩ hl.1 rfl (Nat.le_of_ble_eq_true rfl) dL_1014) (fun H locs hS => ?_)
  refine lv_aload_n hx hb dL_1017 rfl (lv_at hl 2 rfl) ?_
  obtain ⟨v4, X6, hr5, h⟩ := bd2_el h
  refine c_I hS (c_runV (As := []) (rest := [.int v1]) C hS (by decide) cel_Model (rfl : cls[6]? = some (R_Model, T_Model, 16)) (k_Model_wipe (l := l) (E := E) (X := X3) hr5) cw_Model_wipe ini_Model_wipe ins_Model_wipe sel_Model_wipe tw_1076 hd_Model_wipe rfl ⟨⟨rfl, rfl⟩, (Nat.le_of_ble_eq_true rfl), (Nat.le_of_ble_eq_true rfl)⟩ ⟨(Nat.le_of_ble_eq_true rfl), (Nat.le_of_ble_eq_true rfl)⟩ hl.1 rfl (Nat.le_of_ble_eq_true rfl) dL_1018) (fun H locs hS => ?_)
  refine r_icmp_eq (tgt := 1403) C h dL_1021 (by decide) (fun h => ?_) (fun h => ?_)
  · skip
    exact k_law_j1403 C S hc18 ih18 h hS (lv_sub hl [0, 1, 2, 3] rfl)
  · skip
    refine lv_iconst (v := 0) hx hb dL_1024 (by decide) ?_
    exact absurd (lp_ret h hc18) (by decide)
set_option maxHeartbeats 4000000 in
set_option maxRecDepth 100000 in
theorem k_law_j1026 {p : Program} {l : Launch} {e : Env} {s : State} {m : MethodId} {below : List Frame} {meth : Method} {c : Code} {E : En} {b L : Nat} {xs : Nat → Int32} (C : Cx p s m #[Value.ref b] meth c code 4 "TideLoansLaw" (some .boolean) E) (S : Sx s E b L xs) {x3 : Int32} {X : Mem} {tg : (Int32 ⊕ (Int32 × Mem))} {n18 : Nat} (hc18 : fin (fun a => f_law_b18 xs L a.1 a.2) n18 (1 : Int32) tg) (ih18 : I_law_b18 p l e s m below meth c E b L xs n18 (1 : Int32)) (h : f_law_j1026 xs L x3 X = some tg) {H : Heap} {locs : List Loc} (hS : Hs E s.heap X H locs) {ls : Array Slot} (hl : lv_has ls 4 [(0, .ref b), (1, .ref (ad E 0)), (2, .ref (ad E 70)), (3, .int x3)]) : W p l e room_1 s m #[Value.ref b] below meth c H locs 80 1374 (lw_Z below #[Value.ref b] s) (F0 m 1026 ls []) := by
  obtain ⟨hx, hb, hml, hown, hts, hrt, hlk, hKx⟩ := id C
  unfold f_law_j1026 at h
  refine lv_aload_n hx hb dL_1026 rfl (lv_at hl 1 rfl) ?_
  obtain ⟨v1, X3, hr2, h⟩ := bd2_el h
  refine c_I hS (c_runV (As := []) (rest := []) C hS (by decide) cel_Tide (rfl : cls[5]? = some (R_Tide, T_Tide, 12)) (k_Tide_shore (l := l) (E := E) (X := X) hr2) cw_Tide_shore ini_Tide_shore ins_Tide_shore sel_Tide_shore tw_573 hd_Tide_shore rfl ⟨⟨rfl, rfl⟩, (Nat.le_of_ble_eq_true rfl), (Nat.le_of_ble_eq_true rfl)⟩ ⟨(Nat.le_of_ble_eq_true rfl), (Nat.le_of_ble_eq_true rfl)⟩ hl.1 rfl (Nat.le_of_ble_eq_true rfl) dL_1027) (fun H locs hS => ?_)
  refine lv_aload_n hx hb dL_1030 rfl (lv_at hl 2 rfl) ?_
  obtain ⟨v4, X6, hr5, h⟩ := bd2_el h
  refine c_I hS (c_runV (As := []) (rest := [.int v1]) C hS (by decide) cel_Model (rfl : cls[6]? = some (R_Model, T_Model, 16)) (k_Model_shore (l := l) (E := E) (X := X3) hr5) cw_Model_shore ini_Model_shore ins_Model_shore sel_Model_shore tw_1080 hd_Model_shore rfl ⟨⟨rfl, rfl⟩, (Nat.le_of_ble_eq_true rfl), (Nat.le_of_ble_eq_true rfl)⟩ ⟨(Nat.le_of_ble_eq_true rfl), (Nat.le_of_ble_eq_true rfl)⟩ hl.1 rfl (Nat.le_of_ble_eq_true rfl) dL_1031) (fun H locs hS => ?_)
  refine r_icmp_eq (tgt := 1403) C h dL_1034 (by decide) (fun h => ?_) (fun h => ?_)
  · skip
    exact k_law_j1403 C S hc18 ih18 h hS (lv_sub hl [0, 1, 2, 3] rfl)
  · skip
    refine lv_iconst (v := 0) hx hb dL_1037 (by decide) ?_
    exact absurd (lp_ret h hc18) (by decide)
set_option maxHeartbeats 4000000 in
set_option maxRecDepth 100000 in
theorem k_law_j1039 {p : Program} {l : Launch} {e : Env} {s : State} {m : MethodId} {below : List Frame} {meth : Method} {c : Code} {E : En} {b L : Nat} {xs : Nat → Int32} (C : Cx p s m #[Value.ref b] meth c code 4 "TideLoansLaw" (some .boolean) E) (S : Sx s E b L xs) {x3 : Int32} {X : Mem} {tg : (Int32 ⊕ (Int32 × Mem))} {n18 : Nat} (hc18 : fin (fun a => f_law_b18 xs L a.1 a.2) n18 (1 : Int32) tg) (ih18 : I_law_b18 p l e s m below meth c E b L xs n18 (1 : Int32)) (h : f_law_j1039 xs L x3 X = some tg) {H : Heap} {locs : List Loc} (hS : Hs E s.heap X H locs) {ls : Array Slot} (hl : lv_has ls 4 [(0, .ref b), (1, .ref (ad E 0)), (2, .ref (ad E 70)), (3, .int x3)]) : W p l e room_1 s m #[Value.ref b] below meth c H locs 80 1374 (lw_Z below #[Value.ref b] s) (F0 m 1039 ls []) := by
  obtain ⟨hx, hb, hml, hown, hts, hrt, hlk, hKx⟩ := id C
  unfold f_law_j1039 at h
  refine lv_aload_n hx hb dL_1039 rfl (lv_at hl 1 rfl) ?_
  refine lv_aload_n hx hb dL_1040 rfl (lv_at hl 0 rfl) ?_
  refine lv_iload_n hx hb dL_1041 rfl (lv_at hl 3 rfl) ?_
  refine lv_iconst (v := 1) hx hb dL_1042 (by decide) ?_
  refine lv_iadd hx hb dL_1043 ?_
  refine r_sld C hS S h dL_1044 (fun v1 h => ?_)
  refine lv_aload_n hx hb dL_1045 rfl (lv_at hl 0 rfl) ?_
  refine lv_iload_n hx hb dL_1046 rfl (lv_at hl 3 rfl) ?_
  refine lv_iconst (v := 2) hx hb dL_1047 (by decide) ?_
  refine lv_iadd hx hb dL_1048 ?_
  refine r_sld C hS S h dL_1049 (fun v2 h => ?_)
  refine lv_aload_n hx hb dL_1050 rfl (lv_at hl 0 rfl) ?_
  refine lv_iload_n hx hb dL_1051 rfl (lv_at hl 3 rfl) ?_
  refine lv_iconst (v := 3) hx hb dL_1052 (by decide) ?_
  refine lv_iadd hx hb dL_1053 ?_
  refine r_sld C hS S h dL_1054 (fun v3 h => ?_)
  obtain ⟨v4, X6, hr5, h⟩ := bd2_el h
  refine c_I hS (c_runV (As := [.int v1, .int v2, .int v3]) (rest := []) C hS (by decide) cel_Tide (rfl : cls[5]? = some (R_Tide, T_Tide, 12)) (k_Tide_sheet (l := l) (E := E) (X := X) hr5) cw_Tide_sheet ini_Tide_sheet ins_Tide_sheet sel_Tide_sheet tw_701 hd_Tide_sheet rfl ⟨⟨rfl, rfl⟩, (Nat.le_of_ble_eq_true rfl), (Nat.le_of_ble_eq_true rfl)⟩ ⟨(Nat.le_of_ble_eq_true rfl), (Nat.le_of_ble_eq_true rfl)⟩ hl.1 rfl (Nat.le_of_ble_eq_true rfl) dL_1055) (fun H locs hS => ?_)
  refine lv_aload_n hx hb dL_1058 rfl (lv_at hl 2 rfl) ?_
  refine lv_aload_n hx hb dL_1059 rfl (lv_at hl 0 rfl) ?_
  refine lv_iload_n hx hb dL_1060 rfl (lv_at hl 3 rfl) ?_
  refine lv_iconst (v := 1) hx hb dL_1061 (by decide) ?_
  refine lv_iadd hx hb dL_1062 ?_
  refine r_sld C hS S h dL_1063 (fun v7 h => ?_)
  refine lv_aload_n hx hb dL_1064 rfl (lv_at hl 0 rfl) ?_
  refine lv_iload_n hx hb dL_1065 rfl (lv_at hl 3 rfl) ?_
  refine lv_iconst (v := 2) hx hb dL_1066 (by decide) ?_
  refine lv_iadd hx hb dL_1067 ?_
  refine r_sld C hS S h dL_1068 (fun v8 h => ?_)
  refine lv_aload_n hx hb dL_1069 rfl (lv_at hl 0 rfl) ?_
  refine lv_iload_n hx hb dL_1070 rfl (lv_at hl 3 rfl) ?_
  refine lv_iconst (v := 3) hx hb dL_1071 (by decide) ?_
  refine lv_iadd hx hb dL_1072 ?_
  refine r_sld C hS S h dL_1073 (fun v9 h => ?_)
  obtain ⟨v10, X12, hr11, h⟩ := bd2_el h
  refine c_I hS (c_runV (As := [.int v7, .int v8, .int v9]) (rest := [.int v4]) C hS (by decide) cel_Model (rfl : cls[6]? = some (R_Model, T_Model, 16)) (k_Model_sheet (l := l) (E := E) (X := X6) hr11) cw_Model_sheet ini_Model_sheet ins_Model_sheet sel_Model_sheet tw_1146 hd_Model_sheet rfl ⟨⟨rfl, rfl⟩, (Nat.le_of_ble_eq_true rfl), (Nat.le_of_ble_eq_true rfl)⟩ ⟨(Nat.le_of_ble_eq_true rfl), (Nat.le_of_ble_eq_true rfl)⟩ hl.1 rfl (Nat.le_of_ble_eq_true rfl) dL_1074) (fun H locs hS => ?_)
  refine r_icmp_eq (tgt := 1403) C h dL_1077 (by decide) (fun h => ?_) (fun h => ?_)
  · skip
    exact k_law_j1403 C S hc18 ih18 h hS (lv_sub hl [0, 1, 2, 3] rfl)
  · skip
    refine lv_iconst (v := 0) hx hb dL_1080 (by decide) ?_
    exact absurd (lp_ret h hc18) (by decide)
set_option maxHeartbeats 4000000 in
set_option maxRecDepth 100000 in
theorem k_law_j1082 {p : Program} {l : Launch} {e : Env} {s : State} {m : MethodId} {below : List Frame} {meth : Method} {c : Code} {E : En} {b L : Nat} {xs : Nat → Int32} (C : Cx p s m #[Value.ref b] meth c code 4 "TideLoansLaw" (some .boolean) E) (S : Sx s E b L xs) {x3 : Int32} {X : Mem} {tg : (Int32 ⊕ (Int32 × Mem))} {n18 : Nat} (hc18 : fin (fun a => f_law_b18 xs L a.1 a.2) n18 (1 : Int32) tg) (ih18 : I_law_b18 p l e s m below meth c E b L xs n18 (1 : Int32)) (h : f_law_j1082 xs L x3 X = some tg) {H : Heap} {locs : List Loc} (hS : Hs E s.heap X H locs) {ls : Array Slot} (hl : lv_has ls 4 [(0, .ref b), (1, .ref (ad E 0)), (2, .ref (ad E 70)), (3, .int x3)]) : W p l e room_1 s m #[Value.ref b] below meth c H locs 80 1374 (lw_Z below #[Value.ref b] s) (F0 m 1082 ls []) := by
  obtain ⟨hx, hb, hml, hown, hts, hrt, hlk, hKx⟩ := id C
  unfold f_law_j1082 at h
  refine lv_aload_n hx hb dL_1082 rfl (lv_at hl 1 rfl) ?_
  refine lv_aload_n hx hb dL_1083 rfl (lv_at hl 0 rfl) ?_
  refine lv_iload_n hx hb dL_1084 rfl (lv_at hl 3 rfl) ?_
  refine lv_iconst (v := 1) hx hb dL_1085 (by decide) ?_
  refine lv_iadd hx hb dL_1086 ?_
  refine r_sld C hS S h dL_1087 (fun v1 h => ?_)
  refine lv_aload_n hx hb dL_1088 rfl (lv_at hl 0 rfl) ?_
  refine lv_iload_n hx hb dL_1089 rfl (lv_at hl 3 rfl) ?_
  refine lv_iconst (v := 2) hx hb dL_1090 (by decide) ?_
  refine lv_iadd hx hb dL_1091 ?_
  refine r_sld C hS S h dL_1092 (fun v2 h => ?_)
  refine lv_aload_n hx hb dL_1093 rfl (lv_at hl 0 rfl) ?_
  refine lv_iload_n hx hb dL_1094 rfl (lv_at hl 3 rfl) ?_
  refine lv_iconst (v := 3) hx hb dL_1095 (by decide) ?_
  refine lv_iadd hx hb dL_1096 ?_
  refine r_sld C hS S h dL_1097 (fun v3 h => ?_)
  refine lv_i2l hx hb dL_1098 rfl ?_
  refine lv_bipush (v := 32) hx hb dL_1099 (by decide) ?_
  refine lv_lshl hx hb dL_1101 rfl ?_
  refine lv_aload_n hx hb dL_1102 rfl (lv_at hl 0 rfl) ?_
  refine lv_iload_n hx hb dL_1103 rfl (lv_at hl 3 rfl) ?_
  refine lv_iconst (v := 4) hx hb dL_1104 (by decide) ?_
  refine lv_iadd hx hb dL_1105 ?_
  refine r_sld C hS S h dL_1106 (fun v4 h => ?_)
  refine lv_i2l hx hb dL_1107 rfl ?_
  refine lv_ldc2 (v := 4294967295) hx hb hown (hts _ tw_1207) dL_1108 ?_
  refine lv_land hx hb dL_1111 ?_
  refine lv_lor hx hb dL_1112 ?_
  obtain ⟨v5, X7, hr6, h⟩ := bd2_el h
  refine c_L hS (c_runV (As := [.int v1, .int v2, .long (((v3.toInt64) <<< ((32 : Int32).toInt64 &&& 63)) ||| ((v4.toInt64) &&& (4294967295 : Int64)))]) (rest := []) C hS (by decide) cel_Tide (rfl : cls[5]? = some (R_Tide, T_Tide, 12)) (k_Tide_write (l := l) (E := E) (X := X) hr6) cw_Tide_write ini_Tide_write ins_Tide_write sel_Tide_write tw_713 hd_Tide_write rfl ⟨⟨rfl, rfl⟩, (Nat.le_of_ble_eq_true rfl), (Nat.le_of_ble_eq_true rfl)⟩ ⟨(Nat.le_of_ble_eq_true rfl), (Nat.le_of_ble_eq_true rfl)⟩ hl.1 rfl (Nat.le_of_ble_eq_true rfl) dL_1113) (fun H locs hS => ?_)
  refine lv_aload_n hx hb dL_1116 rfl (lv_at hl 2 rfl) ?_
  refine lv_aload_n hx hb dL_1117 rfl (lv_at hl 0 rfl) ?_
  refine lv_iload_n hx hb dL_1118 rfl (lv_at hl 3 rfl) ?_
  refine lv_iconst (v := 1) hx hb dL_1119 (by decide) ?_
  refine lv_iadd hx hb dL_1120 ?_
  refine r_sld C hS S h dL_1121 (fun v8 h => ?_)
  refine lv_aload_n hx hb dL_1122 rfl (lv_at hl 0 rfl) ?_
  refine lv_iload_n hx hb dL_1123 rfl (lv_at hl 3 rfl) ?_
  refine lv_iconst (v := 2) hx hb dL_1124 (by decide) ?_
  refine lv_iadd hx hb dL_1125 ?_
  refine r_sld C hS S h dL_1126 (fun v9 h => ?_)
  refine lv_aload_n hx hb dL_1127 rfl (lv_at hl 0 rfl) ?_
  refine lv_iload_n hx hb dL_1128 rfl (lv_at hl 3 rfl) ?_
  refine lv_iconst (v := 3) hx hb dL_1129 (by decide) ?_
  refine lv_iadd hx hb dL_1130 ?_
  refine r_sld C hS S h dL_1131 (fun v10 h => ?_)
  refine lv_i2l hx hb dL_1132 rfl ?_
  refine lv_bipush (v := 32) hx hb dL_1133 (by decide) ?_
  refine lv_lshl hx hb dL_1135 rfl ?_
  refine lv_aload_n hx hb dL_1136 rfl (lv_at hl 0 rfl) ?_
  refine lv_iload_n hx hb dL_1137 rfl (lv_at hl 3 rfl) ?_
  refine lv_iconst (v := 4) hx hb dL_1138 (by decide) ?_
  refine lv_iadd hx hb dL_1139 ?_
  refine r_sld C hS S h dL_1140 (fun v11 h => ?_)
  refine lv_i2l hx hb dL_1141 rfl ?_
  refine lv_ldc2 (v := 4294967295) hx hb hown (hts _ tw_1207) dL_1142 ?_
  refine lv_land hx hb dL_1145 ?_
  refine lv_lor hx hb dL_1146 ?_
  obtain ⟨v12, X14, hr13, h⟩ := bd2_el h
  refine c_L hS (c_runV (As := [.int v8, .int v9, .long (((v10.toInt64) <<< ((32 : Int32).toInt64 &&& 63)) ||| ((v11.toInt64) &&& (4294967295 : Int64)))]) (rest := [.long v5]) C hS (by decide) cel_Model (rfl : cls[6]? = some (R_Model, T_Model, 16)) (k_Model_write (l := l) (E := E) (X := X7) hr13) cw_Model_write ini_Model_write ins_Model_write sel_Model_write tw_1154 hd_Model_write rfl ⟨⟨rfl, rfl⟩, (Nat.le_of_ble_eq_true rfl), (Nat.le_of_ble_eq_true rfl)⟩ ⟨(Nat.le_of_ble_eq_true rfl), (Nat.le_of_ble_eq_true rfl)⟩ hl.1 rfl (Nat.le_of_ble_eq_true rfl) dL_1147) (fun H locs hS => ?_)
  refine W.lcmp hx hb dL_1150 ?_
  refine r_if_eq (tgt := 1403) C h dL_1151 (by decide) (fun h => ?_) (fun h => ?_)
  · skip
    exact k_law_j1403 C S hc18 ih18 h hS (lv_sub hl [0, 1, 2, 3] rfl)
  · skip
    refine lv_iconst (v := 0) hx hb dL_1154 (by decide) ?_
    exact absurd (lp_ret h hc18) (by decide)
set_option maxHeartbeats 4000000 in
set_option maxRecDepth 100000 in
theorem k_law_j1156 {p : Program} {l : Launch} {e : Env} {s : State} {m : MethodId} {below : List Frame} {meth : Method} {c : Code} {E : En} {b L : Nat} {xs : Nat → Int32} (C : Cx p s m #[Value.ref b] meth c code 4 "TideLoansLaw" (some .boolean) E) (S : Sx s E b L xs) {x3 : Int32} {X : Mem} {tg : (Int32 ⊕ (Int32 × Mem))} {n18 : Nat} (hc18 : fin (fun a => f_law_b18 xs L a.1 a.2) n18 (1 : Int32) tg) (ih18 : I_law_b18 p l e s m below meth c E b L xs n18 (1 : Int32)) (h : f_law_j1156 xs L x3 X = some tg) {H : Heap} {locs : List Loc} (hS : Hs E s.heap X H locs) {ls : Array Slot} (hl : lv_has ls 4 [(0, .ref b), (1, .ref (ad E 0)), (2, .ref (ad E 70)), (3, .int x3)]) : W p l e room_1 s m #[Value.ref b] below meth c H locs 80 1374 (lw_Z below #[Value.ref b] s) (F0 m 1156 ls []) := by
  obtain ⟨hx, hb, hml, hown, hts, hrt, hlk, hKx⟩ := id C
  unfold f_law_j1156 at h
  refine lv_aload_n hx hb dL_1156 rfl (lv_at hl 1 rfl) ?_
  refine lv_aload_n hx hb dL_1157 rfl (lv_at hl 0 rfl) ?_
  refine lv_iload_n hx hb dL_1158 rfl (lv_at hl 3 rfl) ?_
  refine lv_iconst (v := 1) hx hb dL_1159 (by decide) ?_
  refine lv_iadd hx hb dL_1160 ?_
  refine r_sld C hS S h dL_1161 (fun v1 h => ?_)
  refine lv_aload_n hx hb dL_1162 rfl (lv_at hl 0 rfl) ?_
  refine lv_iload_n hx hb dL_1163 rfl (lv_at hl 3 rfl) ?_
  refine lv_iconst (v := 2) hx hb dL_1164 (by decide) ?_
  refine lv_iadd hx hb dL_1165 ?_
  refine r_sld C hS S h dL_1166 (fun v2 h => ?_)
  refine lv_aload_n hx hb dL_1167 rfl (lv_at hl 0 rfl) ?_
  refine lv_iload_n hx hb dL_1168 rfl (lv_at hl 3 rfl) ?_
  refine lv_iconst (v := 3) hx hb dL_1169 (by decide) ?_
  refine lv_iadd hx hb dL_1170 ?_
  refine r_sld C hS S h dL_1171 (fun v3 h => ?_)
  refine lv_aload_n hx hb dL_1172 rfl (lv_at hl 0 rfl) ?_
  refine lv_iload_n hx hb dL_1173 rfl (lv_at hl 3 rfl) ?_
  refine lv_iconst (v := 4) hx hb dL_1174 (by decide) ?_
  refine lv_iadd hx hb dL_1175 ?_
  refine r_sld C hS S h dL_1176 (fun v4 h => ?_)
  refine lv_aload_n hx hb dL_1177 rfl (lv_at hl 0 rfl) ?_
  refine lv_iload_n hx hb dL_1178 rfl (lv_at hl 3 rfl) ?_
  refine lv_iconst (v := 5) hx hb dL_1179 (by decide) ?_
  refine lv_iadd hx hb dL_1180 ?_
  refine r_sld C hS S h dL_1181 (fun v5 h => ?_)
  obtain ⟨v6, X8, hr7, h⟩ := bd2_el h
  refine c_I hS (c_runV (As := [.int v1, .int v2, .int v3, .int v4, .int v5]) (rest := []) C hS (by decide) cel_Tide (rfl : cls[5]? = some (R_Tide, T_Tide, 12)) (k_Tide_copy (l := l) (E := E) (X := X) hr7) cw_Tide_copy ini_Tide_copy ins_Tide_copy sel_Tide_copy tw_726 hd_Tide_copy rfl ⟨⟨rfl, rfl⟩, (Nat.le_of_ble_eq_true rfl), (Nat.le_of_ble_eq_true rfl)⟩ ⟨(Nat.le_of_ble_eq_true rfl), (Nat.le_of_ble_eq_true rfl)⟩ hl.1 rfl (Nat.le_of_ble_eq_true rfl) dL_1182) (fun H locs hS => ?_)
  refine lv_aload_n hx hb dL_1185 rfl (lv_at hl 2 rfl) ?_
  refine lv_aload_n hx hb dL_1186 rfl (lv_at hl 0 rfl) ?_
  refine lv_iload_n hx hb dL_1187 rfl (lv_at hl 3 rfl) ?_
  refine lv_iconst (v := 1) hx hb dL_1188 (by decide) ?_
  refine lv_iadd hx hb dL_1189 ?_
  refine r_sld C hS S h dL_1190 (fun v9 h => ?_)
  refine lv_aload_n hx hb dL_1191 rfl (lv_at hl 0 rfl) ?_
  refine lv_iload_n hx hb dL_1192 rfl (lv_at hl 3 rfl) ?_
  refine lv_iconst (v := 2) hx hb dL_1193 (by decide) ?_
  refine lv_iadd hx hb dL_1194 ?_
  refine r_sld C hS S h dL_1195 (fun v10 h => ?_)
  refine lv_aload_n hx hb dL_1196 rfl (lv_at hl 0 rfl) ?_
  refine lv_iload_n hx hb dL_1197 rfl (lv_at hl 3 rfl) ?_
  refine lv_iconst (v := 3) hx hb dL_1198 (by decide) ?_
  refine lv_iadd hx hb dL_1199 ?_
  refine r_sld C hS S h dL_1200 (fun v11 h => ?_)
  refine lv_aload_n hx hb dL_1201 rfl (lv_at hl 0 rfl) ?_
  refine lv_iload_n hx hb dL_1202 rfl (lv_at hl 3 rfl) ?_
  refine lv_iconst (v := 4) hx hb dL_1203 (by decide) ?_
  refine lv_iadd hx hb dL_1204 ?_
  refine r_sld C hS S h dL_1205 (fun v12 h => ?_)
  refine lv_aload_n hx hb dL_1206 rfl (lv_at hl 0 rfl) ?_
  refine lv_iload_n hx hb dL_1207 rfl (lv_at hl 3 rfl) ?_
  refine lv_iconst (v := 5) hx hb dL_1208 (by decide) ?_
  refine lv_iadd hx hb dL_1209 ?_
  refine r_sld C hS S h dL_1210 (fun v13 h => ?_)
  obtain ⟨v14, X16, hr15, h⟩ := bd2_el h
  refine c_I hS (c_runV (As := [.int v9, .int v10, .int v11, .int v12, .int v13]) (rest := [.int v6]) C hS (by decide) cel_Model (rfl : cls[6]? = some (R_Model, T_Model, 16)) (k_Model_copy (l := l) (E := E) (X := X8) hr15) cw_Model_copy ini_Model_copy ins_Model_copy sel_Model_copy tw_1162 hd_Model_copy rfl ⟨⟨rfl, rfl⟩, (Nat.le_of_ble_eq_true rfl), (Nat.le_of_ble_eq_true rfl)⟩ ⟨(Nat.le_of_ble_eq_true rfl), (Nat.le_of_ble_eq_true rfl)⟩ hl.1 rfl (Nat.le_of_ble_eq_true rfl) dL_1211) (fun H locs hS => ?_)
  refine r_icmp_eq (tgt := 1403) C h dL_1214 (by decide) (fun h => ?_) (fun h => ?_)
  · skip
    exact k_law_j1403 C S hc18 ih18 h hS (lv_sub hl [0, 1, 2, 3] rfl)
  · skip
    refine lv_iconst (v := 0) hx hb dL_1217 (by decide) ?_
    exact absurd (lp_ret h hc18) (by decide)
set_option maxHeartbeats 4000000 in
set_option maxRecDepth 100000 in
theorem k_law_j1219 {p : Program} {l : Launch} {e : Env} {s : State} {m : MethodId} {below : List Frame} {meth : Method} {c : Code} {E : En} {b L : Nat} {xs : Nat → Int32} (C : Cx p s m #[Value.ref b] meth c code 4 "TideLoansLaw" (some .boolean) E) (S : Sx s E b L xs) {x3 : Int32} {X : Mem} {tg : (Int32 ⊕ (Int32 × Mem))} {n18 : Nat} (hc18 : fin (fun a => f_law_b18 xs L a.1 a.2) n18 (1 : Int32) tg) (ih18 : I_law_b18 p l e s m below meth c E b L xs n18 (1 : Int32)) (h : f_law_j1219 xs L x3 X = some tg) {H : Heap} {locs : List Loc} (hS : Hs E s.heap X H locs) {ls : Array Slot} (hl : lv_has ls 4 [(0, .ref b), (1, .ref (ad E 0)), (2, .ref (ad E 70)), (3, .int x3)]) : W p l e room_1 s m #[Value.ref b] below meth c H locs 80 1374 (lw_Z below #[Value.ref b] s) (F0 m 1219 ls []) := by
  obtain ⟨hx, hb, hml, hown, hts, hrt, hlk, hKx⟩ := id C
  unfold f_law_j1219 at h
  refine lv_aload_n hx hb dL_1219 rfl (lv_at hl 1 rfl) ?_
  refine lv_aload_n hx hb dL_1220 rfl (lv_at hl 0 rfl) ?_
  refine lv_iload_n hx hb dL_1221 rfl (lv_at hl 3 rfl) ?_
  refine lv_iconst (v := 1) hx hb dL_1222 (by decide) ?_
  refine lv_iadd hx hb dL_1223 ?_
  refine r_sld C hS S h dL_1224 (fun v1 h => ?_)
  obtain ⟨v2, X4, hr3, h⟩ := bd2_el h
  refine c_I hS (c_runV (As := [.int v1]) (rest := []) C hS (by decide) cel_Tide (rfl : cls[5]? = some (R_Tide, T_Tide, 12)) (k_Tide_lays (l := l) (E := E) (X := X) hr3) cw_Tide_lays ini_Tide_lays ins_Tide_lays sel_Tide_lays tw_735 hd_Tide_lays rfl ⟨⟨rfl, rfl⟩, (Nat.le_of_ble_eq_true rfl), (Nat.le_of_ble_eq_true rfl)⟩ ⟨(Nat.le_of_ble_eq_true rfl), (Nat.le_of_ble_eq_true rfl)⟩ hl.1 rfl (Nat.le_of_ble_eq_true rfl) dL_1225) (fun H locs hS => ?_)
  refine lv_aload_n hx hb dL_1228 rfl (lv_at hl 2 rfl) ?_
  refine lv_aload_n hx hb dL_1229 rfl (lv_at hl 0 rfl) ?_
  refine lv_iload_n hx hb dL_1230 rfl (lv_at hl 3 rfl) ?_
  refine lv_iconst (v := 1) hx hb dL_1231 (by decide) ?_
  refine lv_iadd hx hb dL_1232 ?_
  refine r_sld C hS S h dL_1233 (fun v5 h => ?_)
  obtain ⟨v6, X8, hr7, h⟩ := bd2_el h
  refine c_I hS (c_runV (As := [.int v5]) (rest := [.int v2]) C hS (by decide) cel_Model (rfl : cls[6]? = some (R_Model, T_Model, 16)) (k_Model_lays (l := l) (E := E) (X := X4) hr7) cw_Model_lays ini_Model_lays ins_Model_lays sel_Model_lays tw_1166 hd_Model_lays rfl ⟨⟨rfl, rfl⟩, (Nat.le_of_ble_eq_true rfl), (Nat.le_of_ble_eq_true rfl)⟩ ⟨(Nat.le_of_ble_eq_true rfl), (Nat.le_of_ble_eq_true rfl)⟩ hl.1 rfl (Nat.le_of_ble_eq_true rfl) dL_1234) (fun H locs hS => ?_)
  refine r_icmp_eq (tgt := 1403) C h dL_1237 (by decide) (fun h => ?_) (fun h => ?_)
  · skip
    exact k_law_j1403 C S hc18 ih18 h hS (lv_sub hl [0, 1, 2, 3] rfl)
  · skip
    refine lv_iconst (v := 0) hx hb dL_1240 (by decide) ?_
    exact absurd (lp_ret h hc18) (by decide)
set_option maxHeartbeats 4000000 in
set_option maxRecDepth 100000 in
theorem k_law_j1242 {p : Program} {l : Launch} {e : Env} {s : State} {m : MethodId} {below : List Frame} {meth : Method} {c : Code} {E : En} {b L : Nat} {xs : Nat → Int32} (C : Cx p s m #[Value.ref b] meth c code 4 "TideLoansLaw" (some .boolean) E) (S : Sx s E b L xs) {x3 : Int32} {X : Mem} {tg : (Int32 ⊕ (Int32 × Mem))} {n18 : Nat} (hc18 : fin (fun a => f_law_b18 xs L a.1 a.2) n18 (1 : Int32) tg) (ih18 : I_law_b18 p l e s m below meth c E b L xs n18 (1 : Int32)) (h : f_law_j1242 xs L x3 X = some tg) {H : Heap} {locs : List Loc} (hS : Hs E s.heap X H locs) {ls : Array Slot} (hl : lv_has ls 4 [(0, .ref b), (1, .ref (ad E 0)), (2, .ref (ad E 70)), (3, .int x3)]) : W p l e room_1 s m #[Value.ref b] below meth c H locs 80 1374 (lw_Z below #[Value.ref b] s) (F0 m 1242 ls []) := by
  obtain ⟨hx, hb, hml, hown, hts, hrt, hlk, hKx⟩ := id C
  unfold f_law_j1242 at h
  refine lv_aload_n hx hb dL_1242 rfl (lv_at hl 1 rfl) ?_
  refine lv_aload_n hx hb dL_1243 rfl (lv_at hl 0 rfl) ?_
  refine lv_iload_n hx hb dL_1244 rfl (lv_at hl 3 rfl) ?_
  refine lv_iconst (v := 1) hx hb dL_1245 (by decide) ?_
  refine lv_iadd hx hb dL_1246 ?_
  refine r_sld C hS S h dL_1247 (fun v1 h => ?_)
  refine lv_aload_n hx hb dL_1248 rfl (lv_at hl 0 rfl) ?_
  refine lv_iload_n hx hb dL_1249 rfl (lv_at hl 3 rfl) ?_
  refine lv_iconst (v := 2) hx hb dL_1250 (by decide) ?_
  refine lv_iadd hx hb dL_1251 ?_
  refine r_sld C hS S h dL_1252 (fun v2 h => ?_)
  obtain ⟨v3, X5, hr4, h⟩ := bd2_el h
  refine c_I hS (c_runV (As := [.int v1, .int v2]) (rest := []) C hS (by decide) cel_Tide (rfl : cls[5]? = some (R_Tide, T_Tide, 12)) (k_Tide_book (l := l) (E := E) (X := X) hr4) cw_Tide_book ini_Tide_book ins_Tide_book sel_Tide_book tw_740 hd_Tide_book rfl ⟨⟨rfl, rfl⟩, (Nat.le_of_ble_eq_true rfl), (Nat.le_of_ble_eq_true rfl)⟩ ⟨(Nat.le_of_ble_eq_true rfl), (Nat.le_of_ble_eq_true rfl)⟩ hl.1 rfl (Nat.le_of_ble_eq_true rfl) dL_1253) (fun H locs hS => ?_)
  refine lv_aload_n hx hb dL_1256 rfl (lv_at hl 2 rfl) ?_
  refine lv_aload_n hx hb dL_1257 rfl (lv_at hl 0 rfl) ?_
  refine lv_iload_n hx hb dL_1258 rfl (lv_at hl 3 rfl) ?_
  refine lv_iconst (v := 1) hx hb dL_1259 (by decide) ?_
  refine lv_iadd hx hb dL_1260 ?_
  refine r_sld C hS S h dL_1261 (fun v6 h => ?_)
  refine lv_aload_n hx hb dL_1262 rfl (lv_at hl 0 rfl) ?_
  refine lv_iload_n hx hb dL_1263 rfl (lv_at hl 3 rfl) ?_
  refine lv_iconst (v := 2) hx hb dL_1264 (by decide) ?_
  refine lv_iadd hx hb dL_1265 ?_
  refine r_sld C hS S h dL_1266 (fun v7 h => ?_)
  obtain ⟨v8, X10, hr9, h⟩ := bd2_el h
  refine c_I hS (c_runV (As := [.int v6, .int v7]) (rest := [.int v3]) C hS (by decide) cel_Model (rfl : cls[6]? = some (R_Model, T_Model, 16)) (k_Model_book (l := l) (E := E) (X := X5) hr9) cw_Model_book ini_Model_book ins_Model_book sel_Model_book tw_1174 hd_Model_book rfl ⟨⟨rfl, rfl⟩, (Nat.le_of_ble_eq_true rfl), (Nat.le_of_ble_eq_true rfl)⟩ ⟨(Nat.le_of_ble_eq_true rfl), (Nat.le_of_ble_eq_true rfl)⟩ hl.1 rfl (Nat.le_of_ble_eq_true rfl) dL_1267) (fun H locs hS => ?_)
  refine r_icmp_eq (tgt := 1403) C h dL_1270 (by decide) (fun h => ?_) (fun h => ?_)
  · skip
    exact k_law_j1403 C S hc18 ih18 h hS (lv_sub hl [0, 1, 2, 3] rfl)
  · skip
    refine lv_iconst (v := 0) hx hb dL_1273 (by decide) ?_
    exact absurd (lp_ret h hc18) (by decide)
set_option maxHeartbeats 4000000 in
set_option maxRecDepth 100000 in
theorem k_law_j1275 {p : Program} {l : Launch} {e : Env} {s : State} {m : MethodId} {below : List Frame} {meth : Method} {c : Code} {E : En} {b L : Nat} {xs : Nat → Int32} (C : Cx p s m #[Value.ref b] meth c code 4 "TideLoansLaw" (some .boolean) E) (S : Sx s E b L xs) {x3 : Int32} {X : Mem} {tg : (Int32 ⊕ (Int32 × Mem))} {n18 : Nat} (hc18 : fin (fun a => f_law_b18 xs L a.1 a.2) n18 (1 : Int32) tg) (ih18 : I_law_b18 p l e s m below meth c E b L xs n18 (1 : Int32)) (h : f_law_j1275 xs L x3 X = some tg) {H : Heap} {locs : List Loc} (hS : Hs E s.heap X H locs) {ls : Array Slot} (hl : lv_has ls 4 [(0, .ref b), (1, .ref (ad E 0)), (2, .ref (ad E 70)), (3, .int x3)]) : W p l e room_1 s m #[Value.ref b] below meth c H locs 80 1374 (lw_Z below #[Value.ref b] s) (F0 m 1275 ls []) := by
  obtain ⟨hx, hb, hml, hown, hts, hrt, hlk, hKx⟩ := id C
  unfold f_law_j1275 at h
  refine lv_aload_n hx hb dL_1275 rfl (lv_at hl 1 rfl) ?_
  refine lv_aload_n hx hb dL_1276 rfl (lv_at hl 0 rfl) ?_
  refine lv_iload_n hx hb dL_1277 rfl (lv_at hl 3 rfl) ?_
  refine lv_iconst (v := 1) hx hb dL_1278 (by decide) ?_
  refine lv_iadd hx hb dL_1279 ?_
  refine r_sld C hS S h dL_1280 (fun v1 h => ?_)
  refine lv_aload_n hx hb dL_1281 rfl (lv_at hl 0 rfl) ?_
  refine lv_iload_n hx hb dL_1282 rfl (lv_at hl 3 rfl) ?_
  refine lv_iconst (v := 2) hx hb dL_1283 (by decide) ?_
  refine lv_iadd hx hb dL_1284 ?_
  refine r_sld C hS S h dL_1285 (fun v2 h => ?_)
  refine lv_aload_n hx hb dL_1286 rfl (lv_at hl 0 rfl) ?_
  refine lv_iload_n hx hb dL_1287 rfl (lv_at hl 3 rfl) ?_
  refine lv_iconst (v := 3) hx hb dL_1288 (by decide) ?_
  refine lv_iadd hx hb dL_1289 ?_
  refine r_sld C hS S h dL_1290 (fun v3 h => ?_)
  obtain ⟨v4, X6, hr5, h⟩ := bd2_el h
  refine c_I hS (c_runV (As := [.int v1, .int v2, .int v3]) (rest := []) C hS (by decide) cel_Tide (rfl : cls[5]? = some (R_Tide, T_Tide, 12)) (k_Tide_read (l := l) (E := E) (X := X) hr5) cw_Tide_read ini_Tide_read ins_Tide_read sel_Tide_read tw_752 hd_Tide_read rfl ⟨⟨rfl, rfl⟩, (Nat.le_of_ble_eq_true rfl), (Nat.le_of_ble_eq_true rfl)⟩ ⟨(Nat.le_of_ble_eq_true rfl), (Nat.le_of_ble_eq_true rfl)⟩ hl.1 rfl (Nat.le_of_ble_eq_true rfl) dL_1291) (fun H locs hS => ?_)
  refine lv_aload_n hx hb dL_1294 rfl (lv_at hl 2 rfl) ?_
  refine lv_aload_n hx hb dL_1295 rfl (lv_at hl 0 rfl) ?_
  refine lv_iload_n hx hb dL_1296 rfl (lv_at hl 3 rfl) ?_
  refine lv_iconst (v := 1) hx hb dL_1297 (by decide) ?_
  refine lv_iadd hx hb dL_1298 ?_
  refine r_sld C hS S h dL_1299 (fun v7 h => ?_)
  refine lv_aload_n hx hb dL_1300 rfl (lv_at hl 0 rfl) ?_
  refine lv_iload_n hx hb dL_1301 rfl (lv_at hl 3 rfl) ?_
  refine lv_iconst (v := 2) hx hb dL_1302 (by decide) ?_
  refine lv_iadd hx hb dL_1303 ?_
  refine r_sld C hS S h dL_1304 (fun v8 h => ?_)
  refine lv_aload_n hx hb dL_1305 rfl (lv_at hl 0 rfl) ?_
  refine lv_iload_n hx hb dL_1306 rfl (lv_at hl 3 rfl) ?_
  refine lv_iconst (v := 3) hx hb dL_1307 (by decide) ?_
  refine lv_iadd hx hb dL_1308 ?_
  refine r_sld C hS S h dL_1309 (fun v9 h => ?_)
  obtain ⟨v10, X12, hr11, h⟩ := bd2_el h
  refine c_I hS (c_runV (As := [.int v7, .int v8, .int v9]) (rest := [.int v4]) C hS (by decide) cel_Model (rfl : cls[6]? = some (R_Model, T_Model, 16)) (k_Model_read (l := l) (E := E) (X := X6) hr11) cw_Model_read ini_Model_read ins_Model_read sel_Model_read tw_1178 hd_Model_read rfl ⟨⟨rfl, rfl⟩, (Nat.le_of_ble_eq_true rfl), (Nat.le_of_ble_eq_true rfl)⟩ ⟨(Nat.le_of_ble_eq_true rfl), (Nat.le_of_ble_eq_true rfl)⟩ hl.1 rfl (Nat.le_of_ble_eq_true rfl) dL_1310) (fun H locs hS => ?_)
  refine r_icmp_eq (tgt := 1403) C h dL_1313 (by decide) (fun h => ?_) (fun h => ?_)
  · skip
    exact k_law_j1403 C S hc18 ih18 h hS (lv_sub hl [0, 1, 2, 3] rfl)
  · skip
    refine lv_iconst (v := 0) hx hb dL_1316 (by decide) ?_
    exact absurd (lp_ret h hc18) (by decide)
set_option maxHeartbeats 4000000 in
set_option maxRecDepth 100000 in
theorem k_law_j1318 {p : Program} {l : Launch} {e : Env} {s : State} {m : MethodId} {below : List Frame} {meth : Method} {c : Code} {E : En} {b L : Nat} {xs : Nat → Int32} (C : Cx p s m #[Value.ref b] meth c code 4 "TideLoansLaw" (some .boolean) E) (S : Sx s E b L xs) {x3 : Int32} {X : Mem} {tg : (Int32 ⊕ (Int32 × Mem))} {n18 : Nat} (hc18 : fin (fun a => f_law_b18 xs L a.1 a.2) n18 (1 : Int32) tg) (ih18 : I_law_b18 p l e s m below meth c E b L xs n18 (1 : Int32)) (h : f_law_j1318 xs L x3 X = some tg) {H : Heap} {locs : List Loc} (hS : Hs E s.heap X H locs) {ls : Array Slot} (hl : lv_has ls 4 [(0, .ref b), (1, .ref (ad E 0)), (2, .ref (ad E 70)), (3, .int x3)]) : W p l e room_1 s m #[Value.ref b] below meth c H locs 80 1374 (lw_Z below #[Value.ref b] s) (F0 m 1318 ls []) := by
  obtain ⟨hx, hb, hml, hown, hts, hrt, hlk, hKx⟩ := id C
  unfold f_law_j1318 at h
  refine lv_aload_n hx hb dL_1318 rfl (lv_at hl 1 rfl) ?_
  obtain ⟨v1, X3, hr2, h⟩ := bd2_el h
  refine c_I hS (c_runV (As := []) (rest := []) C hS (by decide) cel_Tide (rfl : cls[5]? = some (R_Tide, T_Tide, 12)) (k_Tide_image (l := l) (E := E) (X := X) hr2) cw_Tide_image ini_Tide_image ins_Tide_image sel_Tide_image tw_764 hd_Tide_image rfl ⟨⟨rfl, rfl⟩, (Nat.le_of_ble_eq_true rfl), (Nat.le_of_ble_eq_true rfl)⟩ ⟨(Nat.le_of_ble_eq_true rfl), (Nat.le_of_ble_eq_true rfl)⟩ hl.1 rfl (Nat.le_of_ble_eq_true rfl) dL_1319) (fun H locs hS => ?_)
  refine lv_aload_n hx hb dL_1322 rfl (lv_at hl 2 rfl) ?_
  obtain ⟨v4, X6, hr5, h⟩ := bd2_el h
  refine c_I hS (c_runV (As := []) (rest := [.int v1]) C hS (by decide) cel_Model (rfl : cls[6]? = some (R_Model, T_Model, 16)) (k_Model_image (l := l) (E := E) (X := X3) hr5) cw_Model_image ini_Model_image ins_Model_image sel_Model_image tw_1186 hd_Model_image rfl ⟨⟨rfl, rfl⟩, (Nat.le_of_ble_eq_true rfl), (Nat.le_of_ble_eq_true rfl)⟩ ⟨(Nat.le_of_ble_eq_true rfl), (Nat.le_of_ble_eq_true rfl)⟩ hl.1 rfl (Nat.le_of_ble_eq_true rfl) dL_1323) (fun H locs hS => ?_)
  refine r_icmp_eq (tgt := 1403) C h dL_1326 (by decide) (fun h => ?_) (fun h => ?_)
  · skip
    exact k_law_j1403 C S hc18 ih18 h hS (lv_sub hl [0, 1, 2, 3] rfl)
  · skip
    refine lv_iconst (v := 0) hx hb dL_1329 (by decide) ?_
    exact absurd (lp_ret h hc18) (by decide)
set_option maxHeartbeats 4000000 in
set_option maxRecDepth 100000 in
theorem k_law_j1331 {p : Program} {l : Launch} {e : Env} {s : State} {m : MethodId} {below : List Frame} {meth : Method} {c : Code} {E : En} {b L : Nat} {xs : Nat → Int32} (C : Cx p s m #[Value.ref b] meth c code 4 "TideLoansLaw" (some .boolean) E) (S : Sx s E b L xs) {x3 : Int32} {X : Mem} {tg : (Int32 ⊕ (Int32 × Mem))} {n18 : Nat} (hc18 : fin (fun a => f_law_b18 xs L a.1 a.2) n18 (1 : Int32) tg) (ih18 : I_law_b18 p l e s m below meth c E b L xs n18 (1 : Int32)) (h : f_law_j1331 xs L x3 X = some tg) {H : Heap} {locs : List Loc} (hS : Hs E s.heap X H locs) {ls : Array Slot} (hl : lv_has ls 4 [(0, .ref b), (1, .ref (ad E 0)), (2, .ref (ad E 70)), (3, .int x3)]) : W p l e room_1 s m #[Value.ref b] below meth c H locs 80 1374 (lw_Z below #[Value.ref b] s) (F0 m 1331 ls []) := by
  obtain ⟨hx, hb, hml, hown, hts, hrt, hlk, hKx⟩ := id C
  unfold f_law_j1331 at h
  refine lv_aload_n hx hb dL_1331 rfl (lv_at hl 1 rfl) ?_
  obtain ⟨v1, X3, hr2, h⟩ := bd2_el h
  refine c_I hS (c_runV (As := []) (rest := []) C hS (by decide) cel_Tide (rfl : cls[5]? = some (R_Tide, T_Tide, 12)) (k_Tide_undo (l := l) (E := E) (X := X) hr2) cw_Tide_undo ini_Tide_undo ins_Tide_undo sel_Tide_undo tw_768 hd_Tide_undo rfl ⟨⟨rfl, rfl⟩, (Nat.le_of_ble_eq_true rfl), (Nat.le_of_ble_eq_true rfl)⟩ ⟨(Nat.le_of_ble_eq_true rfl), (Nat.le_of_ble_eq_true rfl)⟩ hl.1 rfl (Nat.le_of_ble_eq_true rfl) dL_1332) (fun H locs hS => ?_)
  refine lv_aload_n hx hb dL_1335 rfl (lv_at hl 2 rfl) ?_
  obtain ⟨v4, X6, hr5, h⟩ := bd2_el h
  refine c_I hS (c_runV (As := []) (rest := [.int v1]) C hS (by decide) cel_Model (rfl : cls[6]? = some (R_Model, T_Model, 16)) (k_Model_undo (l := l) (E := E) (X := X3) hr5) cw_Model_undo ini_Model_undo ins_Model_undo sel_Model_undo tw_1190 hd_Model_undo rfl ⟨⟨rfl, rfl⟩, (Nat.le_of_ble_eq_true rfl), (Nat.le_of_ble_eq_true rfl)⟩ ⟨(Nat.le_of_ble_eq_true rfl), (Nat.le_of_ble_eq_true rfl)⟩ hl.1 rfl (Nat.le_of_ble_eq_true rfl) dL_1336) (fun H locs hS => ?_)
  refine r_icmp_eq (tgt := 1403) C h dL_1339 (by decide) (fun h => ?_) (fun h => ?_)
  · skip
    exact k_law_j1403 C S hc18 ih18 h hS (lv_sub hl [0, 1, 2, 3] rfl)
  · skip
    refine lv_iconst (v := 0) hx hb dL_1342 (by decide) ?_
    exact absurd (lp_ret h hc18) (by decide)
set_option maxHeartbeats 4000000 in
set_option maxRecDepth 100000 in
theorem k_law_j1344 {p : Program} {l : Launch} {e : Env} {s : State} {m : MethodId} {below : List Frame} {meth : Method} {c : Code} {E : En} {b L : Nat} {xs : Nat → Int32} (C : Cx p s m #[Value.ref b] meth c code 4 "TideLoansLaw" (some .boolean) E) (S : Sx s E b L xs) {x3 : Int32} {X : Mem} {tg : (Int32 ⊕ (Int32 × Mem))} {n18 : Nat} (hc18 : fin (fun a => f_law_b18 xs L a.1 a.2) n18 (1 : Int32) tg) (ih18 : I_law_b18 p l e s m below meth c E b L xs n18 (1 : Int32)) (h : f_law_j1344 xs L x3 X = some tg) {H : Heap} {locs : List Loc} (hS : Hs E s.heap X H locs) {ls : Array Slot} (hl : lv_has ls 4 [(0, .ref b), (1, .ref (ad E 0)), (2, .ref (ad E 70)), (3, .int x3)]) : W p l e room_1 s m #[Value.ref b] below meth c H locs 80 1374 (lw_Z below #[Value.ref b] s) (F0 m 1344 ls []) := by
  obtain ⟨hx, hb, hml, hown, hts, hrt, hlk, hKx⟩ := id C
  unfold f_law_j1344 at h
  refine lv_aload_n hx hb dL_1344 rfl (lv_at hl 1 rfl) ?_
  obtain ⟨v1, X3, hr2, h⟩ := bd2_el h
  refine c_I hS (c_runV (As := []) (rest := []) C hS (by decide) cel_Tide (rfl : cls[5]? = some (R_Tide, T_Tide, 12)) (k_Tide_tear (l := l) (E := E) (X := X) hr2) cw_Tide_tear ini_Tide_tear ins_Tide_tear sel_Tide_tear tw_772 hd_Tide_tear rfl ⟨⟨rfl, rfl⟩, (Nat.le_of_ble_eq_true rfl), (Nat.le_of_ble_eq_true rfl)⟩ ⟨(Nat.le_of_ble_eq_true rfl), (Nat.le_of_ble_eq_true rfl)⟩ hl.1 rfl (Nat.le_of_ble_eq_true rfl) dL_1345) (fun H locs hS => ?_)
  refine lv_aload_n hx hb dL_1348 rfl (lv_at hl 2 rfl) ?_
  obtain ⟨v4, X6, hr5, h⟩ := bd2_el h
  refine c_I hS (c_runV (As := []) (rest := [.int v1]) C hS (by decide) cel_Model (rfl : cls[6]? = some (R_Model, T_Model, 16)) (k_Model_tear (l := l) (E := E) (X := X3) hr5) cw_Model_tear ini_Model_tear ins_Model_tear sel_Model_tear tw_1194 hd_Model_tear rfl ⟨⟨rfl, rfl⟩, (Nat.le_of_ble_eq_true rfl), (Nat.le_of_ble_eq_true rfl)⟩ ⟨(Nat.le_of_ble_eq_true rfl), (Nat.le_of_ble_eq_true rfl)⟩ hl.1 rfl (Nat.le_of_ble_eq_true rfl) dL_1349) (fun H locs hS => ?_)
  refine r_icmp_eq (tgt := 1403) C h dL_1352 (by decide) (fun h => ?_) (fun h => ?_)
  · skip
    exact k_law_j1403 C S hc18 ih18 h hS (lv_sub hl [0, 1, 2, 3] rfl)
  · skip
    refine lv_iconst (v := 0) hx hb dL_1355 (by decide) ?_
    exact absurd (lp_ret h hc18) (by decide)
set_option maxHeartbeats 4000000 in
set_option maxRecDepth 100000 in
theorem k_law_j1357 {p : Program} {l : Launch} {e : Env} {s : State} {m : MethodId} {below : List Frame} {meth : Method} {c : Code} {E : En} {b L : Nat} {xs : Nat → Int32} (C : Cx p s m #[Value.ref b] meth c code 4 "TideLoansLaw" (some .boolean) E) (S : Sx s E b L xs) {x3 : Int32} {X : Mem} {tg : (Int32 ⊕ (Int32 × Mem))} {n18 : Nat} (hc18 : fin (fun a => f_law_b18 xs L a.1 a.2) n18 (1 : Int32) tg) (ih18 : I_law_b18 p l e s m below meth c E b L xs n18 (1 : Int32)) (h : f_law_j1357 xs L x3 X = some tg) {H : Heap} {locs : List Loc} (hS : Hs E s.heap X H locs) {ls : Array Slot} (hl : lv_has ls 4 [(0, .ref b), (1, .ref (ad E 0)), (2, .ref (ad E 70)), (3, .int x3)]) : W p l e room_1 s m #[Value.ref b] below meth c H locs 80 1374 (lw_Z below #[Value.ref b] s) (F0 m 1357 ls []) := by
  obtain ⟨hx, hb, hml, hown, hts, hrt, hlk, hKx⟩ := id C
  unfold f_law_j1357 at h
  refine lv_aload_n hx hb dL_1357 rfl (lv_at hl 1 rfl) ?_
  refine lv_aload_n hx hb dL_1358 rfl (lv_at hl 0 rfl) ?_
  refine lv_iload_n hx hb dL_1359 rfl (lv_at hl 3 rfl) ?_
  refine lv_iconst (v := 1) hx hb dL_1360 (by decide) ?_
  refine lv_iadd hx hb dL_1361 ?_
  refine r_sld C hS S h dL_1362 (fun v1 h => ?_)
  obtain ⟨v2, X4, hr3, h⟩ := bd2_el h
  refine c_I hS (c_runV (As := [.int v1]) (rest := []) C hS (by decide) cel_Tide (rfl : cls[5]? = some (R_Tide, T_Tide, 12)) (k_Tide_count (l := l) (E := E) (X := X) hr3) cw_Tide_count ini_Tide_count ins_Tide_count sel_Tide_count tw_776 hd_Tide_count rfl ⟨⟨rfl, rfl⟩, (Nat.le_of_ble_eq_true rfl), (Nat.le_of_ble_eq_true rfl)⟩ ⟨(Nat.le_of_ble_eq_true rfl), (Nat.le_of_ble_eq_true rfl)⟩ hl.1 rfl (Nat.le_of_ble_eq_true rfl) dL_1363) (fun H locs hS => ?_)
  refine lv_aload_n hx hb dL_1366 rfl (lv_at hl 2 rfl) ?_
  refine lv_aload_n hx hb dL_1367 rfl (lv_at hl 0 rfl) ?_
  refine lv_iload_n hx hb dL_1368 rfl (lv_at hl 3 rfl) ?_
  refine lv_iconst (v := 1) hx hb dL_1369 (by decide) ?_
  refine lv_iadd hx hb dL_1370 ?_
  refine r_sld C hS S h dL_1371 (fun v5 h => ?_)
  obtain ⟨v6, X8, hr7, h⟩ := bd2_el h
  refine c_I hS (c_runV (As := [.int v5]) (rest := [.int v2]) C hS (by decide) cel_Model (rfl : cls[6]? = some (R_Model, T_Model, 16)) (k_Model_count (l := l) (E := E) (X := X4) hr7) cw_Model_count ini_Model_count ins_Model_count sel_Model_count tw_1198 hd_Model_count rfl ⟨⟨rfl, rfl⟩, (Nat.le_of_ble_eq_true rfl), (Nat.le_of_ble_eq_true rfl)⟩ ⟨(Nat.le_of_ble_eq_true rfl), (Nat.le_of_ble_eq_true rfl)⟩ hl.1 rfl (Nat.le_of_ble_eq_true rfl) dL_1372) (fun H locs hS => ?_)
  refine r_icmp_eq (tgt := 1403) C h dL_1375 (by decide) (fun h => ?_) (fun h => ?_)
  · skip
    exact k_law_j1403 C S hc18 ih18 h hS (lv_sub hl [0, 1, 2, 3] rfl)
  · skip
    refine lv_iconst (v := 0) hx hb dL_1378 (by decide) ?_
    exact absurd (lp_ret h hc18) (by decide)
set_option maxHeartbeats 4000000 in
set_option maxRecDepth 100000 in
theorem k_law_j1380 {p : Program} {l : Launch} {e : Env} {s : State} {m : MethodId} {below : List Frame} {meth : Method} {c : Code} {E : En} {b L : Nat} {xs : Nat → Int32} (C : Cx p s m #[Value.ref b] meth c code 4 "TideLoansLaw" (some .boolean) E) (S : Sx s E b L xs) {x3 : Int32} {X : Mem} {tg : (Int32 ⊕ (Int32 × Mem))} {n18 : Nat} (hc18 : fin (fun a => f_law_b18 xs L a.1 a.2) n18 (1 : Int32) tg) (ih18 : I_law_b18 p l e s m below meth c E b L xs n18 (1 : Int32)) (h : f_law_j1380 xs L x3 X = some tg) {H : Heap} {locs : List Loc} (hS : Hs E s.heap X H locs) {ls : Array Slot} (hl : lv_has ls 4 [(0, .ref b), (1, .ref (ad E 0)), (2, .ref (ad E 70)), (3, .int x3)]) : W p l e room_1 s m #[Value.ref b] below meth c H locs 80 1374 (lw_Z below #[Value.ref b] s) (F0 m 1380 ls []) := by
  obtain ⟨hx, hb, hml, hown, hts, hrt, hlk, hKx⟩ := id C
  unfold f_law_j1380 at h
  refine lv_aload_n hx hb dL_1380 rfl (lv_at hl 1 rfl) ?_
  refine lv_aload_n hx hb dL_1381 rfl (lv_at hl 0 rfl) ?_
  refine lv_iload_n hx hb dL_1382 rfl (lv_at hl 3 rfl) ?_
  refine lv_iconst (v := 1) hx hb dL_1383 (by decide) ?_
  refine lv_iadd hx hb dL_1384 ?_
  refine r_sld C hS S h dL_1385 (fun v1 h => ?_)
  obtain ⟨v2, X4, hr3, h⟩ := bd2_el h
  refine c_I hS (c_runV (As := [.int v1]) (rest := []) C hS (by decide) cel_Tide (rfl : cls[5]? = some (R_Tide, T_Tide, 12)) (k_Tide_status (l := l) (E := E) (X := X) hr3) cw_Tide_status ini_Tide_status ins_Tide_status sel_Tide_status tw_784 hd_Tide_status rfl ⟨⟨rfl, rfl⟩, (Nat.le_of_ble_eq_true rfl), (Nat.le_of_ble_eq_true rfl)⟩ ⟨(Nat.le_of_ble_eq_true rfl), (Nat.le_of_ble_eq_true rfl)⟩ hl.1 rfl (Nat.le_of_ble_eq_true rfl) dL_1386) (fun H locs hS => ?_)
  refine lv_aload_n hx hb dL_1389 rfl (lv_at hl 2 rfl) ?_
  refine lv_aload_n hx hb dL_1390 rfl (lv_at hl 0 rfl) ?_
  refine lv_iload_n hx hb dL_1391 rfl (lv_at hl 3 rfl) ?_
  refine lv_iconst (v := 1) hx hb dL_1392 (by decide) ?_
  refine lv_iadd hx hb dL_1393 ?_
  refine r_sld C hS S h dL_1394 (fun v5 h => ?_)
  obtain ⟨v6, X8, hr7, h⟩ := bd2_el h
  refine c_I hS (c_runV (As := [.int v5]) (rest := [.int v2]) C hS (by decide) cel_Model (rfl : cls[6]? = some (R_Model, T_Model, 16)) (k_Model_status (l := l) (E := E) (X := X4) hr7) cw_Model_status ini_Model_status ins_Model_status sel_Model_status tw_1202 hd_Model_status rfl ⟨⟨rfl, rfl⟩, (Nat.le_of_ble_eq_true rfl), (Nat.le_of_ble_eq_true rfl)⟩ ⟨(Nat.le_of_ble_eq_true rfl), (Nat.le_of_ble_eq_true rfl)⟩ hl.1 rfl (Nat.le_of_ble_eq_true rfl) dL_1395) (fun H locs hS => ?_)
  refine r_icmp_eq (tgt := 1403) C h dL_1398 (by decide) (fun h => ?_) (fun h => ?_)
  · skip
    exact k_law_j1403 C S hc18 ih18 h hS (lv_sub hl [0, 1, 2, 3] rfl)
  · skip
    refine lv_iconst (v := 0) hx hb dL_1401 (by decide) ?_
    exact absurd (lp_ret h hc18) (by decide)
set_option maxHeartbeats 4000000 in
set_option maxRecDepth 100000 in
theorem k_law_b18 {p : Program} {l : Launch} {e : Env} {s : State} {m : MethodId} {below : List Frame} {meth : Method} {c : Code} {E : En} {b L : Nat} {xs : Nat → Int32} (C : Cx p s m #[Value.ref b] meth c code 4 "TideLoansLaw" (some .boolean) E) (S : Sx s E b L xs) : ∀ n, I_law_b18 p l e s m below meth c E b L xs n (1 : Int32) := by
  obtain ⟨hx, hb, hml, hown, hts, hrt, hlk, hKx⟩ := id C
  intro n
  induction n with
  | zero => intro x3 X H locs ls h; exact it_0 h
  | succ n ih =>
    intro x3 X H locs ls h hS hl
    obtain ⟨cc18, h, hc18⟩ := it_el h
    replace h : f_law_b18 xs L x3 X = some cc18 := h
    unfold f_law_b18 at h
    refine lv_iload_n hx hb dL_18 rfl (lv_at hl 3 rfl) ?_
    refine lv_aload_n hx hb dL_19 rfl (lv_at hl 0 rfl) ?_
    refine va_slen hx hb S.1 S.2.1 S.2.2.1 hS.2 dL_20 ?_
    change W _ _ _ _ _ _ _ _ _ _ _ _ _ _ _ (F0 _ _ _ (.int (nI L) :: _))
    refine lv_bipush (v := 6) hx hb dL_21 (by decide) ?_
    refine lv_isub hx hb dL_23 ?_
    refine r_icmp_gt (tgt := 1409) C h dL_24 (by decide) (fun h => ?_) (fun h => ?_)
    · skip
      refine lv_iconst (v := 1) hx hb dL_1409 (by decide) ?_
      exact r_lawret C hS S dL_1410
    · skip
      refine lv_aload_n hx hb dL_27 rfl (lv_at hl 0 rfl) ?_
      refine lv_iload_n hx hb dL_28 rfl (lv_at hl 3 rfl) ?_
      refine r_sld C hS S h dL_29 (fun v1 h => ?_)
      refine lv_bipush (v := 63) hx hb dL_30 (by decide) ?_
      refine lv_iand hx hb dL_32 ?_
      refine r_top h (fun v2 h => ?_)
      refine sw_c (v := 0) (w := 0) (by decide) h (fun hv h => ?_) (fun hn0 h => ?_)
      · refine r_tabIn C hv dL_33 (by decide) (by decide) rfl (tgt := 204) (by decide) ?_
        exact k_law_j204 C S hc18 ih h hS (lv_sub hl [0, 1, 2, 3] rfl)
      refine sw_c (v := 1) (w := 1) (by decide) h (fun hv h => ?_) (fun hn1 h => ?_)
      · refine r_tabIn C hv dL_33 (by decide) (by decide) rfl (tgt := 237) (by decide) ?_
        exact k_law_j237 C S hc18 ih h hS (lv_sub hl [0, 1, 2, 3] rfl)
      refine sw_c (v := 2) (w := 2) (by decide) h (fun hv h => ?_) (fun hn2 h => ?_)
      · refine r_tabIn C hv dL_33 (by decide) (by decide) rfl (tgt := 270) (by decide) ?_
        exact k_law_j270 C S hc18 ih h hS (lv_sub hl [0, 1, 2, 3] rfl)
      refine sw_c (v := 3) (w := 3) (by decide) h (fun hv h => ?_) (fun hn3 h => ?_)
      · refine r_tabIn C hv dL_33 (by decide) (by decide) rfl (tgt := 293) (by decide) ?_
        exact k_law_j293 C S hc18 ih h hS (lv_sub hl [0, 1, 2, 3] rfl)
      refine sw_c (v := 4) (w := 4) (by decide) h (fun hv h => ?_) (fun hn4 h => ?_)
      · refine r_tabIn C hv dL_33 (by decide) (by decide) rfl (tgt := 326) (by decide) ?_
        exact k_law_j326 C S hc18 ih h hS (lv_sub hl [0, 1, 2, 3] rfl)
      refine sw_c (v := 5) (w := 5) (by decide) h (fun hv h => ?_) (fun hn5 h => ?_)
      · refine r_tabIn C hv dL_33 (by decide) (by decide) rfl (tgt := 359) (by decide) ?_
        exact k_law_j359 C S hc18 ih h hS (lv_sub hl [0, 1, 2, 3] rfl)
      refine sw_c (v := 6) (w := 6) (by decide) h (fun hv h => ?_) (fun hn6 h => ?_)
      · refine r_tabIn C hv dL_33 (by decide) (by decide) rfl (tgt := 392) (by decide) ?_
        exact k_law_j392 C S hc18 ih h hS (lv_sub hl [0, 1, 2, 3] rfl)
      refine sw_c (v := 7) (w := 7) (by decide) h (fun hv h => ?_) (fun hn7 h => ?_)
      · refine r_tabIn C hv dL_33 (by decide) (by decide) rfl (tgt := 425) (by decide) ?_
        exact k_law_j425 C S hc18 ih h hS (lv_sub hl [0, 1, 2, 3] rfl)
      refine sw_c (v := 8) (w := 8) (by decide) h (fun hv h => ?_) (fun hn8 h => ?_)
      · refine r_tabIn C hv dL_33 (by decide) (by decide) rfl (tgt := 468) (by decide) ?_
        exact k_law_j468 C S hc18 ih h hS (lv_sub hl [0, 1, 2, 3] rfl)
      refine sw_c (v := 9) (w := 9) (by decide) h (fun hv h => ?_) (fun hn9 h => ?_)
      · refine r_tabIn C hv dL_33 (by decide) (by decide) rfl (tgt := 501) (by decide) ?_
        exact k_law_j501 C S hc18 ih h hS (lv_sub hl [0, 1, 2, 3] rfl)
      refine sw_c (v := 10) (w := 10) (by decide) h (fun hv h => ?_) (fun hn10 h => ?_)
      · refine r_tabIn C hv dL_33 (by decide) (by decide) rfl (tgt := 534) (by decide) ?_
        exact k_law_j534 C S hc18 ih h hS (lv_sub hl [0, 1, 2, 3] rfl)
      refine sw_c (v := 11) (w := 11) (by decide) h (fun hv h => ?_) (fun hn11 h => ?_)
      · refine r_tabIn C hv dL_33 (by decide) (by decide) rfl (tgt := 567) (by decide) ?_
        exact k_law_j567 C S hc18 ih h hS (lv_sub hl [0, 1, 2, 3] rfl)
      refine sw_c (v := 12) (w := 12) (by decide) h (fun hv h => ?_) (fun hn12 h => ?_)
      · refine r_tabIn C hv dL_33 (by decide) (by decide) rfl (tgt := 590) (by decide) ?_
        exact k_law_j590 C S hc18 ih h hS (lv_sub hl [0, 1, 2, 3] rfl)
      refine sw_c (v := 13) (w := 13) (by decide) h (fun hv h => ?_) (fun hn13 h => ?_)
      · refine r_tabIn C hv dL_33 (by decide) (by decide) rfl (tgt := 614) (by decide) ?_
        exact k_law_j614 C S hc18 ih h hS (lv_sub hl [0, 1, 2, 3] rfl)
      refine sw_c (v := 14) (w := 14) (by decide) h (fun hv h => ?_) (fun hn14 h => ?_)
      · refine r_tabIn C hv dL_33 (by decide) (by decide) rfl (tgt := 637) (by decide) ?_
        exact k_law_j637 C S hc18 ih h hS (lv_sub hl [0, 1, 2, 3] rfl)
      refine sw_c (v := 15) (w := 15) (by decide) h (fun hv h => ?_) (fun hn15 h => ?_)
      · refine r_tabIn C hv dL_33 (by decide) (by decide) rfl (tgt := 670) (by decide) ?_
        exact k_law_j670 C S hc18 ih h hS (lv_sub hl [0, 1, 2, 3] rfl)
      refine sw_c (v := 16) (w := 16) (by decide) h (fun hv h => ?_) (fun hn16 h => ?_)
      · refine r_tabIn C hv dL_33 (by decide) (by decide) rfl (tgt := 693) (by decide) ?_
        exact k_law_j693 C S hc18 ih h hS (lv_sub hl [0, 1, 2, 3] rfl)
      refine sw_c (v := 17) (w := 17) (by decide) h (fun hv h => ?_) (fun hn17 h => ?_)
      · refine r_tabIn C hv dL_33 (by decide) (by decide) rfl (tgt := 716) (by decide) ?_
        exact k_law_j716 C S hc18 ih h hS (lv_sub hl [0, 1, 2, 3] rfl)
      refine sw_c (v := 18) (w := 18) (by decide) h (fun hv h => ?_) (fun hn18 h => ?_)
      · refine r_tabIn C hv dL_33 (by decide) (by decide) rfl (tgt := 729) (by decide) ?_
        exact k_law_j729 C S hc18 ih h hS (lv_sub hl [0, 1, 2, 3] rfl)
      refine sw_c (v := 19) (w := 19) (by decide) h (fun hv h => ?_) (fun hn19 h => ?_)
      · refine r_tabIn C hv dL_33 (by decide) (by decide) rfl (tgt := 762) (by decide) ?_
        exact k_law_j762 C S hc18 ih h hS (lv_sub hl [0, 1, 2, 3] rfl)
      refine sw_c (v := 20) (w := 20) (by decide) h (fun hv h => ?_) (fun hn20 h => ?_)
      · refine r_tabIn C hv dL_33 (by decide) (by decide) rfl (tgt := 805) (by decide) ?_
        exact k_law_j805 C S hc18 ih h hS (lv_sub hl [0, 1, 2, 3] rfl)
      refine sw_c (v := 21) (w := 21) (by decide) h (fun hv h => ?_) (fun hn21 h => ?_)
      · refine r_tabIn C hv dL_33 (by decide) (by decide) rfl (tgt := 838) (by decide) ?_
        exact k_law_j838 C S hc18 ih h hS (lv_sub hl [0, 1, 2, 3] rfl)
      refine sw_c (v := 22) (w := 22) (by decide) h (fun hv h => ?_) (fun hn22 h => ?_)
      · refine r_tabIn C hv dL_33 (by decide) (by decide) rfl (tgt := 881) (by decide) ?_
        exact k_law_j881 C S hc18 ih h hS (lv_sub hl [0, 1, 2, 3] rfl)
      refine sw_c (v := 23) (w := 23) (by decide) h (fun hv h => ?_) (fun hn23 h => ?_)
      · refine r_tabIn C hv dL_33 (by decide) (by decide) rfl (tgt := 904) (by decide) ?_
        exact k_law_j904 C S hc18 ih h hS (lv_sub hl [0, 1, 2, 3] rfl)
      refine sw_c (v := 24) (w := 24) (by decide) h (fun hv h => ?_) (fun hn24 h => ?_)
      · refine r_tabIn C hv dL_33 (by decide) (by decide) rfl (tgt := 947) (by decide) ?_
        exact k_law_j947 C S hc18 ih h hS (lv_sub hl [0, 1, 2, 3] rfl)
      refine sw_c (v := 25) (w := 25) (by decide) h (fun hv h => ?_) (fun hn25 h => ?_)
      · refine r_tabIn C hv dL_33 (by decide) (by decide) rfl (tgt := 980) (by decide) ?_
        exact k_law_j980 C S hc18 ih h hS (lv_sub hl [0, 1, 2, 3] rfl)
      refine sw_c (v := 26) (w := 26) (by decide) h (fun hv h => ?_) (fun hn26 h => ?_)
      · refine r_tabIn C hv dL_33 (by decide) (by decide) rfl (tgt := 1013) (by decide) ?_
        exact k_law_j1013 C S hc18 ih h hS (lv_sub hl [0, 1, 2, 3] rfl)
      refine sw_c (v := 27) (w := 27) (by decide) h (fun hv h => ?_) (fun hn27 h => ?_)
      · refine r_tabIn C hv dL_33 (by decide) (by decide) rfl (tgt := 1026) (by decide) ?_
        exact k_law_j1026 C S hc18 ih h hS (lv_sub hl [0, 1, 2, 3] rfl)
      refine sw_c (v := 28) (w := 28) (by decide) h (fun hv h => ?_) (fun hn28 h => ?_)
      · refine r_tabIn C hv dL_33 (by decide) (by decide) rfl (tgt := 1039) (by decide) ?_
        exact k_law_j1039 C S hc18 ih h hS (lv_sub hl [0, 1, 2, 3] rfl)
      refine sw_c (v := 29) (w := 29) (by decide) h (fun hv h => ?_) (fun hn29 h => ?_)
      · refine r_tabIn C hv dL_33 (by decide) (by decide) rfl (tgt := 1082) (by decide) ?_
        exact k_law_j1082 C S hc18 ih h hS (lv_sub hl [0, 1, 2, 3] rfl)
      refine sw_c (v := 30) (w := 30) (by decide) h (fun hv h => ?_) (fun hn30 h => ?_)
      · refine r_tabIn C hv dL_33 (by decide) (by decide) rfl (tgt := 1156) (by decide) ?_
        exact k_law_j1156 C S hc18 ih h hS (lv_sub hl [0, 1, 2, 3] rfl)
      refine sw_c (v := 31) (w := 31) (by decide) h (fun hv h => ?_) (fun hn31 h => ?_)
      · refine r_tabIn C hv dL_33 (by decide) (by decide) rfl (tgt := 1219) (by decide) ?_
        exact k_law_j1219 C S hc18 ih h hS (lv_sub hl [0, 1, 2, 3] rfl)
      refine sw_c (v := 32) (w := 32) (by decide) h (fun hv h => ?_) (fun hn32 h => ?_)
      · refine r_tabIn C hv dL_33 (by decide) (by decide) rfl (tgt := 1242) (by decide) ?_
        exact k_law_j1242 C S hc18 ih h hS (lv_sub hl [0, 1, 2, 3] rfl)
      refine sw_c (v := 33) (w := 33) (by decide) h (fun hv h => ?_) (fun hn33 h => ?_)
      · refine r_tabIn C hv dL_33 (by decide) (by decide) rfl (tgt := 1275) (by decide) ?_
        exact k_law_j1275 C S hc18 ih h hS (lv_sub hl [0, 1, 2, 3] rfl)
      refine sw_c (v := 34) (w := 34) (by decide) h (fun hv h => ?_) (fun hn34 h => ?_)
      · refine r_tabIn C hv dL_33 (by decide) (by decide) rfl (tgt := 1318) (by decide) ?_
        exact k_law_j1318 C S hc18 ih h hS (lv_sub hl [0, 1, 2, 3] rfl)
      refine sw_c (v := 35) (w := 35) (by decide) h (fun hv h => ?_) (fun hn35 h => ?_)
      · refine r_tabIn C hv dL_33 (by decide) (by decide) rfl (tgt := 1331) (by decide) ?_
        exact k_law_j1331 C S hc18 ih h hS (lv_sub hl [0, 1, 2, 3] rfl)
      refine sw_c (v := 36) (w := 36) (by decide) h (fun hv h => ?_) (fun hn36 h => ?_)
      · refine r_tabIn C hv dL_33 (by decide) (by decide) rfl (tgt := 1344) (by decide) ?_
        exact k_law_j1344 C S hc18 ih h hS (lv_sub hl [0, 1, 2, 3] rfl)
      refine sw_c (v := 37) (w := 37) (by decide) h (fun hv h => ?_) (fun hn37 h => ?_)
      · refine r_tabIn C hv dL_33 (by decide) (by decide) rfl (tgt := 1357) (by decide) ?_
        exact k_law_j1357 C S hc18 ih h hS (lv_sub hl [0, 1, 2, 3] rfl)
      refine sw_c (v := 38) (w := 38) (by decide) h (fun hv h => ?_) (fun hn38 h => ?_)
      · refine r_tabIn C hv dL_33 (by decide) (by decide) rfl (tgt := 1380) (by decide) ?_
        exact k_law_j1380 C S hc18 ih h hS (lv_sub hl [0, 1, 2, 3] rfl)
      refine lv_tableOut (tgt := 1403) hx hb dL_33 (out_e (k := 39) (out_s (k := 38) (k1 := 39) (out_s (k := 37) (k1 := 38) (out_s (k := 36) (k1 := 37) (out_s (k := 35) (k1 := 36) (out_s (k := 34) (k1 := 35) (out_s (k := 33) (k1 := 34) (out_s (k := 32) (k1 := 33) (out_s (k := 31) (k1 := 32) (out_s (k := 30) (k1 := 31) (out_s (k := 29) (k1 := 30) (out_s (k := 28) (k1 := 29) (out_s (k := 27) (k1 := 28) (out_s (k := 26) (k1 := 27) (out_s (k := 25) (k1 := 26) (out_s (k := 24) (k1 := 25) (out_s (k := 23) (k1 := 24) (out_s (k := 22) (k1 := 23) (out_s (k := 21) (k1 := 22) (out_s (k := 20) (k1 := 21) (out_s (k := 19) (k1 := 20) (out_s (k := 18) (k1 := 19) (out_s (k := 17) (k1 := 18) (out_s (k := 16) (k1 := 17) (out_s (k := 15) (k1 := 16) (out_s (k := 14) (k1 := 15) (out_s (k := 13) (k1 := 14) (out_s (k := 12) (k1 := 13) (out_s (k := 11) (k1 := 12) (out_s (k := 10) (k1 := 11) (out_s (k := 9) (k1 := 10) (out_s (k := 8) (k1 := 9) (out_s (k := 7) (k1 := 8) (out_s (k := 6) (k1 := 7) (out_s (k := 5) (k1 := 6) (out_s (k := 4) (k1 := 5) (out_s (k := 3) (k1 := 4) (out_s (k := 2) (k1 := 3) (out_s (k := 1) (k1 := 2) (out_s (k := 0) (k1 := 1) out_0 hn0 (by decide)) hn1 (by decide)) hn2 (by decide)) hn3 (by decide)) hn4 (by decide)) hn5 (by decide)) hn6 (by decide)) hn7 (by decide)) hn8 (by decide)) hn9 (by decide)) hn10 (by decide)) hn11 (by decide)) hn12 (by decide)) hn13 (by decide)) hn14 (by decide)) hn15 (by decide)) hn16 (by decide)) hn17 (by decide)) hn18 (by decide)) hn19 (by decide)) hn20 (by decide)) hn21 (by decide)) hn22 (by decide)) hn23 (by decide)) hn24 (by decide)) hn25 (by decide)) hn26 (by decide)) hn27 (by decide)) hn28 (by decide)) hn29 (by decide)) hn30 (by decide)) hn31 (by decide)) hn32 (by decide)) hn33 (by decide)) hn34 (by decide)) hn35 (by decide)) hn36 (by decide)) hn37 (by decide)) hn38 (by decide)) (by decide)) (by decide) ?_
      exact k_law_j1403 C S hc18 ih h hS (lv_sub hl [0, 1, 2, 3] rfl)
