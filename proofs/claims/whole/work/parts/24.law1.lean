/-! THE CLAIM OUT OF ONE WALK OF THE LAW'S BODY. Your part is whole_start (and what it stands on); all else here is the same for every law, but numbers. -/
def R_law : String := "TideLoansLaw"
def lw_P (b : Addr) (xs : List Int32) (args : Array Value) (s : State) : Prop := args = #[.ref b] ∧ s.IntsAt b xs ∧ xs.length ≤ 3072 ∧ (Jvm.Cond.and given_1 narrow_1).before args s = true
def lw_Q (_ : Array Value) (s : State) (o : Outcome) (t : State) : Prop := o = .returned (some (.int 1)) ∧ Framed s o t [] 600000 7302250
def lw_Z (below : List Frame) (a : Array Value) (s : State) : State → Prop := fun t => ∃ o, t.status = .running ∧ Ended t below o ∧ lw_Q a s o t
/-- the law's own end, with 1 on the stack, nothing written that was there before, its room as the claim has it -/
theorem lw_ret {p : Program} {l : Launch} {e : Env} {s : State} {m : MethodId} {below : List Frame} {meth : Method} {c : Code} {b : Nat} (hx : p.tables.exec = Jvm.exec) (hb : c.code = code) (hr : meth.sig.returnType = ret) (hlocks : meth.locks = false) {pc : Nat} {H : Heap} {ls : Array Slot} (hdg : decode code pc = .ok (.ireturn, 1)) : W p l e room_1 s m #[Value.ref b] below meth c H [] 600000 7302250 (lw_Z below #[Value.ref b] s) (F0 m pc ls [.int 1]) := by
  intro T hT X
  obtain ⟨fs, hret, hrun, hended, hW, hframe⟩ := X.leave (v := some (.int 1)) (hlocks := hlocks) (fun h => by rw [hr] at h; cases h)
  have hmeth' : T.vm.method? m = some meth := X.method'
  refine ⟨T.setFrames fs, ?_, .returned (some (.int 1)), hrun, hended, rfl, ⟨_, rfl⟩, hW, hframe⟩
  jvm_step X.here [X.here.top, hx, hb, hdg, hmeth', hr, ret, narrow_b1]
  (try refine ⟨rfl, ?_⟩); (try refine ⟨rfl, ?_⟩)
  first | (intro acts; rw [hret _ acts rfl rfl rfl]) | rw [hret _ _ rfl rfl rfl]
  exact Steps.refl _
/-- what holds at the law's entry: the machine, the code, the tables' words (any of lw_tbl by 'hts w (by decide +kernel)'), the script of L ints xs at the cell b, what the Statement gives of the start (any of its parts by flat_of_before) -/
def lw_At (p : Program) (s : State) (m : MethodId) (meth : Method) (c : Code) (b L : Nat) (xs : Nat → Int32) : Prop :=
  p.tables.exec = Jvm.exec ∧ c.code = code ∧ meth.sig.returnType = ret ∧ c.maxLocals = 4 ∧ s.vm.findClass R_law = some m.cls ∧ (∀ w ∈ lw_tbl, w.before #[Value.ref b] s = true) ∧ va_X b L xs s s.heap ∧ b < s.heap.size ∧ meth.locks = false ∧ (Jvm.Cond.and given_1 narrow_1).before #[Value.ref b] s = true
def Sx (s : State) (E : En) (b L : Nat) (xs : Nat → Int32) : Prop := va_X b L xs s s.heap ∧ b < s.heap.size ∧ ¬ Ad E b ∧ ∀ q, Ad E q → s.heap.size ≤ q
section LW
variable {p : Program} {l : Launch} {e : Env} {s : State} {m : MethodId} {below : List Frame} {meth : Method} {c : Code} {H : Heap} {locs : List Loc} {cells slots : Nat} {E : En} {b L : Nat} {xs : Nat → Int32} {X : Mem} {pc : Nat} {ls : Array Slot} {rest : List Value} {β : Type} {fr : β} {Q : State → Prop} {R : Room}
theorem r_sld (C : Cx p s m #[Value.ref b] meth c code 4 "TideLoansLaw" (some .boolean) E) (hS : Hs E s.heap X H locs) (S : Sx s E b L xs) {i : Int32} {G : Int32 → Option β} (h : rdS xs L i G = some fr) (hdg : decode code pc = .ok (.iaload, 1))
    (kk : ∀ v : Int32, G v = some fr → W p l e R s m #[Value.ref b] below meth c H locs cells slots Q (F0 m (pc + 1) ls (.int v :: rest))) : W p l e R s m #[Value.ref b] below meth c H locs cells slots Q (F0 m pc ls (.int i :: .ref b :: rest)) := by
  obtain ⟨h1, h2⟩ := if_tr h
  exact va_sld C.1 C.2.1 S.1 S.2.1 S.2.2.1 hS.2 (ck_in h1) hdg (kk _ h2)
theorem r_lawret (C : Cx p s m #[Value.ref b] meth c code 4 "TideLoansLaw" (some .boolean) E) (hS : Hs E s.heap X H locs) (S : Sx s E b L xs) (hdg : decode code pc = .ok (.ireturn, 1)) : W p l e room_1 s m #[Value.ref b] below meth c H locs 80 1374 (lw_Z below #[Value.ref b] s) (F0 m pc ls [.int 1]) := by
  refine va_forget (fun q hq => S.2.2.2 _ (hS.2.2.2 q hq)) ?_
  refine W.widen (k := 600000) (n := 7302250) (Nat.le_of_ble_eq_true rfl) (Nat.le_of_ble_eq_true rfl) ?_
  exact lw_ret C.1 C.2.1 C.2.2.2.2.2.1 C.2.2.2.2.2.2.1 hdg
end LW
def I_law_b18 (p : Program) (l : Launch) (e : Env) (s : State) (m : MethodId) (below : List Frame) (meth : Method) (c : Code) (E : En) (b L : Nat) (xs : Nat → Int32) (n : Nat) (tg : Int32) : Prop := ∀ (x3 : Int32) (X : Mem) (H : Heap) (locs : List Loc) (ls : Array Slot), it (fun a => f_law_b18 xs L a.1 a.2) n (x3, X) = some tg → Hs E s.heap X H locs → lv_has ls 4 [(0, .ref b), (1, .ref (ad E 0)), (2, .ref (ad E 70)), (3, .int x3)] → W p l e room_1 s m #[Value.ref b] below meth c H locs 80 1374 (lw_Z below #[Value.ref b] s) (F0 m 18 ls [])
set_option maxHeartbeats 4000000 in
set_option maxRecDepth 100000 in
theorem k_law_j1403 {p : Program} {l : Launch} {e : Env} {s : State} {m : MethodId} {below : List Frame} {meth : Method} {c : Code} {E : En} {b L : Nat} {xs : Nat → Int32} (C : Cx p s m #[Value.ref b] meth c code 4 "TideLoansLaw" (some .boolean) E) (S : Sx s E b L xs) {x3 : Int32} {X : Mem} {tg : (Int32 ⊕ (Int32 × Mem))} {n18 : Nat} (hc18 : fin (fun a => f_law_b18 xs L a.1 a.2) n18 (1 : Int32) tg) (ih18 : I_law_b18 p l e s m below meth c E b L xs n18 (1 : Int32)) (h : f_law_j1403 xs L x3 X = some tg) {H : Heap} {locs : List Loc} (hS : Hs E s.heap X H locs) {ls : Array Slot} (hl : lv_has ls 4 [(0, .ref b), (1, .ref (ad E 0)), (2, .ref (ad E 70)), (3, .int x3)]) : W p l e room_1 s m #[Value.ref b] below meth c H locs 80 1374 (lw_Z below #[Value.ref b] s) (F0 m 1403 ls []) := by
  obtain ⟨hx, hb, hml, hown, hts, hrt, hlk, hKx⟩ := id C
  unfold f_law_j1403 at h
  refine r_iinc C (w := 6) (lv' := fun z => [(3, .int z), (0, .ref b), (1, .ref (ad E 0)), (2, .ref (ad E 70))]) h dL_1403 hl (k := 3) rfl (by decide) (by decide) (fun _ => rfl) (fun v1 ls h hl => ?_)
  refine lv_goto (tgt := 18) hx hb dL_1406 (by decide) ?_
  exact ih18 _ _ _ _ _ (lp_next h hc18) hS (lv_sub hl [1, 2, 3, 0] rfl)
set_option maxHeartbeats 4000000 in
set_option maxRecDepth 100000 in
theorem k_law_j204 {p : Program} {l : Launch} {e : Env} {s : State} {m : MethodId} {below : List Frame} {meth : Method} {c : Code} {E : En} {b L : Nat} {xs : Nat → Int32} (C : Cx p s m #[Value.ref b] meth c code 4 "TideLoansLaw" (some .boolean) E) (S : Sx s E b L xs) {x3 : Int32} {X : Mem} {tg : (Int32 ⊕ (Int32 × Mem))} {n18 : Nat} (hc18 : fin (fun a => f_law_b18 xs L a.1 a.2) n18 (1 : Int32) tg) (ih18 : I_law_b18 p l e s m below meth c E b L xs n18 (1 : Int32)) (h : f_law_j204 xs L x3 X = some tg) {H : Heap} {locs : List Loc} (hS : Hs E s.heap X H locs) {ls : Array Slot} (hl : lv_has ls 4 [(0, .ref b), (1, .ref (ad E 0)), (2, .ref (ad E 70)), (3, .int x3)]) : W p l e room_1 s m #[Value.ref b] below meth c H locs 80 1374 (lw_Z below #[Value.ref b] s) (F0 m 204 ls []) := by
  obtain ⟨hx, hb, hml, hown, hts, hrt, hlk, hKx⟩ := id C
  unfold f_law_j204 at h
  refine lv_aload_n hx hb dL_204 rfl (lv_at hl 1 rfl) ?_
  refine lv_aload_n hx hb dL_205 rfl (lv_at hl 0 rfl) ?_
  refine lv_iload_n hx hb dL_206 rfl (lv_at hl 3 rfl) ?_
  refine lv_iconst (v := 1) hx hb dL_207 (by decide) ?_
  refine lv_iadd hx hb dL_208 ?_
  refine r_sld C hS S h dL_209 (fun v1 h => ?_)
  refine lv_aload_n hx hb dL_210 rfl (lv_at hl 0 rfl) ?_
  refine lv_iload_n hx hb dL_211 rfl (lv_at hl 3 rfl) ?_
  refine lv_iconst (v := 2) hx hb dL_212 (by decide) ?_
  refine lv_iadd hx hb dL_213 ?_
  refine r_sld C hS S h dL_214 (fun v2 h => ?_)
  obtain ⟨v3, X5, hr4, h⟩ := bd2_el h
  refine c_I hS (c_runV (As := [.int v1, .int v2]) (rest := []) C hS (by decide) cel_Tide (rfl : cls[5]? = some (R_Tide, T_Tide, 12)) (k_Tide_height (l := l) (E := E) (X := X) hr4) cw_Tide_height ini_Tide_height ins_Tide_height sel_Tide_height tw_273 hd_Tide_height rfl ⟨⟨rfl, rfl⟩, (Nat.le_of_ble_eq_true rfl), (Nat.le_of_ble_eq_true rfl)⟩ ⟨(Nat.le_of_ble_eq_true rfl), (Nat.le_of_ble_eq_true rfl)⟩ hl.1 rfl (Nat.le_of_ble_eq_true rfl) dL_215) (fun H locs hS => ?_)
  refine lv_aload_n hx hb dL_218 rfl (lv_at hl 2 rfl) ?_
  refine lv_aload_n hx hb dL_219 rfl (lv_at hl 0 rfl) ?_
  refine lv_iload_n hx hb dL_220 rfl (lv_at hl 3 rfl) ?_
  refine lv_iconst (v := 1) hx hb dL_221 (by decide) ?_
  refine lv_iadd hx hb dL_222 ?_
  refine r_sld C hS S h dL_223 (fun v6 h => ?_)
  refine lv_aload_n hx hb dL_224 rfl (lv_at hl 0 rfl) ?_
  refine lv_iload_n hx hb dL_225 rfl (lv_at hl 3 rfl) ?_
  refine lv_iconst (v := 2) hx hb dL_226 (by decide) ?_
  refine lv_iadd hx hb dL_227 ?_
  refine r_sld C hS S h dL_228 (fun v7 h => ?_)
  obtain ⟨v8, X10, hr9, h⟩ := bd2_el h
  refine c_I hS (c_runV (As := [.int v6, .int v7]) (rest := [.int v3]) C hS (by decide) cel_Model (rfl : cls[6]? = some (R_Model, T_Model, 16)) (k_Model_height (l := l) (E := E) (X := X5) hr9) cw_Model_height ini_Model_height ins_Model_height sel_Model_height tw_843 hd_Model_height rfl ⟨⟨rfl, rfl⟩, (Nat.le_of_ble_eq_true rfl), (Nat.le_of_ble_eq_true rfl)⟩ ⟨(Nat.le_of_ble_eq_true rfl), (Nat.le_of_ble_eq_true rfl)⟩ hl.1 rfl (Nat.le_of_ble_eq_true rfl) dL_229) (fun H locs hS => ?_)
  refine r_icmp_eq (tgt := 1403) C h dL_232 (by decide) (fun h => ?_) (fun h => ?_)
  · skip
    exact k_law_j1403 C S hc18 ih18 h hS (lv_sub hl [0, 1, 2, 3] rfl)
  · skip
    refine lv_iconst (v := 0) hx hb dL_235 (by decide) ?_
    exact absurd (lp_ret h hc18) (by decide)
set_option maxHeartbeats 4000000 in
set_option maxRecDepth 100000 in
theorem k_law_j237 {p : Program} {l : Launch} {e : Env} {s : State} {m : MethodId} {below : List Frame} {meth : Method} {c : Code} {E : En} {b L : Nat} {xs : Nat → Int32} (C : Cx p s m #[Value.ref b] meth c code 4 "TideLoansLaw" (some .boolean) E) (S : Sx s E b L xs) {x3 : Int32} {X : Mem} {tg : (Int32 ⊕ (Int32 × Mem))} {n18 : Nat} (hc18 : fin (fun a => f_law_b18 xs L a.1 a.2) n18 (1 : Int32) tg) (ih18 : I_law_b18 p l e s m below meth c E b L xs n18 (1 : Int32)) (h : f_law_j237 xs L x3 X = some tg) {H : Heap} {locs : List Loc} (hS : Hs E s.heap X H locs) {ls : Array Slot} (hl : lv_has ls 4 [(0, .ref b), (1, .ref (ad E 0)), (2, .ref (ad E 70)), (3, .int x3)]) : W p l e room_1 s m #[Value.ref b] below meth c H locs 80 1374 (lw_Z below #[Value.ref b] s) (F0 m 237 ls []) := by
  obtain ⟨hx, hb, hml, hown, hts, hrt, hlk, hKx⟩ := id C
  unfold f_law_j237 at h
  refine lv_aload_n hx hb dL_237 rfl (lv_at hl 1 rfl) ?_
  refine lv_aload_n hx hb dL_238 rfl (lv_at hl 0 rfl) ?_
  refine lv_iload_n hx hb dL_239 rfl (lv_at hl 3 rfl) ?_
  refine lv_iconst (v := 1) hx hb dL_240 (by decide) ?_
  refine lv_iadd hx hb dL_241 ?_
  refine r_sld C hS S h dL_242 (fun v1 h => ?_)
  refine lv_aload_n hx hb dL_243 rfl (lv_at hl 0 rfl) ?_
  refine lv_iload_n hx hb dL_244 rfl (lv_at hl 3 rfl) ?_
  refine lv_iconst (v := 2) hx hb dL_245 (by decide) ?_
  refine lv_iadd hx hb dL_246 ?_
  refine r_sld C hS S h dL_247 (fun v2 h => ?_)
  obtain ⟨v3, X5, hr4, h⟩ := bd2_el h
  refine c_I hS (c_runV (As := [.int v1, .int v2]) (rest := []) C hS (by decide) cel_Tide (rfl : cls[5]? = some (R_Tide, T_Tide, 12)) (k_Tide_cell (l := l) (E := E) (X := X) hr4) cw_Tide_cell ini_Tide_cell ins_Tide_cell sel_Tide_cell tw_285 hd_Tide_cell rfl ⟨⟨rfl, rfl⟩, (Nat.le_of_ble_eq_true rfl), (Nat.le_of_ble_eq_true rfl)⟩ ⟨(Nat.le_of_ble_eq_true rfl), (Nat.le_of_ble_eq_true rfl)⟩ hl.1 rfl (Nat.le_of_ble_eq_true rfl) dL_248) (fun H locs hS => ?_)
  refine lv_aload_n hx hb dL_251 rfl (lv_at hl 2 rfl) ?_
  refine lv_aload_n hx hb dL_252 rfl (lv_at hl 0 rfl) ?_
  refine lv_iload_n hx hb dL_253 rfl (lv_at hl 3 rfl) ?_
  refine lv_iconst (v := 1) hx hb dL_254 (by decide) ?_
  refine lv_iadd hx hb dL_255 ?_
  refine r_sld C hS S h dL_256 (fun v6 h => ?_)
  refine lv_aload_n hx hb dL_257 rfl (lv_at hl 0 rfl) ?_
  refine lv_iload_n hx hb dL_258 rfl (lv_at hl 3 rfl) ?_
  refine lv_iconst (v := 2) hx hb dL_259 (by decide) ?_
  refine lv_iadd hx hb dL_260 ?_
  refine r_sld C hS S h dL_261 (fun v7 h => ?_)
  obtain ⟨v8, X10, hr9, h⟩ := bd2_el h
  refine c_I hS (c_runV (As := [.int v6, .int v7]) (rest := [.int v3]) C hS (by decide) cel_Model (rfl : cls[6]? = some (R_Model, T_Model, 16)) (k_Model_cell (l := l) (E := E) (X := X5) hr9) cw_Model_cell ini_Model_cell ins_Model_cell sel_Model_cell tw_863 hd_Model_cell rfl ⟨⟨rfl, rfl⟩, (Nat.le_of_ble_eq_true rfl), (Nat.le_of_ble_eq_true rfl)⟩ ⟨(Nat.le_of_ble_eq_true rfl), (Nat.le_of_ble_eq_true rfl)⟩ hl.1 rfl (Nat.le_of_ble_eq_true rfl) dL_262) (fun H locs hS => ?_)
  refine r_icmp_eq (tgt := 1403) C h dL_265 (by decide) (fun h => ?_) (fun h => ?_)
  · skip
    exact k_law_j1403 C S hc18 ih18 h hS (lv_sub hl [0, 1, 2, 3] rfl)
  · skip
    refine lv_iconst (v := 0) hx hb dL_268 (by decide) ?_
    exact absurd (lp_ret h hc18) (by decide)
set_option maxHeartbeats 4000000 in
set_option maxRecDepth 100000 in
theorem k_law_j270 {p : Program} {l : Launch} {e : Env} {s : State} {m : MethodId} {below : List Frame} {meth : Method} {c : Code} {E : En} {b L : Nat} {xs : Nat → Int32} (C : Cx p s m #[Value.ref b] meth c code 4 "TideLoansLaw" (some .boolean) E) (S : Sx s E b L xs) {x3 : Int32} {X : Mem} {tg : (Int32 ⊕ (Int32 × Mem))} {n18 : Nat} (hc18 : fin (fun a => f_law_b18 xs L a.1 a.2) n18 (1 : Int32) tg) (ih18 : I_law_b18 p l e s m below meth c E b L xs n18 (1 : Int32)) (h : f_law_j270 xs L x3 X = some tg) {H : Heap} {locs : List Loc} (hS : Hs E s.heap X H locs) {ls : Array Slot} (hl : lv_has ls 4 [(0, .ref b), (1, .ref (ad E 0)), (2, .ref (ad E 70)), (3, .int x3)]) : W p l e room_1 s m #[Value.ref b] below meth c H locs 80 1374 (lw_Z below #[Value.ref b] s) (F0 m 270 ls []) := by
  obtain ⟨hx, hb, hml, hown, hts, hrt, hlk, hKx⟩ := id C
  unfold f_law_j270 at h
  refine lv_aload_n hx hb dL_270 rfl (lv_at hl 1 rfl) ?_
  refine lv_aload_n hx hb dL_271 rfl (lv_at hl 0 rfl) ?_
  refine lv_iload_n hx hb dL_272 rfl (lv_at hl 3 rfl) ?_
  refine lv_iconst (v := 1) hx hb dL_273 (by decide) ?_
  refine lv_iadd hx hb dL_274 ?_
  refine r_sld C hS S h dL_275 (fun v1 h => ?_)
  obtain ⟨v2, X4, hr3, h⟩ := bd2_el h
  refine c_I hS (c_runV (As := [.int v1]) (rest := []) C hS (by decide) cel_Tide (rfl : cls[5]? = some (R_Tide, T_Tide, 12)) (k_Tide_interest (l := l) (E := E) (X := X) hr3) cw_Tide_interest ini_Tide_interest ins_Tide_interest sel_Tide_interest tw_293 hd_Tide_interest rfl ⟨⟨rfl, rfl⟩, (Nat.le_of_ble_eq_true rfl), (Nat.le_of_ble_eq_true rfl)⟩ ⟨(Nat.le_of_ble_eq_true rfl), (Nat.le_of_ble_eq_true rfl)⟩ hl.1 rfl (Nat.le_of_ble_eq_true rfl) dL_276) (fun H locs hS => ?_)
  refine lv_aload_n hx hb dL_279 rfl (lv_at hl 2 rfl) ?_
  refine lv_aload_n hx hb dL_280 rfl (lv_at hl 0 rfl) ?_
  refine lv_iload_n hx hb dL_281 rfl (lv_at hl 3 rfl) ?_
  refine lv_iconst (v := 1) hx hb dL_282 (by decide) ?_
  refine lv_iadd hx hb dL_283 ?_
  refine r_sld C hS S h dL_284 (fun v5 h => ?_)
  obtain ⟨v6, X8, hr7, h⟩ := bd2_el h
  refine c_I hS (c_runV (As := [.int v5]) (rest := [.int v2]) C hS (by decide) cel_Model (rfl : cls[6]? = some (R_Model, T_Model, 16)) (k_Model_interest (l := l) (E := E) (X := X4) hr7) cw_Model_interest ini_Model_interest ins_Model_interest sel_Model_interest tw_879 hd_Model_interest rfl ⟨⟨rfl, rfl⟩, (Nat.le_of_ble_eq_true rfl), (Nat.le_of_ble_eq_true rfl)⟩ ⟨(Nat.le_of_ble_eq_true rfl), (Nat.le_of_ble_eq_true rfl)⟩ hl.1 rfl (Nat.le_of_ble_eq_true rfl) dL_285) (fun H locs hS => ?_)
  refine r_icmp_eq (tgt := 1403) C h dL_288 (by decide) (fun h => ?_) (fun h => ?_)
  · skip
    exact k_law_j1403 C S hc18 ih18 h hS (lv_sub hl [0, 1, 2, 3] rfl)
  · skip
    refine lv_iconst (v := 0) hx hb dL_291 (by decide) ?_
    exact absurd (lp_ret h hc18) (by decide)
set_option maxHeartbeats 4000000 in
set_option maxRecDepth 100000 in
theorem k_law_j293 {p : Program} {l : Launch} {e : Env} {s : State} {m : MethodId} {below : List Frame} {meth : Method} {c : Code} {E : En} {b L : Nat} {xs : Nat → Int32} (C : Cx p s m #[Value.ref b] meth c code 4 "TideLoansLaw" (some .boolean) E) (S : Sx s E b L xs) {x3 : Int32} {X : Mem} {tg : (Int32 ⊕ (Int32 × Mem))} {n18 : Nat} (hc18 : fin (fun a => f_law_b18 xs L a.1 a.2) n18 (1 : Int32) tg) (ih18 : I_law_b18 p l e s m below meth c E b L xs n18 (1 : Int32)) (h : f_law_j293 xs L x3 X = some tg) {H : Heap} {locs : List Loc} (hS : Hs E s.heap X H locs) {ls : Array Slot} (hl : lv_has ls 4 [(0, .ref b), (1, .ref (ad E 0)), (2, .ref (ad E 70)), (3, .int x3)]) : W p l e room_1 s m #[Value.ref b] below meth c H locs 80 1374 (lw_Z below #[Value.ref b] s) (F0 m 293 ls []) := by
  obtain ⟨hx, hb, hml, hown, hts, hrt, hlk, hKx⟩ := id C
  unfold f_law_j293 at h
  refine lv_aload_n hx hb dL_293 rfl (lv_at hl 1 rfl) ?_
  refine lv_aload_n hx hb dL_294 rfl (lv_at hl 0 rfl) ?_
  refine lv_iload_n hx hb dL_295 rfl (lv_at hl 3 rfl) ?_
  refine lv_iconst (v := 1) hx hb dL_296 (by decide) ?_
  refine lv_iadd hx hb dL_297 ?_
  refine r_sld C hS S h dL_298 (fun v1 h => ?_)
  refine lv_aload_n hx hb dL_299 rfl (lv_at hl 0 rfl) ?_
  refine lv_iload_n hx hb dL_300 rfl (lv_at hl 3 rfl) ?_
  refine lv_iconst (v := 2) hx hb dL_301 (by decide) ?_
  refine lv_iadd hx hb dL_302 ?_
  refine r_sld C hS S h dL_303 (fun v2 h => ?_)
  obtain ⟨v3, X5, hr4, h⟩ := bd2_el h
  refine c_I hS (c_runV (As := [.int v1, .int v2]) (rest := []) C hS (by decide) cel_Tide (rfl : cls[5]? = some (R_Tide, T_Tide, 12)) (k_Tide_tide (l := l) (E := E) (X := X) hr4) cw_Tide_tide ini_Tide_tide ins_Tide_tide sel_Tide_tide tw_300 hd_Tide_tide rfl ⟨⟨rfl, rfl⟩, (Nat.le_of_ble_eq_true rfl), (Nat.le_of_ble_eq_true rfl)⟩ ⟨(Nat.le_of_ble_eq_true rfl), (Nat.le_of_ble_eq_true rfl)⟩ hl.1 rfl (Nat.le_of_ble_eq_true rfl) dL_304) (fun H locs hS => ?_)
  refine lv_aload_n hx hb dL_307 rfl (lv_at hl 2 rfl) ?_
  refine lv_aload_n hx hb dL_308 rfl (lv_at hl 0 rfl) ?_
  refine lv_iload_n hx hb dL_309 rfl (lv_at hl 3 rfl) ?_
  refine lv_iconst (v := 1) hx hb dL_310 (by decide) ?_
  refine lv_iadd hx hb dL_311 ?_
  refine r_sld C hS S h dL_312 (fun v6 h => ?_)
  refine lv_aload_n hx hb dL_313 rfl (lv_at hl 0 rfl) ?_
  refine lv_iload_n hx hb dL_314 rfl (lv_at hl 3 rfl) ?_
  refine lv_iconst (v := 2) hx hb dL_315 (by decide) ?_
  refine lv_iadd hx hb dL_316 ?_
  refine r_sld C hS S h dL_317 (fun v7 h => ?_)
  obtain ⟨v8, X10, hr9, h⟩ := bd2_el h
  refine c_I hS (c_runV (As := [.int v6, .int v7]) (rest := [.int v3]) C hS (by decide) cel_Model (rfl : cls[6]? = some (R_Model, T_Model, 16)) (k_Model_tide (l := l) (E := E) (X := X5) hr9) cw_Model_tide ini_Model_tide ins_Model_tide sel_Model_tide tw_884 hd_Model_tide rfl ⟨⟨rfl, rfl⟩, (Nat.le_of_ble_eq_true rfl), (Nat.le_of_ble_eq_true rfl)⟩ ⟨(Nat.le_of_ble_eq_true rfl), (Nat.le_of_ble_eq_true rfl)⟩ hl.1 rfl (Nat.le_of_ble_eq_true rfl) dL_318) (fun H locs hS => ?_)
  refine r_icmp_eq (tgt := 1403) C h dL_321 (by decide) (fun h => ?_) (fun h => ?_)
  · skip
    exact k_law_j1403 C S hc18 ih18 h hS (lv_sub hl [0, 1, 2, 3] rfl)
  · skip
    refine lv_iconst (v := 0) hx hb dL_324 (by decide) ?_
    exact absurd (lp_ret h hc18) (by decide)
set_option maxHeartbeats 4000000 in
set_option maxRecDepth 100000 in
theorem k_law_j326 {p : Program} {l : Launch} {e : Env} {s : State} {m : MethodId} {below : List Frame} {meth : Method} {c : Code} {E : En} {b L : Nat} {xs : Nat → Int32} (C : Cx p s m #[Value.ref b] meth c code 4 "TideLoansLaw" (some .boolean) E) (S : Sx s E b L xs) {x3 : Int32} {X : Mem} {tg : (Int32 ⊕ (Int32 × Mem))} {n18 : Nat} (hc18 : fin (fun a => f_law_b18 xs L a.1 a.2) n18 (1 : Int32) tg) (ih18 : I_law_b18 p l e s m below meth c E b L xs n18 (1 : Int32)) (h : f_law_j326 xs L x3 X = some tg) {H : Heap} {locs : List Loc} (hS : Hs E s.heap X H locs) {ls : Array Slot} (hl : lv_has ls 4 [(0, .ref b), (1, .ref (ad E 0)), (2, .ref (ad E 70)), (3, .int x3)]) : W p l e room_1 s m #[Value.ref b] below meth c H locs 80 1374 (lw_Z below #[Value.ref b] s) (F0 m 326 ls []) := by
  obtain ⟨hx, hb, hml, hown, hts, hrt, hlk, hKx⟩ := id C
  unfold f_law_j326 at h
  refine lv_aload_n hx hb dL_326 rfl (lv_at hl 1 rfl) ?_
  refine lv_aload_n hx hb dL_327 rfl (lv_at hl 0 rfl) ?_
  refine lv_iload_n hx hb dL_328 rfl (lv_at hl 3 rfl) ?_
  refine lv_iconst (v := 1) hx hb dL_329 (by decide) ?_
  refine lv_iadd hx hb dL_330 ?_
  refine r_sld C hS S h dL_331 (fun v1 h => ?_)
  refine lv_aload_n hx hb dL_332 rfl (lv_at hl 0 rfl) ?_
  refine lv_iload_n hx hb dL_333 rfl (lv_at hl 3 rfl) ?_
  refine lv_iconst (v := 2) hx hb dL_334 (by decide) ?_
  refine lv_iadd hx hb dL_335 ?_
  refine r_sld C hS S h dL_336 (fun v2 h => ?_)
  obtain ⟨v3, X5, hr4, h⟩ := bd2_el h
  refine c_I hS (c_runV (As := [.int v1, .int v2]) (rest := []) C hS (by decide) cel_Tide (rfl : cls[5]? = some (R_Tide, T_Tide, 12)) (k_Tide_purse (l := l) (E := E) (X := X) hr4) cw_Tide_purse ini_Tide_purse ins_Tide_purse sel_Tide_purse tw_318 hd_Tide_purse rfl ⟨⟨rfl, rfl⟩, (Nat.le_of_ble_eq_true rfl), (Nat.le_of_ble_eq_true rfl)⟩ ⟨(Nat.le_of_ble_eq_true rfl), (Nat.le_of_ble_eq_true rfl)⟩ hl.1 rfl (Nat.le_of_ble_eq_true rfl) dL_337) (fun H locs hS => ?_)
  refine lv_aload_n hx hb dL_340 rfl (lv_at hl 2 rfl) ?_
  refine lv_aload_n hx hb dL_341 rfl (lv_at hl 0 rfl) ?_
  refine lv_iload_n hx hb dL_342 rfl (lv_at hl 3 rfl) ?_
  refine lv_iconst (v := 1) hx hb dL_343 (by decide) ?_
  refine lv_iadd hx hb dL_344 ?_
  refine r_sld C hS S h dL_345 (fun v6 h => ?_)
  refine lv_aload_n hx hb dL_346 rfl (lv_at hl 0 rfl) ?_
  refine lv_iload_n hx hb dL_347 rfl (lv_at hl 3 rfl) ?_
  refine lv_iconst (v := 2) hx hb dL_348 (by decide) ?_
  refine lv_iadd hx hb dL_349 ?_
  refine r_sld C hS S h dL_350 (fun v7 h => ?_)
  obtain ⟨v8, X10, hr9, h⟩ := bd2_el h
  refine c_I hS (c_runV (As := [.int v6, .int v7]) (rest := [.int v3]) C hS (by decide) cel_Model (rfl : cls[6]? = some (R_Model, T_Model, 16)) (k_Model_purse (l := l) (E := E) (X := X5) hr9) cw_Model_purse ini_Model_purse ins_Model_purse sel_Model_purse tw_896 hd_Model_purse rfl ⟨⟨rfl, rfl⟩, (Nat.le_of_ble_eq_true rfl), (Nat.le_of_ble_eq_true rfl)⟩ ⟨(Nat.le_of_ble_eq_true rfl), (Nat.le_of_ble_eq_true rfl)⟩ hl.1 rfl (Nat.le_of_ble_eq_true rfl) dL_351) (fun H locs hS => ?_)
  refine r_icmp_eq (tgt := 1403) C h dL_354 (by decide) (fun h => ?_) (fun h => ?_)
  · skip
    exact k_law_j1403 C S hc18 ih18 h hS (lv_sub hl [0, 1, 2, 3] rfl)
  · skip
    refine lv_iconst (v := 0) hx hb dL_357 (by decide) ?_
    exact absurd (lp_ret h hc18) (by decide)
set_option maxHeartbeats 4000000 in
set_option maxRecDepth 100000 in
theorem k_law_j359 {p : Program} {l : Launch} {e : Env} {s : State} {m : MethodId} {below : List Frame} {meth : Method} {c : Code} {E : En} {b L : Nat} {xs : Nat → Int32} (C : Cx p s m #[Value.ref b] meth c code 4 "TideLoansLaw" (some .boolean) E) (S : Sx s E b L xs) {x3 : Int32} {X : Mem} {tg : (Int32 ⊕ (Int32 × Mem))} {n18 : Nat} (hc18 : fin (fun a => f_law_b18 xs L a.1 a.2) n18 (1 : Int32) tg) (ih18 : I_law_b18 p l e s m below meth c E b L xs n18 (1 : Int32)) (h : f_law_j359 xs L x3 X = some tg) {H : Heap} {locs : List Loc} (hS : Hs E s.heap X H locs) {ls : Array Slot} (hl : lv_has ls 4 [(0, .ref b), (1, .ref (ad E 0)), (2, .ref (ad E 70)), (3, .int x3)]) : W p l e room_1 s m #[Value.ref b] below meth c H locs 80 1374 (lw_Z below #[Value.ref b] s) (F0 m 359 ls []) := by
  obtain ⟨hx, hb, hml, hown, hts, hrt, hlk, hKx⟩ := id C
  unfold f_law_j359 at h
  refine lv_aload_n hx hb dL_359 rfl (lv_at hl 1 rfl) ?_
  refine lv_aload_n hx hb dL_360 rfl (lv_at hl 0 rfl) ?_
  refine lv_iload_n hx hb dL_361 rfl (lv_at hl 3 rfl) ?_
  refine lv_iconst (v := 1) hx hb dL_362 (by decide) ?_
  refine lv_iadd hx hb dL_363 ?_
  refine r_sld C hS S h dL_364 (fun v1 h => ?_)
  refine lv_aload_n hx hb dL_365 rfl (lv_at hl 0 rfl) ?_
  refine lv_iload_n hx hb dL_366 rfl (lv_at hl 3 rfl) ?_
  refine lv_iconst (v := 2) hx hb dL_367 (by decide) ?_
  refine lv_iadd hx hb dL_368 ?_
  refine r_sld C hS S h dL_369 (fun v2 h => ?_)
  obtain ⟨v3, X5, hr4, h⟩ := bd2_el h
  refine c_I hS (c_runV (As := [.int v1, .int v2]) (rest := []) C hS (by decide) cel_Tide (rfl : cls[5]? = some (R_Tide, T_Tide, 12)) (k_Tide_thing (l := l) (E := E) (X := X) hr4) cw_Tide_thing ini_Tide_thing ins_Tide_thing sel_Tide_thing tw_323 hd_Tide_thing rfl ⟨⟨rfl, rfl⟩, (Nat.le_of_ble_eq_true rfl), (Nat.le_of_ble_eq_true rfl)⟩ ⟨(Nat.le_of_ble_eq_true rfl), (Nat.le_of_ble_eq_true rfl)⟩ hl.1 rfl (Nat.le_of_ble_eq_true rfl) dL_370) (fun H locs hS => ?_)
  refine lv_aload_n hx hb dL_373 rfl (lv_at hl 2 rfl) ?_
  refine lv_aload_n hx hb dL_374 rfl (lv_at hl 0 rfl) ?_
  refine lv_iload_n hx hb dL_375 rfl (lv_at hl 3 rfl) ?_
  refine lv_iconst (v := 1) hx hb dL_376 (by decide) ?_
  refine lv_iadd hx hb dL_377 ?_
  refine r_sld C hS S h dL_378 (fun v6 h => ?_)
  refine lv_aload_n hx hb dL_379 rfl (lv_at hl 0 rfl) ?_
  refine lv_iload_n hx hb dL_380 rfl (lv_at hl 3 rfl) ?_
  refine lv_iconst (v := 2) hx hb dL_381 (by decide) ?_
  refine lv_iadd hx hb dL_382 ?_
  refine r_sld C hS S h dL_383 (fun v7 h => ?_)
  obtain ⟨v8, X10, hr9, h⟩ := bd2_el h
  refine c_I hS (c_runV (As := [.int v6, .int v7]) (rest := [.int v3]) C hS (by decide) cel_Model (rfl : cls[6]? = some (R_Model, T_Model, 16)) (k_Model_thing (l := l) (E := E) (X := X5) hr9) cw_Model_thing ini_Model_thing ins_Model_thing sel_Model_thing tw_904 hd_Model_thing rfl ⟨⟨rfl, rfl⟩, (Nat.le_of_ble_eq_true rfl), (Nat.le_of_ble_eq_true rfl)⟩ ⟨(Nat.le_of_ble_eq_true rfl), (Nat.le_of_ble_eq_true rfl)⟩ hl.1 rfl (Nat.le_of_ble_eq_true rfl) dL_384) (fun H locs hS => ?_)
  refine r_icmp_eq (tgt := 1403) C h dL_387 (by decide) (fun h => ?_) (fun h => ?_)
  · skip
    exact k_law_j1403 C S hc18 ih18 h hS (lv_sub hl [0, 1, 2, 3] rfl)
  · skip
    refine lv_iconst (v := 0) hx hb dL_390 (by decide) ?_
    exact absurd (lp_ret h hc18) (by decide)
set_option maxHeartbeats 4000000 in
set_option maxRecDepth 100000 in
theorem k_law_j392 {p : Program} {l : Launch} {e : Env} {s : State} {m : MethodId} {below : List Frame} {meth : Method} {c : Code} {E : En} {b L : Nat} {xs : Nat → Int32} (C : Cx p s m #[Value.ref b] meth c code 4 "TideLoansLaw" (some .boolean) E) (S : Sx s E b L xs) {x3 : Int32} {X : Mem} {tg : (Int32 ⊕ (Int32 × Mem))} {n18 : Nat} (hc18 : fin (fun a => f_law_b18 xs L a.1 a.2) n18 (1 : Int32) tg) (ih18 : I_law_b18 p l e s m below meth c E b L xs n18 (1 : Int32)) (h : f_law_j392 xs L x3 X = some tg) {H : Heap} {locs : List Loc} (hS : Hs E s.heap X H locs) {ls : Array Slot} (hl : lv_has ls 4 [(0, .ref b), (1, .ref (ad E 0)), (2, .ref (ad E 70)), (3, .int x3)]) : W p l e room_1 s m #[Value.ref b] below meth c H locs 80 1374 (lw_Z below #[Value.ref b] s) (F0 m 392 ls []) := by
  obtain ⟨hx, hb, hml, hown, hts, hrt, hlk, hKx⟩ := id C
  unfold f_law_j392 at h
  refine lv_aload_n hx hb dL_392 rfl (lv_at hl 1 rfl) ?_
  refine lv_aload_n hx hb dL_393 rfl (lv_at hl 0 rfl) ?_
  refine lv_iload_n hx hb dL_394 rfl (lv_at hl 3 rfl) ?_
  refine lv_iconst (v := 1) hx hb dL_395 (by decide) ?_
  refine lv_iadd hx hb dL_396 ?_
  refine r_sld C hS S h dL_397 (fun v1 h => ?_)
  refine lv_aload_n hx hb dL_398 rfl (lv_at hl 0 rfl) ?_
  refine lv_iload_n hx hb dL_399 rfl (lv_at hl 3 rfl) ?_
  refine lv_iconst (v := 2) hx hb dL_400 (by decide) ?_
  refine lv_iadd hx hb dL_401 ?_
  refine r_sld C hS S h dL_402 (fun v2 h => ?_)
  obtain ⟨v3, X5, hr4, h⟩ := bd2_el h
  refine c_I hS (c_runV (As := [.int v1, .int v2]) (rest := []) C hS (by decide) cel_Tide (rfl : cls[5]? = some (R_Tide, T_Tide, 12)) (k_Tide_of (l := l) (E := E) (X := X) hr4) cw_Tide_of ini_Tide_of ins_Tide_of sel_Tide_of tw_341 hd_Tide_of rfl ⟨⟨rfl, rfl⟩, (Nat.le_of_ble_eq_true rfl), (Nat.le_of_ble_eq_true rfl)⟩ ⟨(Nat.le_of_ble_eq_true rfl), (Nat.le_of_ble_eq_true rfl)⟩ hl.1 rfl (Nat.le_of_ble_eq_true rfl) dL_403) (fun H locs hS => ?_)
  refine lv_aload_n hx hb dL_406 rfl (lv_at hl 2 rfl) ?_
  refine lv_aload_n hx hb dL_407 rfl (lv_at hl 0 rfl) ?_
  refine lv_iload_n hx hb dL_408 rfl (lv_at hl 3 rfl) ?_
  refine lv_iconst (v := 1) hx hb dL_409 (by decide) ?_
  refine lv_iadd hx hb dL_410 ?_
  refine r_sld C hS S h dL_411 (fun v6 h => ?_)
  refine lv_aload_n hx hb dL_412 rfl (lv_at hl 0 rfl) ?_
  refine lv_iload_n hx hb dL_413 rfl (lv_at hl 3 rfl) ?_
  refine lv_iconst (v := 2) hx hb dL_414 (by decide) ?_
  refine lv_iadd hx hb dL_415 ?_
  refine r_sld C hS S h dL_416 (fun v7 h => ?_)
  obtain ⟨v8, X10, hr9, h⟩ := bd2_el h
  refine c_I hS (c_runV (As := [.int v6, .int v7]) (rest := [.int v3]) C hS (by decide) cel_Model (rfl : cls[6]? = some (R_Model, T_Model, 16)) (k_Model_of (l := l) (E := E) (X := X5) hr9) cw_Model_of ini_Model_of ins_Model_of sel_Model_of tw_917 hd_Model_of rfl ⟨⟨rfl, rfl⟩, (Nat.le_of_ble_eq_true rfl), (Nat.le_of_ble_eq_true rfl)⟩ ⟨(Nat.le_of_ble_eq_true rfl), (Nat.le_of_ble_eq_true rfl)⟩ hl.1 rfl (Nat.le_of_ble_eq_true rfl) dL_417) (fun H locs hS => ?_)
  refine r_icmp_eq (tgt := 1403) C h dL_420 (by decide) (fun h => ?_) (fun h => ?_)
  · skip
    exact k_law_j1403 C S hc18 ih18 h hS (lv_sub hl [0, 1, 2, 3] rfl)
  · skip
    refine lv_iconst (v := 0) hx hb dL_423 (by decide) ?_
    exact absurd (lp_ret h hc18) (by decide)
set_option maxHeartbeats 4000000 in
set_option maxRecDepth 100000 in
theorem k_law_j425 {p : Program} {l : Launch} {e : Env} {s : State} {m : MethodId} {below : List Frame} {meth : Method} {c : Code} {E : En} {b L : Nat} {xs : Nat → Int32} (C : Cx p s m #[Value.ref b] meth c code 4 "TideLoansLaw" (some .boolean) E) (S : Sx s E b L xs) {x3 : Int32} {X : Mem} {tg : (Int32 ⊕ (Int32 × Mem))} {n18 : Nat} (hc18 : fin (fun a => f_law_b18 xs L a.1 a.2) n18 (1 : Int32) tg) (ih18 : I_law_b18 p l e s m below meth c E b L xs n18 (1 : Int32)) (h : f_law_j425 xs L x3 X = some tg) {H : Heap} {locs : List Loc} (hS : Hs E s.heap X H locs) {ls : Array Slot} (hl : lv_has ls 4 [(0, .ref b), (1, .ref (ad E 0)), (2, .ref (ad E 70)), (3, .int x3)]) : W p l e room_1 s m #[Value.ref b] below meth c H locs 80 1374 (lw_Z below #[Value.ref b] s) (F0 m 425 ls []) := by
  obtain ⟨hx, hb, hml, hown, hts, hrt, hlk, hKx⟩ := id C
  unfold f_law_j425 at h
  refine lv_aload_n hx hb dL_425 rfl (lv_at hl 1 rfl) ?_
  refine lv_aload_n hx hb dL_426 rfl (lv_at hl 0 rfl) ?_
  refine lv_iload_n hx hb dL_427 rfl (lv_at hl 3 rfl) ?_
  refine lv_iconst (v := 1) hx hb dL_428 (by decide) ?_
  refine lv_iadd hx hb dL_429 ?_
  refine r_sld C hS S h dL_430 (fun v1 h => ?_)
  refine lv_aload_n hx hb dL_431 rfl (lv_at hl 0 rfl) ?_
  refine lv_iload_n hx hb dL_432 rfl (lv_at hl 3 rfl) ?_
  refine lv_iconst (v := 2) hx hb dL_433 (by decide) ?_
  refine lv_iadd hx hb dL_434 ?_
  refine r_sld C hS S h dL_435 (fun v2 h => ?_)
  refine lv_aload_n hx hb dL_436 rfl (lv_at hl 0 rfl) ?_
  refine lv_iload_n hx hb dL_437 rfl (lv_at hl 3 rfl) ?_
  refine lv_iconst (v := 3) hx hb dL_438 (by decide) ?_
  refine lv_iadd hx hb dL_439 ?_
  refine r_sld C hS S h dL_440 (fun v3 h => ?_)
  obtain ⟨v4, X6, hr5, h⟩ := bd2_el h
  refine c_I hS (c_runV (As := [.int v1, .int v2, .int v3]) (rest := []) C hS (by decide) cel_Tide (rfl : cls[5]? = some (R_Tide, T_Tide, 12)) (k_Tide_set (l := l) (E := E) (X := X) hr5) cw_Tide_set ini_Tide_set ins_Tide_set sel_Tide_set tw_371 hd_Tide_set rfl ⟨⟨rfl, rfl⟩, (Nat.le_of_ble_eq_true rfl), (Nat.le_of_ble_eq_true rfl)⟩ ⟨(Nat.le_of_ble_eq_true rfl), (Nat.le_of_ble_eq_true rfl)⟩ hl.1 rfl (Nat.le_of_ble_eq_true rfl) dL_441) (fun H locs hS => ?_)
  refine lv_aload_n hx hb dL_444 rfl (lv_at hl 2 rfl) ?_
  refine lv_aload_n hx hb dL_445 rfl (lv_at hl 0 rfl) ?_
  refine lv_iload_n hx hb dL_446 rfl (lv_at hl 3 rfl) ?_
  refine lv_iconst (v := 1) hx hb dL_447 (by decide) ?_
  refine lv_iadd hx hb dL_448 ?_
  refine r_sld C hS S h dL_449 (fun v7 h => ?_)
  refine lv_aload_n hx hb dL_450 rfl (lv_at hl 0 rfl) ?_
  refine lv_iload_n hx hb dL_451 rfl (lv_at hl 3 rfl) ?_
  refine lv_iconst (v := 2) hx hb dL_452 (by decide) ?_
  refine lv_iadd hx hb dL_453 ?_
  refine r_sld C hS S h dL_454 (fun v8 h => ?_)
  refine lv_aload_n hx hb dL_455 rfl (lv_at hl 0 rfl) ?_
  refine lv_iload_n hx hb dL_456 rfl (lv_at hl 3 rfl) ?_
  refine lv_iconst (v := 3) hx hb dL_457 (by decide) ?_
  refine lv_iadd hx hb dL_458 ?_
  refine r_sld C hS S h dL_459 (fun v9 h => ?_)
  obtain ⟨v10, X12, hr11, h⟩ := bd2_el h
  refine c_I hS (c_runV (As := [.int v7, .int v8, .int v9]) (rest := [.int v4]) C hS (by decide) cel_Model (rfl : cls[6]? = some (R_Model, T_Model, 16)) (k_Model_set (l := l) (E := E) (X := X6) hr11) cw_Model_set ini_Model_set ins_Model_set sel_Model_set tw_940 hd_Model_set rfl ⟨⟨rfl, rfl⟩, (Nat.le_of_ble_eq_true rfl), (Nat.le_of_ble_eq_true rfl)⟩ ⟨(Nat.le_of_ble_eq_true rfl), (Nat.le_of_ble_eq_true rfl)⟩ hl.1 rfl (Nat.le_of_ble_eq_true rfl) dL_460) (fun H locs hS => ?_)
  refine r_icmp_eq (tgt := 1403) C h dL_463 (by decide) (fun h => ?_) (fun h => ?_)
  · skip
    exact k_law_j1403 C S hc18 ih18 h hS (lv_sub hl [0, 1, 2, 3] rfl)
  · skip
    refine lv_iconst (v := 0) hx hb dL_466 (by decide) ?_
    exact absurd (lp_ret h hc18) (by decide)
set_option maxHeartbeats 4000000 in
set_option maxRecDepth 100000 in
theorem k_law_j468 {p : Program} {l : Launch} {e : Env} {s : State} {m : MethodId} {below : List Frame} {meth : Method} {c : Code} {E : En} {b L : Nat} {xs : Nat → Int32} (C : Cx p s m #[Value.ref b] meth c code 4 "TideLoansLaw" (some .boolean) E) (S : Sx s E b L xs) {x3 : Int32} {X : Mem} {tg : (Int32 ⊕ (Int32 × Mem))} {n18 : Nat} (hc18 : fin (fun a => f_law_b18 xs L a.1 a.2) n18 (1 : Int32) tg) (ih18 : I_law_b18 p l e s m below meth c E b L xs n18 (1 : Int32)) (h : f_law_j468 xs L x3 X = some tg) {H : Heap} {locs : List Loc} (hS : Hs E s.heap X H locs) {ls : Array Slot} (hl : lv_has ls 4 [(0, .ref b), (1, .ref (ad E 0)), (2, .ref (ad E 70)), (3, .int x3)]) : W p l e room_1 s m #[Value.ref b] below meth c H locs 80 1374 (lw_Z below #[Value.ref b] s) (F0 m 468 ls []) := by
  obtain ⟨hx, hb, hml, hown, hts, hrt, hlk, hKx⟩ := id C
  unfold f_law_j468 at h
  refine lv_aload_n hx hb dL_468 rfl (lv_at hl 1 rfl) ?_
  refine lv_aload_n hx hb dL_469 rfl (lv_at hl 0 rfl) ?_
  refine lv_iload_n hx hb dL_470 rfl (lv_at hl 3 rfl) ?_
  refine lv_iconst (v := 1) hx hb dL_471 (by decide) ?_
  refine lv_iadd hx hb dL_472 ?_
  refine r_sld C hS S h dL_473 (fun v1 h => ?_)
  refine lv_aload_n hx hb dL_474 rfl (lv_at hl 0 rfl) ?_
  refine lv_iload_n hx hb dL_475 rfl (lv_at hl 3 rfl) ?_
  refine lv_iconst (v := 2) hx hb dL_476 (by decide) ?_
  refine lv_iadd hx hb dL_477 ?_
  refine r_sld C hS S h dL_478 (fun v2 h => ?_)
  obtain ⟨v3, X5, hr4, h⟩ := bd2_el h
  refine c_I hS (c_runV (As := [.int v1, .int v2]) (rest := []) C hS (by decide) cel_Tide (rfl : cls[5]? = some (R_Tide, T_Tide, 12)) (k_Tide_turn (l := l) (E := E) (X := X) hr4) cw_Tide_turn ini_Tide_turn ins_Tide_turn sel_Tide_turn tw_375 hd_Tide_turn rfl ⟨⟨rfl, rfl⟩, (Nat.le_of_ble_eq_true rfl), (Nat.le_of_ble_eq_true rfl)⟩ ⟨(Nat.le_of_ble_eq_true rfl), (Nat.le_of_ble_eq_true rfl)⟩ hl.1 rfl (Nat.le_of_ble_eq_true rfl) dL_479) (fun H locs hS => ?_)
  refine lv_aload_n hx hb dL_482 rfl (lv_at hl 2 rfl) ?_
  refine lv_aload_n hx hb dL_483 rfl (lv_at hl 0 rfl) ?_
  refine lv_iload_n hx hb dL_484 rfl (lv_at hl 3 rfl) ?_
  refine lv_iconst (v := 1) hx hb dL_485 (by decide) ?_
  refine lv_iadd hx hb dL_486 ?_
  refine r_sld C hS S h dL_487 (fun v6 h => ?_)
  refine lv_aload_n hx hb dL_488 rfl (lv_at hl 0 rfl) ?_
  refine lv_iload_n hx hb dL_489 rfl (lv_at hl 3 rfl) ?_
  refine lv_iconst (v := 2) hx hb dL_490 (by decide) ?_
  refine lv_iadd hx hb dL_491 ?_
  refine r_sld C hS S h dL_492 (fun v7 h => ?_)
  obtain ⟨v8, X10, hr9, h⟩ := bd2_el h
  refine c_I hS (c_runV (As := [.int v6, .int v7]) (rest := [.int v3]) C hS (by decide) cel_Model (rfl : cls[6]? = some (R_Model, T_Model, 16)) (k_Model_turn (l := l) (E := E) (X := X5) hr9) cw_Model_turn ini_Model_turn ins_Model_turn sel_Model_turn tw_945 hd_Model_turn rfl ⟨⟨rfl, rfl⟩, (Nat.le_of_ble_eq_true rfl), (Nat.le_of_ble_eq_true rfl)⟩ ⟨(Nat.le_of_ble_eq_true rfl), (Nat.le_of_ble_eq_true rfl)⟩ hl.1 rfl (Nat.le_of_ble_eq_true rfl) dL_493) (fun H locs hS => ?_)
  refine r_icmp_eq (tgt := 1403) C h dL_496 (by decide) (fun h => ?_) (fun h => ?_)
  · skip
    exact k_law_j1403 C S hc18 ih18 h hS (lv_sub hl [0, 1, 2, 3] rfl)
  · skip
    refine lv_iconst (v := 0) hx hb dL_499 (by decide) ?_
    exact absurd (lp_ret h hc18) (by decide)
set_option maxHeartbeats 4000000 in
set_option maxRecDepth 100000 in
theorem k_law_j501 {p : Program} {l : Launch} {e : Env} {s : State} {m : MethodId} {below : List Frame} {meth : Method} {c : Code} {E : En} {b L : Nat} {xs : Nat → Int32} (C : Cx p s m #[Value.ref b] meth c code 4 "TideLoansLaw" (some .boolean) E) (S : Sx s E b L xs) {x3 : Int32} {X : Mem} {tg : (Int32 ⊕ (Int32 × Mem))} {n18 : Nat} (hc18 : fin (fun a => f_law_b18 xs L a.1 a.2) n18 (1 : Int32) tg) (ih18 : I_law_b18 p l e s m below meth c E b L xs n18 (1 : Int32)) (h : f_law_j501 xs L x3 X = some tg) {H : Heap} {locs : List Loc} (hS : Hs E s.heap X H locs) {ls : Array Slot} (hl : lv_has ls 4 [(0, .ref b), (1, .ref (ad E 0)), (2, .ref (ad E 70)), (3, .int x3)]) : W p l e room_1 s m #[Value.ref b] below meth c H locs 80 1374 (lw_Z below #[Value.ref b] s) (F0 m 501 ls []) := by
  obtain ⟨hx, hb, hml, hown, hts, hrt, hlk, hKx⟩ := id C
  unfold f_law_j501 at h
  refine lv_aload_n hx hb dL_501 rfl (lv_at hl 1 rfl) ?_
  refine lv_aload_n hx hb dL_502 rfl (lv_at hl 0 rfl) ?_
  refine lv_iload_n hx hb dL_503 rfl (lv_at hl 3 rfl) ?_
  refine lv_iconst (v := 1) hx hb dL_504 (by decide) ?_
  refine lv_iadd hx hb dL_505 ?_
  refine r_sld C hS S h dL_506 (fun v1 h => ?_)
  refine lv_aload_n hx hb dL_507 rfl (lv_at hl 0 rfl) ?_
  refine lv_iload_n hx hb dL_508 rfl (lv_at hl 3 rfl) ?_
  refine lv_iconst (v := 2) hx hb dL_509 (by decide) ?_
  refine lv_iadd hx hb dL_510 ?_
  refine r_sld C hS S h dL_511 (fun v2 h => ?_)
  obtain ⟨v3, X5, hr4, h⟩ := bd2_el h
  refine c_I hS (c_runV (As := [.int v1, .int v2]) (rest := []) C hS (by decide) cel_Tide (rfl : cls[5]? = some (R_Tide, T_Tide, 12)) (k_Tide_as (l := l) (E := E) (X := X) hr4) cw_Tide_as ini_Tide_as ins_Tide_as sel_Tide_as tw_379 hd_Tide_as rfl ⟨⟨rfl, rfl⟩, (Nat.le_of_ble_eq_true rfl), (Nat.le_of_ble_eq_true rfl)⟩ ⟨(Nat.le_of_ble_eq_true rfl), (Nat.le_of_ble_eq_true rfl)⟩ hl.1 rfl (Nat.le_of_ble_eq_true rfl) dL_512) (fun H locs hS => ?_)
  refine lv_aload_n hx hb dL_515 rfl (lv_at hl 2 rfl) ?_
  refine lv_aload_n hx hb dL_516 rfl (lv_at hl 0 rfl) ?_
  refine lv_iload_n hx hb dL_517 rfl (lv_at hl 3 rfl) ?_
  refine lv_iconst (v := 1) hx hb dL_518 (by decide) ?_
  refine lv_iadd hx hb dL_519 ?_
  refine r_sld C hS S h dL_520 (fun v6 h => ?_)
  refine lv_aload_n hx hb dL_521 rfl (lv_at hl 0 rfl) ?_
  refine lv_iload_n hx hb dL_522 rfl (lv_at hl 3 rfl) ?_
  refine lv_iconst (v := 2) hx hb dL_523 (by decide) ?_
  refine lv_iadd hx hb dL_524 ?_
  refine r_sld C hS S h dL_525 (fun v7 h => ?_)
  obtain ⟨v8, X10, hr9, h⟩ := bd2_el h
  refine c_I hS (c_runV (As := [.int v6, .int v7]) (rest := [.int v3]) C hS (by decide) cel_Model (rfl : cls[6]? = some (R_Model, T_Model, 16)) (k_Model_as (l := l) (E := E) (X := X5) hr9) cw_Model_as ini_Model_as ins_Model_as sel_Model_as tw_949 hd_Model_as rfl ⟨⟨rfl, rfl⟩, (Nat.le_of_ble_eq_true rfl), (Nat.le_of_ble_eq_true rfl)⟩ ⟨(Nat.le_of_ble_eq_true rfl), (Nat.le_of_ble_eq_true rfl)⟩ hl.1 rfl (Nat.le_of_ble_eq_true rfl) dL_526) (fun H locs hS => ?_)
  refine r_icmp_eq (tgt := 1403) C h dL_529 (by decide) (fun h => ?_) (fun h => ?_)
  · skip
    exact k_law_j1403 C S hc18 ih18 h hS (lv_sub hl [0, 1, 2, 3] rfl)
  · skip
    refine lv_iconst (v := 0) hx hb dL_532 (by decide) ?_
    exact absurd (lp_ret h hc18) (by decide)
set_option maxHeartbeats 4000000 in
set_option maxRecDepth 100000 in
theorem k_law_j534 {p : Program} {l : Launch} {e : Env} {s : State} {m : MethodId} {below : List Frame} {meth : Method} {c : Code} {E : En} {b L : Nat} {xs : Nat → Int32} (C : Cx p s m #[Value.ref b] meth c code 4 "TideLoansLaw" (some .boolean) E) (S : Sx s E b L xs) {x3 : Int32} {X : Mem} {tg : (Int32 ⊕ (Int32 × Mem))} {n18 : Nat} (hc18 : fin (fun a => f_law_b18 xs L a.1 a.2) n18 (1 : Int32) tg) (ih18 : I_law_b18 p l e s m below meth c E b L xs n18 (1 : Int32)) (h : f_law_j534 xs L x3 X = some tg) {H : Heap} {locs : List Loc} (hS : Hs E s.heap X H locs) {ls : Array Slot} (hl : lv_has ls 4 [(0, .ref b), (1, .ref (ad E 0)), (2, .ref (ad E 70)), (3, .int x3)]) : W p l e room_1 s m #[Value.ref b] below meth c H locs 80 1374 (lw_Z below #[Value.ref b] s) (F0 m 534 ls []) := by
  obtain ⟨hx, hb, hml, hown, hts, hrt, hlk, hKx⟩ := id C
  unfold f_law_j534 at h
  refine lv_aload_n hx hb dL_534 rfl (lv_at hl 1 rfl) ?_
  refine lv_aload_n hx hb dL_535 rfl (lv_at hl 0 rfl) ?_
  refine lv_iload_n hx hb dL_536 rfl (lv_at hl 3 rfl) ?_
  refine lv_iconst (v := 1) hx hb dL_537 (by decide) ?_
  refine lv_iadd hx hb dL_538 ?_
  refine r_sld C hS S h dL_539 (fun v1 h => ?_)
  refine lv_aload_n hx hb dL_540 rfl (lv_at hl 0 rfl) ?_
  refine lv_iload_n hx hb dL_541 rfl (lv_at hl 3 rfl) ?_
  refine lv_iconst (v := 2) hx hb dL_542 (by decide) ?_
  refine lv_iadd hx hb dL_543 ?_
  refine r_sld C hS S h dL_544 (fun v2 h => ?_)
  obtain ⟨v3, X5, hr4, h⟩ := bd2_el h
  refine c_I hS (c_runV (As := [.int v1, .int v2]) (rest := []) C hS (by decide) cel_Tide (rfl : cls[5]? = some (R_Tide, T_Tide, 12)) (k_Tide_lay (l := l) (E := E) (X := X) hr4) cw_Tide_lay ini_Tide_lay ins_Tide_lay sel_Tide_lay tw_390 hd_Tide_lay rfl ⟨⟨rfl, rfl⟩, (Nat.le_of_ble_eq_true rfl), (Nat.le_of_ble_eq_true rfl)⟩ ⟨(Nat.le_of_ble_eq_true rfl), (Nat.le_of_ble_eq_true rfl)⟩ hl.1 rfl (Nat.le_of_ble_eq_true rfl) dL_545) (fun H locs hS => ?_)
  refine lv_aload_n hx hb dL_548 rfl (lv_at hl 2 rfl) ?_
  refine lv_aload_n hx hb dL_549 rfl (lv_at hl 0 rfl) ?_
  refine lv_iload_n hx hb dL_550 rfl (lv_at hl 3 rfl) ?_
  refine lv_iconst (v := 1) hx hb dL_551 (by decide) ?_
  refine lv_iadd hx hb dL_552 ?_
  refine r_sld C hS S h dL_553 (fun v6 h => ?_)
  refine lv_aload_n hx hb dL_554 rfl (lv_at hl 0 rfl) ?_
  refine lv_iload_n hx hb dL_555 rfl (lv_at hl 3 rfl) ?_
  refine lv_iconst (v := 2) hx hb dL_556 (by decide) ?_
  refine lv_iadd hx hb dL_557 ?_
  refine r_sld C hS S h dL_558 (fun v7 h => ?_)
  obtain ⟨v8, X10, hr9, h⟩ := bd2_el h
  refine c_I hS (c_runV (As := [.int v6, .int v7]) (rest := [.int v3]) C hS (by decide) cel_Model (rfl : cls[6]? = some (R_Model, T_Model, 16)) (k_Model_lay (l := l) (E := E) (X := X5) hr9) cw_Model_lay ini_Model_lay ins_Model_lay sel_Model_lay tw_954 hd_Model_lay rfl ⟨⟨rfl, rfl⟩, (Nat.le_of_ble_eq_true rfl), (Nat.le_of_ble_eq_true rfl)⟩ ⟨(Nat.le_of_ble_eq_true rfl), (Nat.le_of_ble_eq_true rfl)⟩ hl.1 rfl (Nat.le_of_ble_eq_true rfl) dL_559) (fun H locs hS => ?_)
  refine r_icmp_eq (tgt := 1403) C h dL_562 (by decide) (fun h => ?_) (fun h => ?_)
  · skip
    exact k_law_j1403 C S hc18 ih18 h hS (lv_sub hl [0, 1, 2, 3] rfl)
  · skip
    refine lv_iconst (v := 0) hx hb dL_565 (by decide) ?_
    exact absurd (lp_ret h hc18) (by decide)
set_option maxHeartbeats 4000000 in
set_option maxRecDepth 100000 in
theorem k_law_j567 {p : Program} {l : Launch} {e : Env} {s : State} {m : MethodId} {below : List Frame} {meth : Method} {c : Code} {E : En} {b L : Nat} {xs : Nat → Int32} (C : Cx p s m #[Value.ref b] meth c code 4 "TideLoansLaw" (some .boolean) E) (S : Sx s E b L xs) {x3 : Int32} {X : Mem} {tg : (Int32 ⊕ (Int32 × Mem))} {n18 : Nat} (hc18 : fin (fun a => f_law_b18 xs L a.1 a.2) n18 (1 : Int32) tg) (ih18 : I_law_b18 p l e s m below meth c E b L xs n18 (1 : Int32)) (h : f_law_j567 xs L x3 X = some tg) {H : Heap} {locs : List Loc} (hS : Hs E s.heap X H locs) {ls : Array Slot} (hl : lv_has ls 4 [(0, .ref b), (1, .ref (ad E 0)), (2, .ref (ad E 70)), (3, .int x3)]) : W p l e room_1 s m #[Value.ref b] below meth c H locs 80 1374 (lw_Z below #[Value.ref b] s) (F0 m 567 ls []) := by
  obtain ⟨hx, hb, hml, hown, hts, hrt, hlk, hKx⟩ := id C
  unfold f_law_j567 at h
  refine lv_aload_n hx hb dL_567 rfl (lv_at hl 1 rfl) ?_
  refine lv_aload_n hx hb dL_568 rfl (lv_at hl 0 rfl) ?_
  refine lv_iload_n hx hb dL_569 rfl (lv_at hl 3 rfl) ?_
  refine lv_iconst (v := 1) hx hb dL_570 (by decide) ?_
  refine lv_iadd hx hb dL_571 ?_
  refine r_sld C hS S h dL_572 (fun v1 h => ?_)
  obtain ⟨v2, X4, hr3, h⟩ := bd2_el h
  refine c_I hS (c_runV (As := [.int v1]) (rest := []) C hS (by decide) cel_Tide (rfl : cls[5]? = some (R_Tide, T_Tide, 12)) (k_Tide_fetch (l := l) (E := E) (X := X) hr3) cw_Tide_fetch ini_Tide_fetch ins_Tide_fetch sel_Tide_fetch tw_405 hd_Tide_fetch rfl ⟨⟨rfl, rfl⟩, (Nat.le_of_ble_eq_true rfl), (Nat.le_of_ble_eq_true rfl)⟩ ⟨(Nat.le_of_ble_eq_true rfl), (Nat.le_of_ble_eq_true rfl)⟩ hl.1 rfl (Nat.le_of_ble_eq_true rfl) dL_573) (fun H locs hS => ?_)
  refine lv_aload_n hx hb dL_576 rfl (lv_at hl 2 rfl) ?_
  refine lv_aload_n hx hb dL_577 rfl (lv_at hl 0 rfl) ?_
  refine lv_iload_n hx hb dL_578 rfl (lv_at hl 3 rfl) ?_
  refine lv_iconst (v := 1) hx hb dL_579 (by decide) ?_
  refine lv_iadd hx hb dL_580 ?_
  refine r_sld C hS S h dL_581 (fun v5 h => ?_)
  obtain ⟨v6, X8, hr7, h⟩ := bd2_el h
  refine c_I hS (c_runV (As := [.int v5]) (rest := [.int v2]) C hS (by decide) cel_Model (rfl : cls[6]? = some (R_Model, T_Model, 16)) (k_Model_fetch (l := l) (E := E) (X := X4) hr7) cw_Model_fetch ini_Model_fetch ins_Model_fetch sel_Model_fetch tw_966 hd_Model_fetch rfl ⟨⟨rfl, rfl⟩, (Nat.le_of_ble_eq_true rfl), (Nat.le_of_ble_eq_true rfl)⟩ ⟨(Nat.le_of_ble_eq_true rfl), (Nat.le_of_ble_eq_true rfl)⟩ hl.1 rfl (Nat.le_of_ble_eq_true rfl) dL_582) (fun H locs hS => ?_)
  refine r_icmp_eq (tgt := 1403) C h dL_585 (by decide) (fun h => ?_) (fun h => ?_)
  · skip
    exact k_law_j1403 C S hc18 ih18 h hS (lv_sub hl [0, 1, 2, 3] rfl)
  · skip
    refine lv_iconst (v := 0) hx hb dL_588 (by decide) ?_
    exact absurd (lp_ret h hc18) (by decide)
set_option maxHeartbeats 4000000 in
set_option maxRecDepth 100000 in
theorem k_law_j590 {p : Program} {l : Launch} {e : Env} {s : State} {m : MethodId} {below : List Frame} {meth : Method} {c : Code} {E : En} {b L : Nat} {xs : Nat → Int32} (C : Cx p s m #[Value.ref b] meth c code 4 "TideLoansLaw" (some .boolean) E) (S : Sx s E b L xs) {x3 : Int32} {X : Mem} {tg : (Int32 ⊕ (Int32 × Mem))} {n18 : Nat} (hc18 : fin (fun a => f_law_b18 xs L a.1 a.2) n18 (1 : Int32) tg) (ih18 : I_law_b18 p l e s m below meth c E b L xs n18 (1 : Int32)) (h : f_law_j590 xs L x3 X = some tg) {H : Heap} {locs : List Loc} (hS : Hs E s.heap X H locs) {ls : Array Slot} (hl : lv_has ls 4 [(0, .ref b), (1, .ref (ad E 0)), (2, .ref (ad E 70)), (3, .int x3)]) : W p l e room_1 s m #[Value.ref b] below meth c H locs 80 1374 (lw_Z below #[Value.ref b] s) (F0 m 590 ls []) := by
  obtain ⟨hx, hb, hml, hown, hts, hrt, hlk, hKx⟩ := id C
  unfold f_law_j590 at h
  refine lv_aload_n hx hb dL_590 rfl (lv_at hl 1 rfl) ?_
  refine lv_aload_n hx hb dL_591 rfl (lv_at hl 0 rfl) ?_
  refine lv_iload_n hx hb dL_592 rfl (lv_at hl 3 rfl) ?_
  refine lv_iconst (v := 1) hx hb dL_593 (by decide) ?_
  refine lv_iadd hx hb dL_594 ?_
  refine r_sld C hS S h dL_595 (fun v1 h => ?_)
  obtain ⟨v2, X4, hr3, h⟩ := bd2_el h
  refine c_L hS (c_runV (As := [.int v1]) (rest := []) C hS (by decide) cel_Tide (rfl : cls[5]? = some (R_Tide, T_Tide, 12)) (k_Tide_days (l := l) (E := E) (X := X) hr3) cw_Tide_days ini_Tide_days ins_Tide_days sel_Tide_days tw_409 hd_Tide_days rfl ⟨⟨rfl, rfl⟩, (Nat.le_of_ble_eq_true rfl), (Nat.le_of_ble_eq_true rfl)⟩ ⟨(Nat.le_of_ble_eq_true rfl), (Nat.le_of_ble_eq_true rfl)⟩ hl.1 rfl (Nat.le_of_ble_eq_true rfl) dL_596) (fun H locs hS => ?_)
  refine lv_aload_n hx hb dL_599 rfl (lv_at hl 2 rfl) ?_
  refine lv_aload_n hx hb dL_600 rfl (lv_at hl 0 rfl) ?_
  refine lv_iload_n hx hb dL_601 rfl (lv_at hl 3 rfl) ?_
  refine lv_iconst (v := 1) hx hb dL_602 (by decide) ?_
  refine lv_iadd hx hb dL_603 ?_
  refine r_sld C hS S h dL_604 (fun v5 h => ?_)
  obtain ⟨v6, X8, hr7, h⟩ := bd2_el h
  refine c_L hS (c_runV (As := [.int v5]) (rest := [.long v2]) C hS (by decide) cel_Model (rfl : cls[6]? = some (R_Model, T_Model, 16)) (k_Model_days (l := l) (E := E) (X := X4) hr7) cw_Model_days ini_Model_days ins_Model_days sel_Model_days tw_970 hd_Model_days rfl ⟨⟨rfl, rfl⟩, (Nat.le_of_ble_eq_true rfl), (Nat.le_of_ble_eq_true rfl)⟩ ⟨(Nat.le_of_ble_eq_true rfl), (Nat.le_of_ble_eq_true rfl)⟩ hl.1 rfl (Nat.le_of_ble_eq_true rfl) dL_605) (fun H locs hS => ?_)
  refine W.lcmp hx hb dL_608 ?_
  refine r_if_eq (tgt := 1403) C h dL_609 (by decide) (fun h => ?_) (fun h => ?_)
  · skip
    exact k_law_j1403 C S hc18 ih18 h hS (lv_sub hl [0, 1, 2, 3] rfl)
  · skip
    refine lv_iconst (v := 0) hx hb dL_612 (by decide) ?_
    exact absurd (lp_ret h hc18) (by decide)
set_option maxHeartbeats 4000000 in
set_option maxRecDepth 100000 in
theorem k_law_j614 {p : Program} {l : Launch} {e : Env} {s : State} {m : MethodId} {below : List Frame} {meth : Method} {c : Code} {E : En} {b L : Nat} {xs : Nat → Int32} (C : Cx p s m #[Value.ref b] meth c code 4 "TideLoansLaw" (some .boolean) E) (S : Sx s E b L xs) {x3 : Int32} {X : Mem} {tg : (Int32 ⊕ (Int32 × Mem))} {n18 : Nat} (hc18 : fin (fun a => f_law_b18 xs L a.1 a.2) n18 (1 : Int32) tg) (ih18 : I_law_b18 p l e s m below meth c E b L xs n18 (1 : Int32)) (h : f_law_j614 xs L x3 X = some tg) {H : Heap} {locs : List Loc} (hS : Hs E s.heap X H locs) {ls : Array Slot} (hl : lv_has ls 4 [(0, .ref b), (1, .ref (ad E 0)), (2, .ref (ad E 70)), (3, .int x3)]) : W p l e room_1 s m #[Value.ref b] below meth c H locs 80 1374 (lw_Z below #[Value.ref b] s) (F0 m 614 ls []) := by
  obtain ⟨hx, hb, hml, hown, hts, hrt, hlk, hKx⟩ := id C
  unfold f_law_j614 at h
  refine lv_aload_n hx hb dL_614 rfl (lv_at hl 1 rfl) ?_
  refine lv_aload_n hx hb dL_615 rfl (lv_at hl 0 rfl) ?_
  refine lv_iload_n hx hb dL_616 rfl (lv_at hl 3 rfl) ?_
  refine lv_iconst (v := 1) hx hb dL_617 (by decide) ?_
  refine lv_iadd hx hb dL_618 ?_
  refine r_sld C hS S h dL_619 (fun v1 h => ?_)
  obtain ⟨v2, X4, hr3, h⟩ := bd2_el h
  refine c_I hS (c_runV (As := [.int v1]) (rest := []) C hS (by decide) cel_Tide (rfl : cls[5]? = some (R_Tide, T_Tide, 12)) (k_Tide_now (l := l) (E := E) (X := X) hr3) cw_Tide_now ini_Tide_now ins_Tide_now sel_Tide_now tw_463 hd_Tide_now rfl ⟨⟨rfl, rfl⟩, (Nat.le_of_ble_eq_true rfl), (Nat.le_of_ble_eq_true rfl)⟩ ⟨(Nat.le_of_ble_eq_true rfl), (Nat.le_of_ble_eq_true rfl)⟩ hl.1 rfl (Nat.le_of_ble_eq_true rfl) dL_620) (fun H locs hS => ?_)
  refine lv_aload_n hx hb dL_623 rfl (lv_at hl 2 rfl) ?_
  refine lv_aload_n hx hb dL_624 rfl (lv_at hl 0 rfl) ?_
  refine lv_iload_n hx hb dL_625 rfl (lv_at hl 3 rfl) ?_
  refine lv_iconst (v := 1) hx hb dL_626 (by decide) ?_
  refine lv_iadd hx hb dL_627 ?_
  refine r_sld C hS S h dL_628 (fun v5 h => ?_)
  obtain ⟨v6, X8, hr7, h⟩ := bd2_el h
  refine c_I hS (c_runV (As := [.int v5]) (rest := [.int v2]) C hS (by decide) cel_Model (rfl : cls[6]? = some (R_Model, T_Model, 16)) (k_Model_now (l := l) (E := E) (X := X4) hr7) cw_Model_now ini_Model_now ins_Model_now sel_Model_now tw_996 hd_Model_now rfl ⟨⟨rfl, rfl⟩, (Nat.le_of_ble_eq_true rfl), (Nat.le_of_ble_eq_true rfl)⟩ ⟨(Nat.le_of_ble_eq_true rfl), (Nat.le_of_ble_eq_true rfl)⟩ hl.1 rfl (Nat.le_of_ble_eq_true rfl) dL_629) (fun H locs hS => ?_)
  refine r_icmp_eq (tgt := 1403) C h dL_632 (by decide) (fun h => ?_) (fun h => ?_)
  · skip
    exact k_law_j1403 C S hc18 ih18 h hS (lv_sub hl [0, 1, 2, 3] rfl)
  · skip
    refine lv_iconst (v := 0) hx hb dL_635 (by decide) ?_
    exact absurd (lp_ret h hc18) (by decide)
set_option maxHeartbeats 4000000 in
set_option maxRecDepth 100000 in
theorem k_law_j637 {p : Program} {l : Launch} {e : Env} {s : State} {m : MethodId} {below : List Frame} {meth : Method} {c : Code} {E : En} {b L : Nat} {xs : Nat → Int32} (C : Cx p s m #[Value.ref b] meth c code 4 "TideLoansLaw" (some .boolean) E) (S : Sx s E b L xs) {x3 : Int32} {X : Mem} {tg : (Int32 ⊕ (Int32 × Mem))} {n18 : Nat} (hc18 : fin (fun a => f_law_b18 xs L a.1 a.2) n18 (1 : Int32) tg) (ih18 : I_law_b18 p l e s m below meth c E b L xs n18 (1 : Int32)) (h : f_law_j637 xs L x3 X = some tg) {H : Heap} {locs : List Loc} (hS : Hs E s.heap X H locs) {ls : Array Slot} (hl : lv_has ls 4 [(0, .ref b), (1, .ref (ad E 0)), (2, .ref (ad E 70)), (3, .int x3)]) : W p l e room_1 s m #[Value.ref b] below meth c H locs 80 1374 (lw_Z below #[Value.ref b] s) (F0 m 637 ls []) := by
  obtain ⟨hx, hb, hml, hown, hts, hrt, hlk, hKx⟩ := id C
  unfold f_law_j637 at h
  refine lv_aload_n hx hb dL_637 rfl (lv_at hl 1 rfl) ?_
  refine lv_aload_n hx hb dL_638 rfl (lv_at hl 0 rfl) ?_
  refine lv_iload_n hx hb dL_639 rfl (lv_at hl 3 rfl) ?_
  refine lv_iconst (v := 1) hx hb dL_640 (by decide) ?_
  refine lv_iadd hx hb dL_641 ?_
  refine r_sld C hS S h dL_642 (fun v1 h => ?_)
  refine lv_aload_n hx hb dL_643 rfl (lv_at hl 0 rfl) ?_
  refine lv_iload_n hx hb dL_644 rfl (lv_at hl 3 rfl) ?_
  refine lv_iconst (v := 2) hx hb dL_645 (by decide) ?_
  refine lv_iadd hx hb dL_646 ?_
  refine r_sld C hS S h dL_647 (fun v2 h => ?_)
  obtain ⟨v3, X5, hr4, h⟩ := bd2_el h
  refine c_I hS (c_runV (As := [.int v1, .int v2]) (rest := []) C hS (by decide) cel_Tide (rfl : cls[5]? = some (R_Tide, T_Tide, 12)) (k_Tide_on (l := l) (E := E) (X := X) hr4) cw_Tide_on ini_Tide_on ins_Tide_on sel_Tide_on tw_479 hd_Tide_on rfl ⟨⟨rfl, rfl⟩, (Nat.le_of_ble_eq_true rfl), (Nat.le_of_ble_eq_true rfl)⟩ ⟨(Nat.le_of_ble_eq_true rfl), (Nat.le_of_ble_eq_true rfl)⟩ hl.1 rfl (Nat.le_of_ble_eq_true rfl) dL_648) (fun H locs hS => ?_)
  refine lv_aload_n hx hb dL_651 rfl (lv_at hl 2 rfl) ?_
  refine lv_aload_n hx hb dL_652 rfl (lv_at hl 0 rfl) ?_
  refine lv_iload_n hx hb dL_653 rfl (lv_at hl 3 rfl) ?_
  refine lv_iconst (v := 1) hx hb dL_654 (by decide) ?_
  refine lv_iadd hx hb dL_655 ?_
  refine r_sld C hS S h dL_656 (fun v6 h => ?_)
  refine lv_aload_n hx hb dL_657 rfl (lv_at hl 0 rfl) ?_
  refine lv_iload_n hx hb dL_658 rfl (lv_at hl 3 rfl) ?_
  refine lv_iconst (v := 2) hx hb dL_659 (by decide) ?_
  refine lv_iadd hx hb dL_660 ?_
  refine r_sld C hS S h dL_661 (fun v7 h => ?_)
  obtain ⟨v8, X10, hr9, h⟩ := bd2_el h
  refine c_I hS (c_runV (As := [.int v6, .int v7]) (rest := [.int v3]) C hS (by decide) cel_Model (rfl : cls[6]? = some (R_Model, T_Model, 16)) (k_Model_on (l := l) (E := E) (X := X5) hr9) cw_Model_on ini_Model_on ins_Model_on sel_Model_on tw_1004 hd_Model_on rfl ⟨⟨rfl, rfl⟩, (Nat.le_of_ble_eq_true rfl), (Nat.le_of_ble_eq_true rfl)⟩ ⟨(Nat.le_of_ble_eq_true rfl), (Nat.le_of_ble_eq_true rfl)⟩ hl.1 rfl (Nat.le_of_ble_eq_true rfl) dL_662) (fun H locs hS => ?_)
  refine r_icmp_eq (tgt := 1403) C h dL_665 (by decide) (fun h => ?_) (fun h => ?_)
  · skip
    exact k_law_j1403 C S hc18 ih18 h hS (lv_sub hl [0, 1, 2, 3] rfl)
  · skip
    refine lv_iconst (v := 0) hx hb dL_668 (by decide) ?_
    exact absurd (lp_ret h hc18) (by decide)
set_option maxHeartbeats 4000000 in
set_option maxRecDepth 100000 in
theorem k_law_j670 {p : Program} {l : Launch} {e : Env} {s : State} {m : MethodId} {below : List Frame} {meth : Method} {c : Code} {E : En} {b L : Nat} {xs : Nat → Int32} (C : Cx p s m #[Value.ref b] meth c code 4 "TideLoansLaw" (some .boolean) E) (S : Sx s E b L xs) {x3 : Int32} {X : Mem} {tg : (Int32 ⊕ (Int32 × Mem))} {n18 : Nat} (hc18 : fin (fun a => f_law_b18 xs L a.1 a.2) n18 (1 : Int32) tg) (ih18 : I_law_b18 p l e s m below meth c E b L xs n18 (1 : Int32)) (h : f_law_j670 xs L x3 X = some tg) {H : Heap} {locs : List Loc} (hS : Hs E s.heap X H locs) {ls : Array Slot} (hl : lv_has ls 4 [(0, .ref b), (1, .ref (ad E 0)), (2, .ref (ad E 70)), (3, .int x3)]) : W p l e room_1 s m #[Value.ref b] below meth c H locs 80 1374 (lw_Z below #[Value.ref b] s) (F0 m 670 ls []) := by
  obtain ⟨hx, hb, hml, hown, hts, hrt, hlk, hKx⟩ := id C
  unfold f_law_j670 at h
  refine lv_aload_n hx hb dL_670 rfl (lv_at hl 1 rfl) ?_
  refine lv_aload_n hx hb dL_671 rfl (lv_at hl 0 rfl) ?_
  refine lv_iload_n hx hb dL_672 rfl (lv_at hl 3 rfl) ?_
  refine lv_iconst (v := 1) hx hb dL_673 (by decide) ?_
  refine lv_iadd hx hb dL_674 ?_
  refine r_sld C hS S h dL_675 (fun v1 h => ?_)
  obtain ⟨v2, X4, hr3, h⟩ := bd2_el h
  refine c_I hS (c_runV (As := [.int v1]) (rest := []) C hS (by decide) cel_Tide (rfl : cls[5]? = some (R_Tide, T_Tide, 12)) (k_Tide_taken (l := l) (E := E) (X := X) hr3) cw_Tide_taken ini_Tide_taken ins_Tide_taken sel_Tide_taken tw_487 hd_Tide_taken rfl ⟨⟨rfl, rfl⟩, (Nat.le_of_ble_eq_true rfl), (Nat.le_of_ble_eq_true rfl)⟩ ⟨(Nat.le_of_ble_eq_true rfl), (Nat.le_of_ble_eq_true rfl)⟩ hl.1 rfl (Nat.le_of_ble_eq_true rfl) dL_676) (fun H locs hS => ?_)
  refine lv_aload_n hx hb dL_679 rfl (lv_at hl 2 rfl) ?_
  refine lv_aload_n hx hb dL_680 rfl (lv_at hl 0 rfl) ?_
  refine lv_iload_n hx hb dL_681 rfl (lv_at hl 3 rfl) ?_
  refine lv_iconst (v := 1) hx hb dL_682 (by decide) ?_
  refine lv_iadd hx hb dL_683 ?_
  refine r_sld C hS S h dL_684 (fun v5 h => ?_)
  obtain ⟨v6, X8, hr7, h⟩ := bd2_el h
  refine c_I hS (c_runV (As := [.int v5]) (rest := [.int v2]) C hS (by decide) cel_Model (rfl : cls[6]? = some (R_Model, T_Model, 16)) (k_Model_taken (l := l) (E := E) (X := X4) hr7) cw_Model_taken ini_Model_taken ins_Model_taken sel_Model_taken tw_1015 hd_Model_taken rfl ⟨⟨rfl, rfl⟩, (Nat.le_of_ble_eq_true rfl), (Nat.le_of_ble_eq_true rfl)⟩ ⟨(Nat.le_of_ble_eq_true rfl), (Nat.le_of_ble_eq_true rfl)⟩ hl.1 rfl (Nat.le_of_ble_eq_true rfl) dL_685) (fun H locs hS => ?_)
  refine r_icmp_eq (tgt := 1403) C h dL_688 (by decide) (fun h => ?_) (fun h => ?_)
  · skip
    exact k_law_j1403 C S hc18 ih18 h hS (lv_sub hl [0, 1, 2, 3] rfl)
  · skip
    refine lv_iconst (v := 0) hx hb dL_691 (by decide) ?_
    exact absurd (lp_ret h hc18) (by decide)
set_option maxHeartbeats 4000000 in
set_option maxRecDepth 100000 in
theorem k_law_j693 {p : Program} {l : Launch} {e : Env} {s : State} {m : MethodId} {below : List Frame} {meth : Method} {c : Code} {E : En} {b L : Nat} {xs : Nat → Int32} (C : Cx p s m #[Value.ref b] meth c code 4 "TideLoansLaw" (some .boolean) E) (S : Sx s E b L xs) {x3 : Int32} {X : Mem} {tg : (Int32 ⊕ (Int32 × Mem))} {n18 : Nat} (hc18 : fin (fun a => f_law_b18 xs L a.1 a.2) n18 (1 : Int32) tg) (ih18 : I_law_b18 p l e s m below meth c E b L xs n18 (1 : Int32)) (h : f_law_j693 xs L x3 X = some tg) {H : Heap} {locs : List Loc} (hS : Hs E s.heap X H locs) {ls : Array Slot} (hl : lv_has ls 4 [(0, .ref b), (1, .ref (ad E 0)), (2, .ref (ad E 70)), (3, .int x3)]) : W p l e room_1 s m #[Value.ref b] below meth c H locs 80 1374 (lw_Z below #[Value.ref b] s) (F0 m 693 ls []) := by
  obtain ⟨hx, hb, hml, hown, hts, hrt, hlk, hKx⟩ := id C
  unfold f_law_j693 at h
  refine lv_aload_n hx hb dL_693 rfl (lv_at hl 1 rfl) ?_
  refine lv_aload_n hx hb dL_694 rfl (lv_at hl 0 rfl) ?_
  refine lv_iload_n hx hb dL_695 rfl (lv_at hl 3 rfl) ?_
  refine lv_iconst (v := 1) hx hb dL_696 (by decide) ?_
  refine lv_iadd hx hb dL_697 ?_
  refine r_sld C hS S h dL_698 (fun v1 h => ?_)
  obtain ⟨v2, X4, hr3, h⟩ := bd2_el h
  refine c_I hS (c_runV (As := [.int v1]) (rest := []) C hS (by decide) cel_Tide (rfl : cls[5]? = some (R_Tide, T_Tide, 12)) (k_Tide_home (l := l) (E := E) (X := X) hr3) cw_Tide_home ini_Tide_home ins_Tide_home sel_Tide_home tw_492 hd_Tide_home rfl ⟨⟨rfl, rfl⟩, (Nat.le_of_ble_eq_true rfl), (Nat.le_of_ble_eq_true rfl)⟩ ⟨(Nat.le_of_ble_eq_true rfl), (Nat.le_of_ble_eq_true rfl)⟩ hl.1 rfl (Nat.le_of_ble_eq_true rfl) dL_699) (fun H locs hS => ?_)
  refine lv_aload_n hx hb dL_702 rfl (lv_at hl 2 rfl) ?_
  refine lv_aload_n hx hb dL_703 rfl (lv_at hl 0 rfl) ?_
  refine lv_iload_n hx hb dL_704 rfl (lv_at hl 3 rfl) ?_
  refine lv_iconst (v := 1) hx hb dL_705 (by decide) ?_
  refine lv_iadd hx hb dL_706 ?_
  refine r_sld C hS S h dL_707 (fun v5 h => ?_)
  obtain ⟨v6, X8, hr7, h⟩ := bd2_el h
  refine c_I hS (c_runV (As := [.int v5]) (rest := [.int v2]) C hS (by decide) cel_Model (rfl : cls[6]? = some (R_Model, T_Model, 16)) (k_Model_home (l := l) (E := E) (X := X4) hr7) cw_Model_home ini_Model_home ins_Model_home sel_Model_home tw_1028 hd_Model_home rfl ⟨⟨rfl, rfl⟩, (Nat.le_of_ble_eq_true rfl), (Nat.le_of_ble_eq_true rfl)⟩ ⟨(Nat.le_of_ble_eq_true rfl), (Nat.le_of_ble_eq_true rfl)⟩ hl.1 rfl (Nat.le_of_ble_eq_true rfl) dL_708) (fun H locs hS => ?_)
  refine r_icmp_eq (tgt := 1403) C h dL_711 (by decide) (fun h => ?_) (fun h => ?_)
  · skip
    exact k_law_j1403 C S hc18 ih18 h hS (lv_sub hl [0, 1, 2, 3] rfl)
  · skip
    refine lv_iconst (v := 0) hx hb dL_714 (by decide) ?_
    exact absurd (lp_ret h hc18) (by decide)
set_option maxHeartbeats 4000000 in
set_option maxRecDepth 100000 in
theorem k_law_j716 {p : Program} {l : Launch} {e : Env} {s : State} {m : MethodId} {below : List Frame} {meth : Method} {c : Code} {E : En} {b L : Nat} {xs : Nat → Int32} (C : Cx p s m #[Value.ref b] meth c code 4 "TideLoansLaw" (some .boolean) E) (S : Sx s E b L xs) {x3 : Int32} {X : Mem} {tg : (Int32 ⊕ (Int32 × Mem))} {n18 : Nat} (hc18 : fin (fun a => f_law_b18 xs L a.1 a.2) n18 (1 : Int32) tg) (ih18 : I_law_b18 p l e s m below meth c E b L xs n18 (1 : Int32)) (h : f_law_j716 xs L x3 X = some tg) {H : Heap} {locs : List Loc} (hS : Hs E s.heap X H locs) {ls : Array Slot} (hl : lv_has ls 4 [(0, .ref b), (1, .ref (ad E 0)), (2, .ref (ad E 70)), (3, .int x3)]) : W p l e room_1 s m #[Value.ref b] below meth c H locs 80 1374 (lw_Z below #[Value.ref b] s) (F0 m 716 ls []) := by
  obtain ⟨hx, hb, hml, hown, hts, hrt, hlk, hKx⟩ := id C
  unfold f_law_j716 at h
  refine lv_aload_n hx hb dL_716 rfl (lv_at hl 1 rfl) ?_
  obtain ⟨v1, X3, hr2, h⟩ := bd2_el h
  refine c_I hS (c_runV (As := []) (rest := []) C hS (by decide) cel_Tide (rfl : cls[5]? = some (R_Tide, T_Tide, 12)) (k_Tide_due (l := l) (E := E) (X := X) hr2) cw_Tide_due ini_Tide_due ins_Tide_due sel_Tide_due tw_496 hd_Tide_due rfl ⟨⟨rfl, rfl⟩, (Nat.le_of_ble_eq_true rfl), (Nat.le_of_ble_eq_true rfl)⟩ ⟨(Nat.le_of_ble_eq_true rfl), (Nat.le_of_ble_eq_true rfl)⟩ hl.1 rfl (Nat.le_of_ble_eq_true rfl) dL_717) (fun H locs hS => ?_)
  refine lv_aload_n hx hb dL_720 rfl (lv_at hl 2 rfl) ?_
  obtain ⟨v4, X6, hr5, h⟩ := bd2_el h
  refine c_I hS (c_runV (As := []) (rest := [.int v1]) C hS (by decide) cel_Model (rfl : cls[6]? = some (R_Model, T_Model, 16)) (k_Model_due (l := l) (E := E) (X := X3) hr5) cw_Model_due ini_Model_due ins_Model_due sel_Model_due tw_1032 hd_Model_due rfl ⟨⟨rfl, rfl⟩, (Nat.le_of_ble_eq_true rfl), (Nat.le_of_ble_eq_true rfl)⟩ ⟨(Nat.le_of_ble_eq_true rfl), (Nat.le_of_ble_eq_true rfl)⟩ hl.1 rfl (Nat.le_of_ble_eq_true rfl) dL_721) (fun H locs hS => ?_)
  refine r_icmp_eq (tgt := 1403) C h dL_724 (by decide) (fun h => ?_) (fun h => ?_)
  · skip
    exact k_law_j1403 C S hc18 ih18 h hS (lv_sub hl [0, 1, 2, 3] rfl)
  · skip
    refine lv_iconst (v := 0) hx hb dL_727 (by decide) ?_
    exact absurd (lp_ret h hc18) (by decide)
set_option maxHeartbeats 4000000 in
set_option maxRecDepth 100000 in
theorem k_law_j729 {p : Program} {l : Launch} {e : Env} {s : State} {m : MethodId} {below : List Frame} {meth : Method} {c : Code} {E : En} {b L : Nat} {xs : Nat → Int32} (C : Cx p s m #[Value.ref b] meth c code 4 "TideLoansLaw" (some .boolean) E) (S : Sx s E b L xs) {x3 : Int32} {X : Mem} {tg : (Int32 ⊕ (Int32 × Mem))} {n18 : Nat} (hc18 : fin (fun a => f_law_b18 xs L a.1 a.2) n18 (1 : Int32) tg) (ih18 : I_law_b18 p l e s m below meth c E b L xs n18 (1 : Int32)) (h : f_law_j729 xs L x3 X = some tg) {H : Heap} {locs : List Loc} (hS : Hs E s.heap X H locs) {ls : Array Slot} (hl : lv_has ls 4 [(0, .ref b), (1, .ref (ad E 0)), (2, .ref (ad E 70)), (3, .int x3)]) : W p l e room_1 s m #[Value.ref b] below meth c H locs 80 1374 (lw_Z below #[Value.ref b] s) (F0 m 729 ls []) := by
  obtain ⟨hx, hb, hml, hown, hts, hrt, hlk, hKx⟩ := id C
  unfold f_law_j729 at h
  refine lv_aload_n hx hb dL_729 rfl (lv_at hl 1 rfl) ?_
  refine lv_aload_n hx hb dL_730 rfl (lv_at hl 0 rfl) ?_
  refine lv_iload_n hx hb dL_731 rfl (lv_at hl 3 rfl) ?_
  refine lv_iconst (v := 1) hx hb dL_732 (by decide) ?_
  refine lv_iadd hx hb dL_733 ?_
  refine r_sld C hS S h dL_734 (fun v1 h => ?_)
  refine lv_aload_n hx hb dL_735 rfl (lv_at hl 0 rfl) ?_
  refine lv_iload_n hx hb dL_736 rfl (lv_at hl 3 rfl) ?_
  refine lv_iconst (v := 2) hx hb dL_737 (by decide) ?_
  refine lv_iadd hx hb dL_738 ?_
  refine r_sld C hS S h dL_739 (fun v2 h => ?_)
  obtain ⟨v3, X5, hr4, h⟩ := bd2_el h
  refine c_I hS (c_runV (As := [.int v1, .int v2]) (rest := []) C hS (by decide) cel_Tide (rfl : cls[5]? = some (R_Tide, T_Tide, 12)) (k_Tide_spot (l := l) (E := E) (X := X) hr4) cw_Tide_spot ini_Tide_spot ins_Tide_spot sel_Tide_spot tw_501 hd_Tide_spot rfl ⟨⟨rfl, rfl⟩, (Nat.le_of_ble_eq_true rfl), (Nat.le_of_ble_eq_true rfl)⟩ ⟨(Nat.le_of_ble_eq_true rfl), (Nat.le_of_ble_eq_true rfl)⟩ hl.1 rfl (Nat.le_of_ble_eq_true rfl) dL_740) (fun H locs hS => ?_)
  refine lv_aload_n hx hb dL_743 rfl (lv_at hl 2 rfl) ?_
  refine lv_aload_n hx hb dL_744 rfl (lv_at hl 0 rfl) ?_
  refine lv_iload_n hx hb dL_745 rfl (lv_at hl 3 rfl) ?_
  refine lv_iconst (v := 1) hx hb dL_746 (by decide) ?_
  refine lv_iadd hx hb dL_747 ?_
  refine r_sld C hS S h dL_748 (fun v6 h => ?_)
  refine lv_aload_n hx hb dL_749 rfl (lv_at hl 0 rfl) ?_
  refine lv_iload_n hx hb dL_750 rfl (lv_at hl 3 rfl) ?_
  refine lv_iconst (v := 2) hx hb dL_751 (by decide) ?_
  refine lv_iadd hx hb dL_752 ?_
  refine r_sld C hS S h dL_753 (fun v7 h => ?_)
  obtain ⟨v8, X10, hr9, h⟩ := bd2_el h
  refine c_I hS (c_runV (As := [.int v6, .int v7]) (rest := [.int v3]) C hS (by decide) cel_Model (rfl : cls[6]? = some (R_Model, T_Model, 16)) (k_Model_spot (l := l) (E := E) (X := X5) hr9) cw_Model_spot ini_Model_spot ins_Model_spot sel_Model_spot tw_1036 hd_Model_spot rfl ⟨⟨rfl, rfl⟩, (Nat.le_of_ble_eq_true rfl), (Nat.le_of_ble_eq_true rfl)⟩ ⟨(Nat.le_of_ble_eq_true rfl), (Nat.le_of_ble_eq_true rfl)⟩ hl.1 rfl (Nat.le_of_ble_eq_true rfl) dL_754) (fun H locs hS => ?_)
  refine r_icmp_eq (tgt := 1403) C h dL_757 (by decide) (fun h => ?_) (fun h => ?_)
  · skip
    exact k_law_j1403 C S hc18 ih18 h hS (lv_sub hl [0, 1, 2, 3] rfl)
  · skip
    refine lv_iconst (v := 0) hx hb dL_760 (by decide) ?_
    exact absurd (lp_ret h hc18) (by decide)
