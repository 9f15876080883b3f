def Cb (p : Program) (s : State) (m : MethodId) (args : Array Value) (c : Code) (cc : ByteArray) (nL : Nat) (own : String) (E : En) (b : Nat) : Prop := p.tables.exec = Jvm.exec ∧ c.code = cc ∧ c.maxLocals = nL ∧ s.vm.findClass own = some m.cls ∧ (∀ w ∈ tb, w.before args s = true) ∧ Kg E b s
section CL
variable {p : Program} {l : Launch} {e : Env} {R : Room} {s : State} {m : MethodId} {args : Array Value} {below : List Frame} {meth : Method} {c : Code} {H : Heap} {locs : List Loc} {cells slots : Nat} {Q : State → Prop}
variable {cc : ByteArray} {nL : Nat} {own : String} {E : En} {b : Nat} {X : Mem} {a : Nat → Nat} {F : Fn} {n : Nat} {pc : Nat} {ls : Array Slot} {rest : List Value}
theorem l_new (C : Cb p s m args c cc nL own E b) (h : Hg E b s.heap n a F X H locs) {Cn : String} {T : u_T} {N ci index : Nat} {fs : List Value} (hin : ∀ w ∈ u_ws Cn T N, w ∈ tb) (ty : Nat → FieldType) (hty : ∀ k, k < N → parseFieldDescriptor (T k).2.2.1 = some (ty k)) (hl : Cond.classLink own index Cn ∈ tb) (hi : Cond.instantiable Cn N ∈ tb) (hini : Cond.initialized Cn ∈ tb) (hcl : cls[ci]? = some (Cn, T, N)) (hc : Fr n F X → celg E a F X n = .inr (ci, fs)) (hfs : ∀ j, j < N → defaultValue (ty j) = vp_V fs j) (hcells : cells + 1 ≤ R.cells) (hslots : slots + N ≤ R.slots) (hdg : decode cc pc = .ok (.new index, 3))
    (kk : ∀ (q : Nat) (d : Nat → Nat) (H1 : Heap), d n = q → (∀ k, k < n → d k = a k) → Hg E b s.heap (n + 1) d F X H1 locs → W p l e R s m args below meth c H1 locs (cells + 1) (slots + N) Q (F0 m (pc + 3) ls (.ref q :: rest))) : W p l e R s m args below meth c H locs cells slots Q (F0 m pc ls rest) := by
  have hA : ∀ q, s.heap.size ≤ q → (fun q => b ≤ q) q := fun q h => Nat.le_trans C.2.2.2.2.2.2.2.2 h
  obtain ⟨hx, hb, -, ho, hts, ⟨hK, -⟩⟩ := C
  obtain ⟨⟨hP, hD, hCl, hFr⟩, hS⟩ := h
  refine va_new (ci := ci) (fs := fs) hx hb hts hin ty hty ho (hts _ hl) (hts _ hi) (hts _ hini) hK hP hD hS hA hcl hfs hcells hslots hdg (fun q H1 hP1 hD1 hS1 => ?_)
  have e1 := wlg_adx (q := q) hCl (hc hFr)
  exact kk q (adx a n q) H1 adx_n adx_lt ⟨⟨hP1.to e1, hD1.to e1, hCl.up, hFr.up⟩, hS1⟩
variable {y : MethodName} {bytes : ByteArray} {maxL index mc ms : Nat} {rm : Room}
theorem l_pre (C : Cb p s m args c cc nL own E b) (h : Hg E b s.heap n a F X H locs) {av : List Value} : PreS s H (PreG E b av n a F X) av := ⟨PreG.blind, fun U hU hW => ⟨rfl, ⟨va_K.moved hW.alike C.2.2.2.2.2.1, fun w hw => nst_warm hw hW (C.2.2.2.2.2.2.1 w hw), AO.moved hW.alike C.2.2.2.2.2.2.2.1, by rw [hU]; exact Nat.le_trans C.2.2.2.2.2.2.2.2 h.2.1⟩, by rw [hU]; exact h.1⟩⟩
theorem l_call (C : Cb p s m args c cc nL own E b) (h : Hg E b s.heap n a F X H locs) {x n0 ne : Nat} {Fe : Fn} {Xe : Mem} (hM : Met l y (Cond.code y bytes maxL none :: tb) rm (PreG E b [.ref x] n a F X) (PostG E b n0 a ne Fe Xe) mc ms (fun q => b ≤ q)) (hcode : Cond.code y bytes maxL none ∈ tb) (hini : Cond.initialized y.cls ∈ tb) (hin : Cond.instanceMethod y ∈ tb) (hyn : y.name = "<init>") (hl : Cond.methodLink own index y ∈ tb) (hd : y.cls ≠ "java/lang/invoke/MethodHandle" ∧ y.cls ≠ "java/lang/invoke/VarHandle" ∧ (parseMethodDescriptor y.desc).map (fun d => d.parameters.length) = some 0) (hrm : (rm.cells = mc ∧ rm.slots = ms) ∧ rm.frames + 1 ≤ R.frames ∧ 8 + (maxL + 11) + rm.locals ≤ R.locals) (hz : cells + mc ≤ R.cells ∧ slots + ms ≤ R.slots) (hsz : ls.size = nL) (hw : (rest.map fun v => v.category).sum ≤ 8) (hdg : decode cc pc = .ok (.invokespecial index, 3))
    (kk : ∀ (d : Nat → Nat) (H1 : Heap) (locs1 : List Loc), (∀ k, k < n0 → d k = a k) → Hg E b s.heap ne d Fe Xe H1 locs1 → W p l e R s m args below meth c H1 locs1 (cells + mc) (slots + ms) Q (F0 m (pc + 3) ls rest)) : W p l e R s m args below meth c H locs cells slots Q (F0 m pc ls (.ref x :: rest)) := by
  refine va_callv (va_runI (Ts := tb) (As := []) (b := x) (rest := rest) ⟨C.1, C.2.1, C.2.2.1, C.2.2.2.1, C.2.2.2.2.1⟩ hM ⟨callB_of 0 C.2.2.2.2.1 (tb_code hcode) rfl hrm.1.1 hrm.1.2 (C.2.2.2.2.1 _ hini) (C.2.2.2.2.1 _ hl) hd hrm.2, hyn, C.2.2.2.2.1 _ hin⟩ (l_pre C h) rfl rfl hsz rfl (lv_room (m := m) (pc := pc) (ls := ls) (rest := rest) hw) hdg hz) h.2 (fun _ _ h => h) (fun _ h => h) (fun d t H1 locs1 ht _ hw1 hB _ _ hS1 => kk d H1 locs1 hw1 ⟨by rw [← ht]; exact hB, hS1⟩)
end CL
def Fz : Fn := fun _ _ => none
def Xz : Mem := (fun _ _ => 0, fun _ _ => 0)
def Ff : Fn := cF_Model_70 (cF_Tide_0 Fz)
def Xf : Mem := cX_Model_70 (cX_Tide_0 Xz)
theorem arrV_congr {cA : ClassId} {N : Nat} {f g : Nat → Value} (h : ∀ j, j < N → f j = g j) : arrV cA N f = arrV cA N g := by
  unfold arrV
  congr 1
  congr 1
  funext j
  exact h j.val j.isLt
abbrev fE (E : En) (a : Nat → Nat) : En := (E.1, a, E.2.2)
theorem fn_0 {E : En} {a : Nat → Nat} {H : Heap} (h : va_at E.1 cls (a 0, celg E a Ff Xf 0) H) : va_at E.1 cls (ad (fE E a) 0, cel (fE E a) Xf 0) H := h
theorem fn_1 {E : En} {a : Nat → Nat} {H : Heap} (h : va_at E.1 cls (a 1, celg E a Ff Xf 1) H) : va_at E.1 cls (ad (fE E a) 1, cel (fE E a) Xf 1) H := h
theorem fn_2 {E : En} {a : Nat → Nat} {H : Heap} (h : va_at E.1 cls (a 2, celg E a Ff Xf 2) H) : va_at E.1 cls (ad (fE E a) 2, cel (fE E a) Xf 2) H := h
theorem fn_3 {E : En} {a : Nat → Nat} {H : Heap} (h : va_at E.1 cls (a 3, celg E a Ff Xf 3) H) : va_at E.1 cls (ad (fE E a) 3, cel (fE E a) Xf 3) H := h
theorem fn_4 {E : En} {a : Nat → Nat} {H : Heap} (h : va_at E.1 cls (a 4, celg E a Ff Xf 4) H) : va_at E.1 cls (ad (fE E a) 4, cel (fE E a) Xf 4) H := h
theorem fe_5 : ∀ j, j < 10 → Ff 5 j = some (5 + 1 + j) := by decide +kernel
theorem fn_5 {E : En} {a : Nat → Nat} {H : Heap} (h : va_at E.1 cls (a 5, celg E a Ff Xf 5) H) : va_at E.1 cls (ad (fE E a) 5, cel (fE E a) Xf 5) H := by
  have h1 : H[a 5]? = some (vp_cell (ca E 3) (10, .inr (.inr (.inr (.inr (fun i => (Ff 5 i).map a)))))) := h
  show H[a 5]? = some (vp_cell (ca E 3) (10, .inr (.inr (.inr (.inr (fun i => some (a (5 + 1 + i))))))))
  rw [h1, vp_cell_q, vp_cell_q]
  exact congrArg some (arrV_congr (fun j hj => by rw [fe_5 j hj]; rfl))
theorem fn_6 {E : En} {a : Nat → Nat} {H : Heap} (h : va_at E.1 cls (a 6, celg E a Ff Xf 6) H) : va_at E.1 cls (ad (fE E a) 6, cel (fE E a) Xf 6) H := h
theorem fn_7 {E : En} {a : Nat → Nat} {H : Heap} (h : va_at E.1 cls (a 7, celg E a Ff Xf 7) H) : va_at E.1 cls (ad (fE E a) 7, cel (fE E a) Xf 7) H := h
theorem fn_8 {E : En} {a : Nat → Nat} {H : Heap} (h : va_at E.1 cls (a 8, celg E a Ff Xf 8) H) : va_at E.1 cls (ad (fE E a) 8, cel (fE E a) Xf 8) H := h
theorem fn_9 {E : En} {a : Nat → Nat} {H : Heap} (h : va_at E.1 cls (a 9, celg E a Ff Xf 9) H) : va_at E.1 cls (ad (fE E a) 9, cel (fE E a) Xf 9) H := h
theorem fn_10 {E : En} {a : Nat → Nat} {H : Heap} (h : va_at E.1 cls (a 10, celg E a Ff Xf 10) H) : va_at E.1 cls (ad (fE E a) 10, cel (fE E a) Xf 10) H := h
theorem fn_11 {E : En} {a : Nat → Nat} {H : Heap} (h : va_at E.1 cls (a 11, celg E a Ff Xf 11) H) : va_at E.1 cls (ad (fE E a) 11, cel (fE E a) Xf 11) H := h
theorem fn_12 {E : En} {a : Nat → Nat} {H : Heap} (h : va_at E.1 cls (a 12, celg E a Ff Xf 12) H) : va_at E.1 cls (ad (fE E a) 12, cel (fE E a) Xf 12) H := h
theorem fn_13 {E : En} {a : Nat → Nat} {H : Heap} (h : va_at E.1 cls (a 13, celg E a Ff Xf 13) H) : va_at E.1 cls (ad (fE E a) 13, cel (fE E a) Xf 13) H := h
theorem fn_14 {E : En} {a : Nat → Nat} {H : Heap} (h : va_at E.1 cls (a 14, celg E a Ff Xf 14) H) : va_at E.1 cls (ad (fE E a) 14, cel (fE E a) Xf 14) H := h
theorem fn_15 {E : En} {a : Nat → Nat} {H : Heap} (h : va_at E.1 cls (a 15, celg E a Ff Xf 15) H) : va_at E.1 cls (ad (fE E a) 15, cel (fE E a) Xf 15) H := h
theorem fn_16 {E : En} {a : Nat → Nat} {H : Heap} (h : va_at E.1 cls (a 16, celg E a Ff Xf 16) H) : va_at E.1 cls (ad (fE E a) 16, cel (fE E a) Xf 16) H := h
theorem fn_17 {E : En} {a : Nat → Nat} {H : Heap} (h : va_at E.1 cls (a 17, celg E a Ff Xf 17) H) : va_at E.1 cls (ad (fE E a) 17, cel (fE E a) Xf 17) H := h
theorem fn_18 {E : En} {a : Nat → Nat} {H : Heap} (h : va_at E.1 cls (a 18, celg E a Ff Xf 18) H) : va_at E.1 cls (ad (fE E a) 18, cel (fE E a) Xf 18) H := h
theorem fe_19 : ∀ j, j < 10 → Ff 19 j = some (19 + 1 + j) := by decide +kernel
theorem fn_19 {E : En} {a : Nat → Nat} {H : Heap} (h : va_at E.1 cls (a 19, celg E a Ff Xf 19) H) : va_at E.1 cls (ad (fE E a) 19, cel (fE E a) Xf 19) H := by
  have h1 : H[a 19]? = some (vp_cell (ca E 3) (10, .inr (.inr (.inr (.inr (fun i => (Ff 19 i).map a)))))) := h
  show H[a 19]? = some (vp_cell (ca E 3) (10, .inr (.inr (.inr (.inr (fun i => some (a (19 + 1 + i))))))))
  rw [h1, vp_cell_q, vp_cell_q]
  exact congrArg some (arrV_congr (fun j hj => by rw [fe_19 j hj]; rfl))
theorem fn_20 {E : En} {a : Nat → Nat} {H : Heap} (h : va_at E.1 cls (a 20, celg E a Ff Xf 20) H) : va_at E.1 cls (ad (fE E a) 20, cel (fE E a) Xf 20) H := h
theorem fn_21 {E : En} {a : Nat → Nat} {H : Heap} (h : va_at E.1 cls (a 21, celg E a Ff Xf 21) H) : va_at E.1 cls (ad (fE E a) 21, cel (fE E a) Xf 21) H := h
theorem fn_22 {E : En} {a : Nat → Nat} {H : Heap} (h : va_at E.1 cls (a 22, celg E a Ff Xf 22) H) : va_at E.1 cls (ad (fE E a) 22, cel (fE E a) Xf 22) H := h
theorem fn_23 {E : En} {a : Nat → Nat} {H : Heap} (h : va_at E.1 cls (a 23, celg E a Ff Xf 23) H) : va_at E.1 cls (ad (fE E a) 23, cel (fE E a) Xf 23) H := h
theorem fn_24 {E : En} {a : Nat → Nat} {H : Heap} (h : va_at E.1 cls (a 24, celg E a Ff Xf 24) H) : va_at E.1 cls (ad (fE E a) 24, cel (fE E a) Xf 24) H := h
theorem fn_25 {E : En} {a : Nat → Nat} {H : Heap} (h : va_at E.1 cls (a 25, celg E a Ff Xf 25) H) : va_at E.1 cls (ad (fE E a) 25, cel (fE E a) Xf 25) H := h
theorem fn_26 {E : En} {a : Nat → Nat} {H : Heap} (h : va_at E.1 cls (a 26, celg E a Ff Xf 26) H) : va_at E.1 cls (ad (fE E a) 26, cel (fE E a) Xf 26) H := h
theorem fn_27 {E : En} {a : Nat → Nat} {H : Heap} (h : va_at E.1 cls (a 27, celg E a Ff Xf 27) H) : va_at E.1 cls (ad (fE E a) 27, cel (fE E a) Xf 27) H := h
theorem fn_28 {E : En} {a : Nat → Nat} {H : Heap} (h : va_at E.1 cls (a 28, celg E a Ff Xf 28) H) : va_at E.1 cls (ad (fE E a) 28, cel (fE E a) Xf 28) H := h
theorem fn_29 {E : En} {a : Nat → Nat} {H : Heap} (h : va_at E.1 cls (a 29, celg E a Ff Xf 29) H) : va_at E.1 cls (ad (fE E a) 29, cel (fE E a) Xf 29) H := h
theorem fn_30 {E : En} {a : Nat → Nat} {H : Heap} (h : va_at E.1 cls (a 30, celg E a Ff Xf 30) H) : va_at E.1 cls (ad (fE E a) 30, cel (fE E a) Xf 30) H := h
theorem fn_31 {E : En} {a : Nat → Nat} {H : Heap} (h : va_at E.1 cls (a 31, celg E a Ff Xf 31) H) : va_at E.1 cls (ad (fE E a) 31, cel (fE E a) Xf 31) H := h
theorem fn_32 {E : En} {a : Nat → Nat} {H : Heap} (h : va_at E.1 cls (a 32, celg E a Ff Xf 32) H) : va_at E.1 cls (ad (fE E a) 32, cel (fE E a) Xf 32) H := h
theorem fe_33 : ∀ j, j < 10 → Ff 33 j = some (33 + 1 + j) := by decide +kernel
theorem fn_33 {E : En} {a : Nat → Nat} {H : Heap} (h : va_at E.1 cls (a 33, celg E a Ff Xf 33) H) : va_at E.1 cls (ad (fE E a) 33, cel (fE E a) Xf 33) H := by
  have h1 : H[a 33]? = some (vp_cell (ca E 3) (10, .inr (.inr (.inr (.inr (fun i => (Ff 33 i).map a)))))) := h
  show H[a 33]? = some (vp_cell (ca E 3) (10, .inr (.inr (.inr (.inr (fun i => some (a (33 + 1 + i))))))))
  rw [h1, vp_cell_q, vp_cell_q]
  exact congrArg some (arrV_congr (fun j hj => by rw [fe_33 j hj]; rfl))
theorem fn_34 {E : En} {a : Nat → Nat} {H : Heap} (h : va_at E.1 cls (a 34, celg E a Ff Xf 34) H) : va_at E.1 cls (ad (fE E a) 34, cel (fE E a) Xf 34) H := h
theorem fn_35 {E : En} {a : Nat → Nat} {H : Heap} (h : va_at E.1 cls (a 35, celg E a Ff Xf 35) H) : va_at E.1 cls (ad (fE E a) 35, cel (fE E a) Xf 35) H := h
theorem fn_36 {E : En} {a : Nat → Nat} {H : Heap} (h : va_at E.1 cls (a 36, celg E a Ff Xf 36) H) : va_at E.1 cls (ad (fE E a) 36, cel (fE E a) Xf 36) H := h
theorem fn_37 {E : En} {a : Nat → Nat} {H : Heap} (h : va_at E.1 cls (a 37, celg E a Ff Xf 37) H) : va_at E.1 cls (ad (fE E a) 37, cel (fE E a) Xf 37) H := h
theorem fn_38 {E : En} {a : Nat → Nat} {H : Heap} (h : va_at E.1 cls (a 38, celg E a Ff Xf 38) H) : va_at E.1 cls (ad (fE E a) 38, cel (fE E a) Xf 38) H := h
theorem fn_39 {E : En} {a : Nat → Nat} {H : Heap} (h : va_at E.1 cls (a 39, celg E a Ff Xf 39) H) : va_at E.1 cls (ad (fE E a) 39, cel (fE E a) Xf 39) H := h
theorem fn_40 {E : En} {a : Nat → Nat} {H : Heap} (h : va_at E.1 cls (a 40, celg E a Ff Xf 40) H) : va_at E.1 cls (ad (fE E a) 40, cel (fE E a) Xf 40) H := h
theorem fn_41 {E : En} {a : Nat → Nat} {H : Heap} (h : va_at E.1 cls (a 41, celg E a Ff Xf 41) H) : va_at E.1 cls (ad (fE E a) 41, cel (fE E a) Xf 41) H := h
theorem fn_42 {E : En} {a : Nat → Nat} {H : Heap} (h : va_at E.1 cls (a 42, celg E a Ff Xf 42) H) : va_at E.1 cls (ad (fE E a) 42, cel (fE E a) Xf 42) H := h
theorem fn_43 {E : En} {a : Nat → Nat} {H : Heap} (h : va_at E.1 cls (a 43, celg E a Ff Xf 43) H) : va_at E.1 cls (ad (fE E a) 43, cel (fE E a) Xf 43) H := h
theorem fn_44 {E : En} {a : Nat → Nat} {H : Heap} (h : va_at E.1 cls (a 44, celg E a Ff Xf 44) H) : va_at E.1 cls (ad (fE E a) 44, cel (fE E a) Xf 44) H := h
theorem fn_45 {E : En} {a : Nat → Nat} {H : Heap} (h : va_at E.1 cls (a 45, celg E a Ff Xf 45) H) : va_at E.1 cls (ad (fE E a) 45, cel (fE E a) Xf 45) H := h
theorem fe_46 : ∀ j, j < 4 → Ff 46 j = some (52 + 2 * j) := by decide +kernel
theorem fn_46 {E : En} {a : Nat → Nat} {H : Heap} (h : va_at E.1 cls (a 46, celg E a Ff Xf 46) H) : va_at E.1 cls (ad (fE E a) 46, cel (fE E a) Xf 46) H := by
  have h1 : H[a 46]? = some (vp_cell (ca E 4) (4, .inr (.inr (.inr (.inr (fun i => (Ff 46 i).map a)))))) := h
  show H[a 46]? = some (vp_cell (ca E 4) (4, .inr (.inr (.inr (.inr (fun i => some (a (52 + 2 * i))))))))
  rw [h1, vp_cell_q, vp_cell_q]
  exact congrArg some (arrV_congr (fun j hj => by rw [fe_46 j hj]; rfl))
theorem fe_47 : ∀ j, j < 10 → Ff 47 j = some (60 + j) := by decide +kernel
theorem fn_47 {E : En} {a : Nat → Nat} {H : Heap} (h : va_at E.1 cls (a 47, celg E a Ff Xf 47) H) : va_at E.1 cls (ad (fE E a) 47, cel (fE E a) Xf 47) H := by
  have h1 : H[a 47]? = some (vp_cell (ca E 5) (10, .inr (.inr (.inr (.inr (fun i => (Ff 47 i).map a)))))) := h
  show H[a 47]? = some (vp_cell (ca E 5) (10, .inr (.inr (.inr (.inr (fun i => some (a (60 + i))))))))
  rw [h1, vp_cell_q, vp_cell_q]
  exact congrArg some (arrV_congr (fun j hj => by rw [fe_47 j hj]; rfl))
theorem fn_48 {E : En} {a : Nat → Nat} {H : Heap} (h : va_at E.1 cls (a 48, celg E a Ff Xf 48) H) : va_at E.1 cls (ad (fE E a) 48, cel (fE E a) Xf 48) H := h
theorem fn_49 {E : En} {a : Nat → Nat} {H : Heap} (h : va_at E.1 cls (a 49, celg E a Ff Xf 49) H) : va_at E.1 cls (ad (fE E a) 49, cel (fE E a) Xf 49) H := h
theorem fn_50 {E : En} {a : Nat → Nat} {H : Heap} (h : va_at E.1 cls (a 50, celg E a Ff Xf 50) H) : va_at E.1 cls (ad (fE E a) 50, cel (fE E a) Xf 50) H := h
theorem fn_51 {E : En} {a : Nat → Nat} {H : Heap} (h : va_at E.1 cls (a 51, celg E a Ff Xf 51) H) : va_at E.1 cls (ad (fE E a) 51, cel (fE E a) Xf 51) H := h
theorem fn_52 {E : En} {a : Nat → Nat} {H : Heap} (h : va_at E.1 cls (a 52, celg E a Ff Xf 52) H) : va_at E.1 cls (ad (fE E a) 52, cel (fE E a) Xf 52) H := h
theorem fn_53 {E : En} {a : Nat → Nat} {H : Heap} (h : va_at E.1 cls (a 53, celg E a Ff Xf 53) H) : va_at E.1 cls (ad (fE E a) 53, cel (fE E a) Xf 53) H := h
theorem fn_54 {E : En} {a : Nat → Nat} {H : Heap} (h : va_at E.1 cls (a 54, celg E a Ff Xf 54) H) : va_at E.1 cls (ad (fE E a) 54, cel (fE E a) Xf 54) H := h
theorem fn_55 {E : En} {a : Nat → Nat} {H : Heap} (h : va_at E.1 cls (a 55, celg E a Ff Xf 55) H) : va_at E.1 cls (ad (fE E a) 55, cel (fE E a) Xf 55) H := h
theorem fn_56 {E : En} {a : Nat → Nat} {H : Heap} (h : va_at E.1 cls (a 56, celg E a Ff Xf 56) H) : va_at E.1 cls (ad (fE E a) 56, cel (fE E a) Xf 56) H := h
theorem fn_57 {E : En} {a : Nat → Nat} {H : Heap} (h : va_at E.1 cls (a 57, celg E a Ff Xf 57) H) : va_at E.1 cls (ad (fE E a) 57, cel (fE E a) Xf 57) H := h
theorem fn_58 {E : En} {a : Nat → Nat} {H : Heap} (h : va_at E.1 cls (a 58, celg E a Ff Xf 58) H) : va_at E.1 cls (ad (fE E a) 58, cel (fE E a) Xf 58) H := h
theorem fn_59 {E : En} {a : Nat → Nat} {H : Heap} (h : va_at E.1 cls (a 59, celg E a Ff Xf 59) H) : va_at E.1 cls (ad (fE E a) 59, cel (fE E a) Xf 59) H := h
theorem fn_60 {E : En} {a : Nat → Nat} {H : Heap} (h : va_at E.1 cls (a 60, celg E a Ff Xf 60) H) : va_at E.1 cls (ad (fE E a) 60, cel (fE E a) Xf 60) H := h
theorem fn_61 {E : En} {a : Nat → Nat} {H : Heap} (h : va_at E.1 cls (a 61, celg E a Ff Xf 61) H) : va_at E.1 cls (ad (fE E a) 61, cel (fE E a) Xf 61) H := h
theorem fn_62 {E : En} {a : Nat → Nat} {H : Heap} (h : va_at E.1 cls (a 62, celg E a Ff Xf 62) H) : va_at E.1 cls (ad (fE E a) 62, cel (fE E a) Xf 62) H := h
theorem fn_63 {E : En} {a : Nat → Nat} {H : Heap} (h : va_at E.1 cls (a 63, celg E a Ff Xf 63) H) : va_at E.1 cls (ad (fE E a) 63, cel (fE E a) Xf 63) H := h
theorem fn_64 {E : En} {a : Nat → Nat} {H : Heap} (h : va_at E.1 cls (a 64, celg E a Ff Xf 64) H) : va_at E.1 cls (ad (fE E a) 64, cel (fE E a) Xf 64) H := h
theorem fn_65 {E : En} {a : Nat → Nat} {H : Heap} (h : va_at E.1 cls (a 65, celg E a Ff Xf 65) H) : va_at E.1 cls (ad (fE E a) 65, cel (fE E a) Xf 65) H := h
theorem fn_66 {E : En} {a : Nat → Nat} {H : Heap} (h : va_at E.1 cls (a 66, celg E a Ff Xf 66) H) : va_at E.1 cls (ad (fE E a) 66, cel (fE E a) Xf 66) H := h
theorem fn_67 {E : En} {a : Nat → Nat} {H : Heap} (h : va_at E.1 cls (a 67, celg E a Ff Xf 67) H) : va_at E.1 cls (ad (fE E a) 67, cel (fE E a) Xf 67) H := h
theorem fn_68 {E : En} {a : Nat → Nat} {H : Heap} (h : va_at E.1 cls (a 68, celg E a Ff Xf 68) H) : va_at E.1 cls (ad (fE E a) 68, cel (fE E a) Xf 68) H := h
theorem fn_69 {E : En} {a : Nat → Nat} {H : Heap} (h : va_at E.1 cls (a 69, celg E a Ff Xf 69) H) : va_at E.1 cls (ad (fE E a) 69, cel (fE E a) Xf 69) H := h
theorem fn_70 {E : En} {a : Nat → Nat} {H : Heap} (h : va_at E.1 cls (a 70, celg E a Ff Xf 70) H) : va_at E.1 cls (ad (fE E a) 70, cel (fE E a) Xf 70) H := h
theorem fn_71 {E : En} {a : Nat → Nat} {H : Heap} (h : va_at E.1 cls (a 71, celg E a Ff Xf 71) H) : va_at E.1 cls (ad (fE E a) 71, cel (fE E a) Xf 71) H := h
theorem fn_72 {E : En} {a : Nat → Nat} {H : Heap} (h : va_at E.1 cls (a 72, celg E a Ff Xf 72) H) : va_at E.1 cls (ad (fE E a) 72, cel (fE E a) Xf 72) H := h
theorem fn_73 {E : En} {a : Nat → Nat} {H : Heap} (h : va_at E.1 cls (a 73, celg E a Ff Xf 73) H) : va_at E.1 cls (ad (fE E a) 73, cel (fE E a) Xf 73) H := h
theorem fn_74 {E : En} {a : Nat → Nat} {H : Heap} (h : va_at E.1 cls (a 74, celg E a Ff Xf 74) H) : va_at E.1 cls (ad (fE E a) 74, cel (fE E a) Xf 74) H := h
theorem fn_75 {E : En} {a : Nat → Nat} {H : Heap} (h : va_at E.1 cls (a 75, celg E a Ff Xf 75) H) : va_at E.1 cls (ad (fE E a) 75, cel (fE E a) Xf 75) H := h
theorem fn_76 {E : En} {a : Nat → Nat} {H : Heap} (h : va_at E.1 cls (a 76, celg E a Ff Xf 76) H) : va_at E.1 cls (ad (fE E a) 76, cel (fE E a) Xf 76) H := h
theorem fn_77 {E : En} {a : Nat → Nat} {H : Heap} (h : va_at E.1 cls (a 77, celg E a Ff Xf 77) H) : va_at E.1 cls (ad (fE E a) 77, cel (fE E a) Xf 77) H := h
theorem fn_78 {E : En} {a : Nat → Nat} {H : Heap} (h : va_at E.1 cls (a 78, celg E a Ff Xf 78) H) : va_at E.1 cls (ad (fE E a) 78, cel (fE E a) Xf 78) H := h
theorem fn_79 {E : En} {a : Nat → Nat} {H : Heap} (h : va_at E.1 cls (a 79, celg E a Ff Xf 79) H) : va_at E.1 cls (ad (fE E a) 79, cel (fE E a) Xf 79) H := h
theorem fn_all {E : En} {a : Nat → Nat} {H : Heap} : ∀ k, k < 80 → va_at E.1 cls (a k, celg E a Ff Xf k) H → va_at E.1 cls (ad (fE E a) k, cel (fE E a) Xf k) H
  | 0, _, h => fn_0 h
  | 1, _, h => fn_1 h
  | 2, _, h => fn_2 h
  | 3, _, h => fn_3 h
  | 4, _, h => fn_4 h
  | 5, _, h => fn_5 h
  | 6, _, h => fn_6 h
  | 7, _, h => fn_7 h
  | 8, _, h => fn_8 h
  | 9, _, h => fn_9 h
  | 10, _, h => fn_10 h
  | 11, _, h => fn_11 h
  | 12, _, h => fn_12 h
  | 13, _, h => fn_13 h
  | 14, _, h => fn_14 h
  | 15, _, h => fn_15 h
  | 16, _, h => fn_16 h
  | 17, _, h => fn_17 h
  | 18, _, h => fn_18 h
  | 19, _, h => fn_19 h
  | 20, _, h => fn_20 h
  | 21, _, h => fn_21 h
  | 22, _, h => fn_22 h
  | 23, _, h => fn_23 h
  | 24, _, h => fn_24 h
  | 25, _, h => fn_25 h
  | 26, _, h => fn_26 h
  | 27, _, h => fn_27 h
  | 28, _, h => fn_28 h
  | 29, _, h => fn_29 h
  | 30, _, h => fn_30 h
  | 31, _, h => fn_31 h
  | 32, _, h => fn_32 h
  | 33, _, h => fn_33 h
  | 34, _, h => fn_34 h
  | 35, _, h => fn_35 h
  | 36, _, h => fn_36 h
  | 37, _, h => fn_37 h
  | 38, _, h => fn_38 h
  | 39, _, h => fn_39 h
  | 40, _, h => fn_40 h
  | 41, _, h => fn_41 h
  | 42, _, h => fn_42 h
  | 43, _, h => fn_43 h
  | 44, _, h => fn_44 h
  | 45, _, h => fn_45 h
  | 46, _, h => fn_46 h
  | 47, _, h => fn_47 h
  | 48, _, h => fn_48 h
  | 49, _, h => fn_49 h
  | 50, _, h => fn_50 h
  | 51, _, h => fn_51 h
  | 52, _, h => fn_52 h
  | 53, _, h => fn_53 h
  | 54, _, h => fn_54 h
  | 55, _, h => fn_55 h
  | 56, _, h => fn_56 h
  | 57, _, h => fn_57 h
  | 58, _, h => fn_58 h
  | 59, _, h => fn_59 h
  | 60, _, h => fn_60 h
  | 61, _, h => fn_61 h
  | 62, _, h => fn_62 h
  | 63, _, h => fn_63 h
  | 64, _, h => fn_64 h
  | 65, _, h => fn_65 h
  | 66, _, h => fn_66 h
  | 67, _, h => fn_67 h
  | 68, _, h => fn_68 h
  | 69, _, h => fn_69 h
  | 70, _, h => fn_70 h
  | 71, _, h => fn_71 h
  | 72, _, h => fn_72 h
  | 73, _, h => fn_73 h
  | 74, _, h => fn_74 h
  | 75, _, h => fn_75 h
  | 76, _, h => fn_76 h
  | 77, _, h => fn_77 h
  | 78, _, h => fn_78 h
  | 79, _, h => fn_79 h
  | n + 80, h, _ => absurd h (by omega)
theorem fn_P {E : En} {a : Nat → Nat} {H : Heap} (h : va_P E.1 cls (wlg E 80 a Ff Xf) H) : va_P E.1 cls (wl (fE E a) Xf) H := by
  intro k q hq
  have hk : k < 80 := by
    have := (List.getElem?_eq_some_iff.mp hq).1
    unfold wl at this
    simpa using this
  rw [wl_get hk] at hq
  cases hq
  exact fn_all k hk (h k _ (wlg_get hk))
section SR
variable {s : State} {b : Nat}
def tmS (i : Nat) : Term := Term.string (so i) (si i)
theorem sx_ex (hg : (Jvm.Cond.and given_1 narrow_1).before #[Value.ref b] s = true) : ∀ i : Nat, i < 11 → (Cond.exactly (tmS i) "java/lang/String").before #[Value.ref b] s = true
  | 0, _ => flat_of_before _ hg (Cond.exactly (Term.string "TideLoans$Tape" 61) "java/lang/String") (by decide +kernel)
  | 1, _ => flat_of_before _ hg (Cond.exactly (Term.string "TideLoans$Tape" 63) "java/lang/String") (by decide +kernel)
  | 2, _ => flat_of_before _ hg (Cond.exactly (Term.string "TideLoans$Tape" 65) "java/lang/String") (by decide +kernel)
  | 3, _ => flat_of_before _ hg (Cond.exactly (Term.string "TideLoans$Tape" 67) "java/lang/String") (by decide +kernel)
  | 4, _ => flat_of_before _ hg (Cond.exactly (Term.string "TideLoans$Tape" 69) "java/lang/String") (by decide +kernel)
  | 5, _ => flat_of_before _ hg (Cond.exactly (Term.string "TideLoans$Tape" 71) "java/lang/String") (by decide +kernel)
  | 6, _ => flat_of_before _ hg (Cond.exactly (Term.string "TideLoans" 377) "java/lang/String") (by decide +kernel)
  | 7, _ => flat_of_before _ hg (Cond.exactly (Term.string "TideLoans" 392) "java/lang/String") (by decide +kernel)
  | 8, _ => flat_of_before _ hg (Cond.exactly (Term.string "TideLoans" 393) "java/lang/String") (by decide +kernel)
  | 9, _ => flat_of_before _ hg (Cond.exactly (Term.string "TideLoans" 364) "java/lang/String") (by decide +kernel)
  | 10, _ => flat_of_before _ hg (Cond.exactly (Term.string "TideLoans" 373) "java/lang/String") (by decide +kernel)
  | n + 11, h => absurd h (by omega)
theorem sx_co (hg : (Jvm.Cond.and given_1 narrow_1).before #[Value.ref b] s = true) : ∀ i : Nat, i < 11 → (Cond.eq (.field (tmS i) "java/lang/String" "coder" "B") (.int 0)).before #[Value.ref b] s = true
  | 0, _ => flat_of_before _ hg (Cond.eq (.field (Term.string "TideLoans$Tape" 61) "java/lang/String" "coder" "B") (.int 0)) (by decide +kernel)
  | 1, _ => flat_of_before _ hg (Cond.eq (.field (Term.string "TideLoans$Tape" 63) "java/lang/String" "coder" "B") (.int 0)) (by decide +kernel)
  | 2, _ => flat_of_before _ hg (Cond.eq (.field (Term.string "TideLoans$Tape" 65) "java/lang/String" "coder" "B") (.int 0)) (by decide +kernel)
  | 3, _ => flat_of_before _ hg (Cond.eq (.field (Term.string "TideLoans$Tape" 67) "java/lang/String" "coder" "B") (.int 0)) (by decide +kernel)
  | 4, _ => flat_of_before _ hg (Cond.eq (.field (Term.string "TideLoans$Tape" 69) "java/lang/String" "coder" "B") (.int 0)) (by decide +kernel)
  | 5, _ => flat_of_before _ hg (Cond.eq (.field (Term.string "TideLoans$Tape" 71) "java/lang/String" "coder" "B") (.int 0)) (by decide +kernel)
  | 6, _ => flat_of_before _ hg (Cond.eq (.field (Term.string "TideLoans" 377) "java/lang/String" "coder" "B") (.int 0)) (by decide +kernel)
  | 7, _ => flat_of_before _ hg (Cond.eq (.field (Term.string "TideLoans" 392) "java/lang/String" "coder" "B") (.int 0)) (by decide +kernel)
  | 8, _ => flat_of_before _ hg (Cond.eq (.field (Term.string "TideLoans" 393) "java/lang/String" "coder" "B") (.int 0)) (by decide +kernel)
  | 9, _ => flat_of_before _ hg (Cond.eq (.field (Term.string "TideLoans" 364) "java/lang/String" "coder" "B") (.int 0)) (by decide +kernel)
  | 10, _ => flat_of_before _ hg (Cond.eq (.field (Term.string "TideLoans" 373) "java/lang/String" "coder" "B") (.int 0)) (by decide +kernel)
  | n + 11, h => absurd h (by omega)
theorem sx_ar (hg : (Jvm.Cond.and given_1 narrow_1).before #[Value.ref b] s = true) : ∀ i : Nat, i < 11 → (Cond.arrayOf (.field (tmS i) "java/lang/String" "value" "[B") .byte).before #[Value.ref b] s = true
  | 0, _ => flat_of_before _ hg (Cond.arrayOf (Term.field (Term.string "TideLoans$Tape" 61) "java/lang/String" "value" "[B") .byte) (by decide +kernel)
  | 1, _ => flat_of_before _ hg (Cond.arrayOf (Term.field (Term.string "TideLoans$Tape" 63) "java/lang/String" "value" "[B") .byte) (by decide +kernel)
  | 2, _ => flat_of_before _ hg (Cond.arrayOf (Term.field (Term.string "TideLoans$Tape" 65) "java/lang/String" "value" "[B") .byte) (by decide +kernel)
  | 3, _ => flat_of_before _ hg (Cond.arrayOf (Term.field (Term.string "TideLoans$Tape" 67) "java/lang/String" "value" "[B") .byte) (by decide +kernel)
  | 4, _ => flat_of_before _ hg (Cond.arrayOf (Term.field (Term.string "TideLoans$Tape" 69) "java/lang/String" "value" "[B") .byte) (by decide +kernel)
  | 5, _ => flat_of_before _ hg (Cond.arrayOf (Term.field (Term.string "TideLoans$Tape" 71) "java/lang/String" "value" "[B") .byte) (by decide +kernel)
  | 6, _ => flat_of_before _ hg (Cond.arrayOf (Term.field (Term.string "TideLoans" 377) "java/lang/String" "value" "[B") .byte) (by decide +kernel)
  | 7, _ => flat_of_before _ hg (Cond.arrayOf (Term.field (Term.string "TideLoans" 392) "java/lang/String" "value" "[B") .byte) (by decide +kernel)
  | 8, _ => flat_of_before _ hg (Cond.arrayOf (Term.field (Term.string "TideLoans" 393) "java/lang/String" "value" "[B") .byte) (by decide +kernel)
  | 9, _ => flat_of_before _ hg (Cond.arrayOf (Term.field (Term.string "TideLoans" 364) "java/lang/String" "value" "[B") .byte) (by decide +kernel)
  | 10, _ => flat_of_before _ hg (Cond.arrayOf (Term.field (Term.string "TideLoans" 373) "java/lang/String" "value" "[B") .byte) (by decide +kernel)
  | n + 11, h => absurd h (by omega)
theorem sx_le (hg : (Jvm.Cond.and given_1 narrow_1).before #[Value.ref b] s = true) : ∀ i : Nat, i < 11 → (Cond.eq (.length (.field (tmS i) "java/lang/String" "value" "[B")) (.int (Int32.ofNat (slen.getD i 0)))).before #[Value.ref b] s = true
  | 0, _ => flat_of_before _ hg (Cond.eq (.length (Term.field (Term.string "TideLoans$Tape" 61) "java/lang/String" "value" "[B")) (.int 5)) (by decide +kernel)
  | 1, _ => flat_of_before _ hg (Cond.eq (.length (Term.field (Term.string "TideLoans$Tape" 63) "java/lang/String" "value" "[B")) (.int 6)) (by decide +kernel)
  | 2, _ => flat_of_before _ hg (Cond.eq (.length (Term.field (Term.string "TideLoans$Tape" 65) "java/lang/String" "value" "[B")) (.int 8)) (by decide +kernel)
  | 3, _ => flat_of_before _ hg (Cond.eq (.length (Term.field (Term.string "TideLoans$Tape" 67) "java/lang/String" "value" "[B")) (.int 5)) (by decide +kernel)
  | 4, _ => flat_of_before _ hg (Cond.eq (.length (Term.field (Term.string "TideLoans$Tape" 69) "java/lang/String" "value" "[B")) (.int 5)) (by decide +kernel)
  | 5, _ => flat_of_before _ hg (Cond.eq (.length (Term.field (Term.string "TideLoans$Tape" 71) "java/lang/String" "value" "[B")) (.int 5)) (by decide +kernel)
  | 6, _ => flat_of_before _ hg (Cond.eq (.length (Term.field (Term.string "TideLoans" 377) "java/lang/String" "value" "[B")) (.int 2)) (by decide +kernel)
  | 7, _ => flat_of_before _ hg (Cond.eq (.length (Term.field (Term.string "TideLoans" 392) "java/lang/String" "value" "[B")) (.int 5)) (by decide +kernel)
  | 8, _ => flat_of_before _ hg (Cond.eq (.length (Term.field (Term.string "TideLoans" 393) "java/lang/String" "value" "[B")) (.int 2)) (by decide +kernel)
  | 9, _ => flat_of_before _ hg (Cond.eq (.length (Term.field (Term.string "TideLoans" 364) "java/lang/String" "value" "[B")) (.int 6)) (by decide +kernel)
  | 10, _ => flat_of_before _ hg (Cond.eq (.length (Term.field (Term.string "TideLoans" 373) "java/lang/String" "value" "[B")) (.int 8)) (by decide +kernel)
  | n + 11, h => absurd h (by omega)
theorem sx_el (hg : (Jvm.Cond.and given_1 narrow_1).before #[Value.ref b] s = true) : ∀ i : Nat, i < 11 → ∀ j : Nat, j < slen.getD i 0 → (Cond.eq (.elem (.field (tmS i) "java/lang/String" "value" "[B") (.int (Int32.ofNat j))) (.int ((sbyt.getD i []).getD j 0))).before #[Value.ref b] s = true
  | 0, _, 0, _ => flat_of_before _ hg (Cond.eq (.elem (Term.field (Term.string "TideLoans$Tape" 61) "java/lang/String" "value" "[B") (.int 0)) (.int 110)) (by decide +kernel)
  | 0, _, 1, _ => flat_of_before _ hg (Cond.eq (.elem (Term.field (Term.string "TideLoans$Tape" 61) "java/lang/String" "value" "[B") (.int 1)) (.int 97)) (by decide +kernel)
  | 0, _, 2, _ => flat_of_before _ hg (Cond.eq (.elem (Term.field (Term.string "TideLoans$Tape" 61) "java/lang/String" "value" "[B") (.int 2)) (.int 109)) (by decide +kernel)
  | 0, _, 3, _ => flat_of_before _ hg (Cond.eq (.elem (Term.field (Term.string "TideLoans$Tape" 61) "java/lang/String" "value" "[B") (.int 3)) (.int 101)) (by decide +kernel)
  | 0, _, 4, _ => flat_of_before _ hg (Cond.eq (.elem (Term.field (Term.string "TideLoans$Tape" 61) "java/lang/String" "value" "[B") (.int 4)) (.int 100)) (by decide +kernel)
  | 0, _, n + 5, h => absurd h (Nat.not_lt.mpr (Nat.le_add_left 5 n))
  | 1, _, 0, _ => flat_of_before _ hg (Cond.eq (.elem (Term.field (Term.string "TideLoans$Tape" 63) "java/lang/String" "value" "[B") (.int 0)) (.int 103)) (by decide +kernel)
  | 1, _, 1, _ => flat_of_before _ hg (Cond.eq (.elem (Term.field (Term.string "TideLoans$Tape" 63) "java/lang/String" "value" "[B") (.int 1)) (.int 114)) (by decide +kernel)
  | 1, _, 2, _ => flat_of_before _ hg (Cond.eq (.elem (Term.field (Term.string "TideLoans$Tape" 63) "java/lang/String" "value" "[B") (.int 2)) (.int 117)) (by decide +kernel)
  | 1, _, 3, _ => flat_of_before _ hg (Cond.eq (.elem (Term.field (Term.string "TideLoans$Tape" 63) "java/lang/String" "value" "[B") (.int 3)) (.int 100)) (by decide +kernel)
  | 1, _, 4, _ => flat_of_before _ hg (Cond.eq (.elem (Term.field (Term.string "TideLoans$Tape" 63) "java/lang/String" "value" "[B") (.int 4)) (.int 103)) (by decide +kernel)
  | 1, _, 5, _ => flat_of_before _ hg (Cond.eq (.elem (Term.field (Term.string "TideLoans$Tape" 63) "java/lang/String" "value" "[B") (.int 5)) (.int 101)) (by decide +kernel)
  | 1, _, n + 6, h => absurd h (Nat.not_lt.mpr (Nat.le_add_left 6 n))
  | 2, _, 0, _ => flat_of_before _ hg (Cond.eq (.elem (Term.field (Term.string "TideLoans$Tape" 65) "java/lang/String" "value" "[B") (.int 0)) (.int 109)) (by decide +kernel)
  | 2, _, 1, _ => flat_of_before _ hg (Cond.eq (.elem (Term.field (Term.string "TideLoans$Tape" 65) "java/lang/String" "value" "[B") (.int 1)) (.int 111)) (by decide +kernel)
  | 2, _, 2, _ => flat_of_before _ hg (Cond.eq (.elem (Term.field (Term.string "TideLoans$Tape" 65) "java/lang/String" "value" "[B") (.int 2)) (.int 111)) (by decide +kernel)
  | 2, _, 3, _ => flat_of_before _ hg (Cond.eq (.elem (Term.field (Term.string "TideLoans$Tape" 65) "java/lang/String" "value" "[B") (.int 3)) (.int 110)) (by decide +kernel)
  | 2, _, 4, _ => flat_of_before _ hg (Cond.eq (.elem (Term.field (Term.string "TideLoans$Tape" 65) "java/lang/String" "value" "[B") (.int 4)) (.int 108)) (by decide +kernel)
  | 2, _, 5, _ => flat_of_before _ hg (Cond.eq (.elem (Term.field (Term.string "TideLoans$Tape" 65) "java/lang/String" "value" "[B") (.int 5)) (.int 101)) (by decide +kernel)
  | 2, _, 6, _ => flat_of_before _ hg (Cond.eq (.elem (Term.field (Term.string "TideLoans$Tape" 65) "java/lang/String" "value" "[B") (.int 6)) (.int 115)) (by decide +kernel)
  | 2, _, 7, _ => flat_of_before _ hg (Cond.eq (.elem (Term.field (Term.string "TideLoans$Tape" 65) "java/lang/String" "value" "[B") (.int 7)) (.int 115)) (by decide +kernel)
  | 2, _, n + 8, h => absurd h (Nat.not_lt.mpr (Nat.le_add_left 8 n))
  | 3, _, 0, _ => flat_of_before _ hg (Cond.eq (.elem (Term.field (Term.string "TideLoans$Tape" 67) "java/lang/String" "value" "[B") (.int 0)) (.int 116)) (by decide +kernel)
  | 3, _, 1, _ => flat_of_before _ hg (Cond.eq (.elem (Term.field (Term.string "TideLoans$Tape" 67) "java/lang/String" "value" "[B") (.int 1)) (.int 119)) (by decide +kernel)
  | 3, _, 2, _ => flat_of_before _ hg (Cond.eq (.elem (Term.field (Term.string "TideLoans$Tape" 67) "java/lang/String" "value" "[B") (.int 2)) (.int 105)) (by decide +kernel)
  | 3, _, 3, _ => flat_of_before _ hg (Cond.eq (.elem (Term.field (Term.string "TideLoans$Tape" 67) "java/lang/String" "value" "[B") (.int 3)) (.int 99)) (by decide +kernel)
  | 3, _, 4, _ => flat_of_before _ hg (Cond.eq (.elem (Term.field (Term.string "TideLoans$Tape" 67) "java/lang/String" "value" "[B") (.int 4)) (.int 101)) (by decide +kernel)
  | 3, _, n + 5, h => absurd h (Nat.not_lt.mpr (Nat.le_add_left 5 n))
  | 4, _, 0, _ => flat_of_before _ hg (Cond.eq (.elem (Term.field (Term.string "TideLoans$Tape" 69) "java/lang/String" "value" "[B") (.int 0)) (.int 103)) (by decide +kernel)
  | 4, _, 1, _ => flat_of_before _ hg (Cond.eq (.elem (Term.field (Term.string "TideLoans$Tape" 69) "java/lang/String" "value" "[B") (.int 1)) (.int 108)) (by decide +kernel)
  | 4, _, 2, _ => flat_of_before _ hg (Cond.eq (.elem (Term.field (Term.string "TideLoans$Tape" 69) "java/lang/String" "value" "[B") (.int 2)) (.int 97)) (by decide +kernel)
  | 4, _, 3, _ => flat_of_before _ hg (Cond.eq (.elem (Term.field (Term.string "TideLoans$Tape" 69) "java/lang/String" "value" "[B") (.int 3)) (.int 115)) (by decide +kernel)
  | 4, _, 4, _ => flat_of_before _ hg (Cond.eq (.elem (Term.field (Term.string "TideLoans$Tape" 69) "java/lang/String" "value" "[B") (.int 4)) (.int 115)) (by decide +kernel)
  | 4, _, n + 5, h => absurd h (Nat.not_lt.mpr (Nat.le_add_left 5 n))
  | 5, _, 0, _ => flat_of_before _ hg (Cond.eq (.elem (Term.field (Term.string "TideLoans$Tape" 71) "java/lang/String" "value" "[B") (.int 0)) (.int 99)) (by decide +kernel)
  | 5, _, 1, _ => flat_of_before _ hg (Cond.eq (.elem (Term.field (Term.string "TideLoans$Tape" 71) "java/lang/String" "value" "[B") (.int 1)) (.int 104)) (by decide +kernel)
  | 5, _, 2, _ => flat_of_before _ hg (Cond.eq (.elem (Term.field (Term.string "TideLoans$Tape" 71) "java/lang/String" "value" "[B") (.int 2)) (.int 97)) (by decide +kernel)
  | 5, _, 3, _ => flat_of_before _ hg (Cond.eq (.elem (Term.field (Term.string "TideLoans$Tape" 71) "java/lang/String" "value" "[B") (.int 3)) (.int 105)) (by decide +kernel)
  | 5, _, 4, _ => flat_of_before _ hg (Cond.eq (.elem (Term.field (Term.string "TideLoans$Tape" 71) "java/lang/String" "value" "[B") (.int 4)) (.int 114)) (by decide +kernel)
  | 5, _, n + 5, h => absurd h (Nat.not_lt.mpr (Nat.le_add_left 5 n))
  | 6, _, 0, _ => flat_of_before _ hg (Cond.eq (.elem (Term.field (Term.string "TideLoans" 377) "java/lang/String" "value" "[B") (.int 0)) (.int 111)) (by decide +kernel)
  | 6, _, 1, _ => flat_of_before _ hg (Cond.eq (.elem (Term.field (Term.string "TideLoans" 377) "java/lang/String" "value" "[B") (.int 1)) (.int 102)) (by decide +kernel)
  | 6, _, n + 2, h => absurd h (Nat.not_lt.mpr (Nat.le_add_left 2 n))
  | 7, _, 0, _ => flat_of_before _ hg (Cond.eq (.elem (Term.field (Term.string "TideLoans" 392) "java/lang/String" "value" "[B") (.int 0)) (.int 119)) (by decide +kernel)
  | 7, _, 1, _ => flat_of_before _ hg (Cond.eq (.elem (Term.field (Term.string "TideLoans" 392) "java/lang/String" "value" "[B") (.int 1)) (.int 111)) (by decide +kernel)
  | 7, _, 2, _ => flat_of_before _ hg (Cond.eq (.elem (Term.field (Term.string "TideLoans" 392) "java/lang/String" "value" "[B") (.int 2)) (.int 114)) (by decide +kernel)
  | 7, _, 3, _ => flat_of_before _ hg (Cond.eq (.elem (Term.field (Term.string "TideLoans" 392) "java/lang/String" "value" "[B") (.int 3)) (.int 116)) (by decide +kernel)
  | 7, _, 4, _ => flat_of_before _ hg (Cond.eq (.elem (Term.field (Term.string "TideLoans" 392) "java/lang/String" "value" "[B") (.int 4)) (.int 104)) (by decide +kernel)
  | 7, _, n + 5, h => absurd h (Nat.not_lt.mpr (Nat.le_add_left 5 n))
  | 8, _, 0, _ => flat_of_before _ hg (Cond.eq (.elem (Term.field (Term.string "TideLoans" 393) "java/lang/String" "value" "[B") (.int 0)) (.int 97)) (by decide +kernel)
  | 8, _, 1, _ => flat_of_before _ hg (Cond.eq (.elem (Term.field (Term.string "TideLoans" 393) "java/lang/String" "value" "[B") (.int 1)) (.int 116)) (by decide +kernel)
  | 8, _, n + 2, h => absurd h (Nat.not_lt.mpr (Nat.le_add_left 2 n))
  | 9, _, 0, _ => flat_of_before _ hg (Cond.eq (.elem (Term.field (Term.string "TideLoans" 364) "java/lang/String" "value" "[B") (.int 0)) (.int 104)) (by decide +kernel)
  | 9, _, 1, _ => flat_of_before _ hg (Cond.eq (.elem (Term.field (Term.string "TideLoans" 364) "java/lang/String" "value" "[B") (.int 1)) (.int 101)) (by decide +kernel)
  | 9, _, 2, _ => flat_of_before _ hg (Cond.eq (.elem (Term.field (Term.string "TideLoans" 364) "java/lang/String" "value" "[B") (.int 2)) (.int 105)) (by decide +kernel)
  | 9, _, 3, _ => flat_of_before _ hg (Cond.eq (.elem (Term.field (Term.string "TideLoans" 364) "java/lang/String" "value" "[B") (.int 3)) (.int 103)) (by decide +kernel)
  | 9, _, 4, _ => flat_of_before _ hg (Cond.eq (.elem (Term.field (Term.string "TideLoans" 364) "java/lang/String" "value" "[B") (.int 4)) (.int 104)) (by decide +kernel)
  | 9, _, 5, _ => flat_of_before _ hg (Cond.eq (.elem (Term.field (Term.string "TideLoans" 364) "java/lang/String" "value" "[B") (.int 5)) (.int 116)) (by decide +kernel)
  | 9, _, n + 6, h => absurd h (Nat.not_lt.mpr (Nat.le_add_left 6 n))
  | 10, _, 0, _ => flat_of_before _ hg (Cond.eq (.elem (Term.field (Term.string "TideLoans" 373) "java/lang/String" "value" "[B") (.int 0)) (.int 105)) (by decide +kernel)
  | 10, _, 1, _ => flat_of_before _ hg (Cond.eq (.elem (Term.field (Term.string "TideLoans" 373) "java/lang/String" "value" "[B") (.int 1)) (.int 110)) (by decide +kernel)
  | 10, _, 2, _ => flat_of_before _ hg (Cond.eq (.elem (Term.field (Term.string "TideLoans" 373) "java/lang/String" "value" "[B") (.int 2)) (.int 116)) (by decide +kernel)
  | 10, _, 3, _ => flat_of_before _ hg (Cond.eq (.elem (Term.field (Term.string "TideLoans" 373) "java/lang/String" "value" "[B") (.int 3)) (.int 101)) (by decide +kernel)
  | 10, _, 4, _ => flat_of_before _ hg (Cond.eq (.elem (Term.field (Term.string "TideLoans" 373) "java/lang/String" "value" "[B") (.int 4)) (.int 114)) (by decide +kernel)
  | 10, _, 5, _ => flat_of_before _ hg (Cond.eq (.elem (Term.field (Term.string "TideLoans" 373) "java/lang/String" "value" "[B") (.int 5)) (.int 101)) (by decide +kernel)
  | 10, _, 6, _ => flat_of_before _ hg (Cond.eq (.elem (Term.field (Term.string "TideLoans" 373) "java/lang/String" "value" "[B") (.int 6)) (.int 115)) (by decide +kernel)
  | 10, _, 7, _ => flat_of_before _ hg (Cond.eq (.elem (Term.field (Term.string "TideLoans" 373) "java/lang/String" "value" "[B") (.int 7)) (.int 116)) (by decide +kernel)
  | 10, _, n + 8, h => absurd h (Nat.not_lt.mpr (Nat.le_add_left 8 n))
  | n + 11, h, _, _ => absurd h (by omega)
theorem sx_ne (hg : (Jvm.Cond.and given_1 narrow_1).before #[Value.ref b] s = true) : ∀ i j : Nat, i < 11 → j < 11 → i ≠ j → (Cond.not (Cond.eq (tmS i) (tmS j))).before #[Value.ref b] s = true ∨ (Cond.not (Cond.eq (tmS j) (tmS i))).before #[Value.ref b] s = true
  | 0, 0, _, _, h => absurd rfl h
  | 0, 1, _, _, _ => Or.inl (flat_of_before _ hg (Cond.not (Cond.eq (Term.string "TideLoans$Tape" 61) (Term.string "TideLoans$Tape" 63))) (by decide +kernel))
  | 0, 2, _, _, _ => Or.inl (flat_of_before _ hg (Cond.not (Cond.eq (Term.string "TideLoans$Tape" 61) (Term.string "TideLoans$Tape" 65))) (by decide +kernel))
  | 0, 3, _, _, _ => Or.inl (flat_of_before _ hg (Cond.not (Cond.eq (Term.string "TideLoans$Tape" 61) (Term.string "TideLoans$Tape" 67))) (by decide +kernel))
  | 0, 4, _, _, _ => Or.inl (flat_of_before _ hg (Cond.not (Cond.eq (Term.string "TideLoans$Tape" 61) (Term.string "TideLoans$Tape" 69))) (by decide +kernel))
  | 0, 5, _, _, _ => Or.inl (flat_of_before _ hg (Cond.not (Cond.eq (Term.string "TideLoans$Tape" 61) (Term.string "TideLoans$Tape" 71))) (by decide +kernel))
  | 0, 6, _, _, _ => Or.inl (flat_of_before _ hg (Cond.not (Cond.eq (Term.string "TideLoans$Tape" 61) (Term.string "TideLoans" 377))) (by decide +kernel))
  | 0, 7, _, _, _ => Or.inl (flat_of_before _ hg (Cond.not (Cond.eq (Term.string "TideLoans$Tape" 61) (Term.string "TideLoans" 392))) (by decide +kernel))
  | 0, 8, _, _, _ => Or.inl (flat_of_before _ hg (Cond.not (Cond.eq (Term.string "TideLoans$Tape" 61) (Term.string "TideLoans" 393))) (by decide +kernel))
  | 0, 9, _, _, _ => Or.inl (flat_of_before _ hg (Cond.not (Cond.eq (Term.string "TideLoans$Tape" 61) (Term.string "TideLoans" 364))) (by decide +kernel))
  | 0, 10, _, _, _ => Or.inl (flat_of_before _ hg (Cond.not (Cond.eq (Term.string "TideLoans$Tape" 61) (Term.string "TideLoans" 373))) (by decide +kernel))
  | 0, n + 11, _, h, _ => absurd h (by omega)
  | 1, 0, _, _, _ => Or.inr (flat_of_before _ hg (Cond.not (Cond.eq (Term.string "TideLoans$Tape" 61) (Term.string "TideLoans$Tape" 63))) (by decide +kernel))
  | 1, 1, _, _, h => absurd rfl h
  | 1, 2, _, _, _ => Or.inl (flat_of_before _ hg (Cond.not (Cond.eq (Term.string "TideLoans$Tape" 63) (Term.string "TideLoans$Tape" 65))) (by decide +kernel))
  | 1, 3, _, _, _ => Or.inl (flat_of_before _ hg (Cond.not (Cond.eq (Term.string "TideLoans$Tape" 63) (Term.string "TideLoans$Tape" 67))) (by decide +kernel))
  | 1, 4, _, _, _ => Or.inl (flat_of_before _ hg (Cond.not (Cond.eq (Term.string "TideLoans$Tape" 63) (Term.string "TideLoans$Tape" 69))) (by decide +kernel))
  | 1, 5, _, _, _ => Or.inl (flat_of_before _ hg (Cond.not (Cond.eq (Term.string "TideLoans$Tape" 63) (Term.string "TideLoans$Tape" 71))) (by decide +kernel))
  | 1, 6, _, _, _ => Or.inl (flat_of_before _ hg (Cond.not (Cond.eq (Term.string "TideLoans$Tape" 63) (Term.string "TideLoans" 377))) (by decide +kernel))
  | 1, 7, _, _, _ => Or.inl (flat_of_before _ hg (Cond.not (Cond.eq (Term.string "TideLoans$Tape" 63) (Term.string "TideLoans" 392))) (by decide +kernel))
  | 1, 8, _, _, _ => Or.inl (flat_of_before _ hg (Cond.not (Cond.eq (Term.string "TideLoans$Tape" 63) (Term.string "TideLoans" 393))) (by decide +kernel))
  | 1, 9, _, _, _ => Or.inl (flat_of_before _ hg (Cond.not (Cond.eq (Term.string "TideLoans$Tape" 63) (Term.string "TideLoans" 364))) (by decide +kernel))
  | 1, 10, _, _, _ => Or.inl (flat_of_before _ hg (Cond.not (Cond.eq (Term.string "TideLoans$Tape" 63) (Term.string "TideLoans" 373))) (by decide +kernel))
  | 1, n + 11, _, h, _ => absurd h (by omega)
  | 2, 0, _, _, _ => Or.inr (flat_of_before _ hg (Cond.not (Cond.eq (Term.string "TideLoans$Tape" 61) (Term.string "TideLoans$Tape" 65))) (by decide +kernel))
  | 2, 1, _, _, _ => Or.inr (flat_of_before _ hg (Cond.not (Cond.eq (Term.string "TideLoans$Tape" 63) (Term.string "TideLoans$Tape" 65))) (by decide +kernel))
  | 2, 2, _, _, h => absurd rfl h
  | 2, 3, _, _, _ => Or.inl (flat_of_before _ hg (Cond.not (Cond.eq (Term.string "TideLoans$Tape" 65) (Term.string "TideLoans$Tape" 67))) (by decide +kernel))
  | 2, 4, _, _, _ => Or.inl (flat_of_before _ hg (Cond.not (Cond.eq (Term.string "TideLoans$Tape" 65) (Term.string "TideLoans$Tape" 69))) (by decide +kernel))
  | 2, 5, _, _, _ => Or.inl (flat_of_before _ hg (Cond.not (Cond.eq (Term.string "TideLoans$Tape" 65) (Term.string "TideLoans$Tape" 71))) (by decide +kernel))
  | 2, 6, _, _, _ => Or.inl (flat_of_before _ hg (Cond.not (Cond.eq (Term.string "TideLoans$Tape" 65) (Term.string "TideLoans" 377))) (by decide +kernel))
  | 2, 7, _, _, _ => Or.inl (flat_of_before _ hg (Cond.not (Cond.eq (Term.string "TideLoans$Tape" 65) (Term.string "TideLoans" 392))) (by decide +kernel))
  | 2, 8, _, _, _ => Or.inl (flat_of_before _ hg (Cond.not (Cond.eq (Term.string "TideLoans$Tape" 65) (Term.string "TideLoans" 393))) (by decide +kernel))
  | 2, 9, _, _, _ => Or.inl (flat_of_before _ hg (Cond.not (Cond.eq (Term.string "TideLoans$Tape" 65) (Term.string "TideLoans" 364))) (by decide +kernel))
  | 2, 10, _, _, _ => Or.inl (flat_of_before _ hg (Cond.not (Cond.eq (Term.string "TideLoans$Tape" 65) (Term.string "TideLoans" 373))) (by decide +kernel))
  | 2, n + 11, _, h, _ => absurd h (by omega)
  | 3, 0, _, _, _ => Or.inr (flat_of_before _ hg (Cond.not (Cond.eq (Term.string "TideLoans$Tape" 61) (Term.string "TideLoans$Tape" 67))) (by decide +kernel))
  | 3, 1, _, _, _ => Or.inr (flat_of_before _ hg (Cond.not (Cond.eq (Term.string "TideLoans$Tape" 63) (Term.string "TideLoans$Tape" 67))) (by decide +kernel))
  | 3, 2, _, _, _ => Or.inr (flat_of_before _ hg (Cond.not (Cond.eq (Term.string "TideLoans$Tape" 65) (Term.string "TideLoans$Tape" 67))) (by decide +kernel))
  | 3, 3, _, _, h => absurd rfl h
  | 3, 4, _, _, _ => Or.inl (flat_of_before _ hg (Cond.not (Cond.eq (Term.string "TideLoans$Tape" 67) (Term.string "TideLoans$Tape" 69))) (by decide +kernel))
  | 3, 5, _, _, _ => Or.inl (flat_of_before _ hg (Cond.not (Cond.eq (Term.string "TideLoans$Tape" 67) (Term.string "TideLoans$Tape" 71))) (by decide +kernel))
  | 3, 6, _, _, _ => Or.inl (flat_of_before _ hg (Cond.not (Cond.eq (Term.string "TideLoans$Tape" 67) (Term.string "TideLoans" 377))) (by decide +kernel))
  | 3, 7, _, _, _ => Or.inl (flat_of_before _ hg (Cond.not (Cond.eq (Term.string "TideLoans$Tape" 67) (Term.string "TideLoans" 392))) (by decide +kernel))
  | 3, 8, _, _, _ => Or.inl (flat_of_before _ hg (Cond.not (Cond.eq (Term.string "TideLoans$Tape" 67) (Term.string "TideLoans" 393))) (by decide +kernel))
  | 3, 9, _, _, _ => Or.inl (flat_of_before _ hg (Cond.not (Cond.eq (Term.string "TideLoans$Tape" 67) (Term.string "TideLoans" 364))) (by decide +kernel))
  | 3, 10, _, _, _ => Or.inl (flat_of_before _ hg (Cond.not (Cond.eq (Term.string "TideLoans$Tape" 67) (Term.string "TideLoans" 373))) (by decide +kernel))
  | 3, n + 11, _, h, _ => absurd h (by omega)
  | 4, 0, _, _, _ => Or.inr (flat_of_before _ hg (Cond.not (Cond.eq (Term.string "TideLoans$Tape" 61) (Term.string "TideLoans$Tape" 69))) (by decide +kernel))
  | 4, 1, _, _, _ => Or.inr (flat_of_before _ hg (Cond.not (Cond.eq (Term.string "TideLoans$Tape" 63) (Term.string "TideLoans$Tape" 69))) (by decide +kernel))
  | 4, 2, _, _, _ => Or.inr (flat_of_before _ hg (Cond.not (Cond.eq (Term.string "TideLoans$Tape" 65) (Term.string "TideLoans$Tape" 69))) (by decide +kernel))
  | 4, 3, _, _, _ => Or.inr (flat_of_before _ hg (Cond.not (Cond.eq (Term.string "TideLoans$Tape" 67) (Term.string "TideLoans$Tape" 69))) (by decide +kernel))
  | 4, 4, _, _, h => absurd rfl h
  | 4, 5, _, _, _ => Or.inl (flat_of_before _ hg (Cond.not (Cond.eq (Term.string "TideLoans$Tape" 69) (Term.string "TideLoans$Tape" 71))) (by decide +kernel))
  | 4, 6, _, _, _ => Or.inl (flat_of_before _ hg (Cond.not (Cond.eq (Term.string "TideLoans$Tape" 69) (Term.string "TideLoans" 377))) (by decide +kernel))
  | 4, 7, _, _, _ => Or.inl (flat_of_before _ hg (Cond.not (Cond.eq (Term.string "TideLoans$Tape" 69) (Term.string "TideLoans" 392))) (by decide +kernel))
  | 4, 8, _, _, _ => Or.inl (flat_of_before _ hg (Cond.not (Cond.eq (Term.string "TideLoans$Tape" 69) (Term.string "TideLoans" 393))) (by decide +kernel))
  | 4, 9, _, _, _ => Or.inl (flat_of_before _ hg (Cond.not (Cond.eq (Term.string "TideLoans$Tape" 69) (Term.string "TideLoans" 364))) (by decide +kernel))
  | 4, 10, _, _, _ => Or.inl (flat_of_before _ hg (Cond.not (Cond.eq (Term.string "TideLoans$Tape" 69) (Term.string "TideLoans" 373))) (by decide +kernel))
  | 4, n + 11, _, h, _ => absurd h (by omega)
  | 5, 0, _, _, _ => Or.inr (flat_of_before _ hg (Cond.not (Cond.eq (Term.string "TideLoans$Tape" 61) (Term.string "TideLoans$Tape" 71))) (by decide +kernel))
  | 5, 1, _, _, _ => Or.inr (flat_of_before _ hg (Cond.not (Cond.eq (Term.string "TideLoans$Tape" 63) (Term.string "TideLoans$Tape" 71))) (by decide +kernel))
  | 5, 2, _, _, _ => Or.inr (flat_of_before _ hg (Cond.not (Cond.eq (Term.string "TideLoans$Tape" 65) (Term.string "TideLoans$Tape" 71))) (by decide +kernel))
  | 5, 3, _, _, _ => Or.inr (flat_of_before _ hg (Cond.not (Cond.eq (Term.string "TideLoans$Tape" 67) (Term.string "TideLoans$Tape" 71))) (by decide +kernel))
  | 5, 4, _, _, _ => Or.inr (flat_of_before _ hg (Cond.not (Cond.eq (Term.string "TideLoans$Tape" 69) (Term.string "TideLoans$Tape" 71))) (by decide +kernel))
  | 5, 5, _, _, h => absurd rfl h
  | 5, 6, _, _, _ => Or.inl (flat_of_before _ hg (Cond.not (Cond.eq (Term.string "TideLoans$Tape" 71) (Term.string "TideLoans" 377))) (by decide +kernel))
  | 5, 7, _, _, _ => Or.inl (flat_of_before _ hg (Cond.not (Cond.eq (Term.string "TideLoans$Tape" 71) (Term.string "TideLoans" 392))) (by decide +kernel))
  | 5, 8, _, _, _ => Or.inl (flat_of_before _ hg (Cond.not (Cond.eq (Term.string "TideLoans$Tape" 71) (Term.string "TideLoans" 393))) (by decide +kernel))
  | 5, 9, _, _, _ => Or.inl (flat_of_before _ hg (Cond.not (Cond.eq (Term.string "TideLoans$Tape" 71) (Term.string "TideLoans" 364))) (by decide +kernel))
  | 5, 10, _, _, _ => Or.inl (flat_of_before _ hg (Cond.not (Cond.eq (Term.string "TideLoans$Tape" 71) (Term.string "TideLoans" 373))) (by decide +kernel))
  | 5, n + 11, _, h, _ => absurd h (by omega)
  | 6, 0, _, _, _ => Or.inr (flat_of_before _ hg (Cond.not (Cond.eq (Term.string "TideLoans$Tape" 61) (Term.string "TideLoans" 377))) (by decide +kernel))
  | 6, 1, _, _, _ => Or.inr (flat_of_before _ hg (Cond.not (Cond.eq (Term.string "TideLoans$Tape" 63) (Term.string "TideLoans" 377))) (by decide +kernel))
  | 6, 2, _, _, _ => Or.inr (flat_of_before _ hg (Cond.not (Cond.eq (Term.string "TideLoans$Tape" 65) (Term.string "TideLoans" 377))) (by decide +kernel))
  | 6, 3, _, _, _ => Or.inr (flat_of_before _ hg (Cond.not (Cond.eq (Term.string "TideLoans$Tape" 67) (Term.string "TideLoans" 377))) (by decide +kernel))
  | 6, 4, _, _, _ => Or.inr (flat_of_before _ hg (Cond.not (Cond.eq (Term.string "TideLoans$Tape" 69) (Term.string "TideLoans" 377))) (by decide +kernel))
  | 6, 5, _, _, _ => Or.inr (flat_of_before _ hg (Cond.not (Cond.eq (Term.string "TideLoans$Tape" 71) (Term.string "TideLoans" 377))) (by decide +kernel))
  | 6, 6, _, _, h => absurd rfl h
  | 6, 7, _, _, _ => Or.inl (flat_of_before _ hg (Cond.not (Cond.eq (Term.string "TideLoans" 377) (Term.string "TideLoans" 392))) (by decide +kernel))
  | 6, 8, _, _, _ => Or.inl (flat_of_before _ hg (Cond.not (Cond.eq (Term.string "TideLoans" 377) (Term.string "TideLoans" 393))) (by decide +kernel))
  | 6, 9, _, _, _ => Or.inl (flat_of_before _ hg (Cond.not (Cond.eq (Term.string "TideLoans" 377) (Term.string "TideLoans" 364))) (by decide +kernel))
  | 6, 10, _, _, _ => Or.inl (flat_of_before _ hg (Cond.not (Cond.eq (Term.string "TideLoans" 377) (Term.string "TideLoans" 373))) (by decide +kernel))
  | 6, n + 11, _, h, _ => absurd h (by omega)
  | 7, 0, _, _, _ => Or.inr (flat_of_before _ hg (Cond.not (Cond.eq (Term.string "TideLoans$Tape" 61) (Term.string "TideLoans" 392))) (by decide +kernel))
  | 7, 1, _, _, _ => Or.inr (flat_of_before _ hg (Cond.not (Cond.eq (Term.string "TideLoans$Tape" 63) (Term.string "TideLoans" 392))) (by decide +kernel))
  | 7, 2, _, _, _ => Or.inr (flat_of_before _ hg (Cond.not (Cond.eq (Term.string "TideLoans$Tape" 65) (Term.string "TideLoans" 392))) (by decide +kernel))
  | 7, 3, _, _, _ => Or.inr (flat_of_before _ hg (Cond.not (Cond.eq (Term.string "TideLoans$Tape" 67) (Term.string "TideLoans" 392))) (by decide +kernel))
  | 7, 4, _, _, _ => Or.inr (flat_of_before _ hg (Cond.not (Cond.eq (Term.string "TideLoans$Tape" 69) (Term.string "TideLoans" 392))) (by decide +kernel))
  | 7, 5, _, _, _ => Or.inr (flat_of_before _ hg (Cond.not (Cond.eq (Term.string "TideLoans$Tape" 71) (Term.string "TideLoans" 392))) (by decide +kernel))
  | 7, 6, _, _, _ => Or.inr (flat_of_before _ hg (Cond.not (Cond.eq (Term.string "TideLoans" 377) (Term.string "TideLoans" 392))) (by decide +kernel))
  | 7, 7, _, _, h => absurd rfl h
  | 7, 8, _, _, _ => Or.inl (flat_of_before _ hg (Cond.not (Cond.eq (Term.string "TideLoans" 392) (Term.string "TideLoans" 393))) (by decide +kernel))
  | 7, 9, _, _, _ => Or.inl (flat_of_before _ hg (Cond.not (Cond.eq (Term.string "TideLoans" 392) (Term.string "TideLoans" 364))) (by decide +kernel))
  | 7, 10, _, _, _ => Or.inl (flat_of_before _ hg (Cond.not (Cond.eq (Term.string "TideLoans" 392) (Term.string "TideLoans" 373))) (by decide +kernel))
  | 7, n + 11, _, h, _ => absurd h (by omega)
  | 8, 0, _, _, _ => Or.inr (flat_of_before _ hg (Cond.not (Cond.eq (Term.string "TideLoans$Tape" 61) (Term.string "TideLoans" 393))) (by decide +kernel))
  | 8, 1, _, _, _ => Or.inr (flat_of_before _ hg (Cond.not (Cond.eq (Term.string "TideLoans$Tape" 63) (Term.string "TideLoans" 393))) (by decide +kernel))
  | 8, 2, _, _, _ => Or.inr (flat_of_before _ hg (Cond.not (Cond.eq (Term.string "TideLoans$Tape" 65) (Term.string "TideLoans" 393))) (by decide +kernel))
  | 8, 3, _, _, _ => Or.inr (flat_of_before _ hg (Cond.not (Cond.eq (Term.string "TideLoans$Tape" 67) (Term.string "TideLoans" 393))) (by decide +kernel))
  | 8, 4, _, _, _ => Or.inr (flat_of_before _ hg (Cond.not (Cond.eq (Term.string "TideLoans$Tape" 69) (Term.string "TideLoans" 393))) (by decide +kernel))
  | 8, 5, _, _, _ => Or.inr (flat_of_before _ hg (Cond.not (Cond.eq (Term.string "TideLoans$Tape" 71) (Term.string "TideLoans" 393))) (by decide +kernel))
  | 8, 6, _, _, _ => Or.inr (flat_of_before _ hg (Cond.not (Cond.eq (Term.string "TideLoans" 377) (Term.string "TideLoans" 393))) (by decide +kernel))
  | 8, 7, _, _, _ => Or.inr (flat_of_before _ hg (Cond.not (Cond.eq (Term.string "TideLoans" 392) (Term.string "TideLoans" 393))) (by decide +kernel))
  | 8, 8, _, _, h => absurd rfl h
  | 8, 9, _, _, _ => Or.inl (flat_of_before _ hg (Cond.not (Cond.eq (Term.string "TideLoans" 393) (Term.string "TideLoans" 364))) (by decide +kernel))
  | 8, 10, _, _, _ => Or.inl (flat_of_before _ hg (Cond.not (Cond.eq (Term.string "TideLoans" 393) (Term.string "TideLoans" 373))) (by decide +kernel))
  | 8, n + 11, _, h, _ => absurd h (by omega)
  | 9, 0, _, _, _ => Or.inr (flat_of_before _ hg (Cond.not (Cond.eq (Term.string "TideLoans$Tape" 61) (Term.string "TideLoans" 364))) (by decide +kernel))
  | 9, 1, _, _, _ => Or.inr (flat_of_before _ hg (Cond.not (Cond.eq (Term.string "TideLoans$Tape" 63) (Term.string "TideLoans" 364))) (by decide +kernel))
  | 9, 2, _, _, _ => Or.inr (flat_of_before _ hg (Cond.not (Cond.eq (Term.string "TideLoans$Tape" 65) (Term.string "TideLoans" 364))) (by decide +kernel))
  | 9, 3, _, _, _ => Or.inr (flat_of_before _ hg (Cond.not (Cond.eq (Term.string "TideLoans$Tape" 67) (Term.string "TideLoans" 364))) (by decide +kernel))
  | 9, 4, _, _, _ => Or.inr (flat_of_before _ hg (Cond.not (Cond.eq (Term.string "TideLoans$Tape" 69) (Term.string "TideLoans" 364))) (by decide +kernel))
  | 9, 5, _, _, _ => Or.inr (flat_of_before _ hg (Cond.not (Cond.eq (Term.string "TideLoans$Tape" 71) (Term.string "TideLoans" 364))) (by decide +kernel))
  | 9, 6, _, _, _ => Or.inr (flat_of_before _ hg (Cond.not (Cond.eq (Term.string "TideLoans" 377) (Term.string "TideLoans" 364))) (by decide +kernel))
  | 9, 7, _, _, _ => Or.inr (flat_of_before _ hg (Cond.not (Cond.eq (Term.string "TideLoans" 392) (Term.string "TideLoans" 364))) (by decide +kernel))
  | 9, 8, _, _, _ => Or.inr (flat_of_before _ hg (Cond.not (Cond.eq (Term.string "TideLoans" 393) (Term.string "TideLoans" 364))) (by decide +kernel))
  | 9, 9, _, _, h => absurd rfl h
  | 9, 10, _, _, _ => Or.inl (flat_of_before _ hg (Cond.not (Cond.eq (Term.string "TideLoans" 364) (Term.string "TideLoans" 373))) (by decide +kernel))
  | 9, n + 11, _, h, _ => absurd h (by omega)
  | 10, 0, _, _, _ => Or.inr (flat_of_before _ hg (Cond.not (Cond.eq (Term.string "TideLoans$Tape" 61) (Term.string "TideLoans" 373))) (by decide +kernel))
  | 10, 1, _, _, _ => Or.inr (flat_of_before _ hg (Cond.not (Cond.eq (Term.string "TideLoans$Tape" 63) (Term.string "TideLoans" 373))) (by decide +kernel))
  | 10, 2, _, _, _ => Or.inr (flat_of_before _ hg (Cond.not (Cond.eq (Term.string "TideLoans$Tape" 65) (Term.string "TideLoans" 373))) (by decide +kernel))
  | 10, 3, _, _, _ => Or.inr (flat_of_before _ hg (Cond.not (Cond.eq (Term.string "TideLoans$Tape" 67) (Term.string "TideLoans" 373))) (by decide +kernel))
  | 10, 4, _, _, _ => Or.inr (flat_of_before _ hg (Cond.not (Cond.eq (Term.string "TideLoans$Tape" 69) (Term.string "TideLoans" 373))) (by decide +kernel))
  | 10, 5, _, _, _ => Or.inr (flat_of_before _ hg (Cond.not (Cond.eq (Term.string "TideLoans$Tape" 71) (Term.string "TideLoans" 373))) (by decide +kernel))
  | 10, 6, _, _, _ => Or.inr (flat_of_before _ hg (Cond.not (Cond.eq (Term.string "TideLoans" 377) (Term.string "TideLoans" 373))) (by decide +kernel))
  | 10, 7, _, _, _ => Or.inr (flat_of_before _ hg (Cond.not (Cond.eq (Term.string "TideLoans" 392) (Term.string "TideLoans" 373))) (by decide +kernel))
  | 10, 8, _, _, _ => Or.inr (flat_of_before _ hg (Cond.not (Cond.eq (Term.string "TideLoans" 393) (Term.string "TideLoans" 373))) (by decide +kernel))
  | 10, 9, _, _, _ => Or.inr (flat_of_before _ hg (Cond.not (Cond.eq (Term.string "TideLoans" 364) (Term.string "TideLoans" 373))) (by decide +kernel))
  | 10, 10, _, _, h => absurd rfl h
  | 10, n + 11, _, h, _ => absurd h (by omega)
  | n + 11, _, h, _, _ => absurd h (by omega)
theorem sx_rf (hts : ∀ w ∈ lw_tbl, w.before #[Value.ref b] s = true) : ∀ i : Nat, i < 11 → (Cond.stringRef (so i) (si i) (st i)).before #[Value.ref b] s = true
  | 0, _ => hts (Cond.stringRef "TideLoans$Tape" 61 "named") (ta_3 (i := 68) (by decide +kernel))
  | 1, _ => hts (Cond.stringRef "TideLoans$Tape" 63 "grudge") (ta_3 (i := 69) (by decide +kernel))
  | 2, _ => hts (Cond.stringRef "TideLoans$Tape" 65 "moonless") (ta_3 (i := 70) (by decide +kernel))
  | 3, _ => hts (Cond.stringRef "TideLoans$Tape" 67 "twice") (ta_3 (i := 71) (by decide +kernel))
  | 4, _ => hts (Cond.stringRef "TideLoans$Tape" 69 "glass") (ta_3 (i := 72) (by decide +kernel))
  | 5, _ => hts (Cond.stringRef "TideLoans$Tape" 71 "chair") (ta_3 (i := 73) (by decide +kernel))
  | 6, _ => hts (Cond.stringRef "TideLoans" 377 "of") (ta_3 (i := 131) (by decide +kernel))
  | 7, _ => hts (Cond.stringRef "TideLoans" 392 "worth") (ta_3 (i := 142) (by decide +kernel))
  | 8, _ => hts (Cond.stringRef "TideLoans" 393 "at") (ta_3 (i := 147) (by decide +kernel))
  | 9, _ => hts (Cond.stringRef "TideLoans" 364 "height") (ta_3 (i := 148) (by decide +kernel))
  | 10, _ => hts (Cond.stringRef "TideLoans" 373 "interest") (ta_3 (i := 153) (by decide +kernel))
  | n + 11, h => absurd h (by omega)
end SR
theorem arr_of {s : State} {args : Array Value} {ty : FieldType} (h : (Cond.arrayClass ty).before args s = true) (hne : ∀ C, ty ≠ .object C) : ∃ cA : ClassId, ArrOfT s cA ty ∧ va_RA s cA ty := by
  obtain ⟨cA, kA, comp, hf, hk, hkind⟩ := Cond.arrayClass_spec h
  refine ⟨cA, fun n z => ⟨fun k h => (by cases h), kA, hk, comp, hkind⟩, ?_⟩
  cases ty with
  | object C => exact absurd rfl (hne C)
  | _ => exact hf
theorem arr_ofR {s : State} {C : String} (h : va_AO C s) : ∃ cA : ClassId, ArrOfT s cA (.object C) ∧ va_RA s cA (.object C) := by
  obtain ⟨comp, c, k, h1, h2, h3, h4, h5⟩ := Cond.arrayOver_spec h
  exact ⟨c, fun n z => ⟨fun k h => (by cases h), k, h3, comp, h4⟩, k, comp, h3, h4, h1, h5⟩
set_option maxHeartbeats 4000000 in
set_option maxRecDepth 100000 in
theorem start_K {s : State} {b : Nat} (hts : ∀ w ∈ lw_tbl, w.before #[Value.ref b] s = true) (hg : (Jvm.Cond.and given_1 narrow_1).before #[Value.ref b] s = true) : ∃ E : En, Kg E s.heap.size s ∧ (∀ i, i < 11 → vk_R (so i) (si i) (st i) (eK E i) s) ∧ vk_S 11 slen sbyt (eK E) (eV E) (fun q => s.heap.size ≤ q) s s.heap ∧ va_Z "java/lang/String" "COMPACT_STRINGS" "Z" (.int 1) (fun q => s.heap.size ≤ q) s s.heap ∧ va_Zq "jdk/internal/util/Preconditions" "SIOOBE_FORMATTER" "Ljava/util/function/BiFunction;" (fun q => s.heap.size ≤ q) s s.heap := by
  have htb : ∀ w ∈ tb, w.before #[Value.ref b] s = true := fun w hw => hts w (List.mem_filter.mp hw).1
  have hA : ∀ a : Nat, a < s.heap.size → ¬ (fun q => s.heap.size ≤ q) a := fun a h => Nat.not_le.mpr h
  obtain ⟨c_Sheet, i_Sheet, hK_Sheet⟩ := u_known (C := R_Sheet) (T := T_Sheet) (N := 3) (n := 3) htb in_Sheet (htb _ tw_217)
  obtain ⟨c_Shore, i_Shore, hK_Shore⟩ := u_known (C := R_Shore) (T := T_Shore) (N := 6) (n := 6) htb in_Shore (htb _ tw_87)
  obtain ⟨c_Tape, i_Tape, hK_Tape⟩ := u_known (C := R_Tape) (T := T_Tape) (N := 6) (n := 6) htb in_Tape (htb _ tw_157)
  obtain ⟨c_Thing, i_Thing, hK_Thing⟩ := u_known (C := R_Thing) (T := T_Thing) (N := 6) (n := 6) htb in_Thing (htb _ tw_94)
  obtain ⟨c_Way, i_Way, hK_Way⟩ := u_known (C := R_Way) (T := T_Way) (N := 5) (n := 5) htb in_Way (htb _ tw_192)
  obtain ⟨c_Tide, i_Tide, hK_Tide⟩ := u_known (C := R_Tide) (T := T_Tide) (N := 12) (n := 12) htb in_Tide (htb _ tw_79)
  obtain ⟨c_Model, i_Model, hK_Model⟩ := u_known (C := R_Model) (T := T_Model) (N := 16) (n := 16) htb in_Model (htb _ tw_789)
  have ao : AO s := ⟨va_AO.of (hts (Cond.arrayOver (.object "TideLoans$Thing")) (ta_1 (i := 30) (by decide +kernel))), va_AO.of (hts (Cond.arrayOver (.object "TideLoans$Sheet")) (ta_1 (i := 124) (by decide +kernel))), va_AO.of (hts (Cond.arrayOver (.object "TideLoans$Way")) (ta_1 (i := 126) (by decide +kernel)))⟩
  obtain ⟨r0, hr0⟩ := arr_of (ty := .int) (htb _ tw_130) (fun _ q => by cases q)
  obtain ⟨r1, hr1⟩ := arr_of (ty := .byte) (htb _ tw_185) (fun _ q => by cases q)
  obtain ⟨r2, hr2⟩ := arr_of (ty := .long) (htb _ tw_235) (fun _ q => by cases q)
  obtain ⟨r3, hr3⟩ := arr_ofR ao.1
  obtain ⟨r4, hr4⟩ := arr_ofR ao.2.1
  obtain ⟨r5, hr5⟩ := arr_ofR ao.2.2
  obtain ⟨adK, adV, hSt, hev⟩ := vk_Sof (args := #[Value.ref b]) (s := s) (N := 11) (tm := tmS) (len := slen) (byt := sbyt) (A := fun q => s.heap.size ≤ q) sl_all (sx_ex hg) (sx_co hg) (sx_ar hg) (sx_le hg) (sx_el hg) (sx_ne hg) hA
  refine ⟨((fun k => [c_Sheet, c_Shore, c_Tape, c_Thing, c_Way, c_Tide, c_Model].getD k 0, fun k => [i_Sheet, i_Shore, i_Tape, i_Thing, i_Way, i_Tide, i_Model].getD k (fun _ => 0)), fun _ => 0, fun k => [r0, r1, r2, r3, r4, r5].getD k 0, adK, adV), ⟨⟨?_, ?_⟩, ?_, ao, Nat.le_refl _⟩, fun i hi => vk_R.of (sx_rf hts i hi) (hev i hi), hSt, ?_, ?_⟩
  · intro k q hq
    match k, hq with
    | 0, hq => cases hq; exact hK_Sheet
    | 1, hq => cases hq; exact hK_Shore
    | 2, hq => cases hq; exact hK_Tape
    | 3, hq => cases hq; exact hK_Thing
    | 4, hq => cases hq; exact hK_Way
    | 5, hq => cases hq; exact hK_Tide
    | 6, hq => cases hq; exact hK_Model
    | k + 7, hq => simp [cls] at hq
  · intro k q hq
    match k, hq with
    | 0, hq => cases hq; exact hr0
    | 1, hq => cases hq; exact hr1
    | 2, hq => cases hq; exact hr2
    | 3, hq => cases hq; exact hr3
    | 4, hq => cases hq; exact hr4
    | 5, hq => cases hq; exact hr5
    | k + 6, hq => simp [tys] at hq
  · intro w hw
    have h1 := List.mem_filter.mp hw
    have h2 := hts w h1.1
    have h3 := h1.2
    cases w <;> first | exact va_Nw.of rfl h2 | (cases h3)
  · exact va_Zof (hts (Cond.laysStatic "java/lang/String" "COMPACT_STRINGS" "Z") (ta_3 (i := 87) (by decide +kernel))) (htb _ tw_74) (va_eqt (flat_of_before _ hg (Cond.eq (.static "java/lang/String" "COMPACT_STRINGS" "Z") (.int 1)) (by decide +kernel))) hA
  · exact va_Zqof (hts (Cond.laysStatic "jdk/internal/util/Preconditions" "SIOOBE_FORMATTER" "Ljava/util/function/BiFunction;") (ta_3 (i := 103) (by decide +kernel))) (htb _ tw_76) (flat_of_before _ hg (Cond.isRef (.static "jdk/internal/util/Preconditions" "SIOOBE_FORMATTER" "Ljava/util/function/BiFunction;")) (by decide +kernel)) hA
set_option maxHeartbeats 4000000 in
set_option maxRecDepth 100000 in
/-- THE LAW, from its entry: what is left is that its function answers 1 -/
theorem whole_of (PURE : ∀ (xs : Nat → Int32) (L : Nat), L ≤ 3072 → it (fun a => f_law_b18 xs L a.1 a.2) FU ((0 : Int32), Xf) = some 1) {p : Program} {e : Env} {s : State} {m : MethodId} {below : List Frame} {meth : Method} {c : Code} (l : Launch) {b L : Nat} {xs : Nat → Int32} (hL : L ≤ 3072) (C0 : lw_At p s m meth c b L xs) : W p l e room_1 s m #[Value.ref b] below meth c s.heap [] 0 0 (lw_Z below #[Value.ref b] s) (entryFrame m ([Value.ref b] : List Value).toArray 4) := by
  obtain ⟨hx, hb, hr, hml, hown, hts, hX, hbl, hlocks, hgv⟩ := id C0
  obtain ⟨E, hKg, hR, hSt, hZ, hZq⟩ := start_K hts hgv
  have htb : ∀ w ∈ tb, w.before #[Value.ref b] s = true := fun w hw => hts w (List.mem_filter.mp hw).1
  have C : Cb p s m #[Value.ref b] c code 4 "TideLoansLaw" E s.heap.size := ⟨hx, hb, hml, hown, htb, hKg⟩
  have hl := lv_entry ([.ref b]) (n := 4) (Nat.le_of_ble_eq_true rfl)
  rw [lg_entry_eq]
  generalize (lg_sl ([.ref b]) ++ List.replicate (4 - (lg_sl ([.ref b])).length) Slot.unset).toArray = ls at hl ⊢
  replace hl : lv_has ls 4 [(0, .ref b)] := hl
  have h : Hg E s.heap.size s.heap 0 (fun _ => 0) Fz Xz s.heap [] := ⟨⟨fun k q h => by simp [wlg] at h, ⟨fun i j p q h => by simp [wlg] at h, fun k q h => by simp [wlg] at h⟩, fun k j m h => (by cases h), fun k _ => ⟨fun _ => rfl, fun _ => rfl, fun _ => rfl⟩⟩, va_S.rf⟩
  refine l_new C h (N := 12) (ci := 5) in_Tide ty_Tide tyok_Tide tw_78 tw_79 tw_64 rfl (fr_Tide rfl) df_Tide (Nat.le_of_ble_eq_true rfl) (Nat.le_of_ble_eq_true rfl) dL_0 (fun q0 a1 H hq0 had h => ?_)
  refine lv_dup hx hb dL_3 rfl ?_
  refine l_call C h (kc_Tide_0 hq0) cw_Tide_init ini_Tide_init ins_Tide_init rfl tw_80 hd_Tide_init ⟨⟨rfl, rfl⟩, (Nat.le_of_ble_eq_true rfl), (Nat.le_of_ble_eq_true rfl)⟩ ⟨(Nat.le_of_ble_eq_true rfl), (Nat.le_of_ble_eq_true rfl)⟩ hl.1 (Nat.le_of_ble_eq_true rfl) dL_4 (fun a2 H locs had h => ?_)
  have g0 : a2 0 = q0 := (had 0 (by decide)).trans hq0
  refine lv_astore_n (lv' := [(1, .ref q0), (0, .ref b)]) hx hb dL_7 rfl hl (by decide) rfl (fun ls hl => ?_)
  refine l_new C h (N := 16) (ci := 6) in_Model ty_Model tyok_Model tw_788 tw_789 tw_70 rfl (fr_Model rfl) df_Model (Nat.le_of_ble_eq_true rfl) (Nat.le_of_ble_eq_true rfl) dL_8 (fun q70 a3 H hq70 had h => ?_)
  have g1 : a3 0 = q0 := (had 0 (by decide)).trans g0
  refine lv_dup hx hb dL_11 rfl ?_
  refine l_call C h (kc_Model_70 hq70) cw_Model_init ini_Model_init ins_Model_init rfl tw_790 hd_Model_init ⟨⟨rfl, rfl⟩, (Nat.le_of_ble_eq_true rfl), (Nat.le_of_ble_eq_true rfl)⟩ ⟨(Nat.le_of_ble_eq_true rfl), (Nat.le_of_ble_eq_true rfl)⟩ hl.1 (Nat.le_of_ble_eq_true rfl) dL_12 (fun a H locs had h => ?_)
  have e0 : a 0 = q0 := (had 0 (by decide)).trans g1
  have e7 : a 70 = q70 := (had 70 (by decide)).trans hq70
  subst e0; subst e7
  refine lv_astore_n (lv' := [(2, .ref (a 70)), (1, .ref (a 0)), (0, .ref b)]) hx hb dL_15 rfl hl (by decide) rfl (fun ls hl => ?_)
  refine lv_iconst (v := 0) hx hb dL_16 (by decide) ?_
  refine lv_istore_n (lv' := [(3, .int 0), (2, .ref (a 70)), (1, .ref (a 0)), (0, .ref b)]) hx hb dL_17 rfl hl (by decide) rfl (fun ls hl => ?_)
  refine va_forget (fun q hq => h.2.2.2 q hq) ?_
  obtain ⟨⟨hP, hD, -, -⟩, hS⟩ := h
  have hge : ∀ k, k < 80 → s.heap.size ≤ a k := fun k hk => hD.2 k _ (wlg_get hk)
  have hAd : ∀ q, Ad (fE E a) q → s.heap.size ≤ q := fun q ⟨k, hk, hq⟩ => by rw [hq]; exact hge k hk
  have hinj : ∀ i j, i < 80 → j < 80 → ad (fE E a) i = ad (fE E a) j → i = j := fun i j hi hj e => hD.1 i j _ _ (wlg_get hi) (wlg_get hj) e
  have K : Kx (fE E a) s := ⟨hKg.1, hinj, hKg.2.1, hR, hSt.narrow hAd, hZ.narrow hAd, hZq.narrow hAd⟩
  have Cw : Cx p s m #[Value.ref b] meth c code 4 "TideLoansLaw" (some .boolean) (fE E a) := ⟨hx, hb, hml, hown, htb, hr, hlocks, K⟩
  have Sw : Sx s (fE E a) b L xs := ⟨hX, hbl, fun q => absurd (hAd b q) (Nat.not_le.mpr hbl), hAd⟩
  refine W.widen (k := 80) (n := 1374) (Nat.le_of_ble_eq_true rfl) (Nat.le_of_ble_eq_true rfl) ?_
  exact k_law_b18 Cw Sw FU 0 Xf _ [] _ (PURE xs L hL) ⟨fn_P hP, ⟨hS.1, fun q h1 _ => hS.2.1 q h1 (Nat.not_le.mpr h1), fun _ h => by cases h⟩⟩ (lv_sub hl [3, 2, 1, 0] rfl)
