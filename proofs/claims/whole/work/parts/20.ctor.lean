/-! while objects are made: the first n nodes stand at the addresses a, references may still be null -/
abbrev Fn : Type := Nat → Nat → Option Nat
def sF (F : Fn) (k j m : Nat) : Fn := fun u v => if u = k ∧ v = j then some m else F u v
def rv (a : Nat → Nat) (F : Fn) (k j : Nat) : Value := va_rf ((F k j).map a)
def celg (E : En) (a : Nat → Nat) (F : Fn) (X : Mem) (k : Nat) : va_E := match kd k with
  | 0 => .inr (5, [rv a F k 0, rv a F k 1, rv a F k 2, rv a F k 3, rv a F k 4, rv a F k 5, rv a F k 6, rv a F k 7, rv a F k 8, rv a F k 9, rv a F k 10, .int (gI X k 11)])
  | 1 => .inr (1, [rv a F k 0, rv a F k 1, rv a F k 2, .int (gI X k 3), .int (gI X k 4), .int (gI X k 5)])
  | 2 => .inr (3, [.int (gI X k 0), .int (gI X k 1), .int (gI X k 2), .int (gI X k 3), .int (gI X k 4), .int (gI X k 5)])
  | 3 => .inr (4, [.int (gI X k 0), .int (gI X k 1), .int (gI X k 2), .int (gI X k 3), .int (gI X k 4)])
  | 4 => .inr (0, [rv a F k 0, .int (gI X k 1), .int (gI X k 2)])
  | 5 => .inr (2, [rv a F k 0, .int (gI X k 1), .int (gI X k 2), .int (gI X k 3), .int (gI X k 4), .int (gI X k 5)])
  | 6 => .inr (6, [rv a F k 0, rv a F k 1, rv a F k 2, rv a F k 3, .int (gI X k 4), rv a F k 5, rv a F k 6, .int (gI X k 7), rv a F k 8, rv a F k 9, rv a F k 10, .int (gI X k 11), .int (gI X k 12), .int (gI X k 13), .int (gI X k 14), .int (gI X k 15)])
  | 4000 => .inl (ca E 3, 10, .inr (.inr (.inr (.inr (fun i => (F k i).map a)))))
  | 4001 => .inl (ca E 4, 4, .inr (.inr (.inr (.inr (fun i => (F k i).map a)))))
  | 4002 => .inl (ca E 5, 10, .inr (.inr (.inr (.inr (fun i => (F k i).map a)))))
  | q => if q < 2000 then .inl (ca E 0, q - 1000, .inl (fun j => gI X k j)) else if q < 3000 then .inl (ca E 1, q - 2000, .inl (fun j => gI X k j)) else .inl (ca E 2, q - 3000, .inr (.inl (fun j => gL X k j)))
def wlg (E : En) (n : Nat) (a : Nat → Nat) (F : Fn) (X : Mem) : va_W := (List.range n).map (fun k => (a k, celg E a F X k))
theorem wlg_get {E : En} {n : Nat} {a : Nat → Nat} {F : Fn} {X : Mem} {k : Nat} (h : k < n) : (wlg E n a F X)[k]? = some (a k, celg E a F X k) := by
  unfold wlg
  rw [List.getElem?_map, List.getElem?_range h]
  rfl
theorem wlg_len {E : En} {n : Nat} {a : Nat → Nat} {F : Fn} {X : Mem} : (wlg E n a F X).length = n := by
  unfold wlg
  rw [List.length_map, List.length_range]
theorem celg_congr {E : En} {a : Nat → Nat} {F G : Fn} {X Y : Mem} {k : Nat} (h0 : F k = G k) (h1 : X.1 k = Y.1 k) (h2 : X.2 k = Y.2 k) : celg E a F X k = celg E a G Y k := by
  unfold celg rv gI gL
  rw [h0, h1, h2]
theorem wlg_set {E : En} {n : Nat} {a : Nat → Nat} {F G : Fn} {X Y : Mem} {k : Nat} (hk : k < n) (h0 : ∀ u, u ≠ k → F u = G u) (h1 : ∀ u, u ≠ k → X.1 u = Y.1 u) (h2 : ∀ u, u ≠ k → X.2 u = Y.2 u) : (wlg E n a F X).set k (a k, celg E a G Y k) = wlg E n a G Y := by
  apply List.ext_getElem?
  intro i
  by_cases hi : i = k
  · subst hi
    rw [List.getElem?_set_self (by rw [wlg_len]; exact hk), wlg_get hk]
  · rw [List.getElem?_set_ne (Ne.symm hi)]
    by_cases h80 : i < n
    · rw [wlg_get h80, wlg_get h80, celg_congr (h0 i hi) (h1 i hi) (h2 i hi)]
    · rw [List.getElem?_eq_none (by rw [wlg_len]; omega), List.getElem?_eq_none (by rw [wlg_len]; omega)]
def Cl (n : Nat) (F : Fn) : Prop := ∀ k j m, F k j = some m → m < n
def Fr (n : Nat) (F : Fn) (X : Mem) : Prop := ∀ k, n ≤ k → (∀ j, F k j = none) ∧ (∀ j, X.1 k j = 0) ∧ (∀ j, X.2 k j = 0)
theorem celg_ad {E : En} {a d : Nat → Nat} {F : Fn} {X : Mem} {n : Nat} (hC : Cl n F) (had : ∀ k, k < n → d k = a k) (k : Nat) : celg E d F X k = celg E a F X k := by
  have h : ∀ j, (F k j).map d = (F k j).map a := by
    intro j
    cases hF : F k j with
    | none => rfl
    | some m => exact congrArg some (had m (hC k j m hF))
  unfold celg rv
  simp only [h]
theorem wlg_ad {E : En} {a d : Nat → Nat} {F : Fn} {X : Mem} {n : Nat} (hC : Cl n F) (had : ∀ k, k < n → d k = a k) : wlg E n d F X = wlg E n a F X := by
  unfold wlg
  apply List.map_congr_left
  intro k hk
  rw [had k (List.mem_range.mp hk), celg_ad hC had]
theorem wlg_succ {E : En} {n : Nat} {a : Nat → Nat} {F : Fn} {X : Mem} : wlg E (n + 1) a F X = wlg E n a F X ++ [(a n, celg E a F X n)] := by
  unfold wlg
  rw [List.range_succ, List.map_append]
  rfl
def AO (U : State) : Prop := va_AO "TideLoans$Thing" U ∧ va_AO "TideLoans$Sheet" U ∧ va_AO "TideLoans$Way" U
theorem AO.moved {u U : State} (hvm : u.vm.Alike U.vm) (h : AO u) : AO U := ⟨h.1.moved hvm, h.2.1.moved hvm, h.2.2.moved hvm⟩
def Wg (E : En) (b n : Nat) (a : Nat → Nat) (F : Fn) (X : Mem) (H : Heap) : Prop := va_P E.1 cls (wlg E n a F X) H ∧ va_D (fun q => b ≤ q) (wlg E n a F X) ∧ Cl n F ∧ Fr n F X
def Hg (E : En) (b : Nat) (H0 : Heap) (n : Nat) (a : Nat → Nat) (F : Fn) (X : Mem) (H : Heap) (locs : List Loc) : Prop := Wg E b n a F X H ∧ va_S (fun q => b ≤ q) H0 H locs
def Kg (E : En) (b : Nat) (U : State) : Prop := va_K E.1 cls (tys E) U ∧ (∀ w ∈ nst, va_Nw w U) ∧ AO U ∧ b ≤ U.heap.size
def PreG (E : En) (b : Nat) (av : List Value) (n : Nat) (a : Nat → Nat) (F : Fn) (X : Mem) : Array Value → State → Prop := va_Pc av (fun U => Kg E b U ∧ Wg E b n a F X U.heap)
def PostG (E : En) (b n0 : Nat) (a : Nat → Nat) (n : Nat) (F : Fn) (X : Mem) : Array Value → State → Outcome → State → Prop := va_Qv (S := Nat → Nat) (fun d => ∀ k, k < n0 → d k = a k) (fun d t => Wg E b n d F X t.heap) (fun q => b ≤ q)
theorem PreG.blind {E : En} {b : Nat} {av : List Value} {n : Nat} {a : Nat → Nat} {F : Fn} {X : Mem} : FrameBlind (PreG E b av n a F X) := fun _ U g mk q => ⟨q.1, ⟨va_K.moved (u := U) (Vm.Alike.refl U.vm) q.2.1.1, fun w hw => nst_same hw (s := U) rfl (q.2.1.2.1 w hw), AO.moved (u := U) (Vm.Alike.refl U.vm) q.2.1.2.2.1, q.2.1.2.2.2⟩, q.2.2⟩
def Cg (p : Program) (s : State) (m : MethodId) (args : Array Value) (meth : Method) (c : Code) (cc : ByteArray) (nL : Nat) (own : String) (E : En) (b : Nat) : Prop := p.tables.exec = Jvm.exec ∧ c.code = cc ∧ c.maxLocals = nL ∧ s.vm.findClass own = some m.cls ∧ (∀ w ∈ tb, w.before args s = true) ∧ meth.sig.returnType = none ∧ meth.locks = false ∧ Kg E b s ∧ meth.name = "<init>"
theorem met_ofG {l : Launch} {y : MethodName} {cc : ByteArray} {nL : Nat} {rm : Room} {E : En} {b : Nat} {av : List Value} {n mc ms : Nat} {a : Nat → Nat} {F : Fn} {X : Mem} {Qc : Array Value → State → Outcome → State → Prop} (hy : plainName y.cls = true) (hyn : y.name = "<init>") (hn : (lg_sl av).length ≤ nL)
    (body : ∀ (p : Program) (e : Env) (s : State) (m : MethodId) (below : List Frame) (meth : Method) (c : Code), Cg p s m av.toArray meth c cc nL y.cls E b → Hg E b s.heap n a F X s.heap [] → ∀ ls : Array Slot, lv_has ls nL (lv_args 0 av) →
      W p l e rm s m av.toArray below meth c s.heap [] 0 0 (MQ below Qc av.toArray s mc ms (fun q => b ≤ q)) (F0 m 0 ls [])) : Met l y (Cond.code y cc nL none :: tb) rm (PreG E b av n a F X) Qc mc ms (fun q => b ≤ q) := by
  refine Met.ofW (cc := cc) (maxL := nL) (ret := none) hy rfl ?_
  intro p e s m args below meth c s₁ B hml hv
  obtain ⟨rfl, hKg, hP⟩ := hv
  have hl := lv_entry av (n := nL) hn
  rw [lg_entry_eq]
  generalize (lg_sl av ++ List.replicate (nL - (lg_sl av).length) Slot.unset).toArray = ls at hl ⊢
  exact body p e s m below meth c ⟨B.exec, B.bytes, hml, findClass_of_methodNamed B.named, fun w hw => atoms_spec (ws := Cond.code y cc nL none :: tb) B.pre w (List.mem_cons_of_mem _ hw), B.returns, B.notSynchronized, hKg, (name_of_methodNamed B.named B.method).1.trans hyn⟩ ⟨hP, va_S.rf⟩ ls hl
theorem Fr.up {n : Nat} {F : Fn} {X : Mem} (h : Fr n F X) : Fr (n + 1) F X := fun k hk => h k (by omega)
theorem Cl.up {n : Nat} {F : Fn} (h : Cl n F) : Cl (n + 1) F := fun k j m hm => Nat.lt_succ_of_lt (h k j m hm)
theorem Fr.sF {n : Nat} {F : Fn} {X : Mem} (h : Fr n F X) {k j q : Nat} (hk : k < n) : Fr n (sF F k j q) X := fun u hu => ⟨fun v => by show (if u = k ∧ v = j then some q else F u v) = none; rw [if_neg (fun z => by omega)]; exact (h u hu).1 v, (h u hu).2⟩
theorem Cl.sF {n : Nat} {F : Fn} (h : Cl n F) {k j q : Nat} (hq : q < n) : Cl n (sF F k j q) := fun u v m hm => by
  have hm : (if u = k ∧ v = j then some q else F u v) = some m := hm
  by_cases hc : u = k ∧ v = j
  · rw [if_pos hc] at hm; cases hm; exact hq
  · rw [if_neg hc] at hm; exact h u v m hm
theorem Fr.sI {n : Nat} {F : Fn} {X : Mem} (h : Fr n F X) {k j : Nat} {v : Int32} (hk : k < n) : Fr n F (sI X k j v) := fun u hu => ⟨(h u hu).1, fun w => by show (if u = k ∧ w = j then v else X.1 u w) = 0; rw [if_neg (fun z => by omega)]; exact (h u hu).2.1 w, (h u hu).2.2⟩
theorem sF_1 {F : Fn} {k j q u : Nat} (hu : u ≠ k) : F u = sF F k j q u := by
  funext v
  show F u v = if u = k ∧ v = j then some q else F u v
  rw [if_neg (fun z => hu z.1)]
theorem va_D.to {A : Nat → Prop} {w1 w2 : va_W} (h : va_D A w1) (e : w1 = w2) : va_D A w2 := e ▸ h
theorem va_P.to {D : va_G} {w1 w2 : va_W} {H : Heap} (h : va_P D cls w1 H) (e : w1 = w2) : va_P D cls w2 H := e ▸ h
def adx (a : Nat → Nat) (n q : Nat) : Nat → Nat := fun k => if k = n then q else a k
theorem adx_n {a : Nat → Nat} {n q : Nat} : adx a n q n = q := if_pos rfl
theorem adx_lt {a : Nat → Nat} {n q : Nat} : ∀ k, k < n → adx a n q k = a k := fun k h => if_neg (by omega)
theorem wlg_adx {E : En} {n q : Nat} {a : Nat → Nat} {F : Fn} {X : Mem} {e : va_E} (hC : Cl n F) (he : celg E a F X n = e) : wlg E n a F X ++ [(q, e)] = wlg E (n + 1) (adx a n q) F X := by
  rw [wlg_succ, wlg_ad hC adx_lt, celg_ad hC adx_lt, he, adx_n]
section CT
variable {p : Program} {l : Launch} {e : Env} {R : Room} {s : State} {m : MethodId} {args : Array Value} {below : List Frame} {meth : Method} {c : Code} {H : Heap} {locs : List Loc} {cells slots : Nat} {Q : State → Prop}
variable {cc : ByteArray} {nL : Nat} {own : String} {E : En} {b : Nat} {X : Mem} {a : Nat → Nat} {F : Fn} {n : Nat} {pc : Nat} {ls : Array Slot} {rest : List Value}
theorem hgA (C : Cg p s m args meth c cc nL own E b) : ∀ q, s.heap.size ≤ q → (fun q => b ≤ q) q := fun q h => Nat.le_trans C.2.2.2.2.2.2.2.1.2.2.2 h
theorem g_new (C : Cg p s m args meth c cc nL own E b) (h : Hg E b s.heap n a F X H locs) {Cn : String} {T : u_T} {N ci index : Nat} {fs : List Value} (hin : ∀ w ∈ u_ws Cn T N, w ∈ tb) (ty : Nat → FieldType) (hty : ∀ k, k < N → parseFieldDescriptor (T k).2.2.1 = some (ty k)) (hl : Cond.classLink own index Cn ∈ tb) (hi : Cond.instantiable Cn N ∈ tb) (hini : Cond.initialized Cn ∈ tb) (hcl : cls[ci]? = some (Cn, T, N)) (hc : Fr n F X → celg E a F X n = .inr (ci, fs)) (hfs : ∀ j, j < N → defaultValue (ty j) = vp_V fs j) (hcells : cells + 1 ≤ R.cells) (hslots : slots + N ≤ R.slots) (hdg : decode cc pc = .ok (.new index, 3))
    (kk : ∀ (q : Nat) (d : Nat → Nat) (H1 : Heap), d n = q → (∀ k, k < n → d k = a k) → Hg E b s.heap (n + 1) d F X H1 locs → W p l e R s m args below meth c H1 locs (cells + 1) (slots + N) Q (F0 m (pc + 3) ls (.ref q :: rest))) : W p l e R s m args below meth c H locs cells slots Q (F0 m pc ls rest) := by
  have hA := hgA C
  obtain ⟨hx, hb, -, ho, hts, -, -, ⟨hK, -⟩, -⟩ := C
  obtain ⟨⟨hP, hD, hCl, hFr⟩, hS⟩ := h
  refine va_new (ci := ci) (fs := fs) hx hb hts hin ty hty ho (hts _ hl) (hts _ hi) (hts _ hini) hK hP hD hS hA hcl hfs hcells hslots hdg (fun q H1 hP1 hD1 hS1 => ?_)
  have e1 := wlg_adx (q := q) hCl (hc hFr)
  exact kk q (adx a n q) H1 adx_n adx_lt ⟨⟨hP1.to e1, hD1.to e1, hCl.up, hFr.up⟩, hS1⟩
theorem g_newP (C : Cg p s m args meth c cc nL own E b) (h : Hg E b s.heap n a F X H locs) {atype : ArrayType} {ty : FieldType} (hty : newarray.typeOf atype = ty) {v : Int32} {N t0 : Nat} {a0 : vp_A} (hc : Fr n F X → celg E a F X n = .inl (ca E t0, a0)) (ha0 : ∀ cA : ClassId, vp_cell cA a0 = arrV cA N (fun _ => defaultValue ty)) (ht : (tys E)[t0]? = some (ca E t0, ty)) (hne : ∀ C, ty ≠ .object C) (hN : v = nI N) (hN1 : N < 1000) (hw : Cond.arrayClass ty ∈ tb) (hby : N * componentBytes ty ≤ 536870912) (hcells : cells + 1 ≤ R.cells) (hslots : slots + N ≤ R.slots) (hdg : decode cc pc = .ok (.newarray atype, 2))
    (kk : ∀ (q : Nat) (d : Nat → Nat) (H1 : Heap), d n = q → (∀ k, k < n → d k = a k) → Hg E b s.heap (n + 1) d F X H1 locs → W p l e R s m args below meth c H1 locs (cells + 1) (slots + N) Q (F0 m (pc + 2) ls (.ref q :: rest))) : W p l e R s m args below meth c H locs cells slots Q (F0 m pc ls (.int v :: rest)) := by
  have hA := hgA C
  obtain ⟨hx, hb, -, ho, hts, -, -, ⟨hK, -⟩, -⟩ := C
  obtain ⟨⟨hP, hD, hCl, hFr⟩, hS⟩ := h
  subst hN
  refine va_newa (a0 := a0) hx hb (by rw [hty]; exact hts _ hw) hty hK hP hD hS hA ha0 (nI_pos (by omega)) (nI_clamp (by omega)) hby hcells hslots hdg (fun q cA H1 hK1 hP1 hD1 hS1 => ?_)
  have h6 := (hK1.2 6 (cA, ty) rfl).2
  have h0 := (hK.2 t0 _ ht).2
  have hca : cA = ca E t0 := by
    cases ty with
    | object C => exact absurd rfl (hne C)
    | _ => exact Option.some.inj (Eq.trans (Eq.symm h6) h0)
  subst hca
  have e1 := wlg_adx (q := q) hCl (hc hFr)
  exact kk q (adx a n q) H1 adx_n adx_lt ⟨⟨hP1.to e1, hD1.to e1, hCl.up, hFr.up⟩, hS1⟩
theorem g_newR (C : Cg p s m args meth c cc nL own E b) (h : Hg E b s.heap n a F X H locs) {v : Int32} {N t0 index : Nat} {Cn : String} (hc : Fr n F X → celg E a F X n = .inl (ca E t0, N, .inr (.inr (.inr (.inr (fun _ => none)))))) (ht : (tys E)[t0]? = some (ca E t0, .object Cn)) (hao : AO s → va_AO Cn s) (hN : v = nI N) (hN1 : N < 1000) (hl : Cond.classLink own index Cn ∈ tb) (hcells : cells + 1 ≤ R.cells) (hslots : slots + N ≤ R.slots) (hdg : decode cc pc = .ok (.anewarray index, 3))
    (kk : ∀ (q : Nat) (d : Nat → Nat) (H1 : Heap), d n = q → (∀ k, k < n → d k = a k) → Hg E b s.heap (n + 1) d F X H1 locs → W p l e R s m args below meth c H1 locs (cells + 1) (slots + N) Q (F0 m (pc + 3) ls (.ref q :: rest))) : W p l e R s m args below meth c H locs cells slots Q (F0 m pc ls (.int v :: rest)) := by
  have hA := hgA C
  obtain ⟨hx, hb, -, ho, hts, -, -, ⟨hK, -, hao1, -⟩, -⟩ := C
  obtain ⟨⟨hP, hD, hCl, hFr⟩, hS⟩ := h
  subst hN
  refine va_newq hx hb ho (hts _ hl) (hao hao1) hK hP hD hS hA (nI_pos (by omega)) (nI_clamp (by omega)) (by omega) hcells hslots hdg (fun q cA H1 hK1 hP1 hD1 hS1 => ?_)
  obtain ⟨-, -, -, -, -, h6⟩ := (hK1.2 6 (cA, .object Cn) rfl).2
  obtain ⟨-, -, -, -, -, h0⟩ := (hK.2 t0 _ ht).2
  have hca : cA = ca E t0 := Option.some.inj (Eq.trans (Eq.symm h6) h0)
  subst hca
  have e1 := wlg_adx (q := q) hCl (hc hFr)
  exact kk q (adx a n q) H1 adx_n adx_lt ⟨⟨hP1.to e1, hD1.to e1, hCl.up, hFr.up⟩, hS1⟩
theorem g_get (C : Cg p s m args meth c cc nL own E b) (h : Hg E b s.heap n a F X H locs) {k ci q x y : Nat} {fs : List Value} (hk : k < n) (hx0 : a k = x) (hc : celg E a F X k = .inr (ci, fs)) {Cn : String} {T : u_T} {N : Nat} (hcl : cls[ci]? = some (Cn, T, N)) (hin : ∀ w ∈ u_ws Cn T N, w ∈ tb) (j : Nat) (hj : j < N) {index : Nat} (hl : Cond.fieldLink own index (T j).1 (T j).2.1 (T j).2.2.1 ∈ tb) (hv : fs[j]? = some (rv a F k j)) (hq : F k j = some q) (hy : a q = y) (hdg : decode cc pc = .ok (.getfield index, 3))
    (kk : W p l e R s m args below meth c H locs cells slots Q (F0 m (pc + 3) ls (.ref y :: rest))) : W p l e R s m args below meth c H locs cells slots Q (F0 m pc ls (.ref x :: rest)) := by
  obtain ⟨hx, hb, -, ho, hts, -, -, ⟨hK, -⟩, -⟩ := C
  subst hx0; subst hy
  exact va_get (D := E.1) (C := Cn) (T := T) (N := N) (ci := ci) (v := .ref (a q)) hx hb hts hin ho hK h.1.1 k (by rw [wlg_get hk, hc]) hcl j hj (hts _ hl) (fun _ h9 => h9) (by rw [hv]; unfold rv; rw [hq]; rfl) hdg kk
theorem g_putR (C : Cg p s m args meth c cc nL own E b) (h : Hg E b s.heap n a F X H locs) {k ci q x y : Nat} {fs fs1 : List Value} (hk : k < n) (hqn : q < n) (hx0 : a k = x) (hy : a q = y) (hc : celg E a F X k = .inr (ci, fs)) {Cn : String} {T : u_T} {N : Nat} (hcl : cls[ci]? = some (Cn, T, N)) (hin : ∀ w ∈ u_ws Cn T N, w ∈ tb) (ty0 : Nat → FieldType) (hty : ∀ k, k < N → parseFieldDescriptor (T k).2.2.1 = some (ty0 k)) (hnm : ∀ a, a < N → ∀ b, b < N → a ≠ b → (T a).2.1 ≠ (T b).2.1) (j : Nat) (hj : j < N) {index : Nat} (hl : Cond.fieldLink own index (T j).1 (T j).2.1 (T j).2.2.1 ∈ tb) (hfin : (T j).2.2.2 = true) (hdecl : (T j).1 = own) (hnr : narrow (ty0 j) (.ref (a q)) = .ref (a q)) (hfit : fits (ty0 j) (.ref (a q)) = true) (hlen : j < fs.length) (hc1 : celg E a (sF F k j q) X k = .inr (ci, fs1)) (hfs : fs.set j (.ref (a q)) = fs1) (hdg : decode cc pc = .ok (.putfield index, 3))
    (kk : ∀ (H1 : Heap) (locs1 : List Loc), Hg E b s.heap n a (sF F k j q) X H1 locs1 → W p l e R s m args below meth c H1 locs1 cells slots Q (F0 m (pc + 3) ls rest)) : W p l e R s m args below meth c H locs cells slots Q (F0 m pc ls (.ref y :: .ref x :: rest)) := by
  obtain ⟨hx, hb, -, ho, hts, -, -, ⟨hK, -⟩, hname⟩ := C
  subst hx0; subst hy
  obtain ⟨⟨hP, hD, hCl, hFr⟩, hS⟩ := h
  refine va_putF (D := E.1) (C := Cn) (T := T) (N := N) (ci := ci) (ty := ty0 j) hx hb hts hin ty0 hty hnm ho hK hP hD hS k (by rw [wlg_get hk, hc]) hcl j hj (hts _ hl) (fun _ h9 => h9) hfin hname hdecl (hty j hj) hnr hfit hlen hdg (fun H1 locs1 hP1 hD1 hS1 => ?_)
  have e1 : (wlg E n a F X).set k (a k, .inr (ci, fs.set j (.ref (a q)))) = wlg E n a (sF F k j q) X := by
    rw [hfs, ← hc1]
    exact wlg_set hk (fun u hu => sF_1 hu) (fun u _ => rfl) (fun u _ => rfl)
  exact kk H1 locs1 ⟨⟨hP1.to e1, hD1.to e1, hCl.sF hqn, hFr.sF hk⟩, hS1⟩
theorem g_putI (C : Cg p s m args meth c cc nL own E b) (h : Hg E b s.heap n a F X H locs) {k ci x : Nat} {fs fs1 : List Value} {v : Int32} (hk : k < n) (hx0 : a k = x) (hc : celg E a F X k = .inr (ci, fs)) {Cn : String} {T : u_T} {N : Nat} (hcl : cls[ci]? = some (Cn, T, N)) (hin : ∀ w ∈ u_ws Cn T N, w ∈ tb) (ty0 : Nat → FieldType) (hty : ∀ k, k < N → parseFieldDescriptor (T k).2.2.1 = some (ty0 k)) (hnm : ∀ a, a < N → ∀ b, b < N → a ≠ b → (T a).2.1 ≠ (T b).2.1) (j : Nat) (hj : j < N) {index : Nat} (hl : Cond.fieldLink own index (T j).1 (T j).2.1 (T j).2.2.1 ∈ tb) (hfin : (T j).2.2.2 = false) (hnr : narrow (ty0 j) (.int v) = .int v) (hfit : fits (ty0 j) (.int v) = true) (hlen : j < fs.length) (hc1 : celg E a F (sI X k j v) k = .inr (ci, fs1)) (hfs : fs.set j (.int v) = fs1) (hdg : decode cc pc = .ok (.putfield index, 3))
    (kk : ∀ (H1 : Heap) (locs1 : List Loc), Hg E b s.heap n a F (sI X k j v) H1 locs1 → W p l e R s m args below meth c H1 locs1 cells slots Q (F0 m (pc + 3) ls rest)) : W p l e R s m args below meth c H locs cells slots Q (F0 m pc ls (.int v :: .ref x :: rest)) := by
  obtain ⟨hx, hb, -, ho, hts, -, -, ⟨hK, -⟩, hname⟩ := C
  subst hx0
  obtain ⟨⟨hP, hD, hCl, hFr⟩, hS⟩ := h
  refine va_put (D := E.1) (C := Cn) (T := T) (N := N) (ci := ci) (ty := ty0 j) hx hb hts hin ty0 hty hnm ho hK hP hD hS k (by rw [wlg_get hk, hc]) hcl j hj (hts _ hl) (fun _ h9 => h9) hfin (hty j hj) hnr hfit hlen hdg (fun H1 locs1 hP1 hD1 hS1 => ?_)
  have e1 : (wlg E n a F X).set k (a k, .inr (ci, fs.set j (.int v))) = wlg E n a F (sI X k j v) := by
    rw [hfs, ← hc1]
    exact wlg_set hk (fun u _ => rfl) (fun u hu => sI_1 hu) (fun u _ => rfl)
  exact kk H1 locs1 ⟨⟨hP1.to e1, hD1.to e1, hCl, hFr.sI hk⟩, hS1⟩
theorem celg_I {k N : Nat} (hk : kd k = 1000 + N) (hn : N < 1000) : celg E a F X k = .inl (ca E 0, N, .inl (fun j => gI X k j)) := by
  unfold celg
  rw [hk]
  split <;> first | omega | skip
  rename_i q h1 h2 h3 h4 h5 h6 h7 h8 h9
  rw [if_pos (by omega), show 1000 + N - 1000 = N by omega]
theorem celg_B {k N : Nat} (hk : kd k = 2000 + N) (hn : N < 1000) : celg E a F X k = .inl (ca E 1, N, .inl (fun j => gI X k j)) := by
  unfold celg
  rw [hk]
  split <;> first | omega | skip
  rename_i q h1 h2 h3 h4 h5 h6 h7 h8 h9
  rw [if_neg (by omega), if_pos (by omega), show 2000 + N - 2000 = N by omega]
theorem celg_L {k N : Nat} (hk : kd k = 3000 + N) (hn : N < 1000) : celg E a F X k = .inl (ca E 2, N, .inr (.inl (fun j => gL X k j))) := by
  unfold celg
  rw [hk]
  split <;> first | omega | skip
  rename_i q h1 h2 h3 h4 h5 h6 h7 h8 h9
  rw [if_neg (by omega), if_neg (by omega), show 3000 + N - 3000 = N by omega]
theorem fr_I {N : Nat} (hk : kd n = 1000 + N) (hn : N < 1000) (h : Fr n F X) : celg E a F X n = .inl (ca E 0, N, .inl (fun _ => 0)) := by
  rw [celg_I hk hn]
  have : (fun j => gI X n j) = (fun _ => (0 : Int32)) := by funext j; exact (h n (Nat.le_refl n)).2.1 j
  rw [this]
theorem fr_B {N : Nat} (hk : kd n = 2000 + N) (hn : N < 1000) (h : Fr n F X) : celg E a F X n = .inl (ca E 1, N, .inl (fun _ => 0)) := by
  rw [celg_B hk hn]
  have : (fun j => gI X n j) = (fun _ => (0 : Int32)) := by funext j; exact (h n (Nat.le_refl n)).2.1 j
  rw [this]
theorem fr_L {N : Nat} (hk : kd n = 3000 + N) (hn : N < 1000) (h : Fr n F X) : celg E a F X n = .inl (ca E 2, N, .inr (.inl (fun _ => 0))) := by
  rw [celg_L hk hn]
  have : (fun j => gL X n j) = (fun _ => (0 : Int64)) := by funext j; exact (h n (Nat.le_refl n)).2.2 j
  rw [this]
theorem g_stI (C : Cg p s m args meth c cc nL own E b) (h : Hg E b s.heap n a F X H locs) {k N x : Nat} (hkn : k < n) (hx0 : a k = x) (hk : kd k = 1000 + N) (hN : N < 1000) {i v : Int32} {i0 : Nat} (hi : i = nI i0) (hi1 : i0 < N) (hdg : decode cc pc = .ok (.iastore, 1))
    (kk : ∀ (H1 : Heap) (locs1 : List Loc), Hg E b s.heap n a F (sI X k i0 v) H1 locs1 → W p l e R s m args below meth c H1 locs1 cells slots Q (F0 m (pc + 1) ls rest)) : W p l e R s m args below meth c H locs cells slots Q (F0 m pc ls (.int v :: .int i :: .ref x :: rest)) := by
  obtain ⟨hx, hb, -, ho, hts, -, -, ⟨hK, -⟩, hname⟩ := C
  subst hx0; subst hi
  obtain ⟨⟨hP, hD, hCl, hFr⟩, hS⟩ := h
  have hcl : (nI i0).toNatClampNeg = i0 := nI_clamp (by omega)
  refine va_iast hx hb hK hP hD hS k 0 (by rw [wlg_get hkn, celg_I hk hN]) rfl (vp_in_nI hi1 (by omega)) hdg (fun H1 locs1 hP1 hD1 hS1 => ?_)
  have e1 : (wlg E n a F X).set k (a k, .inl (ca E 0, N, .inl (upd (fun j => gI X k j) (nI i0).toNatClampNeg v))) = wlg E n a F (sI X k i0 v) := by
    rw [hcl, ← sI_row, ← celg_I (E := E) (a := a) (F := F) (X := sI X k i0 v) hk hN]
    exact wlg_set hkn (fun u _ => rfl) (fun u hu => sI_1 hu) (fun u _ => rfl)
  exact kk H1 locs1 ⟨⟨hP1.to e1, hD1.to e1, hCl, hFr.sI hkn⟩, hS1⟩
/-- a reference into a row of references -/
theorem g_stR (C : Cg p s m args meth c cc nL own E b) (h : Hg E b s.heap n a F X H locs) {k q N t0 ci x y : Nat} {r : vw_C} {vs : List Value} (hkn : k < n) (hqn : q < n) (hx0 : a k = x) (hy : a q = y) (hc : ∀ G : Fn, celg E a G X k = .inl (ca E t0, N, .inr (.inr (.inr (.inr (fun i => (G k i).map a)))))) (ht : (tys E)[t0]? = some (ca E t0, .object r.1)) (hv : celg E a F X q = .inr (ci, vs)) (hcl : cls[ci]? = some r) {i : Int32} {i0 : Nat} (hi : i = nI i0) (hi1 : i0 < N) (hN : N < 1000) (hdg : decode cc pc = .ok (.aastore, 1))
    (kk : ∀ (H1 : Heap) (locs1 : List Loc), Hg E b s.heap n a (sF F k i0 q) X H1 locs1 → W p l e R s m args below meth c H1 locs1 cells slots Q (F0 m (pc + 1) ls rest)) : W p l e R s m args below meth c H locs cells slots Q (F0 m pc ls (.ref y :: .int i :: .ref x :: rest)) := by
  obtain ⟨hx, hb, -, ho, hts, -, -, ⟨hK, -⟩, hname⟩ := C
  subst hx0; subst hi; subst hy
  obtain ⟨⟨hP, hD, hCl, hFr⟩, hS⟩ := h
  have hcla : (nI i0).toNatClampNeg = i0 := nI_clamp (by omega)
  refine va_astq hx hb hK hP hD hS k t0 q ci (f := fun i => (F k i).map a) (by rw [wlg_get hkn, hc]) ht (by rw [wlg_get hqn, hv]) hcl (vp_in_nI hi1 (by omega)) hdg (fun H1 locs1 hP1 hD1 hS1 => ?_)
  have e1 : (wlg E n a F X).set k (a k, .inl (ca E t0, N, .inr (.inr (.inr (.inr (va_up (fun i => (F k i).map a) (nI i0).toNatClampNeg (some (a q)))))))) = wlg E n a (sF F k i0 q) X := by
    have e2 : va_up (fun i => (F k i).map a) (nI i0).toNatClampNeg (some (a q)) = (fun i => (sF F k i0 q k i).map a) := by
      funext u
      rw [hcla]
      show (if u = i0 then some (a q) else (F k u).map a) = (if k = k ∧ u = i0 then some q else F k u).map a
      by_cases hu : u = i0
      · rw [if_pos hu, if_pos ⟨rfl, hu⟩]; rfl
      · rw [if_neg hu, if_neg (fun z => hu z.2)]
    rw [e2, ← hc]
    exact wlg_set hkn (fun u hu => sF_1 hu) (fun u _ => rfl) (fun u _ => rfl)
  exact kk H1 locs1 ⟨⟨hP1.to e1, hD1.to e1, hCl.sF hqn, hFr.sF hkn⟩, hS1⟩
theorem g_vret {d : Nat → Nat} {n0 : Nat} (C : Cg p s m args meth c cc nL own E b) (h : Hg E b s.heap n d F X H locs) (had : ∀ k, k < n0 → d k = a k) {Fe : Fn} {Xe : Mem} {ne : Nat} (he : n = ne ∧ F = Fe ∧ X = Xe) (hdg : decode cc pc = .ok (.return_, 1)) : W p l e R s m args below meth c H locs cells slots (MQ below (PostG E b n0 a ne Fe Xe) args s cells slots (fun q => b ≤ q)) (F0 m pc ls []) := by
  obtain ⟨hx, hb, -, -, -, hrt, hlk, -⟩ := C
  obtain ⟨rfl, rfl, rfl⟩ := he
  exact W.vret hx hb hrt (fun t ht hW => ⟨⟨d, rfl, had, by show Wg E b n d F X t.heap; rw [ht]; exact h.1⟩, h.2.F ht⟩) h.2.2.2 hdg hlk
theorem g_oinit (C : Cg p s m args meth c cc nL own E b) {x index : Nat} (hsz : ls.size = nL) (hl : Cond.methodLink own index Lib.objectInit ∈ tb) (hi : Cond.instanceMethod Lib.objectInit ∈ tb) (hc : Cond.code Lib.objectInit ⟨#[0xb1]⟩ 1 none ∈ tb) (hf : 1 ≤ R.frames) (hlo : 12 ≤ R.locals) (hdg : decode cc pc = .ok (.invokespecial index, 3))
    (kk : W p l e R s m args below meth c H locs cells slots Q (F0 m (pc + 3) ls [])) : W p l e R s m args below meth c H locs cells slots Q (F0 m pc ls [.ref x]) := by
  obtain ⟨hx, hb, hml, ho, hts, -⟩ := C
  exact W.objInit hx hb ho (hts _ hl) (hts _ hi) (hts _ hc) rfl (hsz.trans hml.symm) rfl hdg hf (by show 2 * 0 + 0 + 12 ≤ _; omega) kk
variable {y : MethodName} {bytes : ByteArray} {maxL index mc ms : Nat} {rm : Room}
theorem g_pre (C : Cg p s m args meth c cc nL own E b) (h : Hg E b s.heap n a F X H locs) {av : List Value} : PreS s H (PreG E b av n a F X) av := ⟨PreG.blind, fun U hU hW => ⟨rfl, ⟨va_K.moved hW.alike C.2.2.2.2.2.2.2.1.1, fun w hw => nst_warm hw hW (C.2.2.2.2.2.2.2.1.2.1 w hw), AO.moved hW.alike C.2.2.2.2.2.2.2.1.2.2.1, by rw [hU]; exact Nat.le_trans C.2.2.2.2.2.2.2.1.2.2.2 h.2.1⟩, by rw [hU]; exact h.1⟩⟩
/-- a constructor's call -/
theorem g_call (C : Cg p s m args meth c cc nL own E b) (h : Hg E b s.heap n a F X H locs) {x n0 ne : Nat} {Fe : Fn} {Xe : Mem} (hM : Met l y (Cond.code y bytes maxL none :: tb) rm (PreG E b [.ref x] n a F X) (PostG E b n0 a ne Fe Xe) mc ms (fun q => b ≤ q)) (hcode : Cond.code y bytes maxL none ∈ tb) (hini : Cond.initialized y.cls ∈ tb) (hin : Cond.instanceMethod y ∈ tb) (hyn : y.name = "<init>") (hl : Cond.methodLink own index y ∈ tb) (hd : y.cls ≠ "java/lang/invoke/MethodHandle" ∧ y.cls ≠ "java/lang/invoke/VarHandle" ∧ (parseMethodDescriptor y.desc).map (fun d => d.parameters.length) = some 0) (hrm : (rm.cells = mc ∧ rm.slots = ms) ∧ rm.frames + 1 ≤ R.frames ∧ 8 + (maxL + 11) + rm.locals ≤ R.locals) (hz : cells + mc ≤ R.cells ∧ slots + ms ≤ R.slots) (hsz : ls.size = nL) (hw : (rest.map fun v => v.category).sum ≤ 8) (hdg : decode cc pc = .ok (.invokespecial index, 3))
    (kk : ∀ (d : Nat → Nat) (H1 : Heap) (locs1 : List Loc), (∀ k, k < n0 → d k = a k) → Hg E b s.heap ne d Fe Xe H1 locs1 → W p l e R s m args below meth c H1 locs1 (cells + mc) (slots + ms) Q (F0 m (pc + 3) ls rest)) : W p l e R s m args below meth c H locs cells slots Q (F0 m pc ls (.ref x :: rest)) := by
  refine va_callv (va_runI (Ts := tb) (As := []) (b := x) (rest := rest) ⟨C.1, C.2.1, C.2.2.1, C.2.2.2.1, C.2.2.2.2.1⟩ hM ⟨callB_of 0 C.2.2.2.2.1 (tb_code hcode) rfl hrm.1.1 hrm.1.2 (C.2.2.2.2.1 _ hini) (C.2.2.2.2.1 _ hl) hd hrm.2, hyn, C.2.2.2.2.1 _ hin⟩ (g_pre C h) rfl rfl hsz rfl (lv_room (m := m) (pc := pc) (ls := ls) (rest := rest) hw) hdg hz) h.2 (fun _ _ h => h) (fun _ h => h) (fun d t H1 locs1 ht _ hw1 hB _ _ hS1 => kk d H1 locs1 hw1 ⟨by rw [← ht]; exact hB, hS1⟩)
theorem g_callN (C : Cg p s m args meth c cc nL own E b) (h : Hg E b s.heap n a F X H locs) {x n0 ne : Nat} {Fe : Fn} {Xe : Mem} {host : String} (hM : Met l y (Cond.code y bytes maxL none :: tb) rm (PreG E b [.ref x] n a F X) (PostG E b n0 a ne Fe Xe) mc ms (fun q => b ≤ q)) (hcode : Cond.code y bytes maxL none ∈ tb) (hini : Cond.initialized y.cls ∈ tb) (hin : Cond.instanceMethod y ∈ tb) (hyn : y.name = "<init>") (hl : Cond.methodLinkNest own index y host ∈ nst) (hd : y.cls ≠ "java/lang/invoke/MethodHandle" ∧ y.cls ≠ "java/lang/invoke/VarHandle" ∧ (parseMethodDescriptor y.desc).map (fun d => d.parameters.length) = some 0) (hrm : (rm.cells = mc ∧ rm.slots = ms) ∧ rm.frames + 1 ≤ R.frames ∧ 8 + (maxL + 11) + rm.locals ≤ R.locals) (hz : cells + mc ≤ R.cells ∧ slots + ms ≤ R.slots) (hsz : ls.size = nL) (hw : (rest.map fun v => v.category).sum ≤ 8) (hdg : decode cc pc = .ok (.invokespecial index, 3))
    (kk : ∀ (d : Nat → Nat) (H1 : Heap) (locs1 : List Loc), (∀ k, k < n0 → d k = a k) → Hg E b s.heap ne d Fe Xe H1 locs1 → W p l e R s m args below meth c H1 locs1 (cells + mc) (slots + ms) Q (F0 m (pc + 3) ls rest)) : W p l e R s m args below meth c H locs cells slots Q (F0 m pc ls (.ref x :: rest)) := by
  refine va_callv (va_runIN (Ts := tb) (As := []) (b := x) (rest := rest) ⟨C.1, C.2.1, C.2.2.1, C.2.2.2.1, C.2.2.2.2.1⟩ hM ⟨va_cnB 0 C.2.2.2.2.1 (tb_code hcode) rfl hrm.1.1 hrm.1.2 (C.2.2.2.2.2.2.2.1.2.1 _ hl) (C.2.2.2.2.1 _ hini) hd hrm.2, hyn, C.2.2.2.2.1 _ hin⟩ (g_pre C h) rfl rfl hsz rfl (lv_room (m := m) (pc := pc) (ls := ls) (rest := rest) hw) hdg hz) h.2 (fun _ _ h => h) (fun _ h => h) (fun d t H1 locs1 ht _ hw1 hB _ _ hS1 => kk d H1 locs1 hw1 ⟨by rw [← ht]; exact hB, hS1⟩)
end CT
