/-! the words that are steady, out of the tables' -/
def tb : List Cond := lw_tbl.filter goodWord
theorem tbm {w : Cond} (i : Nat) (h : lw_tbl[i]? = some w) (g : goodWord w = true) : w ∈ tb := List.mem_filter.mpr ⟨List.mem_of_getElem? h, g⟩
theorem lw_in {w : Cond} (h : w ∈ tables_1) : w ∈ lw_tbl := List.mem_append_right _ h
theorem ta_1 {w : Cond} {i : Nat} (h : tables_1_1[i]? = some w) : w ∈ lw_tbl := lw_in (List.mem_append_left _ (List.mem_of_getElem? h))
theorem ta_2 {w : Cond} {i : Nat} (h : tables_1_2[i]? = some w) : w ∈ lw_tbl := lw_in (List.mem_append_right _ (List.mem_append_left _ (List.mem_of_getElem? h)))
theorem ta_3 {w : Cond} {i : Nat} (h : tables_1_3[i]? = some w) : w ∈ lw_tbl := lw_in (List.mem_append_right _ (List.mem_append_right _ (List.mem_append_left _ (List.mem_of_getElem? h))))
theorem ta_4 {w : Cond} {i : Nat} (h : tables_1_4[i]? = some w) : w ∈ lw_tbl := lw_in (List.mem_append_right _ (List.mem_append_right _ (List.mem_append_right _ (List.mem_append_left _ (List.mem_of_getElem? h)))))
theorem ta_5 {w : Cond} {i : Nat} (h : tables_1_5[i]? = some w) : w ∈ lw_tbl := lw_in (List.mem_append_right _ (List.mem_append_right _ (List.mem_append_right _ (List.mem_append_right _ (List.mem_of_getElem? h)))))
theorem tbm1 {w : Cond} (i : Nat) (h : tables_1_1[i]? = some w) (g : goodWord w = true) : w ∈ tb := List.mem_filter.mpr ⟨ta_1 h, g⟩
theorem tbm2 {w : Cond} (i : Nat) (h : tables_1_2[i]? = some w) (g : goodWord w = true) : w ∈ tb := List.mem_filter.mpr ⟨ta_2 h, g⟩
theorem tbm3 {w : Cond} (i : Nat) (h : tables_1_3[i]? = some w) (g : goodWord w = true) : w ∈ tb := List.mem_filter.mpr ⟨ta_3 h, g⟩
theorem tbm4 {w : Cond} (i : Nat) (h : tables_1_4[i]? = some w) (g : goodWord w = true) : w ∈ tb := List.mem_filter.mpr ⟨ta_4 h, g⟩
theorem tbm5 {w : Cond} (i : Nat) (h : tables_1_5[i]? = some w) (g : goodWord w = true) : w ∈ tb := List.mem_filter.mpr ⟨ta_5 h, g⟩
theorem tb_good {ws : List Cond} (hw : ∀ w ∈ ws, w ∈ tb) : GoodIn tb ws := fun w h => ⟨hw w h, good_of_word (List.mem_filter.mp (hw w h)).2⟩
theorem tb_code {y : MethodName} {b : ByteArray} {n : Nat} {r : Option FieldType} (h : Cond.code y b n r ∈ tb) : GoodIn tb (Cond.code y b n r :: tb) := tb_good (fun w hw => (List.mem_cons.mp hw).elim (fun e => e ▸ h) id)
/-! the memory: ints and longs by node and slot -/
abbrev Mem : Type := (Nat → Nat → Int32) × (Nat → Nat → Int64)
def gI (X : Mem) (k j : Nat) : Int32 := X.1 k j
def gL (X : Mem) (k j : Nat) : Int64 := X.2 k j
def sI (X : Mem) (k j : Nat) (v : Int32) : Mem := (fun a b => if a = k ∧ b = j then v else X.1 a b, X.2)
def sL (X : Mem) (k j : Nat) (v : Int64) : Mem := (X.1, fun a b => if a = k ∧ b = j then v else X.2 a b)
def cI (X : Mem) (k0 k1 sp dp n : Nat) : Mem := (fun a b => if a = k1 then va_cpy (X.1 k0) (X.1 k1) sp dp n b else X.1 a b, X.2)
def cL (X : Mem) (k0 k1 sp dp n : Nat) : Mem := (X.1, fun a b => if a = k1 then va_cpy (X.2 k0) (X.2 k1) sp dp n b else X.2 a b)
/-! the functions' words -/
def lt {α β : Type} (a : α) (f : α → β) : β := f a
def ck (i : Int32) (n : Nat) : Bool := decide (0 ≤ i.toInt) && decide (i.toInt < (n : Int))
def rdI {β : Type} (X : Mem) (k n : Nat) (i : Int32) (G : Int32 → Option β) : Option β := if ck i n = true then G (gI X k i.toNatClampNeg) else none
def rdL {β : Type} (X : Mem) (k n : Nat) (i : Int32) (G : Int64 → Option β) : Option β := if ck i n = true then G (gL X k i.toNatClampNeg) else none
def rdR {β : Type} (n : Nat) (i : Int32) (G : Nat → Option β) : Option β := if ck i n = true then G i.toNatClampNeg else none
def wrI {β : Type} (X : Mem) (k n : Nat) (i v : Int32) (G : Mem → Option β) : Option β := if ck i n = true then G (sI X k i.toNatClampNeg v) else none
def wrB {β : Type} (X : Mem) (k n : Nat) (i v : Int32) (G : Mem → Option β) : Option β := if ck i n = true then G (sI X k i.toNatClampNeg v.toInt8.toInt32) else none
def wrL {β : Type} (X : Mem) (k n : Nat) (i : Int32) (v : Int64) (G : Mem → Option β) : Option β := if ck i n = true then G (sL X k i.toNatClampNeg v) else none
def ckC (n0 n1 : Nat) (sp dp n : Int32) : Bool := decide (0 ≤ sp.toInt) && decide (0 ≤ dp.toInt) && decide (0 ≤ n.toInt) && decide (sp.toNatClampNeg + n.toNatClampNeg ≤ n0) && decide (dp.toNatClampNeg + n.toNatClampNeg ≤ n1)
def acI {β : Type} (X : Mem) (k0 n0 : Nat) (sp : Int32) (k1 n1 : Nat) (dp n : Int32) (G : Mem → Option β) : Option β := if ckC n0 n1 sp dp n = true then G (cI X k0 k1 sp.toNatClampNeg dp.toNatClampNeg n.toNatClampNeg) else none
def acL {β : Type} (X : Mem) (k0 n0 : Nat) (sp : Int32) (k1 n1 : Nat) (dp n : Int32) (G : Mem → Option β) : Option β := if ckC n0 n1 sp dp n = true then G (cL X k0 k1 sp.toNatClampNeg dp.toNatClampNeg n.toNatClampNeg) else none
def ckZ {β : Type} (v : Int32) (G : Option β) : Option β := if v = 0 ∨ v = 1 then G else none
def bd {α β : Type} (o : Option α) (G : α → Option β) : Option β := match o with
  | none => none
  | some a => G a
def bd2 {α γ β : Type} (o : Option (α × γ)) (G : α → γ → Option β) : Option β := match o with
  | none => none
  | some a => G a.1 a.2
def it {α β : Type} (f : α → Option (β ⊕ α)) : Nat → α → Option β
  | 0, _ => none
  | n + 1, a => match f a with
    | none => none
    | some (.inl b) => some b
    | some (.inr a2) => it f n a2
def fin {α β : Type} (f : α → Option (β ⊕ α)) (n : Nat) (fr : β) (c : β ⊕ α) : Prop := match c with
  | .inl b => b = fr
  | .inr a => it f n a = some fr
def upc {α β : Type} (o : Option β) : Option (β ⊕ α) := match o with
  | none => none
  | some b => some (.inl b)
def FU : Nat := 5000
theorem bd_el {α β : Type} {o : Option α} {G : α → Option β} {r : β} (h : bd o G = some r) : ∃ a, o = some a ∧ G a = some r := by
  cases o with
  | none => cases h
  | some a => exact ⟨a, rfl, h⟩
theorem bd2_el {α γ β : Type} {o : Option (α × γ)} {G : α → γ → Option β} {r : β} (h : bd2 o G = some r) : ∃ a b, o = some (a, b) ∧ G a b = some r := by
  cases o with
  | none => cases h
  | some a => exact ⟨a.1, a.2, rfl, h⟩
theorem it_el {α β : Type} {f : α → Option (β ⊕ α)} {n : Nat} {a : α} {fr : β} (h : it f (n + 1) a = some fr) : ∃ c, f a = some c ∧ fin f n fr c := by
  unfold it at h
  cases hf : f a with
  | none => rw [hf] at h; cases h
  | some c =>
    rw [hf] at h
    cases c with
    | inl b => exact ⟨_, rfl, Option.some.inj h⟩
    | inr a2 => exact ⟨_, rfl, h⟩
theorem it_0 {α β : Type} {f : α → Option (β ⊕ α)} {a : α} {fr : β} {P : Prop} (h : it f 0 a = some fr) : P := by cases h
theorem lp_ret {α β : Type} {f : α → Option (β ⊕ α)} {n : Nat} {fr b : β} {c : β ⊕ α} (h : some (Sum.inl b) = some c) (hc : fin f n fr c) : some b = some fr := by
  cases h; exact congrArg some hc
theorem lp_next {α β : Type} {f : α → Option (β ⊕ α)} {n : Nat} {fr : β} {a : α} {c : β ⊕ α} (h : some (Sum.inr a) = some c) (hc : fin f n fr c) : it f n a = some fr := by
  cases h; exact hc
theorem lp_up {α β : Type} {f : α → Option (β ⊕ α)} {n : Nat} {fr : β} {o : Option β} {c : β ⊕ α} (h : upc o = some c) (hc : fin f n fr c) : o = some fr := by
  cases o with
  | none => cases h
  | some b => cases h; exact congrArg some hc
theorem ck_in {i : Int32} {n : Nat} (h : ck i n = true) : vp_in i n := by
  unfold ck at h
  simp only [Bool.and_eq_true, decide_eq_true_eq] at h
  exact vp_in_iff.mpr h
theorem ck_lt {i : Int32} {n : Nat} (h : ck i n = true) : i.toNatClampNeg < n := by
  unfold ck at h
  simp only [Bool.and_eq_true, decide_eq_true_eq] at h
  have : i.toInt.toNat < n := by omega
  exact this
/-! the world: eighty nodes, what each is, and what it holds -/
def kdl : List Nat := [0, 1007, 1, 1016, 1004, 4000, 2, 2, 2, 2, 2, 2, 2, 2, 2, 2, 1, 1016, 1004, 4000, 2, 2, 2, 2, 2, 2, 2, 2, 2, 2, 1, 1016, 1004, 4000, 2, 2, 2, 2, 2, 2, 2, 2, 2, 2, 5, 2120, 4001, 4002, 1010, 1040, 2, 3, 4, 3040, 4, 3040, 4, 3040, 4, 3040, 3, 3, 3, 3, 3, 3, 3, 3, 3, 3, 6, 1083, 1083, 1083, 1083, 1008, 1120, 1004, 1004, 3160]
def kd (k : Nat) : Nat := kdl.getD k 9999
theorem kd_lt {k q : Nat} (h : kd k = q) (hq : q ≠ 9999) : k < 80 := by
  rcases Nat.lt_or_ge k 80 with h1 | h1
  · exact h1
  · have : kd k = 9999 := by
      unfold kd
      rw [List.getD_eq_getElem?_getD, List.getElem?_eq_none (by simpa [kdl] using h1)]
      rfl
    exact absurd (h.symm.trans this) hq
abbrev En : Type := va_G × (Nat → Nat) × (Nat → ClassId) × (Nat → Nat) × (Nat → Nat)
def ad (E : En) (k : Nat) : Nat := E.2.1 k
def ca (E : En) (k : Nat) : ClassId := E.2.2.1 k
def eK (E : En) (k : Nat) : Nat := E.2.2.2.1 k
def eV (E : En) (k : Nat) : Nat := E.2.2.2.2 k
abbrev cls : List vw_C := [(R_Sheet, T_Sheet, 3), (R_Shore, T_Shore, 6), (R_Tape, T_Tape, 6), (R_Thing, T_Thing, 6), (R_Way, T_Way, 5), (R_Tide, T_Tide, 12), (R_Model, T_Model, 16)]
def tys (E : En) : List (ClassId × FieldType) := [(ca E 0, .int), (ca E 1, .byte), (ca E 2, .long), (ca E 3, .object "TideLoans$Thing"), (ca E 4, .object "TideLoans$Sheet"), (ca E 5, .object "TideLoans$Way")]
def cel (E : En) (X : Mem) (k : Nat) : va_E := match kd k with
  | 0 => .inr (5, [.ref (ad E 1), .ref (ad E 2), .ref (ad E 16), .ref (ad E 30), .ref (ad E 44), .ref (ad E 46), .ref (ad E 47), .ref (ad E 48), .ref (ad E 49), .ref (ad E 50), .ref (ad E 51), .int (gI X k 11)])
  | 1 => .inr (1, [.ref (ad E (k + 1)), .ref (ad E (k + 2)), .ref (ad E (k + 3)), .int (gI X k 3), .int (gI X k 4), .int (gI X k 5)])
  | 2 => .inr (3, [.int (gI X k 0), .int (gI X k 1), .int (gI X k 2), .int (gI X k 3), .int (gI X k 4), .int (gI X k 5)])
  | 3 => .inr (4, [.int (gI X k 0), .int (gI X k 1), .int (gI X k 2), .int (gI X k 3), .int (gI X k 4)])
  | 4 => .inr (0, [.ref (ad E (k + 1)), .int (gI X k 1), .int (gI X k 2)])
  | 5 => .inr (2, [.ref (ad E 45), .int (gI X k 1), .int (gI X k 2), .int (gI X k 3), .int (gI X k 4), .int (gI X k 5)])
  | 6 => .inr (6, [.ref (ad E 71), .ref (ad E 72), .ref (ad E 73), .ref (ad E 74), .int (gI X k 4), .ref (ad E 75), .ref (ad E 76), .int (gI X k 7), .ref (ad E 77), .ref (ad E 78), .ref (ad E 79), .int (gI X k 11), .int (gI X k 12), .int (gI X k 13), .int (gI X k 14), .int (gI X k 15)])
  | 4000 => .inl (ca E 3, 10, .inr (.inr (.inr (.inr (fun i => some (ad E (k + 1 + i)))))))
  | 4001 => .inl (ca E 4, 4, .inr (.inr (.inr (.inr (fun i => some (ad E (52 + 2 * i)))))))
  | 4002 => .inl (ca E 5, 10, .inr (.inr (.inr (.inr (fun i => some (ad E (60 + i)))))))
  | q => if q < 2000 then .inl (ca E 0, q - 1000, .inl (fun j => gI X k j)) else if q < 3000 then .inl (ca E 1, q - 2000, .inl (fun j => gI X k j)) else .inl (ca E 2, q - 3000, .inr (.inl (fun j => gL X k j)))
def wl (E : En) (X : Mem) : va_W := (List.range 80).map (fun k => (ad E k, cel E X k))
theorem wl_get {E : En} {X : Mem} {k : Nat} (h : k < 80) : (wl E X)[k]? = some (ad E k, cel E X k) := by
  unfold wl
  rw [List.getElem?_map, List.getElem?_range h]
  rfl
theorem cel_congr {E : En} {X Y : Mem} {k : Nat} (h1 : X.1 k = Y.1 k) (h2 : X.2 k = Y.2 k) : cel E X k = cel E Y k := by
  unfold cel gI gL
  rw [h1, h2]
theorem wl_set {E : En} {X Y : Mem} {k : Nat} (hk : k < 80) (h1 : ∀ a, a ≠ k → X.1 a = Y.1 a) (h2 : ∀ a, a ≠ k → X.2 a = Y.2 a) : (wl E X).set k (ad E k, cel E Y k) = wl E Y := by
  apply List.ext_getElem?
  intro i
  by_cases hi : i = k
  · subst hi
    rw [List.getElem?_set_self (by unfold wl; simpa using hk), wl_get hk]
  · rw [List.getElem?_set_ne (Ne.symm hi)]
    by_cases h80 : i < 80
    · rw [wl_get h80, wl_get h80, cel_congr (h1 i hi) (h2 i hi)]
    · rw [List.getElem?_eq_none (by unfold wl; simpa using h80), List.getElem?_eq_none (by unfold wl; simpa using h80)]
def Ad (E : En) : Nat → Prop := fun q => ∃ k, k < 80 ∧ q = ad E k
theorem wl_D {E : En} {X : Mem} (hi : ∀ i j, i < 80 → j < 80 → ad E i = ad E j → i = j) : va_D (Ad E) (wl E X) := by
  have key : ∀ (k : Nat) (q : Nat × va_E), (wl E X)[k]? = some q → k < 80 ∧ q.1 = ad E k := by
    intro k q h
    have hk : k < 80 := by
      have := (List.getElem?_eq_some_iff.mp h).1
      unfold wl at this
      simpa using this
    rw [wl_get hk] at h
    cases h
    exact ⟨hk, rfl⟩
  refine ⟨fun i j p q h1 h2 e => ?_, fun k q h => ?_⟩
  · obtain ⟨a1, b1⟩ := key i p h1
    obtain ⟨a2, b2⟩ := key j q h2
    exact hi i j a1 a2 (b1.symm.trans (e.trans b2))
  · obtain ⟨a1, b1⟩ := key k q h
    exact ⟨k, a1, b1⟩
/-! what a method's start knows of the tables and of the constant cells -/
def so (i : Nat) : String := if i < 6 then R_Tape else R_Tide
def si (i : Nat) : Nat := [61, 63, 65, 67, 69, 71, 377, 392, 393, 364, 373].getD i 0
def st (i : Nat) : String := ["named", "grudge", "moonless", "twice", "glass", "chair", "of", "worth", "at", "height", "interest"].getD i ""
def slen : List Nat := [5, 6, 8, 5, 5, 5, 2, 5, 2, 6, 8]
def sbyt : List (List Int32) := [[110, 97, 109, 101, 100], [103, 114, 117, 100, 103, 101], [109, 111, 111, 110, 108, 101, 115, 115], [116, 119, 105, 99, 101], [103, 108, 97, 115, 115], [99, 104, 97, 105, 114], [111, 102], [119, 111, 114, 116, 104], [97, 116], [104, 101, 105, 103, 104, 116], [105, 110, 116, 101, 114, 101, 115, 116]]
def St (E : En) (U : State) : Prop := (∀ i, i < 11 → vk_R (so i) (si i) (st i) (eK E i) U) ∧ vk_S 11 slen sbyt (eK E) (eV E) (Ad E) U U.heap ∧ va_Z "java/lang/String" "COMPACT_STRINGS" "Z" (.int 1) (Ad E) U U.heap ∧ va_Zq "jdk/internal/util/Preconditions" "SIOOBE_FORMATTER" "Ljava/util/function/BiFunction;" (Ad E) U U.heap
def isNest : Cond → Bool
  | .methodLinkNest .. => true
  | _ => false
def nst : List Cond := lw_tbl.filter isNest
theorem nsm1 {w : Cond} (i : Nat) (h : tables_1_1[i]? = some w) (g : isNest w = true) : w ∈ nst := List.mem_filter.mpr ⟨ta_1 h, g⟩
theorem nsm2 {w : Cond} (i : Nat) (h : tables_1_2[i]? = some w) (g : isNest w = true) : w ∈ nst := List.mem_filter.mpr ⟨ta_2 h, g⟩
theorem nsm3 {w : Cond} (i : Nat) (h : tables_1_3[i]? = some w) (g : isNest w = true) : w ∈ nst := List.mem_filter.mpr ⟨ta_3 h, g⟩
theorem nsm4 {w : Cond} (i : Nat) (h : tables_1_4[i]? = some w) (g : isNest w = true) : w ∈ nst := List.mem_filter.mpr ⟨ta_4 h, g⟩
theorem nsm5 {w : Cond} (i : Nat) (h : tables_1_5[i]? = some w) (g : isNest w = true) : w ∈ nst := List.mem_filter.mpr ⟨ta_5 h, g⟩
theorem nsm {w : Cond} (i : Nat) (h : lw_tbl[i]? = some w) (g : isNest w = true) : w ∈ nst := List.mem_filter.mpr ⟨List.mem_of_getElem? h, g⟩
def Kx (E : En) (U : State) : Prop := va_K E.1 cls (tys E) U ∧ (∀ i j, i < 80 → j < 80 → ad E i = ad E j → i = j) ∧ (∀ w ∈ nst, va_Nw w U) ∧ St E U
theorem nst_warm {w : Cond} (hw : w ∈ nst) {s U : State} (hW : s.WarmedH U.vm) (h : va_Nw w s) : va_Nw w U := by
  have h1 := (List.mem_filter.mp hw).2
  cases w <;> first | exact va_Nw.warmM hW h | (cases h1)
theorem nst_same {w : Cond} (hw : w ∈ nst) {s U : State} (hW : s.vm = U.vm) (h : va_Nw w s) : va_Nw w U := by
  have h1 := (List.mem_filter.mp hw).2
  cases w <;> first | exact va_Nw.same rfl hW h | (cases h1)
theorem Kx.warm {E : En} {s U : State} (h : Kx E s) (hW : s.WarmedH U.vm) (hq : ∀ a : Nat, a < s.heap.size → ¬ Ad E a → U.heap[a]? = s.heap[a]?) : Kx E U := by
  obtain ⟨h1, h2, h3, h4, h5, h6, h7⟩ := h
  exact ⟨va_K.moved hW.alike h1, h2, fun w hw => nst_warm hw hW (h3 w hw), fun i hi => (h4 i hi).warm hW, (vk_S.moved hW.alike h5).kept hq, (va_Z.moved hW.alike h6).kept hq, (va_Zq.moved hW.alike h7).kept hq⟩
theorem Kx.calling {E : En} {U : State} {g : JFrame} {mk : MethodId} {a : Array Value} (h : Kx E U) : Kx E (U.calling g mk a) := by
  obtain ⟨h1, h2, h3, h4, h5, h6, h7⟩ := h
  exact ⟨va_K.moved (u := U) (U := U.calling g mk a) (Vm.Alike.refl U.vm) h1, h2, fun w hw => nst_same hw (s := U) (U := U.calling g mk a) rfl (h3 w hw), fun i hi => (h4 i hi).same rfl, vk_S.moved (u := U) (U := U.calling g mk a) (Vm.Alike.refl U.vm) h5, va_Z.moved (u := U) (U := U.calling g mk a) (Vm.Alike.refl U.vm) h6, va_Zq.moved (u := U) (U := U.calling g mk a) (Vm.Alike.refl U.vm) h7⟩
def Hs (E : En) (H0 : Heap) (X : Mem) (H : Heap) (locs : List Loc) : Prop := va_P E.1 cls (wl E X) H ∧ va_S (Ad E) H0 H locs
def PreC (E : En) (av : List Value) (X : Mem) : Array Value → State → Prop := va_Pc av (fun U => Kx E U ∧ va_P E.1 cls (wl E X) U.heap)
def PostI (E : En) (r : Int32) (X : Mem) : Array Value → State → Outcome → State → Prop := va_Qi (S := Unit) (fun v _ => v = r) (fun _ t => va_P E.1 cls (wl E X) t.heap) (Ad E)
def PostL (E : En) (r : Int64) (X : Mem) : Array Value → State → Outcome → State → Prop := va_Ql (S := Unit) (fun v _ => v = r) (fun _ t => va_P E.1 cls (wl E X) t.heap) (Ad E)
def PostV (E : En) (X : Mem) : Array Value → State → Outcome → State → Prop := va_Qv (S := Unit) (fun _ => True) (fun _ t => va_P E.1 cls (wl E X) t.heap) (Ad E)
def PostR (E : En) (r : Nat) (X : Mem) : Array Value → State → Outcome → State → Prop := va_Qr (S := Unit) (fun _ => True) (fun _ a t => a = eK E r ∧ va_P E.1 cls (wl E X) t.heap) (Ad E)
theorem PreC.blind {E : En} {av : List Value} {X : Mem} : FrameBlind (PreC E av X) := fun _ _ _ _ q => ⟨q.1, q.2.1.calling, q.2.2⟩
/-- the context of a walk -/
def Cx (p : Program) (s : State) (m : MethodId) (args : Array Value) (meth : Method) (c : Code) (cc : ByteArray) (nL : Nat) (own : String) (ret : Option FieldType) (E : En) : Prop :=
  p.tables.exec = Jvm.exec ∧ c.code = cc ∧ c.maxLocals = nL ∧ s.vm.findClass own = some m.cls ∧ (∀ w ∈ tb, w.before args s = true) ∧ meth.sig.returnType = ret ∧ meth.locks = false ∧ Kx E s
theorem met_of {l : Launch} {y : MethodName} {cc : ByteArray} {nL : Nat} {ret : Option FieldType} {rm : Room} {E : En} {av : List Value} {X : Mem} {Qc : Array Value → State → Outcome → State → Prop} (hy : plainName y.cls = true) (hn : (lg_sl av).length ≤ nL)
    (body : ∀ (p : Program) (e : Env) (s : State) (m : MethodId) (below : List Frame) (meth : Method) (c : Code), Cx p s m av.toArray meth c cc nL y.cls ret E → Hs E s.heap X s.heap [] → ∀ ls : Array Slot, lv_has ls nL (lv_args 0 av) →
      W p l e rm s m av.toArray below meth c s.heap [] 0 0 (MQ below Qc av.toArray s 0 0 (Ad E)) (F0 m 0 ls [])) : Met l y (Cond.code y cc nL ret :: tb) rm (PreC E av X) Qc 0 0 (Ad E) := by
  refine Met.ofW (cc := cc) (maxL := nL) (ret := ret) hy rfl ?_
  intro p e s m args below meth c s₁ B hml hv
  obtain ⟨rfl, hKx, hP⟩ := hv
  have hl := lv_entry av (n := nL) hn
  rw [lg_entry_eq]
  generalize (lg_sl av ++ List.replicate (nL - (lg_sl av).length) Slot.unset).toArray = ls at hl ⊢
  exact body p e s m below meth c ⟨B.exec, B.bytes, hml, findClass_of_methodNamed B.named, fun w hw => atoms_spec (ws := Cond.code y cc nL ret :: tb) B.pre w (List.mem_cons_of_mem _ hw), B.returns, B.notSynchronized, hKx⟩ ⟨hP, va_S.rf⟩ ls hl
theorem sI_1 {X : Mem} {k j : Nat} {v : Int32} {a : Nat} (ha : a ≠ k) : X.1 a = (sI X k j v).1 a := by
  funext b
  show X.1 a b = if a = k ∧ b = j then v else X.1 a b
  rw [if_neg (fun q => ha q.1)]
theorem sL_1 {X : Mem} {k j : Nat} {v : Int64} {a : Nat} (ha : a ≠ k) : X.2 a = (sL X k j v).2 a := by
  funext b
  show X.2 a b = if a = k ∧ b = j then v else X.2 a b
  rw [if_neg (fun q => ha q.1)]
theorem sI_row {X : Mem} {k j : Nat} {v : Int32} : (fun b => gI (sI X k j v) k b) = upd (fun b => gI X k b) j v := by
  funext b
  show (if k = k ∧ b = j then v else X.1 k b) = upd (fun b => X.1 k b) j v b
  by_cases hb : b = j
  · subst hb; rw [if_pos ⟨rfl, rfl⟩, pk_us]
  · rw [if_neg (fun q => hb q.2), pk_un hb]
theorem sL_row {X : Mem} {k j : Nat} {v : Int64} : (fun b => gL (sL X k j v) k b) = vp_updL (fun b => gL X k b) j v := by
  funext b
  show (if k = k ∧ b = j then v else X.2 k b) = vp_updL (fun b => X.2 k b) j v b
  by_cases hb : b = j
  · subst hb; rw [if_pos ⟨rfl, rfl⟩, pk_uLs]
  · rw [if_neg (fun q => hb q.2), pk_uLn hb]
section RW
variable {p : Program} {l : Launch} {e : Env} {R : Room} {s : State} {m : MethodId} {args : Array Value} {below : List Frame} {meth : Method} {c : Code} {H : Heap} {locs : List Loc} {cells slots : Nat} {Q : State → Prop}
variable {cc : ByteArray} {nL : Nat} {own : String} {ret : Option FieldType} {E : En} {X : Mem} {pc : Nat} {ls : Array Slot} {rest : List Value} {β : Type} {fr : β}
theorem r_top {F : Int32 → Option β} {x : Int32} (h : lt x F = some fr) (kk : ∀ v, F v = some fr → W p l e R s m args below meth c H locs cells slots Q (F0 m pc ls (.int v :: rest))) : W p l e R s m args below meth c H locs cells slots Q (F0 m pc ls (.int x :: rest)) := kk x h
theorem r_topL {F : Int64 → Option β} {x : Int64} (h : lt x F = some fr) (kk : ∀ v, F v = some fr → W p l e R s m args below meth c H locs cells slots Q (F0 m pc ls (.long v :: rest))) : W p l e R s m args below meth c H locs cells slots Q (F0 m pc ls (.long x :: rest)) := kk x h
/-- a field, any -/
theorem r_get (C : Cx p s m args meth c cc nL own ret E) (hS : Hs E s.heap X H locs) {k ci : Nat} {fs : List Value} (hk : k < 80) (hc : cel E X k = .inr (ci, fs)) {Cn : String} {T : u_T} {N : Nat} (hcl : cls[ci]? = some (Cn, T, N)) (hin : ∀ w ∈ u_ws Cn T N, w ∈ tb) (j : Nat) (hj : j < N) {index : Nat} (hl : Cond.fieldLink own index (T j).1 (T j).2.1 (T j).2.2.1 ∈ tb) {v : Value} (hv : fs[j]? = some v) (hdg : decode cc pc = .ok (.getfield index, 3))
    (kk : W p l e R s m args below meth c H locs cells slots Q (F0 m (pc + 3) ls (v :: rest))) : W p l e R s m args below meth c H locs cells slots Q (F0 m pc ls (.ref (ad E k) :: rest)) := by
  obtain ⟨hx, hb, -, ho, hts, -, -, hK, -⟩ := C
  exact va_get (D := E.1) (C := Cn) (T := T) (N := N) (ci := ci) hx hb hts hin ho hK hS.1 k (by rw [wl_get hk, hc]) hcl j hj (hts _ hl) (fun _ h9 => h9) hv hdg kk
theorem r_getI (C : Cx p s m args meth c cc nL own ret E) (hS : Hs E s.heap X H locs) {k ci : Nat} {fs : List Value} (hk : k < 80) (hc : cel E X k = .inr (ci, fs)) {Cn : String} {T : u_T} {N : Nat} (hcl : cls[ci]? = some (Cn, T, N)) (hin : ∀ w ∈ u_ws Cn T N, w ∈ tb) (j : Nat) (hj : j < N) {index : Nat} (hl : Cond.fieldLink own index (T j).1 (T j).2.1 (T j).2.2.1 ∈ tb) {x : Int32} (hv : fs[j]? = some (.int x)) {G : Int32 → Option β} (h : lt x G = some fr) (hdg : decode cc pc = .ok (.getfield index, 3))
    (kk : ∀ v : Int32, G v = some fr → W p l e R s m args below meth c H locs cells slots Q (F0 m (pc + 3) ls (.int v :: rest))) : W p l e R s m args below meth c H locs cells slots Q (F0 m pc ls (.ref (ad E k) :: rest)) :=
  r_get C hS hk hc hcl hin j hj hl hv hdg (kk x h)
theorem r_putI (C : Cx p s m args meth c cc nL own ret E) (hS : Hs E s.heap X H locs) {k ci : Nat} {fs fs1 : List Value} (hk : k < 80) (hc : cel E X k = .inr (ci, fs)) {Cn : String} {T : u_T} {N : Nat} (hcl : cls[ci]? = some (Cn, T, N)) (hin : ∀ w ∈ u_ws Cn T N, w ∈ tb) (ty0 : Nat → FieldType) (hty : ∀ k, k < N → parseFieldDescriptor (T k).2.2.1 = some (ty0 k)) (hnm : ∀ a, a < N → ∀ b, b < N → a ≠ b → (T a).2.1 ≠ (T b).2.1) (j : Nat) (hj : j < N) {index : Nat} (hl : Cond.fieldLink own index (T j).1 (T j).2.1 (T j).2.2.1 ∈ tb) (hfin : (T j).2.2.2 = false) {v : Int32} (hn : narrow (ty0 j) (.int v) = .int v) (hfit : fits (ty0 j) (.int v) = true) (hlen : j < fs.length) (hc1 : cel E (sI X k j v) k = .inr (ci, fs1)) (hfs : fs.set j (.int v) = fs1) {G : Mem → Option β} (h : lt (sI X k j v) G = some fr) (hdg : decode cc pc = .ok (.putfield index, 3))
    (kk : ∀ (Y : Mem) (H1 : Heap) (locs1 : List Loc), Hs E s.heap Y H1 locs1 → G Y = some fr → W p l e R s m args below meth c H1 locs1 cells slots Q (F0 m (pc + 3) ls rest)) : W p l e R s m args below meth c H locs cells slots Q (F0 m pc ls (.int v :: .ref (ad E k) :: rest)) := by
  obtain ⟨hx, hb, -, ho, hts, -, -, hK, hi, -⟩ := C
  refine va_put (D := E.1) (C := Cn) (T := T) (N := N) (ci := ci) (ty := ty0 j) hx hb hts hin ty0 hty hnm ho hK hS.1 (wl_D hi) hS.2 k (by rw [wl_get hk, hc]) hcl j hj (hts _ hl) (fun _ h9 => h9) hfin (hty j hj) hn hfit hlen hdg (fun H1 locs1 hP1 _ hS1 => ?_)
  refine kk (sI X k j v) H1 locs1 ⟨?_, hS1⟩ h
  rw [hfs, ← hc1, wl_set (X := X) (Y := sI X k j v) hk (fun a ha => sI_1 ha) (fun a _ => rfl)] at hP1
  exact hP1
theorem cel_I {k n : Nat} (hk : kd k = 1000 + n) (hn : n < 1000) : cel E X k = .inl (ca E 0, n, .inl (fun j => gI X k j)) := by
  unfold cel
  rw [hk]
  split <;> first | omega | skip
  rename_i q h1 h2 h3 h4 h5 h6 h7 h8 h9
  rw [if_pos (by omega), show 1000 + n - 1000 = n by omega]
theorem cel_B {k n : Nat} (hk : kd k = 2000 + n) (hn : n < 1000) : cel E X k = .inl (ca E 1, n, .inl (fun j => gI X k j)) := by
  unfold cel
  rw [hk]
  split <;> first | omega | skip
  rename_i q h1 h2 h3 h4 h5 h6 h7 h8 h9
  rw [if_neg (by omega), if_pos (by omega), show 2000 + n - 2000 = n by omega]
theorem cel_L {k n : Nat} (hk : kd k = 3000 + n) (hn : n < 1000) : cel E X k = .inl (ca E 2, n, .inr (.inl (fun j => gL X k j))) := by
  unfold cel
  rw [hk]
  split <;> first | omega | skip
  rename_i q h1 h2 h3 h4 h5 h6 h7 h8 h9
  rw [if_neg (by omega), if_neg (by omega), show 3000 + n - 3000 = n by omega]
theorem if_tr {c : Prop} [Decidable c] {a : Option β} (h : (if c then a else none) = some fr) : c ∧ a = some fr := by
  by_cases hc : c
  · rw [if_pos hc] at h; exact ⟨hc, h⟩
  · rw [if_neg hc] at h; cases h
theorem r_ldI (C : Cx p s m args meth c cc nL own ret E) (hS : Hs E s.heap X H locs) {k n : Nat} (hk : kd k = 1000 + n) (hn : n < 1000) {i : Int32} {G : Int32 → Option β} (h : rdI X k n i G = some fr) (hdg : decode cc pc = .ok (.iaload, 1))
    (kk : ∀ v : Int32, G v = some fr → W p l e R s m args below meth c H locs cells slots Q (F0 m (pc + 1) ls (.int v :: rest))) : W p l e R s m args below meth c H locs cells slots Q (F0 m pc ls (.int i :: .ref (ad E k) :: rest)) := by
  obtain ⟨hx, hb, -, ho, hts, -, -, hK, -⟩ := C
  obtain ⟨h1, h2⟩ := if_tr h
  exact va_iald hx hb hK hS.1 k 0 (by rw [wl_get (kd_lt hk (by omega)), cel_I hk hn]) rfl (ck_in h1) hdg (kk _ h2)
theorem r_ldB (C : Cx p s m args meth c cc nL own ret E) (hS : Hs E s.heap X H locs) {k n : Nat} (hk : kd k = 2000 + n) (hn : n < 1000) {i : Int32} {G : Int32 → Option β} (h : rdI X k n i G = some fr) (hdg : decode cc pc = .ok (.baload, 1))
    (kk : ∀ v : Int32, G v = some fr → W p l e R s m args below meth c H locs cells slots Q (F0 m (pc + 1) ls (.int v :: rest))) : W p l e R s m args below meth c H locs cells slots Q (F0 m pc ls (.int i :: .ref (ad E k) :: rest)) := by
  obtain ⟨hx, hb, -, ho, hts, -, -, hK, -⟩ := C
  obtain ⟨h1, h2⟩ := if_tr h
  exact va_bald hx hb hK hS.1 k 1 (by rw [wl_get (kd_lt hk (by omega)), cel_B hk hn]) rfl (ck_in h1) hdg (kk _ h2)
theorem r_ldL (C : Cx p s m args meth c cc nL own ret E) (hS : Hs E s.heap X H locs) {k n : Nat} (hk : kd k = 3000 + n) (hn : n < 1000) {i : Int32} {G : Int64 → Option β} (h : rdL X k n i G = some fr) (hdg : decode cc pc = .ok (.laload, 1))
    (kk : ∀ v : Int64, G v = some fr → W p l e R s m args below meth c H locs cells slots Q (F0 m (pc + 1) ls (.long v :: rest))) : W p l e R s m args below meth c H locs cells slots Q (F0 m pc ls (.int i :: .ref (ad E k) :: rest)) := by
  obtain ⟨hx, hb, -, ho, hts, -, -, hK, -⟩ := C
  obtain ⟨h1, h2⟩ := if_tr h
  exact va_lald hx hb hK hS.1 k 2 (by rw [wl_get (kd_lt hk (by omega)), cel_L hk hn]) rfl (ck_in h1) hdg (kk _ h2)
theorem r_stI (C : Cx p s m args meth c cc nL own ret E) (hS : Hs E s.heap X H locs) {k n : Nat} (hk : kd k = 1000 + n) (hn : n < 1000) {i v : Int32} {G : Mem → Option β} (h : wrI X k n i v G = some fr) (hdg : decode cc pc = .ok (.iastore, 1))
    (kk : ∀ (Y : Mem) (H1 : Heap) (locs1 : List Loc), Hs E s.heap Y H1 locs1 → G Y = some fr → W p l e R s m args below meth c H1 locs1 cells slots Q (F0 m (pc + 1) ls rest)) : W p l e R s m args below meth c H locs cells slots Q (F0 m pc ls (.int v :: .int i :: .ref (ad E k) :: rest)) := by
  obtain ⟨hx, hb, -, ho, hts, -, -, hK, hi, -⟩ := C
  obtain ⟨h1, h2⟩ := if_tr h
  have hk8 := kd_lt hk (by omega)
  refine va_iast hx hb hK hS.1 (wl_D hi) hS.2 k 0 (by rw [wl_get hk8, cel_I hk hn]) rfl (ck_in h1) hdg (fun H1 locs1 hP1 _ hS1 => kk _ H1 locs1 ⟨?_, hS1⟩ h2)
  rw [← sI_row, ← cel_I (E := E) (X := sI X k i.toNatClampNeg v) hk hn, wl_set (X := X) hk8 (fun a ha => sI_1 ha) (fun a _ => rfl)] at hP1
  exact hP1
theorem r_stB (C : Cx p s m args meth c cc nL own ret E) (hS : Hs E s.heap X H locs) {k n : Nat} (hk : kd k = 2000 + n) (hn : n < 1000) {i v : Int32} {G : Mem → Option β} (h : wrB X k n i v G = some fr) (hdg : decode cc pc = .ok (.bastore, 1))
    (kk : ∀ (Y : Mem) (H1 : Heap) (locs1 : List Loc), Hs E s.heap Y H1 locs1 → G Y = some fr → W p l e R s m args below meth c H1 locs1 cells slots Q (F0 m (pc + 1) ls rest)) : W p l e R s m args below meth c H locs cells slots Q (F0 m pc ls (.int v :: .int i :: .ref (ad E k) :: rest)) := by
  obtain ⟨hx, hb, -, ho, hts, -, -, hK, hi, -⟩ := C
  obtain ⟨h1, h2⟩ := if_tr h
  have hk8 := kd_lt hk (by omega)
  refine va_bast hx hb hK hS.1 (wl_D hi) hS.2 k 1 (by rw [wl_get hk8, cel_B hk hn]) rfl (ck_in h1) hdg (fun H1 locs1 hP1 _ hS1 => kk _ H1 locs1 ⟨?_, hS1⟩ h2)
  rw [vp_nar_byte, ← sI_row, ← cel_B (E := E) (X := sI X k i.toNatClampNeg v.toInt8.toInt32) hk hn, wl_set (X := X) hk8 (fun a ha => sI_1 ha) (fun a _ => rfl)] at hP1
  exact hP1
theorem r_stL (C : Cx p s m args meth c cc nL own ret E) (hS : Hs E s.heap X H locs) {k n : Nat} (hk : kd k = 3000 + n) (hn : n < 1000) {i : Int32} {v : Int64} {G : Mem → Option β} (h : wrL X k n i v G = some fr) (hdg : decode cc pc = .ok (.lastore, 1))
    (kk : ∀ (Y : Mem) (H1 : Heap) (locs1 : List Loc), Hs E s.heap Y H1 locs1 → G Y = some fr → W p l e R s m args below meth c H1 locs1 cells slots Q (F0 m (pc + 1) ls rest)) : W p l e R s m args below meth c H locs cells slots Q (F0 m pc ls (.long v :: .int i :: .ref (ad E k) :: rest)) := by
  obtain ⟨hx, hb, -, ho, hts, -, -, hK, hi, -⟩ := C
  obtain ⟨h1, h2⟩ := if_tr h
  have hk8 := kd_lt hk (by omega)
  refine va_last hx hb hK hS.1 (wl_D hi) hS.2 k 2 (by rw [wl_get hk8, cel_L hk hn]) rfl (ck_in h1) hdg (fun H1 locs1 hP1 _ hS1 => kk _ H1 locs1 ⟨?_, hS1⟩ h2)
  rw [← sL_row, ← cel_L (E := E) (X := sL X k i.toNatClampNeg v) hk hn, wl_set (X := X) (Y := sL X k i.toNatClampNeg v) hk8 (fun a _ => rfl) (fun a ha => sL_1 ha)] at hP1
  exact hP1
theorem r_ldT (C : Cx p s m args meth c cc nL own ret E) (hS : Hs E s.heap X H locs) {k : Nat} (hk : kd k = 4000) {i : Int32} {G : Nat → Option β} (h : rdR 10 i G = some fr) (hdg : decode cc pc = .ok (.aaload, 1))
    (kk : ∀ j : Nat, j < 10 → G j = some fr → W p l e R s m args below meth c H locs cells slots Q (F0 m (pc + 1) ls (.ref (ad E (k + 1 + j)) :: rest))) : W p l e R s m args below meth c H locs cells slots Q (F0 m pc ls (.int i :: .ref (ad E k) :: rest)) := by
  obtain ⟨hx, hb, -, ho, hts, -, -, hK, -⟩ := C
  obtain ⟨h1, h2⟩ := if_tr h
  exact va_aldq (f := fun i => some (ad E (k + 1 + i))) hx hb hK hS.1 k 3 (by rw [wl_get (kd_lt hk (by decide))]; unfold cel; rw [hk]; rfl) rfl (ck_in h1) hdg (kk _ (ck_lt h1) h2)
theorem r_ldS (C : Cx p s m args meth c cc nL own ret E) (hS : Hs E s.heap X H locs) {i : Int32} {G : Nat → Option β} (h : rdR 4 i G = some fr) (hdg : decode cc pc = .ok (.aaload, 1))
    (kk : ∀ j : Nat, j < 4 → G j = some fr → W p l e R s m args below meth c H locs cells slots Q (F0 m (pc + 1) ls (.ref (ad E (52 + 2 * j)) :: rest))) : W p l e R s m args below meth c H locs cells slots Q (F0 m pc ls (.int i :: .ref (ad E 46) :: rest)) := by
  obtain ⟨hx, hb, -, ho, hts, -, -, hK, -⟩ := C
  obtain ⟨h1, h2⟩ := if_tr h
  exact va_aldq (f := fun i => some (ad E (52 + 2 * i))) hx hb hK hS.1 46 4 (by rw [wl_get (by omega)]; rfl) rfl (ck_in h1) hdg (kk _ (ck_lt h1) h2)
theorem r_ldW (C : Cx p s m args meth c cc nL own ret E) (hS : Hs E s.heap X H locs) {i : Int32} {G : Nat → Option β} (h : rdR 10 i G = some fr) (hdg : decode cc pc = .ok (.aaload, 1))
    (kk : ∀ j : Nat, j < 10 → G j = some fr → W p l e R s m args below meth c H locs cells slots Q (F0 m (pc + 1) ls (.ref (ad E (60 + j)) :: rest))) : W p l e R s m args below meth c H locs cells slots Q (F0 m pc ls (.int i :: .ref (ad E 47) :: rest)) := by
  obtain ⟨hx, hb, -, ho, hts, -, -, hK, -⟩ := C
  obtain ⟨h1, h2⟩ := if_tr h
  exact va_aldq (f := fun i => some (ad E (60 + i))) hx hb hK hS.1 47 5 (by rw [wl_get (by omega)]; rfl) rfl (ck_in h1) hdg (kk _ (ck_lt h1) h2)
/-! the objects' cells by their kinds -/
theorem cel_Tide : cel E X 0 = .inr (5, [.ref (ad E 1), .ref (ad E 2), .ref (ad E 16), .ref (ad E 30), .ref (ad E 44), .ref (ad E 46), .ref (ad E 47), .ref (ad E 48), .ref (ad E 49), .ref (ad E 50), .ref (ad E 51), .int (gI X 0 11)]) := rfl
theorem cel_Tape : cel E X 44 = .inr (2, [.ref (ad E 45), .int (gI X 44 1), .int (gI X 44 2), .int (gI X 44 3), .int (gI X 44 4), .int (gI X 44 5)]) := rfl
theorem cel_Model : cel E X 70 = .inr (6, [.ref (ad E 71), .ref (ad E 72), .ref (ad E 73), .ref (ad E 74), .int (gI X 70 4), .ref (ad E 75), .ref (ad E 76), .int (gI X 70 7), .ref (ad E 77), .ref (ad E 78), .ref (ad E 79), .int (gI X 70 11), .int (gI X 70 12), .int (gI X 70 13), .int (gI X 70 14), .int (gI X 70 15)]) := rfl
theorem cel_Shore {k : Nat} (hk : kd k = 1) : cel E X k = .inr (1, [.ref (ad E (k + 1)), .ref (ad E (k + 2)), .ref (ad E (k + 3)), .int (gI X k 3), .int (gI X k 4), .int (gI X k 5)]) := by unfold cel; rw [hk]; rfl
theorem cel_Thing {k : Nat} (hk : kd k = 2) : cel E X k = .inr (3, [.int (gI X k 0), .int (gI X k 1), .int (gI X k 2), .int (gI X k 3), .int (gI X k 4), .int (gI X k 5)]) := by unfold cel; rw [hk]; rfl
theorem cel_Way {k : Nat} (hk : kd k = 3) : cel E X k = .inr (4, [.int (gI X k 0), .int (gI X k 1), .int (gI X k 2), .int (gI X k 3), .int (gI X k 4)]) := by unfold cel; rw [hk]; rfl
theorem cel_Sheet {k : Nat} (hk : kd k = 4) : cel E X k = .inr (0, [.ref (ad E (k + 1)), .int (gI X k 1), .int (gI X k 2)]) := by unfold cel; rw [hk]; rfl
theorem gs_same {X : Mem} {k j : Nat} {v : Int32} : gI (sI X k j v) k j = v := if_pos ⟨rfl, rfl⟩
theorem gs_slot {X : Mem} {k a j b : Nat} {v : Int32} (h : b ≠ j) : gI (sI X k j v) a b = gI X a b := if_neg (fun q => h q.2)
theorem gs_node {X : Mem} {k a j b : Nat} {v : Int32} (h : a ≠ k) : gI (sI X k j v) a b = gI X a b := if_neg (fun q => h q.1)
theorem kd_all {P : Nat → Nat → Bool} (h : (List.range 80).all (fun k => P k (kd k)) = true) {k : Nat} (hk : k < 80) : P k (kd k) = true := List.all_eq_true.mp h k (List.mem_range.mpr hk)
theorem kd_heights {k : Nat} (h : kd k = 1) : kd (k + 1) = 1016 := by
  have := kd_all (P := fun k q => !(q == 1) || kd (k + 1) == 1016) (by decide +kernel) (kd_lt h (by decide))
  simp only [h] at this
  simpa using this
theorem kd_purses {k : Nat} (h : kd k = 1) : kd (k + 2) = 1004 := by
  have := kd_all (P := fun k q => !(q == 1) || kd (k + 2) == 1004) (by decide +kernel) (kd_lt h (by decide))
  simp only [h] at this
  simpa using this
theorem kd_things {k : Nat} (h : kd k = 1) : kd (k + 3) = 4000 := by
  have := kd_all (P := fun k q => !(q == 1) || kd (k + 3) == 4000) (by decide +kernel) (kd_lt h (by decide))
  simp only [h] at this
  simpa using this
theorem kd_numbers {k : Nat} (h : kd k = 4) : kd (k + 1) = 3040 := by
  have := kd_all (P := fun k q => !(q == 4) || kd (k + 1) == 3040) (by decide +kernel) (kd_lt h (by decide))
  simp only [h] at this
  simpa using this
theorem kd_thing {k j : Nat} (h : kd k = 4000) (hj : j < 10) : kd (k + 1 + j) = 2 := by
  have := kd_all (P := fun k q => !(q == 4000) || (List.range 10).all (fun j => kd (k + 1 + j) == 2)) (by decide +kernel) (kd_lt h (by decide))
  simp only [h] at this
  have h2 : ∀ x, x < 10 → kd (k + 1 + x) = 2 := by simpa using this
  exact h2 j hj
theorem kd_sheet {j : Nat} (hj : j < 4) : kd (52 + 2 * j) = 4 := by
  have h : (List.range 4).all (fun j => kd (52 + 2 * j) == 4) = true := by decide +kernel
  simpa using List.all_eq_true.mp h j (List.mem_range.mpr hj)
theorem kd_way {j : Nat} (hj : j < 10) : kd (60 + j) = 3 := by
  have h : (List.range 10).all (fun j => kd (60 + j) == 3) = true := by decide +kernel
  simpa using List.all_eq_true.mp h j (List.mem_range.mpr hj)
theorem wP {D : va_G} {ws : va_W} {t : State} {H : Heap} (ht : t.heap = H) (h : va_P D cls ws H) : va_P D cls ws t.heap := by rw [ht]; exact h
/-! returns -/
theorem r_iret {r : Int32} {Y : Mem} (C : Cx p s m args meth c cc nL own ret E) (hS : Hs E s.heap X H locs) {v : Int32} (hr : ret = some .int) (h : some (v, X) = some (r, Y)) (hdg : decode cc pc = .ok (.ireturn, 1)) : W p l e R s m args below meth c H locs cells slots (MQ below (PostI E r Y) args s cells slots (Ad E)) (F0 m pc ls [.int v]) := by
  obtain ⟨hx, hb, -, -, -, hrt, hlk, -⟩ := C
  cases h
  exact W.iret (v := r) hx hb (hrt.trans hr) (fun t ht hW => ⟨⟨r, (), rfl, rfl, wP ht hS.1⟩, hS.2.F ht⟩) hS.2.2.2 hdg hlk
theorem r_zret {r : Int32} {Y : Mem} (C : Cx p s m args meth c cc nL own ret E) (hS : Hs E s.heap X H locs) {v : Int32} (hr : ret = some .boolean) (hz : v = 0 ∨ v = 1) (h : some (v, X) = some (r, Y)) (hdg : decode cc pc = .ok (.ireturn, 1)) : W p l e R s m args below meth c H locs cells slots (MQ below (PostI E r Y) args s cells slots (Ad E)) (F0 m pc ls [.int v]) := by
  obtain ⟨hx, hb, -, -, -, hrt, hlk, -⟩ := C
  cases h
  exact W.zret (v := r) hx hb (hrt.trans hr) (by rcases hz with rfl | rfl <;> rfl) (fun t ht hW => ⟨⟨r, (), rfl, rfl, wP ht hS.1⟩, hS.2.F ht⟩) hS.2.2.2 hdg hlk
theorem r_zret0 {r : Int32} (C : Cx p s m args meth c cc nL own ret E) (hS : Hs E s.heap X H locs) {v : Int32} (hr : ret = some .boolean) (hz : v = 0 ∨ v = 1) (h : some v = some r) (hdg : decode cc pc = .ok (.ireturn, 1)) : W p l e R s m args below meth c H locs cells slots (MQ below (PostI E r X) args s cells slots (Ad E)) (F0 m pc ls [.int v]) := r_zret C hS hr hz (by cases h; rfl) hdg
theorem r_iret0 {r : Int32} (C : Cx p s m args meth c cc nL own ret E) (hS : Hs E s.heap X H locs) {v : Int32} (hr : ret = some .int) (h : some v = some r) (hdg : decode cc pc = .ok (.ireturn, 1)) : W p l e R s m args below meth c H locs cells slots (MQ below (PostI E r X) args s cells slots (Ad E)) (F0 m pc ls [.int v]) := r_iret C hS hr (by cases h; rfl) hdg
theorem r_lret {r : Int64} {Y : Mem} (C : Cx p s m args meth c cc nL own ret E) (hS : Hs E s.heap X H locs) {v : Int64} (hr : ret = some .long) (h : some (v, X) = some (r, Y)) (hdg : decode cc pc = .ok (.lreturn, 1)) : W p l e R s m args below meth c H locs cells slots (MQ below (PostL E r Y) args s cells slots (Ad E)) (F0 m pc ls [.long v]) := by
  obtain ⟨hx, hb, -, -, -, hrt, hlk, -⟩ := C
  cases h
  exact W.lret (v := r) hx hb (hrt.trans hr) (fun t ht hW => ⟨⟨r, (), rfl, rfl, wP ht hS.1⟩, hS.2.F ht⟩) hS.2.2.2 hdg hlk
theorem r_lret0 {r : Int64} (C : Cx p s m args meth c cc nL own ret E) (hS : Hs E s.heap X H locs) {v : Int64} (hr : ret = some .long) (h : some v = some r) (hdg : decode cc pc = .ok (.lreturn, 1)) : W p l e R s m args below meth c H locs cells slots (MQ below (PostL E r X) args s cells slots (Ad E)) (F0 m pc ls [.long v]) := r_lret C hS hr (by cases h; rfl) hdg
theorem r_vret {Y : Mem} (C : Cx p s m args meth c cc nL own ret E) (hS : Hs E s.heap X H locs) (hr : ret = none) (h : some X = some Y) (hdg : decode cc pc = .ok (.return_, 1)) : W p l e R s m args below meth c H locs cells slots (MQ below (PostV E Y) args s cells slots (Ad E)) (F0 m pc ls []) := by
  obtain ⟨hx, hb, -, -, -, hrt, hlk, -⟩ := C
  cases h
  exact W.vret hx hb (hrt.trans hr) (fun t ht hW => ⟨⟨(), rfl, trivial, wP ht hS.1⟩, hS.2.F ht⟩) hS.2.2.2 hdg hlk
theorem r_sret {r v : Nat} (C : Cx p s m args meth c cc nL own ret E) (hS : Hs E s.heap X H locs) (hr : ret = some (.object "java/lang/String")) (h : some v = some r) (hdg : decode cc pc = .ok (.areturn, 1)) : W p l e R s m args below meth c H locs cells slots (MQ below (PostR E r X) args s cells slots (Ad E)) (F0 m pc ls [.ref (eK E v)]) := by
  obtain ⟨hx, hb, -, -, -, hrt, hlk, -⟩ := C
  cases h
  exact W.aret hx hb (hrt.trans hr) (Or.inl ⟨_, rfl⟩) (Or.inr ⟨_, rfl⟩) (fun t ht hW => ⟨⟨(), _, rfl, trivial, rfl, wP ht hS.1⟩, hS.2.F ht⟩) hS.2.2.2 hdg hlk
/-! branches, by the function's own if -/
theorem if_eq {c : Prop} [Decidable c] {a b : Option β} (h : (if c then a else b) = some fr) {P : Prop} (k1 : a = some fr → P) (k2 : b = some fr → P) (hc : c ∨ ¬ c) : P := by
  by_cases hq : c
  · rw [if_pos hq] at h; exact k1 h
  · rw [if_neg hq] at h; exact k2 h
theorem ite_t {c : Prop} [Decidable c] {a b : Option β} (h : (if c then a else b) = some fr) (hc : c) : a = some fr := by rw [if_pos hc] at h; exact h
theorem ite_f {c : Prop} [Decidable c] {a b : Option β} (h : (if c then a else b) = some fr) (hc : ¬ c) : b = some fr := by rw [if_neg hc] at h; exact h
theorem r_icmp_lt (C : Cx p s m args meth c cc nL own ret E) {x y : Int32} {off : Int} {tgt : Nat} {a b : Option β} (h : (if x < y then a else b) = some fr) (hdg : decode cc pc = .ok (.if_icmp .lt off, 3)) (ht : (pc : Int) + off = (tgt : Int)) (kt : a = some fr → W p l e R s m args below meth c H locs cells slots Q (F0 m tgt ls rest)) (kf : b = some fr → W p l e R s m args below meth c H locs cells slots Q (F0 m (pc + 3) ls rest)) : W p l e R s m args below meth c H locs cells slots Q (F0 m pc ls (.int y :: .int x :: rest)) :=
  lv_icmp_lt C.1 C.2.1 hdg ht (fun q => kt (ite_t h q)) (fun q => kf (ite_f h q))
theorem r_icmp_le (C : Cx p s m args meth c cc nL own ret E) {x y : Int32} {off : Int} {tgt : Nat} {a b : Option β} (h : (if x ≤ y then a else b) = some fr) (hdg : decode cc pc = .ok (.if_icmp .le off, 3)) (ht : (pc : Int) + off = (tgt : Int)) (kt : a = some fr → W p l e R s m args below meth c H locs cells slots Q (F0 m tgt ls rest)) (kf : b = some fr → W p l e R s m args below meth c H locs cells slots Q (F0 m (pc + 3) ls rest)) : W p l e R s m args below meth c H locs cells slots Q (F0 m pc ls (.int y :: .int x :: rest)) :=
  lv_icmp_le C.1 C.2.1 hdg ht (fun q => kt (ite_t h q)) (fun q => kf (ite_f h q))
theorem r_icmp_gt (C : Cx p s m args meth c cc nL own ret E) {x y : Int32} {off : Int} {tgt : Nat} {a b : Option β} (h : (if y < x then a else b) = some fr) (hdg : decode cc pc = .ok (.if_icmp .gt off, 3)) (ht : (pc : Int) + off = (tgt : Int)) (kt : a = some fr → W p l e R s m args below meth c H locs cells slots Q (F0 m tgt ls rest)) (kf : b = some fr → W p l e R s m args below meth c H locs cells slots Q (F0 m (pc + 3) ls rest)) : W p l e R s m args below meth c H locs cells slots Q (F0 m pc ls (.int y :: .int x :: rest)) :=
  lv_icmp_gt C.1 C.2.1 hdg ht (fun q => kt (ite_t h q)) (fun q => kf (ite_f h q))
theorem r_icmp_ge (C : Cx p s m args meth c cc nL own ret E) {x y : Int32} {off : Int} {tgt : Nat} {a b : Option β} (h : (if y ≤ x then a else b) = some fr) (hdg : decode cc pc = .ok (.if_icmp .ge off, 3)) (ht : (pc : Int) + off = (tgt : Int)) (kt : a = some fr → W p l e R s m args below meth c H locs cells slots Q (F0 m tgt ls rest)) (kf : b = some fr → W p l e R s m args below meth c H locs cells slots Q (F0 m (pc + 3) ls rest)) : W p l e R s m args below meth c H locs cells slots Q (F0 m pc ls (.int y :: .int x :: rest)) :=
  lv_icmp_ge C.1 C.2.1 hdg ht (fun q => kt (ite_t h q)) (fun q => kf (ite_f h q))
theorem r_icmp_eq (C : Cx p s m args meth c cc nL own ret E) {x y : Int32} {off : Int} {tgt : Nat} {a b : Option β} (h : (if x = y then a else b) = some fr) (hdg : decode cc pc = .ok (.if_icmp .eq off, 3)) (ht : (pc : Int) + off = (tgt : Int)) (kt : a = some fr → W p l e R s m args below meth c H locs cells slots Q (F0 m tgt ls rest)) (kf : b = some fr → W p l e R s m args below meth c H locs cells slots Q (F0 m (pc + 3) ls rest)) : W p l e R s m args below meth c H locs cells slots Q (F0 m pc ls (.int y :: .int x :: rest)) :=
  lv_icmp_eq C.1 C.2.1 hdg ht (fun q => kt (ite_t h q)) (fun q => kf (ite_f h q))
theorem r_icmp_ne (C : Cx p s m args meth c cc nL own ret E) {x y : Int32} {off : Int} {tgt : Nat} {a b : Option β} (h : (if x = y then b else a) = some fr) (hdg : decode cc pc = .ok (.if_icmp .ne off, 3)) (ht : (pc : Int) + off = (tgt : Int)) (kt : a = some fr → W p l e R s m args below meth c H locs cells slots Q (F0 m tgt ls rest)) (kf : b = some fr → W p l e R s m args below meth c H locs cells slots Q (F0 m (pc + 3) ls rest)) : W p l e R s m args below meth c H locs cells slots Q (F0 m pc ls (.int y :: .int x :: rest)) :=
  lv_icmp_ne C.1 C.2.1 hdg ht (fun q => kt (ite_f h q)) (fun q => kf (ite_t h q))
theorem r_if_lt (C : Cx p s m args meth c cc nL own ret E) {x : Int32} {off : Int} {tgt : Nat} {a b : Option β} (h : (if x < 0 then a else b) = some fr) (hdg : decode cc pc = .ok (.ifCond .lt off, 3)) (ht : (pc : Int) + off = (tgt : Int)) (kt : a = some fr → W p l e R s m args below meth c H locs cells slots Q (F0 m tgt ls rest)) (kf : b = some fr → W p l e R s m args below meth c H locs cells slots Q (F0 m (pc + 3) ls rest)) : W p l e R s m args below meth c H locs cells slots Q (F0 m pc ls (.int x :: rest)) :=
  lv_if_lt C.1 C.2.1 hdg ht (fun q => kt (ite_t h q)) (fun q => kf (ite_f h q))
theorem r_if_le (C : Cx p s m args meth c cc nL own ret E) {x : Int32} {off : Int} {tgt : Nat} {a b : Option β} (h : (if x ≤ 0 then a else b) = some fr) (hdg : decode cc pc = .ok (.ifCond .le off, 3)) (ht : (pc : Int) + off = (tgt : Int)) (kt : a = some fr → W p l e R s m args below meth c H locs cells slots Q (F0 m tgt ls rest)) (kf : b = some fr → W p l e R s m args below meth c H locs cells slots Q (F0 m (pc + 3) ls rest)) : W p l e R s m args below meth c H locs cells slots Q (F0 m pc ls (.int x :: rest)) :=
  lv_if_le C.1 C.2.1 hdg ht (fun q => kt (ite_t h q)) (fun q => kf (ite_f h q))
theorem r_if_gt (C : Cx p s m args meth c cc nL own ret E) {x : Int32} {off : Int} {tgt : Nat} {a b : Option β} (h : (if 0 < x then a else b) = some fr) (hdg : decode cc pc = .ok (.ifCond .gt off, 3)) (ht : (pc : Int) + off = (tgt : Int)) (kt : a = some fr → W p l e R s m args below meth c H locs cells slots Q (F0 m tgt ls rest)) (kf : b = some fr → W p l e R s m args below meth c H locs cells slots Q (F0 m (pc + 3) ls rest)) : W p l e R s m args below meth c H locs cells slots Q (F0 m pc ls (.int x :: rest)) :=
  lv_if_gt C.1 C.2.1 hdg ht (fun q => kt (ite_t h q)) (fun q => kf (ite_f h q))
theorem r_if_ge (C : Cx p s m args meth c cc nL own ret E) {x : Int32} {off : Int} {tgt : Nat} {a b : Option β} (h : (if 0 ≤ x then a else b) = some fr) (hdg : decode cc pc = .ok (.ifCond .ge off, 3)) (ht : (pc : Int) + off = (tgt : Int)) (kt : a = some fr → W p l e R s m args below meth c H locs cells slots Q (F0 m tgt ls rest)) (kf : b = some fr → W p l e R s m args below meth c H locs cells slots Q (F0 m (pc + 3) ls rest)) : W p l e R s m args below meth c H locs cells slots Q (F0 m pc ls (.int x :: rest)) :=
  lv_if_ge C.1 C.2.1 hdg ht (fun q => kt (ite_t h q)) (fun q => kf (ite_f h q))
theorem r_if_eq (C : Cx p s m args meth c cc nL own ret E) {x : Int32} {off : Int} {tgt : Nat} {a b : Option β} (h : (if x = 0 then a else b) = some fr) (hdg : decode cc pc = .ok (.ifCond .eq off, 3)) (ht : (pc : Int) + off = (tgt : Int)) (kt : a = some fr → W p l e R s m args below meth c H locs cells slots Q (F0 m tgt ls rest)) (kf : b = some fr → W p l e R s m args below meth c H locs cells slots Q (F0 m (pc + 3) ls rest)) : W p l e R s m args below meth c H locs cells slots Q (F0 m pc ls (.int x :: rest)) :=
  lv_if_eq C.1 C.2.1 hdg ht (fun q => kt (ite_t h q)) (fun q => kf (ite_f h q))
theorem r_if_ne (C : Cx p s m args meth c cc nL own ret E) {x : Int32} {off : Int} {tgt : Nat} {a b : Option β} (h : (if x = 0 then b else a) = some fr) (hdg : decode cc pc = .ok (.ifCond .ne off, 3)) (ht : (pc : Int) + off = (tgt : Int)) (kt : a = some fr → W p l e R s m args below meth c H locs cells slots Q (F0 m tgt ls rest)) (kf : b = some fr → W p l e R s m args below meth c H locs cells slots Q (F0 m (pc + 3) ls rest)) : W p l e R s m args below meth c H locs cells slots Q (F0 m pc ls (.int x :: rest)) :=
  lv_if_ne C.1 C.2.1 hdg ht (fun q => kt (ite_f h q)) (fun q => kf (ite_t h q))
theorem r_iinc (C : Cx p s m args meth c cc nL own ret E) {i k : Nat} {n : Int} {x w : Int32} {lv : List (Nat × Value)} {lv' : Int32 → List (Nat × Value)} {F : Int32 → Option β} (h : lt (x + w) F = some fr) (hdg : decode cc pc = .ok (.iinc i n, 3)) (hl : lv_has ls nL lv) (hk : lv[k]? = some (i, .int x)) (hw : Int32.ofInt n = w) (hn : i < nL) (hlv : ∀ v, (i, Value.int v) :: lv.filter (fun q => !(q.1 == i) && !(q.1 + 1 == i && q.2.category == 2)) = lv' v)
    (kk : ∀ (v : Int32) (ls' : Array Slot), F v = some fr → lv_has ls' nL (lv' v) → W p l e R s m args below meth c H locs cells slots Q (F0 m (pc + 3) ls' rest)) : W p l e R s m args below meth c H locs cells slots Q (F0 m pc ls rest) :=
  lv_iinc (v := x + w) C.1 C.2.1 hdg hl hk (by rw [hw]) hn (hlv _) (fun ls' hl' => kk _ ls' h hl')
/-! switches: case by case -/
theorem sw_c {x v : Int32} {w : Int} (hw : v.toInt = w) {a b : Option β} (h : (if x = v then a else b) = some fr) {P : Prop} (k1 : x = v → a = some fr → P) (k2 : x.toInt ≠ w → b = some fr → P) : P := by
  by_cases hq : x = v
  · rw [if_pos hq] at h; exact k1 hq h
  · rw [if_neg hq] at h; exact k2 (fun e => hq (Int32.toInt_inj.mp (e.trans hw.symm))) h
theorem out_0 {z lo : Int} : z < lo ∨ lo ≤ z := by omega
theorem out_s {z lo k k1 : Int} (h : z < lo ∨ k ≤ z) (hn : z ≠ k) (hk : k + 1 = k1) : z < lo ∨ k1 ≤ z := by omega
theorem out_e {z lo hi k : Int} (h : z < lo ∨ k ≤ z) (hk : hi < k) : z < lo ∨ hi < z := by omega
theorem r_tabIn (C : Cx p s m args meth c cc nL own ret E) {dflt lo hi : Int} {offs : Array Int} {len : Nat} {x v : Int32} {off : Int} {tgt : Nat} (hx : x = v) (hdg : decode cc pc = .ok (.tableswitch dflt lo hi offs, len)) (h1 : ¬ v.toInt < lo) (h2 : ¬ hi < v.toInt) (ho : offs[(v.toInt - lo).toNat]? = some off) (ht : (pc : Int) + off = (tgt : Int)) (k : W p l e R s m args below meth c H locs cells slots Q (F0 m tgt ls rest)) : W p l e R s m args below meth c H locs cells slots Q (F0 m pc ls (.int x :: rest)) := by
  subst hx
  exact lv_tableIn C.1 C.2.1 hdg h1 h2 ho ht k
theorem r_lookIn (C : Cx p s m args meth c cc nL own ret E) {dflt : Int} {ps : Array (Int × Int)} {len : Nat} {x v : Int32} {off : Int} {tgt : Nat} (hx : x = v) (hdg : decode cc pc = .ok (.lookupswitch dflt ps, len)) (hp : (ps.toList.zip (ps.toList.drop 1)).all (fun (a, next) => a.1 < next.1) = true) (ho : Op.lookupswitch.offset ps.toList dflt v.toInt = off) (ht : (pc : Int) + off = (tgt : Int)) (k : W p l e R s m args below meth c H locs cells slots Q (F0 m tgt ls rest)) : W p l e R s m args below meth c H locs cells slots Q (F0 m pc ls (.int x :: rest)) := by
  subst hx
  exact lv_lookup C.1 C.2.1 hdg hp ho ht k
/-! calls -/
theorem c_B {y : MethodName} {bytes : ByteArray} {maxL : Nat} {rt : Option FieldType} {rm : Room} {index n : Nat} (hts : ∀ w ∈ tb, w.before args s = true) (hcode : Cond.code y bytes maxL rt ∈ tb) (hini : Cond.initialized y.cls ∈ tb) (hl : Cond.methodLink own index y ∈ tb) (hd : y.cls ≠ "java/lang/invoke/MethodHandle" ∧ y.cls ≠ "java/lang/invoke/VarHandle" ∧ (parseMethodDescriptor y.desc).map (fun d => d.parameters.length) = some n) (hrc : rm.cells = 0) (hrs : rm.slots = 0) (hR : rm.frames + 1 ≤ R.frames ∧ 8 + (maxL + 11) + rm.locals ≤ R.locals) :
    CallB R s args own index y bytes maxL rt (Cond.code y bytes maxL rt :: tb) rm 0 0 n := callB_of n hts (tb_code hcode) rfl hrc hrs (hts _ hini) (hts _ hl) hd hR
theorem c_pre (C : Cx p s m args meth c cc nL own ret E) (hS : Hs E s.heap X H locs) {av : List Value} : PreS s H (PreC E av X) av := ⟨PreC.blind, fun U hU hW => ⟨rfl, C.2.2.2.2.2.2.2.warm hW (fun a h1 h2 => by rw [hU]; exact hS.2.2.1 a h1 h2), by rw [hU]; exact hS.1⟩⟩
theorem c_rec (C : Cx p s m args meth c cc nL own ret E) (hS : Hs E s.heap X H locs) {k ci : Nat} {fs : List Value} (hk : k < 80) (hc : cel E X k = .inr (ci, fs)) {q : vw_C} (hcl : cls[ci]? = some q) : ∃ cell : Cell, H[ad E k]? = some cell ∧ cell.vm.isStatics = false ∧ s.vm.findClass q.1 = some cell.cls :=
  va_recv C.2.2.2.2.2.2.2.1 hS.1 hcl (q0 := k) (by rw [wl_get hk, hc])
variable {y : MethodName} {bytes : ByteArray} {maxL n index : Nat} {rt : Option FieldType} {rm : Room} {As : List Value}
/-- a static call of the own class -/
theorem c_runS (C : Cx p s m args meth c cc nL own ret E) (hS : Hs E s.heap X H locs) {Qc : Array Value → State → Outcome → State → Prop} (hM : Met l y (Cond.code y bytes maxL rt :: tb) rm (PreC E As X) Qc 0 0 (Ad E)) (hcode : Cond.code y bytes maxL rt ∈ tb) (hini : Cond.initialized y.cls ∈ tb) (hst : Cond.static y ∈ tb) (hl : Cond.methodLink own index y ∈ tb) (hd : y.cls ≠ "java/lang/invoke/MethodHandle" ∧ y.cls ≠ "java/lang/invoke/VarHandle" ∧ (parseMethodDescriptor y.desc).map (fun d => d.parameters.length) = some n) (hn : As.length = n) (hrm : (rm.cells = 0 ∧ rm.slots = 0) ∧ rm.frames + 1 ≤ R.frames ∧ 8 + (maxL + 11) + rm.locals ≤ R.locals) (hz : cells ≤ R.cells ∧ slots ≤ R.slots) (hsz : ls.size = nL) {st0 : List Value} (hstk : st0 = As.reverse ++ rest) (hw : (rest.map fun v => v.category).sum ≤ 8) (hdg : decode cc pc = .ok (.invokestatic index, 3)) :
    va_Run p l e R s m args below meth c H locs cells slots 0 0 (F0 m pc ls st0) rest (Qc As.toArray) (Ad E) :=
  va_runS (Ts := tb) ⟨C.1, C.2.1, C.2.2.1, C.2.2.2.1, C.2.2.2.2.1⟩ hM ⟨c_B C.2.2.2.2.1 hcode hini hl hd hrm.1.1 hrm.1.2 hrm.2, C.2.2.2.2.1 _ hst⟩ (c_pre C hS) rfl hn hsz hstk (lv_room (m := m) (pc := pc) (ls := ls) (rest := rest) hw) hdg hz
theorem c_runV (C : Cx p s m args meth c cc nL own ret E) (hS : Hs E s.heap X H locs) {Qc : Array Value → State → Outcome → State → Prop} {k ci : Nat} {fs : List Value} (hk : k < 80) (hc : cel E X k = .inr (ci, fs)) {Cn : String} {T : u_T} {N : Nat} (hcl : cls[ci]? = some (Cn, T, N)) (hM : Met l y (Cond.code y bytes maxL rt :: tb) rm (PreC E (.ref (ad E k) :: As) X) Qc 0 0 (Ad E)) (hcode : Cond.code y bytes maxL rt ∈ tb) (hini : Cond.initialized y.cls ∈ tb) (hin : Cond.instanceMethod y ∈ tb) (hse : Cond.selects Cn y y ∈ tb) (hl : Cond.methodLink own index y ∈ tb) (hd : y.cls ≠ "java/lang/invoke/MethodHandle" ∧ y.cls ≠ "java/lang/invoke/VarHandle" ∧ (parseMethodDescriptor y.desc).map (fun d => d.parameters.length) = some n) (hn : As.length = n) (hrm : (rm.cells = 0 ∧ rm.slots = 0) ∧ rm.frames + 1 ≤ R.frames ∧ 8 + (maxL + 11) + rm.locals ≤ R.locals) (hz : cells ≤ R.cells ∧ slots ≤ R.slots) (hsz : ls.size = nL) {st0 : List Value} (hstk : st0 = As.reverse ++ .ref (ad E k) :: rest) (hw : (rest.map fun v => v.category).sum ≤ 8) (hdg : decode cc pc = .ok (.invokevirtual index, 3)) :
    va_Run p l e R s m args below meth c H locs cells slots 0 0 (F0 m pc ls st0) rest (Qc (Value.ref (ad E k) :: As).toArray) (Ad E) :=
  va_runV (Ts := tb) (C := Cn) (b := ad E k) ⟨C.1, C.2.1, C.2.2.1, C.2.2.2.1, C.2.2.2.2.1⟩ hM ⟨c_B C.2.2.2.2.1 hcode hini hl hd hrm.1.1 hrm.1.2 hrm.2, C.2.2.2.2.1 _ hin, C.2.2.2.2.1 _ hse⟩ ⟨PreC.blind, c_rec C hS hk hc hcl, (c_pre C hS).2⟩ rfl hn hsz hstk (lv_room (m := m) (pc := pc) (ls := ls) (rest := rest) hw) hdg hz
/-- a static call of a nest mate's -/
theorem c_runSN (C : Cx p s m args meth c cc nL own ret E) (hS : Hs E s.heap X H locs) {Qc : Array Value → State → Outcome → State → Prop} {host : String} (hM : Met l y (Cond.code y bytes maxL rt :: tb) rm (PreC E As X) Qc 0 0 (Ad E)) (hcode : Cond.code y bytes maxL rt ∈ tb) (hini : Cond.initialized y.cls ∈ tb) (hst : Cond.static y ∈ tb) (hl : Cond.methodLinkNest own index y host ∈ nst) (hd : y.cls ≠ "java/lang/invoke/MethodHandle" ∧ y.cls ≠ "java/lang/invoke/VarHandle" ∧ (parseMethodDescriptor y.desc).map (fun d => d.parameters.length) = some n) (hn : As.length = n) (hrm : (rm.cells = 0 ∧ rm.slots = 0) ∧ rm.frames + 1 ≤ R.frames ∧ 8 + (maxL + 11) + rm.locals ≤ R.locals) (hz : cells ≤ R.cells ∧ slots ≤ R.slots) (hsz : ls.size = nL) {st0 : List Value} (hstk : st0 = As.reverse ++ rest) (hw : (rest.map fun v => v.category).sum ≤ 8) (hdg : decode cc pc = .ok (.invokestatic index, 3)) :
    va_Run p l e R s m args below meth c H locs cells slots 0 0 (F0 m pc ls st0) rest (Qc As.toArray) (Ad E) :=
  va_runSN (Ts := tb) ⟨C.1, C.2.1, C.2.2.1, C.2.2.2.1, C.2.2.2.2.1⟩ hM ⟨va_cnB n C.2.2.2.2.1 (tb_code hcode) rfl hrm.1.1 hrm.1.2 (C.2.2.2.2.2.2.2.2.2.1 _ hl) (C.2.2.2.2.1 _ hini) hd hrm.2, C.2.2.2.2.1 _ hst, trivial⟩ (c_pre C hS) rfl hn hsz hstk (lv_room (m := m) (pc := pc) (ls := ls) (rest := rest) hw) hdg hz
theorem c_runStr (C : Cx p s m args meth c cc nL own ret E) (hS : Hs E s.heap X H locs) {Qc : Array Value → State → Outcome → State → Prop} {w : Nat} (hw11 : w < 11) (hM : Met l y (Cond.code y bytes maxL rt :: tb) rm (PreC E (.ref (eK E w) :: As) X) Qc 0 0 (Ad E)) (hcode : Cond.code y bytes maxL rt ∈ tb) (hini : Cond.initialized y.cls ∈ tb) (hin : Cond.instanceMethod y ∈ tb) (hse : Cond.selects "java/lang/String" y y ∈ tb) (hl : Cond.methodLink own index y ∈ tb) (hd : y.cls ≠ "java/lang/invoke/MethodHandle" ∧ y.cls ≠ "java/lang/invoke/VarHandle" ∧ (parseMethodDescriptor y.desc).map (fun d => d.parameters.length) = some n) (hn : As.length = n) (hrm : (rm.cells = 0 ∧ rm.slots = 0) ∧ rm.frames + 1 ≤ R.frames ∧ 8 + (maxL + 11) + rm.locals ≤ R.locals) (hz : cells ≤ R.cells ∧ slots ≤ R.slots) (hsz : ls.size = nL) {st0 : List Value} (hstk : st0 = As.reverse ++ .ref (eK E w) :: rest) (hw : (rest.map fun v => v.category).sum ≤ 8) (hdg : decode cc pc = .ok (.invokevirtual index, 3)) :
    va_Run p l e R s m args below meth c H locs cells slots 0 0 (F0 m pc ls st0) rest (Qc (Value.ref (eK E w) :: As).toArray) (Ad E) :=
  va_runV (Ts := tb) (C := "java/lang/String") (b := eK E w) ⟨C.1, C.2.1, C.2.2.1, C.2.2.2.1, C.2.2.2.2.1⟩ hM ⟨c_B C.2.2.2.2.1 hcode hini hl hd hrm.1.1 hrm.1.2 hrm.2, C.2.2.2.2.1 _ hin, C.2.2.2.2.1 _ hse⟩ ⟨PreC.blind, vk_recv C.2.2.2.2.2.2.2.2.2.2.2.1 hw11 hS.2, (c_pre C hS).2⟩ rfl hn hsz hstk (lv_room (m := m) (pc := pc) (ls := ls) (rest := rest) hw) hdg hz
variable {st0 : List Value} {a : Array Value}
theorem c_I {r : Int32} {Y : Mem} (hS : Hs E s.heap X H locs) (hr : va_Run p l e R s m args below meth c H locs cells slots 0 0 (F0 m pc ls st0) rest (PostI E r Y a) (Ad E)) (kk : ∀ (H1 : Heap) (locs1 : List Loc), Hs E s.heap Y H1 locs1 → W p l e R s m args below meth c H1 locs1 cells slots Q (F0 m (pc + 3) ls (.int r :: rest))) : W p l e R s m args below meth c H locs cells slots Q (F0 m pc ls st0) :=
  va_calli hr hS.2 (fun _ _ h => h) (fun _ h => h) (fun v _ t H1 locs1 ht _ hw hB _ _ hS1 => by subst hw; exact kk H1 locs1 ⟨by rw [← ht]; exact hB, hS1⟩)
theorem c_L {r : Int64} {Y : Mem} (hS : Hs E s.heap X H locs) (hr : va_Run p l e R s m args below meth c H locs cells slots 0 0 (F0 m pc ls st0) rest (PostL E r Y a) (Ad E)) (kk : ∀ (H1 : Heap) (locs1 : List Loc), Hs E s.heap Y H1 locs1 → W p l e R s m args below meth c H1 locs1 cells slots Q (F0 m (pc + 3) ls (.long r :: rest))) : W p l e R s m args below meth c H locs cells slots Q (F0 m pc ls st0) :=
  va_calll hr hS.2 (fun _ _ h => h) (fun _ h => h) (fun v _ t H1 locs1 ht _ hw hB _ _ hS1 => by subst hw; exact kk H1 locs1 ⟨by rw [← ht]; exact hB, hS1⟩)
theorem c_V {Y : Mem} (hS : Hs E s.heap X H locs) (hr : va_Run p l e R s m args below meth c H locs cells slots 0 0 (F0 m pc ls st0) rest (PostV E Y a) (Ad E)) (kk : ∀ (H1 : Heap) (locs1 : List Loc), Hs E s.heap Y H1 locs1 → W p l e R s m args below meth c H1 locs1 cells slots Q (F0 m (pc + 3) ls rest)) : W p l e R s m args below meth c H locs cells slots Q (F0 m pc ls st0) :=
  va_callv hr hS.2 (fun _ _ h => h) (fun _ h => h) (fun _ t H1 locs1 ht _ _ hB _ _ hS1 => kk H1 locs1 ⟨by rw [← ht]; exact hB, hS1⟩)
theorem c_R {r : Nat} {Y : Mem} (hS : Hs E s.heap X H locs) (hr : va_Run p l e R s m args below meth c H locs cells slots 0 0 (F0 m pc ls st0) rest (PostR E r Y a) (Ad E)) (kk : ∀ (H1 : Heap) (locs1 : List Loc), Hs E s.heap Y H1 locs1 → W p l e R s m args below meth c H1 locs1 cells slots Q (F0 m (pc + 3) ls (.ref (eK E r) :: rest))) : W p l e R s m args below meth c H locs cells slots Q (F0 m pc ls st0) :=
  va_callr hr hS.2 (fun _ _ h => h) (fun _ h => h) (fun _ q t H1 locs1 ht _ _ hB _ _ hS1 => by obtain ⟨e1, hB⟩ := hB; subst e1; exact kk H1 locs1 ⟨by rw [← ht]; exact hB, hS1⟩)
/-! arraycopy -/
theorem cI_row {X : Mem} {k0 k1 sp dp n : Nat} : (fun b => gI (cI X k0 k1 sp dp n) k1 b) = va_cpy (fun b => gI X k0 b) (fun b => gI X k1 b) sp dp n := by
  funext b
  show (if k1 = k1 then va_cpy (X.1 k0) (X.1 k1) sp dp n b else X.1 k1 b) = _
  rw [if_pos rfl]; rfl
theorem cL_row {X : Mem} {k0 k1 sp dp n : Nat} : (fun b => gL (cL X k0 k1 sp dp n) k1 b) = va_cpy (fun b => gL X k0 b) (fun b => gL X k1 b) sp dp n := by
  funext b
  show (if k1 = k1 then va_cpy (X.2 k0) (X.2 k1) sp dp n b else X.2 k1 b) = _
  rw [if_pos rfl]; rfl
theorem ckC_el {n0 n1 : Nat} {sp dp n : Int32} (h : ckC n0 n1 sp dp n = true) : ¬ sp < 0 ∧ ¬ dp < 0 ∧ ¬ n < 0 ∧ sp.toNatClampNeg + n.toNatClampNeg ≤ n0 ∧ dp.toNatClampNeg + n.toNatClampNeg ≤ n1 := by
  unfold ckC at h
  simp only [Bool.and_eq_true, decide_eq_true_eq] at h
  obtain ⟨⟨⟨⟨h1, h2⟩, h3⟩, h4⟩, h5⟩ := h
  have nn : ∀ z : Int32, 0 ≤ z.toInt → ¬ z < 0 := fun z hz q => by
    have := Int32.lt_iff_toInt_lt.mp q
    rw [Int32.toInt_zero] at this
    omega
  exact ⟨nn _ h1, nn _ h2, nn _ h3, h4, h5⟩
theorem r_acI (C : Cx p s m args meth c cc nL own ret E) (hS : Hs E s.heap X H locs) (hsz : ls.size = nL) {k0 n0 k1 n1 index : Nat} (hk0 : kd k0 = 1000 + n0) (hn0 : n0 < 1000) (hk1 : kd k1 = 1000 + n1) (hn1 : n1 < 1000) {sp dp n : Int32} {G : Mem → Option β} (h : acI X k0 n0 sp k1 n1 dp n G = some fr) (hl : Cond.methodLink own index arraycopyName ∈ tb) (hnat : Cond.native arraycopyName ∈ tb) (hst : Cond.static arraycopyName ∈ tb) (hini : Cond.initialized "java/lang/System" ∈ tb) (hfr : 1 ≤ R.frames) (hlo : (rest.map fun v => v.category).sum + (nativeFrameWords "java/lang/System" "arraycopy" 5 + 11) ≤ R.locals) (hdg : decode cc pc = .ok (.invokestatic index, 3))
    (kk : ∀ (Y : Mem) (H1 : Heap) (locs1 : List Loc), Hs E s.heap Y H1 locs1 → G Y = some fr → W p l e R s m args below meth c H1 locs1 cells slots Q (F0 m (pc + 3) ls rest)) : W p l e R s m args below meth c H locs cells slots Q (F0 m pc ls (.int n :: .int dp :: .ref (ad E k1) :: .int sp :: .ref (ad E k0) :: rest)) := by
  obtain ⟨hx, hb, hml, ho, hts, -, -, hK, hi, -⟩ := C
  obtain ⟨h1, h2⟩ := if_tr h
  obtain ⟨a1, a2, a3, a4, a5⟩ := ckC_el h1
  have hk8 := kd_lt hk0 (by omega)
  have hk9 := kd_lt hk1 (by omega)
  refine va_copyi (ty := .int) hx hb (hml.trans hsz.symm) ho (hts _ hl) (hts _ hnat) (hts _ hst) (hts _ hini) hK hS.1 (wl_D hi) hS.2 k0 k1 0 0 (by rw [wl_get hk8, cel_I hk0 hn0]) (by rw [wl_get hk9, cel_I hk1 hn1]) rfl rfl rfl a1 a2 a3 a4 a5 (fun _ _ => rfl) hfr hlo hdg (fun H1 locs1 hP1 _ hS1 => kk _ H1 locs1 ⟨?_, hS1⟩ h2)
  rw [← cI_row, ← cel_I (E := E) (X := cI X k0 k1 sp.toNatClampNeg dp.toNatClampNeg n.toNatClampNeg) hk1 hn1, wl_set (X := X) (Y := cI X k0 k1 sp.toNatClampNeg dp.toNatClampNeg n.toNatClampNeg) hk9 (fun a ha => ?_) (fun a _ => rfl)] at hP1
  · exact hP1
  · funext b
    show X.1 a b = if a = k1 then _ else X.1 a b
    rw [if_neg ha]
theorem r_acL (C : Cx p s m args meth c cc nL own ret E) (hS : Hs E s.heap X H locs) (hsz : ls.size = nL) {k0 n0 k1 n1 index : Nat} (hk0 : kd k0 = 3000 + n0) (hn0 : n0 < 1000) (hk1 : kd k1 = 3000 + n1) (hn1 : n1 < 1000) {sp dp n : Int32} {G : Mem → Option β} (h : acL X k0 n0 sp k1 n1 dp n G = some fr) (hl : Cond.methodLink own index arraycopyName ∈ tb) (hnat : Cond.native arraycopyName ∈ tb) (hst : Cond.static arraycopyName ∈ tb) (hini : Cond.initialized "java/lang/System" ∈ tb) (hfr : 1 ≤ R.frames) (hlo : (rest.map fun v => v.category).sum + (nativeFrameWords "java/lang/System" "arraycopy" 5 + 11) ≤ R.locals) (hdg : decode cc pc = .ok (.invokestatic index, 3))
    (kk : ∀ (Y : Mem) (H1 : Heap) (locs1 : List Loc), Hs E s.heap Y H1 locs1 → G Y = some fr → W p l e R s m args below meth c H1 locs1 cells slots Q (F0 m (pc + 3) ls rest)) : W p l e R s m args below meth c H locs cells slots Q (F0 m pc ls (.int n :: .int dp :: .ref (ad E k1) :: .int sp :: .ref (ad E k0) :: rest)) := by
  obtain ⟨hx, hb, hml, ho, hts, -, -, hK, hi, -⟩ := C
  obtain ⟨h1, h2⟩ := if_tr h
  obtain ⟨a1, a2, a3, a4, a5⟩ := ckC_el h1
  have hk8 := kd_lt hk0 (by omega)
  have hk9 := kd_lt hk1 (by omega)
  refine va_copyl (ty := .long) hx hb (hml.trans hsz.symm) ho (hts _ hl) (hts _ hnat) (hts _ hst) (hts _ hini) hK hS.1 (wl_D hi) hS.2 k0 k1 2 2 (by rw [wl_get hk8, cel_L hk0 hn0]) (by rw [wl_get hk9, cel_L hk1 hn1]) rfl rfl rfl a1 a2 a3 a4 a5 (fun _ _ => rfl) hfr hlo hdg (fun H1 locs1 hP1 _ hS1 => kk _ H1 locs1 ⟨?_, hS1⟩ h2)
  rw [← cL_row, ← cel_L (E := E) (X := cL X k0 k1 sp.toNatClampNeg dp.toNatClampNeg n.toNatClampNeg) hk1 hn1, wl_set (X := X) (Y := cL X k0 k1 sp.toNatClampNeg dp.toNatClampNeg n.toNatClampNeg) hk9 (fun a _ => rfl) (fun a ha => ?_)] at hP1
  · exact hP1
  · funext b
    show X.2 a b = if a = k1 then _ else X.2 a b
    rw [if_neg ha]
end RW
