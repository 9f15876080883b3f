/-! what the two keep, by one abstract state: shore, image, findings, tape, sheets -/
abbrev Ab : Type := (Nat → Nat) × Option (Nat → Nat) × (Nat → Int32) × (Nat × (Nat → Nat)) × (Nat → Nat × Nat × (Nat → Int64))
abbrev aS (A : Ab) : Nat → Nat := A.1
abbrev aK (A : Ab) : Option (Nat → Nat) := A.2.1
abbrev aF (A : Ab) : Nat → Int32 := A.2.2.1
abbrev aT (A : Ab) : Nat := A.2.2.2.1.1
abbrev aB (A : Ab) : Nat → Nat := A.2.2.2.1.2
abbrev aH (A : Ab) : Nat → Nat × Nat × (Nat → Int64) := A.2.2.2.2
def RC (X : Mem) (B : Nat) (s : Nat → Nat) : Prop := gI X B 3 = nI (s 0) ∧ gI X B 4 = nI (s 1) ∧ gI X B 5 = nI (s 2) ∧ (∀ c, c < 16 → gI X (B + 1) c = nI (s (3 + c))) ∧ (∀ f, f < 4 → gI X (B + 2) f = nI (s (19 + f))) ∧ ∀ t, t < s 0 → ∀ j, j < 6 → gI X (B + 4 + t) j = nI (s (23 + 6 * t + j))
def KC (X : Mem) : Option (Nat → Nat) → Prop
  | none => gI X 0 11 = 0
  | some k => gI X 0 11 = 1 ∧ RC X 16 k
def KM (X : Mem) : Option (Nat → Nat) → Prop
  | none => gI X 70 4 = 0
  | some k => gI X 70 4 = 1 ∧ RM X 72 k
def FC (X : Mem) (f : Nat → Int32) : Prop := ∀ i, i < 7 → gI X 1 i = f i
def fsum (f : Nat → Int32) : Int32 := 0 + f 0 + f 1 + f 2 + f 3 + f 4 + f 5 + f 6
def FM (X : Mem) (f : Nat → Int32) : Prop := gI X 75 0 = fsum f ∧ ∀ i, i < 7 → gI X 75 (i + 1) = f i
def TC (X : Mem) (n : Nat) (b : Nat → Nat) : Prop := gI X 44 1 = nI n ∧ ∀ i, i < n → gI X 45 i = (nI (b i)).toInt8.toInt32
def TM (X : Mem) (n : Nat) (b : Nat → Nat) : Prop := gI X 70 7 = nI n ∧ ∀ i, i < n → gI X 76 i = nI (b i)
def HC (X : Mem) (h : Nat → Nat × Nat × (Nat → Int64)) : Prop := ∀ t, t < 4 → gI X (52 + 2 * t) 1 = nI (h t).1 ∧ gI X (52 + 2 * t) 2 = nI (h t).2.1 ∧ ∀ j, j < 40 → gL X (52 + 2 * t + 1) j = (h t).2.2 j
def HM (X : Mem) (h : Nat → Nat × Nat × (Nat → Int64)) : Prop := ∀ t, t < 4 → gI X 77 t = (if (h t).1 = 0 then -1 else nI (h t).1) ∧ gI X 78 t = nI (h t).2.1 ∧ ∀ j, j < 40 → gL X 79 (40 * t + j) = (h t).2.2 j
def IC (A : Ab) (X : Mem) : Prop := RC X 2 (aS A) ∧ KC X (aK A) ∧ FC X (aF A) ∧ TC X (aT A) (aB A) ∧ HC X (aH A)
def IM (A : Ab) (X : Mem) : Prop := RM X 71 (aS A) ∧ KM X (aK A) ∧ FM X (aF A) ∧ TM X (aT A) (aB A) ∧ HM X (aH A)
def Ok (A : Ab) : Prop := Gd 99999 (aS A) ∧ (∀ k, aK A = some k → Gd 99999 k) ∧ aT A ≤ 120 ∧ (∀ i, i < aT A → aB A i < 256) ∧ ∀ t, t < 4 → ((aH A t).1 = 0 ∨ (aH A t).1 = 8 ∨ (aH A t).1 = 16 ∨ (aH A t).1 = 64) ∧ (aH A t).2.1 ≤ 40 ∧ ((aH A t).1 = 0 → (aH A t).2.1 = 0)
theorem RC.sm {X Y : Mem} {B : Nat} {s : Nat → Nat} (h : RC X B s) (hs : s 0 ≤ 10) {K : Nat → Prop} (hS : Sm K X Y) (hK : ∀ i, i < 14 → ¬ K (B + i)) : RC Y B s := by
  obtain ⟨h0, h1, h2, h3, h4, h5⟩ := h
  have e : ∀ i, i < 14 → ∀ j, gI Y (B + i) j = gI X (B + i) j := fun i hi j => (hS _ (hK i hi)).1 j
  refine ⟨(e 0 (by omega) 3).trans h0, (e 0 (by omega) 4).trans h1, (e 0 (by omega) 5).trans h2, fun c hc => (e 1 (by omega) c).trans (h3 c hc), fun f hf => (e 2 (by omega) f).trans (h4 f hf), fun t ht j hj => ?_⟩
  have := e (4 + t) (by omega) j
  rw [← Nat.add_assoc] at this
  exact this.trans (h5 t ht j hj)
theorem KC.sm {X Y : Mem} {k : Option (Nat → Nat)} (h : KC X k) (hs : ∀ u, k = some u → u 0 ≤ 10) {K : Nat → Prop} (hS : Sm K X Y) (h0 : ¬ K 0) (hK : ∀ i, i < 14 → ¬ K (16 + i)) : KC Y k := by
  cases k with
  | none => exact ((hS 0 h0).1 11).trans h
  | some u => exact ⟨((hS 0 h0).1 11).trans h.1, h.2.sm (hs u rfl) hS hK⟩
theorem FC.sm {X Y : Mem} {f : Nat → Int32} (h : FC X f) {K : Nat → Prop} (hS : Sm K X Y) (h1 : ¬ K 1) : FC Y f := fun i hi => ((hS 1 h1).1 i).trans (h i hi)
theorem TC.sm {X Y : Mem} {n : Nat} {b : Nat → Nat} (h : TC X n b) {K : Nat → Prop} (hS : Sm K X Y) (h1 : ¬ K 44) (h2 : ¬ K 45) : TC Y n b := ⟨((hS 44 h1).1 1).trans h.1, fun i hi => ((hS 45 h2).1 i).trans (h.2 i hi)⟩
theorem HC.sm {X Y : Mem} {h : Nat → Nat × Nat × (Nat → Int64)} (q : HC X h) {K : Nat → Prop} (hS : Sm K X Y) (h1 : ∀ i, i < 8 → ¬ K (52 + i)) : HC Y h := fun t ht => ⟨((hS _ (h1 (2 * t) (by omega))).1 1).trans (q t ht).1, ((hS _ (h1 (2 * t) (by omega))).1 2).trans (q t ht).2.1, fun j hj => ((hS (52 + 2 * t + 1) (by have := h1 (2 * t + 1) (by omega); rw [← Nat.add_assoc] at this; exact this)).2 j).trans ((q t ht).2.2 j hj)⟩
theorem KM.sm {X Y : Mem} {k : Option (Nat → Nat)} (h : KM X k) {K : Nat → Prop} (hS : Sm K X Y) (h0 : ¬ K 70) (h2 : ¬ K 72) : KM Y k := by
  cases k with
  | none => exact ((hS 70 h0).1 4).trans h
  | some u => exact ⟨((hS 70 h0).1 4).trans h.1, h.2.sm hS h2⟩
theorem FM.sm {X Y : Mem} {f : Nat → Int32} (h : FM X f) {K : Nat → Prop} (hS : Sm K X Y) (h1 : ¬ K 75) : FM Y f := ⟨((hS 75 h1).1 0).trans h.1, fun i hi => ((hS 75 h1).1 (i + 1)).trans (h.2 i hi)⟩
theorem TM.sm {X Y : Mem} {n : Nat} {b : Nat → Nat} (h : TM X n b) {K : Nat → Prop} (hS : Sm K X Y) (h1 : ¬ K 70) (h2 : ¬ K 76) : TM Y n b := ⟨((hS 70 h1).1 7).trans h.1, fun i hi => ((hS 76 h2).1 i).trans (h.2 i hi)⟩
theorem HM.sm {X Y : Mem} {h : Nat → Nat × Nat × (Nat → Int64)} (q : HM X h) {K : Nat → Prop} (hS : Sm K X Y) (h1 : ¬ K 77) (h2 : ¬ K 78) (h3 : ¬ K 79) : HM Y h := fun t ht => ⟨((hS 77 h1).1 t).trans (q t ht).1, ((hS 78 h2).1 t).trans (q t ht).2.1, fun j hj => ((hS 79 h3).2 _).trans ((q t ht).2.2 j hj)⟩
/-- the class's nodes stay -/
theorem IC.sm {A : Ab} {X Y : Mem} (h : IC A X) (hO : Ok A) {K : Nat → Prop} (hS : Sm K X Y) (hK : ∀ k, K k → 70 ≤ k) : IC A Y :=
  ⟨h.1.sm hO.1.1 hS (fun i hi q => absurd (hK _ q) (by omega)), h.2.1.sm (fun u hu => (hO.2.1 u hu).1) hS (fun q => absurd (hK _ q) (by omega)) (fun i hi q => absurd (hK _ q) (by omega)), h.2.2.1.sm hS (fun q => absurd (hK _ q) (by omega)), h.2.2.2.1.sm hS (fun q => absurd (hK _ q) (by omega)) (fun q => absurd (hK _ q) (by omega)), h.2.2.2.2.sm hS (fun i hi q => absurd (hK _ q) (by omega))⟩
/-- scratch nodes of the class -/
def scN (k : Nat) : Prop := (30 ≤ k ∧ k < 44) ∨ (48 ≤ k ∧ k < 52) ∨ (60 ≤ k ∧ k < 70)
theorem IC.scratch {A : Ab} {X Y : Mem} (h : IC A X) (hO : Ok A) (hS : Sm scN X Y) : IC A Y :=
  ⟨h.1.sm hO.1.1 hS (fun i hi q => by unfold scN at q; omega), h.2.1.sm (fun u hu => (hO.2.1 u hu).1) hS (fun q => by unfold scN at q; omega) (fun i hi q => by unfold scN at q; omega), h.2.2.1.sm hS (fun q => by unfold scN at q; omega), h.2.2.2.1.sm hS (fun q => by unfold scN at q; omega) (fun q => by unfold scN at q; omega), h.2.2.2.2.sm hS (fun i hi q => by unfold scN at q; omega)⟩
theorem IM.sm {A : Ab} {X Y : Mem} (h : IM A X) {K : Nat → Prop} (hS : Sm K X Y) (hK : ∀ k, K k → k < 70 ∨ k = 73 ∨ k = 74) : IM A Y :=
  ⟨h.1.sm hS (fun q => absurd (hK _ q) (by omega)), h.2.1.sm hS (fun q => absurd (hK _ q) (by omega)) (fun q => absurd (hK _ q) (by omega)), h.2.2.1.sm hS (fun q => absurd (hK _ q) (by omega)), h.2.2.2.1.sm hS (fun q => absurd (hK _ q) (by omega)) (fun q => absurd (hK _ q) (by omega)), h.2.2.2.2.sm hS (fun q => absurd (hK _ q) (by omega)) (fun q => absurd (hK _ q) (by omega)) (fun q => absurd (hK _ q) (by omega))⟩
def C70 (k : Nat) : Prop := k < 70
def M70 (k : Nat) : Prop := 70 ≤ k
/-- an act: both answer alike and go on alike -/
def Act (f g : Mem → Option (Int32 × Mem)) (A : Ab) : Prop := ∃ (r : Int32) (B : Ab), Ok B ∧ (∀ X, IC A X → ∃ Y, f X = some (r, Y) ∧ IC B Y ∧ Sm C70 X Y) ∧ ∀ X, IM A X → ∃ Y, g X = some (r, Y) ∧ IM B Y ∧ Sm M70 X Y
def ActL (f g : Mem → Option (Int64 × Mem)) (A : Ab) : Prop := ∃ (r : Int64) (B : Ab), Ok B ∧ (∀ X, IC A X → ∃ Y, f X = some (r, Y) ∧ IC B Y ∧ Sm C70 X Y) ∧ ∀ X, IM A X → ∃ Y, g X = some (r, Y) ∧ IM B Y ∧ Sm M70 X Y
theorem Act.use {f g : Mem → Option (Int32 × Mem)} {A : Ab} (h : Act f g A) (hO : Ok A) {X : Mem} (hC : IC A X) (hM : IM A X) : ∃ r Y Z, f X = some (r, Y) ∧ g Y = some (r, Z) ∧ ∃ B, Ok B ∧ IC B Z ∧ IM B Z := by
  obtain ⟨r, B, hB, h1, h2⟩ := h
  obtain ⟨Y, a1, a2, a3⟩ := h1 X hC
  obtain ⟨Z, b1, b2, b3⟩ := h2 Y (hM.sm a3 (fun k q => Or.inl q))
  exact ⟨r, Y, Z, a1, b1, B, hB, a2.sm hB b3 (fun k q => q), b2⟩
theorem ActL.use {f g : Mem → Option (Int64 × Mem)} {A : Ab} (h : ActL f g A) (hO : Ok A) {X : Mem} (hC : IC A X) (hM : IM A X) : ∃ r Y Z, f X = some (r, Y) ∧ g Y = some (r, Z) ∧ ∃ B, Ok B ∧ IC B Z ∧ IM B Z := by
  obtain ⟨r, B, hB, h1, h2⟩ := h
  obtain ⟨Y, a1, a2, a3⟩ := h1 X hC
  obtain ⟨Z, b1, b2, b3⟩ := h2 Y (hM.sm a3 (fun k q => Or.inl q))
  exact ⟨r, Y, Z, a1, b1, B, hB, a2.sm hB b3 (fun k q => q), b2⟩
