/-! what an argument is -/
theorem bd2_id {α γ : Type} (o : Option (α × γ)) : (bd2 o fun a b => some (a, b)) = o := by
  cases o <;> rfl
theorem ofr {p : Int32} {n : Nat} (h : 0 ≤ p.toInt ∧ p.toInt < n) : ∃ j, j < n ∧ p = nI j := by
  have hb := Int32.toInt_lt p
  refine ⟨p.toInt.toNat, by omega, ?_⟩
  apply Int32.toInt_inj.mp
  rw [nI_toInt (by omega)]
  omega
theorem nIr {j n : Nat} (h : j < n) (hn : n < 2 ^ 31) : 0 ≤ (nI j).toInt ∧ (nI j).toInt < n := by
  rw [nI_toInt (by omega)]; omega
theorem c_isBelow {p : Int32} {n : Nat} (hn : n < 2 ^ 31) : f_Tide_isBelow p (nI n) = some (if 0 ≤ p.toInt ∧ p.toInt < n then 1 else 0) := by
  unfold f_Tide_isBelow
  have e := nI_toInt hn
  by_cases h1 : p < 0
  · rw [if_pos h1, if_neg]
    rw [Int32.lt_iff_toInt_lt, Int32.toInt_zero] at h1; omega
  · rw [if_neg h1]
    rw [Int32.lt_iff_toInt_lt, Int32.toInt_zero] at h1
    by_cases h2 : nI n ≤ p
    · rw [if_pos h2, if_neg]
      rw [Int32.le_iff_toInt_le, e] at h2; omega
    · rw [if_neg h2, if_pos]
      rw [Int32.le_iff_toInt_le, e] at h2; omega
theorem c_isUpTo {p : Int32} {a b : Nat} (ha : a < 2 ^ 31) (hb : b < 2 ^ 31) : f_Tide_isUpTo p (nI a) (nI b) = some (if (a : Int) ≤ p.toInt ∧ p.toInt ≤ b then 1 else 0) := by
  unfold f_Tide_isUpTo
  have e := nI_toInt ha
  have e2 := nI_toInt hb
  by_cases h1 : p < nI a
  · rw [if_pos h1, if_neg]
    rw [Int32.lt_iff_toInt_lt, e] at h1; omega
  · rw [if_neg h1]
    rw [Int32.lt_iff_toInt_lt, e] at h1
    by_cases h2 : nI b < p
    · rw [if_pos h2, if_neg]
      rw [Int32.lt_iff_toInt_lt, e2] at h2; omega
    · rw [if_neg h2, if_pos]
      rw [Int32.lt_iff_toInt_lt, e2] at h2; omega
theorem m_isCell {p : Int32} : f_Model_isCell p = some (if 0 ≤ p.toInt ∧ p.toInt < (16 : Nat) then 1 else 0) := by
  have := c_isBelow (p := p) (n := 16) (by omega)
  exact this
theorem m_isFamily {p : Int32} : f_Model_isFamily p = some (if 0 ≤ p.toInt ∧ p.toInt < (4 : Nat) then 1 else 0) := by
  have := c_isBelow (p := p) (n := 4) (by omega)
  exact this
theorem m_isInL {v : Int64} {a b : Int64} : f_Model_isIn v a b = some (if a.toInt ≤ v.toInt ∧ v.toInt ≤ b.toInt then 1 else 0) := by
  unfold f_Model_isIn
  by_cases h1 : lg_cmp v a < 0
  · rw [if_pos h1, if_neg]
    rw [lc_lt, Int64.lt_iff_toInt_lt] at h1; omega
  · rw [if_neg h1]
    rw [lc_lt, Int64.lt_iff_toInt_lt] at h1
    by_cases h2 : 0 < lg_cmp v b
    · rw [if_pos h2, if_neg]
      rw [lc_gt, Int64.lt_iff_toInt_lt] at h2; omega
    · rw [if_neg h2, if_pos]
      rw [lc_gt, Int64.lt_iff_toInt_lt] at h2; omega
theorem m_isIn {p : Int32} {a b : Nat} (ha : a < 2 ^ 31) (hb : b < 2 ^ 31) : f_Model_isIn p.toInt64 (lN a) (lN b) = some (if (a : Int) ≤ p.toInt ∧ p.toInt ≤ b then 1 else 0) := by
  rw [m_isInL, lN_toInt ha, lN_toInt hb, Int32.toInt_toInt64]
/-! findings -/
def fnd (A : Ab) (i : Nat) : Ab := (A.1, A.2.1, (fun j => if j = i then aF A j + 1 else aF A j), A.2.2.2)
theorem fnd_ok {A : Ab} {i : Nat} (h : Ok A) : Ok (fnd A i) := h
theorem fsum_inc (f : Nat → Int32) : ∀ i, i < 7 → fsum (fun j => if j = i then f j + 1 else f j) = fsum f + 1 := by
  intro i hi
  unfold fsum
  rcases (show i = 0 ∨ i = 1 ∨ i = 2 ∨ i = 3 ∨ i = 4 ∨ i = 5 ∨ i = 6 by omega) with rfl | rfl | rfl | rfl | rfl | rfl | rfl <;> simp only [Nat.reduceEqDiff, if_true, if_false] <;> ac_rfl
theorem c_finding {A : Ab} {X : Mem} (h : IC A X) (hO : Ok A) {c : Int32} {i : Nat} (hc : (-1000000001 : Int32) - c = nI i) (hi : i < 7) : ∃ Y, f_Tide_finding c X = some (c, Y) ∧ IC (fnd A i) Y ∧ Sm C70 X Y := by
  unfold f_Tide_finding
  rw [hc, lt_s1, li 7, c_isBelow (by omega), if_pos (nIr hi (by omega)), bd_s, if_neg (by decide), rdn hi (by omega), wrn hi (by omega)]
  have hS : Sm (fun k => k = 1) X (sI X 1 i (gI X 1 i + 1)) := Sm.rf.sI rfl
  refine ⟨_, rfl, ⟨h.1.sm hO.1.1 hS (by omega), h.2.1.sm (fun u hu => (hO.2.1 u hu).1) hS (by omega) (by omega), fun j hj => ?_, h.2.2.2.1.sm hS (by omega) (by omega), h.2.2.2.2.sm hS (by omega)⟩, hS.mono (fun k q => by unfold C70; omega)⟩
  rw [gsI]
  show _ = if j = i then aF A j + 1 else aF A j
  by_cases hji : j = i
  · subst hji; rw [if_pos ⟨rfl, rfl⟩, if_pos rfl, h.2.2.1 j hj]
  · rw [if_neg (fun q => hji q.2), if_neg hji, h.2.2.1 j hj]
theorem m_finds {A : Ab} {X : Mem} (h : IM A X) {c : Int32} {i : Nat} (hc : (-1000000001 : Int32) - c = nI i) (hi : i < 7) : ∃ Y, f_Model_finds c X = some (c, Y) ∧ IM (fnd A i) Y ∧ Sm M70 X Y := by
  unfold f_Model_finds
  rw [li 0, rdn (by omega) (by omega), wrn (by omega) (by omega), hc, li 1, nI_add, lt_s1, rdn (by omega) (by omega), wrn (by omega) (by omega)]
  have hS : Sm (fun k => k = 75) X (sI (sI X 75 0 (gI X 75 0 + nI 1)) 75 (i + 1) (gI (sI X 75 0 (gI X 75 0 + nI 1)) 75 (i + 1) + nI 1)) := (Sm.sI (K := fun k => k = 75) Sm.rf rfl).sI rfl
  refine ⟨_, rfl, ⟨h.1.sm hS (by omega), h.2.1.sm hS (by omega) (by omega), ⟨?_, fun j hj => ?_⟩, h.2.2.2.1.sm hS (by omega) (by omega), h.2.2.2.2.sm hS (by omega) (by omega) (by omega)⟩, hS.mono (fun k q => by unfold M70; omega)⟩
  · rw [gsI, if_neg (fun q => absurd q.2 (by omega)), gsI, if_pos ⟨rfl, rfl⟩, h.2.2.1.1]
    exact (fsum_inc (aF A) i hi).symm
  · show _ = if j = i then aF A j + 1 else aF A j
    rw [gsI]
    by_cases hji : j = i
    · subst hji
      rw [if_pos ⟨rfl, rfl⟩, if_pos rfl, gsI, if_neg (fun q => absurd q.2 (by omega)), h.2.2.1.2 j hj]
      rfl
    · rw [if_neg (fun q => hji (by omega)), if_neg hji, gsI, if_neg (fun q => absurd q.2 (by omega)), h.2.2.1.2 j hj]
theorem act_find {A : Ab} (hO : Ok A) {f g : Mem → Option (Int32 × Mem)} {c : Int32} {i : Nat} (hc : (-1000000001 : Int32) - c = nI i) (hi : i < 7) (hf : ∀ X, IC A X → f X = f_Tide_finding c X) (hg : ∀ X, IM A X → g X = f_Model_finds c X) : Act f g A :=
  ⟨c, fnd A i, fnd_ok hO, fun X hX => by rw [hf X hX]; exact c_finding hX hO hc hi, fun X hX => by rw [hg X hX]; exact m_finds hX hc hi⟩
/-- an act that only tells -/
theorem act_tell {A : Ab} (hO : Ok A) {f g : Mem → Option (Int32 × Mem)} {r : Int32} (hf : ∀ X, IC A X → ∃ Y, f X = some (r, Y) ∧ Sm scN X Y) (hg : ∀ X, IM A X → ∃ Y, g X = some (r, Y) ∧ IM A Y ∧ Sm M70 X Y) : Act f g A :=
  ⟨r, A, hO, fun X hX => by
    obtain ⟨Y, h1, h2⟩ := hf X hX
    exact ⟨Y, h1, hX.scratch hO h2, h2.mono (fun k q => by unfold scN at q; unfold C70; omega)⟩, hg⟩
/-! the class's shore, changed -/
theorem RC.th {X : Mem} {s : Nat → Nat} (h : RC X 2 s) {t j : Nat} (ht : t < s 0) (hj : j < 6) : gI X ((2 + 3) + 1 + t) j = nI (s (23 + 6 * t + j)) := h.2.2.2.2.2 t ht j hj
theorem RC.putH {X : Mem} {s : Nat → Nat} (h : RC X 2 s) {c v : Nat} (hc : c < 16) : RC (sI X (2 + 1) c (nI v)) 2 (up s (3 + c) v) := by
  obtain ⟨h0, h1, h2, h3, h4, h5⟩ := h
  refine ⟨by rw [gsI, if_neg (by omega), up_n (by omega)]; exact h0, by rw [gsI, if_neg (by omega), up_n (by omega)]; exact h1, by rw [gsI, if_neg (by omega), up_n (by omega)]; exact h2, fun d hd => ?_, fun f hf => by rw [gsI, if_neg (by omega), up_n (by omega)]; exact h4 f hf, fun t ht j hj => ?_⟩
  · rw [gsI]
    by_cases hdc : d = c
    · subst hdc; rw [if_pos ⟨rfl, rfl⟩, up_s]
    · rw [if_neg (by omega), up_n (by omega)]; exact h3 d hd
  · rw [up_n (by omega)] at ht
    rw [gsI, if_neg (by omega), up_n (by omega)]; exact h5 t ht j hj
theorem RC.putP {X : Mem} {s : Nat → Nat} (h : RC X 2 s) {c v : Nat} (hc : c < 4) : RC (sI X (2 + 2) c (nI v)) 2 (up s (19 + c) v) := by
  obtain ⟨h0, h1, h2, h3, h4, h5⟩ := h
  refine ⟨by rw [gsI, if_neg (by omega), up_n (by omega)]; exact h0, by rw [gsI, if_neg (by omega), up_n (by omega)]; exact h1, by rw [gsI, if_neg (by omega), up_n (by omega)]; exact h2, fun d hd => by rw [gsI, if_neg (by omega), up_n (by omega)]; exact h3 d hd, fun d hd => ?_, fun t ht j hj => ?_⟩
  · rw [gsI]
    by_cases hdc : d = c
    · subst hdc; rw [if_pos ⟨rfl, rfl⟩, up_s]
    · rw [if_neg (by omega), up_n (by omega)]; exact h4 d hd
  · rw [up_n (by omega)] at ht
    rw [gsI, if_neg (by omega), up_n (by omega)]; exact h5 t ht j hj
theorem RC.putR {X : Mem} {s : Nat → Nat} (h : RC X 2 s) {v : Nat} : RC (sI X 2 5 (nI v)) 2 (up s 2 v) := by
  obtain ⟨h0, h1, h2, h3, h4, h5⟩ := h
  exact ⟨by rw [gsI, if_neg (by omega), up_n (by omega)]; exact h0, by rw [gsI, if_neg (by omega), up_n (by omega)]; exact h1, by rw [gsI, if_pos ⟨rfl, rfl⟩, up_s], fun d hd => by rw [gsI, if_neg (by omega), up_n (by omega)]; exact h3 d hd, fun d hd => by rw [gsI, if_neg (by omega), up_n (by omega)]; exact h4 d hd, fun t ht j hj => by
    rw [up_n (by omega)] at ht
    rw [gsI, if_neg (by omega), up_n (by omega)]; exact h5 t ht j hj⟩
theorem RC.putT {X : Mem} {s : Nat → Nat} (h : RC X 2 s) {t j v : Nat} (hj : j < 6) : RC (sI X ((2 + 3) + 1 + t) j (nI v)) 2 (up s (23 + 6 * t + j) v) := by
  obtain ⟨h0, h1, h2, h3, h4, h5⟩ := h
  refine ⟨by rw [gsI, if_neg (by omega), up_n (by omega)]; exact h0, by rw [gsI, if_neg (by omega), up_n (by omega)]; exact h1, by rw [gsI, if_neg (by omega), up_n (by omega)]; exact h2, fun d hd => by rw [gsI, if_neg (by omega), up_n (by omega)]; exact h3 d hd, fun d hd => by rw [gsI, if_neg (by omega), up_n (by omega)]; exact h4 d hd, fun u hu i hi => ?_⟩
  rw [up_n (by omega)] at hu
  rw [gsI]
  by_cases hc : u = t ∧ i = j
  · obtain ⟨rfl, rfl⟩ := hc
    rw [if_pos ⟨by omega, rfl⟩, up_s]
  · rw [if_neg (by omega), up_n (by omega)]; exact h5 u hu i hi
/-- only the shore changes -/
theorem IC.shore {A : Ab} {X Y : Mem} {s : Nat → Nat} (h : IC A X) (hO : Ok A) (hR : RC Y 2 s) (hS : Sm (fun k => (2 ≤ k ∧ k < 16) ∨ scN k) X Y) : IC (s, A.2) Y ∧ Sm C70 X Y :=
  ⟨⟨hR, h.2.1.sm (fun u hu => (hO.2.1 u hu).1) hS (fun q => by unfold scN at q; omega) (fun i hi q => by unfold scN at q; omega), h.2.2.1.sm hS (fun q => by unfold scN at q; omega), h.2.2.2.1.sm hS (fun q => by unfold scN at q; omega) (fun q => by unfold scN at q; omega), h.2.2.2.2.sm hS (fun i hi q => by unfold scN at q; omega)⟩, hS.mono (fun k q => by unfold scN at q; unfold C70; omega)⟩
theorem IM.shore {A : Ab} {X Y : Mem} {s : Nat → Nat} (h : IM A X) (hR : RM Y 71 s) (hS : Sm (fun k => k = 71 ∨ k = 73 ∨ k = 74) X Y) : IM (s, A.2) Y ∧ Sm M70 X Y :=
  ⟨⟨hR, h.2.1.sm hS (by omega) (by omega), h.2.2.1.sm hS (by omega), h.2.2.2.1.sm hS (by omega) (by omega), h.2.2.2.2.sm hS (by omega) (by omega) (by omega)⟩, hS.mono (fun k q => by unfold M70; omega)⟩
theorem m_becomes {X : Mem} {s : Nat → Nat} (h : RM X 71 s) {j : Nat} {v : Int32} (hj : j < 83) : f_Model_becomes (nI j) v X = some (nI (s j), sI X 71 j v) := by
  unfold f_Model_becomes
  rw [rdn hj (by omega), wrn hj (by omega), h j hj]
