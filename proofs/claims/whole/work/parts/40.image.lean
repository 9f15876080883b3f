/-! one shore becomes another -/
theorem gcI {X : Mem} {k0 k1 u d n a b : Nat} : gI (cI X k0 k1 u d n) a b = if a = k1 then (if d ≤ b ∧ b < d + n then gI X k0 (u + (b - d)) else gI X k1 b) else gI X a b := rfl
theorem sm_cI {K : Nat → Prop} {X Y : Mem} (h : Sm K X Y) {k0 k1 u d n : Nat} (hk : K k1) : Sm K X (cI Y k0 k1 u d n) := fun a ha => ⟨fun b => by rw [gcI, if_neg (fun q : a = k1 => ha (q ▸ hk))]; exact (h a ha).1 b, fun b => (h a ha).2 b⟩
theorem c_tbecome {X : Mem} {a b : Nat} (h : a ≠ b) : ∃ Y, f_Thing_become a b X = some Y ∧ (∀ j, j < 6 → gI Y a j = gI X b j) ∧ Sm (fun q => q = a) X Y := by
  unfold f_Thing_become
  simp only [lt_s1]
  have hn : ∀ (Z : Mem) (j : Nat) (v : Int32) (i : Nat), gI (sI Z a j v) b i = gI Z b i := fun Z j v i => by rw [gsI, if_neg (fun q => h q.1.symm)]
  simp only [hn]
  refine ⟨_, rfl, fun j hj => ?_, sm_s1 (sm_s1 (sm_s1 (sm_s1 (sm_s1 (sm_s1 Sm.rf)))))⟩
  rcases (show j = 0 ∨ j = 1 ∨ j = 2 ∨ j = 3 ∨ j = 4 ∨ j = 5 by omega) with rfl | rfl | rfl | rfl | rfl | rfl
  · rw [gsI, if_neg (by omega), gsI, if_neg (by omega), gsI, if_neg (by omega), gsI, if_neg (by omega), gsI, if_neg (by omega), gsI, if_pos ⟨rfl, rfl⟩]
  · rw [gsI, if_neg (by omega), gsI, if_neg (by omega), gsI, if_neg (by omega), gsI, if_neg (by omega), gsI, if_pos ⟨rfl, rfl⟩]
  · rw [gsI, if_neg (by omega), gsI, if_neg (by omega), gsI, if_neg (by omega), gsI, if_pos ⟨rfl, rfl⟩]
  · rw [gsI, if_neg (by omega), gsI, if_neg (by omega), gsI, if_pos ⟨rfl, rfl⟩]
  · rw [gsI, if_neg (by omega), gsI, if_pos ⟨rfl, rfl⟩]
  · rw [gsI, if_pos ⟨rfl, rfl⟩]
theorem c_become {X : Mem} {B C : Nat} {s : Nat → Nat} (h : RC X C s) (h0 : s 0 ≤ 10) (hBC : B + 14 ≤ C ∨ C + 14 ≤ B) : ∃ Y, f_Shore_become B C X = some Y ∧ RC Y B s ∧ Sm (fun q => B ≤ q ∧ q < B + 14) X Y := by
  obtain ⟨a0, a1, a2, a3, a4, a5⟩ := h
  unfold f_Shore_become acI
  rw [if_pos (by decide)]
  dsimp only
  rw [if_pos (by decide)]
  simp only [lt_s1]
  have hz : (0 : Int32).toNatClampNeg = 0 := by decide
  have h16 : (16 : Int32).toNatClampNeg = 16 := by decide
  have h4 : (4 : Int32).toNatClampNeg = 4 := by decide
  rw [hz, h16, h4]
  generalize hX2 : cI (cI X (C + 1) (B + 1) 0 0 16) (C + 2) (B + 2) 0 0 4 = X2
  have hS2 : Sm (fun q => B ≤ q ∧ q < B + 14) X X2 := by
    rw [← hX2]
    exact sm_cI (sm_cI Sm.rf (by omega)) (by omega)
  have hC : ∀ q j, C ≤ q → q < C + 14 → gI X2 q j = gI X q j := fun q j h1 h2 => (hS2 q (by omega)).1 j
  have hC3 : ∀ (Z : Mem) (j i : Nat) (v : Int32), gI (sI Z B j v) C i = gI Z C i := fun Z j i v => by rw [gsI, if_neg (by omega)]
  rw [hC3, hC3, hC3, hC C 3 (by omega) (by omega), hC C 4 (by omega) (by omega), hC C 5 (by omega) (by omega), a0, a1, a2]
  generalize hX8 : sI (sI (sI X2 B 3 (nI (s 0))) B 4 (nI (s 1))) B 5 (nI (s 2)) = X8
  have hS8 : Sm (fun q => B ≤ q ∧ q < B + 14) X X8 := by
    rw [← hX8]
    exact ((hS2.sI (by omega)).sI (by omega)).sI (by omega)
  have b0 : gI X8 B 3 = nI (s 0) := by rw [← hX8, gsI, if_neg (by omega), gsI, if_neg (by omega), gsI, if_pos ⟨rfl, rfl⟩]
  have b1 : gI X8 B 4 = nI (s 1) := by rw [← hX8, gsI, if_neg (by omega), gsI, if_pos ⟨rfl, rfl⟩]
  have b2 : gI X8 B 5 = nI (s 2) := by rw [← hX8, gsI, if_pos ⟨rfl, rfl⟩]
  have b3 : ∀ c, c < 16 → gI X8 (B + 1) c = nI (s (3 + c)) := fun c hc => by
    rw [← hX8, gsI, if_neg (by omega), gsI, if_neg (by omega), gsI, if_neg (by omega), ← hX2, gcI, if_neg (by omega), gcI, if_pos rfl, if_pos (by omega), Nat.zero_add, Nat.sub_zero]
    exact a3 c hc
  have b4 : ∀ c, c < 4 → gI X8 (B + 2) c = nI (s (19 + c)) := fun c hc => by
    rw [← hX8, gsI, if_neg (by omega), gsI, if_neg (by omega), gsI, if_neg (by omega), ← hX2, gcI, if_pos rfl, if_pos (by omega), Nat.zero_add, Nat.sub_zero, gcI, if_neg (by omega)]
    exact a4 c hc
  obtain ⟨Y, h1, h2⟩ := it_run (f := fun a => f_Shore_become_b55 B C a.1 a.2) (fun i a => a.1 = nI i ∧ Sm (fun q => B ≤ q ∧ q < B + 14) X a.2 ∧ Sm (fun q => B + 4 ≤ q) X8 a.2 ∧ ∀ t, t < i → ∀ j, j < 6 → gI a.2 (B + 4 + t) j = nI (s (23 + 6 * t + j))) (fun Y => RC Y B s ∧ Sm (fun q => B ≤ q ∧ q < B + 14) X Y) (s 0) (by omega) ((0 : Int32), X8) ⟨rfl, hS8, Sm.rf, fun t ht => absurd ht (by omega)⟩ (by
    intro i a hi ⟨e1, e2, e3, e4⟩
    obtain ⟨x, Z⟩ := a
    dsimp only at e1 e2 e3 e4 ⊢
    subst e1
    have e0 : gI Z B 3 = nI (s 0) := ((e3 B (by omega)).1 3).trans b0
    unfold f_Shore_become_b55
    simp only [lt_s1]
    rw [e0]
    by_cases hlt : i < s 0
    · right
      obtain ⟨Y, c1, c2, c3⟩ := c_tbecome (X := Z) (a := B + 4 + i) (b := C + 4 + i) (by omega)
      rw [if_neg (by rw [nI_leI (by omega) (by omega)]; omega), rdRn (by omega) (by omega), rdRn (by omega) (by omega), show B + 3 + 1 + i = B + 4 + i from by omega, show C + 3 + 1 + i = C + 4 + i from by omega, c1, bd_s, li 1, nI_add]
      refine ⟨hlt, _, rfl, rfl, e2.tr (c3.mono (fun q hq => by omega)), e3.tr (c3.mono (fun q hq => by omega)), fun t ht j hj => ?_⟩
      by_cases hti : t = i
      · subst hti
        exact (c2 j hj).trans (((e2 (C + 4 + t) (by omega)).1 j).trans (a5 t hlt j hj))
      · exact ((c3 (B + 4 + t) (by omega)).1 j).trans (e4 t (by omega) j hj)
    · have : i = s 0 := by omega
      subst this
      left
      rw [if_pos (by rw [nI_leI (by omega) (by omega)]; omega)]
      exact ⟨Z, rfl, ⟨e0, ((e3 B (by omega)).1 4).trans b1, ((e3 B (by omega)).1 5).trans b2, fun c hc => ((e3 (B + 1) (by omega)).1 c).trans (b3 c hc), fun c hc => ((e3 (B + 2) (by omega)).1 c).trans (b4 c hc), e4⟩, e2⟩)
  exact ⟨Y, h1, h2⟩
theorem op_image {A : Ab} (hO : Ok A) : Act f_Tide_image f_Model_image A := by
  refine ⟨1, (aS A, some (aS A), A.2.2), ⟨hO.1, fun k hk => by injection hk with hk; rw [← hk]; exact hO.1, hO.2.2⟩, fun X hX => ?_, fun X hX => ?_⟩
  · obtain ⟨Y, h1, h2, h3⟩ := c_become (B := 16) hX.1 hO.1.1 (by omega)
    unfold f_Tide_image
    rw [h1, bd_s, lt_s1]
    have hS1 : Sm (fun q => q = 0) Y (sI Y 0 11 1) := Sm.rf.sI rfl
    have hS : Sm (fun q => q = 0 ∨ (16 ≤ q ∧ q < 16 + 14)) X (sI Y 0 11 1) := (h3.mono (fun q hq => Or.inr hq)).sI (Or.inl rfl)
    exact ⟨_, rfl, ⟨hX.1.sm hO.1.1 hS (by omega), ⟨by rw [gsI, if_pos ⟨rfl, rfl⟩], h2.sm hO.1.1 hS1 (by omega)⟩, hX.2.2.1.sm hS (by omega), hX.2.2.2.1.sm hS (by omega) (by omega), hX.2.2.2.2.sm hS (by omega)⟩, hS.mono (fun q hq => by unfold C70; omega)⟩
  · obtain ⟨Y, h1, h2, h3⟩ := m_copyRow (B := 72) hX.1 (by omega)
    unfold f_Model_image
    rw [h1, bd_s, lt_s1]
    have hS1 : Sm (fun q => q = 70) Y (sI Y 70 4 1) := Sm.rf.sI rfl
    have hS : Sm (fun q => q = 70 ∨ q = 72) X (sI Y 70 4 1) := (h3.mono (fun q hq => Or.inr hq)).sI (Or.inl rfl)
    refine ⟨_, rfl, ⟨hX.1.sm hS (by omega), ⟨by rw [gsI, if_pos ⟨rfl, rfl⟩], h2.sm hS1 (by omega)⟩, hX.2.2.1.sm hS (by omega), ⟨?_, fun i hi => ((hS 76 (by omega)).1 i).trans (hX.2.2.2.1.2 i hi)⟩, hX.2.2.2.2.sm hS (by omega) (by omega) (by omega)⟩, hS.mono (fun q hq => by unfold M70; omega)⟩
    rw [gsI, if_neg (by omega), (h3 70 (by omega)).1]
    exact hX.2.2.2.1.1
theorem op_undo {A : Ab} (hO : Ok A) : Act f_Tide_undo f_Model_undo A := by
  obtain ⟨s, k, A2⟩ := A
  cases k with
  | none =>
    refine act_find hO (c := -1000000004) (i := 3) (by decide) (by omega) (fun X hX => ?_) (fun X hX => ?_)
    · unfold f_Tide_undo
      rw [lt_s1, show gI X 0 11 = 0 from hX.2.1, if_pos rfl, bd2_id]
    · unfold f_Model_undo
      rw [lt_s1, show gI X 70 4 = 0 from hX.2.1, if_pos rfl, bd2_id]
  | some k =>
    have hk : Gd 99999 k := hO.2.1 k rfl
    refine ⟨nI (k 0), (k, some k, A2), ⟨hk, hO.2⟩, fun X hX => ?_, fun X hX => ?_⟩
    · have hK : gI X 0 11 = 1 ∧ RC X 16 k := hX.2.1
      obtain ⟨Y, h1, h2, h3⟩ := c_become (B := 2) hK.2 hk.1 (by omega)
      unfold f_Tide_undo
      rw [lt_s1, hK.1, if_neg (by decide), h1, bd_s, lt_s1, h2.1]
      exact ⟨Y, rfl, hX.shore hO h2 (h3.mono (fun q hq => Or.inl (by omega)))⟩
    · have hK : gI X 70 4 = 1 ∧ RM X 72 k := hX.2.1
      obtain ⟨Y, h1, h2, h3⟩ := m_copyRow (B := 71) hK.2 (by omega)
      unfold f_Model_undo
      rw [lt_s1, hK.1, if_neg (by decide), h1, bd_s, li 0, h2.rd (by omega)]
      exact ⟨Y, rfl, hX.shore h2 (h3.mono (fun q hq => Or.inl hq))⟩
theorem tear_c {s : Nat → Nat} {k : Option (Nat → Nat)} {A2 : (Nat → Int32) × (Nat × (Nat → Nat)) × (Nat → Nat × Nat × (Nat → Int64))} (hO : Ok (s, k, A2)) {X : Mem} (hX : IC (s, k, A2) X) : IC (s, none, A2) (sI X 0 11 0) ∧ Sm C70 X (sI X 0 11 0) := by
  have hS : Sm (fun q => q = 0) X (sI X 0 11 0) := Sm.rf.sI rfl
  exact ⟨⟨hX.1.sm hO.1.1 hS (by omega), (by show gI (sI X 0 11 0) 0 11 = 0; rw [gsI, if_pos ⟨rfl, rfl⟩]), hX.2.2.1.sm hS (by omega), hX.2.2.2.1.sm hS (by omega) (by omega), hX.2.2.2.2.sm hS (by omega)⟩, hS.mono (fun q hq => by unfold C70; omega)⟩
theorem tear_m {s : Nat → Nat} {k : Option (Nat → Nat)} {A2 : (Nat → Int32) × (Nat × (Nat → Nat)) × (Nat → Nat × Nat × (Nat → Int64))} {X : Mem} (hX : IM (s, k, A2) X) : IM (s, none, A2) (sI X 70 4 0) ∧ Sm M70 X (sI X 70 4 0) := by
  have hS : Sm (fun q => q = 70) X (sI X 70 4 0) := Sm.rf.sI rfl
  exact ⟨⟨hX.1.sm hS (by omega), (by show gI (sI X 70 4 0) 70 4 = 0; rw [gsI, if_pos ⟨rfl, rfl⟩]), hX.2.2.1.sm hS (by omega), ⟨by rw [gsI, if_neg (by omega)]; exact hX.2.2.2.1.1, fun i hi => ((hS 76 (by omega)).1 i).trans (hX.2.2.2.1.2 i hi)⟩, hX.2.2.2.2.sm hS (by omega) (by omega) (by omega)⟩, hS.mono (fun q hq => by unfold M70; omega)⟩
theorem op_tear {A : Ab} (hO : Ok A) : Act f_Tide_tear f_Model_tear A := by
  obtain ⟨s, k, A2⟩ := A
  have hB : Ok (s, none, A2) := ⟨hO.1, fun k hk => (by cases hk), hO.2.2⟩
  cases k with
  | none =>
    refine ⟨0, (s, none, A2), hB, fun X hX => ?_, fun X hX => ?_⟩
    · unfold f_Tide_tear f_Tide_tear_j12
      rw [lt_s1, show gI X 0 11 = 0 from hX.2.1, if_pos rfl, lt_s1]
      exact ⟨_, rfl, tear_c hO hX⟩
    · unfold f_Model_tear
      rw [lt_s1, lt_s1, show gI X 70 4 = 0 from hX.2.1, if_pos rfl]
      exact ⟨_, rfl, tear_m hX⟩
  | some k =>
    refine ⟨1, (s, none, A2), hB, fun X hX => ?_, fun X hX => ?_⟩
    · unfold f_Tide_tear f_Tide_tear_j12
      rw [lt_s1, show gI X 0 11 = 1 from hX.2.1.1, if_neg (by decide), lt_s1]
      exact ⟨_, rfl, tear_c hO hX⟩
    · unfold f_Model_tear
      rw [lt_s1, lt_s1, show gI X 70 4 = 1 from hX.2.1.1, if_neg (by decide)]
      exact ⟨_, rfl, tear_m hX⟩
/-! the tape -/
def tp (A : Ab) (n : Nat) (b : Nat → Nat) : Ab := (A.1, A.2.1, A.2.2.1, (n, b), A.2.2.2.2)
theorem IC.tape {A : Ab} {X Y : Mem} {n : Nat} {b : Nat → Nat} (h : IC A X) (hO : Ok A) (hT : TC Y n b) (hS : Sm (fun q => q = 44 ∨ q = 45) X Y) : IC (tp A n b) Y ∧ Sm C70 X Y :=
  ⟨⟨h.1.sm hO.1.1 hS (by omega), h.2.1.sm (fun u hu => (hO.2.1 u hu).1) hS (by omega) (by omega), h.2.2.1.sm hS (by omega), hT, h.2.2.2.2.sm hS (by omega)⟩, hS.mono (fun q hq => by unfold C70; omega)⟩
theorem KM.sm7 {X Y : Mem} {k : Option (Nat → Nat)} (h : KM X k) (h0 : gI Y 70 4 = gI X 70 4) {K : Nat → Prop} (hS : Sm K X Y) (h2 : ¬ K 72) : KM Y k := by
  cases k with
  | none => exact h0.trans h
  | some u => exact ⟨h0.trans h.1, h.2.sm hS h2⟩
theorem IM.tape {A : Ab} {X Y : Mem} {n : Nat} {b : Nat → Nat} (h : IM A X) (hT : TM Y n b) (h4 : gI Y 70 4 = gI X 70 4) (hS : Sm (fun q => q = 70 ∨ q = 76) X Y) : IM (tp A n b) Y ∧ Sm M70 X Y :=
  ⟨⟨h.1.sm hS (by omega), h.2.1.sm7 h4 hS (by omega), h.2.2.1.sm hS (by omega), hT, h.2.2.2.2.sm hS (by omega) (by omega) (by omega)⟩, hS.mono (fun q hq => by unfold M70; omega)⟩
theorem op_wipe {A : Ab} (hO : Ok A) : Act f_Tide_wipe f_Model_wipe A := by
  refine ⟨nI (aT A), tp A 0 (aB A), ⟨hO.1, hO.2.1, Nat.zero_le _, fun i hi => absurd hi (Nat.not_lt_zero i), hO.2.2.2.2⟩, fun X hX => ?_, fun X hX => ?_⟩
  · unfold f_Tide_wipe
    rw [lt_s1, lt_s1, hX.2.2.2.1.1]
    exact ⟨_, rfl, hX.tape hO ⟨by rw [gsI, if_pos ⟨rfl, rfl⟩]; rfl, fun i hi => absurd hi (Nat.not_lt_zero i)⟩ (Sm.rf.sI (Or.inl rfl))⟩
  · unfold f_Model_wipe
    rw [lt_s1, lt_s1, hX.2.2.2.1.1]
    exact ⟨_, rfl, hX.tape ⟨by rw [gsI, if_pos ⟨rfl, rfl⟩]; rfl, fun i hi => absurd hi (Nat.not_lt_zero i)⟩ (by rw [gsI, if_neg (by omega)]) (Sm.rf.sI (Or.inl rfl))⟩
theorem by_lo (y : Int32) : ∃ b, b < 256 ∧ y &&& 255 = nI b := by
  have h : (y &&& 255).toBitVec.toNat ≤ 255 := by
    show (y.toBitVec &&& 255#32).toNat ≤ 255
    rw [BitVec.toNat_and]
    exact Nat.and_le_right
  have h2 : (y &&& 255).toInt = ((y &&& 255).toBitVec.toNat : Int) := BitVec.toInt_eq_toNat_of_lt (by omega)
  obtain ⟨b, hb, e⟩ := ofr (p := y &&& 255) (n := 256) (by rw [h2]; omega)
  exact ⟨b, hb, e⟩
theorem by_eq (y : Int32) : y.toInt8.toInt32.toInt8.toInt32 = (y &&& 255).toInt8.toInt32 := by
  rw [Int8.toInt8_toInt32]
  congr 1
  rw [Int32.toInt8_and, show (255 : Int32).toInt8 = -1 from by decide, Int8.and_neg_one]
def byt (x : Int32) (n i : Nat) : Int32 := x >>> (((8 : Int32) * (nI n - 1 - nI i)) &&& 31)
theorem feed_end {n : Nat} (h1 : 1 ≤ n) (h2 : n ≤ 4) : nI n - 1 - nI n < 0 := by
  rcases (show n = 1 ∨ n = 2 ∨ n = 3 ∨ n = 4 by omega) with rfl | rfl | rfl | rfl <;> decide
theorem feed_go {n i : Nat} (h2 : n ≤ 4) (h : i < n) : ¬ nI n - 1 - nI i < 0 := by
  rw [li 1, pk_sub (by omega), pk_sub (by omega), li 0, nI_ltI (by omega) (by omega)]
  omega
theorem feed_nx {n i : Nat} : nI n - 1 - nI i + (-1 : Int32) = nI n - 1 - nI (i + 1) := by
  rw [← nI_add, show nI 1 = (1 : Int32) from rfl]
  simp only [Int32.sub_eq_add_neg, Int32.neg_add, Int32.add_assoc]
theorem op_feed {A : Ab} (hO : Ok A) (p1 p2 : Int32) : Act (f_Tide_feed p1 p2) (f_Model_feed p1 p2) A := by
  by_cases h1 : (1 : Int) ≤ p2.toInt ∧ p2.toInt ≤ ((4 : Nat) : Int)
  · obtain ⟨n, hn, rfl⟩ := ofr (p := p2) (n := 5) (by omega)
    have hn1 : 1 ≤ n := by have := h1.1; rw [nI_toInt (by omega)] at this; omega
    have hT := hO.2.2.1
    by_cases h2 : aT A + n ≤ 120
    · have hv : ∃ v : Nat → Nat, ∀ i, v i < 256 ∧ byt p1 n i &&& 255 = nI (v i) := ⟨fun i => Classical.choose (by_lo (byt p1 n i)), fun i => Classical.choose_spec (by_lo (byt p1 n i))⟩
      obtain ⟨v, hv⟩ := hv
      generalize hb : (fun j => if j < aT A then aB A j else v (j - aT A)) = b
      have hbl : ∀ j, j < aT A → b j = aB A j := fun j hj => by rw [← hb]; exact if_pos hj
      have hbh : ∀ i, b (aT A + i) = v i := fun i => by
        rw [← hb]
        show (if aT A + i < aT A then _ else v (aT A + i - aT A)) = v i
        rw [if_neg (by omega), Nat.add_sub_cancel_left]
      refine ⟨nI (aT A + n), tp A (aT A + n) b, ⟨hO.1, hO.2.1, h2, fun i hi => ?_, hO.2.2.2.2⟩, fun X hX => ?_, fun X hX => ?_⟩
      · by_cases hi2 : i < aT A
        · show b i < 256
          rw [hbl i hi2]; exact hO.2.2.2.1 i hi2
        · show b i < 256
          have := hbh (i - aT A)
          rw [show aT A + (i - aT A) = i from by omega] at this
          rw [this]; exact (hv _).1
      · unfold f_Tide_feed
        rw [li 4, c_isUpTo1 (by omega), if_pos h1, bd_s, if_neg (by decide), lt_s1, hX.2.2.2.1.1, nI_add, li 120, if_pos (by rw [nI_leI (by omega) (by omega)]; exact h2), lt_s1]
        obtain ⟨⟨r, Y⟩, c1, c2, c3, c4⟩ := it_run (f := fun a => f_Tide_feed_b41 p1 a.1 a.2) (fun i a => a.1 = nI n - 1 - nI i ∧ TC a.2 (aT A + i) b ∧ Sm (fun q => q = 44 ∨ q = 45) X a.2) (fun Y => Y.1 = nI (aT A + n) ∧ TC Y.2 (aT A + n) b ∧ Sm (fun q => q = 44 ∨ q = 45) X Y.2) n (by omega) (nI n - 1, X) ⟨(Int32.sub_zero _).symm, ⟨hX.2.2.2.1.1, fun j hj => by rw [hbl j hj]; exact hX.2.2.2.1.2 j hj⟩, Sm.rf⟩ (by
          intro i a hi ⟨e1, e2, e3⟩
          obtain ⟨x, Z⟩ := a
          dsimp only at e1 e2 e3 ⊢
          subst e1
          unfold f_Tide_feed_b41
          by_cases hlt : i < n
          · right
            unfold f_Tape_put
            simp only [lt_s1]
            rw [if_neg (feed_go (by omega) hlt), e2.1, li 120, if_neg (by rw [nI_leI (by omega) (by omega)]; omega), wrBn (by omega) (by omega), gsI, if_neg (by omega), e2.1, bd_s, feed_nx]
            refine ⟨hlt, _, rfl, rfl, ⟨by rw [gsI, if_pos ⟨rfl, rfl⟩]; rw [li 1, nI_add]; rfl, fun j hj => ?_⟩, (e3.sI (Or.inr rfl)).sI (Or.inl rfl)⟩
            rw [gsI, if_neg (by omega), gsI]
            by_cases hj2 : j = aT A + i
            · subst hj2
              rw [if_pos ⟨rfl, rfl⟩, hbh, ← (hv i).2]
              exact by_eq _
            · rw [if_neg (by omega)]; exact e2.2 j (by omega)
          · have : i = n := by omega
            subst this
            left
            rw [if_pos (feed_end hn1 (by omega)), lt_s1, e2.1]
            exact ⟨_, rfl, rfl, e2, e3⟩)
        dsimp only at c2 c3 c4
        subst c2
        exact ⟨Y, c1, hX.tape hO c3 c4⟩
      · unfold f_Model_feed
        rw [lL 4, m_isIn1 (by omega), if_pos h1, bd_s, if_neg (by decide), lt_s1, hX.2.2.2.1.1, nI_add, li 120, if_pos (by rw [nI_leI (by omega) (by omega)]; exact h2), lt_s1]
        obtain ⟨⟨r, Y⟩, c1, c2, c3, c4, c5⟩ := it_run (f := fun a => f_Model_feed_b41 p1 a.1 a.2) (fun i a => a.1 = nI n - 1 - nI i ∧ TM a.2 (aT A + i) b ∧ gI a.2 70 4 = gI X 70 4 ∧ Sm (fun q => q = 70 ∨ q = 76) X a.2) (fun Y => Y.1 = nI (aT A + n) ∧ TM Y.2 (aT A + n) b ∧ gI Y.2 70 4 = gI X 70 4 ∧ Sm (fun q => q = 70 ∨ q = 76) X Y.2) n (by omega) (nI n - 1, X) ⟨(Int32.sub_zero _).symm, ⟨hX.2.2.2.1.1, fun j hj => by rw [hbl j hj]; exact hX.2.2.2.1.2 j hj⟩, rfl, Sm.rf⟩ (by
          intro i a hi ⟨e1, e2, e4, e3⟩
          obtain ⟨x, Z⟩ := a
          dsimp only at e1 e2 e3 e4 ⊢
          subst e1
          unfold f_Model_feed_b41
          by_cases hlt : i < n
          · right
            simp only [lt_s1]
            rw [if_neg (feed_go (by omega) hlt), e2.1, wrn (by omega) (by omega), gsI, if_neg (by omega), e2.1, feed_nx]
            refine ⟨hlt, _, rfl, rfl, ⟨by rw [gsI, if_pos ⟨rfl, rfl⟩]; rw [li 1, nI_add]; rfl, fun j hj => ?_⟩, by rw [gsI, if_neg (by omega), gsI, if_neg (by omega)]; exact e4, (e3.sI (Or.inr rfl)).sI (Or.inl rfl)⟩
            rw [gsI, if_neg (by omega), gsI]
            by_cases hj2 : j = aT A + i
            · subst hj2
              rw [if_pos ⟨rfl, rfl⟩, hbh, ← (hv i).2]
              rfl
            · rw [if_neg (by omega)]; exact e2.2 j (by omega)
          · have : i = n := by omega
            subst this
            left
            rw [if_pos (feed_end hn1 (by omega)), lt_s1, e2.1]
            exact ⟨_, rfl, rfl, e2, e4, e3⟩)
        dsimp only at c2 c3 c4 c5
        subst c2
        exact ⟨Y, c1, hX.tape c3 c4 c5⟩
    · refine act_find hO (c := -1000000002) (i := 1) (by decide) (by omega) (fun X hX => ?_) (fun X hX => ?_)
      · unfold f_Tide_feed
        rw [li 4, c_isUpTo1 (by omega), if_pos h1, bd_s, if_neg (by decide), lt_s1, hX.2.2.2.1.1, nI_add, li 120, if_neg (by rw [nI_leI (by omega) (by omega)]; exact h2), bd2_id]
      · unfold f_Model_feed
        rw [lL 4, m_isIn1 (by omega), if_pos h1, bd_s, if_neg (by decide), lt_s1, hX.2.2.2.1.1, nI_add, li 120, if_neg (by rw [nI_leI (by omega) (by omega)]; exact h2), bd2_id]
  · refine act_bey hO (fun X hX => ?_) (fun X hX => ?_)
    · unfold f_Tide_feed
      rw [li 4, c_isUpTo1 (by omega), if_neg h1, bd_s, if_pos rfl, bd2_id]
    · unfold f_Model_feed
      rw [lL 4, m_isIn1 (by omega), if_neg h1, bd_s, if_pos rfl, bd2_id]
