/-! the law -/
def s00 (j : Nat) : Nat := if j = 2 then 2 else if 3 ≤ j ∧ j < 19 then (j - 3) % 10 else 0
def A00 : Ab := (s00, none, (fun _ => 0), (0, fun _ => 0), fun _ => (0, 0, fun _ => 0))
theorem s00_gd : Gd 99999 s00 := by
  refine ⟨by decide, by decide, by decide, by decide +kernel, by decide +kernel, fun t ht => absurd ht (by show ¬ t < 0; omega)⟩
theorem ok00 : Ok A00 := ⟨s00_gd, fun k hk => (by cases hk), Nat.zero_le _, fun i hi => absurd hi (Nat.not_lt_zero i), fun t ht => ⟨Or.inl rfl, Nat.zero_le _, fun _ => rfl⟩⟩
theorem ic00 : IC A00 Xf := by
  refine ⟨⟨by decide +kernel, by decide +kernel, by decide +kernel, by decide +kernel, by decide +kernel, fun t ht => absurd ht (by show ¬ t < 0; omega)⟩, (by show gI Xf 0 11 = 0; decide +kernel), (by show ∀ i, i < 7 → gI Xf 1 i = 0; decide +kernel), ⟨by show gI Xf 44 1 = nI 0; decide +kernel, fun i hi => absurd hi (Nat.not_lt_zero i)⟩, (by
    have h1 : ∀ t, t < 4 → gI Xf (52 + 2 * t) 1 = nI 0 ∧ gI Xf (52 + 2 * t) 2 = nI 0 := by decide +kernel
    exact fun t ht => ⟨(h1 t ht).1, (h1 t ht).2, fun j hj => rfl⟩)⟩
theorem im00 : IM A00 Xf := by
  refine ⟨(by show ∀ j, j < 83 → gI Xf 71 j = nI (s00 j); decide +kernel), (by show gI Xf 70 4 = 0; decide +kernel), ⟨by show gI Xf 75 0 = fsum (fun _ => 0); decide +kernel, (by show ∀ i, i < 7 → gI Xf 75 (i + 1) = 0; decide +kernel)⟩, ⟨by show gI Xf 70 7 = nI 0; decide +kernel, fun i hi => absurd hi (Nat.not_lt_zero i)⟩, (by
    have h1 : ∀ t, t < 4 → gI Xf 77 t = -1 ∧ gI Xf 78 t = nI 0 := by decide +kernel
    exact fun t ht => ⟨(h1 t ht).1, (h1 t ht).2, fun j hj => rfl⟩)⟩
theorem rdSn {β : Type} {xs : Nat → Int32} {L i : Nat} {G : Int32 → Option β} (h : i < L) (hL : L < 2 ^ 31) : rdS xs L (nI i) G = G (xs i) := by
  unfold rdS
  rw [if_pos (ckn h hL), nI_clamp (by omega)]
theorem rdSk {β : Type} {xs : Nat → Int32} {L i k : Nat} {G : Int32 → Option β} (h : i + k < L) (hL : L < 2 ^ 31) : rdS xs L (nI i + nI k) G = G (xs (i + k)) := by
  rw [nI_add]
  exact rdSn h hL
def LawSt (xs : Nat → Int32) (L i : Nat) (o : Option (Int32 ⊕ (Int32 × Mem))) : Prop := ∃ Z B, o = some (.inr (nI (i + 6), Z)) ∧ Ok B ∧ IC B Z ∧ IM B Z
theorem l_end {xs : Nat → Int32} {L i : Nat} {A : Ab} {X : Mem} (hO : Ok A) (hC : IC A X) (hM : IM A X) : LawSt xs L i (f_law_j1403 xs L (nI i) X) := by
  unfold f_law_j1403
  rw [lt_s1, li 6, nI_add]
  exact ⟨X, A, rfl, hO, hC, hM⟩
theorem l_height {xs : Nat → Int32} {L i : Nat} {A : Ab} {X : Mem} (hL : L ≤ 3072) (hi : i + 6 ≤ L) (hO : Ok A) (hC : IC A X) (hM : IM A X) : LawSt xs L i (f_law_j204 xs L (nI i) X) := by
  obtain ⟨r, Y, Z, e1, e2, B, b1, b2, b3⟩ := Act.use (op_height hO (xs (i + 1)) (xs (i + 2))) hO hC hM
  unfold f_law_j204
  have a1 : ∀ G : Int32 → Option (Int32 ⊕ (Int32 × Mem)), rdS xs L (nI i + (1 : Int32)) G = G (xs (i + 1)) := fun G => rdSk (k := 1) (by omega) (by omega)
  have a2 : ∀ G : Int32 → Option (Int32 ⊕ (Int32 × Mem)), rdS xs L (nI i + (2 : Int32)) G = G (xs (i + 2)) := fun G => rdSk (k := 2) (by omega) (by omega)
  rw [a1, a2, e1, bd2_s, a1, a2, e2, bd2_s, if_pos rfl]
  exact l_end b1 b2 b3
theorem l_cell {xs : Nat → Int32} {L i : Nat} {A : Ab} {X : Mem} (hL : L ≤ 3072) (hi : i + 6 ≤ L) (hO : Ok A) (hC : IC A X) (hM : IM A X) : LawSt xs L i (f_law_j237 xs L (nI i) X) := by
  obtain ⟨r, Y, Z, e1, e2, B, b1, b2, b3⟩ := Act.use (op_cell hO (xs (i + 1)) (xs (i + 2))) hO hC hM
  unfold f_law_j237
  have a1 : ∀ G : Int32 → Option (Int32 ⊕ (Int32 × Mem)), rdS xs L (nI i + (1 : Int32)) G = G (xs (i + 1)) := fun G => rdSk (k := 1) (by omega) (by omega)
  have a2 : ∀ G : Int32 → Option (Int32 ⊕ (Int32 × Mem)), rdS xs L (nI i + (2 : Int32)) G = G (xs (i + 2)) := fun G => rdSk (k := 2) (by omega) (by omega)
  rw [a1, a2, e1, bd2_s, a1, a2, e2, bd2_s, if_pos rfl]
  exact l_end b1 b2 b3
theorem l_interest {xs : Nat → Int32} {L i : Nat} {A : Ab} {X : Mem} (hL : L ≤ 3072) (hi : i + 6 ≤ L) (hO : Ok A) (hC : IC A X) (hM : IM A X) : LawSt xs L i (f_law_j270 xs L (nI i) X) := by
  obtain ⟨r, Y, Z, e1, e2, B, b1, b2, b3⟩ := Act.use (op_interest hO (xs (i + 1))) hO hC hM
  unfold f_law_j270
  have a1 : ∀ G : Int32 → Option (Int32 ⊕ (Int32 × Mem)), rdS xs L (nI i + (1 : Int32)) G = G (xs (i + 1)) := fun G => rdSk (k := 1) (by omega) (by omega)
  rw [a1, e1, bd2_s, a1, e2, bd2_s, if_pos rfl]
  exact l_end b1 b2 b3
theorem l_tide {xs : Nat → Int32} {L i : Nat} {A : Ab} {X : Mem} (hL : L ≤ 3072) (hi : i + 6 ≤ L) (hO : Ok A) (hC : IC A X) (hM : IM A X) : LawSt xs L i (f_law_j293 xs L (nI i) X) := by
  obtain ⟨r, Y, Z, e1, e2, B, b1, b2, b3⟩ := Act.use (op_tide hO (xs (i + 1)) (xs (i + 2))) hO hC hM
  unfold f_law_j293
  have a1 : ∀ G : Int32 → Option (Int32 ⊕ (Int32 × Mem)), rdS xs L (nI i + (1 : Int32)) G = G (xs (i + 1)) := fun G => rdSk (k := 1) (by omega) (by omega)
  have a2 : ∀ G : Int32 → Option (Int32 ⊕ (Int32 × Mem)), rdS xs L (nI i + (2 : Int32)) G = G (xs (i + 2)) := fun G => rdSk (k := 2) (by omega) (by omega)
  rw [a1, a2, e1, bd2_s, a1, a2, e2, bd2_s, if_pos rfl]
  exact l_end b1 b2 b3
theorem l_purse {xs : Nat → Int32} {L i : Nat} {A : Ab} {X : Mem} (hL : L ≤ 3072) (hi : i + 6 ≤ L) (hO : Ok A) (hC : IC A X) (hM : IM A X) : LawSt xs L i (f_law_j326 xs L (nI i) X) := by
  obtain ⟨r, Y, Z, e1, e2, B, b1, b2, b3⟩ := Act.use (op_purse hO (xs (i + 1)) (xs (i + 2))) hO hC hM
  unfold f_law_j326
  have a1 : ∀ G : Int32 → Option (Int32 ⊕ (Int32 × Mem)), rdS xs L (nI i + (1 : Int32)) G = G (xs (i + 1)) := fun G => rdSk (k := 1) (by omega) (by omega)
  have a2 : ∀ G : Int32 → Option (Int32 ⊕ (Int32 × Mem)), rdS xs L (nI i + (2 : Int32)) G = G (xs (i + 2)) := fun G => rdSk (k := 2) (by omega) (by omega)
  rw [a1, a2, e1, bd2_s, a1, a2, e2, bd2_s, if_pos rfl]
  exact l_end b1 b2 b3
theorem l_thing {xs : Nat → Int32} {L i : Nat} {A : Ab} {X : Mem} (hL : L ≤ 3072) (hi : i + 6 ≤ L) (hO : Ok A) (hC : IC A X) (hM : IM A X) : LawSt xs L i (f_law_j359 xs L (nI i) X) := by
  obtain ⟨r, Y, Z, e1, e2, B, b1, b2, b3⟩ := Act.use (op_thing hO (xs (i + 1)) (xs (i + 2))) hO hC hM
  unfold f_law_j359
  have a1 : ∀ G : Int32 → Option (Int32 ⊕ (Int32 × Mem)), rdS xs L (nI i + (1 : Int32)) G = G (xs (i + 1)) := fun G => rdSk (k := 1) (by omega) (by omega)
  have a2 : ∀ G : Int32 → Option (Int32 ⊕ (Int32 × Mem)), rdS xs L (nI i + (2 : Int32)) G = G (xs (i + 2)) := fun G => rdSk (k := 2) (by omega) (by omega)
  rw [a1, a2, e1, bd2_s, a1, a2, e2, bd2_s, if_pos rfl]
  exact l_end b1 b2 b3
theorem l_of {xs : Nat → Int32} {L i : Nat} {A : Ab} {X : Mem} (hL : L ≤ 3072) (hi : i + 6 ≤ L) (hO : Ok A) (hC : IC A X) (hM : IM A X) : LawSt xs L i (f_law_j392 xs L (nI i) X) := by
  obtain ⟨r, Y, Z, e1, e2, B, b1, b2, b3⟩ := Act.use (op_of hO (xs (i + 1)) (xs (i + 2))) hO hC hM
  unfold f_law_j392
  have a1 : ∀ G : Int32 → Option (Int32 ⊕ (Int32 × Mem)), rdS xs L (nI i + (1 : Int32)) G = G (xs (i + 1)) := fun G => rdSk (k := 1) (by omega) (by omega)
  have a2 : ∀ G : Int32 → Option (Int32 ⊕ (Int32 × Mem)), rdS xs L (nI i + (2 : Int32)) G = G (xs (i + 2)) := fun G => rdSk (k := 2) (by omega) (by omega)
  rw [a1, a2, e1, bd2_s, a1, a2, e2, bd2_s, if_pos rfl]
  exact l_end b1 b2 b3
theorem l_set {xs : Nat → Int32} {L i : Nat} {A : Ab} {X : Mem} (hL : L ≤ 3072) (hi : i + 6 ≤ L) (hO : Ok A) (hC : IC A X) (hM : IM A X) : LawSt xs L i (f_law_j425 xs L (nI i) X) := by
  obtain ⟨r, Y, Z, e1, e2, B, b1, b2, b3⟩ := Act.use (op_set hO (xs (i + 1)) (xs (i + 2)) (xs (i + 3))) hO hC hM
  unfold f_law_j425
  have a1 : ∀ G : Int32 → Option (Int32 ⊕ (Int32 × Mem)), rdS xs L (nI i + (1 : Int32)) G = G (xs (i + 1)) := fun G => rdSk (k := 1) (by omega) (by omega)
  have a2 : ∀ G : Int32 → Option (Int32 ⊕ (Int32 × Mem)), rdS xs L (nI i + (2 : Int32)) G = G (xs (i + 2)) := fun G => rdSk (k := 2) (by omega) (by omega)
  have a3 : ∀ G : Int32 → Option (Int32 ⊕ (Int32 × Mem)), rdS xs L (nI i + (3 : Int32)) G = G (xs (i + 3)) := fun G => rdSk (k := 3) (by omega) (by omega)
  rw [a1, a2, a3, e1, bd2_s, a1, a2, a3, e2, bd2_s, if_pos rfl]
  exact l_end b1 b2 b3
theorem l_turn {xs : Nat → Int32} {L i : Nat} {A : Ab} {X : Mem} (hL : L ≤ 3072) (hi : i + 6 ≤ L) (hO : Ok A) (hC : IC A X) (hM : IM A X) : LawSt xs L i (f_law_j468 xs L (nI i) X) := by
  obtain ⟨r, Y, Z, e1, e2, B, b1, b2, b3⟩ := Act.use (op_turn hO (xs (i + 1)) (xs (i + 2))) hO hC hM
  unfold f_law_j468
  have a1 : ∀ G : Int32 → Option (Int32 ⊕ (Int32 × Mem)), rdS xs L (nI i + (1 : Int32)) G = G (xs (i + 1)) := fun G => rdSk (k := 1) (by omega) (by omega)
  have a2 : ∀ G : Int32 → Option (Int32 ⊕ (Int32 × Mem)), rdS xs L (nI i + (2 : Int32)) G = G (xs (i + 2)) := fun G => rdSk (k := 2) (by omega) (by omega)
  rw [a1, a2, e1, bd2_s, a1, a2, e2, bd2_s, if_pos rfl]
  exact l_end b1 b2 b3
theorem l_as {xs : Nat → Int32} {L i : Nat} {A : Ab} {X : Mem} (hL : L ≤ 3072) (hi : i + 6 ≤ L) (hO : Ok A) (hC : IC A X) (hM : IM A X) : LawSt xs L i (f_law_j501 xs L (nI i) X) := by
  obtain ⟨r, Y, Z, e1, e2, B, b1, b2, b3⟩ := Act.use (op_as hO (xs (i + 1)) (xs (i + 2))) hO hC hM
  unfold f_law_j501
  have a1 : ∀ G : Int32 → Option (Int32 ⊕ (Int32 × Mem)), rdS xs L (nI i + (1 : Int32)) G = G (xs (i + 1)) := fun G => rdSk (k := 1) (by omega) (by omega)
  have a2 : ∀ G : Int32 → Option (Int32 ⊕ (Int32 × Mem)), rdS xs L (nI i + (2 : Int32)) G = G (xs (i + 2)) := fun G => rdSk (k := 2) (by omega) (by omega)
  rw [a1, a2, e1, bd2_s, a1, a2, e2, bd2_s, if_pos rfl]
  exact l_end b1 b2 b3
theorem l_lay {xs : Nat → Int32} {L i : Nat} {A : Ab} {X : Mem} (hL : L ≤ 3072) (hi : i + 6 ≤ L) (hO : Ok A) (hC : IC A X) (hM : IM A X) : LawSt xs L i (f_law_j534 xs L (nI i) X) := by
  obtain ⟨r, Y, Z, e1, e2, B, b1, b2, b3⟩ := Act.use (op_lay hO (xs (i + 1)) (xs (i + 2))) hO hC hM
  unfold f_law_j534
  have a1 : ∀ G : Int32 → Option (Int32 ⊕ (Int32 × Mem)), rdS xs L (nI i + (1 : Int32)) G = G (xs (i + 1)) := fun G => rdSk (k := 1) (by omega) (by omega)
  have a2 : ∀ G : Int32 → Option (Int32 ⊕ (Int32 × Mem)), rdS xs L (nI i + (2 : Int32)) G = G (xs (i + 2)) := fun G => rdSk (k := 2) (by omega) (by omega)
  rw [a1, a2, e1, bd2_s, a1, a2, e2, bd2_s, if_pos rfl]
  exact l_end b1 b2 b3
theorem l_fetch {xs : Nat → Int32} {L i : Nat} {A : Ab} {X : Mem} (hL : L ≤ 3072) (hi : i + 6 ≤ L) (hO : Ok A) (hC : IC A X) (hM : IM A X) : LawSt xs L i (f_law_j567 xs L (nI i) X) := by
  obtain ⟨r, Y, Z, e1, e2, B, b1, b2, b3⟩ := Act.use (op_fetch hO (xs (i + 1))) hO hC hM
  unfold f_law_j567
  have a1 : ∀ G : Int32 → Option (Int32 ⊕ (Int32 × Mem)), rdS xs L (nI i + (1 : Int32)) G = G (xs (i + 1)) := fun G => rdSk (k := 1) (by omega) (by omega)
  rw [a1, e1, bd2_s, a1, e2, bd2_s, if_pos rfl]
  exact l_end b1 b2 b3
theorem l_days {xs : Nat → Int32} {L i : Nat} {A : Ab} {X : Mem} (hL : L ≤ 3072) (hi : i + 6 ≤ L) (hO : Ok A) (hC : IC A X) (hM : IM A X) : LawSt xs L i (f_law_j590 xs L (nI i) X) := by
  obtain ⟨r, Y, Z, e1, e2, B, b1, b2, b3⟩ := ActL.use (op_days hO (xs (i + 1))) hO hC hM
  unfold f_law_j590
  have a1 : ∀ G : Int32 → Option (Int32 ⊕ (Int32 × Mem)), rdS xs L (nI i + (1 : Int32)) G = G (xs (i + 1)) := fun G => rdSk (k := 1) (by omega) (by omega)
  rw [a1, e1, bd2_s, a1, e2, bd2_s, if_pos (lc_eq.mpr rfl)]
  exact l_end b1 b2 b3
theorem l_now {xs : Nat → Int32} {L i : Nat} {A : Ab} {X : Mem} (hL : L ≤ 3072) (hi : i + 6 ≤ L) (hO : Ok A) (hC : IC A X) (hM : IM A X) : LawSt xs L i (f_law_j614 xs L (nI i) X) := by
  obtain ⟨r, Y, Z, e1, e2, B, b1, b2, b3⟩ := Act.use (op_now hO (xs (i + 1))) hO hC hM
  unfold f_law_j614
  have a1 : ∀ G : Int32 → Option (Int32 ⊕ (Int32 × Mem)), rdS xs L (nI i + (1 : Int32)) G = G (xs (i + 1)) := fun G => rdSk (k := 1) (by omega) (by omega)
  rw [a1, e1, bd2_s, a1, e2, bd2_s, if_pos rfl]
  exact l_end b1 b2 b3
theorem l_on {xs : Nat → Int32} {L i : Nat} {A : Ab} {X : Mem} (hL : L ≤ 3072) (hi : i + 6 ≤ L) (hO : Ok A) (hC : IC A X) (hM : IM A X) : LawSt xs L i (f_law_j637 xs L (nI i) X) := by
  obtain ⟨r, Y, Z, e1, e2, B, b1, b2, b3⟩ := Act.use (op_on hO (xs (i + 1)) (xs (i + 2))) hO hC hM
  unfold f_law_j637
  have a1 : ∀ G : Int32 → Option (Int32 ⊕ (Int32 × Mem)), rdS xs L (nI i + (1 : Int32)) G = G (xs (i + 1)) := fun G => rdSk (k := 1) (by omega) (by omega)
  have a2 : ∀ G : Int32 → Option (Int32 ⊕ (Int32 × Mem)), rdS xs L (nI i + (2 : Int32)) G = G (xs (i + 2)) := fun G => rdSk (k := 2) (by omega) (by omega)
  rw [a1, a2, e1, bd2_s, a1, a2, e2, bd2_s, if_pos rfl]
  exact l_end b1 b2 b3
theorem l_taken {xs : Nat → Int32} {L i : Nat} {A : Ab} {X : Mem} (hL : L ≤ 3072) (hi : i + 6 ≤ L) (hO : Ok A) (hC : IC A X) (hM : IM A X) : LawSt xs L i (f_law_j670 xs L (nI i) X) := by
  obtain ⟨r, Y, Z, e1, e2, B, b1, b2, b3⟩ := Act.use (op_taken hO (xs (i + 1))) hO hC hM
  unfold f_law_j670
  have a1 : ∀ G : Int32 → Option (Int32 ⊕ (Int32 × Mem)), rdS xs L (nI i + (1 : Int32)) G = G (xs (i + 1)) := fun G => rdSk (k := 1) (by omega) (by omega)
  rw [a1, e1, bd2_s, a1, e2, bd2_s, if_pos rfl]
  exact l_end b1 b2 b3
theorem l_home {xs : Nat → Int32} {L i : Nat} {A : Ab} {X : Mem} (hL : L ≤ 3072) (hi : i + 6 ≤ L) (hO : Ok A) (hC : IC A X) (hM : IM A X) : LawSt xs L i (f_law_j693 xs L (nI i) X) := by
  obtain ⟨r, Y, Z, e1, e2, B, b1, b2, b3⟩ := Act.use (op_home hO (xs (i + 1))) hO hC hM
  unfold f_law_j693
  have a1 : ∀ G : Int32 → Option (Int32 ⊕ (Int32 × Mem)), rdS xs L (nI i + (1 : Int32)) G = G (xs (i + 1)) := fun G => rdSk (k := 1) (by omega) (by omega)
  rw [a1, e1, bd2_s, a1, e2, bd2_s, if_pos rfl]
  exact l_end b1 b2 b3
theorem l_due {xs : Nat → Int32} {L i : Nat} {A : Ab} {X : Mem} (hL : L ≤ 3072) (hi : i + 6 ≤ L) (hO : Ok A) (hC : IC A X) (hM : IM A X) : LawSt xs L i (f_law_j716 xs L (nI i) X) := by
  obtain ⟨r, Y, Z, e1, e2, B, b1, b2, b3⟩ := Act.use (op_due hO) hO hC hM
  unfold f_law_j716
  rw [e1, bd2_s, e2, bd2_s, if_pos rfl]
  exact l_end b1 b2 b3
theorem l_spot {xs : Nat → Int32} {L i : Nat} {A : Ab} {X : Mem} (hL : L ≤ 3072) (hi : i + 6 ≤ L) (hO : Ok A) (hC : IC A X) (hM : IM A X) : LawSt xs L i (f_law_j729 xs L (nI i) X) := by
  obtain ⟨r, Y, Z, e1, e2, B, b1, b2, b3⟩ := Act.use (op_spot hO (xs (i + 1)) (xs (i + 2))) hO hC hM
  unfold f_law_j729
  have a1 : ∀ G : Int32 → Option (Int32 ⊕ (Int32 × Mem)), rdS xs L (nI i + (1 : Int32)) G = G (xs (i + 1)) := fun G => rdSk (k := 1) (by omega) (by omega)
  have a2 : ∀ G : Int32 → Option (Int32 ⊕ (Int32 × Mem)), rdS xs L (nI i + (2 : Int32)) G = G (xs (i + 2)) := fun G => rdSk (k := 2) (by omega) (by omega)
  rw [a1, a2, e1, bd2_s, a1, a2, e2, bd2_s, if_pos rfl]
  exact l_end b1 b2 b3
theorem l_delay {xs : Nat → Int32} {L i : Nat} {A : Ab} {X : Mem} (hL : L ≤ 3072) (hi : i + 6 ≤ L) (hO : Ok A) (hC : IC A X) (hM : IM A X) : LawSt xs L i (f_law_j762 xs L (nI i) X) := by
  obtain ⟨r, Y, Z, e1, e2, B, b1, b2, b3⟩ := Act.use (op_delay hO (xs (i + 1)) (xs (i + 2)) (xs (i + 3))) hO hC hM
  unfold f_law_j762
  have a1 : ∀ G : Int32 → Option (Int32 ⊕ (Int32 × Mem)), rdS xs L (nI i + (1 : Int32)) G = G (xs (i + 1)) := fun G => rdSk (k := 1) (by omega) (by omega)
  have a2 : ∀ G : Int32 → Option (Int32 ⊕ (Int32 × Mem)), rdS xs L (nI i + (2 : Int32)) G = G (xs (i + 2)) := fun G => rdSk (k := 2) (by omega) (by omega)
  have a3 : ∀ G : Int32 → Option (Int32 ⊕ (Int32 × Mem)), rdS xs L (nI i + (3 : Int32)) G = G (xs (i + 3)) := fun G => rdSk (k := 3) (by omega) (by omega)
  rw [a1, a2, a3, e1, bd2_s, a1, a2, a3, e2, bd2_s, if_pos rfl]
  exact l_end b1 b2 b3
theorem l_kind {xs : Nat → Int32} {L i : Nat} {A : Ab} {X : Mem} (hL : L ≤ 3072) (hi : i + 6 ≤ L) (hO : Ok A) (hC : IC A X) (hM : IM A X) : LawSt xs L i (f_law_j805 xs L (nI i) X) := by
  obtain ⟨r, Y, Z, e1, e2, B, b1, b2, b3⟩ := Act.use (op_kind hO (xs (i + 1)) (xs (i + 2))) hO hC hM
  unfold f_law_j805
  have a1 : ∀ G : Int32 → Option (Int32 ⊕ (Int32 × Mem)), rdS xs L (nI i + (1 : Int32)) G = G (xs (i + 1)) := fun G => rdSk (k := 1) (by omega) (by omega)
  have a2 : ∀ G : Int32 → Option (Int32 ⊕ (Int32 × Mem)), rdS xs L (nI i + (2 : Int32)) G = G (xs (i + 2)) := fun G => rdSk (k := 2) (by omega) (by omega)
  rw [a1, a2, e1, bd2_s, a1, a2, e2, bd2_s, if_pos rfl]
  exact l_end b1 b2 b3
theorem l_worth {xs : Nat → Int32} {L i : Nat} {A : Ab} {X : Mem} (hL : L ≤ 3072) (hi : i + 6 ≤ L) (hO : Ok A) (hC : IC A X) (hM : IM A X) : LawSt xs L i (f_law_j838 xs L (nI i) X) := by
  obtain ⟨r, Y, Z, e1, e2, B, b1, b2, b3⟩ := Act.use (op_worth hO (xs (i + 1)) (xs (i + 2)) (xs (i + 3))) hO hC hM
  unfold f_law_j838
  have a1 : ∀ G : Int32 → Option (Int32 ⊕ (Int32 × Mem)), rdS xs L (nI i + (1 : Int32)) G = G (xs (i + 1)) := fun G => rdSk (k := 1) (by omega) (by omega)
  have a2 : ∀ G : Int32 → Option (Int32 ⊕ (Int32 × Mem)), rdS xs L (nI i + (2 : Int32)) G = G (xs (i + 2)) := fun G => rdSk (k := 2) (by omega) (by omega)
  have a3 : ∀ G : Int32 → Option (Int32 ⊕ (Int32 × Mem)), rdS xs L (nI i + (3 : Int32)) G = G (xs (i + 3)) := fun G => rdSk (k := 3) (by omega) (by omega)
  rw [a1, a2, a3, e1, bd2_s, a1, a2, a3, e2, bd2_s, if_pos rfl]
  exact l_end b1 b2 b3
theorem l_richest {xs : Nat → Int32} {L i : Nat} {A : Ab} {X : Mem} (hL : L ≤ 3072) (hi : i + 6 ≤ L) (hO : Ok A) (hC : IC A X) (hM : IM A X) : LawSt xs L i (f_law_j881 xs L (nI i) X) := by
  obtain ⟨r, Y, Z, e1, e2, B, b1, b2, b3⟩ := Act.use (op_richest hO (xs (i + 1))) hO hC hM
  unfold f_law_j881
  have a1 : ∀ G : Int32 → Option (Int32 ⊕ (Int32 × Mem)), rdS xs L (nI i + (1 : Int32)) G = G (xs (i + 1)) := fun G => rdSk (k := 1) (by omega) (by omega)
  rw [a1, e1, bd2_s, a1, e2, bd2_s, if_pos rfl]
  exact l_end b1 b2 b3
theorem l_fewest {xs : Nat → Int32} {L i : Nat} {A : Ab} {X : Mem} (hL : L ≤ 3072) (hi : i + 6 ≤ L) (hO : Ok A) (hC : IC A X) (hM : IM A X) : LawSt xs L i (f_law_j904 xs L (nI i) X) := by
  obtain ⟨r, Y, Z, e1, e2, B, b1, b2, b3⟩ := Act.use (op_fewest hO (xs (i + 1)) (xs (i + 2)) (xs (i + 3))) hO hC hM
  unfold f_law_j904
  have a1 : ∀ G : Int32 → Option (Int32 ⊕ (Int32 × Mem)), rdS xs L (nI i + (1 : Int32)) G = G (xs (i + 1)) := fun G => rdSk (k := 1) (by omega) (by omega)
  have a2 : ∀ G : Int32 → Option (Int32 ⊕ (Int32 × Mem)), rdS xs L (nI i + (2 : Int32)) G = G (xs (i + 2)) := fun G => rdSk (k := 2) (by omega) (by omega)
  have a3 : ∀ G : Int32 → Option (Int32 ⊕ (Int32 × Mem)), rdS xs L (nI i + (3 : Int32)) G = G (xs (i + 3)) := fun G => rdSk (k := 3) (by omega) (by omega)
  rw [a1, a2, a3, e1, bd2_s, a1, a2, a3, e2, bd2_s, if_pos rfl]
  exact l_end b1 b2 b3
theorem l_rate {xs : Nat → Int32} {L i : Nat} {A : Ab} {X : Mem} (hL : L ≤ 3072) (hi : i + 6 ≤ L) (hO : Ok A) (hC : IC A X) (hM : IM A X) : LawSt xs L i (f_law_j947 xs L (nI i) X) := by
  obtain ⟨r, Y, Z, e1, e2, B, b1, b2, b3⟩ := Act.use (op_rate hO (xs (i + 1)) (xs (i + 2))) hO hC hM
  unfold f_law_j947
  have a1 : ∀ G : Int32 → Option (Int32 ⊕ (Int32 × Mem)), rdS xs L (nI i + (1 : Int32)) G = G (xs (i + 1)) := fun G => rdSk (k := 1) (by omega) (by omega)
  have a2 : ∀ G : Int32 → Option (Int32 ⊕ (Int32 × Mem)), rdS xs L (nI i + (2 : Int32)) G = G (xs (i + 2)) := fun G => rdSk (k := 2) (by omega) (by omega)
  rw [a1, a2, e1, bd2_s, a1, a2, e2, bd2_s, if_pos rfl]
  exact l_end b1 b2 b3
theorem l_feed {xs : Nat → Int32} {L i : Nat} {A : Ab} {X : Mem} (hL : L ≤ 3072) (hi : i + 6 ≤ L) (hO : Ok A) (hC : IC A X) (hM : IM A X) : LawSt xs L i (f_law_j980 xs L (nI i) X) := by
  obtain ⟨r, Y, Z, e1, e2, B, b1, b2, b3⟩ := Act.use (op_feed hO (xs (i + 1)) (xs (i + 2))) hO hC hM
  unfold f_law_j980
  have a1 : ∀ G : Int32 → Option (Int32 ⊕ (Int32 × Mem)), rdS xs L (nI i + (1 : Int32)) G = G (xs (i + 1)) := fun G => rdSk (k := 1) (by omega) (by omega)
  have a2 : ∀ G : Int32 → Option (Int32 ⊕ (Int32 × Mem)), rdS xs L (nI i + (2 : Int32)) G = G (xs (i + 2)) := fun G => rdSk (k := 2) (by omega) (by omega)
  rw [a1, a2, e1, bd2_s, a1, a2, e2, bd2_s, if_pos rfl]
  exact l_end b1 b2 b3
theorem l_wipe {xs : Nat → Int32} {L i : Nat} {A : Ab} {X : Mem} (hL : L ≤ 3072) (hi : i + 6 ≤ L) (hO : Ok A) (hC : IC A X) (hM : IM A X) : LawSt xs L i (f_law_j1013 xs L (nI i) X) := by
  obtain ⟨r, Y, Z, e1, e2, B, b1, b2, b3⟩ := Act.use (op_wipe hO) hO hC hM
  unfold f_law_j1013
  rw [e1, bd2_s, e2, bd2_s, if_pos rfl]
  exact l_end b1 b2 b3
theorem l_shore {xs : Nat → Int32} {L i : Nat} {A : Ab} {X : Mem} (hL : L ≤ 3072) (hi : i + 6 ≤ L) (hO : Ok A) (hC : IC A X) (hM : IM A X) : LawSt xs L i (f_law_j1026 xs L (nI i) X) := by
  obtain ⟨r, Y, Z, e1, e2, B, b1, b2, b3⟩ := Act.use (op_shore hO) hO hC hM
  unfold f_law_j1026
  rw [e1, bd2_s, e2, bd2_s, if_pos rfl]
  exact l_end b1 b2 b3
theorem l_sheet {xs : Nat → Int32} {L i : Nat} {A : Ab} {X : Mem} (hL : L ≤ 3072) (hi : i + 6 ≤ L) (hO : Ok A) (hC : IC A X) (hM : IM A X) : LawSt xs L i (f_law_j1039 xs L (nI i) X) := by
  obtain ⟨r, Y, Z, e1, e2, B, b1, b2, b3⟩ := Act.use (op_sheet hO (xs (i + 1)) (xs (i + 2)) (xs (i + 3))) hO hC hM
  unfold f_law_j1039
  have a1 : ∀ G : Int32 → Option (Int32 ⊕ (Int32 × Mem)), rdS xs L (nI i + (1 : Int32)) G = G (xs (i + 1)) := fun G => rdSk (k := 1) (by omega) (by omega)
  have a2 : ∀ G : Int32 → Option (Int32 ⊕ (Int32 × Mem)), rdS xs L (nI i + (2 : Int32)) G = G (xs (i + 2)) := fun G => rdSk (k := 2) (by omega) (by omega)
  have a3 : ∀ G : Int32 → Option (Int32 ⊕ (Int32 × Mem)), rdS xs L (nI i + (3 : Int32)) G = G (xs (i + 3)) := fun G => rdSk (k := 3) (by omega) (by omega)
  rw [a1, a2, a3, e1, bd2_s, a1, a2, a3, e2, bd2_s, if_pos rfl]
  exact l_end b1 b2 b3
theorem l_write {xs : Nat → Int32} {L i : Nat} {A : Ab} {X : Mem} (hL : L ≤ 3072) (hi : i + 6 ≤ L) (hO : Ok A) (hC : IC A X) (hM : IM A X) : LawSt xs L i (f_law_j1082 xs L (nI i) X) := by
  obtain ⟨r, Y, Z, e1, e2, B, b1, b2, b3⟩ := ActL.use (op_write hO (xs (i + 1)) (xs (i + 2)) ((((xs (i + 3)).toInt64) <<< ((32 : Int32).toInt64 &&& 63)) ||| (((xs (i + 4)).toInt64) &&& (4294967295 : Int64)))) hO hC hM
  unfold f_law_j1082
  have a1 : ∀ G : Int32 → Option (Int32 ⊕ (Int32 × Mem)), rdS xs L (nI i + (1 : Int32)) G = G (xs (i + 1)) := fun G => rdSk (k := 1) (by omega) (by omega)
  have a2 : ∀ G : Int32 → Option (Int32 ⊕ (Int32 × Mem)), rdS xs L (nI i + (2 : Int32)) G = G (xs (i + 2)) := fun G => rdSk (k := 2) (by omega) (by omega)
  have a3 : ∀ G : Int32 → Option (Int32 ⊕ (Int32 × Mem)), rdS xs L (nI i + (3 : Int32)) G = G (xs (i + 3)) := fun G => rdSk (k := 3) (by omega) (by omega)
  have a4 : ∀ G : Int32 → Option (Int32 ⊕ (Int32 × Mem)), rdS xs L (nI i + (4 : Int32)) G = G (xs (i + 4)) := fun G => rdSk (k := 4) (by omega) (by omega)
  rw [a1, a2, a3, a4, e1, bd2_s, a1, a2, a3, a4, e2, bd2_s, if_pos (lc_eq.mpr rfl)]
  exact l_end b1 b2 b3
theorem l_copy {xs : Nat → Int32} {L i : Nat} {A : Ab} {X : Mem} (hL : L ≤ 3072) (hi : i + 6 ≤ L) (hO : Ok A) (hC : IC A X) (hM : IM A X) : LawSt xs L i (f_law_j1156 xs L (nI i) X) := by
  obtain ⟨r, Y, Z, e1, e2, B, b1, b2, b3⟩ := Act.use (op_copy hO (xs (i + 1)) (xs (i + 2)) (xs (i + 3)) (xs (i + 4)) (xs (i + 5))) hO hC hM
  unfold f_law_j1156
  have a1 : ∀ G : Int32 → Option (Int32 ⊕ (Int32 × Mem)), rdS xs L (nI i + (1 : Int32)) G = G (xs (i + 1)) := fun G => rdSk (k := 1) (by omega) (by omega)
  have a2 : ∀ G : Int32 → Option (Int32 ⊕ (Int32 × Mem)), rdS xs L (nI i + (2 : Int32)) G = G (xs (i + 2)) := fun G => rdSk (k := 2) (by omega) (by omega)
  have a3 : ∀ G : Int32 → Option (Int32 ⊕ (Int32 × Mem)), rdS xs L (nI i + (3 : Int32)) G = G (xs (i + 3)) := fun G => rdSk (k := 3) (by omega) (by omega)
  have a4 : ∀ G : Int32 → Option (Int32 ⊕ (Int32 × Mem)), rdS xs L (nI i + (4 : Int32)) G = G (xs (i + 4)) := fun G => rdSk (k := 4) (by omega) (by omega)
  have a5 : ∀ G : Int32 → Option (Int32 ⊕ (Int32 × Mem)), rdS xs L (nI i + (5 : Int32)) G = G (xs (i + 5)) := fun G => rdSk (k := 5) (by omega) (by omega)
  rw [a1, a2, a3, a4, a5, e1, bd2_s, a1, a2, a3, a4, a5, e2, bd2_s, if_pos rfl]
  exact l_end b1 b2 b3
theorem l_lays {xs : Nat → Int32} {L i : Nat} {A : Ab} {X : Mem} (hL : L ≤ 3072) (hi : i + 6 ≤ L) (hO : Ok A) (hC : IC A X) (hM : IM A X) : LawSt xs L i (f_law_j1219 xs L (nI i) X) := by
  obtain ⟨r, Y, Z, e1, e2, B, b1, b2, b3⟩ := Act.use (op_lays hO (xs (i + 1))) hO hC hM
  unfold f_law_j1219
  have a1 : ∀ G : Int32 → Option (Int32 ⊕ (Int32 × Mem)), rdS xs L (nI i + (1 : Int32)) G = G (xs (i + 1)) := fun G => rdSk (k := 1) (by omega) (by omega)
  rw [a1, e1, bd2_s, a1, e2, bd2_s, if_pos rfl]
  exact l_end b1 b2 b3
theorem l_book {xs : Nat → Int32} {L i : Nat} {A : Ab} {X : Mem} (hL : L ≤ 3072) (hi : i + 6 ≤ L) (hO : Ok A) (hC : IC A X) (hM : IM A X) : LawSt xs L i (f_law_j1242 xs L (nI i) X) := by
  obtain ⟨r, Y, Z, e1, e2, B, b1, b2, b3⟩ := Act.use (op_book hO (xs (i + 1)) (xs (i + 2))) hO hC hM
  unfold f_law_j1242
  have a1 : ∀ G : Int32 → Option (Int32 ⊕ (Int32 × Mem)), rdS xs L (nI i + (1 : Int32)) G = G (xs (i + 1)) := fun G => rdSk (k := 1) (by omega) (by omega)
  have a2 : ∀ G : Int32 → Option (Int32 ⊕ (Int32 × Mem)), rdS xs L (nI i + (2 : Int32)) G = G (xs (i + 2)) := fun G => rdSk (k := 2) (by omega) (by omega)
  rw [a1, a2, e1, bd2_s, a1, a2, e2, bd2_s, if_pos rfl]
  exact l_end b1 b2 b3
theorem l_read {xs : Nat → Int32} {L i : Nat} {A : Ab} {X : Mem} (hL : L ≤ 3072) (hi : i + 6 ≤ L) (hO : Ok A) (hC : IC A X) (hM : IM A X) : LawSt xs L i (f_law_j1275 xs L (nI i) X) := by
  obtain ⟨r, Y, Z, e1, e2, B, b1, b2, b3⟩ := Act.use (op_read hO (xs (i + 1)) (xs (i + 2)) (xs (i + 3))) hO hC hM
  unfold f_law_j1275
  have a1 : ∀ G : Int32 → Option (Int32 ⊕ (Int32 × Mem)), rdS xs L (nI i + (1 : Int32)) G = G (xs (i + 1)) := fun G => rdSk (k := 1) (by omega) (by omega)
  have a2 : ∀ G : Int32 → Option (Int32 ⊕ (Int32 × Mem)), rdS xs L (nI i + (2 : Int32)) G = G (xs (i + 2)) := fun G => rdSk (k := 2) (by omega) (by omega)
  have a3 : ∀ G : Int32 → Option (Int32 ⊕ (Int32 × Mem)), rdS xs L (nI i + (3 : Int32)) G = G (xs (i + 3)) := fun G => rdSk (k := 3) (by omega) (by omega)
  rw [a1, a2, a3, e1, bd2_s, a1, a2, a3, e2, bd2_s, if_pos rfl]
  exact l_end b1 b2 b3
theorem l_image {xs : Nat → Int32} {L i : Nat} {A : Ab} {X : Mem} (hL : L ≤ 3072) (hi : i + 6 ≤ L) (hO : Ok A) (hC : IC A X) (hM : IM A X) : LawSt xs L i (f_law_j1318 xs L (nI i) X) := by
  obtain ⟨r, Y, Z, e1, e2, B, b1, b2, b3⟩ := Act.use (op_image hO) hO hC hM
  unfold f_law_j1318
  rw [e1, bd2_s, e2, bd2_s, if_pos rfl]
  exact l_end b1 b2 b3
theorem l_undo {xs : Nat → Int32} {L i : Nat} {A : Ab} {X : Mem} (hL : L ≤ 3072) (hi : i + 6 ≤ L) (hO : Ok A) (hC : IC A X) (hM : IM A X) : LawSt xs L i (f_law_j1331 xs L (nI i) X) := by
  obtain ⟨r, Y, Z, e1, e2, B, b1, b2, b3⟩ := Act.use (op_undo hO) hO hC hM
  unfold f_law_j1331
  rw [e1, bd2_s, e2, bd2_s, if_pos rfl]
  exact l_end b1 b2 b3
theorem l_tear {xs : Nat → Int32} {L i : Nat} {A : Ab} {X : Mem} (hL : L ≤ 3072) (hi : i + 6 ≤ L) (hO : Ok A) (hC : IC A X) (hM : IM A X) : LawSt xs L i (f_law_j1344 xs L (nI i) X) := by
  obtain ⟨r, Y, Z, e1, e2, B, b1, b2, b3⟩ := Act.use (op_tear hO) hO hC hM
  unfold f_law_j1344
  rw [e1, bd2_s, e2, bd2_s, if_pos rfl]
  exact l_end b1 b2 b3
theorem l_count {xs : Nat → Int32} {L i : Nat} {A : Ab} {X : Mem} (hL : L ≤ 3072) (hi : i + 6 ≤ L) (hO : Ok A) (hC : IC A X) (hM : IM A X) : LawSt xs L i (f_law_j1357 xs L (nI i) X) := by
  obtain ⟨r, Y, Z, e1, e2, B, b1, b2, b3⟩ := Act.use (op_count hO (xs (i + 1))) hO hC hM
  unfold f_law_j1357
  have a1 : ∀ G : Int32 → Option (Int32 ⊕ (Int32 × Mem)), rdS xs L (nI i + (1 : Int32)) G = G (xs (i + 1)) := fun G => rdSk (k := 1) (by omega) (by omega)
  rw [a1, e1, bd2_s, a1, e2, bd2_s, if_pos rfl]
  exact l_end b1 b2 b3
theorem l_status {xs : Nat → Int32} {L i : Nat} {A : Ab} {X : Mem} (hL : L ≤ 3072) (hi : i + 6 ≤ L) (hO : Ok A) (hC : IC A X) (hM : IM A X) : LawSt xs L i (f_law_j1380 xs L (nI i) X) := by
  obtain ⟨r, Y, Z, e1, e2, B, b1, b2, b3⟩ := Act.use (op_status hO (xs (i + 1))) hO hC hM
  unfold f_law_j1380
  have a1 : ∀ G : Int32 → Option (Int32 ⊕ (Int32 × Mem)), rdS xs L (nI i + (1 : Int32)) G = G (xs (i + 1)) := fun G => rdSk (k := 1) (by omega) (by omega)
  rw [a1, e1, bd2_s, a1, e2, bd2_s, if_pos rfl]
  exact l_end b1 b2 b3
theorem l_all {xs : Nat → Int32} {L i : Nat} {A : Ab} {X : Mem} (hL : L ≤ 3072) (hi : i + 6 ≤ L) (hO : Ok A) (hC : IC A X) (hM : IM A X) : LawSt xs L i (f_law_b18 xs L (nI i) X) := by
  unfold f_law_b18
  rw [if_neg (by rw [Int32.lt_iff_toInt_lt, li 6, pk_sub_toInt (by omega) (by omega), nI_toInt (by omega)]; omega), rdSn (by omega) (by omega), lt_s1]
  generalize xs i &&& (63 : Int32) = v
  by_cases c0 : v = (0 : Int32)
  · rw [if_pos c0]; exact l_height hL hi hO hC hM
  rw [if_neg c0]
  by_cases c1 : v = (1 : Int32)
  · rw [if_pos c1]; exact l_cell hL hi hO hC hM
  rw [if_neg c1]
  by_cases c2 : v = (2 : Int32)
  · rw [if_pos c2]; exact l_interest hL hi hO hC hM
  rw [if_neg c2]
  by_cases c3 : v = (3 : Int32)
  · rw [if_pos c3]; exact l_tide hL hi hO hC hM
  rw [if_neg c3]
  by_cases c4 : v = (4 : Int32)
  · rw [if_pos c4]; exact l_purse hL hi hO hC hM
  rw [if_neg c4]
  by_cases c5 : v = (5 : Int32)
  · rw [if_pos c5]; exact l_thing hL hi hO hC hM
  rw [if_neg c5]
  by_cases c6 : v = (6 : Int32)
  · rw [if_pos c6]; exact l_of hL hi hO hC hM
  rw [if_neg c6]
  by_cases c7 : v = (7 : Int32)
  · rw [if_pos c7]; exact l_set hL hi hO hC hM
  rw [if_neg c7]
  by_cases c8 : v = (8 : Int32)
  · rw [if_pos c8]; exact l_turn hL hi hO hC hM
  rw [if_neg c8]
  by_cases c9 : v = (9 : Int32)
  · rw [if_pos c9]; exact l_as hL hi hO hC hM
  rw [if_neg c9]
  by_cases c10 : v = (10 : Int32)
  · rw [if_pos c10]; exact l_lay hL hi hO hC hM
  rw [if_neg c10]
  by_cases c11 : v = (11 : Int32)
  · rw [if_pos c11]; exact l_fetch hL hi hO hC hM
  rw [if_neg c11]
  by_cases c12 : v = (12 : Int32)
  · rw [if_pos c12]; exact l_days hL hi hO hC hM
  rw [if_neg c12]
  by_cases c13 : v = (13 : Int32)
  · rw [if_pos c13]; exact l_now hL hi hO hC hM
  rw [if_neg c13]
  by_cases c14 : v = (14 : Int32)
  · rw [if_pos c14]; exact l_on hL hi hO hC hM
  rw [if_neg c14]
  by_cases c15 : v = (15 : Int32)
  · rw [if_pos c15]; exact l_taken hL hi hO hC hM
  rw [if_neg c15]
  by_cases c16 : v = (16 : Int32)
  · rw [if_pos c16]; exact l_home hL hi hO hC hM
  rw [if_neg c16]
  by_cases c17 : v = (17 : Int32)
  · rw [if_pos c17]; exact l_due hL hi hO hC hM
  rw [if_neg c17]
  by_cases c18 : v = (18 : Int32)
  · rw [if_pos c18]; exact l_spot hL hi hO hC hM
  rw [if_neg c18]
  by_cases c19 : v = (19 : Int32)
  · rw [if_pos c19]; exact l_delay hL hi hO hC hM
  rw [if_neg c19]
  by_cases c20 : v = (20 : Int32)
  · rw [if_pos c20]; exact l_kind hL hi hO hC hM
  rw [if_neg c20]
  by_cases c21 : v = (21 : Int32)
  · rw [if_pos c21]; exact l_worth hL hi hO hC hM
  rw [if_neg c21]
  by_cases c22 : v = (22 : Int32)
  · rw [if_pos c22]; exact l_richest hL hi hO hC hM
  rw [if_neg c22]
  by_cases c23 : v = (23 : Int32)
  · rw [if_pos c23]; exact l_fewest hL hi hO hC hM
  rw [if_neg c23]
  by_cases c24 : v = (24 : Int32)
  · rw [if_pos c24]; exact l_rate hL hi hO hC hM
  rw [if_neg c24]
  by_cases c25 : v = (25 : Int32)
  · rw [if_pos c25]; exact l_feed hL hi hO hC hM
  rw [if_neg c25]
  by_cases c26 : v = (26 : Int32)
  · rw [if_pos c26]; exact l_wipe hL hi hO hC hM
  rw [if_neg c26]
  by_cases c27 : v = (27 : Int32)
  · rw [if_pos c27]; exact l_shore hL hi hO hC hM
  rw [if_neg c27]
  by_cases c28 : v = (28 : Int32)
  · rw [if_pos c28]; exact l_sheet hL hi hO hC hM
  rw [if_neg c28]
  by_cases c29 : v = (29 : Int32)
  · rw [if_pos c29]; exact l_write hL hi hO hC hM
  rw [if_neg c29]
  by_cases c30 : v = (30 : Int32)
  · rw [if_pos c30]; exact l_copy hL hi hO hC hM
  rw [if_neg c30]
  by_cases c31 : v = (31 : Int32)
  · rw [if_pos c31]; exact l_lays hL hi hO hC hM
  rw [if_neg c31]
  by_cases c32 : v = (32 : Int32)
  · rw [if_pos c32]; exact l_book hL hi hO hC hM
  rw [if_neg c32]
  by_cases c33 : v = (33 : Int32)
  · rw [if_pos c33]; exact l_read hL hi hO hC hM
  rw [if_neg c33]
  by_cases c34 : v = (34 : Int32)
  · rw [if_pos c34]; exact l_image hL hi hO hC hM
  rw [if_neg c34]
  by_cases c35 : v = (35 : Int32)
  · rw [if_pos c35]; exact l_undo hL hi hO hC hM
  rw [if_neg c35]
  by_cases c36 : v = (36 : Int32)
  · rw [if_pos c36]; exact l_tear hL hi hO hC hM
  rw [if_neg c36]
  by_cases c37 : v = (37 : Int32)
  · rw [if_pos c37]; exact l_count hL hi hO hC hM
  rw [if_neg c37]
  by_cases c38 : v = (38 : Int32)
  · rw [if_pos c38]; exact l_status hL hi hO hC hM
  rw [if_neg c38]
  exact l_end hO hC hM
theorem pure_law (xs : Nat → Int32) (L : Nat) (hL : L ≤ 3072) : it (fun a => f_law_b18 xs L a.1 a.2) FU ((0 : Int32), Xf) = some 1 := by
  obtain ⟨r, y1, y2⟩ := it_run (f := fun a => f_law_b18 xs L a.1 a.2) (fun i a => a.1 = nI (6 * i) ∧ ∃ A, Ok A ∧ IC A a.2 ∧ IM A a.2) (fun r => r = 1) 512 (by omega) ((0 : Int32), Xf) ⟨rfl, A00, ok00, ic00, im00⟩ (by
    intro i a hi ⟨e1, A, e2, e3, e4⟩
    obtain ⟨x, Z⟩ := a
    dsimp only at e1 e3 e4 ⊢
    subst e1
    by_cases h : 6 * i + 6 ≤ L
    · right
      obtain ⟨Y, B, y1, y2, y3, y4⟩ := l_all (xs := xs) hL h e2 e3 e4
      exact ⟨by omega, _, y1, rfl, B, y2, y3, y4⟩
    · left
      refine ⟨1, ?_, rfl⟩
      unfold f_law_b18
      rw [if_pos (by rw [Int32.lt_iff_toInt_lt, li 6, pk_sub_toInt (by omega) (by omega), nI_toInt (by omega)]; omega)])
  rw [y1, y2]
