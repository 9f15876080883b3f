/-! days -/
def aft (s : Nat → Nat) (n : Nat) : Nat → Nat := fun j => if j = 1 then s 1 + n else if 19 ≤ j ∧ j < 23 then pn s n (j - 19) else if 23 ≤ j ∧ j < 23 + 6 * s 0 then (if (j - 23) % 6 = 4 then (ev (tK s ((j - 23) / 6)) (tH s ((j - 23) / 6)) (s 1) (tQ s ((j - 23) / 6)) n).1 else if (j - 23) % 6 = 5 then (ev (tK s ((j - 23) / 6)) (tH s ((j - 23) / 6)) (s 1) (tQ s ((j - 23) / 6)) n).2 else s j) else s j
theorem aft_lo {s : Nat → Nat} {n j : Nat} (h : j < 19) (h1 : j ≠ 1) : aft s n j = s j := by
  unfold aft
  rw [if_neg h1, if_neg (by omega), if_neg (by omega)]
theorem aft_1 {s : Nat → Nat} {n : Nat} : aft s n 1 = s 1 + n := rfl
theorem aft_p {s : Nat → Nat} {n f : Nat} (h : f < 4) : aft s n (19 + f) = pn s n f := by
  unfold aft
  rw [if_neg (by omega), if_pos (by omega), Nat.add_sub_cancel_left]
theorem aft_t {s : Nat → Nat} {n t j : Nat} (ht : t < s 0) (hj : j < 6) : aft s n (23 + 6 * t + j) = if j = 4 then (ev (tK s t) (tH s t) (s 1) (tQ s t) n).1 else if j = 5 then (ev (tK s t) (tH s t) (s 1) (tQ s t) n).2 else s (23 + 6 * t + j) := by
  unfold aft
  have e1 : (23 + 6 * t + j - 23) % 6 = j := by omega
  have e2 : (23 + 6 * t + j - 23) / 6 = t := by omega
  rw [if_neg (by omega), if_neg (by omega), if_pos (by omega), e1, e2]
theorem aft_hi {s : Nat → Nat} {n j : Nat} (h : 23 + 6 * s 0 ≤ j) : aft s n j = s j := by
  unfold aft
  rw [if_neg (by omega), if_neg (by omega), if_neg (by omega)]
theorem Aft.is {s u : Nat → Nat} {n : Nat} (h : Aft s n u) (j : Nat) : u j = aft s n j := by
  obtain ⟨a0, a1, a2, a3, a4, a5, a6⟩ := h
  by_cases c1 : j < 19
  · by_cases c2 : j = 1
    · subst c2; rw [aft_1]; exact a1
    · rw [aft_lo c1 c2]
      by_cases c3 : j < 3
      · rcases (show j = 0 ∨ j = 2 by omega) with rfl | rfl
        · exact a0
        · exact a2
      · have := a3 (j - 3) (by omega)
        rw [show 3 + (j - 3) = j from by omega] at this
        exact this
  · by_cases c2 : j < 23
    · have : u (19 + (j - 19)) = pn s n (j - 19) := a6 (j - 19) (by omega)
      have e := aft_p (s := s) (n := n) (f := j - 19) (by omega)
      rw [show 19 + (j - 19) = j from by omega] at this e
      rw [e]; exact this
    · by_cases c3 : 23 + 6 * s 0 ≤ j
      · rw [aft_hi c3]
        have := a3 (j - 3) (by omega)
        rw [show 3 + (j - 3) = j from by omega] at this
        exact this
      · have ht : (j - 23) / 6 < s 0 := by omega
        have e := aft_t (s := s) (n := n) (t := (j - 23) / 6) (j := (j - 23) % 6) ht (by omega)
        have ej : 23 + 6 * ((j - 23) / 6) + (j - 23) % 6 = j := by omega
        rw [ej] at e
        rw [e]
        obtain ⟨b0, b1, b2, b3⟩ := a4 _ ht
        have b4 := a5 _ ht
        generalize (j - 23) / 6 = t at *
        rcases (show (j - 23) % 6 = 0 ∨ (j - 23) % 6 = 1 ∨ (j - 23) % 6 = 2 ∨ (j - 23) % 6 = 3 ∨ (j - 23) % 6 = 4 ∨ (j - 23) % 6 = 5 by omega) with c | c | c | c | c | c <;> rw [c] at ej ⊢ <;> rw [← ej]
        · exact b0
        · exact b1
        · exact b2
        · exact b3
        · exact congrArg Prod.fst b4
        · exact congrArg Prod.snd b4
theorem aft_Aft {D : Nat} {s : Nat → Nat} (hg : Gd D s) (n : Nat) : Aft s n (aft s n) := by
  have h0 := hg.1
  refine ⟨aft_lo (by omega) (by omega), rfl, aft_lo (by omega) (by omega), fun c hc => ?_, fun t ht => ?_, fun t ht => ?_, fun f hf => aft_p hf⟩
  · rcases hc with hc | hc
    · exact aft_lo (by omega) (by omega)
    · exact aft_hi (by omega)
  · exact ⟨aft_t (j := 0) ht (by omega), aft_t (j := 1) ht (by omega), aft_t (j := 2) ht (by omega), aft_t (j := 3) ht (by omega)⟩
  · show (aft s n (23 + 6 * t + 4), aft s n (23 + 6 * t + 5)) = _
    rw [aft_t ht (by omega), aft_t ht (by omega)]
    rfl
theorem aft_gd {D : Nat} {s : Nat → Nat} (hg : Gd D s) {n E : Nat} (hE : s 1 + n ≤ E) : Gd E (aft s n) := by
  have := (aft_Aft hg n).gd hg
  exact ⟨this.1, by rw [aft_1]; exact hE, this.2.2⟩
/-- the class's shore while the things are brought -/
def RD (X : Mem) (s : Nat → Nat) (n i : Nat) : Prop := gI X 2 3 = nI (s 0) ∧ gI X 2 4 = nI (s 1) ∧ gI X 2 5 = nI (s 2) ∧ (∀ c, c < 16 → gI X (2 + 1) c = nI (s (3 + c))) ∧ (∀ f, f < 4 → gI X (2 + 2) f = nI (min 999999999 (s (19 + f) + sg (totS s n f) i))) ∧ ∀ t, t < s 0 → ∀ j, j < 6 → gI X ((2 + 3) + 1 + t) j = nI (if t < i then aft s n (23 + 6 * t + j) else s (23 + 6 * t + j))
theorem RD.fin {X : Mem} {s : Nat → Nat} {n : Nat} (h : RD X s n (s 0)) : RC (sI X 2 4 (nI (s 1 + n))) 2 (aft s n) := by
  obtain ⟨h0, h1, h2, h3, h4, h5⟩ := h
  refine ⟨?_, ?_, ?_, fun c hc => ?_, fun f hf => ?_, fun t ht j hj => ?_⟩
  · rw [gsI, if_neg (by omega), aft_lo (by omega) (by omega)]; exact h0
  · rw [gsI, if_pos ⟨rfl, rfl⟩, aft_1]
  · rw [gsI, if_neg (by omega), aft_lo (by omega) (by omega)]; exact h2
  · rw [gsI, if_neg (by omega), aft_lo (by omega) (by omega)]; exact h3 c hc
  · rw [gsI, if_neg (by omega), aft_p hf]; exact h4 f hf
  · rw [aft_lo (by omega) (by omega)] at ht
    have := h5 t ht j hj
    rw [if_pos ht] at this
    rw [gsI, if_neg (by omega)]; exact this
theorem c_bring {D : Nat} {Z : Mem} {s : Nat → Nat} {n i : Nat} (h : RD Z s n i) (hg : Gd D s) (hD : D ≤ 998000) (hn : n ≤ 1000) (hi : i < s 0) (hW : Wys Z s n) : ∃ Y, f_Tide_bring ((2 + 3) + 1 + i) (60 + i) Z = some Y ∧ RD Y s n (i + 1) ∧ Sm (fun k => 2 ≤ k ∧ k < 16) Z Y := by
  obtain ⟨k0, k1, k2, k3, k4, k5⟩ := hg
  obtain ⟨g0, g1, g2, g3, g4, g5⟩ := k5 i hi
  obtain ⟨h0, h1, h2, h3, h4, h5⟩ := h
  obtain ⟨l, b, a, p, w1, w2⟩ := hW i hi
  obtain ⟨v1, v2, v3, v4, v5, v6, v7⟩ := w2
  have hp : p.2 ≤ s 1 + n := by rw [v1]; exact ev_2 g4 g5 n
  have e := v5 n (Nat.le_refl _) (tW s i) (s 2)
  have e2 : (if 0 < b then rp (tK s i) (tW s i) (s 2) p.2 a else 0) = tb1 s n (s 2) i := by
    show _ = tot (tK s i) (tH s i) (tW s i) (s 2) (s 1) (tQ s i) n
    rw [e]
    by_cases c : 0 < b
    · rw [if_pos c, if_pos ⟨c, v3⟩]
    · rw [if_neg c, if_neg (fun q => c q.1)]
  have e3 : tb1 s n (s 2) i ≤ 99999999 := by
    rw [← e2]
    split
    · exact rp_le
    · omega
  have hth : ∀ j, j < 6 → gI Z ((2 + 3) + 1 + i) j = nI (s (23 + 6 * i + j)) := fun j hj => by
    rw [h5 i hi j hj, if_neg (by omega)]
  have hbr := c_brings (r := s 2) w1 (hth 0 (by omega)) (hth 3 (by omega)) g0 g3 k2 (by omega) (by omega) (by omega)
  rw [show (if 0 < b then rp (s (23 + 6 * i + 0)) (s (23 + 6 * i + 3)) (s 2) p.2 a else 0) = tb1 s n (s 2) i from e2] at hbr
  unfold f_Tide_bring
  simp only [lt_s1]
  rw [hth 1 (by omega), rdn g1 (by omega), h4 _ g1, h2, hbr, bd_s, c_filled (Nat.min_le_left _ _) (by omega), bd_s, wrn g1 (by omega), min_add]
  have hw3 : gI (sI Z (2 + 2) (s (23 + 6 * i + 1)) (nI (min 999999999 (s (19 + s (23 + 6 * i + 1)) + (sg (totS s n (s (23 + 6 * i + 1))) i + tb1 s n (s 2) i))))) (60 + i) 3 = nI p.1 := by
    rw [gsI, if_neg (by omega)]; exact w1.2.2.2.1
  rw [hw3]
  have hw4 : gI (sI (sI Z (2 + 2) (s (23 + 6 * i + 1)) (nI (min 999999999 (s (19 + s (23 + 6 * i + 1)) + (sg (totS s n (s (23 + 6 * i + 1))) i + tb1 s n (s 2) i))))) ((2 + 3) + 1 + i) 4 (nI p.1)) (60 + i) 4 = nI p.2 := by
    rw [gsI, if_neg (by omega), gsI, if_neg (by omega)]; exact w1.2.2.2.2
  rw [hw4]
  refine ⟨_, rfl, ⟨?_, ?_, ?_, fun c hc => ?_, fun f hf => ?_, fun t ht j hj => ?_⟩, ((Sm.rf.sI (by omega)).sI (by omega)).sI (by omega)⟩
  · rw [gsI, if_neg (by omega), gsI, if_neg (by omega), gsI, if_neg (by omega)]; exact h0
  · rw [gsI, if_neg (by omega), gsI, if_neg (by omega), gsI, if_neg (by omega)]; exact h1
  · rw [gsI, if_neg (by omega), gsI, if_neg (by omega), gsI, if_neg (by omega)]; exact h2
  · rw [gsI, if_neg (by omega), gsI, if_neg (by omega), gsI, if_neg (by omega)]; exact h3 c hc
  · rw [gsI, if_neg (by omega), gsI, if_neg (by omega), gsI]
    show _ = nI (min 999999999 (s (19 + f) + (sg (totS s n f) i + totS s n f i)))
    by_cases c : s (23 + 6 * i + 1) = f
    · rw [if_pos ⟨rfl, c.symm⟩, c, show totS s n f i = tb1 s n (s 2) i from if_pos c]
    · rw [if_neg (by omega), show totS s n f i = 0 from if_neg c]
      exact h4 f hf
  · by_cases c : t = i
    · subst c
      rw [if_pos (by omega), aft_t ht hj, ← v1, gsI, gsI, gsI]
      by_cases c5 : j = 5
      · subst c5; rw [if_pos ⟨rfl, rfl⟩]; rfl
      · rw [if_neg (by omega)]
        by_cases c4 : j = 4
        · subst c4; rw [if_pos ⟨rfl, rfl⟩]; rfl
        · rw [if_neg (by omega), if_neg (by omega), if_neg c4, if_neg c5]; exact hth j hj
    · rw [gsI, if_neg (by omega), gsI, if_neg (by omega), gsI, if_neg (by omega), h5 t ht j hj]
      by_cases c2 : t < i
      · rw [if_pos c2, if_pos (by omega)]
      · rw [if_neg c2, if_neg (by omega)]
theorem c_allPurses {D : Nat} {X : Mem} {s : Nat → Nat} (h : RC X 2 s) (hg : Gd D s) : f_Shore_allPurses 2 X = some (lN (sg (fun f => s (19 + f)) 4)) := by
  refine it_for (fun i => (lN (sg (fun f => s (19 + f)) i), nI i)) 4 _ (by omega) (fun i hi => ?_) ?_
  · have := hg.2.2.2.2.1 i hi
    unfold f_Shore_allPurses_b4
    simp only [lt_s1]
    rw [li 4, if_neg (by rw [nI_leI (by omega) (by omega)]; omega), rdn hi (by omega), h.2.2.2.2.1 i hi, ilN (by omega), lN_add, li 1, nI_add]
    rfl
  · unfold f_Shore_allPurses_b4
    rw [li 4, if_pos (by rw [nI_leI (by omega) (by omega)]; omega)]
theorem m_purses {D : Nat} {X : Mem} {s : Nat → Nat} (h : RM X 71 s) (hg : Gd D s) : f_Model_purses X = some (lN (sg (fun f => s (19 + f)) 4)) := by
  have p0 : s 19 ≤ 999999999 := hg.2.2.2.2.1 0 (by omega)
  have p1 : s 20 ≤ 999999999 := hg.2.2.2.2.1 1 (by omega)
  have p2 : s 21 ≤ 999999999 := hg.2.2.2.2.1 2 (by omega)
  have p3 : s 22 ≤ 999999999 := hg.2.2.2.2.1 3 (by omega)
  unfold f_Model_purses
  rw [li 19, h.rd (by omega), li 20, h.rd (by omega), li 21, h.rd (by omega), li 22, h.rd (by omega), ilN (by omega), ilN (by omega), ilN (by omega), ilN (by omega), lN_add, lN_add, lN_add]
  congr 2
  show _ = 0 + s 19 + s 20 + s 21 + s 22
  omega
theorem act_findL {A : Ab} (hO : Ok A) {f g : Mem → Option (Int64 × Mem)} {c : Int32} {i : Nat} (hc : (-1000000001 : Int32) - c = nI i) (hi : i < 7) (hf : ∀ X, IC A X → f X = bd2 (f_Tide_finding c X) fun v Y => some (v.toInt64, Y)) (hg : ∀ X, IM A X → g X = bd2 (f_Model_finds c X) fun v Y => some (v.toInt64, Y)) : ActL f g A :=
  ⟨c.toInt64, fnd A i, fnd_ok hO, fun X hX => by
    obtain ⟨Z, a1, a2, a3⟩ := c_finding hX hO hc hi
    exact ⟨Z, by rw [hf X hX, a1, bd2_s], a2, a3⟩, fun X hX => by
    obtain ⟨Z, a1, a2, a3⟩ := m_finds hX hc hi
    exact ⟨Z, by rw [hg X hX, a1, bd2_s], a2, a3⟩⟩
theorem op_days {A : Ab} (hO : Ok A) (p1 : Int32) : ActL (f_Tide_days p1) (f_Model_days p1) A := by
  have hg := hO.1
  have hg1 := hg.2.1
  have h0 := hg.1
  by_cases h1 : (1 : Int) ≤ p1.toInt ∧ p1.toInt ≤ ((400 : Nat) : Int)
  · obtain ⟨n, hn, rfl⟩ := ofr (p := p1) (n := 401) (by omega)
    by_cases h2 : aS A 1 + n ≤ 99999
    · have hgB : Gd 99999 (aft (aS A) n) := aft_gd hg h2
      refine ⟨lN (sg (fun f => aft (aS A) n (19 + f)) 4), (aft (aS A) n, A.2), hO.shore hgB, fun X hX => ?_, fun X hX => ?_⟩
      · obtain ⟨X5, y1, y2, y3⟩ := c_followAll (n := n) hX.1 hg (by omega) (by omega)
        have hY : RC X5 2 (aS A) := hX.1.sm hg.1 y3 (by omega)
        have hRD : RD X5 (aS A) n 0 := by
          obtain ⟨r0, r1, r2, r3, r4, r5⟩ := hY
          refine ⟨r0, r1, r2, r3, fun f hf => ?_, fun t ht j hj => ?_⟩
          · have := hg.2.2.2.2.1 f hf
            rw [r4 f hf]
            show _ = nI (min 999999999 (aS A (19 + f) + 0))
            rw [Nat.min_eq_right (by omega)]
            rfl
          · rw [if_neg (by omega)]; exact r5 t ht j hj
        unfold f_Tide_days
        rw [li 400, c_isUpTo1 (by omega), if_pos h1, bd_s, if_neg (by decide), lt_s1, hX.1.2.1, nI_add, li 99999, if_pos (by rw [nI_leI (by omega) (by omega)]; exact h2), y1, bd_s]
        obtain ⟨⟨r, Y⟩, c1, c2, c3, c4⟩ := it_run (f := fun a => f_Tide_days_b48 (nI n) a.1 a.2) (fun i a => a.1 = nI i ∧ RD a.2 (aS A) n i ∧ Wys a.2 (aS A) n ∧ Sm (fun k => (2 ≤ k ∧ k < 16) ∨ scN k) X a.2) (fun Y => Y.1 = lN (sg (fun f => aft (aS A) n (19 + f)) 4) ∧ RC Y.2 2 (aft (aS A) n) ∧ Sm (fun k => (2 ≤ k ∧ k < 16) ∨ scN k) X Y.2) (aS A 0) (by omega) ((0 : Int32), X5) ⟨rfl, hRD, y2, y3.mono (fun k q => Or.inr (by unfold scN; omega))⟩ (by
          intro i a hi ⟨e1, e2, e3, e4⟩
          obtain ⟨x, Z⟩ := a
          dsimp only at e1 e2 e3 e4 ⊢
          subst e1
          unfold f_Tide_days_b48
          rw [lt_s1, e2.1]
          by_cases hlt : i < aS A 0
          · right
            obtain ⟨Y, b1, b2, b3⟩ := c_bring e2 hg (by omega) (by omega) hlt e3
            rw [if_neg (by rw [nI_leI (by omega) (by omega)]; omega), rdRn (by omega) (by omega), rdRn (by omega) (by omega), b1, bd_s, lt_s1, li 1, nI_add]
            refine ⟨hlt, _, rfl, rfl, b2, fun t ht => ?_, e4.tr (b3.mono (fun k q => Or.inl q))⟩
            obtain ⟨l, b, a, p, w1, w2⟩ := e3 t ht
            exact ⟨l, b, a, p, w1.sm b3 (by omega), w2⟩
          · have : i = aS A 0 := by omega
            subst this
            left
            have hR := e2.fin
            rw [if_pos (by rw [nI_leI (by omega) (by omega)]; omega), lt_s1, e2.2.1, nI_add, lt_s1, c_allPurses hR hgB, bd_s]
            exact ⟨_, rfl, rfl, hR, e4.sI (Or.inl (by omega))⟩)
        dsimp only at c2 c3 c4
        subst c2
        exact ⟨Y, c1, hX.shore hO c3 c4⟩
      · obtain ⟨Y, u, b1, b2, b3, b4⟩ := m_goes (m := n) hX.1 hg (by omega) (by omega)
        have hR : RM Y 71 (aft (aS A) n) := b2.ext (fun j _ => b3.is j)
        unfold f_Model_days
        rw [lL 400, m_isIn1 (by omega), if_pos h1, bd_s, if_neg (by decide), li 1, hX.1.rd (by omega), nI_add, li 99999, if_pos (by rw [nI_leI (by omega) (by omega)]; exact h2), b1, bd_s, m_purses hR hgB, bd_s]
        exact ⟨Y, rfl, hX.shore hR (b4.mono (fun k q => Or.inl q))⟩
    · refine act_findL hO (c := -1000000005) (i := 4) (by decide) (by omega) (fun X hX => ?_) (fun X hX => ?_)
      · unfold f_Tide_days
        rw [li 400, c_isUpTo1 (by omega), if_pos h1, bd_s, if_neg (by decide), lt_s1, hX.1.2.1, nI_add, li 99999, if_neg (by rw [nI_leI (by omega) (by omega)]; exact h2)]
      · unfold f_Model_days
        rw [lL 400, m_isIn1 (by omega), if_pos h1, bd_s, if_neg (by decide), li 1, hX.1.rd (by omega), nI_add, li 99999, if_neg (by rw [nI_leI (by omega) (by omega)]; exact h2)]
  · refine act_findL hO (c := -1000000001) (i := 0) (by decide) (by omega) (fun X hX => ?_) (fun X hX => ?_)
    · unfold f_Tide_days
      rw [li 400, c_isUpTo1 (by omega), if_neg h1, bd_s, if_pos rfl]
    · unfold f_Model_days
      rw [lL 400, m_isIn1 (by omega), if_neg h1, bd_s, if_pos rfl]
