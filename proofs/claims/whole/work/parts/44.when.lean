/-! when it first is so -/
theorem first_or {P : Nat → Prop} (hd : ∀ i, P i ∨ ¬ P i) : ∀ n, (∃ i, i ≤ n ∧ P i ∧ ∀ j, j < i → ¬ P j) ∨ ∀ i, i ≤ n → ¬ P i
  | 0 => by
    rcases hd 0 with h | h
    · exact Or.inl ⟨0, Nat.le_refl _, h, fun j hj => absurd hj (by omega)⟩
    · exact Or.inr (fun i hi => by have : i = 0 := by omega
                                   subst this; exact h)
  | n + 1 => by
    rcases first_or hd n with ⟨i, h1, h2, h3⟩ | h
    · exact Or.inl ⟨i, by omega, h2, h3⟩
    · rcases hd (n + 1) with h2 | h2
      · exact Or.inl ⟨n + 1, Nat.le_refl _, h2, fun j hj => h j (by omega)⟩
      · refine Or.inr (fun i hi => ?_)
        by_cases c : i = n + 1
        · subst c; exact h2
        · exact h i (by omega)
theorem act_find2 {A : Ab} (hO : Ok A) {f g : Mem → Option (Int32 × Mem)} {c : Int32} {i : Nat} (hc : (-1000000001 : Int32) - c = nI i) (hi : i < 7) (hf : ∀ X, IC A X → ∃ Y, f X = f_Tide_finding c Y ∧ Sm scN X Y) (hg : ∀ X, IM A X → ∃ Y, g X = f_Model_finds c Y ∧ IM A Y ∧ Sm M70 X Y) : Act f g A :=
  ⟨c, fnd A i, fnd_ok hO, fun X hX => by
    obtain ⟨Y, h1, h2⟩ := hf X hX
    obtain ⟨Z, a1, a2, a3⟩ := c_finding (hX.scratch hO h2) hO hc hi
    exact ⟨Z, h1.trans a1, a2, (h2.mono (fun k q => by unfold scN at q; unfold C70; omega)).tr a3⟩, fun X hX => by
    obtain ⟨Y, h1, h2, h3⟩ := hg X hX
    obtain ⟨Z, a1, a2, a3⟩ := m_finds h2 hc hi
    exact ⟨Z, h1.trans a1, a2, h3.tr a3⟩⟩
abbrev evT (s : Nat → Nat) (t i : Nat) : Nat := (ev (tK s t) (tH s t) (s 1) (tQ s t) i).1
theorem m_whenIt {D : Nat} {X : Mem} {s : Nat → Nat} (h : RM X 71 s) (hg : Gd D s) (hD : D ≤ 998000) {t w : Nat} (ht : t < s 0) (hw : w < 3) : ∃ r Y, f_Model_whenIt (nI t) (nI w) X = some (r, Y) ∧ RM Y 71 s ∧ Sm (fun k => k = 71 ∨ k = 73 ∨ k = 74) X Y ∧ ((∃ i, i ≤ 400 ∧ evT s t i = w ∧ (∀ j, j < i → evT s t j ≠ w) ∧ r = nI i) ∨ ((∀ i, i ≤ 400 → evT s t i ≠ w) ∧ r = -1)) := by
  have h0 := hg.1
  have hC : ∀ t, t < s 0 → s (23 + 6 * t + 2) < 16 := fun t ht => (hg.2.2.2.2.2 t ht).2.2.1
  obtain ⟨X2, a1, a2, a3⟩ := m_copyRow (B := 74) h (by omega)
  unfold f_Model_whenIt
  rw [a1, bd_s]
  have key : ∀ (i : Nat) (Z : Mem), i ≤ 401 → RM Z 74 s → Sm (fun k => k = 71 ∨ k = 73 ∨ k = 74) X Z → ∃ Y, f_Model_whenIt_j39 (nI i) Z = some ((if 400 < i then (-1 : Int32) else nI i), Y) ∧ RM Y 71 s ∧ Sm (fun k => k = 71 ∨ k = 73 ∨ k = 74) X Y := by
    intro i Z hi hR hS
    obtain ⟨Y, c1, c2, c3⟩ := m_copyRow (B := 71) hR (by omega)
    unfold f_Model_whenIt_j39
    rw [c1, bd_s, li 400]
    refine ⟨Y, ?_, c2, hS.tr (c3.mono (fun k q => Or.inl q))⟩
    by_cases c : 400 < i
    · rw [if_pos (by rw [nI_ltI (by omega) (by omega)]; exact c), if_pos c]
    · rw [if_neg (by rw [nI_ltI (by omega) (by omega)]; exact c), if_neg c]
  obtain ⟨⟨r, Y⟩, y1, y2⟩ := it_run (f := fun a => f_Model_whenIt_b13 (nI t) (nI w) a.1 a.2) (fun i a => a.1 = nI i ∧ ∃ u, RM a.2 71 u ∧ Aft s i u ∧ RM a.2 74 s ∧ Sm (fun k => k = 71 ∨ k = 73 ∨ k = 74) X a.2 ∧ ∀ j, j < i → evT s t j ≠ w) (fun Y => RM Y.2 71 s ∧ Sm (fun k => k = 71 ∨ k = 73 ∨ k = 74) X Y.2 ∧ ((∃ i, i ≤ 400 ∧ evT s t i = w ∧ (∀ j, j < i → evT s t j ≠ w) ∧ Y.1 = nI i) ∨ ((∀ i, i ≤ 400 → evT s t i ≠ w) ∧ Y.1 = -1))) 401 (by omega) ((0 : Int32), X2) ⟨rfl, s, h.sm a3 (by omega), Aft.z hg, a2, a3.mono (fun k q => by omega), fun j hj => absurd hj (by omega)⟩ (by
    intro i a hi ⟨e1, u, e2, e3, e4, e5, e6⟩
    obtain ⟨x, Z⟩ := a
    dsimp only at e1 e2 e3 e4 e5 e6 ⊢
    subst e1
    obtain ⟨Y, k1, k2, k3⟩ := key i Z hi e4 e5
    unfold f_Model_whenIt_b13
    rw [li 400]
    by_cases c : 400 < i
    · left
      rw [if_pos (by rw [nI_ltI (by omega) (by omega)]; exact c), k1, if_pos c]
      exact ⟨_, rfl, k2, k3, Or.inr ⟨fun j hj => e6 j (by omega), rfl⟩⟩
    · have hu := e3.gd hg
      have htu : t < u 0 := by rw [e3.1]; exact ht
      obtain ⟨g0, g1, g2, g3, g4, g5⟩ := hu.2.2.2.2.2 t htu
      have ev1 : u (23 + 6 * t + 4) = evT s t i := congrArg Prod.fst (e3.2.2.2.2.2.1 t ht)
      rw [if_neg (by rw [nI_ltI (by omega) (by omega)]; exact c), m_isIt e2 (by omega) (by omega) (by omega), bd_s, ev1]
      by_cases c2 : evT s t i = w
      · left
        rw [if_pos c2, if_neg (by decide), k1, if_neg c]
        exact ⟨_, rfl, k2, k3, Or.inl ⟨i, by omega, c2, e6, rfl⟩⟩
      · right
        obtain ⟨Y2, v, d1, d2, d3, d4⟩ := m_day e2 hu (by omega)
        rw [if_neg c2, if_pos rfl, d1, bd_s, lt_s1, li 1, nI_add]
        refine ⟨by omega, _, rfl, rfl, v, d2, e3.add hC d3, e4.sm d4 (by omega), e5.tr (d4.mono (fun k q => Or.inl q)), fun j hj => ?_⟩
        by_cases c3 : j = i
        · subst c3; exact c2
        · exact e6 j (by omega))
  exact ⟨r, Y, y1, y2.1, y2.2.1, y2.2.2⟩
theorem nI_le0 {b : Nat} (hb : b < 2 ^ 31) : (nI b ≤ 0) ↔ b = 0 := by
  rw [li 0, nI_leI hb (by omega)]; omega
theorem m_orN {b : Nat} (hb : b < 2 ^ 31) (X : Mem) : f_Model_orNone (nI b) X = some (nI b, X) := by
  unfold f_Model_orNone
  rw [li 0, if_pos (by rw [nI_leI (by omega) hb]; omega)]
theorem m_orN1 (X : Mem) : f_Model_orNone (-1) X = f_Model_finds (-1000000004) X := by
  unfold f_Model_orNone
  rw [if_neg (by decide), bd2_id]
theorem op_taken {A : Ab} (hO : Ok A) (p1 : Int32) : Act (f_Tide_taken p1) (f_Model_taken p1) A := by
  have hg := hO.1
  have h0 := hg.1
  by_cases h1 : 0 ≤ p1.toInt ∧ p1.toInt < (aS A 0 : Int)
  · obtain ⟨t, ht, rfl⟩ := ofr h1
    obtain ⟨g0, g1, g2, g3, g4, g5⟩ := hg.2.2.2.2.2 t ht
    by_cases h2 : aS A (23 + 6 * t + 4) = 1
    · have hcl : ∀ X, IC A X → ∃ Y l b a p, f_Tide_taken (nI t) X = (if nI l ≤ 0 then f_Tide_finding (-1000000004) Y else some (nI l, Y)) ∧ Sm scN X Y ∧ WS (tK (aS A) t) (tH (aS A) t) (aS A 1) (tQ (aS A) t) 400 l b a p := fun X hX => by
        obtain ⟨Y, l, b, a, p, c1, c2, c3, c4⟩ := c_follow1 (t := t) (n := 400) hX.1 hg (by omega) ht (by omega)
        refine ⟨Y, l, b, a, p, ?_, c2.mono (fun z hz => by unfold scN; omega), c4⟩
        unfold f_Tide_taken
        rw [c_has hX.1 h0, if_pos h1, bd_s, if_neg (by decide), rdRn (by omega) (by omega), lt_s1, hX.1.th ht (by omega), if_pos (by rw [h2]; rfl), li 400, c1, bd_s, rdRn (by omega) (by omega), lt_s1, c3.1, bd2_id]
      have hml : ∀ X, IM A X → ∃ r Y, f_Model_taken (nI t) X = f_Model_orNone r Y ∧ IM A Y ∧ Sm M70 X Y ∧ ((∃ i, i ≤ 400 ∧ evT (aS A) t i = 2 ∧ (∀ j, j < i → evT (aS A) t j ≠ 2) ∧ r = nI i) ∨ ((∀ i, i ≤ 400 → evT (aS A) t i ≠ 2) ∧ r = -1)) := fun X hX => by
        obtain ⟨r, Y, c1, c2, c3, c4⟩ := m_whenIt (t := t) (w := 2) hX.1 hg (by omega) ht (by omega)
        have hY := hX.shore c2 c3
        refine ⟨r, Y, ?_, hY.1, hY.2, c4⟩
        unfold f_Model_taken
        rw [m_isThing hX.1 h0, if_pos h1, bd_s, if_neg (by decide), li 1, m_isIt hX.1 (by omega) (by omega) (by omega), if_pos h2, bd_s, if_neg (by decide), li 2, c1, bd2_s, bd2_id]
      rcases first_or (P := fun i => evT (aS A) t i = 2) (fun i => Nat.decEq _ _ |>.em) 400 with ⟨i, i1, i2, i3⟩ | hn
      · refine act_tell hO (r := nI i) (fun X hX => ?_) (fun X hX => ?_)
        · obtain ⟨Y, l, b, a, p, c1, c2, c3⟩ := hcl X hX
          obtain ⟨w1, w2, w3, w4, w5, w6, w7⟩ := c3
          obtain ⟨z1, z2⟩ := w7.1 h2
          have q1 := z1 i i1 i2
          have q2 := z2 q1.1
          have q3 : l = i := by
            rcases Nat.lt_trichotomy l i with c | c | c
            · exact absurd q2 (i3 l c)
            · exact c
            · omega
          subst q3
          refine ⟨Y, ?_, c2⟩
          rw [c1, if_neg (by rw [nI_le0 (by omega)]; omega)]
        · obtain ⟨r, Y, c1, c2, c3, c4⟩ := hml X hX
          rcases c4 with ⟨j, j1, j2, j3, rfl⟩ | ⟨j1, _⟩
          · have q3 : j = i := by
              rcases Nat.lt_trichotomy j i with c | c | c
              · exact absurd j2 (i3 j c)
              · exact c
              · exact absurd i2 (j3 i c)
            subst q3
            exact ⟨Y, by rw [c1, m_orN (by omega)], c2, c3⟩
          · exact absurd i2 (j1 i i1)
      · refine act_find2 hO (c := -1000000004) (i := 3) (by decide) (by omega) (fun X hX => ?_) (fun X hX => ?_)
        · obtain ⟨Y, l, b, a, p, c1, c2, c3⟩ := hcl X hX
          obtain ⟨w1, w2, w3, w4, w5, w6, w7⟩ := c3
          obtain ⟨z1, z2⟩ := w7.1 h2
          have q : l = 0 := by
            rcases Nat.eq_zero_or_pos l with c | c
            · exact c
            · exact absurd (z2 c) (hn l w2)
          exact ⟨Y, by rw [c1, if_pos (by rw [nI_le0 (by omega)]; exact q)], c2⟩
        · obtain ⟨r, Y, c1, c2, c3, c4⟩ := hml X hX
          rcases c4 with ⟨j, j1, j2, j3, rfl⟩ | ⟨j1, rfl⟩
          · exact absurd j2 (hn j j1)
          · exact ⟨Y, by rw [c1, m_orN1], c2, c3⟩
    · refine act_find hO (c := -1000000005) (i := 4) (by decide) (by omega) (fun X hX => ?_) (fun X hX => ?_)
      · unfold f_Tide_taken
        rw [c_has hX.1 h0, if_pos h1, bd_s, if_neg (by decide), rdRn (by omega) (by omega), lt_s1, hX.1.th ht (by omega), li 1, if_neg (by rw [nI_eq (by omega) (by omega)]; exact h2), bd2_id]
      · unfold f_Model_taken
        rw [m_isThing hX.1 h0, if_pos h1, bd_s, if_neg (by decide), li 1, m_isIt hX.1 (by omega) (by omega) (by omega), if_neg h2, bd_s, if_pos rfl, bd2_id]
  · refine act_bey hO (fun X hX => ?_) (fun X hX => ?_)
    · unfold f_Tide_taken
      rw [c_has hX.1 h0, if_neg h1, bd_s, if_pos rfl, bd2_id]
    · unfold f_Model_taken
      rw [m_isThing hX.1 h0, if_neg h1, bd_s, if_pos rfl, bd2_id]
theorem op_home {A : Ab} (hO : Ok A) (p1 : Int32) : Act (f_Tide_home p1) (f_Model_home p1) A := by
  have hg := hO.1
  have h0 := hg.1
  by_cases h1 : 0 ≤ p1.toInt ∧ p1.toInt < (aS A 0 : Int)
  · obtain ⟨t, ht, rfl⟩ := ofr h1
    obtain ⟨g0, g1, g2, g3, g4, g5⟩ := hg.2.2.2.2.2 t ht
    by_cases h2 : aS A (23 + 6 * t + 4) = 0
    · refine act_find hO (c := -1000000005) (i := 4) (by decide) (by omega) (fun X hX => ?_) (fun X hX => ?_)
      · unfold f_Tide_home
        rw [c_has hX.1 h0, if_pos h1, bd_s, if_neg (by decide), rdRn (by omega) (by omega), lt_s1, hX.1.th ht (by omega), h2, if_pos (by decide), bd2_id]
      · unfold f_Model_home
        rw [m_isThing hX.1 h0, if_pos h1, bd_s, if_neg (by decide), li 0, m_isIt hX.1 (by omega) (by omega) (by omega), if_pos h2, bd_s, if_neg (by decide), bd2_id]
    · have hcl : ∀ X, IC A X → ∃ Y l b a p, f_Tide_home (nI t) X = (if nI b ≤ 0 then f_Tide_finding (-1000000004) Y else some (nI b, Y)) ∧ Sm scN X Y ∧ WS (tK (aS A) t) (tH (aS A) t) (aS A 1) (tQ (aS A) t) 400 l b a p := fun X hX => by
        obtain ⟨Y, l, b, a, p, c1, c2, c3, c4⟩ := c_follow1 (t := t) (n := 400) hX.1 hg (by omega) ht (by omega)
        refine ⟨Y, l, b, a, p, ?_, c2.mono (fun z hz => by unfold scN; omega), c4⟩
        unfold f_Tide_home
        rw [c_has hX.1 h0, if_pos h1, bd_s, if_neg (by decide), rdRn (by omega) (by omega), lt_s1, hX.1.th ht (by omega), if_neg (by rw [li 0, nI_eq (by omega) (by omega)]; exact h2), li 400, c1, bd_s, rdRn (by omega) (by omega), lt_s1, c3.2.1, bd2_id]
      have hml : ∀ X, IM A X → ∃ r Y, f_Model_home (nI t) X = f_Model_orNone r Y ∧ IM A Y ∧ Sm M70 X Y ∧ ((∃ i, i ≤ 400 ∧ evT (aS A) t i = 0 ∧ (∀ j, j < i → evT (aS A) t j ≠ 0) ∧ r = nI i) ∨ ((∀ i, i ≤ 400 → evT (aS A) t i ≠ 0) ∧ r = -1)) := fun X hX => by
        obtain ⟨r, Y, c1, c2, c3, c4⟩ := m_whenIt (t := t) (w := 0) hX.1 hg (by omega) ht (by omega)
        have hY := hX.shore c2 c3
        refine ⟨r, Y, ?_, hY.1, hY.2, c4⟩
        unfold f_Model_home
        rw [m_isThing hX.1 h0, if_pos h1, bd_s, if_neg (by decide), li 0, m_isIt hX.1 (by omega) (by omega) (by omega), if_neg h2, bd_s, if_pos (by decide), c1, bd2_s, bd2_id]
      rcases first_or (P := fun i => evT (aS A) t i = 0) (fun i => Nat.decEq _ _ |>.em) 400 with ⟨i, i1, i2, i3⟩ | hn
      · refine act_tell hO (r := nI i) (fun X hX => ?_) (fun X hX => ?_)
        · obtain ⟨Y, l, b, a, p, c1, c2, c3⟩ := hcl X hX
          obtain ⟨w1, w2, w3, w4, w5, w6, w7⟩ := c3
          have q1 := (w6 i i1 h2).mp i2
          have q2 := (w6 b w3 h2).mpr ⟨q1.1, Nat.le_refl _⟩
          have q3 : b = i := by
            rcases Nat.lt_trichotomy b i with c | c | c
            · exact absurd q2 (i3 b c)
            · exact c
            · omega
          subst q3
          refine ⟨Y, ?_, c2⟩
          rw [c1, if_neg (by rw [nI_le0 (by omega)]; omega)]
        · obtain ⟨r, Y, c1, c2, c3, c4⟩ := hml X hX
          rcases c4 with ⟨j, j1, j2, j3, rfl⟩ | ⟨j1, _⟩
          · have q3 : j = i := by
              rcases Nat.lt_trichotomy j i with c | c | c
              · exact absurd j2 (i3 j c)
              · exact c
              · exact absurd i2 (j3 i c)
            subst q3
            exact ⟨Y, by rw [c1, m_orN (by omega)], c2, c3⟩
          · exact absurd i2 (j1 i i1)
      · refine act_find2 hO (c := -1000000004) (i := 3) (by decide) (by omega) (fun X hX => ?_) (fun X hX => ?_)
        · obtain ⟨Y, l, b, a, p, c1, c2, c3⟩ := hcl X hX
          obtain ⟨w1, w2, w3, w4, w5, w6, w7⟩ := c3
          have q : b = 0 := by
            rcases Nat.eq_zero_or_pos b with c | c
            · exact c
            · exact absurd ((w6 b w3 h2).mpr ⟨c, Nat.le_refl _⟩) (hn b w3)
          exact ⟨Y, by rw [c1, if_pos (by rw [nI_le0 (by omega)]; exact q)], c2⟩
        · obtain ⟨r, Y, c1, c2, c3, c4⟩ := hml X hX
          rcases c4 with ⟨j, j1, j2, j3, rfl⟩ | ⟨j1, rfl⟩
          · exact absurd j2 (hn j j1)
          · exact ⟨Y, by rw [c1, m_orN1], c2, c3⟩
  · refine act_bey hO (fun X hX => ?_) (fun X hX => ?_)
    · unfold f_Tide_home
      rw [c_has hX.1 h0, if_neg h1, bd_s, if_pos rfl, bd2_id]
    · unfold f_Model_home
      rw [m_isThing hX.1 h0, if_neg h1, bd_s, if_pos rfl, bd2_id]
