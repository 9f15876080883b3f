/-! copy -/
theorem gcL {X : Mem} {k0 k1 u d n a b : Nat} : gL (cL X k0 k1 u d n) a b = if a = k1 then (if d ≤ b ∧ b < d + n then gL X k0 (u + (b - d)) else gL X k1 b) else gL X a b := rfl
theorem sub_ti {z : Nat} {p : Int32} (hz : z ≤ 40) (hp : 0 ≤ p.toInt) : (nI z - p).toInt = (z : Int) - p.toInt := by
  have h := Int32.toInt_lt p
  rw [Int32.toInt_sub, nI_toInt (by omega)]
  exact Int.bmod_eq_of_le (by omega) (by omega)
theorem c_hasRun {X : Mem} {t z : Nat} {p q : Int32} (h : gI X (52 + 2 * t) 2 = nI z) (hz : z ≤ 40) : f_Sheet_hasRun (52 + 2 * t) p q X = some (if 0 ≤ p.toInt ∧ 0 ≤ q.toInt ∧ p.toInt + q.toInt ≤ (z : Int) then 1 else 0) := by
  unfold f_Sheet_hasRun
  simp only [lt_s1]
  rw [h]
  by_cases c1 : p < 0
  · rw [if_pos c1, if_neg]
    rw [Int32.lt_iff_toInt_lt, Int32.toInt_zero] at c1; omega
  · rw [if_neg c1]
    rw [Int32.lt_iff_toInt_lt, Int32.toInt_zero] at c1
    by_cases c2 : q < 0
    · rw [if_pos c2, if_neg]
      rw [Int32.lt_iff_toInt_lt, Int32.toInt_zero] at c2; omega
    · rw [if_neg c2]
      rw [Int32.lt_iff_toInt_lt, Int32.toInt_zero] at c2
      by_cases c3 : nI z < p
      · rw [if_pos c3, if_neg]
        rw [Int32.lt_iff_toInt_lt, nI_toInt (by omega)] at c3; omega
      · rw [if_neg c3]
        rw [Int32.lt_iff_toInt_lt, nI_toInt (by omega)] at c3
        by_cases c4 : (nI z - p) < q
        · rw [if_pos c4, if_neg]
          rw [Int32.lt_iff_toInt_lt, sub_ti hz (by omega)] at c4; omega
        · rw [if_neg c4, if_pos]
          rw [Int32.lt_iff_toInt_lt, sub_ti hz (by omega)] at c4; omega
theorem m_chk {β : Type} {B G : β} {z y : Nat} {p2 p4 p5 : Int32} (hz : z ≤ 40) (hy : y ≤ 40) : (if p2 < 0 then B else (if p4 < 0 then B else (if p5 < 0 then B else (if (nI z - p2) < p5 then B else (if p5 ≤ (nI y - p4) then G else B))))) = if (0 ≤ p2.toInt ∧ 0 ≤ p5.toInt ∧ p2.toInt + p5.toInt ≤ (z : Int)) ∧ (0 ≤ p4.toInt ∧ 0 ≤ p5.toInt ∧ p4.toInt + p5.toInt ≤ (y : Int)) then G else B := by
  by_cases c1 : p2 < 0
  · rw [if_pos c1, if_neg]
    rw [Int32.lt_iff_toInt_lt, Int32.toInt_zero] at c1; omega
  · rw [if_neg c1]
    rw [Int32.lt_iff_toInt_lt, Int32.toInt_zero] at c1
    by_cases c2 : p4 < 0
    · rw [if_pos c2, if_neg]
      rw [Int32.lt_iff_toInt_lt, Int32.toInt_zero] at c2; omega
    · rw [if_neg c2]
      rw [Int32.lt_iff_toInt_lt, Int32.toInt_zero] at c2
      by_cases c3 : p5 < 0
      · rw [if_pos c3, if_neg]
        rw [Int32.lt_iff_toInt_lt, Int32.toInt_zero] at c3; omega
      · rw [if_neg c3]
        rw [Int32.lt_iff_toInt_lt, Int32.toInt_zero] at c3
        by_cases c4 : (nI z - p2) < p5
        · rw [if_pos c4, if_neg]
          rw [Int32.lt_iff_toInt_lt, sub_ti hz (by omega)] at c4; omega
        · rw [if_neg c4]
          rw [Int32.lt_iff_toInt_lt, sub_ti hz (by omega)] at c4
          by_cases c5 : p5 ≤ (nI y - p4)
          · rw [if_pos c5, if_pos]
            rw [Int32.le_iff_toInt_le, sub_ti hy (by omega)] at c5; omega
          · rw [if_neg c5, if_neg]
            rw [Int32.le_iff_toInt_le, sub_ti hy (by omega)] at c5; omega
theorem m_cp {X : Mem} {a b n : Nat} (ha : a + n ≤ 160) (hb : b + n ≤ 160) : ∃ Y, it (fun z => f_Model_copy_b136 (nI n) (nI a) (nI b) z.1 z.2) FU ((0 : Int32), X) = some (nI n, Y) ∧ Sm (fun k => k = 79) X Y ∧ ((∀ x, gL Y 79 x = if b ≤ x ∧ x < b + n then gL X 79 (a + (x - b)) else gL X 79 x) ∧ ∀ k x, gI Y k x = gI X k x) := by
  by_cases c : b ≤ a
  · obtain ⟨⟨r, Y⟩, y1, y2, y3, y4, y5⟩ := it_run (f := fun z => f_Model_copy_b136 (nI n) (nI a) (nI b) z.1 z.2) (fun i z => z.1 = nI i ∧ Sm (fun k => k = 79) X z.2 ∧ (∀ x, gL z.2 79 x = if b ≤ x ∧ x < b + i then gL X 79 (a + (x - b)) else gL X 79 x) ∧ ∀ k x, gI z.2 k x = gI X k x) (fun Y => Y.1 = nI n ∧ Sm (fun k => k = 79) X Y.2 ∧ (∀ x, gL Y.2 79 x = if b ≤ x ∧ x < b + n then gL X 79 (a + (x - b)) else gL X 79 x) ∧ ∀ k x, gI Y.2 k x = gI X k x) n (by omega) ((0 : Int32), X) ⟨rfl, Sm.rf, fun x => by rw [if_neg (by omega)], fun _ _ => rfl⟩ (by
      intro i z hi ⟨e1, e2, e3, e4⟩
      obtain ⟨w, Z⟩ := z
      dsimp only at e1 e2 e3 e4 ⊢
      subst e1
      unfold f_Model_copy_b136 f_Model_copy_j162
      by_cases h : i < n
      · right
        rw [if_neg (by rw [nI_leI (by omega) (by omega)]; omega), if_pos (by rw [nI_leI (by omega) (by omega)]; exact c), nI_add, rdLn (by omega) (by omega), nI_add, wrLn (by omega) (by omega), lt_s1, li 1, nI_add, e3 (a + i), if_neg (by omega)]
        refine ⟨h, _, rfl, rfl, e2.sL rfl, fun x => ?_, fun k x => by rw [gsIL]; exact e4 k x⟩
        rw [gsL]
        by_cases cx : x = b + i
        · rw [if_pos ⟨rfl, cx⟩, if_pos (by omega), cx, Nat.add_sub_cancel_left]
        · rw [if_neg (fun q => cx q.2), e3 x]
          by_cases cy : b ≤ x ∧ x < b + i
          · rw [if_pos cy, if_pos (by omega)]
          · rw [if_neg cy, if_neg (by omega)]
      · have hin : i = n := by omega
        subst hin
        left
        rw [if_pos (by rw [nI_leI (by omega) (by omega)]; omega)]
        exact ⟨_, rfl, rfl, e2, e3, e4⟩)
    dsimp only at y2 y3 y4 y5
    subst y2
    exact ⟨Y, y1, y3, y4, y5⟩
  · obtain ⟨⟨r, Y⟩, y1, y2, y3, y4, y5⟩ := it_run (f := fun z => f_Model_copy_b136 (nI n) (nI a) (nI b) z.1 z.2) (fun i z => z.1 = nI i ∧ Sm (fun k => k = 79) X z.2 ∧ (∀ x, gL z.2 79 x = if b + (n - i) ≤ x ∧ x < b + n then gL X 79 (a + (x - b)) else gL X 79 x) ∧ ∀ k x, gI z.2 k x = gI X k x) (fun Y => Y.1 = nI n ∧ Sm (fun k => k = 79) X Y.2 ∧ (∀ x, gL Y.2 79 x = if b ≤ x ∧ x < b + n then gL X 79 (a + (x - b)) else gL X 79 x) ∧ ∀ k x, gI Y.2 k x = gI X k x) n (by omega) ((0 : Int32), X) ⟨rfl, Sm.rf, fun x => by rw [if_neg (by omega)], fun _ _ => rfl⟩ (by
      intro i z hi ⟨e1, e2, e3, e4⟩
      obtain ⟨w, Z⟩ := z
      dsimp only at e1 e2 e3 e4 ⊢
      subst e1
      unfold f_Model_copy_b136 f_Model_copy_j162
      by_cases h : i < n
      · right
        rw [if_neg (by rw [nI_leI (by omega) (by omega)]; omega), if_neg (by rw [nI_leI (by omega) (by omega)]; exact c), li 1, pk_sub (by omega), pk_sub (by omega), nI_add, rdLn (by omega) (by omega), nI_add, wrLn (by omega) (by omega), lt_s1, nI_add, e3 (a + (n - 1 - i)), if_neg (by omega)]
        refine ⟨h, _, rfl, rfl, e2.sL rfl, fun x => ?_, fun k x => by rw [gsIL]; exact e4 k x⟩
        rw [gsL]
        by_cases cx : x = b + (n - 1 - i)
        · rw [if_pos ⟨rfl, cx⟩, if_pos (by omega), cx, Nat.add_sub_cancel_left]
        · rw [if_neg (fun q => cx q.2), e3 x]
          by_cases cy : b + (n - i) ≤ x ∧ x < b + n
          · rw [if_pos cy, if_pos (by omega)]
          · rw [if_neg cy, if_neg (by omega)]
      · have hin : i = n := by omega
        subst hin
        left
        rw [if_pos (by rw [nI_leI (by omega) (by omega)]; omega)]
        refine ⟨_, rfl, rfl, e2, fun x => ?_, e4⟩
        rw [e3 x, Nat.sub_self, Nat.add_zero])
    dsimp only at y2 y3 y4 y5
    subst y2
    exact ⟨Y, y1, y3, y4, y5⟩
theorem op_copy {A : Ab} (hO : Ok A) (p1 p2 p3 p4 p5 : Int32) : Act (f_Tide_copy p1 p2 p3 p4 p5) (f_Model_copy p1 p2 p3 p4 p5) A := by
  by_cases h1 : 0 ≤ p1.toInt ∧ p1.toInt < ((4 : Nat) : Int)
  · by_cases h3 : 0 ≤ p3.toInt ∧ p3.toInt < ((4 : Nat) : Int)
    · obtain ⟨t, ht, rfl⟩ := ofr h1
      obtain ⟨u, hu, rfl⟩ := ofr h3
      obtain ⟨o1, o2, o3⟩ := hO.2.2.2.2 t ht
      obtain ⟨o4, o5, o6⟩ := hO.2.2.2.2 u hu
      by_cases c1 : (aH A t).1 = 0
      · refine act_find hO (c := -1000000006) (i := 5) (by decide) (by omega) (fun X hX => ?_) (fun X hX => ?_)
        · unfold f_Tide_copy f_Tide_copy_j55
          rw [li 4, c_isBelow (by omega), if_pos h1, bd_s, if_neg (by decide), c_isBelow (by omega), if_pos h3, bd_s, if_neg (by decide), rdRn ht (by omega), rdRn hu (by omega), c_missing hX hO ht, if_pos c1, bd_s, if_neg (by decide), bd2_id]
        · unfold f_Model_copy f_Model_copy_j39
          rw [m_isSheet, if_pos h1, bd_s, if_neg (by decide), m_isSheet, if_pos h3, bd_s, if_neg (by decide), rdn ht (by omega), (hX.2.2.2.2 t ht).1, if_pos c1, if_pos (by decide), bd2_id]
      by_cases c2 : (aH A u).1 = 0
      · refine act_find hO (c := -1000000006) (i := 5) (by decide) (by omega) (fun X hX => ?_) (fun X hX => ?_)
        · unfold f_Tide_copy f_Tide_copy_j55
          rw [li 4, c_isBelow (by omega), if_pos h1, bd_s, if_neg (by decide), c_isBelow (by omega), if_pos h3, bd_s, if_neg (by decide), rdRn ht (by omega), rdRn hu (by omega), c_missing hX hO ht, if_neg c1, bd_s, if_pos rfl, c_missing hX hO hu, if_pos c2, bd_s, if_neg (by decide), bd2_id]
        · unfold f_Model_copy f_Model_copy_j39
          rw [m_isSheet, if_pos h1, bd_s, if_neg (by decide), m_isSheet, if_pos h3, bd_s, if_neg (by decide), rdn ht (by omega), (hX.2.2.2.2 t ht).1, if_neg c1, if_neg (by rw [li 0, nI_ltI (by omega) (by omega)]; omega), rdn hu (by omega), (hX.2.2.2.2 u hu).1, if_pos c2, if_neg (by decide), bd2_id]
      have hcc : ∀ X, IC A X → f_Tide_copy (nI t) p2 (nI u) p4 p5 X = if nI (aH A t).1 = nI (aH A u).1 then (if 0 ≤ p2.toInt ∧ 0 ≤ p5.toInt ∧ p2.toInt + p5.toInt ≤ ((aH A t).2.1 : Int) then (if 0 ≤ p4.toInt ∧ 0 ≤ p5.toInt ∧ p4.toInt + p5.toInt ≤ ((aH A u).2.1 : Int) then (acL X (52 + 2 * t + 1) 40 p2 (52 + 2 * u + 1) 40 p4 p5 fun X17 => some (p5, X17)) else f_Tide_finding (-1000000001) X) else f_Tide_finding (-1000000001) X) else f_Tide_finding (-1000000003) X := by
        intro X hX
        obtain ⟨q1, q2, q3⟩ := hX.2.2.2.2 t ht
        obtain ⟨q4, q5, q6⟩ := hX.2.2.2.2 u hu
        unfold f_Tide_copy f_Tide_copy_j106
        rw [li 4, c_isBelow (by omega), if_pos h1, bd_s, if_neg (by decide), c_isBelow (by omega), if_pos h3, bd_s, if_neg (by decide), rdRn ht (by omega), rdRn hu (by omega), c_missing hX hO ht, if_neg c1, bd_s, if_pos rfl, c_missing hX hO hu, if_neg c2, bd_s, if_pos rfl, lt_s1, lt_s1, q1, q4, c_hasRun q2 o2, bd_s, z10, c_hasRun q5 o5, bd_s, z10, bd2_id, bd2_id]
      have hmm : ∀ X, IM A X → f_Model_copy (nI t) p2 (nI u) p4 p5 X = if nI (aH A t).1 = nI (aH A u).1 then (if (0 ≤ p2.toInt ∧ 0 ≤ p5.toInt ∧ p2.toInt + p5.toInt ≤ ((aH A t).2.1 : Int)) ∧ (0 ≤ p4.toInt ∧ 0 ≤ p5.toInt ∧ p4.toInt + p5.toInt ≤ ((aH A u).2.1 : Int)) then it (fun a => f_Model_copy_b136 p5 (nI (40 * t) + p2) (nI (40 * u) + p4) a.1 a.2) FU ((0 : Int32), X) else f_Model_finds (-1000000001) X) else f_Model_finds (-1000000003) X := by
        intro X hX
        obtain ⟨q1, q2, q3⟩ := hX.2.2.2.2 t ht
        obtain ⟨q4, q5, q6⟩ := hX.2.2.2.2 u hu
        rw [if_neg c1] at q1
        rw [if_neg c2] at q4
        unfold f_Model_copy f_Model_copy_j109
        simp only [lt_s1]
        rw [m_isSheet, if_pos h1, bd_s, if_neg (by decide), m_isSheet, if_pos h3, bd_s, if_neg (by decide), rdn ht (by omega), q1, if_neg (by rw [li 0, nI_ltI (by omega) (by omega)]; omega), rdn hu (by omega), q4, if_pos (by rw [li 0, nI_leI (by omega) (by omega)]; omega), rdn ht (by omega), rdn hu (by omega), q1, q4, rdn ht (by omega), q2, rdn hu (by omega), q5, m_chk o2 o5, bd2_id, bd2_id, li 40, pk_mul, pk_mul]
      by_cases c3 : (aH A t).1 = (aH A u).1
      · have c3' : nI (aH A t).1 = nI (aH A u).1 := by rw [c3]
        by_cases c4 : (0 ≤ p2.toInt ∧ 0 ≤ p5.toInt ∧ p2.toInt + p5.toInt ≤ ((aH A t).2.1 : Int)) ∧ (0 ≤ p4.toInt ∧ 0 ≤ p5.toInt ∧ p4.toInt + p5.toInt ≤ ((aH A u).2.1 : Int))
        · obtain ⟨a, ha, rfl⟩ := ofr (p := p2) (n := 41) (by omega)
          obtain ⟨b, hb, rfl⟩ := ofr (p := p4) (n := 41) (by omega)
          obtain ⟨n, hn, rfl⟩ := ofr (p := p5) (n := 41) (by omega)
          have r1 := c4.1.2.2
          have r2 := c4.2.2.2
          rw [nI_toInt (by omega), nI_toInt (by omega)] at r1 r2
          have r3 : a + n ≤ 40 := by omega
          have r4 : b + n ≤ 40 := by omega
          refine ⟨nI n, hs A u ((aH A u).1, (aH A u).2.1, fun j => if b ≤ j ∧ j < b + n then (aH A t).2.2 (a + (j - b)) else (aH A u).2.2 j), hO.sheet ⟨o4, o5, o6⟩, fun X hX => ?_, fun X hX => ?_⟩
          · obtain ⟨q1, q2, q3⟩ := hX.2.2.2.2 t ht
            obtain ⟨q4, q5, q6⟩ := hX.2.2.2.2 u hu
            rw [hcc X hX, if_pos c3', if_pos c4.1, if_pos c4.2]
            unfold acL ckC
            rw [nI_clamp (by omega), nI_clamp (by omega), nI_clamp (by omega), nI_toInt (by omega), nI_toInt (by omega), nI_toInt (by omega), if_pos (by simp only [Bool.and_eq_true, decide_eq_true_eq]; omega)]
            refine ⟨_, rfl, hX.sheet hO hu ?_ q4 q5 (fun j hj => ?_)⟩
            · intro k hk
              exact ⟨fun j => rfl, fun j => by rw [gcL, if_neg (fun e => hk (Or.inr e))]⟩
            · rw [gcL, if_pos rfl]
              show _ = if b ≤ j ∧ j < b + n then (aH A t).2.2 (a + (j - b)) else (aH A u).2.2 j
              by_cases cj : b ≤ j ∧ j < b + n
              · rw [if_pos cj, if_pos cj]; exact q3 _ (by omega)
              · rw [if_neg cj, if_neg cj]; exact q6 j hj
          · obtain ⟨q1, q2, q3⟩ := hX.2.2.2.2 t ht
            obtain ⟨q4, q5, q6⟩ := hX.2.2.2.2 u hu
            obtain ⟨Y, y1, y2, y3, y4⟩ := m_cp (X := X) (a := 40 * t + a) (b := 40 * u + b) (n := n) (by omega) (by omega)
            rw [hmm X hX, if_pos c3', if_pos c4, nI_add, nI_add, y1]
            refine ⟨Y, rfl, hX.sheet hu (y2.mono (fun k q => Or.inr (Or.inr q))) (fun x hx hne => ⟨y4 _ _, y4 _ _, fun j hj => by rw [y3, if_neg (by omega)]⟩) (by rw [y4]; exact q4) (by rw [y4]; exact q5) (fun j hj => ?_)⟩
            rw [y3]
            show _ = if b ≤ j ∧ j < b + n then (aH A t).2.2 (a + (j - b)) else (aH A u).2.2 j
            by_cases cj : b ≤ j ∧ j < b + n
            · rw [if_pos (by omega), if_pos cj, show 40 * t + a + (40 * u + j - (40 * u + b)) = 40 * t + (a + (j - b)) from by omega]
              exact q3 _ (by omega)
            · rw [if_neg (by omega), if_neg cj]; exact q6 j hj
        · refine act_bey hO (fun X hX => ?_) (fun X hX => ?_)
          · rw [hcc X hX, if_pos c3']
            by_cases c5 : 0 ≤ p2.toInt ∧ 0 ≤ p5.toInt ∧ p2.toInt + p5.toInt ≤ ((aH A t).2.1 : Int)
            · rw [if_pos c5, if_neg (fun q => c4 ⟨c5, q⟩)]
            · rw [if_neg c5]
          · rw [hmm X hX, if_pos c3', if_neg c4]
      · have c3' : ¬ nI (aH A t).1 = nI (aH A u).1 := by rw [nI_eq (by omega) (by omega)]; exact c3
        refine act_find hO (c := -1000000003) (i := 2) (by decide) (by omega) (fun X hX => ?_) (fun X hX => ?_)
        · rw [hcc X hX, if_neg c3']
        · rw [hmm X hX, if_neg c3']
    · refine act_bey hO (fun X hX => ?_) (fun X hX => ?_)
      · unfold f_Tide_copy f_Tide_copy_j16
        rw [li 4, c_isBelow (by omega), if_pos h1, bd_s, if_neg (by decide), c_isBelow (by omega), if_neg h3, bd_s, if_pos rfl, bd2_id]
      · unfold f_Model_copy f_Model_copy_j14
        rw [m_isSheet, if_pos h1, bd_s, if_neg (by decide), m_isSheet, if_neg h3, bd_s, if_pos rfl, bd2_id]
  · refine act_bey hO (fun X hX => ?_) (fun X hX => ?_)
    · unfold f_Tide_copy f_Tide_copy_j16
      rw [li 4, c_isBelow (by omega), if_neg h1, bd_s, if_pos rfl, bd2_id]
    · unfold f_Model_copy f_Model_copy_j14
      rw [m_isSheet, if_neg h1, bd_s, if_pos rfl, bd2_id]
