theorem op_cell {A : Ab} (hO : Ok A) (p1 p2 : Int32) : Act (f_Tide_cell p1 p2) (f_Model_cell p1 p2) A := by
  have hg := hO.1
  by_cases h1 : 0 ≤ p1.toInt ∧ p1.toInt < ((16 : Nat) : Int)
  · by_cases h2 : 0 ≤ p2.toInt ∧ p2.toInt < ((1 + 1 : Nat) : Int)
    · obtain ⟨c, hc, rfl⟩ := ofr h1
      by_cases e : p2 = 0
      · refine act_say hO (nI (aS A (3 + c))) (fun X hX => ?_) (fun X hX => ?_)
        · unfold f_Tide_cell
          rw [li 16, c_isBelow (by omega), if_pos h1, bd_s, if_neg (by decide), li 2, c_isBelow (by omega), if_pos h2, bd_s, if_neg (by decide), if_pos e, rdn hc (by omega), hX.1.2.2.2.1 c hc]
        · unfold f_Model_cell
          rw [m_isCell, if_pos h1, bd_s, if_neg (by decide), lL 1, m_isIn0 (by omega), if_pos h2, bd_s, if_neg (by decide), if_pos e, li 3, nI_add, hX.1.rd (by omega)]
      · refine act_say hO (fs (laidg (aS A) c) (aS A 0)) (fun X hX => ?_) (fun X hX => ?_)
        · unfold f_Tide_cell
          rw [li 16, c_isBelow (by omega), if_pos h1, bd_s, if_neg (by decide), li 2, c_isBelow (by omega), if_pos h2, bd_s, if_neg (by decide), if_neg e, c_laidAt hX.1 hg hc, bd_s]
        · unfold f_Model_cell
          rw [m_isCell, if_pos h1, bd_s, if_neg (by decide), lL 1, m_isIn0 (by omega), if_pos h2, bd_s, if_neg (by decide), if_neg e, m_laidAt hX.1 hg hc, bd_s]
    · refine act_bey hO (fun X hX => ?_) (fun X hX => ?_)
      · unfold f_Tide_cell f_Tide_cell_j17
        rw [li 16, c_isBelow (by omega), if_pos h1, bd_s, if_neg (by decide), li 2, c_isBelow (by omega), if_neg h2, bd_s, if_pos rfl, bd2_id]
      · unfold f_Model_cell f_Model_cell_j17
        rw [m_isCell, if_pos h1, bd_s, if_neg (by decide), lL 1, m_isIn0 (by omega), if_neg h2, bd_s, if_pos rfl, bd2_id]
  · refine act_bey hO (fun X hX => ?_) (fun X hX => ?_)
    · unfold f_Tide_cell f_Tide_cell_j17
      rw [li 16, c_isBelow (by omega), if_neg h1, bd_s, if_pos rfl, bd2_id]
    · unfold f_Model_cell f_Model_cell_j17
      rw [m_isCell, if_neg h1, bd_s, if_pos rfl, bd2_id]
theorem op_lay {A : Ab} (hO : Ok A) (p1 p2 : Int32) : Act (f_Tide_lay p1 p2) (f_Model_lay p1 p2) A := by
  have hg := hO.1
  have h0 := hg.1
  by_cases h1 : 0 ≤ p1.toInt ∧ p1.toInt < (aS A 0 : Int)
  · by_cases h2 : 0 ≤ p2.toInt ∧ p2.toInt < ((16 : Nat) : Int)
    · obtain ⟨t, ht, rfl⟩ := ofr h1
      obtain ⟨c, hc, rfl⟩ := ofr h2
      obtain ⟨g0, g1, g2, g3, g4, g5⟩ := hg.2.2.2.2.2 t ht
      by_cases e : aS A (23 + 6 * t + 4) = 2
      · refine act_find hO (c := -1000000005) (i := 4) (by decide) (by omega) (fun X hX => ?_) (fun X hX => ?_)
        · unfold f_Tide_lay
          rw [c_has hX.1 h0, if_pos h1, bd_s, if_neg (by decide), li 16, c_isBelow (by omega), if_pos h2, bd_s, if_neg (by decide), rdRn (by omega) (by omega), lt_s1, hX.1.th ht (by omega), if_pos (by rw [e]; rfl), bd2_id]
        · unfold f_Model_lay
          rw [m_isThing hX.1 h0, if_pos h1, bd_s, if_neg (by decide), m_isCell, if_pos h2, bd_s, if_neg (by decide), li 2, m_isIt hX.1 (by omega) (by omega) (by omega), bd_s, if_pos e, if_neg (by decide), bd2_id]
      · have hg1 : Gd 99999 (up (aS A) (23 + 6 * t + 2) c) := hg.put (by omega) (by omega) (by omega) (fun _ _ _ => by omega) (fun _ _ _ => by omega) (fun _ _ _ _ _ => by omega)
        have hg2 : Gd 99999 (up (up (aS A) (23 + 6 * t + 2) c) (23 + 6 * t + 4) 1) := hg1.put (by omega) (by omega) (by omega) (fun _ _ _ => by omega) (fun _ _ _ => by omega) (fun _ _ _ _ _ => by omega)
        refine ⟨nI (pc (bs (laidg (up (up (aS A) (23 + 6 * t + 2) c) (23 + 6 * t + 4) 1) c) ((up (up (aS A) (23 + 6 * t + 2) c) (23 + 6 * t + 4) 1) 0))), (up (up (aS A) (23 + 6 * t + 2) c) (23 + 6 * t + 4) 1, A.2), hO.shore hg2, fun X hX => ?_, fun X hX => ?_⟩
        · have hR : RC (sI (sI X ((2 + 3) + 1 + t) 2 (nI c)) ((2 + 3) + 1 + t) 4 (nI 1)) 2 (up (up (aS A) (23 + 6 * t + 2) c) (23 + 6 * t + 4) 1) := (hX.1.putT (by omega)).putT (by omega)
          unfold f_Tide_lay f_Thing_layAt
          simp only [lt_s1]
          rw [c_has hX.1 h0, if_pos h1, bd_s, if_neg (by decide), li 16, c_isBelow (by omega), if_pos h2, bd_s, if_neg (by decide), rdRn (by omega) (by omega), hX.1.th ht (by omega), li 2, if_neg (by rw [nI_eq (by omega) (by omega)]; exact e), bd_s, li 1, c_laidAt hR hg2 hc, bd_s, c_count hg2.1, bd_s]
          exact ⟨_, rfl, hX.shore hO hR ((sm_c (by omega)).sI (Or.inl (by omega)))⟩
        · have hR : RM (sI (sI X 71 (23 + 6 * t + 2) (nI c)) 71 (23 + 6 * t + 4) (nI 1)) 71 (up (up (aS A) (23 + 6 * t + 2) c) (23 + 6 * t + 4) 1) := (hX.1.put).put
          unfold f_Model_lay f_Model_lies
          rw [m_isThing hX.1 h0, if_pos h1, bd_s, if_neg (by decide), m_isCell, if_pos h2, bd_s, if_neg (by decide), li 2, m_isIt hX.1 (by omega) (by omega) (by omega), bd_s, if_neg e, if_pos rfl, m_at, bd_s, wrn (by omega) (by omega), li 4, m_at, bd_s, wrn (by omega) (by omega), bd_s, li 1, m_laidAt hR hg2 hc, bd_s, m_count hg2.1, bd_s]
          exact ⟨_, rfl, hX.shore hR (sm_m.sI (Or.inl rfl))⟩
    · refine act_bey hO (fun X hX => ?_) (fun X hX => ?_)
      · unfold f_Tide_lay f_Tide_lay_j20
        rw [c_has hX.1 h0, if_pos h1, bd_s, if_neg (by decide), li 16, c_isBelow (by omega), if_neg h2, bd_s, if_pos rfl, bd2_id]
      · unfold f_Model_lay f_Model_lay_j15
        rw [m_isThing hX.1 h0, if_pos h1, bd_s, if_neg (by decide), m_isCell, if_neg h2, bd_s, if_pos rfl, bd2_id]
  · refine act_bey hO (fun X hX => ?_) (fun X hX => ?_)
    · unfold f_Tide_lay f_Tide_lay_j20
      rw [c_has hX.1 h0, if_neg h1, bd_s, if_pos rfl, bd2_id]
    · unfold f_Model_lay f_Model_lay_j15
      rw [m_isThing hX.1 h0, if_neg h1, bd_s, if_pos rfl, bd2_id]
theorem op_tide {A : Ab} (hO : Ok A) (p1 p2 : Int32) : Act (f_Tide_tide p1 p2) (f_Model_tide p1 p2) A := by
  have hg := hO.1
  by_cases h1 : 0 ≤ p1.toInt ∧ p1.toInt < ((99999 + 1 : Nat) : Int)
  · obtain ⟨d, hd, rfl⟩ := ofr h1
    by_cases h2 : 0 ≤ p2.toInt ∧ p2.toInt < ((3 + 1 : Nat) : Int)
    · obtain ⟨w, hw, rfl⟩ := ofr h2
      rcases (show w = 0 ∨ w = 1 ∨ w = 2 ∨ w = 3 by omega) with rfl | rfl | rfl | rfl
      · refine act_say hO (nI (mk d)) (fun X hX => ?_) (fun X hX => ?_)
        · unfold f_Tide_tide
          rw [li 99999, c_isUpTo0 (by omega), if_pos h1, bd_s, if_neg (by decide), if_pos (by decide), c_mark (by omega), bd_s]
        · unfold f_Model_tide
          rw [lL 99999, m_isIn0 (by omega), if_pos h1, bd_s, if_neg (by decide), lL 3, m_isIn0 (by omega), if_pos h2, bd_s, if_neg (by decide), if_neg (by decide), if_pos (by decide), m_mark (by omega), bd_s]
      · refine act_say hO (nI (d % 28)) (fun X hX => ?_) (fun X hX => ?_)
        · unfold f_Tide_tide
          rw [li 99999, c_isUpTo0 (by omega), if_pos h1, bd_s, if_neg (by decide), if_neg (by decide), if_pos (by decide), c_moon (by omega), bd_s]
        · unfold f_Model_tide
          rw [lL 99999, m_isIn0 (by omega), if_pos h1, bd_s, if_neg (by decide), lL 3, m_isIn0 (by omega), if_pos h2, bd_s, if_neg (by decide), if_neg (by decide), if_neg (by decide), if_pos (by decide), li 28, remn (by omega) (by omega) (by omega)]
      · have e : ∀ X : Mem, (bd (some (if d % 14 = 0 then (1 : Int32) else 0)) fun v7 => if v7 = 0 then (some ((0 : Int32), X)) else (some ((1 : Int32), X))) = some ((if d % 14 = 0 then (1 : Int32) else 0), X) := fun X => by
          rw [bd_s]
          by_cases q : d % 14 = 0
          · rw [if_pos q, if_neg (by decide)]
          · rw [if_neg q, if_pos (by decide)]
        refine act_say hO (if d % 14 = 0 then (1 : Int32) else 0) (fun X hX => ?_) (fun X hX => ?_)
        · unfold f_Tide_tide
          rw [li 99999, c_isUpTo0 (by omega), if_pos h1, bd_s, if_neg (by decide), if_neg (by decide), if_neg (by decide), if_pos (by decide), c_spring (by omega), e X]
        · unfold f_Model_tide
          rw [lL 99999, m_isIn0 (by omega), if_pos h1, bd_s, if_neg (by decide), lL 3, m_isIn0 (by omega), if_pos h2, bd_s, if_neg (by decide), if_neg (by decide), if_neg (by decide), if_neg (by decide), m_spring (by omega), e X]
      · have := @mk_le d
        refine act_say hO (fm (blw (aS A) (mk d)) 16) (fun X hX => ?_) (fun X hX => ?_)
        · unfold f_Tide_tide
          rw [li 99999, c_isUpTo0 (by omega), if_pos h1, bd_s, if_neg (by decide), if_neg (by decide), if_neg (by decide), if_neg (by decide), if_pos (by decide), c_mark (by omega), bd_s, c_cellsBelow hX.1 hg (by omega), bd_s]
        · unfold f_Model_tide
          rw [lL 99999, m_isIn0 (by omega), if_pos h1, bd_s, if_neg (by decide), lL 3, m_isIn0 (by omega), if_pos h2, bd_s, if_neg (by decide), if_pos (by decide), m_tide3 hX.1 hg (by omega)]
    · have e0 : p2 ≠ 0 := fun q => h2 (by subst q; decide)
      have e1 : p2 ≠ 1 := fun q => h2 (by subst q; decide)
      have e2 : p2 ≠ 2 := fun q => h2 (by subst q; decide)
      have e3 : p2 ≠ 3 := fun q => h2 (by subst q; decide)
      refine act_bey hO (fun X hX => ?_) (fun X hX => ?_)
      · unfold f_Tide_tide
        rw [li 99999, c_isUpTo0 (by omega), if_pos h1, bd_s, if_neg (by decide), if_neg e0, if_neg e1, if_neg e2, if_neg e3, bd2_id]
      · unfold f_Model_tide f_Model_tide_j24
        rw [lL 99999, m_isIn0 (by omega), if_pos h1, bd_s, if_neg (by decide), lL 3, m_isIn0 (by omega), if_neg h2, bd_s, if_pos (by decide), bd2_id]
  · refine act_bey hO (fun X hX => ?_) (fun X hX => ?_)
    · unfold f_Tide_tide
      rw [li 99999, c_isUpTo0 (by omega), if_neg h1, bd_s, if_pos (by decide), bd2_id]
    · unfold f_Model_tide f_Model_tide_j24
      rw [lL 99999, m_isIn0 (by omega), if_neg h1, bd_s, if_pos (by decide), bd2_id]
theorem op_of {A : Ab} (hO : Ok A) (p1 p2 : Int32) : Act (f_Tide_of p1 p2) (f_Model_of p1 p2) A := by
  have hg := hO.1
  have h0 := hg.1
  by_cases h1 : 0 ≤ p1.toInt ∧ p1.toInt < (aS A 0 : Int)
  · obtain ⟨t, ht, rfl⟩ := ofr h1
    obtain ⟨g0, g1, g2, g3, g4, g5⟩ := hg.2.2.2.2.2 t ht
    by_cases h2 : 0 ≤ p2.toInt ∧ p2.toInt < ((7 + 1 : Nat) : Int)
    · obtain ⟨w, hw, rfl⟩ := ofr h2
      have hc : ∀ X, IC A X → ∀ j, j < 6 → f_Tide_of (nI t) (nI j) X = some (nI (aS A (23 + 6 * t + j)), X) := fun X hX j hj => by
        unfold f_Tide_of
        simp only [lt_s1]
        rw [c_has hX.1 h0, if_pos h1, bd_s, if_neg (by decide), rdRn (by omega) (by omega)]
        rcases (show j = 0 ∨ j = 1 ∨ j = 2 ∨ j = 3 ∨ j = 4 ∨ j = 5 by omega) with rfl | rfl | rfl | rfl | rfl | rfl
        · rw [if_pos (by decide), hX.1.th ht (by omega)]
        · rw [if_neg (by decide), if_pos (by decide), hX.1.th ht (by omega)]
        · rw [if_neg (by decide), if_neg (by decide), if_pos (by decide), hX.1.th ht (by omega)]
        · rw [if_neg (by decide), if_neg (by decide), if_neg (by decide), if_pos (by decide), hX.1.th ht (by omega)]
        · rw [if_neg (by decide), if_neg (by decide), if_neg (by decide), if_neg (by decide), if_pos (by decide), hX.1.th ht (by omega)]
        · rw [if_neg (by decide), if_neg (by decide), if_neg (by decide), if_neg (by decide), if_neg (by decide), if_pos (by decide), hX.1.th ht (by omega)]
      by_cases h6 : w < 6
      · refine act_say hO (nI (aS A (23 + 6 * t + w))) (fun X hX => hc X hX w h6) (fun X hX => ?_)
        unfold f_Model_of
        rw [m_isThing hX.1 h0, if_pos h1, bd_s, if_neg (by decide), lL 7, m_isIn0 (by omega), if_pos h2, bd_s, if_neg (by decide), li 6, if_neg (by rw [nI_leI (by omega) (by omega)]; omega), m_its hX.1 (by omega) h6, bd_s]
      · rcases (show w = 6 ∨ w = 7 by omega) with rfl | rfl
        · refine act_say hO (nI (tm (aS A (23 + 6 * t)))) (fun X hX => ?_) (fun X hX => ?_)
          · unfold f_Tide_of
            simp only [lt_s1]
            rw [c_has hX.1 h0, if_pos h1, bd_s, if_neg (by decide), rdRn (by omega) (by omega), if_neg (by decide), if_neg (by decide), if_neg (by decide), if_neg (by decide), if_neg (by decide), if_neg (by decide), if_pos (by decide), hX.1.th0 ht, c_term g0, bd_s]
          · unfold f_Model_of
            rw [m_isThing hX.1 h0, if_pos h1, bd_s, if_neg (by decide), lL 7, m_isIn0 (by omega), if_pos h2, bd_s, if_neg (by decide), if_pos (by decide), if_pos (by decide), li 0, m_its hX.1 (by omega) (by omega), bd_s]
            exact (congrArg (fun o => bd o fun v9 => some (v9, X)) (m_term g0))
        · refine act_say hO (nI (owe (aS A) t)) (fun X hX => ?_) (fun X hX => ?_)
          · unfold f_Tide_of
            simp only [lt_s1]
            rw [c_has hX.1 h0, if_pos h1, bd_s, if_neg (by decide), rdRn (by omega) (by omega), if_neg (by decide), if_neg (by decide), if_neg (by decide), if_neg (by decide), if_neg (by decide), if_neg (by decide), if_neg (by decide), if_pos (by decide), c_owed hX.1 hg (by omega) ht, bd_s]
          · unfold f_Model_of
            rw [m_isThing hX.1 h0, if_pos h1, bd_s, if_neg (by decide), lL 7, m_isIn0 (by omega), if_pos h2, bd_s, if_neg (by decide), if_pos (by decide), if_neg (by decide), m_would hX.1 hg (by omega) ht, bd_s]
    · have e0 : p2 ≠ 0 := fun q => h2 (by subst q; decide)
      have e1 : p2 ≠ 1 := fun q => h2 (by subst q; decide)
      have e2 : p2 ≠ 2 := fun q => h2 (by subst q; decide)
      have e3 : p2 ≠ 3 := fun q => h2 (by subst q; decide)
      have e4 : p2 ≠ 4 := fun q => h2 (by subst q; decide)
      have e5 : p2 ≠ 5 := fun q => h2 (by subst q; decide)
      have e6 : p2 ≠ 6 := fun q => h2 (by subst q; decide)
      have e7 : p2 ≠ 7 := fun q => h2 (by subst q; decide)
      refine act_bey hO (fun X hX => ?_) (fun X hX => ?_)
      · unfold f_Tide_of
        rw [c_has hX.1 h0, if_pos h1, bd_s, if_neg (by decide), rdRn (by omega) (by omega), if_neg e0, if_neg e1, if_neg e2, if_neg e3, if_neg e4, if_neg e5, if_neg e6, if_neg e7, bd2_id]
      · unfold f_Model_of f_Model_of_j20
        rw [m_isThing hX.1 h0, if_pos h1, bd_s, if_neg (by decide), lL 7, m_isIn0 (by omega), if_neg h2, bd_s, if_pos (by decide), bd2_id]
  · refine act_bey hO (fun X hX => ?_) (fun X hX => ?_)
    · unfold f_Tide_of
      rw [c_has hX.1 h0, if_neg h1, bd_s, if_pos (by decide), bd2_id]
    · unfold f_Model_of f_Model_of_j20
      rw [m_isThing hX.1 h0, if_neg h1, bd_s, if_pos (by decide), bd2_id]
theorem op_status {A : Ab} (hO : Ok A) (p1 : Int32) : Act (f_Tide_status p1) (f_Model_status p1) A := by
  by_cases h1 : 0 ≤ p1.toInt ∧ p1.toInt < ((7 : Nat) : Int)
  · obtain ⟨j, hj, rfl⟩ := ofr h1
    refine act_say hO (aF A j) (fun X hX => ?_) (fun X hX => ?_)
    · unfold f_Tide_status
      rw [li 7, c_isBelow (by omega), if_pos h1, bd_s, if_neg (by decide), rdn hj (by omega), hX.2.2.1 j hj]
    · unfold f_Model_status
      rw [m_isInL, if_pos (by rw [Int32.toInt_toInt64]; have e1 : (-1 : Int64).toInt = -1 := by decide
                              have e2 : (6 : Int64).toInt = 6 := by decide
                              rw [e1, e2]; omega), bd_s, if_neg (by decide), li 1, nI_add, rdn (by omega) (by omega), hX.2.2.1.2 j hj]
  · have e1 : (-1 : Int64).toInt = -1 := by decide
    have e2 : (6 : Int64).toInt = 6 := by decide
    by_cases e : p1 = -1
    · subst e
      refine act_say hO (fsum (aF A)) (fun X hX => ?_) (fun X hX => ?_)
      · unfold f_Tide_status
        rw [li 7, c_isBelow (by omega), if_neg h1, bd_s, if_pos rfl, if_pos rfl]
        have := it_for (f := fun a => f_Tide_status_b32 X a.1 a.2) (fun i => (fm (aF A) i, nI i)) 7 (fm (aF A) 7, X) (by omega) (fun i hi => by
          unfold f_Tide_status_b32
          simp only [lt_s1]
          rw [li 7, if_neg (by rw [nI_leI (by omega) (by omega)]; omega), rdn hi (by omega), hX.2.2.1 i hi, li 1, nI_add]
          rfl) (by
          unfold f_Tide_status_b32
          rw [li 7, if_pos (by rw [nI_leI (by omega) (by omega)]; omega)])
        exact this
      · unfold f_Model_status
        rw [m_isInL, if_pos (by decide), bd_s, if_neg (by decide)]
        have := rdn (X := X) (k := 75) (n := 8) (j := 0) (G := fun v6 => some (v6, X)) (by omega) (by omega)
        rw [hX.2.2.1.1] at this
        exact this
    · refine act_bey hO (fun X hX => ?_) (fun X hX => ?_)
      · unfold f_Tide_status
        rw [li 7, c_isBelow (by omega), if_neg h1, bd_s, if_pos rfl, if_neg e, bd2_id]
      · unfold f_Model_status
        have e3 : p1.toInt ≠ -1 := fun q => e (Int32.toInt_inj.mp q)
        rw [m_isInL, if_neg (by rw [Int32.toInt_toInt64, e1, e2]; omega), bd_s, if_pos rfl, bd2_id]
/-! a thing comes -/
theorem sm_s1 {X Y : Mem} {k j : Nat} {v : Int32} (h : Sm (fun q => q = k) X Y) : Sm (fun q => q = k) X (sI Y k j v) := Sm.sI h rfl
def cm (s : Nat → Nat) (k f : Nat) : Nat → Nat := up (up (up (up (up (up (up s (23 + 6 * s 0 + 0) k) (23 + 6 * s 0 + 1) f) (23 + 6 * s 0 + 2) 0) (23 + 6 * s 0 + 3) 10) (23 + 6 * s 0 + 4) 0) (23 + 6 * s 0 + 5) 0) 0 (s 0 + 1)
theorem cm_lo {s : Nat → Nat} {k f j : Nat} (h1 : 1 ≤ j) (h2 : j < 23 + 6 * s 0) : cm s k f j = s j := by
  unfold cm
  rw [up_n (by omega), up_n (by omega), up_n (by omega), up_n (by omega), up_n (by omega), up_n (by omega), up_n (by omega)]
theorem cm_0 {s : Nat → Nat} {k f : Nat} : cm s k f 0 = s 0 + 1 := up_s
theorem cm_hi {s : Nat → Nat} {k f j : Nat} (hj : j < 6) : cm s k f (23 + 6 * s 0 + j) = if j = 0 then k else if j = 1 then f else if j = 3 then 10 else 0 := by
  unfold cm
  rw [up_n (by omega)]
  rcases (show j = 0 ∨ j = 1 ∨ j = 2 ∨ j = 3 ∨ j = 4 ∨ j = 5 by omega) with rfl | rfl | rfl | rfl | rfl | rfl
  · rw [up_n (by omega), up_n (by omega), up_n (by omega), up_n (by omega), up_n (by omega), up_s]; rfl
  · rw [up_n (by omega), up_n (by omega), up_n (by omega), up_n (by omega), up_s]; rfl
  · rw [up_n (by omega), up_n (by omega), up_n (by omega), up_s]; rfl
  · rw [up_n (by omega), up_n (by omega), up_s]; rfl
  · rw [up_n (by omega), up_s]; rfl
  · rw [up_s]; rfl
theorem cm_gd {D : Nat} {s : Nat → Nat} {k f : Nat} (hg : Gd D s) (h0 : s 0 < 10) (hk : k < 6) (hf : f < 4) : Gd D (cm s k f) := by
  obtain ⟨a0, a1, a2, a3, a4, a5⟩ := hg
  refine ⟨by rw [cm_0]; omega, by rw [cm_lo (by omega) (by omega)]; exact a1, by rw [cm_lo (by omega) (by omega)]; exact a2, fun c hc => by rw [cm_lo (by omega) (by omega)]; exact a3 c hc, fun f hf => by rw [cm_lo (by omega) (by omega)]; exact a4 f hf, fun t ht => ?_⟩
  rw [cm_0] at ht
  by_cases h : t < s 0
  · obtain ⟨g0, g1, g2, g3, g4, g5⟩ := a5 t h
    unfold GT
    rw [cm_lo (by omega) (by omega), cm_lo (by omega) (by omega), cm_lo (by omega) (by omega), cm_lo (by omega) (by omega), cm_lo (by omega) (by omega), cm_lo (by omega) (by omega), cm_lo (by omega) (by omega)]
    exact ⟨g0, g1, g2, g3, g4, g5⟩
  · have : t = s 0 := by omega
    subst this
    unfold GT
    rw [show cm s k f (23 + 6 * s 0) = k from cm_hi (j := 0) (by omega), cm_hi (by omega), cm_hi (by omega), cm_hi (by omega), cm_hi (by omega), cm_hi (by omega)]
    exact ⟨hk, hf, (by decide : 0 < 16), (by decide : 10 ≤ 9999), (by decide : 0 ≤ 2), Nat.zero_le _⟩
/-- the class's shore at node B, one thing more -/
theorem c_add {X : Mem} {B : Nat} {s : Nat → Nat} {k f : Nat} (h : RC X B s) (h0 : s 0 < 10) : ∃ Y, f_Shore_add B (nI k) (nI f) X = some (nI (s 0), Y) ∧ RC Y B (cm s k f) ∧ Sm (fun q => q = B ∨ q = B + 4 + s 0) X Y := by
  unfold f_Shore_add f_Shore_isFull f_Thing_begin
  simp only [lt_s1]
  rw [h.1, li 10, if_pos (by rw [nI_ltI (by omega) (by omega)]; exact h0), bd_s, if_pos rfl, rdRn (by omega) (by omega), bd_s]
  rw [show (B + 3) + 1 + s 0 = B + 4 + s 0 from by omega]
  have hn : ∀ (Z : Mem) (j : Nat) (v : Int32), gI (sI Z (B + 4 + s 0) j v) B 3 = gI Z B 3 := fun Z j v => by rw [gsI, if_neg (by omega)]
  rw [hn, hn, hn, hn, hn, hn, h.1, li 1, nI_add, gsI, if_pos ⟨rfl, rfl⟩]
  refine ⟨_, by rw [pk_sub (by omega), Nat.add_sub_cancel], ?_, ?_⟩
  · obtain ⟨a0, a1, a2, a3, a4, a5⟩ := h
    have hlow : ∀ q j, q ≠ B + 4 + s 0 → (q ≠ B ∨ j ≠ 3) → gI (sI (sI (sI (sI (sI (sI (sI X (B + 4 + s 0) 0 (nI k)) (B + 4 + s 0) 1 (nI f)) (B + 4 + s 0) 2 0) (B + 4 + s 0) 3 (nI 10)) (B + 4 + s 0) 4 0) (B + 4 + s 0) 5 0) B 3 (nI (s 0 + 1))) q j = gI X q j := fun q j h1 h2 => by
      rw [gsI, if_neg (by omega), gsI, if_neg (by omega), gsI, if_neg (by omega), gsI, if_neg (by omega), gsI, if_neg (by omega), gsI, if_neg (by omega), gsI, if_neg (by omega)]
    refine ⟨by rw [gsI, if_pos ⟨rfl, rfl⟩, cm_0], ?_, ?_, fun c hc => ?_, fun g hg => ?_, fun t ht j hj => ?_⟩
    · rw [hlow B 4 (by omega) (by omega), cm_lo (by omega) (by omega)]; exact a1
    · rw [hlow B 5 (by omega) (by omega), cm_lo (by omega) (by omega)]; exact a2
    · rw [hlow (B + 1) c (by omega) (by omega), cm_lo (by omega) (by omega)]; exact a3 c hc
    · rw [hlow (B + 2) g (by omega) (by omega), cm_lo (by omega) (by omega)]; exact a4 g hg
    · rw [cm_0] at ht
      by_cases hts : t < s 0
      · rw [hlow (B + 4 + t) j (by omega) (by omega), cm_lo (by omega) (by omega)]; exact a5 t hts j hj
      · have : t = s 0 := by omega
        subst this
        rw [cm_hi hj, gsI, if_neg (by omega)]
        rcases (show j = 0 ∨ j = 1 ∨ j = 2 ∨ j = 3 ∨ j = 4 ∨ j = 5 by omega) with rfl | rfl | rfl | rfl | rfl | rfl
        · rw [gsI, if_neg (by omega), gsI, if_neg (by omega), gsI, if_neg (by omega), gsI, if_neg (by omega), gsI, if_neg (by omega), gsI, if_pos ⟨rfl, rfl⟩]; rfl
        · rw [gsI, if_neg (by omega), gsI, if_neg (by omega), gsI, if_neg (by omega), gsI, if_neg (by omega), gsI, if_pos ⟨rfl, rfl⟩]; rfl
        · rw [gsI, if_neg (by omega), gsI, if_neg (by omega), gsI, if_neg (by omega), gsI, if_pos ⟨rfl, rfl⟩]; rfl
        · rw [gsI, if_neg (by omega), gsI, if_neg (by omega), gsI, if_pos ⟨rfl, rfl⟩]; rfl
        · rw [gsI, if_neg (by omega), gsI, if_pos ⟨rfl, rfl⟩]; rfl
        · rw [gsI, if_pos ⟨rfl, rfl⟩]; rfl
  · exact ((((((Sm.rf.sI (Or.inr rfl)).sI (Or.inr rfl)).sI (Or.inr rfl)).sI (Or.inr rfl)).sI (Or.inr rfl)).sI (Or.inr rfl)).sI (Or.inl rfl)
theorem m_comes {X : Mem} {s : Nat → Nat} {k f : Nat} (h : RM X 71 s) (h0 : s 0 < 10) : ∃ Y, f_Model_comes (nI k) (nI f) X = some Y ∧ RM Y 71 (cm s k f) ∧ Sm (fun q => q = 71) X Y := by
  unfold f_Model_comes
  have h1 := h.put (j := 23 + 6 * s 0 + 0) (v := k)
  have h2 := h1.put (j := 23 + 6 * s 0 + 1) (v := f)
  have h3 := h2.put (j := 23 + 6 * s 0 + 2) (v := 0)
  have h4 := h3.put (j := 23 + 6 * s 0 + 3) (v := 10)
  have h5 := h4.put (j := 23 + 6 * s 0 + 4) (v := 0)
  have h6 := h5.put (j := 23 + 6 * s 0 + 5) (v := 0)
  have h7 := h6.put (j := 0) (v := s 0 + 1)
  rw [li 0, h.rd (by omega), m_at, bd_s, wrn (by omega) (by omega), li 1, m_at, bd_s, wrn (by omega) (by omega), li 2, m_at, bd_s, wrn (by omega) (by omega), li 3, m_at, bd_s, li 10, wrn (by omega) (by omega), li 4, m_at, bd_s, wrn (by omega) (by omega), li 5, m_at, bd_s, wrn (by omega) (by omega), h6.rd (by omega), wrn (by omega) (by omega), nI_add, up_n (by omega), up_n (by omega), up_n (by omega), up_n (by omega), up_n (by omega), up_n (by omega)]
  exact ⟨_, rfl, h7, sm_s1 (sm_s1 (sm_s1 (sm_s1 (sm_s1 (sm_s1 (sm_s1 Sm.rf))))))⟩
theorem op_thing {A : Ab} (hO : Ok A) (p1 p2 : Int32) : Act (f_Tide_thing p1 p2) (f_Model_thing p1 p2) A := by
  have hg := hO.1
  have h0 := hg.1
  by_cases h1 : 0 ≤ p1.toInt ∧ p1.toInt < ((5 + 1 : Nat) : Int)
  · by_cases h2 : 0 ≤ p2.toInt ∧ p2.toInt < ((4 : Nat) : Int)
    · obtain ⟨k, hk, rfl⟩ := ofr h1
      obtain ⟨f, hf, rfl⟩ := ofr h2
      by_cases e : aS A 0 = 10
      · refine act_find hO (c := -1000000002) (i := 1) (by decide) (by omega) (fun X hX => ?_) (fun X hX => ?_)
        · unfold f_Tide_thing f_Shore_isFull
          rw [li 6, c_isBelow (by omega), if_pos h1, bd_s, if_neg (by decide), li 4, c_isBelow (by omega), if_pos h2, bd_s, if_neg (by decide), lt_s1, hX.1.1, e, if_neg (by decide), bd_s, if_neg (by decide), bd2_id]
        · unfold f_Model_thing
          rw [lL 5, m_isIn0 (by omega), if_pos h1, bd_s, if_neg (by decide), m_isFamily, if_pos h2, bd_s, if_neg (by decide), li 0, hX.1.rd (by omega), e, if_pos (by decide), bd2_id]
      · refine ⟨nI (aS A 0), (cm (aS A) k f, A.2), hO.shore (cm_gd hg (by omega) hk hf), fun X hX => ?_, fun X hX => ?_⟩
        · obtain ⟨Y, a1, a2, a3⟩ := c_add (k := k) (f := f) hX.1 (by omega)
          unfold f_Tide_thing f_Shore_isFull
          rw [li 6, c_isBelow (by omega), if_pos h1, bd_s, if_neg (by decide), li 4, c_isBelow (by omega), if_pos h2, bd_s, if_neg (by decide), lt_s1, hX.1.1, li 10, if_pos (by rw [nI_ltI (by omega) (by omega)]; omega), bd_s, if_pos rfl, a1, bd2_s]
          exact ⟨Y, rfl, hX.shore hO a2 (a3.mono (fun q hq => Or.inl (by omega)))⟩
        · obtain ⟨Y, a1, a2, a3⟩ := m_comes (k := k) (f := f) hX.1 (by omega)
          unfold f_Model_thing
          rw [lL 5, m_isIn0 (by omega), if_pos h1, bd_s, if_neg (by decide), m_isFamily, if_pos h2, bd_s, if_neg (by decide), li 0, hX.1.rd (by omega), li 10, if_neg (by rw [nI_eq (by omega) (by omega)]; exact e), a1, bd_s, a2.rd (by omega), cm_0, li 1, pk_sub (by omega), Nat.add_sub_cancel]
          exact ⟨Y, rfl, hX.shore a2 (a3.mono (fun q hq => Or.inl hq))⟩
    · refine act_bey hO (fun X hX => ?_) (fun X hX => ?_)
      · unfold f_Tide_thing f_Tide_thing_j17
        rw [li 6, c_isBelow (by omega), if_pos h1, bd_s, if_neg (by decide), li 4, c_isBelow (by omega), if_neg h2, bd_s, if_pos rfl, bd2_id]
      · unfold f_Model_thing f_Model_thing_j19
        rw [lL 5, m_isIn0 (by omega), if_pos h1, bd_s, if_neg (by decide), m_isFamily, if_neg h2, bd_s, if_pos rfl, bd2_id]
  · refine act_bey hO (fun X hX => ?_) (fun X hX => ?_)
    · unfold f_Tide_thing f_Tide_thing_j17
      rw [li 6, c_isBelow (by omega), if_neg h1, bd_s, if_pos rfl, bd2_id]
    · unfold f_Model_thing f_Model_thing_j19
      rw [lL 5, m_isIn0 (by omega), if_neg h1, bd_s, if_pos rfl, bd2_id]
