theorem op_cell {A : Ab} (hO : Ok A) (p1 p2 : Int32) : Act (f_Tide_cell p1 p2) (f_Model_cell p1 p2) A := by
  have hg := hO.1
  by_cases h1 : 0 ≤ p1.toInt ∧ p1.toInt < ((16 : Nat) : Int)
  · by_cases h2 : 0 ≤ p2.toInt ∧ p2.toInt < ((1 + 1 : Nat) : Int)
    · obtain ⟨c, hc, rfl⟩ := ofr h1
      by_cases e : p2 = 0
      · refine act_say hO (nI (aS A (3 + c))) (fun X hX => ?_) (fun X hX => ?_)
        · unfold f_Tide_cell
          rw [li 16, c_isBelow (by omega), if_pos h1, bd_s, if_neg (by decide), li 2, c_isBelow (by omega), if_pos h2, bd_s, if_neg (by decide), if_pos e, rdn hc (by omega), hX.1.2.2.2.1 c hc]
        · unfold f_Model_cell
          rw [m_isCell, if_pos h1, bd_s, if_neg (by decide), lL 1, m_isIn0 (by omega), if_pos h2, bd_s, if_neg (by decide), if_pos e, li 3, nI_add, hX.1.rd (by omega)]
      · refine act_say hO (fs (laidg (aS A) c) (aS A 0)) (fun X hX => ?_) (fun X hX => ?_)
        · unfold f_Tide_cell
          rw [li 16, c_isBelow (by omega), if_pos h1, bd_s, if_neg (by decide), li 2, c_isBelow (by omega), if_pos h2, bd_s, if_neg (by decide), if_neg e, c_laidAt hX.1 hg hc, bd_s]
        · unfold f_Model_cell
          rw [m_isCell, if_pos h1, bd_s, if_neg (by decide), lL 1, m_isIn0 (by omega), if_pos h2, bd_s, if_neg (by decide), if_neg e, m_laidAt hX.1 hg hc, bd_s]
    · refine act_bey hO (fun X hX => ?_) (fun X hX => ?_)
      · unfold f_Tide_cell f_Tide_cell_j17
        rw [li 16, c_isBelow (by omega), if_pos h1, bd_s, if_neg (by decide), li 2, c_isBelow (by omega), if_neg h2, bd_s, if_pos rfl, bd2_id]
      · unfold f_Model_cell f_Model_cell_j17
        rw [m_isCell, if_pos h1, bd_s, if_neg (by decide), lL 1, m_isIn0 (by omega), if_neg h2, bd_s, if_pos rfl, bd2_id]
  · refine act_bey hO (fun X hX => ?_) (fun X hX => ?_)
    · unfold f_Tide_cell f_Tide_cell_j17
      rw [li 16, c_isBelow (by omega), if_neg h1, bd_s, if_pos rfl, bd2_id]
    · unfold f_Model_cell f_Model_cell_j17
      rw [m_isCell, if_neg h1, bd_s, if_pos rfl, bd2_id]
theorem op_lay {A : Ab} (hO : Ok A) (p1 p2 : Int32) : Act (f_Tide_lay p1 p2) (f_Model_lay p1 p2) A := by
  have hg := hO.1
  have h0 := hg.1
  by_cases h1 : 0 ≤ p1.toInt ∧ p1.toInt < (aS A 0 : Int)
  · by_cases h2 : 0 ≤ p2.toInt ∧ p2.toInt < ((16 : Nat) : Int)
    · obtain ⟨t, ht, rfl⟩ := ofr h1
      obtain ⟨c, hc, rfl⟩ := ofr h2
      obtain ⟨g0, g1, g2, g3, g4, g5⟩ := hg.2.2.2.2.2 t ht
      by_cases e : aS A (23 + 6 * t + 4) = 2
      · refine act_find hO (c := -1000000005) (i := 4) (by decide) (by omega) (fun X hX => ?_) (fun X hX => ?_)
        · unfold f_Tide_lay
          rw [c_has hX.1 h0, if_pos h1, bd_s, if_neg (by decide), li 16, c_isBelow (by omega), if_pos h2, bd_s, if_neg (by decide), rdRn (by omega) (by omega), lt_s1, hX.1.th ht (by omega), if_pos (by rw [e]; rfl), bd2_id]
        · unfold f_Model_lay
          rw [m_isThing hX.1 h0, if_pos h1, bd_s, if_neg (by decide), m_isCell, if_pos h2, bd_s, if_neg (by decide), li 2, m_isIt hX.1 (by omega) (by omega) (by omega), bd_s, if_pos e, if_neg (by decide), bd2_id]
      · have hg1 : Gd 99999 (up (aS A) (23 + 6 * t + 2) c) := hg.put (by omega) (by omega) (by omega) (fun _ _ _ => by omega) (fun _ _ _ => by omega) (fun _ _ _ _ _ => by omega)
        have hg2 : Gd 99999 (up (up (aS A) (23 + 6 * t + 2) c) (23 + 6 * t + 4) 1) := hg1.put (by omega) (by omega) (by omega) (fun _ _ _ => by omega) (fun _ _ _ => by omega) (fun _ _ _ _ _ => by omega)
        refine ⟨nI (pc (bs (laidg (up (up (aS A) (23 + 6 * t + 2) c) (23 + 6 * t + 4) 1) c) ((up (up (aS A) (23 + 6 * t + 2) c) (23 + 6 * t + 4) 1) 0))), (up (up (aS A) (23 + 6 * t + 2) c) (23 + 6 * t + 4) 1, A.2), hO.shore hg2, fun X hX => ?_, fun X hX => ?_⟩
        · have hR : RC (sI (sI X ((2 + 3) + 1 + t) 2 (nI c)) ((2 + 3) + 1 + t) 4 (nI 1)) 2 (up (up (aS A) (23 + 6 * t + 2) c) (23 + 6 * t + 4) 1) := (hX.1.putT (by omega)).putT (by omega)
          unfold f_Tide_lay f_Thing_layAt
          simp only [lt_s1]
          rw [c_has hX.1 h0, if_pos h1, bd_s, if_neg (by decide), li 16, c_isBelow (by omega), if_pos h2, bd_s, if_neg (by decide), rdRn (by omega) (by omega), hX.1.th ht (by omega), li 2, if_neg (by rw [nI_eq (by omega) (by omega)]; exact e), bd_s, li 1, c_laidAt hR hg2 hc, bd_s, c_count hg2.1, bd_s]
          exact ⟨_, rfl, hX.shore hO hR ((sm_c (by omega)).sI (Or.inl (by omega)))⟩
        · have hR : RM (sI (sI X 71 (23 + 6 * t + 2) (nI c)) 71 (23 + 6 * t + 4) (nI 1)) 71 (up (up (aS A) (23 + 6 * t + 2) c) (23 + 6 * t + 4) 1) := (hX.1.put).put
          unfold f_Model_lay f_Model_lies
          rw [m_isThing hX.1 h0, if_pos h1, bd_s, if_neg (by decide), m_isCell, if_pos h2, bd_s, if_neg (by decide), li 2, m_isIt hX.1 (by omega) (by omega) (by omega), bd_s, if_neg e, if_pos rfl, m_at, bd_s, wrn (by omega) (by omega), li 4, m_at, bd_s, wrn (by omega) (by omega), bd_s, li 1, m_laidAt hR hg2 hc, bd_s, m_count hg2.1, bd_s]
          exact ⟨_, rfl, hX.shore hR (sm_m.sI (Or.inl rfl))⟩
    · refine act_bey hO (fun X hX => ?_) (fun X hX => ?_)
      · unfold f_Tide_lay f_Tide_lay_j20
        rw [c_has hX.1 h0, if_pos h1, bd_s, if_neg (by decide), li 16, c_isBelow (by omega), if_neg h2, bd_s, if_pos rfl, bd2_id]
      · unfold f_Model_lay f_Model_lay_j15
        rw [m_isThing hX.1 h0, if_pos h1, bd_s, if_neg (by decide), m_isCell, if_neg h2, bd_s, if_pos rfl, bd2_id]
  · refine act_bey hO (fun X hX => ?_) (fun X hX => ?_)
    · unfold f_Tide_lay f_Tide_lay_j20
      rw [c_has hX.1 h0, if_neg h1, bd_s, if_pos rfl, bd2_id]
    · unfold f_Model_lay f_Model_lay_j15
      rw [m_isThing hX.1 h0, if_neg h1, bd_s, if_pos rfl, bd2_id]
theorem op_tide {A : Ab} (hO : Ok A) (p1 p2 : Int32) : Act (f_Tide_tide p1 p2) (f_Model_tide p1 p2) A := by
  have hg := hO.1
  by_cases h1 : 0 ≤ p1.toInt ∧ p1.toInt < ((99999 + 1 : Nat) : Int)
  · obtain ⟨d, hd, rfl⟩ := ofr h1
    by_cases h2 : 0 ≤ p2.toInt ∧ p2.toInt < ((3 + 1 : Nat) : Int)
    · obtain ⟨w, hw, rfl⟩ := ofr h2
      rcases (show w = 0 ∨ w = 1 ∨ w = 2 ∨ w = 3 by omega) with rfl | rfl | rfl | rfl
      · refine act_say hO (nI (mk d)) (fun X hX => ?_) (fun X hX => ?_)
        · unfold f_Tide_tide
          rw [li 99999, c_isUpTo0 (by omega), if_pos h1, bd_s, if_neg (by decide), if_pos rfl, c_mark (by omega), bd_s]
        · unfold f_Model_tide
          rw [lL 99999, m_isIn0 (by omega), if_pos h1, bd_s, if_neg (by decide), lL 3, m_isIn0 (by omega), if_pos h2, bd_s, if_neg (by decide), if_neg (by decide), if_pos rfl, m_mark (by omega), bd_s]
      · refine act_say hO (nI (d % 28)) (fun X hX => ?_) (fun X hX => ?_)
        · unfold f_Tide_tide
          rw [li 99999, c_isUpTo0 (by omega), if_pos h1, bd_s, if_neg (by decide), if_neg (by decide), if_pos rfl, c_moon (by omega), bd_s]
        · unfold f_Model_tide
          rw [lL 99999, m_isIn0 (by omega), if_pos h1, bd_s, if_neg (by decide), lL 3, m_isIn0 (by omega), if_pos h2, bd_s, if_neg (by decide), if_neg (by decide), if_neg (by decide), if_pos rfl, li 28, remn (by omega) (by omega) (by omega)]
      · have e : ∀ X : Mem, (bd (some (if d % 14 = 0 then (1 : Int32) else 0)) fun v7 => if v7 = 0 then (some ((0 : Int32), X)) else (some ((1 : Int32), X))) = some ((if d % 14 = 0 then (1 : Int32) else 0), X) := fun X => by
          rw [bd_s]
          by_cases q : d % 14 = 0
          · rw [if_pos q, if_neg (by decide)]
          · rw [if_neg q, if_pos rfl]
        refine act_say hO (if d % 14 = 0 then (1 : Int32) else 0) (fun X hX => ?_) (fun X hX => ?_)
        · unfold f_Tide_tide
          rw [li 99999, c_isUpTo0 (by omega), if_pos h1, bd_s, if_neg (by decide), if_neg (by decide), if_neg (by decide), if_pos rfl, c_spring (by omega), e X]
        · unfold f_Model_tide
          rw [lL 99999, m_isIn0 (by omega), if_pos h1, bd_s, if_neg (by decide), lL 3, m_isIn0 (by omega), if_pos h2, bd_s, if_neg (by decide), if_neg (by decide), if_neg (by decide), if_neg (by decide), m_spring (by omega), e X]
      · have := @mk_le d
        refine act_say hO (fm (blw (aS A) (mk d)) 16) (fun X hX => ?_) (fun X hX => ?_)
        · unfold f_Tide_tide
          rw [li 99999, c_isUpTo0 (by omega), if_pos h1, bd_s, if_neg (by decide), if_neg (by decide), if_neg (by decide), if_neg (by decide), if_pos rfl, c_mark (by omega), bd_s, c_cellsBelow hX.1 hg (by omega), bd_s]
        · unfold f_Model_tide
          rw [lL 99999, m_isIn0 (by omega), if_pos h1, bd_s, if_neg (by decide), lL 3, m_isIn0 (by omega), if_pos h2, bd_s, if_neg (by decide), if_pos (by decide), m_tide3 hX.1 hg (by omega)]
    · have e0 : p2 ≠ 0 := fun q => h2 (by subst q; decide)
      have e1 : p2 ≠ 1 := fun q => h2 (by subst q; decide)
      have e2 : p2 ≠ 2 := fun q => h2 (by subst q; decide)
      have e3 : p2 ≠ 3 := fun q => h2 (by subst q; decide)
      refine act_bey hO (fun X hX => ?_) (fun X hX => ?_)
      · unfold f_Tide_tide
        rw [li 99999, c_isUpTo0 (by omega), if_pos h1, bd_s, if_neg (by decide), if_neg e0, if_neg e1, if_neg e2, if_neg e3, bd2_id]
      · unfold f_Model_tide f_Model_tide_j24
        rw [lL 99999, m_isIn0 (by omega), if_pos h1, bd_s, if_neg (by decide), lL 3, m_isIn0 (by omega), if_neg h2, bd_s, if_pos rfl, bd2_id]
  · refine act_bey hO (fun X hX => ?_) (fun X hX => ?_)
    · unfold f_Tide_tide
      rw [li 99999, c_isUpTo0 (by omega), if_neg h1, bd_s, if_pos rfl, bd2_id]
    · unfold f_Model_tide f_Model_tide_j24
      rw [lL 99999, m_isIn0 (by omega), if_neg h1, bd_s, if_pos rfl, bd2_id]
theorem op_of {A : Ab} (hO : Ok A) (p1 p2 : Int32) : Act (f_Tide_of p1 p2) (f_Model_of p1 p2) A := by
  have hg := hO.1
  have h0 := hg.1
  by_cases h1 : 0 ≤ p1.toInt ∧ p1.toInt < (aS A 0 : Int)
  · obtain ⟨t, ht, rfl⟩ := ofr h1
    obtain ⟨g0, g1, g2, g3, g4, g5⟩ := hg.2.2.2.2.2 t ht
    by_cases h2 : 0 ≤ p2.toInt ∧ p2.toInt < ((7 + 1 : Nat) : Int)
    · obtain ⟨w, hw, rfl⟩ := ofr h2
      have hc : ∀ X, IC A X → ∀ j, j < 6 → f_Tide_of (nI t) (nI j) X = some (nI (aS A (23 + 6 * t + j)), X) := fun X hX j hj => by
        unfold f_Tide_of
        simp only [lt_s1]
        rw [c_has hX.1 h0, if_pos h1, bd_s, if_neg (by decide), rdRn (by omega) (by omega)]
        rcases (show j = 0 ∨ j = 1 ∨ j = 2 ∨ j = 3 ∨ j = 4 ∨ j = 5 by omega) with rfl | rfl | rfl | rfl | rfl | rfl
        · rw [if_pos rfl, hX.1.th ht (by omega)]
        · rw [if_neg (by decide), if_pos rfl, hX.1.th ht (by omega)]
        · rw [if_neg (by decide), if_neg (by decide), if_pos rfl, hX.1.th ht (by omega)]
        · rw [if_neg (by decide), if_neg (by decide), if_neg (by decide), if_pos rfl, hX.1.th ht (by omega)]
        · rw [if_neg (by decide), if_neg (by decide), if_neg (by decide), if_neg (by decide), if_pos rfl, hX.1.th ht (by omega)]
        · rw [if_neg (by decide), if_neg (by decide), if_neg (by decide), if_neg (by decide), if_neg (by decide), if_pos rfl, hX.1.th ht (by omega)]
      by_cases h6 : w < 6
      · refine act_say hO (nI (aS A (23 + 6 * t + w))) (fun X hX => hc X hX w h6) (fun X hX => ?_)
        unfold f_Model_of
        rw [m_isThing hX.1 h0, if_pos h1, bd_s, if_neg (by decide), lL 7, m_isIn0 (by omega), if_pos h2, bd_s, if_neg (by decide), li 6, if_neg (by rw [nI_leI (by omega) (by omega)]; omega), m_its hX.1 (by omega) h6, bd_s]
      · rcases (show w = 6 ∨ w = 7 by omega) with rfl | rfl
        · refine act_say hO (nI (tm (aS A (23 + 6 * t)))) (fun X hX => ?_) (fun X hX => ?_)
          · unfold f_Tide_of
            simp only [lt_s1]
            rw [c_has hX.1 h0, if_pos h1, bd_s, if_neg (by decide), rdRn (by omega) (by omega), if_neg (by decide), if_neg (by decide), if_neg (by decide), if_neg (by decide), if_neg (by decide), if_neg (by decide), if_pos rfl, hX.1.th0 ht, c_term g0, bd_s]
          · unfold f_Model_of
            rw [m_isThing hX.1 h0, if_pos h1, bd_s, if_neg (by decide), lL 7, m_isIn0 (by omega), if_pos h2, bd_s, if_neg (by decide), if_pos (by decide), if_pos rfl, li 0, m_its hX.1 (by omega) (by omega), bd_s]
            exact (congrArg (fun o => bd o fun v9 => some (v9, X)) (m_term g0))
        · refine act_say hO (nI (owe (aS A) t)) (fun X hX => ?_) (fun X hX => ?_)
          · unfold f_Tide_of
            simp only [lt_s1]
            rw [c_has hX.1 h0, if_pos h1, bd_s, if_neg (by decide), rdRn (by omega) (by omega), if_neg (by decide), if_neg (by decide), if_neg (by decide), if_neg (by decide), if_neg (by decide), if_neg (by decide), if_neg (by decide), if_pos rfl, c_owed hX.1 hg (by omega) ht, bd_s]
          · unfold f_Model_of
            rw [m_isThing hX.1 h0, if_pos h1, bd_s, if_neg (by decide), lL 7, m_isIn0 (by omega), if_pos h2, bd_s, if_neg (by decide), if_pos (by decide), if_neg (by decide), m_would hX.1 hg (by omega) ht, bd_s]
    · have e0 : p2 ≠ 0 := fun q => h2 (by subst q; decide)
      have e1 : p2 ≠ 1 := fun q => h2 (by subst q; decide)
      have e2 : p2 ≠ 2 := fun q => h2 (by subst q; decide)
      have e3 : p2 ≠ 3 := fun q => h2 (by subst q; decide)
      have e4 : p2 ≠ 4 := fun q => h2 (by subst q; decide)
      have e5 : p2 ≠ 5 := fun q => h2 (by subst q; decide)
      have e6 : p2 ≠ 6 := fun q => h2 (by subst q; decide)
      have e7 : p2 ≠ 7 := fun q => h2 (by subst q; decide)
      refine act_bey hO (fun X hX => ?_) (fun X hX => ?_)
      · unfold f_Tide_of
        rw [c_has hX.1 h0, if_pos h1, bd_s, if_neg (by decide), rdRn (by omega) (by omega), if_neg e0, if_neg e1, if_neg e2, if_neg e3, if_neg e4, if_neg e5, if_neg e6, if_neg e7, bd2_id]
      · unfold f_Model_of f_Model_of_j20
        rw [m_isThing hX.1 h0, if_pos h1, bd_s, if_neg (by decide), lL 7, m_isIn0 (by omega), if_neg h2, bd_s, if_pos rfl, bd2_id]
  · refine act_bey hO (fun X hX => ?_) (fun X hX => ?_)
    · unfold f_Tide_of
      rw [c_has hX.1 h0, if_neg h1, bd_s, if_pos rfl, bd2_id]
    · unfold f_Model_of f_Model_of_j20
      rw [m_isThing hX.1 h0, if_neg h1, bd_s, if_pos rfl, bd2_id]
