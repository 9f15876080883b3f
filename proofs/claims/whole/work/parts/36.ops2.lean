theorem RC.th0 {X : Mem} {s : Nat → Nat} (h : RC X 2 s) {t : Nat} (ht : t < s 0) : gI X ((2 + 3) + 1 + t) 0 = nI (s (23 + 6 * t)) := h.2.2.2.2.2 t ht 0 (by omega)
theorem op_set {A : Ab} (hO : Ok A) (p1 p2 p3 : Int32) : Act (f_Tide_set p1 p2 p3) (f_Model_set p1 p2 p3) A := by
  have hg := hO.1
  have h0 := hg.1
  by_cases h1 : 0 ≤ p1.toInt ∧ p1.toInt < (aS A 0 : Int)
  · obtain ⟨t, ht, rfl⟩ := ofr h1
    by_cases e1 : p2 = 1
    · subst e1
      by_cases h2 : 0 ≤ p3.toInt ∧ p3.toInt < ((4 : Nat) : Int)
      · obtain ⟨v, hv, rfl⟩ := ofr h2
        refine ⟨nI (aS A (23 + 6 * t + 1)), (up (aS A) (23 + 6 * t + 1) v, A.2), hO.shore (hg.put (by omega) (by omega) (by omega) (fun _ _ _ => by omega) (fun _ _ _ => by omega) (fun _ _ _ _ _ => by omega)), fun X hX => ?_, fun X hX => ?_⟩
        · unfold f_Tide_set
          rw [c_has hX.1 h0, if_pos h1, bd_s, if_neg (by decide), rdRn (by omega) (by omega), if_pos rfl, li 4, c_isBelow (by omega), if_pos h2, bd_s, if_neg (by decide), lt_s1, lt_s1, hX.1.th ht (by omega)]
          exact ⟨_, rfl, hX.shore hO (hX.1.putT (by omega)) (sm_c (by omega))⟩
        · unfold f_Model_set f_Model_set_j37 f_Model_set_j42
          rw [m_isThing hX.1 h0, if_pos h1, bd_s, if_neg (by decide), if_pos rfl, m_isFamily, if_pos h2, bd_s, if_neg (by decide), if_neg (by decide), li 1, m_at, bd_s, m_becomes hX.1 (by omega), bd2_s]
          exact ⟨_, rfl, hX.shore hX.1.put sm_m⟩
      · refine act_find hO (c := -1000000001) (i := 0) (by decide) (by omega) (fun X hX => ?_) (fun X hX => ?_)
        · unfold f_Tide_set f_Tide_set_j58 f_Tide_set_j90
          rw [c_has hX.1 h0, if_pos h1, bd_s, if_neg (by decide), rdRn (by omega) (by omega), if_pos rfl, li 4, c_isBelow (by omega), if_neg h2, bd_s, if_pos rfl, if_neg (by decide), bd2_id]
        · unfold f_Model_set f_Model_set_j20 f_Model_set_j41 f_Model_set_j42
          rw [m_isThing hX.1 h0, if_pos h1, bd_s, if_neg (by decide), if_pos rfl, m_isFamily, if_neg h2, bd_s, if_pos rfl, if_neg (by decide), if_pos rfl, bd2_id]
    · by_cases e3 : p2 = 3
      · subst e3
        by_cases h2 : 0 ≤ p3.toInt ∧ p3.toInt < ((9999 + 1 : Nat) : Int)
        · obtain ⟨v, hv, rfl⟩ := ofr h2
          refine ⟨nI (aS A (23 + 6 * t + 3)), (up (aS A) (23 + 6 * t + 3) v, A.2), hO.shore (hg.put (by omega) (by omega) (by omega) (fun _ _ _ => by omega) (fun _ _ _ => by omega) (fun _ _ _ _ _ => by omega)), fun X hX => ?_, fun X hX => ?_⟩
          · unfold f_Tide_set f_Tide_set_j58
            rw [c_has hX.1 h0, if_pos h1, bd_s, if_neg (by decide), rdRn (by omega) (by omega), if_neg (by decide), if_pos rfl, li 9999, c_isUpTo0 (by omega), if_pos h2, bd_s, if_neg (by decide), lt_s1, lt_s1, hX.1.th ht (by omega)]
            exact ⟨_, rfl, hX.shore hO (hX.1.putT (by omega)) (sm_c (by omega))⟩
          · unfold f_Model_set f_Model_set_j20 f_Model_set_j37 f_Model_set_j42
            rw [m_isThing hX.1 h0, if_pos h1, bd_s, if_neg (by decide), if_neg (by decide), if_pos rfl, lL 9999, m_isIn0 (by omega), if_pos h2, bd_s, if_neg (by decide), if_neg (by decide), li 3, m_at, bd_s, m_becomes hX.1 (by omega), bd2_s]
            exact ⟨_, rfl, hX.shore hX.1.put sm_m⟩
        · refine act_find hO (c := -1000000001) (i := 0) (by decide) (by omega) (fun X hX => ?_) (fun X hX => ?_)
          · unfold f_Tide_set f_Tide_set_j58 f_Tide_set_j90
            rw [c_has hX.1 h0, if_pos h1, bd_s, if_neg (by decide), rdRn (by omega) (by omega), if_neg (by decide), if_pos rfl, li 9999, c_isUpTo0 (by omega), if_neg h2, bd_s, if_pos rfl, bd2_id]
          · unfold f_Model_set f_Model_set_j20 f_Model_set_j41 f_Model_set_j42
            rw [m_isThing hX.1 h0, if_pos h1, bd_s, if_neg (by decide), if_neg (by decide), if_pos rfl, lL 9999, m_isIn0 (by omega), if_neg h2, bd_s, if_pos rfl, if_pos rfl, bd2_id]
      · refine act_find hO (c := -1000000001) (i := 0) (by decide) (by omega) (fun X hX => ?_) (fun X hX => ?_)
        · unfold f_Tide_set f_Tide_set_j58 f_Tide_set_j90
          rw [c_has hX.1 h0, if_pos h1, bd_s, if_neg (by decide), rdRn (by omega) (by omega), if_neg e1, if_neg e3, bd2_id]
        · unfold f_Model_set f_Model_set_j20 f_Model_set_j41 f_Model_set_j42
          rw [m_isThing hX.1 h0, if_pos h1, bd_s, if_neg (by decide), if_neg e1, if_neg e3, if_pos rfl, bd2_id]
  · refine act_find hO (c := -1000000001) (i := 0) (by decide) (by omega) (fun X hX => ?_) (fun X hX => ?_)
    · unfold f_Tide_set
      rw [c_has hX.1 h0, if_neg h1, bd_s, if_pos rfl, bd2_id]
    · unfold f_Model_set f_Model_set_j41 f_Model_set_j42
      rw [m_isThing hX.1 h0, if_neg h1, bd_s, if_pos rfl, if_pos rfl, bd2_id]
/-! kinds -/
def und (k q : Nat) : Bool := decide (q = 0) || decide (k = q) || (decide (q = 1) && decide (k = 4)) || (decide (q = 2) && decide (k = 5))
theorem c_isUnder : ∀ k, k < 6 → ∀ q, q < 6 → f_Tide_isUnder (nI k) (nI q) = some (if und k q = true then 1 else 0) := by decide +kernel
def asE (x2 x3 : Int32) : Int32 := if x2 = 0 then 1 else if x3 = x2 then 1 else if x2 = 1 then (if x3 = 4 then 1 else if x2 = 2 then (if x3 = 5 then 1 else 0) else 0) else if x2 = 2 then (if x3 = 5 then 1 else 0) else 0
theorem asE_all : ∀ k, k < 6 → ∀ q, q < 6 → asE (nI q) (nI k) = if und k q = true then 1 else 0 := by decide +kernel
theorem op_as {A : Ab} (hO : Ok A) (p1 p2 : Int32) : Act (f_Tide_as p1 p2) (f_Model_as p1 p2) A := by
  have hg := hO.1
  have h0 := hg.1
  by_cases h1 : 0 ≤ p1.toInt ∧ p1.toInt < (aS A 0 : Int)
  · by_cases h2 : 0 ≤ p2.toInt ∧ p2.toInt < ((6 : Nat) : Int)
    · obtain ⟨t, ht, rfl⟩ := ofr h1
      obtain ⟨v, hv, rfl⟩ := ofr h2
      obtain ⟨g0, g1, g2, g3, g4, g5⟩ := hg.2.2.2.2.2 t ht
      have hm : ∀ X, IM A X → f_Model_as (nI t) (nI v) X = f_Model_as_j68 (nI t) (if und (aS A (23 + 6 * t)) v = true then 1 else 0) X := fun X hX => by
        rw [← asE_all _ g0 v hv]
        unfold f_Model_as f_Model_as_j63 f_Model_as_j53 f_Model_as_j67 asE
        rw [m_isThing hX.1 h0, if_pos h1, bd_s, if_neg (by decide), lL 5, m_isIn0 (by omega), if_pos h2, bd_s, if_neg (by decide), li 0, m_its hX.1 (by omega) (by omega), bd_s]
        show _ = f_Model_as_j68 (nI t) (if nI v = nI 0 then 1 else if nI (aS A (23 + 6 * t + 0)) = nI v then 1 else if nI v = 1 then (if nI (aS A (23 + 6 * t + 0)) = 4 then 1 else if nI v = 2 then (if nI (aS A (23 + 6 * t + 0)) = 5 then 1 else 0) else 0) else if nI v = 2 then (if nI (aS A (23 + 6 * t + 0)) = 5 then 1 else 0) else 0) X
        repeat' split
        all_goals rfl
      by_cases hu : und (aS A (23 + 6 * t)) v = true
      · refine act_tell hO (r := nI (aS A (23 + 6 * t + 3))) (fun X hX => ?_) (fun X hX => ?_)
        · unfold f_Tide_as
          rw [c_has hX.1 h0, if_pos h1, bd_s, if_neg (by decide), li 6, c_isBelow (by omega), if_pos h2, bd_s, if_neg (by decide), rdRn (by omega) (by omega), lt_s1, hX.1.th0 ht, c_isUnder _ g0 v hv, if_pos hu, bd_s, if_neg (by decide), lt_s1, hX.1.th ht (by omega)]
          exact ⟨_, rfl, Sm.rf⟩
        · rw [hm X hX, if_pos hu]
          unfold f_Model_as_j68
          rw [if_neg (by decide), li 3, m_its hX.1 (by omega) (by omega), bd_s]
          exact ⟨_, rfl, hX, Sm.rf⟩
      · refine act_find hO (c := -1000000003) (i := 2) (by decide) (by omega) (fun X hX => ?_) (fun X hX => ?_)
        · unfold f_Tide_as
          rw [c_has hX.1 h0, if_pos h1, bd_s, if_neg (by decide), li 6, c_isBelow (by omega), if_pos h2, bd_s, if_neg (by decide), rdRn (by omega) (by omega), lt_s1, hX.1.th0 ht, c_isUnder _ g0 v hv, if_neg hu, bd_s, if_pos rfl, bd2_id]
        · rw [hm X hX, if_neg hu]
          unfold f_Model_as_j68
          rw [if_pos rfl, bd2_id]
    · refine act_find hO (c := -1000000001) (i := 0) (by decide) (by omega) (fun X hX => ?_) (fun X hX => ?_)
      · unfold f_Tide_as f_Tide_as_j20
        rw [c_has hX.1 h0, if_pos h1, bd_s, if_neg (by decide), li 6, c_isBelow (by omega), if_neg h2, bd_s, if_pos rfl, bd2_id]
      · unfold f_Model_as f_Model_as_j20
        rw [m_isThing hX.1 h0, if_pos h1, bd_s, if_neg (by decide), lL 5, m_isIn0 (by omega), if_neg h2, bd_s, if_pos rfl, bd2_id]
  · refine act_find hO (c := -1000000001) (i := 0) (by decide) (by omega) (fun X hX => ?_) (fun X hX => ?_)
    · unfold f_Tide_as f_Tide_as_j20
      rw [c_has hX.1 h0, if_neg h1, bd_s, if_pos rfl, bd2_id]
    · unfold f_Model_as f_Model_as_j20
      rw [m_isThing hX.1 h0, if_neg h1, bd_s, if_pos rfl, bd2_id]
