def nrw (b : Nat) (v : Int64) : Int64 := if b = 8 then ((v.toInt32).toInt8.toInt32).toInt64 else if b = 16 then ((v.toInt32).toInt16.toInt32).toInt64 else v
theorem c_put {X : Mem} {t b i : Nat} {v : Int64} (h1 : gI X (52 + 2 * t) 1 = nI b) (hb : b < 2 ^ 31) (hi : i < 40) : f_Sheet_put (52 + 2 * t) (nI i) v X = some (sL X (52 + 2 * t + 1) i (nrw b v)) := by
  unfold f_Sheet_put nrw
  simp only [lt_s1]
  rw [h1, li 8, li 16]
  by_cases c : b = 8
  · rw [if_pos (by rw [c]), if_pos c, wrLn hi (by omega)]
  · rw [if_neg (by rw [nI_eq hb (by omega)]; exact c), if_neg c]
    by_cases c2 : b = 16
    · rw [if_pos (by rw [c2]), if_pos c2, wrLn hi (by omega)]
    · rw [if_neg (by rw [nI_eq hb (by omega)]; exact c2), if_neg c2, wrLn hi (by omega)]
theorem m_narrow {b : Nat} {v : Int64} (hb : b < 2 ^ 31) : f_Model_narrow (nI b) v = some (nrw b v) := by
  unfold f_Model_narrow nrw
  rw [li 8, li 16]
  by_cases c : b = 8
  · rw [if_pos (by rw [c]), if_pos c]
  · rw [if_neg (by rw [nI_eq hb (by omega)]; exact c), if_neg c]
    by_cases c2 : b = 16
    · rw [if_pos (by rw [c2]), if_pos c2]
    · rw [if_neg (by rw [nI_eq hb (by omega)]; exact c2), if_neg c2]
theorem op_write {A : Ab} (hO : Ok A) (p1 p2 : Int32) (v : Int64) : ActL (f_Tide_write p1 p2 v) (f_Model_write p1 p2 v) A := by
  by_cases h1 : 0 ≤ p1.toInt ∧ p1.toInt < ((4 : Nat) : Int)
  · obtain ⟨t, ht, rfl⟩ := ofr h1
    obtain ⟨o1, o2, o3⟩ := hO.2.2.2.2 t ht
    by_cases c : (aH A t).1 = 0
    · refine act_findL hO (c := -1000000006) (i := 5) (by decide) (by omega) (fun X hX => ?_) (fun X hX => ?_)
      · unfold f_Tide_write
        rw [li 4, c_isBelow (by omega), if_pos h1, bd_s, if_neg (by decide), rdRn ht (by omega), c_missing hX hO ht, if_pos c, bd_s, if_neg (by decide)]
      · unfold f_Model_write
        rw [m_isSheet, if_pos h1, bd_s, if_neg (by decide), rdn ht (by omega), (hX.2.2.2.2 t ht).1, if_pos c, if_neg (by decide)]
    · by_cases h2 : 0 ≤ p2.toInt ∧ p2.toInt < ((aH A t).2.1 : Int)
      · obtain ⟨i, hi, rfl⟩ := ofr h2
        refine ⟨(aH A t).2.2 i, hs A t ((aH A t).1, (aH A t).2.1, fun j => if j = i then nrw (aH A t).1 v else (aH A t).2.2 j), hO.sheet ⟨o1, o2, o3⟩, fun X hX => ?_, fun X hX => ?_⟩
        · obtain ⟨q1, q2, q3⟩ := hX.2.2.2.2 t ht
          unfold f_Tide_write
          rw [li 4, c_isBelow (by omega), if_pos h1, bd_s, if_neg (by decide), rdRn ht (by omega), c_missing hX hO ht, if_neg c, bd_s, if_pos rfl, lt_s1, q2, c_isBelow (by omega), if_pos h2, bd_s, if_neg (by decide), rdLn (by omega) (by omega), c_put q1 (by omega) (by omega), bd_s, q3 i (by omega)]
          refine ⟨_, rfl, hX.sheet hO ht (Sm.rf.sL (Or.inr rfl)) (by rw [gsIL]; exact q1) (by rw [gsIL]; exact q2) (fun j hj => ?_)⟩
          rw [gsL]
          show _ = if j = i then nrw (aH A t).1 v else (aH A t).2.2 j
          by_cases e : j = i
          · rw [if_pos ⟨rfl, e⟩, if_pos e]
          · rw [if_neg (fun q => e q.2), if_neg e]; exact q3 j hj
        · obtain ⟨q1, q2, q3⟩ := hX.2.2.2.2 t ht
          rw [if_neg c] at q1
          have hm : f_Model_isIn (nI i).toInt64 (0 : Int64) ((nI (aH A t).2.1 - (1 : Int32)).toInt64) = some 1 := by
            rw [li 1, pk_sub (by omega), ilN (w := (aH A t).2.1 - 1) (by omega), m_isIn0 (by omega), if_pos (by rw [nI_toInt (by omega)]; omega)]
            rfl
          unfold f_Model_write
          rw [m_isSheet, if_pos h1, bd_s, if_neg (by decide), rdn ht (by omega), q1, if_pos (by rw [li 0, nI_leI (by omega) (by omega)]; omega), rdn ht (by omega), q2, hm, bd_s, if_neg (by decide), li 40, pk_mul, nI_add, rdLn (by omega) (by omega), q3 i (by omega), rdn ht (by omega), q1, m_narrow (by omega), bd_s, wrLn (by omega) (by omega)]
          refine ⟨_, rfl, hX.sheet ht (Sm.rf.sL (Or.inr (Or.inr rfl))) (fun u hu hne => ⟨rfl, rfl, fun j hj => by rw [gsL, if_neg (by omega)]⟩) (by rw [gsIL, if_neg c]; exact q1) (by rw [gsIL]; exact q2) (fun j hj => ?_)⟩
          rw [gsL]
          show _ = if j = i then nrw (aH A t).1 v else (aH A t).2.2 j
          by_cases e : j = i
          · rw [if_pos ⟨rfl, by omega⟩, if_pos e]
          · rw [if_neg (by omega), if_neg e]; exact q3 j hj
      · refine act_findL hO (c := -1000000001) (i := 0) (by decide) (by omega) (fun X hX => ?_) (fun X hX => ?_)
        · obtain ⟨q1, q2, q3⟩ := hX.2.2.2.2 t ht
          unfold f_Tide_write
          rw [li 4, c_isBelow (by omega), if_pos h1, bd_s, if_neg (by decide), rdRn ht (by omega), c_missing hX hO ht, if_neg c, bd_s, if_pos rfl, lt_s1, q2, c_isBelow (by omega), if_neg h2, bd_s, if_pos rfl]
        · obtain ⟨q1, q2, q3⟩ := hX.2.2.2.2 t ht
          rw [if_neg c] at q1
          have hm : f_Model_isIn p2.toInt64 (0 : Int64) ((nI (aH A t).2.1 - (1 : Int32)).toInt64) = some 0 := by
            by_cases z : (aH A t).2.1 = 0
            · rw [z, m_isInL, show (nI 0 - (1 : Int32)).toInt64.toInt = -1 from by decide, show (0 : Int64).toInt = 0 from by decide, if_neg (by omega)]
            · rw [li 1, pk_sub (by omega), ilN (w := (aH A t).2.1 - 1) (by omega), m_isIn0 (by omega), if_neg (by omega)]
          unfold f_Model_write
          rw [m_isSheet, if_pos h1, bd_s, if_neg (by decide), rdn ht (by omega), q1, if_pos (by rw [li 0, nI_leI (by omega) (by omega)]; omega), rdn ht (by omega), q2, hm, bd_s, if_pos rfl]
  · refine act_findL hO (c := -1000000001) (i := 0) (by decide) (by omega) (fun X hX => ?_) (fun X hX => ?_)
    · unfold f_Tide_write
      rw [li 4, c_isBelow (by omega), if_neg h1, bd_s, if_pos rfl]
    · unfold f_Model_write
      rw [m_isSheet, if_neg h1, bd_s, if_pos rfl]
