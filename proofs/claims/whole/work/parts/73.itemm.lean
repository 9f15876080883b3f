/-! items: the model -/
def M2 (X Y : Mem) : Prop := Sm (fun k => k = 70 ∨ k = 71) X Y ∧ ∀ j, j < 11 → gI Y 70 j = gI X 70 j
theorem M2.rf {X : Mem} : M2 X X := ⟨Sm.rf, fun _ _ => rfl⟩
theorem M2.tr {X Y Z : Mem} (h : M2 X Y) (h2 : M2 Y Z) : M2 X Z := ⟨h.1.tr h2.1, fun j hj => (h2.2 j hj).trans (h.2 j hj)⟩
theorem MF.m2 {X Y : Mem} (h : MF X Y) : M2 X Y := ⟨h.1.mono (fun k q => Or.inl q), h.2⟩
theorem m2_row {X Y : Mem} (h : Sm (fun k => k = 71) X Y) : M2 X Y := ⟨h.mono (fun k q => Or.inr q), fun j _ => (h 70 (by omega)).1 j⟩
theorem TM.m2 {X Y : Mem} {L : Nat} {b : Nat → Nat} (h : TM X L b) (hS : M2 X Y) : TM Y L b := ⟨(hS.2 7 (by omega)).trans h.1, fun i hi => ((hS.1 76 (by omega)).1 i).trans (h.2 i hi)⟩
theorem ML.sm {X Y : Mem} {L p : Nat} {b : Nat → Nat} (h : ML X L b p) (hS : Sm (fun k => k = 71) X Y) : ML Y L b p := ⟨((hS 70 (by omega)).1 11).trans h.1, ((hS 70 (by omega)).1 12).trans h.2.1, ((hS 70 (by omega)).1 13).trans h.2.2.1, ((hS 70 (by omega)).1 14).trans h.2.2.2⟩
theorem ML.s15 {X : Mem} {L p : Nat} {b : Nat → Nat} {v : Int32} (h : ML X L b p) : ML (sI X 70 15 v) L b p := ⟨by rw [gsI, if_neg (by omega)]; exact h.1, by rw [gsI, if_neg (by omega)]; exact h.2.1, by rw [gsI, if_neg (by omega)]; exact h.2.2.1, by rw [gsI, if_neg (by omega)]; exact h.2.2.2⟩
def MI (X : Mem) (L : Nat) (b : Nat → Nat) (s : Nat → Nat) (p : Nat) : Prop := RM X 71 s ∧ TM X L b ∧ ML X L b p
def MR (X Y : Mem) (L : Nat) (b : Nat → Nat) (r : Bool × (Nat → Nat) × Nat) : Prop := TM Y L b ∧ ML Y L b r.2.2 ∧ (r.1 = true → RM Y 71 r.2.1) ∧ (r.1 = false → gI Y 70 15 = nI (tS L b r.2.2)) ∧ M2 X Y
theorem MR.pre {X Y Z : Mem} {L : Nat} {b : Nat → Nat} {r : Bool × (Nat → Nat) × Nat} (hS : M2 X Y) (h : MR Y Z L b r) : MR X Z L b r := ⟨h.1, h.2.1, h.2.2.1, h.2.2.2.1, hS.tr h.2.2.2.2⟩
theorem m_adv {X : Mem} {L p : Nat} {b : Nat → Nat} (hTp : Tp L b) (hp : p ≤ L) (hT : TM X L b) (hM : ML X L b p) : ∃ Y, f_Model_nextToken X = some Y ∧ MF X Y ∧ TM Y L b ∧ ML Y L b (tN L b p) := by
  obtain ⟨Y, y1, y2, y3⟩ := m_next hT hTp.1 hTp.2 (tN_le hp) hM.2.2.1
  exact ⟨Y, y1, y2, hT.mf y2, y3⟩
theorem rm_mf {X Y : Mem} {s : Nat → Nat} (h : RM X 71 s) (hF : MF X Y) : RM Y 71 s := h.sm hF.1 (by omega)
/-- a fault at the token -/
theorem mr_fail {X Y : Mem} {L p : Nat} {b s : Nat → Nat} (hS : M2 X Y) (hT : TM Y L b) (hM : ML Y L b p) : MR X (sI Y 70 15 (nI (tS L b p))) L b (false, s, p) := by
  have w : MF Y (sI Y 70 15 (nI (tS L b p))) := mf_s MF.rf (by omega)
  exact ⟨hT.mf w, hM.s15, fun q => Bool.noConfusion (show false = true from q), fun _ => by rw [gsI, if_pos ⟨rfl, rfl⟩], hS.tr w.m2⟩
theorem m_fails {X : Mem} {L p : Nat} {b : Nat → Nat} (hM : ML X L b p) : f_Model_fails X = some ((0 : Int32), sI X 70 15 (nI (tS L b p))) := by
  unfold f_Model_fails
  rw [lt_s1, hM.2.1, lt_s1]
theorem m_place {X : Mem} {L p t : Nat} {b s : Nat → Nat} (hTp : Tp L b) (hp : p ≤ L) (h : MI X L b s p) (ht : t < 10) : ∃ Y, f_Model_thingHere_j125 (nI t) X = some ((if (pPl L b t s p).1 = true then 1 else 0), Y) ∧ MR X Y L b (pPl L b t s p) := by
  obtain ⟨hR, hT, hM⟩ := h
  unfold f_Model_thingHere_j125
  rw [show f_Model_isTwo (97 : Int32) (116 : Int32) X = some (if wd L b p (wrds.getD 8 []) = true then 1 else 0) from m_two (a1 := 97) (a2 := 116) hT hTp.1 hTp.2 hp hM (by omega) (by omega), bd_s, z10]
  by_cases c : wd L b p (wrds.getD 8 []) = true
  · obtain ⟨X4, a1, a2, a3, a4⟩ := m_adv hTp hp hT hM
    rw [if_pos c, a1, bd_s, show f_Model_isNumber (0 : Int32) (15 : Int32) X4 = _ from m_isNum (mo := 15) a4 (by omega)]
    by_cases d : nu L b (tN L b p) 15 = true
    · have e : pPl L b t s p = (true, up (up s (23 + 6 * t + 2) (tV L b (tN L b p))) (23 + 6 * t + 4) 1, tN L b (tN L b p)) := by unfold pPl; rw [if_pos c, if_pos d]
      obtain ⟨Z2, l1, l2, l3⟩ := m_lies (c := tV L b (tN L b p)) (rm_mf hR a2) (t := t) ht
      obtain ⟨X12, d1, d2, d3, d4⟩ := m_adv hTp (tN_le hp) (a3.m2 (m2_row l3)) (a4.sm l3)
      rw [e, if_pos d, bd2_s, if_neg (by decide), lt_s1, a4.2.2.2, l1, bd_s, d1, bd_s]
      exact ⟨X12, rfl, d3, d4, fun _ => rm_mf l2 d2, fun q => Bool.noConfusion (show true = false from q), (a2.m2.tr (m2_row l3)).tr d2.m2⟩
    · have e : pPl L b t s p = (false, s, tN L b p) := by unfold pPl; rw [if_pos c, if_neg d]
      rw [e, if_neg d, bd2_s, if_pos rfl]
      exact ⟨_, rfl, mr_fail a2.m2 a3 a4⟩
  · have e : pPl L b t s p = (true, s, p) := by unfold pPl; rw [if_neg c]
    rw [e, if_neg c]
    exact ⟨X, rfl, hT, hM, fun _ => hR, fun q => Bool.noConfusion (show true = false from q), M2.rf⟩
theorem m_height {X : Mem} {L p : Nat} {b s : Nat → Nat} (hTp : Tp L b) (hp : p ≤ L) (h : MI X L b s p) : ∃ Y, f_Model_heightHere X = some ((if (pHt L b s p).1 = true then 1 else 0), Y) ∧ MR X Y L b (pHt L b s p) := by
  obtain ⟨hR, hT, hM⟩ := h
  unfold f_Model_heightHere
  obtain ⟨X4, a1, a2, a3, a4⟩ := m_adv hTp hp hT hM
  rw [a1, bd_s, show f_Model_isNumber (0 : Int32) (15 : Int32) X4 = _ from m_isNum (mo := 15) a4 (by omega)]
  by_cases d : nu L b (tN L b p) 15 = true
  · have hv := (of_decide_eq_true d).2
    obtain ⟨X8, d1, d2, d3, d4⟩ := m_adv hTp (tN_le hp) a3 a4
    rw [if_pos d, bd2_s, if_neg (by decide), lt_s1, a4.2.2.2, d1, bd_s, show f_Model_isNumber (0 : Int32) (9 : Int32) X8 = _ from m_isNum (mo := 9) d4 (by omega)]
    by_cases f : nu L b (tN L b (tN L b p)) 9 = true
    · have e : pHt L b s p = (true, up s (3 + tV L b (tN L b p)) (tV L b (tN L b (tN L b p))), tN L b (tN L b (tN L b p))) := by unfold pHt; rw [if_pos d, if_pos f]
      have hS : Sm (fun k => k = 71) X8 (sI X8 71 (3 + tV L b (tN L b p)) (nI (tV L b (tN L b (tN L b p))))) := sm_s1 Sm.rf
      have hR8 : RM (sI X8 71 (3 + tV L b (tN L b p)) (nI (tV L b (tN L b (tN L b p))))) 71 (up s (3 + tV L b (tN L b p)) (tV L b (tN L b (tN L b p)))) := (rm_mf (rm_mf hR a2) d2).put
      obtain ⟨X12, g1, g2, g3, g4⟩ := m_adv hTp (tN_le (tN_le hp)) (d3.m2 (m2_row hS)) (d4.sm hS)
      rw [e, if_pos f, bd2_s, if_neg (by decide), lt_s1, d4.2.2.2, li 3, nI_add, wrn (by omega) (by omega), g1, bd_s]
      exact ⟨X12, rfl, g3, g4, fun _ => rm_mf hR8 g2, fun q => Bool.noConfusion (show true = false from q), ((a2.m2.tr d2.m2).tr (m2_row hS)).tr g2.m2⟩
    · have e : pHt L b s p = (false, s, tN L b (tN L b p)) := by unfold pHt; rw [if_pos d, if_neg f]
      rw [e, if_neg f, bd2_s, if_pos rfl]
      exact ⟨_, rfl, mr_fail (a2.m2.tr d2.m2) d3 d4⟩
  · have e : pHt L b s p = (false, s, tN L b p) := by unfold pHt; rw [if_neg d]
    rw [e, if_neg d, bd2_s, if_pos rfl]
    exact ⟨_, rfl, mr_fail a2.m2 a3 a4⟩
theorem m_interest {X : Mem} {L p : Nat} {b s : Nat → Nat} (hTp : Tp L b) (hp : p ≤ L) (h : MI X L b s p) : ∃ Y, f_Model_interestHere X = some ((if (pIn L b s p).1 = true then 1 else 0), Y) ∧ MR X Y L b (pIn L b s p) := by
  obtain ⟨hR, hT, hM⟩ := h
  unfold f_Model_interestHere
  obtain ⟨X4, a1, a2, a3, a4⟩ := m_adv hTp hp hT hM
  rw [a1, bd_s, show f_Model_isNumber (0 : Int32) (50 : Int32) X4 = _ from m_isNum (mo := 50) a4 (by omega)]
  by_cases d : nu L b (tN L b p) 50 = true
  · have e : pIn L b s p = (true, up s 2 (tV L b (tN L b p)), tN L b (tN L b p)) := by unfold pIn; rw [if_pos d]
    have hS : Sm (fun k => k = 71) X4 (sI X4 71 2 (nI (tV L b (tN L b p)))) := sm_s1 Sm.rf
    have hR8 : RM (sI X4 71 2 (nI (tV L b (tN L b p)))) 71 (up s 2 (tV L b (tN L b p))) := (rm_mf hR a2).put
    obtain ⟨X12, g1, g2, g3, g4⟩ := m_adv hTp (tN_le hp) (a3.m2 (m2_row hS)) (a4.sm hS)
    rw [e, if_pos d, bd2_s, if_neg (by decide), lt_s1, a4.2.2.2, li 2, wrn (by omega) (by omega), g1, bd_s]
    exact ⟨X12, rfl, g3, g4, fun _ => rm_mf hR8 g2, fun q => Bool.noConfusion (show true = false from q), (a2.m2.tr (m2_row hS)).tr g2.m2⟩
  · have e : pIn L b s p = (false, s, tN L b p) := by unfold pIn; rw [if_neg d]
    rw [e, if_neg d, bd2_s, if_pos rfl]
    exact ⟨_, rfl, mr_fail a2.m2 a3 a4⟩
theorem m_thing {X : Mem} {L p k : Nat} {b s : Nat → Nat} (hTp : Tp L b) (hp : p ≤ L) (h : MI X L b s p) (h0 : s 0 < 10) (hk : k < 6) : ∃ Y, f_Model_thingHere (nI k) X = some ((if (pTh L b k s p).1 = true then 1 else 0), Y) ∧ MR X Y L b (pTh L b k s p) := by
  obtain ⟨hR, hT, hM⟩ := h
  unfold f_Model_thingHere
  obtain ⟨X3, a1, a2, a3, a4⟩ := m_adv hTp hp hT hM
  rw [show ∀ G : Int32 → Option (Int32 × Mem), rdI X 71 83 (0 : Int32) G = G (nI (s 0)) from fun G => hR.rd (j := 0) (by omega), if_neg (show ¬ nI (s 0) = (10 : Int32) by rw [li 10, nI_eq (by omega) (by omega)]; omega), a1, bd_s, show f_Model_isTwo (111 : Int32) (102 : Int32) X3 = some (if wd L b (tN L b p) (wrds.getD 6 []) = true then 1 else 0) from m_two (a1 := 111) (a2 := 102) a3 hTp.1 hTp.2 (tN_le hp) a4 (by omega) (by omega), bd_s, z10]
  by_cases c : wd L b (tN L b p) (wrds.getD 6 []) = true
  · obtain ⟨X7, d1, d2, d3, d4⟩ := m_adv hTp (tN_le hp) a3 a4
    rw [if_pos c, d1, bd_s, show f_Model_isNumber (0 : Int32) (3 : Int32) X7 = _ from m_isNum (mo := 3) d4 (by omega)]
    by_cases f : nu L b (tN L b (tN L b p)) 3 = true
    · obtain ⟨X13, g1, g2, g3⟩ := m_comes (k := k) (f := tV L b (tN L b (tN L b p))) (rm_mf (rm_mf hR a2) d2) h0
      obtain ⟨X17, i1, i2, i3, i4⟩ := m_adv hTp (tN_le (tN_le hp)) (d3.m2 (m2_row g3)) (d4.sm g3)
      have hc0 : cm s k (tV L b (tN L b (tN L b p))) 0 = s 0 + 1 := cm_0
      have hR17 := rm_mf g2 i2
      have hS17 : M2 X X17 := ((a2.m2.tr d2.m2).tr (m2_row g3)).tr i2.m2
      have e : pTh L b k s p = pWo L b (s 0) (cm s k (tV L b (tN L b (tN L b p)))) (tN L b (tN L b (tN L b p))) := by unfold pTh; rw [if_pos c, if_pos f]
      rw [e, if_pos f, bd2_s, if_neg (by decide), lt_s1, d4.2.2.2, g1, bd_s, show ∀ G : Int32 → Option (Int32 × Mem), rdI X13 71 83 (0 : Int32) G = G (nI (s 0 + 1)) from fun G => by rw [← hc0]; exact g2.rd (j := 0) (by omega), show nI (s 0 + 1) - (1 : Int32) = nI (s 0) from by rw [li 1, pk_sub (by omega), Nat.add_sub_cancel], lt_s1, i1, bd_s, show f_Model_isFive (119 : Int32) (111 : Int32) (114 : Int32) (116 : Int32) (104 : Int32) X17 = some (if wd L b (tN L b (tN L b (tN L b p))) (wrds.getD 7 []) = true then 1 else 0) from m_five (a1 := 119) (a2 := 111) (a3 := 114) (a4 := 116) (a5 := 104) i3 hTp.1 hTp.2 (tN_le (tN_le (tN_le hp))) i4 (by omega) (by omega) (by omega) (by omega) (by omega), bd_s, z10]
      generalize hs1 : cm s k (tV L b (tN L b (tN L b p))) = s1 at *
      generalize hp3 : tN L b (tN L b (tN L b p)) = p3 at *
      have hp3L : p3 ≤ L := by rw [← hp3]; exact tN_le (tN_le (tN_le hp))
      unfold pWo
      by_cases w : wd L b p3 (wrds.getD 7 []) = true
      · obtain ⟨X21, j1, j2, j3, j4⟩ := m_adv hTp hp3L i3 i4
        rw [if_pos w, j1, bd_s, show f_Model_isNumber (0 : Int32) (9999 : Int32) X21 = _ from m_isNum (mo := 9999) j4 (by omega)]
        by_cases z : nu L b (tN L b p3) 9999 = true
        · have e2 : pW1 L b (s 0) s1 p3 = (true, up s1 (23 + 6 * s 0 + 3) (tV L b (tN L b p3)), tN L b (tN L b p3)) := by unfold pW1; rw [if_pos w, if_pos z]
          have hS : Sm (fun k => k = 71) X21 (sI X21 71 (23 + 6 * s 0 + 3) (nI (tV L b (tN L b p3)))) := sm_s1 Sm.rf
          have hR21 : RM (sI X21 71 (23 + 6 * s 0 + 3) (nI (tV L b (tN L b p3)))) 71 (up s1 (23 + 6 * s 0 + 3) (tV L b (tN L b p3))) := (rm_mf hR17 j2).put
          obtain ⟨X30, l1, l2, l3, l4⟩ := m_adv hTp (tN_le hp3L) (j3.m2 (m2_row hS)) (j4.sm hS)
          obtain ⟨Y, y1, y2⟩ := m_place (t := s 0) hTp (tN_le (tN_le hp3L)) ⟨rm_mf hR21 l2, l3, l4⟩ h0
          rw [if_pos z, bd2_s, if_neg (by decide), li 3, m_at, bd_s, lt_s1, j4.2.2.2, wrn (by omega) (by omega), l1, bd_s, y1, e2]
          exact ⟨Y, rfl, MR.pre (((hS17.tr j2.m2).tr (m2_row hS)).tr l2.m2) y2⟩
        · have e2 : pW1 L b (s 0) s1 p3 = (false, s1, tN L b p3) := by unfold pW1; rw [if_pos w, if_neg z]
          rw [if_neg z, bd2_s, if_pos rfl, e2]
          exact ⟨_, rfl, mr_fail (hS17.tr j2.m2) j3 j4⟩
      · have e2 : pW1 L b (s 0) s1 p3 = (true, s1, p3) := by unfold pW1; rw [if_neg w]
        obtain ⟨Y, y1, y2⟩ := m_place (t := s 0) hTp hp3L ⟨hR17, i3, i4⟩ h0
        rw [if_neg w, y1, e2]
        exact ⟨Y, rfl, MR.pre hS17 y2⟩
    · have e : pTh L b k s p = (false, s, tN L b (tN L b p)) := by unfold pTh; rw [if_pos c, if_neg f]
      rw [e, if_neg f, bd2_s, if_pos rfl]
      exact ⟨_, rfl, mr_fail (a2.m2.tr d2.m2) d3 d4⟩
  · have e : pTh L b k s p = (false, s, tN L b p) := by unfold pTh; rw [if_neg c]
    rw [e, if_neg c, m_fails a4, bd2_s]
    unfold ckZ
    rw [if_pos (Or.inl rfl)]
    exact ⟨_, rfl, mr_fail a2.m2 a3 a4⟩
theorem m_item {X : Mem} {L p : Nat} {b s : Nat → Nat} (hTp : Tp L b) (hp : p ≤ L) (h : MI X L b s p) (h0 : s 0 ≤ 10) : ∃ Y, f_Model_itemHere X = some ((if (pIt L b s p).1 = true then 1 else 0), Y) ∧ MR X Y L b (pIt L b s p) := by
  obtain ⟨hR, hT, hM⟩ := h
  unfold f_Model_itemHere
  rw [m_kind hT hTp.1 hTp.2 hp hM, bd_s]
  have hfl : f_Model_itemHere_j97 X = some ((0 : Int32), sI X 70 15 (nI (tS L b p))) := by
    unfold f_Model_itemHere_j97
    rw [m_fails hM, bd2_s]
    unfold ckZ
    rw [if_pos (Or.inl rfl)]
  by_cases c : kn L b p < 6
  · rw [if_pos c, if_neg (show ¬ nI (kn L b p) < 0 by rw [li 0, nI_ltI (by omega) (by omega)]; omega)]
    by_cases d : s 0 < 10
    · obtain ⟨Y, y1, y2⟩ := m_thing hTp hp ⟨hR, hT, hM⟩ d c
      have e : pIt L b s p = pTh L b (kn L b p) s p := by unfold pIt; rw [if_pos c, if_pos d]
      rw [y1, bd2_s, ckZ_1, e]
      exact ⟨Y, rfl, y2⟩
    · have e : pIt L b s p = (false, s, p) := by unfold pIt; rw [if_pos c, if_neg d]
      have hfull : f_Model_thingHere (nI (kn L b p)) X = some ((0 : Int32), sI X 70 15 (nI (tS L b p))) := by
        unfold f_Model_thingHere
        rw [show ∀ G : Int32 → Option (Int32 × Mem), rdI X 71 83 (0 : Int32) G = G (nI (s 0)) from fun G => hR.rd (j := 0) (by omega), if_pos (show nI (s 0) = (10 : Int32) by rw [li 10, nI_eq (by omega) (by omega)]; omega), m_fails hM, bd2_s]
        unfold ckZ
        rw [if_pos (Or.inl rfl)]
      rw [hfull, bd2_s, e]
      unfold ckZ
      rw [if_pos (Or.inl rfl)]
      exact ⟨_, rfl, mr_fail M2.rf hT hM⟩
  · have e8 := m_eight (J := f_Model_itemHere_j97 X) (K := bd2 (f_Model_interestHere X) fun v13 X15 => ckZ v13 (some (v13, X15))) (a1 := 105) (a2 := 110) (a3 := 116) (a4 := 101) (a5 := 114) (a6 := 101) (a7 := 115) (a8 := 116) hT hTp.1 hTp.2 hp hM (by omega) (by omega) (by omega) (by omega) (by omega) (by omega) (by omega) (by omega)
    have e8' : (bd (f_Model_isWord (8 : Int32) X) fun v5 => if v5 = 0 then (f_Model_itemHere_j97 X) else (bd (f_Model_has3 (0 : Int32) (105 : Int32) (110 : Int32) (116 : Int32) X) fun v7 => if v7 = 0 then (f_Model_itemHere_j97 X) else (bd (f_Model_has3 (3 : Int32) (101 : Int32) (114 : Int32) (101 : Int32) X) fun v9 => if v9 = 0 then (f_Model_itemHere_j97 X) else (bd (f_Model_has3 (5 : Int32) (101 : Int32) (115 : Int32) (116 : Int32) X) fun v11 => if v11 = 0 then (f_Model_itemHere_j97 X) else (bd2 (f_Model_interestHere X) fun v13 X15 => ckZ v13 (some (v13, X15))))))) = if wd L b p (wrds.getD 10 []) = true then (bd2 (f_Model_interestHere X) fun v13 X15 => ckZ v13 (some (v13, X15))) else f_Model_itemHere_j97 X := e8
    rw [if_neg c, if_pos (by decide), show f_Model_isSix (104 : Int32) (101 : Int32) (105 : Int32) (103 : Int32) (104 : Int32) (116 : Int32) X = some (if wd L b p (wrds.getD 9 []) = true then 1 else 0) from m_six (a1 := 104) (a2 := 101) (a3 := 105) (a4 := 103) (a5 := 104) (a6 := 116) hT hTp.1 hTp.2 hp hM (by omega) (by omega) (by omega) (by omega) (by omega) (by omega), bd_s, z10, e8']
    by_cases d : wd L b p (wrds.getD 9 []) = true
    · obtain ⟨Y, y1, y2⟩ := m_height hTp hp ⟨hR, hT, hM⟩
      have e : pIt L b s p = pHt L b s p := by unfold pIt; rw [if_neg c, if_pos d]
      rw [if_pos d, y1, bd2_s, ckZ_1, e]
      exact ⟨Y, rfl, y2⟩
    · rw [if_neg d]
      by_cases f : wd L b p (wrds.getD 10 []) = true
      · obtain ⟨Y, y1, y2⟩ := m_interest hTp hp ⟨hR, hT, hM⟩
        have e : pIt L b s p = pIn L b s p := by unfold pIt; rw [if_neg c, if_neg d, if_pos f]
        rw [if_pos f, y1, bd2_s, ckZ_1, e]
        exact ⟨Y, rfl, y2⟩
      · have e : pIt L b s p = (false, s, p) := by unfold pIt; rw [if_neg c, if_neg d, if_neg f]
        rw [if_neg f, hfl, e]
        exact ⟨_, rfl, mr_fail M2.rf hT hM⟩
