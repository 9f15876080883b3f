theorem c_isUpTo0 {p : Int32} {b : Nat} (hb : b < 2 ^ 31) : f_Tide_isUpTo p 0 (nI b) = some (if 0 ≤ p.toInt ∧ p.toInt < ((b + 1 : Nat) : Int) then 1 else 0) := by
  have h := c_isUpTo (p := p) (a := 0) (b := b) (by omega) hb
  have e : f_Tide_isUpTo p 0 (nI b) = f_Tide_isUpTo p (nI 0) (nI b) := rfl
  rw [e, h]
  congr 1
  by_cases hc : 0 ≤ p.toInt ∧ p.toInt < ((b + 1 : Nat) : Int)
  · rw [if_pos hc, if_pos (by omega)]
  · rw [if_neg hc, if_neg (by omega)]
theorem m_isIn0 {p : Int32} {b : Nat} (hb : b < 2 ^ 31) : f_Model_isIn p.toInt64 0 (lN b) = some (if 0 ≤ p.toInt ∧ p.toInt < ((b + 1 : Nat) : Int) then 1 else 0) := by
  have h := m_isIn (p := p) (a := 0) (b := b) (by omega) hb
  have e : f_Model_isIn p.toInt64 0 (lN b) = f_Model_isIn p.toInt64 (lN 0) (lN b) := rfl
  rw [e, h]
  congr 1
  by_cases hc : 0 ≤ p.toInt ∧ p.toInt < ((b + 1 : Nat) : Int)
  · rw [if_pos hc, if_pos (by omega)]
  · rw [if_neg hc, if_neg (by omega)]
theorem m_isIn1 {p : Int32} {b : Nat} (hb : b < 2 ^ 31) : f_Model_isIn p.toInt64 1 (lN b) = some (if (1 : Int) ≤ p.toInt ∧ p.toInt ≤ (b : Int) then 1 else 0) := m_isIn (p := p) (a := 1) (b := b) (by omega) hb
theorem c_isUpTo1 {p : Int32} {b : Nat} (hb : b < 2 ^ 31) : f_Tide_isUpTo p 1 (nI b) = some (if (1 : Int) ≤ p.toInt ∧ p.toInt ≤ (b : Int) then 1 else 0) := c_isUpTo (p := p) (a := 1) (b := b) (by omega) hb
theorem c_has {X : Mem} {s : Nat → Nat} (h : RC X 2 s) (hs : s 0 ≤ 10) {p : Int32} : f_Shore_has 2 p X = some (if 0 ≤ p.toInt ∧ p.toInt < (s 0 : Int) then 1 else 0) := by
  unfold f_Shore_has
  rw [lt_s1, h.1, c_isBelow (by omega), bd_s]
  unfold ckZ
  rw [if_pos]
  by_cases hc : 0 ≤ p.toInt ∧ p.toInt < (s 0 : Int)
  · rw [if_pos hc]; exact Or.inr rfl
  · rw [if_neg hc]; exact Or.inl rfl
theorem m_isThing {X : Mem} {s : Nat → Nat} (h : RM X 71 s) (hs : s 0 ≤ 10) {p : Int32} : f_Model_isThing p X = some (if 0 ≤ p.toInt ∧ p.toInt < (s 0 : Int) then 1 else 0) := by
  have e := c_isBelow (p := p) (n := s 0) (by omega)
  unfold f_Tide_isBelow at e
  unfold f_Model_isThing
  have e2 : ∀ G : Int32 → Option Int32, rdI X 71 83 (0 : Int32) G = G (nI (s 0)) := fun G => by
    have := rdn (X := X) (k := 71) (n := 83) (j := 0) (G := G) (by omega) (by omega)
    rw [h 0 (by omega)] at this
    exact this
  rw [e2]
  exact e
theorem Gd.put {D : Nat} {s : Nat → Nat} (h : Gd D s) {j v : Nat} (h0 : j = 0 → v ≤ 10 ∧ v ≤ s 0) (h1 : j = 1 → s 1 ≤ v ∧ v ≤ D) (h2 : j = 2 → v ≤ 50) (h3 : ∀ c, c < 16 → j = 3 + c → v ≤ 9) (h4 : ∀ f, f < 4 → j = 19 + f → v ≤ 999999999) (h5 : ∀ t i, t < s 0 → i < 6 → j = 23 + 6 * t + i → (i = 0 → v < 6) ∧ (i = 1 → v < 4) ∧ (i = 2 → v < 16) ∧ (i = 3 → v ≤ 9999) ∧ (i = 4 → v ≤ 2) ∧ (i = 5 → v ≤ s 1)) : Gd D (up s j v) := by
  obtain ⟨a0, a1, a2, a3, a4, a5⟩ := h
  have hs0 : up s j v 0 ≤ s 0 := by
    unfold up; split
    · rename_i e; exact (h0 e.symm).2
    · exact Nat.le_refl _
  have hs1 : s 1 ≤ up s j v 1 := by
    unfold up; split
    · rename_i e; exact (h1 e.symm).1
    · exact Nat.le_refl _
  refine ⟨Nat.le_trans hs0 a0, ?_, ?_, fun c hc => ?_, fun f hf => ?_, fun t ht => ?_⟩
  · unfold up; split
    · rename_i e; exact (h1 e.symm).2
    · exact a1
  · unfold up; split
    · rename_i e; exact h2 e.symm
    · exact a2
  · unfold up; split
    · rename_i e; exact h3 c hc e.symm
    · exact a3 c hc
  · unfold up; split
    · rename_i e; exact h4 f hf e.symm
    · exact a4 f hf
  · have hts : t < s 0 := Nat.lt_of_lt_of_le ht hs0
    obtain ⟨g0, g1, g2, g3, g4, g5⟩ := a5 t hts
    refine ⟨?_, ?_, ?_, ?_, ?_, Nat.le_trans ?_ hs1⟩
    · unfold up; split
      · rename_i e; exact (h5 t 0 hts (by omega) e.symm).1 rfl
      · exact g0
    · unfold up; split
      · rename_i e; exact (h5 t 1 hts (by omega) e.symm).2.1 rfl
      · exact g1
    · unfold up; split
      · rename_i e; exact (h5 t 2 hts (by omega) e.symm).2.2.1 rfl
      · exact g2
    · unfold up; split
      · rename_i e; exact (h5 t 3 hts (by omega) e.symm).2.2.2.1 rfl
      · exact g3
    · unfold up; split
      · rename_i e; exact (h5 t 4 hts (by omega) e.symm).2.2.2.2.1 rfl
      · exact g4
    · unfold up; split
      · rename_i e; exact (h5 t 5 hts (by omega) e.symm).2.2.2.2.2 rfl
      · exact g5
theorem Ok.shore {A : Ab} {s : Nat → Nat} (h : Ok A) (hs : Gd 99999 s) : Ok (s, A.2) := ⟨hs, h.2⟩
theorem sm_c {X : Mem} {k j : Nat} {v : Int32} (hk : 2 ≤ k ∧ k < 16) : Sm (fun k => (2 ≤ k ∧ k < 16) ∨ scN k) X (sI X k j v) := Sm.rf.sI (Or.inl hk)
theorem sm_m {X : Mem} {j : Nat} {v : Int32} : Sm (fun k => k = 71 ∨ k = 73 ∨ k = 74) X (sI X 71 j v) := Sm.rf.sI (Or.inl rfl)
theorem op_height {A : Ab} (hO : Ok A) (p1 p2 : Int32) : Act (f_Tide_height p1 p2) (f_Model_height p1 p2) A := by
  have hg := hO.1
  by_cases h1 : 0 ≤ p1.toInt ∧ p1.toInt < ((16 : Nat) : Int)
  · by_cases h2 : 0 ≤ p2.toInt ∧ p2.toInt < ((10 : Nat) : Int)
    · obtain ⟨c, hc, rfl⟩ := ofr h1
      obtain ⟨v, hv, rfl⟩ := ofr h2
      refine ⟨nI (aS A (3 + c)), (up (aS A) (3 + c) v, A.2), hO.shore (hg.put (by omega) (by omega) (by omega) (fun _ _ _ => by omega) (fun _ _ _ => by omega) (fun _ _ _ _ _ => by omega)), fun X hX => ?_, fun X hX => ?_⟩
      · unfold f_Tide_height
        rw [li 16, c_isBelow (by omega), if_pos h1, bd_s, if_neg (by decide), li 10, c_isBelow (by omega), if_pos h2, bd_s, if_neg (by decide), rdn hc (by omega), wrn hc (by omega), hX.1.2.2.2.1 c hc]
        exact ⟨_, rfl, hX.shore hO (hX.1.putH hc) (sm_c (by omega))⟩
      · unfold f_Model_height
        rw [m_isCell, if_pos h1, bd_s, if_neg (by decide), lL 9, m_isIn0 (by omega), if_pos h2, bd_s, if_neg (by decide), li 3, nI_add, m_becomes hX.1 (by omega), bd2_s]
        exact ⟨_, rfl, hX.shore hX.1.put sm_m⟩
    · refine act_find hO (c := -1000000001) (i := 0) (by decide) (by omega) (fun X hX => ?_) (fun X hX => ?_)
      · unfold f_Tide_height f_Tide_height_j18
        rw [li 16, c_isBelow (by omega), if_pos h1, bd_s, if_neg (by decide), li 10, c_isBelow (by omega), if_neg h2, bd_s, if_pos rfl, bd2_id]
      · unfold f_Model_height f_Model_height_j30
        rw [m_isCell, if_pos h1, bd_s, if_neg (by decide), lL 9, m_isIn0 (by omega), if_neg h2, bd_s, if_pos rfl, bd2_id]
  · refine act_find hO (c := -1000000001) (i := 0) (by decide) (by omega) (fun X hX => ?_) (fun X hX => ?_)
    · unfold f_Tide_height f_Tide_height_j18
      rw [li 16, c_isBelow (by omega), if_neg h1, bd_s, if_pos rfl, bd2_id]
    · unfold f_Model_height f_Model_height_j30
      rw [m_isCell, if_neg h1, bd_s, if_pos rfl, bd2_id]
theorem op_interest {A : Ab} (hO : Ok A) (p1 : Int32) : Act (f_Tide_interest p1) (f_Model_interest p1) A := by
  have hg := hO.1
  by_cases h1 : 0 ≤ p1.toInt ∧ p1.toInt < ((50 + 1 : Nat) : Int)
  · obtain ⟨v, hv, rfl⟩ := ofr h1
    refine ⟨nI (aS A 2), (up (aS A) 2 v, A.2), hO.shore (hg.put (by omega) (by omega) (by omega) (fun _ _ _ => by omega) (fun _ _ _ => by omega) (fun _ _ _ _ _ => by omega)), fun X hX => ?_, fun X hX => ?_⟩
    · unfold f_Tide_interest
      rw [li 50, c_isUpTo0 (by omega), if_pos h1, bd_s, if_neg (by decide), lt_s1, lt_s1, hX.1.2.2.1]
      exact ⟨_, rfl, hX.shore hO hX.1.putR (sm_c (by omega))⟩
    · unfold f_Model_interest
      rw [lL 50, m_isIn0 (by omega), if_pos h1, bd_s, if_neg (by decide), li 2, m_becomes hX.1 (by omega), bd2_s]
      exact ⟨_, rfl, hX.shore hX.1.put sm_m⟩
  · refine act_find hO (c := -1000000001) (i := 0) (by decide) (by omega) (fun X hX => ?_) (fun X hX => ?_)
    · unfold f_Tide_interest
      rw [li 50, c_isUpTo0 (by omega), if_neg h1, bd_s, if_pos rfl, bd2_id]
    · unfold f_Model_interest
      rw [lL 50, m_isIn0 (by omega), if_neg h1, bd_s, if_pos rfl, bd2_id]
theorem op_purse {A : Ab} (hO : Ok A) (p1 p2 : Int32) : Act (f_Tide_purse p1 p2) (f_Model_purse p1 p2) A := by
  have hg := hO.1
  by_cases h1 : 0 ≤ p1.toInt ∧ p1.toInt < ((4 : Nat) : Int)
  · by_cases h2 : 0 ≤ p2.toInt ∧ p2.toInt < ((999999999 + 1 : Nat) : Int)
    · obtain ⟨c, hc, rfl⟩ := ofr h1
      obtain ⟨v, hv, rfl⟩ := ofr h2
      refine ⟨nI (aS A (19 + c)), (up (aS A) (19 + c) v, A.2), hO.shore (hg.put (by omega) (by omega) (by omega) (fun _ _ _ => by omega) (fun _ _ _ => by omega) (fun _ _ _ _ _ => by omega)), fun X hX => ?_, fun X hX => ?_⟩
      · unfold f_Tide_purse
        rw [li 4, c_isBelow (by omega), if_pos h1, bd_s, if_neg (by decide), li 999999999, c_isUpTo0 (by omega), if_pos h2, bd_s, if_neg (by decide), rdn hc (by omega), wrn hc (by omega), hX.1.2.2.2.2.1 c hc]
        exact ⟨_, rfl, hX.shore hO (hX.1.putP hc) (sm_c (by omega))⟩
      · unfold f_Model_purse
        rw [m_isFamily, if_pos h1, bd_s, if_neg (by decide), lL 999999999, m_isIn0 (by omega), if_pos h2, bd_s, if_neg (by decide), li 19, nI_add, m_becomes hX.1 (by omega), bd2_s]
        exact ⟨_, rfl, hX.shore hX.1.put sm_m⟩
    · refine act_find hO (c := -1000000001) (i := 0) (by decide) (by omega) (fun X hX => ?_) (fun X hX => ?_)
      · unfold f_Tide_purse f_Tide_purse_j18
        rw [li 4, c_isBelow (by omega), if_pos h1, bd_s, if_neg (by decide), li 999999999, c_isUpTo0 (by omega), if_neg h2, bd_s, if_pos rfl, bd2_id]
      · unfold f_Model_purse f_Model_purse_j31
        rw [m_isFamily, if_pos h1, bd_s, if_neg (by decide), lL 999999999, m_isIn0 (by omega), if_neg h2, bd_s, if_pos rfl, bd2_id]
  · refine act_find hO (c := -1000000001) (i := 0) (by decide) (by omega) (fun X hX => ?_) (fun X hX => ?_)
    · unfold f_Tide_purse f_Tide_purse_j18
      rw [li 4, c_isBelow (by omega), if_neg h1, bd_s, if_pos rfl, bd2_id]
    · unfold f_Model_purse f_Model_purse_j31
      rw [m_isFamily, if_neg h1, bd_s, if_pos rfl, bd2_id]
theorem op_turn {A : Ab} (hO : Ok A) (p1 p2 : Int32) : Act (f_Tide_turn p1 p2) (f_Model_turn p1 p2) A := by
  have hg := hO.1
  have h0 := hg.1
  by_cases h1 : 0 ≤ p1.toInt ∧ p1.toInt < (aS A 0 : Int)
  · by_cases h2 : 0 ≤ p2.toInt ∧ p2.toInt < ((6 : Nat) : Int)
    · obtain ⟨t, ht, rfl⟩ := ofr h1
      obtain ⟨v, hv, rfl⟩ := ofr h2
      refine ⟨nI (aS A (23 + 6 * t + 0)), (up (aS A) (23 + 6 * t + 0) v, A.2), hO.shore (hg.put (by omega) (by omega) (by omega) (fun _ _ _ => by omega) (fun _ _ _ => by omega) (fun _ _ _ _ _ => by omega)), fun X hX => ?_, fun X hX => ?_⟩
      · unfold f_Tide_turn
        rw [c_has hX.1 h0, if_pos h1, bd_s, if_neg (by decide), li 6, c_isBelow (by omega), if_pos h2, bd_s, if_neg (by decide), rdRn (by omega) (by omega), lt_s1, lt_s1, hX.1.th ht (by omega)]
        exact ⟨_, rfl, hX.shore hO (hX.1.putT (by omega)) (sm_c (by omega))⟩
      · unfold f_Model_turn
        rw [m_isThing hX.1 h0, if_pos h1, bd_s, if_neg (by decide), lL 5, m_isIn0 (by omega), if_pos h2, bd_s, if_neg (by decide), li 0, m_at, bd_s, m_becomes hX.1 (by omega), bd2_s]
        exact ⟨_, rfl, hX.shore hX.1.put sm_m⟩
    · refine act_find hO (c := -1000000001) (i := 0) (by decide) (by omega) (fun X hX => ?_) (fun X hX => ?_)
      · unfold f_Tide_turn f_Tide_turn_j20
        rw [c_has hX.1 h0, if_pos h1, bd_s, if_neg (by decide), li 6, c_isBelow (by omega), if_neg h2, bd_s, if_pos rfl, bd2_id]
      · unfold f_Model_turn f_Model_turn_j33
        rw [m_isThing hX.1 h0, if_pos h1, bd_s, if_neg (by decide), lL 5, m_isIn0 (by omega), if_neg h2, bd_s, if_pos rfl, bd2_id]
  · refine act_find hO (c := -1000000001) (i := 0) (by decide) (by omega) (fun X hX => ?_) (fun X hX => ?_)
    · unfold f_Tide_turn f_Tide_turn_j20
      rw [c_has hX.1 h0, if_neg h1, bd_s, if_pos rfl, bd2_id]
    · unfold f_Model_turn f_Model_turn_j33
      rw [m_isThing hX.1 h0, if_neg h1, bd_s, if_pos rfl, bd2_id]
theorem c1_eq {v w : Nat} (hv : v < 2 ^ 31) (hw : w < 2 ^ 31) (h : v = w) : nI v = nI w := by rw [h]
theorem op_fetch {A : Ab} (hO : Ok A) (p1 : Int32) : Act (f_Tide_fetch p1) (f_Model_fetch p1) A := by
  have hg := hO.1
  have h0 := hg.1
  by_cases h1 : 0 ≤ p1.toInt ∧ p1.toInt < (aS A 0 : Int)
  · obtain ⟨t, ht, rfl⟩ := ofr h1
    obtain ⟨g0, g1, g2, g3, g4, g5⟩ := hg.2.2.2.2.2 t ht
    by_cases h2 : aS A (23 + 6 * t + 4) = 1
    · refine ⟨nI (aS A (23 + 6 * t + 2)), (up (aS A) (23 + 6 * t + 4) 0, A.2), hO.shore (hg.put (by omega) (by omega) (by omega) (fun _ _ _ => by omega) (fun _ _ _ => by omega) (fun _ _ _ _ _ => by omega)), fun X hX => ?_, fun X hX => ?_⟩
      · unfold f_Tide_fetch
        rw [c_has hX.1 h0, if_pos h1, bd_s, if_neg (by decide), rdRn (by omega) (by omega), lt_s1, hX.1.th ht (by omega), if_pos (by rw [h2]; rfl), lt_s1, lt_s1, gsI, if_neg (fun q => absurd q.2 (by omega)), hX.1.th ht (by omega)]
        exact ⟨_, rfl, hX.shore hO (hX.1.putT (v := 0) (by omega)) (sm_c (by omega))⟩
      · unfold f_Model_fetch
        have hR : RM (sI X 71 (23 + 6 * t + 4) 0) 71 (up (aS A) (23 + 6 * t + 4) 0) := hX.1.put (v := 0)
        rw [m_isThing hX.1 h0, if_pos h1, bd_s, if_neg (by decide), li 1, m_isIt hX.1 (by omega) (by omega) (by omega), if_pos h2, bd_s, if_neg (by decide), li 4, m_at, bd_s, wrn (by omega) (by omega), li 2, m_its hR (by omega) (by omega), bd_s, up_n (by omega)]
        exact ⟨_, rfl, hX.shore hR sm_m⟩
    · refine act_find hO (c := -1000000005) (i := 4) (by decide) (by omega) (fun X hX => ?_) (fun X hX => ?_)
      · unfold f_Tide_fetch
        rw [c_has hX.1 h0, if_pos h1, bd_s, if_neg (by decide), rdRn (by omega) (by omega), lt_s1, hX.1.th ht (by omega), li 1, if_neg (by rw [nI_eq (by omega) (by omega)]; exact h2), bd2_id]
      · unfold f_Model_fetch
        rw [m_isThing hX.1 h0, if_pos h1, bd_s, if_neg (by decide), li 1, m_isIt hX.1 (by omega) (by omega) (by omega), if_neg h2, bd_s, if_pos rfl, bd2_id]
  · refine act_find hO (c := -1000000001) (i := 0) (by decide) (by omega) (fun X hX => ?_) (fun X hX => ?_)
    · unfold f_Tide_fetch
      rw [c_has hX.1 h0, if_neg h1, bd_s, if_pos rfl, bd2_id]
    · unfold f_Model_fetch
      rw [m_isThing hX.1 h0, if_neg h1, bd_s, if_pos rfl, bd2_id]
