/-! the class's tides -/
theorem c_spring {d : Nat} (hd : d < 2 ^ 31) : f_Tide_isSpring (nI d) = some (if d % 14 = 0 then 1 else 0) := by
  unfold f_Tide_isSpring
  rw [li 14, remn hd (by omega) (by omega)]
  by_cases h : d % 14 = 0
  · rw [if_pos (by rw [h]; rfl), if_pos h]
  · rw [if_neg (fun e => h (by rw [show (0 : Int32) = nI 0 from rfl, nI_eq (by omega) (by omega)] at e; exact e)), if_neg h]
theorem c_mark_all : ∀ r, r < 14 → (if nI 14 - nI r ≤ nI r then nI 9 - (nI 14 - nI r) else nI 9 - nI r) = nI (if 7 ≤ r then r - 5 else 9 - r) := by decide +kernel
theorem c_mark {d : Nat} (hd : d < 2 ^ 31) : f_Tide_markOf (nI d) = some (nI (mk d)) := by
  unfold f_Tide_markOf f_Tide_markOf_j21
  have e := c_mark_all (d % 14) (by omega)
  unfold mk
  rw [← e, li 14, remn hd (by omega) (by omega)]
  simp only [lt_s1]
  rw [li 9]
  split <;> rfl
theorem c_moon {d : Nat} (hd : d < 2 ^ 31) : f_Tide_moonOf (nI d) = some (nI (d % 28)) := by
  unfold f_Tide_moonOf
  rw [li 28, remn hd (by omega) (by omega)]
theorem c_term {k : Nat} (hk : k < 6) : f_Tide_termOf_2 (nI k) = some (nI (tm k)) := by
  have : ∀ k, k < 6 → f_Tide_termOf_2 (nI k) = some (nI (tm k)) := by decide +kernel
  exact this k hk
theorem c_brought {k P s : Nat} (hk : k < 6) (hP : P < 2 ^ 60) (hs : s < 2 ^ 31) : f_Tide_broughtAs_2 (nI k) (lN P) (nI s) = some (lN (rpk k P s)) := by
  rcases (show k = 0 ∨ k = 1 ∨ k = 2 ∨ k = 3 ∨ k = 4 ∨ k = 5 by omega) with rfl | rfl | rfl | rfl | rfl | rfl
  · rfl
  · show some (lN P + 5) = _
    rw [lL 5, lN_add]
    rfl
  · show some (lN P / 2) = _
    rw [lL 2, pk_lDiv (by omega) (by omega) (by omega)]
    rfl
  · show (bd (f_Tide_moonOf (nI s)) fun v5 => if v5 = (14 : Int32) then (some (0 : Int64)) else (bd (f_Tide_broughtAs_1 (0 : Int32) (lN P) (nI s)) fun v7 => some v7)) = some (lN (if s % 28 = 14 then 0 else P))
    rw [c_moon hs, bd_s, li 14]
    by_cases hc : s % 28 = 14
    · rw [if_pos (by rw [hc]), if_pos hc]
      rfl
    · rw [if_neg (by rw [nI_eq (by omega) (by omega)]; exact hc), if_neg hc]
      rfl
  · show some ((2 : Int64) * (lN P + 5)) = _
    rw [lL 5, lL 2, lN_add, lNl]
    rfl
  · show some (lN P / 2 + 3) = _
    rw [lL 2, lL 3, pk_lDiv (by omega) (by omega) (by omega), lN_add]
    rfl
theorem rpk_le {k P s : Nat} : rpk k P s ≤ 2 * (P + 5) := by
  unfold rpk
  repeat' split
  all_goals omega
theorem c_repaid {X : Mem} {n k w r s d : Nat} (h0 : gI X n 0 = nI k) (h3 : gI X n 3 = nI w) (hk : k < 6) (hw : w ≤ 9999) (hr : r ≤ 50) (hs : s < 2 ^ 31) (hd : d ≤ 1000000) : f_Tide_repaid n (nI r) (nI s) (nI d) X = some (nI (rp k w r s d)) := by
  have hp := pl_le hw hr hd
  have hp1 : w * r * d < 2 ^ 62 := by
    have a1 : w * r ≤ 9999 * 50 := Nat.mul_le_mul hw hr
    have a2 : w * r * d ≤ 9999 * 50 * 1000000 := Nat.mul_le_mul a1 hd
    omega
  have hq := @rpk_le k (pl w r d) s
  unfold f_Tide_repaid
  simp only [lt_s1]
  rw [h0, h3, ilN (by omega), ilN (by omega), ilN (by omega), lNl, lNl, lL 100, pk_lDiv (by omega) (by omega) (by omega), lN_add]
  rw [show w + w * r * d / 100 = pl w r d from rfl, c_brought hk (by omega) hs, bd_s, lL 99999999]
  unfold rp
  by_cases h : rpk k (pl w r d) s < 99999999
  · rw [if_pos (by rw [pk_lLT (by omega) (by omega)]; exact h), lN_i, Nat.min_eq_right (by omega)]
  · rw [if_neg (by rw [pk_lLT (by omega) (by omega)]; exact h), lN_i, Nat.min_eq_left (by omega)]
def owe (s : Nat → Nat) (t : Nat) : Nat := if s (23 + 6 * t + 4) = 2 then rp (s (23 + 6 * t)) (s (23 + 6 * t + 3)) (s 2) (s (23 + 6 * t + 5)) (s 1 - s (23 + 6 * t + 5)) else 0
theorem c_owed {D : Nat} {X : Mem} {s : Nat → Nat} (h : RC X 2 s) (hg : Gd D s) (hD : D ≤ 1000000) {t : Nat} (ht : t < s 0) : f_Tide_owedNow ((2 + 3) + 1 + t) X = some (nI (owe s t)) := by
  obtain ⟨h0, h1, h2, h3, h4, h5⟩ := hg
  obtain ⟨g0, g1, g2, g3, g4, g5⟩ := h5 t ht
  unfold f_Tide_owedNow owe
  simp only [lt_s1]
  rw [h.th ht (by omega)]
  by_cases e : s (23 + 6 * t + 4) = 2
  · rw [if_pos (by rw [e]; rfl), if_pos e, h.2.2.1, h.2.1, h.th ht (by omega), pk_sub (by omega), c_repaid (h.th0 ht) (h.th ht (by omega)) g0 g3 h2 (by omega) (by omega), bd_s]
  · rw [li 2, if_neg (by rw [nI_eq (by omega) (by omega)]; exact e), if_neg e]
    rfl
theorem m_would {D : Nat} {X : Mem} {s : Nat → Nat} (h : RM X 71 s) (hg : Gd D s) (hD : D ≤ 1000000) {t : Nat} (ht : t < s 0) : f_Model_wouldRepay (nI t) X = some (nI (owe s t)) := by
  have hg2 := hg
  obtain ⟨h0, h1, h2, h3, h4, h5⟩ := hg
  obtain ⟨g0, g1, g2, g3, g4, g5⟩ := h5 t ht
  unfold f_Model_wouldRepay owe
  rw [li 2, m_isIt h (by omega) (by omega) (by omega), bd_s]
  by_cases e : s (23 + 6 * t + 4) = 2
  · rw [if_pos e, if_neg (by decide), if_pos e, li 1, h.rd (by omega), li 5, m_its h (by omega) (by omega), bd_s, pk_sub (by omega), m_repays h hg2 hD ht (by omega), bd_s]
  · rw [if_neg e, if_pos rfl, if_neg e]
    rfl
theorem c_allOwed {D : Nat} {X : Mem} {s : Nat → Nat} (h : RC X 2 s) (hg : Gd D s) (hD : D ≤ 1000000) : f_Tide_allOwedNow X = some (fm (fun t => nI (owe s t)) (s 0)) := by
  have h0 := hg.1
  refine it_for (fun i => (fm (fun t => nI (owe s t)) i, nI i)) (s 0) _ (by omega) (fun i hi => ?_) ?_
  · unfold f_Tide_allOwedNow_b4
    simp only [lt_s1]
    rw [h.1, if_neg (by rw [nI_leI (by omega) (by omega)]; omega), rdRn (by omega) (by omega), c_owed h hg hD hi, bd_s, li 1, nI_add]
    rfl
  · unfold f_Tide_allOwedNow_b4
    simp only [lt_s1]
    rw [h.1, if_pos (by rw [nI_leI (by omega) (by omega)]; omega)]
theorem m_now4 {D : Nat} {X : Mem} {s : Nat → Nat} (h : RM X 71 s) (hg : Gd D s) (hD : D ≤ 1000000) : it (fun a => f_Model_now_b63 X a.1 a.2) FU ((0 : Int32), (0 : Int32)) = some (fm (fun t => nI (owe s t)) (s 0), X) := by
  have h0 := hg.1
  refine it_for (fun i => (fm (fun t => nI (owe s t)) i, nI i)) (s 0) _ (by omega) (fun i hi => ?_) ?_
  · unfold f_Model_now_b63
    simp only [lt_s1]
    rw [li 0, h.rd (by omega), if_neg (by rw [nI_leI (by omega) (by omega)]; omega), m_would h hg hD hi, bd_s, li 1, nI_add]
    rfl
  · unfold f_Model_now_b63
    rw [li 0, h.rd (by omega), if_pos (by rw [nI_leI (by omega) (by omega)]; omega)]
/-! acts that tell -/
theorem act_say {A : Ab} (hO : Ok A) {f g : Mem → Option (Int32 × Mem)} (r : Int32) (hf : ∀ X, IC A X → f X = some (r, X)) (hg : ∀ X, IM A X → g X = some (r, X)) : Act f g A :=
  act_tell hO (r := r) (fun X hX => ⟨X, hf X hX, Sm.rf⟩) (fun X hX => ⟨X, hg X hX, hX, Sm.rf⟩)
theorem act_bey {A : Ab} (hO : Ok A) {f g : Mem → Option (Int32 × Mem)} (hf : ∀ X, IC A X → f X = f_Tide_finding (-1000000001) X) (hg : ∀ X, IM A X → g X = f_Model_finds (-1000000001) X) : Act f g A :=
  act_find hO (c := -1000000001) (i := 0) (by decide) (by omega) hf hg
theorem op_now {A : Ab} (hO : Ok A) (p1 : Int32) : Act (f_Tide_now p1) (f_Model_now p1) A := by
  have hg := hO.1
  have h0 := hg.1
  by_cases e0 : p1 = 0
  · subst e0
    refine act_say hO (nI (aS A 1)) (fun X hX => ?_) (fun X hX => ?_)
    · unfold f_Tide_now
      rw [if_pos rfl, lt_s1, hX.1.2.1]
    · unfold f_Model_now f_Model_now_j40
      rw [if_pos rfl]
      exact hX.1.rd (j := 1) (by omega)
  by_cases e1 : p1 = 1
  · subst e1
    refine act_say hO (nI (aS A 2)) (fun X hX => ?_) (fun X hX => ?_)
    · unfold f_Tide_now
      rw [if_neg (by decide), if_pos rfl, lt_s1, hX.1.2.2.1]
    · unfold f_Model_now f_Model_now_j40
      rw [if_neg (by decide), if_pos rfl]
      exact hX.1.rd (j := 2) (by omega)
  by_cases e2 : p1 = 2
  · subst e2
    refine act_say hO (fs (ing (aS A) 1) (aS A 0)) (fun X hX => ?_) (fun X hX => ?_)
    · unfold f_Tide_now
      rw [if_neg (by decide), if_neg (by decide), if_pos rfl, li 1, c_allIn hX.1 hg (by omega), bd_s]
    · unfold f_Model_now
      rw [if_neg (by decide), if_neg (by decide), if_pos rfl, li 1, m_those hX.1 hg (by omega), bd_s]
  by_cases e3 : p1 = 3
  · subst e3
    refine act_say hO (fs (ing (aS A) 2) (aS A 0)) (fun X hX => ?_) (fun X hX => ?_)
    · unfold f_Tide_now
      rw [if_neg (by decide), if_neg (by decide), if_neg (by decide), if_pos rfl, li 2, c_allIn hX.1 hg (by omega), bd_s]
    · unfold f_Model_now
      rw [if_neg (by decide), if_neg (by decide), if_neg (by decide), if_pos rfl, li 2, m_those hX.1 hg (by omega), bd_s]
  by_cases e4 : p1 = 4
  · subst e4
    refine act_say hO (fm (fun t => nI (owe (aS A) t)) (aS A 0)) (fun X hX => ?_) (fun X hX => ?_)
    · unfold f_Tide_now
      rw [if_neg (by decide), if_neg (by decide), if_neg (by decide), if_neg (by decide), if_pos rfl, c_allOwed hX.1 hg (by omega), bd_s]
    · unfold f_Model_now
      rw [if_neg (by decide), if_neg (by decide), if_neg (by decide), if_neg (by decide), if_pos rfl, m_now4 hX.1 hg (by omega)]
  by_cases e5 : p1 = 5
  · subst e5
    refine act_say hO (fm (fun t => nI (aS A (23 + 6 * t + 3))) (aS A 0)) (fun X hX => ?_) (fun X hX => ?_)
    · unfold f_Tide_now
      rw [if_neg (by decide), if_neg (by decide), if_neg (by decide), if_neg (by decide), if_neg (by decide), if_pos rfl, c_allWorth hX.1 h0, bd_s]
    · unfold f_Model_now
      rw [if_neg (by decide), if_neg (by decide), if_neg (by decide), if_neg (by decide), if_neg (by decide), if_pos rfl, m_now5 hX.1 h0]
  refine act_bey hO (fun X hX => ?_) (fun X hX => ?_)
  · unfold f_Tide_now
    rw [if_neg e0, if_neg e1, if_neg e2, if_neg e3, if_neg e4, if_neg e5, bd2_id]
  · unfold f_Model_now
    rw [if_neg e0, if_neg e1, if_neg e2, if_neg e3, if_neg e4, if_neg e5, bd2_id]
theorem op_count {A : Ab} (hO : Ok A) (p1 : Int32) : Act (f_Tide_count p1) (f_Model_count p1) A := by
  have hg := hO.1
  have h0 := hg.1
  by_cases e0 : p1 = 0
  · subst e0
    refine act_say hO (nI (aS A 0)) (fun X hX => ?_) (fun X hX => ?_)
    · unfold f_Tide_count
      rw [if_pos rfl, lt_s1, hX.1.1]
    · unfold f_Model_count
      rw [if_pos rfl]
      exact hX.1.rd (j := 0) (by omega)
  by_cases e1 : p1 = 1
  · subst e1
    refine act_say hO (nI (aT A)) (fun X hX => ?_) (fun X hX => ?_)
    · unfold f_Tide_count
      rw [if_neg (by decide), if_pos rfl, lt_s1, hX.2.2.2.1.1]
    · unfold f_Model_count
      rw [if_neg (by decide), if_pos rfl, lt_s1, hX.2.2.2.1.1]
  by_cases e2 : p1 = 2
  · subst e2
    refine act_say hO (nI (pc (bs (ing (aS A) 0) (aS A 0)))) (fun X hX => ?_) (fun X hX => ?_)
    · unfold f_Tide_count
      rw [if_neg (by decide), if_neg (by decide), if_pos rfl, li 0, c_allIn hX.1 hg (by omega), bd_s, c_count h0, bd_s]
    · unfold f_Model_count
      rw [if_neg (by decide), if_neg (by decide), if_pos rfl, li 0, m_those hX.1 hg (by omega), bd_s, m_count h0, bd_s]
  by_cases e3 : p1 = 3
  · subst e3
    refine act_say hO (fm (fun t => nI (aS A (3 + t))) 16) (fun X hX => ?_) (fun X hX => ?_)
    · unfold f_Tide_count
      rw [if_neg (by decide), if_neg (by decide), if_neg (by decide), if_pos rfl, c_allHeights hX.1, bd_s]
    · unfold f_Model_count
      rw [if_neg (by decide), if_neg (by decide), if_neg (by decide), if_pos rfl, m_count3 hX.1]
  refine act_bey hO (fun X hX => ?_) (fun X hX => ?_)
  · unfold f_Tide_count
    rw [if_neg e0, if_neg e1, if_neg e2, if_neg e3, bd2_id]
  · unfold f_Model_count
    rw [if_neg e0, if_neg e1, if_neg e2, if_neg e3, bd2_id]
