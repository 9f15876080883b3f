/-! richest -/
def bst (g : Nat → Nat) : Nat → Nat
  | 0 => 0
  | n + 1 => if g (bst g n) < g n then n else bst g n
theorem bst_lt (g : Nat → Nat) : ∀ n, 1 ≤ n → bst g n < n
  | 0, h => absurd h (by omega)
  | n + 1, _ => by
    unfold bst
    split
    · omega
    · by_cases c : n = 0
      · subst c; show 0 < 1; omega
      · have := bst_lt g n (by omega); omega
theorem op_richest {A : Ab} (hO : Ok A) (p1 : Int32) : Act (f_Tide_richest p1) (f_Model_richest p1) A := by
  have hg := hO.1
  by_cases h1 : 0 ≤ p1.toInt ∧ p1.toInt < ((400 + 1 : Nat) : Int)
  · obtain ⟨n, hn, rfl⟩ := ofr h1
    have hpn : ∀ f, pn (aS A) n f ≤ 999999999 := fun f => Nat.min_le_left _ _
    refine act_tell hO (r := nI (bst (pn (aS A) n) 4)) (fun X hX => ?_) (fun X hX => ?_)
    · obtain ⟨Y, y1, y2, y3⟩ := c_followAll (n := n) hX.1 hg (by omega) (by omega)
      have hY : RC Y 2 (aS A) := hX.1.sm hg.1 y3 (by omega)
      unfold f_Tide_richest
      rw [li 400, c_isUpTo0 (by omega), if_pos h1, bd_s, if_neg (by decide), y1, bd_s]
      refine ⟨Y, ?_, y3.mono (fun z hz => by unfold scN; omega)⟩
      refine it_for (fun i => (nI (bst (pn (aS A) n) i), (if i = 0 then (-1 : Int32) else nI (pn (aS A) n (bst (pn (aS A) n) i))), nI i)) 4 _ (by omega) (fun i hi => ?_) ?_
      · unfold f_Tide_richest_b30 f_Tide_richest_j64
        simp only [lt_s1]
        rw [li 4, if_neg (by rw [nI_leI (by omega) (by omega)]; omega), hY.2.2.1, c_pn hY hg (by omega) hi (by omega) y2, bd_s, li 1, nI_add]
        have hi1 := hpn i
        have hi2 := hpn (bst (pn (aS A) n) i)
        show _ = some (Sum.inr (nI (if pn (aS A) n (bst (pn (aS A) n) i) < pn (aS A) n i then i else bst (pn (aS A) n) i), (if i + 1 = 0 then (-1 : Int32) else nI (pn (aS A) n (if pn (aS A) n (bst (pn (aS A) n) i) < pn (aS A) n i then i else bst (pn (aS A) n) i))), nI (i + 1)))
        rw [if_neg (by omega : ¬ i + 1 = 0)]
        by_cases c0 : i = 0
        · subst c0
          have e0 : bst (pn (aS A) n) 0 = 0 := rfl
          rw [if_pos rfl, e0, if_neg (Nat.lt_irrefl _), if_neg (by
            rw [Int32.le_iff_toInt_le, nI_toInt (by omega), show (-nI 1 : Int32).toInt = -1 from by decide]; omega)]
        · rw [if_neg c0]
          by_cases c : pn (aS A) n (bst (pn (aS A) n) i) < pn (aS A) n i
          · rw [if_neg (by rw [nI_leI (by omega) (by omega)]; omega), if_pos c]
          · rw [if_pos (by rw [nI_leI (by omega) (by omega)]; omega), if_neg c]
      · unfold f_Tide_richest_b30
        rw [li 4, if_pos (by rw [nI_leI (by omega) (by omega)]; omega)]
    · obtain ⟨X2, a1, a2, a3⟩ := m_copyRow (B := 74) hX.1 (by omega)
      obtain ⟨X4, u, b1, b2, b3, b4⟩ := m_goes (m := n) (hX.1.sm a3 (by omega)) hg (by omega) (by omega)
      obtain ⟨X7, c1, c2, c3⟩ := m_copyRow (B := 71) (a2.sm b4 (by omega)) (by omega)
      have hu : ∀ f, f < 4 → u (19 + f) = pn (aS A) n f := fun f hf => b3.2.2.2.2.2.2 f hf
      unfold f_Model_richest
      rw [lL 400, m_isIn0 (by omega), if_pos h1, bd_s, if_neg (by decide), a1, bd_s, b1, bd_s]
      have hY := hX.shore c2 (((a3.mono (fun k q => by omega)).tr (b4.mono (fun k q => by omega))).tr (c3.mono (fun k q => by omega)))
      refine ⟨X7, ?_, hY⟩
      have hst : ((0 : Int32), (1 : Int32)) = (fun i => (nI (bst (pn (aS A) n) (i + 1)), nI (i + 1))) 0 := by
        show ((0 : Int32), (1 : Int32)) = (nI (if pn (aS A) n (bst (pn (aS A) n) 0) < pn (aS A) n 0 then 0 else bst (pn (aS A) n) 0), nI 1)
        have e0 : bst (pn (aS A) n) 0 = 0 := rfl
        rw [e0, if_neg (Nat.lt_irrefl _)]
        rfl
      rw [hst]
      refine it_for (fun i => (nI (bst (pn (aS A) n) (i + 1)), nI (i + 1))) 3 _ (by omega) (fun i hi => ?_) ?_
      · have hb := bst_lt (pn (aS A) n) (i + 1) (by omega)
        unfold f_Model_richest_b39 f_Model_richest_j70
        simp only [lt_s1]
        have hi1 := hpn (i + 1)
        have hi2 := hpn (bst (pn (aS A) n) (i + 1))
        rw [li 4, if_neg (by rw [nI_leI (by omega) (by omega)]; omega), li 19, nI_add, nI_add, b2.rd (by omega), b2.rd (by omega), hu _ (by omega), hu _ (by omega), li 1, nI_add]
        show _ = some (Sum.inr (nI (if pn (aS A) n (bst (pn (aS A) n) (i + 1)) < pn (aS A) n (i + 1) then i + 1 else bst (pn (aS A) n) (i + 1)), nI (i + 1 + 1)))
        by_cases c : pn (aS A) n (bst (pn (aS A) n) (i + 1)) < pn (aS A) n (i + 1)
        · rw [if_neg (by rw [nI_leI (by omega) (by omega)]; omega), if_pos c]
        · rw [if_pos (by rw [nI_leI (by omega) (by omega)]; omega), if_neg c]
      · unfold f_Model_richest_b39
        rw [li 4, if_pos (by rw [nI_leI (by omega) (by omega)]; omega), c1, bd_s]
  · refine act_bey hO (fun X hX => ?_) (fun X hX => ?_)
    · unfold f_Tide_richest
      rw [li 400, c_isUpTo0 (by omega), if_neg h1, bd_s, if_pos rfl, bd2_id]
    · unfold f_Model_richest
      rw [lL 400, m_isIn0 (by omega), if_neg h1, bd_s, if_pos rfl, bd2_id]
