theorem op_sheet {A : Ab} (hO : Ok A) (p1 p2 p3 : Int32) : Act (f_Tide_sheet p1 p2 p3) (f_Model_sheet p1 p2 p3) A := by
  by_cases h1 : 0 ≤ p1.toInt ∧ p1.toInt < ((4 : Nat) : Int)
  · by_cases hw : p2 = 0 ∨ p2 = 8 ∨ p2 = 16 ∨ p2 = 64
    · have cw : f_Tide_isWidth p2 = some 1 := by rcases hw with rfl | rfl | rfl | rfl <;> rfl
      have mw : ∀ X, f_Model_sheet p1 p2 p3 X = f_Model_sheet_j36 p1 p2 p3 X := fun X => by
        unfold f_Model_sheet
        rw [m_isSheet, if_pos h1, bd_s, if_neg (by decide)]
        rcases hw with rfl | rfl | rfl | rfl <;> rfl
      by_cases h0 : 0 ≤ p3
      · by_cases h4 : p3 ≤ 40
        · obtain ⟨t, ht, rfl⟩ := ofr h1
          obtain ⟨n, hn, rfl⟩ := ofr (p := p3) (n := 41) (by
            rw [Int32.le_iff_toInt_le, show (0 : Int32).toInt = 0 from by decide] at h0
            rw [Int32.le_iff_toInt_le, show (40 : Int32).toInt = 40 from by decide] at h4
            omega)
          have hb : ∃ b, p2 = nI b ∧ (b = 0 ∨ b = 8 ∨ b = 16 ∨ b = 64) := by
            rcases hw with rfl | rfl | rfl | rfl
            · exact ⟨0, rfl, by omega⟩
            · exact ⟨8, rfl, by omega⟩
            · exact ⟨16, rfl, by omega⟩
            · exact ⟨64, rfl, by omega⟩
          obtain ⟨b, rfl, hb⟩ := hb
          refine ⟨nI (if b = 0 then 0 else n), hs A t (b, (if b = 0 then 0 else n), fun _ => 0), hO.sheet ⟨hb, by show (if b = 0 then 0 else n) ≤ 40; split <;> omega, fun c => if_pos c⟩, fun X hX => ?_, fun X hX => ?_⟩
          · obtain ⟨Y, y1, y2, y3, y4, y5⟩ := c_renew (X := X) (t := t) (b := b) (n := n) (by omega)
            unfold f_Tide_sheet
            rw [li 4, c_isBelow (by omega), if_pos h1, bd_s, if_neg (by decide), cw, bd_s, if_neg (by decide), if_pos h0, if_pos h4, rdRn ht (by omega), y1, bd_s, rdRn ht (by omega), lt_s1, y3]
            exact ⟨Y, rfl, hX.sheet hO ht y5 y2 y3 y4⟩
          · rw [mw]
            unfold f_Model_sheet_j36 f_Model_sheet_j74
            rw [if_pos h0, if_pos h4]
            by_cases c : b = 0
            · subst c
              obtain ⟨Y, y1, y2, y3, y4, y6, y5⟩ := m_sheet (X := X) (t := t) (m := 0) (v := -1) ht
              rw [if_pos (show nI 0 = (0 : Int32) from rfl), wrn ht (by omega), if_pos (show nI 0 = (0 : Int32) from rfl)]
              exact ⟨Y, y1, hX.sheet ht y5 y6 y2 y3 y4⟩
            · have hz : ¬ nI b = (0 : Int32) := by rw [li 0, nI_eq (by omega) (by omega)]; exact c
              obtain ⟨Y, y1, y2, y3, y4, y6, y5⟩ := m_sheet (X := X) (t := t) (m := n) (v := nI b) ht
              rw [if_neg hz, wrn ht (by omega), if_neg hz, if_neg c]
              exact ⟨Y, y1, hX.sheet ht y5 y6 (by rw [if_neg c]; exact y2) y3 y4⟩
        · refine act_bey hO (fun X hX => ?_) (fun X hX => ?_)
          · unfold f_Tide_sheet
            rw [li 4, c_isBelow (by omega), if_pos h1, bd_s, if_neg (by decide), cw, bd_s, if_neg (by decide), if_pos h0, if_neg h4, bd2_id]
          · rw [mw]
            unfold f_Model_sheet_j36
            rw [if_pos h0, if_neg h4, bd2_id]
      · refine act_find hO (c := -1000000007) (i := 6) (by decide) (by omega) (fun X hX => ?_) (fun X hX => ?_)
        · unfold f_Tide_sheet
          rw [li 4, c_isBelow (by omega), if_pos h1, bd_s, if_neg (by decide), cw, bd_s, if_neg (by decide), if_neg h0, bd2_id]
        · rw [mw]
          unfold f_Model_sheet_j36
          rw [if_neg h0, bd2_id]
    · have w0 : p2 ≠ 0 := fun e => hw (Or.inl e)
      have w1 : p2 ≠ 8 := fun e => hw (Or.inr (Or.inl e))
      have w2 : p2 ≠ 16 := fun e => hw (Or.inr (Or.inr (Or.inl e)))
      have w3 : p2 ≠ 64 := fun e => hw (Or.inr (Or.inr (Or.inr e)))
      refine act_bey hO (fun X hX => ?_) (fun X hX => ?_)
      · unfold f_Tide_sheet f_Tide_isWidth f_Tide_sheet_j15
        rw [li 4, c_isBelow (by omega), if_pos h1, bd_s, if_neg (by decide), if_neg w0, if_neg w1, if_neg w2, if_neg w3, bd_s, if_pos rfl, bd2_id]
      · unfold f_Model_sheet f_Model_sheet_j29
        rw [m_isSheet, if_pos h1, bd_s, if_neg (by decide), if_neg w0, if_neg w1, if_neg w2, if_neg w3, bd2_id]
  · refine act_bey hO (fun X hX => ?_) (fun X hX => ?_)
    · unfold f_Tide_sheet f_Tide_sheet_j15
      rw [li 4, c_isBelow (by omega), if_neg h1, bd_s, if_pos rfl, bd2_id]
    · unfold f_Model_sheet f_Model_sheet_j29
      rw [m_isSheet, if_neg h1, bd_s, if_pos rfl, bd2_id]
