theorem op_delay {A : Ab} (hO : Ok A) (p1 p2 p3 : Int32) : Act (f_Tide_delay p1 p2 p3) (f_Model_delay p1 p2 p3) A := by
  have hg := hO.1
  have h0 := hg.1
  have hd := hg.2.1
  by_cases h1 : 0 ≤ p1.toInt ∧ p1.toInt < (aS A 0 : Int)
  · by_cases hc0 : 0 ≤ p2.toInt ∧ p2.toInt < ((16 : Nat) : Int)
    · by_cases h2 : (1 : Int) ≤ p3.toInt ∧ p3.toInt ≤ ((60 : Nat) : Int)
      · obtain ⟨t, ht, rfl⟩ := ofr h1
        obtain ⟨c, hc, rfl⟩ := ofr hc0
        obtain ⟨n, hn, rfl⟩ := ofr (p := p3) (n := 61) (by omega)
        obtain ⟨g0, g1, g2, g3, g4, g5⟩ := hg.2.2.2.2.2 t ht
        by_cases h3 : aS A (23 + 6 * t + 4) = 2
        · refine act_find hO (c := -1000000005) (i := 4) (by decide) (by omega) (fun X hX => ?_) (fun X hX => ?_)
          · unfold f_Tide_delay
            rw [c_has hX.1 h0, if_pos h1, bd_s, if_neg (by decide), li 16, c_isBelow (by omega), if_pos hc0, bd_s, if_neg (by decide), li 60, c_isUpTo1 (by omega), if_pos h2, bd_s, if_neg (by decide), rdRn (by omega) (by omega), lt_s1, hX.1.th ht (by omega), if_pos (by rw [h3]; rfl), bd2_id]
          · unfold f_Model_delay
            rw [m_isThing hX.1 h0, if_pos h1, bd_s, if_neg (by decide), m_isCell, if_pos hc0, bd_s, if_neg (by decide), lL 60, m_isIn1 (by omega), if_pos h2, bd_s, if_neg (by decide), li 2, m_isIt hX.1 (by omega) (by omega) (by omega), if_pos h3, bd_s, if_neg (by decide), bd2_id]
        · refine act_tell hO (r := nI (bst (dlg (aS A) n t c) n)) (fun X hX => ?_) (fun X hX => ?_)
          · obtain ⟨X9, a1, a2, a3, a4⟩ := c_tryOn (n := n) hX.1 hg (by omega) ht (by omega)
            have hS2 : Sm (fun k => k = 50) X9 (sI (sI X9 50 2 (nI c)) 50 4 1) := sm_s1 (sm_s1 Sm.rf)
            have key : ∃ Y, it (fun a => f_Tide_delay_b85 (nI n) (nI (rst (aS A) n t)) a.1 a.2.1 a.2.2.1 a.2.2.2) FU ((0 : Int32), (-1 : Int32), (0 : Int32), sI (sI X9 50 2 (nI c)) 50 4 1) = some (nI (bst (dlg (aS A) n t c) n), Y) ∧ Sm scN X Y := by
              refine am_c (dlg (aS A) n t c) (fun i => own_le) (N := n) (by omega) (fun Z => RC Z 2 (aS A) ∧ gI Z 50 0 = nI (tK (aS A) t) ∧ gI Z 50 2 = nI c ∧ gI Z 50 3 = nI (tW (aS A) t) ∧ gI Z 50 4 = nI 1 ∧ gI Z 50 5 = nI (aS A (23 + 6 * t + 5)) ∧ Sm scN X Z) (fun Z => Sm scN X Z) ⟨a2.sm h0 hS2 (by omega), by rw [gsI, if_neg (by omega), gsI, if_neg (by omega)]; exact a3 0 (by omega), by rw [gsI, if_neg (by omega), gsI, if_pos ⟨rfl, rfl⟩], by rw [gsI, if_neg (by omega), gsI, if_neg (by omega)]; exact a3 3 (by omega), by rw [gsI, if_pos ⟨rfl, rfl⟩]; rfl, by rw [gsI, if_neg (by omega), gsI, if_neg (by omega)]; exact a3 5 (by omega), a4.tr (hS2.mono (fun k q => by unfold scN; omega))⟩ (fun i Z b m hi hZ => ?_) (fun Z b m hZ => ?_)
              · obtain ⟨z1, f0, f2, f3, f4, f5, z5⟩ := hZ
                obtain ⟨Y, y1, y2⟩ := c_pwt (X := Z) z1 hg (by omega) (n := n) (i := i) (p := rst (aS A) n t) (k := tK (aS A) t) (c := c) (w := tW (aS A) t) (q := (1, aS A (23 + 6 * t + 5))) (by omega) (by omega) rst_le f0 f2 f3 f4 f5 g0 hc g3 (by show 1 ≤ 2; omega) (by show aS A (23 + 6 * t + 5) ≤ _; omega)
                refine ⟨Y, ⟨z1.sm h0 y2 (by omega), ((y2 50 (by omega)).1 0).trans f0, ((y2 50 (by omega)).1 2).trans f2, ((y2 50 (by omega)).1 3).trans f3, ((y2 50 (by omega)).1 4).trans f4, ((y2 50 (by omega)).1 5).trans f5, z5.tr (y2.mono (fun k q => by unfold scN; omega))⟩, ?_⟩
                rw [own_rst] at y1
                have y1' : f_Tide_purseWithTrial (nI (rst (aS A) n t)) (nI i) (nI n) Z = some (nI (dlg (aS A) n t c i), Y) := y1
                show f_Tide_delay_b85 (nI n) (nI (rst (aS A) n t)) b m (nI i) Z = _
                unfold f_Tide_delay_b85 f_Tide_delay_j117
                simp only [lt_s1]
                rw [if_neg (by rw [nI_leI (by omega) (by omega)]; omega), y1', bd2_s, show nI i + (1 : Int32) = nI (i + 1) from by rw [li 1, nI_add]]
                by_cases cc : nI (dlg (aS A) n t c i) ≤ m
                · rw [if_pos cc, if_pos cc]
                · rw [if_neg cc, if_neg cc]
              · refine ⟨Z, hZ.2.2.2.2.2.2, ?_⟩
                show f_Tide_delay_b85 (nI n) (nI (rst (aS A) n t)) b m (nI n) Z = _
                unfold f_Tide_delay_b85
                rw [if_pos (by rw [nI_leI (by omega) (by omega)]; omega)]
            obtain ⟨Y, y1, y2⟩ := key
            unfold f_Tide_delay f_Thing_layAt
            simp only [lt_s1]
            rw [c_has hX.1 h0, if_pos h1, bd_s, if_neg (by decide), li 16, c_isBelow (by omega), if_pos hc0, bd_s, if_neg (by decide), li 60, c_isUpTo1 (by omega), if_pos h2, bd_s, if_neg (by decide), rdRn (by omega) (by omega), hX.1.th ht (by omega), if_neg (by rw [li 2, nI_eq (by omega) (by omega)]; exact h3), a1, bd2_s, bd_s]
            exact ⟨Y, y1, y2⟩
          · have key : ∃ Y, it (fun a => f_Model_delay_b61 (nI t) (nI c) (nI n) a.1 a.2.1 a.2.2.1 a.2.2.2) FU ((0 : Int32), (-1 : Int64), (0 : Int32), X) = some (nI (bst (dlg (aS A) n t c) n), Y) ∧ (RM Y 71 (aS A) ∧ Sm (fun k => k = 71 ∨ k = 73 ∨ k = 74) X Y) := by
              refine am_m (dlg (aS A) n t c) (fun i => own_le) (C := cst (aS A) n t) cst_le (N := n) (by omega) (fun Z => RM Z 71 (aS A) ∧ Sm (fun k => k = 71 ∨ k = 73 ∨ k = 74) X Z) (fun Z => RM Z 71 (aS A) ∧ Sm (fun k => k = 71 ∨ k = 73 ∨ k = 74) X Z) ⟨hX.1, Sm.rf⟩ (fun i Z b m hi hZ => ?_) (fun Z b m hZ => ?_)
              · obtain ⟨z1, z3⟩ := hZ
                obtain ⟨X2, b1, b2, b3⟩ := m_copyRow (B := 74) z1 (by omega)
                have r5 : RM (sI X2 71 (23 + 6 * t + 4) 0) 71 (up (aS A) (23 + 6 * t + 4) 0) := (z1.sm b3 (by omega)).put (v := 0)
                have hS5 : Sm (fun k => k = 71) X2 (sI X2 71 (23 + 6 * t + 4) 0) := sm_s1 Sm.rf
                have k1 : Gd 99999 (up (aS A) (23 + 6 * t + 4) 0) := hg.put (by omega) (by omega) (by omega) (fun _ _ _ => by omega) (fun _ _ _ => by omega) (fun _ _ _ _ _ => by omega)
                obtain ⟨X7, u, d1, d2, d3, d4⟩ := m_goes (m := i) r5 k1 (by omega) (by omega)
                have k2 := d3.gd k1
                obtain ⟨X9, l1, l2, l3⟩ := m_lies (c := c) d2 (t := t) (by omega)
                have u0 : u 0 = aS A 0 := d3.1.trans (up_n (by omega))
                have k3 : Gd (99999 + i) (up (up u (23 + 6 * t + 2) c) (23 + 6 * t + 4) 1) := (k2.put (j := 23 + 6 * t + 2) (v := c) (by omega) (by omega) (by omega) (fun _ _ _ => by omega) (fun _ _ _ => by omega) (fun _ _ _ _ _ => by omega)).put (by omega) (by omega) (by omega) (fun _ _ _ => by omega) (fun _ _ _ => by omega) (fun _ _ _ _ _ => by omega)
                obtain ⟨X11, w, e1, e2, e3, e4⟩ := m_goes (m := n - i) l2 k3 (by omega) (by omega)
                have hS11 : Sm (fun k => k = 71) X2 X11 := ((hS5.tr d4).tr l3).tr e4
                obtain ⟨X15, f1, f2, f3⟩ := m_copyRow (B := 71) (b2.sm hS11 (by omega)) (by omega)
                have es : sg (fun f => w (19 + f)) 4 = cst (aS A) n t + dlg (aS A) n t c i := sum_gen g1 (fun f hf => dl_purse hg ht hc (by omega) d3 e3 hf)
                refine ⟨X15, ⟨f2, ((z3.tr (b3.mono (fun k q => Or.inr (Or.inr q)))).tr (hS11.mono (fun k q => Or.inl q))).tr (f3.mono (fun k q => Or.inl q))⟩, ?_⟩
                show f_Model_delay_b61 (nI t) (nI c) (nI n) b m (nI i) Z = _
                unfold f_Model_delay_b61 f_Model_delay_j141 f_Model_delay_j158
                simp only [lt_s1]
                rw [if_neg (by rw [nI_leI (by omega) (by omega)]; omega), b1, bd_s, li 4, m_at, bd_s, wrn (by omega) (by omega), d1, bd_s, l1, bd_s, pk_sub (by omega), e1, bd_s, m_purses e2 (e3.gd k3), bd_s, f1, bd_s, es, show nI i + (1 : Int32) = nI (i + 1) from by rw [li 1, nI_add]]
                by_cases cc : lg_cmp (lN (cst (aS A) n t + dlg (aS A) n t c i)) m ≤ 0
                · rw [if_pos cc, if_pos cc, if_pos cc]
                · rw [if_neg cc, if_neg cc, if_neg cc]
              · refine ⟨Z, hZ, ?_⟩
                show f_Model_delay_b61 (nI t) (nI c) (nI n) b m (nI n) Z = _
                unfold f_Model_delay_b61
                rw [if_pos (by rw [nI_leI (by omega) (by omega)]; omega)]
            obtain ⟨Y, y1, y2, y3⟩ := key
            unfold f_Model_delay
            rw [m_isThing hX.1 h0, if_pos h1, bd_s, if_neg (by decide), m_isCell, if_pos hc0, bd_s, if_neg (by decide), lL 60, m_isIn1 (by omega), if_pos h2, bd_s, if_neg (by decide), li 2, m_isIt hX.1 (by omega) (by omega) (by omega), if_neg h3, bd_s, if_pos rfl]
            exact ⟨Y, y1, hX.shore y2 y3⟩
      · refine act_bey hO (fun X hX => ?_) (fun X hX => ?_)
        · unfold f_Tide_delay f_Tide_delay_j30
          rw [c_has hX.1 h0, if_pos h1, bd_s, if_neg (by decide), li 16, c_isBelow (by omega), if_pos hc0, bd_s, if_neg (by decide), li 60, c_isUpTo1 (by omega), if_neg h2, bd_s, if_pos rfl, bd2_id]
        · unfold f_Model_delay f_Model_delay_j27
          rw [m_isThing hX.1 h0, if_pos h1, bd_s, if_neg (by decide), m_isCell, if_pos hc0, bd_s, if_neg (by decide), lL 60, m_isIn1 (by omega), if_neg h2, bd_s, if_pos rfl, bd2_id]
    · refine act_bey hO (fun X hX => ?_) (fun X hX => ?_)
      · unfold f_Tide_delay f_Tide_delay_j30
        rw [c_has hX.1 h0, if_pos h1, bd_s, if_neg (by decide), li 16, c_isBelow (by omega), if_neg hc0, bd_s, if_pos rfl, bd2_id]
      · unfold f_Model_delay f_Model_delay_j27
        rw [m_isThing hX.1 h0, if_pos h1, bd_s, if_neg (by decide), m_isCell, if_neg hc0, bd_s, if_pos rfl, bd2_id]
  · refine act_bey hO (fun X hX => ?_) (fun X hX => ?_)
    · unfold f_Tide_delay f_Tide_delay_j30
      rw [c_has hX.1 h0, if_neg h1, bd_s, if_pos rfl, bd2_id]
    · unfold f_Model_delay f_Model_delay_j27
      rw [m_isThing hX.1 h0, if_neg h1, bd_s, if_pos rfl, bd2_id]
