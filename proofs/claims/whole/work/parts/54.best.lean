theorem sum_gen {s W : Nat → Nat} {t n o : Nat} (g1 : tF s t < 4) (h : ∀ f, f < 4 → W f = if f = tF s t then o else pn s n f) : sg W 4 = cst s n t + o := by
  rw [sg_pick W g1, h _ g1, if_pos rfl]
  unfold cst
  rw [sg_cong (g := fun x => if x = tF s t then 0 else W x) (h := fun f => if f = tF s t then 0 else pn s n f) (fun f hf => by
    by_cases c : f = tF s t
    · rw [if_pos c, if_pos c]
    · rw [if_neg c, if_neg c, h f hf, if_neg c])]
theorem vr_of {D : Nat} {s u : Nat → Nat} {t : Nat} (hg : Gd D s) (ht : t < s 0) (hu : ∀ j, (j < 23 + 6 * t ∨ 23 + 6 * t + 6 ≤ j ∨ j = 23 + 6 * t + 1 ∨ j = 23 + 6 * t + 5) → u j = s j) (hk : u (23 + 6 * t) < 6) (hc : u (23 + 6 * t + 2) < 16) (hw : u (23 + 6 * t + 3) ≤ 9999) (hx : u (23 + 6 * t + 4) ≤ 2) : Gd D u ∧ Vr s u t := by
  obtain ⟨h0, h1, h2, h3, h4, h5⟩ := hg
  obtain ⟨g0, g1, g2, g3, g4, g5⟩ := h5 t ht
  have e0 := hu 0 (by omega)
  have e1 := hu 1 (by omega)
  have e2 := hu 2 (by omega)
  refine ⟨⟨by omega, by omega, by omega, fun c hc => by rw [hu (3 + c) (by omega)]; exact h3 c hc, fun f hf => by rw [hu (19 + f) (by omega)]; exact h4 f hf, fun x hx2 => ?_⟩, e0, e1, e2, fun c hc => hu _ (by omega), fun f hf => hu _ (by omega), fun x hx2 hne j hj => hu _ (by omega), hu _ (by omega)⟩
  by_cases c : x = t
  · subst c
    exact ⟨hk, by rw [hu _ (by omega)]; exact g1, hc, hw, hx, by rw [hu _ (by omega), e1]; exact g5⟩
  · rw [e0] at hx2
    obtain ⟨k0, k1, k2, k3, k4, k5⟩ := h5 x hx2
    exact ⟨by rw [hu _ (by omega)]; exact k0, by rw [hu _ (by omega)]; exact k1, by rw [hu _ (by omega)]; exact k2, by rw [hu _ (by omega)]; exact k3, by rw [hu _ (by omega)]; exact k4, by rw [hu _ (by omega), e1]; exact k5⟩
theorem m_lies {X : Mem} {u : Nat → Nat} (h : RM X 71 u) {t c : Nat} (ht : t < 10) : ∃ Y, f_Model_lies (nI t) (nI c) X = some Y ∧ RM Y 71 (up (up u (23 + 6 * t + 2) c) (23 + 6 * t + 4) 1) ∧ Sm (fun k => k = 71) X Y := by
  unfold f_Model_lies
  rw [li 2, m_at, bd_s, wrn (by omega) (by omega), li 4, m_at, bd_s, wrn (by omega) (by omega)]
  exact ⟨_, rfl, (h.put).put, Sm.sI (K := fun k => k = 71) (Sm.sI (K := fun k => k = 71) Sm.rf rfl) rfl⟩
def spg (s : Nat → Nat) (n t i : Nat) : Nat := own s n t (tot (tK s t) (s (3 + i)) (tW s t) (s 2) (s 1) (1, s (23 + 6 * t + 5)) n)
theorem op_spot {A : Ab} (hO : Ok A) (p1 p2 : Int32) : Act (f_Tide_spot p1 p2) (f_Model_spot p1 p2) A := by
  have hg := hO.1
  have h0 := hg.1
  have hd := hg.2.1
  by_cases h1 : 0 ≤ p1.toInt ∧ p1.toInt < (aS A 0 : Int)
  · by_cases h2 : (1 : Int) ≤ p2.toInt ∧ p2.toInt ≤ ((100 : Nat) : Int)
    · obtain ⟨t, ht, rfl⟩ := ofr h1
      obtain ⟨n, hn, rfl⟩ := ofr (p := p2) (n := 101) (by omega)
      obtain ⟨g0, g1, g2, g3, g4, g5⟩ := hg.2.2.2.2.2 t ht
      by_cases h3 : aS A (23 + 6 * t + 4) = 2
      · refine act_find hO (c := -1000000005) (i := 4) (by decide) (by omega) (fun X hX => ?_) (fun X hX => ?_)
        · unfold f_Tide_spot
          rw [c_has hX.1 h0, if_pos h1, bd_s, if_neg (by decide), li 100, c_isUpTo1 (by omega), if_pos h2, bd_s, if_neg (by decide), rdRn (by omega) (by omega), lt_s1, hX.1.th ht (by omega), if_pos (by rw [h3]; rfl), bd2_id]
        · unfold f_Model_spot
          rw [m_isThing hX.1 h0, if_pos h1, bd_s, if_neg (by decide), lL 100, m_isIn1 (by omega), if_pos h2, bd_s, if_neg (by decide), li 2, m_isIt hX.1 (by omega) (by omega) (by omega), if_pos h3, bd_s, if_neg (by decide), bd2_id]
      · refine act_tell hO (r := nI (bst (spg (aS A) n t) 16)) (fun X hX => ?_) (fun X hX => ?_)
        · obtain ⟨X9, a1, a2, a3, a4⟩ := c_tryOn (n := n) hX.1 hg (by omega) ht (by omega)
          have key : ∃ Y, it (fun a => f_Tide_spot_b67 (nI n) (nI (rst (aS A) n t)) a.1 a.2.1 a.2.2.1 a.2.2.2) FU ((0 : Int32), (-1 : Int32), (0 : Int32), X9) = some (nI (bst (spg (aS A) n t) 16), Y) ∧ Sm scN X Y := by
            refine am_c (spg (aS A) n t) (fun i => own_le) (N := 16) (by omega) (fun Z => RC Z 2 (aS A) ∧ gI Z 50 0 = nI (tK (aS A) t) ∧ gI Z 50 3 = nI (tW (aS A) t) ∧ gI Z 50 5 = nI (aS A (23 + 6 * t + 5)) ∧ Sm scN X Z) (fun Z => Sm scN X Z) ⟨a2, a3 0 (by omega), a3 3 (by omega), a3 5 (by omega), a4⟩ (fun i Z b m hi hZ => ?_) (fun Z b m hZ => ?_)
            · obtain ⟨z1, z2, z3, z4, z5⟩ := hZ
              have hS2 : Sm (fun k => k = 50) Z (sI (sI Z 50 2 (nI i)) 50 4 1) := sm_s1 (sm_s1 Sm.rf)
              have f0 : gI (sI (sI Z 50 2 (nI i)) 50 4 1) 50 0 = nI (tK (aS A) t) := by rw [gsI, if_neg (by omega), gsI, if_neg (by omega)]; exact z2
              have f3 : gI (sI (sI Z 50 2 (nI i)) 50 4 1) 50 3 = nI (tW (aS A) t) := by rw [gsI, if_neg (by omega), gsI, if_neg (by omega)]; exact z3
              have f5 : gI (sI (sI Z 50 2 (nI i)) 50 4 1) 50 5 = nI (aS A (23 + 6 * t + 5)) := by rw [gsI, if_neg (by omega), gsI, if_neg (by omega)]; exact z4
              obtain ⟨Y, y1, y2⟩ := c_pwt (X := sI (sI Z 50 2 (nI i)) 50 4 1) (z1.sm h0 hS2 (by omega)) hg (by omega) (n := n) (i := 0) (p := rst (aS A) n t) (k := tK (aS A) t) (c := i) (w := tW (aS A) t) (q := (1, aS A (23 + 6 * t + 5))) (by omega) (by omega) rst_le f0 (by rw [gsI, if_neg (by omega), gsI, if_pos ⟨rfl, rfl⟩]) f3 (by rw [gsI, if_pos ⟨rfl, rfl⟩]; rfl) f5 g0 hi g3 (by show 1 ≤ 2; omega) (by show aS A (23 + 6 * t + 5) ≤ _; omega)
              have hS3 : Sm (fun k => k = 50 ∨ k = 51) Z Y := (hS2.mono (fun k q => Or.inl q)).tr (y2.mono (fun k q => Or.inr q))
              refine ⟨Y, ⟨z1.sm h0 hS3 (by omega), ((y2 50 (by omega)).1 0).trans f0, ((y2 50 (by omega)).1 3).trans f3, ((y2 50 (by omega)).1 5).trans f5, z5.tr (hS3.mono (fun k q => by unfold scN; omega))⟩, ?_⟩
              rw [own_rst] at y1
              have y1' : f_Tide_purseWithTrial (nI (rst (aS A) n t)) (0 : Int32) (nI n) (sI (sI Z 50 2 (nI i)) 50 4 1) = some (nI (spg (aS A) n t i), Y) := y1
              show f_Tide_spot_b67 (nI n) (nI (rst (aS A) n t)) b m (nI i) Z = _
              unfold f_Tide_spot_b67 f_Thing_layAt f_Tide_spot_j107
              simp only [lt_s1]
              rw [li 16, if_neg (by rw [nI_leI (by omega) (by omega)]; omega), bd_s, y1', bd2_s, show nI i + (1 : Int32) = nI (i + 1) from by rw [li 1, nI_add]]
              by_cases c : nI (spg (aS A) n t i) ≤ m
              · rw [if_pos c, if_pos c]
              · rw [if_neg c, if_neg c]
            · refine ⟨Z, hZ.2.2.2.2, ?_⟩
              show f_Tide_spot_b67 (nI n) (nI (rst (aS A) n t)) b m (nI 16) Z = _
              unfold f_Tide_spot_b67
              rw [li 16, if_pos (by rw [nI_leI (by omega) (by omega)]; omega)]
          obtain ⟨Y, y1, y2⟩ := key
          unfold f_Tide_spot
          rw [c_has hX.1 h0, if_pos h1, bd_s, if_neg (by decide), li 100, c_isUpTo1 (by omega), if_pos h2, bd_s, if_neg (by decide), rdRn (by omega) (by omega), lt_s1, hX.1.th ht (by omega), if_neg (by rw [li 2, nI_eq (by omega) (by omega)]; exact h3), a1, bd2_s]
          exact ⟨Y, y1, y2⟩
        · have key : ∃ Y, it (fun a => f_Model_spot_b69 (nI t) (nI n) (nI (aS A (23 + 6 * t + 2))) (nI (aS A (23 + 6 * t + 4))) a.1 a.2.1 a.2.2.1 a.2.2.2) FU ((0 : Int32), (-1 : Int64), (0 : Int32), X) = some (nI (bst (spg (aS A) n t) 16), Y) ∧ (RM Y 71 (aS A) ∧ Sm (fun k => k = 71 ∨ k = 73 ∨ k = 74) X Y) := by
            refine am_m (spg (aS A) n t) (fun i => own_le) (C := cst (aS A) n t) cst_le (N := 16) (by omega) (fun Z => ∃ u, RM Z 71 u ∧ (∀ j, j ≠ 23 + 6 * t + 2 → j ≠ 23 + 6 * t + 4 → u j = aS A j) ∧ Sm (fun k => k = 71 ∨ k = 73 ∨ k = 74) X Z) (fun Z => RM Z 71 (aS A) ∧ Sm (fun k => k = 71 ∨ k = 73 ∨ k = 74) X Z) ⟨aS A, hX.1, fun _ _ _ => rfl, Sm.rf⟩ (fun i Z b m hi hZ => ?_) (fun Z b m hZ => ?_)
            · obtain ⟨u, z1, z2, z3⟩ := hZ
              obtain ⟨Z2, l1, l2, l3⟩ := m_lies (c := i) z1 (t := t) (by omega)
              generalize hu2 : up (up u (23 + 6 * t + 2) i) (23 + 6 * t + 4) 1 = u2 at l2
              have e2 : u2 (23 + 6 * t + 2) = i := by rw [← hu2, up_n (by omega), up_s]
              have e4 : u2 (23 + 6 * t + 4) = 1 := by rw [← hu2, up_s]
              have eo : ∀ j, j ≠ 23 + 6 * t + 2 → j ≠ 23 + 6 * t + 4 → u2 j = aS A j := fun j j1 j2 => by rw [← hu2, up_n j2, up_n j1]; exact z2 j j1 j2
              obtain ⟨v1, v2⟩ := vr_of (u := u2) hg ht (fun j hj => eo j (by omega) (by omega)) (by rw [eo _ (by omega) (by omega)]; exact g0) (by omega) (by rw [eo _ (by omega) (by omega)]; exact g3) (by omega)
              obtain ⟨Y, y1, y2, y3⟩ := m_pursesOn (n := n) l2 v1 (by omega) (by omega)
              have ev : totT (aS A) u2 n t = tot (tK (aS A) t) (aS A (3 + i)) (tW (aS A) t) (aS A 2) (aS A 1) (1, aS A (23 + 6 * t + 5)) n := by
                have k1 : tK u2 t = tK (aS A) t := eo _ (by omega) (by omega)
                have k2 : tH u2 t = aS A (3 + i) := by
                  show u2 (3 + u2 (23 + 6 * t + 2)) = _
                  rw [e2]
                  exact eo _ (by omega) (by omega)
                have k3 : tW u2 t = tW (aS A) t := eo _ (by omega) (by omega)
                have k4 : tQ u2 t = (1, aS A (23 + 6 * t + 5)) := by
                  show (u2 (23 + 6 * t + 4), u2 (23 + 6 * t + 5)) = _
                  rw [e4, eo _ (by omega) (by omega)]
                show tot (tK u2 t) (tH u2 t) (tW u2 t) (aS A 2) (aS A 1) (tQ u2 t) n = _
                rw [k1, k2, k3, k4]
              rw [sum_vr hg v2 ht, ev] at y1
              have y1' : f_Model_pursesOn (nI n) Z2 = some (lN (cst (aS A) n t + spg (aS A) n t i), Y) := y1
              refine ⟨Y, ⟨u2, y2, eo, (z3.tr (l3.mono (fun k q => Or.inl q))).tr y3⟩, ?_⟩
              show f_Model_spot_b69 (nI t) (nI n) (nI (aS A (23 + 6 * t + 2))) (nI (aS A (23 + 6 * t + 4))) b m (nI i) Z = _
              unfold f_Model_spot_b69 f_Model_spot_j105 f_Model_spot_j122
              simp only [lt_s1]
              rw [li 16, if_neg (by rw [nI_leI (by omega) (by omega)]; omega), l1, bd_s, y1', bd2_s, show nI i + (1 : Int32) = nI (i + 1) from by rw [li 1, nI_add]]
              by_cases c : lg_cmp (lN (cst (aS A) n t + spg (aS A) n t i)) m ≤ 0
              · rw [if_pos c, if_pos c, if_pos c]
              · rw [if_neg c, if_neg c, if_neg c]
            · obtain ⟨u, z1, z2, z3⟩ := hZ
              refine ⟨sI (sI Z 71 (23 + 6 * t + 2) (nI (aS A (23 + 6 * t + 2)))) 71 (23 + 6 * t + 4) (nI (aS A (23 + 6 * t + 4))), ⟨((z1.put).put).ext (fun j hj => ?_), (z3.sI (Or.inl rfl)).sI (Or.inl rfl)⟩, ?_⟩
              · by_cases c : j = 23 + 6 * t + 4
                · subst c; rw [up_s]
                · rw [up_n c]
                  by_cases c2 : j = 23 + 6 * t + 2
                  · subst c2; rw [up_s]
                  · rw [up_n c2]; exact z2 j c2 c
              · show f_Model_spot_b69 (nI t) (nI n) (nI (aS A (23 + 6 * t + 2))) (nI (aS A (23 + 6 * t + 4))) b m (nI 16) Z = _
                unfold f_Model_spot_b69
                rw [li 16, if_pos (by rw [nI_leI (by omega) (by omega)]; omega), li 2, m_at, bd_s, wrn (by omega) (by omega), li 4, m_at, bd_s, wrn (by omega) (by omega)]
          obtain ⟨Y, y1, y2, y3⟩ := key
          unfold f_Model_spot
          rw [m_isThing hX.1 h0, if_pos h1, bd_s, if_neg (by decide), lL 100, m_isIn1 (by omega), if_pos h2, bd_s, if_neg (by decide), li 2, m_isIt hX.1 (by omega) (by omega) (by omega), if_neg h3, bd_s, if_pos rfl, m_its hX.1 (by omega) (by omega), bd_s, li 4, m_its hX.1 (by omega) (by omega), bd_s]
          exact ⟨Y, y1, hX.shore y2 y3⟩
    · refine act_bey hO (fun X hX => ?_) (fun X hX => ?_)
      · unfold f_Tide_spot f_Tide_spot_j21
        rw [c_has hX.1 h0, if_pos h1, bd_s, if_neg (by decide), li 100, c_isUpTo1 (by omega), if_neg h2, bd_s, if_pos rfl, bd2_id]
      · unfold f_Model_spot f_Model_spot_j20
        rw [m_isThing hX.1 h0, if_pos h1, bd_s, if_neg (by decide), lL 100, m_isIn1 (by omega), if_neg h2, bd_s, if_pos rfl, bd2_id]
  · refine act_bey hO (fun X hX => ?_) (fun X hX => ?_)
    · unfold f_Tide_spot f_Tide_spot_j21
      rw [c_has hX.1 h0, if_neg h1, bd_s, if_pos rfl, bd2_id]
    · unfold f_Model_spot f_Model_spot_j20
      rw [m_isThing hX.1 h0, if_neg h1, bd_s, if_pos rfl, bd2_id]
