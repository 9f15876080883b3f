/-! rate -/
def rtp (s : Nat → Nat) (n r f : Nat) : Nat := min 999999999 (s (19 + f) + sg (trI s n f r (-1)) (s 0))
theorem c_gainAt {D : Nat} {X : Mem} {s : Nat → Nat} (h : RC X 2 s) (hg : Gd D s) (hD : D ≤ 998000) {n r : Nat} (hn : n ≤ 1000) (hr : r ≤ 50) (hW : Wys X s n) : f_Tide_gainAt (nI r) X = some (lN (sg (rtp s n r) 4) - lN (sg (fun f => s (19 + f)) 4)) := by
  refine it_for (fun i => (lN (sg (rtp s n r) i), nI i)) 4 _ (by omega) (fun i hi => ?_) ?_
  · have hp : rtp s n r i ≤ 999999999 := Nat.min_le_left _ _
    unfold f_Tide_gainAt_b5
    simp only [lt_s1]
    rw [li 4, if_neg (by rw [nI_leI (by omega) (by omega)]; omega), c_purseThen h hg hD hi hn hr hW, bd_s]
    show some (Sum.inr (lN (sg (rtp s n r) i) + (nI (rtp s n r i)).toInt64, nI i + 1)) = _
    rw [ilN (by omega), lN_add, li 1, nI_add]
    rfl
  · unfold f_Tide_gainAt_b5
    rw [li 4, if_pos (by rw [nI_leI (by omega) (by omega)]; omega), c_allPurses h hg, bd_s]
theorem rt_pn {D : Nat} {s u : Nat → Nat} (hg : Gd D s) {n r f : Nat} (hu : ∀ j, j ≠ 2 → u j = s j) (h2 : u 2 = r) : pn u n f = rtp s n r f := by
  have h0 := hg.1
  unfold pn rtp
  rw [hu (19 + f) (by omega), hu 0 (by omega)]
  congr 2
  apply sg_cong
  intro t ht
  have k0 : tK u t = tK s t := hu _ (by omega)
  have k1 : tF u t = tF s t := hu _ (by omega)
  have k2 : tH u t = tH s t := by
    show u (3 + u (23 + 6 * t + 2)) = _
    rw [hu (23 + 6 * t + 2) (by omega)]
    exact hu _ (by omega)
  have k3 : tW u t = tW s t := hu _ (by omega)
  have k4 : tQ u t = tQ s t := by
    show (u (23 + 6 * t + 4), u (23 + 6 * t + 5)) = _
    rw [hu (23 + 6 * t + 4) (by omega), hu (23 + 6 * t + 5) (by omega)]
  unfold trI totS
  rw [k1, k0, k2, k3, k4, h2, hu 1 (by omega)]
  by_cases c : tF s t = f
  · rw [if_pos c, if_pos ⟨c, nI_nm1 (by omega)⟩]
  · rw [if_neg c, if_neg (fun q => c q.1)]
def rtok (s : Nat → Nat) (n v r : Nat) : Bool := decide (¬ lg_cmp (lN (sg (rtp s n r) 4) - lN (sg (fun f => s (19 + f)) 4)) (nI v).toInt64 < 0)
theorem op_rate {A : Ab} (hO : Ok A) (p1 p2 : Int32) : Act (f_Tide_rate p1 p2) (f_Model_rate p1 p2) A := by
  have hg := hO.1
  have h0 := hg.1
  have hd := hg.2.1
  have hr2 := hg.2.2.1
  by_cases h2 : (1 : Int) ≤ p1.toInt ∧ p1.toInt ≤ ((100 : Nat) : Int)
  · by_cases h3 : 0 ≤ p2.toInt ∧ p2.toInt < ((999999999 + 1 : Nat) : Int)
    · obtain ⟨n, hn, rfl⟩ := ofr (p := p1) (n := 101) (by omega)
      obtain ⟨v, hv, rfl⟩ := ofr h3
      refine act_first hO (rtok (aS A) n v) 50 (fun X hX => ?_) (fun X hX => ?_)
      · obtain ⟨X6, y1, y2, y3⟩ := c_followAll (n := n) hX.1 hg (by omega) (by omega)
        have hY : RC X6 2 (aS A) := hX.1.sm hg.1 y3 (by omega)
        have hS : Sm scN X X6 := y3.mono (fun z hz => by unfold scN; omega)
        have e : f_Tide_rate (nI n) (nI v) X = it (fun a => f_Tide_rate_b34 (nI v) X6 a) FU (0 : Int32) := by
          unfold f_Tide_rate
          rw [li 100, c_isUpTo1 (by omega), if_pos h2, bd_s, if_neg (by decide), li 999999999, c_isUpTo0 (by omega), if_pos h3, bd_s, if_neg (by decide), y1, bd_s]
        rw [e]
        refine fst_c (f := fun a => f_Tide_rate_b34 (nI v) X6 a) (fun i Z => nI i) (rtok (aS A) n v) (M := 50) (by omega) (fun Z => Z = X6) (fun Y => Sm scN X Y) (fun Y => IC (fnd A 3) Y ∧ Sm C70 X Y) (X1 := X6) rfl (fun i Z hi hZ => ?_) (fun Z hZ => by rw [hZ]; exact hS) (fun Z hZ => ?_)
        · refine ⟨X6, rfl, ?_⟩
          show f_Tide_rate_b34 (nI v) X6 (nI i) = _
          unfold f_Tide_rate_b34
          simp only [lt_s1]
          rw [li 50, if_neg (by rw [nI_ltI (by omega) (by omega)]; omega), c_gainAt hY hg (by omega) (by omega) hi y2, bd_s, show nI i + (1 : Int32) = nI (i + 1) from by rw [li 1, nI_add]]
          unfold rtok
          by_cases c : lg_cmp (lN (sg (rtp (aS A) n i) 4) - lN (sg (fun f => aS A (19 + f)) 4)) (nI v).toInt64 < 0
          · rw [if_pos c, if_neg (by rw [decide_eq_true_eq]; exact fun q => q c)]
          · rw [if_neg c, if_pos (decide_eq_true c)]
        · obtain ⟨Y, y1, y2, y3⟩ := c_finding (c := -1000000004) (i := 3) (hX.scratch hO hS) hO (by decide) (by omega)
          refine ⟨Y, ⟨y2, (hS.mono (fun k q => by unfold scN at q; unfold C70; omega)).tr y3⟩, ?_⟩
          show f_Tide_rate_b34 (nI v) X6 (nI 51) = _
          unfold f_Tide_rate_b34
          rw [li 50, if_pos (by rw [nI_ltI (by omega) (by omega)]; omega), y1, bd2_s]
      · have e : f_Model_rate (nI n) (nI v) X = it (fun a => f_Model_rate_b44 (nI n) (nI v) (nI (aS A 2)) a.1 a.2.1 a.2.2) FU ((-1 : Int32), (0 : Int32), X) := by
          unfold f_Model_rate
          rw [lL 100, m_isIn1 (by omega), if_pos h2, bd_s, if_neg (by decide), lL 999999999, m_isIn0 (by omega), if_pos h3, bd_s, if_neg (by decide), li 2, hX.1.rd (by omega)]
        rw [e]
        have hend : ∀ Z, (∃ u, RM Z 71 u ∧ (∀ j, j ≠ 2 → u j = aS A j) ∧ Sm (fun k => k = 71 ∨ k = 73 ∨ k = 74) X Z) → IM A (sI Z 71 2 (nI (aS A 2))) ∧ Sm M70 X (sI Z 71 2 (nI (aS A 2))) ∧ ∀ b, f_Model_rate_j94 (nI (aS A 2)) b Z = f_Model_orNone b (sI Z 71 2 (nI (aS A 2))) := by
          intro Z ⟨u, z1, z2, z3⟩
          have hR : RM (sI Z 71 2 (nI (aS A 2))) 71 (aS A) := (z1.put).ext (fun j hj => by
            by_cases c : j = 2
            · subst c; rw [up_s]
            · rw [up_n c]; exact z2 j c)
          have hI := hX.shore hR (z3.sI (Or.inl rfl))
          refine ⟨hI.1, hI.2, fun b => ?_⟩
          unfold f_Model_rate_j94
          rw [li 2, wrn (by omega) (by omega), bd2_id]
        refine fst_m (f := fun a => f_Model_rate_b44 (nI n) (nI v) (nI (aS A 2)) a.1 a.2.1 a.2.2) (rtok (aS A) n v) (M := 50) (by omega) (fun Z => ∃ u, RM Z 71 u ∧ (∀ j, j ≠ 2 → u j = aS A j) ∧ Sm (fun k => k = 71 ∨ k = 73 ∨ k = 74) X Z) (fun Y => IM A Y ∧ Sm M70 X Y) (fun Y => IM (fnd A 3) Y ∧ Sm M70 X Y) ⟨aS A, hX.1, fun _ _ => rfl, Sm.rf⟩ (fun i Z hi hZ => ?_) (fun i Z hi hZ => ?_) (fun Z hZ => ?_)
        · obtain ⟨u, z1, z2, z3⟩ := hZ
          have l2 : RM (sI Z 71 2 (nI i)) 71 (up (aS A) 2 i) := (z1.put).ext (fun j hj => by
            by_cases c : j = 2
            · subst c; rw [up_s, up_s]
            · rw [up_n c, up_n c]; exact z2 j c)
          have v1 : Gd 99999 (up (aS A) 2 i) := hg.put (by omega) (by omega) (by omega) (fun _ _ _ => by omega) (fun _ _ _ => by omega) (fun _ _ _ _ _ => by omega)
          obtain ⟨Y, y1, y2, y3⟩ := m_pursesOn (n := n) l2 v1 (by omega) (by omega)
          rw [sg_cong (g := pn (up (aS A) 2 i) n) (h := rtp (aS A) n i) (fun f hf => rt_pn hg (fun j hj => up_n hj) up_s)] at y1
          have y4 := m_purses y2 v1
          rw [sg_cong (g := fun f => up (aS A) 2 i (19 + f)) (h := fun f => aS A (19 + f)) (fun f hf => up_n (by omega))] at y4
          refine ⟨Y, ⟨_, y2, fun j hj => up_n hj, (z3.sI (Or.inl rfl)).tr y3⟩, ?_⟩
          show f_Model_rate_b44 (nI n) (nI v) (nI (aS A 2)) (-1) (nI i) Z = _
          unfold f_Model_rate_b44 f_Model_rate_j86
          simp only [lt_s1]
          rw [li 50, if_neg (by rw [nI_ltI (by omega) (by omega)]; omega), if_neg (by decide), li 2, wrn (by omega) (by omega), y1, bd2_s, y4, bd_s, show nI i + (1 : Int32) = nI (i + 1) from by rw [li 1, nI_add]]
          unfold rtok
          by_cases c : lg_cmp (lN (sg (rtp (aS A) n i) 4) - lN (sg (fun f => aS A (19 + f)) 4)) (nI v).toInt64 < 0
          · rw [if_pos c, if_neg (by rw [decide_eq_true_eq]; exact fun q => q c)]
          · rw [if_neg c, if_pos (decide_eq_true c)]
        · obtain ⟨q1, q2, q3⟩ := hend Z hZ
          refine ⟨_, ⟨q1, q2⟩, ?_⟩
          show f_Model_rate_b44 (nI n) (nI v) (nI (aS A 2)) (nI i) (nI (i + 1)) Z = _
          unfold f_Model_rate_b44
          rw [if_pos (show (0 : Int32) ≤ nI i from by rw [li 0, nI_leI (by omega) (by omega)]; omega), q3, m_orN (by omega), upc_s, ite_self]
        · obtain ⟨q1, q2, q3⟩ := hend Z hZ
          obtain ⟨Y, y1, y2, y3⟩ := m_finds (c := -1000000004) (i := 3) q1 (by decide) (by omega)
          refine ⟨Y, ⟨y2, q2.tr y3⟩, ?_⟩
          show f_Model_rate_b44 (nI n) (nI v) (nI (aS A 2)) (-1) (nI 51) Z = _
          unfold f_Model_rate_b44
          rw [li 50, if_pos (by rw [nI_ltI (by omega) (by omega)]; omega), q3, m_orN1, y1, upc_s]
    · refine act_bey hO (fun X hX => ?_) (fun X hX => ?_)
      · unfold f_Tide_rate f_Tide_rate_j20
        rw [li 100, c_isUpTo1 (by omega), if_pos h2, bd_s, if_neg (by decide), li 999999999, c_isUpTo0 (by omega), if_neg h3, bd_s, if_pos rfl, bd2_id]
      · unfold f_Model_rate f_Model_rate_j24
        rw [lL 100, m_isIn1 (by omega), if_pos h2, bd_s, if_neg (by decide), lL 999999999, m_isIn0 (by omega), if_neg h3, bd_s, if_pos rfl, bd2_id]
  · refine act_bey hO (fun X hX => ?_) (fun X hX => ?_)
    · unfold f_Tide_rate f_Tide_rate_j20
      rw [li 100, c_isUpTo1 (by omega), if_neg h2, bd_s, if_pos rfl, bd2_id]
    · unfold f_Model_rate f_Model_rate_j24
      rw [lL 100, m_isIn1 (by omega), if_neg h2, bd_s, if_pos rfl, bd2_id]
