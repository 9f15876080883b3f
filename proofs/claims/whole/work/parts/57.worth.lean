/-! the first that is enough -/
theorem fst_c {α : Type} {f : α → Option ((Int32 × Mem) ⊕ α)} (mkS : Nat → Mem → α) (p : Nat → Bool) {M : Nat} (hM : M < 4900) (P Q Q2 : Mem → Prop) {X1 : Mem} (h1 : P X1) (hs : ∀ i Z, i ≤ M → P Z → ∃ Y, P Y ∧ f (mkS i Z) = if p i = true then some (.inl (nI i, Y)) else some (.inr (mkS (i + 1) Y))) (hQ : ∀ Z, P Z → Q Z) (he : ∀ Z, P Z → ∃ Y, Q2 Y ∧ f (mkS (M + 1) Z) = some (.inl (-1000000004, Y))) : (∀ i, i ≤ M → p i = true → (∀ j, j < i → ¬ p j = true) → ∃ Y, it f FU (mkS 0 X1) = some (nI i, Y) ∧ Q Y) ∧ ((∀ i, i ≤ M → ¬ p i = true) → ∃ Y, it f FU (mkS 0 X1) = some (-1000000004, Y) ∧ Q2 Y) := by
  refine ⟨fun i0 hi0 hp hn => ?_, fun hn => ?_⟩
  · obtain ⟨⟨r, Y⟩, y1, y2, y3⟩ := it_run (f := f) (fun i a => ∃ Z, P Z ∧ a = mkS i Z) (fun Y => Y.1 = nI i0 ∧ Q Y.2) i0 (by omega) (mkS 0 X1) ⟨X1, h1, rfl⟩ (by
      intro i a hi ⟨Z, e1, e2⟩
      subst e2
      obtain ⟨Y, y1, y2⟩ := hs i Z (by omega) e1
      by_cases c : i = i0
      · subst c
        rw [if_pos hp] at y2
        exact Or.inl ⟨_, y2, rfl, hQ Y y1⟩
      · rw [if_neg (hn i (by omega))] at y2
        exact Or.inr ⟨by omega, _, y2, Y, y1, rfl⟩)
    dsimp only at y2 y3
    subst y2
    exact ⟨Y, y1, y3⟩
  · obtain ⟨⟨r, Y⟩, y1, y2, y3⟩ := it_run (f := f) (fun i a => ∃ Z, P Z ∧ a = mkS i Z) (fun Y => Y.1 = -1000000004 ∧ Q2 Y.2) (M + 1) (by omega) (mkS 0 X1) ⟨X1, h1, rfl⟩ (by
      intro i a hi ⟨Z, e1, e2⟩
      subst e2
      by_cases c : i = M + 1
      · subst c
        obtain ⟨Y, y1, y2⟩ := he Z e1
        exact Or.inl ⟨_, y2, rfl, y1⟩
      · obtain ⟨Y, y1, y2⟩ := hs i Z (by omega) e1
        rw [if_neg (hn i (by omega))] at y2
        exact Or.inr ⟨by omega, _, y2, Y, y1, rfl⟩)
    dsimp only at y2 y3
    subst y2
    exact ⟨Y, y1, y3⟩
theorem fst_m {f : Int32 × Int32 × Mem → Option ((Int32 × Mem) ⊕ (Int32 × Int32 × Mem))} (p : Nat → Bool) {M : Nat} (hM : M < 4900) (P Q Q2 : Mem → Prop) {X1 : Mem} (h1 : P X1) (hs : ∀ i Z, i ≤ M → P Z → ∃ Y, P Y ∧ f (-1, nI i, Z) = some (.inr ((if p i = true then nI i else -1), nI (i + 1), Y))) (hq : ∀ i Z, i ≤ M → P Z → ∃ Y, Q Y ∧ f (nI i, nI (i + 1), Z) = some (.inl (nI i, Y))) (he : ∀ Z, P Z → ∃ Y, Q2 Y ∧ f (-1, nI (M + 1), Z) = some (.inl (-1000000004, Y))) : (∀ i, i ≤ M → p i = true → (∀ j, j < i → ¬ p j = true) → ∃ Y, it f FU ((-1 : Int32), (0 : Int32), X1) = some (nI i, Y) ∧ Q Y) ∧ ((∀ i, i ≤ M → ¬ p i = true) → ∃ Y, it f FU ((-1 : Int32), (0 : Int32), X1) = some (-1000000004, Y) ∧ Q2 Y) := by
  refine ⟨fun i0 hi0 hp hn => ?_, fun hn => ?_⟩
  · obtain ⟨⟨r, Y⟩, y1, y2, y3⟩ := it_run (f := f) (fun i a => ∃ Z, P Z ∧ a = ((if i ≤ i0 then (-1 : Int32) else nI i0), nI i, Z)) (fun Y => Y.1 = nI i0 ∧ Q Y.2) (i0 + 1) (by omega) ((-1 : Int32), (0 : Int32), X1) ⟨X1, h1, by rw [if_pos (by omega)]; rfl⟩ (by
      intro i a hi ⟨Z, e1, e2⟩
      subst e2
      by_cases c : i ≤ i0
      · rw [if_pos c]
        obtain ⟨Y, y1, y2⟩ := hs i Z (by omega) e1
        refine Or.inr ⟨by omega, _, y2, Y, y1, ?_⟩
        by_cases c2 : i = i0
        · subst c2
          rw [if_pos hp, if_neg (by omega)]
        · rw [if_neg (hn i (by omega)), if_pos (by omega)]
      · have hi2 : i = i0 + 1 := by omega
        subst hi2
        rw [if_neg c]
        obtain ⟨Y, y1, y2⟩ := hq i0 Z hi0 e1
        exact Or.inl ⟨_, y2, rfl, y1⟩)
    dsimp only at y2 y3
    subst y2
    exact ⟨Y, y1, y3⟩
  · obtain ⟨⟨r, Y⟩, y1, y2, y3⟩ := it_run (f := f) (fun i a => ∃ Z, P Z ∧ a = ((-1 : Int32), nI i, Z)) (fun Y => Y.1 = -1000000004 ∧ Q2 Y.2) (M + 1) (by omega) ((-1 : Int32), (0 : Int32), X1) ⟨X1, h1, rfl⟩ (by
      intro i a hi ⟨Z, e1, e2⟩
      subst e2
      by_cases c : i = M + 1
      · subst c
        obtain ⟨Y, y1, y2⟩ := he Z e1
        exact Or.inl ⟨_, y2, rfl, y1⟩
      · obtain ⟨Y, y1, y2⟩ := hs i Z (by omega) e1
        rw [if_neg (hn i (by omega))] at y2
        exact Or.inr ⟨by omega, _, y2, Y, y1, rfl⟩)
    dsimp only at y2 y3
    subst y2
    exact ⟨Y, y1, y3⟩
theorem upc_s {α β : Type} {b : β} : (upc (some b) : Option (β ⊕ α)) = some (.inl b) := rfl
/-- an act that finds the first, or none -/
theorem act_first {A : Ab} (hO : Ok A) {f g : Mem → Option (Int32 × Mem)} (p : Nat → Bool) (M : Nat) (hf : ∀ X, IC A X → (∀ i, i ≤ M → p i = true → (∀ j, j < i → ¬ p j = true) → ∃ Y, f X = some (nI i, Y) ∧ Sm scN X Y) ∧ ((∀ i, i ≤ M → ¬ p i = true) → ∃ Y, f X = some (-1000000004, Y) ∧ IC (fnd A 3) Y ∧ Sm C70 X Y)) (hg : ∀ X, IM A X → (∀ i, i ≤ M → p i = true → (∀ j, j < i → ¬ p j = true) → ∃ Y, g X = some (nI i, Y) ∧ IM A Y ∧ Sm M70 X Y) ∧ ((∀ i, i ≤ M → ¬ p i = true) → ∃ Y, g X = some (-1000000004, Y) ∧ IM (fnd A 3) Y ∧ Sm M70 X Y)) : Act f g A := by
  rcases first_or (P := fun i => p i = true) (fun i => Decidable.em _) M with ⟨i, i1, i2, i3⟩ | hn
  · exact act_tell hO (r := nI i) (fun X hX => (hf X hX).1 i i1 i2 i3) (fun X hX => (hg X hX).1 i i1 i2 i3)
  · exact ⟨-1000000004, fnd A 3, fnd_ok hO, fun X hX => (hf X hX).2 hn, fun X hX => (hg X hX).2 hn⟩
def wog (s : Nat → Nat) (n t w : Nat) : Nat := own s n t (tot (tK s t) (tH s t) w (s 2) (s 1) (tQ s t) n)
theorem op_worth {A : Ab} (hO : Ok A) (p1 p2 p3 : Int32) : Act (f_Tide_worth p1 p2 p3) (f_Model_worth p1 p2 p3) A := by
  have hg := hO.1
  have h0 := hg.1
  have hd := hg.2.1
  by_cases h1 : 0 ≤ p1.toInt ∧ p1.toInt < (aS A 0 : Int)
  · by_cases h2 : (1 : Int) ≤ p2.toInt ∧ p2.toInt ≤ ((40 : Nat) : Int)
    · by_cases h3 : 0 ≤ p3.toInt ∧ p3.toInt < ((999999999 + 1 : Nat) : Int)
      · obtain ⟨t, ht, rfl⟩ := ofr h1
        obtain ⟨n, hn, rfl⟩ := ofr (p := p2) (n := 41) (by omega)
        obtain ⟨v, hv, rfl⟩ := ofr h3
        obtain ⟨g0, g1, g2, g3, g4, g5⟩ := hg.2.2.2.2.2 t ht
        have hwl : ∀ i, wog (aS A) n t i ≤ 999999999 := fun i => own_le
        refine act_first hO (fun i => decide (v ≤ wog (aS A) n t i)) 999 (fun X hX => ?_) (fun X hX => ?_)
        · obtain ⟨X9, a1, a2, a3, a4⟩ := c_tryOn (n := n) hX.1 hg (by omega) ht (by omega)
          obtain ⟨X11, l, b, a, p, b1, b2, b3, b4⟩ := c_ftr (X := X9) a2 hg (by omega) (n := n) (i := 0) (k := tK (aS A) t) (c := tC (aS A) t) (q := tQ (aS A) t) (by omega) (by omega) (a3 0 (by omega)) (a3 2 (by omega)) (a3 4 (by omega)) (a3 5 (by omega)) g0 g2 g4 g5
          have b1' : f_Tide_followTrial (0 : Int32) (nI n) X9 = some X11 := b1
          have e : f_Tide_worth (nI t) (nI n) (nI v) X = it (fun a => f_Tide_worth_b55 (nI v) (nI (rst (aS A) n t)) a.1 a.2) FU ((0 : Int32), X11) := by
            unfold f_Tide_worth
            rw [c_has hX.1 h0, if_pos h1, bd_s, if_neg (by decide), li 40, c_isUpTo1 (by omega), if_pos h2, bd_s, if_neg (by decide), li 999999999, c_isUpTo0 (by omega), if_pos h3, bd_s, if_neg (by decide), a1, bd2_s, b1', bd_s]
          rw [e]
          refine fst_c (f := fun a => f_Tide_worth_b55 (nI v) (nI (rst (aS A) n t)) a.1 a.2) (fun i Z => (nI i, Z)) (fun i => decide (v ≤ wog (aS A) n t i)) (by omega) (fun Z => RC Z 2 (aS A) ∧ gI Z 50 0 = nI (tK (aS A) t) ∧ WF Z 51 l b a p ∧ Sm scN X Z) (fun Y => Sm scN X Y) (fun Y => IC (fnd A 3) Y ∧ Sm C70 X Y) ⟨a2.sm h0 b2 (by omega), ((b2 50 (by omega)).1 0).trans (a3 0 (by omega)), b3, a4.tr (b2.mono (fun k q => by unfold scN; omega))⟩ (fun i Z hi hZ => ?_) (fun Z hZ => hZ.2.2.2) (fun Z hZ => ?_)
          · obtain ⟨z1, z2, z3, z4⟩ := hZ
            have hS : Sm (fun k => k = 50) Z (sI Z 50 3 (nI i)) := sm_s1 Sm.rf
            have f0 : gI (sI Z 50 3 (nI i)) 50 0 = nI (tK (aS A) t) := by rw [gsI, if_neg (by omega)]; exact z2
            obtain ⟨e1, e2, e3, e4, e5⟩ := ws_brings (w := i) (r := aS A 2) b4 g4 g5
            refine ⟨_, ⟨z1.sm h0 hS (by omega), f0, z3.sm hS (by omega), z4.sI (by unfold scN; omega)⟩, ?_⟩
            show f_Tide_worth_b55 (nI v) (nI (rst (aS A) n t)) (nI i) Z = _
            unfold f_Tide_worth_b55
            simp only [lt_s1]
            rw [li 999, if_neg (by rw [nI_ltI (by omega) (by omega)]; omega), (hS 2 (by omega)).1 5, z1.2.2.1, c_brings (z3.sm hS (by omega)) f0 (by rw [gsI, if_pos ⟨rfl, rfl⟩]) g0 (by omega) hg.2.2.1 (by omega) (by omega) (by omega), bd_s, e1, c_filled rst_le (by omega), bd_s, own_rst, show nI i + (1 : Int32) = nI (i + 1) from by rw [li 1, nI_add]]
            have hw := hwl i
            show (if nI (wog (aS A) n t i) < nI v then _ else _) = _
            by_cases c : v ≤ wog (aS A) n t i
            · rw [if_neg (by rw [nI_ltI (by omega) (by omega)]; omega), if_pos (decide_eq_true c)]
            · rw [if_pos (by rw [nI_ltI (by omega) (by omega)]; omega), if_neg (by simp only [decide_eq_true_eq]; exact c)]
          · obtain ⟨Y, y1, y2, y3⟩ := c_finding (c := -1000000004) (i := 3) (hX.scratch hO hZ.2.2.2) hO (by decide) (by omega)
            refine ⟨Y, ⟨y2, (hZ.2.2.2.mono (fun k q => by unfold scN at q; unfold C70; omega)).tr y3⟩, ?_⟩
            show f_Tide_worth_b55 (nI v) (nI (rst (aS A) n t)) (nI 1000) Z = _
            unfold f_Tide_worth_b55
            rw [li 999, if_pos (by rw [nI_ltI (by omega) (by omega)]; omega), y1, bd2_s]
        · have e : f_Model_worth (nI t) (nI n) (nI v) X = it (fun a => f_Model_worth_b53 (nI t) (nI n) (nI v) (nI (aS A (23 + 6 * t + 3))) a.1 a.2.1 a.2.2) FU ((-1 : Int32), (0 : Int32), X) := by
            unfold f_Model_worth
            rw [m_isThing hX.1 h0, if_pos h1, bd_s, if_neg (by decide), lL 40, m_isIn1 (by omega), if_pos h2, bd_s, if_neg (by decide), lL 999999999, m_isIn0 (by omega), if_pos h3, bd_s, if_neg (by decide), li 3, m_its hX.1 (by omega) (by omega), bd_s]
          rw [e]
          have hend : ∀ Z, (∃ u, RM Z 71 u ∧ (∀ j, j ≠ 23 + 6 * t + 3 → u j = aS A j) ∧ Sm (fun k => k = 71 ∨ k = 73 ∨ k = 74) X Z) → IM A (sI Z 71 (23 + 6 * t + 3) (nI (aS A (23 + 6 * t + 3)))) ∧ Sm M70 X (sI Z 71 (23 + 6 * t + 3) (nI (aS A (23 + 6 * t + 3)))) ∧ ∀ b, f_Model_worth_j107 (nI t) (nI (aS A (23 + 6 * t + 3))) b Z = f_Model_orNone b (sI Z 71 (23 + 6 * t + 3) (nI (aS A (23 + 6 * t + 3)))) := by
            intro Z ⟨u, z1, z2, z3⟩
            have hR : RM (sI Z 71 (23 + 6 * t + 3) (nI (aS A (23 + 6 * t + 3)))) 71 (aS A) := (z1.put).ext (fun j hj => by
              by_cases c : j = 23 + 6 * t + 3
              · subst c; rw [up_s]
              · rw [up_n c]; exact z2 j c)
            have hI := hX.shore hR (z3.sI (Or.inl rfl))
            refine ⟨hI.1, hI.2, fun b => ?_⟩
            unfold f_Model_worth_j107
            rw [li 3, m_at, bd_s, wrn (by omega) (by omega), bd2_id]
          refine fst_m (f := fun a => f_Model_worth_b53 (nI t) (nI n) (nI v) (nI (aS A (23 + 6 * t + 3))) a.1 a.2.1 a.2.2) (fun i => decide (v ≤ wog (aS A) n t i)) (M := 999) (by omega) (fun Z => ∃ u, RM Z 71 u ∧ (∀ j, j ≠ 23 + 6 * t + 3 → u j = aS A j) ∧ Sm (fun k => k = 71 ∨ k = 73 ∨ k = 74) X Z) (fun Y => IM A Y ∧ Sm M70 X Y) (fun Y => IM (fnd A 3) Y ∧ Sm M70 X Y) ⟨aS A, hX.1, fun _ _ => rfl, Sm.rf⟩ (fun i Z hi hZ => ?_) (fun i Z hi hZ => ?_) (fun Z hZ => ?_)
          · obtain ⟨u, z1, z2, z3⟩ := hZ
            have l2 : RM (sI Z 71 (23 + 6 * t + 3) (nI i)) 71 (up u (23 + 6 * t + 3) i) := z1.put
            generalize hu2 : up u (23 + 6 * t + 3) i = u2 at l2
            have e0 : u2 (23 + 6 * t + 3) = i := by rw [← hu2, up_s]
            have eo : ∀ j, j ≠ 23 + 6 * t + 3 → u2 j = aS A j := fun j j1 => by rw [← hu2, up_n j1]; exact z2 j j1
            obtain ⟨v1, v2⟩ := vr_of (u := u2) hg ht (fun j hj => eo j (by omega)) (by rw [eo _ (by omega)]; exact g0) (by rw [eo _ (by omega)]; exact g2) (by omega) (by rw [eo _ (by omega)]; exact g4)
            obtain ⟨Y, y1, y2, y3⟩ := m_purseOn (n := n) (f := tF (aS A) t) l2 v1 (by omega) g1 (by omega)
            have ev : totT (aS A) u2 n t = tot (tK (aS A) t) (tH (aS A) t) i (aS A 2) (aS A 1) (tQ (aS A) t) n := by
              have k1 : tK u2 t = tK (aS A) t := eo _ (by omega)
              have k2 : tH u2 t = tH (aS A) t := by
                show u2 (3 + u2 (23 + 6 * t + 2)) = _
                rw [eo (23 + 6 * t + 2) (by omega)]
                exact eo _ (by omega)
              have k3 : tW u2 t = i := e0
              have k4 : tQ u2 t = tQ (aS A) t := by
                show (u2 (23 + 6 * t + 4), u2 (23 + 6 * t + 5)) = _
                rw [eo (23 + 6 * t + 4) (by omega), eo (23 + 6 * t + 5) (by omega)]
              show tot (tK u2 t) (tH u2 t) (tW u2 t) (aS A 2) (aS A 1) (tQ u2 t) n = _
              rw [k1, k2, k3, k4]
            rw [pn_vr hg v2 ht g1, if_pos rfl, ev] at y1
            have y1' : f_Model_purseOn (nI (tF (aS A) t)) (nI n) (sI Z 71 (23 + 6 * t + 3) (nI i)) = some (nI (wog (aS A) n t i), Y) := y1
            refine ⟨Y, ⟨u2, y2, eo, (z3.sI (Or.inl rfl)).tr y3⟩, ?_⟩
            have hfm : f_Model_its (nI t) (nI 1) (sI Z 71 (23 + 6 * t + 3) (nI i)) = some (nI (tF (aS A) t)) := by
              rw [m_its l2 (by omega) (by omega), eo _ (by omega)]
            show f_Model_worth_b53 (nI t) (nI n) (nI v) (nI (aS A (23 + 6 * t + 3))) (-1) (nI i) Z = _
            unfold f_Model_worth_b53 f_Model_worth_j99
            simp only [lt_s1]
            rw [li 999, if_neg (by rw [nI_ltI (by omega) (by omega)]; omega), if_neg (by decide), li 3, m_at, bd_s, wrn (by omega) (by omega), show f_Model_its (nI t) (1 : Int32) (sI Z 71 (23 + 6 * t + 3) (nI i)) = some (nI (tF (aS A) t)) from hfm, bd_s, y1', bd2_s, show nI i + (1 : Int32) = nI (i + 1) from by rw [li 1, nI_add]]
            have hw := hwl i
            by_cases c : v ≤ wog (aS A) n t i
            · rw [if_neg (by rw [nI_ltI (by omega) (by omega)]; omega), if_pos (decide_eq_true c)]
            · rw [if_pos (by rw [nI_ltI (by omega) (by omega)]; omega), if_neg (by simp only [decide_eq_true_eq]; exact c)]
          · obtain ⟨q1, q2, q3⟩ := hend Z hZ
            refine ⟨_, ⟨q1, q2⟩, ?_⟩
            show f_Model_worth_b53 (nI t) (nI n) (nI v) (nI (aS A (23 + 6 * t + 3))) (nI i) (nI (i + 1)) Z = _
            unfold f_Model_worth_b53
            rw [if_pos (show (0 : Int32) ≤ nI i from by rw [li 0, nI_leI (by omega) (by omega)]; omega), q3, m_orN (by omega), upc_s, ite_self]
          · obtain ⟨q1, q2, q3⟩ := hend Z hZ
            obtain ⟨Y, y1, y2, y3⟩ := m_finds (c := -1000000004) (i := 3) q1 (by decide) (by omega)
            refine ⟨Y, ⟨y2, q2.tr y3⟩, ?_⟩
            show f_Model_worth_b53 (nI t) (nI n) (nI v) (nI (aS A (23 + 6 * t + 3))) (-1) (nI 1000) Z = _
            unfold f_Model_worth_b53
            rw [li 999, if_pos (by rw [nI_ltI (by omega) (by omega)]; omega), q3, m_orN1, y1, upc_s]
      · refine act_bey hO (fun X hX => ?_) (fun X hX => ?_)
        · unfold f_Tide_worth f_Tide_worth_j31
          rw [c_has hX.1 h0, if_pos h1, bd_s, if_neg (by decide), li 40, c_isUpTo1 (by omega), if_pos h2, bd_s, if_neg (by decide), li 999999999, c_isUpTo0 (by omega), if_neg h3, bd_s, if_pos rfl, bd2_id]
        · unfold f_Model_worth f_Model_worth_j32
          rw [m_isThing hX.1 h0, if_pos h1, bd_s, if_neg (by decide), lL 40, m_isIn1 (by omega), if_pos h2, bd_s, if_neg (by decide), lL 999999999, m_isIn0 (by omega), if_neg h3, bd_s, if_pos rfl, bd2_id]
    · refine act_bey hO (fun X hX => ?_) (fun X hX => ?_)
      · unfold f_Tide_worth f_Tide_worth_j31
        rw [c_has hX.1 h0, if_pos h1, bd_s, if_neg (by decide), li 40, c_isUpTo1 (by omega), if_neg h2, bd_s, if_pos rfl, bd2_id]
      · unfold f_Model_worth f_Model_worth_j32
        rw [m_isThing hX.1 h0, if_pos h1, bd_s, if_neg (by decide), lL 40, m_isIn1 (by omega), if_neg h2, bd_s, if_pos rfl, bd2_id]
  · refine act_bey hO (fun X hX => ?_) (fun X hX => ?_)
    · unfold f_Tide_worth f_Tide_worth_j31
      rw [c_has hX.1 h0, if_neg h1, bd_s, if_pos rfl, bd2_id]
    · unfold f_Model_worth f_Model_worth_j32
      rw [m_isThing hX.1 h0, if_neg h1, bd_s, if_pos rfl, bd2_id]
