/-! all ways -/
def Wys (X : Mem) (s : Nat → Nat) (n : Nat) : Prop := ∀ t, t < s 0 → ∃ l b a p, WF X (60 + t) l b a p ∧ WS (tK s t) (tH s t) (s 1) (tQ s t) n l b a p
theorem c_follow1 {D : Nat} {X : Mem} {s : Nat → Nat} (h : RC X 2 s) (hg : Gd D s) (hD : D ≤ 1000000) {t n : Nat} (ht : t < s 0) (hn : n ≤ 1000) : ∃ Y l b a p, f_Tide_follow (nI t) (nI n) X = some Y ∧ Sm (fun z => z = 60 + t) X Y ∧ WF Y (60 + t) l b a p ∧ WS (tK s t) (tH s t) (s 1) (tQ s t) n l b a p := by
  obtain ⟨h0, h1, h2, h3, h4, h5⟩ := hg
  obtain ⟨g0, g1, g2, g3, g4, g5⟩ := h5 t ht
  have hh := h3 _ g2
  obtain ⟨Y, l, b, a, p, y1, y2, y3, y4⟩ := c_follow (X := X) (W := 60 + t) (T := (2 + 3) + 1 + t) (k := tK s t) (h := tH s t) (d := s 1) (n := n) (q := tQ s t) (by omega) g0 hh (by omega) hn g4 g5 (h.th0 ht) (h.th ht (by omega)) (h.th ht (by omega))
  refine ⟨Y, l, b, a, p, ?_, y2, y3, y4⟩
  unfold f_Tide_follow
  simp only [lt_s1]
  rw [rdRn (by omega) (by omega), rdRn (by omega) (by omega), h.th ht (by omega), rdn g2 (by omega), h.2.2.2.1 _ g2, h.2.1, y1, bd_s]
theorem c_followAll {D : Nat} {X : Mem} {s : Nat → Nat} (h : RC X 2 s) (hg : Gd D s) (hD : D ≤ 1000000) {n : Nat} (hn : n ≤ 1000) : ∃ Y, f_Tide_followAll (nI n) X = some Y ∧ Wys Y s n ∧ Sm (fun z => 60 ≤ z ∧ z < 70) X Y := by
  have h0 := hg.1
  obtain ⟨Y, y1, y2⟩ := it_run (f := fun a => f_Tide_followAll_b2 (nI n) a.1 a.2) (fun i a => a.1 = nI i ∧ (∀ t, t < i → ∃ l b a' p, WF a.2 (60 + t) l b a' p ∧ WS (tK s t) (tH s t) (s 1) (tQ s t) n l b a' p) ∧ Sm (fun z => 60 ≤ z ∧ z < 70) X a.2) (fun Y => Wys Y s n ∧ Sm (fun z => 60 ≤ z ∧ z < 70) X Y) (s 0) (by omega) ((0 : Int32), X) ⟨rfl, fun t ht => absurd ht (by omega), Sm.rf⟩ (by
    intro i a hi ⟨e1, e2, e3⟩
    obtain ⟨x, Z⟩ := a
    dsimp only at e1 e2 e3 ⊢
    subst e1
    have hZ : RC Z 2 s := h.sm h0 e3 (by omega)
    unfold f_Tide_followAll_b2
    rw [lt_s1, hZ.1]
    by_cases hlt : i < s 0
    · right
      obtain ⟨Y, l, b, a, p, c1, c2, c3, c4⟩ := c_follow1 hZ hg hD hlt hn
      rw [if_neg (by rw [nI_leI (by omega) (by omega)]; omega), c1, bd_s, lt_s1, li 1, nI_add]
      refine ⟨hlt, _, rfl, rfl, fun t ht => ?_, e3.tr (c2.mono (fun z hz => by omega))⟩
      by_cases hti : t = i
      · subst hti; exact ⟨l, b, a, p, c3, c4⟩
      · obtain ⟨l2, b2, a2, p2, f1, f2⟩ := e2 t (by omega)
        exact ⟨l2, b2, a2, p2, f1.sm c2 (by omega), f2⟩
    · have : i = s 0 := by omega
      subst this
      left
      rw [if_pos (by rw [nI_leI (by omega) (by omega)]; omega)]
      exact ⟨Z, rfl, e2, e3⟩)
  exact ⟨Y, y1, y2⟩
theorem c_brings {X : Mem} {W T k w r l b a : Nat} {p : Nat × Nat} (hW : WF X W l b a p) (t0 : gI X T 0 = nI k) (t3 : gI X T 3 = nI w) (hk : k < 6) (hw : w ≤ 9999) (hr : r ≤ 50) (hb : b < 2 ^ 31) (ha : a ≤ 1000000) (hp : p.2 < 2 ^ 31) : f_Way_brings W T (nI r) X = some (nI (if 0 < b then rp k w r p.2 a else 0)) := by
  unfold f_Way_brings
  simp only [lt_s1]
  rw [hW.2.1, hW.2.2.1, hW.2.2.2.2]
  by_cases c : 0 < b
  · rw [li 0, if_neg (by rw [nI_leI (by omega) (by omega)]; omega), if_pos c, c_repaid t0 t3 hk hw hr hp ha, bd_s]
  · rw [li 0, if_pos (by rw [nI_leI (by omega) (by omega)]; omega), if_neg c]
theorem c_filled {x y : Nat} (hx : x ≤ 999999999) (hy : y ≤ 1000000000) : f_Tide_filled (nI x) (nI y) = some (nI (min 999999999 (x + y))) := by
  unfold f_Tide_filled
  rw [lt_s1, nI_add, li 999999999]
  by_cases c : x + y < 999999999
  · rw [if_pos (by rw [nI_ltI (by omega) (by omega)]; exact c), Nat.min_eq_right (by omega)]
  · rw [if_neg (by rw [nI_ltI (by omega) (by omega)]; exact c), Nat.min_eq_left (by omega)]
theorem ev_2 {k h d : Nat} {q : Nat × Nat} (h1 : q.1 ≤ 2) (h2 : q.2 ≤ d) (m : Nat) : (ev k h d q m).2 ≤ d + m := (ev_good h1 h2 m).2
/-- what a thing brings in n days at an interest -/
abbrev tb1 (s : Nat → Nat) (n r t : Nat) : Nat := tot (tK s t) (tH s t) (tW s t) r (s 1) (tQ s t) n
theorem c_bringT {D : Nat} {X : Mem} {s : Nat → Nat} (h : RC X 2 s) (hg : Gd D s) (hD : D ≤ 998000) {t n r : Nat} (ht : t < s 0) (hn : n ≤ 1000) (hr : r ≤ 50) (hW : Wys X s n) : f_Way_brings (60 + t) ((2 + 3) + 1 + t) (nI r) X = some (nI (tb1 s n r t)) ∧ tb1 s n r t ≤ 99999999 := by
  obtain ⟨h0, h1, h2, h3, h4, h5⟩ := hg
  obtain ⟨g0, g1, g2, g3, g4, g5⟩ := h5 t ht
  obtain ⟨l, b, a, p, w1, w2⟩ := hW t ht
  obtain ⟨v1, v2, v3, v4, v5, v6, v7⟩ := w2
  have hp : p.2 ≤ s 1 + n := by rw [v1]; exact ev_2 g4 g5 n
  have e := v5 n (Nat.le_refl _) (tW s t) r
  have e2 : (if 0 < b then rp (tK s t) (tW s t) r p.2 a else 0) = tb1 s n r t := by
    show _ = tot (tK s t) (tH s t) (tW s t) r (s 1) (tQ s t) n
    rw [e]
    by_cases c : 0 < b
    · rw [if_pos c, if_pos ⟨c, v3⟩]
    · rw [if_neg c, if_neg (fun q => c q.1)]
  refine ⟨?_, ?_⟩
  · rw [c_brings w1 (h.th0 ht) (h.th ht (by omega)) g0 g3 hr (by omega) (by omega) (by omega), e2]
  · rw [← e2]
    split
    · exact rp_le
    · omega
def trI (s : Nat → Nat) (n f r : Nat) (z : Int32) (t : Nat) : Nat := if tF s t = f ∧ nI t ≠ z then tb1 s n r t else 0
theorem min_add (p x y : Nat) : min 999999999 (min 999999999 (p + x) + y) = min 999999999 (p + (x + y)) := by omega
theorem c_purseThen {D : Nat} {X : Mem} {s : Nat → Nat} (h : RC X 2 s) (hg : Gd D s) (hD : D ≤ 998000) {f n r : Nat} {z : Int32} (hf : f < 4) (hn : n ≤ 1000) (hr : r ≤ 50) (hW : Wys X s n) : f_Tide_purseThen (nI f) (nI r) z X = some (nI (min 999999999 (s (19 + f) + sg (trI s n f r z) (s 0)))) := by
  have h0 := hg.1
  have hp := hg.2.2.2.2.1 f hf
  unfold f_Tide_purseThen
  rw [rdn hf (by omega), h.2.2.2.2.1 f hf]
  have hst : (nI (s (19 + f)), (0 : Int32)) = (fun i => (nI (min 999999999 (s (19 + f) + sg (trI s n f r z) i)), nI i)) 0 := by
    show (nI (s (19 + f)), (0 : Int32)) = (nI (min 999999999 (s (19 + f) + 0)), nI 0)
    rw [Nat.add_zero, Nat.min_eq_right hp]
    rfl
  rw [hst]
  refine it_for (fun i => (nI (min 999999999 (s (19 + f) + sg (trI s n f r z) i)), nI i)) (s 0) _ (by omega) (fun i hi => ?_) ?_
  · obtain ⟨g0, g1, g2, g3, g4, g5⟩ := hg.2.2.2.2.2 i hi
    unfold f_Tide_purseThen_b14 f_Tide_purseThen_j73
    simp only [lt_s1]
    rw [h.1, if_neg (by rw [nI_leI (by omega) (by omega)]; omega), rdRn (by omega) (by omega), h.th hi (by omega), li 1, nI_add]
    show _ = some (Sum.inr (nI (min 999999999 (s (19 + f) + (sg (trI s n f r z) i + trI s n f r z i))), nI (i + 1)))
    by_cases c1 : s (23 + 6 * i + 1) = f
    · rw [if_pos (by rw [c1])]
      by_cases c2 : nI i = z
      · rw [if_pos c2, show trI s n f r z i = 0 from if_neg (fun q => q.2 c2)]
        rfl
      · obtain ⟨b1, b2⟩ := c_bringT h hg hD hi hn hr hW
        rw [if_neg c2, rdRn (by omega) (by omega), b1, bd_s, c_filled (Nat.min_le_left _ _) (by omega), bd_s, show trI s n f r z i = tb1 s n r i from if_pos ⟨c1, c2⟩, min_add]
    · rw [if_neg (by rw [nI_eq (by omega) (by omega)]; exact c1), show trI s n f r z i = 0 from if_neg (fun q => c1 q.1)]
      rfl
  · unfold f_Tide_purseThen_b14
    simp only [lt_s1]
    rw [h.1, if_pos (by rw [nI_leI (by omega) (by omega)]; omega)]
theorem nI_nm1 {t : Nat} (ht : t < 100) : nI t ≠ (-1 : Int32) := by
  intro e
  have := congrArg Int32.toInt e
  rw [nI_toInt (by omega), show (-1 : Int32).toInt = -1 from by decide] at this
  omega
theorem trI_tot {s : Nat → Nat} {n f t : Nat} (ht : t < 100) : trI s n f (s 2) (-1) t = totS s n f t := by
  unfold trI totS
  by_cases c : tF s t = f
  · rw [if_pos ⟨c, nI_nm1 ht⟩, if_pos c]
  · rw [if_neg (fun q => c q.1), if_neg c]
/-- a purse after n days -/
def pn (s : Nat → Nat) (n f : Nat) : Nat := min 999999999 (s (19 + f) + sg (totS s n f) (s 0))
theorem c_pn {D : Nat} {X : Mem} {s : Nat → Nat} (h : RC X 2 s) (hg : Gd D s) (hD : D ≤ 998000) {f n : Nat} (hf : f < 4) (hn : n ≤ 1000) (hW : Wys X s n) : f_Tide_purseThen (nI f) (nI (s 2)) (-1) X = some (nI (pn s n f)) := by
  rw [c_purseThen h hg hD hf hn hg.2.2.1 hW]
  have h0 := hg.1
  rw [sg_cong (fun t ht => trI_tot (s := s) (n := n) (f := f) (by omega : t < 100))]
  rfl
theorem m_purseOn {D : Nat} {X : Mem} {s : Nat → Nat} (h : RM X 71 s) (hg : Gd D s) (hD : D ≤ 998000) {f n : Nat} (hf : f < 4) (hn : n ≤ 1000) : ∃ Y, f_Model_purseOn (nI f) (nI n) X = some (nI (pn s n f), Y) ∧ RM Y 71 s ∧ Sm (fun k => k = 71 ∨ k = 73 ∨ k = 74) X Y := by
  obtain ⟨X2, a1, a2, a3⟩ := m_copyRow (B := 74) h (by omega)
  obtain ⟨X4, u, b1, b2, b3, b4⟩ := m_goes (m := n) (h.sm a3 (by omega)) hg hn (by omega)
  obtain ⟨X7, c1, c2, c3⟩ := m_copyRow (B := 71) (a2.sm b4 (by omega)) (by omega)
  unfold f_Model_purseOn
  rw [a1, bd_s, b1, bd_s, li 19, nI_add, b2.rd (by omega), c1, bd_s, b3.2.2.2.2.2.2 f hf]
  exact ⟨X7, rfl, c2, ((a3.mono (fun k q => by omega)).tr (b4.mono (fun k q => by omega))).tr (c3.mono (fun k q => by omega))⟩
theorem op_on {A : Ab} (hO : Ok A) (p1 p2 : Int32) : Act (f_Tide_on p1 p2) (f_Model_on p1 p2) A := by
  have hg := hO.1
  by_cases h1 : 0 ≤ p1.toInt ∧ p1.toInt < ((4 : Nat) : Int)
  · by_cases h2 : 0 ≤ p2.toInt ∧ p2.toInt < ((400 + 1 : Nat) : Int)
    · obtain ⟨f, hf, rfl⟩ := ofr h1
      obtain ⟨n, hn, rfl⟩ := ofr h2
      refine act_tell hO (r := nI (pn (aS A) n f)) (fun X hX => ?_) (fun X hX => ?_)
      · obtain ⟨Y, y1, y2, y3⟩ := c_followAll (n := n) hX.1 hg (by omega) (by omega)
        have hY : RC Y 2 (aS A) := hX.1.sm hg.1 y3 (by omega)
        unfold f_Tide_on
        rw [li 4, c_isBelow (by omega), if_pos h1, bd_s, if_neg (by decide), li 400, c_isUpTo0 (by omega), if_pos h2, bd_s, if_neg (by decide), y1, bd_s, lt_s1, hY.2.2.1, c_pn hY hg (by omega) hf (by omega) y2, bd_s]
        exact ⟨Y, rfl, y3.mono (fun z hz => by unfold scN; omega)⟩
      · obtain ⟨Y, y1, y2, y3⟩ := m_purseOn (f := f) (n := n) hX.1 hg (by omega) hf (by omega)
        unfold f_Model_on
        rw [m_isFamily, if_pos h1, bd_s, if_neg (by decide), lL 400, m_isIn0 (by omega), if_pos h2, bd_s, if_neg (by decide), y1, bd2_s]
        exact ⟨Y, rfl, hX.shore y2 y3⟩
    · refine act_bey hO (fun X hX => ?_) (fun X hX => ?_)
      · unfold f_Tide_on f_Tide_on_j19
        rw [li 4, c_isBelow (by omega), if_pos h1, bd_s, if_neg (by decide), li 400, c_isUpTo0 (by omega), if_neg h2, bd_s, if_pos rfl, bd2_id]
      · unfold f_Model_on f_Model_on_j28
        rw [m_isFamily, if_pos h1, bd_s, if_neg (by decide), lL 400, m_isIn0 (by omega), if_neg h2, bd_s, if_pos rfl, bd2_id]
  · refine act_bey hO (fun X hX => ?_) (fun X hX => ?_)
    · unfold f_Tide_on f_Tide_on_j19
      rw [li 4, c_isBelow (by omega), if_neg h1, bd_s, if_pos rfl, bd2_id]
    · unfold f_Model_on f_Model_on_j28
      rw [m_isFamily, if_neg h1, bd_s, if_pos rfl, bd2_id]
