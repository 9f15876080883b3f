/-! courses: as many days as a sheet is long, less one; a sheet may be empty -/
def fN (N : Int32) (n : Nat) : Prop := N = nI n ∨ (N = -1 ∧ n = 0)
theorem fN_of (m : Nat) : fN (nI m - (1 : Int32)) (m - 1) := by
  by_cases c : m = 0
  · subst c; exact Or.inr ⟨by decide, rfl⟩
  · exact Or.inl (by rw [li 1, pk_sub (by omega)])
theorem ws_z {k h d : Nat} {q : Nat × Nat} : WS k h d q 0 0 0 0 q := by
  refine ⟨rfl, by omega, by omega, by omega, fun i hi w r => ?_, fun i hi hq => ?_, fun hq => ⟨fun i hi h2 => ?_, fun c => absurd c (by omega)⟩, fun _ => rfl⟩
  · have : i = 0 := by omega
    subst this
    rw [if_neg (by omega)]
    rfl
  · have : i = 0 := by omega
    subst this
    constructor
    · intro c; exact absurd c hq
    · intro c; exact absurd c.1 (by omega)
  · have : i = 0 := by omega
    subst this
    have h3 : q.1 = 2 := h2
    omega
theorem c_followm {X : Mem} {W T k h d : Nat} {q : Nat × Nat} (hWT : T ≠ W) (hk : k < 6) (hd : d ≤ 1000000) (hq1 : q.1 ≤ 2) (hq2 : q.2 ≤ d) (t0 : gI X T 0 = nI k) (t4 : gI X T 4 = nI q.1) (t5 : gI X T 5 = nI q.2) : ∃ Y, f_Way_follow W T (nI h) (nI d) (-1) X = some Y ∧ Sm (fun z => z = W) X Y ∧ WF Y W 0 0 0 q := by
  unfold f_Way_follow
  simp only [lt_s1]
  have hT : ∀ (Z : Mem) (j i : Nat) (v : Int32), gI (sI Z W j v) T i = gI Z T i := fun Z j i v => by rw [gsI, if_neg (fun c => hWT c.1)]
  simp only [hT]
  rw [t4, t5, t0]
  generalize hX7 : sI (sI (sI (sI (sI X W 0 0) W 1 0) W 2 0) W 3 (nI q.1)) W 4 (nI q.2) = X7
  have hS7 : Sm (fun z => z = W) X X7 := by rw [← hX7]; exact sm_s1 (sm_s1 (sm_s1 (sm_s1 (sm_s1 Sm.rf))))
  have hW7 : WF X7 W 0 0 0 q := by
    rw [← hX7]
    refine ⟨?_, ?_, ?_, ?_, ?_⟩
    · rw [gsI, if_neg (by omega), gsI, if_neg (by omega), gsI, if_neg (by omega), gsI, if_neg (by omega), gsI, if_pos ⟨rfl, rfl⟩]; rfl
    · rw [gsI, if_neg (by omega), gsI, if_neg (by omega), gsI, if_neg (by omega), gsI, if_pos ⟨rfl, rfl⟩]; rfl
    · rw [gsI, if_neg (by omega), gsI, if_neg (by omega), gsI, if_pos ⟨rfl, rfl⟩]; rfl
    · rw [gsI, if_neg (by omega), gsI, if_pos ⟨rfl, rfl⟩]
    · rw [gsI, if_pos ⟨rfl, rfl⟩]
  have hj : f_Way_follow_j51 W T (nI d) (-1) X7 = some X7 := by
    unfold f_Way_follow_j51
    rw [lt_s1, hW7.2.2.2.1]
    by_cases c : q.1 = 2
    · have t1 := tm_le k
      have b1 := spr_ge (max d (q.2 + tm k))
      have b2 := spr_lt (max d (q.2 + tm k))
      have hmax : (if nI d < nI (q.2 + tm k) then nI (q.2 + tm k) else nI d) = nI (max d (q.2 + tm k)) := by
        by_cases c : d < q.2 + tm k
        · rw [if_pos (by rw [nI_ltI (by omega) (by omega)]; exact c), Nat.max_eq_right (by omega)]
        · rw [if_neg (by rw [nI_ltI (by omega) (by omega)]; exact c), Nat.max_eq_left (by omega)]
      rw [if_pos (by rw [c]; rfl), lt_s1, (hS7 T hWT).1, t0]
      unfold f_Way_waitForSpring
      simp only [lt_s1]
      rw [hW7.2.2.2.2, c_term hk, bd_s, nI_add, hmax, c_springFrom (by omega), bd_s, pk_sub (by omega), if_pos (by
        rw [Int32.le_iff_toInt_le, nI_toInt (by omega), show (-1 : Int32).toInt = -1 from by decide]
        omega), bd_s]
    · rw [li 2, if_neg (by rw [nI_eq (by omega) (by omega)]; exact c)]
  rw [hW7.2.2.2.1]
  by_cases c : q.1 = 1
  · have hw : f_Way_waitForTide W (nI k) (nI h) (nI d) (-1) X7 = some X7 := by
      refine it_for (fun _ => ((0 : Int32), X7)) 0 _ (by omega) (fun i hi => absurd hi (by omega)) ?_
      show f_Way_waitForTide_b3 W (nI k) (nI h) (nI d) (-1) (0 : Int32) X7 = _
      unfold f_Way_waitForTide_b3
      rw [if_pos (by decide)]
    rw [if_pos (by rw [c]; rfl), hw, bd_s, hj]
    exact ⟨X7, rfl, hS7, hW7⟩
  · rw [li 1, if_neg (by rw [nI_eq (by omega) (by omega)]; exact c)]
    exact ⟨X7, hj, hS7, hW7⟩
theorem c_followX {X : Mem} {N : Int32} {W T k h d n : Nat} {q : Nat × Nat} (hN : fN N n) (hWT : T ≠ W) (hk : k < 6) (hh : h ≤ 9) (hd : d ≤ 1000000) (hn : n ≤ 1000) (hq1 : q.1 ≤ 2) (hq2 : q.2 ≤ d) (t0 : gI X T 0 = nI k) (t4 : gI X T 4 = nI q.1) (t5 : gI X T 5 = nI q.2) : ∃ Y l b a p, f_Way_follow W T (nI h) (nI d) N X = some Y ∧ Sm (fun z => z = W) X Y ∧ WF Y W l b a p ∧ WS k h d q n l b a p := by
  rcases hN with rfl | ⟨rfl, rfl⟩
  · exact c_follow hWT hk hh hd hn hq1 hq2 t0 t4 t5
  · obtain ⟨Y, y1, y2, y3⟩ := c_followm (h := h) hWT hk hd hq1 hq2 t0 t4 t5
    exact ⟨Y, 0, 0, 0, q, y1, y2, y3, ws_z⟩
theorem c_follow1X {D : Nat} {X : Mem} {N : Int32} {s : Nat → Nat} (h : RC X 2 s) (hg : Gd D s) (hD : D ≤ 1000000) {t n : Nat} (hN : fN N n) (ht : t < s 0) (hn : n ≤ 1000) : ∃ Y l b a p, f_Tide_follow (nI t) N X = some Y ∧ Sm (fun z => z = 60 + t) X Y ∧ WF Y (60 + t) l b a p ∧ WS (tK s t) (tH s t) (s 1) (tQ s t) n l b a p := by
  obtain ⟨h0, h1, h2, h3, h4, h5⟩ := hg
  obtain ⟨g0, g1, g2, g3, g4, g5⟩ := h5 t ht
  have hh := h3 _ g2
  obtain ⟨Y, l, b, a, p, y1, y2, y3, y4⟩ := c_followX (X := X) (W := 60 + t) (T := (2 + 3) + 1 + t) (k := tK s t) (h := tH s t) (d := s 1) (n := n) (q := tQ s t) hN (by omega) g0 hh (by omega) hn g4 g5 (h.th0 ht) (h.th ht (by omega)) (h.th ht (by omega))
  refine ⟨Y, l, b, a, p, ?_, y2, y3, y4⟩
  unfold f_Tide_follow
  simp only [lt_s1]
  rw [rdRn (by omega) (by omega), rdRn (by omega) (by omega), h.th ht (by omega), rdn g2 (by omega), h.2.2.2.1 _ g2, h.2.1, y1, bd_s]
theorem c_followAllX {D : Nat} {X : Mem} {N : Int32} {s : Nat → Nat} (h : RC X 2 s) (hg : Gd D s) (hD : D ≤ 1000000) {n : Nat} (hN : fN N n) (hn : n ≤ 1000) : ∃ Y, f_Tide_followAll N X = some Y ∧ Wys Y s n ∧ Sm (fun z => 60 ≤ z ∧ z < 70) X Y := by
  have h0 := hg.1
  obtain ⟨Y, y1, y2⟩ := it_run (f := fun a => f_Tide_followAll_b2 N a.1 a.2) (fun i a => a.1 = nI i ∧ (∀ t, t < i → ∃ l b a' p, WF a.2 (60 + t) l b a' p ∧ WS (tK s t) (tH s t) (s 1) (tQ s t) n l b a' p) ∧ Sm (fun z => 60 ≤ z ∧ z < 70) X a.2) (fun Y => Wys Y s n ∧ Sm (fun z => 60 ≤ z ∧ z < 70) X Y) (s 0) (by omega) ((0 : Int32), X) ⟨rfl, fun t ht => absurd ht (by omega), Sm.rf⟩ (by
    intro i a hi ⟨e1, e2, e3⟩
    obtain ⟨x, Z⟩ := a
    dsimp only at e1 e2 e3 ⊢
    subst e1
    have hZ : RC Z 2 s := h.sm h0 e3 (by omega)
    unfold f_Tide_followAll_b2
    rw [lt_s1, hZ.1]
    by_cases hlt : i < s 0
    · right
      obtain ⟨Y, l, b, a, p, c1, c2, c3, c4⟩ := c_follow1X hZ hg hD hN hlt hn
      rw [if_neg (by rw [nI_leI (by omega) (by omega)]; omega), c1, bd_s, lt_s1, li 1, nI_add]
      refine ⟨hlt, _, rfl, rfl, fun t ht => ?_, e3.tr (c2.mono (fun z hz => by omega))⟩
      by_cases hti : t = i
      · subst hti; exact ⟨l, b, a, p, c3, c4⟩
      · obtain ⟨l2, b2, a2, p2, f1, f2⟩ := e2 t (by omega)
        exact ⟨l2, b2, a2, p2, f1.sm c2 (by omega), f2⟩
    · have : i = s 0 := by omega
      subst this
      left
      rw [if_pos (by rw [nI_leI (by omega) (by omega)]; omega)]
      exact ⟨Z, rfl, e2, e3⟩)
  exact ⟨Y, y1, y2⟩
theorem c_addTo {Z : Mem} {cs : Nat → Nat} {b x m : Nat} (hm : m ≤ 40) (hb : b ≤ m) (hx : x ≤ 99999999) (hc : ∀ j, j < m → gI Z 49 j = nI (cs j) ∧ cs j ≤ 999999999) : ∃ Y, f_Tide_addToCourse (nI b) (nI x) (nI m) Z = some Y ∧ Sm (fun k => k = 49) Z Y ∧ ∀ j, j < m → gI Y 49 j = nI (if b ≤ j then min 999999999 (cs j + x) else cs j) := by
  unfold f_Tide_addToCourse
  obtain ⟨Y, y1, y2⟩ := it_run (f := fun a => f_Tide_addToCourse_b3 (nI x) (nI m) a.1 a.2) (fun i a => a.1 = nI (b + i) ∧ Sm (fun k => k = 49) Z a.2 ∧ ∀ j, j < m → gI a.2 49 j = nI (if b ≤ j ∧ j < b + i then min 999999999 (cs j + x) else cs j)) (fun Y => Sm (fun k => k = 49) Z Y ∧ ∀ j, j < m → gI Y 49 j = nI (if b ≤ j then min 999999999 (cs j + x) else cs j)) (m - b) (by omega) (nI b, Z) ⟨rfl, Sm.rf, fun j hj => by rw [if_neg (by omega)]; exact (hc j hj).1⟩ (by
    intro i a hi ⟨e1, e2, e3⟩
    obtain ⟨y, W⟩ := a
    dsimp only at e1 e2 e3 ⊢
    subst e1
    unfold f_Tide_addToCourse_b3
    by_cases h : i < m - b
    · right
      have e4 := e3 (b + i) (by omega)
      rw [if_neg (by omega)] at e4
      rw [if_neg (by rw [nI_leI (by omega) (by omega)]; omega), li 40, if_neg (by rw [nI_leI (by omega) (by omega)]; omega), rdn (by omega) (by omega), e4, c_filled (hc (b + i) (by omega)).2 (by omega), bd_s, wrn (by omega) (by omega), lt_s1, li 1, nI_add]
      refine ⟨h, _, rfl, rfl, sm_s1 e2, fun j hj => ?_⟩
      rw [gsI]
      by_cases c : j = b + i
      · rw [if_pos ⟨rfl, c⟩, if_pos (by omega), c]
      · rw [if_neg (fun q => c q.2), e3 j hj]
        by_cases c2 : b ≤ j ∧ j < b + i
        · rw [if_pos c2, if_pos (by omega)]
        · rw [if_neg c2, if_neg (by omega)]
    · left
      rw [if_pos (by rw [nI_leI (by omega) (by omega)]; omega)]
      refine ⟨W, rfl, e2, fun j hj => ?_⟩
      rw [e3 j hj]
      by_cases c2 : b ≤ j
      · rw [if_pos (by omega), if_pos c2]
      · rw [if_neg (by omega), if_neg c2])
  exact ⟨Y, y1, y2⟩
def crs (s : Nat → Nat) (f : Nat) (z : Int32) (j : Nat) : Nat := min 999999999 (s (19 + f) + sg (trI s j f (s 2) z) (s 0))
theorem ws_at {k h d n l b a w r j : Nat} {q p : Nat × Nat} (hW : WS k h d q n l b a p) (hj : j ≤ n) : tot k h w r d q j = if b ≤ j then tot k h w r d q n else 0 := by
  obtain ⟨v1, v2, v3, v4, v5, v6, v7⟩ := hW
  rw [v5 j hj, v5 n (Nat.le_refl _)]
  by_cases c : 0 < b
  · by_cases c2 : b ≤ j
    · rw [if_pos ⟨c, c2⟩, if_pos c2, if_pos ⟨c, v3⟩]
    · rw [if_neg (fun q => c2 q.2), if_neg c2]
  · rw [if_neg (fun q : 0 < b ∧ b ≤ j => c q.1), if_neg (fun q : 0 < b ∧ b ≤ n => c q.1), ite_self]
theorem c_plot {D : Nat} {X : Mem} {s : Nat → Nat} {f m : Nat} {z : Int32} (h : RC X 2 s) (hg : Gd D s) (hD : D ≤ 998000) (hf : f < 4) (hm : m ≤ 40) : ∃ Y, f_Tide_plotCourse (nI f) z (nI m) X = some Y ∧ Sm (fun k => k = 49 ∨ (60 ≤ k ∧ k < 70)) X Y ∧ ∀ j, j < m → gI Y 49 j = nI (crs s f z j) := by
  have h0 := hg.1
  have hpf := hg.2.2.2.2.1 f hf
  have key : ∀ Z, Sm (fun k => k = 49) X Z → (∀ j, j < m → gI Z 49 j = nI (s (19 + f))) → ∃ Y, f_Tide_plotCourse_j38 (nI f) z (nI m) Z = some Y ∧ Sm (fun k => k = 49 ∨ (60 ≤ k ∧ k < 70)) X Y ∧ ∀ j, j < m → gI Y 49 j = nI (crs s f z j) := by
    intro Z hS hZ
    obtain ⟨X2, a1, a2, a3⟩ := c_followAllX (h.sm h0 hS (by omega)) hg (by omega) (fN_of m) (by omega)
    have h2 : RC X2 2 s := (h.sm h0 hS (by omega)).sm h0 a3 (by omega)
    unfold f_Tide_plotCourse_j38
    rw [a1, bd_s]
    obtain ⟨Y, y1, y2, y3⟩ := it_run (f := fun a => f_Tide_plotCourse_b48 (nI f) z (nI m) a.1 a.2) (fun i a => a.1 = nI i ∧ Sm (fun k => k = 49) X2 a.2 ∧ ∀ j, j < m → gI a.2 49 j = nI (min 999999999 (s (19 + f) + sg (trI s j f (s 2) z) i))) (fun Y => Sm (fun k => k = 49) X2 Y ∧ ∀ j, j < m → gI Y 49 j = nI (crs s f z j)) (s 0) (by omega) ((0 : Int32), X2) ⟨rfl, Sm.rf, fun j hj => by
      rw [(a3 49 (by omega)).1, hZ j hj]
      show _ = nI (min 999999999 (s (19 + f) + 0))
      rw [Nat.add_zero, Nat.min_eq_right hpf]⟩ (by
      intro i a hi ⟨e1, e2, e3⟩
      obtain ⟨x, W⟩ := a
      dsimp only at e1 e2 e3 ⊢
      subst e1
      have hW : RC W 2 s := h2.sm h0 e2 (by omega)
      unfold f_Tide_plotCourse_b48 f_Tide_plotCourse_j125
      simp only [lt_s1]
      rw [hW.1, show nI i + (1 : Int32) = nI (i + 1) from by rw [li 1, nI_add]]
      by_cases hlt : i < s 0
      · right
        obtain ⟨g0, g1, g2, g3, g4, g5⟩ := hg.2.2.2.2.2 i hlt
        have hWW : Wys W s (m - 1) := fun t ht => by
          obtain ⟨l, b, a, p, w1, w2⟩ := a2 t ht
          exact ⟨l, b, a, p, w1.sm e2 (by omega), w2⟩
        rw [if_neg (by rw [nI_leI (by omega) (by omega)]; omega), rdRn (by omega) (by omega), hW.th hlt (by omega)]
        have hskip : (∀ j, j < m → trI s j f (s 2) z i = 0) → ∀ j, j < m → gI W 49 j = nI (min 999999999 (s (19 + f) + sg (trI s j f (s 2) z) (i + 1))) := fun hz j hj => by
          rw [e3 j hj, sg, hz j hj]
          rfl
        by_cases c1 : s (23 + 6 * i + 1) = f
        · rw [if_pos (by rw [c1])]
          by_cases c2 : nI i = z
          · rw [if_pos c2]
            exact ⟨hlt, _, rfl, rfl, e2, hskip (fun j _ => if_neg (fun q => q.2 c2))⟩
          · obtain ⟨l, b, a, p, w1, w2⟩ := hWW i hlt
            obtain ⟨b1, b2⟩ := c_bringT hW hg hD hlt (by omega) hg.2.2.1 hWW
            have hbm := w2.2.2.1
            obtain ⟨Y, d1, d2, d3⟩ := c_addTo (Z := W) (cs := fun j => min 999999999 (s (19 + f) + sg (trI s j f (s 2) z) i)) (b := b) (x := tb1 s (m - 1) (s 2) i) (m := m) hm (by omega) b2 (fun j hj => ⟨e3 j hj, Nat.min_le_left _ _⟩)
            rw [if_neg c2, rdRn (by omega) (by omega), w1.2.1, rdRn (by omega) (by omega), rdRn (by omega) (by omega), hW.2.2.1, b1, bd_s, d1, bd_s]
            refine ⟨hlt, _, rfl, rfl, e2.tr d2, fun j hj => ?_⟩
            rw [d3 j hj, sg, show trI s j f (s 2) z i = tb1 s j (s 2) i from if_pos ⟨c1, c2⟩]
            have ea := ws_at (w := tW s i) (r := s 2) w2 (show j ≤ m - 1 by omega)
            have ea2 : tb1 s j (s 2) i = if b ≤ j then tb1 s (m - 1) (s 2) i else 0 := ea
            rw [ea2]
            by_cases c3 : b ≤ j
            · rw [if_pos c3, if_pos c3, min_add]
            · rw [if_neg c3, if_neg c3, Nat.add_zero]
        · rw [if_neg (by rw [nI_eq (by omega) (by omega)]; exact c1)]
          exact ⟨hlt, _, rfl, rfl, e2, hskip (fun j _ => if_neg (fun q => c1 q.1))⟩
      · have hii : i = s 0 := by omega
        subst hii
        left
        rw [if_pos (by rw [nI_leI (by omega) (by omega)]; omega)]
        exact ⟨W, rfl, e2, e3⟩)
    exact ⟨Y, y1, ((hS.mono (fun k q => Or.inl q)).tr (a3.mono (fun k q => Or.inr q))).tr (y2.mono (fun k q => Or.inl q)), y3⟩
  unfold f_Tide_plotCourse
  obtain ⟨Y, y1, y2⟩ := it_run (f := fun a => f_Tide_plotCourse_b3 (nI f) z (nI m) a.1 a.2) (fun i a => a.1 = nI i ∧ Sm (fun k => k = 49) X a.2 ∧ ∀ j, j < i → gI a.2 49 j = nI (s (19 + f))) (fun Y => Sm (fun k => k = 49 ∨ (60 ≤ k ∧ k < 70)) X Y ∧ ∀ j, j < m → gI Y 49 j = nI (crs s f z j)) m (by omega) ((0 : Int32), X) ⟨rfl, Sm.rf, fun j hj => absurd hj (by omega)⟩ (by
    intro i a hi ⟨e1, e2, e3⟩
    obtain ⟨x, W⟩ := a
    dsimp only at e1 e2 e3 ⊢
    subst e1
    unfold f_Tide_plotCourse_b3
    by_cases hlt : i < m
    · right
      rw [if_neg (by rw [nI_leI (by omega) (by omega)]; omega), li 40, if_neg (by rw [nI_leI (by omega) (by omega)]; omega), rdn hf (by omega), (e2 (2 + 2) (by omega)).1, h.2.2.2.2.1 f hf, wrn (by omega) (by omega), lt_s1, li 1, nI_add]
      refine ⟨hlt, _, rfl, rfl, sm_s1 e2, fun j hj => ?_⟩
      rw [gsI]
      by_cases c : j = i
      · rw [if_pos ⟨rfl, c⟩]
      · rw [if_neg (fun q => c q.2)]; exact e3 j (by omega)
    · left
      obtain ⟨Y, y1, y2⟩ := key W e2 (fun j hj => e3 j (by omega))
      rw [if_pos (by rw [nI_leI (by omega) (by omega)]; omega), y1]
      exact ⟨Y, rfl, y2⟩)
  exact ⟨Y, y1, y2⟩
