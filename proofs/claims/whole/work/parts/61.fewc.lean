/-! fewest: the class -/
theorem c_sureThen {D : Nat} {X : Mem} {s : Nat → Nat} (h : RC X 2 s) (hg : Gd D s) (hD : D ≤ 998000) {f n : Nat} (hf : f < 4) (hn : n ≤ 1000) (hW : Wys X s n) : f_Tide_sureThen (nI f) X = some (nI (min 999999999 (s (19 + f) + sg (lnt s n f) (s 0)))) := by
  have h0 := hg.1
  have hp := hg.2.2.2.2.1 f hf
  unfold f_Tide_sureThen
  rw [rdn hf (by omega), h.2.2.2.2.1 f hf]
  have hst : (nI (s (19 + f)), (0 : Int32)) = (fun i => (nI (min 999999999 (s (19 + f) + sg (lnt s n f) i)), nI i)) 0 := by
    show (nI (s (19 + f)), (0 : Int32)) = (nI (min 999999999 (s (19 + f) + 0)), nI 0)
    rw [Nat.add_zero, Nat.min_eq_right hp]
    rfl
  rw [hst]
  refine it_for (fun i => (nI (min 999999999 (s (19 + f) + sg (lnt s n f) i)), nI i)) (s 0) _ (by omega) (fun i hi => ?_) ?_
  · obtain ⟨g0, g1, g2, g3, g4, g5⟩ := hg.2.2.2.2.2 i hi
    unfold f_Tide_sureThen_b12 f_Tide_sureThen_j75
    simp only [lt_s1]
    rw [h.1, if_neg (by rw [nI_leI (by omega) (by omega)]; omega), rdRn (by omega) (by omega), h.th hi (by omega), show nI i + (1 : Int32) = nI (i + 1) from by rw [li 1, nI_add]]
    show _ = some (Sum.inr (nI (min 999999999 (s (19 + f) + (sg (lnt s n f) i + lnt s n f i))), nI (i + 1)))
    by_cases c1 : s (23 + 6 * i + 1) = f
    · rw [if_pos (by rw [c1]), h.th hi (by omega)]
      by_cases c2 : s (23 + 6 * i + 4) = 2
      · obtain ⟨b1, b2⟩ := c_bringT h hg hD hi hn hg.2.2.1 hW
        rw [if_pos (by rw [c2]; rfl), rdRn (by omega) (by omega), h.2.2.1, b1, bd_s, c_filled (Nat.min_le_left _ _) (by omega), bd_s, show lnt s n f i = tb1 s n (s 2) i from if_pos ⟨c1, c2⟩, min_add]
      · rw [if_neg (by rw [li 2, nI_eq (by omega) (by omega)]; exact c2), show lnt s n f i = 0 from if_neg (fun q => c2 q.2)]
        rfl
    · rw [if_neg (by rw [nI_eq (by omega) (by omega)]; exact c1), show lnt s n f i = 0 from if_neg (fun q => c1 q.1)]
      rfl
  · unfold f_Tide_sureThen_b12
    simp only [lt_s1]
    rw [h.1, if_pos (by rw [nI_leI (by omega) (by omega)]; omega)]
theorem c_shareOut {D : Nat} {X : Mem} {s : Nat → Nat} (h : RC X 2 s) (hg : Gd D s) (hD : D ≤ 998000) {f n : Nat} (hf : f < 4) (hn : n ≤ 1000) (hW : Wys X s n) : ∃ Y, f_Tide_shareOut (nI f) X = some (fs (fun t => decide (0 < shr s n f t)) (s 0), Y) ∧ (∀ t, t < s 0 → gI Y 48 t = nI (shr s n f t) ∧ shr s n f t ≤ 99999999) ∧ Sm (fun k => k = 48) X Y := by
  have h0 := hg.1
  obtain ⟨⟨r, Y⟩, y1, y2, y3, y4⟩ := it_run (f := fun a => f_Tide_shareOut_b4 (nI f) a.1 a.2.1 a.2.2) (fun i a => a.1 = fs (fun t => decide (0 < shr s n f t)) i ∧ a.2.1 = nI i ∧ (∀ t, t < i → gI a.2.2 48 t = nI (shr s n f t) ∧ shr s n f t ≤ 99999999) ∧ Sm (fun k => k = 48) X a.2.2) (fun Y => Y.1 = fs (fun t => decide (0 < shr s n f t)) (s 0) ∧ (∀ t, t < s 0 → gI Y.2 48 t = nI (shr s n f t) ∧ shr s n f t ≤ 99999999) ∧ Sm (fun k => k = 48) X Y.2) (s 0) (by omega) ((0 : Int32), (0 : Int32), X) ⟨rfl, rfl, fun t ht => absurd ht (by omega), Sm.rf⟩ (by
    intro i a hi ⟨e1, e2, e3, e4⟩
    obtain ⟨x, y, Z⟩ := a
    dsimp only at e1 e2 e3 e4 ⊢
    subst e1
    subst e2
    have hZ : RC Z 2 s := h.sm h0 e4 (by omega)
    have hWZ : Wys Z s n := fun t ht => by
      obtain ⟨l, b, a, p, w1, w2⟩ := hW t ht
      exact ⟨l, b, a, p, w1.sm e4 (by omega), w2⟩
    by_cases hlt : i < s 0
    · right
      obtain ⟨g0, g1, g2, g3, g4, g5⟩ := hg.2.2.2.2.2 i hlt
      obtain ⟨b1, b2⟩ := c_bringT hZ hg hD hlt hn hg.2.2.1 hWZ
      have hsl : shr s n f i ≤ 99999999 := by
        unfold shr
        split
        · exact b2
        · omega
      have key : f_Tide_shareOut_b4 (nI f) (fs (fun t => decide (0 < shr s n f t)) i) (nI i) Z = f_Tide_shareOut_j83 (nI f) (fs (fun t => decide (0 < shr s n f t)) i) (nI i) 48 (nI i) (nI (shr s n f i)) Z := by
        unfold f_Tide_shareOut_b4 f_Tide_shareOut_j48 f_Tide_shareOut_j49
        simp only [lt_s1]
        rw [hZ.1, if_neg (by rw [nI_leI (by omega) (by omega)]; omega), rdRn (by omega) (by omega), hZ.th hlt (by omega)]
        by_cases c1 : s (23 + 6 * i + 1) = f
        · rw [if_pos (by rw [c1]), hZ.th hlt (by omega)]
          by_cases c2 : s (23 + 6 * i + 4) = 1
          · rw [if_pos (by rw [c2]; rfl), if_neg (by decide), rdRn (by omega) (by omega), hZ.2.2.1, b1, bd_s, show shr s n f i = tb1 s n (s 2) i from if_pos ⟨c1, c2⟩]
          · rw [if_neg (by rw [li 1, nI_eq (by omega) (by omega)]; exact c2), if_pos trivial, show shr s n f i = 0 from if_neg (fun q => c2 q.2)]
            rfl
        · rw [if_neg (by rw [nI_eq (by omega) (by omega)]; exact c1), if_pos trivial, show shr s n f i = 0 from if_neg (fun q => c1 q.1)]
          rfl
      rw [key]
      unfold f_Tide_shareOut_j83 f_Tide_shareOut_j99
      simp only [lt_s1]
      rw [wrn (by omega) (by omega), rdn (by omega) (by omega), show gI (sI Z 48 i (nI (shr s n f i))) 48 i = nI (shr s n f i) from by rw [gsI, if_pos ⟨rfl, rfl⟩], show nI i + (1 : Int32) = nI (i + 1) from by rw [li 1, nI_add]]
      have hn3 : ∀ t, t < i + 1 → gI (sI Z 48 i (nI (shr s n f i))) 48 t = nI (shr s n f t) ∧ shr s n f t ≤ 99999999 := fun t ht => by
        rw [gsI]
        by_cases c : t = i
        · subst c; rw [if_pos ⟨rfl, rfl⟩]; exact ⟨rfl, hsl⟩
        · rw [if_neg (fun q => c q.2)]; exact e3 t (by omega)
      by_cases c : 0 < shr s n f i
      · rw [if_neg (by rw [nI_le0 (by omega)]; omega)]
        refine ⟨hlt, _, rfl, ?_, rfl, hn3, e4.sI rfl⟩
        show _ = if decide (0 < shr s n f i) = true then fs (fun t => decide (0 < shr s n f t)) i ||| bt i else fs (fun t => decide (0 < shr s n f t)) i
        rw [if_pos (decide_eq_true c)]
        rfl
      · rw [if_pos (by rw [nI_le0 (by omega)]; omega)]
        refine ⟨hlt, _, rfl, ?_, rfl, hn3, e4.sI rfl⟩
        show _ = if decide (0 < shr s n f i) = true then fs (fun t => decide (0 < shr s n f t)) i ||| bt i else fs (fun t => decide (0 < shr s n f t)) i
        rw [if_neg (by rw [decide_eq_true_eq]; exact c)]
    · have hii : i = s 0 := by omega
      left
      unfold f_Tide_shareOut_b4
      rw [lt_s1, hZ.1, if_pos (by rw [nI_leI (by omega) (by omega)]; omega)]
      exact ⟨_, rfl, by rw [hii], by rw [← hii]; exact e3, e4⟩)
  dsimp only at y2 y3 y4
  subst y2
  exact ⟨Y, y1, y3, y4⟩
theorem c_sharesOf {X : Mem} {s : Nat → Nat} {n f S : Nat} (h0 : s 0 ≤ 10) (hS : S < 1024) (hb : ∀ t, S.testBit t = true → t < s 0) (hsh : ∀ t, t < s 0 → gI X 48 t = nI (shr s n f t) ∧ shr s n f t ≤ 99999999) : f_Tide_sharesOf (nI S) X = some (nI (pick s n f S)) ∧ pick s n f S ≤ 999999990 := by
  have e10 : sg (fun t => if S.testBit t = true then shr s n f t else 0) 10 = pick s n f S := by
    unfold pick
    have := sg_zero (g := fun t => if S.testBit t = true then shr s n f t else 0) (n := s 0) (m := 10 - s 0) (fun k h1 _ => if_neg (fun q => absurd (hb k q) (by omega)))
    rw [show s 0 + (10 - s 0) = 10 from by omega] at this
    exact this
  rw [← e10]
  refine ⟨?_, ?_⟩
  · refine it_for (fun i => (nI (sg (fun t => if S.testBit t = true then shr s n f t else 0) i), nI i)) 10 _ (by omega) (fun i hi => ?_) ?_
    · have e := sh_all i hi S hS
      unfold f_Tide_sharesOf_b4 f_Tide_sharesOf_j28
      simp only [lt_s1]
      rw [li 10, if_neg (by rw [nI_leI (by omega) (by omega)]; omega), show nI i + (1 : Int32) = nI (i + 1) from by rw [li 1, nI_add]]
      show _ = some (Sum.inr (nI (sg (fun t => if S.testBit t = true then shr s n f t else 0) i + (if S.testBit i = true then shr s n f i else 0)), nI (i + 1)))
      by_cases c : S.testBit i = true
      · rw [if_pos (of_decide_eq_true (e.trans c)), rdn (by omega) (by omega), (hsh i (hb i c)).1, nI_add, if_pos c]
      · rw [if_neg (fun q => c (e.symm.trans (decide_eq_true q))), if_neg c]
        rfl
    · unfold f_Tide_sharesOf_b4
      rw [li 10, if_pos (by rw [nI_leI (by omega) (by omega)]; omega)]
  · have := sg_max (g := fun t => if S.testBit t = true then shr s n f t else 0) (c := 99999999) (n := 10) (fun k hk => by
      show (if S.testBit k = true then shr s n f k else 0) ≤ _
      by_cases c : S.testBit k = true
      · rw [if_pos c]; exact (hsh k (hb k c)).2
      · rw [if_neg c]; omega)
    omega
def en1 : Option Nat → Int32
  | none => -1
  | some b => nI b
def en2 : Option Nat → Int32
  | none => 11
  | some b => nI (pc b)
theorem en2_le {S : Nat} {o : Option Nat} : (en2 o ≤ nI (pc S)) ↔ ¬ lss S o = true := by
  have h1 := pc_le S
  cases o with
  | none =>
    show ((11 : Int32) ≤ nI (pc S)) ↔ ¬ true = true
    rw [li 11, nI_leI (by omega) (by omega)]
    constructor
    · intro h; omega
    · intro h; exact absurd rfl h
  | some b =>
    have h2 := pc_le b
    show (nI (pc b) ≤ nI (pc S)) ↔ ¬ decide (pc S < pc b) = true
    rw [nI_leI (by omega) (by omega), decide_eq_true_eq]
    omega
theorem c_fewstep {X : Mem} {s : Nat → Nat} {n f v S : Nat} (h0 : s 0 ≤ 10) (hv : v < 1000000000) (hsh : ∀ t, t < s 0 → gI X 48 t = nI (shr s n f t) ∧ shr s n f t ≤ 99999999) (hS : S ≤ uSE s n f) : f_Tide_fewest_b64 (nI v) (nI (uSE s n f)) (nI (min 999999999 (s (19 + f) + sg (lnt s n f) (s 0)))) X (en1 (fb (okC s n f v) S)) (en2 (fb (okC s n f v) S)) (nI S) = some (.inr (en1 (fb (okC s n f v) (S + 1)), en2 (fb (okC s n f v) (S + 1)), nI (S + 1))) := by
  have hU : uSE s n f < 1024 := bs_1024 h0
  have hS1 : S < 1024 := by omega
  have hw : wf s n f S ≤ 999999999 := Nat.min_le_left _ _
  generalize hfb : fb (okC s n f v) S = o
  have hE : fb (okC s n f v) (S + 1) = if okC s n f v S = true ∧ lss S o = true then some S else o := by rw [fb, hfb]
  rw [hE]
  unfold f_Tide_fewest_b64 f_Tide_fewest_j95 f_Tide_fewest_j96 f_Tide_fewest_j129
  simp only [lt_s1, if_true]
  rw [if_neg (by rw [nI_ltI (by omega) (by omega)]; omega), show nI S + (1 : Int32) = nI (S + 1) from by rw [li 1, nI_add], bc_all S hS1, bd_s]
  by_cases c1 : nI S &&& (nI (uSE s n f) ^^^ (-1 : Int32)) = 0
  · have b1 : sb S (uSE s n f) = true := decide_eq_true c1
    rw [if_pos c1]
    by_cases c2 : lss S o = true
    · rw [if_neg (fun q => en2_le.mp q c2), if_neg (show ¬ (1 : Int32) = 0 by decide)]
      obtain ⟨d1, d2⟩ := c_sharesOf (f := f) (n := n) h0 hS1 (fun t ht => (use_all h0 t ((sb_iff hS1).mp b1 t ht)).2.1) hsh
      rw [d1, bd_s, c_filled (Nat.min_le_left _ _) (by omega), bd_s, bd_s, show min 999999999 (min 999999999 (s (19 + f) + sg (lnt s n f) (s 0)) + pick s n f S) = wf s n f S from by unfold wf; omega]
      by_cases c3 : v ≤ wf s n f S
      · rw [if_neg (by rw [nI_ltI (by omega) (by omega)]; omega), if_pos ⟨by unfold okC; rw [b1, decide_eq_true c3]; rfl, c2⟩]
        rfl
      · rw [if_pos (by rw [nI_ltI (by omega) (by omega)]; omega), if_neg (fun q => c3 (by
          have := q.1
          unfold okC at this
          rw [Bool.and_eq_true, decide_eq_true_eq] at this
          exact this.2))]
    · rw [if_pos (en2_le.mpr c2), if_neg (fun q => c2 q.2)]
  · rw [if_neg c1, if_neg (fun q => c1 (by
      have := q.1
      unfold okC at this
      rw [Bool.and_eq_true] at this
      exact of_decide_eq_true this.1))]
