/-! fewest: the model -/
theorem few_pn {D : Nat} {s u : Nat → Nat} {n f S : Nat} (hg : Gd D s) (hf : f < 4) (hu : ∀ j, (∀ t, t < 10 → j ≠ 23 + 6 * t + 4) → u j = s j) (h4 : ∀ t, t < s 0 → u (23 + 6 * t + 4) = if ((aLL s).testBit t && !S.testBit t) = true then 0 else s (23 + 6 * t + 4)) : Gd D u ∧ pn u n f = wf s n f S := by
  obtain ⟨h0, h1, h2, h3, hp, h5⟩ := hg
  have e0 : u 0 = s 0 := hu 0 (fun t _ => by omega)
  have e1 : u 1 = s 1 := hu 1 (fun t _ => by omega)
  have e2 : u 2 = s 2 := hu 2 (fun t _ => by omega)
  refine ⟨⟨by omega, by omega, by omega, fun c hc => by rw [hu (3 + c) (fun t _ => by omega)]; exact h3 c hc, fun f hf => by rw [hu (19 + f) (fun t _ => by omega)]; exact hp f hf, fun t ht => ?_⟩, ?_⟩
  · rw [e0] at ht
    obtain ⟨g0, g1, g2, g3, g4, g5⟩ := h5 t ht
    refine ⟨by rw [hu _ (fun x _ => by omega)]; exact g0, by rw [hu _ (fun x _ => by omega)]; exact g1, by rw [hu _ (fun x _ => by omega)]; exact g2, by rw [hu _ (fun x _ => by omega)]; exact g3, ?_, by rw [hu _ (fun x _ => by omega), e1]; exact g5⟩
    rw [h4 t ht]
    split
    · omega
    · exact g4
  · unfold pn wf pick
    rw [e0, hu (19 + f) (fun t _ => by omega), Nat.add_assoc, ← sg_add]
    congr 2
    apply sg_cong
    intro t ht
    obtain ⟨g0, g1, g2, g3, g4, g5⟩ := h5 t ht
    have k0 : tK u t = tK s t := hu _ (fun x _ => by omega)
    have k1 : tF u t = tF s t := hu _ (fun x _ => by omega)
    have k2 : tH u t = tH s t := by
      show u (3 + u (23 + 6 * t + 2)) = _
      rw [hu (23 + 6 * t + 2) (fun x _ => by omega)]
      exact hu _ (fun x _ => by omega)
    have k3 : tW u t = tW s t := hu _ (fun x _ => by omega)
    have k5 : u (23 + 6 * t + 5) = s (23 + 6 * t + 5) := hu _ (fun x _ => by omega)
    have hb : (aLL s).testBit t = decide (s (23 + 6 * t + 4) = 1) := by
      unfold aLL
      rw [bs_bit _ h0, decide_eq_true ht, Bool.true_and]
      rfl
    have h4t := h4 t ht
    rw [hb] at h4t
    have hz : ∀ q : Nat × Nat, q.1 = 0 → tot (tK s t) (tH s t) (tW s t) (s 2) (s 1) q n = 0 := fun q hq => (still (tK s t) (tH s t) (s 1) q n (fun j _ => sp0 hq)).2 _ _
    unfold totS lnt shr
    rw [k1, k0, k2, k3, e2, e1]
    by_cases cf : tF s t = f
    · rw [if_pos cf]
      rcases (show s (23 + 6 * t + 4) = 0 ∨ s (23 + 6 * t + 4) = 1 ∨ s (23 + 6 * t + 4) = 2 by omega) with c | c | c
      · rw [decide_eq_false (by omega), Bool.false_and, if_neg (by decide)] at h4t
        rw [if_neg (fun q => absurd q.2 (by omega)), if_neg (fun q : tF s t = f ∧ s (23 + 6 * t + 4) = 1 => absurd q.2 (by omega)), ite_self, hz _ (by show u (23 + 6 * t + 4) = 0; omega)]
      · rw [if_neg (fun q : tF s t = f ∧ s (23 + 6 * t + 4) = 2 => absurd q.2 (by omega)), if_pos (show tF s t = f ∧ s (23 + 6 * t + 4) = 1 from ⟨cf, c⟩), Nat.zero_add]
        rw [decide_eq_true c, Bool.true_and] at h4t
        by_cases cs : S.testBit t = true
        · rw [if_pos cs]
          rw [cs, if_neg (by decide)] at h4t
          have : tQ u t = tQ s t := by
            show (u (23 + 6 * t + 4), u (23 + 6 * t + 5)) = _
            rw [h4t, k5]
          rw [this]
        · rw [if_neg cs]
          rw [Bool.not_eq_true] at cs
          rw [cs, if_pos (by decide)] at h4t
          exact hz _ h4t
      · rw [decide_eq_false (by omega), Bool.false_and, if_neg (by decide)] at h4t
        have : tQ u t = tQ s t := by
          show (u (23 + 6 * t + 4), u (23 + 6 * t + 5)) = _
          rw [h4t, k5]
        rw [if_pos ⟨cf, c⟩, if_neg (fun q : tF s t = f ∧ s (23 + 6 * t + 4) = 1 => absurd q.2 (by omega)), ite_self, this]
        rfl
    · rw [if_neg cf, if_neg (fun q => cf q.1), if_neg (fun q : tF s t = f ∧ s (23 + 6 * t + 4) = 1 => cf q.1), ite_self]
theorem m_fwin {D : Nat} {Z : Mem} {s : Nat → Nat} {n f v S : Nat} {b : Int32} (h : RM Z 71 s) (ha : RM Z 74 s) (hg : Gd D s) (hD : D ≤ 998000) (hf : f < 4) (hn : n ≤ 40) (hv : v < 1000000000) : ∃ Y, f_Model_fewest_j97 (nI f) (nI n) (nI v) (nI (aLL s)) b (nI S) Z = some (.inr ((if v ≤ wf s n f S then nI S else b), nI (S + 1), Y)) ∧ RM Y 71 s ∧ RM Y 74 s ∧ Sm (fun k => k = 71 ∨ k = 73 ∨ k = 74) Z Y := by
  have h0 := hg.1
  have hd := hg.2.1
  have hA : aLL s < 1024 := bs_1024 h0
  unfold f_Model_fewest_j97
  obtain ⟨r, y1, Y, y2, y3⟩ := it_run (f := fun a => f_Model_fewest_b100 (nI f) (nI n) (nI v) (nI (aLL s)) b (nI S) a.1 a.2) (fun i a => a.1 = nI i ∧ ∃ u, RM a.2 71 u ∧ (∀ j, (∀ t, t < 10 → j ≠ 23 + 6 * t + 4) → u j = s j) ∧ (∀ t, t < s 0 → u (23 + 6 * t + 4) = if t < i ∧ ((aLL s).testBit t && !S.testBit t) = true then 0 else s (23 + 6 * t + 4)) ∧ RM a.2 74 s ∧ Sm (fun k => k = 71 ∨ k = 73 ∨ k = 74) Z a.2) (fun r => ∃ Y, r = .inr ((if v ≤ wf s n f S then nI S else b), nI (S + 1), Y) ∧ RM Y 71 s ∧ RM Y 74 s ∧ Sm (fun k => k = 71 ∨ k = 73 ∨ k = 74) Z Y) (s 0) (by omega) ((0 : Int32), Z) ⟨rfl, s, h, fun _ _ => rfl, fun t ht => by rw [if_neg (fun q => absurd q.1 (by omega))], ha, Sm.rf⟩ (by
    intro i a hi ⟨e1, u, e2, e3, e4, e5, e6⟩
    obtain ⟨x, W⟩ := a
    dsimp only at e1 e2 e3 e4 e5 e6 ⊢
    subst e1
    have u0 : u 0 = s 0 := e3 0 (fun t _ => by omega)
    unfold f_Model_fewest_b100
    rw [li 0, e2.rd (by omega), u0]
    by_cases hlt : i < s 0
    · right
      have eb := sh_all i (by omega) (bs (fun j => (aLL s).testBit j && !S.testBit j) 10) (bs_1024 (Nat.le_refl _))
      rw [bs_bit _ (Nat.le_refl _), decide_eq_true (show i < 10 by omega), Bool.true_and] at eb
      rw [if_neg (by rw [nI_leI (by omega) (by omega)]; omega), li 4, m_at, bd_s, an_bs hA]
      have hu' : ∀ w j, (∀ t, t < 10 → j ≠ 23 + 6 * t + 4) → up u (23 + 6 * i + 4) w j = s j := fun w j hj => by
        rw [up_n (hj i (by omega))]; exact e3 j hj
      by_cases c : ((aLL s).testBit i && !S.testBit i) = true
      · rw [if_pos (of_decide_eq_true (eb.trans c))]
        unfold f_Model_fewest_j148
        rw [wrn (by omega) (by omega), lt_s1, li 1, nI_add]
        refine ⟨hlt, _, rfl, rfl, _, e2.put, hu' 0, fun t ht => ?_, e5.sm (sm_s1 Sm.rf) (by omega), e6.sI (Or.inl rfl)⟩
        by_cases ct : t = i
        · subst ct; rw [up_s, if_pos ⟨by omega, c⟩]
        · rw [up_n (by omega), e4 t ht]
          by_cases cc : t < i ∧ ((aLL s).testBit t && !S.testBit t) = true
          · rw [if_pos cc, if_pos ⟨by omega, cc.2⟩]
          · rw [if_neg cc, if_neg (fun q => cc ⟨by omega, q.2⟩)]
      · rw [if_neg (fun q => c (eb.symm.trans (decide_eq_true q))), m_its e2 (by omega) (by omega), bd_s]
        unfold f_Model_fewest_j148
        rw [wrn (by omega) (by omega), lt_s1, li 1, nI_add]
        refine ⟨hlt, _, rfl, rfl, _, e2.put, hu' _, fun t ht => ?_, e5.sm (sm_s1 Sm.rf) (by omega), e6.sI (Or.inl rfl)⟩
        by_cases ct : t = i
        · subst ct
          rw [up_s, if_neg (fun q => c q.2), e4 t ht, if_neg (fun q => c q.2)]
        · rw [up_n (by omega), e4 t ht]
          by_cases cc : t < i ∧ ((aLL s).testBit t && !S.testBit t) = true
          · rw [if_pos cc, if_pos ⟨by omega, cc.2⟩]
          · rw [if_neg cc, if_neg (fun q => cc ⟨by omega, q.2⟩)]
    · have hii : i = s 0 := by omega
      subst hii
      left
      obtain ⟨k1, k2⟩ := few_pn (n := n) (f := f) (S := S) hg hf e3 (fun t ht => by
        rw [e4 t ht]
        by_cases cc : ((aLL s).testBit t && !S.testBit t) = true
        · rw [if_pos ⟨ht, cc⟩, if_pos cc]
        · rw [if_neg (fun q => cc q.2), if_neg cc])
      obtain ⟨X3, w, d1, d2, d3, d4⟩ := m_goes (m := n) e2 k1 (by omega) (by omega)
      obtain ⟨X5, f1, f2, f3⟩ := m_copyRow (B := 71) (e5.sm d4 (by omega)) (by omega)
      have hw : wf s n f S ≤ 999999999 := Nat.min_le_left _ _
      have ew : w (19 + f) = wf s n f S := (d3.2.2.2.2.2.2 f hf).trans k2
      have hfin : ∀ q0 : Int32, f_Model_fewest_j180 (nI f) (nI n) (nI v) (nI (aLL s)) (nI S) q0 X3 = some (.inr (q0, nI (S + 1), X5)) := fun q0 => by
        unfold f_Model_fewest_j180 f_Model_fewest_j193
        rw [f1, bd_s, lt_s1, li 1, nI_add]
      rw [if_pos (by rw [nI_leI (by omega) (by omega)]; omega), d1, bd_s, li 19, nI_add, d2.rd (by omega), ew, hfin, hfin, upc_s, upc_s]
      have hS5 : Sm (fun k => k = 71 ∨ k = 73 ∨ k = 74) Z X5 := (e6.tr (d4.mono (fun k q => Or.inl q))).tr (f3.mono (fun k q => Or.inl q))
      by_cases c : v ≤ wf s n f S
      · rw [if_neg (by rw [nI_ltI (by omega) (by omega)]; omega), if_pos c]
        exact ⟨_, rfl, X5, rfl, f2, (e5.sm d4 (by omega)).sm f3 (by omega), hS5⟩
      · rw [if_pos (by rw [nI_ltI (by omega) (by omega)]; omega), if_neg c]
        exact ⟨_, rfl, X5, rfl, f2, (e5.sm d4 (by omega)).sm f3 (by omega), hS5⟩)
  rw [y1, y2]
  exact ⟨Y, rfl, y3⟩
theorem m_fewstep {D : Nat} {Z : Mem} {s : Nat → Nat} {n f v S : Nat} (h : RM Z 71 s) (ha : RM Z 74 s) (hg : Gd D s) (hD : D ≤ 998000) (hf : f < 4) (hn : n ≤ 40) (hv : v < 1000000000) (hS : S ≤ aLL s) : ∃ Y, f_Model_fewest_b62 (nI f) (nI n) (nI v) (nI (aLL s)) (en1 (fb (okM s n f v) S)) (nI S) Z = some (.inr (en1 (fb (okM s n f v) (S + 1)), nI (S + 1), Y)) ∧ RM Y 71 s ∧ RM Y 74 s ∧ Sm (fun k => k = 71 ∨ k = 73 ∨ k = 74) Z Y := by
  have h0 := hg.1
  have hA : aLL s < 1024 := bs_1024 h0
  have hS1 : S < 1024 := by omega
  have hob := fb_spec (okM s n f v) S
  generalize hfb : fb (okM s n f v) S = o at hob
  have hE : fb (okM s n f v) (S + 1) = if okM s n f v S = true ∧ lss S o = true then some S else o := by rw [fb, hfb]
  obtain ⟨Y, y1, y2⟩ := m_fwin (n := n) (f := f) (v := v) (S := S) (b := en1 o) h ha hg hD hf hn hv
  have hj : f_Model_fewest_j193 (nI f) (nI n) (nI v) (nI (aLL s)) (en1 o) (nI S) Z = some (.inr (en1 o, nI (S + 1), Z)) := by
    unfold f_Model_fewest_j193
    rw [lt_s1, li 1, nI_add]
  rw [hE]
  unfold f_Model_fewest_b62
  rw [if_neg (show ¬ nI (aLL s) < nI S by rw [nI_ltI (by omega) (by omega)]; omega)]
  by_cases c1 : nI S &&& (nI (aLL s) ^^^ (-1 : Int32)) = 0
  · have b1 : sb S (aLL s) = true := decide_eq_true c1
    have hin : lss S o = true → ∃ Y, f_Model_fewest_j97 (nI f) (nI n) (nI v) (nI (aLL s)) (en1 o) (nI S) Z = some (.inr (en1 (if okM s n f v S = true ∧ lss S o = true then some S else o), nI (S + 1), Y)) ∧ RM Y 71 s ∧ RM Y 74 s ∧ Sm (fun k => k = 71 ∨ k = 73 ∨ k = 74) Z Y := fun hl => by
      refine ⟨Y, ?_, y2⟩
      rw [y1]
      by_cases c3 : v ≤ wf s n f S
      · rw [if_pos c3, if_pos ⟨by unfold okM; rw [b1, decide_eq_true c3]; rfl, hl⟩]
        rfl
      · rw [if_neg c3, if_neg (fun q => c3 (by
          have := q.1
          unfold okM at this
          rw [Bool.and_eq_true, decide_eq_true_eq] at this
          exact this.2))]
    rw [if_pos c1]
    cases o with
    | none =>
      rw [if_pos (show en1 none < 0 by decide)]
      exact hin rfl
    | some b =>
      have hb : b < 1024 := by
        rcases hob with ⟨q, _⟩ | ⟨b2, q, q2, _⟩
        · cases q
        · injection q with q
          omega
      have pb := pc_le b
      have pS := pc_le S
      have e1 : en1 (some b) = nI b := rfl
      rw [if_neg (show ¬ en1 (some b) < 0 by rw [e1, li 0, nI_ltI (by omega) (by omega)]; omega), many_all S hS1, bd_s, show f_Model_many (en1 (some b)) = some (nI (pc b)) from many_all b hb, bd_s]
      by_cases c2 : pc S < pc b
      · rw [if_neg (by rw [nI_leI (by omega) (by omega)]; omega)]
        exact hin (decide_eq_true c2)
      · rw [if_pos (by rw [nI_leI (by omega) (by omega)]; omega), hj, if_neg (fun q => c2 (of_decide_eq_true q.2))]
        exact ⟨Z, rfl, h, ha, Sm.rf⟩
  · rw [if_neg c1, hj, if_neg (fun q => c1 (by
      have := q.1
      unfold okM at this
      rw [Bool.and_eq_true] at this
      exact of_decide_eq_true this.1))]
    exact ⟨Z, rfl, h, ha, Sm.rf⟩
theorem op_fewest {A : Ab} (hO : Ok A) (p1 p2 p3 : Int32) : Act (f_Tide_fewest p1 p2 p3) (f_Model_fewest p1 p2 p3) A := by
  have hg := hO.1
  have h0 := hg.1
  have hd := hg.2.1
  by_cases h1 : 0 ≤ p1.toInt ∧ p1.toInt < ((4 : Nat) : Int)
  · by_cases h2 : (1 : Int) ≤ p2.toInt ∧ p2.toInt ≤ ((40 : Nat) : Int)
    · by_cases h3 : 0 ≤ p3.toInt ∧ p3.toInt < ((999999999 + 1 : Nat) : Int)
      · obtain ⟨f, hf, rfl⟩ := ofr h1
        obtain ⟨n, hn, rfl⟩ := ofr (p := p2) (n := 41) (by omega)
        obtain ⟨v, hv, rfl⟩ := ofr h3
        have hU : uSE (aS A) n f < 1024 := bs_1024 h0
        have hA : aLL (aS A) < 1024 := bs_1024 h0
        have hfe := few_eq (s := aS A) (n := n) (f := f) (v := v) h0
        have hbl := fb_spec (okC (aS A) n f v) (uSE (aS A) n f + 1)
        generalize hob : fb (okC (aS A) n f v) (uSE (aS A) n f + 1) = o at hbl hfe
        have hbl2 : ∀ b, o = some b → b < 1024 := fun b hb => by
          rcases hbl with ⟨q, _⟩ | ⟨b2, q, q2, _⟩
          · rw [q] at hb; cases hb
          · rw [q] at hb; injection hb with hb; omega
        have hcc : ∀ X, IC A X → ∃ Y, f_Tide_fewest (nI f) (nI n) (nI v) X = (if en1 o < 0 then f_Tide_finding (-1000000004) Y else some (en1 o, Y)) ∧ Sm scN X Y := by
          intro X hX
          obtain ⟨X8, y1, y2, y3⟩ := c_followAll (n := n) hX.1 hg (by omega) (by omega)
          have hY : RC X8 2 (aS A) := hX.1.sm hg.1 y3 (by omega)
          obtain ⟨X11, z1, z2, z3⟩ := c_shareOut hY hg (by omega) hf (by omega) y2
          have hY2 : RC X11 2 (aS A) := hY.sm hg.1 z3 (by omega)
          have hW2 : Wys X11 (aS A) n := fun t ht => by
            obtain ⟨l, b, a, p, w1, w2⟩ := y2 t ht
            exact ⟨l, b, a, p, w1.sm z3 (by omega), w2⟩
          rw [fs_bs _ _ h0] at z1
          have z1' : f_Tide_shareOut (nI f) X8 = some (nI (uSE (aS A) n f), X11) := z1
          have hS : Sm scN X X11 := (y3.mono (fun z hz => by unfold scN; omega)).tr (z3.mono (fun z hz => by unfold scN; omega))
          refine ⟨X11, ?_, hS⟩
          unfold f_Tide_fewest
          rw [li 4, c_isBelow (by omega), if_pos h1, bd_s, if_neg (by decide), li 40, c_isUpTo1 (by omega), if_pos h2, bd_s, if_neg (by decide), li 999999999, c_isUpTo0 (by omega), if_pos h3, bd_s, if_neg (by decide), y1, bd_s, z1', bd2_s, c_sureThen hY2 hg (by omega) hf (by omega) hW2, bd_s]
          have hend : f_Tide_fewest_b64 (nI v) (nI (uSE (aS A) n f)) (nI (min 999999999 (aS A (19 + f) + sg (lnt (aS A) n f) (aS A 0)))) X11 (en1 (fb (okC (aS A) n f v) (uSE (aS A) n f + 1))) (en2 (fb (okC (aS A) n f v) (uSE (aS A) n f + 1))) (nI (uSE (aS A) n f + 1)) = (if en1 o < 0 then (bd2 (f_Tide_finding (-1000000004) X11) fun v1 X3 => some (.inl (v1, X3))) else some (.inl (en1 o, X11))) := by
            unfold f_Tide_fewest_b64
            rw [if_pos (show nI (uSE (aS A) n f) < nI (uSE (aS A) n f + 1) by rw [nI_ltI (by omega) (by omega)]; omega), hob]
          by_cases c : en1 o < 0
          · obtain ⟨Y, w1, w2, w3⟩ := c_finding (c := -1000000004) (i := 3) (hX.scratch hO hS) hO (by decide) (by omega)
            rw [if_pos c, w1]
            rw [if_pos c, w1, bd2_s] at hend
            exact it_for (f := fun a => f_Tide_fewest_b64 (nI v) (nI (uSE (aS A) n f)) (nI (min 999999999 (aS A (19 + f) + sg (lnt (aS A) n f) (aS A 0)))) X11 a.1 a.2.1 a.2.2) (fun i => (en1 (fb (okC (aS A) n f v) i), en2 (fb (okC (aS A) n f v) i), nI i)) (uSE (aS A) n f + 1) _ (by omega) (fun i hi => c_fewstep h0 (by omega) z2 (by omega)) hend
          · rw [if_neg c]
            rw [if_neg c] at hend
            exact it_for (f := fun a => f_Tide_fewest_b64 (nI v) (nI (uSE (aS A) n f)) (nI (min 999999999 (aS A (19 + f) + sg (lnt (aS A) n f) (aS A 0)))) X11 a.1 a.2.1 a.2.2) (fun i => (en1 (fb (okC (aS A) n f v) i), en2 (fb (okC (aS A) n f v) i), nI i)) (uSE (aS A) n f + 1) _ (by omega) (fun i hi => c_fewstep h0 (by omega) z2 (by omega)) hend
        have hmm : ∀ X, IM A X → ∃ r Y Z, f_Model_fewest (nI f) (nI n) (nI v) X = some (r, Y) ∧ f_Model_orNone (en1 o) Z = some (r, Y) ∧ IM A Z ∧ Sm M70 X Z := by
          intro X hX
          obtain ⟨X10, a1, a2, a3⟩ := m_copyRow (B := 74) hX.1 (by omega)
          have hall : f_Model_thoseThatAre (1 : Int32) X = some (nI (aLL (aS A))) := by
            have := m_those hX.1 hg (w := 1) (by omega)
            rw [fs_bs _ _ h0] at this
            exact this
          obtain ⟨⟨r, Y⟩, y1, Z, y2, y3, y4⟩ := it_run (f := fun a => f_Model_fewest_b62 (nI f) (nI n) (nI v) (nI (aLL (aS A))) a.1 a.2.1 a.2.2) (fun i a => a.1 = en1 (fb (okM (aS A) n f v) i) ∧ a.2.1 = nI i ∧ RM a.2.2 71 (aS A) ∧ RM a.2.2 74 (aS A) ∧ Sm (fun k => k = 71 ∨ k = 73 ∨ k = 74) X a.2.2) (fun Y => ∃ Z, f_Model_orNone (en1 o) Z = some (Y.1, Y.2) ∧ IM A Z ∧ Sm M70 X Z) (aLL (aS A) + 1) (by omega) ((-1 : Int32), (0 : Int32), X10) ⟨rfl, rfl, hX.1.sm a3 (by omega), a2, a3.mono (fun k q => Or.inr (Or.inr q))⟩ (by
            intro i a hi ⟨e1, e2, e3, e4, e5⟩
            obtain ⟨x, y, Z⟩ := a
            dsimp only at e1 e2 e3 e4 e5 ⊢
            subst e1
            subst e2
            by_cases hlt : i < aLL (aS A) + 1
            · right
              obtain ⟨Y, y1, y2, y3, y4⟩ := m_fewstep (n := n) (f := f) (v := v) (S := i) e3 e4 hg (by omega) hf (by omega) (by omega) (by omega)
              exact ⟨hlt, _, y1, rfl, rfl, y2, y3, e5.tr y4⟩
            · have hii : i = aLL (aS A) + 1 := by omega
              subst hii
              left
              have hI := hX.shore e3 e5
              have hr : ∃ r W, f_Model_orNone (en1 o) Z = some (r, W) := by
                cases o with
                | none =>
                  obtain ⟨W, w1, w2, w3⟩ := m_finds (c := -1000000004) (i := 3) hI.1 (by decide) (by omega)
                  exact ⟨_, W, (m_orN1 Z).trans w1⟩
                | some b =>
                  have := hbl2 b rfl
                  exact ⟨_, Z, m_orN (b := b) (by omega) Z⟩
              obtain ⟨r, W, hr⟩ := hr
              unfold f_Model_fewest_b62
              rw [if_pos (show nI (aLL (aS A)) < nI (aLL (aS A) + 1) by rw [nI_ltI (by omega) (by omega)]; omega), hfe, hr, bd2_s]
              exact ⟨_, rfl, Z, hr, hI.1, hI.2⟩)
          dsimp only at y2
          refine ⟨r, Y, Z, ?_, y2, y3, y4⟩
          unfold f_Model_fewest
          rw [m_isFamily, if_pos h1, bd_s, if_neg (by decide), lL 40, m_isIn1 (by omega), if_pos h2, bd_s, if_neg (by decide), lL 999999999, m_isIn0 (by omega), if_pos h3, bd_s, if_neg (by decide), hall, bd_s, a1, bd_s]
          exact y1
        cases o with
        | none =>
          refine act_find2 hO (c := -1000000004) (i := 3) (by decide) (by omega) (fun X hX => ?_) (fun X hX => ?_)
          · obtain ⟨Y, y1, y2⟩ := hcc X hX
            exact ⟨Y, by rw [y1, if_pos (show en1 none < 0 by decide)], y2⟩
          · obtain ⟨r, Y, Z, y1, y2, y3, y4⟩ := hmm X hX
            exact ⟨Z, by rw [y1, ← y2]; exact m_orN1 Z, y3, y4⟩
        | some b =>
          have hb := hbl2 b rfl
          refine act_tell hO (r := nI b) (fun X hX => ?_) (fun X hX => ?_)
          · obtain ⟨Y, y1, y2⟩ := hcc X hX
            refine ⟨Y, ?_, y2⟩
            rw [y1, if_neg (show ¬ en1 (some b) < 0 by show ¬ nI b < 0; rw [li 0, nI_ltI (by omega) (by omega)]; omega)]
            rfl
          · obtain ⟨r, Y, Z, y1, y2, y3, y4⟩ := hmm X hX
            have := m_orN (b := b) (by omega) Z
            exact ⟨Z, by rw [y1, ← y2]; exact this, y3, y4⟩
      · refine act_bey hO (fun X hX => ?_) (fun X hX => ?_)
        · unfold f_Tide_fewest f_Tide_fewest_j28
          rw [li 4, c_isBelow (by omega), if_pos h1, bd_s, if_neg (by decide), li 40, c_isUpTo1 (by omega), if_pos h2, bd_s, if_neg (by decide), li 999999999, c_isUpTo0 (by omega), if_neg h3, bd_s, if_pos rfl, bd2_id]
        · unfold f_Model_fewest f_Model_fewest_j31
          rw [m_isFamily, if_pos h1, bd_s, if_neg (by decide), lL 40, m_isIn1 (by omega), if_pos h2, bd_s, if_neg (by decide), lL 999999999, m_isIn0 (by omega), if_neg h3, bd_s, if_pos rfl, bd2_id]
    · refine act_bey hO (fun X hX => ?_) (fun X hX => ?_)
      · unfold f_Tide_fewest f_Tide_fewest_j28
        rw [li 4, c_isBelow (by omega), if_pos h1, bd_s, if_neg (by decide), li 40, c_isUpTo1 (by omega), if_neg h2, bd_s, if_pos rfl, bd2_id]
      · unfold f_Model_fewest f_Model_fewest_j31
        rw [m_isFamily, if_pos h1, bd_s, if_neg (by decide), lL 40, m_isIn1 (by omega), if_neg h2, bd_s, if_pos rfl, bd2_id]
  · refine act_bey hO (fun X hX => ?_) (fun X hX => ?_)
    · unfold f_Tide_fewest f_Tide_fewest_j28
      rw [li 4, c_isBelow (by omega), if_neg h1, bd_s, if_pos rfl, bd2_id]
    · unfold f_Model_fewest f_Model_fewest_j31
      rw [m_isFamily, if_neg h1, bd_s, if_pos rfl, bd2_id]
