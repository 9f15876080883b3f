/-! numbers -/
def nu (L : Nat) (b : Nat → Nat) (p mo : Nat) : Bool := decide (tT L b p = 2 ∧ tV L b p ≤ mo)
theorem tV_le {L : Nat} {b : Nat → Nat} {p : Nat} : tV L b p ≤ 99999 := by
  unfold tV vlu
  by_cases c : tT L b p = 2
  · rw [if_pos c]
    exact vM_le _ (by
      have := clq_run (L := L) (b := b) (c := tT L b p) (q := tS L b p) (Or.inr c)
      rw [c] at this ⊢
      exact this)
  · rw [if_neg c]; omega
theorem c_isNum {X : Mem} {L p mo : Nat} {b : Nat → Nat} (hT : TC X L b) (hL : L ≤ 120) (hb : ∀ i, i < L → b i < 256) (hp : p ≤ L) (hC : CL X L b p) (hmo : mo ≤ 9999) : ∃ Y, f_Tape_isNumberTo (nI mo) X = some ((if nu L b p mo = true then 1 else 0), Y) ∧ CF X Y ∧ CL Y L b p ∧ (nu L b p mo = true → gI Y 44 5 = nI (tV L b p)) := by
  have hN := tN_le (b := b) hp
  have hr := tT_r (L := L) (b := b) (p := p)
  have hSN := tN_ge (L := L) (b := b) (p := p)
  have hvl := tV_le (L := L) (b := b) (p := p)
  have w0 : CF X (sI X 44 5 0) := cf_s CF.rf (by omega)
  have wC : CL (sI X 44 5 0) L b p := ⟨by rw [gsI, if_neg (by omega)]; exact hC.1, by rw [gsI, if_neg (by omega)]; exact hC.2.1, by rw [gsI, if_neg (by omega)]; exact hC.2.2⟩
  have w5 : gI (sI X 44 5 0) 44 5 = nI 0 := by rw [gsI, if_pos ⟨rfl, rfl⟩]; rfl
  unfold f_Tape_isNumberTo
  simp only [lt_s1]
  rw [wC.2.1]
  generalize sI X 44 5 0 = W at *
  by_cases c : tT L b p = 2
  · have hV : tV L b p = vM b (tS L b p) (tN L b p - tS L b p) := by
      unfold tV vlu
      rw [if_pos c]
      rfl
    have hdig := clq_run (L := L) (b := b) (c := tT L b p) (q := tS L b p) (Or.inr c)
    rw [c] at hdig
    have hdig' : ∀ j, j < tN L b p - tS L b p → clq L b 2 (tS L b p + j) = true := fun j hj => hdig j (by
      unfold tN at hj
      rw [c] at hj
      exact hj)
    obtain ⟨⟨r, Y⟩, y1, y2, y3⟩ := it_run (f := fun a => f_Tape_isNumberTo_b10 (nI mo) a.1 a.2) (fun i a => a.1 = nI (tS L b p + i) ∧ CF W a.2 ∧ CL a.2 L b p ∧ gI a.2 44 5 = nI (min 10000 (vM b (tS L b p) i))) (fun Y => Y.1 = (if nu L b p mo = true then 1 else 0) ∧ CF W Y.2 ∧ CL Y.2 L b p ∧ (nu L b p mo = true → gI Y.2 44 5 = nI (tV L b p))) (tN L b p - tS L b p) (by omega) (nI (tS L b p), W) ⟨rfl, CF.rf, wC, w5⟩ (by
      intro i a hi ⟨e1, e2, e3, e4⟩
      obtain ⟨x, Z⟩ := a
      dsimp only at e1 e2 e3 e4 ⊢
      subst e1
      have hTZ := (hT.cf w0).cf e2
      unfold f_Tape_isNumberTo_b10 f_Tape_isNumberTo_j59
      simp only [lt_s1]
      rw [e3.2.2, e3.1, c, e4]
      by_cases h : i < tN L b p - tS L b p
      · right
        have hq := of_decide_eq_true (hdig' i h)
        have hd := ccl_2 hq.2
        have hs : (nI (b (tS L b p + i))).toInt8.toInt32 = nI (b (tS L b p + i)) := (sgn_iff (hb _ hq.1) (by omega)).mpr rfl
        have hm : min 10000 (vM b (tS L b p) i) ≤ 10000 := Nat.min_le_left _ _
        rw [if_neg (by rw [nI_leI (by omega) (by omega)]; omega), if_pos (show nI 2 = (2 : Int32) from rfl), rdn (by omega) (by omega), hTZ.2 _ hq.1, hs, li 10, li 48, pk_mul, nI_add, pk_sub (by omega), li 10000, li 1, nI_add]
        refine ⟨h, _, rfl, rfl, cf_s e2 (by omega), ⟨by rw [gsI, if_neg (by omega)]; exact e3.1, by rw [gsI, if_neg (by omega)]; exact e3.2.1, by rw [gsI, if_neg (by omega)]; exact e3.2.2⟩, ?_⟩
        rw [gsI, if_pos ⟨rfl, rfl⟩, vM]
        by_cases hb1 : 9999 < vM b (tS L b p) i
        · rw [if_pos hb1, if_neg (by rw [nI_ltI (by omega) (by omega)]; omega)]
          congr 1
          omega
        · rw [if_neg hb1]
          by_cases hb2 : min 10000 (vM b (tS L b p) i) * 10 + b (tS L b p + i) - 48 < 10000
          · rw [if_pos (by rw [nI_ltI (by omega) (by omega)]; exact hb2)]
            congr 1
            omega
          · rw [if_neg (by rw [nI_ltI (by omega) (by omega)]; exact hb2)]
            congr 1
            omega
      · have hii : i = tN L b p - tS L b p := by omega
        left
        rw [if_pos (by rw [nI_leI (by omega) (by omega)]; omega), if_pos (show nI 2 = (2 : Int32) from rfl)]
        have e5 : min 10000 (vM b (tS L b p) i) = min 10000 (tV L b p) := by rw [hV, hii]
        rw [e5] at e4 ⊢
        by_cases d : tV L b p ≤ mo
        · have hnu : nu L b p mo = true := decide_eq_true ⟨c, d⟩
          rw [if_neg (by rw [nI_ltI (by omega) (by omega)]; omega)]
          exact ⟨_, rfl, by rw [if_pos hnu], e2, e3, fun _ => by rw [e4, Nat.min_eq_right (by omega)]⟩
        · have hnu : ¬ nu L b p mo = true := fun q => d (of_decide_eq_true q).2
          rw [if_pos (by rw [nI_ltI (by omega) (by omega)]; omega)]
          exact ⟨_, rfl, by rw [if_neg hnu], e2, e3, fun q => absurd q hnu⟩)
    dsimp only at y2 y3
    subst y2
    exact ⟨Y, y1, w0.tr y3.1, y3.2⟩
  · have hnu : ¬ nu L b p mo = true := fun q => c (of_decide_eq_true q).1
    have hj : f_Tape_isNumberTo_j59 (nI mo) W = some ((0 : Int32), W) := by
      unfold f_Tape_isNumberTo_j59
      rw [lt_s1, wC.1, li 2, if_neg (by rw [nI_eq (by omega) (by omega)]; exact c)]
    refine ⟨W, ?_, w0, wC, fun q => absurd q hnu⟩
    rw [if_neg hnu]
    refine it_for (fun _ => (nI (tS L b p), W)) 0 _ (by omega) (fun i hi => absurd hi (by omega)) ?_
    show f_Tape_isNumberTo_b10 (nI mo) (nI (tS L b p)) W = _
    unfold f_Tape_isNumberTo_b10
    simp only [lt_s1]
    rw [hj, wC.1, li 2, if_neg (show ¬ nI (tT L b p) = nI 2 by rw [nI_eq (by omega) (by omega)]; exact c), ite_self]
    rfl
