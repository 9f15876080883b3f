/-! the shore by numbers: 0 things, 1 day, 2 interest, 3.. heights, 19.. purses, 23 + 6 t + j things -/
def mk (d : Nat) : Nat := if 7 ≤ d % 14 then d % 14 - 5 else 9 - d % 14
def tk (k h d : Nat) : Bool := if k = 1 ∨ k = 4 then decide (h < mk d) && !decide (d % 14 = 0) else if k = 2 then decide (h ≤ mk d) else if k = 5 then decide (h ≤ mk d) && decide (d % 14 = 0) else decide (h < mk d)
def tm (k : Nat) : Nat := if k = 1 then 8 else if k = 3 then 28 else if k = 4 then 16 else if k = 5 then 15 else 1
def pl (w r d : Nat) : Nat := w + w * r * d / 100
def rpk (k p s : Nat) : Nat := if k = 1 then p + 5 else if k = 2 then p / 2 else if k = 3 then (if s % 28 = 14 then 0 else p) else if k = 4 then 2 * (p + 5) else if k = 5 then p / 2 + 3 else p
def rp (k w r s d : Nat) : Nat := min 99999999 (rpk k (pl w r d) s)
def GT (s : Nat → Nat) (t : Nat) : Prop := s (23 + 6 * t) < 6 ∧ s (23 + 6 * t + 1) < 4 ∧ s (23 + 6 * t + 2) < 16 ∧ s (23 + 6 * t + 3) ≤ 9999 ∧ s (23 + 6 * t + 4) ≤ 2 ∧ s (23 + 6 * t + 5) ≤ s 1
def Gd (D : Nat) (s : Nat → Nat) : Prop := s 0 ≤ 10 ∧ s 1 ≤ D ∧ s 2 ≤ 50 ∧ (∀ c, c < 16 → s (3 + c) ≤ 9) ∧ (∀ f, f < 4 → s (19 + f) ≤ 999999999) ∧ ∀ t, t < s 0 → GT s t
theorem pl_le {w r d : Nat} (hw : w ≤ 9999) (hr : r ≤ 50) (hd : d ≤ 1000000) : pl w r d ≤ 9999 + 5000000000 := by
  unfold pl
  have h1 : w * r ≤ 9999 * 50 := Nat.mul_le_mul hw hr
  have h2 : w * r * d ≤ 9999 * 50 * 1000000 := Nat.mul_le_mul h1 hd
  have h3 : w * r * d / 100 ≤ 9999 * 50 * 1000000 / 100 := Nat.div_le_div_right h2
  omega
theorem rp_le {k w r s d : Nat} : rp k w r s d ≤ 99999999 := Nat.min_le_left _ _
theorem m_its {X : Mem} {s : Nat → Nat} (h : RM X 71 s) {t j : Nat} (ht : t < 10) (hj : j < 6) : f_Model_its (nI t) (nI j) X = some (nI (s (23 + 6 * t + j))) := by
  unfold f_Model_its
  simp only [li, pk_mul, nI_add]
  rw [rdn (by omega) (by omega), h _ (by omega)]
theorem m_isIt {X : Mem} {s : Nat → Nat} (h : RM X 71 s) {t w : Nat} (ht : t < 10) (hw : w < 2 ^ 31) (hs : s (23 + 6 * t + 4) < 2 ^ 31) : f_Model_isIt (nI t) (nI w) X = some (if s (23 + 6 * t + 4) = w then 1 else 0) := by
  unfold f_Model_isIt
  rw [li 4, m_its h ht (by omega), bd_s]
  by_cases hc : s (23 + 6 * t + 4) = w
  · rw [if_pos (by rw [hc]), if_pos hc]
  · rw [if_neg (by rw [nI_eq hs hw]; exact hc), if_neg hc]
theorem remn {d m : Nat} (hd : d < 2 ^ 31) (hm : 0 < m) (hm2 : m < 2 ^ 31) : nI d - nI d / nI m * nI m = nI (d % m) := pk_rem hd hm hm2
theorem m_spring {d : Nat} (hd : d < 2 ^ 31) : f_Model_isSpring (nI d) = some (if d % 14 = 0 then 1 else 0) := by
  unfold f_Model_isSpring
  rw [li 14, remn hd (by omega) (by omega)]
  by_cases h : d % 14 = 0
  · rw [if_pos (by rw [h]; rfl), if_pos h]
  · rw [if_neg (fun e => h (by rw [show (0 : Int32) = nI 0 from rfl, nI_eq (by omega) (by omega)] at e; exact e)), if_neg h]
theorem m_mark {d : Nat} (hd : d < 2 ^ 31) : f_Model_mark (nI d) = some (nI (mk d)) := by
  unfold f_Model_mark mk
  rw [li 14, remn hd (by omega) (by omega), lt_s1]
  simp only [li]
  by_cases h : 7 ≤ d % 14
  · rw [if_pos (by rw [nI_leI (by omega) (by omega)]; exact h), if_pos h, pk_sub (by omega)]
  · rw [if_neg (by rw [nI_leI (by omega) (by omega)]; exact h), if_neg h, pk_sub (by omega)]
theorem m_term {k : Nat} (hk : k < 6) : f_Model_term (nI k) = some (nI (tm k)) := by
  have : ∀ k, k < 6 → f_Model_term (nI k) = some (nI (tm k)) := by decide +kernel
  exact this k hk
theorem mk_le {d : Nat} : mk d ≤ 9 := by
  unfold mk
  split <;> omega
def tkm (k h m : Nat) (b : Bool) : Bool := if k = 1 ∨ k = 4 then decide (h < m) && !b else if k = 2 then decide (h ≤ m) else if k = 5 then decide (h ≤ m) && b else decide (h < m)
def tkE (v10 v3 v5 v8 : Int32) : Option Int32 := if v10 = (1 : Int32) then (if v5 ≤ v3 then (some (0 : Int32)) else (if v8 = 0 then (some (1 : Int32)) else (some (0 : Int32)))) else if v10 = (2 : Int32) then (if v5 < v3 then (some (0 : Int32)) else (some (1 : Int32))) else if v10 = (3 : Int32) then (if v5 ≤ v3 then (some (0 : Int32)) else (some (1 : Int32))) else if v10 = (4 : Int32) then (if v5 ≤ v3 then (some (0 : Int32)) else (if v8 = 0 then (some (1 : Int32)) else (some (0 : Int32)))) else if v10 = (5 : Int32) then (if v5 < v3 then (some (0 : Int32)) else (if v8 = 0 then (some (0 : Int32)) else (some (1 : Int32)))) else (if v5 ≤ v3 then (some (0 : Int32)) else (some (1 : Int32)))
theorem tk_all : ∀ k, k < 6 → ∀ h, h < 10 → ∀ m, m < 10 → ∀ b : Bool, tkE (nI k) (nI h) (nI m) (if b = true then 1 else 0) = some (if tkm k h m b = true then 1 else 0) := by decide +kernel
theorem tk_m (k h d : Nat) : tk k h d = tkm k h (mk d) (decide (d % 14 = 0)) := rfl
theorem m_isTaken {D : Nat} {X : Mem} {s : Nat → Nat} (h : RM X 71 s) (hg : Gd D s) (hD : D < 2 ^ 31) {t : Nat} (ht : t < s 0) : f_Model_isTaken (nI t) X = some (if tk (s (23 + 6 * t)) (s (3 + s (23 + 6 * t + 2))) (s 1) = true then 1 else 0) := by
  obtain ⟨h0, h1, h2, h3, h4, h5⟩ := hg
  obtain ⟨g0, g1, g2, g3, g4, g5⟩ := h5 t ht
  have hh := h3 _ g2
  have hm := @mk_le (s 1)
  have e := tk_all _ g0 (s (3 + s (23 + 6 * t + 2))) (by omega) (mk (s 1)) (by omega) (decide (s 1 % 14 = 0))
  rw [tk_m, ← e]
  unfold f_Model_isTaken
  rw [li 2, m_its h (by omega) (by omega), bd_s, li 3, nI_add, rdn (by omega) (by omega), h _ (by omega), li 1, rdn (by omega) (by omega), h _ (by omega), m_mark (by omega), bd_s, rdn (by omega) (by omega), h _ (by omega), m_spring (by omega), bd_s, li 0, m_its h (by omega) (by omega), bd_s]
  simp only [decide_eq_true_eq]
  rfl
theorem lNl {a b : Nat} : lN a * lN b = lN (a * b) := lN_mul a b
theorem ilN {w : Nat} (h : w < 2 ^ 31) : (nI w).toInt64 = lN w := nI_l h
theorem rep_end {X : Mem} {v : Nat} (hv : v < 2 ^ 62) : f_Model_repays_j149 (lN v) X = some (nI (min 99999999 v)) := by
  unfold f_Model_repays_j149 f_Model_repays_j166
  rw [lL 99999999]
  by_cases h : v ≤ 99999999
  · rw [if_pos (by rw [lc_le, pk_lLE (by omega) (by omega)]; exact h), lN_i, Nat.min_eq_right h]
  · rw [if_neg (by rw [lc_le, pk_lLE (by omega) (by omega)]; exact h), lN_i, Nat.min_eq_left (by omega)]
theorem m_repays {D : Nat} {X : Mem} {s : Nat → Nat} (h : RM X 71 s) (hg : Gd D s) (hD : D ≤ 1000000) {t d : Nat} (ht : t < s 0) (hd : d ≤ 1000000) : f_Model_repays (nI t) (nI d) X = some (nI (rp (s (23 + 6 * t)) (s (23 + 6 * t + 3)) (s 2) (s (23 + 6 * t + 5)) d)) := by
  obtain ⟨h0, h1, h2, h3, h4, h5⟩ := hg
  obtain ⟨g0, g1, g2, g3, g4, g5⟩ := h5 t ht
  have hp := pl_le g3 h2 hd
  have hp1 : s (23 + 6 * t + 3) * s 2 * d < 2 ^ 62 := by
    have a1 : s (23 + 6 * t + 3) * s 2 ≤ 9999 * 50 := Nat.mul_le_mul g3 h2
    have a2 : s (23 + 6 * t + 3) * s 2 * d ≤ 9999 * 50 * 1000000 := Nat.mul_le_mul a1 hd
    omega
  unfold f_Model_repays
  rw [li 3, m_its h (by omega) (by omega), bd_s, lt_s1, ilN (by omega), li 2, rdn (by omega) (by omega), h _ (by omega), ilN (by omega), ilN (by omega), lNl, lNl, lL 100, pk_lDiv (by omega) (by omega) (by omega), lN_add, lt_s1, li 0, m_its h (by omega) (by omega), bd_s]
  have hk0 : s (23 + 6 * t + 0) = s (23 + 6 * t) := rfl
  rw [hk0]
  have e5 : s (23 + 6 * t + 3) + s (23 + 6 * t + 3) * s 2 * d / 100 = pl (s (23 + 6 * t + 3)) (s 2) d := rfl
  rw [e5]
  generalize hP : pl (s (23 + 6 * t + 3)) (s 2) d = P at *
  unfold rp
  rw [hP]
  generalize hK : s (23 + 6 * t) = K at *
  have hb : ∀ v, v ≤ 2 * (P + 5) → v < 2 ^ 62 := fun v hv => by omega
  rcases (show K = 0 ∨ K = 1 ∨ K = 2 ∨ K = 3 ∨ K = 4 ∨ K = 5 by omega) with rfl | rfl | rfl | rfl | rfl | rfl
  · exact rep_end (hb _ (by omega))
  · rw [lL 5, lN_add]
    exact rep_end (hb _ (by omega))
  · rw [lL 2, pk_lDiv (by omega) (by omega) (by omega)]
    exact rep_end (hb _ (by omega))
  · show bd (f_Model_its (nI t) 5 X) _ = _
    rw [li 5, m_its h (by omega) (by omega), bd_s, li 28, remn (by omega) (by omega) (by omega), li 14]
    show _ = some (nI (min 99999999 (if s (23 + 6 * t + 5) % 28 = 14 then 0 else P)))
    by_cases hc : s (23 + 6 * t + 5) % 28 = 14
    · rw [if_pos (by rw [hc]), if_pos hc]
      exact rep_end (v := 0) (by omega)
    · rw [if_neg (by rw [nI_eq (by omega) (by omega)]; exact hc), if_neg hc]
      exact rep_end (hb _ (by omega))
  · rw [lL 5, lL 2, lN_add, lNl]
    exact rep_end (hb _ (by omega))
  · rw [lL 2, lL 3, pk_lDiv (by omega) (by omega) (by omega), lN_add]
    exact rep_end (hb _ (by omega))
theorem m_at {t j : Nat} : f_Model_at (nI t) (nI j) = some (nI (23 + 6 * t + j)) := by
  unfold f_Model_at
  simp only [li, pk_mul, nI_add]
/-- a thing comes home -/
def hm (s : Nat → Nat) (t : Nat) : Nat → Nat := up (up s (19 + s (23 + 6 * t + 1)) (min 999999999 (s (19 + s (23 + 6 * t + 1)) + rp (s (23 + 6 * t)) (s (23 + 6 * t + 3)) (s 2) (s (23 + 6 * t + 5)) (s 1 - s (23 + 6 * t + 5))))) (23 + 6 * t + 4) 0
theorem m_comesHome {D : Nat} {X : Mem} {s : Nat → Nat} (h : RM X 71 s) (hg : Gd D s) (hD : D ≤ 1000000) {t : Nat} (ht : t < s 0) : ∃ Y, f_Model_comesHome (nI t) (nI (s 1 - s (23 + 6 * t + 5))) X = some Y ∧ RM Y 71 (hm s t) ∧ Sm (fun k => k = 71) X Y := by
  have hg2 := hg
  obtain ⟨h0, h1, h2, h3, h4, h5⟩ := hg
  obtain ⟨g0, g1, g2, g3, g4, g5⟩ := h5 t ht
  have hpu := h4 _ g1
  have hr := @rp_le (s (23 + 6 * t)) (s (23 + 6 * t + 3)) (s 2) (s (23 + 6 * t + 5)) (s 1 - s (23 + 6 * t + 5))
  unfold f_Model_comesHome
  rw [li 1, m_its h (by omega) (by omega), bd_s, li 19, nI_add, rdn (by omega) (by omega), h _ (by omega), m_repays h hg2 hD ht (by omega), bd_s, lt_s1, ilN (by omega), ilN (by omega), lN_add, bd_s, lL 999999999]
  unfold hm
  generalize rp (s (23 + 6 * t)) (s (23 + 6 * t + 3)) (s 2) (s (23 + 6 * t + 5)) (s 1 - s (23 + 6 * t + 5)) = r at *
  have key : ∀ v, v < 2 ^ 31 → v = min 999999999 (s (19 + s (23 + 6 * t + 1)) + r) → ∃ Y, f_Model_comesHome_j52 (nI t) 71 (nI (19 + s (23 + 6 * t + 1))) (lN v) X = some Y ∧ RM Y 71 (up (up s (19 + s (23 + 6 * t + 1)) (min 999999999 (s (19 + s (23 + 6 * t + 1)) + r))) (23 + 6 * t + 4) 0) ∧ Sm (fun k => k = 71) X Y := by
    intro v hv e
    unfold f_Model_comesHome_j52
    rw [lN_i, wrn (by omega) (by omega), li 4, m_at, bd_s, wrn (by omega) (by omega), ← e]
    exact ⟨_, rfl, (h.put).put (v := 0), Sm.sI (K := fun k => k = 71) (Sm.sI (K := fun k => k = 71) Sm.rf rfl) rfl⟩
  by_cases hc : s (19 + s (23 + 6 * t + 1)) + r ≤ 999999999
  · rw [if_pos (by rw [lc_le, pk_lLE (by omega) (by omega)]; exact hc), nI_add]
    exact key (s (19 + s (23 + 6 * t + 1)) + r) (by omega) (by omega)
  · rw [if_neg (by rw [lc_le, pk_lLE (by omega) (by omega)]; exact hc), nI_add]
    exact key 999999999 (by omega) (by omega)
