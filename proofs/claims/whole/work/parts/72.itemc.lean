/-! items, by pure words -/
def Tp (L : Nat) (b : Nat → Nat) : Prop := L ≤ 120 ∧ ∀ i, i < L → b i < 256
def pPl (L : Nat) (b : Nat → Nat) (t : Nat) (s : Nat → Nat) (p : Nat) : Bool × (Nat → Nat) × Nat := if wd L b p (wrds.getD 8 []) = true then (if nu L b (tN L b p) 15 = true then (true, up (up s (23 + 6 * t + 2) (tV L b (tN L b p))) (23 + 6 * t + 4) 1, tN L b (tN L b p)) else (false, s, tN L b p)) else (true, s, p)
def pW1 (L : Nat) (b : Nat → Nat) (t : Nat) (s : Nat → Nat) (p : Nat) : Bool × (Nat → Nat) × Nat := if wd L b p (wrds.getD 7 []) = true then (if nu L b (tN L b p) 9999 = true then (true, up s (23 + 6 * t + 3) (tV L b (tN L b p)), tN L b (tN L b p)) else (false, s, tN L b p)) else (true, s, p)
def pWo (L : Nat) (b : Nat → Nat) (t : Nat) (s : Nat → Nat) (p : Nat) : Bool × (Nat → Nat) × Nat := if (pW1 L b t s p).1 = true then pPl L b t (pW1 L b t s p).2.1 (pW1 L b t s p).2.2 else pW1 L b t s p
def pTh (L : Nat) (b : Nat → Nat) (k : Nat) (s : Nat → Nat) (p : Nat) : Bool × (Nat → Nat) × Nat := if wd L b (tN L b p) (wrds.getD 6 []) = true then (if nu L b (tN L b (tN L b p)) 3 = true then pWo L b (s 0) (cm s k (tV L b (tN L b (tN L b p)))) (tN L b (tN L b (tN L b p))) else (false, s, tN L b (tN L b p))) else (false, s, tN L b p)
def pHt (L : Nat) (b : Nat → Nat) (s : Nat → Nat) (p : Nat) : Bool × (Nat → Nat) × Nat := if nu L b (tN L b p) 15 = true then (if nu L b (tN L b (tN L b p)) 9 = true then (true, up s (3 + tV L b (tN L b p)) (tV L b (tN L b (tN L b p))), tN L b (tN L b (tN L b p))) else (false, s, tN L b (tN L b p))) else (false, s, tN L b p)
def pIn (L : Nat) (b : Nat → Nat) (s : Nat → Nat) (p : Nat) : Bool × (Nat → Nat) × Nat := if nu L b (tN L b p) 50 = true then (true, up s 2 (tV L b (tN L b p)), tN L b (tN L b p)) else (false, s, tN L b p)
def pIt (L : Nat) (b : Nat → Nat) (s : Nat → Nat) (p : Nat) : Bool × (Nat → Nat) × Nat := if kn L b p < 6 then (if s 0 < 10 then pTh L b (kn L b p) s p else (false, s, p)) else if wd L b p (wrds.getD 9 []) = true then pHt L b s p else if wd L b p (wrds.getD 10 []) = true then pIn L b s p else (false, s, p)
/-! the class -/
theorem CL.sm {X Y : Mem} {L p : Nat} {b : Nat → Nat} (h : CL X L b p) {K : Nat → Prop} (hS : Sm K X Y) (hK : ¬ K 44) : CL Y L b p := ⟨((hS 44 hK).1 2).trans h.1, ((hS 44 hK).1 3).trans h.2.1, ((hS 44 hK).1 4).trans h.2.2⟩
def CI (X : Mem) (L : Nat) (b : Nat → Nat) (s : Nat → Nat) (p : Nat) : Prop := RC X 30 s ∧ TC X L b ∧ CL X L b p
def CR (X Y : Mem) (L : Nat) (b : Nat → Nat) (r : Bool × (Nat → Nat) × Nat) : Prop := TC Y L b ∧ CL Y L b r.2.2 ∧ (r.1 = true → RC Y 30 r.2.1) ∧ Sm (fun k => 30 ≤ k ∧ k < 45) X Y
theorem CF.s44 {X Y : Mem} (h : CF X Y) : Sm (fun k => 30 ≤ k ∧ k < 45) X Y := h.1.mono (fun k q => by omega)
theorem CR.pre {X Y Z : Mem} {L : Nat} {b : Nat → Nat} {r : Bool × (Nat → Nat) × Nat} (hS : Sm (fun k => 30 ≤ k ∧ k < 45) X Y) (h : CR Y Z L b r) : CR X Z L b r := ⟨h.1, h.2.1, h.2.2.1, hS.tr h.2.2.2⟩
theorem c_adv {X : Mem} {L p : Nat} {b : Nat → Nat} (hTp : Tp L b) (hp : p ≤ L) (hT : TC X L b) (hC : CL X L b p) : ∃ Y, f_Tape_step X = some Y ∧ CF X Y ∧ TC Y L b ∧ CL Y L b (tN L b p) := by
  obtain ⟨Y, y1, y2, y3⟩ := c_step hT hTp.1 hTp.2 (tN_le hp) hC.2.2
  exact ⟨Y, y1, y2, hT.cf y2, y3⟩
theorem rc_cf {X Y : Mem} {s : Nat → Nat} (h : RC X 30 s) (h0 : s 0 ≤ 10) (hF : CF X Y) : RC Y 30 s := h.sm h0 hF.1 (by omega)
theorem rc_putT {X : Mem} {s : Nat → Nat} (h : RC X 30 s) {t j v : Nat} (hj : j < 6) : RC (sI X ((30 + 3) + 1 + t) j (nI v)) 30 (up s (23 + 6 * t + j) v) := by
  obtain ⟨h0, h1, h2, h3, h4, h5⟩ := h
  refine ⟨by rw [gsI, if_neg (by omega), up_n (by omega)]; exact h0, by rw [gsI, if_neg (by omega), up_n (by omega)]; exact h1, by rw [gsI, if_neg (by omega), up_n (by omega)]; exact h2, fun d hd => by rw [gsI, if_neg (by omega), up_n (by omega)]; exact h3 d hd, fun d hd => by rw [gsI, if_neg (by omega), up_n (by omega)]; exact h4 d hd, fun u hu i hi => ?_⟩
  rw [up_n (by omega)] at hu
  rw [gsI]
  by_cases hc : u = t ∧ i = j
  · obtain ⟨rfl, rfl⟩ := hc
    rw [if_pos ⟨by omega, rfl⟩, up_s]
  · rw [if_neg (by omega), up_n (by omega)]; exact h5 u hu i hi
theorem rc_putH {X : Mem} {s : Nat → Nat} (h : RC X 30 s) {c v : Nat} (hc : c < 16) : RC (sI X (30 + 1) c (nI v)) 30 (up s (3 + c) v) := by
  obtain ⟨h0, h1, h2, h3, h4, h5⟩ := h
  refine ⟨by rw [gsI, if_neg (by omega), up_n (by omega)]; exact h0, by rw [gsI, if_neg (by omega), up_n (by omega)]; exact h1, by rw [gsI, if_neg (by omega), up_n (by omega)]; exact h2, fun d hd => ?_, fun f hf => by rw [gsI, if_neg (by omega), up_n (by omega)]; exact h4 f hf, fun t ht j hj => ?_⟩
  · rw [gsI]
    by_cases hdc : d = c
    · subst hdc; rw [if_pos ⟨rfl, rfl⟩, up_s]
    · rw [if_neg (by omega), up_n (by omega)]; exact h3 d hd
  · rw [up_n (by omega)] at ht
    rw [gsI, if_neg (by omega), up_n (by omega)]; exact h5 t ht j hj
theorem rc_putR {X : Mem} {s : Nat → Nat} (h : RC X 30 s) {v : Nat} : RC (sI X 30 5 (nI v)) 30 (up s 2 v) := by
  obtain ⟨h0, h1, h2, h3, h4, h5⟩ := h
  exact ⟨by rw [gsI, if_neg (by omega), up_n (by omega)]; exact h0, by rw [gsI, if_neg (by omega), up_n (by omega)]; exact h1, by rw [gsI, if_pos ⟨rfl, rfl⟩, up_s], fun d hd => by rw [gsI, if_neg (by omega), up_n (by omega)]; exact h3 d hd, fun d hd => by rw [gsI, if_neg (by omega), up_n (by omega)]; exact h4 d hd, fun t ht j hj => by
    rw [up_n (by omega)] at ht
    rw [gsI, if_neg (by omega), up_n (by omega)]; exact h5 t ht j hj⟩
theorem c_place {X : Mem} {L p t : Nat} {b s : Nat → Nat} (hTp : Tp L b) (hp : p ≤ L) (h : CI X L b s p) (h0 : s 0 ≤ 10) (ht : t < 10) : ∃ Y, f_Tide_readPlace ((30 + 3) + 1 + t) X = some ((if (pPl L b t s p).1 = true then 1 else 0), Y) ∧ CR X Y L b (pPl L b t s p) := by
  obtain ⟨hR, hT, hC⟩ := h
  unfold f_Tide_readPlace
  rw [c_isWord (w := 8) hT hTp.1 hTp.2 hp hC (by omega), bd_s, z10]
  by_cases c : wd L b p (wrds.getD 8 []) = true
  · obtain ⟨X4, a1, a2, a3, a4⟩ := c_adv hTp hp hT hC
    obtain ⟨X7, b1, b2, b3, b4⟩ := c_isNum (mo := 15) a3 hTp.1 hTp.2 (tN_le hp) a4 (by omega)
    rw [if_pos c, a1, bd_s, show f_Tape_isNumberTo (15 : Int32) X4 = _ from b1, bd2_s, z10]
    have hR7 := rc_cf (rc_cf hR h0 a2) h0 b2
    by_cases d : nu L b (tN L b p) 15 = true
    · have e : pPl L b t s p = (true, up (up s (23 + 6 * t + 2) (tV L b (tN L b p))) (23 + 6 * t + 4) 1, tN L b (tN L b p)) := by unfold pPl; rw [if_pos c, if_pos d]
      rw [e, if_pos d, lt_s1, b4 d]
      unfold f_Thing_layAt
      rw [lt_s1, lt_s1, bd_s]
      have hS10 : Sm (fun k => k = (30 + 3) + 1 + t) X7 (sI (sI X7 ((30 + 3) + 1 + t) 2 (nI (tV L b (tN L b p)))) ((30 + 3) + 1 + t) 4 1) := sm_s1 (sm_s1 Sm.rf)
      have hR10 : RC (sI (sI X7 ((30 + 3) + 1 + t) 2 (nI (tV L b (tN L b p)))) ((30 + 3) + 1 + t) 4 1) 30 (up (up s (23 + 6 * t + 2) (tV L b (tN L b p))) (23 + 6 * t + 4) 1) := rc_putT (v := 1) (rc_putT hR7 (by omega)) (by omega)
      obtain ⟨X12, d1, d2, d3, d4⟩ := c_adv hTp (tN_le hp) ((a3.cf b2).sm hS10 (by omega) (by omega)) (b3.sm hS10 (by omega))
      rw [d1, bd_s]
      exact ⟨X12, rfl, d3, d4, fun _ => rc_cf hR10 (by dsimp only; rw [up_n (by omega), up_n (by omega)]; exact h0) d2, ((a2.s44.tr b2.s44).tr (hS10.mono (fun k q => by omega))).tr d2.s44⟩
    · have e : pPl L b t s p = (false, s, tN L b p) := by unfold pPl; rw [if_pos c, if_neg d]
      rw [e, if_neg d]
      exact ⟨X7, rfl, a3.cf b2, b3, fun q => Bool.noConfusion (show false = true from q), a2.s44.tr b2.s44⟩
  · have e : pPl L b t s p = (true, s, p) := by unfold pPl; rw [if_neg c]
    rw [e, if_neg c]
    exact ⟨X, rfl, hT, hC, fun _ => hR, Sm.rf⟩
theorem c_worth1 {X : Mem} {L p t : Nat} {b s : Nat → Nat} (hTp : Tp L b) (hp : p ≤ L) (h : CI X L b s p) (h0 : s 0 ≤ 10) (ht : t < 10) : ∃ Y, f_Tide_readWorth ((30 + 3) + 1 + t) X = some ((if (pW1 L b t s p).1 = true then 1 else 0), Y) ∧ CR X Y L b (pW1 L b t s p) := by
  obtain ⟨hR, hT, hC⟩ := h
  unfold f_Tide_readWorth
  rw [c_isWord (w := 7) hT hTp.1 hTp.2 hp hC (by omega), bd_s, z10]
  by_cases c : wd L b p (wrds.getD 7 []) = true
  · obtain ⟨X4, a1, a2, a3, a4⟩ := c_adv hTp hp hT hC
    obtain ⟨X7, b1, b2, b3, b4⟩ := c_isNum (mo := 9999) a3 hTp.1 hTp.2 (tN_le hp) a4 (by omega)
    rw [if_pos c, a1, bd_s, show f_Tape_isNumberTo (9999 : Int32) X4 = _ from b1, bd2_s, z10]
    have hR7 := rc_cf (rc_cf hR h0 a2) h0 b2
    by_cases d : nu L b (tN L b p) 9999 = true
    · have e : pW1 L b t s p = (true, up s (23 + 6 * t + 3) (tV L b (tN L b p)), tN L b (tN L b p)) := by unfold pW1; rw [if_pos c, if_pos d]
      rw [e, if_pos d, lt_s1, b4 d, lt_s1]
      have hS10 : Sm (fun k => k = (30 + 3) + 1 + t) X7 (sI X7 ((30 + 3) + 1 + t) 3 (nI (tV L b (tN L b p)))) := sm_s1 Sm.rf
      have hR10 : RC (sI X7 ((30 + 3) + 1 + t) 3 (nI (tV L b (tN L b p)))) 30 (up s (23 + 6 * t + 3) (tV L b (tN L b p))) := rc_putT hR7 (by omega)
      obtain ⟨X12, d1, d2, d3, d4⟩ := c_adv hTp (tN_le hp) ((a3.cf b2).sm hS10 (by omega) (by omega)) (b3.sm hS10 (by omega))
      rw [d1, bd_s]
      exact ⟨X12, rfl, d3, d4, fun _ => rc_cf hR10 (by dsimp only; rw [up_n (by omega)]; exact h0) d2, ((a2.s44.tr b2.s44).tr (hS10.mono (fun k q => by omega))).tr d2.s44⟩
    · have e : pW1 L b t s p = (false, s, tN L b p) := by unfold pW1; rw [if_pos c, if_neg d]
      rw [e, if_neg d]
      exact ⟨X7, rfl, a3.cf b2, b3, fun q => Bool.noConfusion (show false = true from q), a2.s44.tr b2.s44⟩
  · have e : pW1 L b t s p = (true, s, p) := by unfold pW1; rw [if_neg c]
    rw [e, if_neg c]
    exact ⟨X, rfl, hT, hC, fun _ => hR, Sm.rf⟩
theorem pW1_le {L p t : Nat} {b s : Nat → Nat} (hp : p ≤ L) : (pW1 L b t s p).2.2 ≤ L := by
  unfold pW1
  split
  · split
    · exact tN_le (tN_le hp)
    · exact tN_le hp
  · exact hp
theorem pW1_0 {L p t : Nat} {b s : Nat → Nat} : (pW1 L b t s p).2.1 0 = s 0 := by
  unfold pW1
  split
  · split
    · show up s (23 + 6 * t + 3) (tV L b (tN L b p)) 0 = s 0
      rw [up_n (by omega)]
    · rfl
  · rfl
theorem c_height {X : Mem} {L p : Nat} {b s : Nat → Nat} (hTp : Tp L b) (hp : p ≤ L) (h : CI X L b s p) (h0 : s 0 ≤ 10) : ∃ Y, f_Tide_readHeight X = some ((if (pHt L b s p).1 = true then 1 else 0), Y) ∧ CR X Y L b (pHt L b s p) := by
  obtain ⟨hR, hT, hC⟩ := h
  unfold f_Tide_readHeight
  obtain ⟨X4, a1, a2, a3, a4⟩ := c_adv hTp hp hT hC
  obtain ⟨X7, b1, b2, b3, b4⟩ := c_isNum (mo := 15) a3 hTp.1 hTp.2 (tN_le hp) a4 (by omega)
  have hR7 := rc_cf (rc_cf hR h0 a2) h0 b2
  rw [a1, bd_s, show f_Tape_isNumberTo (15 : Int32) X4 = _ from b1, bd2_s, z10]
  by_cases d : nu L b (tN L b p) 15 = true
  · obtain ⟨X8, d1, d2, d3, d4⟩ := c_adv hTp (tN_le hp) (a3.cf b2) b3
    obtain ⟨X11, e1, e2, e3, e4⟩ := c_isNum (mo := 9) d3 hTp.1 hTp.2 (tN_le (tN_le hp)) d4 (by omega)
    have hR11 := rc_cf (rc_cf hR7 h0 d2) h0 e2
    have hv := (of_decide_eq_true d).2
    rw [if_pos d, lt_s1, b4 d, d1, bd_s, show f_Tape_isNumberTo (9 : Int32) X8 = _ from e1, bd2_s, z10]
    by_cases f : nu L b (tN L b (tN L b p)) 9 = true
    · have e : pHt L b s p = (true, up s (3 + tV L b (tN L b p)) (tV L b (tN L b (tN L b p))), tN L b (tN L b (tN L b p))) := by unfold pHt; rw [if_pos d, if_pos f]
      rw [e, if_pos f, lt_s1, e4 f, wrn (by omega) (by omega)]
      have hS10 : Sm (fun k => k = 30 + 1) X11 (sI X11 (30 + 1) (tV L b (tN L b p)) (nI (tV L b (tN L b (tN L b p))))) := sm_s1 Sm.rf
      have hR10 : RC (sI X11 (30 + 1) (tV L b (tN L b p)) (nI (tV L b (tN L b (tN L b p))))) 30 (up s (3 + tV L b (tN L b p)) (tV L b (tN L b (tN L b p)))) := rc_putH hR11 (by omega)
      obtain ⟨X12, g1, g2, g3, g4⟩ := c_adv hTp (tN_le (tN_le hp)) ((d3.cf e2).sm hS10 (by omega) (by omega)) (e3.sm hS10 (by omega))
      rw [g1, bd_s]
      exact ⟨X12, rfl, g3, g4, fun _ => rc_cf hR10 (by dsimp only; rw [up_n (by omega)]; exact h0) g2, ((((a2.s44.tr b2.s44).tr d2.s44).tr e2.s44).tr (hS10.mono (fun k q => by omega))).tr g2.s44⟩
    · have e : pHt L b s p = (false, s, tN L b (tN L b p)) := by unfold pHt; rw [if_pos d, if_neg f]
      rw [e, if_neg f]
      exact ⟨X11, rfl, d3.cf e2, e3, fun q => Bool.noConfusion (show false = true from q), ((a2.s44.tr b2.s44).tr d2.s44).tr e2.s44⟩
  · have e : pHt L b s p = (false, s, tN L b p) := by unfold pHt; rw [if_neg d]
    rw [e, if_neg d]
    exact ⟨X7, rfl, a3.cf b2, b3, fun q => Bool.noConfusion (show false = true from q), a2.s44.tr b2.s44⟩
theorem c_interest {X : Mem} {L p : Nat} {b s : Nat → Nat} (hTp : Tp L b) (hp : p ≤ L) (h : CI X L b s p) (h0 : s 0 ≤ 10) : ∃ Y, f_Tide_readInterest X = some ((if (pIn L b s p).1 = true then 1 else 0), Y) ∧ CR X Y L b (pIn L b s p) := by
  obtain ⟨hR, hT, hC⟩ := h
  unfold f_Tide_readInterest
  obtain ⟨X4, a1, a2, a3, a4⟩ := c_adv hTp hp hT hC
  obtain ⟨X7, b1, b2, b3, b4⟩ := c_isNum (mo := 50) a3 hTp.1 hTp.2 (tN_le hp) a4 (by omega)
  have hR7 := rc_cf (rc_cf hR h0 a2) h0 b2
  rw [a1, bd_s, show f_Tape_isNumberTo (50 : Int32) X4 = _ from b1, bd2_s, z10]
  by_cases d : nu L b (tN L b p) 50 = true
  · have e : pIn L b s p = (true, up s 2 (tV L b (tN L b p)), tN L b (tN L b p)) := by unfold pIn; rw [if_pos d]
    rw [e, if_pos d, lt_s1, b4 d, lt_s1]
    have hS10 : Sm (fun k => k = 30) X7 (sI X7 30 5 (nI (tV L b (tN L b p)))) := sm_s1 Sm.rf
    have hR10 : RC (sI X7 30 5 (nI (tV L b (tN L b p)))) 30 (up s 2 (tV L b (tN L b p))) := rc_putR hR7
    obtain ⟨X12, g1, g2, g3, g4⟩ := c_adv hTp (tN_le hp) ((a3.cf b2).sm hS10 (by omega) (by omega)) (b3.sm hS10 (by omega))
    rw [g1, bd_s]
    exact ⟨X12, rfl, g3, g4, fun _ => rc_cf hR10 (by dsimp only; rw [up_n (by omega)]; exact h0) g2, ((a2.s44.tr b2.s44).tr (hS10.mono (fun k q => by omega))).tr g2.s44⟩
  · have e : pIn L b s p = (false, s, tN L b p) := by unfold pIn; rw [if_neg d]
    rw [e, if_neg d]
    exact ⟨X7, rfl, a3.cf b2, b3, fun q => Bool.noConfusion (show false = true from q), a2.s44.tr b2.s44⟩
theorem c_thing {X : Mem} {L p k : Nat} {b s : Nat → Nat} (hTp : Tp L b) (hp : p ≤ L) (h : CI X L b s p) (h0 : s 0 < 10) (hk : k < 6) : ∃ Y, f_Tide_readThing (nI k) X = some ((if (pTh L b k s p).1 = true then 1 else 0), Y) ∧ CR X Y L b (pTh L b k s p) := by
  obtain ⟨hR, hT, hC⟩ := h
  unfold f_Tide_readThing
  obtain ⟨X2, a1, a2, a3, a4⟩ := c_adv hTp hp hT hC
  rw [a1, bd_s, c_isWord (w := 6) a3 hTp.1 hTp.2 (tN_le hp) a4 (by omega), bd_s, z10]
  by_cases c : wd L b (tN L b p) (wrds.getD 6 []) = true
  · obtain ⟨X6, d1, d2, d3, d4⟩ := c_adv hTp (tN_le hp) a3 a4
    obtain ⟨X9, e1, e2, e3, e4⟩ := c_isNum (mo := 3) d3 hTp.1 hTp.2 (tN_le (tN_le hp)) d4 (by omega)
    have hR9 := rc_cf (rc_cf (rc_cf hR (by omega) a2) (by omega) d2) (by omega) e2
    rw [if_pos c, d1, bd_s, show f_Tape_isNumberTo (3 : Int32) X6 = _ from e1, bd2_s, z10]
    by_cases f : nu L b (tN L b (tN L b p)) 3 = true
    · have hS9 : Sm (fun k => 30 ≤ k ∧ k < 45) X X9 := (a2.s44.tr d2.s44).tr e2.s44
      obtain ⟨X13, g1, g2, g3⟩ := c_add (k := k) (f := tV L b (tN L b (tN L b p))) hR9 h0
      have hT13 : TC X13 L b := (d3.cf e2).sm g3 (by omega) (by omega)
      have hC13 : CL X13 L b (tN L b (tN L b p)) := e3.sm g3 (by omega)
      obtain ⟨X15, i1, i2, i3, i4⟩ := c_adv hTp (tN_le (tN_le hp)) hT13 hC13
      have hc0 : cm s k (tV L b (tN L b (tN L b p))) 0 = s 0 + 1 := cm_0
      have hR15 := rc_cf g2 (by omega) i2
      have hhas : f_Shore_has 30 (nI (s 0)) X15 = some 1 := by
        unfold f_Shore_has
        rw [lt_s1, hR15.1, hc0, c_isBelow (by omega), if_pos (nIr (by omega) (by omega)), bd_s]
        unfold ckZ
        rw [if_pos (Or.inr rfl)]
      obtain ⟨X21, j1, j2⟩ := c_worth1 (t := s 0) hTp (tN_le (tN_le (tN_le hp))) ⟨hR15, i3, i4⟩ (by omega) h0
      have hS15 : Sm (fun k => 30 ≤ k ∧ k < 45) X X15 := (hS9.tr (g3.mono (fun z q => by omega))).tr i2.s44
      have e : pTh L b k s p = pWo L b (s 0) (cm s k (tV L b (tN L b (tN L b p)))) (tN L b (tN L b (tN L b p))) := by unfold pTh; rw [if_pos c, if_pos f]
      rw [e, if_pos f, lt_s1, e4 f, g1, bd2_s, i1, bd_s, hhas, bd_s, if_neg (by decide), rdRn h0 (by omega), j1, bd2_s, z10]
      by_cases w : (pW1 L b (s 0) (cm s k (tV L b (tN L b (tN L b p)))) (tN L b (tN L b (tN L b p)))).1 = true
      · obtain ⟨X25, l1, l2⟩ := c_place (t := s 0) hTp (pW1_le (tN_le (tN_le (tN_le hp)))) ⟨j2.2.2.1 w, j2.1, j2.2.1⟩ (by rw [pW1_0]; omega) h0
        have e2 : pWo L b (s 0) (cm s k (tV L b (tN L b (tN L b p)))) (tN L b (tN L b (tN L b p))) = pPl L b (s 0) (pW1 L b (s 0) (cm s k (tV L b (tN L b (tN L b p)))) (tN L b (tN L b (tN L b p)))).2.1 (pW1 L b (s 0) (cm s k (tV L b (tN L b (tN L b p)))) (tN L b (tN L b (tN L b p)))).2.2 := by unfold pWo; rw [if_pos w]
        rw [if_pos w, rdRn h0 (by omega), l1, bd2_s, z10, e2]
        refine ⟨X25, ?_, CR.pre (hS15.tr j2.2.2.2) l2⟩
        by_cases z : (pPl L b (s 0) (pW1 L b (s 0) (cm s k (tV L b (tN L b (tN L b p)))) (tN L b (tN L b (tN L b p)))).2.1 (pW1 L b (s 0) (cm s k (tV L b (tN L b (tN L b p)))) (tN L b (tN L b (tN L b p)))).2.2).1 = true
        · rw [if_pos z, if_pos z]
        · rw [if_neg z, if_neg z]
      · have e2 : pWo L b (s 0) (cm s k (tV L b (tN L b (tN L b p)))) (tN L b (tN L b (tN L b p))) = pW1 L b (s 0) (cm s k (tV L b (tN L b (tN L b p)))) (tN L b (tN L b (tN L b p))) := by unfold pWo; rw [if_neg w]
        rw [if_neg w, e2, if_neg w]
        exact ⟨X21, rfl, CR.pre hS15 j2⟩
    · have e : pTh L b k s p = (false, s, tN L b (tN L b p)) := by unfold pTh; rw [if_pos c, if_neg f]
      rw [e, if_neg f]
      exact ⟨X9, rfl, d3.cf e2, e3, fun q => Bool.noConfusion (show false = true from q), (a2.s44.tr d2.s44).tr e2.s44⟩
  · have e : pTh L b k s p = (false, s, tN L b p) := by unfold pTh; rw [if_neg c]
    rw [e, if_neg c]
    exact ⟨X2, rfl, a3, a4, fun q => Bool.noConfusion (show false = true from q), a2.s44⟩
theorem if01 {c : Prop} [Decidable c] {X : Mem} : (if c then some ((1 : Int32), X) else some ((0 : Int32), X)) = some ((if c then 1 else 0), X) := by
  by_cases h : c
  · rw [if_pos h, if_pos h]
  · rw [if_neg h, if_neg h]
theorem c_item {X : Mem} {L p : Nat} {b s : Nat → Nat} (hTp : Tp L b) (hp : p ≤ L) (h : CI X L b s p) (h0 : s 0 ≤ 10) : ∃ Y, f_Tide_readItem X = some ((if (pIt L b s p).1 = true then 1 else 0), Y) ∧ CR X Y L b (pIt L b s p) := by
  obtain ⟨hR, hT, hC⟩ := h
  unfold f_Tide_readItem
  rw [c_kind hT hTp.1 hTp.2 hp hC, bd_s]
  by_cases c : kn L b p < 6
  · rw [if_pos c, if_neg (nI_nm1 (by omega))]
    unfold f_Shore_isFull
    rw [lt_s1, hR.1, li 10]
    by_cases d : s 0 < 10
    · obtain ⟨Y, y1, y2⟩ := c_thing hTp hp ⟨hR, hT, hC⟩ d c
      have e : pIt L b s p = pTh L b (kn L b p) s p := by unfold pIt; rw [if_pos c, if_pos d]
      rw [if_pos (by rw [nI_ltI (by omega) (by omega)]; exact d), bd_s, if_pos rfl, y1, bd2_s, z10, if01, e]
      exact ⟨Y, rfl, y2⟩
    · have e : pIt L b s p = (false, s, p) := by unfold pIt; rw [if_pos c, if_neg d]
      rw [if_neg (by rw [nI_ltI (by omega) (by omega)]; exact d), bd_s, if_neg (by decide), e]
      exact ⟨X, rfl, hT, hC, fun q => Bool.noConfusion (show false = true from q), Sm.rf⟩
  · rw [if_neg c, if_pos rfl, c_isWord (w := 9) hT hTp.1 hTp.2 hp hC (by omega), bd_s, z10, c_isWord (w := 10) hT hTp.1 hTp.2 hp hC (by omega), bd_s, z10]
    by_cases d : wd L b p (wrds.getD 9 []) = true
    · obtain ⟨Y, y1, y2⟩ := c_height hTp hp ⟨hR, hT, hC⟩ h0
      have e : pIt L b s p = pHt L b s p := by unfold pIt; rw [if_neg c, if_pos d]
      rw [if_pos d, y1, bd2_s, ckZ_1, e]
      exact ⟨Y, rfl, y2⟩
    · rw [if_neg d]
      by_cases f : wd L b p (wrds.getD 10 []) = true
      · obtain ⟨Y, y1, y2⟩ := c_interest hTp hp ⟨hR, hT, hC⟩ h0
        have e : pIt L b s p = pIn L b s p := by unfold pIt; rw [if_neg c, if_neg d, if_pos f]
        rw [if_pos f, y1, bd2_s, z10, if01, e]
        exact ⟨Y, rfl, y2⟩
      · have e : pIt L b s p = (false, s, p) := by unfold pIt; rw [if_neg c, if_neg d, if_neg f]
        rw [if_neg f, e]
        exact ⟨X, rfl, hT, hC, fun q => Bool.noConfusion (show false = true from q), Sm.rf⟩
