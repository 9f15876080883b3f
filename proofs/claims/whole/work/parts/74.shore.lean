/-! the text -/
theorem tN_ge0 {L : Nat} {b : Nat → Nat} {p : Nat} : p ≤ tN L b p := Nat.le_trans tS_ge tN_ge
theorem nu_v {L p mo : Nat} {b : Nat → Nat} (h : nu L b p mo = true) : tV L b p ≤ mo := (of_decide_eq_true h).2
theorem pPl_ok {D L p t : Nat} {b s : Nat → Nat} (hp : p ≤ L) : (pPl L b t s p).2.2 ≤ L ∧ p ≤ (pPl L b t s p).2.2 ∧ (Gd D s → Gd D (pPl L b t s p).2.1) := by
  have h1 := tN_ge0 (L := L) (b := b) (p := p)
  have h2 := tN_ge0 (L := L) (b := b) (p := tN L b p)
  unfold pPl
  by_cases c : wd L b p (wrds.getD 8 []) = true
  · rw [if_pos c]
    by_cases d : nu L b (tN L b p) 15 = true
    · have hv := nu_v d
      rw [if_pos d]
      refine ⟨tN_le (tN_le hp), Nat.le_trans h1 h2, fun hg => ?_⟩
      exact (hg.put (j := 23 + 6 * t + 2) (v := tV L b (tN L b p)) (by omega) (by omega) (by omega) (fun _ _ _ => by omega) (fun _ _ _ => by omega) (fun _ _ _ _ _ => by omega)).put (by omega) (by omega) (by omega) (fun _ _ _ => by omega) (fun _ _ _ => by omega) (fun _ _ _ _ _ => by omega)
    · rw [if_neg d]
      exact ⟨tN_le hp, h1, fun hg => hg⟩
  · rw [if_neg c]
    exact ⟨hp, Nat.le_refl _, fun hg => hg⟩
theorem pW1_ok {D L p t : Nat} {b s : Nat → Nat} (hp : p ≤ L) : p ≤ (pW1 L b t s p).2.2 ∧ (Gd D s → Gd D (pW1 L b t s p).2.1) := by
  have h1 := tN_ge0 (L := L) (b := b) (p := p)
  have h2 := tN_ge0 (L := L) (b := b) (p := tN L b p)
  unfold pW1
  by_cases c : wd L b p (wrds.getD 7 []) = true
  · rw [if_pos c]
    by_cases d : nu L b (tN L b p) 9999 = true
    · have hv := nu_v d
      rw [if_pos d]
      refine ⟨Nat.le_trans h1 h2, fun hg => ?_⟩
      exact hg.put (by omega) (by omega) (by omega) (fun _ _ _ => by omega) (fun _ _ _ => by omega) (fun _ _ _ _ _ => by omega)
    · rw [if_neg d]
      exact ⟨h1, fun hg => hg⟩
  · rw [if_neg c]
    exact ⟨Nat.le_refl _, fun hg => hg⟩
theorem pWo_ok {D L p t : Nat} {b s : Nat → Nat} (hp : p ≤ L) : (pWo L b t s p).2.2 ≤ L ∧ p ≤ (pWo L b t s p).2.2 ∧ (Gd D s → Gd D (pWo L b t s p).2.1) := by
  have a1 := pW1_ok (D := D) (t := t) (b := b) (s := s) hp
  have a2 := pW1_le (t := t) (b := b) (s := s) hp
  unfold pWo
  by_cases w : (pW1 L b t s p).1 = true
  · rw [if_pos w]
    have a3 := pPl_ok (D := D) (t := t) (b := b) (s := (pW1 L b t s p).2.1) a2
    exact ⟨a3.1, Nat.le_trans a1.1 a3.2.1, fun hg => a3.2.2 (a1.2 hg)⟩
  · rw [if_neg w]
    exact ⟨a2, a1.1, a1.2⟩
theorem pTh_ok {D L p k : Nat} {b s : Nat → Nat} (hp : p ≤ L) (h0 : s 0 < 10) (hk : k < 6) : (pTh L b k s p).2.2 ≤ L ∧ tN L b p ≤ (pTh L b k s p).2.2 ∧ (Gd D s → Gd D (pTh L b k s p).2.1) := by
  have h1 := tN_ge0 (L := L) (b := b) (p := tN L b p)
  have h2 := tN_ge0 (L := L) (b := b) (p := tN L b (tN L b p))
  unfold pTh
  by_cases c : wd L b (tN L b p) (wrds.getD 6 []) = true
  · rw [if_pos c]
    by_cases d : nu L b (tN L b (tN L b p)) 3 = true
    · have hv := nu_v d
      have a := pWo_ok (D := D) (t := s 0) (b := b) (s := cm s k (tV L b (tN L b (tN L b p)))) (tN_le (b := b) (tN_le (b := b) (tN_le (b := b) hp)))
      rw [if_pos d]
      exact ⟨a.1, Nat.le_trans (Nat.le_trans h1 h2) a.2.1, fun hg => a.2.2 (cm_gd hg h0 hk (by omega))⟩
    · rw [if_neg d]
      exact ⟨tN_le (tN_le hp), h1, fun hg => hg⟩
  · rw [if_neg c]
    exact ⟨tN_le hp, Nat.le_refl _, fun hg => hg⟩
theorem pHt_ok {D L p : Nat} {b s : Nat → Nat} (hp : p ≤ L) : (pHt L b s p).2.2 ≤ L ∧ tN L b p ≤ (pHt L b s p).2.2 ∧ (Gd D s → Gd D (pHt L b s p).2.1) := by
  have h1 := tN_ge0 (L := L) (b := b) (p := tN L b p)
  have h2 := tN_ge0 (L := L) (b := b) (p := tN L b (tN L b p))
  unfold pHt
  by_cases c : nu L b (tN L b p) 15 = true
  · rw [if_pos c]
    have hv := nu_v c
    by_cases d : nu L b (tN L b (tN L b p)) 9 = true
    · have hw := nu_v d
      rw [if_pos d]
      refine ⟨tN_le (tN_le (tN_le hp)), Nat.le_trans h1 h2, fun hg => ?_⟩
      exact hg.put (by omega) (by omega) (by omega) (fun _ _ _ => by omega) (fun _ _ _ => by omega) (fun _ _ _ _ _ => by omega)
    · rw [if_neg d]
      exact ⟨tN_le (tN_le hp), h1, fun hg => hg⟩
  · rw [if_neg c]
    exact ⟨tN_le hp, Nat.le_refl _, fun hg => hg⟩
theorem pIn_ok {D L p : Nat} {b s : Nat → Nat} (hp : p ≤ L) : (pIn L b s p).2.2 ≤ L ∧ tN L b p ≤ (pIn L b s p).2.2 ∧ (Gd D s → Gd D (pIn L b s p).2.1) := by
  have h1 := tN_ge0 (L := L) (b := b) (p := tN L b p)
  unfold pIn
  by_cases c : nu L b (tN L b p) 50 = true
  · rw [if_pos c]
    have hv := nu_v c
    refine ⟨tN_le (tN_le hp), h1, fun hg => ?_⟩
    exact hg.put (by omega) (by omega) (by omega) (fun _ _ _ => by omega) (fun _ _ _ => by omega) (fun _ _ _ _ _ => by omega)
  · rw [if_neg c]
    exact ⟨tN_le hp, Nat.le_refl _, fun hg => hg⟩
theorem pIt_ok {D L p : Nat} {b s : Nat → Nat} (hp : p ≤ L) : (pIt L b s p).2.2 ≤ L ∧ ((pIt L b s p).1 = true → p + 1 ≤ (pIt L b s p).2.2 ∧ (Gd D s → Gd D (pIt L b s p).2.1)) := by
  have hw : ∀ ws, wd L b p ws = true → p < tN L b p := fun ws h => tN_gt (by rw [(of_decide_eq_true h).1]; omega)
  unfold pIt
  by_cases c : kn L b p < 6
  · rw [if_pos c]
    by_cases d : s 0 < 10
    · rw [if_pos d]
      have a := pTh_ok (D := D) (b := b) (s := s) hp d c
      have g : p < tN L b p := tN_gt (by rw [kn_w c]; omega)
      exact ⟨a.1, fun _ => ⟨Nat.le_trans g a.2.1, a.2.2⟩⟩
    · rw [if_neg d]
      exact ⟨hp, fun q => Bool.noConfusion (show false = true from q)⟩
  · rw [if_neg c]
    by_cases d : wd L b p (wrds.getD 9 []) = true
    · rw [if_pos d]
      have a := pHt_ok (D := D) (b := b) (s := s) hp
      exact ⟨a.1, fun _ => ⟨Nat.le_trans (hw _ d) a.2.1, a.2.2⟩⟩
    · rw [if_neg d]
      by_cases f : wd L b p (wrds.getD 10 []) = true
      · rw [if_pos f]
        have a := pIn_ok (D := D) (b := b) (s := s) hp
        exact ⟨a.1, fun _ => ⟨Nat.le_trans (hw _ f) a.2.1, a.2.2⟩⟩
      · rw [if_neg f]
        exact ⟨hp, fun q => Bool.noConfusion (show false = true from q)⟩
def pT (L : Nat) (b : Nat → Nat) : Nat → Nat → (Nat → Nat) → Nat → Nat ⊕ (Nat × (Nat → Nat))
  | 0, _, _, p => .inl p
  | d + 1, n, s, p => if (pIt L b s p).1 = true then (if tT L b (pIt L b s p).2.2 = 3 then pT L b d (n + 1) (pIt L b s p).2.1 (tN L b (pIt L b s p).2.2) else if tT L b (pIt L b s p).2.2 = 0 then .inr (n + 1, (pIt L b s p).2.1) else .inl (tS L b (pIt L b s p).2.2)) else .inl (tS L b (pIt L b s p).2.2)
def enc : Nat ⊕ (Nat × (Nat → Nat)) → Int32
  | .inl f => (-1 : Int32) - nI f
  | .inr r => nI r.1
theorem pT_f {L : Nat} {b : Nat → Nat} : ∀ (d n : Nat) (s : Nat → Nat) (p f : Nat), p ≤ L → pT L b d n s p = .inl f → f ≤ L
  | 0, n, s, p, f, hp, h => by
    injection h with h
    omega
  | d + 1, n, s, p, f, hp, h => by
    have a := (pIt_ok (D := 0) (b := b) (s := s) hp).1
    rw [pT] at h
    by_cases c : (pIt L b s p).1 = true
    · rw [if_pos c] at h
      by_cases c3 : tT L b (pIt L b s p).2.2 = 3
      · rw [if_pos c3] at h
        exact pT_f d (n + 1) _ _ f (tN_le a) h
      · rw [if_neg c3] at h
        by_cases c0 : tT L b (pIt L b s p).2.2 = 0
        · rw [if_pos c0] at h; cases h
        · rw [if_neg c0] at h
          injection h with h
          rw [← h]; exact tS_le a
    · rw [if_neg c] at h
      injection h with h
      rw [← h]; exact tS_le a
theorem pT_s {D L : Nat} {b : Nat → Nat} : ∀ (d n : Nat) (s : Nat → Nat) (p : Nat) (r : Nat × (Nat → Nat)), p ≤ L → Gd D s → pT L b d n s p = .inr r → n + 1 ≤ r.1 ∧ r.1 ≤ n + d ∧ Gd D r.2
  | 0, n, s, p, r, hp, hg, h => by cases h
  | d + 1, n, s, p, r, hp, hg, h => by
    have a := pIt_ok (D := D) (b := b) (s := s) hp
    rw [pT] at h
    by_cases c : (pIt L b s p).1 = true
    · rw [if_pos c] at h
      by_cases c3 : tT L b (pIt L b s p).2.2 = 3
      · rw [if_pos c3] at h
        have := pT_s d (n + 1) _ _ r (tN_le a.1) ((a.2 c).2 hg) h
        exact ⟨by omega, by omega, this.2.2⟩
      · rw [if_neg c3] at h
        by_cases c0 : tT L b (pIt L b s p).2.2 = 0
        · rw [if_pos c0] at h
          injection h with h
          rw [← h]
          exact ⟨Nat.le_refl _, by show n + 1 ≤ n + (d + 1); omega, (a.2 c).2 hg⟩
        · rw [if_neg c0] at h; cases h
    · rw [if_neg c] at h; cases h
theorem it_l {α β : Type} {f : α → Option (β ⊕ α)} {n : Nat} {a : α} {r : β} (h : f a = some (.inl r)) : it f (n + 1) a = some r := by
  unfold it
  rw [h]
theorem it_r {α β : Type} {f : α → Option (β ⊕ α)} {n : Nat} {a a2 : α} (h : f a = some (.inr a2)) : it f (n + 1) a = it f n a2 := by
  conv => lhs; unfold it
  rw [h]
theorem c_text {L : Nat} {b : Nat → Nat} (hTp : Tp L b) : ∀ (d n : Nat) (s : Nat → Nat) (p : Nat) (X : Mem) (g : Nat), p ≤ L → L + 1 ≤ p + d → 2 * n ≤ p → d + 2 ≤ g → Gd 99999 s → CI X L b s p → ∃ Y, it (fun a : Int32 × Int32 × Mem => f_Tide_readText_b11 a.1 a.2.1 a.2.2) g (nI n, (1 : Int32), X) = some (enc (pT L b d n s p), Y) ∧ (∀ r, pT L b d n s p = .inr r → RC Y 30 r.2) ∧ Sm (fun k => 30 ≤ k ∧ k < 45) X Y
  | 0, n, s, p, X, g, hp, hd, hn, hgu, hg, h => absurd hd (by omega)
  | d + 1, n, s, p, X, 0, hp, hd, hn, hgu, hg, h => absurd hgu (by omega)
  | d + 1, n, s, p, X, g + 1, hp, hd, hn, hgu, hg, h => by
    have hL := hTp.1
    have a := pIt_ok (D := 99999) (b := b) (s := s) hp
    have hr := tT_r (L := L) (b := b) (p := (pIt L b s p).2.2)
    obtain ⟨Y1, y1, y2, y3, y4, y5⟩ := c_item hTp hp h hg.1
    rw [pT]
    by_cases c : (pIt L b s p).1 = true
    · rw [if_pos c] at y1 ⊢
      have hrow := y4 c
      have hga := (a.2 c).2 hg
      have hgp := (a.2 c).1
      have hb11 : f_Tide_readText_b11 (nI n) (1 : Int32) X = if tT L b (pIt L b s p).2.2 = 3 then f_Tide_readText_j57 (nI (n + 1)) (1 : Int32) Y1 else f_Tide_readText_j57 (nI (n + 1)) (0 : Int32) Y1 := by
        unfold f_Tide_readText_b11
        rw [if_neg (by decide), li 120, if_neg (by rw [nI_leI (by omega) (by omega)]; omega), y1, bd2_s, if_neg (by decide), lt_s1, lt_s1, y3.1, show nI n + (1 : Int32) = nI (n + 1) from by rw [li 1, nI_add]]
        by_cases c3 : tT L b (pIt L b s p).2.2 = 3
        · rw [if_pos c3, if_pos (by rw [c3]; rfl)]
        · rw [if_neg c3, if_neg (by rw [li 3, nI_eq (by omega) (by omega)]; exact c3)]
      by_cases c3 : tT L b (pIt L b s p).2.2 = 3
      · obtain ⟨X2, d1, d2, d3, d4⟩ := c_adv hTp a.1 y2 y3
        have hgt := tN_gt (L := L) (b := b) (p := (pIt L b s p).2.2) (by omega)
        have hstep : f_Tide_readText_b11 (nI n) (1 : Int32) X = some (.inr (nI (n + 1), (1 : Int32), X2)) := by
          rw [hb11, if_pos c3]
          unfold f_Tide_readText_j57
          rw [if_neg (by decide), d1, bd_s]
        obtain ⟨Y, z1, z2, z3⟩ := c_text hTp d (n + 1) (pIt L b s p).2.1 (tN L b (pIt L b s p).2.2) X2 g (tN_le a.1) (by omega) (by omega) (by omega) hga ⟨rc_cf hrow hga.1 d2, d3, d4⟩
        rw [if_pos c3]
        exact ⟨Y, (it_r hstep).trans z1, z2, (y5.tr d2.s44).tr z3⟩
      · have hstep : f_Tide_readText_b11 (nI n) (1 : Int32) X = some (.inr (nI (n + 1), (0 : Int32), Y1)) := by
          rw [hb11, if_neg c3]
          unfold f_Tide_readText_j57
          rw [if_pos rfl]
        rw [if_neg c3]
        cases g with
        | zero => omega
        | succ g =>
          by_cases c0 : tT L b (pIt L b s p).2.2 = 0
          · have hend : f_Tide_readText_b11 (nI (n + 1)) (0 : Int32) Y1 = some (.inl (nI (n + 1), Y1)) := by
              unfold f_Tide_readText_b11 f_Tide_readText_j72
              rw [if_pos rfl, lt_s1, y3.1, if_pos (by rw [c0]; rfl)]
              rfl
            rw [if_pos c0]
            refine ⟨Y1, (it_r hstep).trans (it_l hend), fun r hr => ?_, y5⟩
            injection hr with hr
            rw [← hr]; exact hrow
          · have hend : f_Tide_readText_b11 (nI (n + 1)) (0 : Int32) Y1 = some (.inl ((-1 : Int32) - nI (tS L b (pIt L b s p).2.2), Y1)) := by
              unfold f_Tide_readText_b11 f_Tide_readText_j72
              rw [if_pos rfl, lt_s1, y3.1, if_neg (by rw [li 0, nI_eq (by omega) (by omega)]; exact c0), lt_s1, y3.2.1]
              rfl
            rw [if_neg c0]
            refine ⟨Y1, (it_r hstep).trans (it_l hend), fun r hr => (by cases hr), y5⟩
    · rw [if_neg c] at y1 ⊢
      have hend : f_Tide_readText_b11 (nI n) (1 : Int32) X = some (.inl ((-1 : Int32) - nI (tS L b (pIt L b s p).2.2), Y1)) := by
        unfold f_Tide_readText_b11
        rw [if_neg (by decide), li 120, if_neg (by rw [nI_leI (by omega) (by omega)]; omega), y1, bd2_s, if_pos rfl, lt_s1, y3.2.1]
      exact ⟨Y1, it_l hend, fun r hr => (by cases hr), y5⟩
/-- the model's end: the tape is wiped, and a fault lays the row back -/
def ME (X Y : Mem) : Prop := gI Y 70 7 = 0 ∧ gI Y 70 4 = gI X 70 4 ∧ Sm (fun k => k = 70 ∨ k = 71) X Y
theorem m_bad {X : Mem} {s0 : Nat → Nat} {f : Nat} {x1 : Int32} (h3 : RM X 73 s0) (hf : gI X 70 15 = nI f) : ∃ Y, f_Model_shore_j77 x1 (0 : Int32) X = some ((-1 : Int32) - nI f, Y) ∧ RM Y 71 s0 ∧ ME X Y := by
  unfold f_Model_shore_j77 f_Model_shore_j98
  have hS : Sm (fun k => k = 70) X (sI X 70 7 0) := sm_s1 Sm.rf
  obtain ⟨Y, y1, y2, y3⟩ := m_copyRow (B := 71) (h3.sm hS (by omega)) (by omega)
  rw [lt_s1, if_pos rfl, y1, bd_s, if_pos rfl, lt_s1, (y3 70 (by omega)).1, gsI, if_neg (by omega), hf]
  refine ⟨Y, rfl, y2, by rw [(y3 70 (by omega)).1, gsI, if_pos ⟨rfl, rfl⟩], by rw [(y3 70 (by omega)).1, gsI, if_neg (by omega)], (hS.mono (fun k q => Or.inl q)).tr (y3.mono (fun k q => Or.inr q))⟩
theorem m_good {X : Mem} {x1 : Int32} : f_Model_shore_j77 x1 (1 : Int32) X = some (x1, sI X 70 7 0) ∧ ME X (sI X 70 7 0) := by
  refine ⟨?_, by rw [gsI, if_pos ⟨rfl, rfl⟩], by rw [gsI, if_neg (by omega)], (Sm.rf.sI (Or.inl rfl))⟩
  unfold f_Model_shore_j77 f_Model_shore_j98
  rw [lt_s1, if_neg (by decide), if_neg (by decide)]
theorem me_pre {X Y Z : Mem} (h : M2 X Y) (h2 : ME Y Z) : ME X Z := ⟨h2.1, h2.2.1.trans (h.2 4 (by omega)), h.1.tr h2.2.2⟩
theorem m_text {L : Nat} {b s0 : Nat → Nat} (hTp : Tp L b) : ∀ (d n : Nat) (s : Nat → Nat) (p : Nat) (X : Mem) (g : Nat), p ≤ L → L + 1 ≤ p + d → d + 1 ≤ g → Gd 99999 s → MI X L b s p → RM X 73 s0 → ∃ Y, (bd2 (f_Model_itemHere X) fun v X8 => it (fun a : Int32 × Int32 × Mem => f_Model_shore_b27 a.1 a.2.1 a.2.2) g (nI (n + 1), v, X8)) = some (enc (pT L b d n s p), Y) ∧ (∀ r, pT L b d n s p = .inr r → RM Y 71 r.2) ∧ (∀ f, pT L b d n s p = .inl f → RM Y 71 s0) ∧ ME X Y
  | 0, n, s, p, X, g, hp, hd, hgu, hg, h, h3 => absurd hd (by omega)
  | d + 1, n, s, p, X, 0, hp, hd, hgu, hg, h, h3 => absurd hgu (by omega)
  | d + 1, n, s, p, X, g + 1, hp, hd, hgu, hg, h, h3 => by
    have hL := hTp.1
    have a := pIt_ok (D := 99999) (b := b) (s := s) hp
    have hr := tT_r (L := L) (b := b) (p := (pIt L b s p).2.2)
    obtain ⟨Y1, y1, y2, y3, y4, y5, y6⟩ := m_item hTp hp h hg.1
    have h31 : RM Y1 73 s0 := h3.sm y6.1 (by omega)
    rw [y1, bd2_s, pT]
    by_cases c : (pIt L b s p).1 = true
    · rw [if_pos c, if_pos c]
      have hrow := y4 c
      have hga := (a.2 c).2 hg
      have hgp := (a.2 c).1
      by_cases c3 : tT L b (pIt L b s p).2.2 = 3
      · obtain ⟨X3, d1, d2, d3, d4⟩ := m_adv hTp a.1 y2 y3
        have hgt := tN_gt (L := L) (b := b) (p := (pIt L b s p).2.2) (by omega)
        have hMI : MI X3 L b (pIt L b s p).2.1 (tN L b (pIt L b s p).2.2) := ⟨rm_mf hrow d2, d3, d4⟩
        obtain ⟨Y, z1, z2, z3, z4⟩ := m_text hTp d (n + 1) (pIt L b s p).2.1 (tN L b (pIt L b s p).2.2) X3 g (tN_le a.1) (by omega) (by omega) hga hMI (h31.sm d2.1 (by omega))
        obtain ⟨Z, w1, _⟩ := m_item hTp (tN_le a.1) hMI hga.1
        rw [w1, bd2_s] at z1
        have hstep : f_Model_shore_b27 (nI (n + 1)) (1 : Int32) Y1 = some (.inr (nI (n + 1 + 1), (if (pIt L b (pIt L b s p).2.1 (tN L b (pIt L b s p).2.2)).1 = true then 1 else 0), Z)) := by
          unfold f_Model_shore_b27
          rw [if_neg (by decide), lt_s1, y3.1, if_pos (by rw [c3]; rfl), d1, bd_s, w1, bd2_s, lt_s1, show nI (n + 1) + (1 : Int32) = nI (n + 1 + 1) from by rw [li 1, nI_add]]
        rw [if_pos c3]
        exact ⟨Y, (it_r hstep).trans z1, z2, z3, me_pre (y6.tr d2.m2) z4⟩
      · rw [if_neg c3]
        have hn3 : ¬ nI (tT L b (pIt L b s p).2.2) = (3 : Int32) := by rw [li 3, nI_eq (by omega) (by omega)]; exact c3
        by_cases c0 : tT L b (pIt L b s p).2.2 = 0
        · obtain ⟨k1, k2⟩ := m_good (X := Y1) (x1 := nI (n + 1))
          have hend : f_Model_shore_b27 (nI (n + 1)) (1 : Int32) Y1 = some (.inl (nI (n + 1), sI Y1 70 7 0)) := by
            unfold f_Model_shore_b27 f_Model_shore_j54 f_Model_shore_j72
            rw [if_neg (by decide), lt_s1, y3.1, if_neg hn3, if_neg (by decide), lt_s1, if_pos (by rw [c0]; rfl), k1]
            rfl
          rw [if_pos c0]
          refine ⟨_, it_l hend, fun r hr => ?_, fun f hf => (by cases hf), me_pre y6 k2⟩
          injection hr with hr
          rw [← hr]
          exact hrow.sm (sm_s1 (k := 70) Sm.rf) (by omega)
        · have w15 : gI (sI Y1 70 15 (nI (tS L b (pIt L b s p).2.2))) 70 15 = nI (tS L b (pIt L b s p).2.2) := by rw [gsI, if_pos ⟨rfl, rfl⟩]
          have wF : MF Y1 (sI Y1 70 15 (nI (tS L b (pIt L b s p).2.2))) := mf_s MF.rf (by omega)
          obtain ⟨Y, k1, k2, k3⟩ := m_bad (x1 := nI (n + 1)) (h31.sm wF.1 (by omega)) w15
          have hend : f_Model_shore_b27 (nI (n + 1)) (1 : Int32) Y1 = some (.inl ((-1 : Int32) - nI (tS L b (pIt L b s p).2.2), Y)) := by
            unfold f_Model_shore_b27 f_Model_shore_j54 f_Model_shore_j76
            rw [if_neg (by decide), lt_s1, y3.1, if_neg hn3, if_neg (by decide), lt_s1, if_neg (by rw [li 0, nI_eq (by omega) (by omega)]; exact c0), m_fails y3, bd2_s, if_pos rfl, k1]
            rfl
          rw [if_neg c0]
          exact ⟨Y, it_l hend, fun r hr => (by cases hr), fun f _ => k2, me_pre (y6.tr wF.m2) k3⟩
    · rw [if_neg c, if_neg c]
      have cf : (pIt L b s p).1 = false := by
        cases hq : (pIt L b s p).1
        · rfl
        · exact absurd hq c
      obtain ⟨Y, k1, k2, k3⟩ := m_bad (x1 := nI (n + 1)) h31 (y5 cf)
      have hend : f_Model_shore_b27 (nI (n + 1)) (0 : Int32) Y1 = some (.inl ((-1 : Int32) - nI (tS L b (pIt L b s p).2.2), Y)) := by
        unfold f_Model_shore_b27 f_Model_shore_j54 f_Model_shore_j76
        rw [if_pos rfl, if_pos rfl, k1]
        rfl
      exact ⟨Y, it_l hend, fun r hr => (by cases hr), fun f _ => k2, me_pre y6 k3⟩
theorem flt_all : ∀ f, f < 200 → ((-1 : Int32) - nI f) ≤ 0 := by decide +kernel
theorem op_shore {A : Ab} (hO : Ok A) : Act f_Tide_shore f_Model_shore A := by
  have hg := hO.1
  have h0 := hg.1
  have hTp : Tp (aT A) (aB A) := ⟨hO.2.2.1, hO.2.2.2.1⟩
  have hT120 := hTp.1
  have hcl : ∀ X, IC A X → ∃ X2 Y, f_Shore_become 30 2 X = some X2 ∧ f_Tide_readText X2 = some (enc (pT (aT A) (aB A) (aT A + 1) 0 (aS A) 0), Y) ∧ (∀ r, pT (aT A) (aB A) (aT A + 1) 0 (aS A) 0 = .inr r → RC Y 30 r.2) ∧ Sm (fun k => 30 ≤ k ∧ k < 45) X Y := by
    intro X hX
    obtain ⟨X2, a1, a2, a3⟩ := c_become (B := 30) hX.1 h0 (by omega)
    have hT2 : TC X2 (aT A) (aB A) := hX.2.2.2.1.sm a3 (by omega) (by omega)
    have wF : CF X2 (sI X2 44 4 0) := cf_s CF.rf (by omega)
    obtain ⟨X3, b1, b2, b3⟩ := c_step (p := 0) (hT2.cf wF) hTp.1 hTp.2 (by omega) (by rw [gsI, if_pos ⟨rfl, rfl⟩]; rfl)
    have hrw : f_Tape_rewind X2 = some X3 := by
      unfold f_Tape_rewind
      rw [lt_s1, b1, bd_s]
    obtain ⟨Y, y1, y2, y3⟩ := c_text hTp (aT A + 1) 0 (aS A) 0 X3 FU (by omega) (by omega) (by omega) (by unfold FU; omega) hg ⟨rc_cf (rc_cf a2 h0 wF) h0 b2, (hT2.cf wF).cf b2, b3⟩
    refine ⟨X2, Y, a1, ?_, y2, (((a3.mono (fun k q => by omega)).tr wF.s44).tr b2.s44).tr y3⟩
    unfold f_Tide_readText
    rw [hrw, bd_s]
    exact y1
  have hml : ∀ X, IM A X → ∃ Y, f_Model_shore X = some (enc (pT (aT A) (aB A) (aT A + 1) 0 (aS A) 0), Y) ∧ (∀ r, pT (aT A) (aB A) (aT A + 1) 0 (aS A) 0 = .inr r → RM Y 71 r.2) ∧ (∀ f, pT (aT A) (aB A) (aT A + 1) 0 (aS A) 0 = .inl f → RM Y 71 (aS A)) ∧ gI Y 70 7 = 0 ∧ gI Y 70 4 = gI X 70 4 ∧ Sm (fun k => k = 70 ∨ k = 71 ∨ k = 73) X Y := by
    intro X hX
    obtain ⟨X2, a1, a2, a3⟩ := m_copyRow (B := 73) hX.1 (by omega)
    have hT2 : TM X2 (aT A) (aB A) := hX.2.2.2.1.sm a3 (by omega) (by omega)
    have wF : MF X2 (sI X2 70 13 0) := mf_s MF.rf (by omega)
    obtain ⟨X5, b1, b2, b3⟩ := m_next (p := 0) (hT2.mf wF) hTp.1 hTp.2 (by omega) (by rw [gsI, if_pos ⟨rfl, rfl⟩]; rfl)
    obtain ⟨Y, y1, y2, y3, y4⟩ := m_text (s0 := aS A) hTp (aT A + 1) 0 (aS A) 0 X5 FU (by omega) (by omega) (by unfold FU; omega) hg ⟨rm_mf (rm_mf (hX.1.sm a3 (by omega)) wF) b2, (hT2.mf wF).mf b2, b3⟩ ((a2.sm wF.1 (by omega)).sm b2.1 (by omega))
    have hm := me_pre (wF.m2.tr b2.m2) y4
    refine ⟨Y, ?_, y2, y3, hm.1, hm.2.1.trans ((a3 70 (by omega)).1 4), (a3.mono (fun k q => Or.inr (Or.inr q))).tr (hm.2.2.mono (fun k q => by omega))⟩
    unfold f_Model_shore
    rw [a1, bd_s, lt_s1, b1, bd_s]
    exact y1
  have hOt : ∀ u, Gd 99999 u → Ok (tp (u, A.2) 0 (aB A)) := fun u hu => ⟨hu, hO.2.1, Nat.zero_le _, fun i hi => absurd hi (Nat.not_lt_zero i), hO.2.2.2.2⟩
  have hIM : ∀ X Y u, IM A X → RM Y 71 u → gI Y 70 7 = 0 → gI Y 70 4 = gI X 70 4 → Sm (fun k => k = 70 ∨ k = 71 ∨ k = 73) X Y → IM (tp (u, A.2) 0 (aB A)) Y ∧ Sm M70 X Y := fun X Y u hX h1 h7 h4 hS => ⟨⟨h1, hX.2.1.sm7 h4 hS (by omega), hX.2.2.1.sm hS (by omega), ⟨h7, fun i hi => absurd hi (Nat.not_lt_zero i)⟩, hX.2.2.2.2.sm hS (by omega) (by omega) (by omega)⟩, hS.mono (fun q hq => by unfold M70; omega)⟩
  have hIC : ∀ X Y u, IC A X → RC Y 2 u → gI Y 44 1 = 0 → Sm (fun k => (2 ≤ k ∧ k < 16) ∨ (30 ≤ k ∧ k < 45)) X Y → IC (tp (u, A.2) 0 (aB A)) Y ∧ Sm C70 X Y := fun X Y u hX h1 h7 hS => ⟨⟨h1, hX.2.1.sm (fun u hu => (hO.2.1 u hu).1) hS (by omega) (by omega), hX.2.2.1.sm hS (by omega), ⟨h7, fun i hi => absurd hi (Nat.not_lt_zero i)⟩, hX.2.2.2.2.sm hS (by omega)⟩, hS.mono (fun q hq => by unfold C70; omega)⟩
  have hpf := fun f => pT_f (L := aT A) (b := aB A) (aT A + 1) 0 (aS A) 0 f (by omega)
  have hps := fun r => pT_s (D := 99999) (L := aT A) (b := aB A) (aT A + 1) 0 (aS A) 0 r (by omega) hg
  generalize pT (aT A) (aB A) (aT A + 1) 0 (aS A) 0 = res at *
  cases res with
  | inl f =>
    have hf := hpf f rfl
    refine ⟨(-1 : Int32) - nI f, tp (aS A, A.2) 0 (aB A), hOt _ hg, fun X hX => ?_, fun X hX => ?_⟩
    · obtain ⟨X2, Y, y1, y2, y3, y4⟩ := hcl X hX
      have hS : Sm (fun k => k = 44) Y (sI Y 44 1 0) := sm_s1 Sm.rf
      have hSX : Sm (fun k => (2 ≤ k ∧ k < 16) ∨ (30 ≤ k ∧ k < 45)) X (sI Y 44 1 0) := (y4.mono (fun k q => Or.inr q)).tr (hS.mono (fun k q => by omega))
      unfold f_Tide_shore f_Tide_shore_j31
      rw [y1, bd_s, y2, bd2_s, if_pos (show enc (.inl f) ≤ 0 from flt_all f (by omega)), lt_s1]
      exact ⟨_, rfl, hIC X _ _ hX ((hX.1.sm h0 y4 (by omega)).sm h0 hS (by omega)) (by rw [gsI, if_pos ⟨rfl, rfl⟩]) hSX⟩
    · obtain ⟨Y, y1, y2, y3, y4, y5, y6⟩ := hml X hX
      exact ⟨Y, y1, hIM X Y _ hX (y3 f rfl) y4 y5 y6⟩
  | inr r =>
    obtain ⟨r1, r2, r3⟩ := hps r rfl
    refine ⟨nI r.1, tp (r.2, A.2) 0 (aB A), hOt _ r3, fun X hX => ?_, fun X hX => ?_⟩
    · obtain ⟨X2, Y, y1, y2, y3, y4⟩ := hcl X hX
      obtain ⟨X7, z1, z2, z3⟩ := c_become (B := 2) (y3 r rfl) r3.1 (by omega)
      have hS : Sm (fun k => k = 44) X7 (sI X7 44 1 0) := sm_s1 Sm.rf
      have hSX : Sm (fun k => (2 ≤ k ∧ k < 16) ∨ (30 ≤ k ∧ k < 45)) X (sI X7 44 1 0) := ((y4.mono (fun k q => Or.inr q)).tr (z3.mono (fun k q => by omega))).tr (hS.mono (fun k q => by omega))
      unfold f_Tide_shore f_Tide_shore_j31
      rw [y1, bd_s, y2, bd2_s, if_neg (show ¬ enc (.inr r) ≤ 0 by show ¬ nI r.1 ≤ 0; rw [nI_le0 (by omega)]; omega), z1, bd_s, lt_s1]
      exact ⟨_, rfl, hIC X _ _ hX (z2.sm r3.1 hS (by omega)) (by rw [gsI, if_pos ⟨rfl, rfl⟩]) hSX⟩
    · obtain ⟨Y, y1, y2, y3, y4, y5, y6⟩ := hml X hX
      exact ⟨Y, y1, hIM X Y _ hX (y2 r rfl) y4 y5 y6⟩
