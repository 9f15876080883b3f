/-! due -/
theorem bt_bit : ∀ n, n < 10 → ∀ j, j < 32 → (bt n).toBitVec.getLsbD j = decide (j = n) := by decide +kernel
theorem fs_bit (g : Nat → Bool) : ∀ n, n ≤ 10 → ∀ j, j < 32 → (fs g n).toBitVec.getLsbD j = (decide (j < n) && g j)
  | 0, _, j, _ => by
    show (0 : Int32).toBitVec.getLsbD j = _
    rw [show (0 : Int32).toBitVec = 0#32 from rfl, BitVec.getLsbD_zero]
    simp
  | n + 1, hn, j, hj => by
    unfold fs
    have ih := fs_bit g n (by omega) j hj
    by_cases c : g n = true
    · rw [if_pos c, Int32.toBitVec_or, BitVec.getLsbD_or, ih, bt_bit n (by omega) j hj]
      by_cases e : j = n
      · subst e; simp [c]
      · by_cases e2 : j < n
        · simp [e, e2, Nat.lt_succ_of_lt e2]
        · have : ¬ j < n + 1 := by omega
          simp [e, e2, this]
    · rw [if_neg c, ih]
      by_cases e : j = n
      · subst e; simp [c]
      · by_cases e2 : j < n
        · simp [e2, Nat.lt_succ_of_lt e2]
        · have : ¬ j < n + 1 := by omega
          simp [e2, this]
theorem fs_and (g h : Nat → Bool) {n : Nat} (hn : n ≤ 10) : fs g n &&& fs h n = fs (fun j => g j && h j) n := by
  apply Int32.toBitVec_inj.mp
  rw [Int32.toBitVec_and]
  apply BitVec.eq_of_getLsbD_eq
  intro j hj
  rw [BitVec.getLsbD_and, fs_bit g n hn j hj, fs_bit h n hn j hj, fs_bit _ n hn j hj]
  cases decide (j < n) <;> cases g j <;> cases h j <;> rfl
theorem sp_st {k h d : Nat} {q : Nat × Nat} (hn : ¬ d % 14 = 0) (h0 : q.1 ≠ 0) : (sp k h d q).1 ≠ 0 := by
  unfold sp
  by_cases a : q.1 = 2
  · rw [if_pos a, if_neg (fun c => hn c.1)]; exact h0
  · rw [if_neg a]
    split
    · exact (by decide : (2 : Nat) ≠ 0)
    · exact h0
theorem sp_2 {k h d : Nat} {q : Nat × Nat} (h0 : q.1 ≠ 0) (h2 : q.1 ≤ 2) (h : (sp k h d q).1 = 0) : q.1 = 2 := by
  unfold sp at h
  by_cases a : q.1 = 2
  · exact a
  · rw [if_neg a] at h
    split at h
    · exact absurd h (by decide : ¬ (2 : Nat) = 0)
    · exact absurd h h0
theorem ev_nz {k h d : Nat} {q : Nat × Nat} (h0 : q.1 ≠ 0) : ∀ m, (∀ j, j < m → ¬ (d + j) % 14 = 0) → (ev k h d q m).1 ≠ 0
  | 0, _ => h0
  | m + 1, H => sp_st (H m (by omega)) (ev_nz h0 m (fun j hj => H j (by omega)))
theorem due_iff {k h d : Nat} {q : Nat × Nat} (h2 : q.1 ≤ 2) (hq : q.2 ≤ d) : (q.1 ≠ 0 ∧ (ev k h d q (spr d - d + 1)).1 = 0) ↔ ((ev k h d q (spr d - d)).1 = 2 ∧ (ev k h d q (spr d - d + 1)).1 = 0) := by
  have b1 := spr_ge d
  constructor
  · intro ⟨c1, c2⟩
    have n1 := ev_nz (k := k) (h := h) (d := d) c1 (spr d - d) (fun j hj e => by have := spr_min e (by omega : d ≤ d + j); omega)
    have n2 := (ev_good (k := k) (h := h) h2 hq (spr d - d)).1
    exact ⟨sp_2 n1 n2 c2, c2⟩
  · intro ⟨c1, c2⟩
    refine ⟨fun c => ?_, c2⟩
    have := (still k h d q (spr d - d) (fun j _ => sp0 c)).1
    rw [this] at c1
    omega
def dueg (s : Nat → Nat) (t : Nat) : Bool := decide (s (23 + 6 * t + 4) ≠ 0 ∧ evT s t (spr (s 1) - s 1 + 1) = 0)
theorem op_due {A : Ab} (hO : Ok A) : Act f_Tide_due f_Model_due A := by
  have hg := hO.1
  have h0 := hg.1
  have hd := hg.2.1
  have b1 := spr_ge (aS A 1)
  have b2 := spr_lt (aS A 1)
  have b3 := spr_mod (aS A 1)
  refine act_tell hO (r := fs (dueg (aS A)) (aS A 0)) (fun X hX => ?_) (fun X hX => ?_)
  · obtain ⟨Y, y1, y2, y3⟩ := c_followAll (n := spr (aS A 1) - aS A 1 + 1) hX.1 hg (by omega) (by omega)
    have hY : RC Y 2 (aS A) := hX.1.sm hg.1 y3 (by omega)
    unfold f_Tide_due
    simp only [lt_s1]
    rw [hX.1.2.1, c_springFrom (by omega), bd_s, pk_sub b1, li 1, nI_add, y1, bd_s]
    refine ⟨Y, ?_, y3.mono (fun z hz => by unfold scN; omega)⟩
    refine it_for (fun i => (fs (dueg (aS A)) i, nI i)) (aS A 0) _ (by omega) (fun i hi => ?_) ?_
    · obtain ⟨l, b, a, p, w1, w2⟩ := y2 i hi
      obtain ⟨v1, v2, v3, v4, v5, v6, v7, v8⟩ := w2
      unfold f_Tide_due_b28 f_Tide_due_j57
      simp only [lt_s1]
      rw [hY.1, if_neg (by rw [nI_leI (by omega) (by omega)]; omega), rdRn (by omega) (by omega), w1.2.1, show nI i + (1 : Int32) = nI (i + 1) from by rw [li 1, nI_add]]
      show _ = some (Sum.inr ((if dueg (aS A) i = true then fs (dueg (aS A)) i ||| bt i else fs (dueg (aS A)) i), nI (i + 1)))
      have key : dueg (aS A) i = true ↔ b ≠ 0 := by
        unfold dueg
        rw [decide_eq_true_eq]
        constructor
        · intro ⟨c1, c2⟩ c3
          have := (v6 _ (Nat.le_refl _) c1).mp c2
          omega
        · intro c
          have c1 : aS A (23 + 6 * i + 4) ≠ 0 := fun e => c (v8 e)
          exact ⟨c1, (v6 _ (Nat.le_refl _) c1).mpr ⟨by omega, v3⟩⟩
      by_cases c : b = 0
      · rw [if_pos (by rw [nI_le0 (by omega)]; exact c), if_neg (fun q => key.mp q c)]
      · rw [if_neg (by rw [nI_le0 (by omega)]; exact c), if_pos (key.mpr c)]
        rfl
    · unfold f_Tide_due_b28
      simp only [lt_s1]
      rw [hY.1, if_pos (by rw [nI_leI (by omega) (by omega)]; omega)]
  · have hC : ∀ t, t < aS A 0 → aS A (23 + 6 * t + 2) < 16 := fun t ht => (hg.2.2.2.2.2 t ht).2.2.1
    obtain ⟨X2, a1, a2, a3⟩ := m_copyRow (B := 74) hX.1 (by omega)
    unfold f_Model_due
    rw [a1, bd_s]
    obtain ⟨⟨r, Y⟩, y1, y2, y3, y4⟩ := it_run (f := fun a => f_Model_due_b11 a) (fun i a => ∃ u, RM a 71 u ∧ Aft (aS A) i u ∧ RM a 74 (aS A) ∧ Sm (fun k => k = 71 ∨ k = 73 ∨ k = 74) X a) (fun Y => Y.1 = fs (dueg (aS A)) (aS A 0) ∧ RM Y.2 71 (aS A) ∧ Sm (fun k => k = 71 ∨ k = 73 ∨ k = 74) X Y.2) (spr (aS A 1) - aS A 1) (by omega) X2 ⟨aS A, hX.1.sm a3 (by omega), Aft.z hg, a2, a3.mono (fun k q => by omega)⟩ (by
      intro i Z hi ⟨u, e2, e3, e4, e5⟩
      have hu := e3.gd hg
      obtain ⟨Y2, v, d1, d2, d3, d4⟩ := m_day e2 hu (by omega)
      have hv := (e3.add hC d3)
      unfold f_Model_due_b11
      rw [li 1, e2.rd (by omega), e3.2.1, m_spring (by omega), bd_s]
      by_cases c : (aS A 1 + i) % 14 = 0
      · left
        have hi2 : i = spr (aS A 1) - aS A 1 := by
          have := spr_min c (by omega : aS A 1 ≤ aS A 1 + i)
          omega
        obtain ⟨X7, c1, c2, c3⟩ := m_copyRow (B := 71) (e4.sm d4 (by omega)) (by omega)
        rw [if_pos c, if_neg (by decide), li 2, m_those e2 hu (by omega), bd_s, d1, bd_s, li 0, m_those d2 (hv.gd hg) (by omega), bd_s, c1, bd_s]
        refine ⟨_, rfl, ?_, c2, (e5.tr (d4.mono (fun k q => Or.inl q))).tr (c3.mono (fun k q => Or.inl q))⟩
        show fs (ing u 2) (u 0) &&& fs (ing v 0) (v 0) = _
        rw [e3.1, hv.1, fs_and _ _ h0]
        apply fs_cong
        intro t ht
        obtain ⟨g0, g1, g2, g3, g4, g5⟩ := hg.2.2.2.2.2 t ht
        have q1 : u (23 + 6 * t + 4) = evT (aS A) t i := congrArg Prod.fst (e3.2.2.2.2.2.1 t ht)
        have q2 : v (23 + 6 * t + 4) = evT (aS A) t (i + 1) := congrArg Prod.fst (hv.2.2.2.2.2.1 t ht)
        have q3 := due_iff (k := tK (aS A) t) (h := tH (aS A) t) (d := aS A 1) (q := tQ (aS A) t) g4 g5
        rw [← hi2] at q3
        unfold ing dueg
        rw [q1, q2, ← hi2, ← Bool.decide_and]
        exact decide_eq_decide.mpr q3.symm
      · right
        have hi2 : i ≠ spr (aS A 1) - aS A 1 := fun e => c (by rw [e, show aS A 1 + (spr (aS A 1) - aS A 1) = spr (aS A 1) from by omega]; exact b3)
        rw [if_neg c, if_pos (by decide), d1, bd_s]
        exact ⟨by omega, _, rfl, v, d2, hv, e4.sm d4 (by omega), e5.tr (d4.mono (fun k q => Or.inl q))⟩)
    dsimp only at y2 y3 y4
    subst y2
    exact ⟨Y, y1, hX.shore y3 y4⟩
