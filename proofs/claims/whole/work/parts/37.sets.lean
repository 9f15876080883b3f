/-! sets and sums as both loops make them -/
def bt (n : Nat) : Int32 := (1 : Int32) <<< (nI n &&& 31)
def fs (g : Nat → Bool) : Nat → Int32
  | 0 => 0
  | n + 1 => if g n = true then fs g n ||| bt n else fs g n
def fm (g : Nat → Int32) : Nat → Int32
  | 0 => 0
  | n + 1 => fm g n + g n
theorem fs_cong {g h : Nat → Bool} : ∀ {n : Nat}, (∀ k, k < n → g k = h k) → fs g n = fs h n
  | 0, _ => rfl
  | n + 1, e => by
    unfold fs
    rw [fs_cong (fun k hk => e k (by omega)), e n (by omega)]
theorem fm_cong {g h : Nat → Int32} : ∀ {n : Nat}, (∀ k, k < n → g k = h k) → fm g n = fm h n
  | 0, _ => rfl
  | n + 1, e => by
    unfold fm
    rw [fm_cong (fun k hk => e k (by omega)), e n (by omega)]
theorem or_z (x : Int32) : x ||| 0 = x := Int32.or_zero
theorem bt_all : ∀ n, n < 10 → ∀ v, v < 2 ^ n → nI v ||| bt n = nI (v + 2 ^ n) := by decide +kernel
def bs (g : Nat → Bool) : Nat → Nat
  | 0 => 0
  | n + 1 => if g n = true then bs g n + 2 ^ n else bs g n
theorem bs_lt (g : Nat → Bool) : ∀ n, bs g n < 2 ^ n
  | 0 => by show 0 < 1; decide
  | n + 1 => by
    have := bs_lt g n
    unfold bs
    rw [Nat.pow_succ]
    split <;> omega
theorem fs_bs (g : Nat → Bool) : ∀ n, n ≤ 10 → fs g n = nI (bs g n)
  | 0, _ => rfl
  | n + 1, h => by
    unfold fs bs
    rw [fs_bs g n (by omega)]
    split
    · exact bt_all n (by omega) _ (bs_lt g n)
    · rfl
def pc (v : Nat) : Nat := v % 2 + v / 2 % 2 + v / 4 % 2 + v / 8 % 2 + v / 16 % 2 + v / 32 % 2 + v / 64 % 2 + v / 128 % 2 + v / 256 % 2 + v / 512 % 2
theorem bc_all : ∀ v, v < 1024 → f_Integer_bitCount (nI v) = some (nI (pc v)) := by decide +kernel
theorem many_all : ∀ v, v < 1024 → f_Model_many (nI v) = some (nI (pc v)) := by decide +kernel
theorem bs_1024 {g : Nat → Bool} {n : Nat} (hn : n ≤ 10) : bs g n < 1024 := Nat.lt_of_lt_of_le (bs_lt g n) (Nat.pow_le_pow_right (by omega) hn : 2 ^ n ≤ 2 ^ 10)
theorem c_count {g : Nat → Bool} {n : Nat} (hn : n ≤ 10) : f_Integer_bitCount (fs g n) = some (nI (pc (bs g n))) := by
  rw [fs_bs g n hn]; exact bc_all _ (bs_1024 hn)
theorem m_count {g : Nat → Bool} {n : Nat} (hn : n ≤ 10) : f_Model_many (fs g n) = some (nI (pc (bs g n))) := by
  rw [fs_bs g n hn]; exact many_all _ (bs_1024 hn)
theorem RM.rd {β : Type} {X : Mem} {R : Nat} {s : Nat → Nat} (h : RM X R s) {j : Nat} (hj : j < 83) {G : Int32 → Option β} : rdI X R 83 (nI j) G = G (nI (s j)) := by rw [rdn hj (by omega), h j hj]
def laidg (s : Nat → Nat) (c t : Nat) : Bool := decide (s (23 + 6 * t + 4) = 1 ∧ s (23 + 6 * t + 2) = c)
theorem c_laidAt {D : Nat} {X : Mem} {s : Nat → Nat} (h : RC X 2 s) (hg : Gd D s) {c : Nat} (hc : c < 16) : f_Shore_laidAt 2 (nI c) X = some (fs (laidg s c) (s 0)) := by
  have h0 := hg.1
  refine it_for (fun i => (fs (laidg s c) i, nI i)) (s 0) _ (by omega) (fun i hi => ?_) ?_
  · obtain ⟨g0, g1, g2, g3, g4, g5⟩ := hg.2.2.2.2.2 i hi
    unfold f_Shore_laidAt_b4 f_Shore_laidAt_j44
    simp only [lt_s1]
    rw [h.1, if_neg (by rw [nI_leI (by omega) (by omega)]; omega), rdRn (by omega) (by omega), h.th hi (by omega), li 1, nI_add]
    show _ = some (Sum.inr ((if laidg s c i = true then fs (laidg s c) i ||| bt i else fs (laidg s c) i), nI (i + 1)))
    by_cases e1 : s (23 + 6 * i + 4) = 1
    · rw [if_pos (by rw [e1]), rdRn (by omega) (by omega), h.th hi (by omega)]
      by_cases e2 : s (23 + 6 * i + 2) = c
      · rw [if_pos (by rw [e2]), if_pos (by unfold laidg; exact decide_eq_true ⟨e1, e2⟩)]
        rfl
      · rw [if_neg (by rw [nI_eq (by omega) (by omega)]; exact e2), if_neg (by unfold laidg; simp only [decide_eq_true_eq]; exact fun q => e2 q.2)]
    · rw [if_neg (by rw [nI_eq (by omega) (by omega)]; exact e1), if_neg (by unfold laidg; simp only [decide_eq_true_eq]; exact fun q => e1 q.1)]
  · unfold f_Shore_laidAt_b4
    simp only [lt_s1]
    rw [h.1, if_pos (by rw [nI_leI (by omega) (by omega)]; omega)]
theorem m_laidAt {D : Nat} {X : Mem} {s : Nat → Nat} (h : RM X 71 s) (hg : Gd D s) {c : Nat} (hc : c < 16) : f_Model_laidAt (nI c) X = some (fs (laidg s c) (s 0)) := by
  have h0 := hg.1
  refine it_for (fun i => (fs (laidg s c) i, nI i)) (s 0) _ (by omega) (fun i hi => ?_) ?_
  · obtain ⟨g0, g1, g2, g3, g4, g5⟩ := hg.2.2.2.2.2 i hi
    unfold f_Model_laidAt_b4 f_Model_laidAt_j40 f_Model_laidAt_j41
    simp only [lt_s1]
    rw [li 0, h.rd (by omega), if_neg (by rw [nI_leI (by omega) (by omega)]; omega), li 1, m_isIt h (by omega) (by omega) (by omega), bd_s, li 2, m_its h (by omega) (by omega), bd_s, nI_add]
    show _ = some (Sum.inr ((if laidg s c i = true then fs (laidg s c) i ||| bt i else fs (laidg s c) i), nI (i + 1)))
    by_cases e1 : s (23 + 6 * i + 4) = 1
    · rw [if_pos e1, if_neg (by decide)]
      by_cases e2 : s (23 + 6 * i + 2) = c
      · rw [if_pos (by rw [e2]), if_pos (by unfold laidg; exact decide_eq_true ⟨e1, e2⟩)]
        rfl
      · rw [if_neg (by rw [nI_eq (by omega) (by omega)]; exact e2), if_neg (by unfold laidg; simp only [decide_eq_true_eq]; exact fun q => e2 q.2)]
        exact congrArg (fun z => some (Sum.inr (z, nI (i + 1)))) (or_z _)
    · rw [if_neg e1, if_pos (show (0 : Int32) = nI 0 from rfl), if_neg (by unfold laidg; simp only [decide_eq_true_eq]; exact fun q => e1 q.1)]
      exact congrArg (fun z => some (Sum.inr (z, nI (i + 1)))) (or_z _)
  · unfold f_Model_laidAt_b4
    rw [li 0, h.rd (by omega), if_pos (by rw [nI_leI (by omega) (by omega)]; omega)]
def ing (s : Nat → Nat) (w t : Nat) : Bool := decide (s (23 + 6 * t + 4) = w)
theorem c_allIn {D : Nat} {X : Mem} {s : Nat → Nat} (h : RC X 2 s) (hg : Gd D s) {w : Nat} (hw : w < 3) : f_Shore_allIn 2 (nI w) X = some (fs (ing s w) (s 0)) := by
  have h0 := hg.1
  refine it_for (fun i => (fs (ing s w) i, nI i)) (s 0) _ (by omega) (fun i hi => ?_) ?_
  · obtain ⟨g0, g1, g2, g3, g4, g5⟩ := hg.2.2.2.2.2 i hi
    unfold f_Shore_allIn_b4 f_Shore_allIn_j31
    simp only [lt_s1]
    rw [h.1, if_neg (by rw [nI_leI (by omega) (by omega)]; omega), rdRn (by omega) (by omega), h.th hi (by omega), li 1, nI_add]
    show _ = some (Sum.inr ((if ing s w i = true then fs (ing s w) i ||| bt i else fs (ing s w) i), nI (i + 1)))
    by_cases e1 : s (23 + 6 * i + 4) = w
    · rw [if_pos (by rw [e1]), if_pos (by unfold ing; exact decide_eq_true e1)]
      rfl
    · rw [if_neg (by rw [nI_eq (by omega) (by omega)]; exact e1), if_neg (by unfold ing; simp only [decide_eq_true_eq]; exact e1)]
  · unfold f_Shore_allIn_b4
    simp only [lt_s1]
    rw [h.1, if_pos (by rw [nI_leI (by omega) (by omega)]; omega)]
theorem m_those {D : Nat} {X : Mem} {s : Nat → Nat} (h : RM X 71 s) (hg : Gd D s) {w : Nat} (hw : w < 3) : f_Model_thoseThatAre (nI w) X = some (fs (ing s w) (s 0)) := by
  have h0 := hg.1
  refine it_for (fun i => (fs (ing s w) i, nI i)) (s 0) _ (by omega) (fun i hi => ?_) ?_
  · obtain ⟨g0, g1, g2, g3, g4, g5⟩ := hg.2.2.2.2.2 i hi
    unfold f_Model_thoseThatAre_b4 f_Model_thoseThatAre_j31
    simp only [lt_s1]
    rw [li 0, h.rd (by omega), if_neg (by rw [nI_leI (by omega) (by omega)]; omega), m_isIt h (by omega) (by omega) (by omega), bd_s, li 1, nI_add]
    show _ = some (Sum.inr ((if ing s w i = true then fs (ing s w) i ||| bt i else fs (ing s w) i), nI (i + 1)))
    by_cases e1 : s (23 + 6 * i + 4) = w
    · rw [if_pos e1, if_neg (by decide), if_pos (by unfold ing; exact decide_eq_true e1)]
      rfl
    · rw [if_neg e1, if_pos (show (0 : Int32) = nI 0 from rfl), if_neg (by unfold ing; simp only [decide_eq_true_eq]; exact e1)]
      exact congrArg (fun z => some (Sum.inr (z, nI (i + 1)))) (or_z _)
  · unfold f_Model_thoseThatAre_b4
    rw [li 0, h.rd (by omega), if_pos (by rw [nI_leI (by omega) (by omega)]; omega)]
/-! sums -/
theorem c_allWorth {X : Mem} {s : Nat → Nat} (h : RC X 2 s) (h0 : s 0 ≤ 10) : f_Shore_allWorth 2 X = some (fm (fun t => nI (s (23 + 6 * t + 3))) (s 0)) := by
  refine it_for (fun i => (fm (fun t => nI (s (23 + 6 * t + 3))) i, nI i)) (s 0) _ (by omega) (fun i hi => ?_) ?_
  · unfold f_Shore_allWorth_b4
    simp only [lt_s1]
    rw [h.1, if_neg (by rw [nI_leI (by omega) (by omega)]; omega), rdRn (by omega) (by omega), h.th hi (by omega), li 1, nI_add]
    rfl
  · unfold f_Shore_allWorth_b4
    simp only [lt_s1]
    rw [h.1, if_pos (by rw [nI_leI (by omega) (by omega)]; omega)]
theorem m_now5 {X : Mem} {s : Nat → Nat} (h : RM X 71 s) (h0 : s 0 ≤ 10) : it (fun a => f_Model_now_b91 X a.1 a.2) FU ((0 : Int32), (0 : Int32)) = some (fm (fun t => nI (s (23 + 6 * t + 3))) (s 0), X) := by
  refine it_for (fun i => (fm (fun t => nI (s (23 + 6 * t + 3))) i, nI i)) (s 0) _ (by omega) (fun i hi => ?_) ?_
  · unfold f_Model_now_b91
    simp only [lt_s1]
    rw [li 0, h.rd (by omega), if_neg (by rw [nI_leI (by omega) (by omega)]; omega), li 3, m_its h (by omega) (by omega), bd_s, li 1, nI_add]
    rfl
  · unfold f_Model_now_b91
    rw [li 0, h.rd (by omega), if_pos (by rw [nI_leI (by omega) (by omega)]; omega)]
theorem c_allHeights {X : Mem} {s : Nat → Nat} (h : RC X 2 s) : f_Shore_allHeights 2 X = some (fm (fun t => nI (s (3 + t))) 16) := by
  refine it_for (fun i => (fm (fun t => nI (s (3 + t))) i, nI i)) 16 _ (by omega) (fun i hi => ?_) ?_
  · unfold f_Shore_allHeights_b4
    simp only [lt_s1]
    rw [li 16, if_neg (by rw [nI_leI (by omega) (by omega)]; omega), rdn hi (by omega), h.2.2.2.1 i hi, li 1, nI_add]
    rfl
  · unfold f_Shore_allHeights_b4
    rw [li 16, if_pos (by rw [nI_leI (by omega) (by omega)]; omega)]
theorem m_count3 {X : Mem} {s : Nat → Nat} (h : RM X 71 s) : it (fun a => f_Model_count_b55 X a.1 a.2) FU ((0 : Int32), (0 : Int32)) = some (fm (fun t => nI (s (3 + t))) 16, X) := by
  refine it_for (fun i => (fm (fun t => nI (s (3 + t))) i, nI i)) 16 _ (by omega) (fun i hi => ?_) ?_
  · unfold f_Model_count_b55
    simp only [lt_s1]
    rw [li 16, if_neg (by rw [nI_leI (by omega) (by omega)]; omega), li 3, nI_add, h.rd (by omega), li 1, nI_add]
    rfl
  · unfold f_Model_count_b55
    rw [li 16, if_pos (by rw [nI_leI (by omega) (by omega)]; omega)]
def blw (s : Nat → Nat) (m t : Nat) : Int32 := if s (3 + t) < m then 1 else 0
theorem ad_z (x : Int32) : x + 0 = x := Int32.add_zero x
theorem c_cellsBelow {D : Nat} {X : Mem} {s : Nat → Nat} (h : RC X 2 s) (hg : Gd D s) {m : Nat} (hm : m < 2 ^ 31) : f_Shore_cellsBelow 2 (nI m) X = some (fm (blw s m) 16) := by
  refine it_for (fun i => (fm (blw s m) i, nI i)) 16 _ (by omega) (fun i hi => ?_) ?_
  · have hh := hg.2.2.2.1 i hi
    unfold f_Shore_cellsBelow_b4 f_Shore_cellsBelow_j23
    simp only [lt_s1]
    rw [li 16, if_neg (by rw [nI_leI (by omega) (by omega)]; omega), rdn hi (by omega), h.2.2.2.1 i hi, show nI i + (1 : Int32) = nI (i + 1) from by rw [li 1, nI_add]]
    show _ = some (Sum.inr (fm (blw s m) i + (if s (3 + i) < m then 1 else 0), nI (i + 1)))
    by_cases e : s (3 + i) < m
    · rw [if_neg (by rw [nI_leI (by omega) (by omega)]; omega), if_pos e]
    · rw [if_pos (by rw [nI_leI (by omega) (by omega)]; omega), if_neg e]
      exact congrArg (fun z => some (Sum.inr (z, nI (i + 1)))) (ad_z _).symm
  · unfold f_Shore_cellsBelow_b4
    rw [li 16, if_pos (by rw [nI_leI (by omega) (by omega)]; omega)]
theorem m_tide3 {D : Nat} {X : Mem} {s : Nat → Nat} (h : RM X 71 s) (hg : Gd D s) {d : Nat} (hd : d < 2 ^ 31) : it (fun a => f_Model_tide_b77 (nI d) X a.1 a.2) FU ((0 : Int32), (0 : Int32)) = some (fm (blw s (mk d)) 16, X) := by
  have hm := @mk_le d
  refine it_for (fun i => (fm (blw s (mk d)) i, nI i)) 16 _ (by omega) (fun i hi => ?_) ?_
  · have hh := hg.2.2.2.1 i hi
    unfold f_Model_tide_b77 f_Model_tide_j106
    simp only [lt_s1]
    rw [li 16, if_neg (by rw [nI_leI (by omega) (by omega)]; omega), li 3, nI_add, h.rd (by omega), m_mark hd, bd_s, show nI i + (1 : Int32) = nI (i + 1) from by rw [li 1, nI_add]]
    show _ = some (Sum.inr (fm (blw s (mk d)) i + (if s (3 + i) < mk d then 1 else 0), nI (i + 1)))
    by_cases e : s (3 + i) < mk d
    · rw [if_neg (by rw [nI_leI (by omega) (by omega)]; omega), if_pos e]
    · rw [if_pos (by rw [nI_leI (by omega) (by omega)]; omega), if_neg e]
  · unfold f_Model_tide_b77
    rw [li 16, if_pos (by rw [nI_leI (by omega) (by omega)]; omega)]
