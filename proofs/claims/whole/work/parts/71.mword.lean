/-! the model's words and numbers -/
theorem m_isNum {X : Mem} {L p mo : Nat} {b : Nat → Nat} (hM : ML X L b p) (hmo : mo ≤ 9999) : f_Model_isNumber (0 : Int32) (nI mo) X = if nu L b p mo = true then some (1, X) else some (0, sI X 70 15 (nI (tS L b p))) := by
  have hvl := tV_le (L := L) (b := b) (p := p)
  have hr := tT_r (L := L) (b := b) (p := p)
  unfold f_Model_isNumber f_Model_isNumber_j23 f_Model_isNumber_j30 f_Model_fails
  simp only [lt_s1]
  rw [hM.1, hM.2.1, hM.2.2.2, bd2_s, if_pos (rfl : (0 : Int32) = 0), li 2]
  by_cases c : tT L b p = 2
  · rw [if_pos (by rw [c]), ilN (w := mo) (by omega), show (0 : Int32).toInt64 = (0 : Int64) from by decide, m_isIn0 (by omega), bd_s, z10, nI_toInt (by omega)]
    by_cases d : tV L b p ≤ mo
    · rw [if_pos (by omega), if_pos (show nu L b p mo = true from decide_eq_true ⟨c, d⟩)]
    · rw [if_neg (by omega), if_neg (fun q => d (of_decide_eq_true q).2)]
  · rw [if_neg (by rw [nI_eq (by omega) (by omega)]; exact c), if_neg (fun q => c (of_decide_eq_true q).1)]
theorem m_isWord {X : Mem} {L p n : Nat} {b : Nat → Nat} (hp : p ≤ L) (hL : L ≤ 120) (hM : ML X L b p) (hn : n ≤ 8) : f_Model_isWord (nI n) X = some (if tT L b p = 1 ∧ tN L b p = tS L b p + n then 1 else 0) := by
  have hN := tN_le (b := b) hp
  have hr := tT_r (L := L) (b := b) (p := p)
  have hSN := tN_ge (L := L) (b := b) (p := p)
  unfold f_Model_isWord
  simp only [lt_s1]
  rw [hM.1, hM.2.1, hM.2.2.1, pk_sub hSN]
  by_cases c : tT L b p = 1
  · rw [if_pos (by rw [c]; rfl)]
    by_cases d : tN L b p = tS L b p + n
    · rw [if_pos (by rw [d, Nat.add_sub_cancel_left]), if_pos ⟨c, d⟩]
    · rw [if_neg (by rw [nI_eq (by omega) (by omega)]; omega), if_neg (fun q => d q.2)]
  · rw [if_neg (by rw [li 1, nI_eq (by omega) (by omega)]; exact c), if_neg (fun q => c q.1)]
theorem m_has3 {X : Mem} {L p i u v w : Nat} {b : Nat → Nat} (hT : TM X L b) (hL : L ≤ 120) (hb : ∀ i, i < L → b i < 256) (hM : ML X L b p) (hi : tS L b p + i + 2 < L) (hu : u < 256) (hv : v < 256) (hw : w < 256) : f_Model_has3 (nI i) (nI u) (nI v) (nI w) X = some (if b (tS L b p + i) = u ∧ b (tS L b p + i + 1) = v ∧ b (tS L b p + i + 2) = w then 1 else 0) := by
  have b0 := hb (tS L b p + i) (by omega)
  have b1 := hb (tS L b p + i + 1) (by omega)
  have b2 := hb (tS L b p + i + 2) hi
  unfold f_Model_has3
  simp only [lt_s1]
  rw [hM.2.1, nI_add, m_byte hT hL (by omega), bd_s, show bya L b (tS L b p + i) = nI (b (tS L b p + i)) from if_pos (by omega)]
  by_cases c0 : b (tS L b p + i) = u
  · rw [if_pos (by rw [c0]), li 1, nI_add, m_byte hT hL (by omega), bd_s, show bya L b (tS L b p + i + 1) = nI (b (tS L b p + i + 1)) from if_pos (by omega)]
    by_cases c1 : b (tS L b p + i + 1) = v
    · rw [if_pos (by rw [c1]), li 2, nI_add, m_byte hT hL (by omega), bd_s, show bya L b (tS L b p + i + 2) = nI (b (tS L b p + i + 2)) from if_pos (by omega)]
      by_cases c2 : b (tS L b p + i + 2) = w
      · rw [if_pos (by rw [c2]), if_pos ⟨c0, c1, c2⟩]
        all_goals rfl
      · rw [if_neg (by rw [nI_eq (by omega) (by omega)]; exact c2), if_neg (fun q => c2 q.2.2)]
    · rw [if_neg (by rw [nI_eq (by omega) (by omega)]; exact c1), if_neg (fun q => c1 q.2.1)]
  · rw [if_neg (by rw [nI_eq (by omega) (by omega)]; exact c0), if_neg (fun q => c0 q.1)]
theorem wd_five {L p a1 a2 a3 a4 a5 : Nat} {b : Nat → Nat} (c : tT L b p = 1 ∧ tN L b p = tS L b p + 5) : wd L b p [a1, a2, a3, a4, a5] = true ↔ (b (tS L b p + 0) = a1 ∧ b (tS L b p + 0 + 1) = a2 ∧ b (tS L b p + 0 + 2) = a3) ∧ (b (tS L b p + 2) = a3 ∧ b (tS L b p + 2 + 1) = a4 ∧ b (tS L b p + 2 + 2) = a5) := by
  constructor
  · intro q
    have q3 := (of_decide_eq_true q).2.2
    exact ⟨⟨q3 0 (show 0 < 5 by omega), q3 1 (show 1 < 5 by omega), q3 2 (show 2 < 5 by omega)⟩, ⟨q3 2 (show 2 < 5 by omega), q3 3 (show 3 < 5 by omega), q3 4 (show 4 < 5 by omega)⟩⟩
  · intro ⟨⟨x0, x1, x2⟩, ⟨_, x3, x4⟩⟩
    refine decide_eq_true ⟨c.1, c.2, fun i hi => ?_⟩
    have hi' : i < 5 := hi
    rcases (show i = 0 ∨ i = 1 ∨ i = 2 ∨ i = 3 ∨ i = 4 by omega) with rfl | rfl | rfl | rfl | rfl
    · exact x0
    · exact x1
    · exact x2
    · exact x3
    · exact x4
theorem m_five {X : Mem} {L p a1 a2 a3 a4 a5 : Nat} {b : Nat → Nat} (hT : TM X L b) (hL : L ≤ 120) (hb : ∀ i, i < L → b i < 256) (hp : p ≤ L) (hM : ML X L b p) (h1 : a1 < 256) (h2 : a2 < 256) (h3 : a3 < 256) (h4 : a4 < 256) (h5 : a5 < 256) : f_Model_isFive (nI a1) (nI a2) (nI a3) (nI a4) (nI a5) X = some (if wd L b p [a1, a2, a3, a4, a5] = true then 1 else 0) := by
  have hN := tN_le (b := b) hp
  unfold f_Model_isFive
  rw [show f_Model_isWord (5 : Int32) X = _ from m_isWord (n := 5) hp hL hM (by omega), bd_s, z10]
  by_cases c : tT L b p = 1 ∧ tN L b p = tS L b p + 5
  · have hc := c.2
    rw [if_pos c, show f_Model_has3 (0 : Int32) (nI a1) (nI a2) (nI a3) X = _ from m_has3 (i := 0) (p := p) hT hL hb hM (by omega) (by omega) (by omega) (by omega), bd_s, z10, show f_Model_has3 (2 : Int32) (nI a3) (nI a4) (nI a5) X = _ from m_has3 (i := 2) (p := p) hT hL hb hM (by omega) (by omega) (by omega) (by omega), bd_s, z10]
    have hw := wd_five (a1 := a1) (a2 := a2) (a3 := a3) (a4 := a4) (a5 := a5) (b := b) c
    by_cases d0 : b (tS L b p + 0) = a1 ∧ b (tS L b p + 0 + 1) = a2 ∧ b (tS L b p + 0 + 2) = a3
    · rw [if_pos d0]
      by_cases d1 : b (tS L b p + 2) = a3 ∧ b (tS L b p + 2 + 1) = a4 ∧ b (tS L b p + 2 + 2) = a5
      · rw [if_pos d1, if_pos (hw.mpr ⟨d0, d1⟩)]
      · rw [if_neg d1, if_neg (fun q => d1 (hw.mp q).2)]
    · rw [if_neg d0, if_neg (fun q => d0 (hw.mp q).1)]
  · rw [if_neg c, if_neg (fun q => c ⟨(of_decide_eq_true q).1, (of_decide_eq_true q).2.1⟩)]
theorem wd_six {L p a1 a2 a3 a4 a5 a6 : Nat} {b : Nat → Nat} (c : tT L b p = 1 ∧ tN L b p = tS L b p + 6) : wd L b p [a1, a2, a3, a4, a5, a6] = true ↔ (b (tS L b p + 0) = a1 ∧ b (tS L b p + 0 + 1) = a2 ∧ b (tS L b p + 0 + 2) = a3) ∧ (b (tS L b p + 3) = a4 ∧ b (tS L b p + 3 + 1) = a5 ∧ b (tS L b p + 3 + 2) = a6) := by
  constructor
  · intro q
    have q3 := (of_decide_eq_true q).2.2
    exact ⟨⟨q3 0 (show 0 < 6 by omega), q3 1 (show 1 < 6 by omega), q3 2 (show 2 < 6 by omega)⟩, ⟨q3 3 (show 3 < 6 by omega), q3 4 (show 4 < 6 by omega), q3 5 (show 5 < 6 by omega)⟩⟩
  · intro ⟨⟨x0, x1, x2⟩, ⟨x3, x4, x5⟩⟩
    refine decide_eq_true ⟨c.1, c.2, fun i hi => ?_⟩
    have hi' : i < 6 := hi
    rcases (show i = 0 ∨ i = 1 ∨ i = 2 ∨ i = 3 ∨ i = 4 ∨ i = 5 by omega) with rfl | rfl | rfl | rfl | rfl | rfl
    · exact x0
    · exact x1
    · exact x2
    · exact x3
    · exact x4
    · exact x5
theorem m_six {X : Mem} {L p a1 a2 a3 a4 a5 a6 : Nat} {b : Nat → Nat} (hT : TM X L b) (hL : L ≤ 120) (hb : ∀ i, i < L → b i < 256) (hp : p ≤ L) (hM : ML X L b p) (h1 : a1 < 256) (h2 : a2 < 256) (h3 : a3 < 256) (h4 : a4 < 256) (h5 : a5 < 256) (h6 : a6 < 256) : f_Model_isSix (nI a1) (nI a2) (nI a3) (nI a4) (nI a5) (nI a6) X = some (if wd L b p [a1, a2, a3, a4, a5, a6] = true then 1 else 0) := by
  have hN := tN_le (b := b) hp
  unfold f_Model_isSix
  rw [show f_Model_isWord (6 : Int32) X = _ from m_isWord (n := 6) hp hL hM (by omega), bd_s, z10]
  by_cases c : tT L b p = 1 ∧ tN L b p = tS L b p + 6
  · have hc := c.2
    rw [if_pos c, show f_Model_has3 (0 : Int32) (nI a1) (nI a2) (nI a3) X = _ from m_has3 (i := 0) (p := p) hT hL hb hM (by omega) (by omega) (by omega) (by omega), bd_s, z10, show f_Model_has3 (3 : Int32) (nI a4) (nI a5) (nI a6) X = _ from m_has3 (i := 3) (p := p) hT hL hb hM (by omega) (by omega) (by omega) (by omega), bd_s, z10]
    have hw := wd_six (a1 := a1) (a2 := a2) (a3 := a3) (a4 := a4) (a5 := a5) (a6 := a6) (b := b) c
    by_cases d0 : b (tS L b p + 0) = a1 ∧ b (tS L b p + 0 + 1) = a2 ∧ b (tS L b p + 0 + 2) = a3
    · rw [if_pos d0]
      by_cases d1 : b (tS L b p + 3) = a4 ∧ b (tS L b p + 3 + 1) = a5 ∧ b (tS L b p + 3 + 2) = a6
      · rw [if_pos d1, if_pos (hw.mpr ⟨d0, d1⟩)]
      · rw [if_neg d1, if_neg (fun q => d1 (hw.mp q).2)]
    · rw [if_neg d0, if_neg (fun q => d0 (hw.mp q).1)]
  · rw [if_neg c, if_neg (fun q => c ⟨(of_decide_eq_true q).1, (of_decide_eq_true q).2.1⟩)]
theorem wd_eight {L p a1 a2 a3 a4 a5 a6 a7 a8 : Nat} {b : Nat → Nat} (c : tT L b p = 1 ∧ tN L b p = tS L b p + 8) : wd L b p [a1, a2, a3, a4, a5, a6, a7, a8] = true ↔ (b (tS L b p + 0) = a1 ∧ b (tS L b p + 0 + 1) = a2 ∧ b (tS L b p + 0 + 2) = a3) ∧ (b (tS L b p + 3) = a4 ∧ b (tS L b p + 3 + 1) = a5 ∧ b (tS L b p + 3 + 2) = a6) ∧ (b (tS L b p + 5) = a6 ∧ b (tS L b p + 5 + 1) = a7 ∧ b (tS L b p + 5 + 2) = a8) := by
  constructor
  · intro q
    have q3 := (of_decide_eq_true q).2.2
    exact ⟨⟨q3 0 (show 0 < 8 by omega), q3 1 (show 1 < 8 by omega), q3 2 (show 2 < 8 by omega)⟩, ⟨q3 3 (show 3 < 8 by omega), q3 4 (show 4 < 8 by omega), q3 5 (show 5 < 8 by omega)⟩, ⟨q3 5 (show 5 < 8 by omega), q3 6 (show 6 < 8 by omega), q3 7 (show 7 < 8 by omega)⟩⟩
  · intro ⟨⟨x0, x1, x2⟩, ⟨x3, x4, x5⟩, ⟨_, x6, x7⟩⟩
    refine decide_eq_true ⟨c.1, c.2, fun i hi => ?_⟩
    have hi' : i < 8 := hi
    rcases (show i = 0 ∨ i = 1 ∨ i = 2 ∨ i = 3 ∨ i = 4 ∨ i = 5 ∨ i = 6 ∨ i = 7 by omega) with rfl | rfl | rfl | rfl | rfl | rfl | rfl | rfl
    · exact x0
    · exact x1
    · exact x2
    · exact x3
    · exact x4
    · exact x5
    · exact x6
    · exact x7
theorem m_eight {β : Type} {J K : Option β} {X : Mem} {L p a1 a2 a3 a4 a5 a6 a7 a8 : Nat} {b : Nat → Nat} (hT : TM X L b) (hL : L ≤ 120) (hb : ∀ i, i < L → b i < 256) (hp : p ≤ L) (hM : ML X L b p) (h1 : a1 < 256) (h2 : a2 < 256) (h3 : a3 < 256) (h4 : a4 < 256) (h5 : a5 < 256) (h6 : a6 < 256) (h7 : a7 < 256) (h8 : a8 < 256) : (bd (f_Model_isWord (8 : Int32) X) fun v7 => if v7 = 0 then J else (bd (f_Model_has3 (0 : Int32) (nI a1) (nI a2) (nI a3) X) fun v9 => if v9 = 0 then J else (bd (f_Model_has3 (3 : Int32) (nI a4) (nI a5) (nI a6) X) fun v11 => if v11 = 0 then J else (bd (f_Model_has3 (5 : Int32) (nI a6) (nI a7) (nI a8) X) fun v13 => if v13 = 0 then J else K)))) = if wd L b p [a1, a2, a3, a4, a5, a6, a7, a8] = true then K else J := by
  have hN := tN_le (b := b) hp
  rw [show f_Model_isWord (8 : Int32) X = _ from m_isWord (n := 8) hp hL hM (by omega), bd_s, z10]
  by_cases c : tT L b p = 1 ∧ tN L b p = tS L b p + 8
  · have hc := c.2
    rw [if_pos c, show f_Model_has3 (0 : Int32) (nI a1) (nI a2) (nI a3) X = _ from m_has3 (i := 0) (p := p) hT hL hb hM (by omega) (by omega) (by omega) (by omega), bd_s, z10, show f_Model_has3 (3 : Int32) (nI a4) (nI a5) (nI a6) X = _ from m_has3 (i := 3) (p := p) hT hL hb hM (by omega) (by omega) (by omega) (by omega), bd_s, z10, show f_Model_has3 (5 : Int32) (nI a6) (nI a7) (nI a8) X = _ from m_has3 (i := 5) (p := p) hT hL hb hM (by omega) (by omega) (by omega) (by omega), bd_s, z10]
    have hw := wd_eight (a1 := a1) (a2 := a2) (a3 := a3) (a4 := a4) (a5 := a5) (a6 := a6) (a7 := a7) (a8 := a8) (b := b) c
    by_cases d0 : b (tS L b p + 0) = a1 ∧ b (tS L b p + 0 + 1) = a2 ∧ b (tS L b p + 0 + 2) = a3
    · rw [if_pos d0]
      by_cases d1 : b (tS L b p + 3) = a4 ∧ b (tS L b p + 3 + 1) = a5 ∧ b (tS L b p + 3 + 2) = a6
      · rw [if_pos d1]
        by_cases d2 : b (tS L b p + 5) = a6 ∧ b (tS L b p + 5 + 1) = a7 ∧ b (tS L b p + 5 + 2) = a8
        · rw [if_pos d2, if_pos (hw.mpr ⟨d0, d1, d2⟩)]
        · rw [if_neg d2, if_neg (fun q => d2 (hw.mp q).2.2)]
      · rw [if_neg d1, if_neg (fun q => d1 (hw.mp q).2.1)]
    · rw [if_neg d0, if_neg (fun q => d0 (hw.mp q).1)]
  · rw [if_neg c, if_neg (fun q => c ⟨(of_decide_eq_true q).1, (of_decide_eq_true q).2.1⟩)]
theorem m_two {X : Mem} {L p a1 a2 : Nat} {b : Nat → Nat} (hT : TM X L b) (hL : L ≤ 120) (hb : ∀ i, i < L → b i < 256) (hp : p ≤ L) (hM : ML X L b p) (h1 : a1 < 256) (h2 : a2 < 256) : f_Model_isTwo (nI a1) (nI a2) X = some (if wd L b p [a1, a2] = true then 1 else 0) := by
  have hN := tN_le (b := b) hp
  unfold f_Model_isTwo
  simp only [lt_s1]
  rw [show f_Model_isWord (2 : Int32) X = _ from m_isWord (n := 2) hp hL hM (by omega), bd_s, z10]
  by_cases c : tT L b p = 1 ∧ tN L b p = tS L b p + 2
  · have hc := c.2
    have b0 := hb (tS L b p) (by omega)
    have b1 := hb (tS L b p + 1) (by omega)
    rw [if_pos c, hM.2.1, m_byte hT hL (by omega), bd_s, show bya L b (tS L b p) = nI (b (tS L b p)) from if_pos (by omega)]
    by_cases d0 : b (tS L b p) = a1
    · rw [if_pos (by rw [d0]), show nI (tS L b p) + (1 : Int32) = nI (tS L b p + 1) from by rw [li 1, nI_add], m_byte hT hL (by omega), bd_s, show bya L b (tS L b p + 1) = nI (b (tS L b p + 1)) from if_pos (by omega)]
      by_cases d1 : b (tS L b p + 1) = a2
      · rw [if_pos (by rw [d1]), if_pos (show wd L b p [a1, a2] = true from decide_eq_true ⟨c.1, c.2, fun i hi => by
          have hi' : i < 2 := hi
          rcases (show i = 0 ∨ i = 1 by omega) with rfl | rfl
          · exact d0
          · exact d1⟩)]
      · rw [if_neg (by rw [nI_eq (by omega) (by omega)]; exact d1), if_neg (fun q => d1 ((of_decide_eq_true q).2.2 1 (show 1 < 2 by omega)))]
    · rw [if_neg (by rw [nI_eq (by omega) (by omega)]; exact d0), if_neg (fun q => d0 ((of_decide_eq_true q).2.2 0 (show 0 < 2 by omega)))]
  · rw [if_neg c, if_neg (fun q => c ⟨(of_decide_eq_true q).1, (of_decide_eq_true q).2.1⟩)]
theorem m_kind {X : Mem} {L p : Nat} {b : Nat → Nat} (hT : TM X L b) (hL : L ≤ 120) (hb : ∀ i, i < L → b i < 256) (hp : p ≤ L) (hM : ML X L b p) : f_Model_kindHere X = some (if kn L b p < 6 then nI (kn L b p) else -1) := by
  have e0 : f_Model_isFive (99 : Int32) (104 : Int32) (97 : Int32) (105 : Int32) (114 : Int32) X = some (if wd L b p (wrds.getD (nmo 0) []) = true then 1 else 0) := m_five (a1 := 99) (a2 := 104) (a3 := 97) (a4 := 105) (a5 := 114) hT hL hb hp hM (by omega) (by omega) (by omega) (by omega) (by omega)
  have e1 : f_Model_isFive (110 : Int32) (97 : Int32) (109 : Int32) (101 : Int32) (100 : Int32) X = some (if wd L b p (wrds.getD (nmo 1) []) = true then 1 else 0) := m_five (a1 := 110) (a2 := 97) (a3 := 109) (a4 := 101) (a5 := 100) hT hL hb hp hM (by omega) (by omega) (by omega) (by omega) (by omega)
  have e2 : f_Model_isSix (103 : Int32) (114 : Int32) (117 : Int32) (100 : Int32) (103 : Int32) (101 : Int32) X = some (if wd L b p (wrds.getD (nmo 2) []) = true then 1 else 0) := m_six (a1 := 103) (a2 := 114) (a3 := 117) (a4 := 100) (a5 := 103) (a6 := 101) hT hL hb hp hM (by omega) (by omega) (by omega) (by omega) (by omega) (by omega)
  have e3 := fun (J K : Option Int32) => m_eight (J := J) (K := K) (a1 := 109) (a2 := 111) (a3 := 111) (a4 := 110) (a5 := 108) (a6 := 101) (a7 := 115) (a8 := 115) hT hL hb hp hM (by omega) (by omega) (by omega) (by omega) (by omega) (by omega) (by omega) (by omega)
  have e4 : f_Model_isFive (116 : Int32) (119 : Int32) (105 : Int32) (99 : Int32) (101 : Int32) X = some (if wd L b p (wrds.getD (nmo 4) []) = true then 1 else 0) := m_five (a1 := 116) (a2 := 119) (a3 := 105) (a4 := 99) (a5 := 101) hT hL hb hp hM (by omega) (by omega) (by omega) (by omega) (by omega)
  have e5 : f_Model_isFive (103 : Int32) (108 : Int32) (97 : Int32) (115 : Int32) (115 : Int32) X = some (if wd L b p (wrds.getD (nmo 5) []) = true then 1 else 0) := m_five (a1 := 103) (a2 := 108) (a3 := 97) (a4 := 115) (a5 := 115) hT hL hb hp hM (by omega) (by omega) (by omega) (by omega) (by omega)
  have ej : f_Model_kindHere_j112 X = if wd L b p (wrds.getD (nmo 4) []) = true then some 4 else if wd L b p (wrds.getD (nmo 5) []) = true then some 5 else some (-1) := by
    unfold f_Model_kindHere_j112
    rw [e4, bd_s, z10, e5, bd_s, z10]
  have e3' := e3 (f_Model_kindHere_j112 X) (some (3 : Int32))
  have e3'' : (bd (f_Model_isWord (8 : Int32) X) fun v7 => if v7 = 0 then (f_Model_kindHere_j112 X) else (bd (f_Model_has3 (0 : Int32) (109 : Int32) (111 : Int32) (111 : Int32) X) fun v9 => if v9 = 0 then (f_Model_kindHere_j112 X) else (bd (f_Model_has3 (3 : Int32) (110 : Int32) (108 : Int32) (101 : Int32) X) fun v11 => if v11 = 0 then (f_Model_kindHere_j112 X) else (bd (f_Model_has3 (5 : Int32) (101 : Int32) (115 : Int32) (115 : Int32) X) fun v13 => if v13 = 0 then (f_Model_kindHere_j112 X) else (some (3 : Int32)))))) = if wd L b p (wrds.getD (nmo 3) []) = true then some 3 else f_Model_kindHere_j112 X := e3'
  unfold f_Model_kindHere
  rw [e0, bd_s, z10, e1, bd_s, z10, e2, bd_s, z10, e3'', ej]
  unfold kn
  by_cases c0 : wd L b p (wrds.getD (nmo 0) []) = true
  · rw [if_pos c0, if_pos c0]; rfl
  · rw [if_neg c0, if_neg c0]
    by_cases c1 : wd L b p (wrds.getD (nmo 1) []) = true
    · rw [if_pos c1, if_pos c1]; rfl
    · rw [if_neg c1, if_neg c1]
      by_cases c2 : wd L b p (wrds.getD (nmo 2) []) = true
      · rw [if_pos c2, if_pos c2]; rfl
      · rw [if_neg c2, if_neg c2]
        by_cases c3 : wd L b p (wrds.getD (nmo 3) []) = true
        · rw [if_pos c3, if_pos c3]; rfl
        · rw [if_neg c3, if_neg c3]
          by_cases c4 : wd L b p (wrds.getD (nmo 4) []) = true
          · rw [if_pos c4, if_pos c4]; rfl
          · rw [if_neg c4, if_neg c4]
            by_cases c5 : wd L b p (wrds.getD (nmo 5) []) = true
            · rw [if_pos c5, if_pos c5]; rfl
            · rw [if_neg c5, if_neg c5]; rfl
