/-! the model's next token -/
def MF (X Y : Mem) : Prop := Sm (fun k => k = 70) X Y ∧ ∀ j, j < 11 → gI Y 70 j = gI X 70 j
theorem MF.rf {X : Mem} : MF X X := ⟨Sm.rf, fun _ _ => rfl⟩
theorem MF.tr {X Y Z : Mem} (h : MF X Y) (h2 : MF Y Z) : MF X Z := ⟨h.1.tr h2.1, fun j hj => (h2.2 j hj).trans (h.2 j hj)⟩
theorem mf_s {X Y : Mem} {j : Nat} {v : Int32} (h : MF X Y) (hj : 11 ≤ j) : MF X (sI Y 70 j v) := ⟨h.1.sI rfl, fun i hi => by rw [gsI, if_neg (by omega)]; exact h.2 i hi⟩
theorem TM.mf {X Y : Mem} {L : Nat} {b : Nat → Nat} (h : TM X L b) (hS : MF X Y) : TM Y L b := ⟨(hS.2 7 (by omega)).trans h.1, fun i hi => ((hS.1 76 (by omega)).1 i).trans (h.2 i hi)⟩
def ML (X : Mem) (L : Nat) (b : Nat → Nat) (p : Nat) : Prop := gI X 70 11 = nI (tT L b p) ∧ gI X 70 12 = nI (tS L b p) ∧ gI X 70 13 = nI (tN L b p) ∧ gI X 70 14 = nI (tV L b p)
def bya (L : Nat) (b : Nat → Nat) (i : Nat) : Int32 := if i < L then nI (b i) else -1
theorem m_byte {X : Mem} {L i : Nat} {b : Nat → Nat} (hT : TM X L b) (hL : L ≤ 120) (hi : i < 2 ^ 31) : f_Model_byteAt (nI i) X = some (bya L b i) := by
  unfold f_Model_byteAt bya
  rw [lt_s1, hT.1]
  by_cases c : i < L
  · rw [if_neg (by rw [nI_leI (by omega) (by omega)]; omega), rdn (by omega) (by omega), hT.2 i c, if_pos c]
  · rw [if_pos (by rw [nI_leI (by omega) (by omega)]; omega), if_neg c]
theorem let_all : ∀ x, x < 256 → f_Model_isLetter (nI x) = some (if ccl x = 1 then 1 else 0) := by decide +kernel
theorem dig_all : ∀ x, x < 256 → f_Model_isDigit (nI x) = some (if ccl x = 2 then 1 else 0) := by decide +kernel
theorem m_let {L i : Nat} {b : Nat → Nat} (hb : ∀ i, i < L → b i < 256) : f_Model_isLetter (bya L b i) = some (if clq L b 1 i = true then 1 else 0) := by
  unfold bya clq
  by_cases c : i < L
  · rw [if_pos c, let_all _ (hb i c)]
    by_cases d : ccl (b i) = 1
    · rw [if_pos d, if_pos (decide_eq_true ⟨c, d⟩)]
    · rw [if_neg d, if_neg (by rw [decide_eq_true_eq]; exact fun q => d q.2)]
  · rw [if_neg c, if_neg (by rw [decide_eq_true_eq]; exact fun q => c q.1)]
    rfl
theorem m_dig {L i : Nat} {b : Nat → Nat} (hb : ∀ i, i < L → b i < 256) : f_Model_isDigit (bya L b i) = some (if clq L b 2 i = true then 1 else 0) := by
  unfold bya clq
  by_cases c : i < L
  · rw [if_pos c, dig_all _ (hb i c)]
    by_cases d : ccl (b i) = 2
    · rw [if_pos d, if_pos (decide_eq_true ⟨c, d⟩)]
    · rw [if_neg d, if_neg (by rw [decide_eq_true_eq]; exact fun q => d q.2)]
  · rw [if_neg c, if_neg (by rw [decide_eq_true_eq]; exact fun q => c q.1)]
    rfl
theorem m_j211 {Z : Mem} {c x : Nat} (hc : c ≤ 4) (h1 : gI Z 70 11 = nI c) (h3 : gI Z 70 13 = nI x) : f_Model_nextToken_j211 Z = some (sI Z 70 13 (nI (if c ≤ 2 then x else x + 1))) := by
  unfold f_Model_nextToken_j211 f_Model_nextToken_j229
  simp only [lt_s1]
  rw [h1, h3, li 2]
  by_cases d : c ≤ 2
  · rw [if_pos (by rw [nI_leI (by omega) (by omega)]; exact d), if_pos d, ad_z]
  · rw [if_neg (by rw [nI_leI (by omega) (by omega)]; exact d), if_neg d, li 1, nI_add]
/-- the digits, and the end -/
theorem m_digits {X : Mem} {L q c x : Nat} {b : Nat → Nat} (hT : TM X L b) (hL : L ≤ 120) (hb : ∀ i, i < L → b i < 256) (hq : q ≤ L) (hc : c ≤ 4) (hx : x = if c = 1 then nxt L b c q else q) (h1 : gI X 70 11 = nI c) (h2 : gI X 70 12 = nI q) (h3 : gI X 70 13 = nI x) (h4 : gI X 70 14 = 0) : ∃ Y, it (fun a => f_Model_nextToken_b136 a) FU X = some Y ∧ MF X Y ∧ gI Y 70 11 = nI c ∧ gI Y 70 12 = nI q ∧ gI Y 70 13 = nI (nxt L b c q) ∧ gI Y 70 14 = nI (vlu L b c q) := by
  by_cases c2 : c = 2
  · subst c2
    rw [if_neg (by omega)] at hx
    subst hx
    obtain ⟨Y, y1, y2⟩ := it_run (f := fun a => f_Model_nextToken_b136 a) (fun i a => MF X a ∧ gI a 70 11 = nI 2 ∧ gI a 70 12 = nI x ∧ gI a 70 13 = nI (x + i) ∧ gI a 70 14 = nI (vM b x i) ∧ ∀ j, j < i → clq L b 2 (x + j) = true) (fun Y => MF X Y ∧ gI Y 70 11 = nI 2 ∧ gI Y 70 12 = nI x ∧ gI Y 70 13 = nI (nxt L b 2 x) ∧ gI Y 70 14 = nI (vlu L b 2 x)) (L - x) (by omega) X ⟨MF.rf, h1, h2, h3, h4, fun j hj => absurd hj (by omega)⟩ (by
      intro i Z hi ⟨e1, e2, e3, e4, e5, e6⟩
      have hTZ := hT.mf e1
      have hv := vM_le i e6
      unfold f_Model_nextToken_b136 f_Model_nextToken_j195
      simp only [lt_s1]
      rw [e2, if_pos (show nI 2 = (2 : Int32) from rfl), e4, m_byte hTZ hL (by omega), bd_s, m_dig hb, bd_s]
      by_cases h : clq L b 2 (x + i) = true
      · right
        have h' := of_decide_eq_true h
        have hd := ccl_2 h'.2
        rw [if_pos h, if_neg (by decide), e5, li 9999]
        have hcl : ∀ j, j < i + 1 → clq L b 2 (x + j) = true := fun j hj => by
          by_cases cj : j = i
          · subst cj; exact h
          · exact e6 j (by omega)
        have hby : bya L b (x + i) = nI (b (x + i)) := if_pos h'.1
        by_cases hs : vM b x i ≤ 9999
        · rw [if_pos (by rw [nI_leI (by omega) (by omega)]; exact hs), bd_s, hby, li 10, li 48, pk_mul, nI_add, pk_sub (by omega)]
          refine ⟨by omega, _, rfl, mf_s (mf_s e1 (by omega)) (by omega), by rw [gsI, if_neg (by omega), gsI, if_neg (by omega)]; exact e2, by rw [gsI, if_neg (by omega), gsI, if_neg (by omega)]; exact e3, ?_, ?_, hcl⟩
          · rw [gsI, if_pos ⟨rfl, rfl⟩, gsI, if_neg (by omega), e4, li 1, nI_add]; rfl
          · rw [gsI, if_neg (by omega), gsI, if_pos ⟨rfl, rfl⟩, vM, if_neg (by omega)]
            congr 1
            omega
        · rw [if_neg (by rw [nI_leI (by omega) (by omega)]; exact hs)]
          refine ⟨by omega, _, rfl, mf_s (mf_s e1 (by omega)) (by omega), by rw [gsI, if_neg (by omega), gsI, if_neg (by omega)]; exact e2, by rw [gsI, if_neg (by omega), gsI, if_neg (by omega)]; exact e3, ?_, ?_, hcl⟩
          · rw [gsI, if_pos ⟨rfl, rfl⟩, gsI, if_neg (by omega), e4, li 1, nI_add]; rfl
          · rw [gsI, if_neg (by omega), gsI, if_pos ⟨rfl, rfl⟩, vM, if_pos (by omega)]
      · left
        have hn : nxt L b 2 x = x + i := by
          unfold nxt
          rw [if_pos (Or.inr rfl), ff_eq i 200 x e6 h (by omega)]
        rw [if_neg h, if_pos rfl, m_j211 (c := 2) (by omega) e2 e4, if_pos (by omega)]
        refine ⟨_, rfl, mf_s e1 (by omega), by rw [gsI, if_neg (by omega)]; exact e2, by rw [gsI, if_neg (by omega)]; exact e3, by rw [gsI, if_pos ⟨rfl, rfl⟩, hn], ?_⟩
        rw [gsI, if_neg (by omega), e5]
        unfold vlu
        rw [if_pos rfl, hn, Nat.add_sub_cancel_left])
    exact ⟨Y, y1, y2⟩
  · refine ⟨sI X 70 13 (nI (if c ≤ 2 then x else x + 1)), ?_, mf_s MF.rf (by omega), by rw [gsI, if_neg (by omega)]; exact h1, by rw [gsI, if_neg (by omega)]; exact h2, ?_, ?_⟩
    · refine it_for (fun _ => X) 0 _ (by omega) (fun i hi => absurd hi (by omega)) ?_
      show f_Model_nextToken_b136 X = _
      unfold f_Model_nextToken_b136
      rw [lt_s1, h1, li 2, if_neg (by rw [nI_eq (by omega) (by omega)]; exact c2), m_j211 hc h1 h3]
      rfl
    · rw [gsI, if_pos ⟨rfl, rfl⟩]
      by_cases c1 : c = 1
      · rw [if_pos c1] at hx
        rw [if_pos (by omega), hx]
      · rw [if_neg c1] at hx
        unfold nxt
        rw [if_neg (show ¬ (c = 1 ∨ c = 2) by omega)]
        by_cases c0 : c = 0
        · rw [if_pos (show c ≤ 2 by omega), if_pos c0, hx]
        · rw [if_neg (show ¬ c ≤ 2 by omega), if_neg c0, hx]
    · rw [gsI, if_neg (by omega), h4]
      unfold vlu
      rw [if_neg c2]
      rfl
theorem m_j93 {X : Mem} {L q c : Nat} {b : Nat → Nat} (hT : TM X L b) (hL : L ≤ 120) (hb : ∀ i, i < L → b i < 256) (hq : q ≤ L) (hc : c ≤ 4) (h2 : gI X 70 12 = nI q) (h3 : gI X 70 13 = nI q) : ∃ Y, f_Model_nextToken_j93 (nI c) X = some Y ∧ MF X Y ∧ gI Y 70 11 = nI c ∧ gI Y 70 12 = nI q ∧ gI Y 70 13 = nI (nxt L b c q) ∧ gI Y 70 14 = nI (vlu L b c q) := by
  unfold f_Model_nextToken_j93
  simp only [lt_s1]
  have wF : MF X (sI (sI X 70 11 (nI c)) 70 14 0) := mf_s (mf_s MF.rf (by omega)) (by omega)
  have w1 : gI (sI (sI X 70 11 (nI c)) 70 14 0) 70 11 = nI c := by rw [gsI, if_neg (by omega), gsI, if_pos ⟨rfl, rfl⟩]
  have w2 : gI (sI (sI X 70 11 (nI c)) 70 14 0) 70 12 = nI q := by rw [gsI, if_neg (by omega), gsI, if_neg (by omega)]; exact h2
  have w3 : gI (sI (sI X 70 11 (nI c)) 70 14 0) 70 13 = nI q := by rw [gsI, if_neg (by omega), gsI, if_neg (by omega)]; exact h3
  have w4 : gI (sI (sI X 70 11 (nI c)) 70 14 0) 70 14 = 0 := by rw [gsI, if_pos ⟨rfl, rfl⟩]
  generalize sI (sI X 70 11 (nI c)) 70 14 0 = W at *
  by_cases c1 : c = 1
  · subst c1
    obtain ⟨Y, y1, y2⟩ := it_run (f := fun a => f_Model_nextToken_b101 a) (fun i a => MF W a ∧ gI a 70 11 = nI 1 ∧ gI a 70 12 = nI q ∧ gI a 70 13 = nI (q + i) ∧ gI a 70 14 = 0 ∧ ∀ j, j < i → clq L b 1 (q + j) = true) (fun Y => MF W Y ∧ gI Y 70 11 = nI 1 ∧ gI Y 70 12 = nI q ∧ gI Y 70 13 = nI (nxt L b 1 q) ∧ gI Y 70 14 = nI (vlu L b 1 q)) (L - q) (by omega) W ⟨MF.rf, w1, w2, w3, w4, fun j hj => absurd hj (by omega)⟩ (by
      intro i Z hi ⟨e1, e2, e3, e4, e5, e6⟩
      have hTZ := (hT.mf wF).mf e1
      unfold f_Model_nextToken_b101
      simp only [lt_s1]
      rw [e2, if_pos (show nI 1 = (1 : Int32) from rfl), e4, m_byte hTZ hL (by omega), bd_s, m_let hb, bd_s]
      by_cases h : clq L b 1 (q + i) = true
      · right
        have h' := of_decide_eq_true h
        rw [if_pos h, if_neg (by decide), li 1, nI_add]
        refine ⟨by omega, _, rfl, mf_s e1 (by omega), by rw [gsI, if_neg (by omega)]; exact e2, by rw [gsI, if_neg (by omega)]; exact e3, by rw [gsI, if_pos ⟨rfl, rfl⟩]; rfl, by rw [gsI, if_neg (by omega)]; exact e5, fun j hj => ?_⟩
        by_cases cj : j = i
        · subst cj; exact h
        · exact e6 j (by omega)
      · left
        have hn : nxt L b 1 q = q + i := by
          unfold nxt
          rw [if_pos (Or.inl rfl), ff_eq i 200 q e6 h (by omega)]
        obtain ⟨Y, y1, y2, y3⟩ := m_digits (c := 1) (q := q) (x := q + i) hTZ hL hb hq (by omega) (by rw [if_pos rfl, hn]) e2 e3 e4 e5
        rw [if_neg h, if_pos rfl, y1]
        exact ⟨Y, rfl, e1.tr y2, y3⟩)
    exact ⟨Y, y1, wF.tr y2.1, y2.2⟩
  · obtain ⟨Y, y1, y2, y3⟩ := m_digits (c := c) (q := q) (x := q) (hT.mf wF) hL hb hq hc (by rw [if_neg c1]) w1 w2 w3 w4
    refine ⟨Y, ?_, wF.tr y2, y3⟩
    refine it_for (fun _ => W) 0 _ (by omega) (fun i hi => absurd hi (by omega)) ?_
    show f_Model_nextToken_b101 W = _
    unfold f_Model_nextToken_b101
    rw [lt_s1, w1, li 1, if_neg (by rw [nI_eq (by omega) (by omega)]; exact c1), y1]
    rfl
theorem tk3_all : ∀ x, x < 256 → decide (nI x = (59 : Int32)) = decide (x = 59) := by decide +kernel
theorem m_next {X : Mem} {L p : Nat} {b : Nat → Nat} (hT : TM X L b) (hL : L ≤ 120) (hb : ∀ i, i < L → b i < 256) (hp : p ≤ L) (h3 : gI X 70 13 = nI p) : ∃ Y, f_Model_nextToken X = some Y ∧ MF X Y ∧ ML Y L b p := by
  unfold f_Model_nextToken
  simp only [lt_s1]
  rw [h3]
  have wF : MF X (sI X 70 12 (nI p)) := mf_s MF.rf (by omega)
  have w2 : gI (sI X 70 12 (nI p)) 70 12 = nI p := by rw [gsI, if_pos ⟨rfl, rfl⟩]
  generalize sI X 70 12 (nI p) = W at *
  obtain ⟨Y, y1, y2⟩ := it_run (f := fun a => f_Model_nextToken_b8 a) (fun i a => MF W a ∧ gI a 70 12 = nI (p + i) ∧ ∀ j, j < i → spq L b (p + j) = true) (fun Y => MF W Y ∧ ML Y L b p) (L - p) (by omega) W ⟨MF.rf, w2, fun j hj => absurd hj (by omega)⟩ (by
    intro i Z hi ⟨e1, e2, e3⟩
    have hTZ := (hT.mf wF).mf e1
    unfold f_Model_nextToken_b8
    simp only [lt_s1]
    rw [e2, m_byte hTZ hL (by omega), bd_s]
    by_cases h : spq L b (p + i) = true
    · right
      have h' := of_decide_eq_true h
      rw [if_pos (by unfold bya; rw [if_pos h'.1, h'.2]; rfl), li 1, nI_add]
      refine ⟨by omega, _, rfl, mf_s e1 (by omega), by rw [gsI, if_pos ⟨rfl, rfl⟩]; rfl, fun j hj => ?_⟩
      by_cases cj : j = i
      · subst cj; exact h
      · exact e3 j (by omega)
    · left
      have hq : tS L b p = p + i := by
        unfold tS
        rw [ff_eq i 200 p e3 h (by omega)]
      have hne : ¬ bya L b (p + i) = (32 : Int32) := fun q => h (by
        unfold bya at q
        by_cases c : p + i < L
        · rw [if_pos c, li 32] at q
          have hbb := hb _ c
          exact decide_eq_true ⟨c, (nI_eq (by omega) (by omega)).mp q⟩
        · rw [if_neg c] at q; exact absurd q (by decide))
      have v12 : gI (sI Z 70 13 (nI (p + i))) 70 12 = nI (p + i) := by rw [gsI, if_neg (by omega)]; exact e2
      have v13 : gI (sI Z 70 13 (nI (p + i))) 70 13 = nI (p + i) := by rw [gsI, if_pos ⟨rfl, rfl⟩]
      have vF : MF W (sI Z 70 13 (nI (p + i))) := mf_s e1 (by omega)
      have hTV := (hT.mf wF).mf vF
      have key : ∃ Y, f_Model_nextToken_j93 (nI (tT L b p)) (sI Z 70 13 (nI (p + i))) = some Y ∧ MF W Y ∧ ML Y L b p := by
        obtain ⟨Y, y1, y2, y3, y4, y5, y6⟩ := m_j93 (c := tT L b p) hTV hL hb (by omega) tT_r v12 v13
        refine ⟨Y, y1, vF.tr y2, y3, by rw [hq]; exact y4, ?_, ?_⟩
        · unfold tN; rw [hq]; exact y5
        · unfold tV; rw [hq]; exact y6
      obtain ⟨Y, y1, y2⟩ := key
      rw [if_neg hne, v12, m_byte hTV hL (by omega), bd_s]
      by_cases c : p + i < L
      · have hbb := hb _ c
        have ht : tT L b p = ccl (b (p + i)) := by unfold tT; rw [hq, if_pos c]
        have hby : bya L b (p + i) = nI (b (p + i)) := if_pos c
        have h3b := tk3_all _ hbb
        have hE : (if ccl (b (p + i)) = 1 then f_Model_nextToken_j93 (1 : Int32) (sI Z 70 13 (nI (p + i))) else if ccl (b (p + i)) = 2 then f_Model_nextToken_j93 (2 : Int32) (sI Z 70 13 (nI (p + i))) else if nI (b (p + i)) = (59 : Int32) then f_Model_nextToken_j93 (3 : Int32) (sI Z 70 13 (nI (p + i))) else f_Model_nextToken_j93 (4 : Int32) (sI Z 70 13 (nI (p + i)))) = some Y := by
          rw [← y1, ht]
          have hr := ccl_r (b (p + i))
          by_cases d1 : ccl (b (p + i)) = 1
          · rw [if_pos d1, d1]; rfl
          · rw [if_neg d1]
            by_cases d2 : ccl (b (p + i)) = 2
            · rw [if_pos d2, d2]; rfl
            · rw [if_neg d2]
              by_cases d3 : b (p + i) = 59
              · rw [if_pos (of_decide_eq_true (h3b.trans (decide_eq_true d3))), d3]; rfl
              · have d4 : ccl (b (p + i)) = 4 := by
                  unfold ccl at d1 d2 ⊢
                  by_cases f1 : 97 ≤ b (p + i) ∧ b (p + i) ≤ 122
                  · rw [if_pos f1] at d1; exact absurd rfl d1
                  · rw [if_neg f1] at d2 ⊢
                    by_cases f2 : 48 ≤ b (p + i) ∧ b (p + i) ≤ 57
                    · rw [if_pos f2] at d2; exact absurd rfl d2
                    · rw [if_neg f2, if_neg d3]
                rw [if_neg (fun q => d3 (of_decide_eq_true (h3b.symm.trans (decide_eq_true q)))), d4]; rfl
        rw [hby, if_pos (by rw [li 0, nI_leI (by omega) (by omega)]; omega), let_all _ hbb, bd_s, z10, dig_all _ hbb, bd_s, z10]
        refine ⟨Y, ?_, y2⟩
        by_cases d1 : ccl (b (p + i)) = 1
        · rw [if_pos d1] at hE ⊢; rw [hE]; rfl
        · rw [if_neg d1] at hE ⊢
          by_cases d2 : ccl (b (p + i)) = 2
          · rw [if_pos d2] at hE ⊢; rw [hE]; rfl
          · rw [if_neg d2] at hE ⊢
            by_cases d3 : nI (b (p + i)) = (59 : Int32)
            · rw [if_pos d3] at hE ⊢; rw [hE]; rfl
            · rw [if_neg d3] at hE ⊢; rw [hE]; rfl
      · have ht : tT L b p = 0 := by unfold tT; rw [hq, if_neg c]
        rw [ht] at y1
        have y1' : f_Model_nextToken_j93 (0 : Int32) (sI Z 70 13 (nI (p + i))) = some Y := y1
        rw [show bya L b (p + i) = -1 from if_neg c, if_neg (by decide), y1']
        exact ⟨Y, rfl, y2⟩)
  exact ⟨Y, y1, wF.tr y2.1, y2.2⟩
