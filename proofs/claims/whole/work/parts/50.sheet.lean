theorem c_renew {X : Mem} {t b n : Nat} (hb : b < 2 ^ 31) : ∃ Y, f_Sheet_renew (52 + 2 * t) (nI b) (nI n) X = some Y ∧ gI Y (52 + 2 * t) 1 = nI b ∧ gI Y (52 + 2 * t) 2 = nI (if b = 0 then 0 else n) ∧ (∀ j, j < 40 → gL Y (52 + 2 * t + 1) j = 0) ∧ Sm (fun k => k = 52 + 2 * t ∨ k = 52 + 2 * t + 1) X Y := by
  have key : ∀ m, ∃ Y, f_Sheet_renew_j15 (52 + 2 * t) (52 + 2 * t) (nI m) (sI X (52 + 2 * t) 1 (nI b)) = some Y ∧ gI Y (52 + 2 * t) 1 = nI b ∧ gI Y (52 + 2 * t) 2 = nI m ∧ (∀ j, j < 40 → gL Y (52 + 2 * t + 1) j = 0) ∧ Sm (fun k => k = 52 + 2 * t ∨ k = 52 + 2 * t + 1) X Y := by
    intro m
    unfold f_Sheet_renew_j15
    rw [lt_s1]
    obtain ⟨Y, y1, y2⟩ := it_run (f := fun a => f_Sheet_renew_b20 (52 + 2 * t) a.1 a.2) (fun i a => a.1 = nI i ∧ gI a.2 (52 + 2 * t) 1 = nI b ∧ gI a.2 (52 + 2 * t) 2 = nI m ∧ (∀ j, j < i → gL a.2 (52 + 2 * t + 1) j = 0) ∧ Sm (fun k => k = 52 + 2 * t ∨ k = 52 + 2 * t + 1) X a.2) (fun Y => gI Y (52 + 2 * t) 1 = nI b ∧ gI Y (52 + 2 * t) 2 = nI m ∧ (∀ j, j < 40 → gL Y (52 + 2 * t + 1) j = 0) ∧ Sm (fun k => k = 52 + 2 * t ∨ k = 52 + 2 * t + 1) X Y) 40 (by omega) ((0 : Int32), sI (sI X (52 + 2 * t) 1 (nI b)) (52 + 2 * t) 2 (nI m)) ⟨rfl, by rw [gsI, if_neg (by omega), gsI, if_pos ⟨rfl, rfl⟩], by rw [gsI, if_pos ⟨rfl, rfl⟩], fun j hj => absurd hj (by omega), (Sm.rf.sI (Or.inl rfl)).sI (Or.inl rfl)⟩ (by
      intro i a hi ⟨e1, e2, e3, e4, e5⟩
      obtain ⟨x, Z⟩ := a
      dsimp only at e1 e2 e3 e4 e5 ⊢
      subst e1
      unfold f_Sheet_renew_b20
      rw [li 40]
      by_cases h : i < 40
      · right
        rw [if_neg (by rw [nI_leI (by omega) (by omega)]; omega), wrLn h (by omega), lt_s1, li 1, nI_add]
        refine ⟨h, _, rfl, rfl, by rw [gsIL]; exact e2, by rw [gsIL]; exact e3, fun j hj => ?_, e5.sL (Or.inr rfl)⟩
        rw [gsL]
        by_cases c : j = i
        · rw [if_pos ⟨rfl, c⟩]
        · rw [if_neg (fun q => c q.2)]; exact e4 j (by omega)
      · have : i = 40 := by omega
        subst this
        left
        rw [if_pos (by rw [nI_leI (by omega) (by omega)]; omega)]
        exact ⟨Z, rfl, e2, e3, e4, e5⟩)
    exact ⟨Y, y1, y2⟩
  unfold f_Sheet_renew
  rw [lt_s1]
  by_cases c : b = 0
  · rw [if_pos (by rw [c]; rfl), if_pos c]
    exact key 0
  · rw [if_neg (by rw [li 0, nI_eq hb (by omega)]; exact c), if_neg c]
    exact key n
theorem m_sheet {X : Mem} {t m : Nat} {v : Int32} (ht : t < 4) : ∃ Y, f_Model_sheet_j89 (nI t) 78 (nI t) (nI m) (sI X 77 t v) = some (nI m, Y) ∧ gI Y 77 t = v ∧ gI Y 78 t = nI m ∧ (∀ j, j < 40 → gL Y 79 (40 * t + j) = 0) ∧ (∀ u, u < 4 → u ≠ t → gI Y 77 u = gI X 77 u ∧ gI Y 78 u = gI X 78 u ∧ ∀ j, j < 40 → gL Y 79 (40 * u + j) = gL X 79 (40 * u + j)) ∧ Sm (fun k => k = 77 ∨ k = 78 ∨ k = 79) X Y := by
  unfold f_Model_sheet_j89
  rw [wrn ht (by omega)]
  obtain ⟨⟨r, Y⟩, y1, y2, y3⟩ := it_run (f := fun a => f_Model_sheet_b93 (nI t) a.1 a.2) (fun i a => a.1 = nI i ∧ gI a.2 77 t = v ∧ gI a.2 78 t = nI m ∧ (∀ j, j < i → gL a.2 79 (40 * t + j) = 0) ∧ (∀ u, u < 4 → u ≠ t → gI a.2 77 u = gI X 77 u ∧ gI a.2 78 u = gI X 78 u ∧ ∀ j, j < 40 → gL a.2 79 (40 * u + j) = gL X 79 (40 * u + j)) ∧ Sm (fun k => k = 77 ∨ k = 78 ∨ k = 79) X a.2) (fun Y => Y.1 = nI m ∧ gI Y.2 77 t = v ∧ gI Y.2 78 t = nI m ∧ (∀ j, j < 40 → gL Y.2 79 (40 * t + j) = 0) ∧ (∀ u, u < 4 → u ≠ t → gI Y.2 77 u = gI X 77 u ∧ gI Y.2 78 u = gI X 78 u ∧ ∀ j, j < 40 → gL Y.2 79 (40 * u + j) = gL X 79 (40 * u + j)) ∧ Sm (fun k => k = 77 ∨ k = 78 ∨ k = 79) X Y.2) 40 (by omega) ((0 : Int32), sI (sI X 77 t v) 78 t (nI m)) ⟨rfl, by rw [gsI, if_neg (by omega), gsI, if_pos ⟨rfl, rfl⟩], by rw [gsI, if_pos ⟨rfl, rfl⟩], fun j hj => absurd hj (by omega), fun u hu hne => ⟨by rw [gsI, if_neg (by omega), gsI, if_neg (by omega)], by rw [gsI, if_neg (by omega), gsI, if_neg (by omega)], fun j hj => rfl⟩, (Sm.rf.sI (Or.inl rfl)).sI (Or.inr (Or.inl rfl))⟩ (by
    intro i a hi ⟨e1, e2, e3, e4, e6, e5⟩
    obtain ⟨x, Z⟩ := a
    dsimp only at e1 e2 e3 e4 e5 e6 ⊢
    subst e1
    unfold f_Model_sheet_b93
    rw [li 40]
    by_cases h : i < 40
    · right
      rw [if_neg (by rw [nI_leI (by omega) (by omega)]; omega), pk_mul, nI_add, wrLn (by omega) (by omega), lt_s1, li 1, nI_add]
      refine ⟨h, _, rfl, rfl, by rw [gsIL]; exact e2, by rw [gsIL]; exact e3, fun j hj => ?_, fun u hu hne => ⟨by rw [gsIL]; exact (e6 u hu hne).1, by rw [gsIL]; exact (e6 u hu hne).2.1, fun j hj => by rw [gsL, if_neg (by omega)]; exact (e6 u hu hne).2.2 j hj⟩, e5.sL (Or.inr (Or.inr rfl))⟩
      rw [gsL]
      by_cases c : j = i
      · rw [if_pos ⟨rfl, by omega⟩]
      · rw [if_neg (by omega)]; exact e4 j (by omega)
    · have : i = 40 := by omega
      subst this
      left
      rw [if_pos (by rw [nI_leI (by omega) (by omega)]; omega), rdn ht (by omega), e3]
      exact ⟨_, rfl, rfl, e2, e3, e4, e6, e5⟩)
  dsimp only at y2 y3
  subst y2
  exact ⟨Y, y1, y3⟩
