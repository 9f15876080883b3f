/-! book -/
theorem crs_pn {D : Nat} {s : Nat → Nat} (hg : Gd D s) {f j : Nat} : crs s f (-1) j = pn s j f := by
  have h0 := hg.1
  unfold crs pn
  rw [sg_cong (fun t ht => trI_tot (s := s) (n := j) (f := f) (by omega : t < 100))]
theorem op_book {A : Ab} (hO : Ok A) (p1 p2 : Int32) : Act (f_Tide_book p1 p2) (f_Model_book p1 p2) A := by
  have hg := hO.1
  have h0 := hg.1
  have hd := hg.2.1
  by_cases h1 : 0 ≤ p1.toInt ∧ p1.toInt < ((4 : Nat) : Int)
  · obtain ⟨t, ht, rfl⟩ := ofr h1
    obtain ⟨o1, o2, o3⟩ := hO.2.2.2.2 t ht
    by_cases c : (aH A t).1 = 0
    · refine act_find hO (c := -1000000006) (i := 5) (by decide) (by omega) (fun X hX => ?_) (fun X hX => ?_)
      · unfold f_Tide_book
        rw [li 4, c_isBelow (by omega), if_pos h1, bd_s, if_neg (by decide), rdRn ht (by omega), c_missing hX hO ht, if_pos c, bd_s, if_neg (by decide), bd2_id]
      · unfold f_Model_book f_Model_book_j29
        rw [m_wants hX hO ht, if_pos c, bd_s, if_neg (by decide), bd_s, if_neg (by decide), bd2_id]
    · by_cases h2 : 0 ≤ p2.toInt ∧ p2.toInt < ((4 : Nat) : Int)
      · obtain ⟨f, hf, rfl⟩ := ofr h2
        have hpl : ∀ j, pn (aS A) j f ≤ 999999999 := fun j => pn_le
        refine ⟨nI (aH A t).2.1, hs A t ((aH A t).1, (aH A t).2.1, fun j => if j < (aH A t).2.1 then nrw (aH A t).1 (lN (pn (aS A) j f)) else (aH A t).2.2 j), hO.sheet ⟨o1, o2, o3⟩, fun X hX => ?_, fun X hX => ?_⟩
        · obtain ⟨X10, a1, a2, a3⟩ := c_plot (f := f) (m := (aH A t).2.1) (z := -1) hX.1 hg (by omega) hf o2
          have hS : Sm scN X X10 := a2.mono (fun k q => by unfold scN; omega)
          have hX10 : IC A X10 := hX.scratch hO hS
          obtain ⟨q1, q2, q3⟩ := hX10.2.2.2.2 t ht
          obtain ⟨q1', q2', q3'⟩ := hX.2.2.2.2 t ht
          unfold f_Tide_book
          rw [li 4, c_isBelow (by omega), if_pos h1, bd_s, if_neg (by decide), rdRn ht (by omega), c_missing hX hO ht, if_neg c, bd_s, if_pos rfl, c_isBelow (by omega), if_pos h2, bd_s, if_neg (by decide), lt_s1, q2', a1, bd_s]
          obtain ⟨⟨r, Y⟩, y1, y2, y3, y4, y5⟩ := it_run (f := fun a => f_Tide_book_b65 (52 + 2 * t) a.1 a.2) (fun i a => a.1 = nI i ∧ (∀ k j, gI a.2 k j = gI X10 k j) ∧ (∀ j, j < 40 → gL a.2 (52 + 2 * t + 1) j = if j < i then nrw (aH A t).1 (lN (pn (aS A) j f)) else (aH A t).2.2 j) ∧ Sm (fun k => k = 52 + 2 * t ∨ k = 52 + 2 * t + 1) X10 a.2) (fun Y => Y.1 = nI (aH A t).2.1 ∧ (∀ k j, gI Y.2 k j = gI X10 k j) ∧ (∀ j, j < 40 → gL Y.2 (52 + 2 * t + 1) j = if j < (aH A t).2.1 then nrw (aH A t).1 (lN (pn (aS A) j f)) else (aH A t).2.2 j) ∧ Sm (fun k => k = 52 + 2 * t ∨ k = 52 + 2 * t + 1) X10 Y.2) (aH A t).2.1 (by omega) ((0 : Int32), X10) ⟨rfl, fun _ _ => rfl, fun j hj => by rw [if_neg (by omega)]; exact q3 j hj, Sm.rf⟩ (by
            intro i a hi ⟨e1, e2, e3, e4⟩
            obtain ⟨x, Z⟩ := a
            dsimp only at e1 e2 e3 e4 ⊢
            subst e1
            unfold f_Tide_book_b65
            simp only [lt_s1]
            rw [e2 (52 + 2 * t) 2, q2]
            by_cases hlt : i < (aH A t).2.1
            · right
              have hp := hpl i
              rw [if_neg (by rw [nI_leI (by omega) (by omega)]; omega), rdn (by omega) (by omega), e2, a3 i hlt, crs_pn hg, ilN (by omega), c_put ((e2 _ _).trans q1) (by omega) (by omega), bd_s, li 1, nI_add]
              refine ⟨hlt, _, rfl, rfl, fun k j => by rw [gsIL]; exact e2 k j, fun j hj => ?_, e4.sL (Or.inr rfl)⟩
              rw [gsL]
              by_cases cj : j = i
              · rw [if_pos ⟨rfl, cj⟩, if_pos (by omega), cj]
              · rw [if_neg (fun q => cj q.2), e3 j hj]
                by_cases cj2 : j < i
                · rw [if_pos cj2, if_pos (by omega)]
                · rw [if_neg cj2, if_neg (by omega)]
            · have hii : i = (aH A t).2.1 := by omega
              left
              rw [if_pos (by rw [nI_leI (by omega) (by omega)]; omega)]
              exact ⟨_, rfl, rfl, e2, by rw [← hii]; exact e3, e4⟩)
          dsimp only at y2 y3 y4 y5
          subst y2
          have hI := hX10.sheet hO ht (x := ((aH A t).1, (aH A t).2.1, fun j => if j < (aH A t).2.1 then nrw (aH A t).1 (lN (pn (aS A) j f)) else (aH A t).2.2 j)) y5 ((y3 _ _).trans q1) ((y3 _ _).trans q2) y4
          exact ⟨Y, y1, hI.1, (hS.mono (fun k q => by unfold scN at q; unfold C70; omega)).tr hI.2⟩
        · obtain ⟨q1, q2, q3⟩ := hX.2.2.2.2 t ht
          rw [if_neg c] at q1
          obtain ⟨X2, a1, a2, a3⟩ := m_copyRow (B := 74) hX.1 (by omega)
          have hC : ∀ t, t < aS A 0 → aS A (23 + 6 * t + 2) < 16 := fun t ht => (hg.2.2.2.2.2 t ht).2.2.1
          unfold f_Model_book f_Model_book_j29
          rw [m_wants hX hO ht, if_neg c, bd_s, if_pos rfl, m_isFamily, if_pos h2, bd_s, if_neg (by decide), if_pos rfl, a1, bd_s]
          obtain ⟨⟨r, Y⟩, y1, y2, y3, y4, y5⟩ := it_run (f := fun a => f_Model_book_b54 (nI t) (nI f) a.1 a.2) (fun i a => a.1 = nI i ∧ ∃ u, RM a.2 71 u ∧ Aft (aS A) i u ∧ RM a.2 74 (aS A) ∧ (∀ x, gL a.2 79 x = if 40 * t ≤ x ∧ x < 40 * t + i then nrw (aH A t).1 (lN (pn (aS A) (x - 40 * t) f)) else gL X 79 x) ∧ (∀ x, gI a.2 79 x = gI X 79 x) ∧ Sm (fun k => k = 71 ∨ k = 74 ∨ k = 79) X a.2) (fun Y => Y.1 = nI (aH A t).2.1 ∧ RM Y.2 71 (aS A) ∧ ((∀ x, gL Y.2 79 x = if 40 * t ≤ x ∧ x < 40 * t + (aH A t).2.1 then nrw (aH A t).1 (lN (pn (aS A) (x - 40 * t) f)) else gL X 79 x) ∧ (∀ x, gI Y.2 79 x = gI X 79 x)) ∧ Sm (fun k => k = 71 ∨ k = 74 ∨ k = 79) X Y.2) (aH A t).2.1 (by omega) ((0 : Int32), X2) ⟨rfl, aS A, hX.1.sm a3 (by omega), Aft.z hg, a2, fun x => by rw [if_neg (by omega)]; exact (a3 79 (by omega)).2 x, fun x => (a3 79 (by omega)).1 x, a3.mono (fun k q => Or.inr (Or.inl q))⟩ (by
            intro i a hi ⟨e1, u, e2, e3, e4, e5, e6, e7⟩
            obtain ⟨x, Z⟩ := a
            dsimp only at e1 e2 e3 e4 e5 e6 e7 ⊢
            subst e1
            unfold f_Model_book_b54
            rw [rdn ht (by omega), (e7 78 (by omega)).1, q2]
            by_cases hlt : i < (aH A t).2.1
            · right
              have hp := hpl i
              have eu : u (19 + f) = pn (aS A) i f := e3.2.2.2.2.2.2 f hf
              rw [if_neg (by rw [nI_leI (by omega) (by omega)]; omega), rdn ht (by omega), (e7 77 (by omega)).1, q1, li 19, nI_add, e2.rd (by omega), eu, ilN (by omega), m_narrow (by omega), bd_s, li 40, pk_mul, nI_add, wrLn (by omega) (by omega)]
              have hS9 : Sm (fun k => k = 79) Z (sL Z 79 (40 * t + i) (nrw (aH A t).1 (lN (pn (aS A) i f)))) := Sm.sL (K := fun k => k = 79) Sm.rf rfl
              obtain ⟨Y2, v, d1, d2, d3, d4⟩ := m_day (e2.sm hS9 (by omega)) (e3.gd hg) (by omega)
              rw [d1, bd_s, lt_s1, li 1, nI_add]
              refine ⟨hlt, _, rfl, rfl, v, d2, e3.add hC d3, (e4.sm hS9 (by omega)).sm d4 (by omega), fun x => ?_, fun x => ?_, (e7.sL (Or.inr (Or.inr rfl))).tr (d4.mono (fun k q => Or.inl q))⟩
              · rw [(d4 79 (by omega)).2, gsL]
                by_cases cx : x = 40 * t + i
                · rw [if_pos ⟨rfl, cx⟩, if_pos (by omega), cx, Nat.add_sub_cancel_left]
                · rw [if_neg (fun q => cx q.2), e5 x]
                  by_cases cx2 : 40 * t ≤ x ∧ x < 40 * t + i
                  · rw [if_pos cx2, if_pos (by omega)]
                  · rw [if_neg cx2, if_neg (by omega)]
              · rw [(d4 79 (by omega)).1, gsIL]; exact e6 x
            · have hii : i = (aH A t).2.1 := by omega
              left
              obtain ⟨X7, c1, c2, c3⟩ := m_copyRow (B := 71) e4 (by omega)
              rw [if_pos (by rw [nI_leI (by omega) (by omega)]; omega), c1, bd_s, rdn ht (by omega), (c3 78 (by omega)).1, (e7 78 (by omega)).1, q2]
              exact ⟨_, rfl, rfl, c2, ⟨fun x => by rw [(c3 79 (by omega)).2, ← hii]; exact e5 x, fun x => by rw [(c3 79 (by omega)).1]; exact e6 x⟩, e7.tr (c3.mono (fun k q => Or.inl q))⟩)
          dsimp only at y2 y3 y4 y5
          subst y2
          have hSW : Sm (fun k => k = 71 ∨ k = 73 ∨ k = 74) X ((Y.1, fun k j => if k = 79 then X.2 k j else Y.2 k j) : Mem) := fun k hk => by
            by_cases ck : k = 79
            · subst ck
              exact ⟨fun j => y4.2 j, fun j => rfl⟩
            · exact ⟨fun j => (y5 k (by omega)).1 j, fun j => (if_neg ck).trans ((y5 k (by omega)).2 j)⟩
          have hIW := hX.shore (Y := ((Y.1, fun k j => if k = 79 then X.2 k j else Y.2 k j) : Mem)) (s := aS A) y3 hSW
          have hWY : Sm (fun k => k = 77 ∨ k = 78 ∨ k = 79) ((Y.1, fun k j => if k = 79 then X.2 k j else Y.2 k j) : Mem) Y := fun k hk => ⟨fun j => rfl, fun j => (if_neg (fun e => hk (Or.inr (Or.inr e)))).symm⟩
          have hI := hIW.1.sheet ht (x := ((aH A t).1, (aH A t).2.1, fun j => if j < (aH A t).2.1 then nrw (aH A t).1 (lN (pn (aS A) j f)) else (aH A t).2.2 j)) hWY (fun u hu hne => ⟨rfl, rfl, fun j hj => by rw [y4.1, if_neg (by omega)]; rfl⟩) (by rw [if_neg c]; exact ((y5 77 (by omega)).1 t).trans q1) (((y5 78 (by omega)).1 t).trans q2) (fun j hj => by
            rw [y4.1]
            show _ = if j < (aH A t).2.1 then nrw (aH A t).1 (lN (pn (aS A) j f)) else (aH A t).2.2 j
            by_cases cj : j < (aH A t).2.1
            · rw [if_pos (by omega), if_pos cj, Nat.add_sub_cancel_left]
            · rw [if_neg (by omega), if_neg cj]; exact q3 j hj)
          exact ⟨Y, y1, hI.1, hIW.2.tr hI.2⟩
      · refine act_bey hO (fun X hX => ?_) (fun X hX => ?_)
        · unfold f_Tide_book
          rw [li 4, c_isBelow (by omega), if_pos h1, bd_s, if_neg (by decide), rdRn ht (by omega), c_missing hX hO ht, if_neg c, bd_s, if_pos rfl, c_isBelow (by omega), if_neg h2, bd_s, if_pos rfl, bd2_id]
        · unfold f_Model_book f_Model_book_j29
          rw [m_wants hX hO ht, if_neg c, bd_s, if_pos rfl, m_isFamily, if_neg h2, bd_s, if_pos rfl, if_neg (by decide), bd2_id]
  · refine act_bey hO (fun X hX => ?_) (fun X hX => ?_)
    · unfold f_Tide_book
      rw [li 4, c_isBelow (by omega), if_neg h1, bd_s, if_pos rfl, bd2_id]
    · unfold f_Model_book f_Model_book_j29
      rw [m_wantsN h1, bd_s, if_neg (by decide), bd_s, if_neg (by decide), bd2_id]
