/-! lays -/
def inH (v : Int64) : Bool := decide (0 ≤ v.toInt ∧ v.toInt ≤ 9)
def ly (s : Nat → Nat) (h : Nat → Int64) : Nat → (Nat → Nat)
  | 0 => s
  | i + 1 => if inH (h i) = true then up (ly s h i) (3 + i) (h i).toInt.toNat else ly s h i
def lyc (h : Nat → Int64) : Nat → Nat
  | 0 => 0
  | i + 1 => if inH (h i) = true then lyc h i + 1 else lyc h i
theorem inH_i {v : Int64} (h : inH v = true) : v.toInt32 = nI v.toInt.toNat ∧ v.toInt.toNat ≤ 9 := by
  have h := of_decide_eq_true h
  have h1 := h.1
  have h2 := h.2
  refine ⟨?_, by omega⟩
  apply Int32.toInt_inj.mp
  rw [nI_toInt (by omega), Int64.toInt_toInt32]
  generalize v.toInt = z at *
  have : z = 0 ∨ z = 1 ∨ z = 2 ∨ z = 3 ∨ z = 4 ∨ z = 5 ∨ z = 6 ∨ z = 7 ∨ z = 8 ∨ z = 9 := by omega
  rcases this with rfl | rfl | rfl | rfl | rfl | rfl | rfl | rfl | rfl | rfl <;> decide
theorem ly_gd {D : Nat} {s : Nat → Nat} {h : Nat → Int64} (hg : Gd D s) : ∀ i, i ≤ 16 → Gd D (ly s h i)
  | 0, _ => hg
  | i + 1, hi => by
    unfold ly
    by_cases c : inH (h i) = true
    · rw [if_pos c]
      have c2 := (inH_i c).2
      exact (ly_gd hg i (by omega)).put (by omega) (by omega) (by omega) (fun _ _ _ => c2) (fun _ _ _ => by omega) (fun _ _ _ _ _ => by omega)
    · rw [if_neg c]
      exact ly_gd hg i (by omega)
theorem m_wants {A : Ab} {X : Mem} (h : IM A X) (hO : Ok A) {t : Nat} (ht : t < 4) : f_Model_wants (nI t) X = some (if (aH A t).1 = 0 then -1000000006 else 0) := by
  obtain ⟨o1, o2, o3⟩ := hO.2.2.2.2 t ht
  unfold f_Model_wants
  rw [m_isSheet, if_pos (nIr ht (by omega)), bd_s, if_neg (by decide), rdn ht (by omega), (h.2.2.2.2 t ht).1]
  by_cases c : (aH A t).1 = 0
  · rw [if_pos c, if_neg (by decide), if_pos c]
  · rw [if_neg c, if_pos (by rw [li 0, nI_leI (by omega) (by omega)]; omega), if_neg c]
theorem m_wantsN {X : Mem} {p : Int32} (h : ¬ (0 ≤ p.toInt ∧ p.toInt < ((4 : Nat) : Int))) : f_Model_wants p X = some (-1000000001) := by
  unfold f_Model_wants
  rw [m_isSheet, if_neg h, bd_s, if_pos rfl]
theorem op_lays {A : Ab} (hO : Ok A) (p1 : Int32) : Act (f_Tide_lays p1) (f_Model_lays p1) A := by
  have hg := hO.1
  by_cases h1 : 0 ≤ p1.toInt ∧ p1.toInt < ((4 : Nat) : Int)
  · obtain ⟨t, ht, rfl⟩ := ofr h1
    obtain ⟨o1, o2, o3⟩ := hO.2.2.2.2 t ht
    by_cases c : (aH A t).1 = 0
    · refine act_find hO (c := -1000000006) (i := 5) (by decide) (by omega) (fun X hX => ?_) (fun X hX => ?_)
      · unfold f_Tide_lays
        rw [li 4, c_isBelow (by omega), if_pos h1, bd_s, if_neg (by decide), rdRn ht (by omega), c_missing hX hO ht, if_pos c, bd_s, if_neg (by decide), bd2_id]
      · unfold f_Model_lays
        rw [m_wants hX hO ht, if_pos c, bd_s, if_neg (by decide), bd_s, bd2_id]
    · have hN : min (aH A t).2.1 16 ≤ 16 := Nat.min_le_right _ _
      have hB : Ok (ly (aS A) (aH A t).2.2 (min (aH A t).2.1 16), A.2) := hO.shore (ly_gd hg _ hN)
      refine ⟨nI (lyc (aH A t).2.2 (min (aH A t).2.1 16)), (ly (aS A) (aH A t).2.2 (min (aH A t).2.1 16), A.2), hB, fun X hX => ?_, fun X hX => ?_⟩
      · unfold f_Tide_lays
        rw [li 4, c_isBelow (by omega), if_pos h1, bd_s, if_neg (by decide), rdRn ht (by omega), c_missing hX hO ht, if_neg c, bd_s, if_pos rfl]
        obtain ⟨q1, q2, q3⟩ := hX.2.2.2.2 t ht
        obtain ⟨⟨r, Y⟩, y1, y2, y3, y4⟩ := it_run (f := fun a => f_Tide_lays_b42 (52 + 2 * t) a.1 a.2.1 a.2.2) (fun i a => a.1 = nI (lyc (aH A t).2.2 i) ∧ a.2.1 = nI i ∧ RC a.2.2 2 (ly (aS A) (aH A t).2.2 i) ∧ Sm (fun k => k = 2 + 1) X a.2.2) (fun Y => Y.1 = nI (lyc (aH A t).2.2 (min (aH A t).2.1 16)) ∧ RC Y.2 2 (ly (aS A) (aH A t).2.2 (min (aH A t).2.1 16)) ∧ Sm (fun k => k = 2 + 1) X Y.2) (min (aH A t).2.1 16) (by omega) ((0 : Int32), (0 : Int32), X) ⟨rfl, rfl, hX.1, Sm.rf⟩ (by
          intro i a hi ⟨e1, e2, e3, e4⟩
          obtain ⟨x, y, Z⟩ := a
          dsimp only at e1 e2 e3 e4 ⊢
          subst e1
          subst e2
          unfold f_Tide_lays_b42 f_Tide_lays_j99
          simp only [lt_s1]
          rw [(e4 (52 + 2 * t) (by omega)).1 2, q2, li 16]
          by_cases hlt : i < min (aH A t).2.1 16
          · right
            rw [if_neg (by rw [nI_leI (by omega) (by omega)]; omega), if_neg (by rw [nI_leI (by omega) (by omega)]; omega), rdLn (by omega) (by omega), (e4 (52 + 2 * t + 1) (by omega)).2 i, q3 i (by omega), show nI i + (1 : Int32) = nI (i + 1) from by rw [li 1, nI_add]]
            refine ⟨hlt, ?_⟩
            by_cases d : inH ((aH A t).2.2 i) = true
            · have d2 := of_decide_eq_true d
              obtain ⟨d3, d4⟩ := inH_i d
              rw [if_neg (by rw [lc_lt, Int64.lt_iff_toInt_lt]; show ¬ _ < (0 : Int); omega), if_neg (by rw [lc_ge, Int64.le_iff_toInt_le, show (10 : Int64).toInt = 10 from by decide]; omega), wrn (by omega) (by omega), d3]
              refine ⟨_, rfl, ?_, rfl, ?_, e4.sI rfl⟩
              · show nI (lyc (aH A t).2.2 i) + 1 = nI (if inH ((aH A t).2.2 i) = true then lyc (aH A t).2.2 i + 1 else lyc (aH A t).2.2 i)
                rw [if_pos d, li 1, nI_add]
              · show RC _ 2 (if inH ((aH A t).2.2 i) = true then up (ly (aS A) (aH A t).2.2 i) (3 + i) ((aH A t).2.2 i).toInt.toNat else ly (aS A) (aH A t).2.2 i)
                rw [if_pos d]
                exact e3.putH (by omega)
            · have hE : (if lg_cmp ((aH A t).2.2 i) (0 : Int64) < 0 then some (Sum.inr (nI (lyc (aH A t).2.2 i), nI (i + 1), Z)) else (if 0 ≤ lg_cmp ((aH A t).2.2 i) (10 : Int64) then some (Sum.inr (nI (lyc (aH A t).2.2 i), nI (i + 1), Z)) else (wrI Z (2 + 1) 16 (nI i) ((aH A t).2.2 i).toInt32 fun X3 => some (Sum.inr (nI (lyc (aH A t).2.2 i) + 1, nI (i + 1), X3))) : Option ((Int32 × Mem) ⊕ (Int32 × Int32 × Mem)))) = some (Sum.inr (nI (lyc (aH A t).2.2 i), nI (i + 1), Z)) := by
                by_cases d1 : lg_cmp ((aH A t).2.2 i) (0 : Int64) < 0
                · rw [if_pos d1]
                · rw [if_neg d1, if_pos]
                  rw [lc_lt, Int64.lt_iff_toInt_lt, show (0 : Int64).toInt = 0 from by decide] at d1
                  rw [lc_ge, Int64.le_iff_toInt_le, show (10 : Int64).toInt = 10 from by decide]
                  have d5 : ¬ (0 ≤ ((aH A t).2.2 i).toInt ∧ ((aH A t).2.2 i).toInt ≤ 9) := fun q => d (decide_eq_true q)
                  omega
              refine ⟨_, hE, ?_, rfl, ?_, e4⟩
              · show nI (lyc (aH A t).2.2 i) = nI (if inH ((aH A t).2.2 i) = true then lyc (aH A t).2.2 i + 1 else lyc (aH A t).2.2 i)
                rw [if_neg d]
              · show RC Z 2 (if inH ((aH A t).2.2 i) = true then up (ly (aS A) (aH A t).2.2 i) (3 + i) ((aH A t).2.2 i).toInt.toNat else ly (aS A) (aH A t).2.2 i)
                rw [if_neg d]
                exact e3
          · have hii : i = min (aH A t).2.1 16 := by omega
            left
            refine ⟨(nI (lyc (aH A t).2.2 i), Z), ?_, by rw [hii], by rw [← hii]; exact e3, e4⟩
            by_cases d : (aH A t).2.1 ≤ i
            · rw [if_pos (by rw [nI_leI (by omega) (by omega)]; exact d)]
            · rw [if_neg (by rw [nI_leI (by omega) (by omega)]; exact d), if_pos (by rw [nI_leI (by omega) (by omega)]; omega)])
        dsimp only at y2 y3 y4
        subst y2
        exact ⟨Y, y1, hX.shore hO y3 (y4.mono (fun k q => Or.inl (by omega)))⟩
      · unfold f_Model_lays
        rw [m_wants hX hO ht, if_neg c, bd_s, if_pos rfl]
        obtain ⟨q1, q2, q3⟩ := hX.2.2.2.2 t ht
        obtain ⟨⟨r, Y⟩, y1, y2, y3, y4⟩ := it_run (f := fun a => f_Model_lays_b22 (nI t) a.1 a.2.1 a.2.2) (fun i a => a.1 = nI (lyc (aH A t).2.2 i) ∧ a.2.1 = nI i ∧ RM a.2.2 71 (ly (aS A) (aH A t).2.2 i) ∧ Sm (fun k => k = 71) X a.2.2) (fun Y => Y.1 = nI (lyc (aH A t).2.2 (min (aH A t).2.1 16)) ∧ RM Y.2 71 (ly (aS A) (aH A t).2.2 (min (aH A t).2.1 16)) ∧ Sm (fun k => k = 71) X Y.2) (min (aH A t).2.1 16) (by omega) ((0 : Int32), (0 : Int32), X) ⟨rfl, rfl, hX.1, Sm.rf⟩ (by
          intro i a hi ⟨e1, e2, e3, e4⟩
          obtain ⟨x, y, Z⟩ := a
          dsimp only at e1 e2 e3 e4 ⊢
          subst e1
          subst e2
          unfold f_Model_lays_b22 f_Model_lays_j77
          simp only [lt_s1]
          rw [rdn ht (by omega), (e4 78 (by omega)).1 t, q2, li 16]
          by_cases hlt : i < min (aH A t).2.1 16
          · right
            rw [if_neg (by rw [nI_leI (by omega) (by omega)]; omega), if_neg (by rw [nI_leI (by omega) (by omega)]; omega), li 40, pk_mul, nI_add, rdLn (by omega) (by omega), (e4 79 (by omega)).2, q3 i (by omega), m_isInL, bd_s, show nI i + (1 : Int32) = nI (i + 1) from by rw [li 1, nI_add], show (0 : Int64).toInt = 0 from by decide, show (9 : Int64).toInt = 9 from by decide]
            refine ⟨hlt, ?_⟩
            by_cases d : inH ((aH A t).2.2 i) = true
            · have d2 := of_decide_eq_true d
              obtain ⟨d3, d4⟩ := inH_i d
              rw [if_pos d2, if_neg (by decide), li 3, nI_add, wrn (by omega) (by omega), d3]
              refine ⟨_, rfl, ?_, rfl, ?_, e4.sI rfl⟩
              · show nI (lyc (aH A t).2.2 i) + 1 = nI (if inH ((aH A t).2.2 i) = true then lyc (aH A t).2.2 i + 1 else lyc (aH A t).2.2 i)
                rw [if_pos d, li 1, nI_add]
              · show RM _ 71 (if inH ((aH A t).2.2 i) = true then up (ly (aS A) (aH A t).2.2 i) (3 + i) ((aH A t).2.2 i).toInt.toNat else ly (aS A) (aH A t).2.2 i)
                rw [if_pos d]
                exact e3.put
            · have d5 : ¬ (0 ≤ ((aH A t).2.2 i).toInt ∧ ((aH A t).2.2 i).toInt ≤ 9) := fun q => d (decide_eq_true q)
              rw [if_neg d5, if_pos rfl]
              refine ⟨_, rfl, ?_, rfl, ?_, e4⟩
              · show nI (lyc (aH A t).2.2 i) = nI (if inH ((aH A t).2.2 i) = true then lyc (aH A t).2.2 i + 1 else lyc (aH A t).2.2 i)
                rw [if_neg d]
              · show RM Z 71 (if inH ((aH A t).2.2 i) = true then up (ly (aS A) (aH A t).2.2 i) (3 + i) ((aH A t).2.2 i).toInt.toNat else ly (aS A) (aH A t).2.2 i)
                rw [if_neg d]
                exact e3
          · have hii : i = min (aH A t).2.1 16 := by omega
            left
            refine ⟨(nI (lyc (aH A t).2.2 i), Z), ?_, by rw [hii], by rw [← hii]; exact e3, e4⟩
            by_cases d : (aH A t).2.1 ≤ i
            · rw [if_pos (by rw [nI_leI (by omega) (by omega)]; exact d)]
            · rw [if_neg (by rw [nI_leI (by omega) (by omega)]; exact d), if_pos (by rw [nI_leI (by omega) (by omega)]; omega)])
        dsimp only at y2 y3 y4
        subst y2
        exact ⟨Y, y1, hX.shore y3 (y4.mono (fun k q => Or.inl q))⟩
  · refine act_bey hO (fun X hX => ?_) (fun X hX => ?_)
    · unfold f_Tide_lays
      rw [li 4, c_isBelow (by omega), if_neg h1, bd_s, if_pos rfl, bd2_id]
    · unfold f_Model_lays
      rw [m_wantsN h1, bd_s, if_neg (by decide), bd_s, bd2_id]
