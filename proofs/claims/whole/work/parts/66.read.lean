/-! read -/
def tdn (A : Ab) (u f t k c : Nat) : Nat := if Told (aH A u).2.2 (fun i => pn (vw (aS A) t k c) i f) (aH A u).2.1 = true then 1 else 0
def RdP (A : Ab) (X : Mem) (u f t : Nat) (Z : Mem) : Prop := Sm scN X Z ∧ (∀ j, j < (aH A u).2.1 → gI Z 49 j = nI (crs (aS A) f (nI t) j)) ∧ gI Z 50 1 = nI (tF (aS A) t) ∧ gI Z 50 3 = nI (tW (aS A) t) ∧ gI Z 50 5 = nI (aS A (23 + 6 * t + 5))
theorem c_cells {A : Ab} (hO : Ok A) {X Z : Mem} (hX : IC A X) {u f t k : Nat} (hu : u < 4) (hf : f < 4) (ht : t < aS A 0) (hk : k < 6) (hP : RdP A X u f t Z) : ∃ Y, f_Tide_cellsThatFit (52 + 2 * u) (nI f) (nI k) Z = some (nI (sg (tdn A u f t k) 16), Y) ∧ RdP A X u f t Y := by
  have hg := hO.1
  have h0 := hg.1
  have hd := hg.2.1
  obtain ⟨g0, g1, g2, g3, g4, g5⟩ := hg.2.2.2.2.2 t ht
  obtain ⟨o1, o2, o3⟩ := hO.2.2.2.2 u hu
  unfold f_Tide_cellsThatFit
  rw [lt_s1]
  have hP0 : RdP A X u f t (sI Z 50 0 (nI k)) := ⟨hP.1.sI (by unfold scN; omega), fun j hj => by rw [gsI, if_neg (by omega)]; exact hP.2.1 j hj, by rw [gsI, if_neg (by omega)]; exact hP.2.2.1, by rw [gsI, if_neg (by omega)]; exact hP.2.2.2.1, by rw [gsI, if_neg (by omega)]; exact hP.2.2.2.2⟩
  obtain ⟨⟨r, Y⟩, y1, y2, y3⟩ := it_run (f := fun a => f_Tide_cellsThatFit_b14 (52 + 2 * u) (nI f) a.1 a.2.1 a.2.2) (fun i a => a.1 = nI (sg (tdn A u f t k) i) ∧ a.2.1 = nI i ∧ gI a.2.2 50 0 = nI k ∧ RdP A X u f t a.2.2) (fun Y => Y.1 = nI (sg (tdn A u f t k) 16) ∧ RdP A X u f t Y.2) 16 (by omega) ((0 : Int32), (0 : Int32), sI Z 50 0 (nI k)) ⟨rfl, rfl, by rw [gsI, if_pos ⟨rfl, rfl⟩], hP0⟩ (by
    intro c a hi ⟨e1, e2, e3, e4⟩
    obtain ⟨x, y, W⟩ := a
    dsimp only at e1 e2 e3 e4 ⊢
    subst e1
    subst e2
    by_cases hlt : c < 16
    · right
      obtain ⟨p1, p2, p3, p4, p5⟩ := e4
      have hS2 : Sm (fun z => z = 50) W (sI (sI W 50 2 (nI c)) 50 4 1) := sm_s1 (sm_s1 Sm.rf)
      have hSX2 : Sm scN X (sI (sI W 50 2 (nI c)) 50 4 1) := p1.tr (hS2.mono (fun z q => by unfold scN; omega))
      have hI2 : IC A (sI (sI W 50 2 (nI c)) 50 4 1) := hX.scratch hO hSX2
      have f0 : gI (sI (sI W 50 2 (nI c)) 50 4 1) 50 0 = nI k := by rw [gsI, if_neg (by omega), gsI, if_neg (by omega)]; exact e3
      have f1 : gI (sI (sI W 50 2 (nI c)) 50 4 1) 50 1 = nI (tF (aS A) t) := by rw [gsI, if_neg (by omega), gsI, if_neg (by omega)]; exact p3
      have f3 : gI (sI (sI W 50 2 (nI c)) 50 4 1) 50 3 = nI (tW (aS A) t) := by rw [gsI, if_neg (by omega), gsI, if_neg (by omega)]; exact p4
      have f5 : gI (sI (sI W 50 2 (nI c)) 50 4 1) 50 5 = nI (aS A (23 + 6 * t + 5)) := by rw [gsI, if_neg (by omega), gsI, if_neg (by omega)]; exact p5
      obtain ⟨Y, l, b, a, p, y1, y2, y3, y4⟩ := c_ftrX (X := sI (sI W 50 2 (nI c)) 50 4 1) (N := nI (aH A u).2.1 - (1 : Int32)) (n := (aH A u).2.1 - 1) (k := k) (c := c) (q := (1, aS A (23 + 6 * t + 5))) hI2.1 hg (by omega) (fN_of _) (by omega) f0 (by rw [gsI, if_neg (by omega), gsI, if_pos ⟨rfl, rfl⟩]) (by rw [gsI, if_pos ⟨rfl, rfl⟩]; rfl) f5 hk hlt (by show 1 ≤ 2; omega) g5
      obtain ⟨w1, w2, w3, w4, w5⟩ := ws_brings (w := tW (aS A) t) (r := aS A 2) y4 (by show 1 ≤ 2; omega) g5
      have hSY : Sm scN X Y := hSX2.tr (y2.mono (fun z q => by unfold scN; omega))
      have hIY : IC A Y := hX.scratch hO hSY
      obtain ⟨q1, q2, q3⟩ := hIY.2.2.2.2 u hu
      have hcY : ∀ j, j < (aH A u).2.1 → gI Y 49 j = nI (crs (aS A) f (nI t) j) := fun j hj => ((y2 49 (by omega)).1 j).trans (((hS2 49 (by omega)).1 j).trans (p2 j hj))
      have hPY : RdP A X u f t Y := ⟨hSY, hcY, ((y2 50 (by omega)).1 1).trans f1, ((y2 50 (by omega)).1 3).trans f3, ((y2 50 (by omega)).1 5).trans f5⟩
      have hx : (if tF (aS A) t = f then tot k (aS A (3 + c)) (tW (aS A) t) (aS A 2) (aS A 1) (1, aS A (23 + 6 * t + 5)) ((aH A u).2.1 - 1) else 0) ≤ 99999999 := by
        split
        · exact w2
        · omega
      have hco := c_isCourse (Z := Y) (u := u) (m := (aH A u).2.1) (b := b) (num := (aH A u).2.2) (cs := fun j => crs (aS A) f (nI t) j) (g := fun i => pn (vw (aS A) t k c) i f) o2 (by omega) hx q2 q3 (fun j hj => ⟨hcY j hj, Nat.min_le_left _ _⟩) (fun j hj => told_val hg ht hk hlt hf (by omega) y4)
      have hfin : f_Tide_cellsThatFit_j74 (52 + 2 * u) (nI f) (nI (sg (tdn A u f t k) c)) (nI c) (nI (if tF (aS A) t = f then tot k (aS A (3 + c)) (tW (aS A) t) (aS A 2) (aS A 1) (1, aS A (23 + 6 * t + 5)) ((aH A u).2.1 - 1) else 0)) Y = some (.inr (nI (sg (tdn A u f t k) (c + 1)), nI (c + 1), Y)) := by
        unfold f_Tide_cellsThatFit_j74 f_Tide_cellsThatFit_j96
        simp only [lt_s1]
        rw [y3.2.1, hco, bd_s, show nI c + (1 : Int32) = nI (c + 1) from by rw [li 1, nI_add]]
        show _ = some (Sum.inr (nI (sg (tdn A u f t k) c + tdn A u f t k c), nI (c + 1), Y))
        unfold tdn
        by_cases cc : Told (aH A u).2.2 (fun i => pn (vw (aS A) t k c) i f) (aH A u).2.1 = true
        · rw [if_pos cc, if_neg (by decide), if_pos cc, li 1, nI_add]
        · rw [if_neg cc, if_pos rfl, if_neg cc]
          rfl
      have hall : f_Tide_cellsThatFit_b14 (52 + 2 * u) (nI f) (nI (sg (tdn A u f t k) c)) (nI c) W = some (.inr (nI (sg (tdn A u f t k) (c + 1)), nI (c + 1), Y)) := by
        rw [← hfin]
        unfold f_Tide_cellsThatFit_b14 f_Thing_layAt
        simp only [lt_s1]
        rw [li 16, if_neg (by rw [nI_leI (by omega) (by omega)]; omega), bd_s, (hI2.2.2.2.2 u hu).2.1, y1, bd_s, hPY.2.2.1]
        by_cases cf : tF (aS A) t = f
        · rw [if_pos (by rw [cf]), if_pos cf, hIY.1.2.2.1, c_brings y3 (((y2 50 (by omega)).1 0).trans f0) (((y2 50 (by omega)).1 3).trans f3) hk g3 hg.2.2.1 (by omega) (by omega) (by omega), bd_s, w1]
        · rw [if_neg (by rw [nI_eq (show tF (aS A) t < 2 ^ 31 from by show aS A (23 + 6 * t + 1) < _; omega) (by omega)]; exact cf), if_neg cf]
          rfl
      exact ⟨hlt, _, hall, rfl, rfl, ((y2 50 (by omega)).1 0).trans f0, hPY⟩
    · have hcc : c = 16 := by omega
      subst hcc
      left
      unfold f_Tide_cellsThatFit_b14
      rw [li 16, if_pos (by rw [nI_leI (by omega) (by omega)]; omega)]
      exact ⟨_, rfl, rfl, e4⟩)
  dsimp only at y2 y3
  subst y2
  exact ⟨Y, y1, y3⟩
def RdM (A : Ab) (X : Mem) (t : Nat) (Z : Mem) : Prop := ∃ v, RM Z 71 v ∧ (∀ j, j ≠ 23 + 6 * t → j ≠ 23 + 6 * t + 2 → j ≠ 23 + 6 * t + 4 → v j = aS A j) ∧ Sm (fun k => k = 71 ∨ k = 73 ∨ k = 74) X Z
theorem m_cells {A : Ab} (hO : Ok A) {X Z : Mem} (hX : IM A X) {u f t k n : Nat} {x5 x6 x7 : Int32} (hu : u < 4) (hf : f < 4) (ht : t < aS A 0) (hk : k < 6) (hP : RdM A X t Z) : ∃ Y, f_Model_read_b104 (nI u) (nI f) (nI t) x5 x6 x7 (nI n) (nI k) Z = some (.inr (nI (n + sg (tdn A u f t k) 16), nI (k + 1), Y)) ∧ RdM A X t Y := by
  have hg := hO.1
  have h0 := hg.1
  have hd := hg.2.1
  obtain ⟨g0, g1, g2, g3, g4, g5⟩ := hg.2.2.2.2.2 t ht
  obtain ⟨o1, o2, o3⟩ := hO.2.2.2.2 u hu
  unfold f_Model_read_b104
  rw [li 5, if_neg (by rw [nI_ltI (by omega) (by omega)]; omega)]
  obtain ⟨r, y1, Y, y2, y3⟩ := it_run (f := fun a => f_Model_read_b113 (nI u) (nI f) (nI t) x5 x6 x7 (nI k) a.1 a.2.1 a.2.2) (fun i a => a.1 = nI (n + sg (tdn A u f t k) i) ∧ a.2.1 = nI i ∧ RdM A X t a.2.2) (fun r => ∃ Y, r = .inr (nI (n + sg (tdn A u f t k) 16), nI (k + 1), Y) ∧ RdM A X t Y) 16 (by omega) (nI n, (0 : Int32), Z) ⟨rfl, rfl, hP⟩ (by
    intro c a hi ⟨e1, e2, v, e3, e4, e5⟩
    obtain ⟨x, y, W⟩ := a
    dsimp only at e1 e2 e3 e4 e5 ⊢
    subst e1
    subst e2
    unfold f_Model_read_b113
    rw [li 16]
    by_cases hlt : c < 16
    · right
      obtain ⟨v1, v2⟩ := vw_vr hg ht hk hlt
      have r1 : RM (sI W 71 (23 + 6 * t) (nI k)) 71 (up v (23 + 6 * t) k) := e3.put
      have s1 : Sm (fun z => z = 71) W (sI W 71 (23 + 6 * t) (nI k)) := sm_s1 Sm.rf
      obtain ⟨Z2, l1, l2, l3⟩ := m_lies (c := c) r1 (t := t) (by omega)
      have r2 : RM Z2 71 (vw (aS A) t k c) := l2.ext (fun j hj => by
        unfold vw
        by_cases c4 : j = 23 + 6 * t + 4
        · subst c4; rw [up_s, up_s]
        · rw [up_n c4, up_n c4]
          by_cases c2 : j = 23 + 6 * t + 2
          · subst c2; rw [up_s, up_s]
          · rw [up_n c2, up_n c2]
            by_cases c0 : j = 23 + 6 * t
            · subst c0; rw [up_s, up_s]
            · rw [up_n c0, up_n c0]; exact e4 j c0 c2 c4)
      have hS2 : Sm (fun k => k = 71 ∨ k = 73 ∨ k = 74) X Z2 := e5.tr ((s1.tr l3).mono (fun k q => Or.inl q))
      obtain ⟨q1, q2, q3⟩ := hX.2.2.2.2 u hu
      obtain ⟨Y, y1, y2, y3⟩ := m_isTold (u := u) (f := f) (m := (aH A u).2.1) (num := (aH A u).2.2) r2 v1 (by omega) hu hf o2 (((hS2 78 (by omega)).1 u).trans q2) (fun j hj => ((hS2 79 (by omega)).2 _).trans (q3 j hj))
      rw [if_neg (by rw [nI_leI (by omega) (by omega)]; omega), show f_Model_at (nI t) (0 : Int32) = some (nI (23 + 6 * t)) from m_at (j := 0), bd_s, wrn (by omega) (by omega), l1, bd_s, y1, bd2_s]
      have hPY : RdM A X t Y := ⟨_, y2, fun j j0 j2 j4 => vw_o j0 j2 j4, hS2.tr y3⟩
      have hfin : ∀ q : Nat, q = tdn A u f t k c → f_Model_read_j155 (nI u) (nI f) (nI t) x5 x6 x7 (nI k) (nI c) (nI (n + sg (tdn A u f t k) c)) (nI q) Y = some (.inr (nI (n + sg (tdn A u f t k) (c + 1)), nI (c + 1), Y)) := fun q hq => by
        subst hq
        unfold f_Model_read_j155
        rw [lt_s1, lt_s1, nI_add, li 1, nI_add, sg, Nat.add_assoc]
      refine ⟨hlt, (nI (n + sg (tdn A u f t k) (c + 1)), nI (c + 1), Y), ?_, rfl, rfl, hPY⟩
      by_cases cc : Told (aH A u).2.2 (fun i => pn (vw (aS A) t k c) i f) (aH A u).2.1 = true
      · rw [if_pos cc, if_neg (by decide)]
        exact hfin 1 (by unfold tdn; rw [if_pos cc])
      · rw [if_neg cc, if_pos rfl]
        exact hfin 0 (by unfold tdn; rw [if_neg cc])
    · have hcc : c = 16 := by omega
      subst hcc
      left
      rw [if_pos (by rw [nI_leI (by omega) (by omega)]; omega), lt_s1, li 1, nI_add]
      exact ⟨_, rfl, W, rfl, v, e3, e4, e5⟩)
  rw [y1, y2]
  exact ⟨Y, rfl, y3⟩
theorem op_read {A : Ab} (hO : Ok A) (p1 p2 p3 : Int32) : Act (f_Tide_read p1 p2 p3) (f_Model_read p1 p2 p3) A := by
  have hg := hO.1
  have h0 := hg.1
  have hd := hg.2.1
  by_cases h1 : 0 ≤ p1.toInt ∧ p1.toInt < ((4 : Nat) : Int)
  · obtain ⟨u, hu, rfl⟩ := ofr h1
    obtain ⟨o1, o2, o3⟩ := hO.2.2.2.2 u hu
    by_cases c : (aH A u).1 = 0
    · refine act_find hO (c := -1000000006) (i := 5) (by decide) (by omega) (fun X hX => ?_) (fun X hX => ?_)
      · unfold f_Tide_read
        rw [li 4, c_isBelow (by omega), if_pos h1, bd_s, if_neg (by decide), rdRn hu (by omega), c_missing hX hO hu, if_pos c, bd_s, if_neg (by decide), bd2_id]
      · unfold f_Model_read f_Model_read_j37 f_Model_read_j58 f_Model_read_j60
        rw [m_wants hX hO hu, if_pos c, bd_s, if_neg (by decide), bd_s, if_neg (by decide), if_neg (by decide), bd2_id]
    · by_cases h2 : 0 ≤ p2.toInt ∧ p2.toInt < ((4 : Nat) : Int)
      · by_cases h3 : 0 ≤ p3.toInt ∧ p3.toInt < (aS A 0 : Int)
        · obtain ⟨f, hf, rfl⟩ := ofr h2
          obtain ⟨t, ht, rfl⟩ := ofr h3
          obtain ⟨g0, g1, g2, g3, g4, g5⟩ := hg.2.2.2.2.2 t ht
          by_cases h4 : aS A (23 + 6 * t + 4) = 2
          · refine act_find hO (c := -1000000005) (i := 4) (by decide) (by omega) (fun X hX => ?_) (fun X hX => ?_)
            · unfold f_Tide_read
              rw [li 4, c_isBelow (by omega), if_pos h1, bd_s, if_neg (by decide), rdRn hu (by omega), c_missing hX hO hu, if_neg c, bd_s, if_pos rfl, c_isBelow (by omega), if_pos h2, bd_s, if_neg (by decide), c_has hX.1 h0, if_pos h3, bd_s, if_neg (by decide), rdRn (by omega) (by omega), lt_s1]
              rw [show gI X (2 + 3 + 1 + t) (4 : Nat) = nI (aS A (23 + 6 * t + 4)) from hX.1.th ht (by omega), if_pos (by rw [h4]; rfl), bd2_id]
            · unfold f_Model_read f_Model_read_j37 f_Model_read_j60
              rw [m_wants hX hO hu, if_neg c, bd_s, if_pos rfl, m_isFamily, if_pos h2, bd_s, if_neg (by decide), m_isThing hX.1 h0, if_pos h3, bd_s, if_neg (by decide), if_pos rfl, li 2, m_isIt hX.1 (by omega) (by omega) (by omega), if_pos h4, bd_s, if_neg (by decide), if_neg (by decide), bd2_id]
          · refine act_tell hO (r := nI (sg (fun k => sg (tdn A u f t k) 16) 6)) (fun X hX => ?_) (fun X hX => ?_)
            · obtain ⟨X14, a1, a2, a3⟩ := c_plot (f := f) (m := (aH A u).2.1) (z := nI t) hX.1 hg (by omega) hf o2
              obtain ⟨X17, b1, b2, b3⟩ := c_tbecome (X := X14) (a := 50) (b := (2 + 3) + 1 + t) (by omega)
              have hS14 : Sm scN X X14 := a2.mono (fun k q => by unfold scN; omega)
              have hI14 : IC A X14 := hX.scratch hO hS14
              have hS17 : Sm scN X X17 := hS14.tr (b3.mono (fun k q => by unfold scN; omega))
              have hT : ∀ j, j < 6 → gI X17 50 j = nI (aS A (23 + 6 * t + j)) := fun j hj => (b2 j hj).trans (hI14.1.th ht hj)
              have hP : RdP A X u f t X17 := ⟨hS17, fun j hj => ((b3 49 (by omega)).1 j).trans (a3 j hj), hT 1 (by omega), hT 3 (by omega), hT 5 (by omega)⟩
              obtain ⟨⟨r, Y⟩, y1, y2, y3⟩ := it_run (f := fun a => f_Tide_read_b121 (nI f) (52 + 2 * u) a.1 a.2.1 a.2.2) (fun i a => a.1 = nI (sg (fun k => sg (tdn A u f t k) 16) i) ∧ a.2.1 = nI i ∧ RdP A X u f t a.2.2) (fun Y => Y.1 = nI (sg (fun k => sg (tdn A u f t k) 16) 6) ∧ RdP A X u f t Y.2) 6 (by omega) ((0 : Int32), (0 : Int32), X17) ⟨rfl, rfl, hP⟩ (by
                intro i a hi ⟨e1, e2, e3⟩
                obtain ⟨x, y, Z⟩ := a
                dsimp only at e1 e2 e3 ⊢
                subst e1
                subst e2
                unfold f_Tide_read_b121
                rw [li 6]
                by_cases hlt : i < 6
                · right
                  obtain ⟨Y, y1, y2⟩ := c_cells hO hX hu hf ht hlt e3
                  rw [if_neg (by rw [nI_leI (by omega) (by omega)]; omega), y1, bd2_s, lt_s1, lt_s1, nI_add, li 1, nI_add]
                  exact ⟨hlt, _, rfl, rfl, rfl, y2⟩
                · have hii : i = 6 := by omega
                  subst hii
                  left
                  rw [if_pos (by rw [nI_leI (by omega) (by omega)]; omega)]
                  exact ⟨_, rfl, rfl, e3⟩)
              dsimp only at y2 y3
              subst y2
              refine ⟨Y, ?_, y3.1⟩
              unfold f_Tide_read
              rw [li 4, c_isBelow (by omega), if_pos h1, bd_s, if_neg (by decide), rdRn hu (by omega), c_missing hX hO hu, if_neg c, bd_s, if_pos rfl, c_isBelow (by omega), if_pos h2, bd_s, if_neg (by decide), c_has hX.1 h0, if_pos h3, bd_s, if_neg (by decide), rdRn (by omega) (by omega), lt_s1]
              rw [show gI X (2 + 3 + 1 + t) (4 : Nat) = nI (aS A (23 + 6 * t + 4)) from hX.1.th ht (by omega), if_neg (by rw [li 2, nI_eq (by omega) (by omega)]; exact h4), lt_s1, (hX.2.2.2.2 u hu).2.1, a1, bd_s, rdRn (by omega) (by omega), b1, bd_s]
              exact y1
            · obtain ⟨⟨r, Y⟩, y1, y2, y3, y4⟩ := it_run (f := fun a => f_Model_read_b104 (nI u) (nI f) (nI t) (nI (aS A (23 + 6 * t))) (nI (aS A (23 + 6 * t + 2))) (nI (aS A (23 + 6 * t + 4))) a.1 a.2.1 a.2.2) (fun i a => a.1 = nI (sg (fun k => sg (tdn A u f t k) 16) i) ∧ a.2.1 = nI i ∧ RdM A X t a.2.2) (fun Y => Y.1 = nI (sg (fun k => sg (tdn A u f t k) 16) 6) ∧ RM Y.2 71 (aS A) ∧ Sm (fun k => k = 71 ∨ k = 73 ∨ k = 74) X Y.2) 6 (by omega) ((0 : Int32), (0 : Int32), X) ⟨rfl, rfl, aS A, hX.1, fun _ _ _ _ => rfl, Sm.rf⟩ (by
                intro i a hi ⟨e1, e2, e3⟩
                obtain ⟨x, y, Z⟩ := a
                dsimp only at e1 e2 e3 ⊢
                subst e1
                subst e2
                by_cases hlt : i < 6
                · right
                  obtain ⟨Y, y1, y2⟩ := m_cells (x5 := nI (aS A (23 + 6 * t))) (x6 := nI (aS A (23 + 6 * t + 2))) (x7 := nI (aS A (23 + 6 * t + 4))) (n := sg (fun k => sg (tdn A u f t k) 16) i) hO hX hu hf ht hlt e3
                  exact ⟨hlt, _, y1, rfl, rfl, y2⟩
                · have hii : i = 6 := by omega
                  subst hii
                  left
                  obtain ⟨v, z1, z2, z3⟩ := e3
                  unfold f_Model_read_b104
                  rw [li 5, if_pos (by rw [nI_ltI (by omega) (by omega)]; omega), show f_Model_at (nI t) (0 : Int32) = some (nI (23 + 6 * t)) from m_at (j := 0), bd_s, wrn (by omega) (by omega), li 2, m_at, bd_s, wrn (by omega) (by omega), li 4, m_at, bd_s, wrn (by omega) (by omega)]
                  refine ⟨_, rfl, rfl, (((z1.put).put).put).ext (fun j hj => ?_), ((z3.sI (Or.inl rfl)).sI (Or.inl rfl)).sI (Or.inl rfl)⟩
                  by_cases c4 : j = 23 + 6 * t + 4
                  · subst c4; rw [up_s]
                  · rw [up_n c4]
                    by_cases c2 : j = 23 + 6 * t + 2
                    · subst c2; rw [up_s]
                    · rw [up_n c2]
                      by_cases c0 : j = 23 + 6 * t
                      · subst c0; rw [up_s]
                      · rw [up_n c0]; exact z2 j c0 c2 c4)
              dsimp only at y2 y3 y4
              subst y2
              unfold f_Model_read f_Model_read_j37 f_Model_read_j58 f_Model_read_j60
              rw [m_wants hX hO hu, if_neg c, bd_s, if_pos rfl, m_isFamily, if_pos h2, bd_s, if_neg (by decide), m_isThing hX.1 h0, if_pos h3, bd_s, if_neg (by decide), if_pos rfl, li 2, m_isIt hX.1 (by omega) (by omega) (by omega), if_neg h4, bd_s, if_pos rfl, if_pos rfl, show f_Model_its (nI t) (0 : Int32) X = some (nI (aS A (23 + 6 * t))) from m_its hX.1 (j := 0) (by omega) (by omega), bd_s, m_its hX.1 (by omega) (by omega), bd_s, li 4, m_its hX.1 (by omega) (by omega), bd_s]
              exact ⟨Y, y1, hX.shore y3 y4⟩
        · refine act_bey hO (fun X hX => ?_) (fun X hX => ?_)
          · unfold f_Tide_read f_Tide_read_j58
            rw [li 4, c_isBelow (by omega), if_pos h1, bd_s, if_neg (by decide), rdRn hu (by omega), c_missing hX hO hu, if_neg c, bd_s, if_pos rfl, c_isBelow (by omega), if_pos h2, bd_s, if_neg (by decide), c_has hX.1 h0, if_neg h3, bd_s, if_pos rfl, bd2_id]
          · unfold f_Model_read f_Model_read_j35 f_Model_read_j37 f_Model_read_j58 f_Model_read_j60
            rw [m_wants hX hO hu, if_neg c, bd_s, if_pos rfl, m_isFamily, if_pos h2, bd_s, if_neg (by decide), m_isThing hX.1 h0, if_neg h3, bd_s, if_pos rfl, if_neg (by decide), if_neg (by decide), bd2_id]
      · refine act_bey hO (fun X hX => ?_) (fun X hX => ?_)
        · unfold f_Tide_read f_Tide_read_j58
          rw [li 4, c_isBelow (by omega), if_pos h1, bd_s, if_neg (by decide), rdRn hu (by omega), c_missing hX hO hu, if_neg c, bd_s, if_pos rfl, c_isBelow (by omega), if_neg h2, bd_s, if_pos rfl, bd2_id]
        · unfold f_Model_read f_Model_read_j35 f_Model_read_j37 f_Model_read_j58 f_Model_read_j60
          rw [m_wants hX hO hu, if_neg c, bd_s, if_pos rfl, m_isFamily, if_neg h2, bd_s, if_pos rfl, if_neg (by decide), if_neg (by decide), bd2_id]
  · refine act_bey hO (fun X hX => ?_) (fun X hX => ?_)
    · unfold f_Tide_read
      rw [li 4, c_isBelow (by omega), if_neg h1, bd_s, if_pos rfl, bd2_id]
    · unfold f_Model_read f_Model_read_j37 f_Model_read_j58 f_Model_read_j60
      rw [m_wantsN h1, bd_s, if_neg (by decide), bd_s, if_neg (by decide), if_neg (by decide), bd2_id]
