def kdg (s : Nat → Nat) (n t i : Nat) : Nat := own s n t (tot i (tH s t) (tW s t) (s 2) (s 1) (tQ s t) n)
theorem op_kind {A : Ab} (hO : Ok A) (p1 p2 : Int32) : Act (f_Tide_kind p1 p2) (f_Model_kind p1 p2) A := by
  have hg := hO.1
  have h0 := hg.1
  have hd := hg.2.1
  by_cases h1 : 0 ≤ p1.toInt ∧ p1.toInt < (aS A 0 : Int)
  · by_cases h2 : (1 : Int) ≤ p2.toInt ∧ p2.toInt ≤ ((100 : Nat) : Int)
    · obtain ⟨t, ht, rfl⟩ := ofr h1
      obtain ⟨n, hn, rfl⟩ := ofr (p := p2) (n := 101) (by omega)
      obtain ⟨g0, g1, g2, g3, g4, g5⟩ := hg.2.2.2.2.2 t ht
      refine act_tell hO (r := nI (bst (kdg (aS A) n t) 6)) (fun X hX => ?_) (fun X hX => ?_)
      · obtain ⟨X9, a1, a2, a3, a4⟩ := c_tryOn (n := n) hX.1 hg (by omega) ht (by omega)
        have key : ∃ Y, it (fun a => f_Tide_kind_b44 (nI n) (nI (rst (aS A) n t)) a.1 a.2.1 a.2.2.1 a.2.2.2) FU ((0 : Int32), (-1 : Int32), (0 : Int32), X9) = some (nI (bst (kdg (aS A) n t) 6), Y) ∧ Sm scN X Y := by
          refine am_c (kdg (aS A) n t) (fun i => own_le) (N := 6) (by omega) (fun Z => RC Z 2 (aS A) ∧ (∀ j, j < 6 → 0 < j → gI Z 50 j = nI (aS A (23 + 6 * t + j))) ∧ Sm scN X Z) (fun Z => Sm scN X Z) ⟨a2, fun j hj _ => a3 j hj, a4⟩ (fun i Z b m hi hZ => ?_) (fun Z b m hZ => ?_)
          · obtain ⟨z1, z2, z5⟩ := hZ
            have hS2 : Sm (fun k => k = 50) Z (sI Z 50 0 (nI i)) := sm_s1 Sm.rf
            have fj : ∀ j, j < 6 → 0 < j → gI (sI Z 50 0 (nI i)) 50 j = nI (aS A (23 + 6 * t + j)) := fun j hj h0 => by rw [gsI, if_neg (by omega)]; exact z2 j hj h0
            obtain ⟨Y, y1, y2⟩ := c_pwt (X := sI Z 50 0 (nI i)) (z1.sm h0 hS2 (by omega)) hg (by omega) (n := n) (i := 0) (p := rst (aS A) n t) (k := i) (c := tC (aS A) t) (w := tW (aS A) t) (q := tQ (aS A) t) (by omega) (by omega) rst_le (by rw [gsI, if_pos ⟨rfl, rfl⟩]) (fj 2 (by omega) (by omega)) (fj 3 (by omega) (by omega)) (fj 4 (by omega) (by omega)) (fj 5 (by omega) (by omega)) hi g2 g3 g4 g5
            have hS3 : Sm (fun k => k = 50 ∨ k = 51) Z Y := (hS2.mono (fun k q => Or.inl q)).tr (y2.mono (fun k q => Or.inr q))
            refine ⟨Y, ⟨z1.sm h0 hS3 (by omega), fun j hj j0 => ((y2 50 (by omega)).1 j).trans (fj j hj j0), z5.tr (hS3.mono (fun k q => by unfold scN; omega))⟩, ?_⟩
            rw [own_rst] at y1
            have y1' : f_Tide_purseWithTrial (nI (rst (aS A) n t)) (0 : Int32) (nI n) (sI Z 50 0 (nI i)) = some (nI (kdg (aS A) n t i), Y) := y1
            show f_Tide_kind_b44 (nI n) (nI (rst (aS A) n t)) b m (nI i) Z = _
            unfold f_Tide_kind_b44 f_Tide_kind_j84
            simp only [lt_s1]
            rw [li 6, if_neg (by rw [nI_leI (by omega) (by omega)]; omega), y1', bd2_s, show nI i + (1 : Int32) = nI (i + 1) from by rw [li 1, nI_add]]
            by_cases c : nI (kdg (aS A) n t i) ≤ m
            · rw [if_pos c, if_pos c]
            · rw [if_neg c, if_neg c]
          · refine ⟨Z, hZ.2.2, ?_⟩
            show f_Tide_kind_b44 (nI n) (nI (rst (aS A) n t)) b m (nI 6) Z = _
            unfold f_Tide_kind_b44
            rw [li 6, if_pos (by rw [nI_leI (by omega) (by omega)]; omega)]
        obtain ⟨Y, y1, y2⟩ := key
        unfold f_Tide_kind
        rw [c_has hX.1 h0, if_pos h1, bd_s, if_neg (by decide), li 100, c_isUpTo1 (by omega), if_pos h2, bd_s, if_neg (by decide), a1, bd2_s]
        exact ⟨Y, y1, y2⟩
      · have key : ∃ Y, it (fun a => f_Model_kind_b45 (nI t) (nI n) (nI (aS A (23 + 6 * t))) a.1 a.2.1 a.2.2.1 a.2.2.2) FU ((0 : Int32), (-1 : Int64), (0 : Int32), X) = some (nI (bst (kdg (aS A) n t) 6), Y) ∧ (RM Y 71 (aS A) ∧ Sm (fun k => k = 71 ∨ k = 73 ∨ k = 74) X Y) := by
          refine am_m (kdg (aS A) n t) (fun i => own_le) (C := cst (aS A) n t) cst_le (N := 6) (by omega) (fun Z => ∃ u, RM Z 71 u ∧ (∀ j, j ≠ 23 + 6 * t → u j = aS A j) ∧ Sm (fun k => k = 71 ∨ k = 73 ∨ k = 74) X Z) (fun Z => RM Z 71 (aS A) ∧ Sm (fun k => k = 71 ∨ k = 73 ∨ k = 74) X Z) ⟨aS A, hX.1, fun _ _ => rfl, Sm.rf⟩ (fun i Z b m hi hZ => ?_) (fun Z b m hZ => ?_)
          · obtain ⟨u, z1, z2, z3⟩ := hZ
            have l2 : RM (sI Z 71 (23 + 6 * t) (nI i)) 71 (up u (23 + 6 * t) i) := z1.put
            generalize hu2 : up u (23 + 6 * t) i = u2 at l2
            have e0 : u2 (23 + 6 * t) = i := by rw [← hu2, up_s]
            have eo : ∀ j, j ≠ 23 + 6 * t → u2 j = aS A j := fun j j1 => by rw [← hu2, up_n j1]; exact z2 j j1
            obtain ⟨v1, v2⟩ := vr_of (u := u2) hg ht (fun j hj => eo j (by omega)) (by omega) (by rw [eo _ (by omega)]; exact g2) (by rw [eo _ (by omega)]; exact g3) (by rw [eo _ (by omega)]; exact g4)
            obtain ⟨Y, y1, y2, y3⟩ := m_pursesOn (n := n) l2 v1 (by omega) (by omega)
            have ev : totT (aS A) u2 n t = tot i (tH (aS A) t) (tW (aS A) t) (aS A 2) (aS A 1) (tQ (aS A) t) n := by
              have k1 : tK u2 t = i := e0
              have k2 : tH u2 t = tH (aS A) t := by
                show u2 (3 + u2 (23 + 6 * t + 2)) = _
                rw [eo (23 + 6 * t + 2) (by omega)]
                exact eo _ (by omega)
              have k3 : tW u2 t = tW (aS A) t := eo _ (by omega)
              have k4 : tQ u2 t = tQ (aS A) t := by
                show (u2 (23 + 6 * t + 4), u2 (23 + 6 * t + 5)) = _
                rw [eo (23 + 6 * t + 4) (by omega), eo (23 + 6 * t + 5) (by omega)]
              show tot (tK u2 t) (tH u2 t) (tW u2 t) (aS A 2) (aS A 1) (tQ u2 t) n = _
              rw [k1, k2, k3, k4]
            rw [sum_vr hg v2 ht, ev] at y1
            have y1' : f_Model_pursesOn (nI n) (sI Z 71 (23 + 6 * t) (nI i)) = some (lN (cst (aS A) n t + kdg (aS A) n t i), Y) := y1
            refine ⟨Y, ⟨u2, y2, eo, (z3.sI (Or.inl rfl)).tr y3⟩, ?_⟩
            show f_Model_kind_b45 (nI t) (nI n) (nI (aS A (23 + 6 * t))) b m (nI i) Z = _
            unfold f_Model_kind_b45 f_Model_kind_j85 f_Model_kind_j102
            simp only [lt_s1]
            rw [li 5, if_neg (by rw [nI_ltI (by omega) (by omega)]; omega), show f_Model_at (nI t) (0 : Int32) = some (nI (23 + 6 * t)) from m_at (j := 0), bd_s, wrn (by omega) (by omega), y1', bd2_s, show nI i + (1 : Int32) = nI (i + 1) from by rw [li 1, nI_add]]
            by_cases c : lg_cmp (lN (cst (aS A) n t + kdg (aS A) n t i)) m ≤ 0
            · rw [if_pos c, if_pos c, if_pos c]
            · rw [if_neg c, if_neg c, if_neg c]
          · obtain ⟨u, z1, z2, z3⟩ := hZ
            refine ⟨sI Z 71 (23 + 6 * t) (nI (aS A (23 + 6 * t))), ⟨(z1.put).ext (fun j hj => ?_), z3.sI (Or.inl rfl)⟩, ?_⟩
            · by_cases c : j = 23 + 6 * t
              · subst c; rw [up_s]
              · rw [up_n c]; exact z2 j c
            · show f_Model_kind_b45 (nI t) (nI n) (nI (aS A (23 + 6 * t))) b m (nI 6) Z = _
              unfold f_Model_kind_b45
              rw [li 5, if_pos (by rw [nI_ltI (by omega) (by omega)]; omega), show f_Model_at (nI t) (0 : Int32) = some (nI (23 + 6 * t)) from m_at (j := 0), bd_s, wrn (by omega) (by omega)]
        obtain ⟨Y, y1, y2, y3⟩ := key
        unfold f_Model_kind
        rw [m_isThing hX.1 h0, if_pos h1, bd_s, if_neg (by decide), lL 100, m_isIn1 (by omega), if_pos h2, bd_s, if_neg (by decide), show f_Model_its (nI t) (0 : Int32) X = some (nI (aS A (23 + 6 * t))) from m_its hX.1 (j := 0) (by omega) (by omega), bd_s]
        exact ⟨Y, y1, hX.shore y2 y3⟩
    · refine act_bey hO (fun X hX => ?_) (fun X hX => ?_)
      · unfold f_Tide_kind f_Tide_kind_j21
        rw [c_has hX.1 h0, if_pos h1, bd_s, if_neg (by decide), li 100, c_isUpTo1 (by omega), if_neg h2, bd_s, if_pos rfl, bd2_id]
      · unfold f_Model_kind f_Model_kind_j20
        rw [m_isThing hX.1 h0, if_pos h1, bd_s, if_neg (by decide), lL 100, m_isIn1 (by omega), if_neg h2, bd_s, if_pos rfl, bd2_id]
  · refine act_bey hO (fun X hX => ?_) (fun X hX => ?_)
    · unfold f_Tide_kind f_Tide_kind_j21
      rw [c_has hX.1 h0, if_neg h1, bd_s, if_pos rfl, bd2_id]
    · unfold f_Model_kind f_Model_kind_j20
      rw [m_isThing hX.1 h0, if_neg h1, bd_s, if_pos rfl, bd2_id]
/-! delay -/
def dlg (s : Nat → Nat) (n t c i : Nat) : Nat := own s n t (tot (tK s t) (s (3 + c)) (tW s t) (s 2) (s 1 + i) (1, s (23 + 6 * t + 5)) (n - i))
theorem dl_purse {D : Nat} {s u w : Nat → Nat} {t c k n f : Nat} (hg : Gd D s) (ht : t < s 0) (hc : c < 16) (hk : k ≤ n) (hu : Aft (up s (23 + 6 * t + 4) 0) k u) (hw : Aft (up (up u (23 + 6 * t + 2) c) (23 + 6 * t + 4) 1) (n - k) w) (hf : f < 4) : w (19 + f) = if f = tF s t then dlg s n t c k else pn s n f := by
  obtain ⟨h0, h1, h2, h3, h4, h5⟩ := hg
  generalize hs1 : up s (23 + 6 * t + 4) 0 = s1 at hu
  generalize hu2 : up (up u (23 + 6 * t + 2) c) (23 + 6 * t + 4) 1 = u2 at hw
  have eS : ∀ j, j ≠ 23 + 6 * t + 4 → s1 j = s j := fun j hj => by rw [← hs1, up_n hj]
  have eS4 : s1 (23 + 6 * t + 4) = 0 := by rw [← hs1, up_s]
  have eU : ∀ j, j ≠ 23 + 6 * t + 2 → j ≠ 23 + 6 * t + 4 → u2 j = u j := fun j j1 j2 => by rw [← hu2, up_n j2, up_n j1]
  have eU2 : u2 (23 + 6 * t + 2) = c := by rw [← hu2, up_n (by omega), up_s]
  have eU4 : u2 (23 + 6 * t + 4) = 1 := by rw [← hu2, up_s]
  obtain ⟨a0, a1, a2, a3, a4, a5, a6⟩ := hu
  obtain ⟨b0, b1, b2, b3, b4, b5, b6⟩ := hw
  have s0 : s1 0 = s 0 := eS 0 (by omega)
  have u0 : u2 0 = s 0 := (eU 0 (by omega) (by omega)).trans (a0.trans s0)
  have u1 : u2 1 = s 1 + k := by rw [eU 1 (by omega) (by omega), a1, eS 1 (by omega)]
  have u22 : u2 2 = s 2 := by rw [eU 2 (by omega) (by omega), a2, eS 2 (by omega)]
  rw [b6 f hf, eU (19 + f) (by omega) (by omega), a6 f hf, min_add, eS (19 + f) (by omega), s0, u0, ← sg_add, sg_pick _ ht]
  have hh : ∀ j, j < 16 → u2 (3 + j) = s (3 + j) := fun j hj => by
    rw [eU (3 + j) (by omega) (by omega), a3 j (Or.inl hj), eS (3 + j) (by omega)]
  have eA : ∀ x, x < s 0 → x ≠ t → totS s1 k f x + totS u2 (n - k) f x = totS s n f x := by
    intro x hx hne
    obtain ⟨g0, g1, g2, g3, g4, g5⟩ := h5 x hx
    obtain ⟨c0, c1, c2, c3⟩ := a4 x (by omega)
    have p0 : tK s1 x = tK s x := eS _ (by omega)
    have p1 : tF s1 x = tF s x := eS _ (by omega)
    have p2 : tC s1 x = tC s x := eS _ (by omega)
    have p3 : tW s1 x = tW s x := eS _ (by omega)
    have p4 : tQ s1 x = tQ s x := by
      show (s1 (23 + 6 * x + 4), s1 (23 + 6 * x + 5)) = (s (23 + 6 * x + 4), s (23 + 6 * x + 5))
      rw [eS (23 + 6 * x + 4) (by omega), eS (23 + 6 * x + 5) (by omega)]
    have pH : tH s1 x = tH s x := by
      show s1 (3 + tC s1 x) = s (3 + tC s x)
      rw [p2]
      exact eS _ (by have : tC s x < 16 := g2; omega)
    have q0 : tK u2 x = tK s x := (eU _ (by omega) (by omega)).trans (c0.trans p0)
    have q1 : tF u2 x = tF s x := (eU _ (by omega) (by omega)).trans (c1.trans p1)
    have q2 : tC u2 x = tC s x := (eU _ (by omega) (by omega)).trans (c2.trans p2)
    have q3 : tW u2 x = tW s x := (eU _ (by omega) (by omega)).trans (c3.trans p3)
    have q4 : tQ u2 x = ev (tK s x) (tH s x) (s 1) (tQ s x) k := by
      have := a5 x (by omega)
      rw [p0, pH, p4, eS 1 (by omega)] at this
      rw [← this]
      show (u2 (23 + 6 * x + 4), u2 (23 + 6 * x + 5)) = (u (23 + 6 * x + 4), u (23 + 6 * x + 5))
      rw [eU (23 + 6 * x + 4) (by omega) (by omega), eU (23 + 6 * x + 5) (by omega) (by omega)]
    have qH : tH u2 x = tH s x := by
      show u2 (3 + tC u2 x) = s (3 + tC s x)
      rw [q2]
      exact hh _ g2
    unfold totS
    rw [p1, q1]
    by_cases cf : tF s x = f
    · rw [if_pos cf, if_pos cf, if_pos cf, p0, pH, p3, p4, q0, qH, q3, q4, u1, u22, eS 1 (by omega), eS 2 (by omega), ← tot_add, show k + (n - k) = n from by omega]
    · rw [if_neg cf, if_neg cf, if_neg cf]
  have eB : sg (fun x => if x = t then 0 else totS s1 k f x + totS u2 (n - k) f x) (s 0) = sg (fun x => if x = t then 0 else totS s n f x) (s 0) := sg_cong (fun x hx => by
    by_cases cx : x = t
    · rw [if_pos cx, if_pos cx]
    · rw [if_neg cx, if_neg cx, eA x hx cx])
  have eT : totS s1 k f t + totS u2 (n - k) f t = if f = tF s t then tot (tK s t) (s (3 + c)) (tW s t) (s 2) (s 1 + k) (1, s (23 + 6 * t + 5)) (n - k) else 0 := by
    obtain ⟨g0, g1, g2, g3, g4, g5⟩ := h5 t ht
    obtain ⟨c0, c1, c2, c3⟩ := a4 t (by omega)
    have p0 : tK s1 t = tK s t := eS _ (by omega)
    have p1 : tF s1 t = tF s t := eS _ (by omega)
    have p3 : tW s1 t = tW s t := eS _ (by omega)
    have q0 : tK u2 t = tK s t := (eU _ (by omega) (by omega)).trans (c0.trans p0)
    have q1 : tF u2 t = tF s t := (eU _ (by omega) (by omega)).trans (c1.trans p1)
    have q3 : tW u2 t = tW s t := (eU _ (by omega) (by omega)).trans (c3.trans p3)
    have qH : tH u2 t = s (3 + c) := by
      show u2 (3 + u2 (23 + 6 * t + 2)) = s (3 + c)
      rw [eU2]
      exact hh c hc
    have st := still (tK s1 t) (tH s1 t) (s1 1) (tQ s1 t) k (fun j _ => sp0 eS4)
    have q4 : tQ u2 t = (1, s (23 + 6 * t + 5)) := by
      have e5 := a5 t (by omega)
      rw [st.1] at e5
      have e6 : u (23 + 6 * t + 5) = s1 (23 + 6 * t + 5) := congrArg Prod.snd e5
      show (u2 (23 + 6 * t + 4), u2 (23 + 6 * t + 5)) = _
      rw [eU4, eU (23 + 6 * t + 5) (by omega) (by omega), e6, eS (23 + 6 * t + 5) (by omega)]
    unfold totS
    rw [p1, q1]
    by_cases cf : tF s t = f
    · rw [if_pos cf, if_pos cf, if_pos cf.symm, st.2, Nat.zero_add, q0, qH, q3, q4, u1, u22]
    · rw [if_neg cf, if_neg cf, if_neg (fun q => cf q.symm)]
  rw [eB, eT]
  by_cases cf : f = tF s t
  · subst cf
    rw [if_pos rfl, if_pos rfl]
    unfold dlg own ot
    exact congrArg (min 999999999) (Nat.add_assoc _ _ _).symm
  · rw [if_neg cf, if_neg cf]
    unfold pn
    rw [sg_pick (totS s n f) ht]
    have e2 : totS s n f t = 0 := by
      unfold totS
      rw [if_neg (fun q => cf q.symm)]
    rw [e2]
