/-! read: what one kind and cell tells -/
def vw (s : Nat → Nat) (t k c : Nat) : Nat → Nat := up (up (up s (23 + 6 * t) k) (23 + 6 * t + 2) c) (23 + 6 * t + 4) 1
theorem vw_o {s : Nat → Nat} {t k c j : Nat} (h0 : j ≠ 23 + 6 * t) (h2 : j ≠ 23 + 6 * t + 2) (h4 : j ≠ 23 + 6 * t + 4) : vw s t k c j = s j := by
  unfold vw
  rw [up_n h4, up_n h2, up_n h0]
theorem vw_0 {s : Nat → Nat} {t k c : Nat} : vw s t k c (23 + 6 * t) = k := by
  unfold vw
  rw [up_n (by omega), up_n (by omega), up_s]
theorem vw_2 {s : Nat → Nat} {t k c : Nat} : vw s t k c (23 + 6 * t + 2) = c := by
  unfold vw
  rw [up_n (by omega), up_s]
theorem vw_4 {s : Nat → Nat} {t k c : Nat} : vw s t k c (23 + 6 * t + 4) = 1 := by
  unfold vw
  rw [up_s]
theorem vw_vr {D : Nat} {s : Nat → Nat} {t k c : Nat} (hg : Gd D s) (ht : t < s 0) (hk : k < 6) (hc : c < 16) : Gd D (vw s t k c) ∧ Vr s (vw s t k c) t := by
  obtain ⟨g0, g1, g2, g3, g4, g5⟩ := hg.2.2.2.2.2 t ht
  exact vr_of hg ht (fun j hj => vw_o (by omega) (by omega) (by omega)) (by rw [vw_0]; exact hk) (by rw [vw_2]; exact hc) (by rw [vw_o (by omega) (by omega) (by omega)]; exact g3) (by rw [vw_4]; omega)
theorem vw_tot {s : Nat → Nat} {t k c i : Nat} (hc : c < 16) : totT s (vw s t k c) i t = tot k (s (3 + c)) (tW s t) (s 2) (s 1) (1, s (23 + 6 * t + 5)) i := by
  have k1 : tK (vw s t k c) t = k := vw_0
  have k2 : tH (vw s t k c) t = s (3 + c) := by
    show vw s t k c (3 + vw s t k c (23 + 6 * t + 2)) = _
    rw [vw_2]
    exact vw_o (by omega) (by omega) (by omega)
  have k3 : tW (vw s t k c) t = tW s t := vw_o (by omega) (by omega) (by omega)
  have k4 : tQ (vw s t k c) t = (1, s (23 + 6 * t + 5)) := by
    show (vw s t k c (23 + 6 * t + 4), vw s t k c (23 + 6 * t + 5)) = _
    rw [vw_4, vw_o (by omega) (by omega) (by omega)]
  show tot (tK (vw s t k c) t) (tH (vw s t k c) t) (tW (vw s t k c) t) (s 2) (s 1) (tQ (vw s t k c) t) i = _
  rw [k1, k2, k3, k4]
theorem crs_t {D : Nat} {s : Nat → Nat} {f t i : Nat} (hg : Gd D s) (ht : t < s 0) : crs s f (nI t) i = if f = tF s t then rst s i t else pn s i f := by
  have h0 := hg.1
  unfold crs
  by_cases c : f = tF s t
  · subst c
    rw [if_pos rfl]
    unfold rst ot
    congr 2
    apply sg_cong
    intro x hx
    unfold trI totS
    by_cases c : x = t
    · rw [if_pos c, if_neg (fun q => q.2 (by rw [c]))]
    · rw [if_neg c]
      by_cases c2 : tF s x = tF s t
      · rw [if_pos ⟨c2, fun q => c ((nI_eq (by omega) (by omega)).mp q)⟩, if_pos c2]
      · rw [if_neg (fun q => c2 q.1), if_neg c2]
  · rw [if_neg c]
    unfold pn
    congr 2
    apply sg_cong
    intro x hx
    unfold trI totS
    by_cases c2 : tF s x = f
    · rw [if_pos c2, if_pos ⟨c2, fun q => c (by
        have e : x = t := (nI_eq (by omega) (by omega)).mp q
        rw [← e]; exact c2.symm)⟩]
    · rw [if_neg c2, if_neg (fun q => c2 q.1)]
theorem told_val {D : Nat} {s : Nat → Nat} {f t k c i m l b a : Nat} {p : Nat × Nat} (hg : Gd D s) (ht : t < s 0) (hk : k < 6) (hc : c < 16) (hf : f < 4) (hi : i ≤ m - 1) (hW : WS k (s (3 + c)) (s 1) (1, s (23 + 6 * t + 5)) (m - 1) l b a p) : (if b ≤ i then min 999999999 (crs s f (nI t) i + (if tF s t = f then tot k (s (3 + c)) (tW s t) (s 2) (s 1) (1, s (23 + 6 * t + 5)) (m - 1) else 0)) else crs s f (nI t) i) = pn (vw s t k c) i f := by
  obtain ⟨v1, v2⟩ := vw_vr hg ht hk hc
  have ea := ws_at (w := tW s t) (r := s 2) hW hi
  rw [pn_vr hg v2 ht hf, vw_tot hc, crs_t hg ht, ea]
  by_cases cf : f = tF s t
  · rw [if_pos cf, if_pos cf, if_pos cf.symm]
    by_cases cb : b ≤ i
    · rw [if_pos cb, if_pos cb, own_rst]
    · rw [if_neg cb, if_neg cb]
      unfold rst own
      rw [Nat.add_zero]
  · rw [if_neg cf, if_neg cf, if_neg (fun q : tF s t = f => cf q.symm), Nat.add_zero, Nat.min_eq_right pn_le, ite_self]
/-- a sheet tells a course -/
def Told (num : Nat → Int64) (g : Nat → Nat) (m : Nat) : Bool := decide (∀ i, i < m → num i = lN (g i))
theorem Told.iff {num : Nat → Int64} {g : Nat → Nat} {m : Nat} : Told num g m = true ↔ ∀ i, i < m → num i = lN (g i) := decide_eq_true_iff
theorem c_isCourse {Z : Mem} {u m b x : Nat} {num : Nat → Int64} {cs g : Nat → Nat} (hm : m ≤ 40) (hb : b ≤ 40) (hx : x ≤ 99999999) (h2 : gI Z (52 + 2 * u) 2 = nI m) (h3 : ∀ j, j < 40 → gL Z (52 + 2 * u + 1) j = num j) (hc : ∀ j, j < m → gI Z 49 j = nI (cs j) ∧ cs j ≤ 999999999) (hgv : ∀ j, j < m → (if b ≤ j then min 999999999 (cs j + x) else cs j) = g j) : f_Tide_isCourseWith (52 + 2 * u) (nI b) (nI x) Z = some (if Told num g m = true then 1 else 0) := by
  unfold f_Tide_isCourseWith
  obtain ⟨r, y1, y2⟩ := it_run (f := fun a => f_Tide_isCourseWith_b3 (52 + 2 * u) (nI b) (nI x) Z a) (fun i a => a = nI i ∧ ∀ j, j < i → num j = lN (g j)) (fun r => r = if Told num g m = true then 1 else 0) m (by omega) (0 : Int32) ⟨rfl, fun j hj => absurd hj (by omega)⟩ (by
    intro i a hi ⟨e1, e2⟩
    subst e1
    unfold f_Tide_isCourseWith_b3
    rw [lt_s1, h2]
    by_cases hlt : i < m
    · obtain ⟨c1, c2⟩ := hc i hlt
      have hg := hgv i hlt
      have hgl : g i ≤ 999999999 := by
        rw [← hg]
        split
        · exact Nat.min_le_left _ _
        · exact c2
      have hj : f_Tide_isCourseWith_j46 (52 + 2 * u) (nI b) (nI x) (nI i) (nI (g i)) Z = if num i = lN (g i) then some (.inr (nI (i + 1))) else some (.inl 0) := by
        unfold f_Tide_isCourseWith_j46
        rw [rdLn (by omega) (by omega), h3 i (by omega), ilN (by omega), lt_s1, show nI i + (1 : Int32) = nI (i + 1) from by rw [li 1, nI_add]]
        by_cases c : num i = lN (g i)
        · rw [if_pos (lc_eq.mpr c), if_pos c]
        · rw [if_neg (fun q => c (lc_eq.mp q)), if_neg c]
      have hE : (if nI i < nI b then (rdI Z 49 40 (nI i) fun v2 => f_Tide_isCourseWith_j46 (52 + 2 * u) (nI b) (nI x) (nI i) v2 Z) else (rdI Z 49 40 (nI i) fun v3 => bd (f_Tide_filled v3 (nI x)) fun v4 => f_Tide_isCourseWith_j46 (52 + 2 * u) (nI b) (nI x) (nI i) v4 Z)) = f_Tide_isCourseWith_j46 (52 + 2 * u) (nI b) (nI x) (nI i) (nI (g i)) Z := by
        rw [rdn (by omega) (by omega), rdn (by omega) (by omega), c1, c_filled c2 (by omega), bd_s, ← hg]
        by_cases cb : b ≤ i
        · rw [if_neg (by rw [nI_ltI (by omega) (by omega)]; omega), if_pos cb]
        · rw [if_pos (by rw [nI_ltI (by omega) (by omega)]; omega), if_neg cb]
      rw [if_neg (by rw [nI_leI (by omega) (by omega)]; omega), li 40, if_neg (by rw [nI_leI (by omega) (by omega)]; omega), hE, hj]
      by_cases c : num i = lN (g i)
      · right
        rw [if_pos c]
        refine ⟨hlt, _, rfl, rfl, fun j hj => ?_⟩
        by_cases cj : j = i
        · subst cj; exact c
        · exact e2 j (by omega)
      · left
        rw [if_neg c]
        refine ⟨_, rfl, ?_⟩
        rw [if_neg (fun q => c (Told.iff.mp q i hlt))]
    · left
      rw [if_pos (by rw [nI_leI (by omega) (by omega)]; omega)]
      refine ⟨_, rfl, ?_⟩
      rw [if_pos (Told.iff.mpr (fun j hj => e2 j (by omega)))])
  rw [y1, y2]
theorem c_ftrX {D : Nat} {X : Mem} {N : Int32} {s : Nat → Nat} (h : RC X 2 s) (hg : Gd D s) (hD : D ≤ 998000) {n k c : Nat} {q : Nat × Nat} (hN : fN N n) (hn : n ≤ 1000) (t0 : gI X 50 0 = nI k) (t2 : gI X 50 2 = nI c) (t4 : gI X 50 4 = nI q.1) (t5 : gI X 50 5 = nI q.2) (hk : k < 6) (hc : c < 16) (hq1 : q.1 ≤ 2) (hq2 : q.2 ≤ s 1) : ∃ Y l b a p, f_Tide_followTrial (0 : Int32) N X = some Y ∧ Sm (fun z => z = 51) X Y ∧ WF Y 51 l b a p ∧ WS k (s (3 + c)) (s 1) q n l b a p := by
  obtain ⟨h0, h1, h2, h3, h4, h5⟩ := hg
  have hh := h3 c hc
  obtain ⟨Y, l, b, a, r, y1, y2, y3, y4⟩ := c_followX (X := X) (W := 51) (T := 50) (k := k) (h := s (3 + c)) (d := s 1) (n := n) (q := q) hN (by omega) hk hh (by omega) hn hq1 hq2 t0 t4 t5
  unfold f_Tide_followTrial
  simp only [lt_s1]
  rw [t2, rdn hc (by omega), h.2.2.2.1 c hc, h.2.1, show nI (s 1) + (0 : Int32) = nI (s 1) from ad_z _, show N - (0 : Int32) = N from Int32.sub_zero N, y1, bd_s]
  exact ⟨Y, l, b, a, r, rfl, y2, y3, y4⟩
theorem m_isTold {D : Nat} {X : Mem} {v : Nat → Nat} {u f m : Nat} {num : Nat → Int64} (h : RM X 71 v) (hg : Gd D v) (hD : D ≤ 998000) (hu : u < 4) (hf : f < 4) (hm : m ≤ 40) (h2 : gI X 78 u = nI m) (h3 : ∀ j, j < 40 → gL X 79 (40 * u + j) = num j) : ∃ Y, f_Model_isTold (nI u) (nI f) X = some ((if Told num (fun i => pn v i f) m = true then 1 else 0), Y) ∧ RM Y 71 v ∧ Sm (fun k => k = 71 ∨ k = 73 ∨ k = 74) X Y := by
  have h0 := hg.1
  have hd := hg.2.1
  have hC : ∀ t, t < v 0 → v (23 + 6 * t + 2) < 16 := fun t ht => (hg.2.2.2.2.2 t ht).2.2.1
  obtain ⟨X2, a1, a2, a3⟩ := m_copyRow (B := 74) h (by omega)
  unfold f_Model_isTold
  rw [a1, bd_s]
  have hend : ∀ (x : Int32) (Z : Mem), (x = 0 ∨ x = 1) → RM Z 74 v → Sm (fun k => k = 71 ∨ k = 73 ∨ k = 74) X Z → ∃ Y, f_Model_isTold_j73 x Z = some (x, Y) ∧ RM Y 71 v ∧ Sm (fun k => k = 71 ∨ k = 73 ∨ k = 74) X Y := by
    intro x Z hx hR hS
    obtain ⟨X7, c1, c2, c3⟩ := m_copyRow (B := 71) hR (by omega)
    unfold f_Model_isTold_j73 ckZ
    rw [c1, bd_s, if_pos hx]
    exact ⟨X7, rfl, c2, hS.tr (c3.mono (fun k q => Or.inl q))⟩
  obtain ⟨⟨r, Y⟩, y1, y2, y3, y4⟩ := it_run (f := fun a => f_Model_isTold_b16 (nI u) (nI f) a.1 a.2.1 a.2.2) (fun i a => a.2.1 = nI i ∧ ((a.1 = 1 ∧ ∀ j, j < i → num j = lN (pn v j f)) ∨ (a.1 = 0 ∧ ¬ Told num (fun i => pn v i f) m = true)) ∧ ∃ w, RM a.2.2 71 w ∧ Aft v i w ∧ RM a.2.2 74 v ∧ Sm (fun k => k = 71 ∨ k = 73 ∨ k = 74) X a.2.2) (fun Y => Y.1 = (if Told num (fun i => pn v i f) m = true then 1 else 0) ∧ RM Y.2 71 v ∧ Sm (fun k => k = 71 ∨ k = 73 ∨ k = 74) X Y.2) m (by omega) ((1 : Int32), (0 : Int32), X2) ⟨rfl, Or.inl ⟨rfl, fun j hj => absurd hj (by omega)⟩, v, h.sm a3 (by omega), Aft.z hg, a2, a3.mono (fun k q => Or.inr (Or.inr q))⟩ (by
    intro i a hi ⟨e1, e2, w, e3, e4, e5, e6⟩
    obtain ⟨x, y, Z⟩ := a
    dsimp only at e1 e2 e3 e4 e5 e6 ⊢
    subst e1
    unfold f_Model_isTold_b16
    rw [rdn hu (by omega), (e6 78 (by omega)).1, h2]
    rcases e2 with ⟨rfl, e2⟩ | ⟨rfl, e2⟩
    · obtain ⟨Y, k1, k2, k3⟩ := hend 1 Z (Or.inr rfl) e5 e6
      by_cases hlt : i < m
      · right
        have ew : w (19 + f) = pn v i f := e4.2.2.2.2.2.2 f hf
        have hp : pn v i f ≤ 999999999 := pn_le
        obtain ⟨Y2, w2, d1, d2, d3, d4⟩ := m_day e3 (e4.gd hg) (by omega)
        have hj : ∀ q0 : Int32, f_Model_isTold_j62 (nI u) (nI f) (nI i) q0 Z = some (.inr (q0, nI (i + 1), Y2)) := fun q0 => by
          unfold f_Model_isTold_j62
          rw [d1, bd_s, lt_s1, li 1, nI_add]
        rw [if_neg (by rw [nI_leI (by omega) (by omega)]; omega), if_neg (by decide), li 40, pk_mul, nI_add, rdLn (by omega) (by omega), (e6 79 (by omega)).2, h3 i (by omega), li 19, nI_add, e3.rd (by omega), ew, ilN (by omega), hj, hj]
        by_cases c : num i = lN (pn v i f)
        · rw [if_pos (lc_eq.mpr c)]
          refine ⟨hlt, _, rfl, rfl, Or.inl ⟨rfl, fun j hj => ?_⟩, w2, d2, e4.add hC d3, e5.sm d4 (by omega), e6.tr (d4.mono (fun k q => Or.inl q))⟩
          by_cases cj : j = i
          · subst cj; exact c
          · exact e2 j (by omega)
        · rw [if_neg (fun q => c (lc_eq.mp q))]
          exact ⟨hlt, _, rfl, rfl, Or.inr ⟨rfl, fun q => c (Told.iff.mp q i hlt)⟩, w2, d2, e4.add hC d3, e5.sm d4 (by omega), e6.tr (d4.mono (fun k q => Or.inl q))⟩
      · left
        rw [if_pos (by rw [nI_leI (by omega) (by omega)]; omega), k1]
        refine ⟨_, rfl, ?_, k2, k3⟩
        rw [if_pos (Told.iff.mpr (fun j hj => e2 j (by omega)))]
    · obtain ⟨Y, k1, k2, k3⟩ := hend 0 Z (Or.inl rfl) e5 e6
      left
      rw [if_pos (rfl : (0 : Int32) = 0), k1, upc_s, ite_self]
      refine ⟨_, rfl, ?_, k2, k3⟩
      rw [if_neg e2])
  dsimp only at y2 y3 y4
  subst y2
  exact ⟨Y, y1, y3, y4⟩
