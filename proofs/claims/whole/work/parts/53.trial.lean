/-! one thing tried otherwise -/
theorem sg_pick (g : Nat → Nat) {t : Nat} : ∀ {n : Nat}, t < n → sg g n = sg (fun x => if x = t then 0 else g x) n + g t
  | 0, h => absurd h (by omega)
  | n + 1, h => by
    rw [sg, sg]
    by_cases c : t = n
    · subst c
      rw [if_pos rfl, sg_cong (g := fun x => if x = t then 0 else g x) (h := g) (fun k hk => if_neg (by omega))]
      omega
    · rw [if_neg (fun e => c e.symm), sg_pick g (by omega : t < n)]
      omega
/-- what the others of the family bring -/
def ot (s : Nat → Nat) (n t : Nat) : Nat := sg (fun x => if x = t then 0 else totS s n (tF s t) x) (s 0)
def rst (s : Nat → Nat) (n t : Nat) : Nat := min 999999999 (s (19 + tF s t) + ot s n t)
def own (s : Nat → Nat) (n t v : Nat) : Nat := min 999999999 (s (19 + tF s t) + ot s n t + v)
theorem own_rst {s : Nat → Nat} {n t v : Nat} : min 999999999 (rst s n t + v) = own s n t v := by unfold rst own; omega
theorem own_le {s : Nat → Nat} {n t v : Nat} : own s n t v ≤ 999999999 := Nat.min_le_left _ _
theorem rst_le {s : Nat → Nat} {n t : Nat} : rst s n t ≤ 999999999 := Nat.min_le_left _ _
theorem c_tryOn {D : Nat} {X : Mem} {s : Nat → Nat} (h : RC X 2 s) (hg : Gd D s) (hD : D ≤ 998000) {t n : Nat} (ht : t < s 0) (hn : n ≤ 1000) : ∃ Y, f_Tide_tryOn (nI t) (nI n) X = some (nI (rst s n t), Y) ∧ RC Y 2 s ∧ (∀ j, j < 6 → gI Y 50 j = nI (s (23 + 6 * t + j))) ∧ Sm scN X Y := by
  have h0 := hg.1
  obtain ⟨g0, g1, g2, g3, g4, g5⟩ := hg.2.2.2.2.2 t ht
  obtain ⟨X3, a1, a2, a3⟩ := c_tbecome (X := X) (a := 50) (b := (2 + 3) + 1 + t) (by omega)
  have h3 : RC X3 2 s := h.sm h0 a3 (by omega)
  obtain ⟨X5, b1, b2, b3⟩ := c_followAll (n := n) h3 hg (by omega) hn
  have h5 : RC X5 2 s := h3.sm h0 b3 (by omega)
  have hT : ∀ j, j < 6 → gI X5 50 j = nI (s (23 + 6 * t + j)) := fun j hj => ((b3 50 (by omega)).1 j).trans ((a2 j hj).trans (h.th ht hj))
  have e : sg (trI s n (s (23 + 6 * t + 1)) (s 2) (nI t)) (s 0) = ot s n t := by
    unfold ot
    apply sg_cong
    intro x hx
    unfold trI totS
    by_cases c : x = t
    · rw [if_pos c, if_neg (fun q => q.2 (by rw [c]))]
    · rw [if_neg c]
      by_cases c2 : tF s x = tF s t
      · rw [if_pos ⟨c2, fun q => c ((nI_eq (by omega) (by omega)).mp q)⟩, if_pos c2]
      · rw [if_neg (fun q => c2 q.1), if_neg c2]
  unfold f_Tide_tryOn
  rw [rdRn (by omega) (by omega), a1, bd_s, b1, bd_s, lt_s1, lt_s1, hT 1 (by omega), h5.2.2.1, c_purseThen h5 hg hD g1 hn hg.2.2.1 b2, bd_s, e]
  exact ⟨X5, rfl, h5, hT, (a3.mono (fun z hz => by unfold scN; omega)).tr (b3.mono (fun z hz => by unfold scN; omega))⟩
theorem c_ftr {D : Nat} {X : Mem} {s : Nat → Nat} (h : RC X 2 s) (hg : Gd D s) (hD : D ≤ 998000) {n i k c : Nat} {q : Nat × Nat} (hi : i ≤ n) (hn : n ≤ 1000) (t0 : gI X 50 0 = nI k) (t2 : gI X 50 2 = nI c) (t4 : gI X 50 4 = nI q.1) (t5 : gI X 50 5 = nI q.2) (hk : k < 6) (hc : c < 16) (hq1 : q.1 ≤ 2) (hq2 : q.2 ≤ s 1 + i) : ∃ Y l b a p, f_Tide_followTrial (nI i) (nI n) X = some Y ∧ Sm (fun z => z = 51) X Y ∧ WF Y 51 l b a p ∧ WS k (s (3 + c)) (s 1 + i) q (n - i) l b a p := by
  obtain ⟨h0, h1, h2, h3, h4, h5⟩ := hg
  have hh := h3 c hc
  obtain ⟨Y, l, b, a, r, y1, y2, y3, y4⟩ := c_follow (X := X) (W := 51) (T := 50) (k := k) (h := s (3 + c)) (d := s 1 + i) (n := n - i) (q := q) (by omega) hk hh (by omega) (by omega) hq1 hq2 t0 t4 t5
  unfold f_Tide_followTrial
  simp only [lt_s1]
  rw [t2, rdn hc (by omega), h.2.2.2.1 c hc, h.2.1, nI_add, pk_sub hi, y1, bd_s]
  exact ⟨Y, l, b, a, r, rfl, y2, y3, y4⟩
theorem ws_brings {k h d n l b a w r : Nat} {q p : Nat × Nat} (hW : WS k h d q n l b a p) (hq1 : q.1 ≤ 2) (hq2 : q.2 ≤ d) : (if 0 < b then rp k w r p.2 a else 0) = tot k h w r d q n ∧ tot k h w r d q n ≤ 99999999 ∧ p.2 ≤ d + n ∧ a ≤ d + n ∧ b ≤ n := by
  obtain ⟨v1, v2, v3, v4, v5, v6, v7⟩ := hW
  have hp2 : p.2 ≤ d + n := by rw [v1]; exact ev_2 hq1 hq2 _
  have e := v5 n (Nat.le_refl _) w r
  have e2 : (if 0 < b then rp k w r p.2 a else 0) = tot k h w r d q n := by
    rw [e]
    by_cases d : 0 < b
    · rw [if_pos d, if_pos ⟨d, v3⟩]
    · rw [if_neg d, if_neg (fun q => d q.1)]
  refine ⟨e2, ?_, hp2, v4, v3⟩
  rw [← e2]
  split
  · exact rp_le
  · omega
theorem c_pwt {D : Nat} {X : Mem} {s : Nat → Nat} (h : RC X 2 s) (hg : Gd D s) (hD : D ≤ 998000) {n i p k c w : Nat} {q : Nat × Nat} (hi : i ≤ n) (hn : n ≤ 1000) (hp : p ≤ 999999999) (t0 : gI X 50 0 = nI k) (t2 : gI X 50 2 = nI c) (t3 : gI X 50 3 = nI w) (t4 : gI X 50 4 = nI q.1) (t5 : gI X 50 5 = nI q.2) (hk : k < 6) (hc : c < 16) (hw : w ≤ 9999) (hq1 : q.1 ≤ 2) (hq2 : q.2 ≤ s 1 + i) : ∃ Y, f_Tide_purseWithTrial (nI p) (nI i) (nI n) X = some (nI (min 999999999 (p + tot k (s (3 + c)) w (s 2) (s 1 + i) q (n - i))), Y) ∧ Sm (fun z => z = 51) X Y := by
  obtain ⟨Y, l, b, a, r, y1, y2, y3, y4⟩ := c_ftr h hg hD hi hn t0 t2 t4 t5 hk hc hq1 hq2
  obtain ⟨e1, e2, e3, e4, e5⟩ := ws_brings (w := w) (r := s 2) y4 hq1 hq2
  have g1 := hg.2.1
  unfold f_Tide_purseWithTrial
  simp only [lt_s1]
  rw [y1, bd_s, ((y2 2 (by omega)).1 5), h.2.2.1, c_brings y3 (((y2 50 (by omega)).1 0).trans t0) (((y2 50 (by omega)).1 3).trans t3) hk hw hg.2.2.1 (by omega) (by omega) (by omega), bd_s, e1, c_filled hp (by omega), bd_s]
  exact ⟨Y, rfl, y2⟩
/-! the best of some tries -/
theorem am_c {f : Int32 × Int32 × Int32 × Mem → Option ((Int32 × Mem) ⊕ (Int32 × Int32 × Int32 × Mem))} (g : Nat → Nat) (hb : ∀ i, g i ≤ 999999999) {N : Nat} (hN : N < 5000) (P Q : Mem → Prop) {X : Mem} (hX : P X) (hs : ∀ i Z b m, i < N → P Z → ∃ Y, P Y ∧ f (b, m, nI i, Z) = some (.inr (if nI (g i) ≤ m then (b, m, nI (i + 1), Y) else (nI i, nI (g i), nI (i + 1), Y)))) (he : ∀ Z b m, P Z → ∃ Y, Q Y ∧ f (b, m, nI N, Z) = some (.inl (b, Y))) : ∃ Y, it f FU ((0 : Int32), (-1 : Int32), (0 : Int32), X) = some (nI (bst g N), Y) ∧ Q Y := by
  obtain ⟨⟨r, Y⟩, y1, y2, y3⟩ := it_run (f := f) (fun i a => a.1 = nI (bst g i) ∧ a.2.1 = (if i = 0 then (-1 : Int32) else nI (g (bst g i))) ∧ a.2.2.1 = nI i ∧ P a.2.2.2) (fun Y => Y.1 = nI (bst g N) ∧ Q Y.2) N hN ((0 : Int32), (-1 : Int32), (0 : Int32), X) ⟨rfl, rfl, rfl, hX⟩ (by
    intro i a hi ⟨e1, e2, e3, e4⟩
    obtain ⟨b, m, x, Z⟩ := a
    dsimp only at e1 e2 e3 e4 ⊢
    subst e1
    subst e3
    by_cases h : i < N
    · right
      obtain ⟨Y, y1, y2⟩ := hs i Z (nI (bst g i)) m h e4
      have hi1 := hb i
      have hi2 := hb (bst g i)
      have e1 : bst g (i + 1) = if g (bst g i) < g i then i else bst g i := rfl
      by_cases c0 : i = 0
      · rw [if_pos c0] at e2
        subst e2
        rw [if_neg (by rw [Int32.le_iff_toInt_le, nI_toInt (by omega), show (-1 : Int32).toInt = -1 from by decide]; omega)] at y2
        have e5 : bst g (i + 1) = i := by
          rw [e1]
          subst c0
          split <;> rfl
        exact ⟨h, _, y2, by rw [e5], by rw [if_neg (by omega), e5], rfl, y1⟩
      · rw [if_neg c0] at e2
        subst e2
        by_cases c : g (bst g i) < g i
        · rw [if_neg (by rw [nI_leI (by omega) (by omega)]; omega)] at y2
          rw [if_pos c] at e1
          exact ⟨h, _, y2, by rw [e1], by rw [if_neg (by omega), e1], rfl, y1⟩
        · rw [if_pos (by rw [nI_leI (by omega) (by omega)]; omega)] at y2
          rw [if_neg c] at e1
          exact ⟨h, _, y2, by rw [e1], by rw [if_neg (by omega), e1], rfl, y1⟩
    · have hiN : i = N := by omega
      subst hiN
      left
      obtain ⟨Y, y1, y2⟩ := he Z (nI (bst g i)) m e4
      exact ⟨_, y2, rfl, y1⟩)
  dsimp only at y2 y3
  subst y2
  exact ⟨Y, y1, y3⟩
theorem am_m {f : Int32 × Int64 × Int32 × Mem → Option ((Int32 × Mem) ⊕ (Int32 × Int64 × Int32 × Mem))} (g : Nat → Nat) (hb : ∀ i, g i ≤ 999999999) {C : Nat} (hC : C ≤ 2 ^ 60) {N : Nat} (hN : N < 5000) (P Q : Mem → Prop) {X : Mem} (hX : P X) (hs : ∀ i Z b m, i < N → P Z → ∃ Y, P Y ∧ f (b, m, nI i, Z) = some (.inr (if lg_cmp (lN (C + g i)) m ≤ 0 then (b, m, nI (i + 1), Y) else (nI i, lN (C + g i), nI (i + 1), Y)))) (he : ∀ Z b m, P Z → ∃ Y, Q Y ∧ f (b, m, nI N, Z) = some (.inl (b, Y))) : ∃ Y, it f FU ((0 : Int32), (-1 : Int64), (0 : Int32), X) = some (nI (bst g N), Y) ∧ Q Y := by
  obtain ⟨⟨r, Y⟩, y1, y2, y3⟩ := it_run (f := f) (fun i a => a.1 = nI (bst g i) ∧ a.2.1 = (if i = 0 then (-1 : Int64) else lN (C + g (bst g i))) ∧ a.2.2.1 = nI i ∧ P a.2.2.2) (fun Y => Y.1 = nI (bst g N) ∧ Q Y.2) N hN ((0 : Int32), (-1 : Int64), (0 : Int32), X) ⟨rfl, rfl, rfl, hX⟩ (by
    intro i a hi ⟨e1, e2, e3, e4⟩
    obtain ⟨b, m, x, Z⟩ := a
    dsimp only at e1 e2 e3 e4 ⊢
    subst e1
    subst e3
    by_cases h : i < N
    · right
      obtain ⟨Y, y1, y2⟩ := hs i Z (nI (bst g i)) m h e4
      have hi1 := hb i
      have hi2 := hb (bst g i)
      have e1 : bst g (i + 1) = if g (bst g i) < g i then i else bst g i := rfl
      by_cases c0 : i = 0
      · rw [if_pos c0] at e2
        subst e2
        rw [if_neg (by
          rw [lc_le]
          intro q
          have q2 : lN 0 ≤ lN (C + g i) := (pk_lLE (by omega) (by omega)).mpr (by omega)
          rw [Int64.le_iff_toInt_le] at q q2
          rw [show (-1 : Int64).toInt = -1 from by decide] at q
          rw [show (lN 0).toInt = 0 from by decide] at q2
          omega)] at y2
        have e5 : bst g (i + 1) = i := by
          rw [e1]
          subst c0
          split <;> rfl
        exact ⟨h, _, y2, by rw [e5], by rw [if_neg (by omega), e5], rfl, y1⟩
      · rw [if_neg c0] at e2
        subst e2
        by_cases c : g (bst g i) < g i
        · rw [if_neg (by rw [lc_le, pk_lLE (by omega) (by omega)]; omega)] at y2
          rw [if_pos c] at e1
          exact ⟨h, _, y2, by rw [e1], by rw [if_neg (by omega), e1], rfl, y1⟩
        · rw [if_pos (by rw [lc_le, pk_lLE (by omega) (by omega)]; omega)] at y2
          rw [if_neg c] at e1
          exact ⟨h, _, y2, by rw [e1], by rw [if_neg (by omega), e1], rfl, y1⟩
    · have hiN : i = N := by omega
      subst hiN
      left
      obtain ⟨Y, y1, y2⟩ := he Z (nI (bst g i)) m e4
      exact ⟨_, y2, rfl, y1⟩)
  dsimp only at y2 y3
  subst y2
  exact ⟨Y, y1, y3⟩
/-! the model's side -/
theorem m_pursesOn {D : Nat} {X : Mem} {u : Nat → Nat} (h : RM X 71 u) (hg : Gd D u) (hD : D ≤ 998000) {n : Nat} (hn : n ≤ 1000) : ∃ Y, f_Model_pursesOn (nI n) X = some (lN (sg (pn u n) 4), Y) ∧ RM Y 71 u ∧ Sm (fun k => k = 71 ∨ k = 73 ∨ k = 74) X Y := by
  obtain ⟨X2, a1, a2, a3⟩ := m_copyRow (B := 74) h (by omega)
  obtain ⟨X4, v, b1, b2, b3, b4⟩ := m_goes (m := n) (h.sm a3 (by omega)) hg hn (by omega)
  obtain ⟨X7, c1, c2, c3⟩ := m_copyRow (B := 71) (a2.sm b4 (by omega)) (by omega)
  unfold f_Model_pursesOn
  rw [a1, bd_s, b1, bd_s, m_purses b2 (b3.gd hg), bd_s, c1, bd_s, sg_cong (g := fun f => v (19 + f)) (h := pn u n) (fun f hf => b3.2.2.2.2.2.2 f hf)]
  exact ⟨X7, rfl, c2, ((a3.mono (fun k q => by omega)).tr (b4.mono (fun k q => by omega))).tr (c3.mono (fun k q => by omega))⟩
/-- the same but for one thing, which stays its family's -/
def Vr (s u : Nat → Nat) (t : Nat) : Prop := u 0 = s 0 ∧ u 1 = s 1 ∧ u 2 = s 2 ∧ (∀ c, c < 16 → u (3 + c) = s (3 + c)) ∧ (∀ f, f < 4 → u (19 + f) = s (19 + f)) ∧ (∀ x, x < s 0 → x ≠ t → ∀ j, j < 6 → u (23 + 6 * x + j) = s (23 + 6 * x + j)) ∧ tF u t = tF s t
theorem vr_tot {D : Nat} {s u : Nat → Nat} {t n f x : Nat} (hg : Gd D s) (h : Vr s u t) (hx : x < s 0) (c : x ≠ t) : totS u n f x = totS s n f x := by
  obtain ⟨g0, g1, g2, g3, g4, g5⟩ := hg.2.2.2.2.2 x hx
  have e := h.2.2.2.2.2.1 x hx c
  have e0 : tK u x = tK s x := e 0 (by omega)
  have e1 : tF u x = tF s x := e 1 (by omega)
  have e2 : tC u x = tC s x := e 2 (by omega)
  have e3 : tW u x = tW s x := e 3 (by omega)
  have e4 : tQ u x = tQ s x := by
    show (u (23 + 6 * x + 4), u (23 + 6 * x + 5)) = (s (23 + 6 * x + 4), s (23 + 6 * x + 5))
    rw [e 4 (by omega), e 5 (by omega)]
  have eH : tH u x = tH s x := by
    show u (3 + tC u x) = s (3 + tC s x)
    rw [e2]
    exact h.2.2.2.1 _ g2
  unfold totS
  rw [e1, e0, eH, e3, e4, h.2.2.1, h.2.1]
abbrev totT (s u : Nat → Nat) (n t : Nat) : Nat := tot (tK u t) (tH u t) (tW u t) (s 2) (s 1) (tQ u t) n
theorem pn_vr {D : Nat} {s u : Nat → Nat} {t n f : Nat} (hg : Gd D s) (h : Vr s u t) (ht : t < s 0) (hf : f < 4) : pn u n f = if f = tF s t then own s n t (totT s u n t) else pn s n f := by
  have eA : sg (fun x => if x = t then 0 else totS u n f x) (s 0) = sg (fun x => if x = t then 0 else totS s n f x) (s 0) := sg_cong (fun x hx => by
    by_cases c : x = t
    · rw [if_pos c, if_pos c]
    · rw [if_neg c, if_neg c, vr_tot hg h hx c])
  unfold pn
  rw [h.1, h.2.2.2.2.1 f hf, sg_pick (totS u n f) ht, eA]
  by_cases c : f = tF s t
  · subst c
    have e1 : totS u n (tF s t) t = totT s u n t := by
      unfold totS
      rw [if_pos h.2.2.2.2.2.2, h.2.2.1, h.2.1]
    rw [if_pos rfl, e1]
    unfold own ot
    rw [Nat.add_assoc]
  · have e1 : totS u n f t = 0 := by
      unfold totS
      rw [if_neg (fun q => c (q.symm.trans h.2.2.2.2.2.2))]
    have e2 : totS s n f t = 0 := by
      unfold totS
      rw [if_neg (fun q => c q.symm)]
    rw [if_neg c, e1, sg_pick (totS s n f) ht, e2]
def cst (s : Nat → Nat) (n t : Nat) : Nat := sg (fun f => if f = tF s t then 0 else pn s n f) 4
theorem pn_le {s : Nat → Nat} {n f : Nat} : pn s n f ≤ 999999999 := Nat.min_le_left _ _
theorem cst_le {s : Nat → Nat} {n t : Nat} : cst s n t ≤ 2 ^ 60 := by
  have h : ∀ f, (if f = tF s t then 0 else pn s n f) ≤ 999999999 := fun f => by
    split
    · omega
    · exact pn_le
  have h0 := h 0
  have h1 := h 1
  have h2 := h 2
  have h3 := h 3
  unfold cst
  show 0 + (if 0 = tF s t then 0 else pn s n 0) + (if 1 = tF s t then 0 else pn s n 1) + (if 2 = tF s t then 0 else pn s n 2) + (if 3 = tF s t then 0 else pn s n 3) ≤ 2 ^ 60
  omega
theorem sum_vr {D : Nat} {s u : Nat → Nat} {t n : Nat} (hg : Gd D s) (h : Vr s u t) (ht : t < s 0) : sg (pn u n) 4 = cst s n t + own s n t (totT s u n t) := by
  obtain ⟨g0, g1, g2, g3, g4, g5⟩ := hg.2.2.2.2.2 t ht
  rw [sg_pick (pn u n) g1, pn_vr hg h ht g1, if_pos rfl]
  unfold cst
  rw [sg_cong (g := fun x => if x = tF s t then 0 else pn u n x) (h := fun f => if f = tF s t then 0 else pn s n f) (fun f hf => by
    by_cases c : f = tF s t
    · rw [if_pos c, if_pos c]
    · rw [if_neg c, if_neg c, pn_vr hg h ht hf, if_neg c])]
