/-! one thing through the days -/
def sp (k h d : Nat) (q : Nat × Nat) : Nat × Nat := if q.1 = 2 then (if d % 14 = 0 ∧ tm k ≤ d - q.2 then (0, q.2) else q) else if q.1 = 1 ∧ tk k h d = true then (2, d) else q
def ic (k w r d : Nat) (q : Nat × Nat) : Nat := if q.1 = 2 ∧ d % 14 = 0 ∧ tm k ≤ d - q.2 then rp k w r q.2 (d - q.2) else 0
def ev (k h d : Nat) (q : Nat × Nat) : Nat → Nat × Nat
  | 0 => q
  | m + 1 => sp k h (d + m) (ev k h d q m)
def tot (k h w r d : Nat) (q : Nat × Nat) : Nat → Nat
  | 0 => 0
  | m + 1 => tot k h w r d q m + ic k w r (d + m) (ev k h d q m)
def sg (g : Nat → Nat) : Nat → Nat
  | 0 => 0
  | n + 1 => sg g n + g n
theorem sg_cong {g h : Nat → Nat} : ∀ {n : Nat}, (∀ k, k < n → g k = h k) → sg g n = sg h n
  | 0, _ => rfl
  | n + 1, e => by rw [sg, sg, sg_cong (fun k hk => e k (by omega)), e n (by omega)]
theorem sg_add (g h : Nat → Nat) : ∀ n, sg (fun k => g k + h k) n = sg g n + sg h n
  | 0 => rfl
  | n + 1 => by rw [sg, sg, sg, sg_add g h n]; omega
/-- the parts of a thing in a row -/
abbrev tK (s : Nat → Nat) (t : Nat) : Nat := s (23 + 6 * t)
abbrev tF (s : Nat → Nat) (t : Nat) : Nat := s (23 + 6 * t + 1)
abbrev tC (s : Nat → Nat) (t : Nat) : Nat := s (23 + 6 * t + 2)
abbrev tW (s : Nat → Nat) (t : Nat) : Nat := s (23 + 6 * t + 3)
abbrev tQ (s : Nat → Nat) (t : Nat) : Nat × Nat := (s (23 + 6 * t + 4), s (23 + 6 * t + 5))
abbrev tH (s : Nat → Nat) (t : Nat) : Nat := s (3 + tC s t)
def icS (s : Nat → Nat) (f t : Nat) : Nat := if tF s t = f then ic (tK s t) (tW s t) (s 2) (s 1) (tQ s t) else 0
def totS (s : Nat → Nat) (m f t : Nat) : Nat := if tF s t = f then tot (tK s t) (tH s t) (tW s t) (s 2) (s 1) (tQ s t) m else 0
/-- the first i things have had their day -/
def Mid (s : Nat → Nat) (i : Nat) (u : Nat → Nat) : Prop := u 0 = s 0 ∧ u 1 = s 1 ∧ u 2 = s 2 ∧ (∀ c, (c < 16 ∨ 20 + 6 * s 0 ≤ c) → u (3 + c) = s (3 + c)) ∧ (∀ t, t < s 0 → u (23 + 6 * t) = s (23 + 6 * t) ∧ u (23 + 6 * t + 1) = s (23 + 6 * t + 1) ∧ u (23 + 6 * t + 2) = s (23 + 6 * t + 2) ∧ u (23 + 6 * t + 3) = s (23 + 6 * t + 3)) ∧ (∀ t, t < s 0 → tQ u t = if t < i then sp (tK s t) (tH s t) (s 1) (tQ s t) else tQ s t) ∧ ∀ f, f < 4 → u (19 + f) = min 999999999 (s (19 + f) + sg (icS s f) i)
/-- m days have gone -/
def Aft (s : Nat → Nat) (m : Nat) (u : Nat → Nat) : Prop := u 0 = s 0 ∧ u 1 = s 1 + m ∧ u 2 = s 2 ∧ (∀ c, (c < 16 ∨ 20 + 6 * s 0 ≤ c) → u (3 + c) = s (3 + c)) ∧ (∀ t, t < s 0 → u (23 + 6 * t) = s (23 + 6 * t) ∧ u (23 + 6 * t + 1) = s (23 + 6 * t + 1) ∧ u (23 + 6 * t + 2) = s (23 + 6 * t + 2) ∧ u (23 + 6 * t + 3) = s (23 + 6 * t + 3)) ∧ (∀ t, t < s 0 → tQ u t = ev (tK s t) (tH s t) (s 1) (tQ s t) m) ∧ ∀ f, f < 4 → u (19 + f) = min 999999999 (s (19 + f) + sg (totS s m f) (s 0))
theorem sp_good {k h d : Nat} {q : Nat × Nat} (h1 : q.1 ≤ 2) (h2 : q.2 ≤ d) : (sp k h d q).1 ≤ 2 ∧ (sp k h d q).2 ≤ d := by
  unfold sp
  by_cases a : q.1 = 2
  · rw [if_pos a]
    by_cases b : d % 14 = 0 ∧ tm k ≤ d - q.2
    · rw [if_pos b]; exact ⟨by omega, h2⟩
    · rw [if_neg b]; exact ⟨h1, h2⟩
  · rw [if_neg a]
    by_cases b : q.1 = 1 ∧ tk k h d = true
    · rw [if_pos b]; exact ⟨by omega, Nat.le_refl _⟩
    · rw [if_neg b]; exact ⟨h1, h2⟩
theorem Mid.gd {D : Nat} {s u : Nat → Nat} {i : Nat} (hg : Gd D s) (h : Mid s i u) : Gd D u := by
  obtain ⟨h0, h1, h2, h3, h4, h5⟩ := hg
  obtain ⟨a0, a1, a2, a3, a4, a5, a6⟩ := h
  refine ⟨by omega, by omega, by omega, fun c hc => by rw [a3 c (Or.inl hc)]; exact h3 c hc, fun f hf => by rw [a6 f hf]; exact Nat.min_le_left _ _, fun t ht => ?_⟩
  rw [a0] at ht
  obtain ⟨g0, g1, g2, g3, g4, g5⟩ := h5 t ht
  obtain ⟨b0, b1, b2, b3⟩ := a4 t ht
  have b4 := a5 t ht
  have hq : (tQ u t).1 ≤ 2 ∧ (tQ u t).2 ≤ s 1 := by
    rw [b4]
    by_cases hi : t < i
    · rw [if_pos hi]; exact sp_good g4 g5
    · rw [if_neg hi]; exact ⟨g4, g5⟩
  exact ⟨by omega, by omega, by omega, by omega, hq.1, by rw [a1]; exact hq.2⟩
theorem Mid.z {D : Nat} {s : Nat → Nat} (hg : Gd D s) : Mid s 0 s := ⟨rfl, rfl, rfl, fun _ _ => rfl, fun _ _ => ⟨rfl, rfl, rfl, rfl⟩, fun t _ => by rw [if_neg (Nat.not_lt_zero t)], fun f hf => by
  have := hg.2.2.2.2.1 f hf
  show s (19 + f) = min 999999999 (s (19 + f) + 0)
  omega⟩
theorem Mid.step {D : Nat} {s u v : Nat → Nat} {i : Nat} (hg : Gd D s) (h : Mid s i u) (hi : i < s 0) (hA : ∀ j, j ≠ 23 + 6 * i + 4 → j ≠ 23 + 6 * i + 5 → j ≠ 19 + s (23 + 6 * i + 1) → v j = u j) (hB : tQ v i = sp (tK s i) (tH s i) (s 1) (tQ s i)) (hC : v (19 + s (23 + 6 * i + 1)) = min 999999999 (u (19 + s (23 + 6 * i + 1)) + ic (tK s i) (tW s i) (s 2) (s 1) (tQ s i))) : Mid s (i + 1) v := by
  obtain ⟨a0, a1, a2, a3, a4, a5, a6⟩ := h
  have g1 : s (23 + 6 * i + 1) < 4 := (hg.2.2.2.2.2 i hi).2.1
  have hs0 := hg.1
  refine ⟨(hA 0 (by omega) (by omega) (by omega)).trans a0, (hA 1 (by omega) (by omega) (by omega)).trans a1, (hA 2 (by omega) (by omega) (by omega)).trans a2, fun c hc => (hA _ (by omega) (by omega) (by omega)).trans (a3 c hc), fun t ht => ?_, fun t ht => ?_, fun f hf => ?_⟩
  · obtain ⟨b0, b1, b2, b3⟩ := a4 t ht
    exact ⟨(hA _ (by omega) (by omega) (by omega)).trans b0, (hA _ (by omega) (by omega) (by omega)).trans b1, (hA _ (by omega) (by omega) (by omega)).trans b2, (hA _ (by omega) (by omega) (by omega)).trans b3⟩
  · by_cases hti : t = i
    · subst hti
      rw [if_pos (by omega)]; exact hB
    · have e : tQ v t = tQ u t := by
        show (v _, v _) = (u _, u _)
        rw [hA _ (by omega) (by omega) (by omega), hA _ (by omega) (by omega) (by omega)]
      rw [e, a5 t ht]
      by_cases hlt : t < i
      · rw [if_pos hlt, if_pos (by omega)]
      · rw [if_neg hlt, if_neg (by omega)]
  · have e6 := a6 f hf
    have e7 : icS s f i = if s (23 + 6 * i + 1) = f then ic (tK s i) (tW s i) (s 2) (s 1) (tQ s i) else 0 := rfl
    rw [sg, e7]
    by_cases hf2 : s (23 + 6 * i + 1) = f
    · rw [if_pos hf2, ← hf2, hC, hf2, e6]
      omega
    · rw [if_neg hf2, hA _ (by omega) (by omega) (by omega), e6]
      rfl
theorem m_day_step {D : Nat} {Z : Mem} {s u : Nat → Nat} {i : Nat} (hg : Gd D s) (hD : D ≤ 1000000) (h : Mid s i u) (hi : i < s 0) (hR : RM Z 71 u) : ∃ Y v, f_Model_day_b2 (nI i) Z = some (.inr (nI (i + 1), Y)) ∧ RM Y 71 v ∧ Mid s (i + 1) v ∧ Sm (fun k => k = 71) Z Y := by
  have hgu := h.gd hg
  have hM := h
  obtain ⟨a0, a1, a2, a3, a4, a5, a6⟩ := h
  obtain ⟨h0, h1, h2, h3, h4, h5⟩ := hgu
  obtain ⟨g0, g1, g2, g3, g4, g5⟩ := h5 i (by omega)
  obtain ⟨b0, b1, b2, b3⟩ := a4 i hi
  have b4 := a5 i hi
  rw [if_neg (by omega)] at b4
  have q1 : u (23 + 6 * i + 4) = s (23 + 6 * i + 4) := congrArg Prod.fst b4
  have q2 : u (23 + 6 * i + 5) = s (23 + 6 * i + 5) := congrArg Prod.snd b4
  have hgg : s (23 + 6 * i + 1) < 4 := by omega
  have hh : u (3 + u (23 + 6 * i + 2)) = tH s i := by
    show _ = s (3 + s (23 + 6 * i + 2))
    rw [b2]; exact a3 _ (by omega)
  have hfin : ∀ Y, f_Model_day_j113 (nI i) Y = some (.inr (nI (i + 1), Y)) := fun Y => by
    unfold f_Model_day_j113
    rw [li 1, nI_add, lt_s1]
  have hsame : sp (tK s i) (tH s i) (s 1) (tQ s i) = tQ s i → ic (tK s i) (tW s i) (s 2) (s 1) (tQ s i) = 0 → Mid s (i + 1) u := fun e1 e2 =>
    hM.step hg hi (fun _ _ _ _ => rfl) (by rw [e1]; exact b4) (by rw [e2]; have := h4 _ hgg; show u (19 + s (23 + 6 * i + 1)) = _; omega)
  unfold f_Model_day_b2
  rw [li 0, rdn (by omega) (by omega), hR _ (by omega), if_neg (by rw [nI_leI (by omega) (by omega)]; omega), li 1, rdn (by omega) (by omega), hR _ (by omega), li 5, m_its hR (by omega) (by omega), bd_s, lt_s1, pk_sub g5, li 2, m_isIt hR (by omega) (by omega) (by omega), bd_s]
  simp only [rdn (show 1 < 83 by omega) (show 83 < 2 ^ 31 by omega)]
  by_cases c2 : u (23 + 6 * i + 4) = 2
  · rw [if_pos c2, if_neg (by decide), hR _ (by omega), m_spring (by omega), bd_s]
    by_cases cs : u 1 % 14 = 0
    · rw [if_pos cs, if_neg (by decide), m_its hR (by omega) (by omega), bd_s, m_term (by exact g0), bd_s]
      by_cases ct : tm (u (23 + 6 * i)) ≤ u 1 - u (23 + 6 * i + 5)
      · have htm : tm (u (23 + 6 * i)) < 2 ^ 31 := by omega
        rw [if_neg (by show ¬ nI _ < nI (tm (u (23 + 6 * i))); rw [nI_ltI (by omega) htm]; omega)]
        obtain ⟨Y, e1, e2, e3⟩ := m_comesHome hR (hM.gd hg) hD (t := i) (by omega)
        rw [e1, bd_s, hfin]
        refine ⟨Y, _, rfl, e2, hM.step hg hi (fun j j1 j2 j3 => ?_) ?_ ?_, e3⟩
        · unfold hm
          rw [up_n j1, up_n (by rw [b1]; exact j3)]
        · have hc : sp (tK s i) (tH s i) (s 1) (tQ s i) = (0, s (23 + 6 * i + 5)) := by
            unfold sp
            rw [if_pos (by show s (23 + 6 * i + 4) = 2; omega), if_pos ⟨by omega, by show tm (s (23 + 6 * i)) ≤ s 1 - s (23 + 6 * i + 5); rw [← b0, ← a1, ← q2]; exact ct⟩]
          rw [hc]
          show (hm u i _, hm u i _) = _
          unfold hm
          rw [up_s, up_n (by omega), up_n (by omega), q2]
        · have hc : ic (tK s i) (tW s i) (s 2) (s 1) (tQ s i) = rp (u (23 + 6 * i)) (u (23 + 6 * i + 3)) (u 2) (u (23 + 6 * i + 5)) (u 1 - u (23 + 6 * i + 5)) := by
            unfold ic
            rw [if_pos ⟨by show s (23 + 6 * i + 4) = 2; omega, by omega, by show tm (s (23 + 6 * i)) ≤ s 1 - s (23 + 6 * i + 5); rw [← b0, ← a1, ← q2]; exact ct⟩, b0, b3, a2, q2, a1]
          rw [hc]
          show hm u i (19 + s (23 + 6 * i + 1)) = _
          unfold hm
          rw [← b1, up_n (by omega), up_s]
      · have htm : tm (u (23 + 6 * i)) < 2 ^ 31 := by unfold tm; split; omega; split; omega; split; omega; split <;> omega
        rw [if_pos (by show nI _ < nI (tm (u (23 + 6 * i))); rw [nI_ltI (by omega) htm]; omega), hfin]
        refine ⟨Z, u, rfl, hR, hsame ?_ ?_, Sm.rf⟩
        · unfold sp
          rw [if_pos (by show s (23 + 6 * i + 4) = 2; omega), if_neg (fun q => ct (by rw [b0, a1, q2]; exact q.2))]
        · unfold ic
          rw [if_neg (fun q => ct (by rw [b0, a1, q2]; exact q.2.2))]
    · rw [if_neg cs, if_pos (show (0 : Int32) = nI 0 from rfl), hfin]
      refine ⟨Z, u, rfl, hR, hsame ?_ ?_, Sm.rf⟩
      · unfold sp
        rw [if_pos (by show s (23 + 6 * i + 4) = 2; omega), if_neg (fun q => cs (by rw [a1]; exact q.1))]
      · unfold ic
        rw [if_neg (fun q => cs (by rw [a1]; exact q.2.1))]
  · have hic : ic (tK s i) (tW s i) (s 2) (s 1) (tQ s i) = 0 := by
      unfold ic
      rw [if_neg (fun q => c2 (q1.trans q.1))]
    rw [if_neg c2, if_pos (show (0 : Int32) = nI 0 from rfl), m_isIt hR (by omega) (by omega) (by omega), bd_s]
    by_cases c1 : u (23 + 6 * i + 4) = 1
    · rw [if_pos c1, if_neg (by decide), m_isTaken hR (hM.gd hg) (by omega) (by omega), bd_s]
      by_cases ck : tk (u (23 + 6 * i)) (u (3 + u (23 + 6 * i + 2))) (u 1) = true
      · rw [if_pos ck, if_neg (by decide), li 4, m_at, bd_s, wrn (by omega) (by omega), m_at, bd_s, gsI, if_neg (fun q => absurd q.2 (by omega)), hR _ (by omega), wrn (by omega) (by omega), hfin]
        refine ⟨_, _, rfl, (hR.put).put, hM.step hg hi (fun j j1 j2 j3 => ?_) ?_ ?_, Sm.sI (K := fun k => k = 71) (Sm.sI (K := fun k => k = 71) Sm.rf rfl) rfl⟩
        · rw [up_n j2, up_n j1]
        · have hc : sp (tK s i) (tH s i) (s 1) (tQ s i) = (2, s 1) := by
            unfold sp
            rw [if_neg (by show ¬ s (23 + 6 * i + 4) = 2; omega), if_pos ⟨by show s (23 + 6 * i + 4) = 1; omega, by rw [← hh, ← a1, show tK s i = u (23 + 6 * i) from b0.symm]; exact ck⟩]
          rw [hc]
          show (up _ _ _ _, up _ _ _ _) = _
          rw [up_n (by omega), up_s, up_s, a1]
        · rw [hic]
          have := h4 _ hgg
          show up _ _ _ (19 + s (23 + 6 * i + 1)) = min 999999999 (u (19 + s (23 + 6 * i + 1)) + 0)
          rw [up_n (by omega), up_n (by omega)]
          omega
      · rw [if_neg ck, if_pos (show (0 : Int32) = nI 0 from rfl), hfin]
        refine ⟨Z, u, rfl, hR, hsame ?_ hic, Sm.rf⟩
        unfold sp
        rw [if_neg (by show ¬ s (23 + 6 * i + 4) = 2; omega), if_neg (fun q => ck (by rw [hh, a1, b0]; exact q.2))]
    · rw [if_neg c1, if_pos (show (0 : Int32) = nI 0 from rfl), hfin]
      refine ⟨Z, u, rfl, hR, hsame ?_ hic, Sm.rf⟩
      unfold sp
      rw [if_neg (by show ¬ s (23 + 6 * i + 4) = 2; omega), if_neg (fun q => c1 (q1.trans q.1))]
theorem m_day {D : Nat} {X : Mem} {s : Nat → Nat} (hR : RM X 71 s) (hg : Gd D s) (hD : D ≤ 1000000) : ∃ Y u, f_Model_day X = some Y ∧ RM Y 71 u ∧ Aft s 1 u ∧ Sm (fun k => k = 71) X Y := by
  have hs0 := hg.1
  have hs1 := hg.2.1
  unfold f_Model_day
  obtain ⟨Y, h1, u, h2, h3, h4⟩ := it_run (f := fun a => f_Model_day_b2 a.1 a.2) (fun i a => a.1 = nI i ∧ ∃ u, RM a.2 71 u ∧ Mid s i u ∧ Sm (fun k => k = 71) X a.2) (fun Y => ∃ u, RM Y 71 u ∧ Aft s 1 u ∧ Sm (fun k => k = 71) X Y) (s 0) (by omega) ((0 : Int32), X) ⟨rfl, s, hR, Mid.z hg, Sm.rf⟩ (by
    intro i a hi ⟨e1, u, e2, e3, e4⟩
    obtain ⟨x, Z⟩ := a
    dsimp only at e1 e2 e3 e4 ⊢
    subst e1
    by_cases h : i < s 0
    · obtain ⟨Y, v, a1, a2, a3, a4⟩ := m_day_step hg hD e3 h e2
      exact Or.inr ⟨h, _, a1, rfl, v, a2, a3, e4.tr a4⟩
    · have : i = s 0 := by omega
      subst this
      left
      have b0 := e3.1
      have b1 := e3.2.1
      unfold f_Model_day_b2
      rw [li 0, rdn (by omega) (by omega), e2 _ (by omega), b0, if_pos (by rw [nI_leI (by omega) (by omega)]; omega), li 1, rdn (by omega) (by omega), e2 _ (by omega), wrn (by omega) (by omega), nI_add]
      refine ⟨_, rfl, _, e2.put, ?_, e4.sI rfl⟩
      obtain ⟨c0, c1, c2, c3, c4, c5, c6⟩ := e3
      refine ⟨(up_n (by omega)).trans c0, by rw [up_s, c1], (up_n (by omega)).trans c2, fun c hc => (up_n (by omega)).trans (c3 c hc), fun t ht => ?_, fun t ht => ?_, fun f hf => ?_⟩
      · obtain ⟨d0, d1, d2, d3⟩ := c4 t ht
        exact ⟨(up_n (by omega)).trans d0, (up_n (by omega)).trans d1, (up_n (by omega)).trans d2, (up_n (by omega)).trans d3⟩
      · have := c5 t ht
        rw [if_pos ht] at this
        show (up _ _ _ _, up _ _ _ _) = _
        rw [up_n (by omega), up_n (by omega)]
        exact this
      · rw [up_n (by omega), c6 f hf]
        congr 2
        apply sg_cong
        intro t ht
        show icS s f t = totS s 1 f t
        unfold icS totS
        show _ = if tF s t = f then 0 + ic (tK s t) (tW s t) (s 2) (s 1 + 0) (tQ s t) else 0
        rw [Nat.zero_add, Nat.add_zero])
  exact ⟨Y, u, h1, h2, h3, h4⟩
theorem ev_good {k h d : Nat} {q : Nat × Nat} (h1 : q.1 ≤ 2) (h2 : q.2 ≤ d) : ∀ m, (ev k h d q m).1 ≤ 2 ∧ (ev k h d q m).2 ≤ d + m
  | 0 => ⟨h1, h2⟩
  | m + 1 => by
    have ih := ev_good (k := k) (h := h) h1 h2 m
    have := sp_good (k := k) (h := h) ih.1 ih.2
    exact ⟨this.1, Nat.le_succ_of_le this.2⟩
theorem Aft.gd {D m : Nat} {s u : Nat → Nat} (hg : Gd D s) (h : Aft s m u) : Gd (D + m) u := by
  obtain ⟨h0, h1, h2, h3, h4, h5⟩ := hg
  obtain ⟨a0, a1, a2, a3, a4, a5, a6⟩ := h
  refine ⟨by omega, by omega, by omega, fun c hc => by rw [a3 c (Or.inl hc)]; exact h3 c hc, fun f hf => by rw [a6 f hf]; exact Nat.min_le_left _ _, fun t ht => ?_⟩
  rw [a0] at ht
  obtain ⟨g0, g1, g2, g3, g4, g5⟩ := h5 t ht
  obtain ⟨b0, b1, b2, b3⟩ := a4 t ht
  have b4 := a5 t ht
  have hq := ev_good (k := tK s t) (h := tH s t) (q := tQ s t) (d := s 1) g4 g5 m
  rw [← b4] at hq
  exact ⟨by omega, by omega, by omega, by omega, hq.1, by rw [a1]; exact hq.2⟩
theorem Aft.z {D : Nat} {s : Nat → Nat} (hg : Gd D s) : Aft s 0 s := ⟨rfl, rfl, rfl, fun _ _ => rfl, fun _ _ => ⟨rfl, rfl, rfl, rfl⟩, fun t _ => rfl, fun f hf => by
  have := hg.2.2.2.2.1 f hf
  have e : sg (totS s 0 f) (s 0) = 0 := by
    have : ∀ n, sg (totS s 0 f) n = 0 := by
      intro n
      induction n with
      | zero => rfl
      | succ n ih => rw [sg, ih]; unfold totS; split <;> rfl
    exact this _
  rw [e]
  omega⟩
theorem Aft.add {m : Nat} {s u v : Nat → Nat} (hC : ∀ t, t < s 0 → s (23 + 6 * t + 2) < 16) (h : Aft s m u) (h2 : Aft u 1 v) : Aft s (m + 1) v := by
  obtain ⟨a0, a1, a2, a3, a4, a5, a6⟩ := h
  obtain ⟨b0, b1, b2, b3, b4, b5, b6⟩ := h2
  have hH : ∀ t, t < s 0 → tH u t = tH s t := fun t ht => by
    show u (3 + u (23 + 6 * t + 2)) = s (3 + s (23 + 6 * t + 2))
    rw [(a4 t ht).2.2.1]
    exact a3 _ (Or.inl (hC t ht))
  refine ⟨b0.trans a0, by rw [b1, a1]; omega, b2.trans a2, fun c hc => (b3 c (by rw [a0]; exact hc)).trans (a3 c hc), fun t ht => ?_, fun t ht => ?_, fun f hf => ?_⟩
  · obtain ⟨c0, c1, c2, c3⟩ := a4 t ht
    obtain ⟨d0, d1, d2, d3⟩ := b4 t (by omega)
    exact ⟨d0.trans c0, d1.trans c1, d2.trans c2, d3.trans c3⟩
  · rw [b5 t (by omega)]
    show sp (tK u t) (tH u t) (u 1 + 0) (tQ u t) = sp (tK s t) (tH s t) (s 1 + m) (ev _ _ _ _ m)
    rw [a5 t ht, hH t ht, a1, show tK u t = tK s t from (a4 t ht).1, Nat.add_zero]
  · rw [b6 f hf, a6 f hf, a0]
    have e : sg (totS s (m + 1) f) (s 0) = sg (totS s m f) (s 0) + sg (totS u 1 f) (s 0) := by
      rw [← sg_add]
      apply sg_cong
      intro t ht
      obtain ⟨c0, c1, c2, c3⟩ := a4 t ht
      unfold totS
      rw [show tF u t = tF s t from c1]
      by_cases hf2 : tF s t = f
      · rw [if_pos hf2, if_pos hf2, if_pos hf2]
        show tot _ _ _ _ _ _ m + ic _ _ _ _ (ev _ _ _ _ m) = tot _ _ _ _ _ _ m + (0 + ic (tK u t) (tW u t) (u 2) (u 1 + 0) (tQ u t))
        rw [a5 t ht, a1, a2, show tK u t = tK s t from c0, show tW u t = tW s t from c3, Nat.zero_add, Nat.add_zero]
      · rw [if_neg hf2, if_neg hf2, if_neg hf2]
    rw [e]
    omega
theorem m_goes {D : Nat} {X : Mem} {s : Nat → Nat} {m : Nat} (hR : RM X 71 s) (hg : Gd D s) (hm : m ≤ 1000) (hD : D + m ≤ 1000000) : ∃ Y u, f_Model_goes (nI m) X = some Y ∧ RM Y 71 u ∧ Aft s m u ∧ Sm (fun k => k = 71) X Y := by
  have hC : ∀ t, t < s 0 → s (23 + 6 * t + 2) < 16 := fun t ht => (hg.2.2.2.2.2 t ht).2.2.1
  unfold f_Model_goes
  obtain ⟨Y, h1, u, h2, h3, h4⟩ := it_run (f := fun a => f_Model_goes_b2 (nI m) a.1 a.2) (fun i a => a.1 = nI i ∧ ∃ u, RM a.2 71 u ∧ Aft s i u ∧ Sm (fun k => k = 71) X a.2) (fun Y => ∃ u, RM Y 71 u ∧ Aft s m u ∧ Sm (fun k => k = 71) X Y) m (by omega) ((0 : Int32), X) ⟨rfl, s, hR, Aft.z hg, Sm.rf⟩ (by
    intro i a hi ⟨e1, u, e2, e3, e4⟩
    obtain ⟨x, Z⟩ := a
    dsimp only at e1 e2 e3 e4 ⊢
    subst e1
    unfold f_Model_goes_b2
    by_cases h : i < m
    · obtain ⟨Y, v, a1, a2, a3, a4⟩ := m_day e2 (e3.gd hg) (by omega)
      right
      rw [if_neg (by rw [nI_leI (by omega) (by omega)]; omega), a1, bd_s, li 1, nI_add, lt_s1]
      exact ⟨h, _, rfl, rfl, v, a2, e3.add hC a3, e4.tr a4⟩
    · have : i = m := by omega
      subst this
      left
      rw [if_pos (by rw [nI_leI (by omega) (by omega)]; omega)]
      exact ⟨_, rfl, u, e2, e3, e4⟩)
  exact ⟨Y, u, h1, h2, h3, h4⟩
