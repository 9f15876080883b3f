/-! the pure part: numbers -/
theorem bd_s {α β : Type} (a : α) (G : α → Option β) : bd (some a) G = G a := rfl
theorem bd2_s {α γ β : Type} (a : α) (b : γ) (G : α → γ → Option β) : bd2 (some (a, b)) G = G a b := rfl
theorem lt_s1 {α β : Type} (a : α) (G : α → β) : lt a G = G a := rfl
theorem li (n : Nat) : (OfNat.ofNat n : Int32) = nI n := by cases n <;> rfl
theorem lL (n : Nat) : (OfNat.ofNat n : Int64) = lN n := by cases n <;> rfl
theorem ckn {j n : Nat} (h : j < n) (hn : n < 2 ^ 31) : ck (nI j) n = true := by
  unfold ck
  rw [nI_toInt (by omega)]
  simp only [Bool.and_eq_true, decide_eq_true_eq]
  omega
theorem rdn {β : Type} {X : Mem} {k n j : Nat} {G : Int32 → Option β} (h : j < n) (hn : n < 2 ^ 31) : rdI X k n (nI j) G = G (gI X k j) := by
  unfold rdI
  rw [if_pos (ckn h hn), nI_clamp (by omega)]
theorem rdLn {β : Type} {X : Mem} {k n j : Nat} {G : Int64 → Option β} (h : j < n) (hn : n < 2 ^ 31) : rdL X k n (nI j) G = G (gL X k j) := by
  unfold rdL
  rw [if_pos (ckn h hn), nI_clamp (by omega)]
theorem rdRn {β : Type} {n j : Nat} {G : Nat → Option β} (h : j < n) (hn : n < 2 ^ 31) : rdR n (nI j) G = G j := by
  unfold rdR
  rw [if_pos (ckn h hn), nI_clamp (by omega)]
theorem wrn {β : Type} {X : Mem} {k n j : Nat} {v : Int32} {G : Mem → Option β} (h : j < n) (hn : n < 2 ^ 31) : wrI X k n (nI j) v G = G (sI X k j v) := by
  unfold wrI
  rw [if_pos (ckn h hn), nI_clamp (by omega)]
theorem wrLn {β : Type} {X : Mem} {k n j : Nat} {v : Int64} {G : Mem → Option β} (h : j < n) (hn : n < 2 ^ 31) : wrL X k n (nI j) v G = G (sL X k j v) := by
  unfold wrL
  rw [if_pos (ckn h hn), nI_clamp (by omega)]
theorem wrBn {β : Type} {X : Mem} {k n j : Nat} {v : Int32} {G : Mem → Option β} (h : j < n) (hn : n < 2 ^ 31) : wrB X k n (nI j) v G = G (sI X k j v.toInt8.toInt32) := by
  unfold wrB
  rw [if_pos (ckn h hn), nI_clamp (by omega)]
theorem lc_lt {x y : Int64} : lg_cmp x y < 0 ↔ x < y := by
  unfold lg_cmp
  by_cases h1 : y < x
  · simp only [h1, if_true]
    constructor
    · intro h; exact absurd h (by decide)
    · intro h; exact absurd h (by simp only [Int64.lt_iff_toInt_lt] at *; omega)
  · by_cases h2 : x = y
    · subst h2
      simp only [h1, if_false, if_true]
      constructor
      · intro h; exact absurd h (by decide)
      · intro h; exact absurd h (by simpa using h1)
    · simp only [h1, h2, if_false]
      constructor
      · intro _
        simp only [Int64.lt_iff_toInt_lt] at *
        have : x.toInt ≠ y.toInt := fun e => h2 (Int64.toInt_inj.mp e)
        omega
      · intro _; decide
theorem lc_gt {x y : Int64} : 0 < lg_cmp x y ↔ y < x := by
  unfold lg_cmp
  by_cases h1 : y < x
  · simp only [h1, if_true]
    exact ⟨fun _ => trivial, fun _ => by decide⟩
  · by_cases h2 : x = y
    · subst h2
      simp only [h1, if_false, if_true]
      exact ⟨fun h => absurd h (by decide), fun h => h.elim⟩
    · simp only [h1, h2, if_false]
      exact ⟨fun h => absurd h (by decide), fun h => h.elim⟩
theorem lc_le {x y : Int64} : lg_cmp x y ≤ 0 ↔ x ≤ y := by
  have h := @lc_gt x y
  simp only [Int32.lt_iff_toInt_lt, Int32.le_iff_toInt_le, Int64.lt_iff_toInt_lt, Int64.le_iff_toInt_le] at *
  omega
theorem lc_ge {x y : Int64} : 0 ≤ lg_cmp x y ↔ y ≤ x := by
  have h := @lc_lt x y
  simp only [Int32.lt_iff_toInt_lt, Int32.le_iff_toInt_le, Int64.lt_iff_toInt_lt, Int64.le_iff_toInt_le] at *
  omega
theorem lc_eq {x y : Int64} : lg_cmp x y = 0 ↔ x = y := by
  have h := @lc_lt x y
  have h2 := @lc_gt x y
  constructor
  · intro e
    rw [e] at h h2
    have a1 : ¬ x < y := fun q => absurd (h.mpr q) (by decide)
    have a2 : ¬ y < x := fun q => absurd (h2.mpr q) (by decide)
    apply Int64.toInt_inj.mp
    simp only [Int64.lt_iff_toInt_lt] at a1 a2
    omega
  · intro e
    subst e
    unfold lg_cmp
    simp
theorem z10 {β : Type} {c : Prop} [Decidable c] {A B : β} : (if (if c then (1 : Int32) else 0) = 0 then A else B) = if c then B else A := by
  by_cases h : c
  · simp only [h, if_true]; rfl
  · simp only [h, if_false, if_true]
theorem z01 {β : Type} {c : Prop} [Decidable c] {A B : β} : (if (if c then (0 : Int32) else 1) = 0 then A else B) = if c then A else B := by
  by_cases h : c
  · simp only [h, if_true]
  · simp only [h, if_false]; rfl
/-! loops -/
theorem it_gen {α β : Type} {f : α → Option (β ⊕ α)} (P : Nat → α → Prop) (Qb : β → Prop) (N : Nat) (hs : ∀ i a, i ≤ N → P i a → (∃ b, f a = some (.inl b) ∧ Qb b) ∨ (i < N ∧ ∃ a2, f a = some (.inr a2) ∧ P (i + 1) a2)) : ∀ (k i : Nat) (a : α), i ≤ N → N - i < k → P i a → ∃ b, it f k a = some b ∧ Qb b := by
  intro k
  induction k with
  | zero => intro i a _ h; exact absurd h (by omega)
  | succ k ih =>
    intro i a hi hk hP
    rcases hs i a hi hP with ⟨b, hb, hq⟩ | ⟨hlt, a2, ha, hP2⟩
    · exact ⟨b, by unfold it; rw [hb], hq⟩
    · obtain ⟨b, hb, hq⟩ := ih (i + 1) a2 (by omega) (by omega) hP2
      exact ⟨b, by unfold it; rw [ha]; exact hb, hq⟩
theorem it_run {α β : Type} {f : α → Option (β ⊕ α)} (P : Nat → α → Prop) (Qb : β → Prop) (N : Nat) (hN : N < 5000) (a : α) (h0 : P 0 a) (hs : ∀ i a, i ≤ N → P i a → (∃ b, f a = some (.inl b) ∧ Qb b) ∨ (i < N ∧ ∃ a2, f a = some (.inr a2) ∧ P (i + 1) a2)) : ∃ b, it f FU a = some b ∧ Qb b :=
  it_gen P Qb N hs FU 0 a (Nat.zero_le _) (by unfold FU; omega) h0
/-- a loop with a counter and no early end, by what it holds -/
theorem it_for {α β : Type} {f : α → Option (β ⊕ α)} (st : Nat → α) (N : Nat) (b : β) (hN : N < 5000) (hs : ∀ i, i < N → f (st i) = some (.inr (st (i + 1)))) (he : f (st N) = some (.inl b)) : it f FU (st 0) = some b := by
  obtain ⟨b2, h1, h2⟩ := it_run (f := f) (fun i a => a = st i) (fun x => x = b) N hN (st 0) rfl (fun i a hi ha => by
    subst ha
    by_cases h : i < N
    · exact Or.inr ⟨h, _, hs i h, rfl⟩
    · have : i = N := by omega
      subst this
      exact Or.inl ⟨b, he, rfl⟩)
  rw [h1, h2]
/-! reading what was written -/
theorem gsI {X : Mem} {k j a b : Nat} {v : Int32} : gI (sI X k j v) a b = if a = k ∧ b = j then v else gI X a b := rfl
theorem gsL {X : Mem} {k j a b : Nat} {v : Int64} : gL (sL X k j v) a b = if a = k ∧ b = j then v else gL X a b := rfl
theorem gsIL {X : Mem} {k j a b : Nat} {v : Int64} : gI (sL X k j v) a b = gI X a b := rfl
theorem gsLI {X : Mem} {k j a b : Nat} {v : Int32} : gL (sI X k j v) a b = gL X a b := rfl
/-- the same but for some nodes -/
def Sm (K : Nat → Prop) (X Y : Mem) : Prop := ∀ k, ¬ K k → (∀ j, gI Y k j = gI X k j) ∧ (∀ j, gL Y k j = gL X k j)
theorem Sm.rf {K : Nat → Prop} {X : Mem} : Sm K X X := fun _ _ => ⟨fun _ => rfl, fun _ => rfl⟩
theorem Sm.tr {K : Nat → Prop} {X Y Z : Mem} (h : Sm K X Y) (h2 : Sm K Y Z) : Sm K X Z := fun k hk => ⟨fun j => ((h2 k hk).1 j).trans ((h k hk).1 j), fun j => ((h2 k hk).2 j).trans ((h k hk).2 j)⟩
theorem Sm.mono {K L : Nat → Prop} {X Y : Mem} (h : Sm K X Y) (hKL : ∀ k, K k → L k) : Sm L X Y := fun k hk => h k (fun q => hk (hKL k q))
theorem Sm.sI {K : Nat → Prop} {X Y : Mem} (h : Sm K X Y) {k j : Nat} {v : Int32} (hk : K k) : Sm K X (sI Y k j v) := fun a ha => ⟨fun b => by rw [gsI, if_neg (fun q : a = k ∧ b = j => ha (q.1 ▸ hk))]; exact (h a ha).1 b, fun b => by rw [gsLI]; exact (h a ha).2 b⟩
theorem Sm.sL {K : Nat → Prop} {X Y : Mem} (h : Sm K X Y) {k j : Nat} {v : Int64} (hk : K k) : Sm K X (sL Y k j v) := fun a ha => ⟨fun b => by rw [gsIL]; exact (h a ha).1 b, fun b => by rw [gsL, if_neg (fun q : a = k ∧ b = j => ha (q.1 ▸ hk))]; exact (h a ha).2 b⟩
/-! rows of numbers -/
def up (s : Nat → Nat) (j v : Nat) : Nat → Nat := fun k => if k = j then v else s k
theorem up_s {s : Nat → Nat} {j v : Nat} : up s j v j = v := if_pos rfl
theorem up_n {s : Nat → Nat} {j v k : Nat} (h : k ≠ j) : up s j v k = s k := if_neg h
def RM (X : Mem) (R : Nat) (s : Nat → Nat) : Prop := ∀ j, j < 83 → gI X R j = nI (s j)
theorem RM.put {X : Mem} {R : Nat} {s : Nat → Nat} (h : RM X R s) {j v : Nat} : RM (sI X R j (nI v)) R (up s j v) := by
  intro k hk
  rw [gsI]
  by_cases hj : k = j
  · subst hj; rw [if_pos ⟨rfl, rfl⟩, up_s]
  · rw [if_neg (fun q => hj q.2), up_n hj]; exact h k hk
theorem RM.sm {X Y : Mem} {R : Nat} {s : Nat → Nat} (h : RM X R s) {K : Nat → Prop} (hS : Sm K X Y) (hR : ¬ K R) : RM Y R s := fun j hj => ((hS R hR).1 j).trans (h j hj)
theorem RM.ext {X : Mem} {R : Nat} {s t : Nat → Nat} (h : RM X R s) (he : ∀ j, j < 83 → s j = t j) : RM X R t := fun j hj => by rw [← he j hj]; exact h j hj
/-- copyRow -/
theorem m_copyRow {X : Mem} {A B : Nat} {s : Nat → Nat} (hA : RM X A s) (hAB : A ≠ B) : ∃ Y, f_Model_copyRow A B X = some Y ∧ RM Y B s ∧ Sm (fun k => k = B) X Y := by
  unfold f_Model_copyRow
  obtain ⟨Y, h1, h2⟩ := it_run (f := fun a => f_Model_copyRow_b2 A B a.1 a.2) (fun i a => a.1 = nI i ∧ (∀ j, j < i → gI a.2 B j = nI (s j)) ∧ Sm (fun k => k = B) X a.2) (fun Y => RM Y B s ∧ Sm (fun k => k = B) X Y) 83 (by omega) ((0 : Int32), X) ⟨rfl, fun j h => absurd h (by omega), Sm.rf⟩ (by
    intro i a hi ⟨e1, e2, e3⟩
    obtain ⟨x, Z⟩ := a
    dsimp only at e1 e2 e3 ⊢
    subst e1
    unfold f_Model_copyRow_b2
    by_cases h : i < 83
    · refine Or.inr ⟨h, (nI (i + 1), sI Z B i (nI (s i))), ?_, rfl, fun j hj => ?_, e3.sI rfl⟩
      · simp only [li]
        rw [if_neg (by rw [nI_leI (by omega) (by omega)]; omega), rdn h (by omega), wrn h (by omega), lt_s1, nI_add, (e3 A hAB).1, hA i h]
      · rw [gsI]
        by_cases hji : j = i
        · subst hji; rw [if_pos ⟨rfl, rfl⟩]
        · rw [if_neg (fun q => hji q.2)]; exact e2 j (by omega)
    · have : i = 83 := by omega
      subst this
      refine Or.inl ⟨Z, ?_, e2, e3⟩
      simp only [li]
      rw [if_pos (by rw [nI_leI (by omega) (by omega)]; omega)])
  exact ⟨Y, h1, h2⟩
