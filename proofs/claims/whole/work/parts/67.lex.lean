/-! the text by its tokens -/
def ff (Q : Nat → Bool) : Nat → Nat → Nat
  | 0, p => p
  | n + 1, p => if Q p = true then ff Q n (p + 1) else p
theorem ff_eq {Q : Nat → Bool} : ∀ (i n p : Nat), (∀ j, j < i → Q (p + j) = true) → ¬ Q (p + i) = true → i ≤ n → ff Q n p = p + i
  | 0, 0, p, _, _, _ => rfl
  | 0, n + 1, p, _, h, _ => by rw [ff, if_neg (show ¬ Q p = true from h)]; rfl
  | i + 1, 0, p, _, _, h => absurd h (by omega)
  | i + 1, n + 1, p, h1, h2, h3 => by
    rw [ff, if_pos (show Q p = true from h1 0 (by omega)), ff_eq i n (p + 1) (fun j hj => by rw [show p + 1 + j = p + (j + 1) from by omega]; exact h1 (j + 1) (by omega)) (by rw [show p + 1 + i = p + (i + 1) from by omega]; exact h2) (by omega)]
    omega
theorem ff_ge {Q : Nat → Bool} : ∀ (n p : Nat), p ≤ ff Q n p
  | 0, p => Nat.le_refl _
  | n + 1, p => by
    rw [ff]
    split
    · have := ff_ge (Q := Q) n (p + 1); omega
    · omega
theorem ff_le {Q : Nat → Bool} {L : Nat} (h : ∀ x, Q x = true → x < L) : ∀ (n p : Nat), p ≤ L → ff Q n p ≤ L
  | 0, p, hp => hp
  | n + 1, p, hp => by
    rw [ff]
    by_cases c : Q p = true
    · rw [if_pos c]; exact ff_le h n (p + 1) (h p c)
    · rw [if_neg c]; exact hp
theorem ff_in {Q : Nat → Bool} : ∀ (n p x : Nat), p ≤ x → x < ff Q n p → Q x = true
  | 0, p, x, h1, h2 => absurd h2 (by show ¬ x < p; omega)
  | n + 1, p, x, h1, h2 => by
    rw [ff] at h2
    by_cases c : Q p = true
    · rw [if_pos c] at h2
      by_cases d : x = p
      · subst d; exact c
      · exact ff_in n (p + 1) x (by omega) h2
    · rw [if_neg c] at h2; omega
theorem ff_gt {Q : Nat → Bool} {n p : Nat} (h : Q p = true) (hn : 0 < n) : p < ff Q n p := by
  cases n with
  | zero => omega
  | succ n =>
    rw [ff, if_pos h]
    have := ff_ge (Q := Q) n (p + 1)
    omega
def ccl (x : Nat) : Nat := if 97 ≤ x ∧ x ≤ 122 then 1 else if 48 ≤ x ∧ x ≤ 57 then 2 else if x = 59 then 3 else 4
theorem ccl_r (x : Nat) : 1 ≤ ccl x ∧ ccl x ≤ 4 := by
  unfold ccl
  repeat' split
  all_goals omega
theorem ccl_2 {x : Nat} (h : ccl x = 2) : 48 ≤ x ∧ x ≤ 57 := by
  unfold ccl at h
  by_cases c : 97 ≤ x ∧ x ≤ 122
  · rw [if_pos c] at h; omega
  · rw [if_neg c] at h
    by_cases d : 48 ≤ x ∧ x ≤ 57
    · exact d
    · rw [if_neg d] at h
      split at h <;> omega
def spq (L : Nat) (b : Nat → Nat) (p : Nat) : Bool := decide (p < L ∧ b p = 32)
def clq (L : Nat) (b : Nat → Nat) (c p : Nat) : Bool := decide (p < L ∧ ccl (b p) = c)
def tS (L : Nat) (b : Nat → Nat) (p : Nat) : Nat := ff (spq L b) 200 p
def tT (L : Nat) (b : Nat → Nat) (p : Nat) : Nat := if tS L b p < L then ccl (b (tS L b p)) else 0
def nxt (L : Nat) (b : Nat → Nat) (c q : Nat) : Nat := if c = 1 ∨ c = 2 then ff (clq L b c) 200 q else if c = 0 then q else q + 1
def tN (L : Nat) (b : Nat → Nat) (p : Nat) : Nat := nxt L b (tT L b p) (tS L b p)
def vM (b : Nat → Nat) (q : Nat) : Nat → Nat
  | 0 => 0
  | n + 1 => if 9999 < vM b q n then vM b q n else 10 * vM b q n + (b (q + n) - 48)
def vlu (L : Nat) (b : Nat → Nat) (c q : Nat) : Nat := if c = 2 then vM b q (nxt L b c q - q) else 0
def tV (L : Nat) (b : Nat → Nat) (p : Nat) : Nat := vlu L b (tT L b p) (tS L b p)
theorem tS_ge {L : Nat} {b : Nat → Nat} {p : Nat} : p ≤ tS L b p := ff_ge _ _
theorem tS_le {L : Nat} {b : Nat → Nat} {p : Nat} (hp : p ≤ L) : tS L b p ≤ L := ff_le (fun x hx => (of_decide_eq_true hx).1) _ _ hp
theorem tT_r {L : Nat} {b : Nat → Nat} {p : Nat} : tT L b p ≤ 4 := by
  unfold tT
  split
  · exact (ccl_r _).2
  · omega
theorem nxt_le {L : Nat} {b : Nat → Nat} {c q : Nat} (hq : q ≤ L) (hc : c = 0 ∨ q < L) : nxt L b c q ≤ L := by
  unfold nxt
  by_cases h : c = 1 ∨ c = 2
  · rw [if_pos h]; exact ff_le (fun x hx => (of_decide_eq_true hx).1) _ _ hq
  · rw [if_neg h]
    split <;> omega
theorem nxt_ge {L : Nat} {b : Nat → Nat} {c q : Nat} : q ≤ nxt L b c q := by
  unfold nxt
  split
  · exact ff_ge _ _
  · split <;> omega
theorem tT_lt {L : Nat} {b : Nat → Nat} {p : Nat} (h : tT L b p ≠ 0) : tS L b p < L ∧ ccl (b (tS L b p)) = tT L b p := by
  unfold tT at h ⊢
  by_cases c : tS L b p < L
  · rw [if_pos c]; exact ⟨c, rfl⟩
  · rw [if_neg c] at h; exact absurd rfl h
theorem tN_le {L : Nat} {b : Nat → Nat} {p : Nat} (hp : p ≤ L) : tN L b p ≤ L := nxt_le (tS_le hp) (by
  by_cases c : tT L b p = 0
  · exact Or.inl c
  · exact Or.inr (tT_lt c).1)
theorem tN_ge {L : Nat} {b : Nat → Nat} {p : Nat} : tS L b p ≤ tN L b p := nxt_ge
theorem tN_gt {L : Nat} {b : Nat → Nat} {p : Nat} (h : tT L b p ≠ 0) : p < tN L b p := by
  have h1 := tT_lt h
  have h2 := tS_ge (L := L) (b := b) (p := p)
  have h3 : tS L b p < tN L b p := by
    unfold tN nxt
    by_cases c : tT L b p = 1 ∨ tT L b p = 2
    · rw [if_pos c]; exact ff_gt (decide_eq_true h1) (by omega)
    · rw [if_neg c, if_neg h]; omega
  omega
theorem vM_le {L : Nat} {b : Nat → Nat} {q : Nat} : ∀ n, (∀ j, j < n → clq L b 2 (q + j) = true) → vM b q n ≤ 99999
  | 0, _ => by show 0 ≤ _; omega
  | n + 1, h => by
    have ih := vM_le (L := L) (b := b) (q := q) n (fun j hj => h j (by omega))
    have hd := ccl_2 (of_decide_eq_true (h n (by omega))).2
    rw [vM]
    by_cases c : 9999 < vM b q n
    · rw [if_pos c]; exact ih
    · rw [if_neg c]; omega
theorem clq_run {L : Nat} {b : Nat → Nat} {c q : Nat} (hc : c = 1 ∨ c = 2) : ∀ j, j < nxt L b c q - q → clq L b c (q + j) = true := fun j hj => by
  unfold nxt at hj
  rw [if_pos hc] at hj
  exact ff_in 200 q (q + j) (by omega) (by omega)
/-! the class's step -/
def CF (X Y : Mem) : Prop := Sm (fun k => k = 44) X Y ∧ gI Y 44 1 = gI X 44 1
theorem CF.rf {X : Mem} : CF X X := ⟨Sm.rf, rfl⟩
theorem CF.tr {X Y Z : Mem} (h : CF X Y) (h2 : CF Y Z) : CF X Z := ⟨h.1.tr h2.1, h2.2.trans h.2⟩
theorem cf_s {X Y : Mem} {j : Nat} {v : Int32} (h : CF X Y) (hj : j ≠ 1) : CF X (sI Y 44 j v) := ⟨h.1.sI rfl, by rw [gsI, if_neg (by omega)]; exact h.2⟩
theorem TC.cf {X Y : Mem} {L : Nat} {b : Nat → Nat} (h : TC X L b) (hS : CF X Y) : TC Y L b := ⟨hS.2.trans h.1, fun i hi => ((hS.1 45 (by omega)).1 i).trans (h.2 i hi)⟩
def CL (X : Mem) (L : Nat) (b : Nat → Nat) (p : Nat) : Prop := gI X 44 2 = nI (tT L b p) ∧ gI X 44 3 = nI (tS L b p) ∧ gI X 44 4 = nI (tN L b p)
theorem tok_all : ∀ x, x < 256 → f_Tape_tokenOf ((nI x).toInt8.toInt32) = some (nI (ccl x)) := by decide +kernel
theorem sgn_all : ∀ c, c < 128 → ∀ x, x < 256 → decide ((nI x).toInt8.toInt32 = nI c) = decide (x = c) := by decide +kernel
theorem sgn_iff {x c : Nat} (hx : x < 256) (hc : c < 128) : ((nI x).toInt8.toInt32 = nI c) ↔ x = c := by
  have := sgn_all c hc x hx
  constructor
  · intro h; exact of_decide_eq_true (this.symm.trans (decide_eq_true h))
  · intro h; exact of_decide_eq_true (this.trans (decide_eq_true h))
theorem c_run {X : Mem} {L q c : Nat} {b : Nat → Nat} (hT : TC X L b) (hL : L ≤ 120) (hb : ∀ i, i < L → b i < 256) (hq : q ≤ L) (hc : c = 1 ∨ c = 2) (h2 : gI X 44 2 = nI c) (h3 : gI X 44 3 = nI q) (h4 : gI X 44 4 = nI q) : ∃ Y, it (fun a => f_Tape_step_b93 a) FU X = some Y ∧ CF X Y ∧ gI Y 44 2 = nI c ∧ gI Y 44 3 = nI q ∧ gI Y 44 4 = nI (nxt L b c q) := by
  obtain ⟨Y, y1, y2⟩ := it_run (f := fun a => f_Tape_step_b93 a) (fun i a => CF X a ∧ gI a 44 2 = nI c ∧ gI a 44 3 = nI q ∧ gI a 44 4 = nI (q + i) ∧ ∀ j, j < i → clq L b c (q + j) = true) (fun Y => CF X Y ∧ gI Y 44 2 = nI c ∧ gI Y 44 3 = nI q ∧ gI Y 44 4 = nI (nxt L b c q)) (L - q) (by omega) X ⟨CF.rf, h2, h3, h4, fun j hj => absurd hj (by omega)⟩ (by
    intro i Z hi ⟨e1, e2, e3, e4, e5⟩
    have hTZ := hT.cf e1
    have hfin : ¬ clq L b c (q + i) = true → gI Z 44 4 = nI (nxt L b c q) := fun h => by
      unfold nxt
      rw [if_pos hc, ff_eq i 200 q e5 h (by omega)]
      exact e4
    unfold f_Tape_step_b93
    simp only [lt_s1]
    rw [e4, hTZ.1, e2]
    by_cases h : q + i < L
    · rw [if_neg (by rw [nI_leI (by omega) (by omega)]; omega), rdn (by omega) (by omega), hTZ.2 _ h, tok_all _ (hb _ h), bd_s]
      have hcr := ccl_r (b (q + i))
      by_cases d : ccl (b (q + i)) = c
      · right
        rw [if_pos (by rw [d]), li 1, nI_add]
        refine ⟨by omega, _, rfl, cf_s e1 (by omega), by rw [gsI, if_neg (by omega)]; exact e2, by rw [gsI, if_neg (by omega)]; exact e3, by rw [gsI, if_pos ⟨rfl, rfl⟩]; rfl, fun j hj => ?_⟩
        by_cases cj : j = i
        · subst cj; exact decide_eq_true ⟨h, d⟩
        · exact e5 j (by omega)
      · left
        rw [if_neg (by rw [nI_eq (by omega) (by omega)]; exact d)]
        exact ⟨Z, rfl, e1, e2, e3, hfin (fun q => d (of_decide_eq_true q).2)⟩
    · left
      rw [if_pos (by rw [nI_leI (by omega) (by omega)]; omega)]
      exact ⟨Z, rfl, e1, e2, e3, hfin (fun q => h (of_decide_eq_true q).1)⟩)
  exact ⟨Y, y1, y2⟩
theorem c_step {X : Mem} {L p : Nat} {b : Nat → Nat} (hT : TC X L b) (hL : L ≤ 120) (hb : ∀ i, i < L → b i < 256) (hp : p ≤ L) (h4 : gI X 44 4 = nI p) : ∃ Y, f_Tape_step X = some Y ∧ CF X Y ∧ CL Y L b p := by
  have h74 : ∀ Z, CF X Z → gI Z 44 3 = nI (tS L b p) → gI Z 44 4 = nI (tS L b p) → ∃ Y, f_Tape_step_j74 (nI (tT L b p)) Z = some Y ∧ CF X Y ∧ CL Y L b p := by
    intro Z e1 e3 e4
    have hr := tT_r (L := L) (b := b) (p := p)
    have w2 : gI (sI Z 44 2 (nI (tT L b p))) 44 2 = nI (tT L b p) := by rw [gsI, if_pos ⟨rfl, rfl⟩]
    have w3 : gI (sI Z 44 2 (nI (tT L b p))) 44 3 = nI (tS L b p) := by rw [gsI, if_neg (by omega)]; exact e3
    have w4 : gI (sI Z 44 2 (nI (tT L b p))) 44 4 = nI (tS L b p) := by rw [gsI, if_neg (by omega)]; exact e4
    have wC : CF X (sI Z 44 2 (nI (tT L b p))) := cf_s e1 (by omega)
    unfold f_Tape_step_j74
    simp only [lt_s1]
    rw [w2]
    by_cases c : tT L b p = 1 ∨ tT L b p = 2
    · obtain ⟨Y, y1, y2, y3, y4, y5⟩ := c_run (hT.cf wC) hL hb (tS_le hp) c w2 w3 w4
      have hY : CL Y L b p := ⟨y3, y4, y5⟩
      by_cases c1 : tT L b p = 1
      · rw [if_pos (by rw [c1]; rfl), y1]
        exact ⟨Y, rfl, wC.tr y2, hY⟩
      · rw [li 1, if_neg (by rw [nI_eq (by omega) (by omega)]; exact c1), if_pos (by rw [show tT L b p = 2 from by omega]; rfl), y1]
        exact ⟨Y, rfl, wC.tr y2, hY⟩
    · rw [li 1, if_neg (by rw [nI_eq (by omega) (by omega)]; omega), li 2, if_neg (by rw [nI_eq (by omega) (by omega)]; omega)]
      by_cases c0 : tT L b p = 0
      · rw [if_pos (by rw [c0]; rfl)]
        refine ⟨_, rfl, wC, w2, w3, ?_⟩
        rw [w4]
        unfold tN nxt
        rw [if_neg c, if_pos c0]
      · rw [if_neg (by rw [li 0, nI_eq (by omega) (by omega)]; exact c0), w4, nI_add]
        refine ⟨_, rfl, cf_s wC (by omega), by rw [gsI, if_neg (by omega)]; exact w2, by rw [gsI, if_neg (by omega)]; exact w3, ?_⟩
        rw [gsI, if_pos ⟨rfl, rfl⟩]
        unfold tN nxt
        rw [if_neg c, if_neg c0]
  have h38 : ∀ Z, CF X Z → gI Z 44 4 = nI (tS L b p) → ∃ Y, f_Tape_step_j38 Z = some Y ∧ CF X Y ∧ CL Y L b p := by
    intro Z e1 e4
    have hq := tS_le (b := b) hp
    have wC : CF X (sI Z 44 3 (nI (tS L b p))) := cf_s e1 (by omega)
    have w4 : gI (sI Z 44 3 (nI (tS L b p))) 44 4 = nI (tS L b p) := by rw [gsI, if_neg (by omega)]; exact e4
    have w3 : gI (sI Z 44 3 (nI (tS L b p))) 44 3 = nI (tS L b p) := by rw [gsI, if_pos ⟨rfl, rfl⟩]
    have hTZ := hT.cf wC
    unfold f_Tape_step_j38
    simp only [lt_s1]
    rw [e4, w4, hTZ.1]
    by_cases c : tS L b p < L
    · rw [if_neg (by rw [nI_leI (by omega) (by omega)]; omega), rdn (by omega) (by omega), hTZ.2 _ c, tok_all _ (hb _ c), bd_s, show ccl (b (tS L b p)) = tT L b p from by unfold tT; rw [if_pos c]]
      exact h74 _ wC w3 w4
    · rw [if_pos (by rw [nI_leI (by omega) (by omega)]; omega)]
      have := h74 _ wC w3 w4
      rw [show tT L b p = 0 from by unfold tT; rw [if_neg c]] at this
      exact this
  unfold f_Tape_step
  obtain ⟨Y, y1, y2⟩ := it_run (f := fun a => f_Tape_step_b0 a) (fun i a => CF X a ∧ gI a 44 4 = nI (p + i) ∧ ∀ j, j < i → spq L b (p + j) = true) (fun Y => CF X Y ∧ CL Y L b p) (L - p) (by omega) X ⟨CF.rf, h4, fun j hj => absurd hj (by omega)⟩ (by
    intro i Z hi ⟨e1, e4, e5⟩
    have hTZ := hT.cf e1
    have hfin : ¬ spq L b (p + i) = true → ∃ Y, f_Tape_step_j38 Z = some Y ∧ CF X Y ∧ CL Y L b p := fun h => by
      refine h38 Z e1 ?_
      unfold tS
      rw [ff_eq i 200 p e5 h (by omega)]
      exact e4
    unfold f_Tape_step_b0
    simp only [lt_s1]
    rw [e4, hTZ.1]
    by_cases h : p + i < L
    · rw [if_neg (by rw [nI_leI (by omega) (by omega)]; omega), rdn (by omega) (by omega), hTZ.2 _ h, li 32]
      by_cases d : b (p + i) = 32
      · right
        rw [if_pos ((sgn_iff (hb _ h) (by omega)).mpr d), li 1, nI_add]
        refine ⟨by omega, _, rfl, cf_s e1 (by omega), by rw [gsI, if_pos ⟨rfl, rfl⟩]; rfl, fun j hj => ?_⟩
        by_cases cj : j = i
        · subst cj; exact decide_eq_true ⟨h, d⟩
        · exact e5 j (by omega)
      · left
        obtain ⟨Y, y1, y2⟩ := hfin (fun q => d (of_decide_eq_true q).2)
        rw [if_neg (fun q => d ((sgn_iff (hb _ h) (by omega)).mp q)), y1]
        exact ⟨Y, rfl, y2⟩
    · left
      obtain ⟨Y, y1, y2⟩ := hfin (fun q => h (of_decide_eq_true q).1)
      rw [if_pos (by rw [nI_leI (by omega) (by omega)]; omega), y1]
      exact ⟨Y, rfl, y2⟩)
  exact ⟨Y, y1, y2⟩
