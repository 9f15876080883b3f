/-! sets of things by numbers -/
theorem nI_bit {v j : Nat} (hj : j < 32) : (nI v).toBitVec.getLsbD j = v.testBit j := by
  show (BitVec.ofNat 32 v).getLsbD j = _
  rw [BitVec.getLsbD_ofNat, decide_eq_true hj, Bool.true_and]
theorem m1_bit : ∀ j, j < 32 → (-1 : Int32).toBitVec.getLsbD j = true := by decide +kernel
theorem bit_hi {v j : Nat} (hv : v < 1024) (hj : 10 ≤ j) : v.testBit j = false := Nat.testBit_lt_two_pow (Nat.lt_of_lt_of_le hv (Nat.pow_le_pow_right (by omega) hj : 2 ^ 10 ≤ 2 ^ j))
theorem bs_bit (g : Nat → Bool) {n : Nat} (hn : n ≤ 10) (j : Nat) : (bs g n).testBit j = (decide (j < n) && g j) := by
  by_cases hj : j < 32
  · rw [← nI_bit hj, ← fs_bs g n hn]
    exact fs_bit g n hn j hj
  · rw [bit_hi (bs_1024 hn) (by omega), decide_eq_false (by omega), Bool.false_and]
def sb (S U : Nat) : Bool := decide (nI S &&& (nI U ^^^ (-1 : Int32)) = 0)
theorem an_bit {S U j : Nat} (hj : j < 32) : (nI S &&& (nI U ^^^ (-1 : Int32))).toBitVec.getLsbD j = (S.testBit j && !U.testBit j) := by
  rw [Int32.toBitVec_and, BitVec.getLsbD_and, Int32.toBitVec_xor, BitVec.getLsbD_xor, nI_bit hj, nI_bit hj, m1_bit j hj, Bool.xor_true]
theorem sb_iff {S U : Nat} (hS : S < 1024) : sb S U = true ↔ ∀ j, S.testBit j = true → U.testBit j = true := by
  unfold sb
  rw [decide_eq_true_eq]
  constructor
  · intro h j hj
    by_cases c : j < 32
    · have e := an_bit (S := S) (U := U) c
      rw [h, hj, show (0 : Int32).toBitVec = 0#32 from rfl, BitVec.getLsbD_zero, Bool.true_and] at e
      cases hu : U.testBit j
      · rw [hu] at e; exact absurd e (by decide)
      · rfl
    · rw [bit_hi hS (by omega)] at hj; exact absurd hj (by decide)
  · intro h
    apply Int32.toBitVec_inj.mp
    apply BitVec.eq_of_getLsbD_eq
    intro j hj
    rw [an_bit hj, show (0 : Int32).toBitVec = 0#32 from rfl, BitVec.getLsbD_zero]
    cases hs : S.testBit j
    · rfl
    · rw [h j hs]; rfl
theorem an_bs {S U : Nat} (hS : S < 1024) : nI S &&& (nI U ^^^ (-1 : Int32)) = nI (bs (fun j => S.testBit j && !U.testBit j) 10) := by
  apply Int32.toBitVec_inj.mp
  apply BitVec.eq_of_getLsbD_eq
  intro j hj
  rw [an_bit hj, nI_bit hj, bs_bit _ (Nat.le_refl _)]
  by_cases c : j < 10
  · rw [decide_eq_true c, Bool.true_and]
  · rw [decide_eq_false c, bit_hi hS (by omega)]; rfl
theorem sh_all : ∀ i, i < 10 → ∀ S, S < 1024 → decide (((nI S >>> (nI i &&& 31)) &&& (1 : Int32)) = (1 : Int32)) = S.testBit i := by decide +kernel
theorem sub_le {S U : Nat} (h : ∀ j, S.testBit j = true → U.testBit j = true) : S ≤ U := by
  have e : S &&& U = S := Nat.eq_of_testBit_eq (fun j => by
    rw [Nat.testBit_and]
    cases hs : S.testBit j
    · rfl
    · rw [h j hs]; rfl)
  rw [← e]
  exact Nat.and_le_right
theorem pc_le (v : Nat) : pc v ≤ 10 := by unfold pc; omega
theorem pc_sg (v : Nat) : pc v = sg (fun i => if v.testBit i = true then 1 else 0) 10 := by
  have e : ∀ i, (if v.testBit i = true then 1 else 0) = v / 2 ^ i % 2 := fun i => by
    rw [Nat.testBit_eq_decide_div_mod_eq]
    by_cases c : v / 2 ^ i % 2 = 1
    · rw [if_pos (decide_eq_true c), c]
    · rw [if_neg (by rw [decide_eq_true_eq]; exact c)]; omega
  rw [sg_cong (h := fun i => v / 2 ^ i % 2) (fun i _ => e i)]
  show pc v = 0 + v / 1 % 2 + v / 2 % 2 + v / 4 % 2 + v / 8 % 2 + v / 16 % 2 + v / 32 % 2 + v / 64 % 2 + v / 128 % 2 + v / 256 % 2 + v / 512 % 2
  unfold pc
  omega
theorem sg_cmp {g h : Nat → Nat} : ∀ {n : Nat}, (∀ k, k < n → g k ≤ h k) → sg g n ≤ sg h n ∧ (sg g n = sg h n → ∀ k, k < n → g k = h k)
  | 0, _ => ⟨Nat.le_refl _, fun _ k hk => absurd hk (by omega)⟩
  | n + 1, H => by
    obtain ⟨a, b⟩ := sg_cmp (n := n) (fun k hk => H k (by omega))
    have c := H n (by omega)
    refine ⟨by rw [sg, sg]; omega, fun e k hk => ?_⟩
    rw [sg, sg] at e
    by_cases d : k = n
    · subst d; omega
    · exact b (by omega) k (by omega)
theorem sg_max {g : Nat → Nat} {c : Nat} : ∀ {n : Nat}, (∀ k, k < n → g k ≤ c) → sg g n ≤ n * c
  | 0, _ => by show 0 ≤ _; omega
  | n + 1, H => by
    have a := sg_max (n := n) (fun k hk => H k (by omega))
    have b := H n (by omega)
    rw [sg, Nat.succ_mul]
    omega
theorem sg_zero {g : Nat → Nat} {n : Nat} : ∀ {m : Nat}, (∀ k, n ≤ k → k < n + m → g k = 0) → sg g (n + m) = sg g n
  | 0, _ => rfl
  | m + 1, H => by
    show sg g (n + m) + g (n + m) = _
    rw [sg_zero (m := m) (fun k h1 h2 => H k h1 (by omega)), H (n + m) (by omega) (by omega)]
    rfl
theorem pc_sub {S T : Nat} (hT : T < 1024) (h : ∀ j, S.testBit j = true → T.testBit j = true) : pc S ≤ pc T ∧ (pc S = pc T → S = T) := by
  rw [pc_sg, pc_sg]
  have H : ∀ k, k < 10 → (if S.testBit k = true then 1 else 0) ≤ (if T.testBit k = true then 1 else 0) := fun k _ => by
    by_cases c : S.testBit k = true
    · rw [if_pos c, if_pos (h k c)]; omega
    · rw [if_neg c]; omega
  obtain ⟨a, b⟩ := sg_cmp H
  refine ⟨a, fun e => Nat.eq_of_testBit_eq (fun j => ?_)⟩
  by_cases c : j < 10
  · have := b e j c
    cases hs : S.testBit j <;> cases ht : T.testBit j <;> rw [hs, ht] at this
    · exact absurd this (by decide)
    · exact absurd this (by decide)
  · rw [bit_hi hT (by omega)]
    cases hs : S.testBit j
    · rfl
    · have := h j hs
      rw [bit_hi hT (by omega)] at this
      exact absurd this (by decide)
/-! the best set: the fewest, then the least -/
def lss (S : Nat) : Option Nat → Bool
  | none => true
  | some b => decide (pc S < pc b)
def fb (ok : Nat → Bool) : Nat → Option Nat
  | 0 => none
  | S + 1 => if ok S = true ∧ lss S (fb ok S) = true then some S else fb ok S
theorem fb_spec (ok : Nat → Bool) : ∀ N, (fb ok N = none ∧ ∀ S, S < N → ¬ ok S = true) ∨ (∃ b, fb ok N = some b ∧ b < N ∧ ok b = true ∧ ∀ S, S < N → ok S = true → pc b < pc S ∨ (pc b = pc S ∧ b ≤ S))
  | 0 => Or.inl ⟨rfl, fun S h => absurd h (by omega)⟩
  | N + 1 => by
    rcases fb_spec ok N with ⟨h1, h2⟩ | ⟨b, h1, h2, h3, h4⟩
    · by_cases c : ok N = true
      · refine Or.inr ⟨N, ?_, by omega, c, fun S hS hk => ?_⟩
        · rw [fb, h1, if_pos ⟨c, rfl⟩]
        · by_cases d : S = N
          · subst d; exact Or.inr ⟨rfl, Nat.le_refl _⟩
          · exact absurd hk (h2 S (by omega))
      · refine Or.inl ⟨?_, fun S hS hk => ?_⟩
        · rw [fb, if_neg (fun q => c q.1), h1]
        · by_cases d : S = N
          · subst d; exact c hk
          · exact h2 S (by omega) hk
    · right
      by_cases c : ok N = true ∧ lss N (fb ok N) = true
      · have c2 : pc N < pc b := by
          have := c.2
          rw [h1] at this
          exact of_decide_eq_true this
        refine ⟨N, by rw [fb, if_pos c], by omega, c.1, fun S hS hk => ?_⟩
        by_cases d : S = N
        · subst d; exact Or.inr ⟨rfl, Nat.le_refl _⟩
        · rcases h4 S (by omega) hk with e | ⟨e, _⟩
          · exact Or.inl (by omega)
          · exact Or.inl (by omega)
      · refine ⟨b, by rw [fb, if_neg c, h1], by omega, h3, fun S hS hk => ?_⟩
        by_cases d : S = N
        · subst d
          have c2 : ¬ pc S < pc b := fun q => c ⟨hk, by rw [h1]; exact decide_eq_true q⟩
          by_cases e : pc b < pc S
          · exact Or.inl e
          · exact Or.inr ⟨by omega, by omega⟩
        · exact h4 S (by omega) hk
theorem fb_eq {okM okC : Nat → Bool} {N M : Nat} (hM : M ≤ N) (h1 : ∀ S, S < M → okC S = true → okM S = true) (h2 : ∀ S, S < N → okM S = true → (∀ T, T < N → okM T = true → pc S < pc T ∨ (pc S = pc T ∧ S ≤ T)) → S < M ∧ okC S = true) : fb okM N = fb okC M := by
  rcases fb_spec okM N with ⟨a1, a2⟩ | ⟨b, a1, a2, a3, a4⟩
  · rcases fb_spec okC M with ⟨b1, b2⟩ | ⟨c, b1, b2, b3, b4⟩
    · rw [a1, b1]
    · exact absurd (h1 c b2 b3) (a2 c (by omega))
  · obtain ⟨d1, d2⟩ := h2 b a2 a3 a4
    rcases fb_spec okC M with ⟨b1, b2⟩ | ⟨c, b1, b2, b3, b4⟩
    · exact absurd d2 (b2 b d1)
    · have e1 := a4 c (by omega) (h1 c b2 b3)
      have e2 := b4 b d1 d2
      have e3 : b = c := by omega
      rw [a1, b1, e3]
/-! what sets bring -/
def shr (s : Nat → Nat) (n f t : Nat) : Nat := if tF s t = f ∧ s (23 + 6 * t + 4) = 1 then tb1 s n (s 2) t else 0
def lnt (s : Nat → Nat) (n f t : Nat) : Nat := if tF s t = f ∧ s (23 + 6 * t + 4) = 2 then tb1 s n (s 2) t else 0
def pick (s : Nat → Nat) (n f S : Nat) : Nat := sg (fun t => if S.testBit t = true then shr s n f t else 0) (s 0)
def wf (s : Nat → Nat) (n f S : Nat) : Nat := min 999999999 (s (19 + f) + sg (lnt s n f) (s 0) + pick s n f S)
def aLL (s : Nat → Nat) : Nat := bs (ing s 1) (s 0)
def uSE (s : Nat → Nat) (n f : Nat) : Nat := bs (fun t => decide (0 < shr s n f t)) (s 0)
def okM (s : Nat → Nat) (n f v S : Nat) : Bool := sb S (aLL s) && decide (v ≤ wf s n f S)
def okC (s : Nat → Nat) (n f v S : Nat) : Bool := sb S (uSE s n f) && decide (v ≤ wf s n f S)
theorem use_all {s : Nat → Nat} {n f : Nat} (h0 : s 0 ≤ 10) (j : Nat) (h : (uSE s n f).testBit j = true) : (aLL s).testBit j = true ∧ j < s 0 ∧ 0 < shr s n f j := by
  unfold uSE at h
  unfold aLL
  rw [bs_bit _ h0, Bool.and_eq_true, decide_eq_true_eq, decide_eq_true_eq] at h
  refine ⟨?_, h.1, h.2⟩
  rw [bs_bit _ h0, Bool.and_eq_true, decide_eq_true_eq]
  refine ⟨h.1, decide_eq_true ?_⟩
  have h2 := h.2
  unfold shr at h2
  by_cases c : tF s j = f ∧ s (23 + 6 * j + 4) = 1
  · exact c.2
  · rw [if_neg c] at h2; omega
theorem few_eq {s : Nat → Nat} {n f v : Nat} (h0 : s 0 ≤ 10) : fb (okM s n f v) (aLL s + 1) = fb (okC s n f v) (uSE s n f + 1) := by
  have hA : aLL s < 1024 := bs_1024 h0
  have hU : uSE s n f < 1024 := bs_1024 h0
  have hUA : uSE s n f ≤ aLL s := sub_le (fun j hj => (use_all h0 j hj).1)
  refine fb_eq (by omega) (fun S hS hk => ?_) (fun S hS hk hm => ?_)
  · unfold okC at hk
    unfold okM
    rw [Bool.and_eq_true] at hk ⊢
    refine ⟨(sb_iff (by omega)).mpr (fun j hj => (use_all h0 j ((sb_iff (by omega)).mp hk.1 j hj)).1), hk.2⟩
  · unfold okM at hk
    rw [Bool.and_eq_true] at hk
    have hb := (sb_iff (by omega)).mp hk.1
    have hi : ∀ j, (S &&& uSE s n f).testBit j = true → S.testBit j = true ∧ (uSE s n f).testBit j = true := fun j hj => by
      rw [Nat.testBit_and, Bool.and_eq_true] at hj; exact hj
    have hle : S &&& uSE s n f ≤ uSE s n f := Nat.and_le_right
    have hw : wf s n f (S &&& uSE s n f) = wf s n f S := by
      unfold wf pick
      congr 2
      apply sg_cong
      intro t ht
      by_cases c : S.testBit t = true
      · rw [if_pos c]
        by_cases d : (uSE s n f).testBit t = true
        · rw [if_pos (by rw [Nat.testBit_and, c, d]; rfl)]
        · rw [if_neg (fun q => d (hi t q).2)]
          have e : ¬ 0 < shr s n f t := fun q => d (by
            unfold uSE
            rw [bs_bit _ h0, decide_eq_true ht, Bool.true_and]
            exact decide_eq_true q)
          omega
      · rw [if_neg c, if_neg (fun q => c (hi t q).1)]
    have hk2 : okM s n f v (S &&& uSE s n f) = true := by
      unfold okM
      rw [Bool.and_eq_true, hw]
      exact ⟨(sb_iff (by omega)).mpr (fun j hj => hb j (hi j hj).1), hk.2⟩
    obtain ⟨p1, p2⟩ := pc_sub (S := S &&& uSE s n f) (T := S) (by omega) (fun j hj => (hi j hj).1)
    have hm2 := hm (S &&& uSE s n f) (by omega) hk2
    have e : S &&& uSE s n f = S := p2 (by omega)
    refine ⟨by omega, ?_⟩
    unfold okC
    rw [Bool.and_eq_true]
    exact ⟨(sb_iff (by omega)).mpr (fun j hj => by rw [← e] at hj; exact (hi j hj).2), hk.2⟩
