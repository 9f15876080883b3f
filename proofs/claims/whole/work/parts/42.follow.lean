/-! the class's way -/
theorem c_tk0 {h d : Nat} (hh : h ≤ 9) (hd : d < 2 ^ 31) : (bd (f_Tide_markOf (nI d)) fun v => if v ≤ nI h then (some (0 : Int32)) else (some (1 : Int32))) = some (if h < mk d then 1 else 0) := by
  have := @mk_le d
  rw [c_mark hd, bd_s]
  by_cases c : h < mk d
  · rw [if_neg (by rw [nI_leI (by omega) (by omega)]; omega), if_pos c]
  · rw [if_pos (by rw [nI_leI (by omega) (by omega)]; omega), if_neg c]
theorem c_tkg {h d : Nat} (hh : h ≤ 9) (hd : d < 2 ^ 31) : (bd (f_Tide_markOf (nI d)) fun v => if v < nI h then (some (0 : Int32)) else (some (1 : Int32))) = some (if h ≤ mk d then 1 else 0) := by
  have := @mk_le d
  rw [c_mark hd, bd_s]
  by_cases c : h ≤ mk d
  · rw [if_neg (by rw [nI_ltI (by omega) (by omega)]; omega), if_pos c]
  · rw [if_pos (by rw [nI_ltI (by omega) (by omega)]; omega), if_neg c]
theorem c_tkn {h d : Nat} (hh : h ≤ 9) (hd : d < 2 ^ 31) : (bd (bd (f_Tide_markOf (nI d)) fun v => if v ≤ nI h then (some (0 : Int32)) else (some (1 : Int32))) fun v1 => if v1 = 0 then (some (0 : Int32)) else (bd (f_Tide_isSpring (nI d)) fun v3 => if v3 = 0 then (some (1 : Int32)) else (some (0 : Int32)))) = some (if (decide (h < mk d) && !decide (d % 14 = 0)) = true then 1 else 0) := by
  rw [c_tk0 hh hd, bd_s, c_spring hd, bd_s]
  by_cases c : h < mk d
  · by_cases e : d % 14 = 0
    · simp [c, e]
    · simp [c, e]
  · simp [c]
theorem ckZ_1 {c : Prop} [Decidable c] {β : Type} {G : Option β} : ckZ (if c then (1 : Int32) else 0) G = G := by
  unfold ckZ
  by_cases h : c
  · rw [if_pos h, if_pos (Or.inr rfl)]
  · rw [if_neg h, if_pos (Or.inl rfl)]
theorem c_taken {k h d : Nat} (hk : k < 6) (hh : h ≤ 9) (hd : d < 2 ^ 31) : f_Tide_isTaken_2 (nI k) (nI h) (nI d) = some (if tk k h d = true then 1 else 0) := by
  rcases (show k = 0 ∨ k = 1 ∨ k = 2 ∨ k = 3 ∨ k = 4 ∨ k = 5 by omega) with rfl | rfl | rfl | rfl | rfl | rfl
  · have e : (if tk 0 h d = true then (1 : Int32) else 0) = if h < mk d then 1 else 0 := by
      show (if decide (h < mk d) = true then (1 : Int32) else 0) = _
      simp
    rw [e]; exact c_tk0 hh hd
  · exact c_tkn hh hd
  · have e : (if tk 2 h d = true then (1 : Int32) else 0) = if h ≤ mk d then 1 else 0 := by
      show (if decide (h ≤ mk d) = true then (1 : Int32) else 0) = _
      simp
    rw [e]; exact c_tkg hh hd
  · have e : (if tk 3 h d = true then (1 : Int32) else 0) = if h < mk d then 1 else 0 := by
      show (if decide (h < mk d) = true then (1 : Int32) else 0) = _
      simp
    show (bd (bd (f_Tide_markOf (nI d)) fun v => if v ≤ nI h then (some (0 : Int32)) else (some (1 : Int32))) fun v7 => ckZ v7 (some v7)) = _
    rw [c_tk0 hh hd, bd_s, ckZ_1, e]
  · show (bd (bd (bd (f_Tide_markOf (nI d)) fun v => if v ≤ nI h then (some (0 : Int32)) else (some (1 : Int32))) fun v1 => if v1 = 0 then (some (0 : Int32)) else (bd (f_Tide_isSpring (nI d)) fun v3 => if v3 = 0 then (some (1 : Int32)) else (some (0 : Int32)))) fun v9 => ckZ v9 (some v9)) = _
    rw [c_tkn hh hd, bd_s, ckZ_1]
    rfl
  · show (bd (bd (f_Tide_markOf (nI d)) fun v => if v < nI h then (some (0 : Int32)) else (some (1 : Int32))) fun v11 => if v11 = 0 then (some (0 : Int32)) else (bd (f_Tide_isSpring (nI d)) fun v13 => if v13 = 0 then (some (0 : Int32)) else (some (1 : Int32)))) = some (if (decide (h ≤ mk d) && decide (d % 14 = 0)) = true then 1 else 0)
    rw [c_tkg hh hd, bd_s, c_spring hd, bd_s]
    by_cases c : h ≤ mk d
    · by_cases e : d % 14 = 0
      · simp [c, e]
      · simp [c, e]
    · simp [c]
theorem c_springFrom {x : Nat} (hx : x < 2 ^ 30) : f_Tide_springFrom (nI x) = some (nI (spr x)) := by
  unfold f_Tide_springFrom spr
  rw [li 14, li 1, nI_add, pk_sub (by omega), pk_div (by omega) (by omega) (by omega), pk_mul, show x + 14 - 1 = x + 13 from by omega]
/-- the way's five numbers -/
def WF (X : Mem) (W l b a : Nat) (p : Nat × Nat) : Prop := gI X W 0 = nI l ∧ gI X W 1 = nI b ∧ gI X W 2 = nI a ∧ gI X W 3 = nI p.1 ∧ gI X W 4 = nI p.2
theorem WF.sm {X Y : Mem} {W l b a : Nat} {p : Nat × Nat} (h : WF X W l b a p) {K : Nat → Prop} (hS : Sm K X Y) (hK : ¬ K W) : WF Y W l b a p :=
  ⟨((hS W hK).1 0).trans h.1, ((hS W hK).1 1).trans h.2.1, ((hS W hK).1 2).trans h.2.2.1, ((hS W hK).1 3).trans h.2.2.2.1, ((hS W hK).1 4).trans h.2.2.2.2⟩
theorem c_tide {X : Mem} {W k h d n : Nat} {q : Nat × Nat} (hk : k < 6) (hh : h ≤ 9) (hd : d ≤ 1000000) (hn : n ≤ 1000) (hW : WF X W 0 0 0 q) (hq : q.1 = 1) : ∃ Y, f_Way_waitForTide W (nI k) (nI h) (nI d) (nI n) X = some Y ∧ Sm (fun z => z = W) X Y ∧ ((WF Y W 0 0 0 q ∧ ∀ j, j < n → tk k h (d + j) = false) ∨ ∃ j, j < n ∧ (∀ i, i < j → tk k h (d + i) = false) ∧ tk k h (d + j) = true ∧ WF Y W (j + 1) 0 0 (2, d + j)) := by
  obtain ⟨Y, h1, h2⟩ := it_run (f := fun a => f_Way_waitForTide_b3 W (nI k) (nI h) (nI d) (nI n) a.1 a.2) (fun i a => a.1 = nI i ∧ Sm (fun z => z = W) X a.2 ∧ ((WF a.2 W 0 0 0 q ∧ ∀ j, j < i → tk k h (d + j) = false) ∨ ∃ j, j < i ∧ j < n ∧ (∀ i, i < j → tk k h (d + i) = false) ∧ tk k h (d + j) = true ∧ WF a.2 W (j + 1) 0 0 (2, d + j))) (fun Y => Sm (fun z => z = W) X Y ∧ ((WF Y W 0 0 0 q ∧ ∀ j, j < n → tk k h (d + j) = false) ∨ ∃ j, j < n ∧ (∀ i, i < j → tk k h (d + i) = false) ∧ tk k h (d + j) = true ∧ WF Y W (j + 1) 0 0 (2, d + j))) (min n 14) (by omega) ((0 : Int32), X) ⟨rfl, Sm.rf, Or.inl ⟨hW, fun j hj => absurd hj (by omega)⟩⟩ (by
    intro i a hi ⟨e1, e2, e3⟩
    obtain ⟨x, Z⟩ := a
    dsimp only at e1 e2 e3 ⊢
    subst e1
    unfold f_Way_waitForTide_b3
    rcases e3 with ⟨e3, e4⟩ | ⟨j, e3, e4, e5, e6, e7⟩
    · by_cases hin : i < n
      · rw [if_neg (by rw [nI_leI (by omega) (by omega)]; omega), li 14]
        by_cases hi14 : i < 14
        · rw [if_neg (by rw [nI_leI (by omega) (by omega)]; omega), lt_s1, e3.2.2.2.1, hq, if_pos (by decide), nI_add, c_taken hk hh (by omega), bd_s]
          right
          refine ⟨by omega, ?_⟩
          unfold f_Way_waitForTide_j58
          by_cases ht : tk k h (d + i) = true
          · rw [if_pos ht, if_neg (by decide), lt_s1, lt_s1, lt_s1, lt_s1, li 1, nI_add]
            refine ⟨_, rfl, rfl, sm_s1 (sm_s1 (sm_s1 e2)), Or.inr ⟨i, by omega, hin, e4, ht, ?_⟩⟩
            refine ⟨by rw [gsI, if_pos ⟨rfl, rfl⟩], ?_, ?_, ?_, ?_⟩
            · rw [gsI, if_neg (by omega), gsI, if_neg (by omega), gsI, if_neg (by omega)]; exact e3.2.1
            · rw [gsI, if_neg (by omega), gsI, if_neg (by omega), gsI, if_neg (by omega)]; exact e3.2.2.1
            · rw [gsI, if_neg (by omega), gsI, if_neg (by omega), gsI, if_pos ⟨rfl, rfl⟩]; rfl
            · rw [gsI, if_neg (by omega), gsI, if_pos ⟨rfl, rfl⟩]
          · rw [if_neg ht, if_pos rfl, lt_s1, li 1, nI_add]
            refine ⟨_, rfl, rfl, e2, Or.inl ⟨e3, fun j hj => ?_⟩⟩
            by_cases hji : j = i
            · subst hji; exact Bool.eq_false_iff.mpr ht
            · exact e4 j (by omega)
        · left
          rw [if_pos (by rw [nI_leI (by omega) (by omega)]; omega)]
          exact ⟨Z, rfl, e2, Or.inl ⟨e3, fun j _ => tk_never (fun u hu => e4 u (by omega)) j⟩⟩
      · left
        rw [if_pos (by rw [nI_leI (by omega) (by omega)]; omega)]
        exact ⟨Z, rfl, e2, Or.inl ⟨e3, fun j hj => e4 j (by omega)⟩⟩
    · left
      refine ⟨Z, ?_, e2, Or.inr ⟨j, e4, e5, e6, e7⟩⟩
      rw [lt_s1, e7.2.2.2.1]
      have : ¬ nI (2, d + j).1 = (1 : Int32) := by show ¬ nI 2 = (1 : Int32); decide
      rw [if_neg this]
      split
      · rfl
      · split <;> rfl)
  exact ⟨Y, h1, h2⟩
theorem c_wspring {X : Mem} {W k d n l : Nat} {p : Nat × Nat} (hk : k < 6) (hd : d ≤ 1000000) (hn : n ≤ 1000) (hp : p.2 ≤ 1001000) (hW : WF X W l 0 0 p) {B : Nat} (hB : B = spr (max d (p.2 + tm k))) : ∃ Y, f_Way_waitForSpring W (nI k) (nI d) (nI n) X = some Y ∧ Sm (fun z => z = W) X Y ∧ WF Y W l (if B - d < n then B - d + 1 else 0) (if B - d < n then B - p.2 else 0) (if B - d < n then (0, p.2) else p) := by
  have t1 := tm_le k
  have b1 := spr_ge (max d (p.2 + tm k))
  have b2 := spr_lt (max d (p.2 + tm k))
  have hmax : (if nI d < nI (p.2 + tm k) then nI (p.2 + tm k) else nI d) = nI (max d (p.2 + tm k)) := by
    by_cases c : d < p.2 + tm k
    · rw [if_pos (by rw [nI_ltI (by omega) (by omega)]; exact c), Nat.max_eq_right (by omega)]
    · rw [if_neg (by rw [nI_ltI (by omega) (by omega)]; exact c), Nat.max_eq_left (by omega)]
  unfold f_Way_waitForSpring
  simp only [lt_s1]
  rw [hW.2.2.2.2, c_term hk, bd_s, nI_add, hmax, c_springFrom (by omega), bd_s, ← hB, pk_sub (by omega)]
  by_cases c : B - d < n
  · rw [if_neg (by rw [nI_leI (by omega) (by omega)]; omega), if_pos c, if_pos c, if_pos c, gsI, if_neg (by omega), gsI, if_neg (by omega), hW.2.2.2.2, pk_sub (by omega), li 1, nI_add]
    refine ⟨_, rfl, sm_s1 (sm_s1 (sm_s1 Sm.rf)), ?_, ?_, ?_, ?_, ?_⟩
    · rw [gsI, if_neg (by omega), gsI, if_neg (by omega), gsI, if_neg (by omega)]; exact hW.1
    · rw [gsI, if_neg (by omega), gsI, if_pos ⟨rfl, rfl⟩]
    · rw [gsI, if_pos ⟨rfl, rfl⟩]
    · rw [gsI, if_neg (by omega), gsI, if_neg (by omega), gsI, if_pos ⟨rfl, rfl⟩]; rfl
    · rw [gsI, if_neg (by omega), gsI, if_neg (by omega), gsI, if_neg (by omega)]; exact hW.2.2.2.2
  · rw [if_pos (by rw [nI_leI (by omega) (by omega)]; omega), if_neg c, if_neg c, if_neg c]
    exact ⟨X, rfl, Sm.rf, hW⟩
theorem c_follow {X : Mem} {W T k h d n : Nat} {q : Nat × Nat} (hWT : T ≠ W) (hk : k < 6) (hh : h ≤ 9) (hd : d ≤ 1000000) (hn : n ≤ 1000) (hq1 : q.1 ≤ 2) (hq2 : q.2 ≤ d) (t0 : gI X T 0 = nI k) (t4 : gI X T 4 = nI q.1) (t5 : gI X T 5 = nI q.2) : ∃ Y l b a p, f_Way_follow W T (nI h) (nI d) (nI n) X = some Y ∧ Sm (fun z => z = W) X Y ∧ WF Y W l b a p ∧ WS k h d q n l b a p := by
  unfold f_Way_follow
  simp only [lt_s1]
  have hT : ∀ (Z : Mem) (j i : Nat) (v : Int32), gI (sI Z W j v) T i = gI Z T i := fun Z j i v => by rw [gsI, if_neg (fun c => hWT c.1)]
  simp only [hT]
  rw [t4, t5, t0]
  generalize hX7 : sI (sI (sI (sI (sI X W 0 0) W 1 0) W 2 0) W 3 (nI q.1)) W 4 (nI q.2) = X7
  have hS7 : Sm (fun z => z = W) X X7 := by rw [← hX7]; exact sm_s1 (sm_s1 (sm_s1 (sm_s1 (sm_s1 Sm.rf))))
  have hW7 : WF X7 W 0 0 0 q := by
    rw [← hX7]
    refine ⟨?_, ?_, ?_, ?_, ?_⟩
    · rw [gsI, if_neg (by omega), gsI, if_neg (by omega), gsI, if_neg (by omega), gsI, if_neg (by omega), gsI, if_pos ⟨rfl, rfl⟩]; rfl
    · rw [gsI, if_neg (by omega), gsI, if_neg (by omega), gsI, if_neg (by omega), gsI, if_pos ⟨rfl, rfl⟩]; rfl
    · rw [gsI, if_neg (by omega), gsI, if_neg (by omega), gsI, if_pos ⟨rfl, rfl⟩]; rfl
    · rw [gsI, if_neg (by omega), gsI, if_pos ⟨rfl, rfl⟩]
    · rw [gsI, if_pos ⟨rfl, rfl⟩]
  rw [hW7.2.2.2.1]
  have hj : ∀ (Z : Mem) (l : Nat) (p : Nat × Nat), Sm (fun z => z = W) X Z → WF Z W l 0 0 p → p.1 = 2 → p.2 ≤ 1001000 → ∀ B, B = spr (max d (p.2 + tm k)) → ∃ Y, f_Way_follow_j51 W T (nI d) (nI n) Z = some Y ∧ Sm (fun z => z = W) X Y ∧ WF Y W l (if B - d < n then B - d + 1 else 0) (if B - d < n then B - p.2 else 0) (if B - d < n then (0, p.2) else p) := by
    intro Z l p hS hW h2 hp B hB
    obtain ⟨Y, y1, y2, y3⟩ := c_wspring hk hd hn hp hW hB
    unfold f_Way_follow_j51
    rw [lt_s1, hW.2.2.2.1, h2, if_pos (by decide), lt_s1, (hS T hWT).1, t0, y1, bd_s]
    exact ⟨Y, rfl, hS.tr y2, y3⟩
  have hj0 : ∀ (Z : Mem) (l : Nat) (p : Nat × Nat), WF Z W l 0 0 p → p.1 < 2 → f_Way_follow_j51 W T (nI d) (nI n) Z = some Z := by
    intro Z l p hW h2
    unfold f_Way_follow_j51
    rw [lt_s1, hW.2.2.2.1, li 2, if_neg (by rw [nI_eq (by omega) (by omega)]; omega)]
  rcases (show q.1 = 0 ∨ q.1 = 1 ∨ q.1 = 2 by omega) with c | c | c
  · rw [c, if_neg (by decide), hj0 X7 0 q hW7 (by omega)]
    exact ⟨X7, 0, 0, 0, q, rfl, hS7, hW7, ws0 c⟩
  · rw [c, if_pos (by decide)]
    obtain ⟨Y, y1, y2, y3⟩ := c_tide (k := k) (h := h) (d := d) (n := n) hk hh hd hn hW7 c
    rw [y1, bd_s]
    rcases y3 with ⟨y3, y4⟩ | ⟨j, z1, z2, z3, z4⟩
    · rw [hj0 Y 0 q y3 (by omega)]
      exact ⟨Y, 0, 0, 0, q, rfl, hS7.tr y2, y3, ws1n c y4⟩
    · obtain ⟨Z, w1, w2, w3⟩ := hj Y (j + 1) (2, d + j) (hS7.tr y2) z4 rfl (by show d + j ≤ _; omega) _ rfl
      exact ⟨Z, _, _, _, _, w1, w2, w3, ws1 c z1 z2 z3 rfl⟩
  · rw [c, if_neg (by decide)]
    obtain ⟨Z, w1, w2, w3⟩ := hj X7 0 q hS7 hW7 c (by omega) _ rfl
    exact ⟨Z, _, _, _, _, w1, w2, w3, ws2 c hq2 rfl⟩
