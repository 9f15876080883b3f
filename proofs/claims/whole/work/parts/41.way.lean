/-! one thing's way, by numbers -/
def spr (x : Nat) : Nat := (x + 13) / 14 * 14
theorem spr_ge (x : Nat) : x ≤ spr x := by unfold spr; omega
theorem spr_mod (x : Nat) : spr x % 14 = 0 := by unfold spr; omega
theorem spr_min {x e : Nat} (h : e % 14 = 0) (h2 : x ≤ e) : spr x ≤ e := by unfold spr; omega
theorem spr_lt (x : Nat) : spr x < x + 14 := by unfold spr; omega
theorem tm_pos (k : Nat) : 1 ≤ tm k := by unfold tm; (repeat' split) <;> omega
theorem tm_le (k : Nat) : tm k ≤ 28 := by unfold tm; (repeat' split) <;> omega
theorem mk_mod {x y : Nat} (h : x % 14 = y % 14) : mk x = mk y := by unfold mk; rw [h]
theorem tk_mod (k g : Nat) {x y : Nat} (h : x % 14 = y % 14) : tk k g x = tk k g y := by unfold tk; rw [mk_mod h, h]
theorem ev_add (k h d : Nat) (q : Nat × Nat) (a : Nat) : ∀ b, ev k h d q (a + b) = ev k h (d + a) (ev k h d q a) b
  | 0 => rfl
  | b + 1 => by
    show sp k h (d + (a + b)) (ev k h d q (a + b)) = sp k h (d + a + b) (ev k h (d + a) (ev k h d q a) b)
    rw [ev_add k h d q a b, Nat.add_assoc]
theorem tot_add (k h w r d : Nat) (q : Nat × Nat) (a : Nat) : ∀ b, tot k h w r d q (a + b) = tot k h w r d q a + tot k h w r (d + a) (ev k h d q a) b
  | 0 => rfl
  | b + 1 => by
    show tot k h w r d q (a + b) + ic k w r (d + (a + b)) (ev k h d q (a + b)) = tot k h w r d q a + (tot k h w r (d + a) (ev k h d q a) b + ic k w r (d + a + b) (ev k h (d + a) (ev k h d q a) b))
    rw [tot_add k h w r d q a b, ev_add, Nat.add_assoc, Nat.add_assoc]
/-- nothing happens for m days -/
theorem still (k h d : Nat) (q : Nat × Nat) : ∀ m, (∀ j, j < m → sp k h (d + j) q = q ∧ ∀ w r, ic k w r (d + j) q = 0) → ev k h d q m = q ∧ ∀ w r, tot k h w r d q m = 0
  | 0, _ => ⟨rfl, fun _ _ => rfl⟩
  | m + 1, H => by
    obtain ⟨a, b⟩ := still k h d q m (fun j hj => H j (by omega))
    obtain ⟨c, e⟩ := H m (by omega)
    refine ⟨?_, fun w r => ?_⟩
    · show sp k h (d + m) (ev k h d q m) = q
      rw [a, c]
    · show tot k h w r d q m + ic k w r (d + m) (ev k h d q m) = 0
      rw [a, b, e]
theorem sp0 {k h d : Nat} {q : Nat × Nat} (h0 : q.1 = 0) : sp k h d q = q ∧ ∀ w r, ic k w r d q = 0 := by
  refine ⟨?_, fun w r => ?_⟩
  · unfold sp; rw [if_neg (by omega), if_neg (fun c => absurd c.1 (by omega))]
  · unfold ic; rw [if_neg (fun c => absurd c.1 (by omega))]
theorem sp1 {k h d : Nat} {q : Nat × Nat} (h0 : q.1 = 1) (ht : tk k h d = false) : sp k h d q = q ∧ ∀ w r, ic k w r d q = 0 := by
  refine ⟨?_, fun w r => ?_⟩
  · unfold sp; rw [if_neg (by omega), if_neg (fun c => by rw [ht] at c; exact absurd c.2 (by decide))]
  · unfold ic; rw [if_neg (fun c => absurd c.1 (by omega))]
theorem sp2 {k h d : Nat} {q : Nat × Nat} (h0 : q.1 = 2) (hn : ¬ (d % 14 = 0 ∧ tm k ≤ d - q.2)) : sp k h d q = q ∧ ∀ w r, ic k w r d q = 0 := by
  refine ⟨?_, fun w r => ?_⟩
  · unfold sp; rw [if_pos h0, if_neg hn]
  · unfold ic; rw [if_neg (fun c => hn c.2)]
def WS (k h d : Nat) (q : Nat × Nat) (n l b a : Nat) (p : Nat × Nat) : Prop := p = ev k h d q n ∧ l ≤ n ∧ b ≤ n ∧ a ≤ d + n ∧ (∀ i, i ≤ n → ∀ w r, tot k h w r d q i = if 0 < b ∧ b ≤ i then rp k w r p.2 a else 0) ∧ (∀ i, i ≤ n → q.1 ≠ 0 → ((ev k h d q i).1 = 0 ↔ 0 < b ∧ b ≤ i)) ∧ (q.1 = 1 → (∀ i, i ≤ n → (ev k h d q i).1 = 2 → 0 < l ∧ l ≤ i) ∧ (0 < l → (ev k h d q l).1 = 2)) ∧ (q.1 = 0 → b = 0)
theorem ws0 {k h d n : Nat} {q : Nat × Nat} (h0 : q.1 = 0) : WS k h d q n 0 0 0 q := by
  have H : ∀ i, ev k h d q i = q ∧ ∀ w r, tot k h w r d q i = 0 := fun i => still k h d q i (fun j _ => sp0 h0)
  refine ⟨(H n).1.symm, by omega, by omega, by omega, fun i _ w r => ?_, fun i _ c => absurd h0 c, fun c => absurd c (by omega), fun _ => rfl⟩
  rw [(H i).2 w r, if_neg (by omega)]
theorem ws1n {k h d n : Nat} {q : Nat × Nat} (h0 : q.1 = 1) (ht : ∀ j, j < n → tk k h (d + j) = false) : WS k h d q n 0 0 0 q := by
  have H : ∀ i, i ≤ n → ev k h d q i = q ∧ ∀ w r, tot k h w r d q i = 0 := fun i hi => still k h d q i (fun j hj => sp1 h0 (ht j (by omega)))
  refine ⟨(H n (by omega)).1.symm, by omega, by omega, by omega, fun i hi w r => ?_, fun i hi _ => ?_, fun _ => ⟨fun i hi c => ?_, fun c => absurd c (by omega)⟩, fun c => absurd c (by omega)⟩
  · rw [(H i hi).2 w r, if_neg (by omega)]
  · rw [(H i hi).1]; omega
  · rw [(H i hi).1] at c; omega
theorem ws2 {k h d n : Nat} {q : Nat × Nat} (h0 : q.1 = 2) (hq : q.2 ≤ d) {B : Nat} (hB : B = spr (max d (q.2 + tm k))) : WS k h d q n 0 (if B - d < n then B - d + 1 else 0) (if B - d < n then B - q.2 else 0) (if B - d < n then (0, q.2) else q) := by
  have b1 : d ≤ B := by have := spr_ge (max d (q.2 + tm k)); omega
  have b2 : q.2 + tm k ≤ B := by have := spr_ge (max d (q.2 + tm k)); omega
  have b3 : B % 14 = 0 := by rw [hB]; exact spr_mod _
  have H : ∀ i, i ≤ B - d → ev k h d q i = q ∧ ∀ w r, tot k h w r d q i = 0 := fun i hi => still k h d q i (fun j hj => sp2 h0 (fun c => by
    have := spr_min (x := max d (q.2 + tm k)) c.1 (by omega)
    omega))
  have H2 : ∀ m, ev k h d q (B - d + 1 + m) = (0, q.2) ∧ ∀ w r, tot k h w r d q (B - d + 1 + m) = rp k w r q.2 (B - q.2) := by
    have c : (B % 14 = 0 ∧ tm k ≤ B - q.2) := ⟨b3, by omega⟩
    have e1 : ev k h d q (B - d + 1) = (0, q.2) := by
      show sp k h (d + (B - d)) (ev k h d q (B - d)) = _
      rw [(H _ (Nat.le_refl _)).1, show d + (B - d) = B from by omega]
      unfold sp
      rw [if_pos h0, if_pos c]
    have e2 : ∀ w r, tot k h w r d q (B - d + 1) = rp k w r q.2 (B - q.2) := fun w r => by
      show tot k h w r d q (B - d) + ic k w r (d + (B - d)) (ev k h d q (B - d)) = _
      rw [(H _ (Nat.le_refl _)).1, (H _ (Nat.le_refl _)).2, show d + (B - d) = B from by omega, Nat.zero_add]
      unfold ic
      rw [if_pos ⟨h0, c⟩]
    intro m
    have s := still k h (d + (B - d + 1)) (0, q.2) m (fun j _ => sp0 rfl)
    refine ⟨by rw [ev_add, e1]; exact s.1, fun w r => by rw [tot_add, e1, e2, s.2]; rfl⟩
  by_cases hn : B - d < n
  · rw [if_pos hn, if_pos hn, if_pos hn]
    refine ⟨?_, by omega, by omega, by omega, fun i hi w r => ?_, fun i hi _ => ?_, fun c => absurd c (by omega), fun c => absurd c (by omega)⟩
    · have := (H2 (n - (B - d + 1))).1
      rw [show B - d + 1 + (n - (B - d + 1)) = n from by omega] at this
      exact this.symm
    · by_cases hi2 : i ≤ B - d
      · rw [(H i hi2).2, if_neg (by omega)]
      · have := (H2 (i - (B - d + 1))).2 w r
        rw [show B - d + 1 + (i - (B - d + 1)) = i from by omega] at this
        rw [this, if_pos (by omega)]
    · by_cases hi2 : i ≤ B - d
      · rw [(H i hi2).1]; omega
      · have := (H2 (i - (B - d + 1))).1
        rw [show B - d + 1 + (i - (B - d + 1)) = i from by omega] at this
        rw [this]
        exact ⟨fun _ => by omega, fun _ => rfl⟩
  · rw [if_neg hn, if_neg hn, if_neg hn]
    refine ⟨(H n (by omega)).1.symm, by omega, by omega, by omega, fun i hi w r => ?_, fun i hi _ => ?_, fun c => absurd c (by omega), fun c => absurd c (by omega)⟩
    · rw [(H i (by omega)).2, if_neg (by omega)]
    · rw [(H i (by omega)).1]; omega
theorem ws1 {k h d n j : Nat} {q : Nat × Nat} (h0 : q.1 = 1) (hj : j < n) (ht : ∀ i, i < j → tk k h (d + i) = false) (htj : tk k h (d + j) = true) {B : Nat} (hB : B = spr (max d (d + j + tm k))) : WS k h d q n (j + 1) (if B - d < n then B - d + 1 else 0) (if B - d < n then B - (d + j) else 0) (if B - d < n then (0, d + j) else (2, d + j)) := by
  have t1 := tm_pos k
  have H : ∀ i, i ≤ j → ev k h d q i = q ∧ ∀ w r, tot k h w r d q i = 0 := fun i hi => still k h d q i (fun u hu => sp1 h0 (ht u (by omega)))
  have e1 : ev k h d q (j + 1) = (2, d + j) := by
    show sp k h (d + j) (ev k h d q j) = _
    rw [(H j (Nat.le_refl _)).1]
    unfold sp
    rw [if_neg (by omega), if_pos ⟨h0, htj⟩]
  have e2 : ∀ w r, tot k h w r d q (j + 1) = 0 := fun w r => by
    show tot k h w r d q j + ic k w r (d + j) (ev k h d q j) = _
    rw [(H j (Nat.le_refl _)).1, (H j (Nat.le_refl _)).2]
    unfold ic
    rw [if_neg (fun c => absurd c.1 (by omega))]
  have hB2 : B = spr (max (d + (j + 1)) ((2, d + j).2 + tm k)) := by
    rw [hB]
    congr 1
    show max d (d + j + tm k) = max (d + (j + 1)) (d + j + tm k)
    omega
  have b0 : d + (j + 1) ≤ B := by
    have := spr_ge (max (d + (j + 1)) (d + j + tm k))
    have hB3 : B = spr (max (d + (j + 1)) (d + j + tm k)) := hB2
    omega
  obtain ⟨w1, w2, w3, w4, w5, w6, w7⟩ := ws2 (k := k) (h := h) (d := d + (j + 1)) (n := n - (j + 1)) (q := (2, d + j)) rfl (by show d + j ≤ _; omega) hB2
  have hev : ∀ m, ev k h d q (j + 1 + m) = ev k h (d + (j + 1)) (2, d + j) m := fun m => by rw [ev_add, e1]
  have hto : ∀ m w r, tot k h w r d q (j + 1 + m) = tot k h w r (d + (j + 1)) (2, d + j) m := fun m w r => by rw [tot_add, e1, e2, Nat.zero_add]
  have hc : (B - (d + (j + 1)) < n - (j + 1)) ↔ B - d < n := by omega
  simp only [hc] at w1 w2 w3 w4 w5 w6 w7
  refine ⟨?_, by omega, ?_, ?_, fun i hi w r => ?_, fun i hi _ => ?_, fun _ => ⟨fun i hi c => ?_, fun _ => by rw [e1]⟩, fun c => absurd c (by omega)⟩
  · have := hev (n - (j + 1))
    rw [show j + 1 + (n - (j + 1)) = n from by omega] at this
    rw [this]; exact w1
  · split <;> omega
  · split <;> omega
  · by_cases hi2 : i ≤ j
    · rw [(H i hi2).2, if_neg]
      split <;> omega
    · have a1 := hto (i - (j + 1)) w r
      rw [show j + 1 + (i - (j + 1)) = i from by omega] at a1
      rw [a1, w5 (i - (j + 1)) (by omega) w r]
      by_cases hn : B - d < n
      · simp only [hn, if_true]
        by_cases hb : B - d + 1 ≤ i
        · rw [if_pos (by omega), if_pos (by omega)]
        · rw [if_neg (by omega), if_neg (by omega)]
      · simp only [hn, if_false]
        rw [if_neg (by omega), if_neg (by omega)]
  · by_cases hi2 : i ≤ j
    · rw [(H i hi2).1]
      split <;> omega
    · have a1 := hev (i - (j + 1))
      rw [show j + 1 + (i - (j + 1)) = i from by omega] at a1
      rw [a1, w6 (i - (j + 1)) (by omega) (by decide)]
      by_cases hn : B - d < n
      · simp only [hn, if_true]; omega
      · simp only [hn, if_false]; omega
  · by_cases hi2 : i ≤ j
    · rw [(H i hi2).1] at c; omega
    · omega
theorem tk_never {k h d : Nat} (H : ∀ j, j < 14 → tk k h (d + j) = false) (j : Nat) : tk k h (d + j) = false := by
  rw [tk_mod k h (y := d + j % 14) (by omega)]
  exact H _ (by omega)
