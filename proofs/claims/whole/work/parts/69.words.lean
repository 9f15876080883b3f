/-! words and numbers -/
def wd (L : Nat) (b : Nat → Nat) (p : Nat) (ws : List Nat) : Bool := decide (tT L b p = 1 ∧ tN L b p = tS L b p + ws.length ∧ ∀ i, i < ws.length → b (tS L b p + i) = ws.getD i 0)
def wrds : List (List Nat) := [[110, 97, 109, 101, 100], [103, 114, 117, 100, 103, 101], [109, 111, 111, 110, 108, 101, 115, 115], [116, 119, 105, 99, 101], [103, 108, 97, 115, 115], [99, 104, 97, 105, 114], [111, 102], [119, 111, 114, 116, 104], [97, 116], [104, 101, 105, 103, 104, 116], [105, 110, 116, 101, 114, 101, 115, 116]]
theorem wl_len : ∀ w, w < 11 → slen.getD w 0 = (wrds.getD w []).length ∧ (wrds.getD w []).length ≤ 8 := by decide +kernel
theorem wl_chr : ∀ w, w < 11 → ∀ i, i < 8 → i < (wrds.getD w []).length → (sbyt.getD w []).getD i 0 = nI ((wrds.getD w []).getD i 0) ∧ (wrds.getD w []).getD i 0 < 128 := by decide +kernel
theorem c_isWord {X : Mem} {L p w : Nat} {b : Nat → Nat} (hT : TC X L b) (hL : L ≤ 120) (hb : ∀ i, i < L → b i < 256) (hp : p ≤ L) (hC : CL X L b p) (hw : w < 11) : f_Tape_isWord w X = some (if wd L b p (wrds.getD w []) = true then 1 else 0) := by
  have hN := tN_le (b := b) hp
  have hr := tT_r (L := L) (b := b) (p := p)
  have hSN := tN_ge (L := L) (b := b) (p := p)
  obtain ⟨l1, l2⟩ := wl_len w hw
  have hlen : f_String_length w = some (nI (wrds.getD w []).length) := by
    unfold f_String_length
    rw [if_pos hw, l1]
  unfold f_Tape_isWord
  simp only [lt_s1]
  rw [hC.1, hC.2.1, hC.2.2, hlen, bd_s, pk_sub hSN]
  by_cases c1 : tT L b p = 1
  · rw [if_pos (by rw [c1]; rfl)]
    by_cases c2 : tN L b p = tS L b p + (wrds.getD w []).length
    · rw [if_pos (by rw [c2, Nat.add_sub_cancel_left])]
      obtain ⟨r, y1, y2⟩ := it_run (f := fun a => f_Tape_isWord_b28 w X a) (fun i a => a = nI i ∧ ∀ j, j < i → b (tS L b p + j) = (wrds.getD w []).getD j 0) (fun r => r = if wd L b p (wrds.getD w []) = true then 1 else 0) (wrds.getD w []).length (by omega) (0 : Int32) ⟨rfl, fun j hj => absurd hj (by omega)⟩ (by
        intro i a hi ⟨e1, e2⟩
        subst e1
        unfold f_Tape_isWord_b28
        simp only [lt_s1]
        rw [hlen, bd_s, hC.2.1, nI_add]
        by_cases h : i < (wrds.getD w []).length
        · obtain ⟨k1, k2⟩ := wl_chr w hw i (by omega) h
          have hchr : f_String_charAt w (nI i) = some (nI ((wrds.getD w []).getD i 0)) := by
            unfold f_String_charAt
            rw [if_pos ⟨hw, ckn (by omega) (by omega)⟩, nI_clamp (by omega), k1]
          have hx : tS L b p + i < L := by omega
          rw [if_neg (by rw [nI_leI (by omega) (by omega)]; omega), rdn (by omega) (by omega), hT.2 _ hx, hchr, bd_s]
          by_cases d : b (tS L b p + i) = (wrds.getD w []).getD i 0
          · right
            rw [if_pos ((sgn_iff (hb _ hx) k2).mpr d), li 1, nI_add]
            refine ⟨h, _, rfl, rfl, fun j hj => ?_⟩
            by_cases cj : j = i
            · subst cj; exact d
            · exact e2 j (by omega)
          · left
            rw [if_neg (fun q => d ((sgn_iff (hb _ hx) k2).mp q))]
            refine ⟨_, rfl, ?_⟩
            rw [if_neg (fun q => d ((of_decide_eq_true q).2.2 i h))]
        · left
          rw [if_pos (by rw [nI_leI (by omega) (by omega)]; omega)]
          refine ⟨_, rfl, ?_⟩
          rw [if_pos (show wd L b p (wrds.getD w []) = true from decide_eq_true ⟨c1, c2, fun j hj => e2 j (by omega)⟩)])
      rw [y1, y2]
    · rw [if_neg (by rw [nI_eq (by omega) (by omega)]; omega), if_neg (fun q => c2 (of_decide_eq_true q).2.1)]
  · rw [if_neg (by rw [li 1, nI_eq (by omega) (by omega)]; exact c1), if_neg (fun q => c1 (of_decide_eq_true q).1)]
/-- which kind's name: 6, if none -/
def nmo (k : Nat) : Nat := if k = 0 then 5 else k - 1
def kn (L : Nat) (b : Nat → Nat) (p : Nat) : Nat := if wd L b p (wrds.getD (nmo 0) []) = true then 0 else if wd L b p (wrds.getD (nmo 1) []) = true then 1 else if wd L b p (wrds.getD (nmo 2) []) = true then 2 else if wd L b p (wrds.getD (nmo 3) []) = true then 3 else if wd L b p (wrds.getD (nmo 4) []) = true then 4 else if wd L b p (wrds.getD (nmo 5) []) = true then 5 else 6
theorem nmo_all : ∀ k, k < 6 → f_Tape_nameOf (nI k) = some (nmo k) ∧ nmo k < 11 := by decide +kernel
theorem kn_at {L : Nat} {b : Nat → Nat} {p i : Nat} (hi : i < 6) (h : ∀ j, j < i → ¬ wd L b p (wrds.getD (nmo j) []) = true) (h2 : wd L b p (wrds.getD (nmo i) []) = true) : kn L b p = i := by
  unfold kn
  rcases (show i = 0 ∨ i = 1 ∨ i = 2 ∨ i = 3 ∨ i = 4 ∨ i = 5 by omega) with rfl | rfl | rfl | rfl | rfl | rfl
  · rw [if_pos h2]
  · rw [if_neg (h 0 (by omega)), if_pos h2]
  · rw [if_neg (h 0 (by omega)), if_neg (h 1 (by omega)), if_pos h2]
  · rw [if_neg (h 0 (by omega)), if_neg (h 1 (by omega)), if_neg (h 2 (by omega)), if_pos h2]
  · rw [if_neg (h 0 (by omega)), if_neg (h 1 (by omega)), if_neg (h 2 (by omega)), if_neg (h 3 (by omega)), if_pos h2]
  · rw [if_neg (h 0 (by omega)), if_neg (h 1 (by omega)), if_neg (h 2 (by omega)), if_neg (h 3 (by omega)), if_neg (h 4 (by omega)), if_pos h2]
theorem kn_no {L : Nat} {b : Nat → Nat} {p : Nat} (h : ∀ j, j < 6 → ¬ wd L b p (wrds.getD (nmo j) []) = true) : kn L b p = 6 := by
  unfold kn
  rw [if_neg (h 0 (by omega)), if_neg (h 1 (by omega)), if_neg (h 2 (by omega)), if_neg (h 3 (by omega)), if_neg (h 4 (by omega)), if_neg (h 5 (by omega))]
theorem kn_w {L : Nat} {b : Nat → Nat} {p : Nat} (h : kn L b p < 6) : tT L b p = 1 := by
  unfold kn at h
  have hw : ∀ ws, wd L b p ws = true → tT L b p = 1 := fun ws hw => (of_decide_eq_true hw).1
  by_cases c0 : wd L b p (wrds.getD (nmo 0) []) = true
  · exact hw _ c0
  · rw [if_neg c0] at h
    by_cases c1 : wd L b p (wrds.getD (nmo 1) []) = true
    · exact hw _ c1
    · rw [if_neg c1] at h
      by_cases c2 : wd L b p (wrds.getD (nmo 2) []) = true
      · exact hw _ c2
      · rw [if_neg c2] at h
        by_cases c3 : wd L b p (wrds.getD (nmo 3) []) = true
        · exact hw _ c3
        · rw [if_neg c3] at h
          by_cases c4 : wd L b p (wrds.getD (nmo 4) []) = true
          · exact hw _ c4
          · rw [if_neg c4] at h
            by_cases c5 : wd L b p (wrds.getD (nmo 5) []) = true
            · exact hw _ c5
            · rw [if_neg c5] at h; omega
theorem c_kind {X : Mem} {L p : Nat} {b : Nat → Nat} (hT : TC X L b) (hL : L ≤ 120) (hb : ∀ i, i < L → b i < 256) (hp : p ≤ L) (hC : CL X L b p) : f_Tape_kindNamed X = some (if kn L b p < 6 then nI (kn L b p) else -1) := by
  unfold f_Tape_kindNamed
  obtain ⟨r, y1, y2⟩ := it_run (f := fun a => f_Tape_kindNamed_b2 X a) (fun i a => a = nI i ∧ ∀ j, j < i → ¬ wd L b p (wrds.getD (nmo j) []) = true) (fun r => r = if kn L b p < 6 then nI (kn L b p) else -1) 6 (by omega) (0 : Int32) ⟨rfl, fun j hj => absurd hj (by omega)⟩ (by
    intro i a hi ⟨e1, e2⟩
    subst e1
    unfold f_Tape_kindNamed_b2
    simp only [lt_s1]
    rw [li 6]
    by_cases h : i < 6
    · obtain ⟨n1, n2⟩ := nmo_all i h
      rw [if_neg (by rw [nI_leI (by omega) (by omega)]; omega), n1, bd_s, c_isWord hT hL hb hp hC n2, bd_s]
      by_cases d : wd L b p (wrds.getD (nmo i) []) = true
      · left
        rw [if_pos d, if_neg (by decide)]
        refine ⟨_, rfl, ?_⟩
        rw [kn_at h e2 d, if_pos h]
      · right
        rw [if_neg d, if_pos rfl, li 1, nI_add]
        refine ⟨h, _, rfl, rfl, fun j hj => ?_⟩
        by_cases cj : j = i
        · subst cj; exact d
        · exact e2 j (by omega)
    · left
      rw [if_pos (by rw [nI_leI (by omega) (by omega)]; omega)]
      refine ⟨_, rfl, ?_⟩
      rw [kn_no (fun j hj => e2 j (by omega)), if_neg (by omega)])
  rw [y1, y2]
