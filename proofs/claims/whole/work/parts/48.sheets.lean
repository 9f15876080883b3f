/-! sheets -/
def hs (A : Ab) (t : Nat) (x : Nat × Nat × (Nat → Int64)) : Ab := (A.1, A.2.1, A.2.2.1, A.2.2.2.1, fun u => if u = t then x else aH A u)
theorem IC.sheet {A : Ab} {X Y : Mem} {t : Nat} {x : Nat × Nat × (Nat → Int64)} (h : IC A X) (hO : Ok A) (ht : t < 4) (hS : Sm (fun k => k = 52 + 2 * t ∨ k = 52 + 2 * t + 1) X Y) (h1 : gI Y (52 + 2 * t) 1 = nI x.1) (h2 : gI Y (52 + 2 * t) 2 = nI x.2.1) (h3 : ∀ j, j < 40 → gL Y (52 + 2 * t + 1) j = x.2.2 j) : IC (hs A t x) Y ∧ Sm C70 X Y := by
  refine ⟨⟨h.1.sm hO.1.1 hS (by omega), h.2.1.sm (fun u hu => (hO.2.1 u hu).1) hS (by omega) (by omega), h.2.2.1.sm hS (by omega), h.2.2.2.1.sm hS (by omega) (by omega), fun u hu => ?_⟩, hS.mono (fun q hq => by unfold C70; omega)⟩
  by_cases c : u = t
  · subst c
    have e : aH (hs A u x) u = x := if_pos rfl
    rw [e]; exact ⟨h1, h2, h3⟩
  · have e : aH (hs A t x) u = aH A u := if_neg c
    rw [e]
    obtain ⟨a1, a2, a3⟩ := h.2.2.2.2 u hu
    exact ⟨((hS _ (by omega)).1 1).trans a1, ((hS _ (by omega)).1 2).trans a2, fun j hj => ((hS _ (by omega)).2 j).trans (a3 j hj)⟩
theorem IM.sheet {A : Ab} {X Y : Mem} {t : Nat} {x : Nat × Nat × (Nat → Int64)} (h : IM A X) (ht : t < 4) (hS : Sm (fun k => k = 77 ∨ k = 78 ∨ k = 79) X Y) (hn : ∀ u, u < 4 → u ≠ t → gI Y 77 u = gI X 77 u ∧ gI Y 78 u = gI X 78 u ∧ ∀ j, j < 40 → gL Y 79 (40 * u + j) = gL X 79 (40 * u + j)) (h1 : gI Y 77 t = (if x.1 = 0 then -1 else nI x.1)) (h2 : gI Y 78 t = nI x.2.1) (h3 : ∀ j, j < 40 → gL Y 79 (40 * t + j) = x.2.2 j) : IM (hs A t x) Y ∧ Sm M70 X Y := by
  refine ⟨⟨h.1.sm hS (by omega), h.2.1.sm hS (by omega) (by omega), h.2.2.1.sm hS (by omega), h.2.2.2.1.sm hS (by omega) (by omega), fun u hu => ?_⟩, hS.mono (fun q hq => by unfold M70; omega)⟩
  by_cases c : u = t
  · subst c
    have e : aH (hs A u x) u = x := if_pos rfl
    rw [e]; exact ⟨h1, h2, h3⟩
  · have e : aH (hs A t x) u = aH A u := if_neg c
    rw [e]
    obtain ⟨a1, a2, a3⟩ := h.2.2.2.2 u hu
    obtain ⟨b1, b2, b3⟩ := hn u hu c
    exact ⟨b1.trans a1, b2.trans a2, fun j hj => (b3 j hj).trans (a3 j hj)⟩
theorem Ok.sheet {A : Ab} {t : Nat} {x : Nat × Nat × (Nat → Int64)} (h : Ok A) (h1 : (x.1 = 0 ∨ x.1 = 8 ∨ x.1 = 16 ∨ x.1 = 64) ∧ x.2.1 ≤ 40 ∧ (x.1 = 0 → x.2.1 = 0)) : Ok (hs A t x) := by
  refine ⟨h.1, h.2.1, h.2.2.1, h.2.2.2.1, fun u hu => ?_⟩
  by_cases c : u = t
  · have e : aH (hs A t x) u = x := if_pos c
    rw [e]; exact h1
  · have e : aH (hs A t x) u = aH A u := if_neg c
    rw [e]; exact h.2.2.2.2 u hu
theorem m_isSheet {p : Int32} : f_Model_isSheet p = some (if 0 ≤ p.toInt ∧ p.toInt < ((4 : Nat) : Int) then 1 else 0) := by
  have := c_isBelow (p := p) (n := 4) (by omega)
  exact this
theorem c_missing {A : Ab} {X : Mem} (h : IC A X) (hO : Ok A) {t : Nat} (ht : t < 4) : f_Sheet_isMissing (52 + 2 * t) X = some (if (aH A t).1 = 0 then 1 else 0) := by
  obtain ⟨a1, a2, a3⟩ := hO.2.2.2.2 t ht
  unfold f_Sheet_isMissing
  rw [lt_s1, (h.2.2.2.2 t ht).1]
  by_cases c : (aH A t).1 = 0
  · rw [c, if_pos (by decide), if_pos rfl]
  · rw [if_neg (by rw [li 0, nI_eq (by omega) (by omega)]; exact c), if_neg c]
