theorem pure_law (xs : Nat → Int32) (L : Nat) (hL : L ≤ 3072) : it (fun a => f_law_b18 xs L a.1 a.2) FU ((0 : Int32), Xf) = some 1 := sorry
