theorem pure_law {xs : Nat → Int32} {L : Nat} (hL : L ≤ 1536) : ∃ n : Nat, V_law xs L n xM0 xM0 xN0 0 := sorry
