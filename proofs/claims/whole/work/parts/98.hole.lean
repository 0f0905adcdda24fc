theorem law_holds {G : Gx} (hG : GOK G) {b L : Nat} {xs : Nat → Int32} (hL : L ≤ 2560) : wp_law G b L xs (Gro G) := by
  sorry
