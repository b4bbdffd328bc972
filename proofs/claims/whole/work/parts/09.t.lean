theorem tt_isWay (S : mm_S) (w : Int) : Cl 0 [(2, 0), (0, w)] S (fun v S' => S' = S) := by
  sorry
theorem i_vc : Claimed_1_1 ∧ Claimed_1_2 := sorry
