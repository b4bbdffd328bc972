/-! Whole numbers, as the class tells them: it ends, and leaves the rest. -/
theorem R_idivW {cd : List mm_E} {pc len r1 r2 : Nat} {r3 : Int} {ls st : List mm_V} {S : mm_S} {Q : Option mm_V → mm_S → Prop} {x y : Int} {nx : Nat} (hf : mm_find cd pc = some (pc, .idiv, len, r1, r2, r3)) (hn : pc + len = nx) (hy : y ≠ 0) (k : Rn cd nx ls ((0, mm_w32 (Int.tdiv x y)) :: st) S Q) : Rn cd pc ls ((0, y) :: (0, x) :: st) S Q := by
  subst hn
  exact Rn.op _ hf (show (if y = 0 then none else some (pc + len, (0, mm_w32 (Int.tdiv x y)) :: st, S)) = _ by rw [if_neg hy]) k
theorem shl_b {k : Int} (h : 0 ≤ k ∧ k ≤ 12) : 1 ≤ (Int32.ofInt 1 <<< (Int32.ofInt k &&& 31)).toInt ∧ (Int32.ofInt 1 <<< (Int32.ofInt k &&& 31)).toInt ≤ 4096 := by
  have : k = 0 ∨ k = 1 ∨ k = 2 ∨ k = 3 ∨ k = 4 ∨ k = 5 ∨ k = 6 ∨ k = 7 ∨ k = 8 ∨ k = 9 ∨ k = 10 ∨ k = 11 ∨ k = 12 := by omega
  rcases this with rfl | rfl | rfl | rfl | rfl | rfl | rfl | rfl | rfl | rfl | rfl | rfl | rfl <;> decide

set_option maxRecDepth 20000 in
set_option maxHeartbeats 4000000 in
theorem c_In_bitCount (S : mm_S) (x : Int) : Cl 182 [(0, x)] S (fun v S' => ∃ z, v = some (0, z) ∧ S = S') := by
  refine ⟨Nat.le_of_ble_eq_true rfl, ?_⟩
  show Rn k_In_bitCount 0 [(0, x)] [] S _
  refine R_lo (nx := 1) rfl rfl rfl rfl ?_
  refine R_lo (nx := 2) rfl rfl rfl rfl ?_
  refine R_op (nx := 3) rfl rfl rfl ?_
  refine R_op (nx := 4) (st' := [(0, ((Int32.ofInt x).toUInt32 >>> ((Int32.ofInt 1).toUInt32 &&& Int32.toUInt32 31)).toInt32.toInt), (0, x)]) rfl rfl rfl ?_
  refine R_op (nx := 7) rfl rfl rfl ?_
  refine R_op (nx := 8) (st' := [(0, (Int32.ofInt ((Int32.ofInt x).toUInt32 >>> ((Int32.ofInt 1).toUInt32 &&& Int32.toUInt32 31)).toInt32.toInt &&& Int32.ofInt 1431655765).toInt), (0, x)]) rfl rfl rfl ?_
  refine R_op (nx := 9) (st' := [(0, (mm_w32 (x - (Int32.ofInt ((Int32.ofInt x).toUInt32 >>> ((Int32.ofInt 1).toUInt32 &&& Int32.toUInt32 31)).toInt32.toInt &&& Int32.ofInt 1431655765).toInt)))]) rfl rfl rfl ?_
  refine R_lo (nx := 10) (ls' := [(0, (mm_w32 (x - (Int32.ofInt ((Int32.ofInt x).toUInt32 >>> ((Int32.ofInt 1).toUInt32 &&& Int32.toUInt32 31)).toInt32.toInt &&& Int32.ofInt 1431655765).toInt)))]) rfl rfl rfl rfl ?_
  refine R_lo (nx := 11) rfl rfl rfl rfl ?_
  refine R_op (nx := 14) rfl rfl rfl ?_
  refine R_op (nx := 15) (st' := [(0, (Int32.ofInt (mm_w32 (x - (Int32.ofInt ((Int32.ofInt x).toUInt32 >>> ((Int32.ofInt 1).toUInt32 &&& Int32.toUInt32 31)).toInt32.toInt &&& Int32.ofInt 1431655765).toInt)) &&& Int32.ofInt 858993459).toInt)]) rfl rfl rfl ?_
  refine R_lo (nx := 16) rfl rfl rfl rfl ?_
  refine R_op (nx := 17) rfl rfl rfl ?_
  refine R_op (nx := 18) (st' := [(0, ((Int32.ofInt (mm_w32 (x - (Int32.ofInt ((Int32.ofInt x).toUInt32 >>> ((Int32.ofInt 1).toUInt32 &&& Int32.toUInt32 31)).toInt32.toInt &&& Int32.ofInt 1431655765).toInt))).toUInt32 >>> ((Int32.ofInt 2).toUInt32 &&& Int32.toUInt32 31)).toInt32.toInt), (0, (Int32.ofInt (mm_w32 (x - (Int32.ofInt ((Int32.ofInt x).toUInt32 >>> ((Int32.ofInt 1).toUInt32 &&& Int32.toUInt32 31)).toInt32.toInt &&& Int32.ofInt 1431655765).toInt)) &&& Int32.ofInt 858993459).toInt)]) rfl rfl rfl ?_
  refine R_op (nx := 21) rfl rfl rfl ?_
  refine R_op (nx := 22) (st' := [(0, (Int32.ofInt ((Int32.ofInt (mm_w32 (x - (Int32.ofInt ((Int32.ofInt x).toUInt32 >>> ((Int32.ofInt 1).toUInt32 &&& Int32.toUInt32 31)).toInt32.toInt &&& Int32.ofInt 1431655765).toInt))).toUInt32 >>> ((Int32.ofInt 2).toUInt32 &&& Int32.toUInt32 31)).toInt32.toInt &&& Int32.ofInt 858993459).toInt), (0, (Int32.ofInt (mm_w32 (x - (Int32.ofInt ((Int32.ofInt x).toUInt32 >>> ((Int32.ofInt 1).toUInt32 &&& Int32.toUInt32 31)).toInt32.toInt &&& Int32.ofInt 1431655765).toInt)) &&& Int32.ofInt 858993459).toInt)]) rfl rfl rfl ?_
  refine R_op (nx := 23) (st' := [(0, (mm_w32 ((Int32.ofInt (mm_w32 (x - (Int32.ofInt ((Int32.ofInt x).toUInt32 >>> ((Int32.ofInt 1).toUInt32 &&& Int32.toUInt32 31)).toInt32.toInt &&& Int32.ofInt 1431655765).toInt)) &&& Int32.ofInt 858993459).toInt + (Int32.ofInt ((Int32.ofInt (mm_w32 (x - (Int32.ofInt ((Int32.ofInt x).toUInt32 >>> ((Int32.ofInt 1).toUInt32 &&& Int32.toUInt32 31)).toInt32.toInt &&& Int32.ofInt 1431655765).toInt))).toUInt32 >>> ((Int32.ofInt 2).toUInt32 &&& Int32.toUInt32 31)).toInt32.toInt &&& Int32.ofInt 858993459).toInt)))]) rfl rfl rfl ?_
  refine R_lo (nx := 24) (ls' := [(0, (mm_w32 ((Int32.ofInt (mm_w32 (x - (Int32.ofInt ((Int32.ofInt x).toUInt32 >>> ((Int32.ofInt 1).toUInt32 &&& Int32.toUInt32 31)).toInt32.toInt &&& Int32.ofInt 1431655765).toInt)) &&& Int32.ofInt 858993459).toInt + (Int32.ofInt ((Int32.ofInt (mm_w32 (x - (Int32.ofInt ((Int32.ofInt x).toUInt32 >>> ((Int32.ofInt 1).toUInt32 &&& Int32.toUInt32 31)).toInt32.toInt &&& Int32.ofInt 1431655765).toInt))).toUInt32 >>> ((Int32.ofInt 2).toUInt32 &&& Int32.toUInt32 31)).toInt32.toInt &&& Int32.ofInt 858993459).toInt)))]) rfl rfl rfl rfl ?_
  refine R_lo (nx := 25) rfl rfl rfl rfl ?_
  refine R_lo (nx := 26) rfl rfl rfl rfl ?_
  refine R_op (nx := 27) rfl rfl rfl ?_
  refine R_op (nx := 28) (st' := [(0, ((Int32.ofInt (mm_w32 ((Int32.ofInt (mm_w32 (x - (Int32.ofInt ((Int32.ofInt x).toUInt32 >>> ((Int32.ofInt 1).toUInt32 &&& Int32.toUInt32 31)).toInt32.toInt &&& Int32.ofInt 1431655765).toInt)) &&& Int32.ofInt 858993459).toInt + (Int32.ofInt ((Int32.ofInt (mm_w32 (x - (Int32.ofInt ((Int32.ofInt x).toUInt32 >>> ((Int32.ofInt 1).toUInt32 &&& Int32.toUInt32 31)).toInt32.toInt &&& Int32.ofInt 1431655765).toInt))).toUInt32 >>> ((Int32.ofInt 2).toUInt32 &&& Int32.toUInt32 31)).toInt32.toInt &&& Int32.ofInt 858993459).toInt))).toUInt32 >>> ((Int32.ofInt 4).toUInt32 &&& Int32.toUInt32 31)).toInt32.toInt), (0, (mm_w32 ((Int32.ofInt (mm_w32 (x - (Int32.ofInt ((Int32.ofInt x).toUInt32 >>> ((Int32.ofInt 1).toUInt32 &&& Int32.toUInt32 31)).toInt32.toInt &&& Int32.ofInt 1431655765).toInt)) &&& Int32.ofInt 858993459).toInt + (Int32.ofInt ((Int32.ofInt (mm_w32 (x - (Int32.ofInt ((Int32.ofInt x).toUInt32 >>> ((Int32.ofInt 1).toUInt32 &&& Int32.toUInt32 31)).toInt32.toInt &&& Int32.ofInt 1431655765).toInt))).toUInt32 >>> ((Int32.ofInt 2).toUInt32 &&& Int32.toUInt32 31)).toInt32.toInt &&& Int32.ofInt 858993459).toInt)))]) rfl rfl rfl ?_
  refine R_op (nx := 29) (st' := [(0, (mm_w32 ((mm_w32 ((Int32.ofInt (mm_w32 (x - (Int32.ofInt ((Int32.ofInt x).toUInt32 >>> ((Int32.ofInt 1).toUInt32 &&& Int32.toUInt32 31)).toInt32.toInt &&& Int32.ofInt 1431655765).toInt)) &&& Int32.ofInt 858993459).toInt + (Int32.ofInt ((Int32.ofInt (mm_w32 (x - (Int32.ofInt ((Int32.ofInt x).toUInt32 >>> ((Int32.ofInt 1).toUInt32 &&& Int32.toUInt32 31)).toInt32.toInt &&& Int32.ofInt 1431655765).toInt))).toUInt32 >>> ((Int32.ofInt 2).toUInt32 &&& Int32.toUInt32 31)).toInt32.toInt &&& Int32.ofInt 858993459).toInt)) + ((Int32.ofInt (mm_w32 ((Int32.ofInt (mm_w32 (x - (Int32.ofInt ((Int32.ofInt x).toUInt32 >>> ((Int32.ofInt 1).toUInt32 &&& Int32.toUInt32 31)).toInt32.toInt &&& Int32.ofInt 1431655765).toInt)) &&& Int32.ofInt 858993459).toInt + (Int32.ofInt ((Int32.ofInt (mm_w32 (x - (Int32.ofInt ((Int32.ofInt x).toUInt32 >>> ((Int32.ofInt 1).toUInt32 &&& Int32.toUInt32 31)).toInt32.toInt &&& Int32.ofInt 1431655765).toInt))).toUInt32 >>> ((Int32.ofInt 2).toUInt32 &&& Int32.toUInt32 31)).toInt32.toInt &&& Int32.ofInt 858993459).toInt))).toUInt32 >>> ((Int32.ofInt 4).toUInt32 &&& Int32.toUInt32 31)).toInt32.toInt)))]) rfl rfl rfl ?_
  refine R_op (nx := 32) rfl rfl rfl ?_
  refine R_op (nx := 33) (st' := [(0, (Int32.ofInt (mm_w32 ((mm_w32 ((Int32.ofInt (mm_w32 (x - (Int32.ofInt ((Int32.ofInt x).toUInt32 >>> ((Int32.ofInt 1).toUInt32 &&& Int32.toUInt32 31)).toInt32.toInt &&& Int32.ofInt 1431655765).toInt)) &&& Int32.ofInt 858993459).toInt + (Int32.ofInt ((Int32.ofInt (mm_w32 (x - (Int32.ofInt ((Int32.ofInt x).toUInt32 >>> ((Int32.ofInt 1).toUInt32 &&& Int32.toUInt32 31)).toInt32.toInt &&& Int32.ofInt 1431655765).toInt))).toUInt32 >>> ((Int32.ofInt 2).toUInt32 &&& Int32.toUInt32 31)).toInt32.toInt &&& Int32.ofInt 858993459).toInt)) + ((Int32.ofInt (mm_w32 ((Int32.ofInt (mm_w32 (x - (Int32.ofInt ((Int32.ofInt x).toUInt32 >>> ((Int32.ofInt 1).toUInt32 &&& Int32.toUInt32 31)).toInt32.toInt &&& Int32.ofInt 1431655765).toInt)) &&& Int32.ofInt 858993459).toInt + (Int32.ofInt ((Int32.ofInt (mm_w32 (x - (Int32.ofInt ((Int32.ofInt x).toUInt32 >>> ((Int32.ofInt 1).toUInt32 &&& Int32.toUInt32 31)).toInt32.toInt &&& Int32.ofInt 1431655765).toInt))).toUInt32 >>> ((Int32.ofInt 2).toUInt32 &&& Int32.toUInt32 31)).toInt32.toInt &&& Int32.ofInt 858993459).toInt))).toUInt32 >>> ((Int32.ofInt 4).toUInt32 &&& Int32.toUInt32 31)).toInt32.toInt)) &&& Int32.ofInt 252645135).toInt)]) rfl rfl rfl ?_
  refine R_lo (nx := 34) (ls' := [(0, (Int32.ofInt (mm_w32 ((mm_w32 ((Int32.ofInt (mm_w32 (x - (Int32.ofInt ((Int32.ofInt x).toUInt32 >>> ((Int32.ofInt 1).toUInt32 &&& Int32.toUInt32 31)).toInt32.toInt &&& Int32.ofInt 1431655765).toInt)) &&& Int32.ofInt 858993459).toInt + (Int32.ofInt ((Int32.ofInt (mm_w32 (x - (Int32.ofInt ((Int32.ofInt x).toUInt32 >>> ((Int32.ofInt 1).toUInt32 &&& Int32.toUInt32 31)).toInt32.toInt &&& Int32.ofInt 1431655765).toInt))).toUInt32 >>> ((Int32.ofInt 2).toUInt32 &&& Int32.toUInt32 31)).toInt32.toInt &&& Int32.ofInt 858993459).toInt)) + ((Int32.ofInt (mm_w32 ((Int32.ofInt (mm_w32 (x - (Int32.ofInt ((Int32.ofInt x).toUInt32 >>> ((Int32.ofInt 1).toUInt32 &&& Int32.toUInt32 31)).toInt32.toInt &&& Int32.ofInt 1431655765).toInt)) &&& Int32.ofInt 858993459).toInt + (Int32.ofInt ((Int32.ofInt (mm_w32 (x - (Int32.ofInt ((Int32.ofInt x).toUInt32 >>> ((Int32.ofInt 1).toUInt32 &&& Int32.toUInt32 31)).toInt32.toInt &&& Int32.ofInt 1431655765).toInt))).toUInt32 >>> ((Int32.ofInt 2).toUInt32 &&& Int32.toUInt32 31)).toInt32.toInt &&& Int32.ofInt 858993459).toInt))).toUInt32 >>> ((Int32.ofInt 4).toUInt32 &&& Int32.toUInt32 31)).toInt32.toInt)) &&& Int32.ofInt 252645135).toInt)]) rfl rfl rfl rfl ?_
  refine R_lo (nx := 35) rfl rfl rfl rfl ?_
  refine R_lo (nx := 36) rfl rfl rfl rfl ?_
  refine R_op (nx := 38) rfl rfl rfl ?_
  refine R_op (nx := 39) (st' := [(0, ((Int32.ofInt (Int32.ofInt (mm_w32 ((mm_w32 ((Int32.ofInt (mm_w32 (x - (Int32.ofInt ((Int32.ofInt x).toUInt32 >>> ((Int32.ofInt 1).toUInt32 &&& Int32.toUInt32 31)).toInt32.toInt &&& Int32.ofInt 1431655765).toInt)) &&& Int32.ofInt 858993459).toInt + (Int32.ofInt ((Int32.ofInt (mm_w32 (x - (Int32.ofInt ((Int32.ofInt x).toUInt32 >>> ((Int32.ofInt 1).toUInt32 &&& Int32.toUInt32 31)).toInt32.toInt &&& Int32.ofInt 1431655765).toInt))).toUInt32 >>> ((Int32.ofInt 2).toUInt32 &&& Int32.toUInt32 31)).toInt32.toInt &&& Int32.ofInt 858993459).toInt)) + ((Int32.ofInt (mm_w32 ((Int32.ofInt (mm_w32 (x - (Int32.ofInt ((Int32.ofInt x).toUInt32 >>> ((Int32.ofInt 1).toUInt32 &&& Int32.toUInt32 31)).toInt32.toInt &&& Int32.ofInt 1431655765).toInt)) &&& Int32.ofInt 858993459).toInt + (Int32.ofInt ((Int32.ofInt (mm_w32 (x - (Int32.ofInt ((Int32.ofInt x).toUInt32 >>> ((Int32.ofInt 1).toUInt32 &&& Int32.toUInt32 31)).toInt32.toInt &&& Int32.ofInt 1431655765).toInt))).toUInt32 >>> ((Int32.ofInt 2).toUInt32 &&& Int32.toUInt32 31)).toInt32.toInt &&& Int32.ofInt 858993459).toInt))).toUInt32 >>> ((Int32.ofInt 4).toUInt32 &&& Int32.toUInt32 31)).toInt32.toInt)) &&& Int32.ofInt 252645135).toInt).toUInt32 >>> ((Int32.ofInt 8).toUInt32 &&& Int32.toUInt32 31)).toInt32.toInt), (0, (Int32.ofInt (mm_w32 ((mm_w32 ((Int32.ofInt (mm_w32 (x - (Int32.ofInt ((Int32.ofInt x).toUInt32 >>> ((Int32.ofInt 1).toUInt32 &&& Int32.toUInt32 31)).toInt32.toInt &&& Int32.ofInt 1431655765).toInt)) &&& Int32.ofInt 858993459).toInt + (Int32.ofInt ((Int32.ofInt (mm_w32 (x - (Int32.ofInt ((Int32.ofInt x).toUInt32 >>> ((Int32.ofInt 1).toUInt32 &&& Int32.toUInt32 31)).toInt32.toInt &&& Int32.ofInt 1431655765).toInt))).toUInt32 >>> ((Int32.ofInt 2).toUInt32 &&& Int32.toUInt32 31)).toInt32.toInt &&& Int32.ofInt 858993459).toInt)) + ((Int32.ofInt (mm_w32 ((Int32.ofInt (mm_w32 (x - (Int32.ofInt ((Int32.ofInt x).toUInt32 >>> ((Int32.ofInt 1).toUInt32 &&& Int32.toUInt32 31)).toInt32.toInt &&& Int32.ofInt 1431655765).toInt)) &&& Int32.ofInt 858993459).toInt + (Int32.ofInt ((Int32.ofInt (mm_w32 (x - (Int32.ofInt ((Int32.ofInt x).toUInt32 >>> ((Int32.ofInt 1).toUInt32 &&& Int32.toUInt32 31)).toInt32.toInt &&& Int32.ofInt 1431655765).toInt))).toUInt32 >>> ((Int32.ofInt 2).toUInt32 &&& Int32.toUInt32 31)).toInt32.toInt &&& Int32.ofInt 858993459).toInt))).toUInt32 >>> ((Int32.ofInt 4).toUInt32 &&& Int32.toUInt32 31)).toInt32.toInt)) &&& Int32.ofInt 252645135).toInt)]) rfl rfl rfl ?_
  refine R_op (nx := 40) (st' := [(0, (mm_w32 ((Int32.ofInt (mm_w32 ((mm_w32 ((Int32.ofInt (mm_w32 (x - (Int32.ofInt ((Int32.ofInt x).toUInt32 >>> ((Int32.ofInt 1).toUInt32 &&& Int32.toUInt32 31)).toInt32.toInt &&& Int32.ofInt 1431655765).toInt)) &&& Int32.ofInt 858993459).toInt + (Int32.ofInt ((Int32.ofInt (mm_w32 (x - (Int32.ofInt ((Int32.ofInt x).toUInt32 >>> ((Int32.ofInt 1).toUInt32 &&& Int32.toUInt32 31)).toInt32.toInt &&& Int32.ofInt 1431655765).toInt))).toUInt32 >>> ((Int32.ofInt 2).toUInt32 &&& Int32.toUInt32 31)).toInt32.toInt &&& Int32.ofInt 858993459).toInt)) + ((Int32.ofInt (mm_w32 ((Int32.ofInt (mm_w32 (x - (Int32.ofInt ((Int32.ofInt x).toUInt32 >>> ((Int32.ofInt 1).toUInt32 &&& Int32.toUInt32 31)).toInt32.toInt &&& Int32.ofInt 1431655765).toInt)) &&& Int32.ofInt 858993459).toInt + (Int32.ofInt ((Int32.ofInt (mm_w32 (x - (Int32.ofInt ((Int32.ofInt x).toUInt32 >>> ((Int32.ofInt 1).toUInt32 &&& Int32.toUInt32 31)).toInt32.toInt &&& Int32.ofInt 1431655765).toInt))).toUInt32 >>> ((Int32.ofInt 2).toUInt32 &&& Int32.toUInt32 31)).toInt32.toInt &&& Int32.ofInt 858993459).toInt))).toUInt32 >>> ((Int32.ofInt 4).toUInt32 &&& Int32.toUInt32 31)).toInt32.toInt)) &&& Int32.ofInt 252645135).toInt + ((Int32.ofInt (Int32.ofInt (mm_w32 ((mm_w32 ((Int32.ofInt (mm_w32 (x - (Int32.ofInt ((Int32.ofInt x).toUInt32 >>> ((Int32.ofInt 1).toUInt32 &&& Int32.toUInt32 31)).toInt32.toInt &&& Int32.ofInt 1431655765).toInt)) &&& Int32.ofInt 858993459).toInt + (Int32.ofInt ((Int32.ofInt (mm_w32 (x - (Int32.ofInt ((Int32.ofInt x).toUInt32 >>> ((Int32.ofInt 1).toUInt32 &&& Int32.toUInt32 31)).toInt32.toInt &&& Int32.ofInt 1431655765).toInt))).toUInt32 >>> ((Int32.ofInt 2).toUInt32 &&& Int32.toUInt32 31)).toInt32.toInt &&& Int32.ofInt 858993459).toInt)) + ((Int32.ofInt (mm_w32 ((Int32.ofInt (mm_w32 (x - (Int32.ofInt ((Int32.ofInt x).toUInt32 >>> ((Int32.ofInt 1).toUInt32 &&& Int32.toUInt32 31)).toInt32.toInt &&& Int32.ofInt 1431655765).toInt)) &&& Int32.ofInt 858993459).toInt + (Int32.ofInt ((Int32.ofInt (mm_w32 (x - (Int32.ofInt ((Int32.ofInt x).toUInt32 >>> ((Int32.ofInt 1).toUInt32 &&& Int32.toUInt32 31)).toInt32.toInt &&& Int32.ofInt 1431655765).toInt))).toUInt32 >>> ((Int32.ofInt 2).toUInt32 &&& Int32.toUInt32 31)).toInt32.toInt &&& Int32.ofInt 858993459).toInt))).toUInt32 >>> ((Int32.ofInt 4).toUInt32 &&& Int32.toUInt32 31)).toInt32.toInt)) &&& Int32.ofInt 252645135).toInt).toUInt32 >>> ((Int32.ofInt 8).toUInt32 &&& Int32.toUInt32 31)).toInt32.toInt)))]) rfl rfl rfl ?_
  refine R_lo (nx := 41) (ls' := [(0, (mm_w32 ((Int32.ofInt (mm_w32 ((mm_w32 ((Int32.ofInt (mm_w32 (x - (Int32.ofInt ((Int32.ofInt x).toUInt32 >>> ((Int32.ofInt 1).toUInt32 &&& Int32.toUInt32 31)).toInt32.toInt &&& Int32.ofInt 1431655765).toInt)) &&& Int32.ofInt 858993459).toInt + (Int32.ofInt ((Int32.ofInt (mm_w32 (x - (Int32.ofInt ((Int32.ofInt x).toUInt32 >>> ((Int32.ofInt 1).toUInt32 &&& Int32.toUInt32 31)).toInt32.toInt &&& Int32.ofInt 1431655765).toInt))).toUInt32 >>> ((Int32.ofInt 2).toUInt32 &&& Int32.toUInt32 31)).toInt32.toInt &&& Int32.ofInt 858993459).toInt)) + ((Int32.ofInt (mm_w32 ((Int32.ofInt (mm_w32 (x - (Int32.ofInt ((Int32.ofInt x).toUInt32 >>> ((Int32.ofInt 1).toUInt32 &&& Int32.toUInt32 31)).toInt32.toInt &&& Int32.ofInt 1431655765).toInt)) &&& Int32.ofInt 858993459).toInt + (Int32.ofInt ((Int32.ofInt (mm_w32 (x - (Int32.ofInt ((Int32.ofInt x).toUInt32 >>> ((Int32.ofInt 1).toUInt32 &&& Int32.toUInt32 31)).toInt32.toInt &&& Int32.ofInt 1431655765).toInt))).toUInt32 >>> ((Int32.ofInt 2).toUInt32 &&& Int32.toUInt32 31)).toInt32.toInt &&& Int32.ofInt 858993459).toInt))).toUInt32 >>> ((Int32.ofInt 4).toUInt32 &&& Int32.toUInt32 31)).toInt32.toInt)) &&& Int32.ofInt 252645135).toInt + ((Int32.ofInt (Int32.ofInt (mm_w32 ((mm_w32 ((Int32.ofInt (mm_w32 (x - (Int32.ofInt ((Int32.ofInt x).toUInt32 >>> ((Int32.ofInt 1).toUInt32 &&& Int32.toUInt32 31)).toInt32.toInt &&& Int32.ofInt 1431655765).toInt)) &&& Int32.ofInt 858993459).toInt + (Int32.ofInt ((Int32.ofInt (mm_w32 (x - (Int32.ofInt ((Int32.ofInt x).toUInt32 >>> ((Int32.ofInt 1).toUInt32 &&& Int32.toUInt32 31)).toInt32.toInt &&& Int32.ofInt 1431655765).toInt))).toUInt32 >>> ((Int32.ofInt 2).toUInt32 &&& Int32.toUInt32 31)).toInt32.toInt &&& Int32.ofInt 858993459).toInt)) + ((Int32.ofInt (mm_w32 ((Int32.ofInt (mm_w32 (x - (Int32.ofInt ((Int32.ofInt x).toUInt32 >>> ((Int32.ofInt 1).toUInt32 &&& Int32.toUInt32 31)).toInt32.toInt &&& Int32.ofInt 1431655765).toInt)) &&& Int32.ofInt 858993459).toInt + (Int32.ofInt ((Int32.ofInt (mm_w32 (x - (Int32.ofInt ((Int32.ofInt x).toUInt32 >>> ((Int32.ofInt 1).toUInt32 &&& Int32.toUInt32 31)).toInt32.toInt &&& Int32.ofInt 1431655765).toInt))).toUInt32 >>> ((Int32.ofInt 2).toUInt32 &&& Int32.toUInt32 31)).toInt32.toInt &&& Int32.ofInt 858993459).toInt))).toUInt32 >>> ((Int32.ofInt 4).toUInt32 &&& Int32.toUInt32 31)).toInt32.toInt)) &&& Int32.ofInt 252645135).toInt).toUInt32 >>> ((Int32.ofInt 8).toUInt32 &&& Int32.toUInt32 31)).toInt32.toInt)))]) rfl rfl rfl rfl ?_
  refine R_lo (nx := 42) rfl rfl rfl rfl ?_
  refine R_lo (nx := 43) rfl rfl rfl rfl ?_
  refine R_op (nx := 45) rfl rfl rfl ?_
  refine R_op (nx := 46) (st' := [(0, ((Int32.ofInt (mm_w32 ((Int32.ofInt (mm_w32 ((mm_w32 ((Int32.ofInt (mm_w32 (x - (Int32.ofInt ((Int32.ofInt x).toUInt32 >>> ((Int32.ofInt 1).toUInt32 &&& Int32.toUInt32 31)).toInt32.toInt &&& Int32.ofInt 1431655765).toInt)) &&& Int32.ofInt 858993459).toInt + (Int32.ofInt ((Int32.ofInt (mm_w32 (x - (Int32.ofInt ((Int32.ofInt x).toUInt32 >>> ((Int32.ofInt 1).toUInt32 &&& Int32.toUInt32 31)).toInt32.toInt &&& Int32.ofInt 1431655765).toInt))).toUInt32 >>> ((Int32.ofInt 2).toUInt32 &&& Int32.toUInt32 31)).toInt32.toInt &&& Int32.ofInt 858993459).toInt)) + ((Int32.ofInt (mm_w32 ((Int32.ofInt (mm_w32 (x - (Int32.ofInt ((Int32.ofInt x).toUInt32 >>> ((Int32.ofInt 1).toUInt32 &&& Int32.toUInt32 31)).toInt32.toInt &&& Int32.ofInt 1431655765).toInt)) &&& Int32.ofInt 858993459).toInt + (Int32.ofInt ((Int32.ofInt (mm_w32 (x - (Int32.ofInt ((Int32.ofInt x).toUInt32 >>> ((Int32.ofInt 1).toUInt32 &&& Int32.toUInt32 31)).toInt32.toInt &&& Int32.ofInt 1431655765).toInt))).toUInt32 >>> ((Int32.ofInt 2).toUInt32 &&& Int32.toUInt32 31)).toInt32.toInt &&& Int32.ofInt 858993459).toInt))).toUInt32 >>> ((Int32.ofInt 4).toUInt32 &&& Int32.toUInt32 31)).toInt32.toInt)) &&& Int32.ofInt 252645135).toInt + ((Int32.ofInt (Int32.ofInt (mm_w32 ((mm_w32 ((Int32.ofInt (mm_w32 (x - (Int32.ofInt ((Int32.ofInt x).toUInt32 >>> ((Int32.ofInt 1).toUInt32 &&& Int32.toUInt32 31)).toInt32.toInt &&& Int32.ofInt 1431655765).toInt)) &&& Int32.ofInt 858993459).toInt + (Int32.ofInt ((Int32.ofInt (mm_w32 (x - (Int32.ofInt ((Int32.ofInt x).toUInt32 >>> ((Int32.ofInt 1).toUInt32 &&& Int32.toUInt32 31)).toInt32.toInt &&& Int32.ofInt 1431655765).toInt))).toUInt32 >>> ((Int32.ofInt 2).toUInt32 &&& Int32.toUInt32 31)).toInt32.toInt &&& Int32.ofInt 858993459).toInt)) + ((Int32.ofInt (mm_w32 ((Int32.ofInt (mm_w32 (x - (Int32.ofInt ((Int32.ofInt x).toUInt32 >>> ((Int32.ofInt 1).toUInt32 &&& Int32.toUInt32 31)).toInt32.toInt &&& Int32.ofInt 1431655765).toInt)) &&& Int32.ofInt 858993459).toInt + (Int32.ofInt ((Int32.ofInt (mm_w32 (x - (Int32.ofInt ((Int32.ofInt x).toUInt32 >>> ((Int32.ofInt 1).toUInt32 &&& Int32.toUInt32 31)).toInt32.toInt &&& Int32.ofInt 1431655765).toInt))).toUInt32 >>> ((Int32.ofInt 2).toUInt32 &&& Int32.toUInt32 31)).toInt32.toInt &&& Int32.ofInt 858993459).toInt))).toUInt32 >>> ((Int32.ofInt 4).toUInt32 &&& Int32.toUInt32 31)).toInt32.toInt)) &&& Int32.ofInt 252645135).toInt).toUInt32 >>> ((Int32.ofInt 8).toUInt32 &&& Int32.toUInt32 31)).toInt32.toInt))).toUInt32 >>> ((Int32.ofInt 16).toUInt32 &&& Int32.toUInt32 31)).toInt32.toInt), (0, (mm_w32 ((Int32.ofInt (mm_w32 ((mm_w32 ((Int32.ofInt (mm_w32 (x - (Int32.ofInt ((Int32.ofInt x).toUInt32 >>> ((Int32.ofInt 1).toUInt32 &&& Int32.toUInt32 31)).toInt32.toInt &&& Int32.ofInt 1431655765).toInt)) &&& Int32.ofInt 858993459).toInt + (Int32.ofInt ((Int32.ofInt (mm_w32 (x - (Int32.ofInt ((Int32.ofInt x).toUInt32 >>> ((Int32.ofInt 1).toUInt32 &&& Int32.toUInt32 31)).toInt32.toInt &&& Int32.ofInt 1431655765).toInt))).toUInt32 >>> ((Int32.ofInt 2).toUInt32 &&& Int32.toUInt32 31)).toInt32.toInt &&& Int32.ofInt 858993459).toInt)) + ((Int32.ofInt (mm_w32 ((Int32.ofInt (mm_w32 (x - (Int32.ofInt ((Int32.ofInt x).toUInt32 >>> ((Int32.ofInt 1).toUInt32 &&& Int32.toUInt32 31)).toInt32.toInt &&& Int32.ofInt 1431655765).toInt)) &&& Int32.ofInt 858993459).toInt + (Int32.ofInt ((Int32.ofInt (mm_w32 (x - (Int32.ofInt ((Int32.ofInt x).toUInt32 >>> ((Int32.ofInt 1).toUInt32 &&& Int32.toUInt32 31)).toInt32.toInt &&& Int32.ofInt 1431655765).toInt))).toUInt32 >>> ((Int32.ofInt 2).toUInt32 &&& Int32.toUInt32 31)).toInt32.toInt &&& Int32.ofInt 858993459).toInt))).toUInt32 >>> ((Int32.ofInt 4).toUInt32 &&& Int32.toUInt32 31)).toInt32.toInt)) &&& Int32.ofInt 252645135).toInt + ((Int32.ofInt (Int32.ofInt (mm_w32 ((mm_w32 ((Int32.ofInt (mm_w32 (x - (Int32.ofInt ((Int32.ofInt x).toUInt32 >>> ((Int32.ofInt 1).toUInt32 &&& Int32.toUInt32 31)).toInt32.toInt &&& Int32.ofInt 1431655765).toInt)) &&& Int32.ofInt 858993459).toInt + (Int32.ofInt ((Int32.ofInt (mm_w32 (x - (Int32.ofInt ((Int32.ofInt x).toUInt32 >>> ((Int32.ofInt 1).toUInt32 &&& Int32.toUInt32 31)).toInt32.toInt &&& Int32.ofInt 1431655765).toInt))).toUInt32 >>> ((Int32.ofInt 2).toUInt32 &&& Int32.toUInt32 31)).toInt32.toInt &&& Int32.ofInt 858993459).toInt)) + ((Int32.ofInt (mm_w32 ((Int32.ofInt (mm_w32 (x - (Int32.ofInt ((Int32.ofInt x).toUInt32 >>> ((Int32.ofInt 1).toUInt32 &&& Int32.toUInt32 31)).toInt32.toInt &&& Int32.ofInt 1431655765).toInt)) &&& Int32.ofInt 858993459).toInt + (Int32.ofInt ((Int32.ofInt (mm_w32 (x - (Int32.ofInt ((Int32.ofInt x).toUInt32 >>> ((Int32.ofInt 1).toUInt32 &&& Int32.toUInt32 31)).toInt32.toInt &&& Int32.ofInt 1431655765).toInt))).toUInt32 >>> ((Int32.ofInt 2).toUInt32 &&& Int32.toUInt32 31)).toInt32.toInt &&& Int32.ofInt 858993459).toInt))).toUInt32 >>> ((Int32.ofInt 4).toUInt32 &&& Int32.toUInt32 31)).toInt32.toInt)) &&& Int32.ofInt 252645135).toInt).toUInt32 >>> ((Int32.ofInt 8).toUInt32 &&& Int32.toUInt32 31)).toInt32.toInt)))]) rfl rfl rfl ?_
  refine R_op (nx := 47) (st' := [(0, (mm_w32 ((mm_w32 ((Int32.ofInt (mm_w32 ((mm_w32 ((Int32.ofInt (mm_w32 (x - (Int32.ofInt ((Int32.ofInt x).toUInt32 >>> ((Int32.ofInt 1).toUInt32 &&& Int32.toUInt32 31)).toInt32.toInt &&& Int32.ofInt 1431655765).toInt)) &&& Int32.ofInt 858993459).toInt + (Int32.ofInt ((Int32.ofInt (mm_w32 (x - (Int32.ofInt ((Int32.ofInt x).toUInt32 >>> ((Int32.ofInt 1).toUInt32 &&& Int32.toUInt32 31)).toInt32.toInt &&& Int32.ofInt 1431655765).toInt))).toUInt32 >>> ((Int32.ofInt 2).toUInt32 &&& Int32.toUInt32 31)).toInt32.toInt &&& Int32.ofInt 858993459).toInt)) + ((Int32.ofInt (mm_w32 ((Int32.ofInt (mm_w32 (x - (Int32.ofInt ((Int32.ofInt x).toUInt32 >>> ((Int32.ofInt 1).toUInt32 &&& Int32.toUInt32 31)).toInt32.toInt &&& Int32.ofInt 1431655765).toInt)) &&& Int32.ofInt 858993459).toInt + (Int32.ofInt ((Int32.ofInt (mm_w32 (x - (Int32.ofInt ((Int32.ofInt x).toUInt32 >>> ((Int32.ofInt 1).toUInt32 &&& Int32.toUInt32 31)).toInt32.toInt &&& Int32.ofInt 1431655765).toInt))).toUInt32 >>> ((Int32.ofInt 2).toUInt32 &&& Int32.toUInt32 31)).toInt32.toInt &&& Int32.ofInt 858993459).toInt))).toUInt32 >>> ((Int32.ofInt 4).toUInt32 &&& Int32.toUInt32 31)).toInt32.toInt)) &&& Int32.ofInt 252645135).toInt + ((Int32.ofInt (Int32.ofInt (mm_w32 ((mm_w32 ((Int32.ofInt (mm_w32 (x - (Int32.ofInt ((Int32.ofInt x).toUInt32 >>> ((Int32.ofInt 1).toUInt32 &&& Int32.toUInt32 31)).toInt32.toInt &&& Int32.ofInt 1431655765).toInt)) &&& Int32.ofInt 858993459).toInt + (Int32.ofInt ((Int32.ofInt (mm_w32 (x - (Int32.ofInt ((Int32.ofInt x).toUInt32 >>> ((Int32.ofInt 1).toUInt32 &&& Int32.toUInt32 31)).toInt32.toInt &&& Int32.ofInt 1431655765).toInt))).toUInt32 >>> ((Int32.ofInt 2).toUInt32 &&& Int32.toUInt32 31)).toInt32.toInt &&& Int32.ofInt 858993459).toInt)) + ((Int32.ofInt (mm_w32 ((Int32.ofInt (mm_w32 (x - (Int32.ofInt ((Int32.ofInt x).toUInt32 >>> ((Int32.ofInt 1).toUInt32 &&& Int32.toUInt32 31)).toInt32.toInt &&& Int32.ofInt 1431655765).toInt)) &&& Int32.ofInt 858993459).toInt + (Int32.ofInt ((Int32.ofInt (mm_w32 (x - (Int32.ofInt ((Int32.ofInt x).toUInt32 >>> ((Int32.ofInt 1).toUInt32 &&& Int32.toUInt32 31)).toInt32.toInt &&& Int32.ofInt 1431655765).toInt))).toUInt32 >>> ((Int32.ofInt 2).toUInt32 &&& Int32.toUInt32 31)).toInt32.toInt &&& Int32.ofInt 858993459).toInt))).toUInt32 >>> ((Int32.ofInt 4).toUInt32 &&& Int32.toUInt32 31)).toInt32.toInt)) &&& Int32.ofInt 252645135).toInt).toUInt32 >>> ((Int32.ofInt 8).toUInt32 &&& Int32.toUInt32 31)).toInt32.toInt)) + ((Int32.ofInt (mm_w32 ((Int32.ofInt (mm_w32 ((mm_w32 ((Int32.ofInt (mm_w32 (x - (Int32.ofInt ((Int32.ofInt x).toUInt32 >>> ((Int32.ofInt 1).toUInt32 &&& Int32.toUInt32 31)).toInt32.toInt &&& Int32.ofInt 1431655765).toInt)) &&& Int32.ofInt 858993459).toInt + (Int32.ofInt ((Int32.ofInt (mm_w32 (x - (Int32.ofInt ((Int32.ofInt x).toUInt32 >>> ((Int32.ofInt 1).toUInt32 &&& Int32.toUInt32 31)).toInt32.toInt &&& Int32.ofInt 1431655765).toInt))).toUInt32 >>> ((Int32.ofInt 2).toUInt32 &&& Int32.toUInt32 31)).toInt32.toInt &&& Int32.ofInt 858993459).toInt)) + ((Int32.ofInt (mm_w32 ((Int32.ofInt (mm_w32 (x - (Int32.ofInt ((Int32.ofInt x).toUInt32 >>> ((Int32.ofInt 1).toUInt32 &&& Int32.toUInt32 31)).toInt32.toInt &&& Int32.ofInt 1431655765).toInt)) &&& Int32.ofInt 858993459).toInt + (Int32.ofInt ((Int32.ofInt (mm_w32 (x - (Int32.ofInt ((Int32.ofInt x).toUInt32 >>> ((Int32.ofInt 1).toUInt32 &&& Int32.toUInt32 31)).toInt32.toInt &&& Int32.ofInt 1431655765).toInt))).toUInt32 >>> ((Int32.ofInt 2).toUInt32 &&& Int32.toUInt32 31)).toInt32.toInt &&& Int32.ofInt 858993459).toInt))).toUInt32 >>> ((Int32.ofInt 4).toUInt32 &&& Int32.toUInt32 31)).toInt32.toInt)) &&& Int32.ofInt 252645135).toInt + ((Int32.ofInt (Int32.ofInt (mm_w32 ((mm_w32 ((Int32.ofInt (mm_w32 (x - (Int32.ofInt ((Int32.ofInt x).toUInt32 >>> ((Int32.ofInt 1).toUInt32 &&& Int32.toUInt32 31)).toInt32.toInt &&& Int32.ofInt 1431655765).toInt)) &&& Int32.ofInt 858993459).toInt + (Int32.ofInt ((Int32.ofInt (mm_w32 (x - (Int32.ofInt ((Int32.ofInt x).toUInt32 >>> ((Int32.ofInt 1).toUInt32 &&& Int32.toUInt32 31)).toInt32.toInt &&& Int32.ofInt 1431655765).toInt))).toUInt32 >>> ((Int32.ofInt 2).toUInt32 &&& Int32.toUInt32 31)).toInt32.toInt &&& Int32.ofInt 858993459).toInt)) + ((Int32.ofInt (mm_w32 ((Int32.ofInt (mm_w32 (x - (Int32.ofInt ((Int32.ofInt x).toUInt32 >>> ((Int32.ofInt 1).toUInt32 &&& Int32.toUInt32 31)).toInt32.toInt &&& Int32.ofInt 1431655765).toInt)) &&& Int32.ofInt 858993459).toInt + (Int32.ofInt ((Int32.ofInt (mm_w32 (x - (Int32.ofInt ((Int32.ofInt x).toUInt32 >>> ((Int32.ofInt 1).toUInt32 &&& Int32.toUInt32 31)).toInt32.toInt &&& Int32.ofInt 1431655765).toInt))).toUInt32 >>> ((Int32.ofInt 2).toUInt32 &&& Int32.toUInt32 31)).toInt32.toInt &&& Int32.ofInt 858993459).toInt))).toUInt32 >>> ((Int32.ofInt 4).toUInt32 &&& Int32.toUInt32 31)).toInt32.toInt)) &&& Int32.ofInt 252645135).toInt).toUInt32 >>> ((Int32.ofInt 8).toUInt32 &&& Int32.toUInt32 31)).toInt32.toInt))).toUInt32 >>> ((Int32.ofInt 16).toUInt32 &&& Int32.toUInt32 31)).toInt32.toInt)))]) rfl rfl rfl ?_
  refine R_lo (nx := 48) (ls' := [(0, (mm_w32 ((mm_w32 ((Int32.ofInt (mm_w32 ((mm_w32 ((Int32.ofInt (mm_w32 (x - (Int32.ofInt ((Int32.ofInt x).toUInt32 >>> ((Int32.ofInt 1).toUInt32 &&& Int32.toUInt32 31)).toInt32.toInt &&& Int32.ofInt 1431655765).toInt)) &&& Int32.ofInt 858993459).toInt + (Int32.ofInt ((Int32.ofInt (mm_w32 (x - (Int32.ofInt ((Int32.ofInt x).toUInt32 >>> ((Int32.ofInt 1).toUInt32 &&& Int32.toUInt32 31)).toInt32.toInt &&& Int32.ofInt 1431655765).toInt))).toUInt32 >>> ((Int32.ofInt 2).toUInt32 &&& Int32.toUInt32 31)).toInt32.toInt &&& Int32.ofInt 858993459).toInt)) + ((Int32.ofInt (mm_w32 ((Int32.ofInt (mm_w32 (x - (Int32.ofInt ((Int32.ofInt x).toUInt32 >>> ((Int32.ofInt 1).toUInt32 &&& Int32.toUInt32 31)).toInt32.toInt &&& Int32.ofInt 1431655765).toInt)) &&& Int32.ofInt 858993459).toInt + (Int32.ofInt ((Int32.ofInt (mm_w32 (x - (Int32.ofInt ((Int32.ofInt x).toUInt32 >>> ((Int32.ofInt 1).toUInt32 &&& Int32.toUInt32 31)).toInt32.toInt &&& Int32.ofInt 1431655765).toInt))).toUInt32 >>> ((Int32.ofInt 2).toUInt32 &&& Int32.toUInt32 31)).toInt32.toInt &&& Int32.ofInt 858993459).toInt))).toUInt32 >>> ((Int32.ofInt 4).toUInt32 &&& Int32.toUInt32 31)).toInt32.toInt)) &&& Int32.ofInt 252645135).toInt + ((Int32.ofInt (Int32.ofInt (mm_w32 ((mm_w32 ((Int32.ofInt (mm_w32 (x - (Int32.ofInt ((Int32.ofInt x).toUInt32 >>> ((Int32.ofInt 1).toUInt32 &&& Int32.toUInt32 31)).toInt32.toInt &&& Int32.ofInt 1431655765).toInt)) &&& Int32.ofInt 858993459).toInt + (Int32.ofInt ((Int32.ofInt (mm_w32 (x - (Int32.ofInt ((Int32.ofInt x).toUInt32 >>> ((Int32.ofInt 1).toUInt32 &&& Int32.toUInt32 31)).toInt32.toInt &&& Int32.ofInt 1431655765).toInt))).toUInt32 >>> ((Int32.ofInt 2).toUInt32 &&& Int32.toUInt32 31)).toInt32.toInt &&& Int32.ofInt 858993459).toInt)) + ((Int32.ofInt (mm_w32 ((Int32.ofInt (mm_w32 (x - (Int32.ofInt ((Int32.ofInt x).toUInt32 >>> ((Int32.ofInt 1).toUInt32 &&& Int32.toUInt32 31)).toInt32.toInt &&& Int32.ofInt 1431655765).toInt)) &&& Int32.ofInt 858993459).toInt + (Int32.ofInt ((Int32.ofInt (mm_w32 (x - (Int32.ofInt ((Int32.ofInt x).toUInt32 >>> ((Int32.ofInt 1).toUInt32 &&& Int32.toUInt32 31)).toInt32.toInt &&& Int32.ofInt 1431655765).toInt))).toUInt32 >>> ((Int32.ofInt 2).toUInt32 &&& Int32.toUInt32 31)).toInt32.toInt &&& Int32.ofInt 858993459).toInt))).toUInt32 >>> ((Int32.ofInt 4).toUInt32 &&& Int32.toUInt32 31)).toInt32.toInt)) &&& Int32.ofInt 252645135).toInt).toUInt32 >>> ((Int32.ofInt 8).toUInt32 &&& Int32.toUInt32 31)).toInt32.toInt)) + ((Int32.ofInt (mm_w32 ((Int32.ofInt (mm_w32 ((mm_w32 ((Int32.ofInt (mm_w32 (x - (Int32.ofInt ((Int32.ofInt x).toUInt32 >>> ((Int32.ofInt 1).toUInt32 &&& Int32.toUInt32 31)).toInt32.toInt &&& Int32.ofInt 1431655765).toInt)) &&& Int32.ofInt 858993459).toInt + (Int32.ofInt ((Int32.ofInt (mm_w32 (x - (Int32.ofInt ((Int32.ofInt x).toUInt32 >>> ((Int32.ofInt 1).toUInt32 &&& Int32.toUInt32 31)).toInt32.toInt &&& Int32.ofInt 1431655765).toInt))).toUInt32 >>> ((Int32.ofInt 2).toUInt32 &&& Int32.toUInt32 31)).toInt32.toInt &&& Int32.ofInt 858993459).toInt)) + ((Int32.ofInt (mm_w32 ((Int32.ofInt (mm_w32 (x - (Int32.ofInt ((Int32.ofInt x).toUInt32 >>> ((Int32.ofInt 1).toUInt32 &&& Int32.toUInt32 31)).toInt32.toInt &&& Int32.ofInt 1431655765).toInt)) &&& Int32.ofInt 858993459).toInt + (Int32.ofInt ((Int32.ofInt (mm_w32 (x - (Int32.ofInt ((Int32.ofInt x).toUInt32 >>> ((Int32.ofInt 1).toUInt32 &&& Int32.toUInt32 31)).toInt32.toInt &&& Int32.ofInt 1431655765).toInt))).toUInt32 >>> ((Int32.ofInt 2).toUInt32 &&& Int32.toUInt32 31)).toInt32.toInt &&& Int32.ofInt 858993459).toInt))).toUInt32 >>> ((Int32.ofInt 4).toUInt32 &&& Int32.toUInt32 31)).toInt32.toInt)) &&& Int32.ofInt 252645135).toInt + ((Int32.ofInt (Int32.ofInt (mm_w32 ((mm_w32 ((Int32.ofInt (mm_w32 (x - (Int32.ofInt ((Int32.ofInt x).toUInt32 >>> ((Int32.ofInt 1).toUInt32 &&& Int32.toUInt32 31)).toInt32.toInt &&& Int32.ofInt 1431655765).toInt)) &&& Int32.ofInt 858993459).toInt + (Int32.ofInt ((Int32.ofInt (mm_w32 (x - (Int32.ofInt ((Int32.ofInt x).toUInt32 >>> ((Int32.ofInt 1).toUInt32 &&& Int32.toUInt32 31)).toInt32.toInt &&& Int32.ofInt 1431655765).toInt))).toUInt32 >>> ((Int32.ofInt 2).toUInt32 &&& Int32.toUInt32 31)).toInt32.toInt &&& Int32.ofInt 858993459).toInt)) + ((Int32.ofInt (mm_w32 ((Int32.ofInt (mm_w32 (x - (Int32.ofInt ((Int32.ofInt x).toUInt32 >>> ((Int32.ofInt 1).toUInt32 &&& Int32.toUInt32 31)).toInt32.toInt &&& Int32.ofInt 1431655765).toInt)) &&& Int32.ofInt 858993459).toInt + (Int32.ofInt ((Int32.ofInt (mm_w32 (x - (Int32.ofInt ((Int32.ofInt x).toUInt32 >>> ((Int32.ofInt 1).toUInt32 &&& Int32.toUInt32 31)).toInt32.toInt &&& Int32.ofInt 1431655765).toInt))).toUInt32 >>> ((Int32.ofInt 2).toUInt32 &&& Int32.toUInt32 31)).toInt32.toInt &&& Int32.ofInt 858993459).toInt))).toUInt32 >>> ((Int32.ofInt 4).toUInt32 &&& Int32.toUInt32 31)).toInt32.toInt)) &&& Int32.ofInt 252645135).toInt).toUInt32 >>> ((Int32.ofInt 8).toUInt32 &&& Int32.toUInt32 31)).toInt32.toInt))).toUInt32 >>> ((Int32.ofInt 16).toUInt32 &&& Int32.toUInt32 31)).toInt32.toInt)))]) rfl rfl rfl rfl ?_
  refine R_lo (nx := 49) rfl rfl rfl rfl ?_
  refine R_op (nx := 51) rfl rfl rfl ?_
  refine R_op (nx := 52) (st' := [(0, (Int32.ofInt (mm_w32 ((mm_w32 ((Int32.ofInt (mm_w32 ((mm_w32 ((Int32.ofInt (mm_w32 (x - (Int32.ofInt ((Int32.ofInt x).toUInt32 >>> ((Int32.ofInt 1).toUInt32 &&& Int32.toUInt32 31)).toInt32.toInt &&& Int32.ofInt 1431655765).toInt)) &&& Int32.ofInt 858993459).toInt + (Int32.ofInt ((Int32.ofInt (mm_w32 (x - (Int32.ofInt ((Int32.ofInt x).toUInt32 >>> ((Int32.ofInt 1).toUInt32 &&& Int32.toUInt32 31)).toInt32.toInt &&& Int32.ofInt 1431655765).toInt))).toUInt32 >>> ((Int32.ofInt 2).toUInt32 &&& Int32.toUInt32 31)).toInt32.toInt &&& Int32.ofInt 858993459).toInt)) + ((Int32.ofInt (mm_w32 ((Int32.ofInt (mm_w32 (x - (Int32.ofInt ((Int32.ofInt x).toUInt32 >>> ((Int32.ofInt 1).toUInt32 &&& Int32.toUInt32 31)).toInt32.toInt &&& Int32.ofInt 1431655765).toInt)) &&& Int32.ofInt 858993459).toInt + (Int32.ofInt ((Int32.ofInt (mm_w32 (x - (Int32.ofInt ((Int32.ofInt x).toUInt32 >>> ((Int32.ofInt 1).toUInt32 &&& Int32.toUInt32 31)).toInt32.toInt &&& Int32.ofInt 1431655765).toInt))).toUInt32 >>> ((Int32.ofInt 2).toUInt32 &&& Int32.toUInt32 31)).toInt32.toInt &&& Int32.ofInt 858993459).toInt))).toUInt32 >>> ((Int32.ofInt 4).toUInt32 &&& Int32.toUInt32 31)).toInt32.toInt)) &&& Int32.ofInt 252645135).toInt + ((Int32.ofInt (Int32.ofInt (mm_w32 ((mm_w32 ((Int32.ofInt (mm_w32 (x - (Int32.ofInt ((Int32.ofInt x).toUInt32 >>> ((Int32.ofInt 1).toUInt32 &&& Int32.toUInt32 31)).toInt32.toInt &&& Int32.ofInt 1431655765).toInt)) &&& Int32.ofInt 858993459).toInt + (Int32.ofInt ((Int32.ofInt (mm_w32 (x - (Int32.ofInt ((Int32.ofInt x).toUInt32 >>> ((Int32.ofInt 1).toUInt32 &&& Int32.toUInt32 31)).toInt32.toInt &&& Int32.ofInt 1431655765).toInt))).toUInt32 >>> ((Int32.ofInt 2).toUInt32 &&& Int32.toUInt32 31)).toInt32.toInt &&& Int32.ofInt 858993459).toInt)) + ((Int32.ofInt (mm_w32 ((Int32.ofInt (mm_w32 (x - (Int32.ofInt ((Int32.ofInt x).toUInt32 >>> ((Int32.ofInt 1).toUInt32 &&& Int32.toUInt32 31)).toInt32.toInt &&& Int32.ofInt 1431655765).toInt)) &&& Int32.ofInt 858993459).toInt + (Int32.ofInt ((Int32.ofInt (mm_w32 (x - (Int32.ofInt ((Int32.ofInt x).toUInt32 >>> ((Int32.ofInt 1).toUInt32 &&& Int32.toUInt32 31)).toInt32.toInt &&& Int32.ofInt 1431655765).toInt))).toUInt32 >>> ((Int32.ofInt 2).toUInt32 &&& Int32.toUInt32 31)).toInt32.toInt &&& Int32.ofInt 858993459).toInt))).toUInt32 >>> ((Int32.ofInt 4).toUInt32 &&& Int32.toUInt32 31)).toInt32.toInt)) &&& Int32.ofInt 252645135).toInt).toUInt32 >>> ((Int32.ofInt 8).toUInt32 &&& Int32.toUInt32 31)).toInt32.toInt)) + ((Int32.ofInt (mm_w32 ((Int32.ofInt (mm_w32 ((mm_w32 ((Int32.ofInt (mm_w32 (x - (Int32.ofInt ((Int32.ofInt x).toUInt32 >>> ((Int32.ofInt 1).toUInt32 &&& Int32.toUInt32 31)).toInt32.toInt &&& Int32.ofInt 1431655765).toInt)) &&& Int32.ofInt 858993459).toInt + (Int32.ofInt ((Int32.ofInt (mm_w32 (x - (Int32.ofInt ((Int32.ofInt x).toUInt32 >>> ((Int32.ofInt 1).toUInt32 &&& Int32.toUInt32 31)).toInt32.toInt &&& Int32.ofInt 1431655765).toInt))).toUInt32 >>> ((Int32.ofInt 2).toUInt32 &&& Int32.toUInt32 31)).toInt32.toInt &&& Int32.ofInt 858993459).toInt)) + ((Int32.ofInt (mm_w32 ((Int32.ofInt (mm_w32 (x - (Int32.ofInt ((Int32.ofInt x).toUInt32 >>> ((Int32.ofInt 1).toUInt32 &&& Int32.toUInt32 31)).toInt32.toInt &&& Int32.ofInt 1431655765).toInt)) &&& Int32.ofInt 858993459).toInt + (Int32.ofInt ((Int32.ofInt (mm_w32 (x - (Int32.ofInt ((Int32.ofInt x).toUInt32 >>> ((Int32.ofInt 1).toUInt32 &&& Int32.toUInt32 31)).toInt32.toInt &&& Int32.ofInt 1431655765).toInt))).toUInt32 >>> ((Int32.ofInt 2).toUInt32 &&& Int32.toUInt32 31)).toInt32.toInt &&& Int32.ofInt 858993459).toInt))).toUInt32 >>> ((Int32.ofInt 4).toUInt32 &&& Int32.toUInt32 31)).toInt32.toInt)) &&& Int32.ofInt 252645135).toInt + ((Int32.ofInt (Int32.ofInt (mm_w32 ((mm_w32 ((Int32.ofInt (mm_w32 (x - (Int32.ofInt ((Int32.ofInt x).toUInt32 >>> ((Int32.ofInt 1).toUInt32 &&& Int32.toUInt32 31)).toInt32.toInt &&& Int32.ofInt 1431655765).toInt)) &&& Int32.ofInt 858993459).toInt + (Int32.ofInt ((Int32.ofInt (mm_w32 (x - (Int32.ofInt ((Int32.ofInt x).toUInt32 >>> ((Int32.ofInt 1).toUInt32 &&& Int32.toUInt32 31)).toInt32.toInt &&& Int32.ofInt 1431655765).toInt))).toUInt32 >>> ((Int32.ofInt 2).toUInt32 &&& Int32.toUInt32 31)).toInt32.toInt &&& Int32.ofInt 858993459).toInt)) + ((Int32.ofInt (mm_w32 ((Int32.ofInt (mm_w32 (x - (Int32.ofInt ((Int32.ofInt x).toUInt32 >>> ((Int32.ofInt 1).toUInt32 &&& Int32.toUInt32 31)).toInt32.toInt &&& Int32.ofInt 1431655765).toInt)) &&& Int32.ofInt 858993459).toInt + (Int32.ofInt ((Int32.ofInt (mm_w32 (x - (Int32.ofInt ((Int32.ofInt x).toUInt32 >>> ((Int32.ofInt 1).toUInt32 &&& Int32.toUInt32 31)).toInt32.toInt &&& Int32.ofInt 1431655765).toInt))).toUInt32 >>> ((Int32.ofInt 2).toUInt32 &&& Int32.toUInt32 31)).toInt32.toInt &&& Int32.ofInt 858993459).toInt))).toUInt32 >>> ((Int32.ofInt 4).toUInt32 &&& Int32.toUInt32 31)).toInt32.toInt)) &&& Int32.ofInt 252645135).toInt).toUInt32 >>> ((Int32.ofInt 8).toUInt32 &&& Int32.toUInt32 31)).toInt32.toInt))).toUInt32 >>> ((Int32.ofInt 16).toUInt32 &&& Int32.toUInt32 31)).toInt32.toInt)) &&& Int32.ofInt 63).toInt)]) rfl rfl rfl ?_
  refine R_ret rfl (fun _ _ => rfl) rfl rfl ?_
  exact ⟨_, rfl, rfl⟩

set_option maxRecDepth 20000 in
set_option maxHeartbeats 4000000 in
theorem c_Ma_absE (S : mm_S) (x : Int) : Cl 184 [(0, x)] S (fun v S' => ∃ z, v = some (0, z) ∧ S = S') := by
  refine ⟨Nat.le_of_ble_eq_true rfl, ?_⟩
  show Rn k_Ma_abs 0 [(0, x)] [] S _
  refine R_lo (nx := 1) rfl rfl rfl rfl ?_
  refine R_if (nx := 4) (tg := 9) rfl rfl rfl (mm_cnd_ge _ _) (fun c1 => ?_) (fun c1 => ?_)
  ·
    refine R_lo (nx := 10) rfl rfl rfl rfl ?_
    refine R_ret rfl (fun _ _ => rfl) rfl rfl ?_
    exact ⟨_, rfl, rfl⟩
  ·
    refine R_lo (nx := 5) rfl rfl rfl rfl ?_
    refine R_op (nx := 6) (st' := [(0, (mm_w32 (-x)))]) rfl rfl rfl ?_
    refine R_op (nx := 9) (pc' := 10) rfl rfl rfl ?_
    refine R_ret rfl (fun _ _ => rfl) rfl rfl ?_
    exact ⟨_, rfl, rfl⟩

set_option maxRecDepth 20000 in
set_option maxHeartbeats 4000000 in
theorem c_Wn_greatestDivisor (S : mm_S) (x y : Int) : Cl 181 [(0, x), (0, y)] S (fun v S' => ∃ z, v = some (0, z) ∧ S = S') := by
  refine ⟨Nat.le_of_ble_eq_true rfl, ?_⟩
  show Rn k_Wn_greatestDivisor 0 [(0, x), (0, y), (9, 0), (9, 0), (9, 0), (9, 0)] [] S _
  refine R_lo (nx := 1) rfl rfl rfl rfl ?_
  refine R_lo (nx := 2) (ls' := [(0, x), (0, y), (0, x), (9, 0), (9, 0), (9, 0)]) rfl rfl rfl rfl ?_
  refine R_lo (nx := 3) rfl rfl rfl rfl ?_
  refine R_lo (nx := 4) (ls' := [(0, x), (0, y), (0, x), (0, y), (9, 0), (9, 0)]) rfl rfl rfl rfl ?_
  refine R_op (nx := 5) rfl rfl rfl ?_
  refine R_lo (nx := 7) (ls' := [(0, x), (0, y), (0, x), (0, y), (0, 0), (9, 0)]) rfl rfl rfl rfl ?_
  have L7 : ∀ (f7 : Nat) (a : Int) (b : Int) (k : Int), ((100 : Int) - k).toNat < f7 → (0 ≤ k ∧ k ≤ 100) → Rn k_Wn_greatestDivisor 7 [(0, x), (0, y), (0, a), (0, b), (0, k), (9, 0)] [] S (fun v S' => ∃ z, v = some (0, z) ∧ S = S') := by
    intro f7
    induction f7 with
    | zero => intro a b k hm7; exact absurd hm7 (Nat.not_lt_zero _)
    | succ f7 ih7 =>
      intro a b k hm7 hk
      refine R_lo (nx := 9) rfl rfl rfl rfl ?_
      refine R_op (nx := 11) rfl rfl rfl ?_
      refine R_icmp (nx := 14) (tg := 34) rfl rfl rfl (mm_cnd_ge _ _) (fun c11 => ?_) (fun c11 => ?_)
      ·
        refine R_lo (nx := 35) rfl rfl rfl rfl ?_
        refine R_ret rfl (fun _ _ => rfl) rfl rfl ?_
        exact ⟨_, rfl, rfl⟩
      ·
        refine R_lo (nx := 15) rfl rfl rfl rfl ?_
        refine R_if (nx := 18) (tg := 34) rfl rfl rfl (mm_cnd_eq _ _) (fun c15 => ?_) (fun c15 => ?_)
        ·
          refine R_lo (nx := 35) rfl rfl rfl rfl ?_
          refine R_ret rfl (fun _ _ => rfl) rfl rfl ?_
          exact ⟨_, rfl, rfl⟩
        ·
          refine R_lo (nx := 19) rfl rfl rfl rfl ?_
          refine R_lo (nx := 20) rfl rfl rfl rfl ?_
          refine R_irem (nx := 21) (z := (Int.tmod a b)) rfl rfl (by omega) rfl ?_
          refine R_lo (nx := 23) (ls' := [(0, x), (0, y), (0, a), (0, b), (0, k), (0, (Int.tmod a b))]) rfl rfl rfl rfl ?_
          refine R_lo (nx := 24) rfl rfl rfl rfl ?_
          refine R_lo (nx := 25) (ls' := [(0, x), (0, y), (0, b), (0, b), (0, k), (0, (Int.tmod a b))]) rfl rfl rfl rfl ?_
          refine R_lo (nx := 27) rfl rfl rfl rfl ?_
          refine R_lo (nx := 28) (ls' := [(0, x), (0, y), (0, b), (0, (Int.tmod a b)), (0, k), (0, (Int.tmod a b))]) rfl rfl rfl rfl ?_
          refine R_iinc (nx := 31) (z := (k + 1)) (ls' := [(0, x), (0, y), (0, b), (0, (Int.tmod a b)), (0, (k + 1)), (0, (Int.tmod a b))]) rfl rfl rfl rfl ⟨by omega, by omega⟩ rfl ?_
          refine R_op (nx := 34) (pc' := 7) rfl rfl rfl ?_
          refine Rn.weak (ls' := [(0, x), (0, y), (0, b), (0, (Int.tmod a b)), (0, (k + 1)), (9, 0)]) ⟨Or.inl rfl, ⟨Or.inl rfl, ⟨Or.inl rfl, ⟨Or.inl rfl, ⟨Or.inl rfl, ⟨Or.inr rfl, trivial⟩⟩⟩⟩⟩⟩ ?_
          refine ih7 (b) ((Int.tmod a b)) ((k + 1)) ?_ ?_
          · omega
          · omega
  refine Rn.weak (ls' := [(0, x), (0, y), (0, x), (0, y), (0, 0), (9, 0)]) ⟨Or.inl rfl, ⟨Or.inl rfl, ⟨Or.inl rfl, ⟨Or.inl rfl, ⟨Or.inl rfl, ⟨Or.inl rfl, trivial⟩⟩⟩⟩⟩⟩ ?_
  refine L7 (((100 : Int) - (0)).toNat + 1) (x) (y) (0) (Nat.lt_succ_self _) ?_
  · omega

theorem c_P_getE (S : mm_S) (a : Int) (n : Nat) (hk : 0 ≤ a ∧ mm_kd a.toNat = (1, n)) (hn : n < 100000) (i : Int) : Cl 38 [(2, a), (0, i)] S (fun v S' => ∃ z, v = some (0, z) ∧ S = S') := (c_P_get S a n hk hn i).mono fun v S' h => ⟨_, h.1, h.2⟩

set_option maxRecDepth 20000 in
set_option maxHeartbeats 4000000 in
theorem c_P_setE (S : mm_S) (a : Int) (n : Nat) (hk : 0 ≤ a ∧ mm_kd a.toNat = (1, n)) (hn : n < 100000) (i v : Int) : Cl 39 [(2, a), (0, i), (0, v)] S (fun w S' => w = none ∧ ∀ b, b ≠ a → S' b = S b) := by
  refine ⟨Nat.le_of_ble_eq_true rfl, ?_⟩
  show Rn k_P_set 0 [(2, a), (0, i), (0, v)] [] S _
  refine R_lo (nx := 1) rfl rfl rfl rfl ?_
  refine R_if (nx := 4) (tg := 14) rfl rfl rfl (mm_cnd_lt _ _) (fun c1 => ?_) (fun c1 => ?_)
  ·
    refine R_ret rfl (fun _ _ => rfl) rfl rfl ?_
    first | exact ⟨rfl, fun b hb => mm_unq hb⟩ | exact ⟨rfl, fun b hb => rfl⟩
  ·
    refine R_lo (nx := 5) rfl rfl rfl rfl ?_
    refine R_lo (nx := 6) rfl rfl rfl rfl ?_
    refine R_alen (nx := 7) rfl rfl hk.1 hk.2 (by decide) ?_
    refine R_icmp (nx := 10) (tg := 14) rfl rfl rfl (mm_cnd_ge _ _) (fun c7 => ?_) (fun c7 => ?_)
    ·
      refine R_ret rfl (fun _ _ => rfl) rfl rfl ?_
      first | exact ⟨rfl, fun b hb => mm_unq hb⟩ | exact ⟨rfl, fun b hb => rfl⟩
    ·
      refine R_lo (nx := 11) rfl rfl rfl rfl ?_
      refine R_lo (nx := 12) rfl rfl rfl rfl ?_
      refine R_lo (nx := 13) rfl rfl rfl rfl ?_
      refine R_iast (nx := 14) rfl rfl (mm_el_ok 1 n hk.1 hk.2 (by decide) (by omega) (by omega)) ?_
      refine R_ret rfl (fun _ _ => rfl) rfl rfl ?_
      first | exact ⟨rfl, fun b hb => mm_unq hb⟩ | exact ⟨rfl, fun b hb => rfl⟩

set_option maxRecDepth 20000 in
set_option maxHeartbeats 4000000 in
theorem c_Wn_gather14 (S : mm_S) (a : Int) (hC : mm_isC a) (K : CX) (hM : MC S a K) (hV : Vx K) (h0 : S 13 0 = a) (d : Int) : Cl 179 [(2, 13), (2, 14), (0, d)] S (fun v S' => ∃ z, v = some (0, z) ∧ (0 ≤ z ∧ z ≤ 12 ∧ z ≤ Xn K) ∧ ∀ b, b ≠ 14 → S' b = S b) := by
  refine ⟨Nat.le_of_ble_eq_true rfl, ?_⟩
  show Rn k_Wn_gather 0 [(2, 13), (2, 14), (0, d), (9, 0), (9, 0)] [] S _
  have hnr := hV.1.1
  have hout := isC_out hC
  have hn := hM.n
  refine R_op (nx := 1) rfl rfl rfl ?_
  refine R_lo (nx := 2) (ls' := [(2, 13), (2, 14), (0, d), (0, 0), (9, 0)]) rfl rfl rfl rfl ?_
  refine R_op (nx := 3) rfl rfl rfl ?_
  refine R_lo (nx := 5) (ls' := [(2, 13), (2, 14), (0, d), (0, 0), (0, 0)]) rfl rfl rfl rfl ?_
  have L5 : ∀ (f5 : Nat) (S1 : mm_S) (k : Int) (i : Int), (Xn K - i).toNat < f5 → (0 ≤ i ∧ i ≤ Xn K) → (0 ≤ k ∧ k ≤ i) → (∀ b, b ≠ 14 → S1 b = S b) → Rn k_Wn_gather 5 [(2, 13), (2, 14), (0, d), (0, k), (0, i)] [] S1 (fun v S' => ∃ z, v = some (0, z) ∧ (0 ≤ z ∧ z ≤ 12 ∧ z ≤ Xn K) ∧ ∀ b, b ≠ 14 → S' b = S b) := by
    intro f5
    induction f5 with
    | zero => intro S1 k i hm5; exact absurd hm5 (Nat.not_lt_zero _)
    | succ f5 ih5 =>
      intro S1 k i hm5 hi hk hF
      have g0 : S1 13 0 = a := by rw [hF 13 (by decide)]; exact h0
      have m1 : MC S1 a K := hM.fr fun c q r => hF c (by omega)
      have n1 := m1.n
      refine R_lo (nx := 7) rfl rfl rfl rfl ?_
      refine R_lo (nx := 8) rfl rfl rfl rfl ?_
      refine R_get (nx := 11) (w := (2, a)) rfl rfl rfl (congrArg (Prod.mk 2) (by assumption)) ?_
      refine R_get (nx := 14) (w := (0, (S1 a 0))) rfl rfl (isC_ob hC) rfl ?_
      rw [n1]
      refine R_icmp (nx := 17) (tg := 74) rfl rfl rfl (mm_cnd_ge _ _) (fun c14 => ?_) (fun c14 => ?_)
      ·
        refine R_lo (nx := 75) rfl rfl rfl rfl ?_
        refine R_ret rfl (fun _ _ => rfl) rfl rfl ?_
        exact ⟨_, rfl, by omega, hF⟩
      ·
        refine R_lo (nx := 18) rfl rfl rfl rfl ?_
        refine R_get (nx := 21) (w := (2, a)) rfl rfl rfl (congrArg (Prod.mk 2) (by assumption)) ?_
        refine R_lo (nx := 23) rfl rfl rfl rfl ?_
        refine R_call1 (nx := 26) (as := [(2, a), (0, i)]) (rest := []) rfl rfl (fun _ _ => rfl) rfl rfl rfl rfl rfl rfl (isC_rc hC _) rfl (Cl.mono (c_C_degree S1 a hC K (by first | assumption | exact MC.up (by assumption) (by omega) | exact MC.up (MC.up (by assumption) (by omega)) (by omega) | exact MC.up (MC.up (MC.up (by assumption) (by omega)) (by omega)) (by omega)) i) ?_)
        rintro _ _ ⟨rfl, rfl⟩
        refine ⟨_, rfl, ?_⟩
        refine R_lo (nx := 27) rfl rfl rfl rfl ?_
        refine R_icmp (nx := 30) (tg := 68) rfl rfl rfl (mm_cnd_ne _ _) (fun c27 => ?_) (fun c27 => ?_)
        ·
          refine R_iinc (nx := 71) (z := (i + 1)) (ls' := [(2, 13), (2, 14), (0, d), (0, k), (0, (i + 1))]) rfl rfl rfl rfl ⟨by omega, by omega⟩ rfl ?_
          refine R_op (nx := 74) (pc' := 5) rfl rfl rfl ?_
          refine Rn.weak (ls' := [(2, 13), (2, 14), (0, d), (0, k), (0, (i + 1))]) ⟨Or.inl rfl, ⟨Or.inl rfl, ⟨Or.inl rfl, ⟨Or.inl rfl, ⟨Or.inl rfl, trivial⟩⟩⟩⟩⟩ ?_
          refine ih5 (S1) (k) ((i + 1)) ?_ ?_ ?_ ?_
          · omega
          · omega
          · omega
          · intro b hb; first | exact hF b hb | (rw [f62 b hb]; exact hF b hb)
        ·
          replace c27 := Classical.not_not.mp c27
          refine R_lo (nx := 31) rfl rfl rfl rfl ?_
          refine R_get (nx := 34) (w := (0, (S1 13 2))) rfl rfl rfl rfl ?_
          refine R_op (nx := 35) rfl rfl rfl ?_
          refine R_icmp (nx := 38) (tg := 58) rfl rfl rfl (mm_cnd_eq _ _) (fun c35 => ?_) (fun c35 => ?_)
          ·
            refine R_lo (nx := 59) rfl rfl rfl rfl ?_
            refine R_lo (nx := 60) rfl rfl rfl rfl ?_
            refine R_lo (nx := 62) rfl rfl rfl rfl ?_
            refine R_call0 (nx := 65) (as := [(2, 14), (0, k), (0, i)]) (rest := []) rfl rfl (fun _ _ => rfl) rfl rfl rfl rfl rfl rfl rfl rfl (Cl.mono (c_P_setE S1 14 12 ⟨by decide, rfl⟩ (by decide) k i) ?_)
            rintro _ S62 ⟨rfl, f62⟩
            refine ⟨rfl, ?_⟩
            refine R_iinc (nx := 68) (z := (k + 1)) (ls' := [(2, 13), (2, 14), (0, d), (0, (k + 1)), (0, i)]) rfl rfl rfl rfl ⟨by omega, by omega⟩ rfl ?_
            refine R_iinc (nx := 71) (z := (i + 1)) (ls' := [(2, 13), (2, 14), (0, d), (0, (k + 1)), (0, (i + 1))]) rfl rfl rfl rfl ⟨by omega, by omega⟩ rfl ?_
            refine R_op (nx := 74) (pc' := 5) rfl rfl rfl ?_
            refine Rn.weak (ls' := [(2, 13), (2, 14), (0, d), (0, (k + 1)), (0, (i + 1))]) ⟨Or.inl rfl, ⟨Or.inl rfl, ⟨Or.inl rfl, ⟨Or.inl rfl, ⟨Or.inl rfl, trivial⟩⟩⟩⟩⟩ ?_
            refine ih5 (S62) ((k + 1)) ((i + 1)) ?_ ?_ ?_ ?_
            · omega
            · omega
            · omega
            · intro b hb; first | exact hF b hb | (rw [f62 b hb]; exact hF b hb)
          ·
            refine R_lo (nx := 39) rfl rfl rfl rfl ?_
            refine R_get (nx := 42) (w := (2, a)) rfl rfl rfl (congrArg (Prod.mk 2) (by assumption)) ?_
            refine R_lo (nx := 43) rfl rfl rfl rfl ?_
            refine R_get (nx := 46) (w := (0, (S1 13 1))) rfl rfl rfl rfl ?_
            refine R_lo (nx := 48) rfl rfl rfl rfl ?_
            refine R_call1 (nx := 51) (as := [(2, a), (0, (S1 13 1)), (0, i)]) (rest := []) rfl rfl (fun _ _ => rfl) rfl rfl rfl rfl rfl rfl (isC_rc hC _) rfl (Cl.mono (c_C_level S1 a hC K (by first | assumption | exact MC.up (by assumption) (by omega) | exact MC.up (MC.up (by assumption) (by omega)) (by omega) | exact MC.up (MC.up (MC.up (by assumption) (by omega)) (by omega)) (by omega)) (S1 13 1) i) ?_)
            rintro _ _ ⟨rfl, rfl⟩
            refine ⟨_, rfl, ?_⟩
            refine R_lo (nx := 52) rfl rfl rfl rfl ?_
            refine R_get (nx := 55) (w := (0, (S1 13 2))) rfl rfl rfl rfl ?_
            refine R_icmp (nx := 58) (tg := 68) rfl rfl rfl (mm_cnd_ne _ _) (fun c55 => ?_) (fun c55 => ?_)
            ·
              refine R_iinc (nx := 71) (z := (i + 1)) (ls' := [(2, 13), (2, 14), (0, d), (0, k), (0, (i + 1))]) rfl rfl rfl rfl ⟨by omega, by omega⟩ rfl ?_
              refine R_op (nx := 74) (pc' := 5) rfl rfl rfl ?_
              refine Rn.weak (ls' := [(2, 13), (2, 14), (0, d), (0, k), (0, (i + 1))]) ⟨Or.inl rfl, ⟨Or.inl rfl, ⟨Or.inl rfl, ⟨Or.inl rfl, ⟨Or.inl rfl, trivial⟩⟩⟩⟩⟩ ?_
              refine ih5 (S1) (k) ((i + 1)) ?_ ?_ ?_ ?_
              · omega
              · omega
              · omega
              · intro b hb; first | exact hF b hb | (rw [f62 b hb]; exact hF b hb)
            ·
              replace c55 := Classical.not_not.mp c55
              refine R_lo (nx := 59) rfl rfl rfl rfl ?_
              refine R_lo (nx := 60) rfl rfl rfl rfl ?_
              refine R_lo (nx := 62) rfl rfl rfl rfl ?_
              refine R_call0 (nx := 65) (as := [(2, 14), (0, k), (0, i)]) (rest := []) rfl rfl (fun _ _ => rfl) rfl rfl rfl rfl rfl rfl rfl rfl (Cl.mono (c_P_setE S1 14 12 ⟨by decide, rfl⟩ (by decide) k i) ?_)
              rintro _ S62_1 ⟨rfl, f62_1⟩
              refine ⟨rfl, ?_⟩
              refine R_iinc (nx := 68) (z := (k + 1)) (ls' := [(2, 13), (2, 14), (0, d), (0, (k + 1)), (0, i)]) rfl rfl rfl rfl ⟨by omega, by omega⟩ rfl ?_
              refine R_iinc (nx := 71) (z := (i + 1)) (ls' := [(2, 13), (2, 14), (0, d), (0, (k + 1)), (0, (i + 1))]) rfl rfl rfl rfl ⟨by omega, by omega⟩ rfl ?_
              refine R_op (nx := 74) (pc' := 5) rfl rfl rfl ?_
              refine Rn.weak (ls' := [(2, 13), (2, 14), (0, d), (0, (k + 1)), (0, (i + 1))]) ⟨Or.inl rfl, ⟨Or.inl rfl, ⟨Or.inl rfl, ⟨Or.inl rfl, ⟨Or.inl rfl, trivial⟩⟩⟩⟩⟩ ?_
              refine ih5 (S62_1) ((k + 1)) ((i + 1)) ?_ ?_ ?_ ?_
              · omega
              · omega
              · omega
              · intro b hb; first | exact hF b hb | (rw [f62_1 b hb]; exact hF b hb)
  refine Rn.weak (ls' := [(2, 13), (2, 14), (0, d), (0, 0), (0, 0)]) ⟨Or.inl rfl, ⟨Or.inl rfl, ⟨Or.inl rfl, ⟨Or.inl rfl, ⟨Or.inl rfl, trivial⟩⟩⟩⟩⟩ ?_
  refine L5 ((Xn K - (0)).toNat + 1) (S) (0) (0) (Nat.lt_succ_self _) ?_ ?_ ?_
  · omega
  · omega
  · intro b hb; rfl

set_option maxRecDepth 20000 in
set_option maxHeartbeats 4000000 in
theorem c_Wn_gather15 (S : mm_S) (a : Int) (hC : mm_isC a) (K : CX) (hM : MC S a K) (hV : Vx K) (h0 : S 13 0 = a) (d : Int) : Cl 179 [(2, 13), (2, 15), (0, d)] S (fun v S' => ∃ z, v = some (0, z) ∧ (0 ≤ z ∧ z ≤ 12 ∧ z ≤ Xn K) ∧ ∀ b, b ≠ 15 → S' b = S b) := by
  refine ⟨Nat.le_of_ble_eq_true rfl, ?_⟩
  show Rn k_Wn_gather 0 [(2, 13), (2, 15), (0, d), (9, 0), (9, 0)] [] S _
  have hnr := hV.1.1
  have hout := isC_out hC
  have hn := hM.n
  refine R_op (nx := 1) rfl rfl rfl ?_
  refine R_lo (nx := 2) (ls' := [(2, 13), (2, 15), (0, d), (0, 0), (9, 0)]) rfl rfl rfl rfl ?_
  refine R_op (nx := 3) rfl rfl rfl ?_
  refine R_lo (nx := 5) (ls' := [(2, 13), (2, 15), (0, d), (0, 0), (0, 0)]) rfl rfl rfl rfl ?_
  have L5 : ∀ (f5 : Nat) (S1 : mm_S) (k : Int) (i : Int), (Xn K - i).toNat < f5 → (0 ≤ i ∧ i ≤ Xn K) → (0 ≤ k ∧ k ≤ i) → (∀ b, b ≠ 15 → S1 b = S b) → Rn k_Wn_gather 5 [(2, 13), (2, 15), (0, d), (0, k), (0, i)] [] S1 (fun v S' => ∃ z, v = some (0, z) ∧ (0 ≤ z ∧ z ≤ 12 ∧ z ≤ Xn K) ∧ ∀ b, b ≠ 15 → S' b = S b) := by
    intro f5
    induction f5 with
    | zero => intro S1 k i hm5; exact absurd hm5 (Nat.not_lt_zero _)
    | succ f5 ih5 =>
      intro S1 k i hm5 hi hk hF
      have g0 : S1 13 0 = a := by rw [hF 13 (by decide)]; exact h0
      have m1 : MC S1 a K := hM.fr fun c q r => hF c (by omega)
      have n1 := m1.n
      refine R_lo (nx := 7) rfl rfl rfl rfl ?_
      refine R_lo (nx := 8) rfl rfl rfl rfl ?_
      refine R_get (nx := 11) (w := (2, a)) rfl rfl rfl (congrArg (Prod.mk 2) (by assumption)) ?_
      refine R_get (nx := 14) (w := (0, (S1 a 0))) rfl rfl (isC_ob hC) rfl ?_
      rw [n1]
      refine R_icmp (nx := 17) (tg := 74) rfl rfl rfl (mm_cnd_ge _ _) (fun c14 => ?_) (fun c14 => ?_)
      ·
        refine R_lo (nx := 75) rfl rfl rfl rfl ?_
        refine R_ret rfl (fun _ _ => rfl) rfl rfl ?_
        exact ⟨_, rfl, by omega, hF⟩
      ·
        refine R_lo (nx := 18) rfl rfl rfl rfl ?_
        refine R_get (nx := 21) (w := (2, a)) rfl rfl rfl (congrArg (Prod.mk 2) (by assumption)) ?_
        refine R_lo (nx := 23) rfl rfl rfl rfl ?_
        refine R_call1 (nx := 26) (as := [(2, a), (0, i)]) (rest := []) rfl rfl (fun _ _ => rfl) rfl rfl rfl rfl rfl rfl (isC_rc hC _) rfl (Cl.mono (c_C_degree S1 a hC K (by first | assumption | exact MC.up (by assumption) (by omega) | exact MC.up (MC.up (by assumption) (by omega)) (by omega) | exact MC.up (MC.up (MC.up (by assumption) (by omega)) (by omega)) (by omega)) i) ?_)
        rintro _ _ ⟨rfl, rfl⟩
        refine ⟨_, rfl, ?_⟩
        refine R_lo (nx := 27) rfl rfl rfl rfl ?_
        refine R_icmp (nx := 30) (tg := 68) rfl rfl rfl (mm_cnd_ne _ _) (fun c27 => ?_) (fun c27 => ?_)
        ·
          refine R_iinc (nx := 71) (z := (i + 1)) (ls' := [(2, 13), (2, 15), (0, d), (0, k), (0, (i + 1))]) rfl rfl rfl rfl ⟨by omega, by omega⟩ rfl ?_
          refine R_op (nx := 74) (pc' := 5) rfl rfl rfl ?_
          refine Rn.weak (ls' := [(2, 13), (2, 15), (0, d), (0, k), (0, (i + 1))]) ⟨Or.inl rfl, ⟨Or.inl rfl, ⟨Or.inl rfl, ⟨Or.inl rfl, ⟨Or.inl rfl, trivial⟩⟩⟩⟩⟩ ?_
          refine ih5 (S1) (k) ((i + 1)) ?_ ?_ ?_ ?_
          · omega
          · omega
          · omega
          · intro b hb; first | exact hF b hb | (rw [f62 b hb]; exact hF b hb)
        ·
          replace c27 := Classical.not_not.mp c27
          refine R_lo (nx := 31) rfl rfl rfl rfl ?_
          refine R_get (nx := 34) (w := (0, (S1 13 2))) rfl rfl rfl rfl ?_
          refine R_op (nx := 35) rfl rfl rfl ?_
          refine R_icmp (nx := 38) (tg := 58) rfl rfl rfl (mm_cnd_eq _ _) (fun c35 => ?_) (fun c35 => ?_)
          ·
            refine R_lo (nx := 59) rfl rfl rfl rfl ?_
            refine R_lo (nx := 60) rfl rfl rfl rfl ?_
            refine R_lo (nx := 62) rfl rfl rfl rfl ?_
            refine R_call0 (nx := 65) (as := [(2, 15), (0, k), (0, i)]) (rest := []) rfl rfl (fun _ _ => rfl) rfl rfl rfl rfl rfl rfl rfl rfl (Cl.mono (c_P_setE S1 15 12 ⟨by decide, rfl⟩ (by decide) k i) ?_)
            rintro _ S62 ⟨rfl, f62⟩
            refine ⟨rfl, ?_⟩
            refine R_iinc (nx := 68) (z := (k + 1)) (ls' := [(2, 13), (2, 15), (0, d), (0, (k + 1)), (0, i)]) rfl rfl rfl rfl ⟨by omega, by omega⟩ rfl ?_
            refine R_iinc (nx := 71) (z := (i + 1)) (ls' := [(2, 13), (2, 15), (0, d), (0, (k + 1)), (0, (i + 1))]) rfl rfl rfl rfl ⟨by omega, by omega⟩ rfl ?_
            refine R_op (nx := 74) (pc' := 5) rfl rfl rfl ?_
            refine Rn.weak (ls' := [(2, 13), (2, 15), (0, d), (0, (k + 1)), (0, (i + 1))]) ⟨Or.inl rfl, ⟨Or.inl rfl, ⟨Or.inl rfl, ⟨Or.inl rfl, ⟨Or.inl rfl, trivial⟩⟩⟩⟩⟩ ?_
            refine ih5 (S62) ((k + 1)) ((i + 1)) ?_ ?_ ?_ ?_
            · omega
            · omega
            · omega
            · intro b hb; first | exact hF b hb | (rw [f62 b hb]; exact hF b hb)
          ·
            refine R_lo (nx := 39) rfl rfl rfl rfl ?_
            refine R_get (nx := 42) (w := (2, a)) rfl rfl rfl (congrArg (Prod.mk 2) (by assumption)) ?_
            refine R_lo (nx := 43) rfl rfl rfl rfl ?_
            refine R_get (nx := 46) (w := (0, (S1 13 1))) rfl rfl rfl rfl ?_
            refine R_lo (nx := 48) rfl rfl rfl rfl ?_
            refine R_call1 (nx := 51) (as := [(2, a), (0, (S1 13 1)), (0, i)]) (rest := []) rfl rfl (fun _ _ => rfl) rfl rfl rfl rfl rfl rfl (isC_rc hC _) rfl (Cl.mono (c_C_level S1 a hC K (by first | assumption | exact MC.up (by assumption) (by omega) | exact MC.up (MC.up (by assumption) (by omega)) (by omega) | exact MC.up (MC.up (MC.up (by assumption) (by omega)) (by omega)) (by omega)) (S1 13 1) i) ?_)
            rintro _ _ ⟨rfl, rfl⟩
            refine ⟨_, rfl, ?_⟩
            refine R_lo (nx := 52) rfl rfl rfl rfl ?_
            refine R_get (nx := 55) (w := (0, (S1 13 2))) rfl rfl rfl rfl ?_
            refine R_icmp (nx := 58) (tg := 68) rfl rfl rfl (mm_cnd_ne _ _) (fun c55 => ?_) (fun c55 => ?_)
            ·
              refine R_iinc (nx := 71) (z := (i + 1)) (ls' := [(2, 13), (2, 15), (0, d), (0, k), (0, (i + 1))]) rfl rfl rfl rfl ⟨by omega, by omega⟩ rfl ?_
              refine R_op (nx := 74) (pc' := 5) rfl rfl rfl ?_
              refine Rn.weak (ls' := [(2, 13), (2, 15), (0, d), (0, k), (0, (i + 1))]) ⟨Or.inl rfl, ⟨Or.inl rfl, ⟨Or.inl rfl, ⟨Or.inl rfl, ⟨Or.inl rfl, trivial⟩⟩⟩⟩⟩ ?_
              refine ih5 (S1) (k) ((i + 1)) ?_ ?_ ?_ ?_
              · omega
              · omega
              · omega
              · intro b hb; first | exact hF b hb | (rw [f62 b hb]; exact hF b hb)
            ·
              replace c55 := Classical.not_not.mp c55
              refine R_lo (nx := 59) rfl rfl rfl rfl ?_
              refine R_lo (nx := 60) rfl rfl rfl rfl ?_
              refine R_lo (nx := 62) rfl rfl rfl rfl ?_
              refine R_call0 (nx := 65) (as := [(2, 15), (0, k), (0, i)]) (rest := []) rfl rfl (fun _ _ => rfl) rfl rfl rfl rfl rfl rfl rfl rfl (Cl.mono (c_P_setE S1 15 12 ⟨by decide, rfl⟩ (by decide) k i) ?_)
              rintro _ S62_1 ⟨rfl, f62_1⟩
              refine ⟨rfl, ?_⟩
              refine R_iinc (nx := 68) (z := (k + 1)) (ls' := [(2, 13), (2, 15), (0, d), (0, (k + 1)), (0, i)]) rfl rfl rfl rfl ⟨by omega, by omega⟩ rfl ?_
              refine R_iinc (nx := 71) (z := (i + 1)) (ls' := [(2, 13), (2, 15), (0, d), (0, (k + 1)), (0, (i + 1))]) rfl rfl rfl rfl ⟨by omega, by omega⟩ rfl ?_
              refine R_op (nx := 74) (pc' := 5) rfl rfl rfl ?_
              refine Rn.weak (ls' := [(2, 13), (2, 15), (0, d), (0, (k + 1)), (0, (i + 1))]) ⟨Or.inl rfl, ⟨Or.inl rfl, ⟨Or.inl rfl, ⟨Or.inl rfl, ⟨Or.inl rfl, trivial⟩⟩⟩⟩⟩ ?_
              refine ih5 (S62_1) ((k + 1)) ((i + 1)) ?_ ?_ ?_ ?_
              · omega
              · omega
              · omega
              · intro b hb; first | exact hF b hb | (rw [f62_1 b hb]; exact hF b hb)
  refine Rn.weak (ls' := [(2, 13), (2, 15), (0, d), (0, 0), (0, 0)]) ⟨Or.inl rfl, ⟨Or.inl rfl, ⟨Or.inl rfl, ⟨Or.inl rfl, ⟨Or.inl rfl, trivial⟩⟩⟩⟩⟩ ?_
  refine L5 ((Xn K - (0)).toNat + 1) (S) (0) (0) (Nat.lt_succ_self _) ?_ ?_ ?_
  · omega
  · omega
  · intro b hb; rfl

set_option maxRecDepth 20000 in
set_option maxHeartbeats 4000000 in
theorem c_Wn_determinant (S : mm_S) (a : Int) (hC : mm_isC a) (K : CX) (hM : MC S a K) (hV : Vx K) (h0 : S 13 0 = a) (x y : Int) (h6 : 0 ≤ S 13 6 ∧ S 13 6 ≤ 12) : Cl 180 [(2, 13), (0, x), (0, y)] S (fun v S' => ∃ z, v = some (0, z) ∧ S = S') := by
  refine ⟨Nat.le_of_ble_eq_true rfl, ?_⟩
  show Rn k_Wn_determinant 0 [(2, 13), (0, x), (0, y), (9, 0), (9, 0), (9, 0), (9, 0), (9, 0), (9, 0), (9, 0), (9, 0)] [] S _
  have hnr := hV.1.1
  have hout := isC_out hC
  have hn := hM.n
  refine R_lo (nx := 1) rfl rfl rfl rfl ?_
  refine R_lo (nx := 2) rfl rfl rfl rfl ?_
  refine R_op (nx := 3) rfl rfl rfl ?_
  refine R_op (nx := 4) (st' := [(0, (mm_w32 (x - 1))), (0, x)]) rfl rfl rfl ?_
  refine R_op (nx := 5) (st' := [(0, (Int32.ofInt x &&& Int32.ofInt (mm_w32 (x - 1))).toInt)]) rfl rfl rfl ?_
  refine R_lo (nx := 6) (ls' := [(2, 13), (0, x), (0, y), (0, (Int32.ofInt x &&& Int32.ofInt (mm_w32 (x - 1))).toInt), (9, 0), (9, 0), (9, 0), (9, 0), (9, 0), (9, 0), (9, 0)]) rfl rfl rfl rfl ?_
  refine R_lo (nx := 7) rfl rfl rfl rfl ?_
  refine R_get (nx := 10) (w := (2, 14)) rfl rfl rfl rfl ?_
  refine R_lo (nx := 11) rfl rfl rfl rfl ?_
  refine R_lo (nx := 12) rfl rfl rfl rfl ?_
  refine R_op (nx := 13) (st' := [(0, (Int32.ofInt x ^^^ Int32.ofInt (Int32.ofInt x &&& Int32.ofInt (mm_w32 (x - 1))).toInt).toInt), (2, 14)]) rfl rfl rfl ?_
  refine R_op (nx := 14) rfl rfl rfl ?_
  refine R_op (nx := 15) (st' := [(0, (mm_w32 ((Int32.ofInt x ^^^ Int32.ofInt (Int32.ofInt x &&& Int32.ofInt (mm_w32 (x - 1))).toInt).toInt - 1))), (2, 14)]) rfl rfl rfl ?_
  refine R_call1 (nx := 18) (as := [(0, (mm_w32 ((Int32.ofInt x ^^^ Int32.ofInt (Int32.ofInt x &&& Int32.ofInt (mm_w32 (x - 1))).toInt).toInt - 1)))]) (rest := [(2, 14)]) rfl rfl (fun _ _ => rfl) rfl rfl rfl rfl rfl rfl rfl rfl (Cl.mono (c_In_bitCount S (mm_w32 ((Int32.ofInt x ^^^ Int32.ofInt (Int32.ofInt x &&& Int32.ofInt (mm_w32 (x - 1))).toInt).toInt - 1))) ?_)
  rintro _ _ ⟨z15, rfl, rfl⟩
  refine ⟨_, rfl, ?_⟩
  refine R_call1 (nx := 21) (as := [(2, 14), (0, z15)]) (rest := []) rfl rfl (fun _ _ => rfl) rfl rfl rfl rfl rfl rfl rfl rfl (Cl.mono (c_P_getE S 14 12 ⟨by decide, rfl⟩ (by decide) z15) ?_)
  rintro _ _ ⟨z18, rfl, rfl⟩
  refine ⟨_, rfl, ?_⟩
  refine R_lo (nx := 23) (ls' := [(2, 13), (0, x), (0, y), (0, (Int32.ofInt x &&& Int32.ofInt (mm_w32 (x - 1))).toInt), (0, z18), (9, 0), (9, 0), (9, 0), (9, 0), (9, 0), (9, 0)]) rfl rfl rfl rfl ?_
  refine R_lo (nx := 24) rfl rfl rfl rfl ?_
  refine R_lo (nx := 25) rfl rfl rfl rfl ?_
  refine R_get (nx := 28) (w := (0, (S 13 6))) rfl rfl rfl rfl ?_
  refine R_op (nx := 29) (st' := [(0, (Int32.ofInt (Int32.ofInt x &&& Int32.ofInt (mm_w32 (x - 1))).toInt <<< (Int32.ofInt (S 13 6) &&& 31)).toInt)]) rfl rfl rfl ?_
  refine R_lo (nx := 31) (ls' := [(2, 13), (0, x), (0, y), (0, (Int32.ofInt x &&& Int32.ofInt (mm_w32 (x - 1))).toInt), (0, z18), (0, (Int32.ofInt (Int32.ofInt x &&& Int32.ofInt (mm_w32 (x - 1))).toInt <<< (Int32.ofInt (S 13 6) &&& 31)).toInt), (9, 0), (9, 0), (9, 0), (9, 0), (9, 0)]) rfl rfl rfl rfl ?_
  refine R_op (nx := 32) rfl rfl rfl ?_
  refine R_lo (nx := 34) (ls' := [(2, 13), (0, x), (0, y), (0, (Int32.ofInt x &&& Int32.ofInt (mm_w32 (x - 1))).toInt), (0, z18), (0, (Int32.ofInt (Int32.ofInt x &&& Int32.ofInt (mm_w32 (x - 1))).toInt <<< (Int32.ofInt (S 13 6) &&& 31)).toInt), (0, 0), (9, 0), (9, 0), (9, 0), (9, 0)]) rfl rfl rfl rfl ?_
  refine R_op (nx := 35) rfl rfl rfl ?_
  refine R_lo (nx := 37) (ls' := [(2, 13), (0, x), (0, y), (0, (Int32.ofInt x &&& Int32.ofInt (mm_w32 (x - 1))).toInt), (0, z18), (0, (Int32.ofInt (Int32.ofInt x &&& Int32.ofInt (mm_w32 (x - 1))).toInt <<< (Int32.ofInt (S 13 6) &&& 31)).toInt), (0, 0), (0, 1), (9, 0), (9, 0), (9, 0)]) rfl rfl rfl rfl ?_
  refine R_op (nx := 38) rfl rfl rfl ?_
  refine R_lo (nx := 40) (ls' := [(2, 13), (0, x), (0, y), (0, (Int32.ofInt x &&& Int32.ofInt (mm_w32 (x - 1))).toInt), (0, z18), (0, (Int32.ofInt (Int32.ofInt x &&& Int32.ofInt (mm_w32 (x - 1))).toInt <<< (Int32.ofInt (S 13 6) &&& 31)).toInt), (0, 0), (0, 1), (0, 0), (9, 0), (9, 0)]) rfl rfl rfl rfl ?_
  have L40 : ∀ (f40 : Nat) (ac : Int) (sg : Int) (j : Int) (o : Int) (u : Int) (w : Int), ((12 : Int) - j).toNat < f40 → (0 ≤ j ∧ j ≤ 12) → (sg = 1 ∨ sg = -1) → Rn k_Wn_determinant 40 [(2, 13), (0, x), (0, y), (0, o), (0, u), (0, w), (0, ac), (0, sg), (0, j), (9, 0), (9, 0)] [] S (fun v S' => ∃ z, v = some (0, z) ∧ S = S') := by
    intro f40
    induction f40 with
    | zero => intro ac sg j o u w hm40; exact absurd hm40 (Nat.not_lt_zero _)
    | succ f40 ih40 =>
      intro ac sg j o u w hm40 hj hs
      refine R_lo (nx := 42) rfl rfl rfl rfl ?_
      refine R_lo (nx := 43) rfl rfl rfl rfl ?_
      refine R_get (nx := 46) (w := (0, (S 13 6))) rfl rfl rfl rfl ?_
      refine R_icmp (nx := 49) (tg := 118) rfl rfl rfl (mm_cnd_ge _ _) (fun c46 => ?_) (fun c46 => ?_)
      ·
        refine R_lo (nx := 120) rfl rfl rfl rfl ?_
        refine R_ret rfl (fun _ _ => rfl) rfl rfl ?_
        exact ⟨_, rfl, rfl⟩
      ·
        refine R_op (nx := 50) rfl rfl rfl ?_
        refine R_lo (nx := 52) rfl rfl rfl rfl ?_
        refine R_op (nx := 53) (st' := [(0, (Int32.ofInt 1 <<< (Int32.ofInt j &&& 31)).toInt)]) rfl rfl rfl ?_
        refine R_lo (nx := 55) (ls' := [(2, 13), (0, x), (0, y), (0, o), (0, u), (0, w), (0, ac), (0, sg), (0, j), (0, (Int32.ofInt 1 <<< (Int32.ofInt j &&& 31)).toInt), (9, 0)]) rfl rfl rfl rfl ?_
        refine R_lo (nx := 56) rfl rfl rfl rfl ?_
        refine R_lo (nx := 58) rfl rfl rfl rfl ?_
        refine R_op (nx := 59) (st' := [(0, (Int32.ofInt y &&& Int32.ofInt (Int32.ofInt 1 <<< (Int32.ofInt j &&& 31)).toInt).toInt)]) rfl rfl rfl ?_
        refine R_if (nx := 62) (tg := 112) rfl rfl rfl (mm_cnd_eq _ _) (fun c59 => ?_) (fun c59 => ?_)
        ·
          refine R_iinc (nx := 115) (z := (j + 1)) (ls' := [(2, 13), (0, x), (0, y), (0, o), (0, u), (0, w), (0, ac), (0, sg), (0, (j + 1)), (0, (Int32.ofInt 1 <<< (Int32.ofInt j &&& 31)).toInt), (9, 0)]) rfl rfl rfl rfl ⟨by omega, by omega⟩ rfl ?_
          refine R_op (nx := 118) (pc' := 40) rfl rfl rfl ?_
          refine Rn.weak (ls' := [(2, 13), (0, x), (0, y), (0, o), (0, u), (0, w), (0, ac), (0, sg), (0, (j + 1)), (9, 0), (9, 0)]) ⟨Or.inl rfl, ⟨Or.inl rfl, ⟨Or.inl rfl, ⟨Or.inl rfl, ⟨Or.inl rfl, ⟨Or.inl rfl, ⟨Or.inl rfl, ⟨Or.inl rfl, ⟨Or.inl rfl, ⟨Or.inr rfl, ⟨Or.inl rfl, trivial⟩⟩⟩⟩⟩⟩⟩⟩⟩⟩⟩ ?_
          refine ih40 (ac) (sg) ((j + 1)) (o) (u) (w) ?_ ?_ ?_
          · omega
          · omega
          · omega
        ·
          refine R_lo (nx := 63) rfl rfl rfl rfl ?_
          refine R_get (nx := 66) (w := (2, a)) rfl rfl rfl (congrArg (Prod.mk 2) (by assumption)) ?_
          refine R_lo (nx := 68) rfl rfl rfl rfl ?_
          refine R_lo (nx := 69) rfl rfl rfl rfl ?_
          refine R_get (nx := 72) (w := (2, 15)) rfl rfl rfl rfl ?_
          refine R_lo (nx := 74) rfl rfl rfl rfl ?_
          refine R_call1 (nx := 77) (as := [(2, 15), (0, j)]) (rest := [(0, u), (2, a)]) rfl rfl (fun _ _ => rfl) rfl rfl rfl rfl rfl rfl rfl rfl (Cl.mono (c_P_getE S 15 12 ⟨by decide, rfl⟩ (by decide) j) ?_)
          rintro _ _ ⟨z74, rfl, rfl⟩
          refine ⟨_, rfl, ?_⟩
          refine R_call1 (nx := 80) (as := [(2, a), (0, u), (0, z74)]) (rest := []) rfl rfl (fun _ _ => rfl) rfl rfl rfl rfl rfl rfl (isC_rc hC _) rfl (Cl.mono (c_C_edge S a hC K (by first | assumption | exact MC.up (by assumption) (by omega) | exact MC.up (MC.up (by assumption) (by omega)) (by omega) | exact MC.up (MC.up (MC.up (by assumption) (by omega)) (by omega)) (by omega)) u z74) ?_)
          rintro _ _ ⟨rfl, rfl⟩
          refine ⟨_, rfl, ?_⟩
          refine R_lo (nx := 82) (ls' := [(2, 13), (0, x), (0, y), (0, o), (0, u), (0, w), (0, ac), (0, sg), (0, j), (0, (Int32.ofInt 1 <<< (Int32.ofInt j &&& 31)).toInt), (0, (Xe K u z74))]) rfl rfl rfl rfl ?_
          refine R_lo (nx := 84) rfl rfl rfl rfl ?_
          refine R_lo (nx := 86) rfl rfl rfl rfl ?_
          refine R_lo (nx := 88) rfl rfl rfl rfl ?_
          refine R_op (nx := 89) (st' := [(0, (mm_w32 (sg * (Xe K u z74)))), (0, ac)]) rfl rfl rfl ?_
          refine R_lo (nx := 90) rfl rfl rfl rfl ?_
          refine R_get (nx := 93) (w := (2, 16)) rfl rfl rfl rfl ?_
          refine R_lo (nx := 95) rfl rfl rfl rfl ?_
          refine R_lo (nx := 96) rfl rfl rfl rfl ?_
          refine R_lo (nx := 98) rfl rfl rfl rfl ?_
          refine R_op (nx := 99) (st' := [(0, (Int32.ofInt y ^^^ Int32.ofInt (Int32.ofInt 1 <<< (Int32.ofInt j &&& 31)).toInt).toInt), (0, w), (2, 16), (0, (mm_w32 (sg * (Xe K u z74)))), (0, ac)]) rfl rfl rfl ?_
          refine R_op (nx := 100) (st' := [(0, (Int32.ofInt w ||| Int32.ofInt (Int32.ofInt y ^^^ Int32.ofInt (Int32.ofInt 1 <<< (Int32.ofInt j &&& 31)).toInt).toInt).toInt), (2, 16), (0, (mm_w32 (sg * (Xe K u z74)))), (0, ac)]) rfl rfl rfl ?_
          refine R_call1 (nx := 103) (as := [(2, 16), (0, (Int32.ofInt w ||| Int32.ofInt (Int32.ofInt y ^^^ Int32.ofInt (Int32.ofInt 1 <<< (Int32.ofInt j &&& 31)).toInt).toInt).toInt)]) (rest := [(0, (mm_w32 (sg * (Xe K u z74)))), (0, ac)]) rfl rfl (fun _ _ => rfl) rfl rfl rfl rfl rfl rfl rfl rfl (Cl.mono (c_P_getE S 16 4096 ⟨by decide, rfl⟩ (by decide) (Int32.ofInt w ||| Int32.ofInt (Int32.ofInt y ^^^ Int32.ofInt (Int32.ofInt 1 <<< (Int32.ofInt j &&& 31)).toInt).toInt).toInt) ?_)
          rintro _ _ ⟨z100, rfl, rfl⟩
          refine ⟨_, rfl, ?_⟩
          refine R_op (nx := 104) (st' := [(0, (mm_w32 ((mm_w32 (sg * (Xe K u z74))) * z100))), (0, ac)]) rfl rfl rfl ?_
          refine R_op (nx := 105) (st' := [(0, (mm_w32 (ac + (mm_w32 ((mm_w32 (sg * (Xe K u z74))) * z100)))))]) rfl rfl rfl ?_
          refine R_lo (nx := 107) (ls' := [(2, 13), (0, x), (0, y), (0, o), (0, u), (0, w), (0, (mm_w32 (ac + (mm_w32 ((mm_w32 (sg * (Xe K u z74))) * z100))))), (0, sg), (0, j), (0, (Int32.ofInt 1 <<< (Int32.ofInt j &&& 31)).toInt), (0, (Xe K u z74))]) rfl rfl rfl rfl ?_
          refine R_lo (nx := 109) rfl rfl rfl rfl ?_
          refine R_ineg (nx := 110) (z := (-sg)) rfl rfl rfl ⟨by omega, by omega⟩ ?_
          refine R_lo (nx := 112) (ls' := [(2, 13), (0, x), (0, y), (0, o), (0, u), (0, w), (0, (mm_w32 (ac + (mm_w32 ((mm_w32 (sg * (Xe K u z74))) * z100))))), (0, (-sg)), (0, j), (0, (Int32.ofInt 1 <<< (Int32.ofInt j &&& 31)).toInt), (0, (Xe K u z74))]) rfl rfl rfl rfl ?_
          refine R_iinc (nx := 115) (z := (j + 1)) (ls' := [(2, 13), (0, x), (0, y), (0, o), (0, u), (0, w), (0, (mm_w32 (ac + (mm_w32 ((mm_w32 (sg * (Xe K u z74))) * z100))))), (0, (-sg)), (0, (j + 1)), (0, (Int32.ofInt 1 <<< (Int32.ofInt j &&& 31)).toInt), (0, (Xe K u z74))]) rfl rfl rfl rfl ⟨by omega, by omega⟩ rfl ?_
          refine R_op (nx := 118) (pc' := 40) rfl rfl rfl ?_
          refine Rn.weak (ls' := [(2, 13), (0, x), (0, y), (0, o), (0, u), (0, w), (0, (mm_w32 (ac + (mm_w32 ((mm_w32 (sg * (Xe K u z74))) * z100))))), (0, (-sg)), (0, (j + 1)), (9, 0), (9, 0)]) ⟨Or.inl rfl, ⟨Or.inl rfl, ⟨Or.inl rfl, ⟨Or.inl rfl, ⟨Or.inl rfl, ⟨Or.inl rfl, ⟨Or.inl rfl, ⟨Or.inl rfl, ⟨Or.inl rfl, ⟨Or.inr rfl, ⟨Or.inr rfl, trivial⟩⟩⟩⟩⟩⟩⟩⟩⟩⟩⟩ ?_
          refine ih40 ((mm_w32 (ac + (mm_w32 ((mm_w32 (sg * (Xe K u z74))) * z100))))) ((-sg)) ((j + 1)) (o) (u) (w) ?_ ?_ ?_
          · omega
          · omega
          · omega
  refine Rn.weak (ls' := [(2, 13), (0, x), (0, y), (0, (Int32.ofInt x &&& Int32.ofInt (mm_w32 (x - 1))).toInt), (0, z18), (0, (Int32.ofInt (Int32.ofInt x &&& Int32.ofInt (mm_w32 (x - 1))).toInt <<< (Int32.ofInt (S 13 6) &&& 31)).toInt), (0, 0), (0, 1), (0, 0), (9, 0), (9, 0)]) ⟨Or.inl rfl, ⟨Or.inl rfl, ⟨Or.inl rfl, ⟨Or.inl rfl, ⟨Or.inl rfl, ⟨Or.inl rfl, ⟨Or.inl rfl, ⟨Or.inl rfl, ⟨Or.inl rfl, ⟨Or.inl rfl, ⟨Or.inl rfl, trivial⟩⟩⟩⟩⟩⟩⟩⟩⟩⟩⟩ ?_
  refine L40 (((12 : Int) - (0)).toNat + 1) (0) (1) (0) ((Int32.ofInt x &&& Int32.ofInt (mm_w32 (x - 1))).toInt) (z18) ((Int32.ofInt (Int32.ofInt x &&& Int32.ofInt (mm_w32 (x - 1))).toInt <<< (Int32.ofInt (S 13 6) &&& 31)).toInt) (Nat.lt_succ_self _) ?_ ?_
  · omega
  · omega

set_option maxRecDepth 20000 in
set_option maxHeartbeats 4000000 in
theorem c_Wn_quotient (S : mm_S) (k : Int) (hk : 0 ≤ k ∧ k ≤ 1000) : Cl 177 [(2, 13), (0, k)] S (fun v S' => ∃ z, v = some (0, z) ∧ S = S') := by
  refine ⟨Nat.le_of_ble_eq_true rfl, ?_⟩
  show Rn k_Wn_quotient 0 [(2, 13), (0, k), (9, 0)] [] S _
  refine R_lo (nx := 1) rfl rfl rfl rfl ?_
  refine R_get (nx := 4) (w := (2, 17)) rfl rfl rfl rfl ?_
  refine R_lo (nx := 5) rfl rfl rfl rfl ?_
  refine R_op (nx := 6) rfl rfl rfl ?_
  refine R_isub (nx := 7) (z := (k - 1)) rfl rfl rfl ⟨by omega, by omega⟩ ?_
  refine R_call1 (nx := 10) (as := [(2, 17), (0, (k - 1))]) (rest := []) rfl rfl (fun _ _ => rfl) rfl rfl rfl rfl rfl rfl rfl rfl (Cl.mono (c_P_getE S 17 13 ⟨by decide, rfl⟩ (by decide) (k - 1)) ?_)
  rintro _ _ ⟨z7, rfl, rfl⟩
  refine ⟨_, rfl, ?_⟩
  refine R_lo (nx := 11) (ls' := [(2, 13), (0, k), (0, z7)]) rfl rfl rfl rfl ?_
  refine R_lo (nx := 12) rfl rfl rfl rfl ?_
  refine R_if (nx := 15) (tg := 19) rfl rfl rfl (mm_cnd_ne _ _) (fun c12 => ?_) (fun c12 => ?_)
  ·
    refine R_lo (nx := 20) rfl rfl rfl rfl ?_
    refine R_get (nx := 23) (w := (2, 17)) rfl rfl rfl rfl ?_
    refine R_lo (nx := 24) rfl rfl rfl rfl ?_
    refine R_call1 (nx := 27) (as := [(2, 17), (0, k)]) (rest := []) rfl rfl (fun _ _ => rfl) rfl rfl rfl rfl rfl rfl rfl rfl (Cl.mono (c_P_getE S 17 13 ⟨by decide, rfl⟩ (by decide) k) ?_)
    rintro _ _ ⟨z24, rfl, rfl⟩
    refine ⟨_, rfl, ?_⟩
    refine R_lo (nx := 28) rfl rfl rfl rfl ?_
    refine R_idivW (nx := 29) rfl rfl (by omega) ?_
    refine R_ret rfl (fun _ _ => rfl) rfl rfl ?_
    exact ⟨_, rfl, rfl⟩
  ·
    replace c12 := Classical.not_not.mp c12
    refine R_op (nx := 16) rfl rfl rfl ?_
    refine R_op (nx := 19) (pc' := 29) rfl rfl rfl ?_
    refine R_ret rfl (fun _ _ => rfl) rfl rfl ?_
    exact ⟨_, rfl, rfl⟩

set_option maxRecDepth 20000 in
set_option maxHeartbeats 4000000 in
theorem c_Wn_findDivisors (S : mm_S) (a : Int) (hC : mm_isC a) (K : CX) (hM : MC S a K) (hV : Vx K) (h0 : S 13 0 = a) (d : Int) (hd : 0 ≤ d ∧ d ≤ 10) : Cl 178 [(2, 13), (0, d)] S (fun v S' => v = none ∧ (0 ≤ S' 13 9 ∧ S' 13 9 ≤ 12) ∧ (0 ≤ S' 13 5 ∧ S' 13 5 ≤ 12 ∧ S' 13 5 ≤ Xn K) ∧ S' 13 0 = a ∧ (Xn K = 0 → S' 13 9 = 0) ∧ ∀ b, ¬ (13 ≤ b ∧ b ≤ 17) → S' b = S b) := by
  refine ⟨Nat.le_of_ble_eq_true rfl, ?_⟩
  show Rn k_Wn_findDivisors 0 [(2, 13), (0, d), (9, 0), (9, 0), (9, 0), (9, 0)] [] S _
  have hnr := hV.1.1
  have hout := isC_out hC
  have hn := hM.n
  refine R_lo (nx := 1) rfl rfl rfl rfl ?_
  refine R_lo (nx := 2) rfl rfl rfl rfl ?_
  refine R_lo (nx := 3) rfl rfl rfl rfl ?_
  refine R_get (nx := 6) (w := (2, 14)) rfl rfl rfl rfl ?_
  refine R_lo (nx := 7) rfl rfl rfl rfl ?_
  refine R_call1 (nx := 10) (as := [(2, 13), (2, 14), (0, d)]) (rest := [(2, 13)]) rfl rfl (fun _ _ => rfl) rfl rfl rfl rfl rfl rfl rfl rfl (Cl.mono (c_Wn_gather14 S a hC K (by first | assumption | exact MC.up (by assumption) (by omega) | exact MC.up (MC.up (by assumption) (by omega)) (by omega) | exact MC.up (MC.up (MC.up (by assumption) (by omega)) (by omega)) (by omega)) hV h0 d) ?_)
  rintro _ S14 ⟨z14, rfl, y14, f14⟩
  refine ⟨_, rfl, ?_⟩
  refine R_put (nx := 13) (kk := 5) rfl rfl rfl rfl rfl ?_
  have g0 : (mm_up S14 13 5 z14) 13 0 = a := by rw [mm_uk (by decide), f14 13 (by decide)]; exact h0
  have mA : MC (mm_up S14 13 5 z14) a K := (hM.fr fun c q r => f14 c (by omega)).up (by omega)
  refine R_lo (nx := 14) rfl rfl rfl rfl ?_
  refine R_lo (nx := 15) rfl rfl rfl rfl ?_
  refine R_lo (nx := 16) rfl rfl rfl rfl ?_
  refine R_get (nx := 19) (w := (2, 15)) rfl rfl rfl rfl ?_
  refine R_lo (nx := 20) rfl rfl rfl rfl ?_
  refine R_op (nx := 21) rfl rfl rfl ?_
  refine R_isub (nx := 22) (z := (d - 1)) rfl rfl rfl ⟨by omega, by omega⟩ ?_
  refine R_call1 (nx := 25) (as := [(2, 13), (2, 15), (0, (d - 1))]) (rest := [(2, 13)]) rfl rfl (fun _ _ => rfl) rfl rfl rfl rfl rfl rfl rfl rfl (Cl.mono (c_Wn_gather15 (mm_up S14 13 5 z14) a hC K (by first | assumption | exact MC.up (by assumption) (by omega) | exact MC.up (MC.up (by assumption) (by omega)) (by omega) | exact MC.up (MC.up (MC.up (by assumption) (by omega)) (by omega)) (by omega)) hV g0 (d - 1)) ?_)
  rintro _ S15 ⟨z15, rfl, y15, f15⟩
  refine ⟨_, rfl, ?_⟩
  refine R_put (nx := 28) (kk := 6) rfl rfl rfl rfl rfl ?_
  have w0 : (mm_up S15 13 6 z15) 13 0 = a := by rw [mm_uk (by decide), f15 13 (by decide)]; exact g0
  have w5 : (mm_up S15 13 6 z15) 13 5 = z14 := by rw [mm_uk (by decide), f15 13 (by decide)]; exact mm_ua
  have w6 : (mm_up S15 13 6 z15) 13 6 = z15 := mm_ua
  have wF : ∀ b, ¬ (13 ≤ b ∧ b ≤ 17) → (mm_up S15 13 6 z15) b = S b := fun b hb => by rw [mm_unq (by omega), f15 b (by omega), mm_unq (by omega), f14 b (by omega)]
  refine R_lo (nx := 29) rfl rfl rfl rfl ?_
  refine R_get (nx := 32) (w := (2, 17)) rfl rfl rfl rfl ?_
  refine R_op (nx := 33) rfl rfl rfl ?_
  refine R_call0 (nx := 36) (as := [(2, 17), (0, 0)]) (rest := []) rfl rfl (fun _ _ => rfl) rfl rfl rfl rfl rfl rfl rfl rfl (Cl.mono (c_Ar_fill (mm_up S15 13 6 z15) 17 13 ⟨by decide, rfl⟩ (by decide) 0) ?_)
  rintro _ S33 ⟨rfl, h33, f33⟩
  refine ⟨rfl, ?_⟩
  refine R_lo (nx := 37) rfl rfl rfl rfl ?_
  refine R_get (nx := 40) (w := (2, 17)) rfl rfl rfl rfl ?_
  refine R_op (nx := 41) rfl rfl rfl ?_
  refine R_op (nx := 42) rfl rfl rfl ?_
  refine R_call0 (nx := 45) (as := [(2, 17), (0, 0), (0, 1)]) (rest := []) rfl rfl (fun _ _ => rfl) rfl rfl rfl rfl rfl rfl rfl rfl (Cl.mono (c_P_set S33 17 13 ⟨by decide, rfl⟩ (by decide) 0 1 ⟨by decide, by decide⟩) ?_)
  rintro _ _ ⟨rfl, rfl⟩
  refine ⟨rfl, ?_⟩
  refine R_lo (nx := 46) rfl rfl rfl rfl ?_
  refine R_get (nx := 49) (w := (2, 16)) rfl rfl rfl rfl ?_
  refine R_op (nx := 50) rfl rfl rfl ?_
  refine R_op (nx := 51) rfl rfl rfl ?_
  refine R_call0 (nx := 54) (as := [(2, 16), (0, 0), (0, 1)]) (rest := []) rfl rfl (fun _ _ => rfl) rfl rfl rfl rfl rfl rfl rfl rfl (Cl.mono (c_P_setE (mm_up S33 17 0 1) 16 4096 ⟨by decide, rfl⟩ (by decide) 0 1) ?_)
  rintro _ S51 ⟨rfl, f51⟩
  refine ⟨rfl, ?_⟩
  refine R_op (nx := 55) rfl rfl rfl ?_
  refine R_lo (nx := 56) (ls' := [(2, 13), (0, d), (0, 1), (9, 0), (9, 0), (9, 0)]) rfl rfl rfl rfl ?_
  have L56 : ∀ (f56 : Nat) (S1 : mm_S) (x : Int), ((5000 : Int) - x).toNat < f56 → (1 ≤ x ∧ x ≤ 4096) → (Xn K = 0 → x = 1 ∧ S1 17 1 = 0) → (S1 13 0 = a) → (0 ≤ S1 13 5 ∧ S1 13 5 ≤ 12 ∧ S1 13 5 ≤ Xn K) → (0 ≤ S1 13 6 ∧ S1 13 6 ≤ 12) → (∀ b, ¬ (13 ≤ b ∧ b ≤ 17) → S1 b = S b) → Rn k_Wn_findDivisors 56 [(2, 13), (0, d), (0, x), (9, 0), (9, 0), (9, 0)] [] S1 (fun v S' => v = none ∧ (0 ≤ S' 13 9 ∧ S' 13 9 ≤ 12) ∧ (0 ≤ S' 13 5 ∧ S' 13 5 ≤ 12 ∧ S' 13 5 ≤ Xn K) ∧ S' 13 0 = a ∧ (Xn K = 0 → S' 13 9 = 0) ∧ ∀ b, ¬ (13 ≤ b ∧ b ≤ 17) → S' b = S b) := by
    intro f56
    induction f56 with
    | zero => intro S1 x hm56; exact absurd hm56 (Nat.not_lt_zero _)
    | succ f56 ih56 =>
      intro S1 x hm56 hx pZ p0 p5 p6 pF
      refine R_lo (nx := 57) rfl rfl rfl rfl ?_
      refine R_op (nx := 58) rfl rfl rfl ?_
      refine R_lo (nx := 59) rfl rfl rfl rfl ?_
      refine R_get (nx := 62) (w := (0, (S1 13 5))) rfl rfl rfl rfl ?_
      refine R_op (nx := 63) (st' := [(0, (Int32.ofInt 1 <<< (Int32.ofInt (S1 13 5) &&& 31)).toInt), (0, x)]) rfl rfl rfl ?_
      have sb63 := shl_b (k := S1 13 5) (by omega)
      have sz63 : S1 13 5 = 0 → (Int32.ofInt 1 <<< (Int32.ofInt (S1 13 5) &&& 31)).toInt = 1 := fun e => by rw [e]; decide
      refine R_icmp (nx := 66) (tg := 157) rfl rfl rfl (mm_cnd_ge _ _) (fun c63 => ?_) (fun c63 => ?_)
      ·
        refine R_lo (nx := 158) rfl rfl rfl rfl ?_
        refine R_op (nx := 159) rfl rfl rfl ?_
        refine R_put (nx := 162) (kk := 9) rfl rfl rfl rfl rfl ?_
        have L162 : ∀ (f162 : Nat) (S3 : mm_S) (r : Int), ((12 : Int) - r).toNat < f162 → (0 ≤ r ∧ r ≤ 12) → (S3 13 9 = r) → (Xn K = 0 → r = 0 ∧ S3 17 1 = 0) → (S3 13 0 = a) → (0 ≤ S3 13 5 ∧ S3 13 5 ≤ 12 ∧ S3 13 5 ≤ Xn K) → (∀ b, ¬ (13 ≤ b ∧ b ≤ 17) → S3 b = S b) → Rn k_Wn_findDivisors 162 [(2, 13), (0, d), (9, 0), (9, 0), (9, 0), (9, 0)] [] S3 (fun v S' => v = none ∧ (0 ≤ S' 13 9 ∧ S' 13 9 ≤ 12) ∧ (0 ≤ S' 13 5 ∧ S' 13 5 ≤ 12 ∧ S' 13 5 ≤ Xn K) ∧ S' 13 0 = a ∧ (Xn K = 0 → S' 13 9 = 0) ∧ ∀ b, ¬ (13 ≤ b ∧ b ≤ 17) → S' b = S b) := by
          intro f162
          induction f162 with
          | zero => intro S3 r hm162; exact absurd hm162 (Nat.not_lt_zero _)
          | succ f162 ih162 =>
            intro S3 r hm162 hr r9 rZ r0 r5 rF
            refine R_lo (nx := 163) rfl rfl rfl rfl ?_
            refine R_get (nx := 166) (w := (0, (S3 13 9))) rfl rfl rfl rfl ?_
            rw [show (S3 13 9) = r from r9]
            refine R_op (nx := 168) rfl rfl rfl ?_
            refine R_icmp (nx := 171) (tg := 200) rfl rfl rfl (mm_cnd_ge _ _) (fun c168 => ?_) (fun c168 => ?_)
            ·
              refine R_ret rfl (fun _ _ => rfl) rfl rfl ?_
              exact ⟨rfl, by rw [r9]; omega, r5, r0, fun e => by rw [r9]; exact (rZ e).1, rF⟩
            ·
              refine R_lo (nx := 172) rfl rfl rfl rfl ?_
              refine R_get (nx := 175) (w := (2, 17)) rfl rfl rfl rfl ?_
              refine R_lo (nx := 176) rfl rfl rfl rfl ?_
              refine R_get (nx := 179) (w := (0, (S3 13 9))) rfl rfl rfl rfl ?_
              rw [show (S3 13 9) = r from r9]
              refine R_op (nx := 180) rfl rfl rfl ?_
              refine R_iadd (nx := 181) (z := (r + 1)) rfl rfl rfl ⟨by omega, by omega⟩ ?_
              refine R_call1 (nx := 184) (as := [(2, 17), (0, (r + 1))]) (rest := []) rfl rfl (fun _ _ => rfl) rfl rfl rfl rfl rfl rfl rfl rfl (Cl.mono (c_P_get S3 17 13 ⟨by decide, rfl⟩ (by decide) (r + 1)) ?_)
              rintro _ _ ⟨rfl, rfl⟩
              refine ⟨_, rfl, ?_⟩
              refine R_if (nx := 187) (tg := 200) rfl rfl rfl (mm_cnd_eq _ _) (fun c184 => ?_) (fun c184 => ?_)
              ·
                refine R_ret rfl (fun _ _ => rfl) rfl rfl ?_
                exact ⟨rfl, by rw [r9]; omega, r5, r0, fun e => by rw [r9]; exact (rZ e).1, rF⟩
              ·
                refine R_lo (nx := 188) rfl rfl rfl rfl ?_
                refine R_op (nx := 189) rfl rfl rfl ?_
                refine R_get (nx := 192) (w := (0, (S3 13 9))) rfl rfl rfl rfl ?_
                rw [show (S3 13 9) = r from r9]
                refine R_op (nx := 193) rfl rfl rfl ?_
                refine R_iadd (nx := 194) (z := (r + 1)) rfl rfl rfl ⟨by omega, by omega⟩ ?_
                refine R_put (nx := 197) (kk := 9) rfl rfl rfl rfl rfl ?_
                refine R_op (nx := 200) (pc' := 162) rfl rfl rfl ?_
                refine Rn.weak (ls' := [(2, 13), (0, d), (9, 0), (9, 0), (9, 0), (9, 0)]) ⟨Or.inl rfl, ⟨Or.inl rfl, ⟨Or.inl rfl, ⟨Or.inl rfl, ⟨Or.inl rfl, ⟨Or.inl rfl, trivial⟩⟩⟩⟩⟩⟩ ?_
                refine ih162 ((mm_up S3 13 9 (r + 1))) (r + 1) ?_ ?_ ?_ ?_ ?_ ?_ ?_
                · omega
                · omega
                · exact mm_ua
                · intro e; exfalso; obtain ⟨q1, q2⟩ := rZ e; apply c184; rw [q1, if_pos (by decide)]; exact q2
                · rw [mm_uk (by decide)]; exact r0
                · rw [mm_uk (by decide)]; exact r5
                · intro b hb; rw [mm_unq (by omega)]; exact rF b hb
        refine Rn.weak (ls' := [(2, 13), (0, d), (9, 0), (9, 0), (9, 0), (9, 0)]) ⟨Or.inl rfl, ⟨Or.inl rfl, ⟨Or.inr rfl, ⟨Or.inl rfl, ⟨Or.inl rfl, ⟨Or.inl rfl, trivial⟩⟩⟩⟩⟩⟩ ?_
        refine L162 (((12 : Int) - (0)).toNat + 1) ((mm_up S1 13 9 0)) (0) (Nat.lt_succ_self _) ?_ ?_ ?_ ?_ ?_ ?_
        · omega
        · exact mm_ua
        · intro e; exact ⟨rfl, by rw [mm_unq (by decide)]; exact (pZ e).2⟩
        · rw [mm_uk (by decide)]; exact p0
        · rw [mm_uk (by decide)]; exact p5
        · intro b hb; rw [mm_unq (by omega)]; exact pF b hb
      ·
        refine R_lo (nx := 67) rfl rfl rfl rfl ?_
        refine R_call1 (nx := 70) (as := [(0, x)]) (rest := []) rfl rfl (fun _ _ => rfl) rfl rfl rfl rfl rfl rfl rfl rfl (Cl.mono (c_In_bitCount S1 x) ?_)
        rintro _ _ ⟨z67, rfl, rfl⟩
        refine ⟨_, rfl, ?_⟩
        refine R_lo (nx := 71) (ls' := [(2, 13), (0, d), (0, x), (0, z67), (9, 0), (9, 0)]) rfl rfl rfl rfl ?_
        refine R_op (nx := 72) rfl rfl rfl ?_
        refine R_lo (nx := 74) (ls' := [(2, 13), (0, d), (0, x), (0, z67), (0, 1), (9, 0)]) rfl rfl rfl rfl ?_
        have L74 : ∀ (f74 : Nat) (S2 : mm_S) (y : Int), ((5000 : Int) - y).toNat < f74 → (1 ≤ y ∧ y ≤ 4096) → (S2 13 0 = a) → (0 ≤ S2 13 5 ∧ S2 13 5 ≤ 12 ∧ S2 13 5 ≤ Xn K) → (0 ≤ S2 13 6 ∧ S2 13 6 ≤ 12) → (∀ b, ¬ (13 ≤ b ∧ b ≤ 17) → S2 b = S b) → Rn k_Wn_findDivisors 74 [(2, 13), (0, d), (0, x), (0, z67), (0, y), (9, 0)] [] S2 (fun v S' => v = none ∧ (0 ≤ S' 13 9 ∧ S' 13 9 ≤ 12) ∧ (0 ≤ S' 13 5 ∧ S' 13 5 ≤ 12 ∧ S' 13 5 ≤ Xn K) ∧ S' 13 0 = a ∧ (Xn K = 0 → S' 13 9 = 0) ∧ ∀ b, ¬ (13 ≤ b ∧ b ≤ 17) → S' b = S b) := by
          intro f74
          induction f74 with
          | zero => intro S2 y hm74; exact absurd hm74 (Nat.not_lt_zero _)
          | succ f74 ih74 =>
            intro S2 y hm74 hy q0 q5 q6 qF
            have mB : MC S2 a K := hM.fr fun c q r => qF c (by omega)
            refine R_lo (nx := 76) rfl rfl rfl rfl ?_
            refine R_op (nx := 77) rfl rfl rfl ?_
            refine R_lo (nx := 78) rfl rfl rfl rfl ?_
            refine R_get (nx := 81) (w := (0, (S2 13 6))) rfl rfl rfl rfl ?_
            refine R_op (nx := 82) (st' := [(0, (Int32.ofInt 1 <<< (Int32.ofInt (S2 13 6) &&& 31)).toInt), (0, y)]) rfl rfl rfl ?_
            have sb82 := shl_b (k := S2 13 6) (by omega)
            refine R_icmp (nx := 85) (tg := 151) rfl rfl rfl (mm_cnd_ge _ _) (fun c82 => ?_) (fun c82 => ?_)
            ·
              refine R_iinc (nx := 154) (z := (x + 1)) (ls' := [(2, 13), (0, d), (0, (x + 1)), (0, z67), (0, y), (9, 0)]) rfl rfl rfl rfl ⟨by omega, by omega⟩ rfl ?_
              refine R_op (nx := 157) (pc' := 56) rfl rfl rfl ?_
              refine Rn.weak (ls' := [(2, 13), (0, d), (0, (x + 1)), (9, 0), (9, 0), (9, 0)]) ⟨Or.inl rfl, ⟨Or.inl rfl, ⟨Or.inl rfl, ⟨Or.inr rfl, ⟨Or.inr rfl, ⟨Or.inl rfl, trivial⟩⟩⟩⟩⟩⟩ ?_
              refine ih56 (S2) ((x + 1)) ?_ ?_ ?_ ?_ ?_ ?_ ?_
              · omega
              · omega
              · intro e; exfalso; have := pZ e; omega
              · exact q0
              · exact q5
              · exact q6
              · exact qF
            ·
              refine R_lo (nx := 87) rfl rfl rfl rfl ?_
              refine R_call1 (nx := 90) (as := [(0, y)]) (rest := []) rfl rfl (fun _ _ => rfl) rfl rfl rfl rfl rfl rfl rfl rfl (Cl.mono (c_In_bitCount S2 y) ?_)
              rintro _ _ ⟨z87, rfl, rfl⟩
              refine ⟨_, rfl, ?_⟩
              refine R_lo (nx := 91) rfl rfl rfl rfl ?_
              refine R_icmp (nx := 94) (tg := 145) rfl rfl rfl (mm_cnd_ne _ _) (fun c91 => ?_) (fun c91 => ?_)
              ·
                refine R_iinc (nx := 148) (z := (y + 1)) (ls' := [(2, 13), (0, d), (0, x), (0, z67), (0, (y + 1)), (9, 0)]) rfl rfl rfl rfl ⟨by omega, by omega⟩ rfl ?_
                refine R_op (nx := 151) (pc' := 74) rfl rfl rfl ?_
                refine Rn.weak (ls' := [(2, 13), (0, d), (0, x), (0, z67), (0, (y + 1)), (9, 0)]) ⟨Or.inl rfl, ⟨Or.inl rfl, ⟨Or.inl rfl, ⟨Or.inl rfl, ⟨Or.inl rfl, ⟨Or.inl rfl, trivial⟩⟩⟩⟩⟩⟩ ?_
                refine ih74 (S2) ((y + 1)) ?_ ?_ ?_ ?_ ?_ ?_
                · omega
                · omega
                · first | exact q0 | (rw [f142 13 (by decide), f118 13 (by decide)]; exact q0)
                · first | exact q5 | (rw [f142 13 (by decide), f118 13 (by decide)]; exact q5)
                · first | exact q6 | (rw [f142 13 (by decide), f118 13 (by decide)]; exact q6)
                · intro b hb; first | exact qF b hb | (rw [f142 b (by omega), f118 b (by omega)]; exact qF b hb)
              ·
                replace c91 := Classical.not_not.mp c91
                refine R_lo (nx := 95) rfl rfl rfl rfl ?_
                refine R_lo (nx := 96) rfl rfl rfl rfl ?_
                refine R_lo (nx := 98) rfl rfl rfl rfl ?_
                refine R_call1 (nx := 101) (as := [(2, 13), (0, x), (0, y)]) (rest := []) rfl rfl (fun _ _ => rfl) rfl rfl rfl rfl rfl rfl rfl rfl (Cl.mono (c_Wn_determinant S2 a hC K mB hV q0 x y q6) ?_)
                rintro _ _ ⟨z98, rfl, rfl⟩
                refine ⟨_, rfl, ?_⟩
                refine R_lo (nx := 103) (ls' := [(2, 13), (0, d), (0, x), (0, z67), (0, y), (0, z98)]) rfl rfl rfl rfl ?_
                refine R_lo (nx := 104) rfl rfl rfl rfl ?_
                refine R_get (nx := 107) (w := (2, 16)) rfl rfl rfl rfl ?_
                refine R_lo (nx := 108) rfl rfl rfl rfl ?_
                refine R_lo (nx := 109) rfl rfl rfl rfl ?_
                refine R_get (nx := 112) (w := (0, (S2 13 6))) rfl rfl rfl rfl ?_
                refine R_op (nx := 113) (st' := [(0, (Int32.ofInt x <<< (Int32.ofInt (S2 13 6) &&& 31)).toInt), (2, 16)]) rfl rfl rfl ?_
                refine R_lo (nx := 115) rfl rfl rfl rfl ?_
                refine R_op (nx := 116) (st' := [(0, (Int32.ofInt (Int32.ofInt x <<< (Int32.ofInt (S2 13 6) &&& 31)).toInt ||| Int32.ofInt y).toInt), (2, 16)]) rfl rfl rfl ?_
                refine R_lo (nx := 118) rfl rfl rfl rfl ?_
                refine R_call0 (nx := 121) (as := [(2, 16), (0, (Int32.ofInt (Int32.ofInt x <<< (Int32.ofInt (S2 13 6) &&& 31)).toInt ||| Int32.ofInt y).toInt), (0, z98)]) (rest := []) rfl rfl (fun _ _ => rfl) rfl rfl rfl rfl rfl rfl rfl rfl (Cl.mono (c_P_setE S2 16 4096 ⟨by decide, rfl⟩ (by decide) (Int32.ofInt (Int32.ofInt x <<< (Int32.ofInt (S2 13 6) &&& 31)).toInt ||| Int32.ofInt y).toInt z98) ?_)
                rintro _ S118 ⟨rfl, f118⟩
                refine ⟨rfl, ?_⟩
                refine R_lo (nx := 122) rfl rfl rfl rfl ?_
                refine R_get (nx := 125) (w := (2, 17)) rfl rfl rfl rfl ?_
                refine R_lo (nx := 126) rfl rfl rfl rfl ?_
                refine R_lo (nx := 127) rfl rfl rfl rfl ?_
                refine R_get (nx := 130) (w := (2, 17)) rfl rfl rfl rfl ?_
                refine R_lo (nx := 131) rfl rfl rfl rfl ?_
                refine R_call1 (nx := 134) (as := [(2, 17), (0, z67)]) (rest := [(0, z67), (2, 17)]) rfl rfl (fun _ _ => rfl) rfl rfl rfl rfl rfl rfl rfl rfl (Cl.mono (c_P_getE S118 17 13 ⟨by decide, rfl⟩ (by decide) z67) ?_)
                rintro _ _ ⟨z131, rfl, rfl⟩
                refine ⟨_, rfl, ?_⟩
                refine R_lo (nx := 136) rfl rfl rfl rfl ?_
                refine R_call1 (nx := 139) (as := [(0, z98)]) (rest := [(0, z131), (0, z67), (2, 17)]) rfl rfl (fun _ _ => rfl) rfl rfl rfl rfl rfl rfl rfl rfl (Cl.mono (c_Ma_absE S118 z98) ?_)
                rintro _ _ ⟨z136, rfl, rfl⟩
                refine ⟨_, rfl, ?_⟩
                refine R_call1 (nx := 142) (as := [(0, z131), (0, z136)]) (rest := [(0, z67), (2, 17)]) rfl rfl (fun _ _ => rfl) rfl rfl rfl rfl rfl rfl rfl rfl (Cl.mono (c_Wn_greatestDivisor S118 z131 z136) ?_)
                rintro _ _ ⟨z139, rfl, rfl⟩
                refine ⟨_, rfl, ?_⟩
                refine R_call0 (nx := 145) (as := [(2, 17), (0, z67), (0, z139)]) (rest := []) rfl rfl (fun _ _ => rfl) rfl rfl rfl rfl rfl rfl rfl rfl (Cl.mono (c_P_setE S118 17 13 ⟨by decide, rfl⟩ (by decide) z67 z139) ?_)
                rintro _ S142 ⟨rfl, f142⟩
                refine ⟨rfl, ?_⟩
                refine R_iinc (nx := 148) (z := (y + 1)) (ls' := [(2, 13), (0, d), (0, x), (0, z67), (0, (y + 1)), (0, z98)]) rfl rfl rfl rfl ⟨by omega, by omega⟩ rfl ?_
                refine R_op (nx := 151) (pc' := 74) rfl rfl rfl ?_
                refine Rn.weak (ls' := [(2, 13), (0, d), (0, x), (0, z67), (0, (y + 1)), (9, 0)]) ⟨Or.inl rfl, ⟨Or.inl rfl, ⟨Or.inl rfl, ⟨Or.inl rfl, ⟨Or.inl rfl, ⟨Or.inr rfl, trivial⟩⟩⟩⟩⟩⟩ ?_
                refine ih74 (S142) ((y + 1)) ?_ ?_ ?_ ?_ ?_ ?_
                · omega
                · omega
                · first | exact q0 | (rw [f142 13 (by decide), f118 13 (by decide)]; exact q0)
                · first | exact q5 | (rw [f142 13 (by decide), f118 13 (by decide)]; exact q5)
                · first | exact q6 | (rw [f142 13 (by decide), f118 13 (by decide)]; exact q6)
                · intro b hb; first | exact qF b hb | (rw [f142 b (by omega), f118 b (by omega)]; exact qF b hb)
        refine Rn.weak (ls' := [(2, 13), (0, d), (0, x), (0, z67), (0, 1), (9, 0)]) ⟨Or.inl rfl, ⟨Or.inl rfl, ⟨Or.inl rfl, ⟨Or.inl rfl, ⟨Or.inl rfl, ⟨Or.inl rfl, trivial⟩⟩⟩⟩⟩⟩ ?_
        refine L74 (((5000 : Int) - (1)).toNat + 1) (S1) (1) (Nat.lt_succ_self _) ?_ ?_ ?_ ?_ ?_
        · omega
        · exact p0
        · exact p5
        · exact p6
        · exact pF
  refine Rn.weak (ls' := [(2, 13), (0, d), (0, 1), (9, 0), (9, 0), (9, 0)]) ⟨Or.inl rfl, ⟨Or.inl rfl, ⟨Or.inl rfl, ⟨Or.inl rfl, ⟨Or.inl rfl, ⟨Or.inl rfl, trivial⟩⟩⟩⟩⟩⟩ ?_
  refine L56 (((5000 : Int) - (1)).toNat + 1) (S51) (1) (Nat.lt_succ_self _) ?_ ?_ ?_ ?_ ?_ ?_
  · omega
  · intro _; exact ⟨rfl, by rw [f51 17 (by decide), mm_uk (by decide)]; exact h33 1 (by decide) (by decide)⟩
  · rw [f51 13 (by decide), mm_unq (by decide), f33 13 (by decide)]; exact w0
  · rw [f51 13 (by decide), mm_unq (by decide), f33 13 (by decide), w5]; omega
  · rw [f51 13 (by decide), mm_unq (by decide), f33 13 (by decide), w6]; omega
  · intro b hb; rw [f51 b (by omega), mm_unq (by omega), f33 b (by omega)]; exact wF b hb

set_option maxRecDepth 20000 in
set_option maxHeartbeats 4000000 in
theorem c_Wn_free (S : mm_S) (a : Int) (hC : mm_isC a) (K : CX) (hM : MC S a K) (hV : Vx K) (h0 : S 13 0 = a) (d : Int) (hd : 0 ≤ d ∧ d ≤ 4) : Cl 175 [(2, 13), (0, d)] S (fun v S' => ∃ z, v = some (0, z) ∧ (Xn K = 0 → z = 0) ∧ ∀ b, ¬ (13 ≤ b ∧ b ≤ 17) → S' b = S b) := by
  refine ⟨Nat.le_of_ble_eq_true rfl, ?_⟩
  show Rn k_Wn_free 0 [(2, 13), (0, d), (9, 0), (9, 0)] [] S _
  have hnr := hV.1.1
  have hout := isC_out hC
  have hn := hM.n
  refine R_lo (nx := 1) rfl rfl rfl rfl ?_
  refine R_lo (nx := 2) rfl rfl rfl rfl ?_
  refine R_call0 (nx := 5) (as := [(2, 13), (0, d)]) (rest := []) rfl rfl (fun _ _ => rfl) rfl rfl rfl rfl rfl rfl rfl rfl (Cl.mono (c_Wn_findDivisors S a hC K hM hV h0 d (by omega)) ?_)
  rintro _ D1 ⟨rfl, a1, b1, c1, y1, F1⟩
  have mD : MC D1 a K := hM.fr fun c q r => F1 c (by omega)
  refine ⟨rfl, ?_⟩
  refine R_lo (nx := 6) rfl rfl rfl rfl ?_
  refine R_get (nx := 9) (w := (0, (D1 13 9))) rfl rfl rfl rfl ?_
  refine R_lo (nx := 10) (ls' := [(2, 13), (0, d), (0, (D1 13 9)), (9, 0)]) rfl rfl rfl rfl ?_
  refine R_lo (nx := 11) rfl rfl rfl rfl ?_
  refine R_get (nx := 14) (w := (0, (D1 13 5))) rfl rfl rfl rfl ?_
  refine R_lo (nx := 15) (ls' := [(2, 13), (0, d), (0, (D1 13 9)), (0, (D1 13 5))]) rfl rfl rfl rfl ?_
  refine R_lo (nx := 16) rfl rfl rfl rfl ?_
  refine R_lo (nx := 17) rfl rfl rfl rfl ?_
  refine R_op (nx := 18) rfl rfl rfl ?_
  refine R_iadd (nx := 19) (z := (d + 1)) rfl rfl rfl ⟨by omega, by omega⟩ ?_
  refine R_call0 (nx := 22) (as := [(2, 13), (0, (d + 1))]) (rest := []) rfl rfl (fun _ _ => rfl) rfl rfl rfl rfl rfl rfl rfl rfl (Cl.mono (c_Wn_findDivisors D1 a hC K mD hV c1 (d + 1) (by omega)) ?_)
  rintro _ D2 ⟨rfl, a2, b2, c2, y2, F2⟩
  refine ⟨rfl, ?_⟩
  refine R_lo (nx := 23) rfl rfl rfl rfl ?_
  refine R_lo (nx := 24) rfl rfl rfl rfl ?_
  refine R_isub (nx := 25) (z := ((D1 13 5) - (D1 13 9))) rfl rfl rfl ⟨by omega, by omega⟩ ?_
  refine R_lo (nx := 26) rfl rfl rfl rfl ?_
  refine R_get (nx := 29) (w := (0, (D2 13 9))) rfl rfl rfl rfl ?_
  refine R_isub (nx := 30) (z := (((D1 13 5) - (D1 13 9)) - (D2 13 9))) rfl rfl rfl ⟨by omega, by omega⟩ ?_
  refine R_ret rfl (fun _ _ => rfl) rfl rfl ?_
  exact ⟨_, rfl, fun e => by have := y1 e; have := y2 e; omega, fun b hb => by rw [F2 b hb, F1 b hb]⟩

set_option maxRecDepth 20000 in
set_option maxHeartbeats 4000000 in
theorem c_Wn_factor (S : mm_S) (a : Int) (hC : mm_isC a) (K : CX) (hM : MC S a K) (hV : Vx K) (h0 : S 13 0 = a) (d i : Int) (hd : 0 ≤ d ∧ d ≤ 4) (hi : 0 ≤ i ∧ mm_r32 i) : Cl 176 [(2, 13), (0, d), (0, i)] S (fun v S' => ∃ z, v = some (0, z) ∧ (Xn K = 0 → 0 < i → z = -3) ∧ ∀ b, ¬ (13 ≤ b ∧ b ≤ 17) → S' b = S b) := by
  refine ⟨Nat.le_of_ble_eq_true rfl, ?_⟩
  show Rn k_Wn_factor 0 [(2, 13), (0, d), (0, i), (9, 0)] [] S _
  have hnr := hV.1.1
  have hout := isC_out hC
  have hn := hM.n
  obtain ⟨hi0, hi1⟩ := hi
  unfold mm_r32 at hi1
  refine R_lo (nx := 1) rfl rfl rfl rfl ?_
  refine R_lo (nx := 2) rfl rfl rfl rfl ?_
  refine R_op (nx := 3) rfl rfl rfl ?_
  refine R_iadd (nx := 4) (z := (d + 1)) rfl rfl rfl ⟨by omega, by omega⟩ ?_
  refine R_call0 (nx := 7) (as := [(2, 13), (0, (d + 1))]) (rest := []) rfl rfl (fun _ _ => rfl) rfl rfl rfl rfl rfl rfl rfl rfl (Cl.mono (c_Wn_findDivisors S a hC K hM hV h0 (d + 1) (by omega)) ?_)
  rintro _ D1 ⟨rfl, a1, b1, c1, y1, F1⟩
  refine ⟨rfl, ?_⟩
  refine R_op (nx := 8) rfl rfl rfl ?_
  refine R_lo (nx := 9) (ls' := [(2, 13), (0, d), (0, i), (0, 0)]) rfl rfl rfl rfl ?_
  have L9 : ∀ (f9 : Nat) (k : Int), (D1 13 9 - k).toNat < f9 → (0 ≤ k ∧ k ≤ D1 13 9) → Rn k_Wn_factor 9 [(2, 13), (0, d), (0, i), (0, k)] [] D1 (fun v S' => ∃ z, v = some (0, z) ∧ (Xn K = 0 → 0 < i → z = -3) ∧ ∀ b, ¬ (13 ≤ b ∧ b ≤ 17) → S' b = S b) := by
    intro f9
    induction f9 with
    | zero => intro k hm9; exact absurd hm9 (Nat.not_lt_zero _)
    | succ f9 ih9 =>
      intro k hm9 hk
      refine R_lo (nx := 10) rfl rfl rfl rfl ?_
      refine R_lo (nx := 11) rfl rfl rfl rfl ?_
      refine R_get (nx := 14) (w := (0, (D1 13 9))) rfl rfl rfl rfl ?_
      refine R_icmp (nx := 17) (tg := 34) rfl rfl rfl (mm_cnd_ge _ _) (fun c14 => ?_) (fun c14 => ?_)
      ·
        refine R_lo (nx := 35) rfl rfl rfl rfl ?_
        refine R_lo (nx := 36) rfl rfl rfl rfl ?_
        refine R_get (nx := 39) (w := (0, (D1 13 9))) rfl rfl rfl rfl ?_
        refine R_lo (nx := 40) rfl rfl rfl rfl ?_
        refine R_isub (nx := 41) (z := ((D1 13 9) - k)) rfl rfl rfl ⟨by omega, by omega⟩ ?_
        refine R_icmp (nx := 44) (tg := 49) rfl rfl rfl (mm_cnd_le _ _) (fun c41 => ?_) (fun c41 => ?_)
        ·
          refine R_lo (nx := 50) rfl rfl rfl rfl ?_
          refine R_lo (nx := 51) rfl rfl rfl rfl ?_
          refine R_lo (nx := 52) rfl rfl rfl rfl ?_
          refine R_iadd (nx := 53) (z := (k + i)) rfl rfl rfl ⟨by omega, by omega⟩ ?_
          refine R_call1 (nx := 56) (as := [(2, 13), (0, (k + i))]) (rest := []) rfl rfl (fun _ _ => rfl) rfl rfl rfl rfl rfl rfl rfl rfl (Cl.mono (c_Wn_quotient D1 (k + i) (by omega)) ?_)
          rintro _ _ ⟨z53, rfl, rfl⟩
          refine ⟨_, rfl, ?_⟩
          refine R_ret rfl (fun _ _ => rfl) rfl rfl ?_
          exact ⟨_, rfl, fun e e2 => by have := y1 e; omega, F1⟩
        ·
          refine R_op (nx := 46) rfl rfl rfl ?_
          refine R_op (nx := 49) (pc' := 56) rfl rfl rfl ?_
          refine R_ret rfl (fun _ _ => rfl) rfl rfl ?_
          exact ⟨_, rfl, fun e e2 => by have := y1 e; omega, F1⟩
      ·
        refine R_lo (nx := 18) rfl rfl rfl rfl ?_
        refine R_lo (nx := 19) rfl rfl rfl rfl ?_
        refine R_op (nx := 20) rfl rfl rfl ?_
        refine R_iadd (nx := 21) (z := (k + 1)) rfl rfl rfl ⟨by omega, by omega⟩ ?_
        refine R_call1 (nx := 24) (as := [(2, 13), (0, (k + 1))]) (rest := []) rfl rfl (fun _ _ => rfl) rfl rfl rfl rfl rfl rfl rfl rfl (Cl.mono (c_Wn_quotient D1 (k + 1) (by omega)) ?_)
        rintro _ _ ⟨z21, rfl, rfl⟩
        refine ⟨_, rfl, ?_⟩
        refine R_op (nx := 25) rfl rfl rfl ?_
        refine R_icmp (nx := 28) (tg := 34) rfl rfl rfl (mm_cnd_ne _ _) (fun c25 => ?_) (fun c25 => ?_)
        ·
          refine R_lo (nx := 35) rfl rfl rfl rfl ?_
          refine R_lo (nx := 36) rfl rfl rfl rfl ?_
          refine R_get (nx := 39) (w := (0, (D1 13 9))) rfl rfl rfl rfl ?_
          refine R_lo (nx := 40) rfl rfl rfl rfl ?_
          refine R_isub (nx := 41) (z := ((D1 13 9) - k)) rfl rfl rfl ⟨by omega, by omega⟩ ?_
          refine R_icmp (nx := 44) (tg := 49) rfl rfl rfl (mm_cnd_le _ _) (fun c41_1 => ?_) (fun c41_1 => ?_)
          ·
            refine R_lo (nx := 50) rfl rfl rfl rfl ?_
            refine R_lo (nx := 51) rfl rfl rfl rfl ?_
            refine R_lo (nx := 52) rfl rfl rfl rfl ?_
            refine R_iadd (nx := 53) (z := (k + i)) rfl rfl rfl ⟨by omega, by omega⟩ ?_
            refine R_call1 (nx := 56) (as := [(2, 13), (0, (k + i))]) (rest := []) rfl rfl (fun _ _ => rfl) rfl rfl rfl rfl rfl rfl rfl rfl (Cl.mono (c_Wn_quotient D1 (k + i) (by omega)) ?_)
            rintro _ _ ⟨z53, rfl, rfl⟩
            refine ⟨_, rfl, ?_⟩
            refine R_ret rfl (fun _ _ => rfl) rfl rfl ?_
            exact ⟨_, rfl, fun e e2 => by have := y1 e; omega, F1⟩
          ·
            refine R_op (nx := 46) rfl rfl rfl ?_
            refine R_op (nx := 49) (pc' := 56) rfl rfl rfl ?_
            refine R_ret rfl (fun _ _ => rfl) rfl rfl ?_
            exact ⟨_, rfl, fun e e2 => by have := y1 e; omega, F1⟩
        ·
          replace c25 := Classical.not_not.mp c25
          refine R_iinc (nx := 31) (z := (k + 1)) (ls' := [(2, 13), (0, d), (0, i), (0, (k + 1))]) rfl rfl rfl rfl ⟨by omega, by omega⟩ rfl ?_
          refine R_op (nx := 34) (pc' := 9) rfl rfl rfl ?_
          refine Rn.weak (ls' := [(2, 13), (0, d), (0, i), (0, (k + 1))]) ⟨Or.inl rfl, ⟨Or.inl rfl, ⟨Or.inl rfl, ⟨Or.inl rfl, trivial⟩⟩⟩⟩ ?_
          refine ih9 ((k + 1)) ?_ ?_
          · omega
          · omega
  refine Rn.weak (ls' := [(2, 13), (0, d), (0, i), (0, 0)]) ⟨Or.inl rfl, ⟨Or.inl rfl, ⟨Or.inl rfl, ⟨Or.inl rfl, trivial⟩⟩⟩⟩ ?_
  refine L9 ((D1 13 9 - (0)).toNat + 1) (0) (Nat.lt_succ_self _) ?_
  · omega

set_option maxRecDepth 20000 in
set_option maxHeartbeats 4000000 in
theorem c_Wn_choose (S : mm_S) (a : Int) (hC : mm_isC a) (w l : Int) : Cl 174 [(2, 13), (2, a), (0, w), (0, l)] S (fun v S' => v = none ∧ S' = mm_up (mm_up (mm_up S 13 0 a) 13 1 w) 13 2 l) := by
  refine ⟨Nat.le_of_ble_eq_true rfl, ?_⟩
  show Rn k_Wn_choose 0 [(2, 13), (2, a), (0, w), (0, l)] [] S _
  have hk := isC_kd hC
  refine R_lo (nx := 1) rfl rfl rfl rfl ?_
  refine R_lo (nx := 2) rfl rfl rfl rfl ?_
  refine R_put (nx := 5) (kk := 0) rfl rfl rfl (by show decide _ = true; exact decide_eq_true ⟨rfl, by omega, by omega⟩) rfl ?_
  refine R_lo (nx := 6) rfl rfl rfl rfl ?_
  refine R_lo (nx := 7) rfl rfl rfl rfl ?_
  refine R_put (nx := 10) (kk := 1) rfl rfl rfl rfl rfl ?_
  refine R_lo (nx := 11) rfl rfl rfl rfl ?_
  refine R_lo (nx := 12) rfl rfl rfl rfl ?_
  refine R_put (nx := 15) (kk := 2) rfl rfl rfl rfl rfl ?_
  refine R_ret rfl (fun _ _ => rfl) rfl rfl ?_
  exact ⟨rfl, rfl⟩

set_option maxRecDepth 20000 in
set_option maxHeartbeats 4000000 in
theorem c_P_inWholeNumbers (S : mm_S) (a : Int) (hC : mm_isC a) (K : CX) (hM : MC S a K) (hV : Vx K) (w l d i : Int) (hd : 0 ≤ d ∧ d ≤ 4) (hi : 0 ≤ i ∧ mm_r32 i) : Cl 42 [(2, 0), (2, a), (0, w), (0, l), (0, d), (0, i)] S (fun v S' => ∃ z, v = some (0, z) ∧ (Xn K = 0 → z = if i = 0 then 0 else -3) ∧ ∀ b, ¬ (13 ≤ b ∧ b ≤ 17) → S' b = S b) := by
  refine ⟨Nat.le_of_ble_eq_true rfl, ?_⟩
  show Rn k_P_inWholeNumbers 0 [(2, 0), (2, a), (0, w), (0, l), (0, d), (0, i)] [] S _
  have hnr := hV.1.1
  have hout := isC_out hC
  have hn := hM.n
  refine R_lo (nx := 1) rfl rfl rfl rfl ?_
  refine R_get (nx := 4) (w := (2, 13)) rfl rfl rfl rfl ?_
  refine R_lo (nx := 5) rfl rfl rfl rfl ?_
  refine R_lo (nx := 6) rfl rfl rfl rfl ?_
  refine R_lo (nx := 7) rfl rfl rfl rfl ?_
  refine R_call0 (nx := 10) (as := [(2, 13), (2, a), (0, w), (0, l)]) (rest := []) rfl rfl (fun _ _ => rfl) rfl rfl rfl rfl rfl rfl rfl rfl (Cl.mono (c_Wn_choose S a hC w l) ?_)
  rintro _ _ ⟨rfl, rfl⟩
  refine ⟨rfl, ?_⟩
  refine R_lo (nx := 12) rfl rfl rfl rfl ?_
  refine R_if (nx := 15) (tg := 27) rfl rfl rfl (mm_cnd_ne _ _) (fun c12 => ?_) (fun c12 => ?_)
  ·
    refine R_lo (nx := 28) rfl rfl rfl rfl ?_
    refine R_get (nx := 31) (w := (2, 13)) rfl rfl rfl rfl ?_
    refine R_lo (nx := 33) rfl rfl rfl rfl ?_
    refine R_lo (nx := 35) rfl rfl rfl rfl ?_
    refine R_call1 (nx := 38) (as := [(2, 13), (0, d), (0, i)]) (rest := []) rfl rfl (fun _ _ => rfl) rfl rfl rfl rfl rfl rfl rfl rfl (Cl.mono (c_Wn_factor (mm_up (mm_up (mm_up S 13 0 a) 13 1 w) 13 2 l) a hC K (by first | assumption | exact MC.up (by assumption) (by omega) | exact MC.up (MC.up (by assumption) (by omega)) (by omega) | exact MC.up (MC.up (MC.up (by assumption) (by omega)) (by omega)) (by omega)) hV (by rw [mm_uk (by decide), mm_uk (by decide)]; exact mm_ua) d i hd hi) ?_)
    rintro _ S5 ⟨z5, rfl, g5, F5⟩
    refine ⟨_, rfl, ?_⟩
    refine R_ret rfl (fun _ _ => rfl) rfl rfl ?_
    exact ⟨_, rfl, fun e => by split <;> first | exact g5 e | exact g5 e (by omega) | omega, fun b hb => by rw [F5 b hb, mm_unq (by omega), mm_unq (by omega), mm_unq (by omega)]⟩
  ·
    replace c12 := Classical.not_not.mp c12
    refine R_lo (nx := 16) rfl rfl rfl rfl ?_
    refine R_get (nx := 19) (w := (2, 13)) rfl rfl rfl rfl ?_
    refine R_lo (nx := 21) rfl rfl rfl rfl ?_
    refine R_call1 (nx := 24) (as := [(2, 13), (0, d)]) (rest := []) rfl rfl (fun _ _ => rfl) rfl rfl rfl rfl rfl rfl rfl rfl (Cl.mono (c_Wn_free (mm_up (mm_up (mm_up S 13 0 a) 13 1 w) 13 2 l) a hC K (by first | assumption | exact MC.up (by assumption) (by omega) | exact MC.up (MC.up (by assumption) (by omega)) (by omega) | exact MC.up (MC.up (MC.up (by assumption) (by omega)) (by omega)) (by omega)) hV (by rw [mm_uk (by decide), mm_uk (by decide)]; exact mm_ua) d hd) ?_)
    rintro _ S5 ⟨z5, rfl, g5, F5⟩
    refine ⟨_, rfl, ?_⟩
    refine R_op (nx := 27) (pc' := 38) rfl rfl rfl ?_
    refine R_ret rfl (fun _ _ => rfl) rfl rfl ?_
    exact ⟨_, rfl, fun e => by split <;> first | exact g5 e | exact g5 e (by omega) | omega, fun b hb => by rw [F5 b hb, mm_unq (by omega), mm_unq (by omega), mm_unq (by omega)]⟩

set_option maxRecDepth 20000 in
set_option maxHeartbeats 4000000 in
theorem c_P_whole (S : mm_S) (A : mm_A) (hRC : RC S A) (hV : Vs A) (c d i : Int) (hi : mm_r32 i) : Cl 15 [(2, 0), (0, c), (0, d), (0, i)] S (fun vv S' => ∃ z, vv = some (0, z) ∧ (Zc A → z = W16z A c d i) ∧ RC S' A ∧ ∀ b, 71 ≤ b → S' b = S b) := by
  refine ⟨Nat.le_of_ble_eq_true rfl, ?_⟩
  show Rn k_P_whole 0 [(2, 0), (0, c), (0, d), (0, i), (9, 0)] [] S _
  refine R_lo (nx := 1) rfl rfl rfl rfl ?_
  refine R_lo (nx := 2) rfl rfl rfl rfl ?_
  refine R_call1 (nx := 5) (as := [(2, 0), (0, c)]) (rest := []) rfl rfl (fun _ _ => rfl) rfl rfl rfl rfl rfl rfl rfl rfl (Cl.mono (c_P_complexAt S c) ?_)
  rintro _ _ (⟨rfl, b2, rfl⟩ | ⟨rfl, b2, rfl⟩)
  ·
    have kb2 := hRC.k b2.1 b2.2
    have vb2 := hV.1 c b2.1 b2.2
    have rb2 := vb2.2.1
    have nb2 := kb2.n
    have zb2 := kb2.nr
    refine ⟨_, rfl, ?_⟩
    refine R_lo (nx := 7) (ls' := [(2, 0), (0, c), (0, d), (0, i), (2, (23 + 10 * c))]) rfl rfl rfl rfl ?_
    refine R_lo (nx := 9) rfl rfl rfl rfl ?_
    refine R_ifnull (nx := 12) (tg := 23) rfl rfl rfl (fun h => absurd h (by have := (isC_kd (isC_c (i := c) (by omega) (by omega))).1; omega)) (fun h => ?_)
    refine R_lo (nx := 13) rfl rfl rfl rfl ?_
    refine R_call1 (nx := 16) (as := [(0, d)]) (rest := []) rfl rfl (fun _ _ => rfl) rfl rfl rfl rfl rfl rfl rfl rfl (Cl.mono (c_P_isDegree S d) ?_)
    rintro _ _ (⟨rfl, b13, rfl⟩ | ⟨rfl, b13, rfl⟩)
    ·
      refine ⟨_, rfl, ?_⟩
      refine R_ifF (nx := 19) rfl rfl rfl ?_
      refine R_lo (nx := 20) rfl rfl rfl rfl ?_
      refine R_if (nx := 23) (tg := 25) rfl rfl rfl (mm_cnd_ge _ _) (fun c20 => ?_) (fun c20 => ?_)
      ·
        refine R_lo (nx := 27) rfl rfl rfl rfl ?_
        refine R_call1 (nx := 30) (as := [(2, (23 + 10 * c))]) (rest := []) rfl rfl (fun _ _ => rfl) rfl rfl rfl rfl rfl rfl (isC_rc (isC_c (i := c) (by omega) (by omega)) _) rfl (Cl.mono (c_C_isBroken S (23 + 10 * c) (isC_c (i := c) (by omega) (by omega)) (AK A c) (by first | assumption | exact MC.up (by assumption) (by omega) | exact MC.up (MC.up (by assumption) (by omega)) (by omega) | exact MC.up (MC.up (MC.up (by assumption) (by omega)) (by omega)) (by omega)) (by assumption)) ?_)
        rintro _ _ (⟨rfl, b27, rfl⟩ | ⟨rfl, b27, rfl⟩)
        ·
          refine ⟨_, rfl, ?_⟩
          refine R_ifF (nx := 33) rfl rfl rfl ?_
          refine R_op (nx := 35) rfl rfl rfl ?_
          refine R_op (nx := 38) (pc' := 48) rfl rfl rfl ?_
          refine R_ret rfl (fun _ _ => rfl) rfl rfl ?_
          first | exact ⟨_, rfl, fun e => by unfold W16z; first | rw [if_neg (by omega)] | rw [if_pos (by omega), if_neg (by omega)] | (rw [if_pos (by omega), if_pos (by omega)]; exact g9 (e c (by omega) (by omega))), hRC, fun b _ => rfl⟩ | exact ⟨_, rfl, fun e => by unfold W16z; first | rw [if_neg (by omega)] | rw [if_pos (by omega), if_neg (by omega)] | (rw [if_pos (by omega), if_pos (by omega)]; exact g9 (e c (by omega) (by omega))), hRC.fr fun b hb => F9 b (by omega), fun b hb => F9 b (by omega)⟩
        ·
          refine ⟨_, rfl, ?_⟩
          refine R_ifT (tg := 38) rfl rfl rfl ?_
          refine R_lo (nx := 39) rfl rfl rfl rfl ?_
          refine R_lo (nx := 41) rfl rfl rfl rfl ?_
          refine R_op (nx := 42) rfl rfl rfl ?_
          refine R_op (nx := 43) rfl rfl rfl ?_
          refine R_lo (nx := 44) rfl rfl rfl rfl ?_
          refine R_lo (nx := 45) rfl rfl rfl rfl ?_
          refine R_call1 (nx := 48) (as := [(2, 0), (2, (23 + 10 * c)), (0, 0), (0, (-1)), (0, d), (0, i)]) (rest := []) rfl rfl (fun _ _ => rfl) rfl rfl rfl rfl rfl rfl rfl rfl (Cl.mono (c_P_inWholeNumbers S (23 + 10 * c) (isC_c (i := c) (by omega) (by omega)) (AK A c) kb2 vb2 0 (-1) d i (by omega) ⟨by omega, hi⟩) ?_)
          rintro _ S9 ⟨z9, rfl, g9, F9⟩
          refine ⟨_, rfl, ?_⟩
          refine R_ret rfl (fun _ _ => rfl) rfl rfl ?_
          first | exact ⟨_, rfl, fun e => by unfold W16z; first | rw [if_neg (by omega)] | rw [if_pos (by omega), if_neg (by omega)] | (rw [if_pos (by omega), if_pos (by omega)]; exact g9 (e c (by omega) (by omega))), hRC, fun b _ => rfl⟩ | exact ⟨_, rfl, fun e => by unfold W16z; first | rw [if_neg (by omega)] | rw [if_pos (by omega), if_neg (by omega)] | (rw [if_pos (by omega), if_pos (by omega)]; exact g9 (e c (by omega) (by omega))), hRC.fr fun b hb => F9 b (by omega), fun b hb => F9 b (by omega)⟩
      ·
        refine R_op (nx := 24) rfl rfl rfl ?_
        refine R_ret rfl (fun _ _ => rfl) rfl rfl ?_
        first | exact ⟨_, rfl, fun e => by unfold W16z; first | rw [if_neg (by omega)] | rw [if_pos (by omega), if_neg (by omega)] | (rw [if_pos (by omega), if_pos (by omega)]; exact g9 (e c (by omega) (by omega))), hRC, fun b _ => rfl⟩ | exact ⟨_, rfl, fun e => by unfold W16z; first | rw [if_neg (by omega)] | rw [if_pos (by omega), if_neg (by omega)] | (rw [if_pos (by omega), if_pos (by omega)]; exact g9 (e c (by omega) (by omega))), hRC.fr fun b hb => F9 b (by omega), fun b hb => F9 b (by omega)⟩
    ·
      refine ⟨_, rfl, ?_⟩
      refine R_ifT (tg := 23) rfl rfl rfl ?_
      refine R_op (nx := 24) rfl rfl rfl ?_
      refine R_ret rfl (fun _ _ => rfl) rfl rfl ?_
      first | exact ⟨_, rfl, fun e => by unfold W16z; first | rw [if_neg (by omega)] | rw [if_pos (by omega), if_neg (by omega)] | (rw [if_pos (by omega), if_pos (by omega)]; exact g9 (e c (by omega) (by omega))), hRC, fun b _ => rfl⟩ | exact ⟨_, rfl, fun e => by unfold W16z; first | rw [if_neg (by omega)] | rw [if_pos (by omega), if_neg (by omega)] | (rw [if_pos (by omega), if_pos (by omega)]; exact g9 (e c (by omega) (by omega))), hRC.fr fun b hb => F9 b (by omega), fun b hb => F9 b (by omega)⟩
  ·
    refine ⟨_, rfl, ?_⟩
    refine R_lo (nx := 7) (ls' := [(2, 0), (0, c), (0, d), (0, i), (2, (-1))]) rfl rfl rfl rfl ?_
    refine R_lo (nx := 9) rfl rfl rfl rfl ?_
    refine R_ifnull (nx := 12) (tg := 23) rfl rfl rfl (fun h => ?_) (fun h => absurd (by decide) h)
    refine R_op (nx := 24) rfl rfl rfl ?_
    refine R_ret rfl (fun _ _ => rfl) rfl rfl ?_
    first | exact ⟨_, rfl, fun e => by unfold W16z; first | rw [if_neg (by omega)] | rw [if_pos (by omega), if_neg (by omega)] | (rw [if_pos (by omega), if_pos (by omega)]; exact g9 (e c (by omega) (by omega))), hRC, fun b _ => rfl⟩ | exact ⟨_, rfl, fun e => by unfold W16z; first | rw [if_neg (by omega)] | rw [if_pos (by omega), if_neg (by omega)] | (rw [if_pos (by omega), if_pos (by omega)]; exact g9 (e c (by omega) (by omega))), hRC.fr fun b hb => F9 b (by omega), fun b hb => F9 b (by omega)⟩

set_option maxRecDepth 20000 in
set_option maxHeartbeats 4000000 in
theorem c_P_wholeAt (S : mm_S) (A : mm_A) (hRC : RC S A) (hV : Vs A) (c w l d i : Int) (hi : mm_r32 i) : Cl 16 [(2, 0), (0, c), (0, w), (0, l), (0, d), (0, i)] S (fun vv S' => ∃ z, vv = some (0, z) ∧ (Zc A → z = W17z A c w l d i) ∧ RC S' A ∧ ∀ b, 71 ≤ b → S' b = S b) := by
  refine ⟨Nat.le_of_ble_eq_true rfl, ?_⟩
  show Rn k_P_wholeAt 0 [(2, 0), (0, c), (0, w), (0, l), (0, d), (0, i), (9, 0)] [] S _
  refine R_lo (nx := 1) rfl rfl rfl rfl ?_
  refine R_lo (nx := 2) rfl rfl rfl rfl ?_
  refine R_call1 (nx := 5) (as := [(2, 0), (0, c)]) (rest := []) rfl rfl (fun _ _ => rfl) rfl rfl rfl rfl rfl rfl rfl rfl (Cl.mono (c_P_complexAt S c) ?_)
  rintro _ _ (⟨rfl, b2, rfl⟩ | ⟨rfl, b2, rfl⟩)
  ·
    have kb2 := hRC.k b2.1 b2.2
    have vb2 := hV.1 c b2.1 b2.2
    have rb2 := vb2.2.1
    have nb2 := kb2.n
    have zb2 := kb2.nr
    refine ⟨_, rfl, ?_⟩
    refine R_lo (nx := 7) (ls' := [(2, 0), (0, c), (0, w), (0, l), (0, d), (0, i), (2, (23 + 10 * c))]) rfl rfl rfl rfl ?_
    refine R_lo (nx := 9) rfl rfl rfl rfl ?_
    refine R_ifnull (nx := 12) (tg := 39) rfl rfl rfl (fun h => absurd h (by have := (isC_kd (isC_c (i := c) (by omega) (by omega))).1; omega)) (fun h => ?_)
    refine R_lo (nx := 13) rfl rfl rfl rfl ?_
    refine R_call1 (nx := 16) (as := [(0, w)]) (rest := []) rfl rfl (fun _ _ => rfl) rfl rfl rfl rfl rfl rfl rfl rfl (Cl.mono (c_P_isWay S w) ?_)
    rintro _ _ (⟨rfl, b13, rfl⟩ | ⟨rfl, b13, rfl⟩)
    ·
      refine ⟨_, rfl, ?_⟩
      refine R_ifF (nx := 19) rfl rfl rfl ?_
      refine R_lo (nx := 20) rfl rfl rfl rfl ?_
      refine R_call1 (nx := 23) (as := [(0, l)]) (rest := []) rfl rfl (fun _ _ => rfl) rfl rfl rfl rfl rfl rfl rfl rfl (Cl.mono (c_P_isLevel S l) ?_)
      rintro _ _ (⟨rfl, b20, rfl⟩ | ⟨rfl, b20, rfl⟩)
      ·
        refine ⟨_, rfl, ?_⟩
        refine R_ifF (nx := 26) rfl rfl rfl ?_
        refine R_lo (nx := 28) rfl rfl rfl rfl ?_
        refine R_call1 (nx := 31) (as := [(0, d)]) (rest := []) rfl rfl (fun _ _ => rfl) rfl rfl rfl rfl rfl rfl rfl rfl (Cl.mono (c_P_isDegree S d) ?_)
        rintro _ _ (⟨rfl, b28, rfl⟩ | ⟨rfl, b28, rfl⟩)
        ·
          refine ⟨_, rfl, ?_⟩
          refine R_ifF (nx := 34) rfl rfl rfl ?_
          refine R_lo (nx := 36) rfl rfl rfl rfl ?_
          refine R_if (nx := 39) (tg := 41) rfl rfl rfl (mm_cnd_ge _ _) (fun c36 => ?_) (fun c36 => ?_)
          ·
            refine R_lo (nx := 43) rfl rfl rfl rfl ?_
            refine R_call1 (nx := 46) (as := [(2, (23 + 10 * c))]) (rest := []) rfl rfl (fun _ _ => rfl) rfl rfl rfl rfl rfl rfl (isC_rc (isC_c (i := c) (by omega) (by omega)) _) rfl (Cl.mono (c_C_isBroken S (23 + 10 * c) (isC_c (i := c) (by omega) (by omega)) (AK A c) (by first | assumption | exact MC.up (by assumption) (by omega) | exact MC.up (MC.up (by assumption) (by omega)) (by omega) | exact MC.up (MC.up (MC.up (by assumption) (by omega)) (by omega)) (by omega)) (by assumption)) ?_)
            rintro _ _ (⟨rfl, b43, rfl⟩ | ⟨rfl, b43, rfl⟩)
            ·
              refine ⟨_, rfl, ?_⟩
              refine R_ifF (nx := 49) rfl rfl rfl ?_
              refine R_op (nx := 51) rfl rfl rfl ?_
              refine R_op (nx := 54) (pc' := 66) rfl rfl rfl ?_
              refine R_ret rfl (fun _ _ => rfl) rfl rfl ?_
              first | exact ⟨_, rfl, fun e => by unfold W17z; first | rw [if_neg (by omega)] | rw [if_pos (by omega), if_neg (by omega)] | (rw [if_pos (by omega), if_pos (by omega)]; exact g9 (e c (by omega) (by omega))), hRC, fun b _ => rfl⟩ | exact ⟨_, rfl, fun e => by unfold W17z; first | rw [if_neg (by omega)] | rw [if_pos (by omega), if_neg (by omega)] | (rw [if_pos (by omega), if_pos (by omega)]; exact g9 (e c (by omega) (by omega))), hRC.fr fun b hb => F9 b (by omega), fun b hb => F9 b (by omega)⟩
            ·
              refine ⟨_, rfl, ?_⟩
              refine R_ifT (tg := 54) rfl rfl rfl ?_
              refine R_lo (nx := 55) rfl rfl rfl rfl ?_
              refine R_lo (nx := 57) rfl rfl rfl rfl ?_
              refine R_lo (nx := 58) rfl rfl rfl rfl ?_
              refine R_lo (nx := 59) rfl rfl rfl rfl ?_
              refine R_lo (nx := 61) rfl rfl rfl rfl ?_
              refine R_lo (nx := 63) rfl rfl rfl rfl ?_
              refine R_call1 (nx := 66) (as := [(2, 0), (2, (23 + 10 * c)), (0, w), (0, l), (0, d), (0, i)]) (rest := []) rfl rfl (fun _ _ => rfl) rfl rfl rfl rfl rfl rfl rfl rfl (Cl.mono (c_P_inWholeNumbers S (23 + 10 * c) (isC_c (i := c) (by omega) (by omega)) (AK A c) kb2 vb2 w l d i (by omega) ⟨by omega, hi⟩) ?_)
              rintro _ S9 ⟨z9, rfl, g9, F9⟩
              refine ⟨_, rfl, ?_⟩
              refine R_ret rfl (fun _ _ => rfl) rfl rfl ?_
              first | exact ⟨_, rfl, fun e => by unfold W17z; first | rw [if_neg (by omega)] | rw [if_pos (by omega), if_neg (by omega)] | (rw [if_pos (by omega), if_pos (by omega)]; exact g9 (e c (by omega) (by omega))), hRC, fun b _ => rfl⟩ | exact ⟨_, rfl, fun e => by unfold W17z; first | rw [if_neg (by omega)] | rw [if_pos (by omega), if_neg (by omega)] | (rw [if_pos (by omega), if_pos (by omega)]; exact g9 (e c (by omega) (by omega))), hRC.fr fun b hb => F9 b (by omega), fun b hb => F9 b (by omega)⟩
          ·
            refine R_op (nx := 40) rfl rfl rfl ?_
            refine R_ret rfl (fun _ _ => rfl) rfl rfl ?_
            first | exact ⟨_, rfl, fun e => by unfold W17z; first | rw [if_neg (by omega)] | rw [if_pos (by omega), if_neg (by omega)] | (rw [if_pos (by omega), if_pos (by omega)]; exact g9 (e c (by omega) (by omega))), hRC, fun b _ => rfl⟩ | exact ⟨_, rfl, fun e => by unfold W17z; first | rw [if_neg (by omega)] | rw [if_pos (by omega), if_neg (by omega)] | (rw [if_pos (by omega), if_pos (by omega)]; exact g9 (e c (by omega) (by omega))), hRC.fr fun b hb => F9 b (by omega), fun b hb => F9 b (by omega)⟩
        ·
          refine ⟨_, rfl, ?_⟩
          refine R_ifT (tg := 39) rfl rfl rfl ?_
          refine R_op (nx := 40) rfl rfl rfl ?_
          refine R_ret rfl (fun _ _ => rfl) rfl rfl ?_
          first | exact ⟨_, rfl, fun e => by unfold W17z; first | rw [if_neg (by omega)] | rw [if_pos (by omega), if_neg (by omega)] | (rw [if_pos (by omega), if_pos (by omega)]; exact g9 (e c (by omega) (by omega))), hRC, fun b _ => rfl⟩ | exact ⟨_, rfl, fun e => by unfold W17z; first | rw [if_neg (by omega)] | rw [if_pos (by omega), if_neg (by omega)] | (rw [if_pos (by omega), if_pos (by omega)]; exact g9 (e c (by omega) (by omega))), hRC.fr fun b hb => F9 b (by omega), fun b hb => F9 b (by omega)⟩
      ·
        refine ⟨_, rfl, ?_⟩
        refine R_ifT (tg := 39) rfl rfl rfl ?_
        refine R_op (nx := 40) rfl rfl rfl ?_
        refine R_ret rfl (fun _ _ => rfl) rfl rfl ?_
        first | exact ⟨_, rfl, fun e => by unfold W17z; first | rw [if_neg (by omega)] | rw [if_pos (by omega), if_neg (by omega)] | (rw [if_pos (by omega), if_pos (by omega)]; exact g9 (e c (by omega) (by omega))), hRC, fun b _ => rfl⟩ | exact ⟨_, rfl, fun e => by unfold W17z; first | rw [if_neg (by omega)] | rw [if_pos (by omega), if_neg (by omega)] | (rw [if_pos (by omega), if_pos (by omega)]; exact g9 (e c (by omega) (by omega))), hRC.fr fun b hb => F9 b (by omega), fun b hb => F9 b (by omega)⟩
    ·
      refine ⟨_, rfl, ?_⟩
      refine R_ifT (tg := 39) rfl rfl rfl ?_
      refine R_op (nx := 40) rfl rfl rfl ?_
      refine R_ret rfl (fun _ _ => rfl) rfl rfl ?_
      first | exact ⟨_, rfl, fun e => by unfold W17z; first | rw [if_neg (by omega)] | rw [if_pos (by omega), if_neg (by omega)] | (rw [if_pos (by omega), if_pos (by omega)]; exact g9 (e c (by omega) (by omega))), hRC, fun b _ => rfl⟩ | exact ⟨_, rfl, fun e => by unfold W17z; first | rw [if_neg (by omega)] | rw [if_pos (by omega), if_neg (by omega)] | (rw [if_pos (by omega), if_pos (by omega)]; exact g9 (e c (by omega) (by omega))), hRC.fr fun b hb => F9 b (by omega), fun b hb => F9 b (by omega)⟩
  ·
    refine ⟨_, rfl, ?_⟩
    refine R_lo (nx := 7) (ls' := [(2, 0), (0, c), (0, w), (0, l), (0, d), (0, i), (2, (-1))]) rfl rfl rfl rfl ?_
    refine R_lo (nx := 9) rfl rfl rfl rfl ?_
    refine R_ifnull (nx := 12) (tg := 39) rfl rfl rfl (fun h => ?_) (fun h => absurd (by decide) h)
    refine R_op (nx := 40) rfl rfl rfl ?_
    refine R_ret rfl (fun _ _ => rfl) rfl rfl ?_
    first | exact ⟨_, rfl, fun e => by unfold W17z; first | rw [if_neg (by omega)] | rw [if_pos (by omega), if_neg (by omega)] | (rw [if_pos (by omega), if_pos (by omega)]; exact g9 (e c (by omega) (by omega))), hRC, fun b _ => rfl⟩ | exact ⟨_, rfl, fun e => by unfold W17z; first | rw [if_neg (by omega)] | rw [if_pos (by omega), if_neg (by omega)] | (rw [if_pos (by omega), if_pos (by omega)]; exact g9 (e c (by omega) (by omega))), hRC.fr fun b hb => F9 b (by omega), fun b hb => F9 b (by omega)⟩
