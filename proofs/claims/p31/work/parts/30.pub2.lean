/-! Calls: more of the plain ones. -/
def Q_entryOf (A : mm_A) (c x y : Int) : Int × mm_A := if (0 ≤ c ∧ c < 4) ∧ (0 ≤ x ∧ x < Xn (AK A c)) ∧ (0 ≤ y ∧ y < Xn (AK A c)) then (10 + Xe (AK A c) x y, A) else (-1, A)

set_option maxRecDepth 20000 in
set_option maxHeartbeats 4000000 in
theorem c_P_entryOf (S : mm_S) (A : mm_A) (hRC : RC S A) (hV : Vs A) (c x y : Int) : Cl 3 [(2, 0), (0, c), (0, x), (0, y)] S (fun vv S' => vv = some (0, (Q_entryOf A c x y).1) ∧ RC S' (Q_entryOf A c x y).2 ∧ ∀ b, 71 ≤ b → S' b = S b) := by
  refine ⟨Nat.le_of_ble_eq_true rfl, ?_⟩
  show Rn k_P_entryOf 0 [(2, 0), (0, c), (0, x), (0, y), (9, 0)] [] S _
  refine R_lo (nx := 1) rfl rfl rfl rfl ?_
  refine R_lo (nx := 2) rfl rfl rfl rfl ?_
  refine R_call1 (nx := 5) (as := [(2, 0), (0, c)]) (rest := []) rfl rfl (fun _ _ => rfl) rfl rfl rfl rfl rfl rfl rfl rfl (Cl.mono (c_P_complexAt S c) ?_)
  rintro _ _ (⟨rfl, b2, rfl⟩ | ⟨rfl, b2, rfl⟩)
  ·
    have kb2 := hRC.k b2.1 b2.2
    have vb2 := hV.1 c b2.1 b2.2
    have rb2 := vb2.2.1
    have nb2 := kb2.n
    have zb2 := kb2.nr
    refine ⟨_, rfl, ?_⟩
    refine R_lo (nx := 7) (ls' := [(2, 0), (0, c), (0, x), (0, y), (2, (23 + 10 * c))]) rfl rfl rfl rfl ?_
    refine R_lo (nx := 9) rfl rfl rfl rfl ?_
    refine R_ifnull (nx := 12) (tg := 30) rfl rfl rfl (fun h => absurd h (by have := (isC_kd (isC_c (i := c) (by omega) (by omega))).1; omega)) (fun h => ?_)
    refine R_lo (nx := 14) rfl rfl rfl rfl ?_
    refine R_lo (nx := 15) rfl rfl rfl rfl ?_
    refine R_call1 (nx := 18) (as := [(2, (23 + 10 * c)), (0, x)]) (rest := []) rfl rfl (fun _ _ => rfl) rfl rfl rfl rfl rfl rfl (isC_rc (isC_c (i := c) (by omega) (by omega)) _) rfl (Cl.mono (c_C_has S (23 + 10 * c) (isC_c (i := c) (by omega) (by omega)) (AK A c) (by first | assumption | exact MC.up (by assumption) (by omega) | exact MC.up (MC.up (by assumption) (by omega)) (by omega) | exact MC.up (MC.up (MC.up (by assumption) (by omega)) (by omega)) (by omega)) x) ?_)
    rintro _ _ (⟨rfl, b15, rfl⟩ | ⟨rfl, b15, rfl⟩)
    ·
      refine ⟨_, rfl, ?_⟩
      refine R_ifF (nx := 21) rfl rfl rfl ?_
      refine R_lo (nx := 23) rfl rfl rfl rfl ?_
      refine R_lo (nx := 24) rfl rfl rfl rfl ?_
      refine R_call1 (nx := 27) (as := [(2, (23 + 10 * c)), (0, y)]) (rest := []) rfl rfl (fun _ _ => rfl) rfl rfl rfl rfl rfl rfl (isC_rc (isC_c (i := c) (by omega) (by omega)) _) rfl (Cl.mono (c_C_has S (23 + 10 * c) (isC_c (i := c) (by omega) (by omega)) (AK A c) (by first | assumption | exact MC.up (by assumption) (by omega) | exact MC.up (MC.up (by assumption) (by omega)) (by omega) | exact MC.up (MC.up (MC.up (by assumption) (by omega)) (by omega)) (by omega)) y) ?_)
      rintro _ _ (⟨rfl, b24, rfl⟩ | ⟨rfl, b24, rfl⟩)
      ·
        refine ⟨_, rfl, ?_⟩
        refine R_ifT (tg := 32) rfl rfl rfl ?_
        refine R_op (nx := 34) rfl rfl rfl ?_
        refine R_lo (nx := 36) rfl rfl rfl rfl ?_
        refine R_lo (nx := 37) rfl rfl rfl rfl ?_
        refine R_lo (nx := 38) rfl rfl rfl rfl ?_
        refine R_call1 (nx := 41) (as := [(2, (23 + 10 * c)), (0, x), (0, y)]) (rest := [(0, 10)]) rfl rfl (fun _ _ => rfl) rfl rfl rfl rfl rfl rfl (isC_rc (isC_c (i := c) (by omega) (by omega)) _) rfl (Cl.mono (c_C_edge S (23 + 10 * c) (isC_c (i := c) (by omega) (by omega)) (AK A c) (by first | assumption | exact MC.up (by assumption) (by omega) | exact MC.up (MC.up (by assumption) (by omega)) (by omega) | exact MC.up (MC.up (MC.up (by assumption) (by omega)) (by omega)) (by omega)) x y) ?_)
        rintro _ _ ⟨rfl, rfl⟩
        refine ⟨_, rfl, ?_⟩
        refine R_iadd (nx := 42) (z := (10 + (Xe (AK A c) x y))) rfl rfl rfl (by have := rb2.e x y; exact ⟨by omega, by omega⟩) ?_
        refine R_ret rfl (fun _ _ => rfl) rfl rfl ?_
        rw [show Q_entryOf A c x y = ((10 + (Xe (AK A c) x y)), A) from by simp only [Q_entryOf, b2, b15, b24, ifm, ifp, iffq, ↓reduceIte, ite_self, and_self, and_true, true_and, and_false, false_and, or_true, true_or, or_false, false_or, or_self, not_true_eq_false, not_false_eq_true, ne_eq, Int.reduceEq, Int.reduceSub, Int.reduceNeg]]; exact ⟨rfl, hRC, fun b _ => rfl⟩
      ·
        refine ⟨_, rfl, ?_⟩
        refine R_ifF (nx := 30) rfl rfl rfl ?_
        refine R_op (nx := 31) rfl rfl rfl ?_
        refine R_ret rfl (fun _ _ => rfl) rfl rfl ?_
        rw [show Q_entryOf A c x y = ((-1), A) from by simp only [Q_entryOf, b2, b15, b24, ifm, ifp, iffq, ↓reduceIte, ite_self, and_self, and_true, true_and, and_false, false_and, or_true, true_or, or_false, false_or, or_self, not_true_eq_false, not_false_eq_true, ne_eq, Int.reduceEq, Int.reduceSub, Int.reduceNeg]]; exact ⟨rfl, hRC, fun b _ => rfl⟩
    ·
      refine ⟨_, rfl, ?_⟩
      refine R_ifT (tg := 30) rfl rfl rfl ?_
      refine R_op (nx := 31) rfl rfl rfl ?_
      refine R_ret rfl (fun _ _ => rfl) rfl rfl ?_
      rw [show Q_entryOf A c x y = ((-1), A) from by simp only [Q_entryOf, b2, b15, ifm, ifp, iffq, ↓reduceIte, ite_self, and_self, and_true, true_and, and_false, false_and, or_true, true_or, or_false, false_or, or_self, not_true_eq_false, not_false_eq_true, ne_eq, Int.reduceEq, Int.reduceSub, Int.reduceNeg]]; exact ⟨rfl, hRC, fun b _ => rfl⟩
  ·
    refine ⟨_, rfl, ?_⟩
    refine R_lo (nx := 7) (ls' := [(2, 0), (0, c), (0, x), (0, y), (2, (-1))]) rfl rfl rfl rfl ?_
    refine R_lo (nx := 9) rfl rfl rfl rfl ?_
    refine R_ifnull (nx := 12) (tg := 30) rfl rfl rfl (fun h => ?_) (fun h => absurd (by decide) h)
    refine R_op (nx := 31) rfl rfl rfl ?_
    refine R_ret rfl (fun _ _ => rfl) rfl rfl ?_
    rw [show Q_entryOf A c x y = ((-1), A) from by simp only [Q_entryOf, b2, ifm, ifp, iffq, ↓reduceIte, ite_self, and_self, and_true, true_and, and_false, false_and, or_true, true_or, or_false, false_or, or_self, not_true_eq_false, not_false_eq_true, ne_eq, Int.reduceEq, Int.reduceSub, Int.reduceNeg]]; exact ⟨rfl, hRC, fun b _ => rfl⟩

set_option maxRecDepth 20000 in
set_option maxHeartbeats 4000000 in
theorem c_M_entryOf (S : mm_S) (A : mm_A) (hRR : RR S A) (hV : Vs A) (c x y : Int) : Cl 60 [(2, 71), (0, c), (0, x), (0, y)] S (fun vv S' => vv = some (0, (Q_entryOf A c x y).1) ∧ RR S' (Q_entryOf A c x y).2 ∧ ∀ b, ¬ (71 ≤ b ∧ b < 91) → S' b = S b) := by
  refine ⟨Nat.le_of_ble_eq_true rfl, ?_⟩
  show Rn k_M_entryOf 0 [(2, 71), (0, c), (0, x), (0, y)] [] S _
  refine R_lo (nx := 1) rfl rfl rfl rfl ?_
  refine R_lo (nx := 2) rfl rfl rfl rfl ?_
  refine R_lo (nx := 3) rfl rfl rfl rfl ?_
  refine R_lo (nx := 4) rfl rfl rfl rfl ?_
  refine R_call1 (nx := 7) (as := [(2, 71), (0, c), (0, x), (0, y)]) (rest := []) rfl rfl (fun _ _ => rfl) rfl rfl rfl rfl rfl rfl rfl rfl (Cl.mono (c_M_isEntry S (AK A) (by first | assumption | exact hRR.1) c x y) ?_)
  rintro _ _ (⟨rfl, b4, rfl⟩ | ⟨rfl, b4, rfl⟩)
  ·
    try have k4 := hRR.k b4.1.1 b4.1.2
    try have z4 := k4.1.nr
    try have v4 := hV.1 _ b4.1.1 b4.1.2
    try have r4 := v4.2.1
    refine ⟨_, rfl, ?_⟩
    refine R_ifF (nx := 10) rfl rfl rfl ?_
    refine R_op (nx := 12) rfl rfl rfl ?_
    refine R_lo (nx := 13) rfl rfl rfl rfl ?_
    refine R_lo (nx := 14) rfl rfl rfl rfl ?_
    refine R_lo (nx := 15) rfl rfl rfl rfl ?_
    refine R_lo (nx := 16) rfl rfl rfl rfl ?_
    refine R_call1 (nx := 19) (as := [(2, 71), (0, c), (0, x), (0, y)]) (rest := [(0, 10)]) rfl rfl (fun _ _ => rfl) rfl rfl rfl rfl rfl rfl rfl rfl (Cl.mono (c_M_edge S c (by omega) (AK A c) (show MRr S c (AK A c) by first | assumption | exact MR.r (by assumption) | exact MRr.up (by assumption) (by omega) | exact MRr.up (MR.r (by assumption)) (by omega) | exact MRr.up (MRr.up (MR.r (by assumption)) (by omega)) (by omega)) x y (by omega) (by omega)) ?_)
    rintro _ _ ⟨rfl, rfl⟩
    refine ⟨_, rfl, ?_⟩
    refine R_iadd (nx := 20) (z := (10 + (Xe (AK A c) x y))) rfl rfl rfl (by have := r4.e x y; exact ⟨by omega, by omega⟩) ?_
    refine R_op (nx := 23) (pc' := 24) rfl rfl rfl ?_
    refine R_ret rfl (fun _ _ => rfl) rfl rfl ?_
    rw [show Q_entryOf A c x y = ((10 + (Xe (AK A c) x y)), A) from by simp only [Q_entryOf, b4, ifm, ifp, iffq, ↓reduceIte, ite_self, and_self, and_true, true_and, and_false, false_and, or_true, true_or, or_false, false_or, or_self, not_true_eq_false, not_false_eq_true, ne_eq, Int.reduceEq, Int.reduceSub, Int.reduceNeg]]; exact ⟨rfl, hRR, fun b _ => rfl⟩
  ·
    try have k4 := hRR.k b4.1.1 b4.1.2
    try have z4 := k4.1.nr
    try have v4 := hV.1 _ b4.1.1 b4.1.2
    try have r4 := v4.2.1
    refine ⟨_, rfl, ?_⟩
    refine R_ifT (tg := 23) rfl rfl rfl ?_
    refine R_op (nx := 24) rfl rfl rfl ?_
    refine R_ret rfl (fun _ _ => rfl) rfl rfl ?_
    rw [show Q_entryOf A c x y = ((-1), A) from by simp only [Q_entryOf, b4, ifm, ifp, iffq, ↓reduceIte, ite_self, and_self, and_true, true_and, and_false, false_and, or_true, true_or, or_false, false_or, or_self, not_true_eq_false, not_false_eq_true, ne_eq, Int.reduceEq, Int.reduceSub, Int.reduceNeg]]; exact ⟨rfl, hRR, fun b _ => rfl⟩

def Q_of (A : mm_A) (c x w : Int) : Int × mm_A := if 0 ≤ c ∧ c < 4 then (if 0 ≤ x ∧ x < Xn (AK A c) then (if w = 0 then (Xd (AK A c) x, A) else if w = 1 then (Xl (AK A c) 0 x, A) else if w = 2 then (Xl (AK A c) 1 x, A) else if w = 3 then (sm (fun y => if Xe (AK A c) x y ≠ 0 then 1 else 0) (Xn (AK A c)), A) else if w = 4 then (sm (fun y => if Xe (AK A c) y x ≠ 0 then 1 else 0) (Xn (AK A c)), A) else (-1, A)) else (-1, A)) else (-1, A)

set_option maxRecDepth 20000 in
set_option maxHeartbeats 4000000 in
theorem c_P_of (S : mm_S) (A : mm_A) (hRC : RC S A) (hV : Vs A) (c x w : Int) : Cl 4 [(2, 0), (0, c), (0, x), (0, w)] S (fun vv S' => vv = some (0, (Q_of A c x w).1) ∧ RC S' (Q_of A c x w).2 ∧ ∀ b, 71 ≤ b → S' b = S b) := by
  refine ⟨Nat.le_of_ble_eq_true rfl, ?_⟩
  show Rn k_P_of 0 [(2, 0), (0, c), (0, x), (0, w), (9, 0)] [] S _
  refine R_lo (nx := 1) rfl rfl rfl rfl ?_
  refine R_lo (nx := 2) rfl rfl rfl rfl ?_
  refine R_call1 (nx := 5) (as := [(2, 0), (0, c)]) (rest := []) rfl rfl (fun _ _ => rfl) rfl rfl rfl rfl rfl rfl rfl rfl (Cl.mono (c_P_complexAt S c) ?_)
  rintro _ _ (⟨rfl, b2, rfl⟩ | ⟨rfl, b2, rfl⟩)
  ·
    have kb2 := hRC.k b2.1 b2.2
    have vb2 := hV.1 c b2.1 b2.2
    have rb2 := vb2.2.1
    have nb2 := kb2.n
    have zb2 := kb2.nr
    refine ⟨_, rfl, ?_⟩
    refine R_lo (nx := 7) (ls' := [(2, 0), (0, c), (0, x), (0, w), (2, (23 + 10 * c))]) rfl rfl rfl rfl ?_
    refine R_lo (nx := 9) rfl rfl rfl rfl ?_
    refine R_ifnull (nx := 12) (tg := 21) rfl rfl rfl (fun h => absurd h (by have := (isC_kd (isC_c (i := c) (by omega) (by omega))).1; omega)) (fun h => ?_)
    refine R_lo (nx := 14) rfl rfl rfl rfl ?_
    refine R_lo (nx := 15) rfl rfl rfl rfl ?_
    refine R_call1 (nx := 18) (as := [(2, (23 + 10 * c)), (0, x)]) (rest := []) rfl rfl (fun _ _ => rfl) rfl rfl rfl rfl rfl rfl (isC_rc (isC_c (i := c) (by omega) (by omega)) _) rfl (Cl.mono (c_C_has S (23 + 10 * c) (isC_c (i := c) (by omega) (by omega)) (AK A c) (by first | assumption | exact MC.up (by assumption) (by omega) | exact MC.up (MC.up (by assumption) (by omega)) (by omega) | exact MC.up (MC.up (MC.up (by assumption) (by omega)) (by omega)) (by omega)) x) ?_)
    rintro _ _ (⟨rfl, b15, rfl⟩ | ⟨rfl, b15, rfl⟩)
    ·
      refine ⟨_, rfl, ?_⟩
      refine R_ifT (tg := 23) rfl rfl rfl ?_
      refine R_lo (nx := 24) rfl rfl rfl rfl ?_
      by_cases s24_0 : w = 0
      ·
        refine R_swK (tg := 60) rfl (by omega) (by rw [s24_0]; rfl) ?_
        refine R_lo (nx := 62) rfl rfl rfl rfl ?_
        refine R_lo (nx := 63) rfl rfl rfl rfl ?_
        refine R_call1 (nx := 66) (as := [(2, (23 + 10 * c)), (0, x)]) (rest := []) rfl rfl (fun _ _ => rfl) rfl rfl rfl rfl rfl rfl (isC_rc (isC_c (i := c) (by omega) (by omega)) _) rfl (Cl.mono (c_C_degree S (23 + 10 * c) (isC_c (i := c) (by omega) (by omega)) (AK A c) (by first | assumption | exact MC.up (by assumption) (by omega) | exact MC.up (MC.up (by assumption) (by omega)) (by omega) | exact MC.up (MC.up (MC.up (by assumption) (by omega)) (by omega)) (by omega)) x) ?_)
        rintro _ _ ⟨rfl, rfl⟩
        refine ⟨_, rfl, ?_⟩
        refine R_ret rfl (fun _ _ => rfl) rfl rfl ?_
        rw [show Q_of A c x w = ((Xd (AK A c) x), A) from by simp only [Q_of, b2, b15, s24_0, ifm, ifp, iffq, ↓reduceIte, ite_self, and_self, and_true, true_and, and_false, false_and, or_true, true_or, or_false, false_or, or_self, not_true_eq_false, not_false_eq_true, ne_eq, Int.reduceEq, Int.reduceSub, Int.reduceNeg]]; exact ⟨rfl, hRC, fun b _ => rfl⟩
      by_cases s24_1 : w = 1
      ·
        refine R_swK (tg := 67) rfl (by omega) (by rw [s24_1]; rfl) ?_
        refine R_lo (nx := 69) rfl rfl rfl rfl ?_
        refine R_op (nx := 70) rfl rfl rfl ?_
        refine R_lo (nx := 71) rfl rfl rfl rfl ?_
        refine R_call1 (nx := 74) (as := [(2, (23 + 10 * c)), (0, 0), (0, x)]) (rest := []) rfl rfl (fun _ _ => rfl) rfl rfl rfl rfl rfl rfl (isC_rc (isC_c (i := c) (by omega) (by omega)) _) rfl (Cl.mono (c_C_level S (23 + 10 * c) (isC_c (i := c) (by omega) (by omega)) (AK A c) (by first | assumption | exact MC.up (by assumption) (by omega) | exact MC.up (MC.up (by assumption) (by omega)) (by omega) | exact MC.up (MC.up (MC.up (by assumption) (by omega)) (by omega)) (by omega)) 0 x) ?_)
        rintro _ _ ⟨rfl, rfl⟩
        refine ⟨_, rfl, ?_⟩
        refine R_ret rfl (fun _ _ => rfl) rfl rfl ?_
        rw [show Q_of A c x w = ((Xl (AK A c) 0 x), A) from by simp only [Q_of, b2, b15, s24_0, s24_1, ifm, ifp, iffq, ↓reduceIte, ite_self, and_self, and_true, true_and, and_false, false_and, or_true, true_or, or_false, false_or, or_self, not_true_eq_false, not_false_eq_true, ne_eq, Int.reduceEq, Int.reduceSub, Int.reduceNeg]]; exact ⟨rfl, hRC, fun b _ => rfl⟩
      by_cases s24_2 : w = 2
      ·
        refine R_swK (tg := 75) rfl (by omega) (by rw [s24_2]; rfl) ?_
        refine R_lo (nx := 77) rfl rfl rfl rfl ?_
        refine R_op (nx := 78) rfl rfl rfl ?_
        refine R_lo (nx := 79) rfl rfl rfl rfl ?_
        refine R_call1 (nx := 82) (as := [(2, (23 + 10 * c)), (0, 1), (0, x)]) (rest := []) rfl rfl (fun _ _ => rfl) rfl rfl rfl rfl rfl rfl (isC_rc (isC_c (i := c) (by omega) (by omega)) _) rfl (Cl.mono (c_C_level S (23 + 10 * c) (isC_c (i := c) (by omega) (by omega)) (AK A c) (by first | assumption | exact MC.up (by assumption) (by omega) | exact MC.up (MC.up (by assumption) (by omega)) (by omega) | exact MC.up (MC.up (MC.up (by assumption) (by omega)) (by omega)) (by omega)) 1 x) ?_)
        rintro _ _ ⟨rfl, rfl⟩
        refine ⟨_, rfl, ?_⟩
        refine R_ret rfl (fun _ _ => rfl) rfl rfl ?_
        rw [show Q_of A c x w = ((Xl (AK A c) 1 x), A) from by simp only [Q_of, b2, b15, s24_0, s24_1, s24_2, ifm, ifp, iffq, ↓reduceIte, ite_self, and_self, and_true, true_and, and_false, false_and, or_true, true_or, or_false, false_or, or_self, not_true_eq_false, not_false_eq_true, ne_eq, Int.reduceEq, Int.reduceSub, Int.reduceNeg]]; exact ⟨rfl, hRC, fun b _ => rfl⟩
      by_cases s24_3 : w = 3
      ·
        refine R_swK (tg := 83) rfl (by omega) (by rw [s24_3]; rfl) ?_
        refine R_lo (nx := 85) rfl rfl rfl rfl ?_
        refine R_lo (nx := 86) rfl rfl rfl rfl ?_
        refine R_call1 (nx := 89) (as := [(2, (23 + 10 * c)), (0, x)]) (rest := []) rfl rfl (fun _ _ => rfl) rfl rfl rfl rfl rfl rfl (isC_rc (isC_c (i := c) (by omega) (by omega)) _) rfl (Cl.mono (c_C_entriesIn S (23 + 10 * c) (isC_c (i := c) (by omega) (by omega)) (AK A c) (by first | assumption | exact MC.up (by assumption) (by omega) | exact MC.up (MC.up (by assumption) (by omega)) (by omega) | exact MC.up (MC.up (MC.up (by assumption) (by omega)) (by omega)) (by omega)) x) ?_)
        rintro _ _ ⟨rfl, rfl⟩
        refine ⟨_, rfl, ?_⟩
        refine R_ret rfl (fun _ _ => rfl) rfl rfl ?_
        rw [show Q_of A c x w = ((sm (fun y => if Xe (AK A c) x y ≠ 0 then 1 else 0) (Xn (AK A c))), A) from by simp only [Q_of, b2, b15, s24_0, s24_1, s24_2, s24_3, ifm, ifp, iffq, ↓reduceIte, ite_self, and_self, and_true, true_and, and_false, false_and, or_true, true_or, or_false, false_or, or_self, not_true_eq_false, not_false_eq_true, ne_eq, Int.reduceEq, Int.reduceSub, Int.reduceNeg]]; exact ⟨rfl, hRC, fun b _ => rfl⟩
      by_cases s24_4 : w = 4
      ·
        refine R_swK (tg := 90) rfl (by omega) (by rw [s24_4]; rfl) ?_
        refine R_lo (nx := 92) rfl rfl rfl rfl ?_
        refine R_lo (nx := 93) rfl rfl rfl rfl ?_
        refine R_call1 (nx := 96) (as := [(2, (23 + 10 * c)), (0, x)]) (rest := []) rfl rfl (fun _ _ => rfl) rfl rfl rfl rfl rfl rfl (isC_rc (isC_c (i := c) (by omega) (by omega)) _) rfl (Cl.mono (c_C_edgesWith S (23 + 10 * c) (isC_c (i := c) (by omega) (by omega)) (AK A c) (by first | assumption | exact MC.up (by assumption) (by omega) | exact MC.up (MC.up (by assumption) (by omega)) (by omega) | exact MC.up (MC.up (MC.up (by assumption) (by omega)) (by omega)) (by omega)) x) ?_)
        rintro _ _ ⟨rfl, rfl⟩
        refine ⟨_, rfl, ?_⟩
        refine R_ret rfl (fun _ _ => rfl) rfl rfl ?_
        rw [show Q_of A c x w = ((sm (fun y => if Xe (AK A c) y x ≠ 0 then 1 else 0) (Xn (AK A c))), A) from by simp only [Q_of, b2, b15, s24_0, s24_1, s24_2, s24_3, s24_4, ifm, ifp, iffq, ↓reduceIte, ite_self, and_self, and_true, true_and, and_false, false_and, or_true, true_or, or_false, false_or, or_self, not_true_eq_false, not_false_eq_true, ne_eq, Int.reduceEq, Int.reduceSub, Int.reduceNeg]]; exact ⟨rfl, hRC, fun b _ => rfl⟩
      refine R_swD (tg := 97) rfl (by omega) rfl ?_
      refine R_op (nx := 98) rfl rfl rfl ?_
      refine R_ret rfl (fun _ _ => rfl) rfl rfl ?_
      rw [show Q_of A c x w = ((-1), A) from by simp only [Q_of, b2, b15, s24_0, s24_1, s24_2, s24_3, s24_4, ifm, ifp, iffq, ↓reduceIte, ite_self, and_self, and_true, true_and, and_false, false_and, or_true, true_or, or_false, false_or, or_self, not_true_eq_false, not_false_eq_true, ne_eq, Int.reduceEq, Int.reduceSub, Int.reduceNeg]]; exact ⟨rfl, hRC, fun b _ => rfl⟩
    ·
      refine ⟨_, rfl, ?_⟩
      refine R_ifF (nx := 21) rfl rfl rfl ?_
      refine R_op (nx := 22) rfl rfl rfl ?_
      refine R_ret rfl (fun _ _ => rfl) rfl rfl ?_
      rw [show Q_of A c x w = ((-1), A) from by simp only [Q_of, b2, b15, ifm, ifp, iffq, ↓reduceIte, ite_self, and_self, and_true, true_and, and_false, false_and, or_true, true_or, or_false, false_or, or_self, not_true_eq_false, not_false_eq_true, ne_eq, Int.reduceEq, Int.reduceSub, Int.reduceNeg]]; exact ⟨rfl, hRC, fun b _ => rfl⟩
  ·
    refine ⟨_, rfl, ?_⟩
    refine R_lo (nx := 7) (ls' := [(2, 0), (0, c), (0, x), (0, w), (2, (-1))]) rfl rfl rfl rfl ?_
    refine R_lo (nx := 9) rfl rfl rfl rfl ?_
    refine R_ifnull (nx := 12) (tg := 21) rfl rfl rfl (fun h => ?_) (fun h => absurd (by decide) h)
    refine R_op (nx := 22) rfl rfl rfl ?_
    refine R_ret rfl (fun _ _ => rfl) rfl rfl ?_
    rw [show Q_of A c x w = ((-1), A) from by simp only [Q_of, b2, ifm, ifp, iffq, ↓reduceIte, ite_self, and_self, and_true, true_and, and_false, false_and, or_true, true_or, or_false, false_or, or_self, not_true_eq_false, not_false_eq_true, ne_eq, Int.reduceEq, Int.reduceSub, Int.reduceNeg]]; exact ⟨rfl, hRC, fun b _ => rfl⟩

set_option maxRecDepth 20000 in
set_option maxHeartbeats 4000000 in
theorem c_M_of (S : mm_S) (A : mm_A) (hRR : RR S A) (hV : Vs A) (c x w : Int) : Cl 62 [(2, 71), (0, c), (0, x), (0, w)] S (fun vv S' => vv = some (0, (Q_of A c x w).1) ∧ RR S' (Q_of A c x w).2 ∧ ∀ b, ¬ (71 ≤ b ∧ b < 91) → S' b = S b) := by
  refine ⟨Nat.le_of_ble_eq_true rfl, ?_⟩
  show Rn k_M_of 0 [(2, 71), (0, c), (0, x), (0, w)] [] S _
  refine R_lo (nx := 1) rfl rfl rfl rfl ?_
  refine R_call1 (nx := 4) (as := [(0, c)]) (rest := []) rfl rfl (fun _ _ => rfl) rfl rfl rfl rfl rfl rfl rfl rfl (Cl.mono (c_M_isComplex S c) ?_)
  rintro _ _ (⟨rfl, b1, rfl⟩ | ⟨rfl, b1, rfl⟩)
  ·
    try have k1 := hRR.k b1.1 b1.2
    try have n1 := k1.n
    try have z1 := k1.1.nr
    try have v1 := hV.1 _ b1.1 b1.2
    try have r1 := v1.2.1
    refine ⟨_, rfl, ?_⟩
    refine R_ifF (nx := 7) rfl rfl rfl ?_
    refine R_lo (nx := 8) rfl rfl rfl rfl ?_
    refine R_lo (nx := 9) rfl rfl rfl rfl ?_
    refine R_lo (nx := 10) rfl rfl rfl rfl ?_
    refine R_call1 (nx := 13) (as := [(2, 71), (0, c), (0, x)]) (rest := []) rfl rfl (fun _ _ => rfl) rfl rfl rfl rfl rfl rfl rfl rfl (Cl.mono (c_M_isCell S c (by omega) (AK A c) (show MR S c (AK A c) by first | assumption | exact MR.up (by assumption) (by omega) | exact MR.up (MR.up (by assumption) (by omega)) (by omega) | exact MR.up (MR.up (MR.up (by assumption) (by omega)) (by omega)) (by omega)) x) ?_)
    rintro _ _ (⟨rfl, b10, rfl⟩ | ⟨rfl, b10, rfl⟩)
    ·
      refine ⟨_, rfl, ?_⟩
      refine R_ifT (tg := 18) rfl rfl rfl ?_
      refine R_lo (nx := 19) rfl rfl rfl rfl ?_
      by_cases s19_0 : w = 0
      ·
        refine R_swK (tg := 52) rfl (by omega) (by rw [s19_0]; rfl) ?_
        refine R_lo (nx := 53) rfl rfl rfl rfl ?_
        refine R_lo (nx := 54) rfl rfl rfl rfl ?_
        refine R_lo (nx := 55) rfl rfl rfl rfl ?_
        refine R_call1 (nx := 58) (as := [(2, 71), (0, c), (0, x)]) (rest := []) rfl rfl (fun _ _ => rfl) rfl rfl rfl rfl rfl rfl rfl rfl (Cl.mono (c_M_degree S c (by omega) (AK A c) (show MRr S c (AK A c) by first | assumption | exact MR.r (by assumption) | exact MRr.up (by assumption) (by omega) | exact MRr.up (MR.r (by assumption)) (by omega) | exact MRr.up (MRr.up (MR.r (by assumption)) (by omega)) (by omega)) x (by omega)) ?_)
        rintro _ _ ⟨rfl, rfl⟩
        refine ⟨_, rfl, ?_⟩
        refine R_ret rfl (fun _ _ => rfl) rfl rfl ?_
        first | (exfalso; omega) | (rw [show Q_of A c x w = ((Xd (AK A c) x), A) from by simp only [Q_of, b1, b10, s19_0, ifm, ifp, iffq, ↓reduceIte, ite_self, and_self, and_true, true_and, and_false, false_and, or_true, true_or, or_false, false_or, or_self, not_true_eq_false, not_false_eq_true, ne_eq, Int.reduceEq, Int.reduceSub, Int.reduceNeg]]; exact ⟨rfl, hRR, fun b _ => rfl⟩)
      by_cases s19_1 : w = 1
      ·
        refine R_swK (tg := 59) rfl (by omega) (by rw [s19_1]; rfl) ?_
        refine R_lo (nx := 60) rfl rfl rfl rfl ?_
        refine R_lo (nx := 61) rfl rfl rfl rfl ?_
        refine R_lo (nx := 62) rfl rfl rfl rfl ?_
        refine R_op (nx := 63) rfl rfl rfl ?_
        refine R_isub (nx := 64) (z := (w - 1)) rfl rfl rfl ⟨by omega, by omega⟩ ?_
        refine R_lo (nx := 65) rfl rfl rfl rfl ?_
        refine R_call1 (nx := 68) (as := [(2, 71), (0, c), (0, (w - 1)), (0, x)]) (rest := []) rfl rfl (fun _ _ => rfl) rfl rfl rfl rfl rfl rfl rfl rfl (Cl.mono (c_M_level S c (by omega) (AK A c) (show MRr S c (AK A c) by first | assumption | exact MR.r (by assumption) | exact MRr.up (by assumption) (by omega) | exact MRr.up (MR.r (by assumption)) (by omega) | exact MRr.up (MRr.up (MR.r (by assumption)) (by omega)) (by omega)) (w - 1) x (by omega) (by omega)) ?_)
        rintro _ _ ⟨rfl, rfl⟩
        refine ⟨_, rfl, ?_⟩
        refine R_ret rfl (fun _ _ => rfl) rfl rfl ?_
        first | (exfalso; omega) | (rw [show Q_of A c x w = ((Xl (AK A c) (w - 1) x), A) from by simp only [Q_of, b1, b10, s19_0, s19_1, ifm, ifp, iffq, ↓reduceIte, ite_self, and_self, and_true, true_and, and_false, false_and, or_true, true_or, or_false, false_or, or_self, not_true_eq_false, not_false_eq_true, ne_eq, Int.reduceEq, Int.reduceSub, Int.reduceNeg]]; exact ⟨rfl, hRR, fun b _ => rfl⟩)
      by_cases s19_2 : w = 2
      ·
        refine R_swK (tg := 59) rfl (by omega) (by rw [s19_2]; rfl) ?_
        refine R_lo (nx := 60) rfl rfl rfl rfl ?_
        refine R_lo (nx := 61) rfl rfl rfl rfl ?_
        refine R_lo (nx := 62) rfl rfl rfl rfl ?_
        refine R_op (nx := 63) rfl rfl rfl ?_
        refine R_isub (nx := 64) (z := (w - 1)) rfl rfl rfl ⟨by omega, by omega⟩ ?_
        refine R_lo (nx := 65) rfl rfl rfl rfl ?_
        refine R_call1 (nx := 68) (as := [(2, 71), (0, c), (0, (w - 1)), (0, x)]) (rest := []) rfl rfl (fun _ _ => rfl) rfl rfl rfl rfl rfl rfl rfl rfl (Cl.mono (c_M_level S c (by omega) (AK A c) (show MRr S c (AK A c) by first | assumption | exact MR.r (by assumption) | exact MRr.up (by assumption) (by omega) | exact MRr.up (MR.r (by assumption)) (by omega) | exact MRr.up (MRr.up (MR.r (by assumption)) (by omega)) (by omega)) (w - 1) x (by omega) (by omega)) ?_)
        rintro _ _ ⟨rfl, rfl⟩
        refine ⟨_, rfl, ?_⟩
        refine R_ret rfl (fun _ _ => rfl) rfl rfl ?_
        first | (exfalso; omega) | (rw [show Q_of A c x w = ((Xl (AK A c) (w - 1) x), A) from by simp only [Q_of, b1, b10, s19_0, s19_1, s19_2, ifm, ifp, iffq, ↓reduceIte, ite_self, and_self, and_true, true_and, and_false, false_and, or_true, true_or, or_false, false_or, or_self, not_true_eq_false, not_false_eq_true, ne_eq, Int.reduceEq, Int.reduceSub, Int.reduceNeg]]; exact ⟨rfl, hRR, fun b _ => rfl⟩)
      by_cases s19_3 : w = 3
      ·
        refine R_swK (tg := 69) rfl (by omega) (by rw [s19_3]; rfl) ?_
        refine R_lo (nx := 70) rfl rfl rfl rfl ?_
        refine R_lo (nx := 71) rfl rfl rfl rfl ?_
        refine R_lo (nx := 72) rfl rfl rfl rfl ?_
        refine R_lo (nx := 73) rfl rfl rfl rfl ?_
        refine R_op (nx := 74) rfl rfl rfl ?_
        refine R_icmp (nx := 77) (tg := 81) rfl rfl rfl (mm_cnd_ne _ _) (fun c74 => ?_) (fun c74 => ?_)
        ·
          refine R_op (nx := 82) rfl rfl rfl ?_
          refine R_call1 (nx := 85) (as := [(2, 71), (0, c), (0, x), (0, 0)]) (rest := []) rfl rfl (fun _ _ => rfl) rfl rfl rfl rfl rfl rfl rfl rfl (Cl.mono (c_M_entriesOf0 S c (by omega) (AK A c) (show MR S c (AK A c) by first | assumption | exact MR.up (by assumption) (by omega) | exact MR.up (MR.up (by assumption) (by omega)) (by omega) | exact MR.up (MR.up (MR.up (by assumption) (by omega)) (by omega)) (by omega)) x (by omega)) ?_)
          rintro _ _ ⟨rfl, rfl⟩
          refine ⟨_, rfl, ?_⟩
          refine R_ret rfl (fun _ _ => rfl) rfl rfl ?_
          first | (exfalso; omega) | (rw [show Q_of A c x w = ((sm (fun y => if Xe (AK A c) x y ≠ 0 then 1 else 0) (Xn (AK A c))), A) from by simp only [Q_of, b1, b10, s19_0, s19_1, s19_2, s19_3, c74, ifm, ifp, iffq, ↓reduceIte, ite_self, and_self, and_true, true_and, and_false, false_and, or_true, true_or, or_false, false_or, or_self, not_true_eq_false, not_false_eq_true, ne_eq, Int.reduceEq, Int.reduceSub, Int.reduceNeg]]; exact ⟨rfl, hRR, fun b _ => rfl⟩)
        ·
          replace c74 := Classical.not_not.mp c74
          refine R_op (nx := 78) rfl rfl rfl ?_
          refine R_op (nx := 81) (pc' := 82) rfl rfl rfl ?_
          refine R_call1 (nx := 85) (as := [(2, 71), (0, c), (0, x), (0, 1)]) (rest := []) rfl rfl (fun _ _ => rfl) rfl rfl rfl rfl rfl rfl rfl rfl (Cl.mono (c_M_entriesOf1 S c (by omega) (AK A c) (show MR S c (AK A c) by first | assumption | exact MR.up (by assumption) (by omega) | exact MR.up (MR.up (by assumption) (by omega)) (by omega) | exact MR.up (MR.up (MR.up (by assumption) (by omega)) (by omega)) (by omega)) x (by omega)) ?_)
          rintro _ _ ⟨rfl, rfl⟩
          refine ⟨_, rfl, ?_⟩
          refine R_ret rfl (fun _ _ => rfl) rfl rfl ?_
          first | (exfalso; omega) | (rw [show Q_of A c x w = ((sm (fun y => if Xe (AK A c) y x ≠ 0 then 1 else 0) (Xn (AK A c))), A) from by simp only [Q_of, b1, b10, s19_0, s19_1, s19_2, s19_3, c74, ifm, ifp, iffq, ↓reduceIte, ite_self, and_self, and_true, true_and, and_false, false_and, or_true, true_or, or_false, false_or, or_self, not_true_eq_false, not_false_eq_true, ne_eq, Int.reduceEq, Int.reduceSub, Int.reduceNeg]]; exact ⟨rfl, hRR, fun b _ => rfl⟩)
      by_cases s19_4 : w = 4
      ·
        refine R_swK (tg := 69) rfl (by omega) (by rw [s19_4]; rfl) ?_
        refine R_lo (nx := 70) rfl rfl rfl rfl ?_
        refine R_lo (nx := 71) rfl rfl rfl rfl ?_
        refine R_lo (nx := 72) rfl rfl rfl rfl ?_
        refine R_lo (nx := 73) rfl rfl rfl rfl ?_
        refine R_op (nx := 74) rfl rfl rfl ?_
        refine R_icmp (nx := 77) (tg := 81) rfl rfl rfl (mm_cnd_ne _ _) (fun c74_1 => ?_) (fun c74_1 => ?_)
        ·
          refine R_op (nx := 82) rfl rfl rfl ?_
          refine R_call1 (nx := 85) (as := [(2, 71), (0, c), (0, x), (0, 0)]) (rest := []) rfl rfl (fun _ _ => rfl) rfl rfl rfl rfl rfl rfl rfl rfl (Cl.mono (c_M_entriesOf0 S c (by omega) (AK A c) (show MR S c (AK A c) by first | assumption | exact MR.up (by assumption) (by omega) | exact MR.up (MR.up (by assumption) (by omega)) (by omega) | exact MR.up (MR.up (MR.up (by assumption) (by omega)) (by omega)) (by omega)) x (by omega)) ?_)
          rintro _ _ ⟨rfl, rfl⟩
          refine ⟨_, rfl, ?_⟩
          refine R_ret rfl (fun _ _ => rfl) rfl rfl ?_
          first | (exfalso; omega) | (rw [show Q_of A c x w = ((sm (fun y => if Xe (AK A c) x y ≠ 0 then 1 else 0) (Xn (AK A c))), A) from by simp only [Q_of, b1, b10, s19_0, s19_1, s19_2, s19_3, s19_4, c74_1, ifm, ifp, iffq, ↓reduceIte, ite_self, and_self, and_true, true_and, and_false, false_and, or_true, true_or, or_false, false_or, or_self, not_true_eq_false, not_false_eq_true, ne_eq, Int.reduceEq, Int.reduceSub, Int.reduceNeg]]; exact ⟨rfl, hRR, fun b _ => rfl⟩)
        ·
          replace c74_1 := Classical.not_not.mp c74_1
          refine R_op (nx := 78) rfl rfl rfl ?_
          refine R_op (nx := 81) (pc' := 82) rfl rfl rfl ?_
          refine R_call1 (nx := 85) (as := [(2, 71), (0, c), (0, x), (0, 1)]) (rest := []) rfl rfl (fun _ _ => rfl) rfl rfl rfl rfl rfl rfl rfl rfl (Cl.mono (c_M_entriesOf1 S c (by omega) (AK A c) (show MR S c (AK A c) by first | assumption | exact MR.up (by assumption) (by omega) | exact MR.up (MR.up (by assumption) (by omega)) (by omega) | exact MR.up (MR.up (MR.up (by assumption) (by omega)) (by omega)) (by omega)) x (by omega)) ?_)
          rintro _ _ ⟨rfl, rfl⟩
          refine ⟨_, rfl, ?_⟩
          refine R_ret rfl (fun _ _ => rfl) rfl rfl ?_
          first | (exfalso; omega) | (rw [show Q_of A c x w = ((sm (fun y => if Xe (AK A c) y x ≠ 0 then 1 else 0) (Xn (AK A c))), A) from by simp only [Q_of, b1, b10, s19_0, s19_1, s19_2, s19_3, s19_4, c74_1, ifm, ifp, iffq, ↓reduceIte, ite_self, and_self, and_true, true_and, and_false, false_and, or_true, true_or, or_false, false_or, or_self, not_true_eq_false, not_false_eq_true, ne_eq, Int.reduceEq, Int.reduceSub, Int.reduceNeg]]; exact ⟨rfl, hRR, fun b _ => rfl⟩)
      refine R_swD (tg := 86) rfl (by omega) rfl ?_
      refine R_op (nx := 87) rfl rfl rfl ?_
      refine R_ret rfl (fun _ _ => rfl) rfl rfl ?_
      first | (exfalso; omega) | (rw [show Q_of A c x w = ((-1), A) from by simp only [Q_of, b1, b10, s19_0, s19_1, s19_2, s19_3, s19_4, ifm, ifp, iffq, ↓reduceIte, ite_self, and_self, and_true, true_and, and_false, false_and, or_true, true_or, or_false, false_or, or_self, not_true_eq_false, not_false_eq_true, ne_eq, Int.reduceEq, Int.reduceSub, Int.reduceNeg]]; exact ⟨rfl, hRR, fun b _ => rfl⟩)
    ·
      refine ⟨_, rfl, ?_⟩
      refine R_ifF (nx := 16) rfl rfl rfl ?_
      refine R_op (nx := 17) rfl rfl rfl ?_
      refine R_ret rfl (fun _ _ => rfl) rfl rfl ?_
      first | (exfalso; omega) | (rw [show Q_of A c x w = ((-1), A) from by simp only [Q_of, b1, b10, ifm, ifp, iffq, ↓reduceIte, ite_self, and_self, and_true, true_and, and_false, false_and, or_true, true_or, or_false, false_or, or_self, not_true_eq_false, not_false_eq_true, ne_eq, Int.reduceEq, Int.reduceSub, Int.reduceNeg]]; exact ⟨rfl, hRR, fun b _ => rfl⟩)
  ·
    try have k1 := hRR.k b1.1 b1.2
    try have n1 := k1.n
    try have z1 := k1.1.nr
    try have v1 := hV.1 _ b1.1 b1.2
    try have r1 := v1.2.1
    refine ⟨_, rfl, ?_⟩
    refine R_ifT (tg := 16) rfl rfl rfl ?_
    refine R_op (nx := 17) rfl rfl rfl ?_
    refine R_ret rfl (fun _ _ => rfl) rfl rfl ?_
    first | (exfalso; omega) | (rw [show Q_of A c x w = ((-1), A) from by simp only [Q_of, b1, ifm, ifp, iffq, ↓reduceIte, ite_self, and_self, and_true, true_and, and_false, false_and, or_true, true_or, or_false, false_or, or_self, not_true_eq_false, not_false_eq_true, ne_eq, Int.reduceEq, Int.reduceSub, Int.reduceNeg]]; exact ⟨rfl, hRR, fun b _ => rfl⟩)

def Q_broken (A : mm_A) (c : Int) : Int × mm_A := if 0 ≤ c ∧ c < 4 then (Xfb (AK A c), A) else (-1, A)

set_option maxRecDepth 20000 in
set_option maxHeartbeats 4000000 in
theorem c_P_broken (S : mm_S) (A : mm_A) (hRC : RC S A) (hV : Vs A) (c : Int) : Cl 5 [(2, 0), (0, c)] S (fun vv S' => vv = some (0, (Q_broken A c).1) ∧ RC S' (Q_broken A c).2 ∧ ∀ b, 71 ≤ b → S' b = S b) := by
  refine ⟨Nat.le_of_ble_eq_true rfl, ?_⟩
  show Rn k_P_broken 0 [(2, 0), (0, c), (9, 0)] [] S _
  refine R_lo (nx := 1) rfl rfl rfl rfl ?_
  refine R_lo (nx := 2) rfl rfl rfl rfl ?_
  refine R_call1 (nx := 5) (as := [(2, 0), (0, c)]) (rest := []) rfl rfl (fun _ _ => rfl) rfl rfl rfl rfl rfl rfl rfl rfl (Cl.mono (c_P_complexAt S c) ?_)
  rintro _ _ (⟨rfl, b2, rfl⟩ | ⟨rfl, b2, rfl⟩)
  ·
    have kb2 := hRC.k b2.1 b2.2
    have vb2 := hV.1 c b2.1 b2.2
    have rb2 := vb2.2.1
    have nb2 := kb2.n
    have zb2 := kb2.nr
    refine ⟨_, rfl, ?_⟩
    refine R_lo (nx := 6) (ls' := [(2, 0), (0, c), (2, (23 + 10 * c))]) rfl rfl rfl rfl ?_
    refine R_lo (nx := 7) rfl rfl rfl rfl ?_
    refine R_ifnonnull (nx := 10) (tg := 14) rfl rfl rfl (fun h => ?_) (fun h => absurd (by have := (isC_kd (isC_c (i := c) (by omega) (by omega))).1; omega) h)
    refine R_lo (nx := 15) rfl rfl rfl rfl ?_
    refine R_call1 (nx := 18) (as := [(2, (23 + 10 * c))]) (rest := []) rfl rfl (fun _ _ => rfl) rfl rfl rfl rfl rfl rfl (isC_rc (isC_c (i := c) (by omega) (by omega)) _) rfl (Cl.mono (c_C_firstBroken S (23 + 10 * c) (isC_c (i := c) (by omega) (by omega)) (AK A c) (by first | assumption | exact MC.up (by assumption) (by omega) | exact MC.up (MC.up (by assumption) (by omega)) (by omega) | exact MC.up (MC.up (MC.up (by assumption) (by omega)) (by omega)) (by omega)) (by assumption)) ?_)
    rintro _ _ ⟨rfl, rfl⟩
    refine ⟨_, rfl, ?_⟩
    refine R_ret rfl (fun _ _ => rfl) rfl rfl ?_
    rw [show Q_broken A c = ((Xfb (AK A c)), A) from by simp only [Q_broken, b2, ifm, ifp, iffq, ↓reduceIte, ite_self, and_self, and_true, true_and, and_false, false_and, or_true, true_or, or_false, false_or, or_self, not_true_eq_false, not_false_eq_true, ne_eq, Int.reduceEq, Int.reduceSub, Int.reduceNeg]]; exact ⟨rfl, hRC, fun b _ => rfl⟩
  ·
    refine ⟨_, rfl, ?_⟩
    refine R_lo (nx := 6) (ls' := [(2, 0), (0, c), (2, (-1))]) rfl rfl rfl rfl ?_
    refine R_lo (nx := 7) rfl rfl rfl rfl ?_
    refine R_ifnonnull (nx := 10) (tg := 14) rfl rfl rfl (fun h => absurd h (by decide)) (fun h => ?_)
    refine R_op (nx := 11) rfl rfl rfl ?_
    refine R_op (nx := 14) (pc' := 18) rfl rfl rfl ?_
    refine R_ret rfl (fun _ _ => rfl) rfl rfl ?_
    rw [show Q_broken A c = ((-1), A) from by simp only [Q_broken, b2, ifm, ifp, iffq, ↓reduceIte, ite_self, and_self, and_true, true_and, and_false, false_and, or_true, true_or, or_false, false_or, or_self, not_true_eq_false, not_false_eq_true, ne_eq, Int.reduceEq, Int.reduceSub, Int.reduceNeg]]; exact ⟨rfl, hRC, fun b _ => rfl⟩

set_option maxRecDepth 20000 in
set_option maxHeartbeats 4000000 in
theorem c_M_broken (S : mm_S) (A : mm_A) (hRR : RR S A) (hV : Vs A) (c : Int) : Cl 64 [(2, 71), (0, c)] S (fun vv S' => vv = some (0, (Q_broken A c).1) ∧ RR S' (Q_broken A c).2 ∧ ∀ b, ¬ (71 ≤ b ∧ b < 91) → S' b = S b) := by
  refine ⟨Nat.le_of_ble_eq_true rfl, ?_⟩
  show Rn k_M_broken 0 [(2, 71), (0, c)] [] S _
  refine R_lo (nx := 1) rfl rfl rfl rfl ?_
  refine R_call1 (nx := 4) (as := [(0, c)]) (rest := []) rfl rfl (fun _ _ => rfl) rfl rfl rfl rfl rfl rfl rfl rfl (Cl.mono (c_M_isComplex S c) ?_)
  rintro _ _ (⟨rfl, b1, rfl⟩ | ⟨rfl, b1, rfl⟩)
  ·
    try have k1 := hRR.k b1.1 b1.2
    try have n1 := k1.n
    try have z1 := k1.1.nr
    try have v1 := hV.1 _ b1.1 b1.2
    try have r1 := v1.2.1
    refine ⟨_, rfl, ?_⟩
    refine R_ifF (nx := 7) rfl rfl rfl ?_
    refine R_lo (nx := 8) rfl rfl rfl rfl ?_
    refine R_lo (nx := 9) rfl rfl rfl rfl ?_
    refine R_call1 (nx := 12) (as := [(2, 71), (0, c)]) (rest := []) rfl rfl (fun _ _ => rfl) rfl rfl rfl rfl rfl rfl rfl rfl (Cl.mono (c_M_brokenAt S c (by omega) (AK A c) (show MR S c (AK A c) by first | assumption | exact MR.up (by assumption) (by omega) | exact MR.up (MR.up (by assumption) (by omega)) (by omega) | exact MR.up (MR.up (MR.up (by assumption) (by omega)) (by omega)) (by omega)) (by assumption)) ?_)
    rintro _ _ ⟨rfl, rfl⟩
    refine ⟨_, rfl, ?_⟩
    refine R_op (nx := 15) (pc' := 16) rfl rfl rfl ?_
    refine R_ret rfl (fun _ _ => rfl) rfl rfl ?_
    rw [show Q_broken A c = ((Xfb (AK A c)), A) from by simp only [Q_broken, b1, ifm, ifp, iffq, ↓reduceIte, ite_self, and_self, and_true, true_and, and_false, false_and, or_true, true_or, or_false, false_or, or_self, not_true_eq_false, not_false_eq_true, ne_eq, Int.reduceEq, Int.reduceSub, Int.reduceNeg]]; exact ⟨rfl, hRR, fun b _ => rfl⟩
  ·
    try have k1 := hRR.k b1.1 b1.2
    try have n1 := k1.n
    try have z1 := k1.1.nr
    try have v1 := hV.1 _ b1.1 b1.2
    try have r1 := v1.2.1
    refine ⟨_, rfl, ?_⟩
    refine R_ifT (tg := 15) rfl rfl rfl ?_
    refine R_op (nx := 16) rfl rfl rfl ?_
    refine R_ret rfl (fun _ _ => rfl) rfl rfl ?_
    rw [show Q_broken A c = ((-1), A) from by simp only [Q_broken, b1, ifm, ifp, iffq, ↓reduceIte, ite_self, and_self, and_true, true_and, and_false, false_and, or_true, true_or, or_false, false_or, or_self, not_true_eq_false, not_false_eq_true, ne_eq, Int.reduceEq, Int.reduceSub, Int.reduceNeg]]; exact ⟨rfl, hRR, fun b _ => rfl⟩

def Q_trials (A : mm_A) (w : Int) : Int × mm_A := if w = 0 then (Ao A, A) else if w = 1 then (Ac A, A) else if w = 2 then (Am A, A) else (-1, A)

set_option maxRecDepth 20000 in
set_option maxHeartbeats 4000000 in
theorem c_P_trials (S : mm_S) (A : mm_A) (hRC : RC S A) (hV : Vs A) (w : Int) : Cl 20 [(2, 0), (0, w)] S (fun vv S' => vv = some (0, (Q_trials A w).1) ∧ RC S' (Q_trials A w).2 ∧ ∀ b, 71 ≤ b → S' b = S b) := by
  refine ⟨Nat.le_of_ble_eq_true rfl, ?_⟩
  show Rn k_P_trials 0 [(2, 0), (0, w)] [] S _
  refine R_lo (nx := 1) rfl rfl rfl rfl ?_
  by_cases s1_0 : w = 0
  ·
    refine R_swK (tg := 28) rfl (by omega) (by rw [s1_0]; rfl) ?_
    refine R_lo (nx := 29) rfl rfl rfl rfl ?_
    refine R_get (nx := 32) (w := (2, 18)) rfl rfl rfl rfl ?_
    refine R_get (nx := 35) (w := (0, (S 18 0))) rfl rfl rfl rfl ?_
    rw [hRC.2.2.2.1.1]
    refine R_ret rfl (fun _ _ => rfl) rfl rfl ?_
    rw [show Q_trials A w = ((Ao A), A) from by simp only [Q_trials, s1_0, ifm, ifp, iffq, ↓reduceIte, ite_self, and_self, and_true, true_and, and_false, false_and, or_true, true_or, or_false, false_or, or_self, not_true_eq_false, not_false_eq_true, ne_eq, Int.reduceEq, Int.reduceSub, Int.reduceNeg]]; exact ⟨rfl, hRC, fun b _ => rfl⟩
  by_cases s1_1 : w = 1
  ·
    refine R_swK (tg := 36) rfl (by omega) (by rw [s1_1]; rfl) ?_
    refine R_lo (nx := 37) rfl rfl rfl rfl ?_
    refine R_get (nx := 40) (w := (2, 18)) rfl rfl rfl rfl ?_
    refine R_get (nx := 43) (w := (0, (S 18 1))) rfl rfl rfl rfl ?_
    rw [hRC.2.2.2.1.2.1]
    refine R_ret rfl (fun _ _ => rfl) rfl rfl ?_
    rw [show Q_trials A w = ((Ac A), A) from by simp only [Q_trials, s1_0, s1_1, ifm, ifp, iffq, ↓reduceIte, ite_self, and_self, and_true, true_and, and_false, false_and, or_true, true_or, or_false, false_or, or_self, not_true_eq_false, not_false_eq_true, ne_eq, Int.reduceEq, Int.reduceSub, Int.reduceNeg]]; exact ⟨rfl, hRC, fun b _ => rfl⟩
  by_cases s1_2 : w = 2
  ·
    refine R_swK (tg := 44) rfl (by omega) (by rw [s1_2]; rfl) ?_
    refine R_lo (nx := 45) rfl rfl rfl rfl ?_
    refine R_get (nx := 48) (w := (2, 18)) rfl rfl rfl rfl ?_
    refine R_get (nx := 51) (w := (0, (S 18 2))) rfl rfl rfl rfl ?_
    rw [hRC.2.2.2.1.2.2]
    refine R_ret rfl (fun _ _ => rfl) rfl rfl ?_
    rw [show Q_trials A w = ((Am A), A) from by simp only [Q_trials, s1_0, s1_1, s1_2, ifm, ifp, iffq, ↓reduceIte, ite_self, and_self, and_true, true_and, and_false, false_and, or_true, true_or, or_false, false_or, or_self, not_true_eq_false, not_false_eq_true, ne_eq, Int.reduceEq, Int.reduceSub, Int.reduceNeg]]; exact ⟨rfl, hRC, fun b _ => rfl⟩
  refine R_swD (tg := 52) rfl (by omega) rfl ?_
  refine R_op (nx := 53) rfl rfl rfl ?_
  refine R_ret rfl (fun _ _ => rfl) rfl rfl ?_
  rw [show Q_trials A w = ((-1), A) from by simp only [Q_trials, s1_0, s1_1, s1_2, ifm, ifp, iffq, ↓reduceIte, ite_self, and_self, and_true, true_and, and_false, false_and, or_true, true_or, or_false, false_or, or_self, not_true_eq_false, not_false_eq_true, ne_eq, Int.reduceEq, Int.reduceSub, Int.reduceNeg]]; exact ⟨rfl, hRC, fun b _ => rfl⟩

set_option maxRecDepth 20000 in
set_option maxHeartbeats 4000000 in
theorem c_M_trials (S : mm_S) (A : mm_A) (hRR : RR S A) (hV : Vs A) (w : Int) : Cl 68 [(2, 71), (0, w)] S (fun vv S' => vv = some (0, (Q_trials A w).1) ∧ RR S' (Q_trials A w).2 ∧ ∀ b, ¬ (71 ≤ b ∧ b < 91) → S' b = S b) := by
  refine ⟨Nat.le_of_ble_eq_true rfl, ?_⟩
  show Rn k_M_trials 0 [(2, 71), (0, w)] [] S _
  refine R_lo (nx := 1) rfl rfl rfl rfl ?_
  refine R_if (nx := 4) (tg := 11) rfl rfl rfl (mm_cnd_ne _ _) (fun c1 => ?_) (fun c1 => ?_)
  ·
    refine R_lo (nx := 12) rfl rfl rfl rfl ?_
    refine R_op (nx := 13) rfl rfl rfl ?_
    refine R_icmp (nx := 16) (tg := 23) rfl rfl rfl (mm_cnd_ne _ _) (fun c13 => ?_) (fun c13 => ?_)
    ·
      refine R_lo (nx := 24) rfl rfl rfl rfl ?_
      refine R_op (nx := 25) rfl rfl rfl ?_
      refine R_icmp (nx := 28) (tg := 35) rfl rfl rfl (mm_cnd_ne _ _) (fun c25 => ?_) (fun c25 => ?_)
      ·
        refine R_op (nx := 36) rfl rfl rfl ?_
        refine R_ret rfl (fun _ _ => rfl) rfl rfl ?_
        rw [show Q_trials A w = ((-1), A) from by simp only [Q_trials, c1, c13, c25, ifm, ifp, iffq, ↓reduceIte, ite_self, and_self, and_true, true_and, and_false, false_and, or_true, true_or, or_false, false_or, or_self, not_true_eq_false, not_false_eq_true, ne_eq, Int.reduceEq, Int.reduceSub, Int.reduceNeg]]; exact ⟨rfl, hRR, fun b _ => rfl⟩
      ·
        replace c25 := Classical.not_not.mp c25
        refine R_lo (nx := 29) rfl rfl rfl rfl ?_
        refine R_get (nx := 32) (w := (0, (S 71 11))) rfl rfl rfl rfl ?_
        rw [hRR.2.2.2.1.2.2]
        refine R_op (nx := 35) (pc' := 36) rfl rfl rfl ?_
        refine R_ret rfl (fun _ _ => rfl) rfl rfl ?_
        rw [show Q_trials A w = ((Am A), A) from by simp only [Q_trials, c1, c13, c25, ifm, ifp, iffq, ↓reduceIte, ite_self, and_self, and_true, true_and, and_false, false_and, or_true, true_or, or_false, false_or, or_self, not_true_eq_false, not_false_eq_true, ne_eq, Int.reduceEq, Int.reduceSub, Int.reduceNeg]]; exact ⟨rfl, hRR, fun b _ => rfl⟩
    ·
      replace c13 := Classical.not_not.mp c13
      refine R_lo (nx := 17) rfl rfl rfl rfl ?_
      refine R_get (nx := 20) (w := (0, (S 71 10))) rfl rfl rfl rfl ?_
      rw [hRR.2.2.2.1.2.1]
      refine R_op (nx := 23) (pc' := 36) rfl rfl rfl ?_
      refine R_ret rfl (fun _ _ => rfl) rfl rfl ?_
      rw [show Q_trials A w = ((Ac A), A) from by simp only [Q_trials, c1, c13, ifm, ifp, iffq, ↓reduceIte, ite_self, and_self, and_true, true_and, and_false, false_and, or_true, true_or, or_false, false_or, or_self, not_true_eq_false, not_false_eq_true, ne_eq, Int.reduceEq, Int.reduceSub, Int.reduceNeg]]; exact ⟨rfl, hRR, fun b _ => rfl⟩
  ·
    replace c1 := Classical.not_not.mp c1
    refine R_lo (nx := 5) rfl rfl rfl rfl ?_
    refine R_get (nx := 8) (w := (0, (S 71 9))) rfl rfl rfl rfl ?_
    rw [hRR.2.2.2.1.1]
    refine R_op (nx := 11) (pc' := 36) rfl rfl rfl ?_
    refine R_ret rfl (fun _ _ => rfl) rfl rfl ?_
    rw [show Q_trials A w = ((Ao A), A) from by simp only [Q_trials, c1, ifm, ifp, iffq, ↓reduceIte, ite_self, and_self, and_true, true_and, and_false, false_and, or_true, true_or, or_false, false_or, or_self, not_true_eq_false, not_false_eq_true, ne_eq, Int.reduceEq, Int.reduceSub, Int.reduceNeg]]; exact ⟨rfl, hRR, fun b _ => rfl⟩
