/-! What is told of the reduced ones: calls of the reference. -/
set_option maxRecDepth 20000 in
set_option maxHeartbeats 4000000 in
theorem c_M_isAsked (S : mm_S) (w p : Int) : Cl 75 [(0, w), (0, p)] S (fun v S' => (v = some (0, 1) ∧ ((w = 0 ∨ w = 1) ∧ Xpr p) ∧ S = S') ∨ (v = some (0, 0) ∧ ¬ ((w = 0 ∨ w = 1) ∧ Xpr p) ∧ S = S')) := by
  refine ⟨Nat.le_of_ble_eq_true rfl, ?_⟩
  show Rn k_M_isAsked 0 [(0, w), (0, p)] [] S _
  refine R_lo (nx := 1) rfl rfl rfl rfl ?_
  refine R_op (nx := 2) rfl rfl rfl ?_
  refine R_op (nx := 3) rfl rfl rfl ?_
  refine R_call1 (nx := 6) (as := [(0, w), (0, 0), (0, 1)]) (rest := []) rfl rfl (fun _ _ => rfl) rfl rfl rfl rfl rfl rfl rfl rfl (Cl.mono (c_M_in S w 0 1) ?_)
  rintro _ _ (⟨rfl, b3, rfl⟩ | ⟨rfl, b3, rfl⟩)
  ·
    refine ⟨_, rfl, ?_⟩
    refine R_ifF (nx := 9) rfl rfl rfl ?_
    refine R_lo (nx := 10) rfl rfl rfl rfl ?_
    refine R_call1 (nx := 13) (as := [(0, p)]) (rest := []) rfl rfl (fun _ _ => rfl) rfl rfl rfl rfl rfl rfl rfl rfl (Cl.mono (c_M_isPrime S p) ?_)
    rintro _ _ (⟨rfl, b10, rfl⟩ | ⟨rfl, b10, rfl⟩)
    ·
      refine ⟨_, rfl, ?_⟩
      refine R_ifF (nx := 16) rfl rfl rfl ?_
      refine R_op (nx := 17) rfl rfl rfl ?_
      refine R_op (nx := 20) (pc' := 21) rfl rfl rfl ?_
      refine R_ret rfl (fun _ _ => rfl) rfl rfl ?_
      first | exact Or.inl ⟨rfl, ⟨by omega, b10⟩, rfl⟩ | exact Or.inr ⟨rfl, fun z => b10 z.2, rfl⟩ | exact Or.inr ⟨rfl, fun z => b3 (by have := z.1; omega), rfl⟩
    ·
      refine ⟨_, rfl, ?_⟩
      refine R_ifT (tg := 20) rfl rfl rfl ?_
      refine R_op (nx := 21) rfl rfl rfl ?_
      refine R_ret rfl (fun _ _ => rfl) rfl rfl ?_
      first | exact Or.inl ⟨rfl, ⟨by omega, b10⟩, rfl⟩ | exact Or.inr ⟨rfl, fun z => b10 z.2, rfl⟩ | exact Or.inr ⟨rfl, fun z => b3 (by have := z.1; omega), rfl⟩
  ·
    refine ⟨_, rfl, ?_⟩
    refine R_ifT (tg := 20) rfl rfl rfl ?_
    refine R_op (nx := 21) rfl rfl rfl ?_
    refine R_ret rfl (fun _ _ => rfl) rfl rfl ?_
    first | exact Or.inl ⟨rfl, ⟨by omega, b10⟩, rfl⟩ | exact Or.inr ⟨rfl, fun z => b10 z.2, rfl⟩ | exact Or.inr ⟨rfl, fun z => b3 (by have := z.1; omega), rfl⟩

set_option maxRecDepth 20000 in
set_option maxHeartbeats 4000000 in
theorem c_M_goes (S : mm_S) (A : mm_A) (hRR : RR S A) (hV : Vs A) (c w p x : Int) : Cl 76 [(2, 71), (0, c), (0, w), (0, p), (0, x)] S (fun vv S' => vv = some (0, (Q_goes A c w p x).1) ∧ RR S' (Q_goes A c w p x).2 ∧ ∀ b, ¬ (71 ≤ b ∧ b < 91) → S' b = S b) := by
  refine ⟨Nat.le_of_ble_eq_true rfl, ?_⟩
  show Rn k_M_goes 0 [(2, 71), (0, c), (0, w), (0, p), (0, x)] [] S _
  refine R_lo (nx := 1) rfl rfl rfl rfl ?_
  refine R_call1 (nx := 4) (as := [(0, c)]) (rest := []) rfl rfl (fun _ _ => rfl) rfl rfl rfl rfl rfl rfl rfl rfl (Cl.mono (c_M_isComplex S c) ?_)
  rintro _ _ (⟨rfl, b1, rfl⟩ | ⟨rfl, b1, rfl⟩)
  ·
    try have k1 := hRR.k b1.1 b1.2
    try have n1 := k1.n
    try have z1 := k1.1.nr
    try have v1 := hV.1 _ b1.1 b1.2
    try have r1 := v1.2.1
    refine ⟨_, rfl, ?_⟩
    refine R_ifF (nx := 7) rfl rfl rfl ?_
    refine R_lo (nx := 8) rfl rfl rfl rfl ?_
    refine R_lo (nx := 9) rfl rfl rfl rfl ?_
    refine R_call1 (nx := 12) (as := [(0, w), (0, p)]) (rest := []) rfl rfl (fun _ _ => rfl) rfl rfl rfl rfl rfl rfl rfl rfl (Cl.mono (c_M_isAsked S w p) ?_)
    rintro _ _ (⟨rfl, b9, rfl⟩ | ⟨rfl, b9, rfl⟩)
    ·
      have e9 : w = 0 ∨ w = 1 := b9.1
      have e309 : Xpr p := b9.2
      refine ⟨_, rfl, ?_⟩
      refine R_ifF (nx := 15) rfl rfl rfl ?_
      refine R_lo (nx := 16) rfl rfl rfl rfl ?_
      refine R_lo (nx := 17) rfl rfl rfl rfl ?_
      refine R_lo (nx := 19) rfl rfl rfl rfl ?_
      refine R_call1 (nx := 22) (as := [(2, 71), (0, c), (0, x)]) (rest := []) rfl rfl (fun _ _ => rfl) rfl rfl rfl rfl rfl rfl rfl rfl (Cl.mono (c_M_isCell S c (by omega) (AK A c) (show MR S c (AK A c) by first | assumption | exact MR.up (by assumption) (by omega) | exact MR.up (MR.up (by assumption) (by omega)) (by omega) | exact MR.up (MR.up (MR.up (by assumption) (by omega)) (by omega)) (by omega)) x) ?_)
      rintro _ _ (⟨rfl, b19, rfl⟩ | ⟨rfl, b19, rfl⟩)
      ·
        refine ⟨_, rfl, ?_⟩
        refine R_ifT (tg := 27) rfl rfl rfl ?_
        refine R_lo (nx := 28) rfl rfl rfl rfl ?_
        refine R_lo (nx := 29) rfl rfl rfl rfl ?_
        refine R_call1 (nx := 32) (as := [(2, 71), (0, c)]) (rest := []) rfl rfl (fun _ _ => rfl) rfl rfl rfl rfl rfl rfl rfl rfl (Cl.mono (c_M_brokenAt S c (by omega) (AK A c) (show MR S c (AK A c) by first | assumption | exact MR.up (by assumption) (by omega) | exact MR.up (MR.up (by assumption) (by omega)) (by omega) | exact MR.up (MR.up (MR.up (by assumption) (by omega)) (by omega)) (by omega)) (by assumption)) ?_)
        rintro _ _ ⟨rfl, rfl⟩
        refine ⟨_, rfl, ?_⟩
        refine R_if (nx := 35) (tg := 38) rfl rfl rfl (mm_cnd_eq _ _) (fun c32 => ?_) (fun c32 => ?_)
        ·
          have e32 : Xfb (AK A c) = 0 := c32
          refine R_lo (nx := 39) rfl rfl rfl rfl ?_
          refine R_lo (nx := 40) rfl rfl rfl rfl ?_
          refine R_lo (nx := 41) rfl rfl rfl rfl ?_
          refine R_lo (nx := 42) rfl rfl rfl rfl ?_
          refine R_call0 (nx := 45) (as := [(2, 71), (0, c), (0, w), (0, p)]) (rest := []) rfl rfl (fun _ _ => rfl) rfl rfl rfl rfl rfl rfl rfl rfl (Cl.mono (c_M_reduces S c (by omega) (AK A c) (show MR S c (AK A c) by first | assumption | exact MR.up (by assumption) (by omega) | exact MR.up (MR.up (by assumption) (by omega)) (by omega) | exact MR.up (MR.up (MR.up (by assumption) (by omega)) (by omega)) (by omega)) w b9.1 v1 e32 p b9.2) ?_)
          rintro _ S42 ⟨rfl, x42, t42, o42, f42⟩
          have mmS42 : MR S42 c (AK A c) := MR.fr (show MR S c (AK A c) by first | assumption | exact MR.up (by assumption) (by omega) | exact MR.up (MR.up (by assumption) (by omega)) (by omega) | exact MR.up (MR.up (MR.up (by assumption) (by omega)) (by omega)) (by omega)) fun e q r => f42 e (by omega)
          have nnS42 := mmS42.n
          refine ⟨rfl, ?_⟩
          refine R_lo (nx := 46) rfl rfl rfl rfl ?_
          refine R_get (nx := 49) (w := (2, 81)) rfl rfl rfl rfl ?_
          refine R_lo (nx := 51) rfl rfl rfl rfl ?_
          refine R_iald (nx := 52) rfl rfl (mm_el_ok 1 12 (by decide) rfl (by decide) (by omega) (by omega)) ?_
          rw [show (S42 81 x) = (Fw (AK A c) w p x) from t42 x (by omega) (by omega)]
          refine R_if (nx := 55) (tg := 60) rfl rfl rfl (mm_cnd_ge _ _) (fun c52 => ?_) (fun c52 => ?_)
          ·
            refine R_lo (nx := 61) rfl rfl rfl rfl ?_
            refine R_get (nx := 64) (w := (2, 81)) rfl rfl rfl rfl ?_
            refine R_lo (nx := 66) rfl rfl rfl rfl ?_
            refine R_iald (nx := 67) rfl rfl (mm_el_ok 1 12 (by decide) rfl (by decide) (by omega) (by omega)) ?_
            have hfw := Fw_r b9.2 v1 b9.1 x
            refine R_cv (w := (cl3 (Fw (AK A c) w p x))) (by rw [t42 x (by omega) (by omega)]; exact (cl3_n (by omega)).symm) ?_
            refine R_ret rfl (fun _ _ => rfl) rfl rfl ?_
            rw [show Q_goes A c w p x = ((cl3 (Fw (AK A c) w p x)), A) from by first | (simp only [Q_goes, b1, b9, e9, e309, b19, c32, e32, c52, ifo, ifm, ifp, iffq, ↓reduceIte, ite_self, and_self, and_true, true_and, and_false, false_and, or_true, true_or, or_false, false_or, or_self, not_true_eq_false, not_false_eq_true, ne_eq]; done) | (unfold Q_goes ifp; by_cases q0 : 0 ≤ c ∧ c < 4; rw [if_pos q0]; by_cases q1 : w = 0 ∨ w = 1; rw [if_pos q1]; by_cases q2 : Xpr p; rw [if_pos q2]; by_cases q3 : 0 ≤ x ∧ x < Xn (AK A c); rw [if_pos q3]; (first | exact absurd q0 b1 | exact absurd ⟨q1, q2⟩ b9 | exact absurd q3 b19); rw [if_neg q3]; rw [if_neg q2]; rw [if_neg q1]; rw [if_neg q0])]; exact ⟨rfl, hRR.fr (R71.of (f42 71 (by omega))) fun b hb => f42 b (by omega), fun b hb => f42 b (by omega)⟩
          ·
            refine R_op (nx := 57) rfl rfl rfl ?_
            refine R_op (nx := 60) (pc' := 67) rfl rfl rfl ?_
            have hfw := Fw_r b9.2 v1 b9.1 x
            refine R_cv (w := (cl3 (Fw (AK A c) w p x))) (by exact ((cl3_3 (by omega)).mpr (by omega)).symm) ?_
            refine R_ret rfl (fun _ _ => rfl) rfl rfl ?_
            rw [show Q_goes A c w p x = ((cl3 (Fw (AK A c) w p x)), A) from by first | (simp only [Q_goes, b1, b9, e9, e309, b19, c32, e32, c52, ifo, ifm, ifp, iffq, ↓reduceIte, ite_self, and_self, and_true, true_and, and_false, false_and, or_true, true_or, or_false, false_or, or_self, not_true_eq_false, not_false_eq_true, ne_eq]; done) | (unfold Q_goes ifp; by_cases q0 : 0 ≤ c ∧ c < 4; rw [if_pos q0]; by_cases q1 : w = 0 ∨ w = 1; rw [if_pos q1]; by_cases q2 : Xpr p; rw [if_pos q2]; by_cases q3 : 0 ≤ x ∧ x < Xn (AK A c); rw [if_pos q3]; (first | exact absurd q0 b1 | exact absurd ⟨q1, q2⟩ b9 | exact absurd q3 b19); rw [if_neg q3]; rw [if_neg q2]; rw [if_neg q1]; rw [if_neg q0])]; exact ⟨rfl, hRR.fr (R71.of (f42 71 (by omega))) fun b hb => f42 b (by omega), fun b hb => f42 b (by omega)⟩
        ·
          have e32 : ¬ Xfb (AK A c) = 0 := c32
          refine R_op (nx := 37) rfl rfl rfl ?_
          refine R_ret rfl (fun _ _ => rfl) rfl rfl ?_
          rw [show Q_goes A c w p x = ((-4), A) from by first | (simp only [Q_goes, b1, b9, e9, e309, b19, c32, e32, ifo, ifm, ifp, iffq, ↓reduceIte, ite_self, and_self, and_true, true_and, and_false, false_and, or_true, true_or, or_false, false_or, or_self, not_true_eq_false, not_false_eq_true, ne_eq]; done) | (unfold Q_goes ifp; by_cases q0 : 0 ≤ c ∧ c < 4; rw [if_pos q0]; by_cases q1 : w = 0 ∨ w = 1; rw [if_pos q1]; by_cases q2 : Xpr p; rw [if_pos q2]; by_cases q3 : 0 ≤ x ∧ x < Xn (AK A c); rw [if_pos q3]; (first | exact absurd q0 b1 | exact absurd ⟨q1, q2⟩ b9 | exact absurd q3 b19); rw [if_neg q3]; rw [if_neg q2]; rw [if_neg q1]; rw [if_neg q0])]; exact ⟨rfl, hRR, fun b _ => rfl⟩
      ·
        refine ⟨_, rfl, ?_⟩
        refine R_ifF (nx := 25) rfl rfl rfl ?_
        refine R_op (nx := 26) rfl rfl rfl ?_
        refine R_ret rfl (fun _ _ => rfl) rfl rfl ?_
        rw [show Q_goes A c w p x = ((-1), A) from by first | (simp only [Q_goes, b1, b9, e9, e309, b19, ifo, ifm, ifp, iffq, ↓reduceIte, ite_self, and_self, and_true, true_and, and_false, false_and, or_true, true_or, or_false, false_or, or_self, not_true_eq_false, not_false_eq_true, ne_eq]; done) | (unfold Q_goes ifp; by_cases q0 : 0 ≤ c ∧ c < 4; rw [if_pos q0]; by_cases q1 : w = 0 ∨ w = 1; rw [if_pos q1]; by_cases q2 : Xpr p; rw [if_pos q2]; by_cases q3 : 0 ≤ x ∧ x < Xn (AK A c); rw [if_pos q3]; (first | exact absurd q0 b1 | exact absurd ⟨q1, q2⟩ b9 | exact absurd q3 b19); rw [if_neg q3]; rw [if_neg q2]; rw [if_neg q1]; rw [if_neg q0])]; exact ⟨rfl, hRR, fun b _ => rfl⟩
    ·
      refine ⟨_, rfl, ?_⟩
      refine R_ifT (tg := 25) rfl rfl rfl ?_
      refine R_op (nx := 26) rfl rfl rfl ?_
      refine R_ret rfl (fun _ _ => rfl) rfl rfl ?_
      rw [show Q_goes A c w p x = ((-1), A) from by first | (simp only [Q_goes, b1, b9, ifo, ifm, ifp, iffq, ↓reduceIte, ite_self, and_self, and_true, true_and, and_false, false_and, or_true, true_or, or_false, false_or, or_self, not_true_eq_false, not_false_eq_true, ne_eq]; done) | (unfold Q_goes ifp; by_cases q0 : 0 ≤ c ∧ c < 4; rw [if_pos q0]; by_cases q1 : w = 0 ∨ w = 1; rw [if_pos q1]; by_cases q2 : Xpr p; rw [if_pos q2]; by_cases q3 : 0 ≤ x ∧ x < Xn (AK A c); rw [if_pos q3]; (first | exact absurd q0 b1 | exact absurd ⟨q1, q2⟩ b9 | exact absurd q3 b19); rw [if_neg q3]; rw [if_neg q2]; rw [if_neg q1]; rw [if_neg q0])]; exact ⟨rfl, hRR, fun b _ => rfl⟩
  ·
    try have k1 := hRR.k b1.1 b1.2
    try have n1 := k1.n
    try have z1 := k1.1.nr
    try have v1 := hV.1 _ b1.1 b1.2
    try have r1 := v1.2.1
    refine ⟨_, rfl, ?_⟩
    refine R_ifT (tg := 25) rfl rfl rfl ?_
    refine R_op (nx := 26) rfl rfl rfl ?_
    refine R_ret rfl (fun _ _ => rfl) rfl rfl ?_
    rw [show Q_goes A c w p x = ((-1), A) from by first | (simp only [Q_goes, b1, ifo, ifm, ifp, iffq, ↓reduceIte, ite_self, and_self, and_true, true_and, and_false, false_and, or_true, true_or, or_false, false_or, or_self, not_true_eq_false, not_false_eq_true, ne_eq]; done) | (unfold Q_goes ifp; by_cases q0 : 0 ≤ c ∧ c < 4; rw [if_pos q0]; by_cases q1 : w = 0 ∨ w = 1; rw [if_pos q1]; by_cases q2 : Xpr p; rw [if_pos q2]; by_cases q3 : 0 ≤ x ∧ x < Xn (AK A c); rw [if_pos q3]; (first | exact absurd q0 b1 | exact absurd ⟨q1, q2⟩ b9 | exact absurd q3 b19); rw [if_neg q3]; rw [if_neg q2]; rw [if_neg q1]; rw [if_neg q0])]; exact ⟨rfl, hRR, fun b _ => rfl⟩

set_option maxRecDepth 20000 in
set_option maxHeartbeats 4000000 in
theorem c_M_reduced (S : mm_S) (A : mm_A) (hRR : RR S A) (hV : Vs A) (c w p x y : Int) : Cl 77 [(2, 71), (0, c), (0, w), (0, p), (0, x), (0, y)] S (fun vv S' => vv = some (0, (Q_reduced A c w p x y).1) ∧ RR S' (Q_reduced A c w p x y).2 ∧ ∀ b, ¬ (71 ≤ b ∧ b < 91) → S' b = S b) := by
  refine ⟨Nat.le_of_ble_eq_true rfl, ?_⟩
  show Rn k_M_reduced 0 [(2, 71), (0, c), (0, w), (0, p), (0, x), (0, y)] [] S _
  refine R_lo (nx := 1) rfl rfl rfl rfl ?_
  refine R_lo (nx := 2) rfl rfl rfl rfl ?_
  refine R_lo (nx := 4) rfl rfl rfl rfl ?_
  refine R_lo (nx := 6) rfl rfl rfl rfl ?_
  refine R_call1 (nx := 9) (as := [(2, 71), (0, c), (0, x), (0, y)]) (rest := []) rfl rfl (fun _ _ => rfl) rfl rfl rfl rfl rfl rfl rfl rfl (Cl.mono (c_M_isEntry S (AK A) (by first | assumption | exact hRR.1) c x y) ?_)
  rintro _ _ (⟨rfl, b6, rfl⟩ | ⟨rfl, b6, rfl⟩)
  ·
    try have k1 := hRR.k b6.1.1 b6.1.2
    try have n1 := k1.n
    try have z1 := k1.1.nr
    try have v6 := hV.1 _ b6.1.1 b6.1.2
    try have r1 := v6.2.1
    have e6 : 0 ≤ c ∧ c < 4 := b6.1
    have e306 : 0 ≤ x ∧ x < Xn (AK A c) := b6.2.1
    have e406 : 0 ≤ y ∧ y < Xn (AK A c) := b6.2.2
    refine ⟨_, rfl, ?_⟩
    refine R_ifF (nx := 12) rfl rfl rfl ?_
    refine R_lo (nx := 13) rfl rfl rfl rfl ?_
    refine R_lo (nx := 14) rfl rfl rfl rfl ?_
    refine R_call1 (nx := 17) (as := [(0, w), (0, p)]) (rest := []) rfl rfl (fun _ _ => rfl) rfl rfl rfl rfl rfl rfl rfl rfl (Cl.mono (c_M_isAsked S w p) ?_)
    rintro _ _ (⟨rfl, b14, rfl⟩ | ⟨rfl, b14, rfl⟩)
    ·
      have e14 : w = 0 ∨ w = 1 := b14.1
      have e314 : Xpr p := b14.2
      refine ⟨_, rfl, ?_⟩
      refine R_ifT (tg := 22) rfl rfl rfl ?_
      refine R_lo (nx := 23) rfl rfl rfl rfl ?_
      refine R_lo (nx := 24) rfl rfl rfl rfl ?_
      refine R_call1 (nx := 27) (as := [(2, 71), (0, c)]) (rest := []) rfl rfl (fun _ _ => rfl) rfl rfl rfl rfl rfl rfl rfl rfl (Cl.mono (c_M_brokenAt S c (by omega) (AK A c) (show MR S c (AK A c) by first | assumption | exact MR.up (by assumption) (by omega) | exact MR.up (MR.up (by assumption) (by omega)) (by omega) | exact MR.up (MR.up (MR.up (by assumption) (by omega)) (by omega)) (by omega)) (by assumption)) ?_)
      rintro _ _ ⟨rfl, rfl⟩
      refine ⟨_, rfl, ?_⟩
      refine R_if (nx := 30) (tg := 33) rfl rfl rfl (mm_cnd_eq _ _) (fun c27 => ?_) (fun c27 => ?_)
      ·
        have e27 : Xfb (AK A c) = 0 := c27
        refine R_lo (nx := 34) rfl rfl rfl rfl ?_
        refine R_lo (nx := 35) rfl rfl rfl rfl ?_
        refine R_lo (nx := 36) rfl rfl rfl rfl ?_
        refine R_lo (nx := 37) rfl rfl rfl rfl ?_
        refine R_call0 (nx := 40) (as := [(2, 71), (0, c), (0, w), (0, p)]) (rest := []) rfl rfl (fun _ _ => rfl) rfl rfl rfl rfl rfl rfl rfl rfl (Cl.mono (c_M_reduces S c (by omega) (AK A c) (show MR S c (AK A c) by first | assumption | exact MR.up (by assumption) (by omega) | exact MR.up (MR.up (by assumption) (by omega)) (by omega) | exact MR.up (MR.up (MR.up (by assumption) (by omega)) (by omega)) (by omega)) w b14.1 v6 e27 p b14.2) ?_)
        rintro _ S37 ⟨rfl, x37, t37, o37, f37⟩
        have mmS37 : MR S37 c (AK A c) := MR.fr (show MR S c (AK A c) by first | assumption | exact MR.up (by assumption) (by omega) | exact MR.up (MR.up (by assumption) (by omega)) (by omega) | exact MR.up (MR.up (MR.up (by assumption) (by omega)) (by omega)) (by omega)) fun e q r => f37 e (by omega)
        have nnS37 := mmS37.n
        refine ⟨rfl, ?_⟩
        refine R_lo (nx := 41) rfl rfl rfl rfl ?_
        refine R_get (nx := 44) (w := (2, 80)) rfl rfl rfl rfl ?_
        refine R_op (nx := 46) rfl rfl rfl ?_
        refine R_lo (nx := 48) rfl rfl rfl rfl ?_
        refine R_imul (nx := 49) (z := (12 * x)) rfl rfl rfl ⟨by omega, by omega⟩ ?_
        refine R_lo (nx := 51) rfl rfl rfl rfl ?_
        refine R_iadd (nx := 52) (z := ((12 * x) + y)) rfl rfl rfl ⟨by omega, by omega⟩ ?_
        refine R_iald (nx := 53) rfl rfl (mm_el_ok 1 144 (by decide) rfl (by decide) (by omega) (by omega)) ?_
        rw [show (S37 80 ((12 * x) + y)) = (Fr (AK A c) w p x y) from x37 x y b6.2.1.1 b6.2.1.2 b6.2.2.1 b6.2.2.2]
        refine R_ret rfl (fun _ _ => rfl) rfl rfl ?_
        rw [show Q_reduced A c w p x y = ((Fr (AK A c) w p x y), A) from by first | (simp only [Q_reduced, b6, e6, e306, e406, b14, e14, e314, c27, e27, ifo, ifm, ifp, iffq, ↓reduceIte, ite_self, and_self, and_true, true_and, and_false, false_and, or_true, true_or, or_false, false_or, or_self, not_true_eq_false, not_false_eq_true, ne_eq]; done) | (unfold Q_reduced ifp; by_cases q0 : 0 ≤ c ∧ c < 4; rw [if_pos q0]; by_cases q1 : w = 0 ∨ w = 1; rw [if_pos q1]; by_cases q2 : Xpr p; rw [if_pos q2]; by_cases q3 : 0 ≤ x ∧ x < Xn (AK A c); rw [if_pos q3]; by_cases q4 : 0 ≤ y ∧ y < Xn (AK A c); rw [if_pos q4]; (first | exact absurd ⟨q0, q3, q4⟩ b6 | exact absurd ⟨q1, q2⟩ b14); rw [if_neg q4]; rw [if_neg q3]; rw [if_neg q2]; rw [if_neg q1]; rw [if_neg q0])]; exact ⟨rfl, hRR.fr (R71.of (f37 71 (by omega))) fun b hb => f37 b (by omega), fun b hb => f37 b (by omega)⟩
      ·
        have e27 : ¬ Xfb (AK A c) = 0 := c27
        refine R_op (nx := 32) rfl rfl rfl ?_
        refine R_ret rfl (fun _ _ => rfl) rfl rfl ?_
        rw [show Q_reduced A c w p x y = ((-4), A) from by first | (simp only [Q_reduced, b6, e6, e306, e406, b14, e14, e314, c27, e27, ifo, ifm, ifp, iffq, ↓reduceIte, ite_self, and_self, and_true, true_and, and_false, false_and, or_true, true_or, or_false, false_or, or_self, not_true_eq_false, not_false_eq_true, ne_eq]; done) | (unfold Q_reduced ifp; by_cases q0 : 0 ≤ c ∧ c < 4; rw [if_pos q0]; by_cases q1 : w = 0 ∨ w = 1; rw [if_pos q1]; by_cases q2 : Xpr p; rw [if_pos q2]; by_cases q3 : 0 ≤ x ∧ x < Xn (AK A c); rw [if_pos q3]; by_cases q4 : 0 ≤ y ∧ y < Xn (AK A c); rw [if_pos q4]; (first | exact absurd ⟨q0, q3, q4⟩ b6 | exact absurd ⟨q1, q2⟩ b14); rw [if_neg q4]; rw [if_neg q3]; rw [if_neg q2]; rw [if_neg q1]; rw [if_neg q0])]; exact ⟨rfl, hRR, fun b _ => rfl⟩
    ·
      refine ⟨_, rfl, ?_⟩
      refine R_ifF (nx := 20) rfl rfl rfl ?_
      refine R_op (nx := 21) rfl rfl rfl ?_
      refine R_ret rfl (fun _ _ => rfl) rfl rfl ?_
      rw [show Q_reduced A c w p x y = ((-1), A) from by first | (simp only [Q_reduced, b6, e6, e306, e406, b14, ifo, ifm, ifp, iffq, ↓reduceIte, ite_self, and_self, and_true, true_and, and_false, false_and, or_true, true_or, or_false, false_or, or_self, not_true_eq_false, not_false_eq_true, ne_eq]; done) | (unfold Q_reduced ifp; by_cases q0 : 0 ≤ c ∧ c < 4; rw [if_pos q0]; by_cases q1 : w = 0 ∨ w = 1; rw [if_pos q1]; by_cases q2 : Xpr p; rw [if_pos q2]; by_cases q3 : 0 ≤ x ∧ x < Xn (AK A c); rw [if_pos q3]; by_cases q4 : 0 ≤ y ∧ y < Xn (AK A c); rw [if_pos q4]; (first | exact absurd ⟨q0, q3, q4⟩ b6 | exact absurd ⟨q1, q2⟩ b14); rw [if_neg q4]; rw [if_neg q3]; rw [if_neg q2]; rw [if_neg q1]; rw [if_neg q0])]; exact ⟨rfl, hRR, fun b _ => rfl⟩
  ·
    try have k1 := hRR.k b6.1.1 b6.1.2
    try have n1 := k1.n
    try have z1 := k1.1.nr
    try have v6 := hV.1 _ b6.1.1 b6.1.2
    try have r1 := v6.2.1
    refine ⟨_, rfl, ?_⟩
    refine R_ifT (tg := 20) rfl rfl rfl ?_
    refine R_op (nx := 21) rfl rfl rfl ?_
    refine R_ret rfl (fun _ _ => rfl) rfl rfl ?_
    rw [show Q_reduced A c w p x y = ((-1), A) from by first | (simp only [Q_reduced, b6, ifo, ifm, ifp, iffq, ↓reduceIte, ite_self, and_self, and_true, true_and, and_false, false_and, or_true, true_or, or_false, false_or, or_self, not_true_eq_false, not_false_eq_true, ne_eq]; done) | (unfold Q_reduced ifp; by_cases q0 : 0 ≤ c ∧ c < 4; rw [if_pos q0]; by_cases q1 : w = 0 ∨ w = 1; rw [if_pos q1]; by_cases q2 : Xpr p; rw [if_pos q2]; by_cases q3 : 0 ≤ x ∧ x < Xn (AK A c); rw [if_pos q3]; by_cases q4 : 0 ≤ y ∧ y < Xn (AK A c); rw [if_pos q4]; (first | exact absurd ⟨q0, q3, q4⟩ b6 | exact absurd ⟨q1, q2⟩ b14); rw [if_neg q4]; rw [if_neg q3]; rw [if_neg q2]; rw [if_neg q1]; rw [if_neg q0])]; exact ⟨rfl, hRR, fun b _ => rfl⟩

set_option maxRecDepth 20000 in
set_option maxHeartbeats 4000000 in
theorem c_M_gap (S : mm_S) (c : Int) (hc : 0 ≤ c ∧ c < 5) (K : CX) (h : MR S c K) (w : Int) (hw : w = 0 ∨ w = 1) (hV : Vx K) (p : Int) (hp : Xpr p) (ht : ∀ z, 0 ≤ z → z < Xn K → S 81 z = Fw K w p z) (x : Int) (hx : 0 ≤ x ∧ x < Xn K) (hne : Fw K w p x ≠ -1) : Cl 78 [(2, 71), (0, c), (0, w), (0, x)] S (fun v S' => v = some (0, gapF K w p x) ∧ S = S') := by
  refine ⟨Nat.le_of_ble_eq_true rfl, ?_⟩
  show Rn k_M_gap 0 [(2, 71), (0, c), (0, w), (0, x), (9, 0)] [] S _
  have hnr := h.1.nr
  have hR := hV.2.1
  have hfw := Fw_r hp hV hw x
  have h1 := Xl_r hR w x
  have h2 := Xl_r hR w (Fw K w p x)
  refine R_lo (nx := 1) rfl rfl rfl rfl ?_
  refine R_lo (nx := 2) rfl rfl rfl rfl ?_
  refine R_lo (nx := 3) rfl rfl rfl rfl ?_
  refine R_lo (nx := 4) rfl rfl rfl rfl ?_
  refine R_call1 (nx := 7) (as := [(2, 71), (0, c), (0, w), (0, x)]) (rest := []) rfl rfl (fun _ _ => rfl) rfl rfl rfl rfl rfl rfl rfl rfl (Cl.mono (c_M_level S c (by omega) K (show MRr S c K by first | assumption | exact MR.r (by assumption) | exact MRr.up (by assumption) (by omega) | exact MRr.up (MR.r (by assumption)) (by omega) | exact MRr.up (MRr.up (MR.r (by assumption)) (by omega)) (by omega)) w x (by omega) (by omega)) ?_)
  rintro _ _ ⟨rfl, rfl⟩
  refine ⟨_, rfl, ?_⟩
  refine R_lo (nx := 8) rfl rfl rfl rfl ?_
  refine R_lo (nx := 9) rfl rfl rfl rfl ?_
  refine R_lo (nx := 10) rfl rfl rfl rfl ?_
  refine R_lo (nx := 11) rfl rfl rfl rfl ?_
  refine R_get (nx := 14) (w := (2, 81)) rfl rfl rfl rfl ?_
  refine R_lo (nx := 15) rfl rfl rfl rfl ?_
  refine R_iald (nx := 16) rfl rfl (mm_el_ok 1 12 (by decide) rfl (by decide) (by omega) (by omega)) ?_
  rw [show (S 81 x) = (Fw K w p x) from ht x hx.1 hx.2]
  refine R_call1 (nx := 19) (as := [(2, 71), (0, c), (0, w), (0, (Fw K w p x))]) (rest := [(0, (Xl K w x))]) rfl rfl (fun _ _ => rfl) rfl rfl rfl rfl rfl rfl rfl rfl (Cl.mono (c_M_level S c (by omega) K (show MRr S c K by first | assumption | exact MR.r (by assumption) | exact MRr.up (by assumption) (by omega) | exact MRr.up (MR.r (by assumption)) (by omega) | exact MRr.up (MRr.up (MR.r (by assumption)) (by omega)) (by omega)) w (Fw K w p x) (by omega) (by omega)) ?_)
  rintro _ _ ⟨rfl, rfl⟩
  refine ⟨_, rfl, ?_⟩
  refine R_isub (nx := 20) (z := ((Xl K w x) - (Xl K w (Fw K w p x)))) rfl rfl rfl ⟨by omega, by omega⟩ ?_
  refine R_lo (nx := 22) (ls' := [(2, 71), (0, c), (0, w), (0, x), (0, ((Xl K w x) - (Xl K w (Fw K w p x))))]) rfl rfl rfl rfl ?_
  refine R_lo (nx := 24) rfl rfl rfl rfl ?_
  refine R_if (nx := 27) (tg := 33) rfl rfl rfl (mm_cnd_ge _ _) (fun c24 => ?_) (fun c24 => ?_)
  ·
    refine R_lo (nx := 35) rfl rfl rfl rfl ?_
    refine R_ret rfl (fun _ _ => rfl) rfl rfl ?_
    first | exact ⟨by unfold gapF; rw [if_pos (by omega)], rfl⟩ | exact ⟨by unfold gapF; rw [if_neg (by omega)], rfl⟩
  ·
    refine R_lo (nx := 29) rfl rfl rfl rfl ?_
    refine R_ineg (nx := 30) (z := (-((Xl K w x) - (Xl K w (Fw K w p x))))) rfl rfl rfl ⟨by omega, by omega⟩ ?_
    refine R_op (nx := 33) (pc' := 35) rfl rfl rfl ?_
    refine R_ret rfl (fun _ _ => rfl) rfl rfl ?_
    first | exact ⟨by unfold gapF; rw [if_pos (by omega)], rfl⟩ | exact ⟨by unfold gapF; rw [if_neg (by omega)], rfl⟩

set_option maxRecDepth 20000 in
set_option maxHeartbeats 4000000 in
theorem c_M_counts0 (S : mm_S) (c : Int) (hc : 0 ≤ c ∧ c < 5) (K : CX) (h : MR S c K) (w : Int) (hw : w = 0 ∨ w = 1) (hV : Vx K) (p : Int) (hp : Xpr p) (ht : ∀ z, 0 ≤ z → z < Xn K → S 81 z = Fw K w p z) (hx : ∀ z y, 0 ≤ z → z < Xn K → 0 ≤ y → y < Xn K → S 80 (12 * z + y) = Fr K w p z y) (ho : ∀ k, 0 ≤ k → k < Xn K → S 82 k = od K w k) (r l d : Int) : Cl 79 [(2, 71), (0, c), (0, w), (0, r), (0, l), (0, d), (0, 0)] S (fun v S' => v = some (0, sm (tcF K w p r l d 0) (Xn K)) ∧ S = S') := by
  refine ⟨Nat.le_of_ble_eq_true rfl, ?_⟩
  show Rn k_M_counts 0 [(2, 71), (0, c), (0, w), (0, r), (0, l), (0, d), (0, 0), (9, 0), (9, 0), (9, 0)] [] S _
  have hnr := h.1.nr
  have hn := h.n
  have hR := hV.2.1
  refine R_op (nx := 1) rfl rfl rfl ?_
  refine R_lo (nx := 3) (ls' := [(2, 71), (0, c), (0, w), (0, r), (0, l), (0, d), (0, 0), (0, 0), (9, 0), (9, 0)]) rfl rfl rfl rfl ?_
  refine R_op (nx := 4) rfl rfl rfl ?_
  refine R_lo (nx := 6) (ls' := [(2, 71), (0, c), (0, w), (0, r), (0, l), (0, d), (0, 0), (0, 0), (0, 0), (9, 0)]) rfl rfl rfl rfl ?_
  have L6 : ∀ (f6 : Nat) (acc : Int) (i : Int), (Xn K - i).toNat < f6 → (0 ≤ i ∧ i ≤ Xn K) → (0 ≤ acc ∧ acc ≤ i) → (acc = sm (tcF K w p r l d 0) i) → Rn k_M_counts 6 [(2, 71), (0, c), (0, w), (0, r), (0, l), (0, d), (0, 0), (0, acc), (0, i), (9, 0)] [] S (fun v S' => v = some (0, sm (tcF K w p r l d 0) (Xn K)) ∧ S = S') := by
    intro f6
    induction f6 with
    | zero => intro acc i hm6; exact absurd hm6 (Nat.not_lt_zero _)
    | succ f6 ih6 =>
      intro acc i hm6 hi hb hq
      have hfw := Fw_r hp hV hw i
      have hfl := Fl_r (w := w) (p := p) hV i
      have qn := @Fw_nl K w p i
      refine R_lo (nx := 8) rfl rfl rfl rfl ?_
      refine R_lo (nx := 9) rfl rfl rfl rfl ?_
      refine R_get (nx := 12) (w := (2, 72)) rfl rfl rfl rfl ?_
      refine R_lo (nx := 13) rfl rfl rfl rfl ?_
      refine R_iald (nx := 14) rfl rfl (mm_el_ok 1 5 (by decide) rfl (by decide) (by omega) (by omega)) ?_
      rw [hn]
      refine R_icmp (nx := 17) (tg := 156) rfl rfl rfl (mm_cnd_ge _ _) (fun c14 => ?_) (fun c14 => ?_)
      ·
        refine R_lo (nx := 158) rfl rfl rfl rfl ?_
        refine R_ret rfl (fun _ _ => rfl) rfl rfl ?_
        exact ⟨by rw [hq, show i = Xn K by omega], rfl⟩
      ·
        refine R_lo (nx := 18) rfl rfl rfl rfl ?_
        refine R_lo (nx := 19) rfl rfl rfl rfl ?_
        refine R_lo (nx := 20) rfl rfl rfl rfl ?_
        refine R_lo (nx := 22) rfl rfl rfl rfl ?_
        refine R_call1 (nx := 25) (as := [(2, 71), (0, c), (0, w), (0, i)]) (rest := []) rfl rfl (fun _ _ => rfl) rfl rfl rfl rfl rfl rfl rfl rfl (Cl.mono (c_M_level S c (by omega) K (show MRr S c K by first | assumption | exact MR.r (by assumption) | exact MRr.up (by assumption) (by omega) | exact MRr.up (MR.r (by assumption)) (by omega) | exact MRr.up (MRr.up (MR.r (by assumption)) (by omega)) (by omega)) w i (by omega) (by omega)) ?_)
        rintro _ _ ⟨rfl, rfl⟩
        refine ⟨_, rfl, ?_⟩
        refine R_lo (nx := 27) rfl rfl rfl rfl ?_
        refine R_icmp (nx := 30) (tg := 46) rfl rfl rfl (mm_cnd_ne _ _) (fun c27 => ?_) (fun c27 => ?_)
        ·
          refine R_op (nx := 47) rfl rfl rfl ?_
          refine R_lo (nx := 49) (ls' := [(2, 71), (0, c), (0, w), (0, r), (0, l), (0, d), (0, 0), (0, acc), (0, i), (0, 0)]) rfl rfl rfl rfl ?_
          refine R_lo (nx := 51) rfl rfl rfl rfl ?_
          refine R_ifT (tg := 101) rfl rfl rfl ?_
          refine R_lo (nx := 103) rfl rfl rfl rfl ?_
          refine R_ifT (tg := 132) rfl rfl rfl ?_
          refine R_op (nx := 133) rfl rfl rfl ?_
          refine R_lo (nx := 135) (ls' := [(2, 71), (0, c), (0, w), (0, r), (0, l), (0, d), (0, 0), (0, acc), (0, i), (0, 0)]) rfl rfl rfl rfl ?_
          refine R_lo (nx := 137) rfl rfl rfl rfl ?_
          refine R_lo (nx := 139) rfl rfl rfl rfl ?_
          refine R_ifT (tg := 146) rfl rfl rfl ?_
          refine R_op (nx := 147) rfl rfl rfl ?_
          refine R_iadd (nx := 148) (z := (acc + 0)) rfl rfl rfl ⟨by omega, by omega⟩ ?_
          refine R_lo (nx := 150) (ls' := [(2, 71), (0, c), (0, w), (0, r), (0, l), (0, d), (0, 0), (0, (acc + 0)), (0, i), (0, 0)]) rfl rfl rfl rfl ?_
          refine R_iinc (nx := 153) (z := (i + 1)) (ls' := [(2, 71), (0, c), (0, w), (0, r), (0, l), (0, d), (0, 0), (0, (acc + 0)), (0, (i + 1)), (0, 0)]) rfl rfl rfl rfl ⟨by omega, by omega⟩ rfl ?_
          refine R_op (nx := 156) (pc' := 6) rfl rfl rfl ?_
          refine Rn.weak (ls' := [(2, 71), (0, c), (0, w), (0, r), (0, l), (0, d), (0, 0), (0, (acc + 0)), (0, (i + 1)), (9, 0)]) ⟨Or.inl rfl, ⟨Or.inl rfl, ⟨Or.inl rfl, ⟨Or.inl rfl, ⟨Or.inl rfl, ⟨Or.inl rfl, ⟨Or.inl rfl, ⟨Or.inl rfl, ⟨Or.inl rfl, ⟨Or.inr rfl, trivial⟩⟩⟩⟩⟩⟩⟩⟩⟩⟩ ?_
          refine ih6 ((acc + 0)) ((i + 1)) ?_ ?_ ?_ ?_
          · omega
          · omega
          · omega
          · rw [sm_s _ hi.1, ← hq]
            first | rw [tcF_0 (by omega)] | rw [tcF_0n (by omega)]
        ·
          replace c27 := Classical.not_not.mp c27
          refine R_lo (nx := 31) rfl rfl rfl rfl ?_
          refine R_lo (nx := 32) rfl rfl rfl rfl ?_
          refine R_lo (nx := 34) rfl rfl rfl rfl ?_
          refine R_call1 (nx := 37) (as := [(2, 71), (0, c), (0, i)]) (rest := []) rfl rfl (fun _ _ => rfl) rfl rfl rfl rfl rfl rfl rfl rfl (Cl.mono (c_M_degree S c (by omega) K (show MRr S c K by first | assumption | exact MR.r (by assumption) | exact MRr.up (by assumption) (by omega) | exact MRr.up (MR.r (by assumption)) (by omega) | exact MRr.up (MRr.up (MR.r (by assumption)) (by omega)) (by omega)) i (by omega)) ?_)
          rintro _ _ ⟨rfl, rfl⟩
          refine ⟨_, rfl, ?_⟩
          refine R_lo (nx := 39) rfl rfl rfl rfl ?_
          refine R_icmp (nx := 42) (tg := 46) rfl rfl rfl (mm_cnd_ne _ _) (fun c39 => ?_) (fun c39 => ?_)
          ·
            refine R_op (nx := 47) rfl rfl rfl ?_
            refine R_lo (nx := 49) (ls' := [(2, 71), (0, c), (0, w), (0, r), (0, l), (0, d), (0, 0), (0, acc), (0, i), (0, 0)]) rfl rfl rfl rfl ?_
            refine R_lo (nx := 51) rfl rfl rfl rfl ?_
            refine R_ifT (tg := 101) rfl rfl rfl ?_
            refine R_lo (nx := 103) rfl rfl rfl rfl ?_
            refine R_ifT (tg := 132) rfl rfl rfl ?_
            refine R_op (nx := 133) rfl rfl rfl ?_
            refine R_lo (nx := 135) (ls' := [(2, 71), (0, c), (0, w), (0, r), (0, l), (0, d), (0, 0), (0, acc), (0, i), (0, 0)]) rfl rfl rfl rfl ?_
            refine R_lo (nx := 137) rfl rfl rfl rfl ?_
            refine R_lo (nx := 139) rfl rfl rfl rfl ?_
            refine R_ifT (tg := 146) rfl rfl rfl ?_
            refine R_op (nx := 147) rfl rfl rfl ?_
            refine R_iadd (nx := 148) (z := (acc + 0)) rfl rfl rfl ⟨by omega, by omega⟩ ?_
            refine R_lo (nx := 150) (ls' := [(2, 71), (0, c), (0, w), (0, r), (0, l), (0, d), (0, 0), (0, (acc + 0)), (0, i), (0, 0)]) rfl rfl rfl rfl ?_
            refine R_iinc (nx := 153) (z := (i + 1)) (ls' := [(2, 71), (0, c), (0, w), (0, r), (0, l), (0, d), (0, 0), (0, (acc + 0)), (0, (i + 1)), (0, 0)]) rfl rfl rfl rfl ⟨by omega, by omega⟩ rfl ?_
            refine R_op (nx := 156) (pc' := 6) rfl rfl rfl ?_
            refine Rn.weak (ls' := [(2, 71), (0, c), (0, w), (0, r), (0, l), (0, d), (0, 0), (0, (acc + 0)), (0, (i + 1)), (9, 0)]) ⟨Or.inl rfl, ⟨Or.inl rfl, ⟨Or.inl rfl, ⟨Or.inl rfl, ⟨Or.inl rfl, ⟨Or.inl rfl, ⟨Or.inl rfl, ⟨Or.inl rfl, ⟨Or.inl rfl, ⟨Or.inr rfl, trivial⟩⟩⟩⟩⟩⟩⟩⟩⟩⟩ ?_
            refine ih6 ((acc + 0)) ((i + 1)) ?_ ?_ ?_ ?_
            · omega
            · omega
            · omega
            · rw [sm_s _ hi.1, ← hq]
              first | rw [tcF_0 (by omega)] | rw [tcF_0n (by omega)]
          ·
            replace c39 := Classical.not_not.mp c39
            refine R_op (nx := 43) rfl rfl rfl ?_
            refine R_op (nx := 46) (pc' := 47) rfl rfl rfl ?_
            refine R_lo (nx := 49) (ls' := [(2, 71), (0, c), (0, w), (0, r), (0, l), (0, d), (0, 0), (0, acc), (0, i), (0, 1)]) rfl rfl rfl rfl ?_
            refine R_lo (nx := 51) rfl rfl rfl rfl ?_
            refine R_ifT (tg := 101) rfl rfl rfl ?_
            refine R_lo (nx := 103) rfl rfl rfl rfl ?_
            refine R_ifF (nx := 106) rfl rfl rfl ?_
            refine R_lo (nx := 107) rfl rfl rfl rfl ?_
            refine R_get (nx := 110) (w := (2, 81)) rfl rfl rfl rfl ?_
            refine R_lo (nx := 112) rfl rfl rfl rfl ?_
            refine R_iald (nx := 113) rfl rfl (mm_el_ok 1 12 (by decide) rfl (by decide) (by omega) (by omega)) ?_
            rw [show (S 81 i) = (Fw K w p i) from ht i (by omega) (by omega)]
            refine R_if (nx := 116) (tg := 128) rfl rfl rfl (mm_cnd_lt _ _) (fun c113 => ?_) (fun c113 => ?_)
            ·
              refine R_op (nx := 129) rfl rfl rfl ?_
              refine R_op (nx := 132) (pc' := 133) rfl rfl rfl ?_
              refine R_lo (nx := 135) (ls' := [(2, 71), (0, c), (0, w), (0, r), (0, l), (0, d), (0, 0), (0, acc), (0, i), (0, 1)]) rfl rfl rfl rfl ?_
              refine R_lo (nx := 137) rfl rfl rfl rfl ?_
              refine R_lo (nx := 139) rfl rfl rfl rfl ?_
              refine R_ifF (nx := 142) rfl rfl rfl ?_
              refine R_op (nx := 143) rfl rfl rfl ?_
              refine R_op (nx := 146) (pc' := 147) rfl rfl rfl ?_
              refine R_iadd (nx := 148) (z := (acc + 1)) rfl rfl rfl ⟨by omega, by omega⟩ ?_
              refine R_lo (nx := 150) (ls' := [(2, 71), (0, c), (0, w), (0, r), (0, l), (0, d), (0, 0), (0, (acc + 1)), (0, i), (0, 1)]) rfl rfl rfl rfl ?_
              refine R_iinc (nx := 153) (z := (i + 1)) (ls' := [(2, 71), (0, c), (0, w), (0, r), (0, l), (0, d), (0, 0), (0, (acc + 1)), (0, (i + 1)), (0, 1)]) rfl rfl rfl rfl ⟨by omega, by omega⟩ rfl ?_
              refine R_op (nx := 156) (pc' := 6) rfl rfl rfl ?_
              refine Rn.weak (ls' := [(2, 71), (0, c), (0, w), (0, r), (0, l), (0, d), (0, 0), (0, (acc + 1)), (0, (i + 1)), (9, 0)]) ⟨Or.inl rfl, ⟨Or.inl rfl, ⟨Or.inl rfl, ⟨Or.inl rfl, ⟨Or.inl rfl, ⟨Or.inl rfl, ⟨Or.inl rfl, ⟨Or.inl rfl, ⟨Or.inl rfl, ⟨Or.inr rfl, trivial⟩⟩⟩⟩⟩⟩⟩⟩⟩⟩ ?_
              refine ih6 ((acc + 1)) ((i + 1)) ?_ ?_ ?_ ?_
              · omega
              · omega
              · omega
              · rw [sm_s _ hi.1, ← hq]
                first | rw [tcF_0 (by omega)] | rw [tcF_0n (by omega)]
            ·
              refine R_lo (nx := 117) rfl rfl rfl rfl ?_
              refine R_lo (nx := 118) rfl rfl rfl rfl ?_
              refine R_lo (nx := 119) rfl rfl rfl rfl ?_
              refine R_lo (nx := 121) rfl rfl rfl rfl ?_
              refine R_call1 (nx := 124) (as := [(2, 71), (0, c), (0, w), (0, i)]) (rest := []) rfl rfl (fun _ _ => rfl) rfl rfl rfl rfl rfl rfl rfl rfl (Cl.mono (c_M_gap S c (by omega) K (show MR S c K by first | assumption | exact MR.up (by assumption) (by omega) | exact MR.up (MR.up (by assumption) (by omega)) (by omega) | exact MR.up (MR.up (MR.up (by assumption) (by omega)) (by omega)) (by omega)) w (by assumption) (by assumption) p (by assumption) (by assumption) i (by omega) (by omega)) ?_)
              rintro _ _ ⟨rfl, rfl⟩
              refine ⟨_, rfl, ?_⟩
              refine R_lo (nx := 125) rfl rfl rfl rfl ?_
              refine R_icmp (nx := 128) (tg := 132) rfl rfl rfl (mm_cnd_lt _ _) (fun c125 => ?_) (fun c125 => ?_)
              ·
                refine R_op (nx := 133) rfl rfl rfl ?_
                refine R_lo (nx := 135) (ls' := [(2, 71), (0, c), (0, w), (0, r), (0, l), (0, d), (0, 0), (0, acc), (0, i), (0, 0)]) rfl rfl rfl rfl ?_
                refine R_lo (nx := 137) rfl rfl rfl rfl ?_
                refine R_lo (nx := 139) rfl rfl rfl rfl ?_
                refine R_ifT (tg := 146) rfl rfl rfl ?_
                refine R_op (nx := 147) rfl rfl rfl ?_
                refine R_iadd (nx := 148) (z := (acc + 0)) rfl rfl rfl ⟨by omega, by omega⟩ ?_
                refine R_lo (nx := 150) (ls' := [(2, 71), (0, c), (0, w), (0, r), (0, l), (0, d), (0, 0), (0, (acc + 0)), (0, i), (0, 0)]) rfl rfl rfl rfl ?_
                refine R_iinc (nx := 153) (z := (i + 1)) (ls' := [(2, 71), (0, c), (0, w), (0, r), (0, l), (0, d), (0, 0), (0, (acc + 0)), (0, (i + 1)), (0, 0)]) rfl rfl rfl rfl ⟨by omega, by omega⟩ rfl ?_
                refine R_op (nx := 156) (pc' := 6) rfl rfl rfl ?_
                refine Rn.weak (ls' := [(2, 71), (0, c), (0, w), (0, r), (0, l), (0, d), (0, 0), (0, (acc + 0)), (0, (i + 1)), (9, 0)]) ⟨Or.inl rfl, ⟨Or.inl rfl, ⟨Or.inl rfl, ⟨Or.inl rfl, ⟨Or.inl rfl, ⟨Or.inl rfl, ⟨Or.inl rfl, ⟨Or.inl rfl, ⟨Or.inl rfl, ⟨Or.inr rfl, trivial⟩⟩⟩⟩⟩⟩⟩⟩⟩⟩ ?_
                refine ih6 ((acc + 0)) ((i + 1)) ?_ ?_ ?_ ?_
                · omega
                · omega
                · omega
                · rw [sm_s _ hi.1, ← hq]
                  first | rw [tcF_0 (by omega)] | rw [tcF_0n (by omega)]
              ·
                refine R_op (nx := 129) rfl rfl rfl ?_
                refine R_op (nx := 132) (pc' := 133) rfl rfl rfl ?_
                refine R_lo (nx := 135) (ls' := [(2, 71), (0, c), (0, w), (0, r), (0, l), (0, d), (0, 0), (0, acc), (0, i), (0, 1)]) rfl rfl rfl rfl ?_
                refine R_lo (nx := 137) rfl rfl rfl rfl ?_
                refine R_lo (nx := 139) rfl rfl rfl rfl ?_
                refine R_ifF (nx := 142) rfl rfl rfl ?_
                refine R_op (nx := 143) rfl rfl rfl ?_
                refine R_op (nx := 146) (pc' := 147) rfl rfl rfl ?_
                refine R_iadd (nx := 148) (z := (acc + 1)) rfl rfl rfl ⟨by omega, by omega⟩ ?_
                refine R_lo (nx := 150) (ls' := [(2, 71), (0, c), (0, w), (0, r), (0, l), (0, d), (0, 0), (0, (acc + 1)), (0, i), (0, 1)]) rfl rfl rfl rfl ?_
                refine R_iinc (nx := 153) (z := (i + 1)) (ls' := [(2, 71), (0, c), (0, w), (0, r), (0, l), (0, d), (0, 0), (0, (acc + 1)), (0, (i + 1)), (0, 1)]) rfl rfl rfl rfl ⟨by omega, by omega⟩ rfl ?_
                refine R_op (nx := 156) (pc' := 6) rfl rfl rfl ?_
                refine Rn.weak (ls' := [(2, 71), (0, c), (0, w), (0, r), (0, l), (0, d), (0, 0), (0, (acc + 1)), (0, (i + 1)), (9, 0)]) ⟨Or.inl rfl, ⟨Or.inl rfl, ⟨Or.inl rfl, ⟨Or.inl rfl, ⟨Or.inl rfl, ⟨Or.inl rfl, ⟨Or.inl rfl, ⟨Or.inl rfl, ⟨Or.inl rfl, ⟨Or.inr rfl, trivial⟩⟩⟩⟩⟩⟩⟩⟩⟩⟩ ?_
                refine ih6 ((acc + 1)) ((i + 1)) ?_ ?_ ?_ ?_
                · omega
                · omega
                · omega
                · rw [sm_s _ hi.1, ← hq]
                  first | rw [tcF_0 (by omega)] | rw [tcF_0n (by omega)]
  refine Rn.weak (ls' := [(2, 71), (0, c), (0, w), (0, r), (0, l), (0, d), (0, 0), (0, 0), (0, 0), (9, 0)]) ⟨Or.inl rfl, ⟨Or.inl rfl, ⟨Or.inl rfl, ⟨Or.inl rfl, ⟨Or.inl rfl, ⟨Or.inl rfl, ⟨Or.inl rfl, ⟨Or.inl rfl, ⟨Or.inl rfl, ⟨Or.inl rfl, trivial⟩⟩⟩⟩⟩⟩⟩⟩⟩⟩ ?_
  refine L6 ((Xn K - (0)).toNat + 1) (0) (0) (Nat.lt_succ_self _) ?_ ?_ ?_
  · omega
  · omega
  · rfl

set_option maxRecDepth 20000 in
set_option maxHeartbeats 4000000 in
theorem c_M_counts1 (S : mm_S) (c : Int) (hc : 0 ≤ c ∧ c < 5) (K : CX) (h : MR S c K) (w : Int) (hw : w = 0 ∨ w = 1) (hV : Vx K) (p : Int) (hp : Xpr p) (ht : ∀ z, 0 ≤ z → z < Xn K → S 81 z = Fw K w p z) (hx : ∀ z y, 0 ≤ z → z < Xn K → 0 ≤ y → y < Xn K → S 80 (12 * z + y) = Fr K w p z y) (ho : ∀ k, 0 ≤ k → k < Xn K → S 82 k = od K w k) (r l d : Int) : Cl 79 [(2, 71), (0, c), (0, w), (0, r), (0, l), (0, d), (0, 1)] S (fun v S' => v = some (0, sm (tcF K w p r l d 1) (Xn K)) ∧ S = S') := by
  refine ⟨Nat.le_of_ble_eq_true rfl, ?_⟩
  show Rn k_M_counts 0 [(2, 71), (0, c), (0, w), (0, r), (0, l), (0, d), (0, 1), (9, 0), (9, 0), (9, 0)] [] S _
  have hnr := h.1.nr
  have hn := h.n
  have hR := hV.2.1
  refine R_op (nx := 1) rfl rfl rfl ?_
  refine R_lo (nx := 3) (ls' := [(2, 71), (0, c), (0, w), (0, r), (0, l), (0, d), (0, 1), (0, 0), (9, 0), (9, 0)]) rfl rfl rfl rfl ?_
  refine R_op (nx := 4) rfl rfl rfl ?_
  refine R_lo (nx := 6) (ls' := [(2, 71), (0, c), (0, w), (0, r), (0, l), (0, d), (0, 1), (0, 0), (0, 0), (9, 0)]) rfl rfl rfl rfl ?_
  have L6 : ∀ (f6 : Nat) (acc : Int) (i : Int), (Xn K - i).toNat < f6 → (0 ≤ i ∧ i ≤ Xn K) → (0 ≤ acc ∧ acc ≤ i) → (acc = sm (tcF K w p r l d 1) i) → Rn k_M_counts 6 [(2, 71), (0, c), (0, w), (0, r), (0, l), (0, d), (0, 1), (0, acc), (0, i), (9, 0)] [] S (fun v S' => v = some (0, sm (tcF K w p r l d 1) (Xn K)) ∧ S = S') := by
    intro f6
    induction f6 with
    | zero => intro acc i hm6; exact absurd hm6 (Nat.not_lt_zero _)
    | succ f6 ih6 =>
      intro acc i hm6 hi hb hq
      have hfw := Fw_r hp hV hw i
      have hfl := Fl_r (w := w) (p := p) hV i
      have qn := @Fw_nl K w p i
      refine R_lo (nx := 8) rfl rfl rfl rfl ?_
      refine R_lo (nx := 9) rfl rfl rfl rfl ?_
      refine R_get (nx := 12) (w := (2, 72)) rfl rfl rfl rfl ?_
      refine R_lo (nx := 13) rfl rfl rfl rfl ?_
      refine R_iald (nx := 14) rfl rfl (mm_el_ok 1 5 (by decide) rfl (by decide) (by omega) (by omega)) ?_
      rw [hn]
      refine R_icmp (nx := 17) (tg := 156) rfl rfl rfl (mm_cnd_ge _ _) (fun c14 => ?_) (fun c14 => ?_)
      ·
        refine R_lo (nx := 158) rfl rfl rfl rfl ?_
        refine R_ret rfl (fun _ _ => rfl) rfl rfl ?_
        exact ⟨by rw [hq, show i = Xn K by omega], rfl⟩
      ·
        refine R_lo (nx := 18) rfl rfl rfl rfl ?_
        refine R_lo (nx := 19) rfl rfl rfl rfl ?_
        refine R_lo (nx := 20) rfl rfl rfl rfl ?_
        refine R_lo (nx := 22) rfl rfl rfl rfl ?_
        refine R_call1 (nx := 25) (as := [(2, 71), (0, c), (0, w), (0, i)]) (rest := []) rfl rfl (fun _ _ => rfl) rfl rfl rfl rfl rfl rfl rfl rfl (Cl.mono (c_M_level S c (by omega) K (show MRr S c K by first | assumption | exact MR.r (by assumption) | exact MRr.up (by assumption) (by omega) | exact MRr.up (MR.r (by assumption)) (by omega) | exact MRr.up (MRr.up (MR.r (by assumption)) (by omega)) (by omega)) w i (by omega) (by omega)) ?_)
        rintro _ _ ⟨rfl, rfl⟩
        refine ⟨_, rfl, ?_⟩
        refine R_lo (nx := 27) rfl rfl rfl rfl ?_
        refine R_icmp (nx := 30) (tg := 46) rfl rfl rfl (mm_cnd_ne _ _) (fun c27 => ?_) (fun c27 => ?_)
        ·
          refine R_op (nx := 47) rfl rfl rfl ?_
          refine R_lo (nx := 49) (ls' := [(2, 71), (0, c), (0, w), (0, r), (0, l), (0, d), (0, 1), (0, acc), (0, i), (0, 0)]) rfl rfl rfl rfl ?_
          refine R_lo (nx := 51) rfl rfl rfl rfl ?_
          refine R_ifF (nx := 54) rfl rfl rfl ?_
          refine R_lo (nx := 56) rfl rfl rfl rfl ?_
          refine R_ifT (tg := 95) rfl rfl rfl ?_
          refine R_op (nx := 96) rfl rfl rfl ?_
          refine R_lo (nx := 98) (ls' := [(2, 71), (0, c), (0, w), (0, r), (0, l), (0, d), (0, 1), (0, acc), (0, i), (0, 0)]) rfl rfl rfl rfl ?_
          refine R_op (nx := 101) (pc' := 135) rfl rfl rfl ?_
          refine R_lo (nx := 137) rfl rfl rfl rfl ?_
          refine R_lo (nx := 139) rfl rfl rfl rfl ?_
          refine R_ifT (tg := 146) rfl rfl rfl ?_
          refine R_op (nx := 147) rfl rfl rfl ?_
          refine R_iadd (nx := 148) (z := (acc + 0)) rfl rfl rfl ⟨by omega, by omega⟩ ?_
          refine R_lo (nx := 150) (ls' := [(2, 71), (0, c), (0, w), (0, r), (0, l), (0, d), (0, 1), (0, (acc + 0)), (0, i), (0, 0)]) rfl rfl rfl rfl ?_
          refine R_iinc (nx := 153) (z := (i + 1)) (ls' := [(2, 71), (0, c), (0, w), (0, r), (0, l), (0, d), (0, 1), (0, (acc + 0)), (0, (i + 1)), (0, 0)]) rfl rfl rfl rfl ⟨by omega, by omega⟩ rfl ?_
          refine R_op (nx := 156) (pc' := 6) rfl rfl rfl ?_
          refine Rn.weak (ls' := [(2, 71), (0, c), (0, w), (0, r), (0, l), (0, d), (0, 1), (0, (acc + 0)), (0, (i + 1)), (9, 0)]) ⟨Or.inl rfl, ⟨Or.inl rfl, ⟨Or.inl rfl, ⟨Or.inl rfl, ⟨Or.inl rfl, ⟨Or.inl rfl, ⟨Or.inl rfl, ⟨Or.inl rfl, ⟨Or.inl rfl, ⟨Or.inr rfl, trivial⟩⟩⟩⟩⟩⟩⟩⟩⟩⟩ ?_
          refine ih6 ((acc + 0)) ((i + 1)) ?_ ?_ ?_ ?_
          · omega
          · omega
          · omega
          · rw [sm_s _ hi.1, ← hq]
            first | rw [tcF_1 (by omega)] | rw [tcF_1n (by omega)]
        ·
          replace c27 := Classical.not_not.mp c27
          refine R_lo (nx := 31) rfl rfl rfl rfl ?_
          refine R_lo (nx := 32) rfl rfl rfl rfl ?_
          refine R_lo (nx := 34) rfl rfl rfl rfl ?_
          refine R_call1 (nx := 37) (as := [(2, 71), (0, c), (0, i)]) (rest := []) rfl rfl (fun _ _ => rfl) rfl rfl rfl rfl rfl rfl rfl rfl (Cl.mono (c_M_degree S c (by omega) K (show MRr S c K by first | assumption | exact MR.r (by assumption) | exact MRr.up (by assumption) (by omega) | exact MRr.up (MR.r (by assumption)) (by omega) | exact MRr.up (MRr.up (MR.r (by assumption)) (by omega)) (by omega)) i (by omega)) ?_)
          rintro _ _ ⟨rfl, rfl⟩
          refine ⟨_, rfl, ?_⟩
          refine R_lo (nx := 39) rfl rfl rfl rfl ?_
          refine R_icmp (nx := 42) (tg := 46) rfl rfl rfl (mm_cnd_ne _ _) (fun c39 => ?_) (fun c39 => ?_)
          ·
            refine R_op (nx := 47) rfl rfl rfl ?_
            refine R_lo (nx := 49) (ls' := [(2, 71), (0, c), (0, w), (0, r), (0, l), (0, d), (0, 1), (0, acc), (0, i), (0, 0)]) rfl rfl rfl rfl ?_
            refine R_lo (nx := 51) rfl rfl rfl rfl ?_
            refine R_ifF (nx := 54) rfl rfl rfl ?_
            refine R_lo (nx := 56) rfl rfl rfl rfl ?_
            refine R_ifT (tg := 95) rfl rfl rfl ?_
            refine R_op (nx := 96) rfl rfl rfl ?_
            refine R_lo (nx := 98) (ls' := [(2, 71), (0, c), (0, w), (0, r), (0, l), (0, d), (0, 1), (0, acc), (0, i), (0, 0)]) rfl rfl rfl rfl ?_
            refine R_op (nx := 101) (pc' := 135) rfl rfl rfl ?_
            refine R_lo (nx := 137) rfl rfl rfl rfl ?_
            refine R_lo (nx := 139) rfl rfl rfl rfl ?_
            refine R_ifT (tg := 146) rfl rfl rfl ?_
            refine R_op (nx := 147) rfl rfl rfl ?_
            refine R_iadd (nx := 148) (z := (acc + 0)) rfl rfl rfl ⟨by omega, by omega⟩ ?_
            refine R_lo (nx := 150) (ls' := [(2, 71), (0, c), (0, w), (0, r), (0, l), (0, d), (0, 1), (0, (acc + 0)), (0, i), (0, 0)]) rfl rfl rfl rfl ?_
            refine R_iinc (nx := 153) (z := (i + 1)) (ls' := [(2, 71), (0, c), (0, w), (0, r), (0, l), (0, d), (0, 1), (0, (acc + 0)), (0, (i + 1)), (0, 0)]) rfl rfl rfl rfl ⟨by omega, by omega⟩ rfl ?_
            refine R_op (nx := 156) (pc' := 6) rfl rfl rfl ?_
            refine Rn.weak (ls' := [(2, 71), (0, c), (0, w), (0, r), (0, l), (0, d), (0, 1), (0, (acc + 0)), (0, (i + 1)), (9, 0)]) ⟨Or.inl rfl, ⟨Or.inl rfl, ⟨Or.inl rfl, ⟨Or.inl rfl, ⟨Or.inl rfl, ⟨Or.inl rfl, ⟨Or.inl rfl, ⟨Or.inl rfl, ⟨Or.inl rfl, ⟨Or.inr rfl, trivial⟩⟩⟩⟩⟩⟩⟩⟩⟩⟩ ?_
            refine ih6 ((acc + 0)) ((i + 1)) ?_ ?_ ?_ ?_
            · omega
            · omega
            · omega
            · rw [sm_s _ hi.1, ← hq]
              first | rw [tcF_1 (by omega)] | rw [tcF_1n (by omega)]
          ·
            replace c39 := Classical.not_not.mp c39
            refine R_op (nx := 43) rfl rfl rfl ?_
            refine R_op (nx := 46) (pc' := 47) rfl rfl rfl ?_
            refine R_lo (nx := 49) (ls' := [(2, 71), (0, c), (0, w), (0, r), (0, l), (0, d), (0, 1), (0, acc), (0, i), (0, 1)]) rfl rfl rfl rfl ?_
            refine R_lo (nx := 51) rfl rfl rfl rfl ?_
            refine R_ifF (nx := 54) rfl rfl rfl ?_
            refine R_lo (nx := 56) rfl rfl rfl rfl ?_
            refine R_ifF (nx := 59) rfl rfl rfl ?_
            refine R_lo (nx := 60) rfl rfl rfl rfl ?_
            refine R_get (nx := 63) (w := (2, 81)) rfl rfl rfl rfl ?_
            refine R_lo (nx := 65) rfl rfl rfl rfl ?_
            refine R_iald (nx := 66) rfl rfl (mm_el_ok 1 12 (by decide) rfl (by decide) (by omega) (by omega)) ?_
            rw [show (S 81 i) = (Fw K w p i) from ht i (by omega) (by omega)]
            refine R_if (nx := 69) (tg := 95) rfl rfl rfl (mm_cnd_lt _ _) (fun c66 => ?_) (fun c66 => ?_)
            ·
              refine R_op (nx := 96) rfl rfl rfl ?_
              refine R_lo (nx := 98) (ls' := [(2, 71), (0, c), (0, w), (0, r), (0, l), (0, d), (0, 1), (0, acc), (0, i), (0, 0)]) rfl rfl rfl rfl ?_
              refine R_op (nx := 101) (pc' := 135) rfl rfl rfl ?_
              refine R_lo (nx := 137) rfl rfl rfl rfl ?_
              refine R_lo (nx := 139) rfl rfl rfl rfl ?_
              refine R_ifT (tg := 146) rfl rfl rfl ?_
              refine R_op (nx := 147) rfl rfl rfl ?_
              refine R_iadd (nx := 148) (z := (acc + 0)) rfl rfl rfl ⟨by omega, by omega⟩ ?_
              refine R_lo (nx := 150) (ls' := [(2, 71), (0, c), (0, w), (0, r), (0, l), (0, d), (0, 1), (0, (acc + 0)), (0, i), (0, 0)]) rfl rfl rfl rfl ?_
              refine R_iinc (nx := 153) (z := (i + 1)) (ls' := [(2, 71), (0, c), (0, w), (0, r), (0, l), (0, d), (0, 1), (0, (acc + 0)), (0, (i + 1)), (0, 0)]) rfl rfl rfl rfl ⟨by omega, by omega⟩ rfl ?_
              refine R_op (nx := 156) (pc' := 6) rfl rfl rfl ?_
              refine Rn.weak (ls' := [(2, 71), (0, c), (0, w), (0, r), (0, l), (0, d), (0, 1), (0, (acc + 0)), (0, (i + 1)), (9, 0)]) ⟨Or.inl rfl, ⟨Or.inl rfl, ⟨Or.inl rfl, ⟨Or.inl rfl, ⟨Or.inl rfl, ⟨Or.inl rfl, ⟨Or.inl rfl, ⟨Or.inl rfl, ⟨Or.inl rfl, ⟨Or.inr rfl, trivial⟩⟩⟩⟩⟩⟩⟩⟩⟩⟩ ?_
              refine ih6 ((acc + 0)) ((i + 1)) ?_ ?_ ?_ ?_
              · omega
              · omega
              · omega
              · rw [sm_s _ hi.1, ← hq]
                first | rw [tcF_1 (by omega)] | rw [tcF_1n (by omega)]
            ·
              refine R_lo (nx := 70) rfl rfl rfl rfl ?_
              refine R_lo (nx := 71) rfl rfl rfl rfl ?_
              refine R_lo (nx := 73) rfl rfl rfl rfl ?_
              refine R_call1 (nx := 76) (as := [(2, 71), (0, c), (0, i)]) (rest := []) rfl rfl (fun _ _ => rfl) rfl rfl rfl rfl rfl rfl rfl rfl (Cl.mono (c_M_lastOf S c (by omega) K (show MR S c K by first | assumption | exact MR.up (by assumption) (by omega) | exact MR.up (MR.up (by assumption) (by omega)) (by omega) | exact MR.up (MR.up (MR.up (by assumption) (by omega)) (by omega)) (by omega)) w (by first | assumption | exact Or.inl rfl) i (by omega) (by assumption)) ?_)
              rintro _ _ ⟨rfl, rfl⟩
              refine ⟨_, rfl, ?_⟩
              rw [show (la K w (fun y => S 80 (12 * i + y))) = (Fl K w p i) from la_cg hnr.1 fun y y0 y1 => hx i y (by omega) (by omega) y0 y1]
              refine R_if (nx := 79) (tg := 95) rfl rfl rfl (mm_cnd_lt _ _) (fun c76 => ?_) (fun c76 => ?_)
              ·
                refine R_op (nx := 96) rfl rfl rfl ?_
                refine R_lo (nx := 98) (ls' := [(2, 71), (0, c), (0, w), (0, r), (0, l), (0, d), (0, 1), (0, acc), (0, i), (0, 0)]) rfl rfl rfl rfl ?_
                refine R_op (nx := 101) (pc' := 135) rfl rfl rfl ?_
                refine R_lo (nx := 137) rfl rfl rfl rfl ?_
                refine R_lo (nx := 139) rfl rfl rfl rfl ?_
                refine R_ifT (tg := 146) rfl rfl rfl ?_
                refine R_op (nx := 147) rfl rfl rfl ?_
                refine R_iadd (nx := 148) (z := (acc + 0)) rfl rfl rfl ⟨by omega, by omega⟩ ?_
                refine R_lo (nx := 150) (ls' := [(2, 71), (0, c), (0, w), (0, r), (0, l), (0, d), (0, 1), (0, (acc + 0)), (0, i), (0, 0)]) rfl rfl rfl rfl ?_
                refine R_iinc (nx := 153) (z := (i + 1)) (ls' := [(2, 71), (0, c), (0, w), (0, r), (0, l), (0, d), (0, 1), (0, (acc + 0)), (0, (i + 1)), (0, 0)]) rfl rfl rfl rfl ⟨by omega, by omega⟩ rfl ?_
                refine R_op (nx := 156) (pc' := 6) rfl rfl rfl ?_
                refine Rn.weak (ls' := [(2, 71), (0, c), (0, w), (0, r), (0, l), (0, d), (0, 1), (0, (acc + 0)), (0, (i + 1)), (9, 0)]) ⟨Or.inl rfl, ⟨Or.inl rfl, ⟨Or.inl rfl, ⟨Or.inl rfl, ⟨Or.inl rfl, ⟨Or.inl rfl, ⟨Or.inl rfl, ⟨Or.inl rfl, ⟨Or.inl rfl, ⟨Or.inr rfl, trivial⟩⟩⟩⟩⟩⟩⟩⟩⟩⟩ ?_
                refine ih6 ((acc + 0)) ((i + 1)) ?_ ?_ ?_ ?_
                · omega
                · omega
                · omega
                · rw [sm_s _ hi.1, ← hq]
                  first | rw [tcF_1 (by omega)] | rw [tcF_1n (by omega)]
              ·
                refine R_lo (nx := 80) rfl rfl rfl rfl ?_
                refine R_lo (nx := 81) rfl rfl rfl rfl ?_
                refine R_lo (nx := 82) rfl rfl rfl rfl ?_
                refine R_lo (nx := 84) rfl rfl rfl rfl ?_
                refine R_call1 (nx := 87) (as := [(2, 71), (0, c), (0, w), (0, i)]) (rest := []) rfl rfl (fun _ _ => rfl) rfl rfl rfl rfl rfl rfl rfl rfl (Cl.mono (c_M_gap S c (by omega) K (show MR S c K by first | assumption | exact MR.up (by assumption) (by omega) | exact MR.up (MR.up (by assumption) (by omega)) (by omega) | exact MR.up (MR.up (MR.up (by assumption) (by omega)) (by omega)) (by omega)) w (by assumption) (by assumption) p (by assumption) (by assumption) i (by omega) (by omega)) ?_)
                rintro _ _ ⟨rfl, rfl⟩
                refine ⟨_, rfl, ?_⟩
                refine R_lo (nx := 88) rfl rfl rfl rfl ?_
                refine R_icmp (nx := 91) (tg := 95) rfl rfl rfl (mm_cnd_ne _ _) (fun c88 => ?_) (fun c88 => ?_)
                ·
                  refine R_op (nx := 96) rfl rfl rfl ?_
                  refine R_lo (nx := 98) (ls' := [(2, 71), (0, c), (0, w), (0, r), (0, l), (0, d), (0, 1), (0, acc), (0, i), (0, 0)]) rfl rfl rfl rfl ?_
                  refine R_op (nx := 101) (pc' := 135) rfl rfl rfl ?_
                  refine R_lo (nx := 137) rfl rfl rfl rfl ?_
                  refine R_lo (nx := 139) rfl rfl rfl rfl ?_
                  refine R_ifT (tg := 146) rfl rfl rfl ?_
                  refine R_op (nx := 147) rfl rfl rfl ?_
                  refine R_iadd (nx := 148) (z := (acc + 0)) rfl rfl rfl ⟨by omega, by omega⟩ ?_
                  refine R_lo (nx := 150) (ls' := [(2, 71), (0, c), (0, w), (0, r), (0, l), (0, d), (0, 1), (0, (acc + 0)), (0, i), (0, 0)]) rfl rfl rfl rfl ?_
                  refine R_iinc (nx := 153) (z := (i + 1)) (ls' := [(2, 71), (0, c), (0, w), (0, r), (0, l), (0, d), (0, 1), (0, (acc + 0)), (0, (i + 1)), (0, 0)]) rfl rfl rfl rfl ⟨by omega, by omega⟩ rfl ?_
                  refine R_op (nx := 156) (pc' := 6) rfl rfl rfl ?_
                  refine Rn.weak (ls' := [(2, 71), (0, c), (0, w), (0, r), (0, l), (0, d), (0, 1), (0, (acc + 0)), (0, (i + 1)), (9, 0)]) ⟨Or.inl rfl, ⟨Or.inl rfl, ⟨Or.inl rfl, ⟨Or.inl rfl, ⟨Or.inl rfl, ⟨Or.inl rfl, ⟨Or.inl rfl, ⟨Or.inl rfl, ⟨Or.inl rfl, ⟨Or.inr rfl, trivial⟩⟩⟩⟩⟩⟩⟩⟩⟩⟩ ?_
                  refine ih6 ((acc + 0)) ((i + 1)) ?_ ?_ ?_ ?_
                  · omega
                  · omega
                  · omega
                  · rw [sm_s _ hi.1, ← hq]
                    first | rw [tcF_1 (by omega)] | rw [tcF_1n (by omega)]
                ·
                  replace c88 := Classical.not_not.mp c88
                  refine R_op (nx := 92) rfl rfl rfl ?_
                  refine R_op (nx := 95) (pc' := 96) rfl rfl rfl ?_
                  refine R_lo (nx := 98) (ls' := [(2, 71), (0, c), (0, w), (0, r), (0, l), (0, d), (0, 1), (0, acc), (0, i), (0, 1)]) rfl rfl rfl rfl ?_
                  refine R_op (nx := 101) (pc' := 135) rfl rfl rfl ?_
                  refine R_lo (nx := 137) rfl rfl rfl rfl ?_
                  refine R_lo (nx := 139) rfl rfl rfl rfl ?_
                  refine R_ifF (nx := 142) rfl rfl rfl ?_
                  refine R_op (nx := 143) rfl rfl rfl ?_
                  refine R_op (nx := 146) (pc' := 147) rfl rfl rfl ?_
                  refine R_iadd (nx := 148) (z := (acc + 1)) rfl rfl rfl ⟨by omega, by omega⟩ ?_
                  refine R_lo (nx := 150) (ls' := [(2, 71), (0, c), (0, w), (0, r), (0, l), (0, d), (0, 1), (0, (acc + 1)), (0, i), (0, 1)]) rfl rfl rfl rfl ?_
                  refine R_iinc (nx := 153) (z := (i + 1)) (ls' := [(2, 71), (0, c), (0, w), (0, r), (0, l), (0, d), (0, 1), (0, (acc + 1)), (0, (i + 1)), (0, 1)]) rfl rfl rfl rfl ⟨by omega, by omega⟩ rfl ?_
                  refine R_op (nx := 156) (pc' := 6) rfl rfl rfl ?_
                  refine Rn.weak (ls' := [(2, 71), (0, c), (0, w), (0, r), (0, l), (0, d), (0, 1), (0, (acc + 1)), (0, (i + 1)), (9, 0)]) ⟨Or.inl rfl, ⟨Or.inl rfl, ⟨Or.inl rfl, ⟨Or.inl rfl, ⟨Or.inl rfl, ⟨Or.inl rfl, ⟨Or.inl rfl, ⟨Or.inl rfl, ⟨Or.inl rfl, ⟨Or.inr rfl, trivial⟩⟩⟩⟩⟩⟩⟩⟩⟩⟩ ?_
                  refine ih6 ((acc + 1)) ((i + 1)) ?_ ?_ ?_ ?_
                  · omega
                  · omega
                  · omega
                  · rw [sm_s _ hi.1, ← hq]
                    first | rw [tcF_1 (by omega)] | rw [tcF_1n (by omega)]
  refine Rn.weak (ls' := [(2, 71), (0, c), (0, w), (0, r), (0, l), (0, d), (0, 1), (0, 0), (0, 0), (9, 0)]) ⟨Or.inl rfl, ⟨Or.inl rfl, ⟨Or.inl rfl, ⟨Or.inl rfl, ⟨Or.inl rfl, ⟨Or.inl rfl, ⟨Or.inl rfl, ⟨Or.inl rfl, ⟨Or.inl rfl, ⟨Or.inl rfl, trivial⟩⟩⟩⟩⟩⟩⟩⟩⟩⟩ ?_
  refine L6 ((Xn K - (0)).toNat + 1) (0) (0) (Nat.lt_succ_self _) ?_ ?_ ?_
  · omega
  · omega
  · rfl

set_option maxRecDepth 20000 in
set_option maxHeartbeats 4000000 in
theorem c_M_told0 (S : mm_S) (A : mm_A) (hRR : RR S A) (hV : Vs A) (c w p r l d : Int) : Cl 80 [(2, 71), (0, c), (0, w), (0, p), (0, r), (0, l), (0, d), (0, 0)] S (fun vv S' => vv = some (0, (Q_told A c w p r l d 0).1) ∧ RR S' (Q_told A c w p r l d 0).2 ∧ ∀ b, ¬ (71 ≤ b ∧ b < 91) → S' b = S b) := by
  refine ⟨Nat.le_of_ble_eq_true rfl, ?_⟩
  show Rn k_M_told 0 [(2, 71), (0, c), (0, w), (0, p), (0, r), (0, l), (0, d), (0, 0)] [] S _
  refine R_lo (nx := 1) rfl rfl rfl rfl ?_
  refine R_call1 (nx := 4) (as := [(0, c)]) (rest := []) rfl rfl (fun _ _ => rfl) rfl rfl rfl rfl rfl rfl rfl rfl (Cl.mono (c_M_isComplex S c) ?_)
  rintro _ _ (⟨rfl, b1, rfl⟩ | ⟨rfl, b1, rfl⟩)
  ·
    try have k1 := hRR.k b1.1 b1.2
    try have n1 := k1.n
    try have z1 := k1.1.nr
    try have v1 := hV.1 _ b1.1 b1.2
    try have r1 := v1.2.1
    refine ⟨_, rfl, ?_⟩
    refine R_ifF (nx := 7) rfl rfl rfl ?_
    refine R_lo (nx := 8) rfl rfl rfl rfl ?_
    refine R_lo (nx := 9) rfl rfl rfl rfl ?_
    refine R_call1 (nx := 12) (as := [(0, w), (0, p)]) (rest := []) rfl rfl (fun _ _ => rfl) rfl rfl rfl rfl rfl rfl rfl rfl (Cl.mono (c_M_isAsked S w p) ?_)
    rintro _ _ (⟨rfl, b9, rfl⟩ | ⟨rfl, b9, rfl⟩)
    ·
      have e9 : w = 0 ∨ w = 1 := b9.1
      have e309 : Xpr p := b9.2
      refine ⟨_, rfl, ?_⟩
      refine R_ifF (nx := 15) rfl rfl rfl ?_
      refine R_lo (nx := 17) rfl rfl rfl rfl ?_
      refine R_op (nx := 18) rfl rfl rfl ?_
      refine R_op (nx := 20) rfl rfl rfl ?_
      refine R_call1 (nx := 23) (as := [(0, r), (0, 0), (0, 10)]) (rest := []) rfl rfl (fun _ _ => rfl) rfl rfl rfl rfl rfl rfl rfl rfl (Cl.mono (c_M_in S r 0 10) ?_)
      rintro _ _ (⟨rfl, b20, rfl⟩ | ⟨rfl, b20, rfl⟩)
      ·
        refine ⟨_, rfl, ?_⟩
        refine R_ifF (nx := 26) rfl rfl rfl ?_
        refine R_lo (nx := 28) rfl rfl rfl rfl ?_
        refine R_op (nx := 29) rfl rfl rfl ?_
        refine R_op (nx := 31) rfl rfl rfl ?_
        refine R_call1 (nx := 34) (as := [(0, l), (0, 0), (0, 9)]) (rest := []) rfl rfl (fun _ _ => rfl) rfl rfl rfl rfl rfl rfl rfl rfl (Cl.mono (c_M_in S l 0 9) ?_)
        rintro _ _ (⟨rfl, b31, rfl⟩ | ⟨rfl, b31, rfl⟩)
        ·
          refine ⟨_, rfl, ?_⟩
          refine R_ifF (nx := 37) rfl rfl rfl ?_
          refine R_lo (nx := 39) rfl rfl rfl rfl ?_
          refine R_op (nx := 40) rfl rfl rfl ?_
          refine R_op (nx := 41) rfl rfl rfl ?_
          refine R_call1 (nx := 44) (as := [(0, d), (0, 0), (0, 4)]) (rest := []) rfl rfl (fun _ _ => rfl) rfl rfl rfl rfl rfl rfl rfl rfl (Cl.mono (c_M_in S d 0 4) ?_)
          rintro _ _ (⟨rfl, b41, rfl⟩ | ⟨rfl, b41, rfl⟩)
          ·
            refine ⟨_, rfl, ?_⟩
            refine R_ifT (tg := 49) rfl rfl rfl ?_
            refine R_lo (nx := 50) rfl rfl rfl rfl ?_
            refine R_lo (nx := 51) rfl rfl rfl rfl ?_
            refine R_call1 (nx := 54) (as := [(2, 71), (0, c)]) (rest := []) rfl rfl (fun _ _ => rfl) rfl rfl rfl rfl rfl rfl rfl rfl (Cl.mono (c_M_brokenAt S c (by omega) (AK A c) (show MR S c (AK A c) by first | assumption | exact MR.up (by assumption) (by omega) | exact MR.up (MR.up (by assumption) (by omega)) (by omega) | exact MR.up (MR.up (MR.up (by assumption) (by omega)) (by omega)) (by omega)) (by assumption)) ?_)
            rintro _ _ ⟨rfl, rfl⟩
            refine ⟨_, rfl, ?_⟩
            refine R_if (nx := 57) (tg := 60) rfl rfl rfl (mm_cnd_eq _ _) (fun c54 => ?_) (fun c54 => ?_)
            ·
              have e54 : Xfb (AK A c) = 0 := c54
              refine R_lo (nx := 61) rfl rfl rfl rfl ?_
              refine R_lo (nx := 62) rfl rfl rfl rfl ?_
              refine R_lo (nx := 63) rfl rfl rfl rfl ?_
              refine R_lo (nx := 64) rfl rfl rfl rfl ?_
              refine R_call0 (nx := 67) (as := [(2, 71), (0, c), (0, w), (0, p)]) (rest := []) rfl rfl (fun _ _ => rfl) rfl rfl rfl rfl rfl rfl rfl rfl (Cl.mono (c_M_reduces S c (by omega) (AK A c) (show MR S c (AK A c) by first | assumption | exact MR.up (by assumption) (by omega) | exact MR.up (MR.up (by assumption) (by omega)) (by omega) | exact MR.up (MR.up (MR.up (by assumption) (by omega)) (by omega)) (by omega)) w b9.1 v1 e54 p b9.2) ?_)
              rintro _ S64 ⟨rfl, x64, t64, o64, f64⟩
              have mmS64 : MR S64 c (AK A c) := MR.fr (show MR S c (AK A c) by first | assumption | exact MR.up (by assumption) (by omega) | exact MR.up (MR.up (by assumption) (by omega)) (by omega) | exact MR.up (MR.up (MR.up (by assumption) (by omega)) (by omega)) (by omega)) fun e q r => f64 e (by omega)
              have nnS64 := mmS64.n
              refine ⟨rfl, ?_⟩
              refine R_lo (nx := 68) rfl rfl rfl rfl ?_
              refine R_lo (nx := 69) rfl rfl rfl rfl ?_
              refine R_lo (nx := 70) rfl rfl rfl rfl ?_
              refine R_lo (nx := 72) rfl rfl rfl rfl ?_
              refine R_lo (nx := 74) rfl rfl rfl rfl ?_
              refine R_lo (nx := 76) rfl rfl rfl rfl ?_
              refine R_lo (nx := 78) rfl rfl rfl rfl ?_
              refine R_call1 (nx := 81) (as := [(2, 71), (0, c), (0, w), (0, r), (0, l), (0, d), (0, 0)]) (rest := []) rfl rfl (fun _ _ => rfl) rfl rfl rfl rfl rfl rfl rfl rfl (Cl.mono (c_M_counts0 S64 c (by omega) (AK A c) mmS64 w b9.1 v1 p b9.2 t64 x64 o64 r l d) ?_)
              rintro _ _ ⟨rfl, rfl⟩
              refine ⟨_, rfl, ?_⟩
              refine R_ret rfl (fun _ _ => rfl) rfl rfl ?_
              rw [show Q_told A c w p r l d 0 = ((sm (tcF (AK A c) w p r l d 0) (Xn (AK A c))), A) from by first | (simp only [Q_told, b1, b9, e9, e309, b20, b31, b41, c54, e54, ifo, ifm, ifp, iffq, ↓reduceIte, ite_self, and_self, and_true, true_and, and_false, false_and, or_true, true_or, or_false, false_or, or_self, not_true_eq_false, not_false_eq_true, ne_eq]; done) | (unfold Q_told ifp; by_cases q0 : 0 ≤ c ∧ c < 4; rw [if_pos q0]; by_cases q1 : w = 0 ∨ w = 1; rw [if_pos q1]; by_cases q2 : Xpr p; rw [if_pos q2]; by_cases q3 : 0 ≤ r ∧ r ≤ 10; rw [if_pos q3]; by_cases q4 : 0 ≤ l ∧ l ≤ 9; rw [if_pos q4]; by_cases q5 : 0 ≤ d ∧ d ≤ 4; rw [if_pos q5]; (first | exact absurd q0 b1 | exact absurd ⟨q1, q2⟩ b9 | exact absurd q3 b20 | exact absurd q4 b31 | exact absurd q5 b41); rw [if_neg q5]; rw [if_neg q4]; rw [if_neg q3]; rw [if_neg q2]; rw [if_neg q1]; rw [if_neg q0])]; exact ⟨rfl, hRR.fr (R71.of (f64 71 (by omega))) fun b hb => f64 b (by omega), fun b hb => f64 b (by omega)⟩
            ·
              have e54 : ¬ Xfb (AK A c) = 0 := c54
              refine R_op (nx := 59) rfl rfl rfl ?_
              refine R_ret rfl (fun _ _ => rfl) rfl rfl ?_
              rw [show Q_told A c w p r l d 0 = ((-4), A) from by first | (simp only [Q_told, b1, b9, e9, e309, b20, b31, b41, c54, e54, ifo, ifm, ifp, iffq, ↓reduceIte, ite_self, and_self, and_true, true_and, and_false, false_and, or_true, true_or, or_false, false_or, or_self, not_true_eq_false, not_false_eq_true, ne_eq]; done) | (unfold Q_told ifp; by_cases q0 : 0 ≤ c ∧ c < 4; rw [if_pos q0]; by_cases q1 : w = 0 ∨ w = 1; rw [if_pos q1]; by_cases q2 : Xpr p; rw [if_pos q2]; by_cases q3 : 0 ≤ r ∧ r ≤ 10; rw [if_pos q3]; by_cases q4 : 0 ≤ l ∧ l ≤ 9; rw [if_pos q4]; by_cases q5 : 0 ≤ d ∧ d ≤ 4; rw [if_pos q5]; (first | exact absurd q0 b1 | exact absurd ⟨q1, q2⟩ b9 | exact absurd q3 b20 | exact absurd q4 b31 | exact absurd q5 b41); rw [if_neg q5]; rw [if_neg q4]; rw [if_neg q3]; rw [if_neg q2]; rw [if_neg q1]; rw [if_neg q0])]; exact ⟨rfl, hRR, fun b _ => rfl⟩
          ·
            refine ⟨_, rfl, ?_⟩
            refine R_ifF (nx := 47) rfl rfl rfl ?_
            refine R_op (nx := 48) rfl rfl rfl ?_
            refine R_ret rfl (fun _ _ => rfl) rfl rfl ?_
            rw [show Q_told A c w p r l d 0 = ((-1), A) from by first | (simp only [Q_told, b1, b9, e9, e309, b20, b31, b41, ifo, ifm, ifp, iffq, ↓reduceIte, ite_self, and_self, and_true, true_and, and_false, false_and, or_true, true_or, or_false, false_or, or_self, not_true_eq_false, not_false_eq_true, ne_eq]; done) | (unfold Q_told ifp; by_cases q0 : 0 ≤ c ∧ c < 4; rw [if_pos q0]; by_cases q1 : w = 0 ∨ w = 1; rw [if_pos q1]; by_cases q2 : Xpr p; rw [if_pos q2]; by_cases q3 : 0 ≤ r ∧ r ≤ 10; rw [if_pos q3]; by_cases q4 : 0 ≤ l ∧ l ≤ 9; rw [if_pos q4]; by_cases q5 : 0 ≤ d ∧ d ≤ 4; rw [if_pos q5]; (first | exact absurd q0 b1 | exact absurd ⟨q1, q2⟩ b9 | exact absurd q3 b20 | exact absurd q4 b31 | exact absurd q5 b41); rw [if_neg q5]; rw [if_neg q4]; rw [if_neg q3]; rw [if_neg q2]; rw [if_neg q1]; rw [if_neg q0])]; exact ⟨rfl, hRR, fun b _ => rfl⟩
        ·
          refine ⟨_, rfl, ?_⟩
          refine R_ifT (tg := 47) rfl rfl rfl ?_
          refine R_op (nx := 48) rfl rfl rfl ?_
          refine R_ret rfl (fun _ _ => rfl) rfl rfl ?_
          rw [show Q_told A c w p r l d 0 = ((-1), A) from by first | (simp only [Q_told, b1, b9, e9, e309, b20, b31, ifo, ifm, ifp, iffq, ↓reduceIte, ite_self, and_self, and_true, true_and, and_false, false_and, or_true, true_or, or_false, false_or, or_self, not_true_eq_false, not_false_eq_true, ne_eq]; done) | (unfold Q_told ifp; by_cases q0 : 0 ≤ c ∧ c < 4; rw [if_pos q0]; by_cases q1 : w = 0 ∨ w = 1; rw [if_pos q1]; by_cases q2 : Xpr p; rw [if_pos q2]; by_cases q3 : 0 ≤ r ∧ r ≤ 10; rw [if_pos q3]; by_cases q4 : 0 ≤ l ∧ l ≤ 9; rw [if_pos q4]; by_cases q5 : 0 ≤ d ∧ d ≤ 4; rw [if_pos q5]; (first | exact absurd q0 b1 | exact absurd ⟨q1, q2⟩ b9 | exact absurd q3 b20 | exact absurd q4 b31 | exact absurd q5 b41); rw [if_neg q5]; rw [if_neg q4]; rw [if_neg q3]; rw [if_neg q2]; rw [if_neg q1]; rw [if_neg q0])]; exact ⟨rfl, hRR, fun b _ => rfl⟩
      ·
        refine ⟨_, rfl, ?_⟩
        refine R_ifT (tg := 47) rfl rfl rfl ?_
        refine R_op (nx := 48) rfl rfl rfl ?_
        refine R_ret rfl (fun _ _ => rfl) rfl rfl ?_
        rw [show Q_told A c w p r l d 0 = ((-1), A) from by first | (simp only [Q_told, b1, b9, e9, e309, b20, ifo, ifm, ifp, iffq, ↓reduceIte, ite_self, and_self, and_true, true_and, and_false, false_and, or_true, true_or, or_false, false_or, or_self, not_true_eq_false, not_false_eq_true, ne_eq]; done) | (unfold Q_told ifp; by_cases q0 : 0 ≤ c ∧ c < 4; rw [if_pos q0]; by_cases q1 : w = 0 ∨ w = 1; rw [if_pos q1]; by_cases q2 : Xpr p; rw [if_pos q2]; by_cases q3 : 0 ≤ r ∧ r ≤ 10; rw [if_pos q3]; by_cases q4 : 0 ≤ l ∧ l ≤ 9; rw [if_pos q4]; by_cases q5 : 0 ≤ d ∧ d ≤ 4; rw [if_pos q5]; (first | exact absurd q0 b1 | exact absurd ⟨q1, q2⟩ b9 | exact absurd q3 b20 | exact absurd q4 b31 | exact absurd q5 b41); rw [if_neg q5]; rw [if_neg q4]; rw [if_neg q3]; rw [if_neg q2]; rw [if_neg q1]; rw [if_neg q0])]; exact ⟨rfl, hRR, fun b _ => rfl⟩
    ·
      refine ⟨_, rfl, ?_⟩
      refine R_ifT (tg := 47) rfl rfl rfl ?_
      refine R_op (nx := 48) rfl rfl rfl ?_
      refine R_ret rfl (fun _ _ => rfl) rfl rfl ?_
      rw [show Q_told A c w p r l d 0 = ((-1), A) from by first | (simp only [Q_told, b1, b9, ifo, ifm, ifp, iffq, ↓reduceIte, ite_self, and_self, and_true, true_and, and_false, false_and, or_true, true_or, or_false, false_or, or_self, not_true_eq_false, not_false_eq_true, ne_eq]; done) | (unfold Q_told ifp; by_cases q0 : 0 ≤ c ∧ c < 4; rw [if_pos q0]; by_cases q1 : w = 0 ∨ w = 1; rw [if_pos q1]; by_cases q2 : Xpr p; rw [if_pos q2]; by_cases q3 : 0 ≤ r ∧ r ≤ 10; rw [if_pos q3]; by_cases q4 : 0 ≤ l ∧ l ≤ 9; rw [if_pos q4]; by_cases q5 : 0 ≤ d ∧ d ≤ 4; rw [if_pos q5]; (first | exact absurd q0 b1 | exact absurd ⟨q1, q2⟩ b9 | exact absurd q3 b20 | exact absurd q4 b31 | exact absurd q5 b41); rw [if_neg q5]; rw [if_neg q4]; rw [if_neg q3]; rw [if_neg q2]; rw [if_neg q1]; rw [if_neg q0])]; exact ⟨rfl, hRR, fun b _ => rfl⟩
  ·
    try have k1 := hRR.k b1.1 b1.2
    try have n1 := k1.n
    try have z1 := k1.1.nr
    try have v1 := hV.1 _ b1.1 b1.2
    try have r1 := v1.2.1
    refine ⟨_, rfl, ?_⟩
    refine R_ifT (tg := 47) rfl rfl rfl ?_
    refine R_op (nx := 48) rfl rfl rfl ?_
    refine R_ret rfl (fun _ _ => rfl) rfl rfl ?_
    rw [show Q_told A c w p r l d 0 = ((-1), A) from by first | (simp only [Q_told, b1, ifo, ifm, ifp, iffq, ↓reduceIte, ite_self, and_self, and_true, true_and, and_false, false_and, or_true, true_or, or_false, false_or, or_self, not_true_eq_false, not_false_eq_true, ne_eq]; done) | (unfold Q_told ifp; by_cases q0 : 0 ≤ c ∧ c < 4; rw [if_pos q0]; by_cases q1 : w = 0 ∨ w = 1; rw [if_pos q1]; by_cases q2 : Xpr p; rw [if_pos q2]; by_cases q3 : 0 ≤ r ∧ r ≤ 10; rw [if_pos q3]; by_cases q4 : 0 ≤ l ∧ l ≤ 9; rw [if_pos q4]; by_cases q5 : 0 ≤ d ∧ d ≤ 4; rw [if_pos q5]; (first | exact absurd q0 b1 | exact absurd ⟨q1, q2⟩ b9 | exact absurd q3 b20 | exact absurd q4 b31 | exact absurd q5 b41); rw [if_neg q5]; rw [if_neg q4]; rw [if_neg q3]; rw [if_neg q2]; rw [if_neg q1]; rw [if_neg q0])]; exact ⟨rfl, hRR, fun b _ => rfl⟩

set_option maxRecDepth 20000 in
set_option maxHeartbeats 4000000 in
theorem c_M_told1 (S : mm_S) (A : mm_A) (hRR : RR S A) (hV : Vs A) (c w p r l d : Int) : Cl 80 [(2, 71), (0, c), (0, w), (0, p), (0, r), (0, l), (0, d), (0, 1)] S (fun vv S' => vv = some (0, (Q_told A c w p r l d 1).1) ∧ RR S' (Q_told A c w p r l d 1).2 ∧ ∀ b, ¬ (71 ≤ b ∧ b < 91) → S' b = S b) := by
  refine ⟨Nat.le_of_ble_eq_true rfl, ?_⟩
  show Rn k_M_told 0 [(2, 71), (0, c), (0, w), (0, p), (0, r), (0, l), (0, d), (0, 1)] [] S _
  refine R_lo (nx := 1) rfl rfl rfl rfl ?_
  refine R_call1 (nx := 4) (as := [(0, c)]) (rest := []) rfl rfl (fun _ _ => rfl) rfl rfl rfl rfl rfl rfl rfl rfl (Cl.mono (c_M_isComplex S c) ?_)
  rintro _ _ (⟨rfl, b1, rfl⟩ | ⟨rfl, b1, rfl⟩)
  ·
    try have k1 := hRR.k b1.1 b1.2
    try have n1 := k1.n
    try have z1 := k1.1.nr
    try have v1 := hV.1 _ b1.1 b1.2
    try have r1 := v1.2.1
    refine ⟨_, rfl, ?_⟩
    refine R_ifF (nx := 7) rfl rfl rfl ?_
    refine R_lo (nx := 8) rfl rfl rfl rfl ?_
    refine R_lo (nx := 9) rfl rfl rfl rfl ?_
    refine R_call1 (nx := 12) (as := [(0, w), (0, p)]) (rest := []) rfl rfl (fun _ _ => rfl) rfl rfl rfl rfl rfl rfl rfl rfl (Cl.mono (c_M_isAsked S w p) ?_)
    rintro _ _ (⟨rfl, b9, rfl⟩ | ⟨rfl, b9, rfl⟩)
    ·
      have e9 : w = 0 ∨ w = 1 := b9.1
      have e309 : Xpr p := b9.2
      refine ⟨_, rfl, ?_⟩
      refine R_ifF (nx := 15) rfl rfl rfl ?_
      refine R_lo (nx := 17) rfl rfl rfl rfl ?_
      refine R_op (nx := 18) rfl rfl rfl ?_
      refine R_op (nx := 20) rfl rfl rfl ?_
      refine R_call1 (nx := 23) (as := [(0, r), (0, 0), (0, 10)]) (rest := []) rfl rfl (fun _ _ => rfl) rfl rfl rfl rfl rfl rfl rfl rfl (Cl.mono (c_M_in S r 0 10) ?_)
      rintro _ _ (⟨rfl, b20, rfl⟩ | ⟨rfl, b20, rfl⟩)
      ·
        refine ⟨_, rfl, ?_⟩
        refine R_ifF (nx := 26) rfl rfl rfl ?_
        refine R_lo (nx := 28) rfl rfl rfl rfl ?_
        refine R_op (nx := 29) rfl rfl rfl ?_
        refine R_op (nx := 31) rfl rfl rfl ?_
        refine R_call1 (nx := 34) (as := [(0, l), (0, 0), (0, 9)]) (rest := []) rfl rfl (fun _ _ => rfl) rfl rfl rfl rfl rfl rfl rfl rfl (Cl.mono (c_M_in S l 0 9) ?_)
        rintro _ _ (⟨rfl, b31, rfl⟩ | ⟨rfl, b31, rfl⟩)
        ·
          refine ⟨_, rfl, ?_⟩
          refine R_ifF (nx := 37) rfl rfl rfl ?_
          refine R_lo (nx := 39) rfl rfl rfl rfl ?_
          refine R_op (nx := 40) rfl rfl rfl ?_
          refine R_op (nx := 41) rfl rfl rfl ?_
          refine R_call1 (nx := 44) (as := [(0, d), (0, 0), (0, 4)]) (rest := []) rfl rfl (fun _ _ => rfl) rfl rfl rfl rfl rfl rfl rfl rfl (Cl.mono (c_M_in S d 0 4) ?_)
          rintro _ _ (⟨rfl, b41, rfl⟩ | ⟨rfl, b41, rfl⟩)
          ·
            refine ⟨_, rfl, ?_⟩
            refine R_ifT (tg := 49) rfl rfl rfl ?_
            refine R_lo (nx := 50) rfl rfl rfl rfl ?_
            refine R_lo (nx := 51) rfl rfl rfl rfl ?_
            refine R_call1 (nx := 54) (as := [(2, 71), (0, c)]) (rest := []) rfl rfl (fun _ _ => rfl) rfl rfl rfl rfl rfl rfl rfl rfl (Cl.mono (c_M_brokenAt S c (by omega) (AK A c) (show MR S c (AK A c) by first | assumption | exact MR.up (by assumption) (by omega) | exact MR.up (MR.up (by assumption) (by omega)) (by omega) | exact MR.up (MR.up (MR.up (by assumption) (by omega)) (by omega)) (by omega)) (by assumption)) ?_)
            rintro _ _ ⟨rfl, rfl⟩
            refine ⟨_, rfl, ?_⟩
            refine R_if (nx := 57) (tg := 60) rfl rfl rfl (mm_cnd_eq _ _) (fun c54 => ?_) (fun c54 => ?_)
            ·
              have e54 : Xfb (AK A c) = 0 := c54
              refine R_lo (nx := 61) rfl rfl rfl rfl ?_
              refine R_lo (nx := 62) rfl rfl rfl rfl ?_
              refine R_lo (nx := 63) rfl rfl rfl rfl ?_
              refine R_lo (nx := 64) rfl rfl rfl rfl ?_
              refine R_call0 (nx := 67) (as := [(2, 71), (0, c), (0, w), (0, p)]) (rest := []) rfl rfl (fun _ _ => rfl) rfl rfl rfl rfl rfl rfl rfl rfl (Cl.mono (c_M_reduces S c (by omega) (AK A c) (show MR S c (AK A c) by first | assumption | exact MR.up (by assumption) (by omega) | exact MR.up (MR.up (by assumption) (by omega)) (by omega) | exact MR.up (MR.up (MR.up (by assumption) (by omega)) (by omega)) (by omega)) w b9.1 v1 e54 p b9.2) ?_)
              rintro _ S64 ⟨rfl, x64, t64, o64, f64⟩
              have mmS64 : MR S64 c (AK A c) := MR.fr (show MR S c (AK A c) by first | assumption | exact MR.up (by assumption) (by omega) | exact MR.up (MR.up (by assumption) (by omega)) (by omega) | exact MR.up (MR.up (MR.up (by assumption) (by omega)) (by omega)) (by omega)) fun e q r => f64 e (by omega)
              have nnS64 := mmS64.n
              refine ⟨rfl, ?_⟩
              refine R_lo (nx := 68) rfl rfl rfl rfl ?_
              refine R_lo (nx := 69) rfl rfl rfl rfl ?_
              refine R_lo (nx := 70) rfl rfl rfl rfl ?_
              refine R_lo (nx := 72) rfl rfl rfl rfl ?_
              refine R_lo (nx := 74) rfl rfl rfl rfl ?_
              refine R_lo (nx := 76) rfl rfl rfl rfl ?_
              refine R_lo (nx := 78) rfl rfl rfl rfl ?_
              refine R_call1 (nx := 81) (as := [(2, 71), (0, c), (0, w), (0, r), (0, l), (0, d), (0, 1)]) (rest := []) rfl rfl (fun _ _ => rfl) rfl rfl rfl rfl rfl rfl rfl rfl (Cl.mono (c_M_counts1 S64 c (by omega) (AK A c) mmS64 w b9.1 v1 p b9.2 t64 x64 o64 r l d) ?_)
              rintro _ _ ⟨rfl, rfl⟩
              refine ⟨_, rfl, ?_⟩
              refine R_ret rfl (fun _ _ => rfl) rfl rfl ?_
              rw [show Q_told A c w p r l d 1 = ((sm (tcF (AK A c) w p r l d 1) (Xn (AK A c))), A) from by first | (simp only [Q_told, b1, b9, e9, e309, b20, b31, b41, c54, e54, ifo, ifm, ifp, iffq, ↓reduceIte, ite_self, and_self, and_true, true_and, and_false, false_and, or_true, true_or, or_false, false_or, or_self, not_true_eq_false, not_false_eq_true, ne_eq]; done) | (unfold Q_told ifp; by_cases q0 : 0 ≤ c ∧ c < 4; rw [if_pos q0]; by_cases q1 : w = 0 ∨ w = 1; rw [if_pos q1]; by_cases q2 : Xpr p; rw [if_pos q2]; by_cases q3 : 0 ≤ r ∧ r ≤ 10; rw [if_pos q3]; by_cases q4 : 0 ≤ l ∧ l ≤ 9; rw [if_pos q4]; by_cases q5 : 0 ≤ d ∧ d ≤ 4; rw [if_pos q5]; (first | exact absurd q0 b1 | exact absurd ⟨q1, q2⟩ b9 | exact absurd q3 b20 | exact absurd q4 b31 | exact absurd q5 b41); rw [if_neg q5]; rw [if_neg q4]; rw [if_neg q3]; rw [if_neg q2]; rw [if_neg q1]; rw [if_neg q0])]; exact ⟨rfl, hRR.fr (R71.of (f64 71 (by omega))) fun b hb => f64 b (by omega), fun b hb => f64 b (by omega)⟩
            ·
              have e54 : ¬ Xfb (AK A c) = 0 := c54
              refine R_op (nx := 59) rfl rfl rfl ?_
              refine R_ret rfl (fun _ _ => rfl) rfl rfl ?_
              rw [show Q_told A c w p r l d 1 = ((-4), A) from by first | (simp only [Q_told, b1, b9, e9, e309, b20, b31, b41, c54, e54, ifo, ifm, ifp, iffq, ↓reduceIte, ite_self, and_self, and_true, true_and, and_false, false_and, or_true, true_or, or_false, false_or, or_self, not_true_eq_false, not_false_eq_true, ne_eq]; done) | (unfold Q_told ifp; by_cases q0 : 0 ≤ c ∧ c < 4; rw [if_pos q0]; by_cases q1 : w = 0 ∨ w = 1; rw [if_pos q1]; by_cases q2 : Xpr p; rw [if_pos q2]; by_cases q3 : 0 ≤ r ∧ r ≤ 10; rw [if_pos q3]; by_cases q4 : 0 ≤ l ∧ l ≤ 9; rw [if_pos q4]; by_cases q5 : 0 ≤ d ∧ d ≤ 4; rw [if_pos q5]; (first | exact absurd q0 b1 | exact absurd ⟨q1, q2⟩ b9 | exact absurd q3 b20 | exact absurd q4 b31 | exact absurd q5 b41); rw [if_neg q5]; rw [if_neg q4]; rw [if_neg q3]; rw [if_neg q2]; rw [if_neg q1]; rw [if_neg q0])]; exact ⟨rfl, hRR, fun b _ => rfl⟩
          ·
            refine ⟨_, rfl, ?_⟩
            refine R_ifF (nx := 47) rfl rfl rfl ?_
            refine R_op (nx := 48) rfl rfl rfl ?_
            refine R_ret rfl (fun _ _ => rfl) rfl rfl ?_
            rw [show Q_told A c w p r l d 1 = ((-1), A) from by first | (simp only [Q_told, b1, b9, e9, e309, b20, b31, b41, ifo, ifm, ifp, iffq, ↓reduceIte, ite_self, and_self, and_true, true_and, and_false, false_and, or_true, true_or, or_false, false_or, or_self, not_true_eq_false, not_false_eq_true, ne_eq]; done) | (unfold Q_told ifp; by_cases q0 : 0 ≤ c ∧ c < 4; rw [if_pos q0]; by_cases q1 : w = 0 ∨ w = 1; rw [if_pos q1]; by_cases q2 : Xpr p; rw [if_pos q2]; by_cases q3 : 0 ≤ r ∧ r ≤ 10; rw [if_pos q3]; by_cases q4 : 0 ≤ l ∧ l ≤ 9; rw [if_pos q4]; by_cases q5 : 0 ≤ d ∧ d ≤ 4; rw [if_pos q5]; (first | exact absurd q0 b1 | exact absurd ⟨q1, q2⟩ b9 | exact absurd q3 b20 | exact absurd q4 b31 | exact absurd q5 b41); rw [if_neg q5]; rw [if_neg q4]; rw [if_neg q3]; rw [if_neg q2]; rw [if_neg q1]; rw [if_neg q0])]; exact ⟨rfl, hRR, fun b _ => rfl⟩
        ·
          refine ⟨_, rfl, ?_⟩
          refine R_ifT (tg := 47) rfl rfl rfl ?_
          refine R_op (nx := 48) rfl rfl rfl ?_
          refine R_ret rfl (fun _ _ => rfl) rfl rfl ?_
          rw [show Q_told A c w p r l d 1 = ((-1), A) from by first | (simp only [Q_told, b1, b9, e9, e309, b20, b31, ifo, ifm, ifp, iffq, ↓reduceIte, ite_self, and_self, and_true, true_and, and_false, false_and, or_true, true_or, or_false, false_or, or_self, not_true_eq_false, not_false_eq_true, ne_eq]; done) | (unfold Q_told ifp; by_cases q0 : 0 ≤ c ∧ c < 4; rw [if_pos q0]; by_cases q1 : w = 0 ∨ w = 1; rw [if_pos q1]; by_cases q2 : Xpr p; rw [if_pos q2]; by_cases q3 : 0 ≤ r ∧ r ≤ 10; rw [if_pos q3]; by_cases q4 : 0 ≤ l ∧ l ≤ 9; rw [if_pos q4]; by_cases q5 : 0 ≤ d ∧ d ≤ 4; rw [if_pos q5]; (first | exact absurd q0 b1 | exact absurd ⟨q1, q2⟩ b9 | exact absurd q3 b20 | exact absurd q4 b31 | exact absurd q5 b41); rw [if_neg q5]; rw [if_neg q4]; rw [if_neg q3]; rw [if_neg q2]; rw [if_neg q1]; rw [if_neg q0])]; exact ⟨rfl, hRR, fun b _ => rfl⟩
      ·
        refine ⟨_, rfl, ?_⟩
        refine R_ifT (tg := 47) rfl rfl rfl ?_
        refine R_op (nx := 48) rfl rfl rfl ?_
        refine R_ret rfl (fun _ _ => rfl) rfl rfl ?_
        rw [show Q_told A c w p r l d 1 = ((-1), A) from by first | (simp only [Q_told, b1, b9, e9, e309, b20, ifo, ifm, ifp, iffq, ↓reduceIte, ite_self, and_self, and_true, true_and, and_false, false_and, or_true, true_or, or_false, false_or, or_self, not_true_eq_false, not_false_eq_true, ne_eq]; done) | (unfold Q_told ifp; by_cases q0 : 0 ≤ c ∧ c < 4; rw [if_pos q0]; by_cases q1 : w = 0 ∨ w = 1; rw [if_pos q1]; by_cases q2 : Xpr p; rw [if_pos q2]; by_cases q3 : 0 ≤ r ∧ r ≤ 10; rw [if_pos q3]; by_cases q4 : 0 ≤ l ∧ l ≤ 9; rw [if_pos q4]; by_cases q5 : 0 ≤ d ∧ d ≤ 4; rw [if_pos q5]; (first | exact absurd q0 b1 | exact absurd ⟨q1, q2⟩ b9 | exact absurd q3 b20 | exact absurd q4 b31 | exact absurd q5 b41); rw [if_neg q5]; rw [if_neg q4]; rw [if_neg q3]; rw [if_neg q2]; rw [if_neg q1]; rw [if_neg q0])]; exact ⟨rfl, hRR, fun b _ => rfl⟩
    ·
      refine ⟨_, rfl, ?_⟩
      refine R_ifT (tg := 47) rfl rfl rfl ?_
      refine R_op (nx := 48) rfl rfl rfl ?_
      refine R_ret rfl (fun _ _ => rfl) rfl rfl ?_
      rw [show Q_told A c w p r l d 1 = ((-1), A) from by first | (simp only [Q_told, b1, b9, ifo, ifm, ifp, iffq, ↓reduceIte, ite_self, and_self, and_true, true_and, and_false, false_and, or_true, true_or, or_false, false_or, or_self, not_true_eq_false, not_false_eq_true, ne_eq]; done) | (unfold Q_told ifp; by_cases q0 : 0 ≤ c ∧ c < 4; rw [if_pos q0]; by_cases q1 : w = 0 ∨ w = 1; rw [if_pos q1]; by_cases q2 : Xpr p; rw [if_pos q2]; by_cases q3 : 0 ≤ r ∧ r ≤ 10; rw [if_pos q3]; by_cases q4 : 0 ≤ l ∧ l ≤ 9; rw [if_pos q4]; by_cases q5 : 0 ≤ d ∧ d ≤ 4; rw [if_pos q5]; (first | exact absurd q0 b1 | exact absurd ⟨q1, q2⟩ b9 | exact absurd q3 b20 | exact absurd q4 b31 | exact absurd q5 b41); rw [if_neg q5]; rw [if_neg q4]; rw [if_neg q3]; rw [if_neg q2]; rw [if_neg q1]; rw [if_neg q0])]; exact ⟨rfl, hRR, fun b _ => rfl⟩
  ·
    try have k1 := hRR.k b1.1 b1.2
    try have n1 := k1.n
    try have z1 := k1.1.nr
    try have v1 := hV.1 _ b1.1 b1.2
    try have r1 := v1.2.1
    refine ⟨_, rfl, ?_⟩
    refine R_ifT (tg := 47) rfl rfl rfl ?_
    refine R_op (nx := 48) rfl rfl rfl ?_
    refine R_ret rfl (fun _ _ => rfl) rfl rfl ?_
    rw [show Q_told A c w p r l d 1 = ((-1), A) from by first | (simp only [Q_told, b1, ifo, ifm, ifp, iffq, ↓reduceIte, ite_self, and_self, and_true, true_and, and_false, false_and, or_true, true_or, or_false, false_or, or_self, not_true_eq_false, not_false_eq_true, ne_eq]; done) | (unfold Q_told ifp; by_cases q0 : 0 ≤ c ∧ c < 4; rw [if_pos q0]; by_cases q1 : w = 0 ∨ w = 1; rw [if_pos q1]; by_cases q2 : Xpr p; rw [if_pos q2]; by_cases q3 : 0 ≤ r ∧ r ≤ 10; rw [if_pos q3]; by_cases q4 : 0 ≤ l ∧ l ≤ 9; rw [if_pos q4]; by_cases q5 : 0 ≤ d ∧ d ≤ 4; rw [if_pos q5]; (first | exact absurd q0 b1 | exact absurd ⟨q1, q2⟩ b9 | exact absurd q3 b20 | exact absurd q4 b31 | exact absurd q5 b41); rw [if_neg q5]; rw [if_neg q4]; rw [if_neg q3]; rw [if_neg q2]; rw [if_neg q1]; rw [if_neg q0])]; exact ⟨rfl, hRR, fun b _ => rfl⟩

set_option maxRecDepth 20000 in
set_option maxHeartbeats 4000000 in
theorem c_M_page (S : mm_S) (A : mm_A) (hRR : RR S A) (hV : Vs A) (c w p r l d : Int) : Cl 81 [(2, 71), (0, c), (0, w), (0, p), (0, r), (0, l), (0, d)] S (fun vv S' => vv = some (0, (Q_told A c w p r l d 0).1) ∧ RR S' (Q_told A c w p r l d 0).2 ∧ ∀ b, ¬ (71 ≤ b ∧ b < 91) → S' b = S b) := by
  refine ⟨Nat.le_of_ble_eq_true rfl, ?_⟩
  show Rn k_M_page 0 [(2, 71), (0, c), (0, w), (0, p), (0, r), (0, l), (0, d)] [] S _
  refine R_lo (nx := 1) rfl rfl rfl rfl ?_
  refine R_lo (nx := 2) rfl rfl rfl rfl ?_
  refine R_lo (nx := 3) rfl rfl rfl rfl ?_
  refine R_lo (nx := 4) rfl rfl rfl rfl ?_
  refine R_lo (nx := 6) rfl rfl rfl rfl ?_
  refine R_lo (nx := 8) rfl rfl rfl rfl ?_
  refine R_lo (nx := 10) rfl rfl rfl rfl ?_
  refine R_op (nx := 11) rfl rfl rfl ?_
  refine R_call1 (nx := 14) (as := [(2, 71), (0, c), (0, w), (0, p), (0, r), (0, l), (0, d), (0, 0)]) (rest := []) rfl rfl (fun _ _ => rfl) rfl rfl rfl rfl rfl rfl rfl rfl (Cl.mono (c_M_told0 S A hRR hV c w p r l d) ?_)
  rintro _ S11 ⟨rfl, g11, f11⟩
  refine ⟨_, rfl, ?_⟩
  refine R_ret rfl (fun _ _ => rfl) rfl rfl ?_
  exact ⟨rfl, g11, f11⟩

set_option maxRecDepth 20000 in
set_option maxHeartbeats 4000000 in
theorem c_M_turns (S : mm_S) (A : mm_A) (hRR : RR S A) (hV : Vs A) (c w p r l d : Int) : Cl 82 [(2, 71), (0, c), (0, w), (0, p), (0, r), (0, l), (0, d)] S (fun vv S' => vv = some (0, (Q_told A c w p r l d 1).1) ∧ RR S' (Q_told A c w p r l d 1).2 ∧ ∀ b, ¬ (71 ≤ b ∧ b < 91) → S' b = S b) := by
  refine ⟨Nat.le_of_ble_eq_true rfl, ?_⟩
  show Rn k_M_turns 0 [(2, 71), (0, c), (0, w), (0, p), (0, r), (0, l), (0, d)] [] S _
  refine R_lo (nx := 1) rfl rfl rfl rfl ?_
  refine R_lo (nx := 2) rfl rfl rfl rfl ?_
  refine R_lo (nx := 3) rfl rfl rfl rfl ?_
  refine R_lo (nx := 4) rfl rfl rfl rfl ?_
  refine R_lo (nx := 6) rfl rfl rfl rfl ?_
  refine R_lo (nx := 8) rfl rfl rfl rfl ?_
  refine R_lo (nx := 10) rfl rfl rfl rfl ?_
  refine R_op (nx := 11) rfl rfl rfl ?_
  refine R_call1 (nx := 14) (as := [(2, 71), (0, c), (0, w), (0, p), (0, r), (0, l), (0, d), (0, 1)]) (rest := []) rfl rfl (fun _ _ => rfl) rfl rfl rfl rfl rfl rfl rfl rfl (Cl.mono (c_M_told1 S A hRR hV c w p r l d) ?_)
  rintro _ S11 ⟨rfl, g11, f11⟩
  refine ⟨_, rfl, ?_⟩
  refine R_ret rfl (fun _ _ => rfl) rfl rfl ?_
  exact ⟨rfl, g11, f11⟩

set_option maxRecDepth 20000 in
set_option maxHeartbeats 4000000 in
theorem c_M_stands (S : mm_S) (A : mm_A) (hRR : RR S A) (hV : Vs A) (c w p : Int) : Cl 83 [(2, 71), (0, c), (0, w), (0, p)] S (fun vv S' => vv = some (0, (Q_stands A c w p).1) ∧ RR S' (Q_stands A c w p).2 ∧ ∀ b, ¬ (71 ≤ b ∧ b < 91) → S' b = S b) := by
  refine ⟨Nat.le_of_ble_eq_true rfl, ?_⟩
  show Rn k_M_stands 0 [(2, 71), (0, c), (0, w), (0, p), (9, 0), (9, 0), (9, 0)] [] S _
  refine R_lo (nx := 1) rfl rfl rfl rfl ?_
  refine R_call1 (nx := 4) (as := [(0, c)]) (rest := []) rfl rfl (fun _ _ => rfl) rfl rfl rfl rfl rfl rfl rfl rfl (Cl.mono (c_M_isComplex S c) ?_)
  rintro _ _ (⟨rfl, b1, rfl⟩ | ⟨rfl, b1, rfl⟩)
  ·
    try have k1 := hRR.k b1.1 b1.2
    try have n1 := k1.n
    try have z1 := k1.1.nr
    try have v1 := hV.1 _ b1.1 b1.2
    try have r1 := v1.2.1
    refine ⟨_, rfl, ?_⟩
    refine R_ifF (nx := 7) rfl rfl rfl ?_
    refine R_lo (nx := 8) rfl rfl rfl rfl ?_
    refine R_lo (nx := 9) rfl rfl rfl rfl ?_
    refine R_call1 (nx := 12) (as := [(0, w), (0, p)]) (rest := []) rfl rfl (fun _ _ => rfl) rfl rfl rfl rfl rfl rfl rfl rfl (Cl.mono (c_M_isAsked S w p) ?_)
    rintro _ _ (⟨rfl, b9, rfl⟩ | ⟨rfl, b9, rfl⟩)
    ·
      have e9 : w = 0 ∨ w = 1 := b9.1
      have e309 : Xpr p := b9.2
      refine ⟨_, rfl, ?_⟩
      refine R_ifT (tg := 17) rfl rfl rfl ?_
      refine R_lo (nx := 18) rfl rfl rfl rfl ?_
      refine R_lo (nx := 19) rfl rfl rfl rfl ?_
      refine R_call1 (nx := 22) (as := [(2, 71), (0, c)]) (rest := []) rfl rfl (fun _ _ => rfl) rfl rfl rfl rfl rfl rfl rfl rfl (Cl.mono (c_M_brokenAt S c (by omega) (AK A c) (show MR S c (AK A c) by first | assumption | exact MR.up (by assumption) (by omega) | exact MR.up (MR.up (by assumption) (by omega)) (by omega) | exact MR.up (MR.up (MR.up (by assumption) (by omega)) (by omega)) (by omega)) (by assumption)) ?_)
      rintro _ _ ⟨rfl, rfl⟩
      refine ⟨_, rfl, ?_⟩
      refine R_if (nx := 25) (tg := 28) rfl rfl rfl (mm_cnd_eq _ _) (fun c22 => ?_) (fun c22 => ?_)
      ·
        have e22 : Xfb (AK A c) = 0 := c22
        refine R_lo (nx := 29) rfl rfl rfl rfl ?_
        refine R_lo (nx := 30) rfl rfl rfl rfl ?_
        refine R_lo (nx := 31) rfl rfl rfl rfl ?_
        refine R_lo (nx := 32) rfl rfl rfl rfl ?_
        refine R_call0 (nx := 35) (as := [(2, 71), (0, c), (0, w), (0, p)]) (rest := []) rfl rfl (fun _ _ => rfl) rfl rfl rfl rfl rfl rfl rfl rfl (Cl.mono (c_M_reduces S c (by omega) (AK A c) (show MR S c (AK A c) by first | assumption | exact MR.up (by assumption) (by omega) | exact MR.up (MR.up (by assumption) (by omega)) (by omega) | exact MR.up (MR.up (MR.up (by assumption) (by omega)) (by omega)) (by omega)) w b9.1 v1 e22 p b9.2) ?_)
        rintro _ S32 ⟨rfl, x32, t32, o32, f32⟩
        have mmS32 : MR S32 c (AK A c) := MR.fr (show MR S c (AK A c) by first | assumption | exact MR.up (by assumption) (by omega) | exact MR.up (MR.up (by assumption) (by omega)) (by omega) | exact MR.up (MR.up (MR.up (by assumption) (by omega)) (by omega)) (by omega)) fun e q r => f32 e (by omega)
        have nnS32 := mmS32.n
        refine ⟨rfl, ?_⟩
        refine R_op (nx := 36) rfl rfl rfl ?_
        refine R_lo (nx := 38) (ls' := [(2, 71), (0, c), (0, w), (0, p), (0, 0), (9, 0), (9, 0)]) rfl rfl rfl rfl ?_
        refine R_op (nx := 39) rfl rfl rfl ?_
        refine R_lo (nx := 41) (ls' := [(2, 71), (0, c), (0, w), (0, p), (0, 0), (0, 0), (9, 0)]) rfl rfl rfl rfl ?_
        have L41 : ∀ (f41 : Nat) (acc : Int) (i : Int), ((Xn (AK A c)) - i).toNat < f41 → (0 ≤ i ∧ i ≤ (Xn (AK A c))) → (0 ≤ acc ∧ acc ≤ 10) → (acc = mx (sndF (AK A c) w p) i) → Rn k_M_stands 41 [(2, 71), (0, c), (0, w), (0, p), (0, acc), (0, i), (9, 0)] [] S32 (fun vv S' => vv = some (0, (Q_stands A c w p).1) ∧ RR S' (Q_stands A c w p).2 ∧ ∀ b, ¬ (71 ≤ b ∧ b < 91) → S' b = S b) := by
          intro f41
          induction f41 with
          | zero => intro acc i hm41; exact absurd hm41 (Nat.not_lt_zero _)
          | succ f41 ih41 =>
            intro acc i hm41 hi hb hq
            have hgr := gapF_r r1 w p i b9.1
            have hfw := Fw_r b9.2 v1 b9.1 i
            have aw := b9.1
            have ap := b9.2
            refine R_lo (nx := 43) rfl rfl rfl rfl ?_
            refine R_lo (nx := 44) rfl rfl rfl rfl ?_
            refine R_get (nx := 47) (w := (2, 72)) rfl rfl rfl rfl ?_
            refine R_lo (nx := 48) rfl rfl rfl rfl ?_
            refine R_iald (nx := 49) rfl rfl (mm_el_ok 1 5 (by decide) rfl (by decide) (by omega) (by omega)) ?_
            rw [nnS32]
            refine R_icmp (nx := 52) (tg := 100) rfl rfl rfl (mm_cnd_ge _ _) (fun c49 => ?_) (fun c49 => ?_)
            ·
              have hfin : mx (sndF (AK A c) w p) (Xn (AK A c)) = acc := by rw [hq, show (Xn (AK A c)) = i by omega]
              refine R_lo (nx := 102) rfl rfl rfl rfl ?_
              refine R_ret rfl (fun _ _ => rfl) rfl rfl ?_
              rw [show Q_stands A c w p = (acc, A) from by first | (simp only [Q_stands, hfin, b1, b9, e9, e309, c22, e22, c49, ifo, ifm, ifp, iffq, ↓reduceIte, ite_self, and_self, and_true, true_and, and_false, false_and, or_true, true_or, or_false, false_or, or_self, not_true_eq_false, not_false_eq_true, ne_eq]; done) | (unfold Q_stands ifp; by_cases q0 : 0 ≤ c ∧ c < 4; rw [if_pos q0]; by_cases q1 : w = 0 ∨ w = 1; rw [if_pos q1]; by_cases q2 : Xpr p; rw [if_pos q2]; (first | exact absurd q0 b1 | exact absurd ⟨q1, q2⟩ b9); rw [if_neg q2]; rw [if_neg q1]; rw [if_neg q0])]; exact ⟨rfl, hRR.fr (R71.of (f32 71 (by omega))) fun b hb => f32 b (by omega), fun b hb => f32 b (by omega)⟩
            ·
              refine R_lo (nx := 53) rfl rfl rfl rfl ?_
              refine R_get (nx := 56) (w := (2, 81)) rfl rfl rfl rfl ?_
              refine R_lo (nx := 58) rfl rfl rfl rfl ?_
              refine R_iald (nx := 59) rfl rfl (mm_el_ok 1 12 (by decide) rfl (by decide) (by omega) (by omega)) ?_
              rw [show (S32 81 i) = (Fw (AK A c) w p i) from t32 i (by omega) (by omega)]
              refine R_if (nx := 62) (tg := 66) rfl rfl rfl (mm_cnd_ge _ _) (fun c59 => ?_) (fun c59 => ?_)
              ·
                refine R_lo (nx := 67) rfl rfl rfl rfl ?_
                refine R_lo (nx := 68) rfl rfl rfl rfl ?_
                refine R_lo (nx := 69) rfl rfl rfl rfl ?_
                refine R_lo (nx := 71) rfl rfl rfl rfl ?_
                refine R_call1 (nx := 74) (as := [(2, 71), (0, c), (0, w), (0, i)]) (rest := []) rfl rfl (fun _ _ => rfl) rfl rfl rfl rfl rfl rfl rfl rfl (Cl.mono (c_M_gap S32 c (by omega) (AK A c) (show MR S32 c (AK A c) by first | assumption | exact MR.up (by assumption) (by omega) | exact MR.up (MR.up (by assumption) (by omega)) (by omega) | exact MR.up (MR.up (MR.up (by assumption) (by omega)) (by omega)) (by omega)) w (by assumption) (by assumption) p (by assumption) (by assumption) i (by omega) (by omega)) ?_)
                rintro _ _ ⟨rfl, rfl⟩
                refine ⟨_, rfl, ?_⟩
                refine R_op (nx := 75) rfl rfl rfl ?_
                refine R_iadd (nx := 76) (z := ((gapF (AK A c) w p i) + 1)) rfl rfl rfl ⟨by omega, by omega⟩ ?_
                refine R_lo (nx := 78) (ls' := [(2, 71), (0, c), (0, w), (0, p), (0, acc), (0, i), (0, ((gapF (AK A c) w p i) + 1))]) rfl rfl rfl rfl ?_
                refine R_lo (nx := 80) rfl rfl rfl rfl ?_
                refine R_lo (nx := 82) rfl rfl rfl rfl ?_
                refine R_icmp (nx := 85) (tg := 90) rfl rfl rfl (mm_cnd_le _ _) (fun c82 => ?_) (fun c82 => ?_)
                ·
                  refine R_lo (nx := 92) rfl rfl rfl rfl ?_
                  refine R_lo (nx := 94) (ls' := [(2, 71), (0, c), (0, w), (0, p), (0, acc), (0, i), (0, ((gapF (AK A c) w p i) + 1))]) rfl rfl rfl rfl ?_
                  refine R_iinc (nx := 97) (z := (i + 1)) (ls' := [(2, 71), (0, c), (0, w), (0, p), (0, acc), (0, (i + 1)), (0, ((gapF (AK A c) w p i) + 1))]) rfl rfl rfl rfl ⟨by omega, by omega⟩ rfl ?_
                  refine R_op (nx := 100) (pc' := 41) rfl rfl rfl ?_
                  refine Rn.weak (ls' := [(2, 71), (0, c), (0, w), (0, p), (0, acc), (0, (i + 1)), (9, 0)]) ⟨Or.inl rfl, ⟨Or.inl rfl, ⟨Or.inl rfl, ⟨Or.inl rfl, ⟨Or.inl rfl, ⟨Or.inl rfl, ⟨Or.inr rfl, trivial⟩⟩⟩⟩⟩⟩⟩ ?_
                  refine ih41 (acc) ((i + 1)) ?_ ?_ ?_ ?_
                  · omega
                  · omega
                  · omega
                  · rw [mx_s _ hi.1, ← hq]
                    first | (rw [show sndF (AK A c) w p i = 0 from if_pos (by omega)]; omega) | (rw [show sndF (AK A c) w p i = gapF (AK A c) w p i + 1 from if_neg (by omega)]; omega)
                ·
                  refine R_lo (nx := 87) rfl rfl rfl rfl ?_
                  refine R_op (nx := 90) (pc' := 92) rfl rfl rfl ?_
                  refine R_lo (nx := 94) (ls' := [(2, 71), (0, c), (0, w), (0, p), (0, ((gapF (AK A c) w p i) + 1)), (0, i), (0, ((gapF (AK A c) w p i) + 1))]) rfl rfl rfl rfl ?_
                  refine R_iinc (nx := 97) (z := (i + 1)) (ls' := [(2, 71), (0, c), (0, w), (0, p), (0, ((gapF (AK A c) w p i) + 1)), (0, (i + 1)), (0, ((gapF (AK A c) w p i) + 1))]) rfl rfl rfl rfl ⟨by omega, by omega⟩ rfl ?_
                  refine R_op (nx := 100) (pc' := 41) rfl rfl rfl ?_
                  refine Rn.weak (ls' := [(2, 71), (0, c), (0, w), (0, p), (0, ((gapF (AK A c) w p i) + 1)), (0, (i + 1)), (9, 0)]) ⟨Or.inl rfl, ⟨Or.inl rfl, ⟨Or.inl rfl, ⟨Or.inl rfl, ⟨Or.inl rfl, ⟨Or.inl rfl, ⟨Or.inr rfl, trivial⟩⟩⟩⟩⟩⟩⟩ ?_
                  refine ih41 (((gapF (AK A c) w p i) + 1)) ((i + 1)) ?_ ?_ ?_ ?_
                  · omega
                  · omega
                  · omega
                  · rw [mx_s _ hi.1, ← hq]
                    first | (rw [show sndF (AK A c) w p i = 0 from if_pos (by omega)]; omega) | (rw [show sndF (AK A c) w p i = gapF (AK A c) w p i + 1 from if_neg (by omega)]; omega)
              ·
                refine R_op (nx := 63) rfl rfl rfl ?_
                refine R_op (nx := 66) (pc' := 76) rfl rfl rfl ?_
                refine R_lo (nx := 78) (ls' := [(2, 71), (0, c), (0, w), (0, p), (0, acc), (0, i), (0, 0)]) rfl rfl rfl rfl ?_
                refine R_lo (nx := 80) rfl rfl rfl rfl ?_
                refine R_lo (nx := 82) rfl rfl rfl rfl ?_
                refine R_icmp (nx := 85) (tg := 90) rfl rfl rfl (mm_cnd_le _ _) (fun c82_1 => ?_) (fun c82_1 => ?_)
                ·
                  refine R_lo (nx := 92) rfl rfl rfl rfl ?_
                  refine R_lo (nx := 94) (ls' := [(2, 71), (0, c), (0, w), (0, p), (0, acc), (0, i), (0, 0)]) rfl rfl rfl rfl ?_
                  refine R_iinc (nx := 97) (z := (i + 1)) (ls' := [(2, 71), (0, c), (0, w), (0, p), (0, acc), (0, (i + 1)), (0, 0)]) rfl rfl rfl rfl ⟨by omega, by omega⟩ rfl ?_
                  refine R_op (nx := 100) (pc' := 41) rfl rfl rfl ?_
                  refine Rn.weak (ls' := [(2, 71), (0, c), (0, w), (0, p), (0, acc), (0, (i + 1)), (9, 0)]) ⟨Or.inl rfl, ⟨Or.inl rfl, ⟨Or.inl rfl, ⟨Or.inl rfl, ⟨Or.inl rfl, ⟨Or.inl rfl, ⟨Or.inr rfl, trivial⟩⟩⟩⟩⟩⟩⟩ ?_
                  refine ih41 (acc) ((i + 1)) ?_ ?_ ?_ ?_
                  · omega
                  · omega
                  · omega
                  · rw [mx_s _ hi.1, ← hq]
                    first | (rw [show sndF (AK A c) w p i = 0 from if_pos (by omega)]; omega) | (rw [show sndF (AK A c) w p i = gapF (AK A c) w p i + 1 from if_neg (by omega)]; omega)
                ·
                  refine R_lo (nx := 87) rfl rfl rfl rfl ?_
                  refine R_op (nx := 90) (pc' := 92) rfl rfl rfl ?_
                  refine R_lo (nx := 94) (ls' := [(2, 71), (0, c), (0, w), (0, p), (0, 0), (0, i), (0, 0)]) rfl rfl rfl rfl ?_
                  refine R_iinc (nx := 97) (z := (i + 1)) (ls' := [(2, 71), (0, c), (0, w), (0, p), (0, 0), (0, (i + 1)), (0, 0)]) rfl rfl rfl rfl ⟨by omega, by omega⟩ rfl ?_
                  refine R_op (nx := 100) (pc' := 41) rfl rfl rfl ?_
                  refine Rn.weak (ls' := [(2, 71), (0, c), (0, w), (0, p), (0, 0), (0, (i + 1)), (9, 0)]) ⟨Or.inl rfl, ⟨Or.inl rfl, ⟨Or.inl rfl, ⟨Or.inl rfl, ⟨Or.inl rfl, ⟨Or.inl rfl, ⟨Or.inr rfl, trivial⟩⟩⟩⟩⟩⟩⟩ ?_
                  refine ih41 (0) ((i + 1)) ?_ ?_ ?_ ?_
                  · omega
                  · omega
                  · omega
                  · rw [mx_s _ hi.1, ← hq]
                    first | (rw [show sndF (AK A c) w p i = 0 from if_pos (by omega)]; omega) | (rw [show sndF (AK A c) w p i = gapF (AK A c) w p i + 1 from if_neg (by omega)]; omega)
        refine Rn.weak (ls' := [(2, 71), (0, c), (0, w), (0, p), (0, 0), (0, 0), (9, 0)]) ⟨Or.inl rfl, ⟨Or.inl rfl, ⟨Or.inl rfl, ⟨Or.inl rfl, ⟨Or.inl rfl, ⟨Or.inl rfl, ⟨Or.inl rfl, trivial⟩⟩⟩⟩⟩⟩⟩ ?_
        refine L41 (((Xn (AK A c)) - (0)).toNat + 1) (0) (0) (Nat.lt_succ_self _) ?_ ?_ ?_
        · omega
        · omega
        · rfl
      ·
        have e22 : ¬ Xfb (AK A c) = 0 := c22
        refine R_op (nx := 27) rfl rfl rfl ?_
        refine R_ret rfl (fun _ _ => rfl) rfl rfl ?_
        rw [show Q_stands A c w p = ((-4), A) from by first | (simp only [Q_stands, b1, b9, e9, e309, c22, e22, ifo, ifm, ifp, iffq, ↓reduceIte, ite_self, and_self, and_true, true_and, and_false, false_and, or_true, true_or, or_false, false_or, or_self, not_true_eq_false, not_false_eq_true, ne_eq]; done) | (unfold Q_stands ifp; by_cases q0 : 0 ≤ c ∧ c < 4; rw [if_pos q0]; by_cases q1 : w = 0 ∨ w = 1; rw [if_pos q1]; by_cases q2 : Xpr p; rw [if_pos q2]; (first | exact absurd q0 b1 | exact absurd ⟨q1, q2⟩ b9); rw [if_neg q2]; rw [if_neg q1]; rw [if_neg q0])]; exact ⟨rfl, hRR, fun b _ => rfl⟩
    ·
      refine ⟨_, rfl, ?_⟩
      refine R_ifF (nx := 15) rfl rfl rfl ?_
      refine R_op (nx := 16) rfl rfl rfl ?_
      refine R_ret rfl (fun _ _ => rfl) rfl rfl ?_
      rw [show Q_stands A c w p = ((-1), A) from by first | (simp only [Q_stands, b1, b9, ifo, ifm, ifp, iffq, ↓reduceIte, ite_self, and_self, and_true, true_and, and_false, false_and, or_true, true_or, or_false, false_or, or_self, not_true_eq_false, not_false_eq_true, ne_eq]; done) | (unfold Q_stands ifp; by_cases q0 : 0 ≤ c ∧ c < 4; rw [if_pos q0]; by_cases q1 : w = 0 ∨ w = 1; rw [if_pos q1]; by_cases q2 : Xpr p; rw [if_pos q2]; (first | exact absurd q0 b1 | exact absurd ⟨q1, q2⟩ b9); rw [if_neg q2]; rw [if_neg q1]; rw [if_neg q0])]; exact ⟨rfl, hRR, fun b _ => rfl⟩
  ·
    try have k1 := hRR.k b1.1 b1.2
    try have n1 := k1.n
    try have z1 := k1.1.nr
    try have v1 := hV.1 _ b1.1 b1.2
    try have r1 := v1.2.1
    refine ⟨_, rfl, ?_⟩
    refine R_ifT (tg := 15) rfl rfl rfl ?_
    refine R_op (nx := 16) rfl rfl rfl ?_
    refine R_ret rfl (fun _ _ => rfl) rfl rfl ?_
    rw [show Q_stands A c w p = ((-1), A) from by first | (simp only [Q_stands, b1, ifo, ifm, ifp, iffq, ↓reduceIte, ite_self, and_self, and_true, true_and, and_false, false_and, or_true, true_or, or_false, false_or, or_self, not_true_eq_false, not_false_eq_true, ne_eq]; done) | (unfold Q_stands ifp; by_cases q0 : 0 ≤ c ∧ c < 4; rw [if_pos q0]; by_cases q1 : w = 0 ∨ w = 1; rw [if_pos q1]; by_cases q2 : Xpr p; rw [if_pos q2]; (first | exact absurd q0 b1 | exact absurd ⟨q1, q2⟩ b9); rw [if_neg q2]; rw [if_neg q1]; rw [if_neg q0])]; exact ⟨rfl, hRR, fun b _ => rfl⟩

set_option maxRecDepth 20000 in
set_option maxHeartbeats 4000000 in
theorem c_M_leftOf (S : mm_S) (c : Int) (hc : 0 ≤ c ∧ c < 5) (K : CX) (h : MR S c K) (hV : Vx K) (hd : Xfb K = 0) (p d : Int) (hp : Xpr p) : Cl 84 [(2, 71), (0, c), (0, p), (0, d)] S (fun v S' => v = some (0, stay K p d) ∧ ∀ b, ¬ (80 ≤ b ∧ b ≤ 82) → S' b = S b) := by
  refine ⟨Nat.le_of_ble_eq_true rfl, ?_⟩
  show Rn k_M_leftOf 0 [(2, 71), (0, c), (0, p), (0, d), (9, 0), (9, 0)] [] S _
  have hnr := h.1.nr
  refine R_lo (nx := 1) rfl rfl rfl rfl ?_
  refine R_lo (nx := 2) rfl rfl rfl rfl ?_
  refine R_op (nx := 3) rfl rfl rfl ?_
  refine R_lo (nx := 4) rfl rfl rfl rfl ?_
  refine R_call0 (nx := 7) (as := [(2, 71), (0, c), (0, 0), (0, p)]) (rest := []) rfl rfl (fun _ _ => rfl) rfl rfl rfl rfl rfl rfl rfl rfl (Cl.mono (c_M_reduces S c (by omega) K (show MR S c K by first | assumption | exact MR.up (by assumption) (by omega) | exact MR.up (MR.up (by assumption) (by omega)) (by omega) | exact MR.up (MR.up (MR.up (by assumption) (by omega)) (by omega)) (by omega)) 0 (Or.inl rfl) hV hd p hp) ?_)
  rintro _ S4 ⟨rfl, x4, t4, o4, f4⟩
  have mmS4 : MR S4 c K := MR.fr (show MR S c K by first | assumption | exact MR.up (by assumption) (by omega) | exact MR.up (MR.up (by assumption) (by omega)) (by omega) | exact MR.up (MR.up (MR.up (by assumption) (by omega)) (by omega)) (by omega)) fun e q r => f4 e (by omega)
  have nnS4 := mmS4.n
  refine ⟨rfl, ?_⟩
  refine R_op (nx := 8) rfl rfl rfl ?_
  refine R_lo (nx := 10) (ls' := [(2, 71), (0, c), (0, p), (0, d), (0, 0), (9, 0)]) rfl rfl rfl rfl ?_
  refine R_op (nx := 11) rfl rfl rfl ?_
  refine R_lo (nx := 13) (ls' := [(2, 71), (0, c), (0, p), (0, d), (0, 0), (0, 0)]) rfl rfl rfl rfl ?_
  have L13 : ∀ (f13 : Nat) (acc : Int) (i : Int), (Xn K - i).toNat < f13 → (0 ≤ i ∧ i ≤ Xn K) → (0 ≤ acc ∧ acc ≤ i) → (acc = sm (fun x => if Xd K x = d ∧ Fw K 0 p x = -1 then 1 else 0) i) → Rn k_M_leftOf 13 [(2, 71), (0, c), (0, p), (0, d), (0, acc), (0, i)] [] S4 (fun v S' => v = some (0, stay K p d) ∧ ∀ b, ¬ (80 ≤ b ∧ b ≤ 82) → S' b = S b) := by
    intro f13
    induction f13 with
    | zero => intro acc i hm13; exact absurd hm13 (Nat.not_lt_zero _)
    | succ f13 ih13 =>
      intro acc i hm13 hi hb hq
      have hfw := Fw_r hp hV (Or.inl rfl) i
      refine R_lo (nx := 15) rfl rfl rfl rfl ?_
      refine R_lo (nx := 16) rfl rfl rfl rfl ?_
      refine R_get (nx := 19) (w := (2, 72)) rfl rfl rfl rfl ?_
      refine R_lo (nx := 20) rfl rfl rfl rfl ?_
      refine R_iald (nx := 21) rfl rfl (mm_el_ok 1 5 (by decide) rfl (by decide) (by omega) (by omega)) ?_
      rw [nnS4]
      refine R_icmp (nx := 24) (tg := 61) rfl rfl rfl (mm_cnd_ge _ _) (fun c21 => ?_) (fun c21 => ?_)
      ·
        refine R_lo (nx := 63) rfl rfl rfl rfl ?_
        refine R_ret rfl (fun _ _ => rfl) rfl rfl ?_
        exact ⟨by rw [hq, show i = Xn K by omega]; rfl, fun b hb => f4 b hb⟩
      ·
        refine R_lo (nx := 26) rfl rfl rfl rfl ?_
        refine R_lo (nx := 27) rfl rfl rfl rfl ?_
        refine R_lo (nx := 28) rfl rfl rfl rfl ?_
        refine R_lo (nx := 30) rfl rfl rfl rfl ?_
        refine R_call1 (nx := 33) (as := [(2, 71), (0, c), (0, i)]) (rest := [(0, acc)]) rfl rfl (fun _ _ => rfl) rfl rfl rfl rfl rfl rfl rfl rfl (Cl.mono (c_M_degree S4 c (by omega) K (show MRr S4 c K by first | assumption | exact MR.r (by assumption) | exact MRr.up (by assumption) (by omega) | exact MRr.up (MR.r (by assumption)) (by omega) | exact MRr.up (MRr.up (MR.r (by assumption)) (by omega)) (by omega)) i (by omega)) ?_)
        rintro _ _ ⟨rfl, rfl⟩
        refine ⟨_, rfl, ?_⟩
        refine R_lo (nx := 34) rfl rfl rfl rfl ?_
        refine R_icmp (nx := 37) (tg := 51) rfl rfl rfl (mm_cnd_ne _ _) (fun c34 => ?_) (fun c34 => ?_)
        ·
          refine R_op (nx := 52) rfl rfl rfl ?_
          refine R_iadd (nx := 53) (z := (acc + 0)) rfl rfl rfl ⟨by omega, by omega⟩ ?_
          refine R_lo (nx := 55) (ls' := [(2, 71), (0, c), (0, p), (0, d), (0, (acc + 0)), (0, i)]) rfl rfl rfl rfl ?_
          refine R_iinc (nx := 58) (z := (i + 1)) (ls' := [(2, 71), (0, c), (0, p), (0, d), (0, (acc + 0)), (0, (i + 1))]) rfl rfl rfl rfl ⟨by omega, by omega⟩ rfl ?_
          refine R_op (nx := 61) (pc' := 13) rfl rfl rfl ?_
          refine Rn.weak (ls' := [(2, 71), (0, c), (0, p), (0, d), (0, (acc + 0)), (0, (i + 1))]) ⟨Or.inl rfl, ⟨Or.inl rfl, ⟨Or.inl rfl, ⟨Or.inl rfl, ⟨Or.inl rfl, ⟨Or.inl rfl, trivial⟩⟩⟩⟩⟩⟩ ?_
          refine ih13 ((acc + 0)) ((i + 1)) ?_ ?_ ?_ ?_
          · omega
          · omega
          · omega
          · rw [sm_s _ hi.1, ← hq]
            first | rw [if_pos (by omega)] | rw [if_neg (by omega)]
        ·
          replace c34 := Classical.not_not.mp c34
          refine R_lo (nx := 38) rfl rfl rfl rfl ?_
          refine R_get (nx := 41) (w := (2, 81)) rfl rfl rfl rfl ?_
          refine R_lo (nx := 43) rfl rfl rfl rfl ?_
          refine R_iald (nx := 44) rfl rfl (mm_el_ok 1 12 (by decide) rfl (by decide) (by omega) (by omega)) ?_
          rw [show (S4 81 i) = (Fw K 0 p i) from t4 i (by omega) (by omega)]
          refine R_if (nx := 47) (tg := 51) rfl rfl rfl (mm_cnd_ge _ _) (fun c44 => ?_) (fun c44 => ?_)
          ·
            refine R_op (nx := 52) rfl rfl rfl ?_
            refine R_iadd (nx := 53) (z := (acc + 0)) rfl rfl rfl ⟨by omega, by omega⟩ ?_
            refine R_lo (nx := 55) (ls' := [(2, 71), (0, c), (0, p), (0, d), (0, (acc + 0)), (0, i)]) rfl rfl rfl rfl ?_
            refine R_iinc (nx := 58) (z := (i + 1)) (ls' := [(2, 71), (0, c), (0, p), (0, d), (0, (acc + 0)), (0, (i + 1))]) rfl rfl rfl rfl ⟨by omega, by omega⟩ rfl ?_
            refine R_op (nx := 61) (pc' := 13) rfl rfl rfl ?_
            refine Rn.weak (ls' := [(2, 71), (0, c), (0, p), (0, d), (0, (acc + 0)), (0, (i + 1))]) ⟨Or.inl rfl, ⟨Or.inl rfl, ⟨Or.inl rfl, ⟨Or.inl rfl, ⟨Or.inl rfl, ⟨Or.inl rfl, trivial⟩⟩⟩⟩⟩⟩ ?_
            refine ih13 ((acc + 0)) ((i + 1)) ?_ ?_ ?_ ?_
            · omega
            · omega
            · omega
            · rw [sm_s _ hi.1, ← hq]
              first | rw [if_pos (by omega)] | rw [if_neg (by omega)]
          ·
            refine R_op (nx := 48) rfl rfl rfl ?_
            refine R_op (nx := 51) (pc' := 52) rfl rfl rfl ?_
            refine R_iadd (nx := 53) (z := (acc + 1)) rfl rfl rfl ⟨by omega, by omega⟩ ?_
            refine R_lo (nx := 55) (ls' := [(2, 71), (0, c), (0, p), (0, d), (0, (acc + 1)), (0, i)]) rfl rfl rfl rfl ?_
            refine R_iinc (nx := 58) (z := (i + 1)) (ls' := [(2, 71), (0, c), (0, p), (0, d), (0, (acc + 1)), (0, (i + 1))]) rfl rfl rfl rfl ⟨by omega, by omega⟩ rfl ?_
            refine R_op (nx := 61) (pc' := 13) rfl rfl rfl ?_
            refine Rn.weak (ls' := [(2, 71), (0, c), (0, p), (0, d), (0, (acc + 1)), (0, (i + 1))]) ⟨Or.inl rfl, ⟨Or.inl rfl, ⟨Or.inl rfl, ⟨Or.inl rfl, ⟨Or.inl rfl, ⟨Or.inl rfl, trivial⟩⟩⟩⟩⟩⟩ ?_
            refine ih13 ((acc + 1)) ((i + 1)) ?_ ?_ ?_ ?_
            · omega
            · omega
            · omega
            · rw [sm_s _ hi.1, ← hq]
              first | rw [if_pos (by omega)] | rw [if_neg (by omega)]
  refine Rn.weak (ls' := [(2, 71), (0, c), (0, p), (0, d), (0, 0), (0, 0)]) ⟨Or.inl rfl, ⟨Or.inl rfl, ⟨Or.inl rfl, ⟨Or.inl rfl, ⟨Or.inl rfl, ⟨Or.inl rfl, trivial⟩⟩⟩⟩⟩⟩ ?_
  refine L13 ((Xn K - (0)).toNat + 1) (0) (0) (Nat.lt_succ_self _) ?_ ?_ ?_
  · omega
  · omega
  · rfl

set_option maxRecDepth 20000 in
set_option maxHeartbeats 4000000 in
theorem c_M_left (S : mm_S) (A : mm_A) (hRR : RR S A) (hV : Vs A) (c p d : Int) : Cl 85 [(2, 71), (0, c), (0, p), (0, d)] S (fun vv S' => vv = some (0, (Q_left A c p d).1) ∧ RR S' (Q_left A c p d).2 ∧ ∀ b, ¬ (71 ≤ b ∧ b < 91) → S' b = S b) := by
  refine ⟨Nat.le_of_ble_eq_true rfl, ?_⟩
  show Rn k_M_left 0 [(2, 71), (0, c), (0, p), (0, d)] [] S _
  refine R_lo (nx := 1) rfl rfl rfl rfl ?_
  refine R_call1 (nx := 4) (as := [(0, c)]) (rest := []) rfl rfl (fun _ _ => rfl) rfl rfl rfl rfl rfl rfl rfl rfl (Cl.mono (c_M_isComplex S c) ?_)
  rintro _ _ (⟨rfl, b1, rfl⟩ | ⟨rfl, b1, rfl⟩)
  ·
    try have k1 := hRR.k b1.1 b1.2
    try have n1 := k1.n
    try have z1 := k1.1.nr
    try have v1 := hV.1 _ b1.1 b1.2
    try have r1 := v1.2.1
    refine ⟨_, rfl, ?_⟩
    refine R_ifF (nx := 7) rfl rfl rfl ?_
    refine R_lo (nx := 8) rfl rfl rfl rfl ?_
    refine R_call1 (nx := 11) (as := [(0, p)]) (rest := []) rfl rfl (fun _ _ => rfl) rfl rfl rfl rfl rfl rfl rfl rfl (Cl.mono (c_M_isPrime S p) ?_)
    rintro _ _ (⟨rfl, b8, rfl⟩ | ⟨rfl, b8, rfl⟩)
    ·
      refine ⟨_, rfl, ?_⟩
      refine R_ifF (nx := 14) rfl rfl rfl ?_
      refine R_lo (nx := 15) rfl rfl rfl rfl ?_
      refine R_op (nx := 16) rfl rfl rfl ?_
      refine R_op (nx := 17) rfl rfl rfl ?_
      refine R_call1 (nx := 20) (as := [(0, d), (0, 0), (0, 4)]) (rest := []) rfl rfl (fun _ _ => rfl) rfl rfl rfl rfl rfl rfl rfl rfl (Cl.mono (c_M_in S d 0 4) ?_)
      rintro _ _ (⟨rfl, b17, rfl⟩ | ⟨rfl, b17, rfl⟩)
      ·
        refine ⟨_, rfl, ?_⟩
        refine R_ifT (tg := 25) rfl rfl rfl ?_
        refine R_lo (nx := 26) rfl rfl rfl rfl ?_
        refine R_lo (nx := 27) rfl rfl rfl rfl ?_
        refine R_call1 (nx := 30) (as := [(2, 71), (0, c)]) (rest := []) rfl rfl (fun _ _ => rfl) rfl rfl rfl rfl rfl rfl rfl rfl (Cl.mono (c_M_brokenAt S c (by omega) (AK A c) (show MR S c (AK A c) by first | assumption | exact MR.up (by assumption) (by omega) | exact MR.up (MR.up (by assumption) (by omega)) (by omega) | exact MR.up (MR.up (MR.up (by assumption) (by omega)) (by omega)) (by omega)) (by assumption)) ?_)
        rintro _ _ ⟨rfl, rfl⟩
        refine ⟨_, rfl, ?_⟩
        refine R_if (nx := 33) (tg := 38) rfl rfl rfl (mm_cnd_eq _ _) (fun c30 => ?_) (fun c30 => ?_)
        ·
          have e30 : Xfb (AK A c) = 0 := c30
          refine R_lo (nx := 39) rfl rfl rfl rfl ?_
          refine R_lo (nx := 40) rfl rfl rfl rfl ?_
          refine R_lo (nx := 41) rfl rfl rfl rfl ?_
          refine R_lo (nx := 42) rfl rfl rfl rfl ?_
          refine R_call1 (nx := 45) (as := [(2, 71), (0, c), (0, p), (0, d)]) (rest := []) rfl rfl (fun _ _ => rfl) rfl rfl rfl rfl rfl rfl rfl rfl (Cl.mono (c_M_leftOf S c (by omega) (AK A c) (show MR S c (AK A c) by first | assumption | exact MR.up (by assumption) (by omega) | exact MR.up (MR.up (by assumption) (by omega)) (by omega) | exact MR.up (MR.up (MR.up (by assumption) (by omega)) (by omega)) (by omega)) v1 e30 p d b8) ?_)
          rintro _ S42 ⟨rfl, f42⟩
          refine ⟨_, rfl, ?_⟩
          refine R_ret rfl (fun _ _ => rfl) rfl rfl ?_
          rw [show Q_left A c p d = ((stay (AK A c) p d), A) from by simp only [Q_left, b1, b8, b17, c30, e30, ifo, ifm, ifp, iffq, ↓reduceIte, ite_self, and_self, and_true, true_and, and_false, false_and, or_true, true_or, or_false, false_or, or_self, not_true_eq_false, not_false_eq_true, ne_eq]]; exact ⟨rfl, hRR.fr (R71.of (f42 71 (by omega))) fun b hb => f42 b (by omega), fun b hb => f42 b (by omega)⟩
        ·
          have e30 : ¬ Xfb (AK A c) = 0 := c30
          refine R_op (nx := 35) rfl rfl rfl ?_
          refine R_op (nx := 38) (pc' := 45) rfl rfl rfl ?_
          refine R_ret rfl (fun _ _ => rfl) rfl rfl ?_
          rw [show Q_left A c p d = ((-4), A) from by simp only [Q_left, b1, b8, b17, c30, e30, ifo, ifm, ifp, iffq, ↓reduceIte, ite_self, and_self, and_true, true_and, and_false, false_and, or_true, true_or, or_false, false_or, or_self, not_true_eq_false, not_false_eq_true, ne_eq]]; exact ⟨rfl, hRR, fun b _ => rfl⟩
      ·
        refine ⟨_, rfl, ?_⟩
        refine R_ifF (nx := 23) rfl rfl rfl ?_
        refine R_op (nx := 24) rfl rfl rfl ?_
        refine R_ret rfl (fun _ _ => rfl) rfl rfl ?_
        rw [show Q_left A c p d = ((-1), A) from by simp only [Q_left, b1, b8, b17, ifo, ifm, ifp, iffq, ↓reduceIte, ite_self, and_self, and_true, true_and, and_false, false_and, or_true, true_or, or_false, false_or, or_self, not_true_eq_false, not_false_eq_true, ne_eq]]; exact ⟨rfl, hRR, fun b _ => rfl⟩
    ·
      refine ⟨_, rfl, ?_⟩
      refine R_ifT (tg := 23) rfl rfl rfl ?_
      refine R_op (nx := 24) rfl rfl rfl ?_
      refine R_ret rfl (fun _ _ => rfl) rfl rfl ?_
      rw [show Q_left A c p d = ((-1), A) from by simp only [Q_left, b1, b8, ifo, ifm, ifp, iffq, ↓reduceIte, ite_self, and_self, and_true, true_and, and_false, false_and, or_true, true_or, or_false, false_or, or_self, not_true_eq_false, not_false_eq_true, ne_eq]]; exact ⟨rfl, hRR, fun b _ => rfl⟩
  ·
    try have k1 := hRR.k b1.1 b1.2
    try have n1 := k1.n
    try have z1 := k1.1.nr
    try have v1 := hV.1 _ b1.1 b1.2
    try have r1 := v1.2.1
    refine ⟨_, rfl, ?_⟩
    refine R_ifT (tg := 23) rfl rfl rfl ?_
    refine R_op (nx := 24) rfl rfl rfl ?_
    refine R_ret rfl (fun _ _ => rfl) rfl rfl ?_
    rw [show Q_left A c p d = ((-1), A) from by simp only [Q_left, b1, ifo, ifm, ifp, iffq, ↓reduceIte, ite_self, and_self, and_true, true_and, and_false, false_and, or_true, true_or, or_false, false_or, or_self, not_true_eq_false, not_false_eq_true, ne_eq]]; exact ⟨rfl, hRR, fun b _ => rfl⟩

set_option maxRecDepth 20000 in
set_option maxHeartbeats 4000000 in
theorem c_M_would (S : mm_S) (A : mm_A) (hRR : RR S A) (hV : Vs A) (c x y v p d : Int) : Cl 67 [(2, 71), (0, c), (0, x), (0, y), (0, v), (0, p), (0, d)] S (fun vv S' => vv = some (0, (Q_would A c x y v p d).1) ∧ RR S' (Q_would A c x y v p d).2 ∧ ∀ b, ¬ (71 ≤ b ∧ b < 91) → S' b = S b) := by
  refine ⟨Nat.le_of_ble_eq_true rfl, ?_⟩
  show Rn k_M_would 0 [(2, 71), (0, c), (0, x), (0, y), (0, v), (0, p), (0, d), (9, 0), (9, 0)] [] S _
  refine R_lo (nx := 1) rfl rfl rfl rfl ?_
  refine R_lo (nx := 2) rfl rfl rfl rfl ?_
  refine R_lo (nx := 3) rfl rfl rfl rfl ?_
  refine R_lo (nx := 4) rfl rfl rfl rfl ?_
  refine R_call1 (nx := 7) (as := [(2, 71), (0, c), (0, x), (0, y)]) (rest := []) rfl rfl (fun _ _ => rfl) rfl rfl rfl rfl rfl rfl rfl rfl (Cl.mono (c_M_isEntry S (AK A) (by first | assumption | exact hRR.1) c x y) ?_)
  rintro _ _ (⟨rfl, b4, rfl⟩ | ⟨rfl, b4, rfl⟩)
  ·
    try have k4 := hRR.k b4.1.1 b4.1.2
    try have n4 := k4.n
    try have z4 := k4.1.nr
    try have v4 := hV.1 _ b4.1.1 b4.1.2
    try have r4 := v4.2.1
    refine ⟨_, rfl, ?_⟩
    refine R_ifF (nx := 10) rfl rfl rfl ?_
    refine R_lo (nx := 11) rfl rfl rfl rfl ?_
    refine R_lo (nx := 12) rfl rfl rfl rfl ?_
    refine R_lo (nx := 13) rfl rfl rfl rfl ?_
    refine R_lo (nx := 14) rfl rfl rfl rfl ?_
    refine R_call1 (nx := 17) (as := [(2, 71), (0, c), (0, x), (0, y)]) (rest := []) rfl rfl (fun _ _ => rfl) rfl rfl rfl rfl rfl rfl rfl rfl (Cl.mono (c_M_may S c (by omega) (AK A c) (show MRr S c (AK A c) by first | assumption | exact MR.r (by assumption) | exact MRr.up (by assumption) (by omega) | exact MRr.up (MR.r (by assumption)) (by omega) | exact MRr.up (MRr.up (MR.r (by assumption)) (by omega)) (by omega)) (by assumption) x y (by omega) (by omega)) ?_)
    rintro _ _ (⟨rfl, b14, rfl⟩ | ⟨rfl, b14, rfl⟩)
    ·
      refine ⟨_, rfl, ?_⟩
      refine R_ifF (nx := 20) rfl rfl rfl ?_
      refine R_lo (nx := 22) rfl rfl rfl rfl ?_
      refine R_op (nx := 24) rfl rfl rfl ?_
      refine R_op (nx := 26) rfl rfl rfl ?_
      refine R_call1 (nx := 29) (as := [(0, v), (0, (-9)), (0, 9)]) (rest := []) rfl rfl (fun _ _ => rfl) rfl rfl rfl rfl rfl rfl rfl rfl (Cl.mono (c_M_in S v (-9) 9) ?_)
      rintro _ _ (⟨rfl, b26, rfl⟩ | ⟨rfl, b26, rfl⟩)
      ·
        refine ⟨_, rfl, ?_⟩
        refine R_ifF (nx := 32) rfl rfl rfl ?_
        refine R_lo (nx := 34) rfl rfl rfl rfl ?_
        refine R_call1 (nx := 37) (as := [(0, p)]) (rest := []) rfl rfl (fun _ _ => rfl) rfl rfl rfl rfl rfl rfl rfl rfl (Cl.mono (c_M_isPrime S p) ?_)
        rintro _ _ (⟨rfl, b34, rfl⟩ | ⟨rfl, b34, rfl⟩)
        ·
          refine ⟨_, rfl, ?_⟩
          refine R_ifF (nx := 40) rfl rfl rfl ?_
          refine R_lo (nx := 42) rfl rfl rfl rfl ?_
          refine R_op (nx := 43) rfl rfl rfl ?_
          refine R_op (nx := 44) rfl rfl rfl ?_
          refine R_call1 (nx := 47) (as := [(0, d), (0, 0), (0, 4)]) (rest := []) rfl rfl (fun _ _ => rfl) rfl rfl rfl rfl rfl rfl rfl rfl (Cl.mono (c_M_in S d 0 4) ?_)
          rintro _ _ (⟨rfl, b44, rfl⟩ | ⟨rfl, b44, rfl⟩)
          ·
            refine ⟨_, rfl, ?_⟩
            refine R_ifT (tg := 52) rfl rfl rfl ?_
            refine R_lo (nx := 53) rfl rfl rfl rfl ?_
            refine R_op (nx := 54) rfl rfl rfl ?_
            refine R_put (nx := 57) (kk := 9) rfl rfl rfl rfl rfl ?_
            refine R_lo (nx := 58) rfl rfl rfl rfl ?_
            refine R_op (nx := 59) rfl rfl rfl ?_
            refine R_put (nx := 62) (kk := 10) rfl rfl rfl rfl rfl ?_
            refine R_lo (nx := 63) rfl rfl rfl rfl ?_
            refine R_op (nx := 64) rfl rfl rfl ?_
            refine R_put (nx := 67) (kk := 11) rfl rfl rfl rfl rfl ?_
            refine R_lo (nx := 68) rfl rfl rfl rfl ?_
            refine R_lo (nx := 69) rfl rfl rfl rfl ?_
            refine R_lo (nx := 70) rfl rfl rfl rfl ?_
            refine R_lo (nx := 71) rfl rfl rfl rfl ?_
            refine R_call1 (nx := 74) (as := [(2, 71), (0, c), (0, x), (0, y)]) (rest := []) rfl rfl (fun _ _ => rfl) rfl rfl rfl rfl rfl rfl rfl rfl (Cl.mono (c_M_edge (mm_up (mm_up (mm_up S 71 9 1) 71 10 1) 71 11 1) c (by omega) (AK A c) (show MRr (mm_up (mm_up (mm_up S 71 9 1) 71 10 1) 71 11 1) c (AK A c) by first | assumption | exact MR.r (by assumption) | exact MRr.up (by assumption) (by omega) | exact MRr.up (MR.r (by assumption)) (by omega) | exact MRr.up (MRr.up (MR.r (by assumption)) (by omega)) (by omega)) x y (by omega) (by omega)) ?_)
            rintro _ _ ⟨rfl, rfl⟩
            refine ⟨_, rfl, ?_⟩
            refine R_lo (nx := 76) (ls' := [(2, 71), (0, c), (0, x), (0, y), (0, v), (0, p), (0, d), (0, (Xe (AK A c) x y)), (9, 0)]) rfl rfl rfl rfl ?_
            refine R_lo (nx := 77) rfl rfl rfl rfl ?_
            refine R_get (nx := 80) (w := (2, 75)) rfl rfl rfl rfl ?_
            refine R_op (nx := 83) rfl rfl rfl ?_
            refine R_lo (nx := 84) rfl rfl rfl rfl ?_
            refine R_imul (nx := 85) (z := (144 * c)) rfl rfl rfl ⟨by omega, by omega⟩ ?_
            refine R_op (nx := 87) rfl rfl rfl ?_
            refine R_lo (nx := 88) rfl rfl rfl rfl ?_
            refine R_imul (nx := 89) (z := (12 * x)) rfl rfl rfl ⟨by omega, by omega⟩ ?_
            refine R_iadd (nx := 90) (z := ((144 * c) + (12 * x))) rfl rfl rfl ⟨by omega, by omega⟩ ?_
            refine R_lo (nx := 91) rfl rfl rfl rfl ?_
            refine R_iadd (nx := 92) (z := (((144 * c) + (12 * x)) + y)) rfl rfl rfl ⟨by omega, by omega⟩ ?_
            refine R_lo (nx := 94) rfl rfl rfl rfl ?_
            refine R_iast (nx := 95) rfl rfl (mm_el_ok 1 720 (by decide) rfl (by decide) (by omega) (by omega)) ?_
            have m95 : MR (mm_up (mm_up (mm_up (mm_up S 71 9 1) 71 10 1) 71 11 1) 75 (((144 * c) + (12 * x)) + y) v) c (Xset (AK A c) x y v) := (((k4.up (by omega)).up (by omega)).up (by omega)).set b4.2.1 b4.2.2
            have vs := Xset_Vx v4 (v := v) b26 (Or.inr b14)
            have rs := vs.2.1
            refine R_lo (nx := 96) rfl rfl rfl rfl ?_
            refine R_lo (nx := 97) rfl rfl rfl rfl ?_
            refine R_call1 (nx := 100) (as := [(2, 71), (0, c)]) (rest := []) rfl rfl (fun _ _ => rfl) rfl rfl rfl rfl rfl rfl rfl rfl (Cl.mono (c_M_brokenAt (mm_up (mm_up (mm_up (mm_up S 71 9 1) 71 10 1) 71 11 1) 75 (((144 * c) + (12 * x)) + y) v) c (by omega) (Xset (AK A c) x y v) (show MR (mm_up (mm_up (mm_up (mm_up S 71 9 1) 71 10 1) 71 11 1) 75 (((144 * c) + (12 * x)) + y) v) c (Xset (AK A c) x y v) by first | assumption | exact MR.up (by assumption) (by omega) | exact MR.up (MR.up (by assumption) (by omega)) (by omega) | exact MR.up (MR.up (MR.up (by assumption) (by omega)) (by omega)) (by omega)) (by assumption)) ?_)
            rintro _ _ ⟨rfl, rfl⟩
            refine ⟨_, rfl, ?_⟩
            refine R_if (nx := 103) (tg := 108) rfl rfl rfl (mm_cnd_eq _ _) (fun c100 => ?_) (fun c100 => ?_)
            ·
              have e100 : Xfb (Xset (AK A c) x y v) = 0 := c100
              refine R_lo (nx := 109) rfl rfl rfl rfl ?_
              refine R_lo (nx := 110) rfl rfl rfl rfl ?_
              refine R_lo (nx := 112) rfl rfl rfl rfl ?_
              refine R_lo (nx := 114) rfl rfl rfl rfl ?_
              refine R_call1 (nx := 117) (as := [(2, 71), (0, c), (0, p), (0, d)]) (rest := []) rfl rfl (fun _ _ => rfl) rfl rfl rfl rfl rfl rfl rfl rfl (Cl.mono (c_M_leftOf (mm_up (mm_up (mm_up (mm_up S 71 9 1) 71 10 1) 71 11 1) 75 (((144 * c) + (12 * x)) + y) v) c (by omega) (Xset (AK A c) x y v) (show MR (mm_up (mm_up (mm_up (mm_up S 71 9 1) 71 10 1) 71 11 1) 75 (((144 * c) + (12 * x)) + y) v) c (Xset (AK A c) x y v) by first | assumption | exact MR.up (by assumption) (by omega) | exact MR.up (MR.up (by assumption) (by omega)) (by omega) | exact MR.up (MR.up (MR.up (by assumption) (by omega)) (by omega)) (by omega)) vs e100 p d b34) ?_)
              rintro _ S114 ⟨rfl, f114⟩
              refine ⟨_, rfl, ?_⟩
              refine R_lo (nx := 119) (ls' := [(2, 71), (0, c), (0, x), (0, y), (0, v), (0, p), (0, d), (0, (Xe (AK A c) x y)), (0, (stay (Xset (AK A c) x y v) p d))]) rfl rfl rfl rfl ?_
              refine R_lo (nx := 120) rfl rfl rfl rfl ?_
              refine R_get (nx := 123) (w := (2, 75)) rfl rfl rfl rfl ?_
              refine R_op (nx := 126) rfl rfl rfl ?_
              refine R_lo (nx := 127) rfl rfl rfl rfl ?_
              refine R_imul (nx := 128) (z := (144 * c)) rfl rfl rfl ⟨by omega, by omega⟩ ?_
              refine R_op (nx := 130) rfl rfl rfl ?_
              refine R_lo (nx := 131) rfl rfl rfl rfl ?_
              refine R_imul (nx := 132) (z := (12 * x)) rfl rfl rfl ⟨by omega, by omega⟩ ?_
              refine R_iadd (nx := 133) (z := ((144 * c) + (12 * x))) rfl rfl rfl ⟨by omega, by omega⟩ ?_
              refine R_lo (nx := 134) rfl rfl rfl rfl ?_
              refine R_iadd (nx := 135) (z := (((144 * c) + (12 * x)) + y)) rfl rfl rfl ⟨by omega, by omega⟩ ?_
              refine R_lo (nx := 137) rfl rfl rfl rfl ?_
              refine R_iast (nx := 138) rfl rfl (mm_el_ok 1 720 (by decide) rfl (by decide) (by omega) (by omega)) ?_
              refine R_lo (nx := 140) rfl rfl rfl rfl ?_
              refine R_ret rfl (fun _ _ => rfl) rfl rfl ?_
              rw [show Q_would A c x y v p d = ((stay (Xset (AK A c) x y v) p d), Atr A 1 1 1) from by unfold Q_would ifm ifp; rw [if_pos b4.1, if_pos b14, if_pos b26, if_pos b34, if_pos b44]; first | rw [show wld (Xset (AK A c) x y v) p d = stay (Xset (AK A c) x y v) p d from if_pos e100] | rw [show wld (Xset (AK A c) x y v) p d = -4 from if_neg e100]]
              have mZ : MR (mm_up S114 75 (((144 * c) + (12 * x)) + y) (Xe (AK A c) x y)) c (AK A c) := by
                have := (show MR S114 c (Xset (AK A c) x y v) from (m95.fr fun e q r => f114 e (by omega))).set (v := Xe (AK A c) x y) b4.2.1 b4.2.2
                rw [Xset_back] at this
                exact this
              have oZ : Oth S (mm_up S114 75 (((144 * c) + (12 * x)) + y) (Xe (AK A c) x y)) c := by
                have o1 : Oth S (mm_up (mm_up (mm_up (mm_up S 71 9 1) 71 10 1) 71 11 1) 75 (144 * c + 12 * x + y) v) c := ((((Oth.rf S c).u71 9 1).u71 10 1).u71 11 1).u75 v (by omega)
                have o2 : Oth S S114 c := (fun c2 K2 q1 q2 q3 q4 => (o1 c2 K2 q1 q2 q3 q4).fr fun e q r => f114 e (by omega))
                exact o2.u75 _ (by omega)
              refine ⟨rfl, hRR.try mZ oZ ⟨?_, ?_, ?_⟩ ?_ ?_ fun b hb => by rw [mm_unq (by omega), f114 b (by omega), mm_unq (by omega), mm_unq (by omega), mm_unq (by omega), mm_unq (by omega)], fun b hb => by rw [mm_unq (by omega), f114 b (by omega), mm_unq (by omega), mm_unq (by omega), mm_unq (by omega), mm_unq (by omega)]⟩
              all_goals rw [mm_unq (by decide), f114 71 (by omega), mm_unq (by decide)]
              all_goals ((repeat rw [mm_uk (by decide)]); first | done | exact mm_ua | rfl)
            ·
              have e100 : ¬ Xfb (Xset (AK A c) x y v) = 0 := c100
              refine R_op (nx := 105) rfl rfl rfl ?_
              refine R_op (nx := 108) (pc' := 117) rfl rfl rfl ?_
              refine R_lo (nx := 119) (ls' := [(2, 71), (0, c), (0, x), (0, y), (0, v), (0, p), (0, d), (0, (Xe (AK A c) x y)), (0, (-4))]) rfl rfl rfl rfl ?_
              refine R_lo (nx := 120) rfl rfl rfl rfl ?_
              refine R_get (nx := 123) (w := (2, 75)) rfl rfl rfl rfl ?_
              refine R_op (nx := 126) rfl rfl rfl ?_
              refine R_lo (nx := 127) rfl rfl rfl rfl ?_
              refine R_imul (nx := 128) (z := (144 * c)) rfl rfl rfl ⟨by omega, by omega⟩ ?_
              refine R_op (nx := 130) rfl rfl rfl ?_
              refine R_lo (nx := 131) rfl rfl rfl rfl ?_
              refine R_imul (nx := 132) (z := (12 * x)) rfl rfl rfl ⟨by omega, by omega⟩ ?_
              refine R_iadd (nx := 133) (z := ((144 * c) + (12 * x))) rfl rfl rfl ⟨by omega, by omega⟩ ?_
              refine R_lo (nx := 134) rfl rfl rfl rfl ?_
              refine R_iadd (nx := 135) (z := (((144 * c) + (12 * x)) + y)) rfl rfl rfl ⟨by omega, by omega⟩ ?_
              refine R_lo (nx := 137) rfl rfl rfl rfl ?_
              refine R_iast (nx := 138) rfl rfl (mm_el_ok 1 720 (by decide) rfl (by decide) (by omega) (by omega)) ?_
              refine R_lo (nx := 140) rfl rfl rfl rfl ?_
              refine R_ret rfl (fun _ _ => rfl) rfl rfl ?_
              rw [show Q_would A c x y v p d = ((-4), Atr A 1 1 1) from by unfold Q_would ifm ifp; rw [if_pos b4.1, if_pos b14, if_pos b26, if_pos b34, if_pos b44]; first | rw [show wld (Xset (AK A c) x y v) p d = stay (Xset (AK A c) x y v) p d from if_pos e100] | rw [show wld (Xset (AK A c) x y v) p d = -4 from if_neg e100]]
              have mZ : MR (mm_up (mm_up (mm_up (mm_up (mm_up S 71 9 1) 71 10 1) 71 11 1) 75 (((144 * c) + (12 * x)) + y) v) 75 (((144 * c) + (12 * x)) + y) (Xe (AK A c) x y)) c (AK A c) := by
                have := (show MR (mm_up (mm_up (mm_up (mm_up S 71 9 1) 71 10 1) 71 11 1) 75 (((144 * c) + (12 * x)) + y) v) c (Xset (AK A c) x y v) from m95).set (v := Xe (AK A c) x y) b4.2.1 b4.2.2
                rw [Xset_back] at this
                exact this
              have oZ : Oth S (mm_up (mm_up (mm_up (mm_up (mm_up S 71 9 1) 71 10 1) 71 11 1) 75 (((144 * c) + (12 * x)) + y) v) 75 (((144 * c) + (12 * x)) + y) (Xe (AK A c) x y)) c := by
                have o1 : Oth S (mm_up (mm_up (mm_up (mm_up S 71 9 1) 71 10 1) 71 11 1) 75 (144 * c + 12 * x + y) v) c := ((((Oth.rf S c).u71 9 1).u71 10 1).u71 11 1).u75 v (by omega)
                have o2 : Oth S (mm_up (mm_up (mm_up (mm_up S 71 9 1) 71 10 1) 71 11 1) 75 (((144 * c) + (12 * x)) + y) v) c := o1
                exact o2.u75 _ (by omega)
              refine ⟨rfl, hRR.try mZ oZ ⟨?_, ?_, ?_⟩ ?_ ?_ fun b hb => by rw [mm_unq (by omega), mm_unq (by omega), mm_unq (by omega), mm_unq (by omega), mm_unq (by omega)], fun b hb => by rw [mm_unq (by omega), mm_unq (by omega), mm_unq (by omega), mm_unq (by omega), mm_unq (by omega)]⟩
              all_goals rw [mm_unq (by decide), mm_unq (by decide)]
              all_goals ((repeat rw [mm_uk (by decide)]); first | done | exact mm_ua | rfl)
          ·
            refine ⟨_, rfl, ?_⟩
            refine R_ifF (nx := 50) rfl rfl rfl ?_
            refine R_op (nx := 51) rfl rfl rfl ?_
            refine R_ret rfl (fun _ _ => rfl) rfl rfl ?_
            rw [show Q_would A c x y v p d = ((-1), A) from by first | (simp only [Q_would, b4, b14, b26, b34, b44, ifo, ifm, ifp, iffq, ↓reduceIte, ite_self, and_self, and_true, true_and, and_false, false_and, or_true, true_or, or_false, false_or, or_self, not_true_eq_false, not_false_eq_true, ne_eq]; done) | (unfold Q_would ifm ifp; by_cases q0 : 0 ≤ c ∧ c < 4; rw [if_pos q0]; by_cases q1 : Xmay (AK A c) x y; rw [if_pos q1]; exact absurd ⟨q0, q1.1, q1.2.1⟩ b4; rw [if_neg q1]; rw [if_neg q0])]; exact ⟨rfl, hRR, fun b _ => rfl⟩
        ·
          refine ⟨_, rfl, ?_⟩
          refine R_ifT (tg := 50) rfl rfl rfl ?_
          refine R_op (nx := 51) rfl rfl rfl ?_
          refine R_ret rfl (fun _ _ => rfl) rfl rfl ?_
          rw [show Q_would A c x y v p d = ((-1), A) from by first | (simp only [Q_would, b4, b14, b26, b34, ifo, ifm, ifp, iffq, ↓reduceIte, ite_self, and_self, and_true, true_and, and_false, false_and, or_true, true_or, or_false, false_or, or_self, not_true_eq_false, not_false_eq_true, ne_eq]; done) | (unfold Q_would ifm ifp; by_cases q0 : 0 ≤ c ∧ c < 4; rw [if_pos q0]; by_cases q1 : Xmay (AK A c) x y; rw [if_pos q1]; exact absurd ⟨q0, q1.1, q1.2.1⟩ b4; rw [if_neg q1]; rw [if_neg q0])]; exact ⟨rfl, hRR, fun b _ => rfl⟩
      ·
        refine ⟨_, rfl, ?_⟩
        refine R_ifT (tg := 50) rfl rfl rfl ?_
        refine R_op (nx := 51) rfl rfl rfl ?_
        refine R_ret rfl (fun _ _ => rfl) rfl rfl ?_
        rw [show Q_would A c x y v p d = ((-1), A) from by first | (simp only [Q_would, b4, b14, b26, ifo, ifm, ifp, iffq, ↓reduceIte, ite_self, and_self, and_true, true_and, and_false, false_and, or_true, true_or, or_false, false_or, or_self, not_true_eq_false, not_false_eq_true, ne_eq]; done) | (unfold Q_would ifm ifp; by_cases q0 : 0 ≤ c ∧ c < 4; rw [if_pos q0]; by_cases q1 : Xmay (AK A c) x y; rw [if_pos q1]; exact absurd ⟨q0, q1.1, q1.2.1⟩ b4; rw [if_neg q1]; rw [if_neg q0])]; exact ⟨rfl, hRR, fun b _ => rfl⟩
    ·
      refine ⟨_, rfl, ?_⟩
      refine R_ifT (tg := 50) rfl rfl rfl ?_
      refine R_op (nx := 51) rfl rfl rfl ?_
      refine R_ret rfl (fun _ _ => rfl) rfl rfl ?_
      rw [show Q_would A c x y v p d = ((-1), A) from by first | (simp only [Q_would, b4, b14, ifo, ifm, ifp, iffq, ↓reduceIte, ite_self, and_self, and_true, true_and, and_false, false_and, or_true, true_or, or_false, false_or, or_self, not_true_eq_false, not_false_eq_true, ne_eq]; done) | (unfold Q_would ifm ifp; by_cases q0 : 0 ≤ c ∧ c < 4; rw [if_pos q0]; by_cases q1 : Xmay (AK A c) x y; rw [if_pos q1]; exact absurd ⟨q0, q1.1, q1.2.1⟩ b4; rw [if_neg q1]; rw [if_neg q0])]; exact ⟨rfl, hRR, fun b _ => rfl⟩
  ·
    try have k4 := hRR.k b4.1.1 b4.1.2
    try have n4 := k4.n
    try have z4 := k4.1.nr
    try have v4 := hV.1 _ b4.1.1 b4.1.2
    try have r4 := v4.2.1
    refine ⟨_, rfl, ?_⟩
    refine R_ifT (tg := 50) rfl rfl rfl ?_
    refine R_op (nx := 51) rfl rfl rfl ?_
    refine R_ret rfl (fun _ _ => rfl) rfl rfl ?_
    rw [show Q_would A c x y v p d = ((-1), A) from by first | (simp only [Q_would, b4, ifo, ifm, ifp, iffq, ↓reduceIte, ite_self, and_self, and_true, true_and, and_false, false_and, or_true, true_or, or_false, false_or, or_self, not_true_eq_false, not_false_eq_true, ne_eq]; done) | (unfold Q_would ifm ifp; by_cases q0 : 0 ≤ c ∧ c < 4; rw [if_pos q0]; by_cases q1 : Xmay (AK A c) x y; rw [if_pos q1]; exact absurd ⟨q0, q1.1, q1.2.1⟩ b4; rw [if_neg q1]; rw [if_neg q0])]; exact ⟨rfl, hRR, fun b _ => rfl⟩
