/-! Reduction, as the class does it. -/
theorem isC_out {a : Int} (h : mm_isC a) : a = 3 ∨ 23 ≤ a := by
  unfold mm_isC at h
  omega

theorem pkb {k z p : Int} (hk : 0 ≤ k ∧ k < p) (hz : 0 ≤ z ∧ z < p) (hp : 2 ≤ p ∧ p ≤ 7) : 0 ≤ k * z ∧ k * z ≤ 49 := by
  refine ⟨Int.mul_nonneg hk.1 hz.1, ?_⟩
  have h1 := Int.mul_le_mul_of_nonneg_left (show z ≤ 7 by omega) hk.1
  omega

theorem c_In_cmp (S : mm_S) (x y : Int) : Cl 183 [(0, x), (0, y)] S (fun v S' => (v = some (0, -1) ∧ x < y ∧ S = S') ∨ (v = some (0, 0) ∧ x = y ∧ S = S') ∨ (v = some (0, 1) ∧ y < x ∧ S = S')) := (c_In_compare S x y).mono fun v S' h => by
  obtain ⟨h1, h2⟩ := h
  by_cases a : x < y
  · rw [if_pos a] at h1; exact Or.inl ⟨h1, a, h2⟩
  · rw [if_neg a] at h1
    by_cases b : x = y
    · rw [if_pos b] at h1; exact Or.inr (Or.inl ⟨h1, b, h2⟩)
    · rw [if_neg b] at h1; exact Or.inr (Or.inr ⟨h1, by omega, h2⟩)

set_option maxRecDepth 20000 in
set_option maxHeartbeats 4000000 in
theorem c_Rd_leaves (S : mm_S) (a : Int) (hC : mm_isC a) (K : CX) (hM : MC S a K) (w p : Int) (hV : Vx K) (hw : w = 0 ∨ w = 1) (hp : Xpr p) (h80 : S 8 0 = a) (h81 : S 8 1 = w) (h82 : S 8 2 = p) (v : Int) (hv : mm_r32 v) : Cl 158 [(2, 8), (0, v)] S (fun u S' => u = some (0, v % p) ∧ S = S') := by
  refine ⟨Nat.le_of_ble_eq_true rfl, ?_⟩
  show Rn k_Rd_leaves 0 [(2, 8), (0, v)] [] S _
  have hnr := hV.1.1
  have hR := hV.2.1
  have hpb := pr_b hp
  refine R_lo (nx := 1) rfl rfl rfl rfl ?_
  refine R_get (nx := 4) (w := (0, (S 8 2))) rfl rfl rfl rfl ?_
  rw [show (S 8 2) = p from by assumption]
  refine R_if (nx := 7) (tg := 18) rfl rfl rfl (mm_cnd_le _ _) (fun c4 => ?_) (fun c4 => ?_)
  ·
    exfalso
    omega
  ·
    refine R_lo (nx := 8) rfl rfl rfl rfl ?_
    refine R_lo (nx := 9) rfl rfl rfl rfl ?_
    refine R_get (nx := 12) (w := (0, (S 8 2))) rfl rfl rfl rfl ?_
    rw [show (S 8 2) = p from by assumption]
    refine R_call1 (nx := 15) (as := [(0, v), (0, p)]) (rest := []) rfl rfl (fun _ _ => rfl) rfl rfl rfl rfl rfl rfl rfl rfl (Cl.mono (c_Ma_floorMod S v p (by omega) hv) ?_)
    rintro _ _ ⟨rfl, rfl⟩
    refine ⟨_, rfl, ?_⟩
    refine R_op (nx := 18) (pc' := 19) rfl rfl rfl ?_
    refine R_ret rfl (fun _ _ => rfl) rfl rfl ?_
    exact ⟨rfl, rfl⟩

set_option maxRecDepth 20000 in
set_option maxHeartbeats 4000000 in
theorem c_Rd_remainder (S : mm_S) (x y : Int) (hx : 0 ≤ x ∧ x < 12) (hy : 0 ≤ y ∧ y < 12) : Cl 159 [(2, 8), (0, x), (0, y)] S (fun v S' => v = some (0, S 10 (x * 12 + y)) ∧ S = S') := by
  refine ⟨Nat.le_of_ble_eq_true rfl, ?_⟩
  show Rn k_Rd_remainder 0 [(2, 8), (0, x), (0, y)] [] S _
  refine R_lo (nx := 1) rfl rfl rfl rfl ?_
  refine R_get (nx := 4) (w := (2, 10)) rfl rfl rfl rfl ?_
  refine R_lo (nx := 5) rfl rfl rfl rfl ?_
  refine R_op (nx := 7) rfl rfl rfl ?_
  refine R_imul (nx := 8) (z := (x * 12)) rfl rfl rfl ⟨by omega, by omega⟩ ?_
  refine R_lo (nx := 9) rfl rfl rfl rfl ?_
  refine R_iadd (nx := 10) (z := ((x * 12) + y)) rfl rfl rfl ⟨by omega, by omega⟩ ?_
  refine R_call1 (nx := 13) (as := [(2, 10), (0, ((x * 12) + y))]) (rest := []) rfl rfl (fun _ _ => rfl) rfl rfl rfl rfl rfl rfl rfl rfl (Cl.mono (c_P_get_in S 10 144 ⟨by decide, rfl⟩ (by decide) ((x * 12) + y) ⟨by omega, by omega⟩) ?_)
  rintro _ _ ⟨rfl, rfl⟩
  refine ⟨_, rfl, ?_⟩
  refine R_ret rfl (fun _ _ => rfl) rfl rfl ?_
  exact ⟨rfl, rfl⟩

set_option maxRecDepth 20000 in
set_option maxHeartbeats 4000000 in
theorem c_Rd_standsBefore (S : mm_S) (a : Int) (hC : mm_isC a) (K : CX) (hM : MC S a K) (w p : Int) (hV : Vx K) (hw : w = 0 ∨ w = 1) (hp : Xpr p) (h80 : S 8 0 = a) (h81 : S 8 1 = w) (h82 : S 8 2 = p) (x y : Int) : Cl 154 [(2, 8), (0, x), (0, y)] S (fun v S' => (v = some (0, 1) ∧ bef K w x y ∧ S = S') ∨ (v = some (0, 0) ∧ ¬ bef K w x y ∧ S = S')) := by
  refine ⟨Nat.le_of_ble_eq_true rfl, ?_⟩
  show Rn k_Rd_standsBefore 0 [(2, 8), (0, x), (0, y), (9, 0), (9, 0)] [] S _
  have hnr := hV.1.1
  have hR := hV.2.1
  have hpb := pr_b hp
  refine R_lo (nx := 1) rfl rfl rfl rfl ?_
  refine R_get (nx := 4) (w := (2, a)) rfl rfl rfl (congrArg (Prod.mk 2) (by assumption)) ?_
  refine R_lo (nx := 5) rfl rfl rfl rfl ?_
  refine R_get (nx := 8) (w := (0, (S 8 1))) rfl rfl rfl rfl ?_
  rw [show (S 8 1) = w from by assumption]
  refine R_lo (nx := 9) rfl rfl rfl rfl ?_
  refine R_call1 (nx := 12) (as := [(2, a), (0, w), (0, x)]) (rest := []) rfl rfl (fun _ _ => rfl) rfl rfl rfl rfl rfl rfl (isC_rc hC _) rfl (Cl.mono (c_C_level S a hC K (by first | assumption | exact MC.up (by assumption) (by omega) | exact MC.up (MC.up (by assumption) (by omega)) (by omega) | exact MC.up (MC.up (MC.up (by assumption) (by omega)) (by omega)) (by omega)) w x) ?_)
  rintro _ _ ⟨rfl, rfl⟩
  refine ⟨_, rfl, ?_⟩
  refine R_lo (nx := 13) rfl rfl rfl rfl ?_
  refine R_get (nx := 16) (w := (2, a)) rfl rfl rfl (congrArg (Prod.mk 2) (by assumption)) ?_
  refine R_lo (nx := 17) rfl rfl rfl rfl ?_
  refine R_get (nx := 20) (w := (0, (S 8 1))) rfl rfl rfl rfl ?_
  rw [show (S 8 1) = w from by assumption]
  refine R_lo (nx := 21) rfl rfl rfl rfl ?_
  refine R_call1 (nx := 24) (as := [(2, a), (0, w), (0, y)]) (rest := [(0, (Xl K w x))]) rfl rfl (fun _ _ => rfl) rfl rfl rfl rfl rfl rfl (isC_rc hC _) rfl (Cl.mono (c_C_level S a hC K (by first | assumption | exact MC.up (by assumption) (by omega) | exact MC.up (MC.up (by assumption) (by omega)) (by omega) | exact MC.up (MC.up (MC.up (by assumption) (by omega)) (by omega)) (by omega)) w y) ?_)
  rintro _ _ ⟨rfl, rfl⟩
  refine ⟨_, rfl, ?_⟩
  refine R_call1 (nx := 27) (as := [(0, (Xl K w x)), (0, (Xl K w y))]) (rest := []) rfl rfl (fun _ _ => rfl) rfl rfl rfl rfl rfl rfl rfl rfl (Cl.mono (c_In_cmp S (Xl K w x) (Xl K w y)) ?_)
  rintro _ _ (⟨rfl, b24, rfl⟩ | ⟨rfl, b24, rfl⟩ | ⟨rfl, b24, rfl⟩)
  ·
    refine ⟨_, rfl, ?_⟩
    refine R_lo (nx := 28) (ls' := [(2, 8), (0, x), (0, y), (0, (-1)), (9, 0)]) rfl rfl rfl rfl ?_
    refine R_lo (nx := 29) rfl rfl rfl rfl ?_
    refine R_ifF (nx := 32) rfl rfl rfl ?_
    refine R_lo (nx := 33) rfl rfl rfl rfl ?_
    refine R_ifF (nx := 36) rfl rfl rfl ?_
    refine R_op (nx := 37) rfl rfl rfl ?_
    refine R_op (nx := 40) (pc' := 41) rfl rfl rfl ?_
    refine R_ret rfl (fun _ _ => rfl) rfl rfl ?_
    first | exact Or.inl ⟨rfl, by unfold bef; omega, rfl⟩ | exact Or.inr ⟨rfl, by unfold bef; omega, rfl⟩
  ·
    refine ⟨_, rfl, ?_⟩
    refine R_lo (nx := 28) (ls' := [(2, 8), (0, x), (0, y), (0, 0), (9, 0)]) rfl rfl rfl rfl ?_
    refine R_lo (nx := 29) rfl rfl rfl rfl ?_
    refine R_ifT (tg := 42) rfl rfl rfl ?_
    refine R_lo (nx := 43) rfl rfl rfl rfl ?_
    refine R_get (nx := 46) (w := (2, a)) rfl rfl rfl (congrArg (Prod.mk 2) (by assumption)) ?_
    refine R_lo (nx := 47) rfl rfl rfl rfl ?_
    refine R_call1 (nx := 50) (as := [(2, a), (0, x)]) (rest := []) rfl rfl (fun _ _ => rfl) rfl rfl rfl rfl rfl rfl (isC_rc hC _) rfl (Cl.mono (c_C_degree S a hC K (by first | assumption | exact MC.up (by assumption) (by omega) | exact MC.up (MC.up (by assumption) (by omega)) (by omega) | exact MC.up (MC.up (MC.up (by assumption) (by omega)) (by omega)) (by omega)) x) ?_)
    rintro _ _ ⟨rfl, rfl⟩
    refine ⟨_, rfl, ?_⟩
    refine R_lo (nx := 51) rfl rfl rfl rfl ?_
    refine R_get (nx := 54) (w := (2, a)) rfl rfl rfl (congrArg (Prod.mk 2) (by assumption)) ?_
    refine R_lo (nx := 55) rfl rfl rfl rfl ?_
    refine R_call1 (nx := 58) (as := [(2, a), (0, y)]) (rest := [(0, (Xd K x))]) rfl rfl (fun _ _ => rfl) rfl rfl rfl rfl rfl rfl (isC_rc hC _) rfl (Cl.mono (c_C_degree S a hC K (by first | assumption | exact MC.up (by assumption) (by omega) | exact MC.up (MC.up (by assumption) (by omega)) (by omega) | exact MC.up (MC.up (MC.up (by assumption) (by omega)) (by omega)) (by omega)) y) ?_)
    rintro _ _ ⟨rfl, rfl⟩
    refine ⟨_, rfl, ?_⟩
    refine R_call1 (nx := 61) (as := [(0, (Xd K x)), (0, (Xd K y))]) (rest := []) rfl rfl (fun _ _ => rfl) rfl rfl rfl rfl rfl rfl rfl rfl (Cl.mono (c_In_cmp S (Xd K x) (Xd K y)) ?_)
    rintro _ _ (⟨rfl, b58, rfl⟩ | ⟨rfl, b58, rfl⟩ | ⟨rfl, b58, rfl⟩)
    ·
      refine ⟨_, rfl, ?_⟩
      refine R_lo (nx := 63) (ls' := [(2, 8), (0, x), (0, y), (0, 0), (0, (-1))]) rfl rfl rfl rfl ?_
      refine R_lo (nx := 65) rfl rfl rfl rfl ?_
      refine R_ifF (nx := 68) rfl rfl rfl ?_
      refine R_lo (nx := 70) rfl rfl rfl rfl ?_
      refine R_ifF (nx := 73) rfl rfl rfl ?_
      refine R_op (nx := 74) rfl rfl rfl ?_
      refine R_op (nx := 77) (pc' := 91) rfl rfl rfl ?_
      refine R_ret rfl (fun _ _ => rfl) rfl rfl ?_
      first | exact Or.inl ⟨rfl, by unfold bef; omega, rfl⟩ | exact Or.inr ⟨rfl, by unfold bef; omega, rfl⟩
    ·
      refine ⟨_, rfl, ?_⟩
      refine R_lo (nx := 63) (ls' := [(2, 8), (0, x), (0, y), (0, 0), (0, 0)]) rfl rfl rfl rfl ?_
      refine R_lo (nx := 65) rfl rfl rfl rfl ?_
      refine R_ifT (tg := 81) rfl rfl rfl ?_
      refine R_lo (nx := 82) rfl rfl rfl rfl ?_
      refine R_lo (nx := 83) rfl rfl rfl rfl ?_
      refine R_icmp (nx := 86) (tg := 90) rfl rfl rfl (mm_cnd_ge _ _) (fun c83 => ?_) (fun c83 => ?_)
      ·
        refine R_op (nx := 91) rfl rfl rfl ?_
        refine R_ret rfl (fun _ _ => rfl) rfl rfl ?_
        first | exact Or.inl ⟨rfl, by unfold bef; omega, rfl⟩ | exact Or.inr ⟨rfl, by unfold bef; omega, rfl⟩
      ·
        refine R_op (nx := 87) rfl rfl rfl ?_
        refine R_op (nx := 90) (pc' := 91) rfl rfl rfl ?_
        refine R_ret rfl (fun _ _ => rfl) rfl rfl ?_
        first | exact Or.inl ⟨rfl, by unfold bef; omega, rfl⟩ | exact Or.inr ⟨rfl, by unfold bef; omega, rfl⟩
    ·
      refine ⟨_, rfl, ?_⟩
      refine R_lo (nx := 63) (ls' := [(2, 8), (0, x), (0, y), (0, 0), (0, 1)]) rfl rfl rfl rfl ?_
      refine R_lo (nx := 65) rfl rfl rfl rfl ?_
      refine R_ifF (nx := 68) rfl rfl rfl ?_
      refine R_lo (nx := 70) rfl rfl rfl rfl ?_
      refine R_ifT (tg := 77) rfl rfl rfl ?_
      refine R_op (nx := 78) rfl rfl rfl ?_
      refine R_op (nx := 81) (pc' := 91) rfl rfl rfl ?_
      refine R_ret rfl (fun _ _ => rfl) rfl rfl ?_
      first | exact Or.inl ⟨rfl, by unfold bef; omega, rfl⟩ | exact Or.inr ⟨rfl, by unfold bef; omega, rfl⟩
  ·
    refine ⟨_, rfl, ?_⟩
    refine R_lo (nx := 28) (ls' := [(2, 8), (0, x), (0, y), (0, 1), (9, 0)]) rfl rfl rfl rfl ?_
    refine R_lo (nx := 29) rfl rfl rfl rfl ?_
    refine R_ifF (nx := 32) rfl rfl rfl ?_
    refine R_lo (nx := 33) rfl rfl rfl rfl ?_
    refine R_ifT (tg := 40) rfl rfl rfl ?_
    refine R_op (nx := 41) rfl rfl rfl ?_
    refine R_ret rfl (fun _ _ => rfl) rfl rfl ?_
    first | exact Or.inl ⟨rfl, by unfold bef; omega, rfl⟩ | exact Or.inr ⟨rfl, by unfold bef; omega, rfl⟩

set_option maxRecDepth 20000 in
set_option maxHeartbeats 4000000 in
theorem c_Rd_putInOrder (S : mm_S) (a : Int) (hC : mm_isC a) (K : CX) (hM : MC S a K) (w p : Int) (hV : Vx K) (hw : w = 0 ∨ w = 1) (hp : Xpr p) (h80 : S 8 0 = a) (h81 : S 8 1 = w) (h82 : S 8 2 = p)  : Cl 153 [(2, 8)] S (fun v S' => v = none ∧ (∀ k, 0 ≤ k → k < Xn K → S' 9 k = od K w k) ∧ ∀ b, b ≠ 9 → S' b = S b) := by
  refine ⟨Nat.le_of_ble_eq_true rfl, ?_⟩
  show Rn k_Rd_putInOrder 0 [(2, 8), (9, 0), (9, 0)] [] S _
  have hnr := hV.1.1
  have hR := hV.2.1
  have hpb := pr_b hp
  have hout := isC_out hC
  refine R_op (nx := 1) rfl rfl rfl ?_
  refine R_lo (nx := 2) (ls' := [(2, 8), (0, 0), (9, 0)]) rfl rfl rfl rfl ?_
  have L2 : ∀ (f2 : Nat) (S1 : mm_S) (x : Int), (Xn K - x).toNat < f2 → (0 ≤ x ∧ x ≤ Xn K) → (isO K w x (fun k => S1 9 k)) → (∀ b, b ≠ 9 → S1 b = S b) → Rn k_Rd_putInOrder 2 [(2, 8), (0, x), (9, 0)] [] S1 (fun v S' => v = none ∧ (∀ k, 0 ≤ k → k < Xn K → S' 9 k = od K w k) ∧ ∀ b, b ≠ 9 → S' b = S b) := by
    intro f2
    induction f2 with
    | zero => intro S1 x hm2; exact absurd hm2 (Nat.not_lt_zero _)
    | succ f2 ih2 =>
      intro S1 x hm2 hx hO hF
      have k80 : S1 8 0 = a := by rw [hF 8 (by decide)]; exact h80
      have k81 : S1 8 1 = w := by rw [hF 8 (by decide)]; exact h81
      have k82 : S1 8 2 = p := by rw [hF 8 (by decide)]; exact h82
      have m1 : MC S1 a K := hM.fr fun c q r => hF c (by omega)
      refine R_lo (nx := 3) rfl rfl rfl rfl ?_
      refine R_lo (nx := 4) rfl rfl rfl rfl ?_
      refine R_get (nx := 7) (w := (2, a)) rfl rfl rfl (congrArg (Prod.mk 2) (by assumption)) ?_
      refine R_get (nx := 10) (w := (0, (S1 a 0))) rfl rfl (isC_ob hC) rfl ?_
      rw [show (S1 a 0) = Xn K from (by assumption : MC _ a K).n]
      refine R_icmp (nx := 13) (tg := 76) rfl rfl rfl (mm_cnd_ge _ _) (fun c10 => ?_) (fun c10 => ?_)
      ·
        refine R_ret rfl (fun _ _ => rfl) rfl rfl ?_
        exact ⟨rfl, fun k h0 h1 => (od_of (by rw [show Xn K = x by omega]; exact hO) ⟨h0, h1⟩).symm, hF⟩
      ·
        refine R_lo (nx := 14) rfl rfl rfl rfl ?_
        refine R_lo (nx := 15) (ls' := [(2, 8), (0, x), (0, x)]) rfl rfl rfl rfl ?_
        have L15 : ∀ (f15 : Nat) (S2 : mm_S) (pl : Int), pl.toNat < f15 → (0 ≤ pl ∧ pl ≤ x) → (∀ k, 0 ≤ k → k < pl → S2 9 k = S1 9 k) → (∀ k, pl < k → k ≤ x → S2 9 k = S1 9 (k - 1)) → (∀ k, pl ≤ k → k < x → bef K w x (S1 9 k)) → (∀ b, b ≠ 9 → S2 b = S1 b) → Rn k_Rd_putInOrder 15 [(2, 8), (0, x), (0, pl)] [] S2 (fun v S' => v = none ∧ (∀ k, 0 ≤ k → k < Xn K → S' 9 k = od K w k) ∧ ∀ b, b ≠ 9 → S' b = S b) := by
          intro f15
          induction f15 with
          | zero => intro S2 pl hm15; exact absurd hm15 (Nat.not_lt_zero _)
          | succ f15 ih15 =>
            intro S2 pl hm15 hp2 g1 g2 g3 gF
            have j80 : S2 8 0 = a := by rw [gF 8 (by decide)]; exact k80
            have j81 : S2 8 1 = w := by rw [gF 8 (by decide)]; exact k81
            have j82 : S2 8 2 = p := by rw [gF 8 (by decide)]; exact k82
            have m2 : MC S2 a K := m1.fr fun c q r => gF c (by omega)
            refine R_lo (nx := 16) rfl rfl rfl rfl ?_
            refine R_if (nx := 19) (tg := 61) rfl rfl rfl (mm_cnd_le _ _) (fun c16 => ?_) (fun c16 => ?_)
            ·
              refine R_lo (nx := 62) rfl rfl rfl rfl ?_
              refine R_get (nx := 65) (w := (2, 9)) rfl rfl rfl rfl ?_
              refine R_lo (nx := 66) rfl rfl rfl rfl ?_
              refine R_lo (nx := 67) rfl rfl rfl rfl ?_
              refine R_call0 (nx := 70) (as := [(2, 9), (0, pl), (0, x)]) (rest := []) rfl rfl (fun _ _ => rfl) rfl rfl rfl rfl rfl rfl rfl rfl (Cl.mono (c_P_set S2 9 12 ⟨by decide, rfl⟩ (by decide) pl x ⟨by omega, by omega⟩) ?_)
              rintro _ _ ⟨rfl, rfl⟩
              refine ⟨rfl, ?_⟩
              refine R_iinc (nx := 73) (z := (x + 1)) (ls' := [(2, 8), (0, (x + 1)), (0, pl)]) rfl rfl rfl rfl ⟨by omega, by omega⟩ rfl ?_
              refine R_op (nx := 76) (pc' := 2) rfl rfl rfl ?_
              refine Rn.weak (ls' := [(2, 8), (0, (x + 1)), (9, 0)]) ⟨Or.inl rfl, ⟨Or.inl rfl, ⟨Or.inr rfl, trivial⟩⟩⟩ ?_
              refine ih2 ((mm_up S2 9 pl x)) ((x + 1)) ?_ ?_ ?_ ?_
              · omega
              · omega
              · exact isO_ins (pl := pl) hO hx.1 (by omega) (fun k h0 h1 => by show mm_up S2 9 pl x 9 k = _; rw [mm_uk (by omega)]; exact g1 k h0 h1) (by show mm_up S2 9 pl x 9 pl = x; exact mm_ua) (fun k h0 h1 => by show mm_up S2 9 pl x 9 k = _; rw [mm_uk (by omega)]; exact g2 k h0 h1) g3 (by first | exact Or.inl (by omega) | exact Or.inr b31)
              · intro b hb; rw [mm_unq hb, gF b hb]; exact hF b hb
            ·
              refine R_lo (nx := 20) rfl rfl rfl rfl ?_
              refine R_lo (nx := 21) rfl rfl rfl rfl ?_
              refine R_lo (nx := 22) rfl rfl rfl rfl ?_
              refine R_get (nx := 25) (w := (2, 9)) rfl rfl rfl rfl ?_
              refine R_lo (nx := 26) rfl rfl rfl rfl ?_
              refine R_op (nx := 27) rfl rfl rfl ?_
              refine R_isub (nx := 28) (z := (pl - 1)) rfl rfl rfl ⟨by omega, by omega⟩ ?_
              refine R_call1 (nx := 31) (as := [(2, 9), (0, (pl - 1))]) (rest := [(0, x), (2, 8)]) rfl rfl (fun _ _ => rfl) rfl rfl rfl rfl rfl rfl rfl rfl (Cl.mono (c_P_get_in S2 9 12 ⟨by decide, rfl⟩ (by decide) (pl - 1) ⟨by omega, by omega⟩) ?_)
              rintro _ _ ⟨rfl, rfl⟩
              refine ⟨_, rfl, ?_⟩
              rw [show S2 9 (pl - 1) = S1 9 (pl - 1) from g1 (pl - 1) (by omega) (by omega)]
              refine R_call1 (nx := 34) (as := [(2, 8), (0, x), (0, (S1 9 (pl - 1)))]) (rest := []) rfl rfl (fun _ _ => rfl) rfl rfl rfl rfl rfl rfl rfl rfl (Cl.mono (c_Rd_standsBefore S2 a hC K (by first | assumption | exact MC.up (by assumption) (by omega) | exact MC.up (MC.up (by assumption) (by omega)) (by omega) | exact MC.up (MC.up (MC.up (by assumption) (by omega)) (by omega)) (by omega)) w p hV hw hp (by assumption) (by assumption) (by assumption) x (S1 9 (pl - 1))) ?_)
              rintro _ _ (⟨rfl, b31, rfl⟩ | ⟨rfl, b31, rfl⟩)
              ·
                refine ⟨_, rfl, ?_⟩
                refine R_ifF (nx := 37) rfl rfl rfl ?_
                refine R_lo (nx := 38) rfl rfl rfl rfl ?_
                refine R_get (nx := 41) (w := (2, 9)) rfl rfl rfl rfl ?_
                refine R_lo (nx := 42) rfl rfl rfl rfl ?_
                refine R_lo (nx := 43) rfl rfl rfl rfl ?_
                refine R_get (nx := 46) (w := (2, 9)) rfl rfl rfl rfl ?_
                refine R_lo (nx := 47) rfl rfl rfl rfl ?_
                refine R_op (nx := 48) rfl rfl rfl ?_
                refine R_isub (nx := 49) (z := (pl - 1)) rfl rfl rfl ⟨by omega, by omega⟩ ?_
                refine R_call1 (nx := 52) (as := [(2, 9), (0, (pl - 1))]) (rest := [(0, pl), (2, 9)]) rfl rfl (fun _ _ => rfl) rfl rfl rfl rfl rfl rfl rfl rfl (Cl.mono (c_P_get_in S2 9 12 ⟨by decide, rfl⟩ (by decide) (pl - 1) ⟨by omega, by omega⟩) ?_)
                rintro _ _ ⟨rfl, rfl⟩
                refine ⟨_, rfl, ?_⟩
                refine R_call0 (nx := 55) (as := [(2, 9), (0, pl), (0, (S2 9 (pl - 1)))]) (rest := []) rfl rfl (fun _ _ => rfl) rfl rfl rfl rfl rfl rfl rfl rfl (Cl.mono (c_P_set S2 9 12 ⟨by decide, rfl⟩ (by decide) pl (S2 9 (pl - 1)) ⟨by omega, by omega⟩) ?_)
                rintro _ _ ⟨rfl, rfl⟩
                refine ⟨rfl, ?_⟩
                refine R_iinc (nx := 58) (z := (pl + (-1))) (ls' := [(2, 8), (0, x), (0, (pl + (-1)))]) rfl rfl rfl rfl ⟨by omega, by omega⟩ rfl ?_
                refine R_op (nx := 61) (pc' := 15) rfl rfl rfl ?_
                refine Rn.weak (ls' := [(2, 8), (0, x), (0, (pl + (-1)))]) ⟨Or.inl rfl, ⟨Or.inl rfl, ⟨Or.inl rfl, trivial⟩⟩⟩ ?_
                refine ih15 ((mm_up S2 9 pl (S2 9 (pl - 1)))) ((pl + (-1))) ?_ ?_ ?_ ?_ ?_ ?_
                · omega
                · omega
                · intro k h0 h1; rw [mm_uk (by omega)]; exact g1 k h0 (by omega)
                · intro k h0 h1
                  by_cases e : k = pl
                  · rw [e, mm_ua]; exact g1 (pl - 1) (by omega) (by omega)
                  · rw [mm_uk e]; exact g2 k (by omega) h1
                · intro k h0 h1
                  by_cases e : k = pl - 1
                  · rw [e]; exact b31
                  · exact g3 k (by omega) h1
                · intro b hb; rw [mm_unq hb]; exact gF b hb
              ·
                refine ⟨_, rfl, ?_⟩
                refine R_ifT (tg := 61) rfl rfl rfl ?_
                refine R_lo (nx := 62) rfl rfl rfl rfl ?_
                refine R_get (nx := 65) (w := (2, 9)) rfl rfl rfl rfl ?_
                refine R_lo (nx := 66) rfl rfl rfl rfl ?_
                refine R_lo (nx := 67) rfl rfl rfl rfl ?_
                refine R_call0 (nx := 70) (as := [(2, 9), (0, pl), (0, x)]) (rest := []) rfl rfl (fun _ _ => rfl) rfl rfl rfl rfl rfl rfl rfl rfl (Cl.mono (c_P_set S2 9 12 ⟨by decide, rfl⟩ (by decide) pl x ⟨by omega, by omega⟩) ?_)
                rintro _ _ ⟨rfl, rfl⟩
                refine ⟨rfl, ?_⟩
                refine R_iinc (nx := 73) (z := (x + 1)) (ls' := [(2, 8), (0, (x + 1)), (0, pl)]) rfl rfl rfl rfl ⟨by omega, by omega⟩ rfl ?_
                refine R_op (nx := 76) (pc' := 2) rfl rfl rfl ?_
                refine Rn.weak (ls' := [(2, 8), (0, (x + 1)), (9, 0)]) ⟨Or.inl rfl, ⟨Or.inl rfl, ⟨Or.inr rfl, trivial⟩⟩⟩ ?_
                refine ih2 ((mm_up S2 9 pl x)) ((x + 1)) ?_ ?_ ?_ ?_
                · omega
                · omega
                · exact isO_ins (pl := pl) hO hx.1 (by omega) (fun k h0 h1 => by show mm_up S2 9 pl x 9 k = _; rw [mm_uk (by omega)]; exact g1 k h0 h1) (by show mm_up S2 9 pl x 9 pl = x; exact mm_ua) (fun k h0 h1 => by show mm_up S2 9 pl x 9 k = _; rw [mm_uk (by omega)]; exact g2 k h0 h1) g3 (by first | exact Or.inl (by omega) | exact Or.inr b31)
                · intro b hb; rw [mm_unq hb, gF b hb]; exact hF b hb
        refine Rn.weak (ls' := [(2, 8), (0, x), (0, x)]) ⟨Or.inl rfl, ⟨Or.inl rfl, ⟨Or.inl rfl, trivial⟩⟩⟩ ?_
        refine L15 ((x).toNat + 1) (S1) (x) (Nat.lt_succ_self _) ?_ ?_ ?_ ?_ ?_
        · omega
        · intro k h0 h1; rfl
        · intro k h0 h1; omega
        · intro k h0 h1; omega
        · intro b hb; rfl
  refine Rn.weak (ls' := [(2, 8), (0, 0), (9, 0)]) ⟨Or.inl rfl, ⟨Or.inl rfl, ⟨Or.inl rfl, trivial⟩⟩⟩ ?_
  refine L2 ((Xn K - (0)).toNat + 1) (S) (0) (Nat.lt_succ_self _) ?_ ?_ ?_
  · omega
  · intro k h0 h1; omega
  · intro b hb; rfl

set_option maxRecDepth 20000 in
set_option maxHeartbeats 4000000 in
theorem c_Rd_lastOf (S : mm_S) (a : Int) (hC : mm_isC a) (K : CX) (hM : MC S a K) (w p : Int) (hV : Vx K) (hw : w = 0 ∨ w = 1) (hp : Xpr p) (h80 : S 8 0 = a) (h81 : S 8 1 = w) (h82 : S 8 2 = p) (x : Int) (hx : 0 ≤ x ∧ x < 12) (hO : ∀ k, 0 ≤ k → k < Xn K → S 9 k = od K w k) : Cl 156 [(2, 8), (0, x)] S (fun v S' => (v = some (0, la K w (fun y => S 10 (x * 12 + y))) ∧ la K w (fun y => S 10 (x * 12 + y)) ≠ -1 ∧ S = S') ∨ (v = some (0, -3) ∧ la K w (fun y => S 10 (x * 12 + y)) = -1 ∧ S = S')) := by
  refine ⟨Nat.le_of_ble_eq_true rfl, ?_⟩
  show Rn k_Rd_lastOf 0 [(2, 8), (0, x), (9, 0), (9, 0)] [] S _
  have hnr := hV.1.1
  have hR := hV.2.1
  have hpb := pr_b hp
  refine R_lo (nx := 1) rfl rfl rfl rfl ?_
  refine R_get (nx := 4) (w := (2, a)) rfl rfl rfl (congrArg (Prod.mk 2) (by assumption)) ?_
  refine R_get (nx := 7) (w := (0, (S a 0))) rfl rfl (isC_ob hC) rfl ?_
  rw [show (S a 0) = Xn K from (by assumption : MC _ a K).n]
  refine R_op (nx := 8) rfl rfl rfl ?_
  refine R_isub (nx := 9) (z := ((Xn K) - 1)) rfl rfl rfl ⟨by omega, by omega⟩ ?_
  refine R_lo (nx := 10) (ls' := [(2, 8), (0, x), (0, ((Xn K) - 1)), (9, 0)]) rfl rfl rfl rfl ?_
  have L10 : ∀ (f10 : Nat) (i : Int), (i + 1).toNat < f10 → (-1 ≤ i ∧ i < Xn K) → (la K w (fun y => S 10 (x * 12 + y)) = laI (fun y => S 10 (x * 12 + y)) (od K w) (i + 1)) → Rn k_Rd_lastOf 10 [(2, 8), (0, x), (0, i), (9, 0)] [] S (fun v S' => (v = some (0, la K w (fun y => S 10 (x * 12 + y))) ∧ la K w (fun y => S 10 (x * 12 + y)) ≠ -1 ∧ S = S') ∨ (v = some (0, -3) ∧ la K w (fun y => S 10 (x * 12 + y)) = -1 ∧ S = S')) := by
    intro f10
    induction f10 with
    | zero => intro i hm10; exact absurd hm10 (Nat.not_lt_zero _)
    | succ f10 ih10 =>
      intro i hm10 hi hl
      refine R_lo (nx := 11) rfl rfl rfl rfl ?_
      refine R_if (nx := 14) (tg := 40) rfl rfl rfl (mm_cnd_lt _ _) (fun c11 => ?_) (fun c11 => ?_)
      ·
        have el : la K w (fun y => S 10 (x * 12 + y)) = -1 := by rw [hl, show i + 1 = 0 by omega]; rfl
        refine R_op (nx := 42) rfl rfl rfl ?_
        refine R_ret rfl (fun _ _ => rfl) rfl rfl ?_
        first | exact Or.inl ⟨by rw [el], by rw [el]; omega, rfl⟩ | exact Or.inr ⟨rfl, el, rfl⟩
      ·
        have oi := (od_ok (K := K) (w := w) (i := i) (by omega)).1
        refine R_lo (nx := 15) rfl rfl rfl rfl ?_
        refine R_get (nx := 18) (w := (2, 9)) rfl rfl rfl rfl ?_
        refine R_lo (nx := 19) rfl rfl rfl rfl ?_
        refine R_call1 (nx := 22) (as := [(2, 9), (0, i)]) (rest := []) rfl rfl (fun _ _ => rfl) rfl rfl rfl rfl rfl rfl rfl rfl (Cl.mono (c_P_get_in S 9 12 ⟨by decide, rfl⟩ (by decide) i ⟨by omega, by omega⟩) ?_)
        rintro _ _ ⟨rfl, rfl⟩
        refine ⟨_, rfl, ?_⟩
        rw [hO i (by omega) (by omega)]
        refine R_lo (nx := 23) (ls' := [(2, 8), (0, x), (0, i), (0, (od K w i))]) rfl rfl rfl rfl ?_
        refine R_lo (nx := 24) rfl rfl rfl rfl ?_
        refine R_lo (nx := 25) rfl rfl rfl rfl ?_
        refine R_lo (nx := 26) rfl rfl rfl rfl ?_
        refine R_call1 (nx := 29) (as := [(2, 8), (0, x), (0, (od K w i))]) (rest := []) rfl rfl (fun _ _ => rfl) rfl rfl rfl rfl rfl rfl rfl rfl (Cl.mono (c_Rd_remainder S x (od K w i) (by omega) (by omega)) ?_)
        rintro _ _ ⟨rfl, rfl⟩
        refine ⟨_, rfl, ?_⟩
        refine R_if (nx := 32) (tg := 34) rfl rfl rfl (mm_cnd_eq _ _) (fun c29 => ?_) (fun c29 => ?_)
        ·
          refine R_iinc (nx := 37) (z := (i + (-1))) (ls' := [(2, 8), (0, x), (0, (i + (-1))), (0, (od K w i))]) rfl rfl rfl rfl ⟨by omega, by omega⟩ rfl ?_
          refine R_op (nx := 40) (pc' := 10) rfl rfl rfl ?_
          refine Rn.weak (ls' := [(2, 8), (0, x), (0, (i + (-1))), (9, 0)]) ⟨Or.inl rfl, ⟨Or.inl rfl, ⟨Or.inl rfl, ⟨Or.inr rfl, trivial⟩⟩⟩⟩ ?_
          refine ih10 ((i + (-1))) ?_ ?_ ?_
          · omega
          · omega
          · rw [hl, laI_s _ _ (show 0 ≤ i by omega), if_neg (fun z => z c29), show i + -1 + 1 = i by omega]
        ·
          have el : la K w (fun y => S 10 (x * 12 + y)) = od K w i := by rw [hl, laI_s _ _ (show 0 ≤ i by omega)]; exact if_pos c29
          refine R_lo (nx := 33) rfl rfl rfl rfl ?_
          refine R_ret rfl (fun _ _ => rfl) rfl rfl ?_
          first | exact Or.inl ⟨by rw [el], by rw [el]; omega, rfl⟩ | exact Or.inr ⟨rfl, el, rfl⟩
  refine Rn.weak (ls' := [(2, 8), (0, x), (0, ((Xn K) - 1)), (9, 0)]) ⟨Or.inl rfl, ⟨Or.inl rfl, ⟨Or.inl rfl, ⟨Or.inl rfl, trivial⟩⟩⟩⟩ ?_
  refine L10 (((((Xn K) - 1)) + 1).toNat + 1) (((Xn K) - 1)) (Nat.lt_succ_self _) ?_ ?_
  · omega
  · unfold la; rw [show Xn K - 1 + 1 = Xn K by omega]

set_option maxRecDepth 20000 in
set_option maxHeartbeats 4000000 in
theorem c_Rd_takeAway (S : mm_S) (a : Int) (hC : mm_isC a) (K : CX) (hM : MC S a K) (w p : Int) (hV : Vx K) (hw : w = 0 ∨ w = 1) (hp : Xpr p) (h80 : S 8 0 = a) (h81 : S 8 1 = w) (h82 : S 8 2 = p) (x o l : Int) (hx : 0 ≤ x ∧ x < Xn K) (ho : 0 ≤ o ∧ o < Xn K) (hl : 0 ≤ l ∧ l < Xn K) (hxo : x ≠ o) (hrx : ∀ y, 0 ≤ y → y < Xn K → 0 ≤ S 10 (x * 12 + y) ∧ S 10 (x * 12 + y) < p) (hro : ∀ y, 0 ≤ y → y < Xn K → 0 ≤ S 10 (o * 12 + y) ∧ S 10 (o * 12 + y) < p) (hlo : S 10 (o * 12 + l) ≠ 0) : Cl 157 [(2, 8), (0, x), (0, o), (0, l)] S (fun v S' => v = none ∧ (∀ j, S' 10 j = if x * 12 ≤ j ∧ j < x * 12 + Xn K then (sbr p (fun y => S 10 (x * 12 + y)) (fun y => S 10 (o * 12 + y)) l) (j - x * 12) else S 10 j) ∧ ∀ b, b ≠ 10 → S' b = S b) := by
  refine ⟨Nat.le_of_ble_eq_true rfl, ?_⟩
  show Rn k_Rd_takeAway 0 [(2, 8), (0, x), (0, o), (0, l), (9, 0), (9, 0)] [] S _
  have hnr := hV.1.1
  have hR := hV.2.1
  have hpb := pr_b hp
  have hout := isC_out hC
  have nd := nd_r (hro l hl.1 hl.2) hlo
  have mk := mlt_ok (a := S 10 (x * 12 + l)) hp nd
  have rxl := hrx l hl.1 hl.2
  have rol := hro l hl.1 hl.2
  refine R_op (nx := 1) rfl rfl rfl ?_
  refine R_lo (nx := 3) (ls' := [(2, 8), (0, x), (0, o), (0, l), (0, 0), (9, 0)]) rfl rfl rfl rfl ?_
  have L3 : ∀ (f3 : Nat) (k : Int), (p - k).toNat < f3 → (0 ≤ k ∧ k ≤ p) → (∀ j, 0 ≤ j → j < k → ¬ p ∣ S 10 (x * 12 + l) - j * S 10 (o * 12 + l)) → Rn k_Rd_takeAway 3 [(2, 8), (0, x), (0, o), (0, l), (0, k), (9, 0)] [] S (fun v S' => v = none ∧ (∀ j, S' 10 j = if x * 12 ≤ j ∧ j < x * 12 + Xn K then (sbr p (fun y => S 10 (x * 12 + y)) (fun y => S 10 (o * 12 + y)) l) (j - x * 12) else S 10 j) ∧ ∀ b, b ≠ 10 → S' b = S b) := by
    intro f3
    induction f3 with
    | zero => intro k hm3; exact absurd hm3 (Nat.not_lt_zero _)
    | succ f3 ih3 =>
      intro k hm3 hk hj
      refine R_lo (nx := 5) rfl rfl rfl rfl ?_
      refine R_lo (nx := 6) rfl rfl rfl rfl ?_
      refine R_get (nx := 9) (w := (0, (S 8 2))) rfl rfl rfl rfl ?_
      rw [show (S 8 2) = p from by assumption]
      refine R_icmp (nx := 12) (tg := 41) rfl rfl rfl (mm_cnd_ge _ _) (fun c9 => ?_) (fun c9 => ?_)
      ·
        have ek : k = mlt p (S 10 (x * 12 + l)) (S 10 (o * 12 + l)) := absurd mk.2 (hj _ mk.1.1 (by omega))
        subst ek
        refine R_op (nx := 42) rfl rfl rfl ?_
        refine R_lo (nx := 44) (ls' := [(2, 8), (0, x), (0, o), (0, l), (0, (mlt p (S 10 (x * 12 + l)) (S 10 (o * 12 + l)))), (0, 0)]) rfl rfl rfl rfl ?_
        have L44 : ∀ (f44 : Nat) (S1 : mm_S) (y : Int), (Xn K - y).toNat < f44 → (0 ≤ y ∧ y ≤ Xn K) → (∀ j, S1 10 j = if x * 12 ≤ j ∧ j < x * 12 + y then (sbr p (fun y => S 10 (x * 12 + y)) (fun y => S 10 (o * 12 + y)) l) (j - x * 12) else S 10 j) → (∀ b, b ≠ 10 → S1 b = S b) → Rn k_Rd_takeAway 44 [(2, 8), (0, x), (0, o), (0, l), (0, (mlt p (S 10 (x * 12 + l)) (S 10 (o * 12 + l)))), (0, y)] [] S1 (fun v S' => v = none ∧ (∀ j, S' 10 j = if x * 12 ≤ j ∧ j < x * 12 + Xn K then (sbr p (fun y => S 10 (x * 12 + y)) (fun y => S 10 (o * 12 + y)) l) (j - x * 12) else S 10 j) ∧ ∀ b, b ≠ 10 → S' b = S b) := by
          intro f44
          induction f44 with
          | zero => intro S1 y hm44; exact absurd hm44 (Nat.not_lt_zero _)
          | succ f44 ih44 =>
            intro S1 y hm44 hy h10 hF
            have k80 : S1 8 0 = a := by rw [hF 8 (by decide)]; exact h80
            have k81 : S1 8 1 = w := by rw [hF 8 (by decide)]; exact h81
            have k82 : S1 8 2 = p := by rw [hF 8 (by decide)]; exact h82
            have m1 : MC S1 a K := hM.fr fun c q r => hF c (by omega)
            have rxy := fun h => hrx y hy.1 h
            have roy := fun h => hro y hy.1 h
            refine R_lo (nx := 46) rfl rfl rfl rfl ?_
            refine R_lo (nx := 47) rfl rfl rfl rfl ?_
            refine R_get (nx := 50) (w := (2, a)) rfl rfl rfl (congrArg (Prod.mk 2) (by assumption)) ?_
            refine R_get (nx := 53) (w := (0, (S1 a 0))) rfl rfl (isC_ob hC) rfl ?_
            rw [show (S1 a 0) = Xn K from (by assumption : MC _ a K).n]
            refine R_icmp (nx := 56) (tg := 98) rfl rfl rfl (mm_cnd_ge _ _) (fun c53 => ?_) (fun c53 => ?_)
            ·
              refine R_ret rfl (fun _ _ => rfl) rfl rfl ?_
              exact ⟨rfl, fun j => by rw [h10 j]; exact ifc (by omega) rfl rfl, hF⟩
            ·
              refine R_lo (nx := 57) rfl rfl rfl rfl ?_
              refine R_get (nx := 60) (w := (2, 10)) rfl rfl rfl rfl ?_
              refine R_lo (nx := 61) rfl rfl rfl rfl ?_
              refine R_op (nx := 63) rfl rfl rfl ?_
              refine R_imul (nx := 64) (z := (x * 12)) rfl rfl rfl ⟨by omega, by omega⟩ ?_
              refine R_lo (nx := 66) rfl rfl rfl rfl ?_
              refine R_iadd (nx := 67) (z := ((x * 12) + y)) rfl rfl rfl ⟨by omega, by omega⟩ ?_
              refine R_lo (nx := 68) rfl rfl rfl rfl ?_
              refine R_lo (nx := 69) rfl rfl rfl rfl ?_
              refine R_lo (nx := 70) rfl rfl rfl rfl ?_
              refine R_lo (nx := 72) rfl rfl rfl rfl ?_
              refine R_call1 (nx := 75) (as := [(2, 8), (0, x), (0, y)]) (rest := [(2, 8), (0, ((x * 12) + y)), (2, 10)]) rfl rfl (fun _ _ => rfl) rfl rfl rfl rfl rfl rfl rfl rfl (Cl.mono (c_Rd_remainder S1 x y (by omega) (by omega)) ?_)
              rintro _ _ ⟨rfl, rfl⟩
              refine ⟨_, rfl, ?_⟩
              rw [show S1 10 (x * 12 + y) = S 10 (x * 12 + y) from by rw [h10]; exact if_neg (by omega)]
              refine R_lo (nx := 77) rfl rfl rfl rfl ?_
              refine R_lo (nx := 78) rfl rfl rfl rfl ?_
              refine R_lo (nx := 79) rfl rfl rfl rfl ?_
              refine R_lo (nx := 81) rfl rfl rfl rfl ?_
              refine R_call1 (nx := 84) (as := [(2, 8), (0, o), (0, y)]) (rest := [(0, (mlt p (S 10 (x * 12 + l)) (S 10 (o * 12 + l)))), (0, (S 10 (x * 12 + y))), (2, 8), (0, ((x * 12) + y)), (2, 10)]) rfl rfl (fun _ _ => rfl) rfl rfl rfl rfl rfl rfl rfl rfl (Cl.mono (c_Rd_remainder S1 o y (by omega) (by omega)) ?_)
              rintro _ _ ⟨rfl, rfl⟩
              refine ⟨_, rfl, ?_⟩
              rw [show S1 10 (o * 12 + y) = S 10 (o * 12 + y) from by rw [h10]; exact if_neg (by omega)]
              have pk := pkb mk.1 (roy (by omega)) hpb
              have px := rxy (by omega)
              refine R_imul (nx := 85) (z := ((mlt p (S 10 (x * 12 + l)) (S 10 (o * 12 + l))) * (S 10 (o * 12 + y)))) rfl rfl rfl ⟨by omega, by omega⟩ ?_
              refine R_isub (nx := 86) (z := ((S 10 (x * 12 + y)) - ((mlt p (S 10 (x * 12 + l)) (S 10 (o * 12 + l))) * (S 10 (o * 12 + y))))) rfl rfl rfl ⟨by omega, by omega⟩ ?_
              refine R_call1 (nx := 89) (as := [(2, 8), (0, ((S 10 (x * 12 + y)) - ((mlt p (S 10 (x * 12 + l)) (S 10 (o * 12 + l))) * (S 10 (o * 12 + y)))))]) (rest := [(0, ((x * 12) + y)), (2, 10)]) rfl rfl (fun _ _ => rfl) rfl rfl rfl rfl rfl rfl rfl rfl (Cl.mono (c_Rd_leaves S1 a hC K (by first | assumption | exact MC.up (by assumption) (by omega) | exact MC.up (MC.up (by assumption) (by omega)) (by omega) | exact MC.up (MC.up (MC.up (by assumption) (by omega)) (by omega)) (by omega)) w p hV hw hp (by assumption) (by assumption) (by assumption) ((S 10 (x * 12 + y)) - ((mlt p (S 10 (x * 12 + l)) (S 10 (o * 12 + l))) * (S 10 (o * 12 + y)))) ⟨by omega, by omega⟩) ?_)
              rintro _ _ ⟨rfl, rfl⟩
              refine ⟨_, rfl, ?_⟩
              refine R_call0 (nx := 92) (as := [(2, 10), (0, ((x * 12) + y)), (0, (((S 10 (x * 12 + y)) - ((mlt p (S 10 (x * 12 + l)) (S 10 (o * 12 + l))) * (S 10 (o * 12 + y)))) % p))]) (rest := []) rfl rfl (fun _ _ => rfl) rfl rfl rfl rfl rfl rfl rfl rfl (Cl.mono (c_P_set S1 10 144 ⟨by decide, rfl⟩ (by decide) ((x * 12) + y) (((S 10 (x * 12 + y)) - ((mlt p (S 10 (x * 12 + l)) (S 10 (o * 12 + l))) * (S 10 (o * 12 + y)))) % p) ⟨by omega, by omega⟩) ?_)
              rintro _ _ ⟨rfl, rfl⟩
              refine ⟨rfl, ?_⟩
              refine R_iinc (nx := 95) (z := (y + 1)) (ls' := [(2, 8), (0, x), (0, o), (0, l), (0, (mlt p (S 10 (x * 12 + l)) (S 10 (o * 12 + l)))), (0, (y + 1))]) rfl rfl rfl rfl ⟨by omega, by omega⟩ rfl ?_
              refine R_op (nx := 98) (pc' := 44) rfl rfl rfl ?_
              refine Rn.weak (ls' := [(2, 8), (0, x), (0, o), (0, l), (0, (mlt p (S 10 (x * 12 + l)) (S 10 (o * 12 + l)))), (0, (y + 1))]) ⟨Or.inl rfl, ⟨Or.inl rfl, ⟨Or.inl rfl, ⟨Or.inl rfl, ⟨Or.inl rfl, ⟨Or.inl rfl, trivial⟩⟩⟩⟩⟩⟩ ?_
              refine ih44 ((mm_up S1 10 ((x * 12) + y) (((S 10 (x * 12 + y)) - ((mlt p (S 10 (x * 12 + l)) (S 10 (o * 12 + l))) * (S 10 (o * 12 + y)))) % p))) ((y + 1)) ?_ ?_ ?_ ?_
              · omega
              · omega
              · intro j
                by_cases e : j = x * 12 + y
                · rw [e, mm_ua, if_pos (by omega), show x * 12 + y - x * 12 = y by omega]; rfl
                · rw [mm_uk e, h10 j]; exact ifc (by omega) rfl rfl
              · intro b hb; rw [mm_unq hb]; exact hF b hb
        refine Rn.weak (ls' := [(2, 8), (0, x), (0, o), (0, l), (0, (mlt p (S 10 (x * 12 + l)) (S 10 (o * 12 + l)))), (0, 0)]) ⟨Or.inl rfl, ⟨Or.inl rfl, ⟨Or.inl rfl, ⟨Or.inl rfl, ⟨Or.inl rfl, ⟨Or.inl rfl, trivial⟩⟩⟩⟩⟩⟩ ?_
        refine L44 ((Xn K - (0)).toNat + 1) (S) (0) (Nat.lt_succ_self _) ?_ ?_ ?_
        · omega
        · intro j; rw [if_neg (by omega)]
        · intro b hb; rfl
      ·
        refine R_lo (nx := 13) rfl rfl rfl rfl ?_
        refine R_lo (nx := 14) rfl rfl rfl rfl ?_
        refine R_lo (nx := 15) rfl rfl rfl rfl ?_
        refine R_lo (nx := 16) rfl rfl rfl rfl ?_
        refine R_call1 (nx := 19) (as := [(2, 8), (0, x), (0, l)]) (rest := [(2, 8)]) rfl rfl (fun _ _ => rfl) rfl rfl rfl rfl rfl rfl rfl rfl (Cl.mono (c_Rd_remainder S x l (by omega) (by omega)) ?_)
        rintro _ _ ⟨rfl, rfl⟩
        refine ⟨_, rfl, ?_⟩
        refine R_lo (nx := 21) rfl rfl rfl rfl ?_
        refine R_lo (nx := 22) rfl rfl rfl rfl ?_
        refine R_lo (nx := 23) rfl rfl rfl rfl ?_
        refine R_lo (nx := 24) rfl rfl rfl rfl ?_
        refine R_call1 (nx := 27) (as := [(2, 8), (0, o), (0, l)]) (rest := [(0, k), (0, (S 10 (x * 12 + l))), (2, 8)]) rfl rfl (fun _ _ => rfl) rfl rfl rfl rfl rfl rfl rfl rfl (Cl.mono (c_Rd_remainder S o l (by omega) (by omega)) ?_)
        rintro _ _ ⟨rfl, rfl⟩
        refine ⟨_, rfl, ?_⟩
        have pk := pkb (show 0 ≤ k ∧ k < p by omega) rol hpb
        refine R_imul (nx := 28) (z := (k * (S 10 (o * 12 + l)))) rfl rfl rfl ⟨by omega, by omega⟩ ?_
        refine R_isub (nx := 29) (z := ((S 10 (x * 12 + l)) - (k * (S 10 (o * 12 + l))))) rfl rfl rfl ⟨by omega, by omega⟩ ?_
        refine R_call1 (nx := 32) (as := [(2, 8), (0, ((S 10 (x * 12 + l)) - (k * (S 10 (o * 12 + l)))))]) (rest := []) rfl rfl (fun _ _ => rfl) rfl rfl rfl rfl rfl rfl rfl rfl (Cl.mono (c_Rd_leaves S a hC K (by first | assumption | exact MC.up (by assumption) (by omega) | exact MC.up (MC.up (by assumption) (by omega)) (by omega) | exact MC.up (MC.up (MC.up (by assumption) (by omega)) (by omega)) (by omega)) w p hV hw hp (by assumption) (by assumption) (by assumption) ((S 10 (x * 12 + l)) - (k * (S 10 (o * 12 + l)))) ⟨by omega, by omega⟩) ?_)
        rintro _ _ ⟨rfl, rfl⟩
        refine ⟨_, rfl, ?_⟩
        refine R_if (nx := 35) (tg := 41) rfl rfl rfl (mm_cnd_eq _ _) (fun c32 => ?_) (fun c32 => ?_)
        ·
          have ek : k = mlt p (S 10 (x * 12 + l)) (S 10 (o * 12 + l)) := (mlt_u hp nd (by omega) (Int.dvd_of_emod_eq_zero c32)).symm
          subst ek
          refine R_op (nx := 42) rfl rfl rfl ?_
          refine R_lo (nx := 44) (ls' := [(2, 8), (0, x), (0, o), (0, l), (0, (mlt p (S 10 (x * 12 + l)) (S 10 (o * 12 + l)))), (0, 0)]) rfl rfl rfl rfl ?_
          have L44 : ∀ (f44 : Nat) (S1 : mm_S) (y : Int), (Xn K - y).toNat < f44 → (0 ≤ y ∧ y ≤ Xn K) → (∀ j, S1 10 j = if x * 12 ≤ j ∧ j < x * 12 + y then (sbr p (fun y => S 10 (x * 12 + y)) (fun y => S 10 (o * 12 + y)) l) (j - x * 12) else S 10 j) → (∀ b, b ≠ 10 → S1 b = S b) → Rn k_Rd_takeAway 44 [(2, 8), (0, x), (0, o), (0, l), (0, (mlt p (S 10 (x * 12 + l)) (S 10 (o * 12 + l)))), (0, y)] [] S1 (fun v S' => v = none ∧ (∀ j, S' 10 j = if x * 12 ≤ j ∧ j < x * 12 + Xn K then (sbr p (fun y => S 10 (x * 12 + y)) (fun y => S 10 (o * 12 + y)) l) (j - x * 12) else S 10 j) ∧ ∀ b, b ≠ 10 → S' b = S b) := by
            intro f44
            induction f44 with
            | zero => intro S1 y hm44; exact absurd hm44 (Nat.not_lt_zero _)
            | succ f44 ih44 =>
              intro S1 y hm44 hy h10 hF
              have k80 : S1 8 0 = a := by rw [hF 8 (by decide)]; exact h80
              have k81 : S1 8 1 = w := by rw [hF 8 (by decide)]; exact h81
              have k82 : S1 8 2 = p := by rw [hF 8 (by decide)]; exact h82
              have m1 : MC S1 a K := hM.fr fun c q r => hF c (by omega)
              have rxy := fun h => hrx y hy.1 h
              have roy := fun h => hro y hy.1 h
              refine R_lo (nx := 46) rfl rfl rfl rfl ?_
              refine R_lo (nx := 47) rfl rfl rfl rfl ?_
              refine R_get (nx := 50) (w := (2, a)) rfl rfl rfl (congrArg (Prod.mk 2) (by assumption)) ?_
              refine R_get (nx := 53) (w := (0, (S1 a 0))) rfl rfl (isC_ob hC) rfl ?_
              rw [show (S1 a 0) = Xn K from (by assumption : MC _ a K).n]
              refine R_icmp (nx := 56) (tg := 98) rfl rfl rfl (mm_cnd_ge _ _) (fun c53_1 => ?_) (fun c53_1 => ?_)
              ·
                refine R_ret rfl (fun _ _ => rfl) rfl rfl ?_
                exact ⟨rfl, fun j => by rw [h10 j]; exact ifc (by omega) rfl rfl, hF⟩
              ·
                refine R_lo (nx := 57) rfl rfl rfl rfl ?_
                refine R_get (nx := 60) (w := (2, 10)) rfl rfl rfl rfl ?_
                refine R_lo (nx := 61) rfl rfl rfl rfl ?_
                refine R_op (nx := 63) rfl rfl rfl ?_
                refine R_imul (nx := 64) (z := (x * 12)) rfl rfl rfl ⟨by omega, by omega⟩ ?_
                refine R_lo (nx := 66) rfl rfl rfl rfl ?_
                refine R_iadd (nx := 67) (z := ((x * 12) + y)) rfl rfl rfl ⟨by omega, by omega⟩ ?_
                refine R_lo (nx := 68) rfl rfl rfl rfl ?_
                refine R_lo (nx := 69) rfl rfl rfl rfl ?_
                refine R_lo (nx := 70) rfl rfl rfl rfl ?_
                refine R_lo (nx := 72) rfl rfl rfl rfl ?_
                refine R_call1 (nx := 75) (as := [(2, 8), (0, x), (0, y)]) (rest := [(2, 8), (0, ((x * 12) + y)), (2, 10)]) rfl rfl (fun _ _ => rfl) rfl rfl rfl rfl rfl rfl rfl rfl (Cl.mono (c_Rd_remainder S1 x y (by omega) (by omega)) ?_)
                rintro _ _ ⟨rfl, rfl⟩
                refine ⟨_, rfl, ?_⟩
                rw [show S1 10 (x * 12 + y) = S 10 (x * 12 + y) from by rw [h10]; exact if_neg (by omega)]
                refine R_lo (nx := 77) rfl rfl rfl rfl ?_
                refine R_lo (nx := 78) rfl rfl rfl rfl ?_
                refine R_lo (nx := 79) rfl rfl rfl rfl ?_
                refine R_lo (nx := 81) rfl rfl rfl rfl ?_
                refine R_call1 (nx := 84) (as := [(2, 8), (0, o), (0, y)]) (rest := [(0, (mlt p (S 10 (x * 12 + l)) (S 10 (o * 12 + l)))), (0, (S 10 (x * 12 + y))), (2, 8), (0, ((x * 12) + y)), (2, 10)]) rfl rfl (fun _ _ => rfl) rfl rfl rfl rfl rfl rfl rfl rfl (Cl.mono (c_Rd_remainder S1 o y (by omega) (by omega)) ?_)
                rintro _ _ ⟨rfl, rfl⟩
                refine ⟨_, rfl, ?_⟩
                rw [show S1 10 (o * 12 + y) = S 10 (o * 12 + y) from by rw [h10]; exact if_neg (by omega)]
                have pk := pkb mk.1 (roy (by omega)) hpb
                have px := rxy (by omega)
                refine R_imul (nx := 85) (z := ((mlt p (S 10 (x * 12 + l)) (S 10 (o * 12 + l))) * (S 10 (o * 12 + y)))) rfl rfl rfl ⟨by omega, by omega⟩ ?_
                refine R_isub (nx := 86) (z := ((S 10 (x * 12 + y)) - ((mlt p (S 10 (x * 12 + l)) (S 10 (o * 12 + l))) * (S 10 (o * 12 + y))))) rfl rfl rfl ⟨by omega, by omega⟩ ?_
                refine R_call1 (nx := 89) (as := [(2, 8), (0, ((S 10 (x * 12 + y)) - ((mlt p (S 10 (x * 12 + l)) (S 10 (o * 12 + l))) * (S 10 (o * 12 + y)))))]) (rest := [(0, ((x * 12) + y)), (2, 10)]) rfl rfl (fun _ _ => rfl) rfl rfl rfl rfl rfl rfl rfl rfl (Cl.mono (c_Rd_leaves S1 a hC K (by first | assumption | exact MC.up (by assumption) (by omega) | exact MC.up (MC.up (by assumption) (by omega)) (by omega) | exact MC.up (MC.up (MC.up (by assumption) (by omega)) (by omega)) (by omega)) w p hV hw hp (by assumption) (by assumption) (by assumption) ((S 10 (x * 12 + y)) - ((mlt p (S 10 (x * 12 + l)) (S 10 (o * 12 + l))) * (S 10 (o * 12 + y)))) ⟨by omega, by omega⟩) ?_)
                rintro _ _ ⟨rfl, rfl⟩
                refine ⟨_, rfl, ?_⟩
                refine R_call0 (nx := 92) (as := [(2, 10), (0, ((x * 12) + y)), (0, (((S 10 (x * 12 + y)) - ((mlt p (S 10 (x * 12 + l)) (S 10 (o * 12 + l))) * (S 10 (o * 12 + y)))) % p))]) (rest := []) rfl rfl (fun _ _ => rfl) rfl rfl rfl rfl rfl rfl rfl rfl (Cl.mono (c_P_set S1 10 144 ⟨by decide, rfl⟩ (by decide) ((x * 12) + y) (((S 10 (x * 12 + y)) - ((mlt p (S 10 (x * 12 + l)) (S 10 (o * 12 + l))) * (S 10 (o * 12 + y)))) % p) ⟨by omega, by omega⟩) ?_)
                rintro _ _ ⟨rfl, rfl⟩
                refine ⟨rfl, ?_⟩
                refine R_iinc (nx := 95) (z := (y + 1)) (ls' := [(2, 8), (0, x), (0, o), (0, l), (0, (mlt p (S 10 (x * 12 + l)) (S 10 (o * 12 + l)))), (0, (y + 1))]) rfl rfl rfl rfl ⟨by omega, by omega⟩ rfl ?_
                refine R_op (nx := 98) (pc' := 44) rfl rfl rfl ?_
                refine Rn.weak (ls' := [(2, 8), (0, x), (0, o), (0, l), (0, (mlt p (S 10 (x * 12 + l)) (S 10 (o * 12 + l)))), (0, (y + 1))]) ⟨Or.inl rfl, ⟨Or.inl rfl, ⟨Or.inl rfl, ⟨Or.inl rfl, ⟨Or.inl rfl, ⟨Or.inl rfl, trivial⟩⟩⟩⟩⟩⟩ ?_
                refine ih44 ((mm_up S1 10 ((x * 12) + y) (((S 10 (x * 12 + y)) - ((mlt p (S 10 (x * 12 + l)) (S 10 (o * 12 + l))) * (S 10 (o * 12 + y)))) % p))) ((y + 1)) ?_ ?_ ?_ ?_
                · omega
                · omega
                · intro j
                  by_cases e : j = x * 12 + y
                  · rw [e, mm_ua, if_pos (by omega), show x * 12 + y - x * 12 = y by omega]; rfl
                  · rw [mm_uk e, h10 j]; exact ifc (by omega) rfl rfl
                · intro b hb; rw [mm_unq hb]; exact hF b hb
          refine Rn.weak (ls' := [(2, 8), (0, x), (0, o), (0, l), (0, (mlt p (S 10 (x * 12 + l)) (S 10 (o * 12 + l)))), (0, 0)]) ⟨Or.inl rfl, ⟨Or.inl rfl, ⟨Or.inl rfl, ⟨Or.inl rfl, ⟨Or.inl rfl, ⟨Or.inl rfl, trivial⟩⟩⟩⟩⟩⟩ ?_
          refine L44 ((Xn K - (0)).toNat + 1) (S) (0) (Nat.lt_succ_self _) ?_ ?_ ?_
          · omega
          · intro j; rw [if_neg (by omega)]
          · intro b hb; rfl
        ·
          refine R_iinc (nx := 38) (z := (k + 1)) (ls' := [(2, 8), (0, x), (0, o), (0, l), (0, (k + 1)), (9, 0)]) rfl rfl rfl rfl ⟨by omega, by omega⟩ rfl ?_
          refine R_op (nx := 41) (pc' := 3) rfl rfl rfl ?_
          refine Rn.weak (ls' := [(2, 8), (0, x), (0, o), (0, l), (0, (k + 1)), (9, 0)]) ⟨Or.inl rfl, ⟨Or.inl rfl, ⟨Or.inl rfl, ⟨Or.inl rfl, ⟨Or.inl rfl, ⟨Or.inl rfl, trivial⟩⟩⟩⟩⟩⟩ ?_
          refine ih3 ((k + 1)) ?_ ?_ ?_
          · omega
          · omega
          · intro j h0 h1
            by_cases e : j = k
            · rw [e]; exact fun z => c32 (Int.emod_eq_zero_of_dvd z)
            · exact hj j h0 (by omega)
  refine Rn.weak (ls' := [(2, 8), (0, x), (0, o), (0, l), (0, 0), (9, 0)]) ⟨Or.inl rfl, ⟨Or.inl rfl, ⟨Or.inl rfl, ⟨Or.inl rfl, ⟨Or.inl rfl, ⟨Or.inl rfl, trivial⟩⟩⟩⟩⟩⟩ ?_
  refine L3 ((p - (0)).toNat + 1) (0) (Nat.lt_succ_self _) ?_ ?_
  · omega
  · intro j h0 h1; omega
