/-! Reduction, as the reference does it. -/
theorem tm_e {e p : Int} (he : -9 ≤ e ∧ e ≤ 9) (hp : 2 ≤ p ∧ p ≤ 7) : Int.tmod (Int.tmod e p + p) p = e % p := by
  have h := fm_c (x := e) (y := p) (by omega)
  have h1 := Int.emod_nonneg e (b := p) (by omega)
  have h2 := Int.emod_lt_of_pos e (b := p) (by omega)
  by_cases q : 0 ≤ e
  · rw [h.1 q, Int.tmod_eq_emod_of_nonneg (by omega), Int.add_emod_right, Int.emod_emod_of_dvd _ (Int.dvd_refl _)]
  · obtain ⟨a1, a2, a3, a4⟩ := h.2 (by omega)
    rw [Int.tmod_eq_emod_of_nonneg (by omega), Int.add_emod_right]
    by_cases z : Int.tmod e p = 0
    · rw [z, a3 z]; rfl
    · have := a4 z
      rw [show Int.tmod e p = e % p + p * (-1) by omega, Int.add_mul_emod_self_left, Int.emod_emod_of_dvd _ (Int.dvd_refl _)]
theorem iv_ex {p b : Int} (hp : Xpr p) (h : 0 < b ∧ b < p) : ∃ i, (1 ≤ i ∧ i < p) ∧ (i * b) % p = 1 := by
  obtain ⟨q, rfl, hq⟩ := pr_n hp
  obtain ⟨y, rfl⟩ : ∃ y : Nat, b = y := ⟨b.toNat, by omega⟩
  obtain ⟨i, h1, h2⟩ := pr_inv q hq y (by omega) (by omega)
  refine ⟨i, ⟨?_, by omega⟩, by exact_mod_cast h2⟩
  by_cases e : i = 0
  · subst e; rw [Nat.zero_mul, Nat.zero_mod] at h2; omega
  · omega
theorem k_mlt {p a b i : Int} (hp : Xpr p) (ha : 0 ≤ a ∧ a < p) (hb : 0 < b ∧ b < p) (hi : 1 ≤ i ∧ i < p) (h : (i * b) % p = 1) : Int.tmod (a * i) p = mlt p a b := by
  have pb := pr_b hp
  have h0 : 0 ≤ a * i := Int.mul_nonneg ha.1 (by omega)
  rw [Int.tmod_eq_emod_of_nonneg h0]
  have k := md_r hp (a * i)
  refine (mlt_u hp (nd_r ⟨by omega, hb.2⟩ (by omega)) k ?_).symm
  have d1 : p ∣ i * b - 1 := Int.dvd_of_emod_eq_zero (by rw [Int.sub_emod, h]; simp)
  have d2 := Int.dvd_trans d1 (Int.dvd_mul_left a _)
  have d3 := Int.dvd_trans (Int.dvd_self_sub_emod (x := a * i) (m := p)) (Int.dvd_mul_right _ b)
  rw [show a - a * i % p * b = -(a * (i * b - 1)) + (a * i - a * i % p) * b by rw [Int.mul_sub, Int.sub_mul, ← Int.mul_assoc, Int.mul_one]; omega]
  exact Int.dvd_add (Int.dvd_neg.mpr d2) d3
theorem row_e {p r k q : Int} (hp : Xpr p) (hr : 0 ≤ r ∧ r < p) (hk : 0 ≤ k ∧ k < p) (hq : 0 ≤ q ∧ q < p) : Int.tmod (r + (p - k) * q) p = (r - k * q) % p := by
  have h0 : 0 ≤ (p - k) * q := Int.mul_nonneg (by omega) hq.1
  rw [Int.tmod_eq_emod_of_nonneg (by omega), show r + (p - k) * q = r - k * q + q * p by rw [Int.sub_mul, Int.mul_comm p q]; omega, Int.add_mul_emod_self_right]
theorem row_b {p r k q : Int} (hp : 2 ≤ p ∧ p ≤ 7) (hr : 0 ≤ r ∧ r < p) (hk : 0 ≤ k ∧ k < p) (hq : 0 ≤ q ∧ q < p) : 0 ≤ (p - k) * q ∧ (p - k) * q ≤ 49 := by
  refine ⟨Int.mul_nonneg (by omega) hq.1, ?_⟩
  have h1 := Int.mul_le_mul_of_nonneg_left (show q ≤ 7 by omega) (show 0 ≤ p - k by omega)
  omega
def WR (K : CX) (w i : Int) (R : Int → Int → Int) (O : Int → Int) (z : Int) : Int := if O z ≠ -1 then O z else if rk K w z < i then la K w (R z) else -1

set_option maxRecDepth 20000 in
set_option maxHeartbeats 4000000 in
theorem c_M_isBefore (S : mm_S) (c : Int) (hc : 0 ≤ c ∧ c < 5) (K : CX) (h : MRr S c K) (w : Int) (hw : w = 0 ∨ w = 1) (x y : Int) (hx : 0 ≤ x ∧ x < Xn K) (hy : 0 ≤ y ∧ y < Xn K) : Cl 70 [(2, 71), (0, c), (0, w), (0, x), (0, y)] S (fun v S' => (v = some (0, 1) ∧ bef K w x y ∧ S = S') ∨ (v = some (0, 0) ∧ ¬ bef K w x y ∧ S = S')) := by
  refine ⟨Nat.le_of_ble_eq_true rfl, ?_⟩
  show Rn k_M_isBefore 0 [(2, 71), (0, c), (0, w), (0, x), (0, y)] [] S _
  refine R_lo (nx := 1) rfl rfl rfl rfl ?_
  refine R_lo (nx := 2) rfl rfl rfl rfl ?_
  refine R_lo (nx := 3) rfl rfl rfl rfl ?_
  refine R_lo (nx := 4) rfl rfl rfl rfl ?_
  refine R_call1 (nx := 7) (as := [(2, 71), (0, c), (0, w), (0, x)]) (rest := []) rfl rfl (fun _ _ => rfl) rfl rfl rfl rfl rfl rfl rfl rfl (Cl.mono (c_M_level S c (by omega) K (show MRr S c K by first | assumption | exact MR.r (by assumption) | exact MRr.up (by assumption) (by omega) | exact MRr.up (MR.r (by assumption)) (by omega) | exact MRr.up (MRr.up (MR.r (by assumption)) (by omega)) (by omega)) w x (by omega) (by omega)) ?_)
  rintro _ _ ⟨rfl, rfl⟩
  refine ⟨_, rfl, ?_⟩
  refine R_lo (nx := 8) rfl rfl rfl rfl ?_
  refine R_lo (nx := 9) rfl rfl rfl rfl ?_
  refine R_lo (nx := 10) rfl rfl rfl rfl ?_
  refine R_lo (nx := 12) rfl rfl rfl rfl ?_
  refine R_call1 (nx := 15) (as := [(2, 71), (0, c), (0, w), (0, y)]) (rest := [(0, (Xl K w x))]) rfl rfl (fun _ _ => rfl) rfl rfl rfl rfl rfl rfl rfl rfl (Cl.mono (c_M_level S c (by omega) K (show MRr S c K by first | assumption | exact MR.r (by assumption) | exact MRr.up (by assumption) (by omega) | exact MRr.up (MR.r (by assumption)) (by omega) | exact MRr.up (MRr.up (MR.r (by assumption)) (by omega)) (by omega)) w y (by omega) (by omega)) ?_)
  rintro _ _ ⟨rfl, rfl⟩
  refine ⟨_, rfl, ?_⟩
  refine R_icmp (nx := 18) (tg := 42) rfl rfl rfl (mm_cnd_eq _ _) (fun c15 => ?_) (fun c15 => ?_)
  ·
    refine R_lo (nx := 43) rfl rfl rfl rfl ?_
    refine R_lo (nx := 44) rfl rfl rfl rfl ?_
    refine R_lo (nx := 45) rfl rfl rfl rfl ?_
    refine R_call1 (nx := 48) (as := [(2, 71), (0, c), (0, x)]) (rest := []) rfl rfl (fun _ _ => rfl) rfl rfl rfl rfl rfl rfl rfl rfl (Cl.mono (c_M_degree S c (by omega) K (show MRr S c K by first | assumption | exact MR.r (by assumption) | exact MRr.up (by assumption) (by omega) | exact MRr.up (MR.r (by assumption)) (by omega) | exact MRr.up (MRr.up (MR.r (by assumption)) (by omega)) (by omega)) x (by omega)) ?_)
    rintro _ _ ⟨rfl, rfl⟩
    refine ⟨_, rfl, ?_⟩
    refine R_lo (nx := 49) rfl rfl rfl rfl ?_
    refine R_lo (nx := 50) rfl rfl rfl rfl ?_
    refine R_lo (nx := 52) rfl rfl rfl rfl ?_
    refine R_call1 (nx := 55) (as := [(2, 71), (0, c), (0, y)]) (rest := [(0, (Xd K x))]) rfl rfl (fun _ _ => rfl) rfl rfl rfl rfl rfl rfl rfl rfl (Cl.mono (c_M_degree S c (by omega) K (show MRr S c K by first | assumption | exact MR.r (by assumption) | exact MRr.up (by assumption) (by omega) | exact MRr.up (MR.r (by assumption)) (by omega) | exact MRr.up (MRr.up (MR.r (by assumption)) (by omega)) (by omega)) y (by omega)) ?_)
    rintro _ _ ⟨rfl, rfl⟩
    refine ⟨_, rfl, ?_⟩
    refine R_icmp (nx := 58) (tg := 82) rfl rfl rfl (mm_cnd_eq _ _) (fun c55 => ?_) (fun c55 => ?_)
    ·
      refine R_lo (nx := 83) rfl rfl rfl rfl ?_
      refine R_lo (nx := 85) rfl rfl rfl rfl ?_
      refine R_icmp (nx := 88) (tg := 92) rfl rfl rfl (mm_cnd_ge _ _) (fun c85 => ?_) (fun c85 => ?_)
      ·
        refine R_op (nx := 93) rfl rfl rfl ?_
        refine R_ret rfl (fun _ _ => rfl) rfl rfl ?_
        first | exact Or.inl ⟨rfl, by unfold bef; omega, rfl⟩ | exact Or.inr ⟨rfl, by unfold bef; omega, rfl⟩
      ·
        refine R_op (nx := 89) rfl rfl rfl ?_
        refine R_op (nx := 92) (pc' := 93) rfl rfl rfl ?_
        refine R_ret rfl (fun _ _ => rfl) rfl rfl ?_
        first | exact Or.inl ⟨rfl, by unfold bef; omega, rfl⟩ | exact Or.inr ⟨rfl, by unfold bef; omega, rfl⟩
    ·
      refine R_lo (nx := 59) rfl rfl rfl rfl ?_
      refine R_lo (nx := 60) rfl rfl rfl rfl ?_
      refine R_lo (nx := 61) rfl rfl rfl rfl ?_
      refine R_call1 (nx := 64) (as := [(2, 71), (0, c), (0, x)]) (rest := []) rfl rfl (fun _ _ => rfl) rfl rfl rfl rfl rfl rfl rfl rfl (Cl.mono (c_M_degree S c (by omega) K (show MRr S c K by first | assumption | exact MR.r (by assumption) | exact MRr.up (by assumption) (by omega) | exact MRr.up (MR.r (by assumption)) (by omega) | exact MRr.up (MRr.up (MR.r (by assumption)) (by omega)) (by omega)) x (by omega)) ?_)
      rintro _ _ ⟨rfl, rfl⟩
      refine ⟨_, rfl, ?_⟩
      refine R_lo (nx := 65) rfl rfl rfl rfl ?_
      refine R_lo (nx := 66) rfl rfl rfl rfl ?_
      refine R_lo (nx := 68) rfl rfl rfl rfl ?_
      refine R_call1 (nx := 71) (as := [(2, 71), (0, c), (0, y)]) (rest := [(0, (Xd K x))]) rfl rfl (fun _ _ => rfl) rfl rfl rfl rfl rfl rfl rfl rfl (Cl.mono (c_M_degree S c (by omega) K (show MRr S c K by first | assumption | exact MR.r (by assumption) | exact MRr.up (by assumption) (by omega) | exact MRr.up (MR.r (by assumption)) (by omega) | exact MRr.up (MRr.up (MR.r (by assumption)) (by omega)) (by omega)) y (by omega)) ?_)
      rintro _ _ ⟨rfl, rfl⟩
      refine ⟨_, rfl, ?_⟩
      refine R_icmp (nx := 74) (tg := 78) rfl rfl rfl (mm_cnd_ge _ _) (fun c71 => ?_) (fun c71 => ?_)
      ·
        refine R_op (nx := 79) rfl rfl rfl ?_
        refine R_op (nx := 82) (pc' := 93) rfl rfl rfl ?_
        refine R_ret rfl (fun _ _ => rfl) rfl rfl ?_
        first | exact Or.inl ⟨rfl, by unfold bef; omega, rfl⟩ | exact Or.inr ⟨rfl, by unfold bef; omega, rfl⟩
      ·
        refine R_op (nx := 75) rfl rfl rfl ?_
        refine R_op (nx := 78) (pc' := 93) rfl rfl rfl ?_
        refine R_ret rfl (fun _ _ => rfl) rfl rfl ?_
        first | exact Or.inl ⟨rfl, by unfold bef; omega, rfl⟩ | exact Or.inr ⟨rfl, by unfold bef; omega, rfl⟩
  ·
    refine R_lo (nx := 19) rfl rfl rfl rfl ?_
    refine R_lo (nx := 20) rfl rfl rfl rfl ?_
    refine R_lo (nx := 21) rfl rfl rfl rfl ?_
    refine R_lo (nx := 22) rfl rfl rfl rfl ?_
    refine R_call1 (nx := 25) (as := [(2, 71), (0, c), (0, w), (0, x)]) (rest := []) rfl rfl (fun _ _ => rfl) rfl rfl rfl rfl rfl rfl rfl rfl (Cl.mono (c_M_level S c (by omega) K (show MRr S c K by first | assumption | exact MR.r (by assumption) | exact MRr.up (by assumption) (by omega) | exact MRr.up (MR.r (by assumption)) (by omega) | exact MRr.up (MRr.up (MR.r (by assumption)) (by omega)) (by omega)) w x (by omega) (by omega)) ?_)
    rintro _ _ ⟨rfl, rfl⟩
    refine ⟨_, rfl, ?_⟩
    refine R_lo (nx := 26) rfl rfl rfl rfl ?_
    refine R_lo (nx := 27) rfl rfl rfl rfl ?_
    refine R_lo (nx := 28) rfl rfl rfl rfl ?_
    refine R_lo (nx := 30) rfl rfl rfl rfl ?_
    refine R_call1 (nx := 33) (as := [(2, 71), (0, c), (0, w), (0, y)]) (rest := [(0, (Xl K w x))]) rfl rfl (fun _ _ => rfl) rfl rfl rfl rfl rfl rfl rfl rfl (Cl.mono (c_M_level S c (by omega) K (show MRr S c K by first | assumption | exact MR.r (by assumption) | exact MRr.up (by assumption) (by omega) | exact MRr.up (MR.r (by assumption)) (by omega) | exact MRr.up (MRr.up (MR.r (by assumption)) (by omega)) (by omega)) w y (by omega) (by omega)) ?_)
    rintro _ _ ⟨rfl, rfl⟩
    refine ⟨_, rfl, ?_⟩
    refine R_icmp (nx := 36) (tg := 40) rfl rfl rfl (mm_cnd_ge _ _) (fun c33 => ?_) (fun c33 => ?_)
    ·
      refine R_op (nx := 41) rfl rfl rfl ?_
      refine R_ret rfl (fun _ _ => rfl) rfl rfl ?_
      first | exact Or.inl ⟨rfl, by unfold bef; omega, rfl⟩ | exact Or.inr ⟨rfl, by unfold bef; omega, rfl⟩
    ·
      refine R_op (nx := 37) rfl rfl rfl ?_
      refine R_op (nx := 40) (pc' := 41) rfl rfl rfl ?_
      refine R_ret rfl (fun _ _ => rfl) rfl rfl ?_
      first | exact Or.inl ⟨rfl, by unfold bef; omega, rfl⟩ | exact Or.inr ⟨rfl, by unfold bef; omega, rfl⟩

set_option maxRecDepth 20000 in
set_option maxHeartbeats 4000000 in
theorem c_M_findOrder (S : mm_S) (c : Int) (hc : 0 ≤ c ∧ c < 5) (K : CX) (h : MR S c K) (w : Int) (hw : w = 0 ∨ w = 1) : Cl 71 [(2, 71), (0, c), (0, w)] S (fun v S' => v = none ∧ (∀ k, 0 ≤ k → k < Xn K → S' 82 k = od K w k) ∧ ∀ b, b ≠ 82 → S' b = S b) := by
  refine ⟨Nat.le_of_ble_eq_true rfl, ?_⟩
  show Rn k_M_findOrder 0 [(2, 71), (0, c), (0, w), (9, 0), (9, 0), (9, 0)] [] S _
  have hnr := h.1.nr
  refine R_op (nx := 1) rfl rfl rfl ?_
  refine R_lo (nx := 2) (ls' := [(2, 71), (0, c), (0, w), (0, 0), (9, 0), (9, 0)]) rfl rfl rfl rfl ?_
  have L2 : ∀ (f2 : Nat) (S1 : mm_S) (x : Int), (Xn K - x).toNat < f2 → (0 ≤ x ∧ x ≤ Xn K) → (∀ z, 0 ≤ z → z < x → S1 82 (rk K w z) = z) → (∀ b, b ≠ 82 → S1 b = S b) → Rn k_M_findOrder 2 [(2, 71), (0, c), (0, w), (0, x), (9, 0), (9, 0)] [] S1 (fun v S' => v = none ∧ (∀ k, 0 ≤ k → k < Xn K → S' 82 k = od K w k) ∧ ∀ b, b ≠ 82 → S' b = S b) := by
    intro f2
    induction f2 with
    | zero => intro S1 x hm2; exact absurd hm2 (Nat.not_lt_zero _)
    | succ f2 ih2 =>
      intro S1 x hm2 hx hO hF
      have m1 : MR S1 c K := h.fr fun e p q => hF e (by omega)
      have nn := m1.n
      refine R_lo (nx := 3) rfl rfl rfl rfl ?_
      refine R_lo (nx := 4) rfl rfl rfl rfl ?_
      refine R_get (nx := 7) (w := (2, 72)) rfl rfl rfl rfl ?_
      refine R_lo (nx := 8) rfl rfl rfl rfl ?_
      refine R_iald (nx := 9) rfl rfl (mm_el_ok 1 5 (by decide) rfl (by decide) (by omega) (by omega)) ?_
      rw [nn]
      refine R_icmp (nx := 12) (tg := 77) rfl rfl rfl (mm_cnd_ge _ _) (fun c9 => ?_) (fun c9 => ?_)
      ·
        refine R_ret rfl (fun _ _ => rfl) rfl rfl ?_
        exact ⟨rfl, fun k k0 k1 => od_to (a := fun k => S1 82 k) (fun z z0 z1 => hO z z0 (by omega)) ⟨k0, k1⟩, hF⟩
      ·
        refine R_op (nx := 13) rfl rfl rfl ?_
        refine R_lo (nx := 15) (ls' := [(2, 71), (0, c), (0, w), (0, x), (0, 0), (9, 0)]) rfl rfl rfl rfl ?_
        refine R_op (nx := 16) rfl rfl rfl ?_
        refine R_lo (nx := 18) (ls' := [(2, 71), (0, c), (0, w), (0, x), (0, 0), (0, 0)]) rfl rfl rfl rfl ?_
        have L18 : ∀ (f18 : Nat) (r : Int) (i : Int), (Xn K - i).toNat < f18 → (0 ≤ i ∧ i ≤ Xn K) → (0 ≤ r ∧ r ≤ i) → (r = rkb K w i x) → Rn k_M_findOrder 18 [(2, 71), (0, c), (0, w), (0, x), (0, r), (0, i)] [] S1 (fun v S' => v = none ∧ (∀ k, 0 ≤ k → k < Xn K → S' 82 k = od K w k) ∧ ∀ b, b ≠ 82 → S' b = S b) := by
          intro f18
          induction f18 with
          | zero => intro r i hm18; exact absurd hm18 (Nat.not_lt_zero _)
          | succ f18 ih18 =>
            intro r i hm18 hi hb hr
            refine R_lo (nx := 20) rfl rfl rfl rfl ?_
            refine R_lo (nx := 21) rfl rfl rfl rfl ?_
            refine R_get (nx := 24) (w := (2, 72)) rfl rfl rfl rfl ?_
            refine R_lo (nx := 25) rfl rfl rfl rfl ?_
            refine R_iald (nx := 26) rfl rfl (mm_el_ok 1 5 (by decide) rfl (by decide) (by omega) (by omega)) ?_
            rw [nn]
            refine R_icmp (nx := 29) (tg := 63) rfl rfl rfl (mm_cnd_ge _ _) (fun c26 => ?_) (fun c26 => ?_)
            ·
              have hr2 : rk K w x = r := by rw [hr, show i = Xn K by omega]; rfl
              have hrr := rk_r (K := K) (w := w) (show 0 ≤ x ∧ x < Xn K by omega)
              refine R_lo (nx := 64) rfl rfl rfl rfl ?_
              refine R_get (nx := 67) (w := (2, 82)) rfl rfl rfl rfl ?_
              refine R_lo (nx := 69) rfl rfl rfl rfl ?_
              refine R_lo (nx := 70) rfl rfl rfl rfl ?_
              refine R_iast (nx := 71) rfl rfl (mm_el_ok 1 12 (by decide) rfl (by decide) (by omega) (by omega)) ?_
              refine R_iinc (nx := 74) (z := (x + 1)) (ls' := [(2, 71), (0, c), (0, w), (0, (x + 1)), (0, r), (0, i)]) rfl rfl rfl rfl ⟨by omega, by omega⟩ rfl ?_
              refine R_op (nx := 77) (pc' := 2) rfl rfl rfl ?_
              refine Rn.weak (ls' := [(2, 71), (0, c), (0, w), (0, (x + 1)), (9, 0), (9, 0)]) ⟨Or.inl rfl, ⟨Or.inl rfl, ⟨Or.inl rfl, ⟨Or.inl rfl, ⟨Or.inr rfl, ⟨Or.inr rfl, trivial⟩⟩⟩⟩⟩⟩ ?_
              refine ih2 ((mm_up S1 82 r x)) ((x + 1)) ?_ ?_ ?_ ?_
              · omega
              · omega
              · intro z z0 z1
                by_cases e : z = x
                · rw [e, show rk K w x = r from hr2]; exact mm_ua
                · have := rk_ne (w := w) ⟨z0, show z < Xn K by omega⟩ (show 0 ≤ x ∧ x < Xn K by omega) e
                  rw [mm_uk (by rw [← hr2]; exact this)]; exact hO z z0 (by omega)
              · intro b hb; rw [mm_unq hb]; exact hF b hb
            ·
              refine R_lo (nx := 31) rfl rfl rfl rfl ?_
              refine R_lo (nx := 33) rfl rfl rfl rfl ?_
              refine R_lo (nx := 34) rfl rfl rfl rfl ?_
              refine R_icmp (nx := 37) (tg := 53) rfl rfl rfl (mm_cnd_eq _ _) (fun c34 => ?_) (fun c34 => ?_)
              ·
                refine R_op (nx := 54) rfl rfl rfl ?_
                refine R_iadd (nx := 55) (z := (r + 0)) rfl rfl rfl ⟨by omega, by omega⟩ ?_
                refine R_lo (nx := 57) (ls' := [(2, 71), (0, c), (0, w), (0, x), (0, (r + 0)), (0, i)]) rfl rfl rfl rfl ?_
                refine R_iinc (nx := 60) (z := (i + 1)) (ls' := [(2, 71), (0, c), (0, w), (0, x), (0, (r + 0)), (0, (i + 1))]) rfl rfl rfl rfl ⟨by omega, by omega⟩ rfl ?_
                refine R_op (nx := 63) (pc' := 18) rfl rfl rfl ?_
                refine Rn.weak (ls' := [(2, 71), (0, c), (0, w), (0, x), (0, (r + 0)), (0, (i + 1))]) ⟨Or.inl rfl, ⟨Or.inl rfl, ⟨Or.inl rfl, ⟨Or.inl rfl, ⟨Or.inl rfl, ⟨Or.inl rfl, trivial⟩⟩⟩⟩⟩⟩ ?_
                refine ih18 ((r + 0)) ((i + 1)) ?_ ?_ ?_ ?_
                · omega
                · omega
                · omega
                · rw [rkb_s hi.1, ← hr]
                  first | rw [if_pos b43] | rw [if_neg b43, Int.add_zero] | (rw [if_neg (by rw [c34]; exact bef_ir K w x), Int.add_zero])
              ·
                refine R_lo (nx := 38) rfl rfl rfl rfl ?_
                refine R_lo (nx := 39) rfl rfl rfl rfl ?_
                refine R_lo (nx := 40) rfl rfl rfl rfl ?_
                refine R_lo (nx := 42) rfl rfl rfl rfl ?_
                refine R_lo (nx := 43) rfl rfl rfl rfl ?_
                refine R_call1 (nx := 46) (as := [(2, 71), (0, c), (0, w), (0, i), (0, x)]) (rest := [(0, r)]) rfl rfl (fun _ _ => rfl) rfl rfl rfl rfl rfl rfl rfl rfl (Cl.mono (c_M_isBefore S1 c (by omega) K (show MRr S1 c K by first | assumption | exact MR.r (by assumption) | exact MRr.up (by assumption) (by omega) | exact MRr.up (MR.r (by assumption)) (by omega) | exact MRr.up (MRr.up (MR.r (by assumption)) (by omega)) (by omega)) w (by assumption) i x (by omega) (by omega)) ?_)
                rintro _ _ (⟨rfl, b43, rfl⟩ | ⟨rfl, b43, rfl⟩)
                ·
                  refine ⟨_, rfl, ?_⟩
                  refine R_ifF (nx := 49) rfl rfl rfl ?_
                  refine R_op (nx := 50) rfl rfl rfl ?_
                  refine R_op (nx := 53) (pc' := 54) rfl rfl rfl ?_
                  refine R_iadd (nx := 55) (z := (r + 1)) rfl rfl rfl ⟨by omega, by omega⟩ ?_
                  refine R_lo (nx := 57) (ls' := [(2, 71), (0, c), (0, w), (0, x), (0, (r + 1)), (0, i)]) rfl rfl rfl rfl ?_
                  refine R_iinc (nx := 60) (z := (i + 1)) (ls' := [(2, 71), (0, c), (0, w), (0, x), (0, (r + 1)), (0, (i + 1))]) rfl rfl rfl rfl ⟨by omega, by omega⟩ rfl ?_
                  refine R_op (nx := 63) (pc' := 18) rfl rfl rfl ?_
                  refine Rn.weak (ls' := [(2, 71), (0, c), (0, w), (0, x), (0, (r + 1)), (0, (i + 1))]) ⟨Or.inl rfl, ⟨Or.inl rfl, ⟨Or.inl rfl, ⟨Or.inl rfl, ⟨Or.inl rfl, ⟨Or.inl rfl, trivial⟩⟩⟩⟩⟩⟩ ?_
                  refine ih18 ((r + 1)) ((i + 1)) ?_ ?_ ?_ ?_
                  · omega
                  · omega
                  · omega
                  · rw [rkb_s hi.1, ← hr]
                    first | rw [if_pos b43] | rw [if_neg b43, Int.add_zero] | (rw [if_neg (by rw [c34]; exact bef_ir K w x), Int.add_zero])
                ·
                  refine ⟨_, rfl, ?_⟩
                  refine R_ifT (tg := 53) rfl rfl rfl ?_
                  refine R_op (nx := 54) rfl rfl rfl ?_
                  refine R_iadd (nx := 55) (z := (r + 0)) rfl rfl rfl ⟨by omega, by omega⟩ ?_
                  refine R_lo (nx := 57) (ls' := [(2, 71), (0, c), (0, w), (0, x), (0, (r + 0)), (0, i)]) rfl rfl rfl rfl ?_
                  refine R_iinc (nx := 60) (z := (i + 1)) (ls' := [(2, 71), (0, c), (0, w), (0, x), (0, (r + 0)), (0, (i + 1))]) rfl rfl rfl rfl ⟨by omega, by omega⟩ rfl ?_
                  refine R_op (nx := 63) (pc' := 18) rfl rfl rfl ?_
                  refine Rn.weak (ls' := [(2, 71), (0, c), (0, w), (0, x), (0, (r + 0)), (0, (i + 1))]) ⟨Or.inl rfl, ⟨Or.inl rfl, ⟨Or.inl rfl, ⟨Or.inl rfl, ⟨Or.inl rfl, ⟨Or.inl rfl, trivial⟩⟩⟩⟩⟩⟩ ?_
                  refine ih18 ((r + 0)) ((i + 1)) ?_ ?_ ?_ ?_
                  · omega
                  · omega
                  · omega
                  · rw [rkb_s hi.1, ← hr]
                    first | rw [if_pos b43] | rw [if_neg b43, Int.add_zero] | (rw [if_neg (by rw [c34]; exact bef_ir K w x), Int.add_zero])
        refine Rn.weak (ls' := [(2, 71), (0, c), (0, w), (0, x), (0, 0), (0, 0)]) ⟨Or.inl rfl, ⟨Or.inl rfl, ⟨Or.inl rfl, ⟨Or.inl rfl, ⟨Or.inl rfl, ⟨Or.inl rfl, trivial⟩⟩⟩⟩⟩⟩ ?_
        refine L18 ((Xn K - (0)).toNat + 1) (0) (0) (Nat.lt_succ_self _) ?_ ?_ ?_
        · omega
        · omega
        · rfl
  refine Rn.weak (ls' := [(2, 71), (0, c), (0, w), (0, 0), (9, 0), (9, 0)]) ⟨Or.inl rfl, ⟨Or.inl rfl, ⟨Or.inl rfl, ⟨Or.inl rfl, ⟨Or.inl rfl, ⟨Or.inl rfl, trivial⟩⟩⟩⟩⟩⟩ ?_
  refine L2 ((Xn K - (0)).toNat + 1) (S) (0) (Nat.lt_succ_self _) ?_ ?_ ?_
  · omega
  · intro z z0 z1; omega
  · intro b hb; rfl

set_option maxRecDepth 20000 in
set_option maxHeartbeats 4000000 in
theorem c_M_lastOf (S : mm_S) (c : Int) (hc : 0 ≤ c ∧ c < 5) (K : CX) (h : MR S c K) (w : Int) (hw : w = 0 ∨ w = 1) (x : Int) (hx : 0 ≤ x ∧ x < 12) (hO : ∀ k, 0 ≤ k → k < Xn K → S 82 k = od K w k) : Cl 72 [(2, 71), (0, c), (0, x)] S (fun v S' => v = some (0, la K w (fun y => S 80 (12 * x + y))) ∧ S = S') := by
  refine ⟨Nat.le_of_ble_eq_true rfl, ?_⟩
  show Rn k_M_lastOf 0 [(2, 71), (0, c), (0, x), (9, 0), (9, 0)] [] S _
  have hnr := h.1.nr
  have hn := h.n
  refine R_op (nx := 1) rfl rfl rfl ?_
  refine R_lo (nx := 2) (ls' := [(2, 71), (0, c), (0, x), (0, (-1)), (9, 0)]) rfl rfl rfl rfl ?_
  refine R_op (nx := 3) rfl rfl rfl ?_
  refine R_lo (nx := 5) (ls' := [(2, 71), (0, c), (0, x), (0, (-1)), (0, 0)]) rfl rfl rfl rfl ?_
  have L5 : ∀ (f5 : Nat) (l : Int) (i : Int), (Xn K - i).toNat < f5 → (0 ≤ i ∧ i ≤ Xn K) → (l = laI (fun y => S 80 (12 * x + y)) (od K w) i) → Rn k_M_lastOf 5 [(2, 71), (0, c), (0, x), (0, l), (0, i)] [] S (fun v S' => v = some (0, la K w (fun y => S 80 (12 * x + y))) ∧ S = S') := by
    intro f5
    induction f5 with
    | zero => intro l i hm5; exact absurd hm5 (Nat.not_lt_zero _)
    | succ f5 ih5 =>
      intro l i hm5 hi hl
      refine R_lo (nx := 7) rfl rfl rfl rfl ?_
      refine R_lo (nx := 8) rfl rfl rfl rfl ?_
      refine R_get (nx := 11) (w := (2, 72)) rfl rfl rfl rfl ?_
      refine R_lo (nx := 12) rfl rfl rfl rfl ?_
      refine R_iald (nx := 13) rfl rfl (mm_el_ok 1 5 (by decide) rfl (by decide) (by omega) (by omega)) ?_
      rw [hn]
      refine R_icmp (nx := 16) (tg := 54) rfl rfl rfl (mm_cnd_ge _ _) (fun c13 => ?_) (fun c13 => ?_)
      ·
        refine R_lo (nx := 55) rfl rfl rfl rfl ?_
        refine R_ret rfl (fun _ _ => rfl) rfl rfl ?_
        exact ⟨by rw [hl, show i = Xn K by omega]; rfl, rfl⟩
      ·
        refine R_lo (nx := 17) rfl rfl rfl rfl ?_
        refine R_get (nx := 20) (w := (2, 80)) rfl rfl rfl rfl ?_
        refine R_op (nx := 22) rfl rfl rfl ?_
        refine R_lo (nx := 23) rfl rfl rfl rfl ?_
        refine R_imul (nx := 24) (z := (12 * x)) rfl rfl rfl ⟨by omega, by omega⟩ ?_
        refine R_lo (nx := 25) rfl rfl rfl rfl ?_
        refine R_get (nx := 28) (w := (2, 82)) rfl rfl rfl rfl ?_
        refine R_lo (nx := 30) rfl rfl rfl rfl ?_
        refine R_iald (nx := 31) rfl rfl (mm_el_ok 1 12 (by decide) rfl (by decide) (by omega) (by omega)) ?_
        rw [hO i (by omega) (by omega)]
        have oi := (od_ok (K := K) (w := w) (i := i) (by omega)).1
        refine R_iadd (nx := 32) (z := ((12 * x) + (od K w i))) rfl rfl rfl ⟨by omega, by omega⟩ ?_
        refine R_iald (nx := 33) rfl rfl (mm_el_ok 1 144 (by decide) rfl (by decide) (by omega) (by omega)) ?_
        refine R_if (nx := 36) (tg := 46) rfl rfl rfl (mm_cnd_eq _ _) (fun c33 => ?_) (fun c33 => ?_)
        ·
          refine R_lo (nx := 47) rfl rfl rfl rfl ?_
          refine R_lo (nx := 48) (ls' := [(2, 71), (0, c), (0, x), (0, l), (0, i)]) rfl rfl rfl rfl ?_
          refine R_iinc (nx := 51) (z := (i + 1)) (ls' := [(2, 71), (0, c), (0, x), (0, l), (0, (i + 1))]) rfl rfl rfl rfl ⟨by omega, by omega⟩ rfl ?_
          refine R_op (nx := 54) (pc' := 5) rfl rfl rfl ?_
          refine Rn.weak (ls' := [(2, 71), (0, c), (0, x), (0, l), (0, (i + 1))]) ⟨Or.inl rfl, ⟨Or.inl rfl, ⟨Or.inl rfl, ⟨Or.inl rfl, ⟨Or.inl rfl, trivial⟩⟩⟩⟩⟩ ?_
          refine ih5 (l) ((i + 1)) ?_ ?_ ?_
          · omega
          · omega
          · rw [laI_s _ _ hi.1]
            first | (rw [if_pos c33]; done) | (rw [if_neg (fun z => z c33)]; exact hl)
        ·
          refine R_lo (nx := 37) rfl rfl rfl rfl ?_
          refine R_get (nx := 40) (w := (2, 82)) rfl rfl rfl rfl ?_
          refine R_lo (nx := 42) rfl rfl rfl rfl ?_
          refine R_iald (nx := 43) rfl rfl (mm_el_ok 1 12 (by decide) rfl (by decide) (by omega) (by omega)) ?_
          rw [hO i (by omega) (by omega)]
          refine R_op (nx := 46) (pc' := 47) rfl rfl rfl ?_
          refine R_lo (nx := 48) (ls' := [(2, 71), (0, c), (0, x), (0, (od K w i)), (0, i)]) rfl rfl rfl rfl ?_
          refine R_iinc (nx := 51) (z := (i + 1)) (ls' := [(2, 71), (0, c), (0, x), (0, (od K w i)), (0, (i + 1))]) rfl rfl rfl rfl ⟨by omega, by omega⟩ rfl ?_
          refine R_op (nx := 54) (pc' := 5) rfl rfl rfl ?_
          refine Rn.weak (ls' := [(2, 71), (0, c), (0, x), (0, (od K w i)), (0, (i + 1))]) ⟨Or.inl rfl, ⟨Or.inl rfl, ⟨Or.inl rfl, ⟨Or.inl rfl, ⟨Or.inl rfl, trivial⟩⟩⟩⟩⟩ ?_
          refine ih5 ((od K w i)) ((i + 1)) ?_ ?_ ?_
          · omega
          · omega
          · rw [laI_s _ _ hi.1]
            first | (rw [if_pos c33]; done) | (rw [if_neg (fun z => z c33)]; exact hl)
  refine Rn.weak (ls' := [(2, 71), (0, c), (0, x), (0, (-1)), (0, 0)]) ⟨Or.inl rfl, ⟨Or.inl rfl, ⟨Or.inl rfl, ⟨Or.inl rfl, ⟨Or.inl rfl, trivial⟩⟩⟩⟩⟩ ?_
  refine L5 ((Xn K - (0)).toNat + 1) ((-1)) (0) (Nat.lt_succ_self _) ?_ ?_
  · omega
  · rfl

set_option maxRecDepth 20000 in
set_option maxHeartbeats 4000000 in
theorem c_M_inverse (S : mm_S) (a p : Int) (hp : Xpr p) (ha : 0 < a ∧ a < p) : Cl 73 [(0, a), (0, p)] S (fun v S' => ∃ i, v = some (0, i) ∧ S = S' ∧ (1 ≤ i ∧ i < p) ∧ (i * a) % p = 1) := by
  refine ⟨Nat.le_of_ble_eq_true rfl, ?_⟩
  show Rn k_M_inverse 0 [(0, a), (0, p), (9, 0)] [] S _
  have hpb := pr_b hp
  obtain ⟨j, hj, hj2⟩ := iv_ex hp ha
  refine R_op (nx := 1) rfl rfl rfl ?_
  refine R_lo (nx := 2) (ls' := [(0, a), (0, p), (0, 1)]) rfl rfl rfl rfl ?_
  have L2 : ∀ (f2 : Nat) (i : Int), (j - i).toNat < f2 → (1 ≤ i ∧ i ≤ j) → Rn k_M_inverse 2 [(0, a), (0, p), (0, i)] [] S (fun v S' => ∃ i, v = some (0, i) ∧ S = S' ∧ (1 ≤ i ∧ i < p) ∧ (i * a) % p = 1) := by
    intro f2
    induction f2 with
    | zero => intro i hm2; exact absurd hm2 (Nat.not_lt_zero _)
    | succ f2 ih2 =>
      intro i hm2 hi
      have hb := pkb (k := i) (z := a) (p := p) (by omega) (by omega) hpb
      have e8 := Int.tmod_eq_emod_of_nonneg (b := p) hb.1
      refine R_lo (nx := 3) rfl rfl rfl rfl ?_
      refine R_lo (nx := 4) rfl rfl rfl rfl ?_
      refine R_imul (nx := 5) (z := (i * a)) rfl rfl rfl ⟨by omega, by omega⟩ ?_
      refine R_lo (nx := 6) rfl rfl rfl rfl ?_
      refine R_irem (nx := 7) (z := (Int.tmod (i * a) p)) rfl rfl (by omega) rfl ?_
      refine R_op (nx := 8) rfl rfl rfl ?_
      refine R_icmp (nx := 11) (tg := 17) rfl rfl rfl (mm_cnd_eq _ _) (fun c8 => ?_) (fun c8 => ?_)
      ·
        refine R_lo (nx := 18) rfl rfl rfl rfl ?_
        refine R_ret rfl (fun _ _ => rfl) rfl rfl ?_
        exact ⟨i, rfl, rfl, by omega, by rw [← e8]; exact c8⟩
      ·
        refine R_iinc (nx := 14) (z := (i + 1)) (ls' := [(0, a), (0, p), (0, (i + 1))]) rfl rfl rfl rfl ⟨by omega, by omega⟩ rfl ?_
        refine R_op (nx := 17) (pc' := 2) rfl rfl rfl ?_
        refine Rn.weak (ls' := [(0, a), (0, p), (0, (i + 1))]) ⟨Or.inl rfl, ⟨Or.inl rfl, ⟨Or.inl rfl, trivial⟩⟩⟩ ?_
        refine ih2 ((i + 1)) ?_ ?_
        · have : i ≠ j := fun q => c8 (by rw [q]; rw [q] at e8; rw [e8]; exact hj2); omega
        · have : i ≠ j := fun q => c8 (by rw [q]; rw [q] at e8; rw [e8]; exact hj2); omega
  refine Rn.weak (ls' := [(0, a), (0, p), (0, 1)]) ⟨Or.inl rfl, ⟨Or.inl rfl, ⟨Or.inl rfl, trivial⟩⟩⟩ ?_
  refine L2 ((j - (1)).toNat + 1) (1) (Nat.lt_succ_self _) ?_
  · omega

theorem WR_s {K : CX} {w p i x : Int} {R : Int → Int → Int} {O : Int → Int} {r : Int → Int} (ha : IVa K w p i R O) (hb : IVb K w p i R O) (hn : 0 ≤ Xn K) (hx : 0 ≤ x ∧ x < Xn K) (hi : rk K w x = i) (hr : PR K w p x r) (he : la K w r = -1 ∨ O (la K w r) = -1) {z : Int} (hz : 0 ≤ z ∧ z < Xn K) : WR K w (i + 1) (fun a => if a = x then r else R a) (if la K w r = -1 then O else fun m => if m = la K w r then x else O m) z = if z = x then la K w r else if la K w r ≠ -1 ∧ z = la K w r then x else WR K w i R O z := by
  have hOx : O x = -1 := by
    rcases ha.2.1 x with q | ⟨q1, q2, q3⟩
    · exact q
    · have := hb.2 (O x) x q1.1 q1.2 hx.1 hx.2 q3.2.1
      omega
  have hlx : la K w r ≠ -1 → la K w r ≠ x := fun q e => by
    have hl := la_rng hn q
    have := hr.2.2 _ hl.1.1 hl.1.2 hl.2.1
    rw [e] at this
    omega
  unfold WR
  by_cases e : z = x
  · subst e
    rw [if_pos rfl]
    have e1 : (if la K w r = -1 then O else fun m => if m = la K w r then z else O m) z = -1 := by
      by_cases q : la K w r = -1
      · rw [if_pos q]; exact hOx
      · rw [if_neg q]
        exact (if_neg fun q2 => hlx q q2.symm).trans hOx
    rw [e1, if_neg (fun q => q rfl), if_pos (by omega)]
    show la K w (if z = z then r else R z) = _
    rw [if_pos rfl]
  · rw [if_neg e]
    by_cases q : la K w r ≠ -1 ∧ z = la K w r
    · rw [if_pos q, if_neg q.1]
      have e1 : (if z = la K w r then x else O z) = x := if_pos q.2
      rw [e1, if_pos (by omega)]
    · rw [if_neg q]
      have e1 : (if la K w r = -1 then O else fun m => if m = la K w r then x else O m) z = O z := by
        by_cases q2 : la K w r = -1
        · rw [if_pos q2]
        · rw [if_neg q2]
          exact if_neg fun q3 => q ⟨q2, q3⟩
      rw [e1]
      dsimp only
      rw [if_neg e]
      have h3 := rk_ne (w := w) hz hx e
      by_cases q2 : rk K w z < i
      · rw [if_pos q2, if_pos (show rk K w z < i + 1 by omega)]
      · rw [if_neg q2, if_neg (show ¬ rk K w z < i + 1 by omega)]
theorem WR_l {K : CX} {w p i x : Int} {R : Int → Int → Int} {O : Int → Int} {r : Int → Int} (hp : Xpr p) (hn : 0 ≤ Xn K) (hd : ∀ a b, Xdd K a b = 0) (ha : IVa K w p i R O) (hb : IVb K w p i R O) (hx : 0 ≤ x ∧ x < Xn K) (hi : rk K w x = i) (hr : PR K w p x r) (hl : isL K w r (la K w r)) : WR K w i R O (la K w r) = O (la K w r) := by
  have h1 := hr.2.2 _ hl.1.1 hl.1.2 hl.2.1
  have h2 := IV_dd hp hn hd ha hb hr.1 (PR_InS hx hr) hl (by omega)
  unfold WR
  by_cases q : O (la K w r) ≠ -1
  · rw [if_pos q]
  · rw [if_neg q, h2]
    rw [Classical.not_not.mp q]
    exact ite_self _

theorem WR_x {K : CX} {w p i x : Int} {R : Int → Int → Int} {O : Int → Int} (ha : IVa K w p i R O) (hb : IVb K w p i R O) (hx : 0 ≤ x ∧ x < Xn K) (hi : rk K w x = i) : WR K w i R O x = -1 := by
  have hOx : O x = -1 := by
    rcases ha.2.1 x with q | ⟨q1, q2, q3⟩
    · exact q
    · have := hb.2 (O x) x q1.1 q1.2 hx.1 hx.2 q3.2.1
      omega
  unfold WR
  rw [hOx, if_neg (fun q => q rfl), if_neg (by omega)]
theorem WR_f {K : CX} {w p z : Int} (hz : 0 ≤ z ∧ z < Xn K) : WR K w (Xn K) (stN K w p (Xn K).toNat).1 (stN K w p (Xn K).toNat).2 z = Fw K w p z := by
  have := rk_r (K := K) (w := w) hz
  unfold WR Fw
  show (if Fo K w p z ≠ -1 then Fo K w p z else if rk K w z < Xn K then Fl K w p z else -1) = _
  by_cases q : Fo K w p z = -1
  · rw [if_neg (fun h => h q), if_pos this.2, if_pos q]
  · rw [if_pos q, if_neg q]

set_option maxRecDepth 20000 in
set_option maxHeartbeats 4000000 in
theorem c_M_reduces (S : mm_S) (c : Int) (hc : 0 ≤ c ∧ c < 5) (K : CX) (h : MR S c K) (w : Int) (hw : w = 0 ∨ w = 1) (hV : Vx K) (hd : Xfb K = 0) (p : Int) (hp : Xpr p) : Cl 74 [(2, 71), (0, c), (0, w), (0, p)] S (fun v S' => v = none ∧ (∀ z y, 0 ≤ z → z < Xn K → 0 ≤ y → y < Xn K → S' 80 (12 * z + y) = Fr K w p z y) ∧ (∀ z, 0 ≤ z → z < Xn K → S' 81 z = Fw K w p z) ∧ (∀ k, 0 ≤ k → k < Xn K → S' 82 k = od K w k) ∧ ∀ b, ¬ (80 ≤ b ∧ b ≤ 82) → S' b = S b) := by
  refine ⟨Nat.le_of_ble_eq_true rfl, ?_⟩
  show Rn k_M_reduces 0 [(2, 71), (0, c), (0, w), (0, p), (9, 0), (9, 0), (9, 0), (9, 0), (9, 0), (9, 0)] [] S _
  have hnr := h.1.nr
  have hn := h.n
  have hR := hV.2.1
  have hpb := pr_b hp
  have hdd := (Xfb_z hV.1).mp hd
  refine R_lo (nx := 1) rfl rfl rfl rfl ?_
  refine R_lo (nx := 2) rfl rfl rfl rfl ?_
  refine R_lo (nx := 3) rfl rfl rfl rfl ?_
  refine R_call0 (nx := 6) (as := [(2, 71), (0, c), (0, w)]) (rest := []) rfl rfl (fun _ _ => rfl) rfl rfl rfl rfl rfl rfl rfl rfl (Cl.mono (c_M_findOrder S c hc K h w hw) ?_)
  rintro _ S0 ⟨rfl, o0, f0⟩
  refine ⟨rfl, ?_⟩
  refine R_op (nx := 7) rfl rfl rfl ?_
  refine R_lo (nx := 9) (ls' := [(2, 71), (0, c), (0, w), (0, p), (0, 0), (9, 0), (9, 0), (9, 0), (9, 0), (9, 0)]) rfl rfl rfl rfl ?_
  have L9 : ∀ (f9 : Nat) (S1 : mm_S) (k : Int), ((144 : Int) - k).toNat < f9 → (0 ≤ k ∧ k ≤ 144) → (∀ j, 0 ≤ j → j < k → S1 80 j = Xe K (j / 12) (j % 12) % p) → (∀ b, b ≠ 80 → S1 b = S0 b) → Rn k_M_reduces 9 [(2, 71), (0, c), (0, w), (0, p), (0, k), (9, 0), (9, 0), (9, 0), (9, 0), (9, 0)] [] S1 (fun v S' => v = none ∧ (∀ z y, 0 ≤ z → z < Xn K → 0 ≤ y → y < Xn K → S' 80 (12 * z + y) = Fr K w p z y) ∧ (∀ z, 0 ≤ z → z < Xn K → S' 81 z = Fw K w p z) ∧ (∀ k, 0 ≤ k → k < Xn K → S' 82 k = od K w k) ∧ ∀ b, ¬ (80 ≤ b ∧ b ≤ 82) → S' b = S b) := by
    intro f9
    induction f9 with
    | zero => intro S1 k hm9; exact absurd hm9 (Nat.not_lt_zero _)
    | succ f9 ih9 =>
      intro S1 k hm9 hk h80 hF
      have eb := hR.e (k / 12) (k % 12)
      have te := tm_e eb hpb
      have tb := fm_c (x := Xe K (k / 12) (k % 12)) (y := p) (by omega)
      have t1 := Int.emod_nonneg (Xe K (k / 12) (k % 12)) (b := p) (by omega)
      have t2 := Int.emod_lt_of_pos (Xe K (k / 12) (k % 12)) (b := p) (by omega)
      refine R_lo (nx := 11) rfl rfl rfl rfl ?_
      refine R_op (nx := 14) rfl rfl rfl ?_
      refine R_icmp (nx := 17) (tg := 49) rfl rfl rfl (mm_cnd_ge _ _) (fun c14 => ?_) (fun c14 => ?_)
      ·
        refine R_op (nx := 50) rfl rfl rfl ?_
        refine R_lo (nx := 52) (ls' := [(2, 71), (0, c), (0, w), (0, p), (0, 0), (9, 0), (9, 0), (9, 0), (9, 0), (9, 0)]) rfl rfl rfl rfl ?_
        have L52 : ∀ (f52 : Nat) (S2 : mm_S) (k : Int), ((12 : Int) - k).toNat < f52 → (0 ≤ k ∧ k ≤ 12) → (∀ j, 0 ≤ j → j < k → S2 81 j = -1) → (∀ j, 0 ≤ j → j < 144 → S2 80 j = Xe K (j / 12) (j % 12) % p) → (∀ b, b ≠ 80 → b ≠ 81 → S2 b = S0 b) → Rn k_M_reduces 52 [(2, 71), (0, c), (0, w), (0, p), (0, k), (9, 0), (9, 0), (9, 0), (9, 0), (9, 0)] [] S2 (fun v S' => v = none ∧ (∀ z y, 0 ≤ z → z < Xn K → 0 ≤ y → y < Xn K → S' 80 (12 * z + y) = Fr K w p z y) ∧ (∀ z, 0 ≤ z → z < Xn K → S' 81 z = Fw K w p z) ∧ (∀ k, 0 ≤ k → k < Xn K → S' 82 k = od K w k) ∧ ∀ b, ¬ (80 ≤ b ∧ b ≤ 82) → S' b = S b) := by
          intro f52
          induction f52 with
          | zero => intro S2 k hm52; exact absurd hm52 (Nat.not_lt_zero _)
          | succ f52 ih52 =>
            intro S2 k hm52 hk2 h81 i80 iF
            refine R_lo (nx := 54) rfl rfl rfl rfl ?_
            refine R_op (nx := 56) rfl rfl rfl ?_
            refine R_icmp (nx := 59) (tg := 73) rfl rfl rfl (mm_cnd_ge _ _) (fun c56 => ?_) (fun c56 => ?_)
            ·
              refine R_op (nx := 74) rfl rfl rfl ?_
              refine R_lo (nx := 76) (ls' := [(2, 71), (0, c), (0, w), (0, p), (0, 0), (9, 0), (9, 0), (9, 0), (9, 0), (9, 0)]) rfl rfl rfl rfl ?_
              have L76 : ∀ (f76 : Nat) (S3 : mm_S) (i : Int), (Xn K - i).toNat < f76 → (0 ≤ i ∧ i ≤ Xn K) → (∀ z y, 0 ≤ z → z < Xn K → 0 ≤ y → y < Xn K → S3 80 (12 * z + y) = (stN K w p i.toNat).1 z y) → (∀ z, 0 ≤ z → z < Xn K → S3 81 z = WR K w i (stN K w p i.toNat).1 (stN K w p i.toNat).2 z) → (∀ k, 0 ≤ k → k < Xn K → S3 82 k = od K w k) → (∀ b, ¬ (80 ≤ b ∧ b ≤ 82) → S3 b = S b) → Rn k_M_reduces 76 [(2, 71), (0, c), (0, w), (0, p), (0, i), (9, 0), (9, 0), (9, 0), (9, 0), (9, 0)] [] S3 (fun v S' => v = none ∧ (∀ z y, 0 ≤ z → z < Xn K → 0 ≤ y → y < Xn K → S' 80 (12 * z + y) = Fr K w p z y) ∧ (∀ z, 0 ≤ z → z < Xn K → S' 81 z = Fw K w p z) ∧ (∀ k, 0 ≤ k → k < Xn K → S' 82 k = od K w k) ∧ ∀ b, ¬ (80 ≤ b ∧ b ≤ 82) → S' b = S b) := by
                intro f76
                induction f76 with
                | zero => intro S3 i hm76; exact absurd hm76 (Nat.not_lt_zero _)
                | succ f76 ih76 =>
                  intro S3 i hm76 hi g80 g81 gO gF
                  have m3 : MR S3 c K := h.fr fun e p q => gF e (by omega)
                  have n3 := m3.n
                  have iv := st_iv (i := i) hp hV hw hi
                  refine R_lo (nx := 78) rfl rfl rfl rfl ?_
                  refine R_lo (nx := 79) rfl rfl rfl rfl ?_
                  refine R_get (nx := 82) (w := (2, 72)) rfl rfl rfl rfl ?_
                  refine R_lo (nx := 83) rfl rfl rfl rfl ?_
                  refine R_iald (nx := 84) rfl rfl (mm_el_ok 1 5 (by decide) rfl (by decide) (by omega) (by omega)) ?_
                  rw [n3]
                  refine R_icmp (nx := 87) (tg := 272) rfl rfl rfl (mm_cnd_ge _ _) (fun c84 => ?_) (fun c84 => ?_)
                  ·
                    refine R_ret rfl (fun _ _ => rfl) rfl rfl ?_
                    have e : i = Xn K := by omega
                    subst e
                    exact ⟨rfl, g80, fun z z0 z1 => by rw [g81 z z0 z1]; exact WR_f ⟨z0, z1⟩, gO, gF⟩
                  ·
                    refine R_lo (nx := 88) rfl rfl rfl rfl ?_
                    refine R_get (nx := 91) (w := (2, 82)) rfl rfl rfl rfl ?_
                    refine R_lo (nx := 93) rfl rfl rfl rfl ?_
                    refine R_iald (nx := 94) rfl rfl (mm_el_ok 1 12 (by decide) rfl (by decide) (by omega) (by omega)) ?_
                    rw [gO i (by omega) (by omega)]
                    have oi := od_ok (K := K) (w := w) (i := i) (by omega)
                    refine R_lo (nx := 96) (ls' := [(2, 71), (0, c), (0, w), (0, p), (0, i), (0, (od K w i)), (9, 0), (9, 0), (9, 0), (9, 0)]) rfl rfl rfl rfl ?_
                    have oi1 := oi.1
                    refine R_lo (nx := 97) rfl rfl rfl rfl ?_
                    refine R_lo (nx := 98) rfl rfl rfl rfl ?_
                    refine R_lo (nx := 100) rfl rfl rfl rfl ?_
                    refine R_call1 (nx := 103) (as := [(2, 71), (0, c), (0, (od K w i))]) (rest := []) rfl rfl (fun _ _ => rfl) rfl rfl rfl rfl rfl rfl rfl rfl (Cl.mono (c_M_lastOf S3 c (by omega) K (show MR S3 c K by first | assumption | exact MR.up (by assumption) (by omega) | exact MR.up (MR.up (by assumption) (by omega)) (by omega) | exact MR.up (MR.up (MR.up (by assumption) (by omega)) (by omega)) (by omega)) w (by first | assumption | exact Or.inl rfl) (od K w i) (by omega) (by assumption)) ?_)
                    rintro _ _ ⟨rfl, rfl⟩
                    refine ⟨_, rfl, ?_⟩
                    have e0 : la K w (fun y => S3 80 (12 * (od K w i) + y)) = la K w ((stN K w p i.toNat).1 (od K w i)) := la_cg hnr.1 fun y y0 y1 => g80 _ y oi.1.1 oi.1.2 y0 y1
                    rw [e0]
                    refine R_lo (nx := 105) (ls' := [(2, 71), (0, c), (0, w), (0, p), (0, i), (0, (od K w i)), (0, (la K w ((stN K w p i.toNat).1 (od K w i)))), (9, 0), (9, 0), (9, 0)]) rfl rfl rfl rfl ?_
                    have L105 : ∀ (f105 : Nat) (S4 : mm_S) (r : Int → Int), mre K w r < f105 → (PR K w p (od K w i) r) → (∀ z y, 0 ≤ z → z < Xn K → 0 ≤ y → y < Xn K → S4 80 (12 * z + y) = if z = od K w i then r y else (stN K w p i.toNat).1 z y) → (∀ b, b ≠ 80 → S4 b = S3 b) → (red K w p (stN K w p i.toNat).1 (stN K w p i.toNat).2 ((stN K w p i.toNat).1 (od K w i)) = red K w p (stN K w p i.toNat).1 (stN K w p i.toNat).2 r) → Rn k_M_reduces 105 [(2, 71), (0, c), (0, w), (0, p), (0, i), (0, (od K w i)), (0, (la K w r)), (9, 0), (9, 0), (9, 0)] [] S4 (fun v S' => v = none ∧ (∀ z y, 0 ≤ z → z < Xn K → 0 ≤ y → y < Xn K → S' 80 (12 * z + y) = Fr K w p z y) ∧ (∀ z, 0 ≤ z → z < Xn K → S' 81 z = Fw K w p z) ∧ (∀ k, 0 ≤ k → k < Xn K → S' 82 k = od K w k) ∧ ∀ b, ¬ (80 ≤ b ∧ b ≤ 82) → S' b = S b) := by
                      intro f105
                      induction f105 with
                      | zero => intro S4 r hm105; exact absurd hm105 (Nat.not_lt_zero _)
                      | succ f105 ih105 =>
                        intro S4 r hm105 hr h4 h4F hred
                        have m4 : MR S4 c K := m3.fr fun e p q => h4F e (by omega)
                        have n4 := m4.n
                        have h4w : ∀ z, 0 ≤ z → z < Xn K → S4 81 z = WR K w i (stN K w p i.toNat).1 (stN K w p i.toNat).2 z := fun z z0 z1 => by rw [h4F 81 (by decide)]; exact g81 z z0 z1
                        have hO4 : ∀ k, 0 ≤ k → k < Xn K → S4 82 k = od K w k := fun k k0 k1 => by rw [h4F 82 (by decide)]; exact gO k k0 k1
                        have las := la_sp w r hnr.1
                        refine R_lo (nx := 107) rfl rfl rfl rfl ?_
                        refine R_if (nx := 110) (tg := 243) rfl rfl rfl (mm_cnd_lt _ _) (fun c107 => ?_) (fun c107 => ?_)
                        ·
                          have el : la K w r = -1 := by rcases las with q | q; exact q.1; exact absurd q.1.1 (by omega)
                          have hex : la K w r = -1 ∨ ((stN K w p i.toNat).2 (la K w r)) = -1 := Or.inl el
                          have hfin := hred.trans (red_d hp hnr.1 iv.1 iv.2 oi.2 hr hex)
                          have wx := WR_x iv.1 iv.2 oi.1 oi.2
                          refine R_lo (nx := 245) rfl rfl rfl rfl ?_
                          refine R_if (nx := 248) (tg := 266) rfl rfl rfl (mm_cnd_lt _ _) (fun _ => ?_) (fun z => absurd (show la K w r < 0 by omega) z)
                          refine R_iinc (nx := 269) (z := (i + 1)) (ls' := [(2, 71), (0, c), (0, w), (0, p), (0, (i + 1)), (0, (od K w i)), (0, (la K w r)), (9, 0), (9, 0), (9, 0)]) rfl rfl rfl rfl ⟨by omega, by omega⟩ rfl ?_
                          refine R_op (nx := 272) (pc' := 76) rfl rfl rfl ?_
                          refine Rn.weak (ls' := [(2, 71), (0, c), (0, w), (0, p), (0, (i + 1)), (9, 0), (9, 0), (9, 0), (9, 0), (9, 0)]) ⟨Or.inl rfl, ⟨Or.inl rfl, ⟨Or.inl rfl, ⟨Or.inl rfl, ⟨Or.inl rfl, ⟨Or.inr rfl, ⟨Or.inr rfl, ⟨Or.inl rfl, ⟨Or.inl rfl, ⟨Or.inl rfl, trivial⟩⟩⟩⟩⟩⟩⟩⟩⟩⟩ ?_
                          refine ih76 (S4) ((i + 1)) ?_ ?_ ?_ ?_ ?_ ?_
                          · omega
                          · omega
                          · intro z y z0 z1 y0 y1; rw [st_s hp hV hw (by omega) hfin]; try rw [mm_unq (by decide), mm_unq (by decide)]
                            rw [h4 z y z0 z1 y0 y1]
                            show _ = (if z = od K w i then r else (stN K w p i.toNat).1 z) y
                            by_cases e : z = od K w i
                            · rw [if_pos e, if_pos e]
                            · rw [if_neg e, if_neg e]
                          · intro z z0 z1; rw [st_s hp hV hw (by omega) hfin, WR_s iv.1 iv.2 hnr.1 oi.1 oi.2 hr hex ⟨z0, z1⟩]
                            by_cases e : z = od K w i
                            · rw [if_pos e, e]; first | (rw [mm_ua]; done) | (rw [h4w _ oi.1.1 oi.1.2, el]; exact wx)
                            · rw [if_neg e]
                              by_cases e2 : la K w r ≠ -1 ∧ z = la K w r
                              · rw [if_pos e2, e2.2]; first | (rw [mm_uk hlx, mm_ua]; done) | exact absurd el e2.1
                              · rw [if_neg e2]; first | (rw [mm_uk e, mm_uk (fun q => e2 ⟨hne, q⟩)]; exact h4w z z0 z1) | exact h4w z z0 z1
                          · intro k k0 k1; try rw [mm_unq (by decide), mm_unq (by decide)]
                            rw [h4F 82 (by decide)]; exact gO k k0 k1
                          · intro b hb; try rw [mm_unq (by omega), mm_unq (by omega)]
                            rw [h4F b (by omega)]; exact gF b hb
                        ·
                          have hl : isL K w r (la K w r) := by rcases las with q | q; exact absurd q.1 (by omega); exact q
                          have hlb := hl.1
                          have hne : la K w r ≠ -1 := by omega
                          have hlx : la K w r ≠ od K w i := fun q => by have h1 := hr.2.2 _ hl.1.1 hl.1.2 hl.2.1; rw [q] at h1; omega
                          refine R_lo (nx := 111) rfl rfl rfl rfl ?_
                          refine R_get (nx := 114) (w := (2, 81)) rfl rfl rfl rfl ?_
                          refine R_lo (nx := 116) rfl rfl rfl rfl ?_
                          refine R_iald (nx := 117) rfl rfl (mm_el_ok 1 12 (by decide) rfl (by decide) (by omega) (by omega)) ?_
                          rw [show (S4 81 (la K w r)) = ((stN K w p i.toNat).2 (la K w r)) from (h4w _ hl.1.1 hl.1.2).trans (WR_l hp hnr.1 hdd iv.1 iv.2 oi.1 oi.2 hr hl)]
                          refine R_if (nx := 120) (tg := 243) rfl rfl rfl (mm_cnd_lt _ _) (fun c117 => ?_) (fun c117 => ?_)
                          ·
                            have hno : ((stN K w p i.toNat).2 (la K w r)) = -1 := by rcases iv.1.2.1 (la K w r) with q | q; exact q; exact absurd q.1.1 (by omega)
                            have hex : la K w r = -1 ∨ ((stN K w p i.toNat).2 (la K w r)) = -1 := Or.inr hno
                            have hfin := hred.trans (red_d hp hnr.1 iv.1 iv.2 oi.2 hr hex)
                            refine R_lo (nx := 245) rfl rfl rfl rfl ?_
                            refine R_if (nx := 248) (tg := 266) rfl rfl rfl (mm_cnd_lt _ _) (fun z => absurd z (by omega)) (fun _ => ?_)
                            refine R_lo (nx := 249) rfl rfl rfl rfl ?_
                            refine R_get (nx := 252) (w := (2, 81)) rfl rfl rfl rfl ?_
                            refine R_lo (nx := 254) rfl rfl rfl rfl ?_
                            refine R_lo (nx := 256) rfl rfl rfl rfl ?_
                            refine R_iast (nx := 257) rfl rfl (mm_el_ok 1 12 (by decide) rfl (by decide) (by omega) (by omega)) ?_
                            refine R_lo (nx := 258) rfl rfl rfl rfl ?_
                            refine R_get (nx := 261) (w := (2, 81)) rfl rfl rfl rfl ?_
                            refine R_lo (nx := 263) rfl rfl rfl rfl ?_
                            refine R_lo (nx := 265) rfl rfl rfl rfl ?_
                            refine R_iast (nx := 266) rfl rfl (mm_el_ok 1 12 (by decide) rfl (by decide) (by omega) (by omega)) ?_
                            refine R_iinc (nx := 269) (z := (i + 1)) (ls' := [(2, 71), (0, c), (0, w), (0, p), (0, (i + 1)), (0, (od K w i)), (0, (la K w r)), (9, 0), (9, 0), (9, 0)]) rfl rfl rfl rfl ⟨by omega, by omega⟩ rfl ?_
                            refine R_op (nx := 272) (pc' := 76) rfl rfl rfl ?_
                            refine Rn.weak (ls' := [(2, 71), (0, c), (0, w), (0, p), (0, (i + 1)), (9, 0), (9, 0), (9, 0), (9, 0), (9, 0)]) ⟨Or.inl rfl, ⟨Or.inl rfl, ⟨Or.inl rfl, ⟨Or.inl rfl, ⟨Or.inl rfl, ⟨Or.inr rfl, ⟨Or.inr rfl, ⟨Or.inl rfl, ⟨Or.inl rfl, ⟨Or.inl rfl, trivial⟩⟩⟩⟩⟩⟩⟩⟩⟩⟩ ?_
                            refine ih76 ((mm_up (mm_up S4 81 (la K w r) (od K w i)) 81 (od K w i) (la K w r))) ((i + 1)) ?_ ?_ ?_ ?_ ?_ ?_
                            · omega
                            · omega
                            · intro z y z0 z1 y0 y1; rw [st_s hp hV hw (by omega) hfin]; try rw [mm_unq (by decide), mm_unq (by decide)]
                              rw [h4 z y z0 z1 y0 y1]
                              show _ = (if z = od K w i then r else (stN K w p i.toNat).1 z) y
                              by_cases e : z = od K w i
                              · rw [if_pos e, if_pos e]
                              · rw [if_neg e, if_neg e]
                            · intro z z0 z1; rw [st_s hp hV hw (by omega) hfin, WR_s iv.1 iv.2 hnr.1 oi.1 oi.2 hr hex ⟨z0, z1⟩]
                              by_cases e : z = od K w i
                              · rw [if_pos e, e]; first | (rw [mm_ua]; done) | (rw [h4w _ oi.1.1 oi.1.2, el]; exact wx)
                              · rw [if_neg e]
                                by_cases e2 : la K w r ≠ -1 ∧ z = la K w r
                                · rw [if_pos e2, e2.2]; first | (rw [mm_uk hlx, mm_ua]; done) | exact absurd el e2.1
                                · rw [if_neg e2]; first | (rw [mm_uk e, mm_uk (fun q => e2 ⟨hne, q⟩)]; exact h4w z z0 z1) | exact h4w z z0 z1
                            · intro k k0 k1; try rw [mm_unq (by decide), mm_unq (by decide)]
                              rw [h4F 82 (by decide)]; exact gO k k0 k1
                            · intro b hb; try rw [mm_unq (by omega), mm_unq (by omega)]
                              rw [h4F b (by omega)]; exact gF b hb
                          ·
                            have hno : ((stN K w p i.toNat).2 (la K w r)) ≠ -1 := by omega
                            have ho := (iv.1.2.1 (la K w r)).resolve_left hno
                            have ho1 := ho.1
                            have psb := PR_sbr hp hnr.1 iv.1 iv.2 oi.2 hr hne hno
                            have hxo : ((stN K w p i.toNat).2 (la K w r)) ≠ od K w i := fun q => by have h1 := ho.2.1; rw [q] at h1; omega
                            have hrl := hr.1 (la K w r)
                            have hro : 0 < (stN K w p i.toNat).1 ((stN K w p i.toNat).2 (la K w r)) (la K w r) ∧ (stN K w p i.toNat).1 ((stN K w p i.toNat).2 (la K w r)) (la K w r) < p := by have h1 := iv.1.1 ((stN K w p i.toNat).2 (la K w r)) (la K w r); have h2 := ho.2.2.2.1; omega
                            have mk := mlt_ok (a := r (la K w r)) hp (nd_r (iv.1.1 ((stN K w p i.toNat).2 (la K w r)) (la K w r)) ho.2.2.2.1)
                            refine R_lo (nx := 121) rfl rfl rfl rfl ?_
                            refine R_get (nx := 124) (w := (2, 81)) rfl rfl rfl rfl ?_
                            refine R_lo (nx := 126) rfl rfl rfl rfl ?_
                            refine R_iald (nx := 127) rfl rfl (mm_el_ok 1 12 (by decide) rfl (by decide) (by omega) (by omega)) ?_
                            rw [show (S4 81 (la K w r)) = ((stN K w p i.toNat).2 (la K w r)) from (h4w _ hl.1.1 hl.1.2).trans (WR_l hp hnr.1 hdd iv.1 iv.2 oi.1 oi.2 hr hl)]
                            refine R_lo (nx := 129) (ls' := [(2, 71), (0, c), (0, w), (0, p), (0, i), (0, (od K w i)), (0, (la K w r)), (0, ((stN K w p i.toNat).2 (la K w r))), (9, 0), (9, 0)]) rfl rfl rfl rfl ?_
                            refine R_lo (nx := 130) rfl rfl rfl rfl ?_
                            refine R_get (nx := 133) (w := (2, 80)) rfl rfl rfl rfl ?_
                            refine R_op (nx := 135) rfl rfl rfl ?_
                            refine R_lo (nx := 137) rfl rfl rfl rfl ?_
                            refine R_imul (nx := 138) (z := (12 * (od K w i))) rfl rfl rfl ⟨by omega, by omega⟩ ?_
                            refine R_lo (nx := 140) rfl rfl rfl rfl ?_
                            refine R_iadd (nx := 141) (z := ((12 * (od K w i)) + (la K w r))) rfl rfl rfl ⟨by omega, by omega⟩ ?_
                            refine R_iald (nx := 142) rfl rfl (mm_el_ok 1 144 (by decide) rfl (by decide) (by omega) (by omega)) ?_
                            rw [show (S4 80 ((12 * (od K w i)) + (la K w r))) = (r (la K w r)) from (h4 _ _ oi.1.1 oi.1.2 hl.1.1 hl.1.2).trans (if_pos rfl)]
                            refine R_lo (nx := 143) rfl rfl rfl rfl ?_
                            refine R_get (nx := 146) (w := (2, 80)) rfl rfl rfl rfl ?_
                            refine R_op (nx := 148) rfl rfl rfl ?_
                            refine R_lo (nx := 150) rfl rfl rfl rfl ?_
                            refine R_imul (nx := 151) (z := (12 * ((stN K w p i.toNat).2 (la K w r)))) rfl rfl rfl ⟨by omega, by omega⟩ ?_
                            refine R_lo (nx := 153) rfl rfl rfl rfl ?_
                            refine R_iadd (nx := 154) (z := ((12 * ((stN K w p i.toNat).2 (la K w r))) + (la K w r))) rfl rfl rfl ⟨by omega, by omega⟩ ?_
                            refine R_iald (nx := 155) rfl rfl (mm_el_ok 1 144 (by decide) rfl (by decide) (by omega) (by omega)) ?_
                            rw [show (S4 80 ((12 * ((stN K w p i.toNat).2 (la K w r))) + (la K w r))) = ((stN K w p i.toNat).1 ((stN K w p i.toNat).2 (la K w r)) (la K w r)) from (h4 _ _ ho.1.1 ho.1.2 hl.1.1 hl.1.2).trans (if_neg hxo)]
                            refine R_lo (nx := 156) rfl rfl rfl rfl ?_
                            refine R_call1 (nx := 159) (as := [(0, ((stN K w p i.toNat).1 ((stN K w p i.toNat).2 (la K w r)) (la K w r))), (0, p)]) (rest := [(0, (r (la K w r)))]) rfl rfl (fun _ _ => rfl) rfl rfl rfl rfl rfl rfl rfl rfl (Cl.mono (c_M_inverse S4 ((stN K w p i.toNat).1 ((stN K w p i.toNat).2 (la K w r)) (la K w r)) p (by assumption) (by omega)) ?_)
                            rintro _ _ ⟨i156, rfl, rfl, u156, v156⟩
                            refine ⟨_, rfl, ?_⟩
                            have pk := pkb (hr.1 (la K w r)) (show 0 ≤ i156 ∧ i156 < p from ⟨by omega, u156.2⟩) hpb
                            refine R_imul (nx := 160) (z := ((r (la K w r)) * i156)) rfl rfl rfl ⟨by omega, by omega⟩ ?_
                            refine R_lo (nx := 161) rfl rfl rfl rfl ?_
                            refine R_irem (nx := 162) (z := (Int.tmod ((r (la K w r)) * i156) p)) rfl rfl (by omega) rfl ?_
                            refine R_cv (w := (mlt p (r (la K w r)) ((stN K w p i.toNat).1 ((stN K w p i.toNat).2 (la K w r)) (la K w r)))) (by exact k_mlt hp (hr.1 _) hro u156 v156) ?_
                            refine R_lo (nx := 164) (ls' := [(2, 71), (0, c), (0, w), (0, p), (0, i), (0, (od K w i)), (0, (la K w r)), (0, ((stN K w p i.toNat).2 (la K w r))), (0, (mlt p (r (la K w r)) ((stN K w p i.toNat).1 ((stN K w p i.toNat).2 (la K w r)) (la K w r)))), (9, 0)]) rfl rfl rfl rfl ?_
                            refine R_op (nx := 165) rfl rfl rfl ?_
                            refine R_lo (nx := 167) (ls' := [(2, 71), (0, c), (0, w), (0, p), (0, i), (0, (od K w i)), (0, (la K w r)), (0, ((stN K w p i.toNat).2 (la K w r))), (0, (mlt p (r (la K w r)) ((stN K w p i.toNat).1 ((stN K w p i.toNat).2 (la K w r)) (la K w r)))), (0, 0)]) rfl rfl rfl rfl ?_
                            have L167 : ∀ (f167 : Nat) (S5 : mm_S) (y : Int), (Xn K - y).toNat < f167 → (0 ≤ y ∧ y ≤ Xn K) → (∀ z y2, 0 ≤ z → z < Xn K → 0 ≤ y2 → y2 < Xn K → S5 80 (12 * z + y2) = if z = od K w i then (if y2 < y then (sbr p r ((stN K w p i.toNat).1 ((stN K w p i.toNat).2 (la K w r))) (la K w r)) y2 else r y2) else (stN K w p i.toNat).1 z y2) → (∀ b, b ≠ 80 → S5 b = S4 b) → Rn k_M_reduces 167 [(2, 71), (0, c), (0, w), (0, p), (0, i), (0, (od K w i)), (0, (la K w r)), (0, ((stN K w p i.toNat).2 (la K w r))), (0, (mlt p (r (la K w r)) ((stN K w p i.toNat).1 ((stN K w p i.toNat).2 (la K w r)) (la K w r)))), (0, y)] [] S5 (fun v S' => v = none ∧ (∀ z y, 0 ≤ z → z < Xn K → 0 ≤ y → y < Xn K → S' 80 (12 * z + y) = Fr K w p z y) ∧ (∀ z, 0 ≤ z → z < Xn K → S' 81 z = Fw K w p z) ∧ (∀ k, 0 ≤ k → k < Xn K → S' 82 k = od K w k) ∧ ∀ b, ¬ (80 ≤ b ∧ b ≤ 82) → S' b = S b) := by
                              intro f167
                              induction f167 with
                              | zero => intro S5 y hm167; exact absurd hm167 (Nat.not_lt_zero _)
                              | succ f167 ih167 =>
                                intro S5 y hm167 hy h5 h5F
                                have m5 : MR S5 c K := m4.fr fun e p q => h5F e (by omega)
                                have n5 := m5.n
                                have ry := hr.1 y
                                have ro := iv.1.1 ((stN K w p i.toNat).2 (la K w r)) y
                                have rb := row_b hpb ry mk.1 ro
                                have hO5 : ∀ k, 0 ≤ k → k < Xn K → S5 82 k = od K w k := fun k k0 k1 => by rw [h5F 82 (by decide)]; exact hO4 k k0 k1
                                refine R_lo (nx := 169) rfl rfl rfl rfl ?_
                                refine R_lo (nx := 170) rfl rfl rfl rfl ?_
                                refine R_get (nx := 173) (w := (2, 72)) rfl rfl rfl rfl ?_
                                refine R_lo (nx := 174) rfl rfl rfl rfl ?_
                                refine R_iald (nx := 175) rfl rfl (mm_el_ok 1 5 (by decide) rfl (by decide) (by omega) (by omega)) ?_
                                rw [n5]
                                refine R_icmp (nx := 178) (tg := 231) rfl rfl rfl (mm_cnd_ge _ _) (fun c175 => ?_) (fun c175 => ?_)
                                ·
                                  refine R_lo (nx := 232) rfl rfl rfl rfl ?_
                                  refine R_lo (nx := 233) rfl rfl rfl rfl ?_
                                  refine R_lo (nx := 235) rfl rfl rfl rfl ?_
                                  refine R_call1 (nx := 238) (as := [(2, 71), (0, c), (0, (od K w i))]) (rest := []) rfl rfl (fun _ _ => rfl) rfl rfl rfl rfl rfl rfl rfl rfl (Cl.mono (c_M_lastOf S5 c (by omega) K (show MR S5 c K by first | assumption | exact MR.up (by assumption) (by omega) | exact MR.up (MR.up (by assumption) (by omega)) (by omega) | exact MR.up (MR.up (MR.up (by assumption) (by omega)) (by omega)) (by omega)) w (by first | assumption | exact Or.inl rfl) (od K w i) (by omega) (by assumption)) ?_)
                                  rintro _ _ ⟨rfl, rfl⟩
                                  refine ⟨_, rfl, ?_⟩
                                  have e0 : la K w (fun y => S5 80 (12 * (od K w i) + y)) = la K w (sbr p r ((stN K w p i.toNat).1 ((stN K w p i.toNat).2 (la K w r))) (la K w r)) := la_cg hnr.1 fun y y0 y1 => by rw [h5 _ y oi.1.1 oi.1.2 y0 y1, if_pos rfl, if_pos (by omega)]
                                  rw [e0]
                                  refine R_lo (nx := 240) (ls' := [(2, 71), (0, c), (0, w), (0, p), (0, i), (0, (od K w i)), (0, (la K w (sbr p r ((stN K w p i.toNat).1 ((stN K w p i.toNat).2 (la K w r))) (la K w r)))), (0, ((stN K w p i.toNat).2 (la K w r))), (0, (mlt p (r (la K w r)) ((stN K w p i.toNat).1 ((stN K w p i.toNat).2 (la K w r)) (la K w r)))), (0, y)]) rfl rfl rfl rfl ?_
                                  refine R_op (nx := 243) (pc' := 105) rfl rfl rfl ?_
                                  refine Rn.weak (ls' := [(2, 71), (0, c), (0, w), (0, p), (0, i), (0, (od K w i)), (0, (la K w (sbr p r ((stN K w p i.toNat).1 ((stN K w p i.toNat).2 (la K w r))) (la K w r)))), (9, 0), (9, 0), (9, 0)]) ⟨Or.inl rfl, ⟨Or.inl rfl, ⟨Or.inl rfl, ⟨Or.inl rfl, ⟨Or.inl rfl, ⟨Or.inl rfl, ⟨Or.inl rfl, ⟨Or.inr rfl, ⟨Or.inr rfl, ⟨Or.inr rfl, trivial⟩⟩⟩⟩⟩⟩⟩⟩⟩⟩ ?_
                                  refine ih105 (S5) (sbr p r ((stN K w p i.toNat).1 ((stN K w p i.toNat).2 (la K w r))) (la K w r)) ?_ ?_ ?_ ?_ ?_
                                  · exact Nat.lt_of_lt_of_le psb.2 (Nat.le_of_lt_succ hm105)
                                  · exact psb.1
                                  · intro z y z0 z1 y0 y1; rw [h5 z y z0 z1 y0 y1]; split; exact if_pos (by omega); rfl
                                  · intro b hb; rw [h5F b hb]; exact h4F b hb
                                  · exact hred.trans (red_c hp hnr.1 iv.1 iv.2 oi.2 hr hne hno)
                                ·
                                  refine R_lo (nx := 179) rfl rfl rfl rfl ?_
                                  refine R_get (nx := 182) (w := (2, 80)) rfl rfl rfl rfl ?_
                                  refine R_op (nx := 184) rfl rfl rfl ?_
                                  refine R_lo (nx := 186) rfl rfl rfl rfl ?_
                                  refine R_imul (nx := 187) (z := (12 * (od K w i))) rfl rfl rfl ⟨by omega, by omega⟩ ?_
                                  refine R_lo (nx := 189) rfl rfl rfl rfl ?_
                                  refine R_iadd (nx := 190) (z := ((12 * (od K w i)) + y)) rfl rfl rfl ⟨by omega, by omega⟩ ?_
                                  refine R_lo (nx := 191) rfl rfl rfl rfl ?_
                                  refine R_get (nx := 194) (w := (2, 80)) rfl rfl rfl rfl ?_
                                  refine R_op (nx := 196) rfl rfl rfl ?_
                                  refine R_lo (nx := 198) rfl rfl rfl rfl ?_
                                  refine R_imul (nx := 199) (z := (12 * (od K w i))) rfl rfl rfl ⟨by omega, by omega⟩ ?_
                                  refine R_lo (nx := 201) rfl rfl rfl rfl ?_
                                  refine R_iadd (nx := 202) (z := ((12 * (od K w i)) + y)) rfl rfl rfl ⟨by omega, by omega⟩ ?_
                                  refine R_iald (nx := 203) rfl rfl (mm_el_ok 1 144 (by decide) rfl (by decide) (by omega) (by omega)) ?_
                                  rw [show (S5 80 ((12 * (od K w i)) + y)) = (r y) from ((h5 _ _ oi.1.1 oi.1.2 hy.1 (by omega)).trans (if_pos rfl)).trans (if_neg (by omega))]
                                  refine R_lo (nx := 204) rfl rfl rfl rfl ?_
                                  refine R_lo (nx := 206) rfl rfl rfl rfl ?_
                                  refine R_isub (nx := 207) (z := (p - (mlt p (r (la K w r)) ((stN K w p i.toNat).1 ((stN K w p i.toNat).2 (la K w r)) (la K w r))))) rfl rfl rfl ⟨by omega, by omega⟩ ?_
                                  refine R_lo (nx := 208) rfl rfl rfl rfl ?_
                                  refine R_get (nx := 211) (w := (2, 80)) rfl rfl rfl rfl ?_
                                  refine R_op (nx := 213) rfl rfl rfl ?_
                                  refine R_lo (nx := 215) rfl rfl rfl rfl ?_
                                  refine R_imul (nx := 216) (z := (12 * ((stN K w p i.toNat).2 (la K w r)))) rfl rfl rfl ⟨by omega, by omega⟩ ?_
                                  refine R_lo (nx := 218) rfl rfl rfl rfl ?_
                                  refine R_iadd (nx := 219) (z := ((12 * ((stN K w p i.toNat).2 (la K w r))) + y)) rfl rfl rfl ⟨by omega, by omega⟩ ?_
                                  refine R_iald (nx := 220) rfl rfl (mm_el_ok 1 144 (by decide) rfl (by decide) (by omega) (by omega)) ?_
                                  rw [show (S5 80 ((12 * ((stN K w p i.toNat).2 (la K w r))) + y)) = ((stN K w p i.toNat).1 ((stN K w p i.toNat).2 (la K w r)) y) from (h5 _ _ ho.1.1 ho.1.2 hy.1 (by omega)).trans (if_neg hxo)]
                                  refine R_imul (nx := 221) (z := ((p - (mlt p (r (la K w r)) ((stN K w p i.toNat).1 ((stN K w p i.toNat).2 (la K w r)) (la K w r)))) * ((stN K w p i.toNat).1 ((stN K w p i.toNat).2 (la K w r)) y))) rfl rfl rfl ⟨by omega, by omega⟩ ?_
                                  refine R_iadd (nx := 222) (z := ((r y) + ((p - (mlt p (r (la K w r)) ((stN K w p i.toNat).1 ((stN K w p i.toNat).2 (la K w r)) (la K w r)))) * ((stN K w p i.toNat).1 ((stN K w p i.toNat).2 (la K w r)) y)))) rfl rfl rfl ⟨by omega, by omega⟩ ?_
                                  refine R_lo (nx := 223) rfl rfl rfl rfl ?_
                                  refine R_irem (nx := 224) (z := (Int.tmod ((r y) + ((p - (mlt p (r (la K w r)) ((stN K w p i.toNat).1 ((stN K w p i.toNat).2 (la K w r)) (la K w r)))) * ((stN K w p i.toNat).1 ((stN K w p i.toNat).2 (la K w r)) y))) p)) rfl rfl (by omega) rfl ?_
                                  refine R_iast (nx := 225) rfl rfl (mm_el_ok 1 144 (by decide) rfl (by decide) (by omega) (by omega)) ?_
                                  refine R_iinc (nx := 228) (z := (y + 1)) (ls' := [(2, 71), (0, c), (0, w), (0, p), (0, i), (0, (od K w i)), (0, (la K w r)), (0, ((stN K w p i.toNat).2 (la K w r))), (0, (mlt p (r (la K w r)) ((stN K w p i.toNat).1 ((stN K w p i.toNat).2 (la K w r)) (la K w r)))), (0, (y + 1))]) rfl rfl rfl rfl ⟨by omega, by omega⟩ rfl ?_
                                  refine R_op (nx := 231) (pc' := 167) rfl rfl rfl ?_
                                  refine Rn.weak (ls' := [(2, 71), (0, c), (0, w), (0, p), (0, i), (0, (od K w i)), (0, (la K w r)), (0, ((stN K w p i.toNat).2 (la K w r))), (0, (mlt p (r (la K w r)) ((stN K w p i.toNat).1 ((stN K w p i.toNat).2 (la K w r)) (la K w r)))), (0, (y + 1))]) ⟨Or.inl rfl, ⟨Or.inl rfl, ⟨Or.inl rfl, ⟨Or.inl rfl, ⟨Or.inl rfl, ⟨Or.inl rfl, ⟨Or.inl rfl, ⟨Or.inl rfl, ⟨Or.inl rfl, ⟨Or.inl rfl, trivial⟩⟩⟩⟩⟩⟩⟩⟩⟩⟩ ?_
                                  refine ih167 ((mm_up S5 80 ((12 * (od K w i)) + y) (Int.tmod ((r y) + ((p - (mlt p (r (la K w r)) ((stN K w p i.toNat).1 ((stN K w p i.toNat).2 (la K w r)) (la K w r)))) * ((stN K w p i.toNat).1 ((stN K w p i.toNat).2 (la K w r)) y))) p))) ((y + 1)) ?_ ?_ ?_ ?_
                                  · omega
                                  · omega
                                  · intro z y2 z0 z1 y0 y1
                                    by_cases e : z = od K w i ∧ y2 = y
                                    · rw [e.1, e.2, mm_ua, if_pos rfl, if_pos (by omega)]; exact row_e hp ry mk.1 ro
                                    · rw [mm_uk (by have := oi.1; omega), h5 z y2 z0 z1 y0 y1]; by_cases e2 : z = od K w i
                                      · rw [if_pos e2, if_pos e2]; exact ifc (by omega) rfl rfl
                                      · rw [if_neg e2, if_neg e2]
                                  · intro b hb; rw [mm_unq hb]; exact h5F b hb
                            refine Rn.weak (ls' := [(2, 71), (0, c), (0, w), (0, p), (0, i), (0, (od K w i)), (0, (la K w r)), (0, ((stN K w p i.toNat).2 (la K w r))), (0, (mlt p (r (la K w r)) ((stN K w p i.toNat).1 ((stN K w p i.toNat).2 (la K w r)) (la K w r)))), (0, 0)]) ⟨Or.inl rfl, ⟨Or.inl rfl, ⟨Or.inl rfl, ⟨Or.inl rfl, ⟨Or.inl rfl, ⟨Or.inl rfl, ⟨Or.inl rfl, ⟨Or.inl rfl, ⟨Or.inl rfl, ⟨Or.inl rfl, trivial⟩⟩⟩⟩⟩⟩⟩⟩⟩⟩ ?_
                            refine L167 ((Xn K - (0)).toNat + 1) (S4) (0) (Nat.lt_succ_self _) ?_ ?_ ?_
                            · omega
                            · intro z y2 z0 z1 y0 y1; rw [h4 z y2 z0 z1 y0 y1]; split; exact (if_neg (by omega)).symm; rfl
                            · intro b hb; rfl
                    refine Rn.weak (ls' := [(2, 71), (0, c), (0, w), (0, p), (0, i), (0, (od K w i)), (0, (la K w ((stN K w p i.toNat).1 (od K w i)))), (9, 0), (9, 0), (9, 0)]) ⟨Or.inl rfl, ⟨Or.inl rfl, ⟨Or.inl rfl, ⟨Or.inl rfl, ⟨Or.inl rfl, ⟨Or.inl rfl, ⟨Or.inl rfl, ⟨Or.inl rfl, ⟨Or.inl rfl, ⟨Or.inl rfl, trivial⟩⟩⟩⟩⟩⟩⟩⟩⟩⟩ ?_
                    refine L105 (mre K w ((stN K w p i.toNat).1 (od K w i)) + 1) (S3) ((stN K w p i.toNat).1 (od K w i)) (Nat.lt_succ_self _) ?_ ?_ ?_ ?_
                    · exact PR_0 hp oi.1 oi.2 iv.1 iv.2
                    · intro z y z0 z1 y0 y1; rw [g80 z y z0 z1 y0 y1]; split; rename_i e; rw [e]; rfl
                    · intro b hb; rfl
                    · rfl
              refine Rn.weak (ls' := [(2, 71), (0, c), (0, w), (0, p), (0, 0), (9, 0), (9, 0), (9, 0), (9, 0), (9, 0)]) ⟨Or.inl rfl, ⟨Or.inl rfl, ⟨Or.inl rfl, ⟨Or.inl rfl, ⟨Or.inl rfl, ⟨Or.inl rfl, ⟨Or.inl rfl, ⟨Or.inl rfl, ⟨Or.inl rfl, ⟨Or.inl rfl, trivial⟩⟩⟩⟩⟩⟩⟩⟩⟩⟩ ?_
              refine L76 ((Xn K - (0)).toNat + 1) (S2) (0) (Nat.lt_succ_self _) ?_ ?_ ?_ ?_ ?_
              · omega
              · intro z y z0 z1 y0 y1; rw [i80 (12 * z + y) (by omega) (by omega), show (12 * z + y) / 12 = z by omega, show (12 * z + y) % 12 = y by omega]; rfl
              · intro z z0 z1; rw [h81 z z0 (by omega)]; have := rk_r (K := K) (w := w) ⟨z0, z1⟩; exact ((if_neg fun q => q rfl).trans (if_neg (by omega))).symm
              · intro k k0 k1; rw [iF 82 (by decide) (by decide)]; exact o0 k k0 k1
              · intro b hb; rw [iF b (by omega) (by omega)]; exact f0 b (by omega)
            ·
              refine R_lo (nx := 60) rfl rfl rfl rfl ?_
              refine R_get (nx := 63) (w := (2, 81)) rfl rfl rfl rfl ?_
              refine R_lo (nx := 65) rfl rfl rfl rfl ?_
              refine R_op (nx := 66) rfl rfl rfl ?_
              refine R_iast (nx := 67) rfl rfl (mm_el_ok 1 12 (by decide) rfl (by decide) (by omega) (by omega)) ?_
              refine R_iinc (nx := 70) (z := (k + 1)) (ls' := [(2, 71), (0, c), (0, w), (0, p), (0, (k + 1)), (9, 0), (9, 0), (9, 0), (9, 0), (9, 0)]) rfl rfl rfl rfl ⟨by omega, by omega⟩ rfl ?_
              refine R_op (nx := 73) (pc' := 52) rfl rfl rfl ?_
              refine Rn.weak (ls' := [(2, 71), (0, c), (0, w), (0, p), (0, (k + 1)), (9, 0), (9, 0), (9, 0), (9, 0), (9, 0)]) ⟨Or.inl rfl, ⟨Or.inl rfl, ⟨Or.inl rfl, ⟨Or.inl rfl, ⟨Or.inl rfl, ⟨Or.inl rfl, ⟨Or.inl rfl, ⟨Or.inl rfl, ⟨Or.inl rfl, ⟨Or.inl rfl, trivial⟩⟩⟩⟩⟩⟩⟩⟩⟩⟩ ?_
              refine ih52 ((mm_up S2 81 k (-1))) ((k + 1)) ?_ ?_ ?_ ?_ ?_
              · omega
              · omega
              · intro j j0 j1
                by_cases e : j = k
                · rw [e, mm_ua]
                · rw [mm_uk e]; exact h81 j j0 (by omega)
              · intro j a b; rw [mm_unq (by decide)]; exact i80 j a b
              · intro b hb hb2; rw [mm_unq hb2]; exact iF b hb hb2
        refine Rn.weak (ls' := [(2, 71), (0, c), (0, w), (0, p), (0, 0), (9, 0), (9, 0), (9, 0), (9, 0), (9, 0)]) ⟨Or.inl rfl, ⟨Or.inl rfl, ⟨Or.inl rfl, ⟨Or.inl rfl, ⟨Or.inl rfl, ⟨Or.inl rfl, ⟨Or.inl rfl, ⟨Or.inl rfl, ⟨Or.inl rfl, ⟨Or.inl rfl, trivial⟩⟩⟩⟩⟩⟩⟩⟩⟩⟩ ?_
        refine L52 (((12 : Int) - (0)).toNat + 1) (S1) (0) (Nat.lt_succ_self _) ?_ ?_ ?_ ?_
        · omega
        · intro j a b; omega
        · intro j a b; exact h80 j a (by omega)
        · intro b hb hb2; exact hF b hb
      ·
        refine R_lo (nx := 18) rfl rfl rfl rfl ?_
        refine R_get (nx := 21) (w := (2, 80)) rfl rfl rfl rfl ?_
        refine R_lo (nx := 23) rfl rfl rfl rfl ?_
        refine R_lo (nx := 24) rfl rfl rfl rfl ?_
        refine R_get (nx := 27) (w := (2, 75)) rfl rfl rfl rfl ?_
        refine R_op (nx := 30) rfl rfl rfl ?_
        refine R_lo (nx := 31) rfl rfl rfl rfl ?_
        refine R_imul (nx := 32) (z := (144 * c)) rfl rfl rfl ⟨by omega, by omega⟩ ?_
        refine R_lo (nx := 34) rfl rfl rfl rfl ?_
        refine R_iadd (nx := 35) (z := ((144 * c) + k)) rfl rfl rfl ⟨by omega, by omega⟩ ?_
        refine R_iald (nx := 36) rfl rfl (mm_el_ok 1 720 (by decide) rfl (by decide) (by omega) (by omega)) ?_
        rw [show S1 75 (144 * c + k) = Xe K (k / 12) (k % 12) from by rw [hF 75 (by decide), f0 75 (by decide), show 144 * c + k = 144 * c + 12 * (k / 12) + k % 12 by omega]; exact h.1.e (by omega) (by omega)]
        refine R_lo (nx := 37) rfl rfl rfl rfl ?_
        refine R_irem (nx := 38) (z := (Int.tmod (Xe K (k / 12) (k % 12)) p)) rfl rfl (by omega) rfl ?_
        refine R_lo (nx := 39) rfl rfl rfl rfl ?_
        refine R_iadd (nx := 40) (z := ((Int.tmod (Xe K (k / 12) (k % 12)) p) + p)) rfl rfl rfl ⟨by omega, by omega⟩ ?_
        refine R_lo (nx := 41) rfl rfl rfl rfl ?_
        refine R_irem (nx := 42) (z := (Int.tmod ((Int.tmod (Xe K (k / 12) (k % 12)) p) + p) p)) rfl rfl (by omega) rfl ?_
        refine R_iast (nx := 43) rfl rfl (mm_el_ok 1 144 (by decide) rfl (by decide) (by omega) (by omega)) ?_
        refine R_iinc (nx := 46) (z := (k + 1)) (ls' := [(2, 71), (0, c), (0, w), (0, p), (0, (k + 1)), (9, 0), (9, 0), (9, 0), (9, 0), (9, 0)]) rfl rfl rfl rfl ⟨by omega, by omega⟩ rfl ?_
        refine R_op (nx := 49) (pc' := 9) rfl rfl rfl ?_
        refine Rn.weak (ls' := [(2, 71), (0, c), (0, w), (0, p), (0, (k + 1)), (9, 0), (9, 0), (9, 0), (9, 0), (9, 0)]) ⟨Or.inl rfl, ⟨Or.inl rfl, ⟨Or.inl rfl, ⟨Or.inl rfl, ⟨Or.inl rfl, ⟨Or.inl rfl, ⟨Or.inl rfl, ⟨Or.inl rfl, ⟨Or.inl rfl, ⟨Or.inl rfl, trivial⟩⟩⟩⟩⟩⟩⟩⟩⟩⟩ ?_
        refine ih9 ((mm_up S1 80 k (Int.tmod ((Int.tmod (Xe K (k / 12) (k % 12)) p) + p) p))) ((k + 1)) ?_ ?_ ?_ ?_
        · omega
        · omega
        · intro j j0 j1
          by_cases e : j = k
          · rw [e, mm_ua]; exact te
          · rw [mm_uk e]; exact h80 j j0 (by omega)
        · intro b hb; rw [mm_unq hb]; exact hF b hb
  refine Rn.weak (ls' := [(2, 71), (0, c), (0, w), (0, p), (0, 0), (9, 0), (9, 0), (9, 0), (9, 0), (9, 0)]) ⟨Or.inl rfl, ⟨Or.inl rfl, ⟨Or.inl rfl, ⟨Or.inl rfl, ⟨Or.inl rfl, ⟨Or.inl rfl, ⟨Or.inl rfl, ⟨Or.inl rfl, ⟨Or.inl rfl, ⟨Or.inl rfl, trivial⟩⟩⟩⟩⟩⟩⟩⟩⟩⟩ ?_
  refine L9 (((144 : Int) - (0)).toNat + 1) (S0) (0) (Nat.lt_succ_self _) ?_ ?_ ?_
  · omega
  · intro j a b; omega
  · intro b hb; rfl
