/-! The table made simple: it ends. -/
def LEm (S : mm_S) (m n t mu : Int) : Prop := ∀ x y, ((t ≤ x ∧ x < m) ∧ (t ≤ y ∧ y < n)) → 0 < sz (Tt S x y) → ∃ a b, ((t ≤ a ∧ a < m) ∧ (t ≤ b ∧ b < n)) ∧ 0 < sz (Tt S a b) ∧ sz (Tt S a b) ≤ mu
def FLg (S : mm_S) (n t mu fl : Int) : Prop := fl = 0 → (sz (Tt S t t) = mu ∧ 0 < mu) ∧ ∃ y, (t < y ∧ y < n) ∧ Int.tmod (Tt S t y) (Tt S t t) ≠ 0
theorem sz_le {x : Int} (h : mm_r64 x) : sz x ≤ 9223372036854775808 := by
  have := sz_m h
  unfold mm_r64 at h
  omega
theorem LEm_0 {S : mm_S} {m n t : Int} (h : RG S m n) (ht : 0 ≤ t) : LEm S m n t 9223372036854775808 := fun x y hx q => ⟨x, y, hx, q, sz_le (h x y (by omega) (by omega) (by omega) (by omega))⟩
theorem FLg_1 (S : mm_S) (n t mu : Int) : FLg S n t mu 1 := fun q => absurd q (by decide)
/-- what a round that isn't the last leaves is less -/
theorem less {S1 S2 S3 : mm_S} {m n t mu fl p : Int} (ht : (0 ≤ t ∧ t < m) ∧ t < n) (hfl : fl = 0 ∨ fl = 1) (h1 : LEm S1 m n t mu) (h2 : FLg S1 n t mu fl) (hp : Tt S2 t t = p) (hp0 : 0 < sz p)
    (hmin : ∀ x y, t ≤ x → x < m → t ≤ y → y < n → 0 < sz (Tt S1 x y) → sz (Tt S2 t t) ≤ sz (Tt S1 x y)) (hid : (0 < sz (Tt S1 t t) ∧ ∀ x y, t ≤ x → x < m → t ≤ y → y < n → 0 < sz (Tt S1 x y) → sz (Tt S1 t t) ≤ sz (Tt S1 x y)) → ∀ x y, 0 ≤ x → x < m → 0 ≤ y → y < n → Tt S2 x y = Tt S1 x y)
    (hex : ∃ x y, ((t ≤ x ∧ x < m) ∧ (t ≤ y ∧ y < n)) ∧ Tt S2 t t = Tt S1 x y) (hf : FLP S2 S3 m n t p) : ∃ mu' fl', (0 ≤ mu' ∧ mu' ≤ mu) ∧ (fl' = 0 ∨ fl' = 1) ∧ 2 * mu' + fl' < 2 * mu + fl ∧ LEm S3 m n t mu' ∧ FLg S3 n t mu' fl' := by
  obtain ⟨x, y, hxy, he⟩ := hex
  obtain ⟨a, b, hab, hz, hle⟩ := h1 x y hxy (by rw [← he, hp]; exact hp0)
  have hpm : sz p ≤ mu := by
    have := hmin a b (by omega) (by omega) (by omega) (by omega) hz
    rw [hp] at this
    omega
  rcases hf with ⟨c, d, hcd, hl⟩ | ⟨e1, ⟨d, hd, e2⟩, e3⟩
  · unfold LTs at hl
    exact ⟨sz (Tt S3 c d), 1, by omega, Or.inr rfl, by omega, fun _ _ _ _ => ⟨c, d, hcd, hl.1, Int.le_refl _⟩, FLg_1 _ _ _ _⟩
  · refine ⟨sz p, 0, by omega, Or.inl rfl, ?_, fun _ _ _ _ => ⟨t, t, by omega, by rw [e1]; exact hp0, by rw [e1]; exact Int.le_refl _⟩, fun _ => ⟨⟨by rw [e1], hp0⟩, d, hd, by rw [e1]; exact e2⟩⟩
    rcases hfl with q | q
    · obtain ⟨⟨g1, g2⟩, y2, hy2, g3⟩ := h2 q
      by_cases z : sz p < mu
      · omega
      · exfalso
        have hi := hid ⟨by omega, fun x y x0 x1 y0 y1 q => by
          have := hmin x y x0 x1 y0 y1 q
          rw [hp] at this
          omega⟩
        have i1 := hi t t (by omega) (by omega) (by omega) (by omega)
        have i2 := hi t y2 (by omega) (by omega) (by omega) (by omega)
        refine g3 ?_
        rw [← i1, ← i2, hp]
        exact e3 y2 hy2.1 hy2.2
    · omega

set_option maxRecDepth 20000 in
set_option maxHeartbeats 4000000 in
theorem c_M_simplifies (S : mm_S) (m n : Int) (h17 : S 71 17 = m) (h18 : S 71 18 = n) (hm : (0 ≤ m ∧ m ≤ 12) ∧ (0 ≤ n ∧ n ≤ 12)) (hG : RG S m n) : Cl 92 [(2, 71)] S (fun v S' => v = none ∧ (0 ≤ S' 71 19 ∧ S' 71 19 ≤ 12 ∧ S' 71 19 ≤ m) ∧ (∀ b, ¬ (b = 71 ∨ (83 ≤ b ∧ b ≤ 84)) → S' b = S b) ∧ ∀ k, k ≠ 19 → S' 71 k = S 71 k) := by
  refine ⟨Nat.le_of_ble_eq_true rfl, ?_⟩
  show Rn k_M_simplifies 0 [(2, 71)] [] S _
  refine R_lo (nx := 1) rfl rfl rfl rfl ?_
  refine R_op (nx := 2) rfl rfl rfl ?_
  refine R_put (nx := 5) (kk := 19) rfl rfl rfl rfl rfl ?_
  have L5 : ∀ (f5 : Nat) (S1 : mm_S) (r : Int) (mu : Int) (fl : Int), (((12 : Int) - r) * 73786976294838206464 + 2 * mu + fl).toNat < f5 → ((0 ≤ r ∧ r ≤ m) ∧ r ≤ n) → (S1 71 19 = r) → (RG S1 m n) → (0 ≤ mu ∧ mu ≤ 9223372036854775808) → (fl = 0 ∨ fl = 1) → (LEm S1 m n r mu) → (FLg S1 n r mu fl) → (∀ b, ¬ (b = 71 ∨ (83 ≤ b ∧ b ≤ 84)) → S1 b = S b) → (∀ k, k ≠ 19 → S1 71 k = S 71 k) → Rn k_M_simplifies 5 [(2, 71)] [] S1 (fun v S' => v = none ∧ (0 ≤ S' 71 19 ∧ S' 71 19 ≤ 12 ∧ S' 71 19 ≤ m) ∧ (∀ b, ¬ (b = 71 ∨ (83 ≤ b ∧ b ≤ 84)) → S' b = S b) ∧ ∀ k, k ≠ 19 → S' 71 k = S 71 k) := by
    intro f5
    induction f5 with
    | zero => intro S1 r mu fl hm5; exact absurd hm5 (Nat.not_lt_zero _)
    | succ f5 ih5 =>
      intro S1 r mu fl hm5 hr hrk gG hmu hfl hLE hFL gF g71
      have k17S1 : S1 71 17 = m := by rw [g71 17 (by decide)]; exact h17
      have k18S1 : S1 71 18 = n := by rw [g71 18 (by decide)]; exact h18
      refine R_lo (nx := 6) rfl rfl rfl rfl ?_
      refine R_get (nx := 9) (w := (0, (S1 71 19))) rfl rfl rfl rfl ?_
      rw [show (S1 71 19) = r from hrk]
      refine R_lo (nx := 10) rfl rfl rfl rfl ?_
      refine R_get (nx := 13) (w := (0, (S1 71 17))) rfl rfl rfl rfl ?_
      rw [show (S1 71 17) = m from by assumption]
      refine R_icmp (nx := 16) (tg := 91) rfl rfl rfl (mm_cnd_ge _ _) (fun c13 => ?_) (fun c13 => ?_)
      ·
        refine R_ret rfl (fun _ _ => rfl) rfl rfl ?_
        exact ⟨rfl, by rw [hrk]; omega, gF, g71⟩
      ·
        refine R_lo (nx := 17) rfl rfl rfl rfl ?_
        refine R_get (nx := 20) (w := (0, (S1 71 19))) rfl rfl rfl rfl ?_
        rw [show (S1 71 19) = r from hrk]
        refine R_lo (nx := 21) rfl rfl rfl rfl ?_
        refine R_get (nx := 24) (w := (0, (S1 71 18))) rfl rfl rfl rfl ?_
        rw [show (S1 71 18) = n from by assumption]
        refine R_icmp (nx := 27) (tg := 91) rfl rfl rfl (mm_cnd_ge _ _) (fun c24 => ?_) (fun c24 => ?_)
        ·
          refine R_ret rfl (fun _ _ => rfl) rfl rfl ?_
          exact ⟨rfl, by rw [hrk]; omega, gF, g71⟩
        ·
          refine R_lo (nx := 28) rfl rfl rfl rfl ?_
          refine R_lo (nx := 29) rfl rfl rfl rfl ?_
          refine R_get (nx := 32) (w := (0, (S1 71 19))) rfl rfl rfl rfl ?_
          rw [show (S1 71 19) = r from hrk]
          refine R_call1 (nx := 35) (as := [(2, 71), (0, r)]) (rest := []) rfl rfl (fun _ _ => rfl) rfl rfl rfl rfl rfl rfl rfl rfl (Cl.mono (c_M_leastTo S1 m n r k17S1 k18S1 (by omega) gG) ?_)
          rintro _ S32 ⟨F32, R32, rfl | ⟨rfl, P32, M32, I32, E32⟩⟩
          ·
            refine ⟨_, rfl, ?_⟩
            refine R_ifT (tg := 91) rfl rfl rfl ?_
            refine R_ret rfl (fun _ _ => rfl) rfl rfl ?_
            exact ⟨rfl, by rw [F32 71 (by decide), hrk]; omega, fun b hb => by rw [F32 b (by omega)]; exact gF b hb, fun k hk => by rw [F32 71 (by decide)]; exact g71 k hk⟩
          ·
            have r32 : S32 71 19 = r := by rw [F32 71 (by decide)]; exact hrk
            have k17S2 : S32 71 17 = m := by rw [F32 71 (by decide)]; exact k17S1
            have k18S2 : S32 71 18 = n := by rw [F32 71 (by decide)]; exact k18S1
            refine ⟨_, rfl, ?_⟩
            refine R_ifF (nx := 38) rfl rfl rfl ?_
            refine R_lo (nx := 39) rfl rfl rfl rfl ?_
            refine R_lo (nx := 40) rfl rfl rfl rfl ?_
            refine R_get (nx := 43) (w := (0, (S32 71 19))) rfl rfl rfl rfl ?_
            rw [show (S32 71 19) = r from r32]
            refine R_call1 (nx := 46) (as := [(2, 71), (0, r)]) (rest := []) rfl rfl (fun _ _ => rfl) rfl rfl rfl rfl rfl rfl rfl rfl (Cl.mono (c_M_lowers S32 m n r k17S2 k18S2 (by omega) R32 (Tt S32 r r) rfl P32) ?_)
            rintro _ S43 ⟨F43, R43, rfl | ⟨rfl, W43⟩⟩
            ·
              have r43 : S43 71 19 = r := by rw [F43 71 (by decide)]; exact r32
              refine ⟨_, rfl, ?_⟩
              refine R_ifF (nx := 49) rfl rfl rfl ?_
              refine R_lo (nx := 50) rfl rfl rfl rfl ?_
              refine R_get (nx := 53) (w := (2, 84)) rfl rfl rfl rfl ?_
              refine R_lo (nx := 54) rfl rfl rfl rfl ?_
              refine R_get (nx := 57) (w := (0, (S43 71 19))) rfl rfl rfl rfl ?_
              rw [show (S43 71 19) = r from r43]
              refine R_lo (nx := 58) rfl rfl rfl rfl ?_
              refine R_get (nx := 61) (w := (2, 83)) rfl rfl rfl rfl ?_
              refine R_op (nx := 63) rfl rfl rfl ?_
              refine R_lo (nx := 64) rfl rfl rfl rfl ?_
              refine R_get (nx := 67) (w := (0, (S43 71 19))) rfl rfl rfl rfl ?_
              rw [show (S43 71 19) = r from r43]
              refine R_imul (nx := 68) (z := (12 * r)) rfl rfl rfl ⟨by omega, by omega⟩ ?_
              refine R_lo (nx := 69) rfl rfl rfl rfl ?_
              refine R_get (nx := 72) (w := (0, (S43 71 19))) rfl rfl rfl rfl ?_
              rw [show (S43 71 19) = r from r43]
              refine R_iadd (nx := 73) (z := ((12 * r) + r)) rfl rfl rfl ⟨by omega, by omega⟩ ?_
              refine R_lald (nx := 74) rfl rfl (mm_el_ok 2 144 (by decide) rfl (by decide) (by omega) (by omega)) ?_
              refine R_call1 (nx := 77) (as := [(1, (S43 83 ((12 * r) + r)))]) (rest := [(0, r), (2, 84)]) rfl rfl (fun _ _ => rfl) rfl rfl rfl rfl rfl rfl rfl rfl (Cl.mono (c_M_size S43 (S43 83 ((12 * r) + r))) ?_)
              rintro _ _ ⟨rfl, rfl⟩
              refine ⟨_, rfl, ?_⟩
              refine R_last (nx := 78) rfl rfl (mm_el_ok 2 12 (by decide) rfl (by decide) (by omega) (by omega)) ?_
              refine R_lo (nx := 79) rfl rfl rfl rfl ?_
              refine R_op (nx := 80) rfl rfl rfl ?_
              refine R_get (nx := 83) (w := (0, ((mm_up S43 84 r (sz (S43 83 ((12 * r) + r)))) 71 19))) rfl rfl rfl rfl ?_
              rw [show ((mm_up S43 84 r (sz (S43 83 ((12 * r) + r)))) 71 19) = r from (congrFun (mm_unq (by decide)) _).trans r43]
              refine R_op (nx := 84) rfl rfl rfl ?_
              refine R_iadd (nx := 85) (z := (r + 1)) rfl rfl rfl ⟨by omega, by omega⟩ ?_
              refine R_put (nx := 88) (kk := 19) rfl rfl rfl rfl rfl ?_
              refine R_op (nx := 91) (pc' := 5) rfl rfl rfl ?_
              refine ih5 (mm_up (mm_up S43 84 r (sz (S43 83 ((12 * r) + r)))) 71 19 (r + 1)) (r + 1) 9223372036854775808 1 ?_ (by omega) mm_ua (R43.fr (by rw [mm_unq (by decide), mm_unq (by decide)])) (by omega) (Or.inr rfl) (LEm_0 (R43.fr (by rw [mm_unq (by decide), mm_unq (by decide)])) (by omega)) (FLg_1 _ _ _ _) ?_ ?_
              · omega
              · intro b hb; rw [mm_unq (by omega), mm_unq (by omega), F43 b (by omega), F32 b (by omega)]; exact gF b hb
              · intro k hk; rw [mm_uk hk, mm_unq (by decide), F43 71 (by decide), F32 71 (by decide)]; exact g71 k hk
            ·
              have r43 : S43 71 19 = r := by rw [F43 71 (by decide)]; exact r32
              refine ⟨_, rfl, ?_⟩
              refine R_ifT (tg := 5) rfl rfl rfl ?_
              obtain ⟨mu2, fl2, q1, q2, q3, q4, q5⟩ := less (by omega) hfl hLE hFL rfl P32 M32 I32 E32 W43
              refine ih5 S43 r mu2 fl2 ?_ hr r43 R43 (by omega) q2 q4 q5 ?_ ?_
              · omega
              · intro b hb; rw [F43 b (by omega), F32 b (by omega)]; exact gF b hb
              · intro k hk; rw [F43 71 (by decide), F32 71 (by decide)]; exact g71 k hk
  refine Rn.weak (ls' := [(2, 71)]) ⟨Or.inl rfl, trivial⟩ ?_
  refine L5 ((((12 : Int) - (0)) * 73786976294838206464 + 2 * (9223372036854775808) + (1)).toNat + 1) ((mm_up S 71 19 0)) (0) (9223372036854775808) (1) (Nat.lt_succ_self _) ?_ ?_ ?_ ?_ ?_ ?_ ?_ ?_ ?_
  · omega
  · exact mm_ua
  · exact hG.fr (mm_unq (by decide))
  · omega
  · omega
  · exact LEm_0 (hG.fr (mm_unq (by decide))) (by omega)
  · exact FLg_1 _ _ _ _
  · intro b hb; exact mm_unq (by omega)
  · intro k hk; exact mm_uk hk

set_option maxRecDepth 20000 in
set_option maxHeartbeats 4000000 in
theorem c_M_wholeOf (S : mm_S) (c : Int) (hc : 0 ≤ c ∧ c < 5) (K : CX) (h : MR S c K) (hR : Rg K) (d w l i : Int) (hw : w ≤ 1) (hd : 0 ≤ d ∧ d ≤ 4) (hi : 0 ≤ i ∧ mm_r32 i) : Cl 93 [(2, 71), (0, c), (0, d), (0, w), (0, l), (0, i)] S (fun v S' => ∃ z, v = some (0, z) ∧ (Xn K = 0 → z = if i = 0 then 0 else -3) ∧ (∀ b, ¬ (b = 71 ∨ (83 ≤ b ∧ b ≤ 84)) → S' b = S b) ∧ ∀ k, ¬ (17 ≤ k ∧ k ≤ 19) → S' 71 k = S 71 k) := by
  refine ⟨Nat.le_of_ble_eq_true rfl, ?_⟩
  show Rn k_M_wholeOf 0 [(2, 71), (0, c), (0, d), (0, w), (0, l), (0, i), (9, 0), (9, 0)] [] S _
  have hnr := h.1.nr
  have cb := cat_b K d w l hnr.1
  obtain ⟨hi0, hi1⟩ := hi
  unfold mm_r32 at hi1
  refine R_lo (nx := 1) rfl rfl rfl rfl ?_
  refine R_lo (nx := 2) rfl rfl rfl rfl ?_
  refine R_lo (nx := 3) rfl rfl rfl rfl ?_
  refine R_lo (nx := 4) rfl rfl rfl rfl ?_
  refine R_lo (nx := 6) rfl rfl rfl rfl ?_
  refine R_call0 (nx := 9) (as := [(2, 71), (0, c), (0, d), (0, w), (0, l)]) (rest := []) rfl rfl (fun _ _ => rfl) rfl rfl rfl rfl rfl rfl rfl rfl (Cl.mono (c_M_takesTable S c hc K h hR d w l hw (by omega)) ?_)
  rintro _ T1 ⟨rfl, a1, b1, G1, F1, f1⟩
  refine ⟨rfl, ?_⟩
  refine R_lo (nx := 10) rfl rfl rfl rfl ?_
  refine R_call0 (nx := 13) (as := [(2, 71)]) (rest := []) rfl rfl (fun _ _ => rfl) rfl rfl rfl rfl rfl rfl rfl rfl (Cl.mono (c_M_simplifies T1 _ _ rfl rfl ⟨⟨a1.1, a1.2.1⟩, b1⟩ G1) ?_)
  rintro _ U1 ⟨rfl, r1, H1, i1⟩
  have mB : MR U1 c K := h.fr fun e p q => by rw [H1 e (by omega), F1 e (by omega) (by omega)]
  refine ⟨rfl, ?_⟩
  refine R_lo (nx := 14) rfl rfl rfl rfl ?_
  refine R_get (nx := 17) (w := (0, (U1 71 19))) rfl rfl rfl rfl ?_
  refine R_lo (nx := 19) (ls' := [(2, 71), (0, c), (0, d), (0, w), (0, l), (0, i), (0, (U1 71 19)), (9, 0)]) rfl rfl rfl rfl ?_
  refine R_lo (nx := 20) rfl rfl rfl rfl ?_
  refine R_lo (nx := 21) rfl rfl rfl rfl ?_
  refine R_lo (nx := 22) rfl rfl rfl rfl ?_
  refine R_op (nx := 23) rfl rfl rfl ?_
  refine R_iadd (nx := 24) (z := (d + 1)) rfl rfl rfl ⟨by omega, by omega⟩ ?_
  refine R_lo (nx := 25) rfl rfl rfl rfl ?_
  refine R_lo (nx := 27) rfl rfl rfl rfl ?_
  refine R_call0 (nx := 30) (as := [(2, 71), (0, c), (0, (d + 1)), (0, w), (0, l)]) (rest := []) rfl rfl (fun _ _ => rfl) rfl rfl rfl rfl rfl rfl rfl rfl (Cl.mono (c_M_takesTable U1 c hc K mB hR (d + 1) w l hw (by omega)) ?_)
  rintro _ T2 ⟨rfl, a2, b2, G2, F2, f2⟩
  refine ⟨rfl, ?_⟩
  refine R_lo (nx := 31) rfl rfl rfl rfl ?_
  refine R_call0 (nx := 34) (as := [(2, 71)]) (rest := []) rfl rfl (fun _ _ => rfl) rfl rfl rfl rfl rfl rfl rfl rfl (Cl.mono (c_M_simplifies T2 _ _ rfl rfl ⟨⟨a2.1, a2.2.1⟩, b2⟩ G2) ?_)
  rintro _ U2 ⟨rfl, r2, H2, i2⟩
  have mC : MR U2 c K := mB.fr fun e p q => by rw [H2 e (by omega), F2 e (by omega) (by omega)]
  refine ⟨rfl, ?_⟩
  refine R_lo (nx := 36) rfl rfl rfl rfl ?_
  refine R_lo (nx := 37) rfl rfl rfl rfl ?_
  refine R_get (nx := 40) (w := (0, (U2 71 19))) rfl rfl rfl rfl ?_
  refine R_iadd (nx := 41) (z := ((U1 71 19) + (U2 71 19))) rfl rfl rfl ⟨by omega, by omega⟩ ?_
  refine R_lo (nx := 43) (ls' := [(2, 71), (0, c), (0, d), (0, w), (0, l), (0, i), (0, ((U1 71 19) + (U2 71 19))), (9, 0)]) rfl rfl rfl rfl ?_
  refine R_lo (nx := 45) rfl rfl rfl rfl ?_
  refine R_if (nx := 48) (tg := 61) rfl rfl rfl (mm_cnd_ne _ _) (fun c45 => ?_) (fun c45 => ?_)
  ·
    refine R_op (nx := 62) rfl rfl rfl ?_
    refine R_lo (nx := 64) (ls' := [(2, 71), (0, c), (0, d), (0, w), (0, l), (0, i), (0, ((U1 71 19) + (U2 71 19))), (0, 0)]) rfl rfl rfl rfl ?_
    have L64 : ∀ (f64 : Nat) (k : Int), (U2 71 19 - k).toNat < f64 → (0 ≤ k ∧ k ≤ U2 71 19) → Rn k_M_wholeOf 64 [(2, 71), (0, c), (0, d), (0, w), (0, l), (0, i), (0, (U1 71 19 + U2 71 19)), (0, k)] [] U2 (fun v S' => ∃ z, v = some (0, z) ∧ (Xn K = 0 → z = if i = 0 then 0 else -3) ∧ (∀ b, ¬ (b = 71 ∨ (83 ≤ b ∧ b ≤ 84)) → S' b = S b) ∧ ∀ k, ¬ (17 ≤ k ∧ k ≤ 19) → S' 71 k = S 71 k) := by
      intro f64
      induction f64 with
      | zero => intro k hm64; exact absurd hm64 (Nat.not_lt_zero _)
      | succ f64 ih64 =>
        intro k hm64 hk
        refine R_lo (nx := 66) rfl rfl rfl rfl ?_
        refine R_lo (nx := 67) rfl rfl rfl rfl ?_
        refine R_get (nx := 70) (w := (0, (U2 71 19))) rfl rfl rfl rfl ?_
        refine R_icmp (nx := 73) (tg := 91) rfl rfl rfl (mm_cnd_ge _ _) (fun c70 => ?_) (fun c70 => ?_)
        ·
          refine R_lo (nx := 93) rfl rfl rfl rfl ?_
          refine R_lo (nx := 94) rfl rfl rfl rfl ?_
          refine R_get (nx := 97) (w := (0, (U2 71 19))) rfl rfl rfl rfl ?_
          refine R_lo (nx := 99) rfl rfl rfl rfl ?_
          refine R_isub (nx := 100) (z := ((U2 71 19) - k)) rfl rfl rfl ⟨by omega, by omega⟩ ?_
          refine R_icmp (nx := 103) (tg := 119) rfl rfl rfl (mm_cnd_gt _ _) (fun c100 => ?_) (fun c100 => ?_)
          ·
            refine R_op (nx := 121) rfl rfl rfl ?_
            refine R_ret rfl (fun _ _ => rfl) rfl rfl ?_
            exact ⟨_, rfl, fun e => by split <;> omega, fun b hb => by rw [H2 b hb, F2 b (by omega) (by omega), H1 b hb, F1 b (by omega) (by omega)], fun k hk => by rw [i2 k (by omega), f2 k hk, i1 k (by omega), f1 k hk]⟩
          ·
            refine R_lo (nx := 104) rfl rfl rfl rfl ?_
            refine R_get (nx := 107) (w := (2, 84)) rfl rfl rfl rfl ?_
            refine R_lo (nx := 109) rfl rfl rfl rfl ?_
            refine R_lo (nx := 111) rfl rfl rfl rfl ?_
            refine R_iadd (nx := 112) (z := (k + i)) rfl rfl rfl ⟨by omega, by omega⟩ ?_
            refine R_op (nx := 113) rfl rfl rfl ?_
            refine R_isub (nx := 114) (z := ((k + i) - 1)) rfl rfl rfl ⟨by omega, by omega⟩ ?_
            refine R_lald (nx := 115) rfl rfl (mm_el_ok 2 12 (by decide) rfl (by decide) (by omega) (by omega)) ?_
            refine R_op (nx := 116) (st' := [(0, (mm_w32 (U2 84 ((k + i) - 1))))]) rfl rfl rfl ?_
            refine R_op (nx := 119) (pc' := 121) rfl rfl rfl ?_
            refine R_ret rfl (fun _ _ => rfl) rfl rfl ?_
            exact ⟨_, rfl, fun e => by split <;> omega, fun b hb => by rw [H2 b hb, F2 b (by omega) (by omega), H1 b hb, F1 b (by omega) (by omega)], fun k hk => by rw [i2 k (by omega), f2 k hk, i1 k (by omega), f1 k hk]⟩
        ·
          refine R_lo (nx := 74) rfl rfl rfl rfl ?_
          refine R_get (nx := 77) (w := (2, 84)) rfl rfl rfl rfl ?_
          refine R_lo (nx := 79) rfl rfl rfl rfl ?_
          refine R_lald (nx := 80) rfl rfl (mm_el_ok 2 12 (by decide) rfl (by decide) (by omega) (by omega)) ?_
          refine R_op (nx := 81) (st' := [(1, 1), (1, (U2 84 k))]) rfl rfl rfl ?_
          refine R_op (nx := 82) (st' := [(0, (if 1 < (U2 84 k) then 1 else if (U2 84 k) = 1 then 0 else -1))]) rfl rfl rfl ?_
          refine R_if (nx := 85) (tg := 91) rfl rfl rfl (mm_lc_ne _ _) (fun c82 => ?_) (fun c82 => ?_)
          ·
            refine R_lo (nx := 93) rfl rfl rfl rfl ?_
            refine R_lo (nx := 94) rfl rfl rfl rfl ?_
            refine R_get (nx := 97) (w := (0, (U2 71 19))) rfl rfl rfl rfl ?_
            refine R_lo (nx := 99) rfl rfl rfl rfl ?_
            refine R_isub (nx := 100) (z := ((U2 71 19) - k)) rfl rfl rfl ⟨by omega, by omega⟩ ?_
            refine R_icmp (nx := 103) (tg := 119) rfl rfl rfl (mm_cnd_gt _ _) (fun c100_1 => ?_) (fun c100_1 => ?_)
            ·
              refine R_op (nx := 121) rfl rfl rfl ?_
              refine R_ret rfl (fun _ _ => rfl) rfl rfl ?_
              exact ⟨_, rfl, fun e => by split <;> omega, fun b hb => by rw [H2 b hb, F2 b (by omega) (by omega), H1 b hb, F1 b (by omega) (by omega)], fun k hk => by rw [i2 k (by omega), f2 k hk, i1 k (by omega), f1 k hk]⟩
            ·
              refine R_lo (nx := 104) rfl rfl rfl rfl ?_
              refine R_get (nx := 107) (w := (2, 84)) rfl rfl rfl rfl ?_
              refine R_lo (nx := 109) rfl rfl rfl rfl ?_
              refine R_lo (nx := 111) rfl rfl rfl rfl ?_
              refine R_iadd (nx := 112) (z := (k + i)) rfl rfl rfl ⟨by omega, by omega⟩ ?_
              refine R_op (nx := 113) rfl rfl rfl ?_
              refine R_isub (nx := 114) (z := ((k + i) - 1)) rfl rfl rfl ⟨by omega, by omega⟩ ?_
              refine R_lald (nx := 115) rfl rfl (mm_el_ok 2 12 (by decide) rfl (by decide) (by omega) (by omega)) ?_
              refine R_op (nx := 116) (st' := [(0, (mm_w32 (U2 84 ((k + i) - 1))))]) rfl rfl rfl ?_
              refine R_op (nx := 119) (pc' := 121) rfl rfl rfl ?_
              refine R_ret rfl (fun _ _ => rfl) rfl rfl ?_
              exact ⟨_, rfl, fun e => by split <;> omega, fun b hb => by rw [H2 b hb, F2 b (by omega) (by omega), H1 b hb, F1 b (by omega) (by omega)], fun k hk => by rw [i2 k (by omega), f2 k hk, i1 k (by omega), f1 k hk]⟩
          ·
            replace c82 := Classical.not_not.mp c82
            refine R_iinc (nx := 88) (z := (k + 1)) (ls' := [(2, 71), (0, c), (0, d), (0, w), (0, l), (0, i), (0, (U1 71 19 + U2 71 19)), (0, (k + 1))]) rfl rfl rfl rfl ⟨by omega, by omega⟩ rfl ?_
            refine R_op (nx := 91) (pc' := 64) rfl rfl rfl ?_
            refine Rn.weak (ls' := [(2, 71), (0, c), (0, d), (0, w), (0, l), (0, i), (0, (U1 71 19 + U2 71 19)), (0, (k + 1))]) ⟨Or.inl rfl, ⟨Or.inl rfl, ⟨Or.inl rfl, ⟨Or.inl rfl, ⟨Or.inl rfl, ⟨Or.inl rfl, ⟨Or.inl rfl, ⟨Or.inl rfl, trivial⟩⟩⟩⟩⟩⟩⟩⟩ ?_
            refine ih64 ((k + 1)) ?_ ?_
            · omega
            · omega
    refine Rn.weak (ls' := [(2, 71), (0, c), (0, d), (0, w), (0, l), (0, i), (0, (U1 71 19 + U2 71 19)), (0, 0)]) ⟨Or.inl rfl, ⟨Or.inl rfl, ⟨Or.inl rfl, ⟨Or.inl rfl, ⟨Or.inl rfl, ⟨Or.inl rfl, ⟨Or.inl rfl, ⟨Or.inl rfl, trivial⟩⟩⟩⟩⟩⟩⟩⟩ ?_
    refine L64 ((U2 71 19 - (0)).toNat + 1) (0) (Nat.lt_succ_self _) ?_
    · omega
  ·
    replace c45 := Classical.not_not.mp c45
    refine R_lo (nx := 49) rfl rfl rfl rfl ?_
    refine R_lo (nx := 50) rfl rfl rfl rfl ?_
    refine R_lo (nx := 51) rfl rfl rfl rfl ?_
    refine R_lo (nx := 52) rfl rfl rfl rfl ?_
    refine R_lo (nx := 54) rfl rfl rfl rfl ?_
    refine R_call1 (nx := 57) (as := [(2, 71), (0, c), (0, d), (0, w), (0, l)]) (rest := []) rfl rfl (fun _ _ => rfl) rfl rfl rfl rfl rfl rfl rfl rfl (Cl.mono (c_M_cellsAt U2 c hc K mC d w l hw) ?_)
    rintro _ _ ⟨rfl, rfl⟩
    refine ⟨_, rfl, ?_⟩
    refine R_lo (nx := 59) rfl rfl rfl rfl ?_
    refine R_isub (nx := 60) (z := ((cat K d w l (Xn K)) - ((U1 71 19) + (U2 71 19)))) rfl rfl rfl ⟨by omega, by omega⟩ ?_
    refine R_ret rfl (fun _ _ => rfl) rfl rfl ?_
    exact ⟨_, rfl, fun e => by split <;> omega, fun b hb => by rw [H2 b hb, F2 b (by omega) (by omega), H1 b hb, F1 b (by omega) (by omega)], fun k hk => by rw [i2 k (by omega), f2 k hk, i1 k (by omega), f1 k hk]⟩

/-- no complex holds a cell -/
def Zc (A : mm_A) : Prop := ∀ c, 0 ≤ c → c < 4 → Xn (AK A c) = 0
def W16z (A : mm_A) (c d i : Int) : Int := if (0 ≤ c ∧ c < 4) ∧ (0 ≤ d ∧ d ≤ 4) ∧ 0 ≤ i then (if Xfb (AK A c) = 0 then (if i = 0 then 0 else -3) else -4) else -1
def W17z (A : mm_A) (c w l d i : Int) : Int := if (0 ≤ c ∧ c < 4) ∧ (0 ≤ w ∧ w ≤ 1) ∧ (0 ≤ l ∧ l ≤ 9) ∧ (0 ≤ d ∧ d ≤ 4) ∧ 0 ≤ i then (if Xfb (AK A c) = 0 then (if i = 0 then 0 else -3) else -4) else -1

set_option maxRecDepth 20000 in
set_option maxHeartbeats 4000000 in
theorem c_M_whole (S : mm_S) (A : mm_A) (hRR : RR S A) (hV : Vs A) (c d i : Int) (hi : mm_r32 i) : Cl 94 [(2, 71), (0, c), (0, d), (0, i)] S (fun vv S' => ∃ z, vv = some (0, z) ∧ (Zc A → z = W16z A c d i) ∧ RR S' A ∧ ∀ b, ¬ (71 ≤ b ∧ b < 91) → S' b = S b) := by
  refine ⟨Nat.le_of_ble_eq_true rfl, ?_⟩
  show Rn k_M_whole 0 [(2, 71), (0, c), (0, d), (0, i)] [] S _
  refine R_lo (nx := 1) rfl rfl rfl rfl ?_
  refine R_call1 (nx := 4) (as := [(0, c)]) (rest := []) rfl rfl (fun _ _ => rfl) rfl rfl rfl rfl rfl rfl rfl rfl (Cl.mono (c_M_isComplex S c) ?_)
  rintro _ _ (⟨rfl, b1, rfl⟩ | ⟨rfl, b1, rfl⟩)
  ·
    try have k1 := hRR.k b1.1 b1.2
    try have n1 := k1.n
    try have z1 := k1.1.nr
    try have v1 := hV.1 _ b1.1 b1.2
    try have r1 := v1.2.1
    refine ⟨_, rfl, ?_⟩
    refine R_ifF (nx := 7) rfl rfl rfl ?_
    refine R_lo (nx := 8) rfl rfl rfl rfl ?_
    refine R_op (nx := 9) rfl rfl rfl ?_
    refine R_op (nx := 10) rfl rfl rfl ?_
    refine R_call1 (nx := 13) (as := [(0, d), (0, 0), (0, 4)]) (rest := []) rfl rfl (fun _ _ => rfl) rfl rfl rfl rfl rfl rfl rfl rfl (Cl.mono (c_M_in S d 0 4) ?_)
    rintro _ _ (⟨rfl, b10, rfl⟩ | ⟨rfl, b10, rfl⟩)
    ·
      refine ⟨_, rfl, ?_⟩
      refine R_ifF (nx := 16) rfl rfl rfl ?_
      refine R_lo (nx := 17) rfl rfl rfl rfl ?_
      refine R_if (nx := 20) (tg := 22) rfl rfl rfl (mm_cnd_ge _ _) (fun c17 => ?_) (fun c17 => ?_)
      ·
        refine R_lo (nx := 23) rfl rfl rfl rfl ?_
        refine R_lo (nx := 24) rfl rfl rfl rfl ?_
        refine R_call1 (nx := 27) (as := [(2, 71), (0, c)]) (rest := []) rfl rfl (fun _ _ => rfl) rfl rfl rfl rfl rfl rfl rfl rfl (Cl.mono (c_M_brokenAt S c (by omega) (AK A c) (show MR S c (AK A c) by first | assumption | exact MR.up (by assumption) (by omega) | exact MR.up (MR.up (by assumption) (by omega)) (by omega) | exact MR.up (MR.up (MR.up (by assumption) (by omega)) (by omega)) (by omega)) (by assumption)) ?_)
        rintro _ _ ⟨rfl, rfl⟩
        refine ⟨_, rfl, ?_⟩
        refine R_if (nx := 30) (tg := 35) rfl rfl rfl (mm_cnd_eq _ _) (fun c27 => ?_) (fun c27 => ?_)
        ·
          refine R_lo (nx := 36) rfl rfl rfl rfl ?_
          refine R_lo (nx := 37) rfl rfl rfl rfl ?_
          refine R_lo (nx := 38) rfl rfl rfl rfl ?_
          refine R_op (nx := 39) rfl rfl rfl ?_
          refine R_op (nx := 40) rfl rfl rfl ?_
          refine R_lo (nx := 41) rfl rfl rfl rfl ?_
          refine R_call1 (nx := 44) (as := [(2, 71), (0, c), (0, d), (0, (-1)), (0, 0), (0, i)]) (rest := []) rfl rfl (fun _ _ => rfl) rfl rfl rfl rfl rfl rfl rfl rfl (Cl.mono (c_M_wholeOf S c (by omega) (AK A c) k1 r1 d (-1) 0 i (by omega) (by omega) ⟨by omega, hi⟩) ?_)
          rintro _ S9 ⟨z9, rfl, g9, F9, f9⟩
          refine ⟨_, rfl, ?_⟩
          refine R_ret rfl (fun _ _ => rfl) rfl rfl ?_
          first | exact ⟨_, rfl, fun e => by unfold W16z; first | rw [if_neg (by omega)] | rw [if_pos (by omega), if_neg (by omega)] | (rw [if_pos (by omega), if_pos (by omega)]; exact g9 (e c (by omega) (by omega))), hRR, fun b _ => rfl⟩ | exact ⟨_, rfl, fun e => by unfold W16z; first | rw [if_neg (by omega)] | rw [if_pos (by omega), if_neg (by omega)] | (rw [if_pos (by omega), if_pos (by omega)]; exact g9 (e c (by omega) (by omega))), hRR.fr ⟨f9 8 (by omega), ⟨f9 9 (by omega), f9 10 (by omega), f9 11 (by omega)⟩, f9 21 (by omega)⟩ (fun b hb => F9 b (by omega)), fun b hb => F9 b (by omega)⟩
        ·
          refine R_op (nx := 32) rfl rfl rfl ?_
          refine R_op (nx := 35) (pc' := 44) rfl rfl rfl ?_
          refine R_ret rfl (fun _ _ => rfl) rfl rfl ?_
          first | exact ⟨_, rfl, fun e => by unfold W16z; first | rw [if_neg (by omega)] | rw [if_pos (by omega), if_neg (by omega)] | (rw [if_pos (by omega), if_pos (by omega)]; exact g9 (e c (by omega) (by omega))), hRR, fun b _ => rfl⟩ | exact ⟨_, rfl, fun e => by unfold W16z; first | rw [if_neg (by omega)] | rw [if_pos (by omega), if_neg (by omega)] | (rw [if_pos (by omega), if_pos (by omega)]; exact g9 (e c (by omega) (by omega))), hRR.fr ⟨f9 8 (by omega), ⟨f9 9 (by omega), f9 10 (by omega), f9 11 (by omega)⟩, f9 21 (by omega)⟩ (fun b hb => F9 b (by omega)), fun b hb => F9 b (by omega)⟩
      ·
        refine R_op (nx := 21) rfl rfl rfl ?_
        refine R_ret rfl (fun _ _ => rfl) rfl rfl ?_
        first | exact ⟨_, rfl, fun e => by unfold W16z; first | rw [if_neg (by omega)] | rw [if_pos (by omega), if_neg (by omega)] | (rw [if_pos (by omega), if_pos (by omega)]; exact g9 (e c (by omega) (by omega))), hRR, fun b _ => rfl⟩ | exact ⟨_, rfl, fun e => by unfold W16z; first | rw [if_neg (by omega)] | rw [if_pos (by omega), if_neg (by omega)] | (rw [if_pos (by omega), if_pos (by omega)]; exact g9 (e c (by omega) (by omega))), hRR.fr ⟨f9 8 (by omega), ⟨f9 9 (by omega), f9 10 (by omega), f9 11 (by omega)⟩, f9 21 (by omega)⟩ (fun b hb => F9 b (by omega)), fun b hb => F9 b (by omega)⟩
    ·
      refine ⟨_, rfl, ?_⟩
      refine R_ifT (tg := 20) rfl rfl rfl ?_
      refine R_op (nx := 21) rfl rfl rfl ?_
      refine R_ret rfl (fun _ _ => rfl) rfl rfl ?_
      first | exact ⟨_, rfl, fun e => by unfold W16z; first | rw [if_neg (by omega)] | rw [if_pos (by omega), if_neg (by omega)] | (rw [if_pos (by omega), if_pos (by omega)]; exact g9 (e c (by omega) (by omega))), hRR, fun b _ => rfl⟩ | exact ⟨_, rfl, fun e => by unfold W16z; first | rw [if_neg (by omega)] | rw [if_pos (by omega), if_neg (by omega)] | (rw [if_pos (by omega), if_pos (by omega)]; exact g9 (e c (by omega) (by omega))), hRR.fr ⟨f9 8 (by omega), ⟨f9 9 (by omega), f9 10 (by omega), f9 11 (by omega)⟩, f9 21 (by omega)⟩ (fun b hb => F9 b (by omega)), fun b hb => F9 b (by omega)⟩
  ·
    try have k1 := hRR.k b1.1 b1.2
    try have n1 := k1.n
    try have z1 := k1.1.nr
    try have v1 := hV.1 _ b1.1 b1.2
    try have r1 := v1.2.1
    refine ⟨_, rfl, ?_⟩
    refine R_ifT (tg := 20) rfl rfl rfl ?_
    refine R_op (nx := 21) rfl rfl rfl ?_
    refine R_ret rfl (fun _ _ => rfl) rfl rfl ?_
    first | exact ⟨_, rfl, fun e => by unfold W16z; first | rw [if_neg (by omega)] | rw [if_pos (by omega), if_neg (by omega)] | (rw [if_pos (by omega), if_pos (by omega)]; exact g9 (e c (by omega) (by omega))), hRR, fun b _ => rfl⟩ | exact ⟨_, rfl, fun e => by unfold W16z; first | rw [if_neg (by omega)] | rw [if_pos (by omega), if_neg (by omega)] | (rw [if_pos (by omega), if_pos (by omega)]; exact g9 (e c (by omega) (by omega))), hRR.fr ⟨f9 8 (by omega), ⟨f9 9 (by omega), f9 10 (by omega), f9 11 (by omega)⟩, f9 21 (by omega)⟩ (fun b hb => F9 b (by omega)), fun b hb => F9 b (by omega)⟩

set_option maxRecDepth 20000 in
set_option maxHeartbeats 4000000 in
theorem c_M_wholeAt (S : mm_S) (A : mm_A) (hRR : RR S A) (hV : Vs A) (c w l d i : Int) (hi : mm_r32 i) : Cl 95 [(2, 71), (0, c), (0, w), (0, l), (0, d), (0, i)] S (fun vv S' => ∃ z, vv = some (0, z) ∧ (Zc A → z = W17z A c w l d i) ∧ RR S' A ∧ ∀ b, ¬ (71 ≤ b ∧ b < 91) → S' b = S b) := by
  refine ⟨Nat.le_of_ble_eq_true rfl, ?_⟩
  show Rn k_M_wholeAt 0 [(2, 71), (0, c), (0, w), (0, l), (0, d), (0, i)] [] S _
  refine R_lo (nx := 1) rfl rfl rfl rfl ?_
  refine R_call1 (nx := 4) (as := [(0, c)]) (rest := []) rfl rfl (fun _ _ => rfl) rfl rfl rfl rfl rfl rfl rfl rfl (Cl.mono (c_M_isComplex S c) ?_)
  rintro _ _ (⟨rfl, b1, rfl⟩ | ⟨rfl, b1, rfl⟩)
  ·
    try have k1 := hRR.k b1.1 b1.2
    try have n1 := k1.n
    try have z1 := k1.1.nr
    try have v1 := hV.1 _ b1.1 b1.2
    try have r1 := v1.2.1
    refine ⟨_, rfl, ?_⟩
    refine R_ifF (nx := 7) rfl rfl rfl ?_
    refine R_lo (nx := 8) rfl rfl rfl rfl ?_
    refine R_op (nx := 9) rfl rfl rfl ?_
    refine R_op (nx := 10) rfl rfl rfl ?_
    refine R_call1 (nx := 13) (as := [(0, w), (0, 0), (0, 1)]) (rest := []) rfl rfl (fun _ _ => rfl) rfl rfl rfl rfl rfl rfl rfl rfl (Cl.mono (c_M_in S w 0 1) ?_)
    rintro _ _ (⟨rfl, b10, rfl⟩ | ⟨rfl, b10, rfl⟩)
    ·
      refine ⟨_, rfl, ?_⟩
      refine R_ifF (nx := 16) rfl rfl rfl ?_
      refine R_lo (nx := 17) rfl rfl rfl rfl ?_
      refine R_op (nx := 18) rfl rfl rfl ?_
      refine R_op (nx := 20) rfl rfl rfl ?_
      refine R_call1 (nx := 23) (as := [(0, l), (0, 0), (0, 9)]) (rest := []) rfl rfl (fun _ _ => rfl) rfl rfl rfl rfl rfl rfl rfl rfl (Cl.mono (c_M_in S l 0 9) ?_)
      rintro _ _ (⟨rfl, b20, rfl⟩ | ⟨rfl, b20, rfl⟩)
      ·
        refine ⟨_, rfl, ?_⟩
        refine R_ifF (nx := 26) rfl rfl rfl ?_
        refine R_lo (nx := 28) rfl rfl rfl rfl ?_
        refine R_op (nx := 29) rfl rfl rfl ?_
        refine R_op (nx := 30) rfl rfl rfl ?_
        refine R_call1 (nx := 33) (as := [(0, d), (0, 0), (0, 4)]) (rest := []) rfl rfl (fun _ _ => rfl) rfl rfl rfl rfl rfl rfl rfl rfl (Cl.mono (c_M_in S d 0 4) ?_)
        rintro _ _ (⟨rfl, b30, rfl⟩ | ⟨rfl, b30, rfl⟩)
        ·
          refine ⟨_, rfl, ?_⟩
          refine R_ifF (nx := 36) rfl rfl rfl ?_
          refine R_lo (nx := 38) rfl rfl rfl rfl ?_
          refine R_if (nx := 41) (tg := 43) rfl rfl rfl (mm_cnd_ge _ _) (fun c38 => ?_) (fun c38 => ?_)
          ·
            refine R_lo (nx := 44) rfl rfl rfl rfl ?_
            refine R_lo (nx := 45) rfl rfl rfl rfl ?_
            refine R_call1 (nx := 48) (as := [(2, 71), (0, c)]) (rest := []) rfl rfl (fun _ _ => rfl) rfl rfl rfl rfl rfl rfl rfl rfl (Cl.mono (c_M_brokenAt S c (by omega) (AK A c) (show MR S c (AK A c) by first | assumption | exact MR.up (by assumption) (by omega) | exact MR.up (MR.up (by assumption) (by omega)) (by omega) | exact MR.up (MR.up (MR.up (by assumption) (by omega)) (by omega)) (by omega)) (by assumption)) ?_)
            rintro _ _ ⟨rfl, rfl⟩
            refine ⟨_, rfl, ?_⟩
            refine R_if (nx := 51) (tg := 56) rfl rfl rfl (mm_cnd_eq _ _) (fun c48 => ?_) (fun c48 => ?_)
            ·
              refine R_lo (nx := 57) rfl rfl rfl rfl ?_
              refine R_lo (nx := 58) rfl rfl rfl rfl ?_
              refine R_lo (nx := 60) rfl rfl rfl rfl ?_
              refine R_lo (nx := 61) rfl rfl rfl rfl ?_
              refine R_lo (nx := 62) rfl rfl rfl rfl ?_
              refine R_lo (nx := 64) rfl rfl rfl rfl ?_
              refine R_call1 (nx := 67) (as := [(2, 71), (0, c), (0, d), (0, w), (0, l), (0, i)]) (rest := []) rfl rfl (fun _ _ => rfl) rfl rfl rfl rfl rfl rfl rfl rfl (Cl.mono (c_M_wholeOf S c (by omega) (AK A c) k1 r1 d w l i (by omega) (by omega) ⟨by omega, hi⟩) ?_)
              rintro _ S9 ⟨z9, rfl, g9, F9, f9⟩
              refine ⟨_, rfl, ?_⟩
              refine R_ret rfl (fun _ _ => rfl) rfl rfl ?_
              first | exact ⟨_, rfl, fun e => by unfold W17z; first | rw [if_neg (by omega)] | rw [if_pos (by omega), if_neg (by omega)] | (rw [if_pos (by omega), if_pos (by omega)]; exact g9 (e c (by omega) (by omega))), hRR, fun b _ => rfl⟩ | exact ⟨_, rfl, fun e => by unfold W17z; first | rw [if_neg (by omega)] | rw [if_pos (by omega), if_neg (by omega)] | (rw [if_pos (by omega), if_pos (by omega)]; exact g9 (e c (by omega) (by omega))), hRR.fr ⟨f9 8 (by omega), ⟨f9 9 (by omega), f9 10 (by omega), f9 11 (by omega)⟩, f9 21 (by omega)⟩ (fun b hb => F9 b (by omega)), fun b hb => F9 b (by omega)⟩
            ·
              refine R_op (nx := 53) rfl rfl rfl ?_
              refine R_op (nx := 56) (pc' := 67) rfl rfl rfl ?_
              refine R_ret rfl (fun _ _ => rfl) rfl rfl ?_
              first | exact ⟨_, rfl, fun e => by unfold W17z; first | rw [if_neg (by omega)] | rw [if_pos (by omega), if_neg (by omega)] | (rw [if_pos (by omega), if_pos (by omega)]; exact g9 (e c (by omega) (by omega))), hRR, fun b _ => rfl⟩ | exact ⟨_, rfl, fun e => by unfold W17z; first | rw [if_neg (by omega)] | rw [if_pos (by omega), if_neg (by omega)] | (rw [if_pos (by omega), if_pos (by omega)]; exact g9 (e c (by omega) (by omega))), hRR.fr ⟨f9 8 (by omega), ⟨f9 9 (by omega), f9 10 (by omega), f9 11 (by omega)⟩, f9 21 (by omega)⟩ (fun b hb => F9 b (by omega)), fun b hb => F9 b (by omega)⟩
          ·
            refine R_op (nx := 42) rfl rfl rfl ?_
            refine R_ret rfl (fun _ _ => rfl) rfl rfl ?_
            first | exact ⟨_, rfl, fun e => by unfold W17z; first | rw [if_neg (by omega)] | rw [if_pos (by omega), if_neg (by omega)] | (rw [if_pos (by omega), if_pos (by omega)]; exact g9 (e c (by omega) (by omega))), hRR, fun b _ => rfl⟩ | exact ⟨_, rfl, fun e => by unfold W17z; first | rw [if_neg (by omega)] | rw [if_pos (by omega), if_neg (by omega)] | (rw [if_pos (by omega), if_pos (by omega)]; exact g9 (e c (by omega) (by omega))), hRR.fr ⟨f9 8 (by omega), ⟨f9 9 (by omega), f9 10 (by omega), f9 11 (by omega)⟩, f9 21 (by omega)⟩ (fun b hb => F9 b (by omega)), fun b hb => F9 b (by omega)⟩
        ·
          refine ⟨_, rfl, ?_⟩
          refine R_ifT (tg := 41) rfl rfl rfl ?_
          refine R_op (nx := 42) rfl rfl rfl ?_
          refine R_ret rfl (fun _ _ => rfl) rfl rfl ?_
          first | exact ⟨_, rfl, fun e => by unfold W17z; first | rw [if_neg (by omega)] | rw [if_pos (by omega), if_neg (by omega)] | (rw [if_pos (by omega), if_pos (by omega)]; exact g9 (e c (by omega) (by omega))), hRR, fun b _ => rfl⟩ | exact ⟨_, rfl, fun e => by unfold W17z; first | rw [if_neg (by omega)] | rw [if_pos (by omega), if_neg (by omega)] | (rw [if_pos (by omega), if_pos (by omega)]; exact g9 (e c (by omega) (by omega))), hRR.fr ⟨f9 8 (by omega), ⟨f9 9 (by omega), f9 10 (by omega), f9 11 (by omega)⟩, f9 21 (by omega)⟩ (fun b hb => F9 b (by omega)), fun b hb => F9 b (by omega)⟩
      ·
        refine ⟨_, rfl, ?_⟩
        refine R_ifT (tg := 41) rfl rfl rfl ?_
        refine R_op (nx := 42) rfl rfl rfl ?_
        refine R_ret rfl (fun _ _ => rfl) rfl rfl ?_
        first | exact ⟨_, rfl, fun e => by unfold W17z; first | rw [if_neg (by omega)] | rw [if_pos (by omega), if_neg (by omega)] | (rw [if_pos (by omega), if_pos (by omega)]; exact g9 (e c (by omega) (by omega))), hRR, fun b _ => rfl⟩ | exact ⟨_, rfl, fun e => by unfold W17z; first | rw [if_neg (by omega)] | rw [if_pos (by omega), if_neg (by omega)] | (rw [if_pos (by omega), if_pos (by omega)]; exact g9 (e c (by omega) (by omega))), hRR.fr ⟨f9 8 (by omega), ⟨f9 9 (by omega), f9 10 (by omega), f9 11 (by omega)⟩, f9 21 (by omega)⟩ (fun b hb => F9 b (by omega)), fun b hb => F9 b (by omega)⟩
    ·
      refine ⟨_, rfl, ?_⟩
      refine R_ifT (tg := 41) rfl rfl rfl ?_
      refine R_op (nx := 42) rfl rfl rfl ?_
      refine R_ret rfl (fun _ _ => rfl) rfl rfl ?_
      first | exact ⟨_, rfl, fun e => by unfold W17z; first | rw [if_neg (by omega)] | rw [if_pos (by omega), if_neg (by omega)] | (rw [if_pos (by omega), if_pos (by omega)]; exact g9 (e c (by omega) (by omega))), hRR, fun b _ => rfl⟩ | exact ⟨_, rfl, fun e => by unfold W17z; first | rw [if_neg (by omega)] | rw [if_pos (by omega), if_neg (by omega)] | (rw [if_pos (by omega), if_pos (by omega)]; exact g9 (e c (by omega) (by omega))), hRR.fr ⟨f9 8 (by omega), ⟨f9 9 (by omega), f9 10 (by omega), f9 11 (by omega)⟩, f9 21 (by omega)⟩ (fun b hb => F9 b (by omega)), fun b hb => F9 b (by omega)⟩
  ·
    try have k1 := hRR.k b1.1 b1.2
    try have n1 := k1.n
    try have z1 := k1.1.nr
    try have v1 := hV.1 _ b1.1 b1.2
    try have r1 := v1.2.1
    refine ⟨_, rfl, ?_⟩
    refine R_ifT (tg := 41) rfl rfl rfl ?_
    refine R_op (nx := 42) rfl rfl rfl ?_
    refine R_ret rfl (fun _ _ => rfl) rfl rfl ?_
    first | exact ⟨_, rfl, fun e => by unfold W17z; first | rw [if_neg (by omega)] | rw [if_pos (by omega), if_neg (by omega)] | (rw [if_pos (by omega), if_pos (by omega)]; exact g9 (e c (by omega) (by omega))), hRR, fun b _ => rfl⟩ | exact ⟨_, rfl, fun e => by unfold W17z; first | rw [if_neg (by omega)] | rw [if_pos (by omega), if_neg (by omega)] | (rw [if_pos (by omega), if_pos (by omega)]; exact g9 (e c (by omega) (by omega))), hRR.fr ⟨f9 8 (by omega), ⟨f9 9 (by omega), f9 10 (by omega), f9 11 (by omega)⟩, f9 21 (by omega)⟩ (fun b hb => F9 b (by omega)), fun b hb => F9 b (by omega)⟩
