/-! Reduction, as the class does it: row by row. -/
theorem la_cg {K : CX} {w : Int} {f g : Int → Int} (hn : 0 ≤ Xn K) (h : ∀ y, 0 ≤ y → y < Xn K → f y = g y) : la K w f = la K w g := by
  rcases la_sp w f hn with ⟨a, b⟩ | ⟨a, b, c⟩
  · rw [a]
    exact (la_0 hn fun y y0 y1 => by rw [← h y y0 y1]; exact b y y0 y1).symm
  · exact (isL_u hn ⟨a, by rw [← h _ a.1 a.2]; exact b, fun y y0 y1 q => by rw [← h y y0 y1]; exact c y y0 y1 q⟩).symm

set_option maxRecDepth 20000 in
set_option maxHeartbeats 4000000 in
theorem c_Rd_reduce (S : mm_S) (a : Int) (hC : mm_isC a) (K : CX) (hM : MC S a K) (w p : Int) (hV : Vx K) (hw : w = 0 ∨ w = 1) (hp : Xpr p) (h80 : S 8 0 = a) (h81 : S 8 1 = w) (h82 : S 8 2 = p) (x i : Int) (hx : 0 ≤ x ∧ x < Xn K) (hi : rk K w x = i) (R : Int → Int → Int) (O : Int → Int) (ha : IVa K w p i R O) (hb : IVb K w p i R O) (hO : ∀ k, 0 ≤ k → k < Xn K → S 9 k = od K w k) (h10 : ∀ z, 0 ≤ z → z < Xn K → rk K w z < i → ∀ y, 0 ≤ y → y < Xn K → S 10 (z * 12 + y) = R z y) (h11 : ∀ z, 0 ≤ z → z < Xn K → rk K w z < i → S 11 z = cl3 (la K w (R z))) (h12 : ∀ z, 0 ≤ z → z < Xn K → S 12 z = cl3 (O z)) : Cl 155 [(2, 8), (0, x)] S (fun v S' => v = none ∧ ∃ r, red K w p R O (R x) = r ∧ (∀ z, 0 ≤ z → z < Xn K → rk K w z < i + 1 → ∀ y, 0 ≤ y → y < Xn K → S' 10 (z * 12 + y) = (if z = x then r else R z) y) ∧ (∀ z, 0 ≤ z → z < Xn K → rk K w z < i + 1 → S' 11 z = cl3 (la K w (if z = x then r else R z))) ∧ (∀ z, 0 ≤ z → z < Xn K → S' 12 z = cl3 ((if la K w r = -1 then O else fun m => if m = la K w r then x else O m) z)) ∧ ∀ b, ¬ (10 ≤ b ∧ b ≤ 12) → S' b = S b) := by
  refine ⟨Nat.le_of_ble_eq_true rfl, ?_⟩
  show Rn k_Rd_reduce 0 [(2, 8), (0, x), (9, 0), (9, 0)] [] S _
  have hnr := hV.1.1
  have hR := hV.2.1
  have hpb := pr_b hp
  have hout := isC_out hC
  refine R_op (nx := 1) rfl rfl rfl ?_
  refine R_lo (nx := 2) (ls' := [(2, 8), (0, x), (0, 0), (9, 0)]) rfl rfl rfl rfl ?_
  have L2 : ∀ (f2 : Nat) (S1 : mm_S) (y : Int), (Xn K - y).toNat < f2 → (0 ≤ y ∧ y ≤ Xn K) → (∀ j, S1 10 j = if x * 12 ≤ j ∧ j < x * 12 + y then Xe K x (j - x * 12) % p else S 10 j) → (∀ b, b ≠ 10 → S1 b = S b) → Rn k_Rd_reduce 2 [(2, 8), (0, x), (0, y), (9, 0)] [] S1 (fun v S' => v = none ∧ ∃ r, red K w p R O (R x) = r ∧ (∀ z, 0 ≤ z → z < Xn K → rk K w z < i + 1 → ∀ y, 0 ≤ y → y < Xn K → S' 10 (z * 12 + y) = (if z = x then r else R z) y) ∧ (∀ z, 0 ≤ z → z < Xn K → rk K w z < i + 1 → S' 11 z = cl3 (la K w (if z = x then r else R z))) ∧ (∀ z, 0 ≤ z → z < Xn K → S' 12 z = cl3 ((if la K w r = -1 then O else fun m => if m = la K w r then x else O m) z)) ∧ ∀ b, ¬ (10 ≤ b ∧ b ≤ 12) → S' b = S b) := by
    intro f2
    induction f2 with
    | zero => intro S1 y hm2; exact absurd hm2 (Nat.not_lt_zero _)
    | succ f2 ih2 =>
      intro S1 y hm2 hy h1 hF
      have k80 : S1 8 0 = a := by rw [hF 8 (by decide)]; exact h80
      have k81 : S1 8 1 = w := by rw [hF 8 (by decide)]; exact h81
      have k82 : S1 8 2 = p := by rw [hF 8 (by decide)]; exact h82
      have m1 : MC S1 a K := hM.fr fun c q r => hF c (by omega)
      have rxy := hR.e x y
      refine R_lo (nx := 3) rfl rfl rfl rfl ?_
      refine R_lo (nx := 4) rfl rfl rfl rfl ?_
      refine R_get (nx := 7) (w := (2, a)) rfl rfl rfl (congrArg (Prod.mk 2) (by assumption)) ?_
      refine R_get (nx := 10) (w := (0, (S1 a 0))) rfl rfl (isC_ob hC) rfl ?_
      rw [show (S1 a 0) = Xn K from (by assumption : MC _ a K).n]
      refine R_icmp (nx := 13) (tg := 45) rfl rfl rfl (mm_cnd_ge _ _) (fun c10 => ?_) (fun c10 => ?_)
      ·
        have hOr : ∀ k, 0 ≤ k → k < Xn K → S1 9 k = od K w k := fun k k0 k1 => by rw [hF 9 (by decide)]; exact hO k k0 k1
        refine R_lo (nx := 46) rfl rfl rfl rfl ?_
        refine R_lo (nx := 47) rfl rfl rfl rfl ?_
        refine R_call1 (nx := 50) (as := [(2, 8), (0, x)]) (rest := []) rfl rfl (fun _ _ => rfl) rfl rfl rfl rfl rfl rfl rfl rfl (Cl.mono (c_Rd_lastOf S1 a hC K (by first | assumption | exact MC.up (by assumption) (by omega) | exact MC.up (MC.up (by assumption) (by omega)) (by omega) | exact MC.up (MC.up (MC.up (by assumption) (by omega)) (by omega)) (by omega)) w p hV hw hp (by assumption) (by assumption) (by assumption) x (by omega) (by assumption)) ?_)
        rintro _ _ (⟨rfl, b47, rfl⟩ | ⟨rfl, b47, rfl⟩)
        ·
          refine ⟨_, rfl, ?_⟩
          have e0 : la K w (fun y => S1 10 (x * 12 + y)) = la K w (R x) := la_cg hnr.1 fun y y0 y1 => by rw [h1 (x * 12 + y), if_pos (by omega), ha.2.2.2.2 x hx.1 hx.2 (by omega) y, show x * 12 + y - x * 12 = y by omega]
          refine R_cv (w := (cl3 (la K w (R x)))) (by first | (rw [← e0]; exact (cl3_n b47).symm) | (rw [← e0, b47]; rfl)) ?_
          refine R_lo (nx := 51) (ls' := [(2, 8), (0, x), (0, (cl3 (la K w (R x)))), (9, 0)]) rfl rfl rfl rfl ?_
          refine R_op (nx := 52) rfl rfl rfl ?_
          refine R_lo (nx := 53) (ls' := [(2, 8), (0, x), (0, (cl3 (la K w (R x)))), (0, 0)]) rfl rfl rfl rfl ?_
          have L53 : ∀ (f53 : Nat) (S2 : mm_S) (r : Int → Int) (rd : Int), ((12 : Int) - rd).toNat < f53 → (0 ≤ rd ∧ rd + (mre K w r : Int) ≤ 12) → (PR K w p x r) → (∀ y, 0 ≤ y → y < Xn K → S2 10 (x * 12 + y) = r y) → (∀ j, ¬ (x * 12 ≤ j ∧ j < x * 12 + Xn K) → S2 10 j = S 10 j) → (∀ b, b ≠ 10 → S2 b = S b) → (red K w p R O (R x) = red K w p R O r) → Rn k_Rd_reduce 53 [(2, 8), (0, x), (0, (cl3 (la K w r))), (0, rd)] [] S2 (fun v S' => v = none ∧ ∃ r, red K w p R O (R x) = r ∧ (∀ z, 0 ≤ z → z < Xn K → rk K w z < i + 1 → ∀ y, 0 ≤ y → y < Xn K → S' 10 (z * 12 + y) = (if z = x then r else R z) y) ∧ (∀ z, 0 ≤ z → z < Xn K → rk K w z < i + 1 → S' 11 z = cl3 (la K w (if z = x then r else R z))) ∧ (∀ z, 0 ≤ z → z < Xn K → S' 12 z = cl3 ((if la K w r = -1 then O else fun m => if m = la K w r then x else O m) z)) ∧ ∀ b, ¬ (10 ≤ b ∧ b ≤ 12) → S' b = S b) := by
            intro f53
            induction f53 with
            | zero => intro S2 r rd hm53; exact absurd hm53 (Nat.not_lt_zero _)
            | succ f53 ih53 =>
              intro S2 r rd hm53 hrd hr hrow hoth hF2 hred
              have j80 : S2 8 0 = a := by rw [hF2 8 (by decide)]; exact h80
              have j81 : S2 8 1 = w := by rw [hF2 8 (by decide)]; exact h81
              have j82 : S2 8 2 = p := by rw [hF2 8 (by decide)]; exact h82
              have m2 : MC S2 a K := hM.fr fun c q r => hF2 c (by omega)
              have hOr : ∀ k, 0 ≤ k → k < Xn K → S2 9 k = od K w k := fun k k0 k1 => by rw [hF2 9 (by decide)]; exact hO k k0 k1
              refine R_lo (nx := 54) rfl rfl rfl rfl ?_
              refine R_op (nx := 56) rfl rfl rfl ?_
              refine R_icmp (nx := 59) (tg := 104) rfl rfl rfl (mm_cnd_ge _ _) (fun c56 => ?_) (fun c56 => ?_)
              ·
                have el : la K w r = -1 := Classical.byContradiction fun q => by
                  have hz : mre K w r = (rk K w (la K w r)).toNat + 1 := if_neg q
                  omega
                rw [show cl3 (la K w r) = -3 from by rw [el]; rfl]
                refine R_lo (nx := 105) rfl rfl rfl rfl ?_
                refine R_get (nx := 108) (w := (2, 11)) rfl rfl rfl rfl ?_
                refine R_lo (nx := 109) rfl rfl rfl rfl ?_
                refine R_lo (nx := 110) rfl rfl rfl rfl ?_
                refine R_call0 (nx := 113) (as := [(2, 11), (0, x), (0, (-3))]) (rest := []) rfl rfl (fun _ _ => rfl) rfl rfl rfl rfl rfl rfl rfl rfl (Cl.mono (c_P_set S2 11 12 ⟨by decide, rfl⟩ (by decide) x (-3) ⟨by omega, by omega⟩) ?_)
                rintro _ _ ⟨rfl, rfl⟩
                refine ⟨rfl, ?_⟩
                refine R_lo (nx := 114) rfl rfl rfl rfl ?_
                refine R_op (nx := 116) rfl rfl rfl ?_
                refine R_icmpT (tg := 128) rfl rfl rfl ?_
                refine R_ret rfl (fun _ _ => rfl) rfl rfl ?_
                refine ⟨rfl, r, hred.trans (red_d hp hnr.1 ha hb hi hr (Or.inl el)), fun z z0 z1 q y y0 y1 => ?_, fun z z0 z1 q => ?_, fun z z0 z1 => ?_, fun b hb2 => ?_⟩
                · rw [mm_unq (by decide)]
                  by_cases e : z = x
                  · subst e; rw [if_pos rfl]; exact hrow y y0 y1
                  · rw [if_neg e, hoth _ (by omega)]
                    exact h10 z z0 z1 (by have := rk_ne (w := w) ⟨z0, z1⟩ hx e; omega) y y0 y1
                · skip
                  by_cases e : z = x
                  · subst e; rw [if_pos rfl, mm_ua, el]; rfl
                  · rw [if_neg e, mm_uk e, hF2 11 (by decide)]
                    exact h11 z z0 z1 (by have := rk_ne (w := w) ⟨z0, z1⟩ hx e; omega)
                · rw [mm_unq (by decide), hF2 12 (by decide), if_pos el]; exact h12 z z0 z1
                · rw [mm_unq (by omega), hF2 b (by omega)]
              ·
                refine R_lo (nx := 60) rfl rfl rfl rfl ?_
                refine R_op (nx := 62) rfl rfl rfl ?_
                refine R_icmp (nx := 65) (tg := 104) rfl rfl rfl (mm_cnd_eq _ _) (fun c62 => ?_) (fun c62 => ?_)
                ·
                  have el : la K w r = -1 := (cl3_3 (by rcases la_sp w r hnr.1 with h | h; exact Or.inl h.1; exact Or.inr h.1.1)).mp c62
                  rw [show cl3 (la K w r) = -3 from by rw [el]; rfl]
                  refine R_lo (nx := 105) rfl rfl rfl rfl ?_
                  refine R_get (nx := 108) (w := (2, 11)) rfl rfl rfl rfl ?_
                  refine R_lo (nx := 109) rfl rfl rfl rfl ?_
                  refine R_lo (nx := 110) rfl rfl rfl rfl ?_
                  refine R_call0 (nx := 113) (as := [(2, 11), (0, x), (0, (-3))]) (rest := []) rfl rfl (fun _ _ => rfl) rfl rfl rfl rfl rfl rfl rfl rfl (Cl.mono (c_P_set S2 11 12 ⟨by decide, rfl⟩ (by decide) x (-3) ⟨by omega, by omega⟩) ?_)
                  rintro _ _ ⟨rfl, rfl⟩
                  refine ⟨rfl, ?_⟩
                  refine R_lo (nx := 114) rfl rfl rfl rfl ?_
                  refine R_op (nx := 116) rfl rfl rfl ?_
                  refine R_icmpT (tg := 128) rfl rfl rfl ?_
                  refine R_ret rfl (fun _ _ => rfl) rfl rfl ?_
                  refine ⟨rfl, r, hred.trans (red_d hp hnr.1 ha hb hi hr (Or.inl el)), fun z z0 z1 q y y0 y1 => ?_, fun z z0 z1 q => ?_, fun z z0 z1 => ?_, fun b hb2 => ?_⟩
                  · rw [mm_unq (by decide)]
                    by_cases e : z = x
                    · subst e; rw [if_pos rfl]; exact hrow y y0 y1
                    · rw [if_neg e, hoth _ (by omega)]
                      exact h10 z z0 z1 (by have := rk_ne (w := w) ⟨z0, z1⟩ hx e; omega) y y0 y1
                  · skip
                    by_cases e : z = x
                    · subst e; rw [if_pos rfl, mm_ua, el]; rfl
                    · rw [if_neg e, mm_uk e, hF2 11 (by decide)]
                      exact h11 z z0 z1 (by have := rk_ne (w := w) ⟨z0, z1⟩ hx e; omega)
                  · rw [mm_unq (by decide), hF2 12 (by decide), if_pos el]; exact h12 z z0 z1
                  · rw [mm_unq (by omega), hF2 b (by omega)]
                ·
                  have hne : la K w r ≠ -1 := fun q => c62 (by rw [q]; rfl)
                  have hl := la_rng hnr.1 hne
                  have hlb := hl.1
                  rw [cl3_n hne]
                  refine R_lo (nx := 66) rfl rfl rfl rfl ?_
                  refine R_get (nx := 69) (w := (2, 12)) rfl rfl rfl rfl ?_
                  refine R_lo (nx := 70) rfl rfl rfl rfl ?_
                  refine R_call1 (nx := 73) (as := [(2, 12), (0, (la K w r))]) (rest := []) rfl rfl (fun _ _ => rfl) rfl rfl rfl rfl rfl rfl rfl rfl (Cl.mono (c_P_get_in S2 12 12 ⟨by decide, rfl⟩ (by decide) (la K w r) ⟨by omega, by omega⟩) ?_)
                  rintro _ _ ⟨rfl, rfl⟩
                  refine ⟨_, rfl, ?_⟩
                  rw [show S2 12 (la K w r) = cl3 (O (la K w r)) from by rw [hF2 12 (by decide)]; exact h12 _ hl.1.1 hl.1.2]
                  refine R_op (nx := 75) rfl rfl rfl ?_
                  refine R_icmp (nx := 78) (tg := 104) rfl rfl rfl (mm_cnd_eq _ _) (fun c75 => ?_) (fun c75 => ?_)
                  ·
                    have hno : O (la K w r) = -1 := (cl3_3 (by rcases ha.2.1 (la K w r) with h | h; exact Or.inl h; exact Or.inr h.1.1)).mp c75
                    refine R_lo (nx := 105) rfl rfl rfl rfl ?_
                    refine R_get (nx := 108) (w := (2, 11)) rfl rfl rfl rfl ?_
                    refine R_lo (nx := 109) rfl rfl rfl rfl ?_
                    refine R_lo (nx := 110) rfl rfl rfl rfl ?_
                    refine R_call0 (nx := 113) (as := [(2, 11), (0, x), (0, (la K w r))]) (rest := []) rfl rfl (fun _ _ => rfl) rfl rfl rfl rfl rfl rfl rfl rfl (Cl.mono (c_P_set S2 11 12 ⟨by decide, rfl⟩ (by decide) x (la K w r) ⟨by omega, by omega⟩) ?_)
                    rintro _ _ ⟨rfl, rfl⟩
                    refine ⟨rfl, ?_⟩
                    refine R_lo (nx := 114) rfl rfl rfl rfl ?_
                    refine R_op (nx := 116) rfl rfl rfl ?_
                    refine R_icmp (nx := 119) (tg := 128) rfl rfl rfl (mm_cnd_eq _ _) (fun c116 => ?_) (fun c116 => ?_)
                    ·
                      exfalso
                      omega
                    ·
                      refine R_lo (nx := 120) rfl rfl rfl rfl ?_
                      refine R_get (nx := 123) (w := (2, 12)) rfl rfl rfl rfl ?_
                      refine R_lo (nx := 124) rfl rfl rfl rfl ?_
                      refine R_lo (nx := 125) rfl rfl rfl rfl ?_
                      refine R_call0 (nx := 128) (as := [(2, 12), (0, (la K w r)), (0, x)]) (rest := []) rfl rfl (fun _ _ => rfl) rfl rfl rfl rfl rfl rfl rfl rfl (Cl.mono (c_P_set (mm_up S2 11 x (la K w r)) 12 12 ⟨by decide, rfl⟩ (by decide) (la K w r) x ⟨by omega, by omega⟩) ?_)
                      rintro _ _ ⟨rfl, rfl⟩
                      refine ⟨rfl, ?_⟩
                      refine R_ret rfl (fun _ _ => rfl) rfl rfl ?_
                      refine ⟨rfl, r, hred.trans (red_d hp hnr.1 ha hb hi hr (Or.inr hno)), fun z z0 z1 q y y0 y1 => ?_, fun z z0 z1 q => ?_, fun z z0 z1 => ?_, fun b hb2 => ?_⟩
                      · rw [mm_unq (by decide), mm_unq (by decide)]
                        by_cases e : z = x
                        · subst e; rw [if_pos rfl]; exact hrow y y0 y1
                        · rw [if_neg e, hoth _ (by omega)]
                          exact h10 z z0 z1 (by have := rk_ne (w := w) ⟨z0, z1⟩ hx e; omega) y y0 y1
                      · rw [mm_unq (by decide)]
                        by_cases e : z = x
                        · subst e; rw [if_pos rfl, mm_ua]; exact (cl3_n hne).symm
                        · rw [if_neg e, mm_uk e, hF2 11 (by decide)]
                          exact h11 z z0 z1 (by have := rk_ne (w := w) ⟨z0, z1⟩ hx e; omega)
                      · rw [if_neg hne]
                        by_cases e : z = la K w r
                        · rw [e, mm_ua, if_pos rfl]; exact (cl3_n (by omega)).symm
                        · rw [mm_uk e, mm_unq (by decide), hF2 12 (by decide), if_neg e]; exact h12 z z0 z1
                      · rw [mm_unq (by omega), mm_unq (by omega), hF2 b (by omega)]
                  ·
                    have hno : O (la K w r) ≠ -1 := fun q => c75 (by rw [q]; rfl)
                    have ho := (ha.2.1 (la K w r)).resolve_left hno
                    have psb := PR_sbr hp hnr.1 ha hb hi hr hne hno
                    have hxo : x ≠ O (la K w r) := fun q => by
                      have h1 := ho.2.1
                      rw [← q] at h1
                      omega
                    have hrwo : ∀ y, 0 ≤ y → y < Xn K → S2 10 (O (la K w r) * 12 + y) = R (O (la K w r)) y := fun y y0 y1 => by
                      have := ho.1
                      rw [hoth _ (by omega)]
                      exact h10 _ ho.1.1 ho.1.2 ho.2.1 y y0 y1
                    refine R_lo (nx := 79) rfl rfl rfl rfl ?_
                    refine R_lo (nx := 80) rfl rfl rfl rfl ?_
                    refine R_lo (nx := 81) rfl rfl rfl rfl ?_
                    refine R_get (nx := 84) (w := (2, 12)) rfl rfl rfl rfl ?_
                    refine R_lo (nx := 85) rfl rfl rfl rfl ?_
                    refine R_call1 (nx := 88) (as := [(2, 12), (0, (la K w r))]) (rest := [(0, x), (2, 8)]) rfl rfl (fun _ _ => rfl) rfl rfl rfl rfl rfl rfl rfl rfl (Cl.mono (c_P_get_in S2 12 12 ⟨by decide, rfl⟩ (by decide) (la K w r) ⟨by omega, by omega⟩) ?_)
                    rintro _ _ ⟨rfl, rfl⟩
                    refine ⟨_, rfl, ?_⟩
                    rw [show S2 12 (la K w r) = O (la K w r) from by rw [hF2 12 (by decide), h12 _ hl.1.1 hl.1.2]; exact cl3_n hno]
                    refine R_lo (nx := 89) rfl rfl rfl rfl ?_
                    refine R_call0 (nx := 92) (as := [(2, 8), (0, x), (0, (O (la K w r))), (0, (la K w r))]) (rest := []) rfl rfl (fun _ _ => rfl) rfl rfl rfl rfl rfl rfl rfl rfl (Cl.mono (c_Rd_takeAway S2 a hC K m2 w p hV hw hp j80 j81 j82 x (O (la K w r)) (la K w r) hx ho.1 hl.1 hxo (fun y y0 y1 => by rw [hrow y y0 y1]; exact hr.1 y) (fun y y0 y1 => by rw [hrwo y y0 y1]; exact ha.1 _ y) (by rw [hrwo _ hl.1.1 hl.1.2]; exact ho.2.2.2.1)) ?_)
                    rintro _ S89 ⟨rfl, h89, f89⟩
                    have hrow2 : ∀ y, 0 ≤ y → y < Xn K → S89 10 (x * 12 + y) = (sbr p r (R (O (la K w r))) (la K w r)) y := fun y y0 y1 => by
                      rw [h89 (x * 12 + y), if_pos (by omega), show x * 12 + y - x * 12 = y by omega]
                      unfold sbr
                      dsimp only
                      rw [hrow y y0 y1, hrwo y y0 y1, hrow _ hl.1.1 hl.1.2, hrwo _ hl.1.1 hl.1.2]
                    have i80 : S89 8 0 = a := by rw [f89 8 (by decide)]; exact j80
                    have i81 : S89 8 1 = w := by rw [f89 8 (by decide)]; exact j81
                    have i82 : S89 8 2 = p := by rw [f89 8 (by decide)]; exact j82
                    have m3 : MC S89 a K := m2.fr fun c q r => f89 c (by omega)
                    have hOs : ∀ k, 0 ≤ k → k < Xn K → S89 9 k = od K w k := fun k k0 k1 => by rw [f89 9 (by decide)]; exact hOr k k0 k1
                    refine ⟨rfl, ?_⟩
                    refine R_lo (nx := 93) rfl rfl rfl rfl ?_
                    refine R_lo (nx := 94) rfl rfl rfl rfl ?_
                    refine R_call1 (nx := 97) (as := [(2, 8), (0, x)]) (rest := []) rfl rfl (fun _ _ => rfl) rfl rfl rfl rfl rfl rfl rfl rfl (Cl.mono (c_Rd_lastOf S89 a hC K (by first | assumption | exact MC.up (by assumption) (by omega) | exact MC.up (MC.up (by assumption) (by omega)) (by omega) | exact MC.up (MC.up (MC.up (by assumption) (by omega)) (by omega)) (by omega)) w p hV hw hp (by assumption) (by assumption) (by assumption) x (by omega) (by assumption)) ?_)
                    rintro _ _ (⟨rfl, b94, rfl⟩ | ⟨rfl, b94, rfl⟩)
                    ·
                      refine ⟨_, rfl, ?_⟩
                      have e0 : la K w (fun y => S89 10 (x * 12 + y)) = la K w (sbr p r (R (O (la K w r))) (la K w r)) := la_cg hnr.1 hrow2
                      refine R_cv (w := (cl3 (la K w (sbr p r (R (O (la K w r))) (la K w r))))) (by first | (rw [← e0]; exact (cl3_n b94).symm) | (rw [← e0, b94]; rfl)) ?_
                      refine R_lo (nx := 98) (ls' := [(2, 8), (0, x), (0, (cl3 (la K w (sbr p r (R (O (la K w r))) (la K w r))))), (0, rd)]) rfl rfl rfl rfl ?_
                      refine R_iinc (nx := 101) (z := (rd + 1)) (ls' := [(2, 8), (0, x), (0, (cl3 (la K w (sbr p r (R (O (la K w r))) (la K w r))))), (0, (rd + 1))]) rfl rfl rfl rfl ⟨by omega, by omega⟩ rfl ?_
                      refine R_op (nx := 104) (pc' := 53) rfl rfl rfl ?_
                      refine Rn.weak (ls' := [(2, 8), (0, x), (0, (cl3 (la K w (sbr p r (R (O (la K w r))) (la K w r))))), (0, (rd + 1))]) ⟨Or.inl rfl, ⟨Or.inl rfl, ⟨Or.inl rfl, ⟨Or.inl rfl, trivial⟩⟩⟩⟩ ?_
                      refine ih53 (S89) (sbr p r (R (O (la K w r))) (la K w r)) ((rd + 1)) ?_ ?_ ?_ ?_ ?_ ?_ ?_
                      · omega
                      · have := psb.2; omega
                      · exact psb.1
                      · exact hrow2
                      · intro j hj; rw [h89 j, if_neg hj]; exact hoth j hj
                      · intro b hb; rw [f89 b hb]; exact hF2 b hb
                      · exact hred.trans (red_c hp hnr.1 ha hb hi hr hne hno)
                    ·
                      refine ⟨_, rfl, ?_⟩
                      have e0 : la K w (fun y => S89 10 (x * 12 + y)) = la K w (sbr p r (R (O (la K w r))) (la K w r)) := la_cg hnr.1 hrow2
                      refine R_cv (w := (cl3 (la K w (sbr p r (R (O (la K w r))) (la K w r))))) (by first | (rw [← e0]; exact (cl3_n b94).symm) | (rw [← e0, b94]; rfl)) ?_
                      refine R_lo (nx := 98) (ls' := [(2, 8), (0, x), (0, (cl3 (la K w (sbr p r (R (O (la K w r))) (la K w r))))), (0, rd)]) rfl rfl rfl rfl ?_
                      refine R_iinc (nx := 101) (z := (rd + 1)) (ls' := [(2, 8), (0, x), (0, (cl3 (la K w (sbr p r (R (O (la K w r))) (la K w r))))), (0, (rd + 1))]) rfl rfl rfl rfl ⟨by omega, by omega⟩ rfl ?_
                      refine R_op (nx := 104) (pc' := 53) rfl rfl rfl ?_
                      refine Rn.weak (ls' := [(2, 8), (0, x), (0, (cl3 (la K w (sbr p r (R (O (la K w r))) (la K w r))))), (0, (rd + 1))]) ⟨Or.inl rfl, ⟨Or.inl rfl, ⟨Or.inl rfl, ⟨Or.inl rfl, trivial⟩⟩⟩⟩ ?_
                      refine ih53 (S89) (sbr p r (R (O (la K w r))) (la K w r)) ((rd + 1)) ?_ ?_ ?_ ?_ ?_ ?_ ?_
                      · omega
                      · have := psb.2; omega
                      · exact psb.1
                      · exact hrow2
                      · intro j hj; rw [h89 j, if_neg hj]; exact hoth j hj
                      · intro b hb; rw [f89 b hb]; exact hF2 b hb
                      · exact hred.trans (red_c hp hnr.1 ha hb hi hr hne hno)
          refine Rn.weak (ls' := [(2, 8), (0, x), (0, (cl3 (la K w (R x)))), (0, 0)]) ⟨Or.inl rfl, ⟨Or.inl rfl, ⟨Or.inl rfl, ⟨Or.inl rfl, trivial⟩⟩⟩⟩ ?_
          refine L53 (((12 : Int) - (0)).toNat + 1) (S1) (R x) (0) (Nat.lt_succ_self _) ?_ ?_ ?_ ?_ ?_ ?_
          · have := mre_b w (R x) hnr.1; omega
          · exact PR_0 hp hx hi ha hb
          · intro y y0 y1; rw [h1 (x * 12 + y), if_pos (by omega), ha.2.2.2.2 x hx.1 hx.2 (by omega) y, show x * 12 + y - x * 12 = y by omega]
          · intro j hj; rw [h1 j]; exact if_neg (by omega)
          · exact hF
          · rfl
        ·
          refine ⟨_, rfl, ?_⟩
          have e0 : la K w (fun y => S1 10 (x * 12 + y)) = la K w (R x) := la_cg hnr.1 fun y y0 y1 => by rw [h1 (x * 12 + y), if_pos (by omega), ha.2.2.2.2 x hx.1 hx.2 (by omega) y, show x * 12 + y - x * 12 = y by omega]
          refine R_cv (w := (cl3 (la K w (R x)))) (by first | (rw [← e0]; exact (cl3_n b47).symm) | (rw [← e0, b47]; rfl)) ?_
          refine R_lo (nx := 51) (ls' := [(2, 8), (0, x), (0, (cl3 (la K w (R x)))), (9, 0)]) rfl rfl rfl rfl ?_
          refine R_op (nx := 52) rfl rfl rfl ?_
          refine R_lo (nx := 53) (ls' := [(2, 8), (0, x), (0, (cl3 (la K w (R x)))), (0, 0)]) rfl rfl rfl rfl ?_
          have L53 : ∀ (f53 : Nat) (S2 : mm_S) (r : Int → Int) (rd : Int), ((12 : Int) - rd).toNat < f53 → (0 ≤ rd ∧ rd + (mre K w r : Int) ≤ 12) → (PR K w p x r) → (∀ y, 0 ≤ y → y < Xn K → S2 10 (x * 12 + y) = r y) → (∀ j, ¬ (x * 12 ≤ j ∧ j < x * 12 + Xn K) → S2 10 j = S 10 j) → (∀ b, b ≠ 10 → S2 b = S b) → (red K w p R O (R x) = red K w p R O r) → Rn k_Rd_reduce 53 [(2, 8), (0, x), (0, (cl3 (la K w r))), (0, rd)] [] S2 (fun v S' => v = none ∧ ∃ r, red K w p R O (R x) = r ∧ (∀ z, 0 ≤ z → z < Xn K → rk K w z < i + 1 → ∀ y, 0 ≤ y → y < Xn K → S' 10 (z * 12 + y) = (if z = x then r else R z) y) ∧ (∀ z, 0 ≤ z → z < Xn K → rk K w z < i + 1 → S' 11 z = cl3 (la K w (if z = x then r else R z))) ∧ (∀ z, 0 ≤ z → z < Xn K → S' 12 z = cl3 ((if la K w r = -1 then O else fun m => if m = la K w r then x else O m) z)) ∧ ∀ b, ¬ (10 ≤ b ∧ b ≤ 12) → S' b = S b) := by
            intro f53
            induction f53 with
            | zero => intro S2 r rd hm53; exact absurd hm53 (Nat.not_lt_zero _)
            | succ f53 ih53 =>
              intro S2 r rd hm53 hrd hr hrow hoth hF2 hred
              have j80 : S2 8 0 = a := by rw [hF2 8 (by decide)]; exact h80
              have j81 : S2 8 1 = w := by rw [hF2 8 (by decide)]; exact h81
              have j82 : S2 8 2 = p := by rw [hF2 8 (by decide)]; exact h82
              have m2 : MC S2 a K := hM.fr fun c q r => hF2 c (by omega)
              have hOr : ∀ k, 0 ≤ k → k < Xn K → S2 9 k = od K w k := fun k k0 k1 => by rw [hF2 9 (by decide)]; exact hO k k0 k1
              refine R_lo (nx := 54) rfl rfl rfl rfl ?_
              refine R_op (nx := 56) rfl rfl rfl ?_
              refine R_icmp (nx := 59) (tg := 104) rfl rfl rfl (mm_cnd_ge _ _) (fun c56_1 => ?_) (fun c56_1 => ?_)
              ·
                have el : la K w r = -1 := Classical.byContradiction fun q => by
                  have hz : mre K w r = (rk K w (la K w r)).toNat + 1 := if_neg q
                  omega
                rw [show cl3 (la K w r) = -3 from by rw [el]; rfl]
                refine R_lo (nx := 105) rfl rfl rfl rfl ?_
                refine R_get (nx := 108) (w := (2, 11)) rfl rfl rfl rfl ?_
                refine R_lo (nx := 109) rfl rfl rfl rfl ?_
                refine R_lo (nx := 110) rfl rfl rfl rfl ?_
                refine R_call0 (nx := 113) (as := [(2, 11), (0, x), (0, (-3))]) (rest := []) rfl rfl (fun _ _ => rfl) rfl rfl rfl rfl rfl rfl rfl rfl (Cl.mono (c_P_set S2 11 12 ⟨by decide, rfl⟩ (by decide) x (-3) ⟨by omega, by omega⟩) ?_)
                rintro _ _ ⟨rfl, rfl⟩
                refine ⟨rfl, ?_⟩
                refine R_lo (nx := 114) rfl rfl rfl rfl ?_
                refine R_op (nx := 116) rfl rfl rfl ?_
                refine R_icmpT (tg := 128) rfl rfl rfl ?_
                refine R_ret rfl (fun _ _ => rfl) rfl rfl ?_
                refine ⟨rfl, r, hred.trans (red_d hp hnr.1 ha hb hi hr (Or.inl el)), fun z z0 z1 q y y0 y1 => ?_, fun z z0 z1 q => ?_, fun z z0 z1 => ?_, fun b hb2 => ?_⟩
                · rw [mm_unq (by decide)]
                  by_cases e : z = x
                  · subst e; rw [if_pos rfl]; exact hrow y y0 y1
                  · rw [if_neg e, hoth _ (by omega)]
                    exact h10 z z0 z1 (by have := rk_ne (w := w) ⟨z0, z1⟩ hx e; omega) y y0 y1
                · skip
                  by_cases e : z = x
                  · subst e; rw [if_pos rfl, mm_ua, el]; rfl
                  · rw [if_neg e, mm_uk e, hF2 11 (by decide)]
                    exact h11 z z0 z1 (by have := rk_ne (w := w) ⟨z0, z1⟩ hx e; omega)
                · rw [mm_unq (by decide), hF2 12 (by decide), if_pos el]; exact h12 z z0 z1
                · rw [mm_unq (by omega), hF2 b (by omega)]
              ·
                refine R_lo (nx := 60) rfl rfl rfl rfl ?_
                refine R_op (nx := 62) rfl rfl rfl ?_
                refine R_icmp (nx := 65) (tg := 104) rfl rfl rfl (mm_cnd_eq _ _) (fun c62_1 => ?_) (fun c62_1 => ?_)
                ·
                  have el : la K w r = -1 := (cl3_3 (by rcases la_sp w r hnr.1 with h | h; exact Or.inl h.1; exact Or.inr h.1.1)).mp c62_1
                  rw [show cl3 (la K w r) = -3 from by rw [el]; rfl]
                  refine R_lo (nx := 105) rfl rfl rfl rfl ?_
                  refine R_get (nx := 108) (w := (2, 11)) rfl rfl rfl rfl ?_
                  refine R_lo (nx := 109) rfl rfl rfl rfl ?_
                  refine R_lo (nx := 110) rfl rfl rfl rfl ?_
                  refine R_call0 (nx := 113) (as := [(2, 11), (0, x), (0, (-3))]) (rest := []) rfl rfl (fun _ _ => rfl) rfl rfl rfl rfl rfl rfl rfl rfl (Cl.mono (c_P_set S2 11 12 ⟨by decide, rfl⟩ (by decide) x (-3) ⟨by omega, by omega⟩) ?_)
                  rintro _ _ ⟨rfl, rfl⟩
                  refine ⟨rfl, ?_⟩
                  refine R_lo (nx := 114) rfl rfl rfl rfl ?_
                  refine R_op (nx := 116) rfl rfl rfl ?_
                  refine R_icmpT (tg := 128) rfl rfl rfl ?_
                  refine R_ret rfl (fun _ _ => rfl) rfl rfl ?_
                  refine ⟨rfl, r, hred.trans (red_d hp hnr.1 ha hb hi hr (Or.inl el)), fun z z0 z1 q y y0 y1 => ?_, fun z z0 z1 q => ?_, fun z z0 z1 => ?_, fun b hb2 => ?_⟩
                  · rw [mm_unq (by decide)]
                    by_cases e : z = x
                    · subst e; rw [if_pos rfl]; exact hrow y y0 y1
                    · rw [if_neg e, hoth _ (by omega)]
                      exact h10 z z0 z1 (by have := rk_ne (w := w) ⟨z0, z1⟩ hx e; omega) y y0 y1
                  · skip
                    by_cases e : z = x
                    · subst e; rw [if_pos rfl, mm_ua, el]; rfl
                    · rw [if_neg e, mm_uk e, hF2 11 (by decide)]
                      exact h11 z z0 z1 (by have := rk_ne (w := w) ⟨z0, z1⟩ hx e; omega)
                  · rw [mm_unq (by decide), hF2 12 (by decide), if_pos el]; exact h12 z z0 z1
                  · rw [mm_unq (by omega), hF2 b (by omega)]
                ·
                  have hne : la K w r ≠ -1 := fun q => c62_1 (by rw [q]; rfl)
                  have hl := la_rng hnr.1 hne
                  have hlb := hl.1
                  rw [cl3_n hne]
                  refine R_lo (nx := 66) rfl rfl rfl rfl ?_
                  refine R_get (nx := 69) (w := (2, 12)) rfl rfl rfl rfl ?_
                  refine R_lo (nx := 70) rfl rfl rfl rfl ?_
                  refine R_call1 (nx := 73) (as := [(2, 12), (0, (la K w r))]) (rest := []) rfl rfl (fun _ _ => rfl) rfl rfl rfl rfl rfl rfl rfl rfl (Cl.mono (c_P_get_in S2 12 12 ⟨by decide, rfl⟩ (by decide) (la K w r) ⟨by omega, by omega⟩) ?_)
                  rintro _ _ ⟨rfl, rfl⟩
                  refine ⟨_, rfl, ?_⟩
                  rw [show S2 12 (la K w r) = cl3 (O (la K w r)) from by rw [hF2 12 (by decide)]; exact h12 _ hl.1.1 hl.1.2]
                  refine R_op (nx := 75) rfl rfl rfl ?_
                  refine R_icmp (nx := 78) (tg := 104) rfl rfl rfl (mm_cnd_eq _ _) (fun c75_1 => ?_) (fun c75_1 => ?_)
                  ·
                    have hno : O (la K w r) = -1 := (cl3_3 (by rcases ha.2.1 (la K w r) with h | h; exact Or.inl h; exact Or.inr h.1.1)).mp c75_1
                    refine R_lo (nx := 105) rfl rfl rfl rfl ?_
                    refine R_get (nx := 108) (w := (2, 11)) rfl rfl rfl rfl ?_
                    refine R_lo (nx := 109) rfl rfl rfl rfl ?_
                    refine R_lo (nx := 110) rfl rfl rfl rfl ?_
                    refine R_call0 (nx := 113) (as := [(2, 11), (0, x), (0, (la K w r))]) (rest := []) rfl rfl (fun _ _ => rfl) rfl rfl rfl rfl rfl rfl rfl rfl (Cl.mono (c_P_set S2 11 12 ⟨by decide, rfl⟩ (by decide) x (la K w r) ⟨by omega, by omega⟩) ?_)
                    rintro _ _ ⟨rfl, rfl⟩
                    refine ⟨rfl, ?_⟩
                    refine R_lo (nx := 114) rfl rfl rfl rfl ?_
                    refine R_op (nx := 116) rfl rfl rfl ?_
                    refine R_icmp (nx := 119) (tg := 128) rfl rfl rfl (mm_cnd_eq _ _) (fun c116_1 => ?_) (fun c116_1 => ?_)
                    ·
                      exfalso
                      omega
                    ·
                      refine R_lo (nx := 120) rfl rfl rfl rfl ?_
                      refine R_get (nx := 123) (w := (2, 12)) rfl rfl rfl rfl ?_
                      refine R_lo (nx := 124) rfl rfl rfl rfl ?_
                      refine R_lo (nx := 125) rfl rfl rfl rfl ?_
                      refine R_call0 (nx := 128) (as := [(2, 12), (0, (la K w r)), (0, x)]) (rest := []) rfl rfl (fun _ _ => rfl) rfl rfl rfl rfl rfl rfl rfl rfl (Cl.mono (c_P_set (mm_up S2 11 x (la K w r)) 12 12 ⟨by decide, rfl⟩ (by decide) (la K w r) x ⟨by omega, by omega⟩) ?_)
                      rintro _ _ ⟨rfl, rfl⟩
                      refine ⟨rfl, ?_⟩
                      refine R_ret rfl (fun _ _ => rfl) rfl rfl ?_
                      refine ⟨rfl, r, hred.trans (red_d hp hnr.1 ha hb hi hr (Or.inr hno)), fun z z0 z1 q y y0 y1 => ?_, fun z z0 z1 q => ?_, fun z z0 z1 => ?_, fun b hb2 => ?_⟩
                      · rw [mm_unq (by decide), mm_unq (by decide)]
                        by_cases e : z = x
                        · subst e; rw [if_pos rfl]; exact hrow y y0 y1
                        · rw [if_neg e, hoth _ (by omega)]
                          exact h10 z z0 z1 (by have := rk_ne (w := w) ⟨z0, z1⟩ hx e; omega) y y0 y1
                      · rw [mm_unq (by decide)]
                        by_cases e : z = x
                        · subst e; rw [if_pos rfl, mm_ua]; exact (cl3_n hne).symm
                        · rw [if_neg e, mm_uk e, hF2 11 (by decide)]
                          exact h11 z z0 z1 (by have := rk_ne (w := w) ⟨z0, z1⟩ hx e; omega)
                      · rw [if_neg hne]
                        by_cases e : z = la K w r
                        · rw [e, mm_ua, if_pos rfl]; exact (cl3_n (by omega)).symm
                        · rw [mm_uk e, mm_unq (by decide), hF2 12 (by decide), if_neg e]; exact h12 z z0 z1
                      · rw [mm_unq (by omega), mm_unq (by omega), hF2 b (by omega)]
                  ·
                    have hno : O (la K w r) ≠ -1 := fun q => c75_1 (by rw [q]; rfl)
                    have ho := (ha.2.1 (la K w r)).resolve_left hno
                    have psb := PR_sbr hp hnr.1 ha hb hi hr hne hno
                    have hxo : x ≠ O (la K w r) := fun q => by
                      have h1 := ho.2.1
                      rw [← q] at h1
                      omega
                    have hrwo : ∀ y, 0 ≤ y → y < Xn K → S2 10 (O (la K w r) * 12 + y) = R (O (la K w r)) y := fun y y0 y1 => by
                      have := ho.1
                      rw [hoth _ (by omega)]
                      exact h10 _ ho.1.1 ho.1.2 ho.2.1 y y0 y1
                    refine R_lo (nx := 79) rfl rfl rfl rfl ?_
                    refine R_lo (nx := 80) rfl rfl rfl rfl ?_
                    refine R_lo (nx := 81) rfl rfl rfl rfl ?_
                    refine R_get (nx := 84) (w := (2, 12)) rfl rfl rfl rfl ?_
                    refine R_lo (nx := 85) rfl rfl rfl rfl ?_
                    refine R_call1 (nx := 88) (as := [(2, 12), (0, (la K w r))]) (rest := [(0, x), (2, 8)]) rfl rfl (fun _ _ => rfl) rfl rfl rfl rfl rfl rfl rfl rfl (Cl.mono (c_P_get_in S2 12 12 ⟨by decide, rfl⟩ (by decide) (la K w r) ⟨by omega, by omega⟩) ?_)
                    rintro _ _ ⟨rfl, rfl⟩
                    refine ⟨_, rfl, ?_⟩
                    rw [show S2 12 (la K w r) = O (la K w r) from by rw [hF2 12 (by decide), h12 _ hl.1.1 hl.1.2]; exact cl3_n hno]
                    refine R_lo (nx := 89) rfl rfl rfl rfl ?_
                    refine R_call0 (nx := 92) (as := [(2, 8), (0, x), (0, (O (la K w r))), (0, (la K w r))]) (rest := []) rfl rfl (fun _ _ => rfl) rfl rfl rfl rfl rfl rfl rfl rfl (Cl.mono (c_Rd_takeAway S2 a hC K m2 w p hV hw hp j80 j81 j82 x (O (la K w r)) (la K w r) hx ho.1 hl.1 hxo (fun y y0 y1 => by rw [hrow y y0 y1]; exact hr.1 y) (fun y y0 y1 => by rw [hrwo y y0 y1]; exact ha.1 _ y) (by rw [hrwo _ hl.1.1 hl.1.2]; exact ho.2.2.2.1)) ?_)
                    rintro _ S89 ⟨rfl, h89, f89⟩
                    have hrow2 : ∀ y, 0 ≤ y → y < Xn K → S89 10 (x * 12 + y) = (sbr p r (R (O (la K w r))) (la K w r)) y := fun y y0 y1 => by
                      rw [h89 (x * 12 + y), if_pos (by omega), show x * 12 + y - x * 12 = y by omega]
                      unfold sbr
                      dsimp only
                      rw [hrow y y0 y1, hrwo y y0 y1, hrow _ hl.1.1 hl.1.2, hrwo _ hl.1.1 hl.1.2]
                    have i80 : S89 8 0 = a := by rw [f89 8 (by decide)]; exact j80
                    have i81 : S89 8 1 = w := by rw [f89 8 (by decide)]; exact j81
                    have i82 : S89 8 2 = p := by rw [f89 8 (by decide)]; exact j82
                    have m3 : MC S89 a K := m2.fr fun c q r => f89 c (by omega)
                    have hOs : ∀ k, 0 ≤ k → k < Xn K → S89 9 k = od K w k := fun k k0 k1 => by rw [f89 9 (by decide)]; exact hOr k k0 k1
                    refine ⟨rfl, ?_⟩
                    refine R_lo (nx := 93) rfl rfl rfl rfl ?_
                    refine R_lo (nx := 94) rfl rfl rfl rfl ?_
                    refine R_call1 (nx := 97) (as := [(2, 8), (0, x)]) (rest := []) rfl rfl (fun _ _ => rfl) rfl rfl rfl rfl rfl rfl rfl rfl (Cl.mono (c_Rd_lastOf S89 a hC K (by first | assumption | exact MC.up (by assumption) (by omega) | exact MC.up (MC.up (by assumption) (by omega)) (by omega) | exact MC.up (MC.up (MC.up (by assumption) (by omega)) (by omega)) (by omega)) w p hV hw hp (by assumption) (by assumption) (by assumption) x (by omega) (by assumption)) ?_)
                    rintro _ _ (⟨rfl, b94_1, rfl⟩ | ⟨rfl, b94_1, rfl⟩)
                    ·
                      refine ⟨_, rfl, ?_⟩
                      have e0 : la K w (fun y => S89 10 (x * 12 + y)) = la K w (sbr p r (R (O (la K w r))) (la K w r)) := la_cg hnr.1 hrow2
                      refine R_cv (w := (cl3 (la K w (sbr p r (R (O (la K w r))) (la K w r))))) (by first | (rw [← e0]; exact (cl3_n b94_1).symm) | (rw [← e0, b94_1]; rfl)) ?_
                      refine R_lo (nx := 98) (ls' := [(2, 8), (0, x), (0, (cl3 (la K w (sbr p r (R (O (la K w r))) (la K w r))))), (0, rd)]) rfl rfl rfl rfl ?_
                      refine R_iinc (nx := 101) (z := (rd + 1)) (ls' := [(2, 8), (0, x), (0, (cl3 (la K w (sbr p r (R (O (la K w r))) (la K w r))))), (0, (rd + 1))]) rfl rfl rfl rfl ⟨by omega, by omega⟩ rfl ?_
                      refine R_op (nx := 104) (pc' := 53) rfl rfl rfl ?_
                      refine Rn.weak (ls' := [(2, 8), (0, x), (0, (cl3 (la K w (sbr p r (R (O (la K w r))) (la K w r))))), (0, (rd + 1))]) ⟨Or.inl rfl, ⟨Or.inl rfl, ⟨Or.inl rfl, ⟨Or.inl rfl, trivial⟩⟩⟩⟩ ?_
                      refine ih53 (S89) (sbr p r (R (O (la K w r))) (la K w r)) ((rd + 1)) ?_ ?_ ?_ ?_ ?_ ?_ ?_
                      · omega
                      · have := psb.2; omega
                      · exact psb.1
                      · exact hrow2
                      · intro j hj; rw [h89 j, if_neg hj]; exact hoth j hj
                      · intro b hb; rw [f89 b hb]; exact hF2 b hb
                      · exact hred.trans (red_c hp hnr.1 ha hb hi hr hne hno)
                    ·
                      refine ⟨_, rfl, ?_⟩
                      have e0 : la K w (fun y => S89 10 (x * 12 + y)) = la K w (sbr p r (R (O (la K w r))) (la K w r)) := la_cg hnr.1 hrow2
                      refine R_cv (w := (cl3 (la K w (sbr p r (R (O (la K w r))) (la K w r))))) (by first | (rw [← e0]; exact (cl3_n b94_1).symm) | (rw [← e0, b94_1]; rfl)) ?_
                      refine R_lo (nx := 98) (ls' := [(2, 8), (0, x), (0, (cl3 (la K w (sbr p r (R (O (la K w r))) (la K w r))))), (0, rd)]) rfl rfl rfl rfl ?_
                      refine R_iinc (nx := 101) (z := (rd + 1)) (ls' := [(2, 8), (0, x), (0, (cl3 (la K w (sbr p r (R (O (la K w r))) (la K w r))))), (0, (rd + 1))]) rfl rfl rfl rfl ⟨by omega, by omega⟩ rfl ?_
                      refine R_op (nx := 104) (pc' := 53) rfl rfl rfl ?_
                      refine Rn.weak (ls' := [(2, 8), (0, x), (0, (cl3 (la K w (sbr p r (R (O (la K w r))) (la K w r))))), (0, (rd + 1))]) ⟨Or.inl rfl, ⟨Or.inl rfl, ⟨Or.inl rfl, ⟨Or.inl rfl, trivial⟩⟩⟩⟩ ?_
                      refine ih53 (S89) (sbr p r (R (O (la K w r))) (la K w r)) ((rd + 1)) ?_ ?_ ?_ ?_ ?_ ?_ ?_
                      · omega
                      · have := psb.2; omega
                      · exact psb.1
                      · exact hrow2
                      · intro j hj; rw [h89 j, if_neg hj]; exact hoth j hj
                      · intro b hb; rw [f89 b hb]; exact hF2 b hb
                      · exact hred.trans (red_c hp hnr.1 ha hb hi hr hne hno)
          refine Rn.weak (ls' := [(2, 8), (0, x), (0, (cl3 (la K w (R x)))), (0, 0)]) ⟨Or.inl rfl, ⟨Or.inl rfl, ⟨Or.inl rfl, ⟨Or.inl rfl, trivial⟩⟩⟩⟩ ?_
          refine L53 (((12 : Int) - (0)).toNat + 1) (S1) (R x) (0) (Nat.lt_succ_self _) ?_ ?_ ?_ ?_ ?_ ?_
          · have := mre_b w (R x) hnr.1; omega
          · exact PR_0 hp hx hi ha hb
          · intro y y0 y1; rw [h1 (x * 12 + y), if_pos (by omega), ha.2.2.2.2 x hx.1 hx.2 (by omega) y, show x * 12 + y - x * 12 = y by omega]
          · intro j hj; rw [h1 j]; exact if_neg (by omega)
          · exact hF
          · rfl
      ·
        refine R_lo (nx := 14) rfl rfl rfl rfl ?_
        refine R_get (nx := 17) (w := (2, 10)) rfl rfl rfl rfl ?_
        refine R_lo (nx := 18) rfl rfl rfl rfl ?_
        refine R_op (nx := 20) rfl rfl rfl ?_
        refine R_imul (nx := 21) (z := (x * 12)) rfl rfl rfl ⟨by omega, by omega⟩ ?_
        refine R_lo (nx := 22) rfl rfl rfl rfl ?_
        refine R_iadd (nx := 23) (z := ((x * 12) + y)) rfl rfl rfl ⟨by omega, by omega⟩ ?_
        refine R_lo (nx := 24) rfl rfl rfl rfl ?_
        refine R_lo (nx := 25) rfl rfl rfl rfl ?_
        refine R_get (nx := 28) (w := (2, a)) rfl rfl rfl (congrArg (Prod.mk 2) (by assumption)) ?_
        refine R_lo (nx := 29) rfl rfl rfl rfl ?_
        refine R_lo (nx := 30) rfl rfl rfl rfl ?_
        refine R_call1 (nx := 33) (as := [(2, a), (0, x), (0, y)]) (rest := [(2, 8), (0, ((x * 12) + y)), (2, 10)]) rfl rfl (fun _ _ => rfl) rfl rfl rfl rfl rfl rfl (isC_rc hC _) rfl (Cl.mono (c_C_edge S1 a hC K (by first | assumption | exact MC.up (by assumption) (by omega) | exact MC.up (MC.up (by assumption) (by omega)) (by omega) | exact MC.up (MC.up (MC.up (by assumption) (by omega)) (by omega)) (by omega)) x y) ?_)
        rintro _ _ ⟨rfl, rfl⟩
        refine ⟨_, rfl, ?_⟩
        refine R_call1 (nx := 36) (as := [(2, 8), (0, (Xe K x y))]) (rest := [(0, ((x * 12) + y)), (2, 10)]) rfl rfl (fun _ _ => rfl) rfl rfl rfl rfl rfl rfl rfl rfl (Cl.mono (c_Rd_leaves S1 a hC K (by first | assumption | exact MC.up (by assumption) (by omega) | exact MC.up (MC.up (by assumption) (by omega)) (by omega) | exact MC.up (MC.up (MC.up (by assumption) (by omega)) (by omega)) (by omega)) w p hV hw hp (by assumption) (by assumption) (by assumption) (Xe K x y) ⟨by omega, by omega⟩) ?_)
        rintro _ _ ⟨rfl, rfl⟩
        refine ⟨_, rfl, ?_⟩
        refine R_call0 (nx := 39) (as := [(2, 10), (0, ((x * 12) + y)), (0, ((Xe K x y) % p))]) (rest := []) rfl rfl (fun _ _ => rfl) rfl rfl rfl rfl rfl rfl rfl rfl (Cl.mono (c_P_set S1 10 144 ⟨by decide, rfl⟩ (by decide) ((x * 12) + y) ((Xe K x y) % p) ⟨by omega, by omega⟩) ?_)
        rintro _ _ ⟨rfl, rfl⟩
        refine ⟨rfl, ?_⟩
        refine R_iinc (nx := 42) (z := (y + 1)) (ls' := [(2, 8), (0, x), (0, (y + 1)), (9, 0)]) rfl rfl rfl rfl ⟨by omega, by omega⟩ rfl ?_
        refine R_op (nx := 45) (pc' := 2) rfl rfl rfl ?_
        refine Rn.weak (ls' := [(2, 8), (0, x), (0, (y + 1)), (9, 0)]) ⟨Or.inl rfl, ⟨Or.inl rfl, ⟨Or.inl rfl, ⟨Or.inl rfl, trivial⟩⟩⟩⟩ ?_
        refine ih2 ((mm_up S1 10 ((x * 12) + y) ((Xe K x y) % p))) ((y + 1)) ?_ ?_ ?_ ?_
        · omega
        · omega
        · intro j
          by_cases e : j = x * 12 + y
          · rw [e, mm_ua, if_pos (by omega), show x * 12 + y - x * 12 = y by omega]
          · rw [mm_uk e, h1 j]; exact ifc (by omega) rfl rfl
        · intro b hb; rw [mm_unq hb]; exact hF b hb
  refine Rn.weak (ls' := [(2, 8), (0, x), (0, 0), (9, 0)]) ⟨Or.inl rfl, ⟨Or.inl rfl, ⟨Or.inl rfl, ⟨Or.inl rfl, trivial⟩⟩⟩⟩ ?_
  refine L2 ((Xn K - (0)).toNat + 1) (S) (0) (Nat.lt_succ_self _) ?_ ?_ ?_
  · omega
  · intro j; rw [if_neg (by omega)]
  · intro b hb; rfl

set_option maxRecDepth 20000 in
set_option maxHeartbeats 4000000 in
theorem c_Rd_run (S : mm_S) (a : Int) (hC : mm_isC a) (K : CX) (hM : MC S a K) (w p : Int) (hV : Vx K) (hw : w = 0 ∨ w = 1) (hp : Xpr p) : Cl 152 [(2, 8), (2, a), (0, w), (0, p)] S (fun v S' => v = none ∧ (∀ z y, 0 ≤ z → z < Xn K → 0 ≤ y → y < Xn K → S' 10 (z * 12 + y) = Fr K w p z y) ∧ (∀ z, 0 ≤ z → z < Xn K → S' 11 z = cl3 (Fl K w p z)) ∧ (∀ z, 0 ≤ z → z < Xn K → S' 12 z = cl3 (Fo K w p z)) ∧ (S' 8 0 = a ∧ S' 8 1 = w ∧ S' 8 2 = p) ∧ ∀ b, ¬ (8 ≤ b ∧ b ≤ 12) → S' b = S b) := by
  refine ⟨Nat.le_of_ble_eq_true rfl, ?_⟩
  show Rn k_Rd_run 0 [(2, 8), (2, a), (0, w), (0, p), (9, 0)] [] S _
  have hnr := hV.1.1
  have hR := hV.2.1
  have hpb := pr_b hp
  have hout := isC_out hC
  have hk := isC_kd hC
  refine R_lo (nx := 1) rfl rfl rfl rfl ?_
  refine R_lo (nx := 2) rfl rfl rfl rfl ?_
  refine R_put (nx := 5) (kk := 0) rfl rfl rfl (by show decide _ = true; exact decide_eq_true ⟨rfl, by omega, by omega⟩) rfl ?_
  refine R_lo (nx := 6) rfl rfl rfl rfl ?_
  refine R_lo (nx := 7) rfl rfl rfl rfl ?_
  refine R_put (nx := 10) (kk := 1) rfl rfl rfl rfl rfl ?_
  refine R_lo (nx := 11) rfl rfl rfl rfl ?_
  refine R_lo (nx := 12) rfl rfl rfl rfl ?_
  refine R_put (nx := 15) (kk := 2) rfl rfl rfl rfl rfl ?_
  refine R_lo (nx := 16) rfl rfl rfl rfl ?_
  refine R_get (nx := 19) (w := (2, 12)) rfl rfl rfl rfl ?_
  refine R_op (nx := 21) rfl rfl rfl ?_
  refine R_call0 (nx := 24) (as := [(2, 12), (0, (-3))]) (rest := []) rfl rfl (fun _ _ => rfl) rfl rfl rfl rfl rfl rfl rfl rfl (Cl.mono (c_Ar_fill (mm_up (mm_up (mm_up S 8 0 a) 8 1 w) 8 2 p) 12 12 ⟨by decide, rfl⟩ (by decide) (-3)) ?_)
  rintro _ S21 ⟨rfl, h21, f21⟩
  refine ⟨rfl, ?_⟩
  have k80 : S21 8 0 = a := by rw [f21 8 (by decide), mm_uk (by decide), mm_uk (by decide)]; exact mm_ua
  have k81 : S21 8 1 = w := by rw [f21 8 (by decide), mm_uk (by decide)]; exact mm_ua
  have k82 : S21 8 2 = p := by rw [f21 8 (by decide)]; exact mm_ua
  have m21 : MC S21 a K := hM.fr fun c q r => by rw [f21 c (by omega), mm_unq (by omega), mm_unq (by omega), mm_unq (by omega)]
  have g21 : ∀ b, ¬ (8 ≤ b ∧ b ≤ 12) → S21 b = S b := fun b hb => by rw [f21 b (by omega), mm_unq (by omega), mm_unq (by omega), mm_unq (by omega)]
  refine R_lo (nx := 25) rfl rfl rfl rfl ?_
  refine R_call0 (nx := 28) (as := [(2, 8)]) (rest := []) rfl rfl (fun _ _ => rfl) rfl rfl rfl rfl rfl rfl rfl rfl (Cl.mono (c_Rd_putInOrder S21 a hC K m21 w p hV hw hp k80 k81 k82) ?_)
  rintro _ S25 ⟨rfl, h25, f25⟩
  refine ⟨rfl, ?_⟩
  refine R_op (nx := 29) rfl rfl rfl ?_
  refine R_lo (nx := 31) (ls' := [(2, 8), (2, a), (0, w), (0, p), (0, 0)]) rfl rfl rfl rfl ?_
  have L31 : ∀ (f31 : Nat) (S3 : mm_S) (i : Int), (Xn K - i).toNat < f31 → (0 ≤ i ∧ i ≤ Xn K) → (∀ k, 0 ≤ k → k < Xn K → S3 9 k = od K w k) → (∀ z, 0 ≤ z → z < Xn K → rk K w z < i → ∀ y, 0 ≤ y → y < Xn K → S3 10 (z * 12 + y) = (stN K w p i.toNat).1 z y) → (∀ z, 0 ≤ z → z < Xn K → rk K w z < i → S3 11 z = cl3 (la K w ((stN K w p i.toNat).1 z))) → (∀ z, 0 ≤ z → z < Xn K → S3 12 z = cl3 ((stN K w p i.toNat).2 z)) → (S3 8 0 = a ∧ S3 8 1 = w ∧ S3 8 2 = p) → (∀ b, ¬ (8 ≤ b ∧ b ≤ 12) → S3 b = S b) → Rn k_Rd_run 31 [(2, 8), (2, a), (0, w), (0, p), (0, i)] [] S3 (fun v S' => v = none ∧ (∀ z y, 0 ≤ z → z < Xn K → 0 ≤ y → y < Xn K → S' 10 (z * 12 + y) = Fr K w p z y) ∧ (∀ z, 0 ≤ z → z < Xn K → S' 11 z = cl3 (Fl K w p z)) ∧ (∀ z, 0 ≤ z → z < Xn K → S' 12 z = cl3 (Fo K w p z)) ∧ (S' 8 0 = a ∧ S' 8 1 = w ∧ S' 8 2 = p) ∧ ∀ b, ¬ (8 ≤ b ∧ b ≤ 12) → S' b = S b) := by
    intro f31
    induction f31 with
    | zero => intro S3 i hm31; exact absurd hm31 (Nat.not_lt_zero _)
    | succ f31 ih31 =>
      intro S3 i hm31 hi hO g10 g11 g12 g8 gF
      have l80 := g8.1
      have l81 := g8.2.1
      have l82 := g8.2.2
      have m3 : MC S3 a K := hM.fr fun c q r => gF c (by omega)
      refine R_lo (nx := 33) rfl rfl rfl rfl ?_
      refine R_lo (nx := 34) rfl rfl rfl rfl ?_
      refine R_get (nx := 37) (w := (0, (S3 a 0))) rfl rfl (isC_ob hC) rfl ?_
      rw [show (S3 a 0) = Xn K from (by assumption : MC _ a K).n]
      refine R_icmp (nx := 40) (tg := 59) rfl rfl rfl (mm_cnd_ge _ _) (fun c37 => ?_) (fun c37 => ?_)
      ·
        refine R_ret rfl (fun _ _ => rfl) rfl rfl ?_
        have e : i = Xn K := by omega
        subst e
        exact ⟨rfl, fun z y z0 z1 y0 y1 => g10 z z0 z1 (rk_r ⟨z0, z1⟩).2 y y0 y1, fun z z0 z1 => g11 z z0 z1 (rk_r ⟨z0, z1⟩).2, g12, g8, gF⟩
      ·
        refine R_lo (nx := 41) rfl rfl rfl rfl ?_
        refine R_lo (nx := 42) rfl rfl rfl rfl ?_
        refine R_get (nx := 45) (w := (2, 9)) rfl rfl rfl rfl ?_
        refine R_lo (nx := 47) rfl rfl rfl rfl ?_
        refine R_call1 (nx := 50) (as := [(2, 9), (0, i)]) (rest := [(2, 8)]) rfl rfl (fun _ _ => rfl) rfl rfl rfl rfl rfl rfl rfl rfl (Cl.mono (c_P_get_in S3 9 12 ⟨by decide, rfl⟩ (by decide) i ⟨by omega, by omega⟩) ?_)
        rintro _ _ ⟨rfl, rfl⟩
        refine ⟨_, rfl, ?_⟩
        rw [hO i (by omega) (by omega)]
        have oi := od_ok (K := K) (w := w) (i := i) (by omega)
        have iv := st_iv (i := i) hp hV hw (by omega)
        refine R_call0 (nx := 53) (as := [(2, 8), (0, (od K w i))]) (rest := []) rfl rfl (fun _ _ => rfl) rfl rfl rfl rfl rfl rfl rfl rfl (Cl.mono (c_Rd_reduce S3 a hC K m3 w p hV hw hp l80 l81 l82 (od K w i) i oi.1 oi.2 (stN K w p i.toNat).1 (stN K w p i.toNat).2 iv.1 iv.2 hO g10 g11 g12) ?_)
        rintro _ S50 ⟨rfl, r, e50, a50, b50, d50, f50⟩
        refine ⟨rfl, ?_⟩
        refine R_iinc (nx := 56) (z := (i + 1)) (ls' := [(2, 8), (2, a), (0, w), (0, p), (0, (i + 1))]) rfl rfl rfl rfl ⟨by omega, by omega⟩ rfl ?_
        refine R_op (nx := 59) (pc' := 31) rfl rfl rfl ?_
        refine Rn.weak (ls' := [(2, 8), (2, a), (0, w), (0, p), (0, (i + 1))]) ⟨Or.inl rfl, ⟨Or.inl rfl, ⟨Or.inl rfl, ⟨Or.inl rfl, ⟨Or.inl rfl, trivial⟩⟩⟩⟩⟩ ?_
        refine ih31 (S50) ((i + 1)) ?_ ?_ ?_ ?_ ?_ ?_ ?_ ?_
        · omega
        · omega
        · intro k k0 k1; rw [f50 9 (by omega)]; exact hO k k0 k1
        · intro z z0 z1 q y y0 y1; rw [st_s hp hV hw (by omega) e50]; exact a50 z z0 z1 q y y0 y1
        · intro z z0 z1 q; rw [st_s hp hV hw (by omega) e50]; exact b50 z z0 z1 q
        · intro z z0 z1; rw [st_s hp hV hw (by omega) e50]; exact d50 z z0 z1
        · rw [f50 8 (by omega)]; exact g8
        · intro b hb; rw [f50 b (by omega)]; exact gF b hb
  refine Rn.weak (ls' := [(2, 8), (2, a), (0, w), (0, p), (0, 0)]) ⟨Or.inl rfl, ⟨Or.inl rfl, ⟨Or.inl rfl, ⟨Or.inl rfl, ⟨Or.inl rfl, trivial⟩⟩⟩⟩⟩ ?_
  refine L31 ((Xn K - (0)).toNat + 1) (S25) (0) (Nat.lt_succ_self _) ?_ ?_ ?_ ?_ ?_ ?_ ?_
  · omega
  · exact h25
  · intro z z0 z1 q; have := rk_r (K := K) (w := w) ⟨z0, z1⟩; omega
  · intro z z0 z1 q; have := rk_r (K := K) (w := w) ⟨z0, z1⟩; omega
  · intro z z0 z1; rw [f25 12 (by decide), h21 z z0 (by omega)]; rfl
  · rw [f25 8 (by decide)]; exact ⟨k80, k81, k82⟩
  · intro b hb; rw [f25 b (by omega)]; exact g21 b hb
