/-! Edges laid into rows and taken from them, in the reference. -/
set_option maxRecDepth 20000 in
set_option maxHeartbeats 4000000 in
theorem c_M_lay (S : mm_S) (A : mm_A) (hRR : RR S A) (hV : Vs A) (c x i j : Int) (hj : mm_r32 j) : Cl 113 [(2, 71), (0, c), (0, x), (0, i), (0, j)] S (fun vv S' => vv = some (0, (Q_lay A c x i j).1) ∧ RR S' (Q_lay A c x i j).2 ∧ ∀ b, ¬ (71 ≤ b ∧ b < 91) → S' b = S b) := by
  refine ⟨Nat.le_of_ble_eq_true rfl, ?_⟩
  show Rn k_M_lay 0 [(2, 71), (0, c), (0, x), (0, i), (0, j), (9, 0), (9, 0)] [] S _
  refine R_lo (nx := 1) rfl rfl rfl rfl ?_
  refine R_call1 (nx := 4) (as := [(0, c)]) (rest := []) rfl rfl (fun _ _ => rfl) rfl rfl rfl rfl rfl rfl rfl rfl (Cl.mono (c_M_isComplex S c) ?_)
  rintro _ _ (⟨rfl, b1, rfl⟩ | ⟨rfl, b1, rfl⟩)
  ·
    try have k1 := hRR.k b1.1 b1.2
    try have n1 := k1.n
    try have z1 := k1.1.nr
    try have v1 := hV.1 _ b1.1 b1.2
    try have r1 := v1.2.1
    refine ⟨_, rfl, ?_⟩
    refine R_ifF (nx := 7) rfl rfl rfl ?_
    refine R_lo (nx := 8) rfl rfl rfl rfl ?_
    refine R_lo (nx := 9) rfl rfl rfl rfl ?_
    refine R_lo (nx := 10) rfl rfl rfl rfl ?_
    refine R_call1 (nx := 13) (as := [(2, 71), (0, c), (0, x)]) (rest := []) rfl rfl (fun _ _ => rfl) rfl rfl rfl rfl rfl rfl rfl rfl (Cl.mono (c_M_isCell S c (by omega) (AK A c) (show MR S c (AK A c) by first | assumption | exact MR.up (by assumption) (by omega) | exact MR.up (MR.up (by assumption) (by omega)) (by omega) | exact MR.up (MR.up (MR.up (by assumption) (by omega)) (by omega)) (by omega)) x) ?_)
    rintro _ _ (⟨rfl, b10, rfl⟩ | ⟨rfl, b10, rfl⟩)
    ·
      refine ⟨_, rfl, ?_⟩
      refine R_ifF (nx := 16) rfl rfl rfl ?_
      refine R_lo (nx := 17) rfl rfl rfl rfl ?_
      refine R_call1 (nx := 20) (as := [(0, i)]) (rest := []) rfl rfl (fun _ _ => rfl) rfl rfl rfl rfl rfl rfl rfl rfl (Cl.mono (c_M_isSheet S i) ?_)
      rintro _ _ (⟨rfl, b17, rfl⟩ | ⟨rfl, b17, rfl⟩)
      ·
        try have k17 := hRR.2.2.2.2.2 i b17.1 b17.2
        try have ka17 := k17.1
        try have kz17 := k17.2.1
        try have q17 := hV.2.2.2.2.2 i b17.1 b17.2
        try have qa17 := q17.1
        try have qz17 := q17.2
        refine ⟨_, rfl, ?_⟩
        refine R_ifT (tg := 25) rfl rfl rfl ?_
        refine R_lo (nx := 26) rfl rfl rfl rfl ?_
        refine R_lo (nx := 27) rfl rfl rfl rfl ?_
        refine R_lo (nx := 29) rfl rfl rfl rfl ?_
        refine R_lo (nx := 30) rfl rfl rfl rfl ?_
        refine R_get (nx := 33) (w := (2, 72)) rfl rfl rfl rfl ?_
        refine R_lo (nx := 34) rfl rfl rfl rfl ?_
        refine R_iald (nx := 35) rfl rfl (mm_el_ok 1 5 (by decide) rfl (by decide) (by omega) (by omega)) ?_
        rw [n1]
        refine R_call1 (nx := 38) (as := [(2, 71), (0, i), (0, j), (0, (Xn (AK A c)))]) (rest := []) rfl rfl (fun _ _ => rfl) rfl rfl rfl rfl rfl rfl rfl rfl (Cl.mono (c_M_lacks S A (by assumption) hV i j (Xn (AK A c)) (by omega) (by assumption) ⟨by omega, by omega⟩) ?_)
        rintro _ _ ⟨rfl, rfl⟩
        refine ⟨_, rfl, ?_⟩
        refine R_lo (nx := 40) (ls' := [(2, 71), (0, c), (0, x), (0, i), (0, j), (0, (lackv (Aso A i) (Asz A i) j (Xn (AK A c)))), (9, 0)]) rfl rfl rfl rfl ?_
        refine R_op (nx := 41) rfl rfl rfl ?_
        refine R_lo (nx := 43) (ls' := [(2, 71), (0, c), (0, x), (0, i), (0, j), (0, (lackv (Aso A i) (Asz A i) j (Xn (AK A c)))), (0, 0)]) rfl rfl rfl rfl ?_
        have L43 : ∀ (f43 : Nat) (S1 : mm_S) (y : Int), ((Xn (AK A c)) - y).toNat < f43 → (0 ≤ y ∧ y ≤ (Xn (AK A c))) → (y = 0 ∨ lackv (Aso A i) (Asz A i) j (Xn (AK A c)) = 0) → (∀ i2 p, 0 ≤ p → p < 40 → S1 89 (40 * i2 + p) = if i2 = i ∧ (j ≤ p ∧ p < j + y) then Xe (AK A c) x (p - j) else S 89 (40 * i2 + p)) → (∀ b, b ≠ 89 → S1 b = S b) → Rn k_M_lay 43 [(2, 71), (0, c), (0, x), (0, i), (0, j), (0, (lackv (Aso A i) (Asz A i) j (Xn (AK A c)))), (0, y)] [] S1 (fun vv S' => vv = some (0, (Q_lay A c x i j).1) ∧ RR S' (Q_lay A c x i j).2 ∧ ∀ b, ¬ (71 ≤ b ∧ b < 91) → S' b = S b) := by
          intro f43
          induction f43 with
          | zero => intro S1 y hm43; exact absurd hm43 (Nat.not_lt_zero _)
          | succ f43 ih43 =>
            intro S1 y hm43 hy hl h9 hF
            have k9 : MR S1 c (AK A c) := k1.fr fun e p q => hF e (by omega)
            have n9 := k9.n
            refine R_lo (nx := 45) rfl rfl rfl rfl ?_
            refine R_lo (nx := 46) rfl rfl rfl rfl ?_
            refine R_get (nx := 49) (w := (2, 72)) rfl rfl rfl rfl ?_
            refine R_lo (nx := 50) rfl rfl rfl rfl ?_
            refine R_iald (nx := 51) rfl rfl (mm_el_ok 1 5 (by decide) rfl (by decide) (by omega) (by omega)) ?_
            rw [n9]
            refine R_icmp (nx := 54) (tg := 89) rfl rfl rfl (mm_cnd_ge _ _) (fun c51 => ?_) (fun c51 => ?_)
            ·
              refine R_lo (nx := 91) rfl rfl rfl rfl ?_
              refine R_if (nx := 94) (tg := 103) rfl rfl rfl (mm_cnd_ne _ _) (fun c91 => ?_) (fun c91 => ?_)
              ·
                refine R_lo (nx := 105) rfl rfl rfl rfl ?_
                refine R_ret rfl (fun _ _ => rfl) rfl rfl ?_
                by_cases e : lackv (Aso A i) (Asz A i) j (Xn (AK A c)) = 0
                · have ey : y = (Xn (AK A c)) := by omega
                  rw [show Q_lay A c x i j = ((Xn (AK A c)), Ash A i (Aso A i, Asz A i, fun p => if j ≤ p ∧ p < j + Xn (AK A c) then Xe (AK A c) x (p - j) else Apl A i p)) from by unfold Q_lay; rw [if_pos b1, if_pos b17, if_pos b10, if_pos e]]
                  first | (exfalso; omega) | exact ⟨rfl, hRR.sh (hF 71 (by decide)) (fun b hb => hF b (by omega)) (fun q => by rw [hF 87 (by decide), ← ka17]; split; rename_i e; rw [e]; rfl) (fun q => by rw [hF 88 (by decide), ← kz17]; split; rename_i e; rw [e]; rfl) (fun i2 q h0 h1 => by
                    rw [h9 i2 q h0 h1]
                    by_cases e2 : i2 = i
                    · rw [if_pos e2]
                      refine ifc (by omega) rfl ?_
                      rw [e2]; exact k17.2.2 q h0 h1
                    · rw [if_neg e2, if_neg (fun z => e2 z.1)]), fun b hb => hF b (by omega)⟩
                · have ey : y = 0 := by omega
                  rw [show Q_lay A c x i j = (lackv (Aso A i) (Asz A i) j (Xn (AK A c)), A) from by unfold Q_lay; rw [if_pos b1, if_pos b17, if_pos b10, if_neg e]]
                  first | (exfalso; omega) | exact ⟨rfl, hRR.fr (R71.of (hF 71 (by decide))) (fun b hb => by
                    by_cases e9 : b = 89
                    · subst e9
                      funext q
                      have := h9 (q / 40) (q % 40) (by omega) (by omega)
                      rw [show 40 * (q / 40) + q % 40 = q by omega, if_neg (by omega)] at this
                      exact this
                    · exact hF b e9), fun b hb => hF b (by omega)⟩
              ·
                replace c91 := Classical.not_not.mp c91
                refine R_lo (nx := 95) rfl rfl rfl rfl ?_
                refine R_get (nx := 98) (w := (2, 72)) rfl rfl rfl rfl ?_
                refine R_lo (nx := 99) rfl rfl rfl rfl ?_
                refine R_iald (nx := 100) rfl rfl (mm_el_ok 1 5 (by decide) rfl (by decide) (by omega) (by omega)) ?_
                rw [n9]
                refine R_op (nx := 103) (pc' := 105) rfl rfl rfl ?_
                refine R_ret rfl (fun _ _ => rfl) rfl rfl ?_
                by_cases e : lackv (Aso A i) (Asz A i) j (Xn (AK A c)) = 0
                · have ey : y = (Xn (AK A c)) := by omega
                  rw [show Q_lay A c x i j = ((Xn (AK A c)), Ash A i (Aso A i, Asz A i, fun p => if j ≤ p ∧ p < j + Xn (AK A c) then Xe (AK A c) x (p - j) else Apl A i p)) from by unfold Q_lay; rw [if_pos b1, if_pos b17, if_pos b10, if_pos e]]
                  first | (exfalso; omega) | exact ⟨rfl, hRR.sh (hF 71 (by decide)) (fun b hb => hF b (by omega)) (fun q => by rw [hF 87 (by decide), ← ka17]; split; rename_i e; rw [e]; rfl) (fun q => by rw [hF 88 (by decide), ← kz17]; split; rename_i e; rw [e]; rfl) (fun i2 q h0 h1 => by
                    rw [h9 i2 q h0 h1]
                    by_cases e2 : i2 = i
                    · rw [if_pos e2]
                      refine ifc (by omega) rfl ?_
                      rw [e2]; exact k17.2.2 q h0 h1
                    · rw [if_neg e2, if_neg (fun z => e2 z.1)]), fun b hb => hF b (by omega)⟩
                · have ey : y = 0 := by omega
                  rw [show Q_lay A c x i j = (lackv (Aso A i) (Asz A i) j (Xn (AK A c)), A) from by unfold Q_lay; rw [if_pos b1, if_pos b17, if_pos b10, if_neg e]]
                  first | (exfalso; omega) | exact ⟨rfl, hRR.fr (R71.of (hF 71 (by decide))) (fun b hb => by
                    by_cases e9 : b = 89
                    · subst e9
                      funext q
                      have := h9 (q / 40) (q % 40) (by omega) (by omega)
                      rw [show 40 * (q / 40) + q % 40 = q by omega, if_neg (by omega)] at this
                      exact this
                    · exact hF b e9), fun b hb => hF b (by omega)⟩
            ·
              refine R_lo (nx := 56) rfl rfl rfl rfl ?_
              refine R_if (nx := 59) (tg := 89) rfl rfl rfl (mm_cnd_ne _ _) (fun c56 => ?_) (fun c56 => ?_)
              ·
                refine R_lo (nx := 91) rfl rfl rfl rfl ?_
                refine R_if (nx := 94) (tg := 103) rfl rfl rfl (mm_cnd_ne _ _) (fun c91_1 => ?_) (fun c91_1 => ?_)
                ·
                  refine R_lo (nx := 105) rfl rfl rfl rfl ?_
                  refine R_ret rfl (fun _ _ => rfl) rfl rfl ?_
                  by_cases e : lackv (Aso A i) (Asz A i) j (Xn (AK A c)) = 0
                  · have ey : y = (Xn (AK A c)) := by omega
                    rw [show Q_lay A c x i j = ((Xn (AK A c)), Ash A i (Aso A i, Asz A i, fun p => if j ≤ p ∧ p < j + Xn (AK A c) then Xe (AK A c) x (p - j) else Apl A i p)) from by unfold Q_lay; rw [if_pos b1, if_pos b17, if_pos b10, if_pos e]]
                    first | (exfalso; omega) | exact ⟨rfl, hRR.sh (hF 71 (by decide)) (fun b hb => hF b (by omega)) (fun q => by rw [hF 87 (by decide), ← ka17]; split; rename_i e; rw [e]; rfl) (fun q => by rw [hF 88 (by decide), ← kz17]; split; rename_i e; rw [e]; rfl) (fun i2 q h0 h1 => by
                      rw [h9 i2 q h0 h1]
                      by_cases e2 : i2 = i
                      · rw [if_pos e2]
                        refine ifc (by omega) rfl ?_
                        rw [e2]; exact k17.2.2 q h0 h1
                      · rw [if_neg e2, if_neg (fun z => e2 z.1)]), fun b hb => hF b (by omega)⟩
                  · have ey : y = 0 := by omega
                    rw [show Q_lay A c x i j = (lackv (Aso A i) (Asz A i) j (Xn (AK A c)), A) from by unfold Q_lay; rw [if_pos b1, if_pos b17, if_pos b10, if_neg e]]
                    first | (exfalso; omega) | exact ⟨rfl, hRR.fr (R71.of (hF 71 (by decide))) (fun b hb => by
                      by_cases e9 : b = 89
                      · subst e9
                        funext q
                        have := h9 (q / 40) (q % 40) (by omega) (by omega)
                        rw [show 40 * (q / 40) + q % 40 = q by omega, if_neg (by omega)] at this
                        exact this
                      · exact hF b e9), fun b hb => hF b (by omega)⟩
                ·
                  replace c91_1 := Classical.not_not.mp c91_1
                  refine R_lo (nx := 95) rfl rfl rfl rfl ?_
                  refine R_get (nx := 98) (w := (2, 72)) rfl rfl rfl rfl ?_
                  refine R_lo (nx := 99) rfl rfl rfl rfl ?_
                  refine R_iald (nx := 100) rfl rfl (mm_el_ok 1 5 (by decide) rfl (by decide) (by omega) (by omega)) ?_
                  rw [n9]
                  refine R_op (nx := 103) (pc' := 105) rfl rfl rfl ?_
                  refine R_ret rfl (fun _ _ => rfl) rfl rfl ?_
                  by_cases e : lackv (Aso A i) (Asz A i) j (Xn (AK A c)) = 0
                  · have ey : y = (Xn (AK A c)) := by omega
                    rw [show Q_lay A c x i j = ((Xn (AK A c)), Ash A i (Aso A i, Asz A i, fun p => if j ≤ p ∧ p < j + Xn (AK A c) then Xe (AK A c) x (p - j) else Apl A i p)) from by unfold Q_lay; rw [if_pos b1, if_pos b17, if_pos b10, if_pos e]]
                    first | (exfalso; omega) | exact ⟨rfl, hRR.sh (hF 71 (by decide)) (fun b hb => hF b (by omega)) (fun q => by rw [hF 87 (by decide), ← ka17]; split; rename_i e; rw [e]; rfl) (fun q => by rw [hF 88 (by decide), ← kz17]; split; rename_i e; rw [e]; rfl) (fun i2 q h0 h1 => by
                      rw [h9 i2 q h0 h1]
                      by_cases e2 : i2 = i
                      · rw [if_pos e2]
                        refine ifc (by omega) rfl ?_
                        rw [e2]; exact k17.2.2 q h0 h1
                      · rw [if_neg e2, if_neg (fun z => e2 z.1)]), fun b hb => hF b (by omega)⟩
                  · have ey : y = 0 := by omega
                    rw [show Q_lay A c x i j = (lackv (Aso A i) (Asz A i) j (Xn (AK A c)), A) from by unfold Q_lay; rw [if_pos b1, if_pos b17, if_pos b10, if_neg e]]
                    first | (exfalso; omega) | exact ⟨rfl, hRR.fr (R71.of (hF 71 (by decide))) (fun b hb => by
                      by_cases e9 : b = 89
                      · subst e9
                        funext q
                        have := h9 (q / 40) (q % 40) (by omega) (by omega)
                        rw [show 40 * (q / 40) + q % 40 = q by omega, if_neg (by omega)] at this
                        exact this
                      · exact hF b e9), fun b hb => hF b (by omega)⟩
              ·
                replace c56 := Classical.not_not.mp c56
                have l56 := lackv_0 c56
                have u56 := l56.2.2
                unfold Outs at u56
                refine R_lo (nx := 60) rfl rfl rfl rfl ?_
                refine R_get (nx := 63) (w := (2, 89)) rfl rfl rfl rfl ?_
                refine R_op (nx := 65) rfl rfl rfl ?_
                refine R_lo (nx := 66) rfl rfl rfl rfl ?_
                refine R_imul (nx := 67) (z := (40 * i)) rfl rfl rfl ⟨by omega, by omega⟩ ?_
                refine R_lo (nx := 69) rfl rfl rfl rfl ?_
                refine R_iadd (nx := 70) (z := ((40 * i) + j)) rfl rfl rfl ⟨by omega, by omega⟩ ?_
                refine R_lo (nx := 72) rfl rfl rfl rfl ?_
                refine R_iadd (nx := 73) (z := (((40 * i) + j) + y)) rfl rfl rfl ⟨by omega, by omega⟩ ?_
                refine R_lo (nx := 74) rfl rfl rfl rfl ?_
                refine R_lo (nx := 75) rfl rfl rfl rfl ?_
                refine R_lo (nx := 76) rfl rfl rfl rfl ?_
                refine R_lo (nx := 78) rfl rfl rfl rfl ?_
                refine R_call1 (nx := 81) (as := [(2, 71), (0, c), (0, x), (0, y)]) (rest := [(0, (((40 * i) + j) + y)), (2, 89)]) rfl rfl (fun _ _ => rfl) rfl rfl rfl rfl rfl rfl rfl rfl (Cl.mono (c_M_edge S1 c (by omega) (AK A c) (show MRr S1 c (AK A c) by first | assumption | exact MR.r (by assumption) | exact MRr.up (by assumption) (by omega) | exact MRr.up (MR.r (by assumption)) (by omega) | exact MRr.up (MRr.up (MR.r (by assumption)) (by omega)) (by omega)) x y (by omega) (by omega)) ?_)
                rintro _ _ ⟨rfl, rfl⟩
                refine ⟨_, rfl, ?_⟩
                refine R_op (nx := 82) (st' := [(1, (Xe (AK A c) x y)), (0, (((40 * i) + j) + y)), (2, 89)]) rfl rfl rfl ?_
                refine R_last (nx := 83) rfl rfl (mm_el_ok 2 160 (by decide) rfl (by decide) (by omega) (by omega)) ?_
                refine R_iinc (nx := 86) (z := (y + 1)) (ls' := [(2, 71), (0, c), (0, x), (0, i), (0, j), (0, (lackv (Aso A i) (Asz A i) j (Xn (AK A c)))), (0, (y + 1))]) rfl rfl rfl rfl ⟨by omega, by omega⟩ rfl ?_
                refine R_op (nx := 89) (pc' := 43) rfl rfl rfl ?_
                refine Rn.weak (ls' := [(2, 71), (0, c), (0, x), (0, i), (0, j), (0, (lackv (Aso A i) (Asz A i) j (Xn (AK A c)))), (0, (y + 1))]) ⟨Or.inl rfl, ⟨Or.inl rfl, ⟨Or.inl rfl, ⟨Or.inl rfl, ⟨Or.inl rfl, ⟨Or.inl rfl, ⟨Or.inl rfl, trivial⟩⟩⟩⟩⟩⟩⟩ ?_
                refine ih43 ((mm_up S1 89 (((40 * i) + j) + y) (Xe (AK A c) x y))) ((y + 1)) ?_ ?_ ?_ ?_ ?_
                · omega
                · omega
                · exact Or.inr c56
                · intro i2 p q r
                  by_cases e : i2 = i ∧ p = j + y
                  · rw [e.1, e.2, if_pos (by omega), show 40 * i + (j + y) = 40 * i + j + y by omega, mm_ua, show j + y - j = y by omega]
                  · rw [mm_uk (by omega), h9 i2 p q r]; exact ifc (by omega) rfl rfl
                · intro b hb; rw [mm_unq hb]; exact hF b hb
        refine Rn.weak (ls' := [(2, 71), (0, c), (0, x), (0, i), (0, j), (0, (lackv (Aso A i) (Asz A i) j (Xn (AK A c)))), (0, 0)]) ⟨Or.inl rfl, ⟨Or.inl rfl, ⟨Or.inl rfl, ⟨Or.inl rfl, ⟨Or.inl rfl, ⟨Or.inl rfl, ⟨Or.inl rfl, trivial⟩⟩⟩⟩⟩⟩⟩ ?_
        refine L43 (((Xn (AK A c)) - (0)).toNat + 1) (S) (0) (Nat.lt_succ_self _) ?_ ?_ ?_ ?_
        · omega
        · exact Or.inl rfl
        · intro i2 p q r; rw [if_neg (by omega)]
        · intro b hb; rfl
      ·
        try have k17 := hRR.2.2.2.2.2 i b17.1 b17.2
        try have ka17 := k17.1
        try have kz17 := k17.2.1
        try have q17 := hV.2.2.2.2.2 i b17.1 b17.2
        try have qa17 := q17.1
        try have qz17 := q17.2
        refine ⟨_, rfl, ?_⟩
        refine R_ifF (nx := 23) rfl rfl rfl ?_
        refine R_op (nx := 24) rfl rfl rfl ?_
        refine R_ret rfl (fun _ _ => rfl) rfl rfl ?_
        first | (exfalso; omega) | (rw [show Q_lay A c x i j = ((-1), A) from by simp only [Q_lay, b1, b10, b17, ifo, ifm, ifp, iffq, ↓reduceIte, ite_self, and_self, and_true, true_and, and_false, false_and, or_true, true_or, or_false, false_or, or_self, not_true_eq_false, not_false_eq_true, ne_eq]]; exact ⟨rfl, hRR, fun b _ => rfl⟩)
    ·
      refine ⟨_, rfl, ?_⟩
      refine R_ifT (tg := 23) rfl rfl rfl ?_
      refine R_op (nx := 24) rfl rfl rfl ?_
      refine R_ret rfl (fun _ _ => rfl) rfl rfl ?_
      first | (exfalso; omega) | (rw [show Q_lay A c x i j = ((-1), A) from by simp only [Q_lay, b1, b10, ifo, ifm, ifp, iffq, ↓reduceIte, ite_self, and_self, and_true, true_and, and_false, false_and, or_true, true_or, or_false, false_or, or_self, not_true_eq_false, not_false_eq_true, ne_eq]]; exact ⟨rfl, hRR, fun b _ => rfl⟩)
  ·
    try have k1 := hRR.k b1.1 b1.2
    try have n1 := k1.n
    try have z1 := k1.1.nr
    try have v1 := hV.1 _ b1.1 b1.2
    try have r1 := v1.2.1
    refine ⟨_, rfl, ?_⟩
    refine R_ifT (tg := 23) rfl rfl rfl ?_
    refine R_op (nx := 24) rfl rfl rfl ?_
    refine R_ret rfl (fun _ _ => rfl) rfl rfl ?_
    first | (exfalso; omega) | (rw [show Q_lay A c x i j = ((-1), A) from by simp only [Q_lay, b1, ifo, ifm, ifp, iffq, ↓reduceIte, ite_self, and_self, and_true, true_and, and_false, false_and, or_true, true_or, or_false, false_or, or_self, not_true_eq_false, not_false_eq_true, ne_eq]]; exact ⟨rfl, hRR, fun b _ => rfl⟩)

set_option maxRecDepth 20000 in
set_option maxHeartbeats 4000000 in
theorem c_M_take (S : mm_S) (A : mm_A) (hRR : RR S A) (hV : Vs A) (i j c x : Int) (hj : mm_r32 j) : Cl 114 [(2, 71), (0, i), (0, j), (0, c), (0, x)] S (fun vv S' => vv = some (0, (Q_take A i j c x).1) ∧ RR S' (Q_take A i j c x).2 ∧ ∀ b, ¬ (71 ≤ b ∧ b < 91) → S' b = S b) := by
  refine ⟨Nat.le_of_ble_eq_true rfl, ?_⟩
  show Rn k_M_take 0 [(2, 71), (0, i), (0, j), (0, c), (0, x), (9, 0), (9, 0), (9, 0), (9, 0), (9, 0), (9, 0)] [] S _
  refine R_lo (nx := 1) rfl rfl rfl rfl ?_
  refine R_call1 (nx := 4) (as := [(0, c)]) (rest := []) rfl rfl (fun _ _ => rfl) rfl rfl rfl rfl rfl rfl rfl rfl (Cl.mono (c_M_isComplex S c) ?_)
  rintro _ _ (⟨rfl, b1, rfl⟩ | ⟨rfl, b1, rfl⟩)
  ·
    try have k1 := hRR.k b1.1 b1.2
    try have n1 := k1.n
    try have z1 := k1.1.nr
    try have v1 := hV.1 _ b1.1 b1.2
    try have r1 := v1.2.1
    refine ⟨_, rfl, ?_⟩
    refine R_ifF (nx := 7) rfl rfl rfl ?_
    refine R_lo (nx := 8) rfl rfl rfl rfl ?_
    refine R_lo (nx := 9) rfl rfl rfl rfl ?_
    refine R_lo (nx := 11) rfl rfl rfl rfl ?_
    refine R_call1 (nx := 14) (as := [(2, 71), (0, c), (0, x)]) (rest := []) rfl rfl (fun _ _ => rfl) rfl rfl rfl rfl rfl rfl rfl rfl (Cl.mono (c_M_isCell S c (by omega) (AK A c) (show MR S c (AK A c) by first | assumption | exact MR.up (by assumption) (by omega) | exact MR.up (MR.up (by assumption) (by omega)) (by omega) | exact MR.up (MR.up (MR.up (by assumption) (by omega)) (by omega)) (by omega)) x) ?_)
    rintro _ _ (⟨rfl, b11, rfl⟩ | ⟨rfl, b11, rfl⟩)
    ·
      refine ⟨_, rfl, ?_⟩
      refine R_ifF (nx := 17) rfl rfl rfl ?_
      refine R_lo (nx := 18) rfl rfl rfl rfl ?_
      refine R_call1 (nx := 21) (as := [(0, i)]) (rest := []) rfl rfl (fun _ _ => rfl) rfl rfl rfl rfl rfl rfl rfl rfl (Cl.mono (c_M_isSheet S i) ?_)
      rintro _ _ (⟨rfl, b18, rfl⟩ | ⟨rfl, b18, rfl⟩)
      ·
        try have k18 := hRR.2.2.2.2.2 i b18.1 b18.2
        try have ka18 := k18.1
        try have kz18 := k18.2.1
        try have q18 := hV.2.2.2.2.2 i b18.1 b18.2
        try have qa18 := q18.1
        try have qz18 := q18.2
        refine ⟨_, rfl, ?_⟩
        refine R_ifT (tg := 26) rfl rfl rfl ?_
        refine R_lo (nx := 27) rfl rfl rfl rfl ?_
        refine R_lo (nx := 28) rfl rfl rfl rfl ?_
        refine R_lo (nx := 29) rfl rfl rfl rfl ?_
        refine R_lo (nx := 30) rfl rfl rfl rfl ?_
        refine R_get (nx := 33) (w := (2, 72)) rfl rfl rfl rfl ?_
        refine R_lo (nx := 34) rfl rfl rfl rfl ?_
        refine R_iald (nx := 35) rfl rfl (mm_el_ok 1 5 (by decide) rfl (by decide) (by omega) (by omega)) ?_
        rw [n1]
        refine R_call1 (nx := 38) (as := [(2, 71), (0, i), (0, j), (0, (Xn (AK A c)))]) (rest := []) rfl rfl (fun _ _ => rfl) rfl rfl rfl rfl rfl rfl rfl rfl (Cl.mono (c_M_lacks S A (by assumption) hV i j (Xn (AK A c)) (by omega) (by assumption) ⟨by omega, by omega⟩) ?_)
        rintro _ _ ⟨rfl, rfl⟩
        refine ⟨_, rfl, ?_⟩
        refine R_lo (nx := 40) (ls' := [(2, 71), (0, i), (0, j), (0, c), (0, x), (0, (lackv (Aso A i) (Asz A i) j (Xn (AK A c)))), (9, 0), (9, 0), (9, 0), (9, 0), (9, 0)]) rfl rfl rfl rfl ?_
        refine R_lo (nx := 42) rfl rfl rfl rfl ?_
        refine R_if (nx := 45) (tg := 48) rfl rfl rfl (mm_cnd_eq _ _) (fun c42 => ?_) (fun c42 => ?_)
        ·
          have e51 : lackv (Aso A i) (Asz A i) j (Xn (AK A c)) = 0 := c42
          have l51 := lackv_0 e51
          have u51 := l51.2.2
          unfold Outs at u51
          refine R_op (nx := 49) rfl rfl rfl ?_
          refine R_lo (nx := 51) (ls' := [(2, 71), (0, i), (0, j), (0, c), (0, x), (0, (lackv (Aso A i) (Asz A i) j (Xn (AK A c)))), (0, 1), (9, 0), (9, 0), (9, 0), (9, 0)]) rfl rfl rfl rfl ?_
          refine R_op (nx := 52) rfl rfl rfl ?_
          refine R_lo (nx := 54) (ls' := [(2, 71), (0, i), (0, j), (0, c), (0, x), (0, (lackv (Aso A i) (Asz A i) j (Xn (AK A c)))), (0, 1), (0, 0), (9, 0), (9, 0), (9, 0)]) rfl rfl rfl rfl ?_
          refine R_op (nx := 55) rfl rfl rfl ?_
          refine R_lo (nx := 57) (ls' := [(2, 71), (0, i), (0, j), (0, c), (0, x), (0, (lackv (Aso A i) (Asz A i) j (Xn (AK A c)))), (0, 1), (0, 0), (0, 0), (9, 0), (9, 0)]) rfl rfl rfl rfl ?_
          have L57 : ∀ (f57 : Nat) (gd : Int) (acc : Int) (y : Int), ((Xn (AK A c)) - y).toNat < f57 → (0 ≤ y ∧ y ≤ (Xn (AK A c))) → ((gd = 1 ∧ sm (tkb (AK A c) x fun y => Apl A i (j + y)) y = 0) ∨ (gd = 0 ∧ sm (tkb (AK A c) x fun y => Apl A i (j + y)) (Xn (AK A c)) ≠ 0)) → (0 ≤ acc ∧ acc ≤ y) → (acc = sm (fun y => if Apl A i (j + y) = Xe (AK A c) x y then 0 else 1) y) → Rn k_M_take 57 [(2, 71), (0, i), (0, j), (0, c), (0, x), (9, 0), (0, gd), (0, acc), (0, y), (9, 0), (9, 0)] [] S (fun vv S' => vv = some (0, (Q_take A i j c x).1) ∧ RR S' (Q_take A i j c x).2 ∧ ∀ b, ¬ (71 ≤ b ∧ b < 91) → S' b = S b) := by
            intro f57
            induction f57 with
            | zero => intro gd acc y hm57; exact absurd hm57 (Nat.not_lt_zero _)
            | succ f57 ih57 =>
              intro gd acc y hm57 hy hg hb ha
              refine R_lo (nx := 59) rfl rfl rfl rfl ?_
              refine R_lo (nx := 60) rfl rfl rfl rfl ?_
              refine R_get (nx := 63) (w := (2, 72)) rfl rfl rfl rfl ?_
              refine R_lo (nx := 64) rfl rfl rfl rfl ?_
              refine R_iald (nx := 65) rfl rfl (mm_el_ok 1 5 (by decide) rfl (by decide) (by omega) (by omega)) ?_
              rw [n1]
              refine R_icmp (nx := 68) (tg := 165) rfl rfl rfl (mm_cnd_ge _ _) (fun c65 => ?_) (fun c65 => ?_)
              ·
                have ey57 : (Xn (AK A c)) = y := by omega
                have hacc : sm (fun y => if Apl A i (j + y) = Xe (AK A c) x y then 0 else 1) (Xn (AK A c)) = acc := by rw [ey57]; exact ha.symm
                have hgo : ¬ gd = 0 → sm (tkb (AK A c) x fun y => Apl A i (j + y)) (Xn (AK A c)) = 0 := fun q => by rcases hg with hg | hg; rw [ey57]; exact hg.2; exact absurd hg.1 q
                refine R_op (nx := 166) rfl rfl rfl ?_
                refine R_lo (nx := 168) (ls' := [(2, 71), (0, i), (0, j), (0, c), (0, x), (9, 0), (0, gd), (0, acc), (0, 0), (9, 0), (9, 0)]) rfl rfl rfl rfl ?_
                have L168 : ∀ (f168 : Nat) (S1 : mm_S) (y : Int), ((Xn (AK A c)) - y).toNat < f168 → (0 ≤ y ∧ y ≤ (Xn (AK A c))) → (y = 0 ∨ ¬ gd = 0) → (MR S1 c (Xrow (AK A c) x y (fun y => Apl A i (j + y)))) → (Oth S S1 c) → (∀ b, b ≠ 75 → S1 b = S b) → Rn k_M_take 168 [(2, 71), (0, i), (0, j), (0, c), (0, x), (9, 0), (0, gd), (0, acc), (0, y), (9, 0), (9, 0)] [] S1 (fun vv S' => vv = some (0, (Q_take A i j c x).1) ∧ RR S' (Q_take A i j c x).2 ∧ ∀ b, ¬ (71 ≤ b ∧ b < 91) → S' b = S b) := by
                  intro f168
                  induction f168 with
                  | zero => intro S1 y hm168; exact absurd hm168 (Nat.not_lt_zero _)
                  | succ f168 ih168 =>
                    intro S1 y hm168 hy hl hM hO hF
                    have n9 : S1 72 c = Xn (AK A c) := hM.n
                    refine R_lo (nx := 170) rfl rfl rfl rfl ?_
                    refine R_lo (nx := 171) rfl rfl rfl rfl ?_
                    refine R_get (nx := 174) (w := (2, 72)) rfl rfl rfl rfl ?_
                    refine R_lo (nx := 175) rfl rfl rfl rfl ?_
                    refine R_iald (nx := 176) rfl rfl (mm_el_ok 1 5 (by decide) rfl (by decide) (by omega) (by omega)) ?_
                    rw [n9]
                    refine R_icmp (nx := 179) (tg := 224) rfl rfl rfl (mm_cnd_ge _ _) (fun c176 => ?_) (fun c176 => ?_)
                    ·
                      refine R_lo (nx := 226) rfl rfl rfl rfl ?_
                      refine R_if (nx := 229) (tg := 234) rfl rfl rfl (mm_cnd_eq _ _) (fun c226 => ?_) (fun c226 => ?_)
                      ·
                        refine R_op (nx := 235) rfl rfl rfl ?_
                        refine R_ret rfl (fun _ _ => rfl) rfl rfl ?_
                        by_cases eg : gd = 0
                        · have hbad : sm (tkb (AK A c) x fun y => Apl A i (j + y)) (Xn (AK A c)) ≠ 0 := by
                            rcases hg with hg | hg
                            · omega
                            · exact hg.2
                          have ey : y = 0 := by omega
                          subst ey
                          rw [Xrow_0] at hM
                          rw [show Q_take A i j c x = (-1, A) from by unfold Q_take; rw [if_pos b1, if_pos b18, if_pos b11, if_pos e51, if_neg hbad]]
                          first | (exfalso; omega) | exact ⟨rfl, by have := hRR.kc hM hO (R71.of (hF 71 (by decide))) fun b hb => hF b (by omega); rw [Akc_same] at this; exact this, fun b hb => hF b (by omega)⟩
                        · have hgood := hgo eg
                          have ey : y = (Xn (AK A c)) := by omega
                          subst ey
                          rw [show Q_take A i j c x = (acc, Akc A c (Xrow (AK A c) x (Xn (AK A c)) (fun y => Apl A i (j + y)))) from by unfold Q_take; rw [if_pos b1, if_pos b18, if_pos b11, if_pos e51, if_pos hgood, hacc]]
                          first | (exfalso; omega) | exact ⟨rfl, hRR.kc hM hO (R71.of (hF 71 (by decide))) fun b hb => hF b (by omega), fun b hb => hF b (by omega)⟩
                      ·
                        refine R_lo (nx := 231) rfl rfl rfl rfl ?_
                        refine R_op (nx := 234) (pc' := 235) rfl rfl rfl ?_
                        refine R_ret rfl (fun _ _ => rfl) rfl rfl ?_
                        by_cases eg : gd = 0
                        · have hbad : sm (tkb (AK A c) x fun y => Apl A i (j + y)) (Xn (AK A c)) ≠ 0 := by
                            rcases hg with hg | hg
                            · omega
                            · exact hg.2
                          have ey : y = 0 := by omega
                          subst ey
                          rw [Xrow_0] at hM
                          rw [show Q_take A i j c x = (-1, A) from by unfold Q_take; rw [if_pos b1, if_pos b18, if_pos b11, if_pos e51, if_neg hbad]]
                          first | (exfalso; omega) | exact ⟨rfl, by have := hRR.kc hM hO (R71.of (hF 71 (by decide))) fun b hb => hF b (by omega); rw [Akc_same] at this; exact this, fun b hb => hF b (by omega)⟩
                        · have hgood := hgo eg
                          have ey : y = (Xn (AK A c)) := by omega
                          subst ey
                          rw [show Q_take A i j c x = (acc, Akc A c (Xrow (AK A c) x (Xn (AK A c)) (fun y => Apl A i (j + y)))) from by unfold Q_take; rw [if_pos b1, if_pos b18, if_pos b11, if_pos e51, if_pos hgood, hacc]]
                          first | (exfalso; omega) | exact ⟨rfl, hRR.kc hM hO (R71.of (hF 71 (by decide))) fun b hb => hF b (by omega), fun b hb => hF b (by omega)⟩
                    ·
                      refine R_lo (nx := 181) rfl rfl rfl rfl ?_
                      refine R_if (nx := 184) (tg := 224) rfl rfl rfl (mm_cnd_eq _ _) (fun c181 => ?_) (fun c181 => ?_)
                      ·
                        refine R_lo (nx := 226) rfl rfl rfl rfl ?_
                        refine R_if (nx := 229) (tg := 234) rfl rfl rfl (mm_cnd_eq _ _) (fun c226_1 => ?_) (fun c226_1 => ?_)
                        ·
                          refine R_op (nx := 235) rfl rfl rfl ?_
                          refine R_ret rfl (fun _ _ => rfl) rfl rfl ?_
                          by_cases eg : gd = 0
                          · have hbad : sm (tkb (AK A c) x fun y => Apl A i (j + y)) (Xn (AK A c)) ≠ 0 := by
                              rcases hg with hg | hg
                              · omega
                              · exact hg.2
                            have ey : y = 0 := by omega
                            subst ey
                            rw [Xrow_0] at hM
                            rw [show Q_take A i j c x = (-1, A) from by unfold Q_take; rw [if_pos b1, if_pos b18, if_pos b11, if_pos e51, if_neg hbad]]
                            first | (exfalso; omega) | exact ⟨rfl, by have := hRR.kc hM hO (R71.of (hF 71 (by decide))) fun b hb => hF b (by omega); rw [Akc_same] at this; exact this, fun b hb => hF b (by omega)⟩
                          · have hgood := hgo eg
                            have ey : y = (Xn (AK A c)) := by omega
                            subst ey
                            rw [show Q_take A i j c x = (acc, Akc A c (Xrow (AK A c) x (Xn (AK A c)) (fun y => Apl A i (j + y)))) from by unfold Q_take; rw [if_pos b1, if_pos b18, if_pos b11, if_pos e51, if_pos hgood, hacc]]
                            first | (exfalso; omega) | exact ⟨rfl, hRR.kc hM hO (R71.of (hF 71 (by decide))) fun b hb => hF b (by omega), fun b hb => hF b (by omega)⟩
                        ·
                          refine R_lo (nx := 231) rfl rfl rfl rfl ?_
                          refine R_op (nx := 234) (pc' := 235) rfl rfl rfl ?_
                          refine R_ret rfl (fun _ _ => rfl) rfl rfl ?_
                          by_cases eg : gd = 0
                          · have hbad : sm (tkb (AK A c) x fun y => Apl A i (j + y)) (Xn (AK A c)) ≠ 0 := by
                              rcases hg with hg | hg
                              · omega
                              · exact hg.2
                            have ey : y = 0 := by omega
                            subst ey
                            rw [Xrow_0] at hM
                            rw [show Q_take A i j c x = (-1, A) from by unfold Q_take; rw [if_pos b1, if_pos b18, if_pos b11, if_pos e51, if_neg hbad]]
                            first | (exfalso; omega) | exact ⟨rfl, by have := hRR.kc hM hO (R71.of (hF 71 (by decide))) fun b hb => hF b (by omega); rw [Akc_same] at this; exact this, fun b hb => hF b (by omega)⟩
                          · have hgood := hgo eg
                            have ey : y = (Xn (AK A c)) := by omega
                            subst ey
                            rw [show Q_take A i j c x = (acc, Akc A c (Xrow (AK A c) x (Xn (AK A c)) (fun y => Apl A i (j + y)))) from by unfold Q_take; rw [if_pos b1, if_pos b18, if_pos b11, if_pos e51, if_pos hgood, hacc]]
                            first | (exfalso; omega) | exact ⟨rfl, hRR.kc hM hO (R71.of (hF 71 (by decide))) fun b hb => hF b (by omega), fun b hb => hF b (by omega)⟩
                      ·
                        have hg0 : ¬ gd = 0 := c181
                        refine R_lo (nx := 185) rfl rfl rfl rfl ?_
                        refine R_get (nx := 188) (w := (2, 75)) rfl rfl rfl rfl ?_
                        refine R_op (nx := 191) rfl rfl rfl ?_
                        refine R_lo (nx := 192) rfl rfl rfl rfl ?_
                        refine R_imul (nx := 193) (z := (144 * c)) rfl rfl rfl ⟨by omega, by omega⟩ ?_
                        refine R_op (nx := 195) rfl rfl rfl ?_
                        refine R_lo (nx := 197) rfl rfl rfl rfl ?_
                        refine R_imul (nx := 198) (z := (12 * x)) rfl rfl rfl ⟨by omega, by omega⟩ ?_
                        refine R_iadd (nx := 199) (z := ((144 * c) + (12 * x))) rfl rfl rfl ⟨by omega, by omega⟩ ?_
                        refine R_lo (nx := 201) rfl rfl rfl rfl ?_
                        refine R_iadd (nx := 202) (z := (((144 * c) + (12 * x)) + y)) rfl rfl rfl ⟨by omega, by omega⟩ ?_
                        refine R_lo (nx := 203) rfl rfl rfl rfl ?_
                        refine R_get (nx := 206) (w := (2, 89)) rfl rfl rfl rfl ?_
                        refine R_op (nx := 208) rfl rfl rfl ?_
                        refine R_lo (nx := 209) rfl rfl rfl rfl ?_
                        refine R_imul (nx := 210) (z := (40 * i)) rfl rfl rfl ⟨by omega, by omega⟩ ?_
                        refine R_lo (nx := 211) rfl rfl rfl rfl ?_
                        refine R_iadd (nx := 212) (z := ((40 * i) + j)) rfl rfl rfl ⟨by omega, by omega⟩ ?_
                        refine R_lo (nx := 214) rfl rfl rfl rfl ?_
                        refine R_iadd (nx := 215) (z := (((40 * i) + j) + y)) rfl rfl rfl ⟨by omega, by omega⟩ ?_
                        refine R_lald (nx := 216) rfl rfl (mm_el_ok 2 160 (by decide) rfl (by decide) (by omega) (by omega)) ?_
                        rw [show S1 89 (40 * i + j + y) = Apl A i (j + y) from by rw [hF 89 (by decide), Int.add_assoc]; exact k18.2.2 (j + y) (by omega) (by omega)]
                        refine R_op (nx := 217) (st' := [(0, (mm_w32 (Apl A i (j + y)))), (0, (((144 * c) + (12 * x)) + y)), (2, 75)]) rfl rfl rfl ?_
                        refine R_cv (w := (Apl A i (j + y))) (by exact mm_w32_id (by have := (tkb_all (hgo hg0) (y := y) (by omega)).1; omega)) ?_
                        refine R_iast (nx := 218) rfl rfl (mm_el_ok 1 720 (by decide) rfl (by decide) (by omega) (by omega)) ?_
                        refine R_iinc (nx := 221) (z := (y + 1)) (ls' := [(2, 71), (0, i), (0, j), (0, c), (0, x), (9, 0), (0, gd), (0, acc), (0, (y + 1)), (9, 0), (9, 0)]) rfl rfl rfl rfl ⟨by omega, by omega⟩ rfl ?_
                        refine R_op (nx := 224) (pc' := 168) rfl rfl rfl ?_
                        refine Rn.weak (ls' := [(2, 71), (0, i), (0, j), (0, c), (0, x), (9, 0), (0, gd), (0, acc), (0, (y + 1)), (9, 0), (9, 0)]) ⟨Or.inl rfl, ⟨Or.inl rfl, ⟨Or.inl rfl, ⟨Or.inl rfl, ⟨Or.inl rfl, ⟨Or.inl rfl, ⟨Or.inl rfl, ⟨Or.inl rfl, ⟨Or.inl rfl, ⟨Or.inl rfl, ⟨Or.inl rfl, trivial⟩⟩⟩⟩⟩⟩⟩⟩⟩⟩⟩ ?_
                        refine ih168 ((mm_up S1 75 (((144 * c) + (12 * x)) + y) (Apl A i (j + y)))) ((y + 1)) ?_ ?_ ?_ ?_ ?_ ?_
                        · omega
                        · omega
                        · exact Or.inr c181
                        · rw [← Xrow_s b11 (by omega)]; exact hM.set b11 (show 0 ≤ y ∧ y < Xn (AK A c) by omega)
                        · exact hO.u75 _ (by omega)
                        · intro b hb; rw [mm_unq hb]; exact hF b hb
                refine Rn.weak (ls' := [(2, 71), (0, i), (0, j), (0, c), (0, x), (9, 0), (0, gd), (0, acc), (0, 0), (9, 0), (9, 0)]) ⟨Or.inl rfl, ⟨Or.inl rfl, ⟨Or.inl rfl, ⟨Or.inl rfl, ⟨Or.inl rfl, ⟨Or.inl rfl, ⟨Or.inl rfl, ⟨Or.inl rfl, ⟨Or.inl rfl, ⟨Or.inl rfl, ⟨Or.inl rfl, trivial⟩⟩⟩⟩⟩⟩⟩⟩⟩⟩⟩ ?_
                refine L168 (((Xn (AK A c)) - (0)).toNat + 1) (S) (0) (Nat.lt_succ_self _) ?_ ?_ ?_ ?_ ?_
                · omega
                · exact Or.inl rfl
                · rw [Xrow_0]; exact k1
                · exact Oth.rf S c
                · intro b hb; rfl
              ·
                refine R_lo (nx := 69) rfl rfl rfl rfl ?_
                refine R_get (nx := 72) (w := (2, 89)) rfl rfl rfl rfl ?_
                refine R_op (nx := 74) rfl rfl rfl ?_
                refine R_lo (nx := 75) rfl rfl rfl rfl ?_
                refine R_imul (nx := 76) (z := (40 * i)) rfl rfl rfl ⟨by omega, by omega⟩ ?_
                refine R_lo (nx := 77) rfl rfl rfl rfl ?_
                refine R_iadd (nx := 78) (z := ((40 * i) + j)) rfl rfl rfl ⟨by omega, by omega⟩ ?_
                refine R_lo (nx := 80) rfl rfl rfl rfl ?_
                refine R_iadd (nx := 81) (z := (((40 * i) + j) + y)) rfl rfl rfl ⟨by omega, by omega⟩ ?_
                refine R_lald (nx := 82) rfl rfl (mm_el_ok 2 160 (by decide) rfl (by decide) (by omega) (by omega)) ?_
                rw [show S 89 (40 * i + j + y) = Apl A i (j + y) from by rw [Int.add_assoc]; exact k18.2.2 (j + y) (by omega) (by omega)]
                refine R_lo (nx := 84) (ls' := [(2, 71), (0, i), (0, j), (0, c), (0, x), (9, 0), (0, gd), (0, acc), (0, y), (1, (Apl A i (j + y))), (9, 0)]) rfl rfl rfl rfl ?_
                refine R_lo (nx := 86) rfl rfl rfl rfl ?_
                refine R_if (nx := 89) (tg := 130) rfl rfl rfl (mm_cnd_eq _ _) (fun c86 => ?_) (fun c86 => ?_)
                ·
                  refine R_op (nx := 131) rfl rfl rfl ?_
                  refine R_lo (nx := 133) (ls' := [(2, 71), (0, i), (0, j), (0, c), (0, x), (9, 0), (0, 0), (0, acc), (0, y), (1, (Apl A i (j + y))), (9, 0)]) rfl rfl rfl rfl ?_
                  refine R_lo (nx := 135) rfl rfl rfl rfl ?_
                  refine R_lo (nx := 137) rfl rfl rfl rfl ?_
                  refine R_lo (nx := 138) rfl rfl rfl rfl ?_
                  refine R_lo (nx := 139) rfl rfl rfl rfl ?_
                  refine R_lo (nx := 141) rfl rfl rfl rfl ?_
                  refine R_lo (nx := 143) rfl rfl rfl rfl ?_
                  refine R_call1 (nx := 146) (as := [(2, 71), (0, c), (0, x), (0, y)]) (rest := [(1, (Apl A i (j + y))), (0, acc)]) rfl rfl (fun _ _ => rfl) rfl rfl rfl rfl rfl rfl rfl rfl (Cl.mono (c_M_edge S c (by omega) (AK A c) (show MRr S c (AK A c) by first | assumption | exact MR.r (by assumption) | exact MRr.up (by assumption) (by omega) | exact MRr.up (MR.r (by assumption)) (by omega) | exact MRr.up (MRr.up (MR.r (by assumption)) (by omega)) (by omega)) x y (by omega) (by omega)) ?_)
                  rintro _ _ ⟨rfl, rfl⟩
                  refine ⟨_, rfl, ?_⟩
                  refine R_op (nx := 147) (st' := [(1, (Xe (AK A c) x y)), (1, (Apl A i (j + y))), (0, acc)]) rfl rfl rfl ?_
                  refine R_op (nx := 148) (st' := [(0, (if (Xe (AK A c) x y) < (Apl A i (j + y)) then 1 else if (Apl A i (j + y)) = (Xe (AK A c) x y) then 0 else -1)), (0, acc)]) rfl rfl rfl ?_
                  refine R_if (nx := 151) (tg := 155) rfl rfl rfl (mm_lc_eq _ _) (fun c148 => ?_) (fun c148 => ?_)
                  ·
                    refine R_op (nx := 156) rfl rfl rfl ?_
                    refine R_iadd (nx := 157) (z := (acc + 0)) rfl rfl rfl ⟨by omega, by omega⟩ ?_
                    refine R_lo (nx := 159) (ls' := [(2, 71), (0, i), (0, j), (0, c), (0, x), (9, 0), (0, 0), (0, (acc + 0)), (0, y), (1, (Apl A i (j + y))), (9, 0)]) rfl rfl rfl rfl ?_
                    refine R_iinc (nx := 162) (z := (y + 1)) (ls' := [(2, 71), (0, i), (0, j), (0, c), (0, x), (9, 0), (0, 0), (0, (acc + 0)), (0, (y + 1)), (1, (Apl A i (j + y))), (9, 0)]) rfl rfl rfl rfl ⟨by omega, by omega⟩ rfl ?_
                    refine R_op (nx := 165) (pc' := 57) rfl rfl rfl ?_
                    refine Rn.weak (ls' := [(2, 71), (0, i), (0, j), (0, c), (0, x), (9, 0), (0, 0), (0, (acc + 0)), (0, (y + 1)), (9, 0), (9, 0)]) ⟨Or.inl rfl, ⟨Or.inl rfl, ⟨Or.inl rfl, ⟨Or.inl rfl, ⟨Or.inl rfl, ⟨Or.inl rfl, ⟨Or.inl rfl, ⟨Or.inl rfl, ⟨Or.inl rfl, ⟨Or.inr rfl, ⟨Or.inl rfl, trivial⟩⟩⟩⟩⟩⟩⟩⟩⟩⟩⟩ ?_
                    refine ih57 (0) ((acc + 0)) ((y + 1)) ?_ ?_ ?_ ?_ ?_
                    · omega
                    · omega
                    · first | (rcases hg with hg | hg; exact absurd c86 (by omega); exact Or.inr ⟨rfl, hg.2⟩) | exact Or.inr ⟨rfl, tkb_bad (tkb_1 (p := fun y => Apl A i (j + y)) (Or.inl (show ¬ (-9 ≤ Apl A i (j + y) ∧ Apl A i (j + y) ≤ 9) by omega))) (by omega)⟩ | exact Or.inr ⟨rfl, tkb_bad (tkb_1 (p := fun y => Apl A i (j + y)) (Or.inr ⟨c111, b120⟩)) (by omega)⟩ | (refine Or.inl ⟨rfl, ?_⟩; have hh : sm (tkb (AK A c) x fun y => Apl A i (j + y)) y = 0 := (by rcases hg with hg | hg; exact hg.2; exact absurd hg.1 c86); rw [sm_s _ hy.1, hh, tkb_0 (p := fun y => Apl A i (j + y)) (show -9 ≤ Apl A i (j + y) ∧ Apl A i (j + y) ≤ 9 by omega) (by first | exact Or.inr b120 | exact Or.inl c111)]; rfl)
                    · omega
                    · rw [sm_s _ hy.1, ← ha]; first | rw [if_pos (by omega)] | rw [if_neg (by omega)]
                  ·
                    refine R_op (nx := 152) rfl rfl rfl ?_
                    refine R_op (nx := 155) (pc' := 156) rfl rfl rfl ?_
                    refine R_iadd (nx := 157) (z := (acc + 1)) rfl rfl rfl ⟨by omega, by omega⟩ ?_
                    refine R_lo (nx := 159) (ls' := [(2, 71), (0, i), (0, j), (0, c), (0, x), (9, 0), (0, 0), (0, (acc + 1)), (0, y), (1, (Apl A i (j + y))), (9, 0)]) rfl rfl rfl rfl ?_
                    refine R_iinc (nx := 162) (z := (y + 1)) (ls' := [(2, 71), (0, i), (0, j), (0, c), (0, x), (9, 0), (0, 0), (0, (acc + 1)), (0, (y + 1)), (1, (Apl A i (j + y))), (9, 0)]) rfl rfl rfl rfl ⟨by omega, by omega⟩ rfl ?_
                    refine R_op (nx := 165) (pc' := 57) rfl rfl rfl ?_
                    refine Rn.weak (ls' := [(2, 71), (0, i), (0, j), (0, c), (0, x), (9, 0), (0, 0), (0, (acc + 1)), (0, (y + 1)), (9, 0), (9, 0)]) ⟨Or.inl rfl, ⟨Or.inl rfl, ⟨Or.inl rfl, ⟨Or.inl rfl, ⟨Or.inl rfl, ⟨Or.inl rfl, ⟨Or.inl rfl, ⟨Or.inl rfl, ⟨Or.inl rfl, ⟨Or.inr rfl, ⟨Or.inl rfl, trivial⟩⟩⟩⟩⟩⟩⟩⟩⟩⟩⟩ ?_
                    refine ih57 (0) ((acc + 1)) ((y + 1)) ?_ ?_ ?_ ?_ ?_
                    · omega
                    · omega
                    · first | (rcases hg with hg | hg; exact absurd c86 (by omega); exact Or.inr ⟨rfl, hg.2⟩) | exact Or.inr ⟨rfl, tkb_bad (tkb_1 (p := fun y => Apl A i (j + y)) (Or.inl (show ¬ (-9 ≤ Apl A i (j + y) ∧ Apl A i (j + y) ≤ 9) by omega))) (by omega)⟩ | exact Or.inr ⟨rfl, tkb_bad (tkb_1 (p := fun y => Apl A i (j + y)) (Or.inr ⟨c111, b120⟩)) (by omega)⟩ | (refine Or.inl ⟨rfl, ?_⟩; have hh : sm (tkb (AK A c) x fun y => Apl A i (j + y)) y = 0 := (by rcases hg with hg | hg; exact hg.2; exact absurd hg.1 c86); rw [sm_s _ hy.1, hh, tkb_0 (p := fun y => Apl A i (j + y)) (show -9 ≤ Apl A i (j + y) ∧ Apl A i (j + y) ≤ 9 by omega) (by first | exact Or.inr b120 | exact Or.inl c111)]; rfl)
                    · omega
                    · rw [sm_s _ hy.1, ← ha]; first | rw [if_pos (by omega)] | rw [if_neg (by omega)]
                ·
                  refine R_lo (nx := 91) rfl rfl rfl rfl ?_
                  refine R_op (nx := 94) rfl rfl rfl ?_
                  refine R_op (nx := 95) (st' := [(0, (if (-9) < (Apl A i (j + y)) then 1 else if (Apl A i (j + y)) = (-9) then 0 else -1))]) rfl rfl rfl ?_
                  refine R_if (nx := 98) (tg := 130) rfl rfl rfl (mm_lc_lt _ _) (fun c95 => ?_) (fun c95 => ?_)
                  ·
                    refine R_op (nx := 131) rfl rfl rfl ?_
                    refine R_lo (nx := 133) (ls' := [(2, 71), (0, i), (0, j), (0, c), (0, x), (9, 0), (0, 0), (0, acc), (0, y), (1, (Apl A i (j + y))), (9, 0)]) rfl rfl rfl rfl ?_
                    refine R_lo (nx := 135) rfl rfl rfl rfl ?_
                    refine R_lo (nx := 137) rfl rfl rfl rfl ?_
                    refine R_lo (nx := 138) rfl rfl rfl rfl ?_
                    refine R_lo (nx := 139) rfl rfl rfl rfl ?_
                    refine R_lo (nx := 141) rfl rfl rfl rfl ?_
                    refine R_lo (nx := 143) rfl rfl rfl rfl ?_
                    refine R_call1 (nx := 146) (as := [(2, 71), (0, c), (0, x), (0, y)]) (rest := [(1, (Apl A i (j + y))), (0, acc)]) rfl rfl (fun _ _ => rfl) rfl rfl rfl rfl rfl rfl rfl rfl (Cl.mono (c_M_edge S c (by omega) (AK A c) (show MRr S c (AK A c) by first | assumption | exact MR.r (by assumption) | exact MRr.up (by assumption) (by omega) | exact MRr.up (MR.r (by assumption)) (by omega) | exact MRr.up (MRr.up (MR.r (by assumption)) (by omega)) (by omega)) x y (by omega) (by omega)) ?_)
                    rintro _ _ ⟨rfl, rfl⟩
                    refine ⟨_, rfl, ?_⟩
                    refine R_op (nx := 147) (st' := [(1, (Xe (AK A c) x y)), (1, (Apl A i (j + y))), (0, acc)]) rfl rfl rfl ?_
                    refine R_op (nx := 148) (st' := [(0, (if (Xe (AK A c) x y) < (Apl A i (j + y)) then 1 else if (Apl A i (j + y)) = (Xe (AK A c) x y) then 0 else -1)), (0, acc)]) rfl rfl rfl ?_
                    refine R_if (nx := 151) (tg := 155) rfl rfl rfl (mm_lc_eq _ _) (fun c148_1 => ?_) (fun c148_1 => ?_)
                    ·
                      refine R_op (nx := 156) rfl rfl rfl ?_
                      refine R_iadd (nx := 157) (z := (acc + 0)) rfl rfl rfl ⟨by omega, by omega⟩ ?_
                      refine R_lo (nx := 159) (ls' := [(2, 71), (0, i), (0, j), (0, c), (0, x), (9, 0), (0, 0), (0, (acc + 0)), (0, y), (1, (Apl A i (j + y))), (9, 0)]) rfl rfl rfl rfl ?_
                      refine R_iinc (nx := 162) (z := (y + 1)) (ls' := [(2, 71), (0, i), (0, j), (0, c), (0, x), (9, 0), (0, 0), (0, (acc + 0)), (0, (y + 1)), (1, (Apl A i (j + y))), (9, 0)]) rfl rfl rfl rfl ⟨by omega, by omega⟩ rfl ?_
                      refine R_op (nx := 165) (pc' := 57) rfl rfl rfl ?_
                      refine Rn.weak (ls' := [(2, 71), (0, i), (0, j), (0, c), (0, x), (9, 0), (0, 0), (0, (acc + 0)), (0, (y + 1)), (9, 0), (9, 0)]) ⟨Or.inl rfl, ⟨Or.inl rfl, ⟨Or.inl rfl, ⟨Or.inl rfl, ⟨Or.inl rfl, ⟨Or.inl rfl, ⟨Or.inl rfl, ⟨Or.inl rfl, ⟨Or.inl rfl, ⟨Or.inr rfl, ⟨Or.inl rfl, trivial⟩⟩⟩⟩⟩⟩⟩⟩⟩⟩⟩ ?_
                      refine ih57 (0) ((acc + 0)) ((y + 1)) ?_ ?_ ?_ ?_ ?_
                      · omega
                      · omega
                      · first | (rcases hg with hg | hg; exact absurd c86 (by omega); exact Or.inr ⟨rfl, hg.2⟩) | exact Or.inr ⟨rfl, tkb_bad (tkb_1 (p := fun y => Apl A i (j + y)) (Or.inl (show ¬ (-9 ≤ Apl A i (j + y) ∧ Apl A i (j + y) ≤ 9) by omega))) (by omega)⟩ | exact Or.inr ⟨rfl, tkb_bad (tkb_1 (p := fun y => Apl A i (j + y)) (Or.inr ⟨c111, b120⟩)) (by omega)⟩ | (refine Or.inl ⟨rfl, ?_⟩; have hh : sm (tkb (AK A c) x fun y => Apl A i (j + y)) y = 0 := (by rcases hg with hg | hg; exact hg.2; exact absurd hg.1 c86); rw [sm_s _ hy.1, hh, tkb_0 (p := fun y => Apl A i (j + y)) (show -9 ≤ Apl A i (j + y) ∧ Apl A i (j + y) ≤ 9 by omega) (by first | exact Or.inr b120 | exact Or.inl c111)]; rfl)
                      · omega
                      · rw [sm_s _ hy.1, ← ha]; first | rw [if_pos (by omega)] | rw [if_neg (by omega)]
                    ·
                      refine R_op (nx := 152) rfl rfl rfl ?_
                      refine R_op (nx := 155) (pc' := 156) rfl rfl rfl ?_
                      refine R_iadd (nx := 157) (z := (acc + 1)) rfl rfl rfl ⟨by omega, by omega⟩ ?_
                      refine R_lo (nx := 159) (ls' := [(2, 71), (0, i), (0, j), (0, c), (0, x), (9, 0), (0, 0), (0, (acc + 1)), (0, y), (1, (Apl A i (j + y))), (9, 0)]) rfl rfl rfl rfl ?_
                      refine R_iinc (nx := 162) (z := (y + 1)) (ls' := [(2, 71), (0, i), (0, j), (0, c), (0, x), (9, 0), (0, 0), (0, (acc + 1)), (0, (y + 1)), (1, (Apl A i (j + y))), (9, 0)]) rfl rfl rfl rfl ⟨by omega, by omega⟩ rfl ?_
                      refine R_op (nx := 165) (pc' := 57) rfl rfl rfl ?_
                      refine Rn.weak (ls' := [(2, 71), (0, i), (0, j), (0, c), (0, x), (9, 0), (0, 0), (0, (acc + 1)), (0, (y + 1)), (9, 0), (9, 0)]) ⟨Or.inl rfl, ⟨Or.inl rfl, ⟨Or.inl rfl, ⟨Or.inl rfl, ⟨Or.inl rfl, ⟨Or.inl rfl, ⟨Or.inl rfl, ⟨Or.inl rfl, ⟨Or.inl rfl, ⟨Or.inr rfl, ⟨Or.inl rfl, trivial⟩⟩⟩⟩⟩⟩⟩⟩⟩⟩⟩ ?_
                      refine ih57 (0) ((acc + 1)) ((y + 1)) ?_ ?_ ?_ ?_ ?_
                      · omega
                      · omega
                      · first | (rcases hg with hg | hg; exact absurd c86 (by omega); exact Or.inr ⟨rfl, hg.2⟩) | exact Or.inr ⟨rfl, tkb_bad (tkb_1 (p := fun y => Apl A i (j + y)) (Or.inl (show ¬ (-9 ≤ Apl A i (j + y) ∧ Apl A i (j + y) ≤ 9) by omega))) (by omega)⟩ | exact Or.inr ⟨rfl, tkb_bad (tkb_1 (p := fun y => Apl A i (j + y)) (Or.inr ⟨c111, b120⟩)) (by omega)⟩ | (refine Or.inl ⟨rfl, ?_⟩; have hh : sm (tkb (AK A c) x fun y => Apl A i (j + y)) y = 0 := (by rcases hg with hg | hg; exact hg.2; exact absurd hg.1 c86); rw [sm_s _ hy.1, hh, tkb_0 (p := fun y => Apl A i (j + y)) (show -9 ≤ Apl A i (j + y) ∧ Apl A i (j + y) ≤ 9 by omega) (by first | exact Or.inr b120 | exact Or.inl c111)]; rfl)
                      · omega
                      · rw [sm_s _ hy.1, ← ha]; first | rw [if_pos (by omega)] | rw [if_neg (by omega)]
                  ·
                    refine R_lo (nx := 100) rfl rfl rfl rfl ?_
                    refine R_op (nx := 103) rfl rfl rfl ?_
                    refine R_op (nx := 104) (st' := [(0, (if 9 < (Apl A i (j + y)) then 1 else if (Apl A i (j + y)) = 9 then 0 else -1))]) rfl rfl rfl ?_
                    refine R_if (nx := 107) (tg := 130) rfl rfl rfl (mm_lc_gt _ _) (fun c104 => ?_) (fun c104 => ?_)
                    ·
                      refine R_op (nx := 131) rfl rfl rfl ?_
                      refine R_lo (nx := 133) (ls' := [(2, 71), (0, i), (0, j), (0, c), (0, x), (9, 0), (0, 0), (0, acc), (0, y), (1, (Apl A i (j + y))), (9, 0)]) rfl rfl rfl rfl ?_
                      refine R_lo (nx := 135) rfl rfl rfl rfl ?_
                      refine R_lo (nx := 137) rfl rfl rfl rfl ?_
                      refine R_lo (nx := 138) rfl rfl rfl rfl ?_
                      refine R_lo (nx := 139) rfl rfl rfl rfl ?_
                      refine R_lo (nx := 141) rfl rfl rfl rfl ?_
                      refine R_lo (nx := 143) rfl rfl rfl rfl ?_
                      refine R_call1 (nx := 146) (as := [(2, 71), (0, c), (0, x), (0, y)]) (rest := [(1, (Apl A i (j + y))), (0, acc)]) rfl rfl (fun _ _ => rfl) rfl rfl rfl rfl rfl rfl rfl rfl (Cl.mono (c_M_edge S c (by omega) (AK A c) (show MRr S c (AK A c) by first | assumption | exact MR.r (by assumption) | exact MRr.up (by assumption) (by omega) | exact MRr.up (MR.r (by assumption)) (by omega) | exact MRr.up (MRr.up (MR.r (by assumption)) (by omega)) (by omega)) x y (by omega) (by omega)) ?_)
                      rintro _ _ ⟨rfl, rfl⟩
                      refine ⟨_, rfl, ?_⟩
                      refine R_op (nx := 147) (st' := [(1, (Xe (AK A c) x y)), (1, (Apl A i (j + y))), (0, acc)]) rfl rfl rfl ?_
                      refine R_op (nx := 148) (st' := [(0, (if (Xe (AK A c) x y) < (Apl A i (j + y)) then 1 else if (Apl A i (j + y)) = (Xe (AK A c) x y) then 0 else -1)), (0, acc)]) rfl rfl rfl ?_
                      refine R_if (nx := 151) (tg := 155) rfl rfl rfl (mm_lc_eq _ _) (fun c148_2 => ?_) (fun c148_2 => ?_)
                      ·
                        refine R_op (nx := 156) rfl rfl rfl ?_
                        refine R_iadd (nx := 157) (z := (acc + 0)) rfl rfl rfl ⟨by omega, by omega⟩ ?_
                        refine R_lo (nx := 159) (ls' := [(2, 71), (0, i), (0, j), (0, c), (0, x), (9, 0), (0, 0), (0, (acc + 0)), (0, y), (1, (Apl A i (j + y))), (9, 0)]) rfl rfl rfl rfl ?_
                        refine R_iinc (nx := 162) (z := (y + 1)) (ls' := [(2, 71), (0, i), (0, j), (0, c), (0, x), (9, 0), (0, 0), (0, (acc + 0)), (0, (y + 1)), (1, (Apl A i (j + y))), (9, 0)]) rfl rfl rfl rfl ⟨by omega, by omega⟩ rfl ?_
                        refine R_op (nx := 165) (pc' := 57) rfl rfl rfl ?_
                        refine Rn.weak (ls' := [(2, 71), (0, i), (0, j), (0, c), (0, x), (9, 0), (0, 0), (0, (acc + 0)), (0, (y + 1)), (9, 0), (9, 0)]) ⟨Or.inl rfl, ⟨Or.inl rfl, ⟨Or.inl rfl, ⟨Or.inl rfl, ⟨Or.inl rfl, ⟨Or.inl rfl, ⟨Or.inl rfl, ⟨Or.inl rfl, ⟨Or.inl rfl, ⟨Or.inr rfl, ⟨Or.inl rfl, trivial⟩⟩⟩⟩⟩⟩⟩⟩⟩⟩⟩ ?_
                        refine ih57 (0) ((acc + 0)) ((y + 1)) ?_ ?_ ?_ ?_ ?_
                        · omega
                        · omega
                        · first | (rcases hg with hg | hg; exact absurd c86 (by omega); exact Or.inr ⟨rfl, hg.2⟩) | exact Or.inr ⟨rfl, tkb_bad (tkb_1 (p := fun y => Apl A i (j + y)) (Or.inl (show ¬ (-9 ≤ Apl A i (j + y) ∧ Apl A i (j + y) ≤ 9) by omega))) (by omega)⟩ | exact Or.inr ⟨rfl, tkb_bad (tkb_1 (p := fun y => Apl A i (j + y)) (Or.inr ⟨c111, b120⟩)) (by omega)⟩ | (refine Or.inl ⟨rfl, ?_⟩; have hh : sm (tkb (AK A c) x fun y => Apl A i (j + y)) y = 0 := (by rcases hg with hg | hg; exact hg.2; exact absurd hg.1 c86); rw [sm_s _ hy.1, hh, tkb_0 (p := fun y => Apl A i (j + y)) (show -9 ≤ Apl A i (j + y) ∧ Apl A i (j + y) ≤ 9 by omega) (by first | exact Or.inr b120 | exact Or.inl c111)]; rfl)
                        · omega
                        · rw [sm_s _ hy.1, ← ha]; first | rw [if_pos (by omega)] | rw [if_neg (by omega)]
                      ·
                        refine R_op (nx := 152) rfl rfl rfl ?_
                        refine R_op (nx := 155) (pc' := 156) rfl rfl rfl ?_
                        refine R_iadd (nx := 157) (z := (acc + 1)) rfl rfl rfl ⟨by omega, by omega⟩ ?_
                        refine R_lo (nx := 159) (ls' := [(2, 71), (0, i), (0, j), (0, c), (0, x), (9, 0), (0, 0), (0, (acc + 1)), (0, y), (1, (Apl A i (j + y))), (9, 0)]) rfl rfl rfl rfl ?_
                        refine R_iinc (nx := 162) (z := (y + 1)) (ls' := [(2, 71), (0, i), (0, j), (0, c), (0, x), (9, 0), (0, 0), (0, (acc + 1)), (0, (y + 1)), (1, (Apl A i (j + y))), (9, 0)]) rfl rfl rfl rfl ⟨by omega, by omega⟩ rfl ?_
                        refine R_op (nx := 165) (pc' := 57) rfl rfl rfl ?_
                        refine Rn.weak (ls' := [(2, 71), (0, i), (0, j), (0, c), (0, x), (9, 0), (0, 0), (0, (acc + 1)), (0, (y + 1)), (9, 0), (9, 0)]) ⟨Or.inl rfl, ⟨Or.inl rfl, ⟨Or.inl rfl, ⟨Or.inl rfl, ⟨Or.inl rfl, ⟨Or.inl rfl, ⟨Or.inl rfl, ⟨Or.inl rfl, ⟨Or.inl rfl, ⟨Or.inr rfl, ⟨Or.inl rfl, trivial⟩⟩⟩⟩⟩⟩⟩⟩⟩⟩⟩ ?_
                        refine ih57 (0) ((acc + 1)) ((y + 1)) ?_ ?_ ?_ ?_ ?_
                        · omega
                        · omega
                        · first | (rcases hg with hg | hg; exact absurd c86 (by omega); exact Or.inr ⟨rfl, hg.2⟩) | exact Or.inr ⟨rfl, tkb_bad (tkb_1 (p := fun y => Apl A i (j + y)) (Or.inl (show ¬ (-9 ≤ Apl A i (j + y) ∧ Apl A i (j + y) ≤ 9) by omega))) (by omega)⟩ | exact Or.inr ⟨rfl, tkb_bad (tkb_1 (p := fun y => Apl A i (j + y)) (Or.inr ⟨c111, b120⟩)) (by omega)⟩ | (refine Or.inl ⟨rfl, ?_⟩; have hh : sm (tkb (AK A c) x fun y => Apl A i (j + y)) y = 0 := (by rcases hg with hg | hg; exact hg.2; exact absurd hg.1 c86); rw [sm_s _ hy.1, hh, tkb_0 (p := fun y => Apl A i (j + y)) (show -9 ≤ Apl A i (j + y) ∧ Apl A i (j + y) ≤ 9 by omega) (by first | exact Or.inr b120 | exact Or.inl c111)]; rfl)
                        · omega
                        · rw [sm_s _ hy.1, ← ha]; first | rw [if_pos (by omega)] | rw [if_neg (by omega)]
                    ·
                      refine R_lo (nx := 109) rfl rfl rfl rfl ?_
                      refine R_op (nx := 110) (st' := [(1, 0), (1, (Apl A i (j + y)))]) rfl rfl rfl ?_
                      refine R_op (nx := 111) (st' := [(0, (if 0 < (Apl A i (j + y)) then 1 else if (Apl A i (j + y)) = 0 then 0 else -1))]) rfl rfl rfl ?_
                      refine R_if (nx := 114) (tg := 126) rfl rfl rfl (mm_lc_eq _ _) (fun c111 => ?_) (fun c111 => ?_)
                      ·
                        refine R_op (nx := 127) rfl rfl rfl ?_
                        refine R_op (nx := 130) (pc' := 131) rfl rfl rfl ?_
                        refine R_lo (nx := 133) (ls' := [(2, 71), (0, i), (0, j), (0, c), (0, x), (9, 0), (0, 1), (0, acc), (0, y), (1, (Apl A i (j + y))), (9, 0)]) rfl rfl rfl rfl ?_
                        refine R_lo (nx := 135) rfl rfl rfl rfl ?_
                        refine R_lo (nx := 137) rfl rfl rfl rfl ?_
                        refine R_lo (nx := 138) rfl rfl rfl rfl ?_
                        refine R_lo (nx := 139) rfl rfl rfl rfl ?_
                        refine R_lo (nx := 141) rfl rfl rfl rfl ?_
                        refine R_lo (nx := 143) rfl rfl rfl rfl ?_
                        refine R_call1 (nx := 146) (as := [(2, 71), (0, c), (0, x), (0, y)]) (rest := [(1, (Apl A i (j + y))), (0, acc)]) rfl rfl (fun _ _ => rfl) rfl rfl rfl rfl rfl rfl rfl rfl (Cl.mono (c_M_edge S c (by omega) (AK A c) (show MRr S c (AK A c) by first | assumption | exact MR.r (by assumption) | exact MRr.up (by assumption) (by omega) | exact MRr.up (MR.r (by assumption)) (by omega) | exact MRr.up (MRr.up (MR.r (by assumption)) (by omega)) (by omega)) x y (by omega) (by omega)) ?_)
                        rintro _ _ ⟨rfl, rfl⟩
                        refine ⟨_, rfl, ?_⟩
                        refine R_op (nx := 147) (st' := [(1, (Xe (AK A c) x y)), (1, (Apl A i (j + y))), (0, acc)]) rfl rfl rfl ?_
                        refine R_op (nx := 148) (st' := [(0, (if (Xe (AK A c) x y) < (Apl A i (j + y)) then 1 else if (Apl A i (j + y)) = (Xe (AK A c) x y) then 0 else -1)), (0, acc)]) rfl rfl rfl ?_
                        refine R_if (nx := 151) (tg := 155) rfl rfl rfl (mm_lc_eq _ _) (fun c148_3 => ?_) (fun c148_3 => ?_)
                        ·
                          refine R_op (nx := 156) rfl rfl rfl ?_
                          refine R_iadd (nx := 157) (z := (acc + 0)) rfl rfl rfl ⟨by omega, by omega⟩ ?_
                          refine R_lo (nx := 159) (ls' := [(2, 71), (0, i), (0, j), (0, c), (0, x), (9, 0), (0, 1), (0, (acc + 0)), (0, y), (1, (Apl A i (j + y))), (9, 0)]) rfl rfl rfl rfl ?_
                          refine R_iinc (nx := 162) (z := (y + 1)) (ls' := [(2, 71), (0, i), (0, j), (0, c), (0, x), (9, 0), (0, 1), (0, (acc + 0)), (0, (y + 1)), (1, (Apl A i (j + y))), (9, 0)]) rfl rfl rfl rfl ⟨by omega, by omega⟩ rfl ?_
                          refine R_op (nx := 165) (pc' := 57) rfl rfl rfl ?_
                          refine Rn.weak (ls' := [(2, 71), (0, i), (0, j), (0, c), (0, x), (9, 0), (0, 1), (0, (acc + 0)), (0, (y + 1)), (9, 0), (9, 0)]) ⟨Or.inl rfl, ⟨Or.inl rfl, ⟨Or.inl rfl, ⟨Or.inl rfl, ⟨Or.inl rfl, ⟨Or.inl rfl, ⟨Or.inl rfl, ⟨Or.inl rfl, ⟨Or.inl rfl, ⟨Or.inr rfl, ⟨Or.inl rfl, trivial⟩⟩⟩⟩⟩⟩⟩⟩⟩⟩⟩ ?_
                          refine ih57 (1) ((acc + 0)) ((y + 1)) ?_ ?_ ?_ ?_ ?_
                          · omega
                          · omega
                          · first | (rcases hg with hg | hg; exact absurd c86 (by omega); exact Or.inr ⟨rfl, hg.2⟩) | exact Or.inr ⟨rfl, tkb_bad (tkb_1 (p := fun y => Apl A i (j + y)) (Or.inl (show ¬ (-9 ≤ Apl A i (j + y) ∧ Apl A i (j + y) ≤ 9) by omega))) (by omega)⟩ | exact Or.inr ⟨rfl, tkb_bad (tkb_1 (p := fun y => Apl A i (j + y)) (Or.inr ⟨c111, b120⟩)) (by omega)⟩ | (refine Or.inl ⟨rfl, ?_⟩; have hh : sm (tkb (AK A c) x fun y => Apl A i (j + y)) y = 0 := (by rcases hg with hg | hg; exact hg.2; exact absurd hg.1 c86); rw [sm_s _ hy.1, hh, tkb_0 (p := fun y => Apl A i (j + y)) (show -9 ≤ Apl A i (j + y) ∧ Apl A i (j + y) ≤ 9 by omega) (by first | exact Or.inr b120 | exact Or.inl c111)]; rfl)
                          · omega
                          · rw [sm_s _ hy.1, ← ha]; first | rw [if_pos (by omega)] | rw [if_neg (by omega)]
                        ·
                          refine R_op (nx := 152) rfl rfl rfl ?_
                          refine R_op (nx := 155) (pc' := 156) rfl rfl rfl ?_
                          refine R_iadd (nx := 157) (z := (acc + 1)) rfl rfl rfl ⟨by omega, by omega⟩ ?_
                          refine R_lo (nx := 159) (ls' := [(2, 71), (0, i), (0, j), (0, c), (0, x), (9, 0), (0, 1), (0, (acc + 1)), (0, y), (1, (Apl A i (j + y))), (9, 0)]) rfl rfl rfl rfl ?_
                          refine R_iinc (nx := 162) (z := (y + 1)) (ls' := [(2, 71), (0, i), (0, j), (0, c), (0, x), (9, 0), (0, 1), (0, (acc + 1)), (0, (y + 1)), (1, (Apl A i (j + y))), (9, 0)]) rfl rfl rfl rfl ⟨by omega, by omega⟩ rfl ?_
                          refine R_op (nx := 165) (pc' := 57) rfl rfl rfl ?_
                          refine Rn.weak (ls' := [(2, 71), (0, i), (0, j), (0, c), (0, x), (9, 0), (0, 1), (0, (acc + 1)), (0, (y + 1)), (9, 0), (9, 0)]) ⟨Or.inl rfl, ⟨Or.inl rfl, ⟨Or.inl rfl, ⟨Or.inl rfl, ⟨Or.inl rfl, ⟨Or.inl rfl, ⟨Or.inl rfl, ⟨Or.inl rfl, ⟨Or.inl rfl, ⟨Or.inr rfl, ⟨Or.inl rfl, trivial⟩⟩⟩⟩⟩⟩⟩⟩⟩⟩⟩ ?_
                          refine ih57 (1) ((acc + 1)) ((y + 1)) ?_ ?_ ?_ ?_ ?_
                          · omega
                          · omega
                          · first | (rcases hg with hg | hg; exact absurd c86 (by omega); exact Or.inr ⟨rfl, hg.2⟩) | exact Or.inr ⟨rfl, tkb_bad (tkb_1 (p := fun y => Apl A i (j + y)) (Or.inl (show ¬ (-9 ≤ Apl A i (j + y) ∧ Apl A i (j + y) ≤ 9) by omega))) (by omega)⟩ | exact Or.inr ⟨rfl, tkb_bad (tkb_1 (p := fun y => Apl A i (j + y)) (Or.inr ⟨c111, b120⟩)) (by omega)⟩ | (refine Or.inl ⟨rfl, ?_⟩; have hh : sm (tkb (AK A c) x fun y => Apl A i (j + y)) y = 0 := (by rcases hg with hg | hg; exact hg.2; exact absurd hg.1 c86); rw [sm_s _ hy.1, hh, tkb_0 (p := fun y => Apl A i (j + y)) (show -9 ≤ Apl A i (j + y) ∧ Apl A i (j + y) ≤ 9 by omega) (by first | exact Or.inr b120 | exact Or.inl c111)]; rfl)
                          · omega
                          · rw [sm_s _ hy.1, ← ha]; first | rw [if_pos (by omega)] | rw [if_neg (by omega)]
                      ·
                        refine R_lo (nx := 115) rfl rfl rfl rfl ?_
                        refine R_lo (nx := 116) rfl rfl rfl rfl ?_
                        refine R_lo (nx := 118) rfl rfl rfl rfl ?_
                        refine R_lo (nx := 120) rfl rfl rfl rfl ?_
                        refine R_call1 (nx := 123) (as := [(2, 71), (0, c), (0, x), (0, y)]) (rest := []) rfl rfl (fun _ _ => rfl) rfl rfl rfl rfl rfl rfl rfl rfl (Cl.mono (c_M_may S c (by omega) (AK A c) (show MRr S c (AK A c) by first | assumption | exact MR.r (by assumption) | exact MRr.up (by assumption) (by omega) | exact MRr.up (MR.r (by assumption)) (by omega) | exact MRr.up (MRr.up (MR.r (by assumption)) (by omega)) (by omega)) (by assumption) x y (by omega) (by omega)) ?_)
                        rintro _ _ (⟨rfl, b120, rfl⟩ | ⟨rfl, b120, rfl⟩)
                        ·
                          refine ⟨_, rfl, ?_⟩
                          refine R_ifF (nx := 126) rfl rfl rfl ?_
                          refine R_op (nx := 127) rfl rfl rfl ?_
                          refine R_op (nx := 130) (pc' := 131) rfl rfl rfl ?_
                          refine R_lo (nx := 133) (ls' := [(2, 71), (0, i), (0, j), (0, c), (0, x), (9, 0), (0, 1), (0, acc), (0, y), (1, (Apl A i (j + y))), (9, 0)]) rfl rfl rfl rfl ?_
                          refine R_lo (nx := 135) rfl rfl rfl rfl ?_
                          refine R_lo (nx := 137) rfl rfl rfl rfl ?_
                          refine R_lo (nx := 138) rfl rfl rfl rfl ?_
                          refine R_lo (nx := 139) rfl rfl rfl rfl ?_
                          refine R_lo (nx := 141) rfl rfl rfl rfl ?_
                          refine R_lo (nx := 143) rfl rfl rfl rfl ?_
                          refine R_call1 (nx := 146) (as := [(2, 71), (0, c), (0, x), (0, y)]) (rest := [(1, (Apl A i (j + y))), (0, acc)]) rfl rfl (fun _ _ => rfl) rfl rfl rfl rfl rfl rfl rfl rfl (Cl.mono (c_M_edge S c (by omega) (AK A c) (show MRr S c (AK A c) by first | assumption | exact MR.r (by assumption) | exact MRr.up (by assumption) (by omega) | exact MRr.up (MR.r (by assumption)) (by omega) | exact MRr.up (MRr.up (MR.r (by assumption)) (by omega)) (by omega)) x y (by omega) (by omega)) ?_)
                          rintro _ _ ⟨rfl, rfl⟩
                          refine ⟨_, rfl, ?_⟩
                          refine R_op (nx := 147) (st' := [(1, (Xe (AK A c) x y)), (1, (Apl A i (j + y))), (0, acc)]) rfl rfl rfl ?_
                          refine R_op (nx := 148) (st' := [(0, (if (Xe (AK A c) x y) < (Apl A i (j + y)) then 1 else if (Apl A i (j + y)) = (Xe (AK A c) x y) then 0 else -1)), (0, acc)]) rfl rfl rfl ?_
                          refine R_if (nx := 151) (tg := 155) rfl rfl rfl (mm_lc_eq _ _) (fun c148_4 => ?_) (fun c148_4 => ?_)
                          ·
                            refine R_op (nx := 156) rfl rfl rfl ?_
                            refine R_iadd (nx := 157) (z := (acc + 0)) rfl rfl rfl ⟨by omega, by omega⟩ ?_
                            refine R_lo (nx := 159) (ls' := [(2, 71), (0, i), (0, j), (0, c), (0, x), (9, 0), (0, 1), (0, (acc + 0)), (0, y), (1, (Apl A i (j + y))), (9, 0)]) rfl rfl rfl rfl ?_
                            refine R_iinc (nx := 162) (z := (y + 1)) (ls' := [(2, 71), (0, i), (0, j), (0, c), (0, x), (9, 0), (0, 1), (0, (acc + 0)), (0, (y + 1)), (1, (Apl A i (j + y))), (9, 0)]) rfl rfl rfl rfl ⟨by omega, by omega⟩ rfl ?_
                            refine R_op (nx := 165) (pc' := 57) rfl rfl rfl ?_
                            refine Rn.weak (ls' := [(2, 71), (0, i), (0, j), (0, c), (0, x), (9, 0), (0, 1), (0, (acc + 0)), (0, (y + 1)), (9, 0), (9, 0)]) ⟨Or.inl rfl, ⟨Or.inl rfl, ⟨Or.inl rfl, ⟨Or.inl rfl, ⟨Or.inl rfl, ⟨Or.inl rfl, ⟨Or.inl rfl, ⟨Or.inl rfl, ⟨Or.inl rfl, ⟨Or.inr rfl, ⟨Or.inl rfl, trivial⟩⟩⟩⟩⟩⟩⟩⟩⟩⟩⟩ ?_
                            refine ih57 (1) ((acc + 0)) ((y + 1)) ?_ ?_ ?_ ?_ ?_
                            · omega
                            · omega
                            · first | (rcases hg with hg | hg; exact absurd c86 (by omega); exact Or.inr ⟨rfl, hg.2⟩) | exact Or.inr ⟨rfl, tkb_bad (tkb_1 (p := fun y => Apl A i (j + y)) (Or.inl (show ¬ (-9 ≤ Apl A i (j + y) ∧ Apl A i (j + y) ≤ 9) by omega))) (by omega)⟩ | exact Or.inr ⟨rfl, tkb_bad (tkb_1 (p := fun y => Apl A i (j + y)) (Or.inr ⟨c111, b120⟩)) (by omega)⟩ | (refine Or.inl ⟨rfl, ?_⟩; have hh : sm (tkb (AK A c) x fun y => Apl A i (j + y)) y = 0 := (by rcases hg with hg | hg; exact hg.2; exact absurd hg.1 c86); rw [sm_s _ hy.1, hh, tkb_0 (p := fun y => Apl A i (j + y)) (show -9 ≤ Apl A i (j + y) ∧ Apl A i (j + y) ≤ 9 by omega) (by first | exact Or.inr b120 | exact Or.inl c111)]; rfl)
                            · omega
                            · rw [sm_s _ hy.1, ← ha]; first | rw [if_pos (by omega)] | rw [if_neg (by omega)]
                          ·
                            refine R_op (nx := 152) rfl rfl rfl ?_
                            refine R_op (nx := 155) (pc' := 156) rfl rfl rfl ?_
                            refine R_iadd (nx := 157) (z := (acc + 1)) rfl rfl rfl ⟨by omega, by omega⟩ ?_
                            refine R_lo (nx := 159) (ls' := [(2, 71), (0, i), (0, j), (0, c), (0, x), (9, 0), (0, 1), (0, (acc + 1)), (0, y), (1, (Apl A i (j + y))), (9, 0)]) rfl rfl rfl rfl ?_
                            refine R_iinc (nx := 162) (z := (y + 1)) (ls' := [(2, 71), (0, i), (0, j), (0, c), (0, x), (9, 0), (0, 1), (0, (acc + 1)), (0, (y + 1)), (1, (Apl A i (j + y))), (9, 0)]) rfl rfl rfl rfl ⟨by omega, by omega⟩ rfl ?_
                            refine R_op (nx := 165) (pc' := 57) rfl rfl rfl ?_
                            refine Rn.weak (ls' := [(2, 71), (0, i), (0, j), (0, c), (0, x), (9, 0), (0, 1), (0, (acc + 1)), (0, (y + 1)), (9, 0), (9, 0)]) ⟨Or.inl rfl, ⟨Or.inl rfl, ⟨Or.inl rfl, ⟨Or.inl rfl, ⟨Or.inl rfl, ⟨Or.inl rfl, ⟨Or.inl rfl, ⟨Or.inl rfl, ⟨Or.inl rfl, ⟨Or.inr rfl, ⟨Or.inl rfl, trivial⟩⟩⟩⟩⟩⟩⟩⟩⟩⟩⟩ ?_
                            refine ih57 (1) ((acc + 1)) ((y + 1)) ?_ ?_ ?_ ?_ ?_
                            · omega
                            · omega
                            · first | (rcases hg with hg | hg; exact absurd c86 (by omega); exact Or.inr ⟨rfl, hg.2⟩) | exact Or.inr ⟨rfl, tkb_bad (tkb_1 (p := fun y => Apl A i (j + y)) (Or.inl (show ¬ (-9 ≤ Apl A i (j + y) ∧ Apl A i (j + y) ≤ 9) by omega))) (by omega)⟩ | exact Or.inr ⟨rfl, tkb_bad (tkb_1 (p := fun y => Apl A i (j + y)) (Or.inr ⟨c111, b120⟩)) (by omega)⟩ | (refine Or.inl ⟨rfl, ?_⟩; have hh : sm (tkb (AK A c) x fun y => Apl A i (j + y)) y = 0 := (by rcases hg with hg | hg; exact hg.2; exact absurd hg.1 c86); rw [sm_s _ hy.1, hh, tkb_0 (p := fun y => Apl A i (j + y)) (show -9 ≤ Apl A i (j + y) ∧ Apl A i (j + y) ≤ 9 by omega) (by first | exact Or.inr b120 | exact Or.inl c111)]; rfl)
                            · omega
                            · rw [sm_s _ hy.1, ← ha]; first | rw [if_pos (by omega)] | rw [if_neg (by omega)]
                        ·
                          refine ⟨_, rfl, ?_⟩
                          refine R_ifT (tg := 130) rfl rfl rfl ?_
                          refine R_op (nx := 131) rfl rfl rfl ?_
                          refine R_lo (nx := 133) (ls' := [(2, 71), (0, i), (0, j), (0, c), (0, x), (9, 0), (0, 0), (0, acc), (0, y), (1, (Apl A i (j + y))), (9, 0)]) rfl rfl rfl rfl ?_
                          refine R_lo (nx := 135) rfl rfl rfl rfl ?_
                          refine R_lo (nx := 137) rfl rfl rfl rfl ?_
                          refine R_lo (nx := 138) rfl rfl rfl rfl ?_
                          refine R_lo (nx := 139) rfl rfl rfl rfl ?_
                          refine R_lo (nx := 141) rfl rfl rfl rfl ?_
                          refine R_lo (nx := 143) rfl rfl rfl rfl ?_
                          refine R_call1 (nx := 146) (as := [(2, 71), (0, c), (0, x), (0, y)]) (rest := [(1, (Apl A i (j + y))), (0, acc)]) rfl rfl (fun _ _ => rfl) rfl rfl rfl rfl rfl rfl rfl rfl (Cl.mono (c_M_edge S c (by omega) (AK A c) (show MRr S c (AK A c) by first | assumption | exact MR.r (by assumption) | exact MRr.up (by assumption) (by omega) | exact MRr.up (MR.r (by assumption)) (by omega) | exact MRr.up (MRr.up (MR.r (by assumption)) (by omega)) (by omega)) x y (by omega) (by omega)) ?_)
                          rintro _ _ ⟨rfl, rfl⟩
                          refine ⟨_, rfl, ?_⟩
                          refine R_op (nx := 147) (st' := [(1, (Xe (AK A c) x y)), (1, (Apl A i (j + y))), (0, acc)]) rfl rfl rfl ?_
                          refine R_op (nx := 148) (st' := [(0, (if (Xe (AK A c) x y) < (Apl A i (j + y)) then 1 else if (Apl A i (j + y)) = (Xe (AK A c) x y) then 0 else -1)), (0, acc)]) rfl rfl rfl ?_
                          refine R_if (nx := 151) (tg := 155) rfl rfl rfl (mm_lc_eq _ _) (fun c148_5 => ?_) (fun c148_5 => ?_)
                          ·
                            refine R_op (nx := 156) rfl rfl rfl ?_
                            refine R_iadd (nx := 157) (z := (acc + 0)) rfl rfl rfl ⟨by omega, by omega⟩ ?_
                            refine R_lo (nx := 159) (ls' := [(2, 71), (0, i), (0, j), (0, c), (0, x), (9, 0), (0, 0), (0, (acc + 0)), (0, y), (1, (Apl A i (j + y))), (9, 0)]) rfl rfl rfl rfl ?_
                            refine R_iinc (nx := 162) (z := (y + 1)) (ls' := [(2, 71), (0, i), (0, j), (0, c), (0, x), (9, 0), (0, 0), (0, (acc + 0)), (0, (y + 1)), (1, (Apl A i (j + y))), (9, 0)]) rfl rfl rfl rfl ⟨by omega, by omega⟩ rfl ?_
                            refine R_op (nx := 165) (pc' := 57) rfl rfl rfl ?_
                            refine Rn.weak (ls' := [(2, 71), (0, i), (0, j), (0, c), (0, x), (9, 0), (0, 0), (0, (acc + 0)), (0, (y + 1)), (9, 0), (9, 0)]) ⟨Or.inl rfl, ⟨Or.inl rfl, ⟨Or.inl rfl, ⟨Or.inl rfl, ⟨Or.inl rfl, ⟨Or.inl rfl, ⟨Or.inl rfl, ⟨Or.inl rfl, ⟨Or.inl rfl, ⟨Or.inr rfl, ⟨Or.inl rfl, trivial⟩⟩⟩⟩⟩⟩⟩⟩⟩⟩⟩ ?_
                            refine ih57 (0) ((acc + 0)) ((y + 1)) ?_ ?_ ?_ ?_ ?_
                            · omega
                            · omega
                            · first | (rcases hg with hg | hg; exact absurd c86 (by omega); exact Or.inr ⟨rfl, hg.2⟩) | exact Or.inr ⟨rfl, tkb_bad (tkb_1 (p := fun y => Apl A i (j + y)) (Or.inl (show ¬ (-9 ≤ Apl A i (j + y) ∧ Apl A i (j + y) ≤ 9) by omega))) (by omega)⟩ | exact Or.inr ⟨rfl, tkb_bad (tkb_1 (p := fun y => Apl A i (j + y)) (Or.inr ⟨c111, b120⟩)) (by omega)⟩ | (refine Or.inl ⟨rfl, ?_⟩; have hh : sm (tkb (AK A c) x fun y => Apl A i (j + y)) y = 0 := (by rcases hg with hg | hg; exact hg.2; exact absurd hg.1 c86); rw [sm_s _ hy.1, hh, tkb_0 (p := fun y => Apl A i (j + y)) (show -9 ≤ Apl A i (j + y) ∧ Apl A i (j + y) ≤ 9 by omega) (by first | exact Or.inr b120 | exact Or.inl c111)]; rfl)
                            · omega
                            · rw [sm_s _ hy.1, ← ha]; first | rw [if_pos (by omega)] | rw [if_neg (by omega)]
                          ·
                            refine R_op (nx := 152) rfl rfl rfl ?_
                            refine R_op (nx := 155) (pc' := 156) rfl rfl rfl ?_
                            refine R_iadd (nx := 157) (z := (acc + 1)) rfl rfl rfl ⟨by omega, by omega⟩ ?_
                            refine R_lo (nx := 159) (ls' := [(2, 71), (0, i), (0, j), (0, c), (0, x), (9, 0), (0, 0), (0, (acc + 1)), (0, y), (1, (Apl A i (j + y))), (9, 0)]) rfl rfl rfl rfl ?_
                            refine R_iinc (nx := 162) (z := (y + 1)) (ls' := [(2, 71), (0, i), (0, j), (0, c), (0, x), (9, 0), (0, 0), (0, (acc + 1)), (0, (y + 1)), (1, (Apl A i (j + y))), (9, 0)]) rfl rfl rfl rfl ⟨by omega, by omega⟩ rfl ?_
                            refine R_op (nx := 165) (pc' := 57) rfl rfl rfl ?_
                            refine Rn.weak (ls' := [(2, 71), (0, i), (0, j), (0, c), (0, x), (9, 0), (0, 0), (0, (acc + 1)), (0, (y + 1)), (9, 0), (9, 0)]) ⟨Or.inl rfl, ⟨Or.inl rfl, ⟨Or.inl rfl, ⟨Or.inl rfl, ⟨Or.inl rfl, ⟨Or.inl rfl, ⟨Or.inl rfl, ⟨Or.inl rfl, ⟨Or.inl rfl, ⟨Or.inr rfl, ⟨Or.inl rfl, trivial⟩⟩⟩⟩⟩⟩⟩⟩⟩⟩⟩ ?_
                            refine ih57 (0) ((acc + 1)) ((y + 1)) ?_ ?_ ?_ ?_ ?_
                            · omega
                            · omega
                            · first | (rcases hg with hg | hg; exact absurd c86 (by omega); exact Or.inr ⟨rfl, hg.2⟩) | exact Or.inr ⟨rfl, tkb_bad (tkb_1 (p := fun y => Apl A i (j + y)) (Or.inl (show ¬ (-9 ≤ Apl A i (j + y) ∧ Apl A i (j + y) ≤ 9) by omega))) (by omega)⟩ | exact Or.inr ⟨rfl, tkb_bad (tkb_1 (p := fun y => Apl A i (j + y)) (Or.inr ⟨c111, b120⟩)) (by omega)⟩ | (refine Or.inl ⟨rfl, ?_⟩; have hh : sm (tkb (AK A c) x fun y => Apl A i (j + y)) y = 0 := (by rcases hg with hg | hg; exact hg.2; exact absurd hg.1 c86); rw [sm_s _ hy.1, hh, tkb_0 (p := fun y => Apl A i (j + y)) (show -9 ≤ Apl A i (j + y) ∧ Apl A i (j + y) ≤ 9 by omega) (by first | exact Or.inr b120 | exact Or.inl c111)]; rfl)
                            · omega
                            · rw [sm_s _ hy.1, ← ha]; first | rw [if_pos (by omega)] | rw [if_neg (by omega)]
          refine Rn.weak (ls' := [(2, 71), (0, i), (0, j), (0, c), (0, x), (9, 0), (0, 1), (0, 0), (0, 0), (9, 0), (9, 0)]) ⟨Or.inl rfl, ⟨Or.inl rfl, ⟨Or.inl rfl, ⟨Or.inl rfl, ⟨Or.inl rfl, ⟨Or.inr rfl, ⟨Or.inl rfl, ⟨Or.inl rfl, ⟨Or.inl rfl, ⟨Or.inl rfl, ⟨Or.inl rfl, trivial⟩⟩⟩⟩⟩⟩⟩⟩⟩⟩⟩ ?_
          refine L57 (((Xn (AK A c)) - (0)).toNat + 1) (1) (0) (0) (Nat.lt_succ_self _) ?_ ?_ ?_ ?_
          · omega
          · exact Or.inl ⟨rfl, rfl⟩
          · omega
          · rfl
        ·
          have e51 : ¬ lackv (Aso A i) (Asz A i) j (Xn (AK A c)) = 0 := c42
          refine R_lo (nx := 47) rfl rfl rfl rfl ?_
          refine R_ret rfl (fun _ _ => rfl) rfl rfl ?_
          first | (exfalso; omega) | (rw [show Q_take A i j c x = ((lackv (Aso A i) (Asz A i) j (Xn (AK A c))), A) from by simp only [Q_take, b1, b11, b18, c42, e51, ifo, ifm, ifp, iffq, ↓reduceIte, ite_self, and_self, and_true, true_and, and_false, false_and, or_true, true_or, or_false, false_or, or_self, not_true_eq_false, not_false_eq_true, ne_eq]]; exact ⟨rfl, hRR, fun b _ => rfl⟩)
      ·
        try have k18 := hRR.2.2.2.2.2 i b18.1 b18.2
        try have ka18 := k18.1
        try have kz18 := k18.2.1
        try have q18 := hV.2.2.2.2.2 i b18.1 b18.2
        try have qa18 := q18.1
        try have qz18 := q18.2
        refine ⟨_, rfl, ?_⟩
        refine R_ifF (nx := 24) rfl rfl rfl ?_
        refine R_op (nx := 25) rfl rfl rfl ?_
        refine R_ret rfl (fun _ _ => rfl) rfl rfl ?_
        first | (exfalso; omega) | (rw [show Q_take A i j c x = ((-1), A) from by simp only [Q_take, b1, b11, b18, ifo, ifm, ifp, iffq, ↓reduceIte, ite_self, and_self, and_true, true_and, and_false, false_and, or_true, true_or, or_false, false_or, or_self, not_true_eq_false, not_false_eq_true, ne_eq]]; exact ⟨rfl, hRR, fun b _ => rfl⟩)
    ·
      refine ⟨_, rfl, ?_⟩
      refine R_ifT (tg := 24) rfl rfl rfl ?_
      refine R_op (nx := 25) rfl rfl rfl ?_
      refine R_ret rfl (fun _ _ => rfl) rfl rfl ?_
      first | (exfalso; omega) | (rw [show Q_take A i j c x = ((-1), A) from by simp only [Q_take, b1, b11, ifo, ifm, ifp, iffq, ↓reduceIte, ite_self, and_self, and_true, true_and, and_false, false_and, or_true, true_or, or_false, false_or, or_self, not_true_eq_false, not_false_eq_true, ne_eq]]; exact ⟨rfl, hRR, fun b _ => rfl⟩)
  ·
    try have k1 := hRR.k b1.1 b1.2
    try have n1 := k1.n
    try have z1 := k1.1.nr
    try have v1 := hV.1 _ b1.1 b1.2
    try have r1 := v1.2.1
    refine ⟨_, rfl, ?_⟩
    refine R_ifT (tg := 24) rfl rfl rfl ?_
    refine R_op (nx := 25) rfl rfl rfl ?_
    refine R_ret rfl (fun _ _ => rfl) rfl rfl ?_
    first | (exfalso; omega) | (rw [show Q_take A i j c x = ((-1), A) from by simp only [Q_take, b1, ifo, ifm, ifp, iffq, ↓reduceIte, ite_self, and_self, and_true, true_and, and_false, false_and, or_true, true_or, or_false, false_or, or_self, not_true_eq_false, not_false_eq_true, ne_eq]]; exact ⟨rfl, hRR, fun b _ => rfl⟩)
