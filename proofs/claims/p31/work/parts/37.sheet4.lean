/-! Edges laid into rows and taken from them. -/
theorem sm_nz {f : Int → Int} {n : Int} (h : ∀ i, f i = 0 ∨ f i = 1) : ∀ i, 0 ≤ f i := fun i => by rcases h i with e | e <;> rw [e] <;> decide

set_option maxRecDepth 20000 in
set_option maxHeartbeats 4000000 in
theorem c_P_lay (S : mm_S) (A : mm_A) (hRC : RC S A) (hV : Vs A) (c x i j : Int) (hj : mm_r32 j) : Cl 25 [(2, 0), (0, c), (0, x), (0, i), (0, j)] S (fun vv S' => vv = some (0, (Q_lay A c x i j).1) ∧ RC S' (Q_lay A c x i j).2 ∧ ∀ b, 71 ≤ b → S' b = S b) := by
  refine ⟨Nat.le_of_ble_eq_true rfl, ?_⟩
  show Rn k_P_lay 0 [(2, 0), (0, c), (0, x), (0, i), (0, j), (9, 0), (9, 0), (9, 0), (9, 0)] [] S _
  refine R_lo (nx := 1) rfl rfl rfl rfl ?_
  refine R_lo (nx := 2) rfl rfl rfl rfl ?_
  refine R_call1 (nx := 5) (as := [(2, 0), (0, c)]) (rest := []) rfl rfl (fun _ _ => rfl) rfl rfl rfl rfl rfl rfl rfl rfl (Cl.mono (c_P_complexAt S c) ?_)
  rintro _ _ (⟨rfl, b2, rfl⟩ | ⟨rfl, b2, rfl⟩)
  ·
    have kb2 := hRC.k b2.1 b2.2
    have vb2 := hV.1 c b2.1 b2.2
    have rb2 := vb2.2.1
    have nb2 := kb2.n
    have zb2 := kb2.nr
    refine ⟨_, rfl, ?_⟩
    refine R_lo (nx := 7) (ls' := [(2, 0), (0, c), (0, x), (0, i), (0, j), (2, (23 + 10 * c)), (9, 0), (9, 0), (9, 0)]) rfl rfl rfl rfl ?_
    refine R_lo (nx := 8) rfl rfl rfl rfl ?_
    refine R_lo (nx := 9) rfl rfl rfl rfl ?_
    refine R_call1 (nx := 12) (as := [(2, 0), (0, i)]) (rest := []) rfl rfl (fun _ _ => rfl) rfl rfl rfl rfl rfl rfl rfl rfl (Cl.mono (c_P_sheetAt S i) ?_)
    rintro _ _ (⟨rfl, b9, rfl⟩ | ⟨rfl, b9, rfl⟩)
    ·
      have kb9 := hRC.2.2.2.2.2 i b9.1 b9.2
      have qb9 := hV.2.2.2.2.2 i b9.1 b9.2
      try have ka9 := kb9.1
      try have kz9 := kb9.2.1
      try have qa9 := qb9.1
      try have qz9 := qb9.2
      refine ⟨_, rfl, ?_⟩
      refine R_lo (nx := 14) (ls' := [(2, 0), (0, c), (0, x), (0, i), (0, j), (2, (23 + 10 * c)), (2, (63 + 2 * i)), (9, 0), (9, 0)]) rfl rfl rfl rfl ?_
      refine R_lo (nx := 16) rfl rfl rfl rfl ?_
      refine R_ifnull (nx := 19) (tg := 33) rfl rfl rfl (fun h => absurd h (by have := (isC_kd (isC_c (i := c) (by omega) (by omega))).1; omega)) (fun h => ?_)
      refine R_lo (nx := 21) rfl rfl rfl rfl ?_
      refine R_ifnull (nx := 24) (tg := 33) rfl rfl rfl (fun h => absurd h (by have := (isS_kd (isS_c (i := i) (by omega) (by omega))).1; omega)) (fun h => ?_)
      refine R_lo (nx := 26) rfl rfl rfl rfl ?_
      refine R_lo (nx := 27) rfl rfl rfl rfl ?_
      refine R_call1 (nx := 30) (as := [(2, (23 + 10 * c)), (0, x)]) (rest := []) rfl rfl (fun _ _ => rfl) rfl rfl rfl rfl rfl rfl (isC_rc (isC_c (i := c) (by omega) (by omega)) _) rfl (Cl.mono (c_C_has S (23 + 10 * c) (isC_c (i := c) (by omega) (by omega)) (AK A c) (by first | assumption | exact MC.up (by assumption) (by omega) | exact MC.up (MC.up (by assumption) (by omega)) (by omega) | exact MC.up (MC.up (MC.up (by assumption) (by omega)) (by omega)) (by omega)) x) ?_)
      rintro _ _ (⟨rfl, b27, rfl⟩ | ⟨rfl, b27, rfl⟩)
      ·
        refine ⟨_, rfl, ?_⟩
        refine R_ifT (tg := 35) rfl rfl rfl ?_
        refine R_lo (nx := 37) rfl rfl rfl rfl ?_
        refine R_lo (nx := 39) rfl rfl rfl rfl ?_
        refine R_lo (nx := 41) rfl rfl rfl rfl ?_
        refine R_get (nx := 44) (w := (0, (S (23 + 10 * c) 0))) rfl rfl (isC_ob (isC_c (i := c) (by omega) (by omega))) rfl ?_
        rw [nb2]
        refine R_call1 (nx := 47) (as := [(2, (63 + 2 * i)), (0, j), (0, (Xn (AK A c)))]) (rest := []) rfl rfl (fun _ _ => rfl) rfl rfl rfl rfl rfl rfl rfl rfl (Cl.mono (c_P_refusalOfEdge S (63 + 2 * i) (isS_c (i := i) (by omega) (by omega)) (Aso A i) (Asz A i) j (Xn (AK A c)) (by omega) (by omega) (by omega) (by assumption)) ?_)
        rintro _ _ ⟨rfl, rfl⟩
        refine ⟨_, rfl, ?_⟩
        refine R_lo (nx := 49) (ls' := [(2, 0), (0, c), (0, x), (0, i), (0, j), (2, (23 + 10 * c)), (2, (63 + 2 * i)), (0, (lackv (Aso A i) (Asz A i) j (Xn (AK A c)))), (9, 0)]) rfl rfl rfl rfl ?_
        refine R_lo (nx := 51) rfl rfl rfl rfl ?_
        refine R_if (nx := 54) (tg := 57) rfl rfl rfl (mm_cnd_eq _ _) (fun c51 => ?_) (fun c51 => ?_)
        ·
          have e51 : lackv (Aso A i) (Asz A i) j (Xn (AK A c)) = 0 := c51
          have l51 := lackv_0 e51
          have u51 := l51.2.2
          unfold Outs at u51
          refine R_op (nx := 58) rfl rfl rfl ?_
          refine R_lo (nx := 60) (ls' := [(2, 0), (0, c), (0, x), (0, i), (0, j), (2, (23 + 10 * c)), (2, (63 + 2 * i)), (0, (lackv (Aso A i) (Asz A i) j (Xn (AK A c)))), (0, 0)]) rfl rfl rfl rfl ?_
          have L60 : ∀ (f60 : Nat) (S1 : mm_S) (y : Int), (Xn (AK A c) - y).toNat < f60 → (0 ≤ y ∧ y ≤ Xn (AK A c)) → (∀ p, 0 ≤ p → p < 40 → S1 (63 + 2 * i + 1) p = if j ≤ p ∧ p < j + y then Xe (AK A c) x (p - j) else Apl A i p) → (∀ b, b ≠ 63 + 2 * i + 1 → S1 b = S b) → Rn k_P_lay 60 [(2, 0), (0, c), (0, x), (0, i), (0, j), (2, (23 + 10 * c)), (2, (63 + 2 * i)), (9, 0), (0, y)] [] S1 (fun vv S' => vv = some (0, (Q_lay A c x i j).1) ∧ RC S' (Q_lay A c x i j).2 ∧ ∀ b, 71 ≤ b → S' b = S b) := by
            intro f60
            induction f60 with
            | zero => intro S1 y hm60; exact absurd hm60 (Nat.not_lt_zero _)
            | succ f60 ih60 =>
              intro S1 y hm60 hy h9 hF
              have kc1 : MC S1 (23 + 10 * c) (AK A c) := kb2.fr fun e p q => hF e (by omega)
              have nc1 := kc1.n
              have s0 := hF (63 + 2 * i) (by omega)
              have s1 : S1 (63 + 2 * i) 1 = Asz A i := by rw [s0]; exact kz9
              have s2 : S1 (63 + 2 * i) 0 = Aso A i := by rw [s0]; exact ka9
              refine R_lo (nx := 62) rfl rfl rfl rfl ?_
              refine R_lo (nx := 64) rfl rfl rfl rfl ?_
              refine R_get (nx := 67) (w := (0, (S1 (23 + 10 * c) 0))) rfl rfl (isC_ob (isC_c (i := c) (by omega) (by omega))) rfl ?_
              rw [nc1]
              refine R_icmp (nx := 70) (tg := 95) rfl rfl rfl (mm_cnd_ge _ _) (fun c67 => ?_) (fun c67 => ?_)
              ·
                refine R_lo (nx := 97) rfl rfl rfl rfl ?_
                refine R_get (nx := 100) (w := (0, (S1 (23 + 10 * c) 0))) rfl rfl (isC_ob (isC_c (i := c) (by omega) (by omega))) rfl ?_
                rw [nc1]
                refine R_ret rfl (fun _ _ => rfl) rfl rfl ?_
                rw [show Q_lay A c x i j = ((Xn (AK A c)), Ash A i (Aso A i, Asz A i, fun p => if j ≤ p ∧ p < j + Xn (AK A c) then Xe (AK A c) x (p - j) else Apl A i p)) from by simp only [Q_lay, b2, b9, b27, c51, e51, c67, ifo, ifm, ifp, iffq, ↓reduceIte, ite_self, and_self, and_true, true_and, and_false, false_and, or_true, true_or, or_false, false_or, or_self, not_true_eq_false, not_false_eq_true, ne_eq]]; exact ⟨rfl, hRC.sh b9 s2 s1 (fun p q r => by rw [h9 p q r]; exact ifc (by omega) rfl rfl) fun b hb hc => hF b (by omega), fun b hb => hF b (by omega)⟩
              ·
                refine R_lo (nx := 72) rfl rfl rfl rfl ?_
                refine R_lo (nx := 74) rfl rfl rfl rfl ?_
                refine R_lo (nx := 76) rfl rfl rfl rfl ?_
                refine R_iadd (nx := 77) (z := (j + y)) rfl rfl rfl ⟨by omega, by omega⟩ ?_
                refine R_lo (nx := 79) rfl rfl rfl rfl ?_
                refine R_lo (nx := 80) rfl rfl rfl rfl ?_
                refine R_lo (nx := 82) rfl rfl rfl rfl ?_
                refine R_call1 (nx := 85) (as := [(2, (23 + 10 * c)), (0, x), (0, y)]) (rest := [(0, (j + y)), (2, (63 + 2 * i))]) rfl rfl (fun _ _ => rfl) rfl rfl rfl rfl rfl rfl (isC_rc (isC_c (i := c) (by omega) (by omega)) _) rfl (Cl.mono (c_C_edge S1 (23 + 10 * c) (isC_c (i := c) (by omega) (by omega)) (AK A c) (by first | assumption | exact MC.up (by assumption) (by omega) | exact MC.up (MC.up (by assumption) (by omega)) (by omega) | exact MC.up (MC.up (MC.up (by assumption) (by omega)) (by omega)) (by omega)) x y) ?_)
                rintro _ _ ⟨rfl, rfl⟩
                refine ⟨_, rfl, ?_⟩
                refine R_op (nx := 86) (st' := [(1, (Xe (AK A c) x y)), (0, (j + y)), (2, (63 + 2 * i))]) rfl rfl rfl ?_
                refine R_call0 (nx := 89) (as := [(2, (63 + 2 * i)), (0, (j + y)), (1, (Xe (AK A c) x y))]) (rest := []) rfl rfl (fun _ _ => rfl) rfl rfl rfl rfl rfl rfl (isS_rc (isS_c (i := i) (by omega) (by omega)) _) rfl (Cl.mono (c_Sh_set S1 (63 + 2 * i) (isS_c (i := i) (by omega) (by omega)) (j + y) (Xe (AK A c) x y) (by omega) (by omega)) ?_)
                rintro _ _ ⟨rfl, rfl⟩
                refine ⟨rfl, ?_⟩
                refine R_iinc (nx := 92) (z := (y + 1)) (ls' := [(2, 0), (0, c), (0, x), (0, i), (0, j), (2, (23 + 10 * c)), (2, (63 + 2 * i)), (9, 0), (0, (y + 1))]) rfl rfl rfl rfl ⟨by omega, by omega⟩ rfl ?_
                refine R_op (nx := 95) (pc' := 60) rfl rfl rfl ?_
                refine Rn.weak (ls' := [(2, 0), (0, c), (0, x), (0, i), (0, j), (2, (23 + 10 * c)), (2, (63 + 2 * i)), (9, 0), (0, (y + 1))]) ⟨Or.inl rfl, ⟨Or.inl rfl, ⟨Or.inl rfl, ⟨Or.inl rfl, ⟨Or.inl rfl, ⟨Or.inl rfl, ⟨Or.inl rfl, ⟨Or.inl rfl, ⟨Or.inl rfl, trivial⟩⟩⟩⟩⟩⟩⟩⟩⟩ ?_
                refine ih60 ((mm_up S1 ((63 + 2 * i) + 1) (j + y) (cutv (S1 (63 + 2 * i) 0) (Xe (AK A c) x y)))) ((y + 1)) ?_ ?_ ?_ ?_
                · omega
                · omega
                · intro p q r
                  by_cases e : p = j + y
                  · rw [e, mm_ua, if_pos (by omega), cut_e (rb2.e x y), show j + y - j = y by omega]
                  · rw [mm_uk e, h9 p q r]; exact ifc (by omega) rfl rfl
                · intro b hb; rw [mm_unq hb]; exact hF b hb
          refine Rn.weak (ls' := [(2, 0), (0, c), (0, x), (0, i), (0, j), (2, (23 + 10 * c)), (2, (63 + 2 * i)), (9, 0), (0, 0)]) ⟨Or.inl rfl, ⟨Or.inl rfl, ⟨Or.inl rfl, ⟨Or.inl rfl, ⟨Or.inl rfl, ⟨Or.inl rfl, ⟨Or.inl rfl, ⟨Or.inr rfl, ⟨Or.inl rfl, trivial⟩⟩⟩⟩⟩⟩⟩⟩⟩ ?_
          refine L60 ((Xn (AK A c) - (0)).toNat + 1) (S) (0) (Nat.lt_succ_self _) ?_ ?_ ?_
          · omega
          · intro p q r; rw [if_neg (by omega)]; exact kb9.2.2 p q r
          · intro b hb; rfl
        ·
          have e51 : ¬ lackv (Aso A i) (Asz A i) j (Xn (AK A c)) = 0 := c51
          refine R_lo (nx := 56) rfl rfl rfl rfl ?_
          refine R_ret rfl (fun _ _ => rfl) rfl rfl ?_
          rw [show Q_lay A c x i j = ((lackv (Aso A i) (Asz A i) j (Xn (AK A c))), A) from by simp only [Q_lay, b2, b9, b27, c51, e51, ifo, ifm, ifp, iffq, ↓reduceIte, ite_self, and_self, and_true, true_and, and_false, false_and, or_true, true_or, or_false, false_or, or_self, not_true_eq_false, not_false_eq_true, ne_eq]]; exact ⟨rfl, hRC, fun b _ => rfl⟩
      ·
        refine ⟨_, rfl, ?_⟩
        refine R_ifF (nx := 33) rfl rfl rfl ?_
        refine R_op (nx := 34) rfl rfl rfl ?_
        refine R_ret rfl (fun _ _ => rfl) rfl rfl ?_
        rw [show Q_lay A c x i j = ((-1), A) from by simp only [Q_lay, b2, b9, b27, ifo, ifm, ifp, iffq, ↓reduceIte, ite_self, and_self, and_true, true_and, and_false, false_and, or_true, true_or, or_false, false_or, or_self, not_true_eq_false, not_false_eq_true, ne_eq]]; exact ⟨rfl, hRC, fun b _ => rfl⟩
    ·
      try have ka9 := kb9.1
      try have kz9 := kb9.2.1
      try have qa9 := qb9.1
      try have qz9 := qb9.2
      refine ⟨_, rfl, ?_⟩
      refine R_lo (nx := 14) (ls' := [(2, 0), (0, c), (0, x), (0, i), (0, j), (2, (23 + 10 * c)), (2, (-1)), (9, 0), (9, 0)]) rfl rfl rfl rfl ?_
      refine R_lo (nx := 16) rfl rfl rfl rfl ?_
      refine R_ifnull (nx := 19) (tg := 33) rfl rfl rfl (fun h => absurd h (by have := (isC_kd (isC_c (i := c) (by omega) (by omega))).1; omega)) (fun h => ?_)
      refine R_lo (nx := 21) rfl rfl rfl rfl ?_
      refine R_ifnull (nx := 24) (tg := 33) rfl rfl rfl (fun h => ?_) (fun h => absurd (by decide) h)
      refine R_op (nx := 34) rfl rfl rfl ?_
      refine R_ret rfl (fun _ _ => rfl) rfl rfl ?_
      rw [show Q_lay A c x i j = ((-1), A) from by simp only [Q_lay, b2, b9, ifo, ifm, ifp, iffq, ↓reduceIte, ite_self, and_self, and_true, true_and, and_false, false_and, or_true, true_or, or_false, false_or, or_self, not_true_eq_false, not_false_eq_true, ne_eq]]; exact ⟨rfl, hRC, fun b _ => rfl⟩
  ·
    refine ⟨_, rfl, ?_⟩
    refine R_lo (nx := 7) (ls' := [(2, 0), (0, c), (0, x), (0, i), (0, j), (2, (-1)), (9, 0), (9, 0), (9, 0)]) rfl rfl rfl rfl ?_
    refine R_lo (nx := 8) rfl rfl rfl rfl ?_
    refine R_lo (nx := 9) rfl rfl rfl rfl ?_
    refine R_call1 (nx := 12) (as := [(2, 0), (0, i)]) (rest := []) rfl rfl (fun _ _ => rfl) rfl rfl rfl rfl rfl rfl rfl rfl (Cl.mono (c_P_sheetAt S i) ?_)
    rintro _ _ (⟨rfl, b9_1, rfl⟩ | ⟨rfl, b9_1, rfl⟩)
    ·
      have kb9_1 := hRC.2.2.2.2.2 i b9_1.1 b9_1.2
      have qb9_1 := hV.2.2.2.2.2 i b9_1.1 b9_1.2
      try have ka9 := kb9.1
      try have kz9 := kb9.2.1
      try have qa9 := qb9.1
      try have qz9 := qb9.2
      refine ⟨_, rfl, ?_⟩
      refine R_lo (nx := 14) (ls' := [(2, 0), (0, c), (0, x), (0, i), (0, j), (2, (-1)), (2, (63 + 2 * i)), (9, 0), (9, 0)]) rfl rfl rfl rfl ?_
      refine R_lo (nx := 16) rfl rfl rfl rfl ?_
      refine R_ifnull (nx := 19) (tg := 33) rfl rfl rfl (fun h => ?_) (fun h => absurd (by decide) h)
      refine R_op (nx := 34) rfl rfl rfl ?_
      refine R_ret rfl (fun _ _ => rfl) rfl rfl ?_
      rw [show Q_lay A c x i j = ((-1), A) from by simp only [Q_lay, b2, b9_1, ifo, ifm, ifp, iffq, ↓reduceIte, ite_self, and_self, and_true, true_and, and_false, false_and, or_true, true_or, or_false, false_or, or_self, not_true_eq_false, not_false_eq_true, ne_eq]]; exact ⟨rfl, hRC, fun b _ => rfl⟩
    ·
      try have ka9 := kb9.1
      try have kz9 := kb9.2.1
      try have qa9 := qb9.1
      try have qz9 := qb9.2
      refine ⟨_, rfl, ?_⟩
      refine R_lo (nx := 14) (ls' := [(2, 0), (0, c), (0, x), (0, i), (0, j), (2, (-1)), (2, (-1)), (9, 0), (9, 0)]) rfl rfl rfl rfl ?_
      refine R_lo (nx := 16) rfl rfl rfl rfl ?_
      refine R_ifnull (nx := 19) (tg := 33) rfl rfl rfl (fun h => ?_) (fun h => absurd (by decide) h)
      refine R_op (nx := 34) rfl rfl rfl ?_
      refine R_ret rfl (fun _ _ => rfl) rfl rfl ?_
      rw [show Q_lay A c x i j = ((-1), A) from by simp only [Q_lay, b2, b9_1, ifo, ifm, ifp, iffq, ↓reduceIte, ite_self, and_self, and_true, true_and, and_false, false_and, or_true, true_or, or_false, false_or, or_self, not_true_eq_false, not_false_eq_true, ne_eq]]; exact ⟨rfl, hRC, fun b _ => rfl⟩

set_option maxRecDepth 20000 in
set_option maxHeartbeats 4000000 in
theorem c_P_take (S : mm_S) (A : mm_A) (hRC : RC S A) (hV : Vs A) (i j c x : Int) (hj : mm_r32 j) : Cl 26 [(2, 0), (0, i), (0, j), (0, c), (0, x)] S (fun vv S' => vv = some (0, (Q_take A i j c x).1) ∧ RC S' (Q_take A i j c x).2 ∧ ∀ b, 71 ≤ b → S' b = S b) := by
  refine ⟨Nat.le_of_ble_eq_true rfl, ?_⟩
  show Rn k_P_take 0 [(2, 0), (0, i), (0, j), (0, c), (0, x), (9, 0), (9, 0), (9, 0), (9, 0), (9, 0), (9, 0)] [] S _
  refine R_lo (nx := 1) rfl rfl rfl rfl ?_
  refine R_lo (nx := 2) rfl rfl rfl rfl ?_
  refine R_call1 (nx := 5) (as := [(2, 0), (0, c)]) (rest := []) rfl rfl (fun _ _ => rfl) rfl rfl rfl rfl rfl rfl rfl rfl (Cl.mono (c_P_complexAt S c) ?_)
  rintro _ _ (⟨rfl, b2, rfl⟩ | ⟨rfl, b2, rfl⟩)
  ·
    have kb2 := hRC.k b2.1 b2.2
    have vb2 := hV.1 c b2.1 b2.2
    have rb2 := vb2.2.1
    have nb2 := kb2.n
    have zb2 := kb2.nr
    refine ⟨_, rfl, ?_⟩
    refine R_lo (nx := 7) (ls' := [(2, 0), (0, i), (0, j), (0, c), (0, x), (2, (23 + 10 * c)), (9, 0), (9, 0), (9, 0), (9, 0), (9, 0)]) rfl rfl rfl rfl ?_
    refine R_lo (nx := 8) rfl rfl rfl rfl ?_
    refine R_lo (nx := 9) rfl rfl rfl rfl ?_
    refine R_call1 (nx := 12) (as := [(2, 0), (0, i)]) (rest := []) rfl rfl (fun _ _ => rfl) rfl rfl rfl rfl rfl rfl rfl rfl (Cl.mono (c_P_sheetAt S i) ?_)
    rintro _ _ (⟨rfl, b9, rfl⟩ | ⟨rfl, b9, rfl⟩)
    ·
      have kb9 := hRC.2.2.2.2.2 i b9.1 b9.2
      have qb9 := hV.2.2.2.2.2 i b9.1 b9.2
      try have ka9 := kb9.1
      try have kz9 := kb9.2.1
      try have qa9 := qb9.1
      try have qz9 := qb9.2
      refine ⟨_, rfl, ?_⟩
      refine R_lo (nx := 14) (ls' := [(2, 0), (0, i), (0, j), (0, c), (0, x), (2, (23 + 10 * c)), (2, (63 + 2 * i)), (9, 0), (9, 0), (9, 0), (9, 0)]) rfl rfl rfl rfl ?_
      refine R_lo (nx := 16) rfl rfl rfl rfl ?_
      refine R_ifnull (nx := 19) (tg := 34) rfl rfl rfl (fun h => absurd h (by have := (isC_kd (isC_c (i := c) (by omega) (by omega))).1; omega)) (fun h => ?_)
      refine R_lo (nx := 21) rfl rfl rfl rfl ?_
      refine R_ifnull (nx := 24) (tg := 34) rfl rfl rfl (fun h => absurd h (by have := (isS_kd (isS_c (i := i) (by omega) (by omega))).1; omega)) (fun h => ?_)
      refine R_lo (nx := 26) rfl rfl rfl rfl ?_
      refine R_lo (nx := 28) rfl rfl rfl rfl ?_
      refine R_call1 (nx := 31) (as := [(2, (23 + 10 * c)), (0, x)]) (rest := []) rfl rfl (fun _ _ => rfl) rfl rfl rfl rfl rfl rfl (isC_rc (isC_c (i := c) (by omega) (by omega)) _) rfl (Cl.mono (c_C_has S (23 + 10 * c) (isC_c (i := c) (by omega) (by omega)) (AK A c) (by first | assumption | exact MC.up (by assumption) (by omega) | exact MC.up (MC.up (by assumption) (by omega)) (by omega) | exact MC.up (MC.up (MC.up (by assumption) (by omega)) (by omega)) (by omega)) x) ?_)
      rintro _ _ (⟨rfl, b28, rfl⟩ | ⟨rfl, b28, rfl⟩)
      ·
        refine ⟨_, rfl, ?_⟩
        refine R_ifT (tg := 36) rfl rfl rfl ?_
        refine R_lo (nx := 38) rfl rfl rfl rfl ?_
        refine R_lo (nx := 39) rfl rfl rfl rfl ?_
        refine R_lo (nx := 41) rfl rfl rfl rfl ?_
        refine R_get (nx := 44) (w := (0, (S (23 + 10 * c) 0))) rfl rfl (isC_ob (isC_c (i := c) (by omega) (by omega))) rfl ?_
        rw [nb2]
        refine R_call1 (nx := 47) (as := [(2, (63 + 2 * i)), (0, j), (0, (Xn (AK A c)))]) (rest := []) rfl rfl (fun _ _ => rfl) rfl rfl rfl rfl rfl rfl rfl rfl (Cl.mono (c_P_refusalOfEdge S (63 + 2 * i) (isS_c (i := i) (by omega) (by omega)) (Aso A i) (Asz A i) j (Xn (AK A c)) (by omega) (by omega) (by omega) (by assumption)) ?_)
        rintro _ _ ⟨rfl, rfl⟩
        refine ⟨_, rfl, ?_⟩
        refine R_lo (nx := 49) (ls' := [(2, 0), (0, i), (0, j), (0, c), (0, x), (2, (23 + 10 * c)), (2, (63 + 2 * i)), (0, (lackv (Aso A i) (Asz A i) j (Xn (AK A c)))), (9, 0), (9, 0), (9, 0)]) rfl rfl rfl rfl ?_
        refine R_lo (nx := 51) rfl rfl rfl rfl ?_
        refine R_if (nx := 54) (tg := 57) rfl rfl rfl (mm_cnd_eq _ _) (fun c51 => ?_) (fun c51 => ?_)
        ·
          have e51 : lackv (Aso A i) (Asz A i) j (Xn (AK A c)) = 0 := c51
          have l51 := lackv_0 e51
          have u51 := l51.2.2
          unfold Outs at u51
          refine R_op (nx := 58) rfl rfl rfl ?_
          refine R_lo (nx := 60) (ls' := [(2, 0), (0, i), (0, j), (0, c), (0, x), (2, (23 + 10 * c)), (2, (63 + 2 * i)), (0, (lackv (Aso A i) (Asz A i) j (Xn (AK A c)))), (0, 0), (9, 0), (9, 0)]) rfl rfl rfl rfl ?_
          have L60 : ∀ (f60 : Nat) (y : Int), (Xn (AK A c) - y).toNat < f60 → (0 ≤ y ∧ y ≤ Xn (AK A c)) → (sm (tkb (AK A c) x fun y => Apl A i (j + y)) y = 0) → Rn k_P_take 60 [(2, 0), (0, i), (0, j), (0, c), (0, x), (2, (23 + 10 * c)), (2, (63 + 2 * i)), (9, 0), (0, y), (9, 0), (9, 0)] [] S (fun vv S' => vv = some (0, (Q_take A i j c x).1) ∧ RC S' (Q_take A i j c x).2 ∧ ∀ b, 71 ≤ b → S' b = S b) := by
            intro f60
            induction f60 with
            | zero => intro y hm60; exact absurd hm60 (Nat.not_lt_zero _)
            | succ f60 ih60 =>
              intro y hm60 hy hs
              refine R_lo (nx := 62) rfl rfl rfl rfl ?_
              refine R_lo (nx := 64) rfl rfl rfl rfl ?_
              refine R_get (nx := 67) (w := (0, (S (23 + 10 * c) 0))) rfl rfl (isC_ob (isC_c (i := c) (by omega) (by omega))) rfl ?_
              refine R_icmp (nx := 70) (tg := 116) rfl rfl rfl (mm_cnd_ge _ _) (fun c67 => ?_) (fun c67 => ?_)
              ·
                have e67 : sm (tkb (AK A c) x fun y => Apl A i (j + y)) (Xn (AK A c)) = 0 := by have ey : Xn (AK A c) = y := (by omega); rw [ey]; exact hs
                refine R_op (nx := 117) rfl rfl rfl ?_
                refine R_lo (nx := 119) (ls' := [(2, 0), (0, i), (0, j), (0, c), (0, x), (2, (23 + 10 * c)), (2, (63 + 2 * i)), (9, 0), (0, 0), (9, 0), (9, 0)]) rfl rfl rfl rfl ?_
                refine R_op (nx := 120) rfl rfl rfl ?_
                refine R_lo (nx := 122) (ls' := [(2, 0), (0, i), (0, j), (0, c), (0, x), (2, (23 + 10 * c)), (2, (63 + 2 * i)), (9, 0), (0, 0), (0, 0), (9, 0)]) rfl rfl rfl rfl ?_
                have L122 : ∀ (f122 : Nat) (S1 : mm_S) (acc : Int) (y : Int), (Xn (AK A c) - y).toNat < f122 → (0 ≤ y ∧ y ≤ Xn (AK A c)) → (0 ≤ acc ∧ acc ≤ y) → (acc = sm (fun y => if Apl A i (j + y) = Xe (AK A c) x y then 0 else 1) y) → (MC S1 (23 + 10 * c) (Xrow (AK A c) x y (fun y => Apl A i (j + y)))) → (∀ b, ¬ (23 + 10 * c ≤ b ∧ b ≤ 23 + 10 * c + 4) → S1 b = S b) → Rn k_P_take 122 [(2, 0), (0, i), (0, j), (0, c), (0, x), (2, (23 + 10 * c)), (2, (63 + 2 * i)), (9, 0), (0, acc), (0, y), (9, 0)] [] S1 (fun vv S' => vv = some (0, (Q_take A i j c x).1) ∧ RC S' (Q_take A i j c x).2 ∧ ∀ b, 71 ≤ b → S' b = S b) := by
                  intro f122
                  induction f122 with
                  | zero => intro S1 acc y hm122; exact absurd hm122 (Nat.not_lt_zero _)
                  | succ f122 ih122 =>
                    intro S1 acc y hm122 hy hb ha hM hF
                    have nc1 : S1 (23 + 10 * c) 0 = Xn (AK A c) := hM.n
                    have s0 := hF (63 + 2 * i) (by omega)
                    have s1 : S1 (63 + 2 * i) 1 = Asz A i := by rw [s0]; exact kz9
                    refine R_lo (nx := 124) rfl rfl rfl rfl ?_
                    refine R_lo (nx := 126) rfl rfl rfl rfl ?_
                    refine R_get (nx := 129) (w := (0, (S1 (23 + 10 * c) 0))) rfl rfl (isC_ob (isC_c (i := c) (by omega) (by omega))) rfl ?_
                    refine R_icmp (nx := 132) (tg := 185) rfl rfl rfl (mm_cnd_ge _ _) (fun c129 => ?_) (fun c129 => ?_)
                    ·
                      have e129 : sm (fun y => if Apl A i (j + y) = Xe (AK A c) x y then 0 else 1) (Xn (AK A c)) = acc := by have ey : Xn (AK A c) = y := (by omega); rw [ey]; exact ha.symm
                      refine R_lo (nx := 187) rfl rfl rfl rfl ?_
                      refine R_ret rfl (fun _ _ => rfl) rfl rfl ?_
                      rw [show Q_take A i j c x = (acc, Akc A c (Xrow (AK A c) x (Xn (AK A c)) (fun y => Apl A i (j + y)))) from by simp only [Q_take, b2, b9, b28, c51, e51, c67, e67, c129, e129, ifo, ifm, ifp, iffq, ↓reduceIte, ite_self, and_self, and_true, true_and, and_false, false_and, or_true, true_or, or_false, false_or, or_self, not_true_eq_false, not_false_eq_true, ne_eq]]; exact ⟨rfl, hRC.kc b2 (by rw [show Xn (AK A c) = y by omega]; exact hM) fun b hb hc => hF b (by omega), fun b hb => hF b (by omega)⟩
                    ·
                      refine R_lo (nx := 134) rfl rfl rfl rfl ?_
                      refine R_lo (nx := 135) rfl rfl rfl rfl ?_
                      refine R_lo (nx := 137) rfl rfl rfl rfl ?_
                      refine R_iadd (nx := 138) (z := (j + y)) rfl rfl rfl ⟨by omega, by omega⟩ ?_
                      refine R_call1 (nx := 141) (as := [(2, (63 + 2 * i)), (0, (j + y))]) (rest := []) rfl rfl (fun _ _ => rfl) rfl rfl rfl rfl rfl rfl (isS_rc (isS_c (i := i) (by omega) (by omega)) _) rfl (Cl.mono (c_Sh_get S1 (63 + 2 * i) (isS_c (i := i) (by omega) (by omega)) (j + y) (by omega) (by omega)) ?_)
                      rintro _ _ ⟨rfl, rfl⟩
                      refine ⟨_, rfl, ?_⟩
                      rw [show S1 (63 + 2 * i + 1) (j + y) = Apl A i (j + y) from by rw [hF (63 + 2 * i + 1) (by omega)]; exact kb9.2.2 (j + y) (by omega) (by omega)]
                      refine R_op (nx := 142) (st' := [(0, (mm_w32 (Apl A i (j + y))))]) rfl rfl rfl ?_
                      refine R_cv (w := (Apl A i (j + y))) (by exact mm_w32_id (by have := (tkb_all e67 (y := y) (by omega)).1; omega)) ?_
                      refine R_lo (nx := 144) (ls' := [(2, 0), (0, i), (0, j), (0, c), (0, x), (2, (23 + 10 * c)), (2, (63 + 2 * i)), (9, 0), (0, acc), (0, y), (0, (Apl A i (j + y)))]) rfl rfl rfl rfl ?_
                      refine R_lo (nx := 146) rfl rfl rfl rfl ?_
                      refine R_lo (nx := 148) rfl rfl rfl rfl ?_
                      refine R_lo (nx := 150) rfl rfl rfl rfl ?_
                      refine R_lo (nx := 152) rfl rfl rfl rfl ?_
                      refine R_lo (nx := 154) rfl rfl rfl rfl ?_
                      refine R_call1 (nx := 157) (as := [(2, (23 + 10 * c)), (0, x), (0, y)]) (rest := [(0, (Apl A i (j + y))), (0, acc)]) rfl rfl (fun _ _ => rfl) rfl rfl rfl rfl rfl rfl (isC_rc (isC_c (i := c) (by omega) (by omega)) _) rfl (Cl.mono (c_C_edge S1 (23 + 10 * c) (isC_c (i := c) (by omega) (by omega)) (Xrow (AK A c) x y (fun y => Apl A i (j + y))) (by first | assumption | exact MC.up (by assumption) (by omega) | exact MC.up (MC.up (by assumption) (by omega)) (by omega) | exact MC.up (MC.up (MC.up (by assumption) (by omega)) (by omega)) (by omega)) x y) ?_)
                      rintro _ _ ⟨rfl, rfl⟩
                      refine ⟨_, rfl, ?_⟩
                      refine R_cv (w := (Xe (AK A c) x y)) (by exact Xrow_e (Int.le_refl _)) ?_
                      refine R_icmp (nx := 160) (tg := 164) rfl rfl rfl (mm_cnd_ne _ _) (fun c157 => ?_) (fun c157 => ?_)
                      ·
                        refine R_op (nx := 165) rfl rfl rfl ?_
                        refine R_iadd (nx := 166) (z := (acc + 1)) rfl rfl rfl ⟨by omega, by omega⟩ ?_
                        refine R_lo (nx := 168) (ls' := [(2, 0), (0, i), (0, j), (0, c), (0, x), (2, (23 + 10 * c)), (2, (63 + 2 * i)), (9, 0), (0, (acc + 1)), (0, y), (0, (Apl A i (j + y)))]) rfl rfl rfl rfl ?_
                        refine R_lo (nx := 170) rfl rfl rfl rfl ?_
                        refine R_lo (nx := 172) rfl rfl rfl rfl ?_
                        refine R_lo (nx := 174) rfl rfl rfl rfl ?_
                        refine R_lo (nx := 176) rfl rfl rfl rfl ?_
                        refine R_call0 (nx := 179) (as := [(2, (23 + 10 * c)), (0, x), (0, y), (0, (Apl A i (j + y)))]) (rest := []) rfl rfl (fun _ _ => rfl) rfl rfl rfl rfl rfl rfl (isC_rc (isC_c (i := c) (by omega) (by omega)) _) rfl (Cl.mono (c_C_setEdge S1 (23 + 10 * c) (isC_c (i := c) (by omega) (by omega)) (Xrow (AK A c) x y (fun y => Apl A i (j + y))) (by first | assumption | exact MC.up (by assumption) (by omega) | exact MC.up (MC.up (by assumption) (by omega)) (by omega) | exact MC.up (MC.up (MC.up (by assumption) (by omega)) (by omega)) (by omega)) x y (Apl A i (j + y))) ?_)
                        rintro _ S176 ⟨rfl, m176, f176⟩
                        refine ⟨rfl, ?_⟩
                        refine R_iinc (nx := 182) (z := (y + 1)) (ls' := [(2, 0), (0, i), (0, j), (0, c), (0, x), (2, (23 + 10 * c)), (2, (63 + 2 * i)), (9, 0), (0, (acc + 1)), (0, (y + 1)), (0, (Apl A i (j + y)))]) rfl rfl rfl rfl ⟨by omega, by omega⟩ rfl ?_
                        refine R_op (nx := 185) (pc' := 122) rfl rfl rfl ?_
                        refine Rn.weak (ls' := [(2, 0), (0, i), (0, j), (0, c), (0, x), (2, (23 + 10 * c)), (2, (63 + 2 * i)), (9, 0), (0, (acc + 1)), (0, (y + 1)), (9, 0)]) ⟨Or.inl rfl, ⟨Or.inl rfl, ⟨Or.inl rfl, ⟨Or.inl rfl, ⟨Or.inl rfl, ⟨Or.inl rfl, ⟨Or.inl rfl, ⟨Or.inl rfl, ⟨Or.inl rfl, ⟨Or.inl rfl, ⟨Or.inr rfl, trivial⟩⟩⟩⟩⟩⟩⟩⟩⟩⟩⟩ ?_
                        refine ih122 (S176) ((acc + 1)) ((y + 1)) ?_ ?_ ?_ ?_ ?_ ?_
                        · omega
                        · omega
                        · omega
                        · rw [sm_s _ hy.1, ← ha]; first | rw [if_pos (by omega)] | rw [if_neg (by omega)]
                        · rw [← Xrow_s b28 (by omega)]; exact m176
                        · intro b hb; rw [f176 b (by omega)]; exact hF b hb
                      ·
                        replace c157 := Classical.not_not.mp c157
                        refine R_op (nx := 161) rfl rfl rfl ?_
                        refine R_op (nx := 164) (pc' := 165) rfl rfl rfl ?_
                        refine R_iadd (nx := 166) (z := (acc + 0)) rfl rfl rfl ⟨by omega, by omega⟩ ?_
                        refine R_lo (nx := 168) (ls' := [(2, 0), (0, i), (0, j), (0, c), (0, x), (2, (23 + 10 * c)), (2, (63 + 2 * i)), (9, 0), (0, (acc + 0)), (0, y), (0, (Apl A i (j + y)))]) rfl rfl rfl rfl ?_
                        refine R_lo (nx := 170) rfl rfl rfl rfl ?_
                        refine R_lo (nx := 172) rfl rfl rfl rfl ?_
                        refine R_lo (nx := 174) rfl rfl rfl rfl ?_
                        refine R_lo (nx := 176) rfl rfl rfl rfl ?_
                        refine R_call0 (nx := 179) (as := [(2, (23 + 10 * c)), (0, x), (0, y), (0, (Apl A i (j + y)))]) (rest := []) rfl rfl (fun _ _ => rfl) rfl rfl rfl rfl rfl rfl (isC_rc (isC_c (i := c) (by omega) (by omega)) _) rfl (Cl.mono (c_C_setEdge S1 (23 + 10 * c) (isC_c (i := c) (by omega) (by omega)) (Xrow (AK A c) x y (fun y => Apl A i (j + y))) (by first | assumption | exact MC.up (by assumption) (by omega) | exact MC.up (MC.up (by assumption) (by omega)) (by omega) | exact MC.up (MC.up (MC.up (by assumption) (by omega)) (by omega)) (by omega)) x y (Apl A i (j + y))) ?_)
                        rintro _ S176_1 ⟨rfl, m176_1, f176_1⟩
                        refine ⟨rfl, ?_⟩
                        refine R_iinc (nx := 182) (z := (y + 1)) (ls' := [(2, 0), (0, i), (0, j), (0, c), (0, x), (2, (23 + 10 * c)), (2, (63 + 2 * i)), (9, 0), (0, (acc + 0)), (0, (y + 1)), (0, (Apl A i (j + y)))]) rfl rfl rfl rfl ⟨by omega, by omega⟩ rfl ?_
                        refine R_op (nx := 185) (pc' := 122) rfl rfl rfl ?_
                        refine Rn.weak (ls' := [(2, 0), (0, i), (0, j), (0, c), (0, x), (2, (23 + 10 * c)), (2, (63 + 2 * i)), (9, 0), (0, (acc + 0)), (0, (y + 1)), (9, 0)]) ⟨Or.inl rfl, ⟨Or.inl rfl, ⟨Or.inl rfl, ⟨Or.inl rfl, ⟨Or.inl rfl, ⟨Or.inl rfl, ⟨Or.inl rfl, ⟨Or.inl rfl, ⟨Or.inl rfl, ⟨Or.inl rfl, ⟨Or.inr rfl, trivial⟩⟩⟩⟩⟩⟩⟩⟩⟩⟩⟩ ?_
                        refine ih122 (S176_1) ((acc + 0)) ((y + 1)) ?_ ?_ ?_ ?_ ?_ ?_
                        · omega
                        · omega
                        · omega
                        · rw [sm_s _ hy.1, ← ha]; first | rw [if_pos (by omega)] | rw [if_neg (by omega)]
                        · rw [← Xrow_s b28 (by omega)]; exact m176_1
                        · intro b hb; rw [f176_1 b (by omega)]; exact hF b hb
                refine Rn.weak (ls' := [(2, 0), (0, i), (0, j), (0, c), (0, x), (2, (23 + 10 * c)), (2, (63 + 2 * i)), (9, 0), (0, 0), (0, 0), (9, 0)]) ⟨Or.inl rfl, ⟨Or.inl rfl, ⟨Or.inl rfl, ⟨Or.inl rfl, ⟨Or.inl rfl, ⟨Or.inl rfl, ⟨Or.inl rfl, ⟨Or.inl rfl, ⟨Or.inl rfl, ⟨Or.inl rfl, ⟨Or.inl rfl, trivial⟩⟩⟩⟩⟩⟩⟩⟩⟩⟩⟩ ?_
                refine L122 ((Xn (AK A c) - (0)).toNat + 1) (S) (0) (0) (Nat.lt_succ_self _) ?_ ?_ ?_ ?_ ?_
                · omega
                · omega
                · rfl
                · rw [Xrow_0]; exact kb2
                · intro b hb; rfl
              ·
                refine R_lo (nx := 72) rfl rfl rfl rfl ?_
                refine R_lo (nx := 73) rfl rfl rfl rfl ?_
                refine R_lo (nx := 75) rfl rfl rfl rfl ?_
                refine R_iadd (nx := 76) (z := (j + y)) rfl rfl rfl ⟨by omega, by omega⟩ ?_
                refine R_call1 (nx := 79) (as := [(2, (63 + 2 * i)), (0, (j + y))]) (rest := []) rfl rfl (fun _ _ => rfl) rfl rfl rfl rfl rfl rfl (isS_rc (isS_c (i := i) (by omega) (by omega)) _) rfl (Cl.mono (c_Sh_get S (63 + 2 * i) (isS_c (i := i) (by omega) (by omega)) (j + y) (by omega) (by omega)) ?_)
                rintro _ _ ⟨rfl, rfl⟩
                refine ⟨_, rfl, ?_⟩
                rw [show S (63 + 2 * i + 1) (j + y) = Apl A i (j + y) from kb9.2.2 (j + y) (by omega) (by omega)]
                refine R_lo (nx := 81) (ls' := [(2, 0), (0, i), (0, j), (0, c), (0, x), (2, (23 + 10 * c)), (2, (63 + 2 * i)), (9, 0), (0, y), (1, (Apl A i (j + y))), (9, 0)]) rfl rfl rfl rfl ?_
                refine R_lo (nx := 83) rfl rfl rfl rfl ?_
                refine R_call1 (nx := 86) (as := [(1, (Apl A i (j + y)))]) (rest := []) rfl rfl (fun _ _ => rfl) rfl rfl rfl rfl rfl rfl rfl rfl (Cl.mono (c_P_isEntry S (Apl A i (j + y))) ?_)
                rintro _ _ (⟨rfl, b83, rfl⟩ | ⟨rfl, b83, rfl⟩)
                ·
                  refine ⟨_, rfl, ?_⟩
                  refine R_ifF (nx := 89) rfl rfl rfl ?_
                  refine R_lo (nx := 91) rfl rfl rfl rfl ?_
                  refine R_op (nx := 92) (st' := [(1, 0), (1, (Apl A i (j + y)))]) rfl rfl rfl ?_
                  refine R_op (nx := 93) (st' := [(0, (if 0 < (Apl A i (j + y)) then 1 else if (Apl A i (j + y)) = 0 then 0 else -1))]) rfl rfl rfl ?_
                  refine R_if (nx := 96) (tg := 110) rfl rfl rfl (mm_lc_eq _ _) (fun c93 => ?_) (fun c93 => ?_)
                  ·
                    refine R_iinc (nx := 113) (z := (y + 1)) (ls' := [(2, 0), (0, i), (0, j), (0, c), (0, x), (2, (23 + 10 * c)), (2, (63 + 2 * i)), (9, 0), (0, (y + 1)), (1, (Apl A i (j + y))), (9, 0)]) rfl rfl rfl rfl ⟨by omega, by omega⟩ rfl ?_
                    refine R_op (nx := 116) (pc' := 60) rfl rfl rfl ?_
                    refine Rn.weak (ls' := [(2, 0), (0, i), (0, j), (0, c), (0, x), (2, (23 + 10 * c)), (2, (63 + 2 * i)), (9, 0), (0, (y + 1)), (9, 0), (9, 0)]) ⟨Or.inl rfl, ⟨Or.inl rfl, ⟨Or.inl rfl, ⟨Or.inl rfl, ⟨Or.inl rfl, ⟨Or.inl rfl, ⟨Or.inl rfl, ⟨Or.inl rfl, ⟨Or.inl rfl, ⟨Or.inr rfl, ⟨Or.inl rfl, trivial⟩⟩⟩⟩⟩⟩⟩⟩⟩⟩⟩ ?_
                    refine ih60 ((y + 1)) ?_ ?_ ?_
                    · omega
                    · omega
                    · rw [sm_s _ hy.1, hs, tkb_0 (p := fun y => Apl A i (j + y)) b83 (by first | exact Or.inr b102 | exact Or.inl c93)]; rfl
                  ·
                    refine R_lo (nx := 98) rfl rfl rfl rfl ?_
                    refine R_lo (nx := 100) rfl rfl rfl rfl ?_
                    refine R_lo (nx := 102) rfl rfl rfl rfl ?_
                    refine R_call1 (nx := 105) (as := [(2, (23 + 10 * c)), (0, x), (0, y)]) (rest := []) rfl rfl (fun _ _ => rfl) rfl rfl rfl rfl rfl rfl (isC_rc (isC_c (i := c) (by omega) (by omega)) _) rfl (Cl.mono (c_C_mayHave S (23 + 10 * c) (isC_c (i := c) (by omega) (by omega)) (AK A c) (by first | assumption | exact MC.up (by assumption) (by omega) | exact MC.up (MC.up (by assumption) (by omega)) (by omega) | exact MC.up (MC.up (MC.up (by assumption) (by omega)) (by omega)) (by omega)) (by assumption) x y) ?_)
                    rintro _ _ (⟨rfl, b102, rfl⟩ | ⟨rfl, b102, rfl⟩)
                    ·
                      refine ⟨_, rfl, ?_⟩
                      refine R_ifT (tg := 110) rfl rfl rfl ?_
                      refine R_iinc (nx := 113) (z := (y + 1)) (ls' := [(2, 0), (0, i), (0, j), (0, c), (0, x), (2, (23 + 10 * c)), (2, (63 + 2 * i)), (9, 0), (0, (y + 1)), (1, (Apl A i (j + y))), (9, 0)]) rfl rfl rfl rfl ⟨by omega, by omega⟩ rfl ?_
                      refine R_op (nx := 116) (pc' := 60) rfl rfl rfl ?_
                      refine Rn.weak (ls' := [(2, 0), (0, i), (0, j), (0, c), (0, x), (2, (23 + 10 * c)), (2, (63 + 2 * i)), (9, 0), (0, (y + 1)), (9, 0), (9, 0)]) ⟨Or.inl rfl, ⟨Or.inl rfl, ⟨Or.inl rfl, ⟨Or.inl rfl, ⟨Or.inl rfl, ⟨Or.inl rfl, ⟨Or.inl rfl, ⟨Or.inl rfl, ⟨Or.inl rfl, ⟨Or.inr rfl, ⟨Or.inl rfl, trivial⟩⟩⟩⟩⟩⟩⟩⟩⟩⟩⟩ ?_
                      refine ih60 ((y + 1)) ?_ ?_ ?_
                      · omega
                      · omega
                      · rw [sm_s _ hy.1, hs, tkb_0 (p := fun y => Apl A i (j + y)) b83 (by first | exact Or.inr b102 | exact Or.inl c93)]; rfl
                    ·
                      have e102 : ¬ sm (tkb (AK A c) x fun y => Apl A i (j + y)) (Xn (AK A c)) = 0 := tkb_bad (tkb_1 (p := fun y => Apl A i (j + y)) (Or.inr ⟨c93, b102⟩)) (by omega)
                      refine ⟨_, rfl, ?_⟩
                      refine R_ifF (nx := 108) rfl rfl rfl ?_
                      refine R_op (nx := 109) rfl rfl rfl ?_
                      refine R_ret rfl (fun _ _ => rfl) rfl rfl ?_
                      rw [show Q_take A i j c x = ((-1), A) from by simp only [Q_take, b2, b9, b28, c51, e51, c67, b83, c93, b102, e102, ifo, ifm, ifp, iffq, ↓reduceIte, ite_self, and_self, and_true, true_and, and_false, false_and, or_true, true_or, or_false, false_or, or_self, not_true_eq_false, not_false_eq_true, ne_eq]]; exact ⟨rfl, hRC, fun b _ => rfl⟩
                ·
                  have e83 : ¬ sm (tkb (AK A c) x fun y => Apl A i (j + y)) (Xn (AK A c)) = 0 := tkb_bad (tkb_1 (p := fun y => Apl A i (j + y)) (Or.inl b83)) (by omega)
                  refine ⟨_, rfl, ?_⟩
                  refine R_ifT (tg := 108) rfl rfl rfl ?_
                  refine R_op (nx := 109) rfl rfl rfl ?_
                  refine R_ret rfl (fun _ _ => rfl) rfl rfl ?_
                  rw [show Q_take A i j c x = ((-1), A) from by simp only [Q_take, b2, b9, b28, c51, e51, c67, b83, e83, ifo, ifm, ifp, iffq, ↓reduceIte, ite_self, and_self, and_true, true_and, and_false, false_and, or_true, true_or, or_false, false_or, or_self, not_true_eq_false, not_false_eq_true, ne_eq]]; exact ⟨rfl, hRC, fun b _ => rfl⟩
          refine Rn.weak (ls' := [(2, 0), (0, i), (0, j), (0, c), (0, x), (2, (23 + 10 * c)), (2, (63 + 2 * i)), (9, 0), (0, 0), (9, 0), (9, 0)]) ⟨Or.inl rfl, ⟨Or.inl rfl, ⟨Or.inl rfl, ⟨Or.inl rfl, ⟨Or.inl rfl, ⟨Or.inl rfl, ⟨Or.inl rfl, ⟨Or.inr rfl, ⟨Or.inl rfl, ⟨Or.inl rfl, ⟨Or.inl rfl, trivial⟩⟩⟩⟩⟩⟩⟩⟩⟩⟩⟩ ?_
          refine L60 ((Xn (AK A c) - (0)).toNat + 1) (0) (Nat.lt_succ_self _) ?_ ?_
          · omega
          · rfl
        ·
          have e51 : ¬ lackv (Aso A i) (Asz A i) j (Xn (AK A c)) = 0 := c51
          refine R_lo (nx := 56) rfl rfl rfl rfl ?_
          refine R_ret rfl (fun _ _ => rfl) rfl rfl ?_
          rw [show Q_take A i j c x = ((lackv (Aso A i) (Asz A i) j (Xn (AK A c))), A) from by simp only [Q_take, b2, b9, b28, c51, e51, ifo, ifm, ifp, iffq, ↓reduceIte, ite_self, and_self, and_true, true_and, and_false, false_and, or_true, true_or, or_false, false_or, or_self, not_true_eq_false, not_false_eq_true, ne_eq]]; exact ⟨rfl, hRC, fun b _ => rfl⟩
      ·
        refine ⟨_, rfl, ?_⟩
        refine R_ifF (nx := 34) rfl rfl rfl ?_
        refine R_op (nx := 35) rfl rfl rfl ?_
        refine R_ret rfl (fun _ _ => rfl) rfl rfl ?_
        rw [show Q_take A i j c x = ((-1), A) from by simp only [Q_take, b2, b9, b28, ifo, ifm, ifp, iffq, ↓reduceIte, ite_self, and_self, and_true, true_and, and_false, false_and, or_true, true_or, or_false, false_or, or_self, not_true_eq_false, not_false_eq_true, ne_eq]]; exact ⟨rfl, hRC, fun b _ => rfl⟩
    ·
      try have ka9 := kb9.1
      try have kz9 := kb9.2.1
      try have qa9 := qb9.1
      try have qz9 := qb9.2
      refine ⟨_, rfl, ?_⟩
      refine R_lo (nx := 14) (ls' := [(2, 0), (0, i), (0, j), (0, c), (0, x), (2, (23 + 10 * c)), (2, (-1)), (9, 0), (9, 0), (9, 0), (9, 0)]) rfl rfl rfl rfl ?_
      refine R_lo (nx := 16) rfl rfl rfl rfl ?_
      refine R_ifnull (nx := 19) (tg := 34) rfl rfl rfl (fun h => absurd h (by have := (isC_kd (isC_c (i := c) (by omega) (by omega))).1; omega)) (fun h => ?_)
      refine R_lo (nx := 21) rfl rfl rfl rfl ?_
      refine R_ifnull (nx := 24) (tg := 34) rfl rfl rfl (fun h => ?_) (fun h => absurd (by decide) h)
      refine R_op (nx := 35) rfl rfl rfl ?_
      refine R_ret rfl (fun _ _ => rfl) rfl rfl ?_
      rw [show Q_take A i j c x = ((-1), A) from by simp only [Q_take, b2, b9, ifo, ifm, ifp, iffq, ↓reduceIte, ite_self, and_self, and_true, true_and, and_false, false_and, or_true, true_or, or_false, false_or, or_self, not_true_eq_false, not_false_eq_true, ne_eq]]; exact ⟨rfl, hRC, fun b _ => rfl⟩
  ·
    refine ⟨_, rfl, ?_⟩
    refine R_lo (nx := 7) (ls' := [(2, 0), (0, i), (0, j), (0, c), (0, x), (2, (-1)), (9, 0), (9, 0), (9, 0), (9, 0), (9, 0)]) rfl rfl rfl rfl ?_
    refine R_lo (nx := 8) rfl rfl rfl rfl ?_
    refine R_lo (nx := 9) rfl rfl rfl rfl ?_
    refine R_call1 (nx := 12) (as := [(2, 0), (0, i)]) (rest := []) rfl rfl (fun _ _ => rfl) rfl rfl rfl rfl rfl rfl rfl rfl (Cl.mono (c_P_sheetAt S i) ?_)
    rintro _ _ (⟨rfl, b9_1, rfl⟩ | ⟨rfl, b9_1, rfl⟩)
    ·
      have kb9_1 := hRC.2.2.2.2.2 i b9_1.1 b9_1.2
      have qb9_1 := hV.2.2.2.2.2 i b9_1.1 b9_1.2
      try have ka9 := kb9.1
      try have kz9 := kb9.2.1
      try have qa9 := qb9.1
      try have qz9 := qb9.2
      refine ⟨_, rfl, ?_⟩
      refine R_lo (nx := 14) (ls' := [(2, 0), (0, i), (0, j), (0, c), (0, x), (2, (-1)), (2, (63 + 2 * i)), (9, 0), (9, 0), (9, 0), (9, 0)]) rfl rfl rfl rfl ?_
      refine R_lo (nx := 16) rfl rfl rfl rfl ?_
      refine R_ifnull (nx := 19) (tg := 34) rfl rfl rfl (fun h => ?_) (fun h => absurd (by decide) h)
      refine R_op (nx := 35) rfl rfl rfl ?_
      refine R_ret rfl (fun _ _ => rfl) rfl rfl ?_
      rw [show Q_take A i j c x = ((-1), A) from by simp only [Q_take, b2, b9_1, ifo, ifm, ifp, iffq, ↓reduceIte, ite_self, and_self, and_true, true_and, and_false, false_and, or_true, true_or, or_false, false_or, or_self, not_true_eq_false, not_false_eq_true, ne_eq]]; exact ⟨rfl, hRC, fun b _ => rfl⟩
    ·
      try have ka9 := kb9.1
      try have kz9 := kb9.2.1
      try have qa9 := qb9.1
      try have qz9 := qb9.2
      refine ⟨_, rfl, ?_⟩
      refine R_lo (nx := 14) (ls' := [(2, 0), (0, i), (0, j), (0, c), (0, x), (2, (-1)), (2, (-1)), (9, 0), (9, 0), (9, 0), (9, 0)]) rfl rfl rfl rfl ?_
      refine R_lo (nx := 16) rfl rfl rfl rfl ?_
      refine R_ifnull (nx := 19) (tg := 34) rfl rfl rfl (fun h => ?_) (fun h => absurd (by decide) h)
      refine R_op (nx := 35) rfl rfl rfl ?_
      refine R_ret rfl (fun _ _ => rfl) rfl rfl ?_
      rw [show Q_take A i j c x = ((-1), A) from by simp only [Q_take, b2, b9_1, ifo, ifm, ifp, iffq, ↓reduceIte, ite_self, and_self, and_true, true_and, and_false, false_and, or_true, true_or, or_false, false_or, or_self, not_true_eq_false, not_false_eq_true, ne_eq]]; exact ⟨rfl, hRC, fun b _ => rfl⟩
