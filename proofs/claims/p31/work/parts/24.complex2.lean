/-! The class's complexes: counted, broken, copied. -/
set_option maxRecDepth 20000 in
set_option maxHeartbeats 4000000 in
theorem c_C_entriesIn (S : mm_S) (a : Int) (hC : mm_isC a) (K : CX) (h : MC S a K) (x : Int) : Cl 128 [(2, a), (0, x)] S (fun v S' => v = some (0, sm (fun y => if Xe K x y ≠ 0 then 1 else 0) (Xn K)) ∧ S = S') := by
  refine ⟨Nat.le_of_ble_eq_true rfl, ?_⟩
  show Rn k_C_entriesIn 0 [(2, a), (0, x), (9, 0), (9, 0)] [] S _
  have hnr := h.nr
  have hn := h.n
  refine R_op (nx := 1) rfl rfl rfl ?_
  refine R_lo (nx := 2) (ls' := [(2, a), (0, x), (0, 0), (9, 0)]) rfl rfl rfl rfl ?_
  refine R_op (nx := 3) rfl rfl rfl ?_
  refine R_lo (nx := 4) (ls' := [(2, a), (0, x), (0, 0), (0, 0)]) rfl rfl rfl rfl ?_
  have L4 : ∀ (f4 : Nat) (acc : Int) (i : Int), (Xn K - i).toNat < f4 → (0 ≤ i ∧ i ≤ Xn K) → (0 * i ≤ acc ∧ acc ≤ 1 * i) → (acc = sm (fun y => if Xe K x y ≠ 0 then 1 else 0) i) → Rn k_C_entriesIn 4 [(2, a), (0, x), (0, acc), (0, i)] [] S (fun v S' => v = some (0, sm (fun y => if Xe K x y ≠ 0 then 1 else 0) (Xn K)) ∧ S = S') := by
    intro f4
    induction f4 with
    | zero => intro acc i hm4; exact absurd hm4 (Nat.not_lt_zero _)
    | succ f4 ih4 =>
      intro acc i hm4 hi hb ha
      refine R_lo (nx := 5) rfl rfl rfl rfl ?_
      refine R_lo (nx := 6) rfl rfl rfl rfl ?_
      refine R_get (nx := 9) (w := (0, (S a 0))) rfl rfl (isC_ob hC) rfl ?_
      refine R_icmp (nx := 12) (tg := 35) rfl rfl rfl (mm_cnd_ge _ _) (fun c9 => ?_) (fun c9 => ?_)
      ·
        refine R_lo (nx := 36) rfl rfl rfl rfl ?_
        refine R_ret rfl (fun _ _ => rfl) rfl rfl ?_
        have e : i = Xn K := by omega
        subst e
        exact ⟨by rw [ha], rfl⟩
      ·
        refine R_lo (nx := 13) rfl rfl rfl rfl ?_
        refine R_lo (nx := 14) rfl rfl rfl rfl ?_
        refine R_lo (nx := 15) rfl rfl rfl rfl ?_
        refine R_lo (nx := 16) rfl rfl rfl rfl ?_
        refine R_call1 (nx := 19) (as := [(2, a), (0, x), (0, i)]) (rest := [(0, acc)]) rfl rfl (fun _ _ => rfl) rfl rfl rfl rfl rfl rfl (isC_rc hC _) rfl (Cl.mono (c_C_edge S a hC K (by first | assumption | exact MC.up (by assumption) (by omega) | exact MC.up (MC.up (by assumption) (by omega)) (by omega) | exact MC.up (MC.up (MC.up (by assumption) (by omega)) (by omega)) (by omega)) x i) ?_)
        rintro _ _ ⟨rfl, rfl⟩
        refine ⟨_, rfl, ?_⟩
        refine R_if (nx := 22) (tg := 26) rfl rfl rfl (mm_cnd_eq _ _) (fun c19 => ?_) (fun c19 => ?_)
        ·
          refine R_op (nx := 27) rfl rfl rfl ?_
          refine R_iadd (nx := 28) (z := (acc + 0)) rfl rfl rfl ⟨by omega, by omega⟩ ?_
          refine R_lo (nx := 29) (ls' := [(2, a), (0, x), (0, (acc + 0)), (0, i)]) rfl rfl rfl rfl ?_
          refine R_iinc (nx := 32) (z := (i + 1)) (ls' := [(2, a), (0, x), (0, (acc + 0)), (0, (i + 1))]) rfl rfl rfl rfl ⟨by omega, by omega⟩ rfl ?_
          refine R_op (nx := 35) (pc' := 4) rfl rfl rfl ?_
          refine Rn.weak (ls' := [(2, a), (0, x), (0, (acc + 0)), (0, (i + 1))]) ⟨Or.inl rfl, ⟨Or.inl rfl, ⟨Or.inl rfl, ⟨Or.inl rfl, trivial⟩⟩⟩⟩ ?_
          refine ih4 ((acc + 0)) ((i + 1)) ?_ ?_ ?_ ?_
          · omega
          · omega
          · omega
          · rw [sm_s _ hi.1, ← ha]
            first | rw [if_pos c19] | rw [if_neg (fun q => q c19)]
        ·
          refine R_op (nx := 23) rfl rfl rfl ?_
          refine R_op (nx := 26) (pc' := 27) rfl rfl rfl ?_
          refine R_iadd (nx := 28) (z := (acc + 1)) rfl rfl rfl ⟨by omega, by omega⟩ ?_
          refine R_lo (nx := 29) (ls' := [(2, a), (0, x), (0, (acc + 1)), (0, i)]) rfl rfl rfl rfl ?_
          refine R_iinc (nx := 32) (z := (i + 1)) (ls' := [(2, a), (0, x), (0, (acc + 1)), (0, (i + 1))]) rfl rfl rfl rfl ⟨by omega, by omega⟩ rfl ?_
          refine R_op (nx := 35) (pc' := 4) rfl rfl rfl ?_
          refine Rn.weak (ls' := [(2, a), (0, x), (0, (acc + 1)), (0, (i + 1))]) ⟨Or.inl rfl, ⟨Or.inl rfl, ⟨Or.inl rfl, ⟨Or.inl rfl, trivial⟩⟩⟩⟩ ?_
          refine ih4 ((acc + 1)) ((i + 1)) ?_ ?_ ?_ ?_
          · omega
          · omega
          · omega
          · rw [sm_s _ hi.1, ← ha]
            first | rw [if_pos c19] | rw [if_neg (fun q => q c19)]
  refine Rn.weak (ls' := [(2, a), (0, x), (0, 0), (0, 0)]) ⟨Or.inl rfl, ⟨Or.inl rfl, ⟨Or.inl rfl, ⟨Or.inl rfl, trivial⟩⟩⟩⟩ ?_
  refine L4 ((Xn K - (0)).toNat + 1) (0) (0) (Nat.lt_succ_self _) ?_ ?_ ?_
  · omega
  · omega
  · rfl

set_option maxRecDepth 20000 in
set_option maxHeartbeats 4000000 in
theorem c_C_edgesWith (S : mm_S) (a : Int) (hC : mm_isC a) (K : CX) (h : MC S a K) (x : Int) : Cl 129 [(2, a), (0, x)] S (fun v S' => v = some (0, sm (fun y => if Xe K y x ≠ 0 then 1 else 0) (Xn K)) ∧ S = S') := by
  refine ⟨Nat.le_of_ble_eq_true rfl, ?_⟩
  show Rn k_C_edgesWith 0 [(2, a), (0, x), (9, 0), (9, 0)] [] S _
  have hnr := h.nr
  have hn := h.n
  refine R_op (nx := 1) rfl rfl rfl ?_
  refine R_lo (nx := 2) (ls' := [(2, a), (0, x), (0, 0), (9, 0)]) rfl rfl rfl rfl ?_
  refine R_op (nx := 3) rfl rfl rfl ?_
  refine R_lo (nx := 4) (ls' := [(2, a), (0, x), (0, 0), (0, 0)]) rfl rfl rfl rfl ?_
  have L4 : ∀ (f4 : Nat) (acc : Int) (i : Int), (Xn K - i).toNat < f4 → (0 ≤ i ∧ i ≤ Xn K) → (0 * i ≤ acc ∧ acc ≤ 1 * i) → (acc = sm (fun y => if Xe K y x ≠ 0 then 1 else 0) i) → Rn k_C_edgesWith 4 [(2, a), (0, x), (0, acc), (0, i)] [] S (fun v S' => v = some (0, sm (fun y => if Xe K y x ≠ 0 then 1 else 0) (Xn K)) ∧ S = S') := by
    intro f4
    induction f4 with
    | zero => intro acc i hm4; exact absurd hm4 (Nat.not_lt_zero _)
    | succ f4 ih4 =>
      intro acc i hm4 hi hb ha
      refine R_lo (nx := 5) rfl rfl rfl rfl ?_
      refine R_lo (nx := 6) rfl rfl rfl rfl ?_
      refine R_get (nx := 9) (w := (0, (S a 0))) rfl rfl (isC_ob hC) rfl ?_
      refine R_icmp (nx := 12) (tg := 35) rfl rfl rfl (mm_cnd_ge _ _) (fun c9 => ?_) (fun c9 => ?_)
      ·
        refine R_lo (nx := 36) rfl rfl rfl rfl ?_
        refine R_ret rfl (fun _ _ => rfl) rfl rfl ?_
        have e : i = Xn K := by omega
        subst e
        exact ⟨by rw [ha], rfl⟩
      ·
        refine R_lo (nx := 13) rfl rfl rfl rfl ?_
        refine R_lo (nx := 14) rfl rfl rfl rfl ?_
        refine R_lo (nx := 15) rfl rfl rfl rfl ?_
        refine R_lo (nx := 16) rfl rfl rfl rfl ?_
        refine R_call1 (nx := 19) (as := [(2, a), (0, i), (0, x)]) (rest := [(0, acc)]) rfl rfl (fun _ _ => rfl) rfl rfl rfl rfl rfl rfl (isC_rc hC _) rfl (Cl.mono (c_C_edge S a hC K (by first | assumption | exact MC.up (by assumption) (by omega) | exact MC.up (MC.up (by assumption) (by omega)) (by omega) | exact MC.up (MC.up (MC.up (by assumption) (by omega)) (by omega)) (by omega)) i x) ?_)
        rintro _ _ ⟨rfl, rfl⟩
        refine ⟨_, rfl, ?_⟩
        refine R_if (nx := 22) (tg := 26) rfl rfl rfl (mm_cnd_eq _ _) (fun c19 => ?_) (fun c19 => ?_)
        ·
          refine R_op (nx := 27) rfl rfl rfl ?_
          refine R_iadd (nx := 28) (z := (acc + 0)) rfl rfl rfl ⟨by omega, by omega⟩ ?_
          refine R_lo (nx := 29) (ls' := [(2, a), (0, x), (0, (acc + 0)), (0, i)]) rfl rfl rfl rfl ?_
          refine R_iinc (nx := 32) (z := (i + 1)) (ls' := [(2, a), (0, x), (0, (acc + 0)), (0, (i + 1))]) rfl rfl rfl rfl ⟨by omega, by omega⟩ rfl ?_
          refine R_op (nx := 35) (pc' := 4) rfl rfl rfl ?_
          refine Rn.weak (ls' := [(2, a), (0, x), (0, (acc + 0)), (0, (i + 1))]) ⟨Or.inl rfl, ⟨Or.inl rfl, ⟨Or.inl rfl, ⟨Or.inl rfl, trivial⟩⟩⟩⟩ ?_
          refine ih4 ((acc + 0)) ((i + 1)) ?_ ?_ ?_ ?_
          · omega
          · omega
          · omega
          · rw [sm_s _ hi.1, ← ha]
            first | rw [if_pos c19] | rw [if_neg (fun q => q c19)]
        ·
          refine R_op (nx := 23) rfl rfl rfl ?_
          refine R_op (nx := 26) (pc' := 27) rfl rfl rfl ?_
          refine R_iadd (nx := 28) (z := (acc + 1)) rfl rfl rfl ⟨by omega, by omega⟩ ?_
          refine R_lo (nx := 29) (ls' := [(2, a), (0, x), (0, (acc + 1)), (0, i)]) rfl rfl rfl rfl ?_
          refine R_iinc (nx := 32) (z := (i + 1)) (ls' := [(2, a), (0, x), (0, (acc + 1)), (0, (i + 1))]) rfl rfl rfl rfl ⟨by omega, by omega⟩ rfl ?_
          refine R_op (nx := 35) (pc' := 4) rfl rfl rfl ?_
          refine Rn.weak (ls' := [(2, a), (0, x), (0, (acc + 1)), (0, (i + 1))]) ⟨Or.inl rfl, ⟨Or.inl rfl, ⟨Or.inl rfl, ⟨Or.inl rfl, trivial⟩⟩⟩⟩ ?_
          refine ih4 ((acc + 1)) ((i + 1)) ?_ ?_ ?_ ?_
          · omega
          · omega
          · omega
          · rw [sm_s _ hi.1, ← ha]
            first | rw [if_pos c19] | rw [if_neg (fun q => q c19)]
  refine Rn.weak (ls' := [(2, a), (0, x), (0, 0), (0, 0)]) ⟨Or.inl rfl, ⟨Or.inl rfl, ⟨Or.inl rfl, ⟨Or.inl rfl, trivial⟩⟩⟩⟩ ?_
  refine L4 ((Xn K - (0)).toNat + 1) (0) (0) (Nat.lt_succ_self _) ?_ ?_ ?_
  · omega
  · omega
  · rfl

set_option maxRecDepth 20000 in
set_option maxHeartbeats 4000000 in
theorem c_C_edgeOfEdge (S : mm_S) (a : Int) (hC : mm_isC a) (K : CX) (h : MC S a K) (hR : Rg K) (x y : Int) : Cl 133 [(2, a), (0, x), (0, y)] S (fun v S' => v = some (0, Xdd K x y) ∧ S = S') := by
  refine ⟨Nat.le_of_ble_eq_true rfl, ?_⟩
  show Rn k_C_edgeOfEdge 0 [(2, a), (0, x), (0, y), (9, 0), (9, 0), (9, 0)] [] S _
  have hnr := h.nr
  have hn := h.n
  refine R_lo (nx := 1) rfl rfl rfl rfl ?_
  refine R_lo (nx := 2) rfl rfl rfl rfl ?_
  refine R_call1 (nx := 5) (as := [(2, a), (0, x)]) (rest := []) rfl rfl (fun _ _ => rfl) rfl rfl rfl rfl rfl rfl (isC_rc hC _) rfl (Cl.mono (c_C_has S a hC K (by first | assumption | exact MC.up (by assumption) (by omega) | exact MC.up (MC.up (by assumption) (by omega)) (by omega) | exact MC.up (MC.up (MC.up (by assumption) (by omega)) (by omega)) (by omega)) x) ?_)
  rintro _ _ (⟨rfl, b2, rfl⟩ | ⟨rfl, b2, rfl⟩)
  ·
    refine ⟨_, rfl, ?_⟩
    refine R_ifF (nx := 8) rfl rfl rfl ?_
    refine R_lo (nx := 9) rfl rfl rfl rfl ?_
    refine R_lo (nx := 10) rfl rfl rfl rfl ?_
    refine R_call1 (nx := 13) (as := [(2, a), (0, y)]) (rest := []) rfl rfl (fun _ _ => rfl) rfl rfl rfl rfl rfl rfl (isC_rc hC _) rfl (Cl.mono (c_C_has S a hC K (by first | assumption | exact MC.up (by assumption) (by omega) | exact MC.up (MC.up (by assumption) (by omega)) (by omega) | exact MC.up (MC.up (MC.up (by assumption) (by omega)) (by omega)) (by omega)) y) ?_)
    rintro _ _ (⟨rfl, b10, rfl⟩ | ⟨rfl, b10, rfl⟩)
    ·
      refine ⟨_, rfl, ?_⟩
      refine R_ifT (tg := 18) rfl rfl rfl ?_
      refine R_op (nx := 19) rfl rfl rfl ?_
      refine R_lo (nx := 20) (ls' := [(2, a), (0, x), (0, y), (0, 0), (9, 0), (9, 0)]) rfl rfl rfl rfl ?_
      refine R_op (nx := 21) rfl rfl rfl ?_
      refine R_lo (nx := 23) (ls' := [(2, a), (0, x), (0, y), (0, 0), (0, 0), (9, 0)]) rfl rfl rfl rfl ?_
      have L23 : ∀ (f23 : Nat) (acc : Int) (i : Int), (Xn K - i).toNat < f23 → (0 ≤ i ∧ i ≤ Xn K) → (acc = sm (fun k => Xe K x k * Xe K k y) i) → Rn k_C_edgeOfEdge 23 [(2, a), (0, x), (0, y), (0, acc), (0, i), (9, 0)] [] S (fun v S' => v = some (0, Xdd K x y) ∧ S = S') := by
        intro f23
        induction f23 with
        | zero => intro acc i hm23; exact absurd hm23 (Nat.not_lt_zero _)
        | succ f23 ih23 =>
          intro acc i hm23 hi ha
          have hpb := Xdd_part hR x y hi.1 (by omega)
          have hpr := pr81 (hR.e x i) (hR.e i y)
          refine R_lo (nx := 25) rfl rfl rfl rfl ?_
          refine R_lo (nx := 26) rfl rfl rfl rfl ?_
          refine R_get (nx := 29) (w := (0, (S a 0))) rfl rfl (isC_ob hC) rfl ?_
          refine R_icmp (nx := 32) (tg := 75) rfl rfl rfl (mm_cnd_ge _ _) (fun c29 => ?_) (fun c29 => ?_)
          ·
            refine R_lo (nx := 76) rfl rfl rfl rfl ?_
            refine R_ret rfl (fun _ _ => rfl) rfl rfl ?_
            first | (have e : i = Xn K := (by omega); subst e; exact ⟨by rw [ha]; rfl, rfl⟩) | exact ⟨by rw [Xdd_out h.1 (by omega)], rfl⟩
          ·
            refine R_lo (nx := 33) rfl rfl rfl rfl ?_
            refine R_get (nx := 36) (w := (2, (a + 4))) rfl rfl (isC_ob hC) rfl ?_
            refine R_lo (nx := 37) rfl rfl rfl rfl ?_
            refine R_op (nx := 39) rfl rfl rfl ?_
            refine R_imul (nx := 40) (z := (x * 12)) rfl rfl rfl ⟨by omega, by omega⟩ ?_
            refine R_lo (nx := 42) rfl rfl rfl rfl ?_
            refine R_iadd (nx := 43) (z := ((x * 12) + i)) rfl rfl rfl ⟨by omega, by omega⟩ ?_
            refine R_iald (nx := 44) rfl rfl (isC_el4 hC (by omega) (by omega)) ?_
            rw [h.e b2 (show 0 ≤ i ∧ i < Xn K by omega)]
            refine R_lo (nx := 46) (ls' := [(2, a), (0, x), (0, y), (0, acc), (0, i), (0, (Xe K x i))]) rfl rfl rfl rfl ?_
            refine R_lo (nx := 48) rfl rfl rfl rfl ?_
            refine R_if (nx := 51) (tg := 69) rfl rfl rfl (mm_cnd_eq _ _) (fun c48 => ?_) (fun c48 => ?_)
            ·
              refine R_iinc (nx := 72) (z := (i + 1)) (ls' := [(2, a), (0, x), (0, y), (0, acc), (0, (i + 1)), (0, (Xe K x i))]) rfl rfl rfl rfl ⟨by omega, by omega⟩ rfl ?_
              refine R_op (nx := 75) (pc' := 23) rfl rfl rfl ?_
              refine Rn.weak (ls' := [(2, a), (0, x), (0, y), (0, acc), (0, (i + 1)), (9, 0)]) ⟨Or.inl rfl, ⟨Or.inl rfl, ⟨Or.inl rfl, ⟨Or.inl rfl, ⟨Or.inl rfl, ⟨Or.inr rfl, trivial⟩⟩⟩⟩⟩⟩ ?_
              refine ih23 (acc) ((i + 1)) ?_ ?_ ?_
              · omega
              · omega
              · rw [sm_s _ hi.1, ← ha]
                try rw [c48, Int.zero_mul, Int.add_zero]
            ·
              refine R_lo (nx := 52) rfl rfl rfl rfl ?_
              refine R_lo (nx := 54) rfl rfl rfl rfl ?_
              refine R_lo (nx := 55) rfl rfl rfl rfl ?_
              refine R_get (nx := 58) (w := (2, (a + 4))) rfl rfl (isC_ob hC) rfl ?_
              refine R_lo (nx := 60) rfl rfl rfl rfl ?_
              refine R_op (nx := 62) rfl rfl rfl ?_
              refine R_imul (nx := 63) (z := (i * 12)) rfl rfl rfl ⟨by omega, by omega⟩ ?_
              refine R_lo (nx := 64) rfl rfl rfl rfl ?_
              refine R_iadd (nx := 65) (z := ((i * 12) + y)) rfl rfl rfl ⟨by omega, by omega⟩ ?_
              refine R_iald (nx := 66) rfl rfl (isC_el4 hC (by omega) (by omega)) ?_
              rw [h.e (show 0 ≤ i ∧ i < Xn K by omega) b10]
              refine R_imul (nx := 67) (z := ((Xe K x i) * (Xe K i y))) rfl rfl rfl ⟨by omega, by omega⟩ ?_
              refine R_iadd (nx := 68) (z := (acc + ((Xe K x i) * (Xe K i y)))) rfl rfl rfl ⟨by omega, by omega⟩ ?_
              refine R_lo (nx := 69) (ls' := [(2, a), (0, x), (0, y), (0, (acc + ((Xe K x i) * (Xe K i y)))), (0, i), (0, (Xe K x i))]) rfl rfl rfl rfl ?_
              refine R_iinc (nx := 72) (z := (i + 1)) (ls' := [(2, a), (0, x), (0, y), (0, (acc + ((Xe K x i) * (Xe K i y)))), (0, (i + 1)), (0, (Xe K x i))]) rfl rfl rfl rfl ⟨by omega, by omega⟩ rfl ?_
              refine R_op (nx := 75) (pc' := 23) rfl rfl rfl ?_
              refine Rn.weak (ls' := [(2, a), (0, x), (0, y), (0, (acc + ((Xe K x i) * (Xe K i y)))), (0, (i + 1)), (9, 0)]) ⟨Or.inl rfl, ⟨Or.inl rfl, ⟨Or.inl rfl, ⟨Or.inl rfl, ⟨Or.inl rfl, ⟨Or.inr rfl, trivial⟩⟩⟩⟩⟩⟩ ?_
              refine ih23 ((acc + ((Xe K x i) * (Xe K i y)))) ((i + 1)) ?_ ?_ ?_
              · omega
              · omega
              · rw [sm_s _ hi.1, ← ha]
                try rw [c48, Int.zero_mul, Int.add_zero]
      refine Rn.weak (ls' := [(2, a), (0, x), (0, y), (0, 0), (0, 0), (9, 0)]) ⟨Or.inl rfl, ⟨Or.inl rfl, ⟨Or.inl rfl, ⟨Or.inl rfl, ⟨Or.inl rfl, ⟨Or.inl rfl, trivial⟩⟩⟩⟩⟩⟩ ?_
      refine L23 ((Xn K - (0)).toNat + 1) (0) (0) (Nat.lt_succ_self _) ?_ ?_
      · omega
      · rfl
    ·
      refine ⟨_, rfl, ?_⟩
      refine R_ifF (nx := 16) rfl rfl rfl ?_
      refine R_op (nx := 17) rfl rfl rfl ?_
      refine R_ret rfl (fun _ _ => rfl) rfl rfl ?_
      first | (have e : i = Xn K := (by omega); subst e; exact ⟨by rw [ha]; rfl, rfl⟩) | exact ⟨by rw [Xdd_out h.1 (by omega)], rfl⟩
  ·
    refine ⟨_, rfl, ?_⟩
    refine R_ifT (tg := 16) rfl rfl rfl ?_
    refine R_op (nx := 17) rfl rfl rfl ?_
    refine R_ret rfl (fun _ _ => rfl) rfl rfl ?_
    first | (have e : i = Xn K := (by omega); subst e; exact ⟨by rw [ha]; rfl, rfl⟩) | exact ⟨by rw [Xdd_out h.1 (by omega)], rfl⟩

theorem Xfb_hit {K : CX} {x y : Int} (hx : x < Xn K) (hy : y < Xn K) (h0 : 0 ≤ x ∧ 0 ≤ y) (ho : Xfb K = fr (fun x => fr (Xfbr K x) 0 (Xn K)) x (Xn K)) (hq : fr (Xfbr K x) 0 (Xn K) = fr (Xfbr K x) y (Xn K)) (hne : Xdd K x y ≠ 0) : Xfb K = 1 + 16 * x + y := by
  have e : Xfbr K x y = 1 + 16 * x + y := if_pos hne
  have e2 : fr (Xfbr K x) 0 (Xn K) = 1 + 16 * x + y := by rw [hq, fr_y _ hy (by rw [e]; omega), e]
  rw [ho, fr_y _ hx (by rw [e2]; omega), e2]
theorem Xfb_row {K : CX} {x : Int} (hx : x < Xn K) (ho : Xfb K = fr (fun x => fr (Xfbr K x) 0 (Xn K)) x (Xn K)) (hr : fr (Xfbr K x) 0 (Xn K) = 0) : Xfb K = fr (fun x => fr (Xfbr K x) 0 (Xn K)) (x + 1) (Xn K) := by rw [ho, fr_n _ hx hr]
theorem Xfb_nxt {K : CX} {x y : Int} (hy : y < Xn K) (hq : fr (Xfbr K x) 0 (Xn K) = fr (Xfbr K x) y (Xn K)) (h0 : Xdd K x y = 0) : fr (Xfbr K x) 0 (Xn K) = fr (Xfbr K x) (y + 1) (Xn K) := by rw [hq, fr_n _ hy (if_neg (fun q => q h0))]
theorem Xfb_low {K : CX} (hV : Vx K) {x : Int} (hd : Xd K x - 2 < 0) : fr (Xfbr K x) 0 (Xn K) = 0 := fr_z.mpr fun y _ _ => if_neg fun q => q (Xdd_may hV (by have := hV.2.1.d y; omega))

set_option maxRecDepth 20000 in
set_option maxHeartbeats 4000000 in
theorem c_C_firstBroken (S : mm_S) (a : Int) (hC : mm_isC a) (K : CX) (h : MC S a K) (hV : Vx K) : Cl 131 [(2, a)] S (fun v S' => v = some (0, Xfb K) ∧ S = S') := by
  refine ⟨Nat.le_of_ble_eq_true rfl, ?_⟩
  show Rn k_C_firstBroken 0 [(2, a), (9, 0), (9, 0), (9, 0)] [] S _
  have hnr := h.nr
  have hn := h.n
  have hR := hV.2.1
  refine R_op (nx := 1) rfl rfl rfl ?_
  refine R_lo (nx := 2) (ls' := [(2, a), (0, 0), (9, 0), (9, 0)]) rfl rfl rfl rfl ?_
  have L2 : ∀ (f2 : Nat) (x : Int), (Xn K - x).toNat < f2 → (0 ≤ x ∧ x ≤ Xn K) → (Xfb K = fr (fun x => fr (Xfbr K x) 0 (Xn K)) x (Xn K)) → Rn k_C_firstBroken 2 [(2, a), (0, x), (9, 0), (9, 0)] [] S (fun v S' => v = some (0, Xfb K) ∧ S = S') := by
    intro f2
    induction f2 with
    | zero => intro x hm2; exact absurd hm2 (Nat.not_lt_zero _)
    | succ f2 ih2 =>
      intro x hm2 hx ho
      have hdr := hR.d x
      refine R_lo (nx := 3) rfl rfl rfl rfl ?_
      refine R_lo (nx := 4) rfl rfl rfl rfl ?_
      refine R_get (nx := 7) (w := (0, (S a 0))) rfl rfl (isC_ob hC) rfl ?_
      refine R_icmp (nx := 10) (tg := 71) rfl rfl rfl (mm_cnd_ge _ _) (fun c7 => ?_) (fun c7 => ?_)
      ·
        refine R_op (nx := 72) rfl rfl rfl ?_
        refine R_ret rfl (fun _ _ => rfl) rfl rfl ?_
        first | exact ⟨by rw [Xfb_hit (by omega) (by omega) (by omega) ho hq c47], rfl⟩ | exact ⟨by rw [ho, fr_e _ (by omega)], rfl⟩
      ·
        refine R_lo (nx := 11) rfl rfl rfl rfl ?_
        refine R_lo (nx := 12) rfl rfl rfl rfl ?_
        refine R_call1 (nx := 15) (as := [(2, a), (0, x)]) (rest := []) rfl rfl (fun _ _ => rfl) rfl rfl rfl rfl rfl rfl (isC_rc hC _) rfl (Cl.mono (c_C_degree S a hC K (by first | assumption | exact MC.up (by assumption) (by omega) | exact MC.up (MC.up (by assumption) (by omega)) (by omega) | exact MC.up (MC.up (MC.up (by assumption) (by omega)) (by omega)) (by omega)) x) ?_)
        rintro _ _ ⟨rfl, rfl⟩
        refine ⟨_, rfl, ?_⟩
        refine R_op (nx := 16) rfl rfl rfl ?_
        refine R_isub (nx := 17) (z := ((Xd K x) - 2)) rfl rfl rfl ⟨by omega, by omega⟩ ?_
        refine R_lo (nx := 18) (ls' := [(2, a), (0, x), (0, ((Xd K x) - 2)), (9, 0)]) rfl rfl rfl rfl ?_
        refine R_op (nx := 19) rfl rfl rfl ?_
        refine R_lo (nx := 20) (ls' := [(2, a), (0, x), (0, ((Xd K x) - 2)), (0, 0)]) rfl rfl rfl rfl ?_
        have L20 : ∀ (f20 : Nat) (y : Int), (Xn K - y).toNat < f20 → (0 ≤ y ∧ y ≤ Xn K) → (fr (Xfbr K x) 0 (Xn K) = fr (Xfbr K x) y (Xn K)) → Rn k_C_firstBroken 20 [(2, a), (0, x), (0, (Xd K x - 2)), (0, y)] [] S (fun v S' => v = some (0, Xfb K) ∧ S = S') := by
          intro f20
          induction f20 with
          | zero => intro y hm20; exact absurd hm20 (Nat.not_lt_zero _)
          | succ f20 ih20 =>
            intro y hm20 hy hq
            refine R_lo (nx := 21) rfl rfl rfl rfl ?_
            refine R_lo (nx := 22) rfl rfl rfl rfl ?_
            refine R_get (nx := 25) (w := (0, (S a 0))) rfl rfl (isC_ob hC) rfl ?_
            refine R_icmp (nx := 28) (tg := 65) rfl rfl rfl (mm_cnd_ge _ _) (fun c25 => ?_) (fun c25 => ?_)
            ·
              refine R_iinc (nx := 68) (z := (x + 1)) (ls' := [(2, a), (0, (x + 1)), (0, (Xd K x - 2)), (0, y)]) rfl rfl rfl rfl ⟨by omega, by omega⟩ rfl ?_
              refine R_op (nx := 71) (pc' := 2) rfl rfl rfl ?_
              refine Rn.weak (ls' := [(2, a), (0, (x + 1)), (9, 0), (9, 0)]) ⟨Or.inl rfl, ⟨Or.inl rfl, ⟨Or.inr rfl, ⟨Or.inr rfl, trivial⟩⟩⟩⟩ ?_
              refine ih2 ((x + 1)) ?_ ?_ ?_
              · omega
              · omega
              · first | exact Xfb_row (by omega) ho (by rw [hq, fr_e _ (by omega)]) | exact Xfb_row (by omega) ho (Xfb_low hV (by omega))
            ·
              refine R_lo (nx := 29) rfl rfl rfl rfl ?_
              refine R_if (nx := 32) (tg := 65) rfl rfl rfl (mm_cnd_lt _ _) (fun c29 => ?_) (fun c29 => ?_)
              ·
                refine R_iinc (nx := 68) (z := (x + 1)) (ls' := [(2, a), (0, (x + 1)), (0, (Xd K x - 2)), (0, y)]) rfl rfl rfl rfl ⟨by omega, by omega⟩ rfl ?_
                refine R_op (nx := 71) (pc' := 2) rfl rfl rfl ?_
                refine Rn.weak (ls' := [(2, a), (0, (x + 1)), (9, 0), (9, 0)]) ⟨Or.inl rfl, ⟨Or.inl rfl, ⟨Or.inr rfl, ⟨Or.inr rfl, trivial⟩⟩⟩⟩ ?_
                refine ih2 ((x + 1)) ?_ ?_ ?_
                · omega
                · omega
                · first | exact Xfb_row (by omega) ho (by rw [hq, fr_e _ (by omega)]) | exact Xfb_row (by omega) ho (Xfb_low hV (by omega))
              ·
                refine R_lo (nx := 33) rfl rfl rfl rfl ?_
                refine R_lo (nx := 34) rfl rfl rfl rfl ?_
                refine R_call1 (nx := 37) (as := [(2, a), (0, y)]) (rest := []) rfl rfl (fun _ _ => rfl) rfl rfl rfl rfl rfl rfl (isC_rc hC _) rfl (Cl.mono (c_C_degree S a hC K (by first | assumption | exact MC.up (by assumption) (by omega) | exact MC.up (MC.up (by assumption) (by omega)) (by omega) | exact MC.up (MC.up (MC.up (by assumption) (by omega)) (by omega)) (by omega)) y) ?_)
                rintro _ _ ⟨rfl, rfl⟩
                refine ⟨_, rfl, ?_⟩
                refine R_lo (nx := 38) rfl rfl rfl rfl ?_
                refine R_icmp (nx := 41) (tg := 59) rfl rfl rfl (mm_cnd_ne _ _) (fun c38 => ?_) (fun c38 => ?_)
                ·
                  refine R_iinc (nx := 62) (z := (y + 1)) (ls' := [(2, a), (0, x), (0, (Xd K x - 2)), (0, (y + 1))]) rfl rfl rfl rfl ⟨by omega, by omega⟩ rfl ?_
                  refine R_op (nx := 65) (pc' := 20) rfl rfl rfl ?_
                  refine Rn.weak (ls' := [(2, a), (0, x), (0, (Xd K x - 2)), (0, (y + 1))]) ⟨Or.inl rfl, ⟨Or.inl rfl, ⟨Or.inl rfl, ⟨Or.inl rfl, trivial⟩⟩⟩⟩ ?_
                  refine ih20 ((y + 1)) ?_ ?_ ?_
                  · omega
                  · omega
                  · first | exact Xfb_nxt (by omega) hq c47 | exact Xfb_nxt (by omega) hq (Xdd_may hV c38)
                ·
                  replace c38 := Classical.not_not.mp c38
                  refine R_lo (nx := 42) rfl rfl rfl rfl ?_
                  refine R_lo (nx := 43) rfl rfl rfl rfl ?_
                  refine R_lo (nx := 44) rfl rfl rfl rfl ?_
                  refine R_call1 (nx := 47) (as := [(2, a), (0, x), (0, y)]) (rest := []) rfl rfl (fun _ _ => rfl) rfl rfl rfl rfl rfl rfl (isC_rc hC _) rfl (Cl.mono (c_C_edgeOfEdge S a hC K (by first | assumption | exact MC.up (by assumption) (by omega) | exact MC.up (MC.up (by assumption) (by omega)) (by omega) | exact MC.up (MC.up (MC.up (by assumption) (by omega)) (by omega)) (by omega)) (by assumption) x y) ?_)
                  rintro _ _ ⟨rfl, rfl⟩
                  refine ⟨_, rfl, ?_⟩
                  refine R_if (nx := 50) (tg := 59) rfl rfl rfl (mm_cnd_eq _ _) (fun c47 => ?_) (fun c47 => ?_)
                  ·
                    refine R_iinc (nx := 62) (z := (y + 1)) (ls' := [(2, a), (0, x), (0, (Xd K x - 2)), (0, (y + 1))]) rfl rfl rfl rfl ⟨by omega, by omega⟩ rfl ?_
                    refine R_op (nx := 65) (pc' := 20) rfl rfl rfl ?_
                    refine Rn.weak (ls' := [(2, a), (0, x), (0, (Xd K x - 2)), (0, (y + 1))]) ⟨Or.inl rfl, ⟨Or.inl rfl, ⟨Or.inl rfl, ⟨Or.inl rfl, trivial⟩⟩⟩⟩ ?_
                    refine ih20 ((y + 1)) ?_ ?_ ?_
                    · omega
                    · omega
                    · first | exact Xfb_nxt (by omega) hq c47 | exact Xfb_nxt (by omega) hq (Xdd_may hV c38)
                  ·
                    refine R_op (nx := 51) rfl rfl rfl ?_
                    refine R_op (nx := 53) rfl rfl rfl ?_
                    refine R_lo (nx := 54) rfl rfl rfl rfl ?_
                    refine R_imul (nx := 55) (z := (16 * x)) rfl rfl rfl ⟨by omega, by omega⟩ ?_
                    refine R_iadd (nx := 56) (z := (1 + (16 * x))) rfl rfl rfl ⟨by omega, by omega⟩ ?_
                    refine R_lo (nx := 57) rfl rfl rfl rfl ?_
                    refine R_iadd (nx := 58) (z := ((1 + (16 * x)) + y)) rfl rfl rfl ⟨by omega, by omega⟩ ?_
                    refine R_ret rfl (fun _ _ => rfl) rfl rfl ?_
                    first | exact ⟨by rw [Xfb_hit (by omega) (by omega) (by omega) ho hq c47], rfl⟩ | exact ⟨by rw [ho, fr_e _ (by omega)], rfl⟩
        refine Rn.weak (ls' := [(2, a), (0, x), (0, (Xd K x - 2)), (0, 0)]) ⟨Or.inl rfl, ⟨Or.inl rfl, ⟨Or.inl rfl, ⟨Or.inl rfl, trivial⟩⟩⟩⟩ ?_
        refine L20 ((Xn K - (0)).toNat + 1) (0) (Nat.lt_succ_self _) ?_ ?_
        · omega
        · rfl
  refine Rn.weak (ls' := [(2, a), (0, 0), (9, 0), (9, 0)]) ⟨Or.inl rfl, ⟨Or.inl rfl, ⟨Or.inl rfl, ⟨Or.inl rfl, trivial⟩⟩⟩⟩ ?_
  refine L2 ((Xn K - (0)).toNat + 1) (0) (Nat.lt_succ_self _) ?_ ?_
  · omega
  · rfl

set_option maxRecDepth 20000 in
set_option maxHeartbeats 4000000 in
theorem c_C_isBroken (S : mm_S) (a : Int) (hC : mm_isC a) (K : CX) (h : MC S a K) (hV : Vx K) : Cl 130 [(2, a)] S (fun v S' => (v = some (0, 1) ∧ (Xfb K ≠ 0) ∧ S = S') ∨ (v = some (0, 0) ∧ ¬ (Xfb K ≠ 0) ∧ S = S')) := by
  refine ⟨Nat.le_of_ble_eq_true rfl, ?_⟩
  show Rn k_C_isBroken 0 [(2, a)] [] S _
  have hnr := h.nr
  have hn := h.n
  refine R_lo (nx := 1) rfl rfl rfl rfl ?_
  refine R_call1 (nx := 4) (as := [(2, a)]) (rest := []) rfl rfl (fun _ _ => rfl) rfl rfl rfl rfl rfl rfl (isC_rc hC _) rfl (Cl.mono (c_C_firstBroken S a hC K (by first | assumption | exact MC.up (by assumption) (by omega) | exact MC.up (MC.up (by assumption) (by omega)) (by omega) | exact MC.up (MC.up (MC.up (by assumption) (by omega)) (by omega)) (by omega)) (by assumption)) ?_)
  rintro _ _ ⟨rfl, rfl⟩
  refine ⟨_, rfl, ?_⟩
  refine R_if (nx := 7) (tg := 11) rfl rfl rfl (mm_cnd_eq _ _) (fun c4 => ?_) (fun c4 => ?_)
  ·
    refine R_op (nx := 12) rfl rfl rfl ?_
    refine R_ret rfl (fun _ _ => rfl) rfl rfl ?_
    first | exact Or.inl ⟨rfl, c4, rfl⟩ | exact Or.inr ⟨rfl, fun q => q c4, rfl⟩
  ·
    refine R_op (nx := 8) rfl rfl rfl ?_
    refine R_op (nx := 11) (pc' := 12) rfl rfl rfl ?_
    refine R_ret rfl (fun _ _ => rfl) rfl rfl ?_
    first | exact Or.inl ⟨rfl, c4, rfl⟩ | exact Or.inr ⟨rfl, fun q => q c4, rfl⟩

set_option maxRecDepth 20000 in
set_option maxHeartbeats 4000000 in
theorem c_C_stillBroken (S : mm_S) (a : Int) (hC : mm_isC a) (K : CX) (h : MC S a K) (hV : Vx K) (t : Int) (ht : 0 ≤ t ∧ t ≤ 1000) : Cl 132 [(2, a), (0, t)] S (fun v S' => ∃ r, v = some (0, r) ∧ S = S' ∧ (0 ≤ r ∧ r ≤ 1000) ∧ (r = 0 ↔ Xfb K = 0)) := by
  refine ⟨Nat.le_of_ble_eq_true rfl, ?_⟩
  show Rn k_C_stillBroken 0 [(2, a), (0, t), (9, 0)] [] S _
  have hnr := h.nr
  have hn := h.n
  have hR := hV.2.1
  have hf := Xfb_r h.1
  have hz := Xfb_z h.1
  have ht1 := Int.tdiv_eq_ediv_of_nonneg (a := t - 1) (b := 16)
  refine R_lo (nx := 1) rfl rfl rfl rfl ?_
  refine R_op (nx := 2) rfl rfl rfl ?_
  refine R_isub (nx := 3) (z := (t - 1)) rfl rfl rfl ⟨by omega, by omega⟩ ?_
  refine R_lo (nx := 4) (ls' := [(2, a), (0, t), (0, (t - 1))]) rfl rfl rfl rfl ?_
  refine R_lo (nx := 5) rfl rfl rfl rfl ?_
  refine R_if (nx := 8) (tg := 27) rfl rfl rfl (mm_cnd_lt _ _) (fun c5 => ?_) (fun c5 => ?_)
  ·
    refine R_lo (nx := 28) rfl rfl rfl rfl ?_
    refine R_call1 (nx := 31) (as := [(2, a)]) (rest := []) rfl rfl (fun _ _ => rfl) rfl rfl rfl rfl rfl rfl (isC_rc hC _) rfl (Cl.mono (c_C_firstBroken S a hC K (by first | assumption | exact MC.up (by assumption) (by omega) | exact MC.up (MC.up (by assumption) (by omega)) (by omega) | exact MC.up (MC.up (MC.up (by assumption) (by omega)) (by omega)) (by omega)) (by assumption)) ?_)
    rintro _ _ ⟨rfl, rfl⟩
    refine ⟨_, rfl, ?_⟩
    refine R_ret rfl (fun _ _ => rfl) rfl rfl ?_
    first | exact ⟨_, rfl, rfl, by omega, by omega⟩ | exact ⟨_, rfl, rfl, by omega, by omega, fun q => absurd (hz.mp q _ _) c20⟩
  ·
    refine R_lo (nx := 9) rfl rfl rfl rfl ?_
    refine R_lo (nx := 10) rfl rfl rfl rfl ?_
    refine R_op (nx := 12) rfl rfl rfl ?_
    refine R_idiv (nx := 13) (z := (Int.tdiv (t - 1) 16)) rfl rfl (by decide) rfl ⟨by have := ht1 (by omega); omega, by have := ht1 (by omega); omega⟩ ?_
    refine R_lo (nx := 14) rfl rfl rfl rfl ?_
    refine R_op (nx := 16) rfl rfl rfl ?_
    refine R_irem (nx := 17) (z := (Int.tmod (t - 1) 16)) rfl rfl (by decide) rfl ?_
    refine R_call1 (nx := 20) (as := [(2, a), (0, (Int.tdiv (t - 1) 16)), (0, (Int.tmod (t - 1) 16))]) (rest := []) rfl rfl (fun _ _ => rfl) rfl rfl rfl rfl rfl rfl (isC_rc hC _) rfl (Cl.mono (c_C_edgeOfEdge S a hC K (by first | assumption | exact MC.up (by assumption) (by omega) | exact MC.up (MC.up (by assumption) (by omega)) (by omega) | exact MC.up (MC.up (MC.up (by assumption) (by omega)) (by omega)) (by omega)) (by assumption) (Int.tdiv (t - 1) 16) (Int.tmod (t - 1) 16)) ?_)
    rintro _ _ ⟨rfl, rfl⟩
    refine ⟨_, rfl, ?_⟩
    refine R_if (nx := 23) (tg := 27) rfl rfl rfl (mm_cnd_eq _ _) (fun c20 => ?_) (fun c20 => ?_)
    ·
      refine R_lo (nx := 28) rfl rfl rfl rfl ?_
      refine R_call1 (nx := 31) (as := [(2, a)]) (rest := []) rfl rfl (fun _ _ => rfl) rfl rfl rfl rfl rfl rfl (isC_rc hC _) rfl (Cl.mono (c_C_firstBroken S a hC K (by first | assumption | exact MC.up (by assumption) (by omega) | exact MC.up (MC.up (by assumption) (by omega)) (by omega) | exact MC.up (MC.up (MC.up (by assumption) (by omega)) (by omega)) (by omega)) (by assumption)) ?_)
      rintro _ _ ⟨rfl, rfl⟩
      refine ⟨_, rfl, ?_⟩
      refine R_ret rfl (fun _ _ => rfl) rfl rfl ?_
      first | exact ⟨_, rfl, rfl, by omega, by omega⟩ | exact ⟨_, rfl, rfl, by omega, by omega, fun q => absurd (hz.mp q _ _) c20⟩
    ·
      refine R_lo (nx := 24) rfl rfl rfl rfl ?_
      refine R_op (nx := 27) (pc' := 31) rfl rfl rfl ?_
      refine R_ret rfl (fun _ _ => rfl) rfl rfl ?_
      first | exact ⟨_, rfl, rfl, by omega, by omega⟩ | exact ⟨_, rfl, rfl, by omega, by omega, fun q => absurd (hz.mp q _ _) c20⟩

theorem acp_C {a b : Int} (hC : mm_isC a) (hB : mm_isC b) : (0 ≤ b + 1 ∧ 0 ≤ a + 1 ∧ (0 : Int) ≤ 0 ∧ (0 : Int) ≤ 0 ∧ (0 : Int) ≤ 12 ∧ 0 + 12 ≤ ((mm_kd (b + 1).toNat).2 : Int) ∧ 0 + 12 ≤ ((mm_kd (a + 1).toNat).2 : Int) ∧ (mm_kd (b + 1).toNat).1 = (mm_kd (a + 1).toNat).1 ∧ ((mm_kd (b + 1).toNat).1 = 1 ∨ (mm_kd (b + 1).toNat).1 = 2) ∧ mm_cs [] ≤ 8) ∧ (0 ≤ b + 2 ∧ 0 ≤ a + 2 ∧ (0 : Int) ≤ 0 ∧ (0 : Int) ≤ 0 ∧ (0 : Int) ≤ 12 ∧ 0 + 12 ≤ ((mm_kd (b + 2).toNat).2 : Int) ∧ 0 + 12 ≤ ((mm_kd (a + 2).toNat).2 : Int) ∧ (mm_kd (b + 2).toNat).1 = (mm_kd (a + 2).toNat).1 ∧ ((mm_kd (b + 2).toNat).1 = 1 ∨ (mm_kd (b + 2).toNat).1 = 2) ∧ mm_cs [] ≤ 8) ∧ (0 ≤ b + 3 ∧ 0 ≤ a + 3 ∧ (0 : Int) ≤ 0 ∧ (0 : Int) ≤ 0 ∧ (0 : Int) ≤ 12 ∧ 0 + 12 ≤ ((mm_kd (b + 3).toNat).2 : Int) ∧ 0 + 12 ≤ ((mm_kd (a + 3).toNat).2 : Int) ∧ (mm_kd (b + 3).toNat).1 = (mm_kd (a + 3).toNat).1 ∧ ((mm_kd (b + 3).toNat).1 = 1 ∨ (mm_kd (b + 3).toNat).1 = 2) ∧ mm_cs [] ≤ 8) ∧ (0 ≤ b + 4 ∧ 0 ≤ a + 4 ∧ (0 : Int) ≤ 0 ∧ (0 : Int) ≤ 0 ∧ (0 : Int) ≤ 144 ∧ 0 + 144 ≤ ((mm_kd (b + 4).toNat).2 : Int) ∧ 0 + 144 ≤ ((mm_kd (a + 4).toNat).2 : Int) ∧ (mm_kd (b + 4).toNat).1 = (mm_kd (a + 4).toNat).1 ∧ ((mm_kd (b + 4).toNat).1 = 1 ∨ (mm_kd (b + 4).toNat).1 = 2) ∧ mm_cs [] ≤ 8) := by
  obtain ⟨p0, p1, p2, p3, p4, p5⟩ := isC_kd hC
  obtain ⟨q0, q1, q2, q3, q4, q5⟩ := isC_kd hB
  rw [p2, p3, p4, p5, q2, q3, q4, q5]
  have hz : mm_cs [] ≤ 8 := by decide
  refine ⟨⟨by omega, by omega, by decide, by decide, by decide, by decide, by decide, rfl, Or.inl rfl, hz⟩, ⟨by omega, by omega, by decide, by decide, by decide, by decide, by decide, rfl, Or.inl rfl, hz⟩, ⟨by omega, by omega, by decide, by decide, by decide, by decide, by decide, rfl, Or.inl rfl, hz⟩, by omega, by omega, by decide, by decide, by decide, by decide, by decide, rfl, Or.inl rfl, hz⟩
theorem MC_become {S : mm_S} {a b : Int} {K : CX} (h : MC S b K) (hd : a + 4 < b ∨ b + 4 < a) : MC (mm_cpy (mm_cpy (mm_cpy (mm_cpy (mm_up S a 0 (S b 0)) (b + 1) 0 (a + 1) 0 12) (b + 2) 0 (a + 2) 0 12) (b + 3) 0 (a + 3) 0 12) (b + 4) 0 (a + 4) 0 144) a K := by
  have hnr := h.nr
  refine ⟨h.1, ?_, fun x p q => ⟨?_, ?_, ?_⟩, fun x y p q r t => ?_⟩
  · rw [mm_cpy_ne (by omega), mm_cpy_ne (by omega), mm_cpy_ne (by omega), mm_cpy_ne (by omega), mm_ua]; exact h.n
  · rw [mm_cpy_ne (by omega), mm_cpy_ne (by omega), mm_cpy_ne (by omega), mm_cpy_in (by omega) (by omega), mm_unq (by omega), show 0 + (x - 0) = x by omega]; exact h.d ⟨p, q⟩
  · rw [mm_cpy_ne (by omega), mm_cpy_ne (by omega), mm_cpy_in (by omega) (by omega), mm_cpy_ne (by omega), mm_unq (by omega), show 0 + (x - 0) = x by omega]; exact h.l0 ⟨p, q⟩
  · rw [mm_cpy_ne (by omega), mm_cpy_in (by omega) (by omega), mm_cpy_ne (by omega), mm_cpy_ne (by omega), mm_unq (by omega), show 0 + (x - 0) = x by omega]; exact h.l1 ⟨p, q⟩
  · rw [mm_cpy_in (by omega) (by omega), mm_cpy_ne (by omega), mm_cpy_ne (by omega), mm_cpy_ne (by omega), mm_unq (by omega), show 0 + (x * 12 + y - 0) = x * 12 + y by omega]; exact h.e ⟨p, q⟩ ⟨r, t⟩
theorem fr_become {S : mm_S} {a b c : Int} (hc : ¬ (a ≤ c ∧ c ≤ a + 4)) : mm_cpy (mm_cpy (mm_cpy (mm_cpy (mm_up S a 0 (S b 0)) (b + 1) 0 (a + 1) 0 12) (b + 2) 0 (a + 2) 0 12) (b + 3) 0 (a + 3) 0 12) (b + 4) 0 (a + 4) 0 144 c = S c := by
  rw [mm_cpy_ne (by omega), mm_cpy_ne (by omega), mm_cpy_ne (by omega), mm_cpy_ne (by omega), mm_unq (by omega)]

set_option maxRecDepth 20000 in
set_option maxHeartbeats 4000000 in
theorem c_C_become (S : mm_S) (a : Int) (hC : mm_isC a) (b : Int) (hB : mm_isC b) (K : CX) (h : MC S b K) (hd : a + 4 < b ∨ b + 4 < a) : Cl 134 [(2, a), (2, b)] S (fun v S' => v = none ∧ MC S' a K ∧ ∀ c, ¬ (a ≤ c ∧ c ≤ a + 4) → S' c = S c) := by
  refine ⟨Nat.le_of_ble_eq_true rfl, ?_⟩
  show Rn k_C_become 0 [(2, a), (2, b)] [] S _
  refine R_lo (nx := 1) rfl rfl rfl rfl ?_
  refine R_lo (nx := 2) rfl rfl rfl rfl ?_
  refine R_get (nx := 5) (w := (0, (S b 0))) rfl rfl (isC_ob hB) rfl ?_
  refine R_put (nx := 8) (kk := 0) rfl rfl (isC_ob hC) rfl rfl ?_
  refine R_lo (nx := 9) rfl rfl rfl rfl ?_
  refine R_get (nx := 12) (w := (2, (b + 1))) rfl rfl (isC_ob hB) rfl ?_
  refine R_op (nx := 13) rfl rfl rfl ?_
  refine R_lo (nx := 14) rfl rfl rfl rfl ?_
  refine R_get (nx := 17) (w := (2, (a + 1))) rfl rfl (isC_ob hC) rfl ?_
  refine R_op (nx := 18) rfl rfl rfl ?_
  refine R_op (nx := 20) rfl rfl rfl ?_
  refine R_acp (nx := 23) rfl rfl (acp_C hC hB).1 ?_
  refine R_lo (nx := 24) rfl rfl rfl rfl ?_
  refine R_get (nx := 27) (w := (2, (b + 2))) rfl rfl (isC_ob hB) rfl ?_
  refine R_op (nx := 28) rfl rfl rfl ?_
  refine R_lo (nx := 29) rfl rfl rfl rfl ?_
  refine R_get (nx := 32) (w := (2, (a + 2))) rfl rfl (isC_ob hC) rfl ?_
  refine R_op (nx := 33) rfl rfl rfl ?_
  refine R_op (nx := 35) rfl rfl rfl ?_
  refine R_acp (nx := 38) rfl rfl (acp_C hC hB).2.1 ?_
  refine R_lo (nx := 39) rfl rfl rfl rfl ?_
  refine R_get (nx := 42) (w := (2, (b + 3))) rfl rfl (isC_ob hB) rfl ?_
  refine R_op (nx := 43) rfl rfl rfl ?_
  refine R_lo (nx := 44) rfl rfl rfl rfl ?_
  refine R_get (nx := 47) (w := (2, (a + 3))) rfl rfl (isC_ob hC) rfl ?_
  refine R_op (nx := 48) rfl rfl rfl ?_
  refine R_op (nx := 50) rfl rfl rfl ?_
  refine R_acp (nx := 53) rfl rfl (acp_C hC hB).2.2.1 ?_
  refine R_lo (nx := 54) rfl rfl rfl rfl ?_
  refine R_get (nx := 57) (w := (2, (b + 4))) rfl rfl (isC_ob hB) rfl ?_
  refine R_op (nx := 58) rfl rfl rfl ?_
  refine R_lo (nx := 59) rfl rfl rfl rfl ?_
  refine R_get (nx := 62) (w := (2, (a + 4))) rfl rfl (isC_ob hC) rfl ?_
  refine R_op (nx := 63) rfl rfl rfl ?_
  refine R_op (nx := 66) rfl rfl rfl ?_
  refine R_acp (nx := 69) rfl rfl (acp_C hC hB).2.2.2 ?_
  refine R_ret rfl (fun _ _ => rfl) rfl rfl ?_
  exact ⟨rfl, MC_become h hd, fun c hc => fr_become hc⟩

set_option maxRecDepth 20000 in
set_option maxHeartbeats 4000000 in
theorem c_C_topDegree (S : mm_S) (a : Int) (hC : mm_isC a) (K : CX) (h : MC S a K) (hR : Rg K) : Cl 136 [(2, a)] S (fun v S' => v = some (0, mx (Xd K) (Xn K)) ∧ S = S') := by
  refine ⟨Nat.le_of_ble_eq_true rfl, ?_⟩
  show Rn k_C_topDegree 0 [(2, a), (9, 0), (9, 0)] [] S _
  have hnr := h.nr
  have hn := h.n
  refine R_op (nx := 1) rfl rfl rfl ?_
  refine R_lo (nx := 2) (ls' := [(2, a), (0, 0), (9, 0)]) rfl rfl rfl rfl ?_
  refine R_op (nx := 3) rfl rfl rfl ?_
  refine R_lo (nx := 4) (ls' := [(2, a), (0, 0), (0, 0)]) rfl rfl rfl rfl ?_
  have L4 : ∀ (f4 : Nat) (acc : Int) (i : Int), (Xn K - i).toNat < f4 → (0 ≤ i ∧ i ≤ Xn K) → (0 ≤ acc ∧ acc ≤ 4) → (acc = mx (Xd K) i) → Rn k_C_topDegree 4 [(2, a), (0, acc), (0, i)] [] S (fun v S' => v = some (0, mx (Xd K) (Xn K)) ∧ S = S') := by
    intro f4
    induction f4 with
    | zero => intro acc i hm4; exact absurd hm4 (Nat.not_lt_zero _)
    | succ f4 ih4 =>
      intro acc i hm4 hi hb ha
      refine R_lo (nx := 5) rfl rfl rfl rfl ?_
      refine R_lo (nx := 6) rfl rfl rfl rfl ?_
      refine R_get (nx := 9) (w := (0, (S a 0))) rfl rfl (isC_ob hC) rfl ?_
      refine R_icmp (nx := 12) (tg := 28) rfl rfl rfl (mm_cnd_ge _ _) (fun c9 => ?_) (fun c9 => ?_)
      ·
        refine R_lo (nx := 29) rfl rfl rfl rfl ?_
        refine R_ret rfl (fun _ _ => rfl) rfl rfl ?_
        have e : i = Xn K := by omega
        subst e
        exact ⟨by rw [ha], rfl⟩
      ·
        refine R_lo (nx := 13) rfl rfl rfl rfl ?_
        refine R_lo (nx := 14) rfl rfl rfl rfl ?_
        refine R_lo (nx := 15) rfl rfl rfl rfl ?_
        refine R_call1 (nx := 18) (as := [(2, a), (0, i)]) (rest := [(0, acc)]) rfl rfl (fun _ _ => rfl) rfl rfl rfl rfl rfl rfl (isC_rc hC _) rfl (Cl.mono (c_C_degree S a hC K (by first | assumption | exact MC.up (by assumption) (by omega) | exact MC.up (MC.up (by assumption) (by omega)) (by omega) | exact MC.up (MC.up (MC.up (by assumption) (by omega)) (by omega)) (by omega)) i) ?_)
        rintro _ _ ⟨rfl, rfl⟩
        refine ⟨_, rfl, ?_⟩
        refine R_call1 (nx := 21) (as := [(0, acc), (0, (Xd K i))]) (rest := []) rfl rfl (fun _ _ => rfl) rfl rfl rfl rfl rfl rfl rfl rfl (Cl.mono (c_Ma_max S acc (Xd K i)) ?_)
        rintro _ _ ⟨rfl, rfl⟩
        refine ⟨_, rfl, ?_⟩
        refine R_lo (nx := 22) (ls' := [(2, a), (0, (max acc (Xd K i))), (0, i)]) rfl rfl rfl rfl ?_
        refine R_iinc (nx := 25) (z := (i + 1)) (ls' := [(2, a), (0, (max acc (Xd K i))), (0, (i + 1))]) rfl rfl rfl rfl ⟨by omega, by omega⟩ rfl ?_
        refine R_op (nx := 28) (pc' := 4) rfl rfl rfl ?_
        refine Rn.weak (ls' := [(2, a), (0, (max acc (Xd K i))), (0, (i + 1))]) ⟨Or.inl rfl, ⟨Or.inl rfl, ⟨Or.inl rfl, trivial⟩⟩⟩ ?_
        refine ih4 ((max acc (Xd K i))) ((i + 1)) ?_ ?_ ?_ ?_
        · omega
        · omega
        · have := hR.d i; omega
        · rw [mx_s _ hi.1, ← ha]
  refine Rn.weak (ls' := [(2, a), (0, 0), (0, 0)]) ⟨Or.inl rfl, ⟨Or.inl rfl, ⟨Or.inl rfl, trivial⟩⟩⟩ ?_
  refine L4 ((Xn K - (0)).toNat + 1) (0) (0) (Nat.lt_succ_self _) ?_ ?_ ?_
  · omega
  · omega
  · rfl

set_option maxRecDepth 20000 in
set_option maxHeartbeats 4000000 in
theorem c_C_topLevel (S : mm_S) (a : Int) (hC : mm_isC a) (K : CX) (h : MC S a K) (hR : Rg K) (w : Int) : Cl 137 [(2, a), (0, w)] S (fun v S' => v = some (0, mx (Xl K w) (Xn K)) ∧ S = S') := by
  refine ⟨Nat.le_of_ble_eq_true rfl, ?_⟩
  show Rn k_C_topLevel 0 [(2, a), (0, w), (9, 0), (9, 0)] [] S _
  have hnr := h.nr
  have hn := h.n
  refine R_op (nx := 1) rfl rfl rfl ?_
  refine R_lo (nx := 2) (ls' := [(2, a), (0, w), (0, 0), (9, 0)]) rfl rfl rfl rfl ?_
  refine R_op (nx := 3) rfl rfl rfl ?_
  refine R_lo (nx := 4) (ls' := [(2, a), (0, w), (0, 0), (0, 0)]) rfl rfl rfl rfl ?_
  have L4 : ∀ (f4 : Nat) (acc : Int) (i : Int), (Xn K - i).toNat < f4 → (0 ≤ i ∧ i ≤ Xn K) → (0 ≤ acc ∧ acc ≤ 9) → (acc = mx (Xl K w) i) → Rn k_C_topLevel 4 [(2, a), (0, w), (0, acc), (0, i)] [] S (fun v S' => v = some (0, mx (Xl K w) (Xn K)) ∧ S = S') := by
    intro f4
    induction f4 with
    | zero => intro acc i hm4; exact absurd hm4 (Nat.not_lt_zero _)
    | succ f4 ih4 =>
      intro acc i hm4 hi hb ha
      refine R_lo (nx := 5) rfl rfl rfl rfl ?_
      refine R_lo (nx := 6) rfl rfl rfl rfl ?_
      refine R_get (nx := 9) (w := (0, (S a 0))) rfl rfl (isC_ob hC) rfl ?_
      refine R_icmp (nx := 12) (tg := 29) rfl rfl rfl (mm_cnd_ge _ _) (fun c9 => ?_) (fun c9 => ?_)
      ·
        refine R_lo (nx := 30) rfl rfl rfl rfl ?_
        refine R_ret rfl (fun _ _ => rfl) rfl rfl ?_
        have e : i = Xn K := by omega
        subst e
        exact ⟨by rw [ha], rfl⟩
      ·
        refine R_lo (nx := 13) rfl rfl rfl rfl ?_
        refine R_lo (nx := 14) rfl rfl rfl rfl ?_
        refine R_lo (nx := 15) rfl rfl rfl rfl ?_
        refine R_lo (nx := 16) rfl rfl rfl rfl ?_
        refine R_call1 (nx := 19) (as := [(2, a), (0, w), (0, i)]) (rest := [(0, acc)]) rfl rfl (fun _ _ => rfl) rfl rfl rfl rfl rfl rfl (isC_rc hC _) rfl (Cl.mono (c_C_level S a hC K (by first | assumption | exact MC.up (by assumption) (by omega) | exact MC.up (MC.up (by assumption) (by omega)) (by omega) | exact MC.up (MC.up (MC.up (by assumption) (by omega)) (by omega)) (by omega)) w i) ?_)
        rintro _ _ ⟨rfl, rfl⟩
        refine ⟨_, rfl, ?_⟩
        refine R_call1 (nx := 22) (as := [(0, acc), (0, (Xl K w i))]) (rest := []) rfl rfl (fun _ _ => rfl) rfl rfl rfl rfl rfl rfl rfl rfl (Cl.mono (c_Ma_max S acc (Xl K w i)) ?_)
        rintro _ _ ⟨rfl, rfl⟩
        refine ⟨_, rfl, ?_⟩
        refine R_lo (nx := 23) (ls' := [(2, a), (0, w), (0, (max acc (Xl K w i))), (0, i)]) rfl rfl rfl rfl ?_
        refine R_iinc (nx := 26) (z := (i + 1)) (ls' := [(2, a), (0, w), (0, (max acc (Xl K w i))), (0, (i + 1))]) rfl rfl rfl rfl ⟨by omega, by omega⟩ rfl ?_
        refine R_op (nx := 29) (pc' := 4) rfl rfl rfl ?_
        refine Rn.weak (ls' := [(2, a), (0, w), (0, (max acc (Xl K w i))), (0, (i + 1))]) ⟨Or.inl rfl, ⟨Or.inl rfl, ⟨Or.inl rfl, ⟨Or.inl rfl, trivial⟩⟩⟩⟩ ?_
        refine ih4 ((max acc (Xl K w i))) ((i + 1)) ?_ ?_ ?_ ?_
        · omega
        · omega
        · have := hR.l w i; omega
        · rw [mx_s _ hi.1, ← ha]
  refine Rn.weak (ls' := [(2, a), (0, w), (0, 0), (0, 0)]) ⟨Or.inl rfl, ⟨Or.inl rfl, ⟨Or.inl rfl, ⟨Or.inl rfl, trivial⟩⟩⟩⟩ ?_
  refine L4 ((Xn K - (0)).toNat + 1) (0) (0) (Nat.lt_succ_self _) ?_ ?_ ?_
  · omega
  · omega
  · rfl

def Xfit (K K2 : CX) : Prop := Xn K * Xn K2 ≤ 12 ∧ mx (Xd K) (Xn K) + mx (Xd K2) (Xn K2) ≤ 4 ∧ mx (Xl K 0) (Xn K) + mx (Xl K2 0) (Xn K2) ≤ 9 ∧ mx (Xl K 1) (Xn K) + mx (Xl K2 1) (Xn K2) ≤ 9
theorem mul_b {a b A B : Int} (ha : 0 ≤ a ∧ a ≤ A) (hb : 0 ≤ b ∧ b ≤ B) : 0 ≤ a * b ∧ a * b ≤ A * B := ⟨Int.mul_nonneg ha.1 hb.1, Int.mul_le_mul ha.2 hb.2 hb.1 (by omega)⟩

set_option maxRecDepth 20000 in
set_option maxHeartbeats 4000000 in
theorem c_C_canBeMultiplied (S : mm_S) (a : Int) (hC : mm_isC a) (K : CX) (h : MC S a K) (b : Int) (hB : mm_isC b) (K2 : CX) (h2 : MC S b K2) (hR : Rg K) (hR2 : Rg K2) : Cl 135 [(2, a), (2, b)] S (fun v S' => (v = some (0, 1) ∧ Xfit K K2 ∧ S = S') ∨ (v = some (0, 0) ∧ ¬ Xfit K K2 ∧ S = S')) := by
  refine ⟨Nat.le_of_ble_eq_true rfl, ?_⟩
  show Rn k_C_canBeMultiplied 0 [(2, a), (2, b)] [] S _
  have hnr := h.nr
  have hn := h.n
  have hnr2 := h2.nr
  have hn2 := h2.n
  have hmb := mul_b hnr hnr2
  have t1 := mx_b (f := Xd K) (hi := 4) (n := Xn K) (by decide) fun i _ _ => (hR.d i).2
  have t2 := mx_b (f := Xd K2) (hi := 4) (n := Xn K2) (by decide) fun i _ _ => (hR2.d i).2
  have t3 := mx_b (f := Xl K 0) (hi := 9) (n := Xn K) (by decide) fun i _ _ => (hR.l 0 i).2
  have t4 := mx_b (f := Xl K2 0) (hi := 9) (n := Xn K2) (by decide) fun i _ _ => (hR2.l 0 i).2
  have t5 := mx_b (f := Xl K 1) (hi := 9) (n := Xn K) (by decide) fun i _ _ => (hR.l 1 i).2
  have t6 := mx_b (f := Xl K2 1) (hi := 9) (n := Xn K2) (by decide) fun i _ _ => (hR2.l 1 i).2
  rw [← hn, ← hn2] at hmb
  refine R_lo (nx := 1) rfl rfl rfl rfl ?_
  refine R_get (nx := 4) (w := (0, (S a 0))) rfl rfl (isC_ob hC) rfl ?_
  refine R_lo (nx := 5) rfl rfl rfl rfl ?_
  refine R_get (nx := 8) (w := (0, (S b 0))) rfl rfl (isC_ob hB) rfl ?_
  refine R_imul (nx := 9) (z := ((S a 0) * (S b 0))) rfl rfl rfl ⟨by omega, by omega⟩ ?_
  refine R_op (nx := 11) rfl rfl rfl ?_
  refine R_icmp (nx := 14) (tg := 27) rfl rfl rfl (mm_cnd_gt _ _) (fun c11 => ?_) (fun c11 => ?_)
  ·
    refine R_op (nx := 28) rfl rfl rfl ?_
    refine R_ret rfl (fun _ _ => rfl) rfl rfl ?_
    unfold Xfit
    rw [← hn, ← hn2] at *
    first | exact Or.inl ⟨rfl, ⟨by omega, by omega, by omega, by omega⟩, rfl⟩ | exact Or.inr ⟨rfl, fun q => by omega, rfl⟩
  ·
    refine R_lo (nx := 15) rfl rfl rfl rfl ?_
    refine R_call1 (nx := 18) (as := [(2, a)]) (rest := []) rfl rfl (fun _ _ => rfl) rfl rfl rfl rfl rfl rfl (isC_rc hC _) rfl (Cl.mono (c_C_topDegree S a hC K (by first | assumption | exact MC.up (by assumption) (by omega) | exact MC.up (MC.up (by assumption) (by omega)) (by omega) | exact MC.up (MC.up (MC.up (by assumption) (by omega)) (by omega)) (by omega)) (by assumption)) ?_)
    rintro _ _ ⟨rfl, rfl⟩
    refine ⟨_, rfl, ?_⟩
    refine R_lo (nx := 19) rfl rfl rfl rfl ?_
    refine R_call1 (nx := 22) (as := [(2, b)]) (rest := [(0, (mx (Xd K) (Xn K)))]) rfl rfl (fun _ _ => rfl) rfl rfl rfl rfl rfl rfl (isC_rc hB _) rfl (Cl.mono (c_C_topDegree S b hB K2 (by first | assumption | exact MC.up (by assumption) (by omega) | exact MC.up (MC.up (by assumption) (by omega)) (by omega) | exact MC.up (MC.up (MC.up (by assumption) (by omega)) (by omega)) (by omega)) (by assumption)) ?_)
    rintro _ _ ⟨rfl, rfl⟩
    refine ⟨_, rfl, ?_⟩
    refine R_iadd (nx := 23) (z := ((mx (Xd K) (Xn K)) + (mx (Xd K2) (Xn K2)))) rfl rfl rfl ⟨by omega, by omega⟩ ?_
    refine R_op (nx := 24) rfl rfl rfl ?_
    refine R_icmp (nx := 27) (tg := 29) rfl rfl rfl (mm_cnd_le _ _) (fun c24 => ?_) (fun c24 => ?_)
    ·
      refine R_lo (nx := 30) rfl rfl rfl rfl ?_
      refine R_op (nx := 31) rfl rfl rfl ?_
      refine R_call1 (nx := 34) (as := [(2, a), (0, 0)]) (rest := []) rfl rfl (fun _ _ => rfl) rfl rfl rfl rfl rfl rfl (isC_rc hC _) rfl (Cl.mono (c_C_topLevel S a hC K (by first | assumption | exact MC.up (by assumption) (by omega) | exact MC.up (MC.up (by assumption) (by omega)) (by omega) | exact MC.up (MC.up (MC.up (by assumption) (by omega)) (by omega)) (by omega)) (by assumption) 0) ?_)
      rintro _ _ ⟨rfl, rfl⟩
      refine ⟨_, rfl, ?_⟩
      refine R_lo (nx := 35) rfl rfl rfl rfl ?_
      refine R_op (nx := 36) rfl rfl rfl ?_
      refine R_call1 (nx := 39) (as := [(2, b), (0, 0)]) (rest := [(0, (mx (Xl K 0) (Xn K)))]) rfl rfl (fun _ _ => rfl) rfl rfl rfl rfl rfl rfl (isC_rc hB _) rfl (Cl.mono (c_C_topLevel S b hB K2 (by first | assumption | exact MC.up (by assumption) (by omega) | exact MC.up (MC.up (by assumption) (by omega)) (by omega) | exact MC.up (MC.up (MC.up (by assumption) (by omega)) (by omega)) (by omega)) (by assumption) 0) ?_)
      rintro _ _ ⟨rfl, rfl⟩
      refine ⟨_, rfl, ?_⟩
      refine R_iadd (nx := 40) (z := ((mx (Xl K 0) (Xn K)) + (mx (Xl K2 0) (Xn K2)))) rfl rfl rfl ⟨by omega, by omega⟩ ?_
      refine R_op (nx := 42) rfl rfl rfl ?_
      refine R_icmp (nx := 45) (tg := 65) rfl rfl rfl (mm_cnd_gt _ _) (fun c42 => ?_) (fun c42 => ?_)
      ·
        refine R_op (nx := 66) rfl rfl rfl ?_
        refine R_ret rfl (fun _ _ => rfl) rfl rfl ?_
        unfold Xfit
        rw [← hn, ← hn2] at *
        first | exact Or.inl ⟨rfl, ⟨by omega, by omega, by omega, by omega⟩, rfl⟩ | exact Or.inr ⟨rfl, fun q => by omega, rfl⟩
      ·
        refine R_lo (nx := 46) rfl rfl rfl rfl ?_
        refine R_op (nx := 47) rfl rfl rfl ?_
        refine R_call1 (nx := 50) (as := [(2, a), (0, 1)]) (rest := []) rfl rfl (fun _ _ => rfl) rfl rfl rfl rfl rfl rfl (isC_rc hC _) rfl (Cl.mono (c_C_topLevel S a hC K (by first | assumption | exact MC.up (by assumption) (by omega) | exact MC.up (MC.up (by assumption) (by omega)) (by omega) | exact MC.up (MC.up (MC.up (by assumption) (by omega)) (by omega)) (by omega)) (by assumption) 1) ?_)
        rintro _ _ ⟨rfl, rfl⟩
        refine ⟨_, rfl, ?_⟩
        refine R_lo (nx := 51) rfl rfl rfl rfl ?_
        refine R_op (nx := 52) rfl rfl rfl ?_
        refine R_call1 (nx := 55) (as := [(2, b), (0, 1)]) (rest := [(0, (mx (Xl K 1) (Xn K)))]) rfl rfl (fun _ _ => rfl) rfl rfl rfl rfl rfl rfl (isC_rc hB _) rfl (Cl.mono (c_C_topLevel S b hB K2 (by first | assumption | exact MC.up (by assumption) (by omega) | exact MC.up (MC.up (by assumption) (by omega)) (by omega) | exact MC.up (MC.up (MC.up (by assumption) (by omega)) (by omega)) (by omega)) (by assumption) 1) ?_)
        rintro _ _ ⟨rfl, rfl⟩
        refine ⟨_, rfl, ?_⟩
        refine R_iadd (nx := 56) (z := ((mx (Xl K 1) (Xn K)) + (mx (Xl K2 1) (Xn K2)))) rfl rfl rfl ⟨by omega, by omega⟩ ?_
        refine R_op (nx := 58) rfl rfl rfl ?_
        refine R_icmp (nx := 61) (tg := 65) rfl rfl rfl (mm_cnd_gt _ _) (fun c58 => ?_) (fun c58 => ?_)
        ·
          refine R_op (nx := 66) rfl rfl rfl ?_
          refine R_ret rfl (fun _ _ => rfl) rfl rfl ?_
          unfold Xfit
          rw [← hn, ← hn2] at *
          first | exact Or.inl ⟨rfl, ⟨by omega, by omega, by omega, by omega⟩, rfl⟩ | exact Or.inr ⟨rfl, fun q => by omega, rfl⟩
        ·
          refine R_op (nx := 62) rfl rfl rfl ?_
          refine R_op (nx := 65) (pc' := 66) rfl rfl rfl ?_
          refine R_ret rfl (fun _ _ => rfl) rfl rfl ?_
          unfold Xfit
          rw [← hn, ← hn2] at *
          first | exact Or.inl ⟨rfl, ⟨by omega, by omega, by omega, by omega⟩, rfl⟩ | exact Or.inr ⟨rfl, fun q => by omega, rfl⟩
    ·
      refine R_op (nx := 28) rfl rfl rfl ?_
      refine R_ret rfl (fun _ _ => rfl) rfl rfl ?_
      unfold Xfit
      rw [← hn, ← hn2] at *
      first | exact Or.inl ⟨rfl, ⟨by omega, by omega, by omega, by omega⟩, rfl⟩ | exact Or.inr ⟨rfl, fun q => by omega, rfl⟩

/-- all that a cell of the class holds, read as it stands -/
def KC (S : mm_S) (a n : Int) : CX := (n, fun x => if 0 ≤ x ∧ x < n then S (a + 1) x else 0, fun x => if 0 ≤ x ∧ x < n then S (a + 2) x else 0, fun x => if 0 ≤ x ∧ x < n then S (a + 3) x else 0, fun x y => if (0 ≤ x ∧ x < n) ∧ (0 ≤ y ∧ y < n) then S (a + 4) (x * 12 + y) else 0)
theorem KC_MC {S : mm_S} {a n : Int} (h0 : S a 0 = n) (hn : 0 ≤ n ∧ n ≤ 12) : MC S a (KC S a n) := by
  refine ⟨⟨hn, fun x hx => ⟨if_neg hx, if_neg hx, if_neg hx⟩, fun x y hx => if_neg hx⟩, h0, fun x p q => ⟨?_, ?_, ?_⟩, fun x y p q r t => ?_⟩
  · exact (if_pos ⟨p, q⟩).symm
  · exact (if_pos ⟨p, q⟩).symm
  · exact (if_pos ⟨p, q⟩).symm
  · exact (if_pos ⟨⟨p, q⟩, r, t⟩).symm
/-- what stands while the entries of a new cell are cleared -/
def AddI (K K1 : CX) (d l o y : Int) : Prop := Xn K1 = Xn K + 1 ∧ (∀ i, Xd K1 i = Xd (Xadd K d l o) i) ∧ (∀ i, X0 K1 i = X0 (Xadd K d l o) i) ∧ (∀ i, X1 K1 i = X1 (Xadd K d l o) i) ∧ (∀ i j, i < Xn K → j < Xn K → Xe K1 i j = Xe K i j) ∧ ∀ j, 0 ≤ j → j < y → Xe K1 (Xn K) j = 0 ∧ Xe K1 j (Xn K) = 0
theorem AddI.nx {K K1 : CX} {d l o y : Int} (h : AddI K K1 d l o y) (hy : 0 ≤ y ∧ y ≤ Xn K) : AddI K (Xset (Xset K1 (Xn K) y 0) y (Xn K) 0) d l o (y + 1) := by
  obtain ⟨h1, h2, h3, h4, h5, h6⟩ := h
  refine ⟨h1, h2, h3, h4, fun i j hi hj => ?_, fun j p q => ?_⟩
  · rw [Xset_e, if_neg (by omega), Xset_e, if_neg (by omega)]
    exact h5 i j hi hj
  · by_cases e : j = y
    · subst e
      refine ⟨?_, ?_⟩
      · rw [Xset_e]
        split
        · rfl
        · rw [Xset_e, if_pos ⟨⟨⟨by omega, by omega⟩, by omega, by omega⟩, rfl, rfl⟩]
      · rw [Xset_e, if_pos ⟨⟨⟨by omega, by rw [Xset_n]; omega⟩, by omega, by rw [Xset_n]; omega⟩, rfl, rfl⟩]
    · have := h6 j p (by omega)
      refine ⟨?_, ?_⟩
      · rw [Xset_e]
        split
        · rfl
        · rw [Xset_e]
          split
          · rfl
          · exact this.1
      · rw [Xset_e]
        split
        · rfl
        · rw [Xset_e]
          split
          · rfl
          · exact this.2
theorem AddI.fin {K K1 : CX} {d l o : Int} (h : AddI K K1 d l o (Xn K + 1)) (hK : Nz K) (hK1 : Nz K1) : K1 = Xadd K d l o := by
  obtain ⟨h1, h2, h3, h4, h5, h6⟩ := h
  refine CXext h1 h2 h3 h4 fun i j => ?_
  rw [Xadd_e]
  have := hK.1
  by_cases hr : (0 ≤ i ∧ i < Xn K1) ∧ (0 ≤ j ∧ j < Xn K1)
  · by_cases hi : i = Xn K
    · rw [hi, (h6 j hr.2.1 (by omega)).1, hK.e (by omega)]
    · by_cases hj : j = Xn K
      · rw [hj, (h6 i hr.1.1 (by omega)).2, hK.e (by omega)]
      · exact h5 i j (by omega) (by omega)
  · rw [hK1.e hr, hK.e (by omega)]
theorem AddI.go {S : mm_S} {a : Int} {K : CX} (h : MC S a K) (hn : Xn K < 12) (d l o : Int) : MC (mm_up (mm_up (mm_up (mm_up S (a + 1) (S a 0) d) (a + 2) (S a 0) l) (a + 3) (S a 0) o) a 0 (S a 0 + 1)) a (KC (mm_up (mm_up (mm_up (mm_up S (a + 1) (S a 0) d) (a + 2) (S a 0) l) (a + 3) (S a 0) o) a 0 (S a 0 + 1)) a (Xn K + 1)) ∧ AddI K (KC (mm_up (mm_up (mm_up (mm_up S (a + 1) (S a 0) d) (a + 2) (S a 0) l) (a + 3) (S a 0) o) a 0 (S a 0 + 1)) a (Xn K + 1)) d l o 0 := by
  have hnr := h.nr
  have hnn := h.n
  refine ⟨KC_MC (by rw [mm_ua, hnn]) (by omega), rfl, fun i => ?_, fun i => ?_, fun i => ?_, fun i j hi hj => ?_, fun j p q => by omega⟩
  · show (if 0 ≤ i ∧ i < Xn K + 1 then _ else _) = _
    rw [Xadd_d, mm_unq (by omega), mm_unq (by omega), mm_unq (by omega), hnn]
    by_cases e : i = Xn K
    · rw [if_pos e, if_pos (by omega), e, mm_ua]
    · rw [if_neg e, mm_uk e]
      by_cases c : 0 ≤ i ∧ i < Xn K
      · rw [if_pos (by omega), h.d c]
      · rw [if_neg (by omega), h.1.d c]
  · show (if 0 ≤ i ∧ i < Xn K + 1 then _ else _) = _
    rw [Xadd_0, mm_unq (by omega), mm_unq (by omega), hnn]
    by_cases e : i = Xn K
    · rw [if_pos e, if_pos (by omega), e, mm_ua]
    · rw [if_neg e, mm_uk e, mm_unq (by omega)]
      by_cases c : 0 ≤ i ∧ i < Xn K
      · rw [if_pos (by omega), h.l0 c]
      · rw [if_neg (by omega), (h.1.2.1 i c).2.1]
  · show (if 0 ≤ i ∧ i < Xn K + 1 then _ else _) = _
    rw [Xadd_1, mm_unq (by omega), hnn]
    by_cases e : i = Xn K
    · rw [if_pos e, if_pos (by omega), e, mm_ua]
    · rw [if_neg e, mm_uk e, mm_unq (by omega), mm_unq (by omega)]
      by_cases c : 0 ≤ i ∧ i < Xn K
      · rw [if_pos (by omega), h.l1 c]
      · rw [if_neg (by omega), (h.1.2.1 i c).2.2]
  · show (if (0 ≤ i ∧ i < Xn K + 1) ∧ (0 ≤ j ∧ j < Xn K + 1) then _ else _) = _
    rw [mm_unq (by omega), mm_unq (by omega), mm_unq (by omega), mm_unq (by omega)]
    by_cases c : (0 ≤ i ∧ i < Xn K) ∧ (0 ≤ j ∧ j < Xn K)
    · rw [if_pos (by omega), h.e c.1 c.2]
    · rw [if_neg (by omega), h.1.e c]

set_option maxRecDepth 20000 in
set_option maxHeartbeats 4000000 in
theorem c_C_add (S : mm_S) (a : Int) (hC : mm_isC a) (K : CX) (h : MC S a K) (d l o : Int) : Cl 127 [(2, a), (0, d), (0, l), (0, o)] S (fun v S' => (v = some (0, Xn K) ∧ Xn K < 12 ∧ MC S' a (Xadd K d l o) ∧ ∀ b, ¬ (a ≤ b ∧ b ≤ a + 4) → S' b = S b) ∨ (v = some (0, -2) ∧ Xn K = 12 ∧ S = S')) := by
  refine ⟨Nat.le_of_ble_eq_true rfl, ?_⟩
  show Rn k_C_add 0 [(2, a), (0, d), (0, l), (0, o), (9, 0), (9, 0)] [] S _
  have hnr := h.nr
  have hn := h.n
  refine R_lo (nx := 1) rfl rfl rfl rfl ?_
  refine R_get (nx := 4) (w := (0, (S a 0))) rfl rfl (isC_ob hC) rfl ?_
  refine R_if (nx := 7) (tg := 16) rfl rfl rfl (mm_cnd_lt _ _) (fun c4 => ?_) (fun c4 => ?_)
  ·
    refine R_op (nx := 18) rfl rfl rfl ?_
    refine R_ret rfl (fun _ _ => rfl) rfl rfl ?_
    first | exact Or.inr ⟨rfl, by omega, rfl⟩ | (have e : y = Xn K + 1 := (by omega); subst e; exact Or.inl ⟨by rw [hn], by omega, by rw [← hI.fin h.1 hM.1]; exact hM, hF⟩)
  ·
    refine R_lo (nx := 8) rfl rfl rfl rfl ?_
    refine R_get (nx := 11) (w := (0, (S a 0))) rfl rfl (isC_ob hC) rfl ?_
    refine R_op (nx := 13) rfl rfl rfl ?_
    refine R_icmp (nx := 16) (tg := 19) rfl rfl rfl (mm_cnd_lt _ _) (fun c13 => ?_) (fun c13 => ?_)
    ·
      refine R_lo (nx := 20) rfl rfl rfl rfl ?_
      refine R_get (nx := 23) (w := (0, (S a 0))) rfl rfl (isC_ob hC) rfl ?_
      refine R_lo (nx := 25) (ls' := [(2, a), (0, d), (0, l), (0, o), (0, (S a 0)), (9, 0)]) rfl rfl rfl rfl ?_
      refine R_lo (nx := 26) rfl rfl rfl rfl ?_
      refine R_get (nx := 29) (w := (2, (a + 1))) rfl rfl (isC_ob hC) rfl ?_
      refine R_lo (nx := 31) rfl rfl rfl rfl ?_
      refine R_lo (nx := 32) rfl rfl rfl rfl ?_
      refine R_iast (nx := 33) rfl rfl (isC_el1 hC (by omega) (by omega)) ?_
      refine R_lo (nx := 34) rfl rfl rfl rfl ?_
      refine R_get (nx := 37) (w := (2, (a + 2))) rfl rfl (isC_ob hC) rfl ?_
      refine R_lo (nx := 39) rfl rfl rfl rfl ?_
      refine R_lo (nx := 40) rfl rfl rfl rfl ?_
      refine R_iast (nx := 41) rfl rfl (isC_el2 hC (by omega) (by omega)) ?_
      refine R_lo (nx := 42) rfl rfl rfl rfl ?_
      refine R_get (nx := 45) (w := (2, (a + 3))) rfl rfl (isC_ob hC) rfl ?_
      refine R_lo (nx := 47) rfl rfl rfl rfl ?_
      refine R_lo (nx := 48) rfl rfl rfl rfl ?_
      refine R_iast (nx := 49) rfl rfl (isC_el3 hC (by omega) (by omega)) ?_
      refine R_lo (nx := 50) rfl rfl rfl rfl ?_
      refine R_op (nx := 51) rfl rfl rfl ?_
      refine R_get (nx := 54) (w := (0, ((mm_up (mm_up (mm_up S (a + 1) (S a 0) d) (a + 2) (S a 0) l) (a + 3) (S a 0) o) a 0))) rfl rfl (isC_ob hC) rfl ?_
      rw [mm_unq (show a ≠ a + 3 by omega), mm_unq (show a ≠ a + 2 by omega), mm_unq (show a ≠ a + 1 by omega)]
      refine R_op (nx := 55) rfl rfl rfl ?_
      refine R_iadd (nx := 56) (z := ((S a 0) + 1)) rfl rfl rfl ⟨by omega, by omega⟩ ?_
      refine R_put (nx := 59) (kk := 0) rfl rfl (isC_ob hC) rfl rfl ?_
      refine R_op (nx := 60) rfl rfl rfl ?_
      refine R_lo (nx := 62) (ls' := [(2, a), (0, d), (0, l), (0, o), (0, (S a 0)), (0, 0)]) rfl rfl rfl rfl ?_
      have L62 : ∀ (f62 : Nat) (S1 : mm_S) (K1 : CX) (y : Int), (Xn K + 1 - y).toNat < f62 → (0 ≤ y ∧ y ≤ Xn K + 1) → (MC S1 a K1) → (AddI K K1 d l o y) → (∀ b, ¬ (a ≤ b ∧ b ≤ a + 4) → S1 b = S b) → Rn k_C_add 62 [(2, a), (0, d), (0, l), (0, o), (0, (S a 0)), (0, y)] [] S1 (fun v S' => (v = some (0, Xn K) ∧ Xn K < 12 ∧ MC S' a (Xadd K d l o) ∧ ∀ b, ¬ (a ≤ b ∧ b ≤ a + 4) → S' b = S b) ∨ (v = some (0, -2) ∧ Xn K = 12 ∧ S = S')) := by
        intro f62
        induction f62 with
        | zero => intro S1 K1 y hm62; exact absurd hm62 (Nat.not_lt_zero _)
        | succ f62 ih62 =>
          intro S1 K1 y hm62 hy hM hI hF
          refine R_lo (nx := 64) rfl rfl rfl rfl ?_
          refine R_lo (nx := 66) rfl rfl rfl rfl ?_
          refine R_icmp (nx := 69) (tg := 93) rfl rfl rfl (mm_cnd_gt _ _) (fun c66 => ?_) (fun c66 => ?_)
          ·
            refine R_lo (nx := 95) rfl rfl rfl rfl ?_
            refine R_ret rfl (fun _ _ => rfl) rfl rfl ?_
            first | exact Or.inr ⟨rfl, by omega, rfl⟩ | (have e : y = Xn K + 1 := (by omega); subst e; exact Or.inl ⟨by rw [hn], by omega, by rw [← hI.fin h.1 hM.1]; exact hM, hF⟩)
          ·
            refine R_lo (nx := 70) rfl rfl rfl rfl ?_
            refine R_lo (nx := 72) rfl rfl rfl rfl ?_
            refine R_lo (nx := 74) rfl rfl rfl rfl ?_
            refine R_op (nx := 75) rfl rfl rfl ?_
            refine R_call0 (nx := 78) (as := [(2, a), (0, (S a 0)), (0, y), (0, 0)]) (rest := []) rfl rfl (fun _ _ => rfl) rfl rfl rfl rfl rfl rfl (isC_rc hC _) rfl (Cl.mono (c_C_setEdge S1 a hC K1 (by first | assumption | exact MC.up (by assumption) (by omega) | exact MC.up (MC.up (by assumption) (by omega)) (by omega) | exact MC.up (MC.up (MC.up (by assumption) (by omega)) (by omega)) (by omega)) (S a 0) y 0) ?_)
            rintro _ S75 ⟨rfl, m75, f75⟩
            refine ⟨rfl, ?_⟩
            refine R_lo (nx := 79) rfl rfl rfl rfl ?_
            refine R_lo (nx := 81) rfl rfl rfl rfl ?_
            refine R_lo (nx := 83) rfl rfl rfl rfl ?_
            refine R_op (nx := 84) rfl rfl rfl ?_
            refine R_call0 (nx := 87) (as := [(2, a), (0, y), (0, (S a 0)), (0, 0)]) (rest := []) rfl rfl (fun _ _ => rfl) rfl rfl rfl rfl rfl rfl (isC_rc hC _) rfl (Cl.mono (c_C_setEdge S75 a hC (Xset K1 (S a 0) y 0) (by first | assumption | exact MC.up (by assumption) (by omega) | exact MC.up (MC.up (by assumption) (by omega)) (by omega) | exact MC.up (MC.up (MC.up (by assumption) (by omega)) (by omega)) (by omega)) y (S a 0) 0) ?_)
            rintro _ S84 ⟨rfl, m84, f84⟩
            refine ⟨rfl, ?_⟩
            refine R_iinc (nx := 90) (z := (y + 1)) (ls' := [(2, a), (0, d), (0, l), (0, o), (0, (S a 0)), (0, (y + 1))]) rfl rfl rfl rfl ⟨by omega, by omega⟩ rfl ?_
            refine R_op (nx := 93) (pc' := 62) rfl rfl rfl ?_
            refine Rn.weak (ls' := [(2, a), (0, d), (0, l), (0, o), (0, (S a 0)), (0, (y + 1))]) ⟨Or.inl rfl, ⟨Or.inl rfl, ⟨Or.inl rfl, ⟨Or.inl rfl, ⟨Or.inl rfl, ⟨Or.inl rfl, trivial⟩⟩⟩⟩⟩⟩ ?_
            refine ih62 (S84) ((Xset (Xset K1 (S a 0) y 0) y (S a 0) 0)) ((y + 1)) ?_ ?_ ?_ ?_ ?_
            · omega
            · omega
            · exact m84
            · rw [hn]; exact hI.nx (by omega)
            · intro b hb; rw [f84 b (by omega), f75 b (by omega), hF b hb]
      refine Rn.weak (ls' := [(2, a), (0, d), (0, l), (0, o), (0, (S a 0)), (0, 0)]) ⟨Or.inl rfl, ⟨Or.inl rfl, ⟨Or.inl rfl, ⟨Or.inl rfl, ⟨Or.inl rfl, ⟨Or.inl rfl, trivial⟩⟩⟩⟩⟩⟩ ?_
      refine L62 ((Xn K + 1 - (0)).toNat + 1) ((mm_up (mm_up (mm_up (mm_up S (a + 1) (S a 0) d) (a + 2) (S a 0) l) (a + 3) (S a 0) o) a 0 ((S a 0) + 1))) (KC (mm_up (mm_up (mm_up (mm_up S (a + 1) (S a 0) d) (a + 2) (S a 0) l) (a + 3) (S a 0) o) a 0 (S a 0 + 1)) a (Xn K + 1)) (0) (Nat.lt_succ_self _) ?_ ?_ ?_ ?_
      · omega
      · exact (AddI.go h (by omega) d l o).1
      · exact (AddI.go h (by omega) d l o).2
      · intro b hb; rw [mm_unq (by omega), mm_unq (by omega), mm_unq (by omega), mm_unq (by omega)]
    ·
      refine R_op (nx := 18) rfl rfl rfl ?_
      refine R_ret rfl (fun _ _ => rfl) rfl rfl ?_
      first | exact Or.inr ⟨rfl, by omega, rfl⟩ | (have e : y = Xn K + 1 := (by omega); subst e; exact Or.inl ⟨by rw [hn], by omega, by rw [← hI.fin h.1 hM.1]; exact hM, hF⟩)
