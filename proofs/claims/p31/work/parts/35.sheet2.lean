/-! Rows in the reference. -/
set_option maxRecDepth 20000 in
set_option maxHeartbeats 4000000 in
theorem c_M_isSheet (S : mm_S) (c : Int) : Cl 105 [(0, c)] S (fun v S' => (v = some (0, 1) ∧ (0 ≤ c ∧ c < 4) ∧ S = S') ∨ (v = some (0, 0) ∧ ¬ (0 ≤ c ∧ c < 4) ∧ S = S')) := by
  refine ⟨Nat.le_of_ble_eq_true rfl, ?_⟩
  show Rn k_M_isSheet 0 [(0, c)] [] S _
  refine R_lo (nx := 1) rfl rfl rfl rfl ?_
  refine R_op (nx := 2) rfl rfl rfl ?_
  refine R_op (nx := 3) rfl rfl rfl ?_
  refine R_call1 (nx := 6) (as := [(0, c), (0, 0), (0, 3)]) (rest := []) rfl rfl (fun _ _ => rfl) rfl rfl rfl rfl rfl rfl rfl rfl (Cl.mono (c_M_in S c 0 3) ?_)
  rintro _ _ (⟨rfl, b3, rfl⟩ | ⟨rfl, b3, rfl⟩)
  ·
    refine ⟨_, rfl, ?_⟩
    refine R_ret rfl (fun _ _ => rfl) rfl rfl ?_
    first | exact Or.inl ⟨rfl, by omega, rfl⟩ | exact Or.inr ⟨rfl, by omega, rfl⟩
  ·
    refine ⟨_, rfl, ?_⟩
    refine R_ret rfl (fun _ _ => rfl) rfl rfl ?_
    first | exact Or.inl ⟨rfl, by omega, rfl⟩ | exact Or.inr ⟨rfl, by omega, rfl⟩

set_option maxRecDepth 20000 in
set_option maxHeartbeats 4000000 in
theorem c_M_isOutside (S : mm_S) (i j n sz : Int) (hi : 0 ≤ i ∧ i < 4) (h : S 88 i = sz) (hz : 0 ≤ sz ∧ sz ≤ 40) (hj : mm_r32 j) (hn : mm_r32 n) : Cl 106 [(2, 71), (0, i), (0, j), (0, n)] S (fun v S' => (v = some (0, 1) ∧ Outs sz j n ∧ S = S') ∨ (v = some (0, 0) ∧ ¬ Outs sz j n ∧ S = S')) := by
  refine ⟨Nat.le_of_ble_eq_true rfl, ?_⟩
  show Rn k_M_isOutside 0 [(2, 71), (0, i), (0, j), (0, n)] [] S _
  have hj1 := hj.1
  have hj2 := hj.2
  have hn1 := hn.1
  have hn2 := hn.2
  have e64 : mm_w64 (j + n) = j + n := mm_w64_id (by omega)
  refine R_lo (nx := 1) rfl rfl rfl rfl ?_
  refine R_if (nx := 4) (tg := 24) rfl rfl rfl (mm_cnd_lt _ _) (fun c1 => ?_) (fun c1 => ?_)
  ·
    refine R_op (nx := 25) rfl rfl rfl ?_
    refine R_op (nx := 28) (pc' := 29) rfl rfl rfl ?_
    refine R_ret rfl (fun _ _ => rfl) rfl rfl ?_
    unfold Outs
    rw [e64, h] at *
    first | exact Or.inl ⟨rfl, by omega, rfl⟩ | exact Or.inr ⟨rfl, by omega, rfl⟩
  ·
    refine R_lo (nx := 5) rfl rfl rfl rfl ?_
    refine R_if (nx := 8) (tg := 24) rfl rfl rfl (mm_cnd_lt _ _) (fun c5 => ?_) (fun c5 => ?_)
    ·
      refine R_op (nx := 25) rfl rfl rfl ?_
      refine R_op (nx := 28) (pc' := 29) rfl rfl rfl ?_
      refine R_ret rfl (fun _ _ => rfl) rfl rfl ?_
      unfold Outs
      rw [e64, h] at *
      first | exact Or.inl ⟨rfl, by omega, rfl⟩ | exact Or.inr ⟨rfl, by omega, rfl⟩
    ·
      refine R_lo (nx := 9) rfl rfl rfl rfl ?_
      refine R_op (nx := 10) (st' := [(1, j)]) rfl rfl rfl ?_
      refine R_lo (nx := 11) rfl rfl rfl rfl ?_
      refine R_op (nx := 12) (st' := [(1, n), (1, j)]) rfl rfl rfl ?_
      refine R_op (nx := 13) (st' := [(1, (mm_w64 (j + n)))]) rfl rfl rfl ?_
      refine R_lo (nx := 14) rfl rfl rfl rfl ?_
      refine R_get (nx := 17) (w := (2, 88)) rfl rfl rfl rfl ?_
      refine R_lo (nx := 18) rfl rfl rfl rfl ?_
      refine R_iald (nx := 19) rfl rfl (mm_el_ok 1 4 (by decide) rfl (by decide) (by omega) (by omega)) ?_
      refine R_op (nx := 20) (st' := [(1, (S 88 i)), (1, (mm_w64 (j + n)))]) rfl rfl rfl ?_
      refine R_op (nx := 21) (st' := [(0, (if (S 88 i) < (mm_w64 (j + n)) then 1 else if (mm_w64 (j + n)) = (S 88 i) then 0 else -1))]) rfl rfl rfl ?_
      refine R_if (nx := 24) (tg := 28) rfl rfl rfl (mm_lc_le _ _) (fun c21 => ?_) (fun c21 => ?_)
      ·
        refine R_op (nx := 29) rfl rfl rfl ?_
        refine R_ret rfl (fun _ _ => rfl) rfl rfl ?_
        unfold Outs
        rw [e64, h] at *
        first | exact Or.inl ⟨rfl, by omega, rfl⟩ | exact Or.inr ⟨rfl, by omega, rfl⟩
      ·
        refine R_op (nx := 25) rfl rfl rfl ?_
        refine R_op (nx := 28) (pc' := 29) rfl rfl rfl ?_
        refine R_ret rfl (fun _ _ => rfl) rfl rfl ?_
        unfold Outs
        rw [e64, h] at *
        first | exact Or.inl ⟨rfl, by omega, rfl⟩ | exact Or.inr ⟨rfl, by omega, rfl⟩

set_option maxRecDepth 20000 in
set_option maxHeartbeats 4000000 in
theorem c_M_cut (S : mm_S) (so z : Int) : Cl 107 [(0, so), (1, z)] S (fun v S' => v = some (1, cutv so z) ∧ S = S') := by
  refine ⟨Nat.le_of_ble_eq_true rfl, ?_⟩
  show Rn k_M_cut 0 [(0, so), (1, z), (9, 0)] [] S _
  refine R_lo (nx := 1) rfl rfl rfl rfl ?_
  refine R_if (nx := 4) (tg := 11) rfl rfl rfl (mm_cnd_ne _ _) (fun c1 => ?_) (fun c1 => ?_)
  ·
    refine R_lo (nx := 12) rfl rfl rfl rfl ?_
    refine R_op (nx := 13) rfl rfl rfl ?_
    refine R_icmp (nx := 16) (tg := 22) rfl rfl rfl (mm_cnd_ne _ _) (fun c13 => ?_) (fun c13 => ?_)
    ·
      refine R_lo (nx := 23) rfl rfl rfl rfl ?_
      refine R_ret rfl (fun _ _ => rfl) rfl rfl ?_
      unfold cutv
      first | exact ⟨by rw [if_pos (by omega)], rfl⟩ | exact ⟨by rw [if_neg (by omega), if_pos (by omega)], rfl⟩ | exact ⟨by rw [if_neg (by omega), if_neg (by omega)], rfl⟩
    ·
      replace c13 := Classical.not_not.mp c13
      refine R_lo (nx := 17) rfl rfl rfl rfl ?_
      refine R_op (nx := 18) (st' := [(0, (mm_w32 z))]) rfl rfl rfl ?_
      refine R_op (nx := 19) (st' := [(1, (mm_w32 z))]) rfl rfl rfl ?_
      refine R_op (nx := 22) (pc' := 23) rfl rfl rfl ?_
      refine R_ret rfl (fun _ _ => rfl) rfl rfl ?_
      unfold cutv
      first | exact ⟨by rw [if_pos (by omega)], rfl⟩ | exact ⟨by rw [if_neg (by omega), if_pos (by omega)], rfl⟩ | exact ⟨by rw [if_neg (by omega), if_neg (by omega)], rfl⟩
  ·
    replace c1 := Classical.not_not.mp c1
    refine R_lo (nx := 5) rfl rfl rfl rfl ?_
    refine R_op (nx := 6) (st' := [(0, (mm_w32 z))]) rfl rfl rfl ?_
    refine R_op (nx := 7) (st' := [(0, (Int.bmod (mm_w32 z) 256))]) rfl rfl rfl ?_
    refine R_op (nx := 8) (st' := [(1, (Int.bmod (mm_w32 z) 256))]) rfl rfl rfl ?_
    refine R_op (nx := 11) (pc' := 23) rfl rfl rfl ?_
    refine R_ret rfl (fun _ _ => rfl) rfl rfl ?_
    unfold cutv
    first | exact ⟨by rw [if_pos (by omega)], rfl⟩ | exact ⟨by rw [if_neg (by omega), if_pos (by omega)], rfl⟩ | exact ⟨by rw [if_neg (by omega), if_neg (by omega)], rfl⟩

theorem RR.sh2 {S S' : mm_S} {A : mm_A} (h : RR S A) {i so sz : Int} {pl : Int → Int} (hi : 0 ≤ i ∧ i < 4) (hf : ∀ b, ¬ (87 ≤ b ∧ b ≤ 89) → S' b = S b) (a1 : ∀ j, S' 87 j = if j = i then so else S 87 j) (a2 : ∀ j, S' 88 j = if j = i then sz else S 88 j) (a3 : ∀ j k, 0 ≤ k → k < 40 → S' 89 (40 * j + k) = if j = i then pl k else S 89 (40 * j + k)) : RR S' (Ash A i (so, sz, pl)) := h.sh (hf 71 (by omega)) (fun b hb => hf b (by omega)) a1 a2 a3
theorem up_row {S : mm_S} {a i v : Int} (j : Int) : mm_up S a i v a j = if j = i then v else S a j := by
  by_cases e : j = i
  · rw [if_pos e, e, mm_ua]
  · rw [if_neg e, mm_uk e]
theorem Ash_same (A : mm_A) (i : Int) (pl : Int → Int) (h : ∀ k, pl k = Apl A i k) : Ash A i (Aso A i, Asz A i, pl) = A := by
  have e : pl = Apl A i := funext h
  subst e
  unfold Ash
  have : (fun j => if j = i then (Aso A i, Asz A i, Apl A i) else A.2.2.2.2.2 j) = A.2.2.2.2.2 := by
    funext j
    split
    · rename_i h; rw [h]; rfl
    · rfl
  rw [this]

set_option maxRecDepth 20000 in
set_option maxHeartbeats 4000000 in
theorem c_M_sheet (S : mm_S) (A : mm_A) (hRR : RR S A) (hV : Vs A) (i so n : Int) : Cl 108 [(2, 71), (0, i), (0, so), (0, n)] S (fun vv S' => vv = some (0, (Q_sheet A i so n).1) ∧ RR S' (Q_sheet A i so n).2 ∧ ∀ b, ¬ (71 ≤ b ∧ b < 91) → S' b = S b) := by
  refine ⟨Nat.le_of_ble_eq_true rfl, ?_⟩
  show Rn k_M_sheet 0 [(2, 71), (0, i), (0, so), (0, n), (9, 0)] [] S _
  refine R_lo (nx := 1) rfl rfl rfl rfl ?_
  refine R_call1 (nx := 4) (as := [(0, i)]) (rest := []) rfl rfl (fun _ _ => rfl) rfl rfl rfl rfl rfl rfl rfl rfl (Cl.mono (c_M_isSheet S i) ?_)
  rintro _ _ (⟨rfl, b1, rfl⟩ | ⟨rfl, b1, rfl⟩)
  ·
    try have k1 := hRR.2.2.2.2.2 i b1.1 b1.2
    try have ka1 := k1.1
    try have kz1 := k1.2.1
    try have q1 := hV.2.2.2.2.2 i b1.1 b1.2
    try have qa1 := q1.1
    try have qz1 := q1.2
    refine ⟨_, rfl, ?_⟩
    refine R_ifF (nx := 7) rfl rfl rfl ?_
    refine R_lo (nx := 8) rfl rfl rfl rfl ?_
    refine R_op (nx := 9) rfl rfl rfl ?_
    refine R_op (nx := 10) rfl rfl rfl ?_
    refine R_call1 (nx := 13) (as := [(0, so), (0, (-1)), (0, 2)]) (rest := []) rfl rfl (fun _ _ => rfl) rfl rfl rfl rfl rfl rfl rfl rfl (Cl.mono (c_M_in S so (-1) 2) ?_)
    rintro _ _ (⟨rfl, b10, rfl⟩ | ⟨rfl, b10, rfl⟩)
    ·
      refine ⟨_, rfl, ?_⟩
      refine R_ifF (nx := 16) rfl rfl rfl ?_
      refine R_lo (nx := 17) rfl rfl rfl rfl ?_
      refine R_if (nx := 20) (tg := 28) rfl rfl rfl (mm_cnd_lt _ _) (fun c17 => ?_) (fun c17 => ?_)
      ·
        refine R_lo (nx := 29) rfl rfl rfl rfl ?_
        refine R_if (nx := 32) (tg := 39) rfl rfl rfl (mm_cnd_lt _ _) (fun c29 => ?_) (fun c29 => ?_)
        ·
          refine R_lo (nx := 40) rfl rfl rfl rfl ?_
          refine R_get (nx := 43) (w := (2, 87)) rfl rfl rfl rfl ?_
          refine R_lo (nx := 44) rfl rfl rfl rfl ?_
          refine R_lo (nx := 45) rfl rfl rfl rfl ?_
          refine R_iast (nx := 46) rfl rfl (mm_el_ok 1 4 (by decide) rfl (by decide) (by omega) (by omega)) ?_
          refine R_lo (nx := 47) rfl rfl rfl rfl ?_
          refine R_get (nx := 50) (w := (2, 88)) rfl rfl rfl rfl ?_
          refine R_lo (nx := 51) rfl rfl rfl rfl ?_
          refine R_lo (nx := 52) rfl rfl rfl rfl ?_
          refine R_if (nx := 55) (tg := 59) rfl rfl rfl (mm_cnd_ge _ _) (fun c52 => ?_) (fun c52 => ?_)
          ·
            have e24 : ¬ so = -1 := by omega
            have e25 : 0 ≤ so ∧ so ≤ 2 := by omega
            have e33 : ¬ n < 0 := by omega
            have e34 : ¬ 40 < n := by omega
            refine R_lo (nx := 60) rfl rfl rfl rfl ?_
            refine R_iast (nx := 61) rfl rfl (mm_el_ok 1 4 (by decide) rfl (by decide) (by omega) (by omega)) ?_
            refine R_op (nx := 62) rfl rfl rfl ?_
            refine R_lo (nx := 64) (ls' := [(2, 71), (0, i), (0, so), (0, n), (0, 0)]) rfl rfl rfl rfl ?_
            have L64 : ∀ (f64 : Nat) (S1 : mm_S) (k : Int), ((40 : Int) - k).toNat < f64 → (0 ≤ k ∧ k ≤ 40) → (∀ j, S1 87 j = if j = i then so else S 87 j) → (∀ j, S1 88 j = if j = i then (if so < 0 then 0 else n) else S 88 j) → (∀ j p, 0 ≤ p → p < 40 → S1 89 (40 * j + p) = if j = i ∧ p < k then 0 else S 89 (40 * j + p)) → (∀ b, ¬ (87 ≤ b ∧ b ≤ 89) → S1 b = S b) → Rn k_M_sheet 64 [(2, 71), (0, i), (0, so), (0, n), (0, k)] [] S1 (fun vv S' => vv = some (0, (Q_sheet A i so n).1) ∧ RR S' (Q_sheet A i so n).2 ∧ ∀ b, ¬ (71 ≤ b ∧ b < 91) → S' b = S b) := by
              intro f64
              induction f64 with
              | zero => intro S1 k hm64; exact absurd hm64 (Nat.not_lt_zero _)
              | succ f64 ih64 =>
                intro S1 k hm64 hk h7 h8 h9 hF
                refine R_lo (nx := 66) rfl rfl rfl rfl ?_
                refine R_op (nx := 68) rfl rfl rfl ?_
                refine R_icmp (nx := 71) (tg := 90) rfl rfl rfl (mm_cnd_ge _ _) (fun c68 => ?_) (fun c68 => ?_)
                ·
                  refine R_op (nx := 91) rfl rfl rfl ?_
                  refine R_ret rfl (fun _ _ => rfl) rfl rfl ?_
                  have eQ : Q_sheet A i so n = (1, Ash A i (so, (if so < 0 then 0 else n), fun _ => 0)) := by
                    unfold Q_sheet
                    rw [if_pos b1]
                    by_cases e : so = -1
                    · rw [if_pos e, if_pos (by omega), e]
                    · rw [if_neg e, if_pos (show 0 ≤ so ∧ so ≤ 2 by omega), if_neg (show ¬ 40 < n by omega), if_neg (show ¬ n < 0 by omega), if_neg (show ¬ so < 0 by omega)]
                  rw [eQ]
                  exact ⟨rfl, hRR.sh2 b1 hF h7 h8 fun j p q r => (by rw [h9 j p q r]; exact ifc (by omega) rfl rfl), fun b hb => hF b (by omega)⟩
                ·
                  refine R_lo (nx := 72) rfl rfl rfl rfl ?_
                  refine R_get (nx := 75) (w := (2, 89)) rfl rfl rfl rfl ?_
                  refine R_op (nx := 77) rfl rfl rfl ?_
                  refine R_lo (nx := 78) rfl rfl rfl rfl ?_
                  refine R_imul (nx := 79) (z := (40 * i)) rfl rfl rfl ⟨by omega, by omega⟩ ?_
                  refine R_lo (nx := 81) rfl rfl rfl rfl ?_
                  refine R_iadd (nx := 82) (z := ((40 * i) + k)) rfl rfl rfl ⟨by omega, by omega⟩ ?_
                  refine R_op (nx := 83) (st' := [(1, 0), (0, ((40 * i) + k)), (2, 89)]) rfl rfl rfl ?_
                  refine R_last (nx := 84) rfl rfl (mm_el_ok 2 160 (by decide) rfl (by decide) (by omega) (by omega)) ?_
                  refine R_iinc (nx := 87) (z := (k + 1)) (ls' := [(2, 71), (0, i), (0, so), (0, n), (0, (k + 1))]) rfl rfl rfl rfl ⟨by omega, by omega⟩ rfl ?_
                  refine R_op (nx := 90) (pc' := 64) rfl rfl rfl ?_
                  refine Rn.weak (ls' := [(2, 71), (0, i), (0, so), (0, n), (0, (k + 1))]) ⟨Or.inl rfl, ⟨Or.inl rfl, ⟨Or.inl rfl, ⟨Or.inl rfl, ⟨Or.inl rfl, trivial⟩⟩⟩⟩⟩ ?_
                  refine ih64 ((mm_up S1 89 ((40 * i) + k) 0)) ((k + 1)) ?_ ?_ ?_ ?_ ?_ ?_
                  · omega
                  · omega
                  · intro j; rw [mm_unq (by decide)]; exact h7 j
                  · intro j; rw [mm_unq (by decide)]; exact h8 j
                  · intro j p q r
                    by_cases e : j = i ∧ p = k
                    · rw [e.1, e.2, mm_ua, if_pos (by omega)]
                    · rw [mm_uk (by omega), h9 j p q r]
                      exact ifc (by omega) rfl rfl
                  · intro b hb; rw [mm_unq (by omega)]; exact hF b hb
            refine Rn.weak (ls' := [(2, 71), (0, i), (0, so), (0, n), (0, 0)]) ⟨Or.inl rfl, ⟨Or.inl rfl, ⟨Or.inl rfl, ⟨Or.inl rfl, ⟨Or.inl rfl, trivial⟩⟩⟩⟩⟩ ?_
            refine L64 (((40 : Int) - (0)).toNat + 1) ((mm_up (mm_up S 87 i so) 88 i n)) (0) (Nat.lt_succ_self _) ?_ ?_ ?_ ?_ ?_
            · omega
            · intro j; rw [mm_unq (by decide)]; exact up_row j
            · intro j; rw [up_row, mm_unq (by decide)]; exact ifc Iff.rfl (by split <;> omega) rfl
            · intro j p q r; rw [mm_unq (by decide), mm_unq (by decide), if_neg (by omega)]
            · intro b hb; rw [mm_unq (by omega), mm_unq (by omega)]
          ·
            have e24 : so = -1 := by omega
            refine R_op (nx := 56) rfl rfl rfl ?_
            refine R_op (nx := 59) (pc' := 60) rfl rfl rfl ?_
            refine R_iast (nx := 61) rfl rfl (mm_el_ok 1 4 (by decide) rfl (by decide) (by omega) (by omega)) ?_
            refine R_op (nx := 62) rfl rfl rfl ?_
            refine R_lo (nx := 64) (ls' := [(2, 71), (0, i), (0, so), (0, n), (0, 0)]) rfl rfl rfl rfl ?_
            have L64 : ∀ (f64 : Nat) (S1 : mm_S) (k : Int), ((40 : Int) - k).toNat < f64 → (0 ≤ k ∧ k ≤ 40) → (∀ j, S1 87 j = if j = i then so else S 87 j) → (∀ j, S1 88 j = if j = i then (if so < 0 then 0 else n) else S 88 j) → (∀ j p, 0 ≤ p → p < 40 → S1 89 (40 * j + p) = if j = i ∧ p < k then 0 else S 89 (40 * j + p)) → (∀ b, ¬ (87 ≤ b ∧ b ≤ 89) → S1 b = S b) → Rn k_M_sheet 64 [(2, 71), (0, i), (0, so), (0, n), (0, k)] [] S1 (fun vv S' => vv = some (0, (Q_sheet A i so n).1) ∧ RR S' (Q_sheet A i so n).2 ∧ ∀ b, ¬ (71 ≤ b ∧ b < 91) → S' b = S b) := by
              intro f64
              induction f64 with
              | zero => intro S1 k hm64; exact absurd hm64 (Nat.not_lt_zero _)
              | succ f64 ih64 =>
                intro S1 k hm64 hk h7 h8 h9 hF
                refine R_lo (nx := 66) rfl rfl rfl rfl ?_
                refine R_op (nx := 68) rfl rfl rfl ?_
                refine R_icmp (nx := 71) (tg := 90) rfl rfl rfl (mm_cnd_ge _ _) (fun c68_1 => ?_) (fun c68_1 => ?_)
                ·
                  refine R_op (nx := 91) rfl rfl rfl ?_
                  refine R_ret rfl (fun _ _ => rfl) rfl rfl ?_
                  have eQ : Q_sheet A i so n = (1, Ash A i (so, (if so < 0 then 0 else n), fun _ => 0)) := by
                    unfold Q_sheet
                    rw [if_pos b1]
                    by_cases e : so = -1
                    · rw [if_pos e, if_pos (by omega), e]
                    · rw [if_neg e, if_pos (show 0 ≤ so ∧ so ≤ 2 by omega), if_neg (show ¬ 40 < n by omega), if_neg (show ¬ n < 0 by omega), if_neg (show ¬ so < 0 by omega)]
                  rw [eQ]
                  exact ⟨rfl, hRR.sh2 b1 hF h7 h8 fun j p q r => (by rw [h9 j p q r]; exact ifc (by omega) rfl rfl), fun b hb => hF b (by omega)⟩
                ·
                  refine R_lo (nx := 72) rfl rfl rfl rfl ?_
                  refine R_get (nx := 75) (w := (2, 89)) rfl rfl rfl rfl ?_
                  refine R_op (nx := 77) rfl rfl rfl ?_
                  refine R_lo (nx := 78) rfl rfl rfl rfl ?_
                  refine R_imul (nx := 79) (z := (40 * i)) rfl rfl rfl ⟨by omega, by omega⟩ ?_
                  refine R_lo (nx := 81) rfl rfl rfl rfl ?_
                  refine R_iadd (nx := 82) (z := ((40 * i) + k)) rfl rfl rfl ⟨by omega, by omega⟩ ?_
                  refine R_op (nx := 83) (st' := [(1, 0), (0, ((40 * i) + k)), (2, 89)]) rfl rfl rfl ?_
                  refine R_last (nx := 84) rfl rfl (mm_el_ok 2 160 (by decide) rfl (by decide) (by omega) (by omega)) ?_
                  refine R_iinc (nx := 87) (z := (k + 1)) (ls' := [(2, 71), (0, i), (0, so), (0, n), (0, (k + 1))]) rfl rfl rfl rfl ⟨by omega, by omega⟩ rfl ?_
                  refine R_op (nx := 90) (pc' := 64) rfl rfl rfl ?_
                  refine Rn.weak (ls' := [(2, 71), (0, i), (0, so), (0, n), (0, (k + 1))]) ⟨Or.inl rfl, ⟨Or.inl rfl, ⟨Or.inl rfl, ⟨Or.inl rfl, ⟨Or.inl rfl, trivial⟩⟩⟩⟩⟩ ?_
                  refine ih64 ((mm_up S1 89 ((40 * i) + k) 0)) ((k + 1)) ?_ ?_ ?_ ?_ ?_ ?_
                  · omega
                  · omega
                  · intro j; rw [mm_unq (by decide)]; exact h7 j
                  · intro j; rw [mm_unq (by decide)]; exact h8 j
                  · intro j p q r
                    by_cases e : j = i ∧ p = k
                    · rw [e.1, e.2, mm_ua, if_pos (by omega)]
                    · rw [mm_uk (by omega), h9 j p q r]
                      exact ifc (by omega) rfl rfl
                  · intro b hb; rw [mm_unq (by omega)]; exact hF b hb
            refine Rn.weak (ls' := [(2, 71), (0, i), (0, so), (0, n), (0, 0)]) ⟨Or.inl rfl, ⟨Or.inl rfl, ⟨Or.inl rfl, ⟨Or.inl rfl, ⟨Or.inl rfl, trivial⟩⟩⟩⟩⟩ ?_
            refine L64 (((40 : Int) - (0)).toNat + 1) ((mm_up (mm_up S 87 i so) 88 i 0)) (0) (Nat.lt_succ_self _) ?_ ?_ ?_ ?_ ?_
            · omega
            · intro j; rw [mm_unq (by decide)]; exact up_row j
            · intro j; rw [up_row, mm_unq (by decide)]; exact ifc Iff.rfl (by split <;> omega) rfl
            · intro j p q r; rw [mm_unq (by decide), mm_unq (by decide), if_neg (by omega)]
            · intro b hb; rw [mm_unq (by omega), mm_unq (by omega)]
        ·
          refine R_lo (nx := 33) rfl rfl rfl rfl ?_
          refine R_if (nx := 36) (tg := 39) rfl rfl rfl (mm_cnd_ge _ _) (fun c33 => ?_) (fun c33 => ?_)
          ·
            refine R_lo (nx := 40) rfl rfl rfl rfl ?_
            refine R_get (nx := 43) (w := (2, 87)) rfl rfl rfl rfl ?_
            refine R_lo (nx := 44) rfl rfl rfl rfl ?_
            refine R_lo (nx := 45) rfl rfl rfl rfl ?_
            refine R_iast (nx := 46) rfl rfl (mm_el_ok 1 4 (by decide) rfl (by decide) (by omega) (by omega)) ?_
            refine R_lo (nx := 47) rfl rfl rfl rfl ?_
            refine R_get (nx := 50) (w := (2, 88)) rfl rfl rfl rfl ?_
            refine R_lo (nx := 51) rfl rfl rfl rfl ?_
            refine R_lo (nx := 52) rfl rfl rfl rfl ?_
            refine R_if (nx := 55) (tg := 59) rfl rfl rfl (mm_cnd_ge _ _) (fun c52_1 => ?_) (fun c52_1 => ?_)
            ·
              have e24 : ¬ so = -1 := by omega
              have e25 : 0 ≤ so ∧ so ≤ 2 := by omega
              have e33 : ¬ n < 0 := by omega
              have e34 : ¬ 40 < n := by omega
              refine R_lo (nx := 60) rfl rfl rfl rfl ?_
              refine R_iast (nx := 61) rfl rfl (mm_el_ok 1 4 (by decide) rfl (by decide) (by omega) (by omega)) ?_
              refine R_op (nx := 62) rfl rfl rfl ?_
              refine R_lo (nx := 64) (ls' := [(2, 71), (0, i), (0, so), (0, n), (0, 0)]) rfl rfl rfl rfl ?_
              have L64 : ∀ (f64 : Nat) (S1 : mm_S) (k : Int), ((40 : Int) - k).toNat < f64 → (0 ≤ k ∧ k ≤ 40) → (∀ j, S1 87 j = if j = i then so else S 87 j) → (∀ j, S1 88 j = if j = i then (if so < 0 then 0 else n) else S 88 j) → (∀ j p, 0 ≤ p → p < 40 → S1 89 (40 * j + p) = if j = i ∧ p < k then 0 else S 89 (40 * j + p)) → (∀ b, ¬ (87 ≤ b ∧ b ≤ 89) → S1 b = S b) → Rn k_M_sheet 64 [(2, 71), (0, i), (0, so), (0, n), (0, k)] [] S1 (fun vv S' => vv = some (0, (Q_sheet A i so n).1) ∧ RR S' (Q_sheet A i so n).2 ∧ ∀ b, ¬ (71 ≤ b ∧ b < 91) → S' b = S b) := by
                intro f64
                induction f64 with
                | zero => intro S1 k hm64; exact absurd hm64 (Nat.not_lt_zero _)
                | succ f64 ih64 =>
                  intro S1 k hm64 hk h7 h8 h9 hF
                  refine R_lo (nx := 66) rfl rfl rfl rfl ?_
                  refine R_op (nx := 68) rfl rfl rfl ?_
                  refine R_icmp (nx := 71) (tg := 90) rfl rfl rfl (mm_cnd_ge _ _) (fun c68_2 => ?_) (fun c68_2 => ?_)
                  ·
                    refine R_op (nx := 91) rfl rfl rfl ?_
                    refine R_ret rfl (fun _ _ => rfl) rfl rfl ?_
                    have eQ : Q_sheet A i so n = (1, Ash A i (so, (if so < 0 then 0 else n), fun _ => 0)) := by
                      unfold Q_sheet
                      rw [if_pos b1]
                      by_cases e : so = -1
                      · rw [if_pos e, if_pos (by omega), e]
                      · rw [if_neg e, if_pos (show 0 ≤ so ∧ so ≤ 2 by omega), if_neg (show ¬ 40 < n by omega), if_neg (show ¬ n < 0 by omega), if_neg (show ¬ so < 0 by omega)]
                    rw [eQ]
                    exact ⟨rfl, hRR.sh2 b1 hF h7 h8 fun j p q r => (by rw [h9 j p q r]; exact ifc (by omega) rfl rfl), fun b hb => hF b (by omega)⟩
                  ·
                    refine R_lo (nx := 72) rfl rfl rfl rfl ?_
                    refine R_get (nx := 75) (w := (2, 89)) rfl rfl rfl rfl ?_
                    refine R_op (nx := 77) rfl rfl rfl ?_
                    refine R_lo (nx := 78) rfl rfl rfl rfl ?_
                    refine R_imul (nx := 79) (z := (40 * i)) rfl rfl rfl ⟨by omega, by omega⟩ ?_
                    refine R_lo (nx := 81) rfl rfl rfl rfl ?_
                    refine R_iadd (nx := 82) (z := ((40 * i) + k)) rfl rfl rfl ⟨by omega, by omega⟩ ?_
                    refine R_op (nx := 83) (st' := [(1, 0), (0, ((40 * i) + k)), (2, 89)]) rfl rfl rfl ?_
                    refine R_last (nx := 84) rfl rfl (mm_el_ok 2 160 (by decide) rfl (by decide) (by omega) (by omega)) ?_
                    refine R_iinc (nx := 87) (z := (k + 1)) (ls' := [(2, 71), (0, i), (0, so), (0, n), (0, (k + 1))]) rfl rfl rfl rfl ⟨by omega, by omega⟩ rfl ?_
                    refine R_op (nx := 90) (pc' := 64) rfl rfl rfl ?_
                    refine Rn.weak (ls' := [(2, 71), (0, i), (0, so), (0, n), (0, (k + 1))]) ⟨Or.inl rfl, ⟨Or.inl rfl, ⟨Or.inl rfl, ⟨Or.inl rfl, ⟨Or.inl rfl, trivial⟩⟩⟩⟩⟩ ?_
                    refine ih64 ((mm_up S1 89 ((40 * i) + k) 0)) ((k + 1)) ?_ ?_ ?_ ?_ ?_ ?_
                    · omega
                    · omega
                    · intro j; rw [mm_unq (by decide)]; exact h7 j
                    · intro j; rw [mm_unq (by decide)]; exact h8 j
                    · intro j p q r
                      by_cases e : j = i ∧ p = k
                      · rw [e.1, e.2, mm_ua, if_pos (by omega)]
                      · rw [mm_uk (by omega), h9 j p q r]
                        exact ifc (by omega) rfl rfl
                    · intro b hb; rw [mm_unq (by omega)]; exact hF b hb
              refine Rn.weak (ls' := [(2, 71), (0, i), (0, so), (0, n), (0, 0)]) ⟨Or.inl rfl, ⟨Or.inl rfl, ⟨Or.inl rfl, ⟨Or.inl rfl, ⟨Or.inl rfl, trivial⟩⟩⟩⟩⟩ ?_
              refine L64 (((40 : Int) - (0)).toNat + 1) ((mm_up (mm_up S 87 i so) 88 i n)) (0) (Nat.lt_succ_self _) ?_ ?_ ?_ ?_ ?_
              · omega
              · intro j; rw [mm_unq (by decide)]; exact up_row j
              · intro j; rw [up_row, mm_unq (by decide)]; exact ifc Iff.rfl (by split <;> omega) rfl
              · intro j p q r; rw [mm_unq (by decide), mm_unq (by decide), if_neg (by omega)]
              · intro b hb; rw [mm_unq (by omega), mm_unq (by omega)]
            ·
              have e24 : so = -1 := by omega
              refine R_op (nx := 56) rfl rfl rfl ?_
              refine R_op (nx := 59) (pc' := 60) rfl rfl rfl ?_
              refine R_iast (nx := 61) rfl rfl (mm_el_ok 1 4 (by decide) rfl (by decide) (by omega) (by omega)) ?_
              refine R_op (nx := 62) rfl rfl rfl ?_
              refine R_lo (nx := 64) (ls' := [(2, 71), (0, i), (0, so), (0, n), (0, 0)]) rfl rfl rfl rfl ?_
              have L64 : ∀ (f64 : Nat) (S1 : mm_S) (k : Int), ((40 : Int) - k).toNat < f64 → (0 ≤ k ∧ k ≤ 40) → (∀ j, S1 87 j = if j = i then so else S 87 j) → (∀ j, S1 88 j = if j = i then (if so < 0 then 0 else n) else S 88 j) → (∀ j p, 0 ≤ p → p < 40 → S1 89 (40 * j + p) = if j = i ∧ p < k then 0 else S 89 (40 * j + p)) → (∀ b, ¬ (87 ≤ b ∧ b ≤ 89) → S1 b = S b) → Rn k_M_sheet 64 [(2, 71), (0, i), (0, so), (0, n), (0, k)] [] S1 (fun vv S' => vv = some (0, (Q_sheet A i so n).1) ∧ RR S' (Q_sheet A i so n).2 ∧ ∀ b, ¬ (71 ≤ b ∧ b < 91) → S' b = S b) := by
                intro f64
                induction f64 with
                | zero => intro S1 k hm64; exact absurd hm64 (Nat.not_lt_zero _)
                | succ f64 ih64 =>
                  intro S1 k hm64 hk h7 h8 h9 hF
                  refine R_lo (nx := 66) rfl rfl rfl rfl ?_
                  refine R_op (nx := 68) rfl rfl rfl ?_
                  refine R_icmp (nx := 71) (tg := 90) rfl rfl rfl (mm_cnd_ge _ _) (fun c68_3 => ?_) (fun c68_3 => ?_)
                  ·
                    refine R_op (nx := 91) rfl rfl rfl ?_
                    refine R_ret rfl (fun _ _ => rfl) rfl rfl ?_
                    have eQ : Q_sheet A i so n = (1, Ash A i (so, (if so < 0 then 0 else n), fun _ => 0)) := by
                      unfold Q_sheet
                      rw [if_pos b1]
                      by_cases e : so = -1
                      · rw [if_pos e, if_pos (by omega), e]
                      · rw [if_neg e, if_pos (show 0 ≤ so ∧ so ≤ 2 by omega), if_neg (show ¬ 40 < n by omega), if_neg (show ¬ n < 0 by omega), if_neg (show ¬ so < 0 by omega)]
                    rw [eQ]
                    exact ⟨rfl, hRR.sh2 b1 hF h7 h8 fun j p q r => (by rw [h9 j p q r]; exact ifc (by omega) rfl rfl), fun b hb => hF b (by omega)⟩
                  ·
                    refine R_lo (nx := 72) rfl rfl rfl rfl ?_
                    refine R_get (nx := 75) (w := (2, 89)) rfl rfl rfl rfl ?_
                    refine R_op (nx := 77) rfl rfl rfl ?_
                    refine R_lo (nx := 78) rfl rfl rfl rfl ?_
                    refine R_imul (nx := 79) (z := (40 * i)) rfl rfl rfl ⟨by omega, by omega⟩ ?_
                    refine R_lo (nx := 81) rfl rfl rfl rfl ?_
                    refine R_iadd (nx := 82) (z := ((40 * i) + k)) rfl rfl rfl ⟨by omega, by omega⟩ ?_
                    refine R_op (nx := 83) (st' := [(1, 0), (0, ((40 * i) + k)), (2, 89)]) rfl rfl rfl ?_
                    refine R_last (nx := 84) rfl rfl (mm_el_ok 2 160 (by decide) rfl (by decide) (by omega) (by omega)) ?_
                    refine R_iinc (nx := 87) (z := (k + 1)) (ls' := [(2, 71), (0, i), (0, so), (0, n), (0, (k + 1))]) rfl rfl rfl rfl ⟨by omega, by omega⟩ rfl ?_
                    refine R_op (nx := 90) (pc' := 64) rfl rfl rfl ?_
                    refine Rn.weak (ls' := [(2, 71), (0, i), (0, so), (0, n), (0, (k + 1))]) ⟨Or.inl rfl, ⟨Or.inl rfl, ⟨Or.inl rfl, ⟨Or.inl rfl, ⟨Or.inl rfl, trivial⟩⟩⟩⟩⟩ ?_
                    refine ih64 ((mm_up S1 89 ((40 * i) + k) 0)) ((k + 1)) ?_ ?_ ?_ ?_ ?_ ?_
                    · omega
                    · omega
                    · intro j; rw [mm_unq (by decide)]; exact h7 j
                    · intro j; rw [mm_unq (by decide)]; exact h8 j
                    · intro j p q r
                      by_cases e : j = i ∧ p = k
                      · rw [e.1, e.2, mm_ua, if_pos (by omega)]
                      · rw [mm_uk (by omega), h9 j p q r]
                        exact ifc (by omega) rfl rfl
                    · intro b hb; rw [mm_unq (by omega)]; exact hF b hb
              refine Rn.weak (ls' := [(2, 71), (0, i), (0, so), (0, n), (0, 0)]) ⟨Or.inl rfl, ⟨Or.inl rfl, ⟨Or.inl rfl, ⟨Or.inl rfl, ⟨Or.inl rfl, trivial⟩⟩⟩⟩⟩ ?_
              refine L64 (((40 : Int) - (0)).toNat + 1) ((mm_up (mm_up S 87 i so) 88 i 0)) (0) (Nat.lt_succ_self _) ?_ ?_ ?_ ?_ ?_
              · omega
              · intro j; rw [mm_unq (by decide)]; exact up_row j
              · intro j; rw [up_row, mm_unq (by decide)]; exact ifc Iff.rfl (by split <;> omega) rfl
              · intro j p q r; rw [mm_unq (by decide), mm_unq (by decide), if_neg (by omega)]
              · intro b hb; rw [mm_unq (by omega), mm_unq (by omega)]
          ·
            have e33 : n < 0 := by omega
            have e24 : ¬ so = -1 := by omega
            have e25 : 0 ≤ so ∧ so ≤ 2 := by omega
            have e34 : ¬ 40 < n := by omega
            refine R_op (nx := 38) rfl rfl rfl ?_
            refine R_ret rfl (fun _ _ => rfl) rfl rfl ?_
            first | (exfalso; omega) | (rw [show Q_sheet A i so n = ((-14), A) from by simp only [Q_sheet, b1, b10, c17, c29, c33, e33, e24, e25, e34, ifo, ifm, ifp, iffq, ↓reduceIte, ite_self, and_self, and_true, true_and, and_false, false_and, or_true, true_or, or_false, false_or, or_self, not_true_eq_false, not_false_eq_true, ne_eq]]; exact ⟨rfl, hRR, fun b _ => rfl⟩)
      ·
        refine R_lo (nx := 21) rfl rfl rfl rfl ?_
        refine R_op (nx := 23) rfl rfl rfl ?_
        refine R_icmp (nx := 26) (tg := 28) rfl rfl rfl (mm_cnd_le _ _) (fun c23 => ?_) (fun c23 => ?_)
        ·
          refine R_lo (nx := 29) rfl rfl rfl rfl ?_
          refine R_if (nx := 32) (tg := 39) rfl rfl rfl (mm_cnd_lt _ _) (fun c29_1 => ?_) (fun c29_1 => ?_)
          ·
            refine R_lo (nx := 40) rfl rfl rfl rfl ?_
            refine R_get (nx := 43) (w := (2, 87)) rfl rfl rfl rfl ?_
            refine R_lo (nx := 44) rfl rfl rfl rfl ?_
            refine R_lo (nx := 45) rfl rfl rfl rfl ?_
            refine R_iast (nx := 46) rfl rfl (mm_el_ok 1 4 (by decide) rfl (by decide) (by omega) (by omega)) ?_
            refine R_lo (nx := 47) rfl rfl rfl rfl ?_
            refine R_get (nx := 50) (w := (2, 88)) rfl rfl rfl rfl ?_
            refine R_lo (nx := 51) rfl rfl rfl rfl ?_
            refine R_lo (nx := 52) rfl rfl rfl rfl ?_
            refine R_if (nx := 55) (tg := 59) rfl rfl rfl (mm_cnd_ge _ _) (fun c52_2 => ?_) (fun c52_2 => ?_)
            ·
              have e24 : ¬ so = -1 := by omega
              have e25 : 0 ≤ so ∧ so ≤ 2 := by omega
              have e33 : ¬ n < 0 := by omega
              have e34 : ¬ 40 < n := by omega
              refine R_lo (nx := 60) rfl rfl rfl rfl ?_
              refine R_iast (nx := 61) rfl rfl (mm_el_ok 1 4 (by decide) rfl (by decide) (by omega) (by omega)) ?_
              refine R_op (nx := 62) rfl rfl rfl ?_
              refine R_lo (nx := 64) (ls' := [(2, 71), (0, i), (0, so), (0, n), (0, 0)]) rfl rfl rfl rfl ?_
              have L64 : ∀ (f64 : Nat) (S1 : mm_S) (k : Int), ((40 : Int) - k).toNat < f64 → (0 ≤ k ∧ k ≤ 40) → (∀ j, S1 87 j = if j = i then so else S 87 j) → (∀ j, S1 88 j = if j = i then (if so < 0 then 0 else n) else S 88 j) → (∀ j p, 0 ≤ p → p < 40 → S1 89 (40 * j + p) = if j = i ∧ p < k then 0 else S 89 (40 * j + p)) → (∀ b, ¬ (87 ≤ b ∧ b ≤ 89) → S1 b = S b) → Rn k_M_sheet 64 [(2, 71), (0, i), (0, so), (0, n), (0, k)] [] S1 (fun vv S' => vv = some (0, (Q_sheet A i so n).1) ∧ RR S' (Q_sheet A i so n).2 ∧ ∀ b, ¬ (71 ≤ b ∧ b < 91) → S' b = S b) := by
                intro f64
                induction f64 with
                | zero => intro S1 k hm64; exact absurd hm64 (Nat.not_lt_zero _)
                | succ f64 ih64 =>
                  intro S1 k hm64 hk h7 h8 h9 hF
                  refine R_lo (nx := 66) rfl rfl rfl rfl ?_
                  refine R_op (nx := 68) rfl rfl rfl ?_
                  refine R_icmp (nx := 71) (tg := 90) rfl rfl rfl (mm_cnd_ge _ _) (fun c68_4 => ?_) (fun c68_4 => ?_)
                  ·
                    refine R_op (nx := 91) rfl rfl rfl ?_
                    refine R_ret rfl (fun _ _ => rfl) rfl rfl ?_
                    have eQ : Q_sheet A i so n = (1, Ash A i (so, (if so < 0 then 0 else n), fun _ => 0)) := by
                      unfold Q_sheet
                      rw [if_pos b1]
                      by_cases e : so = -1
                      · rw [if_pos e, if_pos (by omega), e]
                      · rw [if_neg e, if_pos (show 0 ≤ so ∧ so ≤ 2 by omega), if_neg (show ¬ 40 < n by omega), if_neg (show ¬ n < 0 by omega), if_neg (show ¬ so < 0 by omega)]
                    rw [eQ]
                    exact ⟨rfl, hRR.sh2 b1 hF h7 h8 fun j p q r => (by rw [h9 j p q r]; exact ifc (by omega) rfl rfl), fun b hb => hF b (by omega)⟩
                  ·
                    refine R_lo (nx := 72) rfl rfl rfl rfl ?_
                    refine R_get (nx := 75) (w := (2, 89)) rfl rfl rfl rfl ?_
                    refine R_op (nx := 77) rfl rfl rfl ?_
                    refine R_lo (nx := 78) rfl rfl rfl rfl ?_
                    refine R_imul (nx := 79) (z := (40 * i)) rfl rfl rfl ⟨by omega, by omega⟩ ?_
                    refine R_lo (nx := 81) rfl rfl rfl rfl ?_
                    refine R_iadd (nx := 82) (z := ((40 * i) + k)) rfl rfl rfl ⟨by omega, by omega⟩ ?_
                    refine R_op (nx := 83) (st' := [(1, 0), (0, ((40 * i) + k)), (2, 89)]) rfl rfl rfl ?_
                    refine R_last (nx := 84) rfl rfl (mm_el_ok 2 160 (by decide) rfl (by decide) (by omega) (by omega)) ?_
                    refine R_iinc (nx := 87) (z := (k + 1)) (ls' := [(2, 71), (0, i), (0, so), (0, n), (0, (k + 1))]) rfl rfl rfl rfl ⟨by omega, by omega⟩ rfl ?_
                    refine R_op (nx := 90) (pc' := 64) rfl rfl rfl ?_
                    refine Rn.weak (ls' := [(2, 71), (0, i), (0, so), (0, n), (0, (k + 1))]) ⟨Or.inl rfl, ⟨Or.inl rfl, ⟨Or.inl rfl, ⟨Or.inl rfl, ⟨Or.inl rfl, trivial⟩⟩⟩⟩⟩ ?_
                    refine ih64 ((mm_up S1 89 ((40 * i) + k) 0)) ((k + 1)) ?_ ?_ ?_ ?_ ?_ ?_
                    · omega
                    · omega
                    · intro j; rw [mm_unq (by decide)]; exact h7 j
                    · intro j; rw [mm_unq (by decide)]; exact h8 j
                    · intro j p q r
                      by_cases e : j = i ∧ p = k
                      · rw [e.1, e.2, mm_ua, if_pos (by omega)]
                      · rw [mm_uk (by omega), h9 j p q r]
                        exact ifc (by omega) rfl rfl
                    · intro b hb; rw [mm_unq (by omega)]; exact hF b hb
              refine Rn.weak (ls' := [(2, 71), (0, i), (0, so), (0, n), (0, 0)]) ⟨Or.inl rfl, ⟨Or.inl rfl, ⟨Or.inl rfl, ⟨Or.inl rfl, ⟨Or.inl rfl, trivial⟩⟩⟩⟩⟩ ?_
              refine L64 (((40 : Int) - (0)).toNat + 1) ((mm_up (mm_up S 87 i so) 88 i n)) (0) (Nat.lt_succ_self _) ?_ ?_ ?_ ?_ ?_
              · omega
              · intro j; rw [mm_unq (by decide)]; exact up_row j
              · intro j; rw [up_row, mm_unq (by decide)]; exact ifc Iff.rfl (by split <;> omega) rfl
              · intro j p q r; rw [mm_unq (by decide), mm_unq (by decide), if_neg (by omega)]
              · intro b hb; rw [mm_unq (by omega), mm_unq (by omega)]
            ·
              have e24 : so = -1 := by omega
              refine R_op (nx := 56) rfl rfl rfl ?_
              refine R_op (nx := 59) (pc' := 60) rfl rfl rfl ?_
              refine R_iast (nx := 61) rfl rfl (mm_el_ok 1 4 (by decide) rfl (by decide) (by omega) (by omega)) ?_
              refine R_op (nx := 62) rfl rfl rfl ?_
              refine R_lo (nx := 64) (ls' := [(2, 71), (0, i), (0, so), (0, n), (0, 0)]) rfl rfl rfl rfl ?_
              have L64 : ∀ (f64 : Nat) (S1 : mm_S) (k : Int), ((40 : Int) - k).toNat < f64 → (0 ≤ k ∧ k ≤ 40) → (∀ j, S1 87 j = if j = i then so else S 87 j) → (∀ j, S1 88 j = if j = i then (if so < 0 then 0 else n) else S 88 j) → (∀ j p, 0 ≤ p → p < 40 → S1 89 (40 * j + p) = if j = i ∧ p < k then 0 else S 89 (40 * j + p)) → (∀ b, ¬ (87 ≤ b ∧ b ≤ 89) → S1 b = S b) → Rn k_M_sheet 64 [(2, 71), (0, i), (0, so), (0, n), (0, k)] [] S1 (fun vv S' => vv = some (0, (Q_sheet A i so n).1) ∧ RR S' (Q_sheet A i so n).2 ∧ ∀ b, ¬ (71 ≤ b ∧ b < 91) → S' b = S b) := by
                intro f64
                induction f64 with
                | zero => intro S1 k hm64; exact absurd hm64 (Nat.not_lt_zero _)
                | succ f64 ih64 =>
                  intro S1 k hm64 hk h7 h8 h9 hF
                  refine R_lo (nx := 66) rfl rfl rfl rfl ?_
                  refine R_op (nx := 68) rfl rfl rfl ?_
                  refine R_icmp (nx := 71) (tg := 90) rfl rfl rfl (mm_cnd_ge _ _) (fun c68_5 => ?_) (fun c68_5 => ?_)
                  ·
                    refine R_op (nx := 91) rfl rfl rfl ?_
                    refine R_ret rfl (fun _ _ => rfl) rfl rfl ?_
                    have eQ : Q_sheet A i so n = (1, Ash A i (so, (if so < 0 then 0 else n), fun _ => 0)) := by
                      unfold Q_sheet
                      rw [if_pos b1]
                      by_cases e : so = -1
                      · rw [if_pos e, if_pos (by omega), e]
                      · rw [if_neg e, if_pos (show 0 ≤ so ∧ so ≤ 2 by omega), if_neg (show ¬ 40 < n by omega), if_neg (show ¬ n < 0 by omega), if_neg (show ¬ so < 0 by omega)]
                    rw [eQ]
                    exact ⟨rfl, hRR.sh2 b1 hF h7 h8 fun j p q r => (by rw [h9 j p q r]; exact ifc (by omega) rfl rfl), fun b hb => hF b (by omega)⟩
                  ·
                    refine R_lo (nx := 72) rfl rfl rfl rfl ?_
                    refine R_get (nx := 75) (w := (2, 89)) rfl rfl rfl rfl ?_
                    refine R_op (nx := 77) rfl rfl rfl ?_
                    refine R_lo (nx := 78) rfl rfl rfl rfl ?_
                    refine R_imul (nx := 79) (z := (40 * i)) rfl rfl rfl ⟨by omega, by omega⟩ ?_
                    refine R_lo (nx := 81) rfl rfl rfl rfl ?_
                    refine R_iadd (nx := 82) (z := ((40 * i) + k)) rfl rfl rfl ⟨by omega, by omega⟩ ?_
                    refine R_op (nx := 83) (st' := [(1, 0), (0, ((40 * i) + k)), (2, 89)]) rfl rfl rfl ?_
                    refine R_last (nx := 84) rfl rfl (mm_el_ok 2 160 (by decide) rfl (by decide) (by omega) (by omega)) ?_
                    refine R_iinc (nx := 87) (z := (k + 1)) (ls' := [(2, 71), (0, i), (0, so), (0, n), (0, (k + 1))]) rfl rfl rfl rfl ⟨by omega, by omega⟩ rfl ?_
                    refine R_op (nx := 90) (pc' := 64) rfl rfl rfl ?_
                    refine Rn.weak (ls' := [(2, 71), (0, i), (0, so), (0, n), (0, (k + 1))]) ⟨Or.inl rfl, ⟨Or.inl rfl, ⟨Or.inl rfl, ⟨Or.inl rfl, ⟨Or.inl rfl, trivial⟩⟩⟩⟩⟩ ?_
                    refine ih64 ((mm_up S1 89 ((40 * i) + k) 0)) ((k + 1)) ?_ ?_ ?_ ?_ ?_ ?_
                    · omega
                    · omega
                    · intro j; rw [mm_unq (by decide)]; exact h7 j
                    · intro j; rw [mm_unq (by decide)]; exact h8 j
                    · intro j p q r
                      by_cases e : j = i ∧ p = k
                      · rw [e.1, e.2, mm_ua, if_pos (by omega)]
                      · rw [mm_uk (by omega), h9 j p q r]
                        exact ifc (by omega) rfl rfl
                    · intro b hb; rw [mm_unq (by omega)]; exact hF b hb
              refine Rn.weak (ls' := [(2, 71), (0, i), (0, so), (0, n), (0, 0)]) ⟨Or.inl rfl, ⟨Or.inl rfl, ⟨Or.inl rfl, ⟨Or.inl rfl, ⟨Or.inl rfl, trivial⟩⟩⟩⟩⟩ ?_
              refine L64 (((40 : Int) - (0)).toNat + 1) ((mm_up (mm_up S 87 i so) 88 i 0)) (0) (Nat.lt_succ_self _) ?_ ?_ ?_ ?_ ?_
              · omega
              · intro j; rw [mm_unq (by decide)]; exact up_row j
              · intro j; rw [up_row, mm_unq (by decide)]; exact ifc Iff.rfl (by split <;> omega) rfl
              · intro j p q r; rw [mm_unq (by decide), mm_unq (by decide), if_neg (by omega)]
              · intro b hb; rw [mm_unq (by omega), mm_unq (by omega)]
          ·
            refine R_lo (nx := 33) rfl rfl rfl rfl ?_
            refine R_if (nx := 36) (tg := 39) rfl rfl rfl (mm_cnd_ge _ _) (fun c33_1 => ?_) (fun c33_1 => ?_)
            ·
              refine R_lo (nx := 40) rfl rfl rfl rfl ?_
              refine R_get (nx := 43) (w := (2, 87)) rfl rfl rfl rfl ?_
              refine R_lo (nx := 44) rfl rfl rfl rfl ?_
              refine R_lo (nx := 45) rfl rfl rfl rfl ?_
              refine R_iast (nx := 46) rfl rfl (mm_el_ok 1 4 (by decide) rfl (by decide) (by omega) (by omega)) ?_
              refine R_lo (nx := 47) rfl rfl rfl rfl ?_
              refine R_get (nx := 50) (w := (2, 88)) rfl rfl rfl rfl ?_
              refine R_lo (nx := 51) rfl rfl rfl rfl ?_
              refine R_lo (nx := 52) rfl rfl rfl rfl ?_
              refine R_if (nx := 55) (tg := 59) rfl rfl rfl (mm_cnd_ge _ _) (fun c52_3 => ?_) (fun c52_3 => ?_)
              ·
                have e24 : ¬ so = -1 := by omega
                have e25 : 0 ≤ so ∧ so ≤ 2 := by omega
                have e33 : ¬ n < 0 := by omega
                have e34 : ¬ 40 < n := by omega
                refine R_lo (nx := 60) rfl rfl rfl rfl ?_
                refine R_iast (nx := 61) rfl rfl (mm_el_ok 1 4 (by decide) rfl (by decide) (by omega) (by omega)) ?_
                refine R_op (nx := 62) rfl rfl rfl ?_
                refine R_lo (nx := 64) (ls' := [(2, 71), (0, i), (0, so), (0, n), (0, 0)]) rfl rfl rfl rfl ?_
                have L64 : ∀ (f64 : Nat) (S1 : mm_S) (k : Int), ((40 : Int) - k).toNat < f64 → (0 ≤ k ∧ k ≤ 40) → (∀ j, S1 87 j = if j = i then so else S 87 j) → (∀ j, S1 88 j = if j = i then (if so < 0 then 0 else n) else S 88 j) → (∀ j p, 0 ≤ p → p < 40 → S1 89 (40 * j + p) = if j = i ∧ p < k then 0 else S 89 (40 * j + p)) → (∀ b, ¬ (87 ≤ b ∧ b ≤ 89) → S1 b = S b) → Rn k_M_sheet 64 [(2, 71), (0, i), (0, so), (0, n), (0, k)] [] S1 (fun vv S' => vv = some (0, (Q_sheet A i so n).1) ∧ RR S' (Q_sheet A i so n).2 ∧ ∀ b, ¬ (71 ≤ b ∧ b < 91) → S' b = S b) := by
                  intro f64
                  induction f64 with
                  | zero => intro S1 k hm64; exact absurd hm64 (Nat.not_lt_zero _)
                  | succ f64 ih64 =>
                    intro S1 k hm64 hk h7 h8 h9 hF
                    refine R_lo (nx := 66) rfl rfl rfl rfl ?_
                    refine R_op (nx := 68) rfl rfl rfl ?_
                    refine R_icmp (nx := 71) (tg := 90) rfl rfl rfl (mm_cnd_ge _ _) (fun c68_6 => ?_) (fun c68_6 => ?_)
                    ·
                      refine R_op (nx := 91) rfl rfl rfl ?_
                      refine R_ret rfl (fun _ _ => rfl) rfl rfl ?_
                      have eQ : Q_sheet A i so n = (1, Ash A i (so, (if so < 0 then 0 else n), fun _ => 0)) := by
                        unfold Q_sheet
                        rw [if_pos b1]
                        by_cases e : so = -1
                        · rw [if_pos e, if_pos (by omega), e]
                        · rw [if_neg e, if_pos (show 0 ≤ so ∧ so ≤ 2 by omega), if_neg (show ¬ 40 < n by omega), if_neg (show ¬ n < 0 by omega), if_neg (show ¬ so < 0 by omega)]
                      rw [eQ]
                      exact ⟨rfl, hRR.sh2 b1 hF h7 h8 fun j p q r => (by rw [h9 j p q r]; exact ifc (by omega) rfl rfl), fun b hb => hF b (by omega)⟩
                    ·
                      refine R_lo (nx := 72) rfl rfl rfl rfl ?_
                      refine R_get (nx := 75) (w := (2, 89)) rfl rfl rfl rfl ?_
                      refine R_op (nx := 77) rfl rfl rfl ?_
                      refine R_lo (nx := 78) rfl rfl rfl rfl ?_
                      refine R_imul (nx := 79) (z := (40 * i)) rfl rfl rfl ⟨by omega, by omega⟩ ?_
                      refine R_lo (nx := 81) rfl rfl rfl rfl ?_
                      refine R_iadd (nx := 82) (z := ((40 * i) + k)) rfl rfl rfl ⟨by omega, by omega⟩ ?_
                      refine R_op (nx := 83) (st' := [(1, 0), (0, ((40 * i) + k)), (2, 89)]) rfl rfl rfl ?_
                      refine R_last (nx := 84) rfl rfl (mm_el_ok 2 160 (by decide) rfl (by decide) (by omega) (by omega)) ?_
                      refine R_iinc (nx := 87) (z := (k + 1)) (ls' := [(2, 71), (0, i), (0, so), (0, n), (0, (k + 1))]) rfl rfl rfl rfl ⟨by omega, by omega⟩ rfl ?_
                      refine R_op (nx := 90) (pc' := 64) rfl rfl rfl ?_
                      refine Rn.weak (ls' := [(2, 71), (0, i), (0, so), (0, n), (0, (k + 1))]) ⟨Or.inl rfl, ⟨Or.inl rfl, ⟨Or.inl rfl, ⟨Or.inl rfl, ⟨Or.inl rfl, trivial⟩⟩⟩⟩⟩ ?_
                      refine ih64 ((mm_up S1 89 ((40 * i) + k) 0)) ((k + 1)) ?_ ?_ ?_ ?_ ?_ ?_
                      · omega
                      · omega
                      · intro j; rw [mm_unq (by decide)]; exact h7 j
                      · intro j; rw [mm_unq (by decide)]; exact h8 j
                      · intro j p q r
                        by_cases e : j = i ∧ p = k
                        · rw [e.1, e.2, mm_ua, if_pos (by omega)]
                        · rw [mm_uk (by omega), h9 j p q r]
                          exact ifc (by omega) rfl rfl
                      · intro b hb; rw [mm_unq (by omega)]; exact hF b hb
                refine Rn.weak (ls' := [(2, 71), (0, i), (0, so), (0, n), (0, 0)]) ⟨Or.inl rfl, ⟨Or.inl rfl, ⟨Or.inl rfl, ⟨Or.inl rfl, ⟨Or.inl rfl, trivial⟩⟩⟩⟩⟩ ?_
                refine L64 (((40 : Int) - (0)).toNat + 1) ((mm_up (mm_up S 87 i so) 88 i n)) (0) (Nat.lt_succ_self _) ?_ ?_ ?_ ?_ ?_
                · omega
                · intro j; rw [mm_unq (by decide)]; exact up_row j
                · intro j; rw [up_row, mm_unq (by decide)]; exact ifc Iff.rfl (by split <;> omega) rfl
                · intro j p q r; rw [mm_unq (by decide), mm_unq (by decide), if_neg (by omega)]
                · intro b hb; rw [mm_unq (by omega), mm_unq (by omega)]
              ·
                have e24 : so = -1 := by omega
                refine R_op (nx := 56) rfl rfl rfl ?_
                refine R_op (nx := 59) (pc' := 60) rfl rfl rfl ?_
                refine R_iast (nx := 61) rfl rfl (mm_el_ok 1 4 (by decide) rfl (by decide) (by omega) (by omega)) ?_
                refine R_op (nx := 62) rfl rfl rfl ?_
                refine R_lo (nx := 64) (ls' := [(2, 71), (0, i), (0, so), (0, n), (0, 0)]) rfl rfl rfl rfl ?_
                have L64 : ∀ (f64 : Nat) (S1 : mm_S) (k : Int), ((40 : Int) - k).toNat < f64 → (0 ≤ k ∧ k ≤ 40) → (∀ j, S1 87 j = if j = i then so else S 87 j) → (∀ j, S1 88 j = if j = i then (if so < 0 then 0 else n) else S 88 j) → (∀ j p, 0 ≤ p → p < 40 → S1 89 (40 * j + p) = if j = i ∧ p < k then 0 else S 89 (40 * j + p)) → (∀ b, ¬ (87 ≤ b ∧ b ≤ 89) → S1 b = S b) → Rn k_M_sheet 64 [(2, 71), (0, i), (0, so), (0, n), (0, k)] [] S1 (fun vv S' => vv = some (0, (Q_sheet A i so n).1) ∧ RR S' (Q_sheet A i so n).2 ∧ ∀ b, ¬ (71 ≤ b ∧ b < 91) → S' b = S b) := by
                  intro f64
                  induction f64 with
                  | zero => intro S1 k hm64; exact absurd hm64 (Nat.not_lt_zero _)
                  | succ f64 ih64 =>
                    intro S1 k hm64 hk h7 h8 h9 hF
                    refine R_lo (nx := 66) rfl rfl rfl rfl ?_
                    refine R_op (nx := 68) rfl rfl rfl ?_
                    refine R_icmp (nx := 71) (tg := 90) rfl rfl rfl (mm_cnd_ge _ _) (fun c68_7 => ?_) (fun c68_7 => ?_)
                    ·
                      refine R_op (nx := 91) rfl rfl rfl ?_
                      refine R_ret rfl (fun _ _ => rfl) rfl rfl ?_
                      have eQ : Q_sheet A i so n = (1, Ash A i (so, (if so < 0 then 0 else n), fun _ => 0)) := by
                        unfold Q_sheet
                        rw [if_pos b1]
                        by_cases e : so = -1
                        · rw [if_pos e, if_pos (by omega), e]
                        · rw [if_neg e, if_pos (show 0 ≤ so ∧ so ≤ 2 by omega), if_neg (show ¬ 40 < n by omega), if_neg (show ¬ n < 0 by omega), if_neg (show ¬ so < 0 by omega)]
                      rw [eQ]
                      exact ⟨rfl, hRR.sh2 b1 hF h7 h8 fun j p q r => (by rw [h9 j p q r]; exact ifc (by omega) rfl rfl), fun b hb => hF b (by omega)⟩
                    ·
                      refine R_lo (nx := 72) rfl rfl rfl rfl ?_
                      refine R_get (nx := 75) (w := (2, 89)) rfl rfl rfl rfl ?_
                      refine R_op (nx := 77) rfl rfl rfl ?_
                      refine R_lo (nx := 78) rfl rfl rfl rfl ?_
                      refine R_imul (nx := 79) (z := (40 * i)) rfl rfl rfl ⟨by omega, by omega⟩ ?_
                      refine R_lo (nx := 81) rfl rfl rfl rfl ?_
                      refine R_iadd (nx := 82) (z := ((40 * i) + k)) rfl rfl rfl ⟨by omega, by omega⟩ ?_
                      refine R_op (nx := 83) (st' := [(1, 0), (0, ((40 * i) + k)), (2, 89)]) rfl rfl rfl ?_
                      refine R_last (nx := 84) rfl rfl (mm_el_ok 2 160 (by decide) rfl (by decide) (by omega) (by omega)) ?_
                      refine R_iinc (nx := 87) (z := (k + 1)) (ls' := [(2, 71), (0, i), (0, so), (0, n), (0, (k + 1))]) rfl rfl rfl rfl ⟨by omega, by omega⟩ rfl ?_
                      refine R_op (nx := 90) (pc' := 64) rfl rfl rfl ?_
                      refine Rn.weak (ls' := [(2, 71), (0, i), (0, so), (0, n), (0, (k + 1))]) ⟨Or.inl rfl, ⟨Or.inl rfl, ⟨Or.inl rfl, ⟨Or.inl rfl, ⟨Or.inl rfl, trivial⟩⟩⟩⟩⟩ ?_
                      refine ih64 ((mm_up S1 89 ((40 * i) + k) 0)) ((k + 1)) ?_ ?_ ?_ ?_ ?_ ?_
                      · omega
                      · omega
                      · intro j; rw [mm_unq (by decide)]; exact h7 j
                      · intro j; rw [mm_unq (by decide)]; exact h8 j
                      · intro j p q r
                        by_cases e : j = i ∧ p = k
                        · rw [e.1, e.2, mm_ua, if_pos (by omega)]
                        · rw [mm_uk (by omega), h9 j p q r]
                          exact ifc (by omega) rfl rfl
                      · intro b hb; rw [mm_unq (by omega)]; exact hF b hb
                refine Rn.weak (ls' := [(2, 71), (0, i), (0, so), (0, n), (0, 0)]) ⟨Or.inl rfl, ⟨Or.inl rfl, ⟨Or.inl rfl, ⟨Or.inl rfl, ⟨Or.inl rfl, trivial⟩⟩⟩⟩⟩ ?_
                refine L64 (((40 : Int) - (0)).toNat + 1) ((mm_up (mm_up S 87 i so) 88 i 0)) (0) (Nat.lt_succ_self _) ?_ ?_ ?_ ?_ ?_
                · omega
                · intro j; rw [mm_unq (by decide)]; exact up_row j
                · intro j; rw [up_row, mm_unq (by decide)]; exact ifc Iff.rfl (by split <;> omega) rfl
                · intro j p q r; rw [mm_unq (by decide), mm_unq (by decide), if_neg (by omega)]
                · intro b hb; rw [mm_unq (by omega), mm_unq (by omega)]
            ·
              have e33 : n < 0 := by omega
              have e24 : ¬ so = -1 := by omega
              have e25 : 0 ≤ so ∧ so ≤ 2 := by omega
              have e34 : ¬ 40 < n := by omega
              refine R_op (nx := 38) rfl rfl rfl ?_
              refine R_ret rfl (fun _ _ => rfl) rfl rfl ?_
              first | (exfalso; omega) | (rw [show Q_sheet A i so n = ((-14), A) from by simp only [Q_sheet, b1, b10, c17, c23, c29_1, c33_1, e33, e24, e25, e34, ifo, ifm, ifp, iffq, ↓reduceIte, ite_self, and_self, and_true, true_and, and_false, false_and, or_true, true_or, or_false, false_or, or_self, not_true_eq_false, not_false_eq_true, ne_eq]]; exact ⟨rfl, hRR, fun b _ => rfl⟩)
        ·
          have e23 : 40 < n := by omega
          have e24 : ¬ so = -1 := by omega
          have e25 : 0 ≤ so ∧ so ≤ 2 := by omega
          refine R_op (nx := 27) rfl rfl rfl ?_
          refine R_ret rfl (fun _ _ => rfl) rfl rfl ?_
          first | (exfalso; omega) | (rw [show Q_sheet A i so n = ((-1), A) from by simp only [Q_sheet, b1, b10, c17, c23, e23, e24, e25, ifo, ifm, ifp, iffq, ↓reduceIte, ite_self, and_self, and_true, true_and, and_false, false_and, or_true, true_or, or_false, false_or, or_self, not_true_eq_false, not_false_eq_true, ne_eq]]; exact ⟨rfl, hRR, fun b _ => rfl⟩)
    ·
      have e13 : ¬ so = -1 := by omega
      have e14 : ¬ (0 ≤ so ∧ so ≤ 2) := by omega
      refine ⟨_, rfl, ?_⟩
      refine R_ifT (tg := 26) rfl rfl rfl ?_
      refine R_op (nx := 27) rfl rfl rfl ?_
      refine R_ret rfl (fun _ _ => rfl) rfl rfl ?_
      first | (exfalso; omega) | (rw [show Q_sheet A i so n = ((-1), A) from by simp only [Q_sheet, b1, b10, e13, e14, ifo, ifm, ifp, iffq, ↓reduceIte, ite_self, and_self, and_true, true_and, and_false, false_and, or_true, true_or, or_false, false_or, or_self, not_true_eq_false, not_false_eq_true, ne_eq]]; exact ⟨rfl, hRR, fun b _ => rfl⟩)
  ·
    try have k1 := hRR.2.2.2.2.2 i b1.1 b1.2
    try have ka1 := k1.1
    try have kz1 := k1.2.1
    try have q1 := hV.2.2.2.2.2 i b1.1 b1.2
    try have qa1 := q1.1
    try have qz1 := q1.2
    refine ⟨_, rfl, ?_⟩
    refine R_ifT (tg := 26) rfl rfl rfl ?_
    refine R_op (nx := 27) rfl rfl rfl ?_
    refine R_ret rfl (fun _ _ => rfl) rfl rfl ?_
    first | (exfalso; omega) | (rw [show Q_sheet A i so n = ((-1), A) from by simp only [Q_sheet, b1, ifo, ifm, ifp, iffq, ↓reduceIte, ite_self, and_self, and_true, true_and, and_false, false_and, or_true, true_or, or_false, false_or, or_self, not_true_eq_false, not_false_eq_true, ne_eq]]; exact ⟨rfl, hRR, fun b _ => rfl⟩)

set_option maxRecDepth 20000 in
set_option maxHeartbeats 4000000 in
theorem c_M_put (S : mm_S) (A : mm_A) (hRR : RR S A) (hV : Vs A) (i j v : Int) (hj : mm_r32 j) : Cl 109 [(2, 71), (0, i), (0, j), (1, v)] S (fun vv S' => vv = some (0, (Q_put A i j v).1) ∧ RR S' (Q_put A i j v).2 ∧ ∀ b, ¬ (71 ≤ b ∧ b < 91) → S' b = S b) := by
  refine ⟨Nat.le_of_ble_eq_true rfl, ?_⟩
  show Rn k_M_put 0 [(2, 71), (0, i), (0, j), (1, v), (9, 0)] [] S _
  refine R_lo (nx := 1) rfl rfl rfl rfl ?_
  refine R_call1 (nx := 4) (as := [(0, i)]) (rest := []) rfl rfl (fun _ _ => rfl) rfl rfl rfl rfl rfl rfl rfl rfl (Cl.mono (c_M_isSheet S i) ?_)
  rintro _ _ (⟨rfl, b1, rfl⟩ | ⟨rfl, b1, rfl⟩)
  ·
    try have k1 := hRR.2.2.2.2.2 i b1.1 b1.2
    try have ka1 := k1.1
    try have kz1 := k1.2.1
    try have q1 := hV.2.2.2.2.2 i b1.1 b1.2
    try have qa1 := q1.1
    try have qz1 := q1.2
    refine ⟨_, rfl, ?_⟩
    refine R_ifT (tg := 9) rfl rfl rfl ?_
    refine R_lo (nx := 10) rfl rfl rfl rfl ?_
    refine R_get (nx := 13) (w := (2, 87)) rfl rfl rfl rfl ?_
    refine R_lo (nx := 14) rfl rfl rfl rfl ?_
    refine R_iald (nx := 15) rfl rfl (mm_el_ok 1 4 (by decide) rfl (by decide) (by omega) (by omega)) ?_
    rw [ka1]
    refine R_if (nx := 18) (tg := 21) rfl rfl rfl (mm_cnd_ge _ _) (fun c15 => ?_) (fun c15 => ?_)
    ·
      have e15 : ¬ Aso A i = -1 := by omega
      refine R_lo (nx := 22) rfl rfl rfl rfl ?_
      refine R_op (nx := 23) rfl rfl rfl ?_
      refine R_lo (nx := 24) rfl rfl rfl rfl ?_
      refine R_get (nx := 27) (w := (2, 88)) rfl rfl rfl rfl ?_
      refine R_lo (nx := 28) rfl rfl rfl rfl ?_
      refine R_iald (nx := 29) rfl rfl (mm_el_ok 1 4 (by decide) rfl (by decide) (by omega) (by omega)) ?_
      rw [kz1]
      refine R_op (nx := 30) rfl rfl rfl ?_
      refine R_isub (nx := 31) (z := ((Asz A i) - 1)) rfl rfl rfl ⟨by omega, by omega⟩ ?_
      refine R_call1 (nx := 34) (as := [(0, j), (0, 0), (0, ((Asz A i) - 1))]) (rest := []) rfl rfl (fun _ _ => rfl) rfl rfl rfl rfl rfl rfl rfl rfl (Cl.mono (c_M_in S j 0 ((Asz A i) - 1)) ?_)
      rintro _ _ (⟨rfl, b31, rfl⟩ | ⟨rfl, b31, rfl⟩)
      ·
        have e31 : ¬ Outs (Asz A i) j 1 := by unfold Outs; omega
        refine ⟨_, rfl, ?_⟩
        refine R_ifT (tg := 40) rfl rfl rfl ?_
        refine R_lo (nx := 41) rfl rfl rfl rfl ?_
        refine R_get (nx := 44) (w := (2, 89)) rfl rfl rfl rfl ?_
        refine R_op (nx := 46) rfl rfl rfl ?_
        refine R_lo (nx := 47) rfl rfl rfl rfl ?_
        refine R_imul (nx := 48) (z := (40 * i)) rfl rfl rfl ⟨by omega, by omega⟩ ?_
        refine R_lo (nx := 49) rfl rfl rfl rfl ?_
        refine R_iadd (nx := 50) (z := ((40 * i) + j)) rfl rfl rfl ⟨by omega, by omega⟩ ?_
        refine R_lo (nx := 51) rfl rfl rfl rfl ?_
        refine R_get (nx := 54) (w := (2, 87)) rfl rfl rfl rfl ?_
        refine R_lo (nx := 55) rfl rfl rfl rfl ?_
        refine R_iald (nx := 56) rfl rfl (mm_el_ok 1 4 (by decide) rfl (by decide) (by omega) (by omega)) ?_
        rw [ka1]
        refine R_lo (nx := 57) rfl rfl rfl rfl ?_
        refine R_call1 (nx := 60) (as := [(0, (Aso A i)), (1, v)]) (rest := [(0, ((40 * i) + j)), (2, 89)]) rfl rfl (fun _ _ => rfl) rfl rfl rfl rfl rfl rfl rfl rfl (Cl.mono (c_M_cut S (Aso A i) v) ?_)
        rintro _ _ ⟨rfl, rfl⟩
        refine ⟨_, rfl, ?_⟩
        refine R_last (nx := 61) rfl rfl (mm_el_ok 2 160 (by decide) rfl (by decide) (by omega) (by omega)) ?_
        refine R_op (nx := 62) rfl rfl rfl ?_
        refine R_ret rfl (fun _ _ => rfl) rfl rfl ?_
        first | (exfalso; omega) | (rw [show Q_put A i j v = (1, Ash A i (Aso A i, Asz A i, fun k => if k = j then cutv (Aso A i) v else Apl A i k)) from by simp only [Q_put, b1, c15, e15, b31, e31, ifo, ifm, ifp, iffq, ↓reduceIte, ite_self, and_self, and_true, true_and, and_false, false_and, or_true, true_or, or_false, false_or, or_self, not_true_eq_false, not_false_eq_true, ne_eq]]; exact ⟨rfl, hRR.sh2 b1 (fun b hb => mm_unq (by omega)) (fun j => by rw [mm_unq (by decide), ← ka1]; split; rename_i e; rw [e]; rfl) (fun j => by rw [mm_unq (by decide), ← kz1]; split; rename_i e; rw [e]; rfl) (fun p k q r => by
          by_cases e : p = i ∧ k = j
          · rw [e.1, e.2, mm_ua, if_pos rfl, if_pos rfl]
          · rw [mm_uk (by omega)]
            by_cases e2 : p = i
            · rw [if_pos e2, if_neg (by omega), e2]; exact k1.2.2 k q r
            · rw [if_neg e2]), fun b hb => mm_unq (by omega)⟩)
      ·
        have e31 : Outs (Asz A i) j 1 := by unfold Outs; omega
        refine ⟨_, rfl, ?_⟩
        refine R_ifF (nx := 37) rfl rfl rfl ?_
        refine R_op (nx := 39) rfl rfl rfl ?_
        refine R_ret rfl (fun _ _ => rfl) rfl rfl ?_
        first | (exfalso; omega) | (rw [show Q_put A i j v = ((-12), A) from by simp only [Q_put, b1, c15, e15, b31, e31, ifo, ifm, ifp, iffq, ↓reduceIte, ite_self, and_self, and_true, true_and, and_false, false_and, or_true, true_or, or_false, false_or, or_self, not_true_eq_false, not_false_eq_true, ne_eq]]; exact ⟨rfl, hRR, fun b _ => rfl⟩)
    ·
      have e15 : Aso A i = -1 := by omega
      refine R_op (nx := 20) rfl rfl rfl ?_
      refine R_ret rfl (fun _ _ => rfl) rfl rfl ?_
      first | (exfalso; omega) | (rw [show Q_put A i j v = ((-11), A) from by simp only [Q_put, b1, c15, e15, ifo, ifm, ifp, iffq, ↓reduceIte, ite_self, and_self, and_true, true_and, and_false, false_and, or_true, true_or, or_false, false_or, or_self, not_true_eq_false, not_false_eq_true, ne_eq]]; exact ⟨rfl, hRR, fun b _ => rfl⟩)
  ·
    try have k1 := hRR.2.2.2.2.2 i b1.1 b1.2
    try have ka1 := k1.1
    try have kz1 := k1.2.1
    try have q1 := hV.2.2.2.2.2 i b1.1 b1.2
    try have qa1 := q1.1
    try have qz1 := q1.2
    refine ⟨_, rfl, ?_⟩
    refine R_ifF (nx := 7) rfl rfl rfl ?_
    refine R_op (nx := 8) rfl rfl rfl ?_
    refine R_ret rfl (fun _ _ => rfl) rfl rfl ?_
    first | (exfalso; omega) | (rw [show Q_put A i j v = ((-1), A) from by simp only [Q_put, b1, ifo, ifm, ifp, iffq, ↓reduceIte, ite_self, and_self, and_true, true_and, and_false, false_and, or_true, true_or, or_false, false_or, or_self, not_true_eq_false, not_false_eq_true, ne_eq]]; exact ⟨rfl, hRR, fun b _ => rfl⟩)
