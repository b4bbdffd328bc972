theorem i32m31 (z : Int32) : 0 ≤ (z &&& Int32.ofInt 31).toInt ∧ (z &&& Int32.ofInt 31).toInt ≤ 31 := by
  have e : (z &&& Int32.ofInt 31).toInt = z.toInt % 32 := by
    rw [← Int32.toInt_toBitVec, ← Int32.toInt_toBitVec, Int32.toBitVec_and]
    have e : (Int32.ofInt 31).toBitVec = 31#32 := by decide
    rw [e]
    generalize z.toBitVec = b
    have h1 : (b &&& 31#32).toNat = b.toNat % 32 := by
      rw [BitVec.toNat_and]
      exact Nat.and_two_pow_sub_one_eq_mod b.toNat 5
    rw [BitVec.toInt_eq_toNat_cond, BitVec.toInt_eq_toNat_cond, h1]
    have := b.isLt
    split <;> split <;> omega
  rw [e]; omega
set_option maxRecDepth 20000 in
set_option maxHeartbeats 4000000 in
/-! The law: its loop. -/
theorem law_loop  {L : Nat} (hL0 : L ≤ 3584) : ∀ (n : Nat) (S : mm_S) (A : mm_A) (i : Int), ((L : Int) - i + 7).toNat < n → 0 ≤ i → i ≤ (L : Int) + 7 → WS S A L → Rn k_Law_law 18 [(2, 1000), (2, 0), (2, 71), (0, i)] [] S QL
  | 0, _, _, _, h, _, _, _ => absurd h (Nat.not_lt_zero _)
  | n + 1, S, A, i, hn, hi, hi2, hS => by
    have hL := hS.2.2.2.1
    have k : i + 7 ≤ (L : Int) → ∀ S' A', WS S' A' L → Rn k_Law_law 1544 [(2, 1000), (2, 0), (2, 71), (0, i)] [] S' QL := fun hlt S' A' hS' => by
      refine R_iinc (nx := 1547) (z := (i + 7)) (ls' := [(2, 1000), (2, 0), (2, 71), (0, (i + 7))]) (lj_19 (by decide) rfl) rfl rfl rfl ⟨by omega, by omega⟩ rfl ?_
      refine R_op (nx := 1550) (pc' := 18) (lj_19 (by decide) rfl) rfl rfl ?_
      exact law_loop  hL0 n S' A' (i + 7) (by omega) (by omega) (by omega) hS'
    refine R_lo (nx := 19) (lj_0 (by decide) rfl) rfl rfl rfl ?_
    refine R_lo (nx := 20) (lj_0 (by decide) rfl) rfl rfl rfl ?_
    refine R_len1000 (nx := 21) (lj_0 (by decide) rfl) rfl hL ?_
    refine R_op (nx := 23) (lj_0 (by decide) rfl) rfl rfl ?_
    refine R_isub (nx := 24) (z := ((L : Int) - 7)) (lj_0 (by decide) rfl) rfl rfl ⟨by omega, by omega⟩ ?_
    refine R_icmp (nx := 27) (tg := 1550) (lj_0 (by decide) rfl) rfl rfl (mm_cnd_gt _ _) (fun c24 => ?_) (fun c24 => ?_)
    · refine R_op (nx := 1551) (lj_19 (by decide) rfl) rfl rfl ?_
      exact R_ret (lj_19 (by decide) rfl) (fun _ _ => rfl) rfl rfl rfl
    have hi7 : i + 7 ≤ (L : Int) := by omega
    refine R_lo (nx := 28) (lj_0 (by decide) rfl) rfl rfl rfl ?_
    refine R_lo (nx := 29) (lj_0 (by decide) rfl) rfl rfl rfl ?_
    refine R_ld1000 (nx := 30) (S0 := S) (lj_0 (by decide) rfl) rfl rfl (by omega) (by omega) ?_
    refine R_op (nx := 32) (lj_0 (by decide) rfl) rfl rfl ?_
    refine R_op (nx := 33) (st' := [(0, (Int32.ofInt (S 1000 i) &&& Int32.ofInt 31).toInt)]) (lj_0 (by decide) rfl) rfl rfl ?_
    have hx0 := i32m31 (Int32.ofInt (S 1000 i))
    generalize (Int32.ofInt (S 1000 i) &&& Int32.ofInt 31).toInt = x at hx0 ⊢
    by_cases s0 : x = 0
    · refine R_swK (tg := 168) (lj_0 (by decide) rfl) (by omega) (by rw [s0]; rfl) ?_
      exact lw_0 hS i ⟨hi, hi7⟩ hL0 (k hi7)
    by_cases s1 : x = 1
    · refine R_swK (tg := 191) (lj_0 (by decide) rfl) (by omega) (by rw [s1]; rfl) ?_
      exact lw_1 hS i ⟨hi, hi7⟩ hL0 (k hi7)
    by_cases s2 : x = 2
    · refine R_swK (tg := 244) (lj_0 (by decide) rfl) (by omega) (by rw [s2]; rfl) ?_
      exact lw_2 hS i ⟨hi, hi7⟩ hL0 (k hi7)
    by_cases s3 : x = 3
    · refine R_swK (tg := 297) (lj_0 (by decide) rfl) (by omega) (by rw [s3]; rfl) ?_
      exact lw_3 hS i ⟨hi, hi7⟩ hL0 (k hi7)
    by_cases s4 : x = 4
    · refine R_swK (tg := 340) (lj_0 (by decide) rfl) (by omega) (by rw [s4]; rfl) ?_
      exact lw_4 hS i ⟨hi, hi7⟩ hL0 (k hi7)
    by_cases s5 : x = 5
    · refine R_swK (tg := 383) (lj_0 (by decide) rfl) (by omega) (by rw [s5]; rfl) ?_
      exact lw_5 hS i ⟨hi, hi7⟩ hL0 (k hi7)
    by_cases s6 : x = 6
    · refine R_swK (tg := 406) (lj_0 (by decide) rfl) (by omega) (by rw [s6]; rfl) ?_
      exact lw_6 hS i ⟨hi, hi7⟩ hL0 (k hi7)
    by_cases s7 : x = 7
    · refine R_swK (tg := 429) (lj_0 (by decide) rfl) (by omega) (by rw [s7]; rfl) ?_
      exact lw_7 hS i ⟨hi, hi7⟩ hL0 (k hi7)
    by_cases s8 : x = 8
    · refine R_swK (tg := 492) (lj_0 (by decide) rfl) (by omega) (by rw [s8]; rfl) ?_
      exact lw_8 hS i ⟨hi, hi7⟩ hL0 (k hi7)
    by_cases s9 : x = 9
    · refine R_swK (tg := 515) (lj_0 (by decide) rfl) (by omega) (by rw [s9]; rfl) ?_
      exact lw_9 hS i ⟨hi, hi7⟩ hL0 (k hi7)
    by_cases s10 : x = 10
    · refine R_swK (tg := 568) (lj_0 (by decide) rfl) (by omega) (by rw [s10]; rfl) ?_
      exact lw_10 hS i ⟨hi, hi7⟩ hL0 (k hi7)
    by_cases s11 : x = 11
    · refine R_swK (tg := 631) (lj_0 (by decide) rfl) (by omega) (by rw [s11]; rfl) ?_
      exact lw_11 hS i ⟨hi, hi7⟩ hL0 (k hi7)
    by_cases s12 : x = 12
    · refine R_swK (tg := 706) (lj_0 (by decide) rfl) (by omega) (by rw [s12]; rfl) ?_
      exact lw_12 hS i ⟨hi, hi7⟩ hL0 (k hi7)
    by_cases s13 : x = 13
    · refine R_swK (tg := 781) (lj_0 (by decide) rfl) (by omega) (by rw [s13]; rfl) ?_
      exact lw_13 hS i ⟨hi, hi7⟩ hL0 (k hi7)
    by_cases s14 : x = 14
    · refine R_swK (tg := 824) (lj_0 (by decide) rfl) (by omega) (by rw [s14]; rfl) ?_
      exact lw_14 hS i ⟨hi, hi7⟩ hL0 (k hi7)
    by_cases s15 : x = 15
    · refine R_swK (tg := 867) (lj_0 (by decide) rfl) (by omega) (by rw [s15]; rfl) ?_
      exact lw_15 hS i ⟨hi, hi7⟩ hL0 (k hi7)
    by_cases s16 : x = 16
    · refine R_swK (tg := 910) (lj_0 (by decide) rfl) (by omega) (by rw [s16]; rfl) ?_
      exact lw_16 hS i ⟨hi, hi7⟩ hL0 (k hi7)
    by_cases s17 : x = 17
    · refine R_swK (tg := 973) (lj_0 (by decide) rfl) (by omega) (by rw [s17]; rfl) ?_
      exact lw_17 hS i ⟨hi, hi7⟩ hL0 (k hi7)
    by_cases s18 : x = 18
    · refine R_swK (tg := 1016) (lj_0 (by decide) rfl) (by omega) (by rw [s18]; rfl) ?_
      exact lw_18 hS i ⟨hi, hi7⟩ hL0 (k hi7)
    by_cases s19 : x = 19
    · refine R_swK (tg := 1069) (lj_0 (by decide) rfl) (by omega) (by rw [s19]; rfl) ?_
      exact lw_19 hS i ⟨hi, hi7⟩ hL0 (k hi7)
    by_cases s20 : x = 20
    · refine R_swK (tg := 1144) (lj_0 (by decide) rfl) (by omega) (by rw [s20]; rfl) ?_
      exact lw_20 hS i ⟨hi, hi7⟩ hL0 (k hi7)
    by_cases s21 : x = 21
    · refine R_swK (tg := 1167) (lj_0 (by decide) rfl) (by omega) (by rw [s21]; rfl) ?_
      exact lw_21 hS i ⟨hi, hi7⟩ hL0 (k hi7)
    by_cases s22 : x = 22
    · refine R_swK (tg := 1210) (lj_0 (by decide) rfl) (by omega) (by rw [s22]; rfl) ?_
      exact lw_22 hS i ⟨hi, hi7⟩ hL0 (k hi7)
    by_cases s23 : x = 23
    · refine R_swK (tg := 1283) (lj_0 (by decide) rfl) (by omega) (by rw [s23]; rfl) ?_
      exact lw_23 hS i ⟨hi, hi7⟩ hL0 (k hi7)
    by_cases s24 : x = 24
    · refine R_swK (tg := 1326) (lj_0 (by decide) rfl) (by omega) (by rw [s24]; rfl) ?_
      exact lw_24 hS i ⟨hi, hi7⟩ hL0 (k hi7)
    by_cases s25 : x = 25
    · refine R_swK (tg := 1389) (lj_0 (by decide) rfl) (by omega) (by rw [s25]; rfl) ?_
      exact lw_25 hS i ⟨hi, hi7⟩ hL0 (k hi7)
    by_cases s26 : x = 26
    · refine R_swK (tg := 1442) (lj_0 (by decide) rfl) (by omega) (by rw [s26]; rfl) ?_
      exact lw_26 hS i ⟨hi, hi7⟩ hL0 (k hi7)
    by_cases s27 : x = 27
    · refine R_swK (tg := 1495) (lj_0 (by decide) rfl) (by omega) (by rw [s27]; rfl) ?_
      exact lw_27 hS i ⟨hi, hi7⟩ hL0 (k hi7)
    by_cases s28 : x = 28
    · refine R_swK (tg := 1518) (lj_0 (by decide) rfl) (by omega) (by rw [s28]; rfl) ?_
      exact lw_28 hS i ⟨hi, hi7⟩ hL0 (k hi7)
    by_cases s29 : x = 29
    · refine R_swK (tg := 1531) (lj_0 (by decide) rfl) (by omega) (by rw [s29]; rfl) ?_
      exact lw_29 hS i ⟨hi, hi7⟩ hL0 (k hi7)
    refine R_swD (tg := 1544) (lj_0 (by decide) rfl) (by omega) rfl ?_
    exact k hi7 S A hS
