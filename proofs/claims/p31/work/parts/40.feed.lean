/-! The tape. -/
def lsh (e k : Int) : Int := (Int64.ofInt e >>> ((Int32.ofInt (8 * k)).toInt64 &&& 63)).toInt
def bt (e k : Int) : Int := lsh e k % 256
def Q_feed (A : mm_A) (e n : Int) : Int × mm_A := if n < 1 ∨ 8 < n then (-1, A) else if 200 < AL A + n then (-2, A) else (AL A + n, Atp A (AL A + n) (fun j => if j < AL A then AT A j else bt e (j - AL A)))
theorem lsh_r (e k : Int) : -9223372036854775808 ≤ lsh e k ∧ lsh e k < 9223372036854775808 := by
  unfold lsh
  exact ⟨Int64.le_toInt _, Int64.toInt_lt _⟩
theorem i64and (z : Int64) : (z &&& Int64.ofInt 255).toInt = z.toInt % 256 := by
  rw [← Int64.toInt_toBitVec, ← Int64.toInt_toBitVec, Int64.toBitVec_and]
  have e : (Int64.ofInt 255).toBitVec = 255#64 := by decide
  rw [e]
  generalize z.toBitVec = b
  have h1 : (b &&& 255#64).toNat = b.toNat % 256 := by
    rw [BitVec.toNat_and]
    exact Nat.and_two_pow_sub_one_eq_mod b.toNat 8
  rw [BitVec.toInt_eq_toNat_cond, BitVec.toInt_eq_toNat_cond, h1]
  have := b.isLt
  split <;> split <;> omega
theorem lsh_and (e k : Int) : mm_w32 (Int64.ofInt (lsh e k) &&& Int64.ofInt 255).toInt = bt e k := by
  rw [i64and]
  have h := lsh_r e k
  rw [Int64.toInt_ofInt_of_le h.1 h.2, mm_w32_id (by omega)]
  rfl
theorem lsh_byte (e k : Int) : (-128 ≤ Int.bmod (mm_w32 (lsh e k)) 256 ∧ Int.bmod (mm_w32 (lsh e k)) 256 ≤ 127) ∧ Int.bmod (mm_w32 (lsh e k)) 256 % 256 = bt e k := by
  have h1 := Int.le_bmod (x := mm_w32 (lsh e k)) (m := 256) (by decide)
  have h2 := Int.bmod_lt (x := mm_w32 (lsh e k)) (m := 256) (by decide)
  refine ⟨⟨by omega, by omega⟩, ?_⟩
  unfold bt mm_w32
  rw [show (256 : Int) = ((256 : Nat) : Int) from rfl, Int.bmod_emod]
  generalize lsh e k = z
  rw [Int.bmod_def]
  split <;> omega

set_option maxRecDepth 20000 in
set_option maxHeartbeats 4000000 in
theorem c_Tp_add (S : mm_S) (v : Int) (hl : 0 ≤ S 19 0 ∧ S 19 0 < 200) (hv : -128 ≤ v ∧ v ≤ 127) : Cl 169 [(2, 19), (0, v)] S (fun w S' => w = none ∧ S' = mm_up (mm_up S 20 (S 19 0) v) 19 0 (S 19 0 + 1)) := by
  refine ⟨Nat.le_of_ble_eq_true rfl, ?_⟩
  show Rn k_Tp_add 0 [(2, 19), (0, v)] [] S _
  refine R_lo (nx := 1) rfl rfl rfl rfl ?_
  refine R_get (nx := 4) (w := (0, (S 19 0))) rfl rfl rfl rfl ?_
  refine R_if (nx := 7) (tg := 37) rfl rfl rfl (mm_cnd_lt _ _) (fun c4 => ?_) (fun c4 => ?_)
  ·
    exfalso
    omega
  ·
    refine R_lo (nx := 8) rfl rfl rfl rfl ?_
    refine R_get (nx := 11) (w := (0, (S 19 0))) rfl rfl rfl rfl ?_
    refine R_op (nx := 14) rfl rfl rfl ?_
    refine R_icmp (nx := 17) (tg := 37) rfl rfl rfl (mm_cnd_ge _ _) (fun c14 => ?_) (fun c14 => ?_)
    ·
      exfalso
      omega
    ·
      refine R_lo (nx := 18) rfl rfl rfl rfl ?_
      refine R_get (nx := 21) (w := (2, 20)) rfl rfl rfl rfl ?_
      refine R_lo (nx := 22) rfl rfl rfl rfl ?_
      refine R_get (nx := 25) (w := (0, (S 19 0))) rfl rfl rfl rfl ?_
      refine R_lo (nx := 26) rfl rfl rfl rfl ?_
      refine R_bast (nx := 27) rfl rfl (mm_el_ok 3 200 (by decide) rfl (by decide) (by omega) (by omega)) (by show decide _ = true; exact decide_eq_true (by omega)) ?_
      refine R_lo (nx := 28) rfl rfl rfl rfl ?_
      refine R_op (nx := 29) rfl rfl rfl ?_
      refine R_get (nx := 32) (w := (0, ((mm_up S 20 (S 19 0) v) 19 0))) rfl rfl rfl rfl ?_
      rw [show (mm_up S 20 (S 19 0) v) 19 0 = S 19 0 from by rw [mm_unq (by decide)]]
      refine R_op (nx := 33) rfl rfl rfl ?_
      refine R_iadd (nx := 34) (z := ((S 19 0) + 1)) rfl rfl rfl ⟨by omega, by omega⟩ ?_
      refine R_put (nx := 37) (kk := 0) rfl rfl rfl rfl rfl ?_
      refine R_ret rfl (fun _ _ => rfl) rfl rfl ?_
      exact ⟨rfl, rfl⟩

set_option maxRecDepth 20000 in
set_option maxHeartbeats 4000000 in
theorem c_P_feed (S : mm_S) (A : mm_A) (hRC : RC S A) (hV : Vs A) (e n : Int) (he : mm_r64 e) (hn : mm_r32 n) : Cl 7 [(2, 0), (1, e), (0, n)] S (fun vv S' => vv = some (0, (Q_feed A e n).1) ∧ RC S' (Q_feed A e n).2 ∧ ∀ b, 71 ≤ b → S' b = S b) := by
  refine ⟨Nat.le_of_ble_eq_true rfl, ?_⟩
  show Rn k_P_feed 0 [(2, 0), (1, e), (9, 0), (0, n), (9, 0)] [] S _
  obtain ⟨hL, hB⟩ := hRC.2.2.2.2.1
  have hL2 := hV.2.2.2.1
  refine R_lo (nx := 1) rfl rfl rfl rfl ?_
  refine R_op (nx := 2) rfl rfl rfl ?_
  refine R_icmp (nx := 5) (tg := 11) rfl rfl rfl (mm_cnd_lt _ _) (fun c2 => ?_) (fun c2 => ?_)
  ·
    refine R_op (nx := 12) rfl rfl rfl ?_
    refine R_ret rfl (fun _ _ => rfl) rfl rfl ?_
    rw [show Q_feed A e n = ((-1), A) from by unfold Q_feed; first | rw [if_pos (by omega)] | rw [if_neg (by omega), if_pos (by omega)] | rw [if_neg (by omega), if_neg (by omega)]]; exact ⟨rfl, hRC, fun b _ => rfl⟩
  ·
    refine R_lo (nx := 6) rfl rfl rfl rfl ?_
    refine R_op (nx := 8) rfl rfl rfl ?_
    refine R_icmp (nx := 11) (tg := 13) rfl rfl rfl (mm_cnd_le _ _) (fun c8 => ?_) (fun c8 => ?_)
    ·
      refine R_lo (nx := 14) rfl rfl rfl rfl ?_
      refine R_op (nx := 17) rfl rfl rfl ?_
      refine R_lo (nx := 18) rfl rfl rfl rfl ?_
      refine R_get (nx := 21) (w := (2, 19)) rfl rfl rfl rfl ?_
      refine R_get (nx := 24) (w := (0, (S 19 0))) rfl rfl rfl rfl ?_
      rw [hL]
      refine R_isub (nx := 25) (z := (200 - (AL A))) rfl rfl rfl ⟨by omega, by omega⟩ ?_
      refine R_icmp (nx := 28) (tg := 31) rfl rfl rfl (mm_cnd_le _ _) (fun c25 => ?_) (fun c25 => ?_)
      ·
        refine R_op (nx := 32) rfl rfl rfl ?_
        refine R_lo (nx := 34) (ls' := [(2, 0), (1, e), (9, 0), (0, n), (0, 0)]) rfl rfl rfl rfl ?_
        have L34 : ∀ (f34 : Nat) (S1 : mm_S) (i : Int), (n - i).toNat < f34 → (0 ≤ i ∧ i ≤ n) → (S1 19 0 = AL A + i) → (∀ j, 0 ≤ j → j < AL A + i → (-128 ≤ S1 20 j ∧ S1 20 j ≤ 127) ∧ S1 20 j % 256 = if j < AL A then AT A j else bt e (j - AL A)) → (∀ b, b ≠ 19 → b ≠ 20 → S1 b = S b) → Rn k_P_feed 34 [(2, 0), (1, e), (9, 0), (0, n), (0, i)] [] S1 (fun vv S' => vv = some (0, (Q_feed A e n).1) ∧ RC S' (Q_feed A e n).2 ∧ ∀ b, 71 ≤ b → S' b = S b) := by
          intro f34
          induction f34 with
          | zero => intro S1 i hm34; exact absurd hm34 (Nat.not_lt_zero _)
          | succ f34 ih34 =>
            intro S1 i hm34 hi h19 hb hF
            refine R_lo (nx := 36) rfl rfl rfl rfl ?_
            refine R_lo (nx := 37) rfl rfl rfl rfl ?_
            refine R_icmp (nx := 40) (tg := 62) rfl rfl rfl (mm_cnd_ge _ _) (fun c37 => ?_) (fun c37 => ?_)
            ·
              refine R_lo (nx := 63) rfl rfl rfl rfl ?_
              refine R_get (nx := 66) (w := (2, 19)) rfl rfl rfl rfl ?_
              refine R_get (nx := 69) (w := (0, (S1 19 0))) rfl rfl rfl rfl ?_
              rw [show S1 19 0 = AL A + n from by rw [h19, show i = n by omega]]
              refine R_ret rfl (fun _ _ => rfl) rfl rfl ?_
              rw [show Q_feed A e n = ((AL A + n), Atp A (AL A + n) (fun j => if j < AL A then AT A j else bt e (j - AL A))) from by unfold Q_feed; first | rw [if_pos (by omega)] | rw [if_neg (by omega), if_pos (by omega)] | rw [if_neg (by omega), if_neg (by omega)]]; exact ⟨rfl, hRC.tp (by rw [h19, show i = n by omega]) (fun j p q => hb j p (by omega)) fun b hb => hF b (by omega) (by omega), fun b hb => hF b (by omega) (by omega)⟩
            ·
              refine R_lo (nx := 41) rfl rfl rfl rfl ?_
              refine R_get (nx := 44) (w := (2, 19)) rfl rfl rfl rfl ?_
              refine R_lo (nx := 45) rfl rfl rfl rfl ?_
              refine R_op (nx := 47) rfl rfl rfl ?_
              refine R_lo (nx := 49) rfl rfl rfl rfl ?_
              refine R_imul (nx := 50) (z := (8 * i)) rfl rfl rfl ⟨by omega, by omega⟩ ?_
              refine R_op (nx := 51) (st' := [(1, (Int64.ofInt e >>> ((Int32.ofInt (8 * i)).toInt64 &&& 63)).toInt), (2, 19)]) rfl rfl rfl ?_
              refine R_op (nx := 52) (st' := [(0, (mm_w32 (Int64.ofInt e >>> ((Int32.ofInt (8 * i)).toInt64 &&& 63)).toInt)), (2, 19)]) rfl rfl rfl ?_
              refine R_op (nx := 53) (st' := [(0, (Int.bmod (mm_w32 (Int64.ofInt e >>> ((Int32.ofInt (8 * i)).toInt64 &&& 63)).toInt) 256)), (2, 19)]) rfl rfl rfl ?_
              refine R_call0 (nx := 56) (as := [(2, 19), (0, (Int.bmod (mm_w32 (Int64.ofInt e >>> ((Int32.ofInt (8 * i)).toInt64 &&& 63)).toInt) 256))]) (rest := []) rfl rfl (fun _ _ => rfl) rfl rfl rfl rfl rfl rfl rfl rfl (Cl.mono (c_Tp_add S1 (Int.bmod (mm_w32 (Int64.ofInt e >>> ((Int32.ofInt (8 * i)).toInt64 &&& 63)).toInt) 256) (by omega) (lsh_byte e i).1) ?_)
              rintro _ _ ⟨rfl, rfl⟩
              refine ⟨rfl, ?_⟩
              refine R_iinc (nx := 59) (z := (i + 1)) (ls' := [(2, 0), (1, e), (9, 0), (0, n), (0, (i + 1))]) rfl rfl rfl rfl ⟨by omega, by omega⟩ rfl ?_
              refine R_op (nx := 62) (pc' := 34) rfl rfl rfl ?_
              refine Rn.weak (ls' := [(2, 0), (1, e), (9, 0), (0, n), (0, (i + 1))]) ⟨Or.inl rfl, ⟨Or.inl rfl, ⟨Or.inl rfl, ⟨Or.inl rfl, ⟨Or.inl rfl, trivial⟩⟩⟩⟩⟩ ?_
              refine ih34 ((mm_up (mm_up S1 20 (S1 19 0) (Int.bmod (mm_w32 (Int64.ofInt e >>> ((Int32.ofInt (8 * i)).toInt64 &&& 63)).toInt) 256)) 19 0 (S1 19 0 + 1))) ((i + 1)) ?_ ?_ ?_ ?_ ?_
              · omega
              · omega
              · rw [mm_ua, h19, Int.add_assoc]
              · intro j p q
                rw [mm_unq (by decide), h19]
                by_cases e2 : j = AL A + i
                · rw [e2, mm_ua, if_neg (by omega), show AL A + i - AL A = i by omega]; exact lsh_byte e i
                · rw [mm_uk e2]; exact hb j p (by omega)
              · intro b hb hc; rw [mm_unq hb, mm_unq hc]; exact hF b hb hc
        refine Rn.weak (ls' := [(2, 0), (1, e), (9, 0), (0, n), (0, 0)]) ⟨Or.inl rfl, ⟨Or.inl rfl, ⟨Or.inl rfl, ⟨Or.inl rfl, ⟨Or.inl rfl, trivial⟩⟩⟩⟩⟩ ?_
        refine L34 ((n - (0)).toNat + 1) (S) (0) (Nat.lt_succ_self _) ?_ ?_ ?_ ?_
        · omega
        · rw [hL, Int.add_zero]
        · intro j p q; rw [if_pos (by omega)]; exact hB j p (by omega)
        · intro b hb hc; rfl
      ·
        refine R_op (nx := 30) rfl rfl rfl ?_
        refine R_ret rfl (fun _ _ => rfl) rfl rfl ?_
        rw [show Q_feed A e n = ((-2), A) from by unfold Q_feed; first | rw [if_pos (by omega)] | rw [if_neg (by omega), if_pos (by omega)] | rw [if_neg (by omega), if_neg (by omega)]]; exact ⟨rfl, hRC, fun b _ => rfl⟩
    ·
      refine R_op (nx := 12) rfl rfl rfl ?_
      refine R_ret rfl (fun _ _ => rfl) rfl rfl ?_
      rw [show Q_feed A e n = ((-1), A) from by unfold Q_feed; first | rw [if_pos (by omega)] | rw [if_neg (by omega), if_pos (by omega)] | rw [if_neg (by omega), if_neg (by omega)]]; exact ⟨rfl, hRC, fun b _ => rfl⟩

set_option maxRecDepth 20000 in
set_option maxHeartbeats 4000000 in
theorem c_M_feed (S : mm_S) (A : mm_A) (hRR : RR S A) (hV : Vs A) (e n : Int) (he : mm_r64 e) (hn : mm_r32 n) : Cl 98 [(2, 71), (1, e), (0, n)] S (fun vv S' => vv = some (0, (Q_feed A e n).1) ∧ RR S' (Q_feed A e n).2 ∧ ∀ b, ¬ (71 ≤ b ∧ b < 91) → S' b = S b) := by
  refine ⟨Nat.le_of_ble_eq_true rfl, ?_⟩
  show Rn k_M_feed 0 [(2, 71), (1, e), (9, 0), (0, n), (9, 0)] [] S _
  obtain ⟨hL, hB⟩ := hRR.2.2.2.2.1
  have hL2 := hV.2.2.2.1
  refine R_lo (nx := 1) rfl rfl rfl rfl ?_
  refine R_op (nx := 2) rfl rfl rfl ?_
  refine R_op (nx := 4) rfl rfl rfl ?_
  refine R_call1 (nx := 7) (as := [(0, n), (0, 1), (0, 8)]) (rest := []) rfl rfl (fun _ _ => rfl) rfl rfl rfl rfl rfl rfl rfl rfl (Cl.mono (c_M_in S n 1 8) ?_)
  rintro _ _ (⟨rfl, b4, rfl⟩ | ⟨rfl, b4, rfl⟩)
  ·
    refine ⟨_, rfl, ?_⟩
    refine R_ifT (tg := 12) rfl rfl rfl ?_
    refine R_lo (nx := 13) rfl rfl rfl rfl ?_
    refine R_get (nx := 16) (w := (0, (S 71 21))) rfl rfl rfl rfl ?_
    rw [hL]
    refine R_lo (nx := 17) rfl rfl rfl rfl ?_
    refine R_iadd (nx := 18) (z := ((AL A) + n)) rfl rfl rfl ⟨by omega, by omega⟩ ?_
    refine R_op (nx := 21) rfl rfl rfl ?_
    refine R_icmp (nx := 24) (tg := 27) rfl rfl rfl (mm_cnd_le _ _) (fun c21 => ?_) (fun c21 => ?_)
    ·
      refine R_op (nx := 28) rfl rfl rfl ?_
      refine R_lo (nx := 30) (ls' := [(2, 71), (1, e), (9, 0), (0, n), (0, 0)]) rfl rfl rfl rfl ?_
      have L30 : ∀ (f30 : Nat) (S1 : mm_S) (i : Int), (n - i).toNat < f30 → (0 ≤ i ∧ i ≤ n) → (S1 71 21 = AL A + i) → (∀ j, 0 ≤ j → j < AL A + i → S1 85 j = if j < AL A then AT A j else bt e (j - AL A)) → (∀ k, k ≠ 21 → S1 71 k = S 71 k) → (∀ b, b ≠ 71 → b ≠ 85 → S1 b = S b) → Rn k_M_feed 30 [(2, 71), (1, e), (9, 0), (0, n), (0, i)] [] S1 (fun vv S' => vv = some (0, (Q_feed A e n).1) ∧ RR S' (Q_feed A e n).2 ∧ ∀ b, ¬ (71 ≤ b ∧ b < 91) → S' b = S b) := by
        intro f30
        induction f30 with
        | zero => intro S1 i hm30; exact absurd hm30 (Nat.not_lt_zero _)
        | succ f30 ih30 =>
          intro S1 i hm30 hi h21 hb hq hF
          refine R_lo (nx := 32) rfl rfl rfl rfl ?_
          refine R_lo (nx := 33) rfl rfl rfl rfl ?_
          refine R_icmp (nx := 36) (tg := 73) rfl rfl rfl (mm_cnd_ge _ _) (fun c33 => ?_) (fun c33 => ?_)
          ·
            refine R_lo (nx := 74) rfl rfl rfl rfl ?_
            refine R_get (nx := 77) (w := (0, (S1 71 21))) rfl rfl rfl rfl ?_
            rw [show S1 71 21 = AL A + n from by rw [h21, show i = n by omega]]
            refine R_ret rfl (fun _ _ => rfl) rfl rfl ?_
            rw [show Q_feed A e n = ((AL A + n), Atp A (AL A + n) (fun j => if j < AL A then AT A j else bt e (j - AL A))) from by unfold Q_feed; first | rw [if_pos (by omega)] | rw [if_neg (by omega), if_pos (by omega)] | rw [if_neg (by omega), if_neg (by omega)]]; exact ⟨rfl, hRR.tp (by rw [h21, show i = n by omega]) (fun j p q => hb j p (by omega)) (hq 8 (by decide)) (hq 9 (by decide)) (hq 10 (by decide)) (hq 11 (by decide)) fun b hb => hF b (by omega) (by omega), fun b hb => hF b (by omega) (by omega)⟩
          ·
            refine R_lo (nx := 37) rfl rfl rfl rfl ?_
            refine R_get (nx := 40) (w := (2, 85)) rfl rfl rfl rfl ?_
            refine R_lo (nx := 41) rfl rfl rfl rfl ?_
            refine R_get (nx := 44) (w := (0, (S1 71 21))) rfl rfl rfl rfl ?_
            rw [h21]
            refine R_lo (nx := 45) rfl rfl rfl rfl ?_
            refine R_op (nx := 47) rfl rfl rfl ?_
            refine R_lo (nx := 49) rfl rfl rfl rfl ?_
            refine R_imul (nx := 50) (z := (8 * i)) rfl rfl rfl ⟨by omega, by omega⟩ ?_
            refine R_op (nx := 51) (st' := [(1, (Int64.ofInt e >>> ((Int32.ofInt (8 * i)).toInt64 &&& 63)).toInt), (0, (AL A + i)), (2, 85)]) rfl rfl rfl ?_
            refine R_op (nx := 54) rfl rfl rfl ?_
            refine R_op (nx := 55) (st' := [(1, (Int64.ofInt (Int64.ofInt e >>> ((Int32.ofInt (8 * i)).toInt64 &&& 63)).toInt &&& Int64.ofInt 255).toInt), (0, (AL A + i)), (2, 85)]) rfl rfl rfl ?_
            refine R_cv (w := (Int64.ofInt (lsh e i) &&& Int64.ofInt 255).toInt) (by rfl) ?_
            refine R_op (nx := 56) (st' := [(0, (mm_w32 (Int64.ofInt (lsh e i) &&& Int64.ofInt 255).toInt)), (0, (AL A + i)), (2, 85)]) rfl rfl rfl ?_
            refine R_cv (w := (bt e i)) (by exact lsh_and e i) ?_
            refine R_iast (nx := 57) rfl rfl (mm_el_ok 1 200 (by decide) rfl (by decide) (by omega) (by omega)) ?_
            refine R_lo (nx := 58) rfl rfl rfl rfl ?_
            refine R_op (nx := 59) rfl rfl rfl ?_
            refine R_get (nx := 62) (w := (0, ((mm_up S1 85 (AL A + i) (bt e i)) 71 21))) rfl rfl rfl rfl ?_
            rw [mm_unq (by decide), h21]
            refine R_op (nx := 63) rfl rfl rfl ?_
            refine R_iadd (nx := 64) (z := ((AL A + i) + 1)) rfl rfl rfl ⟨by omega, by omega⟩ ?_
            refine R_put (nx := 67) (kk := 21) rfl rfl rfl rfl rfl ?_
            refine R_iinc (nx := 70) (z := (i + 1)) (ls' := [(2, 71), (1, e), (9, 0), (0, n), (0, (i + 1))]) rfl rfl rfl rfl ⟨by omega, by omega⟩ rfl ?_
            refine R_op (nx := 73) (pc' := 30) rfl rfl rfl ?_
            refine Rn.weak (ls' := [(2, 71), (1, e), (9, 0), (0, n), (0, (i + 1))]) ⟨Or.inl rfl, ⟨Or.inl rfl, ⟨Or.inl rfl, ⟨Or.inl rfl, ⟨Or.inl rfl, trivial⟩⟩⟩⟩⟩ ?_
            refine ih30 ((mm_up (mm_up S1 85 (AL A + i) (bt e i)) 71 21 ((AL A + i) + 1))) ((i + 1)) ?_ ?_ ?_ ?_ ?_ ?_
            · omega
            · omega
            · rw [mm_ua, Int.add_assoc]
            · intro j p q
              rw [mm_unq (by decide)]
              by_cases e2 : j = AL A + i
              · rw [e2, mm_ua, if_neg (by omega), show AL A + i - AL A = i by omega]
              · rw [mm_uk e2]; exact hb j p (by omega)
            · intro k hk; rw [mm_uk hk, mm_unq (by decide)]; exact hq k hk
            · intro b hb hc; rw [mm_unq hb, mm_unq hc]; exact hF b hb hc
      refine Rn.weak (ls' := [(2, 71), (1, e), (9, 0), (0, n), (0, 0)]) ⟨Or.inl rfl, ⟨Or.inl rfl, ⟨Or.inl rfl, ⟨Or.inl rfl, ⟨Or.inl rfl, trivial⟩⟩⟩⟩⟩ ?_
      refine L30 ((n - (0)).toNat + 1) (S) (0) (Nat.lt_succ_self _) ?_ ?_ ?_ ?_ ?_
      · omega
      · rw [hL, Int.add_zero]
      · intro j p q; rw [if_pos (by omega)]; exact hB j p (by omega)
      · intro k hk; rfl
      · intro b hb hc; rfl
    ·
      refine R_op (nx := 26) rfl rfl rfl ?_
      refine R_ret rfl (fun _ _ => rfl) rfl rfl ?_
      rw [show Q_feed A e n = ((-2), A) from by unfold Q_feed; first | rw [if_pos (by omega)] | rw [if_neg (by omega), if_pos (by omega)] | rw [if_neg (by omega), if_neg (by omega)]]; exact ⟨rfl, hRR, fun b _ => rfl⟩
  ·
    refine ⟨_, rfl, ?_⟩
    refine R_ifF (nx := 10) rfl rfl rfl ?_
    refine R_op (nx := 11) rfl rfl rfl ?_
    refine R_ret rfl (fun _ _ => rfl) rfl rfl ?_
    rw [show Q_feed A e n = ((-1), A) from by unfold Q_feed; first | rw [if_pos (by omega)] | rw [if_neg (by omega), if_pos (by omega)] | rw [if_neg (by omega), if_neg (by omega)]]; exact ⟨rfl, hRR, fun b _ => rfl⟩
