/-! Rows. -/
def cutv (so v : Int) : Int := if so = 0 then Int.bmod (mm_w32 v) 256 else if so = 1 then mm_w32 v else v
def Outs (sz j n : Int) : Prop := n < 0 ∨ j < 0 ∨ sz < j + n
def Outs_dec (sz j n : Int) : Decidable (Outs sz j n) := by unfold Outs; infer_instance
def ifo {α : Type} (sz j n : Int) (a b : α) : α := @ite α (Outs sz j n) (Outs_dec sz j n) a b
def Q_sheet (A : mm_A) (i so n : Int) : Int × mm_A := if 0 ≤ i ∧ i < 4 then (if so = -1 then (1, Ash A i (-1, 0, fun _ => 0)) else if 0 ≤ so ∧ so ≤ 2 then (if 40 < n then (-1, A) else if n < 0 then (-14, A) else (1, Ash A i (so, n, fun _ => 0))) else (-1, A)) else (-1, A)
def Q_put (A : mm_A) (i j v : Int) : Int × mm_A := if 0 ≤ i ∧ i < 4 then (if Aso A i = -1 then (-11, A) else ifo (Asz A i) j 1 (-12, A) (1, Ash A i (Aso A i, Asz A i, fun k => if k = j then cutv (Aso A i) v else Apl A i k))) else (-1, A)
def Q_item (A : mm_A) (i so j : Int) : Int × mm_A := if 0 ≤ i ∧ i < 4 then (if 0 ≤ so ∧ so ≤ 2 then (if Aso A i = -1 then (-11, A) else if Aso A i = so then (ifo (Asz A i) j 1 (-12, A) (mm_w32 (Apl A i j), A)) else (-13, A)) else (-1, A)) else (-1, A)
def Q_copy (A : mm_A) (i j o k n : Int) : Int × mm_A := if 0 ≤ i ∧ i < 4 then (if 0 ≤ o ∧ o < 4 then (if Aso A i = -1 then (-11, A) else if Aso A o = -1 then (-11, A) else if Aso A i = Aso A o then (ifo (Asz A i) j n (-12, A) (ifo (Asz A o) k n (-12, A) (n, Ash A o (Aso A o, Asz A o, fun p => if k ≤ p ∧ p < k + n then Apl A i (j + (p - k)) else Apl A o p)))) else (-13, A)) else (-1, A)) else (-1, A)
/-- the class's row at a cell -/
def MS (S : mm_S) (a so sz : Int) (pl : Int → Int) : Prop := S a 0 = so ∧ S a 1 = sz ∧ ∀ j, 0 ≤ j → j < 40 → S (a + 1) j = pl j

set_option maxRecDepth 20000 in
set_option maxHeartbeats 4000000 in
theorem c_Sh_become (S : mm_S) (a : Int) (hA : mm_isS a) (so n : Int) : Cl 164 [(2, a), (0, so), (0, n)] S (fun v S' => v = none ∧ MS S' a so n (fun _ => 0) ∧ ∀ b, ¬ (a ≤ b ∧ b ≤ a + 1) → S' b = S b) := by
  refine ⟨Nat.le_of_ble_eq_true rfl, ?_⟩
  show Rn k_Sh_become 0 [(2, a), (0, so), (0, n)] [] S _
  refine R_lo (nx := 1) rfl rfl rfl rfl ?_
  refine R_lo (nx := 2) rfl rfl rfl rfl ?_
  refine R_put (nx := 5) (kk := 0) rfl rfl (isS_ob hA) rfl rfl ?_
  refine R_lo (nx := 6) rfl rfl rfl rfl ?_
  refine R_lo (nx := 7) rfl rfl rfl rfl ?_
  refine R_put (nx := 10) (kk := 1) rfl rfl (isS_ob hA) rfl rfl ?_
  refine R_lo (nx := 11) rfl rfl rfl rfl ?_
  refine R_get (nx := 14) (w := (2, (a + 1))) rfl rfl (isS_ob hA) rfl ?_
  refine R_op (nx := 15) (st' := [(1, 0), (2, (a + 1))]) rfl rfl rfl ?_
  refine R_call0 (nx := 18) (as := [(2, (a + 1)), (1, 0)]) (rest := []) rfl rfl (fun _ _ => rfl) rfl rfl rfl rfl rfl rfl rfl rfl (Cl.mono (c_Ar_fillL (mm_up (mm_up S a 0 so) a 1 n) (a + 1) 40 ⟨by have := (isS_kd hA).1; omega, (isS_kd hA).2.2⟩ (by decide) 0) ?_)
  rintro _ S15 ⟨rfl, h15, f15⟩
  refine ⟨rfl, ?_⟩
  refine R_ret rfl (fun _ _ => rfl) rfl rfl ?_
  refine ⟨rfl, ⟨?_, ?_, fun j p q => h15 j p q⟩, fun b hb => ?_⟩
  · rw [f15 a (by omega), mm_uk (by decide), mm_ua]
  · rw [f15 a (by omega), mm_ua]
  · rw [f15 b (by omega), mm_unq (by omega), mm_unq (by omega)]

set_option maxRecDepth 20000 in
set_option maxHeartbeats 4000000 in
theorem c_Sh_isOutside (S : mm_S) (a : Int) (hA : mm_isS a) (sz j n : Int) (h : S a 1 = sz) (hz : 0 ≤ sz ∧ sz ≤ 40) (hj : mm_r32 j) : Cl 165 [(2, a), (0, j), (0, n)] S (fun v S' => (v = some (0, 1) ∧ Outs sz j n ∧ S = S') ∨ (v = some (0, 0) ∧ ¬ Outs sz j n ∧ S = S')) := by
  refine ⟨Nat.le_of_ble_eq_true rfl, ?_⟩
  show Rn k_Sh_isOutside 0 [(2, a), (0, j), (0, n)] [] S _
  have hj1 := hj.1
  have hj2 := hj.2
  refine R_lo (nx := 1) rfl rfl rfl rfl ?_
  refine R_if (nx := 4) (tg := 18) rfl rfl rfl (mm_cnd_lt _ _) (fun c1 => ?_) (fun c1 => ?_)
  ·
    refine R_op (nx := 19) rfl rfl rfl ?_
    refine R_op (nx := 22) (pc' := 23) rfl rfl rfl ?_
    refine R_ret rfl (fun _ _ => rfl) rfl rfl ?_
    unfold Outs
    first | exact Or.inl ⟨rfl, by omega, rfl⟩ | exact Or.inr ⟨rfl, by omega, rfl⟩
  ·
    refine R_lo (nx := 5) rfl rfl rfl rfl ?_
    refine R_if (nx := 8) (tg := 18) rfl rfl rfl (mm_cnd_lt _ _) (fun c5 => ?_) (fun c5 => ?_)
    ·
      refine R_op (nx := 19) rfl rfl rfl ?_
      refine R_op (nx := 22) (pc' := 23) rfl rfl rfl ?_
      refine R_ret rfl (fun _ _ => rfl) rfl rfl ?_
      unfold Outs
      first | exact Or.inl ⟨rfl, by omega, rfl⟩ | exact Or.inr ⟨rfl, by omega, rfl⟩
    ·
      refine R_lo (nx := 9) rfl rfl rfl rfl ?_
      refine R_lo (nx := 10) rfl rfl rfl rfl ?_
      refine R_get (nx := 13) (w := (0, (S a 1))) rfl rfl (isS_ob hA) rfl ?_
      refine R_lo (nx := 14) rfl rfl rfl rfl ?_
      refine R_isub (nx := 15) (z := ((S a 1) - j)) rfl rfl rfl ⟨by omega, by omega⟩ ?_
      refine R_icmp (nx := 18) (tg := 22) rfl rfl rfl (mm_cnd_le _ _) (fun c15 => ?_) (fun c15 => ?_)
      ·
        refine R_op (nx := 23) rfl rfl rfl ?_
        refine R_ret rfl (fun _ _ => rfl) rfl rfl ?_
        unfold Outs
        first | exact Or.inl ⟨rfl, by omega, rfl⟩ | exact Or.inr ⟨rfl, by omega, rfl⟩
      ·
        refine R_op (nx := 19) rfl rfl rfl ?_
        refine R_op (nx := 22) (pc' := 23) rfl rfl rfl ?_
        refine R_ret rfl (fun _ _ => rfl) rfl rfl ?_
        unfold Outs
        first | exact Or.inl ⟨rfl, by omega, rfl⟩ | exact Or.inr ⟨rfl, by omega, rfl⟩

set_option maxRecDepth 20000 in
set_option maxHeartbeats 4000000 in
theorem c_Sh_get (S : mm_S) (a : Int) (hA : mm_isS a) (j : Int) (hj : 0 ≤ j ∧ j < S a 1) (hz : S a 1 ≤ 40) : Cl 166 [(2, a), (0, j)] S (fun v S' => v = some (1, S (a + 1) j) ∧ S = S') := by
  refine ⟨Nat.le_of_ble_eq_true rfl, ?_⟩
  show Rn k_Sh_get 0 [(2, a), (0, j)] [] S _
  refine R_lo (nx := 1) rfl rfl rfl rfl ?_
  refine R_if (nx := 4) (tg := 27) rfl rfl rfl (mm_cnd_lt _ _) (fun c1 => ?_) (fun c1 => ?_)
  ·
    exfalso
    omega
  ·
    refine R_lo (nx := 5) rfl rfl rfl rfl ?_
    refine R_lo (nx := 6) rfl rfl rfl rfl ?_
    refine R_get (nx := 9) (w := (0, (S a 1))) rfl rfl (isS_ob hA) rfl ?_
    refine R_icmp (nx := 12) (tg := 27) rfl rfl rfl (mm_cnd_ge _ _) (fun c9 => ?_) (fun c9 => ?_)
    ·
      exfalso
      omega
    ·
      refine R_lo (nx := 13) rfl rfl rfl rfl ?_
      refine R_op (nx := 15) rfl rfl rfl ?_
      refine R_icmp (nx := 18) (tg := 27) rfl rfl rfl (mm_cnd_ge _ _) (fun c15 => ?_) (fun c15 => ?_)
      ·
        exfalso
        omega
      ·
        refine R_lo (nx := 19) rfl rfl rfl rfl ?_
        refine R_get (nx := 22) (w := (2, (a + 1))) rfl rfl (isS_ob hA) rfl ?_
        refine R_lo (nx := 23) rfl rfl rfl rfl ?_
        refine R_lald (nx := 24) rfl rfl (isS_el hA (by omega) (by omega)) ?_
        refine R_op (nx := 27) (pc' := 28) rfl rfl rfl ?_
        refine R_ret rfl (fun _ _ => rfl) rfl rfl ?_
        exact ⟨rfl, rfl⟩

set_option maxRecDepth 20000 in
set_option maxHeartbeats 4000000 in
theorem c_Sh_set (S : mm_S) (a : Int) (hA : mm_isS a) (j z : Int) (hj : 0 ≤ j ∧ j < S a 1) (hz : S a 1 ≤ 40) : Cl 167 [(2, a), (0, j), (1, z)] S (fun v S' => v = none ∧ S' = mm_up S (a + 1) j (cutv (S a 0) z)) := by
  refine ⟨Nat.le_of_ble_eq_true rfl, ?_⟩
  show Rn k_Sh_set 0 [(2, a), (0, j), (1, z), (9, 0)] [] S _
  refine R_lo (nx := 1) rfl rfl rfl rfl ?_
  refine R_if (nx := 4) (tg := 53) rfl rfl rfl (mm_cnd_lt _ _) (fun c1 => ?_) (fun c1 => ?_)
  ·
    exfalso
    omega
  ·
    refine R_lo (nx := 5) rfl rfl rfl rfl ?_
    refine R_lo (nx := 6) rfl rfl rfl rfl ?_
    refine R_get (nx := 9) (w := (0, (S a 1))) rfl rfl (isS_ob hA) rfl ?_
    refine R_icmp (nx := 12) (tg := 53) rfl rfl rfl (mm_cnd_ge _ _) (fun c9 => ?_) (fun c9 => ?_)
    ·
      exfalso
      omega
    ·
      refine R_lo (nx := 13) rfl rfl rfl rfl ?_
      refine R_op (nx := 15) rfl rfl rfl ?_
      refine R_icmp (nx := 18) (tg := 53) rfl rfl rfl (mm_cnd_ge _ _) (fun c15 => ?_) (fun c15 => ?_)
      ·
        exfalso
        omega
      ·
        refine R_lo (nx := 19) rfl rfl rfl rfl ?_
        refine R_get (nx := 22) (w := (2, (a + 1))) rfl rfl (isS_ob hA) rfl ?_
        refine R_lo (nx := 23) rfl rfl rfl rfl ?_
        refine R_lo (nx := 24) rfl rfl rfl rfl ?_
        refine R_get (nx := 27) (w := (0, (S a 0))) rfl rfl (isS_ob hA) rfl ?_
        refine R_if (nx := 30) (tg := 37) rfl rfl rfl (mm_cnd_ne _ _) (fun c27 => ?_) (fun c27 => ?_)
        ·
          refine R_lo (nx := 38) rfl rfl rfl rfl ?_
          refine R_get (nx := 41) (w := (0, (S a 0))) rfl rfl (isS_ob hA) rfl ?_
          refine R_op (nx := 42) rfl rfl rfl ?_
          refine R_icmp (nx := 45) (tg := 51) rfl rfl rfl (mm_cnd_ne _ _) (fun c42 => ?_) (fun c42 => ?_)
          ·
            refine R_lo (nx := 52) rfl rfl rfl rfl ?_
            refine R_last (nx := 53) rfl rfl (isS_el hA (by omega) (by omega)) ?_
            refine R_ret rfl (fun _ _ => rfl) rfl rfl ?_
            unfold cutv
            first | exact ⟨rfl, by rw [if_pos (by omega)]⟩ | exact ⟨rfl, by rw [if_neg (by omega), if_pos (by omega)]⟩ | exact ⟨rfl, by rw [if_neg (by omega), if_neg (by omega)]⟩
          ·
            replace c42 := Classical.not_not.mp c42
            refine R_lo (nx := 46) rfl rfl rfl rfl ?_
            refine R_op (nx := 47) (st' := [(0, (mm_w32 z)), (0, j), (2, (a + 1))]) rfl rfl rfl ?_
            refine R_op (nx := 48) (st' := [(1, (mm_w32 z)), (0, j), (2, (a + 1))]) rfl rfl rfl ?_
            refine R_op (nx := 51) (pc' := 52) rfl rfl rfl ?_
            refine R_last (nx := 53) rfl rfl (isS_el hA (by omega) (by omega)) ?_
            refine R_ret rfl (fun _ _ => rfl) rfl rfl ?_
            unfold cutv
            first | exact ⟨rfl, by rw [if_pos (by omega)]⟩ | exact ⟨rfl, by rw [if_neg (by omega), if_pos (by omega)]⟩ | exact ⟨rfl, by rw [if_neg (by omega), if_neg (by omega)]⟩
        ·
          replace c27 := Classical.not_not.mp c27
          refine R_lo (nx := 31) rfl rfl rfl rfl ?_
          refine R_op (nx := 32) (st' := [(0, (mm_w32 z)), (0, j), (2, (a + 1))]) rfl rfl rfl ?_
          refine R_op (nx := 33) (st' := [(0, (Int.bmod (mm_w32 z) 256)), (0, j), (2, (a + 1))]) rfl rfl rfl ?_
          refine R_op (nx := 34) (st' := [(1, (Int.bmod (mm_w32 z) 256)), (0, j), (2, (a + 1))]) rfl rfl rfl ?_
          refine R_op (nx := 37) (pc' := 52) rfl rfl rfl ?_
          refine R_last (nx := 53) rfl rfl (isS_el hA (by omega) (by omega)) ?_
          refine R_ret rfl (fun _ _ => rfl) rfl rfl ?_
          unfold cutv
          first | exact ⟨rfl, by rw [if_pos (by omega)]⟩ | exact ⟨rfl, by rw [if_neg (by omega), if_pos (by omega)]⟩ | exact ⟨rfl, by rw [if_neg (by omega), if_neg (by omega)]⟩

set_option maxRecDepth 20000 in
set_option maxHeartbeats 4000000 in
theorem c_Sh_copyPlaces (S : mm_S) (a : Int) (hA : mm_isS a) (b : Int) (hB : mm_isS b) (j k n : Int) (h1 : ¬ Outs (S a 1) j n) (h2 : ¬ Outs (S b 1) k n) (z1 : 0 ≤ S a 1 ∧ S a 1 ≤ 40) (z2 : 0 ≤ S b 1 ∧ S b 1 ≤ 40) (r1 : mm_r32 j) (r2 : mm_r32 k) : Cl 168 [(2, a), (0, j), (2, b), (0, k), (0, n)] S (fun v S' => v = none ∧ S' = mm_cpy S (a + 1) j (b + 1) k n) := by
  refine ⟨Nat.le_of_ble_eq_true rfl, ?_⟩
  show Rn k_Sh_copyPlaces 0 [(2, a), (0, j), (2, b), (0, k), (0, n)] [] S _
  refine R_lo (nx := 1) rfl rfl rfl rfl ?_
  refine R_lo (nx := 2) rfl rfl rfl rfl ?_
  refine R_lo (nx := 4) rfl rfl rfl rfl ?_
  refine R_call1 (nx := 7) (as := [(2, a), (0, j), (0, n)]) (rest := []) rfl rfl (fun _ _ => rfl) rfl rfl rfl rfl rfl rfl (isS_rc hA _) rfl (Cl.mono (c_Sh_isOutside S a hA (S a 1) j n rfl z1 r1) ?_)
  rintro _ _ (⟨rfl, b4, rfl⟩ | ⟨rfl, b4, rfl⟩)
  ·
    exact absurd b4 h1
  ·
    refine ⟨_, rfl, ?_⟩
    refine R_ifF (nx := 10) rfl rfl rfl ?_
    refine R_lo (nx := 11) rfl rfl rfl rfl ?_
    refine R_lo (nx := 12) rfl rfl rfl rfl ?_
    refine R_lo (nx := 14) rfl rfl rfl rfl ?_
    refine R_call1 (nx := 17) (as := [(2, b), (0, k), (0, n)]) (rest := []) rfl rfl (fun _ _ => rfl) rfl rfl rfl rfl rfl rfl (isS_rc hB _) rfl (Cl.mono (c_Sh_isOutside S b hB (S b 1) k n rfl z2 r2) ?_)
    rintro _ _ (⟨rfl, b14, rfl⟩ | ⟨rfl, b14, rfl⟩)
    ·
      exact absurd b14 h2
    ·
      refine ⟨_, rfl, ?_⟩
      refine R_ifF (nx := 20) rfl rfl rfl ?_
      refine R_lo (nx := 21) rfl rfl rfl rfl ?_
      refine R_get (nx := 24) (w := (0, (S a 1))) rfl rfl (isS_ob hA) rfl ?_
      refine R_op (nx := 26) rfl rfl rfl ?_
      refine R_icmp (nx := 29) (tg := 53) rfl rfl rfl (mm_cnd_gt _ _) (fun c26 => ?_) (fun c26 => ?_)
      ·
        exfalso
        omega
      ·
        refine R_lo (nx := 30) rfl rfl rfl rfl ?_
        refine R_get (nx := 33) (w := (0, (S b 1))) rfl rfl (isS_ob hB) rfl ?_
        refine R_op (nx := 35) rfl rfl rfl ?_
        refine R_icmp (nx := 38) (tg := 53) rfl rfl rfl (mm_cnd_gt _ _) (fun c35 => ?_) (fun c35 => ?_)
        ·
          exfalso
          omega
        ·
          refine R_lo (nx := 39) rfl rfl rfl rfl ?_
          refine R_get (nx := 42) (w := (2, (a + 1))) rfl rfl (isS_ob hA) rfl ?_
          refine R_lo (nx := 43) rfl rfl rfl rfl ?_
          refine R_lo (nx := 44) rfl rfl rfl rfl ?_
          refine R_get (nx := 47) (w := (2, (b + 1))) rfl rfl (isS_ob hB) rfl ?_
          refine R_lo (nx := 48) rfl rfl rfl rfl ?_
          refine R_lo (nx := 50) rfl rfl rfl rfl ?_
          refine R_acp (nx := 53) rfl rfl (by obtain ⟨p0, p1, p2⟩ := isS_kd hA; obtain ⟨q0, q1, q2⟩ := isS_kd hB; unfold Outs at h1 h2; rw [p2, q2]; exact ⟨by omega, by omega, by omega, by omega, by omega, by show _ ≤ ((40 : Nat) : Int); omega, by show _ ≤ ((40 : Nat) : Int); omega, rfl, Or.inr rfl, by decide⟩) ?_
          refine R_ret rfl (fun _ _ => rfl) rfl rfl ?_
          exact ⟨rfl, rfl⟩

set_option maxRecDepth 20000 in
set_option maxHeartbeats 4000000 in
theorem c_P_sheet (S : mm_S) (A : mm_A) (hRC : RC S A) (hV : Vs A) (i so n : Int) : Cl 21 [(2, 0), (0, i), (0, so), (0, n)] S (fun vv S' => vv = some (0, (Q_sheet A i so n).1) ∧ RC S' (Q_sheet A i so n).2 ∧ ∀ b, 71 ≤ b → S' b = S b) := by
  refine ⟨Nat.le_of_ble_eq_true rfl, ?_⟩
  show Rn k_P_sheet 0 [(2, 0), (0, i), (0, so), (0, n), (9, 0)] [] S _
  refine R_lo (nx := 1) rfl rfl rfl rfl ?_
  refine R_lo (nx := 2) rfl rfl rfl rfl ?_
  refine R_call1 (nx := 5) (as := [(2, 0), (0, i)]) (rest := []) rfl rfl (fun _ _ => rfl) rfl rfl rfl rfl rfl rfl rfl rfl (Cl.mono (c_P_sheetAt S i) ?_)
  rintro _ _ (⟨rfl, b2, rfl⟩ | ⟨rfl, b2, rfl⟩)
  ·
    have kb2 := hRC.2.2.2.2.2 i b2.1 b2.2
    have qb2 := hV.2.2.2.2.2 i b2.1 b2.2
    try have ka2 := kb2.1
    try have kz2 := kb2.2.1
    try have qa2 := qb2.1
    try have qz2 := qb2.2
    refine ⟨_, rfl, ?_⟩
    refine R_lo (nx := 7) (ls' := [(2, 0), (0, i), (0, so), (0, n), (2, (63 + 2 * i))]) rfl rfl rfl rfl ?_
    refine R_lo (nx := 9) rfl rfl rfl rfl ?_
    refine R_ifnull (nx := 12) (tg := 24) rfl rfl rfl (fun h => absurd h (by have := (isS_kd (isS_c (i := i) (by omega) (by omega))).1; omega)) (fun h => ?_)
    refine R_lo (nx := 13) rfl rfl rfl rfl ?_
    refine R_op (nx := 14) rfl rfl rfl ?_
    refine R_icmp (nx := 17) (tg := 26) rfl rfl rfl (mm_cnd_eq _ _) (fun c14 => ?_) (fun c14 => ?_)
    ·
      refine R_lo (nx := 27) rfl rfl rfl rfl ?_
      refine R_op (nx := 28) rfl rfl rfl ?_
      refine R_icmp (nx := 31) (tg := 40) rfl rfl rfl (mm_cnd_ne _ _) (fun c28 => ?_) (fun c28 => ?_)
      ·
        refine R_lo (nx := 41) rfl rfl rfl rfl ?_
        refine R_op (nx := 43) rfl rfl rfl ?_
        refine R_icmp (nx := 46) (tg := 48) rfl rfl rfl (mm_cnd_le _ _) (fun c43 => ?_) (fun c43 => ?_)
        ·
          have e43 : ¬ 40 < n := by omega
          refine R_lo (nx := 49) rfl rfl rfl rfl ?_
          refine R_if (nx := 52) (tg := 55) rfl rfl rfl (mm_cnd_ge _ _) (fun c49 => ?_) (fun c49 => ?_)
          ·
            have e49 : ¬ n < 0 := by omega
            refine R_lo (nx := 57) rfl rfl rfl rfl ?_
            refine R_lo (nx := 58) rfl rfl rfl rfl ?_
            refine R_lo (nx := 59) rfl rfl rfl rfl ?_
            refine R_call0 (nx := 62) (as := [(2, (63 + 2 * i)), (0, so), (0, n)]) (rest := []) rfl rfl (fun _ _ => rfl) rfl rfl rfl rfl rfl rfl (isS_rc (isS_c (i := i) (by omega) (by omega)) _) rfl (Cl.mono (c_Sh_become S (63 + 2 * i) (isS_c (i := i) (by omega) (by omega)) so n) ?_)
            rintro _ S59 ⟨rfl, m59, f59⟩
            refine ⟨rfl, ?_⟩
            refine R_op (nx := 63) rfl rfl rfl ?_
            refine R_ret rfl (fun _ _ => rfl) rfl rfl ?_
            first | (exfalso; omega) | (rw [show Q_sheet A i so n = (1, Ash A i (so, n, fun _ => 0)) from by simp only [Q_sheet, b2, c14, c28, c43, e43, c49, e49, ifo, ifm, ifp, iffq, ↓reduceIte, ite_self, and_self, and_true, true_and, and_false, false_and, or_true, true_or, or_false, false_or, or_self, not_true_eq_false, not_false_eq_true, ne_eq]]; exact ⟨rfl, hRC.sh b2 m59.1 m59.2.1 m59.2.2 fun b hb hc => f59 b (by omega), fun b hb => f59 b (by omega)⟩)
          ·
            have e49 : n < 0 := by omega
            refine R_op (nx := 54) rfl rfl rfl ?_
            refine R_ret rfl (fun _ _ => rfl) rfl rfl ?_
            first | (exfalso; omega) | (rw [show Q_sheet A i so n = ((-14), A) from by simp only [Q_sheet, b2, c14, c28, c43, e43, c49, e49, ifo, ifm, ifp, iffq, ↓reduceIte, ite_self, and_self, and_true, true_and, and_false, false_and, or_true, true_or, or_false, false_or, or_self, not_true_eq_false, not_false_eq_true, ne_eq]]; exact ⟨rfl, hRC, fun b _ => rfl⟩)
        ·
          have e43 : 40 < n := by omega
          refine R_op (nx := 47) rfl rfl rfl ?_
          refine R_ret rfl (fun _ _ => rfl) rfl rfl ?_
          first | (exfalso; omega) | (rw [show Q_sheet A i so n = ((-1), A) from by simp only [Q_sheet, b2, c14, c28, c43, e43, ifo, ifm, ifp, iffq, ↓reduceIte, ite_self, and_self, and_true, true_and, and_false, false_and, or_true, true_or, or_false, false_or, or_self, not_true_eq_false, not_false_eq_true, ne_eq]]; exact ⟨rfl, hRC, fun b _ => rfl⟩)
      ·
        replace c28 := Classical.not_not.mp c28
        refine R_lo (nx := 33) rfl rfl rfl rfl ?_
        refine R_op (nx := 34) rfl rfl rfl ?_
        refine R_op (nx := 35) rfl rfl rfl ?_
        refine R_call0 (nx := 38) (as := [(2, (63 + 2 * i)), (0, (-1)), (0, 0)]) (rest := []) rfl rfl (fun _ _ => rfl) rfl rfl rfl rfl rfl rfl (isS_rc (isS_c (i := i) (by omega) (by omega)) _) rfl (Cl.mono (c_Sh_become S (63 + 2 * i) (isS_c (i := i) (by omega) (by omega)) (-1) 0) ?_)
        rintro _ S35 ⟨rfl, m35, f35⟩
        refine ⟨rfl, ?_⟩
        refine R_op (nx := 39) rfl rfl rfl ?_
        refine R_ret rfl (fun _ _ => rfl) rfl rfl ?_
        first | (exfalso; omega) | (rw [show Q_sheet A i so n = (1, Ash A i (-1, 0, fun _ => 0)) from by simp only [Q_sheet, b2, c14, c28, ifo, ifm, ifp, iffq, ↓reduceIte, ite_self, and_self, and_true, true_and, and_false, false_and, or_true, true_or, or_false, false_or, or_self, not_true_eq_false, not_false_eq_true, ne_eq]]; exact ⟨rfl, hRC.sh b2 m35.1 m35.2.1 m35.2.2 fun b hb hc => f35 b (by omega), fun b hb => f35 b (by omega)⟩)
    ·
      refine R_lo (nx := 18) rfl rfl rfl rfl ?_
      refine R_call1 (nx := 21) (as := [(0, so)]) (rest := []) rfl rfl (fun _ _ => rfl) rfl rfl rfl rfl rfl rfl rfl rfl (Cl.mono (c_P_isSort S so) ?_)
      rintro _ _ (⟨rfl, b18, rfl⟩ | ⟨rfl, b18, rfl⟩)
      ·
        refine ⟨_, rfl, ?_⟩
        refine R_ifT (tg := 26) rfl rfl rfl ?_
        refine R_lo (nx := 27) rfl rfl rfl rfl ?_
        refine R_op (nx := 28) rfl rfl rfl ?_
        refine R_icmp (nx := 31) (tg := 40) rfl rfl rfl (mm_cnd_ne _ _) (fun c28_1 => ?_) (fun c28_1 => ?_)
        ·
          refine R_lo (nx := 41) rfl rfl rfl rfl ?_
          refine R_op (nx := 43) rfl rfl rfl ?_
          refine R_icmp (nx := 46) (tg := 48) rfl rfl rfl (mm_cnd_le _ _) (fun c43_1 => ?_) (fun c43_1 => ?_)
          ·
            have e43 : ¬ 40 < n := by omega
            refine R_lo (nx := 49) rfl rfl rfl rfl ?_
            refine R_if (nx := 52) (tg := 55) rfl rfl rfl (mm_cnd_ge _ _) (fun c49_1 => ?_) (fun c49_1 => ?_)
            ·
              have e49 : ¬ n < 0 := by omega
              refine R_lo (nx := 57) rfl rfl rfl rfl ?_
              refine R_lo (nx := 58) rfl rfl rfl rfl ?_
              refine R_lo (nx := 59) rfl rfl rfl rfl ?_
              refine R_call0 (nx := 62) (as := [(2, (63 + 2 * i)), (0, so), (0, n)]) (rest := []) rfl rfl (fun _ _ => rfl) rfl rfl rfl rfl rfl rfl (isS_rc (isS_c (i := i) (by omega) (by omega)) _) rfl (Cl.mono (c_Sh_become S (63 + 2 * i) (isS_c (i := i) (by omega) (by omega)) so n) ?_)
              rintro _ S59_1 ⟨rfl, m59_1, f59_1⟩
              refine ⟨rfl, ?_⟩
              refine R_op (nx := 63) rfl rfl rfl ?_
              refine R_ret rfl (fun _ _ => rfl) rfl rfl ?_
              first | (exfalso; omega) | (rw [show Q_sheet A i so n = (1, Ash A i (so, n, fun _ => 0)) from by simp only [Q_sheet, b2, c14, b18, c28_1, c43_1, e43, c49_1, e49, ifo, ifm, ifp, iffq, ↓reduceIte, ite_self, and_self, and_true, true_and, and_false, false_and, or_true, true_or, or_false, false_or, or_self, not_true_eq_false, not_false_eq_true, ne_eq]]; exact ⟨rfl, hRC.sh b2 m59_1.1 m59_1.2.1 m59_1.2.2 fun b hb hc => f59_1 b (by omega), fun b hb => f59_1 b (by omega)⟩)
            ·
              have e49 : n < 0 := by omega
              refine R_op (nx := 54) rfl rfl rfl ?_
              refine R_ret rfl (fun _ _ => rfl) rfl rfl ?_
              first | (exfalso; omega) | (rw [show Q_sheet A i so n = ((-14), A) from by simp only [Q_sheet, b2, c14, b18, c28_1, c43_1, e43, c49_1, e49, ifo, ifm, ifp, iffq, ↓reduceIte, ite_self, and_self, and_true, true_and, and_false, false_and, or_true, true_or, or_false, false_or, or_self, not_true_eq_false, not_false_eq_true, ne_eq]]; exact ⟨rfl, hRC, fun b _ => rfl⟩)
          ·
            have e43 : 40 < n := by omega
            refine R_op (nx := 47) rfl rfl rfl ?_
            refine R_ret rfl (fun _ _ => rfl) rfl rfl ?_
            first | (exfalso; omega) | (rw [show Q_sheet A i so n = ((-1), A) from by simp only [Q_sheet, b2, c14, b18, c28_1, c43_1, e43, ifo, ifm, ifp, iffq, ↓reduceIte, ite_self, and_self, and_true, true_and, and_false, false_and, or_true, true_or, or_false, false_or, or_self, not_true_eq_false, not_false_eq_true, ne_eq]]; exact ⟨rfl, hRC, fun b _ => rfl⟩)
        ·
          replace c28_1 := Classical.not_not.mp c28_1
          refine R_lo (nx := 33) rfl rfl rfl rfl ?_
          refine R_op (nx := 34) rfl rfl rfl ?_
          refine R_op (nx := 35) rfl rfl rfl ?_
          refine R_call0 (nx := 38) (as := [(2, (63 + 2 * i)), (0, (-1)), (0, 0)]) (rest := []) rfl rfl (fun _ _ => rfl) rfl rfl rfl rfl rfl rfl (isS_rc (isS_c (i := i) (by omega) (by omega)) _) rfl (Cl.mono (c_Sh_become S (63 + 2 * i) (isS_c (i := i) (by omega) (by omega)) (-1) 0) ?_)
          rintro _ S35_1 ⟨rfl, m35_1, f35_1⟩
          refine ⟨rfl, ?_⟩
          refine R_op (nx := 39) rfl rfl rfl ?_
          refine R_ret rfl (fun _ _ => rfl) rfl rfl ?_
          first | (exfalso; omega) | (rw [show Q_sheet A i so n = (1, Ash A i (-1, 0, fun _ => 0)) from by simp only [Q_sheet, b2, c14, b18, c28_1, ifo, ifm, ifp, iffq, ↓reduceIte, ite_self, and_self, and_true, true_and, and_false, false_and, or_true, true_or, or_false, false_or, or_self, not_true_eq_false, not_false_eq_true, ne_eq]]; exact ⟨rfl, hRC.sh b2 m35_1.1 m35_1.2.1 m35_1.2.2 fun b hb hc => f35_1 b (by omega), fun b hb => f35_1 b (by omega)⟩)
      ·
        refine ⟨_, rfl, ?_⟩
        refine R_ifF (nx := 24) rfl rfl rfl ?_
        refine R_op (nx := 25) rfl rfl rfl ?_
        refine R_ret rfl (fun _ _ => rfl) rfl rfl ?_
        first | (exfalso; omega) | (rw [show Q_sheet A i so n = ((-1), A) from by simp only [Q_sheet, b2, c14, b18, ifo, ifm, ifp, iffq, ↓reduceIte, ite_self, and_self, and_true, true_and, and_false, false_and, or_true, true_or, or_false, false_or, or_self, not_true_eq_false, not_false_eq_true, ne_eq]]; exact ⟨rfl, hRC, fun b _ => rfl⟩)
  ·
    try have ka2 := kb2.1
    try have kz2 := kb2.2.1
    try have qa2 := qb2.1
    try have qz2 := qb2.2
    refine ⟨_, rfl, ?_⟩
    refine R_lo (nx := 7) (ls' := [(2, 0), (0, i), (0, so), (0, n), (2, (-1))]) rfl rfl rfl rfl ?_
    refine R_lo (nx := 9) rfl rfl rfl rfl ?_
    refine R_ifnull (nx := 12) (tg := 24) rfl rfl rfl (fun h => ?_) (fun h => absurd (by decide) h)
    refine R_op (nx := 25) rfl rfl rfl ?_
    refine R_ret rfl (fun _ _ => rfl) rfl rfl ?_
    first | (exfalso; omega) | (rw [show Q_sheet A i so n = ((-1), A) from by simp only [Q_sheet, b2, ifo, ifm, ifp, iffq, ↓reduceIte, ite_self, and_self, and_true, true_and, and_false, false_and, or_true, true_or, or_false, false_or, or_self, not_true_eq_false, not_false_eq_true, ne_eq]]; exact ⟨rfl, hRC, fun b _ => rfl⟩)

set_option maxRecDepth 20000 in
set_option maxHeartbeats 4000000 in
theorem c_P_put (S : mm_S) (A : mm_A) (hRC : RC S A) (hV : Vs A) (i j v : Int) (hj : mm_r32 j) : Cl 22 [(2, 0), (0, i), (0, j), (1, v)] S (fun vv S' => vv = some (0, (Q_put A i j v).1) ∧ RC S' (Q_put A i j v).2 ∧ ∀ b, 71 ≤ b → S' b = S b) := by
  refine ⟨Nat.le_of_ble_eq_true rfl, ?_⟩
  show Rn k_P_put 0 [(2, 0), (0, i), (0, j), (1, v), (9, 0), (9, 0)] [] S _
  refine R_lo (nx := 1) rfl rfl rfl rfl ?_
  refine R_lo (nx := 2) rfl rfl rfl rfl ?_
  refine R_call1 (nx := 5) (as := [(2, 0), (0, i)]) (rest := []) rfl rfl (fun _ _ => rfl) rfl rfl rfl rfl rfl rfl rfl rfl (Cl.mono (c_P_sheetAt S i) ?_)
  rintro _ _ (⟨rfl, b2, rfl⟩ | ⟨rfl, b2, rfl⟩)
  ·
    have kb2 := hRC.2.2.2.2.2 i b2.1 b2.2
    have qb2 := hV.2.2.2.2.2 i b2.1 b2.2
    try have ka2 := kb2.1
    try have kz2 := kb2.2.1
    try have qa2 := qb2.1
    try have qz2 := qb2.2
    refine ⟨_, rfl, ?_⟩
    refine R_lo (nx := 7) (ls' := [(2, 0), (0, i), (0, j), (1, v), (9, 0), (2, (63 + 2 * i))]) rfl rfl rfl rfl ?_
    refine R_lo (nx := 9) rfl rfl rfl rfl ?_
    refine R_ifnonnull (nx := 12) (tg := 14) rfl rfl rfl (fun h => ?_) (fun h => absurd (by have := (isS_kd (isS_c (i := i) (by omega) (by omega))).1; omega) h)
    refine R_lo (nx := 16) rfl rfl rfl rfl ?_
    refine R_get (nx := 19) (w := (0, (S (63 + 2 * i) 0))) rfl rfl (isS_ob (isS_c (i := i) (by omega) (by omega))) rfl ?_
    rw [kb2.1]
    refine R_op (nx := 20) rfl rfl rfl ?_
    refine R_icmp (nx := 23) (tg := 26) rfl rfl rfl (mm_cnd_ne _ _) (fun c20 => ?_) (fun c20 => ?_)
    ·
      refine R_lo (nx := 28) rfl rfl rfl rfl ?_
      refine R_lo (nx := 29) rfl rfl rfl rfl ?_
      refine R_op (nx := 30) rfl rfl rfl ?_
      refine R_call1 (nx := 33) (as := [(2, (63 + 2 * i)), (0, j), (0, 1)]) (rest := []) rfl rfl (fun _ _ => rfl) rfl rfl rfl rfl rfl rfl (isS_rc (isS_c (i := i) (by omega) (by omega)) _) rfl (Cl.mono (c_Sh_isOutside S (63 + 2 * i) (isS_c (i := i) (by omega) (by omega)) (Asz A i) j 1 (by omega) (by omega) (by first | assumption | exact ⟨by omega, by omega⟩)) ?_)
      rintro _ _ (⟨rfl, b30, rfl⟩ | ⟨rfl, b30, rfl⟩)
      ·
        try have u30 := fun q => b30 (Or.inl q)
        refine ⟨_, rfl, ?_⟩
        refine R_ifF (nx := 36) rfl rfl rfl ?_
        refine R_op (nx := 38) rfl rfl rfl ?_
        refine R_ret rfl (fun _ _ => rfl) rfl rfl ?_
        rw [show Q_put A i j v = ((-12), A) from by simp only [Q_put, b2, c20, b30, ifo, ifm, ifp, iffq, ↓reduceIte, ite_self, and_self, and_true, true_and, and_false, false_and, or_true, true_or, or_false, false_or, or_self, not_true_eq_false, not_false_eq_true, ne_eq]]; exact ⟨rfl, hRC, fun b _ => rfl⟩
      ·
        try have u30 := fun q => b30 (Or.inl q)
        refine ⟨_, rfl, ?_⟩
        refine R_ifT (tg := 39) rfl rfl rfl ?_
        refine R_lo (nx := 41) rfl rfl rfl rfl ?_
        refine R_lo (nx := 42) rfl rfl rfl rfl ?_
        refine R_lo (nx := 43) rfl rfl rfl rfl ?_
        refine R_call0 (nx := 46) (as := [(2, (63 + 2 * i)), (0, j), (1, v)]) (rest := []) rfl rfl (fun _ _ => rfl) rfl rfl rfl rfl rfl rfl (isS_rc (isS_c (i := i) (by omega) (by omega)) _) rfl (Cl.mono (c_Sh_set S (63 + 2 * i) (isS_c (i := i) (by omega) (by omega)) j v (by unfold Outs at b30; omega) (by omega)) ?_)
        rintro _ _ ⟨rfl, rfl⟩
        refine ⟨rfl, ?_⟩
        refine R_op (nx := 47) rfl rfl rfl ?_
        refine R_ret rfl (fun _ _ => rfl) rfl rfl ?_
        rw [show Q_put A i j v = (1, Ash A i (Aso A i, Asz A i, fun k => if k = j then cutv (Aso A i) v else Apl A i k)) from by simp only [Q_put, b2, c20, b30, ifo, ifm, ifp, iffq, ↓reduceIte, ite_self, and_self, and_true, true_and, and_false, false_and, or_true, true_or, or_false, false_or, or_self, not_true_eq_false, not_false_eq_true, ne_eq]]; exact ⟨rfl, hRC.sh b2 (by rw [mm_unq (by omega)]; exact ka2) (by rw [mm_unq (by omega)]; exact kz2) (fun k p q => by
          by_cases e : k = j
          · rw [if_pos e, e, mm_ua, ka2]
          · rw [if_neg e, mm_uk e]; exact kb2.2.2 k p q) fun b hb hc => mm_unq (by omega), fun b hb => mm_unq (by omega)⟩
    ·
      replace c20 := Classical.not_not.mp c20
      refine R_op (nx := 25) rfl rfl rfl ?_
      refine R_ret rfl (fun _ _ => rfl) rfl rfl ?_
      rw [show Q_put A i j v = ((-11), A) from by simp only [Q_put, b2, c20, ifo, ifm, ifp, iffq, ↓reduceIte, ite_self, and_self, and_true, true_and, and_false, false_and, or_true, true_or, or_false, false_or, or_self, not_true_eq_false, not_false_eq_true, ne_eq]]; exact ⟨rfl, hRC, fun b _ => rfl⟩
  ·
    try have ka2 := kb2.1
    try have kz2 := kb2.2.1
    try have qa2 := qb2.1
    try have qz2 := qb2.2
    refine ⟨_, rfl, ?_⟩
    refine R_lo (nx := 7) (ls' := [(2, 0), (0, i), (0, j), (1, v), (9, 0), (2, (-1))]) rfl rfl rfl rfl ?_
    refine R_lo (nx := 9) rfl rfl rfl rfl ?_
    refine R_ifnonnull (nx := 12) (tg := 14) rfl rfl rfl (fun h => absurd h (by decide)) (fun h => ?_)
    refine R_op (nx := 13) rfl rfl rfl ?_
    refine R_ret rfl (fun _ _ => rfl) rfl rfl ?_
    rw [show Q_put A i j v = ((-1), A) from by simp only [Q_put, b2, ifo, ifm, ifp, iffq, ↓reduceIte, ite_self, and_self, and_true, true_and, and_false, false_and, or_true, true_or, or_false, false_or, or_self, not_true_eq_false, not_false_eq_true, ne_eq]]; exact ⟨rfl, hRC, fun b _ => rfl⟩

set_option maxRecDepth 20000 in
set_option maxHeartbeats 4000000 in
theorem c_P_item (S : mm_S) (A : mm_A) (hRC : RC S A) (hV : Vs A) (i so j : Int) (hj : mm_r32 j) : Cl 23 [(2, 0), (0, i), (0, so), (0, j)] S (fun vv S' => vv = some (0, (Q_item A i so j).1) ∧ RC S' (Q_item A i so j).2 ∧ ∀ b, 71 ≤ b → S' b = S b) := by
  refine ⟨Nat.le_of_ble_eq_true rfl, ?_⟩
  show Rn k_P_item 0 [(2, 0), (0, i), (0, so), (0, j), (9, 0)] [] S _
  refine R_lo (nx := 1) rfl rfl rfl rfl ?_
  refine R_lo (nx := 2) rfl rfl rfl rfl ?_
  refine R_call1 (nx := 5) (as := [(2, 0), (0, i)]) (rest := []) rfl rfl (fun _ _ => rfl) rfl rfl rfl rfl rfl rfl rfl rfl (Cl.mono (c_P_sheetAt S i) ?_)
  rintro _ _ (⟨rfl, b2, rfl⟩ | ⟨rfl, b2, rfl⟩)
  ·
    have kb2 := hRC.2.2.2.2.2 i b2.1 b2.2
    have qb2 := hV.2.2.2.2.2 i b2.1 b2.2
    try have ka2 := kb2.1
    try have kz2 := kb2.2.1
    try have qa2 := qb2.1
    try have qz2 := qb2.2
    refine ⟨_, rfl, ?_⟩
    refine R_lo (nx := 7) (ls' := [(2, 0), (0, i), (0, so), (0, j), (2, (63 + 2 * i))]) rfl rfl rfl rfl ?_
    refine R_lo (nx := 9) rfl rfl rfl rfl ?_
    refine R_ifnull (nx := 12) (tg := 19) rfl rfl rfl (fun h => absurd h (by have := (isS_kd (isS_c (i := i) (by omega) (by omega))).1; omega)) (fun h => ?_)
    refine R_lo (nx := 13) rfl rfl rfl rfl ?_
    refine R_call1 (nx := 16) (as := [(0, so)]) (rest := []) rfl rfl (fun _ _ => rfl) rfl rfl rfl rfl rfl rfl rfl rfl (Cl.mono (c_P_isSort S so) ?_)
    rintro _ _ (⟨rfl, b13, rfl⟩ | ⟨rfl, b13, rfl⟩)
    ·
      refine ⟨_, rfl, ?_⟩
      refine R_ifT (tg := 21) rfl rfl rfl ?_
      refine R_lo (nx := 23) rfl rfl rfl rfl ?_
      refine R_get (nx := 26) (w := (0, (S (63 + 2 * i) 0))) rfl rfl (isS_ob (isS_c (i := i) (by omega) (by omega))) rfl ?_
      rw [kb2.1]
      refine R_op (nx := 27) rfl rfl rfl ?_
      refine R_icmp (nx := 30) (tg := 33) rfl rfl rfl (mm_cnd_ne _ _) (fun c27 => ?_) (fun c27 => ?_)
      ·
        refine R_lo (nx := 35) rfl rfl rfl rfl ?_
        refine R_get (nx := 38) (w := (0, (S (63 + 2 * i) 0))) rfl rfl (isS_ob (isS_c (i := i) (by omega) (by omega))) rfl ?_
        rw [kb2.1]
        refine R_lo (nx := 39) rfl rfl rfl rfl ?_
        refine R_icmp (nx := 42) (tg := 45) rfl rfl rfl (mm_cnd_eq _ _) (fun c39 => ?_) (fun c39 => ?_)
        ·
          have e39 : ¬ so = -1 := by omega
          refine R_lo (nx := 47) rfl rfl rfl rfl ?_
          refine R_lo (nx := 48) rfl rfl rfl rfl ?_
          refine R_op (nx := 49) rfl rfl rfl ?_
          refine R_call1 (nx := 52) (as := [(2, (63 + 2 * i)), (0, j), (0, 1)]) (rest := []) rfl rfl (fun _ _ => rfl) rfl rfl rfl rfl rfl rfl (isS_rc (isS_c (i := i) (by omega) (by omega)) _) rfl (Cl.mono (c_Sh_isOutside S (63 + 2 * i) (isS_c (i := i) (by omega) (by omega)) (Asz A i) j 1 (by omega) (by omega) (by first | assumption | exact ⟨by omega, by omega⟩)) ?_)
          rintro _ _ (⟨rfl, b49, rfl⟩ | ⟨rfl, b49, rfl⟩)
          ·
            refine ⟨_, rfl, ?_⟩
            refine R_ifF (nx := 55) rfl rfl rfl ?_
            refine R_op (nx := 57) rfl rfl rfl ?_
            refine R_op (nx := 60) (pc' := 67) rfl rfl rfl ?_
            refine R_ret rfl (fun _ _ => rfl) rfl rfl ?_
            rw [show Q_item A i so j = ((-12), A) from by simp only [Q_item, b2, b13, c27, c39, e39, b49, ifo, ifm, ifp, iffq, ↓reduceIte, ite_self, and_self, and_true, true_and, and_false, false_and, or_true, true_or, or_false, false_or, or_self, not_true_eq_false, not_false_eq_true, ne_eq]]; exact ⟨rfl, hRC, fun b _ => rfl⟩
          ·
            refine ⟨_, rfl, ?_⟩
            refine R_ifT (tg := 60) rfl rfl rfl ?_
            refine R_lo (nx := 62) rfl rfl rfl rfl ?_
            refine R_lo (nx := 63) rfl rfl rfl rfl ?_
            refine R_call1 (nx := 66) (as := [(2, (63 + 2 * i)), (0, j)]) (rest := []) rfl rfl (fun _ _ => rfl) rfl rfl rfl rfl rfl rfl (isS_rc (isS_c (i := i) (by omega) (by omega)) _) rfl (Cl.mono (c_Sh_get S (63 + 2 * i) (isS_c (i := i) (by omega) (by omega)) j (by unfold Outs at b49; omega) (by omega)) ?_)
            rintro _ _ ⟨rfl, rfl⟩
            refine ⟨_, rfl, ?_⟩
            rw [kb2.2.2 j (by unfold Outs at b49; omega) (by unfold Outs at b49; omega)]
            refine R_op (nx := 67) (st' := [(0, (mm_w32 (Apl A i j)))]) rfl rfl rfl ?_
            refine R_ret rfl (fun _ _ => rfl) rfl rfl ?_
            rw [show Q_item A i so j = ((mm_w32 (Apl A i j)), A) from by simp only [Q_item, b2, b13, c27, c39, e39, b49, ifo, ifm, ifp, iffq, ↓reduceIte, ite_self, and_self, and_true, true_and, and_false, false_and, or_true, true_or, or_false, false_or, or_self, not_true_eq_false, not_false_eq_true, ne_eq]]; exact ⟨rfl, hRC, fun b _ => rfl⟩
        ·
          refine R_op (nx := 44) rfl rfl rfl ?_
          refine R_ret rfl (fun _ _ => rfl) rfl rfl ?_
          rw [show Q_item A i so j = ((-13), A) from by simp only [Q_item, b2, b13, c27, c39, ifo, ifm, ifp, iffq, ↓reduceIte, ite_self, and_self, and_true, true_and, and_false, false_and, or_true, true_or, or_false, false_or, or_self, not_true_eq_false, not_false_eq_true, ne_eq]]; exact ⟨rfl, hRC, fun b _ => rfl⟩
      ·
        replace c27 := Classical.not_not.mp c27
        refine R_op (nx := 32) rfl rfl rfl ?_
        refine R_ret rfl (fun _ _ => rfl) rfl rfl ?_
        rw [show Q_item A i so j = ((-11), A) from by simp only [Q_item, b2, b13, c27, ifo, ifm, ifp, iffq, ↓reduceIte, ite_self, and_self, and_true, true_and, and_false, false_and, or_true, true_or, or_false, false_or, or_self, not_true_eq_false, not_false_eq_true, ne_eq]]; exact ⟨rfl, hRC, fun b _ => rfl⟩
    ·
      refine ⟨_, rfl, ?_⟩
      refine R_ifF (nx := 19) rfl rfl rfl ?_
      refine R_op (nx := 20) rfl rfl rfl ?_
      refine R_ret rfl (fun _ _ => rfl) rfl rfl ?_
      rw [show Q_item A i so j = ((-1), A) from by simp only [Q_item, b2, b13, ifo, ifm, ifp, iffq, ↓reduceIte, ite_self, and_self, and_true, true_and, and_false, false_and, or_true, true_or, or_false, false_or, or_self, not_true_eq_false, not_false_eq_true, ne_eq]]; exact ⟨rfl, hRC, fun b _ => rfl⟩
  ·
    try have ka2 := kb2.1
    try have kz2 := kb2.2.1
    try have qa2 := qb2.1
    try have qz2 := qb2.2
    refine ⟨_, rfl, ?_⟩
    refine R_lo (nx := 7) (ls' := [(2, 0), (0, i), (0, so), (0, j), (2, (-1))]) rfl rfl rfl rfl ?_
    refine R_lo (nx := 9) rfl rfl rfl rfl ?_
    refine R_ifnull (nx := 12) (tg := 19) rfl rfl rfl (fun h => ?_) (fun h => absurd (by decide) h)
    refine R_op (nx := 20) rfl rfl rfl ?_
    refine R_ret rfl (fun _ _ => rfl) rfl rfl ?_
    rw [show Q_item A i so j = ((-1), A) from by simp only [Q_item, b2, ifo, ifm, ifp, iffq, ↓reduceIte, ite_self, and_self, and_true, true_and, and_false, false_and, or_true, true_or, or_false, false_or, or_self, not_true_eq_false, not_false_eq_true, ne_eq]]; exact ⟨rfl, hRC, fun b _ => rfl⟩

set_option maxRecDepth 20000 in
set_option maxHeartbeats 4000000 in
theorem c_P_copy (S : mm_S) (A : mm_A) (hRC : RC S A) (hV : Vs A) (i j o k n : Int) (hj : mm_r32 j) (hk : mm_r32 k) : Cl 24 [(2, 0), (0, i), (0, j), (0, o), (0, k), (0, n)] S (fun vv S' => vv = some (0, (Q_copy A i j o k n).1) ∧ RC S' (Q_copy A i j o k n).2 ∧ ∀ b, 71 ≤ b → S' b = S b) := by
  refine ⟨Nat.le_of_ble_eq_true rfl, ?_⟩
  show Rn k_P_copy 0 [(2, 0), (0, i), (0, j), (0, o), (0, k), (0, n), (9, 0), (9, 0)] [] S _
  refine R_lo (nx := 1) rfl rfl rfl rfl ?_
  refine R_lo (nx := 2) rfl rfl rfl rfl ?_
  refine R_call1 (nx := 5) (as := [(2, 0), (0, i)]) (rest := []) rfl rfl (fun _ _ => rfl) rfl rfl rfl rfl rfl rfl rfl rfl (Cl.mono (c_P_sheetAt S i) ?_)
  rintro _ _ (⟨rfl, b2, rfl⟩ | ⟨rfl, b2, rfl⟩)
  ·
    have kb2 := hRC.2.2.2.2.2 i b2.1 b2.2
    have qb2 := hV.2.2.2.2.2 i b2.1 b2.2
    try have ka2 := kb2.1
    try have kz2 := kb2.2.1
    try have qa2 := qb2.1
    try have qz2 := qb2.2
    refine ⟨_, rfl, ?_⟩
    refine R_lo (nx := 7) (ls' := [(2, 0), (0, i), (0, j), (0, o), (0, k), (0, n), (2, (63 + 2 * i)), (9, 0)]) rfl rfl rfl rfl ?_
    refine R_lo (nx := 8) rfl rfl rfl rfl ?_
    refine R_lo (nx := 9) rfl rfl rfl rfl ?_
    refine R_call1 (nx := 12) (as := [(2, 0), (0, o)]) (rest := []) rfl rfl (fun _ _ => rfl) rfl rfl rfl rfl rfl rfl rfl rfl (Cl.mono (c_P_sheetAt S o) ?_)
    rintro _ _ (⟨rfl, b9, rfl⟩ | ⟨rfl, b9, rfl⟩)
    ·
      have kb9 := hRC.2.2.2.2.2 o b9.1 b9.2
      have qb9 := hV.2.2.2.2.2 o b9.1 b9.2
      try have ka9 := kb9.1
      try have kz9 := kb9.2.1
      try have qa9 := qb9.1
      try have qz9 := qb9.2
      refine ⟨_, rfl, ?_⟩
      refine R_lo (nx := 14) (ls' := [(2, 0), (0, i), (0, j), (0, o), (0, k), (0, n), (2, (63 + 2 * i)), (2, (63 + 2 * o))]) rfl rfl rfl rfl ?_
      refine R_lo (nx := 16) rfl rfl rfl rfl ?_
      refine R_ifnull (nx := 19) (tg := 24) rfl rfl rfl (fun h => absurd h (by have := (isS_kd (isS_c (i := i) (by omega) (by omega))).1; omega)) (fun h => ?_)
      refine R_lo (nx := 21) rfl rfl rfl rfl ?_
      refine R_ifnonnull (nx := 24) (tg := 26) rfl rfl rfl (fun h => ?_) (fun h => absurd (by have := (isS_kd (isS_c (i := o) (by omega) (by omega))).1; omega) h)
      refine R_lo (nx := 28) rfl rfl rfl rfl ?_
      refine R_get (nx := 31) (w := (0, (S (63 + 2 * i) 0))) rfl rfl (isS_ob (isS_c (i := i) (by omega) (by omega))) rfl ?_
      rw [kb2.1]
      refine R_op (nx := 32) rfl rfl rfl ?_
      refine R_icmp (nx := 35) (tg := 44) rfl rfl rfl (mm_cnd_eq _ _) (fun c32 => ?_) (fun c32 => ?_)
      ·
        refine R_op (nx := 46) rfl rfl rfl ?_
        refine R_ret rfl (fun _ _ => rfl) rfl rfl ?_
        rw [show Q_copy A i j o k n = ((-11), A) from by simp only [Q_copy, b2, b9, c32, ifo, ifm, ifp, iffq, ↓reduceIte, ite_self, and_self, and_true, true_and, and_false, false_and, or_true, true_or, or_false, false_or, or_self, not_true_eq_false, not_false_eq_true, ne_eq]]; exact ⟨rfl, hRC, fun b _ => rfl⟩
      ·
        refine R_lo (nx := 37) rfl rfl rfl rfl ?_
        refine R_get (nx := 40) (w := (0, (S (63 + 2 * o) 0))) rfl rfl (isS_ob (isS_c (i := o) (by omega) (by omega))) rfl ?_
        rw [kb9.1]
        refine R_op (nx := 41) rfl rfl rfl ?_
        refine R_icmp (nx := 44) (tg := 47) rfl rfl rfl (mm_cnd_ne _ _) (fun c41 => ?_) (fun c41 => ?_)
        ·
          refine R_lo (nx := 49) rfl rfl rfl rfl ?_
          refine R_get (nx := 52) (w := (0, (S (63 + 2 * i) 0))) rfl rfl (isS_ob (isS_c (i := i) (by omega) (by omega))) rfl ?_
          rw [kb2.1]
          refine R_lo (nx := 54) rfl rfl rfl rfl ?_
          refine R_get (nx := 57) (w := (0, (S (63 + 2 * o) 0))) rfl rfl (isS_ob (isS_c (i := o) (by omega) (by omega))) rfl ?_
          rw [kb9.1]
          refine R_icmp (nx := 60) (tg := 63) rfl rfl rfl (mm_cnd_eq _ _) (fun c57 => ?_) (fun c57 => ?_)
          ·
            refine R_lo (nx := 65) rfl rfl rfl rfl ?_
            refine R_lo (nx := 66) rfl rfl rfl rfl ?_
            refine R_lo (nx := 68) rfl rfl rfl rfl ?_
            refine R_call1 (nx := 71) (as := [(2, (63 + 2 * i)), (0, j), (0, n)]) (rest := []) rfl rfl (fun _ _ => rfl) rfl rfl rfl rfl rfl rfl (isS_rc (isS_c (i := i) (by omega) (by omega)) _) rfl (Cl.mono (c_Sh_isOutside S (63 + 2 * i) (isS_c (i := i) (by omega) (by omega)) (Asz A i) j n (by omega) (by omega) (by first | assumption | exact ⟨by omega, by omega⟩)) ?_)
            rintro _ _ (⟨rfl, b68, rfl⟩ | ⟨rfl, b68, rfl⟩)
            ·
              refine ⟨_, rfl, ?_⟩
              refine R_ifT (tg := 86) rfl rfl rfl ?_
              refine R_op (nx := 88) rfl rfl rfl ?_
              refine R_ret rfl (fun _ _ => rfl) rfl rfl ?_
              rw [show Q_copy A i j o k n = ((-12), A) from by simp only [Q_copy, b2, b9, c32, c41, c57, b68, ifo, ifm, ifp, iffq, ↓reduceIte, ite_self, and_self, and_true, true_and, and_false, false_and, or_true, true_or, or_false, false_or, or_self, not_true_eq_false, not_false_eq_true, ne_eq]]; exact ⟨rfl, hRC, fun b _ => rfl⟩
            ·
              refine ⟨_, rfl, ?_⟩
              refine R_ifF (nx := 74) rfl rfl rfl ?_
              refine R_lo (nx := 76) rfl rfl rfl rfl ?_
              refine R_lo (nx := 78) rfl rfl rfl rfl ?_
              refine R_lo (nx := 80) rfl rfl rfl rfl ?_
              refine R_call1 (nx := 83) (as := [(2, (63 + 2 * o)), (0, k), (0, n)]) (rest := []) rfl rfl (fun _ _ => rfl) rfl rfl rfl rfl rfl rfl (isS_rc (isS_c (i := o) (by omega) (by omega)) _) rfl (Cl.mono (c_Sh_isOutside S (63 + 2 * o) (isS_c (i := o) (by omega) (by omega)) (Asz A o) k n (by omega) (by omega) (by first | assumption | exact ⟨by omega, by omega⟩)) ?_)
              rintro _ _ (⟨rfl, b80, rfl⟩ | ⟨rfl, b80, rfl⟩)
              ·
                refine ⟨_, rfl, ?_⟩
                refine R_ifF (nx := 86) rfl rfl rfl ?_
                refine R_op (nx := 88) rfl rfl rfl ?_
                refine R_ret rfl (fun _ _ => rfl) rfl rfl ?_
                rw [show Q_copy A i j o k n = ((-12), A) from by simp only [Q_copy, b2, b9, c32, c41, c57, b68, b80, ifo, ifm, ifp, iffq, ↓reduceIte, ite_self, and_self, and_true, true_and, and_false, false_and, or_true, true_or, or_false, false_or, or_self, not_true_eq_false, not_false_eq_true, ne_eq]]; exact ⟨rfl, hRC, fun b _ => rfl⟩
              ·
                refine ⟨_, rfl, ?_⟩
                refine R_ifT (tg := 89) rfl rfl rfl ?_
                refine R_lo (nx := 91) rfl rfl rfl rfl ?_
                refine R_lo (nx := 92) rfl rfl rfl rfl ?_
                refine R_lo (nx := 94) rfl rfl rfl rfl ?_
                refine R_lo (nx := 96) rfl rfl rfl rfl ?_
                refine R_lo (nx := 98) rfl rfl rfl rfl ?_
                refine R_call0 (nx := 101) (as := [(2, (63 + 2 * i)), (0, j), (2, (63 + 2 * o)), (0, k), (0, n)]) (rest := []) rfl rfl (fun _ _ => rfl) rfl rfl rfl rfl rfl rfl (isS_rc (isS_c (i := i) (by omega) (by omega)) _) rfl (Cl.mono (c_Sh_copyPlaces S (63 + 2 * i) (isS_c (i := i) (by omega) (by omega)) (63 + 2 * o) (isS_c (i := o) (by omega) (by omega)) j k n (by rw [kz2]; exact b68) (by rw [kz9]; exact b80) (by omega) (by omega) hj hk) ?_)
                rintro _ _ ⟨rfl, rfl⟩
                refine ⟨rfl, ?_⟩
                refine R_lo (nx := 103) rfl rfl rfl rfl ?_
                refine R_ret rfl (fun _ _ => rfl) rfl rfl ?_
                rw [show Q_copy A i j o k n = (n, Ash A o (Aso A o, Asz A o, fun p => if k ≤ p ∧ p < k + n then Apl A i (j + (p - k)) else Apl A o p)) from by simp only [Q_copy, b2, b9, c32, c41, c57, b68, b80, ifo, ifm, ifp, iffq, ↓reduceIte, ite_self, and_self, and_true, true_and, and_false, false_and, or_true, true_or, or_false, false_or, or_self, not_true_eq_false, not_false_eq_true, ne_eq]]; exact ⟨rfl, hRC.sh b9 (by rw [mm_cpy_ne (by omega)]; exact ka9) (by rw [mm_cpy_ne (by omega)]; exact kz9) (fun p h0 h1 => by
                  unfold Outs at b68 b80
                  by_cases e : k ≤ p ∧ p < k + n
                  · rw [if_pos e, mm_cpy_in e.1 e.2]; exact kb2.2.2 _ (by omega) (by omega)
                  · rw [if_neg e, mm_cpy_out e]; exact kb9.2.2 p h0 h1) fun b hb hc => mm_cpy_ne (by omega), fun b hb => mm_cpy_ne (by omega)⟩
          ·
            refine R_op (nx := 62) rfl rfl rfl ?_
            refine R_ret rfl (fun _ _ => rfl) rfl rfl ?_
            rw [show Q_copy A i j o k n = ((-13), A) from by simp only [Q_copy, b2, b9, c32, c41, c57, ifo, ifm, ifp, iffq, ↓reduceIte, ite_self, and_self, and_true, true_and, and_false, false_and, or_true, true_or, or_false, false_or, or_self, not_true_eq_false, not_false_eq_true, ne_eq]]; exact ⟨rfl, hRC, fun b _ => rfl⟩
        ·
          replace c41 := Classical.not_not.mp c41
          refine R_op (nx := 46) rfl rfl rfl ?_
          refine R_ret rfl (fun _ _ => rfl) rfl rfl ?_
          rw [show Q_copy A i j o k n = ((-11), A) from by simp only [Q_copy, b2, b9, c32, c41, ifo, ifm, ifp, iffq, ↓reduceIte, ite_self, and_self, and_true, true_and, and_false, false_and, or_true, true_or, or_false, false_or, or_self, not_true_eq_false, not_false_eq_true, ne_eq]]; exact ⟨rfl, hRC, fun b _ => rfl⟩
    ·
      try have ka9 := kb9.1
      try have kz9 := kb9.2.1
      try have qa9 := qb9.1
      try have qz9 := qb9.2
      refine ⟨_, rfl, ?_⟩
      refine R_lo (nx := 14) (ls' := [(2, 0), (0, i), (0, j), (0, o), (0, k), (0, n), (2, (63 + 2 * i)), (2, (-1))]) rfl rfl rfl rfl ?_
      refine R_lo (nx := 16) rfl rfl rfl rfl ?_
      refine R_ifnull (nx := 19) (tg := 24) rfl rfl rfl (fun h => absurd h (by have := (isS_kd (isS_c (i := i) (by omega) (by omega))).1; omega)) (fun h => ?_)
      refine R_lo (nx := 21) rfl rfl rfl rfl ?_
      refine R_ifnonnull (nx := 24) (tg := 26) rfl rfl rfl (fun h => absurd h (by decide)) (fun h => ?_)
      refine R_op (nx := 25) rfl rfl rfl ?_
      refine R_ret rfl (fun _ _ => rfl) rfl rfl ?_
      rw [show Q_copy A i j o k n = ((-1), A) from by simp only [Q_copy, b2, b9, ifo, ifm, ifp, iffq, ↓reduceIte, ite_self, and_self, and_true, true_and, and_false, false_and, or_true, true_or, or_false, false_or, or_self, not_true_eq_false, not_false_eq_true, ne_eq]]; exact ⟨rfl, hRC, fun b _ => rfl⟩
  ·
    try have ka2 := kb2.1
    try have kz2 := kb2.2.1
    try have qa2 := qb2.1
    try have qz2 := qb2.2
    refine ⟨_, rfl, ?_⟩
    refine R_lo (nx := 7) (ls' := [(2, 0), (0, i), (0, j), (0, o), (0, k), (0, n), (2, (-1)), (9, 0)]) rfl rfl rfl rfl ?_
    refine R_lo (nx := 8) rfl rfl rfl rfl ?_
    refine R_lo (nx := 9) rfl rfl rfl rfl ?_
    refine R_call1 (nx := 12) (as := [(2, 0), (0, o)]) (rest := []) rfl rfl (fun _ _ => rfl) rfl rfl rfl rfl rfl rfl rfl rfl (Cl.mono (c_P_sheetAt S o) ?_)
    rintro _ _ (⟨rfl, b9_1, rfl⟩ | ⟨rfl, b9_1, rfl⟩)
    ·
      have kb9_1 := hRC.2.2.2.2.2 o b9_1.1 b9_1.2
      have qb9_1 := hV.2.2.2.2.2 o b9_1.1 b9_1.2
      try have ka9 := kb9.1
      try have kz9 := kb9.2.1
      try have qa9 := qb9.1
      try have qz9 := qb9.2
      refine ⟨_, rfl, ?_⟩
      refine R_lo (nx := 14) (ls' := [(2, 0), (0, i), (0, j), (0, o), (0, k), (0, n), (2, (-1)), (2, (63 + 2 * o))]) rfl rfl rfl rfl ?_
      refine R_lo (nx := 16) rfl rfl rfl rfl ?_
      refine R_ifnull (nx := 19) (tg := 24) rfl rfl rfl (fun h => ?_) (fun h => absurd (by decide) h)
      refine R_op (nx := 25) rfl rfl rfl ?_
      refine R_ret rfl (fun _ _ => rfl) rfl rfl ?_
      rw [show Q_copy A i j o k n = ((-1), A) from by simp only [Q_copy, b2, b9_1, ifo, ifm, ifp, iffq, ↓reduceIte, ite_self, and_self, and_true, true_and, and_false, false_and, or_true, true_or, or_false, false_or, or_self, not_true_eq_false, not_false_eq_true, ne_eq]]; exact ⟨rfl, hRC, fun b _ => rfl⟩
    ·
      try have ka9 := kb9.1
      try have kz9 := kb9.2.1
      try have qa9 := qb9.1
      try have qz9 := qb9.2
      refine ⟨_, rfl, ?_⟩
      refine R_lo (nx := 14) (ls' := [(2, 0), (0, i), (0, j), (0, o), (0, k), (0, n), (2, (-1)), (2, (-1))]) rfl rfl rfl rfl ?_
      refine R_lo (nx := 16) rfl rfl rfl rfl ?_
      refine R_ifnull (nx := 19) (tg := 24) rfl rfl rfl (fun h => ?_) (fun h => absurd (by decide) h)
      refine R_op (nx := 25) rfl rfl rfl ?_
      refine R_ret rfl (fun _ _ => rfl) rfl rfl ?_
      rw [show Q_copy A i j o k n = ((-1), A) from by simp only [Q_copy, b2, b9_1, ifo, ifm, ifp, iffq, ↓reduceIte, ite_self, and_self, and_true, true_and, and_false, false_and, or_true, true_or, or_false, false_or, or_self, not_true_eq_false, not_false_eq_true, ne_eq]]; exact ⟨rfl, hRC, fun b _ => rfl⟩
