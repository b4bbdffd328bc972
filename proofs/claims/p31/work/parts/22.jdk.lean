/-! Small methods of the library, and rows read and written with care. -/
theorem R_alen {cd : List mm_E} {pc len r2 : Nat} {r3 : Int} {ls st : List mm_V} {S : mm_S} {Q : Option mm_V → mm_S → Prop} {a : Int} {n t nx : Nat} (hf : mm_find cd pc = some (pc, .arraylength, len, 0, r2, r3)) (hn : pc + len = nx) (ha : 0 ≤ a) (hk : mm_kd a.toNat = (t, n)) (ht : 0 < t ∧ t < 7) (k : Rn cd nx ls ((0, (n : Int)) :: st) S Q) : Rn cd pc ls ((2, a) :: st) S Q := by
  subst hn
  refine Rn.op _ hf ?_ k
  show (if 0 ≤ a ∧ 0 < (mm_kd a.toNat).1 ∧ (mm_kd a.toNat).1 < 7 then some (pc + len, (0, ((mm_kd a.toNat).2 : Int)) :: st, S) else none) = _
  rw [hk, if_pos ⟨ha, ht.1, ht.2⟩]
theorem R_cv {cd : List mm_E} {pc : Nat} {ls st : List mm_V} {S : mm_S} {Q : Option mm_V → mm_S → Prop} {t : Nat} {v w : Int} (h : v = w) (k : Rn cd pc ls ((t, w) :: st) S Q) : Rn cd pc ls ((t, v) :: st) S Q := by
  subst h; exact k
theorem R_S {cd : List mm_E} {pc : Nat} {ls st : List mm_V} {S S' : mm_S} {Q : Option mm_V → mm_S → Prop} (h : S = S') (k : Rn cd pc ls st S' Q) : Rn cd pc ls st S Q := by
  subst h; exact k
theorem mm_lc_lt (x y : Int) : mm_cnd .lt (if y < x then 1 else if x = y then 0 else -1) 0 = true ↔ x < y := by
  rw [mm_cnd_lt]; repeat' split
  all_goals omega
theorem mm_lc_ge (x y : Int) : mm_cnd .ge (if y < x then 1 else if x = y then 0 else -1) 0 = true ↔ y ≤ x := by
  rw [mm_cnd_ge]; repeat' split
  all_goals omega
theorem mm_lc_gt (x y : Int) : mm_cnd .gt (if y < x then 1 else if x = y then 0 else -1) 0 = true ↔ y < x := by
  rw [mm_cnd_gt]; repeat' split
  all_goals omega
theorem mm_lc_le (x y : Int) : mm_cnd .le (if y < x then 1 else if x = y then 0 else -1) 0 = true ↔ x ≤ y := by
  rw [mm_cnd_le]; repeat' split
  all_goals omega
theorem mm_lc_eq (x y : Int) : mm_cnd .eq (if y < x then 1 else if x = y then 0 else -1) 0 = true ↔ x = y := by
  rw [mm_cnd_eq]; repeat' split
  all_goals omega
theorem mm_lc_ne (x y : Int) : mm_cnd .ne (if y < x then 1 else if x = y then 0 else -1) 0 = true ↔ ¬ x = y := by
  rw [mm_cnd_ne]; repeat' split
  all_goals omega
theorem mm_xs {x y : Int} (hy : 0 ≤ y ∧ y < 2147483648) (hx : mm_r32 x) : (Int32.ofInt x ^^^ Int32.ofInt y).toInt < 0 ↔ x < 0 := by
  have e : ∀ z : Int32, z.toInt < 0 ↔ z.toBitVec.msb = true := fun z => by
    rw [BitVec.msb_eq_toInt]; exact decide_eq_true_iff.symm
  rw [e, Int32.toBitVec_xor, BitVec.msb_xor]
  have h1 : (Int32.ofInt x).toBitVec.msb = true ↔ x < 0 := by rw [← e, Int32.toInt_ofInt_of_le hx.1 hx.2]
  have h2 : (Int32.ofInt y).toBitVec.msb = false := by
    have : ¬ (Int32.ofInt y).toBitVec.msb = true := by rw [← e, Int32.toInt_ofInt_of_le (by omega) hy.2]; omega
    simpa using this
  rw [h2, Bool.xor_false]
  exact h1
theorem fm_c {x y : Int} (hy : 0 < y) : (0 ≤ x → Int.tmod x y = x % y) ∧ (x < 0 → -y < Int.tmod x y ∧ Int.tmod x y ≤ 0 ∧ (Int.tmod x y = 0 → x % y = 0) ∧ (Int.tmod x y ≠ 0 → x % y = Int.tmod x y + y)) := by
  have e := Int.tmod_eq_emod (a := x) (b := y)
  have h1 := Int.emod_nonneg x (b := y) (by omega)
  have h2 := Int.emod_lt_of_pos x hy
  refine ⟨fun h => ?_, fun h => ?_⟩
  · rw [e, if_pos (Or.inl h)]; omega
  · by_cases hd : y ∣ x
    · have h3 := Int.emod_eq_zero_of_dvd hd
      rw [if_pos (Or.inr hd)] at e
      omega
    · have h3 : x % y ≠ 0 := fun q => hd (Int.dvd_of_emod_eq_zero q)
      rw [if_neg (by intro q; rcases q with q | q; omega; exact hd q)] at e
      omega
/-- bits of a small number -/
def pcN : Nat → Nat → Nat
  | 0, _ => 0
  | k + 1, n => n % 2 + pcN k (n / 2)
def pc12 (x : Int) : Int := pcN 12 x.toNat

set_option maxRecDepth 20000 in
set_option maxHeartbeats 4000000 in
theorem c_Ma_max (S : mm_S) (x y : Int) : Cl 186 [(0, x), (0, y)] S (fun v S' => v = some (0, max x y) ∧ S = S') := by
  refine ⟨Nat.le_of_ble_eq_true rfl, ?_⟩
  show Rn k_Ma_max 0 [(0, x), (0, y)] [] S _
  refine R_lo (nx := 1) rfl rfl rfl rfl ?_
  refine R_lo (nx := 2) rfl rfl rfl rfl ?_
  refine R_icmp (nx := 5) (tg := 9) rfl rfl rfl (mm_cnd_lt _ _) (fun c2 => ?_) (fun c2 => ?_)
  ·
    refine R_lo (nx := 10) rfl rfl rfl rfl ?_
    refine R_ret rfl (fun _ _ => rfl) rfl rfl ?_
    first | exact ⟨by rw [Int.max_eq_right (by omega)], rfl⟩ | exact ⟨by rw [Int.max_eq_left (by omega)], rfl⟩
  ·
    refine R_lo (nx := 6) rfl rfl rfl rfl ?_
    refine R_op (nx := 9) (pc' := 10) rfl rfl rfl ?_
    refine R_ret rfl (fun _ _ => rfl) rfl rfl ?_
    first | exact ⟨by rw [Int.max_eq_right (by omega)], rfl⟩ | exact ⟨by rw [Int.max_eq_left (by omega)], rfl⟩

set_option maxRecDepth 20000 in
set_option maxHeartbeats 4000000 in
theorem c_Ma_min (S : mm_S) (x y : Int) : Cl 187 [(0, x), (0, y)] S (fun v S' => v = some (0, min x y) ∧ S = S') := by
  refine ⟨Nat.le_of_ble_eq_true rfl, ?_⟩
  show Rn k_Ma_min 0 [(0, x), (0, y)] [] S _
  refine R_lo (nx := 1) rfl rfl rfl rfl ?_
  refine R_lo (nx := 2) rfl rfl rfl rfl ?_
  refine R_icmp (nx := 5) (tg := 9) rfl rfl rfl (mm_cnd_gt _ _) (fun c2 => ?_) (fun c2 => ?_)
  ·
    refine R_lo (nx := 10) rfl rfl rfl rfl ?_
    refine R_ret rfl (fun _ _ => rfl) rfl rfl ?_
    first | exact ⟨by rw [Int.min_eq_right (by omega)], rfl⟩ | exact ⟨by rw [Int.min_eq_left (by omega)], rfl⟩
  ·
    refine R_lo (nx := 6) rfl rfl rfl rfl ?_
    refine R_op (nx := 9) (pc' := 10) rfl rfl rfl ?_
    refine R_ret rfl (fun _ _ => rfl) rfl rfl ?_
    first | exact ⟨by rw [Int.min_eq_right (by omega)], rfl⟩ | exact ⟨by rw [Int.min_eq_left (by omega)], rfl⟩

set_option maxRecDepth 20000 in
set_option maxHeartbeats 4000000 in
theorem c_Ma_abs (S : mm_S) (x : Int) (hx : -2147483648 < x ∧ x < 2147483648) : Cl 184 [(0, x)] S (fun v S' => v = some (0, if x < 0 then -x else x) ∧ S = S') := by
  refine ⟨Nat.le_of_ble_eq_true rfl, ?_⟩
  show Rn k_Ma_abs 0 [(0, x)] [] S _
  refine R_lo (nx := 1) rfl rfl rfl rfl ?_
  refine R_if (nx := 4) (tg := 9) rfl rfl rfl (mm_cnd_ge _ _) (fun c1 => ?_) (fun c1 => ?_)
  ·
    refine R_lo (nx := 10) rfl rfl rfl rfl ?_
    refine R_ret rfl (fun _ _ => rfl) rfl rfl ?_
    first | exact ⟨by rw [if_pos (by omega)], rfl⟩ | exact ⟨by rw [if_neg (by omega)], rfl⟩
  ·
    refine R_lo (nx := 5) rfl rfl rfl rfl ?_
    refine R_ineg (nx := 6) (z := (-x)) rfl rfl rfl ⟨by omega, by omega⟩ ?_
    refine R_op (nx := 9) (pc' := 10) rfl rfl rfl ?_
    refine R_ret rfl (fun _ _ => rfl) rfl rfl ?_
    first | exact ⟨by rw [if_pos (by omega)], rfl⟩ | exact ⟨by rw [if_neg (by omega)], rfl⟩

set_option maxRecDepth 20000 in
set_option maxHeartbeats 4000000 in
theorem c_In_compare (S : mm_S) (x y : Int) : Cl 183 [(0, x), (0, y)] S (fun v S' => v = some (0, if x < y then -1 else if x = y then 0 else 1) ∧ S = S') := by
  refine ⟨Nat.le_of_ble_eq_true rfl, ?_⟩
  show Rn k_In_compare 0 [(0, x), (0, y)] [] S _
  refine R_lo (nx := 1) rfl rfl rfl rfl ?_
  refine R_lo (nx := 2) rfl rfl rfl rfl ?_
  refine R_icmp (nx := 5) (tg := 9) rfl rfl rfl (mm_cnd_ge _ _) (fun c2 => ?_) (fun c2 => ?_)
  ·
    refine R_lo (nx := 10) rfl rfl rfl rfl ?_
    refine R_lo (nx := 11) rfl rfl rfl rfl ?_
    refine R_icmp (nx := 14) (tg := 18) rfl rfl rfl (mm_cnd_ne _ _) (fun c11 => ?_) (fun c11 => ?_)
    ·
      refine R_op (nx := 19) rfl rfl rfl ?_
      refine R_ret rfl (fun _ _ => rfl) rfl rfl ?_
      first | exact ⟨by rw [if_pos (by omega)], rfl⟩ | exact ⟨by rw [if_neg (by omega), if_pos (by omega)], rfl⟩ | exact ⟨by rw [if_neg (by omega), if_neg (by omega)], rfl⟩
    ·
      replace c11 := Classical.not_not.mp c11
      refine R_op (nx := 15) rfl rfl rfl ?_
      refine R_op (nx := 18) (pc' := 19) rfl rfl rfl ?_
      refine R_ret rfl (fun _ _ => rfl) rfl rfl ?_
      first | exact ⟨by rw [if_pos (by omega)], rfl⟩ | exact ⟨by rw [if_neg (by omega), if_pos (by omega)], rfl⟩ | exact ⟨by rw [if_neg (by omega), if_neg (by omega)], rfl⟩
  ·
    refine R_op (nx := 6) rfl rfl rfl ?_
    refine R_op (nx := 9) (pc' := 19) rfl rfl rfl ?_
    refine R_ret rfl (fun _ _ => rfl) rfl rfl ?_
    first | exact ⟨by rw [if_pos (by omega)], rfl⟩ | exact ⟨by rw [if_neg (by omega), if_pos (by omega)], rfl⟩ | exact ⟨by rw [if_neg (by omega), if_neg (by omega)], rfl⟩

set_option maxRecDepth 20000 in
set_option maxHeartbeats 4000000 in
theorem c_Ma_floorMod (S : mm_S) (x y : Int) (hy : 0 < y ∧ y < 1000) (hx : mm_r32 x) : Cl 185 [(0, x), (0, y)] S (fun v S' => v = some (0, x % y) ∧ S = S') := by
  refine ⟨Nat.le_of_ble_eq_true rfl, ?_⟩
  show Rn k_Ma_floorMod 0 [(0, x), (0, y), (9, 0)] [] S _
  have hxs := mm_xs (x := x) (y := y) (by omega) hx
  have ht := fm_c (x := x) hy.1
  refine R_lo (nx := 1) rfl rfl rfl rfl ?_
  refine R_lo (nx := 2) rfl rfl rfl rfl ?_
  refine R_irem (nx := 3) (z := (Int.tmod x y)) rfl rfl (by omega) rfl ?_
  refine R_lo (nx := 4) (ls' := [(0, x), (0, y), (0, (Int.tmod x y))]) rfl rfl rfl rfl ?_
  refine R_lo (nx := 5) rfl rfl rfl rfl ?_
  refine R_lo (nx := 6) rfl rfl rfl rfl ?_
  refine R_op (nx := 7) (st' := [(0, (Int32.ofInt x ^^^ Int32.ofInt y).toInt)]) rfl rfl rfl ?_
  refine R_if (nx := 10) (tg := 18) rfl rfl rfl (mm_cnd_ge _ _) (fun c7 => ?_) (fun c7 => ?_)
  ·
    refine R_lo (nx := 19) rfl rfl rfl rfl ?_
    refine R_ret rfl (fun _ _ => rfl) rfl rfl ?_
    refine ⟨?_, rfl⟩
    rw [show x % y = (Int.tmod x y) by omega]
  ·
    refine R_lo (nx := 11) rfl rfl rfl rfl ?_
    refine R_if (nx := 14) (tg := 18) rfl rfl rfl (mm_cnd_eq _ _) (fun c11 => ?_) (fun c11 => ?_)
    ·
      refine R_lo (nx := 19) rfl rfl rfl rfl ?_
      refine R_ret rfl (fun _ _ => rfl) rfl rfl ?_
      refine ⟨?_, rfl⟩
      rw [show x % y = (Int.tmod x y) by omega]
    ·
      refine R_lo (nx := 15) rfl rfl rfl rfl ?_
      refine R_lo (nx := 16) rfl rfl rfl rfl ?_
      refine R_iadd (nx := 17) (z := ((Int.tmod x y) + y)) rfl rfl rfl ⟨by omega, by omega⟩ ?_
      refine R_ret rfl (fun _ _ => rfl) rfl rfl ?_
      refine ⟨?_, rfl⟩
      rw [show x % y = ((Int.tmod x y) + y) by omega]

set_option maxRecDepth 20000 in
set_option maxHeartbeats 4000000 in
theorem c_P_get (S : mm_S) (a : Int) (n : Nat) (hk : 0 ≤ a ∧ mm_kd a.toNat = (1, n)) (hn : n < 100000) (i : Int) : Cl 38 [(2, a), (0, i)] S (fun v S' => v = some (0, if 0 ≤ i ∧ i < (n : Int) then S a i else 0) ∧ S = S') := by
  refine ⟨Nat.le_of_ble_eq_true rfl, ?_⟩
  show Rn k_P_get 0 [(2, a), (0, i)] [] S _
  refine R_lo (nx := 1) rfl rfl rfl rfl ?_
  refine R_if (nx := 4) (tg := 16) rfl rfl rfl (mm_cnd_lt _ _) (fun c1 => ?_) (fun c1 => ?_)
  ·
    refine R_op (nx := 17) rfl rfl rfl ?_
    refine R_ret rfl (fun _ _ => rfl) rfl rfl ?_
    first | exact ⟨by rw [if_pos (by omega)], rfl⟩ | exact ⟨by rw [if_neg (by omega)], rfl⟩
  ·
    refine R_lo (nx := 5) rfl rfl rfl rfl ?_
    refine R_lo (nx := 6) rfl rfl rfl rfl ?_
    refine R_alen (nx := 7) rfl rfl hk.1 hk.2 (by decide) ?_
    refine R_icmp (nx := 10) (tg := 16) rfl rfl rfl (mm_cnd_ge _ _) (fun c7 => ?_) (fun c7 => ?_)
    ·
      refine R_op (nx := 17) rfl rfl rfl ?_
      refine R_ret rfl (fun _ _ => rfl) rfl rfl ?_
      first | exact ⟨by rw [if_pos (by omega)], rfl⟩ | exact ⟨by rw [if_neg (by omega)], rfl⟩
    ·
      refine R_lo (nx := 11) rfl rfl rfl rfl ?_
      refine R_lo (nx := 12) rfl rfl rfl rfl ?_
      refine R_iald (nx := 13) rfl rfl (mm_el_ok 1 n hk.1 hk.2 (by decide) (by omega) (by omega)) ?_
      refine R_op (nx := 16) (pc' := 17) rfl rfl rfl ?_
      refine R_ret rfl (fun _ _ => rfl) rfl rfl ?_
      first | exact ⟨by rw [if_pos (by omega)], rfl⟩ | exact ⟨by rw [if_neg (by omega)], rfl⟩

theorem c_P_get_in (S : mm_S) (a : Int) (n : Nat) (hk : 0 ≤ a ∧ mm_kd a.toNat = (1, n)) (hn : n < 100000) (i : Int) (hi : 0 ≤ i ∧ i < (n : Int)) : Cl 38 [(2, a), (0, i)] S (fun v S' => v = some (0, S a i) ∧ S = S') := (c_P_get S a n hk hn i).mono fun v S' h => by rw [if_pos hi] at h; exact h

set_option maxRecDepth 20000 in
set_option maxHeartbeats 4000000 in
theorem c_P_set (S : mm_S) (a : Int) (n : Nat) (hk : 0 ≤ a ∧ mm_kd a.toNat = (1, n)) (hn : n < 100000) (i v : Int) (hi : 0 ≤ i ∧ i < (n : Int)) : Cl 39 [(2, a), (0, i), (0, v)] S (fun w S' => w = none ∧ S' = mm_up S a i v) := by
  refine ⟨Nat.le_of_ble_eq_true rfl, ?_⟩
  show Rn k_P_set 0 [(2, a), (0, i), (0, v)] [] S _
  refine R_lo (nx := 1) rfl rfl rfl rfl ?_
  refine R_if (nx := 4) (tg := 14) rfl rfl rfl (mm_cnd_lt _ _) (fun c1 => ?_) (fun c1 => ?_)
  ·
    exfalso
    omega
  ·
    refine R_lo (nx := 5) rfl rfl rfl rfl ?_
    refine R_lo (nx := 6) rfl rfl rfl rfl ?_
    refine R_alen (nx := 7) rfl rfl hk.1 hk.2 (by decide) ?_
    refine R_icmp (nx := 10) (tg := 14) rfl rfl rfl (mm_cnd_ge _ _) (fun c7 => ?_) (fun c7 => ?_)
    ·
      exfalso
      omega
    ·
      refine R_lo (nx := 11) rfl rfl rfl rfl ?_
      refine R_lo (nx := 12) rfl rfl rfl rfl ?_
      refine R_lo (nx := 13) rfl rfl rfl rfl ?_
      refine R_iast (nx := 14) rfl rfl (mm_el_ok 1 n hk.1 hk.2 (by decide) (by omega) (by omega)) ?_
      refine R_ret rfl (fun _ _ => rfl) rfl rfl ?_
      exact ⟨rfl, rfl⟩

set_option maxRecDepth 20000 in
set_option maxHeartbeats 4000000 in
theorem c_Ar_fill (S : mm_S) (a : Int) (n : Nat) (hk : 0 ≤ a ∧ mm_kd a.toNat = (1, n)) (hn : n < 100000) (v : Int) : Cl 188 [(2, a), (0, v)] S (fun w S' => w = none ∧ (∀ j, 0 ≤ j → j < (n : Int) → S' a j = v) ∧ ∀ b, b ≠ a → S' b = S b) := by
  refine ⟨Nat.le_of_ble_eq_true rfl, ?_⟩
  show Rn k_Ar_fill 0 [(2, a), (0, v), (9, 0), (9, 0)] [] S _
  refine R_op (nx := 1) rfl rfl rfl ?_
  refine R_lo (nx := 2) (ls' := [(2, a), (0, v), (0, 0), (9, 0)]) rfl rfl rfl rfl ?_
  refine R_lo (nx := 3) rfl rfl rfl rfl ?_
  refine R_alen (nx := 4) rfl rfl hk.1 hk.2 (by decide) ?_
  refine R_lo (nx := 5) (ls' := [(2, a), (0, v), (0, 0), (0, (n : Int))]) rfl rfl rfl rfl ?_
  have L5 : ∀ (f5 : Nat) (S1 : mm_S) (i : Int), ((n : Int) - i).toNat < f5 → (0 ≤ i ∧ i ≤ (n : Int)) → (∀ j, 0 ≤ j → j < i → S1 a j = v) → (∀ b, b ≠ a → S1 b = S b) → Rn k_Ar_fill 5 [(2, a), (0, v), (0, i), (0, (n : Int))] [] S1 (fun w S' => w = none ∧ (∀ j, 0 ≤ j → j < (n : Int) → S' a j = v) ∧ ∀ b, b ≠ a → S' b = S b) := by
    intro f5
    induction f5 with
    | zero => intro S1 i hm5; exact absurd hm5 (Nat.not_lt_zero _)
    | succ f5 ih5 =>
      intro S1 i hm5 hi ha hf
      refine R_lo (nx := 6) rfl rfl rfl rfl ?_
      refine R_lo (nx := 7) rfl rfl rfl rfl ?_
      refine R_icmp (nx := 10) (tg := 20) rfl rfl rfl (mm_cnd_ge _ _) (fun c7 => ?_) (fun c7 => ?_)
      ·
        refine R_ret rfl (fun _ _ => rfl) rfl rfl ?_
        exact ⟨rfl, fun j h1 h2 => ha j h1 (by omega), hf⟩
      ·
        refine R_lo (nx := 11) rfl rfl rfl rfl ?_
        refine R_lo (nx := 12) rfl rfl rfl rfl ?_
        refine R_lo (nx := 13) rfl rfl rfl rfl ?_
        refine R_iast (nx := 14) rfl rfl (mm_el_ok 1 n hk.1 hk.2 (by decide) (by omega) (by omega)) ?_
        refine R_iinc (nx := 17) (z := (i + 1)) (ls' := [(2, a), (0, v), (0, (i + 1)), (0, (n : Int))]) rfl rfl rfl rfl ⟨by omega, by omega⟩ rfl ?_
        refine R_op (nx := 20) (pc' := 5) rfl rfl rfl ?_
        refine Rn.weak (ls' := [(2, a), (0, v), (0, (i + 1)), (0, (n : Int))]) ⟨Or.inl rfl, ⟨Or.inl rfl, ⟨Or.inl rfl, ⟨Or.inl rfl, trivial⟩⟩⟩⟩ ?_
        refine ih5 ((mm_up S1 a i v)) ((i + 1)) ?_ ?_ ?_ ?_
        · omega
        · omega
        · intro j h1 h2
          by_cases e : j = i
          · rw [e, mm_ua]
          · rw [mm_uk e]; exact ha j h1 (by omega)
        · intro b hb; rw [mm_unq hb]; exact hf b hb
  refine Rn.weak (ls' := [(2, a), (0, v), (0, 0), (0, (n : Int))]) ⟨Or.inl rfl, ⟨Or.inl rfl, ⟨Or.inl rfl, ⟨Or.inl rfl, trivial⟩⟩⟩⟩ ?_
  refine L5 (((n : Int) - (0)).toNat + 1) (S) (0) (Nat.lt_succ_self _) ?_ ?_ ?_
  · omega
  · intro j h1 h2; omega
  · intro b hb; rfl

set_option maxRecDepth 20000 in
set_option maxHeartbeats 4000000 in
theorem c_Ar_fillL (S : mm_S) (a : Int) (n : Nat) (hk : 0 ≤ a ∧ mm_kd a.toNat = (2, n)) (hn : n < 100000) (v : Int) : Cl 189 [(2, a), (1, v)] S (fun w S' => w = none ∧ (∀ j, 0 ≤ j → j < (n : Int) → S' a j = v) ∧ ∀ b, b ≠ a → S' b = S b) := by
  refine ⟨Nat.le_of_ble_eq_true rfl, ?_⟩
  show Rn k_Ar_fillL 0 [(2, a), (1, v), (9, 0), (9, 0), (9, 0)] [] S _
  refine R_op (nx := 1) rfl rfl rfl ?_
  refine R_lo (nx := 2) (ls' := [(2, a), (1, v), (9, 0), (0, 0), (9, 0)]) rfl rfl rfl rfl ?_
  refine R_lo (nx := 3) rfl rfl rfl rfl ?_
  refine R_alen (nx := 4) rfl rfl hk.1 hk.2 (by decide) ?_
  refine R_lo (nx := 6) (ls' := [(2, a), (1, v), (9, 0), (0, 0), (0, (n : Int))]) rfl rfl rfl rfl ?_
  have L6 : ∀ (f6 : Nat) (S1 : mm_S) (i : Int), ((n : Int) - i).toNat < f6 → (0 ≤ i ∧ i ≤ (n : Int)) → (∀ j, 0 ≤ j → j < i → S1 a j = v) → (∀ b, b ≠ a → S1 b = S b) → Rn k_Ar_fillL 6 [(2, a), (1, v), (9, 0), (0, i), (0, (n : Int))] [] S1 (fun w S' => w = none ∧ (∀ j, 0 ≤ j → j < (n : Int) → S' a j = v) ∧ ∀ b, b ≠ a → S' b = S b) := by
    intro f6
    induction f6 with
    | zero => intro S1 i hm6; exact absurd hm6 (Nat.not_lt_zero _)
    | succ f6 ih6 =>
      intro S1 i hm6 hi ha hf
      refine R_lo (nx := 7) rfl rfl rfl rfl ?_
      refine R_lo (nx := 9) rfl rfl rfl rfl ?_
      refine R_icmp (nx := 12) (tg := 22) rfl rfl rfl (mm_cnd_ge _ _) (fun c9 => ?_) (fun c9 => ?_)
      ·
        refine R_ret rfl (fun _ _ => rfl) rfl rfl ?_
        exact ⟨rfl, fun j h1 h2 => ha j h1 (by omega), hf⟩
      ·
        refine R_lo (nx := 13) rfl rfl rfl rfl ?_
        refine R_lo (nx := 14) rfl rfl rfl rfl ?_
        refine R_lo (nx := 15) rfl rfl rfl rfl ?_
        refine R_last (nx := 16) rfl rfl (mm_el_ok 2 n hk.1 hk.2 (by decide) (by omega) (by omega)) ?_
        refine R_iinc (nx := 19) (z := (i + 1)) (ls' := [(2, a), (1, v), (9, 0), (0, (i + 1)), (0, (n : Int))]) rfl rfl rfl rfl ⟨by omega, by omega⟩ rfl ?_
        refine R_op (nx := 22) (pc' := 6) rfl rfl rfl ?_
        refine Rn.weak (ls' := [(2, a), (1, v), (9, 0), (0, (i + 1)), (0, (n : Int))]) ⟨Or.inl rfl, ⟨Or.inl rfl, ⟨Or.inl rfl, ⟨Or.inl rfl, ⟨Or.inl rfl, trivial⟩⟩⟩⟩⟩ ?_
        refine ih6 ((mm_up S1 a i v)) ((i + 1)) ?_ ?_ ?_ ?_
        · omega
        · omega
        · intro j h1 h2
          by_cases e : j = i
          · rw [e, mm_ua]
          · rw [mm_uk e]; exact ha j h1 (by omega)
        · intro b hb; rw [mm_unq hb]; exact hf b hb
  refine Rn.weak (ls' := [(2, a), (1, v), (9, 0), (0, 0), (0, (n : Int))]) ⟨Or.inl rfl, ⟨Or.inl rfl, ⟨Or.inl rfl, ⟨Or.inl rfl, ⟨Or.inl rfl, trivial⟩⟩⟩⟩⟩ ?_
  refine L6 (((n : Int) - (0)).toNat + 1) (S) (0) (Nat.lt_succ_self _) ?_ ?_ ?_
  · omega
  · intro j h1 h2; omega
  · intro b hb; rfl
