/-! Everything together; what is kept. -/
def foN (f : Int → Int → Int) (z : Int) : Nat → Int
  | 0 => z
  | k + 1 => f k (foN f z k)
def fo (f : Int → Int → Int) (z n : Int) : Int := foN f z n.toNat
theorem fo_s (f : Int → Int → Int) (z : Int) {n : Int} (h : 0 ≤ n) : fo f z (n + 1) = f n (fo f z n) := by
  obtain ⟨k, rfl⟩ : ∃ k : Nat, n = k := ⟨n.toNat, by omega⟩
  rfl
def orb (i a : Int) : Int := (Int32.ofInt a ||| Int32.ofInt (Int32.ofInt 1 <<< (Int32.ofInt i &&& 31)).toInt).toInt
def bits (g : Int → Int) (n : Int) : Int := fo (fun i a => if g i ≠ 0 then orb i a else a) 0 n
theorem bits_1 {g : Int → Int} {n : Int} (h : 0 ≤ n) (e : g n ≠ 0) : bits g (n + 1) = orb n (bits g n) := (fo_s _ _ h).trans (if_pos e)
theorem bits_0 {g : Int → Int} {n : Int} (h : 0 ≤ n) (e : g n = 0) : bits g (n + 1) = bits g n := (fo_s _ _ h).trans (if_neg fun q => q e)
theorem i32r (x : Int32) : mm_r32 x.toInt := ⟨x.le_toInt, by have := x.toInt_lt; omega⟩
theorem bits_r (g : Int → Int) (n : Int) : mm_r32 (bits g n) := by
  unfold bits fo
  induction n.toNat with
  | zero => show mm_r32 0; exact ⟨by decide, by decide⟩
  | succ k ih =>
    show mm_r32 (if g k ≠ 0 then orb k (foN _ 0 k) else foN _ 0 k)
    split
    · exact i32r _
    · exact ih
theorem or_z {a : Int} (h : mm_r32 a) : (Int32.ofInt a ||| Int32.ofInt 0).toInt = a := by
  rw [show Int32.ofInt 0 = 0 from rfl, Int32.or_zero]
  exact Int32.toInt_ofInt_of_le h.1 (by have := h.2; omega)
def mg (A : mm_A) (w : Int) : Int → Int := fun i => if w = 2 then Xfb (AK A i) else Xn (AK A i)
def Q_many (A : mm_A) (w : Int) : Int × mm_A := if w = 0 then (sm (fun i => Xn (AK A i)) 4, A) else if w = 1 then (bits (mg A 1) 4, A) else if w = 2 then (bits (mg A 2) 4, A) else if w = 3 then (AL A, A) else (-1, A)
def Q_keep (A : mm_A) : Int × mm_A := (1, Akq A)
def Q_again (A : mm_A) : Int × mm_A := if Af A = 0 then (-3, A) else (sm (fun i => Xn (AQ A i)) 4, Aag A)

set_option maxRecDepth 20000 in
set_option maxHeartbeats 4000000 in
theorem c_P_cellsTogether (S : mm_S) (A : mm_A) (hRC : RC S A) : Cl 44 [(2, 0)] S (fun v S' => v = some (0, sm (fun i => Xn (AK A i)) 4) ∧ S = S') := by
  refine ⟨Nat.le_of_ble_eq_true rfl, ?_⟩
  show Rn k_P_cellsTogether 0 [(2, 0), (9, 0), (9, 0)] [] S _
  refine R_op (nx := 1) rfl rfl rfl ?_
  refine R_lo (nx := 2) (ls' := [(2, 0), (0, 0), (9, 0)]) rfl rfl rfl rfl ?_
  refine R_op (nx := 3) rfl rfl rfl ?_
  refine R_lo (nx := 4) (ls' := [(2, 0), (0, 0), (0, 0)]) rfl rfl rfl rfl ?_
  have L4 : ∀ (f4 : Nat) (acc : Int) (i : Int), ((4 : Int) - i).toNat < f4 → (0 ≤ i ∧ i ≤ 4) → (0 ≤ acc ∧ acc ≤ 12 * i) → (acc = sm (fun i => Xn (AK A i)) i) → Rn k_P_cellsTogether 4 [(2, 0), (0, acc), (0, i)] [] S (fun v S' => v = some (0, sm (fun i => Xn (AK A i)) 4) ∧ S = S') := by
    intro f4
    induction f4 with
    | zero => intro acc i hm4; exact absurd hm4 (Nat.not_lt_zero _)
    | succ f4 ih4 =>
      intro acc i hm4 hi hb ha
      refine R_lo (nx := 5) rfl rfl rfl rfl ?_
      refine R_op (nx := 6) rfl rfl rfl ?_
      refine R_icmp (nx := 9) (tg := 27) rfl rfl rfl (mm_cnd_ge _ _) (fun c6 => ?_) (fun c6 => ?_)
      ·
        refine R_lo (nx := 28) rfl rfl rfl rfl ?_
        refine R_ret rfl (fun _ _ => rfl) rfl rfl ?_
        exact ⟨by rw [ha, show i = 4 by omega], rfl⟩
      ·
        have ki := hRC.k (c := i) (by omega) (by omega)
        have ni := ki.n
        have zi := ki.nr
        refine R_lo (nx := 10) rfl rfl rfl rfl ?_
        refine R_lo (nx := 11) rfl rfl rfl rfl ?_
        refine R_get (nx := 14) (w := (2, 1)) rfl rfl rfl rfl ?_
        refine R_lo (nx := 15) rfl rfl rfl rfl ?_
        refine R_aald (nx := 16) (z := (23 + 10 * i)) rfl rfl (mm_el_ok 5 4 (by decide) rfl (by decide) (by omega) (by omega)) rfl ?_
        refine R_get (nx := 19) (w := (0, (S (23 + 10 * i) 0))) rfl rfl (isC_ob (isC_c (by omega) (by omega))) rfl ?_
        rw [ni]
        refine R_iadd (nx := 20) (z := (acc + (Xn (AK A i)))) rfl rfl rfl ⟨by omega, by omega⟩ ?_
        refine R_lo (nx := 21) (ls' := [(2, 0), (0, (acc + (Xn (AK A i)))), (0, i)]) rfl rfl rfl rfl ?_
        refine R_iinc (nx := 24) (z := (i + 1)) (ls' := [(2, 0), (0, (acc + (Xn (AK A i)))), (0, (i + 1))]) rfl rfl rfl rfl ⟨by omega, by omega⟩ rfl ?_
        refine R_op (nx := 27) (pc' := 4) rfl rfl rfl ?_
        refine Rn.weak (ls' := [(2, 0), (0, (acc + (Xn (AK A i)))), (0, (i + 1))]) ⟨Or.inl rfl, ⟨Or.inl rfl, ⟨Or.inl rfl, trivial⟩⟩⟩ ?_
        refine ih4 ((acc + (Xn (AK A i)))) ((i + 1)) ?_ ?_ ?_ ?_
        · omega
        · omega
        · omega
        · rw [sm_s _ hi.1, ← ha]
  refine Rn.weak (ls' := [(2, 0), (0, 0), (0, 0)]) ⟨Or.inl rfl, ⟨Or.inl rfl, ⟨Or.inl rfl, trivial⟩⟩⟩ ?_
  refine L4 (((4 : Int) - (0)).toNat + 1) (0) (0) (Nat.lt_succ_self _) ?_ ?_ ?_
  · omega
  · omega
  · rfl

set_option maxRecDepth 20000 in
set_option maxHeartbeats 4000000 in
theorem c_P_setOfComplexes0 (S : mm_S) (A : mm_A) (hRC : RC S A) (hV : Vs A) : Cl 45 [(2, 0), (0, 0)] S (fun v S' => v = some (0, bits (mg A 1) 4) ∧ S = S') := by
  refine ⟨Nat.le_of_ble_eq_true rfl, ?_⟩
  show Rn k_P_setOfComplexes 0 [(2, 0), (0, 0), (9, 0), (9, 0)] [] S _
  refine R_op (nx := 1) rfl rfl rfl ?_
  refine R_lo (nx := 2) (ls' := [(2, 0), (0, 0), (0, 0), (9, 0)]) rfl rfl rfl rfl ?_
  refine R_op (nx := 3) rfl rfl rfl ?_
  refine R_lo (nx := 4) (ls' := [(2, 0), (0, 0), (0, 0), (0, 0)]) rfl rfl rfl rfl ?_
  have L4 : ∀ (f4 : Nat) (acc : Int) (i : Int), ((4 : Int) - i).toNat < f4 → (0 ≤ i ∧ i ≤ 4) → (acc = bits (mg A 1) i) → Rn k_P_setOfComplexes 4 [(2, 0), (0, 0), (0, acc), (0, i)] [] S (fun v S' => v = some (0, bits (mg A 1) 4) ∧ S = S') := by
    intro f4
    induction f4 with
    | zero => intro acc i hm4; exact absurd hm4 (Nat.not_lt_zero _)
    | succ f4 ih4 =>
      intro acc i hm4 hi ha
      refine R_lo (nx := 5) rfl rfl rfl rfl ?_
      refine R_op (nx := 6) rfl rfl rfl ?_
      refine R_icmp (nx := 9) (tg := 52) rfl rfl rfl (mm_cnd_ge _ _) (fun c6 => ?_) (fun c6 => ?_)
      ·
        refine R_lo (nx := 53) rfl rfl rfl rfl ?_
        refine R_ret rfl (fun _ _ => rfl) rfl rfl ?_
        exact ⟨by rw [ha, show i = 4 by omega], rfl⟩
      ·
        have ki := hRC.k (c := i) (by omega) (by omega)
        have ni := ki.n
        have zi := ki.nr
        have vi := hV.1 i (by omega) (by omega)
        refine R_lo (nx := 10) rfl rfl rfl rfl ?_
        refine R_ifT (tg := 28) rfl rfl rfl ?_
        refine R_lo (nx := 29) rfl rfl rfl rfl ?_
        refine R_get (nx := 32) (w := (2, 1)) rfl rfl rfl rfl ?_
        refine R_lo (nx := 33) rfl rfl rfl rfl ?_
        refine R_aald (nx := 34) (z := (23 + 10 * i)) rfl rfl (mm_el_ok 5 4 (by decide) rfl (by decide) (by omega) (by omega)) rfl ?_
        refine R_get (nx := 37) (w := (0, (S (23 + 10 * i) 0))) rfl rfl (isC_ob (isC_c (by omega) (by omega))) rfl ?_
        rw [ni]
        refine R_if (nx := 40) (tg := 46) rfl rfl rfl (mm_cnd_le _ _) (fun c37 => ?_) (fun c37 => ?_)
        ·
          refine R_iinc (nx := 49) (z := (i + 1)) (ls' := [(2, 0), (0, 0), (0, acc), (0, (i + 1))]) rfl rfl rfl rfl ⟨by omega, by omega⟩ rfl ?_
          refine R_op (nx := 52) (pc' := 4) rfl rfl rfl ?_
          refine Rn.weak (ls' := [(2, 0), (0, 0), (0, acc), (0, (i + 1))]) ⟨Or.inl rfl, ⟨Or.inl rfl, ⟨Or.inl rfl, ⟨Or.inl rfl, trivial⟩⟩⟩⟩ ?_
          refine ih4 (acc) ((i + 1)) ?_ ?_ ?_
          · omega
          · omega
          · first | (rw [bits_1 hi.1 (show mg A 1 i ≠ 0 from by show Xn (AK A i) ≠ 0; omega), ← ha]; rfl) | (rw [bits_0 hi.1 (show mg A 1 i = 0 from by show Xn (AK A i) = 0; omega)]; exact ha)
        ·
          refine R_lo (nx := 41) rfl rfl rfl rfl ?_
          refine R_op (nx := 42) rfl rfl rfl ?_
          refine R_lo (nx := 43) rfl rfl rfl rfl ?_
          refine R_op (nx := 44) (st' := [(0, (Int32.ofInt 1 <<< (Int32.ofInt i &&& 31)).toInt), (0, acc)]) rfl rfl rfl ?_
          refine R_op (nx := 45) (st' := [(0, (Int32.ofInt acc ||| Int32.ofInt (Int32.ofInt 1 <<< (Int32.ofInt i &&& 31)).toInt).toInt)]) rfl rfl rfl ?_
          refine R_lo (nx := 46) (ls' := [(2, 0), (0, 0), (0, (Int32.ofInt acc ||| Int32.ofInt (Int32.ofInt 1 <<< (Int32.ofInt i &&& 31)).toInt).toInt), (0, i)]) rfl rfl rfl rfl ?_
          refine R_iinc (nx := 49) (z := (i + 1)) (ls' := [(2, 0), (0, 0), (0, (Int32.ofInt acc ||| Int32.ofInt (Int32.ofInt 1 <<< (Int32.ofInt i &&& 31)).toInt).toInt), (0, (i + 1))]) rfl rfl rfl rfl ⟨by omega, by omega⟩ rfl ?_
          refine R_op (nx := 52) (pc' := 4) rfl rfl rfl ?_
          refine Rn.weak (ls' := [(2, 0), (0, 0), (0, (Int32.ofInt acc ||| Int32.ofInt (Int32.ofInt 1 <<< (Int32.ofInt i &&& 31)).toInt).toInt), (0, (i + 1))]) ⟨Or.inl rfl, ⟨Or.inl rfl, ⟨Or.inl rfl, ⟨Or.inl rfl, trivial⟩⟩⟩⟩ ?_
          refine ih4 ((Int32.ofInt acc ||| Int32.ofInt (Int32.ofInt 1 <<< (Int32.ofInt i &&& 31)).toInt).toInt) ((i + 1)) ?_ ?_ ?_
          · omega
          · omega
          · first | (rw [bits_1 hi.1 (show mg A 1 i ≠ 0 from by show Xn (AK A i) ≠ 0; omega), ← ha]; rfl) | (rw [bits_0 hi.1 (show mg A 1 i = 0 from by show Xn (AK A i) = 0; omega)]; exact ha)
  refine Rn.weak (ls' := [(2, 0), (0, 0), (0, 0), (0, 0)]) ⟨Or.inl rfl, ⟨Or.inl rfl, ⟨Or.inl rfl, ⟨Or.inl rfl, trivial⟩⟩⟩⟩ ?_
  refine L4 (((4 : Int) - (0)).toNat + 1) (0) (0) (Nat.lt_succ_self _) ?_ ?_
  · omega
  · rfl

set_option maxRecDepth 20000 in
set_option maxHeartbeats 4000000 in
theorem c_P_setOfComplexes1 (S : mm_S) (A : mm_A) (hRC : RC S A) (hV : Vs A) : Cl 45 [(2, 0), (0, 1)] S (fun v S' => v = some (0, bits (mg A 2) 4) ∧ S = S') := by
  refine ⟨Nat.le_of_ble_eq_true rfl, ?_⟩
  show Rn k_P_setOfComplexes 0 [(2, 0), (0, 1), (9, 0), (9, 0)] [] S _
  refine R_op (nx := 1) rfl rfl rfl ?_
  refine R_lo (nx := 2) (ls' := [(2, 0), (0, 1), (0, 0), (9, 0)]) rfl rfl rfl rfl ?_
  refine R_op (nx := 3) rfl rfl rfl ?_
  refine R_lo (nx := 4) (ls' := [(2, 0), (0, 1), (0, 0), (0, 0)]) rfl rfl rfl rfl ?_
  have L4 : ∀ (f4 : Nat) (acc : Int) (i : Int), ((4 : Int) - i).toNat < f4 → (0 ≤ i ∧ i ≤ 4) → (acc = bits (mg A 2) i) → Rn k_P_setOfComplexes 4 [(2, 0), (0, 1), (0, acc), (0, i)] [] S (fun v S' => v = some (0, bits (mg A 2) 4) ∧ S = S') := by
    intro f4
    induction f4 with
    | zero => intro acc i hm4; exact absurd hm4 (Nat.not_lt_zero _)
    | succ f4 ih4 =>
      intro acc i hm4 hi ha
      refine R_lo (nx := 5) rfl rfl rfl rfl ?_
      refine R_op (nx := 6) rfl rfl rfl ?_
      refine R_icmp (nx := 9) (tg := 52) rfl rfl rfl (mm_cnd_ge _ _) (fun c6 => ?_) (fun c6 => ?_)
      ·
        refine R_lo (nx := 53) rfl rfl rfl rfl ?_
        refine R_ret rfl (fun _ _ => rfl) rfl rfl ?_
        exact ⟨by rw [ha, show i = 4 by omega], rfl⟩
      ·
        have ki := hRC.k (c := i) (by omega) (by omega)
        have ni := ki.n
        have zi := ki.nr
        have vi := hV.1 i (by omega) (by omega)
        refine R_lo (nx := 10) rfl rfl rfl rfl ?_
        refine R_ifF (nx := 13) rfl rfl rfl ?_
        refine R_lo (nx := 14) rfl rfl rfl rfl ?_
        refine R_get (nx := 17) (w := (2, 1)) rfl rfl rfl rfl ?_
        refine R_lo (nx := 18) rfl rfl rfl rfl ?_
        refine R_aald (nx := 19) (z := (23 + 10 * i)) rfl rfl (mm_el_ok 5 4 (by decide) rfl (by decide) (by omega) (by omega)) rfl ?_
        refine R_call1 (nx := 22) (as := [(2, (23 + 10 * i))]) (rest := []) rfl rfl (fun _ _ => rfl) rfl rfl rfl rfl rfl rfl (isC_rc (isC_c (by omega) (by omega)) _) rfl (Cl.mono (c_C_isBroken S (23 + 10 * i) (isC_c (by omega) (by omega)) (AK A i) (by first | assumption | exact MC.up (by assumption) (by omega) | exact MC.up (MC.up (by assumption) (by omega)) (by omega) | exact MC.up (MC.up (MC.up (by assumption) (by omega)) (by omega)) (by omega)) (by assumption)) ?_)
        rintro _ _ (⟨rfl, b19, rfl⟩ | ⟨rfl, b19, rfl⟩)
        ·
          refine ⟨_, rfl, ?_⟩
          refine R_ifF (nx := 25) rfl rfl rfl ?_
          refine R_op (nx := 28) (pc' := 40) rfl rfl rfl ?_
          refine R_lo (nx := 41) rfl rfl rfl rfl ?_
          refine R_op (nx := 42) rfl rfl rfl ?_
          refine R_lo (nx := 43) rfl rfl rfl rfl ?_
          refine R_op (nx := 44) (st' := [(0, (Int32.ofInt 1 <<< (Int32.ofInt i &&& 31)).toInt), (0, acc)]) rfl rfl rfl ?_
          refine R_op (nx := 45) (st' := [(0, (Int32.ofInt acc ||| Int32.ofInt (Int32.ofInt 1 <<< (Int32.ofInt i &&& 31)).toInt).toInt)]) rfl rfl rfl ?_
          refine R_lo (nx := 46) (ls' := [(2, 0), (0, 1), (0, (Int32.ofInt acc ||| Int32.ofInt (Int32.ofInt 1 <<< (Int32.ofInt i &&& 31)).toInt).toInt), (0, i)]) rfl rfl rfl rfl ?_
          refine R_iinc (nx := 49) (z := (i + 1)) (ls' := [(2, 0), (0, 1), (0, (Int32.ofInt acc ||| Int32.ofInt (Int32.ofInt 1 <<< (Int32.ofInt i &&& 31)).toInt).toInt), (0, (i + 1))]) rfl rfl rfl rfl ⟨by omega, by omega⟩ rfl ?_
          refine R_op (nx := 52) (pc' := 4) rfl rfl rfl ?_
          refine Rn.weak (ls' := [(2, 0), (0, 1), (0, (Int32.ofInt acc ||| Int32.ofInt (Int32.ofInt 1 <<< (Int32.ofInt i &&& 31)).toInt).toInt), (0, (i + 1))]) ⟨Or.inl rfl, ⟨Or.inl rfl, ⟨Or.inl rfl, ⟨Or.inl rfl, trivial⟩⟩⟩⟩ ?_
          refine ih4 ((Int32.ofInt acc ||| Int32.ofInt (Int32.ofInt 1 <<< (Int32.ofInt i &&& 31)).toInt).toInt) ((i + 1)) ?_ ?_ ?_
          · omega
          · omega
          · first | (rw [bits_1 hi.1 (show mg A 2 i ≠ 0 from b19), ← ha]; rfl) | (rw [bits_0 hi.1 (show mg A 2 i = 0 from Classical.not_not.mp b19)]; exact ha)
        ·
          refine ⟨_, rfl, ?_⟩
          refine R_ifT (tg := 46) rfl rfl rfl ?_
          refine R_iinc (nx := 49) (z := (i + 1)) (ls' := [(2, 0), (0, 1), (0, acc), (0, (i + 1))]) rfl rfl rfl rfl ⟨by omega, by omega⟩ rfl ?_
          refine R_op (nx := 52) (pc' := 4) rfl rfl rfl ?_
          refine Rn.weak (ls' := [(2, 0), (0, 1), (0, acc), (0, (i + 1))]) ⟨Or.inl rfl, ⟨Or.inl rfl, ⟨Or.inl rfl, ⟨Or.inl rfl, trivial⟩⟩⟩⟩ ?_
          refine ih4 (acc) ((i + 1)) ?_ ?_ ?_
          · omega
          · omega
          · first | (rw [bits_1 hi.1 (show mg A 2 i ≠ 0 from b19), ← ha]; rfl) | (rw [bits_0 hi.1 (show mg A 2 i = 0 from Classical.not_not.mp b19)]; exact ha)
  refine Rn.weak (ls' := [(2, 0), (0, 1), (0, 0), (0, 0)]) ⟨Or.inl rfl, ⟨Or.inl rfl, ⟨Or.inl rfl, ⟨Or.inl rfl, trivial⟩⟩⟩⟩ ?_
  refine L4 (((4 : Int) - (0)).toNat + 1) (0) (0) (Nat.lt_succ_self _) ?_ ?_
  · omega
  · rfl

set_option maxRecDepth 20000 in
set_option maxHeartbeats 4000000 in
theorem c_P_many (S : mm_S) (A : mm_A) (hRC : RC S A) (hV : Vs A) (w : Int) : Cl 27 [(2, 0), (0, w)] S (fun vv S' => vv = some (0, (Q_many A w).1) ∧ RC S' (Q_many A w).2 ∧ ∀ b, 71 ≤ b → S' b = S b) := by
  refine ⟨Nat.le_of_ble_eq_true rfl, ?_⟩
  show Rn k_P_many 0 [(2, 0), (0, w)] [] S _
  refine R_lo (nx := 1) rfl rfl rfl rfl ?_
  by_cases s1_0 : w = 0
  ·
    refine R_swK (tg := 32) rfl (by omega) (by rw [s1_0]; rfl) ?_
    refine R_lo (nx := 33) rfl rfl rfl rfl ?_
    refine R_call1 (nx := 36) (as := [(2, 0)]) (rest := []) rfl rfl (fun _ _ => rfl) rfl rfl rfl rfl rfl rfl rfl rfl (Cl.mono (c_P_cellsTogether S A (by assumption)) ?_)
    rintro _ _ ⟨rfl, rfl⟩
    refine ⟨_, rfl, ?_⟩
    refine R_ret rfl (fun _ _ => rfl) rfl rfl ?_
    rw [show Q_many A w = ((sm (fun i => Xn (AK A i)) 4), A) from by unfold Q_many; first | rw [if_pos (by omega)] | rw [if_neg (by omega), if_pos (by omega)] | rw [if_neg (by omega), if_neg (by omega), if_pos (by omega)] | rw [if_neg (by omega), if_neg (by omega), if_neg (by omega), if_pos (by omega)] | rw [if_neg (by omega), if_neg (by omega), if_neg (by omega), if_neg (by omega)]]; exact ⟨rfl, hRC, fun b _ => rfl⟩
  by_cases s1_1 : w = 1
  ·
    refine R_swK (tg := 37) rfl (by omega) (by rw [s1_1]; rfl) ?_
    refine R_lo (nx := 38) rfl rfl rfl rfl ?_
    refine R_op (nx := 39) rfl rfl rfl ?_
    refine R_call1 (nx := 42) (as := [(2, 0), (0, 0)]) (rest := []) rfl rfl (fun _ _ => rfl) rfl rfl rfl rfl rfl rfl rfl rfl (Cl.mono (c_P_setOfComplexes0 S A (by assumption) hV) ?_)
    rintro _ _ ⟨rfl, rfl⟩
    refine ⟨_, rfl, ?_⟩
    refine R_ret rfl (fun _ _ => rfl) rfl rfl ?_
    rw [show Q_many A w = ((bits (mg A 1) 4), A) from by unfold Q_many; first | rw [if_pos (by omega)] | rw [if_neg (by omega), if_pos (by omega)] | rw [if_neg (by omega), if_neg (by omega), if_pos (by omega)] | rw [if_neg (by omega), if_neg (by omega), if_neg (by omega), if_pos (by omega)] | rw [if_neg (by omega), if_neg (by omega), if_neg (by omega), if_neg (by omega)]]; exact ⟨rfl, hRC, fun b _ => rfl⟩
  by_cases s1_2 : w = 2
  ·
    refine R_swK (tg := 43) rfl (by omega) (by rw [s1_2]; rfl) ?_
    refine R_lo (nx := 44) rfl rfl rfl rfl ?_
    refine R_op (nx := 45) rfl rfl rfl ?_
    refine R_call1 (nx := 48) (as := [(2, 0), (0, 1)]) (rest := []) rfl rfl (fun _ _ => rfl) rfl rfl rfl rfl rfl rfl rfl rfl (Cl.mono (c_P_setOfComplexes1 S A (by assumption) hV) ?_)
    rintro _ _ ⟨rfl, rfl⟩
    refine ⟨_, rfl, ?_⟩
    refine R_ret rfl (fun _ _ => rfl) rfl rfl ?_
    rw [show Q_many A w = ((bits (mg A 2) 4), A) from by unfold Q_many; first | rw [if_pos (by omega)] | rw [if_neg (by omega), if_pos (by omega)] | rw [if_neg (by omega), if_neg (by omega), if_pos (by omega)] | rw [if_neg (by omega), if_neg (by omega), if_neg (by omega), if_pos (by omega)] | rw [if_neg (by omega), if_neg (by omega), if_neg (by omega), if_neg (by omega)]]; exact ⟨rfl, hRC, fun b _ => rfl⟩
  by_cases s1_3 : w = 3
  ·
    refine R_swK (tg := 49) rfl (by omega) (by rw [s1_3]; rfl) ?_
    refine R_lo (nx := 50) rfl rfl rfl rfl ?_
    refine R_get (nx := 53) (w := (2, 19)) rfl rfl rfl rfl ?_
    refine R_get (nx := 56) (w := (0, (S 19 0))) rfl rfl rfl rfl ?_
    rw [hRC.2.2.2.2.1.1]
    refine R_ret rfl (fun _ _ => rfl) rfl rfl ?_
    rw [show Q_many A w = ((AL A), A) from by unfold Q_many; first | rw [if_pos (by omega)] | rw [if_neg (by omega), if_pos (by omega)] | rw [if_neg (by omega), if_neg (by omega), if_pos (by omega)] | rw [if_neg (by omega), if_neg (by omega), if_neg (by omega), if_pos (by omega)] | rw [if_neg (by omega), if_neg (by omega), if_neg (by omega), if_neg (by omega)]]; exact ⟨rfl, hRC, fun b _ => rfl⟩
  refine R_swD (tg := 57) rfl (by omega) rfl ?_
  refine R_op (nx := 58) rfl rfl rfl ?_
  refine R_ret rfl (fun _ _ => rfl) rfl rfl ?_
  rw [show Q_many A w = ((-1), A) from by unfold Q_many; first | rw [if_pos (by omega)] | rw [if_neg (by omega), if_pos (by omega)] | rw [if_neg (by omega), if_neg (by omega), if_pos (by omega)] | rw [if_neg (by omega), if_neg (by omega), if_neg (by omega), if_pos (by omega)] | rw [if_neg (by omega), if_neg (by omega), if_neg (by omega), if_neg (by omega)]]; exact ⟨rfl, hRC, fun b _ => rfl⟩

set_option maxRecDepth 20000 in
set_option maxHeartbeats 4000000 in
theorem c_M_cellsAll (S : mm_S) (A : mm_A) (hRR : RR S A) : Cl 115 [(2, 71)] S (fun v S' => v = some (0, sm (fun i => Xn (AK A i)) 4) ∧ S = S') := by
  refine ⟨Nat.le_of_ble_eq_true rfl, ?_⟩
  show Rn k_M_cellsAll 0 [(2, 71), (9, 0), (9, 0)] [] S _
  refine R_op (nx := 1) rfl rfl rfl ?_
  refine R_lo (nx := 2) (ls' := [(2, 71), (0, 0), (9, 0)]) rfl rfl rfl rfl ?_
  refine R_op (nx := 3) rfl rfl rfl ?_
  refine R_lo (nx := 4) (ls' := [(2, 71), (0, 0), (0, 0)]) rfl rfl rfl rfl ?_
  have L4 : ∀ (f4 : Nat) (acc : Int) (i : Int), ((4 : Int) - i).toNat < f4 → (0 ≤ i ∧ i ≤ 4) → (0 ≤ acc ∧ acc ≤ 12 * i) → (acc = sm (fun i => Xn (AK A i)) i) → Rn k_M_cellsAll 4 [(2, 71), (0, acc), (0, i)] [] S (fun v S' => v = some (0, sm (fun i => Xn (AK A i)) 4) ∧ S = S') := by
    intro f4
    induction f4 with
    | zero => intro acc i hm4; exact absurd hm4 (Nat.not_lt_zero _)
    | succ f4 ih4 =>
      intro acc i hm4 hi hb ha
      refine R_lo (nx := 5) rfl rfl rfl rfl ?_
      refine R_op (nx := 6) rfl rfl rfl ?_
      refine R_icmp (nx := 9) (tg := 24) rfl rfl rfl (mm_cnd_ge _ _) (fun c6 => ?_) (fun c6 => ?_)
      ·
        refine R_lo (nx := 25) rfl rfl rfl rfl ?_
        refine R_ret rfl (fun _ _ => rfl) rfl rfl ?_
        exact ⟨by rw [ha, show i = 4 by omega], rfl⟩
      ·
        have ki := hRR.k (c := i) (by omega) (by omega)
        have ni := ki.n
        have zi := ki.1.nr
        refine R_lo (nx := 10) rfl rfl rfl rfl ?_
        refine R_lo (nx := 11) rfl rfl rfl rfl ?_
        refine R_get (nx := 14) (w := (2, 72)) rfl rfl rfl rfl ?_
        refine R_lo (nx := 15) rfl rfl rfl rfl ?_
        refine R_iald (nx := 16) rfl rfl (mm_el_ok 1 5 (by decide) rfl (by decide) (by omega) (by omega)) ?_
        rw [ni]
        refine R_iadd (nx := 17) (z := (acc + (Xn (AK A i)))) rfl rfl rfl ⟨by omega, by omega⟩ ?_
        refine R_lo (nx := 18) (ls' := [(2, 71), (0, (acc + (Xn (AK A i)))), (0, i)]) rfl rfl rfl rfl ?_
        refine R_iinc (nx := 21) (z := (i + 1)) (ls' := [(2, 71), (0, (acc + (Xn (AK A i)))), (0, (i + 1))]) rfl rfl rfl rfl ⟨by omega, by omega⟩ rfl ?_
        refine R_op (nx := 24) (pc' := 4) rfl rfl rfl ?_
        refine Rn.weak (ls' := [(2, 71), (0, (acc + (Xn (AK A i)))), (0, (i + 1))]) ⟨Or.inl rfl, ⟨Or.inl rfl, ⟨Or.inl rfl, trivial⟩⟩⟩ ?_
        refine ih4 ((acc + (Xn (AK A i)))) ((i + 1)) ?_ ?_ ?_ ?_
        · omega
        · omega
        · omega
        · rw [sm_s _ hi.1, ← ha]
  refine Rn.weak (ls' := [(2, 71), (0, 0), (0, 0)]) ⟨Or.inl rfl, ⟨Or.inl rfl, ⟨Or.inl rfl, trivial⟩⟩⟩ ?_
  refine L4 (((4 : Int) - (0)).toNat + 1) (0) (0) (Nat.lt_succ_self _) ?_ ?_ ?_
  · omega
  · omega
  · rfl

set_option maxRecDepth 20000 in
set_option maxHeartbeats 4000000 in
theorem c_M_many (S : mm_S) (A : mm_A) (hRR : RR S A) (hV : Vs A) (w : Int) : Cl 116 [(2, 71), (0, w)] S (fun vv S' => vv = some (0, (Q_many A w).1) ∧ RR S' (Q_many A w).2 ∧ ∀ b, ¬ (71 ≤ b ∧ b < 91) → S' b = S b) := by
  refine ⟨Nat.le_of_ble_eq_true rfl, ?_⟩
  show Rn k_M_many 0 [(2, 71), (0, w), (9, 0), (9, 0)] [] S _
  refine R_op (nx := 1) rfl rfl rfl ?_
  refine R_lo (nx := 2) (ls' := [(2, 71), (0, w), (0, 0), (9, 0)]) rfl rfl rfl rfl ?_
  refine R_op (nx := 3) rfl rfl rfl ?_
  refine R_lo (nx := 4) (ls' := [(2, 71), (0, w), (0, 0), (0, 0)]) rfl rfl rfl rfl ?_
  have L4 : ∀ (f4 : Nat) (acc : Int) (i : Int), ((4 : Int) - i).toNat < f4 → (0 ≤ i ∧ i ≤ 4) → (acc = bits (mg A w) i) → Rn k_M_many 4 [(2, 71), (0, w), (0, acc), (0, i)] [] S (fun vv S' => vv = some (0, (Q_many A w).1) ∧ RR S' (Q_many A w).2 ∧ ∀ b, ¬ (71 ≤ b ∧ b < 91) → S' b = S b) := by
    intro f4
    induction f4 with
    | zero => intro acc i hm4; exact absurd hm4 (Nat.not_lt_zero _)
    | succ f4 ih4 =>
      intro acc i hm4 hi ha
      refine R_lo (nx := 5) rfl rfl rfl rfl ?_
      refine R_op (nx := 6) rfl rfl rfl ?_
      refine R_icmp (nx := 9) (tg := 50) rfl rfl rfl (mm_cnd_ge _ _) (fun c6 => ?_) (fun c6 => ?_)
      ·
        have e4 : acc = bits (mg A w) 4 := by rw [ha, show i = 4 by omega]
        refine R_lo (nx := 51) rfl rfl rfl rfl ?_
        by_cases s51_0 : w = 0
        ·
          refine R_swK (tg := 80) rfl (by omega) (by rw [s51_0]; rfl) ?_
          refine R_lo (nx := 81) rfl rfl rfl rfl ?_
          refine R_call1 (nx := 84) (as := [(2, 71)]) (rest := []) rfl rfl (fun _ _ => rfl) rfl rfl rfl rfl rfl rfl rfl rfl (Cl.mono (c_M_cellsAll S A (by assumption)) ?_)
          rintro _ _ ⟨rfl, rfl⟩
          refine ⟨_, rfl, ?_⟩
          refine R_ret rfl (fun _ _ => rfl) rfl rfl ?_
          rw [show Q_many A w = ((sm (fun i => Xn (AK A i)) 4), A) from by unfold Q_many; first | rw [if_pos (by omega)] | rw [if_neg (by omega), if_pos (by omega)] | rw [if_neg (by omega), if_neg (by omega), if_pos (by omega)] | rw [if_neg (by omega), if_neg (by omega), if_neg (by omega), if_pos (by omega)] | rw [if_neg (by omega), if_neg (by omega), if_neg (by omega), if_neg (by omega)]]; exact ⟨rfl, hRR, fun b _ => rfl⟩
        by_cases s51_1 : w = 1
        ·
          refine R_swK (tg := 85) rfl (by omega) (by rw [s51_1]; rfl) ?_
          refine R_lo (nx := 86) rfl rfl rfl rfl ?_
          refine R_ret rfl (fun _ _ => rfl) rfl rfl ?_
          rcases (show w = 1 ∨ w = 2 by omega) with rfl | rfl <;> rw [e4] <;> exact ⟨rfl, hRR, fun b _ => rfl⟩
        by_cases s51_2 : w = 2
        ·
          refine R_swK (tg := 85) rfl (by omega) (by rw [s51_2]; rfl) ?_
          refine R_lo (nx := 86) rfl rfl rfl rfl ?_
          refine R_ret rfl (fun _ _ => rfl) rfl rfl ?_
          rcases (show w = 1 ∨ w = 2 by omega) with rfl | rfl <;> rw [e4] <;> exact ⟨rfl, hRR, fun b _ => rfl⟩
        by_cases s51_3 : w = 3
        ·
          refine R_swK (tg := 87) rfl (by omega) (by rw [s51_3]; rfl) ?_
          refine R_lo (nx := 88) rfl rfl rfl rfl ?_
          refine R_get (nx := 91) (w := (0, (S 71 21))) rfl rfl rfl rfl ?_
          rw [hRR.2.2.2.2.1.1]
          refine R_ret rfl (fun _ _ => rfl) rfl rfl ?_
          rw [show Q_many A w = ((AL A), A) from by unfold Q_many; first | rw [if_pos (by omega)] | rw [if_neg (by omega), if_pos (by omega)] | rw [if_neg (by omega), if_neg (by omega), if_pos (by omega)] | rw [if_neg (by omega), if_neg (by omega), if_neg (by omega), if_pos (by omega)] | rw [if_neg (by omega), if_neg (by omega), if_neg (by omega), if_neg (by omega)]]; exact ⟨rfl, hRR, fun b _ => rfl⟩
        refine R_swD (tg := 92) rfl (by omega) rfl ?_
        refine R_op (nx := 93) rfl rfl rfl ?_
        refine R_ret rfl (fun _ _ => rfl) rfl rfl ?_
        rw [show Q_many A w = ((-1), A) from by unfold Q_many; first | rw [if_pos (by omega)] | rw [if_neg (by omega), if_pos (by omega)] | rw [if_neg (by omega), if_neg (by omega), if_pos (by omega)] | rw [if_neg (by omega), if_neg (by omega), if_neg (by omega), if_pos (by omega)] | rw [if_neg (by omega), if_neg (by omega), if_neg (by omega), if_neg (by omega)]]; exact ⟨rfl, hRR, fun b _ => rfl⟩
      ·
        have ki := hRR.k (c := i) (by omega) (by omega)
        have ni := ki.n
        have zi := ki.1.nr
        have vi := hV.1 i (by omega) (by omega)
        have ri := vi.2.1
        refine R_lo (nx := 10) rfl rfl rfl rfl ?_
        refine R_lo (nx := 11) rfl rfl rfl rfl ?_
        refine R_op (nx := 12) rfl rfl rfl ?_
        refine R_icmp (nx := 15) (tg := 26) rfl rfl rfl (mm_cnd_ne _ _) (fun c12 => ?_) (fun c12 => ?_)
        ·
          refine R_lo (nx := 27) rfl rfl rfl rfl ?_
          refine R_get (nx := 30) (w := (2, 72)) rfl rfl rfl rfl ?_
          refine R_lo (nx := 31) rfl rfl rfl rfl ?_
          refine R_iald (nx := 32) rfl rfl (mm_el_ok 1 5 (by decide) rfl (by decide) (by omega) (by omega)) ?_
          rw [ni]
          refine R_if (nx := 35) (tg := 41) rfl rfl rfl (mm_cnd_le _ _) (fun c32 => ?_) (fun c32 => ?_)
          ·
            have hmg : mg A w i = 0 := by unfold mg; rw [if_neg (by omega)]; omega
            refine R_op (nx := 42) rfl rfl rfl ?_
            refine R_op (nx := 43) (st' := [(0, (Int32.ofInt acc ||| Int32.ofInt 0).toInt)]) rfl rfl rfl ?_
            refine R_lo (nx := 44) (ls' := [(2, 71), (0, w), (0, (Int32.ofInt acc ||| Int32.ofInt 0).toInt), (0, i)]) rfl rfl rfl rfl ?_
            refine R_iinc (nx := 47) (z := (i + 1)) (ls' := [(2, 71), (0, w), (0, (Int32.ofInt acc ||| Int32.ofInt 0).toInt), (0, (i + 1))]) rfl rfl rfl rfl ⟨by omega, by omega⟩ rfl ?_
            refine R_op (nx := 50) (pc' := 4) rfl rfl rfl ?_
            refine Rn.weak (ls' := [(2, 71), (0, w), (0, (Int32.ofInt acc ||| Int32.ofInt 0).toInt), (0, (i + 1))]) ⟨Or.inl rfl, ⟨Or.inl rfl, ⟨Or.inl rfl, ⟨Or.inl rfl, trivial⟩⟩⟩⟩ ?_
            refine ih4 ((Int32.ofInt acc ||| Int32.ofInt 0).toInt) ((i + 1)) ?_ ?_ ?_
            · omega
            · omega
            · first | (rw [bits_1 hi.1 (show mg A w i ≠ 0 from hmg), ← ha]; rfl) | (rw [bits_0 hi.1 (show mg A w i = 0 from hmg), ha]; exact or_z (bits_r _ _))
          ·
            have hmg : mg A w i ≠ 0 := by unfold mg; rw [if_neg (by omega)]; omega
            refine R_op (nx := 36) rfl rfl rfl ?_
            refine R_lo (nx := 37) rfl rfl rfl rfl ?_
            refine R_op (nx := 38) (st' := [(0, (Int32.ofInt 1 <<< (Int32.ofInt i &&& 31)).toInt), (0, acc)]) rfl rfl rfl ?_
            refine R_op (nx := 41) (pc' := 42) rfl rfl rfl ?_
            refine R_op (nx := 43) (st' := [(0, (Int32.ofInt acc ||| Int32.ofInt (Int32.ofInt 1 <<< (Int32.ofInt i &&& 31)).toInt).toInt)]) rfl rfl rfl ?_
            refine R_lo (nx := 44) (ls' := [(2, 71), (0, w), (0, (Int32.ofInt acc ||| Int32.ofInt (Int32.ofInt 1 <<< (Int32.ofInt i &&& 31)).toInt).toInt), (0, i)]) rfl rfl rfl rfl ?_
            refine R_iinc (nx := 47) (z := (i + 1)) (ls' := [(2, 71), (0, w), (0, (Int32.ofInt acc ||| Int32.ofInt (Int32.ofInt 1 <<< (Int32.ofInt i &&& 31)).toInt).toInt), (0, (i + 1))]) rfl rfl rfl rfl ⟨by omega, by omega⟩ rfl ?_
            refine R_op (nx := 50) (pc' := 4) rfl rfl rfl ?_
            refine Rn.weak (ls' := [(2, 71), (0, w), (0, (Int32.ofInt acc ||| Int32.ofInt (Int32.ofInt 1 <<< (Int32.ofInt i &&& 31)).toInt).toInt), (0, (i + 1))]) ⟨Or.inl rfl, ⟨Or.inl rfl, ⟨Or.inl rfl, ⟨Or.inl rfl, trivial⟩⟩⟩⟩ ?_
            refine ih4 ((Int32.ofInt acc ||| Int32.ofInt (Int32.ofInt 1 <<< (Int32.ofInt i &&& 31)).toInt).toInt) ((i + 1)) ?_ ?_ ?_
            · omega
            · omega
            · first | (rw [bits_1 hi.1 (show mg A w i ≠ 0 from hmg), ← ha]; rfl) | (rw [bits_0 hi.1 (show mg A w i = 0 from hmg), ha]; exact or_z (bits_r _ _))
        ·
          replace c12 := Classical.not_not.mp c12
          refine R_lo (nx := 16) rfl rfl rfl rfl ?_
          refine R_lo (nx := 17) rfl rfl rfl rfl ?_
          refine R_call1 (nx := 20) (as := [(2, 71), (0, i)]) (rest := [(0, acc)]) rfl rfl (fun _ _ => rfl) rfl rfl rfl rfl rfl rfl rfl rfl (Cl.mono (c_M_brokenAt S i (by omega) (AK A i) (show MR S i (AK A i) by first | assumption | exact MR.up (by assumption) (by omega) | exact MR.up (MR.up (by assumption) (by omega)) (by omega) | exact MR.up (MR.up (MR.up (by assumption) (by omega)) (by omega)) (by omega)) (by assumption)) ?_)
          rintro _ _ ⟨rfl, rfl⟩
          refine ⟨_, rfl, ?_⟩
          refine R_if (nx := 23) (tg := 41) rfl rfl rfl (mm_cnd_eq _ _) (fun c20 => ?_) (fun c20 => ?_)
          ·
            have hmg : mg A w i = 0 := by unfold mg; rw [if_pos (by omega)]; exact c20
            refine R_op (nx := 42) rfl rfl rfl ?_
            refine R_op (nx := 43) (st' := [(0, (Int32.ofInt acc ||| Int32.ofInt 0).toInt)]) rfl rfl rfl ?_
            refine R_lo (nx := 44) (ls' := [(2, 71), (0, w), (0, (Int32.ofInt acc ||| Int32.ofInt 0).toInt), (0, i)]) rfl rfl rfl rfl ?_
            refine R_iinc (nx := 47) (z := (i + 1)) (ls' := [(2, 71), (0, w), (0, (Int32.ofInt acc ||| Int32.ofInt 0).toInt), (0, (i + 1))]) rfl rfl rfl rfl ⟨by omega, by omega⟩ rfl ?_
            refine R_op (nx := 50) (pc' := 4) rfl rfl rfl ?_
            refine Rn.weak (ls' := [(2, 71), (0, w), (0, (Int32.ofInt acc ||| Int32.ofInt 0).toInt), (0, (i + 1))]) ⟨Or.inl rfl, ⟨Or.inl rfl, ⟨Or.inl rfl, ⟨Or.inl rfl, trivial⟩⟩⟩⟩ ?_
            refine ih4 ((Int32.ofInt acc ||| Int32.ofInt 0).toInt) ((i + 1)) ?_ ?_ ?_
            · omega
            · omega
            · first | (rw [bits_1 hi.1 (show mg A w i ≠ 0 from hmg), ← ha]; rfl) | (rw [bits_0 hi.1 (show mg A w i = 0 from hmg), ha]; exact or_z (bits_r _ _))
          ·
            have hmg : mg A w i ≠ 0 := by unfold mg; rw [if_pos (by omega)]; exact c20
            refine R_op (nx := 26) (pc' := 35) rfl rfl rfl ?_
            refine R_op (nx := 36) rfl rfl rfl ?_
            refine R_lo (nx := 37) rfl rfl rfl rfl ?_
            refine R_op (nx := 38) (st' := [(0, (Int32.ofInt 1 <<< (Int32.ofInt i &&& 31)).toInt), (0, acc)]) rfl rfl rfl ?_
            refine R_op (nx := 41) (pc' := 42) rfl rfl rfl ?_
            refine R_op (nx := 43) (st' := [(0, (Int32.ofInt acc ||| Int32.ofInt (Int32.ofInt 1 <<< (Int32.ofInt i &&& 31)).toInt).toInt)]) rfl rfl rfl ?_
            refine R_lo (nx := 44) (ls' := [(2, 71), (0, w), (0, (Int32.ofInt acc ||| Int32.ofInt (Int32.ofInt 1 <<< (Int32.ofInt i &&& 31)).toInt).toInt), (0, i)]) rfl rfl rfl rfl ?_
            refine R_iinc (nx := 47) (z := (i + 1)) (ls' := [(2, 71), (0, w), (0, (Int32.ofInt acc ||| Int32.ofInt (Int32.ofInt 1 <<< (Int32.ofInt i &&& 31)).toInt).toInt), (0, (i + 1))]) rfl rfl rfl rfl ⟨by omega, by omega⟩ rfl ?_
            refine R_op (nx := 50) (pc' := 4) rfl rfl rfl ?_
            refine Rn.weak (ls' := [(2, 71), (0, w), (0, (Int32.ofInt acc ||| Int32.ofInt (Int32.ofInt 1 <<< (Int32.ofInt i &&& 31)).toInt).toInt), (0, (i + 1))]) ⟨Or.inl rfl, ⟨Or.inl rfl, ⟨Or.inl rfl, ⟨Or.inl rfl, trivial⟩⟩⟩⟩ ?_
            refine ih4 ((Int32.ofInt acc ||| Int32.ofInt (Int32.ofInt 1 <<< (Int32.ofInt i &&& 31)).toInt).toInt) ((i + 1)) ?_ ?_ ?_
            · omega
            · omega
            · first | (rw [bits_1 hi.1 (show mg A w i ≠ 0 from hmg), ← ha]; rfl) | (rw [bits_0 hi.1 (show mg A w i = 0 from hmg), ha]; exact or_z (bits_r _ _))
  refine Rn.weak (ls' := [(2, 71), (0, w), (0, 0), (0, 0)]) ⟨Or.inl rfl, ⟨Or.inl rfl, ⟨Or.inl rfl, ⟨Or.inl rfl, trivial⟩⟩⟩⟩ ?_
  refine L4 (((4 : Int) - (0)).toNat + 1) (0) (0) (Nat.lt_succ_self _) ?_ ?_
  · omega
  · rfl

set_option maxRecDepth 20000 in
set_option maxHeartbeats 4000000 in
theorem c_P_keep (S : mm_S) (A : mm_A) (hRC : RC S A) (hV : Vs A)  : Cl 28 [(2, 0)] S (fun vv S' => vv = some (0, (Q_keep A).1) ∧ RC S' (Q_keep A).2 ∧ ∀ b, 71 ≤ b → S' b = S b) := by
  refine ⟨Nat.le_of_ble_eq_true rfl, ?_⟩
  show Rn k_P_keep 0 [(2, 0), (9, 0)] [] S _
  refine R_op (nx := 1) rfl rfl rfl ?_
  refine R_lo (nx := 2) (ls' := [(2, 0), (0, 0)]) rfl rfl rfl rfl ?_
  have L2 : ∀ (f2 : Nat) (S1 : mm_S) (i : Int), ((4 : Int) - i).toNat < f2 → (0 ≤ i ∧ i ≤ 4) → (∀ c, 0 ≤ c → c < i → MC S1 (28 + 10 * c) (AK A c)) → (∀ b, ¬ (∃ c, 0 ≤ c ∧ c < 4 ∧ 28 + 10 * c ≤ b ∧ b ≤ 28 + 10 * c + 4) → S1 b = S b) → Rn k_P_keep 2 [(2, 0), (0, i)] [] S1 (fun vv S' => vv = some (0, (Q_keep A).1) ∧ RC S' (Q_keep A).2 ∧ ∀ b, 71 ≤ b → S' b = S b) := by
    intro f2
    induction f2 with
    | zero => intro S1 i hm2; exact absurd hm2 (Nat.not_lt_zero _)
    | succ f2 ih2 =>
      intro S1 i hm2 hi hM hF
      refine R_lo (nx := 3) rfl rfl rfl rfl ?_
      refine R_op (nx := 4) rfl rfl rfl ?_
      refine R_icmp (nx := 7) (tg := 28) rfl rfl rfl (mm_cnd_ge _ _) (fun c4 => ?_) (fun c4 => ?_)
      ·
        refine R_lo (nx := 29) rfl rfl rfl rfl ?_
        refine R_op (nx := 30) rfl rfl rfl ?_
        refine R_put (nx := 33) (kk := 9) rfl rfl rfl rfl rfl ?_
        refine R_op (nx := 34) rfl rfl rfl ?_
        refine R_ret rfl (fun _ _ => rfl) rfl rfl ?_
        rw [show Q_keep A = (1, Akq A) from rfl]; exact ⟨rfl, hRC.kq mm_ua (fun c p q => (hM c p (by omega)).up (by omega)) fun b hb hn => by rw [mm_unq (by omega)]; exact hF b hn, fun b hb => by rw [mm_unq (by omega)]; exact hF b (by rintro ⟨d, x, y, z, w⟩; omega)⟩
      ·
        have ki := (hRC.k (c := i) (by omega) (by omega)).fr (S' := S1) fun e a b => hF e (by rintro ⟨d, x, y, z, w⟩; omega)
        refine R_lo (nx := 8) rfl rfl rfl rfl ?_
        refine R_get (nx := 11) (w := (2, 2)) rfl rfl rfl rfl ?_
        refine R_lo (nx := 12) rfl rfl rfl rfl ?_
        refine R_aald (nx := 13) (z := (28 + 10 * i)) rfl rfl (mm_el_ok 5 4 (by decide) rfl (by decide) (by omega) (by omega)) rfl ?_
        refine R_lo (nx := 14) rfl rfl rfl rfl ?_
        refine R_get (nx := 17) (w := (2, 1)) rfl rfl rfl rfl ?_
        refine R_lo (nx := 18) rfl rfl rfl rfl ?_
        refine R_aald (nx := 19) (z := (23 + 10 * i)) rfl rfl (mm_el_ok 5 4 (by decide) rfl (by decide) (by omega) (by omega)) rfl ?_
        refine R_call0 (nx := 22) (as := [(2, (28 + 10 * i)), (2, (23 + 10 * i))]) (rest := []) rfl rfl (fun _ _ => rfl) rfl rfl rfl rfl rfl rfl (isC_rc (isC_k (by omega) (by omega)) _) rfl (Cl.mono (c_C_become S1 (28 + 10 * i) (isC_k (by omega) (by omega)) (23 + 10 * i) (isC_c (by omega) (by omega)) (AK A i) (by first | assumption | exact MC.up (by assumption) (by omega) | exact MC.up (MC.up (by assumption) (by omega)) (by omega) | exact MC.up (MC.up (MC.up (by assumption) (by omega)) (by omega)) (by omega)) (by omega)) ?_)
        rintro _ S19 ⟨rfl, m19, f19⟩
        try have m_f19 : MC S19 (23 + 10 * i) (AK A i) := MC.fr (by first | assumption | exact MC.up (by assumption) (by omega) | exact MC.up (MC.up (by assumption) (by omega)) (by omega) | exact MC.up (MC.up (MC.up (by assumption) (by omega)) (by omega)) (by omega)) (fun c p q => f19 c (by omega))
        refine ⟨rfl, ?_⟩
        refine R_iinc (nx := 25) (z := (i + 1)) (ls' := [(2, 0), (0, (i + 1))]) rfl rfl rfl rfl ⟨by omega, by omega⟩ rfl ?_
        refine R_op (nx := 28) (pc' := 2) rfl rfl rfl ?_
        refine Rn.weak (ls' := [(2, 0), (0, (i + 1))]) ⟨Or.inl rfl, ⟨Or.inl rfl, trivial⟩⟩ ?_
        refine ih2 (S19) ((i + 1)) ?_ ?_ ?_ ?_
        · omega
        · omega
        · intro c p q
          by_cases e : c = i
          · subst e; exact m19
          · exact (hM c p (by omega)).fr fun e a b => f19 e (by omega)
        · intro b hb
          rw [f19 b (fun q => hb ⟨i, by omega, by omega, q.1, q.2⟩)]
          exact hF b hb
  refine Rn.weak (ls' := [(2, 0), (0, 0)]) ⟨Or.inl rfl, ⟨Or.inl rfl, trivial⟩⟩ ?_
  refine L2 (((4 : Int) - (0)).toNat + 1) (S) (0) (Nat.lt_succ_self _) ?_ ?_ ?_
  · omega
  · intro c p q; omega
  · intro b hb; rfl

set_option maxRecDepth 20000 in
set_option maxHeartbeats 4000000 in
theorem c_P_again (S : mm_S) (A : mm_A) (hRC : RC S A) (hV : Vs A)  : Cl 29 [(2, 0)] S (fun vv S' => vv = some (0, (Q_again A).1) ∧ RC S' (Q_again A).2 ∧ ∀ b, 71 ≤ b → S' b = S b) := by
  refine ⟨Nat.le_of_ble_eq_true rfl, ?_⟩
  show Rn k_P_again 0 [(2, 0), (9, 0)] [] S _
  refine R_lo (nx := 1) rfl rfl rfl rfl ?_
  refine R_get (nx := 4) (w := (0, (S 0 9))) rfl rfl rfl rfl ?_
  rw [hRC.2.2.1]
  refine R_if (nx := 7) (tg := 10) rfl rfl rfl (mm_cnd_ne _ _) (fun c4 => ?_) (fun c4 => ?_)
  ·
    refine R_op (nx := 11) rfl rfl rfl ?_
    refine R_lo (nx := 12) (ls' := [(2, 0), (0, 0)]) rfl rfl rfl rfl ?_
    have L12 : ∀ (f12 : Nat) (S1 : mm_S) (i : Int), ((4 : Int) - i).toNat < f12 → (0 ≤ i ∧ i ≤ 4) → (∀ c, 0 ≤ c → c < i → MC S1 (23 + 10 * c) (AQ A c)) → (∀ b, ¬ (∃ c, 0 ≤ c ∧ c < 4 ∧ 23 + 10 * c ≤ b ∧ b ≤ 23 + 10 * c + 4) → S1 b = S b) → Rn k_P_again 12 [(2, 0), (0, i)] [] S1 (fun vv S' => vv = some (0, (Q_again A).1) ∧ RC S' (Q_again A).2 ∧ ∀ b, 71 ≤ b → S' b = S b) := by
      intro f12
      induction f12 with
      | zero => intro S1 i hm12; exact absurd hm12 (Nat.not_lt_zero _)
      | succ f12 ih12 =>
        intro S1 i hm12 hi hM hF
        refine R_lo (nx := 13) rfl rfl rfl rfl ?_
        refine R_op (nx := 14) rfl rfl rfl ?_
        refine R_icmp (nx := 17) (tg := 38) rfl rfl rfl (mm_cnd_ge _ _) (fun c14 => ?_) (fun c14 => ?_)
        ·
          have hg : RC S1 (Aag A) := hRC.ag (fun c p q => hM c p (by omega)) fun b hb hn => hF b hn
          refine R_lo (nx := 39) rfl rfl rfl rfl ?_
          refine R_call1 (nx := 42) (as := [(2, 0)]) (rest := []) rfl rfl (fun _ _ => rfl) rfl rfl rfl rfl rfl rfl rfl rfl (Cl.mono (c_P_cellsTogether S1 (Aag A) hg) ?_)
          rintro _ _ ⟨rfl, rfl⟩
          refine ⟨_, rfl, ?_⟩
          refine R_ret rfl (fun _ _ => rfl) rfl rfl ?_
          rw [show Q_again A = ((sm (fun i => Xn (AQ A i)) 4), Aag A) from by unfold Q_again; simp only [Q_again, c4, c14, ifo, ifm, ifp, iffq, ↓reduceIte, ite_self, and_self, and_true, true_and, and_false, false_and, or_true, true_or, or_false, false_or, or_self, not_true_eq_false, not_false_eq_true, ne_eq]]; exact ⟨rfl, hg, fun b hb => hF b (by rintro ⟨d, x, y, z, w⟩; omega)⟩
        ·
          have ki := (hRC.2.1 i (by omega) (by omega)).fr (S' := S1) fun e a b => hF e (by rintro ⟨d, x, y, z, w⟩; omega)
          refine R_lo (nx := 18) rfl rfl rfl rfl ?_
          refine R_get (nx := 21) (w := (2, 1)) rfl rfl rfl rfl ?_
          refine R_lo (nx := 22) rfl rfl rfl rfl ?_
          refine R_aald (nx := 23) (z := (23 + 10 * i)) rfl rfl (mm_el_ok 5 4 (by decide) rfl (by decide) (by omega) (by omega)) rfl ?_
          refine R_lo (nx := 24) rfl rfl rfl rfl ?_
          refine R_get (nx := 27) (w := (2, 2)) rfl rfl rfl rfl ?_
          refine R_lo (nx := 28) rfl rfl rfl rfl ?_
          refine R_aald (nx := 29) (z := (28 + 10 * i)) rfl rfl (mm_el_ok 5 4 (by decide) rfl (by decide) (by omega) (by omega)) rfl ?_
          refine R_call0 (nx := 32) (as := [(2, (23 + 10 * i)), (2, (28 + 10 * i))]) (rest := []) rfl rfl (fun _ _ => rfl) rfl rfl rfl rfl rfl rfl (isC_rc (isC_c (by omega) (by omega)) _) rfl (Cl.mono (c_C_become S1 (23 + 10 * i) (isC_c (by omega) (by omega)) (28 + 10 * i) (isC_k (by omega) (by omega)) (AQ A i) (by first | assumption | exact MC.up (by assumption) (by omega) | exact MC.up (MC.up (by assumption) (by omega)) (by omega) | exact MC.up (MC.up (MC.up (by assumption) (by omega)) (by omega)) (by omega)) (by omega)) ?_)
          rintro _ S29 ⟨rfl, m29, f29⟩
          try have m_f29 : MC S29 (28 + 10 * i) (AQ A i) := MC.fr (by first | assumption | exact MC.up (by assumption) (by omega) | exact MC.up (MC.up (by assumption) (by omega)) (by omega) | exact MC.up (MC.up (MC.up (by assumption) (by omega)) (by omega)) (by omega)) (fun c p q => f29 c (by omega))
          refine ⟨rfl, ?_⟩
          refine R_iinc (nx := 35) (z := (i + 1)) (ls' := [(2, 0), (0, (i + 1))]) rfl rfl rfl rfl ⟨by omega, by omega⟩ rfl ?_
          refine R_op (nx := 38) (pc' := 12) rfl rfl rfl ?_
          refine Rn.weak (ls' := [(2, 0), (0, (i + 1))]) ⟨Or.inl rfl, ⟨Or.inl rfl, trivial⟩⟩ ?_
          refine ih12 (S29) ((i + 1)) ?_ ?_ ?_ ?_
          · omega
          · omega
          · intro c p q
            by_cases e : c = i
            · subst e; exact m29
            · exact (hM c p (by omega)).fr fun e a b => f29 e (by omega)
          · intro b hb
            rw [f29 b (fun q => hb ⟨i, by omega, by omega, q.1, q.2⟩)]
            exact hF b hb
    refine Rn.weak (ls' := [(2, 0), (0, 0)]) ⟨Or.inl rfl, ⟨Or.inl rfl, trivial⟩⟩ ?_
    refine L12 (((4 : Int) - (0)).toNat + 1) (S) (0) (Nat.lt_succ_self _) ?_ ?_ ?_
    · omega
    · intro c p q; omega
    · intro b hb; rfl
  ·
    replace c4 := Classical.not_not.mp c4
    refine R_op (nx := 9) rfl rfl rfl ?_
    refine R_ret rfl (fun _ _ => rfl) rfl rfl ?_
    rw [show Q_again A = ((-3), A) from by unfold Q_again; simp only [Q_again, c4, ifo, ifm, ifp, iffq, ↓reduceIte, ite_self, and_self, and_true, true_and, and_false, false_and, or_true, true_or, or_false, false_or, or_self, not_true_eq_false, not_false_eq_true, ne_eq]]; exact ⟨rfl, hRC, fun b _ => rfl⟩

set_option maxRecDepth 20000 in
set_option maxHeartbeats 4000000 in
theorem c_M_moves_72 (S : mm_S) : Cl 117 [(2, 72), (2, 76)] S (fun v S' => v = none ∧ (∀ j, 0 ≤ j → j < 4 → S' 76 j = S 72 j) ∧ ∀ x, x ≠ 76 → S' x = S x) := by
  refine ⟨Nat.le_of_ble_eq_true rfl, ?_⟩
  show Rn k_M_moves 0 [(2, 72), (2, 76), (9, 0)] [] S _
  refine R_op (nx := 1) rfl rfl rfl ?_
  refine R_lo (nx := 2) (ls' := [(2, 72), (2, 76), (0, 0)]) rfl rfl rfl rfl ?_
  have L2 : ∀ (f2 : Nat) (S1 : mm_S) (i : Int), ((4 : Int) - i).toNat < f2 → (0 ≤ i ∧ i ≤ 4) → (∀ j, 0 ≤ j → j < i → S1 76 j = S 72 j) → (∀ x, x ≠ 76 → S1 x = S x) → Rn k_M_moves 2 [(2, 72), (2, 76), (0, i)] [] S1 (fun v S' => v = none ∧ (∀ j, 0 ≤ j → j < 4 → S' 76 j = S 72 j) ∧ ∀ x, x ≠ 76 → S' x = S x) := by
    intro f2
    induction f2 with
    | zero => intro S1 i hm2; exact absurd hm2 (Nat.not_lt_zero _)
    | succ f2 ih2 =>
      intro S1 i hm2 hi hM hF
      refine R_lo (nx := 3) rfl rfl rfl rfl ?_
      refine R_lo (nx := 4) rfl rfl rfl rfl ?_
      refine R_op (nx := 5) (st' := [(0, 5), (0, i)]) (S' := S1) rfl rfl rfl ?_
      refine R_icmp (nx := 8) (tg := 26) rfl rfl rfl (mm_cnd_ge _ _) (fun c5 => ?_) (fun c5 => ?_)
      ·
        refine R_ret rfl (fun _ _ => rfl) rfl rfl ?_
        exact ⟨rfl, fun j p q => hM j p (by omega), hF⟩
      ·
        refine R_lo (nx := 9) rfl rfl rfl rfl ?_
        refine R_lo (nx := 10) rfl rfl rfl rfl ?_
        refine R_op (nx := 11) (st' := [(0, 4), (0, i)]) (S' := S1) rfl rfl rfl ?_
        refine R_icmp (nx := 14) (tg := 26) rfl rfl rfl (mm_cnd_ge _ _) (fun c11 => ?_) (fun c11 => ?_)
        ·
          refine R_ret rfl (fun _ _ => rfl) rfl rfl ?_
          exact ⟨rfl, fun j p q => hM j p (by omega), hF⟩
        ·
          refine R_lo (nx := 15) rfl rfl rfl rfl ?_
          refine R_lo (nx := 16) rfl rfl rfl rfl ?_
          refine R_lo (nx := 17) rfl rfl rfl rfl ?_
          refine R_lo (nx := 18) rfl rfl rfl rfl ?_
          refine R_iald (nx := 19) rfl rfl (mm_el_ok 1 5 (by decide) rfl (by decide) (by omega) (by omega)) ?_
          refine R_iast (nx := 20) rfl rfl (mm_el_ok 1 4 (by decide) rfl (by decide) (by omega) (by omega)) ?_
          refine R_iinc (nx := 23) (z := (i + 1)) (ls' := [(2, 72), (2, 76), (0, (i + 1))]) rfl rfl rfl rfl ⟨by omega, by omega⟩ rfl ?_
          refine R_op (nx := 26) (pc' := 2) rfl rfl rfl ?_
          refine Rn.weak (ls' := [(2, 72), (2, 76), (0, (i + 1))]) ⟨Or.inl rfl, ⟨Or.inl rfl, ⟨Or.inl rfl, trivial⟩⟩⟩ ?_
          refine ih2 ((mm_up S1 76 i (S1 72 i))) ((i + 1)) ?_ ?_ ?_ ?_
          · omega
          · omega
          · intro j p q
            by_cases e : j = i
            · rw [e, mm_ua, hF 72 (by decide)]
            · rw [mm_uk e]; exact hM j p (by omega)
          · intro x hx; rw [mm_unq hx]; exact hF x hx
  refine Rn.weak (ls' := [(2, 72), (2, 76), (0, 0)]) ⟨Or.inl rfl, ⟨Or.inl rfl, ⟨Or.inl rfl, trivial⟩⟩⟩ ?_
  refine L2 (((4 : Int) - (0)).toNat + 1) (S) (0) (Nat.lt_succ_self _) ?_ ?_ ?_
  · omega
  · intro j p q; omega
  · intro x hx; rfl

set_option maxRecDepth 20000 in
set_option maxHeartbeats 4000000 in
theorem c_M_moves_73 (S : mm_S) : Cl 117 [(2, 73), (2, 77)] S (fun v S' => v = none ∧ (∀ j, 0 ≤ j → j < 48 → S' 77 j = S 73 j) ∧ ∀ x, x ≠ 77 → S' x = S x) := by
  refine ⟨Nat.le_of_ble_eq_true rfl, ?_⟩
  show Rn k_M_moves 0 [(2, 73), (2, 77), (9, 0)] [] S _
  refine R_op (nx := 1) rfl rfl rfl ?_
  refine R_lo (nx := 2) (ls' := [(2, 73), (2, 77), (0, 0)]) rfl rfl rfl rfl ?_
  have L2 : ∀ (f2 : Nat) (S1 : mm_S) (i : Int), ((48 : Int) - i).toNat < f2 → (0 ≤ i ∧ i ≤ 48) → (∀ j, 0 ≤ j → j < i → S1 77 j = S 73 j) → (∀ x, x ≠ 77 → S1 x = S x) → Rn k_M_moves 2 [(2, 73), (2, 77), (0, i)] [] S1 (fun v S' => v = none ∧ (∀ j, 0 ≤ j → j < 48 → S' 77 j = S 73 j) ∧ ∀ x, x ≠ 77 → S' x = S x) := by
    intro f2
    induction f2 with
    | zero => intro S1 i hm2; exact absurd hm2 (Nat.not_lt_zero _)
    | succ f2 ih2 =>
      intro S1 i hm2 hi hM hF
      refine R_lo (nx := 3) rfl rfl rfl rfl ?_
      refine R_lo (nx := 4) rfl rfl rfl rfl ?_
      refine R_op (nx := 5) (st' := [(0, 60), (0, i)]) (S' := S1) rfl rfl rfl ?_
      refine R_icmp (nx := 8) (tg := 26) rfl rfl rfl (mm_cnd_ge _ _) (fun c5 => ?_) (fun c5 => ?_)
      ·
        refine R_ret rfl (fun _ _ => rfl) rfl rfl ?_
        exact ⟨rfl, fun j p q => hM j p (by omega), hF⟩
      ·
        refine R_lo (nx := 9) rfl rfl rfl rfl ?_
        refine R_lo (nx := 10) rfl rfl rfl rfl ?_
        refine R_op (nx := 11) (st' := [(0, 48), (0, i)]) (S' := S1) rfl rfl rfl ?_
        refine R_icmp (nx := 14) (tg := 26) rfl rfl rfl (mm_cnd_ge _ _) (fun c11 => ?_) (fun c11 => ?_)
        ·
          refine R_ret rfl (fun _ _ => rfl) rfl rfl ?_
          exact ⟨rfl, fun j p q => hM j p (by omega), hF⟩
        ·
          refine R_lo (nx := 15) rfl rfl rfl rfl ?_
          refine R_lo (nx := 16) rfl rfl rfl rfl ?_
          refine R_lo (nx := 17) rfl rfl rfl rfl ?_
          refine R_lo (nx := 18) rfl rfl rfl rfl ?_
          refine R_iald (nx := 19) rfl rfl (mm_el_ok 1 60 (by decide) rfl (by decide) (by omega) (by omega)) ?_
          refine R_iast (nx := 20) rfl rfl (mm_el_ok 1 48 (by decide) rfl (by decide) (by omega) (by omega)) ?_
          refine R_iinc (nx := 23) (z := (i + 1)) (ls' := [(2, 73), (2, 77), (0, (i + 1))]) rfl rfl rfl rfl ⟨by omega, by omega⟩ rfl ?_
          refine R_op (nx := 26) (pc' := 2) rfl rfl rfl ?_
          refine Rn.weak (ls' := [(2, 73), (2, 77), (0, (i + 1))]) ⟨Or.inl rfl, ⟨Or.inl rfl, ⟨Or.inl rfl, trivial⟩⟩⟩ ?_
          refine ih2 ((mm_up S1 77 i (S1 73 i))) ((i + 1)) ?_ ?_ ?_ ?_
          · omega
          · omega
          · intro j p q
            by_cases e : j = i
            · rw [e, mm_ua, hF 73 (by decide)]
            · rw [mm_uk e]; exact hM j p (by omega)
          · intro x hx; rw [mm_unq hx]; exact hF x hx
  refine Rn.weak (ls' := [(2, 73), (2, 77), (0, 0)]) ⟨Or.inl rfl, ⟨Or.inl rfl, ⟨Or.inl rfl, trivial⟩⟩⟩ ?_
  refine L2 (((48 : Int) - (0)).toNat + 1) (S) (0) (Nat.lt_succ_self _) ?_ ?_ ?_
  · omega
  · intro j p q; omega
  · intro x hx; rfl

set_option maxRecDepth 20000 in
set_option maxHeartbeats 4000000 in
theorem c_M_moves_74 (S : mm_S) : Cl 117 [(2, 74), (2, 78)] S (fun v S' => v = none ∧ (∀ j, 0 ≤ j → j < 96 → S' 78 j = S 74 j) ∧ ∀ x, x ≠ 78 → S' x = S x) := by
  refine ⟨Nat.le_of_ble_eq_true rfl, ?_⟩
  show Rn k_M_moves 0 [(2, 74), (2, 78), (9, 0)] [] S _
  refine R_op (nx := 1) rfl rfl rfl ?_
  refine R_lo (nx := 2) (ls' := [(2, 74), (2, 78), (0, 0)]) rfl rfl rfl rfl ?_
  have L2 : ∀ (f2 : Nat) (S1 : mm_S) (i : Int), ((96 : Int) - i).toNat < f2 → (0 ≤ i ∧ i ≤ 96) → (∀ j, 0 ≤ j → j < i → S1 78 j = S 74 j) → (∀ x, x ≠ 78 → S1 x = S x) → Rn k_M_moves 2 [(2, 74), (2, 78), (0, i)] [] S1 (fun v S' => v = none ∧ (∀ j, 0 ≤ j → j < 96 → S' 78 j = S 74 j) ∧ ∀ x, x ≠ 78 → S' x = S x) := by
    intro f2
    induction f2 with
    | zero => intro S1 i hm2; exact absurd hm2 (Nat.not_lt_zero _)
    | succ f2 ih2 =>
      intro S1 i hm2 hi hM hF
      refine R_lo (nx := 3) rfl rfl rfl rfl ?_
      refine R_lo (nx := 4) rfl rfl rfl rfl ?_
      refine R_op (nx := 5) (st' := [(0, 120), (0, i)]) (S' := S1) rfl rfl rfl ?_
      refine R_icmp (nx := 8) (tg := 26) rfl rfl rfl (mm_cnd_ge _ _) (fun c5 => ?_) (fun c5 => ?_)
      ·
        refine R_ret rfl (fun _ _ => rfl) rfl rfl ?_
        exact ⟨rfl, fun j p q => hM j p (by omega), hF⟩
      ·
        refine R_lo (nx := 9) rfl rfl rfl rfl ?_
        refine R_lo (nx := 10) rfl rfl rfl rfl ?_
        refine R_op (nx := 11) (st' := [(0, 96), (0, i)]) (S' := S1) rfl rfl rfl ?_
        refine R_icmp (nx := 14) (tg := 26) rfl rfl rfl (mm_cnd_ge _ _) (fun c11 => ?_) (fun c11 => ?_)
        ·
          refine R_ret rfl (fun _ _ => rfl) rfl rfl ?_
          exact ⟨rfl, fun j p q => hM j p (by omega), hF⟩
        ·
          refine R_lo (nx := 15) rfl rfl rfl rfl ?_
          refine R_lo (nx := 16) rfl rfl rfl rfl ?_
          refine R_lo (nx := 17) rfl rfl rfl rfl ?_
          refine R_lo (nx := 18) rfl rfl rfl rfl ?_
          refine R_iald (nx := 19) rfl rfl (mm_el_ok 1 120 (by decide) rfl (by decide) (by omega) (by omega)) ?_
          refine R_iast (nx := 20) rfl rfl (mm_el_ok 1 96 (by decide) rfl (by decide) (by omega) (by omega)) ?_
          refine R_iinc (nx := 23) (z := (i + 1)) (ls' := [(2, 74), (2, 78), (0, (i + 1))]) rfl rfl rfl rfl ⟨by omega, by omega⟩ rfl ?_
          refine R_op (nx := 26) (pc' := 2) rfl rfl rfl ?_
          refine Rn.weak (ls' := [(2, 74), (2, 78), (0, (i + 1))]) ⟨Or.inl rfl, ⟨Or.inl rfl, ⟨Or.inl rfl, trivial⟩⟩⟩ ?_
          refine ih2 ((mm_up S1 78 i (S1 74 i))) ((i + 1)) ?_ ?_ ?_ ?_
          · omega
          · omega
          · intro j p q
            by_cases e : j = i
            · rw [e, mm_ua, hF 74 (by decide)]
            · rw [mm_uk e]; exact hM j p (by omega)
          · intro x hx; rw [mm_unq hx]; exact hF x hx
  refine Rn.weak (ls' := [(2, 74), (2, 78), (0, 0)]) ⟨Or.inl rfl, ⟨Or.inl rfl, ⟨Or.inl rfl, trivial⟩⟩⟩ ?_
  refine L2 (((96 : Int) - (0)).toNat + 1) (S) (0) (Nat.lt_succ_self _) ?_ ?_ ?_
  · omega
  · intro j p q; omega
  · intro x hx; rfl

set_option maxRecDepth 20000 in
set_option maxHeartbeats 4000000 in
theorem c_M_moves_75 (S : mm_S) : Cl 117 [(2, 75), (2, 79)] S (fun v S' => v = none ∧ (∀ j, 0 ≤ j → j < 576 → S' 79 j = S 75 j) ∧ ∀ x, x ≠ 79 → S' x = S x) := by
  refine ⟨Nat.le_of_ble_eq_true rfl, ?_⟩
  show Rn k_M_moves 0 [(2, 75), (2, 79), (9, 0)] [] S _
  refine R_op (nx := 1) rfl rfl rfl ?_
  refine R_lo (nx := 2) (ls' := [(2, 75), (2, 79), (0, 0)]) rfl rfl rfl rfl ?_
  have L2 : ∀ (f2 : Nat) (S1 : mm_S) (i : Int), ((576 : Int) - i).toNat < f2 → (0 ≤ i ∧ i ≤ 576) → (∀ j, 0 ≤ j → j < i → S1 79 j = S 75 j) → (∀ x, x ≠ 79 → S1 x = S x) → Rn k_M_moves 2 [(2, 75), (2, 79), (0, i)] [] S1 (fun v S' => v = none ∧ (∀ j, 0 ≤ j → j < 576 → S' 79 j = S 75 j) ∧ ∀ x, x ≠ 79 → S' x = S x) := by
    intro f2
    induction f2 with
    | zero => intro S1 i hm2; exact absurd hm2 (Nat.not_lt_zero _)
    | succ f2 ih2 =>
      intro S1 i hm2 hi hM hF
      refine R_lo (nx := 3) rfl rfl rfl rfl ?_
      refine R_lo (nx := 4) rfl rfl rfl rfl ?_
      refine R_op (nx := 5) (st' := [(0, 720), (0, i)]) (S' := S1) rfl rfl rfl ?_
      refine R_icmp (nx := 8) (tg := 26) rfl rfl rfl (mm_cnd_ge _ _) (fun c5 => ?_) (fun c5 => ?_)
      ·
        refine R_ret rfl (fun _ _ => rfl) rfl rfl ?_
        exact ⟨rfl, fun j p q => hM j p (by omega), hF⟩
      ·
        refine R_lo (nx := 9) rfl rfl rfl rfl ?_
        refine R_lo (nx := 10) rfl rfl rfl rfl ?_
        refine R_op (nx := 11) (st' := [(0, 576), (0, i)]) (S' := S1) rfl rfl rfl ?_
        refine R_icmp (nx := 14) (tg := 26) rfl rfl rfl (mm_cnd_ge _ _) (fun c11 => ?_) (fun c11 => ?_)
        ·
          refine R_ret rfl (fun _ _ => rfl) rfl rfl ?_
          exact ⟨rfl, fun j p q => hM j p (by omega), hF⟩
        ·
          refine R_lo (nx := 15) rfl rfl rfl rfl ?_
          refine R_lo (nx := 16) rfl rfl rfl rfl ?_
          refine R_lo (nx := 17) rfl rfl rfl rfl ?_
          refine R_lo (nx := 18) rfl rfl rfl rfl ?_
          refine R_iald (nx := 19) rfl rfl (mm_el_ok 1 720 (by decide) rfl (by decide) (by omega) (by omega)) ?_
          refine R_iast (nx := 20) rfl rfl (mm_el_ok 1 576 (by decide) rfl (by decide) (by omega) (by omega)) ?_
          refine R_iinc (nx := 23) (z := (i + 1)) (ls' := [(2, 75), (2, 79), (0, (i + 1))]) rfl rfl rfl rfl ⟨by omega, by omega⟩ rfl ?_
          refine R_op (nx := 26) (pc' := 2) rfl rfl rfl ?_
          refine Rn.weak (ls' := [(2, 75), (2, 79), (0, (i + 1))]) ⟨Or.inl rfl, ⟨Or.inl rfl, ⟨Or.inl rfl, trivial⟩⟩⟩ ?_
          refine ih2 ((mm_up S1 79 i (S1 75 i))) ((i + 1)) ?_ ?_ ?_ ?_
          · omega
          · omega
          · intro j p q
            by_cases e : j = i
            · rw [e, mm_ua, hF 75 (by decide)]
            · rw [mm_uk e]; exact hM j p (by omega)
          · intro x hx; rw [mm_unq hx]; exact hF x hx
  refine Rn.weak (ls' := [(2, 75), (2, 79), (0, 0)]) ⟨Or.inl rfl, ⟨Or.inl rfl, ⟨Or.inl rfl, trivial⟩⟩⟩ ?_
  refine L2 (((576 : Int) - (0)).toNat + 1) (S) (0) (Nat.lt_succ_self _) ?_ ?_ ?_
  · omega
  · intro j p q; omega
  · intro x hx; rfl

set_option maxRecDepth 20000 in
set_option maxHeartbeats 4000000 in
theorem c_M_moves_76 (S : mm_S) : Cl 117 [(2, 76), (2, 72)] S (fun v S' => v = none ∧ (∀ j, 0 ≤ j → j < 4 → S' 72 j = S 76 j) ∧ ∀ x, x ≠ 72 → S' x = S x) := by
  refine ⟨Nat.le_of_ble_eq_true rfl, ?_⟩
  show Rn k_M_moves 0 [(2, 76), (2, 72), (9, 0)] [] S _
  refine R_op (nx := 1) rfl rfl rfl ?_
  refine R_lo (nx := 2) (ls' := [(2, 76), (2, 72), (0, 0)]) rfl rfl rfl rfl ?_
  have L2 : ∀ (f2 : Nat) (S1 : mm_S) (i : Int), ((4 : Int) - i).toNat < f2 → (0 ≤ i ∧ i ≤ 4) → (∀ j, 0 ≤ j → j < i → S1 72 j = S 76 j) → (∀ x, x ≠ 72 → S1 x = S x) → Rn k_M_moves 2 [(2, 76), (2, 72), (0, i)] [] S1 (fun v S' => v = none ∧ (∀ j, 0 ≤ j → j < 4 → S' 72 j = S 76 j) ∧ ∀ x, x ≠ 72 → S' x = S x) := by
    intro f2
    induction f2 with
    | zero => intro S1 i hm2; exact absurd hm2 (Nat.not_lt_zero _)
    | succ f2 ih2 =>
      intro S1 i hm2 hi hM hF
      refine R_lo (nx := 3) rfl rfl rfl rfl ?_
      refine R_lo (nx := 4) rfl rfl rfl rfl ?_
      refine R_op (nx := 5) (st' := [(0, 4), (0, i)]) (S' := S1) rfl rfl rfl ?_
      refine R_icmp (nx := 8) (tg := 26) rfl rfl rfl (mm_cnd_ge _ _) (fun c5 => ?_) (fun c5 => ?_)
      ·
        refine R_ret rfl (fun _ _ => rfl) rfl rfl ?_
        exact ⟨rfl, fun j p q => hM j p (by omega), hF⟩
      ·
        refine R_lo (nx := 9) rfl rfl rfl rfl ?_
        refine R_lo (nx := 10) rfl rfl rfl rfl ?_
        refine R_op (nx := 11) (st' := [(0, 5), (0, i)]) (S' := S1) rfl rfl rfl ?_
        refine R_icmp (nx := 14) (tg := 26) rfl rfl rfl (mm_cnd_ge _ _) (fun c11 => ?_) (fun c11 => ?_)
        ·
          refine R_ret rfl (fun _ _ => rfl) rfl rfl ?_
          exact ⟨rfl, fun j p q => hM j p (by omega), hF⟩
        ·
          refine R_lo (nx := 15) rfl rfl rfl rfl ?_
          refine R_lo (nx := 16) rfl rfl rfl rfl ?_
          refine R_lo (nx := 17) rfl rfl rfl rfl ?_
          refine R_lo (nx := 18) rfl rfl rfl rfl ?_
          refine R_iald (nx := 19) rfl rfl (mm_el_ok 1 4 (by decide) rfl (by decide) (by omega) (by omega)) ?_
          refine R_iast (nx := 20) rfl rfl (mm_el_ok 1 5 (by decide) rfl (by decide) (by omega) (by omega)) ?_
          refine R_iinc (nx := 23) (z := (i + 1)) (ls' := [(2, 76), (2, 72), (0, (i + 1))]) rfl rfl rfl rfl ⟨by omega, by omega⟩ rfl ?_
          refine R_op (nx := 26) (pc' := 2) rfl rfl rfl ?_
          refine Rn.weak (ls' := [(2, 76), (2, 72), (0, (i + 1))]) ⟨Or.inl rfl, ⟨Or.inl rfl, ⟨Or.inl rfl, trivial⟩⟩⟩ ?_
          refine ih2 ((mm_up S1 72 i (S1 76 i))) ((i + 1)) ?_ ?_ ?_ ?_
          · omega
          · omega
          · intro j p q
            by_cases e : j = i
            · rw [e, mm_ua, hF 76 (by decide)]
            · rw [mm_uk e]; exact hM j p (by omega)
          · intro x hx; rw [mm_unq hx]; exact hF x hx
  refine Rn.weak (ls' := [(2, 76), (2, 72), (0, 0)]) ⟨Or.inl rfl, ⟨Or.inl rfl, ⟨Or.inl rfl, trivial⟩⟩⟩ ?_
  refine L2 (((4 : Int) - (0)).toNat + 1) (S) (0) (Nat.lt_succ_self _) ?_ ?_ ?_
  · omega
  · intro j p q; omega
  · intro x hx; rfl

set_option maxRecDepth 20000 in
set_option maxHeartbeats 4000000 in
theorem c_M_moves_77 (S : mm_S) : Cl 117 [(2, 77), (2, 73)] S (fun v S' => v = none ∧ (∀ j, 0 ≤ j → j < 48 → S' 73 j = S 77 j) ∧ ∀ x, x ≠ 73 → S' x = S x) := by
  refine ⟨Nat.le_of_ble_eq_true rfl, ?_⟩
  show Rn k_M_moves 0 [(2, 77), (2, 73), (9, 0)] [] S _
  refine R_op (nx := 1) rfl rfl rfl ?_
  refine R_lo (nx := 2) (ls' := [(2, 77), (2, 73), (0, 0)]) rfl rfl rfl rfl ?_
  have L2 : ∀ (f2 : Nat) (S1 : mm_S) (i : Int), ((48 : Int) - i).toNat < f2 → (0 ≤ i ∧ i ≤ 48) → (∀ j, 0 ≤ j → j < i → S1 73 j = S 77 j) → (∀ x, x ≠ 73 → S1 x = S x) → Rn k_M_moves 2 [(2, 77), (2, 73), (0, i)] [] S1 (fun v S' => v = none ∧ (∀ j, 0 ≤ j → j < 48 → S' 73 j = S 77 j) ∧ ∀ x, x ≠ 73 → S' x = S x) := by
    intro f2
    induction f2 with
    | zero => intro S1 i hm2; exact absurd hm2 (Nat.not_lt_zero _)
    | succ f2 ih2 =>
      intro S1 i hm2 hi hM hF
      refine R_lo (nx := 3) rfl rfl rfl rfl ?_
      refine R_lo (nx := 4) rfl rfl rfl rfl ?_
      refine R_op (nx := 5) (st' := [(0, 48), (0, i)]) (S' := S1) rfl rfl rfl ?_
      refine R_icmp (nx := 8) (tg := 26) rfl rfl rfl (mm_cnd_ge _ _) (fun c5 => ?_) (fun c5 => ?_)
      ·
        refine R_ret rfl (fun _ _ => rfl) rfl rfl ?_
        exact ⟨rfl, fun j p q => hM j p (by omega), hF⟩
      ·
        refine R_lo (nx := 9) rfl rfl rfl rfl ?_
        refine R_lo (nx := 10) rfl rfl rfl rfl ?_
        refine R_op (nx := 11) (st' := [(0, 60), (0, i)]) (S' := S1) rfl rfl rfl ?_
        refine R_icmp (nx := 14) (tg := 26) rfl rfl rfl (mm_cnd_ge _ _) (fun c11 => ?_) (fun c11 => ?_)
        ·
          refine R_ret rfl (fun _ _ => rfl) rfl rfl ?_
          exact ⟨rfl, fun j p q => hM j p (by omega), hF⟩
        ·
          refine R_lo (nx := 15) rfl rfl rfl rfl ?_
          refine R_lo (nx := 16) rfl rfl rfl rfl ?_
          refine R_lo (nx := 17) rfl rfl rfl rfl ?_
          refine R_lo (nx := 18) rfl rfl rfl rfl ?_
          refine R_iald (nx := 19) rfl rfl (mm_el_ok 1 48 (by decide) rfl (by decide) (by omega) (by omega)) ?_
          refine R_iast (nx := 20) rfl rfl (mm_el_ok 1 60 (by decide) rfl (by decide) (by omega) (by omega)) ?_
          refine R_iinc (nx := 23) (z := (i + 1)) (ls' := [(2, 77), (2, 73), (0, (i + 1))]) rfl rfl rfl rfl ⟨by omega, by omega⟩ rfl ?_
          refine R_op (nx := 26) (pc' := 2) rfl rfl rfl ?_
          refine Rn.weak (ls' := [(2, 77), (2, 73), (0, (i + 1))]) ⟨Or.inl rfl, ⟨Or.inl rfl, ⟨Or.inl rfl, trivial⟩⟩⟩ ?_
          refine ih2 ((mm_up S1 73 i (S1 77 i))) ((i + 1)) ?_ ?_ ?_ ?_
          · omega
          · omega
          · intro j p q
            by_cases e : j = i
            · rw [e, mm_ua, hF 77 (by decide)]
            · rw [mm_uk e]; exact hM j p (by omega)
          · intro x hx; rw [mm_unq hx]; exact hF x hx
  refine Rn.weak (ls' := [(2, 77), (2, 73), (0, 0)]) ⟨Or.inl rfl, ⟨Or.inl rfl, ⟨Or.inl rfl, trivial⟩⟩⟩ ?_
  refine L2 (((48 : Int) - (0)).toNat + 1) (S) (0) (Nat.lt_succ_self _) ?_ ?_ ?_
  · omega
  · intro j p q; omega
  · intro x hx; rfl

set_option maxRecDepth 20000 in
set_option maxHeartbeats 4000000 in
theorem c_M_moves_78 (S : mm_S) : Cl 117 [(2, 78), (2, 74)] S (fun v S' => v = none ∧ (∀ j, 0 ≤ j → j < 96 → S' 74 j = S 78 j) ∧ ∀ x, x ≠ 74 → S' x = S x) := by
  refine ⟨Nat.le_of_ble_eq_true rfl, ?_⟩
  show Rn k_M_moves 0 [(2, 78), (2, 74), (9, 0)] [] S _
  refine R_op (nx := 1) rfl rfl rfl ?_
  refine R_lo (nx := 2) (ls' := [(2, 78), (2, 74), (0, 0)]) rfl rfl rfl rfl ?_
  have L2 : ∀ (f2 : Nat) (S1 : mm_S) (i : Int), ((96 : Int) - i).toNat < f2 → (0 ≤ i ∧ i ≤ 96) → (∀ j, 0 ≤ j → j < i → S1 74 j = S 78 j) → (∀ x, x ≠ 74 → S1 x = S x) → Rn k_M_moves 2 [(2, 78), (2, 74), (0, i)] [] S1 (fun v S' => v = none ∧ (∀ j, 0 ≤ j → j < 96 → S' 74 j = S 78 j) ∧ ∀ x, x ≠ 74 → S' x = S x) := by
    intro f2
    induction f2 with
    | zero => intro S1 i hm2; exact absurd hm2 (Nat.not_lt_zero _)
    | succ f2 ih2 =>
      intro S1 i hm2 hi hM hF
      refine R_lo (nx := 3) rfl rfl rfl rfl ?_
      refine R_lo (nx := 4) rfl rfl rfl rfl ?_
      refine R_op (nx := 5) (st' := [(0, 96), (0, i)]) (S' := S1) rfl rfl rfl ?_
      refine R_icmp (nx := 8) (tg := 26) rfl rfl rfl (mm_cnd_ge _ _) (fun c5 => ?_) (fun c5 => ?_)
      ·
        refine R_ret rfl (fun _ _ => rfl) rfl rfl ?_
        exact ⟨rfl, fun j p q => hM j p (by omega), hF⟩
      ·
        refine R_lo (nx := 9) rfl rfl rfl rfl ?_
        refine R_lo (nx := 10) rfl rfl rfl rfl ?_
        refine R_op (nx := 11) (st' := [(0, 120), (0, i)]) (S' := S1) rfl rfl rfl ?_
        refine R_icmp (nx := 14) (tg := 26) rfl rfl rfl (mm_cnd_ge _ _) (fun c11 => ?_) (fun c11 => ?_)
        ·
          refine R_ret rfl (fun _ _ => rfl) rfl rfl ?_
          exact ⟨rfl, fun j p q => hM j p (by omega), hF⟩
        ·
          refine R_lo (nx := 15) rfl rfl rfl rfl ?_
          refine R_lo (nx := 16) rfl rfl rfl rfl ?_
          refine R_lo (nx := 17) rfl rfl rfl rfl ?_
          refine R_lo (nx := 18) rfl rfl rfl rfl ?_
          refine R_iald (nx := 19) rfl rfl (mm_el_ok 1 96 (by decide) rfl (by decide) (by omega) (by omega)) ?_
          refine R_iast (nx := 20) rfl rfl (mm_el_ok 1 120 (by decide) rfl (by decide) (by omega) (by omega)) ?_
          refine R_iinc (nx := 23) (z := (i + 1)) (ls' := [(2, 78), (2, 74), (0, (i + 1))]) rfl rfl rfl rfl ⟨by omega, by omega⟩ rfl ?_
          refine R_op (nx := 26) (pc' := 2) rfl rfl rfl ?_
          refine Rn.weak (ls' := [(2, 78), (2, 74), (0, (i + 1))]) ⟨Or.inl rfl, ⟨Or.inl rfl, ⟨Or.inl rfl, trivial⟩⟩⟩ ?_
          refine ih2 ((mm_up S1 74 i (S1 78 i))) ((i + 1)) ?_ ?_ ?_ ?_
          · omega
          · omega
          · intro j p q
            by_cases e : j = i
            · rw [e, mm_ua, hF 78 (by decide)]
            · rw [mm_uk e]; exact hM j p (by omega)
          · intro x hx; rw [mm_unq hx]; exact hF x hx
  refine Rn.weak (ls' := [(2, 78), (2, 74), (0, 0)]) ⟨Or.inl rfl, ⟨Or.inl rfl, ⟨Or.inl rfl, trivial⟩⟩⟩ ?_
  refine L2 (((96 : Int) - (0)).toNat + 1) (S) (0) (Nat.lt_succ_self _) ?_ ?_ ?_
  · omega
  · intro j p q; omega
  · intro x hx; rfl

set_option maxRecDepth 20000 in
set_option maxHeartbeats 4000000 in
theorem c_M_moves_79 (S : mm_S) : Cl 117 [(2, 79), (2, 75)] S (fun v S' => v = none ∧ (∀ j, 0 ≤ j → j < 576 → S' 75 j = S 79 j) ∧ ∀ x, x ≠ 75 → S' x = S x) := by
  refine ⟨Nat.le_of_ble_eq_true rfl, ?_⟩
  show Rn k_M_moves 0 [(2, 79), (2, 75), (9, 0)] [] S _
  refine R_op (nx := 1) rfl rfl rfl ?_
  refine R_lo (nx := 2) (ls' := [(2, 79), (2, 75), (0, 0)]) rfl rfl rfl rfl ?_
  have L2 : ∀ (f2 : Nat) (S1 : mm_S) (i : Int), ((576 : Int) - i).toNat < f2 → (0 ≤ i ∧ i ≤ 576) → (∀ j, 0 ≤ j → j < i → S1 75 j = S 79 j) → (∀ x, x ≠ 75 → S1 x = S x) → Rn k_M_moves 2 [(2, 79), (2, 75), (0, i)] [] S1 (fun v S' => v = none ∧ (∀ j, 0 ≤ j → j < 576 → S' 75 j = S 79 j) ∧ ∀ x, x ≠ 75 → S' x = S x) := by
    intro f2
    induction f2 with
    | zero => intro S1 i hm2; exact absurd hm2 (Nat.not_lt_zero _)
    | succ f2 ih2 =>
      intro S1 i hm2 hi hM hF
      refine R_lo (nx := 3) rfl rfl rfl rfl ?_
      refine R_lo (nx := 4) rfl rfl rfl rfl ?_
      refine R_op (nx := 5) (st' := [(0, 576), (0, i)]) (S' := S1) rfl rfl rfl ?_
      refine R_icmp (nx := 8) (tg := 26) rfl rfl rfl (mm_cnd_ge _ _) (fun c5 => ?_) (fun c5 => ?_)
      ·
        refine R_ret rfl (fun _ _ => rfl) rfl rfl ?_
        exact ⟨rfl, fun j p q => hM j p (by omega), hF⟩
      ·
        refine R_lo (nx := 9) rfl rfl rfl rfl ?_
        refine R_lo (nx := 10) rfl rfl rfl rfl ?_
        refine R_op (nx := 11) (st' := [(0, 720), (0, i)]) (S' := S1) rfl rfl rfl ?_
        refine R_icmp (nx := 14) (tg := 26) rfl rfl rfl (mm_cnd_ge _ _) (fun c11 => ?_) (fun c11 => ?_)
        ·
          refine R_ret rfl (fun _ _ => rfl) rfl rfl ?_
          exact ⟨rfl, fun j p q => hM j p (by omega), hF⟩
        ·
          refine R_lo (nx := 15) rfl rfl rfl rfl ?_
          refine R_lo (nx := 16) rfl rfl rfl rfl ?_
          refine R_lo (nx := 17) rfl rfl rfl rfl ?_
          refine R_lo (nx := 18) rfl rfl rfl rfl ?_
          refine R_iald (nx := 19) rfl rfl (mm_el_ok 1 576 (by decide) rfl (by decide) (by omega) (by omega)) ?_
          refine R_iast (nx := 20) rfl rfl (mm_el_ok 1 720 (by decide) rfl (by decide) (by omega) (by omega)) ?_
          refine R_iinc (nx := 23) (z := (i + 1)) (ls' := [(2, 79), (2, 75), (0, (i + 1))]) rfl rfl rfl rfl ⟨by omega, by omega⟩ rfl ?_
          refine R_op (nx := 26) (pc' := 2) rfl rfl rfl ?_
          refine Rn.weak (ls' := [(2, 79), (2, 75), (0, (i + 1))]) ⟨Or.inl rfl, ⟨Or.inl rfl, ⟨Or.inl rfl, trivial⟩⟩⟩ ?_
          refine ih2 ((mm_up S1 75 i (S1 79 i))) ((i + 1)) ?_ ?_ ?_ ?_
          · omega
          · omega
          · intro j p q
            by_cases e : j = i
            · rw [e, mm_ua, hF 79 (by decide)]
            · rw [mm_uk e]; exact hM j p (by omega)
          · intro x hx; rw [mm_unq hx]; exact hF x hx
  refine Rn.weak (ls' := [(2, 79), (2, 75), (0, 0)]) ⟨Or.inl rfl, ⟨Or.inl rfl, ⟨Or.inl rfl, trivial⟩⟩⟩ ?_
  refine L2 (((576 : Int) - (0)).toNat + 1) (S) (0) (Nat.lt_succ_self _) ?_ ?_ ?_
  · omega
  · intro j p q; omega
  · intro x hx; rfl

set_option maxRecDepth 20000 in
set_option maxHeartbeats 4000000 in
theorem c_M_keep (S : mm_S) (A : mm_A) (hRR : RR S A) (hV : Vs A)  : Cl 118 [(2, 71)] S (fun vv S' => vv = some (0, (Q_keep A).1) ∧ RR S' (Q_keep A).2 ∧ ∀ b, ¬ (71 ≤ b ∧ b < 91) → S' b = S b) := by
  refine ⟨Nat.le_of_ble_eq_true rfl, ?_⟩
  show Rn k_M_keep 0 [(2, 71)] [] S _
  refine R_lo (nx := 1) rfl rfl rfl rfl ?_
  refine R_get (nx := 4) (w := (2, 72)) rfl rfl rfl rfl ?_
  refine R_lo (nx := 5) rfl rfl rfl rfl ?_
  refine R_get (nx := 8) (w := (2, 76)) rfl rfl rfl rfl ?_
  refine R_call0 (nx := 11) (as := [(2, 72), (2, 76)]) (rest := []) rfl rfl (fun _ _ => rfl) rfl rfl rfl rfl rfl rfl rfl rfl (Cl.mono (c_M_moves_72 S) ?_)
  rintro _ S8 ⟨rfl, h8, f8⟩
  refine ⟨rfl, ?_⟩
  refine R_lo (nx := 12) rfl rfl rfl rfl ?_
  refine R_get (nx := 15) (w := (2, 73)) rfl rfl rfl rfl ?_
  refine R_lo (nx := 16) rfl rfl rfl rfl ?_
  refine R_get (nx := 19) (w := (2, 77)) rfl rfl rfl rfl ?_
  refine R_call0 (nx := 22) (as := [(2, 73), (2, 77)]) (rest := []) rfl rfl (fun _ _ => rfl) rfl rfl rfl rfl rfl rfl rfl rfl (Cl.mono (c_M_moves_73 S8) ?_)
  rintro _ S19 ⟨rfl, h19, f19⟩
  refine ⟨rfl, ?_⟩
  refine R_lo (nx := 23) rfl rfl rfl rfl ?_
  refine R_get (nx := 26) (w := (2, 74)) rfl rfl rfl rfl ?_
  refine R_lo (nx := 27) rfl rfl rfl rfl ?_
  refine R_get (nx := 30) (w := (2, 78)) rfl rfl rfl rfl ?_
  refine R_call0 (nx := 33) (as := [(2, 74), (2, 78)]) (rest := []) rfl rfl (fun _ _ => rfl) rfl rfl rfl rfl rfl rfl rfl rfl (Cl.mono (c_M_moves_74 S19) ?_)
  rintro _ S30 ⟨rfl, h30, f30⟩
  refine ⟨rfl, ?_⟩
  refine R_lo (nx := 34) rfl rfl rfl rfl ?_
  refine R_get (nx := 37) (w := (2, 75)) rfl rfl rfl rfl ?_
  refine R_lo (nx := 38) rfl rfl rfl rfl ?_
  refine R_get (nx := 41) (w := (2, 79)) rfl rfl rfl rfl ?_
  refine R_call0 (nx := 44) (as := [(2, 75), (2, 79)]) (rest := []) rfl rfl (fun _ _ => rfl) rfl rfl rfl rfl rfl rfl rfl rfl (Cl.mono (c_M_moves_75 S30) ?_)
  rintro _ S41 ⟨rfl, h41, f41⟩
  refine ⟨rfl, ?_⟩
  have hk : ∀ c, 0 ≤ c → c < 4 → MK4 S41 c (AK A c) := fun c p q => by
    have k := hRR.k p q
    have hn := k.n
    have hz := k.1.nr
    refine ⟨k.1.1, ?_, fun x u w => ⟨?_, ?_, ?_⟩, fun x y u w s t => ?_⟩
    · rw [f41 76 (by decide), f30 76 (by decide), f19 76 (by decide), h8 c p q]; exact hn
    · rw [f41 77 (by decide), f30 77 (by decide), h19 _ (by omega) (by omega), f8 73 (by decide)]; exact (k.1.2.1 x u w).1
    · rw [f41 78 (by decide), h30 _ (by omega) (by omega), f19 74 (by decide), f8 74 (by decide)]; exact (k.1.2.1 x u w).2.1
    · rw [f41 78 (by decide), h30 _ (by omega) (by omega), f19 74 (by decide), f8 74 (by decide)]; exact (k.1.2.1 x u w).2.2
    · rw [h41 _ (by omega) (by omega), f30 75 (by decide), f19 75 (by decide), f8 75 (by decide)]; exact k.1.e ⟨u, w⟩ ⟨s, t⟩
  have hf4 : ∀ b, ¬ (76 ≤ b ∧ b ≤ 79) → S41 b = S b := fun b hb => by rw [f41 b (by omega), f30 b (by omega), f19 b (by omega), f8 b (by omega)]
  refine R_lo (nx := 45) rfl rfl rfl rfl ?_
  refine R_op (nx := 46) rfl rfl rfl ?_
  refine R_put (nx := 49) (kk := 8) rfl rfl rfl rfl rfl ?_
  refine R_op (nx := 50) rfl rfl rfl ?_
  refine R_ret rfl (fun _ _ => rfl) rfl rfl ?_
  rw [show Q_keep A = (1, Akq A) from rfl]; exact ⟨rfl, hRR.kq (fun c p q => (hk c p q).fr fun b _ _ => mm_unq (by omega)) ⟨mm_ua, ⟨by rw [mm_uk (by decide), hf4 71 (by decide)], by rw [mm_uk (by decide), hf4 71 (by decide)], by rw [mm_uk (by decide), hf4 71 (by decide)]⟩, by rw [mm_uk (by decide), hf4 71 (by decide)]⟩ fun b hb => by rw [mm_unq (by omega)]; exact hf4 b (by omega), fun b hb => by rw [mm_unq (by omega)]; exact hf4 b (by omega)⟩

set_option maxRecDepth 20000 in
set_option maxHeartbeats 4000000 in
theorem c_M_again (S : mm_S) (A : mm_A) (hRR : RR S A) (hV : Vs A)  : Cl 119 [(2, 71)] S (fun vv S' => vv = some (0, (Q_again A).1) ∧ RR S' (Q_again A).2 ∧ ∀ b, ¬ (71 ≤ b ∧ b < 91) → S' b = S b) := by
  refine ⟨Nat.le_of_ble_eq_true rfl, ?_⟩
  show Rn k_M_again 0 [(2, 71)] [] S _
  refine R_lo (nx := 1) rfl rfl rfl rfl ?_
  refine R_get (nx := 4) (w := (0, (S 71 8))) rfl rfl rfl rfl ?_
  rw [hRR.2.2.1]
  refine R_if (nx := 7) (tg := 10) rfl rfl rfl (mm_cnd_ne _ _) (fun c4 => ?_) (fun c4 => ?_)
  ·
    refine R_lo (nx := 11) rfl rfl rfl rfl ?_
    refine R_get (nx := 14) (w := (2, 76)) rfl rfl rfl rfl ?_
    refine R_lo (nx := 15) rfl rfl rfl rfl ?_
    refine R_get (nx := 18) (w := (2, 72)) rfl rfl rfl rfl ?_
    refine R_call0 (nx := 21) (as := [(2, 76), (2, 72)]) (rest := []) rfl rfl (fun _ _ => rfl) rfl rfl rfl rfl rfl rfl rfl rfl (Cl.mono (c_M_moves_76 S) ?_)
    rintro _ S18 ⟨rfl, h18, f18⟩
    refine ⟨rfl, ?_⟩
    refine R_lo (nx := 22) rfl rfl rfl rfl ?_
    refine R_get (nx := 25) (w := (2, 77)) rfl rfl rfl rfl ?_
    refine R_lo (nx := 26) rfl rfl rfl rfl ?_
    refine R_get (nx := 29) (w := (2, 73)) rfl rfl rfl rfl ?_
    refine R_call0 (nx := 32) (as := [(2, 77), (2, 73)]) (rest := []) rfl rfl (fun _ _ => rfl) rfl rfl rfl rfl rfl rfl rfl rfl (Cl.mono (c_M_moves_77 S18) ?_)
    rintro _ S29 ⟨rfl, h29, f29⟩
    refine ⟨rfl, ?_⟩
    refine R_lo (nx := 33) rfl rfl rfl rfl ?_
    refine R_get (nx := 36) (w := (2, 78)) rfl rfl rfl rfl ?_
    refine R_lo (nx := 37) rfl rfl rfl rfl ?_
    refine R_get (nx := 40) (w := (2, 74)) rfl rfl rfl rfl ?_
    refine R_call0 (nx := 43) (as := [(2, 78), (2, 74)]) (rest := []) rfl rfl (fun _ _ => rfl) rfl rfl rfl rfl rfl rfl rfl rfl (Cl.mono (c_M_moves_78 S29) ?_)
    rintro _ S40 ⟨rfl, h40, f40⟩
    refine ⟨rfl, ?_⟩
    refine R_lo (nx := 44) rfl rfl rfl rfl ?_
    refine R_get (nx := 47) (w := (2, 79)) rfl rfl rfl rfl ?_
    refine R_lo (nx := 48) rfl rfl rfl rfl ?_
    refine R_get (nx := 51) (w := (2, 75)) rfl rfl rfl rfl ?_
    refine R_call0 (nx := 54) (as := [(2, 79), (2, 75)]) (rest := []) rfl rfl (fun _ _ => rfl) rfl rfl rfl rfl rfl rfl rfl rfl (Cl.mono (c_M_moves_79 S40) ?_)
    rintro _ S51 ⟨rfl, h51, f51⟩
    refine ⟨rfl, ?_⟩
    have hk : ∀ c, 0 ≤ c → c < 4 → MR S51 c (AQ A c) := fun c p q => by
      have k := hRR.2.1 c p q
      have hz := k.1.1
      refine ⟨⟨k.1, fun x u w => ⟨?_, ?_, ?_⟩, fun x y u w s t => ?_⟩, ?_⟩
      · rw [f51 73 (by decide), f40 73 (by decide), h29 _ (by omega) (by omega), f18 77 (by decide)]; exact (k.2.2.1 x u w).1
      · rw [f51 74 (by decide), h40 _ (by omega) (by omega), f29 78 (by decide), f18 78 (by decide)]; exact (k.2.2.1 x u w).2.1
      · rw [f51 74 (by decide), h40 _ (by omega) (by omega), f29 78 (by decide), f18 78 (by decide)]; exact (k.2.2.1 x u w).2.2
      · rw [h51 _ (by omega) (by omega), f40 79 (by decide), f29 79 (by decide), f18 79 (by decide)]; exact k.2.2.2 x y u w s t
      · rw [f51 72 (by decide), f40 72 (by decide), f29 72 (by decide), h18 c p q]; exact k.2.1
    have hf4 : ∀ b, ¬ (72 ≤ b ∧ b ≤ 75) → S51 b = S b := fun b hb => by rw [f51 b (by omega), f40 b (by omega), f29 b (by omega), f18 b (by omega)]
    have hg : RR S51 (Aag A) := hRR.ag hk (hf4 71 (by decide)) fun b hb => hf4 b (by omega)
    refine R_lo (nx := 55) rfl rfl rfl rfl ?_
    refine R_call1 (nx := 58) (as := [(2, 71)]) (rest := []) rfl rfl (fun _ _ => rfl) rfl rfl rfl rfl rfl rfl rfl rfl (Cl.mono (c_M_cellsAll S51 (Aag A) hg) ?_)
    rintro _ _ ⟨rfl, rfl⟩
    refine ⟨_, rfl, ?_⟩
    refine R_ret rfl (fun _ _ => rfl) rfl rfl ?_
    rw [show Q_again A = ((sm (fun i => Xn (AQ A i)) 4), Aag A) from by unfold Q_again; simp only [Q_again, c4, ifo, ifm, ifp, iffq, ↓reduceIte, ite_self, and_self, and_true, true_and, and_false, false_and, or_true, true_or, or_false, false_or, or_self, not_true_eq_false, not_false_eq_true, ne_eq]]; exact ⟨rfl, hg, fun b hb => hf4 b (by omega)⟩
  ·
    replace c4 := Classical.not_not.mp c4
    refine R_op (nx := 9) rfl rfl rfl ?_
    refine R_ret rfl (fun _ _ => rfl) rfl rfl ?_
    rw [show Q_again A = ((-3), A) from by unfold Q_again; simp only [Q_again, c4, ifo, ifm, ifp, iffq, ↓reduceIte, ite_self, and_self, and_true, true_and, and_false, false_and, or_true, true_or, or_false, false_or, or_self, not_true_eq_false, not_false_eq_true, ne_eq]]; exact ⟨rfl, hRR, fun b _ => rfl⟩
