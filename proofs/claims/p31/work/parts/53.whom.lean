/-! The reference's table of longs: what its steps leave. -/
def sz (x : Int) : Int := if x < 0 then mm_w64 (-x) else x
theorem w64_r (x : Int) : mm_r64 (mm_w64 x) := by
  unfold mm_w64
  have h1 := Int.le_bmod (x := x) (m := 18446744073709551616) (by decide)
  have h2 := Int.bmod_lt (x := x) (m := 18446744073709551616) (by decide)
  exact ⟨by omega, by omega⟩
theorem w64_c (x : Int) : ∃ k, mm_w64 x = x + k * 18446744073709551616 := by
  unfold mm_w64
  rw [Int.bmod_def]
  split
  · exact ⟨-(x / 18446744073709551616), by omega⟩
  · exact ⟨-(x / 18446744073709551616) - 1, by omega⟩
theorem w64_u {x y k : Int} (h : mm_r64 x) (e : y = x + k * 18446744073709551616) : mm_w64 y = x := by
  obtain ⟨j, hj⟩ := w64_c y
  have := w64_r y
  unfold mm_r64 at *
  omega
theorem sz_m {x : Int} (h : mm_r64 x) : (x = -9223372036854775808 ∧ sz x = -9223372036854775808) ∨ (x ≠ -9223372036854775808 ∧ ((x < 0 ∧ sz x = -x) ∨ (0 ≤ x ∧ sz x = x))) := by
  unfold mm_r64 at h
  unfold sz
  by_cases e : x = -9223372036854775808
  · left
    refine ⟨e, ?_⟩
    rw [e]
    rw [if_pos (by decide)]
    exact w64_u (k := 1) ⟨by decide, by decide⟩ (by decide)
  · right
    refine ⟨e, ?_⟩
    by_cases q : x < 0
    · rw [if_pos q]
      exact Or.inl ⟨q, w64_u (k := 0) ⟨by omega, by omega⟩ (by omega)⟩
    · rw [if_neg q]
      exact Or.inr ⟨by omega, rfl⟩
theorem tm_lt {x p : Int} (hp : p ≠ 0) : (Int.tmod x p).natAbs < p.natAbs := by
  rw [Int.natAbs_tmod]
  exact Nat.mod_lt _ (by omega)
/-- a remainder that is something is smaller than what divided -/
theorem sz_tm {x p : Int} (hp : mm_r64 p) (h0 : 0 < sz p) (hz : Int.tmod x p ≠ 0) : 0 < sz (Int.tmod x p) ∧ sz (Int.tmod x p) < sz p := by
  have h1 := sz_m hp
  have hp0 : p ≠ 0 := fun e => by rw [e] at h0; exact absurd h0 (by decide)
  have h2 := tm_lt (x := x) hp0
  unfold mm_r64 at hp
  have h3 := sz_m (x := Int.tmod x p) ⟨by omega, by omega⟩
  omega
theorem tm_r {x p : Int} (hp : mm_r64 p) (h0 : p ≠ 0) : mm_r64 (Int.tmod x p) := by
  have h2 := tm_lt (x := x) h0
  unfold mm_r64 at *
  omega
theorem w64_red {x p : Int} (hp : mm_r64 p) (h0 : p ≠ 0) : mm_w64 (x - mm_w64 (mm_w64 (Int.tdiv x p) * p)) = Int.tmod x p := by
  obtain ⟨a, ha⟩ := w64_c (Int.tdiv x p)
  obtain ⟨b, hb⟩ := w64_c (mm_w64 (Int.tdiv x p) * p)
  have e := Int.tmod_add_mul_tdiv x p
  refine w64_u (k := -(a * p) - b) (tm_r hp h0) ?_
  rw [hb, ha]
  have e2 : (Int.tdiv x p + a * 18446744073709551616) * p = p * Int.tdiv x p + (a * p) * 18446744073709551616 := by
    rw [Int.add_mul, Int.mul_comm (Int.tdiv x p) p, Int.mul_assoc, Int.mul_comm 18446744073709551616 p, ← Int.mul_assoc]
  rw [e2]
  generalize p * Int.tdiv x p = u at e ⊢
  generalize a * p = w
  omega
def RG (S : mm_S) (m n : Int) : Prop := ∀ a b, 0 ≤ a → a < m → 0 ≤ b → b < n → mm_r64 (S 83 (12 * a + b))
theorem RG.fr {S S' : mm_S} {m n : Int} (h : RG S m n) (e : S' 83 = S 83) : RG S' m n := fun a b a0 a1 b0 b1 => by rw [e]; exact h a b a0 a1 b0 b1
theorem RG.up {S : mm_S} {m n k v : Int} (h : RG S m n) (hv : mm_r64 v) : RG (mm_up S 83 k v) m n := fun a b a0 a1 b0 b1 => by
  by_cases e : 12 * a + b = k
  · rw [e, mm_ua]; exact hv
  · rw [mm_uk e]; exact h a b a0 a1 b0 b1
def Tt (S : mm_S) (a b : Int) : Int := S 83 (12 * a + b)
def SCN (t n i j x y : Int) : Prop := t ≤ x ∧ t ≤ y ∧ y < n ∧ (x < i ∨ (x = i ∧ y < j))
def FND (S : mm_S) (t n a b i j : Int) : Prop := (a = -1 ∧ ∀ x y, SCN t n i j x y → ¬ 0 < sz (Tt S x y)) ∨ ((SCN t n i j a b ∧ 0 < sz (Tt S a b)) ∧ (∀ x y, SCN t n i j x y → 0 < sz (Tt S x y) → sz (Tt S a b) ≤ sz (Tt S x y)) ∧ ((0 < sz (Tt S t t) ∧ sz (Tt S t t) ≤ sz (Tt S a b)) → a = t ∧ b = t))
theorem FND_0 (S : mm_S) (t n : Int) : FND S t n (-1) (-1) t t := Or.inl ⟨rfl, fun x y h => by unfold SCN at h; omega⟩
theorem FND_b {S : mm_S} {t n a b i j : Int} (h : FND S t n a b i j) : a = -1 ∨ (t ≤ a ∧ t ≤ b ∧ b < n ∧ (a < i ∨ (a = i ∧ b < j))) := by
  rcases h with h | h
  · exact Or.inl h.1
  · exact Or.inr h.1.1
theorem FND_skip {S : mm_S} {t n a b i j : Int} (h : FND S t n a b i j) (hq : ¬ 0 < sz (Tt S i j) ∨ (a ≠ -1 ∧ sz (Tt S a b) ≤ sz (Tt S i j))) : FND S t n a b i (j + 1) := by
  have key : ∀ x y, SCN t n i (j + 1) x y → SCN t n i j x y ∨ (x = i ∧ y = j) := fun x y h => by unfold SCN at *; omega
  rcases h with ⟨h1, h2⟩ | ⟨⟨h1, h2⟩, h3, h4⟩
  · refine Or.inl ⟨h1, fun x y q => ?_⟩
    rcases key x y q with q | ⟨rfl, rfl⟩
    · exact h2 x y q
    · rcases hq with hq | hq
      · exact hq
      · exact absurd h1 hq.1
  · refine Or.inr ⟨⟨by unfold SCN at *; omega, h2⟩, fun x y q q2 => ?_, h4⟩
    rcases key x y q with q | ⟨rfl, rfl⟩
    · exact h3 x y q q2
    · rcases hq with hq | hq
      · exact absurd q2 hq
      · exact hq.2
theorem FND_new {S : mm_S} {t n a b i j : Int} (h : FND S t n a b i j) (ht : 0 ≤ t) (hi : t ≤ i ∧ t ≤ j ∧ j < n) (h0 : 0 < sz (Tt S i j)) (hq : a = -1 ∨ sz (Tt S i j) < sz (Tt S a b)) : FND S t n i j i (j + 1) := by
  have key : ∀ x y, SCN t n i (j + 1) x y → SCN t n i j x y ∨ (x = i ∧ y = j) := fun x y h => by unfold SCN at *; omega
  have ktt : (i = t ∧ j = t) ∨ SCN t n i j t t := by unfold SCN; omega
  refine Or.inr ⟨⟨by unfold SCN; omega, h0⟩, fun x y q q2 => ?_, fun q => ?_⟩
  · rcases key x y q with q | ⟨rfl, rfl⟩
    · rcases h with ⟨h1, h2⟩ | ⟨⟨h1, h2⟩, h3, h4⟩
      · exact absurd q2 (h2 x y q)
      · have := h3 x y q q2
        unfold SCN at h1
        omega
    · exact Int.le_refl _
  · rcases ktt with e | e
    · exact e
    · rcases h with ⟨h1, h2⟩ | ⟨⟨h1, h2⟩, h3, h4⟩
      · exact absurd q.1 (h2 t t e)
      · have := h3 t t e q.1
        unfold SCN at h1
        omega
theorem FND_row {S : mm_S} {t n a b i j : Int} (h : FND S t n a b i j) (hj : n ≤ j) : FND S t n a b (i + 1) t := by
  have key : ∀ x y, SCN t n (i + 1) t x y → SCN t n i j x y := fun x y h => by unfold SCN at *; omega
  rcases h with ⟨h1, h2⟩ | ⟨⟨h1, h2⟩, h3, h4⟩
  · exact Or.inl ⟨h1, fun x y q => h2 x y (key x y q)⟩
  · exact Or.inr ⟨⟨by unfold SCN at *; omega, h2⟩, fun x y q => h3 x y (key x y q), h4⟩
def swp (t a x : Int) : Int := if x = t then a else if x = a then t else x
theorem swp_r {t a x m : Int} (ht : 0 ≤ t ∧ t < m) (ha : 0 ≤ a ∧ a < m) (hx : 0 ≤ x ∧ x < m) : 0 ≤ swp t a x ∧ swp t a x < m := by
  unfold swp
  split
  · exact ha
  · split
    · exact ht
    · exact hx
theorem swp_i (t x : Int) : swp t t x = x := by
  unfold swp
  split
  · rename_i h; exact h.symm
  · rfl
/-! Whole numbers, as the reference tells them: it ends, and leaves the rest. -/
def cat (K : CX) (d w l x : Int) : Int := sm (fun i => if Xd K i = d ∧ (w < 0 ∨ Xl K w i = l) then 1 else 0) x
theorem cat_b (K : CX) (d w l : Int) {x : Int} (h : 0 ≤ x) : 0 ≤ cat K d w l x ∧ cat K d w l x ≤ x := by
  have := sm_b (f := fun i => if Xd K i = d ∧ (w < 0 ∨ Xl K w i = l) then 1 else 0) (lo := 0) (hi := 1) h fun i _ _ => by split <;> decide
  unfold cat; omega
theorem cat_s (K : CX) (d w l : Int) {x : Int} (h : 0 ≤ x) : cat K d w l (x + 1) = cat K d w l x + if Xd K x = d ∧ (w < 0 ∨ Xl K w x = l) then 1 else 0 := sm_s _ h

set_option maxRecDepth 20000 in
set_option maxHeartbeats 4000000 in
theorem c_M_isAt (S : mm_S) (c : Int) (hc : 0 ≤ c ∧ c < 5) (K : CX) (h : MR S c K) (x d w l : Int) (hx : 0 ≤ x ∧ x < Xn K) (hw : w ≤ 1) : Cl 86 [(2, 71), (0, c), (0, x), (0, d), (0, w), (0, l)] S (fun v S' => (v = some (0, 1) ∧ (Xd K x = d ∧ (w < 0 ∨ Xl K w x = l)) ∧ S = S') ∨ (v = some (0, 0) ∧ ¬ (Xd K x = d ∧ (w < 0 ∨ Xl K w x = l)) ∧ S = S')) := by
  refine ⟨Nat.le_of_ble_eq_true rfl, ?_⟩
  show Rn k_M_isAt 0 [(2, 71), (0, c), (0, x), (0, d), (0, w), (0, l)] [] S _
  have hnr := h.1.nr
  refine R_lo (nx := 1) rfl rfl rfl rfl ?_
  refine R_lo (nx := 2) rfl rfl rfl rfl ?_
  refine R_lo (nx := 3) rfl rfl rfl rfl ?_
  refine R_call1 (nx := 6) (as := [(2, 71), (0, c), (0, x)]) (rest := []) rfl rfl (fun _ _ => rfl) rfl rfl rfl rfl rfl rfl rfl rfl (Cl.mono (c_M_degree S c (by omega) K (show MRr S c K by first | assumption | exact MR.r (by assumption) | exact MRr.up (by assumption) (by omega) | exact MRr.up (MR.r (by assumption)) (by omega) | exact MRr.up (MRr.up (MR.r (by assumption)) (by omega)) (by omega)) x (by omega)) ?_)
  rintro _ _ ⟨rfl, rfl⟩
  refine ⟨_, rfl, ?_⟩
  refine R_lo (nx := 7) rfl rfl rfl rfl ?_
  refine R_icmp (nx := 10) (tg := 32) rfl rfl rfl (mm_cnd_ne _ _) (fun c7 => ?_) (fun c7 => ?_)
  ·
    refine R_op (nx := 33) rfl rfl rfl ?_
    refine R_ret rfl (fun _ _ => rfl) rfl rfl ?_
    first | exact Or.inl ⟨rfl, by omega, rfl⟩ | exact Or.inr ⟨rfl, by omega, rfl⟩
  ·
    replace c7 := Classical.not_not.mp c7
    refine R_lo (nx := 12) rfl rfl rfl rfl ?_
    refine R_if (nx := 15) (tg := 28) rfl rfl rfl (mm_cnd_lt _ _) (fun c12 => ?_) (fun c12 => ?_)
    ·
      refine R_op (nx := 29) rfl rfl rfl ?_
      refine R_op (nx := 32) (pc' := 33) rfl rfl rfl ?_
      refine R_ret rfl (fun _ _ => rfl) rfl rfl ?_
      first | exact Or.inl ⟨rfl, by omega, rfl⟩ | exact Or.inr ⟨rfl, by omega, rfl⟩
    ·
      refine R_lo (nx := 16) rfl rfl rfl rfl ?_
      refine R_lo (nx := 17) rfl rfl rfl rfl ?_
      refine R_lo (nx := 19) rfl rfl rfl rfl ?_
      refine R_lo (nx := 20) rfl rfl rfl rfl ?_
      refine R_call1 (nx := 23) (as := [(2, 71), (0, c), (0, w), (0, x)]) (rest := []) rfl rfl (fun _ _ => rfl) rfl rfl rfl rfl rfl rfl rfl rfl (Cl.mono (c_M_level S c (by omega) K (show MRr S c K by first | assumption | exact MR.r (by assumption) | exact MRr.up (by assumption) (by omega) | exact MRr.up (MR.r (by assumption)) (by omega) | exact MRr.up (MRr.up (MR.r (by assumption)) (by omega)) (by omega)) w x (by omega) (by omega)) ?_)
      rintro _ _ ⟨rfl, rfl⟩
      refine ⟨_, rfl, ?_⟩
      refine R_lo (nx := 25) rfl rfl rfl rfl ?_
      refine R_icmp (nx := 28) (tg := 32) rfl rfl rfl (mm_cnd_ne _ _) (fun c25 => ?_) (fun c25 => ?_)
      ·
        refine R_op (nx := 33) rfl rfl rfl ?_
        refine R_ret rfl (fun _ _ => rfl) rfl rfl ?_
        first | exact Or.inl ⟨rfl, by omega, rfl⟩ | exact Or.inr ⟨rfl, by omega, rfl⟩
      ·
        replace c25 := Classical.not_not.mp c25
        refine R_op (nx := 29) rfl rfl rfl ?_
        refine R_op (nx := 32) (pc' := 33) rfl rfl rfl ?_
        refine R_ret rfl (fun _ _ => rfl) rfl rfl ?_
        first | exact Or.inl ⟨rfl, by omega, rfl⟩ | exact Or.inr ⟨rfl, by omega, rfl⟩

set_option maxRecDepth 20000 in
set_option maxHeartbeats 4000000 in
theorem c_M_cellsAt (S : mm_S) (c : Int) (hc : 0 ≤ c ∧ c < 5) (K : CX) (h : MR S c K) (d w l : Int) (hw : w ≤ 1) : Cl 87 [(2, 71), (0, c), (0, d), (0, w), (0, l)] S (fun v S' => v = some (0, cat K d w l (Xn K)) ∧ S = S') := by
  refine ⟨Nat.le_of_ble_eq_true rfl, ?_⟩
  show Rn k_M_cellsAt 0 [(2, 71), (0, c), (0, d), (0, w), (0, l), (9, 0), (9, 0)] [] S _
  have hnr := h.1.nr
  have hn := h.n
  refine R_op (nx := 1) rfl rfl rfl ?_
  refine R_lo (nx := 3) (ls' := [(2, 71), (0, c), (0, d), (0, w), (0, l), (0, 0), (9, 0)]) rfl rfl rfl rfl ?_
  refine R_op (nx := 4) rfl rfl rfl ?_
  refine R_lo (nx := 6) (ls' := [(2, 71), (0, c), (0, d), (0, w), (0, l), (0, 0), (0, 0)]) rfl rfl rfl rfl ?_
  have L6 : ∀ (f6 : Nat) (z : Int) (i : Int), (Xn K - i).toNat < f6 → (0 ≤ i ∧ i ≤ Xn K) → (0 ≤ z ∧ z ≤ i) → (z = cat K d w l i) → Rn k_M_cellsAt 6 [(2, 71), (0, c), (0, d), (0, w), (0, l), (0, z), (0, i)] [] S (fun v S' => v = some (0, cat K d w l (Xn K)) ∧ S = S') := by
    intro f6
    induction f6 with
    | zero => intro z i hm6; exact absurd hm6 (Nat.not_lt_zero _)
    | succ f6 ih6 =>
      intro z i hm6 hi hz hq
      refine R_lo (nx := 8) rfl rfl rfl rfl ?_
      refine R_lo (nx := 9) rfl rfl rfl rfl ?_
      refine R_get (nx := 12) (w := (2, 72)) rfl rfl rfl rfl ?_
      refine R_lo (nx := 13) rfl rfl rfl rfl ?_
      refine R_iald (nx := 14) rfl rfl (mm_el_ok 1 5 (by decide) rfl (by decide) (by omega) (by omega)) ?_
      rw [hn]
      refine R_icmp (nx := 17) (tg := 47) rfl rfl rfl (mm_cnd_ge _ _) (fun c14 => ?_) (fun c14 => ?_)
      ·
        refine R_lo (nx := 49) rfl rfl rfl rfl ?_
        refine R_ret rfl (fun _ _ => rfl) rfl rfl ?_
        exact ⟨by rw [hq, show i = Xn K by omega], rfl⟩
      ·
        refine R_lo (nx := 19) rfl rfl rfl rfl ?_
        refine R_lo (nx := 20) rfl rfl rfl rfl ?_
        refine R_lo (nx := 21) rfl rfl rfl rfl ?_
        refine R_lo (nx := 23) rfl rfl rfl rfl ?_
        refine R_lo (nx := 24) rfl rfl rfl rfl ?_
        refine R_lo (nx := 25) rfl rfl rfl rfl ?_
        refine R_lo (nx := 27) rfl rfl rfl rfl ?_
        refine R_call1 (nx := 30) (as := [(2, 71), (0, c), (0, i), (0, d), (0, w), (0, l)]) (rest := [(0, z)]) rfl rfl (fun _ _ => rfl) rfl rfl rfl rfl rfl rfl rfl rfl (Cl.mono (c_M_isAt S c (by omega) K (show MR S c K by first | assumption | exact MR.up (by assumption) (by omega) | exact MR.up (MR.up (by assumption) (by omega)) (by omega) | exact MR.up (MR.up (MR.up (by assumption) (by omega)) (by omega)) (by omega)) i d w l (by omega) (by omega)) ?_)
        rintro _ _ (⟨rfl, b27, rfl⟩ | ⟨rfl, b27, rfl⟩)
        ·
          refine ⟨_, rfl, ?_⟩
          refine R_ifF (nx := 33) rfl rfl rfl ?_
          refine R_op (nx := 34) rfl rfl rfl ?_
          refine R_op (nx := 37) (pc' := 38) rfl rfl rfl ?_
          refine R_iadd (nx := 39) (z := (z + 1)) rfl rfl rfl ⟨by omega, by omega⟩ ?_
          refine R_lo (nx := 41) (ls' := [(2, 71), (0, c), (0, d), (0, w), (0, l), (0, (z + 1)), (0, i)]) rfl rfl rfl rfl ?_
          refine R_iinc (nx := 44) (z := (i + 1)) (ls' := [(2, 71), (0, c), (0, d), (0, w), (0, l), (0, (z + 1)), (0, (i + 1))]) rfl rfl rfl rfl ⟨by omega, by omega⟩ rfl ?_
          refine R_op (nx := 47) (pc' := 6) rfl rfl rfl ?_
          refine Rn.weak (ls' := [(2, 71), (0, c), (0, d), (0, w), (0, l), (0, (z + 1)), (0, (i + 1))]) ⟨Or.inl rfl, ⟨Or.inl rfl, ⟨Or.inl rfl, ⟨Or.inl rfl, ⟨Or.inl rfl, ⟨Or.inl rfl, ⟨Or.inl rfl, trivial⟩⟩⟩⟩⟩⟩⟩ ?_
          refine ih6 ((z + 1)) ((i + 1)) ?_ ?_ ?_ ?_
          · omega
          · omega
          · omega
          · rw [cat_s _ _ _ _ hi.1, ← hq]
            first | rw [if_pos b27] | rw [if_neg b27]
        ·
          refine ⟨_, rfl, ?_⟩
          refine R_ifT (tg := 37) rfl rfl rfl ?_
          refine R_op (nx := 38) rfl rfl rfl ?_
          refine R_iadd (nx := 39) (z := (z + 0)) rfl rfl rfl ⟨by omega, by omega⟩ ?_
          refine R_lo (nx := 41) (ls' := [(2, 71), (0, c), (0, d), (0, w), (0, l), (0, (z + 0)), (0, i)]) rfl rfl rfl rfl ?_
          refine R_iinc (nx := 44) (z := (i + 1)) (ls' := [(2, 71), (0, c), (0, d), (0, w), (0, l), (0, (z + 0)), (0, (i + 1))]) rfl rfl rfl rfl ⟨by omega, by omega⟩ rfl ?_
          refine R_op (nx := 47) (pc' := 6) rfl rfl rfl ?_
          refine Rn.weak (ls' := [(2, 71), (0, c), (0, d), (0, w), (0, l), (0, (z + 0)), (0, (i + 1))]) ⟨Or.inl rfl, ⟨Or.inl rfl, ⟨Or.inl rfl, ⟨Or.inl rfl, ⟨Or.inl rfl, ⟨Or.inl rfl, ⟨Or.inl rfl, trivial⟩⟩⟩⟩⟩⟩⟩ ?_
          refine ih6 ((z + 0)) ((i + 1)) ?_ ?_ ?_ ?_
          · omega
          · omega
          · omega
          · rw [cat_s _ _ _ _ hi.1, ← hq]
            first | rw [if_pos b27] | rw [if_neg b27]
  refine Rn.weak (ls' := [(2, 71), (0, c), (0, d), (0, w), (0, l), (0, 0), (0, 0)]) ⟨Or.inl rfl, ⟨Or.inl rfl, ⟨Or.inl rfl, ⟨Or.inl rfl, ⟨Or.inl rfl, ⟨Or.inl rfl, ⟨Or.inl rfl, trivial⟩⟩⟩⟩⟩⟩⟩ ?_
  refine L6 ((Xn K - (0)).toNat + 1) (0) (0) (Nat.lt_succ_self _) ?_ ?_ ?_
  · omega
  · omega
  · rfl

set_option maxRecDepth 20000 in
set_option maxHeartbeats 4000000 in
theorem c_M_size (S : mm_S) (x : Int) : Cl 89 [(1, x)] S (fun v S' => v = some (1, sz x) ∧ S = S') := by
  refine ⟨Nat.le_of_ble_eq_true rfl, ?_⟩
  show Rn k_M_size 0 [(1, x), (9, 0)] [] S _
  refine R_lo (nx := 1) rfl rfl rfl rfl ?_
  refine R_op (nx := 2) (st' := [(1, 0), (1, x)]) rfl rfl rfl ?_
  refine R_op (nx := 3) (st' := [(0, (if 0 < x then 1 else if x = 0 then 0 else -1))]) rfl rfl rfl ?_
  refine R_if (nx := 6) (tg := 11) rfl rfl rfl (mm_lc_ge _ _) (fun c3 => ?_) (fun c3 => ?_)
  ·
    refine R_lo (nx := 12) rfl rfl rfl rfl ?_
    refine R_ret rfl (fun _ _ => rfl) rfl rfl ?_
    first | exact ⟨by unfold sz; rw [if_pos (by omega)], rfl⟩ | exact ⟨by unfold sz; rw [if_neg (by omega)], rfl⟩
  ·
    refine R_lo (nx := 7) rfl rfl rfl rfl ?_
    refine R_op (nx := 8) (st' := [(1, (mm_w64 (-x)))]) rfl rfl rfl ?_
    refine R_op (nx := 11) (pc' := 12) rfl rfl rfl ?_
    refine R_ret rfl (fun _ _ => rfl) rfl rfl ?_
    first | exact ⟨by unfold sz; rw [if_pos (by omega)], rfl⟩ | exact ⟨by unfold sz; rw [if_neg (by omega)], rfl⟩

set_option maxRecDepth 20000 in
set_option maxHeartbeats 4000000 in
theorem c_M_takesTable (S : mm_S) (c : Int) (hc : 0 ≤ c ∧ c < 5) (K : CX) (h : MR S c K) (hR : Rg K) (d w l : Int) (hw : w ≤ 1) (hd : 0 ≤ d ∧ d ≤ 10) : Cl 88 [(2, 71), (0, c), (0, d), (0, w), (0, l)] S (fun v S' => v = none ∧ (0 ≤ S' 71 17 ∧ S' 71 17 ≤ 12 ∧ S' 71 17 ≤ Xn K) ∧ (0 ≤ S' 71 18 ∧ S' 71 18 ≤ 12) ∧ RG S' (S' 71 17) (S' 71 18) ∧ (∀ b, b ≠ 71 → b ≠ 83 → S' b = S b) ∧ (∀ k, ¬ (17 ≤ k ∧ k ≤ 19) → S' 71 k = S 71 k)) := by
  refine ⟨Nat.le_of_ble_eq_true rfl, ?_⟩
  show Rn k_M_takesTable 0 [(2, 71), (0, c), (0, d), (0, w), (0, l), (9, 0), (9, 0), (9, 0)] [] S _
  have hnr := h.1.nr
  have hn := h.n
  refine R_lo (nx := 1) rfl rfl rfl rfl ?_
  refine R_op (nx := 2) rfl rfl rfl ?_
  refine R_put (nx := 5) (kk := 17) rfl rfl rfl rfl rfl ?_
  refine R_lo (nx := 6) rfl rfl rfl rfl ?_
  refine R_lo (nx := 7) rfl rfl rfl rfl ?_
  refine R_lo (nx := 8) rfl rfl rfl rfl ?_
  refine R_lo (nx := 9) rfl rfl rfl rfl ?_
  refine R_op (nx := 10) rfl rfl rfl ?_
  refine R_isub (nx := 11) (z := (d - 1)) rfl rfl rfl ⟨by omega, by omega⟩ ?_
  refine R_lo (nx := 12) rfl rfl rfl rfl ?_
  refine R_lo (nx := 14) rfl rfl rfl rfl ?_
  refine R_call1 (nx := 17) (as := [(2, 71), (0, c), (0, (d - 1)), (0, w), (0, l)]) (rest := [(2, 71)]) rfl rfl (fun _ _ => rfl) rfl rfl rfl rfl rfl rfl rfl rfl (Cl.mono (c_M_cellsAt (mm_up S 71 17 0) c (by omega) K (show MR (mm_up S 71 17 0) c K by first | assumption | exact MR.up (by assumption) (by omega) | exact MR.up (MR.up (by assumption) (by omega)) (by omega) | exact MR.up (MR.up (MR.up (by assumption) (by omega)) (by omega)) (by omega)) (d - 1) w l (by omega)) ?_)
  rintro _ _ ⟨rfl, rfl⟩
  refine ⟨_, rfl, ?_⟩
  refine R_put (nx := 20) (kk := 18) rfl rfl rfl rfl rfl ?_
  refine R_op (nx := 21) rfl rfl rfl ?_
  refine R_lo (nx := 23) (ls' := [(2, 71), (0, c), (0, d), (0, w), (0, l), (0, 0), (9, 0), (9, 0)]) rfl rfl rfl rfl ?_
  have L23 : ∀ (f23 : Nat) (S1 : mm_S) (i : Int), (Xn K - i).toNat < f23 → (0 ≤ i ∧ i ≤ Xn K) → (0 ≤ S1 71 17 ∧ S1 71 17 ≤ i) → (S1 71 18 = (cat K (d - 1) w l (Xn K))) → (RG S1 (S1 71 17) (cat K (d - 1) w l (Xn K))) → (∀ b, b ≠ 71 → b ≠ 83 → S1 b = S b) → (∀ k, ¬ (17 ≤ k ∧ k ≤ 19) → S1 71 k = S 71 k) → Rn k_M_takesTable 23 [(2, 71), (0, c), (0, d), (0, w), (0, l), (0, i), (9, 0), (9, 0)] [] S1 (fun v S' => v = none ∧ (0 ≤ S' 71 17 ∧ S' 71 17 ≤ 12 ∧ S' 71 17 ≤ Xn K) ∧ (0 ≤ S' 71 18 ∧ S' 71 18 ≤ 12) ∧ RG S' (S' 71 17) (S' 71 18) ∧ (∀ b, b ≠ 71 → b ≠ 83 → S' b = S b) ∧ (∀ k, ¬ (17 ≤ k ∧ k ≤ 19) → S' 71 k = S 71 k)) := by
    intro f23
    induction f23 with
    | zero => intro S1 i hm23; exact absurd hm23 (Nat.not_lt_zero _)
    | succ f23 ih23 =>
      intro S1 i hm23 hi h17 h18 hG hF h71
      have m1 : MR S1 c K := h.fr fun e p q => hF e (by omega) (by omega)
      have n1 := m1.n
      refine R_lo (nx := 25) rfl rfl rfl rfl ?_
      refine R_lo (nx := 26) rfl rfl rfl rfl ?_
      refine R_get (nx := 29) (w := (2, 72)) rfl rfl rfl rfl ?_
      refine R_lo (nx := 30) rfl rfl rfl rfl ?_
      refine R_iald (nx := 31) rfl rfl (mm_el_ok 1 5 (by decide) rfl (by decide) (by omega) (by omega)) ?_
      rw [n1]
      refine R_icmp (nx := 34) (tg := 131) rfl rfl rfl (mm_cnd_ge _ _) (fun c31 => ?_) (fun c31 => ?_)
      ·
        refine R_ret rfl (fun _ _ => rfl) rfl rfl ?_
        have cb := cat_b K (d - 1) w l hnr.1
        exact ⟨rfl, by omega, by omega, fun a b a0 a1 b0 b1 => hG a b a0 a1 b0 (by rw [← h18]; exact b1), hF, h71⟩
      ·
        refine R_lo (nx := 35) rfl rfl rfl rfl ?_
        refine R_lo (nx := 36) rfl rfl rfl rfl ?_
        refine R_lo (nx := 38) rfl rfl rfl rfl ?_
        refine R_lo (nx := 39) rfl rfl rfl rfl ?_
        refine R_lo (nx := 40) rfl rfl rfl rfl ?_
        refine R_lo (nx := 42) rfl rfl rfl rfl ?_
        refine R_call1 (nx := 45) (as := [(2, 71), (0, c), (0, i), (0, d), (0, w), (0, l)]) (rest := []) rfl rfl (fun _ _ => rfl) rfl rfl rfl rfl rfl rfl rfl rfl (Cl.mono (c_M_isAt S1 c (by omega) K (show MR S1 c K by first | assumption | exact MR.up (by assumption) (by omega) | exact MR.up (MR.up (by assumption) (by omega)) (by omega) | exact MR.up (MR.up (MR.up (by assumption) (by omega)) (by omega)) (by omega)) i d w l (by omega) (by omega)) ?_)
        rintro _ _ (⟨rfl, b42, rfl⟩ | ⟨rfl, b42, rfl⟩)
        ·
          refine ⟨_, rfl, ?_⟩
          refine R_ifF (nx := 48) rfl rfl rfl ?_
          refine R_op (nx := 49) rfl rfl rfl ?_
          refine R_lo (nx := 51) (ls' := [(2, 71), (0, c), (0, d), (0, w), (0, l), (0, i), (0, 0), (9, 0)]) rfl rfl rfl rfl ?_
          refine R_op (nx := 52) rfl rfl rfl ?_
          refine R_lo (nx := 54) (ls' := [(2, 71), (0, c), (0, d), (0, w), (0, l), (0, i), (0, 0), (0, 0)]) rfl rfl rfl rfl ?_
          have L54 : ∀ (f54 : Nat) (S2 : mm_S) (q : Int) (j : Int), (Xn K - j).toNat < f54 → (0 ≤ j ∧ j ≤ Xn K) → (0 ≤ q ∧ q ≤ j) → (S2 71 17 = S1 71 17) → (S2 71 18 = S1 71 18) → (RG S2 (S1 71 17) (cat K (d - 1) w l (Xn K))) → (q = cat K (d - 1) w l j) → (∀ b, 0 ≤ b → b < q → mm_r64 (S2 83 (12 * (S1 71 17) + b))) → (∀ b, b ≠ 71 → b ≠ 83 → S2 b = S b) → (∀ k, ¬ (17 ≤ k ∧ k ≤ 19) → S2 71 k = S 71 k) → Rn k_M_takesTable 54 [(2, 71), (0, c), (0, d), (0, w), (0, l), (0, i), (0, q), (0, j)] [] S2 (fun v S' => v = none ∧ (0 ≤ S' 71 17 ∧ S' 71 17 ≤ 12 ∧ S' 71 17 ≤ Xn K) ∧ (0 ≤ S' 71 18 ∧ S' 71 18 ≤ 12) ∧ RG S' (S' 71 17) (S' 71 18) ∧ (∀ b, b ≠ 71 → b ≠ 83 → S' b = S b) ∧ (∀ k, ¬ (17 ≤ k ∧ k ≤ 19) → S' 71 k = S 71 k)) := by
            intro f54
            induction f54 with
            | zero => intro S2 q j hm54; exact absurd hm54 (Nat.not_lt_zero _)
            | succ f54 ih54 =>
              intro S2 q j hm54 hj hq g17 g18 gG gq gN gF g71
              have m2 : MR S2 c K := h.fr fun e p q => gF e (by omega) (by omega)
              have n2 := m2.n
              refine R_lo (nx := 56) rfl rfl rfl rfl ?_
              refine R_lo (nx := 57) rfl rfl rfl rfl ?_
              refine R_get (nx := 60) (w := (2, 72)) rfl rfl rfl rfl ?_
              refine R_lo (nx := 61) rfl rfl rfl rfl ?_
              refine R_iald (nx := 62) rfl rfl (mm_el_ok 1 5 (by decide) rfl (by decide) (by omega) (by omega)) ?_
              rw [n2]
              refine R_icmp (nx := 65) (tg := 115) rfl rfl rfl (mm_cnd_ge _ _) (fun c62 => ?_) (fun c62 => ?_)
              ·
                refine R_lo (nx := 116) rfl rfl rfl rfl ?_
                refine R_op (nx := 117) rfl rfl rfl ?_
                refine R_get (nx := 120) (w := (0, (S2 71 17))) rfl rfl rfl rfl ?_
                rw [g17]
                refine R_op (nx := 121) rfl rfl rfl ?_
                refine R_iadd (nx := 122) (z := ((S1 71 17) + 1)) rfl rfl rfl ⟨by omega, by omega⟩ ?_
                refine R_put (nx := 125) (kk := 17) rfl rfl rfl rfl rfl ?_
                refine R_iinc (nx := 128) (z := (i + 1)) (ls' := [(2, 71), (0, c), (0, d), (0, w), (0, l), (0, (i + 1)), (0, q), (0, j)]) rfl rfl rfl rfl ⟨by omega, by omega⟩ rfl ?_
                refine R_op (nx := 131) (pc' := 23) rfl rfl rfl ?_
                refine Rn.weak (ls' := [(2, 71), (0, c), (0, d), (0, w), (0, l), (0, (i + 1)), (9, 0), (9, 0)]) ⟨Or.inl rfl, ⟨Or.inl rfl, ⟨Or.inl rfl, ⟨Or.inl rfl, ⟨Or.inl rfl, ⟨Or.inl rfl, ⟨Or.inr rfl, ⟨Or.inr rfl, trivial⟩⟩⟩⟩⟩⟩⟩⟩ ?_
                refine ih23 ((mm_up S2 71 17 ((S1 71 17) + 1))) ((i + 1)) ?_ ?_ ?_ ?_ ?_ ?_ ?_
                · omega
                · omega
                · first | omega | (rw [mm_ua]; omega)
                · first | exact h18 | (rw [mm_uk (by decide), g18]; exact h18)
                · first | exact hG | (rw [mm_ua]; intro a b a0 a1 b0 b1; rw [mm_unq (by decide)]; by_cases e : a = S1 71 17; rw [e]; exact gN b b0 (by rw [gq, show j = Xn K by omega]; exact b1); exact gG a b a0 (by omega) b0 b1)
                · first | exact hF | (intro b b1 b2; rw [mm_unq b1]; exact gF b b1 b2)
                · first | exact h71 | (intro k k1; rw [mm_uk (by omega)]; exact g71 k k1)
              ·
                refine R_lo (nx := 66) rfl rfl rfl rfl ?_
                refine R_lo (nx := 67) rfl rfl rfl rfl ?_
                refine R_lo (nx := 69) rfl rfl rfl rfl ?_
                refine R_lo (nx := 70) rfl rfl rfl rfl ?_
                refine R_op (nx := 71) rfl rfl rfl ?_
                refine R_isub (nx := 72) (z := (d - 1)) rfl rfl rfl ⟨by omega, by omega⟩ ?_
                refine R_lo (nx := 73) rfl rfl rfl rfl ?_
                refine R_lo (nx := 75) rfl rfl rfl rfl ?_
                refine R_call1 (nx := 78) (as := [(2, 71), (0, c), (0, j), (0, (d - 1)), (0, w), (0, l)]) (rest := []) rfl rfl (fun _ _ => rfl) rfl rfl rfl rfl rfl rfl rfl rfl (Cl.mono (c_M_isAt S2 c (by omega) K (show MR S2 c K by first | assumption | exact MR.up (by assumption) (by omega) | exact MR.up (MR.up (by assumption) (by omega)) (by omega) | exact MR.up (MR.up (MR.up (by assumption) (by omega)) (by omega)) (by omega)) j (d - 1) w l (by omega) (by omega)) ?_)
                rintro _ _ (⟨rfl, b75, rfl⟩ | ⟨rfl, b75, rfl⟩)
                ·
                  refine ⟨_, rfl, ?_⟩
                  refine R_ifF (nx := 81) rfl rfl rfl ?_
                  refine R_lo (nx := 82) rfl rfl rfl rfl ?_
                  refine R_get (nx := 85) (w := (2, 83)) rfl rfl rfl rfl ?_
                  refine R_op (nx := 87) rfl rfl rfl ?_
                  refine R_lo (nx := 88) rfl rfl rfl rfl ?_
                  refine R_get (nx := 91) (w := (0, (S2 71 17))) rfl rfl rfl rfl ?_
                  rw [g17]
                  refine R_imul (nx := 92) (z := (12 * (S1 71 17))) rfl rfl rfl ⟨by omega, by omega⟩ ?_
                  refine R_lo (nx := 94) rfl rfl rfl rfl ?_
                  refine R_iadd (nx := 95) (z := ((12 * (S1 71 17)) + q)) rfl rfl rfl ⟨by omega, by omega⟩ ?_
                  refine R_lo (nx := 96) rfl rfl rfl rfl ?_
                  refine R_lo (nx := 97) rfl rfl rfl rfl ?_
                  refine R_lo (nx := 99) rfl rfl rfl rfl ?_
                  refine R_lo (nx := 101) rfl rfl rfl rfl ?_
                  refine R_call1 (nx := 104) (as := [(2, 71), (0, c), (0, i), (0, j)]) (rest := [(0, ((12 * (S1 71 17)) + q)), (2, 83)]) rfl rfl (fun _ _ => rfl) rfl rfl rfl rfl rfl rfl rfl rfl (Cl.mono (c_M_edge S2 c (by omega) K (show MRr S2 c K by first | assumption | exact MR.r (by assumption) | exact MRr.up (by assumption) (by omega) | exact MRr.up (MR.r (by assumption)) (by omega) | exact MRr.up (MRr.up (MR.r (by assumption)) (by omega)) (by omega)) i j (by omega) (by omega)) ?_)
                  rintro _ _ ⟨rfl, rfl⟩
                  refine ⟨_, rfl, ?_⟩
                  have er : mm_r64 (Xe K i j) := by have := hR.e i j; exact ⟨by omega, by omega⟩
                  refine R_op (nx := 105) (st' := [(1, (Xe K i j)), (0, ((12 * (S1 71 17)) + q)), (2, 83)]) rfl rfl rfl ?_
                  refine R_last (nx := 106) rfl rfl (mm_el_ok 2 144 (by decide) rfl (by decide) (by omega) (by omega)) ?_
                  refine R_iinc (nx := 109) (z := (q + 1)) (ls' := [(2, 71), (0, c), (0, d), (0, w), (0, l), (0, i), (0, (q + 1)), (0, j)]) rfl rfl rfl rfl ⟨by omega, by omega⟩ rfl ?_
                  refine R_iinc (nx := 112) (z := (j + 1)) (ls' := [(2, 71), (0, c), (0, d), (0, w), (0, l), (0, i), (0, (q + 1)), (0, (j + 1))]) rfl rfl rfl rfl ⟨by omega, by omega⟩ rfl ?_
                  refine R_op (nx := 115) (pc' := 54) rfl rfl rfl ?_
                  refine Rn.weak (ls' := [(2, 71), (0, c), (0, d), (0, w), (0, l), (0, i), (0, (q + 1)), (0, (j + 1))]) ⟨Or.inl rfl, ⟨Or.inl rfl, ⟨Or.inl rfl, ⟨Or.inl rfl, ⟨Or.inl rfl, ⟨Or.inl rfl, ⟨Or.inl rfl, ⟨Or.inl rfl, trivial⟩⟩⟩⟩⟩⟩⟩⟩ ?_
                  refine ih54 ((mm_up S2 83 ((12 * (S1 71 17)) + q) (Xe K i j))) ((q + 1)) ((j + 1)) ?_ ?_ ?_ ?_ ?_ ?_ ?_ ?_ ?_ ?_
                  · omega
                  · omega
                  · omega
                  · first | exact g17 | (rw [mm_unq (by decide)]; exact g17)
                  · first | exact g18 | (rw [mm_unq (by decide)]; exact g18)
                  · first | exact gG | exact gG.up er
                  · rw [cat_s _ _ _ _ hj.1, ← gq]
                    first | rw [if_pos b75] | rw [if_neg b75, Int.add_zero]
                  · first | exact gN | (intro b b0 b1; by_cases e : b = q; rw [e, mm_ua]; exact er; rw [mm_uk (by omega)]; exact gN b b0 (by omega))
                  · first | exact gF | (intro b b1 b2; rw [mm_unq b2]; exact gF b b1 b2)
                  · first | exact g71 | (intro k k1; rw [mm_unq (by decide)]; exact g71 k k1)
                ·
                  refine ⟨_, rfl, ?_⟩
                  refine R_ifT (tg := 109) rfl rfl rfl ?_
                  refine R_iinc (nx := 112) (z := (j + 1)) (ls' := [(2, 71), (0, c), (0, d), (0, w), (0, l), (0, i), (0, q), (0, (j + 1))]) rfl rfl rfl rfl ⟨by omega, by omega⟩ rfl ?_
                  refine R_op (nx := 115) (pc' := 54) rfl rfl rfl ?_
                  refine Rn.weak (ls' := [(2, 71), (0, c), (0, d), (0, w), (0, l), (0, i), (0, q), (0, (j + 1))]) ⟨Or.inl rfl, ⟨Or.inl rfl, ⟨Or.inl rfl, ⟨Or.inl rfl, ⟨Or.inl rfl, ⟨Or.inl rfl, ⟨Or.inl rfl, ⟨Or.inl rfl, trivial⟩⟩⟩⟩⟩⟩⟩⟩ ?_
                  refine ih54 (S2) (q) ((j + 1)) ?_ ?_ ?_ ?_ ?_ ?_ ?_ ?_ ?_ ?_
                  · omega
                  · omega
                  · omega
                  · first | exact g17 | (rw [mm_unq (by decide)]; exact g17)
                  · first | exact g18 | (rw [mm_unq (by decide)]; exact g18)
                  · first | exact gG | exact gG.up er
                  · rw [cat_s _ _ _ _ hj.1, ← gq]
                    first | rw [if_pos b75] | rw [if_neg b75, Int.add_zero]
                  · first | exact gN | (intro b b0 b1; by_cases e : b = q; rw [e, mm_ua]; exact er; rw [mm_uk (by omega)]; exact gN b b0 (by omega))
                  · first | exact gF | (intro b b1 b2; rw [mm_unq b2]; exact gF b b1 b2)
                  · first | exact g71 | (intro k k1; rw [mm_unq (by decide)]; exact g71 k k1)
          refine Rn.weak (ls' := [(2, 71), (0, c), (0, d), (0, w), (0, l), (0, i), (0, 0), (0, 0)]) ⟨Or.inl rfl, ⟨Or.inl rfl, ⟨Or.inl rfl, ⟨Or.inl rfl, ⟨Or.inl rfl, ⟨Or.inl rfl, ⟨Or.inl rfl, ⟨Or.inl rfl, trivial⟩⟩⟩⟩⟩⟩⟩⟩ ?_
          refine L54 ((Xn K - (0)).toNat + 1) (S1) (0) (0) (Nat.lt_succ_self _) ?_ ?_ ?_ ?_ ?_ ?_ ?_ ?_ ?_
          · omega
          · omega
          · rfl
          · rfl
          · exact hG
          · rfl
          · intro b b0 b1; omega
          · exact hF
          · exact h71
        ·
          refine ⟨_, rfl, ?_⟩
          refine R_ifT (tg := 125) rfl rfl rfl ?_
          refine R_iinc (nx := 128) (z := (i + 1)) (ls' := [(2, 71), (0, c), (0, d), (0, w), (0, l), (0, (i + 1)), (9, 0), (9, 0)]) rfl rfl rfl rfl ⟨by omega, by omega⟩ rfl ?_
          refine R_op (nx := 131) (pc' := 23) rfl rfl rfl ?_
          refine Rn.weak (ls' := [(2, 71), (0, c), (0, d), (0, w), (0, l), (0, (i + 1)), (9, 0), (9, 0)]) ⟨Or.inl rfl, ⟨Or.inl rfl, ⟨Or.inl rfl, ⟨Or.inl rfl, ⟨Or.inl rfl, ⟨Or.inl rfl, ⟨Or.inl rfl, ⟨Or.inl rfl, trivial⟩⟩⟩⟩⟩⟩⟩⟩ ?_
          refine ih23 (S1) ((i + 1)) ?_ ?_ ?_ ?_ ?_ ?_ ?_
          · omega
          · omega
          · first | omega | (rw [mm_ua]; omega)
          · first | exact h18 | (rw [mm_uk (by decide), g18]; exact h18)
          · first | exact hG | (rw [mm_ua]; intro a b a0 a1 b0 b1; rw [mm_unq (by decide)]; by_cases e : a = S1 71 17; rw [e]; exact gN b b0 (by rw [gq, show j = Xn K by omega]; exact b1); exact gG a b a0 (by omega) b0 b1)
          · first | exact hF | (intro b b1 b2; rw [mm_unq b1]; exact gF b b1 b2)
          · first | exact h71 | (intro k k1; rw [mm_uk (by omega)]; exact g71 k k1)
  refine Rn.weak (ls' := [(2, 71), (0, c), (0, d), (0, w), (0, l), (0, 0), (9, 0), (9, 0)]) ⟨Or.inl rfl, ⟨Or.inl rfl, ⟨Or.inl rfl, ⟨Or.inl rfl, ⟨Or.inl rfl, ⟨Or.inl rfl, ⟨Or.inl rfl, ⟨Or.inl rfl, trivial⟩⟩⟩⟩⟩⟩⟩⟩ ?_
  refine L23 ((Xn K - (0)).toNat + 1) ((mm_up (mm_up S 71 17 0) 71 18 (cat K (d - 1) w l (Xn K)))) (0) (Nat.lt_succ_self _) ?_ ?_ ?_ ?_ ?_ ?_
  · omega
  · rw [mm_uk (by decide), mm_ua]; omega
  · rw [mm_ua]
  · intro a b a0 a1; rw [mm_uk (by decide), mm_ua] at a1; omega
  · intro b b1 b2; rw [mm_unq b1, mm_unq b1]
  · intro k k1; rw [mm_uk (by omega), mm_uk (by omega)]

set_option maxRecDepth 20000 in
set_option maxHeartbeats 4000000 in
theorem c_M_leastTo (S : mm_S) (m n t : Int) (h17 : S 71 17 = m) (h18 : S 71 18 = n) (ht : (0 ≤ t ∧ t < m ∧ m ≤ 12) ∧ (t < n ∧ n ≤ 12)) (hG : RG S m n) : Cl 90 [(2, 71), (0, t)] S (fun v S' => (∀ b, b ≠ 83 → S' b = S b) ∧ RG S' m n ∧ (v = some (0, 0) ∨ (v = some (0, 1) ∧ 0 < sz (Tt S' t t) ∧ (∀ x y, t ≤ x → x < m → t ≤ y → y < n → 0 < sz (Tt S x y) → sz (Tt S' t t) ≤ sz (Tt S x y)) ∧ ((0 < sz (Tt S t t) ∧ ∀ x y, t ≤ x → x < m → t ≤ y → y < n → 0 < sz (Tt S x y) → sz (Tt S t t) ≤ sz (Tt S x y)) → ∀ x y, 0 ≤ x → x < m → 0 ≤ y → y < n → Tt S' x y = Tt S x y) ∧ ∃ x y, ((t ≤ x ∧ x < m) ∧ (t ≤ y ∧ y < n)) ∧ Tt S' t t = Tt S x y))) := by
  refine ⟨Nat.le_of_ble_eq_true rfl, ?_⟩
  show Rn k_M_leastTo 0 [(2, 71), (0, t), (9, 0), (9, 0), (9, 0), (9, 0), (9, 0), (9, 0)] [] S _
  refine R_op (nx := 1) rfl rfl rfl ?_
  refine R_lo (nx := 2) (ls' := [(2, 71), (0, t), (0, (-1)), (9, 0), (9, 0), (9, 0), (9, 0), (9, 0)]) rfl rfl rfl rfl ?_
  refine R_op (nx := 3) rfl rfl rfl ?_
  refine R_lo (nx := 4) (ls' := [(2, 71), (0, t), (0, (-1)), (0, (-1)), (9, 0), (9, 0), (9, 0), (9, 0)]) rfl rfl rfl rfl ?_
  refine R_lo (nx := 5) rfl rfl rfl rfl ?_
  refine R_lo (nx := 7) (ls' := [(2, 71), (0, t), (0, (-1)), (0, (-1)), (0, t), (9, 0), (9, 0), (9, 0)]) rfl rfl rfl rfl ?_
  have L7 : ∀ (f7 : Nat) (a : Int) (b : Int) (i : Int), (m - i).toNat < f7 → (t ≤ i ∧ i ≤ m) → (FND S t n a b i t) → Rn k_M_leastTo 7 [(2, 71), (0, t), (0, a), (0, b), (0, i), (9, 0), (9, 0), (9, 0)] [] S (fun v S' => (∀ b, b ≠ 83 → S' b = S b) ∧ RG S' m n ∧ (v = some (0, 0) ∨ (v = some (0, 1) ∧ 0 < sz (Tt S' t t) ∧ (∀ x y, t ≤ x → x < m → t ≤ y → y < n → 0 < sz (Tt S x y) → sz (Tt S' t t) ≤ sz (Tt S x y)) ∧ ((0 < sz (Tt S t t) ∧ ∀ x y, t ≤ x → x < m → t ≤ y → y < n → 0 < sz (Tt S x y) → sz (Tt S t t) ≤ sz (Tt S x y)) → ∀ x y, 0 ≤ x → x < m → 0 ≤ y → y < n → Tt S' x y = Tt S x y) ∧ ∃ x y, ((t ≤ x ∧ x < m) ∧ (t ≤ y ∧ y < n)) ∧ Tt S' t t = Tt S x y))) := by
    intro f7
    induction f7 with
    | zero => intro a b i hm7; exact absurd hm7 (Nat.not_lt_zero _)
    | succ f7 ih7 =>
      intro a b i hm7 hi hf
      refine R_lo (nx := 9) rfl rfl rfl rfl ?_
      refine R_lo (nx := 10) rfl rfl rfl rfl ?_
      refine R_get (nx := 13) (w := (0, (S 71 17))) rfl rfl rfl rfl ?_
      rw [show (S 71 17) = m from by assumption]
      refine R_icmp (nx := 16) (tg := 95) rfl rfl rfl (mm_cnd_ge _ _) (fun c13 => ?_) (fun c13 => ?_)
      ·
        have hab2 := FND_b hf
        have hie : i = m := by omega
        refine R_op (nx := 96) rfl rfl rfl ?_
        refine R_lo (nx := 98) (ls' := [(2, 71), (0, t), (0, a), (0, b), (0, 0), (9, 0), (9, 0), (9, 0)]) rfl rfl rfl rfl ?_
        have L98 : ∀ (f98 : Nat) (S1 : mm_S) (k : Int), (n - k).toNat < f98 → (0 ≤ k ∧ k ≤ n) → (a = -1 → k = 0) → (∀ x y, 0 ≤ x → x < m → 0 ≤ y → y < n → Tt S1 x y = if y < k then Tt S (swp t a x) y else Tt S x y) → (∀ b, b ≠ 83 → S1 b = S b) → Rn k_M_leastTo 98 [(2, 71), (0, t), (0, a), (0, b), (0, k), (9, 0), (9, 0), (9, 0)] [] S1 (fun v S' => (∀ b, b ≠ 83 → S' b = S b) ∧ RG S' m n ∧ (v = some (0, 0) ∨ (v = some (0, 1) ∧ 0 < sz (Tt S' t t) ∧ (∀ x y, t ≤ x → x < m → t ≤ y → y < n → 0 < sz (Tt S x y) → sz (Tt S' t t) ≤ sz (Tt S x y)) ∧ ((0 < sz (Tt S t t) ∧ ∀ x y, t ≤ x → x < m → t ≤ y → y < n → 0 < sz (Tt S x y) → sz (Tt S t t) ≤ sz (Tt S x y)) → ∀ x y, 0 ≤ x → x < m → 0 ≤ y → y < n → Tt S' x y = Tt S x y) ∧ ∃ x y, ((t ≤ x ∧ x < m) ∧ (t ≤ y ∧ y < n)) ∧ Tt S' t t = Tt S x y))) := by
          intro f98
          induction f98 with
          | zero => intro S1 k hm98; exact absurd hm98 (Nat.not_lt_zero _)
          | succ f98 ih98 =>
            intro S1 k hm98 hk hka h1 hF
            have k17 : S1 71 17 = m := by rw [hF 71 (by decide)]; exact h17
            have k18 : S1 71 18 = n := by rw [hF 71 (by decide)]; exact h18
            refine R_lo (nx := 100) rfl rfl rfl rfl ?_
            refine R_lo (nx := 101) rfl rfl rfl rfl ?_
            refine R_get (nx := 104) (w := (0, (S1 71 18))) rfl rfl rfl rfl ?_
            rw [show (S1 71 18) = n from by assumption]
            refine R_icmp (nx := 107) (tg := 169) rfl rfl rfl (mm_cnd_ge _ _) (fun c104 => ?_) (fun c104 => ?_)
            ·
              refine R_op (nx := 170) rfl rfl rfl ?_
              refine R_lo (nx := 172) (ls' := [(2, 71), (0, t), (0, a), (0, b), (0, 0), (9, 0), (9, 0), (9, 0)]) rfl rfl rfl rfl ?_
              have L172 : ∀ (f172 : Nat) (S2 : mm_S) (k : Int), (m - k).toNat < f172 → (0 ≤ k ∧ k ≤ m) → (a = -1 → k = 0) → (∀ x y, 0 ≤ x → x < m → 0 ≤ y → y < n → Tt S2 x y = if x < k then Tt S1 x (swp t b y) else Tt S1 x y) → (∀ b, b ≠ 83 → S2 b = S b) → Rn k_M_leastTo 172 [(2, 71), (0, t), (0, a), (0, b), (0, k), (9, 0), (9, 0), (9, 0)] [] S2 (fun v S' => (∀ b, b ≠ 83 → S' b = S b) ∧ RG S' m n ∧ (v = some (0, 0) ∨ (v = some (0, 1) ∧ 0 < sz (Tt S' t t) ∧ (∀ x y, t ≤ x → x < m → t ≤ y → y < n → 0 < sz (Tt S x y) → sz (Tt S' t t) ≤ sz (Tt S x y)) ∧ ((0 < sz (Tt S t t) ∧ ∀ x y, t ≤ x → x < m → t ≤ y → y < n → 0 < sz (Tt S x y) → sz (Tt S t t) ≤ sz (Tt S x y)) → ∀ x y, 0 ≤ x → x < m → 0 ≤ y → y < n → Tt S' x y = Tt S x y) ∧ ∃ x y, ((t ≤ x ∧ x < m) ∧ (t ≤ y ∧ y < n)) ∧ Tt S' t t = Tt S x y))) := by
                intro f172
                induction f172 with
                | zero => intro S2 k hm172; exact absurd hm172 (Nat.not_lt_zero _)
                | succ f172 ih172 =>
                  intro S2 k hm172 hk2 hkb h2 hF2
                  have k17 : S2 71 17 = m := by rw [hF2 71 (by decide)]; exact h17
                  have k18 : S2 71 18 = n := by rw [hF2 71 (by decide)]; exact h18
                  refine R_lo (nx := 174) rfl rfl rfl rfl ?_
                  refine R_lo (nx := 175) rfl rfl rfl rfl ?_
                  refine R_get (nx := 178) (w := (0, (S2 71 17))) rfl rfl rfl rfl ?_
                  rw [show (S2 71 17) = m from by assumption]
                  refine R_icmp (nx := 181) (tg := 243) rfl rfl rfl (mm_cnd_ge _ _) (fun c178 => ?_) (fun c178 => ?_)
                  ·
                    refine R_lo (nx := 244) rfl rfl rfl rfl ?_
                    refine R_if (nx := 247) (tg := 251) rfl rfl rfl (mm_cnd_lt _ _) (fun c244 => ?_) (fun c244 => ?_)
                    ·
                      refine R_op (nx := 252) rfl rfl rfl ?_
                      refine R_ret rfl (fun _ _ => rfl) rfl rfl ?_
                      have hfr := hF2
                      by_cases ea : a = -1
                      · first | (exfalso; omega) | exact ⟨hF2, fun x y x0 x1 y0 y1 => by
                          have e1 := h2 x y x0 x1 y0 y1
                          rw [if_neg (by omega)] at e1
                          have e2 := h1 x y x0 x1 y0 y1
                          rw [if_neg (by omega)] at e2
                          have e3 := hG x y x0 x1 y0 y1
                          unfold Tt at e1 e2
                          rw [e1, e2]; exact e3, Or.inl rfl⟩
                      · have hT : ∀ x y, 0 ≤ x → x < m → 0 ≤ y → y < n → Tt S2 x y = Tt S (swp t a x) (swp t b y) := fun x y x0 x1 y0 y1 => by
                          have rb := swp_r (t := t) (a := b) (x := y) (m := n) ⟨ht.1.1, ht.2.1⟩ (by omega) ⟨y0, y1⟩
                          rw [h2 x y x0 x1 y0 y1, if_pos (by omega), h1 x _ x0 x1 rb.1 rb.2, if_pos (by omega)]
                        have hTt : Tt S2 t t = Tt S a b := by
                          rw [hT t t (by omega) (by omega) (by omega) (by omega)]
                          unfold swp
                          rw [if_pos rfl, if_pos rfl]
                        rcases hf with hf | ⟨⟨f1, f2⟩, f3, f4⟩
                        · exact absurd hf.1 ea
                        · first | (exfalso; omega) | exact ⟨hF2, fun x y x0 x1 y0 y1 => by
                            have ra := swp_r (t := t) (a := a) (x := x) (m := m) ⟨ht.1.1, ht.1.2.1⟩ (by omega) ⟨x0, x1⟩
                            have rb := swp_r (t := t) (a := b) (x := y) (m := n) ⟨ht.1.1, ht.2.1⟩ (by omega) ⟨y0, y1⟩
                            have e1 := hT x y x0 x1 y0 y1
                            unfold Tt at e1
                            rw [e1]; exact hG _ _ ra.1 ra.2 rb.1 rb.2, Or.inr ⟨rfl, by rw [hTt]; exact f2, fun x y x0 x1 y0 y1 q => by rw [hTt]; exact f3 x y (by unfold SCN; omega) q, fun q x y x0 x1 y0 y1 => by
                              have e4 := f4 ⟨q.1, q.2 a b (by omega) (by omega) (by omega) (by omega) f2⟩
                              rw [hT x y x0 x1 y0 y1, e4.1, e4.2, swp_i, swp_i], a, b, by omega, hTt⟩⟩
                    ·
                      refine R_op (nx := 248) rfl rfl rfl ?_
                      refine R_op (nx := 251) (pc' := 252) rfl rfl rfl ?_
                      refine R_ret rfl (fun _ _ => rfl) rfl rfl ?_
                      have hfr := hF2
                      by_cases ea : a = -1
                      · first | (exfalso; omega) | exact ⟨hF2, fun x y x0 x1 y0 y1 => by
                          have e1 := h2 x y x0 x1 y0 y1
                          rw [if_neg (by omega)] at e1
                          have e2 := h1 x y x0 x1 y0 y1
                          rw [if_neg (by omega)] at e2
                          have e3 := hG x y x0 x1 y0 y1
                          unfold Tt at e1 e2
                          rw [e1, e2]; exact e3, Or.inl rfl⟩
                      · have hT : ∀ x y, 0 ≤ x → x < m → 0 ≤ y → y < n → Tt S2 x y = Tt S (swp t a x) (swp t b y) := fun x y x0 x1 y0 y1 => by
                          have rb := swp_r (t := t) (a := b) (x := y) (m := n) ⟨ht.1.1, ht.2.1⟩ (by omega) ⟨y0, y1⟩
                          rw [h2 x y x0 x1 y0 y1, if_pos (by omega), h1 x _ x0 x1 rb.1 rb.2, if_pos (by omega)]
                        have hTt : Tt S2 t t = Tt S a b := by
                          rw [hT t t (by omega) (by omega) (by omega) (by omega)]
                          unfold swp
                          rw [if_pos rfl, if_pos rfl]
                        rcases hf with hf | ⟨⟨f1, f2⟩, f3, f4⟩
                        · exact absurd hf.1 ea
                        · first | (exfalso; omega) | exact ⟨hF2, fun x y x0 x1 y0 y1 => by
                            have ra := swp_r (t := t) (a := a) (x := x) (m := m) ⟨ht.1.1, ht.1.2.1⟩ (by omega) ⟨x0, x1⟩
                            have rb := swp_r (t := t) (a := b) (x := y) (m := n) ⟨ht.1.1, ht.2.1⟩ (by omega) ⟨y0, y1⟩
                            have e1 := hT x y x0 x1 y0 y1
                            unfold Tt at e1
                            rw [e1]; exact hG _ _ ra.1 ra.2 rb.1 rb.2, Or.inr ⟨rfl, by rw [hTt]; exact f2, fun x y x0 x1 y0 y1 q => by rw [hTt]; exact f3 x y (by unfold SCN; omega) q, fun q x y x0 x1 y0 y1 => by
                              have e4 := f4 ⟨q.1, q.2 a b (by omega) (by omega) (by omega) (by omega) f2⟩
                              rw [hT x y x0 x1 y0 y1, e4.1, e4.2, swp_i, swp_i], a, b, by omega, hTt⟩⟩
                  ·
                    refine R_lo (nx := 182) rfl rfl rfl rfl ?_
                    refine R_if (nx := 185) (tg := 243) rfl rfl rfl (mm_cnd_lt _ _) (fun c182 => ?_) (fun c182 => ?_)
                    ·
                      refine R_lo (nx := 244) rfl rfl rfl rfl ?_
                      refine R_if (nx := 247) (tg := 251) rfl rfl rfl (mm_cnd_lt _ _) (fun c244_1 => ?_) (fun c244_1 => ?_)
                      ·
                        refine R_op (nx := 252) rfl rfl rfl ?_
                        refine R_ret rfl (fun _ _ => rfl) rfl rfl ?_
                        have hfr := hF2
                        by_cases ea : a = -1
                        · first | (exfalso; omega) | exact ⟨hF2, fun x y x0 x1 y0 y1 => by
                            have e1 := h2 x y x0 x1 y0 y1
                            rw [if_neg (by omega)] at e1
                            have e2 := h1 x y x0 x1 y0 y1
                            rw [if_neg (by omega)] at e2
                            have e3 := hG x y x0 x1 y0 y1
                            unfold Tt at e1 e2
                            rw [e1, e2]; exact e3, Or.inl rfl⟩
                        · have hT : ∀ x y, 0 ≤ x → x < m → 0 ≤ y → y < n → Tt S2 x y = Tt S (swp t a x) (swp t b y) := fun x y x0 x1 y0 y1 => by
                            have rb := swp_r (t := t) (a := b) (x := y) (m := n) ⟨ht.1.1, ht.2.1⟩ (by omega) ⟨y0, y1⟩
                            rw [h2 x y x0 x1 y0 y1, if_pos (by omega), h1 x _ x0 x1 rb.1 rb.2, if_pos (by omega)]
                          have hTt : Tt S2 t t = Tt S a b := by
                            rw [hT t t (by omega) (by omega) (by omega) (by omega)]
                            unfold swp
                            rw [if_pos rfl, if_pos rfl]
                          rcases hf with hf | ⟨⟨f1, f2⟩, f3, f4⟩
                          · exact absurd hf.1 ea
                          · first | (exfalso; omega) | exact ⟨hF2, fun x y x0 x1 y0 y1 => by
                              have ra := swp_r (t := t) (a := a) (x := x) (m := m) ⟨ht.1.1, ht.1.2.1⟩ (by omega) ⟨x0, x1⟩
                              have rb := swp_r (t := t) (a := b) (x := y) (m := n) ⟨ht.1.1, ht.2.1⟩ (by omega) ⟨y0, y1⟩
                              have e1 := hT x y x0 x1 y0 y1
                              unfold Tt at e1
                              rw [e1]; exact hG _ _ ra.1 ra.2 rb.1 rb.2, Or.inr ⟨rfl, by rw [hTt]; exact f2, fun x y x0 x1 y0 y1 q => by rw [hTt]; exact f3 x y (by unfold SCN; omega) q, fun q x y x0 x1 y0 y1 => by
                                have e4 := f4 ⟨q.1, q.2 a b (by omega) (by omega) (by omega) (by omega) f2⟩
                                rw [hT x y x0 x1 y0 y1, e4.1, e4.2, swp_i, swp_i], a, b, by omega, hTt⟩⟩
                      ·
                        refine R_op (nx := 248) rfl rfl rfl ?_
                        refine R_op (nx := 251) (pc' := 252) rfl rfl rfl ?_
                        refine R_ret rfl (fun _ _ => rfl) rfl rfl ?_
                        have hfr := hF2
                        by_cases ea : a = -1
                        · first | (exfalso; omega) | exact ⟨hF2, fun x y x0 x1 y0 y1 => by
                            have e1 := h2 x y x0 x1 y0 y1
                            rw [if_neg (by omega)] at e1
                            have e2 := h1 x y x0 x1 y0 y1
                            rw [if_neg (by omega)] at e2
                            have e3 := hG x y x0 x1 y0 y1
                            unfold Tt at e1 e2
                            rw [e1, e2]; exact e3, Or.inl rfl⟩
                        · have hT : ∀ x y, 0 ≤ x → x < m → 0 ≤ y → y < n → Tt S2 x y = Tt S (swp t a x) (swp t b y) := fun x y x0 x1 y0 y1 => by
                            have rb := swp_r (t := t) (a := b) (x := y) (m := n) ⟨ht.1.1, ht.2.1⟩ (by omega) ⟨y0, y1⟩
                            rw [h2 x y x0 x1 y0 y1, if_pos (by omega), h1 x _ x0 x1 rb.1 rb.2, if_pos (by omega)]
                          have hTt : Tt S2 t t = Tt S a b := by
                            rw [hT t t (by omega) (by omega) (by omega) (by omega)]
                            unfold swp
                            rw [if_pos rfl, if_pos rfl]
                          rcases hf with hf | ⟨⟨f1, f2⟩, f3, f4⟩
                          · exact absurd hf.1 ea
                          · first | (exfalso; omega) | exact ⟨hF2, fun x y x0 x1 y0 y1 => by
                              have ra := swp_r (t := t) (a := a) (x := x) (m := m) ⟨ht.1.1, ht.1.2.1⟩ (by omega) ⟨x0, x1⟩
                              have rb := swp_r (t := t) (a := b) (x := y) (m := n) ⟨ht.1.1, ht.2.1⟩ (by omega) ⟨y0, y1⟩
                              have e1 := hT x y x0 x1 y0 y1
                              unfold Tt at e1
                              rw [e1]; exact hG _ _ ra.1 ra.2 rb.1 rb.2, Or.inr ⟨rfl, by rw [hTt]; exact f2, fun x y x0 x1 y0 y1 q => by rw [hTt]; exact f3 x y (by unfold SCN; omega) q, fun q x y x0 x1 y0 y1 => by
                                have e4 := f4 ⟨q.1, q.2 a b (by omega) (by omega) (by omega) (by omega) f2⟩
                                rw [hT x y x0 x1 y0 y1, e4.1, e4.2, swp_i, swp_i], a, b, by omega, hTt⟩⟩
                    ·
                      refine R_lo (nx := 186) rfl rfl rfl rfl ?_
                      refine R_get (nx := 189) (w := (2, 83)) rfl rfl rfl rfl ?_
                      refine R_op (nx := 191) rfl rfl rfl ?_
                      refine R_lo (nx := 193) rfl rfl rfl rfl ?_
                      refine R_imul (nx := 194) (z := (12 * k)) rfl rfl rfl ⟨by omega, by omega⟩ ?_
                      refine R_lo (nx := 195) rfl rfl rfl rfl ?_
                      refine R_iadd (nx := 196) (z := ((12 * k) + b)) rfl rfl rfl ⟨by omega, by omega⟩ ?_
                      refine R_lald (nx := 197) rfl rfl (mm_el_ok 2 144 (by decide) rfl (by decide) (by omega) (by omega)) ?_
                      refine R_lo (nx := 199) (ls' := [(2, 71), (0, t), (0, a), (0, b), (0, k), (1, (S2 83 ((12 * k) + b))), (9, 0), (9, 0)]) rfl rfl rfl rfl ?_
                      refine R_lo (nx := 200) rfl rfl rfl rfl ?_
                      refine R_get (nx := 203) (w := (2, 83)) rfl rfl rfl rfl ?_
                      refine R_op (nx := 205) rfl rfl rfl ?_
                      refine R_lo (nx := 207) rfl rfl rfl rfl ?_
                      refine R_imul (nx := 208) (z := (12 * k)) rfl rfl rfl ⟨by omega, by omega⟩ ?_
                      refine R_lo (nx := 209) rfl rfl rfl rfl ?_
                      refine R_iadd (nx := 210) (z := ((12 * k) + b)) rfl rfl rfl ⟨by omega, by omega⟩ ?_
                      refine R_lo (nx := 211) rfl rfl rfl rfl ?_
                      refine R_get (nx := 214) (w := (2, 83)) rfl rfl rfl rfl ?_
                      refine R_op (nx := 216) rfl rfl rfl ?_
                      refine R_lo (nx := 218) rfl rfl rfl rfl ?_
                      refine R_imul (nx := 219) (z := (12 * k)) rfl rfl rfl ⟨by omega, by omega⟩ ?_
                      refine R_lo (nx := 220) rfl rfl rfl rfl ?_
                      refine R_iadd (nx := 221) (z := ((12 * k) + t)) rfl rfl rfl ⟨by omega, by omega⟩ ?_
                      refine R_lald (nx := 222) rfl rfl (mm_el_ok 2 144 (by decide) rfl (by decide) (by omega) (by omega)) ?_
                      refine R_last (nx := 223) rfl rfl (mm_el_ok 2 144 (by decide) rfl (by decide) (by omega) (by omega)) ?_
                      refine R_lo (nx := 224) rfl rfl rfl rfl ?_
                      refine R_get (nx := 227) (w := (2, 83)) rfl rfl rfl rfl ?_
                      refine R_op (nx := 229) rfl rfl rfl ?_
                      refine R_lo (nx := 231) rfl rfl rfl rfl ?_
                      refine R_imul (nx := 232) (z := (12 * k)) rfl rfl rfl ⟨by omega, by omega⟩ ?_
                      refine R_lo (nx := 233) rfl rfl rfl rfl ?_
                      refine R_iadd (nx := 234) (z := ((12 * k) + t)) rfl rfl rfl ⟨by omega, by omega⟩ ?_
                      refine R_lo (nx := 236) rfl rfl rfl rfl ?_
                      refine R_last (nx := 237) rfl rfl (mm_el_ok 2 144 (by decide) rfl (by decide) (by omega) (by omega)) ?_
                      refine R_iinc (nx := 240) (z := (k + 1)) (ls' := [(2, 71), (0, t), (0, a), (0, b), (0, (k + 1)), (1, (S2 83 ((12 * k) + b))), (9, 0), (9, 0)]) rfl rfl rfl rfl ⟨by omega, by omega⟩ rfl ?_
                      refine R_op (nx := 243) (pc' := 172) rfl rfl rfl ?_
                      refine Rn.weak (ls' := [(2, 71), (0, t), (0, a), (0, b), (0, (k + 1)), (9, 0), (9, 0), (9, 0)]) ⟨Or.inl rfl, ⟨Or.inl rfl, ⟨Or.inl rfl, ⟨Or.inl rfl, ⟨Or.inl rfl, ⟨Or.inr rfl, ⟨Or.inl rfl, ⟨Or.inl rfl, trivial⟩⟩⟩⟩⟩⟩⟩⟩ ?_
                      refine ih172 ((mm_up (mm_up S2 83 ((12 * k) + b) (S2 83 ((12 * k) + t))) 83 ((12 * k) + t) (S2 83 ((12 * k) + b)))) ((k + 1)) ?_ ?_ ?_ ?_ ?_
                      · omega
                      · omega
                      · intro q; omega
                      · intro x y x0 x1 y0 y1
                        by_cases e : x = k
                        · subst e
                          rw [if_pos (by omega)]
                          unfold swp Tt
                          by_cases e1 : y = t
                          · rw [if_pos e1, e1, mm_ua]; exact (h2 x b x0 x1 (by omega) (by omega)).trans (if_neg (by omega))
                          · rw [if_neg e1, mm_uk (by omega)]
                            by_cases e2 : y = b
                            · rw [if_pos e2, e2, mm_ua]; exact (h2 x t x0 x1 (by omega) (by omega)).trans (if_neg (by omega))
                            · rw [if_neg e2, mm_uk (by omega)]; exact (h2 x y x0 x1 y0 y1).trans (if_neg (by omega))
                        · unfold Tt
                          rw [mm_uk (by omega), mm_uk (by omega)]
                          exact (h2 x y x0 x1 y0 y1).trans (ifc (by omega) rfl rfl)
                      · intro b hb; rw [mm_unq hb, mm_unq hb]; exact hF2 b hb
              refine Rn.weak (ls' := [(2, 71), (0, t), (0, a), (0, b), (0, 0), (9, 0), (9, 0), (9, 0)]) ⟨Or.inl rfl, ⟨Or.inl rfl, ⟨Or.inl rfl, ⟨Or.inl rfl, ⟨Or.inl rfl, ⟨Or.inl rfl, ⟨Or.inl rfl, ⟨Or.inl rfl, trivial⟩⟩⟩⟩⟩⟩⟩⟩ ?_
              refine L172 ((m - (0)).toNat + 1) (S1) (0) (Nat.lt_succ_self _) ?_ ?_ ?_ ?_
              · omega
              · intro _; rfl
              · intro x y x0 _ _ _; rw [if_neg (by omega)]
              · exact hF
            ·
              refine R_lo (nx := 108) rfl rfl rfl rfl ?_
              refine R_if (nx := 111) (tg := 169) rfl rfl rfl (mm_cnd_lt _ _) (fun c108 => ?_) (fun c108 => ?_)
              ·
                refine R_op (nx := 170) rfl rfl rfl ?_
                refine R_lo (nx := 172) (ls' := [(2, 71), (0, t), (0, a), (0, b), (0, 0), (9, 0), (9, 0), (9, 0)]) rfl rfl rfl rfl ?_
                have L172 : ∀ (f172 : Nat) (S2 : mm_S) (k : Int), (m - k).toNat < f172 → (0 ≤ k ∧ k ≤ m) → (a = -1 → k = 0) → (∀ x y, 0 ≤ x → x < m → 0 ≤ y → y < n → Tt S2 x y = if x < k then Tt S1 x (swp t b y) else Tt S1 x y) → (∀ b, b ≠ 83 → S2 b = S b) → Rn k_M_leastTo 172 [(2, 71), (0, t), (0, a), (0, b), (0, k), (9, 0), (9, 0), (9, 0)] [] S2 (fun v S' => (∀ b, b ≠ 83 → S' b = S b) ∧ RG S' m n ∧ (v = some (0, 0) ∨ (v = some (0, 1) ∧ 0 < sz (Tt S' t t) ∧ (∀ x y, t ≤ x → x < m → t ≤ y → y < n → 0 < sz (Tt S x y) → sz (Tt S' t t) ≤ sz (Tt S x y)) ∧ ((0 < sz (Tt S t t) ∧ ∀ x y, t ≤ x → x < m → t ≤ y → y < n → 0 < sz (Tt S x y) → sz (Tt S t t) ≤ sz (Tt S x y)) → ∀ x y, 0 ≤ x → x < m → 0 ≤ y → y < n → Tt S' x y = Tt S x y) ∧ ∃ x y, ((t ≤ x ∧ x < m) ∧ (t ≤ y ∧ y < n)) ∧ Tt S' t t = Tt S x y))) := by
                  intro f172
                  induction f172 with
                  | zero => intro S2 k hm172; exact absurd hm172 (Nat.not_lt_zero _)
                  | succ f172 ih172 =>
                    intro S2 k hm172 hk2 hkb h2 hF2
                    have k17 : S2 71 17 = m := by rw [hF2 71 (by decide)]; exact h17
                    have k18 : S2 71 18 = n := by rw [hF2 71 (by decide)]; exact h18
                    refine R_lo (nx := 174) rfl rfl rfl rfl ?_
                    refine R_lo (nx := 175) rfl rfl rfl rfl ?_
                    refine R_get (nx := 178) (w := (0, (S2 71 17))) rfl rfl rfl rfl ?_
                    rw [show (S2 71 17) = m from by assumption]
                    refine R_icmp (nx := 181) (tg := 243) rfl rfl rfl (mm_cnd_ge _ _) (fun c178_1 => ?_) (fun c178_1 => ?_)
                    ·
                      refine R_lo (nx := 244) rfl rfl rfl rfl ?_
                      refine R_if (nx := 247) (tg := 251) rfl rfl rfl (mm_cnd_lt _ _) (fun c244_2 => ?_) (fun c244_2 => ?_)
                      ·
                        refine R_op (nx := 252) rfl rfl rfl ?_
                        refine R_ret rfl (fun _ _ => rfl) rfl rfl ?_
                        have hfr := hF2
                        by_cases ea : a = -1
                        · first | (exfalso; omega) | exact ⟨hF2, fun x y x0 x1 y0 y1 => by
                            have e1 := h2 x y x0 x1 y0 y1
                            rw [if_neg (by omega)] at e1
                            have e2 := h1 x y x0 x1 y0 y1
                            rw [if_neg (by omega)] at e2
                            have e3 := hG x y x0 x1 y0 y1
                            unfold Tt at e1 e2
                            rw [e1, e2]; exact e3, Or.inl rfl⟩
                        · have hT : ∀ x y, 0 ≤ x → x < m → 0 ≤ y → y < n → Tt S2 x y = Tt S (swp t a x) (swp t b y) := fun x y x0 x1 y0 y1 => by
                            have rb := swp_r (t := t) (a := b) (x := y) (m := n) ⟨ht.1.1, ht.2.1⟩ (by omega) ⟨y0, y1⟩
                            rw [h2 x y x0 x1 y0 y1, if_pos (by omega), h1 x _ x0 x1 rb.1 rb.2, if_pos (by omega)]
                          have hTt : Tt S2 t t = Tt S a b := by
                            rw [hT t t (by omega) (by omega) (by omega) (by omega)]
                            unfold swp
                            rw [if_pos rfl, if_pos rfl]
                          rcases hf with hf | ⟨⟨f1, f2⟩, f3, f4⟩
                          · exact absurd hf.1 ea
                          · first | (exfalso; omega) | exact ⟨hF2, fun x y x0 x1 y0 y1 => by
                              have ra := swp_r (t := t) (a := a) (x := x) (m := m) ⟨ht.1.1, ht.1.2.1⟩ (by omega) ⟨x0, x1⟩
                              have rb := swp_r (t := t) (a := b) (x := y) (m := n) ⟨ht.1.1, ht.2.1⟩ (by omega) ⟨y0, y1⟩
                              have e1 := hT x y x0 x1 y0 y1
                              unfold Tt at e1
                              rw [e1]; exact hG _ _ ra.1 ra.2 rb.1 rb.2, Or.inr ⟨rfl, by rw [hTt]; exact f2, fun x y x0 x1 y0 y1 q => by rw [hTt]; exact f3 x y (by unfold SCN; omega) q, fun q x y x0 x1 y0 y1 => by
                                have e4 := f4 ⟨q.1, q.2 a b (by omega) (by omega) (by omega) (by omega) f2⟩
                                rw [hT x y x0 x1 y0 y1, e4.1, e4.2, swp_i, swp_i], a, b, by omega, hTt⟩⟩
                      ·
                        refine R_op (nx := 248) rfl rfl rfl ?_
                        refine R_op (nx := 251) (pc' := 252) rfl rfl rfl ?_
                        refine R_ret rfl (fun _ _ => rfl) rfl rfl ?_
                        have hfr := hF2
                        by_cases ea : a = -1
                        · first | (exfalso; omega) | exact ⟨hF2, fun x y x0 x1 y0 y1 => by
                            have e1 := h2 x y x0 x1 y0 y1
                            rw [if_neg (by omega)] at e1
                            have e2 := h1 x y x0 x1 y0 y1
                            rw [if_neg (by omega)] at e2
                            have e3 := hG x y x0 x1 y0 y1
                            unfold Tt at e1 e2
                            rw [e1, e2]; exact e3, Or.inl rfl⟩
                        · have hT : ∀ x y, 0 ≤ x → x < m → 0 ≤ y → y < n → Tt S2 x y = Tt S (swp t a x) (swp t b y) := fun x y x0 x1 y0 y1 => by
                            have rb := swp_r (t := t) (a := b) (x := y) (m := n) ⟨ht.1.1, ht.2.1⟩ (by omega) ⟨y0, y1⟩
                            rw [h2 x y x0 x1 y0 y1, if_pos (by omega), h1 x _ x0 x1 rb.1 rb.2, if_pos (by omega)]
                          have hTt : Tt S2 t t = Tt S a b := by
                            rw [hT t t (by omega) (by omega) (by omega) (by omega)]
                            unfold swp
                            rw [if_pos rfl, if_pos rfl]
                          rcases hf with hf | ⟨⟨f1, f2⟩, f3, f4⟩
                          · exact absurd hf.1 ea
                          · first | (exfalso; omega) | exact ⟨hF2, fun x y x0 x1 y0 y1 => by
                              have ra := swp_r (t := t) (a := a) (x := x) (m := m) ⟨ht.1.1, ht.1.2.1⟩ (by omega) ⟨x0, x1⟩
                              have rb := swp_r (t := t) (a := b) (x := y) (m := n) ⟨ht.1.1, ht.2.1⟩ (by omega) ⟨y0, y1⟩
                              have e1 := hT x y x0 x1 y0 y1
                              unfold Tt at e1
                              rw [e1]; exact hG _ _ ra.1 ra.2 rb.1 rb.2, Or.inr ⟨rfl, by rw [hTt]; exact f2, fun x y x0 x1 y0 y1 q => by rw [hTt]; exact f3 x y (by unfold SCN; omega) q, fun q x y x0 x1 y0 y1 => by
                                have e4 := f4 ⟨q.1, q.2 a b (by omega) (by omega) (by omega) (by omega) f2⟩
                                rw [hT x y x0 x1 y0 y1, e4.1, e4.2, swp_i, swp_i], a, b, by omega, hTt⟩⟩
                    ·
                      refine R_lo (nx := 182) rfl rfl rfl rfl ?_
                      refine R_if (nx := 185) (tg := 243) rfl rfl rfl (mm_cnd_lt _ _) (fun c182_1 => ?_) (fun c182_1 => ?_)
                      ·
                        refine R_lo (nx := 244) rfl rfl rfl rfl ?_
                        refine R_if (nx := 247) (tg := 251) rfl rfl rfl (mm_cnd_lt _ _) (fun c244_3 => ?_) (fun c244_3 => ?_)
                        ·
                          refine R_op (nx := 252) rfl rfl rfl ?_
                          refine R_ret rfl (fun _ _ => rfl) rfl rfl ?_
                          have hfr := hF2
                          by_cases ea : a = -1
                          · first | (exfalso; omega) | exact ⟨hF2, fun x y x0 x1 y0 y1 => by
                              have e1 := h2 x y x0 x1 y0 y1
                              rw [if_neg (by omega)] at e1
                              have e2 := h1 x y x0 x1 y0 y1
                              rw [if_neg (by omega)] at e2
                              have e3 := hG x y x0 x1 y0 y1
                              unfold Tt at e1 e2
                              rw [e1, e2]; exact e3, Or.inl rfl⟩
                          · have hT : ∀ x y, 0 ≤ x → x < m → 0 ≤ y → y < n → Tt S2 x y = Tt S (swp t a x) (swp t b y) := fun x y x0 x1 y0 y1 => by
                              have rb := swp_r (t := t) (a := b) (x := y) (m := n) ⟨ht.1.1, ht.2.1⟩ (by omega) ⟨y0, y1⟩
                              rw [h2 x y x0 x1 y0 y1, if_pos (by omega), h1 x _ x0 x1 rb.1 rb.2, if_pos (by omega)]
                            have hTt : Tt S2 t t = Tt S a b := by
                              rw [hT t t (by omega) (by omega) (by omega) (by omega)]
                              unfold swp
                              rw [if_pos rfl, if_pos rfl]
                            rcases hf with hf | ⟨⟨f1, f2⟩, f3, f4⟩
                            · exact absurd hf.1 ea
                            · first | (exfalso; omega) | exact ⟨hF2, fun x y x0 x1 y0 y1 => by
                                have ra := swp_r (t := t) (a := a) (x := x) (m := m) ⟨ht.1.1, ht.1.2.1⟩ (by omega) ⟨x0, x1⟩
                                have rb := swp_r (t := t) (a := b) (x := y) (m := n) ⟨ht.1.1, ht.2.1⟩ (by omega) ⟨y0, y1⟩
                                have e1 := hT x y x0 x1 y0 y1
                                unfold Tt at e1
                                rw [e1]; exact hG _ _ ra.1 ra.2 rb.1 rb.2, Or.inr ⟨rfl, by rw [hTt]; exact f2, fun x y x0 x1 y0 y1 q => by rw [hTt]; exact f3 x y (by unfold SCN; omega) q, fun q x y x0 x1 y0 y1 => by
                                  have e4 := f4 ⟨q.1, q.2 a b (by omega) (by omega) (by omega) (by omega) f2⟩
                                  rw [hT x y x0 x1 y0 y1, e4.1, e4.2, swp_i, swp_i], a, b, by omega, hTt⟩⟩
                        ·
                          refine R_op (nx := 248) rfl rfl rfl ?_
                          refine R_op (nx := 251) (pc' := 252) rfl rfl rfl ?_
                          refine R_ret rfl (fun _ _ => rfl) rfl rfl ?_
                          have hfr := hF2
                          by_cases ea : a = -1
                          · first | (exfalso; omega) | exact ⟨hF2, fun x y x0 x1 y0 y1 => by
                              have e1 := h2 x y x0 x1 y0 y1
                              rw [if_neg (by omega)] at e1
                              have e2 := h1 x y x0 x1 y0 y1
                              rw [if_neg (by omega)] at e2
                              have e3 := hG x y x0 x1 y0 y1
                              unfold Tt at e1 e2
                              rw [e1, e2]; exact e3, Or.inl rfl⟩
                          · have hT : ∀ x y, 0 ≤ x → x < m → 0 ≤ y → y < n → Tt S2 x y = Tt S (swp t a x) (swp t b y) := fun x y x0 x1 y0 y1 => by
                              have rb := swp_r (t := t) (a := b) (x := y) (m := n) ⟨ht.1.1, ht.2.1⟩ (by omega) ⟨y0, y1⟩
                              rw [h2 x y x0 x1 y0 y1, if_pos (by omega), h1 x _ x0 x1 rb.1 rb.2, if_pos (by omega)]
                            have hTt : Tt S2 t t = Tt S a b := by
                              rw [hT t t (by omega) (by omega) (by omega) (by omega)]
                              unfold swp
                              rw [if_pos rfl, if_pos rfl]
                            rcases hf with hf | ⟨⟨f1, f2⟩, f3, f4⟩
                            · exact absurd hf.1 ea
                            · first | (exfalso; omega) | exact ⟨hF2, fun x y x0 x1 y0 y1 => by
                                have ra := swp_r (t := t) (a := a) (x := x) (m := m) ⟨ht.1.1, ht.1.2.1⟩ (by omega) ⟨x0, x1⟩
                                have rb := swp_r (t := t) (a := b) (x := y) (m := n) ⟨ht.1.1, ht.2.1⟩ (by omega) ⟨y0, y1⟩
                                have e1 := hT x y x0 x1 y0 y1
                                unfold Tt at e1
                                rw [e1]; exact hG _ _ ra.1 ra.2 rb.1 rb.2, Or.inr ⟨rfl, by rw [hTt]; exact f2, fun x y x0 x1 y0 y1 q => by rw [hTt]; exact f3 x y (by unfold SCN; omega) q, fun q x y x0 x1 y0 y1 => by
                                  have e4 := f4 ⟨q.1, q.2 a b (by omega) (by omega) (by omega) (by omega) f2⟩
                                  rw [hT x y x0 x1 y0 y1, e4.1, e4.2, swp_i, swp_i], a, b, by omega, hTt⟩⟩
                      ·
                        refine R_lo (nx := 186) rfl rfl rfl rfl ?_
                        refine R_get (nx := 189) (w := (2, 83)) rfl rfl rfl rfl ?_
                        refine R_op (nx := 191) rfl rfl rfl ?_
                        refine R_lo (nx := 193) rfl rfl rfl rfl ?_
                        refine R_imul (nx := 194) (z := (12 * k)) rfl rfl rfl ⟨by omega, by omega⟩ ?_
                        refine R_lo (nx := 195) rfl rfl rfl rfl ?_
                        refine R_iadd (nx := 196) (z := ((12 * k) + b)) rfl rfl rfl ⟨by omega, by omega⟩ ?_
                        refine R_lald (nx := 197) rfl rfl (mm_el_ok 2 144 (by decide) rfl (by decide) (by omega) (by omega)) ?_
                        refine R_lo (nx := 199) (ls' := [(2, 71), (0, t), (0, a), (0, b), (0, k), (1, (S2 83 ((12 * k) + b))), (9, 0), (9, 0)]) rfl rfl rfl rfl ?_
                        refine R_lo (nx := 200) rfl rfl rfl rfl ?_
                        refine R_get (nx := 203) (w := (2, 83)) rfl rfl rfl rfl ?_
                        refine R_op (nx := 205) rfl rfl rfl ?_
                        refine R_lo (nx := 207) rfl rfl rfl rfl ?_
                        refine R_imul (nx := 208) (z := (12 * k)) rfl rfl rfl ⟨by omega, by omega⟩ ?_
                        refine R_lo (nx := 209) rfl rfl rfl rfl ?_
                        refine R_iadd (nx := 210) (z := ((12 * k) + b)) rfl rfl rfl ⟨by omega, by omega⟩ ?_
                        refine R_lo (nx := 211) rfl rfl rfl rfl ?_
                        refine R_get (nx := 214) (w := (2, 83)) rfl rfl rfl rfl ?_
                        refine R_op (nx := 216) rfl rfl rfl ?_
                        refine R_lo (nx := 218) rfl rfl rfl rfl ?_
                        refine R_imul (nx := 219) (z := (12 * k)) rfl rfl rfl ⟨by omega, by omega⟩ ?_
                        refine R_lo (nx := 220) rfl rfl rfl rfl ?_
                        refine R_iadd (nx := 221) (z := ((12 * k) + t)) rfl rfl rfl ⟨by omega, by omega⟩ ?_
                        refine R_lald (nx := 222) rfl rfl (mm_el_ok 2 144 (by decide) rfl (by decide) (by omega) (by omega)) ?_
                        refine R_last (nx := 223) rfl rfl (mm_el_ok 2 144 (by decide) rfl (by decide) (by omega) (by omega)) ?_
                        refine R_lo (nx := 224) rfl rfl rfl rfl ?_
                        refine R_get (nx := 227) (w := (2, 83)) rfl rfl rfl rfl ?_
                        refine R_op (nx := 229) rfl rfl rfl ?_
                        refine R_lo (nx := 231) rfl rfl rfl rfl ?_
                        refine R_imul (nx := 232) (z := (12 * k)) rfl rfl rfl ⟨by omega, by omega⟩ ?_
                        refine R_lo (nx := 233) rfl rfl rfl rfl ?_
                        refine R_iadd (nx := 234) (z := ((12 * k) + t)) rfl rfl rfl ⟨by omega, by omega⟩ ?_
                        refine R_lo (nx := 236) rfl rfl rfl rfl ?_
                        refine R_last (nx := 237) rfl rfl (mm_el_ok 2 144 (by decide) rfl (by decide) (by omega) (by omega)) ?_
                        refine R_iinc (nx := 240) (z := (k + 1)) (ls' := [(2, 71), (0, t), (0, a), (0, b), (0, (k + 1)), (1, (S2 83 ((12 * k) + b))), (9, 0), (9, 0)]) rfl rfl rfl rfl ⟨by omega, by omega⟩ rfl ?_
                        refine R_op (nx := 243) (pc' := 172) rfl rfl rfl ?_
                        refine Rn.weak (ls' := [(2, 71), (0, t), (0, a), (0, b), (0, (k + 1)), (9, 0), (9, 0), (9, 0)]) ⟨Or.inl rfl, ⟨Or.inl rfl, ⟨Or.inl rfl, ⟨Or.inl rfl, ⟨Or.inl rfl, ⟨Or.inr rfl, ⟨Or.inl rfl, ⟨Or.inl rfl, trivial⟩⟩⟩⟩⟩⟩⟩⟩ ?_
                        refine ih172 ((mm_up (mm_up S2 83 ((12 * k) + b) (S2 83 ((12 * k) + t))) 83 ((12 * k) + t) (S2 83 ((12 * k) + b)))) ((k + 1)) ?_ ?_ ?_ ?_ ?_
                        · omega
                        · omega
                        · intro q; omega
                        · intro x y x0 x1 y0 y1
                          by_cases e : x = k
                          · subst e
                            rw [if_pos (by omega)]
                            unfold swp Tt
                            by_cases e1 : y = t
                            · rw [if_pos e1, e1, mm_ua]; exact (h2 x b x0 x1 (by omega) (by omega)).trans (if_neg (by omega))
                            · rw [if_neg e1, mm_uk (by omega)]
                              by_cases e2 : y = b
                              · rw [if_pos e2, e2, mm_ua]; exact (h2 x t x0 x1 (by omega) (by omega)).trans (if_neg (by omega))
                              · rw [if_neg e2, mm_uk (by omega)]; exact (h2 x y x0 x1 y0 y1).trans (if_neg (by omega))
                          · unfold Tt
                            rw [mm_uk (by omega), mm_uk (by omega)]
                            exact (h2 x y x0 x1 y0 y1).trans (ifc (by omega) rfl rfl)
                        · intro b hb; rw [mm_unq hb, mm_unq hb]; exact hF2 b hb
                refine Rn.weak (ls' := [(2, 71), (0, t), (0, a), (0, b), (0, 0), (9, 0), (9, 0), (9, 0)]) ⟨Or.inl rfl, ⟨Or.inl rfl, ⟨Or.inl rfl, ⟨Or.inl rfl, ⟨Or.inl rfl, ⟨Or.inl rfl, ⟨Or.inl rfl, ⟨Or.inl rfl, trivial⟩⟩⟩⟩⟩⟩⟩⟩ ?_
                refine L172 ((m - (0)).toNat + 1) (S1) (0) (Nat.lt_succ_self _) ?_ ?_ ?_ ?_
                · omega
                · intro _; rfl
                · intro x y x0 _ _ _; rw [if_neg (by omega)]
                · exact hF
              ·
                refine R_lo (nx := 112) rfl rfl rfl rfl ?_
                refine R_get (nx := 115) (w := (2, 83)) rfl rfl rfl rfl ?_
                refine R_op (nx := 117) rfl rfl rfl ?_
                refine R_lo (nx := 118) rfl rfl rfl rfl ?_
                refine R_imul (nx := 119) (z := (12 * a)) rfl rfl rfl ⟨by omega, by omega⟩ ?_
                refine R_lo (nx := 121) rfl rfl rfl rfl ?_
                refine R_iadd (nx := 122) (z := ((12 * a) + k)) rfl rfl rfl ⟨by omega, by omega⟩ ?_
                refine R_lald (nx := 123) rfl rfl (mm_el_ok 2 144 (by decide) rfl (by decide) (by omega) (by omega)) ?_
                refine R_lo (nx := 125) (ls' := [(2, 71), (0, t), (0, a), (0, b), (0, k), (1, (S1 83 ((12 * a) + k))), (9, 0), (9, 0)]) rfl rfl rfl rfl ?_
                refine R_lo (nx := 126) rfl rfl rfl rfl ?_
                refine R_get (nx := 129) (w := (2, 83)) rfl rfl rfl rfl ?_
                refine R_op (nx := 131) rfl rfl rfl ?_
                refine R_lo (nx := 132) rfl rfl rfl rfl ?_
                refine R_imul (nx := 133) (z := (12 * a)) rfl rfl rfl ⟨by omega, by omega⟩ ?_
                refine R_lo (nx := 135) rfl rfl rfl rfl ?_
                refine R_iadd (nx := 136) (z := ((12 * a) + k)) rfl rfl rfl ⟨by omega, by omega⟩ ?_
                refine R_lo (nx := 137) rfl rfl rfl rfl ?_
                refine R_get (nx := 140) (w := (2, 83)) rfl rfl rfl rfl ?_
                refine R_op (nx := 142) rfl rfl rfl ?_
                refine R_lo (nx := 143) rfl rfl rfl rfl ?_
                refine R_imul (nx := 144) (z := (12 * t)) rfl rfl rfl ⟨by omega, by omega⟩ ?_
                refine R_lo (nx := 146) rfl rfl rfl rfl ?_
                refine R_iadd (nx := 147) (z := ((12 * t) + k)) rfl rfl rfl ⟨by omega, by omega⟩ ?_
                refine R_lald (nx := 148) rfl rfl (mm_el_ok 2 144 (by decide) rfl (by decide) (by omega) (by omega)) ?_
                refine R_last (nx := 149) rfl rfl (mm_el_ok 2 144 (by decide) rfl (by decide) (by omega) (by omega)) ?_
                refine R_lo (nx := 150) rfl rfl rfl rfl ?_
                refine R_get (nx := 153) (w := (2, 83)) rfl rfl rfl rfl ?_
                refine R_op (nx := 155) rfl rfl rfl ?_
                refine R_lo (nx := 156) rfl rfl rfl rfl ?_
                refine R_imul (nx := 157) (z := (12 * t)) rfl rfl rfl ⟨by omega, by omega⟩ ?_
                refine R_lo (nx := 159) rfl rfl rfl rfl ?_
                refine R_iadd (nx := 160) (z := ((12 * t) + k)) rfl rfl rfl ⟨by omega, by omega⟩ ?_
                refine R_lo (nx := 162) rfl rfl rfl rfl ?_
                refine R_last (nx := 163) rfl rfl (mm_el_ok 2 144 (by decide) rfl (by decide) (by omega) (by omega)) ?_
                refine R_iinc (nx := 166) (z := (k + 1)) (ls' := [(2, 71), (0, t), (0, a), (0, b), (0, (k + 1)), (1, (S1 83 ((12 * a) + k))), (9, 0), (9, 0)]) rfl rfl rfl rfl ⟨by omega, by omega⟩ rfl ?_
                refine R_op (nx := 169) (pc' := 98) rfl rfl rfl ?_
                refine Rn.weak (ls' := [(2, 71), (0, t), (0, a), (0, b), (0, (k + 1)), (9, 0), (9, 0), (9, 0)]) ⟨Or.inl rfl, ⟨Or.inl rfl, ⟨Or.inl rfl, ⟨Or.inl rfl, ⟨Or.inl rfl, ⟨Or.inr rfl, ⟨Or.inl rfl, ⟨Or.inl rfl, trivial⟩⟩⟩⟩⟩⟩⟩⟩ ?_
                refine ih98 ((mm_up (mm_up S1 83 ((12 * a) + k) (S1 83 ((12 * t) + k))) 83 ((12 * t) + k) (S1 83 ((12 * a) + k)))) ((k + 1)) ?_ ?_ ?_ ?_ ?_
                · omega
                · omega
                · intro q; omega
                · intro x y x0 x1 y0 y1
                  by_cases e : y = k
                  · subst e
                    rw [if_pos (by omega)]
                    unfold swp Tt
                    by_cases e1 : x = t
                    · rw [if_pos e1, e1, mm_ua]; exact (h1 a y (by omega) (by omega) y0 y1).trans (if_neg (by omega))
                    · rw [if_neg e1, mm_uk (by omega)]
                      by_cases e2 : x = a
                      · rw [if_pos e2, e2, mm_ua]; exact (h1 t y (by omega) (by omega) y0 y1).trans (if_neg (by omega))
                      · rw [if_neg e2, mm_uk (by omega)]; exact (h1 x y x0 x1 y0 y1).trans (if_neg (by omega))
                  · unfold Tt
                    rw [mm_uk (by omega), mm_uk (by omega)]
                    exact (h1 x y x0 x1 y0 y1).trans (ifc (by omega) rfl rfl)
                · intro b hb; rw [mm_unq hb, mm_unq hb]; exact hF b hb
        refine Rn.weak (ls' := [(2, 71), (0, t), (0, a), (0, b), (0, 0), (9, 0), (9, 0), (9, 0)]) ⟨Or.inl rfl, ⟨Or.inl rfl, ⟨Or.inl rfl, ⟨Or.inl rfl, ⟨Or.inl rfl, ⟨Or.inl rfl, ⟨Or.inl rfl, ⟨Or.inl rfl, trivial⟩⟩⟩⟩⟩⟩⟩⟩ ?_
        refine L98 ((n - (0)).toNat + 1) (S) (0) (Nat.lt_succ_self _) ?_ ?_ ?_ ?_
        · omega
        · intro _; rfl
        · intro x y _ _ y0 _; rw [if_neg (by omega)]
        · intro b hb; rfl
      ·
        refine R_lo (nx := 17) rfl rfl rfl rfl ?_
        refine R_lo (nx := 19) (ls' := [(2, 71), (0, t), (0, a), (0, b), (0, i), (0, t), (9, 0), (9, 0)]) rfl rfl rfl rfl ?_
        have L19 : ∀ (f19 : Nat) (a : Int) (b : Int) (j : Int), (n - j).toNat < f19 → (t ≤ j ∧ j ≤ n) → (FND S t n a b i j) → Rn k_M_leastTo 19 [(2, 71), (0, t), (0, a), (0, b), (0, i), (0, j), (9, 0), (9, 0)] [] S (fun v S' => (∀ b, b ≠ 83 → S' b = S b) ∧ RG S' m n ∧ (v = some (0, 0) ∨ (v = some (0, 1) ∧ 0 < sz (Tt S' t t) ∧ (∀ x y, t ≤ x → x < m → t ≤ y → y < n → 0 < sz (Tt S x y) → sz (Tt S' t t) ≤ sz (Tt S x y)) ∧ ((0 < sz (Tt S t t) ∧ ∀ x y, t ≤ x → x < m → t ≤ y → y < n → 0 < sz (Tt S x y) → sz (Tt S t t) ≤ sz (Tt S x y)) → ∀ x y, 0 ≤ x → x < m → 0 ≤ y → y < n → Tt S' x y = Tt S x y) ∧ ∃ x y, ((t ≤ x ∧ x < m) ∧ (t ≤ y ∧ y < n)) ∧ Tt S' t t = Tt S x y))) := by
          intro f19
          induction f19 with
          | zero => intro a b j hm19; exact absurd hm19 (Nat.not_lt_zero _)
          | succ f19 ih19 =>
            intro a b j hm19 hj hg
            have hab := FND_b hg
            refine R_lo (nx := 21) rfl rfl rfl rfl ?_
            refine R_lo (nx := 22) rfl rfl rfl rfl ?_
            refine R_get (nx := 25) (w := (0, (S 71 18))) rfl rfl rfl rfl ?_
            rw [show (S 71 18) = n from by assumption]
            refine R_icmp (nx := 28) (tg := 89) rfl rfl rfl (mm_cnd_ge _ _) (fun c25 => ?_) (fun c25 => ?_)
            ·
              refine R_iinc (nx := 92) (z := (i + 1)) (ls' := [(2, 71), (0, t), (0, a), (0, b), (0, (i + 1)), (0, j), (9, 0), (9, 0)]) rfl rfl rfl rfl ⟨by omega, by omega⟩ rfl ?_
              refine R_op (nx := 95) (pc' := 7) rfl rfl rfl ?_
              refine Rn.weak (ls' := [(2, 71), (0, t), (0, a), (0, b), (0, (i + 1)), (9, 0), (9, 0), (9, 0)]) ⟨Or.inl rfl, ⟨Or.inl rfl, ⟨Or.inl rfl, ⟨Or.inl rfl, ⟨Or.inl rfl, ⟨Or.inr rfl, ⟨Or.inl rfl, ⟨Or.inl rfl, trivial⟩⟩⟩⟩⟩⟩⟩⟩ ?_
              refine ih7 (a) (b) ((i + 1)) ?_ ?_ ?_
              · omega
              · omega
              · exact FND_row hg (by omega)
            ·
              refine R_lo (nx := 29) rfl rfl rfl rfl ?_
              refine R_get (nx := 32) (w := (2, 83)) rfl rfl rfl rfl ?_
              refine R_op (nx := 34) rfl rfl rfl ?_
              refine R_lo (nx := 36) rfl rfl rfl rfl ?_
              refine R_imul (nx := 37) (z := (12 * i)) rfl rfl rfl ⟨by omega, by omega⟩ ?_
              refine R_lo (nx := 39) rfl rfl rfl rfl ?_
              refine R_iadd (nx := 40) (z := ((12 * i) + j)) rfl rfl rfl ⟨by omega, by omega⟩ ?_
              refine R_lald (nx := 41) rfl rfl (mm_el_ok 2 144 (by decide) rfl (by decide) (by omega) (by omega)) ?_
              refine R_call1 (nx := 44) (as := [(1, (S 83 ((12 * i) + j)))]) (rest := []) rfl rfl (fun _ _ => rfl) rfl rfl rfl rfl rfl rfl rfl rfl (Cl.mono (c_M_size S (S 83 ((12 * i) + j))) ?_)
              rintro _ _ ⟨rfl, rfl⟩
              refine ⟨_, rfl, ?_⟩
              refine R_lo (nx := 46) (ls' := [(2, 71), (0, t), (0, a), (0, b), (0, i), (0, j), (1, (sz (S 83 ((12 * i) + j)))), (9, 0)]) rfl rfl rfl rfl ?_
              refine R_lo (nx := 48) rfl rfl rfl rfl ?_
              refine R_op (nx := 49) (st' := [(1, 0), (1, (sz (S 83 ((12 * i) + j))))]) rfl rfl rfl ?_
              refine R_op (nx := 50) (st' := [(0, (if 0 < (sz (S 83 ((12 * i) + j))) then 1 else if (sz (S 83 ((12 * i) + j))) = 0 then 0 else -1))]) rfl rfl rfl ?_
              refine R_if (nx := 53) (tg := 83) rfl rfl rfl (mm_lc_le _ _) (fun c50 => ?_) (fun c50 => ?_)
              ·
                refine R_iinc (nx := 86) (z := (j + 1)) (ls' := [(2, 71), (0, t), (0, a), (0, b), (0, i), (0, (j + 1)), (1, (sz (S 83 ((12 * i) + j)))), (9, 0)]) rfl rfl rfl rfl ⟨by omega, by omega⟩ rfl ?_
                refine R_op (nx := 89) (pc' := 19) rfl rfl rfl ?_
                refine Rn.weak (ls' := [(2, 71), (0, t), (0, a), (0, b), (0, i), (0, (j + 1)), (9, 0), (9, 0)]) ⟨Or.inl rfl, ⟨Or.inl rfl, ⟨Or.inl rfl, ⟨Or.inl rfl, ⟨Or.inl rfl, ⟨Or.inl rfl, ⟨Or.inr rfl, ⟨Or.inl rfl, trivial⟩⟩⟩⟩⟩⟩⟩⟩ ?_
                refine ih19 (a) (b) ((j + 1)) ?_ ?_ ?_
                · omega
                · omega
                · first | exact FND_skip hg (Or.inl (show ¬ 0 < sz (S 83 (12 * i + j)) by omega)) | exact FND_skip hg (Or.inr ⟨by omega, c74⟩) | exact FND_new hg ht.1.1 ⟨by omega, by omega, by omega⟩ (show 0 < sz (S 83 (12 * i + j)) by omega) (by first | exact Or.inl (by omega) | exact Or.inr (show sz (S 83 (12 * i + j)) < sz (S 83 (12 * a + b)) by omega))
              ·
                refine R_lo (nx := 54) rfl rfl rfl rfl ?_
                refine R_if (nx := 57) (tg := 77) rfl rfl rfl (mm_cnd_lt _ _) (fun c54 => ?_) (fun c54 => ?_)
                ·
                  refine R_lo (nx := 79) rfl rfl rfl rfl ?_
                  refine R_lo (nx := 80) (ls' := [(2, 71), (0, t), (0, i), (0, b), (0, i), (0, j), (1, (sz (S 83 ((12 * i) + j)))), (9, 0)]) rfl rfl rfl rfl ?_
                  refine R_lo (nx := 82) rfl rfl rfl rfl ?_
                  refine R_lo (nx := 83) (ls' := [(2, 71), (0, t), (0, i), (0, j), (0, i), (0, j), (1, (sz (S 83 ((12 * i) + j)))), (9, 0)]) rfl rfl rfl rfl ?_
                  refine R_iinc (nx := 86) (z := (j + 1)) (ls' := [(2, 71), (0, t), (0, i), (0, j), (0, i), (0, (j + 1)), (1, (sz (S 83 ((12 * i) + j)))), (9, 0)]) rfl rfl rfl rfl ⟨by omega, by omega⟩ rfl ?_
                  refine R_op (nx := 89) (pc' := 19) rfl rfl rfl ?_
                  refine Rn.weak (ls' := [(2, 71), (0, t), (0, i), (0, j), (0, i), (0, (j + 1)), (9, 0), (9, 0)]) ⟨Or.inl rfl, ⟨Or.inl rfl, ⟨Or.inl rfl, ⟨Or.inl rfl, ⟨Or.inl rfl, ⟨Or.inl rfl, ⟨Or.inr rfl, ⟨Or.inl rfl, trivial⟩⟩⟩⟩⟩⟩⟩⟩ ?_
                  refine ih19 (i) (j) ((j + 1)) ?_ ?_ ?_
                  · omega
                  · omega
                  · first | exact FND_skip hg (Or.inl (show ¬ 0 < sz (S 83 (12 * i + j)) by omega)) | exact FND_skip hg (Or.inr ⟨by omega, c74⟩) | exact FND_new hg ht.1.1 ⟨by omega, by omega, by omega⟩ (show 0 < sz (S 83 (12 * i + j)) by omega) (by first | exact Or.inl (by omega) | exact Or.inr (show sz (S 83 (12 * i + j)) < sz (S 83 (12 * a + b)) by omega))
                ·
                  refine R_lo (nx := 59) rfl rfl rfl rfl ?_
                  refine R_lo (nx := 60) rfl rfl rfl rfl ?_
                  refine R_get (nx := 63) (w := (2, 83)) rfl rfl rfl rfl ?_
                  refine R_op (nx := 65) rfl rfl rfl ?_
                  refine R_lo (nx := 66) rfl rfl rfl rfl ?_
                  refine R_imul (nx := 67) (z := (12 * a)) rfl rfl rfl ⟨by omega, by omega⟩ ?_
                  refine R_lo (nx := 68) rfl rfl rfl rfl ?_
                  refine R_iadd (nx := 69) (z := ((12 * a) + b)) rfl rfl rfl ⟨by omega, by omega⟩ ?_
                  refine R_lald (nx := 70) rfl rfl (mm_el_ok 2 144 (by decide) rfl (by decide) (by omega) (by omega)) ?_
                  refine R_call1 (nx := 73) (as := [(1, (S 83 ((12 * a) + b)))]) (rest := [(1, (sz (S 83 ((12 * i) + j))))]) rfl rfl (fun _ _ => rfl) rfl rfl rfl rfl rfl rfl rfl rfl (Cl.mono (c_M_size S (S 83 ((12 * a) + b))) ?_)
                  rintro _ _ ⟨rfl, rfl⟩
                  refine ⟨_, rfl, ?_⟩
                  refine R_op (nx := 74) (st' := [(0, (if (sz (S 83 ((12 * a) + b))) < (sz (S 83 ((12 * i) + j))) then 1 else if (sz (S 83 ((12 * i) + j))) = (sz (S 83 ((12 * a) + b))) then 0 else -1))]) rfl rfl rfl ?_
                  refine R_if (nx := 77) (tg := 83) rfl rfl rfl (mm_lc_ge _ _) (fun c74 => ?_) (fun c74 => ?_)
                  ·
                    refine R_iinc (nx := 86) (z := (j + 1)) (ls' := [(2, 71), (0, t), (0, a), (0, b), (0, i), (0, (j + 1)), (1, (sz (S 83 ((12 * i) + j)))), (9, 0)]) rfl rfl rfl rfl ⟨by omega, by omega⟩ rfl ?_
                    refine R_op (nx := 89) (pc' := 19) rfl rfl rfl ?_
                    refine Rn.weak (ls' := [(2, 71), (0, t), (0, a), (0, b), (0, i), (0, (j + 1)), (9, 0), (9, 0)]) ⟨Or.inl rfl, ⟨Or.inl rfl, ⟨Or.inl rfl, ⟨Or.inl rfl, ⟨Or.inl rfl, ⟨Or.inl rfl, ⟨Or.inr rfl, ⟨Or.inl rfl, trivial⟩⟩⟩⟩⟩⟩⟩⟩ ?_
                    refine ih19 (a) (b) ((j + 1)) ?_ ?_ ?_
                    · omega
                    · omega
                    · first | exact FND_skip hg (Or.inl (show ¬ 0 < sz (S 83 (12 * i + j)) by omega)) | exact FND_skip hg (Or.inr ⟨by omega, c74⟩) | exact FND_new hg ht.1.1 ⟨by omega, by omega, by omega⟩ (show 0 < sz (S 83 (12 * i + j)) by omega) (by first | exact Or.inl (by omega) | exact Or.inr (show sz (S 83 (12 * i + j)) < sz (S 83 (12 * a + b)) by omega))
                  ·
                    refine R_lo (nx := 79) rfl rfl rfl rfl ?_
                    refine R_lo (nx := 80) (ls' := [(2, 71), (0, t), (0, i), (0, b), (0, i), (0, j), (1, (sz (S 83 ((12 * i) + j)))), (9, 0)]) rfl rfl rfl rfl ?_
                    refine R_lo (nx := 82) rfl rfl rfl rfl ?_
                    refine R_lo (nx := 83) (ls' := [(2, 71), (0, t), (0, i), (0, j), (0, i), (0, j), (1, (sz (S 83 ((12 * i) + j)))), (9, 0)]) rfl rfl rfl rfl ?_
                    refine R_iinc (nx := 86) (z := (j + 1)) (ls' := [(2, 71), (0, t), (0, i), (0, j), (0, i), (0, (j + 1)), (1, (sz (S 83 ((12 * i) + j)))), (9, 0)]) rfl rfl rfl rfl ⟨by omega, by omega⟩ rfl ?_
                    refine R_op (nx := 89) (pc' := 19) rfl rfl rfl ?_
                    refine Rn.weak (ls' := [(2, 71), (0, t), (0, i), (0, j), (0, i), (0, (j + 1)), (9, 0), (9, 0)]) ⟨Or.inl rfl, ⟨Or.inl rfl, ⟨Or.inl rfl, ⟨Or.inl rfl, ⟨Or.inl rfl, ⟨Or.inl rfl, ⟨Or.inr rfl, ⟨Or.inl rfl, trivial⟩⟩⟩⟩⟩⟩⟩⟩ ?_
                    refine ih19 (i) (j) ((j + 1)) ?_ ?_ ?_
                    · omega
                    · omega
                    · first | exact FND_skip hg (Or.inl (show ¬ 0 < sz (S 83 (12 * i + j)) by omega)) | exact FND_skip hg (Or.inr ⟨by omega, c74⟩) | exact FND_new hg ht.1.1 ⟨by omega, by omega, by omega⟩ (show 0 < sz (S 83 (12 * i + j)) by omega) (by first | exact Or.inl (by omega) | exact Or.inr (show sz (S 83 (12 * i + j)) < sz (S 83 (12 * a + b)) by omega))
        refine Rn.weak (ls' := [(2, 71), (0, t), (0, a), (0, b), (0, i), (0, t), (9, 0), (9, 0)]) ⟨Or.inl rfl, ⟨Or.inl rfl, ⟨Or.inl rfl, ⟨Or.inl rfl, ⟨Or.inl rfl, ⟨Or.inl rfl, ⟨Or.inl rfl, ⟨Or.inl rfl, trivial⟩⟩⟩⟩⟩⟩⟩⟩ ?_
        refine L19 ((n - (t)).toNat + 1) (a) (b) (t) (Nat.lt_succ_self _) ?_ ?_
        · omega
        · exact hf
  refine Rn.weak (ls' := [(2, 71), (0, t), (0, (-1)), (0, -1), (0, t), (9, 0), (9, 0), (9, 0)]) ⟨Or.inl rfl, ⟨Or.inl rfl, ⟨Or.inl rfl, ⟨Or.inl rfl, ⟨Or.inl rfl, ⟨Or.inl rfl, ⟨Or.inl rfl, ⟨Or.inl rfl, trivial⟩⟩⟩⟩⟩⟩⟩⟩ ?_
  refine L7 ((m - (t)).toNat + 1) ((-1)) (-1) (t) (Nat.lt_succ_self _) ?_ ?_
  · omega
  · exact FND_0 S t n
