/-! How it all stands at the start. -/
def A0 : mm_A := (fun _ => Xz, fun _ => Xz, 0, (0, 0, 0), (0, fun _ => 0), fun _ => (-1, 0, fun _ => 0))
theorem zget : ∀ (l : List Int) (k : Nat), l.all (fun x => decide (x = 0)) = true → l.getD k 0 = 0
  | [], _, _ => rfl
  | a :: r, 0, h => by
    rw [List.all_cons, Bool.and_eq_true] at h
    exact of_decide_eq_true h.1
  | a :: r, k + 1, h => by
    rw [List.all_cons, Bool.and_eq_true] at h
    exact zget r k h.2
theorem S0_z (L : Nat) (xs : Nat → Int32) {a : Nat} (ha : a < 1000) (h : (cc_fin.getD a (99, 0, [])).2.2.all (fun x => decide (x = 0)) = true) (k : Int) : S_0 L xs a k = 0 := by
  by_cases q : 0 ≤ k
  · obtain ⟨j, rfl⟩ : ∃ j : Nat, k = j := ⟨k.toNat, by omega⟩
    rw [S_0_row L xs ha]
    exact zget _ j h
  · unfold S_0
    rw [if_neg (by omega), if_neg (by omega)]
theorem S0_k (L : Nat) (xs : Nat → Int32) {a j : Nat} {z : Int} (ha : a < 1000) (h : (cc_fin.getD a (99, 0, [])).2.2.getD j 0 = z) : S_0 L xs a j = z := (S_0_row L xs ha j).trans h
theorem MC_z {S : mm_S} {a : Int} (h : S a 0 = 0) : MC S a Xz := ⟨Xz_Nz, h, fun x p q => absurd q (by show ¬ x < 0; omega), fun x y p q => absurd q (by show ¬ x < 0; omega)⟩
theorem c4 {P : Int → Prop} (h0 : P 0) (h1 : P 1) (h2 : P 2) (h3 : P 3) : ∀ c, 0 ≤ c → c < 4 → P c := fun c a b => by
  have : c = 0 ∨ c = 1 ∨ c = 2 ∨ c = 3 := by omega
  rcases this with rfl | rfl | rfl | rfl
  · exact h0
  · exact h1
  · exact h2
  · exact h3
theorem RC_0 (L : Nat) (xs : Nat → Int32) : RC (S_0 L xs) A0 := by
  refine ⟨c4 (MC_z ?_) (MC_z ?_) (MC_z ?_) (MC_z ?_), c4 (MC_z ?_) (MC_z ?_) (MC_z ?_) (MC_z ?_), ?_, ⟨?_, ?_, ?_⟩, ⟨?_, fun j a b => absurd b (by show ¬ j < 0; omega)⟩, c4 ⟨?_, ?_, ?_⟩ ⟨?_, ?_, ?_⟩ ⟨?_, ?_, ?_⟩ ⟨?_, ?_, ?_⟩⟩
  · exact S0_k L xs (a := 23) (j := 0) (by decide) (by decide +kernel)
  · exact S0_k L xs (a := 33) (j := 0) (by decide) (by decide +kernel)
  · exact S0_k L xs (a := 43) (j := 0) (by decide) (by decide +kernel)
  · exact S0_k L xs (a := 53) (j := 0) (by decide) (by decide +kernel)
  · exact S0_k L xs (a := 28) (j := 0) (by decide) (by decide +kernel)
  · exact S0_k L xs (a := 38) (j := 0) (by decide) (by decide +kernel)
  · exact S0_k L xs (a := 48) (j := 0) (by decide) (by decide +kernel)
  · exact S0_k L xs (a := 58) (j := 0) (by decide) (by decide +kernel)
  · exact S0_k L xs (a := 0) (j := 9) (by decide) (by decide +kernel)
  · exact S0_k L xs (a := 18) (j := 0) (by decide) (by decide +kernel)
  · exact S0_k L xs (a := 18) (j := 1) (by decide) (by decide +kernel)
  · exact S0_k L xs (a := 18) (j := 2) (by decide) (by decide +kernel)
  · exact S0_k L xs (a := 19) (j := 0) (by decide) (by decide +kernel)
  · exact S0_k L xs (a := 63) (j := 0) (by decide) (by decide +kernel)
  · exact S0_k L xs (a := 63) (j := 1) (by decide) (by decide +kernel)
  · exact fun j _ _ => S0_z L xs (a := 64) (by decide) (by decide +kernel) j
  · exact S0_k L xs (a := 65) (j := 0) (by decide) (by decide +kernel)
  · exact S0_k L xs (a := 65) (j := 1) (by decide) (by decide +kernel)
  · exact fun j _ _ => S0_z L xs (a := 66) (by decide) (by decide +kernel) j
  · exact S0_k L xs (a := 67) (j := 0) (by decide) (by decide +kernel)
  · exact S0_k L xs (a := 67) (j := 1) (by decide) (by decide +kernel)
  · exact fun j _ _ => S0_z L xs (a := 68) (by decide) (by decide +kernel) j
  · exact S0_k L xs (a := 69) (j := 0) (by decide) (by decide +kernel)
  · exact S0_k L xs (a := 69) (j := 1) (by decide) (by decide +kernel)
  · exact fun j _ _ => S0_z L xs (a := 70) (by decide) (by decide +kernel) j
theorem RR_0 (L : Nat) (xs : Nat → Int32) : RR (S_0 L xs) A0 := by
  refine ⟨fun c _ _ => ⟨⟨Xz_Nz, fun x p q => absurd q (by show ¬ x < 0; omega), fun x y _ _ _ _ => S0_z L xs (a := 75) (by decide) (by decide +kernel) _⟩, S0_z L xs (a := 72) (by decide) (by decide +kernel) c⟩, fun c _ _ => ⟨Xz_Nz, S0_z L xs (a := 76) (by decide) (by decide +kernel) c, fun x p q => absurd q (by show ¬ x < 0; omega), fun x y _ _ _ _ => S0_z L xs (a := 79) (by decide) (by decide +kernel) _⟩, ?_, ⟨?_, ?_, ?_⟩, ⟨?_, fun j a b => absurd b (by show ¬ j < 0; omega)⟩, c4 ⟨?_, ?_, fun j _ _ => ?_⟩ ⟨?_, ?_, fun j _ _ => ?_⟩ ⟨?_, ?_, fun j _ _ => ?_⟩ ⟨?_, ?_, fun j _ _ => ?_⟩⟩
  · exact S0_k L xs (a := 71) (j := 8) (by decide) (by decide +kernel)
  · exact S0_k L xs (a := 71) (j := 9) (by decide) (by decide +kernel)
  · exact S0_k L xs (a := 71) (j := 10) (by decide) (by decide +kernel)
  · exact S0_k L xs (a := 71) (j := 11) (by decide) (by decide +kernel)
  · exact S0_k L xs (a := 71) (j := 21) (by decide) (by decide +kernel)
  · exact S0_k L xs (a := 87) (j := 0) (by decide) (by decide +kernel)
  · exact S0_k L xs (a := 88) (j := 0) (by decide) (by decide +kernel)
  · exact S0_z L xs (a := 89) (by decide) (by decide +kernel) _
  · exact S0_k L xs (a := 87) (j := 1) (by decide) (by decide +kernel)
  · exact S0_k L xs (a := 88) (j := 1) (by decide) (by decide +kernel)
  · exact S0_z L xs (a := 89) (by decide) (by decide +kernel) _
  · exact S0_k L xs (a := 87) (j := 2) (by decide) (by decide +kernel)
  · exact S0_k L xs (a := 88) (j := 2) (by decide) (by decide +kernel)
  · exact S0_z L xs (a := 89) (by decide) (by decide +kernel) _
  · exact S0_k L xs (a := 87) (j := 3) (by decide) (by decide +kernel)
  · exact S0_k L xs (a := 88) (j := 3) (by decide) (by decide +kernel)
  · exact S0_z L xs (a := 89) (by decide) (by decide +kernel) _
theorem Vs_0 : Vs A0 := ⟨fun _ _ _ => Xz_Vx, fun _ _ _ => Xz_Vx, Or.inl rfl, ⟨by decide, by decide⟩, fun _ => ⟨by show (0 : Int) ≤ 0; decide, by show (0 : Int) ≤ 255; decide⟩, fun _ _ _ => ⟨⟨by show (-1 : Int) ≤ -1; decide, by show (-1 : Int) ≤ 2; decide⟩, by show (0 : Int) ≤ 0; decide, by show (0 : Int) ≤ 40; decide⟩⟩
theorem S0_len (L : Nat) (xs : Nat → Int32) : S_0 L xs 1000 (-1) = (L : Int) := by
  unfold S_0
  rw [if_pos rfl, if_pos rfl]
theorem S0_r (L : Nat) (hL : L ≤ 3584) (xs : Nat → Int32) (j : Int) : mm_r32 (S_0 L xs 1000 j) := by
  unfold S_0
  rw [if_pos rfl]
  split
  · exact ⟨by omega, by omega⟩
  · split
    · exact i32r _
    · exact ⟨by decide, by decide⟩
theorem law_all : ∀ (L : Nat) (xs : Nat → Int32), L ≤ 3584 → Rn k_Law_law 16 [(2, 1000), (2, 0), (2, 71), (9, 0)] [] (S_0 L xs) (fun v _ => v = some (0, 1)) := by
  intro L xs hL
  show Rn k_Law_law 16 [(2, 1000), (2, 0), (2, 71), (9, 0)] [] (S_0 L xs) QL
  refine R_op (nx := 17) (lj_0 (by decide) rfl) rfl rfl ?_
  refine R_lo (nx := 18) (ls' := [(2, 1000), (2, 0), (2, 71), (0, 0)]) (lj_0 (by decide) rfl) rfl rfl rfl ?_
  exact law_loop  hL _ (S_0 L xs) A0 0 (Nat.lt_succ_self _) (by omega) (by omega) ⟨RC_0 L xs, RR_0 L xs, Vs_0, S0_len L xs, S0_r L hL xs⟩
