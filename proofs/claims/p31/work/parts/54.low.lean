/-! One round of lowering. -/
def LTs (z p : Int) : Prop := 0 < sz z ∧ sz z < sz p
def Im (a b : Prop) : Prop := a → b
def FLP (S S' : mm_S) (m n t p : Int) : Prop := (∃ a b, ((t ≤ a ∧ a < m) ∧ (t ≤ b ∧ b < n)) ∧ LTs (Tt S' a b) p) ∨ (Tt S' t t = p ∧ (∃ b, (t < b ∧ b < n) ∧ Int.tmod (Tt S' t b) p ≠ 0) ∧ ∀ b, t < b → b < n → Int.tmod (Tt S t b) p = 0)

set_option maxRecDepth 20000 in
set_option maxHeartbeats 4000000 in
theorem c_M_lowers (S : mm_S) (m n t : Int) (h17 : S 71 17 = m) (h18 : S 71 18 = n) (ht : (0 ≤ t ∧ t < m ∧ m ≤ 12) ∧ (t < n ∧ n ≤ 12)) (hG : RG S m n) (p : Int) (hp : Tt S t t = p) (hp0 : 0 < sz p) : Cl 91 [(2, 71), (0, t)] S (fun v S' => (∀ b, b ≠ 83 → S' b = S b) ∧ RG S' m n ∧ (v = some (0, 1) ∨ (v = some (0, 0) ∧ FLP S S' m n t p))) := by
  refine ⟨Nat.le_of_ble_eq_true rfl, ?_⟩
  show Rn k_M_lowers 0 [(2, 71), (0, t), (9, 0), (9, 0), (9, 0), (9, 0), (9, 0), (9, 0), (9, 0)] [] S _
  have hpr : mm_r64 p := by rw [← hp]; exact hG t t ht.1.1 ht.1.2.1 ht.1.1 ht.2.1
  have hpz : p ≠ 0 := fun e => by rw [e] at hp0; exact absurd hp0 (by decide)
  refine R_lo (nx := 1) rfl rfl rfl rfl ?_
  refine R_get (nx := 4) (w := (2, 83)) rfl rfl rfl rfl ?_
  refine R_op (nx := 6) rfl rfl rfl ?_
  refine R_lo (nx := 7) rfl rfl rfl rfl ?_
  refine R_imul (nx := 8) (z := (12 * t)) rfl rfl rfl ⟨by omega, by omega⟩ ?_
  refine R_lo (nx := 9) rfl rfl rfl rfl ?_
  refine R_iadd (nx := 10) (z := ((12 * t) + t)) rfl rfl rfl ⟨by omega, by omega⟩ ?_
  refine R_lald (nx := 11) rfl rfl (mm_el_ok 2 144 (by decide) rfl (by decide) (by omega) (by omega)) ?_
  rw [show (S 83 ((12 * t) + t)) = p from hp]
  refine R_lo (nx := 12) (ls' := [(2, 71), (0, t), (1, p), (9, 0), (9, 0), (9, 0), (9, 0), (9, 0), (9, 0)]) rfl rfl rfl rfl ?_
  refine R_op (nx := 13) rfl rfl rfl ?_
  refine R_lo (nx := 15) (ls' := [(2, 71), (0, t), (1, p), (9, 0), (0, 1), (9, 0), (9, 0), (9, 0), (9, 0)]) rfl rfl rfl rfl ?_
  refine R_lo (nx := 16) rfl rfl rfl rfl ?_
  refine R_op (nx := 17) rfl rfl rfl ?_
  refine R_iadd (nx := 18) (z := (t + 1)) rfl rfl rfl ⟨by omega, by omega⟩ ?_
  refine R_lo (nx := 20) (ls' := [(2, 71), (0, t), (1, p), (9, 0), (0, 1), (0, (t + 1)), (9, 0), (9, 0), (9, 0)]) rfl rfl rfl rfl ?_
  have L20 : ∀ (f20 : Nat) (S1 : mm_S) (ok : Int) (i : Int), (m - i).toNat < f20 → (t + 1 ≤ i ∧ i ≤ m) → (∀ y, 0 ≤ y → y < n → Tt S1 t y = Tt S t y) → (Im (ok = 1) (∀ x, t < x → x < i → Tt S1 x t = 0)) → (Im (ok = 0) (∃ x, (t < x ∧ x < m) ∧ LTs (Tt S1 x t) p)) → (Im (ok = 0) (∃ x, (t < x ∧ x < i) ∧ LTs (Tt S1 x t) p)) → (RG S1 m n) → (ok = 0 ∨ ok = 1) → (∀ b, b ≠ 83 → S1 b = S b) → Rn k_M_lowers 20 [(2, 71), (0, t), (1, p), (9, 0), (0, ok), (0, i), (9, 0), (9, 0), (9, 0)] [] S1 (fun v S' => (∀ b, b ≠ 83 → S' b = S b) ∧ RG S' m n ∧ (v = some (0, 1) ∨ (v = some (0, 0) ∧ FLP S S' m n t p))) := by
    intro f20
    induction f20 with
    | zero => intro S1 ok i hm20; exact absurd hm20 (Nat.not_lt_zero _)
    | succ f20 ih20 =>
      intro S1 ok i hm20 hi A1 A2 A3 A3i A4 A5 A7
      have k17S1 : S1 71 17 = m := by rw [A7 71 (by decide)]; exact h17
      have k18S1 : S1 71 18 = n := by rw [A7 71 (by decide)]; exact h18
      refine R_lo (nx := 22) rfl rfl rfl rfl ?_
      refine R_lo (nx := 23) rfl rfl rfl rfl ?_
      refine R_get (nx := 26) (w := (0, (S1 71 17))) rfl rfl rfl rfl ?_
      rw [show (S1 71 17) = m from by assumption]
      refine R_icmp (nx := 29) (tg := 129) rfl rfl rfl (mm_cnd_ge _ _) (fun c26 => ?_) (fun c26 => ?_)
      ·
        refine R_lo (nx := 130) rfl rfl rfl rfl ?_
        refine R_op (nx := 131) rfl rfl rfl ?_
        refine R_iadd (nx := 132) (z := (t + 1)) rfl rfl rfl ⟨by omega, by omega⟩ ?_
        refine R_lo (nx := 134) (ls' := [(2, 71), (0, t), (1, p), (9, 0), (0, ok), (0, (t + 1)), (9, 0), (9, 0), (9, 0)]) rfl rfl rfl rfl ?_
        have L134 : ∀ (f134 : Nat) (S3 : mm_S) (ok : Int) (j : Int), (n - j).toNat < f134 → (t + 1 ≤ j ∧ j ≤ n) → (Tt S3 t t = p) → (∀ y, j ≤ y → y < n → Tt S3 t y = Tt S t y) → (Im (ok = 1) ((∀ x, t < x → x < m → Tt S3 x t = 0) ∧ (∀ y, t < y → y < j → Tt S3 t y = 0) ∧ ∀ y, t < y → y < j → Int.tmod (Tt S t y) p = 0)) → (Im (ok = 0) ((∃ x, (t < x ∧ x < m) ∧ LTs (Tt S3 x t) p) ∨ (∃ y, (t < y ∧ y < j) ∧ LTs (Tt S3 t y) p))) → (RG S3 m n) → (∀ b, b ≠ 83 → S3 b = S b) → (ok = 0 ∨ ok = 1) → Rn k_M_lowers 134 [(2, 71), (0, t), (1, p), (9, 0), (0, ok), (0, j), (9, 0), (9, 0), (9, 0)] [] S3 (fun v S' => (∀ b, b ≠ 83 → S' b = S b) ∧ RG S' m n ∧ (v = some (0, 1) ∨ (v = some (0, 0) ∧ FLP S S' m n t p))) := by
          intro f134
          induction f134 with
          | zero => intro S3 ok j hm134; exact absurd hm134 (Nat.not_lt_zero _)
          | succ f134 ih134 =>
            intro S3 ok j hm134 hj3 B1 B3 B4 B5 B6 B7 B8
            have k17S3 : S3 71 17 = m := by rw [B7 71 (by decide)]; exact h17
            have k18S3 : S3 71 18 = n := by rw [B7 71 (by decide)]; exact h18
            refine R_lo (nx := 136) rfl rfl rfl rfl ?_
            refine R_lo (nx := 137) rfl rfl rfl rfl ?_
            refine R_get (nx := 140) (w := (0, (S3 71 18))) rfl rfl rfl rfl ?_
            rw [show (S3 71 18) = n from by assumption]
            refine R_icmp (nx := 143) (tg := 243) rfl rfl rfl (mm_cnd_ge _ _) (fun c140 => ?_) (fun c140 => ?_)
            ·
              refine R_lo (nx := 244) rfl rfl rfl rfl ?_
              refine R_op (nx := 245) rfl rfl rfl ?_
              refine R_iadd (nx := 246) (z := (t + 1)) rfl rfl rfl ⟨by omega, by omega⟩ ?_
              refine R_lo (nx := 248) (ls' := [(2, 71), (0, t), (1, p), (9, 0), (0, ok), (0, (t + 1)), (9, 0), (9, 0), (9, 0)]) rfl rfl rfl rfl ?_
              have L248 : ∀ (f248 : Nat) (S5 : mm_S) (ok : Int) (i : Int), (m - i).toNat < f248 → (t + 1 ≤ i ∧ i ≤ m) → (RG S5 m n) → (∀ b, b ≠ 83 → S5 b = S b) → (ok = 0 ∨ ok = 1) → (Im (ok = 0) (FLP S S5 m n t p)) → (Im (ok = 1) (Tt S5 t t = p ∧ (∀ x, t < x → x < m → Tt S5 x t = 0) ∧ (∀ y, t < y → y < n → Tt S5 t y = 0) ∧ ∀ y, t < y → y < n → Int.tmod (Tt S t y) p = 0)) → Rn k_M_lowers 248 [(2, 71), (0, t), (1, p), (9, 0), (0, ok), (0, i), (9, 0), (9, 0), (9, 0)] [] S5 (fun v S' => (∀ b, b ≠ 83 → S' b = S b) ∧ RG S' m n ∧ (v = some (0, 1) ∨ (v = some (0, 0) ∧ FLP S S' m n t p))) := by
                intro f248
                induction f248 with
                | zero => intro S5 ok i hm248; exact absurd hm248 (Nat.not_lt_zero _)
                | succ f248 ih248 =>
                  intro S5 ok i hm248 hi5 DR DF Dk D0 D1
                  have k17S5 : S5 71 17 = m := by rw [DF 71 (by decide)]; exact h17
                  have k18S5 : S5 71 18 = n := by rw [DF 71 (by decide)]; exact h18
                  refine R_lo (nx := 250) rfl rfl rfl rfl ?_
                  refine R_lo (nx := 251) rfl rfl rfl rfl ?_
                  refine R_get (nx := 254) (w := (0, (S5 71 17))) rfl rfl rfl rfl ?_
                  rw [show (S5 71 17) = m from by assumption]
                  refine R_icmp (nx := 257) (tg := 362) rfl rfl rfl (mm_cnd_ge _ _) (fun c254 => ?_) (fun c254 => ?_)
                  ·
                    refine R_lo (nx := 364) rfl rfl rfl rfl ?_
                    rcases Dk with q | q
                    · rw [q]
                      refine R_ret rfl (fun _ _ => rfl) rfl rfl ?_
                      exact ⟨DF, DR, Or.inr ⟨rfl, D0 q⟩⟩
                    · rw [q]
                      refine R_ret rfl (fun _ _ => rfl) rfl rfl ?_
                      exact ⟨DF, DR, Or.inl rfl⟩
                  ·
                    refine R_lo (nx := 259) rfl rfl rfl rfl ?_
                    refine R_if (nx := 262) (tg := 362) rfl rfl rfl (mm_cnd_eq _ _) (fun c259 => ?_) (fun c259 => ?_)
                    ·
                      refine R_lo (nx := 364) rfl rfl rfl rfl ?_
                      rcases Dk with q | q
                      · rw [q]
                        refine R_ret rfl (fun _ _ => rfl) rfl rfl ?_
                        exact ⟨DF, DR, Or.inr ⟨rfl, D0 q⟩⟩
                      · rw [q]
                        refine R_ret rfl (fun _ _ => rfl) rfl rfl ?_
                        exact ⟨DF, DR, Or.inl rfl⟩
                    ·
                      refine R_lo (nx := 263) rfl rfl rfl rfl ?_
                      refine R_op (nx := 264) rfl rfl rfl ?_
                      refine R_iadd (nx := 265) (z := (t + 1)) rfl rfl rfl ⟨by omega, by omega⟩ ?_
                      refine R_lo (nx := 267) (ls' := [(2, 71), (0, t), (1, p), (9, 0), (0, ok), (0, i), (0, (t + 1)), (9, 0), (9, 0)]) rfl rfl rfl rfl ?_
                      have L267 : ∀ (f267 : Nat) (S6 : mm_S) (ok : Int) (j : Int), (n - j).toNat < f267 → (t + 1 ≤ j ∧ j ≤ n) → (RG S6 m n) → (∀ b, b ≠ 83 → S6 b = S b) → (ok = 0 ∨ ok = 1) → (Im (ok = 0) (FLP S S6 m n t p)) → (Im (ok = 1) (Tt S6 t t = p ∧ (∀ x, t < x → x < m → Tt S6 x t = 0) ∧ (∀ y, t < y → y < n → Tt S6 t y = 0) ∧ ∀ y, t < y → y < n → Int.tmod (Tt S t y) p = 0)) → Rn k_M_lowers 267 [(2, 71), (0, t), (1, p), (9, 0), (0, ok), (0, i), (0, j), (9, 0), (9, 0)] [] S6 (fun v S' => (∀ b, b ≠ 83 → S' b = S b) ∧ RG S' m n ∧ (v = some (0, 1) ∨ (v = some (0, 0) ∧ FLP S S' m n t p))) := by
                        intro f267
                        induction f267 with
                        | zero => intro S6 ok j hm267; exact absurd hm267 (Nat.not_lt_zero _)
                        | succ f267 ih267 =>
                          intro S6 ok j hm267 hj6 ER EF Ek E0 E1
                          have k17S6 : S6 71 17 = m := by rw [EF 71 (by decide)]; exact h17
                          have k18S6 : S6 71 18 = n := by rw [EF 71 (by decide)]; exact h18
                          refine R_lo (nx := 269) rfl rfl rfl rfl ?_
                          refine R_lo (nx := 270) rfl rfl rfl rfl ?_
                          refine R_get (nx := 273) (w := (0, (S6 71 18))) rfl rfl rfl rfl ?_
                          rw [show (S6 71 18) = n from by assumption]
                          refine R_icmp (nx := 276) (tg := 356) rfl rfl rfl (mm_cnd_ge _ _) (fun c273 => ?_) (fun c273 => ?_)
                          ·
                            refine R_iinc (nx := 359) (z := (i + 1)) (ls' := [(2, 71), (0, t), (1, p), (9, 0), (0, ok), (0, (i + 1)), (0, j), (9, 0), (9, 0)]) rfl rfl rfl rfl ⟨by omega, by omega⟩ rfl ?_
                            refine R_op (nx := 362) (pc' := 248) rfl rfl rfl ?_
                            refine Rn.weak (ls' := [(2, 71), (0, t), (1, p), (9, 0), (0, ok), (0, (i + 1)), (9, 0), (9, 0), (9, 0)]) ⟨Or.inl rfl, ⟨Or.inl rfl, ⟨Or.inl rfl, ⟨Or.inl rfl, ⟨Or.inl rfl, ⟨Or.inl rfl, ⟨Or.inr rfl, ⟨Or.inl rfl, ⟨Or.inl rfl, trivial⟩⟩⟩⟩⟩⟩⟩⟩⟩ ?_
                            refine ih248 (S6) (ok) ((i + 1)) ?_ ?_ ?_ ?_ ?_ ?_ ?_
                            · omega
                            · omega
                            · exact ER
                            · exact EF
                            · exact Ek
                            · exact E0
                            · exact E1
                          ·
                            refine R_lo (nx := 278) rfl rfl rfl rfl ?_
                            refine R_if (nx := 281) (tg := 356) rfl rfl rfl (mm_cnd_eq _ _) (fun c278 => ?_) (fun c278 => ?_)
                            ·
                              refine R_iinc (nx := 359) (z := (i + 1)) (ls' := [(2, 71), (0, t), (1, p), (9, 0), (0, ok), (0, (i + 1)), (0, j), (9, 0), (9, 0)]) rfl rfl rfl rfl ⟨by omega, by omega⟩ rfl ?_
                              refine R_op (nx := 362) (pc' := 248) rfl rfl rfl ?_
                              refine Rn.weak (ls' := [(2, 71), (0, t), (1, p), (9, 0), (0, ok), (0, (i + 1)), (9, 0), (9, 0), (9, 0)]) ⟨Or.inl rfl, ⟨Or.inl rfl, ⟨Or.inl rfl, ⟨Or.inl rfl, ⟨Or.inl rfl, ⟨Or.inl rfl, ⟨Or.inr rfl, ⟨Or.inl rfl, ⟨Or.inl rfl, trivial⟩⟩⟩⟩⟩⟩⟩⟩⟩ ?_
                              refine ih248 (S6) (ok) ((i + 1)) ?_ ?_ ?_ ?_ ?_ ?_ ?_
                              · omega
                              · omega
                              · exact ER
                              · exact EF
                              · exact Ek
                              · exact E0
                              · exact E1
                            ·
                              refine R_lo (nx := 282) rfl rfl rfl rfl ?_
                              refine R_get (nx := 285) (w := (2, 83)) rfl rfl rfl rfl ?_
                              refine R_op (nx := 287) rfl rfl rfl ?_
                              refine R_lo (nx := 289) rfl rfl rfl rfl ?_
                              refine R_imul (nx := 290) (z := (12 * i)) rfl rfl rfl ⟨by omega, by omega⟩ ?_
                              refine R_lo (nx := 292) rfl rfl rfl rfl ?_
                              refine R_iadd (nx := 293) (z := ((12 * i) + j)) rfl rfl rfl ⟨by omega, by omega⟩ ?_
                              refine R_lald (nx := 294) rfl rfl (mm_el_ok 2 144 (by decide) rfl (by decide) (by omega) (by omega)) ?_
                              refine R_lo (nx := 295) rfl rfl rfl rfl ?_
                              refine R_lrem (nx := 296) rfl rfl (by omega) ?_
                              refine R_op (nx := 297) (st' := [(1, 0), (1, (Int.tmod (S6 83 ((12 * i) + j)) p))]) rfl rfl rfl ?_
                              refine R_op (nx := 298) (st' := [(0, (if 0 < (Int.tmod (S6 83 ((12 * i) + j)) p) then 1 else if (Int.tmod (S6 83 ((12 * i) + j)) p) = 0 then 0 else -1))]) rfl rfl rfl ?_
                              refine R_if (nx := 301) (tg := 350) rfl rfl rfl (mm_lc_eq _ _) (fun c298 => ?_) (fun c298 => ?_)
                              ·
                                refine R_iinc (nx := 353) (z := (j + 1)) (ls' := [(2, 71), (0, t), (1, p), (9, 0), (0, ok), (0, i), (0, (j + 1)), (9, 0), (9, 0)]) rfl rfl rfl rfl ⟨by omega, by omega⟩ rfl ?_
                                refine R_op (nx := 356) (pc' := 267) rfl rfl rfl ?_
                                refine Rn.weak (ls' := [(2, 71), (0, t), (1, p), (9, 0), (0, ok), (0, i), (0, (j + 1)), (9, 0), (9, 0)]) ⟨Or.inl rfl, ⟨Or.inl rfl, ⟨Or.inl rfl, ⟨Or.inl rfl, ⟨Or.inl rfl, ⟨Or.inl rfl, ⟨Or.inl rfl, ⟨Or.inl rfl, ⟨Or.inl rfl, trivial⟩⟩⟩⟩⟩⟩⟩⟩⟩ ?_
                                refine ih267 (S6) (ok) ((j + 1)) ?_ ?_ ?_ ?_ ?_ ?_ ?_
                                · omega
                                · omega
                                · first | exact ER | exact G7R
                                · first | exact EF | (intro b hb; rw [G7F b hb]; exact EF b hb)
                                · first | exact Or.inl rfl | exact Ek
                                · first | exact E0 | (intro _; exact W7)
                                · first | exact E1 | (intro q; exact absurd q (by decide))
                              ·
                                refine R_op (nx := 302) rfl rfl rfl ?_
                                refine R_lo (nx := 304) (ls' := [(2, 71), (0, t), (1, p), (9, 0), (0, 0), (0, i), (0, j), (9, 0), (9, 0)]) rfl rfl rfl rfl ?_
                                refine R_lo (nx := 305) rfl rfl rfl rfl ?_
                                refine R_lo (nx := 307) (ls' := [(2, 71), (0, t), (1, p), (9, 0), (0, 0), (0, i), (0, j), (0, t), (9, 0)]) rfl rfl rfl rfl ?_
                                have L307 : ∀ (f307 : Nat) (S7 : mm_S) (k : Int), (n - k).toNat < f307 → (t ≤ k ∧ k ≤ n) → (∀ x y, 0 ≤ x → x < m → 0 ≤ y → y < n → Tt S7 x y = if x = t ∧ t ≤ y ∧ y < k then mm_w64 (Tt S6 t y + Tt S6 i y) else Tt S6 x y) → (RG S7 m n) → (∀ b, b ≠ 83 → S7 b = S6 b) → Rn k_M_lowers 307 [(2, 71), (0, t), (1, p), (9, 0), (0, 0), (0, i), (0, j), (0, k), (9, 0)] [] S7 (fun v S' => (∀ b, b ≠ 83 → S' b = S b) ∧ RG S' m n ∧ (v = some (0, 1) ∨ (v = some (0, 0) ∧ FLP S S' m n t p))) := by
                                  intro f307
                                  induction f307 with
                                  | zero => intro S7 k hm307; exact absurd hm307 (Nat.not_lt_zero _)
                                  | succ f307 ih307 =>
                                    intro S7 k hm307 hk7 h7 G7R G7F
                                    have k18S7 : S7 71 18 = n := by rw [G7F 71 (by decide)]; exact k18S6
                                    refine R_lo (nx := 309) rfl rfl rfl rfl ?_
                                    refine R_lo (nx := 310) rfl rfl rfl rfl ?_
                                    refine R_get (nx := 313) (w := (0, (S7 71 18))) rfl rfl rfl rfl ?_
                                    rw [show (S7 71 18) = n from by assumption]
                                    refine R_icmp (nx := 316) (tg := 350) rfl rfl rfl (mm_cnd_ge _ _) (fun c313 => ?_) (fun c313 => ?_)
                                    ·
                                      have e1 := E1 (by omega)
                                      have W7 : FLP S S7 m n t p := Or.inr ⟨((h7 t t (by omega) (by omega) (by omega) (by omega)).trans (if_pos (by omega))).trans (by rw [e1.1, e1.2.1 i (by omega) (by omega), Int.add_zero]; exact w64_u (k := 0) hpr (by omega)), ⟨j, by omega, by
                                        rw [((h7 t j (by omega) (by omega) (by omega) (by omega)).trans (if_pos (by omega))), e1.2.2.1 j (by omega) (by omega), Int.zero_add, w64_u (k := 0) (ER i j (by omega) (by omega) (by omega) (by omega)) (by unfold Tt; omega)]
                                        exact c298⟩, e1.2.2.2⟩
                                      refine R_iinc (nx := 353) (z := (j + 1)) (ls' := [(2, 71), (0, t), (1, p), (9, 0), (0, 0), (0, i), (0, (j + 1)), (0, k), (9, 0)]) rfl rfl rfl rfl ⟨by omega, by omega⟩ rfl ?_
                                      refine R_op (nx := 356) (pc' := 267) rfl rfl rfl ?_
                                      refine Rn.weak (ls' := [(2, 71), (0, t), (1, p), (9, 0), (0, 0), (0, i), (0, (j + 1)), (9, 0), (9, 0)]) ⟨Or.inl rfl, ⟨Or.inl rfl, ⟨Or.inl rfl, ⟨Or.inl rfl, ⟨Or.inl rfl, ⟨Or.inl rfl, ⟨Or.inl rfl, ⟨Or.inr rfl, ⟨Or.inl rfl, trivial⟩⟩⟩⟩⟩⟩⟩⟩⟩ ?_
                                      refine ih267 (S7) (0) ((j + 1)) ?_ ?_ ?_ ?_ ?_ ?_ ?_
                                      · omega
                                      · omega
                                      · first | exact ER | exact G7R
                                      · first | exact EF | (intro b hb; rw [G7F b hb]; exact EF b hb)
                                      · first | exact Or.inl rfl | exact Ek
                                      · first | exact E0 | (intro _; exact W7)
                                      · first | exact E1 | (intro q; exact absurd q (by decide))
                                    ·
                                      refine R_lo (nx := 317) rfl rfl rfl rfl ?_
                                      refine R_get (nx := 320) (w := (2, 83)) rfl rfl rfl rfl ?_
                                      refine R_op (nx := 322) rfl rfl rfl ?_
                                      refine R_lo (nx := 323) rfl rfl rfl rfl ?_
                                      refine R_imul (nx := 324) (z := (12 * t)) rfl rfl rfl ⟨by omega, by omega⟩ ?_
                                      refine R_lo (nx := 326) rfl rfl rfl rfl ?_
                                      refine R_iadd (nx := 327) (z := ((12 * t) + k)) rfl rfl rfl ⟨by omega, by omega⟩ ?_
                                      refine R_op (nx := 328) rfl rfl rfl ?_
                                      refine R_lald (nx := 329) rfl rfl (mm_el_ok 2 144 (by decide) rfl (by decide) (by omega) (by omega)) ?_
                                      refine R_lo (nx := 330) rfl rfl rfl rfl ?_
                                      refine R_get (nx := 333) (w := (2, 83)) rfl rfl rfl rfl ?_
                                      refine R_op (nx := 335) rfl rfl rfl ?_
                                      refine R_lo (nx := 337) rfl rfl rfl rfl ?_
                                      refine R_imul (nx := 338) (z := (12 * i)) rfl rfl rfl ⟨by omega, by omega⟩ ?_
                                      refine R_lo (nx := 340) rfl rfl rfl rfl ?_
                                      refine R_iadd (nx := 341) (z := ((12 * i) + k)) rfl rfl rfl ⟨by omega, by omega⟩ ?_
                                      refine R_lald (nx := 342) rfl rfl (mm_el_ok 2 144 (by decide) rfl (by decide) (by omega) (by omega)) ?_
                                      refine R_op (nx := 343) (st' := [(1, (mm_w64 ((S7 83 ((12 * t) + k)) + (S7 83 ((12 * i) + k))))), (0, ((12 * t) + k)), (2, 83)]) rfl rfl rfl ?_
                                      refine R_last (nx := 344) rfl rfl (mm_el_ok 2 144 (by decide) rfl (by decide) (by omega) (by omega)) ?_
                                      refine R_iinc (nx := 347) (z := (k + 1)) (ls' := [(2, 71), (0, t), (1, p), (9, 0), (0, 0), (0, i), (0, j), (0, (k + 1)), (9, 0)]) rfl rfl rfl rfl ⟨by omega, by omega⟩ rfl ?_
                                      refine R_op (nx := 350) (pc' := 307) rfl rfl rfl ?_
                                      refine Rn.weak (ls' := [(2, 71), (0, t), (1, p), (9, 0), (0, 0), (0, i), (0, j), (0, (k + 1)), (9, 0)]) ⟨Or.inl rfl, ⟨Or.inl rfl, ⟨Or.inl rfl, ⟨Or.inl rfl, ⟨Or.inl rfl, ⟨Or.inl rfl, ⟨Or.inl rfl, ⟨Or.inl rfl, ⟨Or.inl rfl, trivial⟩⟩⟩⟩⟩⟩⟩⟩⟩ ?_
                                      refine ih307 ((mm_up S7 83 ((12 * t) + k) (mm_w64 ((S7 83 ((12 * t) + k)) + (S7 83 ((12 * i) + k)))))) ((k + 1)) ?_ ?_ ?_ ?_ ?_
                                      · omega
                                      · omega
                                      · intro x y x0 x1 y0 y1
                                        have u1 : S7 83 (12 * t + k) = Tt S6 t k := (h7 t k (by omega) (by omega) (by omega) (by omega)).trans (if_neg (by omega))
                                        have u2 : S7 83 (12 * i + k) = Tt S6 i k := (h7 i k (by omega) (by omega) (by omega) (by omega)).trans (if_neg (by omega))
                                        by_cases e : x = t ∧ y = k
                                        · rw [e.1, e.2, if_pos (by omega), u1, u2]; exact mm_ua
                                        · refine (mm_uk (by omega)).trans ((h7 x y x0 x1 y0 y1).trans ?_)
                                          exact ifc (by omega) rfl rfl
                                      · exact G7R.up (w64_r _)
                                      · intro b hb; rw [mm_unq hb]; exact G7F b hb
                                refine Rn.weak (ls' := [(2, 71), (0, t), (1, p), (9, 0), (0, 0), (0, i), (0, j), (0, t), (9, 0)]) ⟨Or.inl rfl, ⟨Or.inl rfl, ⟨Or.inl rfl, ⟨Or.inl rfl, ⟨Or.inl rfl, ⟨Or.inl rfl, ⟨Or.inl rfl, ⟨Or.inl rfl, ⟨Or.inl rfl, trivial⟩⟩⟩⟩⟩⟩⟩⟩⟩ ?_
                                refine L307 ((n - (t)).toNat + 1) (S6) (t) (Nat.lt_succ_self _) ?_ ?_ ?_ ?_
                                · omega
                                · intro x y _ _ _ _; exact (if_neg (by omega)).symm
                                · exact ER
                                · intro b hb; rfl
                      refine Rn.weak (ls' := [(2, 71), (0, t), (1, p), (9, 0), (0, ok), (0, i), (0, (t + 1)), (9, 0), (9, 0)]) ⟨Or.inl rfl, ⟨Or.inl rfl, ⟨Or.inl rfl, ⟨Or.inl rfl, ⟨Or.inl rfl, ⟨Or.inl rfl, ⟨Or.inl rfl, ⟨Or.inl rfl, ⟨Or.inl rfl, trivial⟩⟩⟩⟩⟩⟩⟩⟩⟩ ?_
                      refine L267 ((n - ((t + 1))).toNat + 1) (S5) (ok) ((t + 1)) (Nat.lt_succ_self _) ?_ ?_ ?_ ?_ ?_ ?_
                      · omega
                      · exact DR
                      · exact DF
                      · exact Dk
                      · exact D0
                      · exact D1
              refine Rn.weak (ls' := [(2, 71), (0, t), (1, p), (9, 0), (0, ok), (0, (t + 1)), (9, 0), (9, 0), (9, 0)]) ⟨Or.inl rfl, ⟨Or.inl rfl, ⟨Or.inl rfl, ⟨Or.inl rfl, ⟨Or.inl rfl, ⟨Or.inl rfl, ⟨Or.inl rfl, ⟨Or.inl rfl, ⟨Or.inl rfl, trivial⟩⟩⟩⟩⟩⟩⟩⟩⟩ ?_
              refine L248 ((m - ((t + 1))).toNat + 1) (S3) (ok) ((t + 1)) (Nat.lt_succ_self _) ?_ ?_ ?_ ?_ ?_ ?_
              · omega
              · exact B6
              · exact B7
              · exact B8
              · intro q; refine Or.inl ?_
                rcases B5 q with ⟨x, hx, hl⟩ | ⟨y, hy, hl⟩
                · exact ⟨x, t, by omega, hl⟩
                · exact ⟨t, y, by omega, hl⟩
              · intro q; obtain ⟨b1, b2, b3⟩ := B4 q
                exact ⟨B1, b1, fun y y0 y1 => b2 y y0 (by omega), fun y y0 y1 => b3 y y0 (by omega)⟩
            ·
              refine R_lo (nx := 144) rfl rfl rfl rfl ?_
              refine R_get (nx := 147) (w := (2, 83)) rfl rfl rfl rfl ?_
              refine R_op (nx := 149) rfl rfl rfl ?_
              refine R_lo (nx := 150) rfl rfl rfl rfl ?_
              refine R_imul (nx := 151) (z := (12 * t)) rfl rfl rfl ⟨by omega, by omega⟩ ?_
              refine R_lo (nx := 153) rfl rfl rfl rfl ?_
              refine R_iadd (nx := 154) (z := ((12 * t) + j)) rfl rfl rfl ⟨by omega, by omega⟩ ?_
              refine R_lald (nx := 155) rfl rfl (mm_el_ok 2 144 (by decide) rfl (by decide) (by omega) (by omega)) ?_
              refine R_lo (nx := 156) rfl rfl rfl rfl ?_
              refine R_ldiv (nx := 157) rfl rfl (by omega) ?_
              refine R_lo (nx := 159) (ls' := [(2, 71), (0, t), (1, p), (9, 0), (0, ok), (0, j), (1, (mm_w64 (Int.tdiv (S3 83 ((12 * t) + j)) p))), (9, 0), (9, 0)]) rfl rfl rfl rfl ?_
              refine R_lo (nx := 160) rfl rfl rfl rfl ?_
              refine R_lo (nx := 162) (ls' := [(2, 71), (0, t), (1, p), (9, 0), (0, ok), (0, j), (1, (mm_w64 (Int.tdiv (S3 83 ((12 * t) + j)) p))), (9, 0), (0, t)]) rfl rfl rfl rfl ?_
              have L162 : ∀ (f162 : Nat) (S4 : mm_S) (k : Int), (m - k).toNat < f162 → (t ≤ k ∧ k ≤ m) → (∀ x y, 0 ≤ x → x < m → 0 ≤ y → y < n → Tt S4 x y = if y = j ∧ t ≤ x ∧ x < k then mm_w64 (Tt S3 x j - mm_w64 ((mm_w64 (Int.tdiv (S3 83 ((12 * t) + j)) p)) * Tt S3 x t)) else Tt S3 x y) → (RG S4 m n) → (∀ b, b ≠ 83 → S4 b = S3 b) → Rn k_M_lowers 162 [(2, 71), (0, t), (1, p), (9, 0), (0, ok), (0, j), (1, (mm_w64 (Int.tdiv (S3 83 ((12 * t) + j)) p))), (9, 0), (0, k)] [] S4 (fun v S' => (∀ b, b ≠ 83 → S' b = S b) ∧ RG S' m n ∧ (v = some (0, 1) ∨ (v = some (0, 0) ∧ FLP S S' m n t p))) := by
                intro f162
                induction f162 with
                | zero => intro S4 k hm162; exact absurd hm162 (Nat.not_lt_zero _)
                | succ f162 ih162 =>
                  intro S4 k hm162 hk h4 R4 F4
                  have k17S4 : S4 71 17 = m := by rw [F4 71 (by decide)]; exact k17S3
                  have k18S4 : S4 71 18 = n := by rw [F4 71 (by decide)]; exact k18S3
                  refine R_lo (nx := 164) rfl rfl rfl rfl ?_
                  refine R_lo (nx := 165) rfl rfl rfl rfl ?_
                  refine R_get (nx := 168) (w := (0, (S4 71 17))) rfl rfl rfl rfl ?_
                  rw [show (S4 71 17) = m from by assumption]
                  refine R_icmp (nx := 171) (tg := 208) rfl rfl rfl (mm_cnd_ge _ _) (fun c168 => ?_) (fun c168 => ?_)
                  ·
                    have et4 : Tt S4 t j = Int.tmod (Tt S3 t j) p := ((h4 t j (by omega) (by omega) (by omega) (by omega)).trans (if_pos (by omega))).trans (by rw [B1]; exact w64_red hpr hpz)
                    refine R_lo (nx := 210) rfl rfl rfl rfl ?_
                    refine R_if (nx := 213) (tg := 234) rfl rfl rfl (mm_cnd_eq _ _) (fun c210 => ?_) (fun c210 => ?_)
                    ·
                      have W4 : Im ((0 : Int) = 1) ((∀ x, t < x → x < m → Tt S4 x t = 0) ∧ (∀ y, t < y → y < j + 1 → Tt S4 t y = 0) ∧ ∀ y, t < y → y < j + 1 → Int.tmod (Tt S t y) p = 0) := fun q => absurd q (by decide)
                      have W5 : Im ((0 : Int) = 0) ((∃ x, (t < x ∧ x < m) ∧ LTs (Tt S4 x t) p) ∨ (∃ y, (t < y ∧ y < j + 1) ∧ LTs (Tt S4 t y) p)) := fun _ => by
                        rcases B5 c210 with ⟨x, hx, hl⟩ | ⟨y, hy, hl⟩
                        · exact Or.inl ⟨x, hx, by rw [h4 x t (by omega) (by omega) (by omega) (by omega), if_neg (by omega)]; exact hl⟩
                        · exact Or.inr ⟨y, by omega, by rw [h4 t y (by omega) (by omega) (by omega) (by omega), if_neg (by omega)]; exact hl⟩
                      refine R_op (nx := 235) rfl rfl rfl ?_
                      refine R_lo (nx := 237) (ls' := [(2, 71), (0, t), (1, p), (9, 0), (0, 0), (0, j), (1, (mm_w64 (Int.tdiv (S3 83 ((12 * t) + j)) p))), (9, 0), (0, k)]) rfl rfl rfl rfl ?_
                      refine R_iinc (nx := 240) (z := (j + 1)) (ls' := [(2, 71), (0, t), (1, p), (9, 0), (0, 0), (0, (j + 1)), (1, (mm_w64 (Int.tdiv (S3 83 ((12 * t) + j)) p))), (9, 0), (0, k)]) rfl rfl rfl rfl ⟨by omega, by omega⟩ rfl ?_
                      refine R_op (nx := 243) (pc' := 134) rfl rfl rfl ?_
                      refine Rn.weak (ls' := [(2, 71), (0, t), (1, p), (9, 0), (0, 0), (0, (j + 1)), (9, 0), (9, 0), (9, 0)]) ⟨Or.inl rfl, ⟨Or.inl rfl, ⟨Or.inl rfl, ⟨Or.inl rfl, ⟨Or.inl rfl, ⟨Or.inl rfl, ⟨Or.inr rfl, ⟨Or.inl rfl, ⟨Or.inr rfl, trivial⟩⟩⟩⟩⟩⟩⟩⟩⟩ ?_
                      refine ih134 (S4) (0) ((j + 1)) ?_ ?_ ?_ ?_ ?_ ?_ ?_ ?_ ?_
                      · omega
                      · omega
                      · exact ((h4 t t (by omega) (by omega) (by omega) (by omega)).trans (if_neg (by omega))).trans B1
                      · intro y y0 y1; exact ((h4 t y (by omega) (by omega) (by omega) y1).trans (if_neg (by omega))).trans (B3 y (by omega) y1)
                      · exact W4
                      · exact W5
                      · exact R4
                      · intro b hb; rw [F4 b hb]; exact B7 b hb
                      · first | exact Or.inl rfl | exact Or.inr rfl | omega
                    ·
                      refine R_lo (nx := 214) rfl rfl rfl rfl ?_
                      refine R_get (nx := 217) (w := (2, 83)) rfl rfl rfl rfl ?_
                      refine R_op (nx := 219) rfl rfl rfl ?_
                      refine R_lo (nx := 220) rfl rfl rfl rfl ?_
                      refine R_imul (nx := 221) (z := (12 * t)) rfl rfl rfl ⟨by omega, by omega⟩ ?_
                      refine R_lo (nx := 223) rfl rfl rfl rfl ?_
                      refine R_iadd (nx := 224) (z := ((12 * t) + j)) rfl rfl rfl ⟨by omega, by omega⟩ ?_
                      refine R_lald (nx := 225) rfl rfl (mm_el_ok 2 144 (by decide) rfl (by decide) (by omega) (by omega)) ?_
                      rw [show (S4 83 ((12 * t) + j)) = (Int.tmod (Tt S3 t j) p) from ((h4 t j (by omega) (by omega) (by omega) (by omega)).trans (if_pos (by omega))).trans (by rw [B1]; exact w64_red hpr hpz)]
                      refine R_op (nx := 226) (st' := [(1, 0), (1, (Int.tmod (Tt S3 t j) p))]) rfl rfl rfl ?_
                      refine R_op (nx := 227) (st' := [(0, (if 0 < (Int.tmod (Tt S3 t j) p) then 1 else if (Int.tmod (Tt S3 t j) p) = 0 then 0 else -1))]) rfl rfl rfl ?_
                      refine R_if (nx := 230) (tg := 234) rfl rfl rfl (mm_lc_ne _ _) (fun c227 => ?_) (fun c227 => ?_)
                      ·
                        have W4 : Im ((0 : Int) = 1) ((∀ x, t < x → x < m → Tt S4 x t = 0) ∧ (∀ y, t < y → y < j + 1 → Tt S4 t y = 0) ∧ ∀ y, t < y → y < j + 1 → Int.tmod (Tt S t y) p = 0) := fun q => absurd q (by decide)
                        have W5 : Im ((0 : Int) = 0) ((∃ x, (t < x ∧ x < m) ∧ LTs (Tt S4 x t) p) ∨ (∃ y, (t < y ∧ y < j + 1) ∧ LTs (Tt S4 t y) p)) := fun _ => Or.inr ⟨j, by omega, by rw [et4]; exact sz_tm hpr hp0 c227⟩
                        refine R_op (nx := 235) rfl rfl rfl ?_
                        refine R_lo (nx := 237) (ls' := [(2, 71), (0, t), (1, p), (9, 0), (0, 0), (0, j), (1, (mm_w64 (Int.tdiv (S3 83 ((12 * t) + j)) p))), (9, 0), (0, k)]) rfl rfl rfl rfl ?_
                        refine R_iinc (nx := 240) (z := (j + 1)) (ls' := [(2, 71), (0, t), (1, p), (9, 0), (0, 0), (0, (j + 1)), (1, (mm_w64 (Int.tdiv (S3 83 ((12 * t) + j)) p))), (9, 0), (0, k)]) rfl rfl rfl rfl ⟨by omega, by omega⟩ rfl ?_
                        refine R_op (nx := 243) (pc' := 134) rfl rfl rfl ?_
                        refine Rn.weak (ls' := [(2, 71), (0, t), (1, p), (9, 0), (0, 0), (0, (j + 1)), (9, 0), (9, 0), (9, 0)]) ⟨Or.inl rfl, ⟨Or.inl rfl, ⟨Or.inl rfl, ⟨Or.inl rfl, ⟨Or.inl rfl, ⟨Or.inl rfl, ⟨Or.inr rfl, ⟨Or.inl rfl, ⟨Or.inr rfl, trivial⟩⟩⟩⟩⟩⟩⟩⟩⟩ ?_
                        refine ih134 (S4) (0) ((j + 1)) ?_ ?_ ?_ ?_ ?_ ?_ ?_ ?_ ?_
                        · omega
                        · omega
                        · exact ((h4 t t (by omega) (by omega) (by omega) (by omega)).trans (if_neg (by omega))).trans B1
                        · intro y y0 y1; exact ((h4 t y (by omega) (by omega) (by omega) y1).trans (if_neg (by omega))).trans (B3 y (by omega) y1)
                        · exact W4
                        · exact W5
                        · exact R4
                        · intro b hb; rw [F4 b hb]; exact B7 b hb
                        · first | exact Or.inl rfl | exact Or.inr rfl | omega
                      ·
                        replace c227 := Classical.not_not.mp c227
                        have ez : Tt S4 t j = 0 := et4.trans c227
                        have W4 : Im ((1 : Int) = 1) ((∀ x, t < x → x < m → Tt S4 x t = 0) ∧ (∀ y, t < y → y < j + 1 → Tt S4 t y = 0) ∧ ∀ y, t < y → y < j + 1 → Int.tmod (Tt S t y) p = 0) := fun _ => by
                          obtain ⟨b1, b2, b3⟩ := B4 (by omega)
                          refine ⟨fun x x0 x1 => ((h4 x t (by omega) x1 (by omega) (by omega)).trans (if_neg (by omega))).trans (b1 x x0 x1), fun y y0 y1 => ?_, fun y y0 y1 => ?_⟩
                          · by_cases e : y = j
                            · rw [e]; exact ez
                            · exact ((h4 t y (by omega) (by omega) (by omega) (by omega)).trans (if_neg (by omega))).trans (b2 y y0 (by omega))
                          · by_cases e : y = j
                            · rw [e, ← B3 j (Int.le_refl _) (by omega)]; exact c227
                            · exact b3 y y0 (by omega)
                        have W5 : Im ((1 : Int) = 0) ((∃ x, (t < x ∧ x < m) ∧ LTs (Tt S4 x t) p) ∨ (∃ y, (t < y ∧ y < j + 1) ∧ LTs (Tt S4 t y) p)) := fun q => absurd q (by decide)
                        refine R_op (nx := 231) rfl rfl rfl ?_
                        refine R_op (nx := 234) (pc' := 235) rfl rfl rfl ?_
                        refine R_lo (nx := 237) (ls' := [(2, 71), (0, t), (1, p), (9, 0), (0, 1), (0, j), (1, (mm_w64 (Int.tdiv (S3 83 ((12 * t) + j)) p))), (9, 0), (0, k)]) rfl rfl rfl rfl ?_
                        refine R_iinc (nx := 240) (z := (j + 1)) (ls' := [(2, 71), (0, t), (1, p), (9, 0), (0, 1), (0, (j + 1)), (1, (mm_w64 (Int.tdiv (S3 83 ((12 * t) + j)) p))), (9, 0), (0, k)]) rfl rfl rfl rfl ⟨by omega, by omega⟩ rfl ?_
                        refine R_op (nx := 243) (pc' := 134) rfl rfl rfl ?_
                        refine Rn.weak (ls' := [(2, 71), (0, t), (1, p), (9, 0), (0, 1), (0, (j + 1)), (9, 0), (9, 0), (9, 0)]) ⟨Or.inl rfl, ⟨Or.inl rfl, ⟨Or.inl rfl, ⟨Or.inl rfl, ⟨Or.inl rfl, ⟨Or.inl rfl, ⟨Or.inr rfl, ⟨Or.inl rfl, ⟨Or.inr rfl, trivial⟩⟩⟩⟩⟩⟩⟩⟩⟩ ?_
                        refine ih134 (S4) (1) ((j + 1)) ?_ ?_ ?_ ?_ ?_ ?_ ?_ ?_ ?_
                        · omega
                        · omega
                        · exact ((h4 t t (by omega) (by omega) (by omega) (by omega)).trans (if_neg (by omega))).trans B1
                        · intro y y0 y1; exact ((h4 t y (by omega) (by omega) (by omega) y1).trans (if_neg (by omega))).trans (B3 y (by omega) y1)
                        · exact W4
                        · exact W5
                        · exact R4
                        · intro b hb; rw [F4 b hb]; exact B7 b hb
                        · first | exact Or.inl rfl | exact Or.inr rfl | omega
                  ·
                    refine R_lo (nx := 172) rfl rfl rfl rfl ?_
                    refine R_get (nx := 175) (w := (2, 83)) rfl rfl rfl rfl ?_
                    refine R_op (nx := 177) rfl rfl rfl ?_
                    refine R_lo (nx := 179) rfl rfl rfl rfl ?_
                    refine R_imul (nx := 180) (z := (12 * k)) rfl rfl rfl ⟨by omega, by omega⟩ ?_
                    refine R_lo (nx := 182) rfl rfl rfl rfl ?_
                    refine R_iadd (nx := 183) (z := ((12 * k) + j)) rfl rfl rfl ⟨by omega, by omega⟩ ?_
                    refine R_op (nx := 184) rfl rfl rfl ?_
                    refine R_lald (nx := 185) rfl rfl (mm_el_ok 2 144 (by decide) rfl (by decide) (by omega) (by omega)) ?_
                    refine R_lo (nx := 187) rfl rfl rfl rfl ?_
                    refine R_lo (nx := 188) rfl rfl rfl rfl ?_
                    refine R_get (nx := 191) (w := (2, 83)) rfl rfl rfl rfl ?_
                    refine R_op (nx := 193) rfl rfl rfl ?_
                    refine R_lo (nx := 195) rfl rfl rfl rfl ?_
                    refine R_imul (nx := 196) (z := (12 * k)) rfl rfl rfl ⟨by omega, by omega⟩ ?_
                    refine R_lo (nx := 197) rfl rfl rfl rfl ?_
                    refine R_iadd (nx := 198) (z := ((12 * k) + t)) rfl rfl rfl ⟨by omega, by omega⟩ ?_
                    refine R_lald (nx := 199) rfl rfl (mm_el_ok 2 144 (by decide) rfl (by decide) (by omega) (by omega)) ?_
                    refine R_op (nx := 200) (st' := [(1, (mm_w64 ((mm_w64 (Int.tdiv (S3 83 ((12 * t) + j)) p)) * (S4 83 ((12 * k) + t))))), (1, (S4 83 ((12 * k) + j))), (0, ((12 * k) + j)), (2, 83)]) rfl rfl rfl ?_
                    refine R_op (nx := 201) (st' := [(1, (mm_w64 ((S4 83 ((12 * k) + j)) - (mm_w64 ((mm_w64 (Int.tdiv (S3 83 ((12 * t) + j)) p)) * (S4 83 ((12 * k) + t))))))), (0, ((12 * k) + j)), (2, 83)]) rfl rfl rfl ?_
                    refine R_last (nx := 202) rfl rfl (mm_el_ok 2 144 (by decide) rfl (by decide) (by omega) (by omega)) ?_
                    refine R_iinc (nx := 205) (z := (k + 1)) (ls' := [(2, 71), (0, t), (1, p), (9, 0), (0, ok), (0, j), (1, (mm_w64 (Int.tdiv (S3 83 ((12 * t) + j)) p))), (9, 0), (0, (k + 1))]) rfl rfl rfl rfl ⟨by omega, by omega⟩ rfl ?_
                    refine R_op (nx := 208) (pc' := 162) rfl rfl rfl ?_
                    refine Rn.weak (ls' := [(2, 71), (0, t), (1, p), (9, 0), (0, ok), (0, j), (1, (mm_w64 (Int.tdiv (S3 83 ((12 * t) + j)) p))), (9, 0), (0, (k + 1))]) ⟨Or.inl rfl, ⟨Or.inl rfl, ⟨Or.inl rfl, ⟨Or.inl rfl, ⟨Or.inl rfl, ⟨Or.inl rfl, ⟨Or.inl rfl, ⟨Or.inl rfl, ⟨Or.inl rfl, trivial⟩⟩⟩⟩⟩⟩⟩⟩⟩ ?_
                    refine ih162 ((mm_up S4 83 ((12 * k) + j) (mm_w64 ((S4 83 ((12 * k) + j)) - (mm_w64 ((mm_w64 (Int.tdiv (S3 83 ((12 * t) + j)) p)) * (S4 83 ((12 * k) + t)))))))) ((k + 1)) ?_ ?_ ?_ ?_ ?_
                    · omega
                    · omega
                    · intro x y x0 x1 y0 y1
                      have u1 : S4 83 (12 * k + j) = Tt S3 k j := (h4 k j (by omega) (by omega) (by omega) (by omega)).trans (if_neg (by omega))
                      have u2 : S4 83 (12 * k + t) = Tt S3 k t := (h4 k t (by omega) (by omega) (by omega) (by omega)).trans (if_neg (by omega))
                      by_cases e : x = k ∧ y = j
                      · rw [e.1, e.2, if_pos (by omega), u1, u2]; exact mm_ua
                      · refine (mm_uk (by omega)).trans ((h4 x y x0 x1 y0 y1).trans ?_)
                        exact ifc (by omega) rfl rfl
                    · exact R4.up (w64_r _)
                    · intro b hb; rw [mm_unq hb]; exact F4 b hb
              refine Rn.weak (ls' := [(2, 71), (0, t), (1, p), (9, 0), (0, ok), (0, j), (1, (mm_w64 (Int.tdiv (S3 83 ((12 * t) + j)) p))), (9, 0), (0, t)]) ⟨Or.inl rfl, ⟨Or.inl rfl, ⟨Or.inl rfl, ⟨Or.inl rfl, ⟨Or.inl rfl, ⟨Or.inl rfl, ⟨Or.inl rfl, ⟨Or.inl rfl, ⟨Or.inl rfl, trivial⟩⟩⟩⟩⟩⟩⟩⟩⟩ ?_
              refine L162 ((m - (t)).toNat + 1) (S3) (t) (Nat.lt_succ_self _) ?_ ?_ ?_ ?_
              · omega
              · intro x y _ _ _ _; exact (if_neg (by omega)).symm
              · exact B6
              · intro b hb; rfl
        refine Rn.weak (ls' := [(2, 71), (0, t), (1, p), (9, 0), (0, ok), (0, (t + 1)), (9, 0), (9, 0), (9, 0)]) ⟨Or.inl rfl, ⟨Or.inl rfl, ⟨Or.inl rfl, ⟨Or.inl rfl, ⟨Or.inl rfl, ⟨Or.inl rfl, ⟨Or.inl rfl, ⟨Or.inl rfl, ⟨Or.inl rfl, trivial⟩⟩⟩⟩⟩⟩⟩⟩⟩ ?_
        refine L134 ((n - ((t + 1))).toNat + 1) (S1) (ok) ((t + 1)) (Nat.lt_succ_self _) ?_ ?_ ?_ ?_ ?_ ?_ ?_ ?_
        · omega
        · exact (A1 t (by omega) (by omega)).trans hp
        · intro y y0 y1; exact A1 y (by omega) y1
        · intro q; exact ⟨fun x x0 x1 => A2 q x x0 (by omega), fun y y0 y1 => by omega, fun y y0 y1 => by omega⟩
        · intro q; exact Or.inl (A3 q)
        · exact A4
        · exact A7
        · exact A5
      ·
        refine R_lo (nx := 30) rfl rfl rfl rfl ?_
        refine R_get (nx := 33) (w := (2, 83)) rfl rfl rfl rfl ?_
        refine R_op (nx := 35) rfl rfl rfl ?_
        refine R_lo (nx := 37) rfl rfl rfl rfl ?_
        refine R_imul (nx := 38) (z := (12 * i)) rfl rfl rfl ⟨by omega, by omega⟩ ?_
        refine R_lo (nx := 39) rfl rfl rfl rfl ?_
        refine R_iadd (nx := 40) (z := ((12 * i) + t)) rfl rfl rfl ⟨by omega, by omega⟩ ?_
        refine R_lald (nx := 41) rfl rfl (mm_el_ok 2 144 (by decide) rfl (by decide) (by omega) (by omega)) ?_
        refine R_lo (nx := 42) rfl rfl rfl rfl ?_
        refine R_ldiv (nx := 43) rfl rfl (by omega) ?_
        refine R_lo (nx := 45) (ls' := [(2, 71), (0, t), (1, p), (9, 0), (0, ok), (0, i), (1, (mm_w64 (Int.tdiv (S1 83 ((12 * i) + t)) p))), (9, 0), (9, 0)]) rfl rfl rfl rfl ?_
        refine R_lo (nx := 46) rfl rfl rfl rfl ?_
        refine R_lo (nx := 48) (ls' := [(2, 71), (0, t), (1, p), (9, 0), (0, ok), (0, i), (1, (mm_w64 (Int.tdiv (S1 83 ((12 * i) + t)) p))), (9, 0), (0, t)]) rfl rfl rfl rfl ?_
        have L48 : ∀ (f48 : Nat) (S2 : mm_S) (j : Int), (n - j).toNat < f48 → (t ≤ j ∧ j ≤ n) → (∀ x y, 0 ≤ x → x < m → 0 ≤ y → y < n → Tt S2 x y = if x = i ∧ t ≤ y ∧ y < j then mm_w64 (Tt S1 i y - mm_w64 ((mm_w64 (Int.tdiv (S1 83 ((12 * i) + t)) p)) * Tt S1 t y)) else Tt S1 x y) → (RG S2 m n) → (∀ b, b ≠ 83 → S2 b = S1 b) → Rn k_M_lowers 48 [(2, 71), (0, t), (1, p), (9, 0), (0, ok), (0, i), (1, (mm_w64 (Int.tdiv (S1 83 ((12 * i) + t)) p))), (9, 0), (0, j)] [] S2 (fun v S' => (∀ b, b ≠ 83 → S' b = S b) ∧ RG S' m n ∧ (v = some (0, 1) ∨ (v = some (0, 0) ∧ FLP S S' m n t p))) := by
          intro f48
          induction f48 with
          | zero => intro S2 j hm48; exact absurd hm48 (Nat.not_lt_zero _)
          | succ f48 ih48 =>
            intro S2 j hm48 hj h2 R2 F2
            have k17S2 : S2 71 17 = m := by rw [F2 71 (by decide)]; exact k17S1
            have k18S2 : S2 71 18 = n := by rw [F2 71 (by decide)]; exact k18S1
            refine R_lo (nx := 50) rfl rfl rfl rfl ?_
            refine R_lo (nx := 51) rfl rfl rfl rfl ?_
            refine R_get (nx := 54) (w := (0, (S2 71 18))) rfl rfl rfl rfl ?_
            rw [show (S2 71 18) = n from by assumption]
            refine R_icmp (nx := 57) (tg := 94) rfl rfl rfl (mm_cnd_ge _ _) (fun c54 => ?_) (fun c54 => ?_)
            ·
              have et : Tt S2 i t = Int.tmod (Tt S1 i t) p := ((h2 i t (by omega) (by omega) (by omega) (by omega)).trans (if_pos (by omega))).trans (by rw [A1 t (by omega) (by omega), hp]; exact w64_red hpr hpz)
              have WO : ∀ x, t < x → x < i → Tt S2 x t = Tt S1 x t := fun x x0 x1 => (h2 x t (by omega) (by omega) (by omega) (by omega)).trans (if_neg (by omega))
              refine R_lo (nx := 96) rfl rfl rfl rfl ?_
              refine R_if (nx := 99) (tg := 120) rfl rfl rfl (mm_cnd_eq _ _) (fun c96 => ?_) (fun c96 => ?_)
              ·
                have W2 : Im ((0 : Int) = 1) (∀ x, t < x → x < i + 1 → Tt S2 x t = 0) := fun q => absurd q (by decide)
                have W3i : Im ((0 : Int) = 0) (∃ x, (t < x ∧ x < i + 1) ∧ LTs (Tt S2 x t) p) := fun _ => by
                  obtain ⟨x, hx, hl⟩ := A3i c96
                  exact ⟨x, by omega, by rw [WO x hx.1 hx.2]; exact hl⟩
                have W3 : Im ((0 : Int) = 0) (∃ x, (t < x ∧ x < m) ∧ LTs (Tt S2 x t) p) := fun q => by
                  obtain ⟨x, hx, hl⟩ := W3i q
                  exact ⟨x, by omega, hl⟩
                refine R_op (nx := 121) rfl rfl rfl ?_
                refine R_lo (nx := 123) (ls' := [(2, 71), (0, t), (1, p), (9, 0), (0, 0), (0, i), (1, (mm_w64 (Int.tdiv (S1 83 ((12 * i) + t)) p))), (9, 0), (0, j)]) rfl rfl rfl rfl ?_
                refine R_iinc (nx := 126) (z := (i + 1)) (ls' := [(2, 71), (0, t), (1, p), (9, 0), (0, 0), (0, (i + 1)), (1, (mm_w64 (Int.tdiv (S1 83 ((12 * i) + t)) p))), (9, 0), (0, j)]) rfl rfl rfl rfl ⟨by omega, by omega⟩ rfl ?_
                refine R_op (nx := 129) (pc' := 20) rfl rfl rfl ?_
                refine Rn.weak (ls' := [(2, 71), (0, t), (1, p), (9, 0), (0, 0), (0, (i + 1)), (9, 0), (9, 0), (9, 0)]) ⟨Or.inl rfl, ⟨Or.inl rfl, ⟨Or.inl rfl, ⟨Or.inl rfl, ⟨Or.inl rfl, ⟨Or.inl rfl, ⟨Or.inr rfl, ⟨Or.inl rfl, ⟨Or.inr rfl, trivial⟩⟩⟩⟩⟩⟩⟩⟩⟩ ?_
                refine ih20 (S2) (0) ((i + 1)) ?_ ?_ ?_ ?_ ?_ ?_ ?_ ?_ ?_
                · omega
                · omega
                · intro y y0 y1; exact ((h2 t y (by omega) (by omega) y0 y1).trans (if_neg (by omega))).trans (A1 y y0 y1)
                · exact W2
                · exact W3
                · exact W3i
                · exact R2
                · first | exact Or.inl rfl | exact Or.inr rfl | omega
                · intro b hb; rw [F2 b hb]; exact A7 b hb
              ·
                refine R_lo (nx := 100) rfl rfl rfl rfl ?_
                refine R_get (nx := 103) (w := (2, 83)) rfl rfl rfl rfl ?_
                refine R_op (nx := 105) rfl rfl rfl ?_
                refine R_lo (nx := 107) rfl rfl rfl rfl ?_
                refine R_imul (nx := 108) (z := (12 * i)) rfl rfl rfl ⟨by omega, by omega⟩ ?_
                refine R_lo (nx := 109) rfl rfl rfl rfl ?_
                refine R_iadd (nx := 110) (z := ((12 * i) + t)) rfl rfl rfl ⟨by omega, by omega⟩ ?_
                refine R_lald (nx := 111) rfl rfl (mm_el_ok 2 144 (by decide) rfl (by decide) (by omega) (by omega)) ?_
                rw [show (S2 83 ((12 * i) + t)) = (Int.tmod (Tt S1 i t) p) from ((h2 i t (by omega) (by omega) (by omega) (by omega)).trans (if_pos (by omega))).trans (by rw [A1 t (by omega) (by omega), hp]; exact w64_red hpr hpz)]
                refine R_op (nx := 112) (st' := [(1, 0), (1, (Int.tmod (Tt S1 i t) p))]) rfl rfl rfl ?_
                refine R_op (nx := 113) (st' := [(0, (if 0 < (Int.tmod (Tt S1 i t) p) then 1 else if (Int.tmod (Tt S1 i t) p) = 0 then 0 else -1))]) rfl rfl rfl ?_
                refine R_if (nx := 116) (tg := 120) rfl rfl rfl (mm_lc_ne _ _) (fun c113 => ?_) (fun c113 => ?_)
                ·
                  have W2 : Im ((0 : Int) = 1) (∀ x, t < x → x < i + 1 → Tt S2 x t = 0) := fun q => absurd q (by decide)
                  have W3i : Im ((0 : Int) = 0) (∃ x, (t < x ∧ x < i + 1) ∧ LTs (Tt S2 x t) p) := fun _ => ⟨i, by omega, by rw [et]; exact sz_tm hpr hp0 c113⟩
                  have W3 : Im ((0 : Int) = 0) (∃ x, (t < x ∧ x < m) ∧ LTs (Tt S2 x t) p) := fun q => by
                    obtain ⟨x, hx, hl⟩ := W3i q
                    exact ⟨x, by omega, hl⟩
                  refine R_op (nx := 121) rfl rfl rfl ?_
                  refine R_lo (nx := 123) (ls' := [(2, 71), (0, t), (1, p), (9, 0), (0, 0), (0, i), (1, (mm_w64 (Int.tdiv (S1 83 ((12 * i) + t)) p))), (9, 0), (0, j)]) rfl rfl rfl rfl ?_
                  refine R_iinc (nx := 126) (z := (i + 1)) (ls' := [(2, 71), (0, t), (1, p), (9, 0), (0, 0), (0, (i + 1)), (1, (mm_w64 (Int.tdiv (S1 83 ((12 * i) + t)) p))), (9, 0), (0, j)]) rfl rfl rfl rfl ⟨by omega, by omega⟩ rfl ?_
                  refine R_op (nx := 129) (pc' := 20) rfl rfl rfl ?_
                  refine Rn.weak (ls' := [(2, 71), (0, t), (1, p), (9, 0), (0, 0), (0, (i + 1)), (9, 0), (9, 0), (9, 0)]) ⟨Or.inl rfl, ⟨Or.inl rfl, ⟨Or.inl rfl, ⟨Or.inl rfl, ⟨Or.inl rfl, ⟨Or.inl rfl, ⟨Or.inr rfl, ⟨Or.inl rfl, ⟨Or.inr rfl, trivial⟩⟩⟩⟩⟩⟩⟩⟩⟩ ?_
                  refine ih20 (S2) (0) ((i + 1)) ?_ ?_ ?_ ?_ ?_ ?_ ?_ ?_ ?_
                  · omega
                  · omega
                  · intro y y0 y1; exact ((h2 t y (by omega) (by omega) y0 y1).trans (if_neg (by omega))).trans (A1 y y0 y1)
                  · exact W2
                  · exact W3
                  · exact W3i
                  · exact R2
                  · first | exact Or.inl rfl | exact Or.inr rfl | omega
                  · intro b hb; rw [F2 b hb]; exact A7 b hb
                ·
                  replace c113 := Classical.not_not.mp c113
                  have ez : Tt S2 i t = 0 := et.trans c113
                  have W2 : Im ((1 : Int) = 1) (∀ x, t < x → x < i + 1 → Tt S2 x t = 0) := fun _ x x0 x1 => by
                    by_cases e : x = i
                    · rw [e]; exact ez
                    · rw [WO x x0 (by omega)]; exact A2 (by omega) x x0 (by omega)
                  have W3i : Im ((1 : Int) = 0) (∃ x, (t < x ∧ x < i + 1) ∧ LTs (Tt S2 x t) p) := fun q => absurd q (by decide)
                  have W3 : Im ((1 : Int) = 0) (∃ x, (t < x ∧ x < m) ∧ LTs (Tt S2 x t) p) := fun q => absurd q (by decide)
                  refine R_op (nx := 117) rfl rfl rfl ?_
                  refine R_op (nx := 120) (pc' := 121) rfl rfl rfl ?_
                  refine R_lo (nx := 123) (ls' := [(2, 71), (0, t), (1, p), (9, 0), (0, 1), (0, i), (1, (mm_w64 (Int.tdiv (S1 83 ((12 * i) + t)) p))), (9, 0), (0, j)]) rfl rfl rfl rfl ?_
                  refine R_iinc (nx := 126) (z := (i + 1)) (ls' := [(2, 71), (0, t), (1, p), (9, 0), (0, 1), (0, (i + 1)), (1, (mm_w64 (Int.tdiv (S1 83 ((12 * i) + t)) p))), (9, 0), (0, j)]) rfl rfl rfl rfl ⟨by omega, by omega⟩ rfl ?_
                  refine R_op (nx := 129) (pc' := 20) rfl rfl rfl ?_
                  refine Rn.weak (ls' := [(2, 71), (0, t), (1, p), (9, 0), (0, 1), (0, (i + 1)), (9, 0), (9, 0), (9, 0)]) ⟨Or.inl rfl, ⟨Or.inl rfl, ⟨Or.inl rfl, ⟨Or.inl rfl, ⟨Or.inl rfl, ⟨Or.inl rfl, ⟨Or.inr rfl, ⟨Or.inl rfl, ⟨Or.inr rfl, trivial⟩⟩⟩⟩⟩⟩⟩⟩⟩ ?_
                  refine ih20 (S2) (1) ((i + 1)) ?_ ?_ ?_ ?_ ?_ ?_ ?_ ?_ ?_
                  · omega
                  · omega
                  · intro y y0 y1; exact ((h2 t y (by omega) (by omega) y0 y1).trans (if_neg (by omega))).trans (A1 y y0 y1)
                  · exact W2
                  · exact W3
                  · exact W3i
                  · exact R2
                  · first | exact Or.inl rfl | exact Or.inr rfl | omega
                  · intro b hb; rw [F2 b hb]; exact A7 b hb
            ·
              refine R_lo (nx := 58) rfl rfl rfl rfl ?_
              refine R_get (nx := 61) (w := (2, 83)) rfl rfl rfl rfl ?_
              refine R_op (nx := 63) rfl rfl rfl ?_
              refine R_lo (nx := 65) rfl rfl rfl rfl ?_
              refine R_imul (nx := 66) (z := (12 * i)) rfl rfl rfl ⟨by omega, by omega⟩ ?_
              refine R_lo (nx := 68) rfl rfl rfl rfl ?_
              refine R_iadd (nx := 69) (z := ((12 * i) + j)) rfl rfl rfl ⟨by omega, by omega⟩ ?_
              refine R_op (nx := 70) rfl rfl rfl ?_
              refine R_lald (nx := 71) rfl rfl (mm_el_ok 2 144 (by decide) rfl (by decide) (by omega) (by omega)) ?_
              refine R_lo (nx := 73) rfl rfl rfl rfl ?_
              refine R_lo (nx := 74) rfl rfl rfl rfl ?_
              refine R_get (nx := 77) (w := (2, 83)) rfl rfl rfl rfl ?_
              refine R_op (nx := 79) rfl rfl rfl ?_
              refine R_lo (nx := 80) rfl rfl rfl rfl ?_
              refine R_imul (nx := 81) (z := (12 * t)) rfl rfl rfl ⟨by omega, by omega⟩ ?_
              refine R_lo (nx := 83) rfl rfl rfl rfl ?_
              refine R_iadd (nx := 84) (z := ((12 * t) + j)) rfl rfl rfl ⟨by omega, by omega⟩ ?_
              refine R_lald (nx := 85) rfl rfl (mm_el_ok 2 144 (by decide) rfl (by decide) (by omega) (by omega)) ?_
              refine R_op (nx := 86) (st' := [(1, (mm_w64 ((mm_w64 (Int.tdiv (S1 83 ((12 * i) + t)) p)) * (S2 83 ((12 * t) + j))))), (1, (S2 83 ((12 * i) + j))), (0, ((12 * i) + j)), (2, 83)]) rfl rfl rfl ?_
              refine R_op (nx := 87) (st' := [(1, (mm_w64 ((S2 83 ((12 * i) + j)) - (mm_w64 ((mm_w64 (Int.tdiv (S1 83 ((12 * i) + t)) p)) * (S2 83 ((12 * t) + j))))))), (0, ((12 * i) + j)), (2, 83)]) rfl rfl rfl ?_
              refine R_last (nx := 88) rfl rfl (mm_el_ok 2 144 (by decide) rfl (by decide) (by omega) (by omega)) ?_
              refine R_iinc (nx := 91) (z := (j + 1)) (ls' := [(2, 71), (0, t), (1, p), (9, 0), (0, ok), (0, i), (1, (mm_w64 (Int.tdiv (S1 83 ((12 * i) + t)) p))), (9, 0), (0, (j + 1))]) rfl rfl rfl rfl ⟨by omega, by omega⟩ rfl ?_
              refine R_op (nx := 94) (pc' := 48) rfl rfl rfl ?_
              refine Rn.weak (ls' := [(2, 71), (0, t), (1, p), (9, 0), (0, ok), (0, i), (1, (mm_w64 (Int.tdiv (S1 83 ((12 * i) + t)) p))), (9, 0), (0, (j + 1))]) ⟨Or.inl rfl, ⟨Or.inl rfl, ⟨Or.inl rfl, ⟨Or.inl rfl, ⟨Or.inl rfl, ⟨Or.inl rfl, ⟨Or.inl rfl, ⟨Or.inl rfl, ⟨Or.inl rfl, trivial⟩⟩⟩⟩⟩⟩⟩⟩⟩ ?_
              refine ih48 ((mm_up S2 83 ((12 * i) + j) (mm_w64 ((S2 83 ((12 * i) + j)) - (mm_w64 ((mm_w64 (Int.tdiv (S1 83 ((12 * i) + t)) p)) * (S2 83 ((12 * t) + j)))))))) ((j + 1)) ?_ ?_ ?_ ?_ ?_
              · omega
              · omega
              · intro x y x0 x1 y0 y1
                have u1 : S2 83 (12 * i + j) = Tt S1 i j := (h2 i j (by omega) (by omega) (by omega) (by omega)).trans (if_neg (by omega))
                have u2 : S2 83 (12 * t + j) = Tt S1 t j := (h2 t j (by omega) (by omega) (by omega) (by omega)).trans (if_neg (by omega))
                by_cases e : x = i ∧ y = j
                · rw [e.1, e.2, if_pos (by omega), u1, u2]; exact mm_ua
                · refine (mm_uk (by omega)).trans ((h2 x y x0 x1 y0 y1).trans ?_)
                  exact ifc (by omega) rfl rfl
              · exact R2.up (w64_r _)
              · intro b hb; rw [mm_unq hb]; exact F2 b hb
        refine Rn.weak (ls' := [(2, 71), (0, t), (1, p), (9, 0), (0, ok), (0, i), (1, (mm_w64 (Int.tdiv (S1 83 ((12 * i) + t)) p))), (9, 0), (0, t)]) ⟨Or.inl rfl, ⟨Or.inl rfl, ⟨Or.inl rfl, ⟨Or.inl rfl, ⟨Or.inl rfl, ⟨Or.inl rfl, ⟨Or.inl rfl, ⟨Or.inl rfl, ⟨Or.inl rfl, trivial⟩⟩⟩⟩⟩⟩⟩⟩⟩ ?_
        refine L48 ((n - (t)).toNat + 1) (S1) (t) (Nat.lt_succ_self _) ?_ ?_ ?_ ?_
        · omega
        · intro x y _ _ _ _; exact (if_neg (by omega)).symm
        · exact A4
        · intro b hb; rfl
  refine Rn.weak (ls' := [(2, 71), (0, t), (1, p), (9, 0), (0, 1), (0, (t + 1)), (9, 0), (9, 0), (9, 0)]) ⟨Or.inl rfl, ⟨Or.inl rfl, ⟨Or.inl rfl, ⟨Or.inl rfl, ⟨Or.inl rfl, ⟨Or.inl rfl, ⟨Or.inl rfl, ⟨Or.inl rfl, ⟨Or.inl rfl, trivial⟩⟩⟩⟩⟩⟩⟩⟩⟩ ?_
  refine L20 ((m - ((t + 1))).toNat + 1) (S) (1) ((t + 1)) (Nat.lt_succ_self _) ?_ ?_ ?_ ?_ ?_ ?_ ?_ ?_
  · omega
  · intro y _ _; rfl
  · intro _ x h h2; omega
  · intro q; exact absurd q (by decide)
  · intro q; exact absurd q (by decide)
  · exact hG
  · omega
  · intro b hb; rfl
