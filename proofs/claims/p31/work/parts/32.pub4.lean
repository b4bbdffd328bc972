/-! Products and parts as the reference makes them. -/
def EPb (S : mm_S) (P : CX) (r c : Int) : Prop := ∀ i j, (0 ≤ i ∧ i < 12) → (0 ≤ j ∧ j < 12) → S 75 (576 + 12 * i + j) = if i < r ∨ (i = r ∧ j < c) then Xe P i j else 0
theorem EPb.st {S : mm_S} {P : CX} {r c : Int} (h : EPb S P r c) (hr : 0 ≤ r ∧ r < 12) (hc : 0 ≤ c ∧ c < 12) {v : Int} (hv : v = Xe P r c) : EPb (mm_up S 75 (576 + 12 * r + c) v) P r (c + 1) := by
  intro i j hi hj
  by_cases e : i = r ∧ j = c
  · obtain ⟨rfl, rfl⟩ := e
    rw [mm_ua, if_pos (by omega), hv]
  · rw [mm_uk (by omega), h i j hi hj]
    exact ifc (by omega) rfl rfl
theorem EPb.row {S : mm_S} {P : CX} {r c : Int} (h : EPb S P r c) (hz : ∀ j, c ≤ j → Xe P r j = 0) : EPb S P (r + 1) 0 := by
  intro i j hi hj
  rw [h i j hi hj]
  by_cases e : i = r
  · subst e
    rw [if_pos (show i < i + 1 ∨ _ by omega)]
    by_cases q : j < c
    · rw [if_pos (by omega)]
    · rw [if_neg (by omega), hz j (by omega)]
  · exact ifc (by omega) rfl rfl
theorem EPb.fr {S S' : mm_S} {P : CX} {r c : Int} (h : EPb S P r c) (e : S' 75 = S 75) : EPb S' P r c := fun i j hi hj => by rw [e]; exact h i j hi hj
def DPa (S : mm_S) (P : CX) (r : Int) : Prop := ∀ i, 0 ≤ i → i < r → S 73 (48 + i) = Xd P i ∧ S 74 (96 + i) = X0 P i ∧ S 74 (108 + i) = X1 P i
theorem DPa.st {S S' : mm_S} {P : CX} {r d l o : Int} (h : DPa S P r) (hr : 0 ≤ r ∧ r < 12) (e : S' = mm_up (mm_up (mm_up S 73 (12 * 4 + r) d) 74 (24 * 4 + r) l) 74 (12 * (2 * 4 + 1) + r) o) (hd : d = Xd P r ∧ l = X0 P r ∧ o = X1 P r) : DPa S' P (r + 1) := by
  intro i h0 h1
  rw [e, mm_unq (by decide), mm_unq (by decide)]
  by_cases q : i = r
  · subst q
    refine ⟨?_, ?_, ?_⟩
    · rw [show 48 + i = 12 * 4 + i by omega, mm_ua]; exact hd.1
    · rw [mm_uk (by omega), show 96 + i = 24 * 4 + i by omega, mm_ua]; exact hd.2.1
    · rw [show 108 + i = 12 * (2 * 4 + 1) + i by omega, mm_ua]; exact hd.2.2
  · rw [mm_uk (by omega), mm_uk (by omega), mm_uk (by omega), mm_unq (by decide), mm_uk (by omega), mm_uk (by omega), mm_unq (by decide)]
    exact h i h0 (by omega)
theorem DPa.fr {S S' : mm_S} {P : CX} {r : Int} (h : DPa S P r) (e : S' 73 = S 73) (e' : S' 74 = S 74) : DPa S' P r := fun i h0 h1 => by rw [e, e']; exact h i h0 h1
theorem EPb.z {S : mm_S} {P : CX} (h : MR S 4 Xz) : EPb S P 0 0 := fun i j hi hj => by
  rw [if_neg (by omega)]
  exact h.1.e hi hj
theorem EPb.fin {S : mm_S} {P : CX} {r : Int} (h : EPb S P r 0) (hd : DPa S P r) (hr : r = Xn P) (hz : Nz P) : MR (mm_up S 72 4 r) 4 P := by
  refine ⟨⟨hz, fun x p q => ?_, fun x y p q r' t => ?_⟩, by rw [mm_ua]; exact hr⟩
  · rw [mm_unq (by decide), mm_unq (by decide)]
    exact hd x p (by omega)
  · rw [mm_unq (by decide)]
    show S 75 (576 + 12 * x + y) = _
    rw [h x y ⟨p, q⟩ ⟨r', t⟩]
    by_cases e : x < r
    · rw [if_pos (by omega)]
    · rw [if_neg (by omega), hz.e (by omega)]

set_option maxRecDepth 20000 in
set_option maxHeartbeats 4000000 in
theorem c_M_part (S : mm_S) (A : mm_A) (hRR : RR S A) (hV : Vs A) (c w l t : Int) : Cl 97 [(2, 71), (0, c), (0, w), (0, l), (0, t)] S (fun vv S' => vv = some (0, (Q_part A c w l t).1) ∧ RR S' (Q_part A c w l t).2 ∧ ∀ b, ¬ (71 ≤ b ∧ b < 91) → S' b = S b) := by
  refine ⟨Nat.le_of_ble_eq_true rfl, ?_⟩
  show Rn k_M_part 0 [(2, 71), (0, c), (0, w), (0, l), (0, t), (9, 0), (9, 0), (9, 0), (9, 0)] [] S _
  refine R_lo (nx := 1) rfl rfl rfl rfl ?_
  refine R_call1 (nx := 4) (as := [(0, c)]) (rest := []) rfl rfl (fun _ _ => rfl) rfl rfl rfl rfl rfl rfl rfl rfl (Cl.mono (c_M_isComplex S c) ?_)
  rintro _ _ (⟨rfl, b1, rfl⟩ | ⟨rfl, b1, rfl⟩)
  ·
    try have k0 := hRR.k b1.1 b1.2
    try have v0 := hV.1 _ b1.1 b1.2
    try have r0 := v0.2.1
    try have z0 := k0.1.nr
    try have hP := Xpart_ok z0 w l
    try have hrn := rkx_b (AK A c) w l z0.1
    refine ⟨_, rfl, ?_⟩
    refine R_ifF (nx := 7) rfl rfl rfl ?_
    refine R_lo (nx := 8) rfl rfl rfl rfl ?_
    refine R_op (nx := 9) rfl rfl rfl ?_
    refine R_op (nx := 10) rfl rfl rfl ?_
    refine R_call1 (nx := 13) (as := [(0, w), (0, 0), (0, 1)]) (rest := []) rfl rfl (fun _ _ => rfl) rfl rfl rfl rfl rfl rfl rfl rfl (Cl.mono (c_M_in S w 0 1) ?_)
    rintro _ _ (⟨rfl, b10, rfl⟩ | ⟨rfl, b10, rfl⟩)
    ·
      first | replace b10 := (show w = 0 ∨ w = 1 by omega) | replace b10 := (show ¬ (w = 0 ∨ w = 1) by omega)
      refine ⟨_, rfl, ?_⟩
      refine R_ifF (nx := 16) rfl rfl rfl ?_
      refine R_lo (nx := 17) rfl rfl rfl rfl ?_
      refine R_op (nx := 18) rfl rfl rfl ?_
      refine R_op (nx := 20) rfl rfl rfl ?_
      refine R_call1 (nx := 23) (as := [(0, l), (0, 0), (0, 9)]) (rest := []) rfl rfl (fun _ _ => rfl) rfl rfl rfl rfl rfl rfl rfl rfl (Cl.mono (c_M_in S l 0 9) ?_)
      rintro _ _ (⟨rfl, b20, rfl⟩ | ⟨rfl, b20, rfl⟩)
      ·
        refine ⟨_, rfl, ?_⟩
        refine R_ifF (nx := 26) rfl rfl rfl ?_
        refine R_lo (nx := 28) rfl rfl rfl rfl ?_
        refine R_call1 (nx := 31) (as := [(0, t)]) (rest := []) rfl rfl (fun _ _ => rfl) rfl rfl rfl rfl rfl rfl rfl rfl (Cl.mono (c_M_isComplex S t) ?_)
        rintro _ _ (⟨rfl, b28, rfl⟩ | ⟨rfl, b28, rfl⟩)
        ·
          refine ⟨_, rfl, ?_⟩
          refine R_ifT (tg := 36) rfl rfl rfl ?_
          refine R_lo (nx := 37) rfl rfl rfl rfl ?_
          refine R_op (nx := 38) rfl rfl rfl ?_
          refine R_call0 (nx := 41) (as := [(2, 71), (0, 4)]) (rest := []) rfl rfl (fun _ _ => rfl) rfl rfl rfl rfl rfl rfl rfl rfl (Cl.mono (c_M_empties S 4 (by omega)) ?_)
          rintro _ S38 ⟨rfl, m38, o38, f38⟩
          refine ⟨rfl, ?_⟩
          refine R_op (nx := 42) rfl rfl rfl ?_
          refine R_lo (nx := 44) (ls' := [(2, 71), (0, c), (0, w), (0, l), (0, t), (0, 0), (9, 0), (9, 0), (9, 0)]) rfl rfl rfl rfl ?_
          refine R_op (nx := 45) rfl rfl rfl ?_
          refine R_lo (nx := 47) (ls' := [(2, 71), (0, c), (0, w), (0, l), (0, t), (0, 0), (0, 0), (9, 0), (9, 0)]) rfl rfl rfl rfl ?_
          have L47 : ∀ (f47 : Nat) (S1 : mm_S) (i : Int) (x : Int), (Xn (AK A c) - x).toNat < f47 → (0 ≤ x ∧ x ≤ Xn (AK A c)) → (i = rkx (AK A c) w l x) → (EPb S1 (Xpart (AK A c) w l) i 0) → (DPa S1 (Xpart (AK A c) w l) i) → (Oth S S1 4) → (∀ b, ¬ (72 ≤ b ∧ b ≤ 75) → S1 b = S b) → Rn k_M_part 47 [(2, 71), (0, c), (0, w), (0, l), (0, t), (0, i), (0, x), (9, 0), (9, 0)] [] S1 (fun vv S' => vv = some (0, (Q_part A c w l t).1) ∧ RR S' (Q_part A c w l t).2 ∧ ∀ b, ¬ (71 ≤ b ∧ b < 91) → S' b = S b) := by
            intro f47
            induction f47 with
            | zero => intro S1 i x hm47; exact absurd hm47 (Nat.not_lt_zero _)
            | succ f47 ih47 =>
              intro S1 i x hm47 hx hi hE hD hO hF
              have k1 := hO c _ (by omega) (by omega) (by omega) k0
              have n1 := k1.n
              have hrb := rkx_b (AK A c) w l hx.1
              refine R_lo (nx := 49) rfl rfl rfl rfl ?_
              refine R_lo (nx := 50) rfl rfl rfl rfl ?_
              refine R_get (nx := 53) (w := (2, 72)) rfl rfl rfl rfl ?_
              refine R_lo (nx := 54) rfl rfl rfl rfl ?_
              refine R_iald (nx := 55) rfl rfl (mm_el_ok 1 5 (by decide) rfl (by decide) (by omega) (by omega)) ?_
              refine R_icmp (nx := 58) (tg := 173) rfl rfl rfl (mm_cnd_ge _ _) (fun c55 => ?_) (fun c55 => ?_)
              ·
                refine R_lo (nx := 174) rfl rfl rfl rfl ?_
                refine R_get (nx := 177) (w := (2, 72)) rfl rfl rfl rfl ?_
                refine R_op (nx := 178) rfl rfl rfl ?_
                refine R_lo (nx := 180) rfl rfl rfl rfl ?_
                refine R_iast (nx := 181) rfl rfl rfl ?_
                have ei : i = Xn (Xpart (AK A c) w l) := by rw [hP.2.1, hi, show x = Xn (AK A c) by omega]
                have mf := hE.fin hD ei hP.1
                have ev : rkx (AK A c) w l (Xn (AK A c)) = i := by rw [ei]; rfl
                refine R_lo (nx := 182) rfl rfl rfl rfl ?_
                refine R_op (nx := 183) rfl rfl rfl ?_
                refine R_lo (nx := 185) rfl rfl rfl rfl ?_
                refine R_call0 (nx := 188) (as := [(2, 71), (0, 4), (0, t)]) (rest := []) rfl rfl (fun _ _ => rfl) rfl rfl rfl rfl rfl rfl rfl rfl (Cl.mono (c_M_copies (mm_up S1 72 4 i) 4 t (by omega) (by omega) (by omega) (Xpart (AK A c) w l) mf) ?_)
                rintro _ S185 ⟨rfl, m185, o185, f185⟩
                refine ⟨rfl, ?_⟩
                refine R_lo (nx := 190) rfl rfl rfl rfl ?_
                refine R_ret rfl (fun _ _ => rfl) rfl rfl ?_
                rw [show Q_part A c w l t = (i, Akc A t (Xpart (AK A c) w l)) from by simp only [Q_part, ev, b1, b10, b20, b28, c55, ifm, ifp, iffq, ↓reduceIte, ite_self, and_self, and_true, true_and, and_false, false_and, or_true, true_or, or_false, false_or, or_self, not_true_eq_false, not_false_eq_true, ne_eq]]; exact ⟨rfl, (hRR.o4 (hO.u72 _) (R71.of (by rw [mm_unq (by omega), hF 71 (by omega)])) fun b hb => by rw [mm_unq (by omega), hF b (by omega)]).kc m185 o185 (R71.of (f185 71 (by omega))) fun b hb => f185 b (by omega), fun b hb => by rw [f185 b (by omega), mm_unq (by omega), hF b (by omega)]⟩
              ·
                refine R_lo (nx := 59) rfl rfl rfl rfl ?_
                refine R_lo (nx := 60) rfl rfl rfl rfl ?_
                refine R_lo (nx := 61) rfl rfl rfl rfl ?_
                refine R_lo (nx := 63) rfl rfl rfl rfl ?_
                refine R_call1 (nx := 66) (as := [(2, 71), (0, c), (0, w), (0, x)]) (rest := []) rfl rfl (fun _ _ => rfl) rfl rfl rfl rfl rfl rfl rfl rfl (Cl.mono (c_M_level S1 c (by omega) (AK A c) (show MRr S1 c (AK A c) by first | assumption | exact MR.r (by assumption) | exact MRr.up (by assumption) (by omega) | exact MRr.up (MR.r (by assumption)) (by omega) | exact MRr.up (MRr.up (MR.r (by assumption)) (by omega)) (by omega)) w x (by omega) (by omega)) ?_)
                rintro _ _ ⟨rfl, rfl⟩
                refine ⟨_, rfl, ?_⟩
                refine R_lo (nx := 67) rfl rfl rfl rfl ?_
                refine R_icmp (nx := 70) (tg := 167) rfl rfl rfl (mm_cnd_gt _ _) (fun c67 => ?_) (fun c67 => ?_)
                ·
                  refine R_iinc (nx := 170) (z := (x + 1)) (ls' := [(2, 71), (0, c), (0, w), (0, l), (0, t), (0, i), (0, (x + 1)), (9, 0), (9, 0)]) rfl rfl rfl rfl ⟨by omega, by omega⟩ rfl ?_
                  refine R_op (nx := 173) (pc' := 47) rfl rfl rfl ?_
                  refine Rn.weak (ls' := [(2, 71), (0, c), (0, w), (0, l), (0, t), (0, i), (0, (x + 1)), (9, 0), (9, 0)]) ⟨Or.inl rfl, ⟨Or.inl rfl, ⟨Or.inl rfl, ⟨Or.inl rfl, ⟨Or.inl rfl, ⟨Or.inl rfl, ⟨Or.inl rfl, ⟨Or.inl rfl, ⟨Or.inl rfl, trivial⟩⟩⟩⟩⟩⟩⟩⟩⟩ ?_
                  refine ih47 (S1) (i) ((x + 1)) ?_ ?_ ?_ ?_ ?_ ?_ ?_
                  · omega
                  · omega
                  · first | (rw [rkx_n hx.1 (by omega)]; exact hi) | (rw [rkx_y hx.1 (by omega), hi])
                  · first | exact hE | exact gE.row (fun jj hjj => hP.1.e (by rw [hP.2.1]; have e : y = Xn (AK A c) := (by omega); rw [hj, e] at hjj; omega))
                  · first | exact hD | exact gD
                  · first | exact hO | exact gO
                  · first | exact hF | exact gF
                ·
                  have hcx : Xl (AK A c) w x ≤ l := by omega
                  refine R_lo (nx := 71) rfl rfl rfl rfl ?_
                  refine R_op (nx := 72) rfl rfl rfl ?_
                  refine R_lo (nx := 74) rfl rfl rfl rfl ?_
                  refine R_lo (nx := 75) rfl rfl rfl rfl ?_
                  refine R_lo (nx := 76) rfl rfl rfl rfl ?_
                  refine R_lo (nx := 78) rfl rfl rfl rfl ?_
                  refine R_call1 (nx := 81) (as := [(2, 71), (0, c), (0, x)]) (rest := [(0, i), (0, 4), (2, 71)]) rfl rfl (fun _ _ => rfl) rfl rfl rfl rfl rfl rfl rfl rfl (Cl.mono (c_M_degree S1 c (by omega) (AK A c) (show MRr S1 c (AK A c) by first | assumption | exact MR.r (by assumption) | exact MRr.up (by assumption) (by omega) | exact MRr.up (MR.r (by assumption)) (by omega) | exact MRr.up (MRr.up (MR.r (by assumption)) (by omega)) (by omega)) x (by omega)) ?_)
                  rintro _ _ ⟨rfl, rfl⟩
                  refine ⟨_, rfl, ?_⟩
                  refine R_lo (nx := 82) rfl rfl rfl rfl ?_
                  refine R_lo (nx := 83) rfl rfl rfl rfl ?_
                  refine R_op (nx := 84) rfl rfl rfl ?_
                  refine R_lo (nx := 86) rfl rfl rfl rfl ?_
                  refine R_call1 (nx := 89) (as := [(2, 71), (0, c), (0, 0), (0, x)]) (rest := [(0, (Xd (AK A c) x)), (0, i), (0, 4), (2, 71)]) rfl rfl (fun _ _ => rfl) rfl rfl rfl rfl rfl rfl rfl rfl (Cl.mono (c_M_level S1 c (by omega) (AK A c) (show MRr S1 c (AK A c) by first | assumption | exact MR.r (by assumption) | exact MRr.up (by assumption) (by omega) | exact MRr.up (MR.r (by assumption)) (by omega) | exact MRr.up (MRr.up (MR.r (by assumption)) (by omega)) (by omega)) 0 x (by omega) (by omega)) ?_)
                  rintro _ _ ⟨rfl, rfl⟩
                  refine ⟨_, rfl, ?_⟩
                  refine R_lo (nx := 90) rfl rfl rfl rfl ?_
                  refine R_lo (nx := 91) rfl rfl rfl rfl ?_
                  refine R_op (nx := 92) rfl rfl rfl ?_
                  refine R_lo (nx := 94) rfl rfl rfl rfl ?_
                  refine R_call1 (nx := 97) (as := [(2, 71), (0, c), (0, 1), (0, x)]) (rest := [(0, (Xl (AK A c) 0 x)), (0, (Xd (AK A c) x)), (0, i), (0, 4), (2, 71)]) rfl rfl (fun _ _ => rfl) rfl rfl rfl rfl rfl rfl rfl rfl (Cl.mono (c_M_level S1 c (by omega) (AK A c) (show MRr S1 c (AK A c) by first | assumption | exact MR.r (by assumption) | exact MRr.up (by assumption) (by omega) | exact MRr.up (MR.r (by assumption)) (by omega) | exact MRr.up (MRr.up (MR.r (by assumption)) (by omega)) (by omega)) 1 x (by omega) (by omega)) ?_)
                  rintro _ _ ⟨rfl, rfl⟩
                  refine ⟨_, rfl, ?_⟩
                  refine R_call0 (nx := 100) (as := [(2, 71), (0, 4), (0, i), (0, (Xd (AK A c) x)), (0, (Xl (AK A c) 0 x)), (0, (Xl (AK A c) 1 x))]) (rest := []) rfl rfl (fun _ _ => rfl) rfl rfl rfl rfl rfl rfl rfl rfl (Cl.mono (c_M_sets S1 4 i (Xd (AK A c) x) (Xl (AK A c) 0 x) (Xl (AK A c) 1 x) (by omega) (by omega)) ?_)
                  rintro _ S97 ⟨rfl, e97⟩
                  have hrl := rkx_lt (K := AK A c) (w := w) (l := l) hx.1 (show x < Xn (AK A c) by omega) (by omega)
                  refine ⟨rfl, ?_⟩
                  refine R_op (nx := 101) rfl rfl rfl ?_
                  refine R_lo (nx := 103) (ls' := [(2, 71), (0, c), (0, w), (0, l), (0, t), (0, i), (0, x), (0, 0), (9, 0)]) rfl rfl rfl rfl ?_
                  refine R_op (nx := 104) rfl rfl rfl ?_
                  refine R_lo (nx := 106) (ls' := [(2, 71), (0, c), (0, w), (0, l), (0, t), (0, i), (0, x), (0, 0), (0, 0)]) rfl rfl rfl rfl ?_
                  have L106 : ∀ (f106 : Nat) (S2 : mm_S) (j : Int) (y : Int), (Xn (AK A c) - y).toNat < f106 → (0 ≤ y ∧ y ≤ Xn (AK A c)) → (j = rkx (AK A c) w l y) → (EPb S2 (Xpart (AK A c) w l) i j) → (DPa S2 (Xpart (AK A c) w l) (i + 1)) → (Oth S S2 4) → (∀ b, ¬ (72 ≤ b ∧ b ≤ 75) → S2 b = S b) → Rn k_M_part 106 [(2, 71), (0, c), (0, w), (0, l), (0, t), (0, i), (0, x), (0, j), (0, y)] [] S2 (fun vv S' => vv = some (0, (Q_part A c w l t).1) ∧ RR S' (Q_part A c w l t).2 ∧ ∀ b, ¬ (71 ≤ b ∧ b < 91) → S' b = S b) := by
                    intro f106
                    induction f106 with
                    | zero => intro S2 j y hm106; exact absurd hm106 (Nat.not_lt_zero _)
                    | succ f106 ih106 =>
                      intro S2 j y hm106 hy hj gE gD gO gF
                      have k1 := gO c _ (by omega) (by omega) (by omega) k0
                      have n1 := k1.n
                      have hrb2 := rkx_b (AK A c) w l hy.1
                      have hxx : 0 ≤ x ∧ x < Xn (AK A c) := by omega
                      have hrl := rkx_lt (K := AK A c) (w := w) (l := l) hxx.1 hxx.2 hcx
                      refine R_lo (nx := 108) rfl rfl rfl rfl ?_
                      refine R_lo (nx := 109) rfl rfl rfl rfl ?_
                      refine R_get (nx := 112) (w := (2, 72)) rfl rfl rfl rfl ?_
                      refine R_lo (nx := 113) rfl rfl rfl rfl ?_
                      refine R_iald (nx := 114) rfl rfl (mm_el_ok 1 5 (by decide) rfl (by decide) (by omega) (by omega)) ?_
                      refine R_icmp (nx := 117) (tg := 164) rfl rfl rfl (mm_cnd_ge _ _) (fun c114 => ?_) (fun c114 => ?_)
                      ·
                        refine R_iinc (nx := 167) (z := (i + 1)) (ls' := [(2, 71), (0, c), (0, w), (0, l), (0, t), (0, (i + 1)), (0, x), (0, j), (0, y)]) rfl rfl rfl rfl ⟨by omega, by omega⟩ rfl ?_
                        refine R_iinc (nx := 170) (z := (x + 1)) (ls' := [(2, 71), (0, c), (0, w), (0, l), (0, t), (0, (i + 1)), (0, (x + 1)), (0, j), (0, y)]) rfl rfl rfl rfl ⟨by omega, by omega⟩ rfl ?_
                        refine R_op (nx := 173) (pc' := 47) rfl rfl rfl ?_
                        refine Rn.weak (ls' := [(2, 71), (0, c), (0, w), (0, l), (0, t), (0, (i + 1)), (0, (x + 1)), (9, 0), (9, 0)]) ⟨Or.inl rfl, ⟨Or.inl rfl, ⟨Or.inl rfl, ⟨Or.inl rfl, ⟨Or.inl rfl, ⟨Or.inl rfl, ⟨Or.inl rfl, ⟨Or.inr rfl, ⟨Or.inr rfl, trivial⟩⟩⟩⟩⟩⟩⟩⟩⟩ ?_
                        refine ih47 (S2) ((i + 1)) ((x + 1)) ?_ ?_ ?_ ?_ ?_ ?_ ?_
                        · omega
                        · omega
                        · first | (rw [rkx_n hx.1 (by omega)]; exact hi) | (rw [rkx_y hx.1 (by omega), hi])
                        · first | exact hE | exact gE.row (fun jj hjj => hP.1.e (by rw [hP.2.1]; have e : y = Xn (AK A c) := (by omega); rw [hj, e] at hjj; omega))
                        · first | exact hD | exact gD
                        · first | exact hO | exact gO
                        · first | exact hF | exact gF
                      ·
                        refine R_lo (nx := 118) rfl rfl rfl rfl ?_
                        refine R_lo (nx := 119) rfl rfl rfl rfl ?_
                        refine R_lo (nx := 120) rfl rfl rfl rfl ?_
                        refine R_lo (nx := 122) rfl rfl rfl rfl ?_
                        refine R_call1 (nx := 125) (as := [(2, 71), (0, c), (0, w), (0, y)]) (rest := []) rfl rfl (fun _ _ => rfl) rfl rfl rfl rfl rfl rfl rfl rfl (Cl.mono (c_M_level S2 c (by omega) (AK A c) (show MRr S2 c (AK A c) by first | assumption | exact MR.r (by assumption) | exact MRr.up (by assumption) (by omega) | exact MRr.up (MR.r (by assumption)) (by omega) | exact MRr.up (MRr.up (MR.r (by assumption)) (by omega)) (by omega)) w y (by omega) (by omega)) ?_)
                        rintro _ _ ⟨rfl, rfl⟩
                        refine ⟨_, rfl, ?_⟩
                        refine R_lo (nx := 126) rfl rfl rfl rfl ?_
                        refine R_icmp (nx := 129) (tg := 158) rfl rfl rfl (mm_cnd_gt _ _) (fun c126 => ?_) (fun c126 => ?_)
                        ·
                          refine R_iinc (nx := 161) (z := (y + 1)) (ls' := [(2, 71), (0, c), (0, w), (0, l), (0, t), (0, i), (0, x), (0, j), (0, (y + 1))]) rfl rfl rfl rfl ⟨by omega, by omega⟩ rfl ?_
                          refine R_op (nx := 164) (pc' := 106) rfl rfl rfl ?_
                          refine Rn.weak (ls' := [(2, 71), (0, c), (0, w), (0, l), (0, t), (0, i), (0, x), (0, j), (0, (y + 1))]) ⟨Or.inl rfl, ⟨Or.inl rfl, ⟨Or.inl rfl, ⟨Or.inl rfl, ⟨Or.inl rfl, ⟨Or.inl rfl, ⟨Or.inl rfl, ⟨Or.inl rfl, ⟨Or.inl rfl, trivial⟩⟩⟩⟩⟩⟩⟩⟩⟩ ?_
                          refine ih106 (S2) (j) ((y + 1)) ?_ ?_ ?_ ?_ ?_ ?_ ?_
                          · omega
                          · omega
                          · first | (rw [rkx_n hy.1 (by omega)]; exact hj) | (rw [rkx_y hy.1 (by omega), hj])
                          · first | exact gE | exact gE.st (by omega) (by omega) (by rw [hi, hj]; exact (hP.2.2.2 x y hxx (by omega) hcx (by omega)).symm)
                          · first | exact gD | exact gD.fr (mm_unq (by decide)) (mm_unq (by decide))
                          · first | exact gO | exact gO.u75 _ (by omega)
                          · first | exact gF | (intro b hb; rw [mm_unq (by omega)]; exact gF b hb)
                        ·
                          refine R_lo (nx := 130) rfl rfl rfl rfl ?_
                          refine R_get (nx := 133) (w := (2, 75)) rfl rfl rfl rfl ?_
                          refine R_op (nx := 136) rfl rfl rfl ?_
                          refine R_op (nx := 138) rfl rfl rfl ?_
                          refine R_lo (nx := 140) rfl rfl rfl rfl ?_
                          refine R_imul (nx := 141) (z := (12 * i)) rfl rfl rfl ⟨by omega, by omega⟩ ?_
                          refine R_iadd (nx := 142) (z := (576 + (12 * i))) rfl rfl rfl ⟨by omega, by omega⟩ ?_
                          refine R_lo (nx := 144) rfl rfl rfl rfl ?_
                          refine R_iadd (nx := 145) (z := ((576 + (12 * i)) + j)) rfl rfl rfl ⟨by omega, by omega⟩ ?_
                          refine R_lo (nx := 146) rfl rfl rfl rfl ?_
                          refine R_lo (nx := 147) rfl rfl rfl rfl ?_
                          refine R_lo (nx := 149) rfl rfl rfl rfl ?_
                          refine R_lo (nx := 151) rfl rfl rfl rfl ?_
                          refine R_call1 (nx := 154) (as := [(2, 71), (0, c), (0, x), (0, y)]) (rest := [(0, ((576 + (12 * i)) + j)), (2, 75)]) rfl rfl (fun _ _ => rfl) rfl rfl rfl rfl rfl rfl rfl rfl (Cl.mono (c_M_edge S2 c (by omega) (AK A c) (show MRr S2 c (AK A c) by first | assumption | exact MR.r (by assumption) | exact MRr.up (by assumption) (by omega) | exact MRr.up (MR.r (by assumption)) (by omega) | exact MRr.up (MRr.up (MR.r (by assumption)) (by omega)) (by omega)) x y (by omega) (by omega)) ?_)
                          rintro _ _ ⟨rfl, rfl⟩
                          refine ⟨_, rfl, ?_⟩
                          refine R_iast (nx := 155) rfl rfl (mm_el_ok 1 720 (by decide) rfl (by decide) (by omega) (by omega)) ?_
                          refine R_iinc (nx := 158) (z := (j + 1)) (ls' := [(2, 71), (0, c), (0, w), (0, l), (0, t), (0, i), (0, x), (0, (j + 1)), (0, y)]) rfl rfl rfl rfl ⟨by omega, by omega⟩ rfl ?_
                          refine R_iinc (nx := 161) (z := (y + 1)) (ls' := [(2, 71), (0, c), (0, w), (0, l), (0, t), (0, i), (0, x), (0, (j + 1)), (0, (y + 1))]) rfl rfl rfl rfl ⟨by omega, by omega⟩ rfl ?_
                          refine R_op (nx := 164) (pc' := 106) rfl rfl rfl ?_
                          refine Rn.weak (ls' := [(2, 71), (0, c), (0, w), (0, l), (0, t), (0, i), (0, x), (0, (j + 1)), (0, (y + 1))]) ⟨Or.inl rfl, ⟨Or.inl rfl, ⟨Or.inl rfl, ⟨Or.inl rfl, ⟨Or.inl rfl, ⟨Or.inl rfl, ⟨Or.inl rfl, ⟨Or.inl rfl, ⟨Or.inl rfl, trivial⟩⟩⟩⟩⟩⟩⟩⟩⟩ ?_
                          refine ih106 ((mm_up S2 75 ((576 + (12 * i)) + j) (Xe (AK A c) x y))) ((j + 1)) ((y + 1)) ?_ ?_ ?_ ?_ ?_ ?_ ?_
                          · omega
                          · omega
                          · first | (rw [rkx_n hy.1 (by omega)]; exact hj) | (rw [rkx_y hy.1 (by omega), hj])
                          · first | exact gE | exact gE.st (by omega) (by omega) (by rw [hi, hj]; exact (hP.2.2.2 x y hxx (by omega) hcx (by omega)).symm)
                          · first | exact gD | exact gD.fr (mm_unq (by decide)) (mm_unq (by decide))
                          · first | exact gO | exact gO.u75 _ (by omega)
                          · first | exact gF | (intro b hb; rw [mm_unq (by omega)]; exact gF b hb)
                  refine Rn.weak (ls' := [(2, 71), (0, c), (0, w), (0, l), (0, t), (0, i), (0, x), (0, 0), (0, 0)]) ⟨Or.inl rfl, ⟨Or.inl rfl, ⟨Or.inl rfl, ⟨Or.inl rfl, ⟨Or.inl rfl, ⟨Or.inl rfl, ⟨Or.inl rfl, ⟨Or.inl rfl, ⟨Or.inl rfl, trivial⟩⟩⟩⟩⟩⟩⟩⟩⟩ ?_
                  refine L106 ((Xn (AK A c) - (0)).toNat + 1) (S97) (0) (0) (Nat.lt_succ_self _) ?_ ?_ ?_ ?_ ?_ ?_
                  · omega
                  · rfl
                  · exact hE.fr (by rw [e97, mm_unq (by decide), mm_unq (by decide), mm_unq (by decide)])
                  · refine hD.st (by omega) e97 ?_; rw [hi]; have q := hP.2.2.1 x (by omega) hcx; exact ⟨q.1.symm, q.2.1.symm, q.2.2.symm⟩
                  · rw [e97]; exact hO.sets _ _ _ (by omega) (by omega)
                  · intro b hb; rw [e97, mm_unq (by omega), mm_unq (by omega), mm_unq (by omega)]; exact hF b hb
          refine Rn.weak (ls' := [(2, 71), (0, c), (0, w), (0, l), (0, t), (0, 0), (0, 0), (9, 0), (9, 0)]) ⟨Or.inl rfl, ⟨Or.inl rfl, ⟨Or.inl rfl, ⟨Or.inl rfl, ⟨Or.inl rfl, ⟨Or.inl rfl, ⟨Or.inl rfl, ⟨Or.inl rfl, ⟨Or.inl rfl, trivial⟩⟩⟩⟩⟩⟩⟩⟩⟩ ?_
          refine L47 ((Xn (AK A c) - (0)).toNat + 1) (S38) (0) (0) (Nat.lt_succ_self _) ?_ ?_ ?_ ?_ ?_ ?_
          · omega
          · rfl
          · exact EPb.z m38
          · intro i h0 h1; omega
          · exact o38
          · exact f38
        ·
          refine ⟨_, rfl, ?_⟩
          refine R_ifF (nx := 34) rfl rfl rfl ?_
          refine R_op (nx := 35) rfl rfl rfl ?_
          refine R_ret rfl (fun _ _ => rfl) rfl rfl ?_
          rw [show Q_part A c w l t = ((-1), A) from by simp only [Q_part, b1, b10, b20, b28, ifm, ifp, iffq, ↓reduceIte, ite_self, and_self, and_true, true_and, and_false, false_and, or_true, true_or, or_false, false_or, or_self, not_true_eq_false, not_false_eq_true, ne_eq]]; exact ⟨rfl, hRR, fun b _ => rfl⟩
      ·
        refine ⟨_, rfl, ?_⟩
        refine R_ifT (tg := 34) rfl rfl rfl ?_
        refine R_op (nx := 35) rfl rfl rfl ?_
        refine R_ret rfl (fun _ _ => rfl) rfl rfl ?_
        rw [show Q_part A c w l t = ((-1), A) from by simp only [Q_part, b1, b10, b20, ifm, ifp, iffq, ↓reduceIte, ite_self, and_self, and_true, true_and, and_false, false_and, or_true, true_or, or_false, false_or, or_self, not_true_eq_false, not_false_eq_true, ne_eq]]; exact ⟨rfl, hRR, fun b _ => rfl⟩
    ·
      first | replace b10 := (show w = 0 ∨ w = 1 by omega) | replace b10 := (show ¬ (w = 0 ∨ w = 1) by omega)
      refine ⟨_, rfl, ?_⟩
      refine R_ifT (tg := 34) rfl rfl rfl ?_
      refine R_op (nx := 35) rfl rfl rfl ?_
      refine R_ret rfl (fun _ _ => rfl) rfl rfl ?_
      rw [show Q_part A c w l t = ((-1), A) from by simp only [Q_part, b1, b10, ifm, ifp, iffq, ↓reduceIte, ite_self, and_self, and_true, true_and, and_false, false_and, or_true, true_or, or_false, false_or, or_self, not_true_eq_false, not_false_eq_true, ne_eq]]; exact ⟨rfl, hRR, fun b _ => rfl⟩
  ·
    try have k0 := hRR.k b1.1 b1.2
    try have v0 := hV.1 _ b1.1 b1.2
    try have r0 := v0.2.1
    try have z0 := k0.1.nr
    try have hP := Xpart_ok z0 w l
    try have hrn := rkx_b (AK A c) w l z0.1
    refine ⟨_, rfl, ?_⟩
    refine R_ifT (tg := 34) rfl rfl rfl ?_
    refine R_op (nx := 35) rfl rfl rfl ?_
    refine R_ret rfl (fun _ _ => rfl) rfl rfl ?_
    rw [show Q_part A c w l t = ((-1), A) from by simp only [Q_part, b1, ifm, ifp, iffq, ↓reduceIte, ite_self, and_self, and_true, true_and, and_false, false_and, or_true, true_or, or_false, false_or, or_self, not_true_eq_false, not_false_eq_true, ne_eq]]; exact ⟨rfl, hRR, fun b _ => rfl⟩
