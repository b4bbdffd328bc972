/-! The reference's product. -/
theorem Xfit_iff {K K2 : CX} (hR : Rg K) (hR2 : Rg K2) (h0 : 0 ≤ Xn K) (h2 : 0 ≤ Xn K2) : Xfit K K2 ↔ Xn K * Xn K2 ≤ 12 ∧ ∀ x y, (0 ≤ x ∧ x < Xn K) → (0 ≤ y ∧ y < Xn K2) → Xd K x + Xd K2 y ≤ 4 ∧ X0 K x + X0 K2 y ≤ 9 ∧ X1 K x + X1 K2 y ≤ 9 := by
  have key : ∀ (f g : Int → Int) (B : Int), (∀ x, f x ≤ B) → (∀ x, g x ≤ B) → (∀ x, 0 ≤ f x) → (∀ x, 0 ≤ g x) → 0 ≤ B → (mx f (Xn K) + mx g (Xn K2) ≤ B ↔ ∀ x y, (0 ≤ x ∧ x < Xn K) → (0 ≤ y ∧ y < Xn K2) → f x + g y ≤ B) := by
    intro f g B hf hg hf0 hg0 hB
    have mf := mx_b (f := f) (n := Xn K) hB fun i _ _ => hf i
    have mg := mx_b (f := g) (n := Xn K2) hB fun i _ _ => hg i
    constructor
    · intro q x y hx hy
      have a := (mx_le (f := f) (n := Xn K)).mp (Int.le_refl _)
      have b := (mx_le (f := g) (n := Xn K2)).mp (Int.le_refl _)
      have := a.2 x hx.1 hx.2
      have := b.2 y hy.1 hy.2
      omega
    · intro q
      have : mx g (Xn K2) ≤ B - mx f (Xn K) := mx_le.mpr ⟨by omega, fun y a b => by
        have : mx f (Xn K) ≤ B - g y := mx_le.mpr ⟨by have := hg y; omega, fun x c d => by have := q x y ⟨c, d⟩ ⟨a, b⟩; omega⟩
        omega⟩
      omega
  have k1 := key (Xd K) (Xd K2) 4 (fun x => (hR.d x).2) (fun x => (hR2.d x).2) (fun x => (hR.d x).1) (fun x => (hR2.d x).1) (by decide)
  have k2 := key (Xl K 0) (Xl K2 0) 9 (fun x => (hR.l 0 x).2) (fun x => (hR2.l 0 x).2) (fun x => (hR.l 0 x).1) (fun x => (hR2.l 0 x).1) (by decide)
  have k3 := key (Xl K 1) (Xl K2 1) 9 (fun x => (hR.l 1 x).2) (fun x => (hR2.l 1 x).2) (fun x => (hR.l 1 x).1) (fun x => (hR2.l 1 x).1) (by decide)
  unfold Xfit
  rw [k1, k2, k3]
  exact ⟨fun q => ⟨q.1, fun x y hx hy => ⟨q.2.1 x y hx hy, q.2.2.1 x y hx hy, q.2.2.2 x y hx hy⟩⟩, fun q => ⟨q.1, fun x y hx hy => (q.2 x y hx hy).1, fun x y hx hy => (q.2 x y hx hy).2.1, fun x y hx hy => (q.2 x y hx hy).2.2⟩⟩
def Gd (K K2 : CX) (x y : Int) : Prop := ∀ x1 y1, (0 ≤ x1 ∧ x1 < Xn K) → (0 ≤ y1 ∧ y1 < Xn K2) → (x1 < x ∨ (x1 = x ∧ y1 < y)) → Xd K x1 + Xd K2 y1 ≤ 4 ∧ X0 K x1 + X0 K2 y1 ≤ 9 ∧ X1 K x1 + X1 K2 y1 ≤ 9
def FT (K K2 : CX) (ft x y : Int) : Prop := (ft = 1 ∧ Xn K * Xn K2 ≤ 12 ∧ Gd K K2 x y) ∨ (ft = 0 ∧ ¬ Xfit K K2)
theorem FT.row {K K2 : CX} {ft x y : Int} (h : FT K K2 ft x y) (hy : y = Xn K2) : FT K K2 ft (x + 1) 0 := by
  rcases h with ⟨a, b, c⟩ | h
  · exact Or.inl ⟨a, b, fun x1 y1 p q r => c x1 y1 p q (by omega)⟩
  · exact Or.inr h
theorem FT.y {K K2 : CX} {x y : Int} {ft : Int} (h : FT K K2 ft x y) (hft : ¬ ft = 0) (h1 : Xd K x + Xd K2 y ≤ 4) (h2 : Xl K 0 x + Xl K2 0 y ≤ 9) (h3 : Xl K 1 x + Xl K2 1 y ≤ 9) : FT K K2 1 x (y + 1) := by
  rcases h with ⟨a, b, c⟩ | h
  · refine Or.inl ⟨rfl, b, fun x1 y1 p q r => ?_⟩
    by_cases e : x1 = x ∧ y1 = y
    · obtain ⟨rfl, rfl⟩ := e
      exact ⟨h1, h2, h3⟩
    · exact c x1 y1 p q (by omega)
  · exact absurd h.1 hft
theorem FT.n {K K2 : CX} {ft x y : Int} (hR : Rg K) (hR2 : Rg K2) (hx : 0 ≤ x ∧ x < Xn K) (hy : 0 ≤ y ∧ y < Xn K2) (h : ft = 0 ∧ FT K K2 ft x y ∨ ¬ Xd K x + Xd K2 y ≤ 4 ∨ ¬ Xl K 0 x + Xl K2 0 y ≤ 9 ∨ ¬ Xl K 1 x + Xl K2 1 y ≤ 9) (x' y' : Int) : FT K K2 0 x' y' := by
  refine Or.inr ⟨rfl, fun q => ?_⟩
  have z := ((Xfit_iff hR hR2 (by omega) (by omega)).mp q).2 x y hx hy
  rcases h with ⟨a, b⟩ | h | h | h
  · rcases b with b | b
    · omega
    · exact b.2 q
  · exact h z.1
  · exact h z.2.1
  · exact h z.2.2
theorem FT.fin {K K2 : CX} {ft x : Int} (hR : Rg K) (hR2 : Rg K2) (h0 : 0 ≤ Xn K) (h2 : 0 ≤ Xn K2) (h : FT K K2 ft x 0) (hx : ¬ x < Xn K ∨ ft = 0) : (¬ ft = 0 ∧ Xfit K K2 ∧ ¬ x < Xn K) ∨ (ft = 0 ∧ ¬ Xfit K K2) := by
  rcases h with ⟨a, b, c⟩ | h
  · refine Or.inl ⟨by omega, (Xfit_iff hR hR2 h0 h2).mpr ⟨b, fun x1 y1 p q => c x1 y1 p q (by omega)⟩, by omega⟩
  · exact Or.inr h
def Rw (K K2 : CX) (x y k k2 j : Int) : Int := if 0 ≤ j ∧ j < Xn K * Xn K2 then (if j % Xn K2 = y ∧ j / Xn K2 < k then Xe K x (j / Xn K2) else 0) + (if j / Xn K2 = x ∧ j % Xn K2 < k2 then Xsg K x * Xe K2 y (j % Xn K2) else 0) else 0
theorem Rw_b {K K2 : CX} (hR : Rg K) (hR2 : Rg K2) (x y k k2 j : Int) : -18 ≤ Rw K K2 x y k k2 j ∧ Rw K K2 x y k k2 j ≤ 18 := by
  unfold Rw
  have a := hR.e x (j / Xn K2)
  have b := hR2.e y (j % Xn K2)
  have c : -9 ≤ Xsg K x * Xe K2 y (j % Xn K2) ∧ Xsg K x * Xe K2 y (j % Xn K2) ≤ 9 := by
    rcases Xsg_c K x with e | e <;> rw [e] <;> omega
  repeat' split
  all_goals omega
def ERw (S : mm_S) (K K2 : CX) (x y k k2 : Int) : Prop := ∀ i j, (0 ≤ i ∧ i < 12) → (0 ≤ j ∧ j < 12) → S 75 (576 + 12 * i + j) = if i < x * Xn K2 + y then Xe (Xprod K K2) i j else if i = x * Xn K2 + y then Rw K K2 x y k k2 j else 0
theorem ERw.st0 {S : mm_S} {K K2 : CX} {x y : Int} (h2 : 0 ≤ Xn K2) (h : EPb S (Xprod K K2) (x * Xn K2 + y) 0) : ERw S K K2 x y 0 0 := by
  intro i j hi hj
  rw [h i j hi hj]
  by_cases e : i < x * Xn K2 + y
  · rw [if_pos (by omega), if_pos e]
  · rw [if_neg (by omega), if_neg e]
    have z : Rw K K2 x y 0 0 j = 0 := by
      unfold Rw
      have a := Int.ediv_nonneg hj.1 h2
      split
      · rename_i q
        have hm : Xn K2 ≠ 0 := fun e => by rw [e, Int.mul_zero] at q; omega
        have b := Int.emod_nonneg j hm
        rw [if_neg (by omega), if_neg (by omega)]; rfl
      · rfl
    rw [z, ite_self]
theorem ERw.rd {S : mm_S} {K K2 : CX} {x y k k2 j : Int} (h : ERw S K K2 x y k k2) (hi : 0 ≤ x * Xn K2 + y ∧ x * Xn K2 + y < 12) (hj : 0 ≤ j ∧ j < 12) : S 75 (576 + 12 * (x * Xn K2 + y) + j) = Rw K K2 x y k k2 j := by
  rw [h _ j hi hj, if_neg (by omega), if_pos rfl]
theorem ERw.up {S : mm_S} {K K2 : CX} {x y k k2 k' k2' j v : Int} (h : ERw S K K2 x y k k2) (hi : 0 ≤ x * Xn K2 + y ∧ x * Xn K2 + y < 12) (hj : 0 ≤ j ∧ j < 12) (hv : v = Rw K K2 x y k' k2' j) (hr : ∀ j', j' ≠ j → Rw K K2 x y k' k2' j' = Rw K K2 x y k k2 j') : ERw (mm_up S 75 (576 + 12 * (x * Xn K2 + y) + j) v) K K2 x y k' k2' := by
  intro i j' hi' hj'
  by_cases e : i = x * Xn K2 + y ∧ j' = j
  · obtain ⟨rfl, rfl⟩ := e
    rw [mm_ua, if_neg (by omega), if_pos rfl, hv]
  · rw [mm_uk (by omega), h i j' hi' hj']
    refine ifc Iff.rfl rfl ?_
    by_cases e2 : i = x * Xn K2 + y
    · rw [if_pos e2, if_pos e2, hr j' (fun q => e ⟨e2, q⟩)]
    · rw [if_neg e2, if_neg e2]
theorem Rw_at {K K2 : CX} {x y k k2 x2 y2 : Int} (h1 : 0 ≤ x2 ∧ x2 < Xn K) (h2 : 0 ≤ y2 ∧ y2 < Xn K2) : Rw K K2 x y k k2 (x2 * Xn K2 + y2) = (if y2 = y ∧ x2 < k then Xe K x x2 else 0) + (if x2 = x ∧ y2 < k2 then Xsg K x * Xe K2 y y2 else 0) := by
  unfold Rw
  obtain ⟨e1, e2⟩ := pdm (x := x2) h2
  rw [if_pos (prng h1 h2), e1, e2]
theorem ERw.a {S : mm_S} {K K2 : CX} {x y k : Int} (h : ERw S K K2 x y k 0) (h12 : Xn K * Xn K2 ≤ 12) (hx : 0 ≤ x ∧ x < Xn K) (hy : 0 ≤ y ∧ y < Xn K2) (hk : 0 ≤ k ∧ k < Xn K) : ERw (mm_up S 75 (576 + 12 * (x * Xn K2 + y) + (k * Xn K2 + y)) (Rw K K2 x y k 0 (k * Xn K2 + y) + Xe K x k)) K K2 x y (k + 1) 0 := by
  have p1 := prng hx hy
  have p2 := prng hk hy
  refine h.up (by omega) (by omega) ?_ fun j' hne => ?_
  · rw [Rw_at hk hy, Rw_at hk hy, if_neg (show ¬ (y = y ∧ k < k) by omega), if_pos (show y = y ∧ k < k + 1 by omega), if_neg (show ¬ (k = x ∧ y < 0) by omega)]; omega
  · by_cases q : 0 ≤ j' ∧ j' < Xn K * Xn K2
    · obtain ⟨x2, y2, a, b, rfl⟩ := pdiv (show 0 ≤ Xn K2 by omega) q
      rw [Rw_at a b, Rw_at a b]
      have : ¬ (y2 = y ∧ x2 = k) := fun e => hne (by rw [e.1, e.2])
      rw [ifc (show (y2 = y ∧ x2 < k + 1) ↔ (y2 = y ∧ x2 < k) by omega) rfl rfl]
    · unfold Rw; rw [if_neg q, if_neg q]
theorem ERw.b {S : mm_S} {K K2 : CX} {x y k v : Int} (h : ERw S K K2 x y (Xn K) k) (h12 : Xn K * Xn K2 ≤ 12) (hx : 0 ≤ x ∧ x < Xn K) (hy : 0 ≤ y ∧ y < Xn K2) (hk : 0 ≤ k ∧ k < Xn K2) (hv : v = Xsg K x * Xe K2 y k) : ERw (mm_up S 75 (576 + 12 * (x * Xn K2 + y) + (x * Xn K2 + k)) (Rw K K2 x y (Xn K) k (x * Xn K2 + k) + v)) K K2 x y (Xn K) (k + 1) := by
  have p1 := prng hx hy
  have p2 := prng hx hk
  refine h.up (by omega) (by omega) ?_ fun j' hne => ?_
  · rw [Rw_at hx hk, Rw_at hx hk, if_neg (show ¬ (x = x ∧ k < k) by omega), if_pos (show x = x ∧ k < k + 1 by omega), hv]; omega
  · by_cases q : 0 ≤ j' ∧ j' < Xn K * Xn K2
    · obtain ⟨x2, y2, a, b, rfl⟩ := pdiv (show 0 ≤ Xn K2 by omega) q
      rw [Rw_at a b, Rw_at a b]
      have : ¬ (x2 = x ∧ y2 = k) := fun e => hne (by rw [e.1, e.2])
      rw [ifc (show (x2 = x ∧ y2 < k + 1) ↔ (x2 = x ∧ y2 < k) by omega) rfl rfl]
    · unfold Rw; rw [if_neg q, if_neg q]
theorem ERw.fin {S : mm_S} {K K2 : CX} {x y : Int} (h : ERw S K K2 x y (Xn K) (Xn K2)) (h12 : Xn K * Xn K2 ≤ 12) (hx : 0 ≤ x ∧ x < Xn K) (hy : 0 ≤ y ∧ y < Xn K2) : EPb S (Xprod K K2) (x * Xn K2 + (y + 1)) 0 := by
  intro i j hi hj
  rw [h i j hi hj]
  have hP := Xprod_ok (show 0 ≤ Xn K by omega) (show 0 ≤ Xn K2 by omega) h12
  by_cases e : i < x * Xn K2 + y
  · rw [if_pos e, if_pos (by omega)]
  · rw [if_neg e]
    by_cases e2 : i = x * Xn K2 + y
    · rw [if_pos e2, if_pos (by omega), e2]
      by_cases q : 0 ≤ j ∧ j < Xn K * Xn K2
      · obtain ⟨x2, y2, a, b, rfl⟩ := pdiv (show 0 ≤ Xn K2 by omega) q
        rw [Rw_at a b, hP.2.2.2 x y x2 y2 hx hy a b]
        unfold Xpe
        rw [ifc (show (y2 = y ∧ x2 < Xn K) ↔ y2 = y by omega) rfl rfl, ifc (show (x2 = x ∧ y2 < Xn K2) ↔ x2 = x by omega) rfl rfl]
      · unfold Rw
        rw [if_neg q]
        exact (hP.1.e (fun z => q (by rw [hP.2.1] at z; exact z.2))).symm
    · rw [if_neg e2, if_neg (by omega)]
theorem ERw.fr {S S' : mm_S} {K K2 : CX} {x y k k2 : Int} (h : ERw S K K2 x y k k2) (e : S' 75 = S 75) : ERw S' K K2 x y k k2 := fun i j hi hj => by rw [e]; exact h i j hi hj
theorem EPb.nx {S : mm_S} {P : CX} {x y m : Int} (h : EPb S P (x * m + y) 0) (hy : y = m) : EPb S P ((x + 1) * m) 0 := by rw [Int.add_mul, Int.one_mul]; rw [hy] at h; exact h
theorem DPa.nx {S : mm_S} {P : CX} {x y m : Int} (h : DPa S P (x * m + y)) (hy : y = m) : DPa S P ((x + 1) * m) := by rw [Int.add_mul, Int.one_mul]; rw [hy] at h; exact h

set_option maxRecDepth 20000 in
set_option maxHeartbeats 16000000 in
theorem c_M_times (S : mm_S) (A : mm_A) (hRR : RR S A) (hV : Vs A) (c o t : Int) : Cl 96 [(2, 71), (0, c), (0, o), (0, t)] S (fun vv S' => vv = some (0, (Q_times A c o t).1) ∧ RR S' (Q_times A c o t).2 ∧ ∀ b, ¬ (71 ≤ b ∧ b < 91) → S' b = S b) := by
  refine ⟨Nat.le_of_ble_eq_true rfl, ?_⟩
  show Rn k_M_times 0 [(2, 71), (0, c), (0, o), (0, t), (9, 0), (9, 0), (9, 0), (9, 0), (9, 0), (9, 0), (9, 0), (9, 0)] [] S _
  refine R_lo (nx := 1) rfl rfl rfl rfl ?_
  refine R_call1 (nx := 4) (as := [(0, c)]) (rest := []) rfl rfl (fun _ _ => rfl) rfl rfl rfl rfl rfl rfl rfl rfl (Cl.mono (c_M_isComplex S c) ?_)
  rintro _ _ (⟨rfl, b1, rfl⟩ | ⟨rfl, b1, rfl⟩)
  ·
    try have k0 := hRR.k b1.1 b1.2
    try have n0 := k0.n
    try have z0 := k0.1.nr
    try have v0 := hV.1 _ b1.1 b1.2
    try have r0 := v0.2.1
    refine ⟨_, rfl, ?_⟩
    refine R_ifF (nx := 7) rfl rfl rfl ?_
    refine R_lo (nx := 8) rfl rfl rfl rfl ?_
    refine R_call1 (nx := 11) (as := [(0, o)]) (rest := []) rfl rfl (fun _ _ => rfl) rfl rfl rfl rfl rfl rfl rfl rfl (Cl.mono (c_M_isComplex S o) ?_)
    rintro _ _ (⟨rfl, b8, rfl⟩ | ⟨rfl, b8, rfl⟩)
    ·
      try have k7 := hRR.k b8.1 b8.2
      try have n7 := k7.n
      try have z7 := k7.1.nr
      try have v7 := hV.1 _ b8.1 b8.2
      try have r7 := v7.2.1
      try have hP := fun h => Xprod_ok (K := AK A c) (K2 := AK A o) z0.1 z7.1 h
      try have hmb := mul_b z0 z7
      try have hdt := fun x => Int.tmod_eq_emod_of_nonneg (b := 2) (r0.d x).1
      refine ⟨_, rfl, ?_⟩
      refine R_ifF (nx := 14) rfl rfl rfl ?_
      refine R_lo (nx := 15) rfl rfl rfl rfl ?_
      refine R_call1 (nx := 18) (as := [(0, t)]) (rest := []) rfl rfl (fun _ _ => rfl) rfl rfl rfl rfl rfl rfl rfl rfl (Cl.mono (c_M_isComplex S t) ?_)
      rintro _ _ (⟨rfl, b15, rfl⟩ | ⟨rfl, b15, rfl⟩)
      ·
        refine ⟨_, rfl, ?_⟩
        refine R_ifT (tg := 23) rfl rfl rfl ?_
        refine R_lo (nx := 24) rfl rfl rfl rfl ?_
        refine R_get (nx := 27) (w := (2, 72)) rfl rfl rfl rfl ?_
        refine R_lo (nx := 28) rfl rfl rfl rfl ?_
        refine R_iald (nx := 29) rfl rfl (mm_el_ok 1 5 (by decide) rfl (by decide) (by omega) (by omega)) ?_
        rw [n7]
        refine R_lo (nx := 31) (ls' := [(2, 71), (0, c), (0, o), (0, t), (0, (Xn (AK A o))), (9, 0), (9, 0), (9, 0), (9, 0), (9, 0), (9, 0), (9, 0)]) rfl rfl rfl rfl ?_
        refine R_lo (nx := 32) rfl rfl rfl rfl ?_
        refine R_get (nx := 35) (w := (2, 72)) rfl rfl rfl rfl ?_
        refine R_lo (nx := 36) rfl rfl rfl rfl ?_
        refine R_iald (nx := 37) rfl rfl (mm_el_ok 1 5 (by decide) rfl (by decide) (by omega) (by omega)) ?_
        rw [n0]
        refine R_lo (nx := 39) rfl rfl rfl rfl ?_
        refine R_imul (nx := 40) (z := ((Xn (AK A c)) * (Xn (AK A o)))) rfl rfl rfl ⟨by omega, by omega⟩ ?_
        refine R_op (nx := 42) rfl rfl rfl ?_
        refine R_icmp (nx := 45) (tg := 49) rfl rfl rfl (mm_cnd_gt _ _) (fun c42 => ?_) (fun c42 => ?_)
        ·
          refine R_op (nx := 50) rfl rfl rfl ?_
          refine R_lo (nx := 52) (ls' := [(2, 71), (0, c), (0, o), (0, t), (0, (Xn (AK A o))), (0, 0), (9, 0), (9, 0), (9, 0), (9, 0), (9, 0), (9, 0)]) rfl rfl rfl rfl ?_
          refine R_lo (nx := 53) rfl rfl rfl rfl ?_
          refine R_op (nx := 54) rfl rfl rfl ?_
          refine R_call0 (nx := 57) (as := [(2, 71), (0, 4)]) (rest := []) rfl rfl (fun _ _ => rfl) rfl rfl rfl rfl rfl rfl rfl rfl (Cl.mono (c_M_empties S 4 (by omega)) ?_)
          rintro _ S54 ⟨rfl, m54, o54, f54⟩
          refine ⟨rfl, ?_⟩
          refine R_op (nx := 58) rfl rfl rfl ?_
          refine R_lo (nx := 60) (ls' := [(2, 71), (0, c), (0, o), (0, t), (0, (Xn (AK A o))), (0, 0), (0, 0), (9, 0), (9, 0), (9, 0), (9, 0), (9, 0)]) rfl rfl rfl rfl ?_
          have L60 : ∀ (f60 : Nat) (S1 : mm_S) (ft : Int) (x : Int), ((Xn (AK A c)) - x).toNat < f60 → (0 ≤ x ∧ x ≤ (Xn (AK A c))) → (FT (AK A c) (AK A o) ft x 0) → (EPb S1 (Xprod (AK A c) (AK A o)) (x * (Xn (AK A o))) 0) → (DPa S1 (Xprod (AK A c) (AK A o)) (x * (Xn (AK A o)))) → (Oth S S1 4) → (∀ b, ¬ (72 ≤ b ∧ b ≤ 75) → S1 b = S b) → Rn k_M_times 60 [(2, 71), (0, c), (0, o), (0, t), (0, (Xn (AK A o))), (0, ft), (0, x), (9, 0), (9, 0), (9, 0), (9, 0), (9, 0)] [] S1 (fun vv S' => vv = some (0, (Q_times A c o t).1) ∧ RR S' (Q_times A c o t).2 ∧ ∀ b, ¬ (71 ≤ b ∧ b < 91) → S' b = S b) := by
            intro f60
            induction f60 with
            | zero => intro S1 ft x hm60; exact absurd hm60 (Nat.not_lt_zero _)
            | succ f60 ih60 =>
              intro S1 ft x hm60 hx hT hE hD hO hF
              have k1 := hO c _ (by omega) (by omega) (by omega) k0
              have n1 := k1.n
              have k8 := hO o _ (by omega) (by omega) (by omega) k7
              refine R_lo (nx := 62) rfl rfl rfl rfl ?_
              refine R_lo (nx := 63) rfl rfl rfl rfl ?_
              refine R_get (nx := 66) (w := (2, 72)) rfl rfl rfl rfl ?_
              refine R_lo (nx := 67) rfl rfl rfl rfl ?_
              refine R_iald (nx := 68) rfl rfl (mm_el_ok 1 5 (by decide) rfl (by decide) (by omega) (by omega)) ?_
              refine R_icmp (nx := 71) (tg := 347) rfl rfl rfl (mm_cnd_ge _ _) (fun c68 => ?_) (fun c68 => ?_)
              ·
                refine R_lo (nx := 349) rfl rfl rfl rfl ?_
                refine R_if (nx := 352) (tg := 355) rfl rfl rfl (mm_cnd_ne _ _) (fun c349 => ?_) (fun c349 => ?_)
                ·
                  have hq := FT.fin r0 r7 z0.1 z7.1 hT (by omega)
                  have hfit : Xfit (AK A c) (AK A o) := by
                    rcases hq with q | q
                    · exact q.2.1
                    · exact absurd q.1 c349
                  have hxe : x = (Xn (AK A c)) := by
                    rcases hq with q | q
                    · omega
                    · exact absurd q.1 c349
                  refine R_lo (nx := 356) rfl rfl rfl rfl ?_
                  refine R_get (nx := 359) (w := (2, 72)) rfl rfl rfl rfl ?_
                  refine R_op (nx := 360) rfl rfl rfl ?_
                  refine R_lo (nx := 361) rfl rfl rfl rfl ?_
                  refine R_get (nx := 364) (w := (2, 72)) rfl rfl rfl rfl ?_
                  refine R_lo (nx := 365) rfl rfl rfl rfl ?_
                  refine R_iald (nx := 366) rfl rfl (mm_el_ok 1 5 (by decide) rfl (by decide) (by omega) (by omega)) ?_
                  rw [n1]
                  refine R_lo (nx := 368) rfl rfl rfl rfl ?_
                  refine R_imul (nx := 369) (z := ((Xn (AK A c)) * (Xn (AK A o)))) rfl rfl rfl ⟨by omega, by omega⟩ ?_
                  refine R_iast (nx := 370) rfl rfl rfl ?_
                  rw [hxe] at hE hD
                  have hPk := hP hfit.1
                  have mf := hE.fin hD rfl hPk.1
                  refine R_lo (nx := 371) rfl rfl rfl rfl ?_
                  refine R_op (nx := 372) rfl rfl rfl ?_
                  refine R_lo (nx := 373) rfl rfl rfl rfl ?_
                  refine R_call0 (nx := 376) (as := [(2, 71), (0, 4), (0, t)]) (rest := []) rfl rfl (fun _ _ => rfl) rfl rfl rfl rfl rfl rfl rfl rfl (Cl.mono (c_M_copies (mm_up S1 72 4 ((Xn (AK A c)) * (Xn (AK A o)))) 4 t (by omega) (by omega) (by omega) (Xprod (AK A c) (AK A o)) mf) ?_)
                  rintro _ S373 ⟨rfl, m373, o373, f373⟩
                  refine ⟨rfl, ?_⟩
                  refine R_lo (nx := 377) rfl rfl rfl rfl ?_
                  refine R_get (nx := 380) (w := (2, 72)) rfl rfl rfl rfl ?_
                  refine R_lo (nx := 381) rfl rfl rfl rfl ?_
                  refine R_iald (nx := 382) rfl rfl (mm_el_ok 1 5 (by decide) rfl (by decide) (by omega) (by omega)) ?_
                  rw [m373.n, show Xn (Xprod (AK A c) (AK A o)) = (Xn (AK A c)) * (Xn (AK A o)) from rfl]
                  refine R_ret rfl (fun _ _ => rfl) rfl rfl ?_
                  rw [show Q_times A c o t = (((Xn (AK A c)) * (Xn (AK A o))), Akc A t (Xprod (AK A c) (AK A o))) from by simp only [Q_times, hfit, b1, b8, b15, c42, c68, c349, ifm, ifp, iffq, ↓reduceIte, ite_self, and_self, and_true, true_and, and_false, false_and, or_true, true_or, or_false, false_or, or_self, not_true_eq_false, not_false_eq_true, ne_eq]]; exact ⟨rfl, (hRR.o4 (hO.u72 _) (R71.of (by rw [mm_unq (by omega), hF 71 (by omega)])) fun b hb => by rw [mm_unq (by omega), hF b (by omega)]).kc m373 o373 (R71.of (f373 71 (by omega))) fun b hb => f373 b (by omega), fun b hb => by rw [f373 b (by omega), mm_unq (by omega), hF b (by omega)]⟩
                ·
                  replace c349 := Classical.not_not.mp c349
                  have hq := FT.fin r0 r7 z0.1 z7.1 hT (by omega)
                  have hnf : ¬ Xfit (AK A c) (AK A o) := by
                    rcases hq with q | q
                    · exact absurd c349 q.1
                    · exact q.2
                  refine R_op (nx := 354) rfl rfl rfl ?_
                  refine R_ret rfl (fun _ _ => rfl) rfl rfl ?_
                  rw [show Q_times A c o t = ((-2), A) from by simp only [Q_times, hnf, b1, b8, b15, c42, c68, c349, ifm, ifp, iffq, ↓reduceIte, ite_self, and_self, and_true, true_and, and_false, false_and, or_true, true_or, or_false, false_or, or_self, not_true_eq_false, not_false_eq_true, ne_eq]]; exact ⟨rfl, hRR.o4 hO (R71.of (hF 71 (by omega))) fun b hb => hF b (by omega), fun b hb => hF b (by omega)⟩
              ·
                refine R_lo (nx := 73) rfl rfl rfl rfl ?_
                refine R_if (nx := 76) (tg := 347) rfl rfl rfl (mm_cnd_eq _ _) (fun c73 => ?_) (fun c73 => ?_)
                ·
                  refine R_lo (nx := 349) rfl rfl rfl rfl ?_
                  refine R_if (nx := 352) (tg := 355) rfl rfl rfl (mm_cnd_ne _ _) (fun c349_1 => ?_) (fun c349_1 => ?_)
                  ·
                    have hq := FT.fin r0 r7 z0.1 z7.1 hT (by omega)
                    have hfit : Xfit (AK A c) (AK A o) := by
                      rcases hq with q | q
                      · exact q.2.1
                      · exact absurd q.1 c349_1
                    have hxe : x = (Xn (AK A c)) := by
                      rcases hq with q | q
                      · omega
                      · exact absurd q.1 c349_1
                    refine R_lo (nx := 356) rfl rfl rfl rfl ?_
                    refine R_get (nx := 359) (w := (2, 72)) rfl rfl rfl rfl ?_
                    refine R_op (nx := 360) rfl rfl rfl ?_
                    refine R_lo (nx := 361) rfl rfl rfl rfl ?_
                    refine R_get (nx := 364) (w := (2, 72)) rfl rfl rfl rfl ?_
                    refine R_lo (nx := 365) rfl rfl rfl rfl ?_
                    refine R_iald (nx := 366) rfl rfl (mm_el_ok 1 5 (by decide) rfl (by decide) (by omega) (by omega)) ?_
                    rw [n1]
                    refine R_lo (nx := 368) rfl rfl rfl rfl ?_
                    refine R_imul (nx := 369) (z := ((Xn (AK A c)) * (Xn (AK A o)))) rfl rfl rfl ⟨by omega, by omega⟩ ?_
                    refine R_iast (nx := 370) rfl rfl rfl ?_
                    rw [hxe] at hE hD
                    have hPk := hP hfit.1
                    have mf := hE.fin hD rfl hPk.1
                    refine R_lo (nx := 371) rfl rfl rfl rfl ?_
                    refine R_op (nx := 372) rfl rfl rfl ?_
                    refine R_lo (nx := 373) rfl rfl rfl rfl ?_
                    refine R_call0 (nx := 376) (as := [(2, 71), (0, 4), (0, t)]) (rest := []) rfl rfl (fun _ _ => rfl) rfl rfl rfl rfl rfl rfl rfl rfl (Cl.mono (c_M_copies (mm_up S1 72 4 ((Xn (AK A c)) * (Xn (AK A o)))) 4 t (by omega) (by omega) (by omega) (Xprod (AK A c) (AK A o)) mf) ?_)
                    rintro _ S373 ⟨rfl, m373, o373, f373⟩
                    refine ⟨rfl, ?_⟩
                    refine R_lo (nx := 377) rfl rfl rfl rfl ?_
                    refine R_get (nx := 380) (w := (2, 72)) rfl rfl rfl rfl ?_
                    refine R_lo (nx := 381) rfl rfl rfl rfl ?_
                    refine R_iald (nx := 382) rfl rfl (mm_el_ok 1 5 (by decide) rfl (by decide) (by omega) (by omega)) ?_
                    rw [m373.n, show Xn (Xprod (AK A c) (AK A o)) = (Xn (AK A c)) * (Xn (AK A o)) from rfl]
                    refine R_ret rfl (fun _ _ => rfl) rfl rfl ?_
                    rw [show Q_times A c o t = (((Xn (AK A c)) * (Xn (AK A o))), Akc A t (Xprod (AK A c) (AK A o))) from by simp only [Q_times, hfit, b1, b8, b15, c42, c68, c73, c349_1, ifm, ifp, iffq, ↓reduceIte, ite_self, and_self, and_true, true_and, and_false, false_and, or_true, true_or, or_false, false_or, or_self, not_true_eq_false, not_false_eq_true, ne_eq]]; exact ⟨rfl, (hRR.o4 (hO.u72 _) (R71.of (by rw [mm_unq (by omega), hF 71 (by omega)])) fun b hb => by rw [mm_unq (by omega), hF b (by omega)]).kc m373 o373 (R71.of (f373 71 (by omega))) fun b hb => f373 b (by omega), fun b hb => by rw [f373 b (by omega), mm_unq (by omega), hF b (by omega)]⟩
                  ·
                    replace c349_1 := Classical.not_not.mp c349_1
                    have hq := FT.fin r0 r7 z0.1 z7.1 hT (by omega)
                    have hnf : ¬ Xfit (AK A c) (AK A o) := by
                      rcases hq with q | q
                      · exact absurd c349_1 q.1
                      · exact q.2
                    refine R_op (nx := 354) rfl rfl rfl ?_
                    refine R_ret rfl (fun _ _ => rfl) rfl rfl ?_
                    rw [show Q_times A c o t = ((-2), A) from by simp only [Q_times, hnf, b1, b8, b15, c42, c68, c73, c349_1, ifm, ifp, iffq, ↓reduceIte, ite_self, and_self, and_true, true_and, and_false, false_and, or_true, true_or, or_false, false_or, or_self, not_true_eq_false, not_false_eq_true, ne_eq]]; exact ⟨rfl, hRR.o4 hO (R71.of (hF 71 (by omega))) fun b hb => hF b (by omega), fun b hb => hF b (by omega)⟩
                ·
                  have hxx : 0 ≤ x ∧ x < (Xn (AK A c)) := by omega
                  have h12 : (Xn (AK A c)) * (Xn (AK A o)) ≤ 12 := by
                    rcases hT with q | q
                    · exact q.2.1
                    · exact absurd q.1 c73
                  refine R_op (nx := 77) rfl rfl rfl ?_
                  refine R_lo (nx := 79) (ls' := [(2, 71), (0, c), (0, o), (0, t), (0, (Xn (AK A o))), (0, ft), (0, x), (0, 0), (9, 0), (9, 0), (9, 0), (9, 0)]) rfl rfl rfl rfl ?_
                  have L79 : ∀ (f79 : Nat) (S2 : mm_S) (fu : Int) (y : Int), ((Xn (AK A o)) - y).toNat < f79 → (0 ≤ y ∧ y ≤ (Xn (AK A o))) → (FT (AK A c) (AK A o) fu x y) → (EPb S2 (Xprod (AK A c) (AK A o)) (x * (Xn (AK A o)) + y) 0) → (DPa S2 (Xprod (AK A c) (AK A o)) (x * (Xn (AK A o)) + y)) → (Oth S S2 4) → (∀ b, ¬ (72 ≤ b ∧ b ≤ 75) → S2 b = S b) → Rn k_M_times 79 [(2, 71), (0, c), (0, o), (0, t), (0, (Xn (AK A o))), (0, fu), (0, x), (0, y), (9, 0), (9, 0), (9, 0), (9, 0)] [] S2 (fun vv S' => vv = some (0, (Q_times A c o t).1) ∧ RR S' (Q_times A c o t).2 ∧ ∀ b, ¬ (71 ≤ b ∧ b < 91) → S' b = S b) := by
                    intro f79
                    induction f79 with
                    | zero => intro S2 fu y hm79; exact absurd hm79 (Nat.not_lt_zero _)
                    | succ f79 ih79 =>
                      intro S2 fu y hm79 hy gT gE gD gO gF
                      have k1 := gO c _ (by omega) (by omega) (by omega) k0
                      have n1 := k1.n
                      have k8 := gO o _ (by omega) (by omega) (by omega) k7
                      have pxy := fun q => prng (x := x) (y := y) (n := (Xn (AK A c))) (m := (Xn (AK A o))) hxx q
                      have cmx : (Xn (AK A o)) * x = x * (Xn (AK A o)) := Int.mul_comm _ _
                      have hPk := hP h12
                      have gs1 := r0.1 x
                      have gs2 := r7.1 y
                      have gs3 := r0.l 0 x
                      have gs4 := r7.l 0 y
                      have gs5 := r0.l 1 x
                      have gs6 := r7.l 1 y
                      refine R_lo (nx := 81) rfl rfl rfl rfl ?_
                      refine R_lo (nx := 83) rfl rfl rfl rfl ?_
                      refine R_icmp (nx := 86) (tg := 341) rfl rfl rfl (mm_cnd_ge _ _) (fun c83 => ?_) (fun c83 => ?_)
                      ·
                        refine R_iinc (nx := 344) (z := (x + 1)) (ls' := [(2, 71), (0, c), (0, o), (0, t), (0, (Xn (AK A o))), (0, fu), (0, (x + 1)), (0, y), (9, 0), (9, 0), (9, 0), (9, 0)]) rfl rfl rfl rfl ⟨by omega, by omega⟩ rfl ?_
                        refine R_op (nx := 347) (pc' := 60) rfl rfl rfl ?_
                        refine Rn.weak (ls' := [(2, 71), (0, c), (0, o), (0, t), (0, (Xn (AK A o))), (0, fu), (0, (x + 1)), (9, 0), (9, 0), (9, 0), (9, 0), (9, 0)]) ⟨Or.inl rfl, ⟨Or.inl rfl, ⟨Or.inl rfl, ⟨Or.inl rfl, ⟨Or.inl rfl, ⟨Or.inl rfl, ⟨Or.inl rfl, ⟨Or.inr rfl, ⟨Or.inl rfl, ⟨Or.inl rfl, ⟨Or.inl rfl, ⟨Or.inl rfl, trivial⟩⟩⟩⟩⟩⟩⟩⟩⟩⟩⟩⟩ ?_
                        refine ih60 (S2) (fu) ((x + 1)) ?_ ?_ ?_ ?_ ?_ ?_ ?_
                        · omega
                        · omega
                        · exact gT.row (by omega)
                        · exact gE.nx (by omega)
                        · exact gD.nx (by omega)
                        · exact gO
                        · exact gF
                      ·
                        have hyy : 0 ≤ y ∧ y < (Xn (AK A o)) := by omega
                        have pxy := pxy hyy
                        refine R_lo (nx := 87) rfl rfl rfl rfl ?_
                        refine R_lo (nx := 88) rfl rfl rfl rfl ?_
                        refine R_lo (nx := 90) rfl rfl rfl rfl ?_
                        refine R_call1 (nx := 93) (as := [(2, 71), (0, c), (0, x)]) (rest := []) rfl rfl (fun _ _ => rfl) rfl rfl rfl rfl rfl rfl rfl rfl (Cl.mono (c_M_degree S2 c (by omega) (AK A c) (show MRr S2 c (AK A c) by first | assumption | exact MR.r (by assumption) | exact MRr.up (by assumption) (by omega) | exact MRr.up (MR.r (by assumption)) (by omega) | exact MRr.up (MRr.up (MR.r (by assumption)) (by omega)) (by omega)) x (by omega)) ?_)
                        rintro _ _ ⟨rfl, rfl⟩
                        refine ⟨_, rfl, ?_⟩
                        refine R_lo (nx := 94) rfl rfl rfl rfl ?_
                        refine R_lo (nx := 95) rfl rfl rfl rfl ?_
                        refine R_lo (nx := 97) rfl rfl rfl rfl ?_
                        refine R_call1 (nx := 100) (as := [(2, 71), (0, o), (0, y)]) (rest := [(0, (Xd (AK A c) x))]) rfl rfl (fun _ _ => rfl) rfl rfl rfl rfl rfl rfl rfl rfl (Cl.mono (c_M_degree S2 o (by omega) (AK A o) (show MRr S2 o (AK A o) by first | assumption | exact MR.r (by assumption) | exact MRr.up (by assumption) (by omega) | exact MRr.up (MR.r (by assumption)) (by omega) | exact MRr.up (MRr.up (MR.r (by assumption)) (by omega)) (by omega)) y (by omega)) ?_)
                        rintro _ _ ⟨rfl, rfl⟩
                        refine ⟨_, rfl, ?_⟩
                        refine R_iadd (nx := 101) (z := ((Xd (AK A c) x) + (Xd (AK A o) y))) rfl rfl rfl ⟨by omega, by omega⟩ ?_
                        refine R_lo (nx := 103) (ls' := [(2, 71), (0, c), (0, o), (0, t), (0, (Xn (AK A o))), (0, fu), (0, x), (0, y), (0, ((Xd (AK A c) x) + (Xd (AK A o) y))), (9, 0), (9, 0), (9, 0)]) rfl rfl rfl rfl ?_
                        refine R_lo (nx := 104) rfl rfl rfl rfl ?_
                        refine R_lo (nx := 105) rfl rfl rfl rfl ?_
                        refine R_op (nx := 106) rfl rfl rfl ?_
                        refine R_lo (nx := 108) rfl rfl rfl rfl ?_
                        refine R_call1 (nx := 111) (as := [(2, 71), (0, c), (0, 0), (0, x)]) (rest := []) rfl rfl (fun _ _ => rfl) rfl rfl rfl rfl rfl rfl rfl rfl (Cl.mono (c_M_level S2 c (by omega) (AK A c) (show MRr S2 c (AK A c) by first | assumption | exact MR.r (by assumption) | exact MRr.up (by assumption) (by omega) | exact MRr.up (MR.r (by assumption)) (by omega) | exact MRr.up (MRr.up (MR.r (by assumption)) (by omega)) (by omega)) 0 x (by omega) (by omega)) ?_)
                        rintro _ _ ⟨rfl, rfl⟩
                        refine ⟨_, rfl, ?_⟩
                        refine R_lo (nx := 112) rfl rfl rfl rfl ?_
                        refine R_lo (nx := 113) rfl rfl rfl rfl ?_
                        refine R_op (nx := 114) rfl rfl rfl ?_
                        refine R_lo (nx := 116) rfl rfl rfl rfl ?_
                        refine R_call1 (nx := 119) (as := [(2, 71), (0, o), (0, 0), (0, y)]) (rest := [(0, (Xl (AK A c) 0 x))]) rfl rfl (fun _ _ => rfl) rfl rfl rfl rfl rfl rfl rfl rfl (Cl.mono (c_M_level S2 o (by omega) (AK A o) (show MRr S2 o (AK A o) by first | assumption | exact MR.r (by assumption) | exact MRr.up (by assumption) (by omega) | exact MRr.up (MR.r (by assumption)) (by omega) | exact MRr.up (MRr.up (MR.r (by assumption)) (by omega)) (by omega)) 0 y (by omega) (by omega)) ?_)
                        rintro _ _ ⟨rfl, rfl⟩
                        refine ⟨_, rfl, ?_⟩
                        refine R_iadd (nx := 120) (z := ((Xl (AK A c) 0 x) + (Xl (AK A o) 0 y))) rfl rfl rfl ⟨by omega, by omega⟩ ?_
                        refine R_lo (nx := 122) (ls' := [(2, 71), (0, c), (0, o), (0, t), (0, (Xn (AK A o))), (0, fu), (0, x), (0, y), (0, ((Xd (AK A c) x) + (Xd (AK A o) y))), (0, ((Xl (AK A c) 0 x) + (Xl (AK A o) 0 y))), (9, 0), (9, 0)]) rfl rfl rfl rfl ?_
                        refine R_lo (nx := 123) rfl rfl rfl rfl ?_
                        refine R_lo (nx := 124) rfl rfl rfl rfl ?_
                        refine R_op (nx := 125) rfl rfl rfl ?_
                        refine R_lo (nx := 127) rfl rfl rfl rfl ?_
                        refine R_call1 (nx := 130) (as := [(2, 71), (0, c), (0, 1), (0, x)]) (rest := []) rfl rfl (fun _ _ => rfl) rfl rfl rfl rfl rfl rfl rfl rfl (Cl.mono (c_M_level S2 c (by omega) (AK A c) (show MRr S2 c (AK A c) by first | assumption | exact MR.r (by assumption) | exact MRr.up (by assumption) (by omega) | exact MRr.up (MR.r (by assumption)) (by omega) | exact MRr.up (MRr.up (MR.r (by assumption)) (by omega)) (by omega)) 1 x (by omega) (by omega)) ?_)
                        rintro _ _ ⟨rfl, rfl⟩
                        refine ⟨_, rfl, ?_⟩
                        refine R_lo (nx := 131) rfl rfl rfl rfl ?_
                        refine R_lo (nx := 132) rfl rfl rfl rfl ?_
                        refine R_op (nx := 133) rfl rfl rfl ?_
                        refine R_lo (nx := 135) rfl rfl rfl rfl ?_
                        refine R_call1 (nx := 138) (as := [(2, 71), (0, o), (0, 1), (0, y)]) (rest := [(0, (Xl (AK A c) 1 x))]) rfl rfl (fun _ _ => rfl) rfl rfl rfl rfl rfl rfl rfl rfl (Cl.mono (c_M_level S2 o (by omega) (AK A o) (show MRr S2 o (AK A o) by first | assumption | exact MR.r (by assumption) | exact MRr.up (by assumption) (by omega) | exact MRr.up (MR.r (by assumption)) (by omega) | exact MRr.up (MRr.up (MR.r (by assumption)) (by omega)) (by omega)) 1 y (by omega) (by omega)) ?_)
                        rintro _ _ ⟨rfl, rfl⟩
                        refine ⟨_, rfl, ?_⟩
                        refine R_iadd (nx := 139) (z := ((Xl (AK A c) 1 x) + (Xl (AK A o) 1 y))) rfl rfl rfl ⟨by omega, by omega⟩ ?_
                        refine R_lo (nx := 141) (ls' := [(2, 71), (0, c), (0, o), (0, t), (0, (Xn (AK A o))), (0, fu), (0, x), (0, y), (0, ((Xd (AK A c) x) + (Xd (AK A o) y))), (0, ((Xl (AK A c) 0 x) + (Xl (AK A o) 0 y))), (0, ((Xl (AK A c) 1 x) + (Xl (AK A o) 1 y))), (9, 0)]) rfl rfl rfl rfl ?_
                        refine R_lo (nx := 143) rfl rfl rfl rfl ?_
                        refine R_if (nx := 146) (tg := 170) rfl rfl rfl (mm_cnd_eq _ _) (fun c143 => ?_) (fun c143 => ?_)
                        ·
                          refine R_op (nx := 171) rfl rfl rfl ?_
                          refine R_lo (nx := 173) (ls' := [(2, 71), (0, c), (0, o), (0, t), (0, (Xn (AK A o))), (0, 0), (0, x), (0, y), (0, ((Xd (AK A c) x) + (Xd (AK A o) y))), (0, ((Xl (AK A c) 0 x) + (Xl (AK A o) 0 y))), (0, ((Xl (AK A c) 1 x) + (Xl (AK A o) 1 y))), (9, 0)]) rfl rfl rfl rfl ?_
                          refine R_lo (nx := 174) rfl rfl rfl rfl ?_
                          refine R_op (nx := 175) rfl rfl rfl ?_
                          refine R_lo (nx := 177) rfl rfl rfl rfl ?_
                          refine R_lo (nx := 179) rfl rfl rfl rfl ?_
                          refine R_imul (nx := 180) (z := ((Xn (AK A o)) * x)) rfl rfl rfl ⟨by omega, by omega⟩ ?_
                          refine R_cv (w := (x * (Xn (AK A o)))) (by rw [Int.mul_comm]) ?_
                          refine R_lo (nx := 182) rfl rfl rfl rfl ?_
                          refine R_iadd (nx := 183) (z := ((x * (Xn (AK A o))) + y)) rfl rfl rfl ⟨by omega, by omega⟩ ?_
                          refine R_lo (nx := 185) rfl rfl rfl rfl ?_
                          refine R_lo (nx := 187) rfl rfl rfl rfl ?_
                          refine R_lo (nx := 189) rfl rfl rfl rfl ?_
                          refine R_call0 (nx := 192) (as := [(2, 71), (0, 4), (0, ((x * (Xn (AK A o))) + y)), (0, ((Xd (AK A c) x) + (Xd (AK A o) y))), (0, ((Xl (AK A c) 0 x) + (Xl (AK A o) 0 y))), (0, ((Xl (AK A c) 1 x) + (Xl (AK A o) 1 y)))]) (rest := []) rfl rfl (fun _ _ => rfl) rfl rfl rfl rfl rfl rfl rfl rfl (Cl.mono (c_M_sets S2 4 ((x * (Xn (AK A o))) + y) ((Xd (AK A c) x) + (Xd (AK A o) y)) ((Xl (AK A c) 0 x) + (Xl (AK A o) 0 y)) ((Xl (AK A c) 1 x) + (Xl (AK A o) 1 y)) (by omega) (by omega)) ?_)
                          rintro _ S189 ⟨rfl, e189⟩
                          refine ⟨rfl, ?_⟩
                          refine R_op (nx := 193) rfl rfl rfl ?_
                          refine R_lo (nx := 195) (ls' := [(2, 71), (0, c), (0, o), (0, t), (0, (Xn (AK A o))), (0, 0), (0, x), (0, y), (0, ((Xd (AK A c) x) + (Xd (AK A o) y))), (0, ((Xl (AK A c) 0 x) + (Xl (AK A o) 0 y))), (0, ((Xl (AK A c) 1 x) + (Xl (AK A o) 1 y))), (0, 0)]) rfl rfl rfl rfl ?_
                          have L195 : ∀ (f195 : Nat) (S3 : mm_S) (fv : Int) (k : Int), ((Xn (AK A c)) - k).toNat < f195 → (0 ≤ k ∧ k ≤ (Xn (AK A c))) → (FT (AK A c) (AK A o) fv x (y + 1)) → (ERw S3 (AK A c) (AK A o) x y k 0) → (DPa S3 (Xprod (AK A c) (AK A o)) ((x * (Xn (AK A o)) + y) + 1)) → (Oth S S3 4) → (∀ b, ¬ (72 ≤ b ∧ b ≤ 75) → S3 b = S b) → Rn k_M_times 195 [(2, 71), (0, c), (0, o), (0, t), (0, (Xn (AK A o))), (0, fv), (0, x), (0, y), (9, 0), (9, 0), (9, 0), (0, k)] [] S3 (fun vv S' => vv = some (0, (Q_times A c o t).1) ∧ RR S' (Q_times A c o t).2 ∧ ∀ b, ¬ (71 ≤ b ∧ b < 91) → S' b = S b) := by
                            intro f195
                            induction f195 with
                            | zero => intro S3 fv k hm195; exact absurd hm195 (Nat.not_lt_zero _)
                            | succ f195 ih195 =>
                              intro S3 fv k hm195 hk jT jE jD jO jF
                              have k1 := jO c _ (by omega) (by omega) (by omega) k0
                              have n1 := k1.n
                              have k8 := jO o _ (by omega) (by omega) (by omega) k7
                              have cmk : (Xn (AK A o)) * k = k * (Xn (AK A o)) := Int.mul_comm _ _
                              have pk := fun q => prng (x := k) (y := y) (n := (Xn (AK A c))) (m := (Xn (AK A o))) q hyy
                              have hRb := Rw_b r0 r7 x y k 0 (k * (Xn (AK A o)) + y)
                              have heb := r0.e x k
                              refine R_lo (nx := 197) rfl rfl rfl rfl ?_
                              refine R_lo (nx := 198) rfl rfl rfl rfl ?_
                              refine R_get (nx := 201) (w := (2, 72)) rfl rfl rfl rfl ?_
                              refine R_lo (nx := 202) rfl rfl rfl rfl ?_
                              refine R_iald (nx := 203) rfl rfl (mm_el_ok 1 5 (by decide) rfl (by decide) (by omega) (by omega)) ?_
                              refine R_icmp (nx := 206) (tg := 253) rfl rfl rfl (mm_cnd_ge _ _) (fun c203 => ?_) (fun c203 => ?_)
                              ·
                                refine R_op (nx := 254) rfl rfl rfl ?_
                                refine R_lo (nx := 256) (ls' := [(2, 71), (0, c), (0, o), (0, t), (0, (Xn (AK A o))), (0, fv), (0, x), (0, y), (9, 0), (9, 0), (9, 0), (0, 0)]) rfl rfl rfl rfl ?_
                                have L256 : ∀ (f256 : Nat) (S4 : mm_S) (fw : Int) (k : Int), ((Xn (AK A o)) - k).toNat < f256 → (0 ≤ k ∧ k ≤ (Xn (AK A o))) → (FT (AK A c) (AK A o) fw x (y + 1)) → (ERw S4 (AK A c) (AK A o) x y (Xn (AK A c)) k) → (DPa S4 (Xprod (AK A c) (AK A o)) ((x * (Xn (AK A o)) + y) + 1)) → (Oth S S4 4) → (∀ b, ¬ (72 ≤ b ∧ b ≤ 75) → S4 b = S b) → Rn k_M_times 256 [(2, 71), (0, c), (0, o), (0, t), (0, (Xn (AK A o))), (0, fw), (0, x), (0, y), (9, 0), (9, 0), (9, 0), (0, k)] [] S4 (fun vv S' => vv = some (0, (Q_times A c o t).1) ∧ RR S' (Q_times A c o t).2 ∧ ∀ b, ¬ (71 ≤ b ∧ b < 91) → S' b = S b) := by
                                  intro f256
                                  induction f256 with
                                  | zero => intro S4 fw k hm256; exact absurd hm256 (Nat.not_lt_zero _)
                                  | succ f256 ih256 =>
                                    intro S4 fw k hm256 hk lT lE lD lO lF
                                    have k1 := lO c _ (by omega) (by omega) (by omega) k0
                                    have n1 := k1.n
                                    have k8 := lO o _ (by omega) (by omega) (by omega) k7
                                    have pk := fun q => prng (x := x) (y := k) (n := (Xn (AK A c))) (m := (Xn (AK A o))) hxx q
                                    have hRb := Rw_b r0 r7 x y (Xn (AK A c)) k (x * (Xn (AK A o)) + k)
                                    have heb := r7.e y k
                                    have hsx : Xsg (AK A c) x = if Xd (AK A c) x % 2 = 1 then -1 else 1 := rfl
                                    refine R_lo (nx := 258) rfl rfl rfl rfl ?_
                                    refine R_lo (nx := 260) rfl rfl rfl rfl ?_
                                    refine R_icmp (nx := 263) (tg := 335) rfl rfl rfl (mm_cnd_ge _ _) (fun c260 => ?_) (fun c260 => ?_)
                                    ·
                                      refine R_iinc (nx := 338) (z := (y + 1)) (ls' := [(2, 71), (0, c), (0, o), (0, t), (0, (Xn (AK A o))), (0, fw), (0, x), (0, (y + 1)), (9, 0), (9, 0), (9, 0), (0, k)]) rfl rfl rfl rfl ⟨by omega, by omega⟩ rfl ?_
                                      refine R_op (nx := 341) (pc' := 79) rfl rfl rfl ?_
                                      refine Rn.weak (ls' := [(2, 71), (0, c), (0, o), (0, t), (0, (Xn (AK A o))), (0, fw), (0, x), (0, (y + 1)), (9, 0), (9, 0), (9, 0), (9, 0)]) ⟨Or.inl rfl, ⟨Or.inl rfl, ⟨Or.inl rfl, ⟨Or.inl rfl, ⟨Or.inl rfl, ⟨Or.inl rfl, ⟨Or.inl rfl, ⟨Or.inl rfl, ⟨Or.inl rfl, ⟨Or.inl rfl, ⟨Or.inl rfl, ⟨Or.inr rfl, trivial⟩⟩⟩⟩⟩⟩⟩⟩⟩⟩⟩⟩ ?_
                                      refine ih79 (S4) (fw) ((y + 1)) ?_ ?_ ?_ ?_ ?_ ?_ ?_
                                      · omega
                                      · omega
                                      · exact lT
                                      · have e : k = (Xn (AK A o)) := by omega
                                        rw [e] at lE
                                        exact lE.fin h12 hxx hyy
                                      · rw [← Int.add_assoc]; exact lD
                                      · exact lO
                                      · exact lF
                                    ·
                                      have pk := pk (by omega)
                                      have hdx := hdt x
                                      refine R_lo (nx := 264) rfl rfl rfl rfl ?_
                                      refine R_get (nx := 267) (w := (2, 75)) rfl rfl rfl rfl ?_
                                      refine R_op (nx := 270) rfl rfl rfl ?_
                                      refine R_op (nx := 272) rfl rfl rfl ?_
                                      refine R_lo (nx := 274) rfl rfl rfl rfl ?_
                                      refine R_lo (nx := 276) rfl rfl rfl rfl ?_
                                      refine R_imul (nx := 277) (z := ((Xn (AK A o)) * x)) rfl rfl rfl ⟨by omega, by omega⟩ ?_
                                      refine R_cv (w := (x * (Xn (AK A o)))) (by rw [Int.mul_comm]) ?_
                                      refine R_lo (nx := 279) rfl rfl rfl rfl ?_
                                      refine R_iadd (nx := 280) (z := ((x * (Xn (AK A o))) + y)) rfl rfl rfl ⟨by omega, by omega⟩ ?_
                                      refine R_imul (nx := 281) (z := (12 * ((x * (Xn (AK A o))) + y))) rfl rfl rfl ⟨by omega, by omega⟩ ?_
                                      refine R_iadd (nx := 282) (z := (576 + (12 * ((x * (Xn (AK A o))) + y)))) rfl rfl rfl ⟨by omega, by omega⟩ ?_
                                      refine R_lo (nx := 284) rfl rfl rfl rfl ?_
                                      refine R_lo (nx := 286) rfl rfl rfl rfl ?_
                                      refine R_imul (nx := 287) (z := ((Xn (AK A o)) * x)) rfl rfl rfl ⟨by omega, by omega⟩ ?_
                                      refine R_cv (w := (x * (Xn (AK A o)))) (by rw [Int.mul_comm]) ?_
                                      refine R_iadd (nx := 288) (z := ((576 + (12 * ((x * (Xn (AK A o))) + y))) + (x * (Xn (AK A o))))) rfl rfl rfl ⟨by omega, by omega⟩ ?_
                                      refine R_lo (nx := 290) rfl rfl rfl rfl ?_
                                      refine R_iadd (nx := 291) (z := (((576 + (12 * ((x * (Xn (AK A o))) + y))) + (x * (Xn (AK A o)))) + k)) rfl rfl rfl ⟨by omega, by omega⟩ ?_
                                      refine R_op (nx := 292) rfl rfl rfl ?_
                                      refine R_iald (nx := 293) rfl rfl (mm_el_ok 1 720 (by decide) rfl (by decide) (by omega) (by omega)) ?_
                                      rw [Int.add_assoc (576 + 12 * (x * (Xn (AK A o)) + y)), lE.rd (by omega) (by omega)]
                                      refine R_lo (nx := 294) rfl rfl rfl rfl ?_
                                      refine R_lo (nx := 295) rfl rfl rfl rfl ?_
                                      refine R_lo (nx := 297) rfl rfl rfl rfl ?_
                                      refine R_call1 (nx := 300) (as := [(2, 71), (0, c), (0, x)]) (rest := [(0, (Rw (AK A c) (AK A o) x y (Xn (AK A c)) k (x * (Xn (AK A o)) + k))), (0, ((576 + (12 * ((x * (Xn (AK A o))) + y))) + (x * (Xn (AK A o)) + k))), (2, 75)]) rfl rfl (fun _ _ => rfl) rfl rfl rfl rfl rfl rfl rfl rfl (Cl.mono (c_M_degree S4 c (by omega) (AK A c) (show MRr S4 c (AK A c) by first | assumption | exact MR.r (by assumption) | exact MRr.up (by assumption) (by omega) | exact MRr.up (MR.r (by assumption)) (by omega) | exact MRr.up (MRr.up (MR.r (by assumption)) (by omega)) (by omega)) x (by omega)) ?_)
                                      rintro _ _ ⟨rfl, rfl⟩
                                      refine ⟨_, rfl, ?_⟩
                                      refine R_op (nx := 301) rfl rfl rfl ?_
                                      refine R_irem (nx := 302) (z := (Int.tmod (Xd (AK A c) x) 2)) rfl rfl (by decide) rfl ?_
                                      refine R_if (nx := 305) (tg := 317) rfl rfl rfl (mm_cnd_ne _ _) (fun c302 => ?_) (fun c302 => ?_)
                                      ·
                                        refine R_lo (nx := 318) rfl rfl rfl rfl ?_
                                        refine R_lo (nx := 319) rfl rfl rfl rfl ?_
                                        refine R_lo (nx := 321) rfl rfl rfl rfl ?_
                                        refine R_lo (nx := 323) rfl rfl rfl rfl ?_
                                        refine R_call1 (nx := 326) (as := [(2, 71), (0, o), (0, y), (0, k)]) (rest := [(0, (Rw (AK A c) (AK A o) x y (Xn (AK A c)) k (x * (Xn (AK A o)) + k))), (0, ((576 + (12 * ((x * (Xn (AK A o))) + y))) + (x * (Xn (AK A o)) + k))), (2, 75)]) rfl rfl (fun _ _ => rfl) rfl rfl rfl rfl rfl rfl rfl rfl (Cl.mono (c_M_edge S4 o (by omega) (AK A o) (show MRr S4 o (AK A o) by first | assumption | exact MR.r (by assumption) | exact MRr.up (by assumption) (by omega) | exact MRr.up (MR.r (by assumption)) (by omega) | exact MRr.up (MRr.up (MR.r (by assumption)) (by omega)) (by omega)) y k (by omega) (by omega)) ?_)
                                        rintro _ _ ⟨rfl, rfl⟩
                                        refine ⟨_, rfl, ?_⟩
                                        refine R_ineg (nx := 327) (z := (-(Xe (AK A o) y k))) rfl rfl rfl ⟨by omega, by omega⟩ ?_
                                        refine R_iadd (nx := 328) (z := ((Rw (AK A c) (AK A o) x y (Xn (AK A c)) k (x * (Xn (AK A o)) + k)) + (-(Xe (AK A o) y k)))) rfl rfl rfl ⟨by omega, by omega⟩ ?_
                                        refine R_iast (nx := 329) rfl rfl (mm_el_ok 1 720 (by decide) rfl (by decide) (by omega) (by omega)) ?_
                                        refine R_iinc (nx := 332) (z := (k + 1)) (ls' := [(2, 71), (0, c), (0, o), (0, t), (0, (Xn (AK A o))), (0, fw), (0, x), (0, y), (9, 0), (9, 0), (9, 0), (0, (k + 1))]) rfl rfl rfl rfl ⟨by omega, by omega⟩ rfl ?_
                                        refine R_op (nx := 335) (pc' := 256) rfl rfl rfl ?_
                                        refine Rn.weak (ls' := [(2, 71), (0, c), (0, o), (0, t), (0, (Xn (AK A o))), (0, fw), (0, x), (0, y), (9, 0), (9, 0), (9, 0), (0, (k + 1))]) ⟨Or.inl rfl, ⟨Or.inl rfl, ⟨Or.inl rfl, ⟨Or.inl rfl, ⟨Or.inl rfl, ⟨Or.inl rfl, ⟨Or.inl rfl, ⟨Or.inl rfl, ⟨Or.inl rfl, ⟨Or.inl rfl, ⟨Or.inl rfl, ⟨Or.inl rfl, trivial⟩⟩⟩⟩⟩⟩⟩⟩⟩⟩⟩⟩ ?_
                                        refine ih256 ((mm_up S4 75 ((576 + (12 * ((x * (Xn (AK A o))) + y))) + (x * (Xn (AK A o)) + k)) ((Rw (AK A c) (AK A o) x y (Xn (AK A c)) k (x * (Xn (AK A o)) + k)) + (-(Xe (AK A o) y k))))) (fw) ((k + 1)) ?_ ?_ ?_ ?_ ?_ ?_ ?_
                                        · omega
                                        · omega
                                        · exact lT
                                        · exact lE.b h12 hxx hyy (by omega) (by first | (rw [hsx, if_neg (by omega), Int.one_mul]; done) | (rw [hsx, if_pos (by omega)]; omega))
                                        · exact lD.fr (mm_unq (by decide)) (mm_unq (by decide))
                                        · exact lO.u75 _ (by omega)
                                        · intro b hb; rw [mm_unq (by omega)]; exact lF b hb
                                      ·
                                        replace c302 := Classical.not_not.mp c302
                                        refine R_lo (nx := 306) rfl rfl rfl rfl ?_
                                        refine R_lo (nx := 307) rfl rfl rfl rfl ?_
                                        refine R_lo (nx := 309) rfl rfl rfl rfl ?_
                                        refine R_lo (nx := 311) rfl rfl rfl rfl ?_
                                        refine R_call1 (nx := 314) (as := [(2, 71), (0, o), (0, y), (0, k)]) (rest := [(0, (Rw (AK A c) (AK A o) x y (Xn (AK A c)) k (x * (Xn (AK A o)) + k))), (0, ((576 + (12 * ((x * (Xn (AK A o))) + y))) + (x * (Xn (AK A o)) + k))), (2, 75)]) rfl rfl (fun _ _ => rfl) rfl rfl rfl rfl rfl rfl rfl rfl (Cl.mono (c_M_edge S4 o (by omega) (AK A o) (show MRr S4 o (AK A o) by first | assumption | exact MR.r (by assumption) | exact MRr.up (by assumption) (by omega) | exact MRr.up (MR.r (by assumption)) (by omega) | exact MRr.up (MRr.up (MR.r (by assumption)) (by omega)) (by omega)) y k (by omega) (by omega)) ?_)
                                        rintro _ _ ⟨rfl, rfl⟩
                                        refine ⟨_, rfl, ?_⟩
                                        refine R_op (nx := 317) (pc' := 327) rfl rfl rfl ?_
                                        refine R_iadd (nx := 328) (z := ((Rw (AK A c) (AK A o) x y (Xn (AK A c)) k (x * (Xn (AK A o)) + k)) + (Xe (AK A o) y k))) rfl rfl rfl ⟨by omega, by omega⟩ ?_
                                        refine R_iast (nx := 329) rfl rfl (mm_el_ok 1 720 (by decide) rfl (by decide) (by omega) (by omega)) ?_
                                        refine R_iinc (nx := 332) (z := (k + 1)) (ls' := [(2, 71), (0, c), (0, o), (0, t), (0, (Xn (AK A o))), (0, fw), (0, x), (0, y), (9, 0), (9, 0), (9, 0), (0, (k + 1))]) rfl rfl rfl rfl ⟨by omega, by omega⟩ rfl ?_
                                        refine R_op (nx := 335) (pc' := 256) rfl rfl rfl ?_
                                        refine Rn.weak (ls' := [(2, 71), (0, c), (0, o), (0, t), (0, (Xn (AK A o))), (0, fw), (0, x), (0, y), (9, 0), (9, 0), (9, 0), (0, (k + 1))]) ⟨Or.inl rfl, ⟨Or.inl rfl, ⟨Or.inl rfl, ⟨Or.inl rfl, ⟨Or.inl rfl, ⟨Or.inl rfl, ⟨Or.inl rfl, ⟨Or.inl rfl, ⟨Or.inl rfl, ⟨Or.inl rfl, ⟨Or.inl rfl, ⟨Or.inl rfl, trivial⟩⟩⟩⟩⟩⟩⟩⟩⟩⟩⟩⟩ ?_
                                        refine ih256 ((mm_up S4 75 ((576 + (12 * ((x * (Xn (AK A o))) + y))) + (x * (Xn (AK A o)) + k)) ((Rw (AK A c) (AK A o) x y (Xn (AK A c)) k (x * (Xn (AK A o)) + k)) + (Xe (AK A o) y k)))) (fw) ((k + 1)) ?_ ?_ ?_ ?_ ?_ ?_ ?_
                                        · omega
                                        · omega
                                        · exact lT
                                        · exact lE.b h12 hxx hyy (by omega) (by first | (rw [hsx, if_neg (by omega), Int.one_mul]; done) | (rw [hsx, if_pos (by omega)]; omega))
                                        · exact lD.fr (mm_unq (by decide)) (mm_unq (by decide))
                                        · exact lO.u75 _ (by omega)
                                        · intro b hb; rw [mm_unq (by omega)]; exact lF b hb
                                refine Rn.weak (ls' := [(2, 71), (0, c), (0, o), (0, t), (0, (Xn (AK A o))), (0, fv), (0, x), (0, y), (9, 0), (9, 0), (9, 0), (0, 0)]) ⟨Or.inl rfl, ⟨Or.inl rfl, ⟨Or.inl rfl, ⟨Or.inl rfl, ⟨Or.inl rfl, ⟨Or.inl rfl, ⟨Or.inl rfl, ⟨Or.inl rfl, ⟨Or.inl rfl, ⟨Or.inl rfl, ⟨Or.inl rfl, ⟨Or.inl rfl, trivial⟩⟩⟩⟩⟩⟩⟩⟩⟩⟩⟩⟩ ?_
                                refine L256 (((Xn (AK A o)) - (0)).toNat + 1) (S3) (fv) (0) (Nat.lt_succ_self _) ?_ ?_ ?_ ?_ ?_ ?_
                                · omega
                                · exact jT
                                · have e : k = (Xn (AK A c)) := by omega
                                  rw [e] at jE
                                  exact jE
                                · exact jD
                                · exact jO
                                · exact jF
                              ·
                                have pk := pk (by omega)
                                refine R_lo (nx := 207) rfl rfl rfl rfl ?_
                                refine R_get (nx := 210) (w := (2, 75)) rfl rfl rfl rfl ?_
                                refine R_op (nx := 213) rfl rfl rfl ?_
                                refine R_op (nx := 215) rfl rfl rfl ?_
                                refine R_lo (nx := 217) rfl rfl rfl rfl ?_
                                refine R_lo (nx := 219) rfl rfl rfl rfl ?_
                                refine R_imul (nx := 220) (z := ((Xn (AK A o)) * x)) rfl rfl rfl ⟨by omega, by omega⟩ ?_
                                refine R_cv (w := (x * (Xn (AK A o)))) (by rw [Int.mul_comm]) ?_
                                refine R_lo (nx := 222) rfl rfl rfl rfl ?_
                                refine R_iadd (nx := 223) (z := ((x * (Xn (AK A o))) + y)) rfl rfl rfl ⟨by omega, by omega⟩ ?_
                                refine R_imul (nx := 224) (z := (12 * ((x * (Xn (AK A o))) + y))) rfl rfl rfl ⟨by omega, by omega⟩ ?_
                                refine R_iadd (nx := 225) (z := (576 + (12 * ((x * (Xn (AK A o))) + y)))) rfl rfl rfl ⟨by omega, by omega⟩ ?_
                                refine R_lo (nx := 227) rfl rfl rfl rfl ?_
                                refine R_lo (nx := 229) rfl rfl rfl rfl ?_
                                refine R_imul (nx := 230) (z := ((Xn (AK A o)) * k)) rfl rfl rfl ⟨by omega, by omega⟩ ?_
                                refine R_cv (w := (k * (Xn (AK A o)))) (by rw [Int.mul_comm]) ?_
                                refine R_iadd (nx := 231) (z := ((576 + (12 * ((x * (Xn (AK A o))) + y))) + (k * (Xn (AK A o))))) rfl rfl rfl ⟨by omega, by omega⟩ ?_
                                refine R_lo (nx := 233) rfl rfl rfl rfl ?_
                                refine R_iadd (nx := 234) (z := (((576 + (12 * ((x * (Xn (AK A o))) + y))) + (k * (Xn (AK A o)))) + y)) rfl rfl rfl ⟨by omega, by omega⟩ ?_
                                refine R_op (nx := 235) rfl rfl rfl ?_
                                refine R_iald (nx := 236) rfl rfl (mm_el_ok 1 720 (by decide) rfl (by decide) (by omega) (by omega)) ?_
                                rw [Int.add_assoc (576 + 12 * (x * (Xn (AK A o)) + y)), jE.rd (by omega) (by omega)]
                                refine R_lo (nx := 237) rfl rfl rfl rfl ?_
                                refine R_lo (nx := 238) rfl rfl rfl rfl ?_
                                refine R_lo (nx := 240) rfl rfl rfl rfl ?_
                                refine R_lo (nx := 242) rfl rfl rfl rfl ?_
                                refine R_call1 (nx := 245) (as := [(2, 71), (0, c), (0, x), (0, k)]) (rest := [(0, (Rw (AK A c) (AK A o) x y k 0 (k * (Xn (AK A o)) + y))), (0, ((576 + (12 * ((x * (Xn (AK A o))) + y))) + (k * (Xn (AK A o)) + y))), (2, 75)]) rfl rfl (fun _ _ => rfl) rfl rfl rfl rfl rfl rfl rfl rfl (Cl.mono (c_M_edge S3 c (by omega) (AK A c) (show MRr S3 c (AK A c) by first | assumption | exact MR.r (by assumption) | exact MRr.up (by assumption) (by omega) | exact MRr.up (MR.r (by assumption)) (by omega) | exact MRr.up (MRr.up (MR.r (by assumption)) (by omega)) (by omega)) x k (by omega) (by omega)) ?_)
                                rintro _ _ ⟨rfl, rfl⟩
                                refine ⟨_, rfl, ?_⟩
                                refine R_iadd (nx := 246) (z := ((Rw (AK A c) (AK A o) x y k 0 (k * (Xn (AK A o)) + y)) + (Xe (AK A c) x k))) rfl rfl rfl ⟨by omega, by omega⟩ ?_
                                refine R_iast (nx := 247) rfl rfl (mm_el_ok 1 720 (by decide) rfl (by decide) (by omega) (by omega)) ?_
                                refine R_iinc (nx := 250) (z := (k + 1)) (ls' := [(2, 71), (0, c), (0, o), (0, t), (0, (Xn (AK A o))), (0, fv), (0, x), (0, y), (9, 0), (9, 0), (9, 0), (0, (k + 1))]) rfl rfl rfl rfl ⟨by omega, by omega⟩ rfl ?_
                                refine R_op (nx := 253) (pc' := 195) rfl rfl rfl ?_
                                refine Rn.weak (ls' := [(2, 71), (0, c), (0, o), (0, t), (0, (Xn (AK A o))), (0, fv), (0, x), (0, y), (9, 0), (9, 0), (9, 0), (0, (k + 1))]) ⟨Or.inl rfl, ⟨Or.inl rfl, ⟨Or.inl rfl, ⟨Or.inl rfl, ⟨Or.inl rfl, ⟨Or.inl rfl, ⟨Or.inl rfl, ⟨Or.inl rfl, ⟨Or.inl rfl, ⟨Or.inl rfl, ⟨Or.inl rfl, ⟨Or.inl rfl, trivial⟩⟩⟩⟩⟩⟩⟩⟩⟩⟩⟩⟩ ?_
                                refine ih195 ((mm_up S3 75 ((576 + (12 * ((x * (Xn (AK A o))) + y))) + (k * (Xn (AK A o)) + y)) ((Rw (AK A c) (AK A o) x y k 0 (k * (Xn (AK A o)) + y)) + (Xe (AK A c) x k)))) (fv) ((k + 1)) ?_ ?_ ?_ ?_ ?_ ?_ ?_
                                · omega
                                · omega
                                · exact jT
                                · exact jE.a h12 hxx hyy (by omega)
                                · exact jD.fr (mm_unq (by decide)) (mm_unq (by decide))
                                · exact jO.u75 _ (by omega)
                                · intro b hb; rw [mm_unq (by omega)]; exact jF b hb
                          refine Rn.weak (ls' := [(2, 71), (0, c), (0, o), (0, t), (0, (Xn (AK A o))), (0, 0), (0, x), (0, y), (9, 0), (9, 0), (9, 0), (0, 0)]) ⟨Or.inl rfl, ⟨Or.inl rfl, ⟨Or.inl rfl, ⟨Or.inl rfl, ⟨Or.inl rfl, ⟨Or.inl rfl, ⟨Or.inl rfl, ⟨Or.inl rfl, ⟨Or.inr rfl, ⟨Or.inr rfl, ⟨Or.inr rfl, ⟨Or.inl rfl, trivial⟩⟩⟩⟩⟩⟩⟩⟩⟩⟩⟩⟩ ?_
                          refine L195 (((Xn (AK A c)) - (0)).toNat + 1) (S189) (0) (0) (Nat.lt_succ_self _) ?_ ?_ ?_ ?_ ?_ ?_
                          · omega
                          · first | exact gT.y (by omega) (by omega) (by omega) (by omega) | exact FT.n (ft := fu) r0 r7 hxx hyy (by first | exact Or.inl ⟨by omega, gT⟩ | exact Or.inr (by omega)) _ _
                          · exact (ERw.st0 z7.1 gE).fr (by rw [e189, mm_unq (by decide), mm_unq (by decide), mm_unq (by decide)])
                          · refine gD.st (by omega) e189 ?_; have q := hPk.2.2.1 x y hxx hyy; exact ⟨q.1.symm, q.2.1.symm, q.2.2.symm⟩
                          · rw [e189]; exact gO.sets _ _ _ (by omega) (by omega)
                          · intro b hb; rw [e189, mm_unq (by omega), mm_unq (by omega), mm_unq (by omega)]; exact gF b hb
                        ·
                          refine R_lo (nx := 148) rfl rfl rfl rfl ?_
                          refine R_op (nx := 149) rfl rfl rfl ?_
                          refine R_icmp (nx := 152) (tg := 170) rfl rfl rfl (mm_cnd_gt _ _) (fun c149 => ?_) (fun c149 => ?_)
                          ·
                            refine R_op (nx := 171) rfl rfl rfl ?_
                            refine R_lo (nx := 173) (ls' := [(2, 71), (0, c), (0, o), (0, t), (0, (Xn (AK A o))), (0, 0), (0, x), (0, y), (0, ((Xd (AK A c) x) + (Xd (AK A o) y))), (0, ((Xl (AK A c) 0 x) + (Xl (AK A o) 0 y))), (0, ((Xl (AK A c) 1 x) + (Xl (AK A o) 1 y))), (9, 0)]) rfl rfl rfl rfl ?_
                            refine R_lo (nx := 174) rfl rfl rfl rfl ?_
                            refine R_op (nx := 175) rfl rfl rfl ?_
                            refine R_lo (nx := 177) rfl rfl rfl rfl ?_
                            refine R_lo (nx := 179) rfl rfl rfl rfl ?_
                            refine R_imul (nx := 180) (z := ((Xn (AK A o)) * x)) rfl rfl rfl ⟨by omega, by omega⟩ ?_
                            refine R_cv (w := (x * (Xn (AK A o)))) (by rw [Int.mul_comm]) ?_
                            refine R_lo (nx := 182) rfl rfl rfl rfl ?_
                            refine R_iadd (nx := 183) (z := ((x * (Xn (AK A o))) + y)) rfl rfl rfl ⟨by omega, by omega⟩ ?_
                            refine R_lo (nx := 185) rfl rfl rfl rfl ?_
                            refine R_lo (nx := 187) rfl rfl rfl rfl ?_
                            refine R_lo (nx := 189) rfl rfl rfl rfl ?_
                            refine R_call0 (nx := 192) (as := [(2, 71), (0, 4), (0, ((x * (Xn (AK A o))) + y)), (0, ((Xd (AK A c) x) + (Xd (AK A o) y))), (0, ((Xl (AK A c) 0 x) + (Xl (AK A o) 0 y))), (0, ((Xl (AK A c) 1 x) + (Xl (AK A o) 1 y)))]) (rest := []) rfl rfl (fun _ _ => rfl) rfl rfl rfl rfl rfl rfl rfl rfl (Cl.mono (c_M_sets S2 4 ((x * (Xn (AK A o))) + y) ((Xd (AK A c) x) + (Xd (AK A o) y)) ((Xl (AK A c) 0 x) + (Xl (AK A o) 0 y)) ((Xl (AK A c) 1 x) + (Xl (AK A o) 1 y)) (by omega) (by omega)) ?_)
                            rintro _ S189_1 ⟨rfl, e189_1⟩
                            refine ⟨rfl, ?_⟩
                            refine R_op (nx := 193) rfl rfl rfl ?_
                            refine R_lo (nx := 195) (ls' := [(2, 71), (0, c), (0, o), (0, t), (0, (Xn (AK A o))), (0, 0), (0, x), (0, y), (0, ((Xd (AK A c) x) + (Xd (AK A o) y))), (0, ((Xl (AK A c) 0 x) + (Xl (AK A o) 0 y))), (0, ((Xl (AK A c) 1 x) + (Xl (AK A o) 1 y))), (0, 0)]) rfl rfl rfl rfl ?_
                            have L195 : ∀ (f195 : Nat) (S3 : mm_S) (fv : Int) (k : Int), ((Xn (AK A c)) - k).toNat < f195 → (0 ≤ k ∧ k ≤ (Xn (AK A c))) → (FT (AK A c) (AK A o) fv x (y + 1)) → (ERw S3 (AK A c) (AK A o) x y k 0) → (DPa S3 (Xprod (AK A c) (AK A o)) ((x * (Xn (AK A o)) + y) + 1)) → (Oth S S3 4) → (∀ b, ¬ (72 ≤ b ∧ b ≤ 75) → S3 b = S b) → Rn k_M_times 195 [(2, 71), (0, c), (0, o), (0, t), (0, (Xn (AK A o))), (0, fv), (0, x), (0, y), (9, 0), (9, 0), (9, 0), (0, k)] [] S3 (fun vv S' => vv = some (0, (Q_times A c o t).1) ∧ RR S' (Q_times A c o t).2 ∧ ∀ b, ¬ (71 ≤ b ∧ b < 91) → S' b = S b) := by
                              intro f195
                              induction f195 with
                              | zero => intro S3 fv k hm195; exact absurd hm195 (Nat.not_lt_zero _)
                              | succ f195 ih195 =>
                                intro S3 fv k hm195 hk jT jE jD jO jF
                                have k1 := jO c _ (by omega) (by omega) (by omega) k0
                                have n1 := k1.n
                                have k8 := jO o _ (by omega) (by omega) (by omega) k7
                                have cmk : (Xn (AK A o)) * k = k * (Xn (AK A o)) := Int.mul_comm _ _
                                have pk := fun q => prng (x := k) (y := y) (n := (Xn (AK A c))) (m := (Xn (AK A o))) q hyy
                                have hRb := Rw_b r0 r7 x y k 0 (k * (Xn (AK A o)) + y)
                                have heb := r0.e x k
                                refine R_lo (nx := 197) rfl rfl rfl rfl ?_
                                refine R_lo (nx := 198) rfl rfl rfl rfl ?_
                                refine R_get (nx := 201) (w := (2, 72)) rfl rfl rfl rfl ?_
                                refine R_lo (nx := 202) rfl rfl rfl rfl ?_
                                refine R_iald (nx := 203) rfl rfl (mm_el_ok 1 5 (by decide) rfl (by decide) (by omega) (by omega)) ?_
                                refine R_icmp (nx := 206) (tg := 253) rfl rfl rfl (mm_cnd_ge _ _) (fun c203_1 => ?_) (fun c203_1 => ?_)
                                ·
                                  refine R_op (nx := 254) rfl rfl rfl ?_
                                  refine R_lo (nx := 256) (ls' := [(2, 71), (0, c), (0, o), (0, t), (0, (Xn (AK A o))), (0, fv), (0, x), (0, y), (9, 0), (9, 0), (9, 0), (0, 0)]) rfl rfl rfl rfl ?_
                                  have L256 : ∀ (f256 : Nat) (S4 : mm_S) (fw : Int) (k : Int), ((Xn (AK A o)) - k).toNat < f256 → (0 ≤ k ∧ k ≤ (Xn (AK A o))) → (FT (AK A c) (AK A o) fw x (y + 1)) → (ERw S4 (AK A c) (AK A o) x y (Xn (AK A c)) k) → (DPa S4 (Xprod (AK A c) (AK A o)) ((x * (Xn (AK A o)) + y) + 1)) → (Oth S S4 4) → (∀ b, ¬ (72 ≤ b ∧ b ≤ 75) → S4 b = S b) → Rn k_M_times 256 [(2, 71), (0, c), (0, o), (0, t), (0, (Xn (AK A o))), (0, fw), (0, x), (0, y), (9, 0), (9, 0), (9, 0), (0, k)] [] S4 (fun vv S' => vv = some (0, (Q_times A c o t).1) ∧ RR S' (Q_times A c o t).2 ∧ ∀ b, ¬ (71 ≤ b ∧ b < 91) → S' b = S b) := by
                                    intro f256
                                    induction f256 with
                                    | zero => intro S4 fw k hm256; exact absurd hm256 (Nat.not_lt_zero _)
                                    | succ f256 ih256 =>
                                      intro S4 fw k hm256 hk lT lE lD lO lF
                                      have k1 := lO c _ (by omega) (by omega) (by omega) k0
                                      have n1 := k1.n
                                      have k8 := lO o _ (by omega) (by omega) (by omega) k7
                                      have pk := fun q => prng (x := x) (y := k) (n := (Xn (AK A c))) (m := (Xn (AK A o))) hxx q
                                      have hRb := Rw_b r0 r7 x y (Xn (AK A c)) k (x * (Xn (AK A o)) + k)
                                      have heb := r7.e y k
                                      have hsx : Xsg (AK A c) x = if Xd (AK A c) x % 2 = 1 then -1 else 1 := rfl
                                      refine R_lo (nx := 258) rfl rfl rfl rfl ?_
                                      refine R_lo (nx := 260) rfl rfl rfl rfl ?_
                                      refine R_icmp (nx := 263) (tg := 335) rfl rfl rfl (mm_cnd_ge _ _) (fun c260_1 => ?_) (fun c260_1 => ?_)
                                      ·
                                        refine R_iinc (nx := 338) (z := (y + 1)) (ls' := [(2, 71), (0, c), (0, o), (0, t), (0, (Xn (AK A o))), (0, fw), (0, x), (0, (y + 1)), (9, 0), (9, 0), (9, 0), (0, k)]) rfl rfl rfl rfl ⟨by omega, by omega⟩ rfl ?_
                                        refine R_op (nx := 341) (pc' := 79) rfl rfl rfl ?_
                                        refine Rn.weak (ls' := [(2, 71), (0, c), (0, o), (0, t), (0, (Xn (AK A o))), (0, fw), (0, x), (0, (y + 1)), (9, 0), (9, 0), (9, 0), (9, 0)]) ⟨Or.inl rfl, ⟨Or.inl rfl, ⟨Or.inl rfl, ⟨Or.inl rfl, ⟨Or.inl rfl, ⟨Or.inl rfl, ⟨Or.inl rfl, ⟨Or.inl rfl, ⟨Or.inl rfl, ⟨Or.inl rfl, ⟨Or.inl rfl, ⟨Or.inr rfl, trivial⟩⟩⟩⟩⟩⟩⟩⟩⟩⟩⟩⟩ ?_
                                        refine ih79 (S4) (fw) ((y + 1)) ?_ ?_ ?_ ?_ ?_ ?_ ?_
                                        · omega
                                        · omega
                                        · exact lT
                                        · have e : k = (Xn (AK A o)) := by omega
                                          rw [e] at lE
                                          exact lE.fin h12 hxx hyy
                                        · rw [← Int.add_assoc]; exact lD
                                        · exact lO
                                        · exact lF
                                      ·
                                        have pk := pk (by omega)
                                        have hdx := hdt x
                                        refine R_lo (nx := 264) rfl rfl rfl rfl ?_
                                        refine R_get (nx := 267) (w := (2, 75)) rfl rfl rfl rfl ?_
                                        refine R_op (nx := 270) rfl rfl rfl ?_
                                        refine R_op (nx := 272) rfl rfl rfl ?_
                                        refine R_lo (nx := 274) rfl rfl rfl rfl ?_
                                        refine R_lo (nx := 276) rfl rfl rfl rfl ?_
                                        refine R_imul (nx := 277) (z := ((Xn (AK A o)) * x)) rfl rfl rfl ⟨by omega, by omega⟩ ?_
                                        refine R_cv (w := (x * (Xn (AK A o)))) (by rw [Int.mul_comm]) ?_
                                        refine R_lo (nx := 279) rfl rfl rfl rfl ?_
                                        refine R_iadd (nx := 280) (z := ((x * (Xn (AK A o))) + y)) rfl rfl rfl ⟨by omega, by omega⟩ ?_
                                        refine R_imul (nx := 281) (z := (12 * ((x * (Xn (AK A o))) + y))) rfl rfl rfl ⟨by omega, by omega⟩ ?_
                                        refine R_iadd (nx := 282) (z := (576 + (12 * ((x * (Xn (AK A o))) + y)))) rfl rfl rfl ⟨by omega, by omega⟩ ?_
                                        refine R_lo (nx := 284) rfl rfl rfl rfl ?_
                                        refine R_lo (nx := 286) rfl rfl rfl rfl ?_
                                        refine R_imul (nx := 287) (z := ((Xn (AK A o)) * x)) rfl rfl rfl ⟨by omega, by omega⟩ ?_
                                        refine R_cv (w := (x * (Xn (AK A o)))) (by rw [Int.mul_comm]) ?_
                                        refine R_iadd (nx := 288) (z := ((576 + (12 * ((x * (Xn (AK A o))) + y))) + (x * (Xn (AK A o))))) rfl rfl rfl ⟨by omega, by omega⟩ ?_
                                        refine R_lo (nx := 290) rfl rfl rfl rfl ?_
                                        refine R_iadd (nx := 291) (z := (((576 + (12 * ((x * (Xn (AK A o))) + y))) + (x * (Xn (AK A o)))) + k)) rfl rfl rfl ⟨by omega, by omega⟩ ?_
                                        refine R_op (nx := 292) rfl rfl rfl ?_
                                        refine R_iald (nx := 293) rfl rfl (mm_el_ok 1 720 (by decide) rfl (by decide) (by omega) (by omega)) ?_
                                        rw [Int.add_assoc (576 + 12 * (x * (Xn (AK A o)) + y)), lE.rd (by omega) (by omega)]
                                        refine R_lo (nx := 294) rfl rfl rfl rfl ?_
                                        refine R_lo (nx := 295) rfl rfl rfl rfl ?_
                                        refine R_lo (nx := 297) rfl rfl rfl rfl ?_
                                        refine R_call1 (nx := 300) (as := [(2, 71), (0, c), (0, x)]) (rest := [(0, (Rw (AK A c) (AK A o) x y (Xn (AK A c)) k (x * (Xn (AK A o)) + k))), (0, ((576 + (12 * ((x * (Xn (AK A o))) + y))) + (x * (Xn (AK A o)) + k))), (2, 75)]) rfl rfl (fun _ _ => rfl) rfl rfl rfl rfl rfl rfl rfl rfl (Cl.mono (c_M_degree S4 c (by omega) (AK A c) (show MRr S4 c (AK A c) by first | assumption | exact MR.r (by assumption) | exact MRr.up (by assumption) (by omega) | exact MRr.up (MR.r (by assumption)) (by omega) | exact MRr.up (MRr.up (MR.r (by assumption)) (by omega)) (by omega)) x (by omega)) ?_)
                                        rintro _ _ ⟨rfl, rfl⟩
                                        refine ⟨_, rfl, ?_⟩
                                        refine R_op (nx := 301) rfl rfl rfl ?_
                                        refine R_irem (nx := 302) (z := (Int.tmod (Xd (AK A c) x) 2)) rfl rfl (by decide) rfl ?_
                                        refine R_if (nx := 305) (tg := 317) rfl rfl rfl (mm_cnd_ne _ _) (fun c302_1 => ?_) (fun c302_1 => ?_)
                                        ·
                                          refine R_lo (nx := 318) rfl rfl rfl rfl ?_
                                          refine R_lo (nx := 319) rfl rfl rfl rfl ?_
                                          refine R_lo (nx := 321) rfl rfl rfl rfl ?_
                                          refine R_lo (nx := 323) rfl rfl rfl rfl ?_
                                          refine R_call1 (nx := 326) (as := [(2, 71), (0, o), (0, y), (0, k)]) (rest := [(0, (Rw (AK A c) (AK A o) x y (Xn (AK A c)) k (x * (Xn (AK A o)) + k))), (0, ((576 + (12 * ((x * (Xn (AK A o))) + y))) + (x * (Xn (AK A o)) + k))), (2, 75)]) rfl rfl (fun _ _ => rfl) rfl rfl rfl rfl rfl rfl rfl rfl (Cl.mono (c_M_edge S4 o (by omega) (AK A o) (show MRr S4 o (AK A o) by first | assumption | exact MR.r (by assumption) | exact MRr.up (by assumption) (by omega) | exact MRr.up (MR.r (by assumption)) (by omega) | exact MRr.up (MRr.up (MR.r (by assumption)) (by omega)) (by omega)) y k (by omega) (by omega)) ?_)
                                          rintro _ _ ⟨rfl, rfl⟩
                                          refine ⟨_, rfl, ?_⟩
                                          refine R_ineg (nx := 327) (z := (-(Xe (AK A o) y k))) rfl rfl rfl ⟨by omega, by omega⟩ ?_
                                          refine R_iadd (nx := 328) (z := ((Rw (AK A c) (AK A o) x y (Xn (AK A c)) k (x * (Xn (AK A o)) + k)) + (-(Xe (AK A o) y k)))) rfl rfl rfl ⟨by omega, by omega⟩ ?_
                                          refine R_iast (nx := 329) rfl rfl (mm_el_ok 1 720 (by decide) rfl (by decide) (by omega) (by omega)) ?_
                                          refine R_iinc (nx := 332) (z := (k + 1)) (ls' := [(2, 71), (0, c), (0, o), (0, t), (0, (Xn (AK A o))), (0, fw), (0, x), (0, y), (9, 0), (9, 0), (9, 0), (0, (k + 1))]) rfl rfl rfl rfl ⟨by omega, by omega⟩ rfl ?_
                                          refine R_op (nx := 335) (pc' := 256) rfl rfl rfl ?_
                                          refine Rn.weak (ls' := [(2, 71), (0, c), (0, o), (0, t), (0, (Xn (AK A o))), (0, fw), (0, x), (0, y), (9, 0), (9, 0), (9, 0), (0, (k + 1))]) ⟨Or.inl rfl, ⟨Or.inl rfl, ⟨Or.inl rfl, ⟨Or.inl rfl, ⟨Or.inl rfl, ⟨Or.inl rfl, ⟨Or.inl rfl, ⟨Or.inl rfl, ⟨Or.inl rfl, ⟨Or.inl rfl, ⟨Or.inl rfl, ⟨Or.inl rfl, trivial⟩⟩⟩⟩⟩⟩⟩⟩⟩⟩⟩⟩ ?_
                                          refine ih256 ((mm_up S4 75 ((576 + (12 * ((x * (Xn (AK A o))) + y))) + (x * (Xn (AK A o)) + k)) ((Rw (AK A c) (AK A o) x y (Xn (AK A c)) k (x * (Xn (AK A o)) + k)) + (-(Xe (AK A o) y k))))) (fw) ((k + 1)) ?_ ?_ ?_ ?_ ?_ ?_ ?_
                                          · omega
                                          · omega
                                          · exact lT
                                          · exact lE.b h12 hxx hyy (by omega) (by first | (rw [hsx, if_neg (by omega), Int.one_mul]; done) | (rw [hsx, if_pos (by omega)]; omega))
                                          · exact lD.fr (mm_unq (by decide)) (mm_unq (by decide))
                                          · exact lO.u75 _ (by omega)
                                          · intro b hb; rw [mm_unq (by omega)]; exact lF b hb
                                        ·
                                          replace c302_1 := Classical.not_not.mp c302_1
                                          refine R_lo (nx := 306) rfl rfl rfl rfl ?_
                                          refine R_lo (nx := 307) rfl rfl rfl rfl ?_
                                          refine R_lo (nx := 309) rfl rfl rfl rfl ?_
                                          refine R_lo (nx := 311) rfl rfl rfl rfl ?_
                                          refine R_call1 (nx := 314) (as := [(2, 71), (0, o), (0, y), (0, k)]) (rest := [(0, (Rw (AK A c) (AK A o) x y (Xn (AK A c)) k (x * (Xn (AK A o)) + k))), (0, ((576 + (12 * ((x * (Xn (AK A o))) + y))) + (x * (Xn (AK A o)) + k))), (2, 75)]) rfl rfl (fun _ _ => rfl) rfl rfl rfl rfl rfl rfl rfl rfl (Cl.mono (c_M_edge S4 o (by omega) (AK A o) (show MRr S4 o (AK A o) by first | assumption | exact MR.r (by assumption) | exact MRr.up (by assumption) (by omega) | exact MRr.up (MR.r (by assumption)) (by omega) | exact MRr.up (MRr.up (MR.r (by assumption)) (by omega)) (by omega)) y k (by omega) (by omega)) ?_)
                                          rintro _ _ ⟨rfl, rfl⟩
                                          refine ⟨_, rfl, ?_⟩
                                          refine R_op (nx := 317) (pc' := 327) rfl rfl rfl ?_
                                          refine R_iadd (nx := 328) (z := ((Rw (AK A c) (AK A o) x y (Xn (AK A c)) k (x * (Xn (AK A o)) + k)) + (Xe (AK A o) y k))) rfl rfl rfl ⟨by omega, by omega⟩ ?_
                                          refine R_iast (nx := 329) rfl rfl (mm_el_ok 1 720 (by decide) rfl (by decide) (by omega) (by omega)) ?_
                                          refine R_iinc (nx := 332) (z := (k + 1)) (ls' := [(2, 71), (0, c), (0, o), (0, t), (0, (Xn (AK A o))), (0, fw), (0, x), (0, y), (9, 0), (9, 0), (9, 0), (0, (k + 1))]) rfl rfl rfl rfl ⟨by omega, by omega⟩ rfl ?_
                                          refine R_op (nx := 335) (pc' := 256) rfl rfl rfl ?_
                                          refine Rn.weak (ls' := [(2, 71), (0, c), (0, o), (0, t), (0, (Xn (AK A o))), (0, fw), (0, x), (0, y), (9, 0), (9, 0), (9, 0), (0, (k + 1))]) ⟨Or.inl rfl, ⟨Or.inl rfl, ⟨Or.inl rfl, ⟨Or.inl rfl, ⟨Or.inl rfl, ⟨Or.inl rfl, ⟨Or.inl rfl, ⟨Or.inl rfl, ⟨Or.inl rfl, ⟨Or.inl rfl, ⟨Or.inl rfl, ⟨Or.inl rfl, trivial⟩⟩⟩⟩⟩⟩⟩⟩⟩⟩⟩⟩ ?_
                                          refine ih256 ((mm_up S4 75 ((576 + (12 * ((x * (Xn (AK A o))) + y))) + (x * (Xn (AK A o)) + k)) ((Rw (AK A c) (AK A o) x y (Xn (AK A c)) k (x * (Xn (AK A o)) + k)) + (Xe (AK A o) y k)))) (fw) ((k + 1)) ?_ ?_ ?_ ?_ ?_ ?_ ?_
                                          · omega
                                          · omega
                                          · exact lT
                                          · exact lE.b h12 hxx hyy (by omega) (by first | (rw [hsx, if_neg (by omega), Int.one_mul]; done) | (rw [hsx, if_pos (by omega)]; omega))
                                          · exact lD.fr (mm_unq (by decide)) (mm_unq (by decide))
                                          · exact lO.u75 _ (by omega)
                                          · intro b hb; rw [mm_unq (by omega)]; exact lF b hb
                                  refine Rn.weak (ls' := [(2, 71), (0, c), (0, o), (0, t), (0, (Xn (AK A o))), (0, fv), (0, x), (0, y), (9, 0), (9, 0), (9, 0), (0, 0)]) ⟨Or.inl rfl, ⟨Or.inl rfl, ⟨Or.inl rfl, ⟨Or.inl rfl, ⟨Or.inl rfl, ⟨Or.inl rfl, ⟨Or.inl rfl, ⟨Or.inl rfl, ⟨Or.inl rfl, ⟨Or.inl rfl, ⟨Or.inl rfl, ⟨Or.inl rfl, trivial⟩⟩⟩⟩⟩⟩⟩⟩⟩⟩⟩⟩ ?_
                                  refine L256 (((Xn (AK A o)) - (0)).toNat + 1) (S3) (fv) (0) (Nat.lt_succ_self _) ?_ ?_ ?_ ?_ ?_ ?_
                                  · omega
                                  · exact jT
                                  · have e : k = (Xn (AK A c)) := by omega
                                    rw [e] at jE
                                    exact jE
                                  · exact jD
                                  · exact jO
                                  · exact jF
                                ·
                                  have pk := pk (by omega)
                                  refine R_lo (nx := 207) rfl rfl rfl rfl ?_
                                  refine R_get (nx := 210) (w := (2, 75)) rfl rfl rfl rfl ?_
                                  refine R_op (nx := 213) rfl rfl rfl ?_
                                  refine R_op (nx := 215) rfl rfl rfl ?_
                                  refine R_lo (nx := 217) rfl rfl rfl rfl ?_
                                  refine R_lo (nx := 219) rfl rfl rfl rfl ?_
                                  refine R_imul (nx := 220) (z := ((Xn (AK A o)) * x)) rfl rfl rfl ⟨by omega, by omega⟩ ?_
                                  refine R_cv (w := (x * (Xn (AK A o)))) (by rw [Int.mul_comm]) ?_
                                  refine R_lo (nx := 222) rfl rfl rfl rfl ?_
                                  refine R_iadd (nx := 223) (z := ((x * (Xn (AK A o))) + y)) rfl rfl rfl ⟨by omega, by omega⟩ ?_
                                  refine R_imul (nx := 224) (z := (12 * ((x * (Xn (AK A o))) + y))) rfl rfl rfl ⟨by omega, by omega⟩ ?_
                                  refine R_iadd (nx := 225) (z := (576 + (12 * ((x * (Xn (AK A o))) + y)))) rfl rfl rfl ⟨by omega, by omega⟩ ?_
                                  refine R_lo (nx := 227) rfl rfl rfl rfl ?_
                                  refine R_lo (nx := 229) rfl rfl rfl rfl ?_
                                  refine R_imul (nx := 230) (z := ((Xn (AK A o)) * k)) rfl rfl rfl ⟨by omega, by omega⟩ ?_
                                  refine R_cv (w := (k * (Xn (AK A o)))) (by rw [Int.mul_comm]) ?_
                                  refine R_iadd (nx := 231) (z := ((576 + (12 * ((x * (Xn (AK A o))) + y))) + (k * (Xn (AK A o))))) rfl rfl rfl ⟨by omega, by omega⟩ ?_
                                  refine R_lo (nx := 233) rfl rfl rfl rfl ?_
                                  refine R_iadd (nx := 234) (z := (((576 + (12 * ((x * (Xn (AK A o))) + y))) + (k * (Xn (AK A o)))) + y)) rfl rfl rfl ⟨by omega, by omega⟩ ?_
                                  refine R_op (nx := 235) rfl rfl rfl ?_
                                  refine R_iald (nx := 236) rfl rfl (mm_el_ok 1 720 (by decide) rfl (by decide) (by omega) (by omega)) ?_
                                  rw [Int.add_assoc (576 + 12 * (x * (Xn (AK A o)) + y)), jE.rd (by omega) (by omega)]
                                  refine R_lo (nx := 237) rfl rfl rfl rfl ?_
                                  refine R_lo (nx := 238) rfl rfl rfl rfl ?_
                                  refine R_lo (nx := 240) rfl rfl rfl rfl ?_
                                  refine R_lo (nx := 242) rfl rfl rfl rfl ?_
                                  refine R_call1 (nx := 245) (as := [(2, 71), (0, c), (0, x), (0, k)]) (rest := [(0, (Rw (AK A c) (AK A o) x y k 0 (k * (Xn (AK A o)) + y))), (0, ((576 + (12 * ((x * (Xn (AK A o))) + y))) + (k * (Xn (AK A o)) + y))), (2, 75)]) rfl rfl (fun _ _ => rfl) rfl rfl rfl rfl rfl rfl rfl rfl (Cl.mono (c_M_edge S3 c (by omega) (AK A c) (show MRr S3 c (AK A c) by first | assumption | exact MR.r (by assumption) | exact MRr.up (by assumption) (by omega) | exact MRr.up (MR.r (by assumption)) (by omega) | exact MRr.up (MRr.up (MR.r (by assumption)) (by omega)) (by omega)) x k (by omega) (by omega)) ?_)
                                  rintro _ _ ⟨rfl, rfl⟩
                                  refine ⟨_, rfl, ?_⟩
                                  refine R_iadd (nx := 246) (z := ((Rw (AK A c) (AK A o) x y k 0 (k * (Xn (AK A o)) + y)) + (Xe (AK A c) x k))) rfl rfl rfl ⟨by omega, by omega⟩ ?_
                                  refine R_iast (nx := 247) rfl rfl (mm_el_ok 1 720 (by decide) rfl (by decide) (by omega) (by omega)) ?_
                                  refine R_iinc (nx := 250) (z := (k + 1)) (ls' := [(2, 71), (0, c), (0, o), (0, t), (0, (Xn (AK A o))), (0, fv), (0, x), (0, y), (9, 0), (9, 0), (9, 0), (0, (k + 1))]) rfl rfl rfl rfl ⟨by omega, by omega⟩ rfl ?_
                                  refine R_op (nx := 253) (pc' := 195) rfl rfl rfl ?_
                                  refine Rn.weak (ls' := [(2, 71), (0, c), (0, o), (0, t), (0, (Xn (AK A o))), (0, fv), (0, x), (0, y), (9, 0), (9, 0), (9, 0), (0, (k + 1))]) ⟨Or.inl rfl, ⟨Or.inl rfl, ⟨Or.inl rfl, ⟨Or.inl rfl, ⟨Or.inl rfl, ⟨Or.inl rfl, ⟨Or.inl rfl, ⟨Or.inl rfl, ⟨Or.inl rfl, ⟨Or.inl rfl, ⟨Or.inl rfl, ⟨Or.inl rfl, trivial⟩⟩⟩⟩⟩⟩⟩⟩⟩⟩⟩⟩ ?_
                                  refine ih195 ((mm_up S3 75 ((576 + (12 * ((x * (Xn (AK A o))) + y))) + (k * (Xn (AK A o)) + y)) ((Rw (AK A c) (AK A o) x y k 0 (k * (Xn (AK A o)) + y)) + (Xe (AK A c) x k)))) (fv) ((k + 1)) ?_ ?_ ?_ ?_ ?_ ?_ ?_
                                  · omega
                                  · omega
                                  · exact jT
                                  · exact jE.a h12 hxx hyy (by omega)
                                  · exact jD.fr (mm_unq (by decide)) (mm_unq (by decide))
                                  · exact jO.u75 _ (by omega)
                                  · intro b hb; rw [mm_unq (by omega)]; exact jF b hb
                            refine Rn.weak (ls' := [(2, 71), (0, c), (0, o), (0, t), (0, (Xn (AK A o))), (0, 0), (0, x), (0, y), (9, 0), (9, 0), (9, 0), (0, 0)]) ⟨Or.inl rfl, ⟨Or.inl rfl, ⟨Or.inl rfl, ⟨Or.inl rfl, ⟨Or.inl rfl, ⟨Or.inl rfl, ⟨Or.inl rfl, ⟨Or.inl rfl, ⟨Or.inr rfl, ⟨Or.inr rfl, ⟨Or.inr rfl, ⟨Or.inl rfl, trivial⟩⟩⟩⟩⟩⟩⟩⟩⟩⟩⟩⟩ ?_
                            refine L195 (((Xn (AK A c)) - (0)).toNat + 1) (S189_1) (0) (0) (Nat.lt_succ_self _) ?_ ?_ ?_ ?_ ?_ ?_
                            · omega
                            · first | exact gT.y (by omega) (by omega) (by omega) (by omega) | exact FT.n (ft := fu) r0 r7 hxx hyy (by first | exact Or.inl ⟨by omega, gT⟩ | exact Or.inr (by omega)) _ _
                            · exact (ERw.st0 z7.1 gE).fr (by rw [e189_1, mm_unq (by decide), mm_unq (by decide), mm_unq (by decide)])
                            · refine gD.st (by omega) e189_1 ?_; have q := hPk.2.2.1 x y hxx hyy; exact ⟨q.1.symm, q.2.1.symm, q.2.2.symm⟩
                            · rw [e189_1]; exact gO.sets _ _ _ (by omega) (by omega)
                            · intro b hb; rw [e189_1, mm_unq (by omega), mm_unq (by omega), mm_unq (by omega)]; exact gF b hb
                          ·
                            refine R_lo (nx := 154) rfl rfl rfl rfl ?_
                            refine R_op (nx := 156) rfl rfl rfl ?_
                            refine R_icmp (nx := 159) (tg := 170) rfl rfl rfl (mm_cnd_gt _ _) (fun c156 => ?_) (fun c156 => ?_)
                            ·
                              refine R_op (nx := 171) rfl rfl rfl ?_
                              refine R_lo (nx := 173) (ls' := [(2, 71), (0, c), (0, o), (0, t), (0, (Xn (AK A o))), (0, 0), (0, x), (0, y), (0, ((Xd (AK A c) x) + (Xd (AK A o) y))), (0, ((Xl (AK A c) 0 x) + (Xl (AK A o) 0 y))), (0, ((Xl (AK A c) 1 x) + (Xl (AK A o) 1 y))), (9, 0)]) rfl rfl rfl rfl ?_
                              refine R_lo (nx := 174) rfl rfl rfl rfl ?_
                              refine R_op (nx := 175) rfl rfl rfl ?_
                              refine R_lo (nx := 177) rfl rfl rfl rfl ?_
                              refine R_lo (nx := 179) rfl rfl rfl rfl ?_
                              refine R_imul (nx := 180) (z := ((Xn (AK A o)) * x)) rfl rfl rfl ⟨by omega, by omega⟩ ?_
                              refine R_cv (w := (x * (Xn (AK A o)))) (by rw [Int.mul_comm]) ?_
                              refine R_lo (nx := 182) rfl rfl rfl rfl ?_
                              refine R_iadd (nx := 183) (z := ((x * (Xn (AK A o))) + y)) rfl rfl rfl ⟨by omega, by omega⟩ ?_
                              refine R_lo (nx := 185) rfl rfl rfl rfl ?_
                              refine R_lo (nx := 187) rfl rfl rfl rfl ?_
                              refine R_lo (nx := 189) rfl rfl rfl rfl ?_
                              refine R_call0 (nx := 192) (as := [(2, 71), (0, 4), (0, ((x * (Xn (AK A o))) + y)), (0, ((Xd (AK A c) x) + (Xd (AK A o) y))), (0, ((Xl (AK A c) 0 x) + (Xl (AK A o) 0 y))), (0, ((Xl (AK A c) 1 x) + (Xl (AK A o) 1 y)))]) (rest := []) rfl rfl (fun _ _ => rfl) rfl rfl rfl rfl rfl rfl rfl rfl (Cl.mono (c_M_sets S2 4 ((x * (Xn (AK A o))) + y) ((Xd (AK A c) x) + (Xd (AK A o) y)) ((Xl (AK A c) 0 x) + (Xl (AK A o) 0 y)) ((Xl (AK A c) 1 x) + (Xl (AK A o) 1 y)) (by omega) (by omega)) ?_)
                              rintro _ S189_2 ⟨rfl, e189_2⟩
                              refine ⟨rfl, ?_⟩
                              refine R_op (nx := 193) rfl rfl rfl ?_
                              refine R_lo (nx := 195) (ls' := [(2, 71), (0, c), (0, o), (0, t), (0, (Xn (AK A o))), (0, 0), (0, x), (0, y), (0, ((Xd (AK A c) x) + (Xd (AK A o) y))), (0, ((Xl (AK A c) 0 x) + (Xl (AK A o) 0 y))), (0, ((Xl (AK A c) 1 x) + (Xl (AK A o) 1 y))), (0, 0)]) rfl rfl rfl rfl ?_
                              have L195 : ∀ (f195 : Nat) (S3 : mm_S) (fv : Int) (k : Int), ((Xn (AK A c)) - k).toNat < f195 → (0 ≤ k ∧ k ≤ (Xn (AK A c))) → (FT (AK A c) (AK A o) fv x (y + 1)) → (ERw S3 (AK A c) (AK A o) x y k 0) → (DPa S3 (Xprod (AK A c) (AK A o)) ((x * (Xn (AK A o)) + y) + 1)) → (Oth S S3 4) → (∀ b, ¬ (72 ≤ b ∧ b ≤ 75) → S3 b = S b) → Rn k_M_times 195 [(2, 71), (0, c), (0, o), (0, t), (0, (Xn (AK A o))), (0, fv), (0, x), (0, y), (9, 0), (9, 0), (9, 0), (0, k)] [] S3 (fun vv S' => vv = some (0, (Q_times A c o t).1) ∧ RR S' (Q_times A c o t).2 ∧ ∀ b, ¬ (71 ≤ b ∧ b < 91) → S' b = S b) := by
                                intro f195
                                induction f195 with
                                | zero => intro S3 fv k hm195; exact absurd hm195 (Nat.not_lt_zero _)
                                | succ f195 ih195 =>
                                  intro S3 fv k hm195 hk jT jE jD jO jF
                                  have k1 := jO c _ (by omega) (by omega) (by omega) k0
                                  have n1 := k1.n
                                  have k8 := jO o _ (by omega) (by omega) (by omega) k7
                                  have cmk : (Xn (AK A o)) * k = k * (Xn (AK A o)) := Int.mul_comm _ _
                                  have pk := fun q => prng (x := k) (y := y) (n := (Xn (AK A c))) (m := (Xn (AK A o))) q hyy
                                  have hRb := Rw_b r0 r7 x y k 0 (k * (Xn (AK A o)) + y)
                                  have heb := r0.e x k
                                  refine R_lo (nx := 197) rfl rfl rfl rfl ?_
                                  refine R_lo (nx := 198) rfl rfl rfl rfl ?_
                                  refine R_get (nx := 201) (w := (2, 72)) rfl rfl rfl rfl ?_
                                  refine R_lo (nx := 202) rfl rfl rfl rfl ?_
                                  refine R_iald (nx := 203) rfl rfl (mm_el_ok 1 5 (by decide) rfl (by decide) (by omega) (by omega)) ?_
                                  refine R_icmp (nx := 206) (tg := 253) rfl rfl rfl (mm_cnd_ge _ _) (fun c203_2 => ?_) (fun c203_2 => ?_)
                                  ·
                                    refine R_op (nx := 254) rfl rfl rfl ?_
                                    refine R_lo (nx := 256) (ls' := [(2, 71), (0, c), (0, o), (0, t), (0, (Xn (AK A o))), (0, fv), (0, x), (0, y), (9, 0), (9, 0), (9, 0), (0, 0)]) rfl rfl rfl rfl ?_
                                    have L256 : ∀ (f256 : Nat) (S4 : mm_S) (fw : Int) (k : Int), ((Xn (AK A o)) - k).toNat < f256 → (0 ≤ k ∧ k ≤ (Xn (AK A o))) → (FT (AK A c) (AK A o) fw x (y + 1)) → (ERw S4 (AK A c) (AK A o) x y (Xn (AK A c)) k) → (DPa S4 (Xprod (AK A c) (AK A o)) ((x * (Xn (AK A o)) + y) + 1)) → (Oth S S4 4) → (∀ b, ¬ (72 ≤ b ∧ b ≤ 75) → S4 b = S b) → Rn k_M_times 256 [(2, 71), (0, c), (0, o), (0, t), (0, (Xn (AK A o))), (0, fw), (0, x), (0, y), (9, 0), (9, 0), (9, 0), (0, k)] [] S4 (fun vv S' => vv = some (0, (Q_times A c o t).1) ∧ RR S' (Q_times A c o t).2 ∧ ∀ b, ¬ (71 ≤ b ∧ b < 91) → S' b = S b) := by
                                      intro f256
                                      induction f256 with
                                      | zero => intro S4 fw k hm256; exact absurd hm256 (Nat.not_lt_zero _)
                                      | succ f256 ih256 =>
                                        intro S4 fw k hm256 hk lT lE lD lO lF
                                        have k1 := lO c _ (by omega) (by omega) (by omega) k0
                                        have n1 := k1.n
                                        have k8 := lO o _ (by omega) (by omega) (by omega) k7
                                        have pk := fun q => prng (x := x) (y := k) (n := (Xn (AK A c))) (m := (Xn (AK A o))) hxx q
                                        have hRb := Rw_b r0 r7 x y (Xn (AK A c)) k (x * (Xn (AK A o)) + k)
                                        have heb := r7.e y k
                                        have hsx : Xsg (AK A c) x = if Xd (AK A c) x % 2 = 1 then -1 else 1 := rfl
                                        refine R_lo (nx := 258) rfl rfl rfl rfl ?_
                                        refine R_lo (nx := 260) rfl rfl rfl rfl ?_
                                        refine R_icmp (nx := 263) (tg := 335) rfl rfl rfl (mm_cnd_ge _ _) (fun c260_2 => ?_) (fun c260_2 => ?_)
                                        ·
                                          refine R_iinc (nx := 338) (z := (y + 1)) (ls' := [(2, 71), (0, c), (0, o), (0, t), (0, (Xn (AK A o))), (0, fw), (0, x), (0, (y + 1)), (9, 0), (9, 0), (9, 0), (0, k)]) rfl rfl rfl rfl ⟨by omega, by omega⟩ rfl ?_
                                          refine R_op (nx := 341) (pc' := 79) rfl rfl rfl ?_
                                          refine Rn.weak (ls' := [(2, 71), (0, c), (0, o), (0, t), (0, (Xn (AK A o))), (0, fw), (0, x), (0, (y + 1)), (9, 0), (9, 0), (9, 0), (9, 0)]) ⟨Or.inl rfl, ⟨Or.inl rfl, ⟨Or.inl rfl, ⟨Or.inl rfl, ⟨Or.inl rfl, ⟨Or.inl rfl, ⟨Or.inl rfl, ⟨Or.inl rfl, ⟨Or.inl rfl, ⟨Or.inl rfl, ⟨Or.inl rfl, ⟨Or.inr rfl, trivial⟩⟩⟩⟩⟩⟩⟩⟩⟩⟩⟩⟩ ?_
                                          refine ih79 (S4) (fw) ((y + 1)) ?_ ?_ ?_ ?_ ?_ ?_ ?_
                                          · omega
                                          · omega
                                          · exact lT
                                          · have e : k = (Xn (AK A o)) := by omega
                                            rw [e] at lE
                                            exact lE.fin h12 hxx hyy
                                          · rw [← Int.add_assoc]; exact lD
                                          · exact lO
                                          · exact lF
                                        ·
                                          have pk := pk (by omega)
                                          have hdx := hdt x
                                          refine R_lo (nx := 264) rfl rfl rfl rfl ?_
                                          refine R_get (nx := 267) (w := (2, 75)) rfl rfl rfl rfl ?_
                                          refine R_op (nx := 270) rfl rfl rfl ?_
                                          refine R_op (nx := 272) rfl rfl rfl ?_
                                          refine R_lo (nx := 274) rfl rfl rfl rfl ?_
                                          refine R_lo (nx := 276) rfl rfl rfl rfl ?_
                                          refine R_imul (nx := 277) (z := ((Xn (AK A o)) * x)) rfl rfl rfl ⟨by omega, by omega⟩ ?_
                                          refine R_cv (w := (x * (Xn (AK A o)))) (by rw [Int.mul_comm]) ?_
                                          refine R_lo (nx := 279) rfl rfl rfl rfl ?_
                                          refine R_iadd (nx := 280) (z := ((x * (Xn (AK A o))) + y)) rfl rfl rfl ⟨by omega, by omega⟩ ?_
                                          refine R_imul (nx := 281) (z := (12 * ((x * (Xn (AK A o))) + y))) rfl rfl rfl ⟨by omega, by omega⟩ ?_
                                          refine R_iadd (nx := 282) (z := (576 + (12 * ((x * (Xn (AK A o))) + y)))) rfl rfl rfl ⟨by omega, by omega⟩ ?_
                                          refine R_lo (nx := 284) rfl rfl rfl rfl ?_
                                          refine R_lo (nx := 286) rfl rfl rfl rfl ?_
                                          refine R_imul (nx := 287) (z := ((Xn (AK A o)) * x)) rfl rfl rfl ⟨by omega, by omega⟩ ?_
                                          refine R_cv (w := (x * (Xn (AK A o)))) (by rw [Int.mul_comm]) ?_
                                          refine R_iadd (nx := 288) (z := ((576 + (12 * ((x * (Xn (AK A o))) + y))) + (x * (Xn (AK A o))))) rfl rfl rfl ⟨by omega, by omega⟩ ?_
                                          refine R_lo (nx := 290) rfl rfl rfl rfl ?_
                                          refine R_iadd (nx := 291) (z := (((576 + (12 * ((x * (Xn (AK A o))) + y))) + (x * (Xn (AK A o)))) + k)) rfl rfl rfl ⟨by omega, by omega⟩ ?_
                                          refine R_op (nx := 292) rfl rfl rfl ?_
                                          refine R_iald (nx := 293) rfl rfl (mm_el_ok 1 720 (by decide) rfl (by decide) (by omega) (by omega)) ?_
                                          rw [Int.add_assoc (576 + 12 * (x * (Xn (AK A o)) + y)), lE.rd (by omega) (by omega)]
                                          refine R_lo (nx := 294) rfl rfl rfl rfl ?_
                                          refine R_lo (nx := 295) rfl rfl rfl rfl ?_
                                          refine R_lo (nx := 297) rfl rfl rfl rfl ?_
                                          refine R_call1 (nx := 300) (as := [(2, 71), (0, c), (0, x)]) (rest := [(0, (Rw (AK A c) (AK A o) x y (Xn (AK A c)) k (x * (Xn (AK A o)) + k))), (0, ((576 + (12 * ((x * (Xn (AK A o))) + y))) + (x * (Xn (AK A o)) + k))), (2, 75)]) rfl rfl (fun _ _ => rfl) rfl rfl rfl rfl rfl rfl rfl rfl (Cl.mono (c_M_degree S4 c (by omega) (AK A c) (show MRr S4 c (AK A c) by first | assumption | exact MR.r (by assumption) | exact MRr.up (by assumption) (by omega) | exact MRr.up (MR.r (by assumption)) (by omega) | exact MRr.up (MRr.up (MR.r (by assumption)) (by omega)) (by omega)) x (by omega)) ?_)
                                          rintro _ _ ⟨rfl, rfl⟩
                                          refine ⟨_, rfl, ?_⟩
                                          refine R_op (nx := 301) rfl rfl rfl ?_
                                          refine R_irem (nx := 302) (z := (Int.tmod (Xd (AK A c) x) 2)) rfl rfl (by decide) rfl ?_
                                          refine R_if (nx := 305) (tg := 317) rfl rfl rfl (mm_cnd_ne _ _) (fun c302_2 => ?_) (fun c302_2 => ?_)
                                          ·
                                            refine R_lo (nx := 318) rfl rfl rfl rfl ?_
                                            refine R_lo (nx := 319) rfl rfl rfl rfl ?_
                                            refine R_lo (nx := 321) rfl rfl rfl rfl ?_
                                            refine R_lo (nx := 323) rfl rfl rfl rfl ?_
                                            refine R_call1 (nx := 326) (as := [(2, 71), (0, o), (0, y), (0, k)]) (rest := [(0, (Rw (AK A c) (AK A o) x y (Xn (AK A c)) k (x * (Xn (AK A o)) + k))), (0, ((576 + (12 * ((x * (Xn (AK A o))) + y))) + (x * (Xn (AK A o)) + k))), (2, 75)]) rfl rfl (fun _ _ => rfl) rfl rfl rfl rfl rfl rfl rfl rfl (Cl.mono (c_M_edge S4 o (by omega) (AK A o) (show MRr S4 o (AK A o) by first | assumption | exact MR.r (by assumption) | exact MRr.up (by assumption) (by omega) | exact MRr.up (MR.r (by assumption)) (by omega) | exact MRr.up (MRr.up (MR.r (by assumption)) (by omega)) (by omega)) y k (by omega) (by omega)) ?_)
                                            rintro _ _ ⟨rfl, rfl⟩
                                            refine ⟨_, rfl, ?_⟩
                                            refine R_ineg (nx := 327) (z := (-(Xe (AK A o) y k))) rfl rfl rfl ⟨by omega, by omega⟩ ?_
                                            refine R_iadd (nx := 328) (z := ((Rw (AK A c) (AK A o) x y (Xn (AK A c)) k (x * (Xn (AK A o)) + k)) + (-(Xe (AK A o) y k)))) rfl rfl rfl ⟨by omega, by omega⟩ ?_
                                            refine R_iast (nx := 329) rfl rfl (mm_el_ok 1 720 (by decide) rfl (by decide) (by omega) (by omega)) ?_
                                            refine R_iinc (nx := 332) (z := (k + 1)) (ls' := [(2, 71), (0, c), (0, o), (0, t), (0, (Xn (AK A o))), (0, fw), (0, x), (0, y), (9, 0), (9, 0), (9, 0), (0, (k + 1))]) rfl rfl rfl rfl ⟨by omega, by omega⟩ rfl ?_
                                            refine R_op (nx := 335) (pc' := 256) rfl rfl rfl ?_
                                            refine Rn.weak (ls' := [(2, 71), (0, c), (0, o), (0, t), (0, (Xn (AK A o))), (0, fw), (0, x), (0, y), (9, 0), (9, 0), (9, 0), (0, (k + 1))]) ⟨Or.inl rfl, ⟨Or.inl rfl, ⟨Or.inl rfl, ⟨Or.inl rfl, ⟨Or.inl rfl, ⟨Or.inl rfl, ⟨Or.inl rfl, ⟨Or.inl rfl, ⟨Or.inl rfl, ⟨Or.inl rfl, ⟨Or.inl rfl, ⟨Or.inl rfl, trivial⟩⟩⟩⟩⟩⟩⟩⟩⟩⟩⟩⟩ ?_
                                            refine ih256 ((mm_up S4 75 ((576 + (12 * ((x * (Xn (AK A o))) + y))) + (x * (Xn (AK A o)) + k)) ((Rw (AK A c) (AK A o) x y (Xn (AK A c)) k (x * (Xn (AK A o)) + k)) + (-(Xe (AK A o) y k))))) (fw) ((k + 1)) ?_ ?_ ?_ ?_ ?_ ?_ ?_
                                            · omega
                                            · omega
                                            · exact lT
                                            · exact lE.b h12 hxx hyy (by omega) (by first | (rw [hsx, if_neg (by omega), Int.one_mul]; done) | (rw [hsx, if_pos (by omega)]; omega))
                                            · exact lD.fr (mm_unq (by decide)) (mm_unq (by decide))
                                            · exact lO.u75 _ (by omega)
                                            · intro b hb; rw [mm_unq (by omega)]; exact lF b hb
                                          ·
                                            replace c302_2 := Classical.not_not.mp c302_2
                                            refine R_lo (nx := 306) rfl rfl rfl rfl ?_
                                            refine R_lo (nx := 307) rfl rfl rfl rfl ?_
                                            refine R_lo (nx := 309) rfl rfl rfl rfl ?_
                                            refine R_lo (nx := 311) rfl rfl rfl rfl ?_
                                            refine R_call1 (nx := 314) (as := [(2, 71), (0, o), (0, y), (0, k)]) (rest := [(0, (Rw (AK A c) (AK A o) x y (Xn (AK A c)) k (x * (Xn (AK A o)) + k))), (0, ((576 + (12 * ((x * (Xn (AK A o))) + y))) + (x * (Xn (AK A o)) + k))), (2, 75)]) rfl rfl (fun _ _ => rfl) rfl rfl rfl rfl rfl rfl rfl rfl (Cl.mono (c_M_edge S4 o (by omega) (AK A o) (show MRr S4 o (AK A o) by first | assumption | exact MR.r (by assumption) | exact MRr.up (by assumption) (by omega) | exact MRr.up (MR.r (by assumption)) (by omega) | exact MRr.up (MRr.up (MR.r (by assumption)) (by omega)) (by omega)) y k (by omega) (by omega)) ?_)
                                            rintro _ _ ⟨rfl, rfl⟩
                                            refine ⟨_, rfl, ?_⟩
                                            refine R_op (nx := 317) (pc' := 327) rfl rfl rfl ?_
                                            refine R_iadd (nx := 328) (z := ((Rw (AK A c) (AK A o) x y (Xn (AK A c)) k (x * (Xn (AK A o)) + k)) + (Xe (AK A o) y k))) rfl rfl rfl ⟨by omega, by omega⟩ ?_
                                            refine R_iast (nx := 329) rfl rfl (mm_el_ok 1 720 (by decide) rfl (by decide) (by omega) (by omega)) ?_
                                            refine R_iinc (nx := 332) (z := (k + 1)) (ls' := [(2, 71), (0, c), (0, o), (0, t), (0, (Xn (AK A o))), (0, fw), (0, x), (0, y), (9, 0), (9, 0), (9, 0), (0, (k + 1))]) rfl rfl rfl rfl ⟨by omega, by omega⟩ rfl ?_
                                            refine R_op (nx := 335) (pc' := 256) rfl rfl rfl ?_
                                            refine Rn.weak (ls' := [(2, 71), (0, c), (0, o), (0, t), (0, (Xn (AK A o))), (0, fw), (0, x), (0, y), (9, 0), (9, 0), (9, 0), (0, (k + 1))]) ⟨Or.inl rfl, ⟨Or.inl rfl, ⟨Or.inl rfl, ⟨Or.inl rfl, ⟨Or.inl rfl, ⟨Or.inl rfl, ⟨Or.inl rfl, ⟨Or.inl rfl, ⟨Or.inl rfl, ⟨Or.inl rfl, ⟨Or.inl rfl, ⟨Or.inl rfl, trivial⟩⟩⟩⟩⟩⟩⟩⟩⟩⟩⟩⟩ ?_
                                            refine ih256 ((mm_up S4 75 ((576 + (12 * ((x * (Xn (AK A o))) + y))) + (x * (Xn (AK A o)) + k)) ((Rw (AK A c) (AK A o) x y (Xn (AK A c)) k (x * (Xn (AK A o)) + k)) + (Xe (AK A o) y k)))) (fw) ((k + 1)) ?_ ?_ ?_ ?_ ?_ ?_ ?_
                                            · omega
                                            · omega
                                            · exact lT
                                            · exact lE.b h12 hxx hyy (by omega) (by first | (rw [hsx, if_neg (by omega), Int.one_mul]; done) | (rw [hsx, if_pos (by omega)]; omega))
                                            · exact lD.fr (mm_unq (by decide)) (mm_unq (by decide))
                                            · exact lO.u75 _ (by omega)
                                            · intro b hb; rw [mm_unq (by omega)]; exact lF b hb
                                    refine Rn.weak (ls' := [(2, 71), (0, c), (0, o), (0, t), (0, (Xn (AK A o))), (0, fv), (0, x), (0, y), (9, 0), (9, 0), (9, 0), (0, 0)]) ⟨Or.inl rfl, ⟨Or.inl rfl, ⟨Or.inl rfl, ⟨Or.inl rfl, ⟨Or.inl rfl, ⟨Or.inl rfl, ⟨Or.inl rfl, ⟨Or.inl rfl, ⟨Or.inl rfl, ⟨Or.inl rfl, ⟨Or.inl rfl, ⟨Or.inl rfl, trivial⟩⟩⟩⟩⟩⟩⟩⟩⟩⟩⟩⟩ ?_
                                    refine L256 (((Xn (AK A o)) - (0)).toNat + 1) (S3) (fv) (0) (Nat.lt_succ_self _) ?_ ?_ ?_ ?_ ?_ ?_
                                    · omega
                                    · exact jT
                                    · have e : k = (Xn (AK A c)) := by omega
                                      rw [e] at jE
                                      exact jE
                                    · exact jD
                                    · exact jO
                                    · exact jF
                                  ·
                                    have pk := pk (by omega)
                                    refine R_lo (nx := 207) rfl rfl rfl rfl ?_
                                    refine R_get (nx := 210) (w := (2, 75)) rfl rfl rfl rfl ?_
                                    refine R_op (nx := 213) rfl rfl rfl ?_
                                    refine R_op (nx := 215) rfl rfl rfl ?_
                                    refine R_lo (nx := 217) rfl rfl rfl rfl ?_
                                    refine R_lo (nx := 219) rfl rfl rfl rfl ?_
                                    refine R_imul (nx := 220) (z := ((Xn (AK A o)) * x)) rfl rfl rfl ⟨by omega, by omega⟩ ?_
                                    refine R_cv (w := (x * (Xn (AK A o)))) (by rw [Int.mul_comm]) ?_
                                    refine R_lo (nx := 222) rfl rfl rfl rfl ?_
                                    refine R_iadd (nx := 223) (z := ((x * (Xn (AK A o))) + y)) rfl rfl rfl ⟨by omega, by omega⟩ ?_
                                    refine R_imul (nx := 224) (z := (12 * ((x * (Xn (AK A o))) + y))) rfl rfl rfl ⟨by omega, by omega⟩ ?_
                                    refine R_iadd (nx := 225) (z := (576 + (12 * ((x * (Xn (AK A o))) + y)))) rfl rfl rfl ⟨by omega, by omega⟩ ?_
                                    refine R_lo (nx := 227) rfl rfl rfl rfl ?_
                                    refine R_lo (nx := 229) rfl rfl rfl rfl ?_
                                    refine R_imul (nx := 230) (z := ((Xn (AK A o)) * k)) rfl rfl rfl ⟨by omega, by omega⟩ ?_
                                    refine R_cv (w := (k * (Xn (AK A o)))) (by rw [Int.mul_comm]) ?_
                                    refine R_iadd (nx := 231) (z := ((576 + (12 * ((x * (Xn (AK A o))) + y))) + (k * (Xn (AK A o))))) rfl rfl rfl ⟨by omega, by omega⟩ ?_
                                    refine R_lo (nx := 233) rfl rfl rfl rfl ?_
                                    refine R_iadd (nx := 234) (z := (((576 + (12 * ((x * (Xn (AK A o))) + y))) + (k * (Xn (AK A o)))) + y)) rfl rfl rfl ⟨by omega, by omega⟩ ?_
                                    refine R_op (nx := 235) rfl rfl rfl ?_
                                    refine R_iald (nx := 236) rfl rfl (mm_el_ok 1 720 (by decide) rfl (by decide) (by omega) (by omega)) ?_
                                    rw [Int.add_assoc (576 + 12 * (x * (Xn (AK A o)) + y)), jE.rd (by omega) (by omega)]
                                    refine R_lo (nx := 237) rfl rfl rfl rfl ?_
                                    refine R_lo (nx := 238) rfl rfl rfl rfl ?_
                                    refine R_lo (nx := 240) rfl rfl rfl rfl ?_
                                    refine R_lo (nx := 242) rfl rfl rfl rfl ?_
                                    refine R_call1 (nx := 245) (as := [(2, 71), (0, c), (0, x), (0, k)]) (rest := [(0, (Rw (AK A c) (AK A o) x y k 0 (k * (Xn (AK A o)) + y))), (0, ((576 + (12 * ((x * (Xn (AK A o))) + y))) + (k * (Xn (AK A o)) + y))), (2, 75)]) rfl rfl (fun _ _ => rfl) rfl rfl rfl rfl rfl rfl rfl rfl (Cl.mono (c_M_edge S3 c (by omega) (AK A c) (show MRr S3 c (AK A c) by first | assumption | exact MR.r (by assumption) | exact MRr.up (by assumption) (by omega) | exact MRr.up (MR.r (by assumption)) (by omega) | exact MRr.up (MRr.up (MR.r (by assumption)) (by omega)) (by omega)) x k (by omega) (by omega)) ?_)
                                    rintro _ _ ⟨rfl, rfl⟩
                                    refine ⟨_, rfl, ?_⟩
                                    refine R_iadd (nx := 246) (z := ((Rw (AK A c) (AK A o) x y k 0 (k * (Xn (AK A o)) + y)) + (Xe (AK A c) x k))) rfl rfl rfl ⟨by omega, by omega⟩ ?_
                                    refine R_iast (nx := 247) rfl rfl (mm_el_ok 1 720 (by decide) rfl (by decide) (by omega) (by omega)) ?_
                                    refine R_iinc (nx := 250) (z := (k + 1)) (ls' := [(2, 71), (0, c), (0, o), (0, t), (0, (Xn (AK A o))), (0, fv), (0, x), (0, y), (9, 0), (9, 0), (9, 0), (0, (k + 1))]) rfl rfl rfl rfl ⟨by omega, by omega⟩ rfl ?_
                                    refine R_op (nx := 253) (pc' := 195) rfl rfl rfl ?_
                                    refine Rn.weak (ls' := [(2, 71), (0, c), (0, o), (0, t), (0, (Xn (AK A o))), (0, fv), (0, x), (0, y), (9, 0), (9, 0), (9, 0), (0, (k + 1))]) ⟨Or.inl rfl, ⟨Or.inl rfl, ⟨Or.inl rfl, ⟨Or.inl rfl, ⟨Or.inl rfl, ⟨Or.inl rfl, ⟨Or.inl rfl, ⟨Or.inl rfl, ⟨Or.inl rfl, ⟨Or.inl rfl, ⟨Or.inl rfl, ⟨Or.inl rfl, trivial⟩⟩⟩⟩⟩⟩⟩⟩⟩⟩⟩⟩ ?_
                                    refine ih195 ((mm_up S3 75 ((576 + (12 * ((x * (Xn (AK A o))) + y))) + (k * (Xn (AK A o)) + y)) ((Rw (AK A c) (AK A o) x y k 0 (k * (Xn (AK A o)) + y)) + (Xe (AK A c) x k)))) (fv) ((k + 1)) ?_ ?_ ?_ ?_ ?_ ?_ ?_
                                    · omega
                                    · omega
                                    · exact jT
                                    · exact jE.a h12 hxx hyy (by omega)
                                    · exact jD.fr (mm_unq (by decide)) (mm_unq (by decide))
                                    · exact jO.u75 _ (by omega)
                                    · intro b hb; rw [mm_unq (by omega)]; exact jF b hb
                              refine Rn.weak (ls' := [(2, 71), (0, c), (0, o), (0, t), (0, (Xn (AK A o))), (0, 0), (0, x), (0, y), (9, 0), (9, 0), (9, 0), (0, 0)]) ⟨Or.inl rfl, ⟨Or.inl rfl, ⟨Or.inl rfl, ⟨Or.inl rfl, ⟨Or.inl rfl, ⟨Or.inl rfl, ⟨Or.inl rfl, ⟨Or.inl rfl, ⟨Or.inr rfl, ⟨Or.inr rfl, ⟨Or.inr rfl, ⟨Or.inl rfl, trivial⟩⟩⟩⟩⟩⟩⟩⟩⟩⟩⟩⟩ ?_
                              refine L195 (((Xn (AK A c)) - (0)).toNat + 1) (S189_2) (0) (0) (Nat.lt_succ_self _) ?_ ?_ ?_ ?_ ?_ ?_
                              · omega
                              · first | exact gT.y (by omega) (by omega) (by omega) (by omega) | exact FT.n (ft := fu) r0 r7 hxx hyy (by first | exact Or.inl ⟨by omega, gT⟩ | exact Or.inr (by omega)) _ _
                              · exact (ERw.st0 z7.1 gE).fr (by rw [e189_2, mm_unq (by decide), mm_unq (by decide), mm_unq (by decide)])
                              · refine gD.st (by omega) e189_2 ?_; have q := hPk.2.2.1 x y hxx hyy; exact ⟨q.1.symm, q.2.1.symm, q.2.2.symm⟩
                              · rw [e189_2]; exact gO.sets _ _ _ (by omega) (by omega)
                              · intro b hb; rw [e189_2, mm_unq (by omega), mm_unq (by omega), mm_unq (by omega)]; exact gF b hb
                            ·
                              refine R_lo (nx := 161) rfl rfl rfl rfl ?_
                              refine R_op (nx := 163) rfl rfl rfl ?_
                              refine R_icmp (nx := 166) (tg := 170) rfl rfl rfl (mm_cnd_gt _ _) (fun c163 => ?_) (fun c163 => ?_)
                              ·
                                refine R_op (nx := 171) rfl rfl rfl ?_
                                refine R_lo (nx := 173) (ls' := [(2, 71), (0, c), (0, o), (0, t), (0, (Xn (AK A o))), (0, 0), (0, x), (0, y), (0, ((Xd (AK A c) x) + (Xd (AK A o) y))), (0, ((Xl (AK A c) 0 x) + (Xl (AK A o) 0 y))), (0, ((Xl (AK A c) 1 x) + (Xl (AK A o) 1 y))), (9, 0)]) rfl rfl rfl rfl ?_
                                refine R_lo (nx := 174) rfl rfl rfl rfl ?_
                                refine R_op (nx := 175) rfl rfl rfl ?_
                                refine R_lo (nx := 177) rfl rfl rfl rfl ?_
                                refine R_lo (nx := 179) rfl rfl rfl rfl ?_
                                refine R_imul (nx := 180) (z := ((Xn (AK A o)) * x)) rfl rfl rfl ⟨by omega, by omega⟩ ?_
                                refine R_cv (w := (x * (Xn (AK A o)))) (by rw [Int.mul_comm]) ?_
                                refine R_lo (nx := 182) rfl rfl rfl rfl ?_
                                refine R_iadd (nx := 183) (z := ((x * (Xn (AK A o))) + y)) rfl rfl rfl ⟨by omega, by omega⟩ ?_
                                refine R_lo (nx := 185) rfl rfl rfl rfl ?_
                                refine R_lo (nx := 187) rfl rfl rfl rfl ?_
                                refine R_lo (nx := 189) rfl rfl rfl rfl ?_
                                refine R_call0 (nx := 192) (as := [(2, 71), (0, 4), (0, ((x * (Xn (AK A o))) + y)), (0, ((Xd (AK A c) x) + (Xd (AK A o) y))), (0, ((Xl (AK A c) 0 x) + (Xl (AK A o) 0 y))), (0, ((Xl (AK A c) 1 x) + (Xl (AK A o) 1 y)))]) (rest := []) rfl rfl (fun _ _ => rfl) rfl rfl rfl rfl rfl rfl rfl rfl (Cl.mono (c_M_sets S2 4 ((x * (Xn (AK A o))) + y) ((Xd (AK A c) x) + (Xd (AK A o) y)) ((Xl (AK A c) 0 x) + (Xl (AK A o) 0 y)) ((Xl (AK A c) 1 x) + (Xl (AK A o) 1 y)) (by omega) (by omega)) ?_)
                                rintro _ S189_3 ⟨rfl, e189_3⟩
                                refine ⟨rfl, ?_⟩
                                refine R_op (nx := 193) rfl rfl rfl ?_
                                refine R_lo (nx := 195) (ls' := [(2, 71), (0, c), (0, o), (0, t), (0, (Xn (AK A o))), (0, 0), (0, x), (0, y), (0, ((Xd (AK A c) x) + (Xd (AK A o) y))), (0, ((Xl (AK A c) 0 x) + (Xl (AK A o) 0 y))), (0, ((Xl (AK A c) 1 x) + (Xl (AK A o) 1 y))), (0, 0)]) rfl rfl rfl rfl ?_
                                have L195 : ∀ (f195 : Nat) (S3 : mm_S) (fv : Int) (k : Int), ((Xn (AK A c)) - k).toNat < f195 → (0 ≤ k ∧ k ≤ (Xn (AK A c))) → (FT (AK A c) (AK A o) fv x (y + 1)) → (ERw S3 (AK A c) (AK A o) x y k 0) → (DPa S3 (Xprod (AK A c) (AK A o)) ((x * (Xn (AK A o)) + y) + 1)) → (Oth S S3 4) → (∀ b, ¬ (72 ≤ b ∧ b ≤ 75) → S3 b = S b) → Rn k_M_times 195 [(2, 71), (0, c), (0, o), (0, t), (0, (Xn (AK A o))), (0, fv), (0, x), (0, y), (9, 0), (9, 0), (9, 0), (0, k)] [] S3 (fun vv S' => vv = some (0, (Q_times A c o t).1) ∧ RR S' (Q_times A c o t).2 ∧ ∀ b, ¬ (71 ≤ b ∧ b < 91) → S' b = S b) := by
                                  intro f195
                                  induction f195 with
                                  | zero => intro S3 fv k hm195; exact absurd hm195 (Nat.not_lt_zero _)
                                  | succ f195 ih195 =>
                                    intro S3 fv k hm195 hk jT jE jD jO jF
                                    have k1 := jO c _ (by omega) (by omega) (by omega) k0
                                    have n1 := k1.n
                                    have k8 := jO o _ (by omega) (by omega) (by omega) k7
                                    have cmk : (Xn (AK A o)) * k = k * (Xn (AK A o)) := Int.mul_comm _ _
                                    have pk := fun q => prng (x := k) (y := y) (n := (Xn (AK A c))) (m := (Xn (AK A o))) q hyy
                                    have hRb := Rw_b r0 r7 x y k 0 (k * (Xn (AK A o)) + y)
                                    have heb := r0.e x k
                                    refine R_lo (nx := 197) rfl rfl rfl rfl ?_
                                    refine R_lo (nx := 198) rfl rfl rfl rfl ?_
                                    refine R_get (nx := 201) (w := (2, 72)) rfl rfl rfl rfl ?_
                                    refine R_lo (nx := 202) rfl rfl rfl rfl ?_
                                    refine R_iald (nx := 203) rfl rfl (mm_el_ok 1 5 (by decide) rfl (by decide) (by omega) (by omega)) ?_
                                    refine R_icmp (nx := 206) (tg := 253) rfl rfl rfl (mm_cnd_ge _ _) (fun c203_3 => ?_) (fun c203_3 => ?_)
                                    ·
                                      refine R_op (nx := 254) rfl rfl rfl ?_
                                      refine R_lo (nx := 256) (ls' := [(2, 71), (0, c), (0, o), (0, t), (0, (Xn (AK A o))), (0, fv), (0, x), (0, y), (9, 0), (9, 0), (9, 0), (0, 0)]) rfl rfl rfl rfl ?_
                                      have L256 : ∀ (f256 : Nat) (S4 : mm_S) (fw : Int) (k : Int), ((Xn (AK A o)) - k).toNat < f256 → (0 ≤ k ∧ k ≤ (Xn (AK A o))) → (FT (AK A c) (AK A o) fw x (y + 1)) → (ERw S4 (AK A c) (AK A o) x y (Xn (AK A c)) k) → (DPa S4 (Xprod (AK A c) (AK A o)) ((x * (Xn (AK A o)) + y) + 1)) → (Oth S S4 4) → (∀ b, ¬ (72 ≤ b ∧ b ≤ 75) → S4 b = S b) → Rn k_M_times 256 [(2, 71), (0, c), (0, o), (0, t), (0, (Xn (AK A o))), (0, fw), (0, x), (0, y), (9, 0), (9, 0), (9, 0), (0, k)] [] S4 (fun vv S' => vv = some (0, (Q_times A c o t).1) ∧ RR S' (Q_times A c o t).2 ∧ ∀ b, ¬ (71 ≤ b ∧ b < 91) → S' b = S b) := by
                                        intro f256
                                        induction f256 with
                                        | zero => intro S4 fw k hm256; exact absurd hm256 (Nat.not_lt_zero _)
                                        | succ f256 ih256 =>
                                          intro S4 fw k hm256 hk lT lE lD lO lF
                                          have k1 := lO c _ (by omega) (by omega) (by omega) k0
                                          have n1 := k1.n
                                          have k8 := lO o _ (by omega) (by omega) (by omega) k7
                                          have pk := fun q => prng (x := x) (y := k) (n := (Xn (AK A c))) (m := (Xn (AK A o))) hxx q
                                          have hRb := Rw_b r0 r7 x y (Xn (AK A c)) k (x * (Xn (AK A o)) + k)
                                          have heb := r7.e y k
                                          have hsx : Xsg (AK A c) x = if Xd (AK A c) x % 2 = 1 then -1 else 1 := rfl
                                          refine R_lo (nx := 258) rfl rfl rfl rfl ?_
                                          refine R_lo (nx := 260) rfl rfl rfl rfl ?_
                                          refine R_icmp (nx := 263) (tg := 335) rfl rfl rfl (mm_cnd_ge _ _) (fun c260_3 => ?_) (fun c260_3 => ?_)
                                          ·
                                            refine R_iinc (nx := 338) (z := (y + 1)) (ls' := [(2, 71), (0, c), (0, o), (0, t), (0, (Xn (AK A o))), (0, fw), (0, x), (0, (y + 1)), (9, 0), (9, 0), (9, 0), (0, k)]) rfl rfl rfl rfl ⟨by omega, by omega⟩ rfl ?_
                                            refine R_op (nx := 341) (pc' := 79) rfl rfl rfl ?_
                                            refine Rn.weak (ls' := [(2, 71), (0, c), (0, o), (0, t), (0, (Xn (AK A o))), (0, fw), (0, x), (0, (y + 1)), (9, 0), (9, 0), (9, 0), (9, 0)]) ⟨Or.inl rfl, ⟨Or.inl rfl, ⟨Or.inl rfl, ⟨Or.inl rfl, ⟨Or.inl rfl, ⟨Or.inl rfl, ⟨Or.inl rfl, ⟨Or.inl rfl, ⟨Or.inl rfl, ⟨Or.inl rfl, ⟨Or.inl rfl, ⟨Or.inr rfl, trivial⟩⟩⟩⟩⟩⟩⟩⟩⟩⟩⟩⟩ ?_
                                            refine ih79 (S4) (fw) ((y + 1)) ?_ ?_ ?_ ?_ ?_ ?_ ?_
                                            · omega
                                            · omega
                                            · exact lT
                                            · have e : k = (Xn (AK A o)) := by omega
                                              rw [e] at lE
                                              exact lE.fin h12 hxx hyy
                                            · rw [← Int.add_assoc]; exact lD
                                            · exact lO
                                            · exact lF
                                          ·
                                            have pk := pk (by omega)
                                            have hdx := hdt x
                                            refine R_lo (nx := 264) rfl rfl rfl rfl ?_
                                            refine R_get (nx := 267) (w := (2, 75)) rfl rfl rfl rfl ?_
                                            refine R_op (nx := 270) rfl rfl rfl ?_
                                            refine R_op (nx := 272) rfl rfl rfl ?_
                                            refine R_lo (nx := 274) rfl rfl rfl rfl ?_
                                            refine R_lo (nx := 276) rfl rfl rfl rfl ?_
                                            refine R_imul (nx := 277) (z := ((Xn (AK A o)) * x)) rfl rfl rfl ⟨by omega, by omega⟩ ?_
                                            refine R_cv (w := (x * (Xn (AK A o)))) (by rw [Int.mul_comm]) ?_
                                            refine R_lo (nx := 279) rfl rfl rfl rfl ?_
                                            refine R_iadd (nx := 280) (z := ((x * (Xn (AK A o))) + y)) rfl rfl rfl ⟨by omega, by omega⟩ ?_
                                            refine R_imul (nx := 281) (z := (12 * ((x * (Xn (AK A o))) + y))) rfl rfl rfl ⟨by omega, by omega⟩ ?_
                                            refine R_iadd (nx := 282) (z := (576 + (12 * ((x * (Xn (AK A o))) + y)))) rfl rfl rfl ⟨by omega, by omega⟩ ?_
                                            refine R_lo (nx := 284) rfl rfl rfl rfl ?_
                                            refine R_lo (nx := 286) rfl rfl rfl rfl ?_
                                            refine R_imul (nx := 287) (z := ((Xn (AK A o)) * x)) rfl rfl rfl ⟨by omega, by omega⟩ ?_
                                            refine R_cv (w := (x * (Xn (AK A o)))) (by rw [Int.mul_comm]) ?_
                                            refine R_iadd (nx := 288) (z := ((576 + (12 * ((x * (Xn (AK A o))) + y))) + (x * (Xn (AK A o))))) rfl rfl rfl ⟨by omega, by omega⟩ ?_
                                            refine R_lo (nx := 290) rfl rfl rfl rfl ?_
                                            refine R_iadd (nx := 291) (z := (((576 + (12 * ((x * (Xn (AK A o))) + y))) + (x * (Xn (AK A o)))) + k)) rfl rfl rfl ⟨by omega, by omega⟩ ?_
                                            refine R_op (nx := 292) rfl rfl rfl ?_
                                            refine R_iald (nx := 293) rfl rfl (mm_el_ok 1 720 (by decide) rfl (by decide) (by omega) (by omega)) ?_
                                            rw [Int.add_assoc (576 + 12 * (x * (Xn (AK A o)) + y)), lE.rd (by omega) (by omega)]
                                            refine R_lo (nx := 294) rfl rfl rfl rfl ?_
                                            refine R_lo (nx := 295) rfl rfl rfl rfl ?_
                                            refine R_lo (nx := 297) rfl rfl rfl rfl ?_
                                            refine R_call1 (nx := 300) (as := [(2, 71), (0, c), (0, x)]) (rest := [(0, (Rw (AK A c) (AK A o) x y (Xn (AK A c)) k (x * (Xn (AK A o)) + k))), (0, ((576 + (12 * ((x * (Xn (AK A o))) + y))) + (x * (Xn (AK A o)) + k))), (2, 75)]) rfl rfl (fun _ _ => rfl) rfl rfl rfl rfl rfl rfl rfl rfl (Cl.mono (c_M_degree S4 c (by omega) (AK A c) (show MRr S4 c (AK A c) by first | assumption | exact MR.r (by assumption) | exact MRr.up (by assumption) (by omega) | exact MRr.up (MR.r (by assumption)) (by omega) | exact MRr.up (MRr.up (MR.r (by assumption)) (by omega)) (by omega)) x (by omega)) ?_)
                                            rintro _ _ ⟨rfl, rfl⟩
                                            refine ⟨_, rfl, ?_⟩
                                            refine R_op (nx := 301) rfl rfl rfl ?_
                                            refine R_irem (nx := 302) (z := (Int.tmod (Xd (AK A c) x) 2)) rfl rfl (by decide) rfl ?_
                                            refine R_if (nx := 305) (tg := 317) rfl rfl rfl (mm_cnd_ne _ _) (fun c302_3 => ?_) (fun c302_3 => ?_)
                                            ·
                                              refine R_lo (nx := 318) rfl rfl rfl rfl ?_
                                              refine R_lo (nx := 319) rfl rfl rfl rfl ?_
                                              refine R_lo (nx := 321) rfl rfl rfl rfl ?_
                                              refine R_lo (nx := 323) rfl rfl rfl rfl ?_
                                              refine R_call1 (nx := 326) (as := [(2, 71), (0, o), (0, y), (0, k)]) (rest := [(0, (Rw (AK A c) (AK A o) x y (Xn (AK A c)) k (x * (Xn (AK A o)) + k))), (0, ((576 + (12 * ((x * (Xn (AK A o))) + y))) + (x * (Xn (AK A o)) + k))), (2, 75)]) rfl rfl (fun _ _ => rfl) rfl rfl rfl rfl rfl rfl rfl rfl (Cl.mono (c_M_edge S4 o (by omega) (AK A o) (show MRr S4 o (AK A o) by first | assumption | exact MR.r (by assumption) | exact MRr.up (by assumption) (by omega) | exact MRr.up (MR.r (by assumption)) (by omega) | exact MRr.up (MRr.up (MR.r (by assumption)) (by omega)) (by omega)) y k (by omega) (by omega)) ?_)
                                              rintro _ _ ⟨rfl, rfl⟩
                                              refine ⟨_, rfl, ?_⟩
                                              refine R_ineg (nx := 327) (z := (-(Xe (AK A o) y k))) rfl rfl rfl ⟨by omega, by omega⟩ ?_
                                              refine R_iadd (nx := 328) (z := ((Rw (AK A c) (AK A o) x y (Xn (AK A c)) k (x * (Xn (AK A o)) + k)) + (-(Xe (AK A o) y k)))) rfl rfl rfl ⟨by omega, by omega⟩ ?_
                                              refine R_iast (nx := 329) rfl rfl (mm_el_ok 1 720 (by decide) rfl (by decide) (by omega) (by omega)) ?_
                                              refine R_iinc (nx := 332) (z := (k + 1)) (ls' := [(2, 71), (0, c), (0, o), (0, t), (0, (Xn (AK A o))), (0, fw), (0, x), (0, y), (9, 0), (9, 0), (9, 0), (0, (k + 1))]) rfl rfl rfl rfl ⟨by omega, by omega⟩ rfl ?_
                                              refine R_op (nx := 335) (pc' := 256) rfl rfl rfl ?_
                                              refine Rn.weak (ls' := [(2, 71), (0, c), (0, o), (0, t), (0, (Xn (AK A o))), (0, fw), (0, x), (0, y), (9, 0), (9, 0), (9, 0), (0, (k + 1))]) ⟨Or.inl rfl, ⟨Or.inl rfl, ⟨Or.inl rfl, ⟨Or.inl rfl, ⟨Or.inl rfl, ⟨Or.inl rfl, ⟨Or.inl rfl, ⟨Or.inl rfl, ⟨Or.inl rfl, ⟨Or.inl rfl, ⟨Or.inl rfl, ⟨Or.inl rfl, trivial⟩⟩⟩⟩⟩⟩⟩⟩⟩⟩⟩⟩ ?_
                                              refine ih256 ((mm_up S4 75 ((576 + (12 * ((x * (Xn (AK A o))) + y))) + (x * (Xn (AK A o)) + k)) ((Rw (AK A c) (AK A o) x y (Xn (AK A c)) k (x * (Xn (AK A o)) + k)) + (-(Xe (AK A o) y k))))) (fw) ((k + 1)) ?_ ?_ ?_ ?_ ?_ ?_ ?_
                                              · omega
                                              · omega
                                              · exact lT
                                              · exact lE.b h12 hxx hyy (by omega) (by first | (rw [hsx, if_neg (by omega), Int.one_mul]; done) | (rw [hsx, if_pos (by omega)]; omega))
                                              · exact lD.fr (mm_unq (by decide)) (mm_unq (by decide))
                                              · exact lO.u75 _ (by omega)
                                              · intro b hb; rw [mm_unq (by omega)]; exact lF b hb
                                            ·
                                              replace c302_3 := Classical.not_not.mp c302_3
                                              refine R_lo (nx := 306) rfl rfl rfl rfl ?_
                                              refine R_lo (nx := 307) rfl rfl rfl rfl ?_
                                              refine R_lo (nx := 309) rfl rfl rfl rfl ?_
                                              refine R_lo (nx := 311) rfl rfl rfl rfl ?_
                                              refine R_call1 (nx := 314) (as := [(2, 71), (0, o), (0, y), (0, k)]) (rest := [(0, (Rw (AK A c) (AK A o) x y (Xn (AK A c)) k (x * (Xn (AK A o)) + k))), (0, ((576 + (12 * ((x * (Xn (AK A o))) + y))) + (x * (Xn (AK A o)) + k))), (2, 75)]) rfl rfl (fun _ _ => rfl) rfl rfl rfl rfl rfl rfl rfl rfl (Cl.mono (c_M_edge S4 o (by omega) (AK A o) (show MRr S4 o (AK A o) by first | assumption | exact MR.r (by assumption) | exact MRr.up (by assumption) (by omega) | exact MRr.up (MR.r (by assumption)) (by omega) | exact MRr.up (MRr.up (MR.r (by assumption)) (by omega)) (by omega)) y k (by omega) (by omega)) ?_)
                                              rintro _ _ ⟨rfl, rfl⟩
                                              refine ⟨_, rfl, ?_⟩
                                              refine R_op (nx := 317) (pc' := 327) rfl rfl rfl ?_
                                              refine R_iadd (nx := 328) (z := ((Rw (AK A c) (AK A o) x y (Xn (AK A c)) k (x * (Xn (AK A o)) + k)) + (Xe (AK A o) y k))) rfl rfl rfl ⟨by omega, by omega⟩ ?_
                                              refine R_iast (nx := 329) rfl rfl (mm_el_ok 1 720 (by decide) rfl (by decide) (by omega) (by omega)) ?_
                                              refine R_iinc (nx := 332) (z := (k + 1)) (ls' := [(2, 71), (0, c), (0, o), (0, t), (0, (Xn (AK A o))), (0, fw), (0, x), (0, y), (9, 0), (9, 0), (9, 0), (0, (k + 1))]) rfl rfl rfl rfl ⟨by omega, by omega⟩ rfl ?_
                                              refine R_op (nx := 335) (pc' := 256) rfl rfl rfl ?_
                                              refine Rn.weak (ls' := [(2, 71), (0, c), (0, o), (0, t), (0, (Xn (AK A o))), (0, fw), (0, x), (0, y), (9, 0), (9, 0), (9, 0), (0, (k + 1))]) ⟨Or.inl rfl, ⟨Or.inl rfl, ⟨Or.inl rfl, ⟨Or.inl rfl, ⟨Or.inl rfl, ⟨Or.inl rfl, ⟨Or.inl rfl, ⟨Or.inl rfl, ⟨Or.inl rfl, ⟨Or.inl rfl, ⟨Or.inl rfl, ⟨Or.inl rfl, trivial⟩⟩⟩⟩⟩⟩⟩⟩⟩⟩⟩⟩ ?_
                                              refine ih256 ((mm_up S4 75 ((576 + (12 * ((x * (Xn (AK A o))) + y))) + (x * (Xn (AK A o)) + k)) ((Rw (AK A c) (AK A o) x y (Xn (AK A c)) k (x * (Xn (AK A o)) + k)) + (Xe (AK A o) y k)))) (fw) ((k + 1)) ?_ ?_ ?_ ?_ ?_ ?_ ?_
                                              · omega
                                              · omega
                                              · exact lT
                                              · exact lE.b h12 hxx hyy (by omega) (by first | (rw [hsx, if_neg (by omega), Int.one_mul]; done) | (rw [hsx, if_pos (by omega)]; omega))
                                              · exact lD.fr (mm_unq (by decide)) (mm_unq (by decide))
                                              · exact lO.u75 _ (by omega)
                                              · intro b hb; rw [mm_unq (by omega)]; exact lF b hb
                                      refine Rn.weak (ls' := [(2, 71), (0, c), (0, o), (0, t), (0, (Xn (AK A o))), (0, fv), (0, x), (0, y), (9, 0), (9, 0), (9, 0), (0, 0)]) ⟨Or.inl rfl, ⟨Or.inl rfl, ⟨Or.inl rfl, ⟨Or.inl rfl, ⟨Or.inl rfl, ⟨Or.inl rfl, ⟨Or.inl rfl, ⟨Or.inl rfl, ⟨Or.inl rfl, ⟨Or.inl rfl, ⟨Or.inl rfl, ⟨Or.inl rfl, trivial⟩⟩⟩⟩⟩⟩⟩⟩⟩⟩⟩⟩ ?_
                                      refine L256 (((Xn (AK A o)) - (0)).toNat + 1) (S3) (fv) (0) (Nat.lt_succ_self _) ?_ ?_ ?_ ?_ ?_ ?_
                                      · omega
                                      · exact jT
                                      · have e : k = (Xn (AK A c)) := by omega
                                        rw [e] at jE
                                        exact jE
                                      · exact jD
                                      · exact jO
                                      · exact jF
                                    ·
                                      have pk := pk (by omega)
                                      refine R_lo (nx := 207) rfl rfl rfl rfl ?_
                                      refine R_get (nx := 210) (w := (2, 75)) rfl rfl rfl rfl ?_
                                      refine R_op (nx := 213) rfl rfl rfl ?_
                                      refine R_op (nx := 215) rfl rfl rfl ?_
                                      refine R_lo (nx := 217) rfl rfl rfl rfl ?_
                                      refine R_lo (nx := 219) rfl rfl rfl rfl ?_
                                      refine R_imul (nx := 220) (z := ((Xn (AK A o)) * x)) rfl rfl rfl ⟨by omega, by omega⟩ ?_
                                      refine R_cv (w := (x * (Xn (AK A o)))) (by rw [Int.mul_comm]) ?_
                                      refine R_lo (nx := 222) rfl rfl rfl rfl ?_
                                      refine R_iadd (nx := 223) (z := ((x * (Xn (AK A o))) + y)) rfl rfl rfl ⟨by omega, by omega⟩ ?_
                                      refine R_imul (nx := 224) (z := (12 * ((x * (Xn (AK A o))) + y))) rfl rfl rfl ⟨by omega, by omega⟩ ?_
                                      refine R_iadd (nx := 225) (z := (576 + (12 * ((x * (Xn (AK A o))) + y)))) rfl rfl rfl ⟨by omega, by omega⟩ ?_
                                      refine R_lo (nx := 227) rfl rfl rfl rfl ?_
                                      refine R_lo (nx := 229) rfl rfl rfl rfl ?_
                                      refine R_imul (nx := 230) (z := ((Xn (AK A o)) * k)) rfl rfl rfl ⟨by omega, by omega⟩ ?_
                                      refine R_cv (w := (k * (Xn (AK A o)))) (by rw [Int.mul_comm]) ?_
                                      refine R_iadd (nx := 231) (z := ((576 + (12 * ((x * (Xn (AK A o))) + y))) + (k * (Xn (AK A o))))) rfl rfl rfl ⟨by omega, by omega⟩ ?_
                                      refine R_lo (nx := 233) rfl rfl rfl rfl ?_
                                      refine R_iadd (nx := 234) (z := (((576 + (12 * ((x * (Xn (AK A o))) + y))) + (k * (Xn (AK A o)))) + y)) rfl rfl rfl ⟨by omega, by omega⟩ ?_
                                      refine R_op (nx := 235) rfl rfl rfl ?_
                                      refine R_iald (nx := 236) rfl rfl (mm_el_ok 1 720 (by decide) rfl (by decide) (by omega) (by omega)) ?_
                                      rw [Int.add_assoc (576 + 12 * (x * (Xn (AK A o)) + y)), jE.rd (by omega) (by omega)]
                                      refine R_lo (nx := 237) rfl rfl rfl rfl ?_
                                      refine R_lo (nx := 238) rfl rfl rfl rfl ?_
                                      refine R_lo (nx := 240) rfl rfl rfl rfl ?_
                                      refine R_lo (nx := 242) rfl rfl rfl rfl ?_
                                      refine R_call1 (nx := 245) (as := [(2, 71), (0, c), (0, x), (0, k)]) (rest := [(0, (Rw (AK A c) (AK A o) x y k 0 (k * (Xn (AK A o)) + y))), (0, ((576 + (12 * ((x * (Xn (AK A o))) + y))) + (k * (Xn (AK A o)) + y))), (2, 75)]) rfl rfl (fun _ _ => rfl) rfl rfl rfl rfl rfl rfl rfl rfl (Cl.mono (c_M_edge S3 c (by omega) (AK A c) (show MRr S3 c (AK A c) by first | assumption | exact MR.r (by assumption) | exact MRr.up (by assumption) (by omega) | exact MRr.up (MR.r (by assumption)) (by omega) | exact MRr.up (MRr.up (MR.r (by assumption)) (by omega)) (by omega)) x k (by omega) (by omega)) ?_)
                                      rintro _ _ ⟨rfl, rfl⟩
                                      refine ⟨_, rfl, ?_⟩
                                      refine R_iadd (nx := 246) (z := ((Rw (AK A c) (AK A o) x y k 0 (k * (Xn (AK A o)) + y)) + (Xe (AK A c) x k))) rfl rfl rfl ⟨by omega, by omega⟩ ?_
                                      refine R_iast (nx := 247) rfl rfl (mm_el_ok 1 720 (by decide) rfl (by decide) (by omega) (by omega)) ?_
                                      refine R_iinc (nx := 250) (z := (k + 1)) (ls' := [(2, 71), (0, c), (0, o), (0, t), (0, (Xn (AK A o))), (0, fv), (0, x), (0, y), (9, 0), (9, 0), (9, 0), (0, (k + 1))]) rfl rfl rfl rfl ⟨by omega, by omega⟩ rfl ?_
                                      refine R_op (nx := 253) (pc' := 195) rfl rfl rfl ?_
                                      refine Rn.weak (ls' := [(2, 71), (0, c), (0, o), (0, t), (0, (Xn (AK A o))), (0, fv), (0, x), (0, y), (9, 0), (9, 0), (9, 0), (0, (k + 1))]) ⟨Or.inl rfl, ⟨Or.inl rfl, ⟨Or.inl rfl, ⟨Or.inl rfl, ⟨Or.inl rfl, ⟨Or.inl rfl, ⟨Or.inl rfl, ⟨Or.inl rfl, ⟨Or.inl rfl, ⟨Or.inl rfl, ⟨Or.inl rfl, ⟨Or.inl rfl, trivial⟩⟩⟩⟩⟩⟩⟩⟩⟩⟩⟩⟩ ?_
                                      refine ih195 ((mm_up S3 75 ((576 + (12 * ((x * (Xn (AK A o))) + y))) + (k * (Xn (AK A o)) + y)) ((Rw (AK A c) (AK A o) x y k 0 (k * (Xn (AK A o)) + y)) + (Xe (AK A c) x k)))) (fv) ((k + 1)) ?_ ?_ ?_ ?_ ?_ ?_ ?_
                                      · omega
                                      · omega
                                      · exact jT
                                      · exact jE.a h12 hxx hyy (by omega)
                                      · exact jD.fr (mm_unq (by decide)) (mm_unq (by decide))
                                      · exact jO.u75 _ (by omega)
                                      · intro b hb; rw [mm_unq (by omega)]; exact jF b hb
                                refine Rn.weak (ls' := [(2, 71), (0, c), (0, o), (0, t), (0, (Xn (AK A o))), (0, 0), (0, x), (0, y), (9, 0), (9, 0), (9, 0), (0, 0)]) ⟨Or.inl rfl, ⟨Or.inl rfl, ⟨Or.inl rfl, ⟨Or.inl rfl, ⟨Or.inl rfl, ⟨Or.inl rfl, ⟨Or.inl rfl, ⟨Or.inl rfl, ⟨Or.inr rfl, ⟨Or.inr rfl, ⟨Or.inr rfl, ⟨Or.inl rfl, trivial⟩⟩⟩⟩⟩⟩⟩⟩⟩⟩⟩⟩ ?_
                                refine L195 (((Xn (AK A c)) - (0)).toNat + 1) (S189_3) (0) (0) (Nat.lt_succ_self _) ?_ ?_ ?_ ?_ ?_ ?_
                                · omega
                                · first | exact gT.y (by omega) (by omega) (by omega) (by omega) | exact FT.n (ft := fu) r0 r7 hxx hyy (by first | exact Or.inl ⟨by omega, gT⟩ | exact Or.inr (by omega)) _ _
                                · exact (ERw.st0 z7.1 gE).fr (by rw [e189_3, mm_unq (by decide), mm_unq (by decide), mm_unq (by decide)])
                                · refine gD.st (by omega) e189_3 ?_; have q := hPk.2.2.1 x y hxx hyy; exact ⟨q.1.symm, q.2.1.symm, q.2.2.symm⟩
                                · rw [e189_3]; exact gO.sets _ _ _ (by omega) (by omega)
                                · intro b hb; rw [e189_3, mm_unq (by omega), mm_unq (by omega), mm_unq (by omega)]; exact gF b hb
                              ·
                                refine R_op (nx := 167) rfl rfl rfl ?_
                                refine R_op (nx := 170) (pc' := 171) rfl rfl rfl ?_
                                refine R_lo (nx := 173) (ls' := [(2, 71), (0, c), (0, o), (0, t), (0, (Xn (AK A o))), (0, 1), (0, x), (0, y), (0, ((Xd (AK A c) x) + (Xd (AK A o) y))), (0, ((Xl (AK A c) 0 x) + (Xl (AK A o) 0 y))), (0, ((Xl (AK A c) 1 x) + (Xl (AK A o) 1 y))), (9, 0)]) rfl rfl rfl rfl ?_
                                refine R_lo (nx := 174) rfl rfl rfl rfl ?_
                                refine R_op (nx := 175) rfl rfl rfl ?_
                                refine R_lo (nx := 177) rfl rfl rfl rfl ?_
                                refine R_lo (nx := 179) rfl rfl rfl rfl ?_
                                refine R_imul (nx := 180) (z := ((Xn (AK A o)) * x)) rfl rfl rfl ⟨by omega, by omega⟩ ?_
                                refine R_cv (w := (x * (Xn (AK A o)))) (by rw [Int.mul_comm]) ?_
                                refine R_lo (nx := 182) rfl rfl rfl rfl ?_
                                refine R_iadd (nx := 183) (z := ((x * (Xn (AK A o))) + y)) rfl rfl rfl ⟨by omega, by omega⟩ ?_
                                refine R_lo (nx := 185) rfl rfl rfl rfl ?_
                                refine R_lo (nx := 187) rfl rfl rfl rfl ?_
                                refine R_lo (nx := 189) rfl rfl rfl rfl ?_
                                refine R_call0 (nx := 192) (as := [(2, 71), (0, 4), (0, ((x * (Xn (AK A o))) + y)), (0, ((Xd (AK A c) x) + (Xd (AK A o) y))), (0, ((Xl (AK A c) 0 x) + (Xl (AK A o) 0 y))), (0, ((Xl (AK A c) 1 x) + (Xl (AK A o) 1 y)))]) (rest := []) rfl rfl (fun _ _ => rfl) rfl rfl rfl rfl rfl rfl rfl rfl (Cl.mono (c_M_sets S2 4 ((x * (Xn (AK A o))) + y) ((Xd (AK A c) x) + (Xd (AK A o) y)) ((Xl (AK A c) 0 x) + (Xl (AK A o) 0 y)) ((Xl (AK A c) 1 x) + (Xl (AK A o) 1 y)) (by omega) (by omega)) ?_)
                                rintro _ S189_4 ⟨rfl, e189_4⟩
                                refine ⟨rfl, ?_⟩
                                refine R_op (nx := 193) rfl rfl rfl ?_
                                refine R_lo (nx := 195) (ls' := [(2, 71), (0, c), (0, o), (0, t), (0, (Xn (AK A o))), (0, 1), (0, x), (0, y), (0, ((Xd (AK A c) x) + (Xd (AK A o) y))), (0, ((Xl (AK A c) 0 x) + (Xl (AK A o) 0 y))), (0, ((Xl (AK A c) 1 x) + (Xl (AK A o) 1 y))), (0, 0)]) rfl rfl rfl rfl ?_
                                have L195 : ∀ (f195 : Nat) (S3 : mm_S) (fv : Int) (k : Int), ((Xn (AK A c)) - k).toNat < f195 → (0 ≤ k ∧ k ≤ (Xn (AK A c))) → (FT (AK A c) (AK A o) fv x (y + 1)) → (ERw S3 (AK A c) (AK A o) x y k 0) → (DPa S3 (Xprod (AK A c) (AK A o)) ((x * (Xn (AK A o)) + y) + 1)) → (Oth S S3 4) → (∀ b, ¬ (72 ≤ b ∧ b ≤ 75) → S3 b = S b) → Rn k_M_times 195 [(2, 71), (0, c), (0, o), (0, t), (0, (Xn (AK A o))), (0, fv), (0, x), (0, y), (9, 0), (9, 0), (9, 0), (0, k)] [] S3 (fun vv S' => vv = some (0, (Q_times A c o t).1) ∧ RR S' (Q_times A c o t).2 ∧ ∀ b, ¬ (71 ≤ b ∧ b < 91) → S' b = S b) := by
                                  intro f195
                                  induction f195 with
                                  | zero => intro S3 fv k hm195; exact absurd hm195 (Nat.not_lt_zero _)
                                  | succ f195 ih195 =>
                                    intro S3 fv k hm195 hk jT jE jD jO jF
                                    have k1 := jO c _ (by omega) (by omega) (by omega) k0
                                    have n1 := k1.n
                                    have k8 := jO o _ (by omega) (by omega) (by omega) k7
                                    have cmk : (Xn (AK A o)) * k = k * (Xn (AK A o)) := Int.mul_comm _ _
                                    have pk := fun q => prng (x := k) (y := y) (n := (Xn (AK A c))) (m := (Xn (AK A o))) q hyy
                                    have hRb := Rw_b r0 r7 x y k 0 (k * (Xn (AK A o)) + y)
                                    have heb := r0.e x k
                                    refine R_lo (nx := 197) rfl rfl rfl rfl ?_
                                    refine R_lo (nx := 198) rfl rfl rfl rfl ?_
                                    refine R_get (nx := 201) (w := (2, 72)) rfl rfl rfl rfl ?_
                                    refine R_lo (nx := 202) rfl rfl rfl rfl ?_
                                    refine R_iald (nx := 203) rfl rfl (mm_el_ok 1 5 (by decide) rfl (by decide) (by omega) (by omega)) ?_
                                    refine R_icmp (nx := 206) (tg := 253) rfl rfl rfl (mm_cnd_ge _ _) (fun c203_4 => ?_) (fun c203_4 => ?_)
                                    ·
                                      refine R_op (nx := 254) rfl rfl rfl ?_
                                      refine R_lo (nx := 256) (ls' := [(2, 71), (0, c), (0, o), (0, t), (0, (Xn (AK A o))), (0, fv), (0, x), (0, y), (9, 0), (9, 0), (9, 0), (0, 0)]) rfl rfl rfl rfl ?_
                                      have L256 : ∀ (f256 : Nat) (S4 : mm_S) (fw : Int) (k : Int), ((Xn (AK A o)) - k).toNat < f256 → (0 ≤ k ∧ k ≤ (Xn (AK A o))) → (FT (AK A c) (AK A o) fw x (y + 1)) → (ERw S4 (AK A c) (AK A o) x y (Xn (AK A c)) k) → (DPa S4 (Xprod (AK A c) (AK A o)) ((x * (Xn (AK A o)) + y) + 1)) → (Oth S S4 4) → (∀ b, ¬ (72 ≤ b ∧ b ≤ 75) → S4 b = S b) → Rn k_M_times 256 [(2, 71), (0, c), (0, o), (0, t), (0, (Xn (AK A o))), (0, fw), (0, x), (0, y), (9, 0), (9, 0), (9, 0), (0, k)] [] S4 (fun vv S' => vv = some (0, (Q_times A c o t).1) ∧ RR S' (Q_times A c o t).2 ∧ ∀ b, ¬ (71 ≤ b ∧ b < 91) → S' b = S b) := by
                                        intro f256
                                        induction f256 with
                                        | zero => intro S4 fw k hm256; exact absurd hm256 (Nat.not_lt_zero _)
                                        | succ f256 ih256 =>
                                          intro S4 fw k hm256 hk lT lE lD lO lF
                                          have k1 := lO c _ (by omega) (by omega) (by omega) k0
                                          have n1 := k1.n
                                          have k8 := lO o _ (by omega) (by omega) (by omega) k7
                                          have pk := fun q => prng (x := x) (y := k) (n := (Xn (AK A c))) (m := (Xn (AK A o))) hxx q
                                          have hRb := Rw_b r0 r7 x y (Xn (AK A c)) k (x * (Xn (AK A o)) + k)
                                          have heb := r7.e y k
                                          have hsx : Xsg (AK A c) x = if Xd (AK A c) x % 2 = 1 then -1 else 1 := rfl
                                          refine R_lo (nx := 258) rfl rfl rfl rfl ?_
                                          refine R_lo (nx := 260) rfl rfl rfl rfl ?_
                                          refine R_icmp (nx := 263) (tg := 335) rfl rfl rfl (mm_cnd_ge _ _) (fun c260_4 => ?_) (fun c260_4 => ?_)
                                          ·
                                            refine R_iinc (nx := 338) (z := (y + 1)) (ls' := [(2, 71), (0, c), (0, o), (0, t), (0, (Xn (AK A o))), (0, fw), (0, x), (0, (y + 1)), (9, 0), (9, 0), (9, 0), (0, k)]) rfl rfl rfl rfl ⟨by omega, by omega⟩ rfl ?_
                                            refine R_op (nx := 341) (pc' := 79) rfl rfl rfl ?_
                                            refine Rn.weak (ls' := [(2, 71), (0, c), (0, o), (0, t), (0, (Xn (AK A o))), (0, fw), (0, x), (0, (y + 1)), (9, 0), (9, 0), (9, 0), (9, 0)]) ⟨Or.inl rfl, ⟨Or.inl rfl, ⟨Or.inl rfl, ⟨Or.inl rfl, ⟨Or.inl rfl, ⟨Or.inl rfl, ⟨Or.inl rfl, ⟨Or.inl rfl, ⟨Or.inl rfl, ⟨Or.inl rfl, ⟨Or.inl rfl, ⟨Or.inr rfl, trivial⟩⟩⟩⟩⟩⟩⟩⟩⟩⟩⟩⟩ ?_
                                            refine ih79 (S4) (fw) ((y + 1)) ?_ ?_ ?_ ?_ ?_ ?_ ?_
                                            · omega
                                            · omega
                                            · exact lT
                                            · have e : k = (Xn (AK A o)) := by omega
                                              rw [e] at lE
                                              exact lE.fin h12 hxx hyy
                                            · rw [← Int.add_assoc]; exact lD
                                            · exact lO
                                            · exact lF
                                          ·
                                            have pk := pk (by omega)
                                            have hdx := hdt x
                                            refine R_lo (nx := 264) rfl rfl rfl rfl ?_
                                            refine R_get (nx := 267) (w := (2, 75)) rfl rfl rfl rfl ?_
                                            refine R_op (nx := 270) rfl rfl rfl ?_
                                            refine R_op (nx := 272) rfl rfl rfl ?_
                                            refine R_lo (nx := 274) rfl rfl rfl rfl ?_
                                            refine R_lo (nx := 276) rfl rfl rfl rfl ?_
                                            refine R_imul (nx := 277) (z := ((Xn (AK A o)) * x)) rfl rfl rfl ⟨by omega, by omega⟩ ?_
                                            refine R_cv (w := (x * (Xn (AK A o)))) (by rw [Int.mul_comm]) ?_
                                            refine R_lo (nx := 279) rfl rfl rfl rfl ?_
                                            refine R_iadd (nx := 280) (z := ((x * (Xn (AK A o))) + y)) rfl rfl rfl ⟨by omega, by omega⟩ ?_
                                            refine R_imul (nx := 281) (z := (12 * ((x * (Xn (AK A o))) + y))) rfl rfl rfl ⟨by omega, by omega⟩ ?_
                                            refine R_iadd (nx := 282) (z := (576 + (12 * ((x * (Xn (AK A o))) + y)))) rfl rfl rfl ⟨by omega, by omega⟩ ?_
                                            refine R_lo (nx := 284) rfl rfl rfl rfl ?_
                                            refine R_lo (nx := 286) rfl rfl rfl rfl ?_
                                            refine R_imul (nx := 287) (z := ((Xn (AK A o)) * x)) rfl rfl rfl ⟨by omega, by omega⟩ ?_
                                            refine R_cv (w := (x * (Xn (AK A o)))) (by rw [Int.mul_comm]) ?_
                                            refine R_iadd (nx := 288) (z := ((576 + (12 * ((x * (Xn (AK A o))) + y))) + (x * (Xn (AK A o))))) rfl rfl rfl ⟨by omega, by omega⟩ ?_
                                            refine R_lo (nx := 290) rfl rfl rfl rfl ?_
                                            refine R_iadd (nx := 291) (z := (((576 + (12 * ((x * (Xn (AK A o))) + y))) + (x * (Xn (AK A o)))) + k)) rfl rfl rfl ⟨by omega, by omega⟩ ?_
                                            refine R_op (nx := 292) rfl rfl rfl ?_
                                            refine R_iald (nx := 293) rfl rfl (mm_el_ok 1 720 (by decide) rfl (by decide) (by omega) (by omega)) ?_
                                            rw [Int.add_assoc (576 + 12 * (x * (Xn (AK A o)) + y)), lE.rd (by omega) (by omega)]
                                            refine R_lo (nx := 294) rfl rfl rfl rfl ?_
                                            refine R_lo (nx := 295) rfl rfl rfl rfl ?_
                                            refine R_lo (nx := 297) rfl rfl rfl rfl ?_
                                            refine R_call1 (nx := 300) (as := [(2, 71), (0, c), (0, x)]) (rest := [(0, (Rw (AK A c) (AK A o) x y (Xn (AK A c)) k (x * (Xn (AK A o)) + k))), (0, ((576 + (12 * ((x * (Xn (AK A o))) + y))) + (x * (Xn (AK A o)) + k))), (2, 75)]) rfl rfl (fun _ _ => rfl) rfl rfl rfl rfl rfl rfl rfl rfl (Cl.mono (c_M_degree S4 c (by omega) (AK A c) (show MRr S4 c (AK A c) by first | assumption | exact MR.r (by assumption) | exact MRr.up (by assumption) (by omega) | exact MRr.up (MR.r (by assumption)) (by omega) | exact MRr.up (MRr.up (MR.r (by assumption)) (by omega)) (by omega)) x (by omega)) ?_)
                                            rintro _ _ ⟨rfl, rfl⟩
                                            refine ⟨_, rfl, ?_⟩
                                            refine R_op (nx := 301) rfl rfl rfl ?_
                                            refine R_irem (nx := 302) (z := (Int.tmod (Xd (AK A c) x) 2)) rfl rfl (by decide) rfl ?_
                                            refine R_if (nx := 305) (tg := 317) rfl rfl rfl (mm_cnd_ne _ _) (fun c302_4 => ?_) (fun c302_4 => ?_)
                                            ·
                                              refine R_lo (nx := 318) rfl rfl rfl rfl ?_
                                              refine R_lo (nx := 319) rfl rfl rfl rfl ?_
                                              refine R_lo (nx := 321) rfl rfl rfl rfl ?_
                                              refine R_lo (nx := 323) rfl rfl rfl rfl ?_
                                              refine R_call1 (nx := 326) (as := [(2, 71), (0, o), (0, y), (0, k)]) (rest := [(0, (Rw (AK A c) (AK A o) x y (Xn (AK A c)) k (x * (Xn (AK A o)) + k))), (0, ((576 + (12 * ((x * (Xn (AK A o))) + y))) + (x * (Xn (AK A o)) + k))), (2, 75)]) rfl rfl (fun _ _ => rfl) rfl rfl rfl rfl rfl rfl rfl rfl (Cl.mono (c_M_edge S4 o (by omega) (AK A o) (show MRr S4 o (AK A o) by first | assumption | exact MR.r (by assumption) | exact MRr.up (by assumption) (by omega) | exact MRr.up (MR.r (by assumption)) (by omega) | exact MRr.up (MRr.up (MR.r (by assumption)) (by omega)) (by omega)) y k (by omega) (by omega)) ?_)
                                              rintro _ _ ⟨rfl, rfl⟩
                                              refine ⟨_, rfl, ?_⟩
                                              refine R_ineg (nx := 327) (z := (-(Xe (AK A o) y k))) rfl rfl rfl ⟨by omega, by omega⟩ ?_
                                              refine R_iadd (nx := 328) (z := ((Rw (AK A c) (AK A o) x y (Xn (AK A c)) k (x * (Xn (AK A o)) + k)) + (-(Xe (AK A o) y k)))) rfl rfl rfl ⟨by omega, by omega⟩ ?_
                                              refine R_iast (nx := 329) rfl rfl (mm_el_ok 1 720 (by decide) rfl (by decide) (by omega) (by omega)) ?_
                                              refine R_iinc (nx := 332) (z := (k + 1)) (ls' := [(2, 71), (0, c), (0, o), (0, t), (0, (Xn (AK A o))), (0, fw), (0, x), (0, y), (9, 0), (9, 0), (9, 0), (0, (k + 1))]) rfl rfl rfl rfl ⟨by omega, by omega⟩ rfl ?_
                                              refine R_op (nx := 335) (pc' := 256) rfl rfl rfl ?_
                                              refine Rn.weak (ls' := [(2, 71), (0, c), (0, o), (0, t), (0, (Xn (AK A o))), (0, fw), (0, x), (0, y), (9, 0), (9, 0), (9, 0), (0, (k + 1))]) ⟨Or.inl rfl, ⟨Or.inl rfl, ⟨Or.inl rfl, ⟨Or.inl rfl, ⟨Or.inl rfl, ⟨Or.inl rfl, ⟨Or.inl rfl, ⟨Or.inl rfl, ⟨Or.inl rfl, ⟨Or.inl rfl, ⟨Or.inl rfl, ⟨Or.inl rfl, trivial⟩⟩⟩⟩⟩⟩⟩⟩⟩⟩⟩⟩ ?_
                                              refine ih256 ((mm_up S4 75 ((576 + (12 * ((x * (Xn (AK A o))) + y))) + (x * (Xn (AK A o)) + k)) ((Rw (AK A c) (AK A o) x y (Xn (AK A c)) k (x * (Xn (AK A o)) + k)) + (-(Xe (AK A o) y k))))) (fw) ((k + 1)) ?_ ?_ ?_ ?_ ?_ ?_ ?_
                                              · omega
                                              · omega
                                              · exact lT
                                              · exact lE.b h12 hxx hyy (by omega) (by first | (rw [hsx, if_neg (by omega), Int.one_mul]; done) | (rw [hsx, if_pos (by omega)]; omega))
                                              · exact lD.fr (mm_unq (by decide)) (mm_unq (by decide))
                                              · exact lO.u75 _ (by omega)
                                              · intro b hb; rw [mm_unq (by omega)]; exact lF b hb
                                            ·
                                              replace c302_4 := Classical.not_not.mp c302_4
                                              refine R_lo (nx := 306) rfl rfl rfl rfl ?_
                                              refine R_lo (nx := 307) rfl rfl rfl rfl ?_
                                              refine R_lo (nx := 309) rfl rfl rfl rfl ?_
                                              refine R_lo (nx := 311) rfl rfl rfl rfl ?_
                                              refine R_call1 (nx := 314) (as := [(2, 71), (0, o), (0, y), (0, k)]) (rest := [(0, (Rw (AK A c) (AK A o) x y (Xn (AK A c)) k (x * (Xn (AK A o)) + k))), (0, ((576 + (12 * ((x * (Xn (AK A o))) + y))) + (x * (Xn (AK A o)) + k))), (2, 75)]) rfl rfl (fun _ _ => rfl) rfl rfl rfl rfl rfl rfl rfl rfl (Cl.mono (c_M_edge S4 o (by omega) (AK A o) (show MRr S4 o (AK A o) by first | assumption | exact MR.r (by assumption) | exact MRr.up (by assumption) (by omega) | exact MRr.up (MR.r (by assumption)) (by omega) | exact MRr.up (MRr.up (MR.r (by assumption)) (by omega)) (by omega)) y k (by omega) (by omega)) ?_)
                                              rintro _ _ ⟨rfl, rfl⟩
                                              refine ⟨_, rfl, ?_⟩
                                              refine R_op (nx := 317) (pc' := 327) rfl rfl rfl ?_
                                              refine R_iadd (nx := 328) (z := ((Rw (AK A c) (AK A o) x y (Xn (AK A c)) k (x * (Xn (AK A o)) + k)) + (Xe (AK A o) y k))) rfl rfl rfl ⟨by omega, by omega⟩ ?_
                                              refine R_iast (nx := 329) rfl rfl (mm_el_ok 1 720 (by decide) rfl (by decide) (by omega) (by omega)) ?_
                                              refine R_iinc (nx := 332) (z := (k + 1)) (ls' := [(2, 71), (0, c), (0, o), (0, t), (0, (Xn (AK A o))), (0, fw), (0, x), (0, y), (9, 0), (9, 0), (9, 0), (0, (k + 1))]) rfl rfl rfl rfl ⟨by omega, by omega⟩ rfl ?_
                                              refine R_op (nx := 335) (pc' := 256) rfl rfl rfl ?_
                                              refine Rn.weak (ls' := [(2, 71), (0, c), (0, o), (0, t), (0, (Xn (AK A o))), (0, fw), (0, x), (0, y), (9, 0), (9, 0), (9, 0), (0, (k + 1))]) ⟨Or.inl rfl, ⟨Or.inl rfl, ⟨Or.inl rfl, ⟨Or.inl rfl, ⟨Or.inl rfl, ⟨Or.inl rfl, ⟨Or.inl rfl, ⟨Or.inl rfl, ⟨Or.inl rfl, ⟨Or.inl rfl, ⟨Or.inl rfl, ⟨Or.inl rfl, trivial⟩⟩⟩⟩⟩⟩⟩⟩⟩⟩⟩⟩ ?_
                                              refine ih256 ((mm_up S4 75 ((576 + (12 * ((x * (Xn (AK A o))) + y))) + (x * (Xn (AK A o)) + k)) ((Rw (AK A c) (AK A o) x y (Xn (AK A c)) k (x * (Xn (AK A o)) + k)) + (Xe (AK A o) y k)))) (fw) ((k + 1)) ?_ ?_ ?_ ?_ ?_ ?_ ?_
                                              · omega
                                              · omega
                                              · exact lT
                                              · exact lE.b h12 hxx hyy (by omega) (by first | (rw [hsx, if_neg (by omega), Int.one_mul]; done) | (rw [hsx, if_pos (by omega)]; omega))
                                              · exact lD.fr (mm_unq (by decide)) (mm_unq (by decide))
                                              · exact lO.u75 _ (by omega)
                                              · intro b hb; rw [mm_unq (by omega)]; exact lF b hb
                                      refine Rn.weak (ls' := [(2, 71), (0, c), (0, o), (0, t), (0, (Xn (AK A o))), (0, fv), (0, x), (0, y), (9, 0), (9, 0), (9, 0), (0, 0)]) ⟨Or.inl rfl, ⟨Or.inl rfl, ⟨Or.inl rfl, ⟨Or.inl rfl, ⟨Or.inl rfl, ⟨Or.inl rfl, ⟨Or.inl rfl, ⟨Or.inl rfl, ⟨Or.inl rfl, ⟨Or.inl rfl, ⟨Or.inl rfl, ⟨Or.inl rfl, trivial⟩⟩⟩⟩⟩⟩⟩⟩⟩⟩⟩⟩ ?_
                                      refine L256 (((Xn (AK A o)) - (0)).toNat + 1) (S3) (fv) (0) (Nat.lt_succ_self _) ?_ ?_ ?_ ?_ ?_ ?_
                                      · omega
                                      · exact jT
                                      · have e : k = (Xn (AK A c)) := by omega
                                        rw [e] at jE
                                        exact jE
                                      · exact jD
                                      · exact jO
                                      · exact jF
                                    ·
                                      have pk := pk (by omega)
                                      refine R_lo (nx := 207) rfl rfl rfl rfl ?_
                                      refine R_get (nx := 210) (w := (2, 75)) rfl rfl rfl rfl ?_
                                      refine R_op (nx := 213) rfl rfl rfl ?_
                                      refine R_op (nx := 215) rfl rfl rfl ?_
                                      refine R_lo (nx := 217) rfl rfl rfl rfl ?_
                                      refine R_lo (nx := 219) rfl rfl rfl rfl ?_
                                      refine R_imul (nx := 220) (z := ((Xn (AK A o)) * x)) rfl rfl rfl ⟨by omega, by omega⟩ ?_
                                      refine R_cv (w := (x * (Xn (AK A o)))) (by rw [Int.mul_comm]) ?_
                                      refine R_lo (nx := 222) rfl rfl rfl rfl ?_
                                      refine R_iadd (nx := 223) (z := ((x * (Xn (AK A o))) + y)) rfl rfl rfl ⟨by omega, by omega⟩ ?_
                                      refine R_imul (nx := 224) (z := (12 * ((x * (Xn (AK A o))) + y))) rfl rfl rfl ⟨by omega, by omega⟩ ?_
                                      refine R_iadd (nx := 225) (z := (576 + (12 * ((x * (Xn (AK A o))) + y)))) rfl rfl rfl ⟨by omega, by omega⟩ ?_
                                      refine R_lo (nx := 227) rfl rfl rfl rfl ?_
                                      refine R_lo (nx := 229) rfl rfl rfl rfl ?_
                                      refine R_imul (nx := 230) (z := ((Xn (AK A o)) * k)) rfl rfl rfl ⟨by omega, by omega⟩ ?_
                                      refine R_cv (w := (k * (Xn (AK A o)))) (by rw [Int.mul_comm]) ?_
                                      refine R_iadd (nx := 231) (z := ((576 + (12 * ((x * (Xn (AK A o))) + y))) + (k * (Xn (AK A o))))) rfl rfl rfl ⟨by omega, by omega⟩ ?_
                                      refine R_lo (nx := 233) rfl rfl rfl rfl ?_
                                      refine R_iadd (nx := 234) (z := (((576 + (12 * ((x * (Xn (AK A o))) + y))) + (k * (Xn (AK A o)))) + y)) rfl rfl rfl ⟨by omega, by omega⟩ ?_
                                      refine R_op (nx := 235) rfl rfl rfl ?_
                                      refine R_iald (nx := 236) rfl rfl (mm_el_ok 1 720 (by decide) rfl (by decide) (by omega) (by omega)) ?_
                                      rw [Int.add_assoc (576 + 12 * (x * (Xn (AK A o)) + y)), jE.rd (by omega) (by omega)]
                                      refine R_lo (nx := 237) rfl rfl rfl rfl ?_
                                      refine R_lo (nx := 238) rfl rfl rfl rfl ?_
                                      refine R_lo (nx := 240) rfl rfl rfl rfl ?_
                                      refine R_lo (nx := 242) rfl rfl rfl rfl ?_
                                      refine R_call1 (nx := 245) (as := [(2, 71), (0, c), (0, x), (0, k)]) (rest := [(0, (Rw (AK A c) (AK A o) x y k 0 (k * (Xn (AK A o)) + y))), (0, ((576 + (12 * ((x * (Xn (AK A o))) + y))) + (k * (Xn (AK A o)) + y))), (2, 75)]) rfl rfl (fun _ _ => rfl) rfl rfl rfl rfl rfl rfl rfl rfl (Cl.mono (c_M_edge S3 c (by omega) (AK A c) (show MRr S3 c (AK A c) by first | assumption | exact MR.r (by assumption) | exact MRr.up (by assumption) (by omega) | exact MRr.up (MR.r (by assumption)) (by omega) | exact MRr.up (MRr.up (MR.r (by assumption)) (by omega)) (by omega)) x k (by omega) (by omega)) ?_)
                                      rintro _ _ ⟨rfl, rfl⟩
                                      refine ⟨_, rfl, ?_⟩
                                      refine R_iadd (nx := 246) (z := ((Rw (AK A c) (AK A o) x y k 0 (k * (Xn (AK A o)) + y)) + (Xe (AK A c) x k))) rfl rfl rfl ⟨by omega, by omega⟩ ?_
                                      refine R_iast (nx := 247) rfl rfl (mm_el_ok 1 720 (by decide) rfl (by decide) (by omega) (by omega)) ?_
                                      refine R_iinc (nx := 250) (z := (k + 1)) (ls' := [(2, 71), (0, c), (0, o), (0, t), (0, (Xn (AK A o))), (0, fv), (0, x), (0, y), (9, 0), (9, 0), (9, 0), (0, (k + 1))]) rfl rfl rfl rfl ⟨by omega, by omega⟩ rfl ?_
                                      refine R_op (nx := 253) (pc' := 195) rfl rfl rfl ?_
                                      refine Rn.weak (ls' := [(2, 71), (0, c), (0, o), (0, t), (0, (Xn (AK A o))), (0, fv), (0, x), (0, y), (9, 0), (9, 0), (9, 0), (0, (k + 1))]) ⟨Or.inl rfl, ⟨Or.inl rfl, ⟨Or.inl rfl, ⟨Or.inl rfl, ⟨Or.inl rfl, ⟨Or.inl rfl, ⟨Or.inl rfl, ⟨Or.inl rfl, ⟨Or.inl rfl, ⟨Or.inl rfl, ⟨Or.inl rfl, ⟨Or.inl rfl, trivial⟩⟩⟩⟩⟩⟩⟩⟩⟩⟩⟩⟩ ?_
                                      refine ih195 ((mm_up S3 75 ((576 + (12 * ((x * (Xn (AK A o))) + y))) + (k * (Xn (AK A o)) + y)) ((Rw (AK A c) (AK A o) x y k 0 (k * (Xn (AK A o)) + y)) + (Xe (AK A c) x k)))) (fv) ((k + 1)) ?_ ?_ ?_ ?_ ?_ ?_ ?_
                                      · omega
                                      · omega
                                      · exact jT
                                      · exact jE.a h12 hxx hyy (by omega)
                                      · exact jD.fr (mm_unq (by decide)) (mm_unq (by decide))
                                      · exact jO.u75 _ (by omega)
                                      · intro b hb; rw [mm_unq (by omega)]; exact jF b hb
                                refine Rn.weak (ls' := [(2, 71), (0, c), (0, o), (0, t), (0, (Xn (AK A o))), (0, 1), (0, x), (0, y), (9, 0), (9, 0), (9, 0), (0, 0)]) ⟨Or.inl rfl, ⟨Or.inl rfl, ⟨Or.inl rfl, ⟨Or.inl rfl, ⟨Or.inl rfl, ⟨Or.inl rfl, ⟨Or.inl rfl, ⟨Or.inl rfl, ⟨Or.inr rfl, ⟨Or.inr rfl, ⟨Or.inr rfl, ⟨Or.inl rfl, trivial⟩⟩⟩⟩⟩⟩⟩⟩⟩⟩⟩⟩ ?_
                                refine L195 (((Xn (AK A c)) - (0)).toNat + 1) (S189_4) (1) (0) (Nat.lt_succ_self _) ?_ ?_ ?_ ?_ ?_ ?_
                                · omega
                                · first | exact gT.y (by omega) (by omega) (by omega) (by omega) | exact FT.n (ft := fu) r0 r7 hxx hyy (by first | exact Or.inl ⟨by omega, gT⟩ | exact Or.inr (by omega)) _ _
                                · exact (ERw.st0 z7.1 gE).fr (by rw [e189_4, mm_unq (by decide), mm_unq (by decide), mm_unq (by decide)])
                                · refine gD.st (by omega) e189_4 ?_; have q := hPk.2.2.1 x y hxx hyy; exact ⟨q.1.symm, q.2.1.symm, q.2.2.symm⟩
                                · rw [e189_4]; exact gO.sets _ _ _ (by omega) (by omega)
                                · intro b hb; rw [e189_4, mm_unq (by omega), mm_unq (by omega), mm_unq (by omega)]; exact gF b hb
                  refine Rn.weak (ls' := [(2, 71), (0, c), (0, o), (0, t), (0, (Xn (AK A o))), (0, ft), (0, x), (0, 0), (9, 0), (9, 0), (9, 0), (9, 0)]) ⟨Or.inl rfl, ⟨Or.inl rfl, ⟨Or.inl rfl, ⟨Or.inl rfl, ⟨Or.inl rfl, ⟨Or.inl rfl, ⟨Or.inl rfl, ⟨Or.inl rfl, ⟨Or.inl rfl, ⟨Or.inl rfl, ⟨Or.inl rfl, ⟨Or.inl rfl, trivial⟩⟩⟩⟩⟩⟩⟩⟩⟩⟩⟩⟩ ?_
                  refine L79 (((Xn (AK A o)) - (0)).toNat + 1) (S1) (ft) (0) (Nat.lt_succ_self _) ?_ ?_ ?_ ?_ ?_ ?_
                  · omega
                  · exact hT
                  · rw [Int.add_zero]; exact hE
                  · rw [Int.add_zero]; exact hD
                  · exact hO
                  · exact hF
          refine Rn.weak (ls' := [(2, 71), (0, c), (0, o), (0, t), (0, (Xn (AK A o))), (0, 0), (0, 0), (9, 0), (9, 0), (9, 0), (9, 0), (9, 0)]) ⟨Or.inl rfl, ⟨Or.inl rfl, ⟨Or.inl rfl, ⟨Or.inl rfl, ⟨Or.inl rfl, ⟨Or.inl rfl, ⟨Or.inl rfl, ⟨Or.inl rfl, ⟨Or.inl rfl, ⟨Or.inl rfl, ⟨Or.inl rfl, ⟨Or.inl rfl, trivial⟩⟩⟩⟩⟩⟩⟩⟩⟩⟩⟩⟩ ?_
          refine L60 (((Xn (AK A c)) - (0)).toNat + 1) (S54) (0) (0) (Nat.lt_succ_self _) ?_ ?_ ?_ ?_ ?_ ?_
          · omega
          · first | exact Or.inl ⟨rfl, by omega, fun x1 y1 p q r => by omega⟩ | exact Or.inr ⟨rfl, fun q => by have := q.1; omega⟩
          · rw [Int.zero_mul]; exact EPb.z m54
          · rw [Int.zero_mul]; intro i h0 h1; omega
          · exact o54
          · exact f54
        ·
          refine R_op (nx := 46) rfl rfl rfl ?_
          refine R_op (nx := 49) (pc' := 50) rfl rfl rfl ?_
          refine R_lo (nx := 52) (ls' := [(2, 71), (0, c), (0, o), (0, t), (0, (Xn (AK A o))), (0, 1), (9, 0), (9, 0), (9, 0), (9, 0), (9, 0), (9, 0)]) rfl rfl rfl rfl ?_
          refine R_lo (nx := 53) rfl rfl rfl rfl ?_
          refine R_op (nx := 54) rfl rfl rfl ?_
          refine R_call0 (nx := 57) (as := [(2, 71), (0, 4)]) (rest := []) rfl rfl (fun _ _ => rfl) rfl rfl rfl rfl rfl rfl rfl rfl (Cl.mono (c_M_empties S 4 (by omega)) ?_)
          rintro _ S54_1 ⟨rfl, m54_1, o54_1, f54_1⟩
          refine ⟨rfl, ?_⟩
          refine R_op (nx := 58) rfl rfl rfl ?_
          refine R_lo (nx := 60) (ls' := [(2, 71), (0, c), (0, o), (0, t), (0, (Xn (AK A o))), (0, 1), (0, 0), (9, 0), (9, 0), (9, 0), (9, 0), (9, 0)]) rfl rfl rfl rfl ?_
          have L60 : ∀ (f60 : Nat) (S1 : mm_S) (ft : Int) (x : Int), ((Xn (AK A c)) - x).toNat < f60 → (0 ≤ x ∧ x ≤ (Xn (AK A c))) → (FT (AK A c) (AK A o) ft x 0) → (EPb S1 (Xprod (AK A c) (AK A o)) (x * (Xn (AK A o))) 0) → (DPa S1 (Xprod (AK A c) (AK A o)) (x * (Xn (AK A o)))) → (Oth S S1 4) → (∀ b, ¬ (72 ≤ b ∧ b ≤ 75) → S1 b = S b) → Rn k_M_times 60 [(2, 71), (0, c), (0, o), (0, t), (0, (Xn (AK A o))), (0, ft), (0, x), (9, 0), (9, 0), (9, 0), (9, 0), (9, 0)] [] S1 (fun vv S' => vv = some (0, (Q_times A c o t).1) ∧ RR S' (Q_times A c o t).2 ∧ ∀ b, ¬ (71 ≤ b ∧ b < 91) → S' b = S b) := by
            intro f60
            induction f60 with
            | zero => intro S1 ft x hm60; exact absurd hm60 (Nat.not_lt_zero _)
            | succ f60 ih60 =>
              intro S1 ft x hm60 hx hT hE hD hO hF
              have k1 := hO c _ (by omega) (by omega) (by omega) k0
              have n1 := k1.n
              have k8 := hO o _ (by omega) (by omega) (by omega) k7
              refine R_lo (nx := 62) rfl rfl rfl rfl ?_
              refine R_lo (nx := 63) rfl rfl rfl rfl ?_
              refine R_get (nx := 66) (w := (2, 72)) rfl rfl rfl rfl ?_
              refine R_lo (nx := 67) rfl rfl rfl rfl ?_
              refine R_iald (nx := 68) rfl rfl (mm_el_ok 1 5 (by decide) rfl (by decide) (by omega) (by omega)) ?_
              refine R_icmp (nx := 71) (tg := 347) rfl rfl rfl (mm_cnd_ge _ _) (fun c68_1 => ?_) (fun c68_1 => ?_)
              ·
                refine R_lo (nx := 349) rfl rfl rfl rfl ?_
                refine R_if (nx := 352) (tg := 355) rfl rfl rfl (mm_cnd_ne _ _) (fun c349_2 => ?_) (fun c349_2 => ?_)
                ·
                  have hq := FT.fin r0 r7 z0.1 z7.1 hT (by omega)
                  have hfit : Xfit (AK A c) (AK A o) := by
                    rcases hq with q | q
                    · exact q.2.1
                    · exact absurd q.1 c349_2
                  have hxe : x = (Xn (AK A c)) := by
                    rcases hq with q | q
                    · omega
                    · exact absurd q.1 c349_2
                  refine R_lo (nx := 356) rfl rfl rfl rfl ?_
                  refine R_get (nx := 359) (w := (2, 72)) rfl rfl rfl rfl ?_
                  refine R_op (nx := 360) rfl rfl rfl ?_
                  refine R_lo (nx := 361) rfl rfl rfl rfl ?_
                  refine R_get (nx := 364) (w := (2, 72)) rfl rfl rfl rfl ?_
                  refine R_lo (nx := 365) rfl rfl rfl rfl ?_
                  refine R_iald (nx := 366) rfl rfl (mm_el_ok 1 5 (by decide) rfl (by decide) (by omega) (by omega)) ?_
                  rw [n1]
                  refine R_lo (nx := 368) rfl rfl rfl rfl ?_
                  refine R_imul (nx := 369) (z := ((Xn (AK A c)) * (Xn (AK A o)))) rfl rfl rfl ⟨by omega, by omega⟩ ?_
                  refine R_iast (nx := 370) rfl rfl rfl ?_
                  rw [hxe] at hE hD
                  have hPk := hP hfit.1
                  have mf := hE.fin hD rfl hPk.1
                  refine R_lo (nx := 371) rfl rfl rfl rfl ?_
                  refine R_op (nx := 372) rfl rfl rfl ?_
                  refine R_lo (nx := 373) rfl rfl rfl rfl ?_
                  refine R_call0 (nx := 376) (as := [(2, 71), (0, 4), (0, t)]) (rest := []) rfl rfl (fun _ _ => rfl) rfl rfl rfl rfl rfl rfl rfl rfl (Cl.mono (c_M_copies (mm_up S1 72 4 ((Xn (AK A c)) * (Xn (AK A o)))) 4 t (by omega) (by omega) (by omega) (Xprod (AK A c) (AK A o)) mf) ?_)
                  rintro _ S373 ⟨rfl, m373, o373, f373⟩
                  refine ⟨rfl, ?_⟩
                  refine R_lo (nx := 377) rfl rfl rfl rfl ?_
                  refine R_get (nx := 380) (w := (2, 72)) rfl rfl rfl rfl ?_
                  refine R_lo (nx := 381) rfl rfl rfl rfl ?_
                  refine R_iald (nx := 382) rfl rfl (mm_el_ok 1 5 (by decide) rfl (by decide) (by omega) (by omega)) ?_
                  rw [m373.n, show Xn (Xprod (AK A c) (AK A o)) = (Xn (AK A c)) * (Xn (AK A o)) from rfl]
                  refine R_ret rfl (fun _ _ => rfl) rfl rfl ?_
                  rw [show Q_times A c o t = (((Xn (AK A c)) * (Xn (AK A o))), Akc A t (Xprod (AK A c) (AK A o))) from by simp only [Q_times, hfit, b1, b8, b15, c42, c68_1, c349_2, ifm, ifp, iffq, ↓reduceIte, ite_self, and_self, and_true, true_and, and_false, false_and, or_true, true_or, or_false, false_or, or_self, not_true_eq_false, not_false_eq_true, ne_eq]]; exact ⟨rfl, (hRR.o4 (hO.u72 _) (R71.of (by rw [mm_unq (by omega), hF 71 (by omega)])) fun b hb => by rw [mm_unq (by omega), hF b (by omega)]).kc m373 o373 (R71.of (f373 71 (by omega))) fun b hb => f373 b (by omega), fun b hb => by rw [f373 b (by omega), mm_unq (by omega), hF b (by omega)]⟩
                ·
                  replace c349_2 := Classical.not_not.mp c349_2
                  have hq := FT.fin r0 r7 z0.1 z7.1 hT (by omega)
                  have hnf : ¬ Xfit (AK A c) (AK A o) := by
                    rcases hq with q | q
                    · exact absurd c349_2 q.1
                    · exact q.2
                  refine R_op (nx := 354) rfl rfl rfl ?_
                  refine R_ret rfl (fun _ _ => rfl) rfl rfl ?_
                  rw [show Q_times A c o t = ((-2), A) from by simp only [Q_times, hnf, b1, b8, b15, c42, c68_1, c349_2, ifm, ifp, iffq, ↓reduceIte, ite_self, and_self, and_true, true_and, and_false, false_and, or_true, true_or, or_false, false_or, or_self, not_true_eq_false, not_false_eq_true, ne_eq]]; exact ⟨rfl, hRR.o4 hO (R71.of (hF 71 (by omega))) fun b hb => hF b (by omega), fun b hb => hF b (by omega)⟩
              ·
                refine R_lo (nx := 73) rfl rfl rfl rfl ?_
                refine R_if (nx := 76) (tg := 347) rfl rfl rfl (mm_cnd_eq _ _) (fun c73_1 => ?_) (fun c73_1 => ?_)
                ·
                  refine R_lo (nx := 349) rfl rfl rfl rfl ?_
                  refine R_if (nx := 352) (tg := 355) rfl rfl rfl (mm_cnd_ne _ _) (fun c349_3 => ?_) (fun c349_3 => ?_)
                  ·
                    have hq := FT.fin r0 r7 z0.1 z7.1 hT (by omega)
                    have hfit : Xfit (AK A c) (AK A o) := by
                      rcases hq with q | q
                      · exact q.2.1
                      · exact absurd q.1 c349_3
                    have hxe : x = (Xn (AK A c)) := by
                      rcases hq with q | q
                      · omega
                      · exact absurd q.1 c349_3
                    refine R_lo (nx := 356) rfl rfl rfl rfl ?_
                    refine R_get (nx := 359) (w := (2, 72)) rfl rfl rfl rfl ?_
                    refine R_op (nx := 360) rfl rfl rfl ?_
                    refine R_lo (nx := 361) rfl rfl rfl rfl ?_
                    refine R_get (nx := 364) (w := (2, 72)) rfl rfl rfl rfl ?_
                    refine R_lo (nx := 365) rfl rfl rfl rfl ?_
                    refine R_iald (nx := 366) rfl rfl (mm_el_ok 1 5 (by decide) rfl (by decide) (by omega) (by omega)) ?_
                    rw [n1]
                    refine R_lo (nx := 368) rfl rfl rfl rfl ?_
                    refine R_imul (nx := 369) (z := ((Xn (AK A c)) * (Xn (AK A o)))) rfl rfl rfl ⟨by omega, by omega⟩ ?_
                    refine R_iast (nx := 370) rfl rfl rfl ?_
                    rw [hxe] at hE hD
                    have hPk := hP hfit.1
                    have mf := hE.fin hD rfl hPk.1
                    refine R_lo (nx := 371) rfl rfl rfl rfl ?_
                    refine R_op (nx := 372) rfl rfl rfl ?_
                    refine R_lo (nx := 373) rfl rfl rfl rfl ?_
                    refine R_call0 (nx := 376) (as := [(2, 71), (0, 4), (0, t)]) (rest := []) rfl rfl (fun _ _ => rfl) rfl rfl rfl rfl rfl rfl rfl rfl (Cl.mono (c_M_copies (mm_up S1 72 4 ((Xn (AK A c)) * (Xn (AK A o)))) 4 t (by omega) (by omega) (by omega) (Xprod (AK A c) (AK A o)) mf) ?_)
                    rintro _ S373 ⟨rfl, m373, o373, f373⟩
                    refine ⟨rfl, ?_⟩
                    refine R_lo (nx := 377) rfl rfl rfl rfl ?_
                    refine R_get (nx := 380) (w := (2, 72)) rfl rfl rfl rfl ?_
                    refine R_lo (nx := 381) rfl rfl rfl rfl ?_
                    refine R_iald (nx := 382) rfl rfl (mm_el_ok 1 5 (by decide) rfl (by decide) (by omega) (by omega)) ?_
                    rw [m373.n, show Xn (Xprod (AK A c) (AK A o)) = (Xn (AK A c)) * (Xn (AK A o)) from rfl]
                    refine R_ret rfl (fun _ _ => rfl) rfl rfl ?_
                    rw [show Q_times A c o t = (((Xn (AK A c)) * (Xn (AK A o))), Akc A t (Xprod (AK A c) (AK A o))) from by simp only [Q_times, hfit, b1, b8, b15, c42, c68_1, c73_1, c349_3, ifm, ifp, iffq, ↓reduceIte, ite_self, and_self, and_true, true_and, and_false, false_and, or_true, true_or, or_false, false_or, or_self, not_true_eq_false, not_false_eq_true, ne_eq]]; exact ⟨rfl, (hRR.o4 (hO.u72 _) (R71.of (by rw [mm_unq (by omega), hF 71 (by omega)])) fun b hb => by rw [mm_unq (by omega), hF b (by omega)]).kc m373 o373 (R71.of (f373 71 (by omega))) fun b hb => f373 b (by omega), fun b hb => by rw [f373 b (by omega), mm_unq (by omega), hF b (by omega)]⟩
                  ·
                    replace c349_3 := Classical.not_not.mp c349_3
                    have hq := FT.fin r0 r7 z0.1 z7.1 hT (by omega)
                    have hnf : ¬ Xfit (AK A c) (AK A o) := by
                      rcases hq with q | q
                      · exact absurd c349_3 q.1
                      · exact q.2
                    refine R_op (nx := 354) rfl rfl rfl ?_
                    refine R_ret rfl (fun _ _ => rfl) rfl rfl ?_
                    rw [show Q_times A c o t = ((-2), A) from by simp only [Q_times, hnf, b1, b8, b15, c42, c68_1, c73_1, c349_3, ifm, ifp, iffq, ↓reduceIte, ite_self, and_self, and_true, true_and, and_false, false_and, or_true, true_or, or_false, false_or, or_self, not_true_eq_false, not_false_eq_true, ne_eq]]; exact ⟨rfl, hRR.o4 hO (R71.of (hF 71 (by omega))) fun b hb => hF b (by omega), fun b hb => hF b (by omega)⟩
                ·
                  have hxx : 0 ≤ x ∧ x < (Xn (AK A c)) := by omega
                  have h12 : (Xn (AK A c)) * (Xn (AK A o)) ≤ 12 := by
                    rcases hT with q | q
                    · exact q.2.1
                    · exact absurd q.1 c73_1
                  refine R_op (nx := 77) rfl rfl rfl ?_
                  refine R_lo (nx := 79) (ls' := [(2, 71), (0, c), (0, o), (0, t), (0, (Xn (AK A o))), (0, ft), (0, x), (0, 0), (9, 0), (9, 0), (9, 0), (9, 0)]) rfl rfl rfl rfl ?_
                  have L79 : ∀ (f79 : Nat) (S2 : mm_S) (fu : Int) (y : Int), ((Xn (AK A o)) - y).toNat < f79 → (0 ≤ y ∧ y ≤ (Xn (AK A o))) → (FT (AK A c) (AK A o) fu x y) → (EPb S2 (Xprod (AK A c) (AK A o)) (x * (Xn (AK A o)) + y) 0) → (DPa S2 (Xprod (AK A c) (AK A o)) (x * (Xn (AK A o)) + y)) → (Oth S S2 4) → (∀ b, ¬ (72 ≤ b ∧ b ≤ 75) → S2 b = S b) → Rn k_M_times 79 [(2, 71), (0, c), (0, o), (0, t), (0, (Xn (AK A o))), (0, fu), (0, x), (0, y), (9, 0), (9, 0), (9, 0), (9, 0)] [] S2 (fun vv S' => vv = some (0, (Q_times A c o t).1) ∧ RR S' (Q_times A c o t).2 ∧ ∀ b, ¬ (71 ≤ b ∧ b < 91) → S' b = S b) := by
                    intro f79
                    induction f79 with
                    | zero => intro S2 fu y hm79; exact absurd hm79 (Nat.not_lt_zero _)
                    | succ f79 ih79 =>
                      intro S2 fu y hm79 hy gT gE gD gO gF
                      have k1 := gO c _ (by omega) (by omega) (by omega) k0
                      have n1 := k1.n
                      have k8 := gO o _ (by omega) (by omega) (by omega) k7
                      have pxy := fun q => prng (x := x) (y := y) (n := (Xn (AK A c))) (m := (Xn (AK A o))) hxx q
                      have cmx : (Xn (AK A o)) * x = x * (Xn (AK A o)) := Int.mul_comm _ _
                      have hPk := hP h12
                      have gs1 := r0.1 x
                      have gs2 := r7.1 y
                      have gs3 := r0.l 0 x
                      have gs4 := r7.l 0 y
                      have gs5 := r0.l 1 x
                      have gs6 := r7.l 1 y
                      refine R_lo (nx := 81) rfl rfl rfl rfl ?_
                      refine R_lo (nx := 83) rfl rfl rfl rfl ?_
                      refine R_icmp (nx := 86) (tg := 341) rfl rfl rfl (mm_cnd_ge _ _) (fun c83_1 => ?_) (fun c83_1 => ?_)
                      ·
                        refine R_iinc (nx := 344) (z := (x + 1)) (ls' := [(2, 71), (0, c), (0, o), (0, t), (0, (Xn (AK A o))), (0, fu), (0, (x + 1)), (0, y), (9, 0), (9, 0), (9, 0), (9, 0)]) rfl rfl rfl rfl ⟨by omega, by omega⟩ rfl ?_
                        refine R_op (nx := 347) (pc' := 60) rfl rfl rfl ?_
                        refine Rn.weak (ls' := [(2, 71), (0, c), (0, o), (0, t), (0, (Xn (AK A o))), (0, fu), (0, (x + 1)), (9, 0), (9, 0), (9, 0), (9, 0), (9, 0)]) ⟨Or.inl rfl, ⟨Or.inl rfl, ⟨Or.inl rfl, ⟨Or.inl rfl, ⟨Or.inl rfl, ⟨Or.inl rfl, ⟨Or.inl rfl, ⟨Or.inr rfl, ⟨Or.inl rfl, ⟨Or.inl rfl, ⟨Or.inl rfl, ⟨Or.inl rfl, trivial⟩⟩⟩⟩⟩⟩⟩⟩⟩⟩⟩⟩ ?_
                        refine ih60 (S2) (fu) ((x + 1)) ?_ ?_ ?_ ?_ ?_ ?_ ?_
                        · omega
                        · omega
                        · exact gT.row (by omega)
                        · exact gE.nx (by omega)
                        · exact gD.nx (by omega)
                        · exact gO
                        · exact gF
                      ·
                        have hyy : 0 ≤ y ∧ y < (Xn (AK A o)) := by omega
                        have pxy := pxy hyy
                        refine R_lo (nx := 87) rfl rfl rfl rfl ?_
                        refine R_lo (nx := 88) rfl rfl rfl rfl ?_
                        refine R_lo (nx := 90) rfl rfl rfl rfl ?_
                        refine R_call1 (nx := 93) (as := [(2, 71), (0, c), (0, x)]) (rest := []) rfl rfl (fun _ _ => rfl) rfl rfl rfl rfl rfl rfl rfl rfl (Cl.mono (c_M_degree S2 c (by omega) (AK A c) (show MRr S2 c (AK A c) by first | assumption | exact MR.r (by assumption) | exact MRr.up (by assumption) (by omega) | exact MRr.up (MR.r (by assumption)) (by omega) | exact MRr.up (MRr.up (MR.r (by assumption)) (by omega)) (by omega)) x (by omega)) ?_)
                        rintro _ _ ⟨rfl, rfl⟩
                        refine ⟨_, rfl, ?_⟩
                        refine R_lo (nx := 94) rfl rfl rfl rfl ?_
                        refine R_lo (nx := 95) rfl rfl rfl rfl ?_
                        refine R_lo (nx := 97) rfl rfl rfl rfl ?_
                        refine R_call1 (nx := 100) (as := [(2, 71), (0, o), (0, y)]) (rest := [(0, (Xd (AK A c) x))]) rfl rfl (fun _ _ => rfl) rfl rfl rfl rfl rfl rfl rfl rfl (Cl.mono (c_M_degree S2 o (by omega) (AK A o) (show MRr S2 o (AK A o) by first | assumption | exact MR.r (by assumption) | exact MRr.up (by assumption) (by omega) | exact MRr.up (MR.r (by assumption)) (by omega) | exact MRr.up (MRr.up (MR.r (by assumption)) (by omega)) (by omega)) y (by omega)) ?_)
                        rintro _ _ ⟨rfl, rfl⟩
                        refine ⟨_, rfl, ?_⟩
                        refine R_iadd (nx := 101) (z := ((Xd (AK A c) x) + (Xd (AK A o) y))) rfl rfl rfl ⟨by omega, by omega⟩ ?_
                        refine R_lo (nx := 103) (ls' := [(2, 71), (0, c), (0, o), (0, t), (0, (Xn (AK A o))), (0, fu), (0, x), (0, y), (0, ((Xd (AK A c) x) + (Xd (AK A o) y))), (9, 0), (9, 0), (9, 0)]) rfl rfl rfl rfl ?_
                        refine R_lo (nx := 104) rfl rfl rfl rfl ?_
                        refine R_lo (nx := 105) rfl rfl rfl rfl ?_
                        refine R_op (nx := 106) rfl rfl rfl ?_
                        refine R_lo (nx := 108) rfl rfl rfl rfl ?_
                        refine R_call1 (nx := 111) (as := [(2, 71), (0, c), (0, 0), (0, x)]) (rest := []) rfl rfl (fun _ _ => rfl) rfl rfl rfl rfl rfl rfl rfl rfl (Cl.mono (c_M_level S2 c (by omega) (AK A c) (show MRr S2 c (AK A c) by first | assumption | exact MR.r (by assumption) | exact MRr.up (by assumption) (by omega) | exact MRr.up (MR.r (by assumption)) (by omega) | exact MRr.up (MRr.up (MR.r (by assumption)) (by omega)) (by omega)) 0 x (by omega) (by omega)) ?_)
                        rintro _ _ ⟨rfl, rfl⟩
                        refine ⟨_, rfl, ?_⟩
                        refine R_lo (nx := 112) rfl rfl rfl rfl ?_
                        refine R_lo (nx := 113) rfl rfl rfl rfl ?_
                        refine R_op (nx := 114) rfl rfl rfl ?_
                        refine R_lo (nx := 116) rfl rfl rfl rfl ?_
                        refine R_call1 (nx := 119) (as := [(2, 71), (0, o), (0, 0), (0, y)]) (rest := [(0, (Xl (AK A c) 0 x))]) rfl rfl (fun _ _ => rfl) rfl rfl rfl rfl rfl rfl rfl rfl (Cl.mono (c_M_level S2 o (by omega) (AK A o) (show MRr S2 o (AK A o) by first | assumption | exact MR.r (by assumption) | exact MRr.up (by assumption) (by omega) | exact MRr.up (MR.r (by assumption)) (by omega) | exact MRr.up (MRr.up (MR.r (by assumption)) (by omega)) (by omega)) 0 y (by omega) (by omega)) ?_)
                        rintro _ _ ⟨rfl, rfl⟩
                        refine ⟨_, rfl, ?_⟩
                        refine R_iadd (nx := 120) (z := ((Xl (AK A c) 0 x) + (Xl (AK A o) 0 y))) rfl rfl rfl ⟨by omega, by omega⟩ ?_
                        refine R_lo (nx := 122) (ls' := [(2, 71), (0, c), (0, o), (0, t), (0, (Xn (AK A o))), (0, fu), (0, x), (0, y), (0, ((Xd (AK A c) x) + (Xd (AK A o) y))), (0, ((Xl (AK A c) 0 x) + (Xl (AK A o) 0 y))), (9, 0), (9, 0)]) rfl rfl rfl rfl ?_
                        refine R_lo (nx := 123) rfl rfl rfl rfl ?_
                        refine R_lo (nx := 124) rfl rfl rfl rfl ?_
                        refine R_op (nx := 125) rfl rfl rfl ?_
                        refine R_lo (nx := 127) rfl rfl rfl rfl ?_
                        refine R_call1 (nx := 130) (as := [(2, 71), (0, c), (0, 1), (0, x)]) (rest := []) rfl rfl (fun _ _ => rfl) rfl rfl rfl rfl rfl rfl rfl rfl (Cl.mono (c_M_level S2 c (by omega) (AK A c) (show MRr S2 c (AK A c) by first | assumption | exact MR.r (by assumption) | exact MRr.up (by assumption) (by omega) | exact MRr.up (MR.r (by assumption)) (by omega) | exact MRr.up (MRr.up (MR.r (by assumption)) (by omega)) (by omega)) 1 x (by omega) (by omega)) ?_)
                        rintro _ _ ⟨rfl, rfl⟩
                        refine ⟨_, rfl, ?_⟩
                        refine R_lo (nx := 131) rfl rfl rfl rfl ?_
                        refine R_lo (nx := 132) rfl rfl rfl rfl ?_
                        refine R_op (nx := 133) rfl rfl rfl ?_
                        refine R_lo (nx := 135) rfl rfl rfl rfl ?_
                        refine R_call1 (nx := 138) (as := [(2, 71), (0, o), (0, 1), (0, y)]) (rest := [(0, (Xl (AK A c) 1 x))]) rfl rfl (fun _ _ => rfl) rfl rfl rfl rfl rfl rfl rfl rfl (Cl.mono (c_M_level S2 o (by omega) (AK A o) (show MRr S2 o (AK A o) by first | assumption | exact MR.r (by assumption) | exact MRr.up (by assumption) (by omega) | exact MRr.up (MR.r (by assumption)) (by omega) | exact MRr.up (MRr.up (MR.r (by assumption)) (by omega)) (by omega)) 1 y (by omega) (by omega)) ?_)
                        rintro _ _ ⟨rfl, rfl⟩
                        refine ⟨_, rfl, ?_⟩
                        refine R_iadd (nx := 139) (z := ((Xl (AK A c) 1 x) + (Xl (AK A o) 1 y))) rfl rfl rfl ⟨by omega, by omega⟩ ?_
                        refine R_lo (nx := 141) (ls' := [(2, 71), (0, c), (0, o), (0, t), (0, (Xn (AK A o))), (0, fu), (0, x), (0, y), (0, ((Xd (AK A c) x) + (Xd (AK A o) y))), (0, ((Xl (AK A c) 0 x) + (Xl (AK A o) 0 y))), (0, ((Xl (AK A c) 1 x) + (Xl (AK A o) 1 y))), (9, 0)]) rfl rfl rfl rfl ?_
                        refine R_lo (nx := 143) rfl rfl rfl rfl ?_
                        refine R_if (nx := 146) (tg := 170) rfl rfl rfl (mm_cnd_eq _ _) (fun c143_1 => ?_) (fun c143_1 => ?_)
                        ·
                          refine R_op (nx := 171) rfl rfl rfl ?_
                          refine R_lo (nx := 173) (ls' := [(2, 71), (0, c), (0, o), (0, t), (0, (Xn (AK A o))), (0, 0), (0, x), (0, y), (0, ((Xd (AK A c) x) + (Xd (AK A o) y))), (0, ((Xl (AK A c) 0 x) + (Xl (AK A o) 0 y))), (0, ((Xl (AK A c) 1 x) + (Xl (AK A o) 1 y))), (9, 0)]) rfl rfl rfl rfl ?_
                          refine R_lo (nx := 174) rfl rfl rfl rfl ?_
                          refine R_op (nx := 175) rfl rfl rfl ?_
                          refine R_lo (nx := 177) rfl rfl rfl rfl ?_
                          refine R_lo (nx := 179) rfl rfl rfl rfl ?_
                          refine R_imul (nx := 180) (z := ((Xn (AK A o)) * x)) rfl rfl rfl ⟨by omega, by omega⟩ ?_
                          refine R_cv (w := (x * (Xn (AK A o)))) (by rw [Int.mul_comm]) ?_
                          refine R_lo (nx := 182) rfl rfl rfl rfl ?_
                          refine R_iadd (nx := 183) (z := ((x * (Xn (AK A o))) + y)) rfl rfl rfl ⟨by omega, by omega⟩ ?_
                          refine R_lo (nx := 185) rfl rfl rfl rfl ?_
                          refine R_lo (nx := 187) rfl rfl rfl rfl ?_
                          refine R_lo (nx := 189) rfl rfl rfl rfl ?_
                          refine R_call0 (nx := 192) (as := [(2, 71), (0, 4), (0, ((x * (Xn (AK A o))) + y)), (0, ((Xd (AK A c) x) + (Xd (AK A o) y))), (0, ((Xl (AK A c) 0 x) + (Xl (AK A o) 0 y))), (0, ((Xl (AK A c) 1 x) + (Xl (AK A o) 1 y)))]) (rest := []) rfl rfl (fun _ _ => rfl) rfl rfl rfl rfl rfl rfl rfl rfl (Cl.mono (c_M_sets S2 4 ((x * (Xn (AK A o))) + y) ((Xd (AK A c) x) + (Xd (AK A o) y)) ((Xl (AK A c) 0 x) + (Xl (AK A o) 0 y)) ((Xl (AK A c) 1 x) + (Xl (AK A o) 1 y)) (by omega) (by omega)) ?_)
                          rintro _ S189_5 ⟨rfl, e189_5⟩
                          refine ⟨rfl, ?_⟩
                          refine R_op (nx := 193) rfl rfl rfl ?_
                          refine R_lo (nx := 195) (ls' := [(2, 71), (0, c), (0, o), (0, t), (0, (Xn (AK A o))), (0, 0), (0, x), (0, y), (0, ((Xd (AK A c) x) + (Xd (AK A o) y))), (0, ((Xl (AK A c) 0 x) + (Xl (AK A o) 0 y))), (0, ((Xl (AK A c) 1 x) + (Xl (AK A o) 1 y))), (0, 0)]) rfl rfl rfl rfl ?_
                          have L195 : ∀ (f195 : Nat) (S3 : mm_S) (fv : Int) (k : Int), ((Xn (AK A c)) - k).toNat < f195 → (0 ≤ k ∧ k ≤ (Xn (AK A c))) → (FT (AK A c) (AK A o) fv x (y + 1)) → (ERw S3 (AK A c) (AK A o) x y k 0) → (DPa S3 (Xprod (AK A c) (AK A o)) ((x * (Xn (AK A o)) + y) + 1)) → (Oth S S3 4) → (∀ b, ¬ (72 ≤ b ∧ b ≤ 75) → S3 b = S b) → Rn k_M_times 195 [(2, 71), (0, c), (0, o), (0, t), (0, (Xn (AK A o))), (0, fv), (0, x), (0, y), (9, 0), (9, 0), (9, 0), (0, k)] [] S3 (fun vv S' => vv = some (0, (Q_times A c o t).1) ∧ RR S' (Q_times A c o t).2 ∧ ∀ b, ¬ (71 ≤ b ∧ b < 91) → S' b = S b) := by
                            intro f195
                            induction f195 with
                            | zero => intro S3 fv k hm195; exact absurd hm195 (Nat.not_lt_zero _)
                            | succ f195 ih195 =>
                              intro S3 fv k hm195 hk jT jE jD jO jF
                              have k1 := jO c _ (by omega) (by omega) (by omega) k0
                              have n1 := k1.n
                              have k8 := jO o _ (by omega) (by omega) (by omega) k7
                              have cmk : (Xn (AK A o)) * k = k * (Xn (AK A o)) := Int.mul_comm _ _
                              have pk := fun q => prng (x := k) (y := y) (n := (Xn (AK A c))) (m := (Xn (AK A o))) q hyy
                              have hRb := Rw_b r0 r7 x y k 0 (k * (Xn (AK A o)) + y)
                              have heb := r0.e x k
                              refine R_lo (nx := 197) rfl rfl rfl rfl ?_
                              refine R_lo (nx := 198) rfl rfl rfl rfl ?_
                              refine R_get (nx := 201) (w := (2, 72)) rfl rfl rfl rfl ?_
                              refine R_lo (nx := 202) rfl rfl rfl rfl ?_
                              refine R_iald (nx := 203) rfl rfl (mm_el_ok 1 5 (by decide) rfl (by decide) (by omega) (by omega)) ?_
                              refine R_icmp (nx := 206) (tg := 253) rfl rfl rfl (mm_cnd_ge _ _) (fun c203_5 => ?_) (fun c203_5 => ?_)
                              ·
                                refine R_op (nx := 254) rfl rfl rfl ?_
                                refine R_lo (nx := 256) (ls' := [(2, 71), (0, c), (0, o), (0, t), (0, (Xn (AK A o))), (0, fv), (0, x), (0, y), (9, 0), (9, 0), (9, 0), (0, 0)]) rfl rfl rfl rfl ?_
                                have L256 : ∀ (f256 : Nat) (S4 : mm_S) (fw : Int) (k : Int), ((Xn (AK A o)) - k).toNat < f256 → (0 ≤ k ∧ k ≤ (Xn (AK A o))) → (FT (AK A c) (AK A o) fw x (y + 1)) → (ERw S4 (AK A c) (AK A o) x y (Xn (AK A c)) k) → (DPa S4 (Xprod (AK A c) (AK A o)) ((x * (Xn (AK A o)) + y) + 1)) → (Oth S S4 4) → (∀ b, ¬ (72 ≤ b ∧ b ≤ 75) → S4 b = S b) → Rn k_M_times 256 [(2, 71), (0, c), (0, o), (0, t), (0, (Xn (AK A o))), (0, fw), (0, x), (0, y), (9, 0), (9, 0), (9, 0), (0, k)] [] S4 (fun vv S' => vv = some (0, (Q_times A c o t).1) ∧ RR S' (Q_times A c o t).2 ∧ ∀ b, ¬ (71 ≤ b ∧ b < 91) → S' b = S b) := by
                                  intro f256
                                  induction f256 with
                                  | zero => intro S4 fw k hm256; exact absurd hm256 (Nat.not_lt_zero _)
                                  | succ f256 ih256 =>
                                    intro S4 fw k hm256 hk lT lE lD lO lF
                                    have k1 := lO c _ (by omega) (by omega) (by omega) k0
                                    have n1 := k1.n
                                    have k8 := lO o _ (by omega) (by omega) (by omega) k7
                                    have pk := fun q => prng (x := x) (y := k) (n := (Xn (AK A c))) (m := (Xn (AK A o))) hxx q
                                    have hRb := Rw_b r0 r7 x y (Xn (AK A c)) k (x * (Xn (AK A o)) + k)
                                    have heb := r7.e y k
                                    have hsx : Xsg (AK A c) x = if Xd (AK A c) x % 2 = 1 then -1 else 1 := rfl
                                    refine R_lo (nx := 258) rfl rfl rfl rfl ?_
                                    refine R_lo (nx := 260) rfl rfl rfl rfl ?_
                                    refine R_icmp (nx := 263) (tg := 335) rfl rfl rfl (mm_cnd_ge _ _) (fun c260_5 => ?_) (fun c260_5 => ?_)
                                    ·
                                      refine R_iinc (nx := 338) (z := (y + 1)) (ls' := [(2, 71), (0, c), (0, o), (0, t), (0, (Xn (AK A o))), (0, fw), (0, x), (0, (y + 1)), (9, 0), (9, 0), (9, 0), (0, k)]) rfl rfl rfl rfl ⟨by omega, by omega⟩ rfl ?_
                                      refine R_op (nx := 341) (pc' := 79) rfl rfl rfl ?_
                                      refine Rn.weak (ls' := [(2, 71), (0, c), (0, o), (0, t), (0, (Xn (AK A o))), (0, fw), (0, x), (0, (y + 1)), (9, 0), (9, 0), (9, 0), (9, 0)]) ⟨Or.inl rfl, ⟨Or.inl rfl, ⟨Or.inl rfl, ⟨Or.inl rfl, ⟨Or.inl rfl, ⟨Or.inl rfl, ⟨Or.inl rfl, ⟨Or.inl rfl, ⟨Or.inl rfl, ⟨Or.inl rfl, ⟨Or.inl rfl, ⟨Or.inr rfl, trivial⟩⟩⟩⟩⟩⟩⟩⟩⟩⟩⟩⟩ ?_
                                      refine ih79 (S4) (fw) ((y + 1)) ?_ ?_ ?_ ?_ ?_ ?_ ?_
                                      · omega
                                      · omega
                                      · exact lT
                                      · have e : k = (Xn (AK A o)) := by omega
                                        rw [e] at lE
                                        exact lE.fin h12 hxx hyy
                                      · rw [← Int.add_assoc]; exact lD
                                      · exact lO
                                      · exact lF
                                    ·
                                      have pk := pk (by omega)
                                      have hdx := hdt x
                                      refine R_lo (nx := 264) rfl rfl rfl rfl ?_
                                      refine R_get (nx := 267) (w := (2, 75)) rfl rfl rfl rfl ?_
                                      refine R_op (nx := 270) rfl rfl rfl ?_
                                      refine R_op (nx := 272) rfl rfl rfl ?_
                                      refine R_lo (nx := 274) rfl rfl rfl rfl ?_
                                      refine R_lo (nx := 276) rfl rfl rfl rfl ?_
                                      refine R_imul (nx := 277) (z := ((Xn (AK A o)) * x)) rfl rfl rfl ⟨by omega, by omega⟩ ?_
                                      refine R_cv (w := (x * (Xn (AK A o)))) (by rw [Int.mul_comm]) ?_
                                      refine R_lo (nx := 279) rfl rfl rfl rfl ?_
                                      refine R_iadd (nx := 280) (z := ((x * (Xn (AK A o))) + y)) rfl rfl rfl ⟨by omega, by omega⟩ ?_
                                      refine R_imul (nx := 281) (z := (12 * ((x * (Xn (AK A o))) + y))) rfl rfl rfl ⟨by omega, by omega⟩ ?_
                                      refine R_iadd (nx := 282) (z := (576 + (12 * ((x * (Xn (AK A o))) + y)))) rfl rfl rfl ⟨by omega, by omega⟩ ?_
                                      refine R_lo (nx := 284) rfl rfl rfl rfl ?_
                                      refine R_lo (nx := 286) rfl rfl rfl rfl ?_
                                      refine R_imul (nx := 287) (z := ((Xn (AK A o)) * x)) rfl rfl rfl ⟨by omega, by omega⟩ ?_
                                      refine R_cv (w := (x * (Xn (AK A o)))) (by rw [Int.mul_comm]) ?_
                                      refine R_iadd (nx := 288) (z := ((576 + (12 * ((x * (Xn (AK A o))) + y))) + (x * (Xn (AK A o))))) rfl rfl rfl ⟨by omega, by omega⟩ ?_
                                      refine R_lo (nx := 290) rfl rfl rfl rfl ?_
                                      refine R_iadd (nx := 291) (z := (((576 + (12 * ((x * (Xn (AK A o))) + y))) + (x * (Xn (AK A o)))) + k)) rfl rfl rfl ⟨by omega, by omega⟩ ?_
                                      refine R_op (nx := 292) rfl rfl rfl ?_
                                      refine R_iald (nx := 293) rfl rfl (mm_el_ok 1 720 (by decide) rfl (by decide) (by omega) (by omega)) ?_
                                      rw [Int.add_assoc (576 + 12 * (x * (Xn (AK A o)) + y)), lE.rd (by omega) (by omega)]
                                      refine R_lo (nx := 294) rfl rfl rfl rfl ?_
                                      refine R_lo (nx := 295) rfl rfl rfl rfl ?_
                                      refine R_lo (nx := 297) rfl rfl rfl rfl ?_
                                      refine R_call1 (nx := 300) (as := [(2, 71), (0, c), (0, x)]) (rest := [(0, (Rw (AK A c) (AK A o) x y (Xn (AK A c)) k (x * (Xn (AK A o)) + k))), (0, ((576 + (12 * ((x * (Xn (AK A o))) + y))) + (x * (Xn (AK A o)) + k))), (2, 75)]) rfl rfl (fun _ _ => rfl) rfl rfl rfl rfl rfl rfl rfl rfl (Cl.mono (c_M_degree S4 c (by omega) (AK A c) (show MRr S4 c (AK A c) by first | assumption | exact MR.r (by assumption) | exact MRr.up (by assumption) (by omega) | exact MRr.up (MR.r (by assumption)) (by omega) | exact MRr.up (MRr.up (MR.r (by assumption)) (by omega)) (by omega)) x (by omega)) ?_)
                                      rintro _ _ ⟨rfl, rfl⟩
                                      refine ⟨_, rfl, ?_⟩
                                      refine R_op (nx := 301) rfl rfl rfl ?_
                                      refine R_irem (nx := 302) (z := (Int.tmod (Xd (AK A c) x) 2)) rfl rfl (by decide) rfl ?_
                                      refine R_if (nx := 305) (tg := 317) rfl rfl rfl (mm_cnd_ne _ _) (fun c302_5 => ?_) (fun c302_5 => ?_)
                                      ·
                                        refine R_lo (nx := 318) rfl rfl rfl rfl ?_
                                        refine R_lo (nx := 319) rfl rfl rfl rfl ?_
                                        refine R_lo (nx := 321) rfl rfl rfl rfl ?_
                                        refine R_lo (nx := 323) rfl rfl rfl rfl ?_
                                        refine R_call1 (nx := 326) (as := [(2, 71), (0, o), (0, y), (0, k)]) (rest := [(0, (Rw (AK A c) (AK A o) x y (Xn (AK A c)) k (x * (Xn (AK A o)) + k))), (0, ((576 + (12 * ((x * (Xn (AK A o))) + y))) + (x * (Xn (AK A o)) + k))), (2, 75)]) rfl rfl (fun _ _ => rfl) rfl rfl rfl rfl rfl rfl rfl rfl (Cl.mono (c_M_edge S4 o (by omega) (AK A o) (show MRr S4 o (AK A o) by first | assumption | exact MR.r (by assumption) | exact MRr.up (by assumption) (by omega) | exact MRr.up (MR.r (by assumption)) (by omega) | exact MRr.up (MRr.up (MR.r (by assumption)) (by omega)) (by omega)) y k (by omega) (by omega)) ?_)
                                        rintro _ _ ⟨rfl, rfl⟩
                                        refine ⟨_, rfl, ?_⟩
                                        refine R_ineg (nx := 327) (z := (-(Xe (AK A o) y k))) rfl rfl rfl ⟨by omega, by omega⟩ ?_
                                        refine R_iadd (nx := 328) (z := ((Rw (AK A c) (AK A o) x y (Xn (AK A c)) k (x * (Xn (AK A o)) + k)) + (-(Xe (AK A o) y k)))) rfl rfl rfl ⟨by omega, by omega⟩ ?_
                                        refine R_iast (nx := 329) rfl rfl (mm_el_ok 1 720 (by decide) rfl (by decide) (by omega) (by omega)) ?_
                                        refine R_iinc (nx := 332) (z := (k + 1)) (ls' := [(2, 71), (0, c), (0, o), (0, t), (0, (Xn (AK A o))), (0, fw), (0, x), (0, y), (9, 0), (9, 0), (9, 0), (0, (k + 1))]) rfl rfl rfl rfl ⟨by omega, by omega⟩ rfl ?_
                                        refine R_op (nx := 335) (pc' := 256) rfl rfl rfl ?_
                                        refine Rn.weak (ls' := [(2, 71), (0, c), (0, o), (0, t), (0, (Xn (AK A o))), (0, fw), (0, x), (0, y), (9, 0), (9, 0), (9, 0), (0, (k + 1))]) ⟨Or.inl rfl, ⟨Or.inl rfl, ⟨Or.inl rfl, ⟨Or.inl rfl, ⟨Or.inl rfl, ⟨Or.inl rfl, ⟨Or.inl rfl, ⟨Or.inl rfl, ⟨Or.inl rfl, ⟨Or.inl rfl, ⟨Or.inl rfl, ⟨Or.inl rfl, trivial⟩⟩⟩⟩⟩⟩⟩⟩⟩⟩⟩⟩ ?_
                                        refine ih256 ((mm_up S4 75 ((576 + (12 * ((x * (Xn (AK A o))) + y))) + (x * (Xn (AK A o)) + k)) ((Rw (AK A c) (AK A o) x y (Xn (AK A c)) k (x * (Xn (AK A o)) + k)) + (-(Xe (AK A o) y k))))) (fw) ((k + 1)) ?_ ?_ ?_ ?_ ?_ ?_ ?_
                                        · omega
                                        · omega
                                        · exact lT
                                        · exact lE.b h12 hxx hyy (by omega) (by first | (rw [hsx, if_neg (by omega), Int.one_mul]; done) | (rw [hsx, if_pos (by omega)]; omega))
                                        · exact lD.fr (mm_unq (by decide)) (mm_unq (by decide))
                                        · exact lO.u75 _ (by omega)
                                        · intro b hb; rw [mm_unq (by omega)]; exact lF b hb
                                      ·
                                        replace c302_5 := Classical.not_not.mp c302_5
                                        refine R_lo (nx := 306) rfl rfl rfl rfl ?_
                                        refine R_lo (nx := 307) rfl rfl rfl rfl ?_
                                        refine R_lo (nx := 309) rfl rfl rfl rfl ?_
                                        refine R_lo (nx := 311) rfl rfl rfl rfl ?_
                                        refine R_call1 (nx := 314) (as := [(2, 71), (0, o), (0, y), (0, k)]) (rest := [(0, (Rw (AK A c) (AK A o) x y (Xn (AK A c)) k (x * (Xn (AK A o)) + k))), (0, ((576 + (12 * ((x * (Xn (AK A o))) + y))) + (x * (Xn (AK A o)) + k))), (2, 75)]) rfl rfl (fun _ _ => rfl) rfl rfl rfl rfl rfl rfl rfl rfl (Cl.mono (c_M_edge S4 o (by omega) (AK A o) (show MRr S4 o (AK A o) by first | assumption | exact MR.r (by assumption) | exact MRr.up (by assumption) (by omega) | exact MRr.up (MR.r (by assumption)) (by omega) | exact MRr.up (MRr.up (MR.r (by assumption)) (by omega)) (by omega)) y k (by omega) (by omega)) ?_)
                                        rintro _ _ ⟨rfl, rfl⟩
                                        refine ⟨_, rfl, ?_⟩
                                        refine R_op (nx := 317) (pc' := 327) rfl rfl rfl ?_
                                        refine R_iadd (nx := 328) (z := ((Rw (AK A c) (AK A o) x y (Xn (AK A c)) k (x * (Xn (AK A o)) + k)) + (Xe (AK A o) y k))) rfl rfl rfl ⟨by omega, by omega⟩ ?_
                                        refine R_iast (nx := 329) rfl rfl (mm_el_ok 1 720 (by decide) rfl (by decide) (by omega) (by omega)) ?_
                                        refine R_iinc (nx := 332) (z := (k + 1)) (ls' := [(2, 71), (0, c), (0, o), (0, t), (0, (Xn (AK A o))), (0, fw), (0, x), (0, y), (9, 0), (9, 0), (9, 0), (0, (k + 1))]) rfl rfl rfl rfl ⟨by omega, by omega⟩ rfl ?_
                                        refine R_op (nx := 335) (pc' := 256) rfl rfl rfl ?_
                                        refine Rn.weak (ls' := [(2, 71), (0, c), (0, o), (0, t), (0, (Xn (AK A o))), (0, fw), (0, x), (0, y), (9, 0), (9, 0), (9, 0), (0, (k + 1))]) ⟨Or.inl rfl, ⟨Or.inl rfl, ⟨Or.inl rfl, ⟨Or.inl rfl, ⟨Or.inl rfl, ⟨Or.inl rfl, ⟨Or.inl rfl, ⟨Or.inl rfl, ⟨Or.inl rfl, ⟨Or.inl rfl, ⟨Or.inl rfl, ⟨Or.inl rfl, trivial⟩⟩⟩⟩⟩⟩⟩⟩⟩⟩⟩⟩ ?_
                                        refine ih256 ((mm_up S4 75 ((576 + (12 * ((x * (Xn (AK A o))) + y))) + (x * (Xn (AK A o)) + k)) ((Rw (AK A c) (AK A o) x y (Xn (AK A c)) k (x * (Xn (AK A o)) + k)) + (Xe (AK A o) y k)))) (fw) ((k + 1)) ?_ ?_ ?_ ?_ ?_ ?_ ?_
                                        · omega
                                        · omega
                                        · exact lT
                                        · exact lE.b h12 hxx hyy (by omega) (by first | (rw [hsx, if_neg (by omega), Int.one_mul]; done) | (rw [hsx, if_pos (by omega)]; omega))
                                        · exact lD.fr (mm_unq (by decide)) (mm_unq (by decide))
                                        · exact lO.u75 _ (by omega)
                                        · intro b hb; rw [mm_unq (by omega)]; exact lF b hb
                                refine Rn.weak (ls' := [(2, 71), (0, c), (0, o), (0, t), (0, (Xn (AK A o))), (0, fv), (0, x), (0, y), (9, 0), (9, 0), (9, 0), (0, 0)]) ⟨Or.inl rfl, ⟨Or.inl rfl, ⟨Or.inl rfl, ⟨Or.inl rfl, ⟨Or.inl rfl, ⟨Or.inl rfl, ⟨Or.inl rfl, ⟨Or.inl rfl, ⟨Or.inl rfl, ⟨Or.inl rfl, ⟨Or.inl rfl, ⟨Or.inl rfl, trivial⟩⟩⟩⟩⟩⟩⟩⟩⟩⟩⟩⟩ ?_
                                refine L256 (((Xn (AK A o)) - (0)).toNat + 1) (S3) (fv) (0) (Nat.lt_succ_self _) ?_ ?_ ?_ ?_ ?_ ?_
                                · omega
                                · exact jT
                                · have e : k = (Xn (AK A c)) := by omega
                                  rw [e] at jE
                                  exact jE
                                · exact jD
                                · exact jO
                                · exact jF
                              ·
                                have pk := pk (by omega)
                                refine R_lo (nx := 207) rfl rfl rfl rfl ?_
                                refine R_get (nx := 210) (w := (2, 75)) rfl rfl rfl rfl ?_
                                refine R_op (nx := 213) rfl rfl rfl ?_
                                refine R_op (nx := 215) rfl rfl rfl ?_
                                refine R_lo (nx := 217) rfl rfl rfl rfl ?_
                                refine R_lo (nx := 219) rfl rfl rfl rfl ?_
                                refine R_imul (nx := 220) (z := ((Xn (AK A o)) * x)) rfl rfl rfl ⟨by omega, by omega⟩ ?_
                                refine R_cv (w := (x * (Xn (AK A o)))) (by rw [Int.mul_comm]) ?_
                                refine R_lo (nx := 222) rfl rfl rfl rfl ?_
                                refine R_iadd (nx := 223) (z := ((x * (Xn (AK A o))) + y)) rfl rfl rfl ⟨by omega, by omega⟩ ?_
                                refine R_imul (nx := 224) (z := (12 * ((x * (Xn (AK A o))) + y))) rfl rfl rfl ⟨by omega, by omega⟩ ?_
                                refine R_iadd (nx := 225) (z := (576 + (12 * ((x * (Xn (AK A o))) + y)))) rfl rfl rfl ⟨by omega, by omega⟩ ?_
                                refine R_lo (nx := 227) rfl rfl rfl rfl ?_
                                refine R_lo (nx := 229) rfl rfl rfl rfl ?_
                                refine R_imul (nx := 230) (z := ((Xn (AK A o)) * k)) rfl rfl rfl ⟨by omega, by omega⟩ ?_
                                refine R_cv (w := (k * (Xn (AK A o)))) (by rw [Int.mul_comm]) ?_
                                refine R_iadd (nx := 231) (z := ((576 + (12 * ((x * (Xn (AK A o))) + y))) + (k * (Xn (AK A o))))) rfl rfl rfl ⟨by omega, by omega⟩ ?_
                                refine R_lo (nx := 233) rfl rfl rfl rfl ?_
                                refine R_iadd (nx := 234) (z := (((576 + (12 * ((x * (Xn (AK A o))) + y))) + (k * (Xn (AK A o)))) + y)) rfl rfl rfl ⟨by omega, by omega⟩ ?_
                                refine R_op (nx := 235) rfl rfl rfl ?_
                                refine R_iald (nx := 236) rfl rfl (mm_el_ok 1 720 (by decide) rfl (by decide) (by omega) (by omega)) ?_
                                rw [Int.add_assoc (576 + 12 * (x * (Xn (AK A o)) + y)), jE.rd (by omega) (by omega)]
                                refine R_lo (nx := 237) rfl rfl rfl rfl ?_
                                refine R_lo (nx := 238) rfl rfl rfl rfl ?_
                                refine R_lo (nx := 240) rfl rfl rfl rfl ?_
                                refine R_lo (nx := 242) rfl rfl rfl rfl ?_
                                refine R_call1 (nx := 245) (as := [(2, 71), (0, c), (0, x), (0, k)]) (rest := [(0, (Rw (AK A c) (AK A o) x y k 0 (k * (Xn (AK A o)) + y))), (0, ((576 + (12 * ((x * (Xn (AK A o))) + y))) + (k * (Xn (AK A o)) + y))), (2, 75)]) rfl rfl (fun _ _ => rfl) rfl rfl rfl rfl rfl rfl rfl rfl (Cl.mono (c_M_edge S3 c (by omega) (AK A c) (show MRr S3 c (AK A c) by first | assumption | exact MR.r (by assumption) | exact MRr.up (by assumption) (by omega) | exact MRr.up (MR.r (by assumption)) (by omega) | exact MRr.up (MRr.up (MR.r (by assumption)) (by omega)) (by omega)) x k (by omega) (by omega)) ?_)
                                rintro _ _ ⟨rfl, rfl⟩
                                refine ⟨_, rfl, ?_⟩
                                refine R_iadd (nx := 246) (z := ((Rw (AK A c) (AK A o) x y k 0 (k * (Xn (AK A o)) + y)) + (Xe (AK A c) x k))) rfl rfl rfl ⟨by omega, by omega⟩ ?_
                                refine R_iast (nx := 247) rfl rfl (mm_el_ok 1 720 (by decide) rfl (by decide) (by omega) (by omega)) ?_
                                refine R_iinc (nx := 250) (z := (k + 1)) (ls' := [(2, 71), (0, c), (0, o), (0, t), (0, (Xn (AK A o))), (0, fv), (0, x), (0, y), (9, 0), (9, 0), (9, 0), (0, (k + 1))]) rfl rfl rfl rfl ⟨by omega, by omega⟩ rfl ?_
                                refine R_op (nx := 253) (pc' := 195) rfl rfl rfl ?_
                                refine Rn.weak (ls' := [(2, 71), (0, c), (0, o), (0, t), (0, (Xn (AK A o))), (0, fv), (0, x), (0, y), (9, 0), (9, 0), (9, 0), (0, (k + 1))]) ⟨Or.inl rfl, ⟨Or.inl rfl, ⟨Or.inl rfl, ⟨Or.inl rfl, ⟨Or.inl rfl, ⟨Or.inl rfl, ⟨Or.inl rfl, ⟨Or.inl rfl, ⟨Or.inl rfl, ⟨Or.inl rfl, ⟨Or.inl rfl, ⟨Or.inl rfl, trivial⟩⟩⟩⟩⟩⟩⟩⟩⟩⟩⟩⟩ ?_
                                refine ih195 ((mm_up S3 75 ((576 + (12 * ((x * (Xn (AK A o))) + y))) + (k * (Xn (AK A o)) + y)) ((Rw (AK A c) (AK A o) x y k 0 (k * (Xn (AK A o)) + y)) + (Xe (AK A c) x k)))) (fv) ((k + 1)) ?_ ?_ ?_ ?_ ?_ ?_ ?_
                                · omega
                                · omega
                                · exact jT
                                · exact jE.a h12 hxx hyy (by omega)
                                · exact jD.fr (mm_unq (by decide)) (mm_unq (by decide))
                                · exact jO.u75 _ (by omega)
                                · intro b hb; rw [mm_unq (by omega)]; exact jF b hb
                          refine Rn.weak (ls' := [(2, 71), (0, c), (0, o), (0, t), (0, (Xn (AK A o))), (0, 0), (0, x), (0, y), (9, 0), (9, 0), (9, 0), (0, 0)]) ⟨Or.inl rfl, ⟨Or.inl rfl, ⟨Or.inl rfl, ⟨Or.inl rfl, ⟨Or.inl rfl, ⟨Or.inl rfl, ⟨Or.inl rfl, ⟨Or.inl rfl, ⟨Or.inr rfl, ⟨Or.inr rfl, ⟨Or.inr rfl, ⟨Or.inl rfl, trivial⟩⟩⟩⟩⟩⟩⟩⟩⟩⟩⟩⟩ ?_
                          refine L195 (((Xn (AK A c)) - (0)).toNat + 1) (S189_5) (0) (0) (Nat.lt_succ_self _) ?_ ?_ ?_ ?_ ?_ ?_
                          · omega
                          · first | exact gT.y (by omega) (by omega) (by omega) (by omega) | exact FT.n (ft := fu) r0 r7 hxx hyy (by first | exact Or.inl ⟨by omega, gT⟩ | exact Or.inr (by omega)) _ _
                          · exact (ERw.st0 z7.1 gE).fr (by rw [e189_5, mm_unq (by decide), mm_unq (by decide), mm_unq (by decide)])
                          · refine gD.st (by omega) e189_5 ?_; have q := hPk.2.2.1 x y hxx hyy; exact ⟨q.1.symm, q.2.1.symm, q.2.2.symm⟩
                          · rw [e189_5]; exact gO.sets _ _ _ (by omega) (by omega)
                          · intro b hb; rw [e189_5, mm_unq (by omega), mm_unq (by omega), mm_unq (by omega)]; exact gF b hb
                        ·
                          refine R_lo (nx := 148) rfl rfl rfl rfl ?_
                          refine R_op (nx := 149) rfl rfl rfl ?_
                          refine R_icmp (nx := 152) (tg := 170) rfl rfl rfl (mm_cnd_gt _ _) (fun c149_1 => ?_) (fun c149_1 => ?_)
                          ·
                            refine R_op (nx := 171) rfl rfl rfl ?_
                            refine R_lo (nx := 173) (ls' := [(2, 71), (0, c), (0, o), (0, t), (0, (Xn (AK A o))), (0, 0), (0, x), (0, y), (0, ((Xd (AK A c) x) + (Xd (AK A o) y))), (0, ((Xl (AK A c) 0 x) + (Xl (AK A o) 0 y))), (0, ((Xl (AK A c) 1 x) + (Xl (AK A o) 1 y))), (9, 0)]) rfl rfl rfl rfl ?_
                            refine R_lo (nx := 174) rfl rfl rfl rfl ?_
                            refine R_op (nx := 175) rfl rfl rfl ?_
                            refine R_lo (nx := 177) rfl rfl rfl rfl ?_
                            refine R_lo (nx := 179) rfl rfl rfl rfl ?_
                            refine R_imul (nx := 180) (z := ((Xn (AK A o)) * x)) rfl rfl rfl ⟨by omega, by omega⟩ ?_
                            refine R_cv (w := (x * (Xn (AK A o)))) (by rw [Int.mul_comm]) ?_
                            refine R_lo (nx := 182) rfl rfl rfl rfl ?_
                            refine R_iadd (nx := 183) (z := ((x * (Xn (AK A o))) + y)) rfl rfl rfl ⟨by omega, by omega⟩ ?_
                            refine R_lo (nx := 185) rfl rfl rfl rfl ?_
                            refine R_lo (nx := 187) rfl rfl rfl rfl ?_
                            refine R_lo (nx := 189) rfl rfl rfl rfl ?_
                            refine R_call0 (nx := 192) (as := [(2, 71), (0, 4), (0, ((x * (Xn (AK A o))) + y)), (0, ((Xd (AK A c) x) + (Xd (AK A o) y))), (0, ((Xl (AK A c) 0 x) + (Xl (AK A o) 0 y))), (0, ((Xl (AK A c) 1 x) + (Xl (AK A o) 1 y)))]) (rest := []) rfl rfl (fun _ _ => rfl) rfl rfl rfl rfl rfl rfl rfl rfl (Cl.mono (c_M_sets S2 4 ((x * (Xn (AK A o))) + y) ((Xd (AK A c) x) + (Xd (AK A o) y)) ((Xl (AK A c) 0 x) + (Xl (AK A o) 0 y)) ((Xl (AK A c) 1 x) + (Xl (AK A o) 1 y)) (by omega) (by omega)) ?_)
                            rintro _ S189_6 ⟨rfl, e189_6⟩
                            refine ⟨rfl, ?_⟩
                            refine R_op (nx := 193) rfl rfl rfl ?_
                            refine R_lo (nx := 195) (ls' := [(2, 71), (0, c), (0, o), (0, t), (0, (Xn (AK A o))), (0, 0), (0, x), (0, y), (0, ((Xd (AK A c) x) + (Xd (AK A o) y))), (0, ((Xl (AK A c) 0 x) + (Xl (AK A o) 0 y))), (0, ((Xl (AK A c) 1 x) + (Xl (AK A o) 1 y))), (0, 0)]) rfl rfl rfl rfl ?_
                            have L195 : ∀ (f195 : Nat) (S3 : mm_S) (fv : Int) (k : Int), ((Xn (AK A c)) - k).toNat < f195 → (0 ≤ k ∧ k ≤ (Xn (AK A c))) → (FT (AK A c) (AK A o) fv x (y + 1)) → (ERw S3 (AK A c) (AK A o) x y k 0) → (DPa S3 (Xprod (AK A c) (AK A o)) ((x * (Xn (AK A o)) + y) + 1)) → (Oth S S3 4) → (∀ b, ¬ (72 ≤ b ∧ b ≤ 75) → S3 b = S b) → Rn k_M_times 195 [(2, 71), (0, c), (0, o), (0, t), (0, (Xn (AK A o))), (0, fv), (0, x), (0, y), (9, 0), (9, 0), (9, 0), (0, k)] [] S3 (fun vv S' => vv = some (0, (Q_times A c o t).1) ∧ RR S' (Q_times A c o t).2 ∧ ∀ b, ¬ (71 ≤ b ∧ b < 91) → S' b = S b) := by
                              intro f195
                              induction f195 with
                              | zero => intro S3 fv k hm195; exact absurd hm195 (Nat.not_lt_zero _)
                              | succ f195 ih195 =>
                                intro S3 fv k hm195 hk jT jE jD jO jF
                                have k1 := jO c _ (by omega) (by omega) (by omega) k0
                                have n1 := k1.n
                                have k8 := jO o _ (by omega) (by omega) (by omega) k7
                                have cmk : (Xn (AK A o)) * k = k * (Xn (AK A o)) := Int.mul_comm _ _
                                have pk := fun q => prng (x := k) (y := y) (n := (Xn (AK A c))) (m := (Xn (AK A o))) q hyy
                                have hRb := Rw_b r0 r7 x y k 0 (k * (Xn (AK A o)) + y)
                                have heb := r0.e x k
                                refine R_lo (nx := 197) rfl rfl rfl rfl ?_
                                refine R_lo (nx := 198) rfl rfl rfl rfl ?_
                                refine R_get (nx := 201) (w := (2, 72)) rfl rfl rfl rfl ?_
                                refine R_lo (nx := 202) rfl rfl rfl rfl ?_
                                refine R_iald (nx := 203) rfl rfl (mm_el_ok 1 5 (by decide) rfl (by decide) (by omega) (by omega)) ?_
                                refine R_icmp (nx := 206) (tg := 253) rfl rfl rfl (mm_cnd_ge _ _) (fun c203_6 => ?_) (fun c203_6 => ?_)
                                ·
                                  refine R_op (nx := 254) rfl rfl rfl ?_
                                  refine R_lo (nx := 256) (ls' := [(2, 71), (0, c), (0, o), (0, t), (0, (Xn (AK A o))), (0, fv), (0, x), (0, y), (9, 0), (9, 0), (9, 0), (0, 0)]) rfl rfl rfl rfl ?_
                                  have L256 : ∀ (f256 : Nat) (S4 : mm_S) (fw : Int) (k : Int), ((Xn (AK A o)) - k).toNat < f256 → (0 ≤ k ∧ k ≤ (Xn (AK A o))) → (FT (AK A c) (AK A o) fw x (y + 1)) → (ERw S4 (AK A c) (AK A o) x y (Xn (AK A c)) k) → (DPa S4 (Xprod (AK A c) (AK A o)) ((x * (Xn (AK A o)) + y) + 1)) → (Oth S S4 4) → (∀ b, ¬ (72 ≤ b ∧ b ≤ 75) → S4 b = S b) → Rn k_M_times 256 [(2, 71), (0, c), (0, o), (0, t), (0, (Xn (AK A o))), (0, fw), (0, x), (0, y), (9, 0), (9, 0), (9, 0), (0, k)] [] S4 (fun vv S' => vv = some (0, (Q_times A c o t).1) ∧ RR S' (Q_times A c o t).2 ∧ ∀ b, ¬ (71 ≤ b ∧ b < 91) → S' b = S b) := by
                                    intro f256
                                    induction f256 with
                                    | zero => intro S4 fw k hm256; exact absurd hm256 (Nat.not_lt_zero _)
                                    | succ f256 ih256 =>
                                      intro S4 fw k hm256 hk lT lE lD lO lF
                                      have k1 := lO c _ (by omega) (by omega) (by omega) k0
                                      have n1 := k1.n
                                      have k8 := lO o _ (by omega) (by omega) (by omega) k7
                                      have pk := fun q => prng (x := x) (y := k) (n := (Xn (AK A c))) (m := (Xn (AK A o))) hxx q
                                      have hRb := Rw_b r0 r7 x y (Xn (AK A c)) k (x * (Xn (AK A o)) + k)
                                      have heb := r7.e y k
                                      have hsx : Xsg (AK A c) x = if Xd (AK A c) x % 2 = 1 then -1 else 1 := rfl
                                      refine R_lo (nx := 258) rfl rfl rfl rfl ?_
                                      refine R_lo (nx := 260) rfl rfl rfl rfl ?_
                                      refine R_icmp (nx := 263) (tg := 335) rfl rfl rfl (mm_cnd_ge _ _) (fun c260_6 => ?_) (fun c260_6 => ?_)
                                      ·
                                        refine R_iinc (nx := 338) (z := (y + 1)) (ls' := [(2, 71), (0, c), (0, o), (0, t), (0, (Xn (AK A o))), (0, fw), (0, x), (0, (y + 1)), (9, 0), (9, 0), (9, 0), (0, k)]) rfl rfl rfl rfl ⟨by omega, by omega⟩ rfl ?_
                                        refine R_op (nx := 341) (pc' := 79) rfl rfl rfl ?_
                                        refine Rn.weak (ls' := [(2, 71), (0, c), (0, o), (0, t), (0, (Xn (AK A o))), (0, fw), (0, x), (0, (y + 1)), (9, 0), (9, 0), (9, 0), (9, 0)]) ⟨Or.inl rfl, ⟨Or.inl rfl, ⟨Or.inl rfl, ⟨Or.inl rfl, ⟨Or.inl rfl, ⟨Or.inl rfl, ⟨Or.inl rfl, ⟨Or.inl rfl, ⟨Or.inl rfl, ⟨Or.inl rfl, ⟨Or.inl rfl, ⟨Or.inr rfl, trivial⟩⟩⟩⟩⟩⟩⟩⟩⟩⟩⟩⟩ ?_
                                        refine ih79 (S4) (fw) ((y + 1)) ?_ ?_ ?_ ?_ ?_ ?_ ?_
                                        · omega
                                        · omega
                                        · exact lT
                                        · have e : k = (Xn (AK A o)) := by omega
                                          rw [e] at lE
                                          exact lE.fin h12 hxx hyy
                                        · rw [← Int.add_assoc]; exact lD
                                        · exact lO
                                        · exact lF
                                      ·
                                        have pk := pk (by omega)
                                        have hdx := hdt x
                                        refine R_lo (nx := 264) rfl rfl rfl rfl ?_
                                        refine R_get (nx := 267) (w := (2, 75)) rfl rfl rfl rfl ?_
                                        refine R_op (nx := 270) rfl rfl rfl ?_
                                        refine R_op (nx := 272) rfl rfl rfl ?_
                                        refine R_lo (nx := 274) rfl rfl rfl rfl ?_
                                        refine R_lo (nx := 276) rfl rfl rfl rfl ?_
                                        refine R_imul (nx := 277) (z := ((Xn (AK A o)) * x)) rfl rfl rfl ⟨by omega, by omega⟩ ?_
                                        refine R_cv (w := (x * (Xn (AK A o)))) (by rw [Int.mul_comm]) ?_
                                        refine R_lo (nx := 279) rfl rfl rfl rfl ?_
                                        refine R_iadd (nx := 280) (z := ((x * (Xn (AK A o))) + y)) rfl rfl rfl ⟨by omega, by omega⟩ ?_
                                        refine R_imul (nx := 281) (z := (12 * ((x * (Xn (AK A o))) + y))) rfl rfl rfl ⟨by omega, by omega⟩ ?_
                                        refine R_iadd (nx := 282) (z := (576 + (12 * ((x * (Xn (AK A o))) + y)))) rfl rfl rfl ⟨by omega, by omega⟩ ?_
                                        refine R_lo (nx := 284) rfl rfl rfl rfl ?_
                                        refine R_lo (nx := 286) rfl rfl rfl rfl ?_
                                        refine R_imul (nx := 287) (z := ((Xn (AK A o)) * x)) rfl rfl rfl ⟨by omega, by omega⟩ ?_
                                        refine R_cv (w := (x * (Xn (AK A o)))) (by rw [Int.mul_comm]) ?_
                                        refine R_iadd (nx := 288) (z := ((576 + (12 * ((x * (Xn (AK A o))) + y))) + (x * (Xn (AK A o))))) rfl rfl rfl ⟨by omega, by omega⟩ ?_
                                        refine R_lo (nx := 290) rfl rfl rfl rfl ?_
                                        refine R_iadd (nx := 291) (z := (((576 + (12 * ((x * (Xn (AK A o))) + y))) + (x * (Xn (AK A o)))) + k)) rfl rfl rfl ⟨by omega, by omega⟩ ?_
                                        refine R_op (nx := 292) rfl rfl rfl ?_
                                        refine R_iald (nx := 293) rfl rfl (mm_el_ok 1 720 (by decide) rfl (by decide) (by omega) (by omega)) ?_
                                        rw [Int.add_assoc (576 + 12 * (x * (Xn (AK A o)) + y)), lE.rd (by omega) (by omega)]
                                        refine R_lo (nx := 294) rfl rfl rfl rfl ?_
                                        refine R_lo (nx := 295) rfl rfl rfl rfl ?_
                                        refine R_lo (nx := 297) rfl rfl rfl rfl ?_
                                        refine R_call1 (nx := 300) (as := [(2, 71), (0, c), (0, x)]) (rest := [(0, (Rw (AK A c) (AK A o) x y (Xn (AK A c)) k (x * (Xn (AK A o)) + k))), (0, ((576 + (12 * ((x * (Xn (AK A o))) + y))) + (x * (Xn (AK A o)) + k))), (2, 75)]) rfl rfl (fun _ _ => rfl) rfl rfl rfl rfl rfl rfl rfl rfl (Cl.mono (c_M_degree S4 c (by omega) (AK A c) (show MRr S4 c (AK A c) by first | assumption | exact MR.r (by assumption) | exact MRr.up (by assumption) (by omega) | exact MRr.up (MR.r (by assumption)) (by omega) | exact MRr.up (MRr.up (MR.r (by assumption)) (by omega)) (by omega)) x (by omega)) ?_)
                                        rintro _ _ ⟨rfl, rfl⟩
                                        refine ⟨_, rfl, ?_⟩
                                        refine R_op (nx := 301) rfl rfl rfl ?_
                                        refine R_irem (nx := 302) (z := (Int.tmod (Xd (AK A c) x) 2)) rfl rfl (by decide) rfl ?_
                                        refine R_if (nx := 305) (tg := 317) rfl rfl rfl (mm_cnd_ne _ _) (fun c302_6 => ?_) (fun c302_6 => ?_)
                                        ·
                                          refine R_lo (nx := 318) rfl rfl rfl rfl ?_
                                          refine R_lo (nx := 319) rfl rfl rfl rfl ?_
                                          refine R_lo (nx := 321) rfl rfl rfl rfl ?_
                                          refine R_lo (nx := 323) rfl rfl rfl rfl ?_
                                          refine R_call1 (nx := 326) (as := [(2, 71), (0, o), (0, y), (0, k)]) (rest := [(0, (Rw (AK A c) (AK A o) x y (Xn (AK A c)) k (x * (Xn (AK A o)) + k))), (0, ((576 + (12 * ((x * (Xn (AK A o))) + y))) + (x * (Xn (AK A o)) + k))), (2, 75)]) rfl rfl (fun _ _ => rfl) rfl rfl rfl rfl rfl rfl rfl rfl (Cl.mono (c_M_edge S4 o (by omega) (AK A o) (show MRr S4 o (AK A o) by first | assumption | exact MR.r (by assumption) | exact MRr.up (by assumption) (by omega) | exact MRr.up (MR.r (by assumption)) (by omega) | exact MRr.up (MRr.up (MR.r (by assumption)) (by omega)) (by omega)) y k (by omega) (by omega)) ?_)
                                          rintro _ _ ⟨rfl, rfl⟩
                                          refine ⟨_, rfl, ?_⟩
                                          refine R_ineg (nx := 327) (z := (-(Xe (AK A o) y k))) rfl rfl rfl ⟨by omega, by omega⟩ ?_
                                          refine R_iadd (nx := 328) (z := ((Rw (AK A c) (AK A o) x y (Xn (AK A c)) k (x * (Xn (AK A o)) + k)) + (-(Xe (AK A o) y k)))) rfl rfl rfl ⟨by omega, by omega⟩ ?_
                                          refine R_iast (nx := 329) rfl rfl (mm_el_ok 1 720 (by decide) rfl (by decide) (by omega) (by omega)) ?_
                                          refine R_iinc (nx := 332) (z := (k + 1)) (ls' := [(2, 71), (0, c), (0, o), (0, t), (0, (Xn (AK A o))), (0, fw), (0, x), (0, y), (9, 0), (9, 0), (9, 0), (0, (k + 1))]) rfl rfl rfl rfl ⟨by omega, by omega⟩ rfl ?_
                                          refine R_op (nx := 335) (pc' := 256) rfl rfl rfl ?_
                                          refine Rn.weak (ls' := [(2, 71), (0, c), (0, o), (0, t), (0, (Xn (AK A o))), (0, fw), (0, x), (0, y), (9, 0), (9, 0), (9, 0), (0, (k + 1))]) ⟨Or.inl rfl, ⟨Or.inl rfl, ⟨Or.inl rfl, ⟨Or.inl rfl, ⟨Or.inl rfl, ⟨Or.inl rfl, ⟨Or.inl rfl, ⟨Or.inl rfl, ⟨Or.inl rfl, ⟨Or.inl rfl, ⟨Or.inl rfl, ⟨Or.inl rfl, trivial⟩⟩⟩⟩⟩⟩⟩⟩⟩⟩⟩⟩ ?_
                                          refine ih256 ((mm_up S4 75 ((576 + (12 * ((x * (Xn (AK A o))) + y))) + (x * (Xn (AK A o)) + k)) ((Rw (AK A c) (AK A o) x y (Xn (AK A c)) k (x * (Xn (AK A o)) + k)) + (-(Xe (AK A o) y k))))) (fw) ((k + 1)) ?_ ?_ ?_ ?_ ?_ ?_ ?_
                                          · omega
                                          · omega
                                          · exact lT
                                          · exact lE.b h12 hxx hyy (by omega) (by first | (rw [hsx, if_neg (by omega), Int.one_mul]; done) | (rw [hsx, if_pos (by omega)]; omega))
                                          · exact lD.fr (mm_unq (by decide)) (mm_unq (by decide))
                                          · exact lO.u75 _ (by omega)
                                          · intro b hb; rw [mm_unq (by omega)]; exact lF b hb
                                        ·
                                          replace c302_6 := Classical.not_not.mp c302_6
                                          refine R_lo (nx := 306) rfl rfl rfl rfl ?_
                                          refine R_lo (nx := 307) rfl rfl rfl rfl ?_
                                          refine R_lo (nx := 309) rfl rfl rfl rfl ?_
                                          refine R_lo (nx := 311) rfl rfl rfl rfl ?_
                                          refine R_call1 (nx := 314) (as := [(2, 71), (0, o), (0, y), (0, k)]) (rest := [(0, (Rw (AK A c) (AK A o) x y (Xn (AK A c)) k (x * (Xn (AK A o)) + k))), (0, ((576 + (12 * ((x * (Xn (AK A o))) + y))) + (x * (Xn (AK A o)) + k))), (2, 75)]) rfl rfl (fun _ _ => rfl) rfl rfl rfl rfl rfl rfl rfl rfl (Cl.mono (c_M_edge S4 o (by omega) (AK A o) (show MRr S4 o (AK A o) by first | assumption | exact MR.r (by assumption) | exact MRr.up (by assumption) (by omega) | exact MRr.up (MR.r (by assumption)) (by omega) | exact MRr.up (MRr.up (MR.r (by assumption)) (by omega)) (by omega)) y k (by omega) (by omega)) ?_)
                                          rintro _ _ ⟨rfl, rfl⟩
                                          refine ⟨_, rfl, ?_⟩
                                          refine R_op (nx := 317) (pc' := 327) rfl rfl rfl ?_
                                          refine R_iadd (nx := 328) (z := ((Rw (AK A c) (AK A o) x y (Xn (AK A c)) k (x * (Xn (AK A o)) + k)) + (Xe (AK A o) y k))) rfl rfl rfl ⟨by omega, by omega⟩ ?_
                                          refine R_iast (nx := 329) rfl rfl (mm_el_ok 1 720 (by decide) rfl (by decide) (by omega) (by omega)) ?_
                                          refine R_iinc (nx := 332) (z := (k + 1)) (ls' := [(2, 71), (0, c), (0, o), (0, t), (0, (Xn (AK A o))), (0, fw), (0, x), (0, y), (9, 0), (9, 0), (9, 0), (0, (k + 1))]) rfl rfl rfl rfl ⟨by omega, by omega⟩ rfl ?_
                                          refine R_op (nx := 335) (pc' := 256) rfl rfl rfl ?_
                                          refine Rn.weak (ls' := [(2, 71), (0, c), (0, o), (0, t), (0, (Xn (AK A o))), (0, fw), (0, x), (0, y), (9, 0), (9, 0), (9, 0), (0, (k + 1))]) ⟨Or.inl rfl, ⟨Or.inl rfl, ⟨Or.inl rfl, ⟨Or.inl rfl, ⟨Or.inl rfl, ⟨Or.inl rfl, ⟨Or.inl rfl, ⟨Or.inl rfl, ⟨Or.inl rfl, ⟨Or.inl rfl, ⟨Or.inl rfl, ⟨Or.inl rfl, trivial⟩⟩⟩⟩⟩⟩⟩⟩⟩⟩⟩⟩ ?_
                                          refine ih256 ((mm_up S4 75 ((576 + (12 * ((x * (Xn (AK A o))) + y))) + (x * (Xn (AK A o)) + k)) ((Rw (AK A c) (AK A o) x y (Xn (AK A c)) k (x * (Xn (AK A o)) + k)) + (Xe (AK A o) y k)))) (fw) ((k + 1)) ?_ ?_ ?_ ?_ ?_ ?_ ?_
                                          · omega
                                          · omega
                                          · exact lT
                                          · exact lE.b h12 hxx hyy (by omega) (by first | (rw [hsx, if_neg (by omega), Int.one_mul]; done) | (rw [hsx, if_pos (by omega)]; omega))
                                          · exact lD.fr (mm_unq (by decide)) (mm_unq (by decide))
                                          · exact lO.u75 _ (by omega)
                                          · intro b hb; rw [mm_unq (by omega)]; exact lF b hb
                                  refine Rn.weak (ls' := [(2, 71), (0, c), (0, o), (0, t), (0, (Xn (AK A o))), (0, fv), (0, x), (0, y), (9, 0), (9, 0), (9, 0), (0, 0)]) ⟨Or.inl rfl, ⟨Or.inl rfl, ⟨Or.inl rfl, ⟨Or.inl rfl, ⟨Or.inl rfl, ⟨Or.inl rfl, ⟨Or.inl rfl, ⟨Or.inl rfl, ⟨Or.inl rfl, ⟨Or.inl rfl, ⟨Or.inl rfl, ⟨Or.inl rfl, trivial⟩⟩⟩⟩⟩⟩⟩⟩⟩⟩⟩⟩ ?_
                                  refine L256 (((Xn (AK A o)) - (0)).toNat + 1) (S3) (fv) (0) (Nat.lt_succ_self _) ?_ ?_ ?_ ?_ ?_ ?_
                                  · omega
                                  · exact jT
                                  · have e : k = (Xn (AK A c)) := by omega
                                    rw [e] at jE
                                    exact jE
                                  · exact jD
                                  · exact jO
                                  · exact jF
                                ·
                                  have pk := pk (by omega)
                                  refine R_lo (nx := 207) rfl rfl rfl rfl ?_
                                  refine R_get (nx := 210) (w := (2, 75)) rfl rfl rfl rfl ?_
                                  refine R_op (nx := 213) rfl rfl rfl ?_
                                  refine R_op (nx := 215) rfl rfl rfl ?_
                                  refine R_lo (nx := 217) rfl rfl rfl rfl ?_
                                  refine R_lo (nx := 219) rfl rfl rfl rfl ?_
                                  refine R_imul (nx := 220) (z := ((Xn (AK A o)) * x)) rfl rfl rfl ⟨by omega, by omega⟩ ?_
                                  refine R_cv (w := (x * (Xn (AK A o)))) (by rw [Int.mul_comm]) ?_
                                  refine R_lo (nx := 222) rfl rfl rfl rfl ?_
                                  refine R_iadd (nx := 223) (z := ((x * (Xn (AK A o))) + y)) rfl rfl rfl ⟨by omega, by omega⟩ ?_
                                  refine R_imul (nx := 224) (z := (12 * ((x * (Xn (AK A o))) + y))) rfl rfl rfl ⟨by omega, by omega⟩ ?_
                                  refine R_iadd (nx := 225) (z := (576 + (12 * ((x * (Xn (AK A o))) + y)))) rfl rfl rfl ⟨by omega, by omega⟩ ?_
                                  refine R_lo (nx := 227) rfl rfl rfl rfl ?_
                                  refine R_lo (nx := 229) rfl rfl rfl rfl ?_
                                  refine R_imul (nx := 230) (z := ((Xn (AK A o)) * k)) rfl rfl rfl ⟨by omega, by omega⟩ ?_
                                  refine R_cv (w := (k * (Xn (AK A o)))) (by rw [Int.mul_comm]) ?_
                                  refine R_iadd (nx := 231) (z := ((576 + (12 * ((x * (Xn (AK A o))) + y))) + (k * (Xn (AK A o))))) rfl rfl rfl ⟨by omega, by omega⟩ ?_
                                  refine R_lo (nx := 233) rfl rfl rfl rfl ?_
                                  refine R_iadd (nx := 234) (z := (((576 + (12 * ((x * (Xn (AK A o))) + y))) + (k * (Xn (AK A o)))) + y)) rfl rfl rfl ⟨by omega, by omega⟩ ?_
                                  refine R_op (nx := 235) rfl rfl rfl ?_
                                  refine R_iald (nx := 236) rfl rfl (mm_el_ok 1 720 (by decide) rfl (by decide) (by omega) (by omega)) ?_
                                  rw [Int.add_assoc (576 + 12 * (x * (Xn (AK A o)) + y)), jE.rd (by omega) (by omega)]
                                  refine R_lo (nx := 237) rfl rfl rfl rfl ?_
                                  refine R_lo (nx := 238) rfl rfl rfl rfl ?_
                                  refine R_lo (nx := 240) rfl rfl rfl rfl ?_
                                  refine R_lo (nx := 242) rfl rfl rfl rfl ?_
                                  refine R_call1 (nx := 245) (as := [(2, 71), (0, c), (0, x), (0, k)]) (rest := [(0, (Rw (AK A c) (AK A o) x y k 0 (k * (Xn (AK A o)) + y))), (0, ((576 + (12 * ((x * (Xn (AK A o))) + y))) + (k * (Xn (AK A o)) + y))), (2, 75)]) rfl rfl (fun _ _ => rfl) rfl rfl rfl rfl rfl rfl rfl rfl (Cl.mono (c_M_edge S3 c (by omega) (AK A c) (show MRr S3 c (AK A c) by first | assumption | exact MR.r (by assumption) | exact MRr.up (by assumption) (by omega) | exact MRr.up (MR.r (by assumption)) (by omega) | exact MRr.up (MRr.up (MR.r (by assumption)) (by omega)) (by omega)) x k (by omega) (by omega)) ?_)
                                  rintro _ _ ⟨rfl, rfl⟩
                                  refine ⟨_, rfl, ?_⟩
                                  refine R_iadd (nx := 246) (z := ((Rw (AK A c) (AK A o) x y k 0 (k * (Xn (AK A o)) + y)) + (Xe (AK A c) x k))) rfl rfl rfl ⟨by omega, by omega⟩ ?_
                                  refine R_iast (nx := 247) rfl rfl (mm_el_ok 1 720 (by decide) rfl (by decide) (by omega) (by omega)) ?_
                                  refine R_iinc (nx := 250) (z := (k + 1)) (ls' := [(2, 71), (0, c), (0, o), (0, t), (0, (Xn (AK A o))), (0, fv), (0, x), (0, y), (9, 0), (9, 0), (9, 0), (0, (k + 1))]) rfl rfl rfl rfl ⟨by omega, by omega⟩ rfl ?_
                                  refine R_op (nx := 253) (pc' := 195) rfl rfl rfl ?_
                                  refine Rn.weak (ls' := [(2, 71), (0, c), (0, o), (0, t), (0, (Xn (AK A o))), (0, fv), (0, x), (0, y), (9, 0), (9, 0), (9, 0), (0, (k + 1))]) ⟨Or.inl rfl, ⟨Or.inl rfl, ⟨Or.inl rfl, ⟨Or.inl rfl, ⟨Or.inl rfl, ⟨Or.inl rfl, ⟨Or.inl rfl, ⟨Or.inl rfl, ⟨Or.inl rfl, ⟨Or.inl rfl, ⟨Or.inl rfl, ⟨Or.inl rfl, trivial⟩⟩⟩⟩⟩⟩⟩⟩⟩⟩⟩⟩ ?_
                                  refine ih195 ((mm_up S3 75 ((576 + (12 * ((x * (Xn (AK A o))) + y))) + (k * (Xn (AK A o)) + y)) ((Rw (AK A c) (AK A o) x y k 0 (k * (Xn (AK A o)) + y)) + (Xe (AK A c) x k)))) (fv) ((k + 1)) ?_ ?_ ?_ ?_ ?_ ?_ ?_
                                  · omega
                                  · omega
                                  · exact jT
                                  · exact jE.a h12 hxx hyy (by omega)
                                  · exact jD.fr (mm_unq (by decide)) (mm_unq (by decide))
                                  · exact jO.u75 _ (by omega)
                                  · intro b hb; rw [mm_unq (by omega)]; exact jF b hb
                            refine Rn.weak (ls' := [(2, 71), (0, c), (0, o), (0, t), (0, (Xn (AK A o))), (0, 0), (0, x), (0, y), (9, 0), (9, 0), (9, 0), (0, 0)]) ⟨Or.inl rfl, ⟨Or.inl rfl, ⟨Or.inl rfl, ⟨Or.inl rfl, ⟨Or.inl rfl, ⟨Or.inl rfl, ⟨Or.inl rfl, ⟨Or.inl rfl, ⟨Or.inr rfl, ⟨Or.inr rfl, ⟨Or.inr rfl, ⟨Or.inl rfl, trivial⟩⟩⟩⟩⟩⟩⟩⟩⟩⟩⟩⟩ ?_
                            refine L195 (((Xn (AK A c)) - (0)).toNat + 1) (S189_6) (0) (0) (Nat.lt_succ_self _) ?_ ?_ ?_ ?_ ?_ ?_
                            · omega
                            · first | exact gT.y (by omega) (by omega) (by omega) (by omega) | exact FT.n (ft := fu) r0 r7 hxx hyy (by first | exact Or.inl ⟨by omega, gT⟩ | exact Or.inr (by omega)) _ _
                            · exact (ERw.st0 z7.1 gE).fr (by rw [e189_6, mm_unq (by decide), mm_unq (by decide), mm_unq (by decide)])
                            · refine gD.st (by omega) e189_6 ?_; have q := hPk.2.2.1 x y hxx hyy; exact ⟨q.1.symm, q.2.1.symm, q.2.2.symm⟩
                            · rw [e189_6]; exact gO.sets _ _ _ (by omega) (by omega)
                            · intro b hb; rw [e189_6, mm_unq (by omega), mm_unq (by omega), mm_unq (by omega)]; exact gF b hb
                          ·
                            refine R_lo (nx := 154) rfl rfl rfl rfl ?_
                            refine R_op (nx := 156) rfl rfl rfl ?_
                            refine R_icmp (nx := 159) (tg := 170) rfl rfl rfl (mm_cnd_gt _ _) (fun c156_1 => ?_) (fun c156_1 => ?_)
                            ·
                              refine R_op (nx := 171) rfl rfl rfl ?_
                              refine R_lo (nx := 173) (ls' := [(2, 71), (0, c), (0, o), (0, t), (0, (Xn (AK A o))), (0, 0), (0, x), (0, y), (0, ((Xd (AK A c) x) + (Xd (AK A o) y))), (0, ((Xl (AK A c) 0 x) + (Xl (AK A o) 0 y))), (0, ((Xl (AK A c) 1 x) + (Xl (AK A o) 1 y))), (9, 0)]) rfl rfl rfl rfl ?_
                              refine R_lo (nx := 174) rfl rfl rfl rfl ?_
                              refine R_op (nx := 175) rfl rfl rfl ?_
                              refine R_lo (nx := 177) rfl rfl rfl rfl ?_
                              refine R_lo (nx := 179) rfl rfl rfl rfl ?_
                              refine R_imul (nx := 180) (z := ((Xn (AK A o)) * x)) rfl rfl rfl ⟨by omega, by omega⟩ ?_
                              refine R_cv (w := (x * (Xn (AK A o)))) (by rw [Int.mul_comm]) ?_
                              refine R_lo (nx := 182) rfl rfl rfl rfl ?_
                              refine R_iadd (nx := 183) (z := ((x * (Xn (AK A o))) + y)) rfl rfl rfl ⟨by omega, by omega⟩ ?_
                              refine R_lo (nx := 185) rfl rfl rfl rfl ?_
                              refine R_lo (nx := 187) rfl rfl rfl rfl ?_
                              refine R_lo (nx := 189) rfl rfl rfl rfl ?_
                              refine R_call0 (nx := 192) (as := [(2, 71), (0, 4), (0, ((x * (Xn (AK A o))) + y)), (0, ((Xd (AK A c) x) + (Xd (AK A o) y))), (0, ((Xl (AK A c) 0 x) + (Xl (AK A o) 0 y))), (0, ((Xl (AK A c) 1 x) + (Xl (AK A o) 1 y)))]) (rest := []) rfl rfl (fun _ _ => rfl) rfl rfl rfl rfl rfl rfl rfl rfl (Cl.mono (c_M_sets S2 4 ((x * (Xn (AK A o))) + y) ((Xd (AK A c) x) + (Xd (AK A o) y)) ((Xl (AK A c) 0 x) + (Xl (AK A o) 0 y)) ((Xl (AK A c) 1 x) + (Xl (AK A o) 1 y)) (by omega) (by omega)) ?_)
                              rintro _ S189_7 ⟨rfl, e189_7⟩
                              refine ⟨rfl, ?_⟩
                              refine R_op (nx := 193) rfl rfl rfl ?_
                              refine R_lo (nx := 195) (ls' := [(2, 71), (0, c), (0, o), (0, t), (0, (Xn (AK A o))), (0, 0), (0, x), (0, y), (0, ((Xd (AK A c) x) + (Xd (AK A o) y))), (0, ((Xl (AK A c) 0 x) + (Xl (AK A o) 0 y))), (0, ((Xl (AK A c) 1 x) + (Xl (AK A o) 1 y))), (0, 0)]) rfl rfl rfl rfl ?_
                              have L195 : ∀ (f195 : Nat) (S3 : mm_S) (fv : Int) (k : Int), ((Xn (AK A c)) - k).toNat < f195 → (0 ≤ k ∧ k ≤ (Xn (AK A c))) → (FT (AK A c) (AK A o) fv x (y + 1)) → (ERw S3 (AK A c) (AK A o) x y k 0) → (DPa S3 (Xprod (AK A c) (AK A o)) ((x * (Xn (AK A o)) + y) + 1)) → (Oth S S3 4) → (∀ b, ¬ (72 ≤ b ∧ b ≤ 75) → S3 b = S b) → Rn k_M_times 195 [(2, 71), (0, c), (0, o), (0, t), (0, (Xn (AK A o))), (0, fv), (0, x), (0, y), (9, 0), (9, 0), (9, 0), (0, k)] [] S3 (fun vv S' => vv = some (0, (Q_times A c o t).1) ∧ RR S' (Q_times A c o t).2 ∧ ∀ b, ¬ (71 ≤ b ∧ b < 91) → S' b = S b) := by
                                intro f195
                                induction f195 with
                                | zero => intro S3 fv k hm195; exact absurd hm195 (Nat.not_lt_zero _)
                                | succ f195 ih195 =>
                                  intro S3 fv k hm195 hk jT jE jD jO jF
                                  have k1 := jO c _ (by omega) (by omega) (by omega) k0
                                  have n1 := k1.n
                                  have k8 := jO o _ (by omega) (by omega) (by omega) k7
                                  have cmk : (Xn (AK A o)) * k = k * (Xn (AK A o)) := Int.mul_comm _ _
                                  have pk := fun q => prng (x := k) (y := y) (n := (Xn (AK A c))) (m := (Xn (AK A o))) q hyy
                                  have hRb := Rw_b r0 r7 x y k 0 (k * (Xn (AK A o)) + y)
                                  have heb := r0.e x k
                                  refine R_lo (nx := 197) rfl rfl rfl rfl ?_
                                  refine R_lo (nx := 198) rfl rfl rfl rfl ?_
                                  refine R_get (nx := 201) (w := (2, 72)) rfl rfl rfl rfl ?_
                                  refine R_lo (nx := 202) rfl rfl rfl rfl ?_
                                  refine R_iald (nx := 203) rfl rfl (mm_el_ok 1 5 (by decide) rfl (by decide) (by omega) (by omega)) ?_
                                  refine R_icmp (nx := 206) (tg := 253) rfl rfl rfl (mm_cnd_ge _ _) (fun c203_7 => ?_) (fun c203_7 => ?_)
                                  ·
                                    refine R_op (nx := 254) rfl rfl rfl ?_
                                    refine R_lo (nx := 256) (ls' := [(2, 71), (0, c), (0, o), (0, t), (0, (Xn (AK A o))), (0, fv), (0, x), (0, y), (9, 0), (9, 0), (9, 0), (0, 0)]) rfl rfl rfl rfl ?_
                                    have L256 : ∀ (f256 : Nat) (S4 : mm_S) (fw : Int) (k : Int), ((Xn (AK A o)) - k).toNat < f256 → (0 ≤ k ∧ k ≤ (Xn (AK A o))) → (FT (AK A c) (AK A o) fw x (y + 1)) → (ERw S4 (AK A c) (AK A o) x y (Xn (AK A c)) k) → (DPa S4 (Xprod (AK A c) (AK A o)) ((x * (Xn (AK A o)) + y) + 1)) → (Oth S S4 4) → (∀ b, ¬ (72 ≤ b ∧ b ≤ 75) → S4 b = S b) → Rn k_M_times 256 [(2, 71), (0, c), (0, o), (0, t), (0, (Xn (AK A o))), (0, fw), (0, x), (0, y), (9, 0), (9, 0), (9, 0), (0, k)] [] S4 (fun vv S' => vv = some (0, (Q_times A c o t).1) ∧ RR S' (Q_times A c o t).2 ∧ ∀ b, ¬ (71 ≤ b ∧ b < 91) → S' b = S b) := by
                                      intro f256
                                      induction f256 with
                                      | zero => intro S4 fw k hm256; exact absurd hm256 (Nat.not_lt_zero _)
                                      | succ f256 ih256 =>
                                        intro S4 fw k hm256 hk lT lE lD lO lF
                                        have k1 := lO c _ (by omega) (by omega) (by omega) k0
                                        have n1 := k1.n
                                        have k8 := lO o _ (by omega) (by omega) (by omega) k7
                                        have pk := fun q => prng (x := x) (y := k) (n := (Xn (AK A c))) (m := (Xn (AK A o))) hxx q
                                        have hRb := Rw_b r0 r7 x y (Xn (AK A c)) k (x * (Xn (AK A o)) + k)
                                        have heb := r7.e y k
                                        have hsx : Xsg (AK A c) x = if Xd (AK A c) x % 2 = 1 then -1 else 1 := rfl
                                        refine R_lo (nx := 258) rfl rfl rfl rfl ?_
                                        refine R_lo (nx := 260) rfl rfl rfl rfl ?_
                                        refine R_icmp (nx := 263) (tg := 335) rfl rfl rfl (mm_cnd_ge _ _) (fun c260_7 => ?_) (fun c260_7 => ?_)
                                        ·
                                          refine R_iinc (nx := 338) (z := (y + 1)) (ls' := [(2, 71), (0, c), (0, o), (0, t), (0, (Xn (AK A o))), (0, fw), (0, x), (0, (y + 1)), (9, 0), (9, 0), (9, 0), (0, k)]) rfl rfl rfl rfl ⟨by omega, by omega⟩ rfl ?_
                                          refine R_op (nx := 341) (pc' := 79) rfl rfl rfl ?_
                                          refine Rn.weak (ls' := [(2, 71), (0, c), (0, o), (0, t), (0, (Xn (AK A o))), (0, fw), (0, x), (0, (y + 1)), (9, 0), (9, 0), (9, 0), (9, 0)]) ⟨Or.inl rfl, ⟨Or.inl rfl, ⟨Or.inl rfl, ⟨Or.inl rfl, ⟨Or.inl rfl, ⟨Or.inl rfl, ⟨Or.inl rfl, ⟨Or.inl rfl, ⟨Or.inl rfl, ⟨Or.inl rfl, ⟨Or.inl rfl, ⟨Or.inr rfl, trivial⟩⟩⟩⟩⟩⟩⟩⟩⟩⟩⟩⟩ ?_
                                          refine ih79 (S4) (fw) ((y + 1)) ?_ ?_ ?_ ?_ ?_ ?_ ?_
                                          · omega
                                          · omega
                                          · exact lT
                                          · have e : k = (Xn (AK A o)) := by omega
                                            rw [e] at lE
                                            exact lE.fin h12 hxx hyy
                                          · rw [← Int.add_assoc]; exact lD
                                          · exact lO
                                          · exact lF
                                        ·
                                          have pk := pk (by omega)
                                          have hdx := hdt x
                                          refine R_lo (nx := 264) rfl rfl rfl rfl ?_
                                          refine R_get (nx := 267) (w := (2, 75)) rfl rfl rfl rfl ?_
                                          refine R_op (nx := 270) rfl rfl rfl ?_
                                          refine R_op (nx := 272) rfl rfl rfl ?_
                                          refine R_lo (nx := 274) rfl rfl rfl rfl ?_
                                          refine R_lo (nx := 276) rfl rfl rfl rfl ?_
                                          refine R_imul (nx := 277) (z := ((Xn (AK A o)) * x)) rfl rfl rfl ⟨by omega, by omega⟩ ?_
                                          refine R_cv (w := (x * (Xn (AK A o)))) (by rw [Int.mul_comm]) ?_
                                          refine R_lo (nx := 279) rfl rfl rfl rfl ?_
                                          refine R_iadd (nx := 280) (z := ((x * (Xn (AK A o))) + y)) rfl rfl rfl ⟨by omega, by omega⟩ ?_
                                          refine R_imul (nx := 281) (z := (12 * ((x * (Xn (AK A o))) + y))) rfl rfl rfl ⟨by omega, by omega⟩ ?_
                                          refine R_iadd (nx := 282) (z := (576 + (12 * ((x * (Xn (AK A o))) + y)))) rfl rfl rfl ⟨by omega, by omega⟩ ?_
                                          refine R_lo (nx := 284) rfl rfl rfl rfl ?_
                                          refine R_lo (nx := 286) rfl rfl rfl rfl ?_
                                          refine R_imul (nx := 287) (z := ((Xn (AK A o)) * x)) rfl rfl rfl ⟨by omega, by omega⟩ ?_
                                          refine R_cv (w := (x * (Xn (AK A o)))) (by rw [Int.mul_comm]) ?_
                                          refine R_iadd (nx := 288) (z := ((576 + (12 * ((x * (Xn (AK A o))) + y))) + (x * (Xn (AK A o))))) rfl rfl rfl ⟨by omega, by omega⟩ ?_
                                          refine R_lo (nx := 290) rfl rfl rfl rfl ?_
                                          refine R_iadd (nx := 291) (z := (((576 + (12 * ((x * (Xn (AK A o))) + y))) + (x * (Xn (AK A o)))) + k)) rfl rfl rfl ⟨by omega, by omega⟩ ?_
                                          refine R_op (nx := 292) rfl rfl rfl ?_
                                          refine R_iald (nx := 293) rfl rfl (mm_el_ok 1 720 (by decide) rfl (by decide) (by omega) (by omega)) ?_
                                          rw [Int.add_assoc (576 + 12 * (x * (Xn (AK A o)) + y)), lE.rd (by omega) (by omega)]
                                          refine R_lo (nx := 294) rfl rfl rfl rfl ?_
                                          refine R_lo (nx := 295) rfl rfl rfl rfl ?_
                                          refine R_lo (nx := 297) rfl rfl rfl rfl ?_
                                          refine R_call1 (nx := 300) (as := [(2, 71), (0, c), (0, x)]) (rest := [(0, (Rw (AK A c) (AK A o) x y (Xn (AK A c)) k (x * (Xn (AK A o)) + k))), (0, ((576 + (12 * ((x * (Xn (AK A o))) + y))) + (x * (Xn (AK A o)) + k))), (2, 75)]) rfl rfl (fun _ _ => rfl) rfl rfl rfl rfl rfl rfl rfl rfl (Cl.mono (c_M_degree S4 c (by omega) (AK A c) (show MRr S4 c (AK A c) by first | assumption | exact MR.r (by assumption) | exact MRr.up (by assumption) (by omega) | exact MRr.up (MR.r (by assumption)) (by omega) | exact MRr.up (MRr.up (MR.r (by assumption)) (by omega)) (by omega)) x (by omega)) ?_)
                                          rintro _ _ ⟨rfl, rfl⟩
                                          refine ⟨_, rfl, ?_⟩
                                          refine R_op (nx := 301) rfl rfl rfl ?_
                                          refine R_irem (nx := 302) (z := (Int.tmod (Xd (AK A c) x) 2)) rfl rfl (by decide) rfl ?_
                                          refine R_if (nx := 305) (tg := 317) rfl rfl rfl (mm_cnd_ne _ _) (fun c302_7 => ?_) (fun c302_7 => ?_)
                                          ·
                                            refine R_lo (nx := 318) rfl rfl rfl rfl ?_
                                            refine R_lo (nx := 319) rfl rfl rfl rfl ?_
                                            refine R_lo (nx := 321) rfl rfl rfl rfl ?_
                                            refine R_lo (nx := 323) rfl rfl rfl rfl ?_
                                            refine R_call1 (nx := 326) (as := [(2, 71), (0, o), (0, y), (0, k)]) (rest := [(0, (Rw (AK A c) (AK A o) x y (Xn (AK A c)) k (x * (Xn (AK A o)) + k))), (0, ((576 + (12 * ((x * (Xn (AK A o))) + y))) + (x * (Xn (AK A o)) + k))), (2, 75)]) rfl rfl (fun _ _ => rfl) rfl rfl rfl rfl rfl rfl rfl rfl (Cl.mono (c_M_edge S4 o (by omega) (AK A o) (show MRr S4 o (AK A o) by first | assumption | exact MR.r (by assumption) | exact MRr.up (by assumption) (by omega) | exact MRr.up (MR.r (by assumption)) (by omega) | exact MRr.up (MRr.up (MR.r (by assumption)) (by omega)) (by omega)) y k (by omega) (by omega)) ?_)
                                            rintro _ _ ⟨rfl, rfl⟩
                                            refine ⟨_, rfl, ?_⟩
                                            refine R_ineg (nx := 327) (z := (-(Xe (AK A o) y k))) rfl rfl rfl ⟨by omega, by omega⟩ ?_
                                            refine R_iadd (nx := 328) (z := ((Rw (AK A c) (AK A o) x y (Xn (AK A c)) k (x * (Xn (AK A o)) + k)) + (-(Xe (AK A o) y k)))) rfl rfl rfl ⟨by omega, by omega⟩ ?_
                                            refine R_iast (nx := 329) rfl rfl (mm_el_ok 1 720 (by decide) rfl (by decide) (by omega) (by omega)) ?_
                                            refine R_iinc (nx := 332) (z := (k + 1)) (ls' := [(2, 71), (0, c), (0, o), (0, t), (0, (Xn (AK A o))), (0, fw), (0, x), (0, y), (9, 0), (9, 0), (9, 0), (0, (k + 1))]) rfl rfl rfl rfl ⟨by omega, by omega⟩ rfl ?_
                                            refine R_op (nx := 335) (pc' := 256) rfl rfl rfl ?_
                                            refine Rn.weak (ls' := [(2, 71), (0, c), (0, o), (0, t), (0, (Xn (AK A o))), (0, fw), (0, x), (0, y), (9, 0), (9, 0), (9, 0), (0, (k + 1))]) ⟨Or.inl rfl, ⟨Or.inl rfl, ⟨Or.inl rfl, ⟨Or.inl rfl, ⟨Or.inl rfl, ⟨Or.inl rfl, ⟨Or.inl rfl, ⟨Or.inl rfl, ⟨Or.inl rfl, ⟨Or.inl rfl, ⟨Or.inl rfl, ⟨Or.inl rfl, trivial⟩⟩⟩⟩⟩⟩⟩⟩⟩⟩⟩⟩ ?_
                                            refine ih256 ((mm_up S4 75 ((576 + (12 * ((x * (Xn (AK A o))) + y))) + (x * (Xn (AK A o)) + k)) ((Rw (AK A c) (AK A o) x y (Xn (AK A c)) k (x * (Xn (AK A o)) + k)) + (-(Xe (AK A o) y k))))) (fw) ((k + 1)) ?_ ?_ ?_ ?_ ?_ ?_ ?_
                                            · omega
                                            · omega
                                            · exact lT
                                            · exact lE.b h12 hxx hyy (by omega) (by first | (rw [hsx, if_neg (by omega), Int.one_mul]; done) | (rw [hsx, if_pos (by omega)]; omega))
                                            · exact lD.fr (mm_unq (by decide)) (mm_unq (by decide))
                                            · exact lO.u75 _ (by omega)
                                            · intro b hb; rw [mm_unq (by omega)]; exact lF b hb
                                          ·
                                            replace c302_7 := Classical.not_not.mp c302_7
                                            refine R_lo (nx := 306) rfl rfl rfl rfl ?_
                                            refine R_lo (nx := 307) rfl rfl rfl rfl ?_
                                            refine R_lo (nx := 309) rfl rfl rfl rfl ?_
                                            refine R_lo (nx := 311) rfl rfl rfl rfl ?_
                                            refine R_call1 (nx := 314) (as := [(2, 71), (0, o), (0, y), (0, k)]) (rest := [(0, (Rw (AK A c) (AK A o) x y (Xn (AK A c)) k (x * (Xn (AK A o)) + k))), (0, ((576 + (12 * ((x * (Xn (AK A o))) + y))) + (x * (Xn (AK A o)) + k))), (2, 75)]) rfl rfl (fun _ _ => rfl) rfl rfl rfl rfl rfl rfl rfl rfl (Cl.mono (c_M_edge S4 o (by omega) (AK A o) (show MRr S4 o (AK A o) by first | assumption | exact MR.r (by assumption) | exact MRr.up (by assumption) (by omega) | exact MRr.up (MR.r (by assumption)) (by omega) | exact MRr.up (MRr.up (MR.r (by assumption)) (by omega)) (by omega)) y k (by omega) (by omega)) ?_)
                                            rintro _ _ ⟨rfl, rfl⟩
                                            refine ⟨_, rfl, ?_⟩
                                            refine R_op (nx := 317) (pc' := 327) rfl rfl rfl ?_
                                            refine R_iadd (nx := 328) (z := ((Rw (AK A c) (AK A o) x y (Xn (AK A c)) k (x * (Xn (AK A o)) + k)) + (Xe (AK A o) y k))) rfl rfl rfl ⟨by omega, by omega⟩ ?_
                                            refine R_iast (nx := 329) rfl rfl (mm_el_ok 1 720 (by decide) rfl (by decide) (by omega) (by omega)) ?_
                                            refine R_iinc (nx := 332) (z := (k + 1)) (ls' := [(2, 71), (0, c), (0, o), (0, t), (0, (Xn (AK A o))), (0, fw), (0, x), (0, y), (9, 0), (9, 0), (9, 0), (0, (k + 1))]) rfl rfl rfl rfl ⟨by omega, by omega⟩ rfl ?_
                                            refine R_op (nx := 335) (pc' := 256) rfl rfl rfl ?_
                                            refine Rn.weak (ls' := [(2, 71), (0, c), (0, o), (0, t), (0, (Xn (AK A o))), (0, fw), (0, x), (0, y), (9, 0), (9, 0), (9, 0), (0, (k + 1))]) ⟨Or.inl rfl, ⟨Or.inl rfl, ⟨Or.inl rfl, ⟨Or.inl rfl, ⟨Or.inl rfl, ⟨Or.inl rfl, ⟨Or.inl rfl, ⟨Or.inl rfl, ⟨Or.inl rfl, ⟨Or.inl rfl, ⟨Or.inl rfl, ⟨Or.inl rfl, trivial⟩⟩⟩⟩⟩⟩⟩⟩⟩⟩⟩⟩ ?_
                                            refine ih256 ((mm_up S4 75 ((576 + (12 * ((x * (Xn (AK A o))) + y))) + (x * (Xn (AK A o)) + k)) ((Rw (AK A c) (AK A o) x y (Xn (AK A c)) k (x * (Xn (AK A o)) + k)) + (Xe (AK A o) y k)))) (fw) ((k + 1)) ?_ ?_ ?_ ?_ ?_ ?_ ?_
                                            · omega
                                            · omega
                                            · exact lT
                                            · exact lE.b h12 hxx hyy (by omega) (by first | (rw [hsx, if_neg (by omega), Int.one_mul]; done) | (rw [hsx, if_pos (by omega)]; omega))
                                            · exact lD.fr (mm_unq (by decide)) (mm_unq (by decide))
                                            · exact lO.u75 _ (by omega)
                                            · intro b hb; rw [mm_unq (by omega)]; exact lF b hb
                                    refine Rn.weak (ls' := [(2, 71), (0, c), (0, o), (0, t), (0, (Xn (AK A o))), (0, fv), (0, x), (0, y), (9, 0), (9, 0), (9, 0), (0, 0)]) ⟨Or.inl rfl, ⟨Or.inl rfl, ⟨Or.inl rfl, ⟨Or.inl rfl, ⟨Or.inl rfl, ⟨Or.inl rfl, ⟨Or.inl rfl, ⟨Or.inl rfl, ⟨Or.inl rfl, ⟨Or.inl rfl, ⟨Or.inl rfl, ⟨Or.inl rfl, trivial⟩⟩⟩⟩⟩⟩⟩⟩⟩⟩⟩⟩ ?_
                                    refine L256 (((Xn (AK A o)) - (0)).toNat + 1) (S3) (fv) (0) (Nat.lt_succ_self _) ?_ ?_ ?_ ?_ ?_ ?_
                                    · omega
                                    · exact jT
                                    · have e : k = (Xn (AK A c)) := by omega
                                      rw [e] at jE
                                      exact jE
                                    · exact jD
                                    · exact jO
                                    · exact jF
                                  ·
                                    have pk := pk (by omega)
                                    refine R_lo (nx := 207) rfl rfl rfl rfl ?_
                                    refine R_get (nx := 210) (w := (2, 75)) rfl rfl rfl rfl ?_
                                    refine R_op (nx := 213) rfl rfl rfl ?_
                                    refine R_op (nx := 215) rfl rfl rfl ?_
                                    refine R_lo (nx := 217) rfl rfl rfl rfl ?_
                                    refine R_lo (nx := 219) rfl rfl rfl rfl ?_
                                    refine R_imul (nx := 220) (z := ((Xn (AK A o)) * x)) rfl rfl rfl ⟨by omega, by omega⟩ ?_
                                    refine R_cv (w := (x * (Xn (AK A o)))) (by rw [Int.mul_comm]) ?_
                                    refine R_lo (nx := 222) rfl rfl rfl rfl ?_
                                    refine R_iadd (nx := 223) (z := ((x * (Xn (AK A o))) + y)) rfl rfl rfl ⟨by omega, by omega⟩ ?_
                                    refine R_imul (nx := 224) (z := (12 * ((x * (Xn (AK A o))) + y))) rfl rfl rfl ⟨by omega, by omega⟩ ?_
                                    refine R_iadd (nx := 225) (z := (576 + (12 * ((x * (Xn (AK A o))) + y)))) rfl rfl rfl ⟨by omega, by omega⟩ ?_
                                    refine R_lo (nx := 227) rfl rfl rfl rfl ?_
                                    refine R_lo (nx := 229) rfl rfl rfl rfl ?_
                                    refine R_imul (nx := 230) (z := ((Xn (AK A o)) * k)) rfl rfl rfl ⟨by omega, by omega⟩ ?_
                                    refine R_cv (w := (k * (Xn (AK A o)))) (by rw [Int.mul_comm]) ?_
                                    refine R_iadd (nx := 231) (z := ((576 + (12 * ((x * (Xn (AK A o))) + y))) + (k * (Xn (AK A o))))) rfl rfl rfl ⟨by omega, by omega⟩ ?_
                                    refine R_lo (nx := 233) rfl rfl rfl rfl ?_
                                    refine R_iadd (nx := 234) (z := (((576 + (12 * ((x * (Xn (AK A o))) + y))) + (k * (Xn (AK A o)))) + y)) rfl rfl rfl ⟨by omega, by omega⟩ ?_
                                    refine R_op (nx := 235) rfl rfl rfl ?_
                                    refine R_iald (nx := 236) rfl rfl (mm_el_ok 1 720 (by decide) rfl (by decide) (by omega) (by omega)) ?_
                                    rw [Int.add_assoc (576 + 12 * (x * (Xn (AK A o)) + y)), jE.rd (by omega) (by omega)]
                                    refine R_lo (nx := 237) rfl rfl rfl rfl ?_
                                    refine R_lo (nx := 238) rfl rfl rfl rfl ?_
                                    refine R_lo (nx := 240) rfl rfl rfl rfl ?_
                                    refine R_lo (nx := 242) rfl rfl rfl rfl ?_
                                    refine R_call1 (nx := 245) (as := [(2, 71), (0, c), (0, x), (0, k)]) (rest := [(0, (Rw (AK A c) (AK A o) x y k 0 (k * (Xn (AK A o)) + y))), (0, ((576 + (12 * ((x * (Xn (AK A o))) + y))) + (k * (Xn (AK A o)) + y))), (2, 75)]) rfl rfl (fun _ _ => rfl) rfl rfl rfl rfl rfl rfl rfl rfl (Cl.mono (c_M_edge S3 c (by omega) (AK A c) (show MRr S3 c (AK A c) by first | assumption | exact MR.r (by assumption) | exact MRr.up (by assumption) (by omega) | exact MRr.up (MR.r (by assumption)) (by omega) | exact MRr.up (MRr.up (MR.r (by assumption)) (by omega)) (by omega)) x k (by omega) (by omega)) ?_)
                                    rintro _ _ ⟨rfl, rfl⟩
                                    refine ⟨_, rfl, ?_⟩
                                    refine R_iadd (nx := 246) (z := ((Rw (AK A c) (AK A o) x y k 0 (k * (Xn (AK A o)) + y)) + (Xe (AK A c) x k))) rfl rfl rfl ⟨by omega, by omega⟩ ?_
                                    refine R_iast (nx := 247) rfl rfl (mm_el_ok 1 720 (by decide) rfl (by decide) (by omega) (by omega)) ?_
                                    refine R_iinc (nx := 250) (z := (k + 1)) (ls' := [(2, 71), (0, c), (0, o), (0, t), (0, (Xn (AK A o))), (0, fv), (0, x), (0, y), (9, 0), (9, 0), (9, 0), (0, (k + 1))]) rfl rfl rfl rfl ⟨by omega, by omega⟩ rfl ?_
                                    refine R_op (nx := 253) (pc' := 195) rfl rfl rfl ?_
                                    refine Rn.weak (ls' := [(2, 71), (0, c), (0, o), (0, t), (0, (Xn (AK A o))), (0, fv), (0, x), (0, y), (9, 0), (9, 0), (9, 0), (0, (k + 1))]) ⟨Or.inl rfl, ⟨Or.inl rfl, ⟨Or.inl rfl, ⟨Or.inl rfl, ⟨Or.inl rfl, ⟨Or.inl rfl, ⟨Or.inl rfl, ⟨Or.inl rfl, ⟨Or.inl rfl, ⟨Or.inl rfl, ⟨Or.inl rfl, ⟨Or.inl rfl, trivial⟩⟩⟩⟩⟩⟩⟩⟩⟩⟩⟩⟩ ?_
                                    refine ih195 ((mm_up S3 75 ((576 + (12 * ((x * (Xn (AK A o))) + y))) + (k * (Xn (AK A o)) + y)) ((Rw (AK A c) (AK A o) x y k 0 (k * (Xn (AK A o)) + y)) + (Xe (AK A c) x k)))) (fv) ((k + 1)) ?_ ?_ ?_ ?_ ?_ ?_ ?_
                                    · omega
                                    · omega
                                    · exact jT
                                    · exact jE.a h12 hxx hyy (by omega)
                                    · exact jD.fr (mm_unq (by decide)) (mm_unq (by decide))
                                    · exact jO.u75 _ (by omega)
                                    · intro b hb; rw [mm_unq (by omega)]; exact jF b hb
                              refine Rn.weak (ls' := [(2, 71), (0, c), (0, o), (0, t), (0, (Xn (AK A o))), (0, 0), (0, x), (0, y), (9, 0), (9, 0), (9, 0), (0, 0)]) ⟨Or.inl rfl, ⟨Or.inl rfl, ⟨Or.inl rfl, ⟨Or.inl rfl, ⟨Or.inl rfl, ⟨Or.inl rfl, ⟨Or.inl rfl, ⟨Or.inl rfl, ⟨Or.inr rfl, ⟨Or.inr rfl, ⟨Or.inr rfl, ⟨Or.inl rfl, trivial⟩⟩⟩⟩⟩⟩⟩⟩⟩⟩⟩⟩ ?_
                              refine L195 (((Xn (AK A c)) - (0)).toNat + 1) (S189_7) (0) (0) (Nat.lt_succ_self _) ?_ ?_ ?_ ?_ ?_ ?_
                              · omega
                              · first | exact gT.y (by omega) (by omega) (by omega) (by omega) | exact FT.n (ft := fu) r0 r7 hxx hyy (by first | exact Or.inl ⟨by omega, gT⟩ | exact Or.inr (by omega)) _ _
                              · exact (ERw.st0 z7.1 gE).fr (by rw [e189_7, mm_unq (by decide), mm_unq (by decide), mm_unq (by decide)])
                              · refine gD.st (by omega) e189_7 ?_; have q := hPk.2.2.1 x y hxx hyy; exact ⟨q.1.symm, q.2.1.symm, q.2.2.symm⟩
                              · rw [e189_7]; exact gO.sets _ _ _ (by omega) (by omega)
                              · intro b hb; rw [e189_7, mm_unq (by omega), mm_unq (by omega), mm_unq (by omega)]; exact gF b hb
                            ·
                              refine R_lo (nx := 161) rfl rfl rfl rfl ?_
                              refine R_op (nx := 163) rfl rfl rfl ?_
                              refine R_icmp (nx := 166) (tg := 170) rfl rfl rfl (mm_cnd_gt _ _) (fun c163_1 => ?_) (fun c163_1 => ?_)
                              ·
                                refine R_op (nx := 171) rfl rfl rfl ?_
                                refine R_lo (nx := 173) (ls' := [(2, 71), (0, c), (0, o), (0, t), (0, (Xn (AK A o))), (0, 0), (0, x), (0, y), (0, ((Xd (AK A c) x) + (Xd (AK A o) y))), (0, ((Xl (AK A c) 0 x) + (Xl (AK A o) 0 y))), (0, ((Xl (AK A c) 1 x) + (Xl (AK A o) 1 y))), (9, 0)]) rfl rfl rfl rfl ?_
                                refine R_lo (nx := 174) rfl rfl rfl rfl ?_
                                refine R_op (nx := 175) rfl rfl rfl ?_
                                refine R_lo (nx := 177) rfl rfl rfl rfl ?_
                                refine R_lo (nx := 179) rfl rfl rfl rfl ?_
                                refine R_imul (nx := 180) (z := ((Xn (AK A o)) * x)) rfl rfl rfl ⟨by omega, by omega⟩ ?_
                                refine R_cv (w := (x * (Xn (AK A o)))) (by rw [Int.mul_comm]) ?_
                                refine R_lo (nx := 182) rfl rfl rfl rfl ?_
                                refine R_iadd (nx := 183) (z := ((x * (Xn (AK A o))) + y)) rfl rfl rfl ⟨by omega, by omega⟩ ?_
                                refine R_lo (nx := 185) rfl rfl rfl rfl ?_
                                refine R_lo (nx := 187) rfl rfl rfl rfl ?_
                                refine R_lo (nx := 189) rfl rfl rfl rfl ?_
                                refine R_call0 (nx := 192) (as := [(2, 71), (0, 4), (0, ((x * (Xn (AK A o))) + y)), (0, ((Xd (AK A c) x) + (Xd (AK A o) y))), (0, ((Xl (AK A c) 0 x) + (Xl (AK A o) 0 y))), (0, ((Xl (AK A c) 1 x) + (Xl (AK A o) 1 y)))]) (rest := []) rfl rfl (fun _ _ => rfl) rfl rfl rfl rfl rfl rfl rfl rfl (Cl.mono (c_M_sets S2 4 ((x * (Xn (AK A o))) + y) ((Xd (AK A c) x) + (Xd (AK A o) y)) ((Xl (AK A c) 0 x) + (Xl (AK A o) 0 y)) ((Xl (AK A c) 1 x) + (Xl (AK A o) 1 y)) (by omega) (by omega)) ?_)
                                rintro _ S189_8 ⟨rfl, e189_8⟩
                                refine ⟨rfl, ?_⟩
                                refine R_op (nx := 193) rfl rfl rfl ?_
                                refine R_lo (nx := 195) (ls' := [(2, 71), (0, c), (0, o), (0, t), (0, (Xn (AK A o))), (0, 0), (0, x), (0, y), (0, ((Xd (AK A c) x) + (Xd (AK A o) y))), (0, ((Xl (AK A c) 0 x) + (Xl (AK A o) 0 y))), (0, ((Xl (AK A c) 1 x) + (Xl (AK A o) 1 y))), (0, 0)]) rfl rfl rfl rfl ?_
                                have L195 : ∀ (f195 : Nat) (S3 : mm_S) (fv : Int) (k : Int), ((Xn (AK A c)) - k).toNat < f195 → (0 ≤ k ∧ k ≤ (Xn (AK A c))) → (FT (AK A c) (AK A o) fv x (y + 1)) → (ERw S3 (AK A c) (AK A o) x y k 0) → (DPa S3 (Xprod (AK A c) (AK A o)) ((x * (Xn (AK A o)) + y) + 1)) → (Oth S S3 4) → (∀ b, ¬ (72 ≤ b ∧ b ≤ 75) → S3 b = S b) → Rn k_M_times 195 [(2, 71), (0, c), (0, o), (0, t), (0, (Xn (AK A o))), (0, fv), (0, x), (0, y), (9, 0), (9, 0), (9, 0), (0, k)] [] S3 (fun vv S' => vv = some (0, (Q_times A c o t).1) ∧ RR S' (Q_times A c o t).2 ∧ ∀ b, ¬ (71 ≤ b ∧ b < 91) → S' b = S b) := by
                                  intro f195
                                  induction f195 with
                                  | zero => intro S3 fv k hm195; exact absurd hm195 (Nat.not_lt_zero _)
                                  | succ f195 ih195 =>
                                    intro S3 fv k hm195 hk jT jE jD jO jF
                                    have k1 := jO c _ (by omega) (by omega) (by omega) k0
                                    have n1 := k1.n
                                    have k8 := jO o _ (by omega) (by omega) (by omega) k7
                                    have cmk : (Xn (AK A o)) * k = k * (Xn (AK A o)) := Int.mul_comm _ _
                                    have pk := fun q => prng (x := k) (y := y) (n := (Xn (AK A c))) (m := (Xn (AK A o))) q hyy
                                    have hRb := Rw_b r0 r7 x y k 0 (k * (Xn (AK A o)) + y)
                                    have heb := r0.e x k
                                    refine R_lo (nx := 197) rfl rfl rfl rfl ?_
                                    refine R_lo (nx := 198) rfl rfl rfl rfl ?_
                                    refine R_get (nx := 201) (w := (2, 72)) rfl rfl rfl rfl ?_
                                    refine R_lo (nx := 202) rfl rfl rfl rfl ?_
                                    refine R_iald (nx := 203) rfl rfl (mm_el_ok 1 5 (by decide) rfl (by decide) (by omega) (by omega)) ?_
                                    refine R_icmp (nx := 206) (tg := 253) rfl rfl rfl (mm_cnd_ge _ _) (fun c203_8 => ?_) (fun c203_8 => ?_)
                                    ·
                                      refine R_op (nx := 254) rfl rfl rfl ?_
                                      refine R_lo (nx := 256) (ls' := [(2, 71), (0, c), (0, o), (0, t), (0, (Xn (AK A o))), (0, fv), (0, x), (0, y), (9, 0), (9, 0), (9, 0), (0, 0)]) rfl rfl rfl rfl ?_
                                      have L256 : ∀ (f256 : Nat) (S4 : mm_S) (fw : Int) (k : Int), ((Xn (AK A o)) - k).toNat < f256 → (0 ≤ k ∧ k ≤ (Xn (AK A o))) → (FT (AK A c) (AK A o) fw x (y + 1)) → (ERw S4 (AK A c) (AK A o) x y (Xn (AK A c)) k) → (DPa S4 (Xprod (AK A c) (AK A o)) ((x * (Xn (AK A o)) + y) + 1)) → (Oth S S4 4) → (∀ b, ¬ (72 ≤ b ∧ b ≤ 75) → S4 b = S b) → Rn k_M_times 256 [(2, 71), (0, c), (0, o), (0, t), (0, (Xn (AK A o))), (0, fw), (0, x), (0, y), (9, 0), (9, 0), (9, 0), (0, k)] [] S4 (fun vv S' => vv = some (0, (Q_times A c o t).1) ∧ RR S' (Q_times A c o t).2 ∧ ∀ b, ¬ (71 ≤ b ∧ b < 91) → S' b = S b) := by
                                        intro f256
                                        induction f256 with
                                        | zero => intro S4 fw k hm256; exact absurd hm256 (Nat.not_lt_zero _)
                                        | succ f256 ih256 =>
                                          intro S4 fw k hm256 hk lT lE lD lO lF
                                          have k1 := lO c _ (by omega) (by omega) (by omega) k0
                                          have n1 := k1.n
                                          have k8 := lO o _ (by omega) (by omega) (by omega) k7
                                          have pk := fun q => prng (x := x) (y := k) (n := (Xn (AK A c))) (m := (Xn (AK A o))) hxx q
                                          have hRb := Rw_b r0 r7 x y (Xn (AK A c)) k (x * (Xn (AK A o)) + k)
                                          have heb := r7.e y k
                                          have hsx : Xsg (AK A c) x = if Xd (AK A c) x % 2 = 1 then -1 else 1 := rfl
                                          refine R_lo (nx := 258) rfl rfl rfl rfl ?_
                                          refine R_lo (nx := 260) rfl rfl rfl rfl ?_
                                          refine R_icmp (nx := 263) (tg := 335) rfl rfl rfl (mm_cnd_ge _ _) (fun c260_8 => ?_) (fun c260_8 => ?_)
                                          ·
                                            refine R_iinc (nx := 338) (z := (y + 1)) (ls' := [(2, 71), (0, c), (0, o), (0, t), (0, (Xn (AK A o))), (0, fw), (0, x), (0, (y + 1)), (9, 0), (9, 0), (9, 0), (0, k)]) rfl rfl rfl rfl ⟨by omega, by omega⟩ rfl ?_
                                            refine R_op (nx := 341) (pc' := 79) rfl rfl rfl ?_
                                            refine Rn.weak (ls' := [(2, 71), (0, c), (0, o), (0, t), (0, (Xn (AK A o))), (0, fw), (0, x), (0, (y + 1)), (9, 0), (9, 0), (9, 0), (9, 0)]) ⟨Or.inl rfl, ⟨Or.inl rfl, ⟨Or.inl rfl, ⟨Or.inl rfl, ⟨Or.inl rfl, ⟨Or.inl rfl, ⟨Or.inl rfl, ⟨Or.inl rfl, ⟨Or.inl rfl, ⟨Or.inl rfl, ⟨Or.inl rfl, ⟨Or.inr rfl, trivial⟩⟩⟩⟩⟩⟩⟩⟩⟩⟩⟩⟩ ?_
                                            refine ih79 (S4) (fw) ((y + 1)) ?_ ?_ ?_ ?_ ?_ ?_ ?_
                                            · omega
                                            · omega
                                            · exact lT
                                            · have e : k = (Xn (AK A o)) := by omega
                                              rw [e] at lE
                                              exact lE.fin h12 hxx hyy
                                            · rw [← Int.add_assoc]; exact lD
                                            · exact lO
                                            · exact lF
                                          ·
                                            have pk := pk (by omega)
                                            have hdx := hdt x
                                            refine R_lo (nx := 264) rfl rfl rfl rfl ?_
                                            refine R_get (nx := 267) (w := (2, 75)) rfl rfl rfl rfl ?_
                                            refine R_op (nx := 270) rfl rfl rfl ?_
                                            refine R_op (nx := 272) rfl rfl rfl ?_
                                            refine R_lo (nx := 274) rfl rfl rfl rfl ?_
                                            refine R_lo (nx := 276) rfl rfl rfl rfl ?_
                                            refine R_imul (nx := 277) (z := ((Xn (AK A o)) * x)) rfl rfl rfl ⟨by omega, by omega⟩ ?_
                                            refine R_cv (w := (x * (Xn (AK A o)))) (by rw [Int.mul_comm]) ?_
                                            refine R_lo (nx := 279) rfl rfl rfl rfl ?_
                                            refine R_iadd (nx := 280) (z := ((x * (Xn (AK A o))) + y)) rfl rfl rfl ⟨by omega, by omega⟩ ?_
                                            refine R_imul (nx := 281) (z := (12 * ((x * (Xn (AK A o))) + y))) rfl rfl rfl ⟨by omega, by omega⟩ ?_
                                            refine R_iadd (nx := 282) (z := (576 + (12 * ((x * (Xn (AK A o))) + y)))) rfl rfl rfl ⟨by omega, by omega⟩ ?_
                                            refine R_lo (nx := 284) rfl rfl rfl rfl ?_
                                            refine R_lo (nx := 286) rfl rfl rfl rfl ?_
                                            refine R_imul (nx := 287) (z := ((Xn (AK A o)) * x)) rfl rfl rfl ⟨by omega, by omega⟩ ?_
                                            refine R_cv (w := (x * (Xn (AK A o)))) (by rw [Int.mul_comm]) ?_
                                            refine R_iadd (nx := 288) (z := ((576 + (12 * ((x * (Xn (AK A o))) + y))) + (x * (Xn (AK A o))))) rfl rfl rfl ⟨by omega, by omega⟩ ?_
                                            refine R_lo (nx := 290) rfl rfl rfl rfl ?_
                                            refine R_iadd (nx := 291) (z := (((576 + (12 * ((x * (Xn (AK A o))) + y))) + (x * (Xn (AK A o)))) + k)) rfl rfl rfl ⟨by omega, by omega⟩ ?_
                                            refine R_op (nx := 292) rfl rfl rfl ?_
                                            refine R_iald (nx := 293) rfl rfl (mm_el_ok 1 720 (by decide) rfl (by decide) (by omega) (by omega)) ?_
                                            rw [Int.add_assoc (576 + 12 * (x * (Xn (AK A o)) + y)), lE.rd (by omega) (by omega)]
                                            refine R_lo (nx := 294) rfl rfl rfl rfl ?_
                                            refine R_lo (nx := 295) rfl rfl rfl rfl ?_
                                            refine R_lo (nx := 297) rfl rfl rfl rfl ?_
                                            refine R_call1 (nx := 300) (as := [(2, 71), (0, c), (0, x)]) (rest := [(0, (Rw (AK A c) (AK A o) x y (Xn (AK A c)) k (x * (Xn (AK A o)) + k))), (0, ((576 + (12 * ((x * (Xn (AK A o))) + y))) + (x * (Xn (AK A o)) + k))), (2, 75)]) rfl rfl (fun _ _ => rfl) rfl rfl rfl rfl rfl rfl rfl rfl (Cl.mono (c_M_degree S4 c (by omega) (AK A c) (show MRr S4 c (AK A c) by first | assumption | exact MR.r (by assumption) | exact MRr.up (by assumption) (by omega) | exact MRr.up (MR.r (by assumption)) (by omega) | exact MRr.up (MRr.up (MR.r (by assumption)) (by omega)) (by omega)) x (by omega)) ?_)
                                            rintro _ _ ⟨rfl, rfl⟩
                                            refine ⟨_, rfl, ?_⟩
                                            refine R_op (nx := 301) rfl rfl rfl ?_
                                            refine R_irem (nx := 302) (z := (Int.tmod (Xd (AK A c) x) 2)) rfl rfl (by decide) rfl ?_
                                            refine R_if (nx := 305) (tg := 317) rfl rfl rfl (mm_cnd_ne _ _) (fun c302_8 => ?_) (fun c302_8 => ?_)
                                            ·
                                              refine R_lo (nx := 318) rfl rfl rfl rfl ?_
                                              refine R_lo (nx := 319) rfl rfl rfl rfl ?_
                                              refine R_lo (nx := 321) rfl rfl rfl rfl ?_
                                              refine R_lo (nx := 323) rfl rfl rfl rfl ?_
                                              refine R_call1 (nx := 326) (as := [(2, 71), (0, o), (0, y), (0, k)]) (rest := [(0, (Rw (AK A c) (AK A o) x y (Xn (AK A c)) k (x * (Xn (AK A o)) + k))), (0, ((576 + (12 * ((x * (Xn (AK A o))) + y))) + (x * (Xn (AK A o)) + k))), (2, 75)]) rfl rfl (fun _ _ => rfl) rfl rfl rfl rfl rfl rfl rfl rfl (Cl.mono (c_M_edge S4 o (by omega) (AK A o) (show MRr S4 o (AK A o) by first | assumption | exact MR.r (by assumption) | exact MRr.up (by assumption) (by omega) | exact MRr.up (MR.r (by assumption)) (by omega) | exact MRr.up (MRr.up (MR.r (by assumption)) (by omega)) (by omega)) y k (by omega) (by omega)) ?_)
                                              rintro _ _ ⟨rfl, rfl⟩
                                              refine ⟨_, rfl, ?_⟩
                                              refine R_ineg (nx := 327) (z := (-(Xe (AK A o) y k))) rfl rfl rfl ⟨by omega, by omega⟩ ?_
                                              refine R_iadd (nx := 328) (z := ((Rw (AK A c) (AK A o) x y (Xn (AK A c)) k (x * (Xn (AK A o)) + k)) + (-(Xe (AK A o) y k)))) rfl rfl rfl ⟨by omega, by omega⟩ ?_
                                              refine R_iast (nx := 329) rfl rfl (mm_el_ok 1 720 (by decide) rfl (by decide) (by omega) (by omega)) ?_
                                              refine R_iinc (nx := 332) (z := (k + 1)) (ls' := [(2, 71), (0, c), (0, o), (0, t), (0, (Xn (AK A o))), (0, fw), (0, x), (0, y), (9, 0), (9, 0), (9, 0), (0, (k + 1))]) rfl rfl rfl rfl ⟨by omega, by omega⟩ rfl ?_
                                              refine R_op (nx := 335) (pc' := 256) rfl rfl rfl ?_
                                              refine Rn.weak (ls' := [(2, 71), (0, c), (0, o), (0, t), (0, (Xn (AK A o))), (0, fw), (0, x), (0, y), (9, 0), (9, 0), (9, 0), (0, (k + 1))]) ⟨Or.inl rfl, ⟨Or.inl rfl, ⟨Or.inl rfl, ⟨Or.inl rfl, ⟨Or.inl rfl, ⟨Or.inl rfl, ⟨Or.inl rfl, ⟨Or.inl rfl, ⟨Or.inl rfl, ⟨Or.inl rfl, ⟨Or.inl rfl, ⟨Or.inl rfl, trivial⟩⟩⟩⟩⟩⟩⟩⟩⟩⟩⟩⟩ ?_
                                              refine ih256 ((mm_up S4 75 ((576 + (12 * ((x * (Xn (AK A o))) + y))) + (x * (Xn (AK A o)) + k)) ((Rw (AK A c) (AK A o) x y (Xn (AK A c)) k (x * (Xn (AK A o)) + k)) + (-(Xe (AK A o) y k))))) (fw) ((k + 1)) ?_ ?_ ?_ ?_ ?_ ?_ ?_
                                              · omega
                                              · omega
                                              · exact lT
                                              · exact lE.b h12 hxx hyy (by omega) (by first | (rw [hsx, if_neg (by omega), Int.one_mul]; done) | (rw [hsx, if_pos (by omega)]; omega))
                                              · exact lD.fr (mm_unq (by decide)) (mm_unq (by decide))
                                              · exact lO.u75 _ (by omega)
                                              · intro b hb; rw [mm_unq (by omega)]; exact lF b hb
                                            ·
                                              replace c302_8 := Classical.not_not.mp c302_8
                                              refine R_lo (nx := 306) rfl rfl rfl rfl ?_
                                              refine R_lo (nx := 307) rfl rfl rfl rfl ?_
                                              refine R_lo (nx := 309) rfl rfl rfl rfl ?_
                                              refine R_lo (nx := 311) rfl rfl rfl rfl ?_
                                              refine R_call1 (nx := 314) (as := [(2, 71), (0, o), (0, y), (0, k)]) (rest := [(0, (Rw (AK A c) (AK A o) x y (Xn (AK A c)) k (x * (Xn (AK A o)) + k))), (0, ((576 + (12 * ((x * (Xn (AK A o))) + y))) + (x * (Xn (AK A o)) + k))), (2, 75)]) rfl rfl (fun _ _ => rfl) rfl rfl rfl rfl rfl rfl rfl rfl (Cl.mono (c_M_edge S4 o (by omega) (AK A o) (show MRr S4 o (AK A o) by first | assumption | exact MR.r (by assumption) | exact MRr.up (by assumption) (by omega) | exact MRr.up (MR.r (by assumption)) (by omega) | exact MRr.up (MRr.up (MR.r (by assumption)) (by omega)) (by omega)) y k (by omega) (by omega)) ?_)
                                              rintro _ _ ⟨rfl, rfl⟩
                                              refine ⟨_, rfl, ?_⟩
                                              refine R_op (nx := 317) (pc' := 327) rfl rfl rfl ?_
                                              refine R_iadd (nx := 328) (z := ((Rw (AK A c) (AK A o) x y (Xn (AK A c)) k (x * (Xn (AK A o)) + k)) + (Xe (AK A o) y k))) rfl rfl rfl ⟨by omega, by omega⟩ ?_
                                              refine R_iast (nx := 329) rfl rfl (mm_el_ok 1 720 (by decide) rfl (by decide) (by omega) (by omega)) ?_
                                              refine R_iinc (nx := 332) (z := (k + 1)) (ls' := [(2, 71), (0, c), (0, o), (0, t), (0, (Xn (AK A o))), (0, fw), (0, x), (0, y), (9, 0), (9, 0), (9, 0), (0, (k + 1))]) rfl rfl rfl rfl ⟨by omega, by omega⟩ rfl ?_
                                              refine R_op (nx := 335) (pc' := 256) rfl rfl rfl ?_
                                              refine Rn.weak (ls' := [(2, 71), (0, c), (0, o), (0, t), (0, (Xn (AK A o))), (0, fw), (0, x), (0, y), (9, 0), (9, 0), (9, 0), (0, (k + 1))]) ⟨Or.inl rfl, ⟨Or.inl rfl, ⟨Or.inl rfl, ⟨Or.inl rfl, ⟨Or.inl rfl, ⟨Or.inl rfl, ⟨Or.inl rfl, ⟨Or.inl rfl, ⟨Or.inl rfl, ⟨Or.inl rfl, ⟨Or.inl rfl, ⟨Or.inl rfl, trivial⟩⟩⟩⟩⟩⟩⟩⟩⟩⟩⟩⟩ ?_
                                              refine ih256 ((mm_up S4 75 ((576 + (12 * ((x * (Xn (AK A o))) + y))) + (x * (Xn (AK A o)) + k)) ((Rw (AK A c) (AK A o) x y (Xn (AK A c)) k (x * (Xn (AK A o)) + k)) + (Xe (AK A o) y k)))) (fw) ((k + 1)) ?_ ?_ ?_ ?_ ?_ ?_ ?_
                                              · omega
                                              · omega
                                              · exact lT
                                              · exact lE.b h12 hxx hyy (by omega) (by first | (rw [hsx, if_neg (by omega), Int.one_mul]; done) | (rw [hsx, if_pos (by omega)]; omega))
                                              · exact lD.fr (mm_unq (by decide)) (mm_unq (by decide))
                                              · exact lO.u75 _ (by omega)
                                              · intro b hb; rw [mm_unq (by omega)]; exact lF b hb
                                      refine Rn.weak (ls' := [(2, 71), (0, c), (0, o), (0, t), (0, (Xn (AK A o))), (0, fv), (0, x), (0, y), (9, 0), (9, 0), (9, 0), (0, 0)]) ⟨Or.inl rfl, ⟨Or.inl rfl, ⟨Or.inl rfl, ⟨Or.inl rfl, ⟨Or.inl rfl, ⟨Or.inl rfl, ⟨Or.inl rfl, ⟨Or.inl rfl, ⟨Or.inl rfl, ⟨Or.inl rfl, ⟨Or.inl rfl, ⟨Or.inl rfl, trivial⟩⟩⟩⟩⟩⟩⟩⟩⟩⟩⟩⟩ ?_
                                      refine L256 (((Xn (AK A o)) - (0)).toNat + 1) (S3) (fv) (0) (Nat.lt_succ_self _) ?_ ?_ ?_ ?_ ?_ ?_
                                      · omega
                                      · exact jT
                                      · have e : k = (Xn (AK A c)) := by omega
                                        rw [e] at jE
                                        exact jE
                                      · exact jD
                                      · exact jO
                                      · exact jF
                                    ·
                                      have pk := pk (by omega)
                                      refine R_lo (nx := 207) rfl rfl rfl rfl ?_
                                      refine R_get (nx := 210) (w := (2, 75)) rfl rfl rfl rfl ?_
                                      refine R_op (nx := 213) rfl rfl rfl ?_
                                      refine R_op (nx := 215) rfl rfl rfl ?_
                                      refine R_lo (nx := 217) rfl rfl rfl rfl ?_
                                      refine R_lo (nx := 219) rfl rfl rfl rfl ?_
                                      refine R_imul (nx := 220) (z := ((Xn (AK A o)) * x)) rfl rfl rfl ⟨by omega, by omega⟩ ?_
                                      refine R_cv (w := (x * (Xn (AK A o)))) (by rw [Int.mul_comm]) ?_
                                      refine R_lo (nx := 222) rfl rfl rfl rfl ?_
                                      refine R_iadd (nx := 223) (z := ((x * (Xn (AK A o))) + y)) rfl rfl rfl ⟨by omega, by omega⟩ ?_
                                      refine R_imul (nx := 224) (z := (12 * ((x * (Xn (AK A o))) + y))) rfl rfl rfl ⟨by omega, by omega⟩ ?_
                                      refine R_iadd (nx := 225) (z := (576 + (12 * ((x * (Xn (AK A o))) + y)))) rfl rfl rfl ⟨by omega, by omega⟩ ?_
                                      refine R_lo (nx := 227) rfl rfl rfl rfl ?_
                                      refine R_lo (nx := 229) rfl rfl rfl rfl ?_
                                      refine R_imul (nx := 230) (z := ((Xn (AK A o)) * k)) rfl rfl rfl ⟨by omega, by omega⟩ ?_
                                      refine R_cv (w := (k * (Xn (AK A o)))) (by rw [Int.mul_comm]) ?_
                                      refine R_iadd (nx := 231) (z := ((576 + (12 * ((x * (Xn (AK A o))) + y))) + (k * (Xn (AK A o))))) rfl rfl rfl ⟨by omega, by omega⟩ ?_
                                      refine R_lo (nx := 233) rfl rfl rfl rfl ?_
                                      refine R_iadd (nx := 234) (z := (((576 + (12 * ((x * (Xn (AK A o))) + y))) + (k * (Xn (AK A o)))) + y)) rfl rfl rfl ⟨by omega, by omega⟩ ?_
                                      refine R_op (nx := 235) rfl rfl rfl ?_
                                      refine R_iald (nx := 236) rfl rfl (mm_el_ok 1 720 (by decide) rfl (by decide) (by omega) (by omega)) ?_
                                      rw [Int.add_assoc (576 + 12 * (x * (Xn (AK A o)) + y)), jE.rd (by omega) (by omega)]
                                      refine R_lo (nx := 237) rfl rfl rfl rfl ?_
                                      refine R_lo (nx := 238) rfl rfl rfl rfl ?_
                                      refine R_lo (nx := 240) rfl rfl rfl rfl ?_
                                      refine R_lo (nx := 242) rfl rfl rfl rfl ?_
                                      refine R_call1 (nx := 245) (as := [(2, 71), (0, c), (0, x), (0, k)]) (rest := [(0, (Rw (AK A c) (AK A o) x y k 0 (k * (Xn (AK A o)) + y))), (0, ((576 + (12 * ((x * (Xn (AK A o))) + y))) + (k * (Xn (AK A o)) + y))), (2, 75)]) rfl rfl (fun _ _ => rfl) rfl rfl rfl rfl rfl rfl rfl rfl (Cl.mono (c_M_edge S3 c (by omega) (AK A c) (show MRr S3 c (AK A c) by first | assumption | exact MR.r (by assumption) | exact MRr.up (by assumption) (by omega) | exact MRr.up (MR.r (by assumption)) (by omega) | exact MRr.up (MRr.up (MR.r (by assumption)) (by omega)) (by omega)) x k (by omega) (by omega)) ?_)
                                      rintro _ _ ⟨rfl, rfl⟩
                                      refine ⟨_, rfl, ?_⟩
                                      refine R_iadd (nx := 246) (z := ((Rw (AK A c) (AK A o) x y k 0 (k * (Xn (AK A o)) + y)) + (Xe (AK A c) x k))) rfl rfl rfl ⟨by omega, by omega⟩ ?_
                                      refine R_iast (nx := 247) rfl rfl (mm_el_ok 1 720 (by decide) rfl (by decide) (by omega) (by omega)) ?_
                                      refine R_iinc (nx := 250) (z := (k + 1)) (ls' := [(2, 71), (0, c), (0, o), (0, t), (0, (Xn (AK A o))), (0, fv), (0, x), (0, y), (9, 0), (9, 0), (9, 0), (0, (k + 1))]) rfl rfl rfl rfl ⟨by omega, by omega⟩ rfl ?_
                                      refine R_op (nx := 253) (pc' := 195) rfl rfl rfl ?_
                                      refine Rn.weak (ls' := [(2, 71), (0, c), (0, o), (0, t), (0, (Xn (AK A o))), (0, fv), (0, x), (0, y), (9, 0), (9, 0), (9, 0), (0, (k + 1))]) ⟨Or.inl rfl, ⟨Or.inl rfl, ⟨Or.inl rfl, ⟨Or.inl rfl, ⟨Or.inl rfl, ⟨Or.inl rfl, ⟨Or.inl rfl, ⟨Or.inl rfl, ⟨Or.inl rfl, ⟨Or.inl rfl, ⟨Or.inl rfl, ⟨Or.inl rfl, trivial⟩⟩⟩⟩⟩⟩⟩⟩⟩⟩⟩⟩ ?_
                                      refine ih195 ((mm_up S3 75 ((576 + (12 * ((x * (Xn (AK A o))) + y))) + (k * (Xn (AK A o)) + y)) ((Rw (AK A c) (AK A o) x y k 0 (k * (Xn (AK A o)) + y)) + (Xe (AK A c) x k)))) (fv) ((k + 1)) ?_ ?_ ?_ ?_ ?_ ?_ ?_
                                      · omega
                                      · omega
                                      · exact jT
                                      · exact jE.a h12 hxx hyy (by omega)
                                      · exact jD.fr (mm_unq (by decide)) (mm_unq (by decide))
                                      · exact jO.u75 _ (by omega)
                                      · intro b hb; rw [mm_unq (by omega)]; exact jF b hb
                                refine Rn.weak (ls' := [(2, 71), (0, c), (0, o), (0, t), (0, (Xn (AK A o))), (0, 0), (0, x), (0, y), (9, 0), (9, 0), (9, 0), (0, 0)]) ⟨Or.inl rfl, ⟨Or.inl rfl, ⟨Or.inl rfl, ⟨Or.inl rfl, ⟨Or.inl rfl, ⟨Or.inl rfl, ⟨Or.inl rfl, ⟨Or.inl rfl, ⟨Or.inr rfl, ⟨Or.inr rfl, ⟨Or.inr rfl, ⟨Or.inl rfl, trivial⟩⟩⟩⟩⟩⟩⟩⟩⟩⟩⟩⟩ ?_
                                refine L195 (((Xn (AK A c)) - (0)).toNat + 1) (S189_8) (0) (0) (Nat.lt_succ_self _) ?_ ?_ ?_ ?_ ?_ ?_
                                · omega
                                · first | exact gT.y (by omega) (by omega) (by omega) (by omega) | exact FT.n (ft := fu) r0 r7 hxx hyy (by first | exact Or.inl ⟨by omega, gT⟩ | exact Or.inr (by omega)) _ _
                                · exact (ERw.st0 z7.1 gE).fr (by rw [e189_8, mm_unq (by decide), mm_unq (by decide), mm_unq (by decide)])
                                · refine gD.st (by omega) e189_8 ?_; have q := hPk.2.2.1 x y hxx hyy; exact ⟨q.1.symm, q.2.1.symm, q.2.2.symm⟩
                                · rw [e189_8]; exact gO.sets _ _ _ (by omega) (by omega)
                                · intro b hb; rw [e189_8, mm_unq (by omega), mm_unq (by omega), mm_unq (by omega)]; exact gF b hb
                              ·
                                refine R_op (nx := 167) rfl rfl rfl ?_
                                refine R_op (nx := 170) (pc' := 171) rfl rfl rfl ?_
                                refine R_lo (nx := 173) (ls' := [(2, 71), (0, c), (0, o), (0, t), (0, (Xn (AK A o))), (0, 1), (0, x), (0, y), (0, ((Xd (AK A c) x) + (Xd (AK A o) y))), (0, ((Xl (AK A c) 0 x) + (Xl (AK A o) 0 y))), (0, ((Xl (AK A c) 1 x) + (Xl (AK A o) 1 y))), (9, 0)]) rfl rfl rfl rfl ?_
                                refine R_lo (nx := 174) rfl rfl rfl rfl ?_
                                refine R_op (nx := 175) rfl rfl rfl ?_
                                refine R_lo (nx := 177) rfl rfl rfl rfl ?_
                                refine R_lo (nx := 179) rfl rfl rfl rfl ?_
                                refine R_imul (nx := 180) (z := ((Xn (AK A o)) * x)) rfl rfl rfl ⟨by omega, by omega⟩ ?_
                                refine R_cv (w := (x * (Xn (AK A o)))) (by rw [Int.mul_comm]) ?_
                                refine R_lo (nx := 182) rfl rfl rfl rfl ?_
                                refine R_iadd (nx := 183) (z := ((x * (Xn (AK A o))) + y)) rfl rfl rfl ⟨by omega, by omega⟩ ?_
                                refine R_lo (nx := 185) rfl rfl rfl rfl ?_
                                refine R_lo (nx := 187) rfl rfl rfl rfl ?_
                                refine R_lo (nx := 189) rfl rfl rfl rfl ?_
                                refine R_call0 (nx := 192) (as := [(2, 71), (0, 4), (0, ((x * (Xn (AK A o))) + y)), (0, ((Xd (AK A c) x) + (Xd (AK A o) y))), (0, ((Xl (AK A c) 0 x) + (Xl (AK A o) 0 y))), (0, ((Xl (AK A c) 1 x) + (Xl (AK A o) 1 y)))]) (rest := []) rfl rfl (fun _ _ => rfl) rfl rfl rfl rfl rfl rfl rfl rfl (Cl.mono (c_M_sets S2 4 ((x * (Xn (AK A o))) + y) ((Xd (AK A c) x) + (Xd (AK A o) y)) ((Xl (AK A c) 0 x) + (Xl (AK A o) 0 y)) ((Xl (AK A c) 1 x) + (Xl (AK A o) 1 y)) (by omega) (by omega)) ?_)
                                rintro _ S189_9 ⟨rfl, e189_9⟩
                                refine ⟨rfl, ?_⟩
                                refine R_op (nx := 193) rfl rfl rfl ?_
                                refine R_lo (nx := 195) (ls' := [(2, 71), (0, c), (0, o), (0, t), (0, (Xn (AK A o))), (0, 1), (0, x), (0, y), (0, ((Xd (AK A c) x) + (Xd (AK A o) y))), (0, ((Xl (AK A c) 0 x) + (Xl (AK A o) 0 y))), (0, ((Xl (AK A c) 1 x) + (Xl (AK A o) 1 y))), (0, 0)]) rfl rfl rfl rfl ?_
                                have L195 : ∀ (f195 : Nat) (S3 : mm_S) (fv : Int) (k : Int), ((Xn (AK A c)) - k).toNat < f195 → (0 ≤ k ∧ k ≤ (Xn (AK A c))) → (FT (AK A c) (AK A o) fv x (y + 1)) → (ERw S3 (AK A c) (AK A o) x y k 0) → (DPa S3 (Xprod (AK A c) (AK A o)) ((x * (Xn (AK A o)) + y) + 1)) → (Oth S S3 4) → (∀ b, ¬ (72 ≤ b ∧ b ≤ 75) → S3 b = S b) → Rn k_M_times 195 [(2, 71), (0, c), (0, o), (0, t), (0, (Xn (AK A o))), (0, fv), (0, x), (0, y), (9, 0), (9, 0), (9, 0), (0, k)] [] S3 (fun vv S' => vv = some (0, (Q_times A c o t).1) ∧ RR S' (Q_times A c o t).2 ∧ ∀ b, ¬ (71 ≤ b ∧ b < 91) → S' b = S b) := by
                                  intro f195
                                  induction f195 with
                                  | zero => intro S3 fv k hm195; exact absurd hm195 (Nat.not_lt_zero _)
                                  | succ f195 ih195 =>
                                    intro S3 fv k hm195 hk jT jE jD jO jF
                                    have k1 := jO c _ (by omega) (by omega) (by omega) k0
                                    have n1 := k1.n
                                    have k8 := jO o _ (by omega) (by omega) (by omega) k7
                                    have cmk : (Xn (AK A o)) * k = k * (Xn (AK A o)) := Int.mul_comm _ _
                                    have pk := fun q => prng (x := k) (y := y) (n := (Xn (AK A c))) (m := (Xn (AK A o))) q hyy
                                    have hRb := Rw_b r0 r7 x y k 0 (k * (Xn (AK A o)) + y)
                                    have heb := r0.e x k
                                    refine R_lo (nx := 197) rfl rfl rfl rfl ?_
                                    refine R_lo (nx := 198) rfl rfl rfl rfl ?_
                                    refine R_get (nx := 201) (w := (2, 72)) rfl rfl rfl rfl ?_
                                    refine R_lo (nx := 202) rfl rfl rfl rfl ?_
                                    refine R_iald (nx := 203) rfl rfl (mm_el_ok 1 5 (by decide) rfl (by decide) (by omega) (by omega)) ?_
                                    refine R_icmp (nx := 206) (tg := 253) rfl rfl rfl (mm_cnd_ge _ _) (fun c203_9 => ?_) (fun c203_9 => ?_)
                                    ·
                                      refine R_op (nx := 254) rfl rfl rfl ?_
                                      refine R_lo (nx := 256) (ls' := [(2, 71), (0, c), (0, o), (0, t), (0, (Xn (AK A o))), (0, fv), (0, x), (0, y), (9, 0), (9, 0), (9, 0), (0, 0)]) rfl rfl rfl rfl ?_
                                      have L256 : ∀ (f256 : Nat) (S4 : mm_S) (fw : Int) (k : Int), ((Xn (AK A o)) - k).toNat < f256 → (0 ≤ k ∧ k ≤ (Xn (AK A o))) → (FT (AK A c) (AK A o) fw x (y + 1)) → (ERw S4 (AK A c) (AK A o) x y (Xn (AK A c)) k) → (DPa S4 (Xprod (AK A c) (AK A o)) ((x * (Xn (AK A o)) + y) + 1)) → (Oth S S4 4) → (∀ b, ¬ (72 ≤ b ∧ b ≤ 75) → S4 b = S b) → Rn k_M_times 256 [(2, 71), (0, c), (0, o), (0, t), (0, (Xn (AK A o))), (0, fw), (0, x), (0, y), (9, 0), (9, 0), (9, 0), (0, k)] [] S4 (fun vv S' => vv = some (0, (Q_times A c o t).1) ∧ RR S' (Q_times A c o t).2 ∧ ∀ b, ¬ (71 ≤ b ∧ b < 91) → S' b = S b) := by
                                        intro f256
                                        induction f256 with
                                        | zero => intro S4 fw k hm256; exact absurd hm256 (Nat.not_lt_zero _)
                                        | succ f256 ih256 =>
                                          intro S4 fw k hm256 hk lT lE lD lO lF
                                          have k1 := lO c _ (by omega) (by omega) (by omega) k0
                                          have n1 := k1.n
                                          have k8 := lO o _ (by omega) (by omega) (by omega) k7
                                          have pk := fun q => prng (x := x) (y := k) (n := (Xn (AK A c))) (m := (Xn (AK A o))) hxx q
                                          have hRb := Rw_b r0 r7 x y (Xn (AK A c)) k (x * (Xn (AK A o)) + k)
                                          have heb := r7.e y k
                                          have hsx : Xsg (AK A c) x = if Xd (AK A c) x % 2 = 1 then -1 else 1 := rfl
                                          refine R_lo (nx := 258) rfl rfl rfl rfl ?_
                                          refine R_lo (nx := 260) rfl rfl rfl rfl ?_
                                          refine R_icmp (nx := 263) (tg := 335) rfl rfl rfl (mm_cnd_ge _ _) (fun c260_9 => ?_) (fun c260_9 => ?_)
                                          ·
                                            refine R_iinc (nx := 338) (z := (y + 1)) (ls' := [(2, 71), (0, c), (0, o), (0, t), (0, (Xn (AK A o))), (0, fw), (0, x), (0, (y + 1)), (9, 0), (9, 0), (9, 0), (0, k)]) rfl rfl rfl rfl ⟨by omega, by omega⟩ rfl ?_
                                            refine R_op (nx := 341) (pc' := 79) rfl rfl rfl ?_
                                            refine Rn.weak (ls' := [(2, 71), (0, c), (0, o), (0, t), (0, (Xn (AK A o))), (0, fw), (0, x), (0, (y + 1)), (9, 0), (9, 0), (9, 0), (9, 0)]) ⟨Or.inl rfl, ⟨Or.inl rfl, ⟨Or.inl rfl, ⟨Or.inl rfl, ⟨Or.inl rfl, ⟨Or.inl rfl, ⟨Or.inl rfl, ⟨Or.inl rfl, ⟨Or.inl rfl, ⟨Or.inl rfl, ⟨Or.inl rfl, ⟨Or.inr rfl, trivial⟩⟩⟩⟩⟩⟩⟩⟩⟩⟩⟩⟩ ?_
                                            refine ih79 (S4) (fw) ((y + 1)) ?_ ?_ ?_ ?_ ?_ ?_ ?_
                                            · omega
                                            · omega
                                            · exact lT
                                            · have e : k = (Xn (AK A o)) := by omega
                                              rw [e] at lE
                                              exact lE.fin h12 hxx hyy
                                            · rw [← Int.add_assoc]; exact lD
                                            · exact lO
                                            · exact lF
                                          ·
                                            have pk := pk (by omega)
                                            have hdx := hdt x
                                            refine R_lo (nx := 264) rfl rfl rfl rfl ?_
                                            refine R_get (nx := 267) (w := (2, 75)) rfl rfl rfl rfl ?_
                                            refine R_op (nx := 270) rfl rfl rfl ?_
                                            refine R_op (nx := 272) rfl rfl rfl ?_
                                            refine R_lo (nx := 274) rfl rfl rfl rfl ?_
                                            refine R_lo (nx := 276) rfl rfl rfl rfl ?_
                                            refine R_imul (nx := 277) (z := ((Xn (AK A o)) * x)) rfl rfl rfl ⟨by omega, by omega⟩ ?_
                                            refine R_cv (w := (x * (Xn (AK A o)))) (by rw [Int.mul_comm]) ?_
                                            refine R_lo (nx := 279) rfl rfl rfl rfl ?_
                                            refine R_iadd (nx := 280) (z := ((x * (Xn (AK A o))) + y)) rfl rfl rfl ⟨by omega, by omega⟩ ?_
                                            refine R_imul (nx := 281) (z := (12 * ((x * (Xn (AK A o))) + y))) rfl rfl rfl ⟨by omega, by omega⟩ ?_
                                            refine R_iadd (nx := 282) (z := (576 + (12 * ((x * (Xn (AK A o))) + y)))) rfl rfl rfl ⟨by omega, by omega⟩ ?_
                                            refine R_lo (nx := 284) rfl rfl rfl rfl ?_
                                            refine R_lo (nx := 286) rfl rfl rfl rfl ?_
                                            refine R_imul (nx := 287) (z := ((Xn (AK A o)) * x)) rfl rfl rfl ⟨by omega, by omega⟩ ?_
                                            refine R_cv (w := (x * (Xn (AK A o)))) (by rw [Int.mul_comm]) ?_
                                            refine R_iadd (nx := 288) (z := ((576 + (12 * ((x * (Xn (AK A o))) + y))) + (x * (Xn (AK A o))))) rfl rfl rfl ⟨by omega, by omega⟩ ?_
                                            refine R_lo (nx := 290) rfl rfl rfl rfl ?_
                                            refine R_iadd (nx := 291) (z := (((576 + (12 * ((x * (Xn (AK A o))) + y))) + (x * (Xn (AK A o)))) + k)) rfl rfl rfl ⟨by omega, by omega⟩ ?_
                                            refine R_op (nx := 292) rfl rfl rfl ?_
                                            refine R_iald (nx := 293) rfl rfl (mm_el_ok 1 720 (by decide) rfl (by decide) (by omega) (by omega)) ?_
                                            rw [Int.add_assoc (576 + 12 * (x * (Xn (AK A o)) + y)), lE.rd (by omega) (by omega)]
                                            refine R_lo (nx := 294) rfl rfl rfl rfl ?_
                                            refine R_lo (nx := 295) rfl rfl rfl rfl ?_
                                            refine R_lo (nx := 297) rfl rfl rfl rfl ?_
                                            refine R_call1 (nx := 300) (as := [(2, 71), (0, c), (0, x)]) (rest := [(0, (Rw (AK A c) (AK A o) x y (Xn (AK A c)) k (x * (Xn (AK A o)) + k))), (0, ((576 + (12 * ((x * (Xn (AK A o))) + y))) + (x * (Xn (AK A o)) + k))), (2, 75)]) rfl rfl (fun _ _ => rfl) rfl rfl rfl rfl rfl rfl rfl rfl (Cl.mono (c_M_degree S4 c (by omega) (AK A c) (show MRr S4 c (AK A c) by first | assumption | exact MR.r (by assumption) | exact MRr.up (by assumption) (by omega) | exact MRr.up (MR.r (by assumption)) (by omega) | exact MRr.up (MRr.up (MR.r (by assumption)) (by omega)) (by omega)) x (by omega)) ?_)
                                            rintro _ _ ⟨rfl, rfl⟩
                                            refine ⟨_, rfl, ?_⟩
                                            refine R_op (nx := 301) rfl rfl rfl ?_
                                            refine R_irem (nx := 302) (z := (Int.tmod (Xd (AK A c) x) 2)) rfl rfl (by decide) rfl ?_
                                            refine R_if (nx := 305) (tg := 317) rfl rfl rfl (mm_cnd_ne _ _) (fun c302_9 => ?_) (fun c302_9 => ?_)
                                            ·
                                              refine R_lo (nx := 318) rfl rfl rfl rfl ?_
                                              refine R_lo (nx := 319) rfl rfl rfl rfl ?_
                                              refine R_lo (nx := 321) rfl rfl rfl rfl ?_
                                              refine R_lo (nx := 323) rfl rfl rfl rfl ?_
                                              refine R_call1 (nx := 326) (as := [(2, 71), (0, o), (0, y), (0, k)]) (rest := [(0, (Rw (AK A c) (AK A o) x y (Xn (AK A c)) k (x * (Xn (AK A o)) + k))), (0, ((576 + (12 * ((x * (Xn (AK A o))) + y))) + (x * (Xn (AK A o)) + k))), (2, 75)]) rfl rfl (fun _ _ => rfl) rfl rfl rfl rfl rfl rfl rfl rfl (Cl.mono (c_M_edge S4 o (by omega) (AK A o) (show MRr S4 o (AK A o) by first | assumption | exact MR.r (by assumption) | exact MRr.up (by assumption) (by omega) | exact MRr.up (MR.r (by assumption)) (by omega) | exact MRr.up (MRr.up (MR.r (by assumption)) (by omega)) (by omega)) y k (by omega) (by omega)) ?_)
                                              rintro _ _ ⟨rfl, rfl⟩
                                              refine ⟨_, rfl, ?_⟩
                                              refine R_ineg (nx := 327) (z := (-(Xe (AK A o) y k))) rfl rfl rfl ⟨by omega, by omega⟩ ?_
                                              refine R_iadd (nx := 328) (z := ((Rw (AK A c) (AK A o) x y (Xn (AK A c)) k (x * (Xn (AK A o)) + k)) + (-(Xe (AK A o) y k)))) rfl rfl rfl ⟨by omega, by omega⟩ ?_
                                              refine R_iast (nx := 329) rfl rfl (mm_el_ok 1 720 (by decide) rfl (by decide) (by omega) (by omega)) ?_
                                              refine R_iinc (nx := 332) (z := (k + 1)) (ls' := [(2, 71), (0, c), (0, o), (0, t), (0, (Xn (AK A o))), (0, fw), (0, x), (0, y), (9, 0), (9, 0), (9, 0), (0, (k + 1))]) rfl rfl rfl rfl ⟨by omega, by omega⟩ rfl ?_
                                              refine R_op (nx := 335) (pc' := 256) rfl rfl rfl ?_
                                              refine Rn.weak (ls' := [(2, 71), (0, c), (0, o), (0, t), (0, (Xn (AK A o))), (0, fw), (0, x), (0, y), (9, 0), (9, 0), (9, 0), (0, (k + 1))]) ⟨Or.inl rfl, ⟨Or.inl rfl, ⟨Or.inl rfl, ⟨Or.inl rfl, ⟨Or.inl rfl, ⟨Or.inl rfl, ⟨Or.inl rfl, ⟨Or.inl rfl, ⟨Or.inl rfl, ⟨Or.inl rfl, ⟨Or.inl rfl, ⟨Or.inl rfl, trivial⟩⟩⟩⟩⟩⟩⟩⟩⟩⟩⟩⟩ ?_
                                              refine ih256 ((mm_up S4 75 ((576 + (12 * ((x * (Xn (AK A o))) + y))) + (x * (Xn (AK A o)) + k)) ((Rw (AK A c) (AK A o) x y (Xn (AK A c)) k (x * (Xn (AK A o)) + k)) + (-(Xe (AK A o) y k))))) (fw) ((k + 1)) ?_ ?_ ?_ ?_ ?_ ?_ ?_
                                              · omega
                                              · omega
                                              · exact lT
                                              · exact lE.b h12 hxx hyy (by omega) (by first | (rw [hsx, if_neg (by omega), Int.one_mul]; done) | (rw [hsx, if_pos (by omega)]; omega))
                                              · exact lD.fr (mm_unq (by decide)) (mm_unq (by decide))
                                              · exact lO.u75 _ (by omega)
                                              · intro b hb; rw [mm_unq (by omega)]; exact lF b hb
                                            ·
                                              replace c302_9 := Classical.not_not.mp c302_9
                                              refine R_lo (nx := 306) rfl rfl rfl rfl ?_
                                              refine R_lo (nx := 307) rfl rfl rfl rfl ?_
                                              refine R_lo (nx := 309) rfl rfl rfl rfl ?_
                                              refine R_lo (nx := 311) rfl rfl rfl rfl ?_
                                              refine R_call1 (nx := 314) (as := [(2, 71), (0, o), (0, y), (0, k)]) (rest := [(0, (Rw (AK A c) (AK A o) x y (Xn (AK A c)) k (x * (Xn (AK A o)) + k))), (0, ((576 + (12 * ((x * (Xn (AK A o))) + y))) + (x * (Xn (AK A o)) + k))), (2, 75)]) rfl rfl (fun _ _ => rfl) rfl rfl rfl rfl rfl rfl rfl rfl (Cl.mono (c_M_edge S4 o (by omega) (AK A o) (show MRr S4 o (AK A o) by first | assumption | exact MR.r (by assumption) | exact MRr.up (by assumption) (by omega) | exact MRr.up (MR.r (by assumption)) (by omega) | exact MRr.up (MRr.up (MR.r (by assumption)) (by omega)) (by omega)) y k (by omega) (by omega)) ?_)
                                              rintro _ _ ⟨rfl, rfl⟩
                                              refine ⟨_, rfl, ?_⟩
                                              refine R_op (nx := 317) (pc' := 327) rfl rfl rfl ?_
                                              refine R_iadd (nx := 328) (z := ((Rw (AK A c) (AK A o) x y (Xn (AK A c)) k (x * (Xn (AK A o)) + k)) + (Xe (AK A o) y k))) rfl rfl rfl ⟨by omega, by omega⟩ ?_
                                              refine R_iast (nx := 329) rfl rfl (mm_el_ok 1 720 (by decide) rfl (by decide) (by omega) (by omega)) ?_
                                              refine R_iinc (nx := 332) (z := (k + 1)) (ls' := [(2, 71), (0, c), (0, o), (0, t), (0, (Xn (AK A o))), (0, fw), (0, x), (0, y), (9, 0), (9, 0), (9, 0), (0, (k + 1))]) rfl rfl rfl rfl ⟨by omega, by omega⟩ rfl ?_
                                              refine R_op (nx := 335) (pc' := 256) rfl rfl rfl ?_
                                              refine Rn.weak (ls' := [(2, 71), (0, c), (0, o), (0, t), (0, (Xn (AK A o))), (0, fw), (0, x), (0, y), (9, 0), (9, 0), (9, 0), (0, (k + 1))]) ⟨Or.inl rfl, ⟨Or.inl rfl, ⟨Or.inl rfl, ⟨Or.inl rfl, ⟨Or.inl rfl, ⟨Or.inl rfl, ⟨Or.inl rfl, ⟨Or.inl rfl, ⟨Or.inl rfl, ⟨Or.inl rfl, ⟨Or.inl rfl, ⟨Or.inl rfl, trivial⟩⟩⟩⟩⟩⟩⟩⟩⟩⟩⟩⟩ ?_
                                              refine ih256 ((mm_up S4 75 ((576 + (12 * ((x * (Xn (AK A o))) + y))) + (x * (Xn (AK A o)) + k)) ((Rw (AK A c) (AK A o) x y (Xn (AK A c)) k (x * (Xn (AK A o)) + k)) + (Xe (AK A o) y k)))) (fw) ((k + 1)) ?_ ?_ ?_ ?_ ?_ ?_ ?_
                                              · omega
                                              · omega
                                              · exact lT
                                              · exact lE.b h12 hxx hyy (by omega) (by first | (rw [hsx, if_neg (by omega), Int.one_mul]; done) | (rw [hsx, if_pos (by omega)]; omega))
                                              · exact lD.fr (mm_unq (by decide)) (mm_unq (by decide))
                                              · exact lO.u75 _ (by omega)
                                              · intro b hb; rw [mm_unq (by omega)]; exact lF b hb
                                      refine Rn.weak (ls' := [(2, 71), (0, c), (0, o), (0, t), (0, (Xn (AK A o))), (0, fv), (0, x), (0, y), (9, 0), (9, 0), (9, 0), (0, 0)]) ⟨Or.inl rfl, ⟨Or.inl rfl, ⟨Or.inl rfl, ⟨Or.inl rfl, ⟨Or.inl rfl, ⟨Or.inl rfl, ⟨Or.inl rfl, ⟨Or.inl rfl, ⟨Or.inl rfl, ⟨Or.inl rfl, ⟨Or.inl rfl, ⟨Or.inl rfl, trivial⟩⟩⟩⟩⟩⟩⟩⟩⟩⟩⟩⟩ ?_
                                      refine L256 (((Xn (AK A o)) - (0)).toNat + 1) (S3) (fv) (0) (Nat.lt_succ_self _) ?_ ?_ ?_ ?_ ?_ ?_
                                      · omega
                                      · exact jT
                                      · have e : k = (Xn (AK A c)) := by omega
                                        rw [e] at jE
                                        exact jE
                                      · exact jD
                                      · exact jO
                                      · exact jF
                                    ·
                                      have pk := pk (by omega)
                                      refine R_lo (nx := 207) rfl rfl rfl rfl ?_
                                      refine R_get (nx := 210) (w := (2, 75)) rfl rfl rfl rfl ?_
                                      refine R_op (nx := 213) rfl rfl rfl ?_
                                      refine R_op (nx := 215) rfl rfl rfl ?_
                                      refine R_lo (nx := 217) rfl rfl rfl rfl ?_
                                      refine R_lo (nx := 219) rfl rfl rfl rfl ?_
                                      refine R_imul (nx := 220) (z := ((Xn (AK A o)) * x)) rfl rfl rfl ⟨by omega, by omega⟩ ?_
                                      refine R_cv (w := (x * (Xn (AK A o)))) (by rw [Int.mul_comm]) ?_
                                      refine R_lo (nx := 222) rfl rfl rfl rfl ?_
                                      refine R_iadd (nx := 223) (z := ((x * (Xn (AK A o))) + y)) rfl rfl rfl ⟨by omega, by omega⟩ ?_
                                      refine R_imul (nx := 224) (z := (12 * ((x * (Xn (AK A o))) + y))) rfl rfl rfl ⟨by omega, by omega⟩ ?_
                                      refine R_iadd (nx := 225) (z := (576 + (12 * ((x * (Xn (AK A o))) + y)))) rfl rfl rfl ⟨by omega, by omega⟩ ?_
                                      refine R_lo (nx := 227) rfl rfl rfl rfl ?_
                                      refine R_lo (nx := 229) rfl rfl rfl rfl ?_
                                      refine R_imul (nx := 230) (z := ((Xn (AK A o)) * k)) rfl rfl rfl ⟨by omega, by omega⟩ ?_
                                      refine R_cv (w := (k * (Xn (AK A o)))) (by rw [Int.mul_comm]) ?_
                                      refine R_iadd (nx := 231) (z := ((576 + (12 * ((x * (Xn (AK A o))) + y))) + (k * (Xn (AK A o))))) rfl rfl rfl ⟨by omega, by omega⟩ ?_
                                      refine R_lo (nx := 233) rfl rfl rfl rfl ?_
                                      refine R_iadd (nx := 234) (z := (((576 + (12 * ((x * (Xn (AK A o))) + y))) + (k * (Xn (AK A o)))) + y)) rfl rfl rfl ⟨by omega, by omega⟩ ?_
                                      refine R_op (nx := 235) rfl rfl rfl ?_
                                      refine R_iald (nx := 236) rfl rfl (mm_el_ok 1 720 (by decide) rfl (by decide) (by omega) (by omega)) ?_
                                      rw [Int.add_assoc (576 + 12 * (x * (Xn (AK A o)) + y)), jE.rd (by omega) (by omega)]
                                      refine R_lo (nx := 237) rfl rfl rfl rfl ?_
                                      refine R_lo (nx := 238) rfl rfl rfl rfl ?_
                                      refine R_lo (nx := 240) rfl rfl rfl rfl ?_
                                      refine R_lo (nx := 242) rfl rfl rfl rfl ?_
                                      refine R_call1 (nx := 245) (as := [(2, 71), (0, c), (0, x), (0, k)]) (rest := [(0, (Rw (AK A c) (AK A o) x y k 0 (k * (Xn (AK A o)) + y))), (0, ((576 + (12 * ((x * (Xn (AK A o))) + y))) + (k * (Xn (AK A o)) + y))), (2, 75)]) rfl rfl (fun _ _ => rfl) rfl rfl rfl rfl rfl rfl rfl rfl (Cl.mono (c_M_edge S3 c (by omega) (AK A c) (show MRr S3 c (AK A c) by first | assumption | exact MR.r (by assumption) | exact MRr.up (by assumption) (by omega) | exact MRr.up (MR.r (by assumption)) (by omega) | exact MRr.up (MRr.up (MR.r (by assumption)) (by omega)) (by omega)) x k (by omega) (by omega)) ?_)
                                      rintro _ _ ⟨rfl, rfl⟩
                                      refine ⟨_, rfl, ?_⟩
                                      refine R_iadd (nx := 246) (z := ((Rw (AK A c) (AK A o) x y k 0 (k * (Xn (AK A o)) + y)) + (Xe (AK A c) x k))) rfl rfl rfl ⟨by omega, by omega⟩ ?_
                                      refine R_iast (nx := 247) rfl rfl (mm_el_ok 1 720 (by decide) rfl (by decide) (by omega) (by omega)) ?_
                                      refine R_iinc (nx := 250) (z := (k + 1)) (ls' := [(2, 71), (0, c), (0, o), (0, t), (0, (Xn (AK A o))), (0, fv), (0, x), (0, y), (9, 0), (9, 0), (9, 0), (0, (k + 1))]) rfl rfl rfl rfl ⟨by omega, by omega⟩ rfl ?_
                                      refine R_op (nx := 253) (pc' := 195) rfl rfl rfl ?_
                                      refine Rn.weak (ls' := [(2, 71), (0, c), (0, o), (0, t), (0, (Xn (AK A o))), (0, fv), (0, x), (0, y), (9, 0), (9, 0), (9, 0), (0, (k + 1))]) ⟨Or.inl rfl, ⟨Or.inl rfl, ⟨Or.inl rfl, ⟨Or.inl rfl, ⟨Or.inl rfl, ⟨Or.inl rfl, ⟨Or.inl rfl, ⟨Or.inl rfl, ⟨Or.inl rfl, ⟨Or.inl rfl, ⟨Or.inl rfl, ⟨Or.inl rfl, trivial⟩⟩⟩⟩⟩⟩⟩⟩⟩⟩⟩⟩ ?_
                                      refine ih195 ((mm_up S3 75 ((576 + (12 * ((x * (Xn (AK A o))) + y))) + (k * (Xn (AK A o)) + y)) ((Rw (AK A c) (AK A o) x y k 0 (k * (Xn (AK A o)) + y)) + (Xe (AK A c) x k)))) (fv) ((k + 1)) ?_ ?_ ?_ ?_ ?_ ?_ ?_
                                      · omega
                                      · omega
                                      · exact jT
                                      · exact jE.a h12 hxx hyy (by omega)
                                      · exact jD.fr (mm_unq (by decide)) (mm_unq (by decide))
                                      · exact jO.u75 _ (by omega)
                                      · intro b hb; rw [mm_unq (by omega)]; exact jF b hb
                                refine Rn.weak (ls' := [(2, 71), (0, c), (0, o), (0, t), (0, (Xn (AK A o))), (0, 1), (0, x), (0, y), (9, 0), (9, 0), (9, 0), (0, 0)]) ⟨Or.inl rfl, ⟨Or.inl rfl, ⟨Or.inl rfl, ⟨Or.inl rfl, ⟨Or.inl rfl, ⟨Or.inl rfl, ⟨Or.inl rfl, ⟨Or.inl rfl, ⟨Or.inr rfl, ⟨Or.inr rfl, ⟨Or.inr rfl, ⟨Or.inl rfl, trivial⟩⟩⟩⟩⟩⟩⟩⟩⟩⟩⟩⟩ ?_
                                refine L195 (((Xn (AK A c)) - (0)).toNat + 1) (S189_9) (1) (0) (Nat.lt_succ_self _) ?_ ?_ ?_ ?_ ?_ ?_
                                · omega
                                · first | exact gT.y (by omega) (by omega) (by omega) (by omega) | exact FT.n (ft := fu) r0 r7 hxx hyy (by first | exact Or.inl ⟨by omega, gT⟩ | exact Or.inr (by omega)) _ _
                                · exact (ERw.st0 z7.1 gE).fr (by rw [e189_9, mm_unq (by decide), mm_unq (by decide), mm_unq (by decide)])
                                · refine gD.st (by omega) e189_9 ?_; have q := hPk.2.2.1 x y hxx hyy; exact ⟨q.1.symm, q.2.1.symm, q.2.2.symm⟩
                                · rw [e189_9]; exact gO.sets _ _ _ (by omega) (by omega)
                                · intro b hb; rw [e189_9, mm_unq (by omega), mm_unq (by omega), mm_unq (by omega)]; exact gF b hb
                  refine Rn.weak (ls' := [(2, 71), (0, c), (0, o), (0, t), (0, (Xn (AK A o))), (0, ft), (0, x), (0, 0), (9, 0), (9, 0), (9, 0), (9, 0)]) ⟨Or.inl rfl, ⟨Or.inl rfl, ⟨Or.inl rfl, ⟨Or.inl rfl, ⟨Or.inl rfl, ⟨Or.inl rfl, ⟨Or.inl rfl, ⟨Or.inl rfl, ⟨Or.inl rfl, ⟨Or.inl rfl, ⟨Or.inl rfl, ⟨Or.inl rfl, trivial⟩⟩⟩⟩⟩⟩⟩⟩⟩⟩⟩⟩ ?_
                  refine L79 (((Xn (AK A o)) - (0)).toNat + 1) (S1) (ft) (0) (Nat.lt_succ_self _) ?_ ?_ ?_ ?_ ?_ ?_
                  · omega
                  · exact hT
                  · rw [Int.add_zero]; exact hE
                  · rw [Int.add_zero]; exact hD
                  · exact hO
                  · exact hF
          refine Rn.weak (ls' := [(2, 71), (0, c), (0, o), (0, t), (0, (Xn (AK A o))), (0, 1), (0, 0), (9, 0), (9, 0), (9, 0), (9, 0), (9, 0)]) ⟨Or.inl rfl, ⟨Or.inl rfl, ⟨Or.inl rfl, ⟨Or.inl rfl, ⟨Or.inl rfl, ⟨Or.inl rfl, ⟨Or.inl rfl, ⟨Or.inl rfl, ⟨Or.inl rfl, ⟨Or.inl rfl, ⟨Or.inl rfl, ⟨Or.inl rfl, trivial⟩⟩⟩⟩⟩⟩⟩⟩⟩⟩⟩⟩ ?_
          refine L60 (((Xn (AK A c)) - (0)).toNat + 1) (S54_1) (1) (0) (Nat.lt_succ_self _) ?_ ?_ ?_ ?_ ?_ ?_
          · omega
          · first | exact Or.inl ⟨rfl, by omega, fun x1 y1 p q r => by omega⟩ | exact Or.inr ⟨rfl, fun q => by have := q.1; omega⟩
          · rw [Int.zero_mul]; exact EPb.z m54_1
          · rw [Int.zero_mul]; intro i h0 h1; omega
          · exact o54_1
          · exact f54_1
      ·
        refine ⟨_, rfl, ?_⟩
        refine R_ifF (nx := 21) rfl rfl rfl ?_
        refine R_op (nx := 22) rfl rfl rfl ?_
        refine R_ret rfl (fun _ _ => rfl) rfl rfl ?_
        rw [show Q_times A c o t = ((-1), A) from by simp only [Q_times, b1, b8, b15, ifm, ifp, iffq, ↓reduceIte, ite_self, and_self, and_true, true_and, and_false, false_and, or_true, true_or, or_false, false_or, or_self, not_true_eq_false, not_false_eq_true, ne_eq]]; exact ⟨rfl, hRR, fun b _ => rfl⟩
    ·
      try have k7 := hRR.k b8.1 b8.2
      try have n7 := k7.n
      try have z7 := k7.1.nr
      try have v7 := hV.1 _ b8.1 b8.2
      try have r7 := v7.2.1
      try have hP := fun h => Xprod_ok (K := AK A c) (K2 := AK A o) z0.1 z7.1 h
      try have hmb := mul_b z0 z7
      try have hdt := fun x => Int.tmod_eq_emod_of_nonneg (b := 2) (r0.d x).1
      refine ⟨_, rfl, ?_⟩
      refine R_ifT (tg := 21) rfl rfl rfl ?_
      refine R_op (nx := 22) rfl rfl rfl ?_
      refine R_ret rfl (fun _ _ => rfl) rfl rfl ?_
      rw [show Q_times A c o t = ((-1), A) from by simp only [Q_times, b1, b8, ifm, ifp, iffq, ↓reduceIte, ite_self, and_self, and_true, true_and, and_false, false_and, or_true, true_or, or_false, false_or, or_self, not_true_eq_false, not_false_eq_true, ne_eq]]; exact ⟨rfl, hRR, fun b _ => rfl⟩
  ·
    try have k0 := hRR.k b1.1 b1.2
    try have n0 := k0.n
    try have z0 := k0.1.nr
    try have v0 := hV.1 _ b1.1 b1.2
    try have r0 := v0.2.1
    refine ⟨_, rfl, ?_⟩
    refine R_ifT (tg := 21) rfl rfl rfl ?_
    refine R_op (nx := 22) rfl rfl rfl ?_
    refine R_ret rfl (fun _ _ => rfl) rfl rfl ?_
    rw [show Q_times A c o t = ((-1), A) from by simp only [Q_times, b1, ifm, ifp, iffq, ↓reduceIte, ite_self, and_self, and_true, true_and, and_false, false_and, or_true, true_or, or_false, false_or, or_self, not_true_eq_false, not_false_eq_true, ne_eq]]; exact ⟨rfl, hRR, fun b _ => rfl⟩
