/-! Products and parts. -/
theorem ifc {p q : Prop} [dp : Decidable p] [dq : Decidable q] {a b a' b' : Int} (h : p ↔ q) (ha : a = a') (hb : b = b') : (if p then a else b) = if q then a' else b' := by
  subst ha; subst hb
  by_cases e : p
  · rw [if_pos e, if_pos (h.mp e)]
  · rw [if_neg e, if_neg (fun r => e (h.mpr r))]
theorem pinj {m x y x' y' : Int} (h : 0 ≤ y ∧ y < m) (h' : 0 ≤ y' ∧ y' < m) : x * m + y = x' * m + y' ↔ x = x' ∧ y = y' := by
  constructor
  · intro q
    have e1 : (x * m + y) / m = x := by rw [Int.add_comm, Int.add_mul_ediv_right _ _ (by omega), Int.ediv_eq_zero_of_lt h.1 h.2]; omega
    have e2 : (x' * m + y') / m = x' := by rw [Int.add_comm, Int.add_mul_ediv_right _ _ (by omega), Int.ediv_eq_zero_of_lt h'.1 h'.2]; omega
    have : x = x' := by rw [← e1, ← e2, q]
    subst this
    exact ⟨rfl, by omega⟩
  · rintro ⟨rfl, rfl⟩; rfl
theorem prng {n m x y : Int} (hx : 0 ≤ x ∧ x < n) (hy : 0 ≤ y ∧ y < m) : 0 ≤ x * m + y ∧ x * m + y < n * m := by
  have h1 := Int.mul_nonneg hx.1 (show 0 ≤ m by omega)
  have h2 := Int.mul_le_mul_of_nonneg_right (show x + 1 ≤ n by omega) (show 0 ≤ m by omega)
  rw [Int.add_mul, Int.one_mul] at h2
  omega
theorem pdiv {n m i : Int} (hm : 0 ≤ m) (hi : 0 ≤ i ∧ i < n * m) : ∃ x y, (0 ≤ x ∧ x < n) ∧ (0 ≤ y ∧ y < m) ∧ i = x * m + y := by
  have hm' : 0 < m := by
    by_cases e : m = 0
    · rw [e, Int.mul_zero] at hi; omega
    · omega
  refine ⟨i / m, i % m, ⟨Int.ediv_nonneg hi.1 hm, Int.ediv_lt_of_lt_mul hm' hi.2⟩, ⟨Int.emod_nonneg _ (by omega), Int.emod_lt_of_pos _ hm'⟩, ?_⟩
  rw [Int.mul_comm]
  exact (Int.mul_ediv_add_emod i m).symm
def Xsg (K : CX) (x : Int) : Int := if Xd K x % 2 = 1 then -1 else 1
theorem Xsg_c (K : CX) (x : Int) : Xsg K x = -1 ∨ Xsg K x = 1 := by
  unfold Xsg
  split
  · exact Or.inl rfl
  · exact Or.inr rfl
def Xpe (K K2 : CX) (x y x2 y2 : Int) : Int := (if y2 = y then Xe K x x2 else 0) + (if x2 = x then Xsg K x * Xe K2 y y2 else 0)
theorem Xdiag {K : CX} (h : Vx K) (x : Int) : Xe K x x = 0 := by
  by_cases e : Xe K x x = 0
  · exact e
  · have := (h.2.2 x x e).2.2.1; omega
def isProd (K K2 K1 : CX) : Prop := Nz K1 ∧ Xn K1 = Xn K * Xn K2 ∧ (∀ x y, (0 ≤ x ∧ x < Xn K) → (0 ≤ y ∧ y < Xn K2) → Xd K1 (x * Xn K2 + y) = Xd K x + Xd K2 y ∧ X0 K1 (x * Xn K2 + y) = X0 K x + X0 K2 y ∧ X1 K1 (x * Xn K2 + y) = X1 K x + X1 K2 y) ∧ ∀ x1 y1 x2 y2, (0 ≤ x1 ∧ x1 < Xn K) → (0 ≤ y1 ∧ y1 < Xn K2) → (0 ≤ x2 ∧ x2 < Xn K) → (0 ≤ y2 ∧ y2 < Xn K2) → Xe K1 (x1 * Xn K2 + y1) (x2 * Xn K2 + y2) = Xpe K K2 x1 y1 x2 y2
theorem isProd_u {K K2 K1 K1' : CX} (h2 : 0 ≤ Xn K2) (h : isProd K K2 K1) (h' : isProd K K2 K1') : K1 = K1' := by
  obtain ⟨z, a, b, c⟩ := h
  obtain ⟨z', a', b', c'⟩ := h'
  have key : ∀ x, (Xd K1 x = Xd K1' x ∧ X0 K1 x = X0 K1' x ∧ X1 K1 x = X1 K1' x) := by
    intro x
    by_cases e : 0 ≤ x ∧ x < Xn K1
    · rw [a] at e
      obtain ⟨p, q, hp, hq, rfl⟩ := pdiv h2 e
      obtain ⟨b1, b2, b3⟩ := b p q hp hq
      obtain ⟨d1, d2, d3⟩ := b' p q hp hq
      rw [b1, b2, b3, d1, d2, d3]
      exact ⟨rfl, rfl, rfl⟩
    · obtain ⟨b1, b2, b3⟩ := z.2.1 x e
      obtain ⟨d1, d2, d3⟩ := z'.2.1 x (by rw [a', ← a]; exact e)
      rw [b1, b2, b3, d1, d2, d3]
      exact ⟨rfl, rfl, rfl⟩
  refine CXext (by rw [a, a']) (fun x => (key x).1) (fun x => (key x).2.1) (fun x => (key x).2.2) fun x y => ?_
  by_cases e : (0 ≤ x ∧ x < Xn K1) ∧ (0 ≤ y ∧ y < Xn K1)
  · rw [a] at e
    obtain ⟨p, q, hp, hq, rfl⟩ := pdiv h2 e.1
    obtain ⟨r, s, hr, hs, rfl⟩ := pdiv h2 e.2
    rw [c p q r s hp hq hr hs, c' p q r s hp hq hr hs]
  · rw [z.e e, z'.e (by rw [a', ← a]; exact e)]
theorem isProd_Vx {K K2 K1 : CX} (hK : Vx K) (hK2 : Vx K2) (h : isProd K K2 K1) (hf : Xfit K K2) : Vx K1 := by
  obtain ⟨z, a, b, c⟩ := h
  obtain ⟨f0, f1, f2, f3⟩ := hf
  have n2 := hK2.1.1
  have mxl : ∀ {f : Int → Int} {n i : Int}, 0 ≤ i → i < n → f i ≤ mx f n := fun h0 h1 => (mx_le.mp (Int.le_refl _)).2 _ h0 h1
  have rg : ∀ x, (0 ≤ Xd K1 x ∧ Xd K1 x ≤ 4) ∧ (0 ≤ X0 K1 x ∧ X0 K1 x ≤ 9) ∧ (0 ≤ X1 K1 x ∧ X1 K1 x ≤ 9) := by
    intro x
    by_cases e : 0 ≤ x ∧ x < Xn K1
    · rw [a] at e
      obtain ⟨p, q, hp, hq, rfl⟩ := pdiv n2.1 e
      obtain ⟨b1, b2, b3⟩ := b p q hp hq
      have g1 := hK.2.1.1 p
      have g2 := hK2.2.1.1 q
      have m1 : Xd K p ≤ _ := mxl (f := Xd K) hp.1 hp.2
      have m2 : Xd K2 q ≤ _ := mxl (f := Xd K2) hq.1 hq.2
      have m3 : X0 K p ≤ _ := mxl (f := Xl K 0) hp.1 hp.2
      have m4 : X0 K2 q ≤ _ := mxl (f := Xl K2 0) hq.1 hq.2
      have m5 : X1 K p ≤ _ := mxl (f := Xl K 1) hp.1 hp.2
      have m6 : X1 K2 q ≤ _ := mxl (f := Xl K2 1) hq.1 hq.2
      omega
    · obtain ⟨b1, b2, b3⟩ := z.2.1 x e
      omega
  have ent : ∀ x y, Xe K1 x y ≠ 0 → Xmay K1 x y ∧ -9 ≤ Xe K1 x y ∧ Xe K1 x y ≤ 9 := by
    intro x y hne
    by_cases e : (0 ≤ x ∧ x < Xn K1) ∧ (0 ≤ y ∧ y < Xn K1)
    · have e' := e
      rw [a] at e'
      obtain ⟨p, q, hp, hq, rfl⟩ := pdiv n2.1 e'.1
      obtain ⟨r, s, hr, hs, rfl⟩ := pdiv n2.1 e'.2
      rw [c p q r s hp hq hr hs] at hne ⊢
      obtain ⟨b1, b2, b3⟩ := b p q hp hq
      obtain ⟨d1, d2, d3⟩ := b r s hr hs
      unfold Xpe at hne ⊢
      have E1 := hK.2.1.e p r
      have E2 := hK2.2.1.e q s
      have D := Xdiag hK p
      by_cases hq' : s = q
      · rw [if_pos hq'] at hne ⊢
        by_cases hr' : r = p
        · subst hr'; subst hq'
          have D2 := Xdiag hK2 s
          rw [if_pos rfl, D, D2, Int.mul_zero] at hne
          exact absurd rfl hne
        · rw [if_neg hr'] at hne ⊢
          rw [Int.add_zero] at hne ⊢
          have M := hK.2.2 p r hne
          unfold Xmay at M ⊢
          subst hq'
          rw [b1, b2, b3, d1, d2, d3]
          omega
      · rw [if_neg hq'] at hne ⊢
        by_cases hr' : r = p
        · rw [if_pos hr'] at hne ⊢
          have S := Xsg_c K p
          have h2 : Xe K2 q s ≠ 0 := fun q => hne (by rw [q, Int.mul_zero]; rfl)
          have M := hK2.2.2 q s h2
          unfold Xmay at M ⊢
          subst hr'
          rw [b1, b2, b3, d1, d2, d3]
          rcases S with S | S <;> rw [S] <;> omega
        · rw [if_neg hr'] at hne; exact absurd rfl hne
    · exact absurd (z.e e) hne
  refine ⟨z, ⟨rg, fun x y => ?_⟩, fun x y hne => (ent x y hne).1⟩
  by_cases e : Xe K1 x y = 0
  · rw [e]; exact ⟨by decide, by decide⟩
  · exact (ent x y e).2
theorem pset {Ka : CX} {n m x y i j v x1 y1 x2 y2 : Int} (hn : Xn Ka = n * m) (hx : 0 ≤ x ∧ x < n) (hy : 0 ≤ y ∧ y < m) (hi : 0 ≤ i ∧ i < n) (hj : 0 ≤ j ∧ j < m) (h1 : 0 ≤ x1 ∧ x1 < n) (h2 : 0 ≤ y1 ∧ y1 < m) (h3 : 0 ≤ x2 ∧ x2 < n) (h4 : 0 ≤ y2 ∧ y2 < m) : Xe (Xset Ka (x * m + y) (i * m + j) v) (x1 * m + y1) (x2 * m + y2) = if (x1 = x ∧ y1 = y) ∧ (x2 = i ∧ y2 = j) then v else Xe Ka (x1 * m + y1) (x2 * m + y2) := by
  rw [Xset_e]
  exact ifc (by rw [pinj h2 hy, pinj h4 hj, hn]; exact ⟨fun q => q.2, fun q => ⟨⟨prng hx hy, prng hi hj⟩, q⟩⟩) rfl rfl
def Xsame (K1 Ka : CX) : Prop := Xn Ka = Xn K1 ∧ (∀ i, Xd Ka i = Xd K1 i) ∧ (∀ i, X0 Ka i = X0 K1 i) ∧ ∀ i, X1 Ka i = X1 K1 i

def PEa (K K2 K1 Ka : CX) (x y i : Int) : Prop := ∀ x1 y1 x2 y2, (0 ≤ x1 ∧ x1 < Xn K) → (0 ≤ y1 ∧ y1 < Xn K2) → (0 ≤ x2 ∧ x2 < Xn K) → (0 ≤ y2 ∧ y2 < Xn K2) → Xe Ka (x1 * Xn K2 + y1) (x2 * Xn K2 + y2) = if x1 = x ∧ y1 = y then (if y2 = y ∧ x2 < i then Xe K x x2 else 0) else Xe K1 (x1 * Xn K2 + y1) (x2 * Xn K2 + y2)
def PEb (K K2 K1 Ka : CX) (x y i : Int) : Prop := ∀ x1 y1 x2 y2, (0 ≤ x1 ∧ x1 < Xn K) → (0 ≤ y1 ∧ y1 < Xn K2) → (0 ≤ x2 ∧ x2 < Xn K) → (0 ≤ y2 ∧ y2 < Xn K2) → Xe Ka (x1 * Xn K2 + y1) (x2 * Xn K2 + y2) = if x1 = x ∧ y1 = y then (if x2 = x ∧ y2 < i then Xsg K x * Xe K2 y y2 else if y2 = y then Xe K x x2 else 0) else Xe K1 (x1 * Xn K2 + y1) (x2 * Xn K2 + y2)
theorem PEa.nx {K K2 K1 Ka : CX} {x y i : Int} (hn : Xn Ka = Xn K * Xn K2) (hx : 0 ≤ x ∧ x < Xn K) (hy : 0 ≤ y ∧ y < Xn K2) (hi : 0 ≤ i ∧ i < Xn K) (h : PEa K K2 K1 Ka x y i) : PEa K K2 K1 (Xset Ka (x * Xn K2 + y) (i * Xn K2 + y) (Xe K x i)) x y (i + 1) := by
  intro x1 y1 x2 y2 h1 h2 h3 h4
  rw [pset hn hx hy hi hy h1 h2 h3 h4, h x1 y1 x2 y2 h1 h2 h3 h4]
  by_cases e : (x1 = x ∧ y1 = y) ∧ (x2 = i ∧ y2 = y)
  · rw [if_pos e, if_pos e.1, if_pos ⟨e.2.2, by omega⟩, e.2.1]
  · rw [if_neg e]
    by_cases e2 : x1 = x ∧ y1 = y
    · rw [if_pos e2, if_pos e2]
      exact ifc (by omega) rfl rfl
    · rw [if_neg e2, if_neg e2]
theorem PEb.nx {K K2 K1 Ka : CX} {x y i : Int} (hn : Xn Ka = Xn K * Xn K2) (hx : 0 ≤ x ∧ x < Xn K) (hy : 0 ≤ y ∧ y < Xn K2) (hi : 0 ≤ i ∧ i < Xn K2) (h : PEb K K2 K1 Ka x y i) : PEb K K2 K1 (Xset Ka (x * Xn K2 + y) (x * Xn K2 + i) (Xsg K x * Xe K2 y i)) x y (i + 1) := by
  intro x1 y1 x2 y2 h1 h2 h3 h4
  rw [pset hn hx hy hx hi h1 h2 h3 h4, h x1 y1 x2 y2 h1 h2 h3 h4]
  by_cases e : (x1 = x ∧ y1 = y) ∧ (x2 = x ∧ y2 = i)
  · rw [if_pos e, if_pos e.1, if_pos ⟨e.2.1, by omega⟩, e.2.2]
  · rw [if_neg e]
    by_cases e2 : x1 = x ∧ y1 = y
    · rw [if_pos e2, if_pos e2]
      exact ifc (by omega) rfl rfl
    · rw [if_neg e2, if_neg e2]
theorem PEa.b {K K2 K1 Ka : CX} {x y : Int} (h : PEa K K2 K1 Ka x y (Xn K)) : PEb K K2 K1 Ka x y 0 := by
  intro x1 y1 x2 y2 h1 h2 h3 h4
  rw [h x1 y1 x2 y2 h1 h2 h3 h4]
  refine ifc Iff.rfl ?_ rfl
  rw [if_neg (show ¬ (x2 = x ∧ y2 < 0) by omega)]
  exact ifc (by omega) rfl rfl
theorem PEb.fin {K K2 K1 Ka : CX} {x y : Int} (hV : Vx K) (h : PEb K K2 K1 Ka x y (Xn K2)) (x1 y1 x2 y2 : Int) : (0 ≤ x1 ∧ x1 < Xn K) → (0 ≤ y1 ∧ y1 < Xn K2) → (0 ≤ x2 ∧ x2 < Xn K) → (0 ≤ y2 ∧ y2 < Xn K2) → Xe Ka (x1 * Xn K2 + y1) (x2 * Xn K2 + y2) = if x1 = x ∧ y1 = y then Xpe K K2 x y x2 y2 else Xe K1 (x1 * Xn K2 + y1) (x2 * Xn K2 + y2) := by
  intro h1 h2 h3 h4
  rw [h x1 y1 x2 y2 h1 h2 h3 h4]
  refine ifc Iff.rfl ?_ rfl
  unfold Xpe
  by_cases e : x2 = x
  · rw [if_pos (show x2 = x ∧ y2 < Xn K2 by omega), if_pos e]
    by_cases e2 : y2 = y
    · rw [if_pos e2, e, Xdiag hV]; omega
    · rw [if_neg e2]; omega
  · rw [if_neg (show ¬ (x2 = x ∧ y2 < Xn K2) by omega), if_neg e, Int.add_zero]
theorem PEa.st {K K2 K1 : CX} {x y : Int} (hz : ∀ x2 y2, (0 ≤ x2 ∧ x2 < Xn K) → (0 ≤ y2 ∧ y2 < Xn K2) → Xe K1 (x * Xn K2 + y) (x2 * Xn K2 + y2) = 0) : PEa K K2 K1 K1 x y 0 := by
  intro x1 y1 x2 y2 h1 h2 h3 h4
  by_cases e : x1 = x ∧ y1 = y
  · rw [if_pos e, if_neg (show ¬ (y2 = y ∧ x2 < 0) by omega), e.1, e.2]
    exact hz x2 y2 h3 h4
  · rw [if_neg e]

set_option maxRecDepth 20000 in
set_option maxHeartbeats 4000000 in
theorem c_C_setProductEdge (S : mm_S) (b : Int) (hB : mm_isC b) (K : CX) (h : MC S b K) (c : Int) (hC : mm_isC c) (K2 : CX) (h2 : MC S c K2) (hb : 7 < b) (hc : 7 < c) (hV : Vx K) (hV2 : Vx K2) (hf : Xn K * Xn K2 ≤ 12) (K1 : CX) (h1 : MC S 3 K1) (hn1 : Xn K1 = Xn K * Xn K2) (x y : Int) (hx : 0 ≤ x ∧ x < Xn K) (hy : 0 ≤ y ∧ y < Xn K2) (hz : ∀ x2 y2, (0 ≤ x2 ∧ x2 < Xn K) → (0 ≤ y2 ∧ y2 < Xn K2) → Xe K1 (x * Xn K2 + y) (x2 * Xn K2 + y2) = 0) : Cl 139 [(2, 3), (2, b), (2, c), (0, x), (0, y)] S (fun v S' => v = none ∧ ∃ K', MC S' 3 K' ∧ Xsame K1 K' ∧ (∀ x1 y1 x2 y2, (0 ≤ x1 ∧ x1 < Xn K) → (0 ≤ y1 ∧ y1 < Xn K2) → (0 ≤ x2 ∧ x2 < Xn K) → (0 ≤ y2 ∧ y2 < Xn K2) → Xe K' (x1 * Xn K2 + y1) (x2 * Xn K2 + y2) = if x1 = x ∧ y1 = y then Xpe K K2 x y x2 y2 else Xe K1 (x1 * Xn K2 + y1) (x2 * Xn K2 + y2)) ∧ ∀ e, ¬ (3 ≤ e ∧ e ≤ 7) → S' e = S e) := by
  refine ⟨Nat.le_of_ble_eq_true rfl, ?_⟩
  show Rn k_C_setProductEdge 0 [(2, 3), (2, b), (2, c), (0, x), (0, y), (9, 0), (9, 0), (9, 0), (9, 0)] [] S _
  have hR := hV.2.1
  have hR2 := hV2.2.1
  have hnr := h.nr
  have hnr2 := h2.nr
  have hn := h.n
  have hn2 := h2.n
  have hsz := prng hx hy
  have hsz0 := prng hx (show 0 ≤ 0 ∧ 0 < Xn K2 by omega)
  have hdt := Int.tmod_eq_emod_of_nonneg (b := 2) (hR.d x).1
  refine R_lo (nx := 1) rfl rfl rfl rfl ?_
  refine R_get (nx := 4) (w := (0, (S c 0))) rfl rfl (isC_ob hC) rfl ?_
  rw [hn2]
  refine R_lo (nx := 6) (ls' := [(2, 3), (2, b), (2, c), (0, x), (0, y), (0, (Xn K2)), (9, 0), (9, 0), (9, 0)]) rfl rfl rfl rfl ?_
  refine R_lo (nx := 7) rfl rfl rfl rfl ?_
  refine R_lo (nx := 9) rfl rfl rfl rfl ?_
  refine R_imul (nx := 10) (z := (x * (Xn K2))) rfl rfl rfl ⟨by omega, by omega⟩ ?_
  refine R_lo (nx := 12) rfl rfl rfl rfl ?_
  refine R_iadd (nx := 13) (z := ((x * (Xn K2)) + y)) rfl rfl rfl ⟨by omega, by omega⟩ ?_
  refine R_lo (nx := 15) (ls' := [(2, 3), (2, b), (2, c), (0, x), (0, y), (0, (Xn K2)), (0, ((x * (Xn K2)) + y)), (9, 0), (9, 0)]) rfl rfl rfl rfl ?_
  refine R_lo (nx := 16) rfl rfl rfl rfl ?_
  refine R_lo (nx := 17) rfl rfl rfl rfl ?_
  refine R_call1 (nx := 20) (as := [(2, b), (0, x)]) (rest := []) rfl rfl (fun _ _ => rfl) rfl rfl rfl rfl rfl rfl (isC_rc hB _) rfl (Cl.mono (c_C_degree S b hB K (by first | assumption | exact MC.up (by assumption) (by omega) | exact MC.up (MC.up (by assumption) (by omega)) (by omega) | exact MC.up (MC.up (MC.up (by assumption) (by omega)) (by omega)) (by omega)) x) ?_)
  rintro _ _ ⟨rfl, rfl⟩
  refine ⟨_, rfl, ?_⟩
  refine R_op (nx := 21) rfl rfl rfl ?_
  refine R_irem (nx := 22) (z := (Int.tmod (Xd K x) 2)) rfl rfl (by decide) rfl ?_
  refine R_op (nx := 23) rfl rfl rfl ?_
  refine R_icmp (nx := 26) (tg := 30) rfl rfl rfl (mm_cnd_ne _ _) (fun c23 => ?_) (fun c23 => ?_)
  ·
    refine R_op (nx := 31) rfl rfl rfl ?_
    refine R_cv (w := (Xsg K x)) (by unfold Xsg; first | rw [if_pos (by omega)] | rw [if_neg (by omega)]) ?_
    refine R_lo (nx := 33) (ls' := [(2, 3), (2, b), (2, c), (0, x), (0, y), (0, (Xn K2)), (0, ((x * (Xn K2)) + y)), (0, (Xsg K x)), (9, 0)]) rfl rfl rfl rfl ?_
    refine R_op (nx := 34) rfl rfl rfl ?_
    refine R_lo (nx := 36) (ls' := [(2, 3), (2, b), (2, c), (0, x), (0, y), (0, (Xn K2)), (0, ((x * (Xn K2)) + y)), (0, (Xsg K x)), (0, 0)]) rfl rfl rfl rfl ?_
    have L36 : ∀ (f36 : Nat) (S1 : mm_S) (Ka : CX) (i : Int), (Xn K - i).toNat < f36 → (0 ≤ i ∧ i ≤ Xn K) → (MC S1 3 Ka) → (Xsame K1 Ka) → (PEa K K2 K1 Ka x y i) → (∀ e, ¬ (3 ≤ e ∧ e ≤ 7) → S1 e = S e) → Rn k_C_setProductEdge 36 [(2, 3), (2, b), (2, c), (0, x), (0, y), (0, (Xn K2)), (0, ((x * (Xn K2)) + y)), (0, (Xsg K x)), (0, i)] [] S1 (fun v S' => v = none ∧ ∃ K', MC S' 3 K' ∧ Xsame K1 K' ∧ (∀ x1 y1 x2 y2, (0 ≤ x1 ∧ x1 < Xn K) → (0 ≤ y1 ∧ y1 < Xn K2) → (0 ≤ x2 ∧ x2 < Xn K) → (0 ≤ y2 ∧ y2 < Xn K2) → Xe K' (x1 * Xn K2 + y1) (x2 * Xn K2 + y2) = if x1 = x ∧ y1 = y then Xpe K K2 x y x2 y2 else Xe K1 (x1 * Xn K2 + y1) (x2 * Xn K2 + y2)) ∧ ∀ e, ¬ (3 ≤ e ∧ e ≤ 7) → S' e = S e) := by
      intro f36
      induction f36 with
      | zero => intro S1 Ka i hm36; exact absurd hm36 (Nat.not_lt_zero _)
      | succ f36 ih36 =>
        intro S1 Ka i hm36 hi hM hs hI hF
        have hb1 : MC S1 b K := h.fr fun e p q => hF e (by omega)
        have hc1 : MC S1 c K2 := h2.fr fun e p q => hF e (by omega)
        have hbn := hb1.n
        have hcn := hc1.n
        have hsz := prng hx hy
        have hKn := hs.1
        have hsz1 := fun q => prng (x := i) (y := y) (n := Xn K) (m := Xn K2) q hy
        refine R_lo (nx := 38) rfl rfl rfl rfl ?_
        refine R_lo (nx := 39) rfl rfl rfl rfl ?_
        refine R_get (nx := 42) (w := (0, (S1 b 0))) rfl rfl (isC_ob hB) rfl ?_
        refine R_icmp (nx := 45) (tg := 72) rfl rfl rfl (mm_cnd_ge _ _) (fun c42 => ?_) (fun c42 => ?_)
        ·
          refine R_op (nx := 73) rfl rfl rfl ?_
          refine R_lo (nx := 75) (ls' := [(2, 3), (2, b), (2, c), (0, x), (0, y), (0, (Xn K2)), (0, ((x * (Xn K2)) + y)), (0, (Xsg K x)), (0, 0)]) rfl rfl rfl rfl ?_
          have L75 : ∀ (f75 : Nat) (S1 : mm_S) (Ka : CX) (i : Int), (Xn K2 - i).toNat < f75 → (0 ≤ i ∧ i ≤ Xn K2) → (MC S1 3 Ka) → (Xsame K1 Ka) → (PEb K K2 K1 Ka x y i) → (∀ e, ¬ (3 ≤ e ∧ e ≤ 7) → S1 e = S e) → Rn k_C_setProductEdge 75 [(2, 3), (2, b), (2, c), (0, x), (0, y), (0, (Xn K2)), (0, ((x * (Xn K2)) + y)), (0, (Xsg K x)), (0, i)] [] S1 (fun v S' => v = none ∧ ∃ K', MC S' 3 K' ∧ Xsame K1 K' ∧ (∀ x1 y1 x2 y2, (0 ≤ x1 ∧ x1 < Xn K) → (0 ≤ y1 ∧ y1 < Xn K2) → (0 ≤ x2 ∧ x2 < Xn K) → (0 ≤ y2 ∧ y2 < Xn K2) → Xe K' (x1 * Xn K2 + y1) (x2 * Xn K2 + y2) = if x1 = x ∧ y1 = y then Xpe K K2 x y x2 y2 else Xe K1 (x1 * Xn K2 + y1) (x2 * Xn K2 + y2)) ∧ ∀ e, ¬ (3 ≤ e ∧ e ≤ 7) → S' e = S e) := by
            intro f75
            induction f75 with
            | zero => intro S1 Ka i hm75; exact absurd hm75 (Nat.not_lt_zero _)
            | succ f75 ih75 =>
              intro S1 Ka i hm75 hi hM hs hI hF
              have hb1 : MC S1 b K := h.fr fun e p q => hF e (by omega)
              have hc1 : MC S1 c K2 := h2.fr fun e p q => hF e (by omega)
              have hbn := hb1.n
              have hcn := hc1.n
              have hsz := prng hx hy
              have hKn := hs.1
              have hsz1 := fun q => prng (x := x) (y := i) (n := Xn K) (m := Xn K2) hx q
              have hsb := Xsg_c K x
              refine R_lo (nx := 77) rfl rfl rfl rfl ?_
              refine R_lo (nx := 79) rfl rfl rfl rfl ?_
              refine R_icmp (nx := 82) (tg := 112) rfl rfl rfl (mm_cnd_ge _ _) (fun c79 => ?_) (fun c79 => ?_)
              ·
                refine R_ret rfl (fun _ _ => rfl) rfl rfl ?_
                have e : i = Xn K2 := by omega
                rw [e] at hI
                exact ⟨rfl, _, hM, hs, PEb.fin hV hI, hF⟩
              ·
                refine R_lo (nx := 83) rfl rfl rfl rfl ?_
                refine R_lo (nx := 85) rfl rfl rfl rfl ?_
                refine R_lo (nx := 86) rfl rfl rfl rfl ?_
                refine R_lo (nx := 88) rfl rfl rfl rfl ?_
                refine R_imul (nx := 89) (z := (x * (Xn K2))) rfl rfl rfl ⟨by omega, by omega⟩ ?_
                refine R_lo (nx := 91) rfl rfl rfl rfl ?_
                refine R_iadd (nx := 92) (z := ((x * (Xn K2)) + i)) rfl rfl rfl ⟨by omega, by omega⟩ ?_
                refine R_lo (nx := 94) rfl rfl rfl rfl ?_
                refine R_lo (nx := 95) rfl rfl rfl rfl ?_
                refine R_lo (nx := 97) rfl rfl rfl rfl ?_
                refine R_lo (nx := 99) rfl rfl rfl rfl ?_
                refine R_call1 (nx := 102) (as := [(2, c), (0, y), (0, i)]) (rest := [(0, (Xsg K x)), (0, ((x * (Xn K2)) + i)), (0, ((x * (Xn K2)) + y)), (2, 3)]) rfl rfl (fun _ _ => rfl) rfl rfl rfl rfl rfl rfl (isC_rc hC _) rfl (Cl.mono (c_C_edge S1 c hC K2 (by first | assumption | exact MC.up (by assumption) (by omega) | exact MC.up (MC.up (by assumption) (by omega)) (by omega) | exact MC.up (MC.up (MC.up (by assumption) (by omega)) (by omega)) (by omega)) y i) ?_)
                rintro _ _ ⟨rfl, rfl⟩
                refine ⟨_, rfl, ?_⟩
                refine R_imul (nx := 103) (z := ((Xsg K x) * (Xe K2 y i))) rfl rfl rfl (by have := hR2.e y i; rcases hsb with q | q <;> rw [q] <;> exact ⟨by omega, by omega⟩) ?_
                refine R_call0 (nx := 106) (as := [(2, 3), (0, ((x * (Xn K2)) + y)), (0, ((x * (Xn K2)) + i)), (0, ((Xsg K x) * (Xe K2 y i)))]) (rest := []) rfl rfl (fun _ _ => rfl) rfl rfl rfl rfl rfl rfl rfl rfl (Cl.mono (c_C_setEdge S1 3 isC_3 Ka (by first | assumption | exact MC.up (by assumption) (by omega) | exact MC.up (MC.up (by assumption) (by omega)) (by omega) | exact MC.up (MC.up (MC.up (by assumption) (by omega)) (by omega)) (by omega)) ((x * (Xn K2)) + y) ((x * (Xn K2)) + i) ((Xsg K x) * (Xe K2 y i))) ?_)
                rintro _ S103 ⟨rfl, m103, f103⟩
                try have m_f103 : MC S103 b K := MC.fr (by first | assumption | exact MC.up (by assumption) (by omega) | exact MC.up (MC.up (by assumption) (by omega)) (by omega) | exact MC.up (MC.up (MC.up (by assumption) (by omega)) (by omega)) (by omega)) (fun c p q => f103 c (by omega))
                try have m_f103 : MC S103 c K2 := MC.fr (by first | assumption | exact MC.up (by assumption) (by omega) | exact MC.up (MC.up (by assumption) (by omega)) (by omega) | exact MC.up (MC.up (MC.up (by assumption) (by omega)) (by omega)) (by omega)) (fun c p q => f103 c (by omega))
                refine ⟨rfl, ?_⟩
                refine R_iinc (nx := 109) (z := (i + 1)) (ls' := [(2, 3), (2, b), (2, c), (0, x), (0, y), (0, (Xn K2)), (0, ((x * (Xn K2)) + y)), (0, (Xsg K x)), (0, (i + 1))]) rfl rfl rfl rfl ⟨by omega, by omega⟩ rfl ?_
                refine R_op (nx := 112) (pc' := 75) rfl rfl rfl ?_
                refine Rn.weak (ls' := [(2, 3), (2, b), (2, c), (0, x), (0, y), (0, (Xn K2)), (0, ((x * (Xn K2)) + y)), (0, (Xsg K x)), (0, (i + 1))]) ⟨Or.inl rfl, ⟨Or.inl rfl, ⟨Or.inl rfl, ⟨Or.inl rfl, ⟨Or.inl rfl, ⟨Or.inl rfl, ⟨Or.inl rfl, ⟨Or.inl rfl, ⟨Or.inl rfl, trivial⟩⟩⟩⟩⟩⟩⟩⟩⟩ ?_
                refine ih75 (S103) ((Xset Ka ((x * (Xn K2)) + y) ((x * (Xn K2)) + i) ((Xsg K x) * (Xe K2 y i)))) ((i + 1)) ?_ ?_ ?_ ?_ ?_ ?_
                · omega
                · omega
                · exact m103
                · exact hs
                · exact PEb.nx (hKn.trans hn1) hx hy (by omega) hI
                · intro e he; rw [f103 e (by omega)]; exact hF e he
          refine Rn.weak (ls' := [(2, 3), (2, b), (2, c), (0, x), (0, y), (0, (Xn K2)), (0, ((x * (Xn K2)) + y)), (0, (Xsg K x)), (0, 0)]) ⟨Or.inl rfl, ⟨Or.inl rfl, ⟨Or.inl rfl, ⟨Or.inl rfl, ⟨Or.inl rfl, ⟨Or.inl rfl, ⟨Or.inl rfl, ⟨Or.inl rfl, ⟨Or.inl rfl, trivial⟩⟩⟩⟩⟩⟩⟩⟩⟩ ?_
          refine L75 ((Xn K2 - (0)).toNat + 1) (S1) (Ka) (0) (Nat.lt_succ_self _) ?_ ?_ ?_ ?_ ?_
          · omega
          · exact hM
          · exact hs
          · have e : i = Xn K := by omega
            rw [e] at hI
            exact hI.b
          · exact hF
        ·
          refine R_lo (nx := 46) rfl rfl rfl rfl ?_
          refine R_lo (nx := 48) rfl rfl rfl rfl ?_
          refine R_lo (nx := 50) rfl rfl rfl rfl ?_
          refine R_lo (nx := 52) rfl rfl rfl rfl ?_
          refine R_imul (nx := 53) (z := (i * (Xn K2))) rfl rfl rfl ⟨by have := hsz1 ⟨by omega, by omega⟩; omega, by have := hsz1 ⟨by omega, by omega⟩; omega⟩ ?_
          refine R_lo (nx := 55) rfl rfl rfl rfl ?_
          refine R_iadd (nx := 56) (z := ((i * (Xn K2)) + y)) rfl rfl rfl ⟨by have := hsz1 ⟨by omega, by omega⟩; omega, by have := hsz1 ⟨by omega, by omega⟩; omega⟩ ?_
          refine R_lo (nx := 57) rfl rfl rfl rfl ?_
          refine R_lo (nx := 58) rfl rfl rfl rfl ?_
          refine R_lo (nx := 60) rfl rfl rfl rfl ?_
          refine R_call1 (nx := 63) (as := [(2, b), (0, x), (0, i)]) (rest := [(0, ((i * (Xn K2)) + y)), (0, ((x * (Xn K2)) + y)), (2, 3)]) rfl rfl (fun _ _ => rfl) rfl rfl rfl rfl rfl rfl (isC_rc hB _) rfl (Cl.mono (c_C_edge S1 b hB K (by first | assumption | exact MC.up (by assumption) (by omega) | exact MC.up (MC.up (by assumption) (by omega)) (by omega) | exact MC.up (MC.up (MC.up (by assumption) (by omega)) (by omega)) (by omega)) x i) ?_)
          rintro _ _ ⟨rfl, rfl⟩
          refine ⟨_, rfl, ?_⟩
          refine R_call0 (nx := 66) (as := [(2, 3), (0, ((x * (Xn K2)) + y)), (0, ((i * (Xn K2)) + y)), (0, (Xe K x i))]) (rest := []) rfl rfl (fun _ _ => rfl) rfl rfl rfl rfl rfl rfl rfl rfl (Cl.mono (c_C_setEdge S1 3 isC_3 Ka (by first | assumption | exact MC.up (by assumption) (by omega) | exact MC.up (MC.up (by assumption) (by omega)) (by omega) | exact MC.up (MC.up (MC.up (by assumption) (by omega)) (by omega)) (by omega)) ((x * (Xn K2)) + y) ((i * (Xn K2)) + y) (Xe K x i)) ?_)
          rintro _ S63 ⟨rfl, m63, f63⟩
          try have m_f63 : MC S63 b K := MC.fr (by first | assumption | exact MC.up (by assumption) (by omega) | exact MC.up (MC.up (by assumption) (by omega)) (by omega) | exact MC.up (MC.up (MC.up (by assumption) (by omega)) (by omega)) (by omega)) (fun c p q => f63 c (by omega))
          try have m_f63 : MC S63 c K2 := MC.fr (by first | assumption | exact MC.up (by assumption) (by omega) | exact MC.up (MC.up (by assumption) (by omega)) (by omega) | exact MC.up (MC.up (MC.up (by assumption) (by omega)) (by omega)) (by omega)) (fun c p q => f63 c (by omega))
          refine ⟨rfl, ?_⟩
          refine R_iinc (nx := 69) (z := (i + 1)) (ls' := [(2, 3), (2, b), (2, c), (0, x), (0, y), (0, (Xn K2)), (0, ((x * (Xn K2)) + y)), (0, (Xsg K x)), (0, (i + 1))]) rfl rfl rfl rfl ⟨by omega, by omega⟩ rfl ?_
          refine R_op (nx := 72) (pc' := 36) rfl rfl rfl ?_
          refine Rn.weak (ls' := [(2, 3), (2, b), (2, c), (0, x), (0, y), (0, (Xn K2)), (0, ((x * (Xn K2)) + y)), (0, (Xsg K x)), (0, (i + 1))]) ⟨Or.inl rfl, ⟨Or.inl rfl, ⟨Or.inl rfl, ⟨Or.inl rfl, ⟨Or.inl rfl, ⟨Or.inl rfl, ⟨Or.inl rfl, ⟨Or.inl rfl, ⟨Or.inl rfl, trivial⟩⟩⟩⟩⟩⟩⟩⟩⟩ ?_
          refine ih36 (S63) ((Xset Ka ((x * (Xn K2)) + y) ((i * (Xn K2)) + y) (Xe K x i))) ((i + 1)) ?_ ?_ ?_ ?_ ?_ ?_
          · omega
          · omega
          · exact m63
          · exact hs
          · exact PEa.nx (hKn.trans hn1) hx hy (by omega) hI
          · intro e he; rw [f63 e (by omega)]; exact hF e he
    refine Rn.weak (ls' := [(2, 3), (2, b), (2, c), (0, x), (0, y), (0, (Xn K2)), (0, ((x * (Xn K2)) + y)), (0, (Xsg K x)), (0, 0)]) ⟨Or.inl rfl, ⟨Or.inl rfl, ⟨Or.inl rfl, ⟨Or.inl rfl, ⟨Or.inl rfl, ⟨Or.inl rfl, ⟨Or.inl rfl, ⟨Or.inl rfl, ⟨Or.inl rfl, trivial⟩⟩⟩⟩⟩⟩⟩⟩⟩ ?_
    refine L36 ((Xn K - (0)).toNat + 1) (S) (K1) (0) (Nat.lt_succ_self _) ?_ ?_ ?_ ?_ ?_
    · omega
    · exact h1
    · exact ⟨rfl, fun _ => rfl, fun _ => rfl, fun _ => rfl⟩
    · exact PEa.st hz
    · intro e he; rfl
  ·
    replace c23 := Classical.not_not.mp c23
    refine R_op (nx := 27) rfl rfl rfl ?_
    refine R_op (nx := 30) (pc' := 31) rfl rfl rfl ?_
    refine R_cv (w := (Xsg K x)) (by unfold Xsg; first | rw [if_pos (by omega)] | rw [if_neg (by omega)]) ?_
    refine R_lo (nx := 33) (ls' := [(2, 3), (2, b), (2, c), (0, x), (0, y), (0, (Xn K2)), (0, ((x * (Xn K2)) + y)), (0, (Xsg K x)), (9, 0)]) rfl rfl rfl rfl ?_
    refine R_op (nx := 34) rfl rfl rfl ?_
    refine R_lo (nx := 36) (ls' := [(2, 3), (2, b), (2, c), (0, x), (0, y), (0, (Xn K2)), (0, ((x * (Xn K2)) + y)), (0, (Xsg K x)), (0, 0)]) rfl rfl rfl rfl ?_
    have L36 : ∀ (f36 : Nat) (S1 : mm_S) (Ka : CX) (i : Int), (Xn K - i).toNat < f36 → (0 ≤ i ∧ i ≤ Xn K) → (MC S1 3 Ka) → (Xsame K1 Ka) → (PEa K K2 K1 Ka x y i) → (∀ e, ¬ (3 ≤ e ∧ e ≤ 7) → S1 e = S e) → Rn k_C_setProductEdge 36 [(2, 3), (2, b), (2, c), (0, x), (0, y), (0, (Xn K2)), (0, ((x * (Xn K2)) + y)), (0, (Xsg K x)), (0, i)] [] S1 (fun v S' => v = none ∧ ∃ K', MC S' 3 K' ∧ Xsame K1 K' ∧ (∀ x1 y1 x2 y2, (0 ≤ x1 ∧ x1 < Xn K) → (0 ≤ y1 ∧ y1 < Xn K2) → (0 ≤ x2 ∧ x2 < Xn K) → (0 ≤ y2 ∧ y2 < Xn K2) → Xe K' (x1 * Xn K2 + y1) (x2 * Xn K2 + y2) = if x1 = x ∧ y1 = y then Xpe K K2 x y x2 y2 else Xe K1 (x1 * Xn K2 + y1) (x2 * Xn K2 + y2)) ∧ ∀ e, ¬ (3 ≤ e ∧ e ≤ 7) → S' e = S e) := by
      intro f36
      induction f36 with
      | zero => intro S1 Ka i hm36; exact absurd hm36 (Nat.not_lt_zero _)
      | succ f36 ih36 =>
        intro S1 Ka i hm36 hi hM hs hI hF
        have hb1 : MC S1 b K := h.fr fun e p q => hF e (by omega)
        have hc1 : MC S1 c K2 := h2.fr fun e p q => hF e (by omega)
        have hbn := hb1.n
        have hcn := hc1.n
        have hsz := prng hx hy
        have hKn := hs.1
        have hsz1 := fun q => prng (x := i) (y := y) (n := Xn K) (m := Xn K2) q hy
        refine R_lo (nx := 38) rfl rfl rfl rfl ?_
        refine R_lo (nx := 39) rfl rfl rfl rfl ?_
        refine R_get (nx := 42) (w := (0, (S1 b 0))) rfl rfl (isC_ob hB) rfl ?_
        refine R_icmp (nx := 45) (tg := 72) rfl rfl rfl (mm_cnd_ge _ _) (fun c42_1 => ?_) (fun c42_1 => ?_)
        ·
          refine R_op (nx := 73) rfl rfl rfl ?_
          refine R_lo (nx := 75) (ls' := [(2, 3), (2, b), (2, c), (0, x), (0, y), (0, (Xn K2)), (0, ((x * (Xn K2)) + y)), (0, (Xsg K x)), (0, 0)]) rfl rfl rfl rfl ?_
          have L75 : ∀ (f75 : Nat) (S1 : mm_S) (Ka : CX) (i : Int), (Xn K2 - i).toNat < f75 → (0 ≤ i ∧ i ≤ Xn K2) → (MC S1 3 Ka) → (Xsame K1 Ka) → (PEb K K2 K1 Ka x y i) → (∀ e, ¬ (3 ≤ e ∧ e ≤ 7) → S1 e = S e) → Rn k_C_setProductEdge 75 [(2, 3), (2, b), (2, c), (0, x), (0, y), (0, (Xn K2)), (0, ((x * (Xn K2)) + y)), (0, (Xsg K x)), (0, i)] [] S1 (fun v S' => v = none ∧ ∃ K', MC S' 3 K' ∧ Xsame K1 K' ∧ (∀ x1 y1 x2 y2, (0 ≤ x1 ∧ x1 < Xn K) → (0 ≤ y1 ∧ y1 < Xn K2) → (0 ≤ x2 ∧ x2 < Xn K) → (0 ≤ y2 ∧ y2 < Xn K2) → Xe K' (x1 * Xn K2 + y1) (x2 * Xn K2 + y2) = if x1 = x ∧ y1 = y then Xpe K K2 x y x2 y2 else Xe K1 (x1 * Xn K2 + y1) (x2 * Xn K2 + y2)) ∧ ∀ e, ¬ (3 ≤ e ∧ e ≤ 7) → S' e = S e) := by
            intro f75
            induction f75 with
            | zero => intro S1 Ka i hm75; exact absurd hm75 (Nat.not_lt_zero _)
            | succ f75 ih75 =>
              intro S1 Ka i hm75 hi hM hs hI hF
              have hb1 : MC S1 b K := h.fr fun e p q => hF e (by omega)
              have hc1 : MC S1 c K2 := h2.fr fun e p q => hF e (by omega)
              have hbn := hb1.n
              have hcn := hc1.n
              have hsz := prng hx hy
              have hKn := hs.1
              have hsz1 := fun q => prng (x := x) (y := i) (n := Xn K) (m := Xn K2) hx q
              have hsb := Xsg_c K x
              refine R_lo (nx := 77) rfl rfl rfl rfl ?_
              refine R_lo (nx := 79) rfl rfl rfl rfl ?_
              refine R_icmp (nx := 82) (tg := 112) rfl rfl rfl (mm_cnd_ge _ _) (fun c79_1 => ?_) (fun c79_1 => ?_)
              ·
                refine R_ret rfl (fun _ _ => rfl) rfl rfl ?_
                have e : i = Xn K2 := by omega
                rw [e] at hI
                exact ⟨rfl, _, hM, hs, PEb.fin hV hI, hF⟩
              ·
                refine R_lo (nx := 83) rfl rfl rfl rfl ?_
                refine R_lo (nx := 85) rfl rfl rfl rfl ?_
                refine R_lo (nx := 86) rfl rfl rfl rfl ?_
                refine R_lo (nx := 88) rfl rfl rfl rfl ?_
                refine R_imul (nx := 89) (z := (x * (Xn K2))) rfl rfl rfl ⟨by omega, by omega⟩ ?_
                refine R_lo (nx := 91) rfl rfl rfl rfl ?_
                refine R_iadd (nx := 92) (z := ((x * (Xn K2)) + i)) rfl rfl rfl ⟨by omega, by omega⟩ ?_
                refine R_lo (nx := 94) rfl rfl rfl rfl ?_
                refine R_lo (nx := 95) rfl rfl rfl rfl ?_
                refine R_lo (nx := 97) rfl rfl rfl rfl ?_
                refine R_lo (nx := 99) rfl rfl rfl rfl ?_
                refine R_call1 (nx := 102) (as := [(2, c), (0, y), (0, i)]) (rest := [(0, (Xsg K x)), (0, ((x * (Xn K2)) + i)), (0, ((x * (Xn K2)) + y)), (2, 3)]) rfl rfl (fun _ _ => rfl) rfl rfl rfl rfl rfl rfl (isC_rc hC _) rfl (Cl.mono (c_C_edge S1 c hC K2 (by first | assumption | exact MC.up (by assumption) (by omega) | exact MC.up (MC.up (by assumption) (by omega)) (by omega) | exact MC.up (MC.up (MC.up (by assumption) (by omega)) (by omega)) (by omega)) y i) ?_)
                rintro _ _ ⟨rfl, rfl⟩
                refine ⟨_, rfl, ?_⟩
                refine R_imul (nx := 103) (z := ((Xsg K x) * (Xe K2 y i))) rfl rfl rfl (by have := hR2.e y i; rcases hsb with q | q <;> rw [q] <;> exact ⟨by omega, by omega⟩) ?_
                refine R_call0 (nx := 106) (as := [(2, 3), (0, ((x * (Xn K2)) + y)), (0, ((x * (Xn K2)) + i)), (0, ((Xsg K x) * (Xe K2 y i)))]) (rest := []) rfl rfl (fun _ _ => rfl) rfl rfl rfl rfl rfl rfl rfl rfl (Cl.mono (c_C_setEdge S1 3 isC_3 Ka (by first | assumption | exact MC.up (by assumption) (by omega) | exact MC.up (MC.up (by assumption) (by omega)) (by omega) | exact MC.up (MC.up (MC.up (by assumption) (by omega)) (by omega)) (by omega)) ((x * (Xn K2)) + y) ((x * (Xn K2)) + i) ((Xsg K x) * (Xe K2 y i))) ?_)
                rintro _ S103_1 ⟨rfl, m103_1, f103_1⟩
                try have m_f103_1 : MC S103_1 b K := MC.fr (by first | assumption | exact MC.up (by assumption) (by omega) | exact MC.up (MC.up (by assumption) (by omega)) (by omega) | exact MC.up (MC.up (MC.up (by assumption) (by omega)) (by omega)) (by omega)) (fun c p q => f103_1 c (by omega))
                try have m_f103_1 : MC S103_1 c K2 := MC.fr (by first | assumption | exact MC.up (by assumption) (by omega) | exact MC.up (MC.up (by assumption) (by omega)) (by omega) | exact MC.up (MC.up (MC.up (by assumption) (by omega)) (by omega)) (by omega)) (fun c p q => f103_1 c (by omega))
                refine ⟨rfl, ?_⟩
                refine R_iinc (nx := 109) (z := (i + 1)) (ls' := [(2, 3), (2, b), (2, c), (0, x), (0, y), (0, (Xn K2)), (0, ((x * (Xn K2)) + y)), (0, (Xsg K x)), (0, (i + 1))]) rfl rfl rfl rfl ⟨by omega, by omega⟩ rfl ?_
                refine R_op (nx := 112) (pc' := 75) rfl rfl rfl ?_
                refine Rn.weak (ls' := [(2, 3), (2, b), (2, c), (0, x), (0, y), (0, (Xn K2)), (0, ((x * (Xn K2)) + y)), (0, (Xsg K x)), (0, (i + 1))]) ⟨Or.inl rfl, ⟨Or.inl rfl, ⟨Or.inl rfl, ⟨Or.inl rfl, ⟨Or.inl rfl, ⟨Or.inl rfl, ⟨Or.inl rfl, ⟨Or.inl rfl, ⟨Or.inl rfl, trivial⟩⟩⟩⟩⟩⟩⟩⟩⟩ ?_
                refine ih75 (S103_1) ((Xset Ka ((x * (Xn K2)) + y) ((x * (Xn K2)) + i) ((Xsg K x) * (Xe K2 y i)))) ((i + 1)) ?_ ?_ ?_ ?_ ?_ ?_
                · omega
                · omega
                · exact m103_1
                · exact hs
                · exact PEb.nx (hKn.trans hn1) hx hy (by omega) hI
                · intro e he; rw [f103_1 e (by omega)]; exact hF e he
          refine Rn.weak (ls' := [(2, 3), (2, b), (2, c), (0, x), (0, y), (0, (Xn K2)), (0, ((x * (Xn K2)) + y)), (0, (Xsg K x)), (0, 0)]) ⟨Or.inl rfl, ⟨Or.inl rfl, ⟨Or.inl rfl, ⟨Or.inl rfl, ⟨Or.inl rfl, ⟨Or.inl rfl, ⟨Or.inl rfl, ⟨Or.inl rfl, ⟨Or.inl rfl, trivial⟩⟩⟩⟩⟩⟩⟩⟩⟩ ?_
          refine L75 ((Xn K2 - (0)).toNat + 1) (S1) (Ka) (0) (Nat.lt_succ_self _) ?_ ?_ ?_ ?_ ?_
          · omega
          · exact hM
          · exact hs
          · have e : i = Xn K := by omega
            rw [e] at hI
            exact hI.b
          · exact hF
        ·
          refine R_lo (nx := 46) rfl rfl rfl rfl ?_
          refine R_lo (nx := 48) rfl rfl rfl rfl ?_
          refine R_lo (nx := 50) rfl rfl rfl rfl ?_
          refine R_lo (nx := 52) rfl rfl rfl rfl ?_
          refine R_imul (nx := 53) (z := (i * (Xn K2))) rfl rfl rfl ⟨by have := hsz1 ⟨by omega, by omega⟩; omega, by have := hsz1 ⟨by omega, by omega⟩; omega⟩ ?_
          refine R_lo (nx := 55) rfl rfl rfl rfl ?_
          refine R_iadd (nx := 56) (z := ((i * (Xn K2)) + y)) rfl rfl rfl ⟨by have := hsz1 ⟨by omega, by omega⟩; omega, by have := hsz1 ⟨by omega, by omega⟩; omega⟩ ?_
          refine R_lo (nx := 57) rfl rfl rfl rfl ?_
          refine R_lo (nx := 58) rfl rfl rfl rfl ?_
          refine R_lo (nx := 60) rfl rfl rfl rfl ?_
          refine R_call1 (nx := 63) (as := [(2, b), (0, x), (0, i)]) (rest := [(0, ((i * (Xn K2)) + y)), (0, ((x * (Xn K2)) + y)), (2, 3)]) rfl rfl (fun _ _ => rfl) rfl rfl rfl rfl rfl rfl (isC_rc hB _) rfl (Cl.mono (c_C_edge S1 b hB K (by first | assumption | exact MC.up (by assumption) (by omega) | exact MC.up (MC.up (by assumption) (by omega)) (by omega) | exact MC.up (MC.up (MC.up (by assumption) (by omega)) (by omega)) (by omega)) x i) ?_)
          rintro _ _ ⟨rfl, rfl⟩
          refine ⟨_, rfl, ?_⟩
          refine R_call0 (nx := 66) (as := [(2, 3), (0, ((x * (Xn K2)) + y)), (0, ((i * (Xn K2)) + y)), (0, (Xe K x i))]) (rest := []) rfl rfl (fun _ _ => rfl) rfl rfl rfl rfl rfl rfl rfl rfl (Cl.mono (c_C_setEdge S1 3 isC_3 Ka (by first | assumption | exact MC.up (by assumption) (by omega) | exact MC.up (MC.up (by assumption) (by omega)) (by omega) | exact MC.up (MC.up (MC.up (by assumption) (by omega)) (by omega)) (by omega)) ((x * (Xn K2)) + y) ((i * (Xn K2)) + y) (Xe K x i)) ?_)
          rintro _ S63_1 ⟨rfl, m63_1, f63_1⟩
          try have m_f63_1 : MC S63_1 b K := MC.fr (by first | assumption | exact MC.up (by assumption) (by omega) | exact MC.up (MC.up (by assumption) (by omega)) (by omega) | exact MC.up (MC.up (MC.up (by assumption) (by omega)) (by omega)) (by omega)) (fun c p q => f63_1 c (by omega))
          try have m_f63_1 : MC S63_1 c K2 := MC.fr (by first | assumption | exact MC.up (by assumption) (by omega) | exact MC.up (MC.up (by assumption) (by omega)) (by omega) | exact MC.up (MC.up (MC.up (by assumption) (by omega)) (by omega)) (by omega)) (fun c p q => f63_1 c (by omega))
          refine ⟨rfl, ?_⟩
          refine R_iinc (nx := 69) (z := (i + 1)) (ls' := [(2, 3), (2, b), (2, c), (0, x), (0, y), (0, (Xn K2)), (0, ((x * (Xn K2)) + y)), (0, (Xsg K x)), (0, (i + 1))]) rfl rfl rfl rfl ⟨by omega, by omega⟩ rfl ?_
          refine R_op (nx := 72) (pc' := 36) rfl rfl rfl ?_
          refine Rn.weak (ls' := [(2, 3), (2, b), (2, c), (0, x), (0, y), (0, (Xn K2)), (0, ((x * (Xn K2)) + y)), (0, (Xsg K x)), (0, (i + 1))]) ⟨Or.inl rfl, ⟨Or.inl rfl, ⟨Or.inl rfl, ⟨Or.inl rfl, ⟨Or.inl rfl, ⟨Or.inl rfl, ⟨Or.inl rfl, ⟨Or.inl rfl, ⟨Or.inl rfl, trivial⟩⟩⟩⟩⟩⟩⟩⟩⟩ ?_
          refine ih36 (S63_1) ((Xset Ka ((x * (Xn K2)) + y) ((i * (Xn K2)) + y) (Xe K x i))) ((i + 1)) ?_ ?_ ?_ ?_ ?_ ?_
          · omega
          · omega
          · exact m63_1
          · exact hs
          · exact PEa.nx (hKn.trans hn1) hx hy (by omega) hI
          · intro e he; rw [f63_1 e (by omega)]; exact hF e he
    refine Rn.weak (ls' := [(2, 3), (2, b), (2, c), (0, x), (0, y), (0, (Xn K2)), (0, ((x * (Xn K2)) + y)), (0, (Xsg K x)), (0, 0)]) ⟨Or.inl rfl, ⟨Or.inl rfl, ⟨Or.inl rfl, ⟨Or.inl rfl, ⟨Or.inl rfl, ⟨Or.inl rfl, ⟨Or.inl rfl, ⟨Or.inl rfl, ⟨Or.inl rfl, trivial⟩⟩⟩⟩⟩⟩⟩⟩⟩ ?_
    refine L36 ((Xn K - (0)).toNat + 1) (S) (K1) (0) (Nat.lt_succ_self _) ?_ ?_ ?_ ?_ ?_
    · omega
    · exact h1
    · exact ⟨rfl, fun _ => rfl, fun _ => rfl, fun _ => rfl⟩
    · exact PEa.st hz
    · intro e he; rfl

def PA (K K2 K1 : CX) (t : Int) : Prop := Xn K1 = t ∧ (∀ x y, (0 ≤ x ∧ x < Xn K) → (0 ≤ y ∧ y < Xn K2) → x * Xn K2 + y < t → Xd K1 (x * Xn K2 + y) = Xd K x + Xd K2 y ∧ X0 K1 (x * Xn K2 + y) = X0 K x + X0 K2 y ∧ X1 K1 (x * Xn K2 + y) = X1 K x + X1 K2 y) ∧ ∀ i j, Xe K1 i j = 0
theorem PA.add {K K2 K1 : CX} {x y : Int} (h : PA K K2 K1 (x * Xn K2 + y)) (hx : 0 ≤ x ∧ x < Xn K) (hy : 0 ≤ y ∧ y < Xn K2) : PA K K2 (Xadd K1 (Xd K x + Xd K2 y) (Xl K 0 x + Xl K2 0 y) (Xl K 1 x + Xl K2 1 y)) (x * Xn K2 + (y + 1)) := by
  obtain ⟨a, b, c⟩ := h
  refine ⟨by rw [Xadd_n, a]; omega, fun x1 y1 h1 h2 h3 => ?_, c⟩
  rw [Xadd_d, Xadd_0, Xadd_1, a]
  by_cases e : x1 * Xn K2 + y1 = x * Xn K2 + y
  · rw [if_pos e, if_pos e, if_pos e]
    obtain ⟨rfl, rfl⟩ := (pinj h2 hy).mp e
    exact ⟨rfl, rfl, rfl⟩
  · rw [if_neg e, if_neg e, if_neg e]
    exact b x1 y1 h1 h2 (by omega)
theorem PA.z {K K2 : CX} (hn : 0 ≤ Xn K2) : PA K K2 Xz (0 * Xn K2) := ⟨(Int.zero_mul _).symm, fun x y h1 h2 h3 => by have := prng h1 h2; omega, fun _ _ => rfl⟩
theorem PA.nx {K K2 K1 : CX} {x y : Int} (h : PA K K2 K1 (x * Xn K2 + y)) (hy : y = Xn K2) : PA K K2 K1 ((x + 1) * Xn K2) := by
  rw [Int.add_mul, Int.one_mul]; rw [hy] at h; exact h
def PB (K K2 K1 : CX) (x y : Int) : Prop := Xn K1 = Xn K * Xn K2 ∧ (∀ x y, (0 ≤ x ∧ x < Xn K) → (0 ≤ y ∧ y < Xn K2) → Xd K1 (x * Xn K2 + y) = Xd K x + Xd K2 y ∧ X0 K1 (x * Xn K2 + y) = X0 K x + X0 K2 y ∧ X1 K1 (x * Xn K2 + y) = X1 K x + X1 K2 y) ∧ ∀ x1 y1 x2 y2, (0 ≤ x1 ∧ x1 < Xn K) → (0 ≤ y1 ∧ y1 < Xn K2) → (0 ≤ x2 ∧ x2 < Xn K) → (0 ≤ y2 ∧ y2 < Xn K2) → Xe K1 (x1 * Xn K2 + y1) (x2 * Xn K2 + y2) = if x1 < x ∨ (x1 = x ∧ y1 < y) then Xpe K K2 x1 y1 x2 y2 else 0
theorem PA.b {K K2 K1 : CX} {x : Int} (h : PA K K2 K1 (x * Xn K2)) (hx : x = Xn K) : PB K K2 K1 0 0 := by
  subst hx
  obtain ⟨a, b, c⟩ := h
  refine ⟨a, fun x y h1 h2 => b x y h1 h2 (prng h1 h2).2, fun x1 y1 x2 y2 h1 h2 h3 h4 => ?_⟩
  rw [if_neg (by omega)]
  exact c _ _
theorem PB.nx {K K2 K1 : CX} {x y : Int} (h : PB K K2 K1 x y) (hy : y = Xn K2) : PB K K2 K1 (x + 1) 0 := by
  obtain ⟨a, b, c⟩ := h
  refine ⟨a, b, fun x1 y1 x2 y2 h1 h2 h3 h4 => ?_⟩
  rw [c x1 y1 x2 y2 h1 h2 h3 h4]
  exact ifc (by omega) rfl rfl
theorem PB.z {K K2 K1 : CX} {x y : Int} (h : PB K K2 K1 x y) (hx : 0 ≤ x ∧ x < Xn K) (hy : 0 ≤ y ∧ y < Xn K2) (x2 y2 : Int) (h1 : 0 ≤ x2 ∧ x2 < Xn K) (h2 : 0 ≤ y2 ∧ y2 < Xn K2) : Xe K1 (x * Xn K2 + y) (x2 * Xn K2 + y2) = 0 := by
  rw [h.2.2 x y x2 y2 hx hy h1 h2, if_neg (by omega)]
theorem PB.st {K K2 K1 Ka : CX} {x y : Int} (h : PB K K2 K1 x y) (hs : Xsame K1 Ka) (he : ∀ x1 y1 x2 y2, (0 ≤ x1 ∧ x1 < Xn K) → (0 ≤ y1 ∧ y1 < Xn K2) → (0 ≤ x2 ∧ x2 < Xn K) → (0 ≤ y2 ∧ y2 < Xn K2) → Xe Ka (x1 * Xn K2 + y1) (x2 * Xn K2 + y2) = if x1 = x ∧ y1 = y then Xpe K K2 x y x2 y2 else Xe K1 (x1 * Xn K2 + y1) (x2 * Xn K2 + y2)) : PB K K2 Ka x (y + 1) := by
  obtain ⟨a, b, c⟩ := h
  obtain ⟨s1, s2, s3, s4⟩ := hs
  refine ⟨s1.trans a, fun x y h1 h2 => by rw [s2, s3, s4]; exact b x y h1 h2, fun x1 y1 x2 y2 h1 h2 h3 h4 => ?_⟩
  rw [he x1 y1 x2 y2 h1 h2 h3 h4, c x1 y1 x2 y2 h1 h2 h3 h4]
  by_cases e : x1 = x ∧ y1 = y
  · rw [if_pos e, if_pos (by omega), e.1, e.2]
  · rw [if_neg e]
    exact ifc (by omega) rfl rfl
theorem PB.fin {K K2 K1 : CX} {x : Int} (h : PB K K2 K1 x 0) (hx : x = Xn K) (hz : Nz K1) : isProd K K2 K1 := ⟨hz, h.1, h.2.1, fun x1 y1 x2 y2 h1 h2 h3 h4 => by rw [h.2.2 x1 y1 x2 y2 h1 h2 h3 h4, if_pos (by omega)]⟩

set_option maxRecDepth 20000 in
set_option maxHeartbeats 4000000 in
theorem c_C_becomeProduct (S : mm_S) (b : Int) (hB : mm_isC b) (K : CX) (h : MC S b K) (c : Int) (hC : mm_isC c) (K2 : CX) (h2 : MC S c K2) (hb : 7 < b) (hc : 7 < c) (hV : Vx K) (hV2 : Vx K2) (hf : Xn K * Xn K2 ≤ 12) : Cl 138 [(2, 3), (2, b), (2, c)] S (fun v S' => v = none ∧ ∃ K', MC S' 3 K' ∧ isProd K K2 K' ∧ ∀ e, ¬ (3 ≤ e ∧ e ≤ 7) → S' e = S e) := by
  refine ⟨Nat.le_of_ble_eq_true rfl, ?_⟩
  show Rn k_C_becomeProduct 0 [(2, 3), (2, b), (2, c), (9, 0), (9, 0)] [] S _
  have hR := hV.2.1
  have hR2 := hV2.2.1
  have hnr := h.nr
  have hnr2 := h2.nr
  have hn := h.n
  have hn2 := h2.n
  refine R_lo (nx := 1) rfl rfl rfl rfl ?_
  refine R_call0 (nx := 4) (as := [(2, 3)]) (rest := []) rfl rfl (fun _ _ => rfl) rfl rfl rfl rfl rfl rfl rfl rfl (Cl.mono (c_C_empty S 3 isC_3) ?_)
  rintro _ S1 ⟨rfl, m1, f1⟩
  try have m_f1 : MC S1 b K := MC.fr (by first | assumption | exact MC.up (by assumption) (by omega) | exact MC.up (MC.up (by assumption) (by omega)) (by omega) | exact MC.up (MC.up (MC.up (by assumption) (by omega)) (by omega)) (by omega)) (fun c p q => f1 c (by omega))
  try have m_f1 : MC S1 c K2 := MC.fr (by first | assumption | exact MC.up (by assumption) (by omega) | exact MC.up (MC.up (by assumption) (by omega)) (by omega) | exact MC.up (MC.up (MC.up (by assumption) (by omega)) (by omega)) (by omega)) (fun c p q => f1 c (by omega))
  refine ⟨rfl, ?_⟩
  refine R_op (nx := 5) rfl rfl rfl ?_
  refine R_lo (nx := 6) (ls' := [(2, 3), (2, b), (2, c), (0, 0), (9, 0)]) rfl rfl rfl rfl ?_
  have L6 : ∀ (f6 : Nat) (S1 : mm_S) (Ka : CX) (x : Int), (Xn K - x).toNat < f6 → (0 ≤ x ∧ x ≤ Xn K) → (MC S1 3 Ka) → (PA K K2 Ka (x * Xn K2)) → (∀ e, ¬ (3 ≤ e ∧ e ≤ 7) → S1 e = S e) → Rn k_C_becomeProduct 6 [(2, 3), (2, b), (2, c), (0, x), (9, 0)] [] S1 (fun v S' => v = none ∧ ∃ K', MC S' 3 K' ∧ isProd K K2 K' ∧ ∀ e, ¬ (3 ≤ e ∧ e ≤ 7) → S' e = S e) := by
    intro f6
    induction f6 with
    | zero => intro S1 Ka x hm6; exact absurd hm6 (Nat.not_lt_zero _)
    | succ f6 ih6 =>
      intro S1 Ka x hm6 hx hM hI hF
      have hb1 : MC S1 b K := h.fr fun e p q => hF e (by omega)
      have hc1 : MC S1 c K2 := h2.fr fun e p q => hF e (by omega)
      have hbn := hb1.n
      have hcn := hc1.n
      refine R_lo (nx := 7) rfl rfl rfl rfl ?_
      refine R_lo (nx := 8) rfl rfl rfl rfl ?_
      refine R_get (nx := 11) (w := (0, (S1 b 0))) rfl rfl (isC_ob hB) rfl ?_
      refine R_icmp (nx := 14) (tg := 83) rfl rfl rfl (mm_cnd_ge _ _) (fun c11 => ?_) (fun c11 => ?_)
      ·
        refine R_op (nx := 84) rfl rfl rfl ?_
        refine R_lo (nx := 85) (ls' := [(2, 3), (2, b), (2, c), (0, 0), (9, 0)]) rfl rfl rfl rfl ?_
        have L85 : ∀ (f85 : Nat) (S1 : mm_S) (Ka : CX) (x : Int), (Xn K - x).toNat < f85 → (0 ≤ x ∧ x ≤ Xn K) → (MC S1 3 Ka) → (PB K K2 Ka x 0) → (∀ e, ¬ (3 ≤ e ∧ e ≤ 7) → S1 e = S e) → Rn k_C_becomeProduct 85 [(2, 3), (2, b), (2, c), (0, x), (9, 0)] [] S1 (fun v S' => v = none ∧ ∃ K', MC S' 3 K' ∧ isProd K K2 K' ∧ ∀ e, ¬ (3 ≤ e ∧ e ≤ 7) → S' e = S e) := by
          intro f85
          induction f85 with
          | zero => intro S1 Ka x hm85; exact absurd hm85 (Nat.not_lt_zero _)
          | succ f85 ih85 =>
            intro S1 Ka x hm85 hx hM hI hF
            have hb1 : MC S1 b K := h.fr fun e p q => hF e (by omega)
            have hc1 : MC S1 c K2 := h2.fr fun e p q => hF e (by omega)
            have hbn := hb1.n
            have hcn := hc1.n
            refine R_lo (nx := 86) rfl rfl rfl rfl ?_
            refine R_lo (nx := 87) rfl rfl rfl rfl ?_
            refine R_get (nx := 90) (w := (0, (S1 b 0))) rfl rfl (isC_ob hB) rfl ?_
            refine R_icmp (nx := 93) (tg := 126) rfl rfl rfl (mm_cnd_ge _ _) (fun c90 => ?_) (fun c90 => ?_)
            ·
              refine R_ret rfl (fun _ _ => rfl) rfl rfl ?_
              exact ⟨rfl, _, hM, hI.fin (by omega) hM.1, hF⟩
            ·
              refine R_op (nx := 94) rfl rfl rfl ?_
              refine R_lo (nx := 96) (ls' := [(2, 3), (2, b), (2, c), (0, x), (0, 0)]) rfl rfl rfl rfl ?_
              have L96 : ∀ (f96 : Nat) (S2 : mm_S) (Kb : CX) (y : Int), (Xn K2 - y).toNat < f96 → (0 ≤ y ∧ y ≤ Xn K2) → (MC S2 3 Kb) → (PB K K2 Kb x y) → (∀ e, ¬ (3 ≤ e ∧ e ≤ 7) → S2 e = S e) → Rn k_C_becomeProduct 96 [(2, 3), (2, b), (2, c), (0, x), (0, y)] [] S2 (fun v S' => v = none ∧ ∃ K', MC S' 3 K' ∧ isProd K K2 K' ∧ ∀ e, ¬ (3 ≤ e ∧ e ≤ 7) → S' e = S e) := by
                intro f96
                induction f96 with
                | zero => intro S2 Kb y hm96; exact absurd hm96 (Nat.not_lt_zero _)
                | succ f96 ih96 =>
                  intro S2 Kb y hm96 hy hN hJ hG
                  have hb2 : MC S2 b K := h.fr fun e p q => hG e (by omega)
                  have hc2 : MC S2 c K2 := h2.fr fun e p q => hG e (by omega)
                  have hbn2 := hb2.n
                  have hcn2 := hc2.n
                  have hxx : 0 ≤ x ∧ x < Xn K := by omega
                  refine R_lo (nx := 98) rfl rfl rfl rfl ?_
                  refine R_lo (nx := 99) rfl rfl rfl rfl ?_
                  refine R_get (nx := 102) (w := (0, (S2 c 0))) rfl rfl (isC_ob hC) rfl ?_
                  refine R_icmp (nx := 105) (tg := 120) rfl rfl rfl (mm_cnd_ge _ _) (fun c102 => ?_) (fun c102 => ?_)
                  ·
                    refine R_iinc (nx := 123) (z := (x + 1)) (ls' := [(2, 3), (2, b), (2, c), (0, (x + 1)), (0, y)]) rfl rfl rfl rfl ⟨by omega, by omega⟩ rfl ?_
                    refine R_op (nx := 126) (pc' := 85) rfl rfl rfl ?_
                    refine Rn.weak (ls' := [(2, 3), (2, b), (2, c), (0, (x + 1)), (9, 0)]) ⟨Or.inl rfl, ⟨Or.inl rfl, ⟨Or.inl rfl, ⟨Or.inl rfl, ⟨Or.inr rfl, trivial⟩⟩⟩⟩⟩ ?_
                    refine ih85 (S2) (Kb) ((x + 1)) ?_ ?_ ?_ ?_ ?_
                    · omega
                    · omega
                    · exact hN
                    · exact hJ.nx (by omega)
                    · exact hG
                  ·
                    refine R_lo (nx := 106) rfl rfl rfl rfl ?_
                    refine R_lo (nx := 107) rfl rfl rfl rfl ?_
                    refine R_lo (nx := 108) rfl rfl rfl rfl ?_
                    refine R_lo (nx := 109) rfl rfl rfl rfl ?_
                    refine R_lo (nx := 111) rfl rfl rfl rfl ?_
                    refine R_call0 (nx := 114) (as := [(2, 3), (2, b), (2, c), (0, x), (0, y)]) (rest := []) rfl rfl (fun _ _ => rfl) rfl rfl rfl rfl rfl rfl rfl rfl (Cl.mono (c_C_setProductEdge S2 b hB K (by first | assumption | exact MC.up (by assumption) (by omega) | exact MC.up (MC.up (by assumption) (by omega)) (by omega) | exact MC.up (MC.up (MC.up (by assumption) (by omega)) (by omega)) (by omega)) c hC K2 (by first | assumption | exact MC.up (by assumption) (by omega) | exact MC.up (MC.up (by assumption) (by omega)) (by omega) | exact MC.up (MC.up (MC.up (by assumption) (by omega)) (by omega)) (by omega)) (by omega) (by omega) (by assumption) (by assumption) (by omega) Kb (by first | assumption | exact MC.up (by assumption) (by omega) | exact MC.up (MC.up (by assumption) (by omega)) (by omega) | exact MC.up (MC.up (MC.up (by assumption) (by omega)) (by omega)) (by omega)) hJ.1 x y (by omega) (by omega) (hJ.z hxx (by omega))) ?_)
                    rintro _ S111 ⟨rfl, K111, m111, q111, z111, f111⟩
                    try have m_f111 : MC S111 b K := MC.fr (by first | assumption | exact MC.up (by assumption) (by omega) | exact MC.up (MC.up (by assumption) (by omega)) (by omega) | exact MC.up (MC.up (MC.up (by assumption) (by omega)) (by omega)) (by omega)) (fun c p q => f111 c (by omega))
                    try have m_f111 : MC S111 c K2 := MC.fr (by first | assumption | exact MC.up (by assumption) (by omega) | exact MC.up (MC.up (by assumption) (by omega)) (by omega) | exact MC.up (MC.up (MC.up (by assumption) (by omega)) (by omega)) (by omega)) (fun c p q => f111 c (by omega))
                    refine ⟨rfl, ?_⟩
                    refine R_iinc (nx := 117) (z := (y + 1)) (ls' := [(2, 3), (2, b), (2, c), (0, x), (0, (y + 1))]) rfl rfl rfl rfl ⟨by omega, by omega⟩ rfl ?_
                    refine R_op (nx := 120) (pc' := 96) rfl rfl rfl ?_
                    refine Rn.weak (ls' := [(2, 3), (2, b), (2, c), (0, x), (0, (y + 1))]) ⟨Or.inl rfl, ⟨Or.inl rfl, ⟨Or.inl rfl, ⟨Or.inl rfl, ⟨Or.inl rfl, trivial⟩⟩⟩⟩⟩ ?_
                    refine ih96 (S111) (K111) ((y + 1)) ?_ ?_ ?_ ?_ ?_
                    · omega
                    · omega
                    · exact m111
                    · exact hJ.st q111 z111
                    · intro e he; rw [f111 e (by omega)]; exact hG e he
              refine Rn.weak (ls' := [(2, 3), (2, b), (2, c), (0, x), (0, 0)]) ⟨Or.inl rfl, ⟨Or.inl rfl, ⟨Or.inl rfl, ⟨Or.inl rfl, ⟨Or.inl rfl, trivial⟩⟩⟩⟩⟩ ?_
              refine L96 ((Xn K2 - (0)).toNat + 1) (S1) (Ka) (0) (Nat.lt_succ_self _) ?_ ?_ ?_ ?_
              · omega
              · exact hM
              · exact hI
              · exact hF
        refine Rn.weak (ls' := [(2, 3), (2, b), (2, c), (0, 0), (9, 0)]) ⟨Or.inl rfl, ⟨Or.inl rfl, ⟨Or.inl rfl, ⟨Or.inl rfl, ⟨Or.inl rfl, trivial⟩⟩⟩⟩⟩ ?_
        refine L85 ((Xn K - (0)).toNat + 1) (S1) (Ka) (0) (Nat.lt_succ_self _) ?_ ?_ ?_ ?_
        · omega
        · exact hM
        · exact hI.b (by omega)
        · exact hF
      ·
        refine R_op (nx := 15) rfl rfl rfl ?_
        refine R_lo (nx := 17) (ls' := [(2, 3), (2, b), (2, c), (0, x), (0, 0)]) rfl rfl rfl rfl ?_
        have L17 : ∀ (f17 : Nat) (S2 : mm_S) (Kb : CX) (y : Int), (Xn K2 - y).toNat < f17 → (0 ≤ y ∧ y ≤ Xn K2) → (MC S2 3 Kb) → (PA K K2 Kb (x * Xn K2 + y)) → (∀ e, ¬ (3 ≤ e ∧ e ≤ 7) → S2 e = S e) → Rn k_C_becomeProduct 17 [(2, 3), (2, b), (2, c), (0, x), (0, y)] [] S2 (fun v S' => v = none ∧ ∃ K', MC S' 3 K' ∧ isProd K K2 K' ∧ ∀ e, ¬ (3 ≤ e ∧ e ≤ 7) → S' e = S e) := by
          intro f17
          induction f17 with
          | zero => intro S2 Kb y hm17; exact absurd hm17 (Nat.not_lt_zero _)
          | succ f17 ih17 =>
            intro S2 Kb y hm17 hy hN hJ hG
            have hb2 : MC S2 b K := h.fr fun e p q => hG e (by omega)
            have hc2 : MC S2 c K2 := h2.fr fun e p q => hG e (by omega)
            have hbn2 := hb2.n
            have hcn2 := hc2.n
            have hxx : 0 ≤ x ∧ x < Xn K := by omega
            have hpr := fun q => prng (x := x) (y := y) hxx (show 0 ≤ y ∧ y < Xn K2 from q)
            have g1 := hR.1 x
            have g2 := hR2.1 y
            have hKb := hJ.1
            have g3 := hR.l 0 x
            have g4 := hR2.l 0 y
            have g5 := hR.l 1 x
            have g6 := hR2.l 1 y
            refine R_lo (nx := 19) rfl rfl rfl rfl ?_
            refine R_lo (nx := 20) rfl rfl rfl rfl ?_
            refine R_get (nx := 23) (w := (0, (S2 c 0))) rfl rfl (isC_ob hC) rfl ?_
            refine R_icmp (nx := 26) (tg := 77) rfl rfl rfl (mm_cnd_ge _ _) (fun c23 => ?_) (fun c23 => ?_)
            ·
              refine R_iinc (nx := 80) (z := (x + 1)) (ls' := [(2, 3), (2, b), (2, c), (0, (x + 1)), (0, y)]) rfl rfl rfl rfl ⟨by omega, by omega⟩ rfl ?_
              refine R_op (nx := 83) (pc' := 6) rfl rfl rfl ?_
              refine Rn.weak (ls' := [(2, 3), (2, b), (2, c), (0, (x + 1)), (9, 0)]) ⟨Or.inl rfl, ⟨Or.inl rfl, ⟨Or.inl rfl, ⟨Or.inl rfl, ⟨Or.inr rfl, trivial⟩⟩⟩⟩⟩ ?_
              refine ih6 (S2) (Kb) ((x + 1)) ?_ ?_ ?_ ?_ ?_
              · omega
              · omega
              · exact hN
              · exact hJ.nx (by omega)
              · exact hG
            ·
              refine R_lo (nx := 27) rfl rfl rfl rfl ?_
              refine R_lo (nx := 28) rfl rfl rfl rfl ?_
              refine R_lo (nx := 29) rfl rfl rfl rfl ?_
              refine R_call1 (nx := 32) (as := [(2, b), (0, x)]) (rest := [(2, 3)]) rfl rfl (fun _ _ => rfl) rfl rfl rfl rfl rfl rfl (isC_rc hB _) rfl (Cl.mono (c_C_degree S2 b hB K (by first | assumption | exact MC.up (by assumption) (by omega) | exact MC.up (MC.up (by assumption) (by omega)) (by omega) | exact MC.up (MC.up (MC.up (by assumption) (by omega)) (by omega)) (by omega)) x) ?_)
              rintro _ _ ⟨rfl, rfl⟩
              refine ⟨_, rfl, ?_⟩
              refine R_lo (nx := 33) rfl rfl rfl rfl ?_
              refine R_lo (nx := 35) rfl rfl rfl rfl ?_
              refine R_call1 (nx := 38) (as := [(2, c), (0, y)]) (rest := [(0, (Xd K x)), (2, 3)]) rfl rfl (fun _ _ => rfl) rfl rfl rfl rfl rfl rfl (isC_rc hC _) rfl (Cl.mono (c_C_degree S2 c hC K2 (by first | assumption | exact MC.up (by assumption) (by omega) | exact MC.up (MC.up (by assumption) (by omega)) (by omega) | exact MC.up (MC.up (MC.up (by assumption) (by omega)) (by omega)) (by omega)) y) ?_)
              rintro _ _ ⟨rfl, rfl⟩
              refine ⟨_, rfl, ?_⟩
              refine R_iadd (nx := 39) (z := ((Xd K x) + (Xd K2 y))) rfl rfl rfl ⟨by omega, by omega⟩ ?_
              refine R_lo (nx := 40) rfl rfl rfl rfl ?_
              refine R_op (nx := 41) rfl rfl rfl ?_
              refine R_lo (nx := 42) rfl rfl rfl rfl ?_
              refine R_call1 (nx := 45) (as := [(2, b), (0, 0), (0, x)]) (rest := [(0, ((Xd K x) + (Xd K2 y))), (2, 3)]) rfl rfl (fun _ _ => rfl) rfl rfl rfl rfl rfl rfl (isC_rc hB _) rfl (Cl.mono (c_C_level S2 b hB K (by first | assumption | exact MC.up (by assumption) (by omega) | exact MC.up (MC.up (by assumption) (by omega)) (by omega) | exact MC.up (MC.up (MC.up (by assumption) (by omega)) (by omega)) (by omega)) 0 x) ?_)
              rintro _ _ ⟨rfl, rfl⟩
              refine ⟨_, rfl, ?_⟩
              refine R_lo (nx := 46) rfl rfl rfl rfl ?_
              refine R_op (nx := 47) rfl rfl rfl ?_
              refine R_lo (nx := 49) rfl rfl rfl rfl ?_
              refine R_call1 (nx := 52) (as := [(2, c), (0, 0), (0, y)]) (rest := [(0, (Xl K 0 x)), (0, ((Xd K x) + (Xd K2 y))), (2, 3)]) rfl rfl (fun _ _ => rfl) rfl rfl rfl rfl rfl rfl (isC_rc hC _) rfl (Cl.mono (c_C_level S2 c hC K2 (by first | assumption | exact MC.up (by assumption) (by omega) | exact MC.up (MC.up (by assumption) (by omega)) (by omega) | exact MC.up (MC.up (MC.up (by assumption) (by omega)) (by omega)) (by omega)) 0 y) ?_)
              rintro _ _ ⟨rfl, rfl⟩
              refine ⟨_, rfl, ?_⟩
              refine R_iadd (nx := 53) (z := ((Xl K 0 x) + (Xl K2 0 y))) rfl rfl rfl ⟨by omega, by omega⟩ ?_
              refine R_lo (nx := 54) rfl rfl rfl rfl ?_
              refine R_op (nx := 55) rfl rfl rfl ?_
              refine R_lo (nx := 56) rfl rfl rfl rfl ?_
              refine R_call1 (nx := 59) (as := [(2, b), (0, 1), (0, x)]) (rest := [(0, ((Xl K 0 x) + (Xl K2 0 y))), (0, ((Xd K x) + (Xd K2 y))), (2, 3)]) rfl rfl (fun _ _ => rfl) rfl rfl rfl rfl rfl rfl (isC_rc hB _) rfl (Cl.mono (c_C_level S2 b hB K (by first | assumption | exact MC.up (by assumption) (by omega) | exact MC.up (MC.up (by assumption) (by omega)) (by omega) | exact MC.up (MC.up (MC.up (by assumption) (by omega)) (by omega)) (by omega)) 1 x) ?_)
              rintro _ _ ⟨rfl, rfl⟩
              refine ⟨_, rfl, ?_⟩
              refine R_lo (nx := 60) rfl rfl rfl rfl ?_
              refine R_op (nx := 61) rfl rfl rfl ?_
              refine R_lo (nx := 63) rfl rfl rfl rfl ?_
              refine R_call1 (nx := 66) (as := [(2, c), (0, 1), (0, y)]) (rest := [(0, (Xl K 1 x)), (0, ((Xl K 0 x) + (Xl K2 0 y))), (0, ((Xd K x) + (Xd K2 y))), (2, 3)]) rfl rfl (fun _ _ => rfl) rfl rfl rfl rfl rfl rfl (isC_rc hC _) rfl (Cl.mono (c_C_level S2 c hC K2 (by first | assumption | exact MC.up (by assumption) (by omega) | exact MC.up (MC.up (by assumption) (by omega)) (by omega) | exact MC.up (MC.up (MC.up (by assumption) (by omega)) (by omega)) (by omega)) 1 y) ?_)
              rintro _ _ ⟨rfl, rfl⟩
              refine ⟨_, rfl, ?_⟩
              refine R_iadd (nx := 67) (z := ((Xl K 1 x) + (Xl K2 1 y))) rfl rfl rfl ⟨by omega, by omega⟩ ?_
              refine R_call1 (nx := 70) (as := [(2, 3), (0, ((Xd K x) + (Xd K2 y))), (0, ((Xl K 0 x) + (Xl K2 0 y))), (0, ((Xl K 1 x) + (Xl K2 1 y)))]) (rest := []) rfl rfl (fun _ _ => rfl) rfl rfl rfl rfl rfl rfl rfl rfl (Cl.mono (c_C_add S2 3 isC_3 Kb (by first | assumption | exact MC.up (by assumption) (by omega) | exact MC.up (MC.up (by assumption) (by omega)) (by omega) | exact MC.up (MC.up (MC.up (by assumption) (by omega)) (by omega)) (by omega)) ((Xd K x) + (Xd K2 y)) ((Xl K 0 x) + (Xl K2 0 y)) ((Xl K 1 x) + (Xl K2 1 y))) ?_)
              rintro _ S67 (⟨rfl, b67, m67, f67⟩ | ⟨rfl, b67, rfl⟩)
              ·
                try have m_f67 : MC S67 b K := MC.fr (by first | assumption | exact MC.up (by assumption) (by omega) | exact MC.up (MC.up (by assumption) (by omega)) (by omega) | exact MC.up (MC.up (MC.up (by assumption) (by omega)) (by omega)) (by omega)) (fun c p q => f67 c (by omega))
                try have m_f67 : MC S67 c K2 := MC.fr (by first | assumption | exact MC.up (by assumption) (by omega) | exact MC.up (MC.up (by assumption) (by omega)) (by omega) | exact MC.up (MC.up (MC.up (by assumption) (by omega)) (by omega)) (by omega)) (fun c p q => f67 c (by omega))
                refine ⟨_, rfl, ?_⟩
                refine R_op (nx := 71) rfl rfl rfl ?_
                refine R_iinc (nx := 74) (z := (y + 1)) (ls' := [(2, 3), (2, b), (2, c), (0, x), (0, (y + 1))]) rfl rfl rfl rfl ⟨by omega, by omega⟩ rfl ?_
                refine R_op (nx := 77) (pc' := 17) rfl rfl rfl ?_
                refine Rn.weak (ls' := [(2, 3), (2, b), (2, c), (0, x), (0, (y + 1))]) ⟨Or.inl rfl, ⟨Or.inl rfl, ⟨Or.inl rfl, ⟨Or.inl rfl, ⟨Or.inl rfl, trivial⟩⟩⟩⟩⟩ ?_
                refine ih17 (S67) ((Xadd Kb ((Xd K x) + (Xd K2 y)) ((Xl K 0 x) + (Xl K2 0 y)) ((Xl K 1 x) + (Xl K2 1 y)))) ((y + 1)) ?_ ?_ ?_ ?_ ?_
                · omega
                · omega
                · exact m67
                · exact hJ.add hxx (by omega)
                · intro e he; rw [f67 e (by omega)]; exact hG e he
              ·
                exfalso
                have := hpr ⟨by omega, by omega⟩
                omega
        refine Rn.weak (ls' := [(2, 3), (2, b), (2, c), (0, x), (0, 0)]) ⟨Or.inl rfl, ⟨Or.inl rfl, ⟨Or.inl rfl, ⟨Or.inl rfl, ⟨Or.inl rfl, trivial⟩⟩⟩⟩⟩ ?_
        refine L17 ((Xn K2 - (0)).toNat + 1) (S1) (Ka) (0) (Nat.lt_succ_self _) ?_ ?_ ?_ ?_
        · omega
        · exact hM
        · rw [Int.add_zero]; exact hI
        · exact hF
  refine Rn.weak (ls' := [(2, 3), (2, b), (2, c), (0, 0), (9, 0)]) ⟨Or.inl rfl, ⟨Or.inl rfl, ⟨Or.inl rfl, ⟨Or.inl rfl, ⟨Or.inl rfl, trivial⟩⟩⟩⟩⟩ ?_
  refine L6 ((Xn K - (0)).toNat + 1) (S1) (Xz) (0) (Nat.lt_succ_self _) ?_ ?_ ?_ ?_
  · omega
  · exact m1
  · exact PA.z hnr2.1
  · intro e he; exact f1 e (by omega)
