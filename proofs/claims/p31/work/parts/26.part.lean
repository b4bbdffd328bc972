/-! What is left of a complex up to a level. -/
def rkx (K : CX) (w l x : Int) : Int := sm (fun i => if Xl K w i ≤ l then 1 else 0) x
theorem rkx_0 (K : CX) (w l : Int) : rkx K w l 0 = 0 := rfl
theorem rkx_y {K : CX} {w l x : Int} (h0 : 0 ≤ x) (h : Xl K w x ≤ l) : rkx K w l (x + 1) = rkx K w l x + 1 := by
  unfold rkx; rw [sm_s _ h0, if_pos h]
theorem rkx_n {K : CX} {w l x : Int} (h0 : 0 ≤ x) (h : ¬ Xl K w x ≤ l) : rkx K w l (x + 1) = rkx K w l x := by
  unfold rkx; rw [sm_s _ h0, if_neg h, Int.add_zero]
theorem rkx_b (K : CX) (w l : Int) {x : Int} (h : 0 ≤ x) : 0 ≤ rkx K w l x ∧ rkx K w l x ≤ x := by
  have := sm_b (f := fun i => if Xl K w i ≤ l then 1 else 0) (lo := 0) (hi := 1) h fun i _ _ => by split <;> decide
  unfold rkx; omega
theorem rkx_m (K : CX) (w l : Int) {x : Int} (h : 0 ≤ x) (k : Nat) : rkx K w l x ≤ rkx K w l (x + k) := by
  induction k with
  | zero => simp
  | succ k ih =>
    have e : x + ((k + 1 : Nat) : Int) = x + k + 1 := by omega
    rw [e]
    by_cases c : Xl K w (x + k) ≤ l
    · rw [rkx_y (by omega) c]; omega
    · rw [rkx_n (by omega) c]; exact ih
theorem rkx_le (K : CX) (w l : Int) {x y : Int} (h : 0 ≤ x) (hy : x ≤ y) : rkx K w l x ≤ rkx K w l y := by
  have := rkx_m K w l h (y - x).toNat
  rw [show x + (((y - x).toNat : Nat) : Int) = y by omega] at this
  exact this
theorem rkx_lt {K : CX} {w l x y : Int} (h : 0 ≤ x) (hy : x < y) (hc : Xl K w x ≤ l) : rkx K w l x < rkx K w l y := by
  have := rkx_le K w l (show 0 ≤ x + 1 by omega) (show x + 1 ≤ y by omega)
  rw [rkx_y h hc] at this
  omega
theorem rkx_i {K : CX} {w l x y : Int} (h : 0 ≤ x) (h' : 0 ≤ y) (hc : Xl K w x ≤ l) (hc' : Xl K w y ≤ l) : rkx K w l x = rkx K w l y ↔ x = y := by
  constructor
  · intro q
    by_cases a : x < y
    · have := rkx_lt h a hc; omega
    · by_cases b : y < x
      · have := rkx_lt h' b hc'; omega
      · omega
  · rintro rfl; rfl
theorem rkx_sur {K : CX} {w l : Int} : ∀ (n : Nat) (i : Int), 0 ≤ i → i < rkx K w l n → ∃ x, (0 ≤ x ∧ x < (n : Int)) ∧ Xl K w x ≤ l ∧ i = rkx K w l x
  | 0, i, h0, h => by rw [show ((0 : Nat) : Int) = 0 from rfl, rkx_0] at h; omega
  | n + 1, i, h0, h => by
    have e : ((n + 1 : Nat) : Int) = (n : Int) + 1 := by omega
    rw [e] at h
    by_cases c : Xl K w n ≤ l
    · rw [rkx_y (by omega) c] at h
      by_cases q : i = rkx K w l n
      · exact ⟨n, ⟨by omega, by omega⟩, c, q⟩
      · obtain ⟨x, a, b, d⟩ := rkx_sur (K := K) (w := w) (l := l) n i h0 (by omega)
        exact ⟨x, ⟨a.1, by omega⟩, b, d⟩
    · rw [rkx_n (by omega) c] at h
      obtain ⟨x, a, b, d⟩ := rkx_sur n i h0 h
      exact ⟨x, ⟨a.1, by omega⟩, b, d⟩
def isPart (K : CX) (w l : Int) (K1 : CX) : Prop := Nz K1 ∧ Xn K1 = rkx K w l (Xn K) ∧ (∀ x, (0 ≤ x ∧ x < Xn K) → Xl K w x ≤ l → Xd K1 (rkx K w l x) = Xd K x ∧ X0 K1 (rkx K w l x) = X0 K x ∧ X1 K1 (rkx K w l x) = X1 K x) ∧ ∀ x y, (0 ≤ x ∧ x < Xn K) → (0 ≤ y ∧ y < Xn K) → Xl K w x ≤ l → Xl K w y ≤ l → Xe K1 (rkx K w l x) (rkx K w l y) = Xe K x y
theorem isPart_sur {K : CX} {w l : Int} (hn : 0 ≤ Xn K) {i : Int} (h : 0 ≤ i ∧ i < rkx K w l (Xn K)) : ∃ x, (0 ≤ x ∧ x < Xn K) ∧ Xl K w x ≤ l ∧ i = rkx K w l x := by
  have e : (((Xn K).toNat : Nat) : Int) = Xn K := Int.toNat_of_nonneg hn
  obtain ⟨x, a, b, c⟩ := rkx_sur (K := K) (w := w) (l := l) (Xn K).toNat i h.1 (by rw [e]; exact h.2)
  exact ⟨x, by rw [e] at a; exact a, b, c⟩
theorem isPart_u {K K1 K1' : CX} {w l : Int} (hn : 0 ≤ Xn K) (h : isPart K w l K1) (h' : isPart K w l K1') : K1 = K1' := by
  obtain ⟨z, a, b, c⟩ := h
  obtain ⟨z', a', b', c'⟩ := h'
  have key : ∀ x, (Xd K1 x = Xd K1' x ∧ X0 K1 x = X0 K1' x ∧ X1 K1 x = X1 K1' x) := by
    intro x
    by_cases e : 0 ≤ x ∧ x < Xn K1
    · rw [a] at e
      obtain ⟨p, hp, hc, rfl⟩ := isPart_sur hn e
      obtain ⟨b1, b2, b3⟩ := b p hp hc
      obtain ⟨d1, d2, d3⟩ := b' p hp hc
      rw [b1, b2, b3, d1, d2, d3]
      exact ⟨rfl, rfl, rfl⟩
    · obtain ⟨b1, b2, b3⟩ := z.2.1 x e
      obtain ⟨d1, d2, d3⟩ := z'.2.1 x (by rw [a', ← a]; exact e)
      rw [b1, b2, b3, d1, d2, d3]
      exact ⟨rfl, rfl, rfl⟩
  refine CXext (by rw [a, a']) (fun x => (key x).1) (fun x => (key x).2.1) (fun x => (key x).2.2) fun x y => ?_
  by_cases e : (0 ≤ x ∧ x < Xn K1) ∧ (0 ≤ y ∧ y < Xn K1)
  · rw [a] at e
    obtain ⟨p, hp, hc, rfl⟩ := isPart_sur hn e.1
    obtain ⟨r, hr, hs, rfl⟩ := isPart_sur hn e.2
    rw [c p r hp hr hc hs, c' p r hp hr hc hs]
  · rw [z.e e, z'.e (by rw [a', ← a]; exact e)]
theorem isPart_Vx {K K1 : CX} {w l : Int} (hK : Vx K) (h : isPart K w l K1) : Vx K1 := by
  obtain ⟨z, a, b, c⟩ := h
  have hn := hK.1.1.1
  have ent : ∀ x y, Xe K1 x y ≠ 0 → Xmay K1 x y ∧ -9 ≤ Xe K1 x y ∧ Xe K1 x y ≤ 9 := by
    intro x y hne
    by_cases e : (0 ≤ x ∧ x < Xn K1) ∧ (0 ≤ y ∧ y < Xn K1)
    · have e' := e
      rw [a] at e'
      obtain ⟨p, hp, hc, rfl⟩ := isPart_sur hn e'.1
      obtain ⟨r, hr, hs, rfl⟩ := isPart_sur hn e'.2
      rw [c p r hp hr hc hs] at hne ⊢
      obtain ⟨b1, b2, b3⟩ := b p hp hc
      obtain ⟨d1, d2, d3⟩ := b r hr hs
      have M := hK.2.2 p r hne
      unfold Xmay at M ⊢
      rw [b1, b2, b3, d1, d2, d3]
      exact ⟨⟨e.1, e.2, M.2.2⟩, hK.2.1.e p r⟩
    · exact absurd (z.e e) hne
  refine ⟨z, ⟨fun x => ?_, fun x y => ?_⟩, fun x y hne => (ent x y hne).1⟩
  · by_cases e : 0 ≤ x ∧ x < Xn K1
    · rw [a] at e
      obtain ⟨p, hp, hc, rfl⟩ := isPart_sur hn e
      obtain ⟨b1, b2, b3⟩ := b p hp hc
      rw [b1, b2, b3]
      exact hK.2.1.1 p
    · obtain ⟨b1, b2, b3⟩ := z.2.1 x e
      omega
  · by_cases e : Xe K1 x y = 0
    · rw [e]; exact ⟨by decide, by decide⟩
    · exact (ent x y e).2
theorem rset {K Ka : CX} {w l x y v x1 y1 : Int} (hn : Xn Ka = rkx K w l (Xn K)) (hx : 0 ≤ x ∧ x < Xn K) (hy : 0 ≤ y ∧ y < Xn K) (hcx : Xl K w x ≤ l) (hcy : Xl K w y ≤ l) (hx1 : 0 ≤ x1 ∧ x1 < Xn K) (hy1 : 0 ≤ y1 ∧ y1 < Xn K) (hcx1 : Xl K w x1 ≤ l) (hcy1 : Xl K w y1 ≤ l) : Xe (Xset Ka (rkx K w l x) (rkx K w l y) v) (rkx K w l x1) (rkx K w l y1) = if x1 = x ∧ y1 = y then v else Xe Ka (rkx K w l x1) (rkx K w l y1) := by
  rw [Xset_e]
  exact ifc (by rw [rkx_i hx1.1 hx.1 hcx1 hcx, rkx_i hy1.1 hy.1 hcy1 hcy, hn]; exact ⟨fun q => q.2, fun q => ⟨⟨⟨(rkx_b K w l hx.1).1, rkx_lt hx.1 hx.2 hcx⟩, (rkx_b K w l hy.1).1, rkx_lt hy.1 hy.2 hcy⟩, q⟩⟩) rfl rfl
def QE (K : CX) (w l : Int) (K1 Ka : CX) (x y : Int) : Prop := ∀ x1 y1, (0 ≤ x1 ∧ x1 < Xn K) → (0 ≤ y1 ∧ y1 < Xn K) → Xl K w x1 ≤ l → Xl K w y1 ≤ l → Xe Ka (rkx K w l x1) (rkx K w l y1) = if x1 = x then (if y1 < y then Xe K x y1 else 0) else Xe K1 (rkx K w l x1) (rkx K w l y1)
theorem QE.nx {K K1 Ka : CX} {w l x y : Int} (h : QE K w l K1 Ka x y) (hn : Xn Ka = rkx K w l (Xn K)) (hx : 0 ≤ x ∧ x < Xn K) (hy : 0 ≤ y ∧ y < Xn K) (hcx : Xl K w x ≤ l) (hcy : Xl K w y ≤ l) : QE K w l K1 (Xset Ka (rkx K w l x) (rkx K w l y) (Xe K x y)) x (y + 1) := by
  intro x1 y1 h1 h2 h3 h4
  rw [rset hn hx hy hcx hcy h1 h2 h3 h4, h x1 y1 h1 h2 h3 h4]
  by_cases e : x1 = x ∧ y1 = y
  · rw [if_pos e, if_pos e.1, if_pos (by omega), e.2]
  · rw [if_neg e]
    by_cases e2 : x1 = x
    · rw [if_pos e2, if_pos e2]; exact ifc (by omega) rfl rfl
    · rw [if_neg e2, if_neg e2]
theorem QE.sk {K K1 Ka : CX} {w l x y : Int} (h : QE K w l K1 Ka x y) (hcy : ¬ Xl K w y ≤ l) : QE K w l K1 Ka x (y + 1) := by
  intro x1 y1 h1 h2 h3 h4
  rw [h x1 y1 h1 h2 h3 h4]
  refine ifc Iff.rfl (ifc ?_ rfl rfl) rfl
  have : y1 ≠ y := fun q => hcy (q ▸ h4)
  omega
theorem QE.st {K K1 : CX} {w l x : Int} (hz : ∀ y, (0 ≤ y ∧ y < Xn K) → Xl K w x ≤ l → Xl K w y ≤ l → Xe K1 (rkx K w l x) (rkx K w l y) = 0) : QE K w l K1 K1 x 0 := by
  intro x1 y1 h1 h2 h3 h4
  by_cases e : x1 = x
  · subst e
    rw [if_pos rfl, if_neg (by omega)]; exact hz y1 h2 h3 h4
  · rw [if_neg e]
def QA (K : CX) (w l : Int) (K1 : CX) (x : Int) : Prop := Xn K1 = rkx K w l x ∧ (∀ x1, (0 ≤ x1 ∧ x1 < x) → Xl K w x1 ≤ l → Xd K1 (rkx K w l x1) = Xd K x1 ∧ X0 K1 (rkx K w l x1) = X0 K x1 ∧ X1 K1 (rkx K w l x1) = X1 K x1) ∧ ∀ i j, Xe K1 i j = 0
theorem QA.add {K K1 : CX} {w l x : Int} (h : QA K w l K1 x) (hx : 0 ≤ x) (hc : Xl K w x ≤ l) : QA K w l (Xadd K1 (Xd K x) (Xl K 0 x) (Xl K 1 x)) (x + 1) := by
  obtain ⟨a, b, c⟩ := h
  refine ⟨by rw [Xadd_n, a, rkx_y hx hc], fun x1 h1 h2 => ?_, c⟩
  rw [Xadd_d, Xadd_0, Xadd_1, a]
  by_cases e : x1 = x
  · subst e; rw [if_pos rfl, if_pos rfl, if_pos rfl]; exact ⟨rfl, rfl, rfl⟩
  · have : ¬ rkx K w l x1 = rkx K w l x := fun q => e ((rkx_i h1.1 hx h2 hc).mp q)
    rw [if_neg this, if_neg this, if_neg this]
    exact b x1 (by omega) h2
theorem QA.sk {K K1 : CX} {w l x : Int} (h : QA K w l K1 x) (hx : 0 ≤ x) (hc : ¬ Xl K w x ≤ l) : QA K w l K1 (x + 1) := by
  obtain ⟨a, b, c⟩ := h
  refine ⟨by rw [a, rkx_n hx hc], fun x1 h1 h2 => ?_, c⟩
  have : x1 ≠ x := fun q => hc (q ▸ h2)
  exact b x1 (by omega) h2
theorem QA.z (K : CX) (w l : Int) : QA K w l Xz 0 := ⟨rfl, fun x h => by omega, fun _ _ => rfl⟩
def QB (K : CX) (w l : Int) (K1 : CX) (x : Int) : Prop := Xn K1 = rkx K w l (Xn K) ∧ (∀ x, (0 ≤ x ∧ x < Xn K) → Xl K w x ≤ l → Xd K1 (rkx K w l x) = Xd K x ∧ X0 K1 (rkx K w l x) = X0 K x ∧ X1 K1 (rkx K w l x) = X1 K x) ∧ ∀ x1 y1, (0 ≤ x1 ∧ x1 < Xn K) → (0 ≤ y1 ∧ y1 < Xn K) → Xl K w x1 ≤ l → Xl K w y1 ≤ l → Xe K1 (rkx K w l x1) (rkx K w l y1) = if x1 < x then Xe K x1 y1 else 0
theorem QA.b {K K1 : CX} {w l x : Int} (h : QA K w l K1 x) (hx : x = Xn K) : QB K w l K1 0 := by
  subst hx
  refine ⟨h.1, h.2.1, fun x1 y1 h1 h2 h3 h4 => ?_⟩
  rw [if_neg (by omega)]; exact h.2.2 _ _
theorem QB.z {K K1 : CX} {w l x : Int} (h : QB K w l K1 x) (hx : 0 ≤ x ∧ x < Xn K) (y : Int) (hy : 0 ≤ y ∧ y < Xn K) (hc : Xl K w x ≤ l) (hc2 : Xl K w y ≤ l) : Xe K1 (rkx K w l x) (rkx K w l y) = 0 := by
  rw [h.2.2 x y hx hy hc hc2, if_neg (by omega)]
theorem QB.sk {K K1 : CX} {w l x : Int} (h : QB K w l K1 x) (hc : ¬ Xl K w x ≤ l) : QB K w l K1 (x + 1) := by
  refine ⟨h.1, h.2.1, fun x1 y1 h1 h2 h3 h4 => ?_⟩
  rw [h.2.2 x1 y1 h1 h2 h3 h4]
  have : x1 ≠ x := fun q => hc (q ▸ h3)
  exact ifc (by omega) rfl rfl
theorem QB.st {K K1 Ka : CX} {w l x : Int} (h : QB K w l K1 x) (hs : Xsame K1 Ka) (he : QE K w l K1 Ka x (Xn K)) : QB K w l Ka (x + 1) := by
  obtain ⟨s1, s2, s3, s4⟩ := hs
  refine ⟨s1.trans h.1, fun x1 h1 h2 => by rw [s2, s3, s4]; exact h.2.1 x1 h1 h2, fun x1 y1 h1 h2 h3 h4 => ?_⟩
  rw [he x1 y1 h1 h2 h3 h4, h.2.2 x1 y1 h1 h2 h3 h4]
  by_cases e : x1 = x
  · rw [if_pos e, if_pos (by omega), if_pos (by omega), e]
  · rw [if_neg e]; exact ifc (by omega) rfl rfl
theorem QB.fin {K K1 : CX} {w l x : Int} (h : QB K w l K1 x) (hx : x = Xn K) (hz : Nz K1) : isPart K w l K1 := ⟨hz, h.1, h.2.1, fun x1 y1 h1 h2 h3 h4 => by rw [h.2.2 x1 y1 h1 h2 h3 h4, if_pos (by omega)]⟩

set_option maxRecDepth 20000 in
set_option maxHeartbeats 4000000 in
theorem c_C_setPartEdge (S : mm_S) (b : Int) (hB : mm_isC b) (K : CX) (h : MC S b K) (hb : 7 < b) (w l : Int) (K1 : CX) (h1 : MC S 3 K1) (hn1 : Xn K1 = rkx K w l (Xn K)) (x : Int) (hx : 0 ≤ x ∧ x < Xn K) (hcx : Xl K w x ≤ l) (hz : ∀ y, (0 ≤ y ∧ y < Xn K) → Xl K w x ≤ l → Xl K w y ≤ l → Xe K1 (rkx K w l x) (rkx K w l y) = 0) : Cl 141 [(2, 3), (0, (rkx K w l x)), (2, b), (0, x), (0, w), (0, l)] S (fun v S' => v = none ∧ ∃ K', MC S' 3 K' ∧ Xsame K1 K' ∧ QE K w l K1 K' x (Xn K) ∧ ∀ e, ¬ (3 ≤ e ∧ e ≤ 7) → S' e = S e) := by
  refine ⟨Nat.le_of_ble_eq_true rfl, ?_⟩
  show Rn k_C_setPartEdge 0 [(2, 3), (0, (rkx K w l x)), (2, b), (0, x), (0, w), (0, l), (9, 0), (9, 0)] [] S _
  have hnr := h.nr
  have hn := h.n
  refine R_op (nx := 1) rfl rfl rfl ?_
  refine R_lo (nx := 3) (ls' := [(2, 3), (0, (rkx K w l x)), (2, b), (0, x), (0, w), (0, l), (0, 0), (9, 0)]) rfl rfl rfl rfl ?_
  refine R_op (nx := 4) rfl rfl rfl ?_
  refine R_lo (nx := 6) (ls' := [(2, 3), (0, (rkx K w l x)), (2, b), (0, x), (0, w), (0, l), (0, 0), (0, 0)]) rfl rfl rfl rfl ?_
  have L6 : ∀ (f6 : Nat) (S1 : mm_S) (Ka : CX) (j : Int) (y : Int), (Xn K - y).toNat < f6 → (0 ≤ y ∧ y ≤ Xn K) → (MC S1 3 Ka) → (Xsame K1 Ka) → (QE K w l K1 Ka x y) → (j = rkx K w l y) → (∀ e, ¬ (3 ≤ e ∧ e ≤ 7) → S1 e = S e) → Rn k_C_setPartEdge 6 [(2, 3), (0, (rkx K w l x)), (2, b), (0, x), (0, w), (0, l), (0, j), (0, y)] [] S1 (fun v S' => v = none ∧ ∃ K', MC S' 3 K' ∧ Xsame K1 K' ∧ QE K w l K1 K' x (Xn K) ∧ ∀ e, ¬ (3 ≤ e ∧ e ≤ 7) → S' e = S e) := by
    intro f6
    induction f6 with
    | zero => intro S1 Ka j y hm6; exact absurd hm6 (Nat.not_lt_zero _)
    | succ f6 ih6 =>
      intro S1 Ka j y hm6 hy hM hs hI hj hF
      have hb1 : MC S1 b K := h.fr fun e p q => hF e (by omega)
      have hbn := hb1.n
      have hjb := rkx_b K w l hy.1
      refine R_lo (nx := 8) rfl rfl rfl rfl ?_
      refine R_lo (nx := 9) rfl rfl rfl rfl ?_
      refine R_get (nx := 12) (w := (0, (S1 b 0))) rfl rfl (isC_ob hB) rfl ?_
      refine R_icmp (nx := 15) (tg := 51) rfl rfl rfl (mm_cnd_ge _ _) (fun c12 => ?_) (fun c12 => ?_)
      ·
        refine R_ret rfl (fun _ _ => rfl) rfl rfl ?_
        have e : y = Xn K := by omega
        rw [e] at hI
        exact ⟨rfl, _, hM, hs, hI, hF⟩
      ·
        refine R_lo (nx := 16) rfl rfl rfl rfl ?_
        refine R_lo (nx := 18) rfl rfl rfl rfl ?_
        refine R_lo (nx := 20) rfl rfl rfl rfl ?_
        refine R_call1 (nx := 23) (as := [(2, b), (0, w), (0, y)]) (rest := []) rfl rfl (fun _ _ => rfl) rfl rfl rfl rfl rfl rfl (isC_rc hB _) rfl (Cl.mono (c_C_level S1 b hB K (by first | assumption | exact MC.up (by assumption) (by omega) | exact MC.up (MC.up (by assumption) (by omega)) (by omega) | exact MC.up (MC.up (MC.up (by assumption) (by omega)) (by omega)) (by omega)) w y) ?_)
        rintro _ _ ⟨rfl, rfl⟩
        refine ⟨_, rfl, ?_⟩
        refine R_lo (nx := 25) rfl rfl rfl rfl ?_
        refine R_icmp (nx := 28) (tg := 45) rfl rfl rfl (mm_cnd_gt _ _) (fun c25 => ?_) (fun c25 => ?_)
        ·
          refine R_iinc (nx := 48) (z := (y + 1)) (ls' := [(2, 3), (0, (rkx K w l x)), (2, b), (0, x), (0, w), (0, l), (0, j), (0, (y + 1))]) rfl rfl rfl rfl ⟨by omega, by omega⟩ rfl ?_
          refine R_op (nx := 51) (pc' := 6) rfl rfl rfl ?_
          refine Rn.weak (ls' := [(2, 3), (0, (rkx K w l x)), (2, b), (0, x), (0, w), (0, l), (0, j), (0, (y + 1))]) ⟨Or.inl rfl, ⟨Or.inl rfl, ⟨Or.inl rfl, ⟨Or.inl rfl, ⟨Or.inl rfl, ⟨Or.inl rfl, ⟨Or.inl rfl, ⟨Or.inl rfl, trivial⟩⟩⟩⟩⟩⟩⟩⟩ ?_
          refine ih6 (S1) (Ka) (j) ((y + 1)) ?_ ?_ ?_ ?_ ?_ ?_ ?_
          · omega
          · omega
          · assumption
          · exact hs
          · first | exact hI.sk (by omega) | (rw [hj]; exact hI.nx (hs.1.trans hn1) hx (by omega) hcx (by omega))
          · first | rw [rkx_y hy.1 (by omega), hj] | rw [rkx_n hy.1 (by omega), hj]
          · first | exact hF | (intro e he; rw [f39 e (by omega)]; exact hF e he)
        ·
          refine R_lo (nx := 29) rfl rfl rfl rfl ?_
          refine R_lo (nx := 30) rfl rfl rfl rfl ?_
          refine R_lo (nx := 32) rfl rfl rfl rfl ?_
          refine R_lo (nx := 33) rfl rfl rfl rfl ?_
          refine R_lo (nx := 34) rfl rfl rfl rfl ?_
          refine R_lo (nx := 36) rfl rfl rfl rfl ?_
          refine R_call1 (nx := 39) (as := [(2, b), (0, x), (0, y)]) (rest := [(0, j), (0, (rkx K w l x)), (2, 3)]) rfl rfl (fun _ _ => rfl) rfl rfl rfl rfl rfl rfl (isC_rc hB _) rfl (Cl.mono (c_C_edge S1 b hB K (by first | assumption | exact MC.up (by assumption) (by omega) | exact MC.up (MC.up (by assumption) (by omega)) (by omega) | exact MC.up (MC.up (MC.up (by assumption) (by omega)) (by omega)) (by omega)) x y) ?_)
          rintro _ _ ⟨rfl, rfl⟩
          refine ⟨_, rfl, ?_⟩
          refine R_call0 (nx := 42) (as := [(2, 3), (0, (rkx K w l x)), (0, j), (0, (Xe K x y))]) (rest := []) rfl rfl (fun _ _ => rfl) rfl rfl rfl rfl rfl rfl rfl rfl (Cl.mono (c_C_setEdge S1 3 isC_3 Ka (by first | assumption | exact MC.up (by assumption) (by omega) | exact MC.up (MC.up (by assumption) (by omega)) (by omega) | exact MC.up (MC.up (MC.up (by assumption) (by omega)) (by omega)) (by omega)) (rkx K w l x) j (Xe K x y)) ?_)
          rintro _ S39 ⟨rfl, m39, f39⟩
          try have m_f39 : MC S39 b K := MC.fr (by first | assumption | exact MC.up (by assumption) (by omega) | exact MC.up (MC.up (by assumption) (by omega)) (by omega) | exact MC.up (MC.up (MC.up (by assumption) (by omega)) (by omega)) (by omega)) (fun c p q => f39 c (by omega))
          refine ⟨rfl, ?_⟩
          refine R_iinc (nx := 45) (z := (j + 1)) (ls' := [(2, 3), (0, (rkx K w l x)), (2, b), (0, x), (0, w), (0, l), (0, (j + 1)), (0, y)]) rfl rfl rfl rfl ⟨by omega, by omega⟩ rfl ?_
          refine R_iinc (nx := 48) (z := (y + 1)) (ls' := [(2, 3), (0, (rkx K w l x)), (2, b), (0, x), (0, w), (0, l), (0, (j + 1)), (0, (y + 1))]) rfl rfl rfl rfl ⟨by omega, by omega⟩ rfl ?_
          refine R_op (nx := 51) (pc' := 6) rfl rfl rfl ?_
          refine Rn.weak (ls' := [(2, 3), (0, (rkx K w l x)), (2, b), (0, x), (0, w), (0, l), (0, (j + 1)), (0, (y + 1))]) ⟨Or.inl rfl, ⟨Or.inl rfl, ⟨Or.inl rfl, ⟨Or.inl rfl, ⟨Or.inl rfl, ⟨Or.inl rfl, ⟨Or.inl rfl, ⟨Or.inl rfl, trivial⟩⟩⟩⟩⟩⟩⟩⟩ ?_
          refine ih6 (S39) ((Xset Ka (rkx K w l x) j (Xe K x y))) ((j + 1)) ((y + 1)) ?_ ?_ ?_ ?_ ?_ ?_ ?_
          · omega
          · omega
          · assumption
          · exact hs
          · first | exact hI.sk (by omega) | (rw [hj]; exact hI.nx (hs.1.trans hn1) hx (by omega) hcx (by omega))
          · first | rw [rkx_y hy.1 (by omega), hj] | rw [rkx_n hy.1 (by omega), hj]
          · first | exact hF | (intro e he; rw [f39 e (by omega)]; exact hF e he)
  refine Rn.weak (ls' := [(2, 3), (0, (rkx K w l x)), (2, b), (0, x), (0, w), (0, l), (0, 0), (0, 0)]) ⟨Or.inl rfl, ⟨Or.inl rfl, ⟨Or.inl rfl, ⟨Or.inl rfl, ⟨Or.inl rfl, ⟨Or.inl rfl, ⟨Or.inl rfl, ⟨Or.inl rfl, trivial⟩⟩⟩⟩⟩⟩⟩⟩ ?_
  refine L6 ((Xn K - (0)).toNat + 1) (S) (K1) (0) (0) (Nat.lt_succ_self _) ?_ ?_ ?_ ?_ ?_ ?_
  · omega
  · exact h1
  · exact ⟨rfl, fun _ => rfl, fun _ => rfl, fun _ => rfl⟩
  · exact QE.st hz
  · rfl
  · intro e he; rfl

set_option maxRecDepth 20000 in
set_option maxHeartbeats 4000000 in
theorem c_C_becomePart (S : mm_S) (b : Int) (hB : mm_isC b) (K : CX) (h : MC S b K) (hb : 7 < b) (w l : Int) : Cl 140 [(2, 3), (2, b), (0, w), (0, l)] S (fun v S' => v = none ∧ ∃ K', MC S' 3 K' ∧ isPart K w l K' ∧ ∀ e, ¬ (3 ≤ e ∧ e ≤ 7) → S' e = S e) := by
  refine ⟨Nat.le_of_ble_eq_true rfl, ?_⟩
  show Rn k_C_becomePart 0 [(2, 3), (2, b), (0, w), (0, l), (9, 0), (9, 0)] [] S _
  have hnr := h.nr
  have hn := h.n
  refine R_lo (nx := 1) rfl rfl rfl rfl ?_
  refine R_call0 (nx := 4) (as := [(2, 3)]) (rest := []) rfl rfl (fun _ _ => rfl) rfl rfl rfl rfl rfl rfl rfl rfl (Cl.mono (c_C_empty S 3 isC_3) ?_)
  rintro _ S1 ⟨rfl, m1, f1⟩
  try have m_f1 : MC S1 b K := MC.fr (by first | assumption | exact MC.up (by assumption) (by omega) | exact MC.up (MC.up (by assumption) (by omega)) (by omega) | exact MC.up (MC.up (MC.up (by assumption) (by omega)) (by omega)) (by omega)) (fun c p q => f1 c (by omega))
  refine ⟨rfl, ?_⟩
  refine R_op (nx := 5) rfl rfl rfl ?_
  refine R_lo (nx := 7) (ls' := [(2, 3), (2, b), (0, w), (0, l), (0, 0), (9, 0)]) rfl rfl rfl rfl ?_
  have L7 : ∀ (f7 : Nat) (S1 : mm_S) (Ka : CX) (x : Int), (Xn K - x).toNat < f7 → (0 ≤ x ∧ x ≤ Xn K) → (MC S1 3 Ka) → (QA K w l Ka x) → (∀ e, ¬ (3 ≤ e ∧ e ≤ 7) → S1 e = S e) → Rn k_C_becomePart 7 [(2, 3), (2, b), (0, w), (0, l), (0, x), (9, 0)] [] S1 (fun v S' => v = none ∧ ∃ K', MC S' 3 K' ∧ isPart K w l K' ∧ ∀ e, ¬ (3 ≤ e ∧ e ≤ 7) → S' e = S e) := by
    intro f7
    induction f7 with
    | zero => intro S1 Ka x hm7; exact absurd hm7 (Nat.not_lt_zero _)
    | succ f7 ih7 =>
      intro S1 Ka x hm7 hx hM hI hF
      have hb1 : MC S1 b K := h.fr fun e p q => hF e (by omega)
      have hbn := hb1.n
      have hKa := hI.1
      have hrb := rkx_b K w l hx.1
      refine R_lo (nx := 9) rfl rfl rfl rfl ?_
      refine R_lo (nx := 10) rfl rfl rfl rfl ?_
      refine R_get (nx := 13) (w := (0, (S1 b 0))) rfl rfl (isC_ob hB) rfl ?_
      refine R_icmp (nx := 16) (tg := 58) rfl rfl rfl (mm_cnd_ge _ _) (fun c13 => ?_) (fun c13 => ?_)
      ·
        refine R_op (nx := 59) rfl rfl rfl ?_
        refine R_lo (nx := 61) (ls' := [(2, 3), (2, b), (0, w), (0, l), (0, 0), (9, 0)]) rfl rfl rfl rfl ?_
        refine R_op (nx := 62) rfl rfl rfl ?_
        refine R_lo (nx := 64) (ls' := [(2, 3), (2, b), (0, w), (0, l), (0, 0), (0, 0)]) rfl rfl rfl rfl ?_
        have L64 : ∀ (f64 : Nat) (S1 : mm_S) (Ka : CX) (i : Int) (x : Int), (Xn K - x).toNat < f64 → (0 ≤ x ∧ x ≤ Xn K) → (MC S1 3 Ka) → (QB K w l Ka x) → (i = rkx K w l x) → (∀ e, ¬ (3 ≤ e ∧ e ≤ 7) → S1 e = S e) → Rn k_C_becomePart 64 [(2, 3), (2, b), (0, w), (0, l), (0, i), (0, x)] [] S1 (fun v S' => v = none ∧ ∃ K', MC S' 3 K' ∧ isPart K w l K' ∧ ∀ e, ¬ (3 ≤ e ∧ e ≤ 7) → S' e = S e) := by
          intro f64
          induction f64 with
          | zero => intro S1 Ka i x hm64; exact absurd hm64 (Nat.not_lt_zero _)
          | succ f64 ih64 =>
            intro S1 Ka i x hm64 hx hM hI hi hF
            have hb1 : MC S1 b K := h.fr fun e p q => hF e (by omega)
            have hbn := hb1.n
            have hrb := rkx_b K w l hx.1
            refine R_lo (nx := 66) rfl rfl rfl rfl ?_
            refine R_lo (nx := 67) rfl rfl rfl rfl ?_
            refine R_get (nx := 70) (w := (0, (S1 b 0))) rfl rfl (isC_ob hB) rfl ?_
            refine R_icmp (nx := 73) (tg := 104) rfl rfl rfl (mm_cnd_ge _ _) (fun c70 => ?_) (fun c70 => ?_)
            ·
              refine R_ret rfl (fun _ _ => rfl) rfl rfl ?_
              exact ⟨rfl, _, hM, hI.fin (by omega) hM.1, hF⟩
            ·
              refine R_lo (nx := 74) rfl rfl rfl rfl ?_
              refine R_lo (nx := 75) rfl rfl rfl rfl ?_
              refine R_lo (nx := 77) rfl rfl rfl rfl ?_
              refine R_call1 (nx := 80) (as := [(2, b), (0, w), (0, x)]) (rest := []) rfl rfl (fun _ _ => rfl) rfl rfl rfl rfl rfl rfl (isC_rc hB _) rfl (Cl.mono (c_C_level S1 b hB K (by first | assumption | exact MC.up (by assumption) (by omega) | exact MC.up (MC.up (by assumption) (by omega)) (by omega) | exact MC.up (MC.up (MC.up (by assumption) (by omega)) (by omega)) (by omega)) w x) ?_)
              rintro _ _ ⟨rfl, rfl⟩
              refine ⟨_, rfl, ?_⟩
              refine R_lo (nx := 81) rfl rfl rfl rfl ?_
              refine R_icmp (nx := 84) (tg := 98) rfl rfl rfl (mm_cnd_gt _ _) (fun c81 => ?_) (fun c81 => ?_)
              ·
                refine R_iinc (nx := 101) (z := (x + 1)) (ls' := [(2, 3), (2, b), (0, w), (0, l), (0, i), (0, (x + 1))]) rfl rfl rfl rfl ⟨by omega, by omega⟩ rfl ?_
                refine R_op (nx := 104) (pc' := 64) rfl rfl rfl ?_
                refine Rn.weak (ls' := [(2, 3), (2, b), (0, w), (0, l), (0, i), (0, (x + 1))]) ⟨Or.inl rfl, ⟨Or.inl rfl, ⟨Or.inl rfl, ⟨Or.inl rfl, ⟨Or.inl rfl, ⟨Or.inl rfl, trivial⟩⟩⟩⟩⟩⟩ ?_
                refine ih64 (S1) (Ka) (i) ((x + 1)) ?_ ?_ ?_ ?_ ?_ ?_
                · omega
                · omega
                · first | exact hM | exact m92
                · first | exact hI.sk (by omega) | exact hI.st q92 z92
                · first | (rw [rkx_y hx.1 (by omega)]; done) | (rw [rkx_n hx.1 (by omega), hi]; done)
                · first | exact hF | (intro e he; rw [f92 e (by omega)]; exact hF e he)
              ·
                subst hi
                refine R_lo (nx := 85) rfl rfl rfl rfl ?_
                refine R_lo (nx := 87) rfl rfl rfl rfl ?_
                refine R_lo (nx := 88) rfl rfl rfl rfl ?_
                refine R_lo (nx := 90) rfl rfl rfl rfl ?_
                refine R_lo (nx := 91) rfl rfl rfl rfl ?_
                refine R_lo (nx := 92) rfl rfl rfl rfl ?_
                refine R_call0 (nx := 95) (as := [(2, 3), (0, (rkx K w l x)), (2, b), (0, x), (0, w), (0, l)]) (rest := []) rfl rfl (fun _ _ => rfl) rfl rfl rfl rfl rfl rfl rfl rfl (Cl.mono (c_C_setPartEdge S1 b hB K (by first | assumption | exact MC.up (by assumption) (by omega) | exact MC.up (MC.up (by assumption) (by omega)) (by omega) | exact MC.up (MC.up (MC.up (by assumption) (by omega)) (by omega)) (by omega)) (by omega) w l Ka (by first | assumption | exact MC.up (by assumption) (by omega) | exact MC.up (MC.up (by assumption) (by omega)) (by omega) | exact MC.up (MC.up (MC.up (by assumption) (by omega)) (by omega)) (by omega)) hI.1 x (by omega) (by omega) (hI.z (by omega))) ?_)
                rintro _ S92 ⟨rfl, K92, m92, q92, z92, f92⟩
                try have m_f92 : MC S92 b K := MC.fr (by first | assumption | exact MC.up (by assumption) (by omega) | exact MC.up (MC.up (by assumption) (by omega)) (by omega) | exact MC.up (MC.up (MC.up (by assumption) (by omega)) (by omega)) (by omega)) (fun c p q => f92 c (by omega))
                refine ⟨rfl, ?_⟩
                refine R_iinc (nx := 98) (z := ((rkx K w l x) + 1)) (ls' := [(2, 3), (2, b), (0, w), (0, l), (0, ((rkx K w l x) + 1)), (0, x)]) rfl rfl rfl rfl ⟨by omega, by omega⟩ rfl ?_
                refine R_iinc (nx := 101) (z := (x + 1)) (ls' := [(2, 3), (2, b), (0, w), (0, l), (0, ((rkx K w l x) + 1)), (0, (x + 1))]) rfl rfl rfl rfl ⟨by omega, by omega⟩ rfl ?_
                refine R_op (nx := 104) (pc' := 64) rfl rfl rfl ?_
                refine Rn.weak (ls' := [(2, 3), (2, b), (0, w), (0, l), (0, ((rkx K w l x) + 1)), (0, (x + 1))]) ⟨Or.inl rfl, ⟨Or.inl rfl, ⟨Or.inl rfl, ⟨Or.inl rfl, ⟨Or.inl rfl, ⟨Or.inl rfl, trivial⟩⟩⟩⟩⟩⟩ ?_
                refine ih64 (S92) (K92) (((rkx K w l x) + 1)) ((x + 1)) ?_ ?_ ?_ ?_ ?_ ?_
                · omega
                · omega
                · first | exact hM | exact m92
                · first | exact hI.sk (by omega) | exact hI.st q92 z92
                · first | (rw [rkx_y hx.1 (by omega)]; done) | (rw [rkx_n hx.1 (by omega), hi]; done)
                · first | exact hF | (intro e he; rw [f92 e (by omega)]; exact hF e he)
        refine Rn.weak (ls' := [(2, 3), (2, b), (0, w), (0, l), (0, 0), (0, 0)]) ⟨Or.inl rfl, ⟨Or.inl rfl, ⟨Or.inl rfl, ⟨Or.inl rfl, ⟨Or.inl rfl, ⟨Or.inl rfl, trivial⟩⟩⟩⟩⟩⟩ ?_
        refine L64 ((Xn K - (0)).toNat + 1) (S1) (Ka) (0) (0) (Nat.lt_succ_self _) ?_ ?_ ?_ ?_ ?_
        · omega
        · exact hM
        · exact hI.b (by omega)
        · rfl
        · exact hF
      ·
        refine R_lo (nx := 17) rfl rfl rfl rfl ?_
        refine R_lo (nx := 18) rfl rfl rfl rfl ?_
        refine R_lo (nx := 20) rfl rfl rfl rfl ?_
        refine R_call1 (nx := 23) (as := [(2, b), (0, w), (0, x)]) (rest := []) rfl rfl (fun _ _ => rfl) rfl rfl rfl rfl rfl rfl (isC_rc hB _) rfl (Cl.mono (c_C_level S1 b hB K (by first | assumption | exact MC.up (by assumption) (by omega) | exact MC.up (MC.up (by assumption) (by omega)) (by omega) | exact MC.up (MC.up (MC.up (by assumption) (by omega)) (by omega)) (by omega)) w x) ?_)
        rintro _ _ ⟨rfl, rfl⟩
        refine ⟨_, rfl, ?_⟩
        refine R_lo (nx := 24) rfl rfl rfl rfl ?_
        refine R_icmp (nx := 27) (tg := 52) rfl rfl rfl (mm_cnd_gt _ _) (fun c24 => ?_) (fun c24 => ?_)
        ·
          refine R_iinc (nx := 55) (z := (x + 1)) (ls' := [(2, 3), (2, b), (0, w), (0, l), (0, (x + 1)), (9, 0)]) rfl rfl rfl rfl ⟨by omega, by omega⟩ rfl ?_
          refine R_op (nx := 58) (pc' := 7) rfl rfl rfl ?_
          refine Rn.weak (ls' := [(2, 3), (2, b), (0, w), (0, l), (0, (x + 1)), (9, 0)]) ⟨Or.inl rfl, ⟨Or.inl rfl, ⟨Or.inl rfl, ⟨Or.inl rfl, ⟨Or.inl rfl, ⟨Or.inl rfl, trivial⟩⟩⟩⟩⟩⟩ ?_
          refine ih7 (S1) (Ka) ((x + 1)) ?_ ?_ ?_ ?_ ?_
          · omega
          · omega
          · first | exact hM | exact m48
          · first | exact hI.sk hx.1 (by omega) | exact hI.add hx.1 (by omega)
          · first | exact hF | (intro e he; rw [f48 e (by omega)]; exact hF e he)
        ·
          refine R_lo (nx := 28) rfl rfl rfl rfl ?_
          refine R_lo (nx := 29) rfl rfl rfl rfl ?_
          refine R_lo (nx := 31) rfl rfl rfl rfl ?_
          refine R_call1 (nx := 34) (as := [(2, b), (0, x)]) (rest := [(2, 3)]) rfl rfl (fun _ _ => rfl) rfl rfl rfl rfl rfl rfl (isC_rc hB _) rfl (Cl.mono (c_C_degree S1 b hB K (by first | assumption | exact MC.up (by assumption) (by omega) | exact MC.up (MC.up (by assumption) (by omega)) (by omega) | exact MC.up (MC.up (MC.up (by assumption) (by omega)) (by omega)) (by omega)) x) ?_)
          rintro _ _ ⟨rfl, rfl⟩
          refine ⟨_, rfl, ?_⟩
          refine R_lo (nx := 35) rfl rfl rfl rfl ?_
          refine R_op (nx := 36) rfl rfl rfl ?_
          refine R_lo (nx := 38) rfl rfl rfl rfl ?_
          refine R_call1 (nx := 41) (as := [(2, b), (0, 0), (0, x)]) (rest := [(0, (Xd K x)), (2, 3)]) rfl rfl (fun _ _ => rfl) rfl rfl rfl rfl rfl rfl (isC_rc hB _) rfl (Cl.mono (c_C_level S1 b hB K (by first | assumption | exact MC.up (by assumption) (by omega) | exact MC.up (MC.up (by assumption) (by omega)) (by omega) | exact MC.up (MC.up (MC.up (by assumption) (by omega)) (by omega)) (by omega)) 0 x) ?_)
          rintro _ _ ⟨rfl, rfl⟩
          refine ⟨_, rfl, ?_⟩
          refine R_lo (nx := 42) rfl rfl rfl rfl ?_
          refine R_op (nx := 43) rfl rfl rfl ?_
          refine R_lo (nx := 45) rfl rfl rfl rfl ?_
          refine R_call1 (nx := 48) (as := [(2, b), (0, 1), (0, x)]) (rest := [(0, (Xl K 0 x)), (0, (Xd K x)), (2, 3)]) rfl rfl (fun _ _ => rfl) rfl rfl rfl rfl rfl rfl (isC_rc hB _) rfl (Cl.mono (c_C_level S1 b hB K (by first | assumption | exact MC.up (by assumption) (by omega) | exact MC.up (MC.up (by assumption) (by omega)) (by omega) | exact MC.up (MC.up (MC.up (by assumption) (by omega)) (by omega)) (by omega)) 1 x) ?_)
          rintro _ _ ⟨rfl, rfl⟩
          refine ⟨_, rfl, ?_⟩
          refine R_call1 (nx := 51) (as := [(2, 3), (0, (Xd K x)), (0, (Xl K 0 x)), (0, (Xl K 1 x))]) (rest := []) rfl rfl (fun _ _ => rfl) rfl rfl rfl rfl rfl rfl rfl rfl (Cl.mono (c_C_add S1 3 isC_3 Ka (by first | assumption | exact MC.up (by assumption) (by omega) | exact MC.up (MC.up (by assumption) (by omega)) (by omega) | exact MC.up (MC.up (MC.up (by assumption) (by omega)) (by omega)) (by omega)) (Xd K x) (Xl K 0 x) (Xl K 1 x)) ?_)
          rintro _ S48 (⟨rfl, b48, m48, f48⟩ | ⟨rfl, b48, rfl⟩)
          ·
            try have m_f48 : MC S48 b K := MC.fr (by first | assumption | exact MC.up (by assumption) (by omega) | exact MC.up (MC.up (by assumption) (by omega)) (by omega) | exact MC.up (MC.up (MC.up (by assumption) (by omega)) (by omega)) (by omega)) (fun c p q => f48 c (by omega))
            refine ⟨_, rfl, ?_⟩
            refine R_op (nx := 52) rfl rfl rfl ?_
            refine R_iinc (nx := 55) (z := (x + 1)) (ls' := [(2, 3), (2, b), (0, w), (0, l), (0, (x + 1)), (9, 0)]) rfl rfl rfl rfl ⟨by omega, by omega⟩ rfl ?_
            refine R_op (nx := 58) (pc' := 7) rfl rfl rfl ?_
            refine Rn.weak (ls' := [(2, 3), (2, b), (0, w), (0, l), (0, (x + 1)), (9, 0)]) ⟨Or.inl rfl, ⟨Or.inl rfl, ⟨Or.inl rfl, ⟨Or.inl rfl, ⟨Or.inl rfl, ⟨Or.inl rfl, trivial⟩⟩⟩⟩⟩⟩ ?_
            refine ih7 (S48) ((Xadd Ka (Xd K x) (Xl K 0 x) (Xl K 1 x))) ((x + 1)) ?_ ?_ ?_ ?_ ?_
            · omega
            · omega
            · first | exact hM | exact m48
            · first | exact hI.sk hx.1 (by omega) | exact hI.add hx.1 (by omega)
            · first | exact hF | (intro e he; rw [f48 e (by omega)]; exact hF e he)
          ·
            exfalso
            omega
  refine Rn.weak (ls' := [(2, 3), (2, b), (0, w), (0, l), (0, 0), (9, 0)]) ⟨Or.inl rfl, ⟨Or.inl rfl, ⟨Or.inl rfl, ⟨Or.inl rfl, ⟨Or.inl rfl, ⟨Or.inl rfl, trivial⟩⟩⟩⟩⟩⟩ ?_
  refine L7 ((Xn K - (0)).toNat + 1) (S1) (Xz) (0) (Nat.lt_succ_self _) ?_ ?_ ?_ ?_
  · omega
  · exact m1
  · exact QA.z K w l
  · intro e he; exact f1 e (by omega)
