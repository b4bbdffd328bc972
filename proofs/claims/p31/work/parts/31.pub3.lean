/-! Products and parts as calls. -/
theorem frN_u {g : Int → Int} {x v : Int} (hv : v ≠ 0) (hx : g x = v) : ∀ (k : Nat) (i : Int), i ≤ x → x < i + k → (∀ j, i ≤ j → j < i + k → j ≠ x → g j = 0) → frN g k i = v
  | 0, i, h1, h2, _ => by omega
  | k + 1, i, h1, h2, h => by
    show (if g i ≠ 0 then g i else frN g k (i + 1)) = v
    by_cases e : i = x
    · rw [e, hx, if_pos hv]
    · rw [h i (by omega) (by omega) e, if_neg (by decide)]
      exact frN_u hv hx k (i + 1) (by omega) (by omega) fun j a b c => h j (by omega) (by omega) c
theorem fr_u {g : Int → Int} {x v i n : Int} (hv : v ≠ 0) (hx : g x = v) (h1 : i ≤ x) (h2 : x < n) (h : ∀ j, i ≤ j → j < n → j ≠ x → g j = 0) : fr g i n = v := frN_u hv hx _ _ h1 (by omega) fun j a b c => h j a (by omega) c
def Xprod (K K2 : CX) : CX := (Xn K * Xn K2, fun i => if 0 ≤ i ∧ i < Xn K * Xn K2 then Xd K (i / Xn K2) + Xd K2 (i % Xn K2) else 0, fun i => if 0 ≤ i ∧ i < Xn K * Xn K2 then X0 K (i / Xn K2) + X0 K2 (i % Xn K2) else 0, fun i => if 0 ≤ i ∧ i < Xn K * Xn K2 then X1 K (i / Xn K2) + X1 K2 (i % Xn K2) else 0, fun i j => if (0 ≤ i ∧ i < Xn K * Xn K2) ∧ (0 ≤ j ∧ j < Xn K * Xn K2) then Xpe K K2 (i / Xn K2) (i % Xn K2) (j / Xn K2) (j % Xn K2) else 0)
theorem pdm {m x y : Int} (hy : 0 ≤ y ∧ y < m) : (x * m + y) / m = x ∧ (x * m + y) % m = y := by
  constructor
  · rw [Int.add_comm, Int.add_mul_ediv_right _ _ (by omega), Int.ediv_eq_zero_of_lt hy.1 hy.2]; omega
  · rw [Int.add_comm, Int.add_mul_emod_self_right, Int.emod_eq_of_lt hy.1 hy.2]
theorem Xprod_ok {K K2 : CX} (h : 0 ≤ Xn K) (h2 : 0 ≤ Xn K2) (hf : Xn K * Xn K2 ≤ 12) : isProd K K2 (Xprod K K2) := by
  refine ⟨⟨⟨Int.mul_nonneg h h2, hf⟩, fun x hx => ⟨if_neg hx, if_neg hx, if_neg hx⟩, fun x y hx => if_neg hx⟩, rfl, fun x y hx hy => ?_, fun x1 y1 x2 y2 h1 h2 h3 h4 => ?_⟩
  · have hr := prng hx hy
    obtain ⟨e1, e2⟩ := pdm (x := x) hy
    refine ⟨(if_pos hr).trans ?_, (if_pos hr).trans ?_, (if_pos hr).trans ?_⟩ <;> rw [e1, e2]
  · have hr := prng h1 h2
    have hr2 := prng h3 h4
    obtain ⟨e1, e2⟩ := pdm (x := x1) h2
    obtain ⟨e3, e4⟩ := pdm (x := x2) h4
    refine (if_pos ⟨hr, hr2⟩).trans ?_
    rw [e1, e2, e3, e4]
def sel (K : CX) (w l i : Int) : Int := fr (fun x => if Xl K w x ≤ l ∧ rkx K w l x = i then x + 1 else 0) 0 (Xn K) - 1
theorem sel_rk {K : CX} {w l x : Int} (hx : 0 ≤ x ∧ x < Xn K) (hc : Xl K w x ≤ l) : sel K w l (rkx K w l x) = x := by
  unfold sel
  rw [fr_u (g := fun z => if Xl K w z ≤ l ∧ rkx K w l z = rkx K w l x then z + 1 else 0) (x := x) (v := x + 1) (by omega) (if_pos ⟨hc, rfl⟩) hx.1 hx.2 fun j a b c => if_neg fun q => c ((rkx_i a hx.1 q.1 hc).mp q.2)]
  omega
def Xpart (K : CX) (w l : Int) : CX := (rkx K w l (Xn K), fun i => if 0 ≤ i ∧ i < rkx K w l (Xn K) then Xd K (sel K w l i) else 0, fun i => if 0 ≤ i ∧ i < rkx K w l (Xn K) then X0 K (sel K w l i) else 0, fun i => if 0 ≤ i ∧ i < rkx K w l (Xn K) then X1 K (sel K w l i) else 0, fun i j => if (0 ≤ i ∧ i < rkx K w l (Xn K)) ∧ (0 ≤ j ∧ j < rkx K w l (Xn K)) then Xe K (sel K w l i) (sel K w l j) else 0)
theorem Xpart_ok {K : CX} (h : 0 ≤ Xn K ∧ Xn K ≤ 12) (w l : Int) : isPart K w l (Xpart K w l) := by
  have hb := rkx_b K w l h.1
  refine ⟨⟨⟨hb.1, by show rkx K w l (Xn K) ≤ 12; omega⟩, fun x hx => ⟨if_neg hx, if_neg hx, if_neg hx⟩, fun x y hx => if_neg hx⟩, rfl, fun x hx hc => ?_, fun x y hx hy hc hc2 => ?_⟩
  · have hr : 0 ≤ rkx K w l x ∧ rkx K w l x < rkx K w l (Xn K) := ⟨(rkx_b K w l hx.1).1, rkx_lt hx.1 hx.2 hc⟩
    refine ⟨(if_pos hr).trans ?_, (if_pos hr).trans ?_, (if_pos hr).trans ?_⟩ <;> rw [sel_rk hx hc]
  · have hr : 0 ≤ rkx K w l x ∧ rkx K w l x < rkx K w l (Xn K) := ⟨(rkx_b K w l hx.1).1, rkx_lt hx.1 hx.2 hc⟩
    have hr2 : 0 ≤ rkx K w l y ∧ rkx K w l y < rkx K w l (Xn K) := ⟨(rkx_b K w l hy.1).1, rkx_lt hy.1 hy.2 hc2⟩
    refine (if_pos ⟨hr, hr2⟩).trans ?_
    rw [sel_rk hx hc, sel_rk hy hc2]
def Q_times (A : mm_A) (c o t : Int) : Int × mm_A := if 0 ≤ c ∧ c < 4 then (if 0 ≤ o ∧ o < 4 then (if 0 ≤ t ∧ t < 4 then (iffq (AK A c) (AK A o) (Xn (AK A c) * Xn (AK A o), Akc A t (Xprod (AK A c) (AK A o))) (-2, A)) else (-1, A)) else (-1, A)) else (-1, A)
def Q_part (A : mm_A) (c w l t : Int) : Int × mm_A := if 0 ≤ c ∧ c < 4 then (if w = 0 ∨ w = 1 then (if 0 ≤ l ∧ l ≤ 9 then (if 0 ≤ t ∧ t < 4 then (rkx (AK A c) w l (Xn (AK A c)), Akc A t (Xpart (AK A c) w l)) else (-1, A)) else (-1, A)) else (-1, A)) else (-1, A)
theorem isProd_eq {K K2 K1 : CX} (h1 : 0 ≤ Xn K) (h2 : 0 ≤ Xn K2) (h : isProd K K2 K1) : K1 = Xprod K K2 := isProd_u h2 h (Xprod_ok h1 h2 (by rw [← h.2.1]; exact h.1.1.2))
theorem isPart_eq {K K1 : CX} {w l : Int} (h0 : 0 ≤ Xn K ∧ Xn K ≤ 12) (h : isPart K w l K1) : K1 = Xpart K w l := isPart_u h0.1 h (Xpart_ok h0 w l)

set_option maxRecDepth 20000 in
set_option maxHeartbeats 4000000 in
theorem c_P_times (S : mm_S) (A : mm_A) (hRC : RC S A) (hV : Vs A) (c o t : Int) : Cl 17 [(2, 0), (0, c), (0, o), (0, t)] S (fun vv S' => vv = some (0, (Q_times A c o t).1) ∧ RC S' (Q_times A c o t).2 ∧ ∀ b, 71 ≤ b → S' b = S b) := by
  refine ⟨Nat.le_of_ble_eq_true rfl, ?_⟩
  show Rn k_P_times 0 [(2, 0), (0, c), (0, o), (0, t), (9, 0), (9, 0), (9, 0)] [] S _
  refine R_lo (nx := 1) rfl rfl rfl rfl ?_
  refine R_lo (nx := 2) rfl rfl rfl rfl ?_
  refine R_call1 (nx := 5) (as := [(2, 0), (0, c)]) (rest := []) rfl rfl (fun _ _ => rfl) rfl rfl rfl rfl rfl rfl rfl rfl (Cl.mono (c_P_complexAt S c) ?_)
  rintro _ _ (⟨rfl, b2, rfl⟩ | ⟨rfl, b2, rfl⟩)
  ·
    have kb2 := hRC.k b2.1 b2.2
    have vb2 := hV.1 c b2.1 b2.2
    have rb2 := vb2.2.1
    have nb2 := kb2.n
    have zb2 := kb2.nr
    refine ⟨_, rfl, ?_⟩
    refine R_lo (nx := 7) (ls' := [(2, 0), (0, c), (0, o), (0, t), (2, (23 + 10 * c)), (9, 0), (9, 0)]) rfl rfl rfl rfl ?_
    refine R_lo (nx := 8) rfl rfl rfl rfl ?_
    refine R_lo (nx := 9) rfl rfl rfl rfl ?_
    refine R_call1 (nx := 12) (as := [(2, 0), (0, o)]) (rest := []) rfl rfl (fun _ _ => rfl) rfl rfl rfl rfl rfl rfl rfl rfl (Cl.mono (c_P_complexAt S o) ?_)
    rintro _ _ (⟨rfl, b9, rfl⟩ | ⟨rfl, b9, rfl⟩)
    ·
      have kb9 := hRC.k b9.1 b9.2
      have vb9 := hV.1 o b9.1 b9.2
      have rb9 := vb9.2.1
      have nb9 := kb9.n
      have zb9 := kb9.nr
      refine ⟨_, rfl, ?_⟩
      refine R_lo (nx := 14) (ls' := [(2, 0), (0, c), (0, o), (0, t), (2, (23 + 10 * c)), (2, (23 + 10 * o)), (9, 0)]) rfl rfl rfl rfl ?_
      refine R_lo (nx := 15) rfl rfl rfl rfl ?_
      refine R_lo (nx := 16) rfl rfl rfl rfl ?_
      refine R_call1 (nx := 19) (as := [(2, 0), (0, t)]) (rest := []) rfl rfl (fun _ _ => rfl) rfl rfl rfl rfl rfl rfl rfl rfl (Cl.mono (c_P_complexAt S t) ?_)
      rintro _ _ (⟨rfl, b16, rfl⟩ | ⟨rfl, b16, rfl⟩)
      ·
        have kb16 := hRC.k b16.1 b16.2
        have vb16 := hV.1 t b16.1 b16.2
        have rb16 := vb16.2.1
        have nb16 := kb16.n
        have zb16 := kb16.nr
        refine ⟨_, rfl, ?_⟩
        refine R_lo (nx := 21) (ls' := [(2, 0), (0, c), (0, o), (0, t), (2, (23 + 10 * c)), (2, (23 + 10 * o)), (2, (23 + 10 * t))]) rfl rfl rfl rfl ?_
        refine R_lo (nx := 23) rfl rfl rfl rfl ?_
        refine R_ifnull (nx := 26) (tg := 36) rfl rfl rfl (fun h => absurd h (by have := (isC_kd (isC_c (i := c) (by omega) (by omega))).1; omega)) (fun h => ?_)
        refine R_lo (nx := 28) rfl rfl rfl rfl ?_
        refine R_ifnull (nx := 31) (tg := 36) rfl rfl rfl (fun h => absurd h (by have := (isC_kd (isC_c (i := o) (by omega) (by omega))).1; omega)) (fun h => ?_)
        refine R_lo (nx := 33) rfl rfl rfl rfl ?_
        refine R_ifnonnull (nx := 36) (tg := 38) rfl rfl rfl (fun h => ?_) (fun h => absurd (by have := (isC_kd (isC_c (i := t) (by omega) (by omega))).1; omega) h)
        refine R_lo (nx := 40) rfl rfl rfl rfl ?_
        refine R_lo (nx := 42) rfl rfl rfl rfl ?_
        refine R_call1 (nx := 45) (as := [(2, (23 + 10 * c)), (2, (23 + 10 * o))]) (rest := []) rfl rfl (fun _ _ => rfl) rfl rfl rfl rfl rfl rfl (isC_rc (isC_c (i := c) (by omega) (by omega)) _) rfl (Cl.mono (c_C_canBeMultiplied S (23 + 10 * c) (isC_c (i := c) (by omega) (by omega)) (AK A c) (by first | assumption | exact MC.up (by assumption) (by omega) | exact MC.up (MC.up (by assumption) (by omega)) (by omega) | exact MC.up (MC.up (MC.up (by assumption) (by omega)) (by omega)) (by omega)) (23 + 10 * o) (isC_c (i := o) (by omega) (by omega)) (AK A o) (by first | assumption | exact MC.up (by assumption) (by omega) | exact MC.up (MC.up (by assumption) (by omega)) (by omega) | exact MC.up (MC.up (MC.up (by assumption) (by omega)) (by omega)) (by omega)) (by assumption) (by assumption)) ?_)
        rintro _ _ (⟨rfl, b42, rfl⟩ | ⟨rfl, b42, rfl⟩)
        ·
          try have q42 := b42.1
          refine ⟨_, rfl, ?_⟩
          refine R_ifT (tg := 51) rfl rfl rfl ?_
          refine R_lo (nx := 52) rfl rfl rfl rfl ?_
          refine R_get (nx := 55) (w := (2, 3)) rfl rfl rfl rfl ?_
          refine R_lo (nx := 57) rfl rfl rfl rfl ?_
          refine R_lo (nx := 59) rfl rfl rfl rfl ?_
          refine R_call0 (nx := 62) (as := [(2, 3), (2, (23 + 10 * c)), (2, (23 + 10 * o))]) (rest := []) rfl rfl (fun _ _ => rfl) rfl rfl rfl rfl rfl rfl rfl rfl (Cl.mono (c_C_becomeProduct S (23 + 10 * c) (isC_c (i := c) (by omega) (by omega)) (AK A c) (by first | assumption | exact MC.up (by assumption) (by omega) | exact MC.up (MC.up (by assumption) (by omega)) (by omega) | exact MC.up (MC.up (MC.up (by assumption) (by omega)) (by omega)) (by omega)) (23 + 10 * o) (isC_c (i := o) (by omega) (by omega)) (AK A o) (by first | assumption | exact MC.up (by assumption) (by omega) | exact MC.up (MC.up (by assumption) (by omega)) (by omega) | exact MC.up (MC.up (MC.up (by assumption) (by omega)) (by omega)) (by omega)) (by omega) (by omega) (by assumption) (by assumption) (by omega)) ?_)
          rintro _ S59 ⟨rfl, K59, m59, q59, f59⟩
          try have m_f59 : MC S59 (23 + 10 * c) (AK A c) := MC.fr (by first | assumption | exact MC.up (by assumption) (by omega) | exact MC.up (MC.up (by assumption) (by omega)) (by omega) | exact MC.up (MC.up (MC.up (by assumption) (by omega)) (by omega)) (by omega)) (fun c p q => f59 c (by omega))
          try have m_f59 : MC S59 (23 + 10 * o) (AK A o) := MC.fr (by first | assumption | exact MC.up (by assumption) (by omega) | exact MC.up (MC.up (by assumption) (by omega)) (by omega) | exact MC.up (MC.up (MC.up (by assumption) (by omega)) (by omega)) (by omega)) (fun c p q => f59 c (by omega))
          try have m_f59 : MC S59 (23 + 10 * t) (AK A t) := MC.fr (by first | assumption | exact MC.up (by assumption) (by omega) | exact MC.up (MC.up (by assumption) (by omega)) (by omega) | exact MC.up (MC.up (MC.up (by assumption) (by omega)) (by omega)) (by omega)) (fun c p q => f59 c (by omega))
          refine ⟨rfl, ?_⟩
          have eK := isProd_eq zb2.1 zb9.1 q59
          subst eK
          refine R_lo (nx := 64) rfl rfl rfl rfl ?_
          refine R_lo (nx := 65) rfl rfl rfl rfl ?_
          refine R_get (nx := 68) (w := (2, 3)) rfl rfl rfl rfl ?_
          refine R_call0 (nx := 71) (as := [(2, (23 + 10 * t)), (2, 3)]) (rest := []) rfl rfl (fun _ _ => rfl) rfl rfl rfl rfl rfl rfl (isC_rc (isC_c (i := t) (by omega) (by omega)) _) rfl (Cl.mono (c_C_become S59 (23 + 10 * t) (isC_c (i := t) (by omega) (by omega)) 3 isC_3 (Xprod (AK A c) (AK A o)) (by first | assumption | exact MC.up (by assumption) (by omega) | exact MC.up (MC.up (by assumption) (by omega)) (by omega) | exact MC.up (MC.up (MC.up (by assumption) (by omega)) (by omega)) (by omega)) (by omega)) ?_)
          rintro _ S68 ⟨rfl, m68, f68⟩
          try have m_f68 : MC S68 (23 + 10 * c) (AK A c) := MC.fr (by first | assumption | exact MC.up (by assumption) (by omega) | exact MC.up (MC.up (by assumption) (by omega)) (by omega) | exact MC.up (MC.up (MC.up (by assumption) (by omega)) (by omega)) (by omega)) (fun c p q => f68 c (by omega))
          try have m_f68 : MC S68 (23 + 10 * o) (AK A o) := MC.fr (by first | assumption | exact MC.up (by assumption) (by omega) | exact MC.up (MC.up (by assumption) (by omega)) (by omega) | exact MC.up (MC.up (MC.up (by assumption) (by omega)) (by omega)) (by omega)) (fun c p q => f68 c (by omega))
          try have m_f68 : MC S68 3 (Xprod (AK A c) (AK A o)) := MC.fr (by first | assumption | exact MC.up (by assumption) (by omega) | exact MC.up (MC.up (by assumption) (by omega)) (by omega) | exact MC.up (MC.up (MC.up (by assumption) (by omega)) (by omega)) (by omega)) (fun c p q => f68 c (by omega))
          refine ⟨rfl, ?_⟩
          refine R_lo (nx := 73) rfl rfl rfl rfl ?_
          refine R_get (nx := 76) (w := (0, (S68 (23 + 10 * t) 0))) rfl rfl (isC_ob (isC_c (i := t) (by omega) (by omega))) rfl ?_
          rw [m68.n, show Xn (Xprod (AK A c) (AK A o)) = Xn (AK A c) * Xn (AK A o) from rfl]
          refine R_ret rfl (fun _ _ => rfl) rfl rfl ?_
          rw [show Q_times A c o t = ((Xn (AK A c) * Xn (AK A o)), Akc A t (Xprod (AK A c) (AK A o))) from by simp only [Q_times, b2, b9, b16, b42, ifm, ifp, iffq, ↓reduceIte, ite_self, and_self, and_true, true_and, and_false, false_and, or_true, true_or, or_false, false_or, or_self, not_true_eq_false, not_false_eq_true, ne_eq]]; exact ⟨rfl, hRC.kc b16 m68 fun b hb hc => by rw [f68 b (by omega), f59 b (by omega)], fun b hb => by rw [f68 b (by omega), f59 b (by omega)]⟩
        ·
          try have q42 := b42.1
          refine ⟨_, rfl, ?_⟩
          refine R_ifF (nx := 48) rfl rfl rfl ?_
          refine R_op (nx := 50) rfl rfl rfl ?_
          refine R_ret rfl (fun _ _ => rfl) rfl rfl ?_
          rw [show Q_times A c o t = ((-2), A) from by simp only [Q_times, b2, b9, b16, b42, ifm, ifp, iffq, ↓reduceIte, ite_self, and_self, and_true, true_and, and_false, false_and, or_true, true_or, or_false, false_or, or_self, not_true_eq_false, not_false_eq_true, ne_eq]]; exact ⟨rfl, hRC, fun b _ => rfl⟩
      ·
        refine ⟨_, rfl, ?_⟩
        refine R_lo (nx := 21) (ls' := [(2, 0), (0, c), (0, o), (0, t), (2, (23 + 10 * c)), (2, (23 + 10 * o)), (2, (-1))]) rfl rfl rfl rfl ?_
        refine R_lo (nx := 23) rfl rfl rfl rfl ?_
        refine R_ifnull (nx := 26) (tg := 36) rfl rfl rfl (fun h => absurd h (by have := (isC_kd (isC_c (i := c) (by omega) (by omega))).1; omega)) (fun h => ?_)
        refine R_lo (nx := 28) rfl rfl rfl rfl ?_
        refine R_ifnull (nx := 31) (tg := 36) rfl rfl rfl (fun h => absurd h (by have := (isC_kd (isC_c (i := o) (by omega) (by omega))).1; omega)) (fun h => ?_)
        refine R_lo (nx := 33) rfl rfl rfl rfl ?_
        refine R_ifnonnull (nx := 36) (tg := 38) rfl rfl rfl (fun h => absurd h (by decide)) (fun h => ?_)
        refine R_op (nx := 37) rfl rfl rfl ?_
        refine R_ret rfl (fun _ _ => rfl) rfl rfl ?_
        rw [show Q_times A c o t = ((-1), A) from by simp only [Q_times, b2, b9, b16, ifm, ifp, iffq, ↓reduceIte, ite_self, and_self, and_true, true_and, and_false, false_and, or_true, true_or, or_false, false_or, or_self, not_true_eq_false, not_false_eq_true, ne_eq]]; exact ⟨rfl, hRC, fun b _ => rfl⟩
    ·
      refine ⟨_, rfl, ?_⟩
      refine R_lo (nx := 14) (ls' := [(2, 0), (0, c), (0, o), (0, t), (2, (23 + 10 * c)), (2, (-1)), (9, 0)]) rfl rfl rfl rfl ?_
      refine R_lo (nx := 15) rfl rfl rfl rfl ?_
      refine R_lo (nx := 16) rfl rfl rfl rfl ?_
      refine R_call1 (nx := 19) (as := [(2, 0), (0, t)]) (rest := []) rfl rfl (fun _ _ => rfl) rfl rfl rfl rfl rfl rfl rfl rfl (Cl.mono (c_P_complexAt S t) ?_)
      rintro _ _ (⟨rfl, b16_1, rfl⟩ | ⟨rfl, b16_1, rfl⟩)
      ·
        have kb16_1 := hRC.k b16_1.1 b16_1.2
        have vb16_1 := hV.1 t b16_1.1 b16_1.2
        have rb16_1 := vb16_1.2.1
        have nb16_1 := kb16_1.n
        have zb16_1 := kb16_1.nr
        refine ⟨_, rfl, ?_⟩
        refine R_lo (nx := 21) (ls' := [(2, 0), (0, c), (0, o), (0, t), (2, (23 + 10 * c)), (2, (-1)), (2, (23 + 10 * t))]) rfl rfl rfl rfl ?_
        refine R_lo (nx := 23) rfl rfl rfl rfl ?_
        refine R_ifnull (nx := 26) (tg := 36) rfl rfl rfl (fun h => absurd h (by have := (isC_kd (isC_c (i := c) (by omega) (by omega))).1; omega)) (fun h => ?_)
        refine R_lo (nx := 28) rfl rfl rfl rfl ?_
        refine R_ifnull (nx := 31) (tg := 36) rfl rfl rfl (fun h => ?_) (fun h => absurd (by decide) h)
        refine R_op (nx := 37) rfl rfl rfl ?_
        refine R_ret rfl (fun _ _ => rfl) rfl rfl ?_
        rw [show Q_times A c o t = ((-1), A) from by simp only [Q_times, b2, b9, b16_1, ifm, ifp, iffq, ↓reduceIte, ite_self, and_self, and_true, true_and, and_false, false_and, or_true, true_or, or_false, false_or, or_self, not_true_eq_false, not_false_eq_true, ne_eq]]; exact ⟨rfl, hRC, fun b _ => rfl⟩
      ·
        refine ⟨_, rfl, ?_⟩
        refine R_lo (nx := 21) (ls' := [(2, 0), (0, c), (0, o), (0, t), (2, (23 + 10 * c)), (2, (-1)), (2, (-1))]) rfl rfl rfl rfl ?_
        refine R_lo (nx := 23) rfl rfl rfl rfl ?_
        refine R_ifnull (nx := 26) (tg := 36) rfl rfl rfl (fun h => absurd h (by have := (isC_kd (isC_c (i := c) (by omega) (by omega))).1; omega)) (fun h => ?_)
        refine R_lo (nx := 28) rfl rfl rfl rfl ?_
        refine R_ifnull (nx := 31) (tg := 36) rfl rfl rfl (fun h => ?_) (fun h => absurd (by decide) h)
        refine R_op (nx := 37) rfl rfl rfl ?_
        refine R_ret rfl (fun _ _ => rfl) rfl rfl ?_
        rw [show Q_times A c o t = ((-1), A) from by simp only [Q_times, b2, b9, b16_1, ifm, ifp, iffq, ↓reduceIte, ite_self, and_self, and_true, true_and, and_false, false_and, or_true, true_or, or_false, false_or, or_self, not_true_eq_false, not_false_eq_true, ne_eq]]; exact ⟨rfl, hRC, fun b _ => rfl⟩
  ·
    refine ⟨_, rfl, ?_⟩
    refine R_lo (nx := 7) (ls' := [(2, 0), (0, c), (0, o), (0, t), (2, (-1)), (9, 0), (9, 0)]) rfl rfl rfl rfl ?_
    refine R_lo (nx := 8) rfl rfl rfl rfl ?_
    refine R_lo (nx := 9) rfl rfl rfl rfl ?_
    refine R_call1 (nx := 12) (as := [(2, 0), (0, o)]) (rest := []) rfl rfl (fun _ _ => rfl) rfl rfl rfl rfl rfl rfl rfl rfl (Cl.mono (c_P_complexAt S o) ?_)
    rintro _ _ (⟨rfl, b9_1, rfl⟩ | ⟨rfl, b9_1, rfl⟩)
    ·
      have kb9_1 := hRC.k b9_1.1 b9_1.2
      have vb9_1 := hV.1 o b9_1.1 b9_1.2
      have rb9_1 := vb9_1.2.1
      have nb9_1 := kb9_1.n
      have zb9_1 := kb9_1.nr
      refine ⟨_, rfl, ?_⟩
      refine R_lo (nx := 14) (ls' := [(2, 0), (0, c), (0, o), (0, t), (2, (-1)), (2, (23 + 10 * o)), (9, 0)]) rfl rfl rfl rfl ?_
      refine R_lo (nx := 15) rfl rfl rfl rfl ?_
      refine R_lo (nx := 16) rfl rfl rfl rfl ?_
      refine R_call1 (nx := 19) (as := [(2, 0), (0, t)]) (rest := []) rfl rfl (fun _ _ => rfl) rfl rfl rfl rfl rfl rfl rfl rfl (Cl.mono (c_P_complexAt S t) ?_)
      rintro _ _ (⟨rfl, b16_2, rfl⟩ | ⟨rfl, b16_2, rfl⟩)
      ·
        have kb16_2 := hRC.k b16_2.1 b16_2.2
        have vb16_2 := hV.1 t b16_2.1 b16_2.2
        have rb16_2 := vb16_2.2.1
        have nb16_2 := kb16_2.n
        have zb16_2 := kb16_2.nr
        refine ⟨_, rfl, ?_⟩
        refine R_lo (nx := 21) (ls' := [(2, 0), (0, c), (0, o), (0, t), (2, (-1)), (2, (23 + 10 * o)), (2, (23 + 10 * t))]) rfl rfl rfl rfl ?_
        refine R_lo (nx := 23) rfl rfl rfl rfl ?_
        refine R_ifnull (nx := 26) (tg := 36) rfl rfl rfl (fun h => ?_) (fun h => absurd (by decide) h)
        refine R_op (nx := 37) rfl rfl rfl ?_
        refine R_ret rfl (fun _ _ => rfl) rfl rfl ?_
        rw [show Q_times A c o t = ((-1), A) from by simp only [Q_times, b2, b9_1, b16_2, ifm, ifp, iffq, ↓reduceIte, ite_self, and_self, and_true, true_and, and_false, false_and, or_true, true_or, or_false, false_or, or_self, not_true_eq_false, not_false_eq_true, ne_eq]]; exact ⟨rfl, hRC, fun b _ => rfl⟩
      ·
        refine ⟨_, rfl, ?_⟩
        refine R_lo (nx := 21) (ls' := [(2, 0), (0, c), (0, o), (0, t), (2, (-1)), (2, (23 + 10 * o)), (2, (-1))]) rfl rfl rfl rfl ?_
        refine R_lo (nx := 23) rfl rfl rfl rfl ?_
        refine R_ifnull (nx := 26) (tg := 36) rfl rfl rfl (fun h => ?_) (fun h => absurd (by decide) h)
        refine R_op (nx := 37) rfl rfl rfl ?_
        refine R_ret rfl (fun _ _ => rfl) rfl rfl ?_
        rw [show Q_times A c o t = ((-1), A) from by simp only [Q_times, b2, b9_1, b16_2, ifm, ifp, iffq, ↓reduceIte, ite_self, and_self, and_true, true_and, and_false, false_and, or_true, true_or, or_false, false_or, or_self, not_true_eq_false, not_false_eq_true, ne_eq]]; exact ⟨rfl, hRC, fun b _ => rfl⟩
    ·
      refine ⟨_, rfl, ?_⟩
      refine R_lo (nx := 14) (ls' := [(2, 0), (0, c), (0, o), (0, t), (2, (-1)), (2, (-1)), (9, 0)]) rfl rfl rfl rfl ?_
      refine R_lo (nx := 15) rfl rfl rfl rfl ?_
      refine R_lo (nx := 16) rfl rfl rfl rfl ?_
      refine R_call1 (nx := 19) (as := [(2, 0), (0, t)]) (rest := []) rfl rfl (fun _ _ => rfl) rfl rfl rfl rfl rfl rfl rfl rfl (Cl.mono (c_P_complexAt S t) ?_)
      rintro _ _ (⟨rfl, b16_3, rfl⟩ | ⟨rfl, b16_3, rfl⟩)
      ·
        have kb16_3 := hRC.k b16_3.1 b16_3.2
        have vb16_3 := hV.1 t b16_3.1 b16_3.2
        have rb16_3 := vb16_3.2.1
        have nb16_3 := kb16_3.n
        have zb16_3 := kb16_3.nr
        refine ⟨_, rfl, ?_⟩
        refine R_lo (nx := 21) (ls' := [(2, 0), (0, c), (0, o), (0, t), (2, (-1)), (2, (-1)), (2, (23 + 10 * t))]) rfl rfl rfl rfl ?_
        refine R_lo (nx := 23) rfl rfl rfl rfl ?_
        refine R_ifnull (nx := 26) (tg := 36) rfl rfl rfl (fun h => ?_) (fun h => absurd (by decide) h)
        refine R_op (nx := 37) rfl rfl rfl ?_
        refine R_ret rfl (fun _ _ => rfl) rfl rfl ?_
        rw [show Q_times A c o t = ((-1), A) from by simp only [Q_times, b2, b9_1, b16_3, ifm, ifp, iffq, ↓reduceIte, ite_self, and_self, and_true, true_and, and_false, false_and, or_true, true_or, or_false, false_or, or_self, not_true_eq_false, not_false_eq_true, ne_eq]]; exact ⟨rfl, hRC, fun b _ => rfl⟩
      ·
        refine ⟨_, rfl, ?_⟩
        refine R_lo (nx := 21) (ls' := [(2, 0), (0, c), (0, o), (0, t), (2, (-1)), (2, (-1)), (2, (-1))]) rfl rfl rfl rfl ?_
        refine R_lo (nx := 23) rfl rfl rfl rfl ?_
        refine R_ifnull (nx := 26) (tg := 36) rfl rfl rfl (fun h => ?_) (fun h => absurd (by decide) h)
        refine R_op (nx := 37) rfl rfl rfl ?_
        refine R_ret rfl (fun _ _ => rfl) rfl rfl ?_
        rw [show Q_times A c o t = ((-1), A) from by simp only [Q_times, b2, b9_1, b16_3, ifm, ifp, iffq, ↓reduceIte, ite_self, and_self, and_true, true_and, and_false, false_and, or_true, true_or, or_false, false_or, or_self, not_true_eq_false, not_false_eq_true, ne_eq]]; exact ⟨rfl, hRC, fun b _ => rfl⟩

set_option maxRecDepth 20000 in
set_option maxHeartbeats 4000000 in
theorem c_P_part (S : mm_S) (A : mm_A) (hRC : RC S A) (hV : Vs A) (c w l t : Int) : Cl 18 [(2, 0), (0, c), (0, w), (0, l), (0, t)] S (fun vv S' => vv = some (0, (Q_part A c w l t).1) ∧ RC S' (Q_part A c w l t).2 ∧ ∀ b, 71 ≤ b → S' b = S b) := by
  refine ⟨Nat.le_of_ble_eq_true rfl, ?_⟩
  show Rn k_P_part 0 [(2, 0), (0, c), (0, w), (0, l), (0, t), (9, 0), (9, 0)] [] S _
  refine R_lo (nx := 1) rfl rfl rfl rfl ?_
  refine R_lo (nx := 2) rfl rfl rfl rfl ?_
  refine R_call1 (nx := 5) (as := [(2, 0), (0, c)]) (rest := []) rfl rfl (fun _ _ => rfl) rfl rfl rfl rfl rfl rfl rfl rfl (Cl.mono (c_P_complexAt S c) ?_)
  rintro _ _ (⟨rfl, b2, rfl⟩ | ⟨rfl, b2, rfl⟩)
  ·
    have kb2 := hRC.k b2.1 b2.2
    have vb2 := hV.1 c b2.1 b2.2
    have rb2 := vb2.2.1
    have nb2 := kb2.n
    have zb2 := kb2.nr
    refine ⟨_, rfl, ?_⟩
    refine R_lo (nx := 7) (ls' := [(2, 0), (0, c), (0, w), (0, l), (0, t), (2, (23 + 10 * c)), (9, 0)]) rfl rfl rfl rfl ?_
    refine R_lo (nx := 8) rfl rfl rfl rfl ?_
    refine R_lo (nx := 10) rfl rfl rfl rfl ?_
    refine R_call1 (nx := 13) (as := [(2, 0), (0, t)]) (rest := []) rfl rfl (fun _ _ => rfl) rfl rfl rfl rfl rfl rfl rfl rfl (Cl.mono (c_P_complexAt S t) ?_)
    rintro _ _ (⟨rfl, b10, rfl⟩ | ⟨rfl, b10, rfl⟩)
    ·
      have kb10 := hRC.k b10.1 b10.2
      have vb10 := hV.1 t b10.1 b10.2
      have rb10 := vb10.2.1
      have nb10 := kb10.n
      have zb10 := kb10.nr
      refine ⟨_, rfl, ?_⟩
      refine R_lo (nx := 15) (ls' := [(2, 0), (0, c), (0, w), (0, l), (0, t), (2, (23 + 10 * c)), (2, (23 + 10 * t))]) rfl rfl rfl rfl ?_
      refine R_lo (nx := 17) rfl rfl rfl rfl ?_
      refine R_ifnull (nx := 20) (tg := 39) rfl rfl rfl (fun h => absurd h (by have := (isC_kd (isC_c (i := c) (by omega) (by omega))).1; omega)) (fun h => ?_)
      refine R_lo (nx := 22) rfl rfl rfl rfl ?_
      refine R_ifnull (nx := 25) (tg := 39) rfl rfl rfl (fun h => absurd h (by have := (isC_kd (isC_c (i := t) (by omega) (by omega))).1; omega)) (fun h => ?_)
      refine R_lo (nx := 26) rfl rfl rfl rfl ?_
      refine R_call1 (nx := 29) (as := [(0, w)]) (rest := []) rfl rfl (fun _ _ => rfl) rfl rfl rfl rfl rfl rfl rfl rfl (Cl.mono (c_P_isWay S w) ?_)
      rintro _ _ (⟨rfl, b26, rfl⟩ | ⟨rfl, b26, rfl⟩)
      ·
        refine ⟨_, rfl, ?_⟩
        refine R_ifF (nx := 32) rfl rfl rfl ?_
        refine R_lo (nx := 33) rfl rfl rfl rfl ?_
        refine R_call1 (nx := 36) (as := [(0, l)]) (rest := []) rfl rfl (fun _ _ => rfl) rfl rfl rfl rfl rfl rfl rfl rfl (Cl.mono (c_P_isLevel S l) ?_)
        rintro _ _ (⟨rfl, b33, rfl⟩ | ⟨rfl, b33, rfl⟩)
        ·
          refine ⟨_, rfl, ?_⟩
          refine R_ifT (tg := 41) rfl rfl rfl ?_
          refine R_lo (nx := 42) rfl rfl rfl rfl ?_
          refine R_get (nx := 45) (w := (2, 3)) rfl rfl rfl rfl ?_
          refine R_lo (nx := 47) rfl rfl rfl rfl ?_
          refine R_lo (nx := 48) rfl rfl rfl rfl ?_
          refine R_lo (nx := 49) rfl rfl rfl rfl ?_
          refine R_call0 (nx := 52) (as := [(2, 3), (2, (23 + 10 * c)), (0, w), (0, l)]) (rest := []) rfl rfl (fun _ _ => rfl) rfl rfl rfl rfl rfl rfl rfl rfl (Cl.mono (c_C_becomePart S (23 + 10 * c) (isC_c (i := c) (by omega) (by omega)) (AK A c) (by first | assumption | exact MC.up (by assumption) (by omega) | exact MC.up (MC.up (by assumption) (by omega)) (by omega) | exact MC.up (MC.up (MC.up (by assumption) (by omega)) (by omega)) (by omega)) (by omega) w l) ?_)
          rintro _ S49 ⟨rfl, K49, m49, q49, f49⟩
          try have m_f49 : MC S49 (23 + 10 * c) (AK A c) := MC.fr (by first | assumption | exact MC.up (by assumption) (by omega) | exact MC.up (MC.up (by assumption) (by omega)) (by omega) | exact MC.up (MC.up (MC.up (by assumption) (by omega)) (by omega)) (by omega)) (fun c p q => f49 c (by omega))
          try have m_f49 : MC S49 (23 + 10 * t) (AK A t) := MC.fr (by first | assumption | exact MC.up (by assumption) (by omega) | exact MC.up (MC.up (by assumption) (by omega)) (by omega) | exact MC.up (MC.up (MC.up (by assumption) (by omega)) (by omega)) (by omega)) (fun c p q => f49 c (by omega))
          refine ⟨rfl, ?_⟩
          have eK := isPart_eq zb2 q49
          subst eK
          refine R_lo (nx := 54) rfl rfl rfl rfl ?_
          refine R_lo (nx := 55) rfl rfl rfl rfl ?_
          refine R_get (nx := 58) (w := (2, 3)) rfl rfl rfl rfl ?_
          refine R_call0 (nx := 61) (as := [(2, (23 + 10 * t)), (2, 3)]) (rest := []) rfl rfl (fun _ _ => rfl) rfl rfl rfl rfl rfl rfl (isC_rc (isC_c (i := t) (by omega) (by omega)) _) rfl (Cl.mono (c_C_become S49 (23 + 10 * t) (isC_c (i := t) (by omega) (by omega)) 3 isC_3 (Xpart (AK A c) w l) (by first | assumption | exact MC.up (by assumption) (by omega) | exact MC.up (MC.up (by assumption) (by omega)) (by omega) | exact MC.up (MC.up (MC.up (by assumption) (by omega)) (by omega)) (by omega)) (by omega)) ?_)
          rintro _ S58 ⟨rfl, m58, f58⟩
          try have m_f58 : MC S58 (23 + 10 * c) (AK A c) := MC.fr (by first | assumption | exact MC.up (by assumption) (by omega) | exact MC.up (MC.up (by assumption) (by omega)) (by omega) | exact MC.up (MC.up (MC.up (by assumption) (by omega)) (by omega)) (by omega)) (fun c p q => f58 c (by omega))
          try have m_f58 : MC S58 3 (Xpart (AK A c) w l) := MC.fr (by first | assumption | exact MC.up (by assumption) (by omega) | exact MC.up (MC.up (by assumption) (by omega)) (by omega) | exact MC.up (MC.up (MC.up (by assumption) (by omega)) (by omega)) (by omega)) (fun c p q => f58 c (by omega))
          refine ⟨rfl, ?_⟩
          refine R_lo (nx := 63) rfl rfl rfl rfl ?_
          refine R_get (nx := 66) (w := (0, (S58 (23 + 10 * t) 0))) rfl rfl (isC_ob (isC_c (i := t) (by omega) (by omega))) rfl ?_
          rw [m58.n, show Xn (Xpart (AK A c) w l) = rkx (AK A c) w l (Xn (AK A c)) from rfl]
          refine R_ret rfl (fun _ _ => rfl) rfl rfl ?_
          rw [show Q_part A c w l t = ((rkx (AK A c) w l (Xn (AK A c))), Akc A t (Xpart (AK A c) w l)) from by simp only [Q_part, b2, b10, b26, b33, ifm, ifp, iffq, ↓reduceIte, ite_self, and_self, and_true, true_and, and_false, false_and, or_true, true_or, or_false, false_or, or_self, not_true_eq_false, not_false_eq_true, ne_eq]]; exact ⟨rfl, hRC.kc b10 m58 fun b hb hc => by rw [f58 b (by omega), f49 b (by omega)], fun b hb => by rw [f58 b (by omega), f49 b (by omega)]⟩
        ·
          refine ⟨_, rfl, ?_⟩
          refine R_ifF (nx := 39) rfl rfl rfl ?_
          refine R_op (nx := 40) rfl rfl rfl ?_
          refine R_ret rfl (fun _ _ => rfl) rfl rfl ?_
          rw [show Q_part A c w l t = ((-1), A) from by simp only [Q_part, b2, b10, b26, b33, ifm, ifp, iffq, ↓reduceIte, ite_self, and_self, and_true, true_and, and_false, false_and, or_true, true_or, or_false, false_or, or_self, not_true_eq_false, not_false_eq_true, ne_eq]]; exact ⟨rfl, hRC, fun b _ => rfl⟩
      ·
        refine ⟨_, rfl, ?_⟩
        refine R_ifT (tg := 39) rfl rfl rfl ?_
        refine R_op (nx := 40) rfl rfl rfl ?_
        refine R_ret rfl (fun _ _ => rfl) rfl rfl ?_
        rw [show Q_part A c w l t = ((-1), A) from by simp only [Q_part, b2, b10, b26, ifm, ifp, iffq, ↓reduceIte, ite_self, and_self, and_true, true_and, and_false, false_and, or_true, true_or, or_false, false_or, or_self, not_true_eq_false, not_false_eq_true, ne_eq]]; exact ⟨rfl, hRC, fun b _ => rfl⟩
    ·
      refine ⟨_, rfl, ?_⟩
      refine R_lo (nx := 15) (ls' := [(2, 0), (0, c), (0, w), (0, l), (0, t), (2, (23 + 10 * c)), (2, (-1))]) rfl rfl rfl rfl ?_
      refine R_lo (nx := 17) rfl rfl rfl rfl ?_
      refine R_ifnull (nx := 20) (tg := 39) rfl rfl rfl (fun h => absurd h (by have := (isC_kd (isC_c (i := c) (by omega) (by omega))).1; omega)) (fun h => ?_)
      refine R_lo (nx := 22) rfl rfl rfl rfl ?_
      refine R_ifnull (nx := 25) (tg := 39) rfl rfl rfl (fun h => ?_) (fun h => absurd (by decide) h)
      refine R_op (nx := 40) rfl rfl rfl ?_
      refine R_ret rfl (fun _ _ => rfl) rfl rfl ?_
      rw [show Q_part A c w l t = ((-1), A) from by simp only [Q_part, b2, b10, ifm, ifp, iffq, ↓reduceIte, ite_self, and_self, and_true, true_and, and_false, false_and, or_true, true_or, or_false, false_or, or_self, not_true_eq_false, not_false_eq_true, ne_eq]]; exact ⟨rfl, hRC, fun b _ => rfl⟩
  ·
    refine ⟨_, rfl, ?_⟩
    refine R_lo (nx := 7) (ls' := [(2, 0), (0, c), (0, w), (0, l), (0, t), (2, (-1)), (9, 0)]) rfl rfl rfl rfl ?_
    refine R_lo (nx := 8) rfl rfl rfl rfl ?_
    refine R_lo (nx := 10) rfl rfl rfl rfl ?_
    refine R_call1 (nx := 13) (as := [(2, 0), (0, t)]) (rest := []) rfl rfl (fun _ _ => rfl) rfl rfl rfl rfl rfl rfl rfl rfl (Cl.mono (c_P_complexAt S t) ?_)
    rintro _ _ (⟨rfl, b10_1, rfl⟩ | ⟨rfl, b10_1, rfl⟩)
    ·
      have kb10_1 := hRC.k b10_1.1 b10_1.2
      have vb10_1 := hV.1 t b10_1.1 b10_1.2
      have rb10_1 := vb10_1.2.1
      have nb10_1 := kb10_1.n
      have zb10_1 := kb10_1.nr
      refine ⟨_, rfl, ?_⟩
      refine R_lo (nx := 15) (ls' := [(2, 0), (0, c), (0, w), (0, l), (0, t), (2, (-1)), (2, (23 + 10 * t))]) rfl rfl rfl rfl ?_
      refine R_lo (nx := 17) rfl rfl rfl rfl ?_
      refine R_ifnull (nx := 20) (tg := 39) rfl rfl rfl (fun h => ?_) (fun h => absurd (by decide) h)
      refine R_op (nx := 40) rfl rfl rfl ?_
      refine R_ret rfl (fun _ _ => rfl) rfl rfl ?_
      rw [show Q_part A c w l t = ((-1), A) from by simp only [Q_part, b2, b10_1, ifm, ifp, iffq, ↓reduceIte, ite_self, and_self, and_true, true_and, and_false, false_and, or_true, true_or, or_false, false_or, or_self, not_true_eq_false, not_false_eq_true, ne_eq]]; exact ⟨rfl, hRC, fun b _ => rfl⟩
    ·
      refine ⟨_, rfl, ?_⟩
      refine R_lo (nx := 15) (ls' := [(2, 0), (0, c), (0, w), (0, l), (0, t), (2, (-1)), (2, (-1))]) rfl rfl rfl rfl ?_
      refine R_lo (nx := 17) rfl rfl rfl rfl ?_
      refine R_ifnull (nx := 20) (tg := 39) rfl rfl rfl (fun h => ?_) (fun h => absurd (by decide) h)
      refine R_op (nx := 40) rfl rfl rfl ?_
      refine R_ret rfl (fun _ _ => rfl) rfl rfl ?_
      rw [show Q_part A c w l t = ((-1), A) from by simp only [Q_part, b2, b10_1, ifm, ifp, iffq, ↓reduceIte, ite_self, and_self, and_true, true_and, and_false, false_and, or_true, true_or, or_false, false_or, or_self, not_true_eq_false, not_false_eq_true, ne_eq]]; exact ⟨rfl, hRC, fun b _ => rfl⟩
