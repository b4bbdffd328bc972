/-! The class's complexes. -/
set_option maxRecDepth 20000 in
set_option maxHeartbeats 4000000 in
theorem c_C_has (S : mm_S) (a : Int) (hC : mm_isC a) (K : CX) (h : MC S a K) (x : Int) : Cl 120 [(2, a), (0, x)] S (fun v S' => (v = some (0, 1) ∧ (0 ≤ x ∧ x < Xn K) ∧ S = S') ∨ (v = some (0, 0) ∧ ¬ (0 ≤ x ∧ x < Xn K) ∧ S = S')) := by
  refine ⟨Nat.le_of_ble_eq_true rfl, ?_⟩
  show Rn k_C_has 0 [(2, a), (0, x)] [] S _
  have hnr := h.nr
  have hn := h.n
  refine R_lo (nx := 1) rfl rfl rfl rfl ?_
  refine R_if (nx := 4) (tg := 25) rfl rfl rfl (mm_cnd_lt _ _) (fun c1 => ?_) (fun c1 => ?_)
  ·
    refine R_op (nx := 26) rfl rfl rfl ?_
    refine R_ret rfl (fun _ _ => rfl) rfl rfl ?_
    first | exact Or.inl ⟨rfl, by omega, rfl⟩ | exact Or.inr ⟨rfl, by omega, rfl⟩
  ·
    refine R_lo (nx := 5) rfl rfl rfl rfl ?_
    refine R_lo (nx := 6) rfl rfl rfl rfl ?_
    refine R_get (nx := 9) (w := (0, (S a 0))) rfl rfl (isC_ob hC) rfl ?_
    refine R_icmp (nx := 12) (tg := 25) rfl rfl rfl (mm_cnd_ge _ _) (fun c9 => ?_) (fun c9 => ?_)
    ·
      refine R_op (nx := 26) rfl rfl rfl ?_
      refine R_ret rfl (fun _ _ => rfl) rfl rfl ?_
      first | exact Or.inl ⟨rfl, by omega, rfl⟩ | exact Or.inr ⟨rfl, by omega, rfl⟩
    ·
      refine R_lo (nx := 13) rfl rfl rfl rfl ?_
      refine R_get (nx := 16) (w := (0, (S a 0))) rfl rfl (isC_ob hC) rfl ?_
      refine R_op (nx := 18) rfl rfl rfl ?_
      refine R_icmp (nx := 21) (tg := 25) rfl rfl rfl (mm_cnd_gt _ _) (fun c18 => ?_) (fun c18 => ?_)
      ·
        refine R_op (nx := 26) rfl rfl rfl ?_
        refine R_ret rfl (fun _ _ => rfl) rfl rfl ?_
        first | exact Or.inl ⟨rfl, by omega, rfl⟩ | exact Or.inr ⟨rfl, by omega, rfl⟩
      ·
        refine R_op (nx := 22) rfl rfl rfl ?_
        refine R_op (nx := 25) (pc' := 26) rfl rfl rfl ?_
        refine R_ret rfl (fun _ _ => rfl) rfl rfl ?_
        first | exact Or.inl ⟨rfl, by omega, rfl⟩ | exact Or.inr ⟨rfl, by omega, rfl⟩

set_option maxRecDepth 20000 in
set_option maxHeartbeats 4000000 in
theorem c_C_degree (S : mm_S) (a : Int) (hC : mm_isC a) (K : CX) (h : MC S a K) (x : Int) : Cl 121 [(2, a), (0, x)] S (fun v S' => v = some (0, Xd K x) ∧ S = S') := by
  refine ⟨Nat.le_of_ble_eq_true rfl, ?_⟩
  show Rn k_C_degree 0 [(2, a), (0, x)] [] S _
  have hnr := h.nr
  have hn := h.n
  refine R_lo (nx := 1) rfl rfl rfl rfl ?_
  refine R_lo (nx := 2) rfl rfl rfl rfl ?_
  refine R_call1 (nx := 5) (as := [(2, a), (0, x)]) (rest := []) rfl rfl (fun _ _ => rfl) rfl rfl rfl rfl rfl rfl (isC_rc hC _) rfl (Cl.mono (c_C_has S a hC K (by first | assumption | exact MC.up (by assumption) (by omega) | exact MC.up (MC.up (by assumption) (by omega)) (by omega) | exact MC.up (MC.up (MC.up (by assumption) (by omega)) (by omega)) (by omega)) x) ?_)
  rintro _ _ (⟨rfl, b2, rfl⟩ | ⟨rfl, b2, rfl⟩)
  ·
    refine ⟨_, rfl, ?_⟩
    refine R_ifF (nx := 8) rfl rfl rfl ?_
    refine R_lo (nx := 9) rfl rfl rfl rfl ?_
    refine R_get (nx := 12) (w := (2, (a + 1))) rfl rfl (isC_ob hC) rfl ?_
    refine R_lo (nx := 13) rfl rfl rfl rfl ?_
    refine R_iald (nx := 14) rfl rfl (isC_el1 hC (by omega) (by omega)) ?_
    refine R_op (nx := 17) (pc' := 18) rfl rfl rfl ?_
    refine R_ret rfl (fun _ _ => rfl) rfl rfl ?_
    first | exact ⟨by rw [h.d b2], rfl⟩ | exact ⟨by rw [h.1.d b2], rfl⟩
  ·
    refine ⟨_, rfl, ?_⟩
    refine R_ifT (tg := 17) rfl rfl rfl ?_
    refine R_op (nx := 18) rfl rfl rfl ?_
    refine R_ret rfl (fun _ _ => rfl) rfl rfl ?_
    first | exact ⟨by rw [h.d b2], rfl⟩ | exact ⟨by rw [h.1.d b2], rfl⟩

set_option maxRecDepth 20000 in
set_option maxHeartbeats 4000000 in
theorem c_C_level (S : mm_S) (a : Int) (hC : mm_isC a) (K : CX) (h : MC S a K) (w x : Int) : Cl 122 [(2, a), (0, w), (0, x)] S (fun v S' => v = some (0, Xl K w x) ∧ S = S') := by
  refine ⟨Nat.le_of_ble_eq_true rfl, ?_⟩
  show Rn k_C_level 0 [(2, a), (0, w), (0, x)] [] S _
  have hnr := h.nr
  have hn := h.n
  refine R_lo (nx := 1) rfl rfl rfl rfl ?_
  refine R_lo (nx := 2) rfl rfl rfl rfl ?_
  refine R_call1 (nx := 5) (as := [(2, a), (0, x)]) (rest := []) rfl rfl (fun _ _ => rfl) rfl rfl rfl rfl rfl rfl (isC_rc hC _) rfl (Cl.mono (c_C_has S a hC K (by first | assumption | exact MC.up (by assumption) (by omega) | exact MC.up (MC.up (by assumption) (by omega)) (by omega) | exact MC.up (MC.up (MC.up (by assumption) (by omega)) (by omega)) (by omega)) x) ?_)
  rintro _ _ (⟨rfl, b2, rfl⟩ | ⟨rfl, b2, rfl⟩)
  ·
    refine ⟨_, rfl, ?_⟩
    refine R_ifT (tg := 10) rfl rfl rfl ?_
    refine R_lo (nx := 11) rfl rfl rfl rfl ?_
    refine R_if (nx := 14) (tg := 23) rfl rfl rfl (mm_cnd_ne _ _) (fun c11 => ?_) (fun c11 => ?_)
    ·
      refine R_lo (nx := 24) rfl rfl rfl rfl ?_
      refine R_get (nx := 27) (w := (2, (a + 3))) rfl rfl (isC_ob hC) rfl ?_
      refine R_lo (nx := 28) rfl rfl rfl rfl ?_
      refine R_iald (nx := 29) rfl rfl (isC_el3 hC (by omega) (by omega)) ?_
      refine R_ret rfl (fun _ _ => rfl) rfl rfl ?_
      first | exact ⟨by rw [h.1.l b2], rfl⟩ | (have c := c11; subst c; exact ⟨by rw [Xl_0, h.l0 b2], rfl⟩) | exact ⟨by rw [Xl_n K c11, h.l1 b2], rfl⟩
    ·
      replace c11 := Classical.not_not.mp c11
      refine R_lo (nx := 15) rfl rfl rfl rfl ?_
      refine R_get (nx := 18) (w := (2, (a + 2))) rfl rfl (isC_ob hC) rfl ?_
      refine R_lo (nx := 19) rfl rfl rfl rfl ?_
      refine R_iald (nx := 20) rfl rfl (isC_el2 hC (by omega) (by omega)) ?_
      refine R_op (nx := 23) (pc' := 29) rfl rfl rfl ?_
      refine R_ret rfl (fun _ _ => rfl) rfl rfl ?_
      first | exact ⟨by rw [h.1.l b2], rfl⟩ | (have c := c11; subst c; exact ⟨by rw [Xl_0, h.l0 b2], rfl⟩) | exact ⟨by rw [Xl_n K c11, h.l1 b2], rfl⟩
  ·
    refine ⟨_, rfl, ?_⟩
    refine R_ifF (nx := 8) rfl rfl rfl ?_
    refine R_op (nx := 9) rfl rfl rfl ?_
    refine R_ret rfl (fun _ _ => rfl) rfl rfl ?_
    first | exact ⟨by rw [h.1.l b2], rfl⟩ | (have c := c11; subst c; exact ⟨by rw [Xl_0, h.l0 b2], rfl⟩) | exact ⟨by rw [Xl_n K c11, h.l1 b2], rfl⟩

set_option maxRecDepth 20000 in
set_option maxHeartbeats 4000000 in
theorem c_C_edge (S : mm_S) (a : Int) (hC : mm_isC a) (K : CX) (h : MC S a K) (x y : Int) : Cl 123 [(2, a), (0, x), (0, y)] S (fun v S' => v = some (0, Xe K x y) ∧ S = S') := by
  refine ⟨Nat.le_of_ble_eq_true rfl, ?_⟩
  show Rn k_C_edge 0 [(2, a), (0, x), (0, y)] [] S _
  have hnr := h.nr
  have hn := h.n
  refine R_lo (nx := 1) rfl rfl rfl rfl ?_
  refine R_lo (nx := 2) rfl rfl rfl rfl ?_
  refine R_call1 (nx := 5) (as := [(2, a), (0, x)]) (rest := []) rfl rfl (fun _ _ => rfl) rfl rfl rfl rfl rfl rfl (isC_rc hC _) rfl (Cl.mono (c_C_has S a hC K (by first | assumption | exact MC.up (by assumption) (by omega) | exact MC.up (MC.up (by assumption) (by omega)) (by omega) | exact MC.up (MC.up (MC.up (by assumption) (by omega)) (by omega)) (by omega)) x) ?_)
  rintro _ _ (⟨rfl, b2, rfl⟩ | ⟨rfl, b2, rfl⟩)
  ·
    refine ⟨_, rfl, ?_⟩
    refine R_ifF (nx := 8) rfl rfl rfl ?_
    refine R_lo (nx := 9) rfl rfl rfl rfl ?_
    refine R_lo (nx := 10) rfl rfl rfl rfl ?_
    refine R_call1 (nx := 13) (as := [(2, a), (0, y)]) (rest := []) rfl rfl (fun _ _ => rfl) rfl rfl rfl rfl rfl rfl (isC_rc hC _) rfl (Cl.mono (c_C_has S a hC K (by first | assumption | exact MC.up (by assumption) (by omega) | exact MC.up (MC.up (by assumption) (by omega)) (by omega) | exact MC.up (MC.up (MC.up (by assumption) (by omega)) (by omega)) (by omega)) y) ?_)
    rintro _ _ (⟨rfl, b10, rfl⟩ | ⟨rfl, b10, rfl⟩)
    ·
      refine ⟨_, rfl, ?_⟩
      refine R_ifF (nx := 16) rfl rfl rfl ?_
      refine R_lo (nx := 17) rfl rfl rfl rfl ?_
      refine R_get (nx := 20) (w := (2, (a + 4))) rfl rfl (isC_ob hC) rfl ?_
      refine R_lo (nx := 21) rfl rfl rfl rfl ?_
      refine R_op (nx := 23) rfl rfl rfl ?_
      refine R_imul (nx := 24) (z := (x * 12)) rfl rfl rfl ⟨by omega, by omega⟩ ?_
      refine R_lo (nx := 25) rfl rfl rfl rfl ?_
      refine R_iadd (nx := 26) (z := ((x * 12) + y)) rfl rfl rfl ⟨by omega, by omega⟩ ?_
      refine R_iald (nx := 27) rfl rfl (isC_el4 hC (by omega) (by omega)) ?_
      refine R_op (nx := 30) (pc' := 31) rfl rfl rfl ?_
      refine R_ret rfl (fun _ _ => rfl) rfl rfl ?_
      first | exact ⟨by rw [h.e b2 b10], rfl⟩ | exact ⟨by rw [h.1.e (by omega)], rfl⟩
    ·
      refine ⟨_, rfl, ?_⟩
      refine R_ifT (tg := 30) rfl rfl rfl ?_
      refine R_op (nx := 31) rfl rfl rfl ?_
      refine R_ret rfl (fun _ _ => rfl) rfl rfl ?_
      first | exact ⟨by rw [h.e b2 b10], rfl⟩ | exact ⟨by rw [h.1.e (by omega)], rfl⟩
  ·
    refine ⟨_, rfl, ?_⟩
    refine R_ifT (tg := 30) rfl rfl rfl ?_
    refine R_op (nx := 31) rfl rfl rfl ?_
    refine R_ret rfl (fun _ _ => rfl) rfl rfl ?_
    first | exact ⟨by rw [h.e b2 b10], rfl⟩ | exact ⟨by rw [h.1.e (by omega)], rfl⟩

theorem MC.set {S : mm_S} {a : Int} {K : CX} (h : MC S a K) {x y : Int} (v : Int) (hx : 0 ≤ x ∧ x < Xn K) (hy : 0 ≤ y ∧ y < Xn K) : MC (mm_up S (a + 4) (x * 12 + y) v) a (Xset K x y v) := by
  have hnr := h.nr
  refine ⟨Xset_Nz h.1 x y v, ?_, fun i p q => ?_, fun i j p q r t => ?_⟩
  · rw [mm_unq (by omega), Xset_n]; exact h.n
  · rw [mm_unq (by omega), mm_unq (by omega), mm_unq (by omega)]; exact h.2.2.1 i p q
  · rw [Xset_n] at q t
    rw [Xset_e]
    by_cases e : i = x ∧ j = y
    · obtain ⟨rfl, rfl⟩ := e
      rw [if_pos ⟨⟨hx, hy⟩, rfl, rfl⟩]
      exact mm_ua
    · rw [if_neg (fun z => e z.2), mm_uk (by omega)]
      exact h.e ⟨p, q⟩ ⟨r, t⟩

set_option maxRecDepth 20000 in
set_option maxHeartbeats 4000000 in
theorem c_C_setEdge (S : mm_S) (a : Int) (hC : mm_isC a) (K : CX) (h : MC S a K) (x y z : Int) : Cl 124 [(2, a), (0, x), (0, y), (0, z)] S (fun v S' => v = none ∧ MC S' a (Xset K x y z) ∧ ∀ b, b ≠ a + 4 → S' b = S b) := by
  refine ⟨Nat.le_of_ble_eq_true rfl, ?_⟩
  show Rn k_C_setEdge 0 [(2, a), (0, x), (0, y), (0, z)] [] S _
  have hnr := h.nr
  have hn := h.n
  refine R_lo (nx := 1) rfl rfl rfl rfl ?_
  refine R_lo (nx := 2) rfl rfl rfl rfl ?_
  refine R_call1 (nx := 5) (as := [(2, a), (0, x)]) (rest := []) rfl rfl (fun _ _ => rfl) rfl rfl rfl rfl rfl rfl (isC_rc hC _) rfl (Cl.mono (c_C_has S a hC K (by first | assumption | exact MC.up (by assumption) (by omega) | exact MC.up (MC.up (by assumption) (by omega)) (by omega) | exact MC.up (MC.up (MC.up (by assumption) (by omega)) (by omega)) (by omega)) x) ?_)
  rintro _ _ (⟨rfl, b2, rfl⟩ | ⟨rfl, b2, rfl⟩)
  ·
    refine ⟨_, rfl, ?_⟩
    refine R_ifF (nx := 8) rfl rfl rfl ?_
    refine R_lo (nx := 9) rfl rfl rfl rfl ?_
    refine R_lo (nx := 10) rfl rfl rfl rfl ?_
    refine R_call1 (nx := 13) (as := [(2, a), (0, y)]) (rest := []) rfl rfl (fun _ _ => rfl) rfl rfl rfl rfl rfl rfl (isC_rc hC _) rfl (Cl.mono (c_C_has S a hC K (by first | assumption | exact MC.up (by assumption) (by omega) | exact MC.up (MC.up (by assumption) (by omega)) (by omega) | exact MC.up (MC.up (MC.up (by assumption) (by omega)) (by omega)) (by omega)) y) ?_)
    rintro _ _ (⟨rfl, b10, rfl⟩ | ⟨rfl, b10, rfl⟩)
    ·
      refine ⟨_, rfl, ?_⟩
      refine R_ifF (nx := 16) rfl rfl rfl ?_
      refine R_lo (nx := 17) rfl rfl rfl rfl ?_
      refine R_get (nx := 20) (w := (2, (a + 4))) rfl rfl (isC_ob hC) rfl ?_
      refine R_lo (nx := 21) rfl rfl rfl rfl ?_
      refine R_op (nx := 23) rfl rfl rfl ?_
      refine R_imul (nx := 24) (z := (x * 12)) rfl rfl rfl ⟨by omega, by omega⟩ ?_
      refine R_lo (nx := 25) rfl rfl rfl rfl ?_
      refine R_iadd (nx := 26) (z := ((x * 12) + y)) rfl rfl rfl ⟨by omega, by omega⟩ ?_
      refine R_lo (nx := 27) rfl rfl rfl rfl ?_
      refine R_iast (nx := 28) rfl rfl (isC_el4 hC (by omega) (by omega)) ?_
      refine R_ret rfl (fun _ _ => rfl) rfl rfl ?_
      first | exact ⟨rfl, h.set z b2 b10, fun b hb => mm_unq hb⟩ | exact ⟨rfl, by rw [Xset_out (by omega)]; exact h, fun _ _ => rfl⟩
    ·
      refine ⟨_, rfl, ?_⟩
      refine R_ifT (tg := 28) rfl rfl rfl ?_
      refine R_ret rfl (fun _ _ => rfl) rfl rfl ?_
      first | exact ⟨rfl, h.set z b2 b10, fun b hb => mm_unq hb⟩ | exact ⟨rfl, by rw [Xset_out (by omega)]; exact h, fun _ _ => rfl⟩
  ·
    refine ⟨_, rfl, ?_⟩
    refine R_ifT (tg := 28) rfl rfl rfl ?_
    refine R_ret rfl (fun _ _ => rfl) rfl rfl ?_
    first | exact ⟨rfl, h.set z b2 b10, fun b hb => mm_unq hb⟩ | exact ⟨rfl, by rw [Xset_out (by omega)]; exact h, fun _ _ => rfl⟩

set_option maxRecDepth 20000 in
set_option maxHeartbeats 4000000 in
theorem c_C_mayHave (S : mm_S) (a : Int) (hC : mm_isC a) (K : CX) (h : MC S a K) (hR : Rg K) (x y : Int) : Cl 125 [(2, a), (0, x), (0, y)] S (fun v S' => (v = some (0, 1) ∧ Xmay K x y ∧ S = S') ∨ (v = some (0, 0) ∧ ¬ Xmay K x y ∧ S = S')) := by
  refine ⟨Nat.le_of_ble_eq_true rfl, ?_⟩
  show Rn k_C_mayHave 0 [(2, a), (0, x), (0, y)] [] S _
  have hnr := h.nr
  have hn := h.n
  refine R_lo (nx := 1) rfl rfl rfl rfl ?_
  refine R_lo (nx := 2) rfl rfl rfl rfl ?_
  refine R_call1 (nx := 5) (as := [(2, a), (0, x)]) (rest := []) rfl rfl (fun _ _ => rfl) rfl rfl rfl rfl rfl rfl (isC_rc hC _) rfl (Cl.mono (c_C_has S a hC K (by first | assumption | exact MC.up (by assumption) (by omega) | exact MC.up (MC.up (by assumption) (by omega)) (by omega) | exact MC.up (MC.up (MC.up (by assumption) (by omega)) (by omega)) (by omega)) x) ?_)
  rintro _ _ (⟨rfl, b2, rfl⟩ | ⟨rfl, b2, rfl⟩)
  ·
    refine ⟨_, rfl, ?_⟩
    refine R_ifF (nx := 8) rfl rfl rfl ?_
    refine R_lo (nx := 9) rfl rfl rfl rfl ?_
    refine R_lo (nx := 10) rfl rfl rfl rfl ?_
    refine R_call1 (nx := 13) (as := [(2, a), (0, y)]) (rest := []) rfl rfl (fun _ _ => rfl) rfl rfl rfl rfl rfl rfl (isC_rc hC _) rfl (Cl.mono (c_C_has S a hC K (by first | assumption | exact MC.up (by assumption) (by omega) | exact MC.up (MC.up (by assumption) (by omega)) (by omega) | exact MC.up (MC.up (MC.up (by assumption) (by omega)) (by omega)) (by omega)) y) ?_)
    rintro _ _ (⟨rfl, b10, rfl⟩ | ⟨rfl, b10, rfl⟩)
    ·
      refine ⟨_, rfl, ?_⟩
      refine R_ifF (nx := 16) rfl rfl rfl ?_
      refine R_lo (nx := 17) rfl rfl rfl rfl ?_
      refine R_get (nx := 20) (w := (2, (a + 1))) rfl rfl (isC_ob hC) rfl ?_
      refine R_lo (nx := 21) rfl rfl rfl rfl ?_
      refine R_iald (nx := 22) rfl rfl (isC_el1 hC (by omega) (by omega)) ?_
      refine R_lo (nx := 23) rfl rfl rfl rfl ?_
      refine R_get (nx := 26) (w := (2, (a + 1))) rfl rfl (isC_ob hC) rfl ?_
      refine R_lo (nx := 27) rfl rfl rfl rfl ?_
      refine R_iald (nx := 28) rfl rfl (isC_el1 hC (by omega) (by omega)) ?_
      refine R_op (nx := 29) rfl rfl rfl ?_
      refine R_isub (nx := 30) (z := ((S (a + 1) x) - 1)) rfl rfl rfl (by rw [h.d b2]; have := hR.d x; exact ⟨by omega, by omega⟩) ?_
      refine R_icmp (nx := 33) (tg := 67) rfl rfl rfl (mm_cnd_ne _ _) (fun c30 => ?_) (fun c30 => ?_)
      ·
        refine R_op (nx := 68) rfl rfl rfl ?_
        refine R_ret rfl (fun _ _ => rfl) rfl rfl ?_
        unfold Xmay
        (try rw [h.d b2] at *)
        (try rw [h.d b10] at *)
        (try rw [h.l0 b2] at *)
        (try rw [h.l0 b10] at *)
        (try rw [h.l1 b2] at *)
        (try rw [h.l1 b10] at *)
        first | exact Or.inl ⟨rfl, by omega, rfl⟩ | exact Or.inr ⟨rfl, by omega, rfl⟩
      ·
        replace c30 := Classical.not_not.mp c30
        refine R_lo (nx := 34) rfl rfl rfl rfl ?_
        refine R_get (nx := 37) (w := (2, (a + 2))) rfl rfl (isC_ob hC) rfl ?_
        refine R_lo (nx := 38) rfl rfl rfl rfl ?_
        refine R_iald (nx := 39) rfl rfl (isC_el2 hC (by omega) (by omega)) ?_
        refine R_lo (nx := 40) rfl rfl rfl rfl ?_
        refine R_get (nx := 43) (w := (2, (a + 2))) rfl rfl (isC_ob hC) rfl ?_
        refine R_lo (nx := 44) rfl rfl rfl rfl ?_
        refine R_iald (nx := 45) rfl rfl (isC_el2 hC (by omega) (by omega)) ?_
        refine R_icmp (nx := 48) (tg := 67) rfl rfl rfl (mm_cnd_gt _ _) (fun c45 => ?_) (fun c45 => ?_)
        ·
          refine R_op (nx := 68) rfl rfl rfl ?_
          refine R_ret rfl (fun _ _ => rfl) rfl rfl ?_
          unfold Xmay
          (try rw [h.d b2] at *)
          (try rw [h.d b10] at *)
          (try rw [h.l0 b2] at *)
          (try rw [h.l0 b10] at *)
          (try rw [h.l1 b2] at *)
          (try rw [h.l1 b10] at *)
          first | exact Or.inl ⟨rfl, by omega, rfl⟩ | exact Or.inr ⟨rfl, by omega, rfl⟩
        ·
          refine R_lo (nx := 49) rfl rfl rfl rfl ?_
          refine R_get (nx := 52) (w := (2, (a + 3))) rfl rfl (isC_ob hC) rfl ?_
          refine R_lo (nx := 53) rfl rfl rfl rfl ?_
          refine R_iald (nx := 54) rfl rfl (isC_el3 hC (by omega) (by omega)) ?_
          refine R_lo (nx := 55) rfl rfl rfl rfl ?_
          refine R_get (nx := 58) (w := (2, (a + 3))) rfl rfl (isC_ob hC) rfl ?_
          refine R_lo (nx := 59) rfl rfl rfl rfl ?_
          refine R_iald (nx := 60) rfl rfl (isC_el3 hC (by omega) (by omega)) ?_
          refine R_icmp (nx := 63) (tg := 67) rfl rfl rfl (mm_cnd_gt _ _) (fun c60 => ?_) (fun c60 => ?_)
          ·
            refine R_op (nx := 68) rfl rfl rfl ?_
            refine R_ret rfl (fun _ _ => rfl) rfl rfl ?_
            unfold Xmay
            (try rw [h.d b2] at *)
            (try rw [h.d b10] at *)
            (try rw [h.l0 b2] at *)
            (try rw [h.l0 b10] at *)
            (try rw [h.l1 b2] at *)
            (try rw [h.l1 b10] at *)
            first | exact Or.inl ⟨rfl, by omega, rfl⟩ | exact Or.inr ⟨rfl, by omega, rfl⟩
          ·
            refine R_op (nx := 64) rfl rfl rfl ?_
            refine R_op (nx := 67) (pc' := 68) rfl rfl rfl ?_
            refine R_ret rfl (fun _ _ => rfl) rfl rfl ?_
            unfold Xmay
            (try rw [h.d b2] at *)
            (try rw [h.d b10] at *)
            (try rw [h.l0 b2] at *)
            (try rw [h.l0 b10] at *)
            (try rw [h.l1 b2] at *)
            (try rw [h.l1 b10] at *)
            first | exact Or.inl ⟨rfl, by omega, rfl⟩ | exact Or.inr ⟨rfl, by omega, rfl⟩
    ·
      refine ⟨_, rfl, ?_⟩
      refine R_ifT (tg := 67) rfl rfl rfl ?_
      refine R_op (nx := 68) rfl rfl rfl ?_
      refine R_ret rfl (fun _ _ => rfl) rfl rfl ?_
      unfold Xmay
      (try rw [h.d b2] at *)
      (try rw [h.d b10] at *)
      (try rw [h.l0 b2] at *)
      (try rw [h.l0 b10] at *)
      (try rw [h.l1 b2] at *)
      (try rw [h.l1 b10] at *)
      first | exact Or.inl ⟨rfl, by omega, rfl⟩ | exact Or.inr ⟨rfl, by omega, rfl⟩
  ·
    refine ⟨_, rfl, ?_⟩
    refine R_ifT (tg := 67) rfl rfl rfl ?_
    refine R_op (nx := 68) rfl rfl rfl ?_
    refine R_ret rfl (fun _ _ => rfl) rfl rfl ?_
    unfold Xmay
    (try rw [h.d b2] at *)
    (try rw [h.d b10] at *)
    (try rw [h.l0 b2] at *)
    (try rw [h.l0 b10] at *)
    (try rw [h.l1 b2] at *)
    (try rw [h.l1 b10] at *)
    first | exact Or.inl ⟨rfl, by omega, rfl⟩ | exact Or.inr ⟨rfl, by omega, rfl⟩

theorem MC.zero {S : mm_S} {a : Int} : MC (mm_up S a 0 0) a Xz := ⟨Xz_Nz, mm_ua, fun x p q => absurd q (by show ¬ x < 0; omega), fun x y p q => absurd q (by show ¬ x < 0; omega)⟩
set_option maxRecDepth 20000 in
set_option maxHeartbeats 4000000 in
theorem c_C_empty (S : mm_S) (a : Int) (hC : mm_isC a) : Cl 126 [(2, a)] S (fun v S' => v = none ∧ MC S' a Xz ∧ ∀ b, b ≠ a → S' b = S b) := by
  refine ⟨Nat.le_of_ble_eq_true rfl, ?_⟩
  show Rn k_C_empty 0 [(2, a)] [] S _
  refine R_lo (nx := 1) rfl rfl rfl rfl ?_
  refine R_op (nx := 2) rfl rfl rfl ?_
  refine R_put (nx := 5) (kk := 0) rfl rfl (isC_ob hC) rfl rfl ?_
  refine R_ret rfl (fun _ _ => rfl) rfl rfl ?_
  exact ⟨rfl, MC.zero, fun b hb => mm_unq hb⟩
