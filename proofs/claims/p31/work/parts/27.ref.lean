/-! The reference's complexes. -/
theorem MR.r {S : mm_S} {c : Int} {K : CX} (h : MR S c K) : MRr S c K := h.1
theorem MR.n {S : mm_S} {c : Int} {K : CX} (h : MR S c K) : S 72 c = Xn K := h.2
theorem MRr.nr {S : mm_S} {c : Int} {K : CX} (h : MRr S c K) : 0 ≤ Xn K ∧ Xn K ≤ 12 := h.1.1
theorem MRr.d {S : mm_S} {c : Int} {K : CX} (h : MRr S c K) {x : Int} (hx : 0 ≤ x ∧ x < Xn K) : S 73 (12 * c + x) = Xd K x := (h.2.1 x hx.1 hx.2).1
theorem MRr.l {S : mm_S} {c : Int} {K : CX} (h : MRr S c K) {w x : Int} (hw : w = 0 ∨ w = 1) (hx : 0 ≤ x ∧ x < Xn K) : S 74 (12 * (2 * c + w) + x) = Xl K w x := by
  rcases hw with rfl | rfl
  · rw [Int.add_zero]; exact (h.2.1 x hx.1 hx.2).2.1
  · exact (h.2.1 x hx.1 hx.2).2.2
theorem MRr.e {S : mm_S} {c : Int} {K : CX} (h : MRr S c K) {x y : Int} (hx : 0 ≤ x ∧ x < 12) (hy : 0 ≤ y ∧ y < 12) : S 75 (144 * c + 12 * x + y) = Xe K x y := h.2.2 x y hx.1 hx.2 hy.1 hy.2
theorem MRr.fr {S S' : mm_S} {c : Int} {K : CX} (h : MRr S c K) (h3 : S' 73 = S 73) (h4 : S' 74 = S 74) (h5 : S' 75 = S 75) : MRr S' c K := by
  refine ⟨h.1, fun x p q => ?_, fun x y p q r t => ?_⟩
  · rw [h3, h4]; exact h.2.1 x p q
  · rw [h5]; exact h.2.2 x y p q r t
theorem MR.fr {S S' : mm_S} {c : Int} {K : CX} (h : MR S c K) (hf : ∀ b, 72 ≤ b → b ≤ 75 → S' b = S b) : MR S' c K := ⟨h.1.fr (hf 73 (by omega) (by omega)) (hf 74 (by omega) (by omega)) (hf 75 (by omega) (by omega)), by rw [hf 72 (by omega) (by omega)]; exact h.2⟩
theorem MRr.up {S : mm_S} {c b k v : Int} {K : CX} (h : MRr S c K) (hb : ¬ (73 ≤ b ∧ b ≤ 75)) : MRr (mm_up S b k v) c K := h.fr (mm_unq (by omega)) (mm_unq (by omega)) (mm_unq (by omega))
theorem MR.up {S : mm_S} {c b k v : Int} {K : CX} (h : MR S c K) (hb : ¬ (72 ≤ b ∧ b ≤ 75)) : MR (mm_up S b k v) c K := h.fr fun e p q => mm_unq (by omega)
/-- an entry of a complex; those of others stay -/
theorem MRr.set {S : mm_S} {c x y v : Int} {K : CX} (h : MRr S c K) (hx : 0 ≤ x ∧ x < Xn K) (hy : 0 ≤ y ∧ y < Xn K) : MRr (mm_up S 75 (144 * c + 12 * x + y) v) c (Xset K x y v) := by
  have hnr := h.nr
  refine ⟨Xset_Nz h.1 x y v, fun i p q => ?_, fun i j p q r t => ?_⟩
  · rw [mm_unq (by decide), mm_unq (by decide)]; exact h.2.1 i p q
  · rw [Xset_e]
    by_cases e : i = x ∧ j = y
    · obtain ⟨rfl, rfl⟩ := e
      rw [if_pos ⟨⟨hx, hy⟩, rfl, rfl⟩]; exact mm_ua
    · rw [if_neg (fun z => e z.2), mm_uk (by omega)]; exact h.e ⟨p, q⟩ ⟨r, t⟩
theorem MRr.set2 {S : mm_S} {c c' k v : Int} {K : CX} (h : MRr S c' K) (hk : 144 * c ≤ k ∧ k < 144 * c + 144) (hc : c' ≠ c) : MRr (mm_up S 75 k v) c' K := by
  refine ⟨h.1, fun i p q => ?_, fun i j p q r t => ?_⟩
  · rw [mm_unq (by decide), mm_unq (by decide)]; exact h.2.1 i p q
  · rw [mm_uk (by omega)]; exact h.e ⟨p, q⟩ ⟨r, t⟩
theorem MR.set {S : mm_S} {c x y v : Int} {K : CX} (h : MR S c K) (hx : 0 ≤ x ∧ x < Xn K) (hy : 0 ≤ y ∧ y < Xn K) : MR (mm_up S 75 (144 * c + 12 * x + y) v) c (Xset K x y v) := ⟨h.1.set hx hy, by rw [mm_unq (by decide)]; exact h.2⟩
theorem MR.set2 {S : mm_S} {c c' k v : Int} {K : CX} (h : MR S c' K) (hk : 144 * c ≤ k ∧ k < 144 * c + 144) (hc : c' ≠ c) : MR (mm_up S 75 k v) c' K := ⟨h.1.set2 hk hc, by rw [mm_unq (by decide)]; exact h.2⟩

set_option maxRecDepth 20000 in
set_option maxHeartbeats 4000000 in
theorem c_M_in (S : mm_S) (x l m : Int) : Cl 46 [(0, x), (0, l), (0, m)] S (fun v S' => (v = some (0, 1) ∧ (l ≤ x ∧ x ≤ m) ∧ S = S') ∨ (v = some (0, 0) ∧ ¬ (l ≤ x ∧ x ≤ m) ∧ S = S')) := by
  refine ⟨Nat.le_of_ble_eq_true rfl, ?_⟩
  show Rn k_M_in 0 [(0, x), (0, l), (0, m)] [] S _
  refine R_lo (nx := 1) rfl rfl rfl rfl ?_
  refine R_lo (nx := 2) rfl rfl rfl rfl ?_
  refine R_icmp (nx := 5) (tg := 14) rfl rfl rfl (mm_cnd_lt _ _) (fun c2 => ?_) (fun c2 => ?_)
  ·
    refine R_op (nx := 15) rfl rfl rfl ?_
    refine R_ret rfl (fun _ _ => rfl) rfl rfl ?_
    first | exact Or.inl ⟨rfl, by omega, rfl⟩ | exact Or.inr ⟨rfl, by omega, rfl⟩
  ·
    refine R_lo (nx := 6) rfl rfl rfl rfl ?_
    refine R_lo (nx := 7) rfl rfl rfl rfl ?_
    refine R_icmp (nx := 10) (tg := 14) rfl rfl rfl (mm_cnd_gt _ _) (fun c7 => ?_) (fun c7 => ?_)
    ·
      refine R_op (nx := 15) rfl rfl rfl ?_
      refine R_ret rfl (fun _ _ => rfl) rfl rfl ?_
      first | exact Or.inl ⟨rfl, by omega, rfl⟩ | exact Or.inr ⟨rfl, by omega, rfl⟩
    ·
      refine R_op (nx := 11) rfl rfl rfl ?_
      refine R_op (nx := 14) (pc' := 15) rfl rfl rfl ?_
      refine R_ret rfl (fun _ _ => rfl) rfl rfl ?_
      first | exact Or.inl ⟨rfl, by omega, rfl⟩ | exact Or.inr ⟨rfl, by omega, rfl⟩

set_option maxRecDepth 20000 in
set_option maxHeartbeats 4000000 in
theorem c_M_isComplex (S : mm_S) (c : Int) : Cl 47 [(0, c)] S (fun v S' => (v = some (0, 1) ∧ (0 ≤ c ∧ c < 4) ∧ S = S') ∨ (v = some (0, 0) ∧ ¬ (0 ≤ c ∧ c < 4) ∧ S = S')) := by
  refine ⟨Nat.le_of_ble_eq_true rfl, ?_⟩
  show Rn k_M_isComplex 0 [(0, c)] [] S _
  refine R_lo (nx := 1) rfl rfl rfl rfl ?_
  refine R_op (nx := 2) rfl rfl rfl ?_
  refine R_op (nx := 3) rfl rfl rfl ?_
  refine R_call1 (nx := 6) (as := [(0, c), (0, 0), (0, 3)]) (rest := []) rfl rfl (fun _ _ => rfl) rfl rfl rfl rfl rfl rfl rfl rfl (Cl.mono (c_M_in S c 0 3) ?_)
  rintro _ _ (⟨rfl, b3, rfl⟩ | ⟨rfl, b3, rfl⟩)
  ·
    refine ⟨_, rfl, ?_⟩
    refine R_ret rfl (fun _ _ => rfl) rfl rfl ?_
    first | exact Or.inl ⟨rfl, by omega, rfl⟩ | exact Or.inr ⟨rfl, by omega, rfl⟩
  ·
    refine ⟨_, rfl, ?_⟩
    refine R_ret rfl (fun _ _ => rfl) rfl rfl ?_
    first | exact Or.inl ⟨rfl, by omega, rfl⟩ | exact Or.inr ⟨rfl, by omega, rfl⟩

set_option maxRecDepth 20000 in
set_option maxHeartbeats 4000000 in
theorem c_M_isCell (S : mm_S) (c : Int) (hc : 0 ≤ c ∧ c < 5) (K : CX) (h : MR S c K) (x : Int) : Cl 48 [(2, 71), (0, c), (0, x)] S (fun v S' => (v = some (0, 1) ∧ (0 ≤ x ∧ x < Xn K) ∧ S = S') ∨ (v = some (0, 0) ∧ ¬ (0 ≤ x ∧ x < Xn K) ∧ S = S')) := by
  refine ⟨Nat.le_of_ble_eq_true rfl, ?_⟩
  show Rn k_M_isCell 0 [(2, 71), (0, c), (0, x)] [] S _
  have hnr := h.r.nr
  have hn := h.n
  refine R_lo (nx := 1) rfl rfl rfl rfl ?_
  refine R_op (nx := 2) rfl rfl rfl ?_
  refine R_lo (nx := 3) rfl rfl rfl rfl ?_
  refine R_get (nx := 6) (w := (2, 72)) rfl rfl rfl rfl ?_
  refine R_lo (nx := 7) rfl rfl rfl rfl ?_
  refine R_iald (nx := 8) rfl rfl (mm_el_ok 1 5 (by decide) rfl (by decide) (by omega) (by omega)) ?_
  refine R_op (nx := 9) rfl rfl rfl ?_
  refine R_isub (nx := 10) (z := ((S 72 c) - 1)) rfl rfl rfl ⟨by omega, by omega⟩ ?_
  refine R_call1 (nx := 13) (as := [(0, x), (0, 0), (0, ((S 72 c) - 1))]) (rest := []) rfl rfl (fun _ _ => rfl) rfl rfl rfl rfl rfl rfl rfl rfl (Cl.mono (c_M_in S x 0 ((S 72 c) - 1)) ?_)
  rintro _ _ (⟨rfl, b10, rfl⟩ | ⟨rfl, b10, rfl⟩)
  ·
    refine ⟨_, rfl, ?_⟩
    refine R_ret rfl (fun _ _ => rfl) rfl rfl ?_
    first | exact Or.inl ⟨rfl, by omega, rfl⟩ | exact Or.inr ⟨rfl, by omega, rfl⟩
  ·
    refine ⟨_, rfl, ?_⟩
    refine R_ret rfl (fun _ _ => rfl) rfl rfl ?_
    first | exact Or.inl ⟨rfl, by omega, rfl⟩ | exact Or.inr ⟨rfl, by omega, rfl⟩

set_option maxRecDepth 20000 in
set_option maxHeartbeats 4000000 in
theorem c_M_degree (S : mm_S) (c : Int) (hc : 0 ≤ c ∧ c < 5) (K : CX) (h : MRr S c K) (x : Int) (hx : 0 ≤ x ∧ x < Xn K) : Cl 49 [(2, 71), (0, c), (0, x)] S (fun v S' => v = some (0, Xd K x) ∧ S = S') := by
  refine ⟨Nat.le_of_ble_eq_true rfl, ?_⟩
  show Rn k_M_degree 0 [(2, 71), (0, c), (0, x)] [] S _
  have hnr := h.nr
  refine R_lo (nx := 1) rfl rfl rfl rfl ?_
  refine R_get (nx := 4) (w := (2, 73)) rfl rfl rfl rfl ?_
  refine R_op (nx := 6) rfl rfl rfl ?_
  refine R_lo (nx := 7) rfl rfl rfl rfl ?_
  refine R_imul (nx := 8) (z := (12 * c)) rfl rfl rfl ⟨by omega, by omega⟩ ?_
  refine R_lo (nx := 9) rfl rfl rfl rfl ?_
  refine R_iadd (nx := 10) (z := ((12 * c) + x)) rfl rfl rfl ⟨by omega, by omega⟩ ?_
  refine R_iald (nx := 11) rfl rfl (mm_el_ok 1 60 (by decide) rfl (by decide) (by omega) (by omega)) ?_
  refine R_ret rfl (fun _ _ => rfl) rfl rfl ?_
  exact ⟨by rw [h.d hx], rfl⟩

set_option maxRecDepth 20000 in
set_option maxHeartbeats 4000000 in
theorem c_M_level (S : mm_S) (c : Int) (hc : 0 ≤ c ∧ c < 5) (K : CX) (h : MRr S c K) (w x : Int) (hw : w = 0 ∨ w = 1) (hx : 0 ≤ x ∧ x < Xn K) : Cl 50 [(2, 71), (0, c), (0, w), (0, x)] S (fun v S' => v = some (0, Xl K w x) ∧ S = S') := by
  refine ⟨Nat.le_of_ble_eq_true rfl, ?_⟩
  show Rn k_M_level 0 [(2, 71), (0, c), (0, w), (0, x)] [] S _
  have hnr := h.nr
  refine R_lo (nx := 1) rfl rfl rfl rfl ?_
  refine R_get (nx := 4) (w := (2, 74)) rfl rfl rfl rfl ?_
  refine R_op (nx := 6) rfl rfl rfl ?_
  refine R_op (nx := 7) rfl rfl rfl ?_
  refine R_lo (nx := 8) rfl rfl rfl rfl ?_
  refine R_imul (nx := 9) (z := (2 * c)) rfl rfl rfl ⟨by omega, by omega⟩ ?_
  refine R_lo (nx := 10) rfl rfl rfl rfl ?_
  refine R_iadd (nx := 11) (z := ((2 * c) + w)) rfl rfl rfl ⟨by omega, by omega⟩ ?_
  refine R_imul (nx := 12) (z := (12 * ((2 * c) + w))) rfl rfl rfl ⟨by omega, by omega⟩ ?_
  refine R_lo (nx := 13) rfl rfl rfl rfl ?_
  refine R_iadd (nx := 14) (z := ((12 * ((2 * c) + w)) + x)) rfl rfl rfl ⟨by omega, by omega⟩ ?_
  refine R_iald (nx := 15) rfl rfl (mm_el_ok 1 120 (by decide) rfl (by decide) (by omega) (by omega)) ?_
  refine R_ret rfl (fun _ _ => rfl) rfl rfl ?_
  exact ⟨by rw [h.l hw hx], rfl⟩

set_option maxRecDepth 20000 in
set_option maxHeartbeats 4000000 in
theorem c_M_edge (S : mm_S) (c : Int) (hc : 0 ≤ c ∧ c < 5) (K : CX) (h : MRr S c K) (x y : Int) (hx : 0 ≤ x ∧ x < 12) (hy : 0 ≤ y ∧ y < 12) : Cl 51 [(2, 71), (0, c), (0, x), (0, y)] S (fun v S' => v = some (0, Xe K x y) ∧ S = S') := by
  refine ⟨Nat.le_of_ble_eq_true rfl, ?_⟩
  show Rn k_M_edge 0 [(2, 71), (0, c), (0, x), (0, y)] [] S _
  have hnr := h.nr
  refine R_lo (nx := 1) rfl rfl rfl rfl ?_
  refine R_get (nx := 4) (w := (2, 75)) rfl rfl rfl rfl ?_
  refine R_op (nx := 7) rfl rfl rfl ?_
  refine R_lo (nx := 8) rfl rfl rfl rfl ?_
  refine R_imul (nx := 9) (z := (144 * c)) rfl rfl rfl ⟨by omega, by omega⟩ ?_
  refine R_op (nx := 11) rfl rfl rfl ?_
  refine R_lo (nx := 12) rfl rfl rfl rfl ?_
  refine R_imul (nx := 13) (z := (12 * x)) rfl rfl rfl ⟨by omega, by omega⟩ ?_
  refine R_iadd (nx := 14) (z := ((144 * c) + (12 * x))) rfl rfl rfl ⟨by omega, by omega⟩ ?_
  refine R_lo (nx := 15) rfl rfl rfl rfl ?_
  refine R_iadd (nx := 16) (z := (((144 * c) + (12 * x)) + y)) rfl rfl rfl ⟨by omega, by omega⟩ ?_
  refine R_iald (nx := 17) rfl rfl (mm_el_ok 1 720 (by decide) rfl (by decide) (by omega) (by omega)) ?_
  refine R_ret rfl (fun _ _ => rfl) rfl rfl ?_
  exact ⟨by rw [h.e hx hy], rfl⟩

set_option maxRecDepth 20000 in
set_option maxHeartbeats 4000000 in
theorem c_M_may (S : mm_S) (c : Int) (hc : 0 ≤ c ∧ c < 5) (K : CX) (h : MRr S c K) (hR : Rg K) (x y : Int) (hx : 0 ≤ x ∧ x < Xn K) (hy : 0 ≤ y ∧ y < Xn K) : Cl 52 [(2, 71), (0, c), (0, x), (0, y)] S (fun v S' => (v = some (0, 1) ∧ Xmay K x y ∧ S = S') ∨ (v = some (0, 0) ∧ ¬ Xmay K x y ∧ S = S')) := by
  refine ⟨Nat.le_of_ble_eq_true rfl, ?_⟩
  show Rn k_M_may 0 [(2, 71), (0, c), (0, x), (0, y)] [] S _
  have hnr := h.nr
  have hdx := hR.d x
  have e0 : ∀ x, X0 K x = Xl K 0 x := fun _ => rfl
  have e1 : ∀ x, X1 K x = Xl K 1 x := fun _ => rfl
  refine R_lo (nx := 1) rfl rfl rfl rfl ?_
  refine R_lo (nx := 2) rfl rfl rfl rfl ?_
  refine R_lo (nx := 3) rfl rfl rfl rfl ?_
  refine R_call1 (nx := 6) (as := [(2, 71), (0, c), (0, y)]) (rest := []) rfl rfl (fun _ _ => rfl) rfl rfl rfl rfl rfl rfl rfl rfl (Cl.mono (c_M_degree S c (by omega) K (show MRr S c K by first | assumption | exact MR.r (by assumption) | exact MRr.up (by assumption) (by omega) | exact MRr.up (MR.r (by assumption)) (by omega) | exact MRr.up (MRr.up (MR.r (by assumption)) (by omega)) (by omega)) y (by omega)) ?_)
  rintro _ _ ⟨rfl, rfl⟩
  refine ⟨_, rfl, ?_⟩
  refine R_lo (nx := 7) rfl rfl rfl rfl ?_
  refine R_lo (nx := 8) rfl rfl rfl rfl ?_
  refine R_lo (nx := 9) rfl rfl rfl rfl ?_
  refine R_call1 (nx := 12) (as := [(2, 71), (0, c), (0, x)]) (rest := [(0, (Xd K y))]) rfl rfl (fun _ _ => rfl) rfl rfl rfl rfl rfl rfl rfl rfl (Cl.mono (c_M_degree S c (by omega) K (show MRr S c K by first | assumption | exact MR.r (by assumption) | exact MRr.up (by assumption) (by omega) | exact MRr.up (MR.r (by assumption)) (by omega) | exact MRr.up (MRr.up (MR.r (by assumption)) (by omega)) (by omega)) x (by omega)) ?_)
  rintro _ _ ⟨rfl, rfl⟩
  refine ⟨_, rfl, ?_⟩
  refine R_op (nx := 13) rfl rfl rfl ?_
  refine R_isub (nx := 14) (z := ((Xd K x) - 1)) rfl rfl rfl ⟨by omega, by omega⟩ ?_
  refine R_icmp (nx := 17) (tg := 55) rfl rfl rfl (mm_cnd_ne _ _) (fun c14 => ?_) (fun c14 => ?_)
  ·
    refine R_op (nx := 56) rfl rfl rfl ?_
    refine R_ret rfl (fun _ _ => rfl) rfl rfl ?_
    unfold Xmay
    rw [e0, e0, e1, e1]
    first | exact Or.inl ⟨rfl, by omega, rfl⟩ | exact Or.inr ⟨rfl, by omega, rfl⟩
  ·
    replace c14 := Classical.not_not.mp c14
    refine R_lo (nx := 18) rfl rfl rfl rfl ?_
    refine R_lo (nx := 19) rfl rfl rfl rfl ?_
    refine R_op (nx := 20) rfl rfl rfl ?_
    refine R_lo (nx := 21) rfl rfl rfl rfl ?_
    refine R_call1 (nx := 24) (as := [(2, 71), (0, c), (0, 0), (0, y)]) (rest := []) rfl rfl (fun _ _ => rfl) rfl rfl rfl rfl rfl rfl rfl rfl (Cl.mono (c_M_level S c (by omega) K (show MRr S c K by first | assumption | exact MR.r (by assumption) | exact MRr.up (by assumption) (by omega) | exact MRr.up (MR.r (by assumption)) (by omega) | exact MRr.up (MRr.up (MR.r (by assumption)) (by omega)) (by omega)) 0 y (by omega) (by omega)) ?_)
    rintro _ _ ⟨rfl, rfl⟩
    refine ⟨_, rfl, ?_⟩
    refine R_lo (nx := 25) rfl rfl rfl rfl ?_
    refine R_lo (nx := 26) rfl rfl rfl rfl ?_
    refine R_op (nx := 27) rfl rfl rfl ?_
    refine R_lo (nx := 28) rfl rfl rfl rfl ?_
    refine R_call1 (nx := 31) (as := [(2, 71), (0, c), (0, 0), (0, x)]) (rest := [(0, (Xl K 0 y))]) rfl rfl (fun _ _ => rfl) rfl rfl rfl rfl rfl rfl rfl rfl (Cl.mono (c_M_level S c (by omega) K (show MRr S c K by first | assumption | exact MR.r (by assumption) | exact MRr.up (by assumption) (by omega) | exact MRr.up (MR.r (by assumption)) (by omega) | exact MRr.up (MRr.up (MR.r (by assumption)) (by omega)) (by omega)) 0 x (by omega) (by omega)) ?_)
    rintro _ _ ⟨rfl, rfl⟩
    refine ⟨_, rfl, ?_⟩
    refine R_icmp (nx := 34) (tg := 55) rfl rfl rfl (mm_cnd_gt _ _) (fun c31 => ?_) (fun c31 => ?_)
    ·
      refine R_op (nx := 56) rfl rfl rfl ?_
      refine R_ret rfl (fun _ _ => rfl) rfl rfl ?_
      unfold Xmay
      rw [e0, e0, e1, e1]
      first | exact Or.inl ⟨rfl, by omega, rfl⟩ | exact Or.inr ⟨rfl, by omega, rfl⟩
    ·
      refine R_lo (nx := 35) rfl rfl rfl rfl ?_
      refine R_lo (nx := 36) rfl rfl rfl rfl ?_
      refine R_op (nx := 37) rfl rfl rfl ?_
      refine R_lo (nx := 38) rfl rfl rfl rfl ?_
      refine R_call1 (nx := 41) (as := [(2, 71), (0, c), (0, 1), (0, y)]) (rest := []) rfl rfl (fun _ _ => rfl) rfl rfl rfl rfl rfl rfl rfl rfl (Cl.mono (c_M_level S c (by omega) K (show MRr S c K by first | assumption | exact MR.r (by assumption) | exact MRr.up (by assumption) (by omega) | exact MRr.up (MR.r (by assumption)) (by omega) | exact MRr.up (MRr.up (MR.r (by assumption)) (by omega)) (by omega)) 1 y (by omega) (by omega)) ?_)
      rintro _ _ ⟨rfl, rfl⟩
      refine ⟨_, rfl, ?_⟩
      refine R_lo (nx := 42) rfl rfl rfl rfl ?_
      refine R_lo (nx := 43) rfl rfl rfl rfl ?_
      refine R_op (nx := 44) rfl rfl rfl ?_
      refine R_lo (nx := 45) rfl rfl rfl rfl ?_
      refine R_call1 (nx := 48) (as := [(2, 71), (0, c), (0, 1), (0, x)]) (rest := [(0, (Xl K 1 y))]) rfl rfl (fun _ _ => rfl) rfl rfl rfl rfl rfl rfl rfl rfl (Cl.mono (c_M_level S c (by omega) K (show MRr S c K by first | assumption | exact MR.r (by assumption) | exact MRr.up (by assumption) (by omega) | exact MRr.up (MR.r (by assumption)) (by omega) | exact MRr.up (MRr.up (MR.r (by assumption)) (by omega)) (by omega)) 1 x (by omega) (by omega)) ?_)
      rintro _ _ ⟨rfl, rfl⟩
      refine ⟨_, rfl, ?_⟩
      refine R_icmp (nx := 51) (tg := 55) rfl rfl rfl (mm_cnd_gt _ _) (fun c48 => ?_) (fun c48 => ?_)
      ·
        refine R_op (nx := 56) rfl rfl rfl ?_
        refine R_ret rfl (fun _ _ => rfl) rfl rfl ?_
        unfold Xmay
        rw [e0, e0, e1, e1]
        first | exact Or.inl ⟨rfl, by omega, rfl⟩ | exact Or.inr ⟨rfl, by omega, rfl⟩
      ·
        refine R_op (nx := 52) rfl rfl rfl ?_
        refine R_op (nx := 55) (pc' := 56) rfl rfl rfl ?_
        refine R_ret rfl (fun _ _ => rfl) rfl rfl ?_
        unfold Xmay
        rw [e0, e0, e1, e1]
        first | exact Or.inl ⟨rfl, by omega, rfl⟩ | exact Or.inr ⟨rfl, by omega, rfl⟩

set_option maxRecDepth 20000 in
set_option maxHeartbeats 4000000 in
theorem c_M_sets (S : mm_S) (c x d l o : Int) (hc : 0 ≤ c ∧ c < 5) (hx : 0 ≤ x ∧ x < 12) : Cl 53 [(2, 71), (0, c), (0, x), (0, d), (0, l), (0, o)] S (fun v S' => v = none ∧ S' = mm_up (mm_up (mm_up S 73 (12 * c + x) d) 74 (24 * c + x) l) 74 (12 * (2 * c + 1) + x) o) := by
  refine ⟨Nat.le_of_ble_eq_true rfl, ?_⟩
  show Rn k_M_sets 0 [(2, 71), (0, c), (0, x), (0, d), (0, l), (0, o)] [] S _
  refine R_lo (nx := 1) rfl rfl rfl rfl ?_
  refine R_get (nx := 4) (w := (2, 73)) rfl rfl rfl rfl ?_
  refine R_op (nx := 6) rfl rfl rfl ?_
  refine R_lo (nx := 7) rfl rfl rfl rfl ?_
  refine R_imul (nx := 8) (z := (12 * c)) rfl rfl rfl ⟨by omega, by omega⟩ ?_
  refine R_lo (nx := 9) rfl rfl rfl rfl ?_
  refine R_iadd (nx := 10) (z := ((12 * c) + x)) rfl rfl rfl ⟨by omega, by omega⟩ ?_
  refine R_lo (nx := 11) rfl rfl rfl rfl ?_
  refine R_iast (nx := 12) rfl rfl (mm_el_ok 1 60 (by decide) rfl (by decide) (by omega) (by omega)) ?_
  refine R_lo (nx := 13) rfl rfl rfl rfl ?_
  refine R_get (nx := 16) (w := (2, 74)) rfl rfl rfl rfl ?_
  refine R_op (nx := 18) rfl rfl rfl ?_
  refine R_lo (nx := 19) rfl rfl rfl rfl ?_
  refine R_imul (nx := 20) (z := (24 * c)) rfl rfl rfl ⟨by omega, by omega⟩ ?_
  refine R_lo (nx := 21) rfl rfl rfl rfl ?_
  refine R_iadd (nx := 22) (z := ((24 * c) + x)) rfl rfl rfl ⟨by omega, by omega⟩ ?_
  refine R_lo (nx := 24) rfl rfl rfl rfl ?_
  refine R_iast (nx := 25) rfl rfl (mm_el_ok 1 120 (by decide) rfl (by decide) (by omega) (by omega)) ?_
  refine R_lo (nx := 26) rfl rfl rfl rfl ?_
  refine R_get (nx := 29) (w := (2, 74)) rfl rfl rfl rfl ?_
  refine R_op (nx := 31) rfl rfl rfl ?_
  refine R_op (nx := 32) rfl rfl rfl ?_
  refine R_lo (nx := 33) rfl rfl rfl rfl ?_
  refine R_imul (nx := 34) (z := (2 * c)) rfl rfl rfl ⟨by omega, by omega⟩ ?_
  refine R_op (nx := 35) rfl rfl rfl ?_
  refine R_iadd (nx := 36) (z := ((2 * c) + 1)) rfl rfl rfl ⟨by omega, by omega⟩ ?_
  refine R_imul (nx := 37) (z := (12 * ((2 * c) + 1))) rfl rfl rfl ⟨by omega, by omega⟩ ?_
  refine R_lo (nx := 38) rfl rfl rfl rfl ?_
  refine R_iadd (nx := 39) (z := ((12 * ((2 * c) + 1)) + x)) rfl rfl rfl ⟨by omega, by omega⟩ ?_
  refine R_lo (nx := 41) rfl rfl rfl rfl ?_
  refine R_iast (nx := 42) rfl rfl (mm_el_ok 1 120 (by decide) rfl (by decide) (by omega) (by omega)) ?_
  refine R_ret rfl (fun _ _ => rfl) rfl rfl ?_
  exact ⟨rfl, rfl⟩

/-- what a change of one complex leaves of the others -/
def Oth (S S' : mm_S) (c : Int) : Prop := ∀ c' K', 0 ≤ c' → c' < 5 → c' ≠ c → MR S c' K' → MR S' c' K'
theorem Oth.rf (S : mm_S) (c : Int) : Oth S S c := fun _ _ _ _ _ h => h
theorem Oth.tr {S S1 S2 : mm_S} {c : Int} (h : Oth S S1 c) (h' : Oth S1 S2 c) : Oth S S2 c := fun c' K' p q r t => h' c' K' p q r (h c' K' p q r t)
theorem Oth.u72 {S S1 : mm_S} {c : Int} (h : Oth S S1 c) (v : Int) : Oth S (mm_up S1 72 c v) c := fun c' K' p q r t => by
  have := h c' K' p q r t
  exact ⟨this.1.up (by omega), by rw [mm_uk r]; exact this.2⟩
theorem Oth.u75 {S S1 : mm_S} {c : Int} (h : Oth S S1 c) {k : Int} (v : Int) (hk : 144 * c ≤ k ∧ k < 144 * c + 144) : Oth S (mm_up S1 75 k v) c := fun c' K' p q r t => (h c' K' p q r t).set2 hk r
theorem Oth.sets {S S1 : mm_S} {c : Int} (h : Oth S S1 c) {x : Int} (d l o : Int) (hc : 0 ≤ c) (hx : 0 ≤ x ∧ x < 12) : Oth S (mm_up (mm_up (mm_up S1 73 (12 * c + x) d) 74 (24 * c + x) l) 74 (12 * (2 * c + 1) + x) o) c := fun c' K' p q r t => by
  have g := h c' K' p q r t
  have hn := g.1.nr
  refine ⟨⟨g.1.1, fun i a b => ?_, fun i j a b a' b' => ?_⟩, ?_⟩
  · rw [mm_unq (by decide), mm_unq (by decide), mm_uk (by omega), mm_uk (by omega), mm_uk (by omega), mm_uk (by omega), mm_uk (by omega), mm_unq (by decide)]
    exact g.1.2.1 i a b
  · rw [mm_unq (by decide), mm_unq (by decide), mm_unq (by decide)]; exact g.1.2.2 i j a b a' b'
  · rw [mm_unq (by decide), mm_unq (by decide), mm_unq (by decide)]; exact g.2

set_option maxRecDepth 20000 in
set_option maxHeartbeats 4000000 in
theorem c_M_empties (S : mm_S) (c : Int) (hc : 0 ≤ c ∧ c < 5) : Cl 54 [(2, 71), (0, c)] S (fun v S' => v = none ∧ MR S' c Xz ∧ Oth S S' c ∧ ∀ b, ¬ (72 ≤ b ∧ b ≤ 75) → S' b = S b) := by
  refine ⟨Nat.le_of_ble_eq_true rfl, ?_⟩
  show Rn k_M_empties 0 [(2, 71), (0, c), (9, 0)] [] S _
  refine R_lo (nx := 1) rfl rfl rfl rfl ?_
  refine R_get (nx := 4) (w := (2, 72)) rfl rfl rfl rfl ?_
  refine R_lo (nx := 5) rfl rfl rfl rfl ?_
  refine R_op (nx := 6) rfl rfl rfl ?_
  refine R_iast (nx := 7) rfl rfl (mm_el_ok 1 5 (by decide) rfl (by decide) (by omega) (by omega)) ?_
  refine R_op (nx := 8) rfl rfl rfl ?_
  refine R_lo (nx := 9) (ls' := [(2, 71), (0, c), (0, 0)]) rfl rfl rfl rfl ?_
  have L9 : ∀ (f9 : Nat) (S1 : mm_S) (k : Int), ((144 : Int) - k).toNat < f9 → (0 ≤ k ∧ k ≤ 144) → (S1 72 c = 0) → (∀ j, 0 ≤ j → j < k → S1 75 (144 * c + j) = 0) → (Oth S S1 c) → (∀ b, ¬ (72 ≤ b ∧ b ≤ 75) → S1 b = S b) → Rn k_M_empties 9 [(2, 71), (0, c), (0, k)] [] S1 (fun v S' => v = none ∧ MR S' c Xz ∧ Oth S S' c ∧ ∀ b, ¬ (72 ≤ b ∧ b ≤ 75) → S' b = S b) := by
    intro f9
    induction f9 with
    | zero => intro S1 k hm9; exact absurd hm9 (Nat.not_lt_zero _)
    | succ f9 ih9 =>
      intro S1 k hm9 hk h2 h5 hO hF
      refine R_lo (nx := 10) rfl rfl rfl rfl ?_
      refine R_op (nx := 13) rfl rfl rfl ?_
      refine R_icmp (nx := 16) (tg := 35) rfl rfl rfl (mm_cnd_ge _ _) (fun c13 => ?_) (fun c13 => ?_)
      ·
        refine R_ret rfl (fun _ _ => rfl) rfl rfl ?_
        exact ⟨rfl, ⟨⟨Xz_Nz, fun x p q => absurd q (by show ¬ x < 0; omega), fun x y p q r t => by rw [Int.add_assoc]; exact h5 _ (by omega) (by omega)⟩, h2⟩, hO, hF⟩
      ·
        refine R_lo (nx := 17) rfl rfl rfl rfl ?_
        refine R_get (nx := 20) (w := (2, 75)) rfl rfl rfl rfl ?_
        refine R_op (nx := 23) rfl rfl rfl ?_
        refine R_lo (nx := 24) rfl rfl rfl rfl ?_
        refine R_imul (nx := 25) (z := (144 * c)) rfl rfl rfl ⟨by omega, by omega⟩ ?_
        refine R_lo (nx := 26) rfl rfl rfl rfl ?_
        refine R_iadd (nx := 27) (z := ((144 * c) + k)) rfl rfl rfl ⟨by omega, by omega⟩ ?_
        refine R_op (nx := 28) rfl rfl rfl ?_
        refine R_iast (nx := 29) rfl rfl (mm_el_ok 1 720 (by decide) rfl (by decide) (by omega) (by omega)) ?_
        refine R_iinc (nx := 32) (z := (k + 1)) (ls' := [(2, 71), (0, c), (0, (k + 1))]) rfl rfl rfl rfl ⟨by omega, by omega⟩ rfl ?_
        refine R_op (nx := 35) (pc' := 9) rfl rfl rfl ?_
        refine Rn.weak (ls' := [(2, 71), (0, c), (0, (k + 1))]) ⟨Or.inl rfl, ⟨Or.inl rfl, ⟨Or.inl rfl, trivial⟩⟩⟩ ?_
        refine ih9 ((mm_up S1 75 ((144 * c) + k) 0)) ((k + 1)) ?_ ?_ ?_ ?_ ?_ ?_
        · omega
        · omega
        · rw [mm_unq (by decide)]; exact h2
        · intro j p q
          by_cases e : j = k
          · rw [e]; exact mm_ua
          · rw [mm_uk (by omega)]; exact h5 j p (by omega)
        · exact hO.u75 0 (by omega)
        · intro b hb; rw [mm_unq (by omega)]; exact hF b hb
  refine Rn.weak (ls' := [(2, 71), (0, c), (0, 0)]) ⟨Or.inl rfl, ⟨Or.inl rfl, ⟨Or.inl rfl, trivial⟩⟩⟩ ?_
  refine L9 (((144 : Int) - (0)).toNat + 1) ((mm_up S 72 c 0)) (0) (Nat.lt_succ_self _) ?_ ?_ ?_ ?_ ?_
  · omega
  · exact mm_ua
  · intro j p q; omega
  · exact (Oth.rf S c).u72 0
  · intro b hb; exact mm_unq (by omega)

set_option maxRecDepth 20000 in
set_option maxHeartbeats 4000000 in
theorem c_M_copies (S : mm_S) (a c : Int) (ha : 0 ≤ a ∧ a < 5) (hc : 0 ≤ c ∧ c < 5) (hac : a ≠ c) (K : CX) (h : MR S a K) : Cl 55 [(2, 71), (0, a), (0, c)] S (fun v S' => v = none ∧ MR S' c K ∧ Oth S S' c ∧ ∀ b, ¬ (72 ≤ b ∧ b ≤ 75) → S' b = S b) := by
  refine ⟨Nat.le_of_ble_eq_true rfl, ?_⟩
  show Rn k_M_copies 0 [(2, 71), (0, a), (0, c), (9, 0)] [] S _
  have hnr := h.r.nr
  have hn := h.n
  refine R_lo (nx := 1) rfl rfl rfl rfl ?_
  refine R_get (nx := 4) (w := (2, 72)) rfl rfl rfl rfl ?_
  refine R_lo (nx := 5) rfl rfl rfl rfl ?_
  refine R_lo (nx := 6) rfl rfl rfl rfl ?_
  refine R_get (nx := 9) (w := (2, 72)) rfl rfl rfl rfl ?_
  refine R_lo (nx := 10) rfl rfl rfl rfl ?_
  refine R_iald (nx := 11) rfl rfl (mm_el_ok 1 5 (by decide) rfl (by decide) (by omega) (by omega)) ?_
  refine R_iast (nx := 12) rfl rfl (mm_el_ok 1 5 (by decide) rfl (by decide) (by omega) (by omega)) ?_
  refine R_op (nx := 13) rfl rfl rfl ?_
  refine R_lo (nx := 14) (ls' := [(2, 71), (0, a), (0, c), (0, 0)]) rfl rfl rfl rfl ?_
  have L14 : ∀ (f14 : Nat) (S1 : mm_S) (k : Int), ((144 : Int) - k).toNat < f14 → (0 ≤ k ∧ k ≤ 144) → (S1 72 c = Xn K) → (∀ j, 0 ≤ j → j < k → S1 75 (144 * c + j) = S 75 (144 * a + j)) → (Oth S S1 c) → (∀ b, ¬ (72 ≤ b ∧ b ≤ 75) → S1 b = S b) → Rn k_M_copies 14 [(2, 71), (0, a), (0, c), (0, k)] [] S1 (fun v S' => v = none ∧ MR S' c K ∧ Oth S S' c ∧ ∀ b, ¬ (72 ≤ b ∧ b ≤ 75) → S' b = S b) := by
    intro f14
    induction f14 with
    | zero => intro S1 k hm14; exact absurd hm14 (Nat.not_lt_zero _)
    | succ f14 ih14 =>
      intro S1 k hm14 hk h2 h5 hO hF
      have hma := hO a K (by omega) (by omega) hac h
      have haj : ∀ j, 0 ≤ j → j < 144 → S1 75 (144 * a + j) = S 75 (144 * a + j) := fun j p q => by
        have g1 := hma.1.e (x := j / 12) (y := j % 12) (by omega) (by omega)
        have g2 := h.1.e (x := j / 12) (y := j % 12) (by omega) (by omega)
        rw [show 144 * a + 12 * (j / 12) + j % 12 = 144 * a + j by omega] at g1 g2
        rw [g1, g2]
      refine R_lo (nx := 15) rfl rfl rfl rfl ?_
      refine R_op (nx := 18) rfl rfl rfl ?_
      refine R_icmp (nx := 21) (tg := 51) rfl rfl rfl (mm_cnd_ge _ _) (fun c18 => ?_) (fun c18 => ?_)
      ·
        refine R_op (nx := 52) rfl rfl rfl ?_
        refine R_lo (nx := 53) (ls' := [(2, 71), (0, a), (0, c), (0, 0)]) rfl rfl rfl rfl ?_
        have L53 : ∀ (f53 : Nat) (S2 : mm_S) (x : Int), (Xn K - x).toNat < f53 → (0 ≤ x ∧ x ≤ Xn K) → (S2 72 c = Xn K) → (∀ j, 0 ≤ j → j < 144 → S2 75 (144 * c + j) = S 75 (144 * a + j)) → (∀ i, 0 ≤ i → i < x → S2 73 (12 * c + i) = Xd K i ∧ S2 74 (12 * (2 * c) + i) = X0 K i ∧ S2 74 (12 * (2 * c + 1) + i) = X1 K i) → (Oth S S2 c) → (∀ b, ¬ (72 ≤ b ∧ b ≤ 75) → S2 b = S b) → Rn k_M_copies 53 [(2, 71), (0, a), (0, c), (0, x)] [] S2 (fun v S' => v = none ∧ MR S' c K ∧ Oth S S' c ∧ ∀ b, ¬ (72 ≤ b ∧ b ≤ 75) → S' b = S b) := by
          intro f53
          induction f53 with
          | zero => intro S2 x hm53; exact absurd hm53 (Nat.not_lt_zero _)
          | succ f53 ih53 =>
            intro S2 x hm53 hx g2 g5 gC gO gF
            have hma := gO a K (by omega) (by omega) hac h
            have hman := hma.n
            refine R_lo (nx := 54) rfl rfl rfl rfl ?_
            refine R_lo (nx := 55) rfl rfl rfl rfl ?_
            refine R_get (nx := 58) (w := (2, 72)) rfl rfl rfl rfl ?_
            refine R_lo (nx := 59) rfl rfl rfl rfl ?_
            refine R_iald (nx := 60) rfl rfl (mm_el_ok 1 5 (by decide) rfl (by decide) (by omega) (by omega)) ?_
            refine R_icmp (nx := 63) (tg := 95) rfl rfl rfl (mm_cnd_ge _ _) (fun c60 => ?_) (fun c60 => ?_)
            ·
              refine R_ret rfl (fun _ _ => rfl) rfl rfl ?_
              have e : x = Xn K := by omega
              subst e
              exact ⟨rfl, ⟨⟨h.1.1, gC, fun x y p q r t => by rw [Int.add_assoc, g5 _ (by omega) (by omega), ← Int.add_assoc]; exact h.1.e ⟨p, q⟩ ⟨r, t⟩⟩, g2⟩, gO, gF⟩
            ·
              refine R_lo (nx := 64) rfl rfl rfl rfl ?_
              refine R_lo (nx := 65) rfl rfl rfl rfl ?_
              refine R_lo (nx := 66) rfl rfl rfl rfl ?_
              refine R_lo (nx := 67) rfl rfl rfl rfl ?_
              refine R_lo (nx := 68) rfl rfl rfl rfl ?_
              refine R_lo (nx := 69) rfl rfl rfl rfl ?_
              refine R_call1 (nx := 72) (as := [(2, 71), (0, a), (0, x)]) (rest := [(0, x), (0, c), (2, 71)]) rfl rfl (fun _ _ => rfl) rfl rfl rfl rfl rfl rfl rfl rfl (Cl.mono (c_M_degree S2 a (by omega) K (show MRr S2 a K by first | assumption | exact MR.r (by assumption) | exact MRr.up (by assumption) (by omega) | exact MRr.up (MR.r (by assumption)) (by omega) | exact MRr.up (MRr.up (MR.r (by assumption)) (by omega)) (by omega)) x (by omega)) ?_)
              rintro _ _ ⟨rfl, rfl⟩
              refine ⟨_, rfl, ?_⟩
              refine R_lo (nx := 73) rfl rfl rfl rfl ?_
              refine R_lo (nx := 74) rfl rfl rfl rfl ?_
              refine R_op (nx := 75) rfl rfl rfl ?_
              refine R_lo (nx := 76) rfl rfl rfl rfl ?_
              refine R_call1 (nx := 79) (as := [(2, 71), (0, a), (0, 0), (0, x)]) (rest := [(0, (Xd K x)), (0, x), (0, c), (2, 71)]) rfl rfl (fun _ _ => rfl) rfl rfl rfl rfl rfl rfl rfl rfl (Cl.mono (c_M_level S2 a (by omega) K (show MRr S2 a K by first | assumption | exact MR.r (by assumption) | exact MRr.up (by assumption) (by omega) | exact MRr.up (MR.r (by assumption)) (by omega) | exact MRr.up (MRr.up (MR.r (by assumption)) (by omega)) (by omega)) 0 x (by omega) (by omega)) ?_)
              rintro _ _ ⟨rfl, rfl⟩
              refine ⟨_, rfl, ?_⟩
              refine R_lo (nx := 80) rfl rfl rfl rfl ?_
              refine R_lo (nx := 81) rfl rfl rfl rfl ?_
              refine R_op (nx := 82) rfl rfl rfl ?_
              refine R_lo (nx := 83) rfl rfl rfl rfl ?_
              refine R_call1 (nx := 86) (as := [(2, 71), (0, a), (0, 1), (0, x)]) (rest := [(0, (Xl K 0 x)), (0, (Xd K x)), (0, x), (0, c), (2, 71)]) rfl rfl (fun _ _ => rfl) rfl rfl rfl rfl rfl rfl rfl rfl (Cl.mono (c_M_level S2 a (by omega) K (show MRr S2 a K by first | assumption | exact MR.r (by assumption) | exact MRr.up (by assumption) (by omega) | exact MRr.up (MR.r (by assumption)) (by omega) | exact MRr.up (MRr.up (MR.r (by assumption)) (by omega)) (by omega)) 1 x (by omega) (by omega)) ?_)
              rintro _ _ ⟨rfl, rfl⟩
              refine ⟨_, rfl, ?_⟩
              refine R_call0 (nx := 89) (as := [(2, 71), (0, c), (0, x), (0, (Xd K x)), (0, (Xl K 0 x)), (0, (Xl K 1 x))]) (rest := []) rfl rfl (fun _ _ => rfl) rfl rfl rfl rfl rfl rfl rfl rfl (Cl.mono (c_M_sets S2 c x (Xd K x) (Xl K 0 x) (Xl K 1 x) (by omega) (by omega)) ?_)
              rintro _ S86 ⟨rfl, e86⟩
              refine ⟨rfl, ?_⟩
              refine R_iinc (nx := 92) (z := (x + 1)) (ls' := [(2, 71), (0, a), (0, c), (0, (x + 1))]) rfl rfl rfl rfl ⟨by omega, by omega⟩ rfl ?_
              refine R_op (nx := 95) (pc' := 53) rfl rfl rfl ?_
              refine Rn.weak (ls' := [(2, 71), (0, a), (0, c), (0, (x + 1))]) ⟨Or.inl rfl, ⟨Or.inl rfl, ⟨Or.inl rfl, ⟨Or.inl rfl, trivial⟩⟩⟩⟩ ?_
              refine ih53 (S86) ((x + 1)) ?_ ?_ ?_ ?_ ?_ ?_ ?_
              · omega
              · omega
              · rw [e86, mm_unq (by decide), mm_unq (by decide), mm_unq (by decide)]; exact g2
              · intro j p q; rw [e86, mm_unq (by decide), mm_unq (by decide), mm_unq (by decide)]; exact g5 j p q
              · intro i p q
                rw [e86, mm_unq (by decide), mm_unq (by decide)]
                by_cases e : i = x
                · subst e
                  refine ⟨mm_ua, ?_, mm_ua⟩
                  rw [mm_uk (by omega), show 12 * (2 * c) + i = 24 * c + i by omega]; exact mm_ua
                · have := gC i p (by omega)
                  rw [mm_uk (by omega), mm_uk (by omega), mm_uk (by omega), mm_unq (by decide), mm_uk (by omega), mm_uk (by omega), mm_unq (by decide)]
                  exact this
              · rw [e86]; exact gO.sets _ _ _ (by omega) (by omega)
              · intro b hb; rw [e86, mm_unq (by omega), mm_unq (by omega), mm_unq (by omega)]; exact gF b hb
        refine Rn.weak (ls' := [(2, 71), (0, a), (0, c), (0, 0)]) ⟨Or.inl rfl, ⟨Or.inl rfl, ⟨Or.inl rfl, ⟨Or.inl rfl, trivial⟩⟩⟩⟩ ?_
        refine L53 ((Xn K - (0)).toNat + 1) (S1) (0) (Nat.lt_succ_self _) ?_ ?_ ?_ ?_ ?_ ?_
        · omega
        · exact h2
        · intro j p q; exact h5 j p (by omega)
        · intro i p q; omega
        · exact hO
        · exact hF
      ·
        refine R_lo (nx := 22) rfl rfl rfl rfl ?_
        refine R_get (nx := 25) (w := (2, 75)) rfl rfl rfl rfl ?_
        refine R_op (nx := 28) rfl rfl rfl ?_
        refine R_lo (nx := 29) rfl rfl rfl rfl ?_
        refine R_imul (nx := 30) (z := (144 * c)) rfl rfl rfl ⟨by omega, by omega⟩ ?_
        refine R_lo (nx := 31) rfl rfl rfl rfl ?_
        refine R_iadd (nx := 32) (z := ((144 * c) + k)) rfl rfl rfl ⟨by omega, by omega⟩ ?_
        refine R_lo (nx := 33) rfl rfl rfl rfl ?_
        refine R_get (nx := 36) (w := (2, 75)) rfl rfl rfl rfl ?_
        refine R_op (nx := 39) rfl rfl rfl ?_
        refine R_lo (nx := 40) rfl rfl rfl rfl ?_
        refine R_imul (nx := 41) (z := (144 * a)) rfl rfl rfl ⟨by omega, by omega⟩ ?_
        refine R_lo (nx := 42) rfl rfl rfl rfl ?_
        refine R_iadd (nx := 43) (z := ((144 * a) + k)) rfl rfl rfl ⟨by omega, by omega⟩ ?_
        refine R_iald (nx := 44) rfl rfl (mm_el_ok 1 720 (by decide) rfl (by decide) (by omega) (by omega)) ?_
        refine R_iast (nx := 45) rfl rfl (mm_el_ok 1 720 (by decide) rfl (by decide) (by omega) (by omega)) ?_
        refine R_iinc (nx := 48) (z := (k + 1)) (ls' := [(2, 71), (0, a), (0, c), (0, (k + 1))]) rfl rfl rfl rfl ⟨by omega, by omega⟩ rfl ?_
        refine R_op (nx := 51) (pc' := 14) rfl rfl rfl ?_
        refine Rn.weak (ls' := [(2, 71), (0, a), (0, c), (0, (k + 1))]) ⟨Or.inl rfl, ⟨Or.inl rfl, ⟨Or.inl rfl, ⟨Or.inl rfl, trivial⟩⟩⟩⟩ ?_
        refine ih14 ((mm_up S1 75 ((144 * c) + k) (S1 75 ((144 * a) + k)))) ((k + 1)) ?_ ?_ ?_ ?_ ?_ ?_
        · omega
        · omega
        · rw [mm_unq (by decide)]; exact h2
        · intro j p q
          by_cases e : j = k
          · rw [e, mm_ua]; exact haj k (by omega) (by omega)
          · rw [mm_uk (by omega)]; exact h5 j p (by omega)
        · exact hO.u75 _ (by omega)
        · intro b hb; rw [mm_unq (by omega)]; exact hF b hb
  refine Rn.weak (ls' := [(2, 71), (0, a), (0, c), (0, 0)]) ⟨Or.inl rfl, ⟨Or.inl rfl, ⟨Or.inl rfl, ⟨Or.inl rfl, trivial⟩⟩⟩⟩ ?_
  refine L14 (((144 : Int) - (0)).toNat + 1) ((mm_up S 72 c (S 72 a))) (0) (Nat.lt_succ_self _) ?_ ?_ ?_ ?_ ?_
  · omega
  · rw [mm_ua]; exact hn
  · intro j p q; omega
  · exact (Oth.rf S c).u72 _
  · intro b hb; exact mm_unq (by omega)

set_option maxRecDepth 20000 in
set_option maxHeartbeats 4000000 in
theorem c_M_isEntry (S : mm_S) (Kf : Int → CX) (h : ∀ c, 0 ≤ c → c < 4 → MR S c (Kf c)) (c x y : Int) : Cl 58 [(2, 71), (0, c), (0, x), (0, y)] S (fun v S' => (v = some (0, 1) ∧ ((0 ≤ c ∧ c < 4) ∧ (0 ≤ x ∧ x < Xn (Kf c)) ∧ (0 ≤ y ∧ y < Xn (Kf c))) ∧ S = S') ∨ (v = some (0, 0) ∧ ¬ ((0 ≤ c ∧ c < 4) ∧ (0 ≤ x ∧ x < Xn (Kf c)) ∧ (0 ≤ y ∧ y < Xn (Kf c))) ∧ S = S')) := by
  refine ⟨Nat.le_of_ble_eq_true rfl, ?_⟩
  show Rn k_M_isEntry 0 [(2, 71), (0, c), (0, x), (0, y)] [] S _
  refine R_lo (nx := 1) rfl rfl rfl rfl ?_
  refine R_call1 (nx := 4) (as := [(0, c)]) (rest := []) rfl rfl (fun _ _ => rfl) rfl rfl rfl rfl rfl rfl rfl rfl (Cl.mono (c_M_isComplex S c) ?_)
  rintro _ _ (⟨rfl, b1, rfl⟩ | ⟨rfl, b1, rfl⟩)
  ·
    try have h0 := h c (by omega) (by omega)
    refine ⟨_, rfl, ?_⟩
    refine R_ifF (nx := 7) rfl rfl rfl ?_
    refine R_lo (nx := 8) rfl rfl rfl rfl ?_
    refine R_lo (nx := 9) rfl rfl rfl rfl ?_
    refine R_lo (nx := 10) rfl rfl rfl rfl ?_
    refine R_call1 (nx := 13) (as := [(2, 71), (0, c), (0, x)]) (rest := []) rfl rfl (fun _ _ => rfl) rfl rfl rfl rfl rfl rfl rfl rfl (Cl.mono (c_M_isCell S c (by omega) (Kf c) (show MR S c (Kf c) by first | assumption | exact MR.up (by assumption) (by omega) | exact MR.up (MR.up (by assumption) (by omega)) (by omega) | exact MR.up (MR.up (MR.up (by assumption) (by omega)) (by omega)) (by omega)) x) ?_)
    rintro _ _ (⟨rfl, b10, rfl⟩ | ⟨rfl, b10, rfl⟩)
    ·
      refine ⟨_, rfl, ?_⟩
      refine R_ifF (nx := 16) rfl rfl rfl ?_
      refine R_lo (nx := 17) rfl rfl rfl rfl ?_
      refine R_lo (nx := 18) rfl rfl rfl rfl ?_
      refine R_lo (nx := 19) rfl rfl rfl rfl ?_
      refine R_call1 (nx := 22) (as := [(2, 71), (0, c), (0, y)]) (rest := []) rfl rfl (fun _ _ => rfl) rfl rfl rfl rfl rfl rfl rfl rfl (Cl.mono (c_M_isCell S c (by omega) (Kf c) (show MR S c (Kf c) by first | assumption | exact MR.up (by assumption) (by omega) | exact MR.up (MR.up (by assumption) (by omega)) (by omega) | exact MR.up (MR.up (MR.up (by assumption) (by omega)) (by omega)) (by omega)) y) ?_)
      rintro _ _ (⟨rfl, b19, rfl⟩ | ⟨rfl, b19, rfl⟩)
      ·
        refine ⟨_, rfl, ?_⟩
        refine R_ifF (nx := 25) rfl rfl rfl ?_
        refine R_op (nx := 26) rfl rfl rfl ?_
        refine R_op (nx := 29) (pc' := 30) rfl rfl rfl ?_
        refine R_ret rfl (fun _ _ => rfl) rfl rfl ?_
        first | exact Or.inl ⟨rfl, by omega, rfl⟩ | exact Or.inr ⟨rfl, by omega, rfl⟩
      ·
        refine ⟨_, rfl, ?_⟩
        refine R_ifT (tg := 29) rfl rfl rfl ?_
        refine R_op (nx := 30) rfl rfl rfl ?_
        refine R_ret rfl (fun _ _ => rfl) rfl rfl ?_
        first | exact Or.inl ⟨rfl, by omega, rfl⟩ | exact Or.inr ⟨rfl, by omega, rfl⟩
    ·
      refine ⟨_, rfl, ?_⟩
      refine R_ifT (tg := 29) rfl rfl rfl ?_
      refine R_op (nx := 30) rfl rfl rfl ?_
      refine R_ret rfl (fun _ _ => rfl) rfl rfl ?_
      first | exact Or.inl ⟨rfl, by omega, rfl⟩ | exact Or.inr ⟨rfl, by omega, rfl⟩
  ·
    try have h0 := h c (by omega) (by omega)
    refine ⟨_, rfl, ?_⟩
    refine R_ifT (tg := 29) rfl rfl rfl ?_
    refine R_op (nx := 30) rfl rfl rfl ?_
    refine R_ret rfl (fun _ _ => rfl) rfl rfl ?_
    first | exact Or.inl ⟨rfl, by omega, rfl⟩ | exact Or.inr ⟨rfl, by omega, rfl⟩

set_option maxRecDepth 20000 in
set_option maxHeartbeats 4000000 in
theorem c_M_entriesOf0 (S : mm_S) (c : Int) (hc : 0 ≤ c ∧ c < 5) (K : CX) (h : MR S c K) (x : Int) (hx : 0 ≤ x ∧ x < Xn K) : Cl 61 [(2, 71), (0, c), (0, x), (0, 0)] S (fun v S' => v = some (0, sm (fun y => if Xe K x y ≠ 0 then 1 else 0) (Xn K)) ∧ S = S') := by
  refine ⟨Nat.le_of_ble_eq_true rfl, ?_⟩
  show Rn k_M_entriesOf 0 [(2, 71), (0, c), (0, x), (0, 0), (9, 0), (9, 0)] [] S _
  have hnr := h.r.nr
  have hn := h.n
  refine R_op (nx := 1) rfl rfl rfl ?_
  refine R_lo (nx := 3) (ls' := [(2, 71), (0, c), (0, x), (0, 0), (0, 0), (9, 0)]) rfl rfl rfl rfl ?_
  refine R_op (nx := 4) rfl rfl rfl ?_
  refine R_lo (nx := 6) (ls' := [(2, 71), (0, c), (0, x), (0, 0), (0, 0), (0, 0)]) rfl rfl rfl rfl ?_
  have L6 : ∀ (f6 : Nat) (acc : Int) (i : Int), (Xn K - i).toNat < f6 → (0 ≤ i ∧ i ≤ Xn K) → (0 * i ≤ acc ∧ acc ≤ 1 * i) → (acc = sm (fun y => if Xe K x y ≠ 0 then 1 else 0) i) → Rn k_M_entriesOf 6 [(2, 71), (0, c), (0, x), (0, 0), (0, acc), (0, i)] [] S (fun v S' => v = some (0, sm (fun y => if Xe K x y ≠ 0 then 1 else 0) (Xn K)) ∧ S = S') := by
    intro f6
    induction f6 with
    | zero => intro acc i hm6; exact absurd hm6 (Nat.not_lt_zero _)
    | succ f6 ih6 =>
      intro acc i hm6 hi hb ha
      refine R_lo (nx := 8) rfl rfl rfl rfl ?_
      refine R_lo (nx := 9) rfl rfl rfl rfl ?_
      refine R_get (nx := 12) (w := (2, 72)) rfl rfl rfl rfl ?_
      refine R_lo (nx := 13) rfl rfl rfl rfl ?_
      refine R_iald (nx := 14) rfl rfl (mm_el_ok 1 5 (by decide) rfl (by decide) (by omega) (by omega)) ?_
      refine R_icmp (nx := 17) (tg := 59) rfl rfl rfl (mm_cnd_ge _ _) (fun c14 => ?_) (fun c14 => ?_)
      ·
        refine R_lo (nx := 61) rfl rfl rfl rfl ?_
        refine R_ret rfl (fun _ _ => rfl) rfl rfl ?_
        have e : i = Xn K := by omega
        subst e
        exact ⟨by rw [ha], rfl⟩
      ·
        refine R_lo (nx := 19) rfl rfl rfl rfl ?_
        refine R_lo (nx := 20) rfl rfl rfl rfl ?_
        refine R_ifT (tg := 34) rfl rfl rfl ?_
        refine R_lo (nx := 35) rfl rfl rfl rfl ?_
        refine R_lo (nx := 36) rfl rfl rfl rfl ?_
        refine R_lo (nx := 37) rfl rfl rfl rfl ?_
        refine R_lo (nx := 39) rfl rfl rfl rfl ?_
        refine R_call1 (nx := 42) (as := [(2, 71), (0, c), (0, x), (0, i)]) (rest := [(0, acc)]) rfl rfl (fun _ _ => rfl) rfl rfl rfl rfl rfl rfl rfl rfl (Cl.mono (c_M_edge S c (by omega) K (show MRr S c K by first | assumption | exact MR.r (by assumption) | exact MRr.up (by assumption) (by omega) | exact MRr.up (MR.r (by assumption)) (by omega) | exact MRr.up (MRr.up (MR.r (by assumption)) (by omega)) (by omega)) x i (by omega) (by omega)) ?_)
        rintro _ _ ⟨rfl, rfl⟩
        refine ⟨_, rfl, ?_⟩
        refine R_if (nx := 45) (tg := 49) rfl rfl rfl (mm_cnd_eq _ _) (fun c42 => ?_) (fun c42 => ?_)
        ·
          refine R_op (nx := 50) rfl rfl rfl ?_
          refine R_iadd (nx := 51) (z := (acc + 0)) rfl rfl rfl ⟨by omega, by omega⟩ ?_
          refine R_lo (nx := 53) (ls' := [(2, 71), (0, c), (0, x), (0, 0), (0, (acc + 0)), (0, i)]) rfl rfl rfl rfl ?_
          refine R_iinc (nx := 56) (z := (i + 1)) (ls' := [(2, 71), (0, c), (0, x), (0, 0), (0, (acc + 0)), (0, (i + 1))]) rfl rfl rfl rfl ⟨by omega, by omega⟩ rfl ?_
          refine R_op (nx := 59) (pc' := 6) rfl rfl rfl ?_
          refine Rn.weak (ls' := [(2, 71), (0, c), (0, x), (0, 0), (0, (acc + 0)), (0, (i + 1))]) ⟨Or.inl rfl, ⟨Or.inl rfl, ⟨Or.inl rfl, ⟨Or.inl rfl, ⟨Or.inl rfl, ⟨Or.inl rfl, trivial⟩⟩⟩⟩⟩⟩ ?_
          refine ih6 ((acc + 0)) ((i + 1)) ?_ ?_ ?_ ?_
          · omega
          · omega
          · omega
          · rw [sm_s _ hi.1, ← ha]
            first | rw [if_pos c42] | rw [if_neg (fun q => q c42)]
        ·
          refine R_op (nx := 46) rfl rfl rfl ?_
          refine R_op (nx := 49) (pc' := 50) rfl rfl rfl ?_
          refine R_iadd (nx := 51) (z := (acc + 1)) rfl rfl rfl ⟨by omega, by omega⟩ ?_
          refine R_lo (nx := 53) (ls' := [(2, 71), (0, c), (0, x), (0, 0), (0, (acc + 1)), (0, i)]) rfl rfl rfl rfl ?_
          refine R_iinc (nx := 56) (z := (i + 1)) (ls' := [(2, 71), (0, c), (0, x), (0, 0), (0, (acc + 1)), (0, (i + 1))]) rfl rfl rfl rfl ⟨by omega, by omega⟩ rfl ?_
          refine R_op (nx := 59) (pc' := 6) rfl rfl rfl ?_
          refine Rn.weak (ls' := [(2, 71), (0, c), (0, x), (0, 0), (0, (acc + 1)), (0, (i + 1))]) ⟨Or.inl rfl, ⟨Or.inl rfl, ⟨Or.inl rfl, ⟨Or.inl rfl, ⟨Or.inl rfl, ⟨Or.inl rfl, trivial⟩⟩⟩⟩⟩⟩ ?_
          refine ih6 ((acc + 1)) ((i + 1)) ?_ ?_ ?_ ?_
          · omega
          · omega
          · omega
          · rw [sm_s _ hi.1, ← ha]
            first | rw [if_pos c42] | rw [if_neg (fun q => q c42)]
  refine Rn.weak (ls' := [(2, 71), (0, c), (0, x), (0, 0), (0, 0), (0, 0)]) ⟨Or.inl rfl, ⟨Or.inl rfl, ⟨Or.inl rfl, ⟨Or.inl rfl, ⟨Or.inl rfl, ⟨Or.inl rfl, trivial⟩⟩⟩⟩⟩⟩ ?_
  refine L6 ((Xn K - (0)).toNat + 1) (0) (0) (Nat.lt_succ_self _) ?_ ?_ ?_
  · omega
  · omega
  · rfl

set_option maxRecDepth 20000 in
set_option maxHeartbeats 4000000 in
theorem c_M_entriesOf1 (S : mm_S) (c : Int) (hc : 0 ≤ c ∧ c < 5) (K : CX) (h : MR S c K) (x : Int) (hx : 0 ≤ x ∧ x < Xn K) : Cl 61 [(2, 71), (0, c), (0, x), (0, 1)] S (fun v S' => v = some (0, sm (fun y => if Xe K y x ≠ 0 then 1 else 0) (Xn K)) ∧ S = S') := by
  refine ⟨Nat.le_of_ble_eq_true rfl, ?_⟩
  show Rn k_M_entriesOf 0 [(2, 71), (0, c), (0, x), (0, 1), (9, 0), (9, 0)] [] S _
  have hnr := h.r.nr
  have hn := h.n
  refine R_op (nx := 1) rfl rfl rfl ?_
  refine R_lo (nx := 3) (ls' := [(2, 71), (0, c), (0, x), (0, 1), (0, 0), (9, 0)]) rfl rfl rfl rfl ?_
  refine R_op (nx := 4) rfl rfl rfl ?_
  refine R_lo (nx := 6) (ls' := [(2, 71), (0, c), (0, x), (0, 1), (0, 0), (0, 0)]) rfl rfl rfl rfl ?_
  have L6 : ∀ (f6 : Nat) (acc : Int) (i : Int), (Xn K - i).toNat < f6 → (0 ≤ i ∧ i ≤ Xn K) → (0 * i ≤ acc ∧ acc ≤ 1 * i) → (acc = sm (fun y => if Xe K y x ≠ 0 then 1 else 0) i) → Rn k_M_entriesOf 6 [(2, 71), (0, c), (0, x), (0, 1), (0, acc), (0, i)] [] S (fun v S' => v = some (0, sm (fun y => if Xe K y x ≠ 0 then 1 else 0) (Xn K)) ∧ S = S') := by
    intro f6
    induction f6 with
    | zero => intro acc i hm6; exact absurd hm6 (Nat.not_lt_zero _)
    | succ f6 ih6 =>
      intro acc i hm6 hi hb ha
      refine R_lo (nx := 8) rfl rfl rfl rfl ?_
      refine R_lo (nx := 9) rfl rfl rfl rfl ?_
      refine R_get (nx := 12) (w := (2, 72)) rfl rfl rfl rfl ?_
      refine R_lo (nx := 13) rfl rfl rfl rfl ?_
      refine R_iald (nx := 14) rfl rfl (mm_el_ok 1 5 (by decide) rfl (by decide) (by omega) (by omega)) ?_
      refine R_icmp (nx := 17) (tg := 59) rfl rfl rfl (mm_cnd_ge _ _) (fun c14 => ?_) (fun c14 => ?_)
      ·
        refine R_lo (nx := 61) rfl rfl rfl rfl ?_
        refine R_ret rfl (fun _ _ => rfl) rfl rfl ?_
        have e : i = Xn K := by omega
        subst e
        exact ⟨by rw [ha], rfl⟩
      ·
        refine R_lo (nx := 19) rfl rfl rfl rfl ?_
        refine R_lo (nx := 20) rfl rfl rfl rfl ?_
        refine R_ifF (nx := 23) rfl rfl rfl ?_
        refine R_lo (nx := 24) rfl rfl rfl rfl ?_
        refine R_lo (nx := 25) rfl rfl rfl rfl ?_
        refine R_lo (nx := 27) rfl rfl rfl rfl ?_
        refine R_lo (nx := 28) rfl rfl rfl rfl ?_
        refine R_call1 (nx := 31) (as := [(2, 71), (0, c), (0, i), (0, x)]) (rest := [(0, acc)]) rfl rfl (fun _ _ => rfl) rfl rfl rfl rfl rfl rfl rfl rfl (Cl.mono (c_M_edge S c (by omega) K (show MRr S c K by first | assumption | exact MR.r (by assumption) | exact MRr.up (by assumption) (by omega) | exact MRr.up (MR.r (by assumption)) (by omega) | exact MRr.up (MRr.up (MR.r (by assumption)) (by omega)) (by omega)) i x (by omega) (by omega)) ?_)
        rintro _ _ ⟨rfl, rfl⟩
        refine ⟨_, rfl, ?_⟩
        refine R_op (nx := 34) (pc' := 42) rfl rfl rfl ?_
        refine R_if (nx := 45) (tg := 49) rfl rfl rfl (mm_cnd_eq _ _) (fun c42 => ?_) (fun c42 => ?_)
        ·
          refine R_op (nx := 50) rfl rfl rfl ?_
          refine R_iadd (nx := 51) (z := (acc + 0)) rfl rfl rfl ⟨by omega, by omega⟩ ?_
          refine R_lo (nx := 53) (ls' := [(2, 71), (0, c), (0, x), (0, 1), (0, (acc + 0)), (0, i)]) rfl rfl rfl rfl ?_
          refine R_iinc (nx := 56) (z := (i + 1)) (ls' := [(2, 71), (0, c), (0, x), (0, 1), (0, (acc + 0)), (0, (i + 1))]) rfl rfl rfl rfl ⟨by omega, by omega⟩ rfl ?_
          refine R_op (nx := 59) (pc' := 6) rfl rfl rfl ?_
          refine Rn.weak (ls' := [(2, 71), (0, c), (0, x), (0, 1), (0, (acc + 0)), (0, (i + 1))]) ⟨Or.inl rfl, ⟨Or.inl rfl, ⟨Or.inl rfl, ⟨Or.inl rfl, ⟨Or.inl rfl, ⟨Or.inl rfl, trivial⟩⟩⟩⟩⟩⟩ ?_
          refine ih6 ((acc + 0)) ((i + 1)) ?_ ?_ ?_ ?_
          · omega
          · omega
          · omega
          · rw [sm_s _ hi.1, ← ha]
            first | rw [if_pos c42] | rw [if_neg (fun q => q c42)]
        ·
          refine R_op (nx := 46) rfl rfl rfl ?_
          refine R_op (nx := 49) (pc' := 50) rfl rfl rfl ?_
          refine R_iadd (nx := 51) (z := (acc + 1)) rfl rfl rfl ⟨by omega, by omega⟩ ?_
          refine R_lo (nx := 53) (ls' := [(2, 71), (0, c), (0, x), (0, 1), (0, (acc + 1)), (0, i)]) rfl rfl rfl rfl ?_
          refine R_iinc (nx := 56) (z := (i + 1)) (ls' := [(2, 71), (0, c), (0, x), (0, 1), (0, (acc + 1)), (0, (i + 1))]) rfl rfl rfl rfl ⟨by omega, by omega⟩ rfl ?_
          refine R_op (nx := 59) (pc' := 6) rfl rfl rfl ?_
          refine Rn.weak (ls' := [(2, 71), (0, c), (0, x), (0, 1), (0, (acc + 1)), (0, (i + 1))]) ⟨Or.inl rfl, ⟨Or.inl rfl, ⟨Or.inl rfl, ⟨Or.inl rfl, ⟨Or.inl rfl, ⟨Or.inl rfl, trivial⟩⟩⟩⟩⟩⟩ ?_
          refine ih6 ((acc + 1)) ((i + 1)) ?_ ?_ ?_ ?_
          · omega
          · omega
          · omega
          · rw [sm_s _ hi.1, ← ha]
            first | rw [if_pos c42] | rw [if_neg (fun q => q c42)]
  refine Rn.weak (ls' := [(2, 71), (0, c), (0, x), (0, 1), (0, 0), (0, 0)]) ⟨Or.inl rfl, ⟨Or.inl rfl, ⟨Or.inl rfl, ⟨Or.inl rfl, ⟨Or.inl rfl, ⟨Or.inl rfl, trivial⟩⟩⟩⟩⟩⟩ ?_
  refine L6 ((Xn K - (0)).toNat + 1) (0) (0) (Nat.lt_succ_self _) ?_ ?_ ?_
  · omega
  · omega
  · rfl

set_option maxRecDepth 20000 in
set_option maxHeartbeats 4000000 in
theorem c_M_brokenAt (S : mm_S) (c : Int) (hc : 0 ≤ c ∧ c < 5) (K : CX) (h : MR S c K) (hR : Rg K) : Cl 63 [(2, 71), (0, c)] S (fun v S' => v = some (0, Xfb K) ∧ S = S') := by
  refine ⟨Nat.le_of_ble_eq_true rfl, ?_⟩
  show Rn k_M_brokenAt 0 [(2, 71), (0, c), (9, 0), (9, 0), (9, 0), (9, 0)] [] S _
  have hnr := h.r.nr
  have hn := h.n
  refine R_op (nx := 1) rfl rfl rfl ?_
  refine R_lo (nx := 2) (ls' := [(2, 71), (0, c), (0, 0), (9, 0), (9, 0), (9, 0)]) rfl rfl rfl rfl ?_
  have L2 : ∀ (f2 : Nat) (x : Int), (Xn K - x).toNat < f2 → (0 ≤ x ∧ x ≤ Xn K) → (Xfb K = fr (fun x => fr (Xfbr K x) 0 (Xn K)) x (Xn K)) → Rn k_M_brokenAt 2 [(2, 71), (0, c), (0, x), (9, 0), (9, 0), (9, 0)] [] S (fun v S' => v = some (0, Xfb K) ∧ S = S') := by
    intro f2
    induction f2 with
    | zero => intro x hm2; exact absurd hm2 (Nat.not_lt_zero _)
    | succ f2 ih2 =>
      intro x hm2 hx ho
      refine R_lo (nx := 3) rfl rfl rfl rfl ?_
      refine R_lo (nx := 4) rfl rfl rfl rfl ?_
      refine R_get (nx := 7) (w := (2, 72)) rfl rfl rfl rfl ?_
      refine R_lo (nx := 8) rfl rfl rfl rfl ?_
      refine R_iald (nx := 9) rfl rfl (mm_el_ok 1 5 (by decide) rfl (by decide) (by omega) (by omega)) ?_
      refine R_icmp (nx := 12) (tg := 95) rfl rfl rfl (mm_cnd_ge _ _) (fun c9 => ?_) (fun c9 => ?_)
      ·
        refine R_op (nx := 96) rfl rfl rfl ?_
        refine R_ret rfl (fun _ _ => rfl) rfl rfl ?_
        first | exact ⟨by rw [Xfb_hit (by omega) (by omega) (by omega) ho hq (fun q => c71 (by have e : i = Xn K := (by omega); subst e; rw [ha]; exact q))], rfl⟩ | exact ⟨by rw [ho, fr_e _ (by omega)], rfl⟩
      ·
        refine R_op (nx := 13) rfl rfl rfl ?_
        refine R_lo (nx := 14) (ls' := [(2, 71), (0, c), (0, x), (0, 0), (9, 0), (9, 0)]) rfl rfl rfl rfl ?_
        have L14 : ∀ (f14 : Nat) (y : Int), (Xn K - y).toNat < f14 → (0 ≤ y ∧ y ≤ Xn K) → (fr (Xfbr K x) 0 (Xn K) = fr (Xfbr K x) y (Xn K)) → Rn k_M_brokenAt 14 [(2, 71), (0, c), (0, x), (0, y), (9, 0), (9, 0)] [] S (fun v S' => v = some (0, Xfb K) ∧ S = S') := by
          intro f14
          induction f14 with
          | zero => intro y hm14; exact absurd hm14 (Nat.not_lt_zero _)
          | succ f14 ih14 =>
            intro y hm14 hy hq
            refine R_lo (nx := 15) rfl rfl rfl rfl ?_
            refine R_lo (nx := 16) rfl rfl rfl rfl ?_
            refine R_get (nx := 19) (w := (2, 72)) rfl rfl rfl rfl ?_
            refine R_lo (nx := 20) rfl rfl rfl rfl ?_
            refine R_iald (nx := 21) rfl rfl (mm_el_ok 1 5 (by decide) rfl (by decide) (by omega) (by omega)) ?_
            refine R_icmp (nx := 24) (tg := 89) rfl rfl rfl (mm_cnd_ge _ _) (fun c21 => ?_) (fun c21 => ?_)
            ·
              refine R_iinc (nx := 92) (z := (x + 1)) (ls' := [(2, 71), (0, c), (0, (x + 1)), (0, y), (9, 0), (9, 0)]) rfl rfl rfl rfl ⟨by omega, by omega⟩ rfl ?_
              refine R_op (nx := 95) (pc' := 2) rfl rfl rfl ?_
              refine Rn.weak (ls' := [(2, 71), (0, c), (0, (x + 1)), (9, 0), (9, 0), (9, 0)]) ⟨Or.inl rfl, ⟨Or.inl rfl, ⟨Or.inl rfl, ⟨Or.inr rfl, ⟨Or.inl rfl, ⟨Or.inl rfl, trivial⟩⟩⟩⟩⟩⟩ ?_
              refine ih2 ((x + 1)) ?_ ?_ ?_
              · omega
              · omega
              · exact Xfb_row (by omega) ho (by rw [hq, fr_e _ (by omega)])
            ·
              refine R_op (nx := 25) rfl rfl rfl ?_
              refine R_lo (nx := 27) (ls' := [(2, 71), (0, c), (0, x), (0, y), (0, 0), (9, 0)]) rfl rfl rfl rfl ?_
              refine R_op (nx := 28) rfl rfl rfl ?_
              refine R_lo (nx := 30) (ls' := [(2, 71), (0, c), (0, x), (0, y), (0, 0), (0, 0)]) rfl rfl rfl rfl ?_
              have L30 : ∀ (f30 : Nat) (acc : Int) (i : Int), (Xn K - i).toNat < f30 → (0 ≤ i ∧ i ≤ Xn K) → (acc = sm (fun k => Xe K x k * Xe K k y) i) → Rn k_M_brokenAt 30 [(2, 71), (0, c), (0, x), (0, y), (0, acc), (0, i)] [] S (fun v S' => v = some (0, Xfb K) ∧ S = S') := by
                intro f30
                induction f30 with
                | zero => intro acc i hm30; exact absurd hm30 (Nat.not_lt_zero _)
                | succ f30 ih30 =>
                  intro acc i hm30 hi ha
                  have hpb := Xdd_part hR x y hi.1 (by omega)
                  have hpr := pr81 (hR.e x i) (hR.e i y)
                  refine R_lo (nx := 32) rfl rfl rfl rfl ?_
                  refine R_lo (nx := 33) rfl rfl rfl rfl ?_
                  refine R_get (nx := 36) (w := (2, 72)) rfl rfl rfl rfl ?_
                  refine R_lo (nx := 37) rfl rfl rfl rfl ?_
                  refine R_iald (nx := 38) rfl rfl (mm_el_ok 1 5 (by decide) rfl (by decide) (by omega) (by omega)) ?_
                  refine R_icmp (nx := 41) (tg := 69) rfl rfl rfl (mm_cnd_ge _ _) (fun c38 => ?_) (fun c38 => ?_)
                  ·
                    refine R_lo (nx := 71) rfl rfl rfl rfl ?_
                    refine R_if (nx := 74) (tg := 83) rfl rfl rfl (mm_cnd_eq _ _) (fun c71 => ?_) (fun c71 => ?_)
                    ·
                      refine R_iinc (nx := 86) (z := (y + 1)) (ls' := [(2, 71), (0, c), (0, x), (0, (y + 1)), (0, acc), (0, i)]) rfl rfl rfl rfl ⟨by omega, by omega⟩ rfl ?_
                      refine R_op (nx := 89) (pc' := 14) rfl rfl rfl ?_
                      refine Rn.weak (ls' := [(2, 71), (0, c), (0, x), (0, (y + 1)), (9, 0), (9, 0)]) ⟨Or.inl rfl, ⟨Or.inl rfl, ⟨Or.inl rfl, ⟨Or.inl rfl, ⟨Or.inr rfl, ⟨Or.inr rfl, trivial⟩⟩⟩⟩⟩⟩ ?_
                      refine ih14 ((y + 1)) ?_ ?_ ?_
                      · omega
                      · omega
                      · exact Xfb_nxt (by omega) hq (by have e : i = Xn K := (by omega); subst e; rw [← c71]; exact ha.symm)
                    ·
                      refine R_op (nx := 75) rfl rfl rfl ?_
                      refine R_op (nx := 77) rfl rfl rfl ?_
                      refine R_lo (nx := 78) rfl rfl rfl rfl ?_
                      refine R_imul (nx := 79) (z := (16 * x)) rfl rfl rfl ⟨by omega, by omega⟩ ?_
                      refine R_iadd (nx := 80) (z := (1 + (16 * x))) rfl rfl rfl ⟨by omega, by omega⟩ ?_
                      refine R_lo (nx := 81) rfl rfl rfl rfl ?_
                      refine R_iadd (nx := 82) (z := ((1 + (16 * x)) + y)) rfl rfl rfl ⟨by omega, by omega⟩ ?_
                      refine R_ret rfl (fun _ _ => rfl) rfl rfl ?_
                      first | exact ⟨by rw [Xfb_hit (by omega) (by omega) (by omega) ho hq (fun q => c71 (by have e : i = Xn K := (by omega); subst e; rw [ha]; exact q))], rfl⟩ | exact ⟨by rw [ho, fr_e _ (by omega)], rfl⟩
                  ·
                    refine R_lo (nx := 43) rfl rfl rfl rfl ?_
                    refine R_lo (nx := 44) rfl rfl rfl rfl ?_
                    refine R_lo (nx := 45) rfl rfl rfl rfl ?_
                    refine R_lo (nx := 46) rfl rfl rfl rfl ?_
                    refine R_lo (nx := 48) rfl rfl rfl rfl ?_
                    refine R_call1 (nx := 51) (as := [(2, 71), (0, c), (0, x), (0, i)]) (rest := [(0, acc)]) rfl rfl (fun _ _ => rfl) rfl rfl rfl rfl rfl rfl rfl rfl (Cl.mono (c_M_edge S c (by omega) K (show MRr S c K by first | assumption | exact MR.r (by assumption) | exact MRr.up (by assumption) (by omega) | exact MRr.up (MR.r (by assumption)) (by omega) | exact MRr.up (MRr.up (MR.r (by assumption)) (by omega)) (by omega)) x i (by omega) (by omega)) ?_)
                    rintro _ _ ⟨rfl, rfl⟩
                    refine ⟨_, rfl, ?_⟩
                    refine R_lo (nx := 52) rfl rfl rfl rfl ?_
                    refine R_lo (nx := 53) rfl rfl rfl rfl ?_
                    refine R_lo (nx := 55) rfl rfl rfl rfl ?_
                    refine R_lo (nx := 56) rfl rfl rfl rfl ?_
                    refine R_call1 (nx := 59) (as := [(2, 71), (0, c), (0, i), (0, y)]) (rest := [(0, (Xe K x i)), (0, acc)]) rfl rfl (fun _ _ => rfl) rfl rfl rfl rfl rfl rfl rfl rfl (Cl.mono (c_M_edge S c (by omega) K (show MRr S c K by first | assumption | exact MR.r (by assumption) | exact MRr.up (by assumption) (by omega) | exact MRr.up (MR.r (by assumption)) (by omega) | exact MRr.up (MRr.up (MR.r (by assumption)) (by omega)) (by omega)) i y (by omega) (by omega)) ?_)
                    rintro _ _ ⟨rfl, rfl⟩
                    refine ⟨_, rfl, ?_⟩
                    refine R_imul (nx := 60) (z := ((Xe K x i) * (Xe K i y))) rfl rfl rfl ⟨by omega, by omega⟩ ?_
                    refine R_iadd (nx := 61) (z := (acc + ((Xe K x i) * (Xe K i y)))) rfl rfl rfl ⟨by omega, by omega⟩ ?_
                    refine R_lo (nx := 63) (ls' := [(2, 71), (0, c), (0, x), (0, y), (0, (acc + ((Xe K x i) * (Xe K i y)))), (0, i)]) rfl rfl rfl rfl ?_
                    refine R_iinc (nx := 66) (z := (i + 1)) (ls' := [(2, 71), (0, c), (0, x), (0, y), (0, (acc + ((Xe K x i) * (Xe K i y)))), (0, (i + 1))]) rfl rfl rfl rfl ⟨by omega, by omega⟩ rfl ?_
                    refine R_op (nx := 69) (pc' := 30) rfl rfl rfl ?_
                    refine Rn.weak (ls' := [(2, 71), (0, c), (0, x), (0, y), (0, (acc + ((Xe K x i) * (Xe K i y)))), (0, (i + 1))]) ⟨Or.inl rfl, ⟨Or.inl rfl, ⟨Or.inl rfl, ⟨Or.inl rfl, ⟨Or.inl rfl, ⟨Or.inl rfl, trivial⟩⟩⟩⟩⟩⟩ ?_
                    refine ih30 ((acc + ((Xe K x i) * (Xe K i y)))) ((i + 1)) ?_ ?_ ?_
                    · omega
                    · omega
                    · rw [sm_s _ hi.1, ← ha]
              refine Rn.weak (ls' := [(2, 71), (0, c), (0, x), (0, y), (0, 0), (0, 0)]) ⟨Or.inl rfl, ⟨Or.inl rfl, ⟨Or.inl rfl, ⟨Or.inl rfl, ⟨Or.inl rfl, ⟨Or.inl rfl, trivial⟩⟩⟩⟩⟩⟩ ?_
              refine L30 ((Xn K - (0)).toNat + 1) (0) (0) (Nat.lt_succ_self _) ?_ ?_
              · omega
              · rfl
        refine Rn.weak (ls' := [(2, 71), (0, c), (0, x), (0, 0), (9, 0), (9, 0)]) ⟨Or.inl rfl, ⟨Or.inl rfl, ⟨Or.inl rfl, ⟨Or.inl rfl, ⟨Or.inl rfl, ⟨Or.inl rfl, trivial⟩⟩⟩⟩⟩⟩ ?_
        refine L14 ((Xn K - (0)).toNat + 1) (0) (Nat.lt_succ_self _) ?_ ?_
        · omega
        · rfl
  refine Rn.weak (ls' := [(2, 71), (0, c), (0, 0), (9, 0), (9, 0), (9, 0)]) ⟨Or.inl rfl, ⟨Or.inl rfl, ⟨Or.inl rfl, ⟨Or.inl rfl, ⟨Or.inl rfl, ⟨Or.inl rfl, trivial⟩⟩⟩⟩⟩⟩ ?_
  refine L2 ((Xn K - (0)).toNat + 1) (0) (Nat.lt_succ_self _) ?_ ?_
  · omega
  · rfl
