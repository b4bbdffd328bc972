/-! How cells stand in order, and what is last. -/
abbrev bef (K : CX) (w x y : Int) : Prop := Xl K w x < Xl K w y ∨ (Xl K w x = Xl K w y ∧ (Xd K x < Xd K y ∨ (Xd K x = Xd K y ∧ x < y)))
theorem bef_tr {K : CX} {w x y z : Int} (h : bef K w x y) (h' : bef K w y z) : bef K w x z := by unfold bef at *; omega
theorem bef_ir (K : CX) (w x : Int) : ¬ bef K w x x := by unfold bef; omega
theorem bef_to {K : CX} {w x y : Int} (h : x ≠ y) : bef K w x y ∨ bef K w y x := by unfold bef; omega
def rkb (K : CX) (w m x : Int) : Int := sm (fun i => if bef K w i x then 1 else 0) m
theorem smN_le {f g : Int → Int} : ∀ (k : Nat), (∀ i : Nat, i < k → f i ≤ g i) → smN f k ≤ smN g k
  | 0, _ => Int.le_refl _
  | k + 1, h => by
    have h1 := smN_le k fun i hi => h i (by omega)
    have h2 := h k (by omega)
    show smN f k + f k ≤ smN g k + g k
    omega
theorem sm_le {f g : Int → Int} {n : Int} (h : ∀ i, 0 ≤ i → i < n → f i ≤ g i) : sm f n ≤ sm g n := smN_le _ fun i hi => h i (by omega) (by omega)
theorem smN_lt {f g : Int → Int} (c : Int) : ∀ (k : Nat), (∀ i : Nat, i < k → f i ≤ g i) → (0 ≤ c ∧ c < (k : Int)) → f c + 1 ≤ g c → smN f k + 1 ≤ smN g k
  | 0, _, hc, _ => by omega
  | k + 1, h, hc, hd => by
    show smN f k + f k + 1 ≤ smN g k + g k
    by_cases e : c = k
    · have h1 := smN_le k fun i hi => h i (by omega)
      rw [e] at hd
      omega
    · have h1 := smN_lt c k (fun i hi => h i (by omega)) (by omega) hd
      have h2 := h k (by omega)
      omega
theorem sm_lt {f g : Int → Int} {n c : Int} (h : ∀ i, 0 ≤ i → i < n → f i ≤ g i) (hc : 0 ≤ c ∧ c < n) (hd : f c + 1 ≤ g c) : sm f n + 1 ≤ sm g n := smN_lt c _ (fun i hi => h i (by omega) (by omega)) (by omega) hd
theorem sm_one {n : Int} (h : 0 ≤ n) : sm (fun _ => 1) n = n := by
  have := sm_b (f := fun _ => 1) (lo := 1) (hi := 1) h fun i _ _ => ⟨Int.le_refl _, Int.le_refl _⟩
  omega
theorem rkb_b (K : CX) (w x : Int) {m : Int} (h : 0 ≤ m) : 0 ≤ rkb K w m x ∧ rkb K w m x ≤ m := by
  have := sm_b (f := fun i => if bef K w i x then 1 else 0) (lo := 0) (hi := 1) h fun i _ _ => by split <;> decide
  unfold rkb; omega
theorem rkb_le {K : CX} {w m x y : Int} (h : bef K w x y) : rkb K w m x ≤ rkb K w m y := sm_le fun i _ _ => by
  by_cases a : bef K w i x
  · rw [if_pos a, if_pos (bef_tr a h)]; exact Int.le_refl _
  · rw [if_neg a]; split <;> decide
theorem rkb_lt {K : CX} {w m x y : Int} (hx : 0 ≤ x ∧ x < m) (h : bef K w x y) : rkb K w m x + 1 ≤ rkb K w m y := by
  refine sm_lt (c := x) (fun i _ _ => ?_) hx ?_
  · by_cases a : bef K w i x
    · rw [if_pos a, if_pos (bef_tr a h)]; exact Int.le_refl _
    · rw [if_neg a]; split <;> decide
  · rw [if_neg (bef_ir K w x), if_pos h]; decide
theorem rkb_n {K : CX} {w m x : Int} (hx : 0 ≤ x ∧ x < m) : rkb K w m x < m := by
  have h : rkb K w m x + 1 ≤ sm (fun _ => 1) m := by
    refine sm_lt (c := x) (fun i _ _ => ?_) hx ?_
    · split <;> decide
    · rw [if_neg (bef_ir K w x)]; decide
  rw [sm_one (by omega)] at h
  omega
theorem rkb_i {K : CX} {w m x y : Int} (hx : 0 ≤ x ∧ x < m) (hy : 0 ≤ y ∧ y < m) (h : rkb K w m x = rkb K w m y) : x = y := by
  by_cases e : x = y
  · exact e
  · rcases bef_to (K := K) (w := w) e with a | a
    · have := rkb_lt hx a; omega
    · have := rkb_lt hy a; omega
theorem rkb_s {K : CX} {w m x : Int} (h : 0 ≤ m) : rkb K w (m + 1) x = rkb K w m x + if bef K w m x then 1 else 0 := sm_s _ h
theorem bef_rk {K : CX} {w m x y : Int} (hy : 0 ≤ y ∧ y < m) (h : rkb K w m x < rkb K w m y) (hx : 0 ≤ x ∧ x < m) : bef K w x y := by
  by_cases e : x = y
  · subst e; omega
  · rcases bef_to (K := K) (w := w) e with a | a
    · exact a
    · have := rkb_lt (m := m) hy a; omega
def isO (K : CX) (w m : Int) (a : Int → Int) : Prop := ∀ k, 0 ≤ k → k < m → (0 ≤ a k ∧ a k < m) ∧ rkb K w m (a k) = k
theorem isO_ins {K : CX} {w x pl : Int} {a b : Int → Int} (h : isO K w x a) (hx : 0 ≤ x) (hp : 0 ≤ pl ∧ pl ≤ x) (h1 : ∀ k, 0 ≤ k → k < pl → b k = a k) (h2 : b pl = x) (h3 : ∀ k, pl < k → k ≤ x → b k = a (k - 1)) (h4 : ∀ k, pl ≤ k → k < x → bef K w x (a k)) (h5 : pl = 0 ∨ ¬ bef K w x (a (pl - 1))) : isO K w (x + 1) b := by
  intro k k0 k1
  rw [rkb_s hx]
  by_cases e : k < pl
  · rw [h1 k k0 e]
    obtain ⟨g1, g2⟩ := h k k0 (by omega)
    refine ⟨by omega, ?_⟩
    rw [g2, if_neg, Int.add_zero]
    intro q
    rcases h5 with h5 | h5
    · omega
    · by_cases e2 : k = pl - 1
      · rw [e2] at q; exact h5 q
      · obtain ⟨u1, u2⟩ := h (pl - 1) (by omega) (by omega)
        exact h5 (bef_tr q (bef_rk u1 (by omega) g1))
  · by_cases e2 : k = pl
    · subst e2
      rw [h2, if_neg (bef_ir K w x), Int.add_zero]
      refine ⟨by omega, ?_⟩
      have hb := rkb_b K w x hx
      have hi : rkb K w x x ≤ k := by
        by_cases e3 : k = x
        · omega
        · have u := (h k k0 (by omega)).2
          have v := rkb_le (m := x) (h4 k (Int.le_refl _) (by omega))
          omega
      have lo : k ≤ rkb K w x x := by
        rcases h5 with h5 | h5
        · omega
        · by_cases e3 : k = 0
          · omega
          · obtain ⟨u1, u2⟩ := h (k - 1) (by omega) (by omega)
            rcases bef_to (K := K) (w := w) (x := x) (y := a (k - 1)) (by omega) with q | q
            · exact absurd q h5
            · have := rkb_lt u1 q
              omega
      omega
    · rw [h3 k (by omega) (by omega)]
      obtain ⟨g1, g2⟩ := h (k - 1) (by omega) (by omega)
      refine ⟨by omega, ?_⟩
      rw [g2, if_pos (h4 (k - 1) (by omega) (by omega))]
      omega
theorem isO_ex (K : CX) (w : Int) : ∀ (m : Nat), ∃ a, isO K w m a
  | 0 => ⟨fun _ => 0, fun k h0 h1 => by omega⟩
  | m + 1 => by
    obtain ⟨a, h⟩ := isO_ex K w m
    have hb := rkb_b K w m (m := m) (by omega)
    refine ⟨fun k => if k < rkb K w m m then a k else if k = rkb K w m m then m else a (k - 1), ?_⟩
    have e : ((m + 1 : Nat) : Int) = (m : Int) + 1 := by omega
    rw [e]
    refine isO_ins (pl := rkb K w m m) h (by omega) hb (fun k k0 k1 => if_pos k1) ?_ (fun k k0 k1 => ?_) (fun k k0 k1 => ?_) ?_
    · show (if rkb K w m m < rkb K w m m then _ else if rkb K w m m = rkb K w m m then _ else _) = _
      rw [if_neg (by omega), if_pos rfl]
    · show (if k < rkb K w m m then _ else if k = rkb K w m m then _ else _) = _
      rw [if_neg (by omega), if_neg (by omega)]
    · obtain ⟨g1, g2⟩ := h k (by omega) k1
      rcases bef_to (K := K) (w := w) (x := (m : Int)) (y := a k) (by omega) with q | q
      · exact q
      · have := rkb_lt g1 q
        omega
    · by_cases e3 : rkb K w m m = 0
      · exact Or.inl e3
      · refine Or.inr fun q => ?_
        obtain ⟨g1, g2⟩ := h (rkb K w m m - 1) (by omega) (by omega)
        have := rkb_le (m := m) q
        omega
def rk (K : CX) (w x : Int) : Int := rkb K w (Xn K) x
def od (K : CX) (w i : Int) : Int := fr (fun x => if rk K w x = i then x + 1 else 0) 0 (Xn K) - 1
theorem od_rk {K : CX} {w x : Int} (hx : 0 ≤ x ∧ x < Xn K) : od K w (rk K w x) = x := by
  unfold od
  rw [fr_u (g := fun z => if rk K w z = rk K w x then z + 1 else 0) (x := x) (v := x + 1) (by omega) (if_pos rfl) hx.1 hx.2 fun j a b c => if_neg fun q => c (rkb_i ⟨a, b⟩ hx q)]
  omega
theorem rk_r {K : CX} {w x : Int} (hx : 0 ≤ x ∧ x < Xn K) : 0 ≤ rk K w x ∧ rk K w x < Xn K := ⟨(rkb_b K w x (by omega)).1, rkb_n hx⟩
theorem od_of {K : CX} {w i : Int} {a : Int → Int} (h : isO K w (Xn K) a) (hi : 0 ≤ i ∧ i < Xn K) : od K w i = a i := by
  obtain ⟨g1, g2⟩ := h i hi.1 hi.2
  have := od_rk (K := K) (w := w) g1
  unfold rk at this
  rw [g2] at this
  exact this
theorem od_ok {K : CX} {w i : Int} (hi : 0 ≤ i ∧ i < Xn K) : (0 ≤ od K w i ∧ od K w i < Xn K) ∧ rk K w (od K w i) = i := by
  obtain ⟨a, h⟩ := isO_ex K w (Xn K).toNat
  rw [show (((Xn K).toNat : Nat) : Int) = Xn K by omega] at h
  rw [od_of h hi]
  exact h i hi.1 hi.2
theorem od_to {K : CX} {w : Int} {a : Int → Int} (h : ∀ x, 0 ≤ x → x < Xn K → a (rk K w x) = x) {i : Int} (hi : 0 ≤ i ∧ i < Xn K) : a i = od K w i := by
  obtain ⟨g1, g2⟩ := od_ok (K := K) (w := w) hi
  have := h _ g1.1 g1.2
  rw [g2] at this
  exact this
theorem rk_may {K : CX} {w x y : Int} (hw : w = 0 ∨ w = 1) (h : Xmay K x y) : rk K w y < rk K w x := by
  have hb : bef K w y x := by
    obtain ⟨h1, h2, h3, h4, h5⟩ := h
    have l0 : Xl K 0 y ≤ Xl K 0 x := h4
    have l1 : Xl K 1 y ≤ Xl K 1 x := h5
    rcases hw with rfl | rfl <;> unfold bef <;> omega
  have := rkb_lt (m := Xn K) h.2.1 hb
  unfold rk
  omega
/-- the last one, by an order -/
def laN (f o : Int → Int) : Nat → Int
  | 0 => -1
  | k + 1 => if f (o k) ≠ 0 then o k else laN f o k
def laI (f o : Int → Int) (m : Int) : Int := laN f o m.toNat
theorem laI_s (f o : Int → Int) {m : Int} (h : 0 ≤ m) : laI f o (m + 1) = if f (o m) ≠ 0 then o m else laI f o m := by
  obtain ⟨k, rfl⟩ : ∃ k : Nat, m = k := ⟨m.toNat, by omega⟩
  rfl
def la (K : CX) (w : Int) (f : Int → Int) : Int := laI f (od K w) (Xn K)
def isL (K : CX) (w : Int) (f : Int → Int) (l : Int) : Prop := (0 ≤ l ∧ l < Xn K) ∧ f l ≠ 0 ∧ ∀ y, 0 ≤ y → y < Xn K → rk K w l < rk K w y → f y = 0
theorem laN_sp (f o : Int → Int) : ∀ (k : Nat), (laN f o k = -1 ∧ ∀ j : Int, 0 ≤ j → j < k → f (o j) = 0) ∨ ∃ j : Int, (0 ≤ j ∧ j < k) ∧ laN f o k = o j ∧ f (o j) ≠ 0 ∧ ∀ i : Int, j < i → i < k → f (o i) = 0
  | 0 => Or.inl ⟨rfl, fun j a b => by omega⟩
  | k + 1 => by
    show ((if f (o k) ≠ 0 then o k else laN f o k) = -1 ∧ _) ∨ ∃ j : Int, _ ∧ (if f (o k) ≠ 0 then o k else laN f o k) = o j ∧ _
    by_cases e : f (o k) ≠ 0
    · rw [if_pos e]
      exact Or.inr ⟨k, by omega, rfl, e, fun i a b => by omega⟩
    · rw [if_neg e]
      have e' : f (o k) = 0 := Classical.not_not.mp e
      rcases laN_sp f o k with ⟨a, b⟩ | ⟨j, a, b, c, d⟩
      · refine Or.inl ⟨a, fun j h0 h1 => ?_⟩
        by_cases q : j = k
        · rw [q]; exact e'
        · exact b j h0 (by omega)
      · refine Or.inr ⟨j, by omega, b, c, fun i h0 h1 => ?_⟩
        by_cases q : i = k
        · rw [q]; exact e'
        · exact d i h0 (by omega)
theorem la_sp {K : CX} (w : Int) (f : Int → Int) (hn : 0 ≤ Xn K) : (la K w f = -1 ∧ ∀ y, 0 ≤ y → y < Xn K → f y = 0) ∨ isL K w f (la K w f) := by
  have ek : (((Xn K).toNat : Nat) : Int) = Xn K := by omega
  rcases laN_sp f (od K w) (Xn K).toNat with ⟨a, b⟩ | ⟨j, a, b, c, d⟩
  · refine Or.inl ⟨a, fun y h0 h1 => ?_⟩
    have hr := rk_r (K := K) (w := w) ⟨h0, h1⟩
    have := b (rk K w y) hr.1 (by omega)
    rw [od_rk ⟨h0, h1⟩] at this
    exact this
  · refine Or.inr ?_
    have e : la K w f = od K w j := b
    obtain ⟨g1, g2⟩ := od_ok (K := K) (w := w) (i := j) (by omega)
    rw [e]
    refine ⟨g1, c, fun y h0 h1 h2 => ?_⟩
    have hr := rk_r (K := K) (w := w) ⟨h0, h1⟩
    have := d (rk K w y) (by omega) (by omega)
    rw [od_rk ⟨h0, h1⟩] at this
    exact this
theorem isL_u {K : CX} {w : Int} {f : Int → Int} {l : Int} (hn : 0 ≤ Xn K) (h : isL K w f l) : la K w f = l := by
  obtain ⟨h1, h2, h3⟩ := h
  rcases la_sp w f hn with ⟨a, b⟩ | ⟨a, b, c⟩
  · exact absurd (b l h1.1 h1.2) h2
  · by_cases e : rk K w (la K w f) < rk K w l
    · exact absurd (c l h1.1 h1.2 e) h2
    · by_cases e2 : rk K w l < rk K w (la K w f)
      · exact absurd (h3 _ a.1 a.2 e2) b
      · exact rkb_i (K := K) (w := w) a h1 (show rk K w _ = rk K w _ by omega)
theorem la_0 {K : CX} {w : Int} {f : Int → Int} (hn : 0 ≤ Xn K) (h : ∀ y, 0 ≤ y → y < Xn K → f y = 0) : la K w f = -1 := by
  rcases la_sp w f hn with ⟨a, b⟩ | ⟨a, b, c⟩
  · exact a
  · exact absurd (h _ a.1 a.2) b
/-! Reduced by a prime: what the rows are made of, who has which one last. -/
theorem smN_add (f g : Int → Int) : ∀ (k : Nat), smN (fun i => f i + g i) k = smN f k + smN g k
  | 0 => rfl
  | k + 1 => by
    show smN _ k + (f k + g k) = smN f k + f k + (smN g k + g k)
    rw [smN_add f g k]; omega
theorem sm_add (f g : Int → Int) (n : Int) : sm (fun i => f i + g i) n = sm f n + sm g n := by
  unfold sm
  induction n.toNat with
  | zero => rfl
  | succ k ih =>
    show smN _ k + (f k + g k) = smN f k + f k + (smN g k + g k)
    rw [ih]; omega
theorem sm_mul (c : Int) (f : Int → Int) (n : Int) : sm (fun i => c * f i) n = c * sm f n := by
  unfold sm
  induction n.toNat with
  | zero => exact (Int.mul_zero c).symm
  | succ k ih =>
    show smN _ k + c * f k = c * (smN f k + f k)
    rw [ih, Int.mul_add]
theorem sm_fub (a : Int → Int → Int) (m n : Int) : sm (fun x => sm (fun y => a x y) m) n = sm (fun y => sm (fun x => a x y) n) m := by
  unfold sm
  induction n.toNat with
  | zero => exact (smN_z _ fun _ _ => rfl).symm
  | succ k ih =>
    show smN _ k + smN (fun y => a k y) m.toNat = smN (fun y => smN (fun x => a x y) k + a k y) m.toNat
    rw [ih]
    exact (smN_add _ _ _).symm
theorem sm_dvd {p : Int} {f : Int → Int} {n : Int} (h : ∀ i, 0 ≤ i → i < n → p ∣ f i) : p ∣ sm f n := by
  obtain ⟨g, hg⟩ : ∃ g : Int → Int, ∀ i, 0 ≤ i → i < n → f i = p * g i := ⟨fun i => f i / p, fun i a b => (Int.mul_ediv_cancel' (h i a b)).symm⟩
  rw [sm_congr hg, sm_mul]
  exact Int.dvd_mul_right _ _
theorem smN_out (f : Int → Int) (x : Nat) : ∀ (k : Nat), x < k → smN f k = smN (fun b => if b = (x : Int) then 0 else f b) k + f x
  | 0, h => absurd h (Nat.not_lt_zero _)
  | k + 1, h => by
    show smN f k + f k = smN _ k + (if (k : Int) = (x : Int) then 0 else f k) + f x
    by_cases e : k = x
    · subst e
      rw [if_pos rfl, smN_congr (f := fun b => if b = (k : Int) then 0 else f b) (g := f) k fun i hi => if_neg (by omega)]
      omega
    · rw [if_neg (by omega), smN_out f x k (by omega)]
      omega
theorem sm_out {f : Int → Int} {n x : Int} (hx : 0 ≤ x ∧ x < n) : sm f n = sm (fun b => if b = x then 0 else f b) n + f x := by
  obtain ⟨k, rfl⟩ : ∃ k : Nat, x = k := ⟨x.toNat, by omega⟩
  exact smN_out f k _ (by omega)
theorem pr_d : ∀ p, p = 2 ∨ p = 3 ∨ p = 5 ∨ p = 7 → ∀ a, a < p → ∀ b, b < p → (a * b) % p = 0 → a = 0 ∨ b = 0 := by
  intro p hp
  rcases hp with rfl | rfl | rfl | rfl <;> decide
theorem pr_inv : ∀ p, p = 2 ∨ p = 3 ∨ p = 5 ∨ p = 7 → ∀ b, b < p → b ≠ 0 → ∃ i, i < p ∧ (i * b) % p = 1 := by
  intro p hp
  rcases hp with rfl | rfl | rfl | rfl <;> decide
theorem pr_n {p : Int} (hp : Xpr p) : ∃ q : Nat, p = q ∧ (q = 2 ∨ q = 3 ∨ q = 5 ∨ q = 7) := by
  rcases hp with rfl | rfl | rfl | rfl
  · exact ⟨2, rfl, by omega⟩
  · exact ⟨3, rfl, by omega⟩
  · exact ⟨5, rfl, by omega⟩
  · exact ⟨7, rfl, by omega⟩
theorem pr_b {p : Int} (hp : Xpr p) : 2 ≤ p ∧ p ≤ 7 := by unfold Xpr at hp; omega
theorem pr_mul {p a b : Int} (hp : Xpr p) (h : p ∣ a * b) : p ∣ a ∨ p ∣ b := by
  have hb := pr_b hp
  obtain ⟨q, rfl, hq⟩ := pr_n hp
  have e := Int.emod_eq_zero_of_dvd h
  rw [Int.mul_emod] at e
  have a0 := Int.emod_nonneg a (b := (q : Int)) (by omega)
  have a1 := Int.emod_lt_of_pos a (b := (q : Int)) (by omega)
  have b0 := Int.emod_nonneg b (b := (q : Int)) (by omega)
  have b1 := Int.emod_lt_of_pos b (b := (q : Int)) (by omega)
  obtain ⟨x, hx⟩ : ∃ x : Nat, a % q = x := ⟨(a % q).toNat, by omega⟩
  obtain ⟨y, hy⟩ : ∃ y : Nat, b % q = y := ⟨(b % q).toNat, by omega⟩
  rw [hx, hy] at e
  have e' : (x * y) % q = 0 := by exact_mod_cast e
  rcases pr_d q hq x (by omega) y (by omega) e' with z | z
  · exact Or.inl (Int.dvd_of_emod_eq_zero (by omega))
  · exact Or.inr (Int.dvd_of_emod_eq_zero (by omega))
theorem pr_iv {p b : Int} (hp : Xpr p) (h : ¬ p ∣ b) : ∃ i : Int, p ∣ i * b - 1 := by
  have hb := pr_b hp
  obtain ⟨q, rfl, hq⟩ := pr_n hp
  have b0 := Int.emod_nonneg b (b := (q : Int)) (by omega)
  have b1 := Int.emod_lt_of_pos b (b := (q : Int)) (by omega)
  obtain ⟨y, hy⟩ : ∃ y : Nat, b % q = y := ⟨(b % q).toNat, by omega⟩
  obtain ⟨i, _, hi⟩ := pr_inv q hq y (by omega) (fun z => h (Int.dvd_of_emod_eq_zero (by omega)))
  refine ⟨i, ?_⟩
  have e : ((i : Int) * b) % q = 1 := by
    rw [Int.mul_emod, hy]
    have : ((i : Int) % q * y) % q = ((i : Int) * y) % q := by rw [Int.mul_emod, Int.emod_emod_of_dvd _ (Int.dvd_refl _), ← Int.mul_emod]
    rw [this]
    exact_mod_cast hi
  have := Int.emod_emod_of_dvd ((i : Int) * b) (Int.dvd_refl (q : Int))
  exact Int.dvd_of_emod_eq_zero (by rw [Int.sub_emod, e]; simp)
/-- how often one row is taken from another -/
def mlt (p a b : Int) : Int := fr (fun k => if (a - k * b) % p = 0 then k + 1 else 0) 0 p - 1
theorem ml_u {p a b k j : Int} (hp : Xpr p) (hb : ¬ p ∣ b) (hk : 0 ≤ k ∧ k < p) (hj : 0 ≤ j ∧ j < p) (h1 : p ∣ a - k * b) (h2 : p ∣ a - j * b) : j = k := by
  have h : p ∣ (k - j) * b := by
    have := Int.dvd_sub h2 h1
    rwa [show a - j * b - (a - k * b) = (k - j) * b by rw [Int.sub_mul]; omega] at this
  rcases pr_mul hp h with z | z
  · obtain ⟨c, hc⟩ := z
    have pb := pr_b hp
    have : c = 0 := by
      by_cases q : c = 0
      · exact q
      · exfalso
        by_cases q2 : 0 < c
        · have := Int.mul_le_mul_of_nonneg_left (show 1 ≤ c by omega) (show 0 ≤ p by omega)
          omega
        · have := Int.mul_le_mul_of_nonneg_left (show c ≤ -1 by omega) (show 0 ≤ p by omega)
          omega
    rw [this, Int.mul_zero] at hc
    omega
  · exact absurd z hb
theorem mlt_u {p a b k : Int} (hp : Xpr p) (hb : ¬ p ∣ b) (hk : 0 ≤ k ∧ k < p) (h : p ∣ a - k * b) : mlt p a b = k := by
  unfold mlt
  rw [fr_u (g := fun j => if (a - j * b) % p = 0 then j + 1 else 0) (x := k) (v := k + 1) (by omega) (if_pos (Int.emod_eq_zero_of_dvd h)) hk.1 hk.2 fun j a0 a1 c => if_neg fun q => c (ml_u hp hb hk ⟨a0, a1⟩ h (Int.dvd_of_emod_eq_zero q))]
  omega
theorem mlt_ok {p a b : Int} (hp : Xpr p) (hb : ¬ p ∣ b) : (0 ≤ mlt p a b ∧ mlt p a b < p) ∧ p ∣ a - mlt p a b * b := by
  have pb := pr_b hp
  obtain ⟨i, hi⟩ := pr_iv hp hb
  have k0 := Int.emod_nonneg (a * i) (b := p) (by omega)
  have k1 := Int.emod_lt_of_pos (a * i) (b := p) (by omega)
  have h : p ∣ a - (a * i) % p * b := by
    have e : a - (a * i) % p * b = -(a * (i * b - 1)) + (a * i - (a * i) % p) * b := by
      rw [Int.mul_sub, Int.sub_mul, ← Int.mul_assoc, Int.mul_one]; omega
    rw [e]
    refine Int.dvd_add (Int.dvd_neg.mpr (Int.dvd_trans hi (Int.dvd_mul_left _ _))) (Int.dvd_trans ?_ (Int.dvd_mul_right _ _))
    exact Int.dvd_self_sub_emod
  rw [mlt_u hp hb ⟨k0, k1⟩ h]
  exact ⟨⟨k0, k1⟩, h⟩
/-- what is made of the EDGES of the cells before the i-th -/
def InS (K : CX) (w p i : Int) (v : Int → Int) : Prop := ∃ c : Int → Int, (∀ b, 0 ≤ b → b < Xn K → i ≤ rk K w b → c b = 0) ∧ ∀ y, 0 ≤ y → y < Xn K → p ∣ v y - sm (fun b => c b * Xe K b y) (Xn K)
theorem InS.mono {K : CX} {w p i j : Int} {v : Int → Int} (h : InS K w p i v) (hij : i ≤ j) : InS K w p j v := by
  obtain ⟨c, h1, h2⟩ := h
  exact ⟨c, fun b a d e => h1 b a d (by omega), h2⟩
theorem InS.lin {K : CX} {w p i : Int} {v u z : Int → Int} (hv : InS K w p i v) (hu : InS K w p i u) (a b : Int) (h : ∀ y, 0 ≤ y → y < Xn K → p ∣ z y - (a * v y + b * u y)) : InS K w p i z := by
  obtain ⟨c, c1, c2⟩ := hv
  obtain ⟨d, d1, d2⟩ := hu
  refine ⟨fun x => a * c x + b * d x, fun x x0 x1 x2 => ?_, fun y y0 y1 => ?_⟩
  · show a * c x + b * d x = 0
    rw [c1 x x0 x1 x2, d1 x x0 x1 x2, Int.mul_zero, Int.mul_zero]; rfl
  · have e : sm (fun x => (a * c x + b * d x) * Xe K x y) (Xn K) = a * sm (fun x => c x * Xe K x y) (Xn K) + b * sm (fun x => d x * Xe K x y) (Xn K) := by
      rw [← sm_mul, ← sm_mul, ← sm_add]
      exact sm_congr fun x _ _ => by rw [Int.add_mul, Int.mul_assoc, Int.mul_assoc]
    rw [e]
    have h1 := Int.dvd_trans (c2 y y0 y1) (Int.dvd_mul_left a _)
    have h2 := Int.dvd_trans (d2 y y0 y1) (Int.dvd_mul_left b _)
    have h3 := Int.dvd_add (h y y0 y1) (Int.dvd_add h1 h2)
    rw [Int.mul_sub, Int.mul_sub] at h3
    have e2 : z y - (a * sm (fun x => c x * Xe K x y) (Xn K) + b * sm (fun x => d x * Xe K x y) (Xn K)) = z y - (a * v y + b * u y) + (a * v y - a * sm (fun b => c b * Xe K b y) (Xn K) + (b * u y - b * sm (fun b => d b * Xe K b y) (Xn K))) := by omega
    rw [e2]
    exact h3
theorem InS.row {K : CX} {w p x : Int} {v : Int → Int} (hx : 0 ≤ x ∧ x < Xn K) (h : ∀ y, 0 ≤ y → y < Xn K → p ∣ v y - Xe K x y) : InS K w p (rk K w x + 1) v := by
  refine ⟨fun b => if b = x then 1 else 0, fun b b0 b1 b2 => if_neg fun e => by rw [e] at b2; omega, fun y y0 y1 => ?_⟩
  have e : sm (fun b => (if b = x then 1 else 0) * Xe K b y) (Xn K) = Xe K x y := by
    rw [sm_out hx, if_pos rfl, Int.one_mul]
    rw [sm_z fun b _ _ => ?_, Int.zero_add]
    by_cases q : b = x
    · exact if_pos q
    · show (if b = x then 0 else (if b = x then 1 else 0) * Xe K b y) = 0
      rw [if_neg q, if_neg q, Int.zero_mul]
  rw [e]
  exact h y y0 y1
theorem InS.dd {K : CX} {w p i : Int} {v : Int → Int} (hd : ∀ a b, Xdd K a b = 0) (h : InS K w p i v) (y : Int) : p ∣ sm (fun b => v b * Xe K b y) (Xn K) := by
  obtain ⟨c, c1, c2⟩ := h
  have e : sm (fun b => v b * Xe K b y) (Xn K) = sm (fun b => (v b - sm (fun a => c a * Xe K a b) (Xn K)) * Xe K b y) (Xn K) + sm (fun b => sm (fun a => c a * Xe K a b) (Xn K) * Xe K b y) (Xn K) := by
    rw [← sm_add]
    exact sm_congr fun b _ _ => by rw [Int.sub_mul]; omega
  have e2 : sm (fun b => sm (fun a => c a * Xe K a b) (Xn K) * Xe K b y) (Xn K) = 0 := by
    have e3 : sm (fun b => sm (fun a => c a * Xe K a b) (Xn K) * Xe K b y) (Xn K) = sm (fun b => sm (fun a => c a * (Xe K a b * Xe K b y)) (Xn K)) (Xn K) := sm_congr fun b _ _ => by
      rw [Int.mul_comm, ← sm_mul]
      exact sm_congr fun a _ _ => by rw [Int.mul_comm, Int.mul_assoc]
    rw [e3, sm_fub]
    exact sm_z fun a _ _ => by
      rw [sm_mul]
      have := hd a y
      unfold Xdd at this
      rw [this, Int.mul_zero]
  rw [e, e2, Int.add_zero]
  exact sm_dvd fun b b0 b1 => Int.dvd_trans (c2 b b0 b1) (Int.dvd_mul_right _ _)
