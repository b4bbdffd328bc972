/-! Complexes as whole functions: how many cells, degrees, levels, other levels, entries. -/
abbrev CX : Type := Int × (Int → Int) × (Int → Int) × (Int → Int) × (Int → Int → Int)
def Xn (K : CX) : Int := K.1
def Xd (K : CX) : Int → Int := K.2.1
def X0 (K : CX) : Int → Int := K.2.2.1
def X1 (K : CX) : Int → Int := K.2.2.2.1
def Xe (K : CX) : Int → Int → Int := K.2.2.2.2
def Xl (K : CX) (w x : Int) : Int := if w = 0 then X0 K x else X1 K x
def Xmay (K : CX) (x y : Int) : Prop := (0 ≤ x ∧ x < Xn K) ∧ (0 ≤ y ∧ y < Xn K) ∧ Xd K y = Xd K x - 1 ∧ X0 K y ≤ X0 K x ∧ X1 K y ≤ X1 K x
def Nz (K : CX) : Prop := (0 ≤ Xn K ∧ Xn K ≤ 12) ∧ (∀ x, ¬ (0 ≤ x ∧ x < Xn K) → Xd K x = 0 ∧ X0 K x = 0 ∧ X1 K x = 0) ∧ ∀ x y, ¬ ((0 ≤ x ∧ x < Xn K) ∧ (0 ≤ y ∧ y < Xn K)) → Xe K x y = 0
def Rg (K : CX) : Prop := (∀ x, (0 ≤ Xd K x ∧ Xd K x ≤ 4) ∧ (0 ≤ X0 K x ∧ X0 K x ≤ 9) ∧ (0 ≤ X1 K x ∧ X1 K x ≤ 9)) ∧ ∀ x y, -9 ≤ Xe K x y ∧ Xe K x y ≤ 9
def Vx (K : CX) : Prop := Nz K ∧ Rg K ∧ ∀ x y, Xe K x y ≠ 0 → Xmay K x y
theorem CXext {K K' : CX} (h1 : Xn K = Xn K') (h2 : ∀ x, Xd K x = Xd K' x) (h3 : ∀ x, X0 K x = X0 K' x) (h4 : ∀ x, X1 K x = X1 K' x) (h5 : ∀ x y, Xe K x y = Xe K' x y) : K = K' := by
  obtain ⟨a, b, c, d, e⟩ := K
  obtain ⟨a', b', c', d', e'⟩ := K'
  have q1 : a = a' := h1
  have q2 : b = b' := funext h2
  have q3 : c = c' := funext h3
  have q4 : d = d' := funext h4
  have q5 : e = e' := funext fun x => funext fun y => h5 x y
  rw [q1, q2, q3, q4, q5]
/-- a complex of the class, at its cell; one of the other's, by its number -/
def MC (S : mm_S) (a : Int) (K : CX) : Prop := Nz K ∧ S a 0 = Xn K ∧ (∀ x, 0 ≤ x → x < Xn K → S (a + 1) x = Xd K x ∧ S (a + 2) x = X0 K x ∧ S (a + 3) x = X1 K x) ∧ ∀ x y, 0 ≤ x → x < Xn K → 0 ≤ y → y < Xn K → S (a + 4) (x * 12 + y) = Xe K x y
def MRr (S : mm_S) (c : Int) (K : CX) : Prop := Nz K ∧ (∀ x, 0 ≤ x → x < Xn K → S 73 (12 * c + x) = Xd K x ∧ S 74 (12 * (2 * c) + x) = X0 K x ∧ S 74 (12 * (2 * c + 1) + x) = X1 K x) ∧ ∀ x y, 0 ≤ x → x < 12 → 0 ≤ y → y < 12 → S 75 (144 * c + 12 * x + y) = Xe K x y
def MR (S : mm_S) (c : Int) (K : CX) : Prop := MRr S c K ∧ S 72 c = Xn K
theorem mm_unq {S : mm_S} {a k x b : Int} (h : b ≠ a) : mm_up S a k x b = S b := by
  funext j
  unfold mm_up
  exact if_neg fun q => h q.1
theorem mm_ua {S : mm_S} {a k x : Int} : mm_up S a k x a k = x := if_pos ⟨rfl, rfl⟩
theorem mm_uk {S : mm_S} {a k x j : Int} (h : j ≠ k) : mm_up S a k x a j = S a j := if_neg fun q => h q.2
theorem mm_cpy_ne {S : mm_S} {a sp b dp n c : Int} (h : c ≠ b) : mm_cpy S a sp b dp n c = S c := by
  funext j
  unfold mm_cpy
  exact if_neg fun q => h q.1
theorem mm_cpy_in {S : mm_S} {a sp b dp n j : Int} (h1 : dp ≤ j) (h2 : j < dp + n) : mm_cpy S a sp b dp n b j = S a (sp + (j - dp)) := if_pos ⟨rfl, h1, h2⟩
theorem mm_cpy_out {S : mm_S} {a sp b dp n j : Int} (h : ¬ (dp ≤ j ∧ j < dp + n)) : mm_cpy S a sp b dp n b j = S b j := if_neg fun q => h q.2
theorem MC.fr {S S' : mm_S} {a : Int} {K : CX} (h : MC S a K) (hf : ∀ b, a ≤ b → b ≤ a + 4 → S' b = S b) : MC S' a K := by
  obtain ⟨h1, h2, h3, h4⟩ := h
  refine ⟨h1, by rw [hf a (by omega) (by omega)]; exact h2, fun x p q => ?_, fun x y p q r t => ?_⟩
  · rw [hf (a + 1) (by omega) (by omega), hf (a + 2) (by omega) (by omega), hf (a + 3) (by omega) (by omega)]
    exact h3 x p q
  · rw [hf (a + 4) (by omega) (by omega)]
    exact h4 x y p q r t
theorem MC.up {S : mm_S} {a b k x : Int} {K : CX} (h : MC S a K) (hb : ¬ (a ≤ b ∧ b ≤ a + 4)) : MC (mm_up S b k x) a K := h.fr fun c h1 h2 => mm_unq (fun q => hb ⟨by omega, by omega⟩)
theorem MC.n {S : mm_S} {a : Int} {K : CX} (h : MC S a K) : S a 0 = Xn K := h.2.1
theorem MC.nr {S : mm_S} {a : Int} {K : CX} (h : MC S a K) : 0 ≤ Xn K ∧ Xn K ≤ 12 := h.1.1
theorem MC.d {S : mm_S} {a : Int} {K : CX} (h : MC S a K) {x : Int} (hx : 0 ≤ x ∧ x < Xn K) : S (a + 1) x = Xd K x := (h.2.2.1 x hx.1 hx.2).1
theorem MC.l0 {S : mm_S} {a : Int} {K : CX} (h : MC S a K) {x : Int} (hx : 0 ≤ x ∧ x < Xn K) : S (a + 2) x = X0 K x := (h.2.2.1 x hx.1 hx.2).2.1
theorem MC.l1 {S : mm_S} {a : Int} {K : CX} (h : MC S a K) {x : Int} (hx : 0 ≤ x ∧ x < Xn K) : S (a + 3) x = X1 K x := (h.2.2.1 x hx.1 hx.2).2.2
theorem MC.e {S : mm_S} {a : Int} {K : CX} (h : MC S a K) {x y : Int} (hx : 0 ≤ x ∧ x < Xn K) (hy : 0 ≤ y ∧ y < Xn K) : S (a + 4) (x * 12 + y) = Xe K x y := h.2.2.2 x y hx.1 hx.2 hy.1 hy.2
theorem Nz.d {K : CX} (h : Nz K) {x : Int} (hx : ¬ (0 ≤ x ∧ x < Xn K)) : Xd K x = 0 := (h.2.1 x hx).1
theorem Nz.l {K : CX} (h : Nz K) {w x : Int} (hx : ¬ (0 ≤ x ∧ x < Xn K)) : Xl K w x = 0 := by
  unfold Xl
  rw [(h.2.1 x hx).2.1, (h.2.1 x hx).2.2]
  exact ite_self 0
theorem Nz.e {K : CX} (h : Nz K) {x y : Int} (hx : ¬ ((0 ≤ x ∧ x < Xn K) ∧ (0 ≤ y ∧ y < Xn K))) : Xe K x y = 0 := h.2.2 x y hx
theorem Xl_0 (K : CX) (x : Int) : Xl K 0 x = X0 K x := rfl
theorem Xl_n (K : CX) {w : Int} (h : ¬ w = 0) (x : Int) : Xl K w x = X1 K x := if_neg h
theorem Rg.d {K : CX} (h : Rg K) (x : Int) : 0 ≤ Xd K x ∧ Xd K x ≤ 4 := (h.1 x).1
theorem Rg.l {K : CX} (h : Rg K) (w x : Int) : 0 ≤ Xl K w x ∧ Xl K w x ≤ 9 := by
  unfold Xl
  split
  · exact (h.1 x).2.1
  · exact (h.1 x).2.2
theorem Rg.e {K : CX} (h : Rg K) (x y : Int) : -9 ≤ Xe K x y ∧ Xe K x y ≤ 9 := h.2 x y
/-- no cell -/
def Xz : CX := (0, fun _ => 0, fun _ => 0, fun _ => 0, fun _ _ => 0)
/-- one entry other -/
def Xset (K : CX) (x y v : Int) : CX := (Xn K, Xd K, X0 K, X1 K, fun i j => if ((0 ≤ x ∧ x < Xn K) ∧ (0 ≤ y ∧ y < Xn K)) ∧ i = x ∧ j = y then v else Xe K i j)
/-- one cell more -/
def Xadd (K : CX) (d l o : Int) : CX := (Xn K + 1, fun i => if i = Xn K then d else Xd K i, fun i => if i = Xn K then l else X0 K i, fun i => if i = Xn K then o else X1 K i, Xe K)
theorem Xz_Nz : Nz Xz := ⟨⟨by decide, by decide⟩, fun _ _ => ⟨rfl, rfl, rfl⟩, fun _ _ _ => rfl⟩
theorem Xset_n (K : CX) (x y v : Int) : Xn (Xset K x y v) = Xn K := rfl
theorem Xset_d (K : CX) (x y v : Int) : Xd (Xset K x y v) = Xd K := rfl
theorem Xset_0 (K : CX) (x y v : Int) : X0 (Xset K x y v) = X0 K := rfl
theorem Xset_1 (K : CX) (x y v : Int) : X1 (Xset K x y v) = X1 K := rfl
theorem Xset_l (K : CX) (x y v w i : Int) : Xl (Xset K x y v) w i = Xl K w i := rfl
theorem Xset_e (K : CX) (x y v i j : Int) : Xe (Xset K x y v) i j = if ((0 ≤ x ∧ x < Xn K) ∧ (0 ≤ y ∧ y < Xn K)) ∧ i = x ∧ j = y then v else Xe K i j := rfl
theorem Xset_Nz {K : CX} (h : Nz K) (x y v : Int) : Nz (Xset K x y v) := ⟨h.1, h.2.1, fun i j hij => by
  rw [Xset_n] at hij
  rw [Xset_e, if_neg fun q => hij ⟨by rw [q.2.1]; exact q.1.1, by rw [q.2.2]; exact q.1.2⟩]
  exact h.e hij⟩
theorem Xset_out {K : CX} {x y : Int} (h : ¬ ((0 ≤ x ∧ x < Xn K) ∧ (0 ≤ y ∧ y < Xn K))) (v : Int) : Xset K x y v = K := CXext rfl (fun _ => rfl) (fun _ => rfl) (fun _ => rfl) fun i j => by rw [Xset_e, if_neg fun q => h q.1]
theorem Xset_Rg {K : CX} (h : Rg K) (x y : Int) {v : Int} (hv : -9 ≤ v ∧ v ≤ 9) : Rg (Xset K x y v) := ⟨h.1, fun i j => by
  rw [Xset_e]
  split
  · exact hv
  · exact h.2 i j⟩
theorem Xset_may {K : CX} {x y v i j : Int} : Xmay (Xset K x y v) i j ↔ Xmay K i j := Iff.rfl
theorem Xset_Vx {K : CX} (h : Vx K) {x y v : Int} (hv : -9 ≤ v ∧ v ≤ 9) (hm : v = 0 ∨ Xmay K x y) : Vx (Xset K x y v) := ⟨Xset_Nz h.1 x y v, Xset_Rg h.2.1 x y hv, fun i j hne => by
  rw [Xset_e] at hne
  rw [Xset_may]
  split at hne
  · rename_i q
    rw [q.2.1, q.2.2]
    exact hm.resolve_left hne
  · exact h.2.2 i j hne⟩
theorem Xset_same {K : CX} (h : Nz K) (x y v : Int) : Xset (Xset K x y v) x y (Xe K x y) = K := CXext rfl (fun _ => rfl) (fun _ => rfl) (fun _ => rfl) fun i j => by
  rw [Xset_e, Xset_e]
  split
  · rename_i q; rw [q.2.1, q.2.2]
  · rename_i q; exact if_neg q
theorem Xadd_n (K : CX) (d l o : Int) : Xn (Xadd K d l o) = Xn K + 1 := rfl
theorem Xadd_d (K : CX) (d l o i : Int) : Xd (Xadd K d l o) i = if i = Xn K then d else Xd K i := rfl
theorem Xadd_0 (K : CX) (d l o i : Int) : X0 (Xadd K d l o) i = if i = Xn K then l else X0 K i := rfl
theorem Xadd_1 (K : CX) (d l o i : Int) : X1 (Xadd K d l o) i = if i = Xn K then o else X1 K i := rfl
theorem Xadd_e (K : CX) (d l o i j : Int) : Xe (Xadd K d l o) i j = Xe K i j := rfl
theorem Xadd_Nz {K : CX} (h : Nz K) (d l o : Int) (hn : Xn K < 12) : Nz (Xadd K d l o) := by
  have := h.1
  refine ⟨⟨by rw [Xadd_n]; omega, by rw [Xadd_n]; omega⟩, fun x hx => ?_, fun x y hx => ?_⟩
  · rw [Xadd_n] at hx
    rw [Xadd_d, Xadd_0, Xadd_1, if_neg (by omega), if_neg (by omega), if_neg (by omega)]
    exact h.2.1 x (by omega)
  · rw [Xadd_n] at hx
    rw [Xadd_e]
    exact h.e (by omega)
theorem Xadd_Rg {K : CX} (h : Rg K) {d l o : Int} (hd : 0 ≤ d ∧ d ≤ 4) (hl : 0 ≤ l ∧ l ≤ 9) (ho : 0 ≤ o ∧ o ≤ 9) : Rg (Xadd K d l o) := by
  refine ⟨fun x => ?_, h.2⟩
  have := h.1 x
  rw [Xadd_d, Xadd_0, Xadd_1]
  split
  · exact ⟨hd, hl, ho⟩
  · exact this
theorem Xadd_Vx {K : CX} (h : Vx K) {d l o : Int} (hn : Xn K < 12) (hd : 0 ≤ d ∧ d ≤ 4) (hl : 0 ≤ l ∧ l ≤ 9) (ho : 0 ≤ o ∧ o ≤ 9) : Vx (Xadd K d l o) := by
  refine ⟨Xadd_Nz h.1 d l o hn, Xadd_Rg h.2.1 hd hl ho, fun x y hne => ?_⟩
  rw [Xadd_e] at hne
  have := h.2.2 x y hne
  unfold Xmay at this ⊢
  rw [Xadd_n, Xadd_d, Xadd_d, Xadd_0, Xadd_0, Xadd_1, Xadd_1, if_neg (by omega), if_neg (by omega), if_neg (by omega), if_neg (by omega), if_neg (by omega), if_neg (by omega)]
  omega
theorem z_09 : ((0 : Int) ≤ 0 ∧ (0 : Int) ≤ 4) ∧ ((0 : Int) ≤ 0 ∧ (0 : Int) ≤ 9) ∧ (-9 : Int) ≤ 0 := by decide
theorem Xz_Vx : Vx Xz := ⟨Xz_Nz, ⟨fun _ => ⟨z_09.1, z_09.2.1, z_09.2.1⟩, fun _ _ => ⟨z_09.2.2, z_09.2.1.2⟩⟩, fun _ _ h => absurd rfl h⟩
/-! Sums, greatest ones, first ones. -/
def smN (f : Int → Int) : Nat → Int
  | 0 => 0
  | k + 1 => smN f k + f k
def sm (f : Int → Int) (n : Int) : Int := smN f n.toNat
theorem sm_0 (f : Int → Int) : sm f 0 = 0 := rfl
theorem sm_s (f : Int → Int) {n : Int} (h : 0 ≤ n) : sm f (n + 1) = sm f n + f n := by
  obtain ⟨k, rfl⟩ := Int.eq_ofNat_of_zero_le h
  rfl
theorem smN_b {f : Int → Int} {lo hi : Int} : ∀ (k : Nat), (∀ i : Nat, i < k → lo ≤ f i ∧ f i ≤ hi) → lo * k ≤ smN f k ∧ smN f k ≤ hi * k
  | 0, _ => by simp [smN]
  | k + 1, h => by
    have h1 := smN_b k fun i hi => h i (by omega)
    have h2 := h k (by omega)
    have e1 : lo * ((k + 1 : Nat) : Int) = lo * k + lo := by rw [Int.natCast_add, Int.mul_add]; simp
    have e2 : hi * ((k + 1 : Nat) : Int) = hi * k + hi := by rw [Int.natCast_add, Int.mul_add]; simp
    rw [e1, e2]
    show _ ≤ smN f k + f k ∧ smN f k + f k ≤ _
    omega
theorem sm_b {f : Int → Int} {lo hi n : Int} (hn : 0 ≤ n) (h : ∀ i, 0 ≤ i → i < n → lo ≤ f i ∧ f i ≤ hi) : lo * n ≤ sm f n ∧ sm f n ≤ hi * n := by
  obtain ⟨k, rfl⟩ := Int.eq_ofNat_of_zero_le hn
  exact smN_b k fun i hi => h i (by omega) (by omega)
theorem smN_congr {f g : Int → Int} : ∀ (k : Nat), (∀ i : Nat, i < k → f i = g i) → smN f k = smN g k
  | 0, _ => rfl
  | k + 1, h => by
    show smN f k + f k = smN g k + g k
    rw [smN_congr k fun i hi => h i (by omega), h k (by omega)]
theorem sm_congr {f g : Int → Int} {n : Int} (h : ∀ i, 0 ≤ i → i < n → f i = g i) : sm f n = sm g n := smN_congr _ fun i hi => h i (by omega) (by omega)
theorem smN_z {f : Int → Int} : ∀ (k : Nat), (∀ i : Nat, i < k → f i = 0) → smN f k = 0
  | 0, _ => rfl
  | k + 1, h => by
    show smN f k + f k = 0
    rw [smN_z k fun i hi => h i (by omega), h k (by omega)]; rfl
theorem sm_z {f : Int → Int} {n : Int} (h : ∀ i, 0 ≤ i → i < n → f i = 0) : sm f n = 0 := smN_z _ fun i hi => h i (by omega) (by omega)
def mxN (f : Int → Int) : Nat → Int
  | 0 => 0
  | k + 1 => max (mxN f k) (f k)
def mx (f : Int → Int) (n : Int) : Int := mxN f n.toNat
theorem mx_0 (f : Int → Int) : mx f 0 = 0 := rfl
theorem mx_s (f : Int → Int) {n : Int} (h : 0 ≤ n) : mx f (n + 1) = max (mx f n) (f n) := by
  obtain ⟨k, rfl⟩ := Int.eq_ofNat_of_zero_le h
  rfl
theorem mxN_b {f : Int → Int} {hi : Int} (h0 : 0 ≤ hi) : ∀ (k : Nat), (∀ i : Nat, i < k → f i ≤ hi) → 0 ≤ mxN f k ∧ mxN f k ≤ hi
  | 0, _ => ⟨Int.le_refl 0, h0⟩
  | k + 1, h => by
    have h1 := mxN_b h0 k fun i hi => h i (by omega)
    have h2 := h k (by omega)
    show 0 ≤ max (mxN f k) (f k) ∧ max (mxN f k) (f k) ≤ hi
    omega
theorem mx_b {f : Int → Int} {hi n : Int} (h0 : 0 ≤ hi) (h : ∀ i, 0 ≤ i → i < n → f i ≤ hi) : 0 ≤ mx f n ∧ mx f n ≤ hi := mxN_b h0 _ fun i hi => h i (by omega) (by omega)
theorem mxN_le {f : Int → Int} {hi : Int} : ∀ (k : Nat), (mxN f k ≤ hi ↔ 0 ≤ hi ∧ ∀ i : Nat, i < k → f i ≤ hi)
  | 0 => by
    show (0 : Int) ≤ hi ↔ _
    exact ⟨fun h => ⟨h, fun i hi => absurd hi (Nat.not_lt_zero i)⟩, fun h => h.1⟩
  | k + 1 => by
    have ih := mxN_le (f := f) (hi := hi) k
    show max (mxN f k) (f k) ≤ hi ↔ _
    constructor
    · intro h
      have h1 : mxN f k ≤ hi := by omega
      obtain ⟨a, b⟩ := ih.mp h1
      refine ⟨a, fun i hi' => ?_⟩
      by_cases e : i = k
      · rw [e]; omega
      · exact b i (by omega)
    · intro ⟨a, b⟩
      have h1 := ih.mpr ⟨a, fun i hi' => b i (by omega)⟩
      have h2 := b k (by omega)
      omega
theorem mx_le {f : Int → Int} {hi n : Int} : mx f n ≤ hi ↔ 0 ≤ hi ∧ ∀ i, 0 ≤ i → i < n → f i ≤ hi := by
  unfold mx
  rw [mxN_le]
  constructor
  · intro ⟨a, b⟩
    refine ⟨a, fun i h0 h1 => ?_⟩
    have := b i.toNat (by omega)
    rw [Int.toNat_of_nonneg h0] at this
    exact this
  · intro ⟨a, b⟩
    exact ⟨a, fun i hi' => b i (by omega) (by omega)⟩
/-- the first value that isn't 0 -/
def frN (g : Int → Int) : Nat → Int → Int
  | 0, _ => 0
  | k + 1, i => if g i ≠ 0 then g i else frN g k (i + 1)
def fr (g : Int → Int) (i n : Int) : Int := frN g (n - i).toNat i
theorem fr_e (g : Int → Int) {i n : Int} (h : n ≤ i) : fr g i n = 0 := by
  unfold fr
  rw [show (n - i).toNat = 0 by omega]; rfl
theorem fr_s (g : Int → Int) {i n : Int} (h : i < n) : fr g i n = if g i ≠ 0 then g i else fr g (i + 1) n := by
  unfold fr
  rw [show (n - i).toNat = (n - (i + 1)).toNat + 1 by omega]; rfl
theorem fr_y (g : Int → Int) {i n : Int} (h : i < n) (hg : g i ≠ 0) : fr g i n = g i := by rw [fr_s g h, if_pos hg]
theorem fr_n (g : Int → Int) {i n : Int} (h : i < n) (hg : g i = 0) : fr g i n = fr g (i + 1) n := by rw [fr_s g h, if_neg (fun q => q hg)]
theorem frN_congr {g g' : Int → Int} : ∀ (k : Nat) (i : Int), (∀ j, i ≤ j → j < i + k → g j = g' j) → frN g k i = frN g' k i
  | 0, _, _ => rfl
  | k + 1, i, h => by
    show (if g i ≠ 0 then g i else frN g k (i + 1)) = if g' i ≠ 0 then g' i else frN g' k (i + 1)
    rw [h i (by omega) (by omega), frN_congr k (i + 1) fun j h1 h2 => h j (by omega) (by omega)]
theorem fr_congr {g g' : Int → Int} {i n : Int} (h : ∀ j, i ≤ j → j < n → g j = g' j) : fr g i n = fr g' i n := frN_congr _ _ fun j h1 h2 => h j h1 (by omega)
theorem frN_b {g : Int → Int} {lo hi : Int} (h0 : lo ≤ 0 ∧ 0 ≤ hi) : ∀ (k : Nat) (i : Int), (∀ j, i ≤ j → j < i + k → lo ≤ g j ∧ g j ≤ hi) → lo ≤ frN g k i ∧ frN g k i ≤ hi
  | 0, _, _ => h0
  | k + 1, i, h => by
    show lo ≤ (if g i ≠ 0 then g i else frN g k (i + 1)) ∧ (if g i ≠ 0 then g i else frN g k (i + 1)) ≤ hi
    split
    · exact h i (by omega) (by omega)
    · exact frN_b h0 k (i + 1) fun j h1 h2 => h j (by omega) (by omega)
theorem fr_b {g : Int → Int} {lo hi i n : Int} (h0 : lo ≤ 0 ∧ 0 ≤ hi) (h : ∀ j, i ≤ j → j < n → lo ≤ g j ∧ g j ≤ hi) : lo ≤ fr g i n ∧ fr g i n ≤ hi := frN_b h0 _ _ fun j h1 h2 => h j h1 (by omega)
theorem frN_z {g : Int → Int} : ∀ (k : Nat) (i : Int), frN g k i = 0 ↔ ∀ j, i ≤ j → j < i + k → g j = 0
  | 0, i => ⟨fun _ j h1 h2 => by omega, fun _ => rfl⟩
  | k + 1, i => by
    show (if g i ≠ 0 then g i else frN g k (i + 1)) = 0 ↔ _
    have ih := frN_z (g := g) k (i + 1)
    constructor
    · intro h j h1 h2
      split at h
      · rename_i q; exact absurd h q
      · rename_i q
        by_cases e : j = i
        · rw [e]; exact Classical.not_not.mp q
        · exact ih.mp h j (by omega) (by omega)
    · intro h
      rw [if_neg (fun q => q (h i (by omega) (by omega)))]
      exact ih.mpr fun j h1 h2 => h j (by omega) (by omega)
theorem fr_z {g : Int → Int} {i n : Int} : fr g i n = 0 ↔ ∀ j, i ≤ j → j < n → g j = 0 := by
  unfold fr
  rw [frN_z]
  constructor
  · intro h j h1 h2; exact h j h1 (by omega)
  · intro h j h1 h2; exact h j h1 (by omega)
/-- the edge of an edge -/
def Xdd (K : CX) (x y : Int) : Int := sm (fun k => Xe K x k * Xe K k y) (Xn K)
def Xfbr (K : CX) (x y : Int) : Int := if Xdd K x y ≠ 0 then 1 + 16 * x + y else 0
def Xfb (K : CX) : Int := fr (fun x => fr (Xfbr K x) 0 (Xn K)) 0 (Xn K)
theorem pr81 {a b : Int} (ha : -9 ≤ a ∧ a ≤ 9) (hb : -9 ≤ b ∧ b ≤ 9) : -81 ≤ a * b ∧ a * b ≤ 81 := by
  have h : ∀ k : Nat, k < 19 → ∀ b : Int, -9 ≤ b ∧ b ≤ 9 → -81 ≤ ((k : Int) - 9) * b ∧ ((k : Int) - 9) * b ≤ 81 := by
    intro k hk b hb
    have : k = 0 ∨ k = 1 ∨ k = 2 ∨ k = 3 ∨ k = 4 ∨ k = 5 ∨ k = 6 ∨ k = 7 ∨ k = 8 ∨ k = 9 ∨ k = 10 ∨ k = 11 ∨ k = 12 ∨ k = 13 ∨ k = 14 ∨ k = 15 ∨ k = 16 ∨ k = 17 ∨ k = 18 := by omega
    rcases this with rfl | rfl | rfl | rfl | rfl | rfl | rfl | rfl | rfl | rfl | rfl | rfl | rfl | rfl | rfl | rfl | rfl | rfl | rfl <;> omega
  have := h (a + 9).toNat (by omega) b hb
  rw [show (((a + 9).toNat : Nat) : Int) - 9 = a by omega] at this
  exact this
theorem Xdd_part {K : CX} (h : Rg K) (x y : Int) {i : Int} (h0 : 0 ≤ i) (h1 : i ≤ 12) : -1000 < sm (fun k => Xe K x k * Xe K k y) i ∧ sm (fun k => Xe K x k * Xe K k y) i < 1000 := by
  have := sm_b (f := fun k => Xe K x k * Xe K k y) (lo := -81) (hi := 81) h0 fun k _ _ => pr81 (h.e x k) (h.e k y)
  omega
theorem Xdd_out {K : CX} (h : Nz K) {x y : Int} (hx : ¬ ((0 ≤ x ∧ x < Xn K) ∧ (0 ≤ y ∧ y < Xn K))) : Xdd K x y = 0 := sm_z fun k h0 h1 => by
  by_cases hy : 0 ≤ x ∧ x < Xn K
  · rw [h.e (x := k) (y := y) (fun q => hx ⟨hy, q.2⟩), Int.mul_zero]
  · rw [h.e (x := x) (y := k) (fun q => hy q.1), Int.zero_mul]
theorem Xdd_may {K : CX} (h : Vx K) {x y : Int} (hd : Xd K y ≠ Xd K x - 2) : Xdd K x y = 0 := sm_z fun k h0 h1 => by
  by_cases h1 : Xe K x k = 0
  · rw [h1, Int.zero_mul]
  · by_cases h2 : Xe K k y = 0
    · rw [h2, Int.mul_zero]
    · have a := (h.2.2 x k h1).2.2.1
      have b := (h.2.2 k y h2).2.2.1
      omega
theorem Xfb_r {K : CX} (h : Nz K) : 0 ≤ Xfb K ∧ Xfb K ≤ 188 := by
  have := h.1
  refine fr_b ⟨by decide, by decide⟩ fun x hx0 hx1 => fr_b ⟨by decide, by decide⟩ fun y hy0 hy1 => ?_
  unfold Xfbr
  split <;> omega
theorem Xfb_z {K : CX} (h : Nz K) : Xfb K = 0 ↔ ∀ x y, Xdd K x y = 0 := by
  unfold Xfb
  rw [fr_z]
  constructor
  · intro q x y
    by_cases hx : (0 ≤ x ∧ x < Xn K) ∧ (0 ≤ y ∧ y < Xn K)
    · have := fr_z.mp (q x hx.1.1 hx.1.2) y hx.2.1 hx.2.2
      unfold Xfbr at this
      by_cases e : Xdd K x y = 0
      · exact e
      · rw [if_pos e] at this; omega
    · exact Xdd_out h hx
  · intro q x h1 h2
    rw [fr_z]
    intro y h3 h4
    unfold Xfbr
    rw [if_neg (fun e => e (q x y))]
