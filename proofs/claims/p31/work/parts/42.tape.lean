/-! Reading a text: what is read from a place on, as functions of the tape. -/
def adv (B : Int → Bool) : Nat → Int → Int
  | 0, p => p
  | k + 1, p => if B p = true then adv B k (p + 1) else p
theorem adv_y {B : Int → Bool} {L p : Int} (h : p < L) (e : B p = true) : adv B (L - p).toNat p = adv B (L - (p + 1)).toNat (p + 1) := by
  rw [show (L - p).toNat = (L - (p + 1)).toNat + 1 by omega]
  exact if_pos e
theorem adv_n {B : Int → Bool} {p : Int} (e : ¬ B p = true) : ∀ k, adv B k p = p
  | 0 => rfl
  | k + 1 => if_neg e
theorem adv_b {B : Int → Bool} {L : Int} (hB : ∀ j, B j = true → j < L) : ∀ (k : Nat) (p : Int), p ≤ adv B k p ∧ (p ≤ L → adv B k p ≤ L) ∧ ∀ j, p ≤ j → j < adv B k p → B j = true
  | 0, p => ⟨Int.le_refl _, fun h => h, fun j a b => absurd b (by show ¬ j < p; omega)⟩
  | k + 1, p => by
    show p ≤ (if B p = true then adv B k (p + 1) else p) ∧ (p ≤ L → (if B p = true then adv B k (p + 1) else p) ≤ L) ∧ ∀ j, p ≤ j → j < (if B p = true then adv B k (p + 1) else p) → B j = true
    by_cases e : B p = true
    · rw [if_pos e]
      obtain ⟨a, b, c⟩ := adv_b hB k (p + 1)
      have := hB p e
      refine ⟨by omega, fun _ => b (by omega), fun j h1 h2 => ?_⟩
      by_cases q : j = p
      · rw [q]; exact e
      · exact c j (by omega) h2
    · rw [if_neg e]
      exact ⟨Int.le_refl _, fun h => h, fun j a b => absurd b (by omega)⟩
theorem adv_no {B : Int → Bool} {L : Int} (hB : ∀ j, B j = true → j < L) : ∀ (k : Nat) (p : Int), (L - p).toNat ≤ k → ¬ B (adv B k p) = true
  | 0, p, h => fun q => by have := hB p q; omega
  | k + 1, p, h => by
    show ¬ B (if B p = true then adv B k (p + 1) else p) = true
    by_cases e : B p = true
    · rw [if_pos e]; exact adv_no hB k (p + 1) (by have := hB p e; omega)
    · rw [if_neg e]; exact e
def skB (L : Int) (T : Int → Int) (j : Int) : Bool := decide (j < L ∧ T j = 32)
def dgB (L : Int) (T : Int → Int) (j : Int) : Bool := decide (j < L ∧ 48 ≤ T j ∧ T j ≤ 57)
def sk (L : Int) (T : Int → Int) (p : Int) : Int := adv (skB L T) (L - p).toNat p
def de (L : Int) (T : Int → Int) (p : Int) : Int := adv (dgB L T) (L - p).toNat p
def ct (L : Int) (T : Int → Int) (p : Int) : Int := if p < L then T p else -1
theorem skB_i {L : Int} {T : Int → Int} {j : Int} : skB L T j = true ↔ j < L ∧ T j = 32 := decide_eq_true_iff
theorem dgB_i {L : Int} {T : Int → Int} {j : Int} : dgB L T j = true ↔ j < L ∧ 48 ≤ T j ∧ T j ≤ 57 := decide_eq_true_iff
theorem skB_l {L : Int} {T : Int → Int} : ∀ j, skB L T j = true → j < L := fun j h => (skB_i.mp h).1
theorem dgB_l {L : Int} {T : Int → Int} : ∀ j, dgB L T j = true → j < L := fun j h => (dgB_i.mp h).1
theorem sk_y {L : Int} {T : Int → Int} {p : Int} (h : p < L) (e : T p = 32) : sk L T p = sk L T (p + 1) := adv_y h (skB_i.mpr ⟨h, e⟩)
theorem sk_n {L : Int} {T : Int → Int} {p : Int} (h : ¬ (p < L ∧ T p = 32)) : sk L T p = p := adv_n (fun q => h (skB_i.mp q)) _
theorem sk_ge (L : Int) (T : Int → Int) (p : Int) : p ≤ sk L T p := (adv_b skB_l _ p).1
theorem sk_le {L : Int} (T : Int → Int) {p : Int} (h : p ≤ L) : sk L T p ≤ L := (adv_b skB_l _ p).2.1 h
theorem sk_no (L : Int) (T : Int → Int) (p : Int) : ¬ (sk L T p < L ∧ T (sk L T p) = 32) := fun q => adv_no skB_l _ p (Nat.le_refl _) (skB_i.mpr q)
theorem sk_sk (L : Int) (T : Int → Int) (p : Int) : sk L T (sk L T p) = sk L T p := sk_n (sk_no L T p)
theorem sk_id {L : Int} {T : Int → Int} {p s : Int} (h : sk L T p = s) : sk L T s = s := by rw [← h]; exact sk_sk L T p
theorem de_y {L : Int} {T : Int → Int} {p : Int} (h : p < L) (e : 48 ≤ T p ∧ T p ≤ 57) : de L T p = de L T (p + 1) := adv_y h (dgB_i.mpr ⟨h, e⟩)
theorem de_n {L : Int} {T : Int → Int} {p : Int} (h : ¬ (p < L ∧ 48 ≤ T p ∧ T p ≤ 57)) : de L T p = p := adv_n (fun q => h (dgB_i.mp q)) _
theorem de_ge (L : Int) (T : Int → Int) (p : Int) : p ≤ de L T p := (adv_b dgB_l _ p).1
theorem de_le {L : Int} (T : Int → Int) {p : Int} (h : p ≤ L) : de L T p ≤ L := (adv_b dgB_l _ p).2.1 h
theorem de_dg {L : Int} {T : Int → Int} {p j : Int} (h : p ≤ j) (h' : j < de L T p) : j < L ∧ 48 ≤ T j ∧ T j ≤ 57 := dgB_i.mp ((adv_b dgB_l _ p).2.2 j h h')
def nval (T : Int → Int) (s e : Int) : Int := if e = s + 1 then T s - 48 else if e = s + 2 then 10 * (T s - 48) + T (s + 1) - 48 else if e = s then 0 else 1000
def nv (L : Int) (T : Int → Int) (s : Int) : Int := nval T s (de L T s)
def nOk (L : Int) (T : Int → Int) (m s : Int) : Prop := s < de L T s ∧ nv L T s ≤ m
theorem nOk_r {L : Int} {T : Int → Int} {m s : Int} (h : nOk L T m s) (hm : m ≤ 99) (hs : s ≤ L) : (0 ≤ nv L T s ∧ nv L T s ≤ m) ∧ s < de L T s ∧ de L T s ≤ L := by
  obtain ⟨h1, h2⟩ := h
  refine ⟨⟨?_, h2⟩, h1, de_le T hs⟩
  have d0 := de_dg (L := L) (T := T) (Int.le_refl s) h1
  unfold nv nval at h2 ⊢
  split at h2
  · omega
  · split at h2
    · have d1 := de_dg (L := L) (T := T) (p := s) (j := s + 1) (by omega) (by omega)
      omega
    · split at h2 <;> omega
/-- one ENTRY, from behind blanks on -/
def eF (K : CX) (x : Int) (t : Int → Int) (q pl n v : Int) : Int × Int × Int × Int := ifm K x n (if t n = 0 then (1, pl, n, v) else (0, q, 0, 0)) (0, q, 0, 0)
def ifn {α : Type} (L : Int) (T : Int → Int) (m s : Int) (a b : α) : α := if s < de L T s ∧ nv L T s ≤ m then a else b
theorem ifn_y {α : Type} {L : Int} {T : Int → Int} {m s : Int} (h : nOk L T m s) (a b : α) : ifn L T m s a b = a := if_pos h
theorem ifn_n {α : Type} {L : Int} {T : Int → Int} {m s : Int} (h : ¬ nOk L T m s) (a b : α) : ifn L T m s a b = b := if_neg h
def eR1 (L : Int) (T : Int → Int) (K : CX) (x : Int) (t : Int → Int) (m s : Int) : Int × Int × Int × Int :=
  ifn L T 99 s (if ct L T (sk L T (de L T s)) = 42 then (if 9 < nv L T s then (0, s, 0, 0) else ifn L T 99 (sk L T (sk L T (de L T s) + 1)) (eF K x t (sk L T (sk L T (de L T s) + 1)) (de L T (sk L T (sk L T (de L T s) + 1))) (nv L T (sk L T (sk L T (de L T s) + 1))) (if m = 1 then -nv L T s else nv L T s)) (0, sk L T (sk L T (de L T s) + 1), 0, 0)) else if nv L T s ≤ 9 ∧ ct L T (sk L T (de L T s)) = -1 then (0, sk L T (de L T s), 0, 0) else eF K x t s (sk L T (de L T s)) (nv L T s) (if m = 1 then -1 else 1)) (0, s, 0, 0)
def eR (L : Int) (T : Int → Int) (K : CX) (x : Int) (t : Int → Int) (p : Int) : Int × Int × Int × Int := if ct L T (sk L T p) = 45 then eR1 L T K x t 1 (sk L T (sk L T p + 1)) else eR1 L T K x t 0 (sk L T p)
theorem eF_adv {K : CX} {x : Int} {t : Int → Int} {q pl n v : Int} : (eF K x t q pl n v).1 ≠ 0 → (eF K x t q pl n v) = (1, pl, n, v) ∧ Xmay K x n := by
  intro h
  unfold eF ifm at h ⊢
  by_cases a : Xmay K x n
  · rw [if_pos a] at h ⊢
    by_cases b : t n = 0
    · rw [if_pos b]; exact ⟨rfl, a⟩
    · rw [if_neg b] at h; exact absurd rfl h
  · rw [if_neg a] at h; exact absurd rfl h
theorem eR1_adv {L : Int} {T : Int → Int} {K : CX} {x : Int} {t : Int → Int} {m s : Int} (hs : s ≤ L) : (eR1 L T K x t m s).1 ≠ 0 → s < (eR1 L T K x t m s).2.1 ∧ s < L ∧ (eR1 L T K x t m s).2.1 ≤ L ∧ Xmay K x (eR1 L T K x t m s).2.2.1 ∧ -9 ≤ (eR1 L T K x t m s).2.2.2 ∧ (eR1 L T K x t m s).2.2.2 ≤ 9 := by
  intro h
  unfold eR1 at h ⊢
  by_cases a : nOk L T 99 s
  · rw [ifn_y a] at h ⊢
    obtain ⟨r1, r2, r3⟩ := nOk_r a (by decide) hs
    have g1 := sk_ge L T (de L T s)
    have g2 := sk_le T r3
    by_cases b : ct L T (sk L T (de L T s)) = 42
    · rw [if_pos b] at h ⊢
      by_cases c : 9 < nv L T s
      · rw [if_pos c] at h; exact absurd rfl h
      · rw [if_neg c] at h ⊢
        have lt : sk L T (de L T s) < L := by
          unfold ct at b
          split at b <;> omega
        have g3 := sk_ge L T (sk L T (de L T s) + 1)
        have g4 := sk_le T (L := L) (p := sk L T (de L T s) + 1) (by omega)
        by_cases d : nOk L T 99 (sk L T (sk L T (de L T s) + 1))
        · rw [ifn_y d] at h ⊢
          obtain ⟨u1, u2, u3⟩ := nOk_r d (by decide) g4
          obtain ⟨e1, e2⟩ := eF_adv h
          rw [e1]
          refine ⟨by dsimp only; omega, by omega, u3, e2, ?_⟩
          dsimp only
          split <;> omega
        · rw [ifn_n d] at h; exact absurd rfl h
    · rw [if_neg b] at h ⊢
      by_cases c : nv L T s ≤ 9 ∧ ct L T (sk L T (de L T s)) = -1
      · rw [if_pos c] at h; exact absurd rfl h
      · rw [if_neg c] at h ⊢
        obtain ⟨e1, e2⟩ := eF_adv h
        rw [e1]
        refine ⟨by dsimp only; omega, by omega, g2, e2, ?_⟩
        dsimp only
        split <;> omega
  · rw [ifn_n a] at h; exact absurd rfl h
theorem eR_adv {L : Int} {T : Int → Int} {K : CX} {x : Int} {t : Int → Int} {p : Int} (hp : p ≤ L) : (eR L T K x t p).1 ≠ 0 → p < (eR L T K x t p).2.1 ∧ p < L ∧ (eR L T K x t p).2.1 ≤ L ∧ Xmay K x (eR L T K x t p).2.2.1 ∧ -9 ≤ (eR L T K x t p).2.2.2 ∧ (eR L T K x t p).2.2.2 ≤ 9 := by
  intro h
  have g1 := sk_ge L T p
  have g2 := sk_le T hp
  unfold eR at h ⊢
  by_cases a : ct L T (sk L T p) = 45
  · rw [if_pos a] at h ⊢
    have lt : sk L T p < L := by
      unfold ct at a
      split at a <;> omega
    have g3 := sk_ge L T (sk L T p + 1)
    obtain ⟨h1, h2, h3⟩ := eR1_adv (sk_le T (by omega)) h
    exact ⟨by omega, by omega, h3⟩
  · rw [if_neg a] at h ⊢
    obtain ⟨h1, h2, h3⟩ := eR1_adv g2 h
    exact ⟨by omega, by omega, h3⟩
/-- a loop that ends -/
def lpN {α β : Type} (f : α → Sum α β) (d : β) : Nat → α → β
  | 0, _ => d
  | k + 1, s => match f s with
    | .inl s' => lpN f d k s'
    | .inr r => r
theorem lpN_l {α β : Type} {f : α → Sum α β} {d : β} {k : Nat} {s s' : α} (h : f s = .inl s') : lpN f d (k + 1) s = lpN f d k s' := by
  show (match f s with | .inl s' => lpN f d k s' | .inr r => r) = _
  rw [h]
theorem lpN_r {α β : Type} {f : α → Sum α β} {d : β} {k : Nat} {s : α} {r : β} (h : f s = .inr r) : lpN f d (k + 1) s = r := by
  show (match f s with | .inl s' => lpN f d k s' | .inr r => r) = _
  rw [h]
theorem lpN_irr {α β : Type} {f : α → Sum α β} {d : β} {m : α → Nat} {P : α → Prop} (hd : ∀ s s', P s → f s = .inl s' → m s' < m s ∧ P s') : ∀ (k k' : Nat) (s : α), P s → m s < k → m s < k' → lpN f d k s = lpN f d k' s
  | 0, _, _, _, h, _ => absurd h (Nat.not_lt_zero _)
  | _ + 1, 0, _, _, _, h => absurd h (Nat.not_lt_zero _)
  | k + 1, k' + 1, s, hP, h, h' => by
    show (match f s with | .inl s' => lpN f d k s' | .inr r => r) = (match f s with | .inl s' => lpN f d k' s' | .inr r => r)
    cases e : f s with
    | inr r => rfl
    | inl s' =>
      obtain ⟨a, b⟩ := hd s s' hP e
      exact lpN_irr hd k k' s' b (by omega) (by omega)
theorem lpN_inv {α β : Type} {f : α → Sum α β} {d : β} {P : α → Prop} {R : β → Prop} (h1 : ∀ s s', P s → f s = .inl s' → P s') (h2 : ∀ s r, P s → f s = .inr r → R r) (h3 : R d) : ∀ (k : Nat) (s : α), P s → R (lpN f d k s)
  | 0, _, _ => h3
  | k + 1, s, hP => by
    show R (match f s with | .inl s' => lpN f d k s' | .inr r => r)
    cases e : f s with
    | inr r => exact h2 s r hP e
    | inl s' => exact lpN_inv h1 h2 h3 k s' (h1 s s' hP e)
/-- the ENTRIES of one CELL -/
def ups (t : Int → Int) (n : Int) : Int → Int := fun k => if k = n then 1 else t k
def esF (L : Int) (T : Int → Int) (x : Int) (s : CX × (Int → Int) × Int) : Sum (CX × (Int → Int) × Int) (Int × Int × CX) :=
  if (eR L T s.1 x s.2.1 s.2.2).1 = 0 then .inr (0, (eR L T s.1 x s.2.1 s.2.2).2.1, s.1)
  else if ct L T (sk L T (eR L T s.1 x s.2.1 s.2.2).2.1) = 44 then .inl (Xset s.1 x (eR L T s.1 x s.2.1 s.2.2).2.2.1 (eR L T s.1 x s.2.1 s.2.2).2.2.2, ups s.2.1 (eR L T s.1 x s.2.1 s.2.2).2.2.1, sk L T (eR L T s.1 x s.2.1 s.2.2).2.1 + 1)
  else .inr (1, sk L T (eR L T s.1 x s.2.1 s.2.2).2.1, Xset s.1 x (eR L T s.1 x s.2.1 s.2.2).2.2.1 (eR L T s.1 x s.2.1 s.2.2).2.2.2)
def es (L : Int) (T : Int → Int) (K : CX) (x : Int) (t : Int → Int) (p : Int) : Int × Int × CX := lpN (esF L T x) (0, 0, Xz) ((L - p).toNat + 1) (K, t, p)
theorem esF_d {L : Int} {T : Int → Int} {x : Int} (s s' : CX × (Int → Int) × Int) (h : s.2.2 ≤ L) (e : esF L T x s = .inl s') : (L - s'.2.2).toNat < (L - s.2.2).toNat ∧ s'.2.2 ≤ L := by
  unfold esF at e
  by_cases a : (eR L T s.1 x s.2.1 s.2.2).1 = 0
  · rw [if_pos a] at e; cases e
  · rw [if_neg a] at e
    obtain ⟨h1, h2, h3, _⟩ := eR_adv h a
    by_cases b : ct L T (sk L T (eR L T s.1 x s.2.1 s.2.2).2.1) = 44
    · rw [if_pos b] at e
      cases e
      have lt : sk L T (eR L T s.1 x s.2.1 s.2.2).2.1 < L := by
        unfold ct at b
        split at b <;> omega
      have := sk_ge L T (eR L T s.1 x s.2.1 s.2.2).2.1
      exact ⟨by dsimp only; omega, by dsimp only; omega⟩
    · rw [if_neg b] at e; cases e
theorem es_u {L : Int} {T : Int → Int} {K : CX} {x : Int} {t : Int → Int} {p : Int} (hp : p ≤ L) : es L T K x t p = match esF L T x (K, t, p) with | .inl s => es L T s.1 x s.2.1 s.2.2 | .inr r => r := by
  cases e : esF L T x (K, t, p) with
  | inr r => exact lpN_r e
  | inl s' =>
    obtain ⟨a, b⟩ := esF_d (K, t, p) s' hp e
    refine (lpN_l e).trans ?_
    exact lpN_irr (P := fun s => s.2.2 ≤ L) (m := fun s => (L - s.2.2).toNat) (fun s s' h e => esF_d s s' h e) _ _ s' b a (Nat.lt_succ_self _)
theorem es_f {L : Int} {T : Int → Int} {K : CX} {x : Int} {t : Int → Int} {p f z w : Int} (hp : p ≤ L) (h : eR L T K x t p = (0, f, z, w)) : es L T K x t p = (0, f, K) := by
  rw [es_u hp]
  unfold esF
  dsimp only
  rw [h, if_pos rfl]
theorem es_c {L : Int} {T : Int → Int} {K : CX} {x : Int} {t : Int → Int} {p pl n v : Int} (hp : p ≤ L) (h : eR L T K x t p = (1, pl, n, v)) (hc : ct L T (sk L T pl) = 44) : es L T K x t p = es L T (Xset K x n v) x (ups t n) (sk L T pl + 1) := by
  rw [es_u hp]
  unfold esF
  dsimp only
  rw [h, if_neg (show ¬ (1 : Int) = 0 by decide)]
  dsimp only
  rw [if_pos hc]
theorem es_d {L : Int} {T : Int → Int} {K : CX} {x : Int} {t : Int → Int} {p pl n v : Int} (hp : p ≤ L) (h : eR L T K x t p = (1, pl, n, v)) (hc : ct L T (sk L T pl) ≠ 44) : es L T K x t p = (1, sk L T pl, Xset K x n v) := by
  rw [es_u hp]
  unfold esF
  dsimp only
  rw [h, if_neg (show ¬ (1 : Int) = 0 by decide)]
  dsimp only
  rw [if_neg hc]
theorem es_g {L : Int} {T : Int → Int} {K : CX} {x : Int} {t : Int → Int} {p : Int} (hV : Vx K) (hp : p ≤ L) : (es L T K x t p).1 = 0 ∨ (p ≤ (es L T K x t p).2.1 ∧ (es L T K x t p).2.1 ≤ L ∧ Vx (es L T K x t p).2.2 ∧ Xn (es L T K x t p).2.2 = Xn K) := by
  refine lpN_inv (P := fun (s : CX × (Int → Int) × Int) => (p ≤ s.2.2 ∧ s.2.2 ≤ L) ∧ Vx s.1 ∧ Xn s.1 = Xn K) (R := fun (r : Int × Int × CX) => r.1 = 0 ∨ (p ≤ r.2.1 ∧ r.2.1 ≤ L ∧ Vx r.2.2 ∧ Xn r.2.2 = Xn K)) ?_ ?_ (Or.inl rfl) _ (K, t, p) ⟨⟨Int.le_refl _, hp⟩, hV, rfl⟩
  · intro s s' ⟨⟨a1, a2⟩, a3, a4⟩ e
    obtain ⟨b1, b2⟩ := esF_d s s' a2 e
    unfold esF at e
    by_cases a : (eR L T s.1 x s.2.1 s.2.2).1 = 0
    · rw [if_pos a] at e; cases e
    · rw [if_neg a] at e
      obtain ⟨h1, h2, h3, h4, h5⟩ := eR_adv a2 a
      by_cases b : ct L T (sk L T (eR L T s.1 x s.2.1 s.2.2).2.1) = 44
      · rw [if_pos b] at e
        cases e
        have := sk_ge L T (eR L T s.1 x s.2.1 s.2.2).2.1
        exact ⟨⟨by dsimp only; omega, b2⟩, Xset_Vx a3 h5 (Or.inr h4), a4⟩
      · rw [if_neg b] at e; cases e
  · intro s r ⟨⟨a1, a2⟩, a3, a4⟩ e
    unfold esF at e
    by_cases a : (eR L T s.1 x s.2.1 s.2.2).1 = 0
    · rw [if_pos a] at e; cases e; exact Or.inl rfl
    · rw [if_neg a] at e
      obtain ⟨h1, h2, h3, h4, h5⟩ := eR_adv a2 a
      by_cases b : ct L T (sk L T (eR L T s.1 x s.2.1 s.2.2).2.1) = 44
      · rw [if_pos b] at e; cases e
      · rw [if_neg b] at e
        cases e
        have := sk_ge L T (eR L T s.1 x s.2.1 s.2.2).2.1
        have := sk_le T h3
        exact Or.inr ⟨by dsimp only; omega, by dsimp only; omega, Xset_Vx a3 h5 (Or.inr h4), a4⟩
/-- what stands before the ENTRIES -/
def hR (L : Int) (T : Int → Int) (s : Int) : Int × Int × Int × Int × Int :=
  ifn L T 4 s (if ct L T (sk L T (de L T s)) = 64 then ifn L T 9 (sk L T (sk L T (de L T s) + 1)) (if 48 ≤ ct L T (sk L T (de L T (sk L T (sk L T (de L T s) + 1)))) ∧ ct L T (sk L T (de L T (sk L T (sk L T (de L T s) + 1)))) ≤ 57 then ifn L T 9 (sk L T (de L T (sk L T (sk L T (de L T s) + 1)))) (1, de L T (sk L T (de L T (sk L T (sk L T (de L T s) + 1)))), nv L T s, nv L T (sk L T (sk L T (de L T s) + 1)), nv L T (sk L T (de L T (sk L T (sk L T (de L T s) + 1))))) (0, sk L T (de L T (sk L T (sk L T (de L T s) + 1))), 0, 0, 0) else (1, sk L T (de L T (sk L T (sk L T (de L T s) + 1))), nv L T s, nv L T (sk L T (sk L T (de L T s) + 1)), nv L T (sk L T (sk L T (de L T s) + 1)))) (0, sk L T (sk L T (de L T s) + 1), 0, 0, 0) else (1, sk L T (de L T s), nv L T s, 0, 0)) (0, s, 0, 0, 0)
theorem hR_adv {L : Int} {T : Int → Int} {s : Int} (hs : s ≤ L) : (hR L T s).1 ≠ 0 → (s < (hR L T s).2.1 ∧ (hR L T s).2.1 ≤ L) ∧ (0 ≤ (hR L T s).2.2.1 ∧ (hR L T s).2.2.1 ≤ 4) ∧ (0 ≤ (hR L T s).2.2.2.1 ∧ (hR L T s).2.2.2.1 ≤ 9) ∧ (0 ≤ (hR L T s).2.2.2.2 ∧ (hR L T s).2.2.2.2 ≤ 9) := by
  intro h
  unfold hR at h ⊢
  by_cases a : nOk L T 4 s
  · rw [ifn_y a] at h ⊢
    obtain ⟨r1, r2, r3⟩ := nOk_r a (by decide) hs
    have g1 := sk_ge L T (de L T s)
    have g2 := sk_le T r3
    by_cases b : ct L T (sk L T (de L T s)) = 64
    · rw [if_pos b] at h ⊢
      have lt : sk L T (de L T s) < L := by
        unfold ct at b
        split at b <;> omega
      have g3 := sk_ge L T (sk L T (de L T s) + 1)
      have g4 := sk_le T (L := L) (p := sk L T (de L T s) + 1) (by omega)
      by_cases d : nOk L T 9 (sk L T (sk L T (de L T s) + 1))
      · rw [ifn_y d] at h ⊢
        obtain ⟨u1, u2, u3⟩ := nOk_r d (by decide) g4
        have g5 := sk_ge L T (de L T (sk L T (sk L T (de L T s) + 1)))
        have g6 := sk_le T u3
        by_cases c : 48 ≤ ct L T (sk L T (de L T (sk L T (sk L T (de L T s) + 1)))) ∧ ct L T (sk L T (de L T (sk L T (sk L T (de L T s) + 1)))) ≤ 57
        · rw [if_pos c] at h ⊢
          by_cases f : nOk L T 9 (sk L T (de L T (sk L T (sk L T (de L T s) + 1))))
          · rw [ifn_y f]
            obtain ⟨w1, w2, w3⟩ := nOk_r f (by decide) g6
            exact ⟨⟨by dsimp only; omega, w3⟩, r1, u1, w1⟩
          · rw [ifn_n f] at h; exact absurd rfl h
        · rw [if_neg c]
          exact ⟨⟨by dsimp only; omega, g6⟩, r1, u1, u1⟩
      · rw [ifn_n d] at h; exact absurd rfl h
    · rw [if_neg b]
      exact ⟨⟨by dsimp only; omega, g2⟩, r1, by dsimp only; omega, by dsimp only; omega⟩
  · rw [ifn_n a] at h; exact absurd rfl h
/-- the whole TEXT -/
def rrT (L : Int) (T : Int → Int) (K : CX) (p : Int) : Sum (CX × Int) (Int × Int × CX) := if ct L T (sk L T p) = 59 then .inl (K, sk L T p + 1) else .inr (0, sk L T p, K)
def rrE (L : Int) (T : Int → Int) (r : Int × Int × CX) : Sum (CX × Int) (Int × Int × CX) := if r.1 = 0 then .inr r else rrT L T r.2.2 r.2.1
def cl1 (L : Int) (T : Int → Int) (K : CX) (q d l o : Int) : Int × Int × CX := if ct L T (sk L T q) = 58 then es L T (Xadd K d l o) (Xn K) (fun _ => 0) (sk L T q + 1) else (1, sk L T q, Xadd K d l o)
def rrH (L : Int) (T : Int → Int) (K : CX) (h : Int × Int × Int × Int × Int) : Sum (CX × Int) (Int × Int × CX) := if h.1 = 0 then .inr (0, h.2.1, K) else rrE L T (cl1 L T K h.2.1 h.2.2.1 h.2.2.2.1 h.2.2.2.2)
def rrF (L : Int) (T : Int → Int) (s : CX × Int) : Sum (CX × Int) (Int × Int × CX) := if ct L T (sk L T s.2) = -1 then .inr (1, sk L T s.2, s.1) else if Xn s.1 = 12 then .inr (0, sk L T s.2, s.1) else rrH L T s.1 (hR L T (sk L T s.2))
def rrG (L : Int) (T : Int → Int) (K : CX) (p : Int) : Int × Int × CX := lpN (rrF L T) (0, 0, Xz) ((L - p).toNat + 1) (K, p)
def rr (L : Int) (T : Int → Int) : Int × Int × CX := rrG L T Xz 0
theorem rrT_d {L : Int} {T : Int → Int} {K : CX} {p : Int} {s' : CX × Int} (hp : p ≤ L) (e : rrT L T K p = .inl s') : p < s'.2 ∧ s'.2 ≤ L ∧ s'.1 = K := by
  unfold rrT at e
  by_cases b : ct L T (sk L T p) = 59
  · rw [if_pos b] at e
    cases e
    have lt : sk L T p < L := by
      unfold ct at b
      split at b <;> omega
    have := sk_ge L T p
    exact ⟨by dsimp only; omega, by dsimp only; omega, rfl⟩
  · rw [if_neg b] at e; cases e
theorem rrF_d {L : Int} {T : Int → Int} (s s' : CX × Int) (h : Vx s.1 ∧ s.2 ≤ L) (e : rrF L T s = .inl s') : (L - s'.2).toNat < (L - s.2).toNat ∧ (Vx s'.1 ∧ s'.2 ≤ L) := by
  obtain ⟨hV, h⟩ := h
  unfold rrF at e
  have g1 := sk_ge L T s.2
  have g2 := sk_le T h
  have hnr := hV.1.1
  by_cases a : ct L T (sk L T s.2) = -1
  · rw [if_pos a] at e; cases e
  · rw [if_neg a] at e
    by_cases b : Xn s.1 = 12
    · rw [if_pos b] at e; cases e
    · rw [if_neg b] at e
      unfold rrH at e
      by_cases c : (hR L T (sk L T s.2)).1 = 0
      · rw [if_pos c] at e; cases e
      · rw [if_neg c] at e
        obtain ⟨⟨k1, k2⟩, k3, k4, k5⟩ := hR_adv g2 c
        have g3 := sk_ge L T (hR L T (sk L T s.2)).2.1
        have g4 := sk_le T k2
        have hVa := Xadd_Vx hV (by omega) k3 k4 k5
        unfold cl1 at e
        by_cases d : ct L T (sk L T (hR L T (sk L T s.2)).2.1) = 58
        · rw [if_pos d] at e
          have lt : sk L T (hR L T (sk L T s.2)).2.1 < L := by
            unfold ct at d
            split at d <;> omega
          unfold rrE at e
          by_cases f : (es L T (Xadd s.1 (hR L T (sk L T s.2)).2.2.1 (hR L T (sk L T s.2)).2.2.2.1 (hR L T (sk L T s.2)).2.2.2.2) (Xn s.1) (fun _ => 0) (sk L T (hR L T (sk L T s.2)).2.1 + 1)).1 = 0
          · rw [if_pos f] at e; cases e
          · rw [if_neg f] at e
            obtain ⟨m1, m2, m3, m4⟩ := (es_g hVa (by omega)).resolve_left f
            obtain ⟨n1, n2, n3⟩ := rrT_d m2 e
            exact ⟨by omega, by rw [n3]; exact m3, n2⟩
        · rw [if_neg d] at e
          unfold rrE at e
          rw [if_neg (show ¬ (1 : Int) = 0 by decide)] at e
          obtain ⟨n1, n2, n3⟩ := rrT_d g4 e
          exact ⟨by omega, by rw [n3]; exact hVa, n2⟩
theorem rr_u {L : Int} {T : Int → Int} {K : CX} {p : Int} (hV : Vx K) (hp : p ≤ L) : rrG L T K p = match rrF L T (K, p) with | .inl s => rrG L T s.1 s.2 | .inr r => r := by
  cases e : rrF L T (K, p) with
  | inr r => exact lpN_r e
  | inl s' =>
    obtain ⟨a, b⟩ := rrF_d (K, p) s' ⟨hV, hp⟩ e
    refine (lpN_l e).trans ?_
    exact lpN_irr (P := fun s => Vx s.1 ∧ s.2 ≤ L) (m := fun s => (L - s.2).toNat) (fun s s' h e => rrF_d s s' h e) _ _ s' b a (Nat.lt_succ_self _)
theorem rr_end {L : Int} {T : Int → Int} {K : CX} {p : Int} (hV : Vx K) (hp : p ≤ L) (a : ct L T (sk L T p) = -1) : rrG L T K p = (1, sk L T p, K) := by
  rw [rr_u hV hp]
  unfold rrF
  rw [if_pos a]
theorem rr_full {L : Int} {T : Int → Int} {K : CX} {p : Int} (hV : Vx K) (hp : p ≤ L) (a : ct L T (sk L T p) ≠ -1) (b : Xn K = 12) : rrG L T K p = (0, sk L T p, K) := by
  rw [rr_u hV hp]
  unfold rrF
  rw [if_neg a, if_pos b]
theorem rr_h0 {L : Int} {T : Int → Int} {K : CX} {p f : Int} {z : Int × Int × Int} (hV : Vx K) (hp : p ≤ L) (a : ct L T (sk L T p) ≠ -1) (b : Xn K ≠ 12) (c : hR L T (sk L T p) = (0, f, z)) : rrG L T K p = (0, f, K) := by
  rw [rr_u hV hp]
  unfold rrF
  rw [if_neg a, if_neg b]
  unfold rrH
  rw [c, if_pos rfl]
theorem rr_cf {L : Int} {T : Int → Int} {K K' : CX} {p q d l o f : Int} (hV : Vx K) (hp : p ≤ L) (a : ct L T (sk L T p) ≠ -1) (b : Xn K ≠ 12) (c : hR L T (sk L T p) = (1, q, d, l, o)) (e : cl1 L T K q d l o = (0, f, K')) : rrG L T K p = (0, f, K') := by
  rw [rr_u hV hp]
  unfold rrF
  rw [if_neg a, if_neg b]
  unfold rrH
  rw [c, if_neg (show ¬ (1 : Int) = 0 by decide)]
  dsimp only
  rw [e]
  unfold rrE
  rw [if_pos rfl]
theorem rr_ct {L : Int} {T : Int → Int} {K K' : CX} {p q d l o f : Int} (hV : Vx K) (hp : p ≤ L) (a : ct L T (sk L T p) ≠ -1) (b : Xn K ≠ 12) (c : hR L T (sk L T p) = (1, q, d, l, o)) (e : cl1 L T K q d l o = (1, f, K')) {w : Int} (hw : sk L T f = w) (g : ct L T w = 59) : rrG L T K p = rrG L T K' (w + 1) := by
  subst hw
  rw [rr_u hV hp]
  unfold rrF
  rw [if_neg a, if_neg b]
  unfold rrH
  rw [c, if_neg (show ¬ (1 : Int) = 0 by decide)]
  dsimp only
  rw [e]
  unfold rrE
  rw [if_neg (show ¬ (1 : Int) = 0 by decide)]
  unfold rrT
  rw [if_pos g]
theorem rr_cn {L : Int} {T : Int → Int} {K K' : CX} {p q d l o f : Int} (hV : Vx K) (hp : p ≤ L) (a : ct L T (sk L T p) ≠ -1) (b : Xn K ≠ 12) (c : hR L T (sk L T p) = (1, q, d, l, o)) (e : cl1 L T K q d l o = (1, f, K')) {w : Int} (hw : sk L T f = w) (g : ct L T w ≠ 59) : rrG L T K p = (0, w, K') := by
  subst hw
  rw [rr_u hV hp]
  unfold rrF
  rw [if_neg a, if_neg b]
  unfold rrH
  rw [c, if_neg (show ¬ (1 : Int) = 0 by decide)]
  dsimp only
  rw [e]
  unfold rrE
  rw [if_neg (show ¬ (1 : Int) = 0 by decide)]
  unfold rrT
  rw [if_neg g]
theorem ct_lt {L : Int} {T : Int → Int} {p c : Int} (h : ct L T p = c) (hc : 0 ≤ c) : p < L := by
  unfold ct at h
  split at h <;> omega
theorem ct_in {L : Int} {T : Int → Int} {p : Int} (h : p < L) : ct L T p = T p := if_pos h
theorem ct_out {L : Int} {T : Int → Int} {p : Int} (h : L ≤ p) : ct L T p = -1 := if_neg (by omega)
theorem nv_c {L : Int} {T : Int → Int} {s e : Int} (h : de L T s = e) : (e = s + 1 → nv L T s = T s - 48) ∧ (e = s + 2 → nv L T s = 10 * (T s - 48) + T (s + 1) - 48) ∧ (s + 2 < e → nv L T s = 1000) := by
  unfold nv
  rw [h]
  unfold nval
  refine ⟨fun q => if_pos q, fun q => ?_, fun q => ?_⟩
  · rw [if_neg (by omega), if_pos q]
  · rw [if_neg (by omega), if_neg (by omega), if_neg (by omega)]
theorem nOk_i {L : Int} {T : Int → Int} {m s : Int} : nOk L T m s ↔ s < de L T s ∧ nv L T s ≤ m := Iff.rfl
theorem rr_g {L : Int} {T : Int → Int} (hL : 0 ≤ L) : (rr L T).1 = 0 ∨ Vx (rr L T).2.2 := by
  refine lpN_inv (P := fun (s : CX × Int) => Vx s.1 ∧ s.2 ≤ L) (R := fun (r : Int × Int × CX) => r.1 = 0 ∨ Vx r.2.2) (fun s s' h e => (rrF_d s s' h e).2) ?_ (Or.inl rfl) _ (Xz, 0) ⟨Xz_Vx, hL⟩
  intro s r ⟨hV, h⟩ e
  have g2 := sk_le T h
  have hnr := hV.1.1
  unfold rrF at e
  by_cases a : ct L T (sk L T s.2) = -1
  · rw [if_pos a] at e; cases e; exact Or.inr hV
  · rw [if_neg a] at e
    by_cases b : Xn s.1 = 12
    · rw [if_pos b] at e; cases e; exact Or.inl rfl
    · rw [if_neg b] at e
      unfold rrH at e
      by_cases c : (hR L T (sk L T s.2)).1 = 0
      · rw [if_pos c] at e; cases e; exact Or.inl rfl
      · rw [if_neg c] at e
        unfold rrE at e
        split at e
        · rename_i z; cases e; exact Or.inl z
        · unfold rrT at e
          split at e
          · cases e
          · cases e; exact Or.inl rfl
/-- bits of a set -/
def tb (w k : Int) : Int := (Int32.ofInt (Int32.ofInt w >>> (Int32.ofInt k &&& 31)).toInt &&& Int32.ofInt 1).toInt
theorem sh_k (k : Nat) (hk : k < 12) : (Int32.ofInt k &&& 31).toBitVec.smod 32 = BitVec.ofNat 32 k := by
  have h : k = 0 ∨ k = 1 ∨ k = 2 ∨ k = 3 ∨ k = 4 ∨ k = 5 ∨ k = 6 ∨ k = 7 ∨ k = 8 ∨ k = 9 ∨ k = 10 ∨ k = 11 := by omega
  rcases h with rfl | rfl | rfl | rfl | rfl | rfl | rfl | rfl | rfl | rfl | rfl | rfl <;> decide
theorem tb_b (w : Int) (k : Nat) (hk : k < 12) : tb w k = if (Int32.ofInt w).toBitVec.getLsbD k = true then 1 else 0 := by
  unfold tb
  rw [Int32.ofInt_toInt]
  generalize Int32.ofInt w = x
  rw [← Int32.toInt_toBitVec, Int32.toBitVec_and, Int32.toBitVec_shiftRight, sh_k k hk]
  have e : (Int32.ofInt 1).toBitVec = 1#32 := by decide
  rw [e, BitVec.and_one_eq_setWidth_ofBool_getLsbD]
  have e2 : (x.toBitVec.sshiftRight' (BitVec.ofNat 32 k)).getLsbD 0 = x.toBitVec.getLsbD k := by
    rw [BitVec.sshiftRight', BitVec.getLsbD_sshiftRight]
    have : (BitVec.ofNat 32 k).toNat = k := by simp; omega
    rw [this]
    simp
    omega
  rw [e2]
  cases x.toBitVec.getLsbD k <;> decide
theorem sl_k (k : Nat) (hk : k < 12) : (Int32.ofInt 1 <<< (Int32.ofInt k &&& 31)).toBitVec = BitVec.twoPow 32 k := by
  have h : k = 0 ∨ k = 1 ∨ k = 2 ∨ k = 3 ∨ k = 4 ∨ k = 5 ∨ k = 6 ∨ k = 7 ∨ k = 8 ∨ k = 9 ∨ k = 10 ∨ k = 11 := by omega
  rcases h with rfl | rfl | rfl | rfl | rfl | rfl | rfl | rfl | rfl | rfl | rfl | rfl <;> decide
theorem tb_or {w n k : Int} (hn : 0 ≤ n ∧ n < 12) (hk : 0 ≤ k ∧ k < 12) : tb (orb n w) k = if k = n then 1 else tb w k := by
  obtain ⟨j, rfl⟩ : ∃ j : Nat, k = j := ⟨k.toNat, by omega⟩
  obtain ⟨m, rfl⟩ : ∃ m : Nat, n = m := ⟨n.toNat, by omega⟩
  rw [tb_b _ j (by omega), tb_b _ j (by omega)]
  unfold orb
  rw [Int32.ofInt_toInt, Int32.ofInt_toInt, Int32.toBitVec_or, sl_k m (by omega), BitVec.getLsbD_or, BitVec.getLsbD_twoPow]
  by_cases e : j = m
  · subst e
    rw [if_pos rfl]
    have : decide (j < 32) = true := decide_eq_true (by omega)
    simp [this]
  · have e' : ¬ (j : Int) = (m : Int) := by omega
    have e2 : ¬ m = j := by omega
    simp [e', e2]
def TB (w : Int) (t : Int → Int) : Prop := ∀ k, 0 ≤ k → k < 12 → (tb w k = 0 ↔ t k = 0)
theorem TB_0 : TB 0 (fun _ => 0) := fun k h0 h1 => by
  obtain ⟨j, rfl⟩ : ∃ j : Nat, k = j := ⟨k.toNat, by omega⟩
  rw [tb_b _ j (by omega)]
  have : (Int32.ofInt 0).toBitVec.getLsbD j = false := by
    have e : (Int32.ofInt 0).toBitVec = 0#32 := by decide
    rw [e]; simp
  rw [this]
  simp
theorem TB_up {w n : Int} {t : Int → Int} (h : TB w t) (hn : 0 ≤ n ∧ n < 12) : TB (orb n w) (ups t n) := fun k h0 h1 => by
  rw [tb_or hn ⟨h0, h1⟩]
  unfold ups
  by_cases e : k = n
  · rw [if_pos e, if_pos e]
  · rw [if_neg e, if_neg e]; exact h k h0 h1
