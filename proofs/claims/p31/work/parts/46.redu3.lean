/-! Reduced, cell by cell. -/
def sbr (p : Int) (r q : Int → Int) (l : Int) : Int → Int := fun y => (r y - mlt p (r l) (q l) * q y) % p
def rdF (K : CX) (w p : Int) (R : Int → Int → Int) (O : Int → Int) (r : Int → Int) : Sum (Int → Int) (Int → Int) := if la K w r = -1 then .inr r else if O (la K w r) = -1 then .inr r else .inl (sbr p r (R (O (la K w r))) (la K w r))
def mre (K : CX) (w : Int) (r : Int → Int) : Nat := if la K w r = -1 then 0 else (rk K w (la K w r)).toNat + 1
def red (K : CX) (w p : Int) (R : Int → Int → Int) (O : Int → Int) (r : Int → Int) : Int → Int := lpN (rdF K w p R O) (fun _ => 0) (mre K w r + 1) r
def stp (K : CX) (w p : Int) (s : (Int → Int → Int) × (Int → Int)) (x : Int) : (Int → Int → Int) × (Int → Int) := (fun a => if a = x then red K w p s.1 s.2 (s.1 x) else s.1 a, if la K w (red K w p s.1 s.2 (s.1 x)) = -1 then s.2 else fun l => if l = la K w (red K w p s.1 s.2 (s.1 x)) then x else s.2 l)
def stN (K : CX) (w p : Int) : Nat → (Int → Int → Int) × (Int → Int)
  | 0 => (fun x y => Xe K x y % p, fun _ => -1)
  | k + 1 => stp K w p (stN K w p k) (od K w k)
def IVa (K : CX) (w p i : Int) (R : Int → Int → Int) (O : Int → Int) : Prop :=
  (∀ x y, 0 ≤ R x y ∧ R x y < p) ∧ (∀ l, O l = -1 ∨ ((0 ≤ O l ∧ O l < Xn K) ∧ rk K w (O l) < i ∧ isL K w (R (O l)) l)) ∧ (∀ x, 0 ≤ x → x < Xn K → rk K w x < i → la K w (R x) = -1 ∨ O (la K w (R x)) = x) ∧ (∀ x, 0 ≤ x → x < Xn K → rk K w x < i → InS K w p (rk K w x) (fun y => Xe K x y - R x y)) ∧ (∀ x, 0 ≤ x → x < Xn K → i ≤ rk K w x → ∀ y, R x y = Xe K x y % p)
def IVb (K : CX) (w p i : Int) (R : Int → Int → Int) (O : Int → Int) : Prop :=
  (∀ j, j ≤ i → ∀ v : Int → Int, (∀ y, 0 ≤ v y ∧ v y < p) → InS K w p j v → la K w v = -1 ∨ (O (la K w v) ≠ -1 ∧ rk K w (O (la K w v)) < j)) ∧ (∀ x y, 0 ≤ x → x < Xn K → 0 ≤ y → y < Xn K → R x y ≠ 0 → rk K w y < rk K w x)
def PR (K : CX) (w p x : Int) (r : Int → Int) : Prop := (∀ y, 0 ≤ r y ∧ r y < p) ∧ InS K w p (rk K w x) (fun y => Xe K x y - r y) ∧ ∀ y, 0 ≤ y → y < Xn K → r y ≠ 0 → rk K w y < rk K w x
theorem rk_ne {K : CX} {w a b : Int} (ha : 0 ≤ a ∧ a < Xn K) (hb : 0 ≤ b ∧ b < Xn K) (h : a ≠ b) : rk K w a ≠ rk K w b := fun q => h (rkb_i (K := K) (w := w) (m := Xn K) ha hb q)
theorem md_r {p : Int} (hp : Xpr p) (z : Int) : 0 ≤ z % p ∧ z % p < p := by
  have := pr_b hp
  exact ⟨Int.emod_nonneg _ (by omega), Int.emod_lt_of_pos _ (by omega)⟩
theorem nd_r {p z : Int} (h : 0 ≤ z ∧ z < p) (h0 : z ≠ 0) : ¬ p ∣ z := fun q => by
  have := Int.emod_eq_zero_of_dvd q
  rw [Int.emod_eq_of_lt h.1 h.2] at this
  exact h0 this
theorem la_rng {K : CX} {w : Int} {f : Int → Int} (hn : 0 ≤ Xn K) (h : la K w f ≠ -1) : isL K w f (la K w f) := (la_sp w f hn).resolve_left fun q => h q.1
/-- a row that was reduced is made of the cells up to its own -/
theorem IV_row {K : CX} {w p i : Int} {R : Int → Int → Int} {O : Int → Int} (h : IVa K w p i R O) {x : Int} (hx : 0 ≤ x ∧ x < Xn K) (hi : rk K w x < i) : InS K w p i (R x) := by
  have h1 := (h.2.2.2.1 x hx.1 hx.2 hi).mono (show rk K w x ≤ rk K w x + 1 by omega)
  have h2 : InS K w p (rk K w x + 1) (Xe K x) := InS.row hx fun y _ _ => by rw [Int.sub_self]; exact Int.dvd_zero p
  refine (h2.lin h1 1 (-1) fun y _ _ => ?_).mono (by omega)
  rw [show R x y - (1 * Xe K x y + -1 * (Xe K x y - R x y)) = 0 by omega]
  exact Int.dvd_zero p
theorem PR_InS {K : CX} {w p x : Int} {r : Int → Int} (hx : 0 ≤ x ∧ x < Xn K) (h : PR K w p x r) : InS K w p (rk K w x + 1) r := by
  have h1 := h.2.1.mono (show rk K w x ≤ rk K w x + 1 by omega)
  have h2 : InS K w p (rk K w x + 1) (Xe K x) := InS.row hx fun y _ _ => by rw [Int.sub_self]; exact Int.dvd_zero p
  refine h2.lin h1 1 (-1) fun y _ _ => ?_
  rw [show r y - (1 * Xe K x y + -1 * (Xe K x y - r y)) = 0 by omega]
  exact Int.dvd_zero p
/-- where the edge of an edge is nothing, what is last in a row has itself nothing left -/
theorem IV_dd {K : CX} {w p i j : Int} {R : Int → Int → Int} {O : Int → Int} (hp : Xpr p) (hn : 0 ≤ Xn K) (hd : ∀ a b, Xdd K a b = 0) (ha : IVa K w p i R O) (hb : IVb K w p i R O) {r : Int → Int} {l : Int} (hr : ∀ y, 0 ≤ r y ∧ r y < p) (hs : InS K w p j r) (hl : isL K w r l) (hi : rk K w l < i) : la K w (R l) = -1 := by
  obtain ⟨l1, l2, l3⟩ := hl
  have nd := nd_r (hr l) l2
  obtain ⟨iv, hiv⟩ := pr_iv hp nd
  have hE : InS K w p (rk K w l) (Xe K l) := by
    refine ⟨fun b => if rk K w b < rk K w l then -(iv * r b) else 0, fun b b0 b1 b2 => if_neg (by omega), fun y y0 y1 => ?_⟩
    have hz := hs.dd hd y
    rw [sm_out l1] at hz
    have e : sm (fun b => (if rk K w b < rk K w l then -(iv * r b) else 0) * Xe K b y) (Xn K) = -iv * sm (fun b => if b = l then 0 else r b * Xe K b y) (Xn K) := by
      rw [← sm_mul]
      refine sm_congr fun b b0 b1 => ?_
      by_cases e1 : b = l
      · subst e1
        rw [if_neg (by omega), if_pos rfl, Int.zero_mul, Int.mul_zero]
      · rw [if_neg e1]
        by_cases e2 : rk K w b < rk K w l
        · rw [if_pos e2, Int.neg_mul, Int.neg_mul, Int.mul_assoc]
        · have : r b = 0 := l3 b b0 b1 (by
            have := rk_ne (w := w) ⟨b0, b1⟩ l1 e1
            omega)
          rw [if_neg e2, this, Int.zero_mul, Int.mul_zero]
    rw [e]
    have h1 := Int.dvd_trans hz (Int.dvd_mul_left iv _)
    have h2 := Int.dvd_trans hiv (Int.dvd_mul_right _ (Xe K l y))
    have h3 := Int.dvd_sub h1 h2
    generalize sm (fun b => if b = l then 0 else r b * Xe K b y) (Xn K) = z at h3 ⊢
    have e3 : Xe K l y - -iv * z = iv * (z + r l * Xe K l y) - (iv * r l - 1) * Xe K l y := by
      rw [Int.mul_add, Int.sub_mul, Int.one_mul, Int.mul_assoc, Int.neg_mul]; omega
    rw [e3]
    exact h3
  have hR : InS K w p (rk K w l) (R l) := by
    refine hE.lin (ha.2.2.2.1 l l1.1 l1.2 hi) 1 (-1) fun y _ _ => ?_
    rw [show R l y - (1 * Xe K l y + -1 * (Xe K l y - R l y)) = 0 by omega]
    exact Int.dvd_zero p
  rcases hb.1 (rk K w l) (by omega) (R l) (ha.1 l) hR with h | ⟨h, h'⟩
  · exact h
  · rcases ha.2.2.1 l l1.1 l1.2 hi with q | q
    · exact q
    · rw [q] at h'; omega
theorem PR_sbr {K : CX} {w p i x : Int} {R : Int → Int → Int} {O : Int → Int} (hp : Xpr p) (hn : 0 ≤ Xn K) (ha : IVa K w p i R O) (hb : IVb K w p i R O) (hi : rk K w x = i) {r : Int → Int} (h : PR K w p x r) (h1 : la K w r ≠ -1) (h2 : O (la K w r) ≠ -1) : PR K w p x (sbr p r (R (O (la K w r))) (la K w r)) ∧ mre K w (sbr p r (R (O (la K w r))) (la K w r)) < mre K w r := by
  have hl := la_rng hn h1
  obtain ⟨o1, o2, o3⟩ := (ha.2.1 (la K w r)).resolve_left h2
  generalize la K w r = l at *
  generalize O l = o at *
  have nd := nd_r (ha.1 o l) o3.2.1
  obtain ⟨m1, m2⟩ := mlt_ok (a := r l) hp nd
  refine ⟨⟨fun y => md_r hp _, ?_, fun y y0 y1 hy => ?_⟩, ?_⟩
  · refine h.2.1.lin ((IV_row ha o1 o2).mono (show i ≤ rk K w x by omega)) 1 (mlt p (r l) (R o l)) fun y _ _ => ?_
    show p ∣ Xe K x y - (r y - mlt p (r l) (R o l) * R o y) % p - (1 * (Xe K x y - r y) + mlt p (r l) (R o l) * R o y)
    rw [show Xe K x y - (r y - mlt p (r l) (R o l) * R o y) % p - (1 * (Xe K x y - r y) + mlt p (r l) (R o l) * R o y) = (r y - mlt p (r l) (R o l) * R o y) - (r y - mlt p (r l) (R o l) * R o y) % p by omega]
    exact Int.dvd_self_sub_emod
  · by_cases q : r y = 0
    · have q2 : R o y ≠ 0 := fun z => hy (by show (r y - mlt p (r l) (R o l) * R o y) % p = 0; rw [q, z, Int.mul_zero]; rfl)
      have := hb.2 o y o1.1 o1.2 y0 y1 q2
      omega
    · exact h.2.2 y y0 y1 q
  · have hz : ∀ y, 0 ≤ y → y < Xn K → rk K w l ≤ rk K w y → sbr p r (R o) l y = 0 := fun y y0 y1 q => by
      by_cases e : y = l
      · rw [e]; exact Int.emod_eq_zero_of_dvd m2
      · have q2 : rk K w l < rk K w y := by
          have := rk_ne (w := w) ⟨y0, y1⟩ hl.1 e
          omega
        show (r y - mlt p (r l) (R o l) * R o y) % p = 0
        rw [hl.2.2 y y0 y1 q2, o3.2.2 y y0 y1 q2, Int.mul_zero]; rfl
    have hlr := rk_r (K := K) (w := w) hl.1
    have e1 : mre K w r = (rk K w l).toNat + 1 := by
      have := isL_u hn hl
      unfold mre
      rw [this, if_neg (by omega)]
    rw [e1]
    rcases la_sp w (sbr p r (R o) l) hn with ⟨a, _⟩ | a
    · unfold mre
      rw [if_pos a]; omega
    · have ar := rk_r (K := K) (w := w) a.1
      have : rk K w (la K w (sbr p r (R o) l)) < rk K w l := by
        by_cases q : rk K w l ≤ rk K w (la K w (sbr p r (R o) l))
        · exact absurd (hz _ a.1.1 a.1.2 q) a.2.1
        · omega
      unfold mre
      rw [if_neg (by have := a.1; omega)]
      omega
theorem red_u {K : CX} {w p i x : Int} {R : Int → Int → Int} {O : Int → Int} (hp : Xpr p) (hn : 0 ≤ Xn K) (ha : IVa K w p i R O) (hb : IVb K w p i R O) (hi : rk K w x = i) {r : Int → Int} (h : PR K w p x r) : red K w p R O r = match rdF K w p R O r with | .inl r' => red K w p R O r' | .inr r' => r' := by
  have hd : ∀ s s', PR K w p x s → rdF K w p R O s = .inl s' → mre K w s' < mre K w s ∧ PR K w p x s' := by
    intro s s' hs e
    unfold rdF at e
    by_cases a : la K w s = -1
    · rw [if_pos a] at e; cases e
    · rw [if_neg a] at e
      by_cases b : O (la K w s) = -1
      · rw [if_pos b] at e; cases e
      · rw [if_neg b] at e
        cases e
        have := PR_sbr hp hn ha hb hi hs a b
        exact ⟨this.2, this.1⟩
  cases e : rdF K w p R O r with
  | inr r' => exact lpN_r e
  | inl r' =>
    obtain ⟨a, b⟩ := hd r r' h e
    refine (lpN_l e).trans ?_
    exact lpN_irr (P := PR K w p x) (m := mre K w) hd _ _ r' b a (Nat.lt_succ_self _)
theorem red_d {K : CX} {w p i x : Int} {R : Int → Int → Int} {O : Int → Int} (hp : Xpr p) (hn : 0 ≤ Xn K) (ha : IVa K w p i R O) (hb : IVb K w p i R O) (hi : rk K w x = i) {r : Int → Int} (h : PR K w p x r) (q : la K w r = -1 ∨ O (la K w r) = -1) : red K w p R O r = r := by
  rw [red_u hp hn ha hb hi h]
  unfold rdF
  by_cases a : la K w r = -1
  · rw [if_pos a]
  · rw [if_neg a, if_pos (q.resolve_left a)]
theorem red_c {K : CX} {w p i x : Int} {R : Int → Int → Int} {O : Int → Int} (hp : Xpr p) (hn : 0 ≤ Xn K) (ha : IVa K w p i R O) (hb : IVb K w p i R O) (hi : rk K w x = i) {r : Int → Int} (h : PR K w p x r) (h1 : la K w r ≠ -1) (h2 : O (la K w r) ≠ -1) : red K w p R O r = red K w p R O (sbr p r (R (O (la K w r))) (la K w r)) := by
  rw [red_u hp hn ha hb hi h]
  unfold rdF
  rw [if_neg h1, if_neg h2]
theorem red_e {K : CX} {w p i x : Int} {R : Int → Int → Int} {O : Int → Int} (hp : Xpr p) (hn : 0 ≤ Xn K) (ha : IVa K w p i R O) (hb : IVb K w p i R O) (hi : rk K w x = i) : ∀ (k : Nat) (r : Int → Int), mre K w r < k → PR K w p x r → PR K w p x (red K w p R O r) ∧ (la K w (red K w p R O r) = -1 ∨ O (la K w (red K w p R O r)) = -1)
  | 0, _, h, _ => absurd h (Nat.not_lt_zero _)
  | k + 1, r, hk, h => by
    by_cases a : la K w r = -1
    · rw [red_d hp hn ha hb hi h (Or.inl a)]
      exact ⟨h, Or.inl a⟩
    · by_cases b : O (la K w r) = -1
      · rw [red_d hp hn ha hb hi h (Or.inr b)]
        exact ⟨h, Or.inr b⟩
      · rw [red_c hp hn ha hb hi h a b]
        obtain ⟨u, v⟩ := PR_sbr hp hn ha hb hi h a b
        exact red_e hp hn ha hb hi k _ (by omega) u
theorem IV_0 {K : CX} {w p : Int} (hp : Xpr p) (hV : Vx K) (hw : w = 0 ∨ w = 1) : IVa K w p 0 (stN K w p 0).1 (stN K w p 0).2 ∧ IVb K w p 0 (stN K w p 0).1 (stN K w p 0).2 := by
  have hn := hV.1.1.1
  refine ⟨⟨fun x y => md_r hp _, fun l => Or.inl rfl, fun x x0 x1 q => ?_, fun x x0 x1 q => ?_, fun x _ _ _ y => rfl⟩, fun j hj v hv hs => ?_, fun x y x0 x1 y0 y1 q => ?_⟩
  · have := rk_r (K := K) (w := w) ⟨x0, x1⟩; omega
  · have := rk_r (K := K) (w := w) ⟨x0, x1⟩; omega
  · refine Or.inl (la_0 hn fun y y0 y1 => ?_)
    obtain ⟨c, c1, c2⟩ := hs
    have := c2 y y0 y1
    rw [sm_z fun b b0 b1 => ?_, Int.sub_zero] at this
    · by_cases e : v y = 0
      · exact e
      · exact absurd this (nd_r (hv y) e)
    · rw [c1 b b0 b1 (by have := rk_r (K := K) (w := w) ⟨b0, b1⟩; omega), Int.zero_mul]
  · refine rk_may hw (hV.2.2 x y fun z => q ?_)
    show Xe K x y % p = 0
    rw [z]; rfl
theorem IV_s {K : CX} {w p x : Int} {R : Int → Int → Int} {O : Int → Int} (hp : Xpr p) (hV : Vx K) (hx : 0 ≤ x ∧ x < Xn K) (ha : IVa K w p (rk K w x) R O) (hb : IVb K w p (rk K w x) R O) {r : Int → Int} (h : PR K w p x r) (he : la K w r = -1 ∨ O (la K w r) = -1) : IVa K w p (rk K w x + 1) (fun a => if a = x then r else R a) (if la K w r = -1 then O else fun l => if l = la K w r then x else O l) ∧ IVb K w p (rk K w x + 1) (fun a => if a = x then r else R a) (if la K w r = -1 then O else fun l => if l = la K w r then x else O l) := by
  have hn := hV.1.1.1
  have hin : ∀ y, 0 ≤ y → y < Xn K → rk K w y < rk K w x + 1 → y = x ∨ (y ≠ x ∧ rk K w y < rk K w x) := fun y y0 y1 q => by
    by_cases e : y = x
    · exact Or.inl e
    · refine Or.inr ⟨e, ?_⟩
      have := rk_ne (w := w) ⟨y0, y1⟩ hx e
      omega
  have hO1 : ∀ l, l ≠ la K w r → (if la K w r = -1 then O else fun l => if l = la K w r then x else O l) l = O l := fun l e => by
    split
    · rfl
    · exact if_neg e
  have hO2 : la K w r ≠ -1 → (if la K w r = -1 then O else fun l => if l = la K w r then x else O l) (la K w r) = x := fun e => by
    rw [if_neg e]
    exact if_pos rfl
  have hO3 : ∀ l, O l ≠ -1 → l = la K w r → False := fun l h1 h2 => by
    rcases he with he | he
    · have := (ha.2.1 l).resolve_left h1
      have h3 := this.2.2.1.1
      omega
    · rw [h2] at h1; exact h1 he
  refine ⟨⟨fun a y => ?_, fun l => ?_, fun a a0 a1 q => ?_, fun a a0 a1 q => ?_, fun a a0 a1 q y => ?_⟩, fun j hj v hv hs => ?_, fun a y a0 a1 y0 y1 q => ?_⟩
  · show 0 ≤ (if a = x then r else R a) y ∧ (if a = x then r else R a) y < p
    split
    · exact h.1 y
    · exact ha.1 a y
  · by_cases e : l = la K w r
    · by_cases e2 : la K w r = -1
      · left
        rw [if_pos e2]
        rcases ha.2.1 l with q | q
        · exact q
        · have := q.2.2.1.1; omega
      · right
        subst e
        rw [hO2 e2]
        refine ⟨hx, by omega, ?_⟩
        dsimp only
        rw [if_pos rfl]
        exact la_rng hn e2
    · rw [hO1 l e]
      rcases ha.2.1 l with q | ⟨q1, q2, q3⟩
      · exact Or.inl q
      · refine Or.inr ⟨q1, by omega, ?_⟩
        dsimp only
        rw [if_neg (fun z => by rw [z] at q2; omega)]
        exact q3
  · dsimp only
    rcases hin a a0 a1 q with e | ⟨e, e2⟩
    · rw [if_pos e]
      by_cases q2 : la K w r = -1
      · exact Or.inl q2
      · exact Or.inr ((hO2 q2).trans e.symm)
    · rw [if_neg e]
      rcases ha.2.2.1 a a0 a1 e2 with q2 | q2
      · exact Or.inl q2
      · refine Or.inr ((hO1 _ fun z => hO3 _ ?_ z).trans q2)
        rw [q2]; omega
  · rcases hin a a0 a1 q with e | ⟨e, e2⟩
    · subst e
      have : (fun y => Xe K a y - (if a = a then r else R a) y) = fun y => Xe K a y - r y := by rw [if_pos rfl]
      rw [this]
      exact h.2.1
    · have : (fun y => Xe K a y - (if a = x then r else R a) y) = fun y => Xe K a y - R a y := by rw [if_neg e]
      rw [this]
      exact ha.2.2.2.1 a a0 a1 e2
  · show (if a = x then r else R a) y = _
    rw [if_neg (fun z => by rw [z] at q; omega)]
    exact ha.2.2.2.2 a a0 a1 (by omega) y
  · by_cases e : j ≤ rk K w x
    · rcases hb.1 j e v hv hs with q | ⟨q1, q2⟩
      · exact Or.inl q
      · refine Or.inr ?_
        rw [hO1 _ fun z => hO3 _ q1 z]
        exact ⟨q1, q2⟩
    · have ej : j = rk K w x + 1 := by omega
      subst ej
      obtain ⟨c, c1, c2⟩ := hs
      -- the part before x, and c x times the row
      have hs0 : InS K w p (rk K w x) (fun y => sm (fun b => (if b = x then 0 else c b) * Xe K b y) (Xn K)) := by
        refine ⟨fun b => if b = x then 0 else c b, fun b b0 b1 b2 => ?_, fun y _ _ => by rw [Int.sub_self]; exact Int.dvd_zero p⟩
        by_cases q : b = x
        · exact if_pos q
        · refine (if_neg q).trans (c1 b b0 b1 ?_)
          have := rk_ne (w := w) ⟨b0, b1⟩ hx q
          omega
      have hs1 : InS K w p (rk K w x) (fun y => (sm (fun b => (if b = x then 0 else c b) * Xe K b y) (Xn K) + c x * (Xe K x y - r y)) % p) := by
        refine hs0.lin h.2.1 1 (c x) fun y _ _ => ?_
        generalize sm (fun b => (if b = x then 0 else c b) * Xe K b y) (Xn K) = z
        show p ∣ (z + c x * (Xe K x y - r y)) % p - (1 * z + c x * (Xe K x y - r y))
        rw [Int.one_mul]
        have := Int.dvd_self_sub_emod (x := z + c x * (Xe K x y - r y)) (m := p)
        rw [show (z + c x * (Xe K x y - r y)) % p - (z + c x * (Xe K x y - r y)) = -(z + c x * (Xe K x y - r y) - (z + c x * (Xe K x y - r y)) % p) by omega]
        exact Int.dvd_neg.mpr this
      have hv2 : ∀ y, 0 ≤ y → y < Xn K → p ∣ v y - ((sm (fun b => (if b = x then 0 else c b) * Xe K b y) (Xn K) + c x * (Xe K x y - r y)) % p + c x * r y) := fun y y0 y1 => by
        have h1 := c2 y y0 y1
        rw [sm_out hx] at h1
        rw [sm_congr (f := fun b => if b = x then 0 else c b * Xe K b y) (g := fun b => (if b = x then 0 else c b) * Xe K b y) fun b _ _ => by split; exact (Int.zero_mul _).symm; rfl] at h1
        generalize sm (fun b => (if b = x then 0 else c b) * Xe K b y) (Xn K) = z at h1 ⊢
        have h2 := Int.dvd_self_sub_emod (x := z + c x * (Xe K x y - r y)) (m := p)
        have h3 := Int.dvd_add h1 h2
        rw [show v y - ((z + c x * (Xe K x y - r y)) % p + c x * r y) = v y - (z + c x * Xe K x y) + (z + c x * (Xe K x y - r y) - (z + c x * (Xe K x y - r y)) % p) by rw [Int.mul_sub]; omega]
        exact h3
      have hu := hb.1 (rk K w x) (Int.le_refl _) _ (fun y => md_r hp (sm (fun b => (if b = x then 0 else c b) * Xe K b y) (Xn K) + c x * (Xe K x y - r y))) hs1
      have hur : ∀ y, 0 ≤ (fun y => (sm (fun b => (if b = x then 0 else c b) * Xe K b y) (Xn K) + c x * (Xe K x y - r y)) % p) y ∧ (fun y => (sm (fun b => (if b = x then 0 else c b) * Xe K b y) (Xn K) + c x * (Xe K x y - r y)) % p) y < p := fun y => md_r hp _
      replace hv2 : ∀ y, 0 ≤ y → y < Xn K → p ∣ v y - ((fun y => (sm (fun b => (if b = x then 0 else c b) * Xe K b y) (Xn K) + c x * (Xe K x y - r y)) % p) y + c x * r y) := hv2
      generalize (fun y => (sm (fun b => (if b = x then 0 else c b) * Xe K b y) (Xn K) + c x * (Xe K x y - r y)) % p) = u at hu hv2 hur
      -- v is u, where c x is nothing or r is
      have nv : ∀ y, 0 ≤ y → y < Xn K → (p ∣ u y + c x * r y → v y = 0) ∧ (¬ p ∣ u y + c x * r y → v y ≠ 0) := fun y y0 y1 => by
        have h1 := hv2 y y0 y1
        refine ⟨fun q => ?_, fun q q2 => q ?_⟩
        · have h2 := Int.dvd_add h1 q
          rw [Int.sub_add_cancel] at h2
          by_cases e : v y = 0
          · exact e
          · exact absurd h2 (nd_r (hv y) e)
        · rw [q2, Int.zero_sub] at h1
          exact Int.dvd_neg.mp h1
      by_cases k1 : p ∣ c x ∨ la K w r = -1
      · -- as u
        have hz : ∀ y, 0 ≤ y → y < Xn K → p ∣ c x * r y := fun y y0 y1 => by
          rcases k1 with k1 | k1
          · exact Int.dvd_trans k1 (Int.dvd_mul_right _ _)
          · rcases la_sp w r hn with ⟨_, q⟩ | q
            · rw [q y y0 y1, Int.mul_zero]; exact Int.dvd_zero p
            · have := q.1; omega
        have huv : ∀ y, 0 ≤ y → y < Xn K → (u y = 0 ↔ v y = 0) := fun y y0 y1 => by
          constructor
          · intro q
            exact (nv y y0 y1).1 (by rw [q, Int.zero_add]; exact hz y y0 y1)
          · intro q
            by_cases e : u y = 0
            · exact e
            · refine absurd q ((nv y y0 y1).2 fun q2 => nd_r (hur y) e ?_)
              have := Int.dvd_sub q2 (hz y y0 y1)
              rwa [Int.add_sub_cancel] at this
        rcases la_sp w v hn with ⟨q, _⟩ | q
        · exact Or.inl q
        · have hlu : isL K w u (la K w v) := ⟨q.1, fun z => q.2.1 ((huv _ q.1.1 q.1.2).mp z), fun y y0 y1 y2 => (huv y y0 y1).mpr (q.2.2 y y0 y1 y2)⟩
          have e1 := isL_u hn hlu
          rw [e1] at hu
          rcases hu with hu | ⟨u1, u2⟩
          · have := q.1; omega
          · refine Or.inr ?_
            rw [hO1 _ fun z => hO3 _ u1 z]
            exact ⟨u1, by omega⟩
      · have k2 : ¬ p ∣ c x := fun q => k1 (Or.inl q)
        have k3 : la K w r ≠ -1 := fun q => k1 (Or.inr q)
        have hm := la_rng hn k3
        -- what is last in u comes behind, or not
        have hlast : (la K w u = -1 ∨ rk K w (la K w u) < rk K w (la K w r)) → isL K w v (la K w r) := by
          intro hq
          have uz : ∀ y, 0 ≤ y → y < Xn K → rk K w (la K w r) ≤ rk K w y → u y = 0 := fun y y0 y1 y2 => by
            rcases la_sp w u hn with ⟨_, q⟩ | q
            · exact q y y0 y1
            · refine q.2.2 y y0 y1 ?_
              have := q.1
              rcases hq with hq | hq <;> omega
          refine ⟨hm.1, ?_, fun y y0 y1 y2 => ?_⟩
          · refine (nv _ hm.1.1 hm.1.2).2 fun q => ?_
            rw [uz _ hm.1.1 hm.1.2 (Int.le_refl _), Int.zero_add] at q
            rcases pr_mul hp q with q | q
            · exact k2 q
            · exact nd_r (h.1 _) hm.2.1 q
          · refine (nv y y0 y1).1 ?_
            rw [uz y y0 y1 (by omega), hm.2.2 y y0 y1 y2, Int.mul_zero]
            exact Int.dvd_zero p
        rcases hu with hu | ⟨u1, u2⟩
        · have e1 := isL_u hn (hlast (Or.inl hu))
          refine Or.inr ?_
          rw [e1, hO2 k3]
          exact ⟨by omega, by omega⟩
        · have hul := la_rng hn (f := u) (w := w) (fun q => by
            have := (ha.2.1 (la K w u)).resolve_left u1
            have := this.2.2.1
            omega)
          by_cases q : rk K w (la K w u) < rk K w (la K w r)
          · have e1 := isL_u hn (hlast (Or.inr q))
            refine Or.inr ?_
            rw [e1, hO2 k3]
            exact ⟨by omega, by omega⟩
          · have q2 : rk K w (la K w r) < rk K w (la K w u) := by
              have := rk_ne (w := w) hul.1 hm.1 (fun z => hO3 _ u1 z)
              omega
            have hvl : isL K w v (la K w u) := by
              refine ⟨hul.1, (nv _ hul.1.1 hul.1.2).2 fun z => ?_, fun y y0 y1 y2 => (nv y y0 y1).1 ?_⟩
              · rw [hm.2.2 _ hul.1.1 hul.1.2 q2, Int.mul_zero, Int.add_zero] at z
                exact nd_r (hur _) hul.2.1 z
              · rw [hm.2.2 y y0 y1 (by omega), hul.2.2 y y0 y1 y2, Int.mul_zero]
                exact Int.dvd_zero p
            have e1 := isL_u hn hvl
            refine Or.inr ?_
            rw [e1, hO1 _ fun z => hO3 _ u1 z]
            exact ⟨u1, by omega⟩
  · replace q : (if a = x then r else R a) y ≠ 0 := q
    by_cases e : a = x
    · rw [if_pos e] at q
      rw [e]
      exact h.2.2 y y0 y1 q
    · rw [if_neg e] at q
      exact hb.2 a y a0 a1 y0 y1 q
theorem PR_0 {K : CX} {w p i x : Int} {R : Int → Int → Int} {O : Int → Int} (hp : Xpr p) (hx : 0 ≤ x ∧ x < Xn K) (hi : rk K w x = i) (ha : IVa K w p i R O) (hb : IVb K w p i R O) : PR K w p x (R x) := by
  refine ⟨ha.1 x, ?_, fun y y0 y1 q => hb.2 x y hx.1 hx.2 y0 y1 q⟩
  refine ⟨fun _ => 0, fun _ _ _ _ => rfl, fun y _ _ => ?_⟩
  rw [sm_z fun b _ _ => Int.zero_mul _, Int.sub_zero]
  show p ∣ Xe K x y - R x y
  rw [ha.2.2.2.2 x hx.1 hx.2 (by omega) y]
  exact Int.dvd_self_sub_emod
theorem IV_st {K : CX} {w p : Int} (hp : Xpr p) (hV : Vx K) (hw : w = 0 ∨ w = 1) : ∀ (k : Nat), (k : Int) ≤ Xn K → IVa K w p k (stN K w p k).1 (stN K w p k).2 ∧ IVb K w p k (stN K w p k).1 (stN K w p k).2
  | 0, _ => IV_0 hp hV hw
  | k + 1, hk => by
    obtain ⟨ha, hb⟩ := IV_st hp hV hw k (by omega)
    obtain ⟨o1, o2⟩ := od_ok (K := K) (w := w) (i := (k : Int)) (by omega)
    have hn := hV.1.1.1
    have h0 := PR_0 hp o1 o2 ha hb
    obtain ⟨h1, h2⟩ := red_e hp hn ha hb o2 _ _ (Nat.lt_succ_self _) h0
    have e : ((k + 1 : Nat) : Int) = rk K w (od K w k) + 1 := by omega
    rw [e]
    exact IV_s hp hV o1 (by rw [o2]; exact ha) (by rw [o2]; exact hb) h1 h2
/-- what stands in the end -/
def Fs (K : CX) (w p : Int) : (Int → Int → Int) × (Int → Int) := stN K w p (Xn K).toNat
def Fr (K : CX) (w p x y : Int) : Int := (Fs K w p).1 x y
def Fo (K : CX) (w p x : Int) : Int := (Fs K w p).2 x
def Fl (K : CX) (w p x : Int) : Int := la K w (Fr K w p x)
def Fw (K : CX) (w p x : Int) : Int := if Fo K w p x = -1 then Fl K w p x else Fo K w p x
def cl3 (z : Int) : Int := if z = -1 then -3 else z
theorem cl3_n {z : Int} (h : z ≠ -1) : cl3 z = z := if_neg h
theorem Fs_ok {K : CX} {w p : Int} (hp : Xpr p) (hV : Vx K) (hw : w = 0 ∨ w = 1) : IVa K w p (Xn K) (Fs K w p).1 (Fs K w p).2 ∧ IVb K w p (Xn K) (Fs K w p).1 (Fs K w p).2 := by
  have hn := hV.1.1.1
  have e : (((Xn K).toNat : Nat) : Int) = Xn K := by omega
  have := IV_st hp hV hw (Xn K).toNat (by omega)
  rw [e] at this
  exact this
theorem Fl_r {K : CX} {w p : Int} (hV : Vx K) (x : Int) : Fl K w p x = -1 ∨ (0 ≤ Fl K w p x ∧ Fl K w p x < Xn K) := by
  rcases la_sp w (Fr K w p x) hV.1.1.1 with h | h
  · exact Or.inl h.1
  · exact Or.inr h.1
theorem Fo_r {K : CX} {w p : Int} (hp : Xpr p) (hV : Vx K) (hw : w = 0 ∨ w = 1) (x : Int) : Fo K w p x = -1 ∨ (0 ≤ Fo K w p x ∧ Fo K w p x < Xn K) := by
  rcases (Fs_ok hp hV hw).1.2.1 x with h | h
  · exact Or.inl h
  · exact Or.inr h.1
theorem Fw_r {K : CX} {w p : Int} (hp : Xpr p) (hV : Vx K) (hw : w = 0 ∨ w = 1) (x : Int) : Fw K w p x = -1 ∨ (0 ≤ Fw K w p x ∧ Fw K w p x < Xn K) := by
  unfold Fw
  split
  · exact Fl_r hV x
  · exact Fo_r hp hV hw x
/-- a cell that one goes with last has itself nothing left -/
theorem Fo_l {K : CX} {w p : Int} (hp : Xpr p) (hV : Vx K) (hw : w = 0 ∨ w = 1) (hd : Xfb K = 0) {x : Int} (h : Fo K w p x ≠ -1) : Fl K w p x = -1 := by
  obtain ⟨ha, hb⟩ := Fs_ok hp hV hw
  obtain ⟨o1, o2, o3⟩ := (ha.2.1 x).resolve_left h
  exact IV_dd (j := Xn K) (r := (Fs K w p).1 (Fo K w p x)) hp hV.1.1.1 ((Xfb_z hV.1).mp hd) ha hb (ha.1 _) (IV_row ha o1 o2) o3 (rk_r o3.1).2
theorem Fw_l {K : CX} {w p : Int} (hp : Xpr p) (hV : Vx K) (hw : w = 0 ∨ w = 1) (hd : Xfb K = 0) (x : Int) : cl3 (Fw K w p x) = if cl3 (Fl K w p x) = -3 then cl3 (Fo K w p x) else cl3 (Fl K w p x) := by
  unfold Fw
  by_cases h : Fo K w p x = -1
  · rw [if_pos h, h]
    by_cases q : cl3 (Fl K w p x) = -3
    · rw [if_pos q, q]; rfl
    · rw [if_neg q]
  · rw [if_neg h, Fo_l hp hV hw hd h, if_pos (show cl3 (-1) = -3 from rfl)]
theorem cl3_3 {z : Int} (h : z = -1 ∨ 0 ≤ z) : cl3 z = -3 ↔ z = -1 := by
  unfold cl3
  split <;> omega
def gapF (K : CX) (w p x : Int) : Int := if Xl K w x - Xl K w (Fw K w p x) < 0 then -(Xl K w x - Xl K w (Fw K w p x)) else Xl K w x - Xl K w (Fw K w p x)
/-- one step more of the state -/
theorem st_s {K : CX} {w p : Int} (hp : Xpr p) (hV : Vx K) (hw : w = 0 ∨ w = 1) {i : Int} (hi : 0 ≤ i ∧ i < Xn K) {r : Int → Int} (h : red K w p (stN K w p i.toNat).1 (stN K w p i.toNat).2 ((stN K w p i.toNat).1 (od K w i)) = r) : stN K w p (i + 1).toNat = (fun a => if a = od K w i then r else (stN K w p i.toNat).1 a, if la K w r = -1 then (stN K w p i.toNat).2 else fun l => if l = la K w r then od K w i else (stN K w p i.toNat).2 l) := by
  obtain ⟨k, rfl⟩ : ∃ k : Nat, i = k := ⟨i.toNat, by omega⟩
  rw [show ((k : Int) + 1).toNat = k + 1 by omega]
  show stp K w p (stN K w p k) (od K w k) = _
  rw [show ((k : Int)).toNat = k by omega] at h ⊢
  unfold stp
  rw [h]
theorem st_iv {K : CX} {w p : Int} (hp : Xpr p) (hV : Vx K) (hw : w = 0 ∨ w = 1) {i : Int} (hi : 0 ≤ i ∧ i ≤ Xn K) : IVa K w p i (stN K w p i.toNat).1 (stN K w p i.toNat).2 ∧ IVb K w p i (stN K w p i.toNat).1 (stN K w p i.toNat).2 := by
  have e : ((i.toNat : Nat) : Int) = i := by omega
  have := IV_st hp hV hw i.toNat (by omega)
  rw [e] at this
  exact this
theorem mre_b {K : CX} (w : Int) (r : Int → Int) (hn : 0 ≤ Xn K) : (mre K w r : Int) ≤ Xn K := by
  unfold mre
  split
  · omega
  · rename_i h
    have := rk_r (K := K) (w := w) (la_rng hn h).1
    omega
