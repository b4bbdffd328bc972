/-! What is tried and put back. -/
theorem isC_18 {a : Int} (h : mm_isC a) : ¬ (a ≤ 18 ∧ 18 ≤ a + 4) := by
  rcases h with rfl | rfl | rfl | rfl | rfl | rfl | rfl | rfl | rfl <;> decide
theorem Xset_back (K : CX) (x y v : Int) : Xset (Xset K x y v) x y (Xe K x y) = K := CXext rfl (fun _ => rfl) (fun _ => rfl) (fun _ => rfl) fun i j => by
  rw [Xset_e, Xset_e]
  split
  · rename_i h; rw [h.2.1, h.2.2]
  · rename_i h
    exact if_neg h
def ch (f : Int → Int → Int × Int) : Nat → Int → Int → Int × Int
  | 0, _, o => (-3, o)
  | k + 1, i, o => if (f i o).1 = -3 then ch f k (i + 1) (f i o).2 else f i o
def chI (f : Int → Int → Int × Int) (i n o : Int) : Int × Int := ch f (n - i).toNat i o
def ck (r : Int × Int) (g : Int → Int × Int) : Int × Int := if r.1 = -3 then g r.2 else r
theorem chI_e {f : Int → Int → Int × Int} {i n o : Int} (h : n ≤ i) : chI f i n o = (-3, o) := by
  unfold chI
  rw [show (n - i).toNat = 0 by omega]
  rfl
theorem chI_c {f : Int → Int → Int × Int} {i n o : Int} (h : i < n) : chI f i n o = ck (f i o) (chI f (i + 1) n) := by
  unfold chI
  rw [show (n - i).toNat = (n - (i + 1)).toNat + 1 by omega]
  rfl
theorem ck_n (o : Int) (g : Int → Int × Int) : ck (-3, o) g = g o := if_pos rfl
theorem ck_y {r : Int × Int} (h : r.1 ≠ -3) (g : Int → Int × Int) : ck r g = r := if_neg h
def mfv (K : CX) (x y v o : Int) : Int × Int := if Xfb (Xset K x y v) = 0 then (400 * x + 20 * y + 9 + v, o + 1) else (-3, o + 1)
def mw (K : CX) (x y v o : Int) : Int × Int := ifm K x y (chI (mfv K x y) v 10 o) (-3, o)
def mfy (K : CX) (x y o : Int) : Int × Int := mw K x y (-9) o
def mfx (K : CX) (x o : Int) : Int × Int := chI (mfy K x) 0 (Xn K) o
def mq (K : CX) : Int × Int := if Xfb K = 0 then (-3, 0) else chI (mfx K) 0 (Xn K) 0
def mo (o : Int) : Int := if o = 0 then 0 else 1
def Q_mend (A : mm_A) (c : Int) : Int × mm_A := if 0 ≤ c ∧ c < 4 then ((mq (AK A c)).1, Atr A (mq (AK A c)).2 (mq (AK A c)).2 (mo (mq (AK A c)).2)) else (-1, A)
theorem mw_n {K : CX} {x y v o : Int} (h : 10 ≤ v ∨ ¬ Xmay K x y) : mw K x y v o = (-3, o) := by
  unfold mw ifm
  by_cases a : Xmay K x y
  · rw [if_pos a]
    exact chI_e (h.resolve_right fun q => q a)
  · rw [if_neg a]
theorem mw_s {K : CX} {x y v o : Int} (h : v < 10) (a : Xmay K x y) (hf : Xfb (Xset K x y v) ≠ 0) : mw K x y v o = mw K x y (v + 1) (o + 1) := by
  unfold mw ifm
  rw [if_pos a, if_pos a, chI_c h]
  unfold mfv
  rw [if_neg hf, ck_n]
theorem mw_y {K : CX} {x y v o : Int} (h : v < 10) (h0 : 0 ≤ x ∧ 0 ≤ y ∧ -9 ≤ v) (a : Xmay K x y) (hf : Xfb (Xset K x y v) = 0) : mw K x y v o = (400 * x + 20 * y + 9 + v, o + 1) := by
  unfold mw ifm
  rw [if_pos a, chI_c h]
  unfold mfv
  rw [if_pos hf, ck_y (by dsimp only; omega)]
theorem mq_0 {K : CX} (h : Xfb K = 0) : mq K = (-3, 0) := if_pos h
theorem mq_1 {K : CX} (h : Xfb K ≠ 0) : mq K = chI (mfx K) 0 (Xn K) 0 := if_neg h
theorem mend_hit {K : CX} {x y v o : Int} {g g' : Int → Int × Int} (h : v < 10) (h0 : 0 ≤ x ∧ 0 ≤ y ∧ -9 ≤ v) (a : Xmay K x y) (hf : Xfb (Xset K x y v) = 0) (H : mq K = ck (ck (mw K x y v o) g) g') : mq K = (400 * x + 20 * y + 9 + v, o + 1) := by
  have e : ck (mw K x y v o) g = (400 * x + 20 * y + 9 + v, o + 1) := by
    rw [mw_y h h0 a hf]
    exact ck_y (by dsimp only; omega) g
  rw [H, e]
  exact ck_y (by dsimp only; omega) g'
theorem mend_end {K : CX} {x o : Int} (h : Xn K ≤ x) (H : Xfb K ≠ 0 → mq K = chI (mfx K) x (Xn K) o) (h0 : Xfb K = 0 → o = 0) : mq K = (-3, o) := by
  by_cases e : Xfb K = 0
  · rw [mq_0 e, h0 e]
  · rw [H e, chI_e h]
theorem RC.try {S S' : mm_S} {A : mm_A} (h : RC S A) {c : Int} (hc : 0 ≤ c ∧ c < 4) (hM : MC S' (23 + 10 * c) (AK A c)) {o q m : Int} (t : S' 18 0 = o ∧ S' 18 1 = q ∧ S' 18 2 = m) (hf : ∀ b, b ≠ 18 → ¬ (23 + 10 * c ≤ b ∧ b ≤ 23 + 10 * c + 4) → S' b = S b) : RC S' (Atr A o q m) := by
  obtain ⟨h1, h2, h3, ⟨h4, h5, h6⟩, ⟨h7, h8⟩, h9⟩ := h
  refine ⟨fun i a b => ?_, fun i a b => (h2 i a b).fr fun e p q => hf e (by omega) (by omega), by rw [hf 0 (by omega) (by omega)]; exact h3, t, ⟨?_, fun j a b => ?_⟩, fun i a b => ?_⟩
  · by_cases e : i = c
    · subst e; exact hM
    · exact (h1 i a b).fr fun e p q => hf e (by omega) (by omega)
  · rw [hf 19 (by omega) (by omega)]; exact h7
  · rw [hf 20 (by omega) (by omega)]; exact h8 j a b
  · rw [hf (63 + 2 * i) (by omega) (by omega), hf (63 + 2 * i + 1) (by omega) (by omega)]; exact h9 i a b
theorem RR.try {S S' : mm_S} {A : mm_A} (h : RR S A) {c : Int} (hM : MR S' c (AK A c)) (hO : Oth S S' c) {o q m : Int} (t : S' 71 9 = o ∧ S' 71 10 = q ∧ S' 71 11 = m) (h8 : S' 71 8 = S 71 8) (h21 : S' 71 21 = S 71 21) (hf : ∀ b, ((76 ≤ b ∧ b ≤ 79) ∨ b = 85 ∨ (87 ≤ b ∧ b ≤ 89)) → S' b = S b) : RR S' (Atr A o q m) := by
  obtain ⟨h1, h2, h3, ⟨h4, h5, h6⟩, ⟨h7, h8'⟩, h9⟩ := h
  refine ⟨fun i a b => ?_, fun c a b => (h2 c a b).fr fun e p q => hf e (by omega), h8.trans h3, t, ⟨h21.trans h7, fun j a b => ?_⟩, fun i a b => ?_⟩
  · by_cases e : i = c
    · subst e; exact hM
    · exact hO i _ a (by omega) e (h1 i a b)
  · rw [hf 85 (by omega)]; exact h8' j a b
  · rw [hf 87 (by omega), hf 88 (by omega), hf 89 (by omega)]; exact h9 i a b

set_option maxRecDepth 20000 in
set_option maxHeartbeats 4000000 in
theorem c_Tr_startAnew (S : mm_S) : Cl 171 [(2, 18)] S (fun v S' => v = none ∧ S' = (mm_up (mm_up (mm_up S 18 0 0) 18 1 0) 18 2 0)) := by
  refine ⟨Nat.le_of_ble_eq_true rfl, ?_⟩
  show Rn k_Tr_startAnew 0 [(2, 18)] [] S _
  refine R_lo (nx := 1) rfl rfl rfl rfl ?_
  refine R_op (nx := 2) rfl rfl rfl ?_
  refine R_put (nx := 5) (kk := 0) rfl rfl rfl rfl rfl ?_
  refine R_lo (nx := 6) rfl rfl rfl rfl ?_
  refine R_op (nx := 7) rfl rfl rfl ?_
  refine R_put (nx := 10) (kk := 1) rfl rfl rfl rfl rfl ?_
  refine R_lo (nx := 11) rfl rfl rfl rfl ?_
  refine R_op (nx := 12) rfl rfl rfl ?_
  refine R_put (nx := 15) (kk := 2) rfl rfl rfl rfl rfl ?_
  refine R_ret rfl (fun _ _ => rfl) rfl rfl ?_
  exact ⟨rfl, rfl⟩

set_option maxRecDepth 20000 in
set_option maxHeartbeats 4000000 in
theorem c_Tr_open (S : mm_S) (a : Int) (hC : mm_isC a) (K : CX) (h : MC S a K) (x y v o q m : Int) (h0 : S 18 0 = o) (h1 : S 18 1 = q) (h2 : S 18 2 = m) (ho : 0 ≤ o ∧ o ≤ 10000) (hq : 0 ≤ q ∧ q ≤ 10000) : Cl 172 [(2, 18), (2, a), (0, x), (0, y), (0, v)] S (fun w S' => w = none ∧ (S' 18 0 = o + 1 ∧ S' 18 1 = q ∧ S' 18 2 = max m (o + 1 - q)) ∧ (S' 18 3 = a ∧ S' 18 4 = x ∧ S' 18 5 = y ∧ S' 18 6 = Xe K x y) ∧ MC S' a (Xset K x y v) ∧ ∀ b, b ≠ 18 → ¬ (a ≤ b ∧ b ≤ a + 4) → S' b = S b) := by
  refine ⟨Nat.le_of_ble_eq_true rfl, ?_⟩
  show Rn k_Tr_open 0 [(2, 18), (2, a), (0, x), (0, y), (0, v)] [] S _
  have h18 := isC_18 hC
  have hk := isC_kd hC
  refine R_lo (nx := 1) rfl rfl rfl rfl ?_
  refine R_lo (nx := 2) rfl rfl rfl rfl ?_
  refine R_put (nx := 5) (kk := 3) rfl rfl rfl (by show decide _ = true; exact decide_eq_true ⟨rfl, by omega, by omega⟩) rfl ?_
  refine R_lo (nx := 6) rfl rfl rfl rfl ?_
  refine R_lo (nx := 7) rfl rfl rfl rfl ?_
  refine R_put (nx := 10) (kk := 4) rfl rfl rfl rfl rfl ?_
  refine R_lo (nx := 11) rfl rfl rfl rfl ?_
  refine R_lo (nx := 12) rfl rfl rfl rfl ?_
  refine R_put (nx := 15) (kk := 5) rfl rfl rfl rfl rfl ?_
  refine R_lo (nx := 16) rfl rfl rfl rfl ?_
  refine R_lo (nx := 17) rfl rfl rfl rfl ?_
  refine R_lo (nx := 18) rfl rfl rfl rfl ?_
  refine R_get (nx := 21) (w := (0, ((mm_up (mm_up (mm_up S 18 3 a) 18 4 x) 18 5 y) 18 4))) rfl rfl rfl rfl ?_
  rw [show ((mm_up (mm_up (mm_up S 18 3 a) 18 4 x) 18 5 y) 18 4) = x from by (repeat rw [mm_uk (by decide)]); first | exact h0 | exact mm_ua]
  refine R_lo (nx := 22) rfl rfl rfl rfl ?_
  refine R_get (nx := 25) (w := (0, ((mm_up (mm_up (mm_up S 18 3 a) 18 4 x) 18 5 y) 18 5))) rfl rfl rfl rfl ?_
  rw [show ((mm_up (mm_up (mm_up S 18 3 a) 18 4 x) 18 5 y) 18 5) = y from by (repeat rw [mm_uk (by decide)]); first | exact h0 | exact mm_ua]
  refine R_call1 (nx := 28) (as := [(2, a), (0, x), (0, y)]) (rest := [(2, 18)]) rfl rfl (fun _ _ => rfl) rfl rfl rfl rfl rfl rfl (isC_rc hC _) rfl (Cl.mono (c_C_edge (mm_up (mm_up (mm_up S 18 3 a) 18 4 x) 18 5 y) a hC K (by first | assumption | exact MC.up (by assumption) (by omega) | exact MC.up (MC.up (by assumption) (by omega)) (by omega) | exact MC.up (MC.up (MC.up (by assumption) (by omega)) (by omega)) (by omega)) x y) ?_)
  rintro _ _ ⟨rfl, rfl⟩
  refine ⟨_, rfl, ?_⟩
  refine R_put (nx := 31) (kk := 6) rfl rfl rfl rfl rfl ?_
  refine R_lo (nx := 32) rfl rfl rfl rfl ?_
  refine R_op (nx := 33) rfl rfl rfl ?_
  refine R_get (nx := 36) (w := (0, ((mm_up (mm_up (mm_up (mm_up S 18 3 a) 18 4 x) 18 5 y) 18 6 (Xe K x y)) 18 0))) rfl rfl rfl rfl ?_
  rw [show ((mm_up (mm_up (mm_up (mm_up S 18 3 a) 18 4 x) 18 5 y) 18 6 (Xe K x y)) 18 0) = o from by (repeat rw [mm_uk (by decide)]); first | exact h0 | exact mm_ua]
  refine R_op (nx := 37) rfl rfl rfl ?_
  refine R_iadd (nx := 38) (z := (o + 1)) rfl rfl rfl ⟨by omega, by omega⟩ ?_
  refine R_put (nx := 41) (kk := 0) rfl rfl rfl rfl rfl ?_
  refine R_lo (nx := 42) rfl rfl rfl rfl ?_
  refine R_lo (nx := 43) rfl rfl rfl rfl ?_
  refine R_get (nx := 46) (w := (0, ((mm_up (mm_up (mm_up (mm_up (mm_up S 18 3 a) 18 4 x) 18 5 y) 18 6 (Xe K x y)) 18 0 (o + 1)) 18 2))) rfl rfl rfl rfl ?_
  rw [show ((mm_up (mm_up (mm_up (mm_up (mm_up S 18 3 a) 18 4 x) 18 5 y) 18 6 (Xe K x y)) 18 0 (o + 1)) 18 2) = m from by (repeat rw [mm_uk (by decide)]); first | exact h2 | exact mm_ua]
  refine R_lo (nx := 47) rfl rfl rfl rfl ?_
  refine R_get (nx := 50) (w := (0, ((mm_up (mm_up (mm_up (mm_up (mm_up S 18 3 a) 18 4 x) 18 5 y) 18 6 (Xe K x y)) 18 0 (o + 1)) 18 0))) rfl rfl rfl rfl ?_
  rw [show ((mm_up (mm_up (mm_up (mm_up (mm_up S 18 3 a) 18 4 x) 18 5 y) 18 6 (Xe K x y)) 18 0 (o + 1)) 18 0) = (o + 1) from by (repeat rw [mm_uk (by decide)]); first | exact h0 | exact mm_ua]
  refine R_lo (nx := 51) rfl rfl rfl rfl ?_
  refine R_get (nx := 54) (w := (0, ((mm_up (mm_up (mm_up (mm_up (mm_up S 18 3 a) 18 4 x) 18 5 y) 18 6 (Xe K x y)) 18 0 (o + 1)) 18 1))) rfl rfl rfl rfl ?_
  rw [show ((mm_up (mm_up (mm_up (mm_up (mm_up S 18 3 a) 18 4 x) 18 5 y) 18 6 (Xe K x y)) 18 0 (o + 1)) 18 1) = q from by (repeat rw [mm_uk (by decide)]); first | exact h1 | exact mm_ua]
  refine R_isub (nx := 55) (z := ((o + 1) - q)) rfl rfl rfl ⟨by omega, by omega⟩ ?_
  refine R_call1 (nx := 58) (as := [(0, m), (0, ((o + 1) - q))]) (rest := [(2, 18)]) rfl rfl (fun _ _ => rfl) rfl rfl rfl rfl rfl rfl rfl rfl (Cl.mono (c_Ma_max (mm_up (mm_up (mm_up (mm_up (mm_up S 18 3 a) 18 4 x) 18 5 y) 18 6 (Xe K x y)) 18 0 (o + 1)) m ((o + 1) - q)) ?_)
  rintro _ _ ⟨rfl, rfl⟩
  refine ⟨_, rfl, ?_⟩
  refine R_put (nx := 61) (kk := 2) rfl rfl rfl rfl rfl ?_
  have m61 : MC (mm_up (mm_up (mm_up (mm_up (mm_up (mm_up S 18 3 a) 18 4 x) 18 5 y) 18 6 (Xe K x y)) 18 0 (o + 1)) 18 2 (max m ((o + 1) - q))) a K := h.fr fun e p q => by rw [mm_unq (by omega), mm_unq (by omega), mm_unq (by omega), mm_unq (by omega), mm_unq (by omega), mm_unq (by omega)]
  refine R_lo (nx := 62) rfl rfl rfl rfl ?_
  refine R_lo (nx := 63) rfl rfl rfl rfl ?_
  refine R_get (nx := 66) (w := (0, ((mm_up (mm_up (mm_up (mm_up (mm_up (mm_up S 18 3 a) 18 4 x) 18 5 y) 18 6 (Xe K x y)) 18 0 (o + 1)) 18 2 (max m ((o + 1) - q))) 18 4))) rfl rfl rfl rfl ?_
  rw [show ((mm_up (mm_up (mm_up (mm_up (mm_up (mm_up S 18 3 a) 18 4 x) 18 5 y) 18 6 (Xe K x y)) 18 0 (o + 1)) 18 2 (max m ((o + 1) - q))) 18 4) = x from by (repeat rw [mm_uk (by decide)]); first | exact h0 | exact mm_ua]
  refine R_lo (nx := 67) rfl rfl rfl rfl ?_
  refine R_get (nx := 70) (w := (0, ((mm_up (mm_up (mm_up (mm_up (mm_up (mm_up S 18 3 a) 18 4 x) 18 5 y) 18 6 (Xe K x y)) 18 0 (o + 1)) 18 2 (max m ((o + 1) - q))) 18 5))) rfl rfl rfl rfl ?_
  rw [show ((mm_up (mm_up (mm_up (mm_up (mm_up (mm_up S 18 3 a) 18 4 x) 18 5 y) 18 6 (Xe K x y)) 18 0 (o + 1)) 18 2 (max m ((o + 1) - q))) 18 5) = y from by (repeat rw [mm_uk (by decide)]); first | exact h0 | exact mm_ua]
  refine R_lo (nx := 72) rfl rfl rfl rfl ?_
  refine R_call0 (nx := 75) (as := [(2, a), (0, x), (0, y), (0, v)]) (rest := []) rfl rfl (fun _ _ => rfl) rfl rfl rfl rfl rfl rfl (isC_rc hC _) rfl (Cl.mono (c_C_setEdge (mm_up (mm_up (mm_up (mm_up (mm_up (mm_up S 18 3 a) 18 4 x) 18 5 y) 18 6 (Xe K x y)) 18 0 (o + 1)) 18 2 (max m ((o + 1) - q))) a hC K (by first | assumption | exact MC.up (by assumption) (by omega) | exact MC.up (MC.up (by assumption) (by omega)) (by omega) | exact MC.up (MC.up (MC.up (by assumption) (by omega)) (by omega)) (by omega)) x y v) ?_)
  rintro _ S72 ⟨rfl, m72, f72⟩
  refine ⟨rfl, ?_⟩
  refine R_ret rfl (fun _ _ => rfl) rfl rfl ?_
  refine ⟨rfl, ?_, ?_, m72, fun b hb hn => ?_⟩
  · rw [f72 18 (by omega)]
    refine ⟨?_, ?_, ?_⟩ <;> (repeat rw [mm_uk (by decide)]) <;> first | exact mm_ua | exact h1
  · rw [f72 18 (by omega)]
    refine ⟨?_, ?_, ?_, ?_⟩ <;> (repeat rw [mm_uk (by decide)]) <;> exact mm_ua
  · rw [f72 b (by omega)]
    repeat rw [mm_unq hb]

set_option maxRecDepth 20000 in
set_option maxHeartbeats 4000000 in
theorem c_Tr_close (S : mm_S) (a : Int) (hC : mm_isC a) (K : CX) (h : MC S a K) (x y w q : Int) (h1 : S 18 1 = q) (h3 : S 18 3 = a) (h4 : S 18 4 = x) (h5 : S 18 5 = y) (h6 : S 18 6 = w) (hq : 0 ≤ q ∧ q ≤ 10000) : Cl 173 [(2, 18)] S (fun v S' => v = none ∧ (S' 18 0 = S 18 0 ∧ S' 18 1 = q + 1 ∧ S' 18 2 = S 18 2) ∧ MC S' a (Xset K x y w) ∧ ∀ b, b ≠ 18 → ¬ (a ≤ b ∧ b ≤ a + 4) → S' b = S b) := by
  refine ⟨Nat.le_of_ble_eq_true rfl, ?_⟩
  show Rn k_Tr_close 0 [(2, 18)] [] S _
  have h18 := isC_18 hC
  refine R_lo (nx := 1) rfl rfl rfl rfl ?_
  refine R_get (nx := 4) (w := (2, a)) rfl rfl rfl (congrArg (Prod.mk 2) h3) ?_
  refine R_ifnull (nx := 7) (tg := 41) rfl rfl rfl (fun h => absurd h (by have := (isC_kd hC).1; omega)) (fun h => ?_)
  refine R_lo (nx := 8) rfl rfl rfl rfl ?_
  refine R_get (nx := 11) (w := (2, a)) rfl rfl rfl (congrArg (Prod.mk 2) h3) ?_
  refine R_lo (nx := 12) rfl rfl rfl rfl ?_
  refine R_get (nx := 15) (w := (0, (S 18 4))) rfl rfl rfl rfl ?_
  rw [h4]
  refine R_lo (nx := 16) rfl rfl rfl rfl ?_
  refine R_get (nx := 19) (w := (0, (S 18 5))) rfl rfl rfl rfl ?_
  rw [h5]
  refine R_lo (nx := 20) rfl rfl rfl rfl ?_
  refine R_get (nx := 23) (w := (0, (S 18 6))) rfl rfl rfl rfl ?_
  rw [h6]
  refine R_call0 (nx := 26) (as := [(2, a), (0, x), (0, y), (0, w)]) (rest := []) rfl rfl (fun _ _ => rfl) rfl rfl rfl rfl rfl rfl (isC_rc hC _) rfl (Cl.mono (c_C_setEdge S a hC K (by first | assumption | exact MC.up (by assumption) (by omega) | exact MC.up (MC.up (by assumption) (by omega)) (by omega) | exact MC.up (MC.up (MC.up (by assumption) (by omega)) (by omega)) (by omega)) x y w) ?_)
  rintro _ S23 ⟨rfl, m23, f23⟩
  refine ⟨rfl, ?_⟩
  refine R_lo (nx := 27) rfl rfl rfl rfl ?_
  refine R_op (nx := 28) rfl rfl rfl ?_
  refine R_put (nx := 31) (kk := 3) rfl rfl rfl rfl rfl ?_
  refine R_lo (nx := 32) rfl rfl rfl rfl ?_
  refine R_op (nx := 33) rfl rfl rfl ?_
  refine R_get (nx := 36) (w := (0, ((mm_up S23 18 3 (-1)) 18 1))) rfl rfl rfl rfl ?_
  rw [show ((mm_up S23 18 3 (-1)) 18 1) = q from by rw [mm_uk (by decide), f23 18 (by omega)]; exact h1]
  refine R_op (nx := 37) rfl rfl rfl ?_
  refine R_iadd (nx := 38) (z := (q + 1)) rfl rfl rfl ⟨by omega, by omega⟩ ?_
  refine R_put (nx := 41) (kk := 1) rfl rfl rfl rfl rfl ?_
  refine R_ret rfl (fun _ _ => rfl) rfl rfl ?_
  refine ⟨rfl, ⟨?_, ?_, ?_⟩, (m23.up (by omega)).up (by omega), fun b hb hn => ?_⟩
  · rw [mm_uk (by decide), mm_uk (by decide), f23 18 (by omega)]
  · exact mm_ua
  · rw [mm_uk (by decide), mm_uk (by decide), f23 18 (by omega)]
  · rw [mm_unq hb, mm_unq hb, f23 b (by omega)]

set_option maxRecDepth 20000 in
set_option maxHeartbeats 4000000 in
theorem c_P_mend (S : mm_S) (A : mm_A) (hRC : RC S A) (hV : Vs A) (c : Int) : Cl 6 [(2, 0), (0, c)] S (fun vv S' => vv = some (0, (Q_mend A c).1) ∧ RC S' (Q_mend A c).2 ∧ ∀ b, 71 ≤ b → S' b = S b) := by
  refine ⟨Nat.le_of_ble_eq_true rfl, ?_⟩
  show Rn k_P_mend 0 [(2, 0), (0, c), (9, 0), (9, 0), (9, 0), (9, 0), (9, 0)] [] S _
  refine R_lo (nx := 1) rfl rfl rfl rfl ?_
  refine R_lo (nx := 2) rfl rfl rfl rfl ?_
  refine R_call1 (nx := 5) (as := [(2, 0), (0, c)]) (rest := []) rfl rfl (fun _ _ => rfl) rfl rfl rfl rfl rfl rfl rfl rfl (Cl.mono (c_P_complexAt S c) ?_)
  rintro _ _ (⟨rfl, b2, rfl⟩ | ⟨rfl, b2, rfl⟩)
  ·
    have kb2 := hRC.k b2.1 b2.2
    have vb2 := hV.1 c b2.1 b2.2
    have rb2 := vb2.2.1
    have nb2 := kb2.n
    have zb2 := kb2.nr
    refine ⟨_, rfl, ?_⟩
    refine R_lo (nx := 6) (ls' := [(2, 0), (0, c), (2, (23 + 10 * c)), (9, 0), (9, 0), (9, 0), (9, 0)]) rfl rfl rfl rfl ?_
    refine R_lo (nx := 7) rfl rfl rfl rfl ?_
    refine R_ifnonnull (nx := 10) (tg := 12) rfl rfl rfl (fun h => ?_) (fun h => absurd (by have := (isC_kd (isC_c (i := c) (by omega) (by omega))).1; omega) h)
    refine R_lo (nx := 13) rfl rfl rfl rfl ?_
    refine R_get (nx := 16) (w := (2, 18)) rfl rfl rfl rfl ?_
    refine R_call0 (nx := 19) (as := [(2, 18)]) (rest := []) rfl rfl (fun _ _ => rfl) rfl rfl rfl rfl rfl rfl rfl rfl (Cl.mono (c_Tr_startAnew S) ?_)
    rintro _ _ ⟨rfl, rfl⟩
    refine ⟨rfl, ?_⟩
    refine R_lo (nx := 20) rfl rfl rfl rfl ?_
    refine R_call1 (nx := 23) (as := [(2, (23 + 10 * c))]) (rest := []) rfl rfl (fun _ _ => rfl) rfl rfl rfl rfl rfl rfl (isC_rc (isC_c (i := c) (by omega) (by omega)) _) rfl (Cl.mono (c_C_firstBroken (mm_up (mm_up (mm_up S 18 0 0) 18 1 0) 18 2 0) (23 + 10 * c) (isC_c (i := c) (by omega) (by omega)) (AK A c) (by first | assumption | exact MC.up (by assumption) (by omega) | exact MC.up (MC.up (by assumption) (by omega)) (by omega) | exact MC.up (MC.up (MC.up (by assumption) (by omega)) (by omega)) (by omega)) (by assumption)) ?_)
    rintro _ _ ⟨rfl, rfl⟩
    refine ⟨_, rfl, ?_⟩
    refine R_lo (nx := 24) (ls' := [(2, 0), (0, c), (2, (23 + 10 * c)), (0, (Xfb (AK A c))), (9, 0), (9, 0), (9, 0)]) rfl rfl rfl rfl ?_
    refine R_op (nx := 25) rfl rfl rfl ?_
    refine R_lo (nx := 27) (ls' := [(2, 0), (0, c), (2, (23 + 10 * c)), (0, (Xfb (AK A c))), (0, 0), (9, 0), (9, 0)]) rfl rfl rfl rfl ?_
    have L27 : ∀ (f27 : Nat) (S1 : mm_S) (t : Int) (x : Int) (o : Int), ((Xn (AK A c)) - x).toNat < f27 → (0 ≤ x ∧ x ≤ (Xn (AK A c))) → (MC S1 (23 + 10 * c) (AK A c)) → (S1 18 0 = o ∧ S1 18 1 = o ∧ S1 18 2 = mo o) → (∀ b, b ≠ 18 → ¬ (23 + 10 * c ≤ b ∧ b ≤ 23 + 10 * c + 4) → S1 b = S b) → (0 ≤ t ∧ t ≤ 1000) → (0 ≤ o ∧ o ≤ 228 * x) → (t = 0 ↔ Xfb (AK A c) = 0) → (Xfb (AK A c) ≠ 0 → mq (AK A c) = chI (mfx (AK A c)) x (Xn (AK A c)) o) → (Xfb (AK A c) = 0 → o = 0) → Rn k_P_mend 27 [(2, 0), (0, c), (2, (23 + 10 * c)), (0, t), (0, x), (9, 0), (9, 0)] [] S1 (fun vv S' => vv = some (0, (Q_mend A c).1) ∧ RC S' (Q_mend A c).2 ∧ ∀ b, 71 ≤ b → S' b = S b) := by
      intro f27
      induction f27 with
      | zero => intro S1 t x o hm27; exact absurd hm27 (Nat.not_lt_zero _)
      | succ f27 ih27 =>
        intro S1 t x o hm27 hx hM h18 hF ht ho hz hH h0
        have n1 := hM.n
        refine R_lo (nx := 29) rfl rfl rfl rfl ?_
        refine R_lo (nx := 30) rfl rfl rfl rfl ?_
        refine R_get (nx := 33) (w := (0, (S1 (23 + 10 * c) 0))) rfl rfl (isC_ob (isC_c (i := c) (by omega) (by omega))) rfl ?_
        rw [n1]
        refine R_icmp (nx := 36) (tg := 142) rfl rfl rfl (mm_cnd_ge _ _) (fun c33 => ?_) (fun c33 => ?_)
        ·
          refine R_op (nx := 144) rfl rfl rfl ?_
          refine R_ret rfl (fun _ _ => rfl) rfl rfl ?_
          have em : mq (AK A c) = (-3, o) := by first | exact mend_end (by omega) hH h0 | (have q : Xfb (AK A c) = 0 := (by omega); rw [mq_0 q, h0 q])
          rw [show Q_mend A c = (-3, Atr A (o) (o) (mo (o))) from by unfold Q_mend; rw [if_pos b2, em]]
          exact ⟨rfl, hRC.try b2 hM h18 hF, fun b hb => hF b (by omega) (by omega)⟩
        ·
          refine R_lo (nx := 37) rfl rfl rfl rfl ?_
          refine R_if (nx := 40) (tg := 142) rfl rfl rfl (mm_cnd_eq _ _) (fun c37 => ?_) (fun c37 => ?_)
          ·
            refine R_op (nx := 144) rfl rfl rfl ?_
            refine R_ret rfl (fun _ _ => rfl) rfl rfl ?_
            have em : mq (AK A c) = (-3, o) := by first | exact mend_end (by omega) hH h0 | (have q : Xfb (AK A c) = 0 := (by omega); rw [mq_0 q, h0 q])
            rw [show Q_mend A c = (-3, Atr A (o) (o) (mo (o))) from by unfold Q_mend; rw [if_pos b2, em]]
            exact ⟨rfl, hRC.try b2 hM h18 hF, fun b hb => hF b (by omega) (by omega)⟩
          ·
            have hK : Xfb (AK A c) ≠ 0 := by omega
            refine R_op (nx := 41) rfl rfl rfl ?_
            refine R_lo (nx := 43) (ls' := [(2, 0), (0, c), (2, (23 + 10 * c)), (0, t), (0, x), (0, 0), (9, 0)]) rfl rfl rfl rfl ?_
            have L43 : ∀ (f43 : Nat) (S2 : mm_S) (t1 : Int) (y : Int) (o1 : Int), ((Xn (AK A c)) - y).toNat < f43 → (0 ≤ y ∧ y ≤ (Xn (AK A c))) → (MC S2 (23 + 10 * c) (AK A c)) → (S2 18 0 = o1 ∧ S2 18 1 = o1 ∧ S2 18 2 = mo o1) → (∀ b, b ≠ 18 → ¬ (23 + 10 * c ≤ b ∧ b ≤ 23 + 10 * c + 4) → S2 b = S b) → (0 ≤ t1 ∧ t1 ≤ 1000) → (0 ≤ o1 ∧ o1 ≤ 228 * x + 19 * y) → (t1 ≠ 0) → (mq (AK A c) = ck (chI (mfy (AK A c) x) y (Xn (AK A c)) o1) (chI (mfx (AK A c)) (x + 1) (Xn (AK A c)))) → Rn k_P_mend 43 [(2, 0), (0, c), (2, (23 + 10 * c)), (0, t1), (0, x), (0, y), (9, 0)] [] S2 (fun vv S' => vv = some (0, (Q_mend A c).1) ∧ RC S' (Q_mend A c).2 ∧ ∀ b, 71 ≤ b → S' b = S b) := by
              intro f43
              induction f43 with
              | zero => intro S2 t1 y o1 hm43; exact absurd hm43 (Nat.not_lt_zero _)
              | succ f43 ih43 =>
                intro S2 t1 y o1 hm43 hy gM g18 gF gt go gz gH
                have n2 := gM.n
                refine R_lo (nx := 45) rfl rfl rfl rfl ?_
                refine R_lo (nx := 46) rfl rfl rfl rfl ?_
                refine R_get (nx := 49) (w := (0, (S2 (23 + 10 * c) 0))) rfl rfl (isC_ob (isC_c (i := c) (by omega) (by omega))) rfl ?_
                rw [n2]
                refine R_icmp (nx := 52) (tg := 136) rfl rfl rfl (mm_cnd_ge _ _) (fun c49 => ?_) (fun c49 => ?_)
                ·
                  refine R_iinc (nx := 139) (z := (x + 1)) (ls' := [(2, 0), (0, c), (2, (23 + 10 * c)), (0, t1), (0, (x + 1)), (0, y), (9, 0)]) rfl rfl rfl rfl ⟨by omega, by omega⟩ rfl ?_
                  refine R_op (nx := 142) (pc' := 27) rfl rfl rfl ?_
                  refine Rn.weak (ls' := [(2, 0), (0, c), (2, (23 + 10 * c)), (0, t1), (0, (x + 1)), (9, 0), (9, 0)]) ⟨Or.inl rfl, ⟨Or.inl rfl, ⟨Or.inl rfl, ⟨Or.inl rfl, ⟨Or.inl rfl, ⟨Or.inr rfl, ⟨Or.inl rfl, trivial⟩⟩⟩⟩⟩⟩⟩ ?_
                  refine ih27 (S2) (t1) ((x + 1)) (o1) ?_ ?_ ?_ ?_ ?_ ?_ ?_ ?_ ?_ ?_
                  · omega
                  · omega
                  · exact gM
                  · exact g18
                  · exact gF
                  · omega
                  · omega
                  · omega
                  · intro q; rw [gH, chI_e (by omega), ck_n]
                  · intro q; exact absurd q hK
                ·
                  refine R_op (nx := 54) rfl rfl rfl ?_
                  refine R_lo (nx := 56) (ls' := [(2, 0), (0, c), (2, (23 + 10 * c)), (0, t1), (0, x), (0, y), (0, (-9))]) rfl rfl rfl rfl ?_
                  have L56 : ∀ (f56 : Nat) (S3 : mm_S) (t2 : Int) (v : Int) (o2 : Int), ((10 : Int) - v).toNat < f56 → (-9 ≤ v ∧ v ≤ 10) → (MC S3 (23 + 10 * c) (AK A c)) → (S3 18 0 = o2 ∧ S3 18 1 = o2 ∧ S3 18 2 = mo o2) → (∀ b, b ≠ 18 → ¬ (23 + 10 * c ≤ b ∧ b ≤ 23 + 10 * c + 4) → S3 b = S b) → (0 ≤ t2 ∧ t2 ≤ 1000) → (0 ≤ o2 ∧ o2 ≤ 228 * x + 19 * y + v + 9) → (t2 ≠ 0) → (mq (AK A c) = ck (ck (mw (AK A c) x y v o2) (chI (mfy (AK A c) x) (y + 1) (Xn (AK A c)))) (chI (mfx (AK A c)) (x + 1) (Xn (AK A c)))) → Rn k_P_mend 56 [(2, 0), (0, c), (2, (23 + 10 * c)), (0, t2), (0, x), (0, y), (0, v)] [] S3 (fun vv S' => vv = some (0, (Q_mend A c).1) ∧ RC S' (Q_mend A c).2 ∧ ∀ b, 71 ≤ b → S' b = S b) := by
                    intro f56
                    induction f56 with
                    | zero => intro S3 t2 v o2 hm56; exact absurd hm56 (Nat.not_lt_zero _)
                    | succ f56 ih56 =>
                      intro S3 t2 v o2 hm56 hv jM j18 jF jt jo jz jH
                      refine R_lo (nx := 58) rfl rfl rfl rfl ?_
                      refine R_op (nx := 60) rfl rfl rfl ?_
                      refine R_icmp (nx := 63) (tg := 130) rfl rfl rfl (mm_cnd_gt _ _) (fun c60 => ?_) (fun c60 => ?_)
                      ·
                        refine R_iinc (nx := 133) (z := (y + 1)) (ls' := [(2, 0), (0, c), (2, (23 + 10 * c)), (0, t2), (0, x), (0, (y + 1)), (0, v)]) rfl rfl rfl rfl ⟨by omega, by omega⟩ rfl ?_
                        refine R_op (nx := 136) (pc' := 43) rfl rfl rfl ?_
                        refine Rn.weak (ls' := [(2, 0), (0, c), (2, (23 + 10 * c)), (0, t2), (0, x), (0, (y + 1)), (9, 0)]) ⟨Or.inl rfl, ⟨Or.inl rfl, ⟨Or.inl rfl, ⟨Or.inl rfl, ⟨Or.inl rfl, ⟨Or.inl rfl, ⟨Or.inr rfl, trivial⟩⟩⟩⟩⟩⟩⟩ ?_
                        refine ih43 (S3) (t2) ((y + 1)) (o2) ?_ ?_ ?_ ?_ ?_ ?_ ?_ ?_ ?_
                        · omega
                        · omega
                        · exact jM
                        · exact j18
                        · exact jF
                        · omega
                        · omega
                        · omega
                        · rw [jH, mw_n (by first | exact Or.inr b68 | (left; omega)), ck_n]
                      ·
                        refine R_lo (nx := 64) rfl rfl rfl rfl ?_
                        refine R_lo (nx := 66) rfl rfl rfl rfl ?_
                        refine R_lo (nx := 68) rfl rfl rfl rfl ?_
                        refine R_call1 (nx := 71) (as := [(2, (23 + 10 * c)), (0, x), (0, y)]) (rest := []) rfl rfl (fun _ _ => rfl) rfl rfl rfl rfl rfl rfl (isC_rc (isC_c (i := c) (by omega) (by omega)) _) rfl (Cl.mono (c_C_mayHave S3 (23 + 10 * c) (isC_c (i := c) (by omega) (by omega)) (AK A c) (by first | assumption | exact MC.up (by assumption) (by omega) | exact MC.up (MC.up (by assumption) (by omega)) (by omega) | exact MC.up (MC.up (MC.up (by assumption) (by omega)) (by omega)) (by omega)) (by assumption) x y) ?_)
                        rintro _ _ (⟨rfl, b68, rfl⟩ | ⟨rfl, b68, rfl⟩)
                        ·
                          have vs := Xset_Vx vb2 (v := v) (by omega) (Or.inr b68)
                          refine ⟨_, rfl, ?_⟩
                          refine R_ifF (nx := 74) rfl rfl rfl ?_
                          refine R_lo (nx := 75) rfl rfl rfl rfl ?_
                          refine R_get (nx := 78) (w := (2, 18)) rfl rfl rfl rfl ?_
                          refine R_lo (nx := 79) rfl rfl rfl rfl ?_
                          refine R_lo (nx := 81) rfl rfl rfl rfl ?_
                          refine R_lo (nx := 83) rfl rfl rfl rfl ?_
                          refine R_lo (nx := 85) rfl rfl rfl rfl ?_
                          refine R_call0 (nx := 88) (as := [(2, 18), (2, (23 + 10 * c)), (0, x), (0, y), (0, v)]) (rest := []) rfl rfl (fun _ _ => rfl) rfl rfl rfl rfl rfl rfl rfl rfl (Cl.mono (c_Tr_open S3 (23 + 10 * c) (isC_c (i := c) (by omega) (by omega)) (AK A c) (by first | assumption | exact MC.up (by assumption) (by omega) | exact MC.up (MC.up (by assumption) (by omega)) (by omega) | exact MC.up (MC.up (MC.up (by assumption) (by omega)) (by omega)) (by omega)) x y v o2 o2 (mo o2) j18.1 j18.2.1 j18.2.2 (by omega) (by omega)) ?_)
                          rintro _ S85 ⟨rfl, p85, q85, m85, f85⟩
                          have e85 : S85 18 2 = 1 := by rw [p85.2.2]; unfold mo; split <;> omega
                          have e18 : mo (o2 + 1) = 1 := if_neg (by omega)
                          refine ⟨rfl, ?_⟩
                          refine R_lo (nx := 89) rfl rfl rfl rfl ?_
                          refine R_lo (nx := 90) rfl rfl rfl rfl ?_
                          refine R_call1 (nx := 93) (as := [(2, (23 + 10 * c)), (0, t2)]) (rest := []) rfl rfl (fun _ _ => rfl) rfl rfl rfl rfl rfl rfl (isC_rc (isC_c (i := c) (by omega) (by omega)) _) rfl (Cl.mono (c_C_stillBroken S85 (23 + 10 * c) (isC_c (i := c) (by omega) (by omega)) (Xset (AK A c) x y v) (by first | assumption | exact MC.up (by assumption) (by omega) | exact MC.up (MC.up (by assumption) (by omega)) (by omega) | exact MC.up (MC.up (MC.up (by assumption) (by omega)) (by omega)) (by omega)) (by assumption) t2 (by omega)) ?_)
                          rintro _ _ ⟨r90, rfl, rfl, hrr90, hzr90⟩
                          refine ⟨_, rfl, ?_⟩
                          refine R_lo (nx := 94) (ls' := [(2, 0), (0, c), (2, (23 + 10 * c)), (0, r90), (0, x), (0, y), (0, v)]) rfl rfl rfl rfl ?_
                          refine R_lo (nx := 95) rfl rfl rfl rfl ?_
                          refine R_get (nx := 98) (w := (2, 18)) rfl rfl rfl rfl ?_
                          refine R_call0 (nx := 101) (as := [(2, 18)]) (rest := []) rfl rfl (fun _ _ => rfl) rfl rfl rfl rfl rfl rfl rfl rfl (Cl.mono (c_Tr_close S85 (23 + 10 * c) (isC_c (i := c) (by omega) (by omega)) (Xset (AK A c) x y v) m85 x y (Xe (AK A c) x y) o2 p85.2.1 q85.1 q85.2.1 q85.2.2.1 q85.2.2.2 (by omega)) ?_)
                          rintro _ S98 ⟨rfl, p98, m98, f98⟩
                          refine ⟨rfl, ?_⟩
                          refine R_lo (nx := 102) rfl rfl rfl rfl ?_
                          refine R_if (nx := 105) (tg := 124) rfl rfl rfl (mm_cnd_ne _ _) (fun c102 => ?_) (fun c102 => ?_)
                          ·
                            refine R_iinc (nx := 127) (z := (v + 1)) (ls' := [(2, 0), (0, c), (2, (23 + 10 * c)), (0, r90), (0, x), (0, y), (0, (v + 1))]) rfl rfl rfl rfl ⟨by omega, by omega⟩ rfl ?_
                            refine R_op (nx := 130) (pc' := 56) rfl rfl rfl ?_
                            refine Rn.weak (ls' := [(2, 0), (0, c), (2, (23 + 10 * c)), (0, r90), (0, x), (0, y), (0, (v + 1))]) ⟨Or.inl rfl, ⟨Or.inl rfl, ⟨Or.inl rfl, ⟨Or.inl rfl, ⟨Or.inl rfl, ⟨Or.inl rfl, ⟨Or.inl rfl, trivial⟩⟩⟩⟩⟩⟩⟩ ?_
                            refine ih56 (S98) (r90) ((v + 1)) (o2 + 1) ?_ ?_ ?_ ?_ ?_ ?_ ?_ ?_ ?_
                            · omega
                            · omega
                            · rw [← Xset_back (AK A c) x y v]; exact m98
                            · rw [e18]; exact ⟨p98.1.trans p85.1, p98.2.1, p98.2.2.trans e85⟩
                            · intro b hb hn; rw [f98 b hb hn, f85 b hb hn]; exact jF b hb hn
                            · omega
                            · omega
                            · omega
                            · rw [jH, mw_s (by omega) b68 (by omega)]
                          ·
                            replace c102 := Classical.not_not.mp c102
                            refine R_op (nx := 108) rfl rfl rfl ?_
                            refine R_lo (nx := 110) rfl rfl rfl rfl ?_
                            refine R_imul (nx := 111) (z := (400 * x)) rfl rfl rfl ⟨by omega, by omega⟩ ?_
                            refine R_op (nx := 113) rfl rfl rfl ?_
                            refine R_lo (nx := 115) rfl rfl rfl rfl ?_
                            refine R_imul (nx := 116) (z := (20 * y)) rfl rfl rfl ⟨by omega, by omega⟩ ?_
                            refine R_iadd (nx := 117) (z := ((400 * x) + (20 * y))) rfl rfl rfl ⟨by omega, by omega⟩ ?_
                            refine R_op (nx := 119) rfl rfl rfl ?_
                            refine R_iadd (nx := 120) (z := (((400 * x) + (20 * y)) + 9)) rfl rfl rfl ⟨by omega, by omega⟩ ?_
                            refine R_lo (nx := 122) rfl rfl rfl rfl ?_
                            refine R_iadd (nx := 123) (z := ((((400 * x) + (20 * y)) + 9) + v)) rfl rfl rfl ⟨by omega, by omega⟩ ?_
                            refine R_ret rfl (fun _ _ => rfl) rfl rfl ?_
                            have em : mq (AK A c) = (400 * x + 20 * y + 9 + v, o2 + 1) := mend_hit (by omega) (by omega) b68 (by omega) jH
                            rw [show Q_mend A c = (400 * x + 20 * y + 9 + v, Atr A (o2 + 1) (o2 + 1) (mo (o2 + 1))) from by unfold Q_mend; rw [if_pos b2, em]]
                            exact ⟨rfl, hRC.try b2 (by rw [← Xset_back (AK A c) x y v]; exact m98) (by rw [e18]; exact ⟨p98.1.trans p85.1, p98.2.1, p98.2.2.trans e85⟩) (fun b hb hn => by rw [f98 b hb hn, f85 b hb hn]; exact jF b hb hn), fun b hb => by rw [f98 b (by omega) (by omega), f85 b (by omega) (by omega)]; exact jF b (by omega) (by omega)⟩
                        ·
                          refine ⟨_, rfl, ?_⟩
                          refine R_ifT (tg := 130) rfl rfl rfl ?_
                          refine R_iinc (nx := 133) (z := (y + 1)) (ls' := [(2, 0), (0, c), (2, (23 + 10 * c)), (0, t2), (0, x), (0, (y + 1)), (0, v)]) rfl rfl rfl rfl ⟨by omega, by omega⟩ rfl ?_
                          refine R_op (nx := 136) (pc' := 43) rfl rfl rfl ?_
                          refine Rn.weak (ls' := [(2, 0), (0, c), (2, (23 + 10 * c)), (0, t2), (0, x), (0, (y + 1)), (9, 0)]) ⟨Or.inl rfl, ⟨Or.inl rfl, ⟨Or.inl rfl, ⟨Or.inl rfl, ⟨Or.inl rfl, ⟨Or.inl rfl, ⟨Or.inr rfl, trivial⟩⟩⟩⟩⟩⟩⟩ ?_
                          refine ih43 (S3) (t2) ((y + 1)) (o2) ?_ ?_ ?_ ?_ ?_ ?_ ?_ ?_ ?_
                          · omega
                          · omega
                          · exact jM
                          · exact j18
                          · exact jF
                          · omega
                          · omega
                          · omega
                          · rw [jH, mw_n (by first | exact Or.inr b68 | (left; omega)), ck_n]
                  refine Rn.weak (ls' := [(2, 0), (0, c), (2, (23 + 10 * c)), (0, t1), (0, x), (0, y), (0, (-9))]) ⟨Or.inl rfl, ⟨Or.inl rfl, ⟨Or.inl rfl, ⟨Or.inl rfl, ⟨Or.inl rfl, ⟨Or.inl rfl, ⟨Or.inl rfl, trivial⟩⟩⟩⟩⟩⟩⟩ ?_
                  refine L56 (((10 : Int) - ((-9))).toNat + 1) (S2) (t1) ((-9)) (o1) (Nat.lt_succ_self _) ?_ ?_ ?_ ?_ ?_ ?_ ?_ ?_
                  · omega
                  · exact gM
                  · exact g18
                  · exact gF
                  · omega
                  · omega
                  · omega
                  · rw [gH, chI_c (by omega)]; rfl
            refine Rn.weak (ls' := [(2, 0), (0, c), (2, (23 + 10 * c)), (0, t), (0, x), (0, 0), (9, 0)]) ⟨Or.inl rfl, ⟨Or.inl rfl, ⟨Or.inl rfl, ⟨Or.inl rfl, ⟨Or.inl rfl, ⟨Or.inl rfl, ⟨Or.inl rfl, trivial⟩⟩⟩⟩⟩⟩⟩ ?_
            refine L43 (((Xn (AK A c)) - (0)).toNat + 1) (S1) (t) (0) (o) (Nat.lt_succ_self _) ?_ ?_ ?_ ?_ ?_ ?_ ?_ ?_
            · omega
            · exact hM
            · exact h18
            · exact hF
            · omega
            · omega
            · omega
            · rw [hH hK, chI_c (by omega)]; rfl
    refine Rn.weak (ls' := [(2, 0), (0, c), (2, (23 + 10 * c)), (0, (Xfb (AK A c))), (0, 0), (9, 0), (9, 0)]) ⟨Or.inl rfl, ⟨Or.inl rfl, ⟨Or.inl rfl, ⟨Or.inl rfl, ⟨Or.inl rfl, ⟨Or.inl rfl, ⟨Or.inl rfl, trivial⟩⟩⟩⟩⟩⟩⟩ ?_
    refine L27 (((Xn (AK A c)) - (0)).toNat + 1) ((mm_up (mm_up (mm_up S 18 0 0) 18 1 0) 18 2 0)) ((Xfb (AK A c))) (0) (0) (Nat.lt_succ_self _) ?_ ?_ ?_ ?_ ?_ ?_ ?_ ?_ ?_
    · omega
    · exact ((kb2.up (by omega)).up (by omega)).up (by omega)
    · refine ⟨?_, ?_, ?_⟩ <;> (repeat rw [mm_uk (by decide)]) <;> exact mm_ua
    · intro b hb hn; rw [mm_unq hb, mm_unq hb, mm_unq hb]
    · have := Xfb_r vb2.1; omega
    · omega
    · exact Iff.rfl
    · exact mq_1
    · intro q; rfl
  ·
    refine ⟨_, rfl, ?_⟩
    refine R_lo (nx := 6) (ls' := [(2, 0), (0, c), (2, (-1)), (9, 0), (9, 0), (9, 0), (9, 0)]) rfl rfl rfl rfl ?_
    refine R_lo (nx := 7) rfl rfl rfl rfl ?_
    refine R_ifnonnull (nx := 10) (tg := 12) rfl rfl rfl (fun h => absurd h (by decide)) (fun h => ?_)
    refine R_op (nx := 11) rfl rfl rfl ?_
    refine R_ret rfl (fun _ _ => rfl) rfl rfl ?_
    rw [show Q_mend A c = ((-1), A) from by simp only [Q_mend, b2, ifo, ifm, ifp, iffq, ↓reduceIte, ite_self, and_self, and_true, true_and, and_false, false_and, or_true, true_or, or_false, false_or, or_self, not_true_eq_false, not_false_eq_true, ne_eq]]; exact ⟨rfl, hRC, fun b _ => rfl⟩

theorem Oth.u71 {S S1 : mm_S} {c : Int} (h : Oth S S1 c) (k v : Int) : Oth S (mm_up S1 71 k v) c := fun c' K' p q r t => (h c' K' p q r t).up (by omega)

set_option maxRecDepth 20000 in
set_option maxHeartbeats 4000000 in
theorem c_M_mends (S : mm_S) (c : Int) (hc : 0 ≤ c ∧ c < 5) (K : CX) (h : MR S c K) (hV : Vx K) (x y v o q : Int) (hm : Xmay K x y) (hv : -9 ≤ v ∧ v ≤ 9) (h9 : S 71 9 = o) (h10 : S 71 10 = q) (ho : 0 ≤ o ∧ o ≤ 10000) (hq : 0 ≤ q ∧ q ≤ 10000) : Cl 65 [(2, 71), (0, c), (0, x), (0, y), (0, v)] S (fun w S' => (w = some (0, 1) ∧ Xfb (Xset K x y v) = 0 ∧ MR S' c K ∧ Oth S S' c ∧ (S' 71 9 = o + 1 ∧ S' 71 10 = q + 1 ∧ S' 71 11 = 1) ∧ (∀ k, k ≠ 9 → k ≠ 10 → k ≠ 11 → S' 71 k = S 71 k) ∧ ∀ b, b ≠ 71 → b ≠ 75 → S' b = S b) ∨ (w = some (0, 0) ∧ Xfb (Xset K x y v) ≠ 0 ∧ MR S' c K ∧ Oth S S' c ∧ (S' 71 9 = o + 1 ∧ S' 71 10 = q + 1 ∧ S' 71 11 = 1) ∧ (∀ k, k ≠ 9 → k ≠ 10 → k ≠ 11 → S' 71 k = S 71 k) ∧ ∀ b, b ≠ 71 → b ≠ 75 → S' b = S b)) := by
  refine ⟨Nat.le_of_ble_eq_true rfl, ?_⟩
  show Rn k_M_mends 0 [(2, 71), (0, c), (0, x), (0, y), (0, v), (9, 0), (9, 0)] [] S _
  have hnr := h.1.nr
  have hx := hm.1
  have hy := hm.2.1
  have vs := Xset_Vx hV hv (Or.inr hm)
  have rs := vs.2.1
  refine R_lo (nx := 1) rfl rfl rfl rfl ?_
  refine R_op (nx := 2) rfl rfl rfl ?_
  refine R_get (nx := 5) (w := (0, (S 71 9))) rfl rfl rfl rfl ?_
  rw [h9]
  refine R_op (nx := 6) rfl rfl rfl ?_
  refine R_iadd (nx := 7) (z := (o + 1)) rfl rfl rfl ⟨by omega, by omega⟩ ?_
  refine R_put (nx := 10) (kk := 9) rfl rfl rfl rfl rfl ?_
  refine R_lo (nx := 11) rfl rfl rfl rfl ?_
  refine R_op (nx := 12) rfl rfl rfl ?_
  refine R_put (nx := 15) (kk := 11) rfl rfl rfl rfl rfl ?_
  refine R_lo (nx := 16) rfl rfl rfl rfl ?_
  refine R_lo (nx := 17) rfl rfl rfl rfl ?_
  refine R_lo (nx := 18) rfl rfl rfl rfl ?_
  refine R_lo (nx := 19) rfl rfl rfl rfl ?_
  refine R_call1 (nx := 22) (as := [(2, 71), (0, c), (0, x), (0, y)]) (rest := []) rfl rfl (fun _ _ => rfl) rfl rfl rfl rfl rfl rfl rfl rfl (Cl.mono (c_M_edge (mm_up (mm_up S 71 9 (o + 1)) 71 11 1) c (by omega) K (show MRr (mm_up (mm_up S 71 9 (o + 1)) 71 11 1) c K by first | assumption | exact MR.r (by assumption) | exact MRr.up (by assumption) (by omega) | exact MRr.up (MR.r (by assumption)) (by omega) | exact MRr.up (MRr.up (MR.r (by assumption)) (by omega)) (by omega)) x y (by omega) (by omega)) ?_)
  rintro _ _ ⟨rfl, rfl⟩
  refine ⟨_, rfl, ?_⟩
  refine R_lo (nx := 24) (ls' := [(2, 71), (0, c), (0, x), (0, y), (0, v), (0, (Xe K x y)), (9, 0)]) rfl rfl rfl rfl ?_
  refine R_lo (nx := 25) rfl rfl rfl rfl ?_
  refine R_get (nx := 28) (w := (2, 75)) rfl rfl rfl rfl ?_
  refine R_op (nx := 31) rfl rfl rfl ?_
  refine R_lo (nx := 32) rfl rfl rfl rfl ?_
  refine R_imul (nx := 33) (z := (144 * c)) rfl rfl rfl ⟨by omega, by omega⟩ ?_
  refine R_op (nx := 35) rfl rfl rfl ?_
  refine R_lo (nx := 36) rfl rfl rfl rfl ?_
  refine R_imul (nx := 37) (z := (12 * x)) rfl rfl rfl ⟨by omega, by omega⟩ ?_
  refine R_iadd (nx := 38) (z := ((144 * c) + (12 * x))) rfl rfl rfl ⟨by omega, by omega⟩ ?_
  refine R_lo (nx := 39) rfl rfl rfl rfl ?_
  refine R_iadd (nx := 40) (z := (((144 * c) + (12 * x)) + y)) rfl rfl rfl ⟨by omega, by omega⟩ ?_
  refine R_lo (nx := 42) rfl rfl rfl rfl ?_
  refine R_iast (nx := 43) rfl rfl (mm_el_ok 1 720 (by decide) rfl (by decide) (by omega) (by omega)) ?_
  have m43 : MR (mm_up (mm_up (mm_up S 71 9 (o + 1)) 71 11 1) 75 (((144 * c) + (12 * x)) + y) v) c (Xset K x y v) := ((h.up (by omega)).up (by omega)).set hx hy
  refine R_lo (nx := 44) rfl rfl rfl rfl ?_
  refine R_lo (nx := 45) rfl rfl rfl rfl ?_
  refine R_call1 (nx := 48) (as := [(2, 71), (0, c)]) (rest := []) rfl rfl (fun _ _ => rfl) rfl rfl rfl rfl rfl rfl rfl rfl (Cl.mono (c_M_brokenAt (mm_up (mm_up (mm_up S 71 9 (o + 1)) 71 11 1) 75 (((144 * c) + (12 * x)) + y) v) c (by omega) (Xset K x y v) (show MR (mm_up (mm_up (mm_up S 71 9 (o + 1)) 71 11 1) 75 (((144 * c) + (12 * x)) + y) v) c (Xset K x y v) by first | assumption | exact MR.up (by assumption) (by omega) | exact MR.up (MR.up (by assumption) (by omega)) (by omega) | exact MR.up (MR.up (MR.up (by assumption) (by omega)) (by omega)) (by omega)) (by assumption)) ?_)
  rintro _ _ ⟨rfl, rfl⟩
  refine ⟨_, rfl, ?_⟩
  refine R_if (nx := 51) (tg := 55) rfl rfl rfl (mm_cnd_ne _ _) (fun c48 => ?_) (fun c48 => ?_)
  ·
    refine R_op (nx := 56) rfl rfl rfl ?_
    refine R_lo (nx := 58) (ls' := [(2, 71), (0, c), (0, x), (0, y), (0, v), (0, (Xe K x y)), (0, 0)]) rfl rfl rfl rfl ?_
    refine R_lo (nx := 59) rfl rfl rfl rfl ?_
    refine R_get (nx := 62) (w := (2, 75)) rfl rfl rfl rfl ?_
    refine R_op (nx := 65) rfl rfl rfl ?_
    refine R_lo (nx := 66) rfl rfl rfl rfl ?_
    refine R_imul (nx := 67) (z := (144 * c)) rfl rfl rfl ⟨by omega, by omega⟩ ?_
    refine R_op (nx := 69) rfl rfl rfl ?_
    refine R_lo (nx := 70) rfl rfl rfl rfl ?_
    refine R_imul (nx := 71) (z := (12 * x)) rfl rfl rfl ⟨by omega, by omega⟩ ?_
    refine R_iadd (nx := 72) (z := ((144 * c) + (12 * x))) rfl rfl rfl ⟨by omega, by omega⟩ ?_
    refine R_lo (nx := 73) rfl rfl rfl rfl ?_
    refine R_iadd (nx := 74) (z := (((144 * c) + (12 * x)) + y)) rfl rfl rfl ⟨by omega, by omega⟩ ?_
    refine R_lo (nx := 76) rfl rfl rfl rfl ?_
    refine R_iast (nx := 77) rfl rfl (mm_el_ok 1 720 (by decide) rfl (by decide) (by omega) (by omega)) ?_
    refine R_lo (nx := 78) rfl rfl rfl rfl ?_
    refine R_op (nx := 79) rfl rfl rfl ?_
    refine R_get (nx := 82) (w := (0, ((mm_up (mm_up (mm_up (mm_up S 71 9 (o + 1)) 71 11 1) 75 (((144 * c) + (12 * x)) + y) v) 75 (((144 * c) + (12 * x)) + y) (Xe K x y)) 71 10))) rfl rfl rfl rfl ?_
    rw [show ((mm_up (mm_up (mm_up (mm_up S 71 9 (o + 1)) 71 11 1) 75 (((144 * c) + (12 * x)) + y) v) 75 (((144 * c) + (12 * x)) + y) (Xe K x y)) 71 10) = q from by rw [mm_unq (by decide), mm_unq (by decide), mm_uk (by decide), mm_uk (by decide)]; exact h10]
    refine R_op (nx := 83) rfl rfl rfl ?_
    refine R_iadd (nx := 84) (z := (q + 1)) rfl rfl rfl ⟨by omega, by omega⟩ ?_
    refine R_put (nx := 87) (kk := 10) rfl rfl rfl rfl rfl ?_
    refine R_lo (nx := 89) rfl rfl rfl rfl ?_
    refine R_ret rfl (fun _ _ => rfl) rfl rfl ?_
    have hO : Oth S _ c := ((((Oth.rf S c).u71 9 (o + 1)).u71 11 1).u75 v (k := 144 * c + 12 * x + y) (by omega)).u75 (Xe K x y) (k := 144 * c + 12 * x + y) (by omega)
    first | refine Or.inl ⟨rfl, c48, ?_⟩ | refine Or.inr ⟨rfl, c48, ?_⟩
    refine ⟨?_, hO.u71 10 (q + 1), ⟨?_, mm_ua, ?_⟩, fun k k1 k2 k3 => ?_, fun b b1 b2 => ?_⟩
    · have := (m43.set (v := Xe K x y) hx hy).up (b := 71) (k := 10) (v := q + 1) (by omega)
      rw [Xset_back] at this
      exact this
    · rw [mm_uk (by decide), mm_unq (by decide), mm_unq (by decide), mm_uk (by decide)]; exact mm_ua
    · rw [mm_uk (by decide), mm_unq (by decide), mm_unq (by decide)]; exact mm_ua
    · rw [mm_uk k2, mm_unq (by decide), mm_unq (by decide), mm_uk k3, mm_uk k1]
    · rw [mm_unq b1, mm_unq b2, mm_unq b2, mm_unq b1, mm_unq b1]
  ·
    replace c48 := Classical.not_not.mp c48
    refine R_op (nx := 52) rfl rfl rfl ?_
    refine R_op (nx := 55) (pc' := 56) rfl rfl rfl ?_
    refine R_lo (nx := 58) (ls' := [(2, 71), (0, c), (0, x), (0, y), (0, v), (0, (Xe K x y)), (0, 1)]) rfl rfl rfl rfl ?_
    refine R_lo (nx := 59) rfl rfl rfl rfl ?_
    refine R_get (nx := 62) (w := (2, 75)) rfl rfl rfl rfl ?_
    refine R_op (nx := 65) rfl rfl rfl ?_
    refine R_lo (nx := 66) rfl rfl rfl rfl ?_
    refine R_imul (nx := 67) (z := (144 * c)) rfl rfl rfl ⟨by omega, by omega⟩ ?_
    refine R_op (nx := 69) rfl rfl rfl ?_
    refine R_lo (nx := 70) rfl rfl rfl rfl ?_
    refine R_imul (nx := 71) (z := (12 * x)) rfl rfl rfl ⟨by omega, by omega⟩ ?_
    refine R_iadd (nx := 72) (z := ((144 * c) + (12 * x))) rfl rfl rfl ⟨by omega, by omega⟩ ?_
    refine R_lo (nx := 73) rfl rfl rfl rfl ?_
    refine R_iadd (nx := 74) (z := (((144 * c) + (12 * x)) + y)) rfl rfl rfl ⟨by omega, by omega⟩ ?_
    refine R_lo (nx := 76) rfl rfl rfl rfl ?_
    refine R_iast (nx := 77) rfl rfl (mm_el_ok 1 720 (by decide) rfl (by decide) (by omega) (by omega)) ?_
    refine R_lo (nx := 78) rfl rfl rfl rfl ?_
    refine R_op (nx := 79) rfl rfl rfl ?_
    refine R_get (nx := 82) (w := (0, ((mm_up (mm_up (mm_up (mm_up S 71 9 (o + 1)) 71 11 1) 75 (((144 * c) + (12 * x)) + y) v) 75 (((144 * c) + (12 * x)) + y) (Xe K x y)) 71 10))) rfl rfl rfl rfl ?_
    rw [show ((mm_up (mm_up (mm_up (mm_up S 71 9 (o + 1)) 71 11 1) 75 (((144 * c) + (12 * x)) + y) v) 75 (((144 * c) + (12 * x)) + y) (Xe K x y)) 71 10) = q from by rw [mm_unq (by decide), mm_unq (by decide), mm_uk (by decide), mm_uk (by decide)]; exact h10]
    refine R_op (nx := 83) rfl rfl rfl ?_
    refine R_iadd (nx := 84) (z := (q + 1)) rfl rfl rfl ⟨by omega, by omega⟩ ?_
    refine R_put (nx := 87) (kk := 10) rfl rfl rfl rfl rfl ?_
    refine R_lo (nx := 89) rfl rfl rfl rfl ?_
    refine R_ret rfl (fun _ _ => rfl) rfl rfl ?_
    have hO : Oth S _ c := ((((Oth.rf S c).u71 9 (o + 1)).u71 11 1).u75 v (k := 144 * c + 12 * x + y) (by omega)).u75 (Xe K x y) (k := 144 * c + 12 * x + y) (by omega)
    first | refine Or.inl ⟨rfl, c48, ?_⟩ | refine Or.inr ⟨rfl, c48, ?_⟩
    refine ⟨?_, hO.u71 10 (q + 1), ⟨?_, mm_ua, ?_⟩, fun k k1 k2 k3 => ?_, fun b b1 b2 => ?_⟩
    · have := (m43.set (v := Xe K x y) hx hy).up (b := 71) (k := 10) (v := q + 1) (by omega)
      rw [Xset_back] at this
      exact this
    · rw [mm_uk (by decide), mm_unq (by decide), mm_unq (by decide), mm_uk (by decide)]; exact mm_ua
    · rw [mm_uk (by decide), mm_unq (by decide), mm_unq (by decide)]; exact mm_ua
    · rw [mm_uk k2, mm_unq (by decide), mm_unq (by decide), mm_uk k3, mm_uk k1]
    · rw [mm_unq b1, mm_unq b2, mm_unq b2, mm_unq b1, mm_unq b1]

set_option maxRecDepth 20000 in
set_option maxHeartbeats 4000000 in
theorem c_M_mend (S : mm_S) (A : mm_A) (hRR : RR S A) (hV : Vs A) (c : Int) : Cl 66 [(2, 71), (0, c)] S (fun vv S' => vv = some (0, (Q_mend A c).1) ∧ RR S' (Q_mend A c).2 ∧ ∀ b, ¬ (71 ≤ b ∧ b < 91) → S' b = S b) := by
  refine ⟨Nat.le_of_ble_eq_true rfl, ?_⟩
  show Rn k_M_mend 0 [(2, 71), (0, c), (9, 0), (9, 0), (9, 0), (9, 0)] [] S _
  refine R_lo (nx := 1) rfl rfl rfl rfl ?_
  refine R_call1 (nx := 4) (as := [(0, c)]) (rest := []) rfl rfl (fun _ _ => rfl) rfl rfl rfl rfl rfl rfl rfl rfl (Cl.mono (c_M_isComplex S c) ?_)
  rintro _ _ (⟨rfl, b1, rfl⟩ | ⟨rfl, b1, rfl⟩)
  ·
    try have k1 := hRR.k b1.1 b1.2
    try have n1 := k1.n
    try have z1 := k1.1.nr
    try have v1 := hV.1 _ b1.1 b1.2
    try have r1 := v1.2.1
    refine ⟨_, rfl, ?_⟩
    refine R_ifT (tg := 9) rfl rfl rfl ?_
    refine R_lo (nx := 10) rfl rfl rfl rfl ?_
    refine R_op (nx := 11) rfl rfl rfl ?_
    refine R_put (nx := 14) (kk := 9) rfl rfl rfl rfl rfl ?_
    refine R_lo (nx := 15) rfl rfl rfl rfl ?_
    refine R_op (nx := 16) rfl rfl rfl ?_
    refine R_put (nx := 19) (kk := 10) rfl rfl rfl rfl rfl ?_
    refine R_lo (nx := 20) rfl rfl rfl rfl ?_
    refine R_op (nx := 21) rfl rfl rfl ?_
    refine R_put (nx := 24) (kk := 11) rfl rfl rfl rfl rfl ?_
    refine R_lo (nx := 25) rfl rfl rfl rfl ?_
    refine R_lo (nx := 26) rfl rfl rfl rfl ?_
    refine R_call1 (nx := 29) (as := [(2, 71), (0, c)]) (rest := []) rfl rfl (fun _ _ => rfl) rfl rfl rfl rfl rfl rfl rfl rfl (Cl.mono (c_M_brokenAt (mm_up (mm_up (mm_up S 71 9 0) 71 10 0) 71 11 0) c (by omega) (AK A c) (show MR (mm_up (mm_up (mm_up S 71 9 0) 71 10 0) 71 11 0) c (AK A c) by first | assumption | exact MR.up (by assumption) (by omega) | exact MR.up (MR.up (by assumption) (by omega)) (by omega) | exact MR.up (MR.up (MR.up (by assumption) (by omega)) (by omega)) (by omega)) (by assumption)) ?_)
    rintro _ _ ⟨rfl, rfl⟩
    refine ⟨_, rfl, ?_⟩
    refine R_if (nx := 32) (tg := 36) rfl rfl rfl (mm_cnd_eq _ _) (fun c29 => ?_) (fun c29 => ?_)
    ·
      refine R_op (nx := 37) rfl rfl rfl ?_
      refine R_lo (nx := 38) (ls' := [(2, 71), (0, c), (0, 0), (9, 0), (9, 0), (9, 0)]) rfl rfl rfl rfl ?_
      refine R_op (nx := 39) rfl rfl rfl ?_
      refine R_lo (nx := 40) (ls' := [(2, 71), (0, c), (0, 0), (0, 0), (9, 0), (9, 0)]) rfl rfl rfl rfl ?_
      have L40 : ∀ (f40 : Nat) (S1 : mm_S) (x : Int) (o : Int) (t : Int), ((Xn (AK A c)) - x).toNat < f40 → (0 ≤ x ∧ x ≤ (Xn (AK A c))) → (MR S1 c (AK A c)) → (Oth S S1 c) → (S1 71 9 = o ∧ S1 71 10 = o ∧ S1 71 11 = mo o) → (∀ k, k ≠ 9 → k ≠ 10 → k ≠ 11 → S1 71 k = S 71 k) → (∀ b, b ≠ 71 → b ≠ 75 → S1 b = S b) → (0 ≤ o ∧ o ≤ 228 * x) → (t = 0 ↔ Xfb (AK A c) = 0) → (Xfb (AK A c) ≠ 0 → mq (AK A c) = chI (mfx (AK A c)) x (Xn (AK A c)) o) → (Xfb (AK A c) = 0 → o = 0) → Rn k_M_mend 40 [(2, 71), (0, c), (0, t), (0, x), (9, 0), (9, 0)] [] S1 (fun vv S' => vv = some (0, (Q_mend A c).1) ∧ RR S' (Q_mend A c).2 ∧ ∀ b, ¬ (71 ≤ b ∧ b < 91) → S' b = S b) := by
        intro f40
        induction f40 with
        | zero => intro S1 x o t hm40; exact absurd hm40 (Nat.not_lt_zero _)
        | succ f40 ih40 =>
          intro S1 x o t hm40 hx hM hO h18 hq hF ho hz hH h0
          have n2 := hM.n
          refine R_lo (nx := 41) rfl rfl rfl rfl ?_
          refine R_lo (nx := 42) rfl rfl rfl rfl ?_
          refine R_get (nx := 45) (w := (2, 72)) rfl rfl rfl rfl ?_
          refine R_lo (nx := 46) rfl rfl rfl rfl ?_
          refine R_iald (nx := 47) rfl rfl (mm_el_ok 1 5 (by decide) rfl (by decide) (by omega) (by omega)) ?_
          rw [n2]
          refine R_icmp (nx := 50) (tg := 139) rfl rfl rfl (mm_cnd_ge _ _) (fun c47 => ?_) (fun c47 => ?_)
          ·
            refine R_op (nx := 141) rfl rfl rfl ?_
            refine R_ret rfl (fun _ _ => rfl) rfl rfl ?_
            have em : mq (AK A c) = (-3, o) := by first | exact mend_end (by omega) hH h0 | (have q : Xfb (AK A c) = 0 := (by omega); rw [mq_0 q, h0 q])
            rw [show Q_mend A c = (-3, Atr A (o) (o) (mo (o))) from by unfold Q_mend; rw [if_pos b1, em]]
            exact ⟨rfl, hRR.try hM hO h18 (hq 8 (by decide) (by decide) (by decide)) (hq 21 (by decide) (by decide) (by decide)) fun b hb => hF b (by omega) (by omega), fun b hb => hF b (by omega) (by omega)⟩
          ·
            refine R_lo (nx := 51) rfl rfl rfl rfl ?_
            refine R_if (nx := 54) (tg := 139) rfl rfl rfl (mm_cnd_eq _ _) (fun c51 => ?_) (fun c51 => ?_)
            ·
              refine R_op (nx := 141) rfl rfl rfl ?_
              refine R_ret rfl (fun _ _ => rfl) rfl rfl ?_
              have em : mq (AK A c) = (-3, o) := by first | exact mend_end (by omega) hH h0 | (have q : Xfb (AK A c) = 0 := (by omega); rw [mq_0 q, h0 q])
              rw [show Q_mend A c = (-3, Atr A (o) (o) (mo (o))) from by unfold Q_mend; rw [if_pos b1, em]]
              exact ⟨rfl, hRR.try hM hO h18 (hq 8 (by decide) (by decide) (by decide)) (hq 21 (by decide) (by decide) (by decide)) fun b hb => hF b (by omega) (by omega), fun b hb => hF b (by omega) (by omega)⟩
            ·
              have hK : Xfb (AK A c) ≠ 0 := by omega
              refine R_op (nx := 55) rfl rfl rfl ?_
              refine R_lo (nx := 57) (ls' := [(2, 71), (0, c), (0, t), (0, x), (0, 0), (9, 0)]) rfl rfl rfl rfl ?_
              have L57 : ∀ (f57 : Nat) (S2 : mm_S) (y : Int) (o1 : Int), ((Xn (AK A c)) - y).toNat < f57 → (0 ≤ y ∧ y ≤ (Xn (AK A c))) → (MR S2 c (AK A c)) → (Oth S S2 c) → (S2 71 9 = o1 ∧ S2 71 10 = o1 ∧ S2 71 11 = mo o1) → (∀ k, k ≠ 9 → k ≠ 10 → k ≠ 11 → S2 71 k = S 71 k) → (∀ b, b ≠ 71 → b ≠ 75 → S2 b = S b) → (0 ≤ o1 ∧ o1 ≤ 228 * x + 19 * y) → (mq (AK A c) = ck (chI (mfy (AK A c) x) y (Xn (AK A c)) o1) (chI (mfx (AK A c)) (x + 1) (Xn (AK A c)))) → Rn k_M_mend 57 [(2, 71), (0, c), (0, t), (0, x), (0, y), (9, 0)] [] S2 (fun vv S' => vv = some (0, (Q_mend A c).1) ∧ RR S' (Q_mend A c).2 ∧ ∀ b, ¬ (71 ≤ b ∧ b < 91) → S' b = S b) := by
                intro f57
                induction f57 with
                | zero => intro S2 y o1 hm57; exact absurd hm57 (Nat.not_lt_zero _)
                | succ f57 ih57 =>
                  intro S2 y o1 hm57 hy gM gO g18 gq gF go gH
                  have n3 := gM.n
                  refine R_lo (nx := 59) rfl rfl rfl rfl ?_
                  refine R_lo (nx := 60) rfl rfl rfl rfl ?_
                  refine R_get (nx := 63) (w := (2, 72)) rfl rfl rfl rfl ?_
                  refine R_lo (nx := 64) rfl rfl rfl rfl ?_
                  refine R_iald (nx := 65) rfl rfl (mm_el_ok 1 5 (by decide) rfl (by decide) (by omega) (by omega)) ?_
                  rw [n3]
                  refine R_icmp (nx := 68) (tg := 133) rfl rfl rfl (mm_cnd_ge _ _) (fun c65 => ?_) (fun c65 => ?_)
                  ·
                    refine R_iinc (nx := 136) (z := (x + 1)) (ls' := [(2, 71), (0, c), (0, t), (0, (x + 1)), (0, y), (9, 0)]) rfl rfl rfl rfl ⟨by omega, by omega⟩ rfl ?_
                    refine R_op (nx := 139) (pc' := 40) rfl rfl rfl ?_
                    refine Rn.weak (ls' := [(2, 71), (0, c), (0, t), (0, (x + 1)), (9, 0), (9, 0)]) ⟨Or.inl rfl, ⟨Or.inl rfl, ⟨Or.inl rfl, ⟨Or.inl rfl, ⟨Or.inr rfl, ⟨Or.inl rfl, trivial⟩⟩⟩⟩⟩⟩ ?_
                    refine ih40 (S2) ((x + 1)) (o1) (t) ?_ ?_ ?_ ?_ ?_ ?_ ?_ ?_ ?_ ?_ ?_
                    · omega
                    · omega
                    · exact gM
                    · exact gO
                    · exact g18
                    · exact gq
                    · exact gF
                    · omega
                    · omega
                    · intro q; rw [gH, chI_e (by omega), ck_n]
                    · intro q; exact absurd q hK
                  ·
                    refine R_op (nx := 70) rfl rfl rfl ?_
                    refine R_lo (nx := 72) (ls' := [(2, 71), (0, c), (0, t), (0, x), (0, y), (0, (-9))]) rfl rfl rfl rfl ?_
                    have L72 : ∀ (f72 : Nat) (S3 : mm_S) (v : Int) (o2 : Int), ((10 : Int) - v).toNat < f72 → (-9 ≤ v ∧ v ≤ 10) → (MR S3 c (AK A c)) → (Oth S S3 c) → (S3 71 9 = o2 ∧ S3 71 10 = o2 ∧ S3 71 11 = mo o2) → (∀ k, k ≠ 9 → k ≠ 10 → k ≠ 11 → S3 71 k = S 71 k) → (∀ b, b ≠ 71 → b ≠ 75 → S3 b = S b) → (0 ≤ o2 ∧ o2 ≤ 228 * x + 19 * y + v + 9) → (mq (AK A c) = ck (ck (mw (AK A c) x y v o2) (chI (mfy (AK A c) x) (y + 1) (Xn (AK A c)))) (chI (mfx (AK A c)) (x + 1) (Xn (AK A c)))) → Rn k_M_mend 72 [(2, 71), (0, c), (0, t), (0, x), (0, y), (0, v)] [] S3 (fun vv S' => vv = some (0, (Q_mend A c).1) ∧ RR S' (Q_mend A c).2 ∧ ∀ b, ¬ (71 ≤ b ∧ b < 91) → S' b = S b) := by
                      intro f72
                      induction f72 with
                      | zero => intro S3 v o2 hm72; exact absurd hm72 (Nat.not_lt_zero _)
                      | succ f72 ih72 =>
                        intro S3 v o2 hm72 hv jM jO j18 jq jF jo jH
                        refine R_lo (nx := 74) rfl rfl rfl rfl ?_
                        refine R_op (nx := 76) rfl rfl rfl ?_
                        refine R_icmp (nx := 79) (tg := 127) rfl rfl rfl (mm_cnd_ge _ _) (fun c76 => ?_) (fun c76 => ?_)
                        ·
                          refine R_iinc (nx := 130) (z := (y + 1)) (ls' := [(2, 71), (0, c), (0, t), (0, x), (0, (y + 1)), (0, v)]) rfl rfl rfl rfl ⟨by omega, by omega⟩ rfl ?_
                          refine R_op (nx := 133) (pc' := 57) rfl rfl rfl ?_
                          refine Rn.weak (ls' := [(2, 71), (0, c), (0, t), (0, x), (0, (y + 1)), (9, 0)]) ⟨Or.inl rfl, ⟨Or.inl rfl, ⟨Or.inl rfl, ⟨Or.inl rfl, ⟨Or.inl rfl, ⟨Or.inr rfl, trivial⟩⟩⟩⟩⟩⟩ ?_
                          refine ih57 (S3) ((y + 1)) (o2) ?_ ?_ ?_ ?_ ?_ ?_ ?_ ?_ ?_
                          · omega
                          · omega
                          · exact jM
                          · exact jO
                          · exact j18
                          · exact jq
                          · exact jF
                          · omega
                          · rw [jH, mw_n (by first | exact Or.inr b84 | (left; omega)), ck_n]
                        ·
                          refine R_lo (nx := 80) rfl rfl rfl rfl ?_
                          refine R_lo (nx := 81) rfl rfl rfl rfl ?_
                          refine R_lo (nx := 82) rfl rfl rfl rfl ?_
                          refine R_lo (nx := 84) rfl rfl rfl rfl ?_
                          refine R_call1 (nx := 87) (as := [(2, 71), (0, c), (0, x), (0, y)]) (rest := []) rfl rfl (fun _ _ => rfl) rfl rfl rfl rfl rfl rfl rfl rfl (Cl.mono (c_M_may S3 c (by omega) (AK A c) (show MRr S3 c (AK A c) by first | assumption | exact MR.r (by assumption) | exact MRr.up (by assumption) (by omega) | exact MRr.up (MR.r (by assumption)) (by omega) | exact MRr.up (MRr.up (MR.r (by assumption)) (by omega)) (by omega)) (by assumption) x y (by omega) (by omega)) ?_)
                          rintro _ _ (⟨rfl, b84, rfl⟩ | ⟨rfl, b84, rfl⟩)
                          ·
                            refine ⟨_, rfl, ?_⟩
                            refine R_ifF (nx := 90) rfl rfl rfl ?_
                            refine R_lo (nx := 91) rfl rfl rfl rfl ?_
                            refine R_lo (nx := 92) rfl rfl rfl rfl ?_
                            refine R_lo (nx := 93) rfl rfl rfl rfl ?_
                            refine R_lo (nx := 95) rfl rfl rfl rfl ?_
                            refine R_lo (nx := 97) rfl rfl rfl rfl ?_
                            refine R_call1 (nx := 100) (as := [(2, 71), (0, c), (0, x), (0, y), (0, v)]) (rest := []) rfl rfl (fun _ _ => rfl) rfl rfl rfl rfl rfl rfl rfl rfl (Cl.mono (c_M_mends S3 c (by omega) (AK A c) jM v1 x y v o2 o2 b84 (by omega) j18.1 j18.2.1 (by omega) (by omega)) ?_)
                            rintro _ S97 (⟨rfl, b97, m97, o97, p97, q97, f97⟩ | ⟨rfl, b97, m97, o97, p97, q97, f97⟩)
                            ·
                              have e18 : mo (o2 + 1) = 1 := if_neg (by omega)
                              refine ⟨_, rfl, ?_⟩
                              refine R_ifF (nx := 103) rfl rfl rfl ?_
                              refine R_op (nx := 106) rfl rfl rfl ?_
                              refine R_lo (nx := 107) rfl rfl rfl rfl ?_
                              refine R_imul (nx := 108) (z := (400 * x)) rfl rfl rfl ⟨by omega, by omega⟩ ?_
                              refine R_op (nx := 110) rfl rfl rfl ?_
                              refine R_lo (nx := 112) rfl rfl rfl rfl ?_
                              refine R_imul (nx := 113) (z := (20 * y)) rfl rfl rfl ⟨by omega, by omega⟩ ?_
                              refine R_iadd (nx := 114) (z := ((400 * x) + (20 * y))) rfl rfl rfl ⟨by omega, by omega⟩ ?_
                              refine R_op (nx := 116) rfl rfl rfl ?_
                              refine R_iadd (nx := 117) (z := (((400 * x) + (20 * y)) + 9)) rfl rfl rfl ⟨by omega, by omega⟩ ?_
                              refine R_lo (nx := 119) rfl rfl rfl rfl ?_
                              refine R_iadd (nx := 120) (z := ((((400 * x) + (20 * y)) + 9) + v)) rfl rfl rfl ⟨by omega, by omega⟩ ?_
                              refine R_ret rfl (fun _ _ => rfl) rfl rfl ?_
                              have em : mq (AK A c) = (400 * x + 20 * y + 9 + v, o2 + 1) := mend_hit (by omega) (by omega) b84 b97 jH
                              rw [show Q_mend A c = (400 * x + 20 * y + 9 + v, Atr A (o2 + 1) (o2 + 1) (mo (o2 + 1))) from by unfold Q_mend; rw [if_pos b1, em]]
                              exact ⟨rfl, hRR.try m97 (jO.tr o97) (by rw [e18]; exact p97) (by rw [q97 8 (by decide) (by decide) (by decide)]; exact jq 8 (by decide) (by decide) (by decide)) (by rw [q97 21 (by decide) (by decide) (by decide)]; exact jq 21 (by decide) (by decide) (by decide)) fun b hb => by rw [f97 b (by omega) (by omega)]; exact jF b (by omega) (by omega), fun b hb => by rw [f97 b (by omega) (by omega)]; exact jF b (by omega) (by omega)⟩
                            ·
                              have e18 : mo (o2 + 1) = 1 := if_neg (by omega)
                              refine ⟨_, rfl, ?_⟩
                              refine R_ifT (tg := 121) rfl rfl rfl ?_
                              refine R_iinc (nx := 124) (z := (v + 1)) (ls' := [(2, 71), (0, c), (0, t), (0, x), (0, y), (0, (v + 1))]) rfl rfl rfl rfl ⟨by omega, by omega⟩ rfl ?_
                              refine R_op (nx := 127) (pc' := 72) rfl rfl rfl ?_
                              refine Rn.weak (ls' := [(2, 71), (0, c), (0, t), (0, x), (0, y), (0, (v + 1))]) ⟨Or.inl rfl, ⟨Or.inl rfl, ⟨Or.inl rfl, ⟨Or.inl rfl, ⟨Or.inl rfl, ⟨Or.inl rfl, trivial⟩⟩⟩⟩⟩⟩ ?_
                              refine ih72 (S97) ((v + 1)) (o2 + 1) ?_ ?_ ?_ ?_ ?_ ?_ ?_ ?_ ?_
                              · omega
                              · omega
                              · exact m97
                              · exact jO.tr o97
                              · rw [e18]; exact p97
                              · intro k k1 k2 k3; rw [q97 k k1 k2 k3]; exact jq k k1 k2 k3
                              · intro b hb hn; rw [f97 b hb hn]; exact jF b hb hn
                              · omega
                              · rw [jH, mw_s (by omega) b84 b97]
                          ·
                            refine ⟨_, rfl, ?_⟩
                            refine R_ifT (tg := 127) rfl rfl rfl ?_
                            refine R_iinc (nx := 130) (z := (y + 1)) (ls' := [(2, 71), (0, c), (0, t), (0, x), (0, (y + 1)), (0, v)]) rfl rfl rfl rfl ⟨by omega, by omega⟩ rfl ?_
                            refine R_op (nx := 133) (pc' := 57) rfl rfl rfl ?_
                            refine Rn.weak (ls' := [(2, 71), (0, c), (0, t), (0, x), (0, (y + 1)), (9, 0)]) ⟨Or.inl rfl, ⟨Or.inl rfl, ⟨Or.inl rfl, ⟨Or.inl rfl, ⟨Or.inl rfl, ⟨Or.inr rfl, trivial⟩⟩⟩⟩⟩⟩ ?_
                            refine ih57 (S3) ((y + 1)) (o2) ?_ ?_ ?_ ?_ ?_ ?_ ?_ ?_ ?_
                            · omega
                            · omega
                            · exact jM
                            · exact jO
                            · exact j18
                            · exact jq
                            · exact jF
                            · omega
                            · rw [jH, mw_n (by first | exact Or.inr b84 | (left; omega)), ck_n]
                    refine Rn.weak (ls' := [(2, 71), (0, c), (0, t), (0, x), (0, y), (0, (-9))]) ⟨Or.inl rfl, ⟨Or.inl rfl, ⟨Or.inl rfl, ⟨Or.inl rfl, ⟨Or.inl rfl, ⟨Or.inl rfl, trivial⟩⟩⟩⟩⟩⟩ ?_
                    refine L72 (((10 : Int) - ((-9))).toNat + 1) (S2) ((-9)) (o1) (Nat.lt_succ_self _) ?_ ?_ ?_ ?_ ?_ ?_ ?_ ?_
                    · omega
                    · exact gM
                    · exact gO
                    · exact g18
                    · exact gq
                    · exact gF
                    · omega
                    · rw [gH, chI_c (by omega)]; rfl
              refine Rn.weak (ls' := [(2, 71), (0, c), (0, t), (0, x), (0, 0), (9, 0)]) ⟨Or.inl rfl, ⟨Or.inl rfl, ⟨Or.inl rfl, ⟨Or.inl rfl, ⟨Or.inl rfl, ⟨Or.inl rfl, trivial⟩⟩⟩⟩⟩⟩ ?_
              refine L57 (((Xn (AK A c)) - (0)).toNat + 1) (S1) (0) (o) (Nat.lt_succ_self _) ?_ ?_ ?_ ?_ ?_ ?_ ?_ ?_
              · omega
              · exact hM
              · exact hO
              · exact h18
              · exact hq
              · exact hF
              · omega
              · rw [hH hK, chI_c (by omega)]; rfl
      refine Rn.weak (ls' := [(2, 71), (0, c), (0, 0), (0, 0), (9, 0), (9, 0)]) ⟨Or.inl rfl, ⟨Or.inl rfl, ⟨Or.inl rfl, ⟨Or.inl rfl, ⟨Or.inl rfl, ⟨Or.inl rfl, trivial⟩⟩⟩⟩⟩⟩ ?_
      refine L40 (((Xn (AK A c)) - (0)).toNat + 1) ((mm_up (mm_up (mm_up S 71 9 0) 71 10 0) 71 11 0)) (0) (0) (0) (Nat.lt_succ_self _) ?_ ?_ ?_ ?_ ?_ ?_ ?_ ?_ ?_ ?_
      · omega
      · exact ((k1.up (by omega)).up (by omega)).up (by omega)
      · exact (((Oth.rf S c).u71 9 0).u71 10 0).u71 11 0
      · refine ⟨?_, ?_, ?_⟩ <;> (repeat rw [mm_uk (by decide)]) <;> exact mm_ua
      · intro k k1 k2 k3; rw [mm_uk k3, mm_uk k2, mm_uk k1]
      · intro b hb hn; rw [mm_unq hb, mm_unq hb, mm_unq hb]
      · omega
      · omega
      · exact mq_1
      · intro q; rfl
    ·
      refine R_op (nx := 33) rfl rfl rfl ?_
      refine R_op (nx := 36) (pc' := 37) rfl rfl rfl ?_
      refine R_lo (nx := 38) (ls' := [(2, 71), (0, c), (0, 1), (9, 0), (9, 0), (9, 0)]) rfl rfl rfl rfl ?_
      refine R_op (nx := 39) rfl rfl rfl ?_
      refine R_lo (nx := 40) (ls' := [(2, 71), (0, c), (0, 1), (0, 0), (9, 0), (9, 0)]) rfl rfl rfl rfl ?_
      have L40 : ∀ (f40 : Nat) (S1 : mm_S) (x : Int) (o : Int) (t : Int), ((Xn (AK A c)) - x).toNat < f40 → (0 ≤ x ∧ x ≤ (Xn (AK A c))) → (MR S1 c (AK A c)) → (Oth S S1 c) → (S1 71 9 = o ∧ S1 71 10 = o ∧ S1 71 11 = mo o) → (∀ k, k ≠ 9 → k ≠ 10 → k ≠ 11 → S1 71 k = S 71 k) → (∀ b, b ≠ 71 → b ≠ 75 → S1 b = S b) → (0 ≤ o ∧ o ≤ 228 * x) → (t = 0 ↔ Xfb (AK A c) = 0) → (Xfb (AK A c) ≠ 0 → mq (AK A c) = chI (mfx (AK A c)) x (Xn (AK A c)) o) → (Xfb (AK A c) = 0 → o = 0) → Rn k_M_mend 40 [(2, 71), (0, c), (0, t), (0, x), (9, 0), (9, 0)] [] S1 (fun vv S' => vv = some (0, (Q_mend A c).1) ∧ RR S' (Q_mend A c).2 ∧ ∀ b, ¬ (71 ≤ b ∧ b < 91) → S' b = S b) := by
        intro f40
        induction f40 with
        | zero => intro S1 x o t hm40; exact absurd hm40 (Nat.not_lt_zero _)
        | succ f40 ih40 =>
          intro S1 x o t hm40 hx hM hO h18 hq hF ho hz hH h0
          have n2 := hM.n
          refine R_lo (nx := 41) rfl rfl rfl rfl ?_
          refine R_lo (nx := 42) rfl rfl rfl rfl ?_
          refine R_get (nx := 45) (w := (2, 72)) rfl rfl rfl rfl ?_
          refine R_lo (nx := 46) rfl rfl rfl rfl ?_
          refine R_iald (nx := 47) rfl rfl (mm_el_ok 1 5 (by decide) rfl (by decide) (by omega) (by omega)) ?_
          rw [n2]
          refine R_icmp (nx := 50) (tg := 139) rfl rfl rfl (mm_cnd_ge _ _) (fun c47_1 => ?_) (fun c47_1 => ?_)
          ·
            refine R_op (nx := 141) rfl rfl rfl ?_
            refine R_ret rfl (fun _ _ => rfl) rfl rfl ?_
            have em : mq (AK A c) = (-3, o) := by first | exact mend_end (by omega) hH h0 | (have q : Xfb (AK A c) = 0 := (by omega); rw [mq_0 q, h0 q])
            rw [show Q_mend A c = (-3, Atr A (o) (o) (mo (o))) from by unfold Q_mend; rw [if_pos b1, em]]
            exact ⟨rfl, hRR.try hM hO h18 (hq 8 (by decide) (by decide) (by decide)) (hq 21 (by decide) (by decide) (by decide)) fun b hb => hF b (by omega) (by omega), fun b hb => hF b (by omega) (by omega)⟩
          ·
            refine R_lo (nx := 51) rfl rfl rfl rfl ?_
            refine R_if (nx := 54) (tg := 139) rfl rfl rfl (mm_cnd_eq _ _) (fun c51_1 => ?_) (fun c51_1 => ?_)
            ·
              refine R_op (nx := 141) rfl rfl rfl ?_
              refine R_ret rfl (fun _ _ => rfl) rfl rfl ?_
              have em : mq (AK A c) = (-3, o) := by first | exact mend_end (by omega) hH h0 | (have q : Xfb (AK A c) = 0 := (by omega); rw [mq_0 q, h0 q])
              rw [show Q_mend A c = (-3, Atr A (o) (o) (mo (o))) from by unfold Q_mend; rw [if_pos b1, em]]
              exact ⟨rfl, hRR.try hM hO h18 (hq 8 (by decide) (by decide) (by decide)) (hq 21 (by decide) (by decide) (by decide)) fun b hb => hF b (by omega) (by omega), fun b hb => hF b (by omega) (by omega)⟩
            ·
              have hK : Xfb (AK A c) ≠ 0 := by omega
              refine R_op (nx := 55) rfl rfl rfl ?_
              refine R_lo (nx := 57) (ls' := [(2, 71), (0, c), (0, t), (0, x), (0, 0), (9, 0)]) rfl rfl rfl rfl ?_
              have L57 : ∀ (f57 : Nat) (S2 : mm_S) (y : Int) (o1 : Int), ((Xn (AK A c)) - y).toNat < f57 → (0 ≤ y ∧ y ≤ (Xn (AK A c))) → (MR S2 c (AK A c)) → (Oth S S2 c) → (S2 71 9 = o1 ∧ S2 71 10 = o1 ∧ S2 71 11 = mo o1) → (∀ k, k ≠ 9 → k ≠ 10 → k ≠ 11 → S2 71 k = S 71 k) → (∀ b, b ≠ 71 → b ≠ 75 → S2 b = S b) → (0 ≤ o1 ∧ o1 ≤ 228 * x + 19 * y) → (mq (AK A c) = ck (chI (mfy (AK A c) x) y (Xn (AK A c)) o1) (chI (mfx (AK A c)) (x + 1) (Xn (AK A c)))) → Rn k_M_mend 57 [(2, 71), (0, c), (0, t), (0, x), (0, y), (9, 0)] [] S2 (fun vv S' => vv = some (0, (Q_mend A c).1) ∧ RR S' (Q_mend A c).2 ∧ ∀ b, ¬ (71 ≤ b ∧ b < 91) → S' b = S b) := by
                intro f57
                induction f57 with
                | zero => intro S2 y o1 hm57; exact absurd hm57 (Nat.not_lt_zero _)
                | succ f57 ih57 =>
                  intro S2 y o1 hm57 hy gM gO g18 gq gF go gH
                  have n3 := gM.n
                  refine R_lo (nx := 59) rfl rfl rfl rfl ?_
                  refine R_lo (nx := 60) rfl rfl rfl rfl ?_
                  refine R_get (nx := 63) (w := (2, 72)) rfl rfl rfl rfl ?_
                  refine R_lo (nx := 64) rfl rfl rfl rfl ?_
                  refine R_iald (nx := 65) rfl rfl (mm_el_ok 1 5 (by decide) rfl (by decide) (by omega) (by omega)) ?_
                  rw [n3]
                  refine R_icmp (nx := 68) (tg := 133) rfl rfl rfl (mm_cnd_ge _ _) (fun c65_1 => ?_) (fun c65_1 => ?_)
                  ·
                    refine R_iinc (nx := 136) (z := (x + 1)) (ls' := [(2, 71), (0, c), (0, t), (0, (x + 1)), (0, y), (9, 0)]) rfl rfl rfl rfl ⟨by omega, by omega⟩ rfl ?_
                    refine R_op (nx := 139) (pc' := 40) rfl rfl rfl ?_
                    refine Rn.weak (ls' := [(2, 71), (0, c), (0, t), (0, (x + 1)), (9, 0), (9, 0)]) ⟨Or.inl rfl, ⟨Or.inl rfl, ⟨Or.inl rfl, ⟨Or.inl rfl, ⟨Or.inr rfl, ⟨Or.inl rfl, trivial⟩⟩⟩⟩⟩⟩ ?_
                    refine ih40 (S2) ((x + 1)) (o1) (t) ?_ ?_ ?_ ?_ ?_ ?_ ?_ ?_ ?_ ?_ ?_
                    · omega
                    · omega
                    · exact gM
                    · exact gO
                    · exact g18
                    · exact gq
                    · exact gF
                    · omega
                    · omega
                    · intro q; rw [gH, chI_e (by omega), ck_n]
                    · intro q; exact absurd q hK
                  ·
                    refine R_op (nx := 70) rfl rfl rfl ?_
                    refine R_lo (nx := 72) (ls' := [(2, 71), (0, c), (0, t), (0, x), (0, y), (0, (-9))]) rfl rfl rfl rfl ?_
                    have L72 : ∀ (f72 : Nat) (S3 : mm_S) (v : Int) (o2 : Int), ((10 : Int) - v).toNat < f72 → (-9 ≤ v ∧ v ≤ 10) → (MR S3 c (AK A c)) → (Oth S S3 c) → (S3 71 9 = o2 ∧ S3 71 10 = o2 ∧ S3 71 11 = mo o2) → (∀ k, k ≠ 9 → k ≠ 10 → k ≠ 11 → S3 71 k = S 71 k) → (∀ b, b ≠ 71 → b ≠ 75 → S3 b = S b) → (0 ≤ o2 ∧ o2 ≤ 228 * x + 19 * y + v + 9) → (mq (AK A c) = ck (ck (mw (AK A c) x y v o2) (chI (mfy (AK A c) x) (y + 1) (Xn (AK A c)))) (chI (mfx (AK A c)) (x + 1) (Xn (AK A c)))) → Rn k_M_mend 72 [(2, 71), (0, c), (0, t), (0, x), (0, y), (0, v)] [] S3 (fun vv S' => vv = some (0, (Q_mend A c).1) ∧ RR S' (Q_mend A c).2 ∧ ∀ b, ¬ (71 ≤ b ∧ b < 91) → S' b = S b) := by
                      intro f72
                      induction f72 with
                      | zero => intro S3 v o2 hm72; exact absurd hm72 (Nat.not_lt_zero _)
                      | succ f72 ih72 =>
                        intro S3 v o2 hm72 hv jM jO j18 jq jF jo jH
                        refine R_lo (nx := 74) rfl rfl rfl rfl ?_
                        refine R_op (nx := 76) rfl rfl rfl ?_
                        refine R_icmp (nx := 79) (tg := 127) rfl rfl rfl (mm_cnd_ge _ _) (fun c76_1 => ?_) (fun c76_1 => ?_)
                        ·
                          refine R_iinc (nx := 130) (z := (y + 1)) (ls' := [(2, 71), (0, c), (0, t), (0, x), (0, (y + 1)), (0, v)]) rfl rfl rfl rfl ⟨by omega, by omega⟩ rfl ?_
                          refine R_op (nx := 133) (pc' := 57) rfl rfl rfl ?_
                          refine Rn.weak (ls' := [(2, 71), (0, c), (0, t), (0, x), (0, (y + 1)), (9, 0)]) ⟨Or.inl rfl, ⟨Or.inl rfl, ⟨Or.inl rfl, ⟨Or.inl rfl, ⟨Or.inl rfl, ⟨Or.inr rfl, trivial⟩⟩⟩⟩⟩⟩ ?_
                          refine ih57 (S3) ((y + 1)) (o2) ?_ ?_ ?_ ?_ ?_ ?_ ?_ ?_ ?_
                          · omega
                          · omega
                          · exact jM
                          · exact jO
                          · exact j18
                          · exact jq
                          · exact jF
                          · omega
                          · rw [jH, mw_n (by first | exact Or.inr b84 | (left; omega)), ck_n]
                        ·
                          refine R_lo (nx := 80) rfl rfl rfl rfl ?_
                          refine R_lo (nx := 81) rfl rfl rfl rfl ?_
                          refine R_lo (nx := 82) rfl rfl rfl rfl ?_
                          refine R_lo (nx := 84) rfl rfl rfl rfl ?_
                          refine R_call1 (nx := 87) (as := [(2, 71), (0, c), (0, x), (0, y)]) (rest := []) rfl rfl (fun _ _ => rfl) rfl rfl rfl rfl rfl rfl rfl rfl (Cl.mono (c_M_may S3 c (by omega) (AK A c) (show MRr S3 c (AK A c) by first | assumption | exact MR.r (by assumption) | exact MRr.up (by assumption) (by omega) | exact MRr.up (MR.r (by assumption)) (by omega) | exact MRr.up (MRr.up (MR.r (by assumption)) (by omega)) (by omega)) (by assumption) x y (by omega) (by omega)) ?_)
                          rintro _ _ (⟨rfl, b84_1, rfl⟩ | ⟨rfl, b84_1, rfl⟩)
                          ·
                            refine ⟨_, rfl, ?_⟩
                            refine R_ifF (nx := 90) rfl rfl rfl ?_
                            refine R_lo (nx := 91) rfl rfl rfl rfl ?_
                            refine R_lo (nx := 92) rfl rfl rfl rfl ?_
                            refine R_lo (nx := 93) rfl rfl rfl rfl ?_
                            refine R_lo (nx := 95) rfl rfl rfl rfl ?_
                            refine R_lo (nx := 97) rfl rfl rfl rfl ?_
                            refine R_call1 (nx := 100) (as := [(2, 71), (0, c), (0, x), (0, y), (0, v)]) (rest := []) rfl rfl (fun _ _ => rfl) rfl rfl rfl rfl rfl rfl rfl rfl (Cl.mono (c_M_mends S3 c (by omega) (AK A c) jM v1 x y v o2 o2 b84_1 (by omega) j18.1 j18.2.1 (by omega) (by omega)) ?_)
                            rintro _ S97 (⟨rfl, b97, m97, o97, p97, q97, f97⟩ | ⟨rfl, b97, m97, o97, p97, q97, f97⟩)
                            ·
                              have e18 : mo (o2 + 1) = 1 := if_neg (by omega)
                              refine ⟨_, rfl, ?_⟩
                              refine R_ifF (nx := 103) rfl rfl rfl ?_
                              refine R_op (nx := 106) rfl rfl rfl ?_
                              refine R_lo (nx := 107) rfl rfl rfl rfl ?_
                              refine R_imul (nx := 108) (z := (400 * x)) rfl rfl rfl ⟨by omega, by omega⟩ ?_
                              refine R_op (nx := 110) rfl rfl rfl ?_
                              refine R_lo (nx := 112) rfl rfl rfl rfl ?_
                              refine R_imul (nx := 113) (z := (20 * y)) rfl rfl rfl ⟨by omega, by omega⟩ ?_
                              refine R_iadd (nx := 114) (z := ((400 * x) + (20 * y))) rfl rfl rfl ⟨by omega, by omega⟩ ?_
                              refine R_op (nx := 116) rfl rfl rfl ?_
                              refine R_iadd (nx := 117) (z := (((400 * x) + (20 * y)) + 9)) rfl rfl rfl ⟨by omega, by omega⟩ ?_
                              refine R_lo (nx := 119) rfl rfl rfl rfl ?_
                              refine R_iadd (nx := 120) (z := ((((400 * x) + (20 * y)) + 9) + v)) rfl rfl rfl ⟨by omega, by omega⟩ ?_
                              refine R_ret rfl (fun _ _ => rfl) rfl rfl ?_
                              have em : mq (AK A c) = (400 * x + 20 * y + 9 + v, o2 + 1) := mend_hit (by omega) (by omega) b84_1 b97 jH
                              rw [show Q_mend A c = (400 * x + 20 * y + 9 + v, Atr A (o2 + 1) (o2 + 1) (mo (o2 + 1))) from by unfold Q_mend; rw [if_pos b1, em]]
                              exact ⟨rfl, hRR.try m97 (jO.tr o97) (by rw [e18]; exact p97) (by rw [q97 8 (by decide) (by decide) (by decide)]; exact jq 8 (by decide) (by decide) (by decide)) (by rw [q97 21 (by decide) (by decide) (by decide)]; exact jq 21 (by decide) (by decide) (by decide)) fun b hb => by rw [f97 b (by omega) (by omega)]; exact jF b (by omega) (by omega), fun b hb => by rw [f97 b (by omega) (by omega)]; exact jF b (by omega) (by omega)⟩
                            ·
                              have e18 : mo (o2 + 1) = 1 := if_neg (by omega)
                              refine ⟨_, rfl, ?_⟩
                              refine R_ifT (tg := 121) rfl rfl rfl ?_
                              refine R_iinc (nx := 124) (z := (v + 1)) (ls' := [(2, 71), (0, c), (0, t), (0, x), (0, y), (0, (v + 1))]) rfl rfl rfl rfl ⟨by omega, by omega⟩ rfl ?_
                              refine R_op (nx := 127) (pc' := 72) rfl rfl rfl ?_
                              refine Rn.weak (ls' := [(2, 71), (0, c), (0, t), (0, x), (0, y), (0, (v + 1))]) ⟨Or.inl rfl, ⟨Or.inl rfl, ⟨Or.inl rfl, ⟨Or.inl rfl, ⟨Or.inl rfl, ⟨Or.inl rfl, trivial⟩⟩⟩⟩⟩⟩ ?_
                              refine ih72 (S97) ((v + 1)) (o2 + 1) ?_ ?_ ?_ ?_ ?_ ?_ ?_ ?_ ?_
                              · omega
                              · omega
                              · exact m97
                              · exact jO.tr o97
                              · rw [e18]; exact p97
                              · intro k k1 k2 k3; rw [q97 k k1 k2 k3]; exact jq k k1 k2 k3
                              · intro b hb hn; rw [f97 b hb hn]; exact jF b hb hn
                              · omega
                              · rw [jH, mw_s (by omega) b84_1 b97]
                          ·
                            refine ⟨_, rfl, ?_⟩
                            refine R_ifT (tg := 127) rfl rfl rfl ?_
                            refine R_iinc (nx := 130) (z := (y + 1)) (ls' := [(2, 71), (0, c), (0, t), (0, x), (0, (y + 1)), (0, v)]) rfl rfl rfl rfl ⟨by omega, by omega⟩ rfl ?_
                            refine R_op (nx := 133) (pc' := 57) rfl rfl rfl ?_
                            refine Rn.weak (ls' := [(2, 71), (0, c), (0, t), (0, x), (0, (y + 1)), (9, 0)]) ⟨Or.inl rfl, ⟨Or.inl rfl, ⟨Or.inl rfl, ⟨Or.inl rfl, ⟨Or.inl rfl, ⟨Or.inr rfl, trivial⟩⟩⟩⟩⟩⟩ ?_
                            refine ih57 (S3) ((y + 1)) (o2) ?_ ?_ ?_ ?_ ?_ ?_ ?_ ?_ ?_
                            · omega
                            · omega
                            · exact jM
                            · exact jO
                            · exact j18
                            · exact jq
                            · exact jF
                            · omega
                            · rw [jH, mw_n (by first | exact Or.inr b84_1 | (left; omega)), ck_n]
                    refine Rn.weak (ls' := [(2, 71), (0, c), (0, t), (0, x), (0, y), (0, (-9))]) ⟨Or.inl rfl, ⟨Or.inl rfl, ⟨Or.inl rfl, ⟨Or.inl rfl, ⟨Or.inl rfl, ⟨Or.inl rfl, trivial⟩⟩⟩⟩⟩⟩ ?_
                    refine L72 (((10 : Int) - ((-9))).toNat + 1) (S2) ((-9)) (o1) (Nat.lt_succ_self _) ?_ ?_ ?_ ?_ ?_ ?_ ?_ ?_
                    · omega
                    · exact gM
                    · exact gO
                    · exact g18
                    · exact gq
                    · exact gF
                    · omega
                    · rw [gH, chI_c (by omega)]; rfl
              refine Rn.weak (ls' := [(2, 71), (0, c), (0, t), (0, x), (0, 0), (9, 0)]) ⟨Or.inl rfl, ⟨Or.inl rfl, ⟨Or.inl rfl, ⟨Or.inl rfl, ⟨Or.inl rfl, ⟨Or.inl rfl, trivial⟩⟩⟩⟩⟩⟩ ?_
              refine L57 (((Xn (AK A c)) - (0)).toNat + 1) (S1) (0) (o) (Nat.lt_succ_self _) ?_ ?_ ?_ ?_ ?_ ?_ ?_ ?_
              · omega
              · exact hM
              · exact hO
              · exact h18
              · exact hq
              · exact hF
              · omega
              · rw [hH hK, chI_c (by omega)]; rfl
      refine Rn.weak (ls' := [(2, 71), (0, c), (0, 1), (0, 0), (9, 0), (9, 0)]) ⟨Or.inl rfl, ⟨Or.inl rfl, ⟨Or.inl rfl, ⟨Or.inl rfl, ⟨Or.inl rfl, ⟨Or.inl rfl, trivial⟩⟩⟩⟩⟩⟩ ?_
      refine L40 (((Xn (AK A c)) - (0)).toNat + 1) ((mm_up (mm_up (mm_up S 71 9 0) 71 10 0) 71 11 0)) (0) (0) (1) (Nat.lt_succ_self _) ?_ ?_ ?_ ?_ ?_ ?_ ?_ ?_ ?_ ?_
      · omega
      · exact ((k1.up (by omega)).up (by omega)).up (by omega)
      · exact (((Oth.rf S c).u71 9 0).u71 10 0).u71 11 0
      · refine ⟨?_, ?_, ?_⟩ <;> (repeat rw [mm_uk (by decide)]) <;> exact mm_ua
      · intro k k1 k2 k3; rw [mm_uk k3, mm_uk k2, mm_uk k1]
      · intro b hb hn; rw [mm_unq hb, mm_unq hb, mm_unq hb]
      · omega
      · omega
      · exact mq_1
      · intro q; rfl
  ·
    try have k1 := hRR.k b1.1 b1.2
    try have n1 := k1.n
    try have z1 := k1.1.nr
    try have v1 := hV.1 _ b1.1 b1.2
    try have r1 := v1.2.1
    refine ⟨_, rfl, ?_⟩
    refine R_ifF (nx := 7) rfl rfl rfl ?_
    refine R_op (nx := 8) rfl rfl rfl ?_
    refine R_ret rfl (fun _ _ => rfl) rfl rfl ?_
    rw [show Q_mend A c = ((-1), A) from by simp only [Q_mend, b1, ifo, ifm, ifp, iffq, ↓reduceIte, ite_self, and_self, and_true, true_and, and_false, false_and, or_true, true_or, or_false, false_or, or_self, not_true_eq_false, not_false_eq_true, ne_eq]]; exact ⟨rfl, hRR, fun b _ => rfl⟩
