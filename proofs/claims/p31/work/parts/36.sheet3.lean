/-! Rows: read, copied, edges laid and taken. -/
def lackv (so sz j n : Int) : Int := if so = -1 then -11 else if so = 2 then -13 else ifo sz j n (-12) 0
def Q_lay (A : mm_A) (c x i j : Int) : Int × mm_A := if 0 ≤ c ∧ c < 4 then (if 0 ≤ i ∧ i < 4 then (if 0 ≤ x ∧ x < Xn (AK A c) then (if lackv (Aso A i) (Asz A i) j (Xn (AK A c)) = 0 then (Xn (AK A c), Ash A i (Aso A i, Asz A i, fun p => if j ≤ p ∧ p < j + Xn (AK A c) then Xe (AK A c) x (p - j) else Apl A i p)) else (lackv (Aso A i) (Asz A i) j (Xn (AK A c)), A)) else (-1, A)) else (-1, A)) else (-1, A)
def tkb (K : CX) (x : Int) (p : Int → Int) (y : Int) : Int := if -9 ≤ p y ∧ p y ≤ 9 then (if p y = 0 then 0 else ifm K x y 0 1) else 1
def Xrow (K : CX) (x k : Int) (p : Int → Int) : CX := (Xn K, Xd K, X0 K, X1 K, fun i y => if i = x ∧ (0 ≤ y ∧ y < k) then p y else Xe K i y)
def Q_take (A : mm_A) (i j c x : Int) : Int × mm_A := if 0 ≤ c ∧ c < 4 then (if 0 ≤ i ∧ i < 4 then (if 0 ≤ x ∧ x < Xn (AK A c) then (if lackv (Aso A i) (Asz A i) j (Xn (AK A c)) = 0 then (if sm (tkb (AK A c) x fun y => Apl A i (j + y)) (Xn (AK A c)) = 0 then (sm (fun y => if Apl A i (j + y) = Xe (AK A c) x y then 0 else 1) (Xn (AK A c)), Akc A c (Xrow (AK A c) x (Xn (AK A c)) fun y => Apl A i (j + y))) else (-1, A)) else (lackv (Aso A i) (Asz A i) j (Xn (AK A c)), A)) else (-1, A)) else (-1, A)) else (-1, A)
theorem cut_e {so v : Int} (h : -9 ≤ v ∧ v ≤ 9) : cutv so v = v := by
  have e : mm_w32 v = v := mm_w32_id (by omega)
  unfold cutv
  rw [e]
  split
  · exact Int.bmod_eq_of_le (by omega) (by omega)
  · exact ite_self v
theorem lackv_0 {so sz j n : Int} (h : lackv so sz j n = 0) : so ≠ -1 ∧ so ≠ 2 ∧ ¬ Outs sz j n := by
  unfold lackv ifo at h
  by_cases a : so = -1
  · rw [if_pos a] at h; omega
  · rw [if_neg a] at h
    by_cases b : so = 2
    · rw [if_pos b] at h; omega
    · rw [if_neg b] at h
      refine ⟨a, b, fun q => ?_⟩
      rw [if_pos q] at h; omega
theorem Xrow_0 {K : CX} {x : Int} {p : Int → Int} : Xrow K x 0 p = K := CXext rfl (fun _ => rfl) (fun _ => rfl) (fun _ => rfl) fun i y => if_neg (by omega)
theorem Xrow_s {K : CX} {x k : Int} {p : Int → Int} (hx : 0 ≤ x ∧ x < Xn K) (hk : 0 ≤ k ∧ k < Xn K) : Xset (Xrow K x k p) x k (p k) = Xrow K x (k + 1) p := CXext rfl (fun _ => rfl) (fun _ => rfl) (fun _ => rfl) fun i y => by
  rw [Xset_e]
  show (if ((0 ≤ x ∧ x < Xn K) ∧ (0 ≤ k ∧ k < Xn K)) ∧ i = x ∧ y = k then p k else if i = x ∧ (0 ≤ y ∧ y < k) then p y else Xe K i y) = if i = x ∧ (0 ≤ y ∧ y < k + 1) then p y else Xe K i y
  by_cases e : i = x ∧ y = k
  · rw [if_pos ⟨⟨hx, hk⟩, e⟩, if_pos (by omega), e.2]
  · rw [if_neg (fun q => e q.2)]; exact ifc (by omega) rfl rfl
theorem Xrow_e {K : CX} {x k y : Int} {p : Int → Int} (h : k ≤ y) : Xe (Xrow K x k p) x y = Xe K x y := if_neg (by omega)
theorem sm_pos {f : Int → Int} (h : ∀ i, 0 ≤ f i) : ∀ (n m : Int), 0 ≤ n → n ≤ m → sm f n ≤ sm f m := by
  intro n m h0 h1
  obtain ⟨k, rfl⟩ : ∃ k : Nat, m = n + k := ⟨(m - n).toNat, by omega⟩
  clear h1
  induction k with
  | zero => simp
  | succ k ih =>
    rw [show n + ((k + 1 : Nat) : Int) = n + k + 1 by omega, sm_s f (by omega)]
    have := h (n + k)
    omega
theorem tkb_c (K : CX) (x : Int) (p : Int → Int) (y : Int) : tkb K x p y = 0 ∨ tkb K x p y = 1 := by
  unfold tkb ifm
  repeat' split
  all_goals first | exact Or.inl rfl | exact Or.inr rfl
theorem tkb_bad {K : CX} {x y n : Int} {p : Int → Int} (h : tkb K x p y = 1) (hy : 0 ≤ y ∧ y < n) : sm (tkb K x p) n ≠ 0 := by
  have hp : ∀ i, 0 ≤ tkb K x p i := fun i => by rcases tkb_c K x p i with e | e <;> rw [e] <;> decide
  have a := sm_pos hp 0 y (by omega) hy.1
  have b := sm_pos hp (y + 1) n (by omega) (by omega)
  rw [sm_s _ hy.1, h] at b
  rw [sm_0] at a
  omega
theorem tkb_1 {K : CX} {x y : Int} {p : Int → Int} (h : ¬ (-9 ≤ p y ∧ p y ≤ 9) ∨ (p y ≠ 0 ∧ ¬ Xmay K x y)) : tkb K x p y = 1 := by
  unfold tkb ifm
  by_cases a : -9 ≤ p y ∧ p y ≤ 9
  · rcases h with h | h
    · exact absurd a h
    · rw [if_pos a, if_neg h.1, if_neg h.2]
  · rw [if_neg a]
theorem tkb_0 {K : CX} {x y : Int} {p : Int → Int} (h : -9 ≤ p y ∧ p y ≤ 9) (h2 : p y = 0 ∨ Xmay K x y) : tkb K x p y = 0 := by
  unfold tkb ifm
  rw [if_pos h]
  by_cases a : p y = 0
  · rw [if_pos a]
  · rw [if_neg a, if_pos (h2.resolve_left a)]
theorem tkb_g {K : CX} {x y : Int} {p : Int → Int} (h : tkb K x p y = 0) : (-9 ≤ p y ∧ p y ≤ 9) ∧ (p y = 0 ∨ Xmay K x y) := by
  unfold tkb ifm at h
  split at h
  · rename_i a
    refine ⟨a, ?_⟩
    split at h
    · rename_i b; exact Or.inl b
    · split at h
      · rename_i b; exact Or.inr b
      · omega
  · omega
theorem tkb_all {K : CX} {x n : Int} {p : Int → Int} (h : sm (tkb K x p) n = 0) {y : Int} (hy : 0 ≤ y ∧ y < n) : (-9 ≤ p y ∧ p y ≤ 9) ∧ (p y = 0 ∨ Xmay K x y) := by
  rcases tkb_c K x p y with e | e
  · exact tkb_g e
  · exact absurd h (tkb_bad e hy)
theorem Xrow_Nz {K : CX} {x k : Int} {p : Int → Int} (h : Nz K) (hx : 0 ≤ x ∧ x < Xn K) (hk : k ≤ Xn K) : Nz (Xrow K x k p) := ⟨h.1, h.2.1, fun i y hi => by
  have : ¬ ((0 ≤ i ∧ i < Xn K) ∧ (0 ≤ y ∧ y < Xn K)) := hi
  show (if i = x ∧ (0 ≤ y ∧ y < k) then p y else Xe K i y) = 0
  rw [if_neg (by omega)]
  exact h.e hi⟩
theorem Xrow_Vx {K : CX} {x : Int} {p : Int → Int} (h : Vx K) (hx : 0 ≤ x ∧ x < Xn K) (hs : sm (tkb K x p) (Xn K) = 0) : Vx (Xrow K x (Xn K) p) := by
  refine ⟨Xrow_Nz h.1 hx (Int.le_refl _), ⟨h.2.1.1, fun i y => ?_⟩, fun i y hne => ?_⟩
  · show -9 ≤ (if i = x ∧ (0 ≤ y ∧ y < Xn K) then p y else Xe K i y) ∧ (if i = x ∧ (0 ≤ y ∧ y < Xn K) then p y else Xe K i y) ≤ 9
    split
    · rename_i q; exact (tkb_all hs q.2).1
    · exact h.2.1.e i y
  · replace hne : (if i = x ∧ (0 ≤ y ∧ y < Xn K) then p y else Xe K i y) ≠ 0 := hne
    show Xmay K i y
    split at hne
    · rename_i q
      rw [q.1]
      exact (tkb_all hs q.2).2.resolve_left hne
    · exact h.2.2 i y hne

set_option maxRecDepth 20000 in
set_option maxHeartbeats 4000000 in
theorem c_M_item (S : mm_S) (A : mm_A) (hRR : RR S A) (hV : Vs A) (i so j : Int) (hj : mm_r32 j) : Cl 110 [(2, 71), (0, i), (0, so), (0, j)] S (fun vv S' => vv = some (0, (Q_item A i so j).1) ∧ RR S' (Q_item A i so j).2 ∧ ∀ b, ¬ (71 ≤ b ∧ b < 91) → S' b = S b) := by
  refine ⟨Nat.le_of_ble_eq_true rfl, ?_⟩
  show Rn k_M_item 0 [(2, 71), (0, i), (0, so), (0, j)] [] S _
  refine R_lo (nx := 1) rfl rfl rfl rfl ?_
  refine R_call1 (nx := 4) (as := [(0, i)]) (rest := []) rfl rfl (fun _ _ => rfl) rfl rfl rfl rfl rfl rfl rfl rfl (Cl.mono (c_M_isSheet S i) ?_)
  rintro _ _ (⟨rfl, b1, rfl⟩ | ⟨rfl, b1, rfl⟩)
  ·
    try have k1 := hRR.2.2.2.2.2 i b1.1 b1.2
    try have ka1 := k1.1
    try have kz1 := k1.2.1
    try have q1 := hV.2.2.2.2.2 i b1.1 b1.2
    try have qa1 := q1.1
    try have qz1 := q1.2
    refine ⟨_, rfl, ?_⟩
    refine R_ifF (nx := 7) rfl rfl rfl ?_
    refine R_lo (nx := 8) rfl rfl rfl rfl ?_
    refine R_op (nx := 9) rfl rfl rfl ?_
    refine R_op (nx := 10) rfl rfl rfl ?_
    refine R_call1 (nx := 13) (as := [(0, so), (0, 0), (0, 2)]) (rest := []) rfl rfl (fun _ _ => rfl) rfl rfl rfl rfl rfl rfl rfl rfl (Cl.mono (c_M_in S so 0 2) ?_)
    rintro _ _ (⟨rfl, b10, rfl⟩ | ⟨rfl, b10, rfl⟩)
    ·
      refine ⟨_, rfl, ?_⟩
      refine R_ifT (tg := 18) rfl rfl rfl ?_
      refine R_lo (nx := 19) rfl rfl rfl rfl ?_
      refine R_get (nx := 22) (w := (2, 87)) rfl rfl rfl rfl ?_
      refine R_lo (nx := 23) rfl rfl rfl rfl ?_
      refine R_iald (nx := 24) rfl rfl (mm_el_ok 1 4 (by decide) rfl (by decide) (by omega) (by omega)) ?_
      rw [ka1]
      refine R_lo (nx := 25) rfl rfl rfl rfl ?_
      refine R_icmp (nx := 28) (tg := 45) rfl rfl rfl (mm_cnd_eq _ _) (fun c25 => ?_) (fun c25 => ?_)
      ·
        refine R_lo (nx := 46) rfl rfl rfl rfl ?_
        refine R_op (nx := 47) rfl rfl rfl ?_
        refine R_lo (nx := 48) rfl rfl rfl rfl ?_
        refine R_get (nx := 51) (w := (2, 88)) rfl rfl rfl rfl ?_
        refine R_lo (nx := 52) rfl rfl rfl rfl ?_
        refine R_iald (nx := 53) rfl rfl (mm_el_ok 1 4 (by decide) rfl (by decide) (by omega) (by omega)) ?_
        rw [kz1]
        refine R_op (nx := 54) rfl rfl rfl ?_
        refine R_isub (nx := 55) (z := ((Asz A i) - 1)) rfl rfl rfl ⟨by omega, by omega⟩ ?_
        refine R_call1 (nx := 58) (as := [(0, j), (0, 0), (0, ((Asz A i) - 1))]) (rest := []) rfl rfl (fun _ _ => rfl) rfl rfl rfl rfl rfl rfl rfl rfl (Cl.mono (c_M_in S j 0 ((Asz A i) - 1)) ?_)
        rintro _ _ (⟨rfl, b55, rfl⟩ | ⟨rfl, b55, rfl⟩)
        ·
          have e55 : ¬ Outs (Asz A i) j 1 := by unfold Outs; omega
          have e56 : ¬ so = -1 := by omega
          refine ⟨_, rfl, ?_⟩
          refine R_ifF (nx := 61) rfl rfl rfl ?_
          refine R_lo (nx := 62) rfl rfl rfl rfl ?_
          refine R_get (nx := 65) (w := (2, 89)) rfl rfl rfl rfl ?_
          refine R_op (nx := 67) rfl rfl rfl ?_
          refine R_lo (nx := 68) rfl rfl rfl rfl ?_
          refine R_imul (nx := 69) (z := (40 * i)) rfl rfl rfl ⟨by omega, by omega⟩ ?_
          refine R_lo (nx := 70) rfl rfl rfl rfl ?_
          refine R_iadd (nx := 71) (z := ((40 * i) + j)) rfl rfl rfl ⟨by omega, by omega⟩ ?_
          refine R_lald (nx := 72) rfl rfl (mm_el_ok 2 160 (by decide) rfl (by decide) (by omega) (by omega)) ?_
          rw [k1.2.2 j (by omega) (by omega)]
          refine R_op (nx := 73) (st' := [(0, (mm_w32 (Apl A i j)))]) rfl rfl rfl ?_
          refine R_op (nx := 76) (pc' := 78) rfl rfl rfl ?_
          refine R_ret rfl (fun _ _ => rfl) rfl rfl ?_
          rw [show Q_item A i so j = ((mm_w32 (Apl A i j)), A) from by simp only [Q_item, b1, b10, c25, b55, e55, e56, ifo, ifm, ifp, iffq, ↓reduceIte, ite_self, and_self, and_true, true_and, and_false, false_and, or_true, true_or, or_false, false_or, or_self, not_true_eq_false, not_false_eq_true, ne_eq]]; exact ⟨rfl, hRR, fun b _ => rfl⟩
        ·
          have e55 : Outs (Asz A i) j 1 := by unfold Outs; omega
          have e56 : ¬ so = -1 := by omega
          refine ⟨_, rfl, ?_⟩
          refine R_ifT (tg := 76) rfl rfl rfl ?_
          refine R_op (nx := 78) rfl rfl rfl ?_
          refine R_ret rfl (fun _ _ => rfl) rfl rfl ?_
          rw [show Q_item A i so j = ((-12), A) from by simp only [Q_item, b1, b10, c25, b55, e55, e56, ifo, ifm, ifp, iffq, ↓reduceIte, ite_self, and_self, and_true, true_and, and_false, false_and, or_true, true_or, or_false, false_or, or_self, not_true_eq_false, not_false_eq_true, ne_eq]]; exact ⟨rfl, hRR, fun b _ => rfl⟩
      ·
        refine R_lo (nx := 29) rfl rfl rfl rfl ?_
        refine R_get (nx := 32) (w := (2, 87)) rfl rfl rfl rfl ?_
        refine R_lo (nx := 33) rfl rfl rfl rfl ?_
        refine R_iald (nx := 34) rfl rfl (mm_el_ok 1 4 (by decide) rfl (by decide) (by omega) (by omega)) ?_
        rw [ka1]
        refine R_if (nx := 37) (tg := 42) rfl rfl rfl (mm_cnd_ge _ _) (fun c34 => ?_) (fun c34 => ?_)
        ·
          have e34 : ¬ Aso A i = -1 := by omega
          refine R_op (nx := 44) rfl rfl rfl ?_
          refine R_ret rfl (fun _ _ => rfl) rfl rfl ?_
          rw [show Q_item A i so j = ((-13), A) from by simp only [Q_item, b1, b10, c25, c34, e34, ifo, ifm, ifp, iffq, ↓reduceIte, ite_self, and_self, and_true, true_and, and_false, false_and, or_true, true_or, or_false, false_or, or_self, not_true_eq_false, not_false_eq_true, ne_eq]]; exact ⟨rfl, hRR, fun b _ => rfl⟩
        ·
          have e34 : Aso A i = -1 := by omega
          refine R_op (nx := 39) rfl rfl rfl ?_
          refine R_op (nx := 42) (pc' := 44) rfl rfl rfl ?_
          refine R_ret rfl (fun _ _ => rfl) rfl rfl ?_
          rw [show Q_item A i so j = ((-11), A) from by simp only [Q_item, b1, b10, c25, c34, e34, ifo, ifm, ifp, iffq, ↓reduceIte, ite_self, and_self, and_true, true_and, and_false, false_and, or_true, true_or, or_false, false_or, or_self, not_true_eq_false, not_false_eq_true, ne_eq]]; exact ⟨rfl, hRR, fun b _ => rfl⟩
    ·
      refine ⟨_, rfl, ?_⟩
      refine R_ifF (nx := 16) rfl rfl rfl ?_
      refine R_op (nx := 17) rfl rfl rfl ?_
      refine R_ret rfl (fun _ _ => rfl) rfl rfl ?_
      rw [show Q_item A i so j = ((-1), A) from by simp only [Q_item, b1, b10, ifo, ifm, ifp, iffq, ↓reduceIte, ite_self, and_self, and_true, true_and, and_false, false_and, or_true, true_or, or_false, false_or, or_self, not_true_eq_false, not_false_eq_true, ne_eq]]; exact ⟨rfl, hRR, fun b _ => rfl⟩
  ·
    try have k1 := hRR.2.2.2.2.2 i b1.1 b1.2
    try have ka1 := k1.1
    try have kz1 := k1.2.1
    try have q1 := hV.2.2.2.2.2 i b1.1 b1.2
    try have qa1 := q1.1
    try have qz1 := q1.2
    refine ⟨_, rfl, ?_⟩
    refine R_ifT (tg := 16) rfl rfl rfl ?_
    refine R_op (nx := 17) rfl rfl rfl ?_
    refine R_ret rfl (fun _ _ => rfl) rfl rfl ?_
    rw [show Q_item A i so j = ((-1), A) from by simp only [Q_item, b1, ifo, ifm, ifp, iffq, ↓reduceIte, ite_self, and_self, and_true, true_and, and_false, false_and, or_true, true_or, or_false, false_or, or_self, not_true_eq_false, not_false_eq_true, ne_eq]]; exact ⟨rfl, hRR, fun b _ => rfl⟩

set_option maxRecDepth 20000 in
set_option maxHeartbeats 4000000 in
theorem c_M_copy (S : mm_S) (A : mm_A) (hRR : RR S A) (hV : Vs A) (i j o k n : Int) (hj : mm_r32 j) (hk : mm_r32 k) (hn : mm_r32 n) : Cl 111 [(2, 71), (0, i), (0, j), (0, o), (0, k), (0, n)] S (fun vv S' => vv = some (0, (Q_copy A i j o k n).1) ∧ RR S' (Q_copy A i j o k n).2 ∧ ∀ b, ¬ (71 ≤ b ∧ b < 91) → S' b = S b) := by
  refine ⟨Nat.le_of_ble_eq_true rfl, ?_⟩
  show Rn k_M_copy 0 [(2, 71), (0, i), (0, j), (0, o), (0, k), (0, n), (9, 0)] [] S _
  refine R_lo (nx := 1) rfl rfl rfl rfl ?_
  refine R_call1 (nx := 4) (as := [(0, i)]) (rest := []) rfl rfl (fun _ _ => rfl) rfl rfl rfl rfl rfl rfl rfl rfl (Cl.mono (c_M_isSheet S i) ?_)
  rintro _ _ (⟨rfl, b1, rfl⟩ | ⟨rfl, b1, rfl⟩)
  ·
    try have k1 := hRR.2.2.2.2.2 i b1.1 b1.2
    try have ka1 := k1.1
    try have kz1 := k1.2.1
    try have q1 := hV.2.2.2.2.2 i b1.1 b1.2
    try have qa1 := q1.1
    try have qz1 := q1.2
    refine ⟨_, rfl, ?_⟩
    refine R_ifF (nx := 7) rfl rfl rfl ?_
    refine R_lo (nx := 8) rfl rfl rfl rfl ?_
    refine R_call1 (nx := 11) (as := [(0, o)]) (rest := []) rfl rfl (fun _ _ => rfl) rfl rfl rfl rfl rfl rfl rfl rfl (Cl.mono (c_M_isSheet S o) ?_)
    rintro _ _ (⟨rfl, b8, rfl⟩ | ⟨rfl, b8, rfl⟩)
    ·
      try have k8 := hRR.2.2.2.2.2 o b8.1 b8.2
      try have ka8 := k8.1
      try have kz8 := k8.2.1
      try have q8 := hV.2.2.2.2.2 o b8.1 b8.2
      try have qa8 := q8.1
      try have qz8 := q8.2
      refine ⟨_, rfl, ?_⟩
      refine R_ifT (tg := 16) rfl rfl rfl ?_
      refine R_lo (nx := 17) rfl rfl rfl rfl ?_
      refine R_get (nx := 20) (w := (2, 87)) rfl rfl rfl rfl ?_
      refine R_lo (nx := 21) rfl rfl rfl rfl ?_
      refine R_iald (nx := 22) rfl rfl (mm_el_ok 1 4 (by decide) rfl (by decide) (by omega) (by omega)) ?_
      rw [ka1]
      refine R_if (nx := 25) (tg := 34) rfl rfl rfl (mm_cnd_lt _ _) (fun c22 => ?_) (fun c22 => ?_)
      ·
        have e22 : Aso A i = -1 := by omega
        refine R_op (nx := 36) rfl rfl rfl ?_
        refine R_ret rfl (fun _ _ => rfl) rfl rfl ?_
        rw [show Q_copy A i j o k n = ((-11), A) from by simp only [Q_copy, b1, b8, c22, e22, ifo, ifm, ifp, iffq, ↓reduceIte, ite_self, and_self, and_true, true_and, and_false, false_and, or_true, true_or, or_false, false_or, or_self, not_true_eq_false, not_false_eq_true, ne_eq]]; exact ⟨rfl, hRR, fun b _ => rfl⟩
      ·
        have e22 : ¬ Aso A i = -1 := by omega
        refine R_lo (nx := 26) rfl rfl rfl rfl ?_
        refine R_get (nx := 29) (w := (2, 87)) rfl rfl rfl rfl ?_
        refine R_lo (nx := 30) rfl rfl rfl rfl ?_
        refine R_iald (nx := 31) rfl rfl (mm_el_ok 1 4 (by decide) rfl (by decide) (by omega) (by omega)) ?_
        rw [ka8]
        refine R_if (nx := 34) (tg := 37) rfl rfl rfl (mm_cnd_ge _ _) (fun c31 => ?_) (fun c31 => ?_)
        ·
          have e31 : ¬ Aso A o = -1 := by omega
          refine R_lo (nx := 38) rfl rfl rfl rfl ?_
          refine R_get (nx := 41) (w := (2, 87)) rfl rfl rfl rfl ?_
          refine R_lo (nx := 42) rfl rfl rfl rfl ?_
          refine R_iald (nx := 43) rfl rfl (mm_el_ok 1 4 (by decide) rfl (by decide) (by omega) (by omega)) ?_
          rw [ka1]
          refine R_lo (nx := 44) rfl rfl rfl rfl ?_
          refine R_get (nx := 47) (w := (2, 87)) rfl rfl rfl rfl ?_
          refine R_lo (nx := 48) rfl rfl rfl rfl ?_
          refine R_iald (nx := 49) rfl rfl (mm_el_ok 1 4 (by decide) rfl (by decide) (by omega) (by omega)) ?_
          rw [ka8]
          refine R_icmp (nx := 52) (tg := 55) rfl rfl rfl (mm_cnd_eq _ _) (fun c49 => ?_) (fun c49 => ?_)
          ·
            refine R_lo (nx := 56) rfl rfl rfl rfl ?_
            refine R_lo (nx := 57) rfl rfl rfl rfl ?_
            refine R_lo (nx := 58) rfl rfl rfl rfl ?_
            refine R_lo (nx := 60) rfl rfl rfl rfl ?_
            refine R_call1 (nx := 63) (as := [(2, 71), (0, i), (0, j), (0, n)]) (rest := []) rfl rfl (fun _ _ => rfl) rfl rfl rfl rfl rfl rfl rfl rfl (Cl.mono (c_M_isOutside S i j n (Asz A i) (by omega) (by omega) (by omega) (by first | assumption | exact ⟨by omega, by omega⟩) (by first | assumption | exact ⟨by omega, by omega⟩)) ?_)
            rintro _ _ (⟨rfl, b60, rfl⟩ | ⟨rfl, b60, rfl⟩)
            ·
              refine ⟨_, rfl, ?_⟩
              refine R_ifT (tg := 78) rfl rfl rfl ?_
              refine R_op (nx := 80) rfl rfl rfl ?_
              refine R_ret rfl (fun _ _ => rfl) rfl rfl ?_
              rw [show Q_copy A i j o k n = ((-12), A) from by simp only [Q_copy, b1, b8, c22, e22, c31, e31, c49, b60, ifo, ifm, ifp, iffq, ↓reduceIte, ite_self, and_self, and_true, true_and, and_false, false_and, or_true, true_or, or_false, false_or, or_self, not_true_eq_false, not_false_eq_true, ne_eq]]; exact ⟨rfl, hRR, fun b _ => rfl⟩
            ·
              have o60 := b60
              unfold Outs at o60
              refine ⟨_, rfl, ?_⟩
              refine R_ifF (nx := 66) rfl rfl rfl ?_
              refine R_lo (nx := 67) rfl rfl rfl rfl ?_
              refine R_lo (nx := 68) rfl rfl rfl rfl ?_
              refine R_lo (nx := 70) rfl rfl rfl rfl ?_
              refine R_lo (nx := 72) rfl rfl rfl rfl ?_
              refine R_call1 (nx := 75) (as := [(2, 71), (0, o), (0, k), (0, n)]) (rest := []) rfl rfl (fun _ _ => rfl) rfl rfl rfl rfl rfl rfl rfl rfl (Cl.mono (c_M_isOutside S o k n (Asz A o) (by omega) (by omega) (by omega) (by first | assumption | exact ⟨by omega, by omega⟩) (by first | assumption | exact ⟨by omega, by omega⟩)) ?_)
              rintro _ _ (⟨rfl, b72, rfl⟩ | ⟨rfl, b72, rfl⟩)
              ·
                refine ⟨_, rfl, ?_⟩
                refine R_ifF (nx := 78) rfl rfl rfl ?_
                refine R_op (nx := 80) rfl rfl rfl ?_
                refine R_ret rfl (fun _ _ => rfl) rfl rfl ?_
                rw [show Q_copy A i j o k n = ((-12), A) from by simp only [Q_copy, b1, b8, c22, e22, c31, e31, c49, b60, b72, ifo, ifm, ifp, iffq, ↓reduceIte, ite_self, and_self, and_true, true_and, and_false, false_and, or_true, true_or, or_false, false_or, or_self, not_true_eq_false, not_false_eq_true, ne_eq]]; exact ⟨rfl, hRR, fun b _ => rfl⟩
              ·
                have o72 := b72
                unfold Outs at o72
                refine ⟨_, rfl, ?_⟩
                refine R_ifT (tg := 81) rfl rfl rfl ?_
                refine R_op (nx := 82) rfl rfl rfl ?_
                refine R_lo (nx := 84) (ls' := [(2, 71), (0, i), (0, j), (0, o), (0, k), (0, n), (0, 0)]) rfl rfl rfl rfl ?_
                have L84 : ∀ (f84 : Nat) (S1 : mm_S) (p : Int), (n - p).toNat < f84 → (0 ≤ p ∧ p ≤ n) → (∀ q, 0 ≤ q → q < p → S1 90 q = Apl A i (j + q)) → (∀ b, b ≠ 90 → S1 b = S b) → Rn k_M_copy 84 [(2, 71), (0, i), (0, j), (0, o), (0, k), (0, n), (0, p)] [] S1 (fun vv S' => vv = some (0, (Q_copy A i j o k n).1) ∧ RR S' (Q_copy A i j o k n).2 ∧ ∀ b, ¬ (71 ≤ b ∧ b < 91) → S' b = S b) := by
                  intro f84
                  induction f84 with
                  | zero => intro S1 p hm84; exact absurd hm84 (Nat.not_lt_zero _)
                  | succ f84 ih84 =>
                    intro S1 p hm84 hp h9 hF
                    have e89 := hF 89 (by decide)
                    refine R_lo (nx := 86) rfl rfl rfl rfl ?_
                    refine R_lo (nx := 88) rfl rfl rfl rfl ?_
                    refine R_icmp (nx := 91) (tg := 118) rfl rfl rfl (mm_cnd_ge _ _) (fun c88 => ?_) (fun c88 => ?_)
                    ·
                      refine R_op (nx := 119) rfl rfl rfl ?_
                      refine R_lo (nx := 121) (ls' := [(2, 71), (0, i), (0, j), (0, o), (0, k), (0, n), (0, 0)]) rfl rfl rfl rfl ?_
                      have L121 : ∀ (f121 : Nat) (S2 : mm_S) (p : Int), (n - p).toNat < f121 → (0 ≤ p ∧ p ≤ n) → (∀ q, 0 ≤ q → q < n → S2 90 q = Apl A i (j + q)) → (∀ i2 q, 0 ≤ q → q < 40 → S2 89 (40 * i2 + q) = if i2 = o ∧ (k ≤ q ∧ q < k + p) then Apl A i (j + (q - k)) else S 89 (40 * i2 + q)) → (∀ b, b ≠ 89 → b ≠ 90 → S2 b = S b) → Rn k_M_copy 121 [(2, 71), (0, i), (0, j), (0, o), (0, k), (0, n), (0, p)] [] S2 (fun vv S' => vv = some (0, (Q_copy A i j o k n).1) ∧ RR S' (Q_copy A i j o k n).2 ∧ ∀ b, ¬ (71 ≤ b ∧ b < 91) → S' b = S b) := by
                        intro f121
                        induction f121 with
                        | zero => intro S2 p hm121; exact absurd hm121 (Nat.not_lt_zero _)
                        | succ f121 ih121 =>
                          intro S2 p hm121 hp g9 g8 gF
                          refine R_lo (nx := 123) rfl rfl rfl rfl ?_
                          refine R_lo (nx := 125) rfl rfl rfl rfl ?_
                          refine R_icmp (nx := 128) (tg := 156) rfl rfl rfl (mm_cnd_ge _ _) (fun c125 => ?_) (fun c125 => ?_)
                          ·
                            refine R_lo (nx := 158) rfl rfl rfl rfl ?_
                            refine R_ret rfl (fun _ _ => rfl) rfl rfl ?_
                            rw [show Q_copy A i j o k n = (n, Ash A o (Aso A o, Asz A o, fun p => if k ≤ p ∧ p < k + n then Apl A i (j + (p - k)) else Apl A o p)) from by simp only [Q_copy, b1, b8, c22, e22, c31, e31, c49, b60, b72, c88, c125, ifo, ifm, ifp, iffq, ↓reduceIte, ite_self, and_self, and_true, true_and, and_false, false_and, or_true, true_or, or_false, false_or, or_self, not_true_eq_false, not_false_eq_true, ne_eq]]; exact ⟨rfl, hRR.sh (gF 71 (by decide) (by decide)) (fun b hb => gF b (by omega) (by omega)) (fun q => by rw [gF 87 (by decide) (by decide), ← ka8]; split; rename_i e; rw [e]; rfl) (fun q => by rw [gF 88 (by decide) (by decide), ← kz8]; split; rename_i e; rw [e]; rfl) (fun i2 q h0 h1 => by
                              rw [g8 i2 q h0 h1]
                              have ep : p = n := by omega
                              by_cases e2 : i2 = o
                              · rw [if_pos e2]
                                refine ifc (by omega) rfl ?_
                                rw [e2]; exact k8.2.2 q h0 h1
                              · rw [if_neg e2, if_neg (fun z => e2 z.1)]), fun b hb => gF b (by omega) (by omega)⟩
                          ·
                            refine R_lo (nx := 129) rfl rfl rfl rfl ?_
                            refine R_get (nx := 132) (w := (2, 89)) rfl rfl rfl rfl ?_
                            refine R_op (nx := 134) rfl rfl rfl ?_
                            refine R_lo (nx := 135) rfl rfl rfl rfl ?_
                            refine R_imul (nx := 136) (z := (40 * o)) rfl rfl rfl ⟨by omega, by omega⟩ ?_
                            refine R_lo (nx := 138) rfl rfl rfl rfl ?_
                            refine R_iadd (nx := 139) (z := ((40 * o) + k)) rfl rfl rfl ⟨by omega, by omega⟩ ?_
                            refine R_lo (nx := 141) rfl rfl rfl rfl ?_
                            refine R_iadd (nx := 142) (z := (((40 * o) + k) + p)) rfl rfl rfl ⟨by omega, by omega⟩ ?_
                            refine R_lo (nx := 143) rfl rfl rfl rfl ?_
                            refine R_get (nx := 146) (w := (2, 90)) rfl rfl rfl rfl ?_
                            refine R_lo (nx := 148) rfl rfl rfl rfl ?_
                            refine R_lald (nx := 149) rfl rfl (mm_el_ok 2 40 (by decide) rfl (by decide) (by omega) (by omega)) ?_
                            refine R_last (nx := 150) rfl rfl (mm_el_ok 2 160 (by decide) rfl (by decide) (by omega) (by omega)) ?_
                            refine R_iinc (nx := 153) (z := (p + 1)) (ls' := [(2, 71), (0, i), (0, j), (0, o), (0, k), (0, n), (0, (p + 1))]) rfl rfl rfl rfl ⟨by omega, by omega⟩ rfl ?_
                            refine R_op (nx := 156) (pc' := 121) rfl rfl rfl ?_
                            refine Rn.weak (ls' := [(2, 71), (0, i), (0, j), (0, o), (0, k), (0, n), (0, (p + 1))]) ⟨Or.inl rfl, ⟨Or.inl rfl, ⟨Or.inl rfl, ⟨Or.inl rfl, ⟨Or.inl rfl, ⟨Or.inl rfl, ⟨Or.inl rfl, trivial⟩⟩⟩⟩⟩⟩⟩ ?_
                            refine ih121 ((mm_up S2 89 (((40 * o) + k) + p) (S2 90 p))) ((p + 1)) ?_ ?_ ?_ ?_ ?_
                            · omega
                            · omega
                            · intro q h0 h1; rw [mm_unq (by decide)]; exact g9 q h0 h1
                            · intro i2 q h0 h1
                              by_cases e : i2 = o ∧ q = k + p
                              · rw [e.1, e.2, if_pos (by omega), show 40 * o + (k + p) = 40 * o + k + p by omega, mm_ua, g9 p (by omega) (by omega), show k + p - k = p by omega]
                              · rw [mm_uk (by omega), g8 i2 q h0 h1]; exact ifc (by omega) rfl rfl
                            · intro b hb hb2; rw [mm_unq hb]; exact gF b hb hb2
                      refine Rn.weak (ls' := [(2, 71), (0, i), (0, j), (0, o), (0, k), (0, n), (0, 0)]) ⟨Or.inl rfl, ⟨Or.inl rfl, ⟨Or.inl rfl, ⟨Or.inl rfl, ⟨Or.inl rfl, ⟨Or.inl rfl, ⟨Or.inl rfl, trivial⟩⟩⟩⟩⟩⟩⟩ ?_
                      refine L121 ((n - (0)).toNat + 1) (S1) (0) (Nat.lt_succ_self _) ?_ ?_ ?_ ?_
                      · omega
                      · intro q h0 h1; exact h9 q h0 (by omega)
                      · intro i2 q h0 h1; rw [if_neg (by omega), hF 89 (by decide)]
                      · intro b hb hb2; exact hF b hb2
                    ·
                      refine R_lo (nx := 92) rfl rfl rfl rfl ?_
                      refine R_get (nx := 95) (w := (2, 90)) rfl rfl rfl rfl ?_
                      refine R_lo (nx := 97) rfl rfl rfl rfl ?_
                      refine R_lo (nx := 98) rfl rfl rfl rfl ?_
                      refine R_get (nx := 101) (w := (2, 89)) rfl rfl rfl rfl ?_
                      refine R_op (nx := 103) rfl rfl rfl ?_
                      refine R_lo (nx := 104) rfl rfl rfl rfl ?_
                      refine R_imul (nx := 105) (z := (40 * i)) rfl rfl rfl ⟨by omega, by omega⟩ ?_
                      refine R_lo (nx := 106) rfl rfl rfl rfl ?_
                      refine R_iadd (nx := 107) (z := ((40 * i) + j)) rfl rfl rfl ⟨by omega, by omega⟩ ?_
                      refine R_lo (nx := 109) rfl rfl rfl rfl ?_
                      refine R_iadd (nx := 110) (z := (((40 * i) + j) + p)) rfl rfl rfl ⟨by omega, by omega⟩ ?_
                      refine R_lald (nx := 111) rfl rfl (mm_el_ok 2 160 (by decide) rfl (by decide) (by omega) (by omega)) ?_
                      refine R_last (nx := 112) rfl rfl (mm_el_ok 2 40 (by decide) rfl (by decide) (by omega) (by omega)) ?_
                      refine R_iinc (nx := 115) (z := (p + 1)) (ls' := [(2, 71), (0, i), (0, j), (0, o), (0, k), (0, n), (0, (p + 1))]) rfl rfl rfl rfl ⟨by omega, by omega⟩ rfl ?_
                      refine R_op (nx := 118) (pc' := 84) rfl rfl rfl ?_
                      refine Rn.weak (ls' := [(2, 71), (0, i), (0, j), (0, o), (0, k), (0, n), (0, (p + 1))]) ⟨Or.inl rfl, ⟨Or.inl rfl, ⟨Or.inl rfl, ⟨Or.inl rfl, ⟨Or.inl rfl, ⟨Or.inl rfl, ⟨Or.inl rfl, trivial⟩⟩⟩⟩⟩⟩⟩ ?_
                      refine ih84 ((mm_up S1 90 p (S1 89 (((40 * i) + j) + p)))) ((p + 1)) ?_ ?_ ?_ ?_
                      · omega
                      · omega
                      · intro q h0 h1
                        by_cases e : q = p
                        · rw [e, mm_ua, e89, show 40 * i + j + p = 40 * i + (j + p) by omega]; exact k1.2.2 (j + p) (by omega) (by omega)
                        · rw [mm_uk e]; exact h9 q h0 (by omega)
                      · intro b hb; rw [mm_unq hb]; exact hF b hb
                refine Rn.weak (ls' := [(2, 71), (0, i), (0, j), (0, o), (0, k), (0, n), (0, 0)]) ⟨Or.inl rfl, ⟨Or.inl rfl, ⟨Or.inl rfl, ⟨Or.inl rfl, ⟨Or.inl rfl, ⟨Or.inl rfl, ⟨Or.inl rfl, trivial⟩⟩⟩⟩⟩⟩⟩ ?_
                refine L84 ((n - (0)).toNat + 1) (S) (0) (Nat.lt_succ_self _) ?_ ?_ ?_
                · omega
                · intro q h0 h1; omega
                · intro b hb; rfl
          ·
            refine R_op (nx := 54) rfl rfl rfl ?_
            refine R_ret rfl (fun _ _ => rfl) rfl rfl ?_
            rw [show Q_copy A i j o k n = ((-13), A) from by simp only [Q_copy, b1, b8, c22, e22, c31, e31, c49, ifo, ifm, ifp, iffq, ↓reduceIte, ite_self, and_self, and_true, true_and, and_false, false_and, or_true, true_or, or_false, false_or, or_self, not_true_eq_false, not_false_eq_true, ne_eq]]; exact ⟨rfl, hRR, fun b _ => rfl⟩
        ·
          have e31 : Aso A o = -1 := by omega
          refine R_op (nx := 36) rfl rfl rfl ?_
          refine R_ret rfl (fun _ _ => rfl) rfl rfl ?_
          rw [show Q_copy A i j o k n = ((-11), A) from by simp only [Q_copy, b1, b8, c22, e22, c31, e31, ifo, ifm, ifp, iffq, ↓reduceIte, ite_self, and_self, and_true, true_and, and_false, false_and, or_true, true_or, or_false, false_or, or_self, not_true_eq_false, not_false_eq_true, ne_eq]]; exact ⟨rfl, hRR, fun b _ => rfl⟩
    ·
      try have k8 := hRR.2.2.2.2.2 o b8.1 b8.2
      try have ka8 := k8.1
      try have kz8 := k8.2.1
      try have q8 := hV.2.2.2.2.2 o b8.1 b8.2
      try have qa8 := q8.1
      try have qz8 := q8.2
      refine ⟨_, rfl, ?_⟩
      refine R_ifF (nx := 14) rfl rfl rfl ?_
      refine R_op (nx := 15) rfl rfl rfl ?_
      refine R_ret rfl (fun _ _ => rfl) rfl rfl ?_
      rw [show Q_copy A i j o k n = ((-1), A) from by simp only [Q_copy, b1, b8, ifo, ifm, ifp, iffq, ↓reduceIte, ite_self, and_self, and_true, true_and, and_false, false_and, or_true, true_or, or_false, false_or, or_self, not_true_eq_false, not_false_eq_true, ne_eq]]; exact ⟨rfl, hRR, fun b _ => rfl⟩
  ·
    try have k1 := hRR.2.2.2.2.2 i b1.1 b1.2
    try have ka1 := k1.1
    try have kz1 := k1.2.1
    try have q1 := hV.2.2.2.2.2 i b1.1 b1.2
    try have qa1 := q1.1
    try have qz1 := q1.2
    refine ⟨_, rfl, ?_⟩
    refine R_ifT (tg := 14) rfl rfl rfl ?_
    refine R_op (nx := 15) rfl rfl rfl ?_
    refine R_ret rfl (fun _ _ => rfl) rfl rfl ?_
    rw [show Q_copy A i j o k n = ((-1), A) from by simp only [Q_copy, b1, ifo, ifm, ifp, iffq, ↓reduceIte, ite_self, and_self, and_true, true_and, and_false, false_and, or_true, true_or, or_false, false_or, or_self, not_true_eq_false, not_false_eq_true, ne_eq]]; exact ⟨rfl, hRR, fun b _ => rfl⟩

set_option maxRecDepth 20000 in
set_option maxHeartbeats 4000000 in
theorem c_M_lacks (S : mm_S) (A : mm_A) (hRR : RR S A) (hV : Vs A) (i j n : Int) (hi : 0 ≤ i ∧ i < 4) (hj : mm_r32 j) (hn : mm_r32 n) : Cl 112 [(2, 71), (0, i), (0, j), (0, n)] S (fun v S' => v = some (0, lackv (Aso A i) (Asz A i) j n) ∧ S = S') := by
  refine ⟨Nat.le_of_ble_eq_true rfl, ?_⟩
  show Rn k_M_lacks 0 [(2, 71), (0, i), (0, j), (0, n)] [] S _
  have k1 := hRR.2.2.2.2.2 i hi.1 hi.2
  have ka1 := k1.1
  have kz1 := k1.2.1
  have q1 := hV.2.2.2.2.2 i hi.1 hi.2
  have qa1 := q1.1
  have qz1 := q1.2
  refine R_lo (nx := 1) rfl rfl rfl rfl ?_
  refine R_get (nx := 4) (w := (2, 87)) rfl rfl rfl rfl ?_
  refine R_lo (nx := 5) rfl rfl rfl rfl ?_
  refine R_iald (nx := 6) rfl rfl (mm_el_ok 1 4 (by decide) rfl (by decide) (by omega) (by omega)) ?_
  rw [ka1]
  refine R_if (nx := 9) (tg := 12) rfl rfl rfl (mm_cnd_ge _ _) (fun c6 => ?_) (fun c6 => ?_)
  ·
    refine R_lo (nx := 13) rfl rfl rfl rfl ?_
    refine R_get (nx := 16) (w := (2, 87)) rfl rfl rfl rfl ?_
    refine R_lo (nx := 17) rfl rfl rfl rfl ?_
    refine R_iald (nx := 18) rfl rfl (mm_el_ok 1 4 (by decide) rfl (by decide) (by omega) (by omega)) ?_
    rw [ka1]
    refine R_op (nx := 19) rfl rfl rfl ?_
    refine R_icmp (nx := 22) (tg := 27) rfl rfl rfl (mm_cnd_ne _ _) (fun c19 => ?_) (fun c19 => ?_)
    ·
      refine R_lo (nx := 28) rfl rfl rfl rfl ?_
      refine R_lo (nx := 29) rfl rfl rfl rfl ?_
      refine R_lo (nx := 30) rfl rfl rfl rfl ?_
      refine R_lo (nx := 31) rfl rfl rfl rfl ?_
      refine R_call1 (nx := 34) (as := [(2, 71), (0, i), (0, j), (0, n)]) (rest := []) rfl rfl (fun _ _ => rfl) rfl rfl rfl rfl rfl rfl rfl rfl (Cl.mono (c_M_isOutside S i j n (Asz A i) (by omega) (by omega) (by omega) (by first | assumption | exact ⟨by omega, by omega⟩) (by first | assumption | exact ⟨by omega, by omega⟩)) ?_)
      rintro _ _ (⟨rfl, b31, rfl⟩ | ⟨rfl, b31, rfl⟩)
      ·
        refine ⟨_, rfl, ?_⟩
        refine R_ifF (nx := 37) rfl rfl rfl ?_
        refine R_op (nx := 39) rfl rfl rfl ?_
        refine R_op (nx := 42) (pc' := 43) rfl rfl rfl ?_
        refine R_ret rfl (fun _ _ => rfl) rfl rfl ?_
        unfold lackv ifo
        first | exact ⟨by rw [if_pos (by omega)], rfl⟩ | exact ⟨by rw [if_neg (by omega), if_pos (by omega)], rfl⟩ | exact ⟨by rw [if_neg (by omega), if_neg (by omega), if_pos b31], rfl⟩ | exact ⟨by rw [if_neg (by omega), if_neg (by omega), if_neg b31], rfl⟩
      ·
        refine ⟨_, rfl, ?_⟩
        refine R_ifT (tg := 42) rfl rfl rfl ?_
        refine R_op (nx := 43) rfl rfl rfl ?_
        refine R_ret rfl (fun _ _ => rfl) rfl rfl ?_
        unfold lackv ifo
        first | exact ⟨by rw [if_pos (by omega)], rfl⟩ | exact ⟨by rw [if_neg (by omega), if_pos (by omega)], rfl⟩ | exact ⟨by rw [if_neg (by omega), if_neg (by omega), if_pos b31], rfl⟩ | exact ⟨by rw [if_neg (by omega), if_neg (by omega), if_neg b31], rfl⟩
    ·
      replace c19 := Classical.not_not.mp c19
      refine R_op (nx := 24) rfl rfl rfl ?_
      refine R_op (nx := 27) (pc' := 43) rfl rfl rfl ?_
      refine R_ret rfl (fun _ _ => rfl) rfl rfl ?_
      unfold lackv ifo
      first | exact ⟨by rw [if_pos (by omega)], rfl⟩ | exact ⟨by rw [if_neg (by omega), if_pos (by omega)], rfl⟩ | exact ⟨by rw [if_neg (by omega), if_neg (by omega), if_pos b31], rfl⟩ | exact ⟨by rw [if_neg (by omega), if_neg (by omega), if_neg b31], rfl⟩
  ·
    refine R_op (nx := 11) rfl rfl rfl ?_
    refine R_ret rfl (fun _ _ => rfl) rfl rfl ?_
    unfold lackv ifo
    first | exact ⟨by rw [if_pos (by omega)], rfl⟩ | exact ⟨by rw [if_neg (by omega), if_pos (by omega)], rfl⟩ | exact ⟨by rw [if_neg (by omega), if_neg (by omega), if_pos b31], rfl⟩ | exact ⟨by rw [if_neg (by omega), if_neg (by omega), if_neg b31], rfl⟩

set_option maxRecDepth 20000 in
set_option maxHeartbeats 4000000 in
theorem c_P_refusalOfEdge (S : mm_S) (a : Int) (hA : mm_isS a) (so sz j n : Int) (h0 : S a 0 = so) (h1 : S a 1 = sz) (hz : 0 ≤ sz ∧ sz ≤ 40) (hj : mm_r32 j) : Cl 43 [(2, a), (0, j), (0, n)] S (fun v S' => v = some (0, lackv so sz j n) ∧ S = S') := by
  refine ⟨Nat.le_of_ble_eq_true rfl, ?_⟩
  show Rn k_P_refusalOfEdge 0 [(2, a), (0, j), (0, n)] [] S _
  refine R_lo (nx := 1) rfl rfl rfl rfl ?_
  refine R_get (nx := 4) (w := (0, (S a 0))) rfl rfl (isS_ob hA) rfl ?_
  refine R_op (nx := 5) rfl rfl rfl ?_
  refine R_icmp (nx := 8) (tg := 11) rfl rfl rfl (mm_cnd_ne _ _) (fun c5 => ?_) (fun c5 => ?_)
  ·
    refine R_lo (nx := 12) rfl rfl rfl rfl ?_
    refine R_get (nx := 15) (w := (0, (S a 0))) rfl rfl (isS_ob hA) rfl ?_
    refine R_op (nx := 16) rfl rfl rfl ?_
    refine R_icmp (nx := 19) (tg := 22) rfl rfl rfl (mm_cnd_ne _ _) (fun c16 => ?_) (fun c16 => ?_)
    ·
      refine R_lo (nx := 23) rfl rfl rfl rfl ?_
      refine R_lo (nx := 24) rfl rfl rfl rfl ?_
      refine R_lo (nx := 25) rfl rfl rfl rfl ?_
      refine R_call1 (nx := 28) (as := [(2, a), (0, j), (0, n)]) (rest := []) rfl rfl (fun _ _ => rfl) rfl rfl rfl rfl rfl rfl (isS_rc hA _) rfl (Cl.mono (c_Sh_isOutside S a hA sz j n h1 hz hj) ?_)
      rintro _ _ (⟨rfl, b25, rfl⟩ | ⟨rfl, b25, rfl⟩)
      ·
        refine ⟨_, rfl, ?_⟩
        refine R_ifF (nx := 31) rfl rfl rfl ?_
        refine R_op (nx := 33) rfl rfl rfl ?_
        refine R_op (nx := 36) (pc' := 37) rfl rfl rfl ?_
        refine R_ret rfl (fun _ _ => rfl) rfl rfl ?_
        unfold lackv ifo
        first | exact ⟨by rw [if_pos (by omega)], rfl⟩ | exact ⟨by rw [if_neg (by omega), if_pos (by omega)], rfl⟩ | exact ⟨by rw [if_neg (by omega), if_neg (by omega), if_pos b25], rfl⟩ | exact ⟨by rw [if_neg (by omega), if_neg (by omega), if_neg b25], rfl⟩
      ·
        refine ⟨_, rfl, ?_⟩
        refine R_ifT (tg := 36) rfl rfl rfl ?_
        refine R_op (nx := 37) rfl rfl rfl ?_
        refine R_ret rfl (fun _ _ => rfl) rfl rfl ?_
        unfold lackv ifo
        first | exact ⟨by rw [if_pos (by omega)], rfl⟩ | exact ⟨by rw [if_neg (by omega), if_pos (by omega)], rfl⟩ | exact ⟨by rw [if_neg (by omega), if_neg (by omega), if_pos b25], rfl⟩ | exact ⟨by rw [if_neg (by omega), if_neg (by omega), if_neg b25], rfl⟩
    ·
      replace c16 := Classical.not_not.mp c16
      refine R_op (nx := 21) rfl rfl rfl ?_
      refine R_ret rfl (fun _ _ => rfl) rfl rfl ?_
      unfold lackv ifo
      first | exact ⟨by rw [if_pos (by omega)], rfl⟩ | exact ⟨by rw [if_neg (by omega), if_pos (by omega)], rfl⟩ | exact ⟨by rw [if_neg (by omega), if_neg (by omega), if_pos b25], rfl⟩ | exact ⟨by rw [if_neg (by omega), if_neg (by omega), if_neg b25], rfl⟩
  ·
    replace c5 := Classical.not_not.mp c5
    refine R_op (nx := 10) rfl rfl rfl ?_
    refine R_ret rfl (fun _ _ => rfl) rfl rfl ?_
    unfold lackv ifo
    first | exact ⟨by rw [if_pos (by omega)], rfl⟩ | exact ⟨by rw [if_neg (by omega), if_pos (by omega)], rfl⟩ | exact ⟨by rw [if_neg (by omega), if_neg (by omega), if_pos b25], rfl⟩ | exact ⟨by rw [if_neg (by omega), if_neg (by omega), if_neg b25], rfl⟩
