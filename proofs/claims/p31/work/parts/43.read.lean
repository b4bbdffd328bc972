/-! The class's reader. -/
def TPc (S : mm_S) (L : Int) (T : Int → Int) : Prop := (0 ≤ L ∧ L ≤ 200) ∧ S 19 0 = L ∧ ∀ j, 0 ≤ j → j < L → (-128 ≤ S 20 j ∧ S 20 j ≤ 127) ∧ S 20 j % 256 = T j
def rdS (S : mm_S) (p f n q t : Int) : mm_S := fun a k => if a = 21 then (if k = 2 then p else if k = 3 then f else if k = 4 then n else if k = 5 then q else if k = 6 then t else S 21 k) else S a k
theorem rdS_2 (S : mm_S) (p f n q t z : Int) : mm_up (rdS S p f n q t) 21 2 z = rdS S z f n q t := by
  funext a k
  by_cases ha : a = 21 <;> by_cases hk : k = 2 <;> simp [mm_up, rdS, ha, hk]
theorem rdS_3 (S : mm_S) (p f n q t z : Int) : mm_up (rdS S p f n q t) 21 3 z = rdS S p z n q t := by
  funext a k
  by_cases ha : a = 21 <;> by_cases hk : k = 3 <;> simp [mm_up, rdS, ha, hk]
theorem rdS_4 (S : mm_S) (p f n q t z : Int) : mm_up (rdS S p f n q t) 21 4 z = rdS S p f z q t := by
  funext a k
  by_cases ha : a = 21 <;> by_cases hk : k = 4 <;> simp [mm_up, rdS, ha, hk]
theorem rdS_5 (S : mm_S) (p f n q t z : Int) : mm_up (rdS S p f n q t) 21 5 z = rdS S p f n z t := by
  funext a k
  by_cases ha : a = 21 <;> by_cases hk : k = 5 <;> simp [mm_up, rdS, ha, hk]
theorem rdS_6 (S : mm_S) (p f n q t z : Int) : mm_up (rdS S p f n q t) 21 6 z = rdS S p f n q z := by
  funext a k
  by_cases ha : a = 21 <;> by_cases hk : k = 6 <;> simp [mm_up, rdS, ha, hk]
theorem rdS_ne {S : mm_S} {p f n q t b : Int} (h : b ≠ 21) : rdS S p f n q t b = S b := by
  funext k
  exact if_neg h
theorem rdS_self {S S' : mm_S} {p f n q t : Int} (h : S' 21 = rdS S p f n q t 21) : S' = rdS S' p f n q t := by
  funext a k
  by_cases ha : a = 21
  · subst ha
    have e := congrFun h k
    have e2 : rdS S' p f n q t 21 k = if k = 2 then p else if k = 3 then f else if k = 4 then n else if k = 5 then q else if k = 6 then t else S' 21 k := if_pos rfl
    have e3 : rdS S p f n q t 21 k = if k = 2 then p else if k = 3 then f else if k = 4 then n else if k = 5 then q else if k = 6 then t else S 21 k := if_pos rfl
    rw [e2]
    rw [e3] at e
    by_cases h1 : k = 2
    · rw [if_pos h1] at e ⊢; exact e
    · rw [if_neg h1] at e ⊢
      by_cases h2 : k = 3
      · rw [if_pos h2] at e ⊢; exact e
      · rw [if_neg h2] at e ⊢
        by_cases h3 : k = 4
        · rw [if_pos h3] at e ⊢; exact e
        · rw [if_neg h3] at e ⊢
          by_cases h4 : k = 5
          · rw [if_pos h4] at e ⊢; exact e
          · rw [if_neg h4] at e ⊢
            by_cases h5 : k = 6
            · rw [if_pos h5] at e ⊢; exact e
            · rw [if_neg h5]
  · exact (congrFun (rdS_ne ha) k).symm
theorem rdS_0 (S : mm_S) : rdS S (S 21 2) (S 21 3) (S 21 4) (S 21 5) (S 21 6) = S := by
  funext a k
  unfold rdS
  by_cases ha : a = 21
  · subst ha
    rw [if_pos rfl]
    split
    · rename_i e; rw [e]
    · split
      · rename_i e; rw [e]
      · split
        · rename_i e; rw [e]
        · split
          · rename_i e; rw [e]
          · split
            · rename_i e; rw [e]
            · rfl
  · exact if_neg ha
theorem TPc.rd {S : mm_S} {L : Int} {T : Int → Int} {p f n q t : Int} (h : TPc S L T) : TPc (rdS S p f n q t) L T := by
  unfold TPc
  rw [rdS_ne (by decide), rdS_ne (by decide)]
  exact h
theorem TPc.fr {S S' : mm_S} {L : Int} {T : Int → Int} (h : TPc S L T) (h1 : S' 19 = S 19) (h2 : S' 20 = S 20) : TPc S' L T := by
  unfold TPc
  rw [h1, h2]
  exact h
theorem MC.rd {S : mm_S} {a : Int} {K : CX} {p f n q t : Int} (h : MC S a K) (hb : ¬ (a ≤ 21 ∧ 21 ≤ a + 4)) : MC (rdS S p f n q t) a K := h.fr fun c h1 h2 => rdS_ne (by omega)
theorem i32and (z : Int32) : (z &&& Int32.ofInt 255).toInt = z.toInt % 256 := by
  rw [← Int32.toInt_toBitVec, ← Int32.toInt_toBitVec, Int32.toBitVec_and]
  have e : (Int32.ofInt 255).toBitVec = 255#32 := by decide
  rw [e]
  generalize z.toBitVec = b
  have h1 : (b &&& 255#32).toNat = b.toNat % 256 := by
    rw [BitVec.toNat_and]
    exact Nat.and_two_pow_sub_one_eq_mod b.toNat 8
  rw [BitVec.toInt_eq_toNat_cond, BitVec.toInt_eq_toNat_cond, h1]
  have := b.isLt
  split <;> split <;> omega
theorem tp_at {S : mm_S} {L : Int} {T : Int → Int} (h : TPc S L T) {i : Int} (h0 : 0 ≤ i) (h1 : i < L) : (Int32.ofInt (S 20 i) &&& Int32.ofInt 255).toInt = ct L T i := by
  obtain ⟨a, b⟩ := h.2.2 i h0 h1
  rw [i32and, Int32.toInt_ofInt_of_le (by omega) (by omega), b, ct_in h1]

set_option maxRecDepth 20000 in
set_option maxHeartbeats 4000000 in
theorem c_Tp_at (S : mm_S) (L : Int) (T : Int → Int) (hT : TPc S L T) (i : Int) (hi : 0 ≤ i) : Cl 170 [(2, 19), (0, i)] S (fun v S' => v = some (0, ct L T i) ∧ S = S') := by
  refine ⟨Nat.le_of_ble_eq_true rfl, ?_⟩
  show Rn k_Tp_at 0 [(2, 19), (0, i)] [] S _
  have hL := hT.1
  refine R_lo (nx := 1) rfl rfl rfl rfl ?_
  refine R_if (nx := 4) (tg := 32) rfl rfl rfl (mm_cnd_lt _ _) (fun c1 => ?_) (fun c1 => ?_)
  ·
    refine R_op (nx := 33) rfl rfl rfl ?_
    refine R_ret rfl (fun _ _ => rfl) rfl rfl ?_
    first | exact ⟨by rw [ct_out (by omega)], rfl⟩ | exact ⟨by rw [tp_at hT (by omega) (by omega)], rfl⟩
  ·
    refine R_lo (nx := 5) rfl rfl rfl rfl ?_
    refine R_lo (nx := 6) rfl rfl rfl rfl ?_
    refine R_get (nx := 9) (w := (0, (S 19 0))) rfl rfl rfl rfl ?_
    rw [hT.2.1]
    refine R_icmp (nx := 12) (tg := 32) rfl rfl rfl (mm_cnd_ge _ _) (fun c9 => ?_) (fun c9 => ?_)
    ·
      refine R_op (nx := 33) rfl rfl rfl ?_
      refine R_ret rfl (fun _ _ => rfl) rfl rfl ?_
      first | exact ⟨by rw [ct_out (by omega)], rfl⟩ | exact ⟨by rw [tp_at hT (by omega) (by omega)], rfl⟩
    ·
      refine R_lo (nx := 13) rfl rfl rfl rfl ?_
      refine R_op (nx := 16) rfl rfl rfl ?_
      refine R_icmp (nx := 19) (tg := 32) rfl rfl rfl (mm_cnd_ge _ _) (fun c16 => ?_) (fun c16 => ?_)
      ·
        refine R_op (nx := 33) rfl rfl rfl ?_
        refine R_ret rfl (fun _ _ => rfl) rfl rfl ?_
        first | exact ⟨by rw [ct_out (by omega)], rfl⟩ | exact ⟨by rw [tp_at hT (by omega) (by omega)], rfl⟩
      ·
        refine R_lo (nx := 20) rfl rfl rfl rfl ?_
        refine R_get (nx := 23) (w := (2, 20)) rfl rfl rfl rfl ?_
        refine R_lo (nx := 24) rfl rfl rfl rfl ?_
        refine R_bald (nx := 25) rfl rfl (mm_el_ok 3 200 (by decide) rfl (by decide) (by omega) (by omega)) ?_
        refine R_op (nx := 28) rfl rfl rfl ?_
        refine R_op (nx := 29) (st' := [(0, (Int32.ofInt (S 20 i) &&& Int32.ofInt 255).toInt)]) rfl rfl rfl ?_
        refine R_op (nx := 32) (pc' := 33) rfl rfl rfl ?_
        refine R_ret rfl (fun _ _ => rfl) rfl rfl ?_
        first | exact ⟨by rw [ct_out (by omega)], rfl⟩ | exact ⟨by rw [tp_at hT (by omega) (by omega)], rfl⟩

set_option maxRecDepth 20000 in
set_option maxHeartbeats 4000000 in
theorem c_Re_skipBlanks (S : mm_S) (L : Int) (T : Int → Int) (hT : TPc S L T) (p f n q t : Int) (hp : 0 ≤ p ∧ p ≤ L) (s : Int) (hs : sk L T p = s) : Cl 144 [(2, 21)] (rdS S p f n q t) (fun v S' => v = none ∧ S' = rdS S s f n q t) := by
  refine ⟨Nat.le_of_ble_eq_true rfl, ?_⟩
  show Rn k_Re_skipBlanks 0 [(2, 21)] [] (rdS S p f n q t) _
  have hL := hT.1
  have hsg := sk_ge L T p
  have hsl := sk_le (L := L) T hp.2
  rw [hs] at hsg hsl
  have L0 : ∀ (f0 : Nat) (p1 : Int), (L - p1).toNat < f0 → (0 ≤ p1 ∧ p1 ≤ L) → (sk L T p1 = s) → Rn k_Re_skipBlanks 0 [(2, 21)] [] (rdS S p1 f n q t) (fun v S' => v = none ∧ S' = rdS S s f n q t) := by
    intro f0
    induction f0 with
    | zero => intro p1 hm0; exact absurd hm0 (Nat.not_lt_zero _)
    | succ f0 ih0 =>
      intro p1 hm0 hp1 hk
      refine R_lo (nx := 1) rfl rfl rfl rfl ?_
      refine R_get (nx := 4) (w := (0, p1)) rfl rfl rfl rfl ?_
      refine R_lo (nx := 5) rfl rfl rfl rfl ?_
      refine R_get (nx := 8) (w := (2, 19)) rfl rfl rfl rfl ?_
      refine R_get (nx := 11) (w := (0, ((rdS S p1 f n q t) 19 0))) rfl rfl rfl rfl ?_
      rw [show ((rdS S p1 f n q t) 19 0) = L from (TPc.rd (by assumption)).2.1]
      refine R_icmp (nx := 14) (tg := 43) rfl rfl rfl (mm_cnd_ge _ _) (fun c11 => ?_) (fun c11 => ?_)
      ·
        have e11 : s = p1 := by rw [← hk]; exact sk_n (by omega)
        refine R_ret rfl (fun _ _ => rfl) rfl rfl ?_
        exact ⟨rfl, by rw [e11]⟩
      ·
        refine R_lo (nx := 15) rfl rfl rfl rfl ?_
        refine R_get (nx := 18) (w := (2, 19)) rfl rfl rfl rfl ?_
        refine R_lo (nx := 19) rfl rfl rfl rfl ?_
        refine R_get (nx := 22) (w := (0, p1)) rfl rfl rfl rfl ?_
        refine R_call1 (nx := 25) (as := [(2, 19), (0, p1)]) (rest := []) rfl rfl (fun _ _ => rfl) rfl rfl rfl rfl rfl rfl rfl rfl (Cl.mono (c_Tp_at (rdS S p1 f n q t) L T (TPc.rd (by assumption)) p1 (by omega)) ?_)
        rintro _ _ ⟨rfl, rfl⟩
        refine ⟨_, rfl, ?_⟩
        refine R_op (nx := 27) rfl rfl rfl ?_
        refine R_icmp (nx := 30) (tg := 43) rfl rfl rfl (mm_cnd_ne _ _) (fun c27 => ?_) (fun c27 => ?_)
        ·
          have e11 : s = p1 := by rw [← hk]; exact sk_n (fun z => c27 ((ct_in z.1).trans z.2))
          refine R_ret rfl (fun _ _ => rfl) rfl rfl ?_
          exact ⟨rfl, by rw [e11]⟩
        ·
          replace c27 := Classical.not_not.mp c27
          have e27 : sk L T (p1 + 1) = s := by rw [← hk]; exact (sk_y (by omega) ((ct_in (by omega)).symm.trans c27)).symm
          refine R_lo (nx := 31) rfl rfl rfl rfl ?_
          refine R_op (nx := 32) rfl rfl rfl ?_
          refine R_get (nx := 35) (w := (0, p1)) rfl rfl rfl rfl ?_
          refine R_op (nx := 36) rfl rfl rfl ?_
          refine R_iadd (nx := 37) (z := (p1 + 1)) rfl rfl rfl ⟨by omega, by omega⟩ ?_
          refine R_put (nx := 40) (kk := 2) rfl rfl rfl rfl rfl ?_
          rw [rdS_2]
          refine R_op (nx := 43) (pc' := 0) rfl rfl rfl ?_
          refine Rn.weak (ls' := [(2, 21)]) ⟨Or.inl rfl, trivial⟩ ?_
          refine ih0 (p1 + 1) ?_ ?_ ?_
          · omega
          · omega
          · exact e27
  refine Rn.weak (ls' := [(2, 21)]) ⟨Or.inl rfl, trivial⟩ ?_
  refine L0 ((L - (p)).toNat + 1) (p) (Nat.lt_succ_self _) ?_ ?_
  · omega
  · exact hs

set_option maxRecDepth 20000 in
set_option maxHeartbeats 4000000 in
theorem c_Re_isAtEnd (S : mm_S) (L : Int) (T : Int → Int) (hT : TPc S L T) (p f n q t : Int) (hp : 0 ≤ p ∧ p ≤ L) (s : Int) (hs : sk L T p = s) : Cl 143 [(2, 21)] (rdS S p f n q t) (fun v S' => (v = some (0, 1) ∧ ct L T s = -1 ∧ S' = rdS S s f n q t) ∨ (v = some (0, 0) ∧ ct L T s ≠ -1 ∧ S' = rdS S s f n q t)) := by
  refine ⟨Nat.le_of_ble_eq_true rfl, ?_⟩
  show Rn k_Re_isAtEnd 0 [(2, 21)] [] (rdS S p f n q t) _
  have hL := hT.1
  have hsg := sk_ge L T p
  have hsl := sk_le (L := L) T hp.2
  rw [hs] at hsg hsl
  refine R_lo (nx := 1) rfl rfl rfl rfl ?_
  refine R_call0 (nx := 4) (as := [(2, 21)]) (rest := []) rfl rfl (fun _ _ => rfl) rfl rfl rfl rfl rfl rfl rfl rfl (Cl.mono (c_Re_skipBlanks S L T hT p f n q t hp s hs) ?_)
  rintro _ _ ⟨rfl, rfl⟩
  refine ⟨rfl, ?_⟩
  refine R_lo (nx := 5) rfl rfl rfl rfl ?_
  refine R_get (nx := 8) (w := (2, 19)) rfl rfl rfl rfl ?_
  refine R_lo (nx := 9) rfl rfl rfl rfl ?_
  refine R_get (nx := 12) (w := (0, s)) rfl rfl rfl rfl ?_
  refine R_call1 (nx := 15) (as := [(2, 19), (0, s)]) (rest := []) rfl rfl (fun _ _ => rfl) rfl rfl rfl rfl rfl rfl rfl rfl (Cl.mono (c_Tp_at (rdS S s f n q t) L T (TPc.rd (by assumption)) s (by omega)) ?_)
  rintro _ _ ⟨rfl, rfl⟩
  refine ⟨_, rfl, ?_⟩
  refine R_op (nx := 16) rfl rfl rfl ?_
  refine R_icmp (nx := 19) (tg := 23) rfl rfl rfl (mm_cnd_ne _ _) (fun c16 => ?_) (fun c16 => ?_)
  ·
    refine R_op (nx := 24) rfl rfl rfl ?_
    refine R_ret rfl (fun _ _ => rfl) rfl rfl ?_
    first | exact Or.inl ⟨rfl, c16, rfl⟩ | exact Or.inr ⟨rfl, c16, rfl⟩
  ·
    replace c16 := Classical.not_not.mp c16
    refine R_op (nx := 20) rfl rfl rfl ?_
    refine R_op (nx := 23) (pc' := 24) rfl rfl rfl ?_
    refine R_ret rfl (fun _ _ => rfl) rfl rfl ?_
    first | exact Or.inl ⟨rfl, c16, rfl⟩ | exact Or.inr ⟨rfl, c16, rfl⟩

set_option maxRecDepth 20000 in
set_option maxHeartbeats 4000000 in
theorem c_Re_fails (S : mm_S) (L : Int) (T : Int → Int) (p f n q t : Int) (z : Int) : Cl 145 [(2, 21), (0, z)] (rdS S p f n q t) (fun v S' => v = some (0, 0) ∧ S' = rdS S p z n q t) := by
  refine ⟨Nat.le_of_ble_eq_true rfl, ?_⟩
  show Rn k_Re_fails 0 [(2, 21), (0, z)] [] (rdS S p f n q t) _
  refine R_lo (nx := 1) rfl rfl rfl rfl ?_
  refine R_lo (nx := 2) rfl rfl rfl rfl ?_
  refine R_put (nx := 5) (kk := 3) rfl rfl rfl rfl rfl ?_
  rw [rdS_3]
  refine R_op (nx := 6) rfl rfl rfl ?_
  refine R_ret rfl (fun _ _ => rfl) rfl rfl ?_
  exact ⟨rfl, rfl⟩

set_option maxRecDepth 20000 in
set_option maxHeartbeats 4000000 in
theorem c_Re_passes (S : mm_S) (L : Int) (T : Int → Int) (hT : TPc S L T) (p f n q t : Int) (hp : 0 ≤ p ∧ p ≤ L) (s : Int) (hs : sk L T p = s) (c : Int) : Cl 146 [(2, 21), (0, c)] (rdS S p f n q t) (fun v S' => (v = some (0, 1) ∧ ct L T s = c ∧ S' = rdS S (s + 1) f n q t) ∨ (v = some (0, 0) ∧ ct L T s ≠ c ∧ S' = rdS S s f n q t)) := by
  refine ⟨Nat.le_of_ble_eq_true rfl, ?_⟩
  show Rn k_Re_passes 0 [(2, 21), (0, c), (9, 0)] [] (rdS S p f n q t) _
  have hL := hT.1
  have hsg := sk_ge L T p
  have hsl := sk_le (L := L) T hp.2
  rw [hs] at hsg hsl
  refine R_lo (nx := 1) rfl rfl rfl rfl ?_
  refine R_call0 (nx := 4) (as := [(2, 21)]) (rest := []) rfl rfl (fun _ _ => rfl) rfl rfl rfl rfl rfl rfl rfl rfl (Cl.mono (c_Re_skipBlanks S L T hT p f n q t hp s hs) ?_)
  rintro _ _ ⟨rfl, rfl⟩
  refine ⟨rfl, ?_⟩
  refine R_lo (nx := 5) rfl rfl rfl rfl ?_
  refine R_get (nx := 8) (w := (2, 19)) rfl rfl rfl rfl ?_
  refine R_lo (nx := 9) rfl rfl rfl rfl ?_
  refine R_get (nx := 12) (w := (0, s)) rfl rfl rfl rfl ?_
  refine R_call1 (nx := 15) (as := [(2, 19), (0, s)]) (rest := []) rfl rfl (fun _ _ => rfl) rfl rfl rfl rfl rfl rfl rfl rfl (Cl.mono (c_Tp_at (rdS S s f n q t) L T (TPc.rd (by assumption)) s (by omega)) ?_)
  rintro _ _ ⟨rfl, rfl⟩
  refine ⟨_, rfl, ?_⟩
  refine R_lo (nx := 16) rfl rfl rfl rfl ?_
  refine R_icmp (nx := 19) (tg := 23) rfl rfl rfl (mm_cnd_ne _ _) (fun c16 => ?_) (fun c16 => ?_)
  ·
    refine R_op (nx := 24) rfl rfl rfl ?_
    refine R_lo (nx := 25) (ls' := [(2, 21), (0, c), (0, 0)]) rfl rfl rfl rfl ?_
    refine R_lo (nx := 26) rfl rfl rfl rfl ?_
    refine R_op (nx := 27) rfl rfl rfl ?_
    refine R_get (nx := 30) (w := (0, s)) rfl rfl rfl rfl ?_
    refine R_lo (nx := 31) rfl rfl rfl rfl ?_
    refine R_ifT (tg := 38) rfl rfl rfl ?_
    refine R_op (nx := 39) rfl rfl rfl ?_
    refine R_iadd (nx := 40) (z := (s + 0)) rfl rfl rfl ⟨by omega, by omega⟩ ?_
    refine R_put (nx := 43) (kk := 2) rfl rfl rfl rfl rfl ?_
    rw [rdS_2]
    refine R_lo (nx := 44) rfl rfl rfl rfl ?_
    refine R_ret rfl (fun _ _ => rfl) rfl rfl ?_
    first | exact Or.inl ⟨rfl, c16, rfl⟩ | exact Or.inr ⟨rfl, c16, by rw [Int.add_zero]⟩
  ·
    replace c16 := Classical.not_not.mp c16
    refine R_op (nx := 20) rfl rfl rfl ?_
    refine R_op (nx := 23) (pc' := 24) rfl rfl rfl ?_
    refine R_lo (nx := 25) (ls' := [(2, 21), (0, c), (0, 1)]) rfl rfl rfl rfl ?_
    refine R_lo (nx := 26) rfl rfl rfl rfl ?_
    refine R_op (nx := 27) rfl rfl rfl ?_
    refine R_get (nx := 30) (w := (0, s)) rfl rfl rfl rfl ?_
    refine R_lo (nx := 31) rfl rfl rfl rfl ?_
    refine R_ifF (nx := 34) rfl rfl rfl ?_
    refine R_op (nx := 35) rfl rfl rfl ?_
    refine R_op (nx := 38) (pc' := 39) rfl rfl rfl ?_
    refine R_iadd (nx := 40) (z := (s + 1)) rfl rfl rfl ⟨by omega, by omega⟩ ?_
    refine R_put (nx := 43) (kk := 2) rfl rfl rfl rfl rfl ?_
    rw [rdS_2]
    refine R_lo (nx := 44) rfl rfl rfl rfl ?_
    refine R_ret rfl (fun _ _ => rfl) rfl rfl ?_
    first | exact Or.inl ⟨rfl, c16, rfl⟩ | exact Or.inr ⟨rfl, c16, by rw [Int.add_zero]⟩

set_option maxRecDepth 20000 in
set_option maxHeartbeats 4000000 in
theorem c_Re_isAtDigit (S : mm_S) (L : Int) (T : Int → Int) (hT : TPc S L T) (p f n q t : Int) (hp : 0 ≤ p ∧ p ≤ L) : Cl 147 [(2, 21)] (rdS S p f n q t) (fun v S' => (v = some (0, 1) ∧ (48 ≤ ct L T p ∧ ct L T p ≤ 57) ∧ S' = rdS S p f n q t) ∨ (v = some (0, 0) ∧ ¬ (48 ≤ ct L T p ∧ ct L T p ≤ 57) ∧ S' = rdS S p f n q t)) := by
  refine ⟨Nat.le_of_ble_eq_true rfl, ?_⟩
  show Rn k_Re_isAtDigit 0 [(2, 21), (9, 0)] [] (rdS S p f n q t) _
  have hL := hT.1
  refine R_lo (nx := 1) rfl rfl rfl rfl ?_
  refine R_get (nx := 4) (w := (2, 19)) rfl rfl rfl rfl ?_
  refine R_lo (nx := 5) rfl rfl rfl rfl ?_
  refine R_get (nx := 8) (w := (0, p)) rfl rfl rfl rfl ?_
  refine R_call1 (nx := 11) (as := [(2, 19), (0, p)]) (rest := []) rfl rfl (fun _ _ => rfl) rfl rfl rfl rfl rfl rfl rfl rfl (Cl.mono (c_Tp_at (rdS S p f n q t) L T (TPc.rd (by assumption)) p (by omega)) ?_)
  rintro _ _ ⟨rfl, rfl⟩
  refine ⟨_, rfl, ?_⟩
  refine R_lo (nx := 12) (ls' := [(2, 21), (0, (ct L T p))]) rfl rfl rfl rfl ?_
  refine R_lo (nx := 13) rfl rfl rfl rfl ?_
  refine R_op (nx := 15) rfl rfl rfl ?_
  refine R_icmp (nx := 18) (tg := 28) rfl rfl rfl (mm_cnd_lt _ _) (fun c15 => ?_) (fun c15 => ?_)
  ·
    refine R_op (nx := 29) rfl rfl rfl ?_
    refine R_ret rfl (fun _ _ => rfl) rfl rfl ?_
    first | exact Or.inl ⟨rfl, by omega, rfl⟩ | exact Or.inr ⟨rfl, by omega, rfl⟩
  ·
    refine R_lo (nx := 19) rfl rfl rfl rfl ?_
    refine R_op (nx := 21) rfl rfl rfl ?_
    refine R_icmp (nx := 24) (tg := 28) rfl rfl rfl (mm_cnd_gt _ _) (fun c21 => ?_) (fun c21 => ?_)
    ·
      refine R_op (nx := 29) rfl rfl rfl ?_
      refine R_ret rfl (fun _ _ => rfl) rfl rfl ?_
      first | exact Or.inl ⟨rfl, by omega, rfl⟩ | exact Or.inr ⟨rfl, by omega, rfl⟩
    ·
      refine R_op (nx := 25) rfl rfl rfl ?_
      refine R_op (nx := 28) (pc' := 29) rfl rfl rfl ?_
      refine R_ret rfl (fun _ _ => rfl) rfl rfl ?_
      first | exact Or.inl ⟨rfl, by omega, rfl⟩ | exact Or.inr ⟨rfl, by omega, rfl⟩

set_option maxRecDepth 20000 in
set_option maxHeartbeats 4000000 in
theorem c_Re_readsNumber (S : mm_S) (L : Int) (T : Int → Int) (hT : TPc S L T) (p f n q t : Int) (hp : 0 ≤ p ∧ p ≤ L) (s : Int) (hs : sk L T p = s) (m : Int) (hm : m ≤ 99) : Cl 148 [(2, 21), (0, m)] (rdS S p f n q t) (fun v S' => (v = some (0, 1) ∧ nOk L T m s ∧ S' = rdS S (de L T s) f (nv L T s) s t) ∨ (v = some (0, 0) ∧ ¬ nOk L T m s ∧ ∃ p' n', S' = rdS S p' s n' s t)) := by
  refine ⟨Nat.le_of_ble_eq_true rfl, ?_⟩
  show Rn k_Re_readsNumber 0 [(2, 21), (0, m), (9, 0)] [] (rdS S p f n q t) _
  have hL := hT.1
  have hsg := sk_ge L T p
  have hsl := sk_le (L := L) T hp.2
  rw [hs] at hsg hsl
  refine R_lo (nx := 1) rfl rfl rfl rfl ?_
  refine R_call0 (nx := 4) (as := [(2, 21)]) (rest := []) rfl rfl (fun _ _ => rfl) rfl rfl rfl rfl rfl rfl rfl rfl (Cl.mono (c_Re_skipBlanks S L T hT p f n q t hp s hs) ?_)
  rintro _ _ ⟨rfl, rfl⟩
  refine ⟨rfl, ?_⟩
  refine R_lo (nx := 5) rfl rfl rfl rfl ?_
  refine R_lo (nx := 6) rfl rfl rfl rfl ?_
  refine R_get (nx := 9) (w := (0, s)) rfl rfl rfl rfl ?_
  refine R_put (nx := 12) (kk := 5) rfl rfl rfl rfl rfl ?_
  rw [rdS_5]
  refine R_lo (nx := 13) rfl rfl rfl rfl ?_
  refine R_op (nx := 14) rfl rfl rfl ?_
  refine R_put (nx := 17) (kk := 4) rfl rfl rfl rfl rfl ?_
  rw [rdS_4]
  have L17 : ∀ (f17 : Nat) (p1 : Int) (n1 : Int), (L - p1).toNat < f17 → (s ≤ p1 ∧ p1 ≤ L) → (de L T s = de L T p1) → ((p1 = s → n1 = 0) ∧ (p1 = s + 1 → n1 = T s - 48) ∧ (p1 = s + 2 → n1 = 10 * (T s - 48) + T (s + 1) - 48)) → (0 ≤ n1 ∧ n1 ≤ 1000) → Rn k_Re_readsNumber 17 [(2, 21), (0, m), (9, 0)] [] (rdS S p1 f n1 s t) (fun v S' => (v = some (0, 1) ∧ nOk L T m s ∧ S' = rdS S (de L T s) f (nv L T s) s t) ∨ (v = some (0, 0) ∧ ¬ nOk L T m s ∧ ∃ p' n', S' = rdS S p' s n' s t)) := by
    intro f17
    induction f17 with
    | zero => intro p1 n1 hm17; exact absurd hm17 (Nat.not_lt_zero _)
    | succ f17 ih17 =>
      intro p1 n1 hm17 hp1 hd hn hb
      refine R_lo (nx := 18) rfl rfl rfl rfl ?_
      refine R_get (nx := 21) (w := (0, p1)) rfl rfl rfl rfl ?_
      refine R_lo (nx := 22) rfl rfl rfl rfl ?_
      refine R_get (nx := 25) (w := (2, 19)) rfl rfl rfl rfl ?_
      refine R_get (nx := 28) (w := (0, ((rdS S p1 f n1 s t) 19 0))) rfl rfl rfl rfl ?_
      rw [show ((rdS S p1 f n1 s t) 19 0) = L from (TPc.rd (by assumption)).2.1]
      refine R_icmp (nx := 31) (tg := 83) rfl rfl rfl (mm_cnd_ge _ _) (fun c28 => ?_) (fun c28 => ?_)
      ·
        have ed : de L T s = p1 := hd.trans (de_n (by omega))
        have hv := nv_c ed
        have hi := nOk_i (L := L) (T := T) (m := m) (s := s)
        rw [ed] at hi
        refine R_lo (nx := 84) rfl rfl rfl rfl ?_
        refine R_get (nx := 87) (w := (0, p1)) rfl rfl rfl rfl ?_
        refine R_lo (nx := 88) rfl rfl rfl rfl ?_
        refine R_get (nx := 91) (w := (0, s)) rfl rfl rfl rfl ?_
        refine R_isub (nx := 92) (z := (p1 - s)) rfl rfl rfl ⟨by omega, by omega⟩ ?_
        refine R_lo (nx := 93) (ls' := [(2, 21), (0, m), (0, (p1 - s))]) rfl rfl rfl rfl ?_
        refine R_lo (nx := 94) rfl rfl rfl rfl ?_
        refine R_if (nx := 97) (tg := 106) rfl rfl rfl (mm_cnd_ne _ _) (fun c94 => ?_) (fun c94 => ?_)
        ·
          refine R_lo (nx := 107) rfl rfl rfl rfl ?_
          refine R_op (nx := 108) rfl rfl rfl ?_
          refine R_icmp (nx := 111) (tg := 119) rfl rfl rfl (mm_cnd_gt _ _) (fun c108 => ?_) (fun c108 => ?_)
          ·
            refine R_lo (nx := 120) rfl rfl rfl rfl ?_
            refine R_lo (nx := 121) rfl rfl rfl rfl ?_
            refine R_get (nx := 124) (w := (0, s)) rfl rfl rfl rfl ?_
            refine R_call1 (nx := 127) (as := [(2, 21), (0, s)]) (rest := []) rfl rfl (fun _ _ => rfl) rfl rfl rfl rfl rfl rfl rfl rfl (Cl.mono (c_Re_fails S L T p1 f n1 s t s) ?_)
            rintro _ _ ⟨rfl, rfl⟩
            refine ⟨_, rfl, ?_⟩
            refine R_ifT (tg := 134) rfl rfl rfl ?_
            refine R_op (nx := 135) rfl rfl rfl ?_
            refine R_ret rfl (fun _ _ => rfl) rfl rfl ?_
            first | (refine Or.inl ⟨rfl, hi.mpr ⟨by omega, by omega⟩, ?_⟩; rw [ed, show nv L T s = n1 by omega]; done) | (refine Or.inr ⟨rfl, fun z => absurd (hi.mp z) (by omega), p1, n1, ?_⟩; first | rfl | (rw [show s = p1 by omega]; done))
          ·
            refine R_lo (nx := 112) rfl rfl rfl rfl ?_
            refine R_get (nx := 115) (w := (0, n1)) rfl rfl rfl rfl ?_
            refine R_lo (nx := 116) rfl rfl rfl rfl ?_
            refine R_icmp (nx := 119) (tg := 130) rfl rfl rfl (mm_cnd_le _ _) (fun c116 => ?_) (fun c116 => ?_)
            ·
              refine R_op (nx := 131) rfl rfl rfl ?_
              refine R_op (nx := 134) (pc' := 135) rfl rfl rfl ?_
              refine R_ret rfl (fun _ _ => rfl) rfl rfl ?_
              first | (refine Or.inl ⟨rfl, hi.mpr ⟨by omega, by omega⟩, ?_⟩; rw [ed, show nv L T s = n1 by omega]; done) | (refine Or.inr ⟨rfl, fun z => absurd (hi.mp z) (by omega), p1, n1, ?_⟩; first | rfl | (rw [show s = p1 by omega]; done))
            ·
              refine R_lo (nx := 120) rfl rfl rfl rfl ?_
              refine R_lo (nx := 121) rfl rfl rfl rfl ?_
              refine R_get (nx := 124) (w := (0, s)) rfl rfl rfl rfl ?_
              refine R_call1 (nx := 127) (as := [(2, 21), (0, s)]) (rest := []) rfl rfl (fun _ _ => rfl) rfl rfl rfl rfl rfl rfl rfl rfl (Cl.mono (c_Re_fails S L T p1 f n1 s t s) ?_)
              rintro _ _ ⟨rfl, rfl⟩
              refine ⟨_, rfl, ?_⟩
              refine R_ifT (tg := 134) rfl rfl rfl ?_
              refine R_op (nx := 135) rfl rfl rfl ?_
              refine R_ret rfl (fun _ _ => rfl) rfl rfl ?_
              first | (refine Or.inl ⟨rfl, hi.mpr ⟨by omega, by omega⟩, ?_⟩; rw [ed, show nv L T s = n1 by omega]; done) | (refine Or.inr ⟨rfl, fun z => absurd (hi.mp z) (by omega), p1, n1, ?_⟩; first | rfl | (rw [show s = p1 by omega]; done))
        ·
          replace c94 := Classical.not_not.mp c94
          refine R_lo (nx := 98) rfl rfl rfl rfl ?_
          refine R_lo (nx := 99) rfl rfl rfl rfl ?_
          refine R_get (nx := 102) (w := (0, p1)) rfl rfl rfl rfl ?_
          refine R_call1 (nx := 105) (as := [(2, 21), (0, p1)]) (rest := []) rfl rfl (fun _ _ => rfl) rfl rfl rfl rfl rfl rfl rfl rfl (Cl.mono (c_Re_fails S L T p1 f n1 s t p1) ?_)
          rintro _ _ ⟨rfl, rfl⟩
          refine ⟨_, rfl, ?_⟩
          refine R_ret rfl (fun _ _ => rfl) rfl rfl ?_
          first | (refine Or.inl ⟨rfl, hi.mpr ⟨by omega, by omega⟩, ?_⟩; rw [ed, show nv L T s = n1 by omega]; done) | (refine Or.inr ⟨rfl, fun z => absurd (hi.mp z) (by omega), p1, n1, ?_⟩; first | rfl | (rw [show s = p1 by omega]; done))
      ·
        refine R_lo (nx := 32) rfl rfl rfl rfl ?_
        refine R_call1 (nx := 35) (as := [(2, 21)]) (rest := []) rfl rfl (fun _ _ => rfl) rfl rfl rfl rfl rfl rfl rfl rfl (Cl.mono (c_Re_isAtDigit S L T (by assumption) p1 f n1 s t (by omega)) ?_)
        rintro _ _ (⟨rfl, b32, rfl⟩ | ⟨rfl, b32, rfl⟩)
        ·
          have e57 := ct_in (L := L) (T := T) (p := p1) (by omega)
          refine ⟨_, rfl, ?_⟩
          refine R_ifF (nx := 38) rfl rfl rfl ?_
          refine R_lo (nx := 39) rfl rfl rfl rfl ?_
          refine R_op (nx := 42) rfl rfl rfl ?_
          refine R_lo (nx := 43) rfl rfl rfl rfl ?_
          refine R_get (nx := 46) (w := (0, n1)) rfl rfl rfl rfl ?_
          refine R_op (nx := 48) rfl rfl rfl ?_
          refine R_imul (nx := 49) (z := (n1 * 10)) rfl rfl rfl ⟨by omega, by omega⟩ ?_
          refine R_lo (nx := 50) rfl rfl rfl rfl ?_
          refine R_get (nx := 53) (w := (2, 19)) rfl rfl rfl rfl ?_
          refine R_lo (nx := 54) rfl rfl rfl rfl ?_
          refine R_get (nx := 57) (w := (0, p1)) rfl rfl rfl rfl ?_
          refine R_call1 (nx := 60) (as := [(2, 19), (0, p1)]) (rest := [(0, (n1 * 10)), (0, 1000), (2, 21)]) rfl rfl (fun _ _ => rfl) rfl rfl rfl rfl rfl rfl rfl rfl (Cl.mono (c_Tp_at (rdS S p1 f n1 s t) L T (TPc.rd (by assumption)) p1 (by omega)) ?_)
          rintro _ _ ⟨rfl, rfl⟩
          refine ⟨_, rfl, ?_⟩
          refine R_iadd (nx := 61) (z := ((n1 * 10) + (ct L T p1))) rfl rfl rfl ⟨by omega, by omega⟩ ?_
          refine R_op (nx := 63) rfl rfl rfl ?_
          refine R_isub (nx := 64) (z := (((n1 * 10) + (ct L T p1)) - 48)) rfl rfl rfl ⟨by omega, by omega⟩ ?_
          refine R_call1 (nx := 67) (as := [(0, 1000), (0, (((n1 * 10) + (ct L T p1)) - 48))]) (rest := [(2, 21)]) rfl rfl (fun _ _ => rfl) rfl rfl rfl rfl rfl rfl rfl rfl (Cl.mono (c_Ma_min (rdS S p1 f n1 s t) 1000 (((n1 * 10) + (ct L T p1)) - 48)) ?_)
          rintro _ _ ⟨rfl, rfl⟩
          refine ⟨_, rfl, ?_⟩
          refine R_put (nx := 70) (kk := 4) rfl rfl rfl rfl rfl ?_
          rw [rdS_4]
          refine R_lo (nx := 71) rfl rfl rfl rfl ?_
          refine R_op (nx := 72) rfl rfl rfl ?_
          refine R_get (nx := 75) (w := (0, p1)) rfl rfl rfl rfl ?_
          refine R_op (nx := 76) rfl rfl rfl ?_
          refine R_iadd (nx := 77) (z := (p1 + 1)) rfl rfl rfl ⟨by omega, by omega⟩ ?_
          refine R_put (nx := 80) (kk := 2) rfl rfl rfl rfl rfl ?_
          rw [rdS_2]
          refine R_op (nx := 83) (pc' := 17) rfl rfl rfl ?_
          refine Rn.weak (ls' := [(2, 21), (0, m), (9, 0)]) ⟨Or.inl rfl, ⟨Or.inl rfl, ⟨Or.inl rfl, trivial⟩⟩⟩ ?_
          refine ih17 (p1 + 1) (min 1000 (((n1 * 10) + (ct L T p1)) - 48)) ?_ ?_ ?_ ?_ ?_
          · omega
          · omega
          · exact hd.trans (de_y (by omega) (by omega))
          · refine ⟨fun q => by omega, fun q => ?_, fun q => ?_⟩
            · have e : p1 = s := by omega
              rw [← e]; omega
            · have e : p1 = s + 1 := by omega
              have dg := de_dg (L := L) (T := T) (Int.le_refl s) (show s < de L T s by have := de_ge L T p1; omega)
              rw [← e]; omega
          · omega
        ·
          have e57 := ct_in (L := L) (T := T) (p := p1)
          have ed : de L T s = p1 := hd.trans (de_n (fun z => b32 (by rw [ct_in z.1]; exact z.2)))
          have hv := nv_c ed
          have hi := nOk_i (L := L) (T := T) (m := m) (s := s)
          rw [ed] at hi
          refine ⟨_, rfl, ?_⟩
          refine R_ifT (tg := 83) rfl rfl rfl ?_
          refine R_lo (nx := 84) rfl rfl rfl rfl ?_
          refine R_get (nx := 87) (w := (0, p1)) rfl rfl rfl rfl ?_
          refine R_lo (nx := 88) rfl rfl rfl rfl ?_
          refine R_get (nx := 91) (w := (0, s)) rfl rfl rfl rfl ?_
          refine R_isub (nx := 92) (z := (p1 - s)) rfl rfl rfl ⟨by omega, by omega⟩ ?_
          refine R_lo (nx := 93) (ls' := [(2, 21), (0, m), (0, (p1 - s))]) rfl rfl rfl rfl ?_
          refine R_lo (nx := 94) rfl rfl rfl rfl ?_
          refine R_if (nx := 97) (tg := 106) rfl rfl rfl (mm_cnd_ne _ _) (fun c94_1 => ?_) (fun c94_1 => ?_)
          ·
            refine R_lo (nx := 107) rfl rfl rfl rfl ?_
            refine R_op (nx := 108) rfl rfl rfl ?_
            refine R_icmp (nx := 111) (tg := 119) rfl rfl rfl (mm_cnd_gt _ _) (fun c108_1 => ?_) (fun c108_1 => ?_)
            ·
              refine R_lo (nx := 120) rfl rfl rfl rfl ?_
              refine R_lo (nx := 121) rfl rfl rfl rfl ?_
              refine R_get (nx := 124) (w := (0, s)) rfl rfl rfl rfl ?_
              refine R_call1 (nx := 127) (as := [(2, 21), (0, s)]) (rest := []) rfl rfl (fun _ _ => rfl) rfl rfl rfl rfl rfl rfl rfl rfl (Cl.mono (c_Re_fails S L T p1 f n1 s t s) ?_)
              rintro _ _ ⟨rfl, rfl⟩
              refine ⟨_, rfl, ?_⟩
              refine R_ifT (tg := 134) rfl rfl rfl ?_
              refine R_op (nx := 135) rfl rfl rfl ?_
              refine R_ret rfl (fun _ _ => rfl) rfl rfl ?_
              first | (refine Or.inl ⟨rfl, hi.mpr ⟨by omega, by omega⟩, ?_⟩; rw [ed, show nv L T s = n1 by omega]; done) | (refine Or.inr ⟨rfl, fun z => absurd (hi.mp z) (by omega), p1, n1, ?_⟩; first | rfl | (rw [show s = p1 by omega]; done))
            ·
              refine R_lo (nx := 112) rfl rfl rfl rfl ?_
              refine R_get (nx := 115) (w := (0, n1)) rfl rfl rfl rfl ?_
              refine R_lo (nx := 116) rfl rfl rfl rfl ?_
              refine R_icmp (nx := 119) (tg := 130) rfl rfl rfl (mm_cnd_le _ _) (fun c116_1 => ?_) (fun c116_1 => ?_)
              ·
                refine R_op (nx := 131) rfl rfl rfl ?_
                refine R_op (nx := 134) (pc' := 135) rfl rfl rfl ?_
                refine R_ret rfl (fun _ _ => rfl) rfl rfl ?_
                first | (refine Or.inl ⟨rfl, hi.mpr ⟨by omega, by omega⟩, ?_⟩; rw [ed, show nv L T s = n1 by omega]; done) | (refine Or.inr ⟨rfl, fun z => absurd (hi.mp z) (by omega), p1, n1, ?_⟩; first | rfl | (rw [show s = p1 by omega]; done))
              ·
                refine R_lo (nx := 120) rfl rfl rfl rfl ?_
                refine R_lo (nx := 121) rfl rfl rfl rfl ?_
                refine R_get (nx := 124) (w := (0, s)) rfl rfl rfl rfl ?_
                refine R_call1 (nx := 127) (as := [(2, 21), (0, s)]) (rest := []) rfl rfl (fun _ _ => rfl) rfl rfl rfl rfl rfl rfl rfl rfl (Cl.mono (c_Re_fails S L T p1 f n1 s t s) ?_)
                rintro _ _ ⟨rfl, rfl⟩
                refine ⟨_, rfl, ?_⟩
                refine R_ifT (tg := 134) rfl rfl rfl ?_
                refine R_op (nx := 135) rfl rfl rfl ?_
                refine R_ret rfl (fun _ _ => rfl) rfl rfl ?_
                first | (refine Or.inl ⟨rfl, hi.mpr ⟨by omega, by omega⟩, ?_⟩; rw [ed, show nv L T s = n1 by omega]; done) | (refine Or.inr ⟨rfl, fun z => absurd (hi.mp z) (by omega), p1, n1, ?_⟩; first | rfl | (rw [show s = p1 by omega]; done))
          ·
            replace c94_1 := Classical.not_not.mp c94_1
            refine R_lo (nx := 98) rfl rfl rfl rfl ?_
            refine R_lo (nx := 99) rfl rfl rfl rfl ?_
            refine R_get (nx := 102) (w := (0, p1)) rfl rfl rfl rfl ?_
            refine R_call1 (nx := 105) (as := [(2, 21), (0, p1)]) (rest := []) rfl rfl (fun _ _ => rfl) rfl rfl rfl rfl rfl rfl rfl rfl (Cl.mono (c_Re_fails S L T p1 f n1 s t p1) ?_)
            rintro _ _ ⟨rfl, rfl⟩
            refine ⟨_, rfl, ?_⟩
            refine R_ret rfl (fun _ _ => rfl) rfl rfl ?_
            first | (refine Or.inl ⟨rfl, hi.mpr ⟨by omega, by omega⟩, ?_⟩; rw [ed, show nv L T s = n1 by omega]; done) | (refine Or.inr ⟨rfl, fun z => absurd (hi.mp z) (by omega), p1, n1, ?_⟩; first | rfl | (rw [show s = p1 by omega]; done))
  refine Rn.weak (ls' := [(2, 21), (0, m), (9, 0)]) ⟨Or.inl rfl, ⟨Or.inl rfl, ⟨Or.inl rfl, trivial⟩⟩⟩ ?_
  refine L17 ((L - (s)).toNat + 1) (s) (0) (Nat.lt_succ_self _) ?_ ?_ ?_ ?_
  · omega
  · rfl
  · exact ⟨fun _ => rfl, fun q => by omega, fun q => by omega⟩
  · omega

theorem eR_ok {L : Int} {T : Int → Int} {K : CX} {x : Int} {t : Int → Int} {p pl m u : Int} (hp : p ≤ L) (e : eR L T K x t p = (1, pl, m, u)) : p < pl ∧ p < L ∧ pl ≤ L ∧ Xmay K x m ∧ (-9 ≤ u ∧ u ≤ 9) := by
  have h := eR_adv (L := L) (T := T) (K := K) (x := x) (t := t) (p := p) hp
  rw [e] at h
  exact h (show (1 : Int) ≠ 0 by decide)
theorem hR_ok {L : Int} {T : Int → Int} {s pl d l o : Int} (hs : s ≤ L) (e : hR L T s = (1, pl, d, l, o)) : (s < pl ∧ pl ≤ L) ∧ (0 ≤ d ∧ d ≤ 4) ∧ (0 ≤ l ∧ l ≤ 9) ∧ (0 ≤ o ∧ o ≤ 9) := by
  have h := hR_adv (L := L) (T := T) (s := s) hs
  rw [e] at h
  exact h (show (1 : Int) ≠ 0 by decide)

set_option maxRecDepth 20000 in
set_option maxHeartbeats 4000000 in
theorem c_Re_readsEntry (S : mm_S) (L : Int) (T : Int → Int) (hT : TPc S L T) (p f n q t : Int) (hp : 0 ≤ p ∧ p ≤ L) (K : CX) (x : Int) (hx : Xn K = x + 1) (hM : MC S 3 K) (hV : Vx K) (td : Int → Int) (hB : TB t td) : Cl 151 [(2, 21)] (rdS S p f n q t) (fun v S' => (v = some (0, 1) ∧ ∃ pl m u n' q' S1, eR L T K x td p = (1, pl, m, u) ∧ S' = rdS S1 pl f n' q' (orb m t) ∧ TB (orb m t) (ups td m) ∧ MC S1 3 (Xset K x m u) ∧ (∀ b, b ≠ 7 → b ≠ 21 → S1 b = S b)) ∨ (v = some (0, 0) ∧ ∃ z p' n' q', eR L T K x td p = (0, z, 0, 0) ∧ (0 ≤ z ∧ z ≤ L) ∧ S' = rdS S p' z n' q' t)) := by
  refine ⟨Nat.le_of_ble_eq_true rfl, ?_⟩
  show Rn k_Re_readsEntry 0 [(2, 21), (9, 0), (9, 0), (9, 0)] [] (rdS S p f n q t) _
  have hL := hT.1
  have hR := hV.2.1
  have hnr := hV.1.1
  refine R_lo (nx := 1) rfl rfl rfl rfl ?_
  refine R_op (nx := 3) rfl rfl rfl ?_
  refine R_call1 (nx := 6) (as := [(2, 21), (0, 45)]) (rest := []) rfl rfl (fun _ _ => rfl) rfl rfl rfl rfl rfl rfl rfl rfl (Cl.mono (c_Re_passes S L T (by assumption) p f n q t (by omega) (sk L T p) rfl 45) ?_)
  rintro _ _ (⟨rfl, b3, rfl⟩ | ⟨rfl, b3, rfl⟩)
  ·
    have g3 := sk_ge L T p
    have l3 := sk_le (L := L) T (p := p) (by omega)
    have tb3 := ct_lt b3 (by decide)
    refine ⟨_, rfl, ?_⟩
    refine R_ifF (nx := 9) rfl rfl rfl ?_
    refine R_op (nx := 10) rfl rfl rfl ?_
    refine R_op (nx := 13) (pc' := 14) rfl rfl rfl ?_
    refine R_lo (nx := 15) (ls' := [(2, 21), (0, (-1)), (9, 0), (9, 0)]) rfl rfl rfl rfl ?_
    refine R_lo (nx := 16) rfl rfl rfl rfl ?_
    refine R_op (nx := 18) rfl rfl rfl ?_
    refine R_call1 (nx := 21) (as := [(2, 21), (0, 99)]) (rest := []) rfl rfl (fun _ _ => rfl) rfl rfl rfl rfl rfl rfl rfl rfl (Cl.mono (c_Re_readsNumber S L T (by assumption) ((sk L T p) + 1) f n q t (by omega) (sk L T ((sk L T p) + 1)) rfl 99 (by decide)) ?_)
    rintro _ _ (⟨rfl, b18, rfl⟩ | ⟨rfl, b18, p18, n18, rfl⟩)
    ·
      have g18 := sk_ge L T ((sk L T p) + 1)
      have l18 := sk_le (L := L) T (p := ((sk L T p) + 1)) (by omega)
      have w18 := nOk_r b18 (by decide) (by omega)
      refine ⟨_, rfl, ?_⟩
      refine R_ifT (tg := 26) rfl rfl rfl ?_
      refine R_op (nx := 27) rfl rfl rfl ?_
      refine R_lo (nx := 28) (ls' := [(2, 21), (0, (-1)), (0, 1), (9, 0)]) rfl rfl rfl rfl ?_
      refine R_lo (nx := 29) rfl rfl rfl rfl ?_
      refine R_op (nx := 31) rfl rfl rfl ?_
      refine R_call1 (nx := 34) (as := [(2, 21), (0, 42)]) (rest := []) rfl rfl (fun _ _ => rfl) rfl rfl rfl rfl rfl rfl rfl rfl (Cl.mono (c_Re_passes S L T (by assumption) (de L T (sk L T ((sk L T p) + 1))) f (nv L T (sk L T ((sk L T p) + 1))) (sk L T ((sk L T p) + 1)) t (by omega) (sk L T (de L T (sk L T ((sk L T p) + 1)))) rfl 42) ?_)
      rintro _ _ (⟨rfl, b31, rfl⟩ | ⟨rfl, b31, rfl⟩)
      ·
        have g31 := sk_ge L T (de L T (sk L T ((sk L T p) + 1)))
        have l31 := sk_le (L := L) T (p := (de L T (sk L T ((sk L T p) + 1)))) (by omega)
        have tb31 := ct_lt b31 (by decide)
        refine ⟨_, rfl, ?_⟩
        refine R_ifF (nx := 37) rfl rfl rfl ?_
        refine R_lo (nx := 38) rfl rfl rfl rfl ?_
        refine R_get (nx := 41) (w := (0, (nv L T (sk L T ((sk L T p) + 1))))) rfl rfl rfl rfl ?_
        refine R_lo (nx := 42) (ls' := [(2, 21), (0, (-1)), (0, (nv L T (sk L T ((sk L T p) + 1)))), (9, 0)]) rfl rfl rfl rfl ?_
        refine R_lo (nx := 43) rfl rfl rfl rfl ?_
        refine R_op (nx := 45) rfl rfl rfl ?_
        refine R_icmp (nx := 48) (tg := 57) rfl rfl rfl (mm_cnd_le _ _) (fun c45 => ?_) (fun c45 => ?_)
        ·
          refine R_lo (nx := 58) rfl rfl rfl rfl ?_
          refine R_op (nx := 60) rfl rfl rfl ?_
          refine R_call1 (nx := 63) (as := [(2, 21), (0, 99)]) (rest := []) rfl rfl (fun _ _ => rfl) rfl rfl rfl rfl rfl rfl rfl rfl (Cl.mono (c_Re_readsNumber S L T (by assumption) ((sk L T (de L T (sk L T ((sk L T p) + 1)))) + 1) f (nv L T (sk L T ((sk L T p) + 1))) (sk L T ((sk L T p) + 1)) t (by omega) (sk L T ((sk L T (de L T (sk L T ((sk L T p) + 1)))) + 1)) rfl 99 (by decide)) ?_)
          rintro _ _ (⟨rfl, b60, rfl⟩ | ⟨rfl, b60, p60, n60, rfl⟩)
          ·
            have g60 := sk_ge L T ((sk L T (de L T (sk L T ((sk L T p) + 1)))) + 1)
            have l60 := sk_le (L := L) T (p := ((sk L T (de L T (sk L T ((sk L T p) + 1)))) + 1)) (by omega)
            have w60 := nOk_r b60 (by decide) (by omega)
            refine ⟨_, rfl, ?_⟩
            refine R_ifT (tg := 93) rfl rfl rfl ?_
            refine R_lo (nx := 94) rfl rfl rfl rfl ?_
            refine R_get (nx := 97) (w := (2, 3)) rfl rfl rfl rfl ?_
            refine R_get (nx := 100) (w := (0, ((rdS S (de L T (sk L T ((sk L T (de L T (sk L T ((sk L T p) + 1)))) + 1))) f (nv L T (sk L T ((sk L T (de L T (sk L T ((sk L T p) + 1)))) + 1))) (sk L T ((sk L T (de L T (sk L T ((sk L T p) + 1)))) + 1)) t) 3 0))) rfl rfl rfl rfl ?_
            rw [show ((rdS S (de L T (sk L T ((sk L T (de L T (sk L T ((sk L T p) + 1)))) + 1))) f (nv L T (sk L T ((sk L T (de L T (sk L T ((sk L T p) + 1)))) + 1))) (sk L T ((sk L T (de L T (sk L T ((sk L T p) + 1)))) + 1)) t) 3 0) = Xn K from (MC.rd hM (by omega)).n]
            refine R_op (nx := 101) rfl rfl rfl ?_
            refine R_isub (nx := 102) (z := ((Xn K) - 1)) rfl rfl rfl ⟨by omega, by omega⟩ ?_
            refine R_cv (w := x) (by omega) ?_
            refine R_lo (nx := 103) (ls' := [(2, 21), (0, (-1)), (0, (nv L T (sk L T ((sk L T p) + 1)))), (0, x)]) rfl rfl rfl rfl ?_
            refine R_lo (nx := 104) rfl rfl rfl rfl ?_
            refine R_get (nx := 107) (w := (2, 3)) rfl rfl rfl rfl ?_
            refine R_lo (nx := 108) rfl rfl rfl rfl ?_
            refine R_lo (nx := 109) rfl rfl rfl rfl ?_
            refine R_get (nx := 112) (w := (0, (nv L T (sk L T ((sk L T (de L T (sk L T ((sk L T p) + 1)))) + 1))))) rfl rfl rfl rfl ?_
            refine R_call1 (nx := 115) (as := [(2, 3), (0, x), (0, (nv L T (sk L T ((sk L T (de L T (sk L T ((sk L T p) + 1)))) + 1))))]) (rest := []) rfl rfl (fun _ _ => rfl) rfl rfl rfl rfl rfl rfl rfl rfl (Cl.mono (c_C_mayHave (rdS S (de L T (sk L T ((sk L T (de L T (sk L T ((sk L T p) + 1)))) + 1))) f (nv L T (sk L T ((sk L T (de L T (sk L T ((sk L T p) + 1)))) + 1))) (sk L T ((sk L T (de L T (sk L T ((sk L T p) + 1)))) + 1)) t) 3 isC_3 K (MC.rd (by assumption) (by omega)) (by assumption) x (nv L T (sk L T ((sk L T (de L T (sk L T ((sk L T p) + 1)))) + 1)))) ?_)
            rintro _ _ (⟨rfl, b112, rfl⟩ | ⟨rfl, b112, rfl⟩)
            ·
              refine ⟨_, rfl, ?_⟩
              refine R_ifF (nx := 118) rfl rfl rfl ?_
              have hm12 : 0 ≤ (nv L T (sk L T ((sk L T (de L T (sk L T ((sk L T p) + 1)))) + 1))) ∧ (nv L T (sk L T ((sk L T (de L T (sk L T ((sk L T p) + 1)))) + 1))) < 12 := ⟨b112.2.1.1, by have := b112.2.1.2; omega⟩
              have htt := hB _ hm12.1 hm12.2
              refine R_lo (nx := 119) rfl rfl rfl rfl ?_
              refine R_get (nx := 122) (w := (0, t)) rfl rfl rfl rfl ?_
              refine R_lo (nx := 123) rfl rfl rfl rfl ?_
              refine R_get (nx := 126) (w := (0, (nv L T (sk L T ((sk L T (de L T (sk L T ((sk L T p) + 1)))) + 1))))) rfl rfl rfl rfl ?_
              refine R_op (nx := 127) (st' := [(0, (Int32.ofInt t >>> (Int32.ofInt (nv L T (sk L T ((sk L T (de L T (sk L T ((sk L T p) + 1)))) + 1))) &&& 31)).toInt)]) rfl rfl rfl ?_
              refine R_op (nx := 128) rfl rfl rfl ?_
              refine R_op (nx := 129) (st' := [(0, (Int32.ofInt (Int32.ofInt t >>> (Int32.ofInt (nv L T (sk L T ((sk L T (de L T (sk L T ((sk L T p) + 1)))) + 1))) &&& 31)).toInt &&& Int32.ofInt 1).toInt)]) rfl rfl rfl ?_
              refine R_cv (w := (tb t (nv L T (sk L T ((sk L T (de L T (sk L T ((sk L T p) + 1)))) + 1))))) (by rfl) ?_
              refine R_if (nx := 132) (tg := 141) rfl rfl rfl (mm_cnd_eq _ _) (fun c129 => ?_) (fun c129 => ?_)
              ·
                refine R_lo (nx := 142) rfl rfl rfl rfl ?_
                refine R_op (nx := 143) rfl rfl rfl ?_
                refine R_get (nx := 146) (w := (0, t)) rfl rfl rfl rfl ?_
                refine R_op (nx := 147) rfl rfl rfl ?_
                refine R_lo (nx := 148) rfl rfl rfl rfl ?_
                refine R_get (nx := 151) (w := (0, (nv L T (sk L T ((sk L T (de L T (sk L T ((sk L T p) + 1)))) + 1))))) rfl rfl rfl rfl ?_
                refine R_op (nx := 152) (st' := [(0, (Int32.ofInt 1 <<< (Int32.ofInt (nv L T (sk L T ((sk L T (de L T (sk L T ((sk L T p) + 1)))) + 1))) &&& 31)).toInt), (0, t), (2, 21)]) rfl rfl rfl ?_
                refine R_op (nx := 153) (st' := [(0, (Int32.ofInt t ||| Int32.ofInt (Int32.ofInt 1 <<< (Int32.ofInt (nv L T (sk L T ((sk L T (de L T (sk L T ((sk L T p) + 1)))) + 1))) &&& 31)).toInt).toInt), (2, 21)]) rfl rfl rfl ?_
                refine R_put (nx := 156) (kk := 6) rfl rfl rfl rfl rfl ?_
                rw [rdS_6]
                refine R_lo (nx := 157) rfl rfl rfl rfl ?_
                refine R_get (nx := 160) (w := (2, 3)) rfl rfl rfl rfl ?_
                refine R_lo (nx := 161) rfl rfl rfl rfl ?_
                refine R_lo (nx := 162) rfl rfl rfl rfl ?_
                refine R_get (nx := 165) (w := (0, (nv L T (sk L T ((sk L T (de L T (sk L T ((sk L T p) + 1)))) + 1))))) rfl rfl rfl rfl ?_
                refine R_lo (nx := 166) rfl rfl rfl rfl ?_
                refine R_lo (nx := 167) rfl rfl rfl rfl ?_
                refine R_imul (nx := 168) (z := ((-1) * (nv L T (sk L T ((sk L T p) + 1))))) rfl rfl rfl ⟨by omega, by omega⟩ ?_
                refine R_cv (w := (-(nv L T (sk L T ((sk L T p) + 1))))) (by omega) ?_
                refine R_call0 (nx := 171) (as := [(2, 3), (0, x), (0, (nv L T (sk L T ((sk L T (de L T (sk L T ((sk L T p) + 1)))) + 1)))), (0, (-(nv L T (sk L T ((sk L T p) + 1)))))]) (rest := []) rfl rfl (fun _ _ => rfl) rfl rfl rfl rfl rfl rfl rfl rfl (Cl.mono (c_C_setEdge (rdS S (de L T (sk L T ((sk L T (de L T (sk L T ((sk L T p) + 1)))) + 1))) f (nv L T (sk L T ((sk L T (de L T (sk L T ((sk L T p) + 1)))) + 1))) (sk L T ((sk L T (de L T (sk L T ((sk L T p) + 1)))) + 1)) (Int32.ofInt t ||| Int32.ofInt (Int32.ofInt 1 <<< (Int32.ofInt (nv L T (sk L T ((sk L T (de L T (sk L T ((sk L T p) + 1)))) + 1))) &&& 31)).toInt).toInt) 3 isC_3 K (MC.rd (by assumption) (by omega)) x (nv L T (sk L T ((sk L T (de L T (sk L T ((sk L T p) + 1)))) + 1))) (-(nv L T (sk L T ((sk L T p) + 1))))) ?_)
                rintro _ S168 ⟨rfl, m168, f168⟩
                refine ⟨rfl, ?_⟩
                refine R_op (nx := 172) rfl rfl rfl ?_
                refine R_ret rfl (fun _ _ => rfl) rfl rfl ?_
                refine Or.inl ⟨rfl, (de L T (sk L T ((sk L T (de L T (sk L T ((sk L T p) + 1)))) + 1))), (nv L T (sk L T ((sk L T (de L T (sk L T ((sk L T p) + 1)))) + 1))), (-(nv L T (sk L T ((sk L T p) + 1)))), (nv L T (sk L T ((sk L T (de L T (sk L T ((sk L T p) + 1)))) + 1))), (sk L T ((sk L T (de L T (sk L T ((sk L T p) + 1)))) + 1)), S168, ?_, rdS_self (f168 21 (by decide)), TB_up hB hm12, m168, fun b hb hc => (f168 b hb).trans (rdS_ne hc)⟩
                unfold eR
                first | rw [if_pos b3] | rw [if_neg b3]
                unfold eR1
                rw [ifn_y b18]
                first | rw [if_pos b31] | rw [if_neg b31]
                rw [if_neg (by omega)]
                first | rw [ifn_y b60] | skip
                unfold eF ifm
                rw [if_pos b112, if_pos (htt.mp c129)]
                rfl
              ·
                refine R_lo (nx := 133) rfl rfl rfl rfl ?_
                refine R_lo (nx := 134) rfl rfl rfl rfl ?_
                refine R_get (nx := 137) (w := (0, (sk L T ((sk L T (de L T (sk L T ((sk L T p) + 1)))) + 1)))) rfl rfl rfl rfl ?_
                refine R_call1 (nx := 140) (as := [(2, 21), (0, (sk L T ((sk L T (de L T (sk L T ((sk L T p) + 1)))) + 1)))]) (rest := []) rfl rfl (fun _ _ => rfl) rfl rfl rfl rfl rfl rfl rfl rfl (Cl.mono (c_Re_fails S L T (de L T (sk L T ((sk L T (de L T (sk L T ((sk L T p) + 1)))) + 1))) f (nv L T (sk L T ((sk L T (de L T (sk L T ((sk L T p) + 1)))) + 1))) (sk L T ((sk L T (de L T (sk L T ((sk L T p) + 1)))) + 1)) t (sk L T ((sk L T (de L T (sk L T ((sk L T p) + 1)))) + 1))) ?_)
                rintro _ _ ⟨rfl, rfl⟩
                refine ⟨_, rfl, ?_⟩
                refine R_ret rfl (fun _ _ => rfl) rfl rfl ?_
                refine Or.inr ⟨rfl, (sk L T ((sk L T (de L T (sk L T ((sk L T p) + 1)))) + 1)), _, _, _, ?_, by omega, rfl⟩
                unfold eR
                first | rw [if_pos b3] | rw [if_neg b3]
                unfold eR1
                rw [ifn_y b18]
                first | rw [if_pos b31] | rw [if_neg b31]
                rw [if_neg (by omega)]
                first | rw [ifn_y b60] | skip
                unfold eF ifm
                first | rw [if_neg b112] | rw [if_pos b112, if_neg (fun z => c129 (htt.mpr z))]
            ·
              refine ⟨_, rfl, ?_⟩
              refine R_ifT (tg := 132) rfl rfl rfl ?_
              refine R_lo (nx := 133) rfl rfl rfl rfl ?_
              refine R_lo (nx := 134) rfl rfl rfl rfl ?_
              refine R_get (nx := 137) (w := (0, (sk L T ((sk L T (de L T (sk L T ((sk L T p) + 1)))) + 1)))) rfl rfl rfl rfl ?_
              refine R_call1 (nx := 140) (as := [(2, 21), (0, (sk L T ((sk L T (de L T (sk L T ((sk L T p) + 1)))) + 1)))]) (rest := []) rfl rfl (fun _ _ => rfl) rfl rfl rfl rfl rfl rfl rfl rfl (Cl.mono (c_Re_fails S L T (de L T (sk L T ((sk L T (de L T (sk L T ((sk L T p) + 1)))) + 1))) f (nv L T (sk L T ((sk L T (de L T (sk L T ((sk L T p) + 1)))) + 1))) (sk L T ((sk L T (de L T (sk L T ((sk L T p) + 1)))) + 1)) t (sk L T ((sk L T (de L T (sk L T ((sk L T p) + 1)))) + 1))) ?_)
              rintro _ _ ⟨rfl, rfl⟩
              refine ⟨_, rfl, ?_⟩
              refine R_ret rfl (fun _ _ => rfl) rfl rfl ?_
              refine Or.inr ⟨rfl, (sk L T ((sk L T (de L T (sk L T ((sk L T p) + 1)))) + 1)), _, _, _, ?_, by omega, rfl⟩
              unfold eR
              first | rw [if_pos b3] | rw [if_neg b3]
              unfold eR1
              rw [ifn_y b18]
              first | rw [if_pos b31] | rw [if_neg b31]
              rw [if_neg (by omega)]
              first | rw [ifn_y b60] | skip
              unfold eF ifm
              first | rw [if_neg b112] | rw [if_pos b112, if_neg (fun z => c129 (htt.mpr z))]
          ·
            have g60 := sk_ge L T ((sk L T (de L T (sk L T ((sk L T p) + 1)))) + 1)
            have l60 := sk_le (L := L) T (p := ((sk L T (de L T (sk L T ((sk L T p) + 1)))) + 1)) (by omega)
            refine ⟨_, rfl, ?_⟩
            refine R_ifF (nx := 66) rfl rfl rfl ?_
            refine R_op (nx := 67) rfl rfl rfl ?_
            refine R_ret rfl (fun _ _ => rfl) rfl rfl ?_
            refine Or.inr ⟨rfl, (sk L T ((sk L T (de L T (sk L T ((sk L T p) + 1)))) + 1)), _, _, _, ?_, by omega, rfl⟩
            unfold eR
            first | rw [if_pos b3] | rw [if_neg b3]
            unfold eR1
            rw [ifn_y b18]
            first | rw [if_pos b31] | rw [if_neg b31]
            rw [if_neg (by omega)]
            rw [ifn_n b60]
        ·
          refine R_lo (nx := 49) rfl rfl rfl rfl ?_
          refine R_lo (nx := 50) rfl rfl rfl rfl ?_
          refine R_get (nx := 53) (w := (0, (sk L T ((sk L T p) + 1)))) rfl rfl rfl rfl ?_
          refine R_call1 (nx := 56) (as := [(2, 21), (0, (sk L T ((sk L T p) + 1)))]) (rest := []) rfl rfl (fun _ _ => rfl) rfl rfl rfl rfl rfl rfl rfl rfl (Cl.mono (c_Re_fails S L T ((sk L T (de L T (sk L T ((sk L T p) + 1)))) + 1) f (nv L T (sk L T ((sk L T p) + 1))) (sk L T ((sk L T p) + 1)) t (sk L T ((sk L T p) + 1))) ?_)
          rintro _ _ ⟨rfl, rfl⟩
          refine ⟨_, rfl, ?_⟩
          refine R_ret rfl (fun _ _ => rfl) rfl rfl ?_
          refine Or.inr ⟨rfl, (sk L T ((sk L T p) + 1)), _, _, _, ?_, by omega, rfl⟩
          unfold eR
          first | rw [if_pos b3] | rw [if_neg b3]
          unfold eR1
          rw [ifn_y b18]
          first | rw [if_pos b31] | rw [if_neg b31]
          rw [if_pos (by omega)]
      ·
        have g31 := sk_ge L T (de L T (sk L T ((sk L T p) + 1)))
        have l31 := sk_le (L := L) T (p := (de L T (sk L T ((sk L T p) + 1)))) (by omega)
        refine ⟨_, rfl, ?_⟩
        refine R_ifT (tg := 68) rfl rfl rfl ?_
        refine R_lo (nx := 69) rfl rfl rfl rfl ?_
        refine R_get (nx := 72) (w := (0, (nv L T (sk L T ((sk L T p) + 1))))) rfl rfl rfl rfl ?_
        refine R_op (nx := 74) rfl rfl rfl ?_
        refine R_icmp (nx := 77) (tg := 93) rfl rfl rfl (mm_cnd_gt _ _) (fun c74 => ?_) (fun c74 => ?_)
        ·
          refine R_lo (nx := 94) rfl rfl rfl rfl ?_
          refine R_get (nx := 97) (w := (2, 3)) rfl rfl rfl rfl ?_
          refine R_get (nx := 100) (w := (0, ((rdS S (sk L T (de L T (sk L T ((sk L T p) + 1)))) f (nv L T (sk L T ((sk L T p) + 1))) (sk L T ((sk L T p) + 1)) t) 3 0))) rfl rfl rfl rfl ?_
          rw [show ((rdS S (sk L T (de L T (sk L T ((sk L T p) + 1)))) f (nv L T (sk L T ((sk L T p) + 1))) (sk L T ((sk L T p) + 1)) t) 3 0) = Xn K from (MC.rd hM (by omega)).n]
          refine R_op (nx := 101) rfl rfl rfl ?_
          refine R_isub (nx := 102) (z := ((Xn K) - 1)) rfl rfl rfl ⟨by omega, by omega⟩ ?_
          refine R_cv (w := x) (by omega) ?_
          refine R_lo (nx := 103) (ls' := [(2, 21), (0, (-1)), (0, 1), (0, x)]) rfl rfl rfl rfl ?_
          refine R_lo (nx := 104) rfl rfl rfl rfl ?_
          refine R_get (nx := 107) (w := (2, 3)) rfl rfl rfl rfl ?_
          refine R_lo (nx := 108) rfl rfl rfl rfl ?_
          refine R_lo (nx := 109) rfl rfl rfl rfl ?_
          refine R_get (nx := 112) (w := (0, (nv L T (sk L T ((sk L T p) + 1))))) rfl rfl rfl rfl ?_
          refine R_call1 (nx := 115) (as := [(2, 3), (0, x), (0, (nv L T (sk L T ((sk L T p) + 1))))]) (rest := []) rfl rfl (fun _ _ => rfl) rfl rfl rfl rfl rfl rfl rfl rfl (Cl.mono (c_C_mayHave (rdS S (sk L T (de L T (sk L T ((sk L T p) + 1)))) f (nv L T (sk L T ((sk L T p) + 1))) (sk L T ((sk L T p) + 1)) t) 3 isC_3 K (MC.rd (by assumption) (by omega)) (by assumption) x (nv L T (sk L T ((sk L T p) + 1)))) ?_)
          rintro _ _ (⟨rfl, b112_1, rfl⟩ | ⟨rfl, b112_1, rfl⟩)
          ·
            refine ⟨_, rfl, ?_⟩
            refine R_ifF (nx := 118) rfl rfl rfl ?_
            have hm12 : 0 ≤ (nv L T (sk L T ((sk L T p) + 1))) ∧ (nv L T (sk L T ((sk L T p) + 1))) < 12 := ⟨b112_1.2.1.1, by have := b112_1.2.1.2; omega⟩
            have htt := hB _ hm12.1 hm12.2
            refine R_lo (nx := 119) rfl rfl rfl rfl ?_
            refine R_get (nx := 122) (w := (0, t)) rfl rfl rfl rfl ?_
            refine R_lo (nx := 123) rfl rfl rfl rfl ?_
            refine R_get (nx := 126) (w := (0, (nv L T (sk L T ((sk L T p) + 1))))) rfl rfl rfl rfl ?_
            refine R_op (nx := 127) (st' := [(0, (Int32.ofInt t >>> (Int32.ofInt (nv L T (sk L T ((sk L T p) + 1))) &&& 31)).toInt)]) rfl rfl rfl ?_
            refine R_op (nx := 128) rfl rfl rfl ?_
            refine R_op (nx := 129) (st' := [(0, (Int32.ofInt (Int32.ofInt t >>> (Int32.ofInt (nv L T (sk L T ((sk L T p) + 1))) &&& 31)).toInt &&& Int32.ofInt 1).toInt)]) rfl rfl rfl ?_
            refine R_cv (w := (tb t (nv L T (sk L T ((sk L T p) + 1))))) (by rfl) ?_
            refine R_if (nx := 132) (tg := 141) rfl rfl rfl (mm_cnd_eq _ _) (fun c129_1 => ?_) (fun c129_1 => ?_)
            ·
              refine R_lo (nx := 142) rfl rfl rfl rfl ?_
              refine R_op (nx := 143) rfl rfl rfl ?_
              refine R_get (nx := 146) (w := (0, t)) rfl rfl rfl rfl ?_
              refine R_op (nx := 147) rfl rfl rfl ?_
              refine R_lo (nx := 148) rfl rfl rfl rfl ?_
              refine R_get (nx := 151) (w := (0, (nv L T (sk L T ((sk L T p) + 1))))) rfl rfl rfl rfl ?_
              refine R_op (nx := 152) (st' := [(0, (Int32.ofInt 1 <<< (Int32.ofInt (nv L T (sk L T ((sk L T p) + 1))) &&& 31)).toInt), (0, t), (2, 21)]) rfl rfl rfl ?_
              refine R_op (nx := 153) (st' := [(0, (Int32.ofInt t ||| Int32.ofInt (Int32.ofInt 1 <<< (Int32.ofInt (nv L T (sk L T ((sk L T p) + 1))) &&& 31)).toInt).toInt), (2, 21)]) rfl rfl rfl ?_
              refine R_put (nx := 156) (kk := 6) rfl rfl rfl rfl rfl ?_
              rw [rdS_6]
              refine R_lo (nx := 157) rfl rfl rfl rfl ?_
              refine R_get (nx := 160) (w := (2, 3)) rfl rfl rfl rfl ?_
              refine R_lo (nx := 161) rfl rfl rfl rfl ?_
              refine R_lo (nx := 162) rfl rfl rfl rfl ?_
              refine R_get (nx := 165) (w := (0, (nv L T (sk L T ((sk L T p) + 1))))) rfl rfl rfl rfl ?_
              refine R_lo (nx := 166) rfl rfl rfl rfl ?_
              refine R_lo (nx := 167) rfl rfl rfl rfl ?_
              refine R_imul (nx := 168) (z := (-1)) rfl rfl rfl ⟨by omega, by omega⟩ ?_
              refine R_call0 (nx := 171) (as := [(2, 3), (0, x), (0, (nv L T (sk L T ((sk L T p) + 1)))), (0, (-1))]) (rest := []) rfl rfl (fun _ _ => rfl) rfl rfl rfl rfl rfl rfl rfl rfl (Cl.mono (c_C_setEdge (rdS S (sk L T (de L T (sk L T ((sk L T p) + 1)))) f (nv L T (sk L T ((sk L T p) + 1))) (sk L T ((sk L T p) + 1)) (Int32.ofInt t ||| Int32.ofInt (Int32.ofInt 1 <<< (Int32.ofInt (nv L T (sk L T ((sk L T p) + 1))) &&& 31)).toInt).toInt) 3 isC_3 K (MC.rd (by assumption) (by omega)) x (nv L T (sk L T ((sk L T p) + 1))) (-1)) ?_)
              rintro _ S168_1 ⟨rfl, m168_1, f168_1⟩
              refine ⟨rfl, ?_⟩
              refine R_op (nx := 172) rfl rfl rfl ?_
              refine R_ret rfl (fun _ _ => rfl) rfl rfl ?_
              refine Or.inl ⟨rfl, (sk L T (de L T (sk L T ((sk L T p) + 1)))), (nv L T (sk L T ((sk L T p) + 1))), (-1), (nv L T (sk L T ((sk L T p) + 1))), (sk L T ((sk L T p) + 1)), S168_1, ?_, rdS_self (f168_1 21 (by decide)), TB_up hB hm12, m168_1, fun b hb hc => (f168_1 b hb).trans (rdS_ne hc)⟩
              unfold eR
              first | rw [if_pos b3] | rw [if_neg b3]
              unfold eR1
              rw [ifn_y b18]
              first | rw [if_pos b31] | rw [if_neg b31]
              rw [if_neg (by omega)]
              first | rw [ifn_y b60] | skip
              unfold eF ifm
              rw [if_pos b112_1, if_pos (htt.mp c129_1)]
              rfl
            ·
              refine R_lo (nx := 133) rfl rfl rfl rfl ?_
              refine R_lo (nx := 134) rfl rfl rfl rfl ?_
              refine R_get (nx := 137) (w := (0, (sk L T ((sk L T p) + 1)))) rfl rfl rfl rfl ?_
              refine R_call1 (nx := 140) (as := [(2, 21), (0, (sk L T ((sk L T p) + 1)))]) (rest := []) rfl rfl (fun _ _ => rfl) rfl rfl rfl rfl rfl rfl rfl rfl (Cl.mono (c_Re_fails S L T (sk L T (de L T (sk L T ((sk L T p) + 1)))) f (nv L T (sk L T ((sk L T p) + 1))) (sk L T ((sk L T p) + 1)) t (sk L T ((sk L T p) + 1))) ?_)
              rintro _ _ ⟨rfl, rfl⟩
              refine ⟨_, rfl, ?_⟩
              refine R_ret rfl (fun _ _ => rfl) rfl rfl ?_
              refine Or.inr ⟨rfl, (sk L T ((sk L T p) + 1)), _, _, _, ?_, by omega, rfl⟩
              unfold eR
              first | rw [if_pos b3] | rw [if_neg b3]
              unfold eR1
              rw [ifn_y b18]
              first | rw [if_pos b31] | rw [if_neg b31]
              rw [if_neg (by omega)]
              first | rw [ifn_y b60] | skip
              unfold eF ifm
              first | rw [if_neg b112_1] | rw [if_pos b112_1, if_neg (fun z => c129_1 (htt.mpr z))]
          ·
            refine ⟨_, rfl, ?_⟩
            refine R_ifT (tg := 132) rfl rfl rfl ?_
            refine R_lo (nx := 133) rfl rfl rfl rfl ?_
            refine R_lo (nx := 134) rfl rfl rfl rfl ?_
            refine R_get (nx := 137) (w := (0, (sk L T ((sk L T p) + 1)))) rfl rfl rfl rfl ?_
            refine R_call1 (nx := 140) (as := [(2, 21), (0, (sk L T ((sk L T p) + 1)))]) (rest := []) rfl rfl (fun _ _ => rfl) rfl rfl rfl rfl rfl rfl rfl rfl (Cl.mono (c_Re_fails S L T (sk L T (de L T (sk L T ((sk L T p) + 1)))) f (nv L T (sk L T ((sk L T p) + 1))) (sk L T ((sk L T p) + 1)) t (sk L T ((sk L T p) + 1))) ?_)
            rintro _ _ ⟨rfl, rfl⟩
            refine ⟨_, rfl, ?_⟩
            refine R_ret rfl (fun _ _ => rfl) rfl rfl ?_
            refine Or.inr ⟨rfl, (sk L T ((sk L T p) + 1)), _, _, _, ?_, by omega, rfl⟩
            unfold eR
            first | rw [if_pos b3] | rw [if_neg b3]
            unfold eR1
            rw [ifn_y b18]
            first | rw [if_pos b31] | rw [if_neg b31]
            rw [if_neg (by omega)]
            first | rw [ifn_y b60] | skip
            unfold eF ifm
            first | rw [if_neg b112_1] | rw [if_pos b112_1, if_neg (fun z => c129 (htt.mpr z))]
        ·
          refine R_lo (nx := 78) rfl rfl rfl rfl ?_
          refine R_call1 (nx := 81) (as := [(2, 21)]) (rest := []) rfl rfl (fun _ _ => rfl) rfl rfl rfl rfl rfl rfl rfl rfl (Cl.mono (c_Re_isAtEnd S L T (by assumption) (sk L T (de L T (sk L T ((sk L T p) + 1)))) f (nv L T (sk L T ((sk L T p) + 1))) (sk L T ((sk L T p) + 1)) t (by omega) (sk L T (de L T (sk L T ((sk L T p) + 1)))) (sk_sk L T _) ) ?_)
          rintro _ _ (⟨rfl, b78, rfl⟩ | ⟨rfl, b78, rfl⟩)
          ·
            refine ⟨_, rfl, ?_⟩
            refine R_ifF (nx := 84) rfl rfl rfl ?_
            refine R_lo (nx := 85) rfl rfl rfl rfl ?_
            refine R_lo (nx := 86) rfl rfl rfl rfl ?_
            refine R_get (nx := 89) (w := (0, (sk L T (de L T (sk L T ((sk L T p) + 1)))))) rfl rfl rfl rfl ?_
            refine R_call1 (nx := 92) (as := [(2, 21), (0, (sk L T (de L T (sk L T ((sk L T p) + 1)))))]) (rest := []) rfl rfl (fun _ _ => rfl) rfl rfl rfl rfl rfl rfl rfl rfl (Cl.mono (c_Re_fails S L T (sk L T (de L T (sk L T ((sk L T p) + 1)))) f (nv L T (sk L T ((sk L T p) + 1))) (sk L T ((sk L T p) + 1)) t (sk L T (de L T (sk L T ((sk L T p) + 1))))) ?_)
            rintro _ _ ⟨rfl, rfl⟩
            refine ⟨_, rfl, ?_⟩
            refine R_ret rfl (fun _ _ => rfl) rfl rfl ?_
            refine Or.inr ⟨rfl, (sk L T (de L T (sk L T ((sk L T p) + 1)))), _, _, _, ?_, by omega, rfl⟩
            unfold eR
            first | rw [if_pos b3] | rw [if_neg b3]
            unfold eR1
            rw [ifn_y b18]
            first | rw [if_pos b31] | rw [if_neg b31]
            rw [if_pos ⟨by omega, b78⟩]
          ·
            refine ⟨_, rfl, ?_⟩
            refine R_ifT (tg := 93) rfl rfl rfl ?_
            refine R_lo (nx := 94) rfl rfl rfl rfl ?_
            refine R_get (nx := 97) (w := (2, 3)) rfl rfl rfl rfl ?_
            refine R_get (nx := 100) (w := (0, ((rdS S (sk L T (de L T (sk L T ((sk L T p) + 1)))) f (nv L T (sk L T ((sk L T p) + 1))) (sk L T ((sk L T p) + 1)) t) 3 0))) rfl rfl rfl rfl ?_
            rw [show ((rdS S (sk L T (de L T (sk L T ((sk L T p) + 1)))) f (nv L T (sk L T ((sk L T p) + 1))) (sk L T ((sk L T p) + 1)) t) 3 0) = Xn K from (MC.rd hM (by omega)).n]
            refine R_op (nx := 101) rfl rfl rfl ?_
            refine R_isub (nx := 102) (z := ((Xn K) - 1)) rfl rfl rfl ⟨by omega, by omega⟩ ?_
            refine R_cv (w := x) (by omega) ?_
            refine R_lo (nx := 103) (ls' := [(2, 21), (0, (-1)), (0, 1), (0, x)]) rfl rfl rfl rfl ?_
            refine R_lo (nx := 104) rfl rfl rfl rfl ?_
            refine R_get (nx := 107) (w := (2, 3)) rfl rfl rfl rfl ?_
            refine R_lo (nx := 108) rfl rfl rfl rfl ?_
            refine R_lo (nx := 109) rfl rfl rfl rfl ?_
            refine R_get (nx := 112) (w := (0, (nv L T (sk L T ((sk L T p) + 1))))) rfl rfl rfl rfl ?_
            refine R_call1 (nx := 115) (as := [(2, 3), (0, x), (0, (nv L T (sk L T ((sk L T p) + 1))))]) (rest := []) rfl rfl (fun _ _ => rfl) rfl rfl rfl rfl rfl rfl rfl rfl (Cl.mono (c_C_mayHave (rdS S (sk L T (de L T (sk L T ((sk L T p) + 1)))) f (nv L T (sk L T ((sk L T p) + 1))) (sk L T ((sk L T p) + 1)) t) 3 isC_3 K (MC.rd (by assumption) (by omega)) (by assumption) x (nv L T (sk L T ((sk L T p) + 1)))) ?_)
            rintro _ _ (⟨rfl, b112_2, rfl⟩ | ⟨rfl, b112_2, rfl⟩)
            ·
              refine ⟨_, rfl, ?_⟩
              refine R_ifF (nx := 118) rfl rfl rfl ?_
              have hm12 : 0 ≤ (nv L T (sk L T ((sk L T p) + 1))) ∧ (nv L T (sk L T ((sk L T p) + 1))) < 12 := ⟨b112_2.2.1.1, by have := b112_2.2.1.2; omega⟩
              have htt := hB _ hm12.1 hm12.2
              refine R_lo (nx := 119) rfl rfl rfl rfl ?_
              refine R_get (nx := 122) (w := (0, t)) rfl rfl rfl rfl ?_
              refine R_lo (nx := 123) rfl rfl rfl rfl ?_
              refine R_get (nx := 126) (w := (0, (nv L T (sk L T ((sk L T p) + 1))))) rfl rfl rfl rfl ?_
              refine R_op (nx := 127) (st' := [(0, (Int32.ofInt t >>> (Int32.ofInt (nv L T (sk L T ((sk L T p) + 1))) &&& 31)).toInt)]) rfl rfl rfl ?_
              refine R_op (nx := 128) rfl rfl rfl ?_
              refine R_op (nx := 129) (st' := [(0, (Int32.ofInt (Int32.ofInt t >>> (Int32.ofInt (nv L T (sk L T ((sk L T p) + 1))) &&& 31)).toInt &&& Int32.ofInt 1).toInt)]) rfl rfl rfl ?_
              refine R_cv (w := (tb t (nv L T (sk L T ((sk L T p) + 1))))) (by rfl) ?_
              refine R_if (nx := 132) (tg := 141) rfl rfl rfl (mm_cnd_eq _ _) (fun c129_2 => ?_) (fun c129_2 => ?_)
              ·
                refine R_lo (nx := 142) rfl rfl rfl rfl ?_
                refine R_op (nx := 143) rfl rfl rfl ?_
                refine R_get (nx := 146) (w := (0, t)) rfl rfl rfl rfl ?_
                refine R_op (nx := 147) rfl rfl rfl ?_
                refine R_lo (nx := 148) rfl rfl rfl rfl ?_
                refine R_get (nx := 151) (w := (0, (nv L T (sk L T ((sk L T p) + 1))))) rfl rfl rfl rfl ?_
                refine R_op (nx := 152) (st' := [(0, (Int32.ofInt 1 <<< (Int32.ofInt (nv L T (sk L T ((sk L T p) + 1))) &&& 31)).toInt), (0, t), (2, 21)]) rfl rfl rfl ?_
                refine R_op (nx := 153) (st' := [(0, (Int32.ofInt t ||| Int32.ofInt (Int32.ofInt 1 <<< (Int32.ofInt (nv L T (sk L T ((sk L T p) + 1))) &&& 31)).toInt).toInt), (2, 21)]) rfl rfl rfl ?_
                refine R_put (nx := 156) (kk := 6) rfl rfl rfl rfl rfl ?_
                rw [rdS_6]
                refine R_lo (nx := 157) rfl rfl rfl rfl ?_
                refine R_get (nx := 160) (w := (2, 3)) rfl rfl rfl rfl ?_
                refine R_lo (nx := 161) rfl rfl rfl rfl ?_
                refine R_lo (nx := 162) rfl rfl rfl rfl ?_
                refine R_get (nx := 165) (w := (0, (nv L T (sk L T ((sk L T p) + 1))))) rfl rfl rfl rfl ?_
                refine R_lo (nx := 166) rfl rfl rfl rfl ?_
                refine R_lo (nx := 167) rfl rfl rfl rfl ?_
                refine R_imul (nx := 168) (z := (-1)) rfl rfl rfl ⟨by omega, by omega⟩ ?_
                refine R_call0 (nx := 171) (as := [(2, 3), (0, x), (0, (nv L T (sk L T ((sk L T p) + 1)))), (0, (-1))]) (rest := []) rfl rfl (fun _ _ => rfl) rfl rfl rfl rfl rfl rfl rfl rfl (Cl.mono (c_C_setEdge (rdS S (sk L T (de L T (sk L T ((sk L T p) + 1)))) f (nv L T (sk L T ((sk L T p) + 1))) (sk L T ((sk L T p) + 1)) (Int32.ofInt t ||| Int32.ofInt (Int32.ofInt 1 <<< (Int32.ofInt (nv L T (sk L T ((sk L T p) + 1))) &&& 31)).toInt).toInt) 3 isC_3 K (MC.rd (by assumption) (by omega)) x (nv L T (sk L T ((sk L T p) + 1))) (-1)) ?_)
                rintro _ S168_2 ⟨rfl, m168_2, f168_2⟩
                refine ⟨rfl, ?_⟩
                refine R_op (nx := 172) rfl rfl rfl ?_
                refine R_ret rfl (fun _ _ => rfl) rfl rfl ?_
                refine Or.inl ⟨rfl, (sk L T (de L T (sk L T ((sk L T p) + 1)))), (nv L T (sk L T ((sk L T p) + 1))), (-1), (nv L T (sk L T ((sk L T p) + 1))), (sk L T ((sk L T p) + 1)), S168_2, ?_, rdS_self (f168_2 21 (by decide)), TB_up hB hm12, m168_2, fun b hb hc => (f168_2 b hb).trans (rdS_ne hc)⟩
                unfold eR
                first | rw [if_pos b3] | rw [if_neg b3]
                unfold eR1
                rw [ifn_y b18]
                first | rw [if_pos b31] | rw [if_neg b31]
                rw [if_neg (by omega)]
                first | rw [ifn_y b60] | skip
                unfold eF ifm
                rw [if_pos b112_2, if_pos (htt.mp c129_2)]
                rfl
              ·
                refine R_lo (nx := 133) rfl rfl rfl rfl ?_
                refine R_lo (nx := 134) rfl rfl rfl rfl ?_
                refine R_get (nx := 137) (w := (0, (sk L T ((sk L T p) + 1)))) rfl rfl rfl rfl ?_
                refine R_call1 (nx := 140) (as := [(2, 21), (0, (sk L T ((sk L T p) + 1)))]) (rest := []) rfl rfl (fun _ _ => rfl) rfl rfl rfl rfl rfl rfl rfl rfl (Cl.mono (c_Re_fails S L T (sk L T (de L T (sk L T ((sk L T p) + 1)))) f (nv L T (sk L T ((sk L T p) + 1))) (sk L T ((sk L T p) + 1)) t (sk L T ((sk L T p) + 1))) ?_)
                rintro _ _ ⟨rfl, rfl⟩
                refine ⟨_, rfl, ?_⟩
                refine R_ret rfl (fun _ _ => rfl) rfl rfl ?_
                refine Or.inr ⟨rfl, (sk L T ((sk L T p) + 1)), _, _, _, ?_, by omega, rfl⟩
                unfold eR
                first | rw [if_pos b3] | rw [if_neg b3]
                unfold eR1
                rw [ifn_y b18]
                first | rw [if_pos b31] | rw [if_neg b31]
                rw [if_neg (by omega)]
                first | rw [ifn_y b60] | skip
                unfold eF ifm
                first | rw [if_neg b112_2] | rw [if_pos b112_2, if_neg (fun z => c129_2 (htt.mpr z))]
            ·
              refine ⟨_, rfl, ?_⟩
              refine R_ifT (tg := 132) rfl rfl rfl ?_
              refine R_lo (nx := 133) rfl rfl rfl rfl ?_
              refine R_lo (nx := 134) rfl rfl rfl rfl ?_
              refine R_get (nx := 137) (w := (0, (sk L T ((sk L T p) + 1)))) rfl rfl rfl rfl ?_
              refine R_call1 (nx := 140) (as := [(2, 21), (0, (sk L T ((sk L T p) + 1)))]) (rest := []) rfl rfl (fun _ _ => rfl) rfl rfl rfl rfl rfl rfl rfl rfl (Cl.mono (c_Re_fails S L T (sk L T (de L T (sk L T ((sk L T p) + 1)))) f (nv L T (sk L T ((sk L T p) + 1))) (sk L T ((sk L T p) + 1)) t (sk L T ((sk L T p) + 1))) ?_)
              rintro _ _ ⟨rfl, rfl⟩
              refine ⟨_, rfl, ?_⟩
              refine R_ret rfl (fun _ _ => rfl) rfl rfl ?_
              refine Or.inr ⟨rfl, (sk L T ((sk L T p) + 1)), _, _, _, ?_, by omega, rfl⟩
              unfold eR
              first | rw [if_pos b3] | rw [if_neg b3]
              unfold eR1
              rw [ifn_y b18]
              first | rw [if_pos b31] | rw [if_neg b31]
              rw [if_neg (by omega)]
              first | rw [ifn_y b60] | skip
              unfold eF ifm
              first | rw [if_neg b112_2] | rw [if_pos b112_2, if_neg (fun z => c129 (htt.mpr z))]
    ·
      have g18 := sk_ge L T ((sk L T p) + 1)
      have l18 := sk_le (L := L) T (p := ((sk L T p) + 1)) (by omega)
      refine ⟨_, rfl, ?_⟩
      refine R_ifF (nx := 24) rfl rfl rfl ?_
      refine R_op (nx := 25) rfl rfl rfl ?_
      refine R_ret rfl (fun _ _ => rfl) rfl rfl ?_
      refine Or.inr ⟨rfl, (sk L T ((sk L T p) + 1)), _, _, _, ?_, by omega, rfl⟩
      unfold eR
      first | rw [if_pos b3] | rw [if_neg b3]
      unfold eR1
      rw [ifn_n b18]
  ·
    have g3 := sk_ge L T p
    have l3 := sk_le (L := L) T (p := p) (by omega)
    refine ⟨_, rfl, ?_⟩
    refine R_ifT (tg := 13) rfl rfl rfl ?_
    refine R_op (nx := 14) rfl rfl rfl ?_
    refine R_lo (nx := 15) (ls' := [(2, 21), (0, 1), (9, 0), (9, 0)]) rfl rfl rfl rfl ?_
    refine R_lo (nx := 16) rfl rfl rfl rfl ?_
    refine R_op (nx := 18) rfl rfl rfl ?_
    refine R_call1 (nx := 21) (as := [(2, 21), (0, 99)]) (rest := []) rfl rfl (fun _ _ => rfl) rfl rfl rfl rfl rfl rfl rfl rfl (Cl.mono (c_Re_readsNumber S L T (by assumption) (sk L T p) f n q t (by omega) (sk L T p) (sk_sk L T _) 99 (by decide)) ?_)
    rintro _ _ (⟨rfl, b18_1, rfl⟩ | ⟨rfl, b18_1, p18_1, n18_1, rfl⟩)
    ·
      have w18_1 := nOk_r b18_1 (by decide) (by omega)
      refine ⟨_, rfl, ?_⟩
      refine R_ifT (tg := 26) rfl rfl rfl ?_
      refine R_op (nx := 27) rfl rfl rfl ?_
      refine R_lo (nx := 28) (ls' := [(2, 21), (0, 1), (0, 1), (9, 0)]) rfl rfl rfl rfl ?_
      refine R_lo (nx := 29) rfl rfl rfl rfl ?_
      refine R_op (nx := 31) rfl rfl rfl ?_
      refine R_call1 (nx := 34) (as := [(2, 21), (0, 42)]) (rest := []) rfl rfl (fun _ _ => rfl) rfl rfl rfl rfl rfl rfl rfl rfl (Cl.mono (c_Re_passes S L T (by assumption) (de L T (sk L T p)) f (nv L T (sk L T p)) (sk L T p) t (by omega) (sk L T (de L T (sk L T p))) rfl 42) ?_)
      rintro _ _ (⟨rfl, b31_1, rfl⟩ | ⟨rfl, b31_1, rfl⟩)
      ·
        have g31_1 := sk_ge L T (de L T (sk L T p))
        have l31_1 := sk_le (L := L) T (p := (de L T (sk L T p))) (by omega)
        have tb31_1 := ct_lt b31_1 (by decide)
        refine ⟨_, rfl, ?_⟩
        refine R_ifF (nx := 37) rfl rfl rfl ?_
        refine R_lo (nx := 38) rfl rfl rfl rfl ?_
        refine R_get (nx := 41) (w := (0, (nv L T (sk L T p)))) rfl rfl rfl rfl ?_
        refine R_lo (nx := 42) (ls' := [(2, 21), (0, 1), (0, (nv L T (sk L T p))), (9, 0)]) rfl rfl rfl rfl ?_
        refine R_lo (nx := 43) rfl rfl rfl rfl ?_
        refine R_op (nx := 45) rfl rfl rfl ?_
        refine R_icmp (nx := 48) (tg := 57) rfl rfl rfl (mm_cnd_le _ _) (fun c45_1 => ?_) (fun c45_1 => ?_)
        ·
          refine R_lo (nx := 58) rfl rfl rfl rfl ?_
          refine R_op (nx := 60) rfl rfl rfl ?_
          refine R_call1 (nx := 63) (as := [(2, 21), (0, 99)]) (rest := []) rfl rfl (fun _ _ => rfl) rfl rfl rfl rfl rfl rfl rfl rfl (Cl.mono (c_Re_readsNumber S L T (by assumption) ((sk L T (de L T (sk L T p))) + 1) f (nv L T (sk L T p)) (sk L T p) t (by omega) (sk L T ((sk L T (de L T (sk L T p))) + 1)) rfl 99 (by decide)) ?_)
          rintro _ _ (⟨rfl, b60_1, rfl⟩ | ⟨rfl, b60_1, p60_1, n60_1, rfl⟩)
          ·
            have g60_1 := sk_ge L T ((sk L T (de L T (sk L T p))) + 1)
            have l60_1 := sk_le (L := L) T (p := ((sk L T (de L T (sk L T p))) + 1)) (by omega)
            have w60_1 := nOk_r b60_1 (by decide) (by omega)
            refine ⟨_, rfl, ?_⟩
            refine R_ifT (tg := 93) rfl rfl rfl ?_
            refine R_lo (nx := 94) rfl rfl rfl rfl ?_
            refine R_get (nx := 97) (w := (2, 3)) rfl rfl rfl rfl ?_
            refine R_get (nx := 100) (w := (0, ((rdS S (de L T (sk L T ((sk L T (de L T (sk L T p))) + 1))) f (nv L T (sk L T ((sk L T (de L T (sk L T p))) + 1))) (sk L T ((sk L T (de L T (sk L T p))) + 1)) t) 3 0))) rfl rfl rfl rfl ?_
            rw [show ((rdS S (de L T (sk L T ((sk L T (de L T (sk L T p))) + 1))) f (nv L T (sk L T ((sk L T (de L T (sk L T p))) + 1))) (sk L T ((sk L T (de L T (sk L T p))) + 1)) t) 3 0) = Xn K from (MC.rd hM (by omega)).n]
            refine R_op (nx := 101) rfl rfl rfl ?_
            refine R_isub (nx := 102) (z := ((Xn K) - 1)) rfl rfl rfl ⟨by omega, by omega⟩ ?_
            refine R_cv (w := x) (by omega) ?_
            refine R_lo (nx := 103) (ls' := [(2, 21), (0, 1), (0, (nv L T (sk L T p))), (0, x)]) rfl rfl rfl rfl ?_
            refine R_lo (nx := 104) rfl rfl rfl rfl ?_
            refine R_get (nx := 107) (w := (2, 3)) rfl rfl rfl rfl ?_
            refine R_lo (nx := 108) rfl rfl rfl rfl ?_
            refine R_lo (nx := 109) rfl rfl rfl rfl ?_
            refine R_get (nx := 112) (w := (0, (nv L T (sk L T ((sk L T (de L T (sk L T p))) + 1))))) rfl rfl rfl rfl ?_
            refine R_call1 (nx := 115) (as := [(2, 3), (0, x), (0, (nv L T (sk L T ((sk L T (de L T (sk L T p))) + 1))))]) (rest := []) rfl rfl (fun _ _ => rfl) rfl rfl rfl rfl rfl rfl rfl rfl (Cl.mono (c_C_mayHave (rdS S (de L T (sk L T ((sk L T (de L T (sk L T p))) + 1))) f (nv L T (sk L T ((sk L T (de L T (sk L T p))) + 1))) (sk L T ((sk L T (de L T (sk L T p))) + 1)) t) 3 isC_3 K (MC.rd (by assumption) (by omega)) (by assumption) x (nv L T (sk L T ((sk L T (de L T (sk L T p))) + 1)))) ?_)
            rintro _ _ (⟨rfl, b112_3, rfl⟩ | ⟨rfl, b112_3, rfl⟩)
            ·
              refine ⟨_, rfl, ?_⟩
              refine R_ifF (nx := 118) rfl rfl rfl ?_
              have hm12 : 0 ≤ (nv L T (sk L T ((sk L T (de L T (sk L T p))) + 1))) ∧ (nv L T (sk L T ((sk L T (de L T (sk L T p))) + 1))) < 12 := ⟨b112_3.2.1.1, by have := b112_3.2.1.2; omega⟩
              have htt := hB _ hm12.1 hm12.2
              refine R_lo (nx := 119) rfl rfl rfl rfl ?_
              refine R_get (nx := 122) (w := (0, t)) rfl rfl rfl rfl ?_
              refine R_lo (nx := 123) rfl rfl rfl rfl ?_
              refine R_get (nx := 126) (w := (0, (nv L T (sk L T ((sk L T (de L T (sk L T p))) + 1))))) rfl rfl rfl rfl ?_
              refine R_op (nx := 127) (st' := [(0, (Int32.ofInt t >>> (Int32.ofInt (nv L T (sk L T ((sk L T (de L T (sk L T p))) + 1))) &&& 31)).toInt)]) rfl rfl rfl ?_
              refine R_op (nx := 128) rfl rfl rfl ?_
              refine R_op (nx := 129) (st' := [(0, (Int32.ofInt (Int32.ofInt t >>> (Int32.ofInt (nv L T (sk L T ((sk L T (de L T (sk L T p))) + 1))) &&& 31)).toInt &&& Int32.ofInt 1).toInt)]) rfl rfl rfl ?_
              refine R_cv (w := (tb t (nv L T (sk L T ((sk L T (de L T (sk L T p))) + 1))))) (by rfl) ?_
              refine R_if (nx := 132) (tg := 141) rfl rfl rfl (mm_cnd_eq _ _) (fun c129_3 => ?_) (fun c129_3 => ?_)
              ·
                refine R_lo (nx := 142) rfl rfl rfl rfl ?_
                refine R_op (nx := 143) rfl rfl rfl ?_
                refine R_get (nx := 146) (w := (0, t)) rfl rfl rfl rfl ?_
                refine R_op (nx := 147) rfl rfl rfl ?_
                refine R_lo (nx := 148) rfl rfl rfl rfl ?_
                refine R_get (nx := 151) (w := (0, (nv L T (sk L T ((sk L T (de L T (sk L T p))) + 1))))) rfl rfl rfl rfl ?_
                refine R_op (nx := 152) (st' := [(0, (Int32.ofInt 1 <<< (Int32.ofInt (nv L T (sk L T ((sk L T (de L T (sk L T p))) + 1))) &&& 31)).toInt), (0, t), (2, 21)]) rfl rfl rfl ?_
                refine R_op (nx := 153) (st' := [(0, (Int32.ofInt t ||| Int32.ofInt (Int32.ofInt 1 <<< (Int32.ofInt (nv L T (sk L T ((sk L T (de L T (sk L T p))) + 1))) &&& 31)).toInt).toInt), (2, 21)]) rfl rfl rfl ?_
                refine R_put (nx := 156) (kk := 6) rfl rfl rfl rfl rfl ?_
                rw [rdS_6]
                refine R_lo (nx := 157) rfl rfl rfl rfl ?_
                refine R_get (nx := 160) (w := (2, 3)) rfl rfl rfl rfl ?_
                refine R_lo (nx := 161) rfl rfl rfl rfl ?_
                refine R_lo (nx := 162) rfl rfl rfl rfl ?_
                refine R_get (nx := 165) (w := (0, (nv L T (sk L T ((sk L T (de L T (sk L T p))) + 1))))) rfl rfl rfl rfl ?_
                refine R_lo (nx := 166) rfl rfl rfl rfl ?_
                refine R_lo (nx := 167) rfl rfl rfl rfl ?_
                refine R_imul (nx := 168) (z := (1 * (nv L T (sk L T p)))) rfl rfl rfl ⟨by omega, by omega⟩ ?_
                refine R_cv (w := (nv L T (sk L T p))) (by omega) ?_
                refine R_call0 (nx := 171) (as := [(2, 3), (0, x), (0, (nv L T (sk L T ((sk L T (de L T (sk L T p))) + 1)))), (0, (nv L T (sk L T p)))]) (rest := []) rfl rfl (fun _ _ => rfl) rfl rfl rfl rfl rfl rfl rfl rfl (Cl.mono (c_C_setEdge (rdS S (de L T (sk L T ((sk L T (de L T (sk L T p))) + 1))) f (nv L T (sk L T ((sk L T (de L T (sk L T p))) + 1))) (sk L T ((sk L T (de L T (sk L T p))) + 1)) (Int32.ofInt t ||| Int32.ofInt (Int32.ofInt 1 <<< (Int32.ofInt (nv L T (sk L T ((sk L T (de L T (sk L T p))) + 1))) &&& 31)).toInt).toInt) 3 isC_3 K (MC.rd (by assumption) (by omega)) x (nv L T (sk L T ((sk L T (de L T (sk L T p))) + 1))) (nv L T (sk L T p))) ?_)
                rintro _ S168_3 ⟨rfl, m168_3, f168_3⟩
                refine ⟨rfl, ?_⟩
                refine R_op (nx := 172) rfl rfl rfl ?_
                refine R_ret rfl (fun _ _ => rfl) rfl rfl ?_
                refine Or.inl ⟨rfl, (de L T (sk L T ((sk L T (de L T (sk L T p))) + 1))), (nv L T (sk L T ((sk L T (de L T (sk L T p))) + 1))), (nv L T (sk L T p)), (nv L T (sk L T ((sk L T (de L T (sk L T p))) + 1))), (sk L T ((sk L T (de L T (sk L T p))) + 1)), S168_3, ?_, rdS_self (f168_3 21 (by decide)), TB_up hB hm12, m168_3, fun b hb hc => (f168_3 b hb).trans (rdS_ne hc)⟩
                unfold eR
                first | rw [if_pos b3] | rw [if_neg b3]
                unfold eR1
                rw [ifn_y b18_1]
                first | rw [if_pos b31_1] | rw [if_neg b31_1]
                rw [if_neg (by omega)]
                first | rw [ifn_y b60_1] | skip
                unfold eF ifm
                rw [if_pos b112_3, if_pos (htt.mp c129_3)]
                rfl
              ·
                refine R_lo (nx := 133) rfl rfl rfl rfl ?_
                refine R_lo (nx := 134) rfl rfl rfl rfl ?_
                refine R_get (nx := 137) (w := (0, (sk L T ((sk L T (de L T (sk L T p))) + 1)))) rfl rfl rfl rfl ?_
                refine R_call1 (nx := 140) (as := [(2, 21), (0, (sk L T ((sk L T (de L T (sk L T p))) + 1)))]) (rest := []) rfl rfl (fun _ _ => rfl) rfl rfl rfl rfl rfl rfl rfl rfl (Cl.mono (c_Re_fails S L T (de L T (sk L T ((sk L T (de L T (sk L T p))) + 1))) f (nv L T (sk L T ((sk L T (de L T (sk L T p))) + 1))) (sk L T ((sk L T (de L T (sk L T p))) + 1)) t (sk L T ((sk L T (de L T (sk L T p))) + 1))) ?_)
                rintro _ _ ⟨rfl, rfl⟩
                refine ⟨_, rfl, ?_⟩
                refine R_ret rfl (fun _ _ => rfl) rfl rfl ?_
                refine Or.inr ⟨rfl, (sk L T ((sk L T (de L T (sk L T p))) + 1)), _, _, _, ?_, by omega, rfl⟩
                unfold eR
                first | rw [if_pos b3] | rw [if_neg b3]
                unfold eR1
                rw [ifn_y b18_1]
                first | rw [if_pos b31_1] | rw [if_neg b31_1]
                rw [if_neg (by omega)]
                first | rw [ifn_y b60_1] | skip
                unfold eF ifm
                first | rw [if_neg b112_3] | rw [if_pos b112_3, if_neg (fun z => c129_3 (htt.mpr z))]
            ·
              refine ⟨_, rfl, ?_⟩
              refine R_ifT (tg := 132) rfl rfl rfl ?_
              refine R_lo (nx := 133) rfl rfl rfl rfl ?_
              refine R_lo (nx := 134) rfl rfl rfl rfl ?_
              refine R_get (nx := 137) (w := (0, (sk L T ((sk L T (de L T (sk L T p))) + 1)))) rfl rfl rfl rfl ?_
              refine R_call1 (nx := 140) (as := [(2, 21), (0, (sk L T ((sk L T (de L T (sk L T p))) + 1)))]) (rest := []) rfl rfl (fun _ _ => rfl) rfl rfl rfl rfl rfl rfl rfl rfl (Cl.mono (c_Re_fails S L T (de L T (sk L T ((sk L T (de L T (sk L T p))) + 1))) f (nv L T (sk L T ((sk L T (de L T (sk L T p))) + 1))) (sk L T ((sk L T (de L T (sk L T p))) + 1)) t (sk L T ((sk L T (de L T (sk L T p))) + 1))) ?_)
              rintro _ _ ⟨rfl, rfl⟩
              refine ⟨_, rfl, ?_⟩
              refine R_ret rfl (fun _ _ => rfl) rfl rfl ?_
              refine Or.inr ⟨rfl, (sk L T ((sk L T (de L T (sk L T p))) + 1)), _, _, _, ?_, by omega, rfl⟩
              unfold eR
              first | rw [if_pos b3] | rw [if_neg b3]
              unfold eR1
              rw [ifn_y b18_1]
              first | rw [if_pos b31_1] | rw [if_neg b31_1]
              rw [if_neg (by omega)]
              first | rw [ifn_y b60_1] | skip
              unfold eF ifm
              first | rw [if_neg b112_3] | rw [if_pos b112_3, if_neg (fun z => c129 (htt.mpr z))]
          ·
            have g60_1 := sk_ge L T ((sk L T (de L T (sk L T p))) + 1)
            have l60_1 := sk_le (L := L) T (p := ((sk L T (de L T (sk L T p))) + 1)) (by omega)
            refine ⟨_, rfl, ?_⟩
            refine R_ifF (nx := 66) rfl rfl rfl ?_
            refine R_op (nx := 67) rfl rfl rfl ?_
            refine R_ret rfl (fun _ _ => rfl) rfl rfl ?_
            refine Or.inr ⟨rfl, (sk L T ((sk L T (de L T (sk L T p))) + 1)), _, _, _, ?_, by omega, rfl⟩
            unfold eR
            first | rw [if_pos b3] | rw [if_neg b3]
            unfold eR1
            rw [ifn_y b18_1]
            first | rw [if_pos b31_1] | rw [if_neg b31_1]
            rw [if_neg (by omega)]
            rw [ifn_n b60_1]
        ·
          refine R_lo (nx := 49) rfl rfl rfl rfl ?_
          refine R_lo (nx := 50) rfl rfl rfl rfl ?_
          refine R_get (nx := 53) (w := (0, (sk L T p))) rfl rfl rfl rfl ?_
          refine R_call1 (nx := 56) (as := [(2, 21), (0, (sk L T p))]) (rest := []) rfl rfl (fun _ _ => rfl) rfl rfl rfl rfl rfl rfl rfl rfl (Cl.mono (c_Re_fails S L T ((sk L T (de L T (sk L T p))) + 1) f (nv L T (sk L T p)) (sk L T p) t (sk L T p)) ?_)
          rintro _ _ ⟨rfl, rfl⟩
          refine ⟨_, rfl, ?_⟩
          refine R_ret rfl (fun _ _ => rfl) rfl rfl ?_
          refine Or.inr ⟨rfl, (sk L T p), _, _, _, ?_, by omega, rfl⟩
          unfold eR
          first | rw [if_pos b3] | rw [if_neg b3]
          unfold eR1
          rw [ifn_y b18_1]
          first | rw [if_pos b31_1] | rw [if_neg b31_1]
          rw [if_pos (by omega)]
      ·
        have g31_1 := sk_ge L T (de L T (sk L T p))
        have l31_1 := sk_le (L := L) T (p := (de L T (sk L T p))) (by omega)
        refine ⟨_, rfl, ?_⟩
        refine R_ifT (tg := 68) rfl rfl rfl ?_
        refine R_lo (nx := 69) rfl rfl rfl rfl ?_
        refine R_get (nx := 72) (w := (0, (nv L T (sk L T p)))) rfl rfl rfl rfl ?_
        refine R_op (nx := 74) rfl rfl rfl ?_
        refine R_icmp (nx := 77) (tg := 93) rfl rfl rfl (mm_cnd_gt _ _) (fun c74_1 => ?_) (fun c74_1 => ?_)
        ·
          refine R_lo (nx := 94) rfl rfl rfl rfl ?_
          refine R_get (nx := 97) (w := (2, 3)) rfl rfl rfl rfl ?_
          refine R_get (nx := 100) (w := (0, ((rdS S (sk L T (de L T (sk L T p))) f (nv L T (sk L T p)) (sk L T p) t) 3 0))) rfl rfl rfl rfl ?_
          rw [show ((rdS S (sk L T (de L T (sk L T p))) f (nv L T (sk L T p)) (sk L T p) t) 3 0) = Xn K from (MC.rd hM (by omega)).n]
          refine R_op (nx := 101) rfl rfl rfl ?_
          refine R_isub (nx := 102) (z := ((Xn K) - 1)) rfl rfl rfl ⟨by omega, by omega⟩ ?_
          refine R_cv (w := x) (by omega) ?_
          refine R_lo (nx := 103) (ls' := [(2, 21), (0, 1), (0, 1), (0, x)]) rfl rfl rfl rfl ?_
          refine R_lo (nx := 104) rfl rfl rfl rfl ?_
          refine R_get (nx := 107) (w := (2, 3)) rfl rfl rfl rfl ?_
          refine R_lo (nx := 108) rfl rfl rfl rfl ?_
          refine R_lo (nx := 109) rfl rfl rfl rfl ?_
          refine R_get (nx := 112) (w := (0, (nv L T (sk L T p)))) rfl rfl rfl rfl ?_
          refine R_call1 (nx := 115) (as := [(2, 3), (0, x), (0, (nv L T (sk L T p)))]) (rest := []) rfl rfl (fun _ _ => rfl) rfl rfl rfl rfl rfl rfl rfl rfl (Cl.mono (c_C_mayHave (rdS S (sk L T (de L T (sk L T p))) f (nv L T (sk L T p)) (sk L T p) t) 3 isC_3 K (MC.rd (by assumption) (by omega)) (by assumption) x (nv L T (sk L T p))) ?_)
          rintro _ _ (⟨rfl, b112_4, rfl⟩ | ⟨rfl, b112_4, rfl⟩)
          ·
            refine ⟨_, rfl, ?_⟩
            refine R_ifF (nx := 118) rfl rfl rfl ?_
            have hm12 : 0 ≤ (nv L T (sk L T p)) ∧ (nv L T (sk L T p)) < 12 := ⟨b112_4.2.1.1, by have := b112_4.2.1.2; omega⟩
            have htt := hB _ hm12.1 hm12.2
            refine R_lo (nx := 119) rfl rfl rfl rfl ?_
            refine R_get (nx := 122) (w := (0, t)) rfl rfl rfl rfl ?_
            refine R_lo (nx := 123) rfl rfl rfl rfl ?_
            refine R_get (nx := 126) (w := (0, (nv L T (sk L T p)))) rfl rfl rfl rfl ?_
            refine R_op (nx := 127) (st' := [(0, (Int32.ofInt t >>> (Int32.ofInt (nv L T (sk L T p)) &&& 31)).toInt)]) rfl rfl rfl ?_
            refine R_op (nx := 128) rfl rfl rfl ?_
            refine R_op (nx := 129) (st' := [(0, (Int32.ofInt (Int32.ofInt t >>> (Int32.ofInt (nv L T (sk L T p)) &&& 31)).toInt &&& Int32.ofInt 1).toInt)]) rfl rfl rfl ?_
            refine R_cv (w := (tb t (nv L T (sk L T p)))) (by rfl) ?_
            refine R_if (nx := 132) (tg := 141) rfl rfl rfl (mm_cnd_eq _ _) (fun c129_4 => ?_) (fun c129_4 => ?_)
            ·
              refine R_lo (nx := 142) rfl rfl rfl rfl ?_
              refine R_op (nx := 143) rfl rfl rfl ?_
              refine R_get (nx := 146) (w := (0, t)) rfl rfl rfl rfl ?_
              refine R_op (nx := 147) rfl rfl rfl ?_
              refine R_lo (nx := 148) rfl rfl rfl rfl ?_
              refine R_get (nx := 151) (w := (0, (nv L T (sk L T p)))) rfl rfl rfl rfl ?_
              refine R_op (nx := 152) (st' := [(0, (Int32.ofInt 1 <<< (Int32.ofInt (nv L T (sk L T p)) &&& 31)).toInt), (0, t), (2, 21)]) rfl rfl rfl ?_
              refine R_op (nx := 153) (st' := [(0, (Int32.ofInt t ||| Int32.ofInt (Int32.ofInt 1 <<< (Int32.ofInt (nv L T (sk L T p)) &&& 31)).toInt).toInt), (2, 21)]) rfl rfl rfl ?_
              refine R_put (nx := 156) (kk := 6) rfl rfl rfl rfl rfl ?_
              rw [rdS_6]
              refine R_lo (nx := 157) rfl rfl rfl rfl ?_
              refine R_get (nx := 160) (w := (2, 3)) rfl rfl rfl rfl ?_
              refine R_lo (nx := 161) rfl rfl rfl rfl ?_
              refine R_lo (nx := 162) rfl rfl rfl rfl ?_
              refine R_get (nx := 165) (w := (0, (nv L T (sk L T p)))) rfl rfl rfl rfl ?_
              refine R_lo (nx := 166) rfl rfl rfl rfl ?_
              refine R_lo (nx := 167) rfl rfl rfl rfl ?_
              refine R_imul (nx := 168) (z := 1) rfl rfl rfl ⟨by omega, by omega⟩ ?_
              refine R_call0 (nx := 171) (as := [(2, 3), (0, x), (0, (nv L T (sk L T p))), (0, 1)]) (rest := []) rfl rfl (fun _ _ => rfl) rfl rfl rfl rfl rfl rfl rfl rfl (Cl.mono (c_C_setEdge (rdS S (sk L T (de L T (sk L T p))) f (nv L T (sk L T p)) (sk L T p) (Int32.ofInt t ||| Int32.ofInt (Int32.ofInt 1 <<< (Int32.ofInt (nv L T (sk L T p)) &&& 31)).toInt).toInt) 3 isC_3 K (MC.rd (by assumption) (by omega)) x (nv L T (sk L T p)) 1) ?_)
              rintro _ S168_4 ⟨rfl, m168_4, f168_4⟩
              refine ⟨rfl, ?_⟩
              refine R_op (nx := 172) rfl rfl rfl ?_
              refine R_ret rfl (fun _ _ => rfl) rfl rfl ?_
              refine Or.inl ⟨rfl, (sk L T (de L T (sk L T p))), (nv L T (sk L T p)), 1, (nv L T (sk L T p)), (sk L T p), S168_4, ?_, rdS_self (f168_4 21 (by decide)), TB_up hB hm12, m168_4, fun b hb hc => (f168_4 b hb).trans (rdS_ne hc)⟩
              unfold eR
              first | rw [if_pos b3] | rw [if_neg b3]
              unfold eR1
              rw [ifn_y b18_1]
              first | rw [if_pos b31_1] | rw [if_neg b31_1]
              rw [if_neg (by omega)]
              first | rw [ifn_y b60] | skip
              unfold eF ifm
              rw [if_pos b112_4, if_pos (htt.mp c129_4)]
              rfl
            ·
              refine R_lo (nx := 133) rfl rfl rfl rfl ?_
              refine R_lo (nx := 134) rfl rfl rfl rfl ?_
              refine R_get (nx := 137) (w := (0, (sk L T p))) rfl rfl rfl rfl ?_
              refine R_call1 (nx := 140) (as := [(2, 21), (0, (sk L T p))]) (rest := []) rfl rfl (fun _ _ => rfl) rfl rfl rfl rfl rfl rfl rfl rfl (Cl.mono (c_Re_fails S L T (sk L T (de L T (sk L T p))) f (nv L T (sk L T p)) (sk L T p) t (sk L T p)) ?_)
              rintro _ _ ⟨rfl, rfl⟩
              refine ⟨_, rfl, ?_⟩
              refine R_ret rfl (fun _ _ => rfl) rfl rfl ?_
              refine Or.inr ⟨rfl, (sk L T p), _, _, _, ?_, by omega, rfl⟩
              unfold eR
              first | rw [if_pos b3] | rw [if_neg b3]
              unfold eR1
              rw [ifn_y b18_1]
              first | rw [if_pos b31_1] | rw [if_neg b31_1]
              rw [if_neg (by omega)]
              first | rw [ifn_y b60] | skip
              unfold eF ifm
              first | rw [if_neg b112_4] | rw [if_pos b112_4, if_neg (fun z => c129_4 (htt.mpr z))]
          ·
            refine ⟨_, rfl, ?_⟩
            refine R_ifT (tg := 132) rfl rfl rfl ?_
            refine R_lo (nx := 133) rfl rfl rfl rfl ?_
            refine R_lo (nx := 134) rfl rfl rfl rfl ?_
            refine R_get (nx := 137) (w := (0, (sk L T p))) rfl rfl rfl rfl ?_
            refine R_call1 (nx := 140) (as := [(2, 21), (0, (sk L T p))]) (rest := []) rfl rfl (fun _ _ => rfl) rfl rfl rfl rfl rfl rfl rfl rfl (Cl.mono (c_Re_fails S L T (sk L T (de L T (sk L T p))) f (nv L T (sk L T p)) (sk L T p) t (sk L T p)) ?_)
            rintro _ _ ⟨rfl, rfl⟩
            refine ⟨_, rfl, ?_⟩
            refine R_ret rfl (fun _ _ => rfl) rfl rfl ?_
            refine Or.inr ⟨rfl, (sk L T p), _, _, _, ?_, by omega, rfl⟩
            unfold eR
            first | rw [if_pos b3] | rw [if_neg b3]
            unfold eR1
            rw [ifn_y b18_1]
            first | rw [if_pos b31_1] | rw [if_neg b31_1]
            rw [if_neg (by omega)]
            first | rw [ifn_y b60] | skip
            unfold eF ifm
            first | rw [if_neg b112_4] | rw [if_pos b112_4, if_neg (fun z => c129 (htt.mpr z))]
        ·
          refine R_lo (nx := 78) rfl rfl rfl rfl ?_
          refine R_call1 (nx := 81) (as := [(2, 21)]) (rest := []) rfl rfl (fun _ _ => rfl) rfl rfl rfl rfl rfl rfl rfl rfl (Cl.mono (c_Re_isAtEnd S L T (by assumption) (sk L T (de L T (sk L T p))) f (nv L T (sk L T p)) (sk L T p) t (by omega) (sk L T (de L T (sk L T p))) (sk_sk L T _) ) ?_)
          rintro _ _ (⟨rfl, b78_1, rfl⟩ | ⟨rfl, b78_1, rfl⟩)
          ·
            refine ⟨_, rfl, ?_⟩
            refine R_ifF (nx := 84) rfl rfl rfl ?_
            refine R_lo (nx := 85) rfl rfl rfl rfl ?_
            refine R_lo (nx := 86) rfl rfl rfl rfl ?_
            refine R_get (nx := 89) (w := (0, (sk L T (de L T (sk L T p))))) rfl rfl rfl rfl ?_
            refine R_call1 (nx := 92) (as := [(2, 21), (0, (sk L T (de L T (sk L T p))))]) (rest := []) rfl rfl (fun _ _ => rfl) rfl rfl rfl rfl rfl rfl rfl rfl (Cl.mono (c_Re_fails S L T (sk L T (de L T (sk L T p))) f (nv L T (sk L T p)) (sk L T p) t (sk L T (de L T (sk L T p)))) ?_)
            rintro _ _ ⟨rfl, rfl⟩
            refine ⟨_, rfl, ?_⟩
            refine R_ret rfl (fun _ _ => rfl) rfl rfl ?_
            refine Or.inr ⟨rfl, (sk L T (de L T (sk L T p))), _, _, _, ?_, by omega, rfl⟩
            unfold eR
            first | rw [if_pos b3] | rw [if_neg b3]
            unfold eR1
            rw [ifn_y b18_1]
            first | rw [if_pos b31_1] | rw [if_neg b31_1]
            rw [if_pos ⟨by omega, b78_1⟩]
          ·
            refine ⟨_, rfl, ?_⟩
            refine R_ifT (tg := 93) rfl rfl rfl ?_
            refine R_lo (nx := 94) rfl rfl rfl rfl ?_
            refine R_get (nx := 97) (w := (2, 3)) rfl rfl rfl rfl ?_
            refine R_get (nx := 100) (w := (0, ((rdS S (sk L T (de L T (sk L T p))) f (nv L T (sk L T p)) (sk L T p) t) 3 0))) rfl rfl rfl rfl ?_
            rw [show ((rdS S (sk L T (de L T (sk L T p))) f (nv L T (sk L T p)) (sk L T p) t) 3 0) = Xn K from (MC.rd hM (by omega)).n]
            refine R_op (nx := 101) rfl rfl rfl ?_
            refine R_isub (nx := 102) (z := ((Xn K) - 1)) rfl rfl rfl ⟨by omega, by omega⟩ ?_
            refine R_cv (w := x) (by omega) ?_
            refine R_lo (nx := 103) (ls' := [(2, 21), (0, 1), (0, 1), (0, x)]) rfl rfl rfl rfl ?_
            refine R_lo (nx := 104) rfl rfl rfl rfl ?_
            refine R_get (nx := 107) (w := (2, 3)) rfl rfl rfl rfl ?_
            refine R_lo (nx := 108) rfl rfl rfl rfl ?_
            refine R_lo (nx := 109) rfl rfl rfl rfl ?_
            refine R_get (nx := 112) (w := (0, (nv L T (sk L T p)))) rfl rfl rfl rfl ?_
            refine R_call1 (nx := 115) (as := [(2, 3), (0, x), (0, (nv L T (sk L T p)))]) (rest := []) rfl rfl (fun _ _ => rfl) rfl rfl rfl rfl rfl rfl rfl rfl (Cl.mono (c_C_mayHave (rdS S (sk L T (de L T (sk L T p))) f (nv L T (sk L T p)) (sk L T p) t) 3 isC_3 K (MC.rd (by assumption) (by omega)) (by assumption) x (nv L T (sk L T p))) ?_)
            rintro _ _ (⟨rfl, b112_5, rfl⟩ | ⟨rfl, b112_5, rfl⟩)
            ·
              refine ⟨_, rfl, ?_⟩
              refine R_ifF (nx := 118) rfl rfl rfl ?_
              have hm12 : 0 ≤ (nv L T (sk L T p)) ∧ (nv L T (sk L T p)) < 12 := ⟨b112_5.2.1.1, by have := b112_5.2.1.2; omega⟩
              have htt := hB _ hm12.1 hm12.2
              refine R_lo (nx := 119) rfl rfl rfl rfl ?_
              refine R_get (nx := 122) (w := (0, t)) rfl rfl rfl rfl ?_
              refine R_lo (nx := 123) rfl rfl rfl rfl ?_
              refine R_get (nx := 126) (w := (0, (nv L T (sk L T p)))) rfl rfl rfl rfl ?_
              refine R_op (nx := 127) (st' := [(0, (Int32.ofInt t >>> (Int32.ofInt (nv L T (sk L T p)) &&& 31)).toInt)]) rfl rfl rfl ?_
              refine R_op (nx := 128) rfl rfl rfl ?_
              refine R_op (nx := 129) (st' := [(0, (Int32.ofInt (Int32.ofInt t >>> (Int32.ofInt (nv L T (sk L T p)) &&& 31)).toInt &&& Int32.ofInt 1).toInt)]) rfl rfl rfl ?_
              refine R_cv (w := (tb t (nv L T (sk L T p)))) (by rfl) ?_
              refine R_if (nx := 132) (tg := 141) rfl rfl rfl (mm_cnd_eq _ _) (fun c129_5 => ?_) (fun c129_5 => ?_)
              ·
                refine R_lo (nx := 142) rfl rfl rfl rfl ?_
                refine R_op (nx := 143) rfl rfl rfl ?_
                refine R_get (nx := 146) (w := (0, t)) rfl rfl rfl rfl ?_
                refine R_op (nx := 147) rfl rfl rfl ?_
                refine R_lo (nx := 148) rfl rfl rfl rfl ?_
                refine R_get (nx := 151) (w := (0, (nv L T (sk L T p)))) rfl rfl rfl rfl ?_
                refine R_op (nx := 152) (st' := [(0, (Int32.ofInt 1 <<< (Int32.ofInt (nv L T (sk L T p)) &&& 31)).toInt), (0, t), (2, 21)]) rfl rfl rfl ?_
                refine R_op (nx := 153) (st' := [(0, (Int32.ofInt t ||| Int32.ofInt (Int32.ofInt 1 <<< (Int32.ofInt (nv L T (sk L T p)) &&& 31)).toInt).toInt), (2, 21)]) rfl rfl rfl ?_
                refine R_put (nx := 156) (kk := 6) rfl rfl rfl rfl rfl ?_
                rw [rdS_6]
                refine R_lo (nx := 157) rfl rfl rfl rfl ?_
                refine R_get (nx := 160) (w := (2, 3)) rfl rfl rfl rfl ?_
                refine R_lo (nx := 161) rfl rfl rfl rfl ?_
                refine R_lo (nx := 162) rfl rfl rfl rfl ?_
                refine R_get (nx := 165) (w := (0, (nv L T (sk L T p)))) rfl rfl rfl rfl ?_
                refine R_lo (nx := 166) rfl rfl rfl rfl ?_
                refine R_lo (nx := 167) rfl rfl rfl rfl ?_
                refine R_imul (nx := 168) (z := 1) rfl rfl rfl ⟨by omega, by omega⟩ ?_
                refine R_call0 (nx := 171) (as := [(2, 3), (0, x), (0, (nv L T (sk L T p))), (0, 1)]) (rest := []) rfl rfl (fun _ _ => rfl) rfl rfl rfl rfl rfl rfl rfl rfl (Cl.mono (c_C_setEdge (rdS S (sk L T (de L T (sk L T p))) f (nv L T (sk L T p)) (sk L T p) (Int32.ofInt t ||| Int32.ofInt (Int32.ofInt 1 <<< (Int32.ofInt (nv L T (sk L T p)) &&& 31)).toInt).toInt) 3 isC_3 K (MC.rd (by assumption) (by omega)) x (nv L T (sk L T p)) 1) ?_)
                rintro _ S168_5 ⟨rfl, m168_5, f168_5⟩
                refine ⟨rfl, ?_⟩
                refine R_op (nx := 172) rfl rfl rfl ?_
                refine R_ret rfl (fun _ _ => rfl) rfl rfl ?_
                refine Or.inl ⟨rfl, (sk L T (de L T (sk L T p))), (nv L T (sk L T p)), 1, (nv L T (sk L T p)), (sk L T p), S168_5, ?_, rdS_self (f168_5 21 (by decide)), TB_up hB hm12, m168_5, fun b hb hc => (f168_5 b hb).trans (rdS_ne hc)⟩
                unfold eR
                first | rw [if_pos b3] | rw [if_neg b3]
                unfold eR1
                rw [ifn_y b18_1]
                first | rw [if_pos b31_1] | rw [if_neg b31_1]
                rw [if_neg (by omega)]
                first | rw [ifn_y b60] | skip
                unfold eF ifm
                rw [if_pos b112_5, if_pos (htt.mp c129_5)]
                rfl
              ·
                refine R_lo (nx := 133) rfl rfl rfl rfl ?_
                refine R_lo (nx := 134) rfl rfl rfl rfl ?_
                refine R_get (nx := 137) (w := (0, (sk L T p))) rfl rfl rfl rfl ?_
                refine R_call1 (nx := 140) (as := [(2, 21), (0, (sk L T p))]) (rest := []) rfl rfl (fun _ _ => rfl) rfl rfl rfl rfl rfl rfl rfl rfl (Cl.mono (c_Re_fails S L T (sk L T (de L T (sk L T p))) f (nv L T (sk L T p)) (sk L T p) t (sk L T p)) ?_)
                rintro _ _ ⟨rfl, rfl⟩
                refine ⟨_, rfl, ?_⟩
                refine R_ret rfl (fun _ _ => rfl) rfl rfl ?_
                refine Or.inr ⟨rfl, (sk L T p), _, _, _, ?_, by omega, rfl⟩
                unfold eR
                first | rw [if_pos b3] | rw [if_neg b3]
                unfold eR1
                rw [ifn_y b18_1]
                first | rw [if_pos b31_1] | rw [if_neg b31_1]
                rw [if_neg (by omega)]
                first | rw [ifn_y b60] | skip
                unfold eF ifm
                first | rw [if_neg b112_5] | rw [if_pos b112_5, if_neg (fun z => c129_5 (htt.mpr z))]
            ·
              refine ⟨_, rfl, ?_⟩
              refine R_ifT (tg := 132) rfl rfl rfl ?_
              refine R_lo (nx := 133) rfl rfl rfl rfl ?_
              refine R_lo (nx := 134) rfl rfl rfl rfl ?_
              refine R_get (nx := 137) (w := (0, (sk L T p))) rfl rfl rfl rfl ?_
              refine R_call1 (nx := 140) (as := [(2, 21), (0, (sk L T p))]) (rest := []) rfl rfl (fun _ _ => rfl) rfl rfl rfl rfl rfl rfl rfl rfl (Cl.mono (c_Re_fails S L T (sk L T (de L T (sk L T p))) f (nv L T (sk L T p)) (sk L T p) t (sk L T p)) ?_)
              rintro _ _ ⟨rfl, rfl⟩
              refine ⟨_, rfl, ?_⟩
              refine R_ret rfl (fun _ _ => rfl) rfl rfl ?_
              refine Or.inr ⟨rfl, (sk L T p), _, _, _, ?_, by omega, rfl⟩
              unfold eR
              first | rw [if_pos b3] | rw [if_neg b3]
              unfold eR1
              rw [ifn_y b18_1]
              first | rw [if_pos b31_1] | rw [if_neg b31_1]
              rw [if_neg (by omega)]
              first | rw [ifn_y b60] | skip
              unfold eF ifm
              first | rw [if_neg b112_5] | rw [if_pos b112_5, if_neg (fun z => c129 (htt.mpr z))]
    ·
      refine ⟨_, rfl, ?_⟩
      refine R_ifF (nx := 24) rfl rfl rfl ?_
      refine R_op (nx := 25) rfl rfl rfl ?_
      refine R_ret rfl (fun _ _ => rfl) rfl rfl ?_
      refine Or.inr ⟨rfl, (sk L T p), _, _, _, ?_, by omega, rfl⟩
      unfold eR
      first | rw [if_pos b3] | rw [if_neg b3]
      unfold eR1
      rw [ifn_n b18_1]

set_option maxRecDepth 20000 in
set_option maxHeartbeats 4000000 in
theorem c_Re_readsEntries (S : mm_S) (L : Int) (T : Int → Int) (hT : TPc S L T) (p f n q t : Int) (hp : 0 ≤ p ∧ p ≤ L) (K : CX) (x : Int) (hx : Xn K = x + 1) (hM : MC S 3 K) (hV : Vx K) : Cl 150 [(2, 21)] (rdS S p f n q t) (fun v S' => (v = some (0, 1) ∧ ∃ K1 p1 n1 q1 w1 S1, es L T K x (fun _ => 0) p = (1, p1, K1) ∧ S' = rdS S1 p1 f n1 q1 w1 ∧ MC S1 3 K1 ∧ Vx K1 ∧ Xn K1 = x + 1 ∧ (∀ b, b ≠ 7 → b ≠ 21 → S1 b = S b) ∧ p ≤ p1 ∧ p1 ≤ L) ∨ (v = some (0, 0) ∧ ∃ z K1 p1 n1 q1 w1 S1, es L T K x (fun _ => 0) p = (0, z, K1) ∧ (0 ≤ z ∧ z ≤ L) ∧ S' = rdS S1 p1 z n1 q1 w1 ∧ (∀ b, b ≠ 7 → b ≠ 21 → S1 b = S b))) := by
  refine ⟨Nat.le_of_ble_eq_true rfl, ?_⟩
  show Rn k_Re_readsEntries 0 [(2, 21), (9, 0), (9, 0)] [] (rdS S p f n q t) _
  have hL := hT.1
  refine R_lo (nx := 1) rfl rfl rfl rfl ?_
  refine R_op (nx := 2) rfl rfl rfl ?_
  refine R_put (nx := 5) (kk := 6) rfl rfl rfl rfl rfl ?_
  rw [rdS_6]
  refine R_op (nx := 6) rfl rfl rfl ?_
  refine R_lo (nx := 7) (ls' := [(2, 21), (0, 1), (9, 0)]) rfl rfl rfl rfl ?_
  refine R_op (nx := 8) rfl rfl rfl ?_
  refine R_lo (nx := 9) (ls' := [(2, 21), (0, 1), (0, 0)]) rfl rfl rfl rfl ?_
  have L9 : ∀ (f9 : Nat) (S1 : mm_S) (K1 : CX) (td : Int → Int) (p1 : Int) (n1 : Int) (q1 : Int) (w1 : Int) (more : Int) (turn : Int), ((200 : Int) - turn).toNat < f9 → (MC S1 3 K1) → (Vx K1) → (Xn K1 = x + 1) → (p ≤ p1 ∧ p1 ≤ L) → (0 ≤ turn ∧ (more = 1 → 2 * turn ≤ p1)) → (more = 0 ∨ more = 1) → (TB w1 td) → ((∀ b, b ≠ 7 → b ≠ 21 → S1 b = S b)) → (more = 1 → es L T K x (fun _ => 0) p = es L T K1 x td p1) → (more = 0 → es L T K x (fun _ => 0) p = (1, p1, K1)) → Rn k_Re_readsEntries 9 [(2, 21), (0, more), (0, turn)] [] (rdS S1 p1 f n1 q1 w1) (fun v S' => (v = some (0, 1) ∧ ∃ K1 p1 n1 q1 w1 S1, es L T K x (fun _ => 0) p = (1, p1, K1) ∧ S' = rdS S1 p1 f n1 q1 w1 ∧ MC S1 3 K1 ∧ Vx K1 ∧ Xn K1 = x + 1 ∧ (∀ b, b ≠ 7 → b ≠ 21 → S1 b = S b) ∧ p ≤ p1 ∧ p1 ≤ L) ∨ (v = some (0, 0) ∧ ∃ z K1 p1 n1 q1 w1 S1, es L T K x (fun _ => 0) p = (0, z, K1) ∧ (0 ≤ z ∧ z ≤ L) ∧ S' = rdS S1 p1 z n1 q1 w1 ∧ (∀ b, b ≠ 7 → b ≠ 21 → S1 b = S b))) := by
    intro f9
    induction f9 with
    | zero => intro S1 K1 td p1 n1 q1 w1 more turn hm9; exact absurd hm9 (Nat.not_lt_zero _)
    | succ f9 ih9 =>
      intro S1 K1 td p1 n1 q1 w1 more turn hm9 hM1 hV1 hx1 hp1 ht hm hB1 hF hH1 hH0
      have hT1 : TPc S1 L T := hT.fr (hF 19 (by decide) (by decide)) (hF 20 (by decide) (by decide))
      refine R_lo (nx := 10) rfl rfl rfl rfl ?_
      refine R_op (nx := 13) rfl rfl rfl ?_
      refine R_icmp (nx := 16) (tg := 42) rfl rfl rfl (mm_cnd_ge _ _) (fun c13 => ?_) (fun c13 => ?_)
      ·
        refine R_op (nx := 43) rfl rfl rfl ?_
        refine R_ret rfl (fun _ _ => rfl) rfl rfl ?_
        exact Or.inl ⟨rfl, K1, p1, n1, q1, w1, S1, hH0 (by omega), rfl, hM1, hV1, hx1, hF, by omega, by omega⟩
      ·
        refine R_lo (nx := 17) rfl rfl rfl rfl ?_
        refine R_if (nx := 20) (tg := 42) rfl rfl rfl (mm_cnd_eq _ _) (fun c17 => ?_) (fun c17 => ?_)
        ·
          refine R_op (nx := 43) rfl rfl rfl ?_
          refine R_ret rfl (fun _ _ => rfl) rfl rfl ?_
          exact Or.inl ⟨rfl, K1, p1, n1, q1, w1, S1, hH0 (by omega), rfl, hM1, hV1, hx1, hF, by omega, by omega⟩
        ·
          have hmore : more = 1 := by omega
          refine R_lo (nx := 21) rfl rfl rfl rfl ?_
          refine R_call1 (nx := 24) (as := [(2, 21)]) (rest := []) rfl rfl (fun _ _ => rfl) rfl rfl rfl rfl rfl rfl rfl rfl (Cl.mono (c_Re_readsEntry S1 L T (by assumption) p1 f n1 q1 w1 (by omega) K1 x (by assumption) (by assumption) (by assumption) td (by assumption)) ?_)
          rintro _ _ (⟨rfl, x21, m21, u21, n21, q21, S21, e21, rfl, B21, mc21, f21⟩ | ⟨rfl, z21, p21, n21, q21, e21, B21, rfl⟩)
          ·
            have a21 := eR_ok (by omega) e21
            have hT21 : TPc S21 L T := hT1.fr (f21 19 (by decide) (by decide)) (f21 20 (by decide) (by decide))
            refine ⟨_, rfl, ?_⟩
            refine R_ifT (tg := 29) rfl rfl rfl ?_
            refine R_lo (nx := 30) rfl rfl rfl rfl ?_
            refine R_op (nx := 32) rfl rfl rfl ?_
            refine R_call1 (nx := 35) (as := [(2, 21), (0, 44)]) (rest := []) rfl rfl (fun _ _ => rfl) rfl rfl rfl rfl rfl rfl rfl rfl (Cl.mono (c_Re_passes S21 L T (by assumption) x21 f n21 q21 (orb m21 w1) (by omega) (sk L T x21) rfl 44) ?_)
            rintro _ _ (⟨rfl, b32, rfl⟩ | ⟨rfl, b32, rfl⟩)
            ·
              have g32 := sk_ge L T x21
              have l32 := sk_le (L := L) T (p := x21) (by omega)
              have tb32 := ct_lt b32 (by decide)
              refine ⟨_, rfl, ?_⟩
              refine R_lo (nx := 36) (ls' := [(2, 21), (0, 1), (0, turn)]) rfl rfl rfl rfl ?_
              refine R_iinc (nx := 39) (z := (turn + 1)) (ls' := [(2, 21), (0, 1), (0, (turn + 1))]) rfl rfl rfl rfl ⟨by omega, by omega⟩ rfl ?_
              refine R_op (nx := 42) (pc' := 9) rfl rfl rfl ?_
              refine Rn.weak (ls' := [(2, 21), (0, 1), (0, (turn + 1))]) ⟨Or.inl rfl, ⟨Or.inl rfl, ⟨Or.inl rfl, trivial⟩⟩⟩ ?_
              refine ih9 (S21) ((Xset K1 x m21 u21)) ((ups td m21)) (((sk L T x21) + 1)) (n21) (q21) ((orb m21 w1)) (1) ((turn + 1)) ?_ ?_ ?_ ?_ ?_ ?_ ?_ ?_ ?_ ?_ ?_
              · omega
              · exact mc21
              · exact Xset_Vx hV1 a21.2.2.2.2 (Or.inr a21.2.2.2.1)
              · exact hx1
              · omega
              · omega
              · omega
              · exact B21
              · intro b h1 h2; rw [f21 b h1 h2]; exact hF b h1 h2
              · first | (intro q; exact absurd q (by decide)) | (intro _; rw [hH1 hmore]; exact es_c (by omega) e21 b32)
              · first | (intro q; exact absurd q (by decide)) | (intro _; rw [hH1 hmore]; exact es_d (by omega) e21 b32)
            ·
              have g32 := sk_ge L T x21
              have l32 := sk_le (L := L) T (p := x21) (by omega)
              refine ⟨_, rfl, ?_⟩
              refine R_lo (nx := 36) (ls' := [(2, 21), (0, 0), (0, turn)]) rfl rfl rfl rfl ?_
              refine R_iinc (nx := 39) (z := (turn + 1)) (ls' := [(2, 21), (0, 0), (0, (turn + 1))]) rfl rfl rfl rfl ⟨by omega, by omega⟩ rfl ?_
              refine R_op (nx := 42) (pc' := 9) rfl rfl rfl ?_
              refine Rn.weak (ls' := [(2, 21), (0, 0), (0, (turn + 1))]) ⟨Or.inl rfl, ⟨Or.inl rfl, ⟨Or.inl rfl, trivial⟩⟩⟩ ?_
              refine ih9 (S21) ((Xset K1 x m21 u21)) ((ups td m21)) ((sk L T x21)) (n21) (q21) ((orb m21 w1)) (0) ((turn + 1)) ?_ ?_ ?_ ?_ ?_ ?_ ?_ ?_ ?_ ?_ ?_
              · omega
              · exact mc21
              · exact Xset_Vx hV1 a21.2.2.2.2 (Or.inr a21.2.2.2.1)
              · exact hx1
              · omega
              · omega
              · omega
              · exact B21
              · intro b h1 h2; rw [f21 b h1 h2]; exact hF b h1 h2
              · first | (intro q; exact absurd q (by decide)) | (intro _; rw [hH1 hmore]; exact es_c (by omega) e21 b32)
              · first | (intro q; exact absurd q (by decide)) | (intro _; rw [hH1 hmore]; exact es_d (by omega) e21 b32)
          ·
            refine ⟨_, rfl, ?_⟩
            refine R_ifF (nx := 27) rfl rfl rfl ?_
            refine R_op (nx := 28) rfl rfl rfl ?_
            refine R_ret rfl (fun _ _ => rfl) rfl rfl ?_
            exact Or.inr ⟨rfl, z21, K1, p21, n21, q21, w1, S1, (hH1 hmore).trans (es_f (by omega) e21), B21, rfl, hF⟩
  refine Rn.weak (ls' := [(2, 21), (0, 1), (0, 0)]) ⟨Or.inl rfl, ⟨Or.inl rfl, ⟨Or.inl rfl, trivial⟩⟩⟩ ?_
  refine L9 (((200 : Int) - (0)).toNat + 1) (S) (K) ((fun _ => 0)) (p) (n) (q) (0) (1) (0) (Nat.lt_succ_self _) ?_ ?_ ?_ ?_ ?_ ?_ ?_ ?_ ?_ ?_
  · exact hM
  · exact hV
  · exact hx
  · omega
  · omega
  · omega
  · exact TB_0
  · intro b _ _; rfl
  · intro _; rfl
  · intro q; exact absurd q (by decide)

set_option maxRecDepth 20000 in
set_option maxHeartbeats 4000000 in
theorem c_Re_readsHead (S : mm_S) (L : Int) (T : Int → Int) (hT : TPc S L T) (p f n q t : Int) (hp : 0 ≤ p ∧ p ≤ L) (s : Int) (hs : sk L T p = s) (K : CX) (hM : MC S 3 K) (hV : Vx K) (hn : Xn K < 12) : Cl 149 [(2, 21)] (rdS S p f n q t) (fun v S' => (v = some (0, 1) ∧ ∃ pl d l o n' q' S1, hR L T s = (1, pl, d, l, o) ∧ S' = rdS S1 pl f n' q' t ∧ MC S1 3 (Xadd K d l o) ∧ (∀ b, ¬ (3 ≤ b ∧ b ≤ 7) → b ≠ 21 → S1 b = S b)) ∨ (v = some (0, 0) ∧ ∃ z p' n' q', hR L T s = (0, z, 0, 0, 0) ∧ (0 ≤ z ∧ z ≤ L) ∧ S' = rdS S p' z n' q' t)) := by
  refine ⟨Nat.le_of_ble_eq_true rfl, ?_⟩
  show Rn k_Re_readsHead 0 [(2, 21), (9, 0), (9, 0), (9, 0)] [] (rdS S p f n q t) _
  have hL := hT.1
  have hsg := sk_ge L T p
  have hsl := sk_le (L := L) T hp.2
  rw [hs] at hsg hsl
  refine R_lo (nx := 1) rfl rfl rfl rfl ?_
  refine R_op (nx := 2) rfl rfl rfl ?_
  refine R_call1 (nx := 5) (as := [(2, 21), (0, 4)]) (rest := []) rfl rfl (fun _ _ => rfl) rfl rfl rfl rfl rfl rfl rfl rfl (Cl.mono (c_Re_readsNumber S L T (by assumption) p f n q t (by omega) s hs 4 (by decide)) ?_)
  rintro _ _ (⟨rfl, b2, rfl⟩ | ⟨rfl, b2, p2, n2, rfl⟩)
  ·
    have w2 := nOk_r b2 (by decide) (by omega)
    refine ⟨_, rfl, ?_⟩
    refine R_ifT (tg := 10) rfl rfl rfl ?_
    refine R_lo (nx := 11) rfl rfl rfl rfl ?_
    refine R_get (nx := 14) (w := (0, (nv L T s))) rfl rfl rfl rfl ?_
    refine R_lo (nx := 15) (ls' := [(2, 21), (0, (nv L T s)), (9, 0), (9, 0)]) rfl rfl rfl rfl ?_
    refine R_op (nx := 16) rfl rfl rfl ?_
    refine R_lo (nx := 17) (ls' := [(2, 21), (0, (nv L T s)), (0, 0), (9, 0)]) rfl rfl rfl rfl ?_
    refine R_op (nx := 18) rfl rfl rfl ?_
    refine R_lo (nx := 19) (ls' := [(2, 21), (0, (nv L T s)), (0, 0), (0, 0)]) rfl rfl rfl rfl ?_
    refine R_lo (nx := 20) rfl rfl rfl rfl ?_
    refine R_op (nx := 22) rfl rfl rfl ?_
    refine R_call1 (nx := 25) (as := [(2, 21), (0, 64)]) (rest := []) rfl rfl (fun _ _ => rfl) rfl rfl rfl rfl rfl rfl rfl rfl (Cl.mono (c_Re_passes S L T (by assumption) (de L T s) f (nv L T s) s t (by omega) (sk L T (de L T s)) rfl 64) ?_)
    rintro _ _ (⟨rfl, b22, rfl⟩ | ⟨rfl, b22, rfl⟩)
    ·
      have g22 := sk_ge L T (de L T s)
      have l22 := sk_le (L := L) T (p := (de L T s)) (by omega)
      have tb22 := ct_lt b22 (by decide)
      refine ⟨_, rfl, ?_⟩
      refine R_ifF (nx := 28) rfl rfl rfl ?_
      refine R_lo (nx := 29) rfl rfl rfl rfl ?_
      refine R_op (nx := 31) rfl rfl rfl ?_
      refine R_call1 (nx := 34) (as := [(2, 21), (0, 9)]) (rest := []) rfl rfl (fun _ _ => rfl) rfl rfl rfl rfl rfl rfl rfl rfl (Cl.mono (c_Re_readsNumber S L T (by assumption) ((sk L T (de L T s)) + 1) f (nv L T s) s t (by omega) (sk L T ((sk L T (de L T s)) + 1)) rfl 9 (by decide)) ?_)
      rintro _ _ (⟨rfl, b31, rfl⟩ | ⟨rfl, b31, p31, n31, rfl⟩)
      ·
        have g31 := sk_ge L T ((sk L T (de L T s)) + 1)
        have l31 := sk_le (L := L) T (p := ((sk L T (de L T s)) + 1)) (by omega)
        have w31 := nOk_r b31 (by decide) (by omega)
        refine ⟨_, rfl, ?_⟩
        refine R_ifT (tg := 39) rfl rfl rfl ?_
        refine R_lo (nx := 40) rfl rfl rfl rfl ?_
        refine R_get (nx := 43) (w := (0, (nv L T (sk L T ((sk L T (de L T s)) + 1))))) rfl rfl rfl rfl ?_
        refine R_lo (nx := 44) (ls' := [(2, 21), (0, (nv L T s)), (0, (nv L T (sk L T ((sk L T (de L T s)) + 1)))), (0, 0)]) rfl rfl rfl rfl ?_
        refine R_lo (nx := 45) rfl rfl rfl rfl ?_
        refine R_call0 (nx := 48) (as := [(2, 21)]) (rest := []) rfl rfl (fun _ _ => rfl) rfl rfl rfl rfl rfl rfl rfl rfl (Cl.mono (c_Re_skipBlanks S L T (by assumption) (de L T (sk L T ((sk L T (de L T s)) + 1))) f (nv L T (sk L T ((sk L T (de L T s)) + 1))) (sk L T ((sk L T (de L T s)) + 1)) t (by omega) (sk L T (de L T (sk L T ((sk L T (de L T s)) + 1)))) rfl ) ?_)
        rintro _ _ ⟨rfl, rfl⟩
        have g45 := sk_ge L T (de L T (sk L T ((sk L T (de L T s)) + 1)))
        have l45 := sk_le (L := L) T (p := (de L T (sk L T ((sk L T (de L T s)) + 1)))) (by omega)
        refine ⟨rfl, ?_⟩
        refine R_lo (nx := 49) rfl rfl rfl rfl ?_
        refine R_call1 (nx := 52) (as := [(2, 21)]) (rest := []) rfl rfl (fun _ _ => rfl) rfl rfl rfl rfl rfl rfl rfl rfl (Cl.mono (c_Re_isAtDigit S L T (by assumption) (sk L T (de L T (sk L T ((sk L T (de L T s)) + 1)))) f (nv L T (sk L T ((sk L T (de L T s)) + 1))) (sk L T ((sk L T (de L T s)) + 1)) t (by omega)) ?_)
        rintro _ _ (⟨rfl, b49, rfl⟩ | ⟨rfl, b49, rfl⟩)
        ·
          refine ⟨_, rfl, ?_⟩
          refine R_ifF (nx := 55) rfl rfl rfl ?_
          refine R_lo (nx := 56) rfl rfl rfl rfl ?_
          refine R_op (nx := 58) rfl rfl rfl ?_
          refine R_call1 (nx := 61) (as := [(2, 21), (0, 9)]) (rest := []) rfl rfl (fun _ _ => rfl) rfl rfl rfl rfl rfl rfl rfl rfl (Cl.mono (c_Re_readsNumber S L T (by assumption) (sk L T (de L T (sk L T ((sk L T (de L T s)) + 1)))) f (nv L T (sk L T ((sk L T (de L T s)) + 1))) (sk L T ((sk L T (de L T s)) + 1)) t (by omega) (sk L T (de L T (sk L T ((sk L T (de L T s)) + 1)))) (sk_sk L T _) 9 (by decide)) ?_)
          rintro _ _ (⟨rfl, b58, rfl⟩ | ⟨rfl, b58, p58, n58, rfl⟩)
          ·
            have w58 := nOk_r b58 (by decide) (by omega)
            refine ⟨_, rfl, ?_⟩
            refine R_ifT (tg := 66) rfl rfl rfl ?_
            refine R_lo (nx := 67) rfl rfl rfl rfl ?_
            refine R_get (nx := 70) (w := (0, (nv L T (sk L T (de L T (sk L T ((sk L T (de L T s)) + 1))))))) rfl rfl rfl rfl ?_
            refine R_lo (nx := 71) (ls' := [(2, 21), (0, (nv L T s)), (0, (nv L T (sk L T ((sk L T (de L T s)) + 1)))), (0, (nv L T (sk L T (de L T (sk L T ((sk L T (de L T s)) + 1))))))]) rfl rfl rfl rfl ?_
            refine R_lo (nx := 72) rfl rfl rfl rfl ?_
            refine R_get (nx := 75) (w := (2, 3)) rfl rfl rfl rfl ?_
            refine R_lo (nx := 76) rfl rfl rfl rfl ?_
            refine R_lo (nx := 77) rfl rfl rfl rfl ?_
            refine R_lo (nx := 78) rfl rfl rfl rfl ?_
            refine R_call1 (nx := 81) (as := [(2, 3), (0, (nv L T s)), (0, (nv L T (sk L T ((sk L T (de L T s)) + 1)))), (0, (nv L T (sk L T (de L T (sk L T ((sk L T (de L T s)) + 1))))))]) (rest := []) rfl rfl (fun _ _ => rfl) rfl rfl rfl rfl rfl rfl rfl rfl (Cl.mono (c_C_add (rdS S (de L T (sk L T (de L T (sk L T ((sk L T (de L T s)) + 1))))) f (nv L T (sk L T (de L T (sk L T ((sk L T (de L T s)) + 1))))) (sk L T (de L T (sk L T ((sk L T (de L T s)) + 1)))) t) 3 isC_3 K (MC.rd hM (by omega)) (nv L T s) (nv L T (sk L T ((sk L T (de L T s)) + 1))) (nv L T (sk L T (de L T (sk L T ((sk L T (de L T s)) + 1)))))) ?_)
            rintro _ S78 (⟨rfl, k78, m78, f78⟩ | ⟨rfl, k78, rfl⟩)
            ·
              refine ⟨_, rfl, ?_⟩
              refine R_op (nx := 82) rfl rfl rfl ?_
              refine R_op (nx := 83) rfl rfl rfl ?_
              refine R_ret rfl (fun _ _ => rfl) rfl rfl ?_
              refine Or.inl ⟨rfl, (de L T (sk L T (de L T (sk L T ((sk L T (de L T s)) + 1))))), (nv L T s), (nv L T (sk L T ((sk L T (de L T s)) + 1))), (nv L T (sk L T (de L T (sk L T ((sk L T (de L T s)) + 1))))), (nv L T (sk L T (de L T (sk L T ((sk L T (de L T s)) + 1))))), (sk L T (de L T (sk L T ((sk L T (de L T s)) + 1)))), S78, ?_, rdS_self (f78 21 (by decide)), m78, fun b hb hc => (f78 b hb).trans (rdS_ne hc)⟩
              unfold hR
              rw [ifn_y b2]
              first | rw [if_neg b22] | rw [if_pos b22, ifn_y b31, if_neg b49] | rw [if_pos b22, ifn_y b31, if_pos b49, ifn_y b58]
            ·
              exact absurd k78 (by omega)
          ·
            refine ⟨_, rfl, ?_⟩
            refine R_ifF (nx := 64) rfl rfl rfl ?_
            refine R_op (nx := 65) rfl rfl rfl ?_
            refine R_ret rfl (fun _ _ => rfl) rfl rfl ?_
            refine Or.inr ⟨rfl, (sk L T (de L T (sk L T ((sk L T (de L T s)) + 1)))), _, _, _, ?_, by omega, rfl⟩
            unfold hR
            rw [ifn_y b2]
            rw [if_pos b22]
            rw [ifn_y b31]
            rw [if_pos b49, ifn_n b58]
        ·
          refine ⟨_, rfl, ?_⟩
          refine R_ifT (tg := 66) rfl rfl rfl ?_
          refine R_lo (nx := 67) rfl rfl rfl rfl ?_
          refine R_get (nx := 70) (w := (0, (nv L T (sk L T ((sk L T (de L T s)) + 1))))) rfl rfl rfl rfl ?_
          refine R_lo (nx := 71) (ls' := [(2, 21), (0, (nv L T s)), (0, (nv L T (sk L T ((sk L T (de L T s)) + 1)))), (0, (nv L T (sk L T ((sk L T (de L T s)) + 1))))]) rfl rfl rfl rfl ?_
          refine R_lo (nx := 72) rfl rfl rfl rfl ?_
          refine R_get (nx := 75) (w := (2, 3)) rfl rfl rfl rfl ?_
          refine R_lo (nx := 76) rfl rfl rfl rfl ?_
          refine R_lo (nx := 77) rfl rfl rfl rfl ?_
          refine R_lo (nx := 78) rfl rfl rfl rfl ?_
          refine R_call1 (nx := 81) (as := [(2, 3), (0, (nv L T s)), (0, (nv L T (sk L T ((sk L T (de L T s)) + 1)))), (0, (nv L T (sk L T ((sk L T (de L T s)) + 1))))]) (rest := []) rfl rfl (fun _ _ => rfl) rfl rfl rfl rfl rfl rfl rfl rfl (Cl.mono (c_C_add (rdS S (sk L T (de L T (sk L T ((sk L T (de L T s)) + 1)))) f (nv L T (sk L T ((sk L T (de L T s)) + 1))) (sk L T ((sk L T (de L T s)) + 1)) t) 3 isC_3 K (MC.rd hM (by omega)) (nv L T s) (nv L T (sk L T ((sk L T (de L T s)) + 1))) (nv L T (sk L T ((sk L T (de L T s)) + 1)))) ?_)
          rintro _ S78 (⟨rfl, k78, m78, f78⟩ | ⟨rfl, k78, rfl⟩)
          ·
            refine ⟨_, rfl, ?_⟩
            refine R_op (nx := 82) rfl rfl rfl ?_
            refine R_op (nx := 83) rfl rfl rfl ?_
            refine R_ret rfl (fun _ _ => rfl) rfl rfl ?_
            refine Or.inl ⟨rfl, (sk L T (de L T (sk L T ((sk L T (de L T s)) + 1)))), (nv L T s), (nv L T (sk L T ((sk L T (de L T s)) + 1))), (nv L T (sk L T ((sk L T (de L T s)) + 1))), (nv L T (sk L T ((sk L T (de L T s)) + 1))), (sk L T ((sk L T (de L T s)) + 1)), S78, ?_, rdS_self (f78 21 (by decide)), m78, fun b hb hc => (f78 b hb).trans (rdS_ne hc)⟩
            unfold hR
            rw [ifn_y b2]
            first | rw [if_neg b22] | rw [if_pos b22, ifn_y b31, if_neg b49] | rw [if_pos b22, ifn_y b31, if_pos b49, ifn_y b58]
          ·
            exact absurd k78 (by omega)
      ·
        have g31 := sk_ge L T ((sk L T (de L T s)) + 1)
        have l31 := sk_le (L := L) T (p := ((sk L T (de L T s)) + 1)) (by omega)
        refine ⟨_, rfl, ?_⟩
        refine R_ifF (nx := 37) rfl rfl rfl ?_
        refine R_op (nx := 38) rfl rfl rfl ?_
        refine R_ret rfl (fun _ _ => rfl) rfl rfl ?_
        refine Or.inr ⟨rfl, (sk L T ((sk L T (de L T s)) + 1)), _, _, _, ?_, by omega, rfl⟩
        unfold hR
        rw [ifn_y b2]
        rw [if_pos b22]
        rw [ifn_n b31]
    ·
      have g22 := sk_ge L T (de L T s)
      have l22 := sk_le (L := L) T (p := (de L T s)) (by omega)
      refine ⟨_, rfl, ?_⟩
      refine R_ifT (tg := 71) rfl rfl rfl ?_
      refine R_lo (nx := 72) rfl rfl rfl rfl ?_
      refine R_get (nx := 75) (w := (2, 3)) rfl rfl rfl rfl ?_
      refine R_lo (nx := 76) rfl rfl rfl rfl ?_
      refine R_lo (nx := 77) rfl rfl rfl rfl ?_
      refine R_lo (nx := 78) rfl rfl rfl rfl ?_
      refine R_call1 (nx := 81) (as := [(2, 3), (0, (nv L T s)), (0, 0), (0, 0)]) (rest := []) rfl rfl (fun _ _ => rfl) rfl rfl rfl rfl rfl rfl rfl rfl (Cl.mono (c_C_add (rdS S (sk L T (de L T s)) f (nv L T s) s t) 3 isC_3 K (MC.rd hM (by omega)) (nv L T s) 0 0) ?_)
      rintro _ S78 (⟨rfl, k78, m78, f78⟩ | ⟨rfl, k78, rfl⟩)
      ·
        refine ⟨_, rfl, ?_⟩
        refine R_op (nx := 82) rfl rfl rfl ?_
        refine R_op (nx := 83) rfl rfl rfl ?_
        refine R_ret rfl (fun _ _ => rfl) rfl rfl ?_
        refine Or.inl ⟨rfl, (sk L T (de L T s)), (nv L T s), 0, 0, (nv L T s), s, S78, ?_, rdS_self (f78 21 (by decide)), m78, fun b hb hc => (f78 b hb).trans (rdS_ne hc)⟩
        unfold hR
        rw [ifn_y b2]
        first | rw [if_neg b22] | rw [if_pos b22, ifn_y b31, if_neg b49] | rw [if_pos b22, ifn_y b31, if_pos b49, ifn_y b58]
      ·
        exact absurd k78 (by omega)
  ·
    refine ⟨_, rfl, ?_⟩
    refine R_ifF (nx := 8) rfl rfl rfl ?_
    refine R_op (nx := 9) rfl rfl rfl ?_
    refine R_ret rfl (fun _ _ => rfl) rfl rfl ?_
    refine Or.inr ⟨rfl, s, _, _, _, ?_, by omega, rfl⟩
    unfold hR
    rw [ifn_n b2]

set_option maxRecDepth 20000 in
set_option maxHeartbeats 4000000 in
theorem c_Re_read (S : mm_S) (L : Int) (T : Int → Int) (hT : TPc S L T) (p f n q t : Int) : Cl 142 [(2, 21)] (rdS S p f n q t) (fun v S' => (∃ K1 p1 f1 n1 q1 w1 S1, v = some (0, -1) ∧ (∃ e, rr L T = (1, e, K1)) ∧ S' = rdS S1 p1 f1 n1 q1 w1 ∧ MC S1 3 K1 ∧ Vx K1 ∧ (∀ b, ¬ (3 ≤ b ∧ b ≤ 7) → b ≠ 21 → S1 b = S b)) ∨ (∃ z K1 p1 f1 n1 q1 w1 S1, v = some (0, z) ∧ 0 ≤ z ∧ z ≤ 1000 ∧ rr L T = (0, z, K1) ∧ S' = rdS S1 p1 f1 n1 q1 w1 ∧ (∀ b, ¬ (3 ≤ b ∧ b ≤ 7) → b ≠ 21 → S1 b = S b))) := by
  refine ⟨Nat.le_of_ble_eq_true rfl, ?_⟩
  show Rn k_Re_read 0 [(2, 21), (9, 0)] [] (rdS S p f n q t) _
  have hL := hT.1
  refine R_lo (nx := 1) rfl rfl rfl rfl ?_
  refine R_op (nx := 2) rfl rfl rfl ?_
  refine R_put (nx := 5) (kk := 2) rfl rfl rfl rfl rfl ?_
  rw [rdS_2]
  refine R_lo (nx := 6) rfl rfl rfl rfl ?_
  refine R_get (nx := 9) (w := (2, 3)) rfl rfl rfl rfl ?_
  refine R_call0 (nx := 12) (as := [(2, 3)]) (rest := []) rfl rfl (fun _ _ => rfl) rfl rfl rfl rfl rfl rfl rfl rfl (Cl.mono (c_C_empty (rdS S 0 f n q t) 3 isC_3) ?_)
  rintro _ S9 ⟨rfl, m9, f9⟩
  refine ⟨rfl, ?_⟩
  rw [rdS_self (f9 21 (by decide))]
  refine R_op (nx := 13) rfl rfl rfl ?_
  refine R_lo (nx := 14) (ls' := [(2, 21), (0, 0)]) rfl rfl rfl rfl ?_
  have L14 : ∀ (f14 : Nat) (S1 : mm_S) (K1 : CX) (p1 : Int) (f1 : Int) (n1 : Int) (q1 : Int) (w1 : Int) (i : Int), ((12 : Int) - i).toNat < f14 → (MC S1 3 K1) → (Vx K1) → (i = Xn K1) → (0 ≤ p1 ∧ p1 ≤ L) → ((∀ b, ¬ (3 ≤ b ∧ b ≤ 7) → b ≠ 21 → S1 b = S b)) → (rr L T = rrG L T K1 p1) → Rn k_Re_read 14 [(2, 21), (0, i)] [] (rdS S1 p1 f1 n1 q1 w1) (fun v S' => (∃ K1 p1 f1 n1 q1 w1 S1, v = some (0, -1) ∧ (∃ e, rr L T = (1, e, K1)) ∧ S' = rdS S1 p1 f1 n1 q1 w1 ∧ MC S1 3 K1 ∧ Vx K1 ∧ (∀ b, ¬ (3 ≤ b ∧ b ≤ 7) → b ≠ 21 → S1 b = S b)) ∨ (∃ z K1 p1 f1 n1 q1 w1 S1, v = some (0, z) ∧ 0 ≤ z ∧ z ≤ 1000 ∧ rr L T = (0, z, K1) ∧ S' = rdS S1 p1 f1 n1 q1 w1 ∧ (∀ b, ¬ (3 ≤ b ∧ b ≤ 7) → b ≠ 21 → S1 b = S b))) := by
    intro f14
    induction f14 with
    | zero => intro S1 K1 p1 f1 n1 q1 w1 i hm14; exact absurd hm14 (Nat.not_lt_zero _)
    | succ f14 ih14 =>
      intro S1 K1 p1 f1 n1 q1 w1 i hm14 hM1 hV1 hi hp1 hF hH
      have hT1 : TPc S1 L T := hT.fr (hF 19 (by decide) (by decide)) (hF 20 (by decide) (by decide))
      have hn1 := hV1.1.1
      refine R_lo (nx := 15) rfl rfl rfl rfl ?_
      refine R_op (nx := 17) rfl rfl rfl ?_
      refine R_icmp (nx := 20) (tg := 75) rfl rfl rfl (mm_cnd_ge _ _) (fun c17 => ?_) (fun c17 => ?_)
      ·
        refine R_lo (nx := 76) rfl rfl rfl rfl ?_
        refine R_call1 (nx := 79) (as := [(2, 21)]) (rest := []) rfl rfl (fun _ _ => rfl) rfl rfl rfl rfl rfl rfl rfl rfl (Cl.mono (c_Re_isAtEnd S1 L T (by assumption) p1 f1 n1 q1 w1 (by omega) (sk L T p1) rfl ) ?_)
        rintro _ _ (⟨rfl, b76, rfl⟩ | ⟨rfl, b76, rfl⟩)
        ·
          have g76 := sk_ge L T p1
          have l76 := sk_le (L := L) T (p := p1) (by omega)
          refine ⟨_, rfl, ?_⟩
          refine R_ifF (nx := 82) rfl rfl rfl ?_
          refine R_op (nx := 83) rfl rfl rfl ?_
          refine R_op (nx := 86) (pc' := 90) rfl rfl rfl ?_
          refine R_ret rfl (fun _ _ => rfl) rfl rfl ?_
          first | exact Or.inl ⟨_, _, _, _, _, _, _, rfl, ⟨_, hH.trans (rr_end hV1 (by omega) b76)⟩, rfl, hM1, hV1, hF⟩ | exact absurd b21 b76 | exact Or.inr ⟨_, _, _, _, _, _, _, _, rfl, by omega, by omega, hH.trans (rr_full hV1 (by omega) b76 (by omega)), rfl, hF⟩
        ·
          have g76 := sk_ge L T p1
          have l76 := sk_le (L := L) T (p := p1) (by omega)
          refine ⟨_, rfl, ?_⟩
          refine R_ifT (tg := 86) rfl rfl rfl ?_
          refine R_lo (nx := 87) rfl rfl rfl rfl ?_
          refine R_get (nx := 90) (w := (0, (sk L T p1))) rfl rfl rfl rfl ?_
          refine R_ret rfl (fun _ _ => rfl) rfl rfl ?_
          first | exact Or.inl ⟨_, _, _, _, _, _, _, rfl, ⟨_, hH.trans (rr_end hV1 (by omega) b76)⟩, rfl, hM1, hV1, hF⟩ | exact absurd b21 b76 | exact Or.inr ⟨_, _, _, _, _, _, _, _, rfl, by omega, by omega, hH.trans (rr_full hV1 (by omega) b76 (by omega)), rfl, hF⟩
      ·
        refine R_lo (nx := 21) rfl rfl rfl rfl ?_
        refine R_call1 (nx := 24) (as := [(2, 21)]) (rest := []) rfl rfl (fun _ _ => rfl) rfl rfl rfl rfl rfl rfl rfl rfl (Cl.mono (c_Re_isAtEnd S1 L T (by assumption) p1 f1 n1 q1 w1 (by omega) (sk L T p1) rfl ) ?_)
        rintro _ _ (⟨rfl, b21, rfl⟩ | ⟨rfl, b21, rfl⟩)
        ·
          have g21 := sk_ge L T p1
          have l21 := sk_le (L := L) T (p := p1) (by omega)
          refine ⟨_, rfl, ?_⟩
          refine R_ifT (tg := 75) rfl rfl rfl ?_
          refine R_lo (nx := 76) rfl rfl rfl rfl ?_
          refine R_call1 (nx := 79) (as := [(2, 21)]) (rest := []) rfl rfl (fun _ _ => rfl) rfl rfl rfl rfl rfl rfl rfl rfl (Cl.mono (c_Re_isAtEnd S1 L T (by assumption) (sk L T p1) f1 n1 q1 w1 (by omega) (sk L T p1) (sk_sk L T _) ) ?_)
          rintro _ _ (⟨rfl, b76_1, rfl⟩ | ⟨rfl, b76_1, rfl⟩)
          ·
            refine ⟨_, rfl, ?_⟩
            refine R_ifF (nx := 82) rfl rfl rfl ?_
            refine R_op (nx := 83) rfl rfl rfl ?_
            refine R_op (nx := 86) (pc' := 90) rfl rfl rfl ?_
            refine R_ret rfl (fun _ _ => rfl) rfl rfl ?_
            first | exact Or.inl ⟨_, _, _, _, _, _, _, rfl, ⟨_, hH.trans (rr_end hV1 (by omega) b76_1)⟩, rfl, hM1, hV1, hF⟩ | exact absurd b21 b76_1 | exact Or.inr ⟨_, _, _, _, _, _, _, _, rfl, by omega, by omega, hH.trans (rr_full hV1 (by omega) b76_1 (by omega)), rfl, hF⟩
          ·
            refine ⟨_, rfl, ?_⟩
            refine R_ifT (tg := 86) rfl rfl rfl ?_
            refine R_lo (nx := 87) rfl rfl rfl rfl ?_
            refine R_get (nx := 90) (w := (0, (sk L T p1))) rfl rfl rfl rfl ?_
            refine R_ret rfl (fun _ _ => rfl) rfl rfl ?_
            first | exact Or.inl ⟨_, _, _, _, _, _, _, rfl, ⟨_, hH.trans (rr_end hV1 (by omega) b76_1)⟩, rfl, hM1, hV1, hF⟩ | exact absurd b21 b76_1 | exact Or.inr ⟨_, _, _, _, _, _, _, _, rfl, by omega, by omega, hH.trans (rr_full hV1 (by omega) b76_1 (by omega)), rfl, hF⟩
        ·
          have g21 := sk_ge L T p1
          have l21 := sk_le (L := L) T (p := p1) (by omega)
          refine ⟨_, rfl, ?_⟩
          refine R_ifF (nx := 27) rfl rfl rfl ?_
          refine R_lo (nx := 28) rfl rfl rfl rfl ?_
          refine R_call1 (nx := 31) (as := [(2, 21)]) (rest := []) rfl rfl (fun _ _ => rfl) rfl rfl rfl rfl rfl rfl rfl rfl (Cl.mono (c_Re_readsHead S1 L T (by assumption) (sk L T p1) f1 n1 q1 w1 (by omega) (sk L T p1) (sk_sk L T _) K1 (by assumption) (by assumption) (by omega)) ?_)
          rintro _ _ (⟨rfl, x28, d28, l28, o28, n28, q28, S28, e28, rfl, mc28, f28⟩ | ⟨rfl, z28, p28, n28, q28, e28, r28, rfl⟩)
          ·
            have a28 := hR_ok (by omega) e28
            have v28 := Xadd_Vx hV1 (by omega) a28.2.1 a28.2.2.1 a28.2.2.2
            have hT28 : TPc S28 L T := hT1.fr (f28 19 (by decide) (by decide)) (f28 20 (by decide) (by decide))
            refine ⟨_, rfl, ?_⟩
            refine R_ifF (nx := 34) rfl rfl rfl ?_
            refine R_lo (nx := 35) rfl rfl rfl rfl ?_
            refine R_op (nx := 37) rfl rfl rfl ?_
            refine R_call1 (nx := 40) (as := [(2, 21), (0, 58)]) (rest := []) rfl rfl (fun _ _ => rfl) rfl rfl rfl rfl rfl rfl rfl rfl (Cl.mono (c_Re_passes S28 L T (by assumption) x28 f1 n28 q28 w1 (by omega) (sk L T x28) rfl 58) ?_)
            rintro _ _ (⟨rfl, b37, rfl⟩ | ⟨rfl, b37, rfl⟩)
            ·
              have g37 := sk_ge L T x28
              have l37 := sk_le (L := L) T (p := x28) (by omega)
              have tb37 := ct_lt b37 (by decide)
              refine ⟨_, rfl, ?_⟩
              refine R_ifF (nx := 43) rfl rfl rfl ?_
              refine R_lo (nx := 44) rfl rfl rfl rfl ?_
              refine R_call1 (nx := 47) (as := [(2, 21)]) (rest := []) rfl rfl (fun _ _ => rfl) rfl rfl rfl rfl rfl rfl rfl rfl (Cl.mono (c_Re_readsEntries S28 L T (by assumption) ((sk L T x28) + 1) f1 n28 q28 w1 (by omega) (Xadd K1 d28 l28 o28) (Xn K1) (by rfl) (by assumption) (by assumption)) ?_)
              rintro _ _ (⟨rfl, K44, p44, n44, q44, w44, S44, e44, rfl, mc44, v44, hx44, f44, r44⟩ | ⟨rfl, z44, K44, p44, n44, q44, w44, S44, e44, r44, rfl, f44⟩)
              ·
                have hT44 : TPc S44 L T := hT28.fr (f44 19 (by decide) (by decide)) (f44 20 (by decide) (by decide))
                refine ⟨_, rfl, ?_⟩
                refine R_ifT (tg := 55) rfl rfl rfl ?_
                refine R_lo (nx := 56) rfl rfl rfl rfl ?_
                refine R_op (nx := 58) rfl rfl rfl ?_
                refine R_call1 (nx := 61) (as := [(2, 21), (0, 59)]) (rest := []) rfl rfl (fun _ _ => rfl) rfl rfl rfl rfl rfl rfl rfl rfl (Cl.mono (c_Re_passes S44 L T (by assumption) p44 f1 n44 q44 w44 (by omega) (sk L T p44) rfl 59) ?_)
                rintro _ _ (⟨rfl, b58, rfl⟩ | ⟨rfl, b58, rfl⟩)
                ·
                  have g58 := sk_ge L T p44
                  have l58 := sk_le (L := L) T (p := p44) (by omega)
                  have tb58 := ct_lt b58 (by decide)
                  refine ⟨_, rfl, ?_⟩
                  refine R_ifT (tg := 69) rfl rfl rfl ?_
                  refine R_iinc (nx := 72) (z := (i + 1)) (ls' := [(2, 21), (0, (i + 1))]) rfl rfl rfl rfl ⟨by omega, by omega⟩ rfl ?_
                  refine R_op (nx := 75) (pc' := 14) rfl rfl rfl ?_
                  refine Rn.weak (ls' := [(2, 21), (0, (i + 1))]) ⟨Or.inl rfl, ⟨Or.inl rfl, trivial⟩⟩ ?_
                  refine ih14 (S44) (K44) (((sk L T p44) + 1)) (f1) (n44) (q44) (w44) ((i + 1)) ?_ ?_ ?_ ?_ ?_ ?_ ?_
                  · omega
                  · first | exact mc44 | exact mc28
                  · first | exact v44 | exact v28
                  · first | omega | (rw [hi]; rfl)
                  · omega
                  · intro b h1 h2; first | (rw [f44 b (by omega) h2, f28 b h1 h2]; exact hF b h1 h2) | (rw [f28 b h1 h2]; exact hF b h1 h2)
                  · rw [hH]; first | exact rr_ct hV1 (by omega) b21 (by omega) e28 ((if_pos b37).trans e44) rfl b58 | exact rr_ct hV1 (by omega) b21 (by omega) e28 (if_neg b37) (sk_sk _ _ _) b58
                ·
                  have g58 := sk_ge L T p44
                  have l58 := sk_le (L := L) T (p := p44) (by omega)
                  refine ⟨_, rfl, ?_⟩
                  refine R_ifF (nx := 64) rfl rfl rfl ?_
                  refine R_lo (nx := 65) rfl rfl rfl rfl ?_
                  refine R_get (nx := 68) (w := (0, (sk L T p44))) rfl rfl rfl rfl ?_
                  refine R_ret rfl (fun _ _ => rfl) rfl rfl ?_
                  first | exact Or.inr ⟨_, _, _, _, _, _, _, _, rfl, by omega, by omega, hH.trans (rr_cn hV1 (by omega) b21 (by omega) e28 ((if_pos b37).trans e44) rfl b58), rfl, fun b h1 h2 => by rw [f44 b (by omega) h2, f28 b h1 h2]; exact hF b h1 h2⟩ | exact Or.inr ⟨_, _, _, _, _, _, _, _, rfl, by omega, by omega, hH.trans (rr_cn hV1 (by omega) b21 (by omega) e28 (if_neg b37) (sk_sk _ _ _) b58), rfl, fun b h1 h2 => by rw [f28 b h1 h2]; exact hF b h1 h2⟩
              ·
                refine ⟨_, rfl, ?_⟩
                refine R_ifF (nx := 50) rfl rfl rfl ?_
                refine R_lo (nx := 51) rfl rfl rfl rfl ?_
                refine R_get (nx := 54) (w := (0, z44)) rfl rfl rfl rfl ?_
                refine R_ret rfl (fun _ _ => rfl) rfl rfl ?_
                first | exact Or.inr ⟨_, _, _, _, _, _, _, _, rfl, by omega, by omega, hH.trans (rr_h0 hV1 (by omega) b21 (by omega) e28), rfl, hF⟩ | exact Or.inr ⟨_, _, _, _, _, _, _, _, rfl, by omega, by omega, hH.trans (rr_cf hV1 (by omega) b21 (by omega) e28 ((if_pos b37).trans e44)), rfl, fun b h1 h2 => by rw [f44 b (by omega) h2, f28 b h1 h2]; exact hF b h1 h2⟩
            ·
              have g37 := sk_ge L T x28
              have l37 := sk_le (L := L) T (p := x28) (by omega)
              refine ⟨_, rfl, ?_⟩
              refine R_ifT (tg := 55) rfl rfl rfl ?_
              refine R_lo (nx := 56) rfl rfl rfl rfl ?_
              refine R_op (nx := 58) rfl rfl rfl ?_
              refine R_call1 (nx := 61) (as := [(2, 21), (0, 59)]) (rest := []) rfl rfl (fun _ _ => rfl) rfl rfl rfl rfl rfl rfl rfl rfl (Cl.mono (c_Re_passes S28 L T (by assumption) (sk L T x28) f1 n28 q28 w1 (by omega) (sk L T x28) (sk_sk L T _) 59) ?_)
              rintro _ _ (⟨rfl, b58_1, rfl⟩ | ⟨rfl, b58_1, rfl⟩)
              ·
                have tb58_1 := ct_lt b58_1 (by decide)
                refine ⟨_, rfl, ?_⟩
                refine R_ifT (tg := 69) rfl rfl rfl ?_
                refine R_iinc (nx := 72) (z := (i + 1)) (ls' := [(2, 21), (0, (i + 1))]) rfl rfl rfl rfl ⟨by omega, by omega⟩ rfl ?_
                refine R_op (nx := 75) (pc' := 14) rfl rfl rfl ?_
                refine Rn.weak (ls' := [(2, 21), (0, (i + 1))]) ⟨Or.inl rfl, ⟨Or.inl rfl, trivial⟩⟩ ?_
                refine ih14 (S28) ((Xadd K1 d28 l28 o28)) (((sk L T x28) + 1)) (f1) (n28) (q28) (w1) ((i + 1)) ?_ ?_ ?_ ?_ ?_ ?_ ?_
                · omega
                · first | exact mc44 | exact mc28
                · first | exact v44 | exact v28
                · first | omega | (rw [hi]; rfl)
                · omega
                · intro b h1 h2; first | (rw [f44 b (by omega) h2, f28 b h1 h2]; exact hF b h1 h2) | (rw [f28 b h1 h2]; exact hF b h1 h2)
                · rw [hH]; first | exact rr_ct hV1 (by omega) b21 (by omega) e28 ((if_pos b37).trans e44) rfl b58_1 | exact rr_ct hV1 (by omega) b21 (by omega) e28 (if_neg b37) (sk_sk _ _ _) b58_1
              ·
                refine ⟨_, rfl, ?_⟩
                refine R_ifF (nx := 64) rfl rfl rfl ?_
                refine R_lo (nx := 65) rfl rfl rfl rfl ?_
                refine R_get (nx := 68) (w := (0, (sk L T x28))) rfl rfl rfl rfl ?_
                refine R_ret rfl (fun _ _ => rfl) rfl rfl ?_
                first | exact Or.inr ⟨_, _, _, _, _, _, _, _, rfl, by omega, by omega, hH.trans (rr_cn hV1 (by omega) b21 (by omega) e28 ((if_pos b37).trans e44) rfl b58_1), rfl, fun b h1 h2 => by rw [f44 b (by omega) h2, f28 b h1 h2]; exact hF b h1 h2⟩ | exact Or.inr ⟨_, _, _, _, _, _, _, _, rfl, by omega, by omega, hH.trans (rr_cn hV1 (by omega) b21 (by omega) e28 (if_neg b37) (sk_sk _ _ _) b58_1), rfl, fun b h1 h2 => by rw [f28 b h1 h2]; exact hF b h1 h2⟩
          ·
            refine ⟨_, rfl, ?_⟩
            refine R_ifT (tg := 50) rfl rfl rfl ?_
            refine R_lo (nx := 51) rfl rfl rfl rfl ?_
            refine R_get (nx := 54) (w := (0, z28)) rfl rfl rfl rfl ?_
            refine R_ret rfl (fun _ _ => rfl) rfl rfl ?_
            first | exact Or.inr ⟨_, _, _, _, _, _, _, _, rfl, by omega, by omega, hH.trans (rr_h0 hV1 (by omega) b21 (by omega) e28), rfl, hF⟩ | exact Or.inr ⟨_, _, _, _, _, _, _, _, rfl, by omega, by omega, hH.trans (rr_cf hV1 (by omega) b21 (by omega) e28 ((if_pos b37).trans e44)), rfl, fun b h1 h2 => by rw [f44 b (by omega) h2, f28 b h1 h2]; exact hF b h1 h2⟩
  refine Rn.weak (ls' := [(2, 21), (0, 0)]) ⟨Or.inl rfl, ⟨Or.inl rfl, trivial⟩⟩ ?_
  refine L14 (((12 : Int) - (0)).toNat + 1) (S9) (Xz) (0) (f) (n) (q) (t) (0) (Nat.lt_succ_self _) ?_ ?_ ?_ ?_ ?_ ?_
  · exact m9
  · exact Xz_Vx
  · rfl
  · omega
  · intro b h1 h2; rw [f9 b (by omega)]; exact rdS_ne h2
  · rfl

def Q_text (A : mm_A) (c : Int) : Int × mm_A := if 0 ≤ c ∧ c < 4 then (if (rr (AL A) (AT A)).1 = 0 then (-100 - (rr (AL A) (AT A)).2.1, Atp A 0 (AT A)) else (Xn (rr (AL A) (AT A)).2.2, Akc (Atp A 0 (AT A)) c (rr (AL A) (AT A)).2.2)) else (-1, A)

set_option maxRecDepth 20000 in
set_option maxHeartbeats 4000000 in
theorem c_P_text (S : mm_S) (A : mm_A) (hRC : RC S A) (hV : Vs A) (c : Int) : Cl 8 [(2, 0), (0, c)] S (fun vv S' => vv = some (0, (Q_text A c).1) ∧ RC S' (Q_text A c).2 ∧ ∀ b, 71 ≤ b → S' b = S b) := by
  refine ⟨Nat.le_of_ble_eq_true rfl, ?_⟩
  show Rn k_P_text 0 [(2, 0), (0, c), (9, 0), (9, 0)] [] S _
  refine R_lo (nx := 1) rfl rfl rfl rfl ?_
  refine R_lo (nx := 2) rfl rfl rfl rfl ?_
  refine R_call1 (nx := 5) (as := [(2, 0), (0, c)]) (rest := []) rfl rfl (fun _ _ => rfl) rfl rfl rfl rfl rfl rfl rfl rfl (Cl.mono (c_P_complexAt S c) ?_)
  rintro _ _ (⟨rfl, b2, rfl⟩ | ⟨rfl, b2, rfl⟩)
  ·
    have kb2 := hRC.k b2.1 b2.2
    have vb2 := hV.1 c b2.1 b2.2
    have rb2 := vb2.2.1
    have nb2 := kb2.n
    have zb2 := kb2.nr
    refine ⟨_, rfl, ?_⟩
    refine R_lo (nx := 6) (ls' := [(2, 0), (0, c), (2, (23 + 10 * c)), (9, 0)]) rfl rfl rfl rfl ?_
    refine R_lo (nx := 7) rfl rfl rfl rfl ?_
    refine R_ifnonnull (nx := 10) (tg := 12) rfl rfl rfl (fun h => ?_) (fun h => absurd (by have := (isC_kd (isC_c (i := c) (by omega) (by omega))).1; omega) h)
    refine R_lo (nx := 13) rfl rfl rfl rfl ?_
    refine R_get (nx := 16) (w := (2, 21)) rfl rfl rfl rfl ?_
    refine R_call1 (nx := 19) (as := [(2, 21)]) (rest := []) rfl rfl (fun _ _ => rfl) rfl rfl rfl rfl rfl rfl rfl rfl (Cl.mono (by have z := c_Re_read S (AL A) (AT A) ⟨hV.2.2.2.1, hRC.2.2.2.2.1⟩ (S 21 2) (S 21 3) (S 21 4) (S 21 5) (S 21 6); rw [rdS_0 S] at z; exact z) ?_)
    rintro _ _ (⟨K1, p1, f1, n1, q1, w1, S1, rfl, ⟨e1, h1⟩, rfl, m1, v1, g1⟩ | ⟨z, K1, p1, f1, n1, q1, w1, S1, rfl, z0, z1, h1, rfl, g1⟩)
    ·
      refine ⟨_, rfl, ?_⟩
      refine R_lo (nx := 20) (ls' := [(2, 0), (0, c), (2, (23 + 10 * c)), (0, (-1))]) rfl rfl rfl rfl ?_
      refine R_lo (nx := 21) rfl rfl rfl rfl ?_
      refine R_get (nx := 24) (w := (2, 19)) rfl rfl rfl rfl ?_
      refine R_op (nx := 25) rfl rfl rfl ?_
      refine R_put (nx := 28) (kk := 0) rfl rfl rfl rfl rfl ?_
      refine R_lo (nx := 29) rfl rfl rfl rfl ?_
      refine R_op (nx := 30) rfl rfl rfl ?_
      refine R_icmpT (tg := 38) rfl rfl rfl ?_
      refine R_lo (nx := 39) rfl rfl rfl rfl ?_
      refine R_lo (nx := 40) rfl rfl rfl rfl ?_
      refine R_get (nx := 43) (w := (2, 3)) rfl rfl rfl rfl ?_
      refine R_call0 (nx := 46) (as := [(2, (23 + 10 * c)), (2, 3)]) (rest := []) rfl rfl (fun _ _ => rfl) rfl rfl rfl rfl rfl rfl (isC_rc (isC_c (i := c) (by omega) (by omega)) _) rfl (Cl.mono (c_C_become (mm_up (rdS S1 p1 f1 n1 q1 w1) 19 0 0) (23 + 10 * c) (isC_c (i := c) (by omega) (by omega)) 3 isC_3 K1 ((MC.rd m1 (by omega)).up (by omega)) (by omega)) ?_)
      rintro _ S43 ⟨rfl, m43, f43⟩
      refine ⟨rfl, ?_⟩
      refine R_lo (nx := 47) rfl rfl rfl rfl ?_
      refine R_get (nx := 50) (w := (0, (S43 (23 + 10 * c) 0))) rfl rfl (isC_ob (isC_c (i := c) (by omega) (by omega))) rfl ?_
      rw [m43.n]
      refine R_ret rfl (fun _ _ => rfl) rfl rfl ?_
      rw [show Q_text A c = (Xn K1, Akc (Atp A 0 (AT A)) c K1) from by unfold Q_text; rw [if_pos b2, h1, if_neg (show ¬ (1 : Int) = 0 by decide)]]
      exact ⟨rfl, (hRC.tp (S' := mm_up (rdS S1 p1 f1 n1 q1 w1) 19 0 0) mm_ua (fun j p q => absurd q (by omega)) (fun b hb => by rw [mm_unq (by omega), rdS_ne (by omega), g1 b (by omega) (by omega)])).kc b2 m43 (fun b hb hc => f43 b hc), fun b hb => by rw [f43 b (by omega), mm_unq (by omega), rdS_ne (by omega), g1 b (by omega) (by omega)]⟩
    ·
      refine ⟨_, rfl, ?_⟩
      refine R_lo (nx := 20) (ls' := [(2, 0), (0, c), (2, (23 + 10 * c)), (0, z)]) rfl rfl rfl rfl ?_
      refine R_lo (nx := 21) rfl rfl rfl rfl ?_
      refine R_get (nx := 24) (w := (2, 19)) rfl rfl rfl rfl ?_
      refine R_op (nx := 25) rfl rfl rfl ?_
      refine R_put (nx := 28) (kk := 0) rfl rfl rfl rfl rfl ?_
      refine R_lo (nx := 29) rfl rfl rfl rfl ?_
      refine R_op (nx := 30) rfl rfl rfl ?_
      refine R_icmp (nx := 33) (tg := 38) rfl rfl rfl (mm_cnd_eq _ _) (fun c30 => ?_) (fun c30 => ?_)
      ·
        exfalso
        omega
      ·
        refine R_op (nx := 35) rfl rfl rfl ?_
        refine R_lo (nx := 36) rfl rfl rfl rfl ?_
        refine R_isub (nx := 37) (z := ((-100) - z)) rfl rfl rfl ⟨by omega, by omega⟩ ?_
        refine R_ret rfl (fun _ _ => rfl) rfl rfl ?_
        rw [show Q_text A c = (-100 - z, Atp A 0 (AT A)) from by unfold Q_text; rw [if_pos b2, h1, if_pos rfl]]
        exact ⟨rfl, hRC.tp (S' := mm_up (rdS S1 p1 f1 n1 q1 w1) 19 0 0) mm_ua (fun j p q => absurd q (by omega)) (fun b hb => by rw [mm_unq (by omega), rdS_ne (by omega), g1 b (by omega) (by omega)]), fun b hb => by rw [mm_unq (by omega), rdS_ne (by omega), g1 b (by omega) (by omega)]⟩
  ·
    refine ⟨_, rfl, ?_⟩
    refine R_lo (nx := 6) (ls' := [(2, 0), (0, c), (2, (-1)), (9, 0)]) rfl rfl rfl rfl ?_
    refine R_lo (nx := 7) rfl rfl rfl rfl ?_
    refine R_ifnonnull (nx := 10) (tg := 12) rfl rfl rfl (fun h => absurd h (by decide)) (fun h => ?_)
    refine R_op (nx := 11) rfl rfl rfl ?_
    refine R_ret rfl (fun _ _ => rfl) rfl rfl ?_
    rw [show Q_text A c = ((-1), A) from by simp only [Q_text, b2, ifo, ifm, ifp, iffq, ↓reduceIte, ite_self, and_self, and_true, true_and, and_false, false_and, or_true, true_or, or_false, false_or, or_self, not_true_eq_false, not_false_eq_true, ne_eq]]; exact ⟨rfl, hRC, fun b _ => rfl⟩
