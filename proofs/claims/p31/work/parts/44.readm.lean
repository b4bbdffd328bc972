/-! The reference's reader. -/
def TPm (S : mm_S) (L : Int) (T : Int → Int) : Prop := (0 ≤ L ∧ L ≤ 200) ∧ S 71 21 = L ∧ ∀ j, 0 ≤ j → j < L → S 85 j = T j ∧ (0 ≤ T j ∧ T j ≤ 255)
def rmS (S : mm_S) (a n q : Int) : mm_S := fun b k => if b = 71 then (if k = 22 then a else if k = 23 then n else if k = 24 then q else S 71 k) else S b k
theorem rmS_22 (S : mm_S) (a n q z : Int) : mm_up (rmS S a n q) 71 22 z = rmS S z n q := by
  funext b k
  by_cases ha : b = 71 <;> by_cases hk : k = 22 <;> simp [mm_up, rmS, ha, hk]
theorem rmS_23 (S : mm_S) (a n q z : Int) : mm_up (rmS S a n q) 71 23 z = rmS S a z q := by
  funext b k
  by_cases ha : b = 71 <;> by_cases hk : k = 23 <;> simp [mm_up, rmS, ha, hk]
theorem rmS_24 (S : mm_S) (a n q z : Int) : mm_up (rmS S a n q) 71 24 z = rmS S a n z := by
  funext b k
  by_cases ha : b = 71 <;> by_cases hk : k = 24 <;> simp [mm_up, rmS, ha, hk]
theorem rmS_21 (S : mm_S) (a n q z : Int) : mm_up (rmS S a n q) 71 21 z = rmS (mm_up S 71 21 z) a n q := by
  funext b k
  by_cases ha : b = 71 <;> by_cases hk : k = 21 <;> simp [mm_up, rmS, ha, hk]
theorem rmS_up {S : mm_S} {a n q b k z : Int} (h : b ≠ 71) : mm_up (rmS S a n q) b k z = rmS (mm_up S b k z) a n q := by
  funext c j
  by_cases hc : c = 71
  · subst hc
    rw [mm_unq (show (71 : Int) ≠ b from fun e => h e.symm)]
    unfold rmS
    rw [if_pos rfl, if_pos rfl, mm_unq (show (71 : Int) ≠ b from fun e => h e.symm)]
  · have hr : ∀ (S2 : mm_S), rmS S2 a n q c = S2 c := fun S2 => funext fun _ => if_neg hc
    rw [hr]
    by_cases e : c = b
    · subst e
      by_cases e2 : j = k
      · subst e2; rw [mm_ua, mm_ua]
      · rw [mm_uk e2, mm_uk e2, hr]
    · rw [mm_unq e, mm_unq e, hr]
theorem rmS_ne {S : mm_S} {a n q b : Int} (h : b ≠ 71) : rmS S a n q b = S b := by
  funext k
  exact if_neg h
theorem rmS_0 (S : mm_S) : rmS S (S 71 22) (S 71 23) (S 71 24) = S := by
  funext b k
  unfold rmS
  by_cases ha : b = 71
  · subst ha
    rw [if_pos rfl]
    split
    · rename_i e; rw [e]
    · split
      · rename_i e; rw [e]
      · split
        · rename_i e; rw [e]
        · rfl
  · exact if_neg ha
theorem rmS_self {S S' : mm_S} {a n q : Int} (h : S' 71 = rmS S a n q 71) : S' = rmS S' a n q := by
  have e : ∀ k, S' 71 k = if k = 22 then a else if k = 23 then n else if k = 24 then q else S 71 k := fun k => (congrFun h k).trans (if_pos rfl)
  have e1 : S' 71 22 = a := (e 22).trans (if_pos rfl)
  have e2 : S' 71 23 = n := by rw [e, if_neg (by decide), if_pos rfl]
  have e3 : S' 71 24 = q := by rw [e, if_neg (by decide), if_neg (by decide), if_pos rfl]
  have := rmS_0 S'
  rw [e1, e2, e3] at this
  exact this.symm
theorem TPm.rm {S : mm_S} {L : Int} {T : Int → Int} {a n q : Int} (h : TPm S L T) : TPm (rmS S a n q) L T := by
  obtain ⟨h1, h2, h3⟩ := h
  refine ⟨h1, h2, fun j p q => ?_⟩
  rw [rmS_ne (by decide)]
  exact h3 j p q
theorem TPm.fr {S S' : mm_S} {L : Int} {T : Int → Int} (h : TPm S L T) (h1 : S' 71 21 = S 71 21) (h2 : S' 85 = S 85) : TPm S' L T := by
  unfold TPm
  rw [h1, h2]
  exact h
theorem MRr.rm {S : mm_S} {c : Int} {K : CX} {a n q : Int} (h : MRr S c K) : MRr (rmS S a n q) c K := h.fr (rmS_ne (by decide)) (rmS_ne (by decide)) (rmS_ne (by decide))
theorem MR.rm {S : mm_S} {c : Int} {K : CX} {a n q : Int} (h : MR S c K) : MR (rmS S a n q) c K := h.fr fun e p q => rmS_ne (by omega)
theorem ct_m {S : mm_S} {L : Int} {T : Int → Int} (h : TPm S L T) {p : Int} (hp : 0 ≤ p) : (p < L ∧ 0 ≤ ct L T p) ∨ (L ≤ p ∧ ct L T p = -1) := by
  by_cases e : p < L
  · exact Or.inl ⟨e, by rw [ct_in e]; exact (h.2.2 p hp e).2.1⟩
  · exact Or.inr ⟨by omega, ct_out (by omega)⟩

set_option maxRecDepth 20000 in
set_option maxHeartbeats 4000000 in
theorem c_M_here (S : mm_S) (L : Int) (T : Int → Int) (hT : TPm S L T) (a n q : Int) (ha : 0 ≤ a ∧ a ≤ L) (s : Int) (hs : sk L T a = s) : Cl 99 [(2, 71)] (rmS S a n q) (fun v S' => v = some (0, ct L T s) ∧ S' = rmS S s n q) := by
  refine ⟨Nat.le_of_ble_eq_true rfl, ?_⟩
  show Rn k_M_here 0 [(2, 71)] [] (rmS S a n q) _
  have hL := hT.1
  have hsg := sk_ge L T a
  have hsl := sk_le (L := L) T ha.2
  rw [hs] at hsg hsl
  have hcs := ct_m hT (p := s) (by omega)
  have L0 : ∀ (f0 : Nat) (a1 : Int), (L - a1).toNat < f0 → (0 ≤ a1 ∧ a1 ≤ L) → (sk L T a1 = s) → Rn k_M_here 0 [(2, 71)] [] (rmS S a1 n q) (fun v S' => v = some (0, ct L T s) ∧ S' = rmS S s n q) := by
    intro f0
    induction f0 with
    | zero => intro a1 hm0; exact absurd hm0 (Nat.not_lt_zero _)
    | succ f0 ih0 =>
      intro a1 hm0 ha1 hk
      refine R_lo (nx := 1) rfl rfl rfl rfl ?_
      refine R_get (nx := 4) (w := (0, a1)) rfl rfl rfl rfl ?_
      refine R_lo (nx := 5) rfl rfl rfl rfl ?_
      refine R_get (nx := 8) (w := (0, ((rmS S a1 n q) 71 21))) rfl rfl rfl rfl ?_
      rw [show ((rmS S a1 n q) 71 21) = L from (TPm.rm (by assumption)).2.1]
      refine R_icmp (nx := 11) (tg := 38) rfl rfl rfl (mm_cnd_ge _ _) (fun c8 => ?_) (fun c8 => ?_)
      ·
        have e11 : s = a1 := by rw [← hk]; exact sk_n (by omega)
        refine R_lo (nx := 39) rfl rfl rfl rfl ?_
        refine R_get (nx := 42) (w := (0, a1)) rfl rfl rfl rfl ?_
        refine R_lo (nx := 43) rfl rfl rfl rfl ?_
        refine R_get (nx := 46) (w := (0, ((rmS S a1 n q) 71 21))) rfl rfl rfl rfl ?_
        rw [show ((rmS S a1 n q) 71 21) = L from (TPm.rm (by assumption)).2.1]
        refine R_icmp (nx := 49) (tg := 61) rfl rfl rfl (mm_cnd_ge _ _) (fun c46 => ?_) (fun c46 => ?_)
        ·
          refine R_op (nx := 62) rfl rfl rfl ?_
          refine R_ret rfl (fun _ _ => rfl) rfl rfl ?_
          subst e11
          first | (exfalso; omega) | exact ⟨by rw [ct_out (by omega)], rfl⟩ | exact ⟨by rw [ct_in (by omega)], rfl⟩
        ·
          refine R_lo (nx := 50) rfl rfl rfl rfl ?_
          refine R_get (nx := 53) (w := (2, 85)) rfl rfl rfl rfl ?_
          refine R_lo (nx := 54) rfl rfl rfl rfl ?_
          refine R_get (nx := 57) (w := (0, a1)) rfl rfl rfl rfl ?_
          refine R_iald (nx := 58) rfl rfl (mm_el_ok 1 200 (by decide) rfl (by decide) (by omega) (by omega)) ?_
          rw [show ((rmS S a1 n q) 85 a1) = T a1 from ((TPm.rm hT).2.2 a1 (by omega) (by omega)).1]
          refine R_op (nx := 61) (pc' := 62) rfl rfl rfl ?_
          refine R_ret rfl (fun _ _ => rfl) rfl rfl ?_
          subst e11
          first | (exfalso; omega) | exact ⟨by rw [ct_out (by omega)], rfl⟩ | exact ⟨by rw [ct_in (by omega)], rfl⟩
      ·
        refine R_lo (nx := 12) rfl rfl rfl rfl ?_
        refine R_get (nx := 15) (w := (2, 85)) rfl rfl rfl rfl ?_
        refine R_lo (nx := 16) rfl rfl rfl rfl ?_
        refine R_get (nx := 19) (w := (0, a1)) rfl rfl rfl rfl ?_
        refine R_iald (nx := 20) rfl rfl (mm_el_ok 1 200 (by decide) rfl (by decide) (by omega) (by omega)) ?_
        rw [show ((rmS S a1 n q) 85 a1) = T a1 from ((TPm.rm hT).2.2 a1 (by omega) (by omega)).1]
        refine R_op (nx := 22) rfl rfl rfl ?_
        refine R_icmp (nx := 25) (tg := 38) rfl rfl rfl (mm_cnd_ne _ _) (fun c22 => ?_) (fun c22 => ?_)
        ·
          have e11 : s = a1 := by rw [← hk]; exact sk_n (fun z => c22 z.2)
          refine R_lo (nx := 39) rfl rfl rfl rfl ?_
          refine R_get (nx := 42) (w := (0, a1)) rfl rfl rfl rfl ?_
          refine R_lo (nx := 43) rfl rfl rfl rfl ?_
          refine R_get (nx := 46) (w := (0, ((rmS S a1 n q) 71 21))) rfl rfl rfl rfl ?_
          rw [show ((rmS S a1 n q) 71 21) = L from (TPm.rm (by assumption)).2.1]
          refine R_icmp (nx := 49) (tg := 61) rfl rfl rfl (mm_cnd_ge _ _) (fun c46_1 => ?_) (fun c46_1 => ?_)
          ·
            refine R_op (nx := 62) rfl rfl rfl ?_
            refine R_ret rfl (fun _ _ => rfl) rfl rfl ?_
            subst e11
            first | (exfalso; omega) | exact ⟨by rw [ct_out (by omega)], rfl⟩ | exact ⟨by rw [ct_in (by omega)], rfl⟩
          ·
            refine R_lo (nx := 50) rfl rfl rfl rfl ?_
            refine R_get (nx := 53) (w := (2, 85)) rfl rfl rfl rfl ?_
            refine R_lo (nx := 54) rfl rfl rfl rfl ?_
            refine R_get (nx := 57) (w := (0, a1)) rfl rfl rfl rfl ?_
            refine R_iald (nx := 58) rfl rfl (mm_el_ok 1 200 (by decide) rfl (by decide) (by omega) (by omega)) ?_
            rw [show ((rmS S a1 n q) 85 a1) = T a1 from ((TPm.rm hT).2.2 a1 (by omega) (by omega)).1]
            refine R_op (nx := 61) (pc' := 62) rfl rfl rfl ?_
            refine R_ret rfl (fun _ _ => rfl) rfl rfl ?_
            subst e11
            first | (exfalso; omega) | exact ⟨by rw [ct_out (by omega)], rfl⟩ | exact ⟨by rw [ct_in (by omega)], rfl⟩
        ·
          replace c22 := Classical.not_not.mp c22
          have e27 : sk L T (a1 + 1) = s := by rw [← hk]; exact (sk_y (by omega) c22).symm
          refine R_lo (nx := 26) rfl rfl rfl rfl ?_
          refine R_op (nx := 27) rfl rfl rfl ?_
          refine R_get (nx := 30) (w := (0, a1)) rfl rfl rfl rfl ?_
          refine R_op (nx := 31) rfl rfl rfl ?_
          refine R_iadd (nx := 32) (z := (a1 + 1)) rfl rfl rfl ⟨by omega, by omega⟩ ?_
          refine R_put (nx := 35) (kk := 22) rfl rfl rfl rfl rfl ?_
          rw [rmS_22]
          refine R_op (nx := 38) (pc' := 0) rfl rfl rfl ?_
          refine Rn.weak (ls' := [(2, 71)]) ⟨Or.inl rfl, trivial⟩ ?_
          refine ih0 (a1 + 1) ?_ ?_ ?_
          · omega
          · omega
          · exact e27
  refine Rn.weak (ls' := [(2, 71)]) ⟨Or.inl rfl, trivial⟩ ?_
  refine L0 ((L - (a)).toNat + 1) (a) (Nat.lt_succ_self _) ?_ ?_
  · omega
  · exact hs

set_option maxRecDepth 20000 in
set_option maxHeartbeats 4000000 in
theorem c_M_takes (S : mm_S) (L : Int) (T : Int → Int) (hT : TPm S L T) (a n q : Int) (ha : 0 ≤ a ∧ a ≤ L) (s : Int) (hs : sk L T a = s) (c : Int) : Cl 100 [(2, 71), (0, c)] (rmS S a n q) (fun v S' => (v = some (0, 1) ∧ ct L T s = c ∧ S' = rmS S (s + 1) n q) ∨ (v = some (0, 0) ∧ ct L T s ≠ c ∧ S' = rmS S s n q)) := by
  refine ⟨Nat.le_of_ble_eq_true rfl, ?_⟩
  show Rn k_M_takes 0 [(2, 71), (0, c)] [] (rmS S a n q) _
  have hL := hT.1
  have hsg := sk_ge L T a
  have hsl := sk_le (L := L) T ha.2
  rw [hs] at hsg hsl
  have hcs := ct_m hT (p := s) (by omega)
  refine R_lo (nx := 1) rfl rfl rfl rfl ?_
  refine R_call1 (nx := 4) (as := [(2, 71)]) (rest := []) rfl rfl (fun _ _ => rfl) rfl rfl rfl rfl rfl rfl rfl rfl (Cl.mono (c_M_here S L T hT a n q ha s hs) ?_)
  rintro _ _ ⟨rfl, rfl⟩
  refine ⟨_, rfl, ?_⟩
  refine R_lo (nx := 5) rfl rfl rfl rfl ?_
  refine R_icmp (nx := 8) (tg := 10) rfl rfl rfl (mm_cnd_eq _ _) (fun c5 => ?_) (fun c5 => ?_)
  ·
    refine R_lo (nx := 11) rfl rfl rfl rfl ?_
    refine R_op (nx := 12) rfl rfl rfl ?_
    refine R_get (nx := 15) (w := (0, s)) rfl rfl rfl rfl ?_
    refine R_op (nx := 16) rfl rfl rfl ?_
    refine R_iadd (nx := 17) (z := (s + 1)) rfl rfl rfl ⟨by omega, by omega⟩ ?_
    refine R_put (nx := 20) (kk := 22) rfl rfl rfl rfl rfl ?_
    rw [rmS_22]
    refine R_op (nx := 21) rfl rfl rfl ?_
    refine R_ret rfl (fun _ _ => rfl) rfl rfl ?_
    first | exact Or.inl ⟨rfl, c5, rfl⟩ | exact Or.inr ⟨rfl, c5, rfl⟩
  ·
    refine R_op (nx := 9) rfl rfl rfl ?_
    refine R_ret rfl (fun _ _ => rfl) rfl rfl ?_
    first | exact Or.inl ⟨rfl, c5, rfl⟩ | exact Or.inr ⟨rfl, c5, rfl⟩

set_option maxRecDepth 20000 in
set_option maxHeartbeats 4000000 in
theorem c_M_readsNumber (S : mm_S) (L : Int) (T : Int → Int) (hT : TPm S L T) (a n q : Int) (ha : 0 ≤ a ∧ a ≤ L) (s : Int) (hs : sk L T a = s) (m : Int) (hm : m ≤ 99) : Cl 101 [(2, 71), (0, m)] (rmS S a n q) (fun v S' => (v = some (0, 1) ∧ nOk L T m s ∧ S' = rmS S (de L T s) (nv L T s) s) ∨ (v = some (0, 0) ∧ ¬ nOk L T m s ∧ ∃ n', S' = rmS S s n' s)) := by
  refine ⟨Nat.le_of_ble_eq_true rfl, ?_⟩
  show Rn k_M_readsNumber 0 [(2, 71), (0, m), (9, 0)] [] (rmS S a n q) _
  have hL := hT.1
  have hsg := sk_ge L T a
  have hsl := sk_le (L := L) T ha.2
  rw [hs] at hsg hsl
  have hcs := ct_m hT (p := s) (by omega)
  refine R_lo (nx := 1) rfl rfl rfl rfl ?_
  refine R_op (nx := 2) rfl rfl rfl ?_
  refine R_put (nx := 5) (kk := 23) rfl rfl rfl rfl rfl ?_
  rw [rmS_23]
  refine R_lo (nx := 6) rfl rfl rfl rfl ?_
  refine R_lo (nx := 7) rfl rfl rfl rfl ?_
  refine R_call1 (nx := 10) (as := [(2, 71)]) (rest := [(2, 71)]) rfl rfl (fun _ _ => rfl) rfl rfl rfl rfl rfl rfl rfl rfl (Cl.mono (c_M_here S L T hT a 0 q ha s hs) ?_)
  rintro _ _ ⟨rfl, rfl⟩
  refine ⟨_, rfl, ?_⟩
  refine R_if (nx := 13) (tg := 20) rfl rfl rfl (mm_cnd_ge _ _) (fun c10 => ?_) (fun c10 => ?_)
  ·
    refine R_lo (nx := 21) rfl rfl rfl rfl ?_
    refine R_get (nx := 24) (w := (0, s)) rfl rfl rfl rfl ?_
    refine R_put (nx := 27) (kk := 24) rfl rfl rfl rfl rfl ?_
    rw [rmS_24]
    refine R_lo (nx := 28) rfl rfl rfl rfl ?_
    refine R_get (nx := 31) (w := (0, s)) rfl rfl rfl rfl ?_
    refine R_lo (nx := 32) (ls' := [(2, 71), (0, m), (0, s)]) rfl rfl rfl rfl ?_
    have L32 : ∀ (f32 : Nat) (n1 : Int) (i : Int), (L - i).toNat < f32 → (s ≤ i ∧ i ≤ L) → (de L T s = de L T i) → ((i = s → n1 = 0) ∧ (i = s + 1 → n1 = T s - 48) ∧ (i = s + 2 → n1 = 10 * (T s - 48) + T (s + 1) - 48) ∧ (s + 2 < i → n1 = 1000)) → (0 ≤ n1 ∧ n1 ≤ 1000) → Rn k_M_readsNumber 32 [(2, 71), (0, m), (0, i)] [] (rmS S s n1 s) (fun v S' => (v = some (0, 1) ∧ nOk L T m s ∧ S' = rmS S (de L T s) (nv L T s) s) ∨ (v = some (0, 0) ∧ ¬ nOk L T m s ∧ ∃ n', S' = rmS S s n' s)) := by
      intro f32
      induction f32 with
      | zero => intro n1 i hm32; exact absurd hm32 (Nat.not_lt_zero _)
      | succ f32 ih32 =>
        intro n1 i hm32 hp1 hd hn hb
        refine R_lo (nx := 33) rfl rfl rfl rfl ?_
        refine R_lo (nx := 34) rfl rfl rfl rfl ?_
        refine R_get (nx := 37) (w := (0, ((rmS S s n1 s) 71 21))) rfl rfl rfl rfl ?_
        rw [show ((rmS S s n1 s) 71 21) = L from (TPm.rm (by assumption)).2.1]
        refine R_icmp (nx := 40) (tg := 99) rfl rfl rfl (mm_cnd_ge _ _) (fun c37 => ?_) (fun c37 => ?_)
        ·
          have ed : de L T s = i := hd.trans (de_n (by omega))
          have hv := nv_c ed
          have hi := nOk_i (L := L) (T := T) (m := m) (s := s)
          rw [ed] at hi
          refine R_lo (nx := 100) rfl rfl rfl rfl ?_
          refine R_lo (nx := 101) rfl rfl rfl rfl ?_
          refine R_get (nx := 104) (w := (0, s)) rfl rfl rfl rfl ?_
          refine R_icmp (nx := 107) (tg := 115) rfl rfl rfl (mm_cnd_eq _ _) (fun c104 => ?_) (fun c104 => ?_)
          ·
            refine R_op (nx := 116) rfl rfl rfl ?_
            refine R_ret rfl (fun _ _ => rfl) rfl rfl ?_
            first | (refine Or.inl ⟨rfl, hi.mpr ⟨by omega, by omega⟩, ?_⟩; rw [ed, show nv L T s = n1 by omega]; done) | exact Or.inr ⟨rfl, fun z => absurd (hi.mp z) (by omega), _, rfl⟩
          ·
            refine R_lo (nx := 108) rfl rfl rfl rfl ?_
            refine R_get (nx := 111) (w := (0, n1)) rfl rfl rfl rfl ?_
            refine R_lo (nx := 112) rfl rfl rfl rfl ?_
            refine R_icmp (nx := 115) (tg := 117) rfl rfl rfl (mm_cnd_le _ _) (fun c112 => ?_) (fun c112 => ?_)
            ·
              refine R_lo (nx := 118) rfl rfl rfl rfl ?_
              refine R_lo (nx := 119) rfl rfl rfl rfl ?_
              refine R_put (nx := 122) (kk := 22) rfl rfl rfl rfl rfl ?_
              rw [rmS_22]
              refine R_op (nx := 123) rfl rfl rfl ?_
              refine R_ret rfl (fun _ _ => rfl) rfl rfl ?_
              first | (refine Or.inl ⟨rfl, hi.mpr ⟨by omega, by omega⟩, ?_⟩; rw [ed, show nv L T s = n1 by omega]; done) | exact Or.inr ⟨rfl, fun z => absurd (hi.mp z) (by omega), _, rfl⟩
            ·
              refine R_op (nx := 116) rfl rfl rfl ?_
              refine R_ret rfl (fun _ _ => rfl) rfl rfl ?_
              first | (refine Or.inl ⟨rfl, hi.mpr ⟨by omega, by omega⟩, ?_⟩; rw [ed, show nv L T s = n1 by omega]; done) | exact Or.inr ⟨rfl, fun z => absurd (hi.mp z) (by omega), _, rfl⟩
        ·
          refine R_lo (nx := 41) rfl rfl rfl rfl ?_
          refine R_get (nx := 44) (w := (2, 85)) rfl rfl rfl rfl ?_
          refine R_lo (nx := 45) rfl rfl rfl rfl ?_
          refine R_iald (nx := 46) rfl rfl (mm_el_ok 1 200 (by decide) rfl (by decide) (by omega) (by omega)) ?_
          rw [show ((rmS S s n1 s) 85 i) = T i from ((TPm.rm hT).2.2 i (by omega) (by omega)).1]
          refine R_op (nx := 48) rfl rfl rfl ?_
          refine R_op (nx := 50) rfl rfl rfl ?_
          refine R_call1 (nx := 53) (as := [(0, (T i)), (0, 48), (0, 57)]) (rest := []) rfl rfl (fun _ _ => rfl) rfl rfl rfl rfl rfl rfl rfl rfl (Cl.mono (c_M_in (rmS S s n1 s) (T i) 48 57) ?_)
          rintro _ _ (⟨rfl, b50, rfl⟩ | ⟨rfl, b50, rfl⟩)
          ·
            refine ⟨_, rfl, ?_⟩
            refine R_ifF (nx := 56) rfl rfl rfl ?_
            refine R_lo (nx := 57) rfl rfl rfl rfl ?_
            refine R_lo (nx := 58) rfl rfl rfl rfl ?_
            refine R_lo (nx := 59) rfl rfl rfl rfl ?_
            refine R_get (nx := 62) (w := (0, s)) rfl rfl rfl rfl ?_
            refine R_isub (nx := 63) (z := (i - s)) rfl rfl rfl ⟨by omega, by omega⟩ ?_
            refine R_op (nx := 64) rfl rfl rfl ?_
            refine R_icmp (nx := 67) (tg := 73) rfl rfl rfl (mm_cnd_le _ _) (fun c64 => ?_) (fun c64 => ?_)
            ·
              refine R_op (nx := 75) rfl rfl rfl ?_
              refine R_lo (nx := 76) rfl rfl rfl rfl ?_
              refine R_get (nx := 79) (w := (0, n1)) rfl rfl rfl rfl ?_
              refine R_imul (nx := 80) (z := (10 * n1)) rfl rfl rfl ⟨by omega, by omega⟩ ?_
              refine R_lo (nx := 81) rfl rfl rfl rfl ?_
              refine R_get (nx := 84) (w := (2, 85)) rfl rfl rfl rfl ?_
              refine R_lo (nx := 85) rfl rfl rfl rfl ?_
              refine R_iald (nx := 86) rfl rfl (mm_el_ok 1 200 (by decide) rfl (by decide) (by omega) (by omega)) ?_
              rw [show ((rmS S s n1 s) 85 i) = T i from ((TPm.rm hT).2.2 i (by omega) (by omega)).1]
              refine R_iadd (nx := 87) (z := ((10 * n1) + (T i))) rfl rfl rfl ⟨by omega, by omega⟩ ?_
              refine R_op (nx := 89) rfl rfl rfl ?_
              refine R_isub (nx := 90) (z := (((10 * n1) + (T i)) - 48)) rfl rfl rfl ⟨by omega, by omega⟩ ?_
              refine R_put (nx := 93) (kk := 23) rfl rfl rfl rfl rfl ?_
              rw [rmS_23]
              refine R_iinc (nx := 96) (z := (i + 1)) (ls' := [(2, 71), (0, m), (0, (i + 1))]) rfl rfl rfl rfl ⟨by omega, by omega⟩ rfl ?_
              refine R_op (nx := 99) (pc' := 32) rfl rfl rfl ?_
              refine Rn.weak (ls' := [(2, 71), (0, m), (0, (i + 1))]) ⟨Or.inl rfl, ⟨Or.inl rfl, ⟨Or.inl rfl, trivial⟩⟩⟩ ?_
              refine ih32 ((((10 * n1) + (T i)) - 48)) ((i + 1)) ?_ ?_ ?_ ?_ ?_
              · omega
              · omega
              · exact hd.trans (de_y (by omega) (by omega))
              · refine ⟨fun q => by omega, fun q => ?_, fun q => ?_, fun q => by omega⟩
                · have e : i = s := by omega
                  first | (exfalso; omega) | (rw [← e]; omega)
                · have e : i = s + 1 := by omega
                  first | (exfalso; omega) | (rw [← e]; omega)
              · have dg : 48 ≤ T s ∧ T s ≤ 57 := by
                  by_cases e : i = s
                  · rw [← e]; omega
                  · exact (de_dg (L := L) (T := T) (Int.le_refl s) (show s < de L T s by have := de_ge L T i; omega)).2
                omega
            ·
              refine R_op (nx := 70) rfl rfl rfl ?_
              refine R_op (nx := 73) (pc' := 90) rfl rfl rfl ?_
              refine R_put (nx := 93) (kk := 23) rfl rfl rfl rfl rfl ?_
              rw [rmS_23]
              refine R_iinc (nx := 96) (z := (i + 1)) (ls' := [(2, 71), (0, m), (0, (i + 1))]) rfl rfl rfl rfl ⟨by omega, by omega⟩ rfl ?_
              refine R_op (nx := 99) (pc' := 32) rfl rfl rfl ?_
              refine Rn.weak (ls' := [(2, 71), (0, m), (0, (i + 1))]) ⟨Or.inl rfl, ⟨Or.inl rfl, ⟨Or.inl rfl, trivial⟩⟩⟩ ?_
              refine ih32 (1000) ((i + 1)) ?_ ?_ ?_ ?_ ?_
              · omega
              · omega
              · exact hd.trans (de_y (by omega) (by omega))
              · refine ⟨fun q => by omega, fun q => ?_, fun q => ?_, fun q => by omega⟩
                · have e : i = s := by omega
                  first | (exfalso; omega) | (rw [← e]; omega)
                · have e : i = s + 1 := by omega
                  first | (exfalso; omega) | (rw [← e]; omega)
              · have dg : 48 ≤ T s ∧ T s ≤ 57 := by
                  by_cases e : i = s
                  · rw [← e]; omega
                  · exact (de_dg (L := L) (T := T) (Int.le_refl s) (show s < de L T s by have := de_ge L T i; omega)).2
                omega
          ·
            have ed : de L T s = i := hd.trans (de_n (fun z => b50 z.2))
            have hv := nv_c ed
            have hi := nOk_i (L := L) (T := T) (m := m) (s := s)
            rw [ed] at hi
            refine ⟨_, rfl, ?_⟩
            refine R_ifT (tg := 99) rfl rfl rfl ?_
            refine R_lo (nx := 100) rfl rfl rfl rfl ?_
            refine R_lo (nx := 101) rfl rfl rfl rfl ?_
            refine R_get (nx := 104) (w := (0, s)) rfl rfl rfl rfl ?_
            refine R_icmp (nx := 107) (tg := 115) rfl rfl rfl (mm_cnd_eq _ _) (fun c104_1 => ?_) (fun c104_1 => ?_)
            ·
              refine R_op (nx := 116) rfl rfl rfl ?_
              refine R_ret rfl (fun _ _ => rfl) rfl rfl ?_
              first | (refine Or.inl ⟨rfl, hi.mpr ⟨by omega, by omega⟩, ?_⟩; rw [ed, show nv L T s = n1 by omega]; done) | exact Or.inr ⟨rfl, fun z => absurd (hi.mp z) (by omega), _, rfl⟩
            ·
              refine R_lo (nx := 108) rfl rfl rfl rfl ?_
              refine R_get (nx := 111) (w := (0, n1)) rfl rfl rfl rfl ?_
              refine R_lo (nx := 112) rfl rfl rfl rfl ?_
              refine R_icmp (nx := 115) (tg := 117) rfl rfl rfl (mm_cnd_le _ _) (fun c112_1 => ?_) (fun c112_1 => ?_)
              ·
                refine R_lo (nx := 118) rfl rfl rfl rfl ?_
                refine R_lo (nx := 119) rfl rfl rfl rfl ?_
                refine R_put (nx := 122) (kk := 22) rfl rfl rfl rfl rfl ?_
                rw [rmS_22]
                refine R_op (nx := 123) rfl rfl rfl ?_
                refine R_ret rfl (fun _ _ => rfl) rfl rfl ?_
                first | (refine Or.inl ⟨rfl, hi.mpr ⟨by omega, by omega⟩, ?_⟩; rw [ed, show nv L T s = n1 by omega]; done) | exact Or.inr ⟨rfl, fun z => absurd (hi.mp z) (by omega), _, rfl⟩
              ·
                refine R_op (nx := 116) rfl rfl rfl ?_
                refine R_ret rfl (fun _ _ => rfl) rfl rfl ?_
                first | (refine Or.inl ⟨rfl, hi.mpr ⟨by omega, by omega⟩, ?_⟩; rw [ed, show nv L T s = n1 by omega]; done) | exact Or.inr ⟨rfl, fun z => absurd (hi.mp z) (by omega), _, rfl⟩
    refine Rn.weak (ls' := [(2, 71), (0, m), (0, s)]) ⟨Or.inl rfl, ⟨Or.inl rfl, ⟨Or.inl rfl, trivial⟩⟩⟩ ?_
    refine L32 ((L - (s)).toNat + 1) (0) (s) (Nat.lt_succ_self _) ?_ ?_ ?_ ?_
    · omega
    · rfl
    · exact ⟨fun _ => rfl, fun q => by omega, fun q => by omega, fun q => by omega⟩
    · omega
  ·
    refine R_lo (nx := 14) rfl rfl rfl rfl ?_
    refine R_get (nx := 17) (w := (0, ((rmS S s 0 q) 71 21))) rfl rfl rfl rfl ?_
    rw [show ((rmS S s 0 q) 71 21) = L from (TPm.rm (by assumption)).2.1]
    refine R_op (nx := 20) (pc' := 24) rfl rfl rfl ?_
    refine R_cv (w := s) (by omega) ?_
    refine R_put (nx := 27) (kk := 24) rfl rfl rfl rfl rfl ?_
    rw [rmS_24]
    refine R_lo (nx := 28) rfl rfl rfl rfl ?_
    refine R_get (nx := 31) (w := (0, s)) rfl rfl rfl rfl ?_
    refine R_lo (nx := 32) (ls' := [(2, 71), (0, m), (0, s)]) rfl rfl rfl rfl ?_
    have L32 : ∀ (f32 : Nat) (n1 : Int) (i : Int), (L - i).toNat < f32 → (s ≤ i ∧ i ≤ L) → (de L T s = de L T i) → ((i = s → n1 = 0) ∧ (i = s + 1 → n1 = T s - 48) ∧ (i = s + 2 → n1 = 10 * (T s - 48) + T (s + 1) - 48) ∧ (s + 2 < i → n1 = 1000)) → (0 ≤ n1 ∧ n1 ≤ 1000) → Rn k_M_readsNumber 32 [(2, 71), (0, m), (0, i)] [] (rmS S s n1 s) (fun v S' => (v = some (0, 1) ∧ nOk L T m s ∧ S' = rmS S (de L T s) (nv L T s) s) ∨ (v = some (0, 0) ∧ ¬ nOk L T m s ∧ ∃ n', S' = rmS S s n' s)) := by
      intro f32
      induction f32 with
      | zero => intro n1 i hm32; exact absurd hm32 (Nat.not_lt_zero _)
      | succ f32 ih32 =>
        intro n1 i hm32 hp1 hd hn hb
        refine R_lo (nx := 33) rfl rfl rfl rfl ?_
        refine R_lo (nx := 34) rfl rfl rfl rfl ?_
        refine R_get (nx := 37) (w := (0, ((rmS S s n1 s) 71 21))) rfl rfl rfl rfl ?_
        rw [show ((rmS S s n1 s) 71 21) = L from (TPm.rm (by assumption)).2.1]
        refine R_icmp (nx := 40) (tg := 99) rfl rfl rfl (mm_cnd_ge _ _) (fun c37_1 => ?_) (fun c37_1 => ?_)
        ·
          have ed : de L T s = i := hd.trans (de_n (by omega))
          have hv := nv_c ed
          have hi := nOk_i (L := L) (T := T) (m := m) (s := s)
          rw [ed] at hi
          refine R_lo (nx := 100) rfl rfl rfl rfl ?_
          refine R_lo (nx := 101) rfl rfl rfl rfl ?_
          refine R_get (nx := 104) (w := (0, s)) rfl rfl rfl rfl ?_
          refine R_icmp (nx := 107) (tg := 115) rfl rfl rfl (mm_cnd_eq _ _) (fun c104_2 => ?_) (fun c104_2 => ?_)
          ·
            refine R_op (nx := 116) rfl rfl rfl ?_
            refine R_ret rfl (fun _ _ => rfl) rfl rfl ?_
            first | (refine Or.inl ⟨rfl, hi.mpr ⟨by omega, by omega⟩, ?_⟩; rw [ed, show nv L T s = n1 by omega]; done) | exact Or.inr ⟨rfl, fun z => absurd (hi.mp z) (by omega), _, rfl⟩
          ·
            refine R_lo (nx := 108) rfl rfl rfl rfl ?_
            refine R_get (nx := 111) (w := (0, n1)) rfl rfl rfl rfl ?_
            refine R_lo (nx := 112) rfl rfl rfl rfl ?_
            refine R_icmp (nx := 115) (tg := 117) rfl rfl rfl (mm_cnd_le _ _) (fun c112_2 => ?_) (fun c112_2 => ?_)
            ·
              refine R_lo (nx := 118) rfl rfl rfl rfl ?_
              refine R_lo (nx := 119) rfl rfl rfl rfl ?_
              refine R_put (nx := 122) (kk := 22) rfl rfl rfl rfl rfl ?_
              rw [rmS_22]
              refine R_op (nx := 123) rfl rfl rfl ?_
              refine R_ret rfl (fun _ _ => rfl) rfl rfl ?_
              first | (refine Or.inl ⟨rfl, hi.mpr ⟨by omega, by omega⟩, ?_⟩; rw [ed, show nv L T s = n1 by omega]; done) | exact Or.inr ⟨rfl, fun z => absurd (hi.mp z) (by omega), _, rfl⟩
            ·
              refine R_op (nx := 116) rfl rfl rfl ?_
              refine R_ret rfl (fun _ _ => rfl) rfl rfl ?_
              first | (refine Or.inl ⟨rfl, hi.mpr ⟨by omega, by omega⟩, ?_⟩; rw [ed, show nv L T s = n1 by omega]; done) | exact Or.inr ⟨rfl, fun z => absurd (hi.mp z) (by omega), _, rfl⟩
        ·
          refine R_lo (nx := 41) rfl rfl rfl rfl ?_
          refine R_get (nx := 44) (w := (2, 85)) rfl rfl rfl rfl ?_
          refine R_lo (nx := 45) rfl rfl rfl rfl ?_
          refine R_iald (nx := 46) rfl rfl (mm_el_ok 1 200 (by decide) rfl (by decide) (by omega) (by omega)) ?_
          rw [show ((rmS S s n1 s) 85 i) = T i from ((TPm.rm hT).2.2 i (by omega) (by omega)).1]
          refine R_op (nx := 48) rfl rfl rfl ?_
          refine R_op (nx := 50) rfl rfl rfl ?_
          refine R_call1 (nx := 53) (as := [(0, (T i)), (0, 48), (0, 57)]) (rest := []) rfl rfl (fun _ _ => rfl) rfl rfl rfl rfl rfl rfl rfl rfl (Cl.mono (c_M_in (rmS S s n1 s) (T i) 48 57) ?_)
          rintro _ _ (⟨rfl, b50_1, rfl⟩ | ⟨rfl, b50_1, rfl⟩)
          ·
            refine ⟨_, rfl, ?_⟩
            refine R_ifF (nx := 56) rfl rfl rfl ?_
            refine R_lo (nx := 57) rfl rfl rfl rfl ?_
            refine R_lo (nx := 58) rfl rfl rfl rfl ?_
            refine R_lo (nx := 59) rfl rfl rfl rfl ?_
            refine R_get (nx := 62) (w := (0, s)) rfl rfl rfl rfl ?_
            refine R_isub (nx := 63) (z := (i - s)) rfl rfl rfl ⟨by omega, by omega⟩ ?_
            refine R_op (nx := 64) rfl rfl rfl ?_
            refine R_icmp (nx := 67) (tg := 73) rfl rfl rfl (mm_cnd_le _ _) (fun c64_1 => ?_) (fun c64_1 => ?_)
            ·
              refine R_op (nx := 75) rfl rfl rfl ?_
              refine R_lo (nx := 76) rfl rfl rfl rfl ?_
              refine R_get (nx := 79) (w := (0, n1)) rfl rfl rfl rfl ?_
              refine R_imul (nx := 80) (z := (10 * n1)) rfl rfl rfl ⟨by omega, by omega⟩ ?_
              refine R_lo (nx := 81) rfl rfl rfl rfl ?_
              refine R_get (nx := 84) (w := (2, 85)) rfl rfl rfl rfl ?_
              refine R_lo (nx := 85) rfl rfl rfl rfl ?_
              refine R_iald (nx := 86) rfl rfl (mm_el_ok 1 200 (by decide) rfl (by decide) (by omega) (by omega)) ?_
              rw [show ((rmS S s n1 s) 85 i) = T i from ((TPm.rm hT).2.2 i (by omega) (by omega)).1]
              refine R_iadd (nx := 87) (z := ((10 * n1) + (T i))) rfl rfl rfl ⟨by omega, by omega⟩ ?_
              refine R_op (nx := 89) rfl rfl rfl ?_
              refine R_isub (nx := 90) (z := (((10 * n1) + (T i)) - 48)) rfl rfl rfl ⟨by omega, by omega⟩ ?_
              refine R_put (nx := 93) (kk := 23) rfl rfl rfl rfl rfl ?_
              rw [rmS_23]
              refine R_iinc (nx := 96) (z := (i + 1)) (ls' := [(2, 71), (0, m), (0, (i + 1))]) rfl rfl rfl rfl ⟨by omega, by omega⟩ rfl ?_
              refine R_op (nx := 99) (pc' := 32) rfl rfl rfl ?_
              refine Rn.weak (ls' := [(2, 71), (0, m), (0, (i + 1))]) ⟨Or.inl rfl, ⟨Or.inl rfl, ⟨Or.inl rfl, trivial⟩⟩⟩ ?_
              refine ih32 ((((10 * n1) + (T i)) - 48)) ((i + 1)) ?_ ?_ ?_ ?_ ?_
              · omega
              · omega
              · exact hd.trans (de_y (by omega) (by omega))
              · refine ⟨fun q => by omega, fun q => ?_, fun q => ?_, fun q => by omega⟩
                · have e : i = s := by omega
                  first | (exfalso; omega) | (rw [← e]; omega)
                · have e : i = s + 1 := by omega
                  first | (exfalso; omega) | (rw [← e]; omega)
              · have dg : 48 ≤ T s ∧ T s ≤ 57 := by
                  by_cases e : i = s
                  · rw [← e]; omega
                  · exact (de_dg (L := L) (T := T) (Int.le_refl s) (show s < de L T s by have := de_ge L T i; omega)).2
                omega
            ·
              refine R_op (nx := 70) rfl rfl rfl ?_
              refine R_op (nx := 73) (pc' := 90) rfl rfl rfl ?_
              refine R_put (nx := 93) (kk := 23) rfl rfl rfl rfl rfl ?_
              rw [rmS_23]
              refine R_iinc (nx := 96) (z := (i + 1)) (ls' := [(2, 71), (0, m), (0, (i + 1))]) rfl rfl rfl rfl ⟨by omega, by omega⟩ rfl ?_
              refine R_op (nx := 99) (pc' := 32) rfl rfl rfl ?_
              refine Rn.weak (ls' := [(2, 71), (0, m), (0, (i + 1))]) ⟨Or.inl rfl, ⟨Or.inl rfl, ⟨Or.inl rfl, trivial⟩⟩⟩ ?_
              refine ih32 (1000) ((i + 1)) ?_ ?_ ?_ ?_ ?_
              · omega
              · omega
              · exact hd.trans (de_y (by omega) (by omega))
              · refine ⟨fun q => by omega, fun q => ?_, fun q => ?_, fun q => by omega⟩
                · have e : i = s := by omega
                  first | (exfalso; omega) | (rw [← e]; omega)
                · have e : i = s + 1 := by omega
                  first | (exfalso; omega) | (rw [← e]; omega)
              · have dg : 48 ≤ T s ∧ T s ≤ 57 := by
                  by_cases e : i = s
                  · rw [← e]; omega
                  · exact (de_dg (L := L) (T := T) (Int.le_refl s) (show s < de L T s by have := de_ge L T i; omega)).2
                omega
          ·
            have ed : de L T s = i := hd.trans (de_n (fun z => b50_1 z.2))
            have hv := nv_c ed
            have hi := nOk_i (L := L) (T := T) (m := m) (s := s)
            rw [ed] at hi
            refine ⟨_, rfl, ?_⟩
            refine R_ifT (tg := 99) rfl rfl rfl ?_
            refine R_lo (nx := 100) rfl rfl rfl rfl ?_
            refine R_lo (nx := 101) rfl rfl rfl rfl ?_
            refine R_get (nx := 104) (w := (0, s)) rfl rfl rfl rfl ?_
            refine R_icmp (nx := 107) (tg := 115) rfl rfl rfl (mm_cnd_eq _ _) (fun c104_3 => ?_) (fun c104_3 => ?_)
            ·
              refine R_op (nx := 116) rfl rfl rfl ?_
              refine R_ret rfl (fun _ _ => rfl) rfl rfl ?_
              first | (refine Or.inl ⟨rfl, hi.mpr ⟨by omega, by omega⟩, ?_⟩; rw [ed, show nv L T s = n1 by omega]; done) | exact Or.inr ⟨rfl, fun z => absurd (hi.mp z) (by omega), _, rfl⟩
            ·
              refine R_lo (nx := 108) rfl rfl rfl rfl ?_
              refine R_get (nx := 111) (w := (0, n1)) rfl rfl rfl rfl ?_
              refine R_lo (nx := 112) rfl rfl rfl rfl ?_
              refine R_icmp (nx := 115) (tg := 117) rfl rfl rfl (mm_cnd_le _ _) (fun c112_3 => ?_) (fun c112_3 => ?_)
              ·
                refine R_lo (nx := 118) rfl rfl rfl rfl ?_
                refine R_lo (nx := 119) rfl rfl rfl rfl ?_
                refine R_put (nx := 122) (kk := 22) rfl rfl rfl rfl rfl ?_
                rw [rmS_22]
                refine R_op (nx := 123) rfl rfl rfl ?_
                refine R_ret rfl (fun _ _ => rfl) rfl rfl ?_
                first | (refine Or.inl ⟨rfl, hi.mpr ⟨by omega, by omega⟩, ?_⟩; rw [ed, show nv L T s = n1 by omega]; done) | exact Or.inr ⟨rfl, fun z => absurd (hi.mp z) (by omega), _, rfl⟩
              ·
                refine R_op (nx := 116) rfl rfl rfl ?_
                refine R_ret rfl (fun _ _ => rfl) rfl rfl ?_
                first | (refine Or.inl ⟨rfl, hi.mpr ⟨by omega, by omega⟩, ?_⟩; rw [ed, show nv L T s = n1 by omega]; done) | exact Or.inr ⟨rfl, fun z => absurd (hi.mp z) (by omega), _, rfl⟩
    refine Rn.weak (ls' := [(2, 71), (0, m), (0, s)]) ⟨Or.inl rfl, ⟨Or.inl rfl, ⟨Or.inl rfl, trivial⟩⟩⟩ ?_
    refine L32 ((L - (s)).toNat + 1) (0) (s) (Nat.lt_succ_self _) ?_ ?_ ?_ ?_
    · omega
    · rfl
    · exact ⟨fun _ => rfl, fun q => by omega, fun q => by omega, fun q => by omega⟩
    · omega

def TM (S : mm_S) (t : Int → Int) : Prop := ∀ k, 0 ≤ k → k < 12 → S 86 k = t k
theorem TM.up {S : mm_S} {t : Int → Int} {n : Int} (h : TM S t) (j u : Int) : TM (mm_up (mm_up S 86 n 1) 75 j u) (ups t n) := fun k h0 h1 => by
  rw [mm_unq (by decide)]
  unfold ups
  by_cases e : k = n
  · rw [if_pos e, e, mm_ua]
  · rw [if_neg e, mm_uk e]; exact h k h0 h1
theorem MRr.set4 {S : mm_S} {K : CX} {x y v n : Int} (h : MRr S 4 K) (hx : 0 ≤ x ∧ x < Xn K) (hy : 0 ≤ y ∧ y < Xn K) : MRr (mm_up (mm_up S 86 n 1) 75 (576 + 12 * x + y) v) 4 (Xset K x y v) := (h.up (b := 86) (by omega)).set hx hy
theorem Oth.u86 {S S1 : mm_S} {c : Int} (h : Oth S S1 c) (k v : Int) : Oth S (mm_up S1 86 k v) c := fun c' K' p q r t => (h c' K' p q r t).up (by omega)

set_option maxRecDepth 20000 in
set_option maxHeartbeats 4000000 in
theorem c_M_readsEntry (S : mm_S) (L : Int) (T : Int → Int) (hT : TPm S L T) (a n q : Int) (ha : 0 ≤ a ∧ a ≤ L) (K : CX) (x : Int) (hx : Xn K = x + 1) (hM : MRr S 4 K) (hV : Vx K) (td : Int → Int) (hB : TM S td) : Cl 102 [(2, 71), (0, x)] (rmS S a n q) (fun v S' => (v = some (0, 1) ∧ ∃ pl m u n' q', eR L T K x td a = (1, pl, m, u) ∧ S' = rmS (mm_up (mm_up S 86 m 1) 75 (576 + 12 * x + m) u) pl n' q') ∨ (v = some (0, 0) ∧ ∃ z n' q', eR L T K x td a = (0, z, 0, 0) ∧ (a ≤ z ∧ z ≤ L) ∧ sk L T z = z ∧ S' = rmS S z n' q')) := by
  refine ⟨Nat.le_of_ble_eq_true rfl, ?_⟩
  show Rn k_M_readsEntry 0 [(2, 71), (0, x), (9, 0), (9, 0), (9, 0)] [] (rmS S a n q) _
  have hL := hT.1
  have hR := hV.2.1
  have hnr := hV.1.1
  refine R_lo (nx := 1) rfl rfl rfl rfl ?_
  refine R_op (nx := 3) rfl rfl rfl ?_
  refine R_call1 (nx := 6) (as := [(2, 71), (0, 45)]) (rest := []) rfl rfl (fun _ _ => rfl) rfl rfl rfl rfl rfl rfl rfl rfl (Cl.mono (c_M_takes S L T (by assumption) a n q (by omega) (sk L T a) rfl 45) ?_)
  rintro _ _ (⟨rfl, b3, rfl⟩ | ⟨rfl, b3, rfl⟩)
  ·
    have g3 := sk_ge L T a
    have l3 := sk_le (L := L) T (p := a) (by omega)
    have tb3 := ct_lt b3 (by decide)
    refine ⟨_, rfl, ?_⟩
    refine R_lo (nx := 7) (ls' := [(2, 71), (0, x), (0, 1), (9, 0), (9, 0)]) rfl rfl rfl rfl ?_
    refine R_lo (nx := 8) rfl rfl rfl rfl ?_
    refine R_op (nx := 10) rfl rfl rfl ?_
    refine R_call1 (nx := 13) (as := [(2, 71), (0, 99)]) (rest := []) rfl rfl (fun _ _ => rfl) rfl rfl rfl rfl rfl rfl rfl rfl (Cl.mono (c_M_readsNumber S L T (by assumption) ((sk L T a) + 1) n q (by omega) (sk L T ((sk L T a) + 1)) rfl 99 (by decide)) ?_)
    rintro _ _ (⟨rfl, b10, rfl⟩ | ⟨rfl, b10, n10, rfl⟩)
    ·
      have g10 := sk_ge L T ((sk L T a) + 1)
      have l10 := sk_le (L := L) T (p := ((sk L T a) + 1)) (by omega)
      have w10 := nOk_r b10 (by decide) (by omega)
      refine ⟨_, rfl, ?_⟩
      refine R_ifT (tg := 18) rfl rfl rfl ?_
      refine R_op (nx := 19) rfl rfl rfl ?_
      refine R_lo (nx := 20) (ls' := [(2, 71), (0, x), (0, 1), (0, 1), (9, 0)]) rfl rfl rfl rfl ?_
      refine R_lo (nx := 21) rfl rfl rfl rfl ?_
      refine R_get (nx := 24) (w := (0, (sk L T ((sk L T a) + 1)))) rfl rfl rfl rfl ?_
      refine R_lo (nx := 26) (ls' := [(2, 71), (0, x), (0, 1), (0, 1), (0, (sk L T ((sk L T a) + 1)))]) rfl rfl rfl rfl ?_
      refine R_lo (nx := 27) rfl rfl rfl rfl ?_
      refine R_op (nx := 29) rfl rfl rfl ?_
      refine R_call1 (nx := 32) (as := [(2, 71), (0, 42)]) (rest := []) rfl rfl (fun _ _ => rfl) rfl rfl rfl rfl rfl rfl rfl rfl (Cl.mono (c_M_takes S L T (by assumption) (de L T (sk L T ((sk L T a) + 1))) (nv L T (sk L T ((sk L T a) + 1))) (sk L T ((sk L T a) + 1)) (by omega) (sk L T (de L T (sk L T ((sk L T a) + 1)))) rfl 42) ?_)
      rintro _ _ (⟨rfl, b29, rfl⟩ | ⟨rfl, b29, rfl⟩)
      ·
        have g29 := sk_ge L T (de L T (sk L T ((sk L T a) + 1)))
        have l29 := sk_le (L := L) T (p := (de L T (sk L T ((sk L T a) + 1)))) (by omega)
        have tb29 := ct_lt b29 (by decide)
        refine ⟨_, rfl, ?_⟩
        refine R_ifF (nx := 35) rfl rfl rfl ?_
        refine R_lo (nx := 36) rfl rfl rfl rfl ?_
        refine R_get (nx := 39) (w := (0, (nv L T (sk L T ((sk L T a) + 1))))) rfl rfl rfl rfl ?_
        refine R_lo (nx := 40) (ls' := [(2, 71), (0, x), (0, 1), (0, (nv L T (sk L T ((sk L T a) + 1)))), (0, (sk L T ((sk L T a) + 1)))]) rfl rfl rfl rfl ?_
        refine R_lo (nx := 41) rfl rfl rfl rfl ?_
        refine R_op (nx := 43) rfl rfl rfl ?_
        refine R_icmp (nx := 46) (tg := 54) rfl rfl rfl (mm_cnd_le _ _) (fun c43 => ?_) (fun c43 => ?_)
        ·
          refine R_lo (nx := 55) rfl rfl rfl rfl ?_
          refine R_op (nx := 57) rfl rfl rfl ?_
          refine R_call1 (nx := 60) (as := [(2, 71), (0, 99)]) (rest := []) rfl rfl (fun _ _ => rfl) rfl rfl rfl rfl rfl rfl rfl rfl (Cl.mono (c_M_readsNumber S L T (by assumption) ((sk L T (de L T (sk L T ((sk L T a) + 1)))) + 1) (nv L T (sk L T ((sk L T a) + 1))) (sk L T ((sk L T a) + 1)) (by omega) (sk L T ((sk L T (de L T (sk L T ((sk L T a) + 1)))) + 1)) rfl 99 (by decide)) ?_)
          rintro _ _ (⟨rfl, b57, rfl⟩ | ⟨rfl, b57, n57, rfl⟩)
          ·
            have g57 := sk_ge L T ((sk L T (de L T (sk L T ((sk L T a) + 1)))) + 1)
            have l57 := sk_le (L := L) T (p := ((sk L T (de L T (sk L T ((sk L T a) + 1)))) + 1)) (by omega)
            have w57 := nOk_r b57 (by decide) (by omega)
            refine ⟨_, rfl, ?_⟩
            refine R_ifT (tg := 65) rfl rfl rfl ?_
            refine R_lo (nx := 67) rfl rfl rfl rfl ?_
            refine R_lo (nx := 68) rfl rfl rfl rfl ?_
            refine R_get (nx := 71) (w := (0, (sk L T ((sk L T (de L T (sk L T ((sk L T a) + 1)))) + 1)))) rfl rfl rfl rfl ?_
            refine R_icmp (nx := 74) (tg := 92) rfl rfl rfl (mm_cnd_ne _ _) (fun _ => ?_) (fun z => absurd (show (sk L T ((sk L T a) + 1)) ≠ (sk L T ((sk L T (de L T (sk L T ((sk L T a) + 1)))) + 1)) by omega) z)
            refine R_lo (nx := 93) rfl rfl rfl rfl ?_
            refine R_get (nx := 96) (w := (0, (nv L T (sk L T ((sk L T (de L T (sk L T ((sk L T a) + 1)))) + 1))))) rfl rfl rfl rfl ?_
            refine R_lo (nx := 97) rfl rfl rfl rfl ?_
            refine R_icmp (nx := 100) (tg := 125) rfl rfl rfl (mm_cnd_ge _ _) (fun c97 => ?_) (fun c97 => ?_)
            ·
              refine R_lo (nx := 126) rfl rfl rfl rfl ?_
              refine R_lo (nx := 127) rfl rfl rfl rfl ?_
              refine R_get (nx := 130) (w := (0, (sk L T ((sk L T (de L T (sk L T ((sk L T a) + 1)))) + 1)))) rfl rfl rfl rfl ?_
              refine R_put (nx := 133) (kk := 22) rfl rfl rfl rfl rfl ?_
              rw [rmS_22]
              refine R_op (nx := 134) rfl rfl rfl ?_
              refine R_ret rfl (fun _ _ => rfl) rfl rfl ?_
              refine Or.inr ⟨rfl, (sk L T ((sk L T (de L T (sk L T ((sk L T a) + 1)))) + 1)), _, _, ?_, by omega, by first | exact sk_sk _ _ _ | exact sk_id hs, rfl⟩
              unfold eR
              first | rw [if_pos b3] | rw [if_neg b3]
              unfold eR1
              rw [ifn_y b10]
              first | rw [if_pos b29] | rw [if_neg b29]
              rw [if_neg (by omega)]
              first | rw [ifn_y b57] | skip
              unfold eF ifm
              by_cases hy : Xmay K x ((nv L T (sk L T ((sk L T (de L T (sk L T ((sk L T a) + 1)))) + 1))))
              · first | (rw [if_pos hy, if_neg c109]; done) | exact absurd hy b119 | (exfalso; have h1 := hy.2.1.2; have h2 := hy.2.2.1; have h3 : ∀ i, i = x → Xd K i = Xd K x := (fun i e => by rw [e]); have h4 := h3 ((nv L T (sk L T ((sk L T (de L T (sk L T ((sk L T a) + 1)))) + 1)))) (show (nv L T (sk L T ((sk L T (de L T (sk L T ((sk L T a) + 1)))) + 1))) = x by omega); omega)
              · rw [if_neg hy]
            ·
              refine R_lo (nx := 101) rfl rfl rfl rfl ?_
              refine R_get (nx := 104) (w := (2, 86)) rfl rfl rfl rfl ?_
              refine R_lo (nx := 105) rfl rfl rfl rfl ?_
              refine R_get (nx := 108) (w := (0, (nv L T (sk L T ((sk L T (de L T (sk L T ((sk L T a) + 1)))) + 1))))) rfl rfl rfl rfl ?_
              refine R_bald (nx := 109) rfl rfl (mm_el_ok 4 12 (by decide) rfl (by decide) (by omega) (by omega)) ?_
              rw [show ((rmS S (de L T (sk L T ((sk L T (de L T (sk L T ((sk L T a) + 1)))) + 1))) (nv L T (sk L T ((sk L T (de L T (sk L T ((sk L T a) + 1)))) + 1))) (sk L T ((sk L T (de L T (sk L T ((sk L T a) + 1)))) + 1))) 86 (nv L T (sk L T ((sk L T (de L T (sk L T ((sk L T a) + 1)))) + 1)))) = td (nv L T (sk L T ((sk L T (de L T (sk L T ((sk L T a) + 1)))) + 1))) from (congrFun (rmS_ne (by decide)) _).trans (hB _ (by omega) (by omega))]
              refine R_if (nx := 112) (tg := 125) rfl rfl rfl (mm_cnd_ne _ _) (fun c109 => ?_) (fun c109 => ?_)
              ·
                refine R_lo (nx := 126) rfl rfl rfl rfl ?_
                refine R_lo (nx := 127) rfl rfl rfl rfl ?_
                refine R_get (nx := 130) (w := (0, (sk L T ((sk L T (de L T (sk L T ((sk L T a) + 1)))) + 1)))) rfl rfl rfl rfl ?_
                refine R_put (nx := 133) (kk := 22) rfl rfl rfl rfl rfl ?_
                rw [rmS_22]
                refine R_op (nx := 134) rfl rfl rfl ?_
                refine R_ret rfl (fun _ _ => rfl) rfl rfl ?_
                refine Or.inr ⟨rfl, (sk L T ((sk L T (de L T (sk L T ((sk L T a) + 1)))) + 1)), _, _, ?_, by omega, by first | exact sk_sk _ _ _ | exact sk_id hs, rfl⟩
                unfold eR
                first | rw [if_pos b3] | rw [if_neg b3]
                unfold eR1
                rw [ifn_y b10]
                first | rw [if_pos b29] | rw [if_neg b29]
                rw [if_neg (by omega)]
                first | rw [ifn_y b57] | skip
                unfold eF ifm
                by_cases hy : Xmay K x ((nv L T (sk L T ((sk L T (de L T (sk L T ((sk L T a) + 1)))) + 1))))
                · first | (rw [if_pos hy, if_neg c109]; done) | exact absurd hy b119 | (exfalso; have h1 := hy.2.1.2; have h2 := hy.2.2.1; have h3 : ∀ i, i = x → Xd K i = Xd K x := (fun i e => by rw [e]); have h4 := h3 ((nv L T (sk L T ((sk L T (de L T (sk L T ((sk L T a) + 1)))) + 1)))) (show (nv L T (sk L T ((sk L T (de L T (sk L T ((sk L T a) + 1)))) + 1))) = x by omega); omega)
                · rw [if_neg hy]
              ·
                replace c109 := Classical.not_not.mp c109
                refine R_lo (nx := 113) rfl rfl rfl rfl ?_
                refine R_op (nx := 114) rfl rfl rfl ?_
                refine R_lo (nx := 115) rfl rfl rfl rfl ?_
                refine R_lo (nx := 116) rfl rfl rfl rfl ?_
                refine R_get (nx := 119) (w := (0, (nv L T (sk L T ((sk L T (de L T (sk L T ((sk L T a) + 1)))) + 1))))) rfl rfl rfl rfl ?_
                refine R_call1 (nx := 122) (as := [(2, 71), (0, 4), (0, x), (0, (nv L T (sk L T ((sk L T (de L T (sk L T ((sk L T a) + 1)))) + 1))))]) (rest := []) rfl rfl (fun _ _ => rfl) rfl rfl rfl rfl rfl rfl rfl rfl (Cl.mono (c_M_may (rmS S (de L T (sk L T ((sk L T (de L T (sk L T ((sk L T a) + 1)))) + 1))) (nv L T (sk L T ((sk L T (de L T (sk L T ((sk L T a) + 1)))) + 1))) (sk L T ((sk L T (de L T (sk L T ((sk L T a) + 1)))) + 1))) 4 (by omega) K (show MRr (rmS S (de L T (sk L T ((sk L T (de L T (sk L T ((sk L T a) + 1)))) + 1))) (nv L T (sk L T ((sk L T (de L T (sk L T ((sk L T a) + 1)))) + 1))) (sk L T ((sk L T (de L T (sk L T ((sk L T a) + 1)))) + 1))) 4 K from MRr.rm (by assumption)) (by assumption) x (nv L T (sk L T ((sk L T (de L T (sk L T ((sk L T a) + 1)))) + 1))) (by omega) (by omega)) ?_)
                rintro _ _ (⟨rfl, b119, rfl⟩ | ⟨rfl, b119, rfl⟩)
                ·
                  refine ⟨_, rfl, ?_⟩
                  refine R_ifT (tg := 135) rfl rfl rfl ?_
                  refine R_lo (nx := 136) rfl rfl rfl rfl ?_
                  refine R_get (nx := 139) (w := (2, 86)) rfl rfl rfl rfl ?_
                  refine R_lo (nx := 140) rfl rfl rfl rfl ?_
                  refine R_get (nx := 143) (w := (0, (nv L T (sk L T ((sk L T (de L T (sk L T ((sk L T a) + 1)))) + 1))))) rfl rfl rfl rfl ?_
                  refine R_op (nx := 144) rfl rfl rfl ?_
                  refine R_bast (nx := 145) rfl rfl (mm_el_ok 4 12 (by decide) rfl (by decide) (by omega) (by omega)) rfl ?_
                  rw [rmS_up (by decide)]
                  refine R_lo (nx := 146) rfl rfl rfl rfl ?_
                  refine R_get (nx := 149) (w := (2, 75)) rfl rfl rfl rfl ?_
                  refine R_op (nx := 152) rfl rfl rfl ?_
                  refine R_op (nx := 154) rfl rfl rfl ?_
                  refine R_lo (nx := 155) rfl rfl rfl rfl ?_
                  refine R_imul (nx := 156) (z := (12 * x)) rfl rfl rfl ⟨by omega, by omega⟩ ?_
                  refine R_iadd (nx := 157) (z := (576 + (12 * x))) rfl rfl rfl ⟨by omega, by omega⟩ ?_
                  refine R_lo (nx := 158) rfl rfl rfl rfl ?_
                  refine R_get (nx := 161) (w := (0, (nv L T (sk L T ((sk L T (de L T (sk L T ((sk L T a) + 1)))) + 1))))) rfl rfl rfl rfl ?_
                  refine R_iadd (nx := 162) (z := ((576 + (12 * x)) + (nv L T (sk L T ((sk L T (de L T (sk L T ((sk L T a) + 1)))) + 1))))) rfl rfl rfl ⟨by omega, by omega⟩ ?_
                  refine R_lo (nx := 163) rfl rfl rfl rfl ?_
                  refine R_ifF (nx := 166) rfl rfl rfl ?_
                  refine R_lo (nx := 167) rfl rfl rfl rfl ?_
                  refine R_ineg (nx := 168) (z := (-(nv L T (sk L T ((sk L T a) + 1))))) rfl rfl rfl ⟨by omega, by omega⟩ ?_
                  refine R_op (nx := 171) (pc' := 172) rfl rfl rfl ?_
                  refine R_iast (nx := 173) rfl rfl (mm_el_ok 1 720 (by decide) rfl (by decide) (by omega) (by omega)) ?_
                  rw [rmS_up (by decide)]
                  refine R_op (nx := 174) rfl rfl rfl ?_
                  refine R_ret rfl (fun _ _ => rfl) rfl rfl ?_
                  refine Or.inl ⟨rfl, (de L T (sk L T ((sk L T (de L T (sk L T ((sk L T a) + 1)))) + 1))), (nv L T (sk L T ((sk L T (de L T (sk L T ((sk L T a) + 1)))) + 1))), (-(nv L T (sk L T ((sk L T a) + 1)))), _, _, ?_, rfl⟩
                  unfold eR
                  first | rw [if_pos b3] | rw [if_neg b3]
                  unfold eR1
                  rw [ifn_y b10]
                  first | rw [if_pos b29] | rw [if_neg b29]
                  rw [if_neg (by omega)]
                  first | rw [ifn_y b57] | skip
                  unfold eF ifm
                  rw [if_pos b119, if_pos c109]
                  rfl
                ·
                  refine ⟨_, rfl, ?_⟩
                  refine R_ifF (nx := 125) rfl rfl rfl ?_
                  refine R_lo (nx := 126) rfl rfl rfl rfl ?_
                  refine R_lo (nx := 127) rfl rfl rfl rfl ?_
                  refine R_get (nx := 130) (w := (0, (sk L T ((sk L T (de L T (sk L T ((sk L T a) + 1)))) + 1)))) rfl rfl rfl rfl ?_
                  refine R_put (nx := 133) (kk := 22) rfl rfl rfl rfl rfl ?_
                  rw [rmS_22]
                  refine R_op (nx := 134) rfl rfl rfl ?_
                  refine R_ret rfl (fun _ _ => rfl) rfl rfl ?_
                  refine Or.inr ⟨rfl, (sk L T ((sk L T (de L T (sk L T ((sk L T a) + 1)))) + 1)), _, _, ?_, by omega, by first | exact sk_sk _ _ _ | exact sk_id hs, rfl⟩
                  unfold eR
                  first | rw [if_pos b3] | rw [if_neg b3]
                  unfold eR1
                  rw [ifn_y b10]
                  first | rw [if_pos b29] | rw [if_neg b29]
                  rw [if_neg (by omega)]
                  first | rw [ifn_y b57] | skip
                  unfold eF ifm
                  by_cases hy : Xmay K x ((nv L T (sk L T ((sk L T (de L T (sk L T ((sk L T a) + 1)))) + 1))))
                  · first | (rw [if_pos hy, if_neg c109]; done) | exact absurd hy b119 | (exfalso; have h1 := hy.2.1.2; have h2 := hy.2.2.1; have h3 : ∀ i, i = x → Xd K i = Xd K x := (fun i e => by rw [e]); have h4 := h3 ((nv L T (sk L T ((sk L T (de L T (sk L T ((sk L T a) + 1)))) + 1)))) (show (nv L T (sk L T ((sk L T (de L T (sk L T ((sk L T a) + 1)))) + 1))) = x by omega); omega)
                  · rw [if_neg hy]
          ·
            have g57 := sk_ge L T ((sk L T (de L T (sk L T ((sk L T a) + 1)))) + 1)
            have l57 := sk_le (L := L) T (p := ((sk L T (de L T (sk L T ((sk L T a) + 1)))) + 1)) (by omega)
            refine ⟨_, rfl, ?_⟩
            refine R_ifF (nx := 63) rfl rfl rfl ?_
            refine R_op (nx := 64) rfl rfl rfl ?_
            refine R_ret rfl (fun _ _ => rfl) rfl rfl ?_
            refine Or.inr ⟨rfl, (sk L T ((sk L T (de L T (sk L T ((sk L T a) + 1)))) + 1)), _, _, ?_, by omega, by first | exact sk_sk _ _ _ | exact sk_id hs, rfl⟩
            unfold eR
            first | rw [if_pos b3] | rw [if_neg b3]
            unfold eR1
            rw [ifn_y b10]
            first | rw [if_pos b29] | rw [if_neg b29]
            rw [if_neg (by omega)]
            rw [ifn_n b57]
        ·
          refine R_lo (nx := 47) rfl rfl rfl rfl ?_
          refine R_lo (nx := 49) rfl rfl rfl rfl ?_
          refine R_put (nx := 52) (kk := 22) rfl rfl rfl rfl rfl ?_
          rw [rmS_22]
          refine R_op (nx := 53) rfl rfl rfl ?_
          refine R_ret rfl (fun _ _ => rfl) rfl rfl ?_
          refine Or.inr ⟨rfl, (sk L T ((sk L T a) + 1)), _, _, ?_, by omega, by first | exact sk_sk _ _ _ | exact sk_id hs, rfl⟩
          unfold eR
          first | rw [if_pos b3] | rw [if_neg b3]
          unfold eR1
          rw [ifn_y b10]
          first | rw [if_pos b29] | rw [if_neg b29]
          rw [if_pos (by omega)]
      ·
        have g29 := sk_ge L T (de L T (sk L T ((sk L T a) + 1)))
        have l29 := sk_le (L := L) T (p := (de L T (sk L T ((sk L T a) + 1)))) (by omega)
        refine ⟨_, rfl, ?_⟩
        refine R_ifT (tg := 65) rfl rfl rfl ?_
        refine R_lo (nx := 67) rfl rfl rfl rfl ?_
        refine R_lo (nx := 68) rfl rfl rfl rfl ?_
        refine R_get (nx := 71) (w := (0, (sk L T ((sk L T a) + 1)))) rfl rfl rfl rfl ?_
        refine R_icmp (nx := 74) (tg := 92) rfl rfl rfl (mm_cnd_ne _ _) (fun z => absurd rfl z) (fun _ => ?_)
        refine R_lo (nx := 75) rfl rfl rfl rfl ?_
        refine R_get (nx := 78) (w := (0, (nv L T (sk L T ((sk L T a) + 1))))) rfl rfl rfl rfl ?_
        refine R_op (nx := 80) rfl rfl rfl ?_
        refine R_icmp (nx := 83) (tg := 92) rfl rfl rfl (mm_cnd_ge _ _) (fun c80 => ?_) (fun c80 => ?_)
        ·
          refine R_lo (nx := 93) rfl rfl rfl rfl ?_
          refine R_get (nx := 96) (w := (0, (nv L T (sk L T ((sk L T a) + 1))))) rfl rfl rfl rfl ?_
          refine R_lo (nx := 97) rfl rfl rfl rfl ?_
          refine R_icmp (nx := 100) (tg := 125) rfl rfl rfl (mm_cnd_ge _ _) (fun c97_1 => ?_) (fun c97_1 => ?_)
          ·
            refine R_lo (nx := 126) rfl rfl rfl rfl ?_
            refine R_lo (nx := 127) rfl rfl rfl rfl ?_
            refine R_get (nx := 130) (w := (0, (sk L T ((sk L T a) + 1)))) rfl rfl rfl rfl ?_
            refine R_put (nx := 133) (kk := 22) rfl rfl rfl rfl rfl ?_
            rw [rmS_22]
            refine R_op (nx := 134) rfl rfl rfl ?_
            refine R_ret rfl (fun _ _ => rfl) rfl rfl ?_
            refine Or.inr ⟨rfl, (sk L T ((sk L T a) + 1)), _, _, ?_, by omega, by first | exact sk_sk _ _ _ | exact sk_id hs, rfl⟩
            unfold eR
            first | rw [if_pos b3] | rw [if_neg b3]
            unfold eR1
            rw [ifn_y b10]
            first | rw [if_pos b29] | rw [if_neg b29]
            rw [if_neg (by omega)]
            first | rw [ifn_y b57] | skip
            unfold eF ifm
            by_cases hy : Xmay K x ((nv L T (sk L T ((sk L T a) + 1))))
            · first | (rw [if_pos hy, if_neg c109]; done) | exact absurd hy b119 | (exfalso; have h1 := hy.2.1.2; have h2 := hy.2.2.1; have h3 : ∀ i, i = x → Xd K i = Xd K x := (fun i e => by rw [e]); have h4 := h3 ((nv L T (sk L T ((sk L T a) + 1)))) (show (nv L T (sk L T ((sk L T a) + 1))) = x by omega); omega)
            · rw [if_neg hy]
          ·
            refine R_lo (nx := 101) rfl rfl rfl rfl ?_
            refine R_get (nx := 104) (w := (2, 86)) rfl rfl rfl rfl ?_
            refine R_lo (nx := 105) rfl rfl rfl rfl ?_
            refine R_get (nx := 108) (w := (0, (nv L T (sk L T ((sk L T a) + 1))))) rfl rfl rfl rfl ?_
            refine R_bald (nx := 109) rfl rfl (mm_el_ok 4 12 (by decide) rfl (by decide) (by omega) (by omega)) ?_
            rw [show ((rmS S (sk L T (de L T (sk L T ((sk L T a) + 1)))) (nv L T (sk L T ((sk L T a) + 1))) (sk L T ((sk L T a) + 1))) 86 (nv L T (sk L T ((sk L T a) + 1)))) = td (nv L T (sk L T ((sk L T a) + 1))) from (congrFun (rmS_ne (by decide)) _).trans (hB _ (by omega) (by omega))]
            refine R_if (nx := 112) (tg := 125) rfl rfl rfl (mm_cnd_ne _ _) (fun c109_1 => ?_) (fun c109_1 => ?_)
            ·
              refine R_lo (nx := 126) rfl rfl rfl rfl ?_
              refine R_lo (nx := 127) rfl rfl rfl rfl ?_
              refine R_get (nx := 130) (w := (0, (sk L T ((sk L T a) + 1)))) rfl rfl rfl rfl ?_
              refine R_put (nx := 133) (kk := 22) rfl rfl rfl rfl rfl ?_
              rw [rmS_22]
              refine R_op (nx := 134) rfl rfl rfl ?_
              refine R_ret rfl (fun _ _ => rfl) rfl rfl ?_
              refine Or.inr ⟨rfl, (sk L T ((sk L T a) + 1)), _, _, ?_, by omega, by first | exact sk_sk _ _ _ | exact sk_id hs, rfl⟩
              unfold eR
              first | rw [if_pos b3] | rw [if_neg b3]
              unfold eR1
              rw [ifn_y b10]
              first | rw [if_pos b29] | rw [if_neg b29]
              rw [if_neg (by omega)]
              first | rw [ifn_y b57] | skip
              unfold eF ifm
              by_cases hy : Xmay K x ((nv L T (sk L T ((sk L T a) + 1))))
              · first | (rw [if_pos hy, if_neg c109_1]; done) | exact absurd hy b119 | (exfalso; have h1 := hy.2.1.2; have h2 := hy.2.2.1; have h3 : ∀ i, i = x → Xd K i = Xd K x := (fun i e => by rw [e]); have h4 := h3 ((nv L T (sk L T ((sk L T a) + 1)))) (show (nv L T (sk L T ((sk L T a) + 1))) = x by omega); omega)
              · rw [if_neg hy]
            ·
              replace c109_1 := Classical.not_not.mp c109_1
              refine R_lo (nx := 113) rfl rfl rfl rfl ?_
              refine R_op (nx := 114) rfl rfl rfl ?_
              refine R_lo (nx := 115) rfl rfl rfl rfl ?_
              refine R_lo (nx := 116) rfl rfl rfl rfl ?_
              refine R_get (nx := 119) (w := (0, (nv L T (sk L T ((sk L T a) + 1))))) rfl rfl rfl rfl ?_
              refine R_call1 (nx := 122) (as := [(2, 71), (0, 4), (0, x), (0, (nv L T (sk L T ((sk L T a) + 1))))]) (rest := []) rfl rfl (fun _ _ => rfl) rfl rfl rfl rfl rfl rfl rfl rfl (Cl.mono (c_M_may (rmS S (sk L T (de L T (sk L T ((sk L T a) + 1)))) (nv L T (sk L T ((sk L T a) + 1))) (sk L T ((sk L T a) + 1))) 4 (by omega) K (show MRr (rmS S (sk L T (de L T (sk L T ((sk L T a) + 1)))) (nv L T (sk L T ((sk L T a) + 1))) (sk L T ((sk L T a) + 1))) 4 K from MRr.rm (by assumption)) (by assumption) x (nv L T (sk L T ((sk L T a) + 1))) (by omega) (by omega)) ?_)
              rintro _ _ (⟨rfl, b119_1, rfl⟩ | ⟨rfl, b119_1, rfl⟩)
              ·
                refine ⟨_, rfl, ?_⟩
                refine R_ifT (tg := 135) rfl rfl rfl ?_
                refine R_lo (nx := 136) rfl rfl rfl rfl ?_
                refine R_get (nx := 139) (w := (2, 86)) rfl rfl rfl rfl ?_
                refine R_lo (nx := 140) rfl rfl rfl rfl ?_
                refine R_get (nx := 143) (w := (0, (nv L T (sk L T ((sk L T a) + 1))))) rfl rfl rfl rfl ?_
                refine R_op (nx := 144) rfl rfl rfl ?_
                refine R_bast (nx := 145) rfl rfl (mm_el_ok 4 12 (by decide) rfl (by decide) (by omega) (by omega)) rfl ?_
                rw [rmS_up (by decide)]
                refine R_lo (nx := 146) rfl rfl rfl rfl ?_
                refine R_get (nx := 149) (w := (2, 75)) rfl rfl rfl rfl ?_
                refine R_op (nx := 152) rfl rfl rfl ?_
                refine R_op (nx := 154) rfl rfl rfl ?_
                refine R_lo (nx := 155) rfl rfl rfl rfl ?_
                refine R_imul (nx := 156) (z := (12 * x)) rfl rfl rfl ⟨by omega, by omega⟩ ?_
                refine R_iadd (nx := 157) (z := (576 + (12 * x))) rfl rfl rfl ⟨by omega, by omega⟩ ?_
                refine R_lo (nx := 158) rfl rfl rfl rfl ?_
                refine R_get (nx := 161) (w := (0, (nv L T (sk L T ((sk L T a) + 1))))) rfl rfl rfl rfl ?_
                refine R_iadd (nx := 162) (z := ((576 + (12 * x)) + (nv L T (sk L T ((sk L T a) + 1))))) rfl rfl rfl ⟨by omega, by omega⟩ ?_
                refine R_lo (nx := 163) rfl rfl rfl rfl ?_
                refine R_ifF (nx := 166) rfl rfl rfl ?_
                refine R_lo (nx := 167) rfl rfl rfl rfl ?_
                refine R_ineg (nx := 168) (z := (-1)) rfl rfl rfl ⟨by omega, by omega⟩ ?_
                refine R_op (nx := 171) (pc' := 172) rfl rfl rfl ?_
                refine R_iast (nx := 173) rfl rfl (mm_el_ok 1 720 (by decide) rfl (by decide) (by omega) (by omega)) ?_
                rw [rmS_up (by decide)]
                refine R_op (nx := 174) rfl rfl rfl ?_
                refine R_ret rfl (fun _ _ => rfl) rfl rfl ?_
                refine Or.inl ⟨rfl, (sk L T (de L T (sk L T ((sk L T a) + 1)))), (nv L T (sk L T ((sk L T a) + 1))), (-1), _, _, ?_, rfl⟩
                unfold eR
                first | rw [if_pos b3] | rw [if_neg b3]
                unfold eR1
                rw [ifn_y b10]
                first | rw [if_pos b29] | rw [if_neg b29]
                rw [if_neg (by omega)]
                first | rw [ifn_y b57] | skip
                unfold eF ifm
                rw [if_pos b119_1, if_pos c109_1]
                rfl
              ·
                refine ⟨_, rfl, ?_⟩
                refine R_ifF (nx := 125) rfl rfl rfl ?_
                refine R_lo (nx := 126) rfl rfl rfl rfl ?_
                refine R_lo (nx := 127) rfl rfl rfl rfl ?_
                refine R_get (nx := 130) (w := (0, (sk L T ((sk L T a) + 1)))) rfl rfl rfl rfl ?_
                refine R_put (nx := 133) (kk := 22) rfl rfl rfl rfl rfl ?_
                rw [rmS_22]
                refine R_op (nx := 134) rfl rfl rfl ?_
                refine R_ret rfl (fun _ _ => rfl) rfl rfl ?_
                refine Or.inr ⟨rfl, (sk L T ((sk L T a) + 1)), _, _, ?_, by omega, by first | exact sk_sk _ _ _ | exact sk_id hs, rfl⟩
                unfold eR
                first | rw [if_pos b3] | rw [if_neg b3]
                unfold eR1
                rw [ifn_y b10]
                first | rw [if_pos b29] | rw [if_neg b29]
                rw [if_neg (by omega)]
                first | rw [ifn_y b57] | skip
                unfold eF ifm
                by_cases hy : Xmay K x ((nv L T (sk L T ((sk L T a) + 1))))
                · first | (rw [if_pos hy, if_neg c109_1]; done) | exact absurd hy b119_1 | (exfalso; have h1 := hy.2.1.2; have h2 := hy.2.2.1; have h3 : ∀ i, i = x → Xd K i = Xd K x := (fun i e => by rw [e]); have h4 := h3 ((nv L T (sk L T ((sk L T a) + 1)))) (show (nv L T (sk L T ((sk L T a) + 1))) = x by omega); omega)
                · rw [if_neg hy]
        ·
          refine R_lo (nx := 84) rfl rfl rfl rfl ?_
          refine R_call1 (nx := 87) (as := [(2, 71)]) (rest := []) rfl rfl (fun _ _ => rfl) rfl rfl rfl rfl rfl rfl rfl rfl (Cl.mono (c_M_here S L T (by assumption) (sk L T (de L T (sk L T ((sk L T a) + 1)))) (nv L T (sk L T ((sk L T a) + 1))) (sk L T ((sk L T a) + 1)) (by omega) (sk L T (de L T (sk L T ((sk L T a) + 1)))) (sk_sk L T _) ) ?_)
          rintro _ _ ⟨rfl, rfl⟩
          have y84 := ct_m (S := S) (L := L) (T := T) (by assumption) (p := (sk L T (de L T (sk L T ((sk L T a) + 1))))) (by omega)
          refine ⟨_, rfl, ?_⟩
          refine R_if (nx := 90) (tg := 92) rfl rfl rfl (mm_cnd_ge _ _) (fun c87 => ?_) (fun c87 => ?_)
          ·
            refine R_lo (nx := 93) rfl rfl rfl rfl ?_
            refine R_get (nx := 96) (w := (0, (nv L T (sk L T ((sk L T a) + 1))))) rfl rfl rfl rfl ?_
            refine R_lo (nx := 97) rfl rfl rfl rfl ?_
            refine R_icmp (nx := 100) (tg := 125) rfl rfl rfl (mm_cnd_ge _ _) (fun c97_2 => ?_) (fun c97_2 => ?_)
            ·
              refine R_lo (nx := 126) rfl rfl rfl rfl ?_
              refine R_lo (nx := 127) rfl rfl rfl rfl ?_
              refine R_get (nx := 130) (w := (0, (sk L T ((sk L T a) + 1)))) rfl rfl rfl rfl ?_
              refine R_put (nx := 133) (kk := 22) rfl rfl rfl rfl rfl ?_
              rw [rmS_22]
              refine R_op (nx := 134) rfl rfl rfl ?_
              refine R_ret rfl (fun _ _ => rfl) rfl rfl ?_
              refine Or.inr ⟨rfl, (sk L T ((sk L T a) + 1)), _, _, ?_, by omega, by first | exact sk_sk _ _ _ | exact sk_id hs, rfl⟩
              unfold eR
              first | rw [if_pos b3] | rw [if_neg b3]
              unfold eR1
              rw [ifn_y b10]
              first | rw [if_pos b29] | rw [if_neg b29]
              rw [if_neg (by omega)]
              first | rw [ifn_y b57] | skip
              unfold eF ifm
              by_cases hy : Xmay K x ((nv L T (sk L T ((sk L T a) + 1))))
              · first | (rw [if_pos hy, if_neg c109]; done) | exact absurd hy b119 | (exfalso; have h1 := hy.2.1.2; have h2 := hy.2.2.1; have h3 : ∀ i, i = x → Xd K i = Xd K x := (fun i e => by rw [e]); have h4 := h3 ((nv L T (sk L T ((sk L T a) + 1)))) (show (nv L T (sk L T ((sk L T a) + 1))) = x by omega); omega)
              · rw [if_neg hy]
            ·
              refine R_lo (nx := 101) rfl rfl rfl rfl ?_
              refine R_get (nx := 104) (w := (2, 86)) rfl rfl rfl rfl ?_
              refine R_lo (nx := 105) rfl rfl rfl rfl ?_
              refine R_get (nx := 108) (w := (0, (nv L T (sk L T ((sk L T a) + 1))))) rfl rfl rfl rfl ?_
              refine R_bald (nx := 109) rfl rfl (mm_el_ok 4 12 (by decide) rfl (by decide) (by omega) (by omega)) ?_
              rw [show ((rmS S (sk L T (de L T (sk L T ((sk L T a) + 1)))) (nv L T (sk L T ((sk L T a) + 1))) (sk L T ((sk L T a) + 1))) 86 (nv L T (sk L T ((sk L T a) + 1)))) = td (nv L T (sk L T ((sk L T a) + 1))) from (congrFun (rmS_ne (by decide)) _).trans (hB _ (by omega) (by omega))]
              refine R_if (nx := 112) (tg := 125) rfl rfl rfl (mm_cnd_ne _ _) (fun c109_2 => ?_) (fun c109_2 => ?_)
              ·
                refine R_lo (nx := 126) rfl rfl rfl rfl ?_
                refine R_lo (nx := 127) rfl rfl rfl rfl ?_
                refine R_get (nx := 130) (w := (0, (sk L T ((sk L T a) + 1)))) rfl rfl rfl rfl ?_
                refine R_put (nx := 133) (kk := 22) rfl rfl rfl rfl rfl ?_
                rw [rmS_22]
                refine R_op (nx := 134) rfl rfl rfl ?_
                refine R_ret rfl (fun _ _ => rfl) rfl rfl ?_
                refine Or.inr ⟨rfl, (sk L T ((sk L T a) + 1)), _, _, ?_, by omega, by first | exact sk_sk _ _ _ | exact sk_id hs, rfl⟩
                unfold eR
                first | rw [if_pos b3] | rw [if_neg b3]
                unfold eR1
                rw [ifn_y b10]
                first | rw [if_pos b29] | rw [if_neg b29]
                rw [if_neg (by omega)]
                first | rw [ifn_y b57] | skip
                unfold eF ifm
                by_cases hy : Xmay K x ((nv L T (sk L T ((sk L T a) + 1))))
                · first | (rw [if_pos hy, if_neg c109_2]; done) | exact absurd hy b119 | (exfalso; have h1 := hy.2.1.2; have h2 := hy.2.2.1; have h3 : ∀ i, i = x → Xd K i = Xd K x := (fun i e => by rw [e]); have h4 := h3 ((nv L T (sk L T ((sk L T a) + 1)))) (show (nv L T (sk L T ((sk L T a) + 1))) = x by omega); omega)
                · rw [if_neg hy]
              ·
                replace c109_2 := Classical.not_not.mp c109_2
                refine R_lo (nx := 113) rfl rfl rfl rfl ?_
                refine R_op (nx := 114) rfl rfl rfl ?_
                refine R_lo (nx := 115) rfl rfl rfl rfl ?_
                refine R_lo (nx := 116) rfl rfl rfl rfl ?_
                refine R_get (nx := 119) (w := (0, (nv L T (sk L T ((sk L T a) + 1))))) rfl rfl rfl rfl ?_
                refine R_call1 (nx := 122) (as := [(2, 71), (0, 4), (0, x), (0, (nv L T (sk L T ((sk L T a) + 1))))]) (rest := []) rfl rfl (fun _ _ => rfl) rfl rfl rfl rfl rfl rfl rfl rfl (Cl.mono (c_M_may (rmS S (sk L T (de L T (sk L T ((sk L T a) + 1)))) (nv L T (sk L T ((sk L T a) + 1))) (sk L T ((sk L T a) + 1))) 4 (by omega) K (show MRr (rmS S (sk L T (de L T (sk L T ((sk L T a) + 1)))) (nv L T (sk L T ((sk L T a) + 1))) (sk L T ((sk L T a) + 1))) 4 K from MRr.rm (by assumption)) (by assumption) x (nv L T (sk L T ((sk L T a) + 1))) (by omega) (by omega)) ?_)
                rintro _ _ (⟨rfl, b119_2, rfl⟩ | ⟨rfl, b119_2, rfl⟩)
                ·
                  refine ⟨_, rfl, ?_⟩
                  refine R_ifT (tg := 135) rfl rfl rfl ?_
                  refine R_lo (nx := 136) rfl rfl rfl rfl ?_
                  refine R_get (nx := 139) (w := (2, 86)) rfl rfl rfl rfl ?_
                  refine R_lo (nx := 140) rfl rfl rfl rfl ?_
                  refine R_get (nx := 143) (w := (0, (nv L T (sk L T ((sk L T a) + 1))))) rfl rfl rfl rfl ?_
                  refine R_op (nx := 144) rfl rfl rfl ?_
                  refine R_bast (nx := 145) rfl rfl (mm_el_ok 4 12 (by decide) rfl (by decide) (by omega) (by omega)) rfl ?_
                  rw [rmS_up (by decide)]
                  refine R_lo (nx := 146) rfl rfl rfl rfl ?_
                  refine R_get (nx := 149) (w := (2, 75)) rfl rfl rfl rfl ?_
                  refine R_op (nx := 152) rfl rfl rfl ?_
                  refine R_op (nx := 154) rfl rfl rfl ?_
                  refine R_lo (nx := 155) rfl rfl rfl rfl ?_
                  refine R_imul (nx := 156) (z := (12 * x)) rfl rfl rfl ⟨by omega, by omega⟩ ?_
                  refine R_iadd (nx := 157) (z := (576 + (12 * x))) rfl rfl rfl ⟨by omega, by omega⟩ ?_
                  refine R_lo (nx := 158) rfl rfl rfl rfl ?_
                  refine R_get (nx := 161) (w := (0, (nv L T (sk L T ((sk L T a) + 1))))) rfl rfl rfl rfl ?_
                  refine R_iadd (nx := 162) (z := ((576 + (12 * x)) + (nv L T (sk L T ((sk L T a) + 1))))) rfl rfl rfl ⟨by omega, by omega⟩ ?_
                  refine R_lo (nx := 163) rfl rfl rfl rfl ?_
                  refine R_ifF (nx := 166) rfl rfl rfl ?_
                  refine R_lo (nx := 167) rfl rfl rfl rfl ?_
                  refine R_ineg (nx := 168) (z := (-1)) rfl rfl rfl ⟨by omega, by omega⟩ ?_
                  refine R_op (nx := 171) (pc' := 172) rfl rfl rfl ?_
                  refine R_iast (nx := 173) rfl rfl (mm_el_ok 1 720 (by decide) rfl (by decide) (by omega) (by omega)) ?_
                  rw [rmS_up (by decide)]
                  refine R_op (nx := 174) rfl rfl rfl ?_
                  refine R_ret rfl (fun _ _ => rfl) rfl rfl ?_
                  refine Or.inl ⟨rfl, (sk L T (de L T (sk L T ((sk L T a) + 1)))), (nv L T (sk L T ((sk L T a) + 1))), (-1), _, _, ?_, rfl⟩
                  unfold eR
                  first | rw [if_pos b3] | rw [if_neg b3]
                  unfold eR1
                  rw [ifn_y b10]
                  first | rw [if_pos b29] | rw [if_neg b29]
                  rw [if_neg (by omega)]
                  first | rw [ifn_y b57] | skip
                  unfold eF ifm
                  rw [if_pos b119_2, if_pos c109_2]
                  rfl
                ·
                  refine ⟨_, rfl, ?_⟩
                  refine R_ifF (nx := 125) rfl rfl rfl ?_
                  refine R_lo (nx := 126) rfl rfl rfl rfl ?_
                  refine R_lo (nx := 127) rfl rfl rfl rfl ?_
                  refine R_get (nx := 130) (w := (0, (sk L T ((sk L T a) + 1)))) rfl rfl rfl rfl ?_
                  refine R_put (nx := 133) (kk := 22) rfl rfl rfl rfl rfl ?_
                  rw [rmS_22]
                  refine R_op (nx := 134) rfl rfl rfl ?_
                  refine R_ret rfl (fun _ _ => rfl) rfl rfl ?_
                  refine Or.inr ⟨rfl, (sk L T ((sk L T a) + 1)), _, _, ?_, by omega, by first | exact sk_sk _ _ _ | exact sk_id hs, rfl⟩
                  unfold eR
                  first | rw [if_pos b3] | rw [if_neg b3]
                  unfold eR1
                  rw [ifn_y b10]
                  first | rw [if_pos b29] | rw [if_neg b29]
                  rw [if_neg (by omega)]
                  first | rw [ifn_y b57] | skip
                  unfold eF ifm
                  by_cases hy : Xmay K x ((nv L T (sk L T ((sk L T a) + 1))))
                  · first | (rw [if_pos hy, if_neg c109_2]; done) | exact absurd hy b119_2 | (exfalso; have h1 := hy.2.1.2; have h2 := hy.2.2.1; have h3 : ∀ i, i = x → Xd K i = Xd K x := (fun i e => by rw [e]); have h4 := h3 ((nv L T (sk L T ((sk L T a) + 1)))) (show (nv L T (sk L T ((sk L T a) + 1))) = x by omega); omega)
                  · rw [if_neg hy]
          ·
            refine R_op (nx := 91) rfl rfl rfl ?_
            refine R_ret rfl (fun _ _ => rfl) rfl rfl ?_
            refine Or.inr ⟨rfl, (sk L T (de L T (sk L T ((sk L T a) + 1)))), _, _, ?_, by omega, by first | exact sk_sk _ _ _ | exact sk_id hs, rfl⟩
            unfold eR
            first | rw [if_pos b3] | rw [if_neg b3]
            unfold eR1
            rw [ifn_y b10]
            first | rw [if_pos b29] | rw [if_neg b29]
            rw [if_pos (by omega)]
    ·
      have g10 := sk_ge L T ((sk L T a) + 1)
      have l10 := sk_le (L := L) T (p := ((sk L T a) + 1)) (by omega)
      refine ⟨_, rfl, ?_⟩
      refine R_ifF (nx := 16) rfl rfl rfl ?_
      refine R_op (nx := 17) rfl rfl rfl ?_
      refine R_ret rfl (fun _ _ => rfl) rfl rfl ?_
      refine Or.inr ⟨rfl, (sk L T ((sk L T a) + 1)), _, _, ?_, by omega, by first | exact sk_sk _ _ _ | exact sk_id hs, rfl⟩
      unfold eR
      first | rw [if_pos b3] | rw [if_neg b3]
      unfold eR1
      rw [ifn_n b10]
  ·
    have g3 := sk_ge L T a
    have l3 := sk_le (L := L) T (p := a) (by omega)
    refine ⟨_, rfl, ?_⟩
    refine R_lo (nx := 7) (ls' := [(2, 71), (0, x), (0, 0), (9, 0), (9, 0)]) rfl rfl rfl rfl ?_
    refine R_lo (nx := 8) rfl rfl rfl rfl ?_
    refine R_op (nx := 10) rfl rfl rfl ?_
    refine R_call1 (nx := 13) (as := [(2, 71), (0, 99)]) (rest := []) rfl rfl (fun _ _ => rfl) rfl rfl rfl rfl rfl rfl rfl rfl (Cl.mono (c_M_readsNumber S L T (by assumption) (sk L T a) n q (by omega) (sk L T a) (sk_sk L T _) 99 (by decide)) ?_)
    rintro _ _ (⟨rfl, b10_1, rfl⟩ | ⟨rfl, b10_1, n10_1, rfl⟩)
    ·
      have w10_1 := nOk_r b10_1 (by decide) (by omega)
      refine ⟨_, rfl, ?_⟩
      refine R_ifT (tg := 18) rfl rfl rfl ?_
      refine R_op (nx := 19) rfl rfl rfl ?_
      refine R_lo (nx := 20) (ls' := [(2, 71), (0, x), (0, 0), (0, 1), (9, 0)]) rfl rfl rfl rfl ?_
      refine R_lo (nx := 21) rfl rfl rfl rfl ?_
      refine R_get (nx := 24) (w := (0, (sk L T a))) rfl rfl rfl rfl ?_
      refine R_lo (nx := 26) (ls' := [(2, 71), (0, x), (0, 0), (0, 1), (0, (sk L T a))]) rfl rfl rfl rfl ?_
      refine R_lo (nx := 27) rfl rfl rfl rfl ?_
      refine R_op (nx := 29) rfl rfl rfl ?_
      refine R_call1 (nx := 32) (as := [(2, 71), (0, 42)]) (rest := []) rfl rfl (fun _ _ => rfl) rfl rfl rfl rfl rfl rfl rfl rfl (Cl.mono (c_M_takes S L T (by assumption) (de L T (sk L T a)) (nv L T (sk L T a)) (sk L T a) (by omega) (sk L T (de L T (sk L T a))) rfl 42) ?_)
      rintro _ _ (⟨rfl, b29_1, rfl⟩ | ⟨rfl, b29_1, rfl⟩)
      ·
        have g29_1 := sk_ge L T (de L T (sk L T a))
        have l29_1 := sk_le (L := L) T (p := (de L T (sk L T a))) (by omega)
        have tb29_1 := ct_lt b29_1 (by decide)
        refine ⟨_, rfl, ?_⟩
        refine R_ifF (nx := 35) rfl rfl rfl ?_
        refine R_lo (nx := 36) rfl rfl rfl rfl ?_
        refine R_get (nx := 39) (w := (0, (nv L T (sk L T a)))) rfl rfl rfl rfl ?_
        refine R_lo (nx := 40) (ls' := [(2, 71), (0, x), (0, 0), (0, (nv L T (sk L T a))), (0, (sk L T a))]) rfl rfl rfl rfl ?_
        refine R_lo (nx := 41) rfl rfl rfl rfl ?_
        refine R_op (nx := 43) rfl rfl rfl ?_
        refine R_icmp (nx := 46) (tg := 54) rfl rfl rfl (mm_cnd_le _ _) (fun c43_1 => ?_) (fun c43_1 => ?_)
        ·
          refine R_lo (nx := 55) rfl rfl rfl rfl ?_
          refine R_op (nx := 57) rfl rfl rfl ?_
          refine R_call1 (nx := 60) (as := [(2, 71), (0, 99)]) (rest := []) rfl rfl (fun _ _ => rfl) rfl rfl rfl rfl rfl rfl rfl rfl (Cl.mono (c_M_readsNumber S L T (by assumption) ((sk L T (de L T (sk L T a))) + 1) (nv L T (sk L T a)) (sk L T a) (by omega) (sk L T ((sk L T (de L T (sk L T a))) + 1)) rfl 99 (by decide)) ?_)
          rintro _ _ (⟨rfl, b57_1, rfl⟩ | ⟨rfl, b57_1, n57_1, rfl⟩)
          ·
            have g57_1 := sk_ge L T ((sk L T (de L T (sk L T a))) + 1)
            have l57_1 := sk_le (L := L) T (p := ((sk L T (de L T (sk L T a))) + 1)) (by omega)
            have w57_1 := nOk_r b57_1 (by decide) (by omega)
            refine ⟨_, rfl, ?_⟩
            refine R_ifT (tg := 65) rfl rfl rfl ?_
            refine R_lo (nx := 67) rfl rfl rfl rfl ?_
            refine R_lo (nx := 68) rfl rfl rfl rfl ?_
            refine R_get (nx := 71) (w := (0, (sk L T ((sk L T (de L T (sk L T a))) + 1)))) rfl rfl rfl rfl ?_
            refine R_icmp (nx := 74) (tg := 92) rfl rfl rfl (mm_cnd_ne _ _) (fun _ => ?_) (fun z => absurd (show (sk L T a) ≠ (sk L T ((sk L T (de L T (sk L T a))) + 1)) by omega) z)
            refine R_lo (nx := 93) rfl rfl rfl rfl ?_
            refine R_get (nx := 96) (w := (0, (nv L T (sk L T ((sk L T (de L T (sk L T a))) + 1))))) rfl rfl rfl rfl ?_
            refine R_lo (nx := 97) rfl rfl rfl rfl ?_
            refine R_icmp (nx := 100) (tg := 125) rfl rfl rfl (mm_cnd_ge _ _) (fun c97_3 => ?_) (fun c97_3 => ?_)
            ·
              refine R_lo (nx := 126) rfl rfl rfl rfl ?_
              refine R_lo (nx := 127) rfl rfl rfl rfl ?_
              refine R_get (nx := 130) (w := (0, (sk L T ((sk L T (de L T (sk L T a))) + 1)))) rfl rfl rfl rfl ?_
              refine R_put (nx := 133) (kk := 22) rfl rfl rfl rfl rfl ?_
              rw [rmS_22]
              refine R_op (nx := 134) rfl rfl rfl ?_
              refine R_ret rfl (fun _ _ => rfl) rfl rfl ?_
              refine Or.inr ⟨rfl, (sk L T ((sk L T (de L T (sk L T a))) + 1)), _, _, ?_, by omega, by first | exact sk_sk _ _ _ | exact sk_id hs, rfl⟩
              unfold eR
              first | rw [if_pos b3] | rw [if_neg b3]
              unfold eR1
              rw [ifn_y b10_1]
              first | rw [if_pos b29_1] | rw [if_neg b29_1]
              rw [if_neg (by omega)]
              first | rw [ifn_y b57_1] | skip
              unfold eF ifm
              by_cases hy : Xmay K x ((nv L T (sk L T ((sk L T (de L T (sk L T a))) + 1))))
              · first | (rw [if_pos hy, if_neg c109]; done) | exact absurd hy b119 | (exfalso; have h1 := hy.2.1.2; have h2 := hy.2.2.1; have h3 : ∀ i, i = x → Xd K i = Xd K x := (fun i e => by rw [e]); have h4 := h3 ((nv L T (sk L T ((sk L T (de L T (sk L T a))) + 1)))) (show (nv L T (sk L T ((sk L T (de L T (sk L T a))) + 1))) = x by omega); omega)
              · rw [if_neg hy]
            ·
              refine R_lo (nx := 101) rfl rfl rfl rfl ?_
              refine R_get (nx := 104) (w := (2, 86)) rfl rfl rfl rfl ?_
              refine R_lo (nx := 105) rfl rfl rfl rfl ?_
              refine R_get (nx := 108) (w := (0, (nv L T (sk L T ((sk L T (de L T (sk L T a))) + 1))))) rfl rfl rfl rfl ?_
              refine R_bald (nx := 109) rfl rfl (mm_el_ok 4 12 (by decide) rfl (by decide) (by omega) (by omega)) ?_
              rw [show ((rmS S (de L T (sk L T ((sk L T (de L T (sk L T a))) + 1))) (nv L T (sk L T ((sk L T (de L T (sk L T a))) + 1))) (sk L T ((sk L T (de L T (sk L T a))) + 1))) 86 (nv L T (sk L T ((sk L T (de L T (sk L T a))) + 1)))) = td (nv L T (sk L T ((sk L T (de L T (sk L T a))) + 1))) from (congrFun (rmS_ne (by decide)) _).trans (hB _ (by omega) (by omega))]
              refine R_if (nx := 112) (tg := 125) rfl rfl rfl (mm_cnd_ne _ _) (fun c109_3 => ?_) (fun c109_3 => ?_)
              ·
                refine R_lo (nx := 126) rfl rfl rfl rfl ?_
                refine R_lo (nx := 127) rfl rfl rfl rfl ?_
                refine R_get (nx := 130) (w := (0, (sk L T ((sk L T (de L T (sk L T a))) + 1)))) rfl rfl rfl rfl ?_
                refine R_put (nx := 133) (kk := 22) rfl rfl rfl rfl rfl ?_
                rw [rmS_22]
                refine R_op (nx := 134) rfl rfl rfl ?_
                refine R_ret rfl (fun _ _ => rfl) rfl rfl ?_
                refine Or.inr ⟨rfl, (sk L T ((sk L T (de L T (sk L T a))) + 1)), _, _, ?_, by omega, by first | exact sk_sk _ _ _ | exact sk_id hs, rfl⟩
                unfold eR
                first | rw [if_pos b3] | rw [if_neg b3]
                unfold eR1
                rw [ifn_y b10_1]
                first | rw [if_pos b29_1] | rw [if_neg b29_1]
                rw [if_neg (by omega)]
                first | rw [ifn_y b57_1] | skip
                unfold eF ifm
                by_cases hy : Xmay K x ((nv L T (sk L T ((sk L T (de L T (sk L T a))) + 1))))
                · first | (rw [if_pos hy, if_neg c109_3]; done) | exact absurd hy b119 | (exfalso; have h1 := hy.2.1.2; have h2 := hy.2.2.1; have h3 : ∀ i, i = x → Xd K i = Xd K x := (fun i e => by rw [e]); have h4 := h3 ((nv L T (sk L T ((sk L T (de L T (sk L T a))) + 1)))) (show (nv L T (sk L T ((sk L T (de L T (sk L T a))) + 1))) = x by omega); omega)
                · rw [if_neg hy]
              ·
                replace c109_3 := Classical.not_not.mp c109_3
                refine R_lo (nx := 113) rfl rfl rfl rfl ?_
                refine R_op (nx := 114) rfl rfl rfl ?_
                refine R_lo (nx := 115) rfl rfl rfl rfl ?_
                refine R_lo (nx := 116) rfl rfl rfl rfl ?_
                refine R_get (nx := 119) (w := (0, (nv L T (sk L T ((sk L T (de L T (sk L T a))) + 1))))) rfl rfl rfl rfl ?_
                refine R_call1 (nx := 122) (as := [(2, 71), (0, 4), (0, x), (0, (nv L T (sk L T ((sk L T (de L T (sk L T a))) + 1))))]) (rest := []) rfl rfl (fun _ _ => rfl) rfl rfl rfl rfl rfl rfl rfl rfl (Cl.mono (c_M_may (rmS S (de L T (sk L T ((sk L T (de L T (sk L T a))) + 1))) (nv L T (sk L T ((sk L T (de L T (sk L T a))) + 1))) (sk L T ((sk L T (de L T (sk L T a))) + 1))) 4 (by omega) K (show MRr (rmS S (de L T (sk L T ((sk L T (de L T (sk L T a))) + 1))) (nv L T (sk L T ((sk L T (de L T (sk L T a))) + 1))) (sk L T ((sk L T (de L T (sk L T a))) + 1))) 4 K from MRr.rm (by assumption)) (by assumption) x (nv L T (sk L T ((sk L T (de L T (sk L T a))) + 1))) (by omega) (by omega)) ?_)
                rintro _ _ (⟨rfl, b119_3, rfl⟩ | ⟨rfl, b119_3, rfl⟩)
                ·
                  refine ⟨_, rfl, ?_⟩
                  refine R_ifT (tg := 135) rfl rfl rfl ?_
                  refine R_lo (nx := 136) rfl rfl rfl rfl ?_
                  refine R_get (nx := 139) (w := (2, 86)) rfl rfl rfl rfl ?_
                  refine R_lo (nx := 140) rfl rfl rfl rfl ?_
                  refine R_get (nx := 143) (w := (0, (nv L T (sk L T ((sk L T (de L T (sk L T a))) + 1))))) rfl rfl rfl rfl ?_
                  refine R_op (nx := 144) rfl rfl rfl ?_
                  refine R_bast (nx := 145) rfl rfl (mm_el_ok 4 12 (by decide) rfl (by decide) (by omega) (by omega)) rfl ?_
                  rw [rmS_up (by decide)]
                  refine R_lo (nx := 146) rfl rfl rfl rfl ?_
                  refine R_get (nx := 149) (w := (2, 75)) rfl rfl rfl rfl ?_
                  refine R_op (nx := 152) rfl rfl rfl ?_
                  refine R_op (nx := 154) rfl rfl rfl ?_
                  refine R_lo (nx := 155) rfl rfl rfl rfl ?_
                  refine R_imul (nx := 156) (z := (12 * x)) rfl rfl rfl ⟨by omega, by omega⟩ ?_
                  refine R_iadd (nx := 157) (z := (576 + (12 * x))) rfl rfl rfl ⟨by omega, by omega⟩ ?_
                  refine R_lo (nx := 158) rfl rfl rfl rfl ?_
                  refine R_get (nx := 161) (w := (0, (nv L T (sk L T ((sk L T (de L T (sk L T a))) + 1))))) rfl rfl rfl rfl ?_
                  refine R_iadd (nx := 162) (z := ((576 + (12 * x)) + (nv L T (sk L T ((sk L T (de L T (sk L T a))) + 1))))) rfl rfl rfl ⟨by omega, by omega⟩ ?_
                  refine R_lo (nx := 163) rfl rfl rfl rfl ?_
                  refine R_ifT (tg := 171) rfl rfl rfl ?_
                  refine R_lo (nx := 172) rfl rfl rfl rfl ?_
                  refine R_iast (nx := 173) rfl rfl (mm_el_ok 1 720 (by decide) rfl (by decide) (by omega) (by omega)) ?_
                  rw [rmS_up (by decide)]
                  refine R_op (nx := 174) rfl rfl rfl ?_
                  refine R_ret rfl (fun _ _ => rfl) rfl rfl ?_
                  refine Or.inl ⟨rfl, (de L T (sk L T ((sk L T (de L T (sk L T a))) + 1))), (nv L T (sk L T ((sk L T (de L T (sk L T a))) + 1))), (nv L T (sk L T a)), _, _, ?_, rfl⟩
                  unfold eR
                  first | rw [if_pos b3] | rw [if_neg b3]
                  unfold eR1
                  rw [ifn_y b10_1]
                  first | rw [if_pos b29_1] | rw [if_neg b29_1]
                  rw [if_neg (by omega)]
                  first | rw [ifn_y b57_1] | skip
                  unfold eF ifm
                  rw [if_pos b119_3, if_pos c109_3]
                  rfl
                ·
                  refine ⟨_, rfl, ?_⟩
                  refine R_ifF (nx := 125) rfl rfl rfl ?_
                  refine R_lo (nx := 126) rfl rfl rfl rfl ?_
                  refine R_lo (nx := 127) rfl rfl rfl rfl ?_
                  refine R_get (nx := 130) (w := (0, (sk L T ((sk L T (de L T (sk L T a))) + 1)))) rfl rfl rfl rfl ?_
                  refine R_put (nx := 133) (kk := 22) rfl rfl rfl rfl rfl ?_
                  rw [rmS_22]
                  refine R_op (nx := 134) rfl rfl rfl ?_
                  refine R_ret rfl (fun _ _ => rfl) rfl rfl ?_
                  refine Or.inr ⟨rfl, (sk L T ((sk L T (de L T (sk L T a))) + 1)), _, _, ?_, by omega, by first | exact sk_sk _ _ _ | exact sk_id hs, rfl⟩
                  unfold eR
                  first | rw [if_pos b3] | rw [if_neg b3]
                  unfold eR1
                  rw [ifn_y b10_1]
                  first | rw [if_pos b29_1] | rw [if_neg b29_1]
                  rw [if_neg (by omega)]
                  first | rw [ifn_y b57_1] | skip
                  unfold eF ifm
                  by_cases hy : Xmay K x ((nv L T (sk L T ((sk L T (de L T (sk L T a))) + 1))))
                  · first | (rw [if_pos hy, if_neg c109_3]; done) | exact absurd hy b119_3 | (exfalso; have h1 := hy.2.1.2; have h2 := hy.2.2.1; have h3 : ∀ i, i = x → Xd K i = Xd K x := (fun i e => by rw [e]); have h4 := h3 ((nv L T (sk L T ((sk L T (de L T (sk L T a))) + 1)))) (show (nv L T (sk L T ((sk L T (de L T (sk L T a))) + 1))) = x by omega); omega)
                  · rw [if_neg hy]
          ·
            have g57_1 := sk_ge L T ((sk L T (de L T (sk L T a))) + 1)
            have l57_1 := sk_le (L := L) T (p := ((sk L T (de L T (sk L T a))) + 1)) (by omega)
            refine ⟨_, rfl, ?_⟩
            refine R_ifF (nx := 63) rfl rfl rfl ?_
            refine R_op (nx := 64) rfl rfl rfl ?_
            refine R_ret rfl (fun _ _ => rfl) rfl rfl ?_
            refine Or.inr ⟨rfl, (sk L T ((sk L T (de L T (sk L T a))) + 1)), _, _, ?_, by omega, by first | exact sk_sk _ _ _ | exact sk_id hs, rfl⟩
            unfold eR
            first | rw [if_pos b3] | rw [if_neg b3]
            unfold eR1
            rw [ifn_y b10_1]
            first | rw [if_pos b29_1] | rw [if_neg b29_1]
            rw [if_neg (by omega)]
            rw [ifn_n b57_1]
        ·
          refine R_lo (nx := 47) rfl rfl rfl rfl ?_
          refine R_lo (nx := 49) rfl rfl rfl rfl ?_
          refine R_put (nx := 52) (kk := 22) rfl rfl rfl rfl rfl ?_
          rw [rmS_22]
          refine R_op (nx := 53) rfl rfl rfl ?_
          refine R_ret rfl (fun _ _ => rfl) rfl rfl ?_
          refine Or.inr ⟨rfl, (sk L T a), _, _, ?_, by omega, by first | exact sk_sk _ _ _ | exact sk_id hs, rfl⟩
          unfold eR
          first | rw [if_pos b3] | rw [if_neg b3]
          unfold eR1
          rw [ifn_y b10_1]
          first | rw [if_pos b29_1] | rw [if_neg b29_1]
          rw [if_pos (by omega)]
      ·
        have g29_1 := sk_ge L T (de L T (sk L T a))
        have l29_1 := sk_le (L := L) T (p := (de L T (sk L T a))) (by omega)
        refine ⟨_, rfl, ?_⟩
        refine R_ifT (tg := 65) rfl rfl rfl ?_
        refine R_lo (nx := 67) rfl rfl rfl rfl ?_
        refine R_lo (nx := 68) rfl rfl rfl rfl ?_
        refine R_get (nx := 71) (w := (0, (sk L T a))) rfl rfl rfl rfl ?_
        refine R_icmp (nx := 74) (tg := 92) rfl rfl rfl (mm_cnd_ne _ _) (fun z => absurd rfl z) (fun _ => ?_)
        refine R_lo (nx := 75) rfl rfl rfl rfl ?_
        refine R_get (nx := 78) (w := (0, (nv L T (sk L T a)))) rfl rfl rfl rfl ?_
        refine R_op (nx := 80) rfl rfl rfl ?_
        refine R_icmp (nx := 83) (tg := 92) rfl rfl rfl (mm_cnd_ge _ _) (fun c80_1 => ?_) (fun c80_1 => ?_)
        ·
          refine R_lo (nx := 93) rfl rfl rfl rfl ?_
          refine R_get (nx := 96) (w := (0, (nv L T (sk L T a)))) rfl rfl rfl rfl ?_
          refine R_lo (nx := 97) rfl rfl rfl rfl ?_
          refine R_icmp (nx := 100) (tg := 125) rfl rfl rfl (mm_cnd_ge _ _) (fun c97_4 => ?_) (fun c97_4 => ?_)
          ·
            refine R_lo (nx := 126) rfl rfl rfl rfl ?_
            refine R_lo (nx := 127) rfl rfl rfl rfl ?_
            refine R_get (nx := 130) (w := (0, (sk L T a))) rfl rfl rfl rfl ?_
            refine R_put (nx := 133) (kk := 22) rfl rfl rfl rfl rfl ?_
            rw [rmS_22]
            refine R_op (nx := 134) rfl rfl rfl ?_
            refine R_ret rfl (fun _ _ => rfl) rfl rfl ?_
            refine Or.inr ⟨rfl, (sk L T a), _, _, ?_, by omega, by first | exact sk_sk _ _ _ | exact sk_id hs, rfl⟩
            unfold eR
            first | rw [if_pos b3] | rw [if_neg b3]
            unfold eR1
            rw [ifn_y b10_1]
            first | rw [if_pos b29_1] | rw [if_neg b29_1]
            rw [if_neg (by omega)]
            first | rw [ifn_y b57] | skip
            unfold eF ifm
            by_cases hy : Xmay K x ((nv L T (sk L T a)))
            · first | (rw [if_pos hy, if_neg c109]; done) | exact absurd hy b119 | (exfalso; have h1 := hy.2.1.2; have h2 := hy.2.2.1; have h3 : ∀ i, i = x → Xd K i = Xd K x := (fun i e => by rw [e]); have h4 := h3 ((nv L T (sk L T a))) (show (nv L T (sk L T a)) = x by omega); omega)
            · rw [if_neg hy]
          ·
            refine R_lo (nx := 101) rfl rfl rfl rfl ?_
            refine R_get (nx := 104) (w := (2, 86)) rfl rfl rfl rfl ?_
            refine R_lo (nx := 105) rfl rfl rfl rfl ?_
            refine R_get (nx := 108) (w := (0, (nv L T (sk L T a)))) rfl rfl rfl rfl ?_
            refine R_bald (nx := 109) rfl rfl (mm_el_ok 4 12 (by decide) rfl (by decide) (by omega) (by omega)) ?_
            rw [show ((rmS S (sk L T (de L T (sk L T a))) (nv L T (sk L T a)) (sk L T a)) 86 (nv L T (sk L T a))) = td (nv L T (sk L T a)) from (congrFun (rmS_ne (by decide)) _).trans (hB _ (by omega) (by omega))]
            refine R_if (nx := 112) (tg := 125) rfl rfl rfl (mm_cnd_ne _ _) (fun c109_4 => ?_) (fun c109_4 => ?_)
            ·
              refine R_lo (nx := 126) rfl rfl rfl rfl ?_
              refine R_lo (nx := 127) rfl rfl rfl rfl ?_
              refine R_get (nx := 130) (w := (0, (sk L T a))) rfl rfl rfl rfl ?_
              refine R_put (nx := 133) (kk := 22) rfl rfl rfl rfl rfl ?_
              rw [rmS_22]
              refine R_op (nx := 134) rfl rfl rfl ?_
              refine R_ret rfl (fun _ _ => rfl) rfl rfl ?_
              refine Or.inr ⟨rfl, (sk L T a), _, _, ?_, by omega, by first | exact sk_sk _ _ _ | exact sk_id hs, rfl⟩
              unfold eR
              first | rw [if_pos b3] | rw [if_neg b3]
              unfold eR1
              rw [ifn_y b10_1]
              first | rw [if_pos b29_1] | rw [if_neg b29_1]
              rw [if_neg (by omega)]
              first | rw [ifn_y b57] | skip
              unfold eF ifm
              by_cases hy : Xmay K x ((nv L T (sk L T a)))
              · first | (rw [if_pos hy, if_neg c109_4]; done) | exact absurd hy b119 | (exfalso; have h1 := hy.2.1.2; have h2 := hy.2.2.1; have h3 : ∀ i, i = x → Xd K i = Xd K x := (fun i e => by rw [e]); have h4 := h3 ((nv L T (sk L T a))) (show (nv L T (sk L T a)) = x by omega); omega)
              · rw [if_neg hy]
            ·
              replace c109_4 := Classical.not_not.mp c109_4
              refine R_lo (nx := 113) rfl rfl rfl rfl ?_
              refine R_op (nx := 114) rfl rfl rfl ?_
              refine R_lo (nx := 115) rfl rfl rfl rfl ?_
              refine R_lo (nx := 116) rfl rfl rfl rfl ?_
              refine R_get (nx := 119) (w := (0, (nv L T (sk L T a)))) rfl rfl rfl rfl ?_
              refine R_call1 (nx := 122) (as := [(2, 71), (0, 4), (0, x), (0, (nv L T (sk L T a)))]) (rest := []) rfl rfl (fun _ _ => rfl) rfl rfl rfl rfl rfl rfl rfl rfl (Cl.mono (c_M_may (rmS S (sk L T (de L T (sk L T a))) (nv L T (sk L T a)) (sk L T a)) 4 (by omega) K (show MRr (rmS S (sk L T (de L T (sk L T a))) (nv L T (sk L T a)) (sk L T a)) 4 K from MRr.rm (by assumption)) (by assumption) x (nv L T (sk L T a)) (by omega) (by omega)) ?_)
              rintro _ _ (⟨rfl, b119_4, rfl⟩ | ⟨rfl, b119_4, rfl⟩)
              ·
                refine ⟨_, rfl, ?_⟩
                refine R_ifT (tg := 135) rfl rfl rfl ?_
                refine R_lo (nx := 136) rfl rfl rfl rfl ?_
                refine R_get (nx := 139) (w := (2, 86)) rfl rfl rfl rfl ?_
                refine R_lo (nx := 140) rfl rfl rfl rfl ?_
                refine R_get (nx := 143) (w := (0, (nv L T (sk L T a)))) rfl rfl rfl rfl ?_
                refine R_op (nx := 144) rfl rfl rfl ?_
                refine R_bast (nx := 145) rfl rfl (mm_el_ok 4 12 (by decide) rfl (by decide) (by omega) (by omega)) rfl ?_
                rw [rmS_up (by decide)]
                refine R_lo (nx := 146) rfl rfl rfl rfl ?_
                refine R_get (nx := 149) (w := (2, 75)) rfl rfl rfl rfl ?_
                refine R_op (nx := 152) rfl rfl rfl ?_
                refine R_op (nx := 154) rfl rfl rfl ?_
                refine R_lo (nx := 155) rfl rfl rfl rfl ?_
                refine R_imul (nx := 156) (z := (12 * x)) rfl rfl rfl ⟨by omega, by omega⟩ ?_
                refine R_iadd (nx := 157) (z := (576 + (12 * x))) rfl rfl rfl ⟨by omega, by omega⟩ ?_
                refine R_lo (nx := 158) rfl rfl rfl rfl ?_
                refine R_get (nx := 161) (w := (0, (nv L T (sk L T a)))) rfl rfl rfl rfl ?_
                refine R_iadd (nx := 162) (z := ((576 + (12 * x)) + (nv L T (sk L T a)))) rfl rfl rfl ⟨by omega, by omega⟩ ?_
                refine R_lo (nx := 163) rfl rfl rfl rfl ?_
                refine R_ifT (tg := 171) rfl rfl rfl ?_
                refine R_lo (nx := 172) rfl rfl rfl rfl ?_
                refine R_iast (nx := 173) rfl rfl (mm_el_ok 1 720 (by decide) rfl (by decide) (by omega) (by omega)) ?_
                rw [rmS_up (by decide)]
                refine R_op (nx := 174) rfl rfl rfl ?_
                refine R_ret rfl (fun _ _ => rfl) rfl rfl ?_
                refine Or.inl ⟨rfl, (sk L T (de L T (sk L T a))), (nv L T (sk L T a)), 1, _, _, ?_, rfl⟩
                unfold eR
                first | rw [if_pos b3] | rw [if_neg b3]
                unfold eR1
                rw [ifn_y b10_1]
                first | rw [if_pos b29_1] | rw [if_neg b29_1]
                rw [if_neg (by omega)]
                first | rw [ifn_y b57] | skip
                unfold eF ifm
                rw [if_pos b119_4, if_pos c109_4]
                rfl
              ·
                refine ⟨_, rfl, ?_⟩
                refine R_ifF (nx := 125) rfl rfl rfl ?_
                refine R_lo (nx := 126) rfl rfl rfl rfl ?_
                refine R_lo (nx := 127) rfl rfl rfl rfl ?_
                refine R_get (nx := 130) (w := (0, (sk L T a))) rfl rfl rfl rfl ?_
                refine R_put (nx := 133) (kk := 22) rfl rfl rfl rfl rfl ?_
                rw [rmS_22]
                refine R_op (nx := 134) rfl rfl rfl ?_
                refine R_ret rfl (fun _ _ => rfl) rfl rfl ?_
                refine Or.inr ⟨rfl, (sk L T a), _, _, ?_, by omega, by first | exact sk_sk _ _ _ | exact sk_id hs, rfl⟩
                unfold eR
                first | rw [if_pos b3] | rw [if_neg b3]
                unfold eR1
                rw [ifn_y b10_1]
                first | rw [if_pos b29_1] | rw [if_neg b29_1]
                rw [if_neg (by omega)]
                first | rw [ifn_y b57] | skip
                unfold eF ifm
                by_cases hy : Xmay K x ((nv L T (sk L T a)))
                · first | (rw [if_pos hy, if_neg c109_4]; done) | exact absurd hy b119_4 | (exfalso; have h1 := hy.2.1.2; have h2 := hy.2.2.1; have h3 : ∀ i, i = x → Xd K i = Xd K x := (fun i e => by rw [e]); have h4 := h3 ((nv L T (sk L T a))) (show (nv L T (sk L T a)) = x by omega); omega)
                · rw [if_neg hy]
        ·
          refine R_lo (nx := 84) rfl rfl rfl rfl ?_
          refine R_call1 (nx := 87) (as := [(2, 71)]) (rest := []) rfl rfl (fun _ _ => rfl) rfl rfl rfl rfl rfl rfl rfl rfl (Cl.mono (c_M_here S L T (by assumption) (sk L T (de L T (sk L T a))) (nv L T (sk L T a)) (sk L T a) (by omega) (sk L T (de L T (sk L T a))) (sk_sk L T _) ) ?_)
          rintro _ _ ⟨rfl, rfl⟩
          have y84_1 := ct_m (S := S) (L := L) (T := T) (by assumption) (p := (sk L T (de L T (sk L T a)))) (by omega)
          refine ⟨_, rfl, ?_⟩
          refine R_if (nx := 90) (tg := 92) rfl rfl rfl (mm_cnd_ge _ _) (fun c87_1 => ?_) (fun c87_1 => ?_)
          ·
            refine R_lo (nx := 93) rfl rfl rfl rfl ?_
            refine R_get (nx := 96) (w := (0, (nv L T (sk L T a)))) rfl rfl rfl rfl ?_
            refine R_lo (nx := 97) rfl rfl rfl rfl ?_
            refine R_icmp (nx := 100) (tg := 125) rfl rfl rfl (mm_cnd_ge _ _) (fun c97_5 => ?_) (fun c97_5 => ?_)
            ·
              refine R_lo (nx := 126) rfl rfl rfl rfl ?_
              refine R_lo (nx := 127) rfl rfl rfl rfl ?_
              refine R_get (nx := 130) (w := (0, (sk L T a))) rfl rfl rfl rfl ?_
              refine R_put (nx := 133) (kk := 22) rfl rfl rfl rfl rfl ?_
              rw [rmS_22]
              refine R_op (nx := 134) rfl rfl rfl ?_
              refine R_ret rfl (fun _ _ => rfl) rfl rfl ?_
              refine Or.inr ⟨rfl, (sk L T a), _, _, ?_, by omega, by first | exact sk_sk _ _ _ | exact sk_id hs, rfl⟩
              unfold eR
              first | rw [if_pos b3] | rw [if_neg b3]
              unfold eR1
              rw [ifn_y b10_1]
              first | rw [if_pos b29_1] | rw [if_neg b29_1]
              rw [if_neg (by omega)]
              first | rw [ifn_y b57] | skip
              unfold eF ifm
              by_cases hy : Xmay K x ((nv L T (sk L T a)))
              · first | (rw [if_pos hy, if_neg c109]; done) | exact absurd hy b119 | (exfalso; have h1 := hy.2.1.2; have h2 := hy.2.2.1; have h3 : ∀ i, i = x → Xd K i = Xd K x := (fun i e => by rw [e]); have h4 := h3 ((nv L T (sk L T a))) (show (nv L T (sk L T a)) = x by omega); omega)
              · rw [if_neg hy]
            ·
              refine R_lo (nx := 101) rfl rfl rfl rfl ?_
              refine R_get (nx := 104) (w := (2, 86)) rfl rfl rfl rfl ?_
              refine R_lo (nx := 105) rfl rfl rfl rfl ?_
              refine R_get (nx := 108) (w := (0, (nv L T (sk L T a)))) rfl rfl rfl rfl ?_
              refine R_bald (nx := 109) rfl rfl (mm_el_ok 4 12 (by decide) rfl (by decide) (by omega) (by omega)) ?_
              rw [show ((rmS S (sk L T (de L T (sk L T a))) (nv L T (sk L T a)) (sk L T a)) 86 (nv L T (sk L T a))) = td (nv L T (sk L T a)) from (congrFun (rmS_ne (by decide)) _).trans (hB _ (by omega) (by omega))]
              refine R_if (nx := 112) (tg := 125) rfl rfl rfl (mm_cnd_ne _ _) (fun c109_5 => ?_) (fun c109_5 => ?_)
              ·
                refine R_lo (nx := 126) rfl rfl rfl rfl ?_
                refine R_lo (nx := 127) rfl rfl rfl rfl ?_
                refine R_get (nx := 130) (w := (0, (sk L T a))) rfl rfl rfl rfl ?_
                refine R_put (nx := 133) (kk := 22) rfl rfl rfl rfl rfl ?_
                rw [rmS_22]
                refine R_op (nx := 134) rfl rfl rfl ?_
                refine R_ret rfl (fun _ _ => rfl) rfl rfl ?_
                refine Or.inr ⟨rfl, (sk L T a), _, _, ?_, by omega, by first | exact sk_sk _ _ _ | exact sk_id hs, rfl⟩
                unfold eR
                first | rw [if_pos b3] | rw [if_neg b3]
                unfold eR1
                rw [ifn_y b10_1]
                first | rw [if_pos b29_1] | rw [if_neg b29_1]
                rw [if_neg (by omega)]
                first | rw [ifn_y b57] | skip
                unfold eF ifm
                by_cases hy : Xmay K x ((nv L T (sk L T a)))
                · first | (rw [if_pos hy, if_neg c109_5]; done) | exact absurd hy b119 | (exfalso; have h1 := hy.2.1.2; have h2 := hy.2.2.1; have h3 : ∀ i, i = x → Xd K i = Xd K x := (fun i e => by rw [e]); have h4 := h3 ((nv L T (sk L T a))) (show (nv L T (sk L T a)) = x by omega); omega)
                · rw [if_neg hy]
              ·
                replace c109_5 := Classical.not_not.mp c109_5
                refine R_lo (nx := 113) rfl rfl rfl rfl ?_
                refine R_op (nx := 114) rfl rfl rfl ?_
                refine R_lo (nx := 115) rfl rfl rfl rfl ?_
                refine R_lo (nx := 116) rfl rfl rfl rfl ?_
                refine R_get (nx := 119) (w := (0, (nv L T (sk L T a)))) rfl rfl rfl rfl ?_
                refine R_call1 (nx := 122) (as := [(2, 71), (0, 4), (0, x), (0, (nv L T (sk L T a)))]) (rest := []) rfl rfl (fun _ _ => rfl) rfl rfl rfl rfl rfl rfl rfl rfl (Cl.mono (c_M_may (rmS S (sk L T (de L T (sk L T a))) (nv L T (sk L T a)) (sk L T a)) 4 (by omega) K (show MRr (rmS S (sk L T (de L T (sk L T a))) (nv L T (sk L T a)) (sk L T a)) 4 K from MRr.rm (by assumption)) (by assumption) x (nv L T (sk L T a)) (by omega) (by omega)) ?_)
                rintro _ _ (⟨rfl, b119_5, rfl⟩ | ⟨rfl, b119_5, rfl⟩)
                ·
                  refine ⟨_, rfl, ?_⟩
                  refine R_ifT (tg := 135) rfl rfl rfl ?_
                  refine R_lo (nx := 136) rfl rfl rfl rfl ?_
                  refine R_get (nx := 139) (w := (2, 86)) rfl rfl rfl rfl ?_
                  refine R_lo (nx := 140) rfl rfl rfl rfl ?_
                  refine R_get (nx := 143) (w := (0, (nv L T (sk L T a)))) rfl rfl rfl rfl ?_
                  refine R_op (nx := 144) rfl rfl rfl ?_
                  refine R_bast (nx := 145) rfl rfl (mm_el_ok 4 12 (by decide) rfl (by decide) (by omega) (by omega)) rfl ?_
                  rw [rmS_up (by decide)]
                  refine R_lo (nx := 146) rfl rfl rfl rfl ?_
                  refine R_get (nx := 149) (w := (2, 75)) rfl rfl rfl rfl ?_
                  refine R_op (nx := 152) rfl rfl rfl ?_
                  refine R_op (nx := 154) rfl rfl rfl ?_
                  refine R_lo (nx := 155) rfl rfl rfl rfl ?_
                  refine R_imul (nx := 156) (z := (12 * x)) rfl rfl rfl ⟨by omega, by omega⟩ ?_
                  refine R_iadd (nx := 157) (z := (576 + (12 * x))) rfl rfl rfl ⟨by omega, by omega⟩ ?_
                  refine R_lo (nx := 158) rfl rfl rfl rfl ?_
                  refine R_get (nx := 161) (w := (0, (nv L T (sk L T a)))) rfl rfl rfl rfl ?_
                  refine R_iadd (nx := 162) (z := ((576 + (12 * x)) + (nv L T (sk L T a)))) rfl rfl rfl ⟨by omega, by omega⟩ ?_
                  refine R_lo (nx := 163) rfl rfl rfl rfl ?_
                  refine R_ifT (tg := 171) rfl rfl rfl ?_
                  refine R_lo (nx := 172) rfl rfl rfl rfl ?_
                  refine R_iast (nx := 173) rfl rfl (mm_el_ok 1 720 (by decide) rfl (by decide) (by omega) (by omega)) ?_
                  rw [rmS_up (by decide)]
                  refine R_op (nx := 174) rfl rfl rfl ?_
                  refine R_ret rfl (fun _ _ => rfl) rfl rfl ?_
                  refine Or.inl ⟨rfl, (sk L T (de L T (sk L T a))), (nv L T (sk L T a)), 1, _, _, ?_, rfl⟩
                  unfold eR
                  first | rw [if_pos b3] | rw [if_neg b3]
                  unfold eR1
                  rw [ifn_y b10_1]
                  first | rw [if_pos b29_1] | rw [if_neg b29_1]
                  rw [if_neg (by omega)]
                  first | rw [ifn_y b57] | skip
                  unfold eF ifm
                  rw [if_pos b119_5, if_pos c109_5]
                  rfl
                ·
                  refine ⟨_, rfl, ?_⟩
                  refine R_ifF (nx := 125) rfl rfl rfl ?_
                  refine R_lo (nx := 126) rfl rfl rfl rfl ?_
                  refine R_lo (nx := 127) rfl rfl rfl rfl ?_
                  refine R_get (nx := 130) (w := (0, (sk L T a))) rfl rfl rfl rfl ?_
                  refine R_put (nx := 133) (kk := 22) rfl rfl rfl rfl rfl ?_
                  rw [rmS_22]
                  refine R_op (nx := 134) rfl rfl rfl ?_
                  refine R_ret rfl (fun _ _ => rfl) rfl rfl ?_
                  refine Or.inr ⟨rfl, (sk L T a), _, _, ?_, by omega, by first | exact sk_sk _ _ _ | exact sk_id hs, rfl⟩
                  unfold eR
                  first | rw [if_pos b3] | rw [if_neg b3]
                  unfold eR1
                  rw [ifn_y b10_1]
                  first | rw [if_pos b29_1] | rw [if_neg b29_1]
                  rw [if_neg (by omega)]
                  first | rw [ifn_y b57] | skip
                  unfold eF ifm
                  by_cases hy : Xmay K x ((nv L T (sk L T a)))
                  · first | (rw [if_pos hy, if_neg c109_5]; done) | exact absurd hy b119_5 | (exfalso; have h1 := hy.2.1.2; have h2 := hy.2.2.1; have h3 : ∀ i, i = x → Xd K i = Xd K x := (fun i e => by rw [e]); have h4 := h3 ((nv L T (sk L T a))) (show (nv L T (sk L T a)) = x by omega); omega)
                  · rw [if_neg hy]
          ·
            refine R_op (nx := 91) rfl rfl rfl ?_
            refine R_ret rfl (fun _ _ => rfl) rfl rfl ?_
            refine Or.inr ⟨rfl, (sk L T (de L T (sk L T a))), _, _, ?_, by omega, by first | exact sk_sk _ _ _ | exact sk_id hs, rfl⟩
            unfold eR
            first | rw [if_pos b3] | rw [if_neg b3]
            unfold eR1
            rw [ifn_y b10_1]
            first | rw [if_pos b29_1] | rw [if_neg b29_1]
            rw [if_pos (by omega)]
    ·
      refine ⟨_, rfl, ?_⟩
      refine R_ifF (nx := 16) rfl rfl rfl ?_
      refine R_op (nx := 17) rfl rfl rfl ?_
      refine R_ret rfl (fun _ _ => rfl) rfl rfl ?_
      refine Or.inr ⟨rfl, (sk L T a), _, _, ?_, by omega, by first | exact sk_sk _ _ _ | exact sk_id hs, rfl⟩
      unfold eR
      first | rw [if_pos b3] | rw [if_neg b3]
      unfold eR1
      rw [ifn_n b10_1]

theorem MRr.add4 {S : mm_S} {K : CX} (h : MRr S 4 K) (hn : Xn K < 12) (d l o : Int) : MRr (mm_up (mm_up (mm_up S 73 (12 * 4 + Xn K) d) 74 (24 * 4 + Xn K) l) 74 (12 * (2 * 4 + 1) + Xn K) o) 4 (Xadd K d l o) := by
  have hnr := h.nr
  refine ⟨Xadd_Nz h.1 d l o hn, fun x p q => ?_, fun x y p q r t => ?_⟩
  · rw [Xadd_n] at q
    rw [Xadd_d, Xadd_0, Xadd_1, mm_unq (by decide), mm_unq (by decide)]
    by_cases ex : x = Xn K
    · rw [if_pos ex, if_pos ex, if_pos ex, ex]
      refine ⟨mm_ua, ?_, mm_ua⟩
      rw [mm_uk (by omega), show 12 * (2 * 4) + Xn K = 24 * 4 + Xn K by omega]; exact mm_ua
    · rw [if_neg ex, if_neg ex, if_neg ex, mm_uk (by omega), mm_uk (by omega), mm_uk (by omega), mm_unq (by decide), mm_uk (by omega), mm_uk (by omega), mm_unq (by decide)]
      exact h.2.1 x p (by omega)
  · rw [mm_unq (by decide), mm_unq (by decide), mm_unq (by decide), Xadd_e]; exact h.e ⟨p, q⟩ ⟨r, t⟩

set_option maxRecDepth 20000 in
set_option maxHeartbeats 4000000 in
theorem c_M_readsCell (S : mm_S) (L : Int) (T : Int → Int) (hT : TPm S L T) (a0 s n q : Int) (ha : 0 ≤ a0 ∧ a0 ≤ L) (hs : sk L T a0 = s) (hne : ct L T (sk L T a0) ≠ -1) (K : CX) (hM : MR S 4 K) (hV : Vx K) : Cl 103 [(2, 71)] (rmS S s n q) (fun v S' => (v = some (0, 1) ∧ ∃ K1 a1 n1 q1 S1, rrG L T K a0 = rrG L T K1 a1 ∧ (s < a1 ∧ a1 ≤ L) ∧ S' = rmS S1 a1 n1 q1 ∧ MR S1 4 K1 ∧ Vx K1 ∧ Oth S S1 4 ∧ (∀ b, ¬ (72 ≤ b ∧ b ≤ 75) → b ≠ 86 → S1 b = S b)) ∨ (v = some (0, 0) ∧ ∃ z K1 n1 q1 S1, rrG L T K a0 = (0, z, K1) ∧ (s ≤ z ∧ z ≤ L) ∧ sk L T z = z ∧ S' = rmS S1 z n1 q1 ∧ Oth S S1 4 ∧ (∀ b, ¬ (72 ≤ b ∧ b ≤ 75) → b ≠ 86 → S1 b = S b))) := by
  refine ⟨Nat.le_of_ble_eq_true rfl, ?_⟩
  show Rn k_M_readsCell 0 [(2, 71), (9, 0), (9, 0), (9, 0), (9, 0), (9, 0)] [] (rmS S s n q) _
  have hL := hT.1
  have hsg := sk_ge L T a0
  have hsl := sk_le (L := L) T ha.2
  rw [hs] at hsg hsl
  have hnr := hV.1.1
  refine R_lo (nx := 1) rfl rfl rfl rfl ?_
  refine R_get (nx := 4) (w := (2, 72)) rfl rfl rfl rfl ?_
  refine R_op (nx := 5) rfl rfl rfl ?_
  refine R_iald (nx := 6) rfl rfl rfl ?_
  rw [show ((rmS S s n q) 72 4) = Xn K from (MR.rm hM).n]
  refine R_lo (nx := 7) (ls' := [(2, 71), (0, (Xn K)), (9, 0), (9, 0), (9, 0), (9, 0)]) rfl rfl rfl rfl ?_
  refine R_lo (nx := 8) rfl rfl rfl rfl ?_
  refine R_op (nx := 10) rfl rfl rfl ?_
  refine R_icmp (nx := 13) (tg := 21) rfl rfl rfl (mm_cnd_eq _ _) (fun c10 => ?_) (fun c10 => ?_)
  ·
    refine R_op (nx := 22) rfl rfl rfl ?_
    refine R_ret rfl (fun _ _ => rfl) rfl rfl ?_
    exact Or.inr ⟨rfl, s, K, _, _, S, by have z := rr_full hV ha.2 hne (by omega); rw [hs] at z; exact z, by omega, sk_id hs, rfl, Oth.rf S 4, fun _ _ _ => rfl⟩
  ·
    have hK12 : Xn K < 12 := by omega
    have tail : ∀ (q0 d0 l0 o0 n1 q1 : Int), hR L T (sk L T a0) = (1, q0, d0, l0, o0) → Rn k_M_readsCell 102 [(2, 71), (0, (Xn K)), (0, d0), (0, l0), (0, o0), (9, 0)] [] (rmS (mm_up (mm_up (mm_up S 73 (12 * 4 + (Xn K)) d0) 74 (24 * 4 + (Xn K)) l0) 74 (12 * (2 * 4 + 1) + (Xn K)) o0) q0 n1 q1) (fun v S' => (v = some (0, 1) ∧ ∃ K1 a1 n1 q1 S1, rrG L T K a0 = rrG L T K1 a1 ∧ (s < a1 ∧ a1 ≤ L) ∧ S' = rmS S1 a1 n1 q1 ∧ MR S1 4 K1 ∧ Vx K1 ∧ Oth S S1 4 ∧ (∀ b, ¬ (72 ≤ b ∧ b ≤ 75) → b ≠ 86 → S1 b = S b)) ∨ (v = some (0, 0) ∧ ∃ z K1 n1 q1 S1, rrG L T K a0 = (0, z, K1) ∧ (s ≤ z ∧ z ≤ L) ∧ sk L T z = z ∧ S' = rmS S1 z n1 q1 ∧ Oth S S1 4 ∧ (∀ b, ¬ (72 ≤ b ∧ b ≤ 75) → b ≠ 86 → S1 b = S b))) := by
      intro q0 d0 l0 o0 n1 q1 e99
      have a99 := hR_ok (by omega) e99
      rw [hs] at a99
      have v99 := Xadd_Vx hV hK12 a99.2.1 a99.2.2.1 a99.2.2.2
      have m99 := MRr.add4 hM.1 hK12 d0 l0 o0
      have o99 : Oth S (mm_up (mm_up (mm_up S 73 (12 * 4 + (Xn K)) d0) 74 (24 * 4 + (Xn K)) l0) 74 (12 * (2 * 4 + 1) + (Xn K)) o0) 4 := (Oth.rf S 4).sets _ _ _ (by omega) (by omega)
      have f99 : ∀ b, ¬ (73 ≤ b ∧ b ≤ 74) → (mm_up (mm_up (mm_up S 73 (12 * 4 + (Xn K)) d0) 74 (24 * 4 + (Xn K)) l0) 74 (12 * (2 * 4 + 1) + (Xn K)) o0) b = S b := fun b hb => by rw [mm_unq (by omega), mm_unq (by omega), mm_unq (by omega)]
      refine R_op (nx := 103) rfl rfl rfl ?_
      refine R_lo (nx := 105) (ls' := [(2, 71), (0, (Xn K)), (0, d0), (0, l0), (0, o0), (0, 0)]) rfl rfl rfl rfl ?_
      have L105 : ∀ (f105 : Nat) (S1 : mm_S) (k : Int), ((12 : Int) - k).toNat < f105 → (0 ≤ k ∧ k ≤ 12) → (∀ j, 0 ≤ j → j < k → S1 86 j = 0) → (∀ b, b ≠ 86 → S1 b = (mm_up (mm_up (mm_up S 73 (12 * 4 + (Xn K)) d0) 74 (24 * 4 + (Xn K)) l0) 74 (12 * (2 * 4 + 1) + (Xn K)) o0) b) → Rn k_M_readsCell 105 [(2, 71), (0, (Xn K)), (0, d0), (0, l0), (0, o0), (0, k)] [] (rmS S1 q0 n1 q1) (fun v S' => (v = some (0, 1) ∧ ∃ K1 a1 n1 q1 S1, rrG L T K a0 = rrG L T K1 a1 ∧ (s < a1 ∧ a1 ≤ L) ∧ S' = rmS S1 a1 n1 q1 ∧ MR S1 4 K1 ∧ Vx K1 ∧ Oth S S1 4 ∧ (∀ b, ¬ (72 ≤ b ∧ b ≤ 75) → b ≠ 86 → S1 b = S b)) ∨ (v = some (0, 0) ∧ ∃ z K1 n1 q1 S1, rrG L T K a0 = (0, z, K1) ∧ (s ≤ z ∧ z ≤ L) ∧ sk L T z = z ∧ S' = rmS S1 z n1 q1 ∧ Oth S S1 4 ∧ (∀ b, ¬ (72 ≤ b ∧ b ≤ 75) → b ≠ 86 → S1 b = S b))) := by
        intro f105
        induction f105 with
        | zero => intro S1 k hm105; exact absurd hm105 (Nat.not_lt_zero _)
        | succ f105 ih105 =>
          intro S1 k hm105 hk hc hf
          refine R_lo (nx := 107) rfl rfl rfl rfl ?_
          refine R_op (nx := 109) rfl rfl rfl ?_
          refine R_icmp (nx := 112) (tg := 126) rfl rfl rfl (mm_cnd_ge _ _) (fun c109 => ?_) (fun c109 => ?_)
          ·
            have hT1 : TPm S1 L T := hT.fr (by rw [hf 71 (by decide), f99 71 (by decide)]) (by rw [hf 85 (by decide), f99 85 (by decide)])
            refine R_lo (nx := 127) rfl rfl rfl rfl ?_
            refine R_op (nx := 129) rfl rfl rfl ?_
            refine R_call1 (nx := 132) (as := [(2, 71), (0, 58)]) (rest := []) rfl rfl (fun _ _ => rfl) rfl rfl rfl rfl rfl rfl rfl rfl (Cl.mono (c_M_takes S1 L T (by assumption) q0 n1 q1 (by omega) (sk L T q0) rfl 58) ?_)
            rintro _ _ (⟨rfl, b129, rfl⟩ | ⟨rfl, b129, rfl⟩)
            ·
              have g129 := sk_ge L T q0
              have l129 := sk_le (L := L) T (p := q0) (by omega)
              have tb129 := ct_lt b129 (by decide)
              refine ⟨_, rfl, ?_⟩
              refine R_lo (nx := 134) (ls' := [(2, 71), (0, (Xn K)), (0, d0), (0, l0), (0, o0), (0, 1)]) rfl rfl rfl rfl ?_
              have L134 : ∀ (f134 : Nat) (S2 : mm_S) (K1 : CX) (td : Int → Int) (a1 : Int) (n2 : Int) (q2 : Int) (more : Int), (L - a1).toNat < f134 → (MRr S2 4 K1) → (Vx K1) → (Xn K1 = Xn K + 1) → (more = 1 → TM S2 td) → (∀ j, S2 72 j = S 72 j) → (Oth S S2 4) → ((∀ b, ¬ (72 ≤ b ∧ b ≤ 75) → b ≠ 86 → S2 b = S b)) → (s < a1 ∧ a1 ≤ L) → (more = 0 ∨ more = 1) → (more = 1 → cl1 L T K q0 d0 l0 o0 = es L T K1 (Xn K) td a1) → (more = 0 → cl1 L T K q0 d0 l0 o0 = (1, a1, K1)) → Rn k_M_readsCell 134 [(2, 71), (0, (Xn K)), (0, d0), (0, l0), (0, o0), (0, more)] [] (rmS S2 a1 n2 q2) (fun v S' => (v = some (0, 1) ∧ ∃ K1 a1 n1 q1 S1, rrG L T K a0 = rrG L T K1 a1 ∧ (s < a1 ∧ a1 ≤ L) ∧ S' = rmS S1 a1 n1 q1 ∧ MR S1 4 K1 ∧ Vx K1 ∧ Oth S S1 4 ∧ (∀ b, ¬ (72 ≤ b ∧ b ≤ 75) → b ≠ 86 → S1 b = S b)) ∨ (v = some (0, 0) ∧ ∃ z K1 n1 q1 S1, rrG L T K a0 = (0, z, K1) ∧ (s ≤ z ∧ z ≤ L) ∧ sk L T z = z ∧ S' = rmS S1 z n1 q1 ∧ Oth S S1 4 ∧ (∀ b, ¬ (72 ≤ b ∧ b ≤ 75) → b ≠ 86 → S1 b = S b))) := by
                intro f134
                induction f134 with
                | zero => intro S2 K1 td a1 n2 q2 more hm134; exact absurd hm134 (Nat.not_lt_zero _)
                | succ f134 ih134 =>
                  intro S2 K1 td a1 n2 q2 more hm134 hM2 hV2 hx2 hB2 h72 hO2 hF2 hp2 hm hH1 hH0
                  refine R_lo (nx := 136) rfl rfl rfl rfl ?_
                  refine R_if (nx := 139) (tg := 160) rfl rfl rfl (mm_cnd_eq _ _) (fun c136 => ?_) (fun c136 => ?_)
                  ·
                    have hT2 : TPm S2 L T := hT.fr (by rw [hF2 71 (by decide) (by decide)]) (hF2 85 (by decide) (by decide))
                    have hT3 : TPm (mm_up S2 72 4 (Xn K + 1)) L T := hT2.fr (by rw [mm_unq (by decide)]) (mm_unq (by decide))
                    refine R_lo (nx := 161) rfl rfl rfl rfl ?_
                    refine R_get (nx := 164) (w := (2, 72)) rfl rfl rfl rfl ?_
                    refine R_op (nx := 165) rfl rfl rfl ?_
                    refine R_op (nx := 166) rfl rfl rfl ?_
                    refine R_iald (nx := 167) rfl rfl rfl ?_
                    rw [show ((rmS S2 a1 n2 q2) 72 4) = Xn K from (congrFun (rmS_ne (by decide)) _).trans ((h72 _).trans hM.n)]
                    refine R_op (nx := 168) rfl rfl rfl ?_
                    refine R_iadd (nx := 169) (z := ((Xn K) + 1)) rfl rfl rfl ⟨by omega, by omega⟩ ?_
                    refine R_iast (nx := 170) rfl rfl rfl ?_
                    rw [rmS_up (by decide)]
                    refine R_lo (nx := 171) rfl rfl rfl rfl ?_
                    refine R_op (nx := 173) rfl rfl rfl ?_
                    refine R_call1 (nx := 176) (as := [(2, 71), (0, 59)]) (rest := []) rfl rfl (fun _ _ => rfl) rfl rfl rfl rfl rfl rfl rfl rfl (Cl.mono (c_M_takes (mm_up S2 72 4 ((Xn K) + 1)) L T (by assumption) a1 n2 q2 (by omega) (sk L T a1) rfl 59) ?_)
                    rintro _ _ (⟨rfl, b173, rfl⟩ | ⟨rfl, b173, rfl⟩)
                    ·
                      have g173 := sk_ge L T a1
                      have l173 := sk_le (L := L) T (p := a1) (by omega)
                      have tb173 := ct_lt b173 (by decide)
                      refine ⟨_, rfl, ?_⟩
                      refine R_ret rfl (fun _ _ => rfl) rfl rfl ?_
                      exact Or.inl ⟨rfl, K1, ((sk L T a1) + 1), _, _, (mm_up S2 72 4 ((Xn K) + 1)), rr_ct hV ha.2 hne (by omega) e99 (hH0 c136) rfl b173, by omega, rfl, ⟨hM2.up (by omega), by rw [mm_ua]; omega⟩, hV2, hO2.u72 _, fun b h1 h2 => by rw [mm_unq (by omega)]; exact hF2 b h1 h2⟩
                    ·
                      have g173 := sk_ge L T a1
                      have l173 := sk_le (L := L) T (p := a1) (by omega)
                      refine ⟨_, rfl, ?_⟩
                      refine R_ret rfl (fun _ _ => rfl) rfl rfl ?_
                      exact Or.inr ⟨rfl, (sk L T a1), K1, _, _, (mm_up S2 72 4 ((Xn K) + 1)), rr_cn hV ha.2 hne (by omega) e99 (hH0 c136) rfl b173, by omega, sk_sk _ _ _, rfl, hO2.u72 _, fun b h1 h2 => by rw [mm_unq (by omega)]; exact hF2 b h1 h2⟩
                  ·
                    have hmore : more = 1 := by omega
                    have hB3 := hB2 hmore
                    have hT2 : TPm S2 L T := hT.fr (by rw [hF2 71 (by decide) (by decide)]) (hF2 85 (by decide) (by decide))
                    refine R_lo (nx := 140) rfl rfl rfl rfl ?_
                    refine R_lo (nx := 141) rfl rfl rfl rfl ?_
                    refine R_call1 (nx := 144) (as := [(2, 71), (0, (Xn K))]) (rest := []) rfl rfl (fun _ _ => rfl) rfl rfl rfl rfl rfl rfl rfl rfl (Cl.mono (c_M_readsEntry S2 L T (by assumption) a1 n2 q2 (by omega) K1 (Xn K) (by assumption) (by assumption) (by assumption) td (by assumption)) ?_)
                    rintro _ _ (⟨rfl, x141, m141, u141, n141, q141, e141, rfl⟩ | ⟨rfl, z141, n141, q141, e141, r141, i141, rfl⟩)
                    ·
                      have a141 := eR_ok (by omega) e141
                      have hnr2 := hV2.1.1
                      have hT4 : TPm (mm_up (mm_up S2 86 m141 1) 75 (576 + 12 * (Xn K) + m141) u141) L T := hT2.fr (by rw [mm_unq (by decide), mm_unq (by decide)]) (by rw [mm_unq (by decide), mm_unq (by decide)])
                      refine ⟨_, rfl, ?_⟩
                      refine R_ifT (tg := 149) rfl rfl rfl ?_
                      refine R_lo (nx := 150) rfl rfl rfl rfl ?_
                      refine R_op (nx := 152) rfl rfl rfl ?_
                      refine R_call1 (nx := 155) (as := [(2, 71), (0, 44)]) (rest := []) rfl rfl (fun _ _ => rfl) rfl rfl rfl rfl rfl rfl rfl rfl (Cl.mono (c_M_takes (mm_up (mm_up S2 86 m141 1) 75 (576 + 12 * (Xn K) + m141) u141) L T (by assumption) x141 n141 q141 (by omega) (sk L T x141) rfl 44) ?_)
                      rintro _ _ (⟨rfl, b152, rfl⟩ | ⟨rfl, b152, rfl⟩)
                      ·
                        have g152 := sk_ge L T x141
                        have l152 := sk_le (L := L) T (p := x141) (by omega)
                        have tb152 := ct_lt b152 (by decide)
                        refine ⟨_, rfl, ?_⟩
                        refine R_lo (nx := 157) (ls' := [(2, 71), (0, (Xn K)), (0, d0), (0, l0), (0, o0), (0, 1)]) rfl rfl rfl rfl ?_
                        refine R_op (nx := 160) (pc' := 134) rfl rfl rfl ?_
                        refine Rn.weak (ls' := [(2, 71), (0, (Xn K)), (0, d0), (0, l0), (0, o0), (0, 1)]) ⟨Or.inl rfl, ⟨Or.inl rfl, ⟨Or.inl rfl, ⟨Or.inl rfl, ⟨Or.inl rfl, ⟨Or.inl rfl, trivial⟩⟩⟩⟩⟩⟩ ?_
                        refine ih134 ((mm_up (mm_up S2 86 m141 1) 75 (576 + 12 * (Xn K) + m141) u141)) ((Xset K1 (Xn K) m141 u141)) ((ups td m141)) (((sk L T x141) + 1)) (n141) (q141) (1) ?_ ?_ ?_ ?_ ?_ ?_ ?_ ?_ ?_ ?_ ?_ ?_
                        · omega
                        · exact MRr.set4 hM2 a141.2.2.2.1.1 a141.2.2.2.1.2.1
                        · exact Xset_Vx hV2 a141.2.2.2.2 (Or.inr a141.2.2.2.1)
                        · exact hx2
                        · intro _; exact (hB2 hmore).up _ _
                        · intro j; rw [mm_unq (by decide), mm_unq (by decide)]; exact h72 j
                        · exact (hO2.u86 _ _).u75 _ (by have := a141.2.2.2.1.2.1; omega)
                        · intro b h1 h2; rw [mm_unq (by omega), mm_unq h2]; exact hF2 b h1 h2
                        · omega
                        · omega
                        · first | (intro q; exact absurd q (by decide)) | (intro _; rw [hH1 hmore]; exact es_c (by omega) e141 b152)
                        · first | (intro q; exact absurd q (by decide)) | (intro _; rw [hH1 hmore]; exact es_d (by omega) e141 b152)
                      ·
                        have g152 := sk_ge L T x141
                        have l152 := sk_le (L := L) T (p := x141) (by omega)
                        refine ⟨_, rfl, ?_⟩
                        refine R_lo (nx := 157) (ls' := [(2, 71), (0, (Xn K)), (0, d0), (0, l0), (0, o0), (0, 0)]) rfl rfl rfl rfl ?_
                        refine R_op (nx := 160) (pc' := 134) rfl rfl rfl ?_
                        refine Rn.weak (ls' := [(2, 71), (0, (Xn K)), (0, d0), (0, l0), (0, o0), (0, 0)]) ⟨Or.inl rfl, ⟨Or.inl rfl, ⟨Or.inl rfl, ⟨Or.inl rfl, ⟨Or.inl rfl, ⟨Or.inl rfl, trivial⟩⟩⟩⟩⟩⟩ ?_
                        refine ih134 ((mm_up (mm_up S2 86 m141 1) 75 (576 + 12 * (Xn K) + m141) u141)) ((Xset K1 (Xn K) m141 u141)) ((ups td m141)) ((sk L T x141)) (n141) (q141) (0) ?_ ?_ ?_ ?_ ?_ ?_ ?_ ?_ ?_ ?_ ?_ ?_
                        · omega
                        · exact MRr.set4 hM2 a141.2.2.2.1.1 a141.2.2.2.1.2.1
                        · exact Xset_Vx hV2 a141.2.2.2.2 (Or.inr a141.2.2.2.1)
                        · exact hx2
                        · intro _; exact (hB2 hmore).up _ _
                        · intro j; rw [mm_unq (by decide), mm_unq (by decide)]; exact h72 j
                        · exact (hO2.u86 _ _).u75 _ (by have := a141.2.2.2.1.2.1; omega)
                        · intro b h1 h2; rw [mm_unq (by omega), mm_unq h2]; exact hF2 b h1 h2
                        · omega
                        · omega
                        · first | (intro q; exact absurd q (by decide)) | (intro _; rw [hH1 hmore]; exact es_c (by omega) e141 b152)
                        · first | (intro q; exact absurd q (by decide)) | (intro _; rw [hH1 hmore]; exact es_d (by omega) e141 b152)
                    ·
                      refine ⟨_, rfl, ?_⟩
                      refine R_ifF (nx := 147) rfl rfl rfl ?_
                      refine R_op (nx := 148) rfl rfl rfl ?_
                      refine R_ret rfl (fun _ _ => rfl) rfl rfl ?_
                      exact Or.inr ⟨rfl, z141, K1, _, _, S2, rr_cf hV ha.2 hne (by omega) e99 ((hH1 hmore).trans (es_f (by omega) e141)), by omega, i141, rfl, hO2, hF2⟩
              refine Rn.weak (ls' := [(2, 71), (0, (Xn K)), (0, d0), (0, l0), (0, o0), (0, 1)]) ⟨Or.inl rfl, ⟨Or.inl rfl, ⟨Or.inl rfl, ⟨Or.inl rfl, ⟨Or.inl rfl, ⟨Or.inl rfl, trivial⟩⟩⟩⟩⟩⟩ ?_
              refine L134 ((L - (((sk L T q0) + 1))).toNat + 1) (S1) ((Xadd K d0 l0 o0)) ((fun _ => 0)) (((sk L T q0) + 1)) (n1) (q1) (1) (Nat.lt_succ_self _) ?_ ?_ ?_ ?_ ?_ ?_ ?_ ?_ ?_ ?_ ?_
              · exact m99.fr (hf 73 (by decide)) (hf 74 (by decide)) (hf 75 (by decide))
              · exact v99
              · rfl
              · intro _ j p q; exact hc j p (by omega)
              · intro j; rw [hf 72 (by decide), f99 72 (by decide)]
              · intro c2 K2 p q r u; exact (o99 c2 K2 p q r u).fr fun e p q => hf e (by omega)
              · intro b h1 h2; rw [hf b h2, f99 b (by omega)]
              · omega
              · omega
              · first | (intro q; exact absurd q (by decide)) | (intro _; exact if_pos b129)
              · first | (intro q; exact absurd q (by decide)) | (intro _; exact if_neg b129)
            ·
              have g129 := sk_ge L T q0
              have l129 := sk_le (L := L) T (p := q0) (by omega)
              refine ⟨_, rfl, ?_⟩
              refine R_lo (nx := 134) (ls' := [(2, 71), (0, (Xn K)), (0, d0), (0, l0), (0, o0), (0, 0)]) rfl rfl rfl rfl ?_
              have L134 : ∀ (f134 : Nat) (S2 : mm_S) (K1 : CX) (td : Int → Int) (a1 : Int) (n2 : Int) (q2 : Int) (more : Int), (L - a1).toNat < f134 → (MRr S2 4 K1) → (Vx K1) → (Xn K1 = Xn K + 1) → (more = 1 → TM S2 td) → (∀ j, S2 72 j = S 72 j) → (Oth S S2 4) → ((∀ b, ¬ (72 ≤ b ∧ b ≤ 75) → b ≠ 86 → S2 b = S b)) → (s < a1 ∧ a1 ≤ L) → (more = 0 ∨ more = 1) → (more = 1 → cl1 L T K q0 d0 l0 o0 = es L T K1 (Xn K) td a1) → (more = 0 → cl1 L T K q0 d0 l0 o0 = (1, a1, K1)) → Rn k_M_readsCell 134 [(2, 71), (0, (Xn K)), (0, d0), (0, l0), (0, o0), (0, more)] [] (rmS S2 a1 n2 q2) (fun v S' => (v = some (0, 1) ∧ ∃ K1 a1 n1 q1 S1, rrG L T K a0 = rrG L T K1 a1 ∧ (s < a1 ∧ a1 ≤ L) ∧ S' = rmS S1 a1 n1 q1 ∧ MR S1 4 K1 ∧ Vx K1 ∧ Oth S S1 4 ∧ (∀ b, ¬ (72 ≤ b ∧ b ≤ 75) → b ≠ 86 → S1 b = S b)) ∨ (v = some (0, 0) ∧ ∃ z K1 n1 q1 S1, rrG L T K a0 = (0, z, K1) ∧ (s ≤ z ∧ z ≤ L) ∧ sk L T z = z ∧ S' = rmS S1 z n1 q1 ∧ Oth S S1 4 ∧ (∀ b, ¬ (72 ≤ b ∧ b ≤ 75) → b ≠ 86 → S1 b = S b))) := by
                intro f134
                induction f134 with
                | zero => intro S2 K1 td a1 n2 q2 more hm134; exact absurd hm134 (Nat.not_lt_zero _)
                | succ f134 ih134 =>
                  intro S2 K1 td a1 n2 q2 more hm134 hM2 hV2 hx2 hB2 h72 hO2 hF2 hp2 hm hH1 hH0
                  refine R_lo (nx := 136) rfl rfl rfl rfl ?_
                  refine R_if (nx := 139) (tg := 160) rfl rfl rfl (mm_cnd_eq _ _) (fun c136_1 => ?_) (fun c136_1 => ?_)
                  ·
                    have hT2 : TPm S2 L T := hT.fr (by rw [hF2 71 (by decide) (by decide)]) (hF2 85 (by decide) (by decide))
                    have hT3 : TPm (mm_up S2 72 4 (Xn K + 1)) L T := hT2.fr (by rw [mm_unq (by decide)]) (mm_unq (by decide))
                    refine R_lo (nx := 161) rfl rfl rfl rfl ?_
                    refine R_get (nx := 164) (w := (2, 72)) rfl rfl rfl rfl ?_
                    refine R_op (nx := 165) rfl rfl rfl ?_
                    refine R_op (nx := 166) rfl rfl rfl ?_
                    refine R_iald (nx := 167) rfl rfl rfl ?_
                    rw [show ((rmS S2 a1 n2 q2) 72 4) = Xn K from (congrFun (rmS_ne (by decide)) _).trans ((h72 _).trans hM.n)]
                    refine R_op (nx := 168) rfl rfl rfl ?_
                    refine R_iadd (nx := 169) (z := ((Xn K) + 1)) rfl rfl rfl ⟨by omega, by omega⟩ ?_
                    refine R_iast (nx := 170) rfl rfl rfl ?_
                    rw [rmS_up (by decide)]
                    refine R_lo (nx := 171) rfl rfl rfl rfl ?_
                    refine R_op (nx := 173) rfl rfl rfl ?_
                    refine R_call1 (nx := 176) (as := [(2, 71), (0, 59)]) (rest := []) rfl rfl (fun _ _ => rfl) rfl rfl rfl rfl rfl rfl rfl rfl (Cl.mono (c_M_takes (mm_up S2 72 4 ((Xn K) + 1)) L T (by assumption) a1 n2 q2 (by omega) (sk L T a1) rfl 59) ?_)
                    rintro _ _ (⟨rfl, b173_1, rfl⟩ | ⟨rfl, b173_1, rfl⟩)
                    ·
                      have g173_1 := sk_ge L T a1
                      have l173_1 := sk_le (L := L) T (p := a1) (by omega)
                      have tb173_1 := ct_lt b173_1 (by decide)
                      refine ⟨_, rfl, ?_⟩
                      refine R_ret rfl (fun _ _ => rfl) rfl rfl ?_
                      exact Or.inl ⟨rfl, K1, ((sk L T a1) + 1), _, _, (mm_up S2 72 4 ((Xn K) + 1)), rr_ct hV ha.2 hne (by omega) e99 (hH0 c136_1) rfl b173_1, by omega, rfl, ⟨hM2.up (by omega), by rw [mm_ua]; omega⟩, hV2, hO2.u72 _, fun b h1 h2 => by rw [mm_unq (by omega)]; exact hF2 b h1 h2⟩
                    ·
                      have g173_1 := sk_ge L T a1
                      have l173_1 := sk_le (L := L) T (p := a1) (by omega)
                      refine ⟨_, rfl, ?_⟩
                      refine R_ret rfl (fun _ _ => rfl) rfl rfl ?_
                      exact Or.inr ⟨rfl, (sk L T a1), K1, _, _, (mm_up S2 72 4 ((Xn K) + 1)), rr_cn hV ha.2 hne (by omega) e99 (hH0 c136_1) rfl b173_1, by omega, sk_sk _ _ _, rfl, hO2.u72 _, fun b h1 h2 => by rw [mm_unq (by omega)]; exact hF2 b h1 h2⟩
                  ·
                    have hmore : more = 1 := by omega
                    have hB3 := hB2 hmore
                    have hT2 : TPm S2 L T := hT.fr (by rw [hF2 71 (by decide) (by decide)]) (hF2 85 (by decide) (by decide))
                    refine R_lo (nx := 140) rfl rfl rfl rfl ?_
                    refine R_lo (nx := 141) rfl rfl rfl rfl ?_
                    refine R_call1 (nx := 144) (as := [(2, 71), (0, (Xn K))]) (rest := []) rfl rfl (fun _ _ => rfl) rfl rfl rfl rfl rfl rfl rfl rfl (Cl.mono (c_M_readsEntry S2 L T (by assumption) a1 n2 q2 (by omega) K1 (Xn K) (by assumption) (by assumption) (by assumption) td (by assumption)) ?_)
                    rintro _ _ (⟨rfl, x141_1, m141_1, u141_1, n141_1, q141_1, e141_1, rfl⟩ | ⟨rfl, z141_1, n141_1, q141_1, e141_1, r141_1, i141_1, rfl⟩)
                    ·
                      have a141 := eR_ok (by omega) e141_1
                      have hnr2 := hV2.1.1
                      have hT4 : TPm (mm_up (mm_up S2 86 m141_1 1) 75 (576 + 12 * (Xn K) + m141_1) u141_1) L T := hT2.fr (by rw [mm_unq (by decide), mm_unq (by decide)]) (by rw [mm_unq (by decide), mm_unq (by decide)])
                      refine ⟨_, rfl, ?_⟩
                      refine R_ifT (tg := 149) rfl rfl rfl ?_
                      refine R_lo (nx := 150) rfl rfl rfl rfl ?_
                      refine R_op (nx := 152) rfl rfl rfl ?_
                      refine R_call1 (nx := 155) (as := [(2, 71), (0, 44)]) (rest := []) rfl rfl (fun _ _ => rfl) rfl rfl rfl rfl rfl rfl rfl rfl (Cl.mono (c_M_takes (mm_up (mm_up S2 86 m141_1 1) 75 (576 + 12 * (Xn K) + m141_1) u141_1) L T (by assumption) x141_1 n141_1 q141_1 (by omega) (sk L T x141_1) rfl 44) ?_)
                      rintro _ _ (⟨rfl, b152_1, rfl⟩ | ⟨rfl, b152_1, rfl⟩)
                      ·
                        have g152_1 := sk_ge L T x141_1
                        have l152_1 := sk_le (L := L) T (p := x141_1) (by omega)
                        have tb152_1 := ct_lt b152_1 (by decide)
                        refine ⟨_, rfl, ?_⟩
                        refine R_lo (nx := 157) (ls' := [(2, 71), (0, (Xn K)), (0, d0), (0, l0), (0, o0), (0, 1)]) rfl rfl rfl rfl ?_
                        refine R_op (nx := 160) (pc' := 134) rfl rfl rfl ?_
                        refine Rn.weak (ls' := [(2, 71), (0, (Xn K)), (0, d0), (0, l0), (0, o0), (0, 1)]) ⟨Or.inl rfl, ⟨Or.inl rfl, ⟨Or.inl rfl, ⟨Or.inl rfl, ⟨Or.inl rfl, ⟨Or.inl rfl, trivial⟩⟩⟩⟩⟩⟩ ?_
                        refine ih134 ((mm_up (mm_up S2 86 m141_1 1) 75 (576 + 12 * (Xn K) + m141_1) u141_1)) ((Xset K1 (Xn K) m141_1 u141_1)) ((ups td m141_1)) (((sk L T x141_1) + 1)) (n141_1) (q141_1) (1) ?_ ?_ ?_ ?_ ?_ ?_ ?_ ?_ ?_ ?_ ?_ ?_
                        · omega
                        · exact MRr.set4 hM2 a141.2.2.2.1.1 a141.2.2.2.1.2.1
                        · exact Xset_Vx hV2 a141.2.2.2.2 (Or.inr a141.2.2.2.1)
                        · exact hx2
                        · intro _; exact (hB2 hmore).up _ _
                        · intro j; rw [mm_unq (by decide), mm_unq (by decide)]; exact h72 j
                        · exact (hO2.u86 _ _).u75 _ (by have := a141.2.2.2.1.2.1; omega)
                        · intro b h1 h2; rw [mm_unq (by omega), mm_unq h2]; exact hF2 b h1 h2
                        · omega
                        · omega
                        · first | (intro q; exact absurd q (by decide)) | (intro _; rw [hH1 hmore]; exact es_c (by omega) e141_1 b152_1)
                        · first | (intro q; exact absurd q (by decide)) | (intro _; rw [hH1 hmore]; exact es_d (by omega) e141_1 b152_1)
                      ·
                        have g152_1 := sk_ge L T x141_1
                        have l152_1 := sk_le (L := L) T (p := x141_1) (by omega)
                        refine ⟨_, rfl, ?_⟩
                        refine R_lo (nx := 157) (ls' := [(2, 71), (0, (Xn K)), (0, d0), (0, l0), (0, o0), (0, 0)]) rfl rfl rfl rfl ?_
                        refine R_op (nx := 160) (pc' := 134) rfl rfl rfl ?_
                        refine Rn.weak (ls' := [(2, 71), (0, (Xn K)), (0, d0), (0, l0), (0, o0), (0, 0)]) ⟨Or.inl rfl, ⟨Or.inl rfl, ⟨Or.inl rfl, ⟨Or.inl rfl, ⟨Or.inl rfl, ⟨Or.inl rfl, trivial⟩⟩⟩⟩⟩⟩ ?_
                        refine ih134 ((mm_up (mm_up S2 86 m141_1 1) 75 (576 + 12 * (Xn K) + m141_1) u141_1)) ((Xset K1 (Xn K) m141_1 u141_1)) ((ups td m141_1)) ((sk L T x141_1)) (n141_1) (q141_1) (0) ?_ ?_ ?_ ?_ ?_ ?_ ?_ ?_ ?_ ?_ ?_ ?_
                        · omega
                        · exact MRr.set4 hM2 a141.2.2.2.1.1 a141.2.2.2.1.2.1
                        · exact Xset_Vx hV2 a141.2.2.2.2 (Or.inr a141.2.2.2.1)
                        · exact hx2
                        · intro _; exact (hB2 hmore).up _ _
                        · intro j; rw [mm_unq (by decide), mm_unq (by decide)]; exact h72 j
                        · exact (hO2.u86 _ _).u75 _ (by have := a141.2.2.2.1.2.1; omega)
                        · intro b h1 h2; rw [mm_unq (by omega), mm_unq h2]; exact hF2 b h1 h2
                        · omega
                        · omega
                        · first | (intro q; exact absurd q (by decide)) | (intro _; rw [hH1 hmore]; exact es_c (by omega) e141_1 b152_1)
                        · first | (intro q; exact absurd q (by decide)) | (intro _; rw [hH1 hmore]; exact es_d (by omega) e141_1 b152_1)
                    ·
                      refine ⟨_, rfl, ?_⟩
                      refine R_ifF (nx := 147) rfl rfl rfl ?_
                      refine R_op (nx := 148) rfl rfl rfl ?_
                      refine R_ret rfl (fun _ _ => rfl) rfl rfl ?_
                      exact Or.inr ⟨rfl, z141_1, K1, _, _, S2, rr_cf hV ha.2 hne (by omega) e99 ((hH1 hmore).trans (es_f (by omega) e141_1)), by omega, i141_1, rfl, hO2, hF2⟩
              refine Rn.weak (ls' := [(2, 71), (0, (Xn K)), (0, d0), (0, l0), (0, o0), (0, 0)]) ⟨Or.inl rfl, ⟨Or.inl rfl, ⟨Or.inl rfl, ⟨Or.inl rfl, ⟨Or.inl rfl, ⟨Or.inl rfl, trivial⟩⟩⟩⟩⟩⟩ ?_
              refine L134 ((L - ((sk L T q0))).toNat + 1) (S1) ((Xadd K d0 l0 o0)) ((fun _ => 0)) ((sk L T q0)) (n1) (q1) (0) (Nat.lt_succ_self _) ?_ ?_ ?_ ?_ ?_ ?_ ?_ ?_ ?_ ?_ ?_
              · exact m99.fr (hf 73 (by decide)) (hf 74 (by decide)) (hf 75 (by decide))
              · exact v99
              · rfl
              · intro _ j p q; exact hc j p (by omega)
              · intro j; rw [hf 72 (by decide), f99 72 (by decide)]
              · intro c2 K2 p q r u; exact (o99 c2 K2 p q r u).fr fun e p q => hf e (by omega)
              · intro b h1 h2; rw [hf b h2, f99 b (by omega)]
              · omega
              · omega
              · first | (intro q; exact absurd q (by decide)) | (intro _; exact if_pos b129)
              · first | (intro q; exact absurd q (by decide)) | (intro _; exact if_neg b129)
          ·
            refine R_lo (nx := 113) rfl rfl rfl rfl ?_
            refine R_get (nx := 116) (w := (2, 86)) rfl rfl rfl rfl ?_
            refine R_lo (nx := 118) rfl rfl rfl rfl ?_
            refine R_op (nx := 119) rfl rfl rfl ?_
            refine R_bast (nx := 120) rfl rfl (mm_el_ok 4 12 (by decide) rfl (by decide) (by omega) (by omega)) rfl ?_
            rw [rmS_up (by decide)]
            refine R_iinc (nx := 123) (z := (k + 1)) (ls' := [(2, 71), (0, (Xn K)), (0, d0), (0, l0), (0, o0), (0, (k + 1))]) rfl rfl rfl rfl ⟨by omega, by omega⟩ rfl ?_
            refine R_op (nx := 126) (pc' := 105) rfl rfl rfl ?_
            refine Rn.weak (ls' := [(2, 71), (0, (Xn K)), (0, d0), (0, l0), (0, o0), (0, (k + 1))]) ⟨Or.inl rfl, ⟨Or.inl rfl, ⟨Or.inl rfl, ⟨Or.inl rfl, ⟨Or.inl rfl, ⟨Or.inl rfl, trivial⟩⟩⟩⟩⟩⟩ ?_
            refine ih105 ((mm_up S1 86 k 0)) ((k + 1)) ?_ ?_ ?_ ?_
            · omega
            · omega
            · intro j p q
              by_cases e : j = k
              · rw [e, mm_ua]
              · rw [mm_uk e]; exact hc j p (by omega)
            · intro b hb; rw [mm_unq hb]; exact hf b hb
      refine Rn.weak (ls' := [(2, 71), (0, (Xn K)), (0, d0), (0, l0), (0, o0), (0, 0)]) ⟨Or.inl rfl, ⟨Or.inl rfl, ⟨Or.inl rfl, ⟨Or.inl rfl, ⟨Or.inl rfl, ⟨Or.inl rfl, trivial⟩⟩⟩⟩⟩⟩ ?_
      refine L105 (((12 : Int) - (0)).toNat + 1) ((mm_up (mm_up (mm_up S 73 (12 * 4 + (Xn K)) d0) 74 (24 * 4 + (Xn K)) l0) 74 (12 * (2 * 4 + 1) + (Xn K)) o0)) (0) (Nat.lt_succ_self _) ?_ ?_ ?_
      · omega
      · intro j p q; omega
      · intro b hb; rfl
    refine R_lo (nx := 14) rfl rfl rfl rfl ?_
    refine R_op (nx := 15) rfl rfl rfl ?_
    refine R_call1 (nx := 18) (as := [(2, 71), (0, 4)]) (rest := []) rfl rfl (fun _ _ => rfl) rfl rfl rfl rfl rfl rfl rfl rfl (Cl.mono (c_M_readsNumber S L T (by assumption) s n q (by omega) s (sk_id hs) 4 (by decide)) ?_)
    rintro _ _ (⟨rfl, b15, rfl⟩ | ⟨rfl, b15, n15, rfl⟩)
    ·
      have w15 := nOk_r b15 (by decide) (by omega)
      refine ⟨_, rfl, ?_⟩
      refine R_ifT (tg := 23) rfl rfl rfl ?_
      refine R_lo (nx := 24) rfl rfl rfl rfl ?_
      refine R_get (nx := 27) (w := (0, (nv L T s))) rfl rfl rfl rfl ?_
      refine R_lo (nx := 28) (ls' := [(2, 71), (0, (Xn K)), (0, (nv L T s)), (9, 0), (9, 0), (9, 0)]) rfl rfl rfl rfl ?_
      refine R_op (nx := 29) rfl rfl rfl ?_
      refine R_lo (nx := 30) (ls' := [(2, 71), (0, (Xn K)), (0, (nv L T s)), (0, 0), (9, 0), (9, 0)]) rfl rfl rfl rfl ?_
      refine R_op (nx := 31) rfl rfl rfl ?_
      refine R_lo (nx := 33) (ls' := [(2, 71), (0, (Xn K)), (0, (nv L T s)), (0, 0), (0, 0), (9, 0)]) rfl rfl rfl rfl ?_
      refine R_lo (nx := 34) rfl rfl rfl rfl ?_
      refine R_op (nx := 36) rfl rfl rfl ?_
      refine R_call1 (nx := 39) (as := [(2, 71), (0, 64)]) (rest := []) rfl rfl (fun _ _ => rfl) rfl rfl rfl rfl rfl rfl rfl rfl (Cl.mono (c_M_takes S L T (by assumption) (de L T s) (nv L T s) s (by omega) (sk L T (de L T s)) rfl 64) ?_)
      rintro _ _ (⟨rfl, b36, rfl⟩ | ⟨rfl, b36, rfl⟩)
      ·
        have g36 := sk_ge L T (de L T s)
        have l36 := sk_le (L := L) T (p := (de L T s)) (by omega)
        have tb36 := ct_lt b36 (by decide)
        refine ⟨_, rfl, ?_⟩
        refine R_ifF (nx := 42) rfl rfl rfl ?_
        refine R_lo (nx := 43) rfl rfl rfl rfl ?_
        refine R_op (nx := 45) rfl rfl rfl ?_
        refine R_call1 (nx := 48) (as := [(2, 71), (0, 9)]) (rest := []) rfl rfl (fun _ _ => rfl) rfl rfl rfl rfl rfl rfl rfl rfl (Cl.mono (c_M_readsNumber S L T (by assumption) ((sk L T (de L T s)) + 1) (nv L T s) s (by omega) (sk L T ((sk L T (de L T s)) + 1)) rfl 9 (by decide)) ?_)
        rintro _ _ (⟨rfl, b45, rfl⟩ | ⟨rfl, b45, n45, rfl⟩)
        ·
          have g45 := sk_ge L T ((sk L T (de L T s)) + 1)
          have l45 := sk_le (L := L) T (p := ((sk L T (de L T s)) + 1)) (by omega)
          have w45 := nOk_r b45 (by decide) (by omega)
          refine ⟨_, rfl, ?_⟩
          refine R_ifT (tg := 53) rfl rfl rfl ?_
          refine R_lo (nx := 54) rfl rfl rfl rfl ?_
          refine R_get (nx := 57) (w := (0, (nv L T (sk L T ((sk L T (de L T s)) + 1))))) rfl rfl rfl rfl ?_
          refine R_lo (nx := 58) (ls' := [(2, 71), (0, (Xn K)), (0, (nv L T s)), (0, (nv L T (sk L T ((sk L T (de L T s)) + 1)))), (0, 0), (9, 0)]) rfl rfl rfl rfl ?_
          refine R_lo (nx := 59) rfl rfl rfl rfl ?_
          refine R_lo (nx := 61) (ls' := [(2, 71), (0, (Xn K)), (0, (nv L T s)), (0, (nv L T (sk L T ((sk L T (de L T s)) + 1)))), (0, (nv L T (sk L T ((sk L T (de L T s)) + 1)))), (9, 0)]) rfl rfl rfl rfl ?_
          refine R_lo (nx := 62) rfl rfl rfl rfl ?_
          refine R_call1 (nx := 65) (as := [(2, 71)]) (rest := []) rfl rfl (fun _ _ => rfl) rfl rfl rfl rfl rfl rfl rfl rfl (Cl.mono (c_M_here S L T (by assumption) (de L T (sk L T ((sk L T (de L T s)) + 1))) (nv L T (sk L T ((sk L T (de L T s)) + 1))) (sk L T ((sk L T (de L T s)) + 1)) (by omega) (sk L T (de L T (sk L T ((sk L T (de L T s)) + 1)))) rfl ) ?_)
          rintro _ _ ⟨rfl, rfl⟩
          have g62 := sk_ge L T (de L T (sk L T ((sk L T (de L T s)) + 1)))
          have l62 := sk_le (L := L) T (p := (de L T (sk L T ((sk L T (de L T s)) + 1)))) (by omega)
          have y62 := ct_m (S := S) (L := L) (T := T) (by assumption) (p := (sk L T (de L T (sk L T ((sk L T (de L T s)) + 1))))) (by omega)
          refine ⟨_, rfl, ?_⟩
          refine R_op (nx := 67) rfl rfl rfl ?_
          refine R_op (nx := 69) rfl rfl rfl ?_
          refine R_call1 (nx := 72) (as := [(0, (ct L T (sk L T (de L T (sk L T ((sk L T (de L T s)) + 1)))))), (0, 48), (0, 57)]) (rest := []) rfl rfl (fun _ _ => rfl) rfl rfl rfl rfl rfl rfl rfl rfl (Cl.mono (c_M_in (rmS S (sk L T (de L T (sk L T ((sk L T (de L T s)) + 1)))) (nv L T (sk L T ((sk L T (de L T s)) + 1))) (sk L T ((sk L T (de L T s)) + 1))) (ct L T (sk L T (de L T (sk L T ((sk L T (de L T s)) + 1))))) 48 57) ?_)
          rintro _ _ (⟨rfl, b69, rfl⟩ | ⟨rfl, b69, rfl⟩)
          ·
            refine ⟨_, rfl, ?_⟩
            refine R_ifF (nx := 75) rfl rfl rfl ?_
            refine R_lo (nx := 76) rfl rfl rfl rfl ?_
            refine R_op (nx := 78) rfl rfl rfl ?_
            refine R_call1 (nx := 81) (as := [(2, 71), (0, 9)]) (rest := []) rfl rfl (fun _ _ => rfl) rfl rfl rfl rfl rfl rfl rfl rfl (Cl.mono (c_M_readsNumber S L T (by assumption) (sk L T (de L T (sk L T ((sk L T (de L T s)) + 1)))) (nv L T (sk L T ((sk L T (de L T s)) + 1))) (sk L T ((sk L T (de L T s)) + 1)) (by omega) (sk L T (de L T (sk L T ((sk L T (de L T s)) + 1)))) (sk_sk L T _) 9 (by decide)) ?_)
            rintro _ _ (⟨rfl, b78, rfl⟩ | ⟨rfl, b78, n78, rfl⟩)
            ·
              have w78 := nOk_r b78 (by decide) (by omega)
              refine ⟨_, rfl, ?_⟩
              refine R_ifT (tg := 86) rfl rfl rfl ?_
              refine R_lo (nx := 87) rfl rfl rfl rfl ?_
              refine R_get (nx := 90) (w := (0, (nv L T (sk L T (de L T (sk L T ((sk L T (de L T s)) + 1))))))) rfl rfl rfl rfl ?_
              refine R_lo (nx := 92) (ls' := [(2, 71), (0, (Xn K)), (0, (nv L T s)), (0, (nv L T (sk L T ((sk L T (de L T s)) + 1)))), (0, (nv L T (sk L T (de L T (sk L T ((sk L T (de L T s)) + 1)))))), (9, 0)]) rfl rfl rfl rfl ?_
              refine R_lo (nx := 93) rfl rfl rfl rfl ?_
              refine R_op (nx := 94) rfl rfl rfl ?_
              refine R_lo (nx := 95) rfl rfl rfl rfl ?_
              refine R_lo (nx := 96) rfl rfl rfl rfl ?_
              refine R_lo (nx := 97) rfl rfl rfl rfl ?_
              refine R_lo (nx := 99) rfl rfl rfl rfl ?_
              refine R_call0 (nx := 102) (as := [(2, 71), (0, 4), (0, (Xn K)), (0, (nv L T s)), (0, (nv L T (sk L T ((sk L T (de L T s)) + 1)))), (0, (nv L T (sk L T (de L T (sk L T ((sk L T (de L T s)) + 1))))))]) (rest := []) rfl rfl (fun _ _ => rfl) rfl rfl rfl rfl rfl rfl rfl rfl (Cl.mono (c_M_sets (rmS S (de L T (sk L T (de L T (sk L T ((sk L T (de L T s)) + 1))))) (nv L T (sk L T (de L T (sk L T ((sk L T (de L T s)) + 1))))) (sk L T (de L T (sk L T ((sk L T (de L T s)) + 1))))) 4 (Xn K) (nv L T s) (nv L T (sk L T ((sk L T (de L T s)) + 1))) (nv L T (sk L T (de L T (sk L T ((sk L T (de L T s)) + 1))))) (by omega) (by omega)) ?_)
              rintro _ _ ⟨rfl, rfl⟩
              rw [rmS_up (by decide), rmS_up (by decide), rmS_up (by decide)]
              have e99 : hR L T (sk L T a0) = (1, (de L T (sk L T (de L T (sk L T ((sk L T (de L T s)) + 1))))), (nv L T s), (nv L T (sk L T ((sk L T (de L T s)) + 1))), (nv L T (sk L T (de L T (sk L T ((sk L T (de L T s)) + 1)))))) := by
                rw [hs]
                unfold hR
                rw [ifn_y b15]
                first | rw [if_neg b36] | rw [if_pos b36, ifn_y b45, if_neg b69] | rw [if_pos b36, ifn_y b45, if_pos b69, ifn_y b78]
              exact ⟨rfl, tail (de L T (sk L T (de L T (sk L T ((sk L T (de L T s)) + 1))))) (nv L T s) (nv L T (sk L T ((sk L T (de L T s)) + 1))) (nv L T (sk L T (de L T (sk L T ((sk L T (de L T s)) + 1))))) _ _ e99⟩
            ·
              refine ⟨_, rfl, ?_⟩
              refine R_ifF (nx := 84) rfl rfl rfl ?_
              refine R_op (nx := 85) rfl rfl rfl ?_
              refine R_ret rfl (fun _ _ => rfl) rfl rfl ?_
              refine Or.inr ⟨rfl, (sk L T (de L T (sk L T ((sk L T (de L T s)) + 1)))), _, _, _, S, rr_h0 (z := (0, 0, 0)) hV (by omega) hne (by omega) ?_, by omega, by first | exact sk_sk _ _ _ | exact sk_id hs, rfl, Oth.rf S 4, fun _ _ _ => rfl⟩
              rw [hs]
              unfold hR
              rw [ifn_y b15, if_pos b36, ifn_y b45, if_pos b69, ifn_n b78]
          ·
            refine ⟨_, rfl, ?_⟩
            refine R_ifT (tg := 92) rfl rfl rfl ?_
            refine R_lo (nx := 93) rfl rfl rfl rfl ?_
            refine R_op (nx := 94) rfl rfl rfl ?_
            refine R_lo (nx := 95) rfl rfl rfl rfl ?_
            refine R_lo (nx := 96) rfl rfl rfl rfl ?_
            refine R_lo (nx := 97) rfl rfl rfl rfl ?_
            refine R_lo (nx := 99) rfl rfl rfl rfl ?_
            refine R_call0 (nx := 102) (as := [(2, 71), (0, 4), (0, (Xn K)), (0, (nv L T s)), (0, (nv L T (sk L T ((sk L T (de L T s)) + 1)))), (0, (nv L T (sk L T ((sk L T (de L T s)) + 1))))]) (rest := []) rfl rfl (fun _ _ => rfl) rfl rfl rfl rfl rfl rfl rfl rfl (Cl.mono (c_M_sets (rmS S (sk L T (de L T (sk L T ((sk L T (de L T s)) + 1)))) (nv L T (sk L T ((sk L T (de L T s)) + 1))) (sk L T ((sk L T (de L T s)) + 1))) 4 (Xn K) (nv L T s) (nv L T (sk L T ((sk L T (de L T s)) + 1))) (nv L T (sk L T ((sk L T (de L T s)) + 1))) (by omega) (by omega)) ?_)
            rintro _ _ ⟨rfl, rfl⟩
            rw [rmS_up (by decide), rmS_up (by decide), rmS_up (by decide)]
            have e99 : hR L T (sk L T a0) = (1, (sk L T (de L T (sk L T ((sk L T (de L T s)) + 1)))), (nv L T s), (nv L T (sk L T ((sk L T (de L T s)) + 1))), (nv L T (sk L T ((sk L T (de L T s)) + 1)))) := by
              rw [hs]
              unfold hR
              rw [ifn_y b15]
              first | rw [if_neg b36] | rw [if_pos b36, ifn_y b45, if_neg b69] | rw [if_pos b36, ifn_y b45, if_pos b69, ifn_y b78]
            exact ⟨rfl, tail (sk L T (de L T (sk L T ((sk L T (de L T s)) + 1)))) (nv L T s) (nv L T (sk L T ((sk L T (de L T s)) + 1))) (nv L T (sk L T ((sk L T (de L T s)) + 1))) _ _ e99⟩
        ·
          have g45 := sk_ge L T ((sk L T (de L T s)) + 1)
          have l45 := sk_le (L := L) T (p := ((sk L T (de L T s)) + 1)) (by omega)
          refine ⟨_, rfl, ?_⟩
          refine R_ifF (nx := 51) rfl rfl rfl ?_
          refine R_op (nx := 52) rfl rfl rfl ?_
          refine R_ret rfl (fun _ _ => rfl) rfl rfl ?_
          refine Or.inr ⟨rfl, (sk L T ((sk L T (de L T s)) + 1)), _, _, _, S, rr_h0 (z := (0, 0, 0)) hV (by omega) hne (by omega) ?_, by omega, by first | exact sk_sk _ _ _ | exact sk_id hs, rfl, Oth.rf S 4, fun _ _ _ => rfl⟩
          rw [hs]
          unfold hR
          rw [ifn_y b15, if_pos b36, ifn_n b45]
      ·
        have g36 := sk_ge L T (de L T s)
        have l36 := sk_le (L := L) T (p := (de L T s)) (by omega)
        refine ⟨_, rfl, ?_⟩
        refine R_ifT (tg := 92) rfl rfl rfl ?_
        refine R_lo (nx := 93) rfl rfl rfl rfl ?_
        refine R_op (nx := 94) rfl rfl rfl ?_
        refine R_lo (nx := 95) rfl rfl rfl rfl ?_
        refine R_lo (nx := 96) rfl rfl rfl rfl ?_
        refine R_lo (nx := 97) rfl rfl rfl rfl ?_
        refine R_lo (nx := 99) rfl rfl rfl rfl ?_
        refine R_call0 (nx := 102) (as := [(2, 71), (0, 4), (0, (Xn K)), (0, (nv L T s)), (0, 0), (0, 0)]) (rest := []) rfl rfl (fun _ _ => rfl) rfl rfl rfl rfl rfl rfl rfl rfl (Cl.mono (c_M_sets (rmS S (sk L T (de L T s)) (nv L T s) s) 4 (Xn K) (nv L T s) 0 0 (by omega) (by omega)) ?_)
        rintro _ _ ⟨rfl, rfl⟩
        rw [rmS_up (by decide), rmS_up (by decide), rmS_up (by decide)]
        have e99 : hR L T (sk L T a0) = (1, (sk L T (de L T s)), (nv L T s), 0, 0) := by
          rw [hs]
          unfold hR
          rw [ifn_y b15]
          first | rw [if_neg b36] | rw [if_pos b36, ifn_y b45, if_neg b69] | rw [if_pos b36, ifn_y b45, if_pos b69, ifn_y b78]
        exact ⟨rfl, tail (sk L T (de L T s)) (nv L T s) 0 0 _ _ e99⟩
    ·
      refine ⟨_, rfl, ?_⟩
      refine R_ifF (nx := 21) rfl rfl rfl ?_
      refine R_op (nx := 22) rfl rfl rfl ?_
      refine R_ret rfl (fun _ _ => rfl) rfl rfl ?_
      refine Or.inr ⟨rfl, s, _, _, _, S, rr_h0 (z := (0, 0, 0)) hV (by omega) hne (by omega) ?_, by omega, by first | exact sk_sk _ _ _ | exact sk_id hs, rfl, Oth.rf S 4, fun _ _ _ => rfl⟩
      rw [hs]
      unfold hR
      rw [ifn_n b15]

theorem rmS_i (S : mm_S) (z : Int) : mm_up S 71 22 z = rmS S z (S 71 23) (S 71 24) := by
  have h := rmS_22 S (S 71 22) (S 71 23) (S 71 24) z
  rw [rmS_0 S] at h
  exact h
theorem RR.txt {S S1 : mm_S} {A : mm_A} {p n q : Int} (h : RR S A) (hO : Oth S S1 4) (h71 : ∀ k, k ≠ 22 → k ≠ 23 → k ≠ 24 → S1 71 k = S 71 k) (hF : ∀ b, ¬ (71 ≤ b ∧ b ≤ 75) → b ≠ 86 → S1 b = S b) : RR (rmS (mm_up S1 71 21 0) p n q) (Atp A 0 (AT A)) := by
  have h1 : RR (rmS S1 p n q) A := h.o4 (fun c' K' a b c d => (hO c' K' a b c d).rm) ⟨h71 8 (by decide) (by decide) (by decide), ⟨h71 9 (by decide) (by decide) (by decide), h71 10 (by decide) (by decide) (by decide), h71 11 (by decide) (by decide) (by decide)⟩, h71 21 (by decide) (by decide) (by decide)⟩ fun b hb => by rw [rmS_ne (by omega), hF b (by omega) (by omega)]
  refine h1.tp (show (mm_up S1 71 21 0) 71 21 = 0 from mm_ua) (fun j a b => absurd b (by omega)) (show (mm_up S1 71 21 0) 71 8 = S1 71 8 from mm_uk (by decide)) (show (mm_up S1 71 21 0) 71 9 = S1 71 9 from mm_uk (by decide)) (show (mm_up S1 71 21 0) 71 10 = S1 71 10 from mm_uk (by decide)) (show (mm_up S1 71 21 0) 71 11 = S1 71 11 from mm_uk (by decide)) fun b hb => ?_
  rw [rmS_ne (by omega), rmS_ne (by omega), mm_unq (by omega)]

set_option maxRecDepth 20000 in
set_option maxHeartbeats 4000000 in
theorem c_M_text (S : mm_S) (A : mm_A) (hRR : RR S A) (hV : Vs A) (c : Int) : Cl 104 [(2, 71), (0, c)] S (fun vv S' => vv = some (0, (Q_text A c).1) ∧ RR S' (Q_text A c).2 ∧ ∀ b, ¬ (71 ≤ b ∧ b < 91) → S' b = S b) := by
  refine ⟨Nat.le_of_ble_eq_true rfl, ?_⟩
  show Rn k_M_text 0 [(2, 71), (0, c), (9, 0), (9, 0)] [] S _
  obtain ⟨L, hLe⟩ : ∃ L, AL A = L := ⟨_, rfl⟩
  obtain ⟨T, hTe⟩ : ∃ T, AT A = T := ⟨_, rfl⟩
  have hT : TPm S L T := by
    rw [← hLe, ← hTe]
    exact ⟨hV.2.2.2.1, hRR.2.2.2.2.1.1, fun j p q => ⟨hRR.2.2.2.2.1.2 j p q, hV.2.2.2.2.1 j⟩⟩
  have hL := hT.1
  refine R_lo (nx := 1) rfl rfl rfl rfl ?_
  refine R_call1 (nx := 4) (as := [(0, c)]) (rest := []) rfl rfl (fun _ _ => rfl) rfl rfl rfl rfl rfl rfl rfl rfl (Cl.mono (c_M_isComplex S c) ?_)
  rintro _ _ (⟨rfl, b1, rfl⟩ | ⟨rfl, b1, rfl⟩)
  ·
    refine ⟨_, rfl, ?_⟩
    refine R_ifT (tg := 9) rfl rfl rfl ?_
    refine R_lo (nx := 10) rfl rfl rfl rfl ?_
    refine R_op (nx := 11) rfl rfl rfl ?_
    refine R_put (nx := 14) (kk := 22) rfl rfl rfl rfl rfl ?_
    rw [rmS_i]
    refine R_lo (nx := 15) rfl rfl rfl rfl ?_
    refine R_op (nx := 16) rfl rfl rfl ?_
    refine R_call0 (nx := 19) (as := [(2, 71), (0, 4)]) (rest := []) rfl rfl (fun _ _ => rfl) rfl rfl rfl rfl rfl rfl rfl rfl (Cl.mono (c_M_empties (rmS S 0 (S 71 23) (S 71 24)) 4 (by omega)) ?_)
    rintro _ S16 ⟨rfl, m16, o16, f16⟩
    refine ⟨rfl, ?_⟩
    rw [rmS_self (f16 71 (by omega))]
    refine R_op (nx := 20) rfl rfl rfl ?_
    refine R_lo (nx := 21) (ls' := [(2, 71), (0, c), (0, 1), (9, 0)]) rfl rfl rfl rfl ?_
    have L21 : ∀ (f21 : Nat) (S1 : mm_S) (K1 : CX) (a1 : Int) (n1 : Int) (q1 : Int) (ok : Int), (2 * (L + 1 - a1) + ok).toNat < f21 → (ok = 1 → MR S1 4 K1) → (Vx K1) → (0 ≤ a1 ∧ a1 ≤ L) → (Oth S S1 4) → (∀ b, ¬ (71 ≤ b ∧ b ≤ 75) → b ≠ 86 → S1 b = S b) → (∀ k, k ≠ 22 → k ≠ 23 → k ≠ 24 → S1 71 k = S 71 k) → (ok = 0 ∨ ok = 1) → (ok = 1 → rr L T = rrG L T K1 a1) → (ok = 0 → (∃ K2, rr L T = (0, a1, K2)) ∧ sk L T a1 = a1) → Rn k_M_text 21 [(2, 71), (0, c), (0, ok), (9, 0)] [] (rmS S1 a1 n1 q1) (fun vv S' => vv = some (0, (Q_text A c).1) ∧ RR S' (Q_text A c).2 ∧ ∀ b, ¬ (71 ≤ b ∧ b < 91) → S' b = S b) := by
      intro f21
      induction f21 with
      | zero => intro S1 K1 a1 n1 q1 ok hm21; exact absurd hm21 (Nat.not_lt_zero _)
      | succ f21 ih21 =>
        intro S1 K1 a1 n1 q1 ok hm21 hM1 hV1 hp hO1 hF1 h71 hok hH1 hH0
        have hT1 : TPm S1 L T := hT.fr (h71 21 (by decide) (by decide) (by decide)) (hF1 85 (by decide) (by decide))
        refine R_lo (nx := 22) rfl rfl rfl rfl ?_
        refine R_if (nx := 25) (tg := 40) rfl rfl rfl (mm_cnd_eq _ _) (fun c22 => ?_) (fun c22 => ?_)
        ·
          have e22 : sk L T a1 = a1 := (hH0 c22).2
          refine R_lo (nx := 41) rfl rfl rfl rfl ?_
          refine R_call1 (nx := 44) (as := [(2, 71)]) (rest := []) rfl rfl (fun _ _ => rfl) rfl rfl rfl rfl rfl rfl rfl rfl (Cl.mono (c_M_here S1 L T (by assumption) a1 n1 q1 (by omega) (sk L T a1) rfl ) ?_)
          rintro _ _ ⟨rfl, rfl⟩
          have g41 := sk_ge L T a1
          have l41 := sk_le (L := L) T (p := a1) (by omega)
          have y41 := ct_m (S := S1) (L := L) (T := T) (by assumption) (p := (sk L T a1)) (by omega)
          refine ⟨_, rfl, ?_⟩
          refine R_if (nx := 47) (tg := 54) rfl rfl rfl (mm_cnd_ge _ _) (fun c44 => ?_) (fun c44 => ?_)
          ·
            refine R_lo (nx := 55) rfl rfl rfl rfl ?_
            refine R_get (nx := 58) (w := (0, (sk L T a1))) rfl rfl rfl rfl ?_
            refine R_lo (nx := 59) (ls' := [(2, 71), (0, c), (0, ok), (0, (sk L T a1))]) rfl rfl rfl rfl ?_
            refine R_lo (nx := 60) rfl rfl rfl rfl ?_
            refine R_op (nx := 61) rfl rfl rfl ?_
            refine R_put (nx := 64) (kk := 21) rfl rfl rfl rfl rfl ?_
            rw [rmS_21]
            refine R_lo (nx := 65) rfl rfl rfl rfl ?_
            refine R_if (nx := 68) (tg := 73) rfl rfl rfl (mm_cnd_ne _ _) (fun c65 => ?_) (fun c65 => ?_)
            ·
              refine R_lo (nx := 74) rfl rfl rfl rfl ?_
              refine R_op (nx := 75) rfl rfl rfl ?_
              refine R_lo (nx := 76) rfl rfl rfl rfl ?_
              refine R_call0 (nx := 79) (as := [(2, 71), (0, 4), (0, c)]) (rest := []) rfl rfl (fun _ _ => rfl) rfl rfl rfl rfl rfl rfl rfl rfl (Cl.mono (c_M_copies (rmS (mm_up S1 71 21 0) (sk L T a1) n1 q1) 4 c (by omega) (by omega) (by omega) K1 (MR.rm ((hM1 (by omega)).up (by omega)))) ?_)
              rintro _ S76 ⟨rfl, m76, o76, f76⟩
              refine ⟨rfl, ?_⟩
              refine R_lo (nx := 80) rfl rfl rfl rfl ?_
              refine R_get (nx := 83) (w := (2, 72)) rfl rfl rfl rfl ?_
              refine R_lo (nx := 84) rfl rfl rfl rfl ?_
              refine R_iald (nx := 85) rfl rfl (mm_el_ok 1 5 (by decide) rfl (by decide) (by omega) (by omega)) ?_
              rw [m76.n]
              refine R_ret rfl (fun _ _ => rfl) rfl rfl ?_
              have er : rr L T = (1, sk L T a1, K1) := (hH1 (by omega)).trans (rr_end hV1 (by omega) (by omega))
              rw [show Q_text A c = (Xn K1, Akc (Atp A 0 (AT A)) c K1) from by unfold Q_text; rw [if_pos b1, hLe, hTe, er, if_neg (show ¬ (1 : Int) = 0 by decide)]]
              exact ⟨rfl, (hRR.txt hO1 h71 hF1).kc m76 o76 (R71.of (f76 71 (by omega))) (fun b hb => f76 b (by omega)), fun b hb => by rw [f76 b (by omega), rmS_ne (by omega), mm_unq (by omega), hF1 b (by omega) (by omega)]⟩
            ·
              replace c65 := Classical.not_not.mp c65
              refine R_op (nx := 70) rfl rfl rfl ?_
              refine R_lo (nx := 71) rfl rfl rfl rfl ?_
              refine R_isub (nx := 72) (z := ((-100) - (sk L T a1))) rfl rfl rfl ⟨by omega, by omega⟩ ?_
              refine R_cv (w := (-100 - a1)) (by omega) ?_
              refine R_ret rfl (fun _ _ => rfl) rfl rfl ?_
              first | (exfalso; omega) | (obtain ⟨K2, er⟩ := (hH0 (by omega)).1; rw [show Q_text A c = (-100 - a1, Atp A 0 (AT A)) from by unfold Q_text; rw [if_pos b1, hLe, hTe, er, if_pos rfl]]; exact ⟨rfl, (hRR.txt hO1 h71 hF1), fun b hb => by rw [rmS_ne (by omega), mm_unq (by omega), hF1 b (by omega) (by omega)]⟩)
          ·
            refine R_lo (nx := 48) rfl rfl rfl rfl ?_
            refine R_get (nx := 51) (w := (0, ((rmS S1 (sk L T a1) n1 q1) 71 21))) rfl rfl rfl rfl ?_
            rw [show ((rmS S1 (sk L T a1) n1 q1) 71 21) = L from (TPm.rm (by assumption)).2.1]
            refine R_op (nx := 54) (pc' := 58) rfl rfl rfl ?_
            refine R_lo (nx := 59) (ls' := [(2, 71), (0, c), (0, ok), (0, L)]) rfl rfl rfl rfl ?_
            refine R_lo (nx := 60) rfl rfl rfl rfl ?_
            refine R_op (nx := 61) rfl rfl rfl ?_
            refine R_put (nx := 64) (kk := 21) rfl rfl rfl rfl rfl ?_
            rw [rmS_21]
            refine R_lo (nx := 65) rfl rfl rfl rfl ?_
            refine R_if (nx := 68) (tg := 73) rfl rfl rfl (mm_cnd_ne _ _) (fun c65_1 => ?_) (fun c65_1 => ?_)
            ·
              refine R_lo (nx := 74) rfl rfl rfl rfl ?_
              refine R_op (nx := 75) rfl rfl rfl ?_
              refine R_lo (nx := 76) rfl rfl rfl rfl ?_
              refine R_call0 (nx := 79) (as := [(2, 71), (0, 4), (0, c)]) (rest := []) rfl rfl (fun _ _ => rfl) rfl rfl rfl rfl rfl rfl rfl rfl (Cl.mono (c_M_copies (rmS (mm_up S1 71 21 0) (sk L T a1) n1 q1) 4 c (by omega) (by omega) (by omega) K1 (MR.rm ((hM1 (by omega)).up (by omega)))) ?_)
              rintro _ S76 ⟨rfl, m76, o76, f76⟩
              refine ⟨rfl, ?_⟩
              refine R_lo (nx := 80) rfl rfl rfl rfl ?_
              refine R_get (nx := 83) (w := (2, 72)) rfl rfl rfl rfl ?_
              refine R_lo (nx := 84) rfl rfl rfl rfl ?_
              refine R_iald (nx := 85) rfl rfl (mm_el_ok 1 5 (by decide) rfl (by decide) (by omega) (by omega)) ?_
              rw [m76.n]
              refine R_ret rfl (fun _ _ => rfl) rfl rfl ?_
              have er : rr L T = (1, sk L T a1, K1) := (hH1 (by omega)).trans (rr_end hV1 (by omega) (by omega))
              rw [show Q_text A c = (Xn K1, Akc (Atp A 0 (AT A)) c K1) from by unfold Q_text; rw [if_pos b1, hLe, hTe, er, if_neg (show ¬ (1 : Int) = 0 by decide)]]
              exact ⟨rfl, (hRR.txt hO1 h71 hF1).kc m76 o76 (R71.of (f76 71 (by omega))) (fun b hb => f76 b (by omega)), fun b hb => by rw [f76 b (by omega), rmS_ne (by omega), mm_unq (by omega), hF1 b (by omega) (by omega)]⟩
            ·
              replace c65_1 := Classical.not_not.mp c65_1
              refine R_op (nx := 70) rfl rfl rfl ?_
              refine R_lo (nx := 71) rfl rfl rfl rfl ?_
              refine R_isub (nx := 72) (z := ((-100) - L)) rfl rfl rfl ⟨by omega, by omega⟩ ?_
              refine R_cv (w := (-100 - a1)) (by omega) ?_
              refine R_ret rfl (fun _ _ => rfl) rfl rfl ?_
              first | (exfalso; omega) | (obtain ⟨K2, er⟩ := (hH0 (by omega)).1; rw [show Q_text A c = (-100 - a1, Atp A 0 (AT A)) from by unfold Q_text; rw [if_pos b1, hLe, hTe, er, if_pos rfl]]; exact ⟨rfl, (hRR.txt hO1 h71 hF1), fun b hb => by rw [rmS_ne (by omega), mm_unq (by omega), hF1 b (by omega) (by omega)]⟩)
        ·
          have hok1 : ok = 1 := by omega
          refine R_lo (nx := 26) rfl rfl rfl rfl ?_
          refine R_call1 (nx := 29) (as := [(2, 71)]) (rest := []) rfl rfl (fun _ _ => rfl) rfl rfl rfl rfl rfl rfl rfl rfl (Cl.mono (c_M_here S1 L T (by assumption) a1 n1 q1 (by omega) (sk L T a1) rfl ) ?_)
          rintro _ _ ⟨rfl, rfl⟩
          have g26 := sk_ge L T a1
          have l26 := sk_le (L := L) T (p := a1) (by omega)
          have y26 := ct_m (S := S1) (L := L) (T := T) (by assumption) (p := (sk L T a1)) (by omega)
          refine ⟨_, rfl, ?_⟩
          refine R_if (nx := 32) (tg := 40) rfl rfl rfl (mm_cnd_lt _ _) (fun c29 => ?_) (fun c29 => ?_)
          ·
            have e29 : ct L T (sk L T a1) = -1 := by omega
            refine R_lo (nx := 41) rfl rfl rfl rfl ?_
            refine R_call1 (nx := 44) (as := [(2, 71)]) (rest := []) rfl rfl (fun _ _ => rfl) rfl rfl rfl rfl rfl rfl rfl rfl (Cl.mono (c_M_here S1 L T (by assumption) (sk L T a1) n1 q1 (by omega) (sk L T a1) (sk_sk L T _) ) ?_)
            rintro _ _ ⟨rfl, rfl⟩
            have y41_1 := ct_m (S := S1) (L := L) (T := T) (by assumption) (p := (sk L T a1)) (by omega)
            refine ⟨_, rfl, ?_⟩
            refine R_if (nx := 47) (tg := 54) rfl rfl rfl (mm_cnd_ge _ _) (fun c44_1 => ?_) (fun c44_1 => ?_)
            ·
              refine R_lo (nx := 55) rfl rfl rfl rfl ?_
              refine R_get (nx := 58) (w := (0, (sk L T a1))) rfl rfl rfl rfl ?_
              refine R_lo (nx := 59) (ls' := [(2, 71), (0, c), (0, ok), (0, (sk L T a1))]) rfl rfl rfl rfl ?_
              refine R_lo (nx := 60) rfl rfl rfl rfl ?_
              refine R_op (nx := 61) rfl rfl rfl ?_
              refine R_put (nx := 64) (kk := 21) rfl rfl rfl rfl rfl ?_
              rw [rmS_21]
              refine R_lo (nx := 65) rfl rfl rfl rfl ?_
              refine R_if (nx := 68) (tg := 73) rfl rfl rfl (mm_cnd_ne _ _) (fun c65_2 => ?_) (fun c65_2 => ?_)
              ·
                refine R_lo (nx := 74) rfl rfl rfl rfl ?_
                refine R_op (nx := 75) rfl rfl rfl ?_
                refine R_lo (nx := 76) rfl rfl rfl rfl ?_
                refine R_call0 (nx := 79) (as := [(2, 71), (0, 4), (0, c)]) (rest := []) rfl rfl (fun _ _ => rfl) rfl rfl rfl rfl rfl rfl rfl rfl (Cl.mono (c_M_copies (rmS (mm_up S1 71 21 0) (sk L T a1) n1 q1) 4 c (by omega) (by omega) (by omega) K1 (MR.rm ((hM1 (by omega)).up (by omega)))) ?_)
                rintro _ S76 ⟨rfl, m76, o76, f76⟩
                refine ⟨rfl, ?_⟩
                refine R_lo (nx := 80) rfl rfl rfl rfl ?_
                refine R_get (nx := 83) (w := (2, 72)) rfl rfl rfl rfl ?_
                refine R_lo (nx := 84) rfl rfl rfl rfl ?_
                refine R_iald (nx := 85) rfl rfl (mm_el_ok 1 5 (by decide) rfl (by decide) (by omega) (by omega)) ?_
                rw [m76.n]
                refine R_ret rfl (fun _ _ => rfl) rfl rfl ?_
                have er : rr L T = (1, sk L T a1, K1) := (hH1 (by omega)).trans (rr_end hV1 (by omega) (by omega))
                rw [show Q_text A c = (Xn K1, Akc (Atp A 0 (AT A)) c K1) from by unfold Q_text; rw [if_pos b1, hLe, hTe, er, if_neg (show ¬ (1 : Int) = 0 by decide)]]
                exact ⟨rfl, (hRR.txt hO1 h71 hF1).kc m76 o76 (R71.of (f76 71 (by omega))) (fun b hb => f76 b (by omega)), fun b hb => by rw [f76 b (by omega), rmS_ne (by omega), mm_unq (by omega), hF1 b (by omega) (by omega)]⟩
              ·
                replace c65_2 := Classical.not_not.mp c65_2
                refine R_op (nx := 70) rfl rfl rfl ?_
                refine R_lo (nx := 71) rfl rfl rfl rfl ?_
                refine R_isub (nx := 72) (z := ((-100) - (sk L T a1))) rfl rfl rfl ⟨by omega, by omega⟩ ?_
                refine R_cv (w := (-100 - a1)) (by omega) ?_
                refine R_ret rfl (fun _ _ => rfl) rfl rfl ?_
                first | (exfalso; omega) | (obtain ⟨K2, er⟩ := (hH0 (by omega)).1; rw [show Q_text A c = (-100 - a1, Atp A 0 (AT A)) from by unfold Q_text; rw [if_pos b1, hLe, hTe, er, if_pos rfl]]; exact ⟨rfl, (hRR.txt hO1 h71 hF1), fun b hb => by rw [rmS_ne (by omega), mm_unq (by omega), hF1 b (by omega) (by omega)]⟩)
            ·
              refine R_lo (nx := 48) rfl rfl rfl rfl ?_
              refine R_get (nx := 51) (w := (0, ((rmS S1 (sk L T a1) n1 q1) 71 21))) rfl rfl rfl rfl ?_
              rw [show ((rmS S1 (sk L T a1) n1 q1) 71 21) = L from (TPm.rm (by assumption)).2.1]
              refine R_op (nx := 54) (pc' := 58) rfl rfl rfl ?_
              refine R_lo (nx := 59) (ls' := [(2, 71), (0, c), (0, ok), (0, L)]) rfl rfl rfl rfl ?_
              refine R_lo (nx := 60) rfl rfl rfl rfl ?_
              refine R_op (nx := 61) rfl rfl rfl ?_
              refine R_put (nx := 64) (kk := 21) rfl rfl rfl rfl rfl ?_
              rw [rmS_21]
              refine R_lo (nx := 65) rfl rfl rfl rfl ?_
              refine R_if (nx := 68) (tg := 73) rfl rfl rfl (mm_cnd_ne _ _) (fun c65_3 => ?_) (fun c65_3 => ?_)
              ·
                refine R_lo (nx := 74) rfl rfl rfl rfl ?_
                refine R_op (nx := 75) rfl rfl rfl ?_
                refine R_lo (nx := 76) rfl rfl rfl rfl ?_
                refine R_call0 (nx := 79) (as := [(2, 71), (0, 4), (0, c)]) (rest := []) rfl rfl (fun _ _ => rfl) rfl rfl rfl rfl rfl rfl rfl rfl (Cl.mono (c_M_copies (rmS (mm_up S1 71 21 0) (sk L T a1) n1 q1) 4 c (by omega) (by omega) (by omega) K1 (MR.rm ((hM1 (by omega)).up (by omega)))) ?_)
                rintro _ S76 ⟨rfl, m76, o76, f76⟩
                refine ⟨rfl, ?_⟩
                refine R_lo (nx := 80) rfl rfl rfl rfl ?_
                refine R_get (nx := 83) (w := (2, 72)) rfl rfl rfl rfl ?_
                refine R_lo (nx := 84) rfl rfl rfl rfl ?_
                refine R_iald (nx := 85) rfl rfl (mm_el_ok 1 5 (by decide) rfl (by decide) (by omega) (by omega)) ?_
                rw [m76.n]
                refine R_ret rfl (fun _ _ => rfl) rfl rfl ?_
                have er : rr L T = (1, sk L T a1, K1) := (hH1 (by omega)).trans (rr_end hV1 (by omega) (by omega))
                rw [show Q_text A c = (Xn K1, Akc (Atp A 0 (AT A)) c K1) from by unfold Q_text; rw [if_pos b1, hLe, hTe, er, if_neg (show ¬ (1 : Int) = 0 by decide)]]
                exact ⟨rfl, (hRR.txt hO1 h71 hF1).kc m76 o76 (R71.of (f76 71 (by omega))) (fun b hb => f76 b (by omega)), fun b hb => by rw [f76 b (by omega), rmS_ne (by omega), mm_unq (by omega), hF1 b (by omega) (by omega)]⟩
              ·
                replace c65_3 := Classical.not_not.mp c65_3
                refine R_op (nx := 70) rfl rfl rfl ?_
                refine R_lo (nx := 71) rfl rfl rfl rfl ?_
                refine R_isub (nx := 72) (z := ((-100) - L)) rfl rfl rfl ⟨by omega, by omega⟩ ?_
                refine R_cv (w := (-100 - a1)) (by omega) ?_
                refine R_ret rfl (fun _ _ => rfl) rfl rfl ?_
                first | (exfalso; omega) | (obtain ⟨K2, er⟩ := (hH0 (by omega)).1; rw [show Q_text A c = (-100 - a1, Atp A 0 (AT A)) from by unfold Q_text; rw [if_pos b1, hLe, hTe, er, if_pos rfl]]; exact ⟨rfl, (hRR.txt hO1 h71 hF1), fun b hb => by rw [rmS_ne (by omega), mm_unq (by omega), hF1 b (by omega) (by omega)]⟩)
          ·
            refine R_lo (nx := 33) rfl rfl rfl rfl ?_
            refine R_call1 (nx := 36) (as := [(2, 71)]) (rest := []) rfl rfl (fun _ _ => rfl) rfl rfl rfl rfl rfl rfl rfl rfl (Cl.mono (c_M_readsCell S1 L T hT1 a1 (sk L T a1) n1 q1 (by omega) rfl (by omega) K1 (hM1 hok1) hV1) ?_)
            rintro _ _ (⟨rfl, K2, a2, n2, q2, S2, e33, p33, rfl, m33, v33, o33, f33⟩ | ⟨rfl, a2, K2, n2, q2, S2, e33, p33, s33, rfl, o33, f33⟩)
            ·
              refine ⟨_, rfl, ?_⟩
              refine R_lo (nx := 37) (ls' := [(2, 71), (0, c), (0, 1), (9, 0)]) rfl rfl rfl rfl ?_
              refine R_op (nx := 40) (pc' := 21) rfl rfl rfl ?_
              refine Rn.weak (ls' := [(2, 71), (0, c), (0, 1), (9, 0)]) ⟨Or.inl rfl, ⟨Or.inl rfl, ⟨Or.inl rfl, ⟨Or.inl rfl, trivial⟩⟩⟩⟩ ?_
              refine ih21 (S2) (K2) (a2) (n2) (q2) (1) ?_ ?_ ?_ ?_ ?_ ?_ ?_ ?_ ?_ ?_
              · omega
              · first | (intro q; exact absurd q (by decide)) | (intro _; exact m33)
              · first | exact v33 | exact hV1
              · omega
              · exact hO1.tr o33
              · intro b h1 h2; rw [f33 b (by omega) h2]; exact hF1 b h1 h2
              · intro k k1 k2 k3; rw [f33 71 (by omega) (by decide)]; exact h71 k k1 k2 k3
              · omega
              · first | (intro q; exact absurd q (by decide)) | (intro _; exact (hH1 hok1).trans e33)
              · first | (intro q; exact absurd q (by decide)) | (intro _; exact ⟨⟨K2, (hH1 hok1).trans e33⟩, s33⟩)
            ·
              refine ⟨_, rfl, ?_⟩
              refine R_lo (nx := 37) (ls' := [(2, 71), (0, c), (0, 0), (9, 0)]) rfl rfl rfl rfl ?_
              refine R_op (nx := 40) (pc' := 21) rfl rfl rfl ?_
              refine Rn.weak (ls' := [(2, 71), (0, c), (0, 0), (9, 0)]) ⟨Or.inl rfl, ⟨Or.inl rfl, ⟨Or.inl rfl, ⟨Or.inl rfl, trivial⟩⟩⟩⟩ ?_
              refine ih21 (S2) (K1) (a2) (n2) (q2) (0) ?_ ?_ ?_ ?_ ?_ ?_ ?_ ?_ ?_ ?_
              · omega
              · first | (intro q; exact absurd q (by decide)) | (intro _; exact m33)
              · first | exact v33 | exact hV1
              · omega
              · exact hO1.tr o33
              · intro b h1 h2; rw [f33 b (by omega) h2]; exact hF1 b h1 h2
              · intro k k1 k2 k3; rw [f33 71 (by omega) (by decide)]; exact h71 k k1 k2 k3
              · omega
              · first | (intro q; exact absurd q (by decide)) | (intro _; exact (hH1 hok1).trans e33)
              · first | (intro q; exact absurd q (by decide)) | (intro _; exact ⟨⟨K2, (hH1 hok1).trans e33⟩, s33⟩)
    refine Rn.weak (ls' := [(2, 71), (0, c), (0, 1), (9, 0)]) ⟨Or.inl rfl, ⟨Or.inl rfl, ⟨Or.inl rfl, ⟨Or.inl rfl, trivial⟩⟩⟩⟩ ?_
    refine L21 ((2 * (L + 1 - (0)) + (1)).toNat + 1) (S16) (Xz) (0) ((S 71 23)) ((S 71 24)) (1) (Nat.lt_succ_self _) ?_ ?_ ?_ ?_ ?_ ?_ ?_ ?_ ?_
    · intro _; exact m16
    · exact Xz_Vx
    · omega
    · intro c2 K2 p q r t; exact o16 c2 K2 p q r t.rm
    · intro b h1 h2; rw [f16 b (by omega)]; exact rmS_ne (by omega)
    · intro k k1 k2 k3; rw [f16 71 (by omega)]; exact ((if_pos rfl).trans ((if_neg k1).trans ((if_neg k2).trans (if_neg k3))))
    · omega
    · intro _; rfl
    · intro q; exact absurd q (by decide)
  ·
    refine ⟨_, rfl, ?_⟩
    refine R_ifF (nx := 7) rfl rfl rfl ?_
    refine R_op (nx := 8) rfl rfl rfl ?_
    refine R_ret rfl (fun _ _ => rfl) rfl rfl ?_
    rw [show Q_text A c = ((-1), A) from by simp only [Q_text, b1, ifo, ifm, ifp, iffq, ↓reduceIte, ite_self, and_self, and_true, true_and, and_false, false_and, or_true, true_or, or_false, false_or, or_self, not_true_eq_false, not_false_eq_true, ne_eq]]; exact ⟨rfl, hRR, fun b _ => rfl⟩
