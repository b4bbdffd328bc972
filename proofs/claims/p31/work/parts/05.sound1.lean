/-! The small machine's words in the real one's. -/
def mm_rl (σ : Nat → Nat) (v : mm_V) : Value := if v.1 = 0 then .int (Int32.ofInt v.2) else if v.1 = 1 then .long (Int64.ofInt v.2) else if v.2 < 0 then .null else .ref (σ v.2.toNat)
def mm_r32 (x : Int) : Prop := -2147483648 ≤ x ∧ x < 2147483648
def mm_r64 (x : Int) : Prop := -9223372036854775808 ≤ x ∧ x < 9223372036854775808
def mm_ir (v : mm_V) : Prop := (v.1 = 0 → mm_r32 v.2) ∧ (v.1 = 1 → mm_r64 v.2)
def mm_sok (S : mm_S) : Prop := ∀ a k : Int, ((mm_kd a.toNat).1 = 2 → mm_r64 (S a k)) ∧ ((mm_kd a.toNat).1 ≠ 2 → mm_r32 (S a k))
def mm_cellR (σ : Nat → Nat) (P : Nat → ClassId) (a : Nat) (R : Int → Int) : va_E :=
  if (mm_kd a).1 = 0 then .inr ((mm_kd a).2, (List.range (mm_nf (mm_kd a).2)).map fun k => mm_rl σ (mm_gw (mm_kd a).2 k a (R k) (mm_fk (mm_kd a).2 k)))
  else if (mm_kd a).1 = 2 then .inl (P 2, (mm_kd a).2, .inr (.inl fun j => Int64.ofInt (R j)))
  else if (mm_kd a).1 = 5 ∨ (mm_kd a).1 = 6 then .inl (P (mm_kd a).1, (mm_kd a).2, .inr (.inr (.inr (.inr fun j => some (σ (mm_ra a j).toNat)))))
  else .inl (P (mm_kd a).1, (mm_kd a).2, .inl fun j => Int32.ofInt (R j))
def mm_ws (σ : Nat → Nat) (P : Nat → ClassId) (S : mm_S) : va_W := (List.range 91).map fun a => (σ a, mm_cellR σ P a (S a))
def mm_tys (P : Nat → ClassId) : List (ClassId × FieldType) := [(P 1, .int), (P 2, .long), (P 3, .byte), (P 4, .boolean), (P 5, .object "PagesByLevels$Complex"), (P 6, .object "PagesByLevels$Sheet")]
def mm_nw (q : Nat × Nat × Nat × Nat) : Cond := .methodLinkNest (mm_cn q.1) q.2.1 (mm_hd q.2.2.1).1 "PagesByLevels"
theorem mm_w32_of (z : Int) : Int32.ofInt (mm_w32 z) = Int32.ofInt z := by
  apply Int32.toInt_inj.mp
  rw [Int32.toInt_ofInt, Int32.toInt_ofInt]
  exact Int.bmod_bmod
theorem mm_w64_of (z : Int) : Int64.ofInt (mm_w64 z) = Int64.ofInt z := by
  apply Int64.toInt_inj.mp
  rw [Int64.toInt_ofInt, Int64.toInt_ofInt]
  exact Int.bmod_bmod
theorem mm_w32_r (z : Int) : mm_r32 (mm_w32 z) := by
  unfold mm_w32 mm_r32
  rw [Int.bmod_def]
  split <;> omega
theorem mm_w64_r (z : Int) : mm_r64 (mm_w64 z) := by
  unfold mm_w64 mm_r64
  rw [Int.bmod_def]
  split <;> omega
theorem mm_toInt32 {x : Int} (h : mm_r32 x) : (Int32.ofInt x).toInt = x := Int32.toInt_ofInt_of_le (by have := h.1; omega) (by have := h.2; omega)
theorem mm_toInt64 {x : Int} (h : mm_r64 x) : (Int64.ofInt x).toInt = x := Int64.toInt_ofInt_of_le (by have := h.1; omega) (by have := h.2; omega)
theorem mm_i32_r (x : Int32) : mm_r32 x.toInt := ⟨by have := x.le_toInt; omega, by have := x.toInt_lt; omega⟩
theorem mm_i64_r (x : Int64) : mm_r64 x.toInt := ⟨by have := x.le_toInt; omega, by have := x.toInt_lt; omega⟩
theorem mm_eq32 {x y : Int} (hx : mm_r32 x) (hy : mm_r32 y) : Int32.ofInt x = Int32.ofInt y ↔ x = y := by rw [← Int32.toInt_inj, mm_toInt32 hx, mm_toInt32 hy]
theorem mm_lt32 {x y : Int} (hx : mm_r32 x) (hy : mm_r32 y) : Int32.ofInt x < Int32.ofInt y ↔ x < y := by rw [Int32.lt_iff_toInt_lt, mm_toInt32 hx, mm_toInt32 hy]
theorem mm_le32 {x y : Int} (hx : mm_r32 x) (hy : mm_r32 y) : Int32.ofInt x ≤ Int32.ofInt y ↔ x ≤ y := by rw [Int32.le_iff_toInt_le, mm_toInt32 hx, mm_toInt32 hy]
theorem mm_r32_0 : mm_r32 0 := by unfold mm_r32; omega
theorem mm_kd_lt {a : Nat} (h : (mm_kd a).1 < 99) : a < 91 := by
  rcases Nat.lt_or_ge a 91 with q | q
  · exact q
  · exfalso
    have e : mm_kd a = (99, 0) := by
      unfold mm_kd
      rw [List.getD_eq_getElem?_getD, List.getElem?_eq_none (by show mm_lay.length ≤ a; exact Nat.le_trans (by decide +kernel) q)]
      rfl
    rw [e] at h
    exact absurd h (by decide)
theorem mm_ws_get {σ : Nat → Nat} {P : Nat → ClassId} {S : mm_S} {a : Nat} (h : a < 91) : (mm_ws σ P S)[a]? = some (σ a, mm_cellR σ P a (S a)) := by
  unfold mm_ws
  rw [List.getElem?_map, List.getElem?_range h]
  rfl
theorem mm_ws_set {σ : Nat → Nat} {P : Nat → ClassId} {S S' : mm_S} {a : Nat} {c : va_E} (h : a < 91) (hc : mm_cellR σ P a (S' a) = c) (ho : ∀ b : Nat, b ≠ a → mm_cellR σ P b (S' b) = mm_cellR σ P b (S b)) : (mm_ws σ P S).set a (σ a, c) = mm_ws σ P S' := by
  apply List.ext_getElem?
  intro j
  by_cases hj : j = a
  · subst hj
    rw [List.getElem?_set_self (by show j < (mm_ws σ P S).length; unfold mm_ws; rw [List.length_map, List.length_range]; exact h), mm_ws_get h, hc]
  · rw [List.getElem?_set_ne (Ne.symm hj)]
    by_cases hl : j < 91
    · rw [mm_ws_get hl, mm_ws_get hl, ho j hj]
    · have h1 : ∀ S0 : mm_S, (mm_ws σ P S0)[j]? = none := fun S0 => List.getElem?_eq_none (by unfold mm_ws; rw [List.length_map, List.length_range]; omega)
      rw [h1, h1]
/-- the addresses are apart -/
def mm_ap (B0 : Nat) (σ : Nat → Nat) : Prop := (∀ i j, i < 91 → j < 91 → σ i = σ j → i = j) ∧ ∀ i, i < 91 → B0 ≤ σ i
theorem mm_ws_at {σ : Nat → Nat} {P : Nat → ClassId} {S : mm_S} {k : Nat} {q : Nat × va_E} (h : (mm_ws σ P S)[k]? = some q) : k < 91 ∧ q = (σ k, mm_cellR σ P k (S k)) := by
  have hl : k < 91 := by
    have := (List.getElem?_eq_some_iff.mp h).1
    unfold mm_ws at this
    rwa [List.length_map, List.length_range] at this
  rw [mm_ws_get hl] at h
  exact ⟨hl, (Option.some.inj h).symm⟩
theorem mm_ws_D {σ : Nat → Nat} {P : Nat → ClassId} {S : mm_S} {B0 : Nat} (h : mm_ap B0 σ) : va_D (fun q => B0 ≤ q) (mm_ws σ P S) := by
  refine ⟨fun i j p q hi hj e => ?_, fun k q hk => ?_⟩
  · obtain ⟨h1, rfl⟩ := mm_ws_at hi
    obtain ⟨h2, rfl⟩ := mm_ws_at hj
    exact h.1 i j h1 h2 e
  · obtain ⟨h1, rfl⟩ := mm_ws_at hk
    exact h.2 k h1
theorem mm_b2_inv {st : List mm_V} {t1 t2 : Nat} {x y : Int} {r : List mm_V} (h : mm_b2 st t1 t2 = some (x, y, r)) : st = (t2, y) :: (t1, x) :: r := by
  unfold mm_b2 at h
  split at h
  · split at h
    · rename_i h1
      cases h
      rw [← h1.1, ← h1.2]
    · cases h
  · cases h
theorem mm_b1_inv {st : List mm_V} {t : Nat} {x : Int} {r : List mm_V} (h : mm_b1 st t = some (x, r)) : st = (t, x) :: r := by
  unfold mm_b1 at h
  split at h
  · split at h
    · rename_i h1
      cases h
      rw [← h1]
    · cases h
  · cases h
theorem mm_bin_inv {pc : Nat} {st : List mm_V} {S : mm_S} {t1 t2 t : Nat} {f : Int → Int → Int} {pc' : Nat} {st' : List mm_V} {S' : mm_S} (h : mm_bin pc st S t1 t2 t f = some (pc', st', S')) : ∃ x y r, st = (t2, y) :: (t1, x) :: r ∧ pc' = pc ∧ st' = (t, f x y) :: r ∧ S' = S := by
  unfold mm_bin at h
  split at h
  · rename_i x y r h1
    cases h
    exact ⟨x, y, r, mm_b2_inv h1, rfl, rfl, rfl⟩
  · cases h
theorem mm_dv_inv {pc : Nat} {st : List mm_V} {S : mm_S} {t : Nat} {f : Int → Int → Int} {pc' : Nat} {st' : List mm_V} {S' : mm_S} (h : mm_dv pc st S t f = some (pc', st', S')) : ∃ x y r, st = (t, y) :: (t, x) :: r ∧ y ≠ 0 ∧ pc' = pc ∧ st' = (t, f x y) :: r ∧ S' = S := by
  unfold mm_dv at h
  split at h
  · rename_i x y r h1
    split at h
    · cases h
    · rename_i h2
      cases h
      exact ⟨x, y, r, mm_b2_inv h1, h2, rfl, rfl, rfl⟩
  · cases h
theorem mm_un_inv {pc : Nat} {st : List mm_V} {S : mm_S} {t1 t : Nat} {f : Int → Int} {pc' : Nat} {st' : List mm_V} {S' : mm_S} (h : mm_un pc st S t1 t f = some (pc', st', S')) : ∃ x r, st = (t1, x) :: r ∧ pc' = pc ∧ st' = (t, f x) :: r ∧ S' = S := by
  unfold mm_un at h
  split at h
  · rename_i x r h1
    cases h
    exact ⟨x, r, mm_b1_inv h1, rfl, rfl, rfl⟩
  · cases h
theorem mm_br1_inv {pc nx : Nat} {off : Int} {st : List mm_V} {S : mm_S} {t : Nat} {f : Int → Bool} {pc' : Nat} {st' : List mm_V} {S' : mm_S} (h : mm_br1 pc nx off st S t f = some (pc', st', S')) : ∃ x, st = (t, x) :: st' ∧ pc' = (if f x then ((pc : Int) + off).toNat else nx) ∧ S' = S := by
  unfold mm_br1 at h
  split at h
  · rename_i x r h1
    cases h
    exact ⟨x, mm_b1_inv h1, rfl, rfl⟩
  · cases h
theorem mm_br2_inv {pc nx : Nat} {off : Int} {st : List mm_V} {S : mm_S} {f : Int → Int → Bool} {pc' : Nat} {st' : List mm_V} {S' : mm_S} (h : mm_br2 pc nx off st S f = some (pc', st', S')) : ∃ x y, st = (0, y) :: (0, x) :: st' ∧ pc' = (if f x y then ((pc : Int) + off).toNat else nx) ∧ S' = S := by
  unfold mm_br2 at h
  split at h
  · rename_i x y r h1
    cases h
    exact ⟨x, y, mm_b2_inv h1, rfl, rfl⟩
  · cases h
theorem mm_el_inv {a i : Int} {ks : List Nat} (h : mm_el a i ks = true) : 0 ≤ a ∧ (mm_kd a.toNat).1 ∈ ks ∧ 0 ≤ i ∧ i < ((mm_kd a.toNat).2 : Int) := of_decide_eq_true h
theorem mm_ald_inv {pc : Nat} {st : List mm_V} {S : mm_S} {ks : List Nat} {f : Int → Int → mm_V} {pc' : Nat} {st' : List mm_V} {S' : mm_S} (h : mm_ald pc st S ks f = some (pc', st', S')) : ∃ a i r, st = (0, i) :: (2, a) :: r ∧ (0 ≤ a ∧ (mm_kd a.toNat).1 ∈ ks ∧ 0 ≤ i ∧ i < ((mm_kd a.toNat).2 : Int)) ∧ pc' = pc ∧ st' = f a i :: r ∧ S' = S := by
  unfold mm_ald at h
  split at h
  · rename_i a i r h1
    split at h
    · rename_i h2
      cases h
      exact ⟨a, i, r, mm_b2_inv h1, mm_el_inv h2, rfl, rfl, rfl⟩
    · cases h
  · cases h
theorem mm_ast_inv {pc : Nat} {st : List mm_V} {S : mm_S} {ks : List Nat} {t : Nat} {g : Nat → Int → Bool} {pc' : Nat} {st' : List mm_V} {S' : mm_S} (h : mm_ast pc st S ks t g = some (pc', st', S')) : ∃ a i x, st = (t, x) :: (0, i) :: (2, a) :: st' ∧ (0 ≤ a ∧ (mm_kd a.toNat).1 ∈ ks ∧ 0 ≤ i ∧ i < ((mm_kd a.toNat).2 : Int)) ∧ g (mm_kd a.toNat).1 x = true ∧ pc' = pc ∧ S' = mm_up S a i x := by
  unfold mm_ast at h
  split at h
  · rename_i x r h1
    split at h
    · rename_i a i q h2
      split at h
      · rename_i h3
        cases h
        rw [Bool.and_eq_true] at h3
        exact ⟨a, i, x, by rw [mm_b1_inv h1, mm_b2_inv h2], mm_el_inv h3.1, h3.2, rfl, rfl⟩
      · cases h
    · cases h
  · cases h
theorem mm_up_ne {S : mm_S} {a k x : Int} {b : Int} (h : b ≠ a) : mm_up S a k x b = S b := by
  funext j
  show (if b = a ∧ j = k then x else S b j) = S b j
  rw [if_neg (fun q => h q.1)]
theorem mm_up_at (S : mm_S) (a k x j : Int) : mm_up S a k x a j = if j = k then x else S a j := by
  show (if a = a ∧ j = k then x else S a j) = _
  by_cases h : j = k
  · rw [if_pos ⟨rfl, h⟩, if_pos h]
  · rw [if_neg (fun q => h q.2), if_neg h]
theorem mm_sok_up {S : mm_S} (h : mm_sok S) {a k x : Int} (hx : ((mm_kd a.toNat).1 = 2 → mm_r64 x) ∧ ((mm_kd a.toNat).1 ≠ 2 → mm_r32 x)) : mm_sok (mm_up S a k x) := by
  intro b j
  show _ ∧ _
  unfold mm_up
  by_cases e : b = a ∧ j = k
  · rw [if_pos e, e.1]; exact hx
  · rw [if_neg e]; exact h b j
