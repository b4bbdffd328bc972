/-! The second small machine's words in the real one's: cells, what they refer to. -/
def cc_lt (N : Nat) (v : mm_V) : Prop := 2 ≤ v.1 → v.2 < (N : Int) ∨ v.2 = 1000
def cc_ok (N : Nat) (c : cc_C) : Prop := (c.1 = 0 → ∀ k, cc_isR c.2.1 k = true → c.2.2.getD k 0 < (N : Int) ∨ c.2.2.getD k 0 = 0) ∧ (c.1 = 5 ∨ c.1 = 6 → ∀ j, c.2.2.getD j (-1) < (N : Int))
def cc_oks (cs : List cc_C) : Prop := ∀ c ∈ cs, cc_ok cs.length c
theorem cc_sz_set : ∀ (cs : List cc_C) (i : Nat) (c c' : cc_C), cs[i]? = some c → c'.2.2.length = c.2.2.length → cc_sz (cs.set i c') = cc_sz cs
  | [], _, _, _, h, _ => by cases h
  | x :: r, 0, c, c', h, hl => by cases h; show c'.2.2.length + cc_sz r = _; rw [hl]; rfl
  | x :: r, i + 1, c, c', h, hl => by show x.2.2.length + cc_sz (r.set i c') = _; rw [cc_sz_set r i c c' h hl]; rfl
theorem cc_sz_app : ∀ (cs : List cc_C) (c : cc_C), cc_sz (cs ++ [c]) = cc_sz cs + c.2.2.length
  | [], c => by show c.2.2.length + 0 = 0 + _; omega
  | x :: r, c => by show x.2.2.length + cc_sz (r ++ [c]) = x.2.2.length + cc_sz r + _; rw [cc_sz_app r c]; omega
theorem cc_lt_mono {N M : Nat} (h : N ≤ M) {v : mm_V} (hv : cc_lt N v) : cc_lt M v := fun q => by
  rcases hv q with h1 | h1
  · exact Or.inl (by omega)
  · exact Or.inr h1
theorem cc_ok_mono {N M : Nat} (h : N ≤ M) {c : cc_C} (hc : cc_ok N c) : cc_ok M c := ⟨fun q k hk => by
  rcases hc.1 q k hk with h1 | h1
  · exact Or.inl (by omega)
  · exact Or.inr h1, fun q j => by have := hc.2 q j; omega⟩
theorem cc_put_inv {nx r1 r2 : Nat} {st : List mm_V} {cs : List cc_C} {pc' : Nat} {st' : List mm_V} {cs' : List cc_C} (h : cc_put nx r1 r2 st cs = some (pc', st', cs')) : ∃ u x a fs, st = (u, x) :: (2, a) :: st' ∧ cs[a.toNat]? = some (0, r1, fs) ∧ 0 ≤ a ∧ fs.length = mm_nf r1 ∧ ((cc_isR r1 r2 = true ∧ u = 2 ∧ -1 ≤ x ∧ x < (cs.length : Int)) ∨ (cc_isR r1 r2 = false ∧ u = 0 ∧ (mm_fk r1 r2 = 0 ∨ (mm_fk r1 r2 = 3 ∧ (x = 0 ∨ x = 1))))) ∧ pc' = nx ∧ cs' = cs.set a.toNat (0, r1, fs.set r2 x) := by
  unfold cc_put at h
  split at h
  · rename_i u x a t
    split at h
    · rename_i ci fs hc
      split at h
      · rename_i hg
        cases h
        obtain ⟨h0, rfl, hl, hk⟩ := hg
        refine ⟨u, x, a, fs, rfl, hc, h0, hl, ?_, rfl, rfl⟩
        rcases hk with ⟨hr, hu, h2⟩ | hk
        · have h2 := of_decide_eq_true h2
          exact Or.inl ⟨hr, hu, h2.1, h2.2⟩
        · exact Or.inr hk
      · cases h
    · cases h
  · cases h
theorem cc_get_inv {nx r1 r2 : Nat} {st : List mm_V} {cs : List cc_C} {pc' : Nat} {st' : List mm_V} {cs' : List cc_C} (h : cc_get nx r1 r2 st cs = some (pc', st', cs')) : ∃ a t fs, st = (2, a) :: t ∧ cs[a.toNat]? = some (0, r1, fs) ∧ 0 ≤ a ∧ fs.length = mm_nf r1 ∧ pc' = nx ∧ st' = (if cc_isR r1 r2 then 2 else 0, fs.getD r2 0) :: t ∧ cs' = cs := by
  unfold cc_get at h
  split at h
  · rename_i a t
    split at h
    · rename_i ci fs hc
      split at h
      · rename_i hg
        cases h
        obtain ⟨h0, rfl, hl⟩ := hg
        exact ⟨a, t, fs, rfl, hc, h0, hl, rfl, rfl, rfl⟩
      · cases h
    · cases h
  · cases h
theorem cc_ist_inv {nx : Nat} {st : List mm_V} {cs : List cc_C} {pc' : Nat} {st' : List mm_V} {cs' : List cc_C} (h : cc_ist nx st cs = some (pc', st', cs')) : ∃ x i a q l, st = (0, x) :: (0, i) :: (2, a) :: st' ∧ cs[a.toNat]? = some (1, q, l) ∧ 0 ≤ a ∧ 0 ≤ i ∧ i < (l.length : Int) ∧ i < 100000 ∧ pc' = nx ∧ cs' = cs.set a.toNat (1, q, l.set i.toNat x) := by
  unfold cc_ist at h
  split at h
  · rename_i x i a t
    split at h
    · rename_i q l hc
      split at h
      · rename_i hg
        cases h
        exact ⟨x, i, a, q, l, rfl, hc, hg.1, hg.2.1, hg.2.2.1, hg.2.2.2, rfl, rfl⟩
      · cases h
    · cases h
  · cases h
theorem cc_ast_inv {nx : Nat} {st : List mm_V} {cs : List cc_C} {pc' : Nat} {st' : List mm_V} {cs' : List cc_C} (h : cc_ast nx st cs = some (pc', st', cs')) : ∃ x i a k q l ci fs, st = (2, x) :: (0, i) :: (2, a) :: st' ∧ cs[a.toNat]? = some (k, q, l) ∧ cs[x.toNat]? = some (0, ci, fs) ∧ 0 ≤ a ∧ 0 ≤ i ∧ i < (l.length : Int) ∧ i < 100000 ∧ 0 ≤ x ∧ ((k = 5 ∧ ci = 1) ∨ (k = 6 ∧ ci = 7)) ∧ pc' = nx ∧ cs' = cs.set a.toNat (k, q, l.set i.toNat x) := by
  unfold cc_ast at h
  split at h
  · rename_i x i a t
    split at h
    · rename_i k q l ci fs hc1 hc2
      split at h
      · rename_i hg
        cases h
        exact ⟨x, i, a, k, q, l, ci, fs, rfl, hc1, hc2, hg.1, hg.2.1, hg.2.2.1, hg.2.2.2.1, hg.2.2.2.2.1, hg.2.2.2.2.2, rfl, rfl⟩
      · cases h
    · cases h
  · cases h
theorem cc_oks_set {cs : List cc_C} (h : cc_oks cs) {i : Nat} {c : cc_C} (hc : cc_ok cs.length c) : cc_oks (cs.set i c) := by
  intro x hx
  rw [List.length_set]
  rcases List.mem_or_eq_of_mem_set hx with h1 | rfl
  · exact h x h1
  · exact hc
theorem cc_oks_app {cs : List cc_C} (h : cc_oks cs) {c : cc_C} (hc : cc_ok (cs.length + 1) c) : cc_oks (cs ++ [c]) := by
  intro x hx
  rw [List.length_append, List.length_singleton]
  rcases List.mem_append.mp hx with h1 | h1
  · exact cc_ok_mono (Nat.le_succ _) (h x h1)
  · rw [List.mem_singleton] at h1; rw [h1]; exact hc
theorem cc_getD_set {l : List Int} {i j : Nat} {x d : Int} (hi : i < l.length) : (l.set i x).getD j d = if j = i then x else l.getD j d := by
  rw [List.getD_eq_getElem?_getD, List.getD_eq_getElem?_getD]
  by_cases h : j = i
  · subst h
    rw [if_pos rfl, List.getElem?_set_self hi]; rfl
  · rw [if_neg h, List.getElem?_set_ne (Ne.symm h)]
theorem cc_op_keep {pc nx r1 r2 : Nat} {i : Instr} {st st' : List mm_V} {cs cs' : List cc_C} {pc' : Nat} (ho : cc_op pc i nx r1 r2 st cs = some (pc', st', cs')) (hst : ∀ v ∈ st, cc_lt cs.length v) (hcs : cc_oks cs) : cs.length ≤ cs'.length ∧ cc_sz cs ≤ cc_sz cs' ∧ cc_oks cs' ∧ ∀ v ∈ st', cc_lt cs'.length v := by
  have tl : ∀ {w : mm_V} {r : List mm_V}, (∀ v ∈ w :: r, cc_lt cs.length v) → ∀ v ∈ r, cc_lt cs.length v := fun h v hv => h v (List.mem_cons_of_mem _ hv)
  have c0 : ∀ {t : Nat} {x : Int} {r : List mm_V} {N : Nat}, t < 2 → (∀ v ∈ r, cc_lt N v) → ∀ v ∈ (t, x) :: r, cc_lt N v := fun ht hr v hv => by
    rcases List.mem_cons.mp hv with rfl | hv
    · exact fun q => absurd ht (by dsimp only at q; omega)
    · exact hr v hv
  have c2 : ∀ {x : Int} {r : List mm_V} {N : Nat}, x < (N : Int) → (∀ v ∈ r, cc_lt N v) → ∀ v ∈ (2, x) :: r, cc_lt N v := fun hx hr v hv => by
    rcases List.mem_cons.mp hv with rfl | hv
    · exact fun _ => Or.inl hx
    · exact hr v hv
  have same : ∀ {s2 : List mm_V}, (∀ v ∈ s2, cc_lt cs.length v) → cs.length ≤ cs.length ∧ cc_sz cs ≤ cc_sz cs ∧ cc_oks cs ∧ ∀ v ∈ s2, cc_lt cs.length v := fun h => ⟨Nat.le_refl _, Nat.le_refl _, hcs, h⟩
  have appd : ∀ {s2 : List mm_V} {c : cc_C}, cc_ok (cs.length + 1) c → (∀ v ∈ s2, cc_lt cs.length v) → cs.length ≤ (cs ++ [c]).length ∧ cc_sz cs ≤ cc_sz (cs ++ [c]) ∧ cc_oks (cs ++ [c]) ∧ ∀ v ∈ (2, (cs.length : Int)) :: s2, cc_lt (cs ++ [c]).length v := fun {s2 c} hc h => by
    have hl : (cs ++ [c]).length = cs.length + 1 := List.length_append.trans rfl
    refine ⟨by rw [hl]; omega, by rw [cc_sz_app]; omega, cc_oks_app hcs hc, ?_⟩
    rw [hl]
    exact c2 (by omega) (fun v hv => cc_lt_mono (Nat.le_succ _) (h v hv))
  have setd : ∀ {s2 : List mm_V} {k : Nat} {c c' : cc_C}, cs[k]? = some c → c'.2.2.length = c.2.2.length → cc_ok cs.length c' → (∀ v ∈ s2, cc_lt cs.length v) → cs.length ≤ (cs.set k c').length ∧ cc_sz cs ≤ cc_sz (cs.set k c') ∧ cc_oks (cs.set k c') ∧ ∀ v ∈ s2, cc_lt (cs.set k c').length v := fun h1 h2 h3 h4 => by
    rw [List.length_set, cc_sz_set cs _ _ _ h1 h2]
    exact ⟨Nat.le_refl _, Nat.le_refl _, cc_oks_set hcs h3, h4⟩
  cases i
  case aconst_null => cases ho; exact same (c2 (by omega) hst)
  case iconst n => cases ho; exact same (c0 (by decide) hst)
  case bipush n => cases ho; exact same (c0 (by decide) hst)
  case sipush n => cases ho; exact same (c0 (by decide) hst)
  case dup =>
    match st, hst, ho with
    | v :: t, hst, ho =>
      replace ho : (if v.1 = 1 then none else some (nx, v :: v :: t, cs)) = some (pc', st', cs') := ho
      split at ho
      · cases ho
      · cases ho
        exact same (fun w hw => by rcases List.mem_cons.mp hw with rfl | hw; exact hst _ List.mem_cons_self; exact hst w hw)
  case goto off => cases ho; exact same hst
  case if_icmp cnd off =>
    cases cnd
    case ge =>
      replace ho : (match mm_b2 st 0 0 with
        | some (x, y, r) => if (-2147483648 ≤ x ∧ x < 2147483648) ∧ (-2147483648 ≤ y ∧ y < 2147483648) then some (if y ≤ x then ((pc : Int) + off).toNat else nx, r, cs) else none
        | none => none) = some (pc', st', cs') := ho
      split at ho
      · rename_i x y r h1
        split at ho
        · cases ho
          rw [mm_b2_inv h1] at hst
          exact same (tl (tl hst))
        · cases ho
      · cases ho
    all_goals (exact absurd ho (by intro q; cases q))
  case new idx =>
    replace ho : (if r1 < 9 ∧ cs.length < 1000 then some (nx, (2, (cs.length : Int)) :: st, cs ++ [cc_new r1]) else none) = some (pc', st', cs') := ho
    split at ho
    · cases ho
      refine appd ⟨fun _ k hk => ?_, fun h => ?_⟩ hst
      · unfold cc_new
        dsimp only
        rw [List.getD_eq_getElem?_getD, List.getElem?_map]
        by_cases hl : k < mm_nf r1
        · rw [List.getElem?_range hl]
          have hk' : cc_isR r1 k = true := hk
          left
          simp only [Option.map_some, Option.getD_some, hk', if_true]
          omega
        · rw [List.getElem?_eq_none (by rw [List.length_range]; omega)]
          right; rfl
      · rcases h with h | h <;> cases h
    · cases ho
  case newarray t =>
    replace ho : (match mm_b1 st 0 with
      | some (n, r) => if 0 ≤ n ∧ n < 100000 ∧ r1 ∈ [1, 2, 3, 4] ∧ cs.length < 1000 then some (nx, (2, (cs.length : Int)) :: r, cs ++ [(r1, 0, List.replicate n.toNat 0)]) else none
      | none => none) = some (pc', st', cs') := ho
    split at ho
    · rename_i n r h1
      split at ho
      · rename_i hg
        cases ho
        rw [mm_b1_inv h1] at hst
        have h14 := hg.2.2.1
        simp only [List.mem_cons, List.not_mem_nil, or_false] at h14
        refine appd ⟨fun h => ?_, fun h => ?_⟩ (tl hst)
        · dsimp only at h; omega
        · dsimp only at h; omega
      · cases ho
    · cases ho
  case anewarray idx =>
    replace ho : (match mm_b1 st 0 with
      | some (n, r) => if 0 ≤ n ∧ n < 100000 ∧ r1 ∈ [5, 6] ∧ cs.length < 1000 then some (nx, (2, (cs.length : Int)) :: r, cs ++ [(r1, 0, List.replicate n.toNat (-1))]) else none
      | none => none) = some (pc', st', cs') := ho
    split at ho
    · rename_i n r h1
      split at ho
      · rename_i hg
        cases ho
        rw [mm_b1_inv h1] at hst
        have h14 := hg.2.2.1
        simp only [List.mem_cons, List.not_mem_nil, or_false] at h14
        refine appd ⟨fun h => ?_, fun h j => ?_⟩ (tl hst)
        · dsimp only at h; omega
        · dsimp only
          rw [List.getD_eq_getElem?_getD, List.getElem?_replicate]
          split
          · show (-1 : Int) < _; omega
          · show (-1 : Int) < _; omega
      · cases ho
    · cases ho
  case putfield idx =>
    obtain ⟨u, x, a, fs, rfl, hc, h0, hl, hk, rfl, rfl⟩ := cc_put_inv ho
    refine setd hc (List.length_set ..) ⟨fun _ k hkk => ?_, fun h => ?_⟩ (tl (tl hst))
    · have hold := (hcs _ (List.mem_of_getElem? hc)).1 rfl k hkk
      dsimp only at hkk hold ⊢
      by_cases hr2 : r2 < fs.length
      · rw [cc_getD_set hr2]
        by_cases e : k = r2
        · rw [if_pos e]
          rcases hk with ⟨hr, hu, hx1, hx2⟩ | ⟨hr, -⟩
          · exact Or.inl hx2
          · rw [e, hr] at hkk; cases hkk
        · rw [if_neg e]; exact hold
      · rw [List.set_eq_of_length_le (by omega)]; exact hold
    · dsimp only at h; omega
  case getfield idx =>
    obtain ⟨a, t, fs, rfl, hc, h0, hl, rfl, rfl, rfl⟩ := cc_get_inv ho
    refine same (fun v hv => ?_)
    rcases List.mem_cons.mp hv with rfl | hv
    · intro q
      dsimp only at q ⊢
      by_cases hr : cc_isR r1 r2 = true
      · have hold := (hcs _ (List.mem_of_getElem? hc)).1 rfl r2 hr
        dsimp only at hold
        have hpos : 0 < cs'.length := by
          have := (List.getElem?_eq_some_iff.mp hc).1
          omega
        rcases hold with h1 | h1
        · exact Or.inl h1
        · exact Or.inl (by omega)
      · rw [if_neg hr] at q; omega
    · exact tl hst v hv
  case iastore =>
    obtain ⟨x, i, a, q, l, rfl, hc, h0, hi0, hi1, hi2, rfl, rfl⟩ := cc_ist_inv ho
    refine setd hc (List.length_set ..) ⟨fun h => ?_, fun h => ?_⟩ (tl (tl (tl hst)))
    · dsimp only at h; omega
    · dsimp only at h; omega
  case aastore =>
    obtain ⟨x, i, a, k, q, l, ci, fs, rfl, hc, hcx, h0, hi0, hi1, hi2, hx0, hk, rfl, rfl⟩ := cc_ast_inv ho
    refine setd hc (List.length_set ..) ⟨fun h => ?_, fun h j => ?_⟩ (tl (tl (tl hst)))
    · dsimp only at h; omega
    · have hold := (hcs _ (List.mem_of_getElem? hc)).2 h j
      dsimp only at hold ⊢
      rw [cc_getD_set (by omega)]
      split
      · have := (List.getElem?_eq_some_iff.mp hcx).1
        omega
      · exact hold
  case invokespecial idx =>
    replace ho : (if r1 = 998 then (match st with
      | (2, a) :: t => if 0 ≤ a ∧ a < (cs.length : Int) ∧ mm_cs t ≤ 8 then some (nx, t, cs) else none
      | _ => none) else none) = some (pc', st', cs') := ho
    split at ho
    · split at ho
      · split at ho
        · cases ho
          exact same (tl hst)
        · cases ho
      · cases ho
    · cases ho
  all_goals (exact absurd ho (by intro q; cases q))
