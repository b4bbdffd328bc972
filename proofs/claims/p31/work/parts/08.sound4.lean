/-! Every instruction of the small machine, over the real one. -/
theorem mm_op_ir {pc nx r1 r2 : Nat} {i : Instr} {r3 : Int} {own fr lo len : Nat} {st st' : List mm_V} {S S' : mm_S} {pc' : Nat} (hok : mm_iok own fr lo (pc, i, len, r1, r2, r3) = true) (ho : mm_op pc i nx r1 r2 r3 st S = some (pc', st', S')) (hir : ∀ v ∈ st, mm_ir v) (hsok : mm_sok S) : (∀ v ∈ st', mm_ir v) ∧ mm_sok S' := by
  have c0 : ∀ {x : Int} {r : List mm_V}, mm_r32 x → (∀ v ∈ r, mm_ir v) → ∀ v ∈ (0, x) :: r, mm_ir v := fun hx hr v hv => by
    rcases List.mem_cons.mp hv with rfl | hv
    · exact ⟨fun _ => hx, fun q => by cases q⟩
    · exact hr v hv
  have c1 : ∀ {x : Int} {r : List mm_V}, mm_r64 x → (∀ v ∈ r, mm_ir v) → ∀ v ∈ (1, x) :: r, mm_ir v := fun hx hr v hv => by
    rcases List.mem_cons.mp hv with rfl | hv
    · exact ⟨fun q => (by cases q), fun _ => hx⟩
    · exact hr v hv
  have c2 : ∀ {x : Int} {r : List mm_V}, (∀ v ∈ r, mm_ir v) → ∀ v ∈ (2, x) :: r, mm_ir v := fun hr v hv => by
    rcases List.mem_cons.mp hv with rfl | hv
    · exact ⟨fun q => (by cases q), fun q => by cases q⟩
    · exact hr v hv
  have tl : ∀ {w : mm_V} {r : List mm_V}, (∀ v ∈ w :: r, mm_ir v) → ∀ v ∈ r, mm_ir v := fun h v hv => h v (List.mem_cons_of_mem _ hv)
  have b0 : ∀ {t1 t2 : Nat} {f : Int → Int → Int}, mm_bin nx st S t1 t2 0 f = some (pc', st', S') → (∀ x y, mm_r32 (f x y)) → (∀ v ∈ st', mm_ir v) ∧ mm_sok S' := fun h hf => by
    obtain ⟨x, y, r, rfl, rfl, rfl, rfl⟩ := mm_bin_inv h
    exact ⟨c0 (hf x y) (tl (tl hir)), hsok⟩
  have b1 : ∀ {t1 t2 : Nat} {f : Int → Int → Int}, mm_bin nx st S t1 t2 1 f = some (pc', st', S') → (∀ x y, mm_r64 (f x y)) → (∀ v ∈ st', mm_ir v) ∧ mm_sok S' := fun h hf => by
    obtain ⟨x, y, r, rfl, rfl, rfl, rfl⟩ := mm_bin_inv h
    exact ⟨c1 (hf x y) (tl (tl hir)), hsok⟩
  have hmod : ∀ (x y : Int), y ≠ 0 → (mm_r32 x → mm_r32 y → mm_r32 (Int.tmod x y)) ∧ (mm_r64 x → mm_r64 y → mm_r64 (Int.tmod x y)) := fun x y hy => by
    have key : (Int.tmod x y).natAbs ≤ x.natAbs := by
      rw [Int.natAbs_tmod]
      exact Nat.mod_le _ _
    have hs : (0 ≤ x → 0 ≤ Int.tmod x y) := fun h => Int.tmod_nonneg y h
    refine ⟨fun h1 h2 => ?_, fun h1 h2 => ?_⟩
    · have e := mm_i32_r (Int32.ofInt x % Int32.ofInt y)
      rw [Int32.toInt_mod, mm_toInt32 h1, mm_toInt32 h2] at e
      exact e
    · have e := mm_i64_r (Int64.ofInt x % Int64.ofInt y)
      rw [Int64.toInt_mod, mm_toInt64 h1, mm_toInt64 h2] at e
      exact e
  cases i
  case aconst_null => cases ho; exact ⟨c2 hir, hsok⟩
  case iconst n => cases ho; exact ⟨c0 (by have h := of_decide_eq_true hok; exact ⟨by omega, by omega⟩) hir, hsok⟩
  case bipush n => cases ho; exact ⟨c0 (by have h := of_decide_eq_true hok; exact ⟨by omega, by omega⟩) hir, hsok⟩
  case sipush n => cases ho; exact ⟨c0 (by have h := of_decide_eq_true hok; exact ⟨by omega, by omega⟩) hir, hsok⟩
  case lconst n => cases ho; exact ⟨c1 ⟨by omega, by omega⟩ hir, hsok⟩
  case ldc n =>
    cases ho
    obtain ⟨q, hq, h⟩ := List.any_eq_true.mp hok
    have h := of_decide_eq_true h
    dsimp only at h
    have hw := (mm_lc_ok q hq).2
    rw [h.2.2] at hw
    exact ⟨c0 hw hir, hsok⟩
  case ldc_w n =>
    cases ho
    obtain ⟨q, hq, h⟩ := List.any_eq_true.mp hok
    have h := of_decide_eq_true h
    dsimp only at h
    have hw := (mm_lc_ok q hq).2
    rw [h.2.2] at hw
    exact ⟨c0 hw hir, hsok⟩
  case ldc2_w n =>
    cases ho
    obtain ⟨q, hq, h⟩ := List.any_eq_true.mp hok
    have h := of_decide_eq_true h
    dsimp only at h
    have hw := (mm_ll_ok q hq).2
    rw [h.2.2] at hw
    exact ⟨c1 hw hir, hsok⟩
  case dup =>
    match st, hir, ho with
    | v :: t, hir, ho =>
      replace ho : (if v.1 = 1 then none else some (nx, v :: v :: t, S)) = some (pc', st', S') := ho
      split at ho
      · cases ho
      · cases ho
        exact ⟨fun w hw => by rcases List.mem_cons.mp hw with rfl | hw; exact hir _ List.mem_cons_self; exact hir w hw, hsok⟩
  case pop =>
    match st, hir, ho with
    | v :: t, hir, ho =>
      replace ho : (if v.1 = 1 then none else some (nx, t, S)) = some (pc', st', S') := ho
      split at ho
      · cases ho
      · cases ho
        exact ⟨tl hir, hsok⟩
  case dup2 =>
    match st, hir, ho with
    | v :: w :: t, hir, ho =>
      replace ho : (if v.1 = 1 ∨ w.1 = 1 then none else some (nx, v :: w :: v :: w :: t, S)) = some (pc', st', S') := ho
      split at ho
      · cases ho
      · cases ho
        refine ⟨fun z hz => ?_, hsok⟩
        rcases List.mem_cons.mp hz with rfl | hz
        · exact hir _ List.mem_cons_self
        · rcases List.mem_cons.mp hz with rfl | hz
          · exact hir _ (List.mem_cons_of_mem _ List.mem_cons_self)
          · exact hir z hz
  case iadd => exact b0 ho (fun _ _ => mm_w32_r _)
  case isub => exact b0 ho (fun _ _ => mm_w32_r _)
  case imul => exact b0 ho (fun _ _ => mm_w32_r _)
  case iand => exact b0 ho (fun _ _ => mm_i32_r _)
  case ior => exact b0 ho (fun _ _ => mm_i32_r _)
  case ixor => exact b0 ho (fun _ _ => mm_i32_r _)
  case ishl => exact b0 ho (fun _ _ => mm_i32_r _)
  case ishr => exact b0 ho (fun _ _ => mm_i32_r _)
  case iushr => exact b0 ho (fun _ _ => mm_i32_r _)
  case ladd => exact b1 ho (fun _ _ => mm_w64_r _)
  case lsub => exact b1 ho (fun _ _ => mm_w64_r _)
  case lmul => exact b1 ho (fun _ _ => mm_w64_r _)
  case land => exact b1 ho (fun _ _ => mm_i64_r _)
  case lor => exact b1 ho (fun _ _ => mm_i64_r _)
  case lshl => exact b1 ho (fun _ _ => mm_i64_r _)
  case lshr => exact b1 ho (fun _ _ => mm_i64_r _)
  case lcmp => exact b0 ho (fun x y => by split <;> (try split) <;> (constructor <;> decide))
  case ineg =>
    obtain ⟨x, r, rfl, rfl, rfl, rfl⟩ := mm_un_inv ho
    exact ⟨c0 (mm_w32_r _) (tl hir), hsok⟩
  case lneg =>
    obtain ⟨x, r, rfl, rfl, rfl, rfl⟩ := mm_un_inv ho
    exact ⟨c1 (mm_w64_r _) (tl hir), hsok⟩
  case i2l =>
    obtain ⟨x, r, rfl, rfl, rfl, rfl⟩ := mm_un_inv ho
    have := (hir _ List.mem_cons_self).1 rfl
    exact ⟨c1 ⟨by have := this.1; omega, by have := this.2; omega⟩ (tl hir), hsok⟩
  case l2i =>
    obtain ⟨x, r, rfl, rfl, rfl, rfl⟩ := mm_un_inv ho
    exact ⟨c0 (mm_w32_r _) (tl hir), hsok⟩
  case i2b =>
    obtain ⟨x, r, rfl, rfl, rfl, rfl⟩ := mm_un_inv ho
    exact ⟨c0 ⟨by rw [Int.bmod_def]; split <;> omega, by rw [Int.bmod_def]; split <;> omega⟩ (tl hir), hsok⟩
  case idiv =>
    obtain ⟨x, y, r, rfl, hne, rfl, rfl, rfl⟩ := mm_dv_inv ho
    exact ⟨c0 (mm_w32_r _) (tl (tl hir)), hsok⟩
  case ldiv =>
    obtain ⟨x, y, r, rfl, hne, rfl, rfl, rfl⟩ := mm_dv_inv ho
    exact ⟨c1 (mm_w64_r _) (tl (tl hir)), hsok⟩
  case irem =>
    obtain ⟨x, y, r, rfl, hne, rfl, rfl, rfl⟩ := mm_dv_inv ho
    exact ⟨c0 ((hmod x y hne).1 ((hir _ (List.mem_cons_of_mem _ List.mem_cons_self)).1 rfl) ((hir _ List.mem_cons_self).1 rfl)) (tl (tl hir)), hsok⟩
  case lrem =>
    obtain ⟨x, y, r, rfl, hne, rfl, rfl, rfl⟩ := mm_dv_inv ho
    exact ⟨c1 ((hmod x y hne).2 ((hir _ (List.mem_cons_of_mem _ List.mem_cons_self)).2 rfl) ((hir _ List.mem_cons_self).2 rfl)) (tl (tl hir)), hsok⟩
  case if_icmp cnd off =>
    obtain ⟨x, y, rfl, -, rfl⟩ := mm_br2_inv ho
    exact ⟨tl (tl hir), hsok⟩
  case ifCond cnd off =>
    obtain ⟨x, rfl, -, rfl⟩ := mm_br1_inv ho
    exact ⟨tl hir, hsok⟩
  case ifnull off =>
    obtain ⟨x, rfl, -, rfl⟩ := mm_br1_inv ho
    exact ⟨tl hir, hsok⟩
  case ifnonnull off =>
    obtain ⟨x, rfl, -, rfl⟩ := mm_br1_inv ho
    exact ⟨tl hir, hsok⟩
  case goto off => cases ho; exact ⟨hir, hsok⟩
  case tableswitch d lw hi offs =>
    replace ho : (match mm_b1 st 0 with
      | some (x, r) => if lw ≤ x ∧ x ≤ hi then some (((pc : Int) + (offs[(x - lw).toNat]?).getD 0).toNat, r, S) else some (((pc : Int) + d).toNat, r, S)
      | none => none) = some (pc', st', S') := ho
    split at ho
    · rename_i x r h1
      have hst := mm_b1_inv h1
      subst hst
      split at ho <;> (cases ho; exact ⟨tl hir, hsok⟩)
    · cases ho
  case getfield n =>
    replace ho : (match mm_b1 st 2 with
      | some (a, t) => if mm_ob a r1 then some (nx, mm_gv S r1 r2 a (mm_fk r1 r2) :: t, S) else none
      | none => none) = some (pc', st', S') := ho
    split at ho
    · rename_i a t h1
      have hst := mm_b1_inv h1
      subst hst
      split at ho
      · rename_i h2
        cases ho
        obtain ⟨ha0, hkd⟩ := of_decide_eq_true h2
        refine ⟨fun v hv => ?_, hsok⟩
        rcases List.mem_cons.mp hv with rfl | hv
        · have h32 := (hsok a r2).2 (by rw [hkd]; exact (by decide : (0 : Nat) ≠ 2))
          unfold mm_gv mm_gw
          split
          · exact ⟨fun q => (by cases q), fun q => by cases q⟩
          · exact ⟨fun q => (by cases q), fun q => by cases q⟩
          · exact ⟨fun _ => h32, fun q => by cases q⟩
        · exact tl hir v hv
      · cases ho
    · cases ho
  case putfield n =>
    obtain ⟨u, x, a, rfl, hob, hpg, rfl, rfl⟩ := mm_putf_inv ho
    obtain ⟨ha0, hkd⟩ := of_decide_eq_true hob
    refine ⟨tl (tl hir), ?_⟩
    refine mm_sok_up hsok ⟨fun q => ?_, fun _ => ?_⟩
    · rw [hkd] at q; cases q
    · have h0 := (hir (u, x) List.mem_cons_self).1
      unfold mm_pg at hpg
      split at hpg
      · exact h0 (of_decide_eq_true hpg)
      · have h2 := of_decide_eq_true hpg
        exact ⟨by omega, by omega⟩
      · exact h0 (of_decide_eq_true hpg).1
      · cases hpg
  case iaload =>
    replace ho : (if r1 = 7 then (match mm_b2 st 2 0 with
      | some (a, j, r) => if a = 1000 ∧ 0 ≤ j ∧ j < S 1000 (-1) then some (nx, (0, S 1000 j) :: r, S) else none
      | none => none) else mm_ald nx st S [1] fun a j => (0, S a j)) = some (pc', st', S') := ho
    split at ho
    · split at ho
      · rename_i a j r h1
        have hst := mm_b2_inv h1
        subst hst
        split at ho
        · cases ho
          exact ⟨c0 ((hsok 1000 j).2 (by decide)) (tl (tl hir)), hsok⟩
        · cases ho
      · cases ho
    · obtain ⟨a, j, r, rfl, ⟨ha0, hks, -, -⟩, rfl, rfl, rfl⟩ := mm_ald_inv ho
      exact ⟨c0 ((hsok a j).2 (by rw [show (mm_kd a.toNat).1 = 1 by simpa using hks]; decide)) (tl (tl hir)), hsok⟩
  case baload =>
    obtain ⟨a, j, r, rfl, ⟨ha0, hks, -, -⟩, rfl, rfl, rfl⟩ := mm_ald_inv ho
    exact ⟨c0 ((hsok a j).2 (by rcases (show (mm_kd a.toNat).1 = 3 ∨ (mm_kd a.toNat).1 = 4 by simpa using hks) with h | h <;> rw [h] <;> decide)) (tl (tl hir)), hsok⟩
  case laload =>
    obtain ⟨a, j, r, rfl, ⟨ha0, hks, -, -⟩, rfl, rfl, rfl⟩ := mm_ald_inv ho
    exact ⟨c1 ((hsok a j).1 (show (mm_kd a.toNat).1 = 2 by simpa using hks)) (tl (tl hir)), hsok⟩
  case aaload =>
    obtain ⟨a, j, r, rfl, -, rfl, rfl, rfl⟩ := mm_ald_inv ho
    exact ⟨c2 (tl (tl hir)), hsok⟩
  case iastore =>
    obtain ⟨a, j, x, rfl, ⟨ha0, hks, -, -⟩, -, rfl, rfl⟩ := mm_ast_inv (pc := nx) (st := st) (S := S) (ks := [1]) (t := 0) (g := fun _ _ => true) ho
    have hx := (hir _ List.mem_cons_self).1 rfl
    exact ⟨tl (tl (tl hir)), mm_sok_up hsok ⟨fun _ => ⟨by have := hx.1; omega, by have := hx.2; omega⟩, fun _ => hx⟩⟩
  case bastore =>
    obtain ⟨a, j, x, rfl, ⟨ha0, hks, -, -⟩, -, rfl, rfl⟩ := mm_ast_inv (pc := nx) (st := st) (S := S) (ks := [3, 4]) (t := 0) (g := mm_fit) ho
    have hx := (hir _ List.mem_cons_self).1 rfl
    exact ⟨tl (tl (tl hir)), mm_sok_up hsok ⟨fun _ => ⟨by have := hx.1; omega, by have := hx.2; omega⟩, fun _ => hx⟩⟩
  case lastore =>
    obtain ⟨a, j, x, rfl, ⟨ha0, hks, -, -⟩, -, rfl, rfl⟩ := mm_ast_inv (pc := nx) (st := st) (S := S) (ks := [2]) (t := 1) (g := fun _ _ => true) ho
    have hx := (hir _ List.mem_cons_self).2 rfl
    exact ⟨tl (tl (tl hir)), mm_sok_up hsok ⟨fun _ => hx, fun q => absurd (show (mm_kd a.toNat).1 = 2 by simpa using hks) q⟩⟩
  case arraylength =>
    replace ho : (match mm_b1 st 2 with
      | some (a, t) => if r1 = 7 then (if a = 1000 then some (nx, (0, S 1000 (-1)) :: t, S) else none) else
        if 0 ≤ a ∧ 0 < (mm_kd a.toNat).1 ∧ (mm_kd a.toNat).1 < 7 then some (nx, (0, ((mm_kd a.toNat).2 : Int)) :: t, S) else none
      | none => none) = some (pc', st', S') := ho
    split at ho
    · rename_i a t h1
      have hst := mm_b1_inv h1
      subst hst
      split at ho
      · split at ho
        · cases ho
          exact ⟨c0 ((hsok 1000 (-1)).2 (by decide)) (tl hir), hsok⟩
        · cases ho
      · split at ho
        · rename_i h2
          cases ho
          have := (mm_lay_len _ (mm_kd99 (a := a.toNat) (by omega))).1
          exact ⟨c0 ⟨by omega, by omega⟩ (tl hir), hsok⟩
        · cases ho
    · cases ho
  case invokestatic n =>
    replace ho : (if r1 = 999 then mm_acp nx st S else none) = some (pc', st', S') := ho
    split at ho
    · unfold mm_acp at ho
      split at ho
      · rename_i n dp b sp a r
        split at ho
        · rename_i hg
          cases ho
          obtain ⟨ha0, hb0, -, -, -, -, -, hkk, -, -⟩ := hg
          refine ⟨tl (tl (tl (tl (tl hir)))), fun z k => ?_⟩
          unfold mm_cpy
          by_cases h : z = b ∧ dp ≤ k ∧ k < dp + n
          · rw [if_pos h, h.1, ← hkk]
            exact hsok a _
          · rw [if_neg h]
            exact hsok z k
        · cases ho
      · cases ho
    · cases ho
  all_goals (exact absurd ho (by intro q; cases q))
