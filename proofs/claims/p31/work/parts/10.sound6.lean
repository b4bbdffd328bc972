/-! Frames and calls. -/
theorem mm_op_1000 {pc nx r1 r2 : Nat} {i : Instr} {r3 : Int} {st st' : List mm_V} {S S' : mm_S} {pc' : Nat} (ho : mm_op pc i nx r1 r2 r3 st S = some (pc', st', S')) : S' 1000 = S 1000 := by
  have hu : ∀ {a k x : Int}, (mm_kd a.toNat).1 < 99 → mm_up S a k x 1000 = S 1000 := fun h => mm_up_ne (fun q => by rw [← q] at h; exact absurd h (by decide))
  cases i
  case iadd => obtain ⟨_, _, _, _, _, _, h⟩ := mm_bin_inv ho; rw [h]
  case isub => obtain ⟨_, _, _, _, _, _, h⟩ := mm_bin_inv ho; rw [h]
  case imul => obtain ⟨_, _, _, _, _, _, h⟩ := mm_bin_inv ho; rw [h]
  case iand => obtain ⟨_, _, _, _, _, _, h⟩ := mm_bin_inv ho; rw [h]
  case ior => obtain ⟨_, _, _, _, _, _, h⟩ := mm_bin_inv ho; rw [h]
  case ixor => obtain ⟨_, _, _, _, _, _, h⟩ := mm_bin_inv ho; rw [h]
  case ishl => obtain ⟨_, _, _, _, _, _, h⟩ := mm_bin_inv ho; rw [h]
  case ishr => obtain ⟨_, _, _, _, _, _, h⟩ := mm_bin_inv ho; rw [h]
  case iushr => obtain ⟨_, _, _, _, _, _, h⟩ := mm_bin_inv ho; rw [h]
  case ladd => obtain ⟨_, _, _, _, _, _, h⟩ := mm_bin_inv ho; rw [h]
  case lsub => obtain ⟨_, _, _, _, _, _, h⟩ := mm_bin_inv ho; rw [h]
  case lmul => obtain ⟨_, _, _, _, _, _, h⟩ := mm_bin_inv ho; rw [h]
  case land => obtain ⟨_, _, _, _, _, _, h⟩ := mm_bin_inv ho; rw [h]
  case lor => obtain ⟨_, _, _, _, _, _, h⟩ := mm_bin_inv ho; rw [h]
  case lshl => obtain ⟨_, _, _, _, _, _, h⟩ := mm_bin_inv ho; rw [h]
  case lshr => obtain ⟨_, _, _, _, _, _, h⟩ := mm_bin_inv ho; rw [h]
  case lcmp => obtain ⟨_, _, _, _, _, _, h⟩ := mm_bin_inv ho; rw [h]
  case ineg => obtain ⟨_, _, _, _, _, h⟩ := mm_un_inv ho; rw [h]
  case lneg => obtain ⟨_, _, _, _, _, h⟩ := mm_un_inv ho; rw [h]
  case i2l => obtain ⟨_, _, _, _, _, h⟩ := mm_un_inv ho; rw [h]
  case l2i => obtain ⟨_, _, _, _, _, h⟩ := mm_un_inv ho; rw [h]
  case i2b => obtain ⟨_, _, _, _, _, h⟩ := mm_un_inv ho; rw [h]
  case idiv => obtain ⟨_, _, _, _, _, _, _, h⟩ := mm_dv_inv ho; rw [h]
  case ldiv => obtain ⟨_, _, _, _, _, _, _, h⟩ := mm_dv_inv ho; rw [h]
  case irem => obtain ⟨_, _, _, _, _, _, _, h⟩ := mm_dv_inv ho; rw [h]
  case lrem => obtain ⟨_, _, _, _, _, _, _, h⟩ := mm_dv_inv ho; rw [h]
  case aconst_null => cases ho; rfl
  case iconst n => cases ho; rfl
  case bipush n => cases ho; rfl
  case sipush n => cases ho; rfl
  case lconst n => cases ho; rfl
  case ldc n => cases ho; rfl
  case ldc_w n => cases ho; rfl
  case ldc2_w n => cases ho; rfl
  case goto off => cases ho; rfl
  case if_icmp cnd off => obtain ⟨_, _, _, _, h⟩ := mm_br2_inv ho; rw [h]
  case ifCond cnd off => obtain ⟨_, _, _, h⟩ := mm_br1_inv ho; rw [h]
  case ifnull off => obtain ⟨_, _, _, h⟩ := mm_br1_inv ho; rw [h]
  case ifnonnull off => obtain ⟨_, _, _, h⟩ := mm_br1_inv ho; rw [h]
  case laload => obtain ⟨_, _, _, _, _, _, _, h⟩ := mm_ald_inv ho; rw [h]
  case baload => obtain ⟨_, _, _, _, _, _, _, h⟩ := mm_ald_inv ho; rw [h]
  case aaload => obtain ⟨_, _, _, _, _, _, _, h⟩ := mm_ald_inv ho; rw [h]
  case dup =>
    match st, ho with
    | v :: t, ho =>
      replace ho : (if v.1 = 1 then none else some (nx, v :: v :: t, S)) = some (pc', st', S') := ho
      split at ho <;> cases ho; rfl
  case pop =>
    match st, ho with
    | v :: t, ho =>
      replace ho : (if v.1 = 1 then none else some (nx, t, S)) = some (pc', st', S') := ho
      split at ho <;> cases ho; rfl
  case dup2 =>
    match st, ho with
    | v :: w :: t, ho =>
      replace ho : (if v.1 = 1 ∨ w.1 = 1 then none else some (nx, v :: w :: v :: w :: t, S)) = some (pc', st', S') := ho
      split at ho <;> cases ho; rfl
  case tableswitch d lw hi offs =>
    replace ho : (match mm_b1 st 0 with
      | some (x, r) => if lw ≤ x ∧ x ≤ hi then some (((pc : Int) + (offs[(x - lw).toNat]?).getD 0).toNat, r, S) else some (((pc : Int) + d).toNat, r, S)
      | none => none) = some (pc', st', S') := ho
    split at ho
    · split at ho <;> cases ho <;> rfl
    · cases ho
  case getfield n =>
    replace ho : (match mm_b1 st 2 with
      | some (a, t) => if mm_ob a r1 then some (nx, mm_gv S r1 r2 a (mm_fk r1 r2) :: t, S) else none
      | none => none) = some (pc', st', S') := ho
    split at ho
    · split at ho <;> cases ho; rfl
    · cases ho
  case putfield n =>
    obtain ⟨u, x, a, -, hob, -, -, rfl⟩ := mm_putf_inv ho
    exact hu (by rw [(of_decide_eq_true hob).2]; exact (by decide : (0 : Nat) < 99))
  case iaload =>
    replace ho : (if r1 = 7 then (match mm_b2 st 2 0 with
      | some (a, j, r) => if a = 1000 ∧ 0 ≤ j ∧ j < S 1000 (-1) then some (nx, (0, S 1000 j) :: r, S) else none
      | none => none) else mm_ald nx st S [1] fun a j => (0, S a j)) = some (pc', st', S') := ho
    split at ho
    · split at ho
      · split at ho <;> cases ho; rfl
      · cases ho
    · obtain ⟨_, _, _, _, _, _, _, h⟩ := mm_ald_inv ho
      rw [h]
  case iastore =>
    obtain ⟨a, j, x, -, ⟨-, hks, -, -⟩, -, -, rfl⟩ := mm_ast_inv (pc := nx) (st := st) (S := S) (ks := [1]) (t := 0) (g := fun _ _ => true) ho
    exact hu (by rw [show (mm_kd a.toNat).1 = 1 by simpa using hks]; decide)
  case lastore =>
    obtain ⟨a, j, x, -, ⟨-, hks, -, -⟩, -, -, rfl⟩ := mm_ast_inv (pc := nx) (st := st) (S := S) (ks := [2]) (t := 1) (g := fun _ _ => true) ho
    exact hu (by rw [show (mm_kd a.toNat).1 = 2 by simpa using hks]; decide)
  case bastore =>
    obtain ⟨a, j, x, -, ⟨-, hks, -, -⟩, -, -, rfl⟩ := mm_ast_inv (pc := nx) (st := st) (S := S) (ks := [3, 4]) (t := 0) (g := mm_fit) ho
    exact hu (by rcases (show (mm_kd a.toNat).1 = 3 ∨ (mm_kd a.toNat).1 = 4 by simpa using hks) with h | h <;> rw [h] <;> decide)
  case arraylength =>
    replace ho : (match mm_b1 st 2 with
      | some (a, t) => if r1 = 7 then (if a = 1000 then some (nx, (0, S 1000 (-1)) :: t, S) else none) else
        if 0 ≤ a ∧ 0 < (mm_kd a.toNat).1 ∧ (mm_kd a.toNat).1 < 7 then some (nx, (0, ((mm_kd a.toNat).2 : Int)) :: t, S) else none
      | none => none) = some (pc', st', S') := ho
    split at ho
    · split at ho
      · split at ho <;> cases ho; rfl
      · split at ho <;> cases ho; rfl
    · cases ho
  case invokestatic n =>
    replace ho : (if r1 = 999 then mm_acp nx st S else none) = some (pc', st', S') := ho
    split at ho
    · unfold mm_acp at ho
      split at ho
      · rename_i n dp b sp a r
        split at ho
        · rename_i hg
          cases ho
          obtain ⟨-, -, -, -, -, -, -, hkk, hk, -⟩ := hg
          funext j
          unfold mm_cpy
          rw [if_neg (fun q => ?_)]
          have h1 := q.1
          rw [hkk, ← h1] at hk
          exact absurd hk (by decide)
        · cases ho
      · cases ho
    · cases ho
  all_goals (exact absurd ho (by intro q; cases q))
def mm_MetOK_code (k : Nat) : Prop := ∀ e ∈ (mm_T k).1, mm_eok (mm_hd k).2.2.2.2.1 (mm_hd k).2.2.2.2.2.1 (mm_hd k).2.2.2.2.2.2.1 (mm_hd k).2.1 e = true
theorem mm_code_ok {k : Nat} (hk : k < 190) : mm_MetOK_code k := fun e he => List.all_eq_true.mp (mm_mok_all k hk).1 e he
theorem mm_find_mem : ∀ {cd : List mm_E} {pc : Nat} {e : mm_E}, mm_find cd pc = some e → e ∈ cd ∧ e.1 = pc
  | [], _, _, h => by cases h
  | x :: r, pc, e, h => by
    unfold mm_find at h
    split at h
    · rename_i h1
      cases h
      exact ⟨List.mem_cons_self, h1⟩
    · obtain ⟨a, b⟩ := mm_find_mem h
      exact ⟨List.mem_cons_of_mem _ a, b⟩
theorem mm_eok_inv {own fr lo : Nat} {bytes : ByteArray} {e : mm_E} (h : mm_eok own fr lo bytes e = true) : decode bytes e.1 = .ok (e.2.1, e.2.2.1) ∧ (mm_il e.2.1 = 0 ∨ e.2.2.1 = mm_il e.2.1) ∧ mm_iok own fr lo e = true := by
  unfold mm_eok at h
  rw [Bool.and_eq_true, Bool.and_eq_true] at h
  exact ⟨of_decide_eq_true h.1, of_decide_eq_true h.2.1, h.2.2⟩
theorem mm_ret_inv {r1 : Nat} {i : Instr} {st : List mm_V} {v : Option mm_V} (h : mm_ret r1 i st = some v) : (i = .ireturn ∧ ∃ x, st = [(0, x)] ∧ v = some (0, x) ∧ (r1 = 1 → x = 0 ∨ x = 1)) ∨ (i = .lreturn ∧ ∃ x, st = [(1, x)] ∧ v = some (1, x)) ∨ (i = .areturn ∧ ∃ x, st = [(2, x)] ∧ v = some (2, x)) ∨ (i = .return_ ∧ st = [] ∧ v = none) := by
  unfold mm_ret at h
  split at h
  · split at h
    · rename_i x
      split at h
      · cases h
      · rename_i hc
        cases h
        exact Or.inl ⟨rfl, x, rfl, rfl, fun h1 => Classical.byContradiction fun h2 => hc ⟨h1, h2⟩⟩
    · cases h
  · split at h
    · rename_i x
      cases h
      exact Or.inr (Or.inl ⟨rfl, x, rfl, rfl⟩)
    · cases h
  · split at h
    · rename_i x
      cases h
      exact Or.inr (Or.inr (Or.inl ⟨rfl, x, rfl, rfl⟩))
    · cases h
  · split at h
    · cases h
      exact Or.inr (Or.inr (Or.inr ⟨rfl, rfl, rfl⟩))
    · cases h
  · cases h
theorem mm_ret_ir {r1 : Nat} {i : Instr} {st : List mm_V} {v : Option mm_V} (h : mm_ret r1 i st = some v) (hst : ∀ w ∈ st, mm_ir w) : ∀ w ∈ v, mm_ir w := by
  rcases mm_ret_inv h with ⟨-, x, rfl, rfl, -⟩ | ⟨-, x, rfl, rfl⟩ | ⟨-, x, rfl, rfl⟩ | ⟨-, rfl, rfl⟩
  · intro w hw; cases hw; exact hst _ List.mem_cons_self
  · intro w hw; cases hw; exact hst _ List.mem_cons_self
  · intro w hw; cases hw; exact hst _ List.mem_cons_self
  · intro w hw; cases hw
theorem mm_cok_inv {own fr lo idx r1 r2 : Nat} {r3 : Int} {b : Bool} (h : mm_cok own fr lo idx r1 r2 r3 b = true) : r1 < 190 ∧ ((∃ q ∈ mm_lm, q.1 = own ∧ q.2.1 = idx ∧ q.2.2.1 = r1) ∨ (b = false ∧ ∃ q ∈ mm_ln, q.1 = own ∧ q.2.1 = idx ∧ q.2.2.1 = r1)) ∧ ((mm_hd r1).2.2.2.2.2.2.2.2 = !b ∧ r2 = (mm_hd r1).2.2.2.2.2.2.2.1 + (if b then 1 else 0) ∧ r3 = (if b then ((mm_hd r1).2.2.2.2.1 : Int) + 1 else 0) ∧ (mm_hd r1).2.2.2.2.2.1 + 1 ≤ fr ∧ 8 + ((mm_hd r1).2.2.1 + 11) + (mm_hd r1).2.2.2.2.2.2.1 ≤ lo) := by
  unfold mm_cok at h
  rw [Bool.and_eq_true, Bool.and_eq_true, Bool.or_eq_true, Bool.and_eq_true] at h
  refine ⟨of_decide_eq_true h.1, ?_, of_decide_eq_true h.2.2⟩
  rcases h.2.1 with h1 | h1
  · obtain ⟨q, hq, hh⟩ := List.any_eq_true.mp h1
    exact Or.inl ⟨q, hq, of_decide_eq_true hh⟩
  · obtain ⟨q, hq, hh⟩ := List.any_eq_true.mp h1.2
    exact Or.inr ⟨by simpa using h1.1, q, hq, of_decide_eq_true hh⟩
/-- what an instruction of a call says -/
theorem mm_isv_iok {own fr lo : Nat} {e : mm_E} {b : Bool} {st : List mm_V} {S : mm_S} (hv : mm_isv e.2.1 = some b) (hok : mm_iok own fr lo e = true) : (∃ idx, e.2.1 = (if b then Instr.invokevirtual idx else Instr.invokestatic idx) ∧ (b = false ∧ e.2.2.2.1 = 999 ∨ mm_cok own fr lo idx e.2.2.2.1 e.2.2.2.2.1 e.2.2.2.2.2 b = true)) := by
  obtain ⟨pc, i, len, r1, r2, r3⟩ := e
  cases i
  case invokevirtual idx => cases hv; exact ⟨idx, rfl, Or.inr hok⟩
  case invokestatic idx =>
    cases hv
    refine ⟨idx, rfl, ?_⟩
    by_cases h : r1 = 999
    · exact Or.inl ⟨rfl, h⟩
    · replace hok : (if r1 = 999 then _ else mm_cok own fr lo idx r1 r2 r3 false) = true := hok
      rw [if_neg h] at hok
      exact Or.inr hok
  all_goals (exact absurd hv (by intro q; cases q))
theorem mm_ent_ir {n : Nat} {as : List mm_V} (h : ∀ v ∈ as, mm_ir v) : ∀ v ∈ mm_ent n as, mm_ir v := by
  have h9 : mm_ir (9, 0) := ⟨fun q => (by cases q), fun q => (by cases q)⟩
  have key : ∀ as : List mm_V, (∀ v ∈ as, mm_ir v) → ∀ v ∈ mm_args as, mm_ir v := by
    intro as
    induction as with
    | nil => intro _ v hv; cases hv
    | cons a r ih =>
      intro h v hv
      unfold mm_args at hv
      split at hv
      · rcases List.mem_cons.mp hv with rfl | hv
        · exact h _ List.mem_cons_self
        · rcases List.mem_cons.mp hv with rfl | hv
          · exact h9
          · exact ih (fun w hw => h w (List.mem_cons_of_mem _ hw)) v hv
      · rcases List.mem_cons.mp hv with rfl | hv
        · exact h _ List.mem_cons_self
        · exact ih (fun w hw => h w (List.mem_cons_of_mem _ hw)) v hv
  intro v hv
  unfold mm_ent at hv
  rcases List.mem_append.mp hv with hv | hv
  · exact key as h v hv
  · rw [(List.mem_replicate.mp hv).2]; exact h9
/-- numbers stay in their ranges; the script stays -/
theorem mm_ex_keep : ∀ (n : Nat) {own fr lo : Nat} {bytes : ByteArray} (cd : List mm_E) (pc : Nat) (ls st : List mm_V) (S : mm_S) (v : Option mm_V) (S' : mm_S), (∀ x ∈ cd, mm_eok own fr lo bytes x = true) → mm_ex mm_T n cd pc ls st S = some (v, S') → (∀ w ∈ ls, mm_ir w) → (∀ w ∈ st, mm_ir w) → mm_sok S → (∀ w ∈ v, mm_ir w) ∧ mm_sok S' ∧ S' 1000 = S 1000
  | 0, _, _, _, _, _, _, _, _, _, _, _, _, h, _, _, _ => by cases h
  | n + 1, own, fr, lo, bytes, cd, pc, ls, st, S, v, S', hcd, h, hls, hst, hS => by
    unfold mm_ex at h
    cases hf : mm_find cd pc with
    | none => rw [hf] at h; cases h
    | some e =>
      rw [hf] at h
      obtain ⟨hm, hpc⟩ := mm_find_mem hf
      obtain ⟨hd, hlen, hok⟩ := mm_eok_inv (hcd e hm)
      replace h : mm_j _ _ e ls st S = some (v, S') := h
      unfold mm_j at h
      cases h1 : mm_op e.1 e.2.1 (e.1 + e.2.2.1) e.2.2.2.1 e.2.2.2.2.1 e.2.2.2.2.2 st S with
      | some q =>
        rw [h1] at h
        obtain ⟨pc1, st1, S1⟩ := q
        obtain ⟨a1, a2⟩ := mm_op_ir hok h1 hst hS
        obtain ⟨b1, b2, b3⟩ := mm_ex_keep n cd pc1 ls st1 S1 v S' hcd h hls a1 a2
        exact ⟨b1, b2, b3.trans (mm_op_1000 h1)⟩
      | none =>
        rw [h1] at h
        dsimp only at h
        cases h2 : mm_lo e.2.1 (e.1 + e.2.2.1) ls st with
        | some q =>
          rw [h2] at h
          obtain ⟨pc1, ls1, st1⟩ := q
          obtain ⟨a1, a2⟩ := mm_lo_ir h2 hls hst
          exact mm_ex_keep n cd pc1 ls1 st1 S v S' hcd h a1 a2 hS
        | none =>
          rw [h2] at h
          dsimp only at h
          cases h3 : mm_ret e.2.2.2.1 e.2.1 st with
          | some q =>
            rw [h3] at h
            cases h
            exact ⟨mm_ret_ir h3 hst, hS, rfl⟩
          | none =>
            rw [h3] at h
            dsimp only at h
            cases h4 : mm_isv e.2.1 with
            | none => rw [h4] at h; cases h
            | some b =>
              rw [h4] at h
              dsimp only at h
              split at h
              · split at h
                · rename_i v1 S1 h6
                  have hgas : ∀ w ∈ (st.take e.2.2.2.2.1).reverse, mm_ir w := fun w hw => hst w (List.mem_of_mem_take (List.mem_reverse.mp hw))
                  split at h6
                  · obtain ⟨idx, he, hc⟩ := mm_isv_iok (st := st) (S := S) h4 hok
                    have hr1 : e.2.2.2.1 < 190 := by
                      rcases hc with ⟨hb, h9⟩ | hc
                      · exfalso
                        rw [h9] at h6
                        have : (mm_T 999).1 = [] := by decide +kernel
                        rw [this] at h6
                        cases n with
                        | zero => cases h6
                        | succ n => cases h6
                      · exact (mm_cok_inv hc).1
                    obtain ⟨b1, b2, b3⟩ := mm_ex_keep n (mm_T e.2.2.2.1).1 0 _ [] S v1 S1 (mm_code_ok hr1) h6 (mm_ent_ir hgas) (fun w hw => by cases hw) hS
                    obtain ⟨c1, c2, c3⟩ := mm_ex_keep n cd _ ls _ S1 v S' hcd h hls (fun w hw => by
                      rcases List.mem_append.mp hw with hw | hw
                      · exact b1 w (by simpa using hw)
                      · exact hst w (List.mem_of_mem_drop hw)) b2
                    exact ⟨c1, c2, c3.trans b3⟩
                  · cases h6
                · cases h
              · cases h

