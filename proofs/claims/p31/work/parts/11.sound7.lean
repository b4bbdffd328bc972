/-! A frame of the real machine does what the small one does. -/
theorem mm_args_len (σ : Nat → Nat) : ∀ as : List mm_V, (lg_sl (as.map (mm_rl σ))).length = (mm_args as).length
  | [] => rfl
  | v :: r => by
    have ih := mm_args_len σ r
    unfold lg_sl at ih ⊢
    rw [List.map_cons, List.flatMap_cons, List.length_append, ih, mm_cat]
    show _ = (if v.1 = 1 then v :: (9, 0) :: mm_args r else v :: mm_args r).length
    by_cases h : v.1 = 1
    · rw [if_pos h, if_pos h, if_pos rfl, List.length_cons, List.length_cons, List.length_cons, List.length_cons, List.length_nil]
      omega
    · rw [if_neg h, if_neg h, if_neg (by decide), List.length_cons, List.length_cons, List.length_nil]
      omega
theorem mm_args_at (σ : Nat → Nat) : ∀ (as : List mm_V) (k i : Nat) (v : mm_V), (mm_args as)[i]? = some v → v.1 < 3 → (k + i, mm_rl σ v) ∈ lv_args k (as.map (mm_rl σ))
  | [], _, _, _, h, _ => by cases h
  | w :: r, k, i, v, h, h3 => by
    unfold mm_args at h
    rw [List.map_cons]
    unfold lv_args
    rw [mm_cat]
    by_cases hw : w.1 = 1
    · rw [if_pos hw] at h
      rw [if_pos hw, if_pos rfl]
      match i, h with
      | 0, h => cases h; exact List.mem_cons_self
      | 1, h => cases h; exact absurd h3 (by decide)
      | i + 2, h =>
        have := mm_args_at σ r (k + 2) i v h h3
        rw [show k + (i + 2) = k + 2 + i by omega]
        exact List.mem_cons_of_mem _ this
    · rw [if_neg hw] at h
      rw [if_neg hw, if_neg (by decide)]
      match i, h with
      | 0, h => cases h; exact List.mem_cons_self
      | i + 1, h =>
        have := mm_args_at σ r (k + 1) i v h h3
        rw [show k + (i + 1) = k + 1 + i by omega]
        exact List.mem_cons_of_mem _ this
theorem mm_lr_ent {σ : Nat → Nat} {as : List mm_V} {n : Nat} (h : (mm_args as).length ≤ n) : mm_lr σ (mm_ent n as) ((lg_sl (as.map (mm_rl σ)) ++ List.replicate (n - (lg_sl (as.map (mm_rl σ))).length) Slot.unset).toArray) n := by
  have hl := lv_entry (as.map (mm_rl σ)) (n := n) (by rw [mm_args_len]; exact h)
  refine ⟨hl.1, hl.2.1, by unfold mm_ent; rw [List.length_append, List.length_replicate]; omega, fun i v hv h3 => ?_⟩
  unfold mm_ent at hv
  by_cases hi : i < (mm_args as).length
  · rw [List.getElem?_append_left hi] at hv
    have := hl.2.2 _ (mm_args_at σ as 0 i v hv h3)
    rw [Nat.zero_add] at this
    exact this
  · rw [List.getElem?_append_right (by omega)] at hv
    rw [List.getElem?_replicate] at hv
    split at hv
    · cases hv
      exact absurd h3 (by decide)
    · cases hv
def mm_wso (k : Nat) : List Cond := mm_cw (mm_hd k) :: wA
def mm_rm (k : Nat) : Room := { frames := (mm_hd k).2.2.2.2.2.1, cells := 0, slots := 0, locals := (mm_hd k).2.2.2.2.2.2.1 }
def mm_Wd (σ : Nat → Nat) (P : Nat → ClassId) (dC : Nat → ClassId) (dI : Nat → Nat → Nat) (S : mm_S) (U : State) : Prop := va_P (dC, dI) mm_cl (mm_ws σ P S) U.heap ∧ va_K (dC, dI) mm_cl (mm_tys P) U ∧ ∀ q ∈ mm_ln, va_Nw (mm_nw q) U
def mm_Qc (σ : Nat → Nat) (P : Nat → ClassId) (dC : Nat → ClassId) (dI : Nat → Nat → Nat) (B0 : Nat) (S' : mm_S) (v : Option mm_V) : Array Value → State → Outcome → State → Prop := fun _ st oc t => (oc = .returned (v.map (mm_rl σ)) ∧ va_P (dC, dI) mm_cl (mm_ws σ P S') t.heap) ∧ va_F (fun q => B0 ≤ q) st t
def mm_Mt (l : Launch) (σ : Nat → Nat) (P : Nat → ClassId) (dC : Nat → ClassId) (dI : Nat → Nat → Nat) (B0 n : Nat) : Prop := ∀ (k : Nat) (as : List mm_V) (S : mm_S) (v : Option mm_V) (S' : mm_S), k < 190 → mm_ex mm_T n (mm_T k).1 0 (mm_ent (mm_T k).2 as) [] S = some (v, S') → (mm_args as).length ≤ (mm_T k).2 → (∀ w ∈ as, mm_ir w) → mm_sok S →
  Met l (mm_hd k).1 (mm_wso k) (mm_rm k) (va_Pc (as.map (mm_rl σ)) (mm_Wd σ P dC dI S)) (mm_Qc σ P dC dI B0 S' v) 0 0 (fun q => B0 ≤ q)
def mm_scr (s : State) (H0 : Heap) (σ : Nat → Nat) (B0 : Nat) (S : mm_S) : Prop := ∃ (b L : Nat) (xs : Nat → Int32), va_X b L xs s H0 ∧ b < H0.size ∧ b < B0 ∧ σ 1000 = b ∧ S 1000 (-1) = (L : Int) ∧ L < 2147483648 ∧ ∀ j : Nat, j < L → Int32.ofInt (S 1000 j) = xs j
section FRM
variable {p : Program} {l : Launch} {e : Env} {R : Room} {s : State} {m : MethodId} {args : Array Value} {below : List Frame} {meth : Method} {c : Code} {H H0 : Heap} {locs : List Loc} {cells slots : Nat} {Q : State → Prop} {cc : ByteArray} {lsr : Array Slot} {σ : Nat → Nat} {P : Nat → ClassId} {dC : Nat → ClassId} {dI : Nat → Nat → Nat} {B0 own : Nat}
/-- one of them all -/
theorem mm_op_sound (C : mm_Cx p s m args own σ P dC dI B0) (hb : c.code = cc) (hml : c.maxLocals = lsr.size) {pc len r1 r2 : Nat} {i : Instr} {r3 : Int} {st st' : List mm_V} {S S' : mm_S} {pc' fr lo : Nat} (hR : fr ≤ R.frames ∧ lo ≤ R.locals) (hd : decode cc pc = .ok (i, len)) (hlen : mm_il i = 0 ∨ len = mm_il i) (hok : mm_iok own fr lo (pc, i, len, r1, r2, r3) = true) (hscr : own = 13 → mm_scr s H0 σ B0 S) (ho : mm_op pc i (pc + len) r1 r2 r3 st S = some (pc', st', S')) (hir : ∀ v ∈ st, mm_ir v) (hsok : mm_sok S) (hP : va_P (dC, dI) mm_cl (mm_ws σ P S) H) (hS : va_S (fun q => B0 ≤ q) H0 H locs) (kk : mm_KK p l e R s m args below meth c H0 cells slots Q lsr σ P dC dI B0 pc' st' S') : W p l e R s m args below meth c H locs cells slots Q (F0 m pc lsr (st.map (mm_rl σ))) := by
  have len1 : mm_il i ≠ 0 → len = mm_il i := fun h => hlen.resolve_left h
  cases i
  case aconst_null => exact mm_s_aconst_null C hb hd (len1 (by intro q; cases q)) hok ho hir hsok hP hS kk
  case iconst n => exact mm_s_iconst C hb hd (len1 (by intro q; cases q)) hok ho hir hsok hP hS kk
  case bipush n => exact mm_s_bipush C hb hd (len1 (by intro q; cases q)) hok ho hir hsok hP hS kk
  case sipush n => exact mm_s_sipush C hb hd (len1 (by intro q; cases q)) hok ho hir hsok hP hS kk
  case lconst n => exact mm_s_lconst C hb hd (len1 (by intro q; cases q)) hok ho hir hsok hP hS kk
  case ldc n => exact mm_s_ldc C hb hd (len1 (by intro q; cases q)) hok ho hir hsok hP hS kk
  case ldc_w n => exact mm_s_ldc_w C hb hd (len1 (by intro q; cases q)) hok ho hir hsok hP hS kk
  case ldc2_w n => exact mm_s_ldc2_w C hb hd (len1 (by intro q; cases q)) hok ho hir hsok hP hS kk
  case dup => exact mm_s_dup C hb hd (len1 (by intro q; cases q)) hok ho hir hsok hP hS kk
  case dup2 => exact mm_s_dup2 C hb hd (len1 (by intro q; cases q)) hok ho hir hsok hP hS kk
  case pop => exact mm_s_pop C hb hd (len1 (by intro q; cases q)) hok ho hir hsok hP hS kk
  case iadd => exact mm_s_iadd C hb hd (len1 (by intro q; cases q)) hok ho hir hsok hP hS kk
  case isub => exact mm_s_isub C hb hd (len1 (by intro q; cases q)) hok ho hir hsok hP hS kk
  case imul => exact mm_s_imul C hb hd (len1 (by intro q; cases q)) hok ho hir hsok hP hS kk
  case iand => exact mm_s_iand C hb hd (len1 (by intro q; cases q)) hok ho hir hsok hP hS kk
  case ior => exact mm_s_ior C hb hd (len1 (by intro q; cases q)) hok ho hir hsok hP hS kk
  case ixor => exact mm_s_ixor C hb hd (len1 (by intro q; cases q)) hok ho hir hsok hP hS kk
  case ishl => exact mm_s_ishl C hb hd (len1 (by intro q; cases q)) hok ho hir hsok hP hS kk
  case ishr => exact mm_s_ishr C hb hd (len1 (by intro q; cases q)) hok ho hir hsok hP hS kk
  case iushr => exact mm_s_iushr C hb hd (len1 (by intro q; cases q)) hok ho hir hsok hP hS kk
  case ineg => exact mm_s_ineg C hb hd (len1 (by intro q; cases q)) hok ho hir hsok hP hS kk
  case idiv => exact mm_s_idiv C hb hd (len1 (by intro q; cases q)) hok ho hir hsok hP hS kk
  case irem => exact mm_s_irem C hb hd (len1 (by intro q; cases q)) hok ho hir hsok hP hS kk
  case ladd => exact mm_s_ladd C hb hd (len1 (by intro q; cases q)) hok ho hir hsok hP hS kk
  case lsub => exact mm_s_lsub C hb hd (len1 (by intro q; cases q)) hok ho hir hsok hP hS kk
  case lmul => exact mm_s_lmul C hb hd (len1 (by intro q; cases q)) hok ho hir hsok hP hS kk
  case land => exact mm_s_land C hb hd (len1 (by intro q; cases q)) hok ho hir hsok hP hS kk
  case lor => exact mm_s_lor C hb hd (len1 (by intro q; cases q)) hok ho hir hsok hP hS kk
  case lshl => exact mm_s_lshl C hb hd (len1 (by intro q; cases q)) hok ho hir hsok hP hS kk
  case lshr => exact mm_s_lshr C hb hd (len1 (by intro q; cases q)) hok ho hir hsok hP hS kk
  case lneg => exact mm_s_lneg C hb hd (len1 (by intro q; cases q)) hok ho hir hsok hP hS kk
  case ldiv => exact mm_s_ldiv C hb hd (len1 (by intro q; cases q)) hok ho hir hsok hP hS kk
  case lrem => exact mm_s_lrem C hb hd (len1 (by intro q; cases q)) hok ho hir hsok hP hS kk
  case lcmp => exact mm_s_lcmp C hb hd (len1 (by intro q; cases q)) hok ho hir hsok hP hS kk
  case i2l => exact mm_s_i2l C hb hd (len1 (by intro q; cases q)) hok ho hir hsok hP hS kk
  case l2i => exact mm_s_l2i C hb hd (len1 (by intro q; cases q)) hok ho hir hsok hP hS kk
  case i2b => exact mm_s_i2b C hb hd (len1 (by intro q; cases q)) hok ho hir hsok hP hS kk
  case if_icmp cnd off =>
    cases cnd
    case eq => exact mm_s_icmp_eq C hb hd (len1 (by intro q; cases q)) hok ho hir hsok hP hS kk
    case ne => exact mm_s_icmp_ne C hb hd (len1 (by intro q; cases q)) hok ho hir hsok hP hS kk
    case lt => exact mm_s_icmp_lt C hb hd (len1 (by intro q; cases q)) hok ho hir hsok hP hS kk
    case ge => exact mm_s_icmp_ge C hb hd (len1 (by intro q; cases q)) hok ho hir hsok hP hS kk
    case gt => exact mm_s_icmp_gt C hb hd (len1 (by intro q; cases q)) hok ho hir hsok hP hS kk
    case le => exact mm_s_icmp_le C hb hd (len1 (by intro q; cases q)) hok ho hir hsok hP hS kk
  case ifCond cnd off =>
    cases cnd
    case eq => exact mm_s_if_eq C hb hd (len1 (by intro q; cases q)) hok ho hir hsok hP hS kk
    case ne => exact mm_s_if_ne C hb hd (len1 (by intro q; cases q)) hok ho hir hsok hP hS kk
    case lt => exact mm_s_if_lt C hb hd (len1 (by intro q; cases q)) hok ho hir hsok hP hS kk
    case ge => exact mm_s_if_ge C hb hd (len1 (by intro q; cases q)) hok ho hir hsok hP hS kk
    case gt => exact mm_s_if_gt C hb hd (len1 (by intro q; cases q)) hok ho hir hsok hP hS kk
    case le => exact mm_s_if_le C hb hd (len1 (by intro q; cases q)) hok ho hir hsok hP hS kk
  case ifnull off => exact mm_s_ifnull C hb hd (len1 (by intro q; cases q)) hok ho hir hsok hP hS kk
  case ifnonnull off => exact mm_s_ifnonnull C hb hd (len1 (by intro q; cases q)) hok ho hir hsok hP hS kk
  case goto off => exact mm_s_goto C hb hd (len1 (by intro q; cases q)) hok ho hir hsok hP hS kk
  case tableswitch d lw hi offs => exact mm_s_tableswitch C hb hd hok ho hir hsok hP hS kk
  case getfield n => exact mm_s_getfield C hb hd (len1 (by intro q; cases q)) hok ho hir hsok hP hS kk
  case putfield n => exact mm_s_putfield C hb hd (len1 (by intro q; cases q)) hok ho hir hsok hP hS kk
  case iaload =>
    by_cases h7 : r1 = 7
    · have h13 : own = 13 := (of_decide_eq_true hok : r1 = 7 → own = 13) h7
      obtain ⟨b, L, xs, hX, hbl, hbB, hσ, hL, hL2, hxs⟩ := hscr h13
      obtain ⟨hx, -, -, -, -, -⟩ := C
      obtain rfl := len1 (by intro q; cases q)
      replace ho : (if r1 = 7 then (match mm_b2 st 2 0 with
        | some (a, j, r) => if a = 1000 ∧ 0 ≤ j ∧ j < S 1000 (-1) then some (pc + 1, (0, S 1000 j) :: r, S) else none
        | none => none) else mm_ald (pc + 1) st S [1] fun a j => (0, S a j)) = some (pc', st', S') := ho
      rw [if_pos h7] at ho
      split at ho
      · rename_i a j r h1
        have hst := mm_b2_inv h1
        subst hst
        split at ho
        · rename_i hg
          cases ho
          obtain ⟨rfl, hj0, hj1⟩ := hg
          rw [hL] at hj1
          obtain ⟨hin, hnn⟩ := mm_nn ((hir _ List.mem_cons_self).1 rfl) hj0 hj1
          rw [List.map_cons, List.map_cons, mm_rl_ref (by omega), show ((1000 : Int)).toNat = 1000 from rfl, hσ]
          refine va_sld (A := fun q => B0 ≤ q) hx hb hX hbl (by omega) hS hin hd ?_
          rw [hnn]
          have k1 := kk H locs hP hS
          have h2 := hxs j.toNat (by omega)
          rw [Int.toNat_of_nonneg hj0] at h2
          rw [← h2]
          exact k1
        · cases ho
      · cases ho
    · exact mm_s_iaload C hb h7 hd (len1 (by intro q; cases q)) hok ho hir hsok hP hS kk
  case arraylength =>
    by_cases h7 : r1 = 7
    · have h13 : own = 13 := (of_decide_eq_true hok : r1 = 7 → own = 13) h7
      obtain ⟨b, L, xs, hX, hbl, hbB, hσ, hL, hL2, hxs⟩ := hscr h13
      obtain ⟨hx, -, -, -, -, -⟩ := C
      obtain rfl := len1 (by intro q; cases q)
      replace ho : (match mm_b1 st 2 with
        | some (a, t) => if r1 = 7 then (if a = 1000 then some (pc + 1, (0, S 1000 (-1)) :: t, S) else none) else
          if 0 ≤ a ∧ 0 < (mm_kd a.toNat).1 ∧ (mm_kd a.toNat).1 < 7 then some (pc + 1, (0, ((mm_kd a.toNat).2 : Int)) :: t, S) else none
        | none => none) = some (pc', st', S') := ho
      split at ho
      · rename_i a t h1
        have hst := mm_b1_inv h1
        subst hst
        rw [if_pos h7] at ho
        split at ho
        · rename_i hg
          cases ho
          subst hg
          rw [List.map_cons, mm_rl_ref (by omega), show ((1000 : Int)).toNat = 1000 from rfl, hσ]
          refine va_slen (A := fun q => B0 ≤ q) hx hb hX hbl (by omega) hS hd ?_
          have k1 := kk H locs hP hS
          rw [hL] at k1
          rw [show Int32.ofNat L = Int32.ofInt (L : Int) from Int32.ofInt_eq_ofNat.symm]
          exact k1
        · cases ho
      · cases ho
    · exact mm_s_arraylength C hb h7 hd (len1 (by intro q; cases q)) hok ho hir hsok hP hS kk
  case baload => exact mm_s_baload C hb hd (len1 (by intro q; cases q)) hok ho hir hsok hP hS kk
  case laload => exact mm_s_laload C hb hd (len1 (by intro q; cases q)) hok ho hir hsok hP hS kk
  case aaload => exact mm_s_aaload C hb hd (len1 (by intro q; cases q)) hok ho hir hsok hP hS kk
  case iastore => exact mm_s_iastore C hb hd (len1 (by intro q; cases q)) hok ho hir hsok hP hS kk
  case bastore => exact mm_s_bastore C hb hd (len1 (by intro q; cases q)) hok ho hir hsok hP hS kk
  case lastore => exact mm_s_lastore C hb hd (len1 (by intro q; cases q)) hok ho hir hsok hP hS kk
  case invokestatic n =>
    by_cases h9 : r1 = 999
    · subst h9
      exact mm_s_arraycopy C hb hml hR hd (len1 (by intro q; cases q)) hok ho hir hsok hP hS kk
    · exfalso
      replace ho : (if r1 = 999 then mm_acp (pc + len) st S else none) = some (pc', st', S') := ho
      rw [if_neg h9] at ho
      cases ho
  all_goals (exact absurd ho (by intro q; cases q))
/-- behind a call -/
theorem mm_callx {v : Option mm_V} {S' : mm_S} {pc : Nat} {rest st0 : List Value} {a : Array Value} (hr : va_Run p l e R s m args below meth c H locs cells slots 0 0 (F0 m pc lsr st0) rest (mm_Qc σ P dC dI B0 S' v a) (fun q => B0 ≤ q)) (hS : va_S (fun q => B0 ≤ q) H0 H locs)
    (kk : ∀ (H1 : Heap) (locs1 : List Loc), va_P (dC, dI) mm_cl (mm_ws σ P S') H1 → va_S (fun q => B0 ≤ q) H0 H1 locs1 → W p l e R s m args below meth c H1 locs1 cells slots Q (F0 m (pc + 3) lsr ((v.map (mm_rl σ)).toList ++ rest))) : W p l e R s m args below meth c H locs cells slots Q (F0 m pc lsr st0) := by
  intro T hT X
  obtain ⟨w, st₀, t, T', L, h0, X', hL, e1, e2, ⟨⟨hv, hb⟩, hz, hk⟩, st⟩ := hr T hT X
  cases hv
  rw [h0] at hz hk
  obtain ⟨t2, a1, b1⟩ := kk T'.heap (locs ++ L) (by rw [e1]; exact hb)
    ⟨Nat.le_trans hS.1 (by rw [e1]; exact hz), fun q h1 h2 => by rw [e1, hk q (Nat.lt_of_lt_of_le h1 hS.1) h2]; exact hS.2.1 q h1 h2, fun q hq => by
      rcases List.mem_append.mp hq with h | h
      · exact hS.2.2 q h
      · exact hL q h⟩ T' rfl X'
  exact ⟨t2, st t2 a1, b1⟩
end FRM
