/-! The constructors over the real machine. -/
def cc_ag (N : Nat) (σ σ' : Nat → Nat) : Prop := ∀ a, a < N ∨ a = 1000 → σ' a = σ a
theorem cc_ag_rl {N : Nat} {σ σ' : Nat → Nat} (h : cc_ag N σ σ') {v : mm_V} (hv : cc_lt N v) : mm_rl σ' v = mm_rl σ v := by
  unfold mm_rl
  by_cases h0 : v.1 = 0
  · rw [if_pos h0, if_pos h0]
  · rw [if_neg h0, if_neg h0]
    by_cases h1 : v.1 = 1
    · rw [if_pos h1, if_pos h1]
    · rw [if_neg h1, if_neg h1]
      by_cases h2 : v.2 < 0
      · rw [if_pos h2, if_pos h2]
      · rw [if_neg h2, if_neg h2]
        rcases hv (by omega) with h3 | h3
        · rw [h v.2.toNat (Or.inl (by omega))]
        · rw [h v.2.toNat (Or.inr (by omega))]
theorem cc_ag_map {N : Nat} {σ σ' : Nat → Nat} (h : cc_ag N σ σ') {st : List mm_V} (hv : ∀ v ∈ st, cc_lt N v) : st.map (mm_rl σ') = st.map (mm_rl σ) := List.map_congr_left (fun v hm => cc_ag_rl h (hv v hm))
theorem cc_ag_cell {N : Nat} {σ σ' : Nat → Nat} (h : cc_ag N σ σ') (hN : 0 < N) {P : Nat → ClassId} {c : cc_C} (hc : cc_ok N c) : cc_cell σ' P c = cc_cell σ P c := by
  unfold cc_cell
  by_cases h0 : c.1 = 0
  · rw [if_pos h0, if_pos h0]
    congr 2
    apply List.map_congr_left
    intro k hk
    apply cc_ag_rl h
    intro q
    by_cases hr : cc_isR c.2.1 k = true
    · rcases hc.1 h0 k hr with h3 | h3
      · exact Or.inl h3
      · left; dsimp only; omega
    · rw [if_neg hr] at q; omega
  · rw [if_neg h0, if_neg h0]
    by_cases h2 : c.1 = 2
    · rw [if_pos h2, if_pos h2]
    · rw [if_neg h2, if_neg h2]
      by_cases h5 : c.1 = 5 ∨ c.1 = 6
      · rw [if_pos h5, if_pos h5]
        congr 7
        funext j
        by_cases hj : c.2.2.getD j (-1) < 0
        · rw [if_pos hj, if_pos hj]
        · rw [if_neg hj, if_neg hj]
          have := hc.2 h5 j
          rw [h _ (Or.inl (by omega))]
      · rw [if_neg h5, if_neg h5]
theorem cc_w_get {σ : Nat → Nat} {P : Nat → ClassId} {cs : List cc_C} {a : Nat} {c : cc_C} (h : cs[a]? = some c) : (cc_w σ P cs)[a]? = some (σ a, cc_cell σ P c) := by
  unfold cc_w
  rw [List.getElem?_map, List.getElem?_zipIdx, h]
  simp
theorem cc_w_none {σ : Nat → Nat} {P : Nat → ClassId} {cs : List cc_C} {a : Nat} (h : cs[a]? = none) : (cc_w σ P cs)[a]? = none := by
  unfold cc_w
  rw [List.getElem?_map, List.getElem?_zipIdx, h]
  rfl
theorem cc_w_len {σ : Nat → Nat} {P : Nat → ClassId} {cs : List cc_C} : (cc_w σ P cs).length = cs.length := by
  unfold cc_w
  rw [List.length_map, List.length_zipIdx]
theorem cc_w_set {σ : Nat → Nat} {P : Nat → ClassId} {cs : List cc_C} {a : Nat} {c : cc_C} : (cc_w σ P cs).set a (σ a, cc_cell σ P c) = cc_w σ P (cs.set a c) := by
  apply List.ext_getElem?
  intro j
  by_cases hj : j = a
  · subst hj
    by_cases hl : j < cs.length
    · rw [List.getElem?_set_self (by rw [cc_w_len]; exact hl), cc_w_get (List.getElem?_set_self hl)]
    · rw [List.getElem?_eq_none (by rw [List.length_set, cc_w_len]; omega), List.getElem?_eq_none (by rw [cc_w_len, List.length_set]; omega)]
  · rw [List.getElem?_set_ne (Ne.symm hj)]
    cases h : cs[j]? with
    | none => rw [cc_w_none h, cc_w_none (by rw [List.getElem?_set_ne (Ne.symm hj)]; exact h)]
    | some d => rw [cc_w_get h, cc_w_get (by rw [List.getElem?_set_ne (Ne.symm hj)]; exact h)]
theorem cc_w_ag {σ σ' : Nat → Nat} {P : Nat → ClassId} {cs : List cc_C} (h : cc_ag cs.length σ σ') (hcs : cc_oks cs) : cc_w σ' P cs = cc_w σ P cs := by
  apply List.ext_getElem?
  intro j
  cases hj : cs[j]? with
  | none => rw [cc_w_none hj, cc_w_none hj]
  | some d =>
    have hl := (List.getElem?_eq_some_iff.mp hj).1
    rw [cc_w_get hj, cc_w_get hj, h j (Or.inl hl), cc_ag_cell h (by omega) (hcs d (List.mem_of_getElem? hj))]
def cc_up (σ : Nat → Nat) (N q : Nat) : Nat → Nat := fun a => if a = N then q else σ a
theorem cc_up_ag {σ : Nat → Nat} {N q : Nat} (hN : N < 1000) : cc_ag N σ (cc_up σ N q) := fun a h => by
  unfold cc_up
  rw [if_neg (by omega)]
theorem cc_w_app {σ : Nat → Nat} {P : Nat → ClassId} {cs : List cc_C} {q : Nat} {c : cc_C} {e : va_E} (hN : cs.length < 1000) (hcs : cc_oks cs) (he : e = cc_cell (cc_up σ cs.length q) P c) : cc_w σ P cs ++ [(q, e)] = cc_w (cc_up σ cs.length q) P (cs ++ [c]) := by
  rw [← cc_w_ag (cc_up_ag (q := q) hN) hcs]
  apply List.ext_getElem?
  intro j
  by_cases hj : j < cs.length
  · rw [List.getElem?_append_left (by rw [cc_w_len]; exact hj), cc_w_get (List.getElem?_eq_getElem hj), cc_w_get (by rw [List.getElem?_append_left hj]; exact List.getElem?_eq_getElem hj)]
  · rw [List.getElem?_append_right (by rw [cc_w_len]; omega), cc_w_len]
    by_cases e2 : j = cs.length
    · subst e2
      rw [Nat.sub_self, cc_w_get (c := c) (by rw [List.getElem?_append_right (Nat.le_refl _), Nat.sub_self]; rfl)]
      show some (q, e) = _
      rw [he]
      unfold cc_up
      rw [if_pos rfl]
    · rw [List.getElem?_eq_none (by rw [List.length_singleton]; omega), List.getElem?_eq_none (by rw [cc_w_len, List.length_append, List.length_singleton]; omega)]
def cc_Cx (p : Program) (s : State) (m : MethodId) (args : Array Value) (own : Nat) (P : Nat → ClassId) (dC : Nat → ClassId) (dI : Nat → Nat → Nat) : Prop :=
  p.tables.exec = Jvm.exec ∧ s.vm.findClass (mm_cn own) = some m.cls ∧ (∀ w ∈ wA, w.before args s = true) ∧ va_K (dC, dI) mm_cl (mm_tys P) s ∧ va_AO "PagesByLevels$Complex" s ∧ va_AO "PagesByLevels$Sheet" s
theorem cc_isR_ty : ∀ ci, ci < 9 → ∀ k, k < mm_nf ci → (cc_isR ci k = true → (∃ C, mm_ty ci k = .object C) ∨ ∃ t, mm_ty ci k = .array t) ∧ (cc_isR ci k = false → mm_fk ci k = 0 ∨ mm_fk ci k = 3) ∧ (mm_F ci k).1 = mm_cn ci := by
  have h : (List.range 9).all (fun ci => (List.range (mm_nf ci)).all fun k => (if cc_isR ci k then (match mm_ty ci k with
    | .object _ => true
    | .array _ => true
    | _ => false) else decide (mm_fk ci k = 0 ∨ mm_fk ci k = 3)) && decide ((mm_F ci k).1 = mm_cn ci)) = true := by decide +kernel
  intro ci hci k hk
  have h1 := List.all_eq_true.mp (List.all_eq_true.mp h ci (List.mem_range.mpr hci)) k (List.mem_range.mpr hk)
  rw [Bool.and_eq_true] at h1
  refine ⟨fun hr => ?_, fun hr => ?_, of_decide_eq_true h1.2⟩
  · have h2 := h1.1
    rw [if_pos hr] at h2
    split at h2
    · rename_i C hC; exact Or.inl ⟨C, hC⟩
    · rename_i t ht; exact Or.inr ⟨t, ht⟩
    · cases h2
  · have h2 := h1.1
    rw [if_neg (by rw [hr]; decide)] at h2
    exact of_decide_eq_true h2
theorem cc_narrow {σ : Nat → Nat} {ty : FieldType} {x : Int} (h : (∃ C, ty = .object C) ∨ ∃ t, ty = .array t) : narrow ty (mm_rl σ (2, x)) = mm_rl σ (2, x) ∧ fits ty (mm_rl σ (2, x)) = true := by
  rcases mm_rl_ref_cases σ x with e | ⟨a, e⟩ <;> rw [e] <;> rcases h with ⟨C, rfl⟩ | ⟨t, rfl⟩ <;> exact ⟨rfl, rfl⟩
theorem cc_new_fs {ci : Nat} (h : ci < 9) (σ : Nat → Nat) : ∀ j, j < mm_nf ci → defaultValue (mm_ty ci j) = vp_V ((List.range (mm_nf ci)).map fun k => mm_rl σ (if cc_isR ci k then 2 else 0, (cc_new ci).2.2.getD k 0)) j := by
  intro j hj
  unfold vp_V
  rw [List.getD_eq_getElem?_getD, List.getElem?_map, List.getElem?_range hj]
  simp only [Option.map_some, Option.getD_some]
  obtain ⟨h1, h2, -⟩ := cc_isR_ty ci h j hj
  have e : (cc_new ci).2.2.getD j 0 = if cc_isR ci j then -1 else 0 := by
    unfold cc_new
    rw [List.getD_eq_getElem?_getD, List.getElem?_map, List.getElem?_range hj]
    rfl
  rw [e]
  by_cases hr : cc_isR ci j = true
  · rw [if_pos hr, if_pos hr]
    rcases h1 hr with ⟨C, hC⟩ | ⟨t, ht⟩
    · rw [hC]; rfl
    · rw [ht]; rfl
  · rw [if_neg hr, if_neg hr]
    obtain ⟨hk0, hk3, -, -⟩ := mm_Fki ci h j hj
    rcases h2 (by simpa using hr) with z | z
    · rw [hk0 z]; rfl
    · rw [hk3 z]; rfl
theorem cc_new_cell {ci : Nat} (σ : Nat → Nat) (P : Nat → ClassId) : cc_cell σ P (cc_new ci) = .inr (ci, (List.range (mm_nf ci)).map fun k => mm_rl σ (if cc_isR ci k then 2 else 0, (cc_new ci).2.2.getD k 0)) := by
  unfold cc_cell
  rw [if_pos (show (cc_new ci).1 = 0 from rfl)]
  show Sum.inr (ci, (List.range (cc_new ci).2.2.length).map _) = _
  have : (cc_new ci).2.2.length = mm_nf ci := by unfold cc_new; rw [List.length_map, List.length_range]
  rw [this]
  rfl
def cc_kk (p : Program) (l : Launch) (e : Env) (R : Room) (s : State) (m : MethodId) (args : Array Value) (below : List Frame) (meth : Method) (c : Code) (H0 : Heap) (N0 Z0 : Nat) (Q : State → Prop) (ls : Array Slot) (σ : Nat → Nat) (P : Nat → ClassId) (dC : Nat → ClassId) (dI : Nat → Nat → Nat) (B0 : Nat) (N : Nat) (pc' : Nat) (st' : List mm_V) (cs' : List cc_C) : Prop :=
  ∀ (σ' : Nat → Nat) (H1 : Heap) (locs1 : List Loc), cc_ag N σ σ' → va_P (dC, dI) mm_cl (cc_w σ' P cs') H1 → va_D (fun q => B0 ≤ q) (cc_w σ' P cs') → va_S (fun q => B0 ≤ q) H0 H1 locs1 → W p l e R s m args below meth c H1 locs1 (cs'.length - N0) (cc_sz cs' - Z0) Q (F0 m pc' ls (st'.map (mm_rl σ')))
section CC3
variable {p : Program} {l : Launch} {e : Env} {R : Room} {s : State} {m : MethodId} {args : Array Value} {below : List Frame} {meth : Method} {c : Code} {H H0 : Heap} {locs : List Loc} {Q : State → Prop} {cc : ByteArray} {ls : Array Slot} {σ : Nat → Nat} {P : Nat → ClassId} {dC : Nat → ClassId} {dI : Nat → Nat → Nat} {B0 own N0 Z0 : Nat}
theorem cc_op_sound (C : cc_Cx p s m args own P dC dI) (hb : c.code = cc) (hsz : ls.size = c.maxLocals) {pc len r1 r2 : Nat} {i : Instr} {r3 : Int} {st st' : List mm_V} {cs cs' : List cc_C} {pc' fr lo : Nat} (hinit : own ≠ 13 → meth.name = "<init>") (hown13 : ∀ idx, i = .putfield idx → own ≠ 13) (hR : fr ≤ R.frames ∧ lo ≤ R.locals) (hd : decode cc pc = .ok (i, len)) (hlen : len = cc_il i) (hok : cc_iok own fr lo (pc, i, len, r1, r2, r3) = true) (ho : cc_op pc i (pc + len) r1 r2 st cs = some (pc', st', cs')) (hst : ∀ v ∈ st, cc_lt cs.length v) (hcs : cc_oks cs) (hN : N0 ≤ cs.length) (hZ : Z0 ≤ cc_sz cs) (hB : ∀ q, H0.size ≤ q → B0 ≤ q)
    (hroom : cs'.length - N0 ≤ R.cells ∧ cc_sz cs' - Z0 ≤ R.slots) (hP : va_P (dC, dI) mm_cl (cc_w σ P cs) H) (hD : va_D (fun q => B0 ≤ q) (cc_w σ P cs)) (hS : va_S (fun q => B0 ≤ q) H0 H locs) (kk : cc_kk p l e R s m args below meth c H0 N0 Z0 Q ls σ P dC dI B0 cs.length pc' st' cs') : W p l e R s m args below meth c H locs (cs.length - N0) (cc_sz cs - Z0) Q (F0 m pc ls (st.map (mm_rl σ))) := by
  obtain ⟨hx, hown, hts, hK, hAO1, hAO2⟩ := C
  have k0 : cs' = cs → W p l e R s m args below meth c H locs (cs.length - N0) (cc_sz cs - Z0) Q (F0 m pc' ls (st'.map (mm_rl σ))) := fun h => by
    have := kk σ H locs (fun a _ => rfl)
    rw [h] at this
    exact this hP hD hS
  cases i
  case aconst_null => cases ho; subst hlen; exact lv_null hx hb hd (k0 rfl)
  case iconst n => cases ho; subst hlen; exact lv_iconst hx hb hd rfl (k0 rfl)
  case bipush n => cases ho; subst hlen; exact lv_bipush hx hb hd (mm_byte (of_decide_eq_true hok)) (k0 rfl)
  case sipush n => cases ho; subst hlen; exact lv_sipush hx hb hd (mm_short (of_decide_eq_true hok)) (k0 rfl)
  case dup =>
    subst hlen
    match st, ho with
    | v :: t, ho =>
      replace ho : (if v.1 = 1 then none else some (pc + 1, v :: v :: t, cs)) = some (pc', st', cs') := ho
      split at ho
      · cases ho
      · rename_i h
        cases ho
        exact lv_dup hx hb hd (mm_cat1 h) (k0 rfl)
  case goto off => cases ho; subst hlen; exact lv_goto hx hb hd (Int.toNat_of_nonneg (of_decide_eq_true hok)).symm (k0 rfl)
  case if_icmp cnd off =>
    cases cnd
    case ge =>
      subst hlen
      replace ho : (match mm_b2 st 0 0 with
        | some (x, y, r) => if (-2147483648 ≤ x ∧ x < 2147483648) ∧ (-2147483648 ≤ y ∧ y < 2147483648) then some (if y ≤ x then ((pc : Int) + off).toNat else pc + 3, r, cs) else none
        | none => none) = some (pc', st', cs') := ho
      split at ho
      · rename_i x y r h1
        split at ho
        · rename_i hrr
          cases ho
          have hst2 := mm_b2_inv h1
          subst hst2
          have hy1 : mm_r32 y := hrr.2
          have hx1 : mm_r32 x := hrr.1
          have hoff : 0 ≤ (pc : Int) + off := of_decide_eq_true hok
          refine lv_icmp_ge (x := Int32.ofInt x) (y := Int32.ofInt y) (tgt := ((pc : Int) + off).toNat) hx hb hd (Int.toNat_of_nonneg hoff).symm (fun q => ?_) (fun q => ?_)
          · have k1 := k0 rfl
            rw [if_pos ((mm_le32 hy1 hx1).mp q)] at k1
            exact k1
          · have k1 := k0 rfl
            rw [if_neg (fun z => q ((mm_le32 hy1 hx1).mpr z))] at k1
            exact k1
        · cases ho
      · cases ho
    all_goals (exact absurd ho (by intro q; cases q))
  case new idx =>
    subst hlen
    replace ho : (if r1 < 9 ∧ cs.length < 1000 then some (pc + 3, (2, (cs.length : Int)) :: st, cs ++ [cc_new r1]) else none) = some (pc', st', cs') := ho
    split at ho
    · rename_i hg
      cases ho
      obtain ⟨q, hq, h⟩ := List.any_eq_true.mp hok
      have h := of_decide_eq_true h
      dsimp only at h
      obtain ⟨w1, w2, w3⟩ := cc_ln_ok q hq
      rw [h.1, h.2.1, h.2.2] at w1
      rw [h.2.2] at w2 w3
      have hl : (cs ++ [cc_new r1]).length = cs.length + 1 := List.length_append.trans rfl
      have hz : cc_sz (cs ++ [cc_new r1]) = cc_sz cs + mm_nf r1 := by
        rw [cc_sz_app]
        congr 1
        unfold cc_new; rw [List.length_map, List.length_range]
      refine va_new (ci := r1) (C := mm_cn r1) (T := mm_F r1) (N := mm_nf r1) hx hb hts (mm_Fw r1 hg.1) (mm_ty r1) (mm_Fty r1 hg.1) hown (hts _ w1) (hts _ w2) (hts _ w3) hK hP hD hS hB (mm_Fcl r1 hg.1) (cc_new_fs hg.1 σ) (by omega) (by omega) hd (fun q H1 hP1 hD1 hS1 => ?_)
      have hcell : Sum.inr (r1, (List.range (mm_nf r1)).map fun k => mm_rl σ (if cc_isR r1 k then 2 else 0, (cc_new r1).2.2.getD k 0)) = cc_cell (cc_up σ cs.length q) P (cc_new r1) := by
        rw [cc_new_cell]
        congr 2
        apply List.map_congr_left
        intro k hk
        by_cases hr : cc_isR r1 k = true
        · have e : (cc_new r1).2.2.getD k 0 = -1 := by
            unfold cc_new
            rw [List.getD_eq_getElem?_getD, List.getElem?_map, List.getElem?_range (List.mem_range.mp hk)]
            simp only [Option.map_some, Option.getD_some, hr, if_true]
          rw [e, if_pos hr]
          rfl
        · rw [if_neg hr]; rfl
      rw [cc_w_app hg.2 hcs hcell] at hP1 hD1
      have k1 := kk _ H1 locs (cc_up_ag hg.2) hP1 hD1 hS1
      rw [hl, hz, show cs.length + 1 - N0 = cs.length - N0 + 1 by omega, show cc_sz cs + mm_nf r1 - Z0 = cc_sz cs - Z0 + mm_nf r1 by omega, List.map_cons, cc_ag_map (cc_up_ag hg.2) hst, mm_rl_ref (by omega)] at k1
      rw [show cc_up σ cs.length q ((cs.length : Int)).toNat = q from by unfold cc_up; rw [if_pos (by omega)]] at k1
      exact k1
    · cases ho
  case newarray t =>
    subst hlen
    replace ho : (match mm_b1 st 0 with
      | some (n, r) => if 0 ≤ n ∧ n < 100000 ∧ r1 ∈ [1, 2, 3, 4] ∧ cs.length < 1000 then some (pc + 2, (2, (cs.length : Int)) :: r, cs ++ [(r1, 0, List.replicate n.toNat 0)]) else none
      | none => none) = some (pc', st', cs') := ho
    split at ho
    · rename_i n r h1
      have hst2 := mm_b1_inv h1
      subst hst2
      split at ho
      · rename_i hg
        cases ho
        obtain ⟨hn0, hn1, hk, hNl⟩ := hg
        have htc : cc_tc t = r1 := of_decide_eq_true hok
        have hn32 : mm_r32 n := ⟨by omega, by omega⟩
        have hnn : (Int32.ofInt n).toNatClampNeg = n.toNat := Int32.toNatClampNeg_ofInt_of_le (by omega) (by omega)
        have hneg : ¬ Int32.ofInt n < 0 := fun q => by
          have := (mm_lt32 hn32 mm_r32_0).mp q
          omega
        have hl : (cs ++ [((r1, 0, List.replicate n.toNat 0) : cc_C)]).length = cs.length + 1 := List.length_append.trans rfl
        have hz : cc_sz (cs ++ [((r1, 0, List.replicate n.toNat 0) : cc_C)]) = cc_sz cs + n.toNat := by rw [cc_sz_app]; congr 1; exact List.length_replicate
        have hrest : ∀ v ∈ r, cc_lt cs.length v := fun v hv => hst v (List.mem_cons_of_mem _ hv)
        have fin : ∀ (q : Nat) (H1 : Heap) (ee : va_E), ee = cc_cell (cc_up σ cs.length q) P (r1, 0, List.replicate n.toNat 0) → va_P (dC, dI) mm_cl (cc_w σ P cs ++ [(q, ee)]) H1 → va_D (fun q => B0 ≤ q) (cc_w σ P cs ++ [(q, ee)]) → va_S (fun q => B0 ≤ q) H0 H1 locs → W p l e R s m args below meth c H1 locs (cs.length - N0 + 1) (cc_sz cs - Z0 + n.toNat) Q (F0 m (pc + 2) ls (.ref q :: r.map (mm_rl σ))) := fun q H1 ee he hP1 hD1 hS1 => by
          rw [cc_w_app hNl hcs he] at hP1 hD1
          have k1 := kk _ H1 locs (cc_up_ag hNl) hP1 hD1 hS1
          rw [hl, hz, show cs.length + 1 - N0 = cs.length - N0 + 1 by omega, show cc_sz cs + n.toNat - Z0 = cc_sz cs - Z0 + n.toNat by omega, List.map_cons, cc_ag_map (cc_up_ag hNl) hrest, mm_rl_ref (by omega)] at k1
          rw [show cc_up σ cs.length q ((cs.length : Int)).toNat = q from by unfold cc_up; rw [if_pos (by omega)]] at k1
          exact k1
        have hget : ∀ j : Nat, (List.replicate n.toNat (0 : Int)).getD j 0 = 0 := fun j => by
          rw [List.getD_eq_getElem?_getD, List.getElem?_replicate]; split <;> rfl
        have hint : ∀ k : Nat, k ≠ 0 → k ≠ 2 → ¬ (k = 5 ∨ k = 6) → ∀ q, cc_cell (cc_up σ cs.length q) P ((k, 0, List.replicate n.toNat 0) : cc_C) = .inl (P k, n.toNat, .inl (fun _ => (0 : Int32))) := fun k a1 a2 a3 q => by
          unfold cc_cell
          rw [if_neg a1, if_neg a2, if_neg a3]
          show Sum.inl (P k, (List.replicate n.toNat (0 : Int)).length, _) = _
          rw [List.length_replicate]
          congr 3
          congr 1
          funext j
          show Int32.ofInt ((List.replicate n.toNat (0 : Int)).getD j 0) = 0
          rw [hget]; rfl
        rw [List.map_cons]
        have hK0 := hK.2
        cases t
        case int =>
          subst htc
          refine va_newa (atype := .int) (ty := .int) (N' := n.toNat) (a0 := (n.toNat, .inl fun _ => 0)) hx hb (hts _ cc_arr.1) rfl hK hP hD hS hB (fun cA => rfl) hneg hnn (by show n.toNat * 4 ≤ _; omega) (by omega) (by omega) hd (fun q cA H1 hK1 hP1 hD1 hS1 => ?_)
          have hcA : cA = P 1 := Option.some.inj ((hK1.2 6 (cA, .int) rfl).2.symm.trans (hK.2 0 _ rfl).2)
          rw [hcA] at hP1 hD1
          exact fin q H1 _ (hint 1 (by decide) (by decide) (by decide) q).symm hP1 hD1 hS1
        case byte =>
          subst htc
          refine va_newa (atype := .byte) (ty := .byte) (N' := n.toNat) (a0 := (n.toNat, .inl fun _ => 0)) hx hb (hts _ cc_arr.2.1) rfl hK hP hD hS hB (fun cA => rfl) hneg hnn (by show n.toNat * 1 ≤ _; omega) (by omega) (by omega) hd (fun q cA H1 hK1 hP1 hD1 hS1 => ?_)
          have hcA : cA = P 3 := Option.some.inj ((hK1.2 6 (cA, .byte) rfl).2.symm.trans (hK.2 2 _ rfl).2)
          rw [hcA] at hP1 hD1
          exact fin q H1 _ (hint 3 (by decide) (by decide) (by decide) q).symm hP1 hD1 hS1
        case boolean =>
          subst htc
          refine va_newa (atype := .boolean) (ty := .boolean) (N' := n.toNat) (a0 := (n.toNat, .inl fun _ => 0)) hx hb (hts _ cc_arr.2.2.2) rfl hK hP hD hS hB (fun cA => rfl) hneg hnn (by show n.toNat * 1 ≤ _; omega) (by omega) (by omega) hd (fun q cA H1 hK1 hP1 hD1 hS1 => ?_)
          have hcA : cA = P 4 := Option.some.inj ((hK1.2 6 (cA, .boolean) rfl).2.symm.trans (hK.2 3 _ rfl).2)
          rw [hcA] at hP1 hD1
          exact fin q H1 _ (hint 4 (by decide) (by decide) (by decide) q).symm hP1 hD1 hS1
        case long =>
          subst htc
          refine va_newa (atype := .long) (ty := .long) (N' := n.toNat) (a0 := (n.toNat, .inr (.inl fun _ => 0))) hx hb (hts _ cc_arr.2.2.1) rfl hK hP hD hS hB (fun cA => rfl) hneg hnn (by show n.toNat * 8 ≤ _; omega) (by omega) (by omega) hd (fun q cA H1 hK1 hP1 hD1 hS1 => ?_)
          have hcA : cA = P 2 := Option.some.inj ((hK1.2 6 (cA, .long) rfl).2.symm.trans (hK.2 1 _ rfl).2)
          rw [hcA] at hP1 hD1
          refine fin q H1 _ ?_ hP1 hD1 hS1
          show _ = cc_cell (cc_up σ cs.length q) P ((2, 0, List.replicate n.toNat 0) : cc_C)
          unfold cc_cell
          rw [if_neg (show ¬ (2 : Nat) = 0 by decide), if_pos rfl]
          show _ = Sum.inl (P 2, (List.replicate n.toNat (0 : Int)).length, _)
          rw [List.length_replicate]
          congr 5
          funext j
          show 0 = Int64.ofInt ((List.replicate n.toNat (0 : Int)).getD j 0)
          rw [hget]; rfl
        all_goals (exfalso; subst htc; exact absurd hk (by decide))
      · cases ho
    · cases ho
  case anewarray idx =>
    subst hlen
    replace ho : (match mm_b1 st 0 with
      | some (n, r) => if 0 ≤ n ∧ n < 100000 ∧ r1 ∈ [5, 6] ∧ cs.length < 1000 then some (pc + 3, (2, (cs.length : Int)) :: r, cs ++ [(r1, 0, List.replicate n.toNat (-1))]) else none
      | none => none) = some (pc', st', cs') := ho
    split at ho
    · rename_i n r h1
      have hst2 := mm_b1_inv h1
      subst hst2
      split at ho
      · rename_i hg
        cases ho
        obtain ⟨hn0, hn1, hk, hNl⟩ := hg
        have hn32 : mm_r32 n := ⟨by omega, by omega⟩
        have hnn : (Int32.ofInt n).toNatClampNeg = n.toNat := Int32.toNatClampNeg_ofInt_of_le (by omega) (by omega)
        have hneg : ¬ Int32.ofInt n < 0 := fun q => by
          have := (mm_lt32 hn32 mm_r32_0).mp q
          omega
        obtain ⟨q, hq, h⟩ := List.any_eq_true.mp hok
        have h := of_decide_eq_true h
        dsimp only at h
        have w1 := cc_la_ok q hq
        rw [h.1, h.2.1, h.2.2] at w1
        have hl : (cs ++ [((r1, 0, List.replicate n.toNat (-1)) : cc_C)]).length = cs.length + 1 := List.length_append.trans rfl
        have hz : cc_sz (cs ++ [((r1, 0, List.replicate n.toNat (-1)) : cc_C)]) = cc_sz cs + n.toNat := by rw [cc_sz_app]; congr 1; exact List.length_replicate
        have hrest : ∀ v ∈ r, cc_lt cs.length v := fun v hv => hst v (List.mem_cons_of_mem _ hv)
        have hget : ∀ j : Nat, (List.replicate n.toNat (-1 : Int)).getD j (-1) = -1 := fun j => by
          rw [List.getD_eq_getElem?_getD, List.getElem?_replicate]; split <;> rfl
        have hcellq : ∀ (k : Nat), (k = 5 ∨ k = 6) → ∀ q, cc_cell (cc_up σ cs.length q) P ((k, 0, List.replicate n.toNat (-1)) : cc_C) = .inl (P k, n.toNat, .inr (.inr (.inr (.inr (fun _ => none))))) := fun k hk q => by
          unfold cc_cell
          rw [if_neg (show ¬ k = 0 by omega), if_neg (show ¬ k = 2 by omega), if_pos hk]
          show Sum.inl (P k, (List.replicate n.toNat (-1 : Int)).length, _) = _
          rw [List.length_replicate]
          congr 7
          funext j
          show (if (List.replicate n.toNat (-1 : Int)).getD j (-1) < 0 then none else _) = none
          rw [hget, if_pos (by decide)]
        rw [List.map_cons]
        have fin : ∀ (q : Nat) (H1 : Heap) (ee : va_E), ee = cc_cell (cc_up σ cs.length q) P (r1, 0, List.replicate n.toNat (-1)) → va_P (dC, dI) mm_cl (cc_w σ P cs ++ [(q, ee)]) H1 → va_D (fun q => B0 ≤ q) (cc_w σ P cs ++ [(q, ee)]) → va_S (fun q => B0 ≤ q) H0 H1 locs → W p l e R s m args below meth c H1 locs (cs.length - N0 + 1) (cc_sz cs - Z0 + n.toNat) Q (F0 m (pc + 3) ls (.ref q :: r.map (mm_rl σ))) := fun q H1 ee he hP1 hD1 hS1 => by
          rw [cc_w_app hNl hcs he] at hP1 hD1
          have k1 := kk _ H1 locs (cc_up_ag hNl) hP1 hD1 hS1
          rw [hl, hz, show cs.length + 1 - N0 = cs.length - N0 + 1 by omega, show cc_sz cs + n.toNat - Z0 = cc_sz cs - Z0 + n.toNat by omega, List.map_cons, cc_ag_map (cc_up_ag hNl) hrest, mm_rl_ref (by omega)] at k1
          rw [show cc_up σ cs.length q ((cs.length : Int)).toNat = q from by unfold cc_up; rw [if_pos (by omega)]] at k1
          exact k1
        have obj : ∀ (cA cB : ClassId) (C : String), va_RA s cA (.object C) → va_RA s cB (.object C) → cA = cB := fun cA cB C a b => by
          obtain ⟨-, -, -, -, -, h4⟩ := a
          obtain ⟨-, -, -, -, -, h4'⟩ := b
          exact Option.some.inj (h4.symm.trans h4')
        rcases (show r1 = 5 ∨ r1 = 6 by simpa using hk) with rfl | rfl
        · refine va_newq (C := "PagesByLevels$Complex") (N' := n.toNat) hx hb hown (hts _ w1) hAO1 hK hP hD hS hB hneg hnn (by omega) (by omega) (by omega) hd (fun q cA H1 hK1 hP1 hD1 hS1 => ?_)
          have hcA : cA = P 5 := obj _ _ _ (hK1.2 6 (cA, .object "PagesByLevels$Complex") rfl).2 (hK.2 4 _ rfl).2
          rw [hcA] at hP1 hD1
          exact fin q H1 _ (hcellq 5 (Or.inl rfl) q).symm hP1 hD1 hS1
        · refine va_newq (C := "PagesByLevels$Sheet") (N' := n.toNat) hx hb hown (hts _ w1) hAO2 hK hP hD hS hB hneg hnn (by omega) (by omega) (by omega) hd (fun q cA H1 hK1 hP1 hD1 hS1 => ?_)
          have hcA : cA = P 6 := obj _ _ _ (hK1.2 6 (cA, .object "PagesByLevels$Sheet") rfl).2 (hK.2 5 _ rfl).2
          rw [hcA] at hP1 hD1
          exact fin q H1 _ (hcellq 6 (Or.inr rfl) q).symm hP1 hD1 hS1
      · cases ho
    · cases ho
  case putfield idx =>
    subst hlen
    obtain ⟨u, x, a, fs, rfl, hc, h0, hl, hk, rfl, rfl⟩ := cc_put_inv ho
    have hok2 : (decide (own = r1) && cc_lf.any fun q => decide (q.1 = own ∧ q.2.1 = idx ∧ q.2.2.1 = r1 ∧ q.2.2.2.1 = r2)) = true := hok
    rw [Bool.and_eq_true] at hok2
    have hor : own = r1 := of_decide_eq_true hok2.1
    obtain ⟨q, hq, h⟩ := List.any_eq_true.mp hok2.2
    have h := of_decide_eq_true h
    obtain ⟨w1, hci, hr2⟩ := cc_lf_ok q hq
    unfold mm_lfw at w1
    rw [h.1, h.2.1, h.2.2.1, h.2.2.2] at w1
    rw [h.2.2.1] at hci
    rw [h.2.2.1, h.2.2.2] at hr2
    have he := cc_w_get (σ := σ) (P := P) hc
    have hcell : ∀ fs : List Int, fs.length = mm_nf r1 → cc_cell σ P ((0, r1, fs) : cc_C) = .inr (r1, (List.range (mm_nf r1)).map fun k => mm_rl σ (if cc_isR r1 k then 2 else 0, fs.getD k 0)) := fun fs hf => by
      unfold cc_cell
      rw [if_pos rfl]
      show Sum.inr (r1, (List.range fs.length).map _) = _
      rw [hf]
    rw [hcell fs hl] at he
    obtain ⟨t1, t2, t3⟩ := cc_isR_ty r1 hci r2 hr2
    obtain ⟨hk0, hk3, -, -⟩ := mm_Fki r1 hci r2 hr2
    have hv : mm_rl σ (u, x) = mm_rl σ (if cc_isR r1 r2 then 2 else 0, x) ∧ narrow (mm_ty r1 r2) (mm_rl σ (u, x)) = mm_rl σ (u, x) ∧ fits (mm_ty r1 r2) (mm_rl σ (u, x)) = true := by
      rcases hk with ⟨hr, rfl, -, -⟩ | ⟨hr, rfl, hk⟩
      · rw [if_pos hr]
        exact ⟨rfl, cc_narrow (t1 hr)⟩
      · rw [if_neg (by rw [hr]; decide)]
        rcases hk with z | ⟨z, hx01⟩
        · rw [hk0 z]; exact ⟨rfl, rfl, rfl⟩
        · rw [hk3 z]; rcases hx01 with rfl | rfl <;> exact ⟨rfl, rfl, rfl⟩
    have fin : ∀ (H1 : Heap) (locs1 : List Loc), va_P (dC, dI) mm_cl ((cc_w σ P cs).set a.toNat (σ a.toNat, .inr (r1, ((List.range (mm_nf r1)).map fun k => mm_rl σ (if cc_isR r1 k then 2 else 0, fs.getD k 0)).set r2 (mm_rl σ (u, x))))) H1 → va_D (fun q => B0 ≤ q) ((cc_w σ P cs).set a.toNat (σ a.toNat, .inr (r1, ((List.range (mm_nf r1)).map fun k => mm_rl σ (if cc_isR r1 k then 2 else 0, fs.getD k 0)).set r2 (mm_rl σ (u, x))))) → va_S (fun q => B0 ≤ q) H0 H1 locs1 → W p l e R s m args below meth c H1 locs1 (cs.length - N0) (cc_sz cs - Z0) Q (F0 m (pc + 3) ls (st'.map (mm_rl σ))) := fun H1 locs1 hP1 hD1 hS1 => by
      have e1 : ((List.range (mm_nf r1)).map fun k => mm_rl σ (if cc_isR r1 k then 2 else 0, fs.getD k 0)).set r2 (mm_rl σ (u, x)) = (List.range (mm_nf r1)).map fun k => mm_rl σ (if cc_isR r1 k then 2 else 0, (fs.set r2 x).getD k 0) := by
        apply List.ext_getElem?
        intro j
        by_cases hj : j = r2
        · subst hj
          rw [List.getElem?_set_self (by rw [List.length_map, List.length_range]; exact hr2), List.getElem?_map, List.getElem?_range hr2]
          simp only [Option.map_some]
          rw [hv.1, cc_getD_set (by omega), if_pos rfl]
        · rw [List.getElem?_set_ne (Ne.symm hj), List.getElem?_map, List.getElem?_map]
          by_cases hjl : j < mm_nf r1
          · rw [List.getElem?_range hjl]
            simp only [Option.map_some]
            rw [cc_getD_set (by omega), if_neg hj]
          · rw [List.getElem?_eq_none (by rw [List.length_range]; omega)]; rfl
      rw [e1, ← hcell (fs.set r2 x) (by rw [List.length_set]; exact hl), cc_w_set] at hP1 hD1
      have k1 := kk σ H1 locs1 (fun _ _ => rfl) hP1 hD1 hS1
      rw [List.length_set, cc_sz_set cs _ _ _ hc (List.length_set ..)] at k1
      exact k1
    rw [List.map_cons, List.map_cons, mm_rl_ref h0]
    by_cases hfin : (mm_F r1 r2).2.2.2 = true
    · refine va_putF (ref := (mm_F r1 r2).1) hx hb hts (mm_Fw r1 hci) (mm_ty r1) (mm_Fty r1 hci) (mm_Fnm r1 hci) hown hK hP hD hS a.toNat he (mm_Fcl r1 hci) r2 hr2 (hts _ w1) (fun _ z => z) hfin (hinit (hown13 idx rfl)) (by rw [t3, hor]) (mm_Fty r1 hci r2 hr2) hv.2.1 hv.2.2 (by rw [List.length_map, List.length_range]; exact hr2) hd (fun H1 locs1 a1 a2 a3 => fin H1 locs1 a1 a2 a3)
    · refine va_put (ref := (mm_F r1 r2).1) hx hb hts (mm_Fw r1 hci) (mm_ty r1) (mm_Fty r1 hci) (mm_Fnm r1 hci) hown hK hP hD hS a.toNat he (mm_Fcl r1 hci) r2 hr2 (hts _ w1) (fun _ z => z) (by simpa using hfin) (mm_Fty r1 hci r2 hr2) hv.2.1 hv.2.2 (by rw [List.length_map, List.length_range]; exact hr2) hd (fun H1 locs1 a1 a2 a3 => fin H1 locs1 a1 a2 a3)
  case getfield idx =>
    subst hlen
    obtain ⟨a, t, fs, rfl, hc, h0, hl, rfl, rfl, rfl⟩ := cc_get_inv ho
    obtain ⟨q, hq, h⟩ := List.any_eq_true.mp hok
    have h := of_decide_eq_true h
    dsimp only at h
    obtain ⟨w1, hci, hr2⟩ := cc_lf_ok q hq
    unfold mm_lfw at w1
    rw [h.1, h.2.1, h.2.2.1, h.2.2.2] at w1
    rw [h.2.2.1] at hci
    rw [h.2.2.1, h.2.2.2] at hr2
    have he := cc_w_get (σ := σ) (P := P) hc
    have hcell : cc_cell σ P ((0, r1, fs) : cc_C) = .inr (r1, (List.range (mm_nf r1)).map fun k => mm_rl σ (if cc_isR r1 k then 2 else 0, fs.getD k 0)) := by
      unfold cc_cell
      rw [if_pos rfl]
      show Sum.inr (r1, (List.range fs.length).map _) = _
      rw [hl]
    rw [hcell] at he
    rw [List.map_cons, mm_rl_ref h0]
    refine va_get (ref := (mm_F r1 r2).1) hx hb hts (mm_Fw r1 hci) hown hK hP a.toNat he (mm_Fcl r1 hci) r2 hr2 (hts _ w1) (fun _ z => z) (v := mm_rl σ (if cc_isR r1 r2 then 2 else 0, fs.getD r2 0)) ?_ hd (k0 rfl)
    rw [List.getElem?_map, List.getElem?_range hr2]
    rfl
  case iastore =>
    subst hlen
    obtain ⟨x, i, a, q, l2, rfl, hc, h0, hi0, hi1, hi2, rfl, rfl⟩ := cc_ist_inv ho
    have hi32 : mm_r32 i := ⟨by omega, by omega⟩
    obtain ⟨hin2, hnn⟩ := mm_nn hi32 hi0 hi1
    have he := cc_w_get (σ := σ) (P := P) hc
    have hcell : ∀ l2 : List Int, cc_cell σ P ((1, q, l2) : cc_C) = .inl (P 1, l2.length, .inl fun j => Int32.ofInt (l2.getD j 0)) := fun l2 => by
      unfold cc_cell
      rw [if_neg (show ¬ (1 : Nat) = 0 by decide), if_neg (show ¬ (1 : Nat) = 2 by decide), if_neg (show ¬ ((1 : Nat) = 5 ∨ (1 : Nat) = 6) by decide)]
    rw [hcell] at he
    rw [List.map_cons, List.map_cons, List.map_cons, mm_rl_ref h0]
    refine va_iast (x := Int32.ofInt x) hx hb hK hP hD hS a.toNat 0 he rfl hin2 hd (fun H1 locs1 hP1 hD1 hS1 => ?_)
    rw [hnn] at hP1 hD1
    have e1 : upd (fun j => Int32.ofInt (l2.getD j 0)) i.toNat (Int32.ofInt x) = fun j => Int32.ofInt ((l2.set i.toNat x).getD j 0) := by
      funext j
      rw [cc_getD_set (by omega)]
      unfold upd
      split <;> rfl
    have e2 : (l2.set i.toNat x).length = l2.length := List.length_set ..
    rw [e1, ← e2, ← hcell, cc_w_set] at hP1 hD1
    have k1 := kk σ H1 locs1 (fun _ _ => rfl) hP1 hD1 hS1
    rw [List.length_set, cc_sz_set cs _ _ _ hc (List.length_set ..)] at k1
    exact k1
  case aastore =>
    subst hlen
    obtain ⟨x, i, a, k, q, l2, ci, fs, rfl, hc, hcx, h0, hi0, hi1, hi2, hx0, hkc, rfl, rfl⟩ := cc_ast_inv ho
    have hi32 : mm_r32 i := ⟨by omega, by omega⟩
    obtain ⟨hin2, hnn⟩ := mm_nn hi32 hi0 hi1
    have he := cc_w_get (σ := σ) (P := P) hc
    have hex := cc_w_get (σ := σ) (P := P) hcx
    have hxcell : ∃ vs, cc_cell σ P ((0, ci, fs) : cc_C) = .inr (ci, vs) := by
      unfold cc_cell
      rw [if_pos rfl]
      exact ⟨_, rfl⟩
    obtain ⟨vs, hvs⟩ := hxcell
    rw [hvs] at hex
    have hcell : ∀ l2 : List Int, cc_cell σ P ((k, q, l2) : cc_C) = .inl (P k, l2.length, .inr (.inr (.inr (.inr fun j => if l2.getD j (-1) < 0 then none else some (σ (l2.getD j (-1)).toNat))))) := fun l2 => by
      unfold cc_cell
      rw [if_neg (show ¬ k = 0 by omega), if_neg (show ¬ k = 2 by omega), if_pos (show k = 5 ∨ k = 6 by omega)]
    rw [hcell] at he
    rw [List.map_cons, List.map_cons, List.map_cons, mm_rl_ref h0, mm_rl_ref hx0]
    have fin : ∀ (H1 : Heap) (locs1 : List Loc), va_P (dC, dI) mm_cl ((cc_w σ P cs).set a.toNat (σ a.toNat, .inl (P k, l2.length, .inr (.inr (.inr (.inr (va_up (fun j => if l2.getD j (-1) < 0 then none else some (σ (l2.getD j (-1)).toNat)) (Int32.ofInt (0, i).2).toNatClampNeg (some (σ x.toNat))))))))) H1 → va_D (fun q => B0 ≤ q) ((cc_w σ P cs).set a.toNat (σ a.toNat, .inl (P k, l2.length, .inr (.inr (.inr (.inr (va_up (fun j => if l2.getD j (-1) < 0 then none else some (σ (l2.getD j (-1)).toNat)) (Int32.ofInt (0, i).2).toNatClampNeg (some (σ x.toNat))))))))) → va_S (fun q => B0 ≤ q) H0 H1 locs1 → W p l e R s m args below meth c H1 locs1 (cs.length - N0) (cc_sz cs - Z0) Q (F0 m (pc + 1) ls (st'.map (mm_rl σ))) := fun H1 locs1 hP1 hD1 hS1 => by
      rw [show (Int32.ofInt (0, i).2).toNatClampNeg = i.toNat from hnn] at hP1 hD1
      have e1 : va_up (fun j => if l2.getD j (-1) < 0 then none else some (σ (l2.getD j (-1)).toNat)) i.toNat (some (σ x.toNat)) = fun j => if (l2.set i.toNat x).getD j (-1) < 0 then none else some (σ ((l2.set i.toNat x).getD j (-1)).toNat) := by
        funext j
        rw [cc_getD_set (by omega)]
        unfold va_up
        by_cases hj : j = i.toNat
        · rw [if_pos hj, if_pos hj, if_neg (by omega)]
        · rw [if_neg hj, if_neg hj]
      have e2 : (l2.set i.toNat x).length = l2.length := List.length_set ..
      rw [e1, ← e2, ← hcell, cc_w_set] at hP1 hD1
      have k1 := kk σ H1 locs1 (fun _ _ => rfl) hP1 hD1 hS1
      rw [List.length_set, cc_sz_set cs _ _ _ hc (List.length_set ..)] at k1
      exact k1
    rcases hkc with ⟨rfl, rfl⟩ | ⟨rfl, rfl⟩
    · exact va_astq (r := (mm_cn 1, mm_F 1, mm_nf 1)) hx hb hK hP hD hS a.toNat 4 x.toNat 1 he rfl hex rfl hin2 hd fin
    · exact va_astq (r := (mm_cn 7, mm_F 7, mm_nf 7)) hx hb hK hP hD hS a.toNat 5 x.toNat 7 he rfl hex rfl hin2 hd fin
  case invokespecial idx =>
    subst hlen
    replace ho : (if r1 = 998 then (match st with
      | (2, a) :: t => if 0 ≤ a ∧ a < (cs.length : Int) ∧ mm_cs t ≤ 8 then some (pc + 3, t, cs) else none
      | _ => none) else none) = some (pc', st', cs') := ho
    split at ho
    · rename_i h9
      replace hok : (if r1 = 998 then cc_lo.any (fun q => decide (q.1 = own ∧ q.2.1 = idx)) && decide (1 ≤ fr ∧ 20 ≤ lo) else _) = true := hok
      rw [if_pos h9, Bool.and_eq_true] at hok
      obtain ⟨q, hq, h⟩ := List.any_eq_true.mp hok.1
      have h := of_decide_eq_true h
      have w1 := cc_lo_ok q hq
      rw [h.1, h.2] at w1
      have hrm := of_decide_eq_true hok.2
      split at ho
      · rename_i a t
        split at ho
        · rename_i hg
          cases ho
          rw [List.map_cons, mm_rl_ref hg.1]
          refine W.objInit (g := F0 m pc ls (.ref (σ a.toNat) :: st'.map (mm_rl σ))) (rest := st'.map (mm_rl σ)) hx hb hown (hts _ w1) (hts _ cc_obj.1) (hts _ cc_obj.2) rfl hsz rfl hd (by omega) ?_ (k0 rfl)
          show 2 * 0 + _ + 12 ≤ _
          have := mm_cat_sum σ st'
          omega
        · cases ho
      · cases ho
    · cases ho
  all_goals (exact absurd ho (by intro q; cases q))
end CC3
