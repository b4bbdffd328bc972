def mm_Cx (p : Program) (s : State) (m : MethodId) (args : Array Value) (own : Nat) (σ : Nat → Nat) (P : Nat → ClassId) (dC : Nat → ClassId) (dI : Nat → Nat → Nat) (B0 : Nat) : Prop :=
  p.tables.exec = Jvm.exec ∧ s.vm.findClass (mm_cn own) = some m.cls ∧ (∀ w ∈ wA, w.before args s = true) ∧ va_K (dC, dI) mm_cl (mm_tys P) s ∧ (∀ q ∈ mm_ln, va_Nw (mm_nw q) s) ∧ mm_ap B0 σ
theorem mm_cat (σ : Nat → Nat) (v : mm_V) : (mm_rl σ v).category = if v.1 = 1 then 2 else 1 := by
  unfold mm_rl
  by_cases h0 : v.1 = 0
  · rw [if_pos h0, if_neg (by omega)]; rfl
  · rw [if_neg h0]
    by_cases h1 : v.1 = 1
    · rw [if_pos h1, if_pos h1]; rfl
    · rw [if_neg h1, if_neg h1]
      split <;> rfl
theorem mm_cat1 {σ : Nat → Nat} {v : mm_V} (h : ¬ v.1 = 1) : (mm_rl σ v).category = 1 := by rw [mm_cat, if_neg h]
theorem mm_cat_sum (σ : Nat → Nat) : ∀ st : List mm_V, ((st.map (mm_rl σ)).map fun v => v.category).sum = mm_cs st
  | [] => rfl
  | v :: r => by
    show (mm_rl σ v).category + ((r.map (mm_rl σ)).map fun v => v.category).sum = _
    rw [mm_cat_sum σ r, mm_cat]
    rfl
theorem mm_byte {n : Int} (h : -128 ≤ n ∧ n < 128) : (Int8.ofInt n).toInt32 = Int32.ofInt n := by
  apply Int32.toInt_inj.mp
  rw [Int8.toInt_toInt32, Int8.toInt_ofInt_of_le (by omega) (by omega), mm_toInt32 ⟨by omega, by omega⟩]
theorem mm_short {n : Int} (h : -32768 ≤ n ∧ n < 32768) : (Int16.ofInt n).toInt32 = Int32.ofInt n := by
  apply Int32.toInt_inj.mp
  rw [Int16.toInt_toInt32, Int16.toInt_ofInt_of_le (by omega) (by omega), mm_toInt32 ⟨by omega, by omega⟩]
theorem mm_div32 {x y : Int} (hx : mm_r32 x) (hy : mm_r32 y) : Int32.ofInt x / Int32.ofInt y = Int32.ofInt (mm_w32 (Int.tdiv x y)) := by
  apply Int32.toInt_inj.mp
  rw [Int32.toInt_div, mm_toInt32 hx, mm_toInt32 hy, mm_toInt32 (mm_w32_r _)]
  rfl
theorem mm_div64 {x y : Int} (hx : mm_r64 x) (hy : mm_r64 y) : Int64.ofInt x / Int64.ofInt y = Int64.ofInt (mm_w64 (Int.tdiv x y)) := by
  apply Int64.toInt_inj.mp
  rw [Int64.toInt_div, mm_toInt64 hx, mm_toInt64 hy, mm_toInt64 (mm_w64_r _)]
  rfl
theorem mm_mod32 {x y : Int} (hx : mm_r32 x) (hy : mm_r32 y) : Int32.ofInt x - Int32.ofInt x / Int32.ofInt y * Int32.ofInt y = Int32.ofInt (Int.tmod x y) := by
  rw [mm_div32 hx hy, mm_w32_of, ← Int32.ofInt_mul, ← Int32.ofInt_sub]
  congr 1
  have := Int.mul_tdiv_add_tmod x y
  rw [Int.mul_comm] at this
  omega
theorem mm_mod64 {x y : Int} (hx : mm_r64 x) (hy : mm_r64 y) : Int64.ofInt x - Int64.ofInt x / Int64.ofInt y * Int64.ofInt y = Int64.ofInt (Int.tmod x y) := by
  rw [mm_div64 hx hy, mm_w64_of, ← Int64.ofInt_mul, ← Int64.ofInt_sub]
  congr 1
  have := Int.mul_tdiv_add_tmod x y
  rw [Int.mul_comm] at this
  omega
theorem mm_i2l {x : Int} (h : mm_r32 x) : (Int32.ofInt x).toInt64 = Int64.ofInt x := by
  apply Int64.toInt_inj.mp
  rw [Int32.toInt_toInt64, mm_toInt32 h, mm_toInt64 ⟨by have := h.1; omega, by have := h.2; omega⟩]
theorem mm_l2i {x : Int} (h : mm_r64 x) : (Int64.ofInt x).toInt32 = Int32.ofInt (mm_w32 x) := by
  apply Int32.toInt_inj.mp
  rw [Int64.toInt_toInt32, mm_toInt64 h, mm_toInt32 (mm_w32_r _)]
  rfl
theorem mm_i2b {x : Int} (h : mm_r32 x) : (Int32.ofInt x).toInt8.toInt32 = Int32.ofInt (Int.bmod x 256) := by
  apply Int32.toInt_inj.mp
  rw [Int8.toInt_toInt32, Int32.toInt_toInt8, mm_toInt32 h, mm_toInt32 ⟨by rw [Int.bmod_def]; split <;> omega, by rw [Int.bmod_def]; split <;> omega⟩]
theorem mm_lcc {x y : Int} (hx : mm_r64 x) (hy : mm_r64 y) : lg_cmp (Int64.ofInt x) (Int64.ofInt y) = Int32.ofInt (if y < x then 1 else if x = y then 0 else -1) := by
  have e1 : Int64.ofInt x > Int64.ofInt y ↔ y < x := by rw [gt_iff_lt, Int64.lt_iff_toInt_lt, mm_toInt64 hx, mm_toInt64 hy]
  have e2 : Int64.ofInt x = Int64.ofInt y ↔ x = y := by rw [← Int64.toInt_inj, mm_toInt64 hx, mm_toInt64 hy]
  unfold lg_cmp
  by_cases h1 : y < x
  · rw [if_pos (e1.mpr h1), if_pos h1]; rfl
  · rw [if_neg (fun q => h1 (e1.mp q)), if_neg h1]
    by_cases h2 : x = y
    · rw [if_pos (e2.mpr h2), if_pos h2]; rfl
    · rw [if_neg (fun q => h2 (e2.mp q)), if_neg h2]; rfl
theorem mm_nn {i : Int} {n : Nat} (hi : mm_r32 i) (h0 : 0 ≤ i) (h1 : i < (n : Int)) : vp_in (Int32.ofInt i) n ∧ (Int32.ofInt i).toNatClampNeg = i.toNat := by
  have e : (Int32.ofInt i).toNatClampNeg = i.toNat := Int32.toNatClampNeg_ofInt_of_le (by have := hi.1; omega) (by have := hi.2; omega)
  refine ⟨?_, e⟩
  unfold vp_in
  rw [e]
  intro h
  rcases h with h | h
  · have h2 := (mm_lt32 hi mm_r32_0).mp h
    omega
  · omega

section OPS
variable {p : Program} {l : Launch} {e : Env} {R : Room} {s : State} {m : MethodId} {args : Array Value} {below : List Frame} {meth : Method} {c : Code} {H H0 : Heap} {locs : List Loc} {cells slots : Nat} {Q : State → Prop} {cc : ByteArray} {ls : Array Slot} {σ : Nat → Nat} {P : Nat → ClassId} {dC : Nat → ClassId} {dI : Nat → Nat → Nat} {B0 own : Nat}
abbrev mm_KK (p : Program) (l : Launch) (e : Env) (R : Room) (s : State) (m : MethodId) (args : Array Value) (below : List Frame) (meth : Method) (c : Code) (H0 : Heap) (cells slots : Nat) (Q : State → Prop) (ls : Array Slot) (σ : Nat → Nat) (P : Nat → ClassId) (dC : Nat → ClassId) (dI : Nat → Nat → Nat) (B0 : Nat) (pc' : Nat) (st' : List mm_V) (S' : mm_S) : Prop :=
  ∀ (H1 : Heap) (locs1 : List Loc), va_P (dC, dI) mm_cl (mm_ws σ P S') H1 → va_S (fun q => B0 ≤ q) H0 H1 locs1 → W p l e R s m args below meth c H1 locs1 cells slots Q (F0 m pc' ls (st'.map (mm_rl σ)))
theorem mm_s_aconst_null (C : mm_Cx p s m args own σ P dC dI B0) (hb : c.code = cc) {pc len r1 r2 : Nat} {r3 : Int} {st st' : List mm_V} {S S' : mm_S} {pc' fr lo : Nat} (hd : decode cc pc = .ok (.aconst_null, len)) (hlen : len = 1) (hok : mm_iok own fr lo (pc, .aconst_null, len, r1, r2, r3) = true) (ho : mm_op pc .aconst_null (pc + len) r1 r2 r3 st S = some (pc', st', S')) (hir : ∀ v ∈ st, mm_ir v) (hsok : mm_sok S) (hP : va_P (dC, dI) mm_cl (mm_ws σ P S) H) (hS : va_S (fun q => B0 ≤ q) H0 H locs) (kk : mm_KK p l e R s m args below meth c H0 cells slots Q ls σ P dC dI B0 pc' st' S') : W p l e R s m args below meth c H locs cells slots Q (F0 m pc ls (st.map (mm_rl σ))) := by
  obtain ⟨hx, hown, hts, hK, hN, hap⟩ := C
  cases ho; subst hlen
  exact lv_null hx hb hd (kk H locs hP hS)
theorem mm_s_iconst {n : Int} (C : mm_Cx p s m args own σ P dC dI B0) (hb : c.code = cc) {pc len r1 r2 : Nat} {r3 : Int} {st st' : List mm_V} {S S' : mm_S} {pc' fr lo : Nat} (hd : decode cc pc = .ok ((.iconst n), len)) (hlen : len = 1) (hok : mm_iok own fr lo (pc, (.iconst n), len, r1, r2, r3) = true) (ho : mm_op pc (.iconst n) (pc + len) r1 r2 r3 st S = some (pc', st', S')) (hir : ∀ v ∈ st, mm_ir v) (hsok : mm_sok S) (hP : va_P (dC, dI) mm_cl (mm_ws σ P S) H) (hS : va_S (fun q => B0 ≤ q) H0 H locs) (kk : mm_KK p l e R s m args below meth c H0 cells slots Q ls σ P dC dI B0 pc' st' S') : W p l e R s m args below meth c H locs cells slots Q (F0 m pc ls (st.map (mm_rl σ))) := by
  obtain ⟨hx, hown, hts, hK, hN, hap⟩ := C
  cases ho; subst hlen
  exact lv_iconst hx hb hd rfl (kk H locs hP hS)
theorem mm_s_bipush {n : Int} (C : mm_Cx p s m args own σ P dC dI B0) (hb : c.code = cc) {pc len r1 r2 : Nat} {r3 : Int} {st st' : List mm_V} {S S' : mm_S} {pc' fr lo : Nat} (hd : decode cc pc = .ok ((.bipush n), len)) (hlen : len = 2) (hok : mm_iok own fr lo (pc, (.bipush n), len, r1, r2, r3) = true) (ho : mm_op pc (.bipush n) (pc + len) r1 r2 r3 st S = some (pc', st', S')) (hir : ∀ v ∈ st, mm_ir v) (hsok : mm_sok S) (hP : va_P (dC, dI) mm_cl (mm_ws σ P S) H) (hS : va_S (fun q => B0 ≤ q) H0 H locs) (kk : mm_KK p l e R s m args below meth c H0 cells slots Q ls σ P dC dI B0 pc' st' S') : W p l e R s m args below meth c H locs cells slots Q (F0 m pc ls (st.map (mm_rl σ))) := by
  obtain ⟨hx, hown, hts, hK, hN, hap⟩ := C
  cases ho; subst hlen
  exact lv_bipush hx hb hd (mm_byte (of_decide_eq_true hok)) (kk H locs hP hS)
theorem mm_s_sipush {n : Int} (C : mm_Cx p s m args own σ P dC dI B0) (hb : c.code = cc) {pc len r1 r2 : Nat} {r3 : Int} {st st' : List mm_V} {S S' : mm_S} {pc' fr lo : Nat} (hd : decode cc pc = .ok ((.sipush n), len)) (hlen : len = 3) (hok : mm_iok own fr lo (pc, (.sipush n), len, r1, r2, r3) = true) (ho : mm_op pc (.sipush n) (pc + len) r1 r2 r3 st S = some (pc', st', S')) (hir : ∀ v ∈ st, mm_ir v) (hsok : mm_sok S) (hP : va_P (dC, dI) mm_cl (mm_ws σ P S) H) (hS : va_S (fun q => B0 ≤ q) H0 H locs) (kk : mm_KK p l e R s m args below meth c H0 cells slots Q ls σ P dC dI B0 pc' st' S') : W p l e R s m args below meth c H locs cells slots Q (F0 m pc ls (st.map (mm_rl σ))) := by
  obtain ⟨hx, hown, hts, hK, hN, hap⟩ := C
  cases ho; subst hlen
  exact lv_sipush hx hb hd (mm_short (of_decide_eq_true hok)) (kk H locs hP hS)
theorem mm_s_lconst {n : Fin 2} (C : mm_Cx p s m args own σ P dC dI B0) (hb : c.code = cc) {pc len r1 r2 : Nat} {r3 : Int} {st st' : List mm_V} {S S' : mm_S} {pc' fr lo : Nat} (hd : decode cc pc = .ok ((.lconst n), len)) (hlen : len = 1) (hok : mm_iok own fr lo (pc, (.lconst n), len, r1, r2, r3) = true) (ho : mm_op pc (.lconst n) (pc + len) r1 r2 r3 st S = some (pc', st', S')) (hir : ∀ v ∈ st, mm_ir v) (hsok : mm_sok S) (hP : va_P (dC, dI) mm_cl (mm_ws σ P S) H) (hS : va_S (fun q => B0 ≤ q) H0 H locs) (kk : mm_KK p l e R s m args below meth c H0 cells slots Q ls σ P dC dI B0 pc' st' S') : W p l e R s m args below meth c H locs cells slots Q (F0 m pc ls (st.map (mm_rl σ))) := by
  obtain ⟨hx, hown, hts, hK, hN, hap⟩ := C
  cases ho; subst hlen
  exact lv_lconst hx hb hd (Int64.ofInt_eq_ofNat (n := (n : Nat))).symm (kk H locs hP hS)
theorem mm_s_ldc {n : Nat} (C : mm_Cx p s m args own σ P dC dI B0) (hb : c.code = cc) {pc len r1 r2 : Nat} {r3 : Int} {st st' : List mm_V} {S S' : mm_S} {pc' fr lo : Nat} (hd : decode cc pc = .ok ((.ldc n), len)) (hlen : len = 2) (hok : mm_iok own fr lo (pc, (.ldc n), len, r1, r2, r3) = true) (ho : mm_op pc (.ldc n) (pc + len) r1 r2 r3 st S = some (pc', st', S')) (hir : ∀ v ∈ st, mm_ir v) (hsok : mm_sok S) (hP : va_P (dC, dI) mm_cl (mm_ws σ P S) H) (hS : va_S (fun q => B0 ≤ q) H0 H locs) (kk : mm_KK p l e R s m args below meth c H0 cells slots Q ls σ P dC dI B0 pc' st' S') : W p l e R s m args below meth c H locs cells slots Q (F0 m pc ls (st.map (mm_rl σ))) := by
  obtain ⟨hx, hown, hts, hK, hN, hap⟩ := C
  cases ho; subst hlen
  obtain ⟨q, hq, h⟩ := List.any_eq_true.mp hok
  have h := of_decide_eq_true h
  have hw := (mm_lc_ok q hq).1
  rw [h.1, h.2.1, h.2.2] at hw
  exact lv_ldc hx hb hown (hts _ hw) hd (kk H locs hP hS)
theorem mm_s_ldc_w {n : Nat} (C : mm_Cx p s m args own σ P dC dI B0) (hb : c.code = cc) {pc len r1 r2 : Nat} {r3 : Int} {st st' : List mm_V} {S S' : mm_S} {pc' fr lo : Nat} (hd : decode cc pc = .ok ((.ldc_w n), len)) (hlen : len = 3) (hok : mm_iok own fr lo (pc, (.ldc_w n), len, r1, r2, r3) = true) (ho : mm_op pc (.ldc_w n) (pc + len) r1 r2 r3 st S = some (pc', st', S')) (hir : ∀ v ∈ st, mm_ir v) (hsok : mm_sok S) (hP : va_P (dC, dI) mm_cl (mm_ws σ P S) H) (hS : va_S (fun q => B0 ≤ q) H0 H locs) (kk : mm_KK p l e R s m args below meth c H0 cells slots Q ls σ P dC dI B0 pc' st' S') : W p l e R s m args below meth c H locs cells slots Q (F0 m pc ls (st.map (mm_rl σ))) := by
  obtain ⟨hx, hown, hts, hK, hN, hap⟩ := C
  cases ho; subst hlen
  obtain ⟨q, hq, h⟩ := List.any_eq_true.mp hok
  have h := of_decide_eq_true h
  have hw := (mm_lc_ok q hq).1
  rw [h.1, h.2.1, h.2.2] at hw
  exact lv_ldcw hx hb hown (hts _ hw) hd (kk H locs hP hS)
theorem mm_s_ldc2_w {n : Nat} (C : mm_Cx p s m args own σ P dC dI B0) (hb : c.code = cc) {pc len r1 r2 : Nat} {r3 : Int} {st st' : List mm_V} {S S' : mm_S} {pc' fr lo : Nat} (hd : decode cc pc = .ok ((.ldc2_w n), len)) (hlen : len = 3) (hok : mm_iok own fr lo (pc, (.ldc2_w n), len, r1, r2, r3) = true) (ho : mm_op pc (.ldc2_w n) (pc + len) r1 r2 r3 st S = some (pc', st', S')) (hir : ∀ v ∈ st, mm_ir v) (hsok : mm_sok S) (hP : va_P (dC, dI) mm_cl (mm_ws σ P S) H) (hS : va_S (fun q => B0 ≤ q) H0 H locs) (kk : mm_KK p l e R s m args below meth c H0 cells slots Q ls σ P dC dI B0 pc' st' S') : W p l e R s m args below meth c H locs cells slots Q (F0 m pc ls (st.map (mm_rl σ))) := by
  obtain ⟨hx, hown, hts, hK, hN, hap⟩ := C
  cases ho; subst hlen
  obtain ⟨q, hq, h⟩ := List.any_eq_true.mp hok
  have h := of_decide_eq_true h
  have hw := (mm_ll_ok q hq).1
  rw [h.1, h.2.1, h.2.2] at hw
  exact lv_ldc2 hx hb hown (hts _ hw) hd (kk H locs hP hS)
theorem mm_s_dup (C : mm_Cx p s m args own σ P dC dI B0) (hb : c.code = cc) {pc len r1 r2 : Nat} {r3 : Int} {st st' : List mm_V} {S S' : mm_S} {pc' fr lo : Nat} (hd : decode cc pc = .ok (.dup, len)) (hlen : len = 1) (hok : mm_iok own fr lo (pc, .dup, len, r1, r2, r3) = true) (ho : mm_op pc .dup (pc + len) r1 r2 r3 st S = some (pc', st', S')) (hir : ∀ v ∈ st, mm_ir v) (hsok : mm_sok S) (hP : va_P (dC, dI) mm_cl (mm_ws σ P S) H) (hS : va_S (fun q => B0 ≤ q) H0 H locs) (kk : mm_KK p l e R s m args below meth c H0 cells slots Q ls σ P dC dI B0 pc' st' S') : W p l e R s m args below meth c H locs cells slots Q (F0 m pc ls (st.map (mm_rl σ))) := by
  obtain ⟨hx, hown, hts, hK, hN, hap⟩ := C
  subst hlen
  match st, ho with
  | v :: t, ho =>
    replace ho : (if v.1 = 1 then none else some (pc + 1, v :: v :: t, S)) = some (pc', st', S') := ho
    split at ho
    · cases ho
    · rename_i h
      cases ho
      exact lv_dup hx hb hd (mm_cat1 h) (kk H locs hP hS)
theorem mm_s_pop (C : mm_Cx p s m args own σ P dC dI B0) (hb : c.code = cc) {pc len r1 r2 : Nat} {r3 : Int} {st st' : List mm_V} {S S' : mm_S} {pc' fr lo : Nat} (hd : decode cc pc = .ok (.pop, len)) (hlen : len = 1) (hok : mm_iok own fr lo (pc, .pop, len, r1, r2, r3) = true) (ho : mm_op pc .pop (pc + len) r1 r2 r3 st S = some (pc', st', S')) (hir : ∀ v ∈ st, mm_ir v) (hsok : mm_sok S) (hP : va_P (dC, dI) mm_cl (mm_ws σ P S) H) (hS : va_S (fun q => B0 ≤ q) H0 H locs) (kk : mm_KK p l e R s m args below meth c H0 cells slots Q ls σ P dC dI B0 pc' st' S') : W p l e R s m args below meth c H locs cells slots Q (F0 m pc ls (st.map (mm_rl σ))) := by
  obtain ⟨hx, hown, hts, hK, hN, hap⟩ := C
  subst hlen
  match st, ho with
  | v :: t, ho =>
    replace ho : (if v.1 = 1 then none else some (pc + 1, t, S)) = some (pc', st', S') := ho
    split at ho
    · cases ho
    · rename_i h
      cases ho
      exact lv_pop hx hb hd (mm_cat1 h) (kk H locs hP hS)
theorem mm_s_dup2 (C : mm_Cx p s m args own σ P dC dI B0) (hb : c.code = cc) {pc len r1 r2 : Nat} {r3 : Int} {st st' : List mm_V} {S S' : mm_S} {pc' fr lo : Nat} (hd : decode cc pc = .ok (.dup2, len)) (hlen : len = 1) (hok : mm_iok own fr lo (pc, .dup2, len, r1, r2, r3) = true) (ho : mm_op pc .dup2 (pc + len) r1 r2 r3 st S = some (pc', st', S')) (hir : ∀ v ∈ st, mm_ir v) (hsok : mm_sok S) (hP : va_P (dC, dI) mm_cl (mm_ws σ P S) H) (hS : va_S (fun q => B0 ≤ q) H0 H locs) (kk : mm_KK p l e R s m args below meth c H0 cells slots Q ls σ P dC dI B0 pc' st' S') : W p l e R s m args below meth c H locs cells slots Q (F0 m pc ls (st.map (mm_rl σ))) := by
  obtain ⟨hx, hown, hts, hK, hN, hap⟩ := C
  subst hlen
  match st, ho with
  | v :: w :: t, ho =>
    replace ho : (if v.1 = 1 ∨ w.1 = 1 then none else some (pc + 1, v :: w :: v :: w :: t, S)) = some (pc', st', S') := ho
    split at ho
    · cases ho
    · rename_i h
      cases ho
      exact lv_dup2_11 hx hb hd (mm_cat1 (fun q => h (Or.inl q))) (mm_cat1 (fun q => h (Or.inr q))) (kk H locs hP hS)
theorem mm_s_iadd (C : mm_Cx p s m args own σ P dC dI B0) (hb : c.code = cc) {pc len r1 r2 : Nat} {r3 : Int} {st st' : List mm_V} {S S' : mm_S} {pc' fr lo : Nat} (hd : decode cc pc = .ok (.iadd, len)) (hlen : len = 1) (hok : mm_iok own fr lo (pc, .iadd, len, r1, r2, r3) = true) (ho : mm_op pc .iadd (pc + len) r1 r2 r3 st S = some (pc', st', S')) (hir : ∀ v ∈ st, mm_ir v) (hsok : mm_sok S) (hP : va_P (dC, dI) mm_cl (mm_ws σ P S) H) (hS : va_S (fun q => B0 ≤ q) H0 H locs) (kk : mm_KK p l e R s m args below meth c H0 cells slots Q ls σ P dC dI B0 pc' st' S') : W p l e R s m args below meth c H locs cells slots Q (F0 m pc ls (st.map (mm_rl σ))) := by
  obtain ⟨hx, hown, hts, hK, hN, hap⟩ := C
  subst hlen
  obtain ⟨x, y, r, rfl, rfl, rfl, rfl⟩ := mm_bin_inv ho
  refine lv_iadd (x := Int32.ofInt x) (y := Int32.ofInt y) hx hb hd ?_
  rw [show Int32.ofInt x + Int32.ofInt y = Int32.ofInt (mm_w32 (x + y)) by rw [mm_w32_of, Int32.ofInt_add]]
  exact kk H locs hP hS
theorem mm_s_isub (C : mm_Cx p s m args own σ P dC dI B0) (hb : c.code = cc) {pc len r1 r2 : Nat} {r3 : Int} {st st' : List mm_V} {S S' : mm_S} {pc' fr lo : Nat} (hd : decode cc pc = .ok (.isub, len)) (hlen : len = 1) (hok : mm_iok own fr lo (pc, .isub, len, r1, r2, r3) = true) (ho : mm_op pc .isub (pc + len) r1 r2 r3 st S = some (pc', st', S')) (hir : ∀ v ∈ st, mm_ir v) (hsok : mm_sok S) (hP : va_P (dC, dI) mm_cl (mm_ws σ P S) H) (hS : va_S (fun q => B0 ≤ q) H0 H locs) (kk : mm_KK p l e R s m args below meth c H0 cells slots Q ls σ P dC dI B0 pc' st' S') : W p l e R s m args below meth c H locs cells slots Q (F0 m pc ls (st.map (mm_rl σ))) := by
  obtain ⟨hx, hown, hts, hK, hN, hap⟩ := C
  subst hlen
  obtain ⟨x, y, r, rfl, rfl, rfl, rfl⟩ := mm_bin_inv ho
  refine lv_isub (x := Int32.ofInt x) (y := Int32.ofInt y) hx hb hd ?_
  rw [show Int32.ofInt x - Int32.ofInt y = Int32.ofInt (mm_w32 (x - y)) by rw [mm_w32_of, Int32.ofInt_sub]]
  exact kk H locs hP hS
theorem mm_s_imul (C : mm_Cx p s m args own σ P dC dI B0) (hb : c.code = cc) {pc len r1 r2 : Nat} {r3 : Int} {st st' : List mm_V} {S S' : mm_S} {pc' fr lo : Nat} (hd : decode cc pc = .ok (.imul, len)) (hlen : len = 1) (hok : mm_iok own fr lo (pc, .imul, len, r1, r2, r3) = true) (ho : mm_op pc .imul (pc + len) r1 r2 r3 st S = some (pc', st', S')) (hir : ∀ v ∈ st, mm_ir v) (hsok : mm_sok S) (hP : va_P (dC, dI) mm_cl (mm_ws σ P S) H) (hS : va_S (fun q => B0 ≤ q) H0 H locs) (kk : mm_KK p l e R s m args below meth c H0 cells slots Q ls σ P dC dI B0 pc' st' S') : W p l e R s m args below meth c H locs cells slots Q (F0 m pc ls (st.map (mm_rl σ))) := by
  obtain ⟨hx, hown, hts, hK, hN, hap⟩ := C
  subst hlen
  obtain ⟨x, y, r, rfl, rfl, rfl, rfl⟩ := mm_bin_inv ho
  refine lv_imul (x := Int32.ofInt x) (y := Int32.ofInt y) hx hb hd ?_
  rw [show Int32.ofInt x * Int32.ofInt y = Int32.ofInt (mm_w32 (x * y)) by rw [mm_w32_of, Int32.ofInt_mul]]
  exact kk H locs hP hS
theorem mm_s_ladd (C : mm_Cx p s m args own σ P dC dI B0) (hb : c.code = cc) {pc len r1 r2 : Nat} {r3 : Int} {st st' : List mm_V} {S S' : mm_S} {pc' fr lo : Nat} (hd : decode cc pc = .ok (.ladd, len)) (hlen : len = 1) (hok : mm_iok own fr lo (pc, .ladd, len, r1, r2, r3) = true) (ho : mm_op pc .ladd (pc + len) r1 r2 r3 st S = some (pc', st', S')) (hir : ∀ v ∈ st, mm_ir v) (hsok : mm_sok S) (hP : va_P (dC, dI) mm_cl (mm_ws σ P S) H) (hS : va_S (fun q => B0 ≤ q) H0 H locs) (kk : mm_KK p l e R s m args below meth c H0 cells slots Q ls σ P dC dI B0 pc' st' S') : W p l e R s m args below meth c H locs cells slots Q (F0 m pc ls (st.map (mm_rl σ))) := by
  obtain ⟨hx, hown, hts, hK, hN, hap⟩ := C
  subst hlen
  obtain ⟨x, y, r, rfl, rfl, rfl, rfl⟩ := mm_bin_inv ho
  refine lv_ladd (x := Int64.ofInt x) (y := Int64.ofInt y) hx hb hd ?_
  rw [show Int64.ofInt x + Int64.ofInt y = Int64.ofInt (mm_w64 (x + y)) by rw [mm_w64_of, Int64.ofInt_add]]
  exact kk H locs hP hS
theorem mm_s_lsub (C : mm_Cx p s m args own σ P dC dI B0) (hb : c.code = cc) {pc len r1 r2 : Nat} {r3 : Int} {st st' : List mm_V} {S S' : mm_S} {pc' fr lo : Nat} (hd : decode cc pc = .ok (.lsub, len)) (hlen : len = 1) (hok : mm_iok own fr lo (pc, .lsub, len, r1, r2, r3) = true) (ho : mm_op pc .lsub (pc + len) r1 r2 r3 st S = some (pc', st', S')) (hir : ∀ v ∈ st, mm_ir v) (hsok : mm_sok S) (hP : va_P (dC, dI) mm_cl (mm_ws σ P S) H) (hS : va_S (fun q => B0 ≤ q) H0 H locs) (kk : mm_KK p l e R s m args below meth c H0 cells slots Q ls σ P dC dI B0 pc' st' S') : W p l e R s m args below meth c H locs cells slots Q (F0 m pc ls (st.map (mm_rl σ))) := by
  obtain ⟨hx, hown, hts, hK, hN, hap⟩ := C
  subst hlen
  obtain ⟨x, y, r, rfl, rfl, rfl, rfl⟩ := mm_bin_inv ho
  refine lv_lsub (x := Int64.ofInt x) (y := Int64.ofInt y) hx hb hd ?_
  rw [show Int64.ofInt x - Int64.ofInt y = Int64.ofInt (mm_w64 (x - y)) by rw [mm_w64_of, Int64.ofInt_sub]]
  exact kk H locs hP hS
theorem mm_s_lmul (C : mm_Cx p s m args own σ P dC dI B0) (hb : c.code = cc) {pc len r1 r2 : Nat} {r3 : Int} {st st' : List mm_V} {S S' : mm_S} {pc' fr lo : Nat} (hd : decode cc pc = .ok (.lmul, len)) (hlen : len = 1) (hok : mm_iok own fr lo (pc, .lmul, len, r1, r2, r3) = true) (ho : mm_op pc .lmul (pc + len) r1 r2 r3 st S = some (pc', st', S')) (hir : ∀ v ∈ st, mm_ir v) (hsok : mm_sok S) (hP : va_P (dC, dI) mm_cl (mm_ws σ P S) H) (hS : va_S (fun q => B0 ≤ q) H0 H locs) (kk : mm_KK p l e R s m args below meth c H0 cells slots Q ls σ P dC dI B0 pc' st' S') : W p l e R s m args below meth c H locs cells slots Q (F0 m pc ls (st.map (mm_rl σ))) := by
  obtain ⟨hx, hown, hts, hK, hN, hap⟩ := C
  subst hlen
  obtain ⟨x, y, r, rfl, rfl, rfl, rfl⟩ := mm_bin_inv ho
  refine lv_lmul (x := Int64.ofInt x) (y := Int64.ofInt y) hx hb hd ?_
  rw [show Int64.ofInt x * Int64.ofInt y = Int64.ofInt (mm_w64 (x * y)) by rw [mm_w64_of, Int64.ofInt_mul]]
  exact kk H locs hP hS
theorem mm_s_iand (C : mm_Cx p s m args own σ P dC dI B0) (hb : c.code = cc) {pc len r1 r2 : Nat} {r3 : Int} {st st' : List mm_V} {S S' : mm_S} {pc' fr lo : Nat} (hd : decode cc pc = .ok (.iand, len)) (hlen : len = 1) (hok : mm_iok own fr lo (pc, .iand, len, r1, r2, r3) = true) (ho : mm_op pc .iand (pc + len) r1 r2 r3 st S = some (pc', st', S')) (hir : ∀ v ∈ st, mm_ir v) (hsok : mm_sok S) (hP : va_P (dC, dI) mm_cl (mm_ws σ P S) H) (hS : va_S (fun q => B0 ≤ q) H0 H locs) (kk : mm_KK p l e R s m args below meth c H0 cells slots Q ls σ P dC dI B0 pc' st' S') : W p l e R s m args below meth c H locs cells slots Q (F0 m pc ls (st.map (mm_rl σ))) := by
  obtain ⟨hx, hown, hts, hK, hN, hap⟩ := C
  subst hlen
  obtain ⟨x, y, r, rfl, rfl, rfl, rfl⟩ := mm_bin_inv ho
  refine lv_iand (x := Int32.ofInt x) (y := Int32.ofInt y) hx hb hd ?_
  rw [show Int32.ofInt x &&& Int32.ofInt y = Int32.ofInt (Int32.ofInt x &&& Int32.ofInt y).toInt from (Int32.ofInt_toInt _).symm]
  exact kk H locs hP hS
theorem mm_s_ior (C : mm_Cx p s m args own σ P dC dI B0) (hb : c.code = cc) {pc len r1 r2 : Nat} {r3 : Int} {st st' : List mm_V} {S S' : mm_S} {pc' fr lo : Nat} (hd : decode cc pc = .ok (.ior, len)) (hlen : len = 1) (hok : mm_iok own fr lo (pc, .ior, len, r1, r2, r3) = true) (ho : mm_op pc .ior (pc + len) r1 r2 r3 st S = some (pc', st', S')) (hir : ∀ v ∈ st, mm_ir v) (hsok : mm_sok S) (hP : va_P (dC, dI) mm_cl (mm_ws σ P S) H) (hS : va_S (fun q => B0 ≤ q) H0 H locs) (kk : mm_KK p l e R s m args below meth c H0 cells slots Q ls σ P dC dI B0 pc' st' S') : W p l e R s m args below meth c H locs cells slots Q (F0 m pc ls (st.map (mm_rl σ))) := by
  obtain ⟨hx, hown, hts, hK, hN, hap⟩ := C
  subst hlen
  obtain ⟨x, y, r, rfl, rfl, rfl, rfl⟩ := mm_bin_inv ho
  refine lv_ior (x := Int32.ofInt x) (y := Int32.ofInt y) hx hb hd ?_
  rw [show Int32.ofInt x ||| Int32.ofInt y = Int32.ofInt (Int32.ofInt x ||| Int32.ofInt y).toInt from (Int32.ofInt_toInt _).symm]
  exact kk H locs hP hS
theorem mm_s_ixor (C : mm_Cx p s m args own σ P dC dI B0) (hb : c.code = cc) {pc len r1 r2 : Nat} {r3 : Int} {st st' : List mm_V} {S S' : mm_S} {pc' fr lo : Nat} (hd : decode cc pc = .ok (.ixor, len)) (hlen : len = 1) (hok : mm_iok own fr lo (pc, .ixor, len, r1, r2, r3) = true) (ho : mm_op pc .ixor (pc + len) r1 r2 r3 st S = some (pc', st', S')) (hir : ∀ v ∈ st, mm_ir v) (hsok : mm_sok S) (hP : va_P (dC, dI) mm_cl (mm_ws σ P S) H) (hS : va_S (fun q => B0 ≤ q) H0 H locs) (kk : mm_KK p l e R s m args below meth c H0 cells slots Q ls σ P dC dI B0 pc' st' S') : W p l e R s m args below meth c H locs cells slots Q (F0 m pc ls (st.map (mm_rl σ))) := by
  obtain ⟨hx, hown, hts, hK, hN, hap⟩ := C
  subst hlen
  obtain ⟨x, y, r, rfl, rfl, rfl, rfl⟩ := mm_bin_inv ho
  refine lv_ixor (x := Int32.ofInt x) (y := Int32.ofInt y) hx hb hd ?_
  rw [show Int32.ofInt x ^^^ Int32.ofInt y = Int32.ofInt (Int32.ofInt x ^^^ Int32.ofInt y).toInt from (Int32.ofInt_toInt _).symm]
  exact kk H locs hP hS
theorem mm_s_land (C : mm_Cx p s m args own σ P dC dI B0) (hb : c.code = cc) {pc len r1 r2 : Nat} {r3 : Int} {st st' : List mm_V} {S S' : mm_S} {pc' fr lo : Nat} (hd : decode cc pc = .ok (.land, len)) (hlen : len = 1) (hok : mm_iok own fr lo (pc, .land, len, r1, r2, r3) = true) (ho : mm_op pc .land (pc + len) r1 r2 r3 st S = some (pc', st', S')) (hir : ∀ v ∈ st, mm_ir v) (hsok : mm_sok S) (hP : va_P (dC, dI) mm_cl (mm_ws σ P S) H) (hS : va_S (fun q => B0 ≤ q) H0 H locs) (kk : mm_KK p l e R s m args below meth c H0 cells slots Q ls σ P dC dI B0 pc' st' S') : W p l e R s m args below meth c H locs cells slots Q (F0 m pc ls (st.map (mm_rl σ))) := by
  obtain ⟨hx, hown, hts, hK, hN, hap⟩ := C
  subst hlen
  obtain ⟨x, y, r, rfl, rfl, rfl, rfl⟩ := mm_bin_inv ho
  refine lv_land (x := Int64.ofInt x) (y := Int64.ofInt y) hx hb hd ?_
  rw [show Int64.ofInt x &&& Int64.ofInt y = Int64.ofInt (Int64.ofInt x &&& Int64.ofInt y).toInt from (Int64.ofInt_toInt _).symm]
  exact kk H locs hP hS
theorem mm_s_lor (C : mm_Cx p s m args own σ P dC dI B0) (hb : c.code = cc) {pc len r1 r2 : Nat} {r3 : Int} {st st' : List mm_V} {S S' : mm_S} {pc' fr lo : Nat} (hd : decode cc pc = .ok (.lor, len)) (hlen : len = 1) (hok : mm_iok own fr lo (pc, .lor, len, r1, r2, r3) = true) (ho : mm_op pc .lor (pc + len) r1 r2 r3 st S = some (pc', st', S')) (hir : ∀ v ∈ st, mm_ir v) (hsok : mm_sok S) (hP : va_P (dC, dI) mm_cl (mm_ws σ P S) H) (hS : va_S (fun q => B0 ≤ q) H0 H locs) (kk : mm_KK p l e R s m args below meth c H0 cells slots Q ls σ P dC dI B0 pc' st' S') : W p l e R s m args below meth c H locs cells slots Q (F0 m pc ls (st.map (mm_rl σ))) := by
  obtain ⟨hx, hown, hts, hK, hN, hap⟩ := C
  subst hlen
  obtain ⟨x, y, r, rfl, rfl, rfl, rfl⟩ := mm_bin_inv ho
  refine lv_lor (x := Int64.ofInt x) (y := Int64.ofInt y) hx hb hd ?_
  rw [show Int64.ofInt x ||| Int64.ofInt y = Int64.ofInt (Int64.ofInt x ||| Int64.ofInt y).toInt from (Int64.ofInt_toInt _).symm]
  exact kk H locs hP hS
theorem mm_s_ishl (C : mm_Cx p s m args own σ P dC dI B0) (hb : c.code = cc) {pc len r1 r2 : Nat} {r3 : Int} {st st' : List mm_V} {S S' : mm_S} {pc' fr lo : Nat} (hd : decode cc pc = .ok (.ishl, len)) (hlen : len = 1) (hok : mm_iok own fr lo (pc, .ishl, len, r1, r2, r3) = true) (ho : mm_op pc .ishl (pc + len) r1 r2 r3 st S = some (pc', st', S')) (hir : ∀ v ∈ st, mm_ir v) (hsok : mm_sok S) (hP : va_P (dC, dI) mm_cl (mm_ws σ P S) H) (hS : va_S (fun q => B0 ≤ q) H0 H locs) (kk : mm_KK p l e R s m args below meth c H0 cells slots Q ls σ P dC dI B0 pc' st' S') : W p l e R s m args below meth c H locs cells slots Q (F0 m pc ls (st.map (mm_rl σ))) := by
  obtain ⟨hx, hown, hts, hK, hN, hap⟩ := C
  subst hlen
  obtain ⟨x, y, r, rfl, rfl, rfl, rfl⟩ := mm_bin_inv ho
  refine lv_ishl (x := Int32.ofInt x) (y := Int32.ofInt y) hx hb hd ?_
  rw [show Int32.ofInt x <<< (Int32.ofInt y &&& 31) = Int32.ofInt (Int32.ofInt x <<< (Int32.ofInt y &&& 31)).toInt from (Int32.ofInt_toInt _).symm]
  exact kk H locs hP hS
theorem mm_s_ishr (C : mm_Cx p s m args own σ P dC dI B0) (hb : c.code = cc) {pc len r1 r2 : Nat} {r3 : Int} {st st' : List mm_V} {S S' : mm_S} {pc' fr lo : Nat} (hd : decode cc pc = .ok (.ishr, len)) (hlen : len = 1) (hok : mm_iok own fr lo (pc, .ishr, len, r1, r2, r3) = true) (ho : mm_op pc .ishr (pc + len) r1 r2 r3 st S = some (pc', st', S')) (hir : ∀ v ∈ st, mm_ir v) (hsok : mm_sok S) (hP : va_P (dC, dI) mm_cl (mm_ws σ P S) H) (hS : va_S (fun q => B0 ≤ q) H0 H locs) (kk : mm_KK p l e R s m args below meth c H0 cells slots Q ls σ P dC dI B0 pc' st' S') : W p l e R s m args below meth c H locs cells slots Q (F0 m pc ls (st.map (mm_rl σ))) := by
  obtain ⟨hx, hown, hts, hK, hN, hap⟩ := C
  subst hlen
  obtain ⟨x, y, r, rfl, rfl, rfl, rfl⟩ := mm_bin_inv ho
  refine lv_ishr (x := Int32.ofInt x) (y := Int32.ofInt y) hx hb hd ?_
  rw [show Int32.ofInt x >>> (Int32.ofInt y &&& 31) = Int32.ofInt (Int32.ofInt x >>> (Int32.ofInt y &&& 31)).toInt from (Int32.ofInt_toInt _).symm]
  exact kk H locs hP hS
theorem mm_s_iushr (C : mm_Cx p s m args own σ P dC dI B0) (hb : c.code = cc) {pc len r1 r2 : Nat} {r3 : Int} {st st' : List mm_V} {S S' : mm_S} {pc' fr lo : Nat} (hd : decode cc pc = .ok (.iushr, len)) (hlen : len = 1) (hok : mm_iok own fr lo (pc, .iushr, len, r1, r2, r3) = true) (ho : mm_op pc .iushr (pc + len) r1 r2 r3 st S = some (pc', st', S')) (hir : ∀ v ∈ st, mm_ir v) (hsok : mm_sok S) (hP : va_P (dC, dI) mm_cl (mm_ws σ P S) H) (hS : va_S (fun q => B0 ≤ q) H0 H locs) (kk : mm_KK p l e R s m args below meth c H0 cells slots Q ls σ P dC dI B0 pc' st' S') : W p l e R s m args below meth c H locs cells slots Q (F0 m pc ls (st.map (mm_rl σ))) := by
  obtain ⟨hx, hown, hts, hK, hN, hap⟩ := C
  subst hlen
  obtain ⟨x, y, r, rfl, rfl, rfl, rfl⟩ := mm_bin_inv ho
  exact lv_iushr (x := Int32.ofInt x) (y := Int32.ofInt y) hx hb hd (Int32.ofInt_toInt _).symm (kk H locs hP hS)
theorem mm_s_lshl (C : mm_Cx p s m args own σ P dC dI B0) (hb : c.code = cc) {pc len r1 r2 : Nat} {r3 : Int} {st st' : List mm_V} {S S' : mm_S} {pc' fr lo : Nat} (hd : decode cc pc = .ok (.lshl, len)) (hlen : len = 1) (hok : mm_iok own fr lo (pc, .lshl, len, r1, r2, r3) = true) (ho : mm_op pc .lshl (pc + len) r1 r2 r3 st S = some (pc', st', S')) (hir : ∀ v ∈ st, mm_ir v) (hsok : mm_sok S) (hP : va_P (dC, dI) mm_cl (mm_ws σ P S) H) (hS : va_S (fun q => B0 ≤ q) H0 H locs) (kk : mm_KK p l e R s m args below meth c H0 cells slots Q ls σ P dC dI B0 pc' st' S') : W p l e R s m args below meth c H locs cells slots Q (F0 m pc ls (st.map (mm_rl σ))) := by
  obtain ⟨hx, hown, hts, hK, hN, hap⟩ := C
  subst hlen
  obtain ⟨x, y, r, rfl, rfl, rfl, rfl⟩ := mm_bin_inv ho
  exact lv_lshl (x := Int64.ofInt x) (y := Int32.ofInt y) hx hb hd (Int64.ofInt_toInt _).symm (kk H locs hP hS)
theorem mm_s_lshr (C : mm_Cx p s m args own σ P dC dI B0) (hb : c.code = cc) {pc len r1 r2 : Nat} {r3 : Int} {st st' : List mm_V} {S S' : mm_S} {pc' fr lo : Nat} (hd : decode cc pc = .ok (.lshr, len)) (hlen : len = 1) (hok : mm_iok own fr lo (pc, .lshr, len, r1, r2, r3) = true) (ho : mm_op pc .lshr (pc + len) r1 r2 r3 st S = some (pc', st', S')) (hir : ∀ v ∈ st, mm_ir v) (hsok : mm_sok S) (hP : va_P (dC, dI) mm_cl (mm_ws σ P S) H) (hS : va_S (fun q => B0 ≤ q) H0 H locs) (kk : mm_KK p l e R s m args below meth c H0 cells slots Q ls σ P dC dI B0 pc' st' S') : W p l e R s m args below meth c H locs cells slots Q (F0 m pc ls (st.map (mm_rl σ))) := by
  obtain ⟨hx, hown, hts, hK, hN, hap⟩ := C
  subst hlen
  obtain ⟨x, y, r, rfl, rfl, rfl, rfl⟩ := mm_bin_inv ho
  exact lv_lshr (x := Int64.ofInt x) (y := Int32.ofInt y) hx hb hd (Int64.ofInt_toInt _).symm (kk H locs hP hS)
theorem mm_s_ineg (C : mm_Cx p s m args own σ P dC dI B0) (hb : c.code = cc) {pc len r1 r2 : Nat} {r3 : Int} {st st' : List mm_V} {S S' : mm_S} {pc' fr lo : Nat} (hd : decode cc pc = .ok (.ineg, len)) (hlen : len = 1) (hok : mm_iok own fr lo (pc, .ineg, len, r1, r2, r3) = true) (ho : mm_op pc .ineg (pc + len) r1 r2 r3 st S = some (pc', st', S')) (hir : ∀ v ∈ st, mm_ir v) (hsok : mm_sok S) (hP : va_P (dC, dI) mm_cl (mm_ws σ P S) H) (hS : va_S (fun q => B0 ≤ q) H0 H locs) (kk : mm_KK p l e R s m args below meth c H0 cells slots Q ls σ P dC dI B0 pc' st' S') : W p l e R s m args below meth c H locs cells slots Q (F0 m pc ls (st.map (mm_rl σ))) := by
  obtain ⟨hx, hown, hts, hK, hN, hap⟩ := C
  subst hlen
  obtain ⟨x, r, rfl, rfl, rfl, rfl⟩ := mm_un_inv ho
  refine lv_ineg (x := Int32.ofInt x) hx hb hd ?_
  rw [show -Int32.ofInt x = Int32.ofInt (mm_w32 (-x)) by rw [mm_w32_of, Int32.ofInt_neg]]
  exact kk H locs hP hS
theorem mm_s_lneg (C : mm_Cx p s m args own σ P dC dI B0) (hb : c.code = cc) {pc len r1 r2 : Nat} {r3 : Int} {st st' : List mm_V} {S S' : mm_S} {pc' fr lo : Nat} (hd : decode cc pc = .ok (.lneg, len)) (hlen : len = 1) (hok : mm_iok own fr lo (pc, .lneg, len, r1, r2, r3) = true) (ho : mm_op pc .lneg (pc + len) r1 r2 r3 st S = some (pc', st', S')) (hir : ∀ v ∈ st, mm_ir v) (hsok : mm_sok S) (hP : va_P (dC, dI) mm_cl (mm_ws σ P S) H) (hS : va_S (fun q => B0 ≤ q) H0 H locs) (kk : mm_KK p l e R s m args below meth c H0 cells slots Q ls σ P dC dI B0 pc' st' S') : W p l e R s m args below meth c H locs cells slots Q (F0 m pc ls (st.map (mm_rl σ))) := by
  obtain ⟨hx, hown, hts, hK, hN, hap⟩ := C
  subst hlen
  obtain ⟨x, r, rfl, rfl, rfl, rfl⟩ := mm_un_inv ho
  refine lv_lneg (x := Int64.ofInt x) hx hb hd ?_
  rw [show -Int64.ofInt x = Int64.ofInt (mm_w64 (-x)) by rw [mm_w64_of, Int64.ofInt_neg]]
  exact kk H locs hP hS
theorem mm_s_idiv (C : mm_Cx p s m args own σ P dC dI B0) (hb : c.code = cc) {pc len r1 r2 : Nat} {r3 : Int} {st st' : List mm_V} {S S' : mm_S} {pc' fr lo : Nat} (hd : decode cc pc = .ok (.idiv, len)) (hlen : len = 1) (hok : mm_iok own fr lo (pc, .idiv, len, r1, r2, r3) = true) (ho : mm_op pc .idiv (pc + len) r1 r2 r3 st S = some (pc', st', S')) (hir : ∀ v ∈ st, mm_ir v) (hsok : mm_sok S) (hP : va_P (dC, dI) mm_cl (mm_ws σ P S) H) (hS : va_S (fun q => B0 ≤ q) H0 H locs) (kk : mm_KK p l e R s m args below meth c H0 cells slots Q ls σ P dC dI B0 pc' st' S') : W p l e R s m args below meth c H locs cells slots Q (F0 m pc ls (st.map (mm_rl σ))) := by
  obtain ⟨hx, hown, hts, hK, hN, hap⟩ := C
  subst hlen
  obtain ⟨x, y, r, rfl, hne, rfl, rfl, rfl⟩ := mm_dv_inv ho
  have hy := (hir _ List.mem_cons_self).1 rfl
  have hx' := (hir _ (List.mem_cons_of_mem _ List.mem_cons_self)).1 rfl
  refine lv_idiv (x := Int32.ofInt x) (y := Int32.ofInt y) hx hb hd (fun q => hne ?_) ?_
  · have q1 := congrArg Int32.toInt q
    rw [mm_toInt32 hy] at q1
    exact q1
  · rw [mm_div32 hx' hy]
    exact kk H locs hP hS
theorem mm_s_irem (C : mm_Cx p s m args own σ P dC dI B0) (hb : c.code = cc) {pc len r1 r2 : Nat} {r3 : Int} {st st' : List mm_V} {S S' : mm_S} {pc' fr lo : Nat} (hd : decode cc pc = .ok (.irem, len)) (hlen : len = 1) (hok : mm_iok own fr lo (pc, .irem, len, r1, r2, r3) = true) (ho : mm_op pc .irem (pc + len) r1 r2 r3 st S = some (pc', st', S')) (hir : ∀ v ∈ st, mm_ir v) (hsok : mm_sok S) (hP : va_P (dC, dI) mm_cl (mm_ws σ P S) H) (hS : va_S (fun q => B0 ≤ q) H0 H locs) (kk : mm_KK p l e R s m args below meth c H0 cells slots Q ls σ P dC dI B0 pc' st' S') : W p l e R s m args below meth c H locs cells slots Q (F0 m pc ls (st.map (mm_rl σ))) := by
  obtain ⟨hx, hown, hts, hK, hN, hap⟩ := C
  subst hlen
  obtain ⟨x, y, r, rfl, hne, rfl, rfl, rfl⟩ := mm_dv_inv ho
  have hy := (hir _ List.mem_cons_self).1 rfl
  have hx' := (hir _ (List.mem_cons_of_mem _ List.mem_cons_self)).1 rfl
  refine lv_irem (x := Int32.ofInt x) (y := Int32.ofInt y) hx hb hd (fun q => hne ?_) ?_
  · have q1 := congrArg Int32.toInt q
    rw [mm_toInt32 hy] at q1
    exact q1
  · rw [mm_mod32 hx' hy]
    exact kk H locs hP hS
theorem mm_s_ldiv (C : mm_Cx p s m args own σ P dC dI B0) (hb : c.code = cc) {pc len r1 r2 : Nat} {r3 : Int} {st st' : List mm_V} {S S' : mm_S} {pc' fr lo : Nat} (hd : decode cc pc = .ok (.ldiv, len)) (hlen : len = 1) (hok : mm_iok own fr lo (pc, .ldiv, len, r1, r2, r3) = true) (ho : mm_op pc .ldiv (pc + len) r1 r2 r3 st S = some (pc', st', S')) (hir : ∀ v ∈ st, mm_ir v) (hsok : mm_sok S) (hP : va_P (dC, dI) mm_cl (mm_ws σ P S) H) (hS : va_S (fun q => B0 ≤ q) H0 H locs) (kk : mm_KK p l e R s m args below meth c H0 cells slots Q ls σ P dC dI B0 pc' st' S') : W p l e R s m args below meth c H locs cells slots Q (F0 m pc ls (st.map (mm_rl σ))) := by
  obtain ⟨hx, hown, hts, hK, hN, hap⟩ := C
  subst hlen
  obtain ⟨x, y, r, rfl, hne, rfl, rfl, rfl⟩ := mm_dv_inv ho
  have hy := (hir _ List.mem_cons_self).2 rfl
  have hx' := (hir _ (List.mem_cons_of_mem _ List.mem_cons_self)).2 rfl
  refine lv_ldiv (x := Int64.ofInt x) (y := Int64.ofInt y) hx hb hd (fun q => hne ?_) ?_
  · have q1 := congrArg Int64.toInt q
    rw [mm_toInt64 hy] at q1
    exact q1
  · rw [mm_div64 hx' hy]
    exact kk H locs hP hS
theorem mm_s_lrem (C : mm_Cx p s m args own σ P dC dI B0) (hb : c.code = cc) {pc len r1 r2 : Nat} {r3 : Int} {st st' : List mm_V} {S S' : mm_S} {pc' fr lo : Nat} (hd : decode cc pc = .ok (.lrem, len)) (hlen : len = 1) (hok : mm_iok own fr lo (pc, .lrem, len, r1, r2, r3) = true) (ho : mm_op pc .lrem (pc + len) r1 r2 r3 st S = some (pc', st', S')) (hir : ∀ v ∈ st, mm_ir v) (hsok : mm_sok S) (hP : va_P (dC, dI) mm_cl (mm_ws σ P S) H) (hS : va_S (fun q => B0 ≤ q) H0 H locs) (kk : mm_KK p l e R s m args below meth c H0 cells slots Q ls σ P dC dI B0 pc' st' S') : W p l e R s m args below meth c H locs cells slots Q (F0 m pc ls (st.map (mm_rl σ))) := by
  obtain ⟨hx, hown, hts, hK, hN, hap⟩ := C
  subst hlen
  obtain ⟨x, y, r, rfl, hne, rfl, rfl, rfl⟩ := mm_dv_inv ho
  have hy := (hir _ List.mem_cons_self).2 rfl
  have hx' := (hir _ (List.mem_cons_of_mem _ List.mem_cons_self)).2 rfl
  refine lv_lrem (x := Int64.ofInt x) (y := Int64.ofInt y) hx hb hd (fun q => hne ?_) ?_
  · have q1 := congrArg Int64.toInt q
    rw [mm_toInt64 hy] at q1
    exact q1
  · rw [mm_mod64 hx' hy]
    exact kk H locs hP hS
theorem mm_s_lcmp (C : mm_Cx p s m args own σ P dC dI B0) (hb : c.code = cc) {pc len r1 r2 : Nat} {r3 : Int} {st st' : List mm_V} {S S' : mm_S} {pc' fr lo : Nat} (hd : decode cc pc = .ok (.lcmp, len)) (hlen : len = 1) (hok : mm_iok own fr lo (pc, .lcmp, len, r1, r2, r3) = true) (ho : mm_op pc .lcmp (pc + len) r1 r2 r3 st S = some (pc', st', S')) (hir : ∀ v ∈ st, mm_ir v) (hsok : mm_sok S) (hP : va_P (dC, dI) mm_cl (mm_ws σ P S) H) (hS : va_S (fun q => B0 ≤ q) H0 H locs) (kk : mm_KK p l e R s m args below meth c H0 cells slots Q ls σ P dC dI B0 pc' st' S') : W p l e R s m args below meth c H locs cells slots Q (F0 m pc ls (st.map (mm_rl σ))) := by
  obtain ⟨hx, hown, hts, hK, hN, hap⟩ := C
  subst hlen
  obtain ⟨x, y, r, rfl, rfl, rfl, rfl⟩ := mm_bin_inv ho
  have hy := (hir _ List.mem_cons_self).2 rfl
  have hx' := (hir _ (List.mem_cons_of_mem _ List.mem_cons_self)).2 rfl
  refine W.lcmp (x := Int64.ofInt x) (y := Int64.ofInt y) hx hb hd ?_
  rw [mm_lcc hx' hy]
  exact kk H locs hP hS
theorem mm_s_i2l (C : mm_Cx p s m args own σ P dC dI B0) (hb : c.code = cc) {pc len r1 r2 : Nat} {r3 : Int} {st st' : List mm_V} {S S' : mm_S} {pc' fr lo : Nat} (hd : decode cc pc = .ok (.i2l, len)) (hlen : len = 1) (hok : mm_iok own fr lo (pc, .i2l, len, r1, r2, r3) = true) (ho : mm_op pc .i2l (pc + len) r1 r2 r3 st S = some (pc', st', S')) (hir : ∀ v ∈ st, mm_ir v) (hsok : mm_sok S) (hP : va_P (dC, dI) mm_cl (mm_ws σ P S) H) (hS : va_S (fun q => B0 ≤ q) H0 H locs) (kk : mm_KK p l e R s m args below meth c H0 cells slots Q ls σ P dC dI B0 pc' st' S') : W p l e R s m args below meth c H locs cells slots Q (F0 m pc ls (st.map (mm_rl σ))) := by
  obtain ⟨hx, hown, hts, hK, hN, hap⟩ := C
  subst hlen
  obtain ⟨x, r, rfl, rfl, rfl, rfl⟩ := mm_un_inv ho
  exact lv_i2l (x := Int32.ofInt x) hx hb hd (mm_i2l ((hir _ List.mem_cons_self).1 rfl)) (kk H locs hP hS)
theorem mm_s_l2i (C : mm_Cx p s m args own σ P dC dI B0) (hb : c.code = cc) {pc len r1 r2 : Nat} {r3 : Int} {st st' : List mm_V} {S S' : mm_S} {pc' fr lo : Nat} (hd : decode cc pc = .ok (.l2i, len)) (hlen : len = 1) (hok : mm_iok own fr lo (pc, .l2i, len, r1, r2, r3) = true) (ho : mm_op pc .l2i (pc + len) r1 r2 r3 st S = some (pc', st', S')) (hir : ∀ v ∈ st, mm_ir v) (hsok : mm_sok S) (hP : va_P (dC, dI) mm_cl (mm_ws σ P S) H) (hS : va_S (fun q => B0 ≤ q) H0 H locs) (kk : mm_KK p l e R s m args below meth c H0 cells slots Q ls σ P dC dI B0 pc' st' S') : W p l e R s m args below meth c H locs cells slots Q (F0 m pc ls (st.map (mm_rl σ))) := by
  obtain ⟨hx, hown, hts, hK, hN, hap⟩ := C
  subst hlen
  obtain ⟨x, r, rfl, rfl, rfl, rfl⟩ := mm_un_inv ho
  exact lv_l2i (x := Int64.ofInt x) hx hb hd (mm_l2i ((hir _ List.mem_cons_self).2 rfl)) (kk H locs hP hS)
theorem mm_s_i2b (C : mm_Cx p s m args own σ P dC dI B0) (hb : c.code = cc) {pc len r1 r2 : Nat} {r3 : Int} {st st' : List mm_V} {S S' : mm_S} {pc' fr lo : Nat} (hd : decode cc pc = .ok (.i2b, len)) (hlen : len = 1) (hok : mm_iok own fr lo (pc, .i2b, len, r1, r2, r3) = true) (ho : mm_op pc .i2b (pc + len) r1 r2 r3 st S = some (pc', st', S')) (hir : ∀ v ∈ st, mm_ir v) (hsok : mm_sok S) (hP : va_P (dC, dI) mm_cl (mm_ws σ P S) H) (hS : va_S (fun q => B0 ≤ q) H0 H locs) (kk : mm_KK p l e R s m args below meth c H0 cells slots Q ls σ P dC dI B0 pc' st' S') : W p l e R s m args below meth c H locs cells slots Q (F0 m pc ls (st.map (mm_rl σ))) := by
  obtain ⟨hx, hown, hts, hK, hN, hap⟩ := C
  subst hlen
  obtain ⟨x, r, rfl, rfl, rfl, rfl⟩ := mm_un_inv ho
  exact lv_i2b (x := Int32.ofInt x) hx hb hd (mm_i2b ((hir _ List.mem_cons_self).1 rfl)) (kk H locs hP hS)
theorem mm_s_if_eq {off : Int} (C : mm_Cx p s m args own σ P dC dI B0) (hb : c.code = cc) {pc len r1 r2 : Nat} {r3 : Int} {st st' : List mm_V} {S S' : mm_S} {pc' fr lo : Nat} (hd : decode cc pc = .ok ((.ifCond .eq off), len)) (hlen : len = 3) (hok : mm_iok own fr lo (pc, (.ifCond .eq off), len, r1, r2, r3) = true) (ho : mm_op pc (.ifCond .eq off) (pc + len) r1 r2 r3 st S = some (pc', st', S')) (hir : ∀ v ∈ st, mm_ir v) (hsok : mm_sok S) (hP : va_P (dC, dI) mm_cl (mm_ws σ P S) H) (hS : va_S (fun q => B0 ≤ q) H0 H locs) (kk : mm_KK p l e R s m args below meth c H0 cells slots Q ls σ P dC dI B0 pc' st' S') : W p l e R s m args below meth c H locs cells slots Q (F0 m pc ls (st.map (mm_rl σ))) := by
  obtain ⟨hx, hown, hts, hK, hN, hap⟩ := C
  subst hlen
  obtain ⟨x, rfl, rfl, rfl⟩ := mm_br1_inv ho
  have hx1 := (hir _ List.mem_cons_self).1 rfl
  have hoff : 0 ≤ (pc : Int) + off := of_decide_eq_true hok
  refine lv_if_eq (x := Int32.ofInt x) (tgt := ((pc : Int) + off).toNat) hx hb hd (Int.toNat_of_nonneg hoff).symm (fun q => ?_) (fun q => ?_)
  · have h : mm_cnd .eq x 0 = true := decide_eq_true ((mm_eq32 hx1 mm_r32_0).mp q)
    have k1 := kk H locs hP hS
    rw [h] at k1
    exact k1
  · have h : mm_cnd .eq x 0 = false := decide_eq_false (fun z => q ((mm_eq32 hx1 mm_r32_0).mpr z))
    have k1 := kk H locs hP hS
    rw [h] at k1
    exact k1
theorem mm_s_if_ne {off : Int} (C : mm_Cx p s m args own σ P dC dI B0) (hb : c.code = cc) {pc len r1 r2 : Nat} {r3 : Int} {st st' : List mm_V} {S S' : mm_S} {pc' fr lo : Nat} (hd : decode cc pc = .ok ((.ifCond .ne off), len)) (hlen : len = 3) (hok : mm_iok own fr lo (pc, (.ifCond .ne off), len, r1, r2, r3) = true) (ho : mm_op pc (.ifCond .ne off) (pc + len) r1 r2 r3 st S = some (pc', st', S')) (hir : ∀ v ∈ st, mm_ir v) (hsok : mm_sok S) (hP : va_P (dC, dI) mm_cl (mm_ws σ P S) H) (hS : va_S (fun q => B0 ≤ q) H0 H locs) (kk : mm_KK p l e R s m args below meth c H0 cells slots Q ls σ P dC dI B0 pc' st' S') : W p l e R s m args below meth c H locs cells slots Q (F0 m pc ls (st.map (mm_rl σ))) := by
  obtain ⟨hx, hown, hts, hK, hN, hap⟩ := C
  subst hlen
  obtain ⟨x, rfl, rfl, rfl⟩ := mm_br1_inv ho
  have hx1 := (hir _ List.mem_cons_self).1 rfl
  have hoff : 0 ≤ (pc : Int) + off := of_decide_eq_true hok
  refine lv_if_ne (x := Int32.ofInt x) (tgt := ((pc : Int) + off).toNat) hx hb hd (Int.toNat_of_nonneg hoff).symm (fun q => ?_) (fun q => ?_)
  · have h : mm_cnd .ne x 0 = true := decide_eq_true ((not_congr (mm_eq32 hx1 mm_r32_0)).mp q)
    have k1 := kk H locs hP hS
    rw [h] at k1
    exact k1
  · have h : mm_cnd .ne x 0 = false := decide_eq_false (fun z => z ((mm_eq32 hx1 mm_r32_0).mp q))
    have k1 := kk H locs hP hS
    rw [h] at k1
    exact k1
theorem mm_s_if_lt {off : Int} (C : mm_Cx p s m args own σ P dC dI B0) (hb : c.code = cc) {pc len r1 r2 : Nat} {r3 : Int} {st st' : List mm_V} {S S' : mm_S} {pc' fr lo : Nat} (hd : decode cc pc = .ok ((.ifCond .lt off), len)) (hlen : len = 3) (hok : mm_iok own fr lo (pc, (.ifCond .lt off), len, r1, r2, r3) = true) (ho : mm_op pc (.ifCond .lt off) (pc + len) r1 r2 r3 st S = some (pc', st', S')) (hir : ∀ v ∈ st, mm_ir v) (hsok : mm_sok S) (hP : va_P (dC, dI) mm_cl (mm_ws σ P S) H) (hS : va_S (fun q => B0 ≤ q) H0 H locs) (kk : mm_KK p l e R s m args below meth c H0 cells slots Q ls σ P dC dI B0 pc' st' S') : W p l e R s m args below meth c H locs cells slots Q (F0 m pc ls (st.map (mm_rl σ))) := by
  obtain ⟨hx, hown, hts, hK, hN, hap⟩ := C
  subst hlen
  obtain ⟨x, rfl, rfl, rfl⟩ := mm_br1_inv ho
  have hx1 := (hir _ List.mem_cons_self).1 rfl
  have hoff : 0 ≤ (pc : Int) + off := of_decide_eq_true hok
  refine lv_if_lt (x := Int32.ofInt x) (tgt := ((pc : Int) + off).toNat) hx hb hd (Int.toNat_of_nonneg hoff).symm (fun q => ?_) (fun q => ?_)
  · have h : mm_cnd .lt x 0 = true := decide_eq_true ((mm_lt32 hx1 mm_r32_0).mp q)
    have k1 := kk H locs hP hS
    rw [h] at k1
    exact k1
  · have h : mm_cnd .lt x 0 = false := decide_eq_false (fun z => q ((mm_lt32 hx1 mm_r32_0).mpr z))
    have k1 := kk H locs hP hS
    rw [h] at k1
    exact k1
theorem mm_s_if_ge {off : Int} (C : mm_Cx p s m args own σ P dC dI B0) (hb : c.code = cc) {pc len r1 r2 : Nat} {r3 : Int} {st st' : List mm_V} {S S' : mm_S} {pc' fr lo : Nat} (hd : decode cc pc = .ok ((.ifCond .ge off), len)) (hlen : len = 3) (hok : mm_iok own fr lo (pc, (.ifCond .ge off), len, r1, r2, r3) = true) (ho : mm_op pc (.ifCond .ge off) (pc + len) r1 r2 r3 st S = some (pc', st', S')) (hir : ∀ v ∈ st, mm_ir v) (hsok : mm_sok S) (hP : va_P (dC, dI) mm_cl (mm_ws σ P S) H) (hS : va_S (fun q => B0 ≤ q) H0 H locs) (kk : mm_KK p l e R s m args below meth c H0 cells slots Q ls σ P dC dI B0 pc' st' S') : W p l e R s m args below meth c H locs cells slots Q (F0 m pc ls (st.map (mm_rl σ))) := by
  obtain ⟨hx, hown, hts, hK, hN, hap⟩ := C
  subst hlen
  obtain ⟨x, rfl, rfl, rfl⟩ := mm_br1_inv ho
  have hx1 := (hir _ List.mem_cons_self).1 rfl
  have hoff : 0 ≤ (pc : Int) + off := of_decide_eq_true hok
  refine lv_if_ge (x := Int32.ofInt x) (tgt := ((pc : Int) + off).toNat) hx hb hd (Int.toNat_of_nonneg hoff).symm (fun q => ?_) (fun q => ?_)
  · have h : mm_cnd .ge x 0 = true := decide_eq_true ((mm_le32 mm_r32_0 hx1).mp q)
    have k1 := kk H locs hP hS
    rw [h] at k1
    exact k1
  · have h : mm_cnd .ge x 0 = false := decide_eq_false (fun z => q ((mm_le32 mm_r32_0 hx1).mpr z))
    have k1 := kk H locs hP hS
    rw [h] at k1
    exact k1
theorem mm_s_if_gt {off : Int} (C : mm_Cx p s m args own σ P dC dI B0) (hb : c.code = cc) {pc len r1 r2 : Nat} {r3 : Int} {st st' : List mm_V} {S S' : mm_S} {pc' fr lo : Nat} (hd : decode cc pc = .ok ((.ifCond .gt off), len)) (hlen : len = 3) (hok : mm_iok own fr lo (pc, (.ifCond .gt off), len, r1, r2, r3) = true) (ho : mm_op pc (.ifCond .gt off) (pc + len) r1 r2 r3 st S = some (pc', st', S')) (hir : ∀ v ∈ st, mm_ir v) (hsok : mm_sok S) (hP : va_P (dC, dI) mm_cl (mm_ws σ P S) H) (hS : va_S (fun q => B0 ≤ q) H0 H locs) (kk : mm_KK p l e R s m args below meth c H0 cells slots Q ls σ P dC dI B0 pc' st' S') : W p l e R s m args below meth c H locs cells slots Q (F0 m pc ls (st.map (mm_rl σ))) := by
  obtain ⟨hx, hown, hts, hK, hN, hap⟩ := C
  subst hlen
  obtain ⟨x, rfl, rfl, rfl⟩ := mm_br1_inv ho
  have hx1 := (hir _ List.mem_cons_self).1 rfl
  have hoff : 0 ≤ (pc : Int) + off := of_decide_eq_true hok
  refine lv_if_gt (x := Int32.ofInt x) (tgt := ((pc : Int) + off).toNat) hx hb hd (Int.toNat_of_nonneg hoff).symm (fun q => ?_) (fun q => ?_)
  · have h : mm_cnd .gt x 0 = true := decide_eq_true ((mm_lt32 mm_r32_0 hx1).mp q)
    have k1 := kk H locs hP hS
    rw [h] at k1
    exact k1
  · have h : mm_cnd .gt x 0 = false := decide_eq_false (fun z => q ((mm_lt32 mm_r32_0 hx1).mpr z))
    have k1 := kk H locs hP hS
    rw [h] at k1
    exact k1
theorem mm_s_if_le {off : Int} (C : mm_Cx p s m args own σ P dC dI B0) (hb : c.code = cc) {pc len r1 r2 : Nat} {r3 : Int} {st st' : List mm_V} {S S' : mm_S} {pc' fr lo : Nat} (hd : decode cc pc = .ok ((.ifCond .le off), len)) (hlen : len = 3) (hok : mm_iok own fr lo (pc, (.ifCond .le off), len, r1, r2, r3) = true) (ho : mm_op pc (.ifCond .le off) (pc + len) r1 r2 r3 st S = some (pc', st', S')) (hir : ∀ v ∈ st, mm_ir v) (hsok : mm_sok S) (hP : va_P (dC, dI) mm_cl (mm_ws σ P S) H) (hS : va_S (fun q => B0 ≤ q) H0 H locs) (kk : mm_KK p l e R s m args below meth c H0 cells slots Q ls σ P dC dI B0 pc' st' S') : W p l e R s m args below meth c H locs cells slots Q (F0 m pc ls (st.map (mm_rl σ))) := by
  obtain ⟨hx, hown, hts, hK, hN, hap⟩ := C
  subst hlen
  obtain ⟨x, rfl, rfl, rfl⟩ := mm_br1_inv ho
  have hx1 := (hir _ List.mem_cons_self).1 rfl
  have hoff : 0 ≤ (pc : Int) + off := of_decide_eq_true hok
  refine lv_if_le (x := Int32.ofInt x) (tgt := ((pc : Int) + off).toNat) hx hb hd (Int.toNat_of_nonneg hoff).symm (fun q => ?_) (fun q => ?_)
  · have h : mm_cnd .le x 0 = true := decide_eq_true ((mm_le32 hx1 mm_r32_0).mp q)
    have k1 := kk H locs hP hS
    rw [h] at k1
    exact k1
  · have h : mm_cnd .le x 0 = false := decide_eq_false (fun z => q ((mm_le32 hx1 mm_r32_0).mpr z))
    have k1 := kk H locs hP hS
    rw [h] at k1
    exact k1
theorem mm_s_icmp_eq {off : Int} (C : mm_Cx p s m args own σ P dC dI B0) (hb : c.code = cc) {pc len r1 r2 : Nat} {r3 : Int} {st st' : List mm_V} {S S' : mm_S} {pc' fr lo : Nat} (hd : decode cc pc = .ok ((.if_icmp .eq off), len)) (hlen : len = 3) (hok : mm_iok own fr lo (pc, (.if_icmp .eq off), len, r1, r2, r3) = true) (ho : mm_op pc (.if_icmp .eq off) (pc + len) r1 r2 r3 st S = some (pc', st', S')) (hir : ∀ v ∈ st, mm_ir v) (hsok : mm_sok S) (hP : va_P (dC, dI) mm_cl (mm_ws σ P S) H) (hS : va_S (fun q => B0 ≤ q) H0 H locs) (kk : mm_KK p l e R s m args below meth c H0 cells slots Q ls σ P dC dI B0 pc' st' S') : W p l e R s m args below meth c H locs cells slots Q (F0 m pc ls (st.map (mm_rl σ))) := by
  obtain ⟨hx, hown, hts, hK, hN, hap⟩ := C
  subst hlen
  obtain ⟨x, y, rfl, rfl, rfl⟩ := mm_br2_inv ho
  have hy1 := (hir _ List.mem_cons_self).1 rfl
  have hx1 := (hir _ (List.mem_cons_of_mem _ List.mem_cons_self)).1 rfl
  have hoff : 0 ≤ (pc : Int) + off := of_decide_eq_true hok
  refine lv_icmp_eq (x := Int32.ofInt x) (y := Int32.ofInt y) (tgt := ((pc : Int) + off).toNat) hx hb hd (Int.toNat_of_nonneg hoff).symm (fun q => ?_) (fun q => ?_)
  · have h : mm_cnd .eq x y = true := decide_eq_true ((mm_eq32 hx1 hy1).mp q)
    have k1 := kk H locs hP hS
    rw [h] at k1
    exact k1
  · have h : mm_cnd .eq x y = false := decide_eq_false (fun z => q ((mm_eq32 hx1 hy1).mpr z))
    have k1 := kk H locs hP hS
    rw [h] at k1
    exact k1
theorem mm_s_icmp_ne {off : Int} (C : mm_Cx p s m args own σ P dC dI B0) (hb : c.code = cc) {pc len r1 r2 : Nat} {r3 : Int} {st st' : List mm_V} {S S' : mm_S} {pc' fr lo : Nat} (hd : decode cc pc = .ok ((.if_icmp .ne off), len)) (hlen : len = 3) (hok : mm_iok own fr lo (pc, (.if_icmp .ne off), len, r1, r2, r3) = true) (ho : mm_op pc (.if_icmp .ne off) (pc + len) r1 r2 r3 st S = some (pc', st', S')) (hir : ∀ v ∈ st, mm_ir v) (hsok : mm_sok S) (hP : va_P (dC, dI) mm_cl (mm_ws σ P S) H) (hS : va_S (fun q => B0 ≤ q) H0 H locs) (kk : mm_KK p l e R s m args below meth c H0 cells slots Q ls σ P dC dI B0 pc' st' S') : W p l e R s m args below meth c H locs cells slots Q (F0 m pc ls (st.map (mm_rl σ))) := by
  obtain ⟨hx, hown, hts, hK, hN, hap⟩ := C
  subst hlen
  obtain ⟨x, y, rfl, rfl, rfl⟩ := mm_br2_inv ho
  have hy1 := (hir _ List.mem_cons_self).1 rfl
  have hx1 := (hir _ (List.mem_cons_of_mem _ List.mem_cons_self)).1 rfl
  have hoff : 0 ≤ (pc : Int) + off := of_decide_eq_true hok
  refine lv_icmp_ne (x := Int32.ofInt x) (y := Int32.ofInt y) (tgt := ((pc : Int) + off).toNat) hx hb hd (Int.toNat_of_nonneg hoff).symm (fun q => ?_) (fun q => ?_)
  · have h : mm_cnd .ne x y = true := decide_eq_true ((not_congr (mm_eq32 hx1 hy1)).mp q)
    have k1 := kk H locs hP hS
    rw [h] at k1
    exact k1
  · have h : mm_cnd .ne x y = false := decide_eq_false (fun z => z ((mm_eq32 hx1 hy1).mp q))
    have k1 := kk H locs hP hS
    rw [h] at k1
    exact k1
theorem mm_s_icmp_lt {off : Int} (C : mm_Cx p s m args own σ P dC dI B0) (hb : c.code = cc) {pc len r1 r2 : Nat} {r3 : Int} {st st' : List mm_V} {S S' : mm_S} {pc' fr lo : Nat} (hd : decode cc pc = .ok ((.if_icmp .lt off), len)) (hlen : len = 3) (hok : mm_iok own fr lo (pc, (.if_icmp .lt off), len, r1, r2, r3) = true) (ho : mm_op pc (.if_icmp .lt off) (pc + len) r1 r2 r3 st S = some (pc', st', S')) (hir : ∀ v ∈ st, mm_ir v) (hsok : mm_sok S) (hP : va_P (dC, dI) mm_cl (mm_ws σ P S) H) (hS : va_S (fun q => B0 ≤ q) H0 H locs) (kk : mm_KK p l e R s m args below meth c H0 cells slots Q ls σ P dC dI B0 pc' st' S') : W p l e R s m args below meth c H locs cells slots Q (F0 m pc ls (st.map (mm_rl σ))) := by
  obtain ⟨hx, hown, hts, hK, hN, hap⟩ := C
  subst hlen
  obtain ⟨x, y, rfl, rfl, rfl⟩ := mm_br2_inv ho
  have hy1 := (hir _ List.mem_cons_self).1 rfl
  have hx1 := (hir _ (List.mem_cons_of_mem _ List.mem_cons_self)).1 rfl
  have hoff : 0 ≤ (pc : Int) + off := of_decide_eq_true hok
  refine lv_icmp_lt (x := Int32.ofInt x) (y := Int32.ofInt y) (tgt := ((pc : Int) + off).toNat) hx hb hd (Int.toNat_of_nonneg hoff).symm (fun q => ?_) (fun q => ?_)
  · have h : mm_cnd .lt x y = true := decide_eq_true ((mm_lt32 hx1 hy1).mp q)
    have k1 := kk H locs hP hS
    rw [h] at k1
    exact k1
  · have h : mm_cnd .lt x y = false := decide_eq_false (fun z => q ((mm_lt32 hx1 hy1).mpr z))
    have k1 := kk H locs hP hS
    rw [h] at k1
    exact k1
theorem mm_s_icmp_ge {off : Int} (C : mm_Cx p s m args own σ P dC dI B0) (hb : c.code = cc) {pc len r1 r2 : Nat} {r3 : Int} {st st' : List mm_V} {S S' : mm_S} {pc' fr lo : Nat} (hd : decode cc pc = .ok ((.if_icmp .ge off), len)) (hlen : len = 3) (hok : mm_iok own fr lo (pc, (.if_icmp .ge off), len, r1, r2, r3) = true) (ho : mm_op pc (.if_icmp .ge off) (pc + len) r1 r2 r3 st S = some (pc', st', S')) (hir : ∀ v ∈ st, mm_ir v) (hsok : mm_sok S) (hP : va_P (dC, dI) mm_cl (mm_ws σ P S) H) (hS : va_S (fun q => B0 ≤ q) H0 H locs) (kk : mm_KK p l e R s m args below meth c H0 cells slots Q ls σ P dC dI B0 pc' st' S') : W p l e R s m args below meth c H locs cells slots Q (F0 m pc ls (st.map (mm_rl σ))) := by
  obtain ⟨hx, hown, hts, hK, hN, hap⟩ := C
  subst hlen
  obtain ⟨x, y, rfl, rfl, rfl⟩ := mm_br2_inv ho
  have hy1 := (hir _ List.mem_cons_self).1 rfl
  have hx1 := (hir _ (List.mem_cons_of_mem _ List.mem_cons_self)).1 rfl
  have hoff : 0 ≤ (pc : Int) + off := of_decide_eq_true hok
  refine lv_icmp_ge (x := Int32.ofInt x) (y := Int32.ofInt y) (tgt := ((pc : Int) + off).toNat) hx hb hd (Int.toNat_of_nonneg hoff).symm (fun q => ?_) (fun q => ?_)
  · have h : mm_cnd .ge x y = true := decide_eq_true ((mm_le32 hy1 hx1).mp q)
    have k1 := kk H locs hP hS
    rw [h] at k1
    exact k1
  · have h : mm_cnd .ge x y = false := decide_eq_false (fun z => q ((mm_le32 hy1 hx1).mpr z))
    have k1 := kk H locs hP hS
    rw [h] at k1
    exact k1
theorem mm_s_icmp_gt {off : Int} (C : mm_Cx p s m args own σ P dC dI B0) (hb : c.code = cc) {pc len r1 r2 : Nat} {r3 : Int} {st st' : List mm_V} {S S' : mm_S} {pc' fr lo : Nat} (hd : decode cc pc = .ok ((.if_icmp .gt off), len)) (hlen : len = 3) (hok : mm_iok own fr lo (pc, (.if_icmp .gt off), len, r1, r2, r3) = true) (ho : mm_op pc (.if_icmp .gt off) (pc + len) r1 r2 r3 st S = some (pc', st', S')) (hir : ∀ v ∈ st, mm_ir v) (hsok : mm_sok S) (hP : va_P (dC, dI) mm_cl (mm_ws σ P S) H) (hS : va_S (fun q => B0 ≤ q) H0 H locs) (kk : mm_KK p l e R s m args below meth c H0 cells slots Q ls σ P dC dI B0 pc' st' S') : W p l e R s m args below meth c H locs cells slots Q (F0 m pc ls (st.map (mm_rl σ))) := by
  obtain ⟨hx, hown, hts, hK, hN, hap⟩ := C
  subst hlen
  obtain ⟨x, y, rfl, rfl, rfl⟩ := mm_br2_inv ho
  have hy1 := (hir _ List.mem_cons_self).1 rfl
  have hx1 := (hir _ (List.mem_cons_of_mem _ List.mem_cons_self)).1 rfl
  have hoff : 0 ≤ (pc : Int) + off := of_decide_eq_true hok
  refine lv_icmp_gt (x := Int32.ofInt x) (y := Int32.ofInt y) (tgt := ((pc : Int) + off).toNat) hx hb hd (Int.toNat_of_nonneg hoff).symm (fun q => ?_) (fun q => ?_)
  · have h : mm_cnd .gt x y = true := decide_eq_true ((mm_lt32 hy1 hx1).mp q)
    have k1 := kk H locs hP hS
    rw [h] at k1
    exact k1
  · have h : mm_cnd .gt x y = false := decide_eq_false (fun z => q ((mm_lt32 hy1 hx1).mpr z))
    have k1 := kk H locs hP hS
    rw [h] at k1
    exact k1
theorem mm_s_icmp_le {off : Int} (C : mm_Cx p s m args own σ P dC dI B0) (hb : c.code = cc) {pc len r1 r2 : Nat} {r3 : Int} {st st' : List mm_V} {S S' : mm_S} {pc' fr lo : Nat} (hd : decode cc pc = .ok ((.if_icmp .le off), len)) (hlen : len = 3) (hok : mm_iok own fr lo (pc, (.if_icmp .le off), len, r1, r2, r3) = true) (ho : mm_op pc (.if_icmp .le off) (pc + len) r1 r2 r3 st S = some (pc', st', S')) (hir : ∀ v ∈ st, mm_ir v) (hsok : mm_sok S) (hP : va_P (dC, dI) mm_cl (mm_ws σ P S) H) (hS : va_S (fun q => B0 ≤ q) H0 H locs) (kk : mm_KK p l e R s m args below meth c H0 cells slots Q ls σ P dC dI B0 pc' st' S') : W p l e R s m args below meth c H locs cells slots Q (F0 m pc ls (st.map (mm_rl σ))) := by
  obtain ⟨hx, hown, hts, hK, hN, hap⟩ := C
  subst hlen
  obtain ⟨x, y, rfl, rfl, rfl⟩ := mm_br2_inv ho
  have hy1 := (hir _ List.mem_cons_self).1 rfl
  have hx1 := (hir _ (List.mem_cons_of_mem _ List.mem_cons_self)).1 rfl
  have hoff : 0 ≤ (pc : Int) + off := of_decide_eq_true hok
  refine lv_icmp_le (x := Int32.ofInt x) (y := Int32.ofInt y) (tgt := ((pc : Int) + off).toNat) hx hb hd (Int.toNat_of_nonneg hoff).symm (fun q => ?_) (fun q => ?_)
  · have h : mm_cnd .le x y = true := decide_eq_true ((mm_le32 hx1 hy1).mp q)
    have k1 := kk H locs hP hS
    rw [h] at k1
    exact k1
  · have h : mm_cnd .le x y = false := decide_eq_false (fun z => q ((mm_le32 hx1 hy1).mpr z))
    have k1 := kk H locs hP hS
    rw [h] at k1
    exact k1
theorem mm_s_ifnull {off : Int} (C : mm_Cx p s m args own σ P dC dI B0) (hb : c.code = cc) {pc len r1 r2 : Nat} {r3 : Int} {st st' : List mm_V} {S S' : mm_S} {pc' fr lo : Nat} (hd : decode cc pc = .ok ((.ifnull off), len)) (hlen : len = 3) (hok : mm_iok own fr lo (pc, (.ifnull off), len, r1, r2, r3) = true) (ho : mm_op pc (.ifnull off) (pc + len) r1 r2 r3 st S = some (pc', st', S')) (hir : ∀ v ∈ st, mm_ir v) (hsok : mm_sok S) (hP : va_P (dC, dI) mm_cl (mm_ws σ P S) H) (hS : va_S (fun q => B0 ≤ q) H0 H locs) (kk : mm_KK p l e R s m args below meth c H0 cells slots Q ls σ P dC dI B0 pc' st' S') : W p l e R s m args below meth c H locs cells slots Q (F0 m pc ls (st.map (mm_rl σ))) := by
  obtain ⟨hx, hown, hts, hK, hN, hap⟩ := C
  subst hlen
  obtain ⟨x, rfl, rfl, rfl⟩ := mm_br1_inv ho
  have hoff : 0 ≤ (pc : Int) + off := of_decide_eq_true hok
  have k1 := kk H locs hP hS
  rw [List.map_cons]
  by_cases h : x < 0
  · rw [show mm_rl σ (2, x) = .null from by unfold mm_rl; rw [if_neg (show ¬ (2 : Nat) = 0 by decide), if_neg (show ¬ (2 : Nat) = 1 by decide), if_pos h]]
    rw [show decide (x < 0) = true from decide_eq_true h] at k1
    exact lv_ifnullN (tgt := ((pc : Int) + off).toNat) hx hb hd (Int.toNat_of_nonneg hoff).symm k1
  · rw [show mm_rl σ (2, x) = .ref (σ x.toNat) from by unfold mm_rl; rw [if_neg (show ¬ (2 : Nat) = 0 by decide), if_neg (show ¬ (2 : Nat) = 1 by decide), if_neg h]]
    rw [show decide (x < 0) = false from decide_eq_false h] at k1
    exact lv_ifnull hx hb hd k1
theorem mm_s_ifnonnull {off : Int} (C : mm_Cx p s m args own σ P dC dI B0) (hb : c.code = cc) {pc len r1 r2 : Nat} {r3 : Int} {st st' : List mm_V} {S S' : mm_S} {pc' fr lo : Nat} (hd : decode cc pc = .ok ((.ifnonnull off), len)) (hlen : len = 3) (hok : mm_iok own fr lo (pc, (.ifnonnull off), len, r1, r2, r3) = true) (ho : mm_op pc (.ifnonnull off) (pc + len) r1 r2 r3 st S = some (pc', st', S')) (hir : ∀ v ∈ st, mm_ir v) (hsok : mm_sok S) (hP : va_P (dC, dI) mm_cl (mm_ws σ P S) H) (hS : va_S (fun q => B0 ≤ q) H0 H locs) (kk : mm_KK p l e R s m args below meth c H0 cells slots Q ls σ P dC dI B0 pc' st' S') : W p l e R s m args below meth c H locs cells slots Q (F0 m pc ls (st.map (mm_rl σ))) := by
  obtain ⟨hx, hown, hts, hK, hN, hap⟩ := C
  subst hlen
  obtain ⟨x, rfl, rfl, rfl⟩ := mm_br1_inv ho
  have hoff : 0 ≤ (pc : Int) + off := of_decide_eq_true hok
  have k1 := kk H locs hP hS
  rw [List.map_cons]
  by_cases h : x < 0
  · rw [show mm_rl σ (2, x) = .null from by unfold mm_rl; rw [if_neg (show ¬ (2 : Nat) = 0 by decide), if_neg (show ¬ (2 : Nat) = 1 by decide), if_pos h]]
    rw [show decide (0 ≤ x) = false from decide_eq_false (by omega)] at k1
    exact lv_ifnonnullN hx hb hd k1
  · rw [show mm_rl σ (2, x) = .ref (σ x.toNat) from by unfold mm_rl; rw [if_neg (show ¬ (2 : Nat) = 0 by decide), if_neg (show ¬ (2 : Nat) = 1 by decide), if_neg h]]
    rw [show decide (0 ≤ x) = true from decide_eq_true (by omega)] at k1
    exact lv_ifnonnull (tgt := ((pc : Int) + off).toNat) hx hb hd (Int.toNat_of_nonneg hoff).symm k1
theorem mm_s_goto {off : Int} (C : mm_Cx p s m args own σ P dC dI B0) (hb : c.code = cc) {pc len r1 r2 : Nat} {r3 : Int} {st st' : List mm_V} {S S' : mm_S} {pc' fr lo : Nat} (hd : decode cc pc = .ok ((.goto off), len)) (hlen : len = 3) (hok : mm_iok own fr lo (pc, (.goto off), len, r1, r2, r3) = true) (ho : mm_op pc (.goto off) (pc + len) r1 r2 r3 st S = some (pc', st', S')) (hir : ∀ v ∈ st, mm_ir v) (hsok : mm_sok S) (hP : va_P (dC, dI) mm_cl (mm_ws σ P S) H) (hS : va_S (fun q => B0 ≤ q) H0 H locs) (kk : mm_KK p l e R s m args below meth c H0 cells slots Q ls σ P dC dI B0 pc' st' S') : W p l e R s m args below meth c H locs cells slots Q (F0 m pc ls (st.map (mm_rl σ))) := by
  obtain ⟨hx, hown, hts, hK, hN, hap⟩ := C
  cases ho; subst hlen
  exact lv_goto hx hb hd (Int.toNat_of_nonneg (of_decide_eq_true hok)).symm (kk H locs hP hS)
end OPS
