/-! Rules of runs, one a kind of instruction; fewer locals known; the world's objects. -/
def mm_le : List mm_V → List mm_V → Prop
  | [], [] => True
  | v' :: r', v :: r => (v' = v ∨ v'.1 = 9) ∧ mm_le r' r
  | _, _ => False
theorem mm_le_len : ∀ {a b : List mm_V}, mm_le a b → a.length = b.length
  | [], [], _ => rfl
  | _ :: _, _ :: _, h => by rw [List.length_cons, List.length_cons, mm_le_len h.2]
  | [], _ :: _, h => h.elim
  | _ :: _, [], h => h.elim
theorem mm_le_get : ∀ {a b : List mm_V}, mm_le a b → ∀ (i : Nat) (v : mm_V), a[i]? = some v → ∃ w, b[i]? = some w ∧ (v = w ∨ v.1 = 9)
  | [], [], _, _, _, h => by cases h
  | _ :: _, _ :: _, h, 0, v, hv => by cases hv; exact ⟨_, rfl, h.1⟩
  | _ :: _, _ :: _, h, i + 1, v, hv => mm_le_get h.2 i v hv
  | [], _ :: _, h, _, _, _ => h.elim
  | _ :: _, [], h, _, _, _ => h.elim
theorem mm_le_set : ∀ {a b : List mm_V}, mm_le a b → ∀ (i : Nat) (v w : mm_V), (v = w ∨ v.1 = 9) → mm_le (a.set i v) (b.set i w)
  | [], [], _, _, _, _, _ => trivial
  | _ :: _, _ :: _, h, 0, _, _, hv => ⟨hv, h.2⟩
  | _ :: _, _ :: _, h, i + 1, v, w, hv => ⟨h.1, mm_le_set h.2 i v w hv⟩
  | [], _ :: _, h, _, _, _, _ => h.elim
  | _ :: _, [], h, _, _, _, _ => h.elim
theorem mm_le_set9 : ∀ {a b : List mm_V}, mm_le a b → ∀ (i : Nat) (v w : mm_V), a[i]? = some v → v.1 = 9 → mm_le a (b.set i w)
  | [], [], _, _, _, _, hv, _ => by cases hv
  | _ :: _, _ :: _, h, 0, v, w, hv, h9 => by cases hv; exact ⟨Or.inr h9, h.2⟩
  | _ :: _, _ :: _, h, i + 1, v, w, hv, h9 => ⟨h.1, mm_le_set9 h.2 i v w hv h9⟩
  | [], _ :: _, h, _, _, _, _, _ => h.elim
  | _ :: _, [], h, _, _, _, _, _ => h.elim
theorem mm_le_kill {a b : List mm_V} (h : mm_le a b) (i : Nat) : mm_le (mm_kill a i) (mm_kill b i) := by
  unfold mm_kill
  match i with
  | 0 => exact h
  | j + 1 =>
    dsimp only
    cases ha : a[j]? with
    | none =>
      have hb : b[j]? = none := by
        rw [List.getElem?_eq_none_iff] at ha ⊢
        rw [← mm_le_len h]; exact ha
      rw [hb]
      exact h
    | some v =>
      obtain ⟨w, hw, hvw⟩ := mm_le_get h j v ha
      rw [hw]
      dsimp only
      rcases hvw with rfl | h9
      · by_cases h1 : v.1 = 1
        · rw [if_pos h1, if_pos h1]
          exact mm_le_set h j _ _ (Or.inl rfl)
        · rw [if_neg h1, if_neg h1]; exact h
      · rw [if_neg (by omega)]
        by_cases h1 : w.1 = 1
        · rw [if_pos h1]
          exact mm_le_set9 h j v _ ha h9
        · rw [if_neg h1]; exact h
theorem mm_lo_le {i : Instr} {nx : Nat} {a b st : List mm_V} (h : mm_le a b) {pc1 : Nat} {a1 st1 : List mm_V} (ho : mm_lo i nx a st = some (pc1, a1, st1)) : ∃ b1, mm_lo i nx b st = some (pc1, b1, st1) ∧ mm_le a1 b1 := by
  have ld : ∀ {j t : Nat}, t < 3 → mm_ld nx a st j t = some (pc1, a1, st1) → ∃ b1, mm_ld nx b st j t = some (pc1, b1, st1) ∧ mm_le a1 b1 := fun {j t} ht hh => by
    obtain ⟨x, h1, rfl, rfl, rfl⟩ := mm_ld_inv hh
    obtain ⟨w, hw, hvw⟩ := mm_le_get h j _ h1
    rcases hvw with rfl | h9
    · refine ⟨b, ?_, h⟩
      unfold mm_ld
      rw [hw]
      dsimp only
      rw [if_pos rfl]
    · dsimp only at h9; omega
  have sto : ∀ {j t : Nat}, mm_sto nx a st j t = some (pc1, a1, st1) → ∃ b1, mm_sto nx b st j t = some (pc1, b1, st1) ∧ mm_le a1 b1 := fun {j t} hh => by
    obtain ⟨x, rfl, rfl, ⟨h1, h2, rfl⟩ | ⟨h1, h2, rfl⟩⟩ := mm_sto_inv hh
    · refine ⟨mm_set2 b j (t, x), ?_, mm_le_set (mm_le_set (mm_le_kill h j) _ _ _ (Or.inl rfl)) _ _ _ (Or.inl rfl)⟩
      unfold mm_sto
      dsimp only
      rw [if_pos rfl, if_pos h1, if_pos (by rw [← mm_le_len h]; exact h2)]
    · refine ⟨mm_set1 b j (t, x), ?_, mm_le_set (mm_le_kill h j) _ _ _ (Or.inl rfl)⟩
      unfold mm_sto
      dsimp only
      rw [if_pos rfl, if_neg h1, if_pos (by rw [← mm_le_len h]; exact h2)]
  cases i
  case iload j => exact ld (by decide) ho
  case iload_n j => exact ld (by decide) ho
  case lload j => exact ld (by decide) ho
  case lload_n j => exact ld (by decide) ho
  case aload j => exact ld (by decide) ho
  case aload_n j => exact ld (by decide) ho
  case istore j => exact sto ho
  case istore_n j => exact sto ho
  case lstore j => exact sto ho
  case lstore_n j => exact sto ho
  case astore j => exact sto ho
  case astore_n j => exact sto ho
  case iinc j n =>
    replace ho : (match a[j]? with
      | some (0, x) => some (nx, mm_set1 a j (0, mm_w32 (x + n)), st)
      | _ => none) = some (pc1, a1, st1) := ho
    split at ho
    · rename_i x h1
      cases ho
      obtain ⟨w, hw, hvw⟩ := mm_le_get h j _ h1
      rcases hvw with rfl | h9
      · refine ⟨mm_set1 b j (0, mm_w32 (x + n)), ?_, mm_le_set (mm_le_kill h j) _ _ _ (Or.inl rfl)⟩
        show (match b[j]? with
          | some (0, x) => some (nx, mm_set1 b j (0, mm_w32 (x + n)), st)
          | _ => none) = _
        rw [hw]
        rfl
      · dsimp only at h9; omega
    · cases ho
  all_goals (exact absurd ho (by intro q; cases q))
theorem mm_lo_some_ret {i : Instr} {nx : Nat} {b st : List mm_V} {q : Nat × List mm_V × List mm_V} (h : mm_lo i nx b st = some q) (r1 : Nat) (st2 : List mm_V) : mm_ret r1 i st2 = none ∧ mm_isv i = none := by
  cases i <;> first | exact ⟨rfl, rfl⟩ | exact absurd h (by intro q; cases q)
theorem mm_ex_le2 {T : Nat → List mm_E × Nat} : ∀ (n : Nat) (cd : List mm_E) (pc : Nat) (a b st : List mm_V) (S : mm_S) (r : Option mm_V × mm_S), mm_le a b → mm_ex T n cd pc a st S = some r → mm_ex T n cd pc b st S = some r
  | 0, _, _, _, _, _, _, _, _, h => by cases h
  | n + 1, cd, pc, a, b, st, S, r, hab, h => by
    unfold mm_ex at h ⊢
    cases hf : mm_find cd pc with
    | none => rw [hf] at h; cases h
    | some e =>
      rw [hf] at h
      dsimp only at h ⊢
      unfold mm_j at h ⊢
      cases h1 : mm_op e.1 e.2.1 (e.1 + e.2.2.1) e.2.2.2.1 e.2.2.2.2.1 e.2.2.2.2.2 st S with
      | some q =>
        rw [h1] at h
        exact mm_ex_le2 n cd _ a b _ _ r hab h
      | none =>
        rw [h1] at h
        dsimp only at h ⊢
        cases h2 : mm_lo e.2.1 (e.1 + e.2.2.1) a st with
        | some q =>
          rw [h2] at h
          obtain ⟨pc1, a1, st1⟩ := q
          obtain ⟨b1, e1, hle⟩ := mm_lo_le hab h2
          rw [e1]
          exact mm_ex_le2 n cd _ a1 b1 _ _ r hle h
        | none =>
          rw [h2] at h
          dsimp only at h
          cases h2b : mm_lo e.2.1 (e.1 + e.2.2.1) b st with
          | some q =>
            exfalso
            obtain ⟨z1, z2⟩ := mm_lo_some_ret h2b e.2.2.2.1 st
            rw [z1] at h
            dsimp only at h
            rw [z2] at h
            cases h
          | none =>
            dsimp only
            cases h3 : mm_ret e.2.2.2.1 e.2.1 st with
            | some q => rw [h3] at h; exact h
            | none =>
              rw [h3] at h
              dsimp only at h ⊢
              cases h4 : mm_isv e.2.1 with
              | none => rw [h4] at h; cases h
              | some b4 =>
                rw [h4] at h
                dsimp only at h ⊢
                split at h
                · rename_i hg
                  rw [if_pos hg]
                  split at h
                  · rename_i v1 S1 h6
                    exact mm_ex_le2 n cd _ a b _ _ r hab h
                  · cases h
                · cases h
section RULES2
variable {cd : List mm_E} {pc len r1 r2 : Nat} {r3 : Int} {ls st : List mm_V} {S : mm_S} {Q : Option mm_V → mm_S → Prop}
theorem Rn.weak {ls' : List mm_V} (h : mm_le ls' ls) (k : Rn cd pc ls' st S Q) : Rn cd pc ls st S Q := by
  obtain ⟨n, v, S', h1, h2⟩ := k
  exact ⟨n, v, S', mm_ex_le2 n cd pc ls' ls st S _ h h1, h2⟩
/-- one on the stack alone, of any kind: its outcome given -/
theorem R_op {i : Instr} (hf : mm_find cd pc = some (pc, i, len, r1, r2, r3)) {nx pc' : Nat} {st' : List mm_V} {S' : mm_S} (hn : pc + len = nx) (ho : mm_op pc i nx r1 r2 r3 st S = some (pc', st', S')) (k : Rn cd pc' ls st' S' Q) : Rn cd pc ls st S Q := by
  subst hn
  exact Rn.op _ hf ho k
theorem R_lo {i : Instr} (hf : mm_find cd pc = some (pc, i, len, r1, r2, r3)) {nx pc' : Nat} {ls' st' : List mm_V} (hn : pc + len = nx) (ho : mm_op pc i nx r1 r2 r3 st S = none) (hl : mm_lo i nx ls st = some (pc', ls', st')) (k : Rn cd pc' ls' st' S Q) : Rn cd pc ls st S Q := by
  subst hn
  exact Rn.lo _ hf ho hl k
theorem R_iinc {j : Nat} {n x z : Int} {nx : Nat} {ls' : List mm_V} (hf : mm_find cd pc = some (pc, .iinc j n, len, r1, r2, r3)) (hn : pc + len = nx) (hl : ls[j]? = some (0, x)) (hz : x + n = z) (hr : mm_r32 z) (hs : mm_set1 ls j (0, z) = ls') (k : Rn cd nx ls' st S Q) : Rn cd pc ls st S Q := by
  subst hn
  refine Rn.lo _ hf rfl ?_ k
  show (match ls[j]? with
    | some (0, x) => some (pc + len, mm_set1 ls j (0, mm_w32 (x + n)), st)
    | _ => none) = _
  rw [hl]
  show some (pc + len, mm_set1 ls j (0, mm_w32 (x + n)), st) = _
  rw [hz, mm_w32_id hr, hs]
theorem R_iadd {x y z : Int} {nx : Nat} (hf : mm_find cd pc = some (pc, .iadd, len, r1, r2, r3)) (hn : pc + len = nx) (hz : x + y = z) (hr : mm_r32 z) (k : Rn cd nx ls ((0, z) :: st) S Q) : Rn cd pc ls ((0, y) :: (0, x) :: st) S Q := by
  subst hn; subst hz
  exact Rn.op _ hf (show some (pc + len, (0, mm_w32 (x + y)) :: st, S) = _ by rw [mm_w32_id hr]) k
theorem R_isub {x y z : Int} {nx : Nat} (hf : mm_find cd pc = some (pc, .isub, len, r1, r2, r3)) (hn : pc + len = nx) (hz : x - y = z) (hr : mm_r32 z) (k : Rn cd nx ls ((0, z) :: st) S Q) : Rn cd pc ls ((0, y) :: (0, x) :: st) S Q := by
  subst hn; subst hz
  exact Rn.op _ hf (show some (pc + len, (0, mm_w32 (x - y)) :: st, S) = _ by rw [mm_w32_id hr]) k
theorem R_imul {x y z : Int} {nx : Nat} (hf : mm_find cd pc = some (pc, .imul, len, r1, r2, r3)) (hn : pc + len = nx) (hz : x * y = z) (hr : mm_r32 z) (k : Rn cd nx ls ((0, z) :: st) S Q) : Rn cd pc ls ((0, y) :: (0, x) :: st) S Q := by
  subst hn; subst hz
  exact Rn.op _ hf (show some (pc + len, (0, mm_w32 (x * y)) :: st, S) = _ by rw [mm_w32_id hr]) k
theorem R_ineg {x z : Int} {nx : Nat} (hf : mm_find cd pc = some (pc, .ineg, len, r1, r2, r3)) (hn : pc + len = nx) (hz : -x = z) (hr : mm_r32 z) (k : Rn cd nx ls ((0, z) :: st) S Q) : Rn cd pc ls ((0, x) :: st) S Q := by
  subst hn; subst hz
  exact Rn.op _ hf (show some (pc + len, (0, mm_w32 (-x)) :: st, S) = _ by rw [mm_w32_id hr]) k
theorem R_idiv {x y z : Int} {nx : Nat} (hf : mm_find cd pc = some (pc, .idiv, len, r1, r2, r3)) (hn : pc + len = nx) (hy : y ≠ 0) (hz : Int.tdiv x y = z) (hr : mm_r32 z) (k : Rn cd nx ls ((0, z) :: st) S Q) : Rn cd pc ls ((0, y) :: (0, x) :: st) S Q := by
  subst hn; subst hz
  exact Rn.op _ hf (show (if y = 0 then none else some (pc + len, (0, mm_w32 (Int.tdiv x y)) :: st, S)) = _ by rw [if_neg hy, mm_w32_id hr]) k
theorem R_irem {x y z : Int} {nx : Nat} (hf : mm_find cd pc = some (pc, .irem, len, r1, r2, r3)) (hn : pc + len = nx) (hy : y ≠ 0) (hz : Int.tmod x y = z) (k : Rn cd nx ls ((0, z) :: st) S Q) : Rn cd pc ls ((0, y) :: (0, x) :: st) S Q := by
  subst hn; subst hz
  exact Rn.op _ hf (show (if y = 0 then none else some (pc + len, (0, Int.tmod x y) :: st, S)) = _ by rw [if_neg hy]) k
theorem R_ldiv {x y : Int} {nx : Nat} (hf : mm_find cd pc = some (pc, .ldiv, len, r1, r2, r3)) (hn : pc + len = nx) (hy : y ≠ 0) (k : Rn cd nx ls ((1, mm_w64 (Int.tdiv x y)) :: st) S Q) : Rn cd pc ls ((1, y) :: (1, x) :: st) S Q := by
  subst hn
  exact Rn.op _ hf (show (if y = 0 then none else some (pc + len, (1, mm_w64 (Int.tdiv x y)) :: st, S)) = _ by rw [if_neg hy]) k
theorem R_lrem {x y : Int} {nx : Nat} (hf : mm_find cd pc = some (pc, .lrem, len, r1, r2, r3)) (hn : pc + len = nx) (hy : y ≠ 0) (k : Rn cd nx ls ((1, Int.tmod x y) :: st) S Q) : Rn cd pc ls ((1, y) :: (1, x) :: st) S Q := by
  subst hn
  exact Rn.op _ hf (show (if y = 0 then none else some (pc + len, (1, Int.tmod x y) :: st, S)) = _ by rw [if_neg hy]) k
theorem R_l2i {x z : Int} {nx : Nat} (hf : mm_find cd pc = some (pc, .l2i, len, r1, r2, r3)) (hn : pc + len = nx) (hz : mm_w32 x = z) (k : Rn cd nx ls ((0, z) :: st) S Q) : Rn cd pc ls ((1, x) :: st) S Q := by
  subst hn; subst hz
  exact Rn.op _ hf rfl k
/-- the two ways of a branch on two ints -/
theorem R_icmp {c : ClassFile.Cond} {off x y : Int} {nx tg : Nat} {B : Prop} (hf : mm_find cd pc = some (pc, .if_icmp c off, len, r1, r2, r3)) (hn : pc + len = nx) (ht : ((pc : Int) + off).toNat = tg) (hc : mm_cnd c x y = true ↔ B) (kt : B → Rn cd tg ls st S Q) (kf : ¬ B → Rn cd nx ls st S Q) : Rn cd pc ls ((0, y) :: (0, x) :: st) S Q := by
  subst hn; subst ht
  exact Rn.br _ hf (b := mm_cnd c x y) rfl hc kt kf
theorem R_if {c : ClassFile.Cond} {off x : Int} {nx tg : Nat} {B : Prop} (hf : mm_find cd pc = some (pc, .ifCond c off, len, r1, r2, r3)) (hn : pc + len = nx) (ht : ((pc : Int) + off).toNat = tg) (hc : mm_cnd c x 0 = true ↔ B) (kt : B → Rn cd tg ls st S Q) (kf : ¬ B → Rn cd nx ls st S Q) : Rn cd pc ls ((0, x) :: st) S Q := by
  subst hn; subst ht
  exact Rn.br _ hf (b := mm_cnd c x 0) rfl hc kt kf
theorem mm_cnd_eq (x y : Int) : mm_cnd .eq x y = true ↔ x = y := decide_eq_true_iff
theorem mm_cnd_ne (x y : Int) : mm_cnd .ne x y = true ↔ ¬ x = y := decide_eq_true_iff
theorem mm_cnd_lt (x y : Int) : mm_cnd .lt x y = true ↔ x < y := decide_eq_true_iff
theorem mm_cnd_ge (x y : Int) : mm_cnd .ge x y = true ↔ y ≤ x := decide_eq_true_iff
theorem mm_cnd_gt (x y : Int) : mm_cnd .gt x y = true ↔ y < x := decide_eq_true_iff
theorem mm_cnd_le (x y : Int) : mm_cnd .le x y = true ↔ x ≤ y := decide_eq_true_iff
/-- branches whose way is known -/
theorem R_icmpT {c : ClassFile.Cond} {off x y : Int} {tg : Nat} (hf : mm_find cd pc = some (pc, .if_icmp c off, len, r1, r2, r3)) (ht : ((pc : Int) + off).toNat = tg) (hc : mm_cnd c x y = true) (k : Rn cd tg ls st S Q) : Rn cd pc ls ((0, y) :: (0, x) :: st) S Q := by
  subst ht
  exact Rn.op _ hf (show some (if mm_cnd c x y then ((pc : Int) + off).toNat else pc + len, st, S) = _ by rw [hc]; rfl) k
theorem R_icmpF {c : ClassFile.Cond} {off x y : Int} {nx : Nat} (hf : mm_find cd pc = some (pc, .if_icmp c off, len, r1, r2, r3)) (hn : pc + len = nx) (hc : mm_cnd c x y = false) (k : Rn cd nx ls st S Q) : Rn cd pc ls ((0, y) :: (0, x) :: st) S Q := by
  subst hn
  exact Rn.op _ hf (show some (if mm_cnd c x y then ((pc : Int) + off).toNat else pc + len, st, S) = _ by rw [hc]; rfl) k
theorem R_ifT {c : ClassFile.Cond} {off x : Int} {tg : Nat} (hf : mm_find cd pc = some (pc, .ifCond c off, len, r1, r2, r3)) (ht : ((pc : Int) + off).toNat = tg) (hc : mm_cnd c x 0 = true) (k : Rn cd tg ls st S Q) : Rn cd pc ls ((0, x) :: st) S Q := by
  subst ht
  exact Rn.op _ hf (show some (if mm_cnd c x 0 then ((pc : Int) + off).toNat else pc + len, st, S) = _ by rw [hc]; rfl) k
theorem R_ifF {c : ClassFile.Cond} {off x : Int} {nx : Nat} (hf : mm_find cd pc = some (pc, .ifCond c off, len, r1, r2, r3)) (hn : pc + len = nx) (hc : mm_cnd c x 0 = false) (k : Rn cd nx ls st S Q) : Rn cd pc ls ((0, x) :: st) S Q := by
  subst hn
  exact Rn.op _ hf (show some (if mm_cnd c x 0 then ((pc : Int) + off).toNat else pc + len, st, S) = _ by rw [hc]; rfl) k
theorem R_ifnull {off x : Int} {nx tg : Nat} (hf : mm_find cd pc = some (pc, .ifnull off, len, r1, r2, r3)) (hn : pc + len = nx) (ht : ((pc : Int) + off).toNat = tg) (kt : x < 0 → Rn cd tg ls st S Q) (kf : ¬ x < 0 → Rn cd nx ls st S Q) : Rn cd pc ls ((2, x) :: st) S Q := by
  subst hn; subst ht
  exact Rn.br _ hf (b := decide (x < 0)) rfl decide_eq_true_iff kt kf
theorem R_ifnonnull {off x : Int} {nx tg : Nat} (hf : mm_find cd pc = some (pc, .ifnonnull off, len, r1, r2, r3)) (hn : pc + len = nx) (ht : ((pc : Int) + off).toNat = tg) (kt : 0 ≤ x → Rn cd tg ls st S Q) (kf : ¬ 0 ≤ x → Rn cd nx ls st S Q) : Rn cd pc ls ((2, x) :: st) S Q := by
  subst hn; subst ht
  exact Rn.br _ hf (b := decide (0 ≤ x)) rfl decide_eq_true_iff kt kf
/-- fields -/
theorem R_get {idx : Nat} {a : Int} {w : mm_V} {nx : Nat} (hf : mm_find cd pc = some (pc, .getfield idx, len, r1, r2, r3)) (hn : pc + len = nx) (ho : mm_ob a r1 = true) (hw : mm_gv S r1 r2 a (mm_fk r1 r2) = w) (k : Rn cd nx ls (w :: st) S Q) : Rn cd pc ls ((2, a) :: st) S Q := by
  subst hn; subst hw
  exact Rn.op _ hf (show (if mm_ob a r1 then some (pc + len, mm_gv S r1 r2 a (mm_fk r1 r2) :: st, S) else none) = _ by rw [if_pos ho]) k
theorem R_put {idx u : Nat} {a x : Int} {kk : Int} {nx : Nat} (hf : mm_find cd pc = some (pc, .putfield idx, len, r1, r2, r3)) (hn : pc + len = nx) (ho : mm_ob a r1 = true) (hg : mm_pg (mm_fk r1 r2) u x = true) (hk : (r2 : Int) = kk) (k : Rn cd nx ls st (mm_up S a kk x) Q) : Rn cd pc ls ((u, x) :: (2, a) :: st) S Q := by
  subst hn; subst hk
  exact Rn.op _ hf (show (if mm_ob a r1 && mm_pg (mm_fk r1 r2) u x then some (pc + len, st, mm_up S a r2 x) else none) = _ by rw [ho, hg]; rfl) k
/-- rows -/
theorem R_iald {a i : Int} {nx : Nat} (hf : mm_find cd pc = some (pc, .iaload, len, 0, r2, r3)) (hn : pc + len = nx) (he : mm_el a i [1] = true) (k : Rn cd nx ls ((0, S a i) :: st) S Q) : Rn cd pc ls ((0, i) :: (2, a) :: st) S Q := by
  subst hn
  exact Rn.op _ hf (show (if mm_el a i [1] then some (pc + len, (0, S a i) :: st, S) else none) = _ by rw [if_pos he]) k
theorem R_lald {a i : Int} {nx : Nat} (hf : mm_find cd pc = some (pc, .laload, len, r1, r2, r3)) (hn : pc + len = nx) (he : mm_el a i [2] = true) (k : Rn cd nx ls ((1, S a i) :: st) S Q) : Rn cd pc ls ((0, i) :: (2, a) :: st) S Q := by
  subst hn
  exact Rn.op _ hf (show (if mm_el a i [2] then some (pc + len, (1, S a i) :: st, S) else none) = _ by rw [if_pos he]) k
theorem R_bald {a i : Int} {nx : Nat} (hf : mm_find cd pc = some (pc, .baload, len, r1, r2, r3)) (hn : pc + len = nx) (he : mm_el a i [3, 4] = true) (k : Rn cd nx ls ((0, S a i) :: st) S Q) : Rn cd pc ls ((0, i) :: (2, a) :: st) S Q := by
  subst hn
  exact Rn.op _ hf (show (if mm_el a i [3, 4] then some (pc + len, (0, S a i) :: st, S) else none) = _ by rw [if_pos he]) k
theorem R_aald {a i z : Int} {nx : Nat} (hf : mm_find cd pc = some (pc, .aaload, len, r1, r2, r3)) (hn : pc + len = nx) (he : mm_el a i [5, 6] = true) (hz : mm_ra a i = z) (k : Rn cd nx ls ((2, z) :: st) S Q) : Rn cd pc ls ((0, i) :: (2, a) :: st) S Q := by
  subst hn; subst hz
  exact Rn.op _ hf (show (if mm_el a i [5, 6] then some (pc + len, (2, mm_ra a i) :: st, S) else none) = _ by rw [if_pos he]) k
theorem R_iast {a i x : Int} {nx : Nat} (hf : mm_find cd pc = some (pc, .iastore, len, r1, r2, r3)) (hn : pc + len = nx) (he : mm_el a i [1] = true) (k : Rn cd nx ls st (mm_up S a i x) Q) : Rn cd pc ls ((0, x) :: (0, i) :: (2, a) :: st) S Q := by
  subst hn
  exact Rn.op _ hf (show (if mm_el a i [1] && true then some (pc + len, st, mm_up S a i x) else none) = _ by rw [he]; rfl) k
theorem R_last {a i x : Int} {nx : Nat} (hf : mm_find cd pc = some (pc, .lastore, len, r1, r2, r3)) (hn : pc + len = nx) (he : mm_el a i [2] = true) (k : Rn cd nx ls st (mm_up S a i x) Q) : Rn cd pc ls ((1, x) :: (0, i) :: (2, a) :: st) S Q := by
  subst hn
  exact Rn.op _ hf (show (if mm_el a i [2] && true then some (pc + len, st, mm_up S a i x) else none) = _ by rw [he]; rfl) k
theorem R_bast {a i x : Int} {nx : Nat} (hf : mm_find cd pc = some (pc, .bastore, len, r1, r2, r3)) (hn : pc + len = nx) (he : mm_el a i [3, 4] = true) (hg : mm_fit (mm_kd a.toNat).1 x = true) (k : Rn cd nx ls st (mm_up S a i x) Q) : Rn cd pc ls ((0, x) :: (0, i) :: (2, a) :: st) S Q := by
  subst hn
  exact Rn.op _ hf (show (if mm_el a i [3, 4] && mm_fit (mm_kd a.toNat).1 x then some (pc + len, st, mm_up S a i x) else none) = _ by rw [he, hg]; rfl) k
theorem R_acp {idx : Nat} {a b sp dp n : Int} {nx : Nat} (hf : mm_find cd pc = some (pc, .invokestatic idx, len, 999, r2, r3)) (hn : pc + len = nx) (hg : 0 ≤ a ∧ 0 ≤ b ∧ 0 ≤ sp ∧ 0 ≤ dp ∧ 0 ≤ n ∧ sp + n ≤ ((mm_kd a.toNat).2 : Int) ∧ dp + n ≤ ((mm_kd b.toNat).2 : Int) ∧ (mm_kd a.toNat).1 = (mm_kd b.toNat).1 ∧ ((mm_kd a.toNat).1 = 1 ∨ (mm_kd a.toNat).1 = 2) ∧ mm_cs st ≤ 8) (k : Rn cd nx ls st (mm_cpy S a sp b dp n) Q) : Rn cd pc ls ((0, n) :: (0, dp) :: (2, b) :: (0, sp) :: (2, a) :: st) S Q := by
  subst hn
  refine Rn.op _ hf ?_ k
  show mm_acp (pc + len) ((0, n) :: (0, dp) :: (2, b) :: (0, sp) :: (2, a) :: st) S = _
  exact if_pos hg
theorem R_swK {d lw hi x : Int} {offs : Array Int} {tg : Nat} (hf : mm_find cd pc = some (pc, .tableswitch d lw hi offs, len, r1, r2, r3)) (h : lw ≤ x ∧ x ≤ hi) (ht : ((pc : Int) + (offs[(x - lw).toNat]?).getD 0).toNat = tg) (k : Rn cd tg ls st S Q) : Rn cd pc ls ((0, x) :: st) S Q := by
  subst ht
  exact Rn.op _ hf (show (if lw ≤ x ∧ x ≤ hi then some (((pc : Int) + (offs[(x - lw).toNat]?).getD 0).toNat, st, S) else some (((pc : Int) + d).toNat, st, S)) = _ by rw [if_pos h]) k
theorem R_swD {d lw hi x : Int} {offs : Array Int} {tg : Nat} (hf : mm_find cd pc = some (pc, .tableswitch d lw hi offs, len, r1, r2, r3)) (h : ¬ (lw ≤ x ∧ x ≤ hi)) (ht : ((pc : Int) + d).toNat = tg) (k : Rn cd tg ls st S Q) : Rn cd pc ls ((0, x) :: st) S Q := by
  subst ht
  exact Rn.op _ hf (show (if lw ≤ x ∧ x ≤ hi then some (((pc : Int) + (offs[(x - lw).toNat]?).getD 0).toNat, st, S) else some (((pc : Int) + d).toNat, st, S)) = _ by rw [if_neg h]) k
/-- calls -/
theorem R_call1 {i : Instr} {b : Bool} {as rest : List mm_V} {nx : Nat} (hf : mm_find cd pc = some (pc, i, len, r1, r2, r3)) (hn : pc + len = nx) (ho : ∀ st S, mm_op pc i (pc + len) r1 r2 r3 st S = none) (hl : mm_lo i (pc + len) ls st = none) (hr : mm_ret r1 i st = none) (hv : mm_isv i = some b) (has : (st.take r2).reverse = as) (hrest : st.drop r2 = rest) (hlen : decide (r2 ≤ st.length) = true) (hrc : mm_rcv r3 as = true) (hcs : decide (mm_cs rest ≤ 8) = true)
    (k : Cl r1 as S (fun v S' => ∃ w, v = some w ∧ Rn cd nx ls (w :: rest) S' Q)) : Rn cd pc ls st S Q := by
  subst hn
  refine Rn.call _ hf as rest (ho _ _) hl hr hv has hrest hlen hrc hcs (k.mono fun v S' h => ?_)
  obtain ⟨w, rfl, h⟩ := h
  exact h
theorem R_call0 {i : Instr} {b : Bool} {as rest : List mm_V} {nx : Nat} (hf : mm_find cd pc = some (pc, i, len, r1, r2, r3)) (hn : pc + len = nx) (ho : ∀ st S, mm_op pc i (pc + len) r1 r2 r3 st S = none) (hl : mm_lo i (pc + len) ls st = none) (hr : mm_ret r1 i st = none) (hv : mm_isv i = some b) (has : (st.take r2).reverse = as) (hrest : st.drop r2 = rest) (hlen : decide (r2 ≤ st.length) = true) (hrc : mm_rcv r3 as = true) (hcs : decide (mm_cs rest ≤ 8) = true)
    (k : Cl r1 as S (fun v S' => v = none ∧ Rn cd nx ls rest S' Q)) : Rn cd pc ls st S Q := by
  subst hn
  refine Rn.call _ hf as rest (ho _ _) hl hr hv has hrest hlen hrc hcs (k.mono fun v S' h => ?_)
  obtain ⟨rfl, h⟩ := h
  exact h
theorem R_ret {i : Instr} {v : Option mm_V} (hf : mm_find cd pc = some (pc, i, len, r1, r2, r3)) (ho : ∀ st S, mm_op pc i (pc + len) r1 r2 r3 st S = none) (hl : mm_lo i (pc + len) ls st = none) (hr : mm_ret r1 i st = some v) (k : Q v S) : Rn cd pc ls st S Q := Rn.ret _ hf (ho _ _) hl hr k
end RULES2
theorem mm_el_ok {a i : Int} {ks : List Nat} (t : Nat) (n : Nat) (ha : 0 ≤ a) (hk : mm_kd a.toNat = (t, n)) (ht : t ∈ ks) (h0 : 0 ≤ i) (h1 : i < (n : Int)) : mm_el a i ks = true := decide_eq_true ⟨ha, by rw [hk]; exact ht, h0, by rw [hk]; exact h1⟩
/-- a complex of the class: what is made, the four, the four kept -/
def mm_isC (a : Int) : Prop := a = 3 ∨ a = 23 ∨ a = 28 ∨ a = 33 ∨ a = 38 ∨ a = 43 ∨ a = 48 ∨ a = 53 ∨ a = 58
theorem isC_ob {a : Int} (h : mm_isC a) : mm_ob a 1 = true := by
  rcases h with rfl | rfl | rfl | rfl | rfl | rfl | rfl | rfl | rfl <;> rfl
theorem isC_rc {a : Int} (h : mm_isC a) (r : List mm_V) : mm_rcv 2 ((2, a) :: r) = true := by
  show (decide ((2 : Int) = 0) || mm_ob a 1) = true
  rw [isC_ob h]; rfl
theorem isC_kd {a : Int} (h : mm_isC a) : 0 ≤ a ∧ a < 59 ∧ mm_kd (a + 1).toNat = (1, 12) ∧ mm_kd (a + 2).toNat = (1, 12) ∧ mm_kd (a + 3).toNat = (1, 12) ∧ mm_kd (a + 4).toNat = (1, 144) := by
  rcases h with rfl | rfl | rfl | rfl | rfl | rfl | rfl | rfl | rfl <;> exact ⟨by decide, by decide, rfl, rfl, rfl, rfl⟩
theorem isC_el1 {a i : Int} (h : mm_isC a) (h0 : 0 ≤ i) (h1 : i < 12) : mm_el (a + 1) i [1] = true := mm_el_ok 1 12 (by have := (isC_kd h).1; omega) (isC_kd h).2.2.1 List.mem_cons_self h0 h1
theorem isC_el2 {a i : Int} (h : mm_isC a) (h0 : 0 ≤ i) (h1 : i < 12) : mm_el (a + 2) i [1] = true := mm_el_ok 1 12 (by have := (isC_kd h).1; omega) (isC_kd h).2.2.2.1 List.mem_cons_self h0 h1
theorem isC_el3 {a i : Int} (h : mm_isC a) (h0 : 0 ≤ i) (h1 : i < 12) : mm_el (a + 3) i [1] = true := mm_el_ok 1 12 (by have := (isC_kd h).1; omega) (isC_kd h).2.2.2.2.1 List.mem_cons_self h0 h1
theorem isC_el4 {a i : Int} (h : mm_isC a) (h0 : 0 ≤ i) (h1 : i < 144) : mm_el (a + 4) i [1] = true := mm_el_ok 1 144 (by have := (isC_kd h).1; omega) (isC_kd h).2.2.2.2.2 List.mem_cons_self h0 h1
theorem isC_c {i : Int} (h0 : 0 ≤ i) (h1 : i < 4) : mm_isC (23 + 10 * i) := by unfold mm_isC; omega
theorem isC_k {i : Int} (h0 : 0 ≤ i) (h1 : i < 4) : mm_isC (28 + 10 * i) := by unfold mm_isC; omega
theorem isC_3 : mm_isC 3 := Or.inl rfl
/-- a sheet -/
def mm_isS (a : Int) : Prop := a = 63 ∨ a = 65 ∨ a = 67 ∨ a = 69
theorem isS_ob {a : Int} (h : mm_isS a) : mm_ob a 7 = true := by
  rcases h with rfl | rfl | rfl | rfl <;> rfl
theorem isS_rc {a : Int} (h : mm_isS a) (r : List mm_V) : mm_rcv 8 ((2, a) :: r) = true := by
  show (decide ((8 : Int) = 0) || mm_ob a 7) = true
  rw [isS_ob h]; rfl
theorem isS_kd {a : Int} (h : mm_isS a) : 0 ≤ a ∧ a < 70 ∧ mm_kd (a + 1).toNat = (2, 40) := by
  rcases h with rfl | rfl | rfl | rfl <;> exact ⟨by decide, by decide, rfl⟩
theorem isS_el {a i : Int} (h : mm_isS a) (h0 : 0 ≤ i) (h1 : i < 40) : mm_el (a + 1) i [2] = true := mm_el_ok 2 40 (by have := (isS_kd h).1; omega) (isS_kd h).2.2 List.mem_cons_self h0 h1
theorem isS_c {i : Int} (h0 : 0 ≤ i) (h1 : i < 4) : mm_isS (63 + 2 * i) := by unfold mm_isS; omega
