/-! Runs: the small machine comes, from here, to an end that Q holds of. -/
def Rn (cd : List mm_E) (pc : Nat) (ls st : List mm_V) (S : mm_S) (Q : Option mm_V → mm_S → Prop) : Prop := ∃ n v S', mm_ex mm_T n cd pc ls st S = some (v, S') ∧ Q v S'
/-- a method from its start -/
def Cl (k : Nat) (as : List mm_V) (S : mm_S) (Q : Option mm_V → mm_S → Prop) : Prop := (mm_args as).length ≤ (mm_T k).2 ∧ Rn (mm_T k).1 0 (mm_ent (mm_T k).2 as) [] S Q
theorem Rn.mono {cd pc ls st S} {Q Q' : Option mm_V → mm_S → Prop} (h : Rn cd pc ls st S Q) (hq : ∀ v S', Q v S' → Q' v S') : Rn cd pc ls st S Q' := by
  obtain ⟨n, v, S', h1, h2⟩ := h
  exact ⟨n, v, S', h1, hq v S' h2⟩
theorem Cl.mono {k as S} {Q Q' : Option mm_V → mm_S → Prop} (h : Cl k as S Q) (hq : ∀ v S', Q v S' → Q' v S') : Cl k as S Q' := ⟨h.1, Rn.mono h.2 hq⟩
theorem mm_j_mono {k k' : Nat → List mm_V → List mm_V → mm_S → mm_R} {ck ck' : Nat → List mm_V → mm_S → mm_R} {e : mm_E} {ls st : List mm_V} {S : mm_S} {r : Option mm_V × mm_S} (hk : ∀ pc ls st S r, k pc ls st S = some r → k' pc ls st S = some r) (hc : ∀ m as S r, ck m as S = some r → ck' m as S = some r) (h : mm_j k ck e ls st S = some r) : mm_j k' ck' e ls st S = some r := by
  unfold mm_j at h ⊢
  cases h1 : mm_op e.1 e.2.1 (e.1 + e.2.2.1) e.2.2.2.1 e.2.2.2.2.1 e.2.2.2.2.2 st S with
  | some q => rw [h1] at h; exact hk _ _ _ _ _ h
  | none =>
    rw [h1] at h
    dsimp only at h ⊢
    cases h2 : mm_lo e.2.1 (e.1 + e.2.2.1) ls st with
    | some q => rw [h2] at h; exact hk _ _ _ _ _ h
    | none =>
      rw [h2] at h
      dsimp only at h ⊢
      cases h3 : mm_ret e.2.2.2.1 e.2.1 st with
      | some q => rw [h3] at h; exact h
      | none =>
        rw [h3] at h
        dsimp only at h ⊢
        cases h4 : mm_isv e.2.1 with
        | none => rw [h4] at h; cases h
        | some b =>
          rw [h4] at h
          dsimp only at h ⊢
          split at h
          · rename_i hg
            rw [if_pos hg]
            cases h5 : ck e.2.2.2.1 (st.take e.2.2.2.2.1).reverse S with
            | none => rw [h5] at h; cases h
            | some q =>
              rw [h5] at h
              rw [hc _ _ _ _ h5]
              exact hk _ _ _ _ _ h
          · cases h
theorem mm_ex_up {T : Nat → List mm_E × Nat} : ∀ (n : Nat) (cd : List mm_E) (pc : Nat) (ls st : List mm_V) (S : mm_S) (r : Option mm_V × mm_S), mm_ex T n cd pc ls st S = some r → mm_ex T (n + 1) cd pc ls st S = some r
  | 0, _, _, _, _, _, _, h => by cases h
  | n + 1, cd, pc, ls, st, S, r, h => by
    unfold mm_ex at h ⊢
    cases hf : mm_find cd pc with
    | none => rw [hf] at h; cases h
    | some e =>
      rw [hf] at h
      exact mm_j_mono (fun _ _ _ _ _ h => mm_ex_up n _ _ _ _ _ _ h) (fun _ _ _ _ h => by
        split at h
        · rename_i hl
          rw [if_pos hl]
          exact mm_ex_up n _ _ _ _ _ _ h
        · cases h) h
theorem mm_ex_le {T : Nat → List mm_E × Nat} {n m : Nat} (hnm : n ≤ m) {cd : List mm_E} {pc : Nat} {ls st : List mm_V} {S : mm_S} {r : Option mm_V × mm_S} (h : mm_ex T n cd pc ls st S = some r) : mm_ex T m cd pc ls st S = some r := by
  induction hnm with
  | refl => exact h
  | step _ ih => exact mm_ex_up _ _ _ _ _ _ _ ih
section RULES
variable {cd : List mm_E} {pc nx r1 r2 : Nat} {r3 : Int} {i : Instr} {len : Nat} {ls st : List mm_V} {S : mm_S} {Q : Option mm_V → mm_S → Prop}
/-- an instruction on the stack and the cells -/
theorem Rn.op (e : mm_E) (hf : mm_find cd pc = some e) {pc' : Nat} {st' : List mm_V} {S' : mm_S} (ho : mm_op e.1 e.2.1 (e.1 + e.2.2.1) e.2.2.2.1 e.2.2.2.2.1 e.2.2.2.2.2 st S = some (pc', st', S')) (k : Rn cd pc' ls st' S' Q) : Rn cd pc ls st S Q := by
  obtain ⟨n, v, S2, h1, h2⟩ := k
  refine ⟨n + 1, v, S2, ?_, h2⟩
  unfold mm_ex
  rw [hf]
  show mm_j _ _ e ls st S = _
  unfold mm_j
  rw [ho]
  exact h1
/-- one on the locals -/
theorem Rn.lo (e : mm_E) (hf : mm_find cd pc = some e) {pc' : Nat} {ls' st' : List mm_V} (ho : mm_op e.1 e.2.1 (e.1 + e.2.2.1) e.2.2.2.1 e.2.2.2.2.1 e.2.2.2.2.2 st S = none) (hl : mm_lo e.2.1 (e.1 + e.2.2.1) ls st = some (pc', ls', st')) (k : Rn cd pc' ls' st' S Q) : Rn cd pc ls st S Q := by
  obtain ⟨n, v, S2, h1, h2⟩ := k
  refine ⟨n + 1, v, S2, ?_, h2⟩
  unfold mm_ex
  rw [hf]
  show mm_j _ _ e ls st S = _
  unfold mm_j
  rw [ho]
  dsimp only
  rw [hl]
  exact h1
/-- the end -/
theorem Rn.ret (e : mm_E) (hf : mm_find cd pc = some e) {v : Option mm_V} (ho : mm_op e.1 e.2.1 (e.1 + e.2.2.1) e.2.2.2.1 e.2.2.2.2.1 e.2.2.2.2.2 st S = none) (hl : mm_lo e.2.1 (e.1 + e.2.2.1) ls st = none) (hr : mm_ret e.2.2.2.1 e.2.1 st = some v) (k : Q v S) : Rn cd pc ls st S Q := by
  refine ⟨1, v, S, ?_, k⟩
  unfold mm_ex
  rw [hf]
  show mm_j _ _ e ls st S = _
  unfold mm_j
  rw [ho]
  dsimp only
  rw [hl]
  dsimp only
  rw [hr]
/-- a call -/
theorem Rn.call (e : mm_E) (hf : mm_find cd pc = some e) {b : Bool} (as rest : List mm_V) (ho : mm_op e.1 e.2.1 (e.1 + e.2.2.1) e.2.2.2.1 e.2.2.2.2.1 e.2.2.2.2.2 st S = none) (hl : mm_lo e.2.1 (e.1 + e.2.2.1) ls st = none) (hr : mm_ret e.2.2.2.1 e.2.1 st = none) (hv : mm_isv e.2.1 = some b) (has : (st.take e.2.2.2.2.1).reverse = as) (hrest : st.drop e.2.2.2.2.1 = rest) (hlen : decide (e.2.2.2.2.1 ≤ st.length) = true) (hrc : mm_rcv e.2.2.2.2.2 as = true) (hcs : decide (mm_cs rest ≤ 8) = true)
    (k : Cl e.2.2.2.1 as S (fun v S' => Rn cd (e.1 + e.2.2.1) ls (v.toList ++ rest) S' Q)) : Rn cd pc ls st S Q := by
  obtain ⟨hlen2, n, v, S1, h1, n2, v2, S2, h2, h3⟩ := k
  refine ⟨max n n2 + 1, v2, S2, ?_, h3⟩
  unfold mm_ex
  rw [hf]
  show mm_j _ _ e ls st S = _
  unfold mm_j
  rw [ho]
  dsimp only
  rw [hl]
  dsimp only
  rw [hr]
  dsimp only
  rw [hv]
  dsimp only
  have hg : mm_cg e.2.2.2.2.1 e.2.2.2.2.2 st = true := by
    unfold mm_cg
    rw [hlen, has, hrest, hrc, hcs]; rfl
  rw [if_pos hg, has, if_pos hlen2, mm_ex_le (Nat.le_max_left n n2) h1]
  dsimp only
  rw [hrest]
  exact mm_ex_le (Nat.le_max_right n n2) h2
/-- a branch: two ways -/
theorem Rn.br (e : mm_E) (hf : mm_find cd pc = some e) {b : Bool} {pa pb : Nat} {st' : List mm_V} (ho : mm_op e.1 e.2.1 (e.1 + e.2.2.1) e.2.2.2.1 e.2.2.2.2.1 e.2.2.2.2.2 st S = some (if b then pa else pb, st', S)) {P : Prop} (hb : b = true ↔ P) (kt : P → Rn cd pa ls st' S Q) (kf : ¬ P → Rn cd pb ls st' S Q) : Rn cd pc ls st S Q := by
  cases b with
  | true => exact Rn.op e hf ho (kt (hb.mp rfl))
  | false => exact Rn.op e hf ho (kf (fun h => by have := hb.mpr h; cases this))
end RULES
theorem mm_w32_id {z : Int} (h : -2147483648 ≤ z ∧ z < 2147483648) : mm_w32 z = z := by
  unfold mm_w32
  rw [Int.bmod_def]
  split <;> omega
theorem mm_w64_id {z : Int} (h : -9223372036854775808 ≤ z ∧ z < 9223372036854775808) : mm_w64 z = z := by
  unfold mm_w64
  rw [Int.bmod_def]
  split <;> omega
