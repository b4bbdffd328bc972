/-! THE CLAIM OUT OF ONE WALK OF THE LAW'S BODY. Your part is whole_start (and what it stands on); all else here is the same for every law, but numbers. -/
def R_law : String := "PagesByLevelsLaw"
def lw_P (b : Addr) (xs : List Int32) (args : Array Value) (s : State) : Prop := args = #[.ref b] ∧ s.IntsAt b xs ∧ xs.length ≤ 3584 ∧ (Jvm.Cond.and given_1 narrow_1).before args s = true
def lw_Q (_ : Array Value) (s : State) (o : Outcome) (t : State) : Prop := o = .returned (some (.int 1)) ∧ Framed s o t [] 600000 7302250
def lw_Z (below : List Frame) (a : Array Value) (s : State) : State → Prop := fun t => ∃ o, t.status = .running ∧ Ended t below o ∧ lw_Q a s o t
/-- the law's own end, with 1 on the stack, nothing written that was there before, its room as the claim has it -/
theorem lw_ret {p : Program} {l : Launch} {e : Env} {s : State} {m : MethodId} {below : List Frame} {meth : Method} {c : Code} {b : Nat} (hx : p.tables.exec = Jvm.exec) (hb : c.code = code) (hr : meth.sig.returnType = ret) (hlocks : meth.locks = false) {pc : Nat} {H : Heap} {ls : Array Slot} (hdg : decode code pc = .ok (.ireturn, 1)) : W p l e room_1 s m #[Value.ref b] below meth c H [] 600000 7302250 (lw_Z below #[Value.ref b] s) (F0 m pc ls [.int 1]) := by
  intro T hT X
  obtain ⟨fs, hret, hrun, hended, hW, hframe⟩ := X.leave (v := some (.int 1)) (hlocks := hlocks) (fun h => by rw [hr] at h; cases h)
  have hmeth' : T.vm.method? m = some meth := X.method'
  refine ⟨T.setFrames fs, ?_, .returned (some (.int 1)), hrun, hended, rfl, ⟨_, rfl⟩, hW, hframe⟩
  jvm_step X.here [X.here.top, hx, hb, hdg, hmeth', hr, ret, narrow_b1]
  (try refine ⟨rfl, ?_⟩); (try refine ⟨rfl, ?_⟩)
  first | (intro acts; rw [hret _ acts rfl rfl rfl]) | rw [hret _ _ rfl rfl rfl]
  exact Steps.refl _
/-- what holds at the law's entry: the machine, the code, the tables' words (any of lw_tbl by 'hts w (by decide +kernel)'), the script of L ints xs at the cell b, what the Statement gives of the start (any of its parts by flat_of_before) -/
def lw_At (p : Program) (s : State) (m : MethodId) (meth : Method) (c : Code) (b L : Nat) (xs : Nat → Int32) : Prop :=
  p.tables.exec = Jvm.exec ∧ c.code = code ∧ meth.sig.returnType = ret ∧ c.maxLocals = 4 ∧ s.vm.findClass R_law = some m.cls ∧ (∀ w ∈ lw_tbl, w.before #[Value.ref b] s = true) ∧ va_X b L xs s s.heap ∧ b < s.heap.size ∧ meth.locks = false ∧ (Jvm.Cond.and given_1 narrow_1).before #[Value.ref b] s = true
/-- what the cells hold at the start, the script beside them -/
def S_0 (L : Nat) (xs : Nat → Int32) : mm_S := fun a k =>
  if a = 1000 then (if k = -1 then (L : Int) else if 0 ≤ k ∧ k < (L : Int) then (xs k.toNat).toInt else 0)
  else if 0 ≤ a ∧ 0 ≤ k then (cc_fin.getD a.toNat (99, 0, [])).2.2.getD k.toNat 0 else 0
theorem S_0_row (L : Nat) (xs : Nat → Int32) {a : Nat} (ha : a < 1000) (k : Nat) : S_0 L xs a k = (cc_fin.getD a (99, 0, [])).2.2.getD k 0 := by
  unfold S_0
  rw [if_neg (by omega), if_pos ⟨by omega, by omega⟩, Int.toNat_natCast, Int.toNat_natCast]
def cc_chk (a : Nat) (c : cc_C) : Bool :=
  decide (c.1 = (mm_kd a).1) && (if c.1 = 0 then decide (c.2.1 = (mm_kd a).2 ∧ c.2.2.length = mm_nf c.2.1 ∧ c.2.1 < 9) && (List.range (mm_nf c.2.1)).all fun k => decide (mm_fk c.2.1 k = 1 → mm_sr c.2.1 k a = c.2.2.getD k 0) && decide (mm_fk c.2.1 k < 4)
    else decide (c.2.2.length = (mm_kd a).2) && (if c.1 = 5 ∨ c.1 = 6 then (List.range c.2.2.length).all fun j => decide (c.2.2.getD j (-1) = mm_ra a j ∧ 0 ≤ mm_ra a j) else true))
theorem cc_fin_chk : ∀ a, a < 91 → cc_chk a (cc_fin.getD a (99, 0, [])) = true := by
  have h : (List.range 91).all (fun a => cc_chk a (cc_fin.getD a (99, 0, []))) = true := by decide +kernel
  exact fun a ha => List.all_eq_true.mp h a (List.mem_range.mpr ha)
theorem cc_fin_small : ∀ c ∈ cc_fin, ∀ x ∈ c.2.2, -1000 < x ∧ x < 1000 := by
  have h : cc_fin.all (fun c => c.2.2.all fun x => decide (-1000 < x ∧ x < 1000)) = true := by decide +kernel
  exact fun c hc x hx => of_decide_eq_true (List.all_eq_true.mp (List.all_eq_true.mp h c hc) x hx)
theorem cc_fin_getD (a k : Nat) : -1000 < (cc_fin.getD a (99, 0, [])).2.2.getD k 0 ∧ (cc_fin.getD a (99, 0, [])).2.2.getD k 0 < 1000 := by
  rw [List.getD_eq_getElem?_getD, List.getD_eq_getElem?_getD]
  cases h : cc_fin[a]? with
  | none => simp
  | some c =>
    show -1000 < (c.2.2[k]?).getD 0 ∧ (c.2.2[k]?).getD 0 < 1000
    cases h2 : c.2.2[k]? with
    | none => exact ⟨by decide, by decide⟩
    | some x => exact cc_fin_small c (List.mem_of_getElem? h) x (List.mem_of_getElem? h2)
theorem S_0_ok {L : Nat} (hL : L ≤ 3584) (xs : Nat → Int32) : mm_sok (S_0 L xs) := by
  have small : ∀ {z : Int}, -1000 < z ∧ z < 1000 → mm_r32 z := fun h => ⟨by omega, by omega⟩
  have key : ∀ a k, mm_r32 (S_0 L xs a k) := by
    intro a k
    unfold S_0
    split
    · split
      · exact ⟨by omega, by omega⟩
      · split
        · exact mm_i32_r _
        · exact ⟨by omega, by omega⟩
    · split
      · exact small (cc_fin_getD _ _)
      · exact ⟨by omega, by omega⟩
  exact fun a k => ⟨fun _ => ⟨by have := (key a k).1; omega, by have := (key a k).2; omega⟩, fun _ => key a k⟩
theorem cc_fin_len : cc_fin.length = 91 := by decide +kernel
/-- the made cells are the layout's -/
theorem S_0_world {σ : Nat → Nat} {P : Nat → ClassId} {dC : Nat → ClassId} {dI : Nat → Nat → Nat} {H : Heap} {L : Nat} {xs : Nat → Int32} (h : va_P (dC, dI) mm_cl (cc_w σ P cc_fin) H) : va_P (dC, dI) mm_cl (mm_ws σ P (S_0 L xs)) H := by
  intro k q hk
  obtain ⟨hl, rfl⟩ := mm_ws_at hk
  have hg : cc_fin[k]? = some (cc_fin.getD k (99, 0, [])) := by
    rw [List.getD_eq_getElem?_getD, List.getElem?_eq_getElem (by rw [cc_fin_len]; exact hl)]; rfl
  have h1 := h k _ (cc_w_get hg)
  have hc := cc_fin_chk k hl
  have hrow : ∀ j : Nat, S_0 L xs (k : Int) (j : Int) = (cc_fin.getD k (99, 0, [])).2.2.getD j 0 := fun j => S_0_row L xs (by omega) j
  generalize cc_fin.getD k (99, 0, []) = c at h1 hc hrow
  unfold cc_chk at hc
  rw [Bool.and_eq_true] at hc
  have hk1 := of_decide_eq_true hc.1
  have hc2 := hc.2
  unfold cc_cell at h1
  unfold mm_cellR
  by_cases h0 : c.1 = 0
  · rw [if_pos h0] at h1 hc2
    rw [if_pos (by rw [← hk1]; exact h0)]
    rw [Bool.and_eq_true] at hc2
    obtain ⟨e1, e2, e3⟩ := of_decide_eq_true hc2.1
    have hall := List.all_eq_true.mp hc2.2
    rw [← e1]
    have e : ((List.range (mm_nf c.2.1)).map fun (j : Nat) => mm_rl σ (mm_gw c.2.1 j k (S_0 L xs k j) (mm_fk c.2.1 j))) = (List.range c.2.2.length).map fun j => mm_rl σ (if cc_isR c.2.1 j then 2 else 0, c.2.2.getD j 0) := by
      rw [e2]
      apply List.map_congr_left
      intro j hj
      have hj2 := hall j hj
      rw [Bool.and_eq_true] at hj2
      have g1 := of_decide_eq_true hj2.1
      have g2 := of_decide_eq_true hj2.2
      rw [hrow j]
      unfold cc_isR
      rcases (show mm_fk c.2.1 j = 0 ∨ mm_fk c.2.1 j = 1 ∨ mm_fk c.2.1 j = 2 ∨ mm_fk c.2.1 j = 3 by omega) with z | z | z | z
      · rw [z]; rfl
      · have := g1 z
        rw [z]
        show mm_rl σ (2, mm_sr c.2.1 j k) = mm_rl σ (2, c.2.2.getD j 0)
        rw [this]
      · rw [z]; rfl
      · rw [z]; rfl
    rw [e]
    exact h1
  · rw [if_neg h0] at h1 hc2
    rw [if_neg (by rw [← hk1]; exact h0)]
    rw [Bool.and_eq_true] at hc2
    have hlen := of_decide_eq_true hc2.1
    by_cases h2 : c.1 = 2
    · rw [if_pos h2] at h1
      rw [if_pos (by rw [← hk1]; exact h2), ← hlen]
      have e : (fun j : Nat => Int64.ofInt (S_0 L xs k j)) = fun j : Nat => Int64.ofInt (c.2.2.getD j 0) := by
        funext j; rw [hrow j]
      rw [e]
      exact h1
    · rw [if_neg h2] at h1
      rw [if_neg (by rw [← hk1]; exact h2)]
      by_cases h5 : c.1 = 5 ∨ c.1 = 6
      · rw [if_pos h5] at h1
        rw [if_pos (by rw [← hk1]; exact h5), ← hlen, ← hk1]
        have hra := hc2.2
        rw [if_pos h5] at hra
        have hall := List.all_eq_true.mp hra
        have e : H[σ k]? = some (vp_cell (P c.1) (c.2.2.length, .inr (.inr (.inr (.inr fun (j : Nat) => if c.2.2.getD j (-1) < 0 then none else some (σ (c.2.2.getD j (-1)).toNat)))))) := h1
        show H[σ k]? = some (vp_cell (P c.1) (c.2.2.length, .inr (.inr (.inr (.inr fun (j : Nat) => some (σ (mm_ra k j).toNat))))))
        rw [e, vp_cell_q, vp_cell_q]
        congr 1
        unfold arrV
        congr 1
        congr 1
        funext j
        have hj := of_decide_eq_true (hall j.val (List.mem_range.mpr j.isLt))
        show va_rf (if c.2.2.getD j.val (-1) < 0 then none else some (σ (c.2.2.getD j.val (-1)).toNat)) = va_rf (some (σ (mm_ra k j.val).toNat))
        rw [if_neg (by rw [hj.1]; omega), hj.1]
      · rw [if_neg h5] at h1
        rw [if_neg (by rw [← hk1]; exact h5), ← hlen, ← hk1]
        have e : (fun j : Nat => Int32.ofInt (S_0 L xs k j)) = fun j : Nat => Int32.ofInt (c.2.2.getD j 0) := by
          funext j; rw [hrow j]
        rw [e]
        exact h1
