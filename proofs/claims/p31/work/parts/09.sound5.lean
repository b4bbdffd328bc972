/-! Locals, ends, calls: a run of the small machine is one of the real machine. -/
def mm_lr (σ : Nat → Nat) (ls : List mm_V) (lsr : Array Slot) (nL : Nat) : Prop := lsr.size = nL ∧ lv_wf lsr ∧ ls.length = nL ∧ ∀ (i : Nat) (v : mm_V), ls[i]? = some v → v.1 < 3 → lsr[i]? = some (.val (mm_rl σ v))
def mm_lvl (σ : Nat → Nat) (ls : List mm_V) : List (Nat × Value) := (List.range ls.length).filterMap fun i => match ls[i]? with
  | some v => if v.1 < 3 then some (i, mm_rl σ v) else none
  | none => none
theorem mm_lvl_mem {σ : Nat → Nat} {ls : List mm_V} {q : Nat × Value} : q ∈ mm_lvl σ ls ↔ ∃ v, ls[q.1]? = some v ∧ v.1 < 3 ∧ q.2 = mm_rl σ v := by
  unfold mm_lvl
  rw [List.mem_filterMap]
  constructor
  · rintro ⟨i, hi, h⟩
    split at h
    · rename_i v hv
      split at h
      · rename_i h3
        cases h
        exact ⟨v, hv, h3, rfl⟩
      · cases h
    · cases h
  · rintro ⟨v, hv, h3, h4⟩
    refine ⟨q.1, List.mem_range.mpr (List.getElem?_eq_some_iff.mp hv).1, ?_⟩
    rw [hv]
    dsimp only
    rw [if_pos h3, ← h4]
theorem mm_lr_has {σ : Nat → Nat} {ls : List mm_V} {lsr : Array Slot} {nL : Nat} (h : mm_lr σ ls lsr nL) : lv_has lsr nL (mm_lvl σ ls) := by
  refine ⟨h.1, h.2.1, fun q hq => ?_⟩
  obtain ⟨v, h1, h2, h3⟩ := mm_lvl_mem.mp hq
  rw [h3]
  exact h.2.2.2 q.1 v h1 h2
theorem mm_lr_get {σ : Nat → Nat} {ls : List mm_V} {lsr : Array Slot} {nL i : Nat} {v : mm_V} (h : mm_lr σ ls lsr nL) (hv : ls[i]? = some v) (h3 : v.1 < 3) : lsr[i]? = some (.val (mm_rl σ v)) := h.2.2.2 i v hv h3
theorem mm_kill_len (ls : List mm_V) (i : Nat) : (mm_kill ls i).length = ls.length := by
  unfold mm_kill
  split
  · rfl
  · split
    · split
      · rw [List.length_set]
      · rfl
    · rfl
theorem mm_kill_get {ls : List mm_V} {i j : Nat} {w : mm_V} (h : (mm_kill ls i)[j]? = some w) (h3 : w.1 < 3) : ls[j]? = some w ∧ ¬ (j + 1 = i ∧ w.1 = 1) := by
  unfold mm_kill at h
  split at h
  · exact ⟨h, fun q => by omega⟩
  · rename_i k
    split at h
    · rename_i v hv
      split at h
      · rename_i h1
        by_cases hj : j = k
        · subst hj
          rw [List.getElem?_set_self (List.getElem?_eq_some_iff.mp hv).1] at h
          cases h
          exact absurd h3 (by decide)
        · rw [List.getElem?_set_ne (Ne.symm hj)] at h
          exact ⟨h, fun q => hj (by omega)⟩
      · rename_i h1
        refine ⟨h, fun q => ?_⟩
        have : j = k := by omega
        subst this
        rw [hv] at h
        cases h
        exact h1 q.2
    · rename_i hv
      refine ⟨h, fun q => ?_⟩
      have : j = k := by omega
      subst this
      rw [hv] at h
      cases h
theorem mm_lr_set1 {σ : Nat → Nat} {ls : List mm_V} {lsr : Array Slot} {nL i : Nat} {v : mm_V} {w0 : Value} (hl : ls.length = nL) (hw0 : w0 = mm_rl σ v) (hi : i < ls.length) (h : lv_has lsr nL ((i, w0) :: (mm_lvl σ ls).filter (fun q => !(q.1 == i) && !(q.1 + 1 == i && q.2.category == 2)))) : mm_lr σ (mm_set1 ls i v) lsr nL := by
  refine ⟨h.1, h.2.1, by unfold mm_set1; rw [List.length_set, mm_kill_len]; exact hl, fun j w hj h3 => ?_⟩
  unfold mm_set1 at hj
  by_cases e : j = i
  · subst e
    rw [List.getElem?_set_self (by rw [mm_kill_len]; exact hi)] at hj
    cases hj
    rw [← hw0]
    exact h.2.2 (j, w0) List.mem_cons_self
  · rw [List.getElem?_set_ne (Ne.symm e)] at hj
    obtain ⟨h1, h2⟩ := mm_kill_get hj h3
    refine h.2.2 (j, mm_rl σ w) (List.mem_cons_of_mem _ (List.mem_filter.mpr ⟨mm_lvl_mem.mpr ⟨w, h1, h3, rfl⟩, ?_⟩))
    have a1 : (j == i) = false := by simpa using e
    rw [Bool.and_eq_true]
    refine ⟨by show (!(j == i)) = true; rw [a1]; rfl, ?_⟩
    show (!(j + 1 == i && (mm_rl σ w).category == 2)) = true
    by_cases e2 : j + 1 = i
    · have hc : ¬ w.1 = 1 := fun q => h2 ⟨e2, q⟩
      rw [mm_cat1 hc]
      simp
    · have : (j + 1 == i) = false := by simpa using e2
      rw [this]; rfl
theorem mm_lr_set2 {σ : Nat → Nat} {ls : List mm_V} {lsr : Array Slot} {nL i : Nat} {v : mm_V} {w0 : Value} (hl : ls.length = nL) (hw0 : w0 = mm_rl σ v) (hi : i < ls.length) (h : lv_has lsr nL ((i, w0) :: (mm_lvl σ ls).filter (fun q => !(q.1 == i) && (!(q.1 == i + 1) && !(q.1 + 1 == i && q.2.category == 2))))) : mm_lr σ (mm_set2 ls i v) lsr nL := by
  refine ⟨h.1, h.2.1, by unfold mm_set2; rw [List.length_set, List.length_set, mm_kill_len]; exact hl, fun j w hj h3 => ?_⟩
  unfold mm_set2 at hj
  by_cases e : j = i
  · subst e
    rw [List.getElem?_set_self (by rw [List.length_set, mm_kill_len]; exact hi)] at hj
    cases hj
    rw [← hw0]
    exact h.2.2 (j, w0) List.mem_cons_self
  · rw [List.getElem?_set_ne (Ne.symm e)] at hj
    by_cases e1 : j = i + 1
    · subst e1
      by_cases hb : i + 1 < ls.length
      · rw [List.getElem?_set_self (by rw [mm_kill_len]; exact hb)] at hj
        cases hj
        exact absurd h3 (by decide)
      · rw [List.getElem?_eq_none (by rw [List.length_set, mm_kill_len]; omega)] at hj
        cases hj
    · rw [List.getElem?_set_ne (Ne.symm e1)] at hj
      obtain ⟨h1, h2⟩ := mm_kill_get hj h3
      refine h.2.2 (j, mm_rl σ w) (List.mem_cons_of_mem _ (List.mem_filter.mpr ⟨mm_lvl_mem.mpr ⟨w, h1, h3, rfl⟩, ?_⟩))
      have a1 : (j == i) = false := by simpa using e
      have a2 : (j == i + 1) = false := by simpa using e1
      rw [Bool.and_eq_true, Bool.and_eq_true]
      refine ⟨by show (!(j == i)) = true; rw [a1]; rfl, by show (!(j == i + 1)) = true; rw [a2]; rfl, ?_⟩
      show (!(j + 1 == i && (mm_rl σ w).category == 2)) = true
      by_cases e2 : j + 1 = i
      · have hc : ¬ w.1 = 1 := fun q => h2 ⟨e2, q⟩
        rw [mm_cat1 hc]
        simp
      · have : (j + 1 == i) = false := by simpa using e2
        rw [this]; rfl
theorem mm_rl_ref_cases (σ : Nat → Nat) (x : Int) : mm_rl σ (2, x) = .null ∨ ∃ a, mm_rl σ (2, x) = .ref a := by
  by_cases h : x < 0
  · left
    unfold mm_rl
    rw [if_neg (show ¬ (2 : Nat) = 0 by decide), if_neg (show ¬ (2 : Nat) = 1 by decide), if_pos h]
  · exact Or.inr ⟨_, mm_rl_ref (by omega)⟩
section LOC
variable {p : Program} {l : Launch} {e : Env} {R : Room} {s : State} {m : MethodId} {args : Array Value} {below : List Frame} {meth : Method} {c : Code} {H : Heap} {locs : List Loc} {cells slots : Nat} {Q : State → Prop} {cc : ByteArray} {lsr : Array Slot} {σ : Nat → Nat} {nL : Nat}
theorem mm_ld_inv {nx : Nat} {ls st : List mm_V} {i t : Nat} {pc' : Nat} {ls' st' : List mm_V} (h : mm_ld nx ls st i t = some (pc', ls', st')) : ∃ x, ls[i]? = some (t, x) ∧ pc' = nx ∧ ls' = ls ∧ st' = (t, x) :: st := by
  unfold mm_ld at h
  split at h
  · rename_i v hv
    split at h
    · rename_i ht
      cases h
      obtain ⟨a, b⟩ := v
      cases ht
      exact ⟨b, hv, rfl, rfl, rfl⟩
    · cases h
  · cases h
theorem mm_sto_inv {nx : Nat} {ls st : List mm_V} {i t : Nat} {pc' : Nat} {ls' st' : List mm_V} (h : mm_sto nx ls st i t = some (pc', ls', st')) : ∃ x, st = (t, x) :: st' ∧ pc' = nx ∧ ((t = 1 ∧ i + 1 < ls.length ∧ ls' = mm_set2 ls i (t, x)) ∨ (¬ t = 1 ∧ i < ls.length ∧ ls' = mm_set1 ls i (t, x))) := by
  unfold mm_sto at h
  split at h
  · rename_i v r
    split at h
    · rename_i ht
      obtain ⟨a, b⟩ := v
      cases ht
      split at h
      · rename_i h1
        split at h
        · rename_i h2
          cases h
          exact ⟨b, rfl, rfl, Or.inl ⟨h1, h2, rfl⟩⟩
        · cases h
      · rename_i h1
        split at h
        · rename_i h2
          cases h
          exact ⟨b, rfl, rfl, Or.inr ⟨h1, h2, rfl⟩⟩
        · cases h
    · cases h
  · cases h
theorem mm_lo_sound (hx : p.tables.exec = Jvm.exec) (hb : c.code = cc) {pc len : Nat} {i : Instr} {ls st ls' st' : List mm_V} {pc' : Nat} (hd : decode cc pc = .ok (i, len)) (hlen : mm_il i = 0 ∨ len = mm_il i) (ho : mm_lo i (pc + len) ls st = some (pc', ls', st')) (hl : mm_lr σ ls lsr nL) (kk : ∀ lsr' : Array Slot, mm_lr σ ls' lsr' nL → W p l e R s m args below meth c H locs cells slots Q (F0 m pc' lsr' (st'.map (mm_rl σ)))) : W p l e R s m args below meth c H locs cells slots Q (F0 m pc lsr (st.map (mm_rl σ))) := by
  have len1 : mm_il i ≠ 0 → len = mm_il i := fun h => hlen.resolve_left h
  have ref0 : ∀ (j : Nat) (x : Int), ls[j]? = some (2, x) → ¬ x < 0 → lsr[j]? = some (.val (.ref (σ x.toNat))) := fun j x h1 h2 => by rw [← mm_rl_ref (σ := σ) (by omega)]; exact mm_lr_get hl h1 (by simp)
  have nul0 : ∀ x : Int, x < 0 → mm_rl σ (2, x) = .null := fun x hn => by unfold mm_rl; rw [if_neg (show ¬ (2 : Nat) = 0 by decide), if_neg (show ¬ (2 : Nat) = 1 by decide), if_pos hn]
  cases i
  case iload j =>
    obtain rfl := len1 (by intro q; cases q)
    obtain ⟨x, h1, rfl, rfl, rfl⟩ := mm_ld_inv ho
    exact lv_iload hx hb hd (mm_lr_get hl h1 (by simp)) (kk lsr hl)
  case iload_n j =>
    obtain rfl := len1 (by intro q; cases q)
    obtain ⟨x, h1, rfl, rfl, rfl⟩ := mm_ld_inv ho
    exact lv_iload_n hx hb hd rfl (mm_lr_get hl h1 (by simp)) (kk lsr hl)
  case lload j =>
    obtain rfl := len1 (by intro q; cases q)
    obtain ⟨x, h1, rfl, rfl, rfl⟩ := mm_ld_inv ho
    exact lv_lload hx hb hd (mm_lr_get hl h1 (by simp)) (kk lsr hl)
  case lload_n j =>
    obtain rfl := len1 (by intro q; cases q)
    obtain ⟨x, h1, rfl, rfl, rfl⟩ := mm_ld_inv ho
    exact lv_lload_n hx hb hd rfl (mm_lr_get hl h1 (by simp)) (kk lsr hl)
  case aload j =>
    obtain rfl := len1 (by intro q; cases q)
    obtain ⟨x, h1, rfl, rfl, rfl⟩ := mm_ld_inv ho
    have k1 := kk lsr hl
    by_cases hn : x < 0
    · rw [List.map_cons, nul0 x hn] at k1
      exact lv_aloadN hx hb hd (by rw [← nul0 x hn]; exact mm_lr_get hl h1 (by simp)) k1
    · rw [List.map_cons, mm_rl_ref (by omega)] at k1
      exact lv_aload hx hb hd (ref0 j x h1 hn) k1
  case aload_n j =>
    obtain rfl := len1 (by intro q; cases q)
    obtain ⟨x, h1, rfl, rfl, rfl⟩ := mm_ld_inv ho
    have k1 := kk lsr hl
    by_cases hn : x < 0
    · rw [List.map_cons, nul0 x hn] at k1
      exact lv_aload_nN hx hb hd rfl (by rw [← nul0 x hn]; exact mm_lr_get hl h1 (by simp)) k1
    · rw [List.map_cons, mm_rl_ref (by omega)] at k1
      exact lv_aload_n hx hb hd rfl (ref0 j x h1 hn) k1
  case istore j =>
    obtain rfl := len1 (by intro q; cases q)
    obtain ⟨x, rfl, rfl, h | ⟨-, h1, rfl⟩⟩ := mm_sto_inv ho
    · exact absurd h.1 (by decide)
    · exact lv_istore (x := Int32.ofInt x) hx hb hd (mm_lr_has hl) (by rw [← hl.2.2.1]; exact h1) rfl (fun ls2 h2 => kk ls2 (mm_lr_set1 hl.2.2.1 rfl h1 h2))
  case istore_n j =>
    obtain rfl := len1 (by intro q; cases q)
    obtain ⟨x, rfl, rfl, h | ⟨-, h1, rfl⟩⟩ := mm_sto_inv ho
    · exact absurd h.1 (by decide)
    · exact lv_istore_n (x := Int32.ofInt x) hx hb hd rfl (mm_lr_has hl) (by rw [← hl.2.2.1]; exact h1) rfl (fun ls2 h2 => kk ls2 (mm_lr_set1 hl.2.2.1 rfl h1 h2))
  case lstore j =>
    obtain rfl := len1 (by intro q; cases q)
    obtain ⟨x, rfl, rfl, ⟨-, h1, rfl⟩ | h⟩ := mm_sto_inv ho
    · exact lv_lstore (x := Int64.ofInt x) hx hb hd (mm_lr_has hl) (by rw [← hl.2.2.1]; exact h1) rfl (fun ls2 h2 => kk ls2 (mm_lr_set2 hl.2.2.1 rfl (by omega) h2))
    · exact absurd rfl h.1
  case lstore_n j =>
    obtain rfl := len1 (by intro q; cases q)
    obtain ⟨x, rfl, rfl, ⟨-, h1, rfl⟩ | h⟩ := mm_sto_inv ho
    · exact lv_lstore_n (x := Int64.ofInt x) hx hb hd rfl (mm_lr_has hl) (by rw [← hl.2.2.1]; exact h1) rfl (fun ls2 h2 => kk ls2 (mm_lr_set2 hl.2.2.1 rfl (by omega) h2))
    · exact absurd rfl h.1
  case astore j =>
    obtain rfl := len1 (by intro q; cases q)
    obtain ⟨x, rfl, rfl, h | ⟨-, h1, rfl⟩⟩ := mm_sto_inv ho
    · exact absurd h.1 (by decide)
    · rw [List.map_cons]
      by_cases hn : x < 0
      · rw [nul0 x hn]
        exact lv_astoreN hx hb hd (mm_lr_has hl) (by rw [← hl.2.2.1]; exact h1) rfl (fun ls2 h2 => kk ls2 (mm_lr_set1 hl.2.2.1 (nul0 x hn).symm h1 h2))
      · rw [mm_rl_ref (by omega)]
        exact lv_astore hx hb hd (mm_lr_has hl) (by rw [← hl.2.2.1]; exact h1) rfl (fun ls2 h2 => kk ls2 (mm_lr_set1 hl.2.2.1 (mm_rl_ref (by omega)).symm h1 h2))
  case astore_n j =>
    obtain rfl := len1 (by intro q; cases q)
    obtain ⟨x, rfl, rfl, h | ⟨-, h1, rfl⟩⟩ := mm_sto_inv ho
    · exact absurd h.1 (by decide)
    · rw [List.map_cons]
      by_cases hn : x < 0
      · rw [nul0 x hn]
        exact lv_astore_nN hx hb hd rfl (mm_lr_has hl) (by rw [← hl.2.2.1]; exact h1) rfl (fun ls2 h2 => kk ls2 (mm_lr_set1 hl.2.2.1 (nul0 x hn).symm h1 h2))
      · rw [mm_rl_ref (by omega)]
        exact lv_astore_n hx hb hd rfl (mm_lr_has hl) (by rw [← hl.2.2.1]; exact h1) rfl (fun ls2 h2 => kk ls2 (mm_lr_set1 hl.2.2.1 (mm_rl_ref (by omega)).symm h1 h2))
  case iinc j n =>
    obtain rfl := len1 (by intro q; cases q)
    replace ho : (match ls[j]? with
      | some (0, x) => some (pc + 3, mm_set1 ls j (0, mm_w32 (x + n)), st)
      | _ => none) = some (pc', ls', st') := ho
    split at ho
    · rename_i x h1
      cases ho
      have hi : j < ls.length := (List.getElem?_eq_some_iff.mp h1).1
      obtain ⟨k, hk⟩ := List.getElem?_of_mem (mm_lvl_mem (σ := σ) (ls := ls) (q := (j, mm_rl σ (0, x))).mpr ⟨_, h1, by simp, rfl⟩)
      exact lv_iinc (x := Int32.ofInt x) (v := Int32.ofInt (mm_w32 (x + n))) hx hb hd (mm_lr_has hl) hk (by rw [mm_w32_of, Int32.ofInt_add]) (by rw [← hl.2.2.1]; exact hi) rfl (fun ls2 h2 => kk ls2 (mm_lr_set1 hl.2.2.1 rfl hi h2))
    · cases ho
  all_goals (exact absurd ho (by intro q; cases q))
end LOC
theorem mm_lo_ir {i : Instr} {nx : Nat} {ls st ls' st' : List mm_V} {pc' : Nat} (ho : mm_lo i nx ls st = some (pc', ls', st')) (hls : ∀ v ∈ ls, mm_ir v) (hst : ∀ v ∈ st, mm_ir v) : (∀ v ∈ ls', mm_ir v) ∧ ∀ v ∈ st', mm_ir v := by
  have h9 : mm_ir (9, 0) := ⟨fun q => (by cases q), fun q => (by cases q)⟩
  have hset : ∀ (l : List mm_V) (k : Nat) (w : mm_V), (∀ v ∈ l, mm_ir v) → mm_ir w → ∀ v ∈ l.set k w, mm_ir v := fun l k w h1 h2 v hv => by
    rcases List.mem_or_eq_of_mem_set hv with h | h
    · exact h1 v h
    · rw [h]; exact h2
  have hkill : ∀ (l : List mm_V) (k : Nat), (∀ v ∈ l, mm_ir v) → ∀ v ∈ mm_kill l k, mm_ir v := fun l k h1 => by
    unfold mm_kill
    split
    · exact h1
    · split
      · split
        · exact hset _ _ _ h1 h9
        · exact h1
      · exact h1
  have hs1 : ∀ (k : Nat) (w : mm_V), mm_ir w → ∀ v ∈ mm_set1 ls k w, mm_ir v := fun k w hw => hset _ _ _ (hkill _ _ hls) hw
  have hs2 : ∀ (k : Nat) (w : mm_V), mm_ir w → ∀ v ∈ mm_set2 ls k w, mm_ir v := fun k w hw => hset _ _ _ (hset _ _ _ (hkill _ _ hls) h9) hw
  have hl : ∀ {j t : Nat}, mm_ld nx ls st j t = some (pc', ls', st') → (∀ v ∈ ls', mm_ir v) ∧ ∀ v ∈ st', mm_ir v := fun h => by
    obtain ⟨x, h1, -, rfl, rfl⟩ := mm_ld_inv h
    exact ⟨hls, fun v hv => by rcases List.mem_cons.mp hv with rfl | hv; exact hls _ (List.mem_of_getElem? h1); exact hst v hv⟩
  have hs : ∀ {j t : Nat}, mm_sto nx ls st j t = some (pc', ls', st') → (∀ v ∈ ls', mm_ir v) ∧ ∀ v ∈ st', mm_ir v := fun h => by
    obtain ⟨x, rfl, -, ⟨-, -, rfl⟩ | ⟨-, -, rfl⟩⟩ := mm_sto_inv h
    · exact ⟨hs2 _ _ (hst _ List.mem_cons_self), fun v hv => hst v (List.mem_cons_of_mem _ hv)⟩
    · exact ⟨hs1 _ _ (hst _ List.mem_cons_self), fun v hv => hst v (List.mem_cons_of_mem _ hv)⟩
  cases i
  case iload j => exact hl ho
  case iload_n j => exact hl ho
  case lload j => exact hl ho
  case lload_n j => exact hl ho
  case aload j => exact hl ho
  case aload_n j => exact hl ho
  case istore j => exact hs ho
  case istore_n j => exact hs ho
  case lstore j => exact hs ho
  case lstore_n j => exact hs ho
  case astore j => exact hs ho
  case astore_n j => exact hs ho
  case iinc j n =>
    replace ho : (match ls[j]? with
      | some (0, x) => some (nx, mm_set1 ls j (0, mm_w32 (x + n)), st)
      | _ => none) = some (pc', ls', st') := ho
    split at ho
    · cases ho
      exact ⟨hs1 _ _ ⟨fun _ => mm_w32_r _, fun q => (by cases q)⟩, hst⟩
    · cases ho
  all_goals (exact absurd ho (by intro q; cases q))
