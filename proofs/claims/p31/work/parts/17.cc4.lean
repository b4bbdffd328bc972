theorem cc_lo_lt {N : Nat} {i : Instr} {nx : Nat} {ls st ls' st' : List mm_V} {pc' : Nat} (ho : mm_lo i nx ls st = some (pc', ls', st')) (hls : ∀ v ∈ ls, v.1 < 3 → cc_lt N v) (hst : ∀ v ∈ st, cc_lt N v) : (∀ v ∈ ls', v.1 < 3 → cc_lt N v) ∧ ∀ v ∈ st', cc_lt N v := by
  have h9 : ((9, 0) : mm_V).1 < 3 → cc_lt N (9, 0) := fun q => absurd q (by decide)
  have hset : ∀ (l : List mm_V) (k : Nat) (w : mm_V), (∀ v ∈ l, v.1 < 3 → cc_lt N v) → (w.1 < 3 → cc_lt N w) → ∀ v ∈ l.set k w, v.1 < 3 → cc_lt N v := fun l k w h1 h2 v hv => by
    rcases List.mem_or_eq_of_mem_set hv with h | h
    · exact h1 v h
    · rw [h]; exact h2
  have hkill : ∀ (l : List mm_V) (k : Nat), (∀ v ∈ l, v.1 < 3 → cc_lt N v) → ∀ v ∈ mm_kill l k, v.1 < 3 → cc_lt N v := fun l k h1 => by
    unfold mm_kill
    split
    · exact h1
    · split
      · split
        · exact hset _ _ _ h1 h9
        · exact h1
      · exact h1
  have hs1 : ∀ (k : Nat) (w : mm_V), cc_lt N w → ∀ v ∈ mm_set1 ls k w, v.1 < 3 → cc_lt N v := fun k w hw => hset _ _ _ (hkill _ _ hls) (fun _ => hw)
  have hs2 : ∀ (k : Nat) (w : mm_V), cc_lt N w → ∀ v ∈ mm_set2 ls k w, v.1 < 3 → cc_lt N v := fun k w hw => hset _ _ _ (hset _ _ _ (hkill _ _ hls) h9) (fun _ => hw)
  have hl : ∀ {j t : Nat}, t < 3 → mm_ld nx ls st j t = some (pc', ls', st') → (∀ v ∈ ls', v.1 < 3 → cc_lt N v) ∧ ∀ v ∈ st', cc_lt N v := fun ht h => by
    obtain ⟨x, h1, -, rfl, rfl⟩ := mm_ld_inv h
    exact ⟨hls, fun v hv => by rcases List.mem_cons.mp hv with rfl | hv; exact hls _ (List.mem_of_getElem? h1) ht; exact hst v hv⟩
  have hs : ∀ {j t : Nat}, mm_sto nx ls st j t = some (pc', ls', st') → (∀ v ∈ ls', v.1 < 3 → cc_lt N v) ∧ ∀ v ∈ st', cc_lt N v := fun h => by
    obtain ⟨x, rfl, -, ⟨-, -, rfl⟩ | ⟨-, -, rfl⟩⟩ := mm_sto_inv h
    · exact ⟨hs2 _ _ (hst _ List.mem_cons_self), fun v hv => hst v (List.mem_cons_of_mem _ hv)⟩
    · exact ⟨hs1 _ _ (hst _ List.mem_cons_self), fun v hv => hst v (List.mem_cons_of_mem _ hv)⟩
  cases i
  case iload j => exact hl (by decide) ho
  case iload_n j => exact hl (by decide) ho
  case lload j => exact hl (by decide) ho
  case lload_n j => exact hl (by decide) ho
  case aload j => exact hl (by decide) ho
  case aload_n j => exact hl (by decide) ho
  case istore j => exact hs ho
  case istore_n j => exact hs ho
  case lstore j => exact hs ho
  case lstore_n j => exact hs ho
  case astore j => exact hs ho
  case astore_n j => exact hs ho
  case iinc j n =>
    replace ho : (match ls[j]? with
      | some (0, x) => some (nx, mm_set1 ls j (0, mm_w32 (x + n)), st)
      | _ => none) = some (pc', ls', st') := ho
    split at ho
    · cases ho
      exact ⟨hs1 _ _ (fun q => absurd q (by simp)), hst⟩
    · cases ho
  all_goals (exact absurd ho (by intro q; cases q))
theorem cc_ent_lt {N n : Nat} {as : List mm_V} (h : ∀ v ∈ as, cc_lt N v) : ∀ v ∈ mm_ent n as, v.1 < 3 → cc_lt N v := by
  have h9 : ((9, 0) : mm_V).1 < 3 → cc_lt N (9, 0) := fun q => absurd q (by decide)
  have key : ∀ as : List mm_V, (∀ v ∈ as, cc_lt N v) → ∀ v ∈ mm_args as, v.1 < 3 → cc_lt N v := by
    intro as
    induction as with
    | nil => intro _ v hv; cases hv
    | cons a r ih =>
      intro h v hv
      unfold mm_args at hv
      split at hv
      · rcases List.mem_cons.mp hv with rfl | hv
        · exact fun _ => h _ List.mem_cons_self
        · rcases List.mem_cons.mp hv with rfl | hv
          · exact h9
          · exact ih (fun w hw => h w (List.mem_cons_of_mem _ hw)) v hv
      · rcases List.mem_cons.mp hv with rfl | hv
        · exact fun _ => h _ List.mem_cons_self
        · exact ih (fun w hw => h w (List.mem_cons_of_mem _ hw)) v hv
  intro v hv
  unfold mm_ent at hv
  rcases List.mem_append.mp hv with hv | hv
  · exact key as h v hv
  · rw [(List.mem_replicate.mp hv).2]; exact h9
theorem cc_ret_j {k : Nat → List mm_V → List mm_V → List cc_C → Option (List mm_V × List cc_C)} {ck : Nat → List mm_V → List cc_C → Option (List mm_V × List cc_C)} {e : mm_E} {ls st : List mm_V} {cs : List cc_C} {r : List mm_V × List cc_C} (h : cc_j k ck e ls st cs = some r) :
    (∃ pc st' cs', cc_op e.1 e.2.1 (e.1 + e.2.2.1) e.2.2.2.1 e.2.2.2.2.1 st cs = some (pc, st', cs') ∧ k pc ls st' cs' = some r) ∨
    (∃ pc ls' st', mm_lo e.2.1 (e.1 + e.2.2.1) ls st = some (pc, ls', st') ∧ k pc ls' st' cs = some r) ∨
    (e.2.1 = .return_ ∧ st = [] ∧ r = (ls, cs)) ∨
    (∃ idx a l2 cs', e.2.1 = .invokespecial idx ∧ e.2.2.2.1 = 997 ∧ e.2.2.2.2.2.toNat < st.length ∧ mm_cs (st.drop (e.2.2.2.2.2.toNat + 1)) ≤ 8 ∧ st[e.2.2.2.2.2.toNat]? = some (2, a) ∧ 0 ≤ a ∧ a < (cs.length : Int) ∧ ck e.2.2.2.2.1 (st.take (e.2.2.2.2.2.toNat + 1)).reverse cs = some (l2, cs') ∧ k (e.1 + e.2.2.1) ls (st.drop (e.2.2.2.2.2.toNat + 1)) cs' = some r) := by
  unfold cc_j at h
  split at h
  · rename_i pc st' cs' h1
    exact Or.inl ⟨pc, st', cs', h1, h⟩
  · split at h
    · rename_i pc ls' st' h2
      exact Or.inr (Or.inl ⟨pc, ls', st', h2, h⟩)
    · split at h
      · rename_i h3
        split at h
        · cases h
          exact Or.inr (Or.inr (Or.inl ⟨h3, rfl, rfl⟩))
        · cases h
      · rename_i idx h3
        split at h
        · rename_i hg
          split at h
          · rename_i a h4
            split at h
            · rename_i ha
              split at h
              · rename_i l2 cs' h5
                exact Or.inr (Or.inr (Or.inr ⟨idx, a, l2, cs', h3, hg.1, hg.2.1, hg.2.2, h4, ha.1, ha.2, h5, h⟩))
              · cases h
            · cases h
          · cases h
        · cases h
      · cases h
theorem cc_ex_keep : ∀ (n stop : Nat) (cd : List mm_E) (pc : Nat) (ls st : List mm_V) (cs : List cc_C) (ls' : List mm_V) (cs' : List cc_C), cc_ex cc_T stop n cd pc ls st cs = some (ls', cs') → (∀ v ∈ ls, v.1 < 3 → cc_lt cs.length v) → (∀ v ∈ st, cc_lt cs.length v) → cc_oks cs → cs.length ≤ cs'.length ∧ cc_sz cs ≤ cc_sz cs' ∧ cc_oks cs'
  | 0, _, _, _, _, _, _, _, _, h, _, _, _ => by cases h
  | n + 1, stop, cd, pc, ls, st, cs, ls', cs', h, hls, hst, hcs => by
    unfold cc_ex at h
    split at h
    · split at h
      · cases h; exact ⟨Nat.le_refl _, Nat.le_refl _, hcs⟩
      · cases h
    · split at h
      · rename_i x hf
        rcases cc_ret_j h with ⟨pc1, st1, cs1, h1, h2⟩ | ⟨pc1, ls1, st1, h1, h2⟩ | ⟨-, -, h2⟩ | ⟨idx, a, l2, cs1, -, -, hlt, -, h4, -, -, h5, h6⟩
        · obtain ⟨a1, a2, a3, a4⟩ := cc_op_keep h1 hst hcs
          obtain ⟨b1, b2, b3⟩ := cc_ex_keep n stop cd pc1 ls st1 cs1 ls' cs' h2 (fun v hv h3 => cc_lt_mono a1 (hls v hv h3)) a4 a3
          exact ⟨by omega, by omega, b3⟩
        · obtain ⟨a1, a2⟩ := cc_lo_lt h1 hls hst
          exact cc_ex_keep n stop cd pc1 ls1 st1 cs ls' cs' h2 a1 a2 hcs
        · cases h2; exact ⟨Nat.le_refl _, Nat.le_refl _, hcs⟩
        · split at h5
          · obtain ⟨a1, a2, a3⟩ := cc_ex_keep n 9999 _ 0 _ [] cs l2 cs1 h5 (cc_ent_lt (fun v hv => hst v (List.mem_of_mem_take (List.mem_reverse.mp hv)))) (fun v hv => by cases hv) hcs
            obtain ⟨b1, b2, b3⟩ := cc_ex_keep n stop cd _ ls _ cs1 ls' cs' h6 (fun v hv h3 => cc_lt_mono a1 (hls v hv h3)) (fun v hv => cc_lt_mono a1 (hst v (List.mem_of_mem_drop hv))) a3
            exact ⟨by omega, by omega, b3⟩
          · cases h5
      · cases h
def cc_wso (ci : Nat) : List Cond := cc_cw (cc_hd ci) :: wA
def cc_rm (ci mc ms : Nat) : Room := { frames := (cc_hd ci).2.2.2.1, cells := mc, slots := ms, locals := (cc_hd ci).2.2.2.2.1 }
def cc_Wd (σ : Nat → Nat) (P : Nat → ClassId) (dC : Nat → ClassId) (dI : Nat → Nat → Nat) (B0 : Nat) (cs : List cc_C) (U : State) : Prop := va_P (dC, dI) mm_cl (cc_w σ P cs) U.heap ∧ va_D (fun q => B0 ≤ q) (cc_w σ P cs) ∧ va_K (dC, dI) mm_cl (mm_tys P) U ∧ va_AO "PagesByLevels$Complex" U ∧ va_AO "PagesByLevels$Sheet" U ∧ B0 ≤ U.heap.size
def cc_Qc (σ : Nat → Nat) (P : Nat → ClassId) (dC : Nat → ClassId) (dI : Nat → Nat → Nat) (B0 N : Nat) (cs' : List cc_C) : Array Value → State → Outcome → State → Prop := fun _ st oc t => (oc = .returned none ∧ ∃ σ', cc_ag N σ σ' ∧ va_P (dC, dI) mm_cl (cc_w σ' P cs') t.heap ∧ va_D (fun q => B0 ≤ q) (cc_w σ' P cs')) ∧ va_F (fun q => B0 ≤ q) st t
def cc_Mt (l : Launch) (P : Nat → ClassId) (dC : Nat → ClassId) (dI : Nat → Nat → Nat) (B0 n : Nat) : Prop := ∀ (ci : Nat) (as : List mm_V) (cs : List cc_C) (ls' : List mm_V) (cs' : List cc_C) (σ : Nat → Nat), ci < 9 → cc_ex cc_T 9999 n (cc_T ci).1 0 (mm_ent (cc_T ci).2 as) [] cs = some (ls', cs') → (mm_args as).length ≤ (cc_T ci).2 → (∀ v ∈ as, cc_lt cs.length v) → cc_oks cs →
  Met l (cc_hd ci).1 (cc_wso ci) (cc_rm ci (cs'.length - cs.length) (cc_sz cs' - cc_sz cs)) (va_Pc (as.map (mm_rl σ)) (cc_Wd σ P dC dI B0 cs)) (cc_Qc σ P dC dI B0 cs.length cs') (cs'.length - cs.length) (cc_sz cs' - cc_sz cs) (fun q => B0 ≤ q)
theorem cc_wso_good {ci : Nat} (h : ci < 9) : GoodIn wA (cc_wso ci) := by
  intro w hw
  have hm : w ∈ wA := by
    rcases List.mem_cons.mp hw with rfl | h1
    · exact cc_cw_ok ci h
    · exact h1
  exact ⟨hm, good_of_word (wA_good w hm)⟩
theorem cc_lr_ag {N : Nat} {σ σ' : Nat → Nat} {ls : List mm_V} {lsr : Array Slot} {nL : Nat} (h : cc_ag N σ σ') (hls : ∀ v ∈ ls, v.1 < 3 → cc_lt N v) (hl : mm_lr σ ls lsr nL) : mm_lr σ' ls lsr nL := ⟨hl.1, hl.2.1, hl.2.2.1, fun i v hv h3 => by rw [cc_ag_rl h (hls v (List.mem_of_getElem? hv) h3)]; exact hl.2.2.2 i v hv h3⟩
section CC4
variable {p : Program} {l : Launch} {e : Env} {R : Room} {s : State} {m : MethodId} {args : Array Value} {below : List Frame} {meth : Method} {c : Code} {H0 : Heap} {Q : State → Prop} {cc : ByteArray} {P : Nat → ClassId} {dC : Nat → ClassId} {dI : Nat → Nat → Nat} {B0 own N0 Z0 : Nat}
theorem cc_callx {H : Heap} {locs : List Loc} {cells slots mc ms : Nat} {lsr : Array Slot} {σ : Nat → Nat} {N : Nat} {cs' : List cc_C} {pc : Nat} {rest st0 : List Value} {a : Array Value} (hr : va_Run p l e R s m args below meth c H locs cells slots mc ms (F0 m pc lsr st0) rest (cc_Qc σ P dC dI B0 N cs' a) (fun q => B0 ≤ q)) (hS : va_S (fun q => B0 ≤ q) H0 H locs)
    (kk : ∀ (σ' : Nat → Nat) (H1 : Heap) (locs1 : List Loc), cc_ag N σ σ' → va_P (dC, dI) mm_cl (cc_w σ' P cs') H1 → va_D (fun q => B0 ≤ q) (cc_w σ' P cs') → va_S (fun q => B0 ≤ q) H0 H1 locs1 → W p l e R s m args below meth c H1 locs1 (cells + mc) (slots + ms) Q (F0 m (pc + 3) lsr rest)) : W p l e R s m args below meth c H locs cells slots Q (F0 m pc lsr st0) := by
  intro T hT X
  obtain ⟨w, st₀, t, T', L, h0, X', hL, e1, e2, ⟨⟨hv, σ', hag, hb, hd⟩, hz, hk⟩, st⟩ := hr T hT X
  cases hv
  rw [h0] at hz hk
  obtain ⟨t2, a1, b1⟩ := kk σ' T'.heap (locs ++ L) hag (by rw [e1]; exact hb) hd
    ⟨Nat.le_trans hS.1 (by rw [e1]; exact hz), fun q h1 h2 => by rw [e1, hk q (Nat.lt_of_lt_of_le h1 hS.1) h2]; exact hS.2.1 q h1 h2, fun q hq => by
      rcases List.mem_append.mp hq with h | h
      · exact hS.2.2 q h
      · exact hL q h⟩ T' rfl X'
  exact ⟨t2, st t2 a1, b1⟩
theorem cc_frame {nL fr lo stop : Nat} {cd : List mm_E} (C : cc_Cx p s m args own P dC dI) (hb : c.code = cc) (hml : c.maxLocals = nL) (hinit : own ≠ 13 → meth.name = "<init>") (h13 : own = 13 → ∀ x ∈ cd, ∀ idx, x.2.1 ≠ .putfield idx) (hcd : ∀ x ∈ cd, cc_eok own fr lo cc x = true) (hR : fr ≤ R.frames ∧ lo ≤ R.locals) (hB : B0 ≤ H0.size) (ls' : List mm_V) (cs' : List cc_C) (hroom : cs'.length - N0 ≤ R.cells ∧ cc_sz cs' - Z0 ≤ R.slots) (N00 : Nat) (σ00 : Nat → Nat)
    (HR : ∀ (σ : Nat → Nat) (pcE : Nat) (lsr : Array Slot) (H1 : Heap) (locs1 : List Loc), ((pcE = stop ∧ stop < 9999) ∨ ∃ x ∈ cd, x.1 = pcE ∧ x.2.1 = .return_) → cc_ag N00 σ00 σ → mm_lr σ ls' lsr nL → va_P (dC, dI) mm_cl (cc_w σ P cs') H1 → va_D (fun q => B0 ≤ q) (cc_w σ P cs') → va_S (fun q => B0 ≤ q) H0 H1 locs1 → W p l e R s m args below meth c H1 locs1 (cs'.length - N0) (cc_sz cs' - Z0) Q (F0 m pcE lsr [])) :
    ∀ (n : Nat), (∀ k, k < n → cc_Mt l P dC dI B0 k) → ∀ (pc : Nat) (ls st : List mm_V) (cs : List cc_C) (σ : Nat → Nat) (lsr : Array Slot) (H : Heap) (locs : List Loc), cc_ex cc_T stop n cd pc ls st cs = some (ls', cs') → mm_lr σ ls lsr nL → (∀ v ∈ ls, v.1 < 3 → cc_lt cs.length v) → (∀ v ∈ st, cc_lt cs.length v) → cc_oks cs → N0 ≤ cs.length → Z0 ≤ cc_sz cs → N00 ≤ cs.length → cc_ag N00 σ00 σ → va_P (dC, dI) mm_cl (cc_w σ P cs) H → va_D (fun q => B0 ≤ q) (cc_w σ P cs) → va_S (fun q => B0 ≤ q) H0 H locs → W p l e R s m args below meth c H locs (cs.length - N0) (cc_sz cs - Z0) Q (F0 m pc lsr (st.map (mm_rl σ))) := by
  intro n
  induction n with
  | zero => intro _ pc ls st cs σ lsr H locs h; cases h
  | succ n ih =>
    intro hM pc ls st cs σ lsr H locs h hl hls hst hcs hN hZ hN00 hag hP hD hS
    have ih' := ih (fun k hk => hM k (by omega))
    have hkeep := cc_ex_keep _ _ _ _ _ _ _ _ _ h hls hst hcs
    unfold cc_ex at h
    split at h
    · rename_i hstop
      split at h
      · cases h
        exact HR σ pc lsr H locs (Or.inl hstop) hag hl hP hD hS
      · cases h
    · split at h
      · rename_i x hf
        obtain ⟨hm, hpc⟩ := mm_find_mem hf
        have hek := hcd x hm
        unfold cc_eok at hek
        rw [Bool.and_eq_true, Bool.and_eq_true] at hek
        have hd := of_decide_eq_true hek.1
        have hlen := of_decide_eq_true hek.2.1
        have hok := hek.2.2
        subst hpc
        rcases cc_ret_j h with ⟨pc1, st1, cs1, h1, h2⟩ | ⟨pc1, ls1, st1, h1, h2⟩ | ⟨hret, hst0, h2⟩ | ⟨idx, a, l2, cs1, hi, h997, hlt, hcs8, h4, ha0, ha1, h5, h6⟩
        · obtain ⟨a1, a2, a3, a4⟩ := cc_op_keep h1 hst hcs
          have hk2 := cc_ex_keep _ _ _ _ _ _ _ _ _ h2 (fun v hv h3 => cc_lt_mono a1 (hls v hv h3)) a4 a3
          refine cc_op_sound (r3 := x.2.2.2.2.2) C hb (by rw [hml, hl.1]) hinit (fun idx hi h => h13 h x hm idx hi) hR hd hlen hok h1 hst hcs hN hZ (fun q hq => by omega) ⟨by omega, by omega⟩ hP hD hS (fun σ' H1 locs1 b0 b1 b2 b3 => ?_)
          exact ih' pc1 ls st1 cs1 σ' lsr H1 locs1 h2 (cc_lr_ag b0 hls hl) (fun v hv h3 => cc_lt_mono a1 (hls v hv h3)) a4 a3 (by omega) (by omega) (by omega) (fun q hq => by rw [b0 q (by omega)]; exact hag q hq) b1 b2 b3
        · obtain ⟨a1, a2⟩ := cc_lo_lt h1 hls hst
          have hlen2 : mm_il x.2.1 = 0 ∨ x.2.2.1 = mm_il x.2.1 := by
            right
            rw [hlen]
            obtain ⟨_, i, _⟩ := x
            cases i <;> first | rfl | exact absurd h1 (by intro q; cases q)
          exact mm_lo_sound C.1 hb hd hlen2 h1 hl (fun lsr' hl' => ih' pc1 ls1 st1 cs σ lsr' H locs h2 hl' a1 a2 hcs hN hZ hN00 hag hP hD hS)
        · cases h2
          rw [hst0]
          exact HR σ x.1 lsr H locs (Or.inr ⟨x, hm, rfl, hret⟩) hag hl hP hD hS
        · split at h5
          · rename_i hal
            have hasl : ∀ v ∈ (st.take (x.2.2.2.2.2.toNat + 1)).reverse, cc_lt cs.length v := fun v hv => hst v (List.mem_of_mem_take (List.mem_reverse.mp hv))
            obtain ⟨a1, a2, a3⟩ := cc_ex_keep _ _ _ _ _ _ _ _ _ h5 (cc_ent_lt hasl) (fun v hv => by cases hv) hcs
            have hk2 := cc_ex_keep _ _ _ _ _ _ _ _ _ h6 (fun v hv h3 => cc_lt_mono a1 (hls v hv h3)) (fun v hv => cc_lt_mono a1 (hst v (List.mem_of_mem_drop hv))) a3
            obtain ⟨hx, hown, hts, hK, hAO1, hAO2⟩ := C
            obtain ⟨pc0, i0, len, r1, r2, r3⟩ := x
            dsimp only at hi h997 hlt hcs8 h4 h5 h6 hd hlen hok hal hasl hk2 ⊢
            subst hi
            subst hlen
            have hok2 : (if r1 = 998 then cc_lo.any (fun q => decide (q.1 = own ∧ q.2.1 = idx)) && decide (1 ≤ fr ∧ 20 ≤ lo) else cc_lk.any (fun q => decide (q.1 = own ∧ q.2.1 = idx ∧ q.2.2.1 = r2)) && decide (r3 = ((cc_hd r2).2.2.2.2.2 : Int) ∧ (cc_hd r2).2.2.2.1 + 1 ≤ fr ∧ 8 + ((cc_hd r2).2.2.1 + 11) + (cc_hd r2).2.2.2.2.1 ≤ lo)) = true := hok
            rw [if_neg (by omega), Bool.and_eq_true] at hok2
            obtain ⟨q, hq, hqq⟩ := List.any_eq_true.mp hok2.1
            have hqq := of_decide_eq_true hqq
            obtain ⟨w1, hci⟩ := cc_lk_ok q hq
            rw [hqq.1, hqq.2.1, hqq.2.2] at w1
            rw [hqq.2.2] at hci
            obtain ⟨hr3, hfr, hlo⟩ := of_decide_eq_true hok2.2
            obtain ⟨g1, g2, g3, g4, g5, g6, g7⟩ := cc_hd_ok r2 hci
            have hMet := hM n (by omega) r2 _ cs l2 cs1 σ hci h5 hal hasl hcs
            have hr3n : r3.toNat = (cc_hd r2).2.2.2.2.2 := by omega
            -- the stack: arguments, the receiver, the rest
            have hsplit0 : st = st.take r3.toNat ++ (2, a) :: st.drop (r3.toNat + 1) := by
              have e1 := (List.getElem?_eq_some_iff.mp h4)
              obtain ⟨hl1, hl2⟩ := e1
              rw [← hl2, ← List.drop_eq_getElem_cons hl1, List.take_append_drop]
            have hrev : (st.take (r3.toNat + 1)).reverse = (2, a) :: (st.take r3.toNat).reverse := by
              have e1 := (List.getElem?_eq_some_iff.mp h4)
              obtain ⟨hl1, hl2⟩ := e1
              rw [List.take_succ_eq_append_getElem hl1, List.reverse_append, hl2]
              rfl
            rw [hrev, List.map_cons, mm_rl_ref ha0] at hMet
            have hblind : FrameBlind (va_Pc (Value.ref (σ a.toNat) :: (st.take r3.toNat).reverse.map (mm_rl σ)) (cc_Wd σ P dC dI B0 cs)) := by
              intro a2 U g mk h
              obtain ⟨z1, z2, z3, z4, z5, z6, z7⟩ := h
              exact ⟨z1, z2, z3, va_K.moved (u := U) (U := U.calling g mk a2) (Vm.Alike.refl U.vm) z4, va_AO.moved (u := U) (U := U.calling g mk a2) (Vm.Alike.refl U.vm) z5, va_AO.moved (u := U) (U := U.calling g mk a2) (Vm.Alike.refl U.vm) z6, z7⟩
            have hpre : ∀ U : State, U.heap = H → s.WarmedH U.vm → va_Pc (Value.ref (σ a.toNat) :: (st.take r3.toNat).reverse.map (mm_rl σ)) (cc_Wd σ P dC dI B0 cs) (Value.ref (σ a.toNat) :: (st.take r3.toNat).reverse.map (mm_rl σ)).toArray U := fun U hU hW =>
              ⟨rfl, by rw [hU]; exact hP, hD, va_K.moved hW.alike hK, va_AO.moved hW.alike hAO1, va_AO.moved hW.alike hAO2, by rw [hU]; exact Nat.le_trans hB hS.1⟩
            have hcat : 2 * (F0 m pc0 lsr (st.map (mm_rl σ))).monitorRoom + (((st.drop (r3.toNat + 1)).map (mm_rl σ)).map fun v => v.category).sum ≤ 8 := by
              show 2 * 0 + _ ≤ 8
              have := mm_cat_sum σ (st.drop (r3.toNat + 1))
              omega
            have hroom2 : (cc_rm r2 (cs1.length - cs.length) (cc_sz cs1 - cc_sz cs)).frames + 1 ≤ R.frames ∧ 8 + ((cc_hd r2).2.2.1 + 11) + (cc_rm r2 (cs1.length - cs.length) (cc_sz cs1 - cc_sz cs)).locals ≤ R.locals := ⟨Nat.le_trans hfr hR.1, Nat.le_trans hlo hR.2⟩
            have cb := callB_of (R := R) (own := mm_cn own) (index := idx) (mc := cs1.length - cs.length) (ms := cc_sz cs1 - cc_sz cs) (cc_hd r2).2.2.2.2.2 hts (cc_wso_good hci) (show cc_wso r2 = Cond.code (cc_hd r2).1 (cc_hd r2).2.1 (cc_hd r2).2.2.1 none :: wA from rfl) (rm := cc_rm r2 (cs1.length - cs.length) (cc_sz cs1 - cc_sz cs)) rfl rfl (hts _ g1) (hts _ w1) g5 hroom2
            refine cc_callx (va_runI (g := F0 m pc0 lsr (st.map (mm_rl σ))) (b := σ a.toNat) (As := (st.take r3.toNat).reverse.map (mm_rl σ)) (rest := (st.drop (r3.toNat + 1)).map (mm_rl σ)) ⟨hx, hb, hml, hown, hts⟩ hMet ⟨cb, g4, hts _ g2⟩ ⟨hblind, hpre⟩ rfl ?_ hl.1 ?_ hcat hd ⟨by omega, by omega⟩) hS (fun σ' H1 locs1 b0 b1 b2 b3 => ?_)
            · rw [List.length_map, List.length_reverse, List.length_take]; omega
            · show st.map (mm_rl σ) = _
              rw [← List.map_reverse, List.reverse_reverse, ← mm_rl_ref ha0, ← List.map_cons, ← List.map_append, ← hsplit0]
            · have k1 := ih' _ ls _ cs1 σ' lsr H1 locs1 h6 (cc_lr_ag b0 hls hl) (fun v hv h3 => cc_lt_mono a1 (hls v hv h3)) (fun v hv => cc_lt_mono a1 (hst v (List.mem_of_mem_drop hv))) a3 (by omega) (by omega) (by omega) (fun q hq => by rw [b0 q (by omega)]; exact hag q hq) b1 b2 b3
              rw [cc_ag_map b0 (fun v hv => hst v (List.mem_of_mem_drop hv))] at k1
              rw [show cs.length - N0 + (cs1.length - cs.length) = cs1.length - N0 by omega, show cc_sz cs - Z0 + (cc_sz cs1 - cc_sz cs) = cc_sz cs1 - Z0 by omega]
              exact k1
          · cases h5
      · cases h
end CC4
theorem cc_met (l : Launch) {P : Nat → ClassId} {dC : Nat → ClassId} {dI : Nat → Nat → Nat} {B0 : Nat} : ∀ n, cc_Mt l P dC dI B0 n := by
  intro n
  induction n using Nat.strongRecOn with
  | ind n ih =>
    intro ci as cs ls' cs' σ hci hex hal hlt hcs
    obtain ⟨g1, g2, g3, g4, g5, g6, g7⟩ := cc_hd_ok ci hci
    refine Met.ofWF (cc := (cc_hd ci).2.1) (maxL := (cc_hd ci).2.2.1) (ret := none) g6 rfl ?_
    intro p e s m args below meth c s₁ B hml hv
    obtain ⟨rfl, hP, hD, hK, hAO1, hAO2, hBs⟩ := hv
    have hts : ∀ w ∈ wA, w.before ((as.map (mm_rl σ)).toArray) s = true := fun w hw => atoms_spec (ws := cc_wso ci) B.pre w (List.mem_cons_of_mem _ hw)
    have hown : s.vm.findClass (mm_cn ci) = some m.cls := by rw [← g3]; exact findClass_of_methodNamed B.named
    have hlocks := B.notSynchronized
    have hb := B.bytes
    have hr := B.returns
    have hx := B.exec
    have hin : meth.name = "<init>" := by rw [(name_of_methodNamed B.named B.method).1, g4]
    rw [lg_entry_eq]
    rw [g7] at hex hal
    have hl := mm_lr_ent (σ := σ) hal
    have hS : va_S (fun q => B0 ≤ q) s.heap s.heap [] := va_S.rf
    have key := cc_frame (p := p) (l := l) (e := e) (R := (headSpec (cc_wso ci) (cc_rm ci (cs'.length - cs.length) (cc_sz cs' - cc_sz cs))).room) (s := s) (m := m) (args := (as.map (mm_rl σ)).toArray) (below := below) (meth := meth) (c := c) (H0 := s.heap) (Q := MQ below (cc_Qc σ P dC dI B0 cs.length cs') (as.map (mm_rl σ)).toArray s (cs'.length - cs.length) (cc_sz cs' - cc_sz cs) (fun q => B0 ≤ q)) (B0 := B0) (own := ci) (N0 := cs.length) (Z0 := cc_sz cs) (nL := (cc_hd ci).2.2.1) (stop := 9999) (cd := (cc_T ci).1) ⟨hx, hown, hts, hK, hAO1, hAO2⟩ hb hml (fun _ => hin) (fun h => by omega) (fun x hx => List.all_eq_true.mp (cc_ek_all ci hci) x hx) ⟨Nat.le_refl _, Nat.le_refl _⟩ hBs ls' cs' ⟨Nat.le_refl _, Nat.le_refl _⟩ cs.length σ ?_ n ih 0 _ [] cs σ _ s.heap [] hex hl (cc_ent_lt hlt) (fun w hw => by cases hw) hcs (Nat.le_refl _) (Nat.le_refl _) (Nat.le_refl _) (fun _ _ => rfl) hP hD hS
    · rw [Nat.sub_self, Nat.sub_self] at key
      exact key
    · intro σ' pcE lsr H1 locs1 hend hag _ hP1 hD1 hS1
      have hF : ∀ t : State, t.heap = H1 → va_F (fun q => B0 ≤ q) s t := fun t ht => hS1.F ht
      rcases hend with h9 | ⟨x, hm, hpc, hi⟩
      · exact absurd h9.2 (by decide)
      · have hek := List.all_eq_true.mp (cc_ek_all ci hci) x hm
        unfold cc_eok at hek
        rw [Bool.and_eq_true, Bool.and_eq_true] at hek
        have hd := of_decide_eq_true hek.1
        have hlen := of_decide_eq_true hek.2.1
        rw [hi] at hd hlen
        rw [hpc, hlen] at hd
        exact W.vret hx hb hr (fun t ht _ => ⟨⟨rfl, σ', hag, by rw [ht]; exact hP1, hD1⟩, hF t ht⟩) hS1.2.2 hd hlocks
