theorem mm_hd_facts {k : Nat} (hk : k < 190) : mm_cw (mm_hd k) ∈ wA ∧ Cond.initialized (mm_hd k).1.cls ∈ wA ∧ ((mm_hd k).2.2.2.2.2.2.2.2 = true → Cond.static (mm_hd k).1 ∈ wA) ∧ ((mm_hd k).2.2.2.2.2.2.2.2 = false → Cond.instanceMethod (mm_hd k).1 ∈ wA ∧ Cond.selects (mm_hd k).1.cls (mm_hd k).1 (mm_hd k).1 ∈ wA) ∧ (mm_hd k).1.cls = mm_cn (mm_hd k).2.2.2.2.1 ∧ ((mm_hd k).1.cls ≠ "java/lang/invoke/MethodHandle" ∧ (mm_hd k).1.cls ≠ "java/lang/invoke/VarHandle" ∧ (parseMethodDescriptor (mm_hd k).1.desc).map (fun d => d.parameters.length) = some (mm_hd k).2.2.2.2.2.2.2.1) ∧ plainFor (mm_hd k).1 = true := by
  have h := mm_hds_ok k hk
  unfold mm_hok at h
  rw [Bool.and_eq_true, Bool.and_eq_true] at h
  obtain ⟨⟨h1, h2⟩, h3⟩ := h
  have h3 := of_decide_eq_true h3
  refine ⟨mm_cw_ok k hk, mm_wat_ok h1, fun hs => ?_, fun hs => ?_, h3.1, ⟨h3.2.1, h3.2.2.1, h3.2.2.2.1⟩, h3.2.2.2.2⟩
  · rw [if_pos hs] at h2
    exact mm_wat_ok h2
  · rw [if_neg (by rw [hs]; decide), Bool.and_eq_true] at h2
    exact ⟨mm_wat_ok h2.1, mm_wat_ok h2.2⟩
theorem mm_wso_good {k : Nat} (hk : k < 190) : GoodIn wA (mm_wso k) := by
  intro w hw
  have hm : w ∈ wA := by
    rcases List.mem_cons.mp hw with rfl | h
    · exact (mm_hd_facts hk).1
    · exact h
  exact ⟨hm, good_of_word (wA_good w hm)⟩
section FRM2
variable {p : Program} {l : Launch} {e : Env} {R : Room} {s : State} {m : MethodId} {args : Array Value} {below : List Frame} {meth : Method} {c : Code} {H H0 : Heap} {locs : List Loc} {cells slots : Nat} {Q : State → Prop} {cc : ByteArray} {lsr : Array Slot} {σ : Nat → Nat} {P : Nat → ClassId} {dC : Nat → ClassId} {dI : Nat → Nat → Nat} {B0 own : Nat}
theorem mm_Wd_blind {as : List mm_V} {S : mm_S} : FrameBlind (va_Pc (as.map (mm_rl σ)) (mm_Wd σ P dC dI S)) := by
  intro a U g mk h
  obtain ⟨h1, h2, h3, h4⟩ := h
  exact ⟨h1, h2, va_K.moved (u := U) (U := U.calling g mk a) (Vm.Alike.refl U.vm) h3, fun q hq => va_Nw.same rfl rfl (h4 q hq)⟩
/-- the call itself -/
theorem mm_call_sound {nL : Nat} (C : mm_Cx p s m args own σ P dC dI B0) (hb : c.code = cc) (hml : c.maxLocals = nL) (hsz : lsr.size = nL) {x : mm_E} {fr lo n : Nat} {b : Bool} {st : List mm_V} {S S' S1 : mm_S} {v1 : Option mm_V} (hR : fr ≤ R.frames ∧ lo ≤ R.locals) (hcs : cells ≤ R.cells ∧ slots ≤ R.slots) (hM : mm_Mt l σ P dC dI B0 n) (hd : decode cc x.1 = .ok (x.2.1, x.2.2.1)) (hlen : mm_il x.2.1 = 0 ∨ x.2.2.1 = mm_il x.2.1) (hok : mm_iok own fr lo x = true) (hv : mm_isv x.2.1 = some b) (hg : mm_cg x.2.2.2.2.1 x.2.2.2.2.2 st = true)
    (hex : (if (mm_args (st.take x.2.2.2.2.1).reverse).length ≤ (mm_T x.2.2.2.1).2 then mm_ex mm_T n (mm_T x.2.2.2.1).1 0 (mm_ent (mm_T x.2.2.2.1).2 (st.take x.2.2.2.2.1).reverse) [] S else none) = some (v1, S1)) (hir : ∀ w ∈ st, mm_ir w) (hsok : mm_sok S) (hP : va_P (dC, dI) mm_cl (mm_ws σ P S) H) (hS : va_S (fun q => B0 ≤ q) H0 H locs)
    (kk : ∀ (H1 : Heap) (locs1 : List Loc), va_P (dC, dI) mm_cl (mm_ws σ P S1) H1 → va_S (fun q => B0 ≤ q) H0 H1 locs1 → W p l e R s m args below meth c H1 locs1 cells slots Q (F0 m (x.1 + x.2.2.1) lsr ((v1.toList ++ st.drop x.2.2.2.2.1).map (mm_rl σ)))) : W p l e R s m args below meth c H locs cells slots Q (F0 m x.1 lsr (st.map (mm_rl σ))) := by
  obtain ⟨hx, hown, hts, hK, hN, hap⟩ := C
  obtain ⟨pc, i, len, r1, r2, r3⟩ := x
  dsimp only at hd hlen hok hv hg hex kk ⊢
  split at hex
  · rename_i hal
    obtain ⟨idx, hi, hc⟩ := mm_isv_iok (e := (pc, i, len, r1, r2, r3)) (st := st) (S := S) hv hok
    dsimp only at hi hc
    have hcok : mm_cok own fr lo idx r1 r2 r3 b = true := by
      rcases hc with ⟨-, h9⟩ | hc
      · exfalso
        rw [h9] at hex
        have : (mm_T 999).1 = [] := by decide +kernel
        rw [this] at hex
        cases n with
        | zero => cases hex
        | succ n => cases hex
      · exact hc
    obtain ⟨hr1, hlk, hst0, hr2, hr3, hfr, hlo⟩ := mm_cok_inv hcok
    obtain ⟨f1, f2, f3, f4, f5, f6, f7⟩ := mm_hd_facts hr1
    unfold mm_cg at hg
    rw [Bool.and_eq_true, Bool.and_eq_true] at hg
    have g1 : r2 ≤ st.length := of_decide_eq_true hg.1
    have g2 := hg.2.1
    have g3 : mm_cs (st.drop r2) ≤ 8 := of_decide_eq_true hg.2.2
    have hMet := hM r1 (st.take r2).reverse S v1 S1 hr1 hex hal (fun w hw => hir w (List.mem_of_mem_take (List.mem_reverse.mp hw))) hsok
    have hroom : (mm_rm r1).frames + 1 ≤ R.frames ∧ 8 + ((mm_hd r1).2.2.1 + 11) + (mm_rm r1).locals ≤ R.locals := ⟨Nat.le_trans hfr hR.1, Nat.le_trans hlo hR.2⟩
    have hblind : FrameBlind (va_Pc ((st.take r2).reverse.map (mm_rl σ)) (mm_Wd σ P dC dI S)) := mm_Wd_blind
    have hpre : ∀ U : State, U.heap = H → s.WarmedH U.vm → va_Pc ((st.take r2).reverse.map (mm_rl σ)) (mm_Wd σ P dC dI S) ((st.take r2).reverse.map (mm_rl σ)).toArray U := fun U hU hW =>
      ⟨rfl, by rw [hU]; exact hP, va_K.moved hW.alike hK, fun q hq => va_Nw.warmM hW (hN q hq)⟩
    have hcat : 2 * (F0 m pc lsr (st.map (mm_rl σ))).monitorRoom + (((st.drop r2).map (mm_rl σ)).map fun v => v.category).sum ≤ 8 := by
      show 2 * 0 + _ ≤ 8
      have := mm_cat_sum σ (st.drop r2)
      omega
    have hkk : ∀ (H1 : Heap) (locs1 : List Loc), len = 3 → va_P (dC, dI) mm_cl (mm_ws σ P S1) H1 → va_S (fun q => B0 ≤ q) H0 H1 locs1 → W p l e R s m args below meth c H1 locs1 cells slots Q (F0 m (pc + 3) lsr ((v1.map (mm_rl σ)).toList ++ (st.drop r2).map (mm_rl σ))) := fun H1 locs1 hl a1 a2 => by
      have := kk H1 locs1 a1 a2
      rw [hl] at this
      rw [List.map_append] at this
      cases v1 with
      | none => exact this
      | some w => exact this
    have hwso : mm_wso r1 = Cond.code (mm_hd r1).1 (mm_hd r1).2.1 (mm_hd r1).2.2.1 (mm_hd r1).2.2.2.1 :: wA := rfl
    have hsplit : st.map (mm_rl σ) = ((st.take r2).reverse.map (mm_rl σ)).reverse ++ (st.drop r2).map (mm_rl σ) := by
      rw [List.map_reverse, List.reverse_reverse, ← List.map_append, List.take_append_drop]
    have hlenA : ((st.take r2).reverse.map (mm_rl σ)).length = r2 := by
      rw [List.length_map, List.length_reverse, List.length_take]; omega
    cases b with
    | false =>
      rw [if_neg (by decide)] at hi
      subst hi
      have hl3 : len = 3 := hlen.resolve_left (by intro q; cases q)
      subst hl3
      have hstat := hts _ (f3 hst0)
      have hn : ((st.take r2).reverse.map (mm_rl σ)).length = (mm_hd r1).2.2.2.2.2.2.2.1 := by rw [hlenA, hr2, if_neg (by decide)]; rfl
      rcases hlk with ⟨q, hq, q1, q2, q3⟩ | ⟨-, q, hq, q1, q2, q3⟩
      · have hlw := hts _ (mm_lm_ok q hq)
        rw [q1, q2, q3] at hlw
        have cb := callB_of (R := R) (own := mm_cn own) (index := idx) (mc := 0) (ms := 0) (mm_hd r1).2.2.2.2.2.2.2.1 hts (mm_wso_good hr1) hwso (rm := mm_rm r1) rfl rfl (hts _ f2) hlw f6 hroom
        exact mm_callx (va_runS (g := F0 m pc lsr (st.map (mm_rl σ))) (rest := (st.drop r2).map (mm_rl σ)) ⟨hx, hb, hml, hown, hts⟩ hMet ⟨cb, hstat⟩ ⟨hblind, hpre⟩ rfl hn hsz hsplit hcat hd ⟨by omega, by omega⟩) hS (fun H1 locs1 a1 a2 => hkk H1 locs1 rfl a1 a2)
      · have hlw := hN q hq
        unfold mm_nw at hlw
        rw [q1, q2, q3] at hlw
        have cb := va_cnB (R := R) (own := mm_cn own) (host := "PagesByLevels") (index := idx) (mc := 0) (ms := 0) (mm_hd r1).2.2.2.2.2.2.2.1 hts (mm_wso_good hr1) hwso (rm := mm_rm r1) rfl rfl hlw (hts _ f2) f6 hroom
        exact mm_callx (va_runSN (g := F0 m pc lsr (st.map (mm_rl σ))) (rest := (st.drop r2).map (mm_rl σ)) ⟨hx, hb, hml, hown, hts⟩ hMet ⟨cb, hstat, trivial⟩ ⟨hblind, hpre⟩ rfl hn hsz hsplit hcat hd ⟨by omega, by omega⟩) hS (fun H1 locs1 a1 a2 => hkk H1 locs1 rfl a1 a2)
    | true =>
      rw [if_pos rfl] at hi
      subst hi
      have hl3 : len = 3 := hlen.resolve_left (by intro q; cases q)
      subst hl3
      obtain ⟨hin, hsel⟩ := f4 hst0
      rw [if_pos rfl] at hr3 hr2
      rcases hlk with ⟨q, hq, q1, q2, q3⟩ | ⟨h, -⟩
      · have hlw := hts _ (mm_lm_ok q hq)
        rw [q1, q2, q3] at hlw
        have cb := callB_of (R := R) (own := mm_cn own) (index := idx) (mc := 0) (ms := 0) (mm_hd r1).2.2.2.2.2.2.2.1 hts (mm_wso_good hr1) hwso (rm := mm_rm r1) rfl rfl (hts _ f2) hlw f6 hroom
        generalize hA : (st.take r2).reverse = as at *
        unfold mm_rcv at g2
        split at g2
        · rename_i a tl
          rw [Bool.or_eq_true] at g2
          have hob : mm_ob a (r3 - 1).toNat = true := by
            rcases g2 with g2 | g2
            · have := of_decide_eq_true g2
              omega
            · exact g2
          have hcn : (r3 - 1).toNat = (mm_hd r1).2.2.2.2.1 := by omega
          rw [hcn] at hob
          obtain ⟨ha0, hkd⟩ := of_decide_eq_true hob
          have hal2 : a.toNat < 91 := mm_kd_lt (by rw [hkd]; exact (by decide : (0 : Nat) < 99))
          have hci := (mm_lay_len _ (mm_kd99 (a := a.toNat) (by rw [hkd]; exact (by decide : (0 : Nat) < 99)))).2 (by rw [hkd])
          rw [hkd] at hci
          have he := mm_ws_get (σ := σ) (P := P) (S := S) hal2
          rw [mm_cell0 hkd] at he
          have hrecv := va_recv hK hP (mm_Fcl _ hci) he
          rw [List.map_cons, mm_rl_ref ha0] at hsplit hblind hpre hMet hlenA
          rw [List.length_cons] at hlenA
          refine mm_callx (va_runV (g := F0 m pc lsr (st.map (mm_rl σ))) (b := σ a.toNat) (As := tl.map (mm_rl σ)) (rest := (st.drop r2).map (mm_rl σ)) (C := (mm_hd r1).1.cls) ⟨hx, hb, hml, hown, hts⟩ hMet ⟨cb, hts _ hin, hts _ hsel⟩ ⟨hblind, ?_, hpre⟩ rfl (by omega) hsz ?_ hcat hd ⟨by omega, by omega⟩) hS (fun H1 locs1 a1 a2 => hkk H1 locs1 rfl a1 a2)
          · rw [f5]; exact hrecv
          · show st.map (mm_rl σ) = _
            rw [hsplit, List.reverse_cons, List.append_assoc]
            rfl
        · have := of_decide_eq_true g2
          omega
      · cases h
  · cases hex
/-- a frame, from here to its end -/
theorem mm_frame {nL fr lo : Nat} {cd : List mm_E} (C : mm_Cx p s m args own σ P dC dI B0) (hb : c.code = cc) (hml : c.maxLocals = nL) (hcd : ∀ x ∈ cd, mm_eok own fr lo cc x = true) (hR : fr ≤ R.frames ∧ lo ≤ R.locals) (hcs : cells ≤ R.cells ∧ slots ≤ R.slots) (v : Option mm_V) (S' : mm_S)
    (HR : ∀ (x : mm_E) (pc : Nat) (st : List mm_V) (lsr : Array Slot) (H1 : Heap) (locs1 : List Loc), x ∈ cd → x.1 = pc → mm_ret x.2.2.2.1 x.2.1 st = some v → va_P (dC, dI) mm_cl (mm_ws σ P S') H1 → va_S (fun q => B0 ≤ q) H0 H1 locs1 → W p l e R s m args below meth c H1 locs1 cells slots Q (F0 m pc lsr (st.map (mm_rl σ)))) :
    ∀ (n : Nat), (∀ k, k < n → mm_Mt l σ P dC dI B0 k) → ∀ (pc : Nat) (ls st : List mm_V) (S : mm_S) (lsr : Array Slot) (H : Heap) (locs : List Loc), mm_ex mm_T n cd pc ls st S = some (v, S') → mm_lr σ ls lsr nL → (∀ w ∈ ls, mm_ir w) → (∀ w ∈ st, mm_ir w) → mm_sok S → (own = 13 → mm_scr s H0 σ B0 S) → va_P (dC, dI) mm_cl (mm_ws σ P S) H → va_S (fun q => B0 ≤ q) H0 H locs → W p l e R s m args below meth c H locs cells slots Q (F0 m pc lsr (st.map (mm_rl σ))) := by
  intro n
  induction n with
  | zero => intro _ pc ls st S lsr H locs h; cases h
  | succ n ih =>
    intro hM pc ls st S lsr H locs h hl hls hst hsok hscr hP hS
    unfold mm_ex at h
    cases hf : mm_find cd pc with
    | none => rw [hf] at h; cases h
    | some x =>
      rw [hf] at h
      obtain ⟨hm, hpc⟩ := mm_find_mem hf
      obtain ⟨hd, hlen, hok⟩ := mm_eok_inv (hcd x hm)
      replace h : mm_j _ _ x ls st S = some (v, S') := h
      unfold mm_j at h
      have ih' := ih (fun k hk => hM k (by omega))
      subst hpc
      cases h1 : mm_op x.1 x.2.1 (x.1 + x.2.2.1) x.2.2.2.1 x.2.2.2.2.1 x.2.2.2.2.2 st S with
      | some q =>
        rw [h1] at h
        obtain ⟨pc1, st1, S1⟩ := q
        obtain ⟨a1, a2⟩ := mm_op_ir hok h1 hst hsok
        refine mm_op_sound C hb (by rw [hml, hl.1]) hR hd hlen hok hscr h1 hst hsok hP hS (fun H1 locs1 b1 b2 => ?_)
        refine ih' pc1 ls st1 S1 lsr H1 locs1 h hl hls a1 a2 (fun h13 => ?_) b1 b2
        have e1000 := mm_op_1000 h1
        obtain ⟨b, L, xs, c1, c2, c3, c4, c5, c6, c7⟩ := hscr h13
        exact ⟨b, L, xs, c1, c2, c3, c4, by rw [e1000]; exact c5, c6, by rw [e1000]; exact c7⟩
      | none =>
        rw [h1] at h
        dsimp only at h
        cases h2 : mm_lo x.2.1 (x.1 + x.2.2.1) ls st with
        | some q =>
          rw [h2] at h
          obtain ⟨pc1, ls1, st1⟩ := q
          obtain ⟨a1, a2⟩ := mm_lo_ir h2 hls hst
          exact mm_lo_sound C.1 hb hd hlen h2 hl (fun lsr' hl' => ih' pc1 ls1 st1 S lsr' H locs h hl' a1 a2 hsok hscr hP hS)
        | none =>
          rw [h2] at h
          dsimp only at h
          cases h3 : mm_ret x.2.2.2.1 x.2.1 st with
          | some q =>
            rw [h3] at h
            cases h
            exact HR x x.1 st lsr H locs hm rfl h3 hP hS
          | none =>
            rw [h3] at h
            dsimp only at h
            cases h4 : mm_isv x.2.1 with
            | none => rw [h4] at h; cases h
            | some b =>
              rw [h4] at h
              dsimp only at h
              split at h
              · rename_i hg
                split at h
                · rename_i v1 S1 h6
                  refine mm_call_sound C hb hml hl.1 hR hcs (hM n (by omega)) hd hlen hok h4 hg h6 hst hsok hP hS (S' := S') (fun H1 locs1 b1 b2 => ?_)
                  have hkeep : (∀ w ∈ v1, mm_ir w) ∧ mm_sok S1 ∧ S1 1000 = S 1000 := by
                    obtain ⟨idx, he, hc⟩ := mm_isv_iok (st := st) (S := S) h4 hok
                    split at h6
                    · have hr1 : x.2.2.2.1 < 190 := by
                        rcases hc with ⟨hb, h9⟩ | hc
                        · exfalso
                          rw [h9] at h6
                          have : (mm_T 999).1 = [] := by decide +kernel
                          rw [this] at h6
                          cases n with
                          | zero => cases h6
                          | succ n => cases h6
                        · exact (mm_cok_inv hc).1
                      exact mm_ex_keep n _ 0 _ [] S v1 S1 (mm_code_ok hr1) h6 (mm_ent_ir (fun w hw => hst w (List.mem_of_mem_take (List.mem_reverse.mp hw)))) (fun w hw => by cases hw) hsok
                    · cases h6
                  obtain ⟨k1, k2, k3⟩ := hkeep
                  refine ih' _ ls _ S1 lsr H1 locs1 h hl hls (fun w hw => ?_) k2 (fun h13 => ?_) b1 b2
                  · rcases List.mem_append.mp hw with hw | hw
                    · exact k1 w (by simpa using hw)
                    · exact hst w (List.mem_of_mem_drop hw)
                  · obtain ⟨b, L, xs, c1, c2, c3, c4, c5, c6, c7⟩ := hscr h13
                    exact ⟨b, L, xs, c1, c2, c3, c4, by rw [k3]; exact c5, c6, by rw [k3]; exact c7⟩
                · cases h
              · cases h
end FRM2
theorem mm_own_lt : ∀ k, k < 190 → (mm_hd k).2.2.2.2.1 ≠ 13 := by
  have h : (List.range 190).all (fun k => decide ((mm_hd k).2.2.2.2.1 ≠ 13)) = true := by decide +kernel
  intro k hk
  exact of_decide_eq_true (List.all_eq_true.mp h k (List.mem_range.mpr hk))
/-- every method, by its run in the small machine -/
theorem mm_met (l : Launch) {σ : Nat → Nat} {P : Nat → ClassId} {dC : Nat → ClassId} {dI : Nat → Nat → Nat} {B0 : Nat} (hap : mm_ap B0 σ) : ∀ n, mm_Mt l σ P dC dI B0 n := by
  intro n
  induction n using Nat.strongRecOn with
  | ind n ih =>
    intro k as S v S' hk hex hal hir hsok
    obtain ⟨f1, f2, f3, f4, f5, f6, f7⟩ := mm_hd_facts hk
    obtain ⟨hT1, hT2, hT3⟩ := mm_mok_all k hk
    refine Met.ofWF (cc := (mm_hd k).2.1) (maxL := (mm_hd k).2.2.1) (ret := (mm_hd k).2.2.2.1) f7 rfl ?_
    intro p e s m args below meth c s₁ B hml hv
    obtain ⟨rfl, hP, hK, hN⟩ := hv
    have hts : ∀ w ∈ wA, w.before ((as.map (mm_rl σ)).toArray) s = true := fun w hw => atoms_spec (ws := mm_wso k) B.pre w (List.mem_cons_of_mem _ hw)
    have hown : s.vm.findClass (mm_cn (mm_hd k).2.2.2.2.1) = some m.cls := by rw [← f5]; exact findClass_of_methodNamed B.named
    have hlocks := B.notSynchronized
    have hb := B.bytes
    have hr := B.returns
    have hx := B.exec
    rw [lg_entry_eq]
    rw [hT2] at hex hal
    have hl := mm_lr_ent (σ := σ) hal
    have hS : va_S (fun q => B0 ≤ q) s.heap s.heap [] := va_S.rf
    refine mm_frame (st := []) (cd := (mm_T k).1) (fr := (mm_hd k).2.2.2.2.2.1) (lo := (mm_hd k).2.2.2.2.2.2.1) (own := (mm_hd k).2.2.2.2.1) (H0 := s.heap) ⟨hx, hown, hts, hK, hN, hap⟩ hb hml (fun x hx => List.all_eq_true.mp hT1 x hx) ⟨Nat.le_refl _, Nat.le_refl _⟩ ⟨Nat.zero_le _, Nat.zero_le _⟩ v S' ?_ n ih 0 _ S _ s.heap [] hex hl (mm_ent_ir hir) (fun w hw => by cases hw) hsok (fun h => absurd h (mm_own_lt k hk)) hP hS
    intro x pc st lsr H1 locs1 hm hpc hret hP1 hS1
    obtain ⟨hd, hlen, hok⟩ := mm_eok_inv (mm_code_ok hk x hm)
    have hrok := List.all_eq_true.mp hT3 x hm
    rw [hpc] at hd
    have hF : ∀ t : State, t.heap = H1 → va_F (fun q => B0 ≤ q) s t := fun t ht => hS1.F ht
    rcases mm_ret_inv hret with ⟨hi, y, rfl, rfl, h01⟩ | ⟨hi, y, rfl, rfl⟩ | ⟨hi, y, rfl, rfl⟩ | ⟨hi, rfl, rfl⟩
    · rw [hi] at hd
      have hl1 : x.2.2.1 = 1 := by
        rcases hlen with h | h
        · rw [hi] at h; cases h
        · rw [hi] at h; exact h
      rw [hl1] at hd
      unfold mm_rok at hrok
      rw [hi] at hrok
      have hrt := of_decide_eq_true hrok
      rcases hrt with hrt | ⟨hrt, hb1⟩
      · exact W.iret (v := Int32.ofInt y) hx hb (by rw [hr, hrt]) (fun t ht _ => ⟨⟨rfl, by rw [ht]; exact hP1⟩, hF t ht⟩) hS1.2.2 hd hlocks
      · refine W.zret (v := Int32.ofInt y) hx hb (by rw [hr, hrt]) ?_ (fun t ht _ => ⟨⟨rfl, by rw [ht]; exact hP1⟩, hF t ht⟩) hS1.2.2 hd hlocks
        rcases h01 hb1 with rfl | rfl <;> rfl
    · rw [hi] at hd
      have hl1 : x.2.2.1 = 1 := by
        rcases hlen with h | h
        · rw [hi] at h; cases h
        · rw [hi] at h; exact h
      rw [hl1] at hd
      unfold mm_rok at hrok
      rw [hi] at hrok
      have hrt := of_decide_eq_true hrok
      exact W.lret (v := Int64.ofInt y) hx hb (by rw [hr, hrt]) (fun t ht _ => ⟨⟨rfl, by rw [ht]; exact hP1⟩, hF t ht⟩) hS1.2.2 hd hlocks
    · rw [hi] at hd
      have hl1 : x.2.2.1 = 1 := by
        rcases hlen with h | h
        · rw [hi] at h; cases h
        · rw [hi] at h; exact h
      rw [hl1] at hd
      unfold mm_rok at hrok
      rw [hi] at hrok
      have hrt : ∃ nm, (mm_hd k).2.2.2.1 = some (.object nm) := by
        dsimp only at hrok
        split at hrok
        · rename_i nm hh; exact ⟨nm, hh⟩
        · cases hrok
      obtain ⟨nm, hrt⟩ := hrt
      exact W.aret (v := mm_rl σ (2, y)) hx hb (by rw [hr, hrt]) (Or.inl ⟨nm, rfl⟩) (mm_rl_ref_cases σ y) (fun t ht _ => ⟨⟨rfl, by rw [ht]; exact hP1⟩, hF t ht⟩) hS1.2.2 hd hlocks
    · rw [hi] at hd
      have hl1 : x.2.2.1 = 1 := by
        rcases hlen with h | h
        · rw [hi] at h; cases h
        · rw [hi] at h; exact h
      rw [hl1] at hd
      unfold mm_rok at hrok
      rw [hi] at hrok
      have hrt := of_decide_eq_true hrok
      exact W.vret hx hb (by rw [hr, hrt]) (fun t ht _ => ⟨⟨rfl, by rw [ht]; exact hP1⟩, hF t ht⟩) hS1.2.2 hd hlocks
