/-! The law's start: its classes, the two objects made, then the loop in the small machine. -/
theorem mm_prim {s : State} {args : Array Value} {ty : FieldType} (hp : ∀ k C, (ty = .object C ∨ ty = .array k) → False) (h : (Cond.arrayClass ty).before args s = true) : ∃ cA, ArrOfT s cA ty ∧ va_RA s cA ty := by
  obtain ⟨cA, kA, comp, h1, h2, h3⟩ := Cond.arrayClass_spec h
  refine ⟨cA, fun n z => ⟨fun k h => (by cases h), kA, h2, comp, h3⟩, ?_⟩
  cases ty with
  | object C => exact (hp .int C (Or.inl rfl)).elim
  | array t => exact (hp t "" (Or.inr rfl)).elim
  | _ => exact h1
theorem mm_obj {s : State} {args : Array Value} {C : String} (h : (Cond.arrayOver (.object C)).before args s = true) : ∃ cA, ArrOfT s cA (.object C) ∧ va_RA s cA (.object C) := by
  obtain ⟨comp, c, k, h1, h2, h3, h4, h5⟩ := Cond.arrayOver_spec h
  exact ⟨c, fun n z => ⟨fun k h => (by cases h), k, h3, comp, h4⟩, k, comp, h3, h4, h1, h5⟩
def mm_P6 (a b c d e f : ClassId) : Nat → ClassId
  | 1 => a
  | 2 => b
  | 3 => c
  | 4 => d
  | 5 => e
  | _ => f
theorem mm_Kn {s : State} {args : Array Value} (hts : ∀ w ∈ lw_tbl, w.before args s = true) : ∃ (P : Nat → ClassId) (dC : Nat → ClassId) (dI : Nat → Nat → Nat), va_K (dC, dI) mm_cl (mm_tys P) s := by
  have htsA : ∀ w ∈ wA, w.before args s = true := fun w hw => hts w (wA_in w hw)
  have hkn : ∀ ci, ∃ q : ClassId × (Nat → Nat), ci < 9 → u_Kn s (mm_cn ci) (mm_F ci) (mm_nf ci) q.1 q.2 := by
    intro ci
    by_cases h : ci < 9
    · obtain ⟨cC, iS, h1⟩ := u_known htsA (mm_Fw ci h) (htsA _ (inst_ok ci h))
      exact ⟨(cC, iS), fun _ => h1⟩
    · exact ⟨(0, fun _ => 0), fun q => absurd q h⟩
  obtain ⟨p1, p1h⟩ := mm_prim (ty := .int) (fun _ _ h => by rcases h with h | h <;> cases h) (htsA _ cc_arr.1)
  obtain ⟨p3, p3h⟩ := mm_prim (ty := .byte) (fun _ _ h => by rcases h with h | h <;> cases h) (htsA _ cc_arr.2.1)
  obtain ⟨p2, p2h⟩ := mm_prim (ty := .long) (fun _ _ h => by rcases h with h | h <;> cases h) (htsA _ cc_arr.2.2.1)
  obtain ⟨p4, p4h⟩ := mm_prim (ty := .boolean) (fun _ _ h => by rcases h with h | h <;> cases h) (htsA _ cc_arr.2.2.2)
  obtain ⟨p5, p5h⟩ := mm_obj (hts _ over_ok.1)
  obtain ⟨p6, p6h⟩ := mm_obj (hts _ over_ok.2)
  refine ⟨mm_P6 p1 p2 p3 p4 p5 p6, fun ci => (Classical.choose (hkn ci)).1, fun ci => (Classical.choose (hkn ci)).2, fun c q hq => ?_, fun k q hq => ?_⟩
  · have hc : c < 9 := (List.getElem?_eq_some_iff.mp hq).1
    have e := mm_Fcl c hc
    rw [e] at hq
    cases hq
    exact Classical.choose_spec (hkn c) hc
  · match k with
    | 0 => cases hq; exact p1h
    | 1 => cases hq; exact p2h
    | 2 => cases hq; exact p3h
    | 3 => cases hq; exact p4h
    | 4 => cases hq; exact p5h
    | 5 => cases hq; exact p6h
    | k + 6 => cases hq
theorem start_of {L : Nat} {xs : Nat → Int32} (law_run : Rn k_Law_law 16 [(2, 1000), (2, 0), (2, 71), (9, 0)] [] (S_0 L xs) (fun v _ => v = some (0, 1))) {p : Program} {e : Env} {s : State} {m : MethodId} {below : List Frame} {meth : Method} {c : Code} (l : Launch) (hflags : l.flags = flags0) {b : Nat} (hL : L ≤ 3584) (C0 : lw_At p s m meth c b L xs) : W p l e room_1 s m #[Value.ref b] below meth c s.heap [] 0 0 (lw_Z below #[Value.ref b] s) (entryFrame m ([Value.ref b] : List Value).toArray 4) := by
  obtain ⟨hx, hb, hr, hml, hown, hts, hX, hbl, hlocks, hgv⟩ := C0
  have htsA : ∀ w ∈ wA, w.before #[Value.ref b] s = true := fun w hw => hts w (wA_in w hw)
  obtain ⟨P, dC, dI, hK⟩ := mm_Kn hts
  have hAO1 : va_AO "PagesByLevels$Complex" s := va_AO.of (hts _ over_ok.1)
  have hAO2 : va_AO "PagesByLevels$Sheet" s := va_AO.of (hts _ over_ok.2)
  have hN : ∀ q ∈ mm_ln, va_Nw (mm_nw q) s := fun q hq => va_Nw.of rfl (hts _ (mm_ln_ok q hq))
  have hown' : s.vm.findClass (mm_cn 13) = some m.cls := hown
  let σ0 : Nat → Nat := fun a => if a = 1000 then b else 0
  have hS : va_S (fun q => s.heap.size ≤ q) s.heap s.heap [] := va_S.rf
  have hl0 := mm_lr_ent (σ := σ0) (as := [(2, 1000)]) (n := 4) (by decide)
  rw [lg_entry_eq]
  have key := cc_frame (p := p) (l := l) (e := e) (R := room_1) (s := s) (m := m) (args := #[Value.ref b]) (below := below) (meth := meth) (c := c) (H0 := s.heap) (Q := lw_Z below #[Value.ref b] s) (cc := code) (P := P) (dC := dC) (dI := dI) (B0 := s.heap.size) (own := 13) (N0 := 0) (Z0 := 0) (nL := 4) (fr := 9) (lo := 346) (stop := 16) (cd := cc_kL) ⟨hx, hown', htsA, hK, hAO1, hAO2⟩ hb hml (fun h => absurd rfl h) (fun _ => cc_kL_noput) (fun x hx => List.all_eq_true.mp cc_ekL x hx) ⟨Nat.le_refl _, Nat.le_refl _⟩ (Nat.le_refl _) [(2, 1000), (2, 0), (2, 71), (9, 0)] cc_fin ⟨by decide +kernel, by decide +kernel⟩ 0 σ0 ?_ 400 (fun k _ => cc_met l k) 0 [(2, 1000), (9, 0), (9, 0), (9, 0)] [] [] σ0 _ s.heap [] cc_end_ok hl0 ?_ (fun v h => by cases h) (fun c h => by cases h) (Nat.le_refl _) (Nat.le_refl _) (Nat.le_refl _) (fun _ _ => rfl) (fun k q h => by cases h) ⟨fun i j p q h => (by cases h), fun k q h => (by cases h)⟩ hS
  · exact key
  · intro σ pcE lsr H1 locs1 hend hag hlr hP1 hD1 hS1
    have hpc : pcE = 16 := by
      rcases hend with h | ⟨x, hm, _, hi⟩
      · exact h.1
      · exact absurd hi (cc_kL_noret x hm)
    subst hpc
    have hσ : σ 1000 = b := hag 1000 (Or.inr rfl)
    have hap : mm_ap s.heap.size σ := by
      refine ⟨fun i j hi hj h => ?_, fun i hi => ?_⟩
      · have gi : cc_fin[i]? = some (cc_fin[i]'(by rw [cc_fin_len]; exact hi)) := List.getElem?_eq_getElem _
        have gj : cc_fin[j]? = some (cc_fin[j]'(by rw [cc_fin_len]; exact hj)) := List.getElem?_eq_getElem _
        exact hD1.1 i j _ _ (cc_w_get gi) (cc_w_get gj) h
      · have gi : cc_fin[i]? = some (cc_fin[i]'(by rw [cc_fin_len]; exact hi)) := List.getElem?_eq_getElem _
        exact hD1.2 i _ (cc_w_get gi)
    have hW := S_0_world (L := L) (xs := xs) hP1
    obtain ⟨n, v, S', h1, rfl⟩ := law_run
    refine W.widen (k := 600000) (n := 7302250) (by decide +kernel) (by decide +kernel) ?_
    refine mm_frame (st := []) (cd := k_Law_law) (fr := 9) (lo := 346) (own := 13) (H0 := s.heap) (B0 := s.heap.size) (σ := σ) (P := P) (dC := dC) (dI := dI) (nL := 4) ⟨hx, hown', htsA, hK, hN, hap⟩ hb hml ek_Law ⟨Nat.le_refl _, Nat.le_refl _⟩ ⟨Nat.le_refl _, Nat.le_refl _⟩ (some (0, 1)) S' ?_ n (fun k _ => mm_met l hap k) 16 _ (S_0 L xs) lsr H1 locs1 h1 hlr ?_ (fun w hw => by cases hw) (S_0_ok hL xs) ?_ hW hS1
    · intro x pc st lsr H2 locs2 hm hpc hret hP2 hS2
      obtain ⟨hd, hlen, hok⟩ := mm_eok_inv (ek_Law x hm)
      rw [hpc] at hd
      rcases mm_ret_inv hret with ⟨hi, y, rfl, h, h01⟩ | ⟨hi, y, rfl, h⟩ | ⟨hi, y, rfl, h⟩ | ⟨hi, rfl, h⟩
      · cases h
        rw [hi] at hd
        have hl1 : x.2.2.1 = 1 := by
          rcases hlen with h | h
          · rw [hi] at h; cases h
          · rw [hi] at h; exact h
        rw [hl1] at hd
        exact va_forget hS2.2.2 (lw_ret hx hb hr hlocks hd)
      · cases h
      · cases h
      · cases h
    · intro w hw
      have : w = (2, 1000) ∨ w = (2, 0) ∨ w = (2, 71) ∨ w = (9, 0) := by simpa using hw
      rcases this with rfl | rfl | rfl | rfl <;> exact ⟨fun h => (by cases h), fun h => (by cases h)⟩
    · intro _
      refine ⟨b, L, xs, hX, hbl, hbl, hσ, ?_, by omega, fun j hj => ?_⟩
      · unfold S_0
        rw [if_pos rfl, if_pos rfl]
      · unfold S_0
        rw [if_pos rfl, if_neg (by omega), if_pos ⟨by omega, by omega⟩, Int.toNat_natCast]
        exact Int32.ofInt_toInt _
  · intro v hv h3
    have : v = (2, 1000) ∨ v = (9, 0) := by simpa using hv
    rcases this with rfl | rfl
    · exact fun _ => Or.inr rfl
    · dsimp only at h3; omega
