theorem mm_rl_ref {σ : Nat → Nat} {x : Int} (h : 0 ≤ x) : mm_rl σ (2, x) = .ref (σ x.toNat) := by
  unfold mm_rl
  rw [if_neg (show ¬ (2 : Nat) = 0 by decide), if_neg (show ¬ (2 : Nat) = 1 by decide), if_neg (show ¬ x < 0 by omega)]
theorem mm_cell0 {σ : Nat → Nat} {P : Nat → ClassId} {a : Nat} {ci : Nat} (h : mm_kd a = (0, ci)) (R : Int → Int) : mm_cellR σ P a R = .inr (ci, (List.range (mm_nf ci)).map fun (k : Nat) => mm_rl σ (mm_gw ci k a (R k) (mm_fk ci k))) := by
  unfold mm_cellR
  rw [h]
  rfl
theorem mm_cell2 {σ : Nat → Nat} {P : Nat → ClassId} {a : Nat} (h : (mm_kd a).1 = 2) (R : Int → Int) : mm_cellR σ P a R = .inl (P 2, (mm_kd a).2, .inr (.inl fun (j : Nat) => Int64.ofInt (R j))) := by
  unfold mm_cellR
  rw [if_neg (by rw [h]; decide), if_pos h]
theorem mm_cell5 {σ : Nat → Nat} {P : Nat → ClassId} {a : Nat} (h : (mm_kd a).1 = 5 ∨ (mm_kd a).1 = 6) (R : Int → Int) : mm_cellR σ P a R = .inl (P (mm_kd a).1, (mm_kd a).2, .inr (.inr (.inr (.inr fun (j : Nat) => some (σ (mm_ra a j).toNat))))) := by
  unfold mm_cellR
  rw [if_neg (by rcases h with h | h <;> rw [h] <;> decide), if_neg (by rcases h with h | h <;> rw [h] <;> decide), if_pos h]
theorem mm_cell1 {σ : Nat → Nat} {P : Nat → ClassId} {a : Nat} (h : (mm_kd a).1 = 1 ∨ (mm_kd a).1 = 3 ∨ (mm_kd a).1 = 4) (R : Int → Int) : mm_cellR σ P a R = .inl (P (mm_kd a).1, (mm_kd a).2, .inl fun (j : Nat) => Int32.ofInt (R j)) := by
  unfold mm_cellR
  rw [if_neg (by rcases h with h | h | h <;> rw [h] <;> decide), if_neg (by rcases h with h | h | h <;> rw [h] <;> decide), if_neg (by rcases h with h | h | h <;> rw [h] <;> decide)]
theorem mm_kd99 {a : Nat} (h : (mm_kd a).1 < 99) : mm_kd a ∈ mm_lay := by
  have hl := mm_kd_lt h
  have hm : a < mm_lay.length := by show a < 91; exact hl
  unfold mm_kd
  rw [List.getD_eq_getElem?_getD, List.getElem?_eq_getElem hm]
  exact List.getElem_mem hm
theorem mm_lay_len : ∀ q ∈ mm_lay, q.2 < 5000 ∧ (q.1 = 0 → q.2 < 9) := by decide +kernel
theorem mm_up_ge {S : mm_S} {a : Nat} {k x : Int} {b : Nat} (h : b ≠ a) : mm_up S a k x b = S b := mm_up_ne (fun q => h (by omega))
theorem mm_tys_at {P : Nat → ClassId} : (mm_tys P)[0]? = some (P 1, .int) ∧ (mm_tys P)[1]? = some (P 2, .long) ∧ (mm_tys P)[2]? = some (P 3, .byte) ∧ (mm_tys P)[3]? = some (P 4, .boolean) ∧ (mm_tys P)[4]? = some (P 5, .object "PagesByLevels$Complex") ∧ (mm_tys P)[5]? = some (P 6, .object "PagesByLevels$Sheet") := ⟨rfl, rfl, rfl, rfl, rfl, rfl⟩
theorem mm_fit_nar3 {x : Int} (h : -128 ≤ x ∧ x ≤ 127) : vp_nar .byte (Int32.ofInt x) = Int32.ofInt x := by
  show (Int32.ofInt x).toInt8.toInt32 = _
  rw [mm_i2b ⟨by omega, by omega⟩]
  congr 1
  rw [Int.bmod_def]; split <;> omega
theorem mm_fit_nar4 {x : Int} (h : x = 0 ∨ x = 1) : vp_nar .boolean (Int32.ofInt x) = Int32.ofInt x := by
  rcases h with rfl | rfl <;> decide

theorem mm_putf_inv {nx r1 r2 : Nat} {st : List mm_V} {S : mm_S} {pc' : Nat} {st' : List mm_V} {S' : mm_S} (ho : mm_putf nx r1 r2 st S = some (pc', st', S')) : ∃ (u : Nat) (x a : Int), st = (u, x) :: (2, a) :: st' ∧ mm_ob a r1 = true ∧ mm_pg (mm_fk r1 r2) u x = true ∧ pc' = nx ∧ S' = mm_up S a r2 x := by
  unfold mm_putf at ho
  split at ho
  · rename_i u x a t
    split at ho
    · rename_i h2
      cases ho
      rw [Bool.and_eq_true] at h2
      exact ⟨u, x, a, rfl, h2.1, h2.2, rfl, rfl⟩
    · cases ho
  · cases ho
theorem mm_ra_ok {a i : Int} (ha : 0 ≤ a) (h : (mm_kd a.toNat).1 ∈ [5, 6]) (hi : 0 ≤ i) : 0 ≤ mm_ra a i := by
  have hl : a.toNat < 91 := mm_kd_lt (by rcases (show (mm_kd a.toNat).1 = 5 ∨ (mm_kd a.toNat).1 = 6 by simpa using h) with hk | hk <;> rw [hk] <;> decide)
  have key : ∀ n, n < 91 → (mm_kd n).1 ∈ [5, 6] → n = 1 ∨ n = 2 ∨ n = 22 := by decide +kernel
  rcases key _ hl h with z | z | z
  · rw [show a = 1 by omega]; show 0 ≤ 23 + 10 * i; omega
  · rw [show a = 2 by omega]; show 0 ≤ 28 + 10 * i; omega
  · rw [show a = 22 by omega]; show 0 ≤ 63 + 2 * i; omega
theorem mm_updq {R : Int → Int} {i x : Int} (hi : 0 ≤ i) : (fun (j : Nat) => Int32.ofInt (if (j : Int) = i then x else R j)) = upd (fun (j : Nat) => Int32.ofInt (R j)) i.toNat (Int32.ofInt x) := by
  funext j
  unfold upd
  by_cases h : j = i.toNat
  · rw [if_pos h, if_pos (by omega)]
  · rw [if_neg h, if_neg (by omega)]
theorem mm_updl {R : Int → Int} {i x : Int} (hi : 0 ≤ i) : (fun (j : Nat) => Int64.ofInt (if (j : Int) = i then x else R j)) = vp_updL (fun (j : Nat) => Int64.ofInt (R j)) i.toNat (Int64.ofInt x) := by
  funext j
  unfold vp_updL
  by_cases h : j = i.toNat
  · rw [if_pos h, if_pos (by omega)]
  · rw [if_neg h, if_neg (by omega)]
section OPS3
variable {p : Program} {l : Launch} {e : Env} {R : Room} {s : State} {m : MethodId} {args : Array Value} {below : List Frame} {meth : Method} {c : Code} {H H0 : Heap} {locs : List Loc} {cells slots : Nat} {Q : State → Prop} {cc : ByteArray} {ls : Array Slot} {σ : Nat → Nat} {P : Nat → ClassId} {dC : Nat → ClassId} {dI : Nat → Nat → Nat} {B0 own : Nat}
theorem mm_s_getfield {n : Nat} (C : mm_Cx p s m args own σ P dC dI B0) (hb : c.code = cc) {pc len r1 r2 : Nat} {r3 : Int} {st st' : List mm_V} {S S' : mm_S} {pc' fr lo : Nat} (hd : decode cc pc = .ok ((.getfield n), len)) (hlen : len = 3) (hok : mm_iok own fr lo (pc, (.getfield n), len, r1, r2, r3) = true) (ho : mm_op pc (.getfield n) (pc + len) r1 r2 r3 st S = some (pc', st', S')) (hir : ∀ v ∈ st, mm_ir v) (hsok : mm_sok S) (hP : va_P (dC, dI) mm_cl (mm_ws σ P S) H) (hS : va_S (fun q => B0 ≤ q) H0 H locs) (kk : mm_KK p l e R s m args below meth c H0 cells slots Q ls σ P dC dI B0 pc' st' S') : W p l e R s m args below meth c H locs cells slots Q (F0 m pc ls (st.map (mm_rl σ))) := by
  obtain ⟨hx, hown, hts, hK, hN, hap⟩ := C
  subst hlen
  have hsplit : ∃ a t, st = (2, a) :: t ∧ mm_ob a r1 = true ∧ pc' = pc + 3 ∧ st' = mm_gv S r1 r2 a (mm_fk r1 r2) :: t ∧ S' = S := by
    replace ho : (match mm_b1 st 2 with
      | some (a, t) => if mm_ob a r1 then some (pc + 3, mm_gv S r1 r2 a (mm_fk r1 r2) :: t, S) else none
      | none => none) = some (pc', st', S') := ho
    split at ho
    · rename_i a t h1
      split at ho
      · rename_i h2
        cases ho
        exact ⟨a, t, mm_b1_inv h1, h2, rfl, rfl, rfl⟩
      · cases ho
    · cases ho
  obtain ⟨a, t, rfl, hob, rfl, rfl, rfl⟩ := hsplit
  obtain ⟨ha0, hkd⟩ := of_decide_eq_true hob
  obtain ⟨q, hq, h⟩ := List.any_eq_true.mp hok
  have h := of_decide_eq_true h
  dsimp only at h
  obtain ⟨hw, hci, hk⟩ := mm_lf_ok q hq
  unfold mm_lfw at hw
  rw [h.1, h.2.1, h.2.2.1, h.2.2.2] at hw
  rw [h.2.2.1] at hci
  rw [h.2.2.1, h.2.2.2] at hk
  have hal : a.toNat < 91 := mm_kd_lt (by rw [hkd]; exact (by decide : (0 : Nat) < 99))
  have he := mm_ws_get (σ := σ) (P := P) (S := S') hal
  rw [mm_cell0 hkd] at he
  rw [List.map_cons, mm_rl_ref ha0]
  refine va_get (ref := (mm_F r1 r2).1) hx hb hts (mm_Fw r1 hci) hown hK hP a.toNat he (mm_Fcl r1 hci) r2 hk (hts _ hw) (fun _ z => z) (v := mm_rl σ (mm_gv S' r1 r2 a (mm_fk r1 r2))) ?_ hd (kk H locs hP hS)
  rw [List.getElem?_map, List.getElem?_range hk]
  show some (mm_rl σ (mm_gw r1 r2 (a.toNat : Int) (S' (a.toNat : Int) r2) (mm_fk r1 r2))) = _
  rw [Int.toNat_of_nonneg ha0]
  rfl
theorem mm_s_putfield {n : Nat} (C : mm_Cx p s m args own σ P dC dI B0) (hb : c.code = cc) {pc len r1 r2 : Nat} {r3 : Int} {st st' : List mm_V} {S S' : mm_S} {pc' fr lo : Nat} (hd : decode cc pc = .ok ((.putfield n), len)) (hlen : len = 3) (hok : mm_iok own fr lo (pc, (.putfield n), len, r1, r2, r3) = true) (ho : mm_op pc (.putfield n) (pc + len) r1 r2 r3 st S = some (pc', st', S')) (hir : ∀ v ∈ st, mm_ir v) (hsok : mm_sok S) (hP : va_P (dC, dI) mm_cl (mm_ws σ P S) H) (hS : va_S (fun q => B0 ≤ q) H0 H locs) (kk : mm_KK p l e R s m args below meth c H0 cells slots Q ls σ P dC dI B0 pc' st' S') : W p l e R s m args below meth c H locs cells slots Q (F0 m pc ls (st.map (mm_rl σ))) := by
  obtain ⟨hx, hown, hts, hK, hN, hap⟩ := C
  subst hlen
  have hsplit := mm_putf_inv ho
  obtain ⟨u, x, a, rfl, hob, hpg, rfl, rfl⟩ := hsplit
  obtain ⟨ha0, hkd⟩ := of_decide_eq_true hob
  obtain ⟨q, hq, h⟩ := List.any_eq_true.mp hok
  have h := of_decide_eq_true h
  dsimp only at h
  obtain ⟨hw, hci, hk⟩ := mm_lf_ok q hq
  unfold mm_lfw at hw
  rw [h.1, h.2.1, h.2.2.1, h.2.2.2] at hw
  rw [h.2.2.1] at hci
  rw [h.2.2.1, h.2.2.2] at hk
  have hal : a.toNat < 91 := mm_kd_lt (by rw [hkd]; exact (by decide : (0 : Nat) < 99))
  have he := mm_ws_get (σ := σ) (P := P) (S := S) hal
  rw [mm_cell0 hkd] at he
  obtain ⟨hk0, hk3, hk2, hk4⟩ := mm_Fki r1 hci r2 hk
  have hx1 := hir (u, x) List.mem_cons_self
  have hcase : mm_fk r1 r2 ≠ 1 ∧ narrow (mm_ty r1 r2) (mm_rl σ (u, x)) = mm_rl σ (u, x) ∧ fits (mm_ty r1 r2) (mm_rl σ (u, x)) = true ∧ mm_rl σ (u, x) = mm_rl σ (mm_gw r1 r2 a x (mm_fk r1 r2)) := by
    have hfk : mm_fk r1 r2 = 0 ∨ mm_fk r1 r2 = 2 ∨ mm_fk r1 r2 = 3 := by
      rcases (show mm_fk r1 r2 = 0 ∨ mm_fk r1 r2 = 1 ∨ mm_fk r1 r2 = 2 ∨ mm_fk r1 r2 = 3 by omega) with z | z | z | z
      · exact Or.inl z
      · rw [z] at hpg; cases hpg
      · exact Or.inr (Or.inl z)
      · exact Or.inr (Or.inr z)
    rcases hfk with z | z | z
    · rw [z] at hpg
      have hu : u = 0 := of_decide_eq_true hpg
      subst hu
      rw [hk0 z, z]
      exact ⟨by decide, rfl, rfl, rfl⟩
    · rw [z] at hpg
      have hu : u = 2 := (of_decide_eq_true hpg).1
      subst hu
      rw [hk2 z, z]
      refine ⟨by decide, ?_, ?_, rfl⟩
      · by_cases hn : x < 0
        · rw [show mm_rl σ (2, x) = .null from by unfold mm_rl; rw [if_neg (show ¬ (2 : Nat) = 0 by decide), if_neg (show ¬ (2 : Nat) = 1 by decide), if_pos hn]]; rfl
        · rw [mm_rl_ref (by omega)]; rfl
      · by_cases hn : x < 0
        · rw [show mm_rl σ (2, x) = .null from by unfold mm_rl; rw [if_neg (show ¬ (2 : Nat) = 0 by decide), if_neg (show ¬ (2 : Nat) = 1 by decide), if_pos hn]]; rfl
        · rw [mm_rl_ref (by omega)]; rfl
    · rw [z] at hpg
      obtain ⟨hu, hx01⟩ : u = 0 ∧ (x = 0 ∨ x = 1) := of_decide_eq_true hpg
      subst hu
      rw [hk3 z, z]
      refine ⟨by decide, ?_, ?_, rfl⟩
      · rcases hx01 with rfl | rfl <;> rfl
      · rcases hx01 with rfl | rfl <;> rfl
  obtain ⟨c1, c2, c3, c4⟩ := hcase
  rw [List.map_cons, List.map_cons, mm_rl_ref ha0]
  refine va_put (ref := (mm_F r1 r2).1) hx hb hts (mm_Fw r1 hci) (mm_ty r1) (mm_Fty r1 hci) (mm_Fnm r1 hci) hown hK hP (mm_ws_D hap) hS a.toNat he (mm_Fcl r1 hci) r2 hk (hts _ hw) (fun _ z => z) (mm_Ffi r1 hci r2 hk c1) (mm_Fty r1 hci r2 hk) c2 c3 (by rw [List.length_map, List.length_range]; exact hk) hd (fun H1 locs1 hP1 _ hS1 => ?_)
  refine kk H1 locs1 ?_ hS1
  rw [mm_ws_set hal (S' := mm_up S a r2 x) ?_ ?_] at hP1
  · exact hP1
  · rw [mm_cell0 hkd]
    congr 2
    apply List.ext_getElem?
    intro j
    by_cases hj : j = r2
    · subst hj
      rw [List.getElem?_set_self (by rw [List.length_map, List.length_range]; exact hk), List.getElem?_map, List.getElem?_range hk]
      simp only [Option.map_some]
      rw [c4, Int.toNat_of_nonneg ha0, mm_up_at, if_pos rfl]
    · rw [List.getElem?_set_ne (Ne.symm hj), List.getElem?_map, List.getElem?_map]
      by_cases hl : j < mm_nf r1
      · rw [List.getElem?_range hl]
        simp only [Option.map_some]
        rw [Int.toNat_of_nonneg ha0, mm_up_at, if_neg (by omega)]
      · rw [List.getElem?_eq_none (by rw [List.length_range]; omega)]
        rfl
  · intro b hbne
    have hba : (b : Int) ≠ a := by omega
    rw [mm_up_ne hba]
theorem mm_s_iaload (C : mm_Cx p s m args own σ P dC dI B0) (hb : c.code = cc) {pc len r1 r2 : Nat} {r3 : Int} {st st' : List mm_V} {S S' : mm_S} {pc' fr lo : Nat} (h7 : r1 ≠ 7) (hd : decode cc pc = .ok (.iaload, len)) (hlen : len = 1) (hok : mm_iok own fr lo (pc, .iaload, len, r1, r2, r3) = true) (ho : mm_op pc .iaload (pc + len) r1 r2 r3 st S = some (pc', st', S')) (hir : ∀ v ∈ st, mm_ir v) (hsok : mm_sok S) (hP : va_P (dC, dI) mm_cl (mm_ws σ P S) H) (hS : va_S (fun q => B0 ≤ q) H0 H locs) (kk : mm_KK p l e R s m args below meth c H0 cells slots Q ls σ P dC dI B0 pc' st' S') : W p l e R s m args below meth c H locs cells slots Q (F0 m pc ls (st.map (mm_rl σ))) := by
  obtain ⟨hx, hown, hts, hK, hN, hap⟩ := C
  subst hlen
  have ho : mm_ald (pc + 1) st S [1] (fun a j => (0, S a j)) = some (pc', st', S') := by
    have h2 : (if r1 = 7 then _ else mm_ald (pc + 1) st S [1] (fun a j => (0, S a j))) = some (pc', st', S') := ho
    rwa [if_neg h7] at h2
  obtain ⟨a, i, r, rfl, ⟨ha0, hks, hi0, hi1⟩, rfl, rfl, rfl⟩ := mm_ald_inv ho
  have hk : (mm_kd a.toNat).1 = 1 := by simpa using hks
  have hi32 := (hir _ List.mem_cons_self).1 rfl
  obtain ⟨hin, hnn⟩ := mm_nn hi32 hi0 hi1
  rw [List.map_cons, List.map_cons, mm_rl_ref ha0]
  have hal : a.toNat < 91 := mm_kd_lt (by rw [hk]; decide)
  have he := mm_ws_get (σ := σ) (P := P) (S := S') hal
  rw [mm_cell1 (Or.inl hk)] at he
  refine va_iald hx hb hK hP a.toNat 0 he (by rw [hk]; exact mm_tys_at.1) hin hd ?_
  rw [hnn]
  have k1 := kk H locs hP hS
  dsimp only
  rw [Int.toNat_of_nonneg ha0, Int.toNat_of_nonneg hi0]
  exact k1
theorem mm_s_laload (C : mm_Cx p s m args own σ P dC dI B0) (hb : c.code = cc) {pc len r1 r2 : Nat} {r3 : Int} {st st' : List mm_V} {S S' : mm_S} {pc' fr lo : Nat} (hd : decode cc pc = .ok (.laload, len)) (hlen : len = 1) (hok : mm_iok own fr lo (pc, .laload, len, r1, r2, r3) = true) (ho : mm_op pc .laload (pc + len) r1 r2 r3 st S = some (pc', st', S')) (hir : ∀ v ∈ st, mm_ir v) (hsok : mm_sok S) (hP : va_P (dC, dI) mm_cl (mm_ws σ P S) H) (hS : va_S (fun q => B0 ≤ q) H0 H locs) (kk : mm_KK p l e R s m args below meth c H0 cells slots Q ls σ P dC dI B0 pc' st' S') : W p l e R s m args below meth c H locs cells slots Q (F0 m pc ls (st.map (mm_rl σ))) := by
  obtain ⟨hx, hown, hts, hK, hN, hap⟩ := C
  subst hlen
  obtain ⟨a, i, r, rfl, ⟨ha0, hks, hi0, hi1⟩, rfl, rfl, rfl⟩ := mm_ald_inv ho
  have hk : (mm_kd a.toNat).1 = 2 := by simpa using hks
  have hi32 := (hir _ List.mem_cons_self).1 rfl
  obtain ⟨hin, hnn⟩ := mm_nn hi32 hi0 hi1
  rw [List.map_cons, List.map_cons, mm_rl_ref ha0]
  have hal : a.toNat < 91 := mm_kd_lt (by rw [hk]; decide)
  have he := mm_ws_get (σ := σ) (P := P) (S := S') hal
  rw [mm_cell2 hk] at he
  refine va_lald hx hb hK hP a.toNat 1 he mm_tys_at.2.1 hin hd ?_
  rw [hnn]
  have k1 := kk H locs hP hS
  dsimp only
  rw [Int.toNat_of_nonneg ha0, Int.toNat_of_nonneg hi0]
  exact k1
theorem mm_s_baload (C : mm_Cx p s m args own σ P dC dI B0) (hb : c.code = cc) {pc len r1 r2 : Nat} {r3 : Int} {st st' : List mm_V} {S S' : mm_S} {pc' fr lo : Nat} (hd : decode cc pc = .ok (.baload, len)) (hlen : len = 1) (hok : mm_iok own fr lo (pc, .baload, len, r1, r2, r3) = true) (ho : mm_op pc .baload (pc + len) r1 r2 r3 st S = some (pc', st', S')) (hir : ∀ v ∈ st, mm_ir v) (hsok : mm_sok S) (hP : va_P (dC, dI) mm_cl (mm_ws σ P S) H) (hS : va_S (fun q => B0 ≤ q) H0 H locs) (kk : mm_KK p l e R s m args below meth c H0 cells slots Q ls σ P dC dI B0 pc' st' S') : W p l e R s m args below meth c H locs cells slots Q (F0 m pc ls (st.map (mm_rl σ))) := by
  obtain ⟨hx, hown, hts, hK, hN, hap⟩ := C
  subst hlen
  obtain ⟨a, i, r, rfl, ⟨ha0, hks, hi0, hi1⟩, rfl, rfl, rfl⟩ := mm_ald_inv ho
  have hi32 := (hir _ List.mem_cons_self).1 rfl
  obtain ⟨hin, hnn⟩ := mm_nn hi32 hi0 hi1
  rw [List.map_cons, List.map_cons, mm_rl_ref ha0]
  have k1 := kk H locs hP hS
  rcases (show (mm_kd a.toNat).1 = 3 ∨ (mm_kd a.toNat).1 = 4 by simpa using hks) with hk | hk
  · have hal : a.toNat < 91 := mm_kd_lt (by rw [hk]; decide)
    have he := mm_ws_get (σ := σ) (P := P) (S := S') hal
    rw [mm_cell1 (Or.inr (Or.inl hk))] at he
    refine va_bald hx hb hK hP a.toNat 2 he (by rw [hk]; exact mm_tys_at.2.2.1) hin hd ?_
    rw [hnn]
    dsimp only
    rw [Int.toNat_of_nonneg ha0, Int.toNat_of_nonneg hi0]
    exact k1
  · have hal : a.toNat < 91 := mm_kd_lt (by rw [hk]; decide)
    have he := mm_ws_get (σ := σ) (P := P) (S := S') hal
    rw [mm_cell1 (Or.inr (Or.inr hk))] at he
    refine va_zald hx hb hK hP a.toNat 3 he (by rw [hk]; exact mm_tys_at.2.2.2.1) hin hd ?_
    rw [hnn]
    dsimp only
    rw [Int.toNat_of_nonneg ha0, Int.toNat_of_nonneg hi0]
    exact k1
theorem mm_s_aaload (C : mm_Cx p s m args own σ P dC dI B0) (hb : c.code = cc) {pc len r1 r2 : Nat} {r3 : Int} {st st' : List mm_V} {S S' : mm_S} {pc' fr lo : Nat} (hd : decode cc pc = .ok (.aaload, len)) (hlen : len = 1) (hok : mm_iok own fr lo (pc, .aaload, len, r1, r2, r3) = true) (ho : mm_op pc .aaload (pc + len) r1 r2 r3 st S = some (pc', st', S')) (hir : ∀ v ∈ st, mm_ir v) (hsok : mm_sok S) (hP : va_P (dC, dI) mm_cl (mm_ws σ P S) H) (hS : va_S (fun q => B0 ≤ q) H0 H locs) (kk : mm_KK p l e R s m args below meth c H0 cells slots Q ls σ P dC dI B0 pc' st' S') : W p l e R s m args below meth c H locs cells slots Q (F0 m pc ls (st.map (mm_rl σ))) := by
  obtain ⟨hx, hown, hts, hK, hN, hap⟩ := C
  subst hlen
  obtain ⟨a, i, r, rfl, ⟨ha0, hks, hi0, hi1⟩, rfl, rfl, rfl⟩ := mm_ald_inv ho
  have hi32 := (hir _ List.mem_cons_self).1 rfl
  obtain ⟨hin, hnn⟩ := mm_nn hi32 hi0 hi1
  rw [List.map_cons, List.map_cons, mm_rl_ref ha0]
  have k1 := kk H locs hP hS
  have hra : 0 ≤ mm_ra a i := mm_ra_ok ha0 hks hi0
  have hal : a.toNat < 91 := mm_kd_lt (by rcases (show (mm_kd a.toNat).1 = 5 ∨ (mm_kd a.toNat).1 = 6 by simpa using hks) with hk | hk <;> rw [hk] <;> decide)
  have he := mm_ws_get (σ := σ) (P := P) (S := S') hal
  rcases (show (mm_kd a.toNat).1 = 5 ∨ (mm_kd a.toNat).1 = 6 by simpa using hks) with hk | hk
  · rw [mm_cell5 (Or.inl hk)] at he
    refine va_aldq (C := "PagesByLevels$Complex") hx hb hK hP a.toNat 4 he (by rw [hk]; exact mm_tys_at.2.2.2.2.1) hin hd ?_
    rw [hnn]
    dsimp only
    rw [Int.toNat_of_nonneg ha0, Int.toNat_of_nonneg hi0]
    rw [List.map_cons, mm_rl_ref hra] at k1
    exact k1
  · rw [mm_cell5 (Or.inr hk)] at he
    refine va_aldq (C := "PagesByLevels$Sheet") hx hb hK hP a.toNat 5 he (by rw [hk]; exact mm_tys_at.2.2.2.2.2) hin hd ?_
    rw [hnn]
    dsimp only
    rw [Int.toNat_of_nonneg ha0, Int.toNat_of_nonneg hi0]
    rw [List.map_cons, mm_rl_ref hra] at k1
    exact k1
theorem mm_s_iastore (C : mm_Cx p s m args own σ P dC dI B0) (hb : c.code = cc) {pc len r1 r2 : Nat} {r3 : Int} {st st' : List mm_V} {S S' : mm_S} {pc' fr lo : Nat} (hd : decode cc pc = .ok (.iastore, len)) (hlen : len = 1) (hok : mm_iok own fr lo (pc, .iastore, len, r1, r2, r3) = true) (ho : mm_op pc .iastore (pc + len) r1 r2 r3 st S = some (pc', st', S')) (hir : ∀ v ∈ st, mm_ir v) (hsok : mm_sok S) (hP : va_P (dC, dI) mm_cl (mm_ws σ P S) H) (hS : va_S (fun q => B0 ≤ q) H0 H locs) (kk : mm_KK p l e R s m args below meth c H0 cells slots Q ls σ P dC dI B0 pc' st' S') : W p l e R s m args below meth c H locs cells slots Q (F0 m pc ls (st.map (mm_rl σ))) := by
  obtain ⟨hx, hown, hts, hK, hN, hap⟩ := C
  subst hlen
  obtain ⟨a, i, x, rfl, ⟨ha0, hks, hi0, hi1⟩, hg, rfl, rfl⟩ := mm_ast_inv (pc := pc + 1) (st := st) (S := S) (ks := [1]) (t := 0) (g := fun _ _ => true) ho
  have hk : (mm_kd a.toNat).1 = 1 := by simpa using hks
  have hi32 := (hir _ (List.mem_cons_of_mem _ List.mem_cons_self)).1 rfl
  obtain ⟨hin, hnn⟩ := mm_nn hi32 hi0 hi1
  rw [List.map_cons, List.map_cons, List.map_cons, mm_rl_ref ha0]
  have hal : a.toNat < 91 := mm_kd_lt (by rw [hk]; decide)
  have he := mm_ws_get (σ := σ) (P := P) (S := S) hal
  rw [mm_cell1 (Or.inl hk)] at he
  refine va_iast (x := Int32.ofInt x) hx hb hK hP (mm_ws_D hap) hS a.toNat 0 he (by rw [hk]; exact mm_tys_at.1) hin hd (fun H1 locs1 hP1 _ hS1 => kk H1 locs1 ?_ hS1)
  rw [mm_ws_set hal (S' := mm_up S a i x) ?_ ?_] at hP1
  · exact hP1
  · rw [mm_cell1 (Or.inl hk), hnn, ← mm_updq hi0]
    congr 4
    funext j
    rw [Int.toNat_of_nonneg ha0, mm_up_at]
  · intro b hbne
    have hba : (b : Int) ≠ a := by omega
    rw [mm_up_ne hba]
theorem mm_s_lastore (C : mm_Cx p s m args own σ P dC dI B0) (hb : c.code = cc) {pc len r1 r2 : Nat} {r3 : Int} {st st' : List mm_V} {S S' : mm_S} {pc' fr lo : Nat} (hd : decode cc pc = .ok (.lastore, len)) (hlen : len = 1) (hok : mm_iok own fr lo (pc, .lastore, len, r1, r2, r3) = true) (ho : mm_op pc .lastore (pc + len) r1 r2 r3 st S = some (pc', st', S')) (hir : ∀ v ∈ st, mm_ir v) (hsok : mm_sok S) (hP : va_P (dC, dI) mm_cl (mm_ws σ P S) H) (hS : va_S (fun q => B0 ≤ q) H0 H locs) (kk : mm_KK p l e R s m args below meth c H0 cells slots Q ls σ P dC dI B0 pc' st' S') : W p l e R s m args below meth c H locs cells slots Q (F0 m pc ls (st.map (mm_rl σ))) := by
  obtain ⟨hx, hown, hts, hK, hN, hap⟩ := C
  subst hlen
  obtain ⟨a, i, x, rfl, ⟨ha0, hks, hi0, hi1⟩, hg, rfl, rfl⟩ := mm_ast_inv (pc := pc + 1) (st := st) (S := S) (ks := [2]) (t := 1) (g := fun _ _ => true) ho
  have hk : (mm_kd a.toNat).1 = 2 := by simpa using hks
  have hi32 := (hir _ (List.mem_cons_of_mem _ List.mem_cons_self)).1 rfl
  obtain ⟨hin, hnn⟩ := mm_nn hi32 hi0 hi1
  rw [List.map_cons, List.map_cons, List.map_cons, mm_rl_ref ha0]
  have hal : a.toNat < 91 := mm_kd_lt (by rw [hk]; decide)
  have he := mm_ws_get (σ := σ) (P := P) (S := S) hal
  rw [mm_cell2 hk] at he
  refine va_last (x := Int64.ofInt x) hx hb hK hP (mm_ws_D hap) hS a.toNat 1 he (by exact mm_tys_at.2.1) hin hd (fun H1 locs1 hP1 _ hS1 => kk H1 locs1 ?_ hS1)
  rw [mm_ws_set hal (S' := mm_up S a i x) ?_ ?_] at hP1
  · exact hP1
  · rw [mm_cell2 hk, hnn, ← mm_updl hi0]
    congr 5
    funext j
    rw [Int.toNat_of_nonneg ha0, mm_up_at]
  · intro b hbne
    have hba : (b : Int) ≠ a := by omega
    rw [mm_up_ne hba]
theorem mm_s_bastore (C : mm_Cx p s m args own σ P dC dI B0) (hb : c.code = cc) {pc len r1 r2 : Nat} {r3 : Int} {st st' : List mm_V} {S S' : mm_S} {pc' fr lo : Nat} (hd : decode cc pc = .ok (.bastore, len)) (hlen : len = 1) (hok : mm_iok own fr lo (pc, .bastore, len, r1, r2, r3) = true) (ho : mm_op pc .bastore (pc + len) r1 r2 r3 st S = some (pc', st', S')) (hir : ∀ v ∈ st, mm_ir v) (hsok : mm_sok S) (hP : va_P (dC, dI) mm_cl (mm_ws σ P S) H) (hS : va_S (fun q => B0 ≤ q) H0 H locs) (kk : mm_KK p l e R s m args below meth c H0 cells slots Q ls σ P dC dI B0 pc' st' S') : W p l e R s m args below meth c H locs cells slots Q (F0 m pc ls (st.map (mm_rl σ))) := by
  obtain ⟨hx, hown, hts, hK, hN, hap⟩ := C
  subst hlen
  obtain ⟨a, i, x, rfl, ⟨ha0, hks, hi0, hi1⟩, hg, rfl, rfl⟩ := mm_ast_inv (pc := pc + 1) (st := st) (S := S) (ks := [3, 4]) (t := 0) (g := mm_fit) ho
  have hi32 := (hir _ (List.mem_cons_of_mem _ List.mem_cons_self)).1 rfl
  obtain ⟨hin, hnn⟩ := mm_nn hi32 hi0 hi1
  rw [List.map_cons, List.map_cons, List.map_cons, mm_rl_ref ha0]
  rcases (show (mm_kd a.toNat).1 = 3 ∨ (mm_kd a.toNat).1 = 4 by simpa using hks) with hk | hk
  · rw [hk] at hg
    have hf := mm_fit_nar3 (of_decide_eq_true hg)
    have hal : a.toNat < 91 := mm_kd_lt (by rw [hk]; decide)
    have he := mm_ws_get (σ := σ) (P := P) (S := S) hal
    rw [mm_cell1 (Or.inr (Or.inl hk))] at he
    refine va_bast (x := Int32.ofInt x) hx hb hK hP (mm_ws_D hap) hS a.toNat 2 he (by rw [hk]; exact mm_tys_at.2.2.1) hin hd (fun H1 locs1 hP1 _ hS1 => kk H1 locs1 ?_ hS1)
    rw [mm_ws_set hal (S' := mm_up S a i x) ?_ ?_] at hP1
    · exact hP1
    · rw [mm_cell1 (Or.inr (Or.inl hk)), hnn, hf, ← mm_updq hi0]
      congr 4
      funext j
      rw [Int.toNat_of_nonneg ha0, mm_up_at]
    · intro b hbne
      have hba : (b : Int) ≠ a := by omega
      rw [mm_up_ne hba]
  · rw [hk] at hg
    have hf := mm_fit_nar4 (of_decide_eq_true hg)
    have hal : a.toNat < 91 := mm_kd_lt (by rw [hk]; decide)
    have he := mm_ws_get (σ := σ) (P := P) (S := S) hal
    rw [mm_cell1 (Or.inr (Or.inr hk))] at he
    refine va_zast (x := Int32.ofInt x) hx hb hK hP (mm_ws_D hap) hS a.toNat 3 he (by rw [hk]; exact mm_tys_at.2.2.2.1) hin hd (fun H1 locs1 hP1 _ hS1 => kk H1 locs1 ?_ hS1)
    rw [mm_ws_set hal (S' := mm_up S a i x) ?_ ?_] at hP1
    · exact hP1
    · rw [mm_cell1 (Or.inr (Or.inr hk)), hnn, hf, ← mm_updq hi0]
      congr 4
      funext j
      rw [Int.toNat_of_nonneg ha0, mm_up_at]
    · intro b hbne
      have hba : (b : Int) ≠ a := by omega
      rw [mm_up_ne hba]
theorem mm_s_arraylength (C : mm_Cx p s m args own σ P dC dI B0) (hb : c.code = cc) {pc len r1 r2 : Nat} {r3 : Int} {st st' : List mm_V} {S S' : mm_S} {pc' fr lo : Nat} (h7 : r1 ≠ 7) (hd : decode cc pc = .ok (.arraylength, len)) (hlen : len = 1) (hok : mm_iok own fr lo (pc, .arraylength, len, r1, r2, r3) = true) (ho : mm_op pc .arraylength (pc + len) r1 r2 r3 st S = some (pc', st', S')) (hir : ∀ v ∈ st, mm_ir v) (hsok : mm_sok S) (hP : va_P (dC, dI) mm_cl (mm_ws σ P S) H) (hS : va_S (fun q => B0 ≤ q) H0 H locs) (kk : mm_KK p l e R s m args below meth c H0 cells slots Q ls σ P dC dI B0 pc' st' S') : W p l e R s m args below meth c H locs cells slots Q (F0 m pc ls (st.map (mm_rl σ))) := by
  obtain ⟨hx, hown, hts, hK, hN, hap⟩ := C
  subst hlen
  have hsplit : ∃ a t, st = (2, a) :: t ∧ (0 ≤ a ∧ 0 < (mm_kd a.toNat).1 ∧ (mm_kd a.toNat).1 < 7) ∧ pc' = pc + 1 ∧ st' = (0, ((mm_kd a.toNat).2 : Int)) :: t ∧ S' = S := by
    replace ho : (match mm_b1 st 2 with
      | some (a, t) => if r1 = 7 then (if a = 1000 then some (pc + 1, (0, S 1000 (-1)) :: t, S) else none) else
        if 0 ≤ a ∧ 0 < (mm_kd a.toNat).1 ∧ (mm_kd a.toNat).1 < 7 then some (pc + 1, (0, ((mm_kd a.toNat).2 : Int)) :: t, S) else none
      | none => none) = some (pc', st', S') := ho
    split at ho
    · rename_i a t h1
      rw [if_neg h7] at ho
      split at ho
      · rename_i h2
        cases ho
        exact ⟨a, t, mm_b1_inv h1, h2, rfl, rfl, rfl⟩
      · cases ho
    · cases ho
  obtain ⟨a, t, rfl, ⟨ha0, hk0, hk7⟩, rfl, rfl, rfl⟩ := hsplit
  have hal : a.toNat < 91 := mm_kd_lt (by omega)
  have he := mm_ws_get (σ := σ) (P := P) (S := S') hal
  rw [List.map_cons, mm_rl_ref ha0]
  have k1 := kk H locs hP hS
  have hv : Int32.ofNat (mm_kd a.toNat).2 = Int32.ofInt ((mm_kd a.toNat).2 : Int) := Int32.ofInt_eq_ofNat.symm
  rcases (show (mm_kd a.toNat).1 = 1 ∨ (mm_kd a.toNat).1 = 2 ∨ (mm_kd a.toNat).1 = 3 ∨ (mm_kd a.toNat).1 = 4 ∨ (mm_kd a.toNat).1 = 5 ∨ (mm_kd a.toNat).1 = 6 by omega) with hk | hk | hk | hk | hk | hk
  · rw [mm_cell1 (Or.inl hk)] at he
    exact va_alen hx hb hK hP a.toNat 0 he (by rw [hk]; exact mm_tys_at.1) hv hd k1
  · rw [mm_cell2 hk] at he
    exact va_alen hx hb hK hP a.toNat 1 he mm_tys_at.2.1 hv hd k1
  · rw [mm_cell1 (Or.inr (Or.inl hk))] at he
    exact va_alen hx hb hK hP a.toNat 2 he (by rw [hk]; exact mm_tys_at.2.2.1) hv hd k1
  · rw [mm_cell1 (Or.inr (Or.inr hk))] at he
    exact va_alen hx hb hK hP a.toNat 3 he (by rw [hk]; exact mm_tys_at.2.2.2.1) hv hd k1
  · rw [mm_cell5 (Or.inl hk)] at he
    exact va_alen hx hb hK hP a.toNat 4 he (by rw [hk]; exact mm_tys_at.2.2.2.2.1) hv hd k1
  · rw [mm_cell5 (Or.inr hk)] at he
    exact va_alen hx hb hK hP a.toNat 5 he (by rw [hk]; exact mm_tys_at.2.2.2.2.2) hv hd k1
theorem mm_s_tableswitch {d lw hi : Int} {offs : Array Int} (C : mm_Cx p s m args own σ P dC dI B0) (hb : c.code = cc) {pc len r1 r2 : Nat} {r3 : Int} {st st' : List mm_V} {S S' : mm_S} {pc' fr lo : Nat} (hd : decode cc pc = .ok ((.tableswitch d lw hi offs), len)) (hok : mm_iok own fr lo (pc, (.tableswitch d lw hi offs), len, r1, r2, r3) = true) (ho : mm_op pc (.tableswitch d lw hi offs) (pc + len) r1 r2 r3 st S = some (pc', st', S')) (hir : ∀ v ∈ st, mm_ir v) (hsok : mm_sok S) (hP : va_P (dC, dI) mm_cl (mm_ws σ P S) H) (hS : va_S (fun q => B0 ≤ q) H0 H locs) (kk : mm_KK p l e R s m args below meth c H0 cells slots Q ls σ P dC dI B0 pc' st' S') : W p l e R s m args below meth c H locs cells slots Q (F0 m pc ls (st.map (mm_rl σ))) := by
  obtain ⟨hx, hown, hts, hK, hN, hap⟩ := C
  have hok2 : (decide (0 ≤ (pc : Int) + d ∧ -1000000 < lw ∧ hi < 1000000 ∧ (offs.size : Int) = hi - lw + 1) && offs.toList.all fun o => decide (0 ≤ (pc : Int) + o)) = true := hok
  rw [Bool.and_eq_true] at hok2
  obtain ⟨hd0, -, -, hsz⟩ := of_decide_eq_true hok2.1
  have hall := List.all_eq_true.mp hok2.2
  replace ho : (match mm_b1 st 0 with
    | some (x, r) => if lw ≤ x ∧ x ≤ hi then some (((pc : Int) + (offs[(x - lw).toNat]?).getD 0).toNat, r, S) else some (((pc : Int) + d).toNat, r, S)
    | none => none) = some (pc', st', S') := ho
  split at ho
  · rename_i x r h1
    have hst := mm_b1_inv h1
    subst hst
    have hx1 := (hir _ List.mem_cons_self).1 rfl
    split at ho
    · rename_i h2
      cases ho
      have hl : (x - lw).toNat < offs.size := by omega
      have hg : offs[(x - lw).toNat]? = some offs[(x - lw).toNat] := Array.getElem?_eq_getElem hl
      have k1 := kk H locs hP hS
      rw [hg] at k1
      have hoff : 0 ≤ (pc : Int) + offs[(x - lw).toNat] := of_decide_eq_true (hall _ (by rw [Array.mem_toList_iff]; exact Array.getElem_mem hl))
      exact lv_tableIn (x := Int32.ofInt x) hx hb hd (by rw [mm_toInt32 hx1]; omega) (by rw [mm_toInt32 hx1]; omega) (by rw [mm_toInt32 hx1]; exact hg) (Int.toNat_of_nonneg hoff).symm k1
    · rename_i h2
      cases ho
      exact lv_tableOut (x := Int32.ofInt x) hx hb hd (by rw [mm_toInt32 hx1]; omega) (Int.toNat_of_nonneg hd0).symm (kk H locs hP hS)
  · cases ho
theorem mm_s_arraycopy {n0 : Nat} (C : mm_Cx p s m args own σ P dC dI B0) (hb : c.code = cc) (hml : c.maxLocals = ls.size) {pc len r2 : Nat} {r3 : Int} {st st' : List mm_V} {S S' : mm_S} {pc' fr lo : Nat} (hR : fr ≤ R.frames ∧ lo ≤ R.locals) (hd : decode cc pc = .ok ((.invokestatic n0), len)) (hlen : len = 3) (hok : mm_iok own fr lo (pc, (.invokestatic n0), len, 999, r2, r3) = true) (ho : mm_op pc (.invokestatic n0) (pc + len) 999 r2 r3 st S = some (pc', st', S')) (hir : ∀ v ∈ st, mm_ir v) (hsok : mm_sok S) (hP : va_P (dC, dI) mm_cl (mm_ws σ P S) H) (hS : va_S (fun q => B0 ≤ q) H0 H locs) (kk : mm_KK p l e R s m args below meth c H0 cells slots Q ls σ P dC dI B0 pc' st' S') : W p l e R s m args below meth c H locs cells slots Q (F0 m pc ls (st.map (mm_rl σ))) := by
  obtain ⟨hx, hown, hts, hK, hN, hap⟩ := C
  subst hlen
  have hok2 : (mm_la.any (fun q => decide (q.1 = own ∧ q.2.1 = n0)) && decide (1 ≤ fr ∧ 26 ≤ lo)) = true := hok
  rw [Bool.and_eq_true] at hok2
  obtain ⟨q, hq, h⟩ := List.any_eq_true.mp hok2.1
  have h := of_decide_eq_true h
  have hw := mm_la_ok q hq
  rw [h.1, h.2] at hw
  have hroom := of_decide_eq_true hok2.2
  have hfr : 1 ≤ R.frames := by omega
  replace ho : mm_acp (pc + 3) st S = some (pc', st', S') := ho
  unfold mm_acp at ho
  split at ho
  · rename_i n dp b sp a r
    split at ho
    · rename_i hg
      cases ho
      obtain ⟨ha0, hb0, hsp, hdp, hn, hl0, hl1, hkk, hk, hcs⟩ := hg
      have hn32 := (hir (0, n) List.mem_cons_self).1 rfl
      have hdp32 := (hir (0, dp) (by simp)).1 rfl
      have hsp32 := (hir (0, sp) (by simp)).1 rfl
      have en : (Int32.ofInt n).toNatClampNeg = n.toNat := Int32.toNatClampNeg_ofInt_of_le (by have := hn32.1; omega) (by have := hn32.2; omega)
      have edp : (Int32.ofInt dp).toNatClampNeg = dp.toNat := Int32.toNatClampNeg_ofInt_of_le (by have := hdp32.1; omega) (by have := hdp32.2; omega)
      have esp : (Int32.ofInt sp).toNatClampNeg = sp.toNat := Int32.toNatClampNeg_ofInt_of_le (by have := hsp32.1; omega) (by have := hsp32.2; omega)
      have h0 : ∀ {z : Int}, mm_r32 z → 0 ≤ z → ¬ Int32.ofInt z < 0 := fun hz h0 q => by
        have := (mm_lt32 hz mm_r32_0).mp q
        omega
      have hal : a.toNat < 91 := mm_kd_lt (by rcases hk with hk | hk <;> rw [hk] <;> decide)
      have hal1 : b.toNat < 91 := mm_kd_lt (by rw [← hkk]; rcases hk with hk | hk <;> rw [hk] <;> decide)
      have he0 := mm_ws_get (σ := σ) (P := P) (S := S) hal
      rw [List.map_cons, List.map_cons, List.map_cons, List.map_cons, List.map_cons, mm_rl_ref ha0, mm_rl_ref hb0]
      rcases hk with hka | hka
      · have hkb : (mm_kd b.toNat).1 = 1 := by rw [← hkk]; exact hka
        rw [mm_cell1 (Or.inl hka)] at he0
        have he1 := mm_ws_get (σ := σ) (P := P) (S := S) hal1
        rw [mm_cell1 (Or.inl hkb)] at he1
        refine va_copyi hx hb hml hown (hts _ hw) (hts _ mm_acw.1) (hts _ mm_acw.2.1) (hts _ mm_acw.2.2) hK hP (mm_ws_D hap) hS a.toNat b.toNat 0 0 he0 he1 (by rw [hka]; exact mm_tys_at.1) (by rw [hkb]; exact mm_tys_at.1) rfl (sp := Int32.ofInt sp) (dp := Int32.ofInt dp) (n := Int32.ofInt n) (h0 hsp32 hsp) (h0 hdp32 hdp) (h0 hn32 hn) (by rw [esp, en]; omega) (by rw [edp, en]; omega) (fun _ _ => rfl) hfr (by
          have := mm_cat_sum σ st'
          have hfw : nativeFrameWords "java/lang/System" "arraycopy" 5 ≤ 7 := by decide +kernel
          omega) hd (fun H1 locs1 hP1 _ hS1 => kk H1 locs1 ?_ hS1)
        rw [mm_ws_set hal1 (S' := mm_cpy S a sp b dp n) ?_ ?_] at hP1
        · exact hP1
        · rw [mm_cell1 (Or.inl hkb), esp, edp, en]
          congr 4
          funext j
          unfold va_cpy mm_cpy
          rw [Int.toNat_of_nonneg hb0]
          by_cases hj : dp ≤ (j : Int) ∧ (j : Int) < dp + n
          · rw [if_pos ⟨rfl, hj.1, hj.2⟩, if_pos (by omega), Int.toNat_of_nonneg ha0]
            congr 2
            omega
          · rw [if_neg (fun q => hj q.2), if_neg (by omega)]
        · intro z hz
          congr 1
          funext j
          unfold mm_cpy
          rw [if_neg (fun q => hz (by omega))]
      · have hkb : (mm_kd b.toNat).1 = 2 := by rw [← hkk]; exact hka
        rw [mm_cell2 hka] at he0
        have he1 := mm_ws_get (σ := σ) (P := P) (S := S) hal1
        rw [mm_cell2 hkb] at he1
        refine va_copyl hx hb hml hown (hts _ hw) (hts _ mm_acw.1) (hts _ mm_acw.2.1) (hts _ mm_acw.2.2) hK hP (mm_ws_D hap) hS a.toNat b.toNat 1 1 he0 he1 mm_tys_at.2.1 mm_tys_at.2.1 rfl (sp := Int32.ofInt sp) (dp := Int32.ofInt dp) (n := Int32.ofInt n) (h0 hsp32 hsp) (h0 hdp32 hdp) (h0 hn32 hn) (by rw [esp, en]; omega) (by rw [edp, en]; omega) (fun _ _ => rfl) hfr (by
          have := mm_cat_sum σ st'
          have hfw : nativeFrameWords "java/lang/System" "arraycopy" 5 ≤ 7 := by decide +kernel
          omega) hd (fun H1 locs1 hP1 _ hS1 => kk H1 locs1 ?_ hS1)
        rw [mm_ws_set hal1 (S' := mm_cpy S a sp b dp n) ?_ ?_] at hP1
        · exact hP1
        · rw [mm_cell2 hkb, esp, edp, en]
          congr 5
          funext j
          unfold va_cpy mm_cpy
          rw [Int.toNat_of_nonneg hb0]
          by_cases hj : dp ≤ (j : Int) ∧ (j : Int) < dp + n
          · rw [if_pos ⟨rfl, hj.1, hj.2⟩, if_pos (by omega), Int.toNat_of_nonneg ha0]
            congr 2
            omega
          · rw [if_neg (fun q => hj q.2), if_neg (by omega)]
        · intro z hz
          congr 1
          funext j
          unfold mm_cpy
          rw [if_neg (fun q => hz (by omega))]
    · cases ho
  · cases ho
end OPS3
