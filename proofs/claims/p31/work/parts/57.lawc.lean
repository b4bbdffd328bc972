/-! The law: its cases. -/
def WS (S : mm_S) (A : mm_A) (L : Nat) : Prop := RC S A ∧ RR S A ∧ Vs A ∧ S 1000 (-1) = (L : Int) ∧ ∀ j, mm_r32 (S 1000 j)
theorem i64r (x : Int64) : mm_r64 x.toInt := ⟨x.le_toInt, by have := x.toInt_lt; omega⟩
theorem R_ld1000 {cd : List mm_E} {pc len r2 : Nat} {r3 : Int} {ls st : List mm_V} {S S0 : mm_S} {Q : Option mm_V → mm_S → Prop} {i : Int} {nx : Nat} (hf : mm_find cd pc = some (pc, .iaload, len, 7, r2, r3)) (hn : pc + len = nx) (e : S 1000 = S0 1000) (h0 : 0 ≤ i) (h1 : i < S 1000 (-1)) (k : Rn cd nx ls ((0, S0 1000 i) :: st) S Q) : Rn cd pc ls ((0, i) :: (2, 1000) :: st) S Q := by
  subst hn
  rw [← e] at k
  exact Rn.op _ hf (show (if (7 : Nat) = 7 then (if (1000 : Int) = 1000 ∧ 0 ≤ i ∧ i < S 1000 (-1) then some (pc + len, (0, S 1000 i) :: st, S) else none) else mm_ald (pc + len) ((0, i) :: (2, 1000) :: st) S [1] fun a j => (0, S a j)) = _ by rw [if_pos rfl, if_pos ⟨rfl, h0, h1⟩]) k
theorem R_len1000 {cd : List mm_E} {pc len r2 : Nat} {r3 : Int} {ls st : List mm_V} {S : mm_S} {Q : Option mm_V → mm_S → Prop} {z : Int} {nx : Nat} (hf : mm_find cd pc = some (pc, .arraylength, len, 7, r2, r3)) (hn : pc + len = nx) (e : S 1000 (-1) = z) (k : Rn cd nx ls ((0, z) :: st) S Q) : Rn cd pc ls ((2, 1000) :: st) S Q := by
  subst hn
  rw [← e] at k
  exact Rn.op _ hf (show (if (7 : Nat) = 7 then (if (1000 : Int) = 1000 then some (pc + len, (0, S 1000 (-1)) :: st, S) else none) else if 0 ≤ (1000 : Int) ∧ 0 < (mm_kd (1000 : Int).toNat).1 ∧ (mm_kd (1000 : Int).toNat).1 < 7 then some (pc + len, (0, ((mm_kd (1000 : Int).toNat).2 : Int)) :: st, S) else none) = _ by rw [if_pos rfl, if_pos rfl]) k
def QL (v : Option mm_V) (_ : mm_S) : Prop := v = some (0, 1)

set_option maxRecDepth 20000 in
theorem lw_0 {S : mm_S} {A : mm_A} {L : Nat}  (hS : WS S A L) (i : Int) (hi : 0 ≤ i ∧ i + 7 ≤ (L : Int)) (hL0 : L ≤ 3584) (k : ∀ S' A', WS S' A' L → Rn k_Law_law 1544 [(2, 1000), (2, 0), (2, 71), (0, i)] [] S' QL) : Rn k_Law_law 168 [(2, 1000), (2, 0), (2, 71), (0, i)] [] S QL := by
  obtain ⟨hRC, hRR, hV, hL, hr⟩ := hS
  refine R_lo (nx := 169) (lj_0 (by decide) rfl) rfl rfl rfl ?_
  refine R_lo (nx := 170) (lj_0 (by decide) rfl) rfl rfl rfl ?_
  refine R_lo (nx := 171) (lj_0 (by decide) rfl) rfl rfl rfl ?_
  refine R_op (nx := 172) (lj_0 (by decide) rfl) rfl rfl ?_
  refine R_iadd (nx := 173) (z := (i + 1)) (lj_0 (by decide) rfl) rfl rfl ⟨by omega, by omega⟩ ?_
  refine R_ld1000 (nx := 174) (lj_0 (by decide) rfl) rfl rfl (by omega) (by omega) ?_
  refine R_call1 (nx := 177) (as := [(2, 0), (0, (S 1000 (i + 1)))]) (rest := []) (lj_0 (by decide) rfl) rfl (fun _ _ => rfl) rfl rfl rfl rfl rfl rfl rfl rfl (Cl.mono (c_P_clear S A hRC hV (S 1000 (i + 1))) ?_)
  rintro _ S1 ⟨rfl, hC1, f1⟩
  have e1 : S1 1000 = S 1000 := f1 1000 (by decide)
  have hR1 : RR S1 A := hRR.fr (R71.of (f1 71 (by decide))) fun b hb => f1 b (by omega)
  have hL1 : S1 1000 (-1) = (L : Int) := by rw [e1]; exact hL
  refine ⟨_, rfl, ?_⟩
  refine R_op (nx := 178) (lj_0 (by decide) rfl) rfl rfl ?_
  refine R_lo (nx := 179) (lj_0 (by decide) rfl) rfl rfl rfl ?_
  refine R_lo (nx := 180) (lj_0 (by decide) rfl) rfl rfl rfl ?_
  refine R_lo (nx := 181) (lj_0 (by decide) rfl) rfl rfl rfl ?_
  refine R_op (nx := 182) (lj_0 (by decide) rfl) rfl rfl ?_
  refine R_iadd (nx := 183) (z := (i + 1)) (lj_0 (by decide) rfl) rfl rfl ⟨by omega, by omega⟩ ?_
  refine R_ld1000 (nx := 184) (lj_0 (by decide) rfl) rfl e1 (by omega) (by omega) ?_
  refine R_call1 (nx := 187) (as := [(2, 71), (0, (S 1000 (i + 1)))]) (rest := []) (lj_0 (by decide) rfl) rfl (fun _ _ => rfl) rfl rfl rfl rfl rfl rfl rfl rfl (Cl.mono (c_M_clear S1 A hR1 hV (S 1000 (i + 1))) ?_)
  rintro _ S2 ⟨rfl, hR2, f2⟩
  refine ⟨_, rfl, ?_⟩
  refine R_op (nx := 188) (lj_0 (by decide) rfl) rfl rfl ?_
  refine R_op (nx := 191) (pc' := 1544) (lj_0 (by decide) rfl) rfl rfl ?_
  exact k S2 (Q_clear A (S 1000 (i + 1))).2 ⟨hC1.fr fun b hb => f2 b (by omega), hR2, V_clear hV (S 1000 (i + 1)), by rw [f2 1000 (by decide)]; exact hL1, fun j => by rw [f2 1000 (by decide), e1]; exact hr j⟩

set_option maxRecDepth 20000 in
theorem lw_1 {S : mm_S} {A : mm_A} {L : Nat}  (hS : WS S A L) (i : Int) (hi : 0 ≤ i ∧ i + 7 ≤ (L : Int)) (hL0 : L ≤ 3584) (k : ∀ S' A', WS S' A' L → Rn k_Law_law 1544 [(2, 1000), (2, 0), (2, 71), (0, i)] [] S' QL) : Rn k_Law_law 191 [(2, 1000), (2, 0), (2, 71), (0, i)] [] S QL := by
  obtain ⟨hRC, hRR, hV, hL, hr⟩ := hS
  refine R_lo (nx := 192) (lj_0 (by decide) rfl) rfl rfl rfl ?_
  refine R_lo (nx := 193) (lj_0 (by decide) rfl) rfl rfl rfl ?_
  refine R_lo (nx := 194) (lj_0 (by decide) rfl) rfl rfl rfl ?_
  refine R_op (nx := 195) (lj_0 (by decide) rfl) rfl rfl ?_
  refine R_iadd (nx := 196) (z := (i + 1)) (lj_0 (by decide) rfl) rfl rfl ⟨by omega, by omega⟩ ?_
  refine R_ld1000 (nx := 197) (lj_0 (by decide) rfl) rfl rfl (by omega) (by omega) ?_
  refine R_lo (nx := 198) (lj_0 (by decide) rfl) rfl rfl rfl ?_
  refine R_lo (nx := 199) (lj_0 (by decide) rfl) rfl rfl rfl ?_
  refine R_op (nx := 200) (lj_0 (by decide) rfl) rfl rfl ?_
  refine R_iadd (nx := 201) (z := (i + 2)) (lj_0 (by decide) rfl) rfl rfl ⟨by omega, by omega⟩ ?_
  refine R_ld1000 (nx := 202) (lj_0 (by decide) rfl) rfl rfl (by omega) (by omega) ?_
  refine R_lo (nx := 203) (lj_0 (by decide) rfl) rfl rfl rfl ?_
  refine R_lo (nx := 204) (lj_0 (by decide) rfl) rfl rfl rfl ?_
  refine R_op (nx := 205) (lj_0 (by decide) rfl) rfl rfl ?_
  refine R_iadd (nx := 206) (z := (i + 3)) (lj_0 (by decide) rfl) rfl rfl ⟨by omega, by omega⟩ ?_
  refine R_ld1000 (nx := 207) (lj_0 (by decide) rfl) rfl rfl (by omega) (by omega) ?_
  refine R_lo (nx := 208) (lj_0 (by decide) rfl) rfl rfl rfl ?_
  refine R_lo (nx := 209) (lj_0 (by decide) rfl) rfl rfl rfl ?_
  refine R_op (nx := 210) (lj_0 (by decide) rfl) rfl rfl ?_
  refine R_iadd (nx := 211) (z := (i + 4)) (lj_0 (by decide) rfl) rfl rfl ⟨by omega, by omega⟩ ?_
  refine R_ld1000 (nx := 212) (lj_0 (by decide) rfl) rfl rfl (by omega) (by omega) ?_
  refine R_call1 (nx := 215) (as := [(2, 0), (0, (S 1000 (i + 1))), (0, (S 1000 (i + 2))), (0, (S 1000 (i + 3))), (0, (S 1000 (i + 4)))]) (rest := []) (lj_0 (by decide) rfl) rfl (fun _ _ => rfl) rfl rfl rfl rfl rfl rfl rfl rfl (Cl.mono (c_P_cell S A hRC hV (S 1000 (i + 1)) (S 1000 (i + 2)) (S 1000 (i + 3)) (S 1000 (i + 4))) ?_)
  rintro _ S1 ⟨rfl, hC1, f1⟩
  have e1 : S1 1000 = S 1000 := f1 1000 (by decide)
  have hR1 : RR S1 A := hRR.fr (R71.of (f1 71 (by decide))) fun b hb => f1 b (by omega)
  have hL1 : S1 1000 (-1) = (L : Int) := by rw [e1]; exact hL
  refine ⟨_, rfl, ?_⟩
  refine R_op (nx := 216) (lj_0 (by decide) rfl) rfl rfl ?_
  refine R_lo (nx := 217) (lj_0 (by decide) rfl) rfl rfl rfl ?_
  refine R_lo (nx := 218) (lj_0 (by decide) rfl) rfl rfl rfl ?_
  refine R_lo (nx := 219) (lj_0 (by decide) rfl) rfl rfl rfl ?_
  refine R_op (nx := 220) (lj_0 (by decide) rfl) rfl rfl ?_
  refine R_iadd (nx := 221) (z := (i + 1)) (lj_0 (by decide) rfl) rfl rfl ⟨by omega, by omega⟩ ?_
  refine R_ld1000 (nx := 222) (lj_0 (by decide) rfl) rfl e1 (by omega) (by omega) ?_
  refine R_lo (nx := 223) (lj_1 (by decide) rfl) rfl rfl rfl ?_
  refine R_lo (nx := 224) (lj_1 (by decide) rfl) rfl rfl rfl ?_
  refine R_op (nx := 225) (lj_1 (by decide) rfl) rfl rfl ?_
  refine R_iadd (nx := 226) (z := (i + 2)) (lj_1 (by decide) rfl) rfl rfl ⟨by omega, by omega⟩ ?_
  refine R_ld1000 (nx := 227) (lj_1 (by decide) rfl) rfl e1 (by omega) (by omega) ?_
  refine R_lo (nx := 228) (lj_1 (by decide) rfl) rfl rfl rfl ?_
  refine R_lo (nx := 229) (lj_1 (by decide) rfl) rfl rfl rfl ?_
  refine R_op (nx := 230) (lj_1 (by decide) rfl) rfl rfl ?_
  refine R_iadd (nx := 231) (z := (i + 3)) (lj_1 (by decide) rfl) rfl rfl ⟨by omega, by omega⟩ ?_
  refine R_ld1000 (nx := 232) (lj_1 (by decide) rfl) rfl e1 (by omega) (by omega) ?_
  refine R_lo (nx := 233) (lj_1 (by decide) rfl) rfl rfl rfl ?_
  refine R_lo (nx := 234) (lj_1 (by decide) rfl) rfl rfl rfl ?_
  refine R_op (nx := 235) (lj_1 (by decide) rfl) rfl rfl ?_
  refine R_iadd (nx := 236) (z := (i + 4)) (lj_1 (by decide) rfl) rfl rfl ⟨by omega, by omega⟩ ?_
  refine R_ld1000 (nx := 237) (lj_1 (by decide) rfl) rfl e1 (by omega) (by omega) ?_
  refine R_call1 (nx := 240) (as := [(2, 71), (0, (S 1000 (i + 1))), (0, (S 1000 (i + 2))), (0, (S 1000 (i + 3))), (0, (S 1000 (i + 4)))]) (rest := []) (lj_1 (by decide) rfl) rfl (fun _ _ => rfl) rfl rfl rfl rfl rfl rfl rfl rfl (Cl.mono (c_M_cell S1 A hR1 hV (S 1000 (i + 1)) (S 1000 (i + 2)) (S 1000 (i + 3)) (S 1000 (i + 4))) ?_)
  rintro _ S2 ⟨rfl, hR2, f2⟩
  refine ⟨_, rfl, ?_⟩
  refine R_op (nx := 241) (lj_1 (by decide) rfl) rfl rfl ?_
  refine R_op (nx := 244) (pc' := 1544) (lj_1 (by decide) rfl) rfl rfl ?_
  exact k S2 (Q_cell A (S 1000 (i + 1)) (S 1000 (i + 2)) (S 1000 (i + 3)) (S 1000 (i + 4))).2 ⟨hC1.fr fun b hb => f2 b (by omega), hR2, V_cell hV (S 1000 (i + 1)) (S 1000 (i + 2)) (S 1000 (i + 3)) (S 1000 (i + 4)), by rw [f2 1000 (by decide)]; exact hL1, fun j => by rw [f2 1000 (by decide), e1]; exact hr j⟩

set_option maxRecDepth 20000 in
theorem lw_2 {S : mm_S} {A : mm_A} {L : Nat}  (hS : WS S A L) (i : Int) (hi : 0 ≤ i ∧ i + 7 ≤ (L : Int)) (hL0 : L ≤ 3584) (k : ∀ S' A', WS S' A' L → Rn k_Law_law 1544 [(2, 1000), (2, 0), (2, 71), (0, i)] [] S' QL) : Rn k_Law_law 244 [(2, 1000), (2, 0), (2, 71), (0, i)] [] S QL := by
  obtain ⟨hRC, hRR, hV, hL, hr⟩ := hS
  refine R_lo (nx := 245) (lj_1 (by decide) rfl) rfl rfl rfl ?_
  refine R_lo (nx := 246) (lj_1 (by decide) rfl) rfl rfl rfl ?_
  refine R_lo (nx := 247) (lj_1 (by decide) rfl) rfl rfl rfl ?_
  refine R_op (nx := 248) (lj_1 (by decide) rfl) rfl rfl ?_
  refine R_iadd (nx := 249) (z := (i + 1)) (lj_1 (by decide) rfl) rfl rfl ⟨by omega, by omega⟩ ?_
  refine R_ld1000 (nx := 250) (lj_1 (by decide) rfl) rfl rfl (by omega) (by omega) ?_
  refine R_lo (nx := 251) (lj_1 (by decide) rfl) rfl rfl rfl ?_
  refine R_lo (nx := 252) (lj_1 (by decide) rfl) rfl rfl rfl ?_
  refine R_op (nx := 253) (lj_1 (by decide) rfl) rfl rfl ?_
  refine R_iadd (nx := 254) (z := (i + 2)) (lj_1 (by decide) rfl) rfl rfl ⟨by omega, by omega⟩ ?_
  refine R_ld1000 (nx := 255) (lj_1 (by decide) rfl) rfl rfl (by omega) (by omega) ?_
  refine R_lo (nx := 256) (lj_1 (by decide) rfl) rfl rfl rfl ?_
  refine R_lo (nx := 257) (lj_1 (by decide) rfl) rfl rfl rfl ?_
  refine R_op (nx := 258) (lj_1 (by decide) rfl) rfl rfl ?_
  refine R_iadd (nx := 259) (z := (i + 3)) (lj_1 (by decide) rfl) rfl rfl ⟨by omega, by omega⟩ ?_
  refine R_ld1000 (nx := 260) (lj_1 (by decide) rfl) rfl rfl (by omega) (by omega) ?_
  refine R_lo (nx := 261) (lj_1 (by decide) rfl) rfl rfl rfl ?_
  refine R_lo (nx := 262) (lj_1 (by decide) rfl) rfl rfl rfl ?_
  refine R_op (nx := 263) (lj_1 (by decide) rfl) rfl rfl ?_
  refine R_iadd (nx := 264) (z := (i + 4)) (lj_1 (by decide) rfl) rfl rfl ⟨by omega, by omega⟩ ?_
  refine R_ld1000 (nx := 265) (lj_1 (by decide) rfl) rfl rfl (by omega) (by omega) ?_
  refine R_call1 (nx := 268) (as := [(2, 0), (0, (S 1000 (i + 1))), (0, (S 1000 (i + 2))), (0, (S 1000 (i + 3))), (0, (S 1000 (i + 4)))]) (rest := []) (lj_1 (by decide) rfl) rfl (fun _ _ => rfl) rfl rfl rfl rfl rfl rfl rfl rfl (Cl.mono (c_P_entry S A hRC hV (S 1000 (i + 1)) (S 1000 (i + 2)) (S 1000 (i + 3)) (S 1000 (i + 4))) ?_)
  rintro _ S1 ⟨rfl, hC1, f1⟩
  have e1 : S1 1000 = S 1000 := f1 1000 (by decide)
  have hR1 : RR S1 A := hRR.fr (R71.of (f1 71 (by decide))) fun b hb => f1 b (by omega)
  have hL1 : S1 1000 (-1) = (L : Int) := by rw [e1]; exact hL
  refine ⟨_, rfl, ?_⟩
  refine R_op (nx := 269) (lj_1 (by decide) rfl) rfl rfl ?_
  refine R_lo (nx := 270) (lj_1 (by decide) rfl) rfl rfl rfl ?_
  refine R_lo (nx := 271) (lj_1 (by decide) rfl) rfl rfl rfl ?_
  refine R_lo (nx := 272) (lj_1 (by decide) rfl) rfl rfl rfl ?_
  refine R_op (nx := 273) (lj_1 (by decide) rfl) rfl rfl ?_
  refine R_iadd (nx := 274) (z := (i + 1)) (lj_1 (by decide) rfl) rfl rfl ⟨by omega, by omega⟩ ?_
  refine R_ld1000 (nx := 275) (lj_1 (by decide) rfl) rfl e1 (by omega) (by omega) ?_
  refine R_lo (nx := 276) (lj_1 (by decide) rfl) rfl rfl rfl ?_
  refine R_lo (nx := 277) (lj_1 (by decide) rfl) rfl rfl rfl ?_
  refine R_op (nx := 278) (lj_1 (by decide) rfl) rfl rfl ?_
  refine R_iadd (nx := 279) (z := (i + 2)) (lj_1 (by decide) rfl) rfl rfl ⟨by omega, by omega⟩ ?_
  refine R_ld1000 (nx := 280) (lj_1 (by decide) rfl) rfl e1 (by omega) (by omega) ?_
  refine R_lo (nx := 281) (lj_1 (by decide) rfl) rfl rfl rfl ?_
  refine R_lo (nx := 282) (lj_1 (by decide) rfl) rfl rfl rfl ?_
  refine R_op (nx := 283) (lj_1 (by decide) rfl) rfl rfl ?_
  refine R_iadd (nx := 284) (z := (i + 3)) (lj_1 (by decide) rfl) rfl rfl ⟨by omega, by omega⟩ ?_
  refine R_ld1000 (nx := 285) (lj_1 (by decide) rfl) rfl e1 (by omega) (by omega) ?_
  refine R_lo (nx := 286) (lj_1 (by decide) rfl) rfl rfl rfl ?_
  refine R_lo (nx := 287) (lj_1 (by decide) rfl) rfl rfl rfl ?_
  refine R_op (nx := 288) (lj_1 (by decide) rfl) rfl rfl ?_
  refine R_iadd (nx := 289) (z := (i + 4)) (lj_2 (by decide) rfl) rfl rfl ⟨by omega, by omega⟩ ?_
  refine R_ld1000 (nx := 290) (lj_2 (by decide) rfl) rfl e1 (by omega) (by omega) ?_
  refine R_call1 (nx := 293) (as := [(2, 71), (0, (S 1000 (i + 1))), (0, (S 1000 (i + 2))), (0, (S 1000 (i + 3))), (0, (S 1000 (i + 4)))]) (rest := []) (lj_2 (by decide) rfl) rfl (fun _ _ => rfl) rfl rfl rfl rfl rfl rfl rfl rfl (Cl.mono (c_M_entry S1 A hR1 hV (S 1000 (i + 1)) (S 1000 (i + 2)) (S 1000 (i + 3)) (S 1000 (i + 4))) ?_)
  rintro _ S2 ⟨rfl, hR2, f2⟩
  refine ⟨_, rfl, ?_⟩
  refine R_op (nx := 294) (lj_2 (by decide) rfl) rfl rfl ?_
  refine R_op (nx := 297) (pc' := 1544) (lj_2 (by decide) rfl) rfl rfl ?_
  exact k S2 (Q_entry A (S 1000 (i + 1)) (S 1000 (i + 2)) (S 1000 (i + 3)) (S 1000 (i + 4))).2 ⟨hC1.fr fun b hb => f2 b (by omega), hR2, V_entry hV (S 1000 (i + 1)) (S 1000 (i + 2)) (S 1000 (i + 3)) (S 1000 (i + 4)), by rw [f2 1000 (by decide)]; exact hL1, fun j => by rw [f2 1000 (by decide), e1]; exact hr j⟩

set_option maxRecDepth 20000 in
theorem lw_3 {S : mm_S} {A : mm_A} {L : Nat}  (hS : WS S A L) (i : Int) (hi : 0 ≤ i ∧ i + 7 ≤ (L : Int)) (hL0 : L ≤ 3584) (k : ∀ S' A', WS S' A' L → Rn k_Law_law 1544 [(2, 1000), (2, 0), (2, 71), (0, i)] [] S' QL) : Rn k_Law_law 297 [(2, 1000), (2, 0), (2, 71), (0, i)] [] S QL := by
  obtain ⟨hRC, hRR, hV, hL, hr⟩ := hS
  refine R_lo (nx := 298) (lj_2 (by decide) rfl) rfl rfl rfl ?_
  refine R_lo (nx := 299) (lj_2 (by decide) rfl) rfl rfl rfl ?_
  refine R_lo (nx := 300) (lj_2 (by decide) rfl) rfl rfl rfl ?_
  refine R_op (nx := 301) (lj_2 (by decide) rfl) rfl rfl ?_
  refine R_iadd (nx := 302) (z := (i + 1)) (lj_2 (by decide) rfl) rfl rfl ⟨by omega, by omega⟩ ?_
  refine R_ld1000 (nx := 303) (lj_2 (by decide) rfl) rfl rfl (by omega) (by omega) ?_
  refine R_lo (nx := 304) (lj_2 (by decide) rfl) rfl rfl rfl ?_
  refine R_lo (nx := 305) (lj_2 (by decide) rfl) rfl rfl rfl ?_
  refine R_op (nx := 306) (lj_2 (by decide) rfl) rfl rfl ?_
  refine R_iadd (nx := 307) (z := (i + 2)) (lj_2 (by decide) rfl) rfl rfl ⟨by omega, by omega⟩ ?_
  refine R_ld1000 (nx := 308) (lj_2 (by decide) rfl) rfl rfl (by omega) (by omega) ?_
  refine R_lo (nx := 309) (lj_2 (by decide) rfl) rfl rfl rfl ?_
  refine R_lo (nx := 310) (lj_2 (by decide) rfl) rfl rfl rfl ?_
  refine R_op (nx := 311) (lj_2 (by decide) rfl) rfl rfl ?_
  refine R_iadd (nx := 312) (z := (i + 3)) (lj_2 (by decide) rfl) rfl rfl ⟨by omega, by omega⟩ ?_
  refine R_ld1000 (nx := 313) (lj_2 (by decide) rfl) rfl rfl (by omega) (by omega) ?_
  refine R_call1 (nx := 316) (as := [(2, 0), (0, (S 1000 (i + 1))), (0, (S 1000 (i + 2))), (0, (S 1000 (i + 3)))]) (rest := []) (lj_2 (by decide) rfl) rfl (fun _ _ => rfl) rfl rfl rfl rfl rfl rfl rfl rfl (Cl.mono (c_P_entryOf S A hRC hV (S 1000 (i + 1)) (S 1000 (i + 2)) (S 1000 (i + 3))) ?_)
  rintro _ S1 ⟨rfl, hC1, f1⟩
  have e1 : S1 1000 = S 1000 := f1 1000 (by decide)
  have hR1 : RR S1 A := hRR.fr (R71.of (f1 71 (by decide))) fun b hb => f1 b (by omega)
  have hL1 : S1 1000 (-1) = (L : Int) := by rw [e1]; exact hL
  refine ⟨_, rfl, ?_⟩
  refine R_op (nx := 317) (lj_2 (by decide) rfl) rfl rfl ?_
  refine R_lo (nx := 318) (lj_2 (by decide) rfl) rfl rfl rfl ?_
  refine R_lo (nx := 319) (lj_2 (by decide) rfl) rfl rfl rfl ?_
  refine R_lo (nx := 320) (lj_2 (by decide) rfl) rfl rfl rfl ?_
  refine R_op (nx := 321) (lj_2 (by decide) rfl) rfl rfl ?_
  refine R_iadd (nx := 322) (z := (i + 1)) (lj_2 (by decide) rfl) rfl rfl ⟨by omega, by omega⟩ ?_
  refine R_ld1000 (nx := 323) (lj_2 (by decide) rfl) rfl e1 (by omega) (by omega) ?_
  refine R_lo (nx := 324) (lj_2 (by decide) rfl) rfl rfl rfl ?_
  refine R_lo (nx := 325) (lj_2 (by decide) rfl) rfl rfl rfl ?_
  refine R_op (nx := 326) (lj_2 (by decide) rfl) rfl rfl ?_
  refine R_iadd (nx := 327) (z := (i + 2)) (lj_2 (by decide) rfl) rfl rfl ⟨by omega, by omega⟩ ?_
  refine R_ld1000 (nx := 328) (lj_2 (by decide) rfl) rfl e1 (by omega) (by omega) ?_
  refine R_lo (nx := 329) (lj_2 (by decide) rfl) rfl rfl rfl ?_
  refine R_lo (nx := 330) (lj_2 (by decide) rfl) rfl rfl rfl ?_
  refine R_op (nx := 331) (lj_2 (by decide) rfl) rfl rfl ?_
  refine R_iadd (nx := 332) (z := (i + 3)) (lj_2 (by decide) rfl) rfl rfl ⟨by omega, by omega⟩ ?_
  refine R_ld1000 (nx := 333) (lj_2 (by decide) rfl) rfl e1 (by omega) (by omega) ?_
  refine R_call1 (nx := 336) (as := [(2, 71), (0, (S 1000 (i + 1))), (0, (S 1000 (i + 2))), (0, (S 1000 (i + 3)))]) (rest := []) (lj_2 (by decide) rfl) rfl (fun _ _ => rfl) rfl rfl rfl rfl rfl rfl rfl rfl (Cl.mono (c_M_entryOf S1 A hR1 hV (S 1000 (i + 1)) (S 1000 (i + 2)) (S 1000 (i + 3))) ?_)
  rintro _ S2 ⟨rfl, hR2, f2⟩
  refine ⟨_, rfl, ?_⟩
  refine R_op (nx := 337) (lj_2 (by decide) rfl) rfl rfl ?_
  refine R_op (nx := 340) (pc' := 1544) (lj_2 (by decide) rfl) rfl rfl ?_
  exact k S2 (Q_entryOf A (S 1000 (i + 1)) (S 1000 (i + 2)) (S 1000 (i + 3))).2 ⟨hC1.fr fun b hb => f2 b (by omega), hR2, V_entryOf hV (S 1000 (i + 1)) (S 1000 (i + 2)) (S 1000 (i + 3)), by rw [f2 1000 (by decide)]; exact hL1, fun j => by rw [f2 1000 (by decide), e1]; exact hr j⟩

set_option maxRecDepth 20000 in
theorem lw_4 {S : mm_S} {A : mm_A} {L : Nat}  (hS : WS S A L) (i : Int) (hi : 0 ≤ i ∧ i + 7 ≤ (L : Int)) (hL0 : L ≤ 3584) (k : ∀ S' A', WS S' A' L → Rn k_Law_law 1544 [(2, 1000), (2, 0), (2, 71), (0, i)] [] S' QL) : Rn k_Law_law 340 [(2, 1000), (2, 0), (2, 71), (0, i)] [] S QL := by
  obtain ⟨hRC, hRR, hV, hL, hr⟩ := hS
  refine R_lo (nx := 341) (lj_2 (by decide) rfl) rfl rfl rfl ?_
  refine R_lo (nx := 342) (lj_2 (by decide) rfl) rfl rfl rfl ?_
  refine R_lo (nx := 343) (lj_2 (by decide) rfl) rfl rfl rfl ?_
  refine R_op (nx := 344) (lj_2 (by decide) rfl) rfl rfl ?_
  refine R_iadd (nx := 345) (z := (i + 1)) (lj_2 (by decide) rfl) rfl rfl ⟨by omega, by omega⟩ ?_
  refine R_ld1000 (nx := 346) (lj_2 (by decide) rfl) rfl rfl (by omega) (by omega) ?_
  refine R_lo (nx := 347) (lj_2 (by decide) rfl) rfl rfl rfl ?_
  refine R_lo (nx := 348) (lj_2 (by decide) rfl) rfl rfl rfl ?_
  refine R_op (nx := 349) (lj_2 (by decide) rfl) rfl rfl ?_
  refine R_iadd (nx := 350) (z := (i + 2)) (lj_2 (by decide) rfl) rfl rfl ⟨by omega, by omega⟩ ?_
  refine R_ld1000 (nx := 351) (lj_2 (by decide) rfl) rfl rfl (by omega) (by omega) ?_
  refine R_lo (nx := 352) (lj_2 (by decide) rfl) rfl rfl rfl ?_
  refine R_lo (nx := 353) (lj_2 (by decide) rfl) rfl rfl rfl ?_
  refine R_op (nx := 354) (lj_2 (by decide) rfl) rfl rfl ?_
  refine R_iadd (nx := 355) (z := (i + 3)) (lj_2 (by decide) rfl) rfl rfl ⟨by omega, by omega⟩ ?_
  refine R_ld1000 (nx := 356) (lj_2 (by decide) rfl) rfl rfl (by omega) (by omega) ?_
  refine R_call1 (nx := 359) (as := [(2, 0), (0, (S 1000 (i + 1))), (0, (S 1000 (i + 2))), (0, (S 1000 (i + 3)))]) (rest := []) (lj_2 (by decide) rfl) rfl (fun _ _ => rfl) rfl rfl rfl rfl rfl rfl rfl rfl (Cl.mono (c_P_of S A hRC hV (S 1000 (i + 1)) (S 1000 (i + 2)) (S 1000 (i + 3))) ?_)
  rintro _ S1 ⟨rfl, hC1, f1⟩
  have e1 : S1 1000 = S 1000 := f1 1000 (by decide)
  have hR1 : RR S1 A := hRR.fr (R71.of (f1 71 (by decide))) fun b hb => f1 b (by omega)
  have hL1 : S1 1000 (-1) = (L : Int) := by rw [e1]; exact hL
  refine ⟨_, rfl, ?_⟩
  refine R_op (nx := 360) (lj_2 (by decide) rfl) rfl rfl ?_
  refine R_lo (nx := 361) (lj_3 (by decide) rfl) rfl rfl rfl ?_
  refine R_lo (nx := 362) (lj_3 (by decide) rfl) rfl rfl rfl ?_
  refine R_lo (nx := 363) (lj_3 (by decide) rfl) rfl rfl rfl ?_
  refine R_op (nx := 364) (lj_3 (by decide) rfl) rfl rfl ?_
  refine R_iadd (nx := 365) (z := (i + 1)) (lj_3 (by decide) rfl) rfl rfl ⟨by omega, by omega⟩ ?_
  refine R_ld1000 (nx := 366) (lj_3 (by decide) rfl) rfl e1 (by omega) (by omega) ?_
  refine R_lo (nx := 367) (lj_3 (by decide) rfl) rfl rfl rfl ?_
  refine R_lo (nx := 368) (lj_3 (by decide) rfl) rfl rfl rfl ?_
  refine R_op (nx := 369) (lj_3 (by decide) rfl) rfl rfl ?_
  refine R_iadd (nx := 370) (z := (i + 2)) (lj_3 (by decide) rfl) rfl rfl ⟨by omega, by omega⟩ ?_
  refine R_ld1000 (nx := 371) (lj_3 (by decide) rfl) rfl e1 (by omega) (by omega) ?_
  refine R_lo (nx := 372) (lj_3 (by decide) rfl) rfl rfl rfl ?_
  refine R_lo (nx := 373) (lj_3 (by decide) rfl) rfl rfl rfl ?_
  refine R_op (nx := 374) (lj_3 (by decide) rfl) rfl rfl ?_
  refine R_iadd (nx := 375) (z := (i + 3)) (lj_3 (by decide) rfl) rfl rfl ⟨by omega, by omega⟩ ?_
  refine R_ld1000 (nx := 376) (lj_3 (by decide) rfl) rfl e1 (by omega) (by omega) ?_
  refine R_call1 (nx := 379) (as := [(2, 71), (0, (S 1000 (i + 1))), (0, (S 1000 (i + 2))), (0, (S 1000 (i + 3)))]) (rest := []) (lj_3 (by decide) rfl) rfl (fun _ _ => rfl) rfl rfl rfl rfl rfl rfl rfl rfl (Cl.mono (c_M_of S1 A hR1 hV (S 1000 (i + 1)) (S 1000 (i + 2)) (S 1000 (i + 3))) ?_)
  rintro _ S2 ⟨rfl, hR2, f2⟩
  refine ⟨_, rfl, ?_⟩
  refine R_op (nx := 380) (lj_3 (by decide) rfl) rfl rfl ?_
  refine R_op (nx := 383) (pc' := 1544) (lj_3 (by decide) rfl) rfl rfl ?_
  exact k S2 (Q_of A (S 1000 (i + 1)) (S 1000 (i + 2)) (S 1000 (i + 3))).2 ⟨hC1.fr fun b hb => f2 b (by omega), hR2, V_of hV (S 1000 (i + 1)) (S 1000 (i + 2)) (S 1000 (i + 3)), by rw [f2 1000 (by decide)]; exact hL1, fun j => by rw [f2 1000 (by decide), e1]; exact hr j⟩

set_option maxRecDepth 20000 in
theorem lw_5 {S : mm_S} {A : mm_A} {L : Nat}  (hS : WS S A L) (i : Int) (hi : 0 ≤ i ∧ i + 7 ≤ (L : Int)) (hL0 : L ≤ 3584) (k : ∀ S' A', WS S' A' L → Rn k_Law_law 1544 [(2, 1000), (2, 0), (2, 71), (0, i)] [] S' QL) : Rn k_Law_law 383 [(2, 1000), (2, 0), (2, 71), (0, i)] [] S QL := by
  obtain ⟨hRC, hRR, hV, hL, hr⟩ := hS
  refine R_lo (nx := 384) (lj_3 (by decide) rfl) rfl rfl rfl ?_
  refine R_lo (nx := 385) (lj_3 (by decide) rfl) rfl rfl rfl ?_
  refine R_lo (nx := 386) (lj_3 (by decide) rfl) rfl rfl rfl ?_
  refine R_op (nx := 387) (lj_3 (by decide) rfl) rfl rfl ?_
  refine R_iadd (nx := 388) (z := (i + 1)) (lj_3 (by decide) rfl) rfl rfl ⟨by omega, by omega⟩ ?_
  refine R_ld1000 (nx := 389) (lj_3 (by decide) rfl) rfl rfl (by omega) (by omega) ?_
  refine R_call1 (nx := 392) (as := [(2, 0), (0, (S 1000 (i + 1)))]) (rest := []) (lj_3 (by decide) rfl) rfl (fun _ _ => rfl) rfl rfl rfl rfl rfl rfl rfl rfl (Cl.mono (c_P_broken S A hRC hV (S 1000 (i + 1))) ?_)
  rintro _ S1 ⟨rfl, hC1, f1⟩
  have e1 : S1 1000 = S 1000 := f1 1000 (by decide)
  have hR1 : RR S1 A := hRR.fr (R71.of (f1 71 (by decide))) fun b hb => f1 b (by omega)
  have hL1 : S1 1000 (-1) = (L : Int) := by rw [e1]; exact hL
  refine ⟨_, rfl, ?_⟩
  refine R_op (nx := 393) (lj_3 (by decide) rfl) rfl rfl ?_
  refine R_lo (nx := 394) (lj_3 (by decide) rfl) rfl rfl rfl ?_
  refine R_lo (nx := 395) (lj_3 (by decide) rfl) rfl rfl rfl ?_
  refine R_lo (nx := 396) (lj_3 (by decide) rfl) rfl rfl rfl ?_
  refine R_op (nx := 397) (lj_3 (by decide) rfl) rfl rfl ?_
  refine R_iadd (nx := 398) (z := (i + 1)) (lj_3 (by decide) rfl) rfl rfl ⟨by omega, by omega⟩ ?_
  refine R_ld1000 (nx := 399) (lj_3 (by decide) rfl) rfl e1 (by omega) (by omega) ?_
  refine R_call1 (nx := 402) (as := [(2, 71), (0, (S 1000 (i + 1)))]) (rest := []) (lj_3 (by decide) rfl) rfl (fun _ _ => rfl) rfl rfl rfl rfl rfl rfl rfl rfl (Cl.mono (c_M_broken S1 A hR1 hV (S 1000 (i + 1))) ?_)
  rintro _ S2 ⟨rfl, hR2, f2⟩
  refine ⟨_, rfl, ?_⟩
  refine R_op (nx := 403) (lj_3 (by decide) rfl) rfl rfl ?_
  refine R_op (nx := 406) (pc' := 1544) (lj_3 (by decide) rfl) rfl rfl ?_
  exact k S2 (Q_broken A (S 1000 (i + 1))).2 ⟨hC1.fr fun b hb => f2 b (by omega), hR2, V_broken hV (S 1000 (i + 1)), by rw [f2 1000 (by decide)]; exact hL1, fun j => by rw [f2 1000 (by decide), e1]; exact hr j⟩

set_option maxRecDepth 20000 in
theorem lw_6 {S : mm_S} {A : mm_A} {L : Nat}  (hS : WS S A L) (i : Int) (hi : 0 ≤ i ∧ i + 7 ≤ (L : Int)) (hL0 : L ≤ 3584) (k : ∀ S' A', WS S' A' L → Rn k_Law_law 1544 [(2, 1000), (2, 0), (2, 71), (0, i)] [] S' QL) : Rn k_Law_law 406 [(2, 1000), (2, 0), (2, 71), (0, i)] [] S QL := by
  obtain ⟨hRC, hRR, hV, hL, hr⟩ := hS
  refine R_lo (nx := 407) (lj_3 (by decide) rfl) rfl rfl rfl ?_
  refine R_lo (nx := 408) (lj_3 (by decide) rfl) rfl rfl rfl ?_
  refine R_lo (nx := 409) (lj_3 (by decide) rfl) rfl rfl rfl ?_
  refine R_op (nx := 410) (lj_3 (by decide) rfl) rfl rfl ?_
  refine R_iadd (nx := 411) (z := (i + 1)) (lj_3 (by decide) rfl) rfl rfl ⟨by omega, by omega⟩ ?_
  refine R_ld1000 (nx := 412) (lj_3 (by decide) rfl) rfl rfl (by omega) (by omega) ?_
  refine R_call1 (nx := 415) (as := [(2, 0), (0, (S 1000 (i + 1)))]) (rest := []) (lj_3 (by decide) rfl) rfl (fun _ _ => rfl) rfl rfl rfl rfl rfl rfl rfl rfl (Cl.mono (c_P_mend S A hRC hV (S 1000 (i + 1))) ?_)
  rintro _ S1 ⟨rfl, hC1, f1⟩
  have e1 : S1 1000 = S 1000 := f1 1000 (by decide)
  have hR1 : RR S1 A := hRR.fr (R71.of (f1 71 (by decide))) fun b hb => f1 b (by omega)
  have hL1 : S1 1000 (-1) = (L : Int) := by rw [e1]; exact hL
  refine ⟨_, rfl, ?_⟩
  refine R_op (nx := 416) (lj_3 (by decide) rfl) rfl rfl ?_
  refine R_lo (nx := 417) (lj_3 (by decide) rfl) rfl rfl rfl ?_
  refine R_lo (nx := 418) (lj_3 (by decide) rfl) rfl rfl rfl ?_
  refine R_lo (nx := 419) (lj_3 (by decide) rfl) rfl rfl rfl ?_
  refine R_op (nx := 420) (lj_3 (by decide) rfl) rfl rfl ?_
  refine R_iadd (nx := 421) (z := (i + 1)) (lj_3 (by decide) rfl) rfl rfl ⟨by omega, by omega⟩ ?_
  refine R_ld1000 (nx := 422) (lj_3 (by decide) rfl) rfl e1 (by omega) (by omega) ?_
  refine R_call1 (nx := 425) (as := [(2, 71), (0, (S 1000 (i + 1)))]) (rest := []) (lj_3 (by decide) rfl) rfl (fun _ _ => rfl) rfl rfl rfl rfl rfl rfl rfl rfl (Cl.mono (c_M_mend S1 A hR1 hV (S 1000 (i + 1))) ?_)
  rintro _ S2 ⟨rfl, hR2, f2⟩
  refine ⟨_, rfl, ?_⟩
  refine R_op (nx := 426) (lj_3 (by decide) rfl) rfl rfl ?_
  refine R_op (nx := 429) (pc' := 1544) (lj_3 (by decide) rfl) rfl rfl ?_
  exact k S2 (Q_mend A (S 1000 (i + 1))).2 ⟨hC1.fr fun b hb => f2 b (by omega), hR2, V_mend hV (S 1000 (i + 1)), by rw [f2 1000 (by decide)]; exact hL1, fun j => by rw [f2 1000 (by decide), e1]; exact hr j⟩

set_option maxRecDepth 20000 in
theorem lw_7 {S : mm_S} {A : mm_A} {L : Nat}  (hS : WS S A L) (i : Int) (hi : 0 ≤ i ∧ i + 7 ≤ (L : Int)) (hL0 : L ≤ 3584) (k : ∀ S' A', WS S' A' L → Rn k_Law_law 1544 [(2, 1000), (2, 0), (2, 71), (0, i)] [] S' QL) : Rn k_Law_law 429 [(2, 1000), (2, 0), (2, 71), (0, i)] [] S QL := by
  obtain ⟨hRC, hRR, hV, hL, hr⟩ := hS
  refine R_lo (nx := 430) (lj_3 (by decide) rfl) rfl rfl rfl ?_
  refine R_lo (nx := 431) (lj_3 (by decide) rfl) rfl rfl rfl ?_
  refine R_lo (nx := 432) (lj_3 (by decide) rfl) rfl rfl rfl ?_
  refine R_op (nx := 433) (lj_3 (by decide) rfl) rfl rfl ?_
  refine R_iadd (nx := 434) (z := (i + 1)) (lj_3 (by decide) rfl) rfl rfl ⟨by omega, by omega⟩ ?_
  refine R_ld1000 (nx := 435) (lj_3 (by decide) rfl) rfl rfl (by omega) (by omega) ?_
  refine R_op (nx := 436) (st' := [(1, (S 1000 (i + 1))), (2, 0)]) (lj_3 (by decide) rfl) rfl rfl ?_
  refine R_op (nx := 438) (lj_4 (by decide) rfl) rfl rfl ?_
  refine R_op (nx := 439) (st' := [(1, (Int64.ofInt (S 1000 (i + 1)) <<< ((Int32.ofInt 32).toInt64 &&& 63)).toInt), (2, 0)]) (lj_4 (by decide) rfl) rfl rfl ?_
  refine R_lo (nx := 440) (lj_4 (by decide) rfl) rfl rfl rfl ?_
  refine R_lo (nx := 441) (lj_4 (by decide) rfl) rfl rfl rfl ?_
  refine R_op (nx := 442) (lj_4 (by decide) rfl) rfl rfl ?_
  refine R_iadd (nx := 443) (z := (i + 2)) (lj_4 (by decide) rfl) rfl rfl ⟨by omega, by omega⟩ ?_
  refine R_ld1000 (nx := 444) (lj_4 (by decide) rfl) rfl rfl (by omega) (by omega) ?_
  refine R_op (nx := 445) (st' := [(1, (S 1000 (i + 2))), (1, (Int64.ofInt (S 1000 (i + 1)) <<< ((Int32.ofInt 32).toInt64 &&& 63)).toInt), (2, 0)]) (lj_4 (by decide) rfl) rfl rfl ?_
  refine R_op (nx := 448) (lj_4 (by decide) rfl) rfl rfl ?_
  refine R_op (nx := 449) (st' := [(1, (Int64.ofInt (S 1000 (i + 2)) &&& Int64.ofInt 4294967295).toInt), (1, (Int64.ofInt (S 1000 (i + 1)) <<< ((Int32.ofInt 32).toInt64 &&& 63)).toInt), (2, 0)]) (lj_4 (by decide) rfl) rfl rfl ?_
  refine R_op (nx := 450) (st' := [(1, (Int64.ofInt (Int64.ofInt (S 1000 (i + 1)) <<< ((Int32.ofInt 32).toInt64 &&& 63)).toInt ||| Int64.ofInt (Int64.ofInt (S 1000 (i + 2)) &&& Int64.ofInt 4294967295).toInt).toInt), (2, 0)]) (lj_4 (by decide) rfl) rfl rfl ?_
  refine R_lo (nx := 451) (lj_4 (by decide) rfl) rfl rfl rfl ?_
  refine R_lo (nx := 452) (lj_4 (by decide) rfl) rfl rfl rfl ?_
  refine R_op (nx := 453) (lj_4 (by decide) rfl) rfl rfl ?_
  refine R_iadd (nx := 454) (z := (i + 3)) (lj_4 (by decide) rfl) rfl rfl ⟨by omega, by omega⟩ ?_
  refine R_ld1000 (nx := 455) (lj_4 (by decide) rfl) rfl rfl (by omega) (by omega) ?_
  refine R_call1 (nx := 458) (as := [(2, 0), (1, (Int64.ofInt (Int64.ofInt (S 1000 (i + 1)) <<< ((Int32.ofInt 32).toInt64 &&& 63)).toInt ||| Int64.ofInt (Int64.ofInt (S 1000 (i + 2)) &&& Int64.ofInt 4294967295).toInt).toInt), (0, (S 1000 (i + 3)))]) (rest := []) (lj_4 (by decide) rfl) rfl (fun _ _ => rfl) rfl rfl rfl rfl rfl rfl rfl rfl (Cl.mono (c_P_feed S A hRC hV (Int64.ofInt (Int64.ofInt (S 1000 (i + 1)) <<< ((Int32.ofInt 32).toInt64 &&& 63)).toInt ||| Int64.ofInt (Int64.ofInt (S 1000 (i + 2)) &&& Int64.ofInt 4294967295).toInt).toInt (S 1000 (i + 3)) (i64r _) (hr _)) ?_)
  rintro _ S1 ⟨rfl, hC1, f1⟩
  have e1 : S1 1000 = S 1000 := f1 1000 (by decide)
  have hR1 : RR S1 A := hRR.fr (R71.of (f1 71 (by decide))) fun b hb => f1 b (by omega)
  have hL1 : S1 1000 (-1) = (L : Int) := by rw [e1]; exact hL
  refine ⟨_, rfl, ?_⟩
  refine R_op (nx := 459) (lj_4 (by decide) rfl) rfl rfl ?_
  refine R_lo (nx := 460) (lj_4 (by decide) rfl) rfl rfl rfl ?_
  refine R_lo (nx := 461) (lj_4 (by decide) rfl) rfl rfl rfl ?_
  refine R_lo (nx := 462) (lj_4 (by decide) rfl) rfl rfl rfl ?_
  refine R_op (nx := 463) (lj_4 (by decide) rfl) rfl rfl ?_
  refine R_iadd (nx := 464) (z := (i + 1)) (lj_4 (by decide) rfl) rfl rfl ⟨by omega, by omega⟩ ?_
  refine R_ld1000 (nx := 465) (lj_4 (by decide) rfl) rfl e1 (by omega) (by omega) ?_
  refine R_op (nx := 466) (st' := [(1, (S 1000 (i + 1))), (2, 71)]) (lj_4 (by decide) rfl) rfl rfl ?_
  refine R_op (nx := 468) (lj_4 (by decide) rfl) rfl rfl ?_
  refine R_op (nx := 469) (st' := [(1, (Int64.ofInt (S 1000 (i + 1)) <<< ((Int32.ofInt 32).toInt64 &&& 63)).toInt), (2, 71)]) (lj_4 (by decide) rfl) rfl rfl ?_
  refine R_lo (nx := 470) (lj_4 (by decide) rfl) rfl rfl rfl ?_
  refine R_lo (nx := 471) (lj_4 (by decide) rfl) rfl rfl rfl ?_
  refine R_op (nx := 472) (lj_4 (by decide) rfl) rfl rfl ?_
  refine R_iadd (nx := 473) (z := (i + 2)) (lj_4 (by decide) rfl) rfl rfl ⟨by omega, by omega⟩ ?_
  refine R_ld1000 (nx := 474) (lj_4 (by decide) rfl) rfl e1 (by omega) (by omega) ?_
  refine R_op (nx := 475) (st' := [(1, (S 1000 (i + 2))), (1, (Int64.ofInt (S 1000 (i + 1)) <<< ((Int32.ofInt 32).toInt64 &&& 63)).toInt), (2, 71)]) (lj_4 (by decide) rfl) rfl rfl ?_
  refine R_op (nx := 478) (lj_4 (by decide) rfl) rfl rfl ?_
  refine R_op (nx := 479) (st' := [(1, (Int64.ofInt (S 1000 (i + 2)) &&& Int64.ofInt 4294967295).toInt), (1, (Int64.ofInt (S 1000 (i + 1)) <<< ((Int32.ofInt 32).toInt64 &&& 63)).toInt), (2, 71)]) (lj_4 (by decide) rfl) rfl rfl ?_
  refine R_op (nx := 480) (st' := [(1, (Int64.ofInt (Int64.ofInt (S 1000 (i + 1)) <<< ((Int32.ofInt 32).toInt64 &&& 63)).toInt ||| Int64.ofInt (Int64.ofInt (S 1000 (i + 2)) &&& Int64.ofInt 4294967295).toInt).toInt), (2, 71)]) (lj_4 (by decide) rfl) rfl rfl ?_
  refine R_lo (nx := 481) (lj_4 (by decide) rfl) rfl rfl rfl ?_
  refine R_lo (nx := 482) (lj_4 (by decide) rfl) rfl rfl rfl ?_
  refine R_op (nx := 483) (lj_4 (by decide) rfl) rfl rfl ?_
  refine R_iadd (nx := 484) (z := (i + 3)) (lj_4 (by decide) rfl) rfl rfl ⟨by omega, by omega⟩ ?_
  refine R_ld1000 (nx := 485) (lj_4 (by decide) rfl) rfl e1 (by omega) (by omega) ?_
  refine R_call1 (nx := 488) (as := [(2, 71), (1, (Int64.ofInt (Int64.ofInt (S 1000 (i + 1)) <<< ((Int32.ofInt 32).toInt64 &&& 63)).toInt ||| Int64.ofInt (Int64.ofInt (S 1000 (i + 2)) &&& Int64.ofInt 4294967295).toInt).toInt), (0, (S 1000 (i + 3)))]) (rest := []) (lj_4 (by decide) rfl) rfl (fun _ _ => rfl) rfl rfl rfl rfl rfl rfl rfl rfl (Cl.mono (c_M_feed S1 A hR1 hV (Int64.ofInt (Int64.ofInt (S 1000 (i + 1)) <<< ((Int32.ofInt 32).toInt64 &&& 63)).toInt ||| Int64.ofInt (Int64.ofInt (S 1000 (i + 2)) &&& Int64.ofInt 4294967295).toInt).toInt (S 1000 (i + 3)) (i64r _) (hr _)) ?_)
  rintro _ S2 ⟨rfl, hR2, f2⟩
  refine ⟨_, rfl, ?_⟩
  refine R_op (nx := 489) (lj_4 (by decide) rfl) rfl rfl ?_
  refine R_op (nx := 492) (pc' := 1544) (lj_4 (by decide) rfl) rfl rfl ?_
  exact k S2 (Q_feed A (Int64.ofInt (Int64.ofInt (S 1000 (i + 1)) <<< ((Int32.ofInt 32).toInt64 &&& 63)).toInt ||| Int64.ofInt (Int64.ofInt (S 1000 (i + 2)) &&& Int64.ofInt 4294967295).toInt).toInt (S 1000 (i + 3))).2 ⟨hC1.fr fun b hb => f2 b (by omega), hR2, V_feed hV (Int64.ofInt (Int64.ofInt (S 1000 (i + 1)) <<< ((Int32.ofInt 32).toInt64 &&& 63)).toInt ||| Int64.ofInt (Int64.ofInt (S 1000 (i + 2)) &&& Int64.ofInt 4294967295).toInt).toInt (S 1000 (i + 3)), by rw [f2 1000 (by decide)]; exact hL1, fun j => by rw [f2 1000 (by decide), e1]; exact hr j⟩

set_option maxRecDepth 20000 in
theorem lw_8 {S : mm_S} {A : mm_A} {L : Nat}  (hS : WS S A L) (i : Int) (hi : 0 ≤ i ∧ i + 7 ≤ (L : Int)) (hL0 : L ≤ 3584) (k : ∀ S' A', WS S' A' L → Rn k_Law_law 1544 [(2, 1000), (2, 0), (2, 71), (0, i)] [] S' QL) : Rn k_Law_law 492 [(2, 1000), (2, 0), (2, 71), (0, i)] [] S QL := by
  obtain ⟨hRC, hRR, hV, hL, hr⟩ := hS
  refine R_lo (nx := 493) (lj_4 (by decide) rfl) rfl rfl rfl ?_
  refine R_lo (nx := 494) (lj_4 (by decide) rfl) rfl rfl rfl ?_
  refine R_lo (nx := 495) (lj_4 (by decide) rfl) rfl rfl rfl ?_
  refine R_op (nx := 496) (lj_4 (by decide) rfl) rfl rfl ?_
  refine R_iadd (nx := 497) (z := (i + 1)) (lj_4 (by decide) rfl) rfl rfl ⟨by omega, by omega⟩ ?_
  refine R_ld1000 (nx := 498) (lj_4 (by decide) rfl) rfl rfl (by omega) (by omega) ?_
  refine R_call1 (nx := 501) (as := [(2, 0), (0, (S 1000 (i + 1)))]) (rest := []) (lj_4 (by decide) rfl) rfl (fun _ _ => rfl) rfl rfl rfl rfl rfl rfl rfl rfl (Cl.mono (c_P_text S A hRC hV (S 1000 (i + 1))) ?_)
  rintro _ S1 ⟨rfl, hC1, f1⟩
  have e1 : S1 1000 = S 1000 := f1 1000 (by decide)
  have hR1 : RR S1 A := hRR.fr (R71.of (f1 71 (by decide))) fun b hb => f1 b (by omega)
  have hL1 : S1 1000 (-1) = (L : Int) := by rw [e1]; exact hL
  refine ⟨_, rfl, ?_⟩
  refine R_op (nx := 502) (lj_4 (by decide) rfl) rfl rfl ?_
  refine R_lo (nx := 503) (lj_4 (by decide) rfl) rfl rfl rfl ?_
  refine R_lo (nx := 504) (lj_4 (by decide) rfl) rfl rfl rfl ?_
  refine R_lo (nx := 505) (lj_4 (by decide) rfl) rfl rfl rfl ?_
  refine R_op (nx := 506) (lj_4 (by decide) rfl) rfl rfl ?_
  refine R_iadd (nx := 507) (z := (i + 1)) (lj_4 (by decide) rfl) rfl rfl ⟨by omega, by omega⟩ ?_
  refine R_ld1000 (nx := 508) (lj_4 (by decide) rfl) rfl e1 (by omega) (by omega) ?_
  refine R_call1 (nx := 511) (as := [(2, 71), (0, (S 1000 (i + 1)))]) (rest := []) (lj_4 (by decide) rfl) rfl (fun _ _ => rfl) rfl rfl rfl rfl rfl rfl rfl rfl (Cl.mono (c_M_text S1 A hR1 hV (S 1000 (i + 1))) ?_)
  rintro _ S2 ⟨rfl, hR2, f2⟩
  refine ⟨_, rfl, ?_⟩
  refine R_op (nx := 512) (lj_4 (by decide) rfl) rfl rfl ?_
  refine R_op (nx := 515) (pc' := 1544) (lj_5 (by decide) rfl) rfl rfl ?_
  exact k S2 (Q_text A (S 1000 (i + 1))).2 ⟨hC1.fr fun b hb => f2 b (by omega), hR2, V_text hV (S 1000 (i + 1)), by rw [f2 1000 (by decide)]; exact hL1, fun j => by rw [f2 1000 (by decide), e1]; exact hr j⟩

set_option maxRecDepth 20000 in
theorem lw_9 {S : mm_S} {A : mm_A} {L : Nat}  (hS : WS S A L) (i : Int) (hi : 0 ≤ i ∧ i + 7 ≤ (L : Int)) (hL0 : L ≤ 3584) (k : ∀ S' A', WS S' A' L → Rn k_Law_law 1544 [(2, 1000), (2, 0), (2, 71), (0, i)] [] S' QL) : Rn k_Law_law 515 [(2, 1000), (2, 0), (2, 71), (0, i)] [] S QL := by
  obtain ⟨hRC, hRR, hV, hL, hr⟩ := hS
  refine R_lo (nx := 516) (lj_5 (by decide) rfl) rfl rfl rfl ?_
  refine R_lo (nx := 517) (lj_5 (by decide) rfl) rfl rfl rfl ?_
  refine R_lo (nx := 518) (lj_5 (by decide) rfl) rfl rfl rfl ?_
  refine R_op (nx := 519) (lj_5 (by decide) rfl) rfl rfl ?_
  refine R_iadd (nx := 520) (z := (i + 1)) (lj_5 (by decide) rfl) rfl rfl ⟨by omega, by omega⟩ ?_
  refine R_ld1000 (nx := 521) (lj_5 (by decide) rfl) rfl rfl (by omega) (by omega) ?_
  refine R_lo (nx := 522) (lj_5 (by decide) rfl) rfl rfl rfl ?_
  refine R_lo (nx := 523) (lj_5 (by decide) rfl) rfl rfl rfl ?_
  refine R_op (nx := 524) (lj_5 (by decide) rfl) rfl rfl ?_
  refine R_iadd (nx := 525) (z := (i + 2)) (lj_5 (by decide) rfl) rfl rfl ⟨by omega, by omega⟩ ?_
  refine R_ld1000 (nx := 526) (lj_5 (by decide) rfl) rfl rfl (by omega) (by omega) ?_
  refine R_lo (nx := 527) (lj_5 (by decide) rfl) rfl rfl rfl ?_
  refine R_lo (nx := 528) (lj_5 (by decide) rfl) rfl rfl rfl ?_
  refine R_op (nx := 529) (lj_5 (by decide) rfl) rfl rfl ?_
  refine R_iadd (nx := 530) (z := (i + 3)) (lj_5 (by decide) rfl) rfl rfl ⟨by omega, by omega⟩ ?_
  refine R_ld1000 (nx := 531) (lj_5 (by decide) rfl) rfl rfl (by omega) (by omega) ?_
  refine R_lo (nx := 532) (lj_5 (by decide) rfl) rfl rfl rfl ?_
  refine R_lo (nx := 533) (lj_5 (by decide) rfl) rfl rfl rfl ?_
  refine R_op (nx := 534) (lj_5 (by decide) rfl) rfl rfl ?_
  refine R_iadd (nx := 535) (z := (i + 4)) (lj_5 (by decide) rfl) rfl rfl ⟨by omega, by omega⟩ ?_
  refine R_ld1000 (nx := 536) (lj_5 (by decide) rfl) rfl rfl (by omega) (by omega) ?_
  refine R_call1 (nx := 539) (as := [(2, 0), (0, (S 1000 (i + 1))), (0, (S 1000 (i + 2))), (0, (S 1000 (i + 3))), (0, (S 1000 (i + 4)))]) (rest := []) (lj_5 (by decide) rfl) rfl (fun _ _ => rfl) rfl rfl rfl rfl rfl rfl rfl rfl (Cl.mono (c_P_goes S A hRC hV (S 1000 (i + 1)) (S 1000 (i + 2)) (S 1000 (i + 3)) (S 1000 (i + 4))) ?_)
  rintro _ S1 ⟨rfl, hC1, f1⟩
  have e1 : S1 1000 = S 1000 := f1 1000 (by decide)
  have hR1 : RR S1 A := hRR.fr (R71.of (f1 71 (by decide))) fun b hb => f1 b (by omega)
  have hL1 : S1 1000 (-1) = (L : Int) := by rw [e1]; exact hL
  refine ⟨_, rfl, ?_⟩
  refine R_op (nx := 540) (lj_5 (by decide) rfl) rfl rfl ?_
  refine R_lo (nx := 541) (lj_5 (by decide) rfl) rfl rfl rfl ?_
  refine R_lo (nx := 542) (lj_5 (by decide) rfl) rfl rfl rfl ?_
  refine R_lo (nx := 543) (lj_5 (by decide) rfl) rfl rfl rfl ?_
  refine R_op (nx := 544) (lj_5 (by decide) rfl) rfl rfl ?_
  refine R_iadd (nx := 545) (z := (i + 1)) (lj_5 (by decide) rfl) rfl rfl ⟨by omega, by omega⟩ ?_
  refine R_ld1000 (nx := 546) (lj_5 (by decide) rfl) rfl e1 (by omega) (by omega) ?_
  refine R_lo (nx := 547) (lj_5 (by decide) rfl) rfl rfl rfl ?_
  refine R_lo (nx := 548) (lj_5 (by decide) rfl) rfl rfl rfl ?_
  refine R_op (nx := 549) (lj_5 (by decide) rfl) rfl rfl ?_
  refine R_iadd (nx := 550) (z := (i + 2)) (lj_5 (by decide) rfl) rfl rfl ⟨by omega, by omega⟩ ?_
  refine R_ld1000 (nx := 551) (lj_5 (by decide) rfl) rfl e1 (by omega) (by omega) ?_
  refine R_lo (nx := 552) (lj_5 (by decide) rfl) rfl rfl rfl ?_
  refine R_lo (nx := 553) (lj_5 (by decide) rfl) rfl rfl rfl ?_
  refine R_op (nx := 554) (lj_5 (by decide) rfl) rfl rfl ?_
  refine R_iadd (nx := 555) (z := (i + 3)) (lj_5 (by decide) rfl) rfl rfl ⟨by omega, by omega⟩ ?_
  refine R_ld1000 (nx := 556) (lj_5 (by decide) rfl) rfl e1 (by omega) (by omega) ?_
  refine R_lo (nx := 557) (lj_5 (by decide) rfl) rfl rfl rfl ?_
  refine R_lo (nx := 558) (lj_5 (by decide) rfl) rfl rfl rfl ?_
  refine R_op (nx := 559) (lj_5 (by decide) rfl) rfl rfl ?_
  refine R_iadd (nx := 560) (z := (i + 4)) (lj_5 (by decide) rfl) rfl rfl ⟨by omega, by omega⟩ ?_
  refine R_ld1000 (nx := 561) (lj_5 (by decide) rfl) rfl e1 (by omega) (by omega) ?_
  refine R_call1 (nx := 564) (as := [(2, 71), (0, (S 1000 (i + 1))), (0, (S 1000 (i + 2))), (0, (S 1000 (i + 3))), (0, (S 1000 (i + 4)))]) (rest := []) (lj_5 (by decide) rfl) rfl (fun _ _ => rfl) rfl rfl rfl rfl rfl rfl rfl rfl (Cl.mono (c_M_goes S1 A hR1 hV (S 1000 (i + 1)) (S 1000 (i + 2)) (S 1000 (i + 3)) (S 1000 (i + 4))) ?_)
  rintro _ S2 ⟨rfl, hR2, f2⟩
  refine ⟨_, rfl, ?_⟩
  refine R_op (nx := 565) (lj_5 (by decide) rfl) rfl rfl ?_
  refine R_op (nx := 568) (pc' := 1544) (lj_5 (by decide) rfl) rfl rfl ?_
  exact k S2 (Q_goes A (S 1000 (i + 1)) (S 1000 (i + 2)) (S 1000 (i + 3)) (S 1000 (i + 4))).2 ⟨hC1.fr fun b hb => f2 b (by omega), hR2, V_goes hV (S 1000 (i + 1)) (S 1000 (i + 2)) (S 1000 (i + 3)) (S 1000 (i + 4)), by rw [f2 1000 (by decide)]; exact hL1, fun j => by rw [f2 1000 (by decide), e1]; exact hr j⟩

set_option maxRecDepth 20000 in
theorem lw_10 {S : mm_S} {A : mm_A} {L : Nat}  (hS : WS S A L) (i : Int) (hi : 0 ≤ i ∧ i + 7 ≤ (L : Int)) (hL0 : L ≤ 3584) (k : ∀ S' A', WS S' A' L → Rn k_Law_law 1544 [(2, 1000), (2, 0), (2, 71), (0, i)] [] S' QL) : Rn k_Law_law 568 [(2, 1000), (2, 0), (2, 71), (0, i)] [] S QL := by
  obtain ⟨hRC, hRR, hV, hL, hr⟩ := hS
  refine R_lo (nx := 569) (lj_5 (by decide) rfl) rfl rfl rfl ?_
  refine R_lo (nx := 570) (lj_5 (by decide) rfl) rfl rfl rfl ?_
  refine R_lo (nx := 571) (lj_5 (by decide) rfl) rfl rfl rfl ?_
  refine R_op (nx := 572) (lj_5 (by decide) rfl) rfl rfl ?_
  refine R_iadd (nx := 573) (z := (i + 1)) (lj_5 (by decide) rfl) rfl rfl ⟨by omega, by omega⟩ ?_
  refine R_ld1000 (nx := 574) (lj_5 (by decide) rfl) rfl rfl (by omega) (by omega) ?_
  refine R_lo (nx := 575) (lj_5 (by decide) rfl) rfl rfl rfl ?_
  refine R_lo (nx := 576) (lj_5 (by decide) rfl) rfl rfl rfl ?_
  refine R_op (nx := 577) (lj_5 (by decide) rfl) rfl rfl ?_
  refine R_iadd (nx := 578) (z := (i + 2)) (lj_5 (by decide) rfl) rfl rfl ⟨by omega, by omega⟩ ?_
  refine R_ld1000 (nx := 579) (lj_5 (by decide) rfl) rfl rfl (by omega) (by omega) ?_
  refine R_lo (nx := 580) (lj_5 (by decide) rfl) rfl rfl rfl ?_
  refine R_lo (nx := 581) (lj_6 (by decide) rfl) rfl rfl rfl ?_
  refine R_op (nx := 582) (lj_6 (by decide) rfl) rfl rfl ?_
  refine R_iadd (nx := 583) (z := (i + 3)) (lj_6 (by decide) rfl) rfl rfl ⟨by omega, by omega⟩ ?_
  refine R_ld1000 (nx := 584) (lj_6 (by decide) rfl) rfl rfl (by omega) (by omega) ?_
  refine R_lo (nx := 585) (lj_6 (by decide) rfl) rfl rfl rfl ?_
  refine R_lo (nx := 586) (lj_6 (by decide) rfl) rfl rfl rfl ?_
  refine R_op (nx := 587) (lj_6 (by decide) rfl) rfl rfl ?_
  refine R_iadd (nx := 588) (z := (i + 4)) (lj_6 (by decide) rfl) rfl rfl ⟨by omega, by omega⟩ ?_
  refine R_ld1000 (nx := 589) (lj_6 (by decide) rfl) rfl rfl (by omega) (by omega) ?_
  refine R_lo (nx := 590) (lj_6 (by decide) rfl) rfl rfl rfl ?_
  refine R_lo (nx := 591) (lj_6 (by decide) rfl) rfl rfl rfl ?_
  refine R_op (nx := 592) (lj_6 (by decide) rfl) rfl rfl ?_
  refine R_iadd (nx := 593) (z := (i + 5)) (lj_6 (by decide) rfl) rfl rfl ⟨by omega, by omega⟩ ?_
  refine R_ld1000 (nx := 594) (lj_6 (by decide) rfl) rfl rfl (by omega) (by omega) ?_
  refine R_call1 (nx := 597) (as := [(2, 0), (0, (S 1000 (i + 1))), (0, (S 1000 (i + 2))), (0, (S 1000 (i + 3))), (0, (S 1000 (i + 4))), (0, (S 1000 (i + 5)))]) (rest := []) (lj_6 (by decide) rfl) rfl (fun _ _ => rfl) rfl rfl rfl rfl rfl rfl rfl rfl (Cl.mono (c_P_reduced S A hRC hV (S 1000 (i + 1)) (S 1000 (i + 2)) (S 1000 (i + 3)) (S 1000 (i + 4)) (S 1000 (i + 5))) ?_)
  rintro _ S1 ⟨rfl, hC1, f1⟩
  have e1 : S1 1000 = S 1000 := f1 1000 (by decide)
  have hR1 : RR S1 A := hRR.fr (R71.of (f1 71 (by decide))) fun b hb => f1 b (by omega)
  have hL1 : S1 1000 (-1) = (L : Int) := by rw [e1]; exact hL
  refine ⟨_, rfl, ?_⟩
  refine R_op (nx := 598) (lj_6 (by decide) rfl) rfl rfl ?_
  refine R_lo (nx := 599) (lj_6 (by decide) rfl) rfl rfl rfl ?_
  refine R_lo (nx := 600) (lj_6 (by decide) rfl) rfl rfl rfl ?_
  refine R_lo (nx := 601) (lj_6 (by decide) rfl) rfl rfl rfl ?_
  refine R_op (nx := 602) (lj_6 (by decide) rfl) rfl rfl ?_
  refine R_iadd (nx := 603) (z := (i + 1)) (lj_6 (by decide) rfl) rfl rfl ⟨by omega, by omega⟩ ?_
  refine R_ld1000 (nx := 604) (lj_6 (by decide) rfl) rfl e1 (by omega) (by omega) ?_
  refine R_lo (nx := 605) (lj_6 (by decide) rfl) rfl rfl rfl ?_
  refine R_lo (nx := 606) (lj_6 (by decide) rfl) rfl rfl rfl ?_
  refine R_op (nx := 607) (lj_6 (by decide) rfl) rfl rfl ?_
  refine R_iadd (nx := 608) (z := (i + 2)) (lj_6 (by decide) rfl) rfl rfl ⟨by omega, by omega⟩ ?_
  refine R_ld1000 (nx := 609) (lj_6 (by decide) rfl) rfl e1 (by omega) (by omega) ?_
  refine R_lo (nx := 610) (lj_6 (by decide) rfl) rfl rfl rfl ?_
  refine R_lo (nx := 611) (lj_6 (by decide) rfl) rfl rfl rfl ?_
  refine R_op (nx := 612) (lj_6 (by decide) rfl) rfl rfl ?_
  refine R_iadd (nx := 613) (z := (i + 3)) (lj_6 (by decide) rfl) rfl rfl ⟨by omega, by omega⟩ ?_
  refine R_ld1000 (nx := 614) (lj_6 (by decide) rfl) rfl e1 (by omega) (by omega) ?_
  refine R_lo (nx := 615) (lj_6 (by decide) rfl) rfl rfl rfl ?_
  refine R_lo (nx := 616) (lj_6 (by decide) rfl) rfl rfl rfl ?_
  refine R_op (nx := 617) (lj_6 (by decide) rfl) rfl rfl ?_
  refine R_iadd (nx := 618) (z := (i + 4)) (lj_6 (by decide) rfl) rfl rfl ⟨by omega, by omega⟩ ?_
  refine R_ld1000 (nx := 619) (lj_6 (by decide) rfl) rfl e1 (by omega) (by omega) ?_
  refine R_lo (nx := 620) (lj_6 (by decide) rfl) rfl rfl rfl ?_
  refine R_lo (nx := 621) (lj_6 (by decide) rfl) rfl rfl rfl ?_
  refine R_op (nx := 622) (lj_6 (by decide) rfl) rfl rfl ?_
  refine R_iadd (nx := 623) (z := (i + 5)) (lj_6 (by decide) rfl) rfl rfl ⟨by omega, by omega⟩ ?_
  refine R_ld1000 (nx := 624) (lj_6 (by decide) rfl) rfl e1 (by omega) (by omega) ?_
  refine R_call1 (nx := 627) (as := [(2, 71), (0, (S 1000 (i + 1))), (0, (S 1000 (i + 2))), (0, (S 1000 (i + 3))), (0, (S 1000 (i + 4))), (0, (S 1000 (i + 5)))]) (rest := []) (lj_6 (by decide) rfl) rfl (fun _ _ => rfl) rfl rfl rfl rfl rfl rfl rfl rfl (Cl.mono (c_M_reduced S1 A hR1 hV (S 1000 (i + 1)) (S 1000 (i + 2)) (S 1000 (i + 3)) (S 1000 (i + 4)) (S 1000 (i + 5))) ?_)
  rintro _ S2 ⟨rfl, hR2, f2⟩
  refine ⟨_, rfl, ?_⟩
  refine R_op (nx := 628) (lj_6 (by decide) rfl) rfl rfl ?_
  refine R_op (nx := 631) (pc' := 1544) (lj_6 (by decide) rfl) rfl rfl ?_
  exact k S2 (Q_reduced A (S 1000 (i + 1)) (S 1000 (i + 2)) (S 1000 (i + 3)) (S 1000 (i + 4)) (S 1000 (i + 5))).2 ⟨hC1.fr fun b hb => f2 b (by omega), hR2, V_reduced hV (S 1000 (i + 1)) (S 1000 (i + 2)) (S 1000 (i + 3)) (S 1000 (i + 4)) (S 1000 (i + 5)), by rw [f2 1000 (by decide)]; exact hL1, fun j => by rw [f2 1000 (by decide), e1]; exact hr j⟩

set_option maxRecDepth 20000 in
theorem lw_11 {S : mm_S} {A : mm_A} {L : Nat}  (hS : WS S A L) (i : Int) (hi : 0 ≤ i ∧ i + 7 ≤ (L : Int)) (hL0 : L ≤ 3584) (k : ∀ S' A', WS S' A' L → Rn k_Law_law 1544 [(2, 1000), (2, 0), (2, 71), (0, i)] [] S' QL) : Rn k_Law_law 631 [(2, 1000), (2, 0), (2, 71), (0, i)] [] S QL := by
  obtain ⟨hRC, hRR, hV, hL, hr⟩ := hS
  refine R_lo (nx := 632) (lj_6 (by decide) rfl) rfl rfl rfl ?_
  refine R_lo (nx := 633) (lj_6 (by decide) rfl) rfl rfl rfl ?_
  refine R_lo (nx := 634) (lj_6 (by decide) rfl) rfl rfl rfl ?_
  refine R_op (nx := 635) (lj_6 (by decide) rfl) rfl rfl ?_
  refine R_iadd (nx := 636) (z := (i + 1)) (lj_6 (by decide) rfl) rfl rfl ⟨by omega, by omega⟩ ?_
  refine R_ld1000 (nx := 637) (lj_6 (by decide) rfl) rfl rfl (by omega) (by omega) ?_
  refine R_lo (nx := 638) (lj_6 (by decide) rfl) rfl rfl rfl ?_
  refine R_lo (nx := 639) (lj_6 (by decide) rfl) rfl rfl rfl ?_
  refine R_op (nx := 640) (lj_6 (by decide) rfl) rfl rfl ?_
  refine R_iadd (nx := 641) (z := (i + 2)) (lj_6 (by decide) rfl) rfl rfl ⟨by omega, by omega⟩ ?_
  refine R_ld1000 (nx := 642) (lj_6 (by decide) rfl) rfl rfl (by omega) (by omega) ?_
  refine R_lo (nx := 643) (lj_6 (by decide) rfl) rfl rfl rfl ?_
  refine R_lo (nx := 644) (lj_6 (by decide) rfl) rfl rfl rfl ?_
  refine R_op (nx := 645) (lj_6 (by decide) rfl) rfl rfl ?_
  refine R_iadd (nx := 646) (z := (i + 3)) (lj_6 (by decide) rfl) rfl rfl ⟨by omega, by omega⟩ ?_
  refine R_ld1000 (nx := 647) (lj_7 (by decide) rfl) rfl rfl (by omega) (by omega) ?_
  refine R_lo (nx := 648) (lj_7 (by decide) rfl) rfl rfl rfl ?_
  refine R_lo (nx := 649) (lj_7 (by decide) rfl) rfl rfl rfl ?_
  refine R_op (nx := 650) (lj_7 (by decide) rfl) rfl rfl ?_
  refine R_iadd (nx := 651) (z := (i + 4)) (lj_7 (by decide) rfl) rfl rfl ⟨by omega, by omega⟩ ?_
  refine R_ld1000 (nx := 652) (lj_7 (by decide) rfl) rfl rfl (by omega) (by omega) ?_
  refine R_lo (nx := 653) (lj_7 (by decide) rfl) rfl rfl rfl ?_
  refine R_lo (nx := 654) (lj_7 (by decide) rfl) rfl rfl rfl ?_
  refine R_op (nx := 655) (lj_7 (by decide) rfl) rfl rfl ?_
  refine R_iadd (nx := 656) (z := (i + 5)) (lj_7 (by decide) rfl) rfl rfl ⟨by omega, by omega⟩ ?_
  refine R_ld1000 (nx := 657) (lj_7 (by decide) rfl) rfl rfl (by omega) (by omega) ?_
  refine R_lo (nx := 658) (lj_7 (by decide) rfl) rfl rfl rfl ?_
  refine R_lo (nx := 659) (lj_7 (by decide) rfl) rfl rfl rfl ?_
  refine R_op (nx := 661) (lj_7 (by decide) rfl) rfl rfl ?_
  refine R_iadd (nx := 662) (z := (i + 6)) (lj_7 (by decide) rfl) rfl rfl ⟨by omega, by omega⟩ ?_
  refine R_ld1000 (nx := 663) (lj_7 (by decide) rfl) rfl rfl (by omega) (by omega) ?_
  refine R_call1 (nx := 666) (as := [(2, 0), (0, (S 1000 (i + 1))), (0, (S 1000 (i + 2))), (0, (S 1000 (i + 3))), (0, (S 1000 (i + 4))), (0, (S 1000 (i + 5))), (0, (S 1000 (i + 6)))]) (rest := []) (lj_7 (by decide) rfl) rfl (fun _ _ => rfl) rfl rfl rfl rfl rfl rfl rfl rfl (Cl.mono (c_P_page S A hRC hV (S 1000 (i + 1)) (S 1000 (i + 2)) (S 1000 (i + 3)) (S 1000 (i + 4)) (S 1000 (i + 5)) (S 1000 (i + 6))) ?_)
  rintro _ S1 ⟨rfl, hC1, f1⟩
  have e1 : S1 1000 = S 1000 := f1 1000 (by decide)
  have hR1 : RR S1 A := hRR.fr (R71.of (f1 71 (by decide))) fun b hb => f1 b (by omega)
  have hL1 : S1 1000 (-1) = (L : Int) := by rw [e1]; exact hL
  refine ⟨_, rfl, ?_⟩
  refine R_op (nx := 667) (lj_7 (by decide) rfl) rfl rfl ?_
  refine R_lo (nx := 668) (lj_7 (by decide) rfl) rfl rfl rfl ?_
  refine R_lo (nx := 669) (lj_7 (by decide) rfl) rfl rfl rfl ?_
  refine R_lo (nx := 670) (lj_7 (by decide) rfl) rfl rfl rfl ?_
  refine R_op (nx := 671) (lj_7 (by decide) rfl) rfl rfl ?_
  refine R_iadd (nx := 672) (z := (i + 1)) (lj_7 (by decide) rfl) rfl rfl ⟨by omega, by omega⟩ ?_
  refine R_ld1000 (nx := 673) (lj_7 (by decide) rfl) rfl e1 (by omega) (by omega) ?_
  refine R_lo (nx := 674) (lj_7 (by decide) rfl) rfl rfl rfl ?_
  refine R_lo (nx := 675) (lj_7 (by decide) rfl) rfl rfl rfl ?_
  refine R_op (nx := 676) (lj_7 (by decide) rfl) rfl rfl ?_
  refine R_iadd (nx := 677) (z := (i + 2)) (lj_7 (by decide) rfl) rfl rfl ⟨by omega, by omega⟩ ?_
  refine R_ld1000 (nx := 678) (lj_7 (by decide) rfl) rfl e1 (by omega) (by omega) ?_
  refine R_lo (nx := 679) (lj_7 (by decide) rfl) rfl rfl rfl ?_
  refine R_lo (nx := 680) (lj_7 (by decide) rfl) rfl rfl rfl ?_
  refine R_op (nx := 681) (lj_7 (by decide) rfl) rfl rfl ?_
  refine R_iadd (nx := 682) (z := (i + 3)) (lj_7 (by decide) rfl) rfl rfl ⟨by omega, by omega⟩ ?_
  refine R_ld1000 (nx := 683) (lj_7 (by decide) rfl) rfl e1 (by omega) (by omega) ?_
  refine R_lo (nx := 684) (lj_7 (by decide) rfl) rfl rfl rfl ?_
  refine R_lo (nx := 685) (lj_7 (by decide) rfl) rfl rfl rfl ?_
  refine R_op (nx := 686) (lj_7 (by decide) rfl) rfl rfl ?_
  refine R_iadd (nx := 687) (z := (i + 4)) (lj_7 (by decide) rfl) rfl rfl ⟨by omega, by omega⟩ ?_
  refine R_ld1000 (nx := 688) (lj_7 (by decide) rfl) rfl e1 (by omega) (by omega) ?_
  refine R_lo (nx := 689) (lj_7 (by decide) rfl) rfl rfl rfl ?_
  refine R_lo (nx := 690) (lj_7 (by decide) rfl) rfl rfl rfl ?_
  refine R_op (nx := 691) (lj_7 (by decide) rfl) rfl rfl ?_
  refine R_iadd (nx := 692) (z := (i + 5)) (lj_7 (by decide) rfl) rfl rfl ⟨by omega, by omega⟩ ?_
  refine R_ld1000 (nx := 693) (lj_7 (by decide) rfl) rfl e1 (by omega) (by omega) ?_
  refine R_lo (nx := 694) (lj_7 (by decide) rfl) rfl rfl rfl ?_
  refine R_lo (nx := 695) (lj_7 (by decide) rfl) rfl rfl rfl ?_
  refine R_op (nx := 697) (lj_7 (by decide) rfl) rfl rfl ?_
  refine R_iadd (nx := 698) (z := (i + 6)) (lj_7 (by decide) rfl) rfl rfl ⟨by omega, by omega⟩ ?_
  refine R_ld1000 (nx := 699) (lj_7 (by decide) rfl) rfl e1 (by omega) (by omega) ?_
  refine R_call1 (nx := 702) (as := [(2, 71), (0, (S 1000 (i + 1))), (0, (S 1000 (i + 2))), (0, (S 1000 (i + 3))), (0, (S 1000 (i + 4))), (0, (S 1000 (i + 5))), (0, (S 1000 (i + 6)))]) (rest := []) (lj_7 (by decide) rfl) rfl (fun _ _ => rfl) rfl rfl rfl rfl rfl rfl rfl rfl (Cl.mono (c_M_page S1 A hR1 hV (S 1000 (i + 1)) (S 1000 (i + 2)) (S 1000 (i + 3)) (S 1000 (i + 4)) (S 1000 (i + 5)) (S 1000 (i + 6))) ?_)
  rintro _ S2 ⟨rfl, hR2, f2⟩
  refine ⟨_, rfl, ?_⟩
  refine R_op (nx := 703) (lj_7 (by decide) rfl) rfl rfl ?_
  refine R_op (nx := 706) (pc' := 1544) (lj_7 (by decide) rfl) rfl rfl ?_
  exact k S2 (Q_told A (S 1000 (i + 1)) (S 1000 (i + 2)) (S 1000 (i + 3)) (S 1000 (i + 4)) (S 1000 (i + 5)) (S 1000 (i + 6)) 0).2 ⟨hC1.fr fun b hb => f2 b (by omega), hR2, V_told hV (S 1000 (i + 1)) (S 1000 (i + 2)) (S 1000 (i + 3)) (S 1000 (i + 4)) (S 1000 (i + 5)) (S 1000 (i + 6)) 0, by rw [f2 1000 (by decide)]; exact hL1, fun j => by rw [f2 1000 (by decide), e1]; exact hr j⟩

set_option maxRecDepth 20000 in
theorem lw_12 {S : mm_S} {A : mm_A} {L : Nat}  (hS : WS S A L) (i : Int) (hi : 0 ≤ i ∧ i + 7 ≤ (L : Int)) (hL0 : L ≤ 3584) (k : ∀ S' A', WS S' A' L → Rn k_Law_law 1544 [(2, 1000), (2, 0), (2, 71), (0, i)] [] S' QL) : Rn k_Law_law 706 [(2, 1000), (2, 0), (2, 71), (0, i)] [] S QL := by
  obtain ⟨hRC, hRR, hV, hL, hr⟩ := hS
  refine R_lo (nx := 707) (lj_7 (by decide) rfl) rfl rfl rfl ?_
  refine R_lo (nx := 708) (lj_7 (by decide) rfl) rfl rfl rfl ?_
  refine R_lo (nx := 709) (lj_7 (by decide) rfl) rfl rfl rfl ?_
  refine R_op (nx := 710) (lj_7 (by decide) rfl) rfl rfl ?_
  refine R_iadd (nx := 711) (z := (i + 1)) (lj_7 (by decide) rfl) rfl rfl ⟨by omega, by omega⟩ ?_
  refine R_ld1000 (nx := 712) (lj_7 (by decide) rfl) rfl rfl (by omega) (by omega) ?_
  refine R_lo (nx := 713) (lj_7 (by decide) rfl) rfl rfl rfl ?_
  refine R_lo (nx := 714) (lj_7 (by decide) rfl) rfl rfl rfl ?_
  refine R_op (nx := 715) (lj_8 (by decide) rfl) rfl rfl ?_
  refine R_iadd (nx := 716) (z := (i + 2)) (lj_8 (by decide) rfl) rfl rfl ⟨by omega, by omega⟩ ?_
  refine R_ld1000 (nx := 717) (lj_8 (by decide) rfl) rfl rfl (by omega) (by omega) ?_
  refine R_lo (nx := 718) (lj_8 (by decide) rfl) rfl rfl rfl ?_
  refine R_lo (nx := 719) (lj_8 (by decide) rfl) rfl rfl rfl ?_
  refine R_op (nx := 720) (lj_8 (by decide) rfl) rfl rfl ?_
  refine R_iadd (nx := 721) (z := (i + 3)) (lj_8 (by decide) rfl) rfl rfl ⟨by omega, by omega⟩ ?_
  refine R_ld1000 (nx := 722) (lj_8 (by decide) rfl) rfl rfl (by omega) (by omega) ?_
  refine R_lo (nx := 723) (lj_8 (by decide) rfl) rfl rfl rfl ?_
  refine R_lo (nx := 724) (lj_8 (by decide) rfl) rfl rfl rfl ?_
  refine R_op (nx := 725) (lj_8 (by decide) rfl) rfl rfl ?_
  refine R_iadd (nx := 726) (z := (i + 4)) (lj_8 (by decide) rfl) rfl rfl ⟨by omega, by omega⟩ ?_
  refine R_ld1000 (nx := 727) (lj_8 (by decide) rfl) rfl rfl (by omega) (by omega) ?_
  refine R_lo (nx := 728) (lj_8 (by decide) rfl) rfl rfl rfl ?_
  refine R_lo (nx := 729) (lj_8 (by decide) rfl) rfl rfl rfl ?_
  refine R_op (nx := 730) (lj_8 (by decide) rfl) rfl rfl ?_
  refine R_iadd (nx := 731) (z := (i + 5)) (lj_8 (by decide) rfl) rfl rfl ⟨by omega, by omega⟩ ?_
  refine R_ld1000 (nx := 732) (lj_8 (by decide) rfl) rfl rfl (by omega) (by omega) ?_
  refine R_lo (nx := 733) (lj_8 (by decide) rfl) rfl rfl rfl ?_
  refine R_lo (nx := 734) (lj_8 (by decide) rfl) rfl rfl rfl ?_
  refine R_op (nx := 736) (lj_8 (by decide) rfl) rfl rfl ?_
  refine R_iadd (nx := 737) (z := (i + 6)) (lj_8 (by decide) rfl) rfl rfl ⟨by omega, by omega⟩ ?_
  refine R_ld1000 (nx := 738) (lj_8 (by decide) rfl) rfl rfl (by omega) (by omega) ?_
  refine R_call1 (nx := 741) (as := [(2, 0), (0, (S 1000 (i + 1))), (0, (S 1000 (i + 2))), (0, (S 1000 (i + 3))), (0, (S 1000 (i + 4))), (0, (S 1000 (i + 5))), (0, (S 1000 (i + 6)))]) (rest := []) (lj_8 (by decide) rfl) rfl (fun _ _ => rfl) rfl rfl rfl rfl rfl rfl rfl rfl (Cl.mono (c_P_turns S A hRC hV (S 1000 (i + 1)) (S 1000 (i + 2)) (S 1000 (i + 3)) (S 1000 (i + 4)) (S 1000 (i + 5)) (S 1000 (i + 6))) ?_)
  rintro _ S1 ⟨rfl, hC1, f1⟩
  have e1 : S1 1000 = S 1000 := f1 1000 (by decide)
  have hR1 : RR S1 A := hRR.fr (R71.of (f1 71 (by decide))) fun b hb => f1 b (by omega)
  have hL1 : S1 1000 (-1) = (L : Int) := by rw [e1]; exact hL
  refine ⟨_, rfl, ?_⟩
  refine R_op (nx := 742) (lj_8 (by decide) rfl) rfl rfl ?_
  refine R_lo (nx := 743) (lj_8 (by decide) rfl) rfl rfl rfl ?_
  refine R_lo (nx := 744) (lj_8 (by decide) rfl) rfl rfl rfl ?_
  refine R_lo (nx := 745) (lj_8 (by decide) rfl) rfl rfl rfl ?_
  refine R_op (nx := 746) (lj_8 (by decide) rfl) rfl rfl ?_
  refine R_iadd (nx := 747) (z := (i + 1)) (lj_8 (by decide) rfl) rfl rfl ⟨by omega, by omega⟩ ?_
  refine R_ld1000 (nx := 748) (lj_8 (by decide) rfl) rfl e1 (by omega) (by omega) ?_
  refine R_lo (nx := 749) (lj_8 (by decide) rfl) rfl rfl rfl ?_
  refine R_lo (nx := 750) (lj_8 (by decide) rfl) rfl rfl rfl ?_
  refine R_op (nx := 751) (lj_8 (by decide) rfl) rfl rfl ?_
  refine R_iadd (nx := 752) (z := (i + 2)) (lj_8 (by decide) rfl) rfl rfl ⟨by omega, by omega⟩ ?_
  refine R_ld1000 (nx := 753) (lj_8 (by decide) rfl) rfl e1 (by omega) (by omega) ?_
  refine R_lo (nx := 754) (lj_8 (by decide) rfl) rfl rfl rfl ?_
  refine R_lo (nx := 755) (lj_8 (by decide) rfl) rfl rfl rfl ?_
  refine R_op (nx := 756) (lj_8 (by decide) rfl) rfl rfl ?_
  refine R_iadd (nx := 757) (z := (i + 3)) (lj_8 (by decide) rfl) rfl rfl ⟨by omega, by omega⟩ ?_
  refine R_ld1000 (nx := 758) (lj_8 (by decide) rfl) rfl e1 (by omega) (by omega) ?_
  refine R_lo (nx := 759) (lj_8 (by decide) rfl) rfl rfl rfl ?_
  refine R_lo (nx := 760) (lj_8 (by decide) rfl) rfl rfl rfl ?_
  refine R_op (nx := 761) (lj_8 (by decide) rfl) rfl rfl ?_
  refine R_iadd (nx := 762) (z := (i + 4)) (lj_8 (by decide) rfl) rfl rfl ⟨by omega, by omega⟩ ?_
  refine R_ld1000 (nx := 763) (lj_8 (by decide) rfl) rfl e1 (by omega) (by omega) ?_
  refine R_lo (nx := 764) (lj_8 (by decide) rfl) rfl rfl rfl ?_
  refine R_lo (nx := 765) (lj_8 (by decide) rfl) rfl rfl rfl ?_
  refine R_op (nx := 766) (lj_8 (by decide) rfl) rfl rfl ?_
  refine R_iadd (nx := 767) (z := (i + 5)) (lj_8 (by decide) rfl) rfl rfl ⟨by omega, by omega⟩ ?_
  refine R_ld1000 (nx := 768) (lj_8 (by decide) rfl) rfl e1 (by omega) (by omega) ?_
  refine R_lo (nx := 769) (lj_8 (by decide) rfl) rfl rfl rfl ?_
  refine R_lo (nx := 770) (lj_8 (by decide) rfl) rfl rfl rfl ?_
  refine R_op (nx := 772) (lj_8 (by decide) rfl) rfl rfl ?_
  refine R_iadd (nx := 773) (z := (i + 6)) (lj_8 (by decide) rfl) rfl rfl ⟨by omega, by omega⟩ ?_
  refine R_ld1000 (nx := 774) (lj_8 (by decide) rfl) rfl e1 (by omega) (by omega) ?_
  refine R_call1 (nx := 777) (as := [(2, 71), (0, (S 1000 (i + 1))), (0, (S 1000 (i + 2))), (0, (S 1000 (i + 3))), (0, (S 1000 (i + 4))), (0, (S 1000 (i + 5))), (0, (S 1000 (i + 6)))]) (rest := []) (lj_8 (by decide) rfl) rfl (fun _ _ => rfl) rfl rfl rfl rfl rfl rfl rfl rfl (Cl.mono (c_M_turns S1 A hR1 hV (S 1000 (i + 1)) (S 1000 (i + 2)) (S 1000 (i + 3)) (S 1000 (i + 4)) (S 1000 (i + 5)) (S 1000 (i + 6))) ?_)
  rintro _ S2 ⟨rfl, hR2, f2⟩
  refine ⟨_, rfl, ?_⟩
  refine R_op (nx := 778) (lj_8 (by decide) rfl) rfl rfl ?_
  refine R_op (nx := 781) (pc' := 1544) (lj_8 (by decide) rfl) rfl rfl ?_
  exact k S2 (Q_told A (S 1000 (i + 1)) (S 1000 (i + 2)) (S 1000 (i + 3)) (S 1000 (i + 4)) (S 1000 (i + 5)) (S 1000 (i + 6)) 1).2 ⟨hC1.fr fun b hb => f2 b (by omega), hR2, V_told hV (S 1000 (i + 1)) (S 1000 (i + 2)) (S 1000 (i + 3)) (S 1000 (i + 4)) (S 1000 (i + 5)) (S 1000 (i + 6)) 1, by rw [f2 1000 (by decide)]; exact hL1, fun j => by rw [f2 1000 (by decide), e1]; exact hr j⟩

set_option maxRecDepth 20000 in
theorem lw_13 {S : mm_S} {A : mm_A} {L : Nat}  (hS : WS S A L) (i : Int) (hi : 0 ≤ i ∧ i + 7 ≤ (L : Int)) (hL0 : L ≤ 3584) (k : ∀ S' A', WS S' A' L → Rn k_Law_law 1544 [(2, 1000), (2, 0), (2, 71), (0, i)] [] S' QL) : Rn k_Law_law 781 [(2, 1000), (2, 0), (2, 71), (0, i)] [] S QL := by
  obtain ⟨hRC, hRR, hV, hL, hr⟩ := hS
  refine R_lo (nx := 782) (lj_8 (by decide) rfl) rfl rfl rfl ?_
  refine R_lo (nx := 783) (lj_9 (by decide) rfl) rfl rfl rfl ?_
  refine R_lo (nx := 784) (lj_9 (by decide) rfl) rfl rfl rfl ?_
  refine R_op (nx := 785) (lj_9 (by decide) rfl) rfl rfl ?_
  refine R_iadd (nx := 786) (z := (i + 1)) (lj_9 (by decide) rfl) rfl rfl ⟨by omega, by omega⟩ ?_
  refine R_ld1000 (nx := 787) (lj_9 (by decide) rfl) rfl rfl (by omega) (by omega) ?_
  refine R_lo (nx := 788) (lj_9 (by decide) rfl) rfl rfl rfl ?_
  refine R_lo (nx := 789) (lj_9 (by decide) rfl) rfl rfl rfl ?_
  refine R_op (nx := 790) (lj_9 (by decide) rfl) rfl rfl ?_
  refine R_iadd (nx := 791) (z := (i + 2)) (lj_9 (by decide) rfl) rfl rfl ⟨by omega, by omega⟩ ?_
  refine R_ld1000 (nx := 792) (lj_9 (by decide) rfl) rfl rfl (by omega) (by omega) ?_
  refine R_lo (nx := 793) (lj_9 (by decide) rfl) rfl rfl rfl ?_
  refine R_lo (nx := 794) (lj_9 (by decide) rfl) rfl rfl rfl ?_
  refine R_op (nx := 795) (lj_9 (by decide) rfl) rfl rfl ?_
  refine R_iadd (nx := 796) (z := (i + 3)) (lj_9 (by decide) rfl) rfl rfl ⟨by omega, by omega⟩ ?_
  refine R_ld1000 (nx := 797) (lj_9 (by decide) rfl) rfl rfl (by omega) (by omega) ?_
  refine R_call1 (nx := 800) (as := [(2, 0), (0, (S 1000 (i + 1))), (0, (S 1000 (i + 2))), (0, (S 1000 (i + 3)))]) (rest := []) (lj_9 (by decide) rfl) rfl (fun _ _ => rfl) rfl rfl rfl rfl rfl rfl rfl rfl (Cl.mono (c_P_stands S A hRC hV (S 1000 (i + 1)) (S 1000 (i + 2)) (S 1000 (i + 3))) ?_)
  rintro _ S1 ⟨rfl, hC1, f1⟩
  have e1 : S1 1000 = S 1000 := f1 1000 (by decide)
  have hR1 : RR S1 A := hRR.fr (R71.of (f1 71 (by decide))) fun b hb => f1 b (by omega)
  have hL1 : S1 1000 (-1) = (L : Int) := by rw [e1]; exact hL
  refine ⟨_, rfl, ?_⟩
  refine R_op (nx := 801) (lj_9 (by decide) rfl) rfl rfl ?_
  refine R_lo (nx := 802) (lj_9 (by decide) rfl) rfl rfl rfl ?_
  refine R_lo (nx := 803) (lj_9 (by decide) rfl) rfl rfl rfl ?_
  refine R_lo (nx := 804) (lj_9 (by decide) rfl) rfl rfl rfl ?_
  refine R_op (nx := 805) (lj_9 (by decide) rfl) rfl rfl ?_
  refine R_iadd (nx := 806) (z := (i + 1)) (lj_9 (by decide) rfl) rfl rfl ⟨by omega, by omega⟩ ?_
  refine R_ld1000 (nx := 807) (lj_9 (by decide) rfl) rfl e1 (by omega) (by omega) ?_
  refine R_lo (nx := 808) (lj_9 (by decide) rfl) rfl rfl rfl ?_
  refine R_lo (nx := 809) (lj_9 (by decide) rfl) rfl rfl rfl ?_
  refine R_op (nx := 810) (lj_9 (by decide) rfl) rfl rfl ?_
  refine R_iadd (nx := 811) (z := (i + 2)) (lj_9 (by decide) rfl) rfl rfl ⟨by omega, by omega⟩ ?_
  refine R_ld1000 (nx := 812) (lj_9 (by decide) rfl) rfl e1 (by omega) (by omega) ?_
  refine R_lo (nx := 813) (lj_9 (by decide) rfl) rfl rfl rfl ?_
  refine R_lo (nx := 814) (lj_9 (by decide) rfl) rfl rfl rfl ?_
  refine R_op (nx := 815) (lj_9 (by decide) rfl) rfl rfl ?_
  refine R_iadd (nx := 816) (z := (i + 3)) (lj_9 (by decide) rfl) rfl rfl ⟨by omega, by omega⟩ ?_
  refine R_ld1000 (nx := 817) (lj_9 (by decide) rfl) rfl e1 (by omega) (by omega) ?_
  refine R_call1 (nx := 820) (as := [(2, 71), (0, (S 1000 (i + 1))), (0, (S 1000 (i + 2))), (0, (S 1000 (i + 3)))]) (rest := []) (lj_9 (by decide) rfl) rfl (fun _ _ => rfl) rfl rfl rfl rfl rfl rfl rfl rfl (Cl.mono (c_M_stands S1 A hR1 hV (S 1000 (i + 1)) (S 1000 (i + 2)) (S 1000 (i + 3))) ?_)
  rintro _ S2 ⟨rfl, hR2, f2⟩
  refine ⟨_, rfl, ?_⟩
  refine R_op (nx := 821) (lj_9 (by decide) rfl) rfl rfl ?_
  refine R_op (nx := 824) (pc' := 1544) (lj_9 (by decide) rfl) rfl rfl ?_
  exact k S2 (Q_stands A (S 1000 (i + 1)) (S 1000 (i + 2)) (S 1000 (i + 3))).2 ⟨hC1.fr fun b hb => f2 b (by omega), hR2, V_stands hV (S 1000 (i + 1)) (S 1000 (i + 2)) (S 1000 (i + 3)), by rw [f2 1000 (by decide)]; exact hL1, fun j => by rw [f2 1000 (by decide), e1]; exact hr j⟩

set_option maxRecDepth 20000 in
theorem lw_14 {S : mm_S} {A : mm_A} {L : Nat}  (hS : WS S A L) (i : Int) (hi : 0 ≤ i ∧ i + 7 ≤ (L : Int)) (hL0 : L ≤ 3584) (k : ∀ S' A', WS S' A' L → Rn k_Law_law 1544 [(2, 1000), (2, 0), (2, 71), (0, i)] [] S' QL) : Rn k_Law_law 824 [(2, 1000), (2, 0), (2, 71), (0, i)] [] S QL := by
  obtain ⟨hRC, hRR, hV, hL, hr⟩ := hS
  refine R_lo (nx := 825) (lj_9 (by decide) rfl) rfl rfl rfl ?_
  refine R_lo (nx := 826) (lj_9 (by decide) rfl) rfl rfl rfl ?_
  refine R_lo (nx := 827) (lj_9 (by decide) rfl) rfl rfl rfl ?_
  refine R_op (nx := 828) (lj_9 (by decide) rfl) rfl rfl ?_
  refine R_iadd (nx := 829) (z := (i + 1)) (lj_9 (by decide) rfl) rfl rfl ⟨by omega, by omega⟩ ?_
  refine R_ld1000 (nx := 830) (lj_9 (by decide) rfl) rfl rfl (by omega) (by omega) ?_
  refine R_lo (nx := 831) (lj_9 (by decide) rfl) rfl rfl rfl ?_
  refine R_lo (nx := 832) (lj_9 (by decide) rfl) rfl rfl rfl ?_
  refine R_op (nx := 833) (lj_9 (by decide) rfl) rfl rfl ?_
  refine R_iadd (nx := 834) (z := (i + 2)) (lj_9 (by decide) rfl) rfl rfl ⟨by omega, by omega⟩ ?_
  refine R_ld1000 (nx := 835) (lj_9 (by decide) rfl) rfl rfl (by omega) (by omega) ?_
  refine R_lo (nx := 836) (lj_9 (by decide) rfl) rfl rfl rfl ?_
  refine R_lo (nx := 837) (lj_9 (by decide) rfl) rfl rfl rfl ?_
  refine R_op (nx := 838) (lj_9 (by decide) rfl) rfl rfl ?_
  refine R_iadd (nx := 839) (z := (i + 3)) (lj_9 (by decide) rfl) rfl rfl ⟨by omega, by omega⟩ ?_
  refine R_ld1000 (nx := 840) (lj_9 (by decide) rfl) rfl rfl (by omega) (by omega) ?_
  refine R_call1 (nx := 843) (as := [(2, 0), (0, (S 1000 (i + 1))), (0, (S 1000 (i + 2))), (0, (S 1000 (i + 3)))]) (rest := []) (lj_9 (by decide) rfl) rfl (fun _ _ => rfl) rfl rfl rfl rfl rfl rfl rfl rfl (Cl.mono (c_P_left S A hRC hV (S 1000 (i + 1)) (S 1000 (i + 2)) (S 1000 (i + 3))) ?_)
  rintro _ S1 ⟨rfl, hC1, f1⟩
  have e1 : S1 1000 = S 1000 := f1 1000 (by decide)
  have hR1 : RR S1 A := hRR.fr (R71.of (f1 71 (by decide))) fun b hb => f1 b (by omega)
  have hL1 : S1 1000 (-1) = (L : Int) := by rw [e1]; exact hL
  refine ⟨_, rfl, ?_⟩
  refine R_op (nx := 844) (lj_9 (by decide) rfl) rfl rfl ?_
  refine R_lo (nx := 845) (lj_9 (by decide) rfl) rfl rfl rfl ?_
  refine R_lo (nx := 846) (lj_9 (by decide) rfl) rfl rfl rfl ?_
  refine R_lo (nx := 847) (lj_9 (by decide) rfl) rfl rfl rfl ?_
  refine R_op (nx := 848) (lj_9 (by decide) rfl) rfl rfl ?_
  refine R_iadd (nx := 849) (z := (i + 1)) (lj_9 (by decide) rfl) rfl rfl ⟨by omega, by omega⟩ ?_
  refine R_ld1000 (nx := 850) (lj_9 (by decide) rfl) rfl e1 (by omega) (by omega) ?_
  refine R_lo (nx := 851) (lj_10 (by decide) rfl) rfl rfl rfl ?_
  refine R_lo (nx := 852) (lj_10 (by decide) rfl) rfl rfl rfl ?_
  refine R_op (nx := 853) (lj_10 (by decide) rfl) rfl rfl ?_
  refine R_iadd (nx := 854) (z := (i + 2)) (lj_10 (by decide) rfl) rfl rfl ⟨by omega, by omega⟩ ?_
  refine R_ld1000 (nx := 855) (lj_10 (by decide) rfl) rfl e1 (by omega) (by omega) ?_
  refine R_lo (nx := 856) (lj_10 (by decide) rfl) rfl rfl rfl ?_
  refine R_lo (nx := 857) (lj_10 (by decide) rfl) rfl rfl rfl ?_
  refine R_op (nx := 858) (lj_10 (by decide) rfl) rfl rfl ?_
  refine R_iadd (nx := 859) (z := (i + 3)) (lj_10 (by decide) rfl) rfl rfl ⟨by omega, by omega⟩ ?_
  refine R_ld1000 (nx := 860) (lj_10 (by decide) rfl) rfl e1 (by omega) (by omega) ?_
  refine R_call1 (nx := 863) (as := [(2, 71), (0, (S 1000 (i + 1))), (0, (S 1000 (i + 2))), (0, (S 1000 (i + 3)))]) (rest := []) (lj_10 (by decide) rfl) rfl (fun _ _ => rfl) rfl rfl rfl rfl rfl rfl rfl rfl (Cl.mono (c_M_left S1 A hR1 hV (S 1000 (i + 1)) (S 1000 (i + 2)) (S 1000 (i + 3))) ?_)
  rintro _ S2 ⟨rfl, hR2, f2⟩
  refine ⟨_, rfl, ?_⟩
  refine R_op (nx := 864) (lj_10 (by decide) rfl) rfl rfl ?_
  refine R_op (nx := 867) (pc' := 1544) (lj_10 (by decide) rfl) rfl rfl ?_
  exact k S2 (Q_left A (S 1000 (i + 1)) (S 1000 (i + 2)) (S 1000 (i + 3))).2 ⟨hC1.fr fun b hb => f2 b (by omega), hR2, V_left hV (S 1000 (i + 1)) (S 1000 (i + 2)) (S 1000 (i + 3)), by rw [f2 1000 (by decide)]; exact hL1, fun j => by rw [f2 1000 (by decide), e1]; exact hr j⟩

set_option maxRecDepth 20000 in
theorem lw_15 {S : mm_S} {A : mm_A} {L : Nat}  (hS : WS S A L) (i : Int) (hi : 0 ≤ i ∧ i + 7 ≤ (L : Int)) (hL0 : L ≤ 3584) (k : ∀ S' A', WS S' A' L → Rn k_Law_law 1544 [(2, 1000), (2, 0), (2, 71), (0, i)] [] S' QL) : Rn k_Law_law 867 [(2, 1000), (2, 0), (2, 71), (0, i)] [] S QL := by
  obtain ⟨hRC, hRR, hV, hL, hr⟩ := hS
  refine R_lo (nx := 868) (lj_10 (by decide) rfl) rfl rfl rfl ?_
  refine R_lo (nx := 869) (lj_10 (by decide) rfl) rfl rfl rfl ?_
  refine R_lo (nx := 870) (lj_10 (by decide) rfl) rfl rfl rfl ?_
  refine R_op (nx := 871) (lj_10 (by decide) rfl) rfl rfl ?_
  refine R_iadd (nx := 872) (z := (i + 1)) (lj_10 (by decide) rfl) rfl rfl ⟨by omega, by omega⟩ ?_
  refine R_ld1000 (nx := 873) (lj_10 (by decide) rfl) rfl rfl (by omega) (by omega) ?_
  refine R_lo (nx := 874) (lj_10 (by decide) rfl) rfl rfl rfl ?_
  refine R_lo (nx := 875) (lj_10 (by decide) rfl) rfl rfl rfl ?_
  refine R_op (nx := 876) (lj_10 (by decide) rfl) rfl rfl ?_
  refine R_iadd (nx := 877) (z := (i + 2)) (lj_10 (by decide) rfl) rfl rfl ⟨by omega, by omega⟩ ?_
  refine R_ld1000 (nx := 878) (lj_10 (by decide) rfl) rfl rfl (by omega) (by omega) ?_
  refine R_lo (nx := 879) (lj_10 (by decide) rfl) rfl rfl rfl ?_
  refine R_lo (nx := 880) (lj_10 (by decide) rfl) rfl rfl rfl ?_
  refine R_op (nx := 881) (lj_10 (by decide) rfl) rfl rfl ?_
  refine R_iadd (nx := 882) (z := (i + 3)) (lj_10 (by decide) rfl) rfl rfl ⟨by omega, by omega⟩ ?_
  refine R_ld1000 (nx := 883) (lj_10 (by decide) rfl) rfl rfl (by omega) (by omega) ?_
  refine R_call1 (nx := 886) (as := [(2, 0), (0, (S 1000 (i + 1))), (0, (S 1000 (i + 2))), (0, (S 1000 (i + 3)))]) (rest := []) (lj_10 (by decide) rfl) rfl (fun _ _ => rfl) rfl rfl rfl rfl rfl rfl rfl rfl (Cl.mono (c_P_whole S A hRC hV (S 1000 (i + 1)) (S 1000 (i + 2)) (S 1000 (i + 3)) (hr _)) ?_)
  rintro _ S1 ⟨z1, rfl, g1, hC1, f1⟩
  have e1 : S1 1000 = S 1000 := f1 1000 (by decide)
  have hR1 : RR S1 A := hRR.fr (R71.of (f1 71 (by decide))) fun b hb => f1 b (by omega)
  have hL1 : S1 1000 (-1) = (L : Int) := by rw [e1]; exact hL
  refine ⟨_, rfl, ?_⟩
  refine R_op (nx := 887) (lj_10 (by decide) rfl) rfl rfl ?_
  refine R_lo (nx := 888) (lj_10 (by decide) rfl) rfl rfl rfl ?_
  refine R_lo (nx := 889) (lj_10 (by decide) rfl) rfl rfl rfl ?_
  refine R_lo (nx := 890) (lj_10 (by decide) rfl) rfl rfl rfl ?_
  refine R_op (nx := 891) (lj_10 (by decide) rfl) rfl rfl ?_
  refine R_iadd (nx := 892) (z := (i + 1)) (lj_10 (by decide) rfl) rfl rfl ⟨by omega, by omega⟩ ?_
  refine R_ld1000 (nx := 893) (lj_10 (by decide) rfl) rfl e1 (by omega) (by omega) ?_
  refine R_lo (nx := 894) (lj_10 (by decide) rfl) rfl rfl rfl ?_
  refine R_lo (nx := 895) (lj_10 (by decide) rfl) rfl rfl rfl ?_
  refine R_op (nx := 896) (lj_10 (by decide) rfl) rfl rfl ?_
  refine R_iadd (nx := 897) (z := (i + 2)) (lj_10 (by decide) rfl) rfl rfl ⟨by omega, by omega⟩ ?_
  refine R_ld1000 (nx := 898) (lj_10 (by decide) rfl) rfl e1 (by omega) (by omega) ?_
  refine R_lo (nx := 899) (lj_10 (by decide) rfl) rfl rfl rfl ?_
  refine R_lo (nx := 900) (lj_10 (by decide) rfl) rfl rfl rfl ?_
  refine R_op (nx := 901) (lj_10 (by decide) rfl) rfl rfl ?_
  refine R_iadd (nx := 902) (z := (i + 3)) (lj_10 (by decide) rfl) rfl rfl ⟨by omega, by omega⟩ ?_
  refine R_ld1000 (nx := 903) (lj_10 (by decide) rfl) rfl e1 (by omega) (by omega) ?_
  refine R_call1 (nx := 906) (as := [(2, 71), (0, (S 1000 (i + 1))), (0, (S 1000 (i + 2))), (0, (S 1000 (i + 3)))]) (rest := []) (lj_10 (by decide) rfl) rfl (fun _ _ => rfl) rfl rfl rfl rfl rfl rfl rfl rfl (Cl.mono (c_M_whole S1 A hR1 hV (S 1000 (i + 1)) (S 1000 (i + 2)) (S 1000 (i + 3)) (hr _)) ?_)
  rintro _ S2 ⟨z2, rfl, g2, hR2, f2⟩
  refine ⟨_, rfl, ?_⟩
  refine R_op (nx := 907) (lj_10 (by decide) rfl) rfl rfl ?_
  refine R_op (nx := 910) (pc' := 1544) (lj_10 (by decide) rfl) rfl rfl ?_
  exact k S2 A ⟨hC1.fr fun b hb => f2 b (by omega), hR2, hV, by rw [f2 1000 (by decide)]; exact hL1, fun j => by rw [f2 1000 (by decide), e1]; exact hr j⟩

set_option maxRecDepth 20000 in
theorem lw_16 {S : mm_S} {A : mm_A} {L : Nat}  (hS : WS S A L) (i : Int) (hi : 0 ≤ i ∧ i + 7 ≤ (L : Int)) (hL0 : L ≤ 3584) (k : ∀ S' A', WS S' A' L → Rn k_Law_law 1544 [(2, 1000), (2, 0), (2, 71), (0, i)] [] S' QL) : Rn k_Law_law 910 [(2, 1000), (2, 0), (2, 71), (0, i)] [] S QL := by
  obtain ⟨hRC, hRR, hV, hL, hr⟩ := hS
  refine R_lo (nx := 911) (lj_10 (by decide) rfl) rfl rfl rfl ?_
  refine R_lo (nx := 912) (lj_10 (by decide) rfl) rfl rfl rfl ?_
  refine R_lo (nx := 913) (lj_10 (by decide) rfl) rfl rfl rfl ?_
  refine R_op (nx := 914) (lj_10 (by decide) rfl) rfl rfl ?_
  refine R_iadd (nx := 915) (z := (i + 1)) (lj_10 (by decide) rfl) rfl rfl ⟨by omega, by omega⟩ ?_
  refine R_ld1000 (nx := 916) (lj_10 (by decide) rfl) rfl rfl (by omega) (by omega) ?_
  refine R_lo (nx := 917) (lj_10 (by decide) rfl) rfl rfl rfl ?_
  refine R_lo (nx := 918) (lj_10 (by decide) rfl) rfl rfl rfl ?_
  refine R_op (nx := 919) (lj_10 (by decide) rfl) rfl rfl ?_
  refine R_iadd (nx := 920) (z := (i + 2)) (lj_10 (by decide) rfl) rfl rfl ⟨by omega, by omega⟩ ?_
  refine R_ld1000 (nx := 921) (lj_11 (by decide) rfl) rfl rfl (by omega) (by omega) ?_
  refine R_lo (nx := 922) (lj_11 (by decide) rfl) rfl rfl rfl ?_
  refine R_lo (nx := 923) (lj_11 (by decide) rfl) rfl rfl rfl ?_
  refine R_op (nx := 924) (lj_11 (by decide) rfl) rfl rfl ?_
  refine R_iadd (nx := 925) (z := (i + 3)) (lj_11 (by decide) rfl) rfl rfl ⟨by omega, by omega⟩ ?_
  refine R_ld1000 (nx := 926) (lj_11 (by decide) rfl) rfl rfl (by omega) (by omega) ?_
  refine R_lo (nx := 927) (lj_11 (by decide) rfl) rfl rfl rfl ?_
  refine R_lo (nx := 928) (lj_11 (by decide) rfl) rfl rfl rfl ?_
  refine R_op (nx := 929) (lj_11 (by decide) rfl) rfl rfl ?_
  refine R_iadd (nx := 930) (z := (i + 4)) (lj_11 (by decide) rfl) rfl rfl ⟨by omega, by omega⟩ ?_
  refine R_ld1000 (nx := 931) (lj_11 (by decide) rfl) rfl rfl (by omega) (by omega) ?_
  refine R_lo (nx := 932) (lj_11 (by decide) rfl) rfl rfl rfl ?_
  refine R_lo (nx := 933) (lj_11 (by decide) rfl) rfl rfl rfl ?_
  refine R_op (nx := 934) (lj_11 (by decide) rfl) rfl rfl ?_
  refine R_iadd (nx := 935) (z := (i + 5)) (lj_11 (by decide) rfl) rfl rfl ⟨by omega, by omega⟩ ?_
  refine R_ld1000 (nx := 936) (lj_11 (by decide) rfl) rfl rfl (by omega) (by omega) ?_
  refine R_call1 (nx := 939) (as := [(2, 0), (0, (S 1000 (i + 1))), (0, (S 1000 (i + 2))), (0, (S 1000 (i + 3))), (0, (S 1000 (i + 4))), (0, (S 1000 (i + 5)))]) (rest := []) (lj_11 (by decide) rfl) rfl (fun _ _ => rfl) rfl rfl rfl rfl rfl rfl rfl rfl (Cl.mono (c_P_wholeAt S A hRC hV (S 1000 (i + 1)) (S 1000 (i + 2)) (S 1000 (i + 3)) (S 1000 (i + 4)) (S 1000 (i + 5)) (hr _)) ?_)
  rintro _ S1 ⟨z1, rfl, g1, hC1, f1⟩
  have e1 : S1 1000 = S 1000 := f1 1000 (by decide)
  have hR1 : RR S1 A := hRR.fr (R71.of (f1 71 (by decide))) fun b hb => f1 b (by omega)
  have hL1 : S1 1000 (-1) = (L : Int) := by rw [e1]; exact hL
  refine ⟨_, rfl, ?_⟩
  refine R_op (nx := 940) (lj_11 (by decide) rfl) rfl rfl ?_
  refine R_lo (nx := 941) (lj_11 (by decide) rfl) rfl rfl rfl ?_
  refine R_lo (nx := 942) (lj_11 (by decide) rfl) rfl rfl rfl ?_
  refine R_lo (nx := 943) (lj_11 (by decide) rfl) rfl rfl rfl ?_
  refine R_op (nx := 944) (lj_11 (by decide) rfl) rfl rfl ?_
  refine R_iadd (nx := 945) (z := (i + 1)) (lj_11 (by decide) rfl) rfl rfl ⟨by omega, by omega⟩ ?_
  refine R_ld1000 (nx := 946) (lj_11 (by decide) rfl) rfl e1 (by omega) (by omega) ?_
  refine R_lo (nx := 947) (lj_11 (by decide) rfl) rfl rfl rfl ?_
  refine R_lo (nx := 948) (lj_11 (by decide) rfl) rfl rfl rfl ?_
  refine R_op (nx := 949) (lj_11 (by decide) rfl) rfl rfl ?_
  refine R_iadd (nx := 950) (z := (i + 2)) (lj_11 (by decide) rfl) rfl rfl ⟨by omega, by omega⟩ ?_
  refine R_ld1000 (nx := 951) (lj_11 (by decide) rfl) rfl e1 (by omega) (by omega) ?_
  refine R_lo (nx := 952) (lj_11 (by decide) rfl) rfl rfl rfl ?_
  refine R_lo (nx := 953) (lj_11 (by decide) rfl) rfl rfl rfl ?_
  refine R_op (nx := 954) (lj_11 (by decide) rfl) rfl rfl ?_
  refine R_iadd (nx := 955) (z := (i + 3)) (lj_11 (by decide) rfl) rfl rfl ⟨by omega, by omega⟩ ?_
  refine R_ld1000 (nx := 956) (lj_11 (by decide) rfl) rfl e1 (by omega) (by omega) ?_
  refine R_lo (nx := 957) (lj_11 (by decide) rfl) rfl rfl rfl ?_
  refine R_lo (nx := 958) (lj_11 (by decide) rfl) rfl rfl rfl ?_
  refine R_op (nx := 959) (lj_11 (by decide) rfl) rfl rfl ?_
  refine R_iadd (nx := 960) (z := (i + 4)) (lj_11 (by decide) rfl) rfl rfl ⟨by omega, by omega⟩ ?_
  refine R_ld1000 (nx := 961) (lj_11 (by decide) rfl) rfl e1 (by omega) (by omega) ?_
  refine R_lo (nx := 962) (lj_11 (by decide) rfl) rfl rfl rfl ?_
  refine R_lo (nx := 963) (lj_11 (by decide) rfl) rfl rfl rfl ?_
  refine R_op (nx := 964) (lj_11 (by decide) rfl) rfl rfl ?_
  refine R_iadd (nx := 965) (z := (i + 5)) (lj_11 (by decide) rfl) rfl rfl ⟨by omega, by omega⟩ ?_
  refine R_ld1000 (nx := 966) (lj_11 (by decide) rfl) rfl e1 (by omega) (by omega) ?_
  refine R_call1 (nx := 969) (as := [(2, 71), (0, (S 1000 (i + 1))), (0, (S 1000 (i + 2))), (0, (S 1000 (i + 3))), (0, (S 1000 (i + 4))), (0, (S 1000 (i + 5)))]) (rest := []) (lj_11 (by decide) rfl) rfl (fun _ _ => rfl) rfl rfl rfl rfl rfl rfl rfl rfl (Cl.mono (c_M_wholeAt S1 A hR1 hV (S 1000 (i + 1)) (S 1000 (i + 2)) (S 1000 (i + 3)) (S 1000 (i + 4)) (S 1000 (i + 5)) (hr _)) ?_)
  rintro _ S2 ⟨z2, rfl, g2, hR2, f2⟩
  refine ⟨_, rfl, ?_⟩
  refine R_op (nx := 970) (lj_11 (by decide) rfl) rfl rfl ?_
  refine R_op (nx := 973) (pc' := 1544) (lj_11 (by decide) rfl) rfl rfl ?_
  exact k S2 A ⟨hC1.fr fun b hb => f2 b (by omega), hR2, hV, by rw [f2 1000 (by decide)]; exact hL1, fun j => by rw [f2 1000 (by decide), e1]; exact hr j⟩

set_option maxRecDepth 20000 in
theorem lw_17 {S : mm_S} {A : mm_A} {L : Nat}  (hS : WS S A L) (i : Int) (hi : 0 ≤ i ∧ i + 7 ≤ (L : Int)) (hL0 : L ≤ 3584) (k : ∀ S' A', WS S' A' L → Rn k_Law_law 1544 [(2, 1000), (2, 0), (2, 71), (0, i)] [] S' QL) : Rn k_Law_law 973 [(2, 1000), (2, 0), (2, 71), (0, i)] [] S QL := by
  obtain ⟨hRC, hRR, hV, hL, hr⟩ := hS
  refine R_lo (nx := 974) (lj_11 (by decide) rfl) rfl rfl rfl ?_
  refine R_lo (nx := 975) (lj_11 (by decide) rfl) rfl rfl rfl ?_
  refine R_lo (nx := 976) (lj_11 (by decide) rfl) rfl rfl rfl ?_
  refine R_op (nx := 977) (lj_11 (by decide) rfl) rfl rfl ?_
  refine R_iadd (nx := 978) (z := (i + 1)) (lj_11 (by decide) rfl) rfl rfl ⟨by omega, by omega⟩ ?_
  refine R_ld1000 (nx := 979) (lj_11 (by decide) rfl) rfl rfl (by omega) (by omega) ?_
  refine R_lo (nx := 980) (lj_11 (by decide) rfl) rfl rfl rfl ?_
  refine R_lo (nx := 981) (lj_11 (by decide) rfl) rfl rfl rfl ?_
  refine R_op (nx := 982) (lj_11 (by decide) rfl) rfl rfl ?_
  refine R_iadd (nx := 983) (z := (i + 2)) (lj_11 (by decide) rfl) rfl rfl ⟨by omega, by omega⟩ ?_
  refine R_ld1000 (nx := 984) (lj_11 (by decide) rfl) rfl rfl (by omega) (by omega) ?_
  refine R_lo (nx := 985) (lj_11 (by decide) rfl) rfl rfl rfl ?_
  refine R_lo (nx := 986) (lj_11 (by decide) rfl) rfl rfl rfl ?_
  refine R_op (nx := 987) (lj_12 (by decide) rfl) rfl rfl ?_
  refine R_iadd (nx := 988) (z := (i + 3)) (lj_12 (by decide) rfl) rfl rfl ⟨by omega, by omega⟩ ?_
  refine R_ld1000 (nx := 989) (lj_12 (by decide) rfl) rfl rfl (by omega) (by omega) ?_
  refine R_call1 (nx := 992) (as := [(2, 0), (0, (S 1000 (i + 1))), (0, (S 1000 (i + 2))), (0, (S 1000 (i + 3)))]) (rest := []) (lj_12 (by decide) rfl) rfl (fun _ _ => rfl) rfl rfl rfl rfl rfl rfl rfl rfl (Cl.mono (c_P_times S A hRC hV (S 1000 (i + 1)) (S 1000 (i + 2)) (S 1000 (i + 3))) ?_)
  rintro _ S1 ⟨rfl, hC1, f1⟩
  have e1 : S1 1000 = S 1000 := f1 1000 (by decide)
  have hR1 : RR S1 A := hRR.fr (R71.of (f1 71 (by decide))) fun b hb => f1 b (by omega)
  have hL1 : S1 1000 (-1) = (L : Int) := by rw [e1]; exact hL
  refine ⟨_, rfl, ?_⟩
  refine R_op (nx := 993) (lj_12 (by decide) rfl) rfl rfl ?_
  refine R_lo (nx := 994) (lj_12 (by decide) rfl) rfl rfl rfl ?_
  refine R_lo (nx := 995) (lj_12 (by decide) rfl) rfl rfl rfl ?_
  refine R_lo (nx := 996) (lj_12 (by decide) rfl) rfl rfl rfl ?_
  refine R_op (nx := 997) (lj_12 (by decide) rfl) rfl rfl ?_
  refine R_iadd (nx := 998) (z := (i + 1)) (lj_12 (by decide) rfl) rfl rfl ⟨by omega, by omega⟩ ?_
  refine R_ld1000 (nx := 999) (lj_12 (by decide) rfl) rfl e1 (by omega) (by omega) ?_
  refine R_lo (nx := 1000) (lj_12 (by decide) rfl) rfl rfl rfl ?_
  refine R_lo (nx := 1001) (lj_12 (by decide) rfl) rfl rfl rfl ?_
  refine R_op (nx := 1002) (lj_12 (by decide) rfl) rfl rfl ?_
  refine R_iadd (nx := 1003) (z := (i + 2)) (lj_12 (by decide) rfl) rfl rfl ⟨by omega, by omega⟩ ?_
  refine R_ld1000 (nx := 1004) (lj_12 (by decide) rfl) rfl e1 (by omega) (by omega) ?_
  refine R_lo (nx := 1005) (lj_12 (by decide) rfl) rfl rfl rfl ?_
  refine R_lo (nx := 1006) (lj_12 (by decide) rfl) rfl rfl rfl ?_
  refine R_op (nx := 1007) (lj_12 (by decide) rfl) rfl rfl ?_
  refine R_iadd (nx := 1008) (z := (i + 3)) (lj_12 (by decide) rfl) rfl rfl ⟨by omega, by omega⟩ ?_
  refine R_ld1000 (nx := 1009) (lj_12 (by decide) rfl) rfl e1 (by omega) (by omega) ?_
  refine R_call1 (nx := 1012) (as := [(2, 71), (0, (S 1000 (i + 1))), (0, (S 1000 (i + 2))), (0, (S 1000 (i + 3)))]) (rest := []) (lj_12 (by decide) rfl) rfl (fun _ _ => rfl) rfl rfl rfl rfl rfl rfl rfl rfl (Cl.mono (c_M_times S1 A hR1 hV (S 1000 (i + 1)) (S 1000 (i + 2)) (S 1000 (i + 3))) ?_)
  rintro _ S2 ⟨rfl, hR2, f2⟩
  refine ⟨_, rfl, ?_⟩
  refine R_op (nx := 1013) (lj_12 (by decide) rfl) rfl rfl ?_
  refine R_op (nx := 1016) (pc' := 1544) (lj_12 (by decide) rfl) rfl rfl ?_
  exact k S2 (Q_times A (S 1000 (i + 1)) (S 1000 (i + 2)) (S 1000 (i + 3))).2 ⟨hC1.fr fun b hb => f2 b (by omega), hR2, V_times hV (S 1000 (i + 1)) (S 1000 (i + 2)) (S 1000 (i + 3)), by rw [f2 1000 (by decide)]; exact hL1, fun j => by rw [f2 1000 (by decide), e1]; exact hr j⟩

set_option maxRecDepth 20000 in
theorem lw_18 {S : mm_S} {A : mm_A} {L : Nat}  (hS : WS S A L) (i : Int) (hi : 0 ≤ i ∧ i + 7 ≤ (L : Int)) (hL0 : L ≤ 3584) (k : ∀ S' A', WS S' A' L → Rn k_Law_law 1544 [(2, 1000), (2, 0), (2, 71), (0, i)] [] S' QL) : Rn k_Law_law 1016 [(2, 1000), (2, 0), (2, 71), (0, i)] [] S QL := by
  obtain ⟨hRC, hRR, hV, hL, hr⟩ := hS
  refine R_lo (nx := 1017) (lj_12 (by decide) rfl) rfl rfl rfl ?_
  refine R_lo (nx := 1018) (lj_12 (by decide) rfl) rfl rfl rfl ?_
  refine R_lo (nx := 1019) (lj_12 (by decide) rfl) rfl rfl rfl ?_
  refine R_op (nx := 1020) (lj_12 (by decide) rfl) rfl rfl ?_
  refine R_iadd (nx := 1021) (z := (i + 1)) (lj_12 (by decide) rfl) rfl rfl ⟨by omega, by omega⟩ ?_
  refine R_ld1000 (nx := 1022) (lj_12 (by decide) rfl) rfl rfl (by omega) (by omega) ?_
  refine R_lo (nx := 1023) (lj_12 (by decide) rfl) rfl rfl rfl ?_
  refine R_lo (nx := 1024) (lj_12 (by decide) rfl) rfl rfl rfl ?_
  refine R_op (nx := 1025) (lj_12 (by decide) rfl) rfl rfl ?_
  refine R_iadd (nx := 1026) (z := (i + 2)) (lj_12 (by decide) rfl) rfl rfl ⟨by omega, by omega⟩ ?_
  refine R_ld1000 (nx := 1027) (lj_12 (by decide) rfl) rfl rfl (by omega) (by omega) ?_
  refine R_lo (nx := 1028) (lj_12 (by decide) rfl) rfl rfl rfl ?_
  refine R_lo (nx := 1029) (lj_12 (by decide) rfl) rfl rfl rfl ?_
  refine R_op (nx := 1030) (lj_12 (by decide) rfl) rfl rfl ?_
  refine R_iadd (nx := 1031) (z := (i + 3)) (lj_12 (by decide) rfl) rfl rfl ⟨by omega, by omega⟩ ?_
  refine R_ld1000 (nx := 1032) (lj_12 (by decide) rfl) rfl rfl (by omega) (by omega) ?_
  refine R_lo (nx := 1033) (lj_12 (by decide) rfl) rfl rfl rfl ?_
  refine R_lo (nx := 1034) (lj_12 (by decide) rfl) rfl rfl rfl ?_
  refine R_op (nx := 1035) (lj_12 (by decide) rfl) rfl rfl ?_
  refine R_iadd (nx := 1036) (z := (i + 4)) (lj_12 (by decide) rfl) rfl rfl ⟨by omega, by omega⟩ ?_
  refine R_ld1000 (nx := 1037) (lj_12 (by decide) rfl) rfl rfl (by omega) (by omega) ?_
  refine R_call1 (nx := 1040) (as := [(2, 0), (0, (S 1000 (i + 1))), (0, (S 1000 (i + 2))), (0, (S 1000 (i + 3))), (0, (S 1000 (i + 4)))]) (rest := []) (lj_12 (by decide) rfl) rfl (fun _ _ => rfl) rfl rfl rfl rfl rfl rfl rfl rfl (Cl.mono (c_P_part S A hRC hV (S 1000 (i + 1)) (S 1000 (i + 2)) (S 1000 (i + 3)) (S 1000 (i + 4))) ?_)
  rintro _ S1 ⟨rfl, hC1, f1⟩
  have e1 : S1 1000 = S 1000 := f1 1000 (by decide)
  have hR1 : RR S1 A := hRR.fr (R71.of (f1 71 (by decide))) fun b hb => f1 b (by omega)
  have hL1 : S1 1000 (-1) = (L : Int) := by rw [e1]; exact hL
  refine ⟨_, rfl, ?_⟩
  refine R_op (nx := 1041) (lj_12 (by decide) rfl) rfl rfl ?_
  refine R_lo (nx := 1042) (lj_12 (by decide) rfl) rfl rfl rfl ?_
  refine R_lo (nx := 1043) (lj_12 (by decide) rfl) rfl rfl rfl ?_
  refine R_lo (nx := 1044) (lj_12 (by decide) rfl) rfl rfl rfl ?_
  refine R_op (nx := 1045) (lj_12 (by decide) rfl) rfl rfl ?_
  refine R_iadd (nx := 1046) (z := (i + 1)) (lj_12 (by decide) rfl) rfl rfl ⟨by omega, by omega⟩ ?_
  refine R_ld1000 (nx := 1047) (lj_12 (by decide) rfl) rfl e1 (by omega) (by omega) ?_
  refine R_lo (nx := 1048) (lj_12 (by decide) rfl) rfl rfl rfl ?_
  refine R_lo (nx := 1049) (lj_12 (by decide) rfl) rfl rfl rfl ?_
  refine R_op (nx := 1050) (lj_12 (by decide) rfl) rfl rfl ?_
  refine R_iadd (nx := 1051) (z := (i + 2)) (lj_12 (by decide) rfl) rfl rfl ⟨by omega, by omega⟩ ?_
  refine R_ld1000 (nx := 1052) (lj_12 (by decide) rfl) rfl e1 (by omega) (by omega) ?_
  refine R_lo (nx := 1053) (lj_12 (by decide) rfl) rfl rfl rfl ?_
  refine R_lo (nx := 1054) (lj_12 (by decide) rfl) rfl rfl rfl ?_
  refine R_op (nx := 1055) (lj_13 (by decide) rfl) rfl rfl ?_
  refine R_iadd (nx := 1056) (z := (i + 3)) (lj_13 (by decide) rfl) rfl rfl ⟨by omega, by omega⟩ ?_
  refine R_ld1000 (nx := 1057) (lj_13 (by decide) rfl) rfl e1 (by omega) (by omega) ?_
  refine R_lo (nx := 1058) (lj_13 (by decide) rfl) rfl rfl rfl ?_
  refine R_lo (nx := 1059) (lj_13 (by decide) rfl) rfl rfl rfl ?_
  refine R_op (nx := 1060) (lj_13 (by decide) rfl) rfl rfl ?_
  refine R_iadd (nx := 1061) (z := (i + 4)) (lj_13 (by decide) rfl) rfl rfl ⟨by omega, by omega⟩ ?_
  refine R_ld1000 (nx := 1062) (lj_13 (by decide) rfl) rfl e1 (by omega) (by omega) ?_
  refine R_call1 (nx := 1065) (as := [(2, 71), (0, (S 1000 (i + 1))), (0, (S 1000 (i + 2))), (0, (S 1000 (i + 3))), (0, (S 1000 (i + 4)))]) (rest := []) (lj_13 (by decide) rfl) rfl (fun _ _ => rfl) rfl rfl rfl rfl rfl rfl rfl rfl (Cl.mono (c_M_part S1 A hR1 hV (S 1000 (i + 1)) (S 1000 (i + 2)) (S 1000 (i + 3)) (S 1000 (i + 4))) ?_)
  rintro _ S2 ⟨rfl, hR2, f2⟩
  refine ⟨_, rfl, ?_⟩
  refine R_op (nx := 1066) (lj_13 (by decide) rfl) rfl rfl ?_
  refine R_op (nx := 1069) (pc' := 1544) (lj_13 (by decide) rfl) rfl rfl ?_
  exact k S2 (Q_part A (S 1000 (i + 1)) (S 1000 (i + 2)) (S 1000 (i + 3)) (S 1000 (i + 4))).2 ⟨hC1.fr fun b hb => f2 b (by omega), hR2, V_part hV (S 1000 (i + 1)) (S 1000 (i + 2)) (S 1000 (i + 3)) (S 1000 (i + 4)), by rw [f2 1000 (by decide)]; exact hL1, fun j => by rw [f2 1000 (by decide), e1]; exact hr j⟩

set_option maxRecDepth 20000 in
theorem lw_19 {S : mm_S} {A : mm_A} {L : Nat}  (hS : WS S A L) (i : Int) (hi : 0 ≤ i ∧ i + 7 ≤ (L : Int)) (hL0 : L ≤ 3584) (k : ∀ S' A', WS S' A' L → Rn k_Law_law 1544 [(2, 1000), (2, 0), (2, 71), (0, i)] [] S' QL) : Rn k_Law_law 1069 [(2, 1000), (2, 0), (2, 71), (0, i)] [] S QL := by
  obtain ⟨hRC, hRR, hV, hL, hr⟩ := hS
  refine R_lo (nx := 1070) (lj_13 (by decide) rfl) rfl rfl rfl ?_
  refine R_lo (nx := 1071) (lj_13 (by decide) rfl) rfl rfl rfl ?_
  refine R_lo (nx := 1072) (lj_13 (by decide) rfl) rfl rfl rfl ?_
  refine R_op (nx := 1073) (lj_13 (by decide) rfl) rfl rfl ?_
  refine R_iadd (nx := 1074) (z := (i + 1)) (lj_13 (by decide) rfl) rfl rfl ⟨by omega, by omega⟩ ?_
  refine R_ld1000 (nx := 1075) (lj_13 (by decide) rfl) rfl rfl (by omega) (by omega) ?_
  refine R_lo (nx := 1076) (lj_13 (by decide) rfl) rfl rfl rfl ?_
  refine R_lo (nx := 1077) (lj_13 (by decide) rfl) rfl rfl rfl ?_
  refine R_op (nx := 1078) (lj_13 (by decide) rfl) rfl rfl ?_
  refine R_iadd (nx := 1079) (z := (i + 2)) (lj_13 (by decide) rfl) rfl rfl ⟨by omega, by omega⟩ ?_
  refine R_ld1000 (nx := 1080) (lj_13 (by decide) rfl) rfl rfl (by omega) (by omega) ?_
  refine R_lo (nx := 1081) (lj_13 (by decide) rfl) rfl rfl rfl ?_
  refine R_lo (nx := 1082) (lj_13 (by decide) rfl) rfl rfl rfl ?_
  refine R_op (nx := 1083) (lj_13 (by decide) rfl) rfl rfl ?_
  refine R_iadd (nx := 1084) (z := (i + 3)) (lj_13 (by decide) rfl) rfl rfl ⟨by omega, by omega⟩ ?_
  refine R_ld1000 (nx := 1085) (lj_13 (by decide) rfl) rfl rfl (by omega) (by omega) ?_
  refine R_lo (nx := 1086) (lj_13 (by decide) rfl) rfl rfl rfl ?_
  refine R_lo (nx := 1087) (lj_13 (by decide) rfl) rfl rfl rfl ?_
  refine R_op (nx := 1088) (lj_13 (by decide) rfl) rfl rfl ?_
  refine R_iadd (nx := 1089) (z := (i + 4)) (lj_13 (by decide) rfl) rfl rfl ⟨by omega, by omega⟩ ?_
  refine R_ld1000 (nx := 1090) (lj_13 (by decide) rfl) rfl rfl (by omega) (by omega) ?_
  refine R_lo (nx := 1091) (lj_13 (by decide) rfl) rfl rfl rfl ?_
  refine R_lo (nx := 1092) (lj_13 (by decide) rfl) rfl rfl rfl ?_
  refine R_op (nx := 1093) (lj_13 (by decide) rfl) rfl rfl ?_
  refine R_iadd (nx := 1094) (z := (i + 5)) (lj_13 (by decide) rfl) rfl rfl ⟨by omega, by omega⟩ ?_
  refine R_ld1000 (nx := 1095) (lj_13 (by decide) rfl) rfl rfl (by omega) (by omega) ?_
  refine R_lo (nx := 1096) (lj_13 (by decide) rfl) rfl rfl rfl ?_
  refine R_lo (nx := 1097) (lj_13 (by decide) rfl) rfl rfl rfl ?_
  refine R_op (nx := 1099) (lj_13 (by decide) rfl) rfl rfl ?_
  refine R_iadd (nx := 1100) (z := (i + 6)) (lj_13 (by decide) rfl) rfl rfl ⟨by omega, by omega⟩ ?_
  refine R_ld1000 (nx := 1101) (lj_13 (by decide) rfl) rfl rfl (by omega) (by omega) ?_
  refine R_call1 (nx := 1104) (as := [(2, 0), (0, (S 1000 (i + 1))), (0, (S 1000 (i + 2))), (0, (S 1000 (i + 3))), (0, (S 1000 (i + 4))), (0, (S 1000 (i + 5))), (0, (S 1000 (i + 6)))]) (rest := []) (lj_13 (by decide) rfl) rfl (fun _ _ => rfl) rfl rfl rfl rfl rfl rfl rfl rfl (Cl.mono (c_P_would S A hRC hV (S 1000 (i + 1)) (S 1000 (i + 2)) (S 1000 (i + 3)) (S 1000 (i + 4)) (S 1000 (i + 5)) (S 1000 (i + 6))) ?_)
  rintro _ S1 ⟨rfl, hC1, f1⟩
  have e1 : S1 1000 = S 1000 := f1 1000 (by decide)
  have hR1 : RR S1 A := hRR.fr (R71.of (f1 71 (by decide))) fun b hb => f1 b (by omega)
  have hL1 : S1 1000 (-1) = (L : Int) := by rw [e1]; exact hL
  refine ⟨_, rfl, ?_⟩
  refine R_op (nx := 1105) (lj_13 (by decide) rfl) rfl rfl ?_
  refine R_lo (nx := 1106) (lj_13 (by decide) rfl) rfl rfl rfl ?_
  refine R_lo (nx := 1107) (lj_13 (by decide) rfl) rfl rfl rfl ?_
  refine R_lo (nx := 1108) (lj_13 (by decide) rfl) rfl rfl rfl ?_
  refine R_op (nx := 1109) (lj_13 (by decide) rfl) rfl rfl ?_
  refine R_iadd (nx := 1110) (z := (i + 1)) (lj_13 (by decide) rfl) rfl rfl ⟨by omega, by omega⟩ ?_
  refine R_ld1000 (nx := 1111) (lj_13 (by decide) rfl) rfl e1 (by omega) (by omega) ?_
  refine R_lo (nx := 1112) (lj_13 (by decide) rfl) rfl rfl rfl ?_
  refine R_lo (nx := 1113) (lj_13 (by decide) rfl) rfl rfl rfl ?_
  refine R_op (nx := 1114) (lj_13 (by decide) rfl) rfl rfl ?_
  refine R_iadd (nx := 1115) (z := (i + 2)) (lj_13 (by decide) rfl) rfl rfl ⟨by omega, by omega⟩ ?_
  refine R_ld1000 (nx := 1116) (lj_13 (by decide) rfl) rfl e1 (by omega) (by omega) ?_
  refine R_lo (nx := 1117) (lj_13 (by decide) rfl) rfl rfl rfl ?_
  refine R_lo (nx := 1118) (lj_13 (by decide) rfl) rfl rfl rfl ?_
  refine R_op (nx := 1119) (lj_13 (by decide) rfl) rfl rfl ?_
  refine R_iadd (nx := 1120) (z := (i + 3)) (lj_13 (by decide) rfl) rfl rfl ⟨by omega, by omega⟩ ?_
  refine R_ld1000 (nx := 1121) (lj_13 (by decide) rfl) rfl e1 (by omega) (by omega) ?_
  refine R_lo (nx := 1122) (lj_14 (by decide) rfl) rfl rfl rfl ?_
  refine R_lo (nx := 1123) (lj_14 (by decide) rfl) rfl rfl rfl ?_
  refine R_op (nx := 1124) (lj_14 (by decide) rfl) rfl rfl ?_
  refine R_iadd (nx := 1125) (z := (i + 4)) (lj_14 (by decide) rfl) rfl rfl ⟨by omega, by omega⟩ ?_
  refine R_ld1000 (nx := 1126) (lj_14 (by decide) rfl) rfl e1 (by omega) (by omega) ?_
  refine R_lo (nx := 1127) (lj_14 (by decide) rfl) rfl rfl rfl ?_
  refine R_lo (nx := 1128) (lj_14 (by decide) rfl) rfl rfl rfl ?_
  refine R_op (nx := 1129) (lj_14 (by decide) rfl) rfl rfl ?_
  refine R_iadd (nx := 1130) (z := (i + 5)) (lj_14 (by decide) rfl) rfl rfl ⟨by omega, by omega⟩ ?_
  refine R_ld1000 (nx := 1131) (lj_14 (by decide) rfl) rfl e1 (by omega) (by omega) ?_
  refine R_lo (nx := 1132) (lj_14 (by decide) rfl) rfl rfl rfl ?_
  refine R_lo (nx := 1133) (lj_14 (by decide) rfl) rfl rfl rfl ?_
  refine R_op (nx := 1135) (lj_14 (by decide) rfl) rfl rfl ?_
  refine R_iadd (nx := 1136) (z := (i + 6)) (lj_14 (by decide) rfl) rfl rfl ⟨by omega, by omega⟩ ?_
  refine R_ld1000 (nx := 1137) (lj_14 (by decide) rfl) rfl e1 (by omega) (by omega) ?_
  refine R_call1 (nx := 1140) (as := [(2, 71), (0, (S 1000 (i + 1))), (0, (S 1000 (i + 2))), (0, (S 1000 (i + 3))), (0, (S 1000 (i + 4))), (0, (S 1000 (i + 5))), (0, (S 1000 (i + 6)))]) (rest := []) (lj_14 (by decide) rfl) rfl (fun _ _ => rfl) rfl rfl rfl rfl rfl rfl rfl rfl (Cl.mono (c_M_would S1 A hR1 hV (S 1000 (i + 1)) (S 1000 (i + 2)) (S 1000 (i + 3)) (S 1000 (i + 4)) (S 1000 (i + 5)) (S 1000 (i + 6))) ?_)
  rintro _ S2 ⟨rfl, hR2, f2⟩
  refine ⟨_, rfl, ?_⟩
  refine R_op (nx := 1141) (lj_14 (by decide) rfl) rfl rfl ?_
  refine R_op (nx := 1144) (pc' := 1544) (lj_14 (by decide) rfl) rfl rfl ?_
  exact k S2 (Q_would A (S 1000 (i + 1)) (S 1000 (i + 2)) (S 1000 (i + 3)) (S 1000 (i + 4)) (S 1000 (i + 5)) (S 1000 (i + 6))).2 ⟨hC1.fr fun b hb => f2 b (by omega), hR2, V_would hV (S 1000 (i + 1)) (S 1000 (i + 2)) (S 1000 (i + 3)) (S 1000 (i + 4)) (S 1000 (i + 5)) (S 1000 (i + 6)), by rw [f2 1000 (by decide)]; exact hL1, fun j => by rw [f2 1000 (by decide), e1]; exact hr j⟩

set_option maxRecDepth 20000 in
theorem lw_20 {S : mm_S} {A : mm_A} {L : Nat}  (hS : WS S A L) (i : Int) (hi : 0 ≤ i ∧ i + 7 ≤ (L : Int)) (hL0 : L ≤ 3584) (k : ∀ S' A', WS S' A' L → Rn k_Law_law 1544 [(2, 1000), (2, 0), (2, 71), (0, i)] [] S' QL) : Rn k_Law_law 1144 [(2, 1000), (2, 0), (2, 71), (0, i)] [] S QL := by
  obtain ⟨hRC, hRR, hV, hL, hr⟩ := hS
  refine R_lo (nx := 1145) (lj_14 (by decide) rfl) rfl rfl rfl ?_
  refine R_lo (nx := 1146) (lj_14 (by decide) rfl) rfl rfl rfl ?_
  refine R_lo (nx := 1147) (lj_14 (by decide) rfl) rfl rfl rfl ?_
  refine R_op (nx := 1148) (lj_14 (by decide) rfl) rfl rfl ?_
  refine R_iadd (nx := 1149) (z := (i + 1)) (lj_14 (by decide) rfl) rfl rfl ⟨by omega, by omega⟩ ?_
  refine R_ld1000 (nx := 1150) (lj_14 (by decide) rfl) rfl rfl (by omega) (by omega) ?_
  refine R_call1 (nx := 1153) (as := [(2, 0), (0, (S 1000 (i + 1)))]) (rest := []) (lj_14 (by decide) rfl) rfl (fun _ _ => rfl) rfl rfl rfl rfl rfl rfl rfl rfl (Cl.mono (c_P_trials S A hRC hV (S 1000 (i + 1))) ?_)
  rintro _ S1 ⟨rfl, hC1, f1⟩
  have e1 : S1 1000 = S 1000 := f1 1000 (by decide)
  have hR1 : RR S1 A := hRR.fr (R71.of (f1 71 (by decide))) fun b hb => f1 b (by omega)
  have hL1 : S1 1000 (-1) = (L : Int) := by rw [e1]; exact hL
  refine ⟨_, rfl, ?_⟩
  refine R_op (nx := 1154) (lj_14 (by decide) rfl) rfl rfl ?_
  refine R_lo (nx := 1155) (lj_14 (by decide) rfl) rfl rfl rfl ?_
  refine R_lo (nx := 1156) (lj_14 (by decide) rfl) rfl rfl rfl ?_
  refine R_lo (nx := 1157) (lj_14 (by decide) rfl) rfl rfl rfl ?_
  refine R_op (nx := 1158) (lj_14 (by decide) rfl) rfl rfl ?_
  refine R_iadd (nx := 1159) (z := (i + 1)) (lj_14 (by decide) rfl) rfl rfl ⟨by omega, by omega⟩ ?_
  refine R_ld1000 (nx := 1160) (lj_14 (by decide) rfl) rfl e1 (by omega) (by omega) ?_
  refine R_call1 (nx := 1163) (as := [(2, 71), (0, (S 1000 (i + 1)))]) (rest := []) (lj_14 (by decide) rfl) rfl (fun _ _ => rfl) rfl rfl rfl rfl rfl rfl rfl rfl (Cl.mono (c_M_trials S1 A hR1 hV (S 1000 (i + 1))) ?_)
  rintro _ S2 ⟨rfl, hR2, f2⟩
  refine ⟨_, rfl, ?_⟩
  refine R_op (nx := 1164) (lj_14 (by decide) rfl) rfl rfl ?_
  refine R_op (nx := 1167) (pc' := 1544) (lj_14 (by decide) rfl) rfl rfl ?_
  exact k S2 (Q_trials A (S 1000 (i + 1))).2 ⟨hC1.fr fun b hb => f2 b (by omega), hR2, V_trials hV (S 1000 (i + 1)), by rw [f2 1000 (by decide)]; exact hL1, fun j => by rw [f2 1000 (by decide), e1]; exact hr j⟩

set_option maxRecDepth 20000 in
theorem lw_21 {S : mm_S} {A : mm_A} {L : Nat}  (hS : WS S A L) (i : Int) (hi : 0 ≤ i ∧ i + 7 ≤ (L : Int)) (hL0 : L ≤ 3584) (k : ∀ S' A', WS S' A' L → Rn k_Law_law 1544 [(2, 1000), (2, 0), (2, 71), (0, i)] [] S' QL) : Rn k_Law_law 1167 [(2, 1000), (2, 0), (2, 71), (0, i)] [] S QL := by
  obtain ⟨hRC, hRR, hV, hL, hr⟩ := hS
  refine R_lo (nx := 1168) (lj_14 (by decide) rfl) rfl rfl rfl ?_
  refine R_lo (nx := 1169) (lj_14 (by decide) rfl) rfl rfl rfl ?_
  refine R_lo (nx := 1170) (lj_14 (by decide) rfl) rfl rfl rfl ?_
  refine R_op (nx := 1171) (lj_14 (by decide) rfl) rfl rfl ?_
  refine R_iadd (nx := 1172) (z := (i + 1)) (lj_14 (by decide) rfl) rfl rfl ⟨by omega, by omega⟩ ?_
  refine R_ld1000 (nx := 1173) (lj_14 (by decide) rfl) rfl rfl (by omega) (by omega) ?_
  refine R_lo (nx := 1174) (lj_14 (by decide) rfl) rfl rfl rfl ?_
  refine R_lo (nx := 1175) (lj_14 (by decide) rfl) rfl rfl rfl ?_
  refine R_op (nx := 1176) (lj_14 (by decide) rfl) rfl rfl ?_
  refine R_iadd (nx := 1177) (z := (i + 2)) (lj_14 (by decide) rfl) rfl rfl ⟨by omega, by omega⟩ ?_
  refine R_ld1000 (nx := 1178) (lj_14 (by decide) rfl) rfl rfl (by omega) (by omega) ?_
  refine R_lo (nx := 1179) (lj_14 (by decide) rfl) rfl rfl rfl ?_
  refine R_lo (nx := 1180) (lj_14 (by decide) rfl) rfl rfl rfl ?_
  refine R_op (nx := 1181) (lj_14 (by decide) rfl) rfl rfl ?_
  refine R_iadd (nx := 1182) (z := (i + 3)) (lj_14 (by decide) rfl) rfl rfl ⟨by omega, by omega⟩ ?_
  refine R_ld1000 (nx := 1183) (lj_14 (by decide) rfl) rfl rfl (by omega) (by omega) ?_
  refine R_call1 (nx := 1186) (as := [(2, 0), (0, (S 1000 (i + 1))), (0, (S 1000 (i + 2))), (0, (S 1000 (i + 3)))]) (rest := []) (lj_14 (by decide) rfl) rfl (fun _ _ => rfl) rfl rfl rfl rfl rfl rfl rfl rfl (Cl.mono (c_P_sheet S A hRC hV (S 1000 (i + 1)) (S 1000 (i + 2)) (S 1000 (i + 3))) ?_)
  rintro _ S1 ⟨rfl, hC1, f1⟩
  have e1 : S1 1000 = S 1000 := f1 1000 (by decide)
  have hR1 : RR S1 A := hRR.fr (R71.of (f1 71 (by decide))) fun b hb => f1 b (by omega)
  have hL1 : S1 1000 (-1) = (L : Int) := by rw [e1]; exact hL
  refine ⟨_, rfl, ?_⟩
  refine R_op (nx := 1187) (lj_14 (by decide) rfl) rfl rfl ?_
  refine R_lo (nx := 1188) (lj_14 (by decide) rfl) rfl rfl rfl ?_
  refine R_lo (nx := 1189) (lj_14 (by decide) rfl) rfl rfl rfl ?_
  refine R_lo (nx := 1190) (lj_14 (by decide) rfl) rfl rfl rfl ?_
  refine R_op (nx := 1191) (lj_14 (by decide) rfl) rfl rfl ?_
  refine R_iadd (nx := 1192) (z := (i + 1)) (lj_14 (by decide) rfl) rfl rfl ⟨by omega, by omega⟩ ?_
  refine R_ld1000 (nx := 1193) (lj_14 (by decide) rfl) rfl e1 (by omega) (by omega) ?_
  refine R_lo (nx := 1194) (lj_14 (by decide) rfl) rfl rfl rfl ?_
  refine R_lo (nx := 1195) (lj_15 (by decide) rfl) rfl rfl rfl ?_
  refine R_op (nx := 1196) (lj_15 (by decide) rfl) rfl rfl ?_
  refine R_iadd (nx := 1197) (z := (i + 2)) (lj_15 (by decide) rfl) rfl rfl ⟨by omega, by omega⟩ ?_
  refine R_ld1000 (nx := 1198) (lj_15 (by decide) rfl) rfl e1 (by omega) (by omega) ?_
  refine R_lo (nx := 1199) (lj_15 (by decide) rfl) rfl rfl rfl ?_
  refine R_lo (nx := 1200) (lj_15 (by decide) rfl) rfl rfl rfl ?_
  refine R_op (nx := 1201) (lj_15 (by decide) rfl) rfl rfl ?_
  refine R_iadd (nx := 1202) (z := (i + 3)) (lj_15 (by decide) rfl) rfl rfl ⟨by omega, by omega⟩ ?_
  refine R_ld1000 (nx := 1203) (lj_15 (by decide) rfl) rfl e1 (by omega) (by omega) ?_
  refine R_call1 (nx := 1206) (as := [(2, 71), (0, (S 1000 (i + 1))), (0, (S 1000 (i + 2))), (0, (S 1000 (i + 3)))]) (rest := []) (lj_15 (by decide) rfl) rfl (fun _ _ => rfl) rfl rfl rfl rfl rfl rfl rfl rfl (Cl.mono (c_M_sheet S1 A hR1 hV (S 1000 (i + 1)) (S 1000 (i + 2)) (S 1000 (i + 3))) ?_)
  rintro _ S2 ⟨rfl, hR2, f2⟩
  refine ⟨_, rfl, ?_⟩
  refine R_op (nx := 1207) (lj_15 (by decide) rfl) rfl rfl ?_
  refine R_op (nx := 1210) (pc' := 1544) (lj_15 (by decide) rfl) rfl rfl ?_
  exact k S2 (Q_sheet A (S 1000 (i + 1)) (S 1000 (i + 2)) (S 1000 (i + 3))).2 ⟨hC1.fr fun b hb => f2 b (by omega), hR2, V_sheet hV (S 1000 (i + 1)) (S 1000 (i + 2)) (S 1000 (i + 3)), by rw [f2 1000 (by decide)]; exact hL1, fun j => by rw [f2 1000 (by decide), e1]; exact hr j⟩

set_option maxRecDepth 20000 in
theorem lw_22 {S : mm_S} {A : mm_A} {L : Nat}  (hS : WS S A L) (i : Int) (hi : 0 ≤ i ∧ i + 7 ≤ (L : Int)) (hL0 : L ≤ 3584) (k : ∀ S' A', WS S' A' L → Rn k_Law_law 1544 [(2, 1000), (2, 0), (2, 71), (0, i)] [] S' QL) : Rn k_Law_law 1210 [(2, 1000), (2, 0), (2, 71), (0, i)] [] S QL := by
  obtain ⟨hRC, hRR, hV, hL, hr⟩ := hS
  refine R_lo (nx := 1211) (lj_15 (by decide) rfl) rfl rfl rfl ?_
  refine R_lo (nx := 1212) (lj_15 (by decide) rfl) rfl rfl rfl ?_
  refine R_lo (nx := 1213) (lj_15 (by decide) rfl) rfl rfl rfl ?_
  refine R_op (nx := 1214) (lj_15 (by decide) rfl) rfl rfl ?_
  refine R_iadd (nx := 1215) (z := (i + 1)) (lj_15 (by decide) rfl) rfl rfl ⟨by omega, by omega⟩ ?_
  refine R_ld1000 (nx := 1216) (lj_15 (by decide) rfl) rfl rfl (by omega) (by omega) ?_
  refine R_lo (nx := 1217) (lj_15 (by decide) rfl) rfl rfl rfl ?_
  refine R_lo (nx := 1218) (lj_15 (by decide) rfl) rfl rfl rfl ?_
  refine R_op (nx := 1219) (lj_15 (by decide) rfl) rfl rfl ?_
  refine R_iadd (nx := 1220) (z := (i + 2)) (lj_15 (by decide) rfl) rfl rfl ⟨by omega, by omega⟩ ?_
  refine R_ld1000 (nx := 1221) (lj_15 (by decide) rfl) rfl rfl (by omega) (by omega) ?_
  refine R_lo (nx := 1222) (lj_15 (by decide) rfl) rfl rfl rfl ?_
  refine R_lo (nx := 1223) (lj_15 (by decide) rfl) rfl rfl rfl ?_
  refine R_op (nx := 1224) (lj_15 (by decide) rfl) rfl rfl ?_
  refine R_iadd (nx := 1225) (z := (i + 3)) (lj_15 (by decide) rfl) rfl rfl ⟨by omega, by omega⟩ ?_
  refine R_ld1000 (nx := 1226) (lj_15 (by decide) rfl) rfl rfl (by omega) (by omega) ?_
  refine R_op (nx := 1227) (st' := [(1, (S 1000 (i + 3))), (0, (S 1000 (i + 2))), (0, (S 1000 (i + 1))), (2, 0)]) (lj_15 (by decide) rfl) rfl rfl ?_
  refine R_op (nx := 1229) (lj_15 (by decide) rfl) rfl rfl ?_
  refine R_op (nx := 1230) (st' := [(1, (Int64.ofInt (S 1000 (i + 3)) <<< ((Int32.ofInt 32).toInt64 &&& 63)).toInt), (0, (S 1000 (i + 2))), (0, (S 1000 (i + 1))), (2, 0)]) (lj_15 (by decide) rfl) rfl rfl ?_
  refine R_lo (nx := 1231) (lj_15 (by decide) rfl) rfl rfl rfl ?_
  refine R_lo (nx := 1232) (lj_15 (by decide) rfl) rfl rfl rfl ?_
  refine R_op (nx := 1233) (lj_15 (by decide) rfl) rfl rfl ?_
  refine R_iadd (nx := 1234) (z := (i + 4)) (lj_15 (by decide) rfl) rfl rfl ⟨by omega, by omega⟩ ?_
  refine R_ld1000 (nx := 1235) (lj_15 (by decide) rfl) rfl rfl (by omega) (by omega) ?_
  refine R_op (nx := 1236) (st' := [(1, (S 1000 (i + 4))), (1, (Int64.ofInt (S 1000 (i + 3)) <<< ((Int32.ofInt 32).toInt64 &&& 63)).toInt), (0, (S 1000 (i + 2))), (0, (S 1000 (i + 1))), (2, 0)]) (lj_15 (by decide) rfl) rfl rfl ?_
  refine R_op (nx := 1239) (lj_15 (by decide) rfl) rfl rfl ?_
  refine R_op (nx := 1240) (st' := [(1, (Int64.ofInt (S 1000 (i + 4)) &&& Int64.ofInt 4294967295).toInt), (1, (Int64.ofInt (S 1000 (i + 3)) <<< ((Int32.ofInt 32).toInt64 &&& 63)).toInt), (0, (S 1000 (i + 2))), (0, (S 1000 (i + 1))), (2, 0)]) (lj_15 (by decide) rfl) rfl rfl ?_
  refine R_op (nx := 1241) (st' := [(1, (Int64.ofInt (Int64.ofInt (S 1000 (i + 3)) <<< ((Int32.ofInt 32).toInt64 &&& 63)).toInt ||| Int64.ofInt (Int64.ofInt (S 1000 (i + 4)) &&& Int64.ofInt 4294967295).toInt).toInt), (0, (S 1000 (i + 2))), (0, (S 1000 (i + 1))), (2, 0)]) (lj_15 (by decide) rfl) rfl rfl ?_
  refine R_call1 (nx := 1244) (as := [(2, 0), (0, (S 1000 (i + 1))), (0, (S 1000 (i + 2))), (1, (Int64.ofInt (Int64.ofInt (S 1000 (i + 3)) <<< ((Int32.ofInt 32).toInt64 &&& 63)).toInt ||| Int64.ofInt (Int64.ofInt (S 1000 (i + 4)) &&& Int64.ofInt 4294967295).toInt).toInt)]) (rest := []) (lj_15 (by decide) rfl) rfl (fun _ _ => rfl) rfl rfl rfl rfl rfl rfl rfl rfl (Cl.mono (c_P_put S A hRC hV (S 1000 (i + 1)) (S 1000 (i + 2)) (Int64.ofInt (Int64.ofInt (S 1000 (i + 3)) <<< ((Int32.ofInt 32).toInt64 &&& 63)).toInt ||| Int64.ofInt (Int64.ofInt (S 1000 (i + 4)) &&& Int64.ofInt 4294967295).toInt).toInt (hr _)) ?_)
  rintro _ S1 ⟨rfl, hC1, f1⟩
  have e1 : S1 1000 = S 1000 := f1 1000 (by decide)
  have hR1 : RR S1 A := hRR.fr (R71.of (f1 71 (by decide))) fun b hb => f1 b (by omega)
  have hL1 : S1 1000 (-1) = (L : Int) := by rw [e1]; exact hL
  refine ⟨_, rfl, ?_⟩
  refine R_op (nx := 1245) (lj_15 (by decide) rfl) rfl rfl ?_
  refine R_lo (nx := 1246) (lj_15 (by decide) rfl) rfl rfl rfl ?_
  refine R_lo (nx := 1247) (lj_15 (by decide) rfl) rfl rfl rfl ?_
  refine R_lo (nx := 1248) (lj_15 (by decide) rfl) rfl rfl rfl ?_
  refine R_op (nx := 1249) (lj_15 (by decide) rfl) rfl rfl ?_
  refine R_iadd (nx := 1250) (z := (i + 1)) (lj_15 (by decide) rfl) rfl rfl ⟨by omega, by omega⟩ ?_
  refine R_ld1000 (nx := 1251) (lj_15 (by decide) rfl) rfl e1 (by omega) (by omega) ?_
  refine R_lo (nx := 1252) (lj_15 (by decide) rfl) rfl rfl rfl ?_
  refine R_lo (nx := 1253) (lj_15 (by decide) rfl) rfl rfl rfl ?_
  refine R_op (nx := 1254) (lj_15 (by decide) rfl) rfl rfl ?_
  refine R_iadd (nx := 1255) (z := (i + 2)) (lj_15 (by decide) rfl) rfl rfl ⟨by omega, by omega⟩ ?_
  refine R_ld1000 (nx := 1256) (lj_15 (by decide) rfl) rfl e1 (by omega) (by omega) ?_
  refine R_lo (nx := 1257) (lj_15 (by decide) rfl) rfl rfl rfl ?_
  refine R_lo (nx := 1258) (lj_15 (by decide) rfl) rfl rfl rfl ?_
  refine R_op (nx := 1259) (lj_15 (by decide) rfl) rfl rfl ?_
  refine R_iadd (nx := 1260) (z := (i + 3)) (lj_15 (by decide) rfl) rfl rfl ⟨by omega, by omega⟩ ?_
  refine R_ld1000 (nx := 1261) (lj_15 (by decide) rfl) rfl e1 (by omega) (by omega) ?_
  refine R_op (nx := 1262) (st' := [(1, (S 1000 (i + 3))), (0, (S 1000 (i + 2))), (0, (S 1000 (i + 1))), (2, 71)]) (lj_15 (by decide) rfl) rfl rfl ?_
  refine R_op (nx := 1264) (lj_15 (by decide) rfl) rfl rfl ?_
  refine R_op (nx := 1265) (st' := [(1, (Int64.ofInt (S 1000 (i + 3)) <<< ((Int32.ofInt 32).toInt64 &&& 63)).toInt), (0, (S 1000 (i + 2))), (0, (S 1000 (i + 1))), (2, 71)]) (lj_16 (by decide) rfl) rfl rfl ?_
  refine R_lo (nx := 1266) (lj_16 (by decide) rfl) rfl rfl rfl ?_
  refine R_lo (nx := 1267) (lj_16 (by decide) rfl) rfl rfl rfl ?_
  refine R_op (nx := 1268) (lj_16 (by decide) rfl) rfl rfl ?_
  refine R_iadd (nx := 1269) (z := (i + 4)) (lj_16 (by decide) rfl) rfl rfl ⟨by omega, by omega⟩ ?_
  refine R_ld1000 (nx := 1270) (lj_16 (by decide) rfl) rfl e1 (by omega) (by omega) ?_
  refine R_op (nx := 1271) (st' := [(1, (S 1000 (i + 4))), (1, (Int64.ofInt (S 1000 (i + 3)) <<< ((Int32.ofInt 32).toInt64 &&& 63)).toInt), (0, (S 1000 (i + 2))), (0, (S 1000 (i + 1))), (2, 71)]) (lj_16 (by decide) rfl) rfl rfl ?_
  refine R_op (nx := 1274) (lj_16 (by decide) rfl) rfl rfl ?_
  refine R_op (nx := 1275) (st' := [(1, (Int64.ofInt (S 1000 (i + 4)) &&& Int64.ofInt 4294967295).toInt), (1, (Int64.ofInt (S 1000 (i + 3)) <<< ((Int32.ofInt 32).toInt64 &&& 63)).toInt), (0, (S 1000 (i + 2))), (0, (S 1000 (i + 1))), (2, 71)]) (lj_16 (by decide) rfl) rfl rfl ?_
  refine R_op (nx := 1276) (st' := [(1, (Int64.ofInt (Int64.ofInt (S 1000 (i + 3)) <<< ((Int32.ofInt 32).toInt64 &&& 63)).toInt ||| Int64.ofInt (Int64.ofInt (S 1000 (i + 4)) &&& Int64.ofInt 4294967295).toInt).toInt), (0, (S 1000 (i + 2))), (0, (S 1000 (i + 1))), (2, 71)]) (lj_16 (by decide) rfl) rfl rfl ?_
  refine R_call1 (nx := 1279) (as := [(2, 71), (0, (S 1000 (i + 1))), (0, (S 1000 (i + 2))), (1, (Int64.ofInt (Int64.ofInt (S 1000 (i + 3)) <<< ((Int32.ofInt 32).toInt64 &&& 63)).toInt ||| Int64.ofInt (Int64.ofInt (S 1000 (i + 4)) &&& Int64.ofInt 4294967295).toInt).toInt)]) (rest := []) (lj_16 (by decide) rfl) rfl (fun _ _ => rfl) rfl rfl rfl rfl rfl rfl rfl rfl (Cl.mono (c_M_put S1 A hR1 hV (S 1000 (i + 1)) (S 1000 (i + 2)) (Int64.ofInt (Int64.ofInt (S 1000 (i + 3)) <<< ((Int32.ofInt 32).toInt64 &&& 63)).toInt ||| Int64.ofInt (Int64.ofInt (S 1000 (i + 4)) &&& Int64.ofInt 4294967295).toInt).toInt (hr _)) ?_)
  rintro _ S2 ⟨rfl, hR2, f2⟩
  refine ⟨_, rfl, ?_⟩
  refine R_op (nx := 1280) (lj_16 (by decide) rfl) rfl rfl ?_
  refine R_op (nx := 1283) (pc' := 1544) (lj_16 (by decide) rfl) rfl rfl ?_
  exact k S2 (Q_put A (S 1000 (i + 1)) (S 1000 (i + 2)) (Int64.ofInt (Int64.ofInt (S 1000 (i + 3)) <<< ((Int32.ofInt 32).toInt64 &&& 63)).toInt ||| Int64.ofInt (Int64.ofInt (S 1000 (i + 4)) &&& Int64.ofInt 4294967295).toInt).toInt).2 ⟨hC1.fr fun b hb => f2 b (by omega), hR2, V_put hV (S 1000 (i + 1)) (S 1000 (i + 2)) (Int64.ofInt (Int64.ofInt (S 1000 (i + 3)) <<< ((Int32.ofInt 32).toInt64 &&& 63)).toInt ||| Int64.ofInt (Int64.ofInt (S 1000 (i + 4)) &&& Int64.ofInt 4294967295).toInt).toInt, by rw [f2 1000 (by decide)]; exact hL1, fun j => by rw [f2 1000 (by decide), e1]; exact hr j⟩

set_option maxRecDepth 20000 in
theorem lw_23 {S : mm_S} {A : mm_A} {L : Nat}  (hS : WS S A L) (i : Int) (hi : 0 ≤ i ∧ i + 7 ≤ (L : Int)) (hL0 : L ≤ 3584) (k : ∀ S' A', WS S' A' L → Rn k_Law_law 1544 [(2, 1000), (2, 0), (2, 71), (0, i)] [] S' QL) : Rn k_Law_law 1283 [(2, 1000), (2, 0), (2, 71), (0, i)] [] S QL := by
  obtain ⟨hRC, hRR, hV, hL, hr⟩ := hS
  refine R_lo (nx := 1284) (lj_16 (by decide) rfl) rfl rfl rfl ?_
  refine R_lo (nx := 1285) (lj_16 (by decide) rfl) rfl rfl rfl ?_
  refine R_lo (nx := 1286) (lj_16 (by decide) rfl) rfl rfl rfl ?_
  refine R_op (nx := 1287) (lj_16 (by decide) rfl) rfl rfl ?_
  refine R_iadd (nx := 1288) (z := (i + 1)) (lj_16 (by decide) rfl) rfl rfl ⟨by omega, by omega⟩ ?_
  refine R_ld1000 (nx := 1289) (lj_16 (by decide) rfl) rfl rfl (by omega) (by omega) ?_
  refine R_lo (nx := 1290) (lj_16 (by decide) rfl) rfl rfl rfl ?_
  refine R_lo (nx := 1291) (lj_16 (by decide) rfl) rfl rfl rfl ?_
  refine R_op (nx := 1292) (lj_16 (by decide) rfl) rfl rfl ?_
  refine R_iadd (nx := 1293) (z := (i + 2)) (lj_16 (by decide) rfl) rfl rfl ⟨by omega, by omega⟩ ?_
  refine R_ld1000 (nx := 1294) (lj_16 (by decide) rfl) rfl rfl (by omega) (by omega) ?_
  refine R_lo (nx := 1295) (lj_16 (by decide) rfl) rfl rfl rfl ?_
  refine R_lo (nx := 1296) (lj_16 (by decide) rfl) rfl rfl rfl ?_
  refine R_op (nx := 1297) (lj_16 (by decide) rfl) rfl rfl ?_
  refine R_iadd (nx := 1298) (z := (i + 3)) (lj_16 (by decide) rfl) rfl rfl ⟨by omega, by omega⟩ ?_
  refine R_ld1000 (nx := 1299) (lj_16 (by decide) rfl) rfl rfl (by omega) (by omega) ?_
  refine R_call1 (nx := 1302) (as := [(2, 0), (0, (S 1000 (i + 1))), (0, (S 1000 (i + 2))), (0, (S 1000 (i + 3)))]) (rest := []) (lj_16 (by decide) rfl) rfl (fun _ _ => rfl) rfl rfl rfl rfl rfl rfl rfl rfl (Cl.mono (c_P_item S A hRC hV (S 1000 (i + 1)) (S 1000 (i + 2)) (S 1000 (i + 3)) (hr _)) ?_)
  rintro _ S1 ⟨rfl, hC1, f1⟩
  have e1 : S1 1000 = S 1000 := f1 1000 (by decide)
  have hR1 : RR S1 A := hRR.fr (R71.of (f1 71 (by decide))) fun b hb => f1 b (by omega)
  have hL1 : S1 1000 (-1) = (L : Int) := by rw [e1]; exact hL
  refine ⟨_, rfl, ?_⟩
  refine R_op (nx := 1303) (lj_16 (by decide) rfl) rfl rfl ?_
  refine R_lo (nx := 1304) (lj_16 (by decide) rfl) rfl rfl rfl ?_
  refine R_lo (nx := 1305) (lj_16 (by decide) rfl) rfl rfl rfl ?_
  refine R_lo (nx := 1306) (lj_16 (by decide) rfl) rfl rfl rfl ?_
  refine R_op (nx := 1307) (lj_16 (by decide) rfl) rfl rfl ?_
  refine R_iadd (nx := 1308) (z := (i + 1)) (lj_16 (by decide) rfl) rfl rfl ⟨by omega, by omega⟩ ?_
  refine R_ld1000 (nx := 1309) (lj_16 (by decide) rfl) rfl e1 (by omega) (by omega) ?_
  refine R_lo (nx := 1310) (lj_16 (by decide) rfl) rfl rfl rfl ?_
  refine R_lo (nx := 1311) (lj_16 (by decide) rfl) rfl rfl rfl ?_
  refine R_op (nx := 1312) (lj_16 (by decide) rfl) rfl rfl ?_
  refine R_iadd (nx := 1313) (z := (i + 2)) (lj_16 (by decide) rfl) rfl rfl ⟨by omega, by omega⟩ ?_
  refine R_ld1000 (nx := 1314) (lj_16 (by decide) rfl) rfl e1 (by omega) (by omega) ?_
  refine R_lo (nx := 1315) (lj_16 (by decide) rfl) rfl rfl rfl ?_
  refine R_lo (nx := 1316) (lj_16 (by decide) rfl) rfl rfl rfl ?_
  refine R_op (nx := 1317) (lj_16 (by decide) rfl) rfl rfl ?_
  refine R_iadd (nx := 1318) (z := (i + 3)) (lj_16 (by decide) rfl) rfl rfl ⟨by omega, by omega⟩ ?_
  refine R_ld1000 (nx := 1319) (lj_16 (by decide) rfl) rfl e1 (by omega) (by omega) ?_
  refine R_call1 (nx := 1322) (as := [(2, 71), (0, (S 1000 (i + 1))), (0, (S 1000 (i + 2))), (0, (S 1000 (i + 3)))]) (rest := []) (lj_16 (by decide) rfl) rfl (fun _ _ => rfl) rfl rfl rfl rfl rfl rfl rfl rfl (Cl.mono (c_M_item S1 A hR1 hV (S 1000 (i + 1)) (S 1000 (i + 2)) (S 1000 (i + 3)) (hr _)) ?_)
  rintro _ S2 ⟨rfl, hR2, f2⟩
  refine ⟨_, rfl, ?_⟩
  refine R_op (nx := 1323) (lj_16 (by decide) rfl) rfl rfl ?_
  refine R_op (nx := 1326) (pc' := 1544) (lj_16 (by decide) rfl) rfl rfl ?_
  exact k S2 (Q_item A (S 1000 (i + 1)) (S 1000 (i + 2)) (S 1000 (i + 3))).2 ⟨hC1.fr fun b hb => f2 b (by omega), hR2, V_item hV (S 1000 (i + 1)) (S 1000 (i + 2)) (S 1000 (i + 3)), by rw [f2 1000 (by decide)]; exact hL1, fun j => by rw [f2 1000 (by decide), e1]; exact hr j⟩

set_option maxRecDepth 20000 in
theorem lw_24 {S : mm_S} {A : mm_A} {L : Nat}  (hS : WS S A L) (i : Int) (hi : 0 ≤ i ∧ i + 7 ≤ (L : Int)) (hL0 : L ≤ 3584) (k : ∀ S' A', WS S' A' L → Rn k_Law_law 1544 [(2, 1000), (2, 0), (2, 71), (0, i)] [] S' QL) : Rn k_Law_law 1326 [(2, 1000), (2, 0), (2, 71), (0, i)] [] S QL := by
  obtain ⟨hRC, hRR, hV, hL, hr⟩ := hS
  refine R_lo (nx := 1327) (lj_16 (by decide) rfl) rfl rfl rfl ?_
  refine R_lo (nx := 1328) (lj_16 (by decide) rfl) rfl rfl rfl ?_
  refine R_lo (nx := 1329) (lj_16 (by decide) rfl) rfl rfl rfl ?_
  refine R_op (nx := 1330) (lj_16 (by decide) rfl) rfl rfl ?_
  refine R_iadd (nx := 1331) (z := (i + 1)) (lj_16 (by decide) rfl) rfl rfl ⟨by omega, by omega⟩ ?_
  refine R_ld1000 (nx := 1332) (lj_16 (by decide) rfl) rfl rfl (by omega) (by omega) ?_
  refine R_lo (nx := 1333) (lj_16 (by decide) rfl) rfl rfl rfl ?_
  refine R_lo (nx := 1334) (lj_16 (by decide) rfl) rfl rfl rfl ?_
  refine R_op (nx := 1335) (lj_16 (by decide) rfl) rfl rfl ?_
  refine R_iadd (nx := 1336) (z := (i + 2)) (lj_16 (by decide) rfl) rfl rfl ⟨by omega, by omega⟩ ?_
  refine R_ld1000 (nx := 1337) (lj_17 (by decide) rfl) rfl rfl (by omega) (by omega) ?_
  refine R_lo (nx := 1338) (lj_17 (by decide) rfl) rfl rfl rfl ?_
  refine R_lo (nx := 1339) (lj_17 (by decide) rfl) rfl rfl rfl ?_
  refine R_op (nx := 1340) (lj_17 (by decide) rfl) rfl rfl ?_
  refine R_iadd (nx := 1341) (z := (i + 3)) (lj_17 (by decide) rfl) rfl rfl ⟨by omega, by omega⟩ ?_
  refine R_ld1000 (nx := 1342) (lj_17 (by decide) rfl) rfl rfl (by omega) (by omega) ?_
  refine R_lo (nx := 1343) (lj_17 (by decide) rfl) rfl rfl rfl ?_
  refine R_lo (nx := 1344) (lj_17 (by decide) rfl) rfl rfl rfl ?_
  refine R_op (nx := 1345) (lj_17 (by decide) rfl) rfl rfl ?_
  refine R_iadd (nx := 1346) (z := (i + 4)) (lj_17 (by decide) rfl) rfl rfl ⟨by omega, by omega⟩ ?_
  refine R_ld1000 (nx := 1347) (lj_17 (by decide) rfl) rfl rfl (by omega) (by omega) ?_
  refine R_lo (nx := 1348) (lj_17 (by decide) rfl) rfl rfl rfl ?_
  refine R_lo (nx := 1349) (lj_17 (by decide) rfl) rfl rfl rfl ?_
  refine R_op (nx := 1350) (lj_17 (by decide) rfl) rfl rfl ?_
  refine R_iadd (nx := 1351) (z := (i + 5)) (lj_17 (by decide) rfl) rfl rfl ⟨by omega, by omega⟩ ?_
  refine R_ld1000 (nx := 1352) (lj_17 (by decide) rfl) rfl rfl (by omega) (by omega) ?_
  refine R_call1 (nx := 1355) (as := [(2, 0), (0, (S 1000 (i + 1))), (0, (S 1000 (i + 2))), (0, (S 1000 (i + 3))), (0, (S 1000 (i + 4))), (0, (S 1000 (i + 5)))]) (rest := []) (lj_17 (by decide) rfl) rfl (fun _ _ => rfl) rfl rfl rfl rfl rfl rfl rfl rfl (Cl.mono (c_P_copy S A hRC hV (S 1000 (i + 1)) (S 1000 (i + 2)) (S 1000 (i + 3)) (S 1000 (i + 4)) (S 1000 (i + 5)) (hr _) (hr _)) ?_)
  rintro _ S1 ⟨rfl, hC1, f1⟩
  have e1 : S1 1000 = S 1000 := f1 1000 (by decide)
  have hR1 : RR S1 A := hRR.fr (R71.of (f1 71 (by decide))) fun b hb => f1 b (by omega)
  have hL1 : S1 1000 (-1) = (L : Int) := by rw [e1]; exact hL
  refine ⟨_, rfl, ?_⟩
  refine R_op (nx := 1356) (lj_17 (by decide) rfl) rfl rfl ?_
  refine R_lo (nx := 1357) (lj_17 (by decide) rfl) rfl rfl rfl ?_
  refine R_lo (nx := 1358) (lj_17 (by decide) rfl) rfl rfl rfl ?_
  refine R_lo (nx := 1359) (lj_17 (by decide) rfl) rfl rfl rfl ?_
  refine R_op (nx := 1360) (lj_17 (by decide) rfl) rfl rfl ?_
  refine R_iadd (nx := 1361) (z := (i + 1)) (lj_17 (by decide) rfl) rfl rfl ⟨by omega, by omega⟩ ?_
  refine R_ld1000 (nx := 1362) (lj_17 (by decide) rfl) rfl e1 (by omega) (by omega) ?_
  refine R_lo (nx := 1363) (lj_17 (by decide) rfl) rfl rfl rfl ?_
  refine R_lo (nx := 1364) (lj_17 (by decide) rfl) rfl rfl rfl ?_
  refine R_op (nx := 1365) (lj_17 (by decide) rfl) rfl rfl ?_
  refine R_iadd (nx := 1366) (z := (i + 2)) (lj_17 (by decide) rfl) rfl rfl ⟨by omega, by omega⟩ ?_
  refine R_ld1000 (nx := 1367) (lj_17 (by decide) rfl) rfl e1 (by omega) (by omega) ?_
  refine R_lo (nx := 1368) (lj_17 (by decide) rfl) rfl rfl rfl ?_
  refine R_lo (nx := 1369) (lj_17 (by decide) rfl) rfl rfl rfl ?_
  refine R_op (nx := 1370) (lj_17 (by decide) rfl) rfl rfl ?_
  refine R_iadd (nx := 1371) (z := (i + 3)) (lj_17 (by decide) rfl) rfl rfl ⟨by omega, by omega⟩ ?_
  refine R_ld1000 (nx := 1372) (lj_17 (by decide) rfl) rfl e1 (by omega) (by omega) ?_
  refine R_lo (nx := 1373) (lj_17 (by decide) rfl) rfl rfl rfl ?_
  refine R_lo (nx := 1374) (lj_17 (by decide) rfl) rfl rfl rfl ?_
  refine R_op (nx := 1375) (lj_17 (by decide) rfl) rfl rfl ?_
  refine R_iadd (nx := 1376) (z := (i + 4)) (lj_17 (by decide) rfl) rfl rfl ⟨by omega, by omega⟩ ?_
  refine R_ld1000 (nx := 1377) (lj_17 (by decide) rfl) rfl e1 (by omega) (by omega) ?_
  refine R_lo (nx := 1378) (lj_17 (by decide) rfl) rfl rfl rfl ?_
  refine R_lo (nx := 1379) (lj_17 (by decide) rfl) rfl rfl rfl ?_
  refine R_op (nx := 1380) (lj_17 (by decide) rfl) rfl rfl ?_
  refine R_iadd (nx := 1381) (z := (i + 5)) (lj_17 (by decide) rfl) rfl rfl ⟨by omega, by omega⟩ ?_
  refine R_ld1000 (nx := 1382) (lj_17 (by decide) rfl) rfl e1 (by omega) (by omega) ?_
  refine R_call1 (nx := 1385) (as := [(2, 71), (0, (S 1000 (i + 1))), (0, (S 1000 (i + 2))), (0, (S 1000 (i + 3))), (0, (S 1000 (i + 4))), (0, (S 1000 (i + 5)))]) (rest := []) (lj_17 (by decide) rfl) rfl (fun _ _ => rfl) rfl rfl rfl rfl rfl rfl rfl rfl (Cl.mono (c_M_copy S1 A hR1 hV (S 1000 (i + 1)) (S 1000 (i + 2)) (S 1000 (i + 3)) (S 1000 (i + 4)) (S 1000 (i + 5)) (hr _) (hr _) (hr _)) ?_)
  rintro _ S2 ⟨rfl, hR2, f2⟩
  refine ⟨_, rfl, ?_⟩
  refine R_op (nx := 1386) (lj_17 (by decide) rfl) rfl rfl ?_
  refine R_op (nx := 1389) (pc' := 1544) (lj_17 (by decide) rfl) rfl rfl ?_
  exact k S2 (Q_copy A (S 1000 (i + 1)) (S 1000 (i + 2)) (S 1000 (i + 3)) (S 1000 (i + 4)) (S 1000 (i + 5))).2 ⟨hC1.fr fun b hb => f2 b (by omega), hR2, V_copy hV (S 1000 (i + 1)) (S 1000 (i + 2)) (S 1000 (i + 3)) (S 1000 (i + 4)) (S 1000 (i + 5)), by rw [f2 1000 (by decide)]; exact hL1, fun j => by rw [f2 1000 (by decide), e1]; exact hr j⟩

set_option maxRecDepth 20000 in
theorem lw_25 {S : mm_S} {A : mm_A} {L : Nat}  (hS : WS S A L) (i : Int) (hi : 0 ≤ i ∧ i + 7 ≤ (L : Int)) (hL0 : L ≤ 3584) (k : ∀ S' A', WS S' A' L → Rn k_Law_law 1544 [(2, 1000), (2, 0), (2, 71), (0, i)] [] S' QL) : Rn k_Law_law 1389 [(2, 1000), (2, 0), (2, 71), (0, i)] [] S QL := by
  obtain ⟨hRC, hRR, hV, hL, hr⟩ := hS
  refine R_lo (nx := 1390) (lj_17 (by decide) rfl) rfl rfl rfl ?_
  refine R_lo (nx := 1391) (lj_17 (by decide) rfl) rfl rfl rfl ?_
  refine R_lo (nx := 1392) (lj_17 (by decide) rfl) rfl rfl rfl ?_
  refine R_op (nx := 1393) (lj_17 (by decide) rfl) rfl rfl ?_
  refine R_iadd (nx := 1394) (z := (i + 1)) (lj_17 (by decide) rfl) rfl rfl ⟨by omega, by omega⟩ ?_
  refine R_ld1000 (nx := 1395) (lj_17 (by decide) rfl) rfl rfl (by omega) (by omega) ?_
  refine R_lo (nx := 1396) (lj_17 (by decide) rfl) rfl rfl rfl ?_
  refine R_lo (nx := 1397) (lj_17 (by decide) rfl) rfl rfl rfl ?_
  refine R_op (nx := 1398) (lj_17 (by decide) rfl) rfl rfl ?_
  refine R_iadd (nx := 1399) (z := (i + 2)) (lj_17 (by decide) rfl) rfl rfl ⟨by omega, by omega⟩ ?_
  refine R_ld1000 (nx := 1400) (lj_17 (by decide) rfl) rfl rfl (by omega) (by omega) ?_
  refine R_lo (nx := 1401) (lj_17 (by decide) rfl) rfl rfl rfl ?_
  refine R_lo (nx := 1402) (lj_17 (by decide) rfl) rfl rfl rfl ?_
  refine R_op (nx := 1403) (lj_18 (by decide) rfl) rfl rfl ?_
  refine R_iadd (nx := 1404) (z := (i + 3)) (lj_18 (by decide) rfl) rfl rfl ⟨by omega, by omega⟩ ?_
  refine R_ld1000 (nx := 1405) (lj_18 (by decide) rfl) rfl rfl (by omega) (by omega) ?_
  refine R_lo (nx := 1406) (lj_18 (by decide) rfl) rfl rfl rfl ?_
  refine R_lo (nx := 1407) (lj_18 (by decide) rfl) rfl rfl rfl ?_
  refine R_op (nx := 1408) (lj_18 (by decide) rfl) rfl rfl ?_
  refine R_iadd (nx := 1409) (z := (i + 4)) (lj_18 (by decide) rfl) rfl rfl ⟨by omega, by omega⟩ ?_
  refine R_ld1000 (nx := 1410) (lj_18 (by decide) rfl) rfl rfl (by omega) (by omega) ?_
  refine R_call1 (nx := 1413) (as := [(2, 0), (0, (S 1000 (i + 1))), (0, (S 1000 (i + 2))), (0, (S 1000 (i + 3))), (0, (S 1000 (i + 4)))]) (rest := []) (lj_18 (by decide) rfl) rfl (fun _ _ => rfl) rfl rfl rfl rfl rfl rfl rfl rfl (Cl.mono (c_P_lay S A hRC hV (S 1000 (i + 1)) (S 1000 (i + 2)) (S 1000 (i + 3)) (S 1000 (i + 4)) (hr _)) ?_)
  rintro _ S1 ⟨rfl, hC1, f1⟩
  have e1 : S1 1000 = S 1000 := f1 1000 (by decide)
  have hR1 : RR S1 A := hRR.fr (R71.of (f1 71 (by decide))) fun b hb => f1 b (by omega)
  have hL1 : S1 1000 (-1) = (L : Int) := by rw [e1]; exact hL
  refine ⟨_, rfl, ?_⟩
  refine R_op (nx := 1414) (lj_18 (by decide) rfl) rfl rfl ?_
  refine R_lo (nx := 1415) (lj_18 (by decide) rfl) rfl rfl rfl ?_
  refine R_lo (nx := 1416) (lj_18 (by decide) rfl) rfl rfl rfl ?_
  refine R_lo (nx := 1417) (lj_18 (by decide) rfl) rfl rfl rfl ?_
  refine R_op (nx := 1418) (lj_18 (by decide) rfl) rfl rfl ?_
  refine R_iadd (nx := 1419) (z := (i + 1)) (lj_18 (by decide) rfl) rfl rfl ⟨by omega, by omega⟩ ?_
  refine R_ld1000 (nx := 1420) (lj_18 (by decide) rfl) rfl e1 (by omega) (by omega) ?_
  refine R_lo (nx := 1421) (lj_18 (by decide) rfl) rfl rfl rfl ?_
  refine R_lo (nx := 1422) (lj_18 (by decide) rfl) rfl rfl rfl ?_
  refine R_op (nx := 1423) (lj_18 (by decide) rfl) rfl rfl ?_
  refine R_iadd (nx := 1424) (z := (i + 2)) (lj_18 (by decide) rfl) rfl rfl ⟨by omega, by omega⟩ ?_
  refine R_ld1000 (nx := 1425) (lj_18 (by decide) rfl) rfl e1 (by omega) (by omega) ?_
  refine R_lo (nx := 1426) (lj_18 (by decide) rfl) rfl rfl rfl ?_
  refine R_lo (nx := 1427) (lj_18 (by decide) rfl) rfl rfl rfl ?_
  refine R_op (nx := 1428) (lj_18 (by decide) rfl) rfl rfl ?_
  refine R_iadd (nx := 1429) (z := (i + 3)) (lj_18 (by decide) rfl) rfl rfl ⟨by omega, by omega⟩ ?_
  refine R_ld1000 (nx := 1430) (lj_18 (by decide) rfl) rfl e1 (by omega) (by omega) ?_
  refine R_lo (nx := 1431) (lj_18 (by decide) rfl) rfl rfl rfl ?_
  refine R_lo (nx := 1432) (lj_18 (by decide) rfl) rfl rfl rfl ?_
  refine R_op (nx := 1433) (lj_18 (by decide) rfl) rfl rfl ?_
  refine R_iadd (nx := 1434) (z := (i + 4)) (lj_18 (by decide) rfl) rfl rfl ⟨by omega, by omega⟩ ?_
  refine R_ld1000 (nx := 1435) (lj_18 (by decide) rfl) rfl e1 (by omega) (by omega) ?_
  refine R_call1 (nx := 1438) (as := [(2, 71), (0, (S 1000 (i + 1))), (0, (S 1000 (i + 2))), (0, (S 1000 (i + 3))), (0, (S 1000 (i + 4)))]) (rest := []) (lj_18 (by decide) rfl) rfl (fun _ _ => rfl) rfl rfl rfl rfl rfl rfl rfl rfl (Cl.mono (c_M_lay S1 A hR1 hV (S 1000 (i + 1)) (S 1000 (i + 2)) (S 1000 (i + 3)) (S 1000 (i + 4)) (hr _)) ?_)
  rintro _ S2 ⟨rfl, hR2, f2⟩
  refine ⟨_, rfl, ?_⟩
  refine R_op (nx := 1439) (lj_18 (by decide) rfl) rfl rfl ?_
  refine R_op (nx := 1442) (pc' := 1544) (lj_18 (by decide) rfl) rfl rfl ?_
  exact k S2 (Q_lay A (S 1000 (i + 1)) (S 1000 (i + 2)) (S 1000 (i + 3)) (S 1000 (i + 4))).2 ⟨hC1.fr fun b hb => f2 b (by omega), hR2, V_lay hV (S 1000 (i + 1)) (S 1000 (i + 2)) (S 1000 (i + 3)) (S 1000 (i + 4)), by rw [f2 1000 (by decide)]; exact hL1, fun j => by rw [f2 1000 (by decide), e1]; exact hr j⟩

set_option maxRecDepth 20000 in
theorem lw_26 {S : mm_S} {A : mm_A} {L : Nat}  (hS : WS S A L) (i : Int) (hi : 0 ≤ i ∧ i + 7 ≤ (L : Int)) (hL0 : L ≤ 3584) (k : ∀ S' A', WS S' A' L → Rn k_Law_law 1544 [(2, 1000), (2, 0), (2, 71), (0, i)] [] S' QL) : Rn k_Law_law 1442 [(2, 1000), (2, 0), (2, 71), (0, i)] [] S QL := by
  obtain ⟨hRC, hRR, hV, hL, hr⟩ := hS
  refine R_lo (nx := 1443) (lj_18 (by decide) rfl) rfl rfl rfl ?_
  refine R_lo (nx := 1444) (lj_18 (by decide) rfl) rfl rfl rfl ?_
  refine R_lo (nx := 1445) (lj_18 (by decide) rfl) rfl rfl rfl ?_
  refine R_op (nx := 1446) (lj_18 (by decide) rfl) rfl rfl ?_
  refine R_iadd (nx := 1447) (z := (i + 1)) (lj_18 (by decide) rfl) rfl rfl ⟨by omega, by omega⟩ ?_
  refine R_ld1000 (nx := 1448) (lj_18 (by decide) rfl) rfl rfl (by omega) (by omega) ?_
  refine R_lo (nx := 1449) (lj_18 (by decide) rfl) rfl rfl rfl ?_
  refine R_lo (nx := 1450) (lj_18 (by decide) rfl) rfl rfl rfl ?_
  refine R_op (nx := 1451) (lj_18 (by decide) rfl) rfl rfl ?_
  refine R_iadd (nx := 1452) (z := (i + 2)) (lj_18 (by decide) rfl) rfl rfl ⟨by omega, by omega⟩ ?_
  refine R_ld1000 (nx := 1453) (lj_18 (by decide) rfl) rfl rfl (by omega) (by omega) ?_
  refine R_lo (nx := 1454) (lj_18 (by decide) rfl) rfl rfl rfl ?_
  refine R_lo (nx := 1455) (lj_18 (by decide) rfl) rfl rfl rfl ?_
  refine R_op (nx := 1456) (lj_18 (by decide) rfl) rfl rfl ?_
  refine R_iadd (nx := 1457) (z := (i + 3)) (lj_18 (by decide) rfl) rfl rfl ⟨by omega, by omega⟩ ?_
  refine R_ld1000 (nx := 1458) (lj_18 (by decide) rfl) rfl rfl (by omega) (by omega) ?_
  refine R_lo (nx := 1459) (lj_18 (by decide) rfl) rfl rfl rfl ?_
  refine R_lo (nx := 1460) (lj_18 (by decide) rfl) rfl rfl rfl ?_
  refine R_op (nx := 1461) (lj_18 (by decide) rfl) rfl rfl ?_
  refine R_iadd (nx := 1462) (z := (i + 4)) (lj_18 (by decide) rfl) rfl rfl ⟨by omega, by omega⟩ ?_
  refine R_ld1000 (nx := 1463) (lj_18 (by decide) rfl) rfl rfl (by omega) (by omega) ?_
  refine R_call1 (nx := 1466) (as := [(2, 0), (0, (S 1000 (i + 1))), (0, (S 1000 (i + 2))), (0, (S 1000 (i + 3))), (0, (S 1000 (i + 4)))]) (rest := []) (lj_18 (by decide) rfl) rfl (fun _ _ => rfl) rfl rfl rfl rfl rfl rfl rfl rfl (Cl.mono (c_P_take S A hRC hV (S 1000 (i + 1)) (S 1000 (i + 2)) (S 1000 (i + 3)) (S 1000 (i + 4)) (hr _)) ?_)
  rintro _ S1 ⟨rfl, hC1, f1⟩
  have e1 : S1 1000 = S 1000 := f1 1000 (by decide)
  have hR1 : RR S1 A := hRR.fr (R71.of (f1 71 (by decide))) fun b hb => f1 b (by omega)
  have hL1 : S1 1000 (-1) = (L : Int) := by rw [e1]; exact hL
  refine ⟨_, rfl, ?_⟩
  refine R_op (nx := 1467) (lj_18 (by decide) rfl) rfl rfl ?_
  refine R_lo (nx := 1468) (lj_18 (by decide) rfl) rfl rfl rfl ?_
  refine R_lo (nx := 1469) (lj_18 (by decide) rfl) rfl rfl rfl ?_
  refine R_lo (nx := 1470) (lj_18 (by decide) rfl) rfl rfl rfl ?_
  refine R_op (nx := 1471) (lj_19 (by decide) rfl) rfl rfl ?_
  refine R_iadd (nx := 1472) (z := (i + 1)) (lj_19 (by decide) rfl) rfl rfl ⟨by omega, by omega⟩ ?_
  refine R_ld1000 (nx := 1473) (lj_19 (by decide) rfl) rfl e1 (by omega) (by omega) ?_
  refine R_lo (nx := 1474) (lj_19 (by decide) rfl) rfl rfl rfl ?_
  refine R_lo (nx := 1475) (lj_19 (by decide) rfl) rfl rfl rfl ?_
  refine R_op (nx := 1476) (lj_19 (by decide) rfl) rfl rfl ?_
  refine R_iadd (nx := 1477) (z := (i + 2)) (lj_19 (by decide) rfl) rfl rfl ⟨by omega, by omega⟩ ?_
  refine R_ld1000 (nx := 1478) (lj_19 (by decide) rfl) rfl e1 (by omega) (by omega) ?_
  refine R_lo (nx := 1479) (lj_19 (by decide) rfl) rfl rfl rfl ?_
  refine R_lo (nx := 1480) (lj_19 (by decide) rfl) rfl rfl rfl ?_
  refine R_op (nx := 1481) (lj_19 (by decide) rfl) rfl rfl ?_
  refine R_iadd (nx := 1482) (z := (i + 3)) (lj_19 (by decide) rfl) rfl rfl ⟨by omega, by omega⟩ ?_
  refine R_ld1000 (nx := 1483) (lj_19 (by decide) rfl) rfl e1 (by omega) (by omega) ?_
  refine R_lo (nx := 1484) (lj_19 (by decide) rfl) rfl rfl rfl ?_
  refine R_lo (nx := 1485) (lj_19 (by decide) rfl) rfl rfl rfl ?_
  refine R_op (nx := 1486) (lj_19 (by decide) rfl) rfl rfl ?_
  refine R_iadd (nx := 1487) (z := (i + 4)) (lj_19 (by decide) rfl) rfl rfl ⟨by omega, by omega⟩ ?_
  refine R_ld1000 (nx := 1488) (lj_19 (by decide) rfl) rfl e1 (by omega) (by omega) ?_
  refine R_call1 (nx := 1491) (as := [(2, 71), (0, (S 1000 (i + 1))), (0, (S 1000 (i + 2))), (0, (S 1000 (i + 3))), (0, (S 1000 (i + 4)))]) (rest := []) (lj_19 (by decide) rfl) rfl (fun _ _ => rfl) rfl rfl rfl rfl rfl rfl rfl rfl (Cl.mono (c_M_take S1 A hR1 hV (S 1000 (i + 1)) (S 1000 (i + 2)) (S 1000 (i + 3)) (S 1000 (i + 4)) (hr _)) ?_)
  rintro _ S2 ⟨rfl, hR2, f2⟩
  refine ⟨_, rfl, ?_⟩
  refine R_op (nx := 1492) (lj_19 (by decide) rfl) rfl rfl ?_
  refine R_op (nx := 1495) (pc' := 1544) (lj_19 (by decide) rfl) rfl rfl ?_
  exact k S2 (Q_take A (S 1000 (i + 1)) (S 1000 (i + 2)) (S 1000 (i + 3)) (S 1000 (i + 4))).2 ⟨hC1.fr fun b hb => f2 b (by omega), hR2, V_take hV (S 1000 (i + 1)) (S 1000 (i + 2)) (S 1000 (i + 3)) (S 1000 (i + 4)), by rw [f2 1000 (by decide)]; exact hL1, fun j => by rw [f2 1000 (by decide), e1]; exact hr j⟩

set_option maxRecDepth 20000 in
theorem lw_27 {S : mm_S} {A : mm_A} {L : Nat}  (hS : WS S A L) (i : Int) (hi : 0 ≤ i ∧ i + 7 ≤ (L : Int)) (hL0 : L ≤ 3584) (k : ∀ S' A', WS S' A' L → Rn k_Law_law 1544 [(2, 1000), (2, 0), (2, 71), (0, i)] [] S' QL) : Rn k_Law_law 1495 [(2, 1000), (2, 0), (2, 71), (0, i)] [] S QL := by
  obtain ⟨hRC, hRR, hV, hL, hr⟩ := hS
  refine R_lo (nx := 1496) (lj_19 (by decide) rfl) rfl rfl rfl ?_
  refine R_lo (nx := 1497) (lj_19 (by decide) rfl) rfl rfl rfl ?_
  refine R_lo (nx := 1498) (lj_19 (by decide) rfl) rfl rfl rfl ?_
  refine R_op (nx := 1499) (lj_19 (by decide) rfl) rfl rfl ?_
  refine R_iadd (nx := 1500) (z := (i + 1)) (lj_19 (by decide) rfl) rfl rfl ⟨by omega, by omega⟩ ?_
  refine R_ld1000 (nx := 1501) (lj_19 (by decide) rfl) rfl rfl (by omega) (by omega) ?_
  refine R_call1 (nx := 1504) (as := [(2, 0), (0, (S 1000 (i + 1)))]) (rest := []) (lj_19 (by decide) rfl) rfl (fun _ _ => rfl) rfl rfl rfl rfl rfl rfl rfl rfl (Cl.mono (c_P_many S A hRC hV (S 1000 (i + 1))) ?_)
  rintro _ S1 ⟨rfl, hC1, f1⟩
  have e1 : S1 1000 = S 1000 := f1 1000 (by decide)
  have hR1 : RR S1 A := hRR.fr (R71.of (f1 71 (by decide))) fun b hb => f1 b (by omega)
  have hL1 : S1 1000 (-1) = (L : Int) := by rw [e1]; exact hL
  refine ⟨_, rfl, ?_⟩
  refine R_op (nx := 1505) (lj_19 (by decide) rfl) rfl rfl ?_
  refine R_lo (nx := 1506) (lj_19 (by decide) rfl) rfl rfl rfl ?_
  refine R_lo (nx := 1507) (lj_19 (by decide) rfl) rfl rfl rfl ?_
  refine R_lo (nx := 1508) (lj_19 (by decide) rfl) rfl rfl rfl ?_
  refine R_op (nx := 1509) (lj_19 (by decide) rfl) rfl rfl ?_
  refine R_iadd (nx := 1510) (z := (i + 1)) (lj_19 (by decide) rfl) rfl rfl ⟨by omega, by omega⟩ ?_
  refine R_ld1000 (nx := 1511) (lj_19 (by decide) rfl) rfl e1 (by omega) (by omega) ?_
  refine R_call1 (nx := 1514) (as := [(2, 71), (0, (S 1000 (i + 1)))]) (rest := []) (lj_19 (by decide) rfl) rfl (fun _ _ => rfl) rfl rfl rfl rfl rfl rfl rfl rfl (Cl.mono (c_M_many S1 A hR1 hV (S 1000 (i + 1))) ?_)
  rintro _ S2 ⟨rfl, hR2, f2⟩
  refine ⟨_, rfl, ?_⟩
  refine R_op (nx := 1515) (lj_19 (by decide) rfl) rfl rfl ?_
  refine R_op (nx := 1518) (pc' := 1544) (lj_19 (by decide) rfl) rfl rfl ?_
  exact k S2 (Q_many A (S 1000 (i + 1))).2 ⟨hC1.fr fun b hb => f2 b (by omega), hR2, V_many hV (S 1000 (i + 1)), by rw [f2 1000 (by decide)]; exact hL1, fun j => by rw [f2 1000 (by decide), e1]; exact hr j⟩

set_option maxRecDepth 20000 in
theorem lw_28 {S : mm_S} {A : mm_A} {L : Nat}  (hS : WS S A L) (i : Int) (hi : 0 ≤ i ∧ i + 7 ≤ (L : Int)) (hL0 : L ≤ 3584) (k : ∀ S' A', WS S' A' L → Rn k_Law_law 1544 [(2, 1000), (2, 0), (2, 71), (0, i)] [] S' QL) : Rn k_Law_law 1518 [(2, 1000), (2, 0), (2, 71), (0, i)] [] S QL := by
  obtain ⟨hRC, hRR, hV, hL, hr⟩ := hS
  refine R_lo (nx := 1519) (lj_19 (by decide) rfl) rfl rfl rfl ?_
  refine R_call1 (nx := 1522) (as := [(2, 0)]) (rest := []) (lj_19 (by decide) rfl) rfl (fun _ _ => rfl) rfl rfl rfl rfl rfl rfl rfl rfl (Cl.mono (c_P_keep S A hRC hV) ?_)
  rintro _ S1 ⟨rfl, hC1, f1⟩
  have e1 : S1 1000 = S 1000 := f1 1000 (by decide)
  have hR1 : RR S1 A := hRR.fr (R71.of (f1 71 (by decide))) fun b hb => f1 b (by omega)
  have hL1 : S1 1000 (-1) = (L : Int) := by rw [e1]; exact hL
  refine ⟨_, rfl, ?_⟩
  refine R_op (nx := 1523) (lj_19 (by decide) rfl) rfl rfl ?_
  refine R_lo (nx := 1524) (lj_19 (by decide) rfl) rfl rfl rfl ?_
  refine R_call1 (nx := 1527) (as := [(2, 71)]) (rest := []) (lj_19 (by decide) rfl) rfl (fun _ _ => rfl) rfl rfl rfl rfl rfl rfl rfl rfl (Cl.mono (c_M_keep S1 A hR1 hV) ?_)
  rintro _ S2 ⟨rfl, hR2, f2⟩
  refine ⟨_, rfl, ?_⟩
  refine R_op (nx := 1528) (lj_19 (by decide) rfl) rfl rfl ?_
  refine R_op (nx := 1531) (pc' := 1544) (lj_19 (by decide) rfl) rfl rfl ?_
  exact k S2 (Q_keep A).2 ⟨hC1.fr fun b hb => f2 b (by omega), hR2, V_keep hV , by rw [f2 1000 (by decide)]; exact hL1, fun j => by rw [f2 1000 (by decide), e1]; exact hr j⟩

set_option maxRecDepth 20000 in
theorem lw_29 {S : mm_S} {A : mm_A} {L : Nat}  (hS : WS S A L) (i : Int) (hi : 0 ≤ i ∧ i + 7 ≤ (L : Int)) (hL0 : L ≤ 3584) (k : ∀ S' A', WS S' A' L → Rn k_Law_law 1544 [(2, 1000), (2, 0), (2, 71), (0, i)] [] S' QL) : Rn k_Law_law 1531 [(2, 1000), (2, 0), (2, 71), (0, i)] [] S QL := by
  obtain ⟨hRC, hRR, hV, hL, hr⟩ := hS
  refine R_lo (nx := 1532) (lj_19 (by decide) rfl) rfl rfl rfl ?_
  refine R_call1 (nx := 1535) (as := [(2, 0)]) (rest := []) (lj_19 (by decide) rfl) rfl (fun _ _ => rfl) rfl rfl rfl rfl rfl rfl rfl rfl (Cl.mono (c_P_again S A hRC hV) ?_)
  rintro _ S1 ⟨rfl, hC1, f1⟩
  have e1 : S1 1000 = S 1000 := f1 1000 (by decide)
  have hR1 : RR S1 A := hRR.fr (R71.of (f1 71 (by decide))) fun b hb => f1 b (by omega)
  have hL1 : S1 1000 (-1) = (L : Int) := by rw [e1]; exact hL
  refine ⟨_, rfl, ?_⟩
  refine R_lo (nx := 1536) (lj_19 (by decide) rfl) rfl rfl rfl ?_
  refine R_call1 (nx := 1539) (as := [(2, 71)]) (rest := [(0, ((Q_again A).1))]) (lj_19 (by decide) rfl) rfl (fun _ _ => rfl) rfl rfl rfl rfl rfl rfl rfl rfl (Cl.mono (c_M_again S1 A hR1 hV) ?_)
  rintro _ S2 ⟨rfl, hR2, f2⟩
  refine ⟨_, rfl, ?_⟩
  refine R_icmp (nx := 1542) (tg := 1544) (lj_19 (by decide) rfl) rfl rfl (mm_cnd_eq _ _) (fun _ => ?_) (fun z => absurd rfl z)
  exact k S2 (Q_again A).2 ⟨hC1.fr fun b hb => f2 b (by omega), hR2, V_again hV , by rw [f2 1000 (by decide)]; exact hL1, fun j => by rw [f2 1000 (by decide), e1]; exact hr j⟩
