/-! What is told of the reduced ones: calls of the class. -/
theorem Fw_nl {K : CX} {w p x : Int} (h : Fl K w p x ≠ -1) : Fw K w p x ≠ -1 := by
  unfold Fw
  split
  · exact h
  · assumption
def tcF (K : CX) (w p r l d t x : Int) : Int := if t = 1 then (if Xl K w x = l ∧ Xd K x = d ∧ Fl K w p x ≠ -1 ∧ gapF K w p x = r then 1 else 0) else (if Xl K w x = l ∧ Xd K x = d ∧ (Fw K w p x = -1 ∨ r ≤ gapF K w p x) then 1 else 0)
theorem tcF_1 {K : CX} {w p r l d x : Int} (h : Xl K w x = l ∧ Xd K x = d ∧ Fl K w p x ≠ -1 ∧ gapF K w p x = r) : tcF K w p r l d 1 x = 1 := (if_pos rfl).trans (if_pos h)
theorem tcF_1n {K : CX} {w p r l d x : Int} (h : ¬ (Xl K w x = l ∧ Xd K x = d ∧ Fl K w p x ≠ -1 ∧ gapF K w p x = r)) : tcF K w p r l d 1 x = 0 := (if_pos rfl).trans (if_neg h)
theorem tcF_0 {K : CX} {w p r l d x : Int} (h : Xl K w x = l ∧ Xd K x = d ∧ (Fw K w p x = -1 ∨ r ≤ gapF K w p x)) : tcF K w p r l d 0 x = 1 := (if_neg (by decide)).trans (if_pos h)
theorem tcF_0n {K : CX} {w p r l d x : Int} (h : ¬ (Xl K w x = l ∧ Xd K x = d ∧ (Fw K w p x = -1 ∨ r ≤ gapF K w p x))) : tcF K w p r l d 0 x = 0 := (if_neg (by decide)).trans (if_neg h)
def stay (K : CX) (p d : Int) : Int := sm (fun x => if Xd K x = d ∧ Fw K 0 p x = -1 then 1 else 0) (Xn K)
def sndF (K : CX) (w p x : Int) : Int := if Fw K w p x = -1 then 0 else gapF K w p x + 1
def Q_goes (A : mm_A) (c w p x : Int) : Int × mm_A := if 0 ≤ c ∧ c < 4 then (if w = 0 ∨ w = 1 then (ifp p (if 0 ≤ x ∧ x < Xn (AK A c) then (if Xfb (AK A c) = 0 then (cl3 (Fw (AK A c) w p x), A) else (-4, A)) else (-1, A)) (-1, A)) else (-1, A)) else (-1, A)
def Q_reduced (A : mm_A) (c w p x y : Int) : Int × mm_A := if 0 ≤ c ∧ c < 4 then (if w = 0 ∨ w = 1 then (ifp p (if 0 ≤ x ∧ x < Xn (AK A c) then (if 0 ≤ y ∧ y < Xn (AK A c) then (if Xfb (AK A c) = 0 then (Fr (AK A c) w p x y, A) else (-4, A)) else (-1, A)) else (-1, A)) (-1, A)) else (-1, A)) else (-1, A)
def Q_told (A : mm_A) (c w p r l d t : Int) : Int × mm_A := if 0 ≤ c ∧ c < 4 then (if w = 0 ∨ w = 1 then (ifp p (if 0 ≤ r ∧ r ≤ 10 then (if 0 ≤ l ∧ l ≤ 9 then (if 0 ≤ d ∧ d ≤ 4 then (if Xfb (AK A c) = 0 then (sm (tcF (AK A c) w p r l d t) (Xn (AK A c)), A) else (-4, A)) else (-1, A)) else (-1, A)) else (-1, A)) (-1, A)) else (-1, A)) else (-1, A)
def Q_stands (A : mm_A) (c w p : Int) : Int × mm_A := if 0 ≤ c ∧ c < 4 then (if w = 0 ∨ w = 1 then (ifp p (if Xfb (AK A c) = 0 then (mx (sndF (AK A c) w p) (Xn (AK A c)), A) else (-4, A)) (-1, A)) else (-1, A)) else (-1, A)
def Q_left (A : mm_A) (c p d : Int) : Int × mm_A := if 0 ≤ c ∧ c < 4 then (ifp p (if 0 ≤ d ∧ d ≤ 4 then (if Xfb (AK A c) = 0 then (stay (AK A c) p d, A) else (-4, A)) else (-1, A)) (-1, A)) else (-1, A)
def wld (K : CX) (p d : Int) : Int := if Xfb K = 0 then stay K p d else -4
def Q_would (A : mm_A) (c x y v p d : Int) : Int × mm_A := if 0 ≤ c ∧ c < 4 then (ifm (AK A c) x y (if -9 ≤ v ∧ v ≤ 9 then (ifp p (if 0 ≤ d ∧ d ≤ 4 then (wld (Xset (AK A c) x y v) p d, Atr A 1 1 1) else (-1, A)) (-1, A)) else (-1, A)) (-1, A)) else (-1, A)
theorem Xl_r {K : CX} (hR : Rg K) (w x : Int) : 0 ≤ Xl K w x ∧ Xl K w x ≤ 9 := hR.l w x
theorem gapF_r {K : CX} (hR : Rg K) (w p x : Int) (hw : w = 0 ∨ w = 1) : 0 ≤ gapF K w p x ∧ gapF K w p x ≤ 9 := by
  have h1 : 0 ≤ Xl K w x ∧ Xl K w x ≤ 9 := Xl_r hR w x
  have h2 : 0 ≤ Xl K w (Fw K w p x) ∧ Xl K w (Fw K w p x) ≤ 9 := Xl_r hR w _
  unfold gapF
  split <;> omega

set_option maxRecDepth 20000 in
set_option maxHeartbeats 4000000 in
theorem c_Rd_partner (S : mm_S) (a : Int) (hC : mm_isC a) (K : CX) (hM : MC S a K) (w p : Int) (hV : Vx K) (hw : w = 0 ∨ w = 1) (hp : Xpr p) (h80 : S 8 0 = a) (h81 : S 8 1 = w) (h82 : S 8 2 = p) (hd : Xfb K = 0) (hl : ∀ z, 0 ≤ z → z < Xn K → S 11 z = cl3 (Fl K w p z)) (ho : ∀ z, 0 ≤ z → z < Xn K → S 12 z = cl3 (Fo K w p z)) (x : Int) (hx : 0 ≤ x ∧ x < Xn K) : Cl 160 [(2, 8), (0, x)] S (fun v S' => v = some (0, cl3 (Fw K w p x)) ∧ S = S') := by
  refine ⟨Nat.le_of_ble_eq_true rfl, ?_⟩
  show Rn k_Rd_partner 0 [(2, 8), (0, x), (9, 0)] [] S _
  have hnr := hV.1.1
  have hR := hV.2.1
  have hpb := pr_b hp
  have hwr := Fw_r hp hV hw x
  have hlr := Fl_r (w := w) (p := p) hV x
  have hgr := gapF_r hR w p x hw
  refine R_lo (nx := 1) rfl rfl rfl rfl ?_
  refine R_get (nx := 4) (w := (2, 11)) rfl rfl rfl rfl ?_
  refine R_lo (nx := 5) rfl rfl rfl rfl ?_
  refine R_call1 (nx := 8) (as := [(2, 11), (0, x)]) (rest := []) rfl rfl (fun _ _ => rfl) rfl rfl rfl rfl rfl rfl rfl rfl (Cl.mono (c_P_get_in S 11 12 ⟨by decide, rfl⟩ (by decide) x ⟨by omega, by omega⟩) ?_)
  rintro _ _ ⟨rfl, rfl⟩
  refine ⟨_, rfl, ?_⟩
  rw [hl x hx.1 hx.2]
  refine R_lo (nx := 9) (ls' := [(2, 8), (0, x), (0, (cl3 (Fl K w p x)))]) rfl rfl rfl rfl ?_
  refine R_lo (nx := 10) rfl rfl rfl rfl ?_
  refine R_op (nx := 12) rfl rfl rfl ?_
  refine R_icmp (nx := 15) (tg := 19) rfl rfl rfl (mm_cnd_eq _ _) (fun c12 => ?_) (fun c12 => ?_)
  ·
    refine R_lo (nx := 20) rfl rfl rfl rfl ?_
    refine R_get (nx := 23) (w := (2, 12)) rfl rfl rfl rfl ?_
    refine R_lo (nx := 24) rfl rfl rfl rfl ?_
    refine R_call1 (nx := 27) (as := [(2, 12), (0, x)]) (rest := []) rfl rfl (fun _ _ => rfl) rfl rfl rfl rfl rfl rfl rfl rfl (Cl.mono (c_P_get_in S 12 12 ⟨by decide, rfl⟩ (by decide) x ⟨by omega, by omega⟩) ?_)
    rintro _ _ ⟨rfl, rfl⟩
    refine ⟨_, rfl, ?_⟩
    rw [ho x hx.1 hx.2]
    refine R_ret rfl (fun _ _ => rfl) rfl rfl ?_
    first | exact ⟨by rw [Fw_l hp hV hw hd, if_neg c12], rfl⟩ | exact ⟨by rw [Fw_l hp hV hw hd, if_pos c12], rfl⟩
  ·
    refine R_lo (nx := 16) rfl rfl rfl rfl ?_
    refine R_op (nx := 19) (pc' := 27) rfl rfl rfl ?_
    refine R_ret rfl (fun _ _ => rfl) rfl rfl ?_
    first | exact ⟨by rw [Fw_l hp hV hw hd, if_neg c12], rfl⟩ | exact ⟨by rw [Fw_l hp hV hw hd, if_pos c12], rfl⟩

set_option maxRecDepth 20000 in
set_option maxHeartbeats 4000000 in
theorem c_Rd_gap (S : mm_S) (a : Int) (hC : mm_isC a) (K : CX) (hM : MC S a K) (w p : Int) (hV : Vx K) (hw : w = 0 ∨ w = 1) (hp : Xpr p) (h80 : S 8 0 = a) (h81 : S 8 1 = w) (h82 : S 8 2 = p) (hd : Xfb K = 0) (hl : ∀ z, 0 ≤ z → z < Xn K → S 11 z = cl3 (Fl K w p z)) (ho : ∀ z, 0 ≤ z → z < Xn K → S 12 z = cl3 (Fo K w p z)) (x : Int) (hx : 0 ≤ x ∧ x < Xn K) (hne : Fw K w p x ≠ -1) : Cl 161 [(2, 8), (0, x)] S (fun v S' => v = some (0, gapF K w p x) ∧ S = S') := by
  refine ⟨Nat.le_of_ble_eq_true rfl, ?_⟩
  show Rn k_Rd_gap 0 [(2, 8), (0, x)] [] S _
  have hnr := hV.1.1
  have hR := hV.2.1
  have hpb := pr_b hp
  have hwr := Fw_r hp hV hw x
  have hlr := Fl_r (w := w) (p := p) hV x
  have hgr := gapF_r hR w p x hw
  have hx1 := Xl_r hR w x
  have hx2 := Xl_r hR w (Fw K w p x)
  refine R_lo (nx := 1) rfl rfl rfl rfl ?_
  refine R_get (nx := 4) (w := (2, a)) rfl rfl rfl (congrArg (Prod.mk 2) (by assumption)) ?_
  refine R_lo (nx := 5) rfl rfl rfl rfl ?_
  refine R_get (nx := 8) (w := (0, (S 8 1))) rfl rfl rfl rfl ?_
  rw [show (S 8 1) = w from by assumption]
  refine R_lo (nx := 9) rfl rfl rfl rfl ?_
  refine R_call1 (nx := 12) (as := [(2, a), (0, w), (0, x)]) (rest := []) rfl rfl (fun _ _ => rfl) rfl rfl rfl rfl rfl rfl (isC_rc hC _) rfl (Cl.mono (c_C_level S a hC K (by first | assumption | exact MC.up (by assumption) (by omega) | exact MC.up (MC.up (by assumption) (by omega)) (by omega) | exact MC.up (MC.up (MC.up (by assumption) (by omega)) (by omega)) (by omega)) w x) ?_)
  rintro _ _ ⟨rfl, rfl⟩
  refine ⟨_, rfl, ?_⟩
  refine R_lo (nx := 13) rfl rfl rfl rfl ?_
  refine R_get (nx := 16) (w := (2, a)) rfl rfl rfl (congrArg (Prod.mk 2) (by assumption)) ?_
  refine R_lo (nx := 17) rfl rfl rfl rfl ?_
  refine R_get (nx := 20) (w := (0, (S 8 1))) rfl rfl rfl rfl ?_
  rw [show (S 8 1) = w from by assumption]
  refine R_lo (nx := 21) rfl rfl rfl rfl ?_
  refine R_lo (nx := 22) rfl rfl rfl rfl ?_
  refine R_call1 (nx := 25) (as := [(2, 8), (0, x)]) (rest := [(0, w), (2, a), (0, (Xl K w x))]) rfl rfl (fun _ _ => rfl) rfl rfl rfl rfl rfl rfl rfl rfl (Cl.mono (c_Rd_partner S a hC K (by first | assumption | exact MC.up (by assumption) (by omega) | exact MC.up (MC.up (by assumption) (by omega)) (by omega) | exact MC.up (MC.up (MC.up (by assumption) (by omega)) (by omega)) (by omega)) w p (by assumption) (by first | assumption | exact Or.inl rfl) (by assumption) (by assumption) (by assumption) (by assumption) (by assumption) (by assumption) (by assumption) x (by omega) ) ?_)
  rintro _ _ ⟨rfl, rfl⟩
  refine ⟨_, rfl, ?_⟩
  rw [cl3_n hne]
  refine R_call1 (nx := 28) (as := [(2, a), (0, w), (0, (Fw K w p x))]) (rest := [(0, (Xl K w x))]) rfl rfl (fun _ _ => rfl) rfl rfl rfl rfl rfl rfl (isC_rc hC _) rfl (Cl.mono (c_C_level S a hC K (by first | assumption | exact MC.up (by assumption) (by omega) | exact MC.up (MC.up (by assumption) (by omega)) (by omega) | exact MC.up (MC.up (MC.up (by assumption) (by omega)) (by omega)) (by omega)) w (Fw K w p x)) ?_)
  rintro _ _ ⟨rfl, rfl⟩
  refine ⟨_, rfl, ?_⟩
  refine R_isub (nx := 29) (z := ((Xl K w x) - (Xl K w (Fw K w p x)))) rfl rfl rfl ⟨by omega, by omega⟩ ?_
  refine R_call1 (nx := 32) (as := [(0, ((Xl K w x) - (Xl K w (Fw K w p x))))]) (rest := []) rfl rfl (fun _ _ => rfl) rfl rfl rfl rfl rfl rfl rfl rfl (Cl.mono (c_Ma_abs S ((Xl K w x) - (Xl K w (Fw K w p x))) (by omega)) ?_)
  rintro _ _ ⟨rfl, rfl⟩
  refine ⟨_, rfl, ?_⟩
  refine R_ret rfl (fun _ _ => rfl) rfl rfl ?_
  exact ⟨rfl, rfl⟩

set_option maxRecDepth 20000 in
set_option maxHeartbeats 4000000 in
theorem c_Rd_standsOn (S : mm_S) (a : Int) (hC : mm_isC a) (K : CX) (hM : MC S a K) (w p : Int) (hV : Vx K) (hw : w = 0 ∨ w = 1) (hp : Xpr p) (h80 : S 8 0 = a) (h81 : S 8 1 = w) (h82 : S 8 2 = p) (hd : Xfb K = 0) (hl : ∀ z, 0 ≤ z → z < Xn K → S 11 z = cl3 (Fl K w p z)) (ho : ∀ z, 0 ≤ z → z < Xn K → S 12 z = cl3 (Fo K w p z)) (x : Int) (hx : 0 ≤ x ∧ x < Xn K) (r : Int) : Cl 162 [(2, 8), (0, x), (0, r)] S (fun v S' => (v = some (0, 1) ∧ (Fw K w p x = -1 ∨ r ≤ gapF K w p x) ∧ S = S') ∨ (v = some (0, 0) ∧ ¬ (Fw K w p x = -1 ∨ r ≤ gapF K w p x) ∧ S = S')) := by
  refine ⟨Nat.le_of_ble_eq_true rfl, ?_⟩
  show Rn k_Rd_standsOn 0 [(2, 8), (0, x), (0, r)] [] S _
  have hnr := hV.1.1
  have hR := hV.2.1
  have hpb := pr_b hp
  have hwr := Fw_r hp hV hw x
  have hlr := Fl_r (w := w) (p := p) hV x
  have hgr := gapF_r hR w p x hw
  have q7 := cl3_3 (z := Fw K w p x) (by omega)
  refine R_lo (nx := 1) rfl rfl rfl rfl ?_
  refine R_lo (nx := 2) rfl rfl rfl rfl ?_
  refine R_call1 (nx := 5) (as := [(2, 8), (0, x)]) (rest := []) rfl rfl (fun _ _ => rfl) rfl rfl rfl rfl rfl rfl rfl rfl (Cl.mono (c_Rd_partner S a hC K (by first | assumption | exact MC.up (by assumption) (by omega) | exact MC.up (MC.up (by assumption) (by omega)) (by omega) | exact MC.up (MC.up (MC.up (by assumption) (by omega)) (by omega)) (by omega)) w p (by assumption) (by first | assumption | exact Or.inl rfl) (by assumption) (by assumption) (by assumption) (by assumption) (by assumption) (by assumption) (by assumption) x (by omega) ) ?_)
  rintro _ _ ⟨rfl, rfl⟩
  refine ⟨_, rfl, ?_⟩
  refine R_op (nx := 7) rfl rfl rfl ?_
  refine R_icmp (nx := 10) (tg := 19) rfl rfl rfl (mm_cnd_eq _ _) (fun c7 => ?_) (fun c7 => ?_)
  ·
    have e7 : Fw K w p x = -1 := q7.mp c7
    refine R_op (nx := 20) rfl rfl rfl ?_
    refine R_op (nx := 23) (pc' := 24) rfl rfl rfl ?_
    refine R_ret rfl (fun _ _ => rfl) rfl rfl ?_
    first | exact Or.inl ⟨rfl, by omega, rfl⟩ | exact Or.inr ⟨rfl, by omega, rfl⟩
  ·
    have e7 : Fw K w p x ≠ -1 := fun z => c7 (q7.mpr z)
    refine R_lo (nx := 11) rfl rfl rfl rfl ?_
    refine R_lo (nx := 12) rfl rfl rfl rfl ?_
    refine R_call1 (nx := 15) (as := [(2, 8), (0, x)]) (rest := []) rfl rfl (fun _ _ => rfl) rfl rfl rfl rfl rfl rfl rfl rfl (Cl.mono (c_Rd_gap S a hC K (by first | assumption | exact MC.up (by assumption) (by omega) | exact MC.up (MC.up (by assumption) (by omega)) (by omega) | exact MC.up (MC.up (MC.up (by assumption) (by omega)) (by omega)) (by omega)) w p (by assumption) (by first | assumption | exact Or.inl rfl) (by assumption) (by assumption) (by assumption) (by assumption) (by assumption) (by assumption) (by assumption) x (by omega) (by first | assumption | omega | exact Fw_nl (by assumption))) ?_)
    rintro _ _ ⟨rfl, rfl⟩
    refine ⟨_, rfl, ?_⟩
    refine R_lo (nx := 16) rfl rfl rfl rfl ?_
    refine R_icmp (nx := 19) (tg := 23) rfl rfl rfl (mm_cnd_lt _ _) (fun c16 => ?_) (fun c16 => ?_)
    ·
      refine R_op (nx := 24) rfl rfl rfl ?_
      refine R_ret rfl (fun _ _ => rfl) rfl rfl ?_
      first | exact Or.inl ⟨rfl, by omega, rfl⟩ | exact Or.inr ⟨rfl, by omega, rfl⟩
    ·
      refine R_op (nx := 20) rfl rfl rfl ?_
      refine R_op (nx := 23) (pc' := 24) rfl rfl rfl ?_
      refine R_ret rfl (fun _ _ => rfl) rfl rfl ?_
      first | exact Or.inl ⟨rfl, by omega, rfl⟩ | exact Or.inr ⟨rfl, by omega, rfl⟩

set_option maxRecDepth 20000 in
set_option maxHeartbeats 4000000 in
theorem c_Rd_turnsAt (S : mm_S) (a : Int) (hC : mm_isC a) (K : CX) (hM : MC S a K) (w p : Int) (hV : Vx K) (hw : w = 0 ∨ w = 1) (hp : Xpr p) (h80 : S 8 0 = a) (h81 : S 8 1 = w) (h82 : S 8 2 = p) (hd : Xfb K = 0) (hl : ∀ z, 0 ≤ z → z < Xn K → S 11 z = cl3 (Fl K w p z)) (ho : ∀ z, 0 ≤ z → z < Xn K → S 12 z = cl3 (Fo K w p z)) (x : Int) (hx : 0 ≤ x ∧ x < Xn K) (r : Int) : Cl 163 [(2, 8), (0, x), (0, r)] S (fun v S' => (v = some (0, 1) ∧ (Fl K w p x ≠ -1 ∧ gapF K w p x = r) ∧ S = S') ∨ (v = some (0, 0) ∧ ¬ (Fl K w p x ≠ -1 ∧ gapF K w p x = r) ∧ S = S')) := by
  refine ⟨Nat.le_of_ble_eq_true rfl, ?_⟩
  show Rn k_Rd_turnsAt 0 [(2, 8), (0, x), (0, r)] [] S _
  have hnr := hV.1.1
  have hR := hV.2.1
  have hpb := pr_b hp
  have hwr := Fw_r hp hV hw x
  have hlr := Fl_r (w := w) (p := p) hV x
  have hgr := gapF_r hR w p x hw
  have q7 := cl3_3 (z := Fl K w p x) (by omega)
  refine R_lo (nx := 1) rfl rfl rfl rfl ?_
  refine R_get (nx := 4) (w := (2, 11)) rfl rfl rfl rfl ?_
  refine R_lo (nx := 5) rfl rfl rfl rfl ?_
  refine R_call1 (nx := 8) (as := [(2, 11), (0, x)]) (rest := []) rfl rfl (fun _ _ => rfl) rfl rfl rfl rfl rfl rfl rfl rfl (Cl.mono (c_P_get_in S 11 12 ⟨by decide, rfl⟩ (by decide) x ⟨by omega, by omega⟩) ?_)
  rintro _ _ ⟨rfl, rfl⟩
  refine ⟨_, rfl, ?_⟩
  rw [hl x hx.1 hx.2]
  refine R_op (nx := 10) rfl rfl rfl ?_
  refine R_icmp (nx := 13) (tg := 26) rfl rfl rfl (mm_cnd_eq _ _) (fun c10 => ?_) (fun c10 => ?_)
  ·
    have e7 : Fl K w p x = -1 := q7.mp c10
    refine R_op (nx := 27) rfl rfl rfl ?_
    refine R_ret rfl (fun _ _ => rfl) rfl rfl ?_
    first | exact Or.inl ⟨rfl, by omega, rfl⟩ | exact Or.inr ⟨rfl, by omega, rfl⟩
  ·
    have e7 : Fl K w p x ≠ -1 := fun z => c10 (q7.mpr z)
    refine R_lo (nx := 14) rfl rfl rfl rfl ?_
    refine R_lo (nx := 15) rfl rfl rfl rfl ?_
    refine R_call1 (nx := 18) (as := [(2, 8), (0, x)]) (rest := []) rfl rfl (fun _ _ => rfl) rfl rfl rfl rfl rfl rfl rfl rfl (Cl.mono (c_Rd_gap S a hC K (by first | assumption | exact MC.up (by assumption) (by omega) | exact MC.up (MC.up (by assumption) (by omega)) (by omega) | exact MC.up (MC.up (MC.up (by assumption) (by omega)) (by omega)) (by omega)) w p (by assumption) (by first | assumption | exact Or.inl rfl) (by assumption) (by assumption) (by assumption) (by assumption) (by assumption) (by assumption) (by assumption) x (by omega) (by first | assumption | omega | exact Fw_nl (by assumption))) ?_)
    rintro _ _ ⟨rfl, rfl⟩
    refine ⟨_, rfl, ?_⟩
    refine R_lo (nx := 19) rfl rfl rfl rfl ?_
    refine R_icmp (nx := 22) (tg := 26) rfl rfl rfl (mm_cnd_ne _ _) (fun c19 => ?_) (fun c19 => ?_)
    ·
      refine R_op (nx := 27) rfl rfl rfl ?_
      refine R_ret rfl (fun _ _ => rfl) rfl rfl ?_
      first | exact Or.inl ⟨rfl, by omega, rfl⟩ | exact Or.inr ⟨rfl, by omega, rfl⟩
    ·
      replace c19 := Classical.not_not.mp c19
      refine R_op (nx := 23) rfl rfl rfl ?_
      refine R_op (nx := 26) (pc' := 27) rfl rfl rfl ?_
      refine R_ret rfl (fun _ _ => rfl) rfl rfl ?_
      first | exact Or.inl ⟨rfl, by omega, rfl⟩ | exact Or.inr ⟨rfl, by omega, rfl⟩

set_option maxRecDepth 20000 in
set_option maxHeartbeats 4000000 in
theorem c_P_goes (S : mm_S) (A : mm_A) (hRC : RC S A) (hV : Vs A) (c w p x : Int) : Cl 9 [(2, 0), (0, c), (0, w), (0, p), (0, x)] S (fun vv S' => vv = some (0, (Q_goes A c w p x).1) ∧ RC S' (Q_goes A c w p x).2 ∧ ∀ b, 71 ≤ b → S' b = S b) := by
  refine ⟨Nat.le_of_ble_eq_true rfl, ?_⟩
  show Rn k_P_goes 0 [(2, 0), (0, c), (0, w), (0, p), (0, x), (9, 0)] [] S _
  refine R_lo (nx := 1) rfl rfl rfl rfl ?_
  refine R_lo (nx := 2) rfl rfl rfl rfl ?_
  refine R_call1 (nx := 5) (as := [(2, 0), (0, c)]) (rest := []) rfl rfl (fun _ _ => rfl) rfl rfl rfl rfl rfl rfl rfl rfl (Cl.mono (c_P_complexAt S c) ?_)
  rintro _ _ (⟨rfl, b2, rfl⟩ | ⟨rfl, b2, rfl⟩)
  ·
    have kb2 := hRC.k b2.1 b2.2
    have vb2 := hV.1 c b2.1 b2.2
    have rb2 := vb2.2.1
    have nb2 := kb2.n
    have zb2 := kb2.nr
    refine ⟨_, rfl, ?_⟩
    refine R_lo (nx := 7) (ls' := [(2, 0), (0, c), (0, w), (0, p), (0, x), (2, (23 + 10 * c))]) rfl rfl rfl rfl ?_
    refine R_lo (nx := 9) rfl rfl rfl rfl ?_
    refine R_ifnull (nx := 12) (tg := 36) rfl rfl rfl (fun h => absurd h (by have := (isC_kd (isC_c (i := c) (by omega) (by omega))).1; omega)) (fun h => ?_)
    refine R_lo (nx := 13) rfl rfl rfl rfl ?_
    refine R_call1 (nx := 16) (as := [(0, w)]) (rest := []) rfl rfl (fun _ _ => rfl) rfl rfl rfl rfl rfl rfl rfl rfl (Cl.mono (c_P_isWay S w) ?_)
    rintro _ _ (⟨rfl, b13, rfl⟩ | ⟨rfl, b13, rfl⟩)
    ·
      refine ⟨_, rfl, ?_⟩
      refine R_ifF (nx := 19) rfl rfl rfl ?_
      refine R_lo (nx := 20) rfl rfl rfl rfl ?_
      refine R_call1 (nx := 23) (as := [(0, p)]) (rest := []) rfl rfl (fun _ _ => rfl) rfl rfl rfl rfl rfl rfl rfl rfl (Cl.mono (c_P_isPrime S p) ?_)
      rintro _ _ (⟨rfl, b20, rfl⟩ | ⟨rfl, b20, rfl⟩)
      ·
        refine ⟨_, rfl, ?_⟩
        refine R_ifF (nx := 26) rfl rfl rfl ?_
        refine R_lo (nx := 28) rfl rfl rfl rfl ?_
        refine R_lo (nx := 30) rfl rfl rfl rfl ?_
        refine R_call1 (nx := 33) (as := [(2, (23 + 10 * c)), (0, x)]) (rest := []) rfl rfl (fun _ _ => rfl) rfl rfl rfl rfl rfl rfl (isC_rc (isC_c (i := c) (by omega) (by omega)) _) rfl (Cl.mono (c_C_has S (23 + 10 * c) (isC_c (i := c) (by omega) (by omega)) (AK A c) (by first | assumption | exact MC.up (by assumption) (by omega) | exact MC.up (MC.up (by assumption) (by omega)) (by omega) | exact MC.up (MC.up (MC.up (by assumption) (by omega)) (by omega)) (by omega)) x) ?_)
        rintro _ _ (⟨rfl, b30, rfl⟩ | ⟨rfl, b30, rfl⟩)
        ·
          refine ⟨_, rfl, ?_⟩
          refine R_ifT (tg := 38) rfl rfl rfl ?_
          refine R_lo (nx := 40) rfl rfl rfl rfl ?_
          refine R_call1 (nx := 43) (as := [(2, (23 + 10 * c))]) (rest := []) rfl rfl (fun _ _ => rfl) rfl rfl rfl rfl rfl rfl (isC_rc (isC_c (i := c) (by omega) (by omega)) _) rfl (Cl.mono (c_C_isBroken S (23 + 10 * c) (isC_c (i := c) (by omega) (by omega)) (AK A c) (by first | assumption | exact MC.up (by assumption) (by omega) | exact MC.up (MC.up (by assumption) (by omega)) (by omega) | exact MC.up (MC.up (MC.up (by assumption) (by omega)) (by omega)) (by omega)) (by assumption)) ?_)
          rintro _ _ (⟨rfl, b40, rfl⟩ | ⟨rfl, b40, rfl⟩)
          ·
            have e40 : ¬ Xfb (AK A c) = 0 := b40
            refine ⟨_, rfl, ?_⟩
            refine R_ifF (nx := 46) rfl rfl rfl ?_
            refine R_op (nx := 48) rfl rfl rfl ?_
            refine R_ret rfl (fun _ _ => rfl) rfl rfl ?_
            rw [show Q_goes A c w p x = ((-4), A) from by simp only [Q_goes, b2, b13, b20, b30, b40, e40, ifo, ifm, ifp, iffq, ↓reduceIte, ite_self, and_self, and_true, true_and, and_false, false_and, or_true, true_or, or_false, false_or, or_self, not_true_eq_false, not_false_eq_true, ne_eq]]; exact ⟨rfl, hRC, fun b _ => rfl⟩
          ·
            have e40 : Xfb (AK A c) = 0 := Classical.not_not.mp b40
            refine ⟨_, rfl, ?_⟩
            refine R_ifT (tg := 49) rfl rfl rfl ?_
            refine R_lo (nx := 50) rfl rfl rfl rfl ?_
            refine R_get (nx := 53) (w := (2, 8)) rfl rfl rfl rfl ?_
            refine R_lo (nx := 55) rfl rfl rfl rfl ?_
            refine R_lo (nx := 56) rfl rfl rfl rfl ?_
            refine R_lo (nx := 57) rfl rfl rfl rfl ?_
            refine R_call0 (nx := 60) (as := [(2, 8), (2, (23 + 10 * c)), (0, w), (0, p)]) (rest := []) rfl rfl (fun _ _ => rfl) rfl rfl rfl rfl rfl rfl rfl rfl (Cl.mono (c_Rd_run S (23 + 10 * c) (isC_c (i := c) (by omega) (by omega)) (AK A c) (by first | assumption | exact MC.up (by assumption) (by omega) | exact MC.up (MC.up (by assumption) (by omega)) (by omega) | exact MC.up (MC.up (MC.up (by assumption) (by omega)) (by omega)) (by omega)) w p (by assumption) (by first | assumption | exact Or.inl rfl) (by assumption)) ?_)
            rintro _ S57 ⟨rfl, x57, l57, o57, ⟨t57, u57, v57⟩, f57⟩
            have mmS57 : MC S57 (23 + 10 * c) (AK A c) := MC.fr (by first | assumption | exact MC.up (by assumption) (by omega) | exact MC.up (MC.up (by assumption) (by omega)) (by omega) | exact MC.up (MC.up (MC.up (by assumption) (by omega)) (by omega)) (by omega)) fun c q r => f57 c (by omega)
            refine ⟨rfl, ?_⟩
            refine R_lo (nx := 61) rfl rfl rfl rfl ?_
            refine R_get (nx := 64) (w := (2, 8)) rfl rfl rfl rfl ?_
            refine R_lo (nx := 66) rfl rfl rfl rfl ?_
            refine R_call1 (nx := 69) (as := [(2, 8), (0, x)]) (rest := []) rfl rfl (fun _ _ => rfl) rfl rfl rfl rfl rfl rfl rfl rfl (Cl.mono (c_Rd_partner S57 (23 + 10 * c) (isC_c (i := c) (by omega) (by omega)) (AK A c) (by first | assumption | exact MC.up (by assumption) (by omega) | exact MC.up (MC.up (by assumption) (by omega)) (by omega) | exact MC.up (MC.up (MC.up (by assumption) (by omega)) (by omega)) (by omega)) w p (by assumption) (by first | assumption | exact Or.inl rfl) (by assumption) (by assumption) (by assumption) (by assumption) (by assumption) (by assumption) (by assumption) x (by omega) ) ?_)
            rintro _ _ ⟨rfl, rfl⟩
            refine ⟨_, rfl, ?_⟩
            refine R_ret rfl (fun _ _ => rfl) rfl rfl ?_
            rw [show Q_goes A c w p x = ((cl3 (Fw (AK A c) w p x)), A) from by simp only [Q_goes, b2, b13, b20, b30, b40, e40, ifo, ifm, ifp, iffq, ↓reduceIte, ite_self, and_self, and_true, true_and, and_false, false_and, or_true, true_or, or_false, false_or, or_self, not_true_eq_false, not_false_eq_true, ne_eq]]; exact ⟨rfl, hRC.fr fun b hb => f57 b (by omega), fun b hb => f57 b (by omega)⟩
        ·
          refine ⟨_, rfl, ?_⟩
          refine R_ifF (nx := 36) rfl rfl rfl ?_
          refine R_op (nx := 37) rfl rfl rfl ?_
          refine R_ret rfl (fun _ _ => rfl) rfl rfl ?_
          rw [show Q_goes A c w p x = ((-1), A) from by simp only [Q_goes, b2, b13, b20, b30, ifo, ifm, ifp, iffq, ↓reduceIte, ite_self, and_self, and_true, true_and, and_false, false_and, or_true, true_or, or_false, false_or, or_self, not_true_eq_false, not_false_eq_true, ne_eq]]; exact ⟨rfl, hRC, fun b _ => rfl⟩
      ·
        refine ⟨_, rfl, ?_⟩
        refine R_ifT (tg := 36) rfl rfl rfl ?_
        refine R_op (nx := 37) rfl rfl rfl ?_
        refine R_ret rfl (fun _ _ => rfl) rfl rfl ?_
        rw [show Q_goes A c w p x = ((-1), A) from by simp only [Q_goes, b2, b13, b20, ifo, ifm, ifp, iffq, ↓reduceIte, ite_self, and_self, and_true, true_and, and_false, false_and, or_true, true_or, or_false, false_or, or_self, not_true_eq_false, not_false_eq_true, ne_eq]]; exact ⟨rfl, hRC, fun b _ => rfl⟩
    ·
      refine ⟨_, rfl, ?_⟩
      refine R_ifT (tg := 36) rfl rfl rfl ?_
      refine R_op (nx := 37) rfl rfl rfl ?_
      refine R_ret rfl (fun _ _ => rfl) rfl rfl ?_
      rw [show Q_goes A c w p x = ((-1), A) from by simp only [Q_goes, b2, b13, ifo, ifm, ifp, iffq, ↓reduceIte, ite_self, and_self, and_true, true_and, and_false, false_and, or_true, true_or, or_false, false_or, or_self, not_true_eq_false, not_false_eq_true, ne_eq]]; exact ⟨rfl, hRC, fun b _ => rfl⟩
  ·
    refine ⟨_, rfl, ?_⟩
    refine R_lo (nx := 7) (ls' := [(2, 0), (0, c), (0, w), (0, p), (0, x), (2, (-1))]) rfl rfl rfl rfl ?_
    refine R_lo (nx := 9) rfl rfl rfl rfl ?_
    refine R_ifnull (nx := 12) (tg := 36) rfl rfl rfl (fun h => ?_) (fun h => absurd (by decide) h)
    refine R_op (nx := 37) rfl rfl rfl ?_
    refine R_ret rfl (fun _ _ => rfl) rfl rfl ?_
    rw [show Q_goes A c w p x = ((-1), A) from by simp only [Q_goes, b2, ifo, ifm, ifp, iffq, ↓reduceIte, ite_self, and_self, and_true, true_and, and_false, false_and, or_true, true_or, or_false, false_or, or_self, not_true_eq_false, not_false_eq_true, ne_eq]]; exact ⟨rfl, hRC, fun b _ => rfl⟩

set_option maxRecDepth 20000 in
set_option maxHeartbeats 4000000 in
theorem c_P_reduced (S : mm_S) (A : mm_A) (hRC : RC S A) (hV : Vs A) (c w p x y : Int) : Cl 10 [(2, 0), (0, c), (0, w), (0, p), (0, x), (0, y)] S (fun vv S' => vv = some (0, (Q_reduced A c w p x y).1) ∧ RC S' (Q_reduced A c w p x y).2 ∧ ∀ b, 71 ≤ b → S' b = S b) := by
  refine ⟨Nat.le_of_ble_eq_true rfl, ?_⟩
  show Rn k_P_reduced 0 [(2, 0), (0, c), (0, w), (0, p), (0, x), (0, y), (9, 0)] [] S _
  refine R_lo (nx := 1) rfl rfl rfl rfl ?_
  refine R_lo (nx := 2) rfl rfl rfl rfl ?_
  refine R_call1 (nx := 5) (as := [(2, 0), (0, c)]) (rest := []) rfl rfl (fun _ _ => rfl) rfl rfl rfl rfl rfl rfl rfl rfl (Cl.mono (c_P_complexAt S c) ?_)
  rintro _ _ (⟨rfl, b2, rfl⟩ | ⟨rfl, b2, rfl⟩)
  ·
    have kb2 := hRC.k b2.1 b2.2
    have vb2 := hV.1 c b2.1 b2.2
    have rb2 := vb2.2.1
    have nb2 := kb2.n
    have zb2 := kb2.nr
    refine ⟨_, rfl, ?_⟩
    refine R_lo (nx := 7) (ls' := [(2, 0), (0, c), (0, w), (0, p), (0, x), (0, y), (2, (23 + 10 * c))]) rfl rfl rfl rfl ?_
    refine R_lo (nx := 9) rfl rfl rfl rfl ?_
    refine R_ifnull (nx := 12) (tg := 46) rfl rfl rfl (fun h => absurd h (by have := (isC_kd (isC_c (i := c) (by omega) (by omega))).1; omega)) (fun h => ?_)
    refine R_lo (nx := 13) rfl rfl rfl rfl ?_
    refine R_call1 (nx := 16) (as := [(0, w)]) (rest := []) rfl rfl (fun _ _ => rfl) rfl rfl rfl rfl rfl rfl rfl rfl (Cl.mono (c_P_isWay S w) ?_)
    rintro _ _ (⟨rfl, b13, rfl⟩ | ⟨rfl, b13, rfl⟩)
    ·
      refine ⟨_, rfl, ?_⟩
      refine R_ifF (nx := 19) rfl rfl rfl ?_
      refine R_lo (nx := 20) rfl rfl rfl rfl ?_
      refine R_call1 (nx := 23) (as := [(0, p)]) (rest := []) rfl rfl (fun _ _ => rfl) rfl rfl rfl rfl rfl rfl rfl rfl (Cl.mono (c_P_isPrime S p) ?_)
      rintro _ _ (⟨rfl, b20, rfl⟩ | ⟨rfl, b20, rfl⟩)
      ·
        refine ⟨_, rfl, ?_⟩
        refine R_ifF (nx := 26) rfl rfl rfl ?_
        refine R_lo (nx := 28) rfl rfl rfl rfl ?_
        refine R_lo (nx := 30) rfl rfl rfl rfl ?_
        refine R_call1 (nx := 33) (as := [(2, (23 + 10 * c)), (0, x)]) (rest := []) rfl rfl (fun _ _ => rfl) rfl rfl rfl rfl rfl rfl (isC_rc (isC_c (i := c) (by omega) (by omega)) _) rfl (Cl.mono (c_C_has S (23 + 10 * c) (isC_c (i := c) (by omega) (by omega)) (AK A c) (by first | assumption | exact MC.up (by assumption) (by omega) | exact MC.up (MC.up (by assumption) (by omega)) (by omega) | exact MC.up (MC.up (MC.up (by assumption) (by omega)) (by omega)) (by omega)) x) ?_)
        rintro _ _ (⟨rfl, b30, rfl⟩ | ⟨rfl, b30, rfl⟩)
        ·
          refine ⟨_, rfl, ?_⟩
          refine R_ifF (nx := 36) rfl rfl rfl ?_
          refine R_lo (nx := 38) rfl rfl rfl rfl ?_
          refine R_lo (nx := 40) rfl rfl rfl rfl ?_
          refine R_call1 (nx := 43) (as := [(2, (23 + 10 * c)), (0, y)]) (rest := []) rfl rfl (fun _ _ => rfl) rfl rfl rfl rfl rfl rfl (isC_rc (isC_c (i := c) (by omega) (by omega)) _) rfl (Cl.mono (c_C_has S (23 + 10 * c) (isC_c (i := c) (by omega) (by omega)) (AK A c) (by first | assumption | exact MC.up (by assumption) (by omega) | exact MC.up (MC.up (by assumption) (by omega)) (by omega) | exact MC.up (MC.up (MC.up (by assumption) (by omega)) (by omega)) (by omega)) y) ?_)
          rintro _ _ (⟨rfl, b40, rfl⟩ | ⟨rfl, b40, rfl⟩)
          ·
            refine ⟨_, rfl, ?_⟩
            refine R_ifT (tg := 48) rfl rfl rfl ?_
            refine R_lo (nx := 50) rfl rfl rfl rfl ?_
            refine R_call1 (nx := 53) (as := [(2, (23 + 10 * c))]) (rest := []) rfl rfl (fun _ _ => rfl) rfl rfl rfl rfl rfl rfl (isC_rc (isC_c (i := c) (by omega) (by omega)) _) rfl (Cl.mono (c_C_isBroken S (23 + 10 * c) (isC_c (i := c) (by omega) (by omega)) (AK A c) (by first | assumption | exact MC.up (by assumption) (by omega) | exact MC.up (MC.up (by assumption) (by omega)) (by omega) | exact MC.up (MC.up (MC.up (by assumption) (by omega)) (by omega)) (by omega)) (by assumption)) ?_)
            rintro _ _ (⟨rfl, b50, rfl⟩ | ⟨rfl, b50, rfl⟩)
            ·
              have e50 : ¬ Xfb (AK A c) = 0 := b50
              refine ⟨_, rfl, ?_⟩
              refine R_ifF (nx := 56) rfl rfl rfl ?_
              refine R_op (nx := 58) rfl rfl rfl ?_
              refine R_ret rfl (fun _ _ => rfl) rfl rfl ?_
              rw [show Q_reduced A c w p x y = ((-4), A) from by simp only [Q_reduced, b2, b13, b20, b30, b40, b50, e50, ifo, ifm, ifp, iffq, ↓reduceIte, ite_self, and_self, and_true, true_and, and_false, false_and, or_true, true_or, or_false, false_or, or_self, not_true_eq_false, not_false_eq_true, ne_eq]]; exact ⟨rfl, hRC, fun b _ => rfl⟩
            ·
              have e50 : Xfb (AK A c) = 0 := Classical.not_not.mp b50
              refine ⟨_, rfl, ?_⟩
              refine R_ifT (tg := 59) rfl rfl rfl ?_
              refine R_lo (nx := 60) rfl rfl rfl rfl ?_
              refine R_get (nx := 63) (w := (2, 8)) rfl rfl rfl rfl ?_
              refine R_lo (nx := 65) rfl rfl rfl rfl ?_
              refine R_lo (nx := 66) rfl rfl rfl rfl ?_
              refine R_lo (nx := 67) rfl rfl rfl rfl ?_
              refine R_call0 (nx := 70) (as := [(2, 8), (2, (23 + 10 * c)), (0, w), (0, p)]) (rest := []) rfl rfl (fun _ _ => rfl) rfl rfl rfl rfl rfl rfl rfl rfl (Cl.mono (c_Rd_run S (23 + 10 * c) (isC_c (i := c) (by omega) (by omega)) (AK A c) (by first | assumption | exact MC.up (by assumption) (by omega) | exact MC.up (MC.up (by assumption) (by omega)) (by omega) | exact MC.up (MC.up (MC.up (by assumption) (by omega)) (by omega)) (by omega)) w p (by assumption) (by first | assumption | exact Or.inl rfl) (by assumption)) ?_)
              rintro _ S67 ⟨rfl, x67, l67, o67, ⟨t67, u67, v67⟩, f67⟩
              have mmS67 : MC S67 (23 + 10 * c) (AK A c) := MC.fr (by first | assumption | exact MC.up (by assumption) (by omega) | exact MC.up (MC.up (by assumption) (by omega)) (by omega) | exact MC.up (MC.up (MC.up (by assumption) (by omega)) (by omega)) (by omega)) fun c q r => f67 c (by omega)
              refine ⟨rfl, ?_⟩
              refine R_lo (nx := 71) rfl rfl rfl rfl ?_
              refine R_get (nx := 74) (w := (2, 8)) rfl rfl rfl rfl ?_
              refine R_lo (nx := 76) rfl rfl rfl rfl ?_
              refine R_lo (nx := 78) rfl rfl rfl rfl ?_
              refine R_call1 (nx := 81) (as := [(2, 8), (0, x), (0, y)]) (rest := []) rfl rfl (fun _ _ => rfl) rfl rfl rfl rfl rfl rfl rfl rfl (Cl.mono (c_Rd_remainder S67 x y (by omega) (by omega)) ?_)
              rintro _ _ ⟨rfl, rfl⟩
              refine ⟨_, rfl, ?_⟩
              rw [x67 x y b30.1 b30.2 b40.1 b40.2]
              refine R_ret rfl (fun _ _ => rfl) rfl rfl ?_
              rw [show Q_reduced A c w p x y = ((Fr (AK A c) w p x y), A) from by simp only [Q_reduced, b2, b13, b20, b30, b40, b50, e50, ifo, ifm, ifp, iffq, ↓reduceIte, ite_self, and_self, and_true, true_and, and_false, false_and, or_true, true_or, or_false, false_or, or_self, not_true_eq_false, not_false_eq_true, ne_eq]]; exact ⟨rfl, hRC.fr fun b hb => f67 b (by omega), fun b hb => f67 b (by omega)⟩
          ·
            refine ⟨_, rfl, ?_⟩
            refine R_ifF (nx := 46) rfl rfl rfl ?_
            refine R_op (nx := 47) rfl rfl rfl ?_
            refine R_ret rfl (fun _ _ => rfl) rfl rfl ?_
            rw [show Q_reduced A c w p x y = ((-1), A) from by simp only [Q_reduced, b2, b13, b20, b30, b40, ifo, ifm, ifp, iffq, ↓reduceIte, ite_self, and_self, and_true, true_and, and_false, false_and, or_true, true_or, or_false, false_or, or_self, not_true_eq_false, not_false_eq_true, ne_eq]]; exact ⟨rfl, hRC, fun b _ => rfl⟩
        ·
          refine ⟨_, rfl, ?_⟩
          refine R_ifT (tg := 46) rfl rfl rfl ?_
          refine R_op (nx := 47) rfl rfl rfl ?_
          refine R_ret rfl (fun _ _ => rfl) rfl rfl ?_
          rw [show Q_reduced A c w p x y = ((-1), A) from by simp only [Q_reduced, b2, b13, b20, b30, ifo, ifm, ifp, iffq, ↓reduceIte, ite_self, and_self, and_true, true_and, and_false, false_and, or_true, true_or, or_false, false_or, or_self, not_true_eq_false, not_false_eq_true, ne_eq]]; exact ⟨rfl, hRC, fun b _ => rfl⟩
      ·
        refine ⟨_, rfl, ?_⟩
        refine R_ifT (tg := 46) rfl rfl rfl ?_
        refine R_op (nx := 47) rfl rfl rfl ?_
        refine R_ret rfl (fun _ _ => rfl) rfl rfl ?_
        rw [show Q_reduced A c w p x y = ((-1), A) from by simp only [Q_reduced, b2, b13, b20, ifo, ifm, ifp, iffq, ↓reduceIte, ite_self, and_self, and_true, true_and, and_false, false_and, or_true, true_or, or_false, false_or, or_self, not_true_eq_false, not_false_eq_true, ne_eq]]; exact ⟨rfl, hRC, fun b _ => rfl⟩
    ·
      refine ⟨_, rfl, ?_⟩
      refine R_ifT (tg := 46) rfl rfl rfl ?_
      refine R_op (nx := 47) rfl rfl rfl ?_
      refine R_ret rfl (fun _ _ => rfl) rfl rfl ?_
      rw [show Q_reduced A c w p x y = ((-1), A) from by simp only [Q_reduced, b2, b13, ifo, ifm, ifp, iffq, ↓reduceIte, ite_self, and_self, and_true, true_and, and_false, false_and, or_true, true_or, or_false, false_or, or_self, not_true_eq_false, not_false_eq_true, ne_eq]]; exact ⟨rfl, hRC, fun b _ => rfl⟩
  ·
    refine ⟨_, rfl, ?_⟩
    refine R_lo (nx := 7) (ls' := [(2, 0), (0, c), (0, w), (0, p), (0, x), (0, y), (2, (-1))]) rfl rfl rfl rfl ?_
    refine R_lo (nx := 9) rfl rfl rfl rfl ?_
    refine R_ifnull (nx := 12) (tg := 46) rfl rfl rfl (fun h => ?_) (fun h => absurd (by decide) h)
    refine R_op (nx := 47) rfl rfl rfl ?_
    refine R_ret rfl (fun _ _ => rfl) rfl rfl ?_
    rw [show Q_reduced A c w p x y = ((-1), A) from by simp only [Q_reduced, b2, ifo, ifm, ifp, iffq, ↓reduceIte, ite_self, and_self, and_true, true_and, and_false, false_and, or_true, true_or, or_false, false_or, or_self, not_true_eq_false, not_false_eq_true, ne_eq]]; exact ⟨rfl, hRC, fun b _ => rfl⟩

set_option maxRecDepth 20000 in
set_option maxHeartbeats 4000000 in
theorem c_P_ofPage0 (S : mm_S) (A : mm_A) (hRC : RC S A) (hV : Vs A) (c w p r l d : Int) : Cl 40 [(2, 0), (0, c), (0, w), (0, p), (0, r), (0, l), (0, d), (0, 0)] S (fun vv S' => vv = some (0, (Q_told A c w p r l d 0).1) ∧ RC S' (Q_told A c w p r l d 0).2 ∧ ∀ b, 71 ≤ b → S' b = S b) := by
  refine ⟨Nat.le_of_ble_eq_true rfl, ?_⟩
  show Rn k_P_ofPage 0 [(2, 0), (0, c), (0, w), (0, p), (0, r), (0, l), (0, d), (0, 0), (9, 0), (9, 0), (9, 0)] [] S _
  refine R_lo (nx := 1) rfl rfl rfl rfl ?_
  refine R_lo (nx := 2) rfl rfl rfl rfl ?_
  refine R_call1 (nx := 5) (as := [(2, 0), (0, c)]) (rest := []) rfl rfl (fun _ _ => rfl) rfl rfl rfl rfl rfl rfl rfl rfl (Cl.mono (c_P_complexAt S c) ?_)
  rintro _ _ (⟨rfl, b2, rfl⟩ | ⟨rfl, b2, rfl⟩)
  ·
    have kb2 := hRC.k b2.1 b2.2
    have vb2 := hV.1 c b2.1 b2.2
    have rb2 := vb2.2.1
    have nb2 := kb2.n
    have zb2 := kb2.nr
    refine ⟨_, rfl, ?_⟩
    refine R_lo (nx := 7) (ls' := [(2, 0), (0, c), (0, w), (0, p), (0, r), (0, l), (0, d), (0, 0), (2, (23 + 10 * c)), (9, 0), (9, 0)]) rfl rfl rfl rfl ?_
    refine R_lo (nx := 9) rfl rfl rfl rfl ?_
    refine R_ifnull (nx := 12) (tg := 54) rfl rfl rfl (fun h => absurd h (by have := (isC_kd (isC_c (i := c) (by omega) (by omega))).1; omega)) (fun h => ?_)
    refine R_lo (nx := 13) rfl rfl rfl rfl ?_
    refine R_call1 (nx := 16) (as := [(0, w)]) (rest := []) rfl rfl (fun _ _ => rfl) rfl rfl rfl rfl rfl rfl rfl rfl (Cl.mono (c_P_isWay S w) ?_)
    rintro _ _ (⟨rfl, b13, rfl⟩ | ⟨rfl, b13, rfl⟩)
    ·
      refine ⟨_, rfl, ?_⟩
      refine R_ifF (nx := 19) rfl rfl rfl ?_
      refine R_lo (nx := 20) rfl rfl rfl rfl ?_
      refine R_call1 (nx := 23) (as := [(0, p)]) (rest := []) rfl rfl (fun _ _ => rfl) rfl rfl rfl rfl rfl rfl rfl rfl (Cl.mono (c_P_isPrime S p) ?_)
      rintro _ _ (⟨rfl, b20, rfl⟩ | ⟨rfl, b20, rfl⟩)
      ·
        refine ⟨_, rfl, ?_⟩
        refine R_ifF (nx := 26) rfl rfl rfl ?_
        refine R_lo (nx := 28) rfl rfl rfl rfl ?_
        refine R_if (nx := 31) (tg := 54) rfl rfl rfl (mm_cnd_lt _ _) (fun c28 => ?_) (fun c28 => ?_)
        ·
          have e28 : ¬ (0 ≤ r ∧ r ≤ 10) := by omega
          refine R_op (nx := 55) rfl rfl rfl ?_
          refine R_ret rfl (fun _ _ => rfl) rfl rfl ?_
          rw [show Q_told A c w p r l d 0 = ((-1), A) from by simp only [Q_told, b2, b13, b20, c28, e28, ifo, ifm, ifp, iffq, ↓reduceIte, ite_self, and_self, and_true, true_and, and_false, false_and, or_true, true_or, or_false, false_or, or_self, not_true_eq_false, not_false_eq_true, ne_eq]]; exact ⟨rfl, hRC, fun b _ => rfl⟩
        ·
          refine R_lo (nx := 33) rfl rfl rfl rfl ?_
          refine R_op (nx := 35) rfl rfl rfl ?_
          refine R_icmp (nx := 38) (tg := 54) rfl rfl rfl (mm_cnd_gt _ _) (fun c35 => ?_) (fun c35 => ?_)
          ·
            have e35 : ¬ (0 ≤ r ∧ r ≤ 10) := by omega
            refine R_op (nx := 55) rfl rfl rfl ?_
            refine R_ret rfl (fun _ _ => rfl) rfl rfl ?_
            rw [show Q_told A c w p r l d 0 = ((-1), A) from by simp only [Q_told, b2, b13, b20, c28, c35, e35, ifo, ifm, ifp, iffq, ↓reduceIte, ite_self, and_self, and_true, true_and, and_false, false_and, or_true, true_or, or_false, false_or, or_self, not_true_eq_false, not_false_eq_true, ne_eq]]; exact ⟨rfl, hRC, fun b _ => rfl⟩
          ·
            have e35 : 0 ≤ r ∧ r ≤ 10 := by omega
            refine R_lo (nx := 40) rfl rfl rfl rfl ?_
            refine R_call1 (nx := 43) (as := [(0, l)]) (rest := []) rfl rfl (fun _ _ => rfl) rfl rfl rfl rfl rfl rfl rfl rfl (Cl.mono (c_P_isLevel S l) ?_)
            rintro _ _ (⟨rfl, b40, rfl⟩ | ⟨rfl, b40, rfl⟩)
            ·
              refine ⟨_, rfl, ?_⟩
              refine R_ifF (nx := 46) rfl rfl rfl ?_
              refine R_lo (nx := 48) rfl rfl rfl rfl ?_
              refine R_call1 (nx := 51) (as := [(0, d)]) (rest := []) rfl rfl (fun _ _ => rfl) rfl rfl rfl rfl rfl rfl rfl rfl (Cl.mono (c_P_isDegree S d) ?_)
              rintro _ _ (⟨rfl, b48, rfl⟩ | ⟨rfl, b48, rfl⟩)
              ·
                refine ⟨_, rfl, ?_⟩
                refine R_ifT (tg := 56) rfl rfl rfl ?_
                refine R_lo (nx := 58) rfl rfl rfl rfl ?_
                refine R_call1 (nx := 61) (as := [(2, (23 + 10 * c))]) (rest := []) rfl rfl (fun _ _ => rfl) rfl rfl rfl rfl rfl rfl (isC_rc (isC_c (i := c) (by omega) (by omega)) _) rfl (Cl.mono (c_C_isBroken S (23 + 10 * c) (isC_c (i := c) (by omega) (by omega)) (AK A c) (by first | assumption | exact MC.up (by assumption) (by omega) | exact MC.up (MC.up (by assumption) (by omega)) (by omega) | exact MC.up (MC.up (MC.up (by assumption) (by omega)) (by omega)) (by omega)) (by assumption)) ?_)
                rintro _ _ (⟨rfl, b58, rfl⟩ | ⟨rfl, b58, rfl⟩)
                ·
                  have e58 : ¬ Xfb (AK A c) = 0 := b58
                  refine ⟨_, rfl, ?_⟩
                  refine R_ifF (nx := 64) rfl rfl rfl ?_
                  refine R_op (nx := 66) rfl rfl rfl ?_
                  refine R_ret rfl (fun _ _ => rfl) rfl rfl ?_
                  rw [show Q_told A c w p r l d 0 = ((-4), A) from by simp only [Q_told, b2, b13, b20, c28, c35, e35, b40, b48, b58, e58, ifo, ifm, ifp, iffq, ↓reduceIte, ite_self, and_self, and_true, true_and, and_false, false_and, or_true, true_or, or_false, false_or, or_self, not_true_eq_false, not_false_eq_true, ne_eq]]; exact ⟨rfl, hRC, fun b _ => rfl⟩
                ·
                  have e58 : Xfb (AK A c) = 0 := Classical.not_not.mp b58
                  refine ⟨_, rfl, ?_⟩
                  refine R_ifT (tg := 67) rfl rfl rfl ?_
                  refine R_lo (nx := 68) rfl rfl rfl rfl ?_
                  refine R_get (nx := 71) (w := (2, 8)) rfl rfl rfl rfl ?_
                  refine R_lo (nx := 73) rfl rfl rfl rfl ?_
                  refine R_lo (nx := 74) rfl rfl rfl rfl ?_
                  refine R_lo (nx := 75) rfl rfl rfl rfl ?_
                  refine R_call0 (nx := 78) (as := [(2, 8), (2, (23 + 10 * c)), (0, w), (0, p)]) (rest := []) rfl rfl (fun _ _ => rfl) rfl rfl rfl rfl rfl rfl rfl rfl (Cl.mono (c_Rd_run S (23 + 10 * c) (isC_c (i := c) (by omega) (by omega)) (AK A c) (by first | assumption | exact MC.up (by assumption) (by omega) | exact MC.up (MC.up (by assumption) (by omega)) (by omega) | exact MC.up (MC.up (MC.up (by assumption) (by omega)) (by omega)) (by omega)) w p (by assumption) (by first | assumption | exact Or.inl rfl) (by assumption)) ?_)
                  rintro _ S75 ⟨rfl, x75, l75, o75, ⟨t75, u75, v75⟩, f75⟩
                  have mmS75 : MC S75 (23 + 10 * c) (AK A c) := MC.fr (by first | assumption | exact MC.up (by assumption) (by omega) | exact MC.up (MC.up (by assumption) (by omega)) (by omega) | exact MC.up (MC.up (MC.up (by assumption) (by omega)) (by omega)) (by omega)) fun c q r => f75 c (by omega)
                  refine ⟨rfl, ?_⟩
                  refine R_op (nx := 79) rfl rfl rfl ?_
                  refine R_lo (nx := 81) (ls' := [(2, 0), (0, c), (0, w), (0, p), (0, r), (0, l), (0, d), (0, 0), (2, (23 + 10 * c)), (0, 0), (9, 0)]) rfl rfl rfl rfl ?_
                  refine R_op (nx := 82) rfl rfl rfl ?_
                  refine R_lo (nx := 84) (ls' := [(2, 0), (0, c), (0, w), (0, p), (0, r), (0, l), (0, d), (0, 0), (2, (23 + 10 * c)), (0, 0), (0, 0)]) rfl rfl rfl rfl ?_
                  have L84 : ∀ (f84 : Nat) (acc : Int) (i : Int), ((Xn (AK A c)) - i).toNat < f84 → (0 ≤ i ∧ i ≤ (Xn (AK A c))) → (0 ≤ acc ∧ acc ≤ i) → (acc = sm (tcF (AK A c) w p r l d 0) i) → Rn k_P_ofPage 84 [(2, 0), (0, c), (0, w), (0, p), (0, r), (0, l), (0, d), (0, 0), (2, (23 + 10 * c)), (0, acc), (0, i)] [] S75 (fun vv S' => vv = some (0, (Q_told A c w p r l d 0).1) ∧ RC S' (Q_told A c w p r l d 0).2 ∧ ∀ b, 71 ≤ b → S' b = S b) := by
                    intro f84
                    induction f84 with
                    | zero => intro acc i hm84; exact absurd hm84 (Nat.not_lt_zero _)
                    | succ f84 ih84 =>
                      intro acc i hm84 hi hb hq
                      have nn := mmS75.n
                      refine R_lo (nx := 86) rfl rfl rfl rfl ?_
                      refine R_lo (nx := 88) rfl rfl rfl rfl ?_
                      refine R_get (nx := 91) (w := (0, (S75 (23 + 10 * c) 0))) rfl rfl (isC_ob (isC_c (i := c) (by omega) (by omega))) rfl ?_
                      rw [nn]
                      refine R_icmp (nx := 94) (tg := 171) rfl rfl rfl (mm_cnd_ge _ _) (fun c91 => ?_) (fun c91 => ?_)
                      ·
                        have hfin : sm (tcF (AK A c) w p r l d 0) (Xn (AK A c)) = acc := by rw [hq, show (Xn (AK A c)) = i by omega]
                        refine R_lo (nx := 173) rfl rfl rfl rfl ?_
                        refine R_ret rfl (fun _ _ => rfl) rfl rfl ?_
                        rw [show Q_told A c w p r l d 0 = (acc, A) from by simp only [Q_told, hfin, b2, b13, b20, c28, c35, e35, b40, b48, b58, e58, c91, ifo, ifm, ifp, iffq, ↓reduceIte, ite_self, and_self, and_true, true_and, and_false, false_and, or_true, true_or, or_false, false_or, or_self, not_true_eq_false, not_false_eq_true, ne_eq]]; exact ⟨rfl, hRC.fr fun b hb => f75 b (by omega), fun b hb => f75 b (by omega)⟩
                      ·
                        refine R_lo (nx := 96) rfl rfl rfl rfl ?_
                        refine R_lo (nx := 97) rfl rfl rfl rfl ?_
                        refine R_lo (nx := 99) rfl rfl rfl rfl ?_
                        refine R_call1 (nx := 102) (as := [(2, (23 + 10 * c)), (0, w), (0, i)]) (rest := []) rfl rfl (fun _ _ => rfl) rfl rfl rfl rfl rfl rfl (isC_rc (isC_c (i := c) (by omega) (by omega)) _) rfl (Cl.mono (c_C_level S75 (23 + 10 * c) (isC_c (i := c) (by omega) (by omega)) (AK A c) (by first | assumption | exact MC.up (by assumption) (by omega) | exact MC.up (MC.up (by assumption) (by omega)) (by omega) | exact MC.up (MC.up (MC.up (by assumption) (by omega)) (by omega)) (by omega)) w i) ?_)
                        rintro _ _ ⟨rfl, rfl⟩
                        refine ⟨_, rfl, ?_⟩
                        refine R_lo (nx := 104) rfl rfl rfl rfl ?_
                        refine R_icmp (nx := 107) (tg := 165) rfl rfl rfl (mm_cnd_ne _ _) (fun c104 => ?_) (fun c104 => ?_)
                        ·
                          refine R_iinc (nx := 168) (z := (i + 1)) (ls' := [(2, 0), (0, c), (0, w), (0, p), (0, r), (0, l), (0, d), (0, 0), (2, (23 + 10 * c)), (0, acc), (0, (i + 1))]) rfl rfl rfl rfl ⟨by omega, by omega⟩ rfl ?_
                          refine R_op (nx := 171) (pc' := 84) rfl rfl rfl ?_
                          refine Rn.weak (ls' := [(2, 0), (0, c), (0, w), (0, p), (0, r), (0, l), (0, d), (0, 0), (2, (23 + 10 * c)), (0, acc), (0, (i + 1))]) ⟨Or.inl rfl, ⟨Or.inl rfl, ⟨Or.inl rfl, ⟨Or.inl rfl, ⟨Or.inl rfl, ⟨Or.inl rfl, ⟨Or.inl rfl, ⟨Or.inl rfl, ⟨Or.inl rfl, ⟨Or.inl rfl, ⟨Or.inl rfl, trivial⟩⟩⟩⟩⟩⟩⟩⟩⟩⟩⟩ ?_
                          refine ih84 (acc) ((i + 1)) ?_ ?_ ?_ ?_
                          · omega
                          · omega
                          · omega
                          · rw [sm_s _ hi.1, ← hq]
                            first | rw [tcF_0 (by omega)] | rw [tcF_0n (by omega), Int.add_zero]
                        ·
                          replace c104 := Classical.not_not.mp c104
                          refine R_lo (nx := 109) rfl rfl rfl rfl ?_
                          refine R_lo (nx := 111) rfl rfl rfl rfl ?_
                          refine R_call1 (nx := 114) (as := [(2, (23 + 10 * c)), (0, i)]) (rest := []) rfl rfl (fun _ _ => rfl) rfl rfl rfl rfl rfl rfl (isC_rc (isC_c (i := c) (by omega) (by omega)) _) rfl (Cl.mono (c_C_degree S75 (23 + 10 * c) (isC_c (i := c) (by omega) (by omega)) (AK A c) (by first | assumption | exact MC.up (by assumption) (by omega) | exact MC.up (MC.up (by assumption) (by omega)) (by omega) | exact MC.up (MC.up (MC.up (by assumption) (by omega)) (by omega)) (by omega)) i) ?_)
                          rintro _ _ ⟨rfl, rfl⟩
                          refine ⟨_, rfl, ?_⟩
                          refine R_lo (nx := 116) rfl rfl rfl rfl ?_
                          refine R_icmp (nx := 119) (tg := 165) rfl rfl rfl (mm_cnd_ne _ _) (fun c116 => ?_) (fun c116 => ?_)
                          ·
                            refine R_iinc (nx := 168) (z := (i + 1)) (ls' := [(2, 0), (0, c), (0, w), (0, p), (0, r), (0, l), (0, d), (0, 0), (2, (23 + 10 * c)), (0, acc), (0, (i + 1))]) rfl rfl rfl rfl ⟨by omega, by omega⟩ rfl ?_
                            refine R_op (nx := 171) (pc' := 84) rfl rfl rfl ?_
                            refine Rn.weak (ls' := [(2, 0), (0, c), (0, w), (0, p), (0, r), (0, l), (0, d), (0, 0), (2, (23 + 10 * c)), (0, acc), (0, (i + 1))]) ⟨Or.inl rfl, ⟨Or.inl rfl, ⟨Or.inl rfl, ⟨Or.inl rfl, ⟨Or.inl rfl, ⟨Or.inl rfl, ⟨Or.inl rfl, ⟨Or.inl rfl, ⟨Or.inl rfl, ⟨Or.inl rfl, ⟨Or.inl rfl, trivial⟩⟩⟩⟩⟩⟩⟩⟩⟩⟩⟩ ?_
                            refine ih84 (acc) ((i + 1)) ?_ ?_ ?_ ?_
                            · omega
                            · omega
                            · omega
                            · rw [sm_s _ hi.1, ← hq]
                              first | rw [tcF_0 (by omega)] | rw [tcF_0n (by omega), Int.add_zero]
                          ·
                            replace c116 := Classical.not_not.mp c116
                            refine R_lo (nx := 121) rfl rfl rfl rfl ?_
                            refine R_lo (nx := 123) rfl rfl rfl rfl ?_
                            refine R_ifT (tg := 143) rfl rfl rfl ?_
                            refine R_lo (nx := 144) rfl rfl rfl rfl ?_
                            refine R_get (nx := 147) (w := (2, 8)) rfl rfl rfl rfl ?_
                            refine R_lo (nx := 149) rfl rfl rfl rfl ?_
                            refine R_lo (nx := 151) rfl rfl rfl rfl ?_
                            refine R_call1 (nx := 154) (as := [(2, 8), (0, i), (0, r)]) (rest := [(0, acc)]) rfl rfl (fun _ _ => rfl) rfl rfl rfl rfl rfl rfl rfl rfl (Cl.mono (c_Rd_standsOn S75 (23 + 10 * c) (isC_c (i := c) (by omega) (by omega)) (AK A c) (by first | assumption | exact MC.up (by assumption) (by omega) | exact MC.up (MC.up (by assumption) (by omega)) (by omega) | exact MC.up (MC.up (MC.up (by assumption) (by omega)) (by omega)) (by omega)) w p (by assumption) (by first | assumption | exact Or.inl rfl) (by assumption) (by assumption) (by assumption) (by assumption) (by assumption) (by assumption) (by assumption) i (by omega) r) ?_)
                            rintro _ _ (⟨rfl, b151, rfl⟩ | ⟨rfl, b151, rfl⟩)
                            ·
                              refine ⟨_, rfl, ?_⟩
                              refine R_ifF (nx := 157) rfl rfl rfl ?_
                              refine R_op (nx := 158) rfl rfl rfl ?_
                              refine R_op (nx := 161) (pc' := 162) rfl rfl rfl ?_
                              refine R_iadd (nx := 163) (z := (acc + 1)) rfl rfl rfl ⟨by omega, by omega⟩ ?_
                              refine R_lo (nx := 165) (ls' := [(2, 0), (0, c), (0, w), (0, p), (0, r), (0, l), (0, d), (0, 0), (2, (23 + 10 * c)), (0, (acc + 1)), (0, i)]) rfl rfl rfl rfl ?_
                              refine R_iinc (nx := 168) (z := (i + 1)) (ls' := [(2, 0), (0, c), (0, w), (0, p), (0, r), (0, l), (0, d), (0, 0), (2, (23 + 10 * c)), (0, (acc + 1)), (0, (i + 1))]) rfl rfl rfl rfl ⟨by omega, by omega⟩ rfl ?_
                              refine R_op (nx := 171) (pc' := 84) rfl rfl rfl ?_
                              refine Rn.weak (ls' := [(2, 0), (0, c), (0, w), (0, p), (0, r), (0, l), (0, d), (0, 0), (2, (23 + 10 * c)), (0, (acc + 1)), (0, (i + 1))]) ⟨Or.inl rfl, ⟨Or.inl rfl, ⟨Or.inl rfl, ⟨Or.inl rfl, ⟨Or.inl rfl, ⟨Or.inl rfl, ⟨Or.inl rfl, ⟨Or.inl rfl, ⟨Or.inl rfl, ⟨Or.inl rfl, ⟨Or.inl rfl, trivial⟩⟩⟩⟩⟩⟩⟩⟩⟩⟩⟩ ?_
                              refine ih84 ((acc + 1)) ((i + 1)) ?_ ?_ ?_ ?_
                              · omega
                              · omega
                              · omega
                              · rw [sm_s _ hi.1, ← hq]
                                first | rw [tcF_0 (by omega)] | rw [tcF_0n (by omega), Int.add_zero]
                            ·
                              refine ⟨_, rfl, ?_⟩
                              refine R_ifT (tg := 161) rfl rfl rfl ?_
                              refine R_op (nx := 162) rfl rfl rfl ?_
                              refine R_iadd (nx := 163) (z := (acc + 0)) rfl rfl rfl ⟨by omega, by omega⟩ ?_
                              refine R_lo (nx := 165) (ls' := [(2, 0), (0, c), (0, w), (0, p), (0, r), (0, l), (0, d), (0, 0), (2, (23 + 10 * c)), (0, (acc + 0)), (0, i)]) rfl rfl rfl rfl ?_
                              refine R_iinc (nx := 168) (z := (i + 1)) (ls' := [(2, 0), (0, c), (0, w), (0, p), (0, r), (0, l), (0, d), (0, 0), (2, (23 + 10 * c)), (0, (acc + 0)), (0, (i + 1))]) rfl rfl rfl rfl ⟨by omega, by omega⟩ rfl ?_
                              refine R_op (nx := 171) (pc' := 84) rfl rfl rfl ?_
                              refine Rn.weak (ls' := [(2, 0), (0, c), (0, w), (0, p), (0, r), (0, l), (0, d), (0, 0), (2, (23 + 10 * c)), (0, (acc + 0)), (0, (i + 1))]) ⟨Or.inl rfl, ⟨Or.inl rfl, ⟨Or.inl rfl, ⟨Or.inl rfl, ⟨Or.inl rfl, ⟨Or.inl rfl, ⟨Or.inl rfl, ⟨Or.inl rfl, ⟨Or.inl rfl, ⟨Or.inl rfl, ⟨Or.inl rfl, trivial⟩⟩⟩⟩⟩⟩⟩⟩⟩⟩⟩ ?_
                              refine ih84 ((acc + 0)) ((i + 1)) ?_ ?_ ?_ ?_
                              · omega
                              · omega
                              · omega
                              · rw [sm_s _ hi.1, ← hq]
                                first | rw [tcF_0 (by omega)] | rw [tcF_0n (by omega), Int.add_zero]
                  refine Rn.weak (ls' := [(2, 0), (0, c), (0, w), (0, p), (0, r), (0, l), (0, d), (0, 0), (2, (23 + 10 * c)), (0, 0), (0, 0)]) ⟨Or.inl rfl, ⟨Or.inl rfl, ⟨Or.inl rfl, ⟨Or.inl rfl, ⟨Or.inl rfl, ⟨Or.inl rfl, ⟨Or.inl rfl, ⟨Or.inl rfl, ⟨Or.inl rfl, ⟨Or.inl rfl, ⟨Or.inl rfl, trivial⟩⟩⟩⟩⟩⟩⟩⟩⟩⟩⟩ ?_
                  refine L84 (((Xn (AK A c)) - (0)).toNat + 1) (0) (0) (Nat.lt_succ_self _) ?_ ?_ ?_
                  · omega
                  · omega
                  · rfl
              ·
                refine ⟨_, rfl, ?_⟩
                refine R_ifF (nx := 54) rfl rfl rfl ?_
                refine R_op (nx := 55) rfl rfl rfl ?_
                refine R_ret rfl (fun _ _ => rfl) rfl rfl ?_
                rw [show Q_told A c w p r l d 0 = ((-1), A) from by simp only [Q_told, b2, b13, b20, c28, c35, e35, b40, b48, ifo, ifm, ifp, iffq, ↓reduceIte, ite_self, and_self, and_true, true_and, and_false, false_and, or_true, true_or, or_false, false_or, or_self, not_true_eq_false, not_false_eq_true, ne_eq]]; exact ⟨rfl, hRC, fun b _ => rfl⟩
            ·
              refine ⟨_, rfl, ?_⟩
              refine R_ifT (tg := 54) rfl rfl rfl ?_
              refine R_op (nx := 55) rfl rfl rfl ?_
              refine R_ret rfl (fun _ _ => rfl) rfl rfl ?_
              rw [show Q_told A c w p r l d 0 = ((-1), A) from by simp only [Q_told, b2, b13, b20, c28, c35, e35, b40, ifo, ifm, ifp, iffq, ↓reduceIte, ite_self, and_self, and_true, true_and, and_false, false_and, or_true, true_or, or_false, false_or, or_self, not_true_eq_false, not_false_eq_true, ne_eq]]; exact ⟨rfl, hRC, fun b _ => rfl⟩
      ·
        refine ⟨_, rfl, ?_⟩
        refine R_ifT (tg := 54) rfl rfl rfl ?_
        refine R_op (nx := 55) rfl rfl rfl ?_
        refine R_ret rfl (fun _ _ => rfl) rfl rfl ?_
        rw [show Q_told A c w p r l d 0 = ((-1), A) from by simp only [Q_told, b2, b13, b20, ifo, ifm, ifp, iffq, ↓reduceIte, ite_self, and_self, and_true, true_and, and_false, false_and, or_true, true_or, or_false, false_or, or_self, not_true_eq_false, not_false_eq_true, ne_eq]]; exact ⟨rfl, hRC, fun b _ => rfl⟩
    ·
      refine ⟨_, rfl, ?_⟩
      refine R_ifT (tg := 54) rfl rfl rfl ?_
      refine R_op (nx := 55) rfl rfl rfl ?_
      refine R_ret rfl (fun _ _ => rfl) rfl rfl ?_
      rw [show Q_told A c w p r l d 0 = ((-1), A) from by simp only [Q_told, b2, b13, ifo, ifm, ifp, iffq, ↓reduceIte, ite_self, and_self, and_true, true_and, and_false, false_and, or_true, true_or, or_false, false_or, or_self, not_true_eq_false, not_false_eq_true, ne_eq]]; exact ⟨rfl, hRC, fun b _ => rfl⟩
  ·
    refine ⟨_, rfl, ?_⟩
    refine R_lo (nx := 7) (ls' := [(2, 0), (0, c), (0, w), (0, p), (0, r), (0, l), (0, d), (0, 0), (2, (-1)), (9, 0), (9, 0)]) rfl rfl rfl rfl ?_
    refine R_lo (nx := 9) rfl rfl rfl rfl ?_
    refine R_ifnull (nx := 12) (tg := 54) rfl rfl rfl (fun h => ?_) (fun h => absurd (by decide) h)
    refine R_op (nx := 55) rfl rfl rfl ?_
    refine R_ret rfl (fun _ _ => rfl) rfl rfl ?_
    rw [show Q_told A c w p r l d 0 = ((-1), A) from by simp only [Q_told, b2, ifo, ifm, ifp, iffq, ↓reduceIte, ite_self, and_self, and_true, true_and, and_false, false_and, or_true, true_or, or_false, false_or, or_self, not_true_eq_false, not_false_eq_true, ne_eq]]; exact ⟨rfl, hRC, fun b _ => rfl⟩

set_option maxRecDepth 20000 in
set_option maxHeartbeats 4000000 in
theorem c_P_page (S : mm_S) (A : mm_A) (hRC : RC S A) (hV : Vs A) (c w p r l d : Int) : Cl 11 [(2, 0), (0, c), (0, w), (0, p), (0, r), (0, l), (0, d)] S (fun vv S' => vv = some (0, (Q_told A c w p r l d 0).1) ∧ RC S' (Q_told A c w p r l d 0).2 ∧ ∀ b, 71 ≤ b → S' b = S b) := by
  refine ⟨Nat.le_of_ble_eq_true rfl, ?_⟩
  show Rn k_P_page 0 [(2, 0), (0, c), (0, w), (0, p), (0, r), (0, l), (0, d)] [] S _
  refine R_lo (nx := 1) rfl rfl rfl rfl ?_
  refine R_lo (nx := 2) rfl rfl rfl rfl ?_
  refine R_lo (nx := 3) rfl rfl rfl rfl ?_
  refine R_lo (nx := 4) rfl rfl rfl rfl ?_
  refine R_lo (nx := 6) rfl rfl rfl rfl ?_
  refine R_lo (nx := 8) rfl rfl rfl rfl ?_
  refine R_lo (nx := 10) rfl rfl rfl rfl ?_
  refine R_op (nx := 11) rfl rfl rfl ?_
  refine R_call1 (nx := 14) (as := [(2, 0), (0, c), (0, w), (0, p), (0, r), (0, l), (0, d), (0, 0)]) (rest := []) rfl rfl (fun _ _ => rfl) rfl rfl rfl rfl rfl rfl rfl rfl (Cl.mono (c_P_ofPage0 S A hRC hV c w p r l d) ?_)
  rintro _ S11 ⟨rfl, g11, f11⟩
  refine ⟨_, rfl, ?_⟩
  refine R_ret rfl (fun _ _ => rfl) rfl rfl ?_
  exact ⟨rfl, g11, f11⟩

set_option maxRecDepth 20000 in
set_option maxHeartbeats 4000000 in
theorem c_P_ofPage1 (S : mm_S) (A : mm_A) (hRC : RC S A) (hV : Vs A) (c w p r l d : Int) : Cl 40 [(2, 0), (0, c), (0, w), (0, p), (0, r), (0, l), (0, d), (0, 1)] S (fun vv S' => vv = some (0, (Q_told A c w p r l d 1).1) ∧ RC S' (Q_told A c w p r l d 1).2 ∧ ∀ b, 71 ≤ b → S' b = S b) := by
  refine ⟨Nat.le_of_ble_eq_true rfl, ?_⟩
  show Rn k_P_ofPage 0 [(2, 0), (0, c), (0, w), (0, p), (0, r), (0, l), (0, d), (0, 1), (9, 0), (9, 0), (9, 0)] [] S _
  refine R_lo (nx := 1) rfl rfl rfl rfl ?_
  refine R_lo (nx := 2) rfl rfl rfl rfl ?_
  refine R_call1 (nx := 5) (as := [(2, 0), (0, c)]) (rest := []) rfl rfl (fun _ _ => rfl) rfl rfl rfl rfl rfl rfl rfl rfl (Cl.mono (c_P_complexAt S c) ?_)
  rintro _ _ (⟨rfl, b2, rfl⟩ | ⟨rfl, b2, rfl⟩)
  ·
    have kb2 := hRC.k b2.1 b2.2
    have vb2 := hV.1 c b2.1 b2.2
    have rb2 := vb2.2.1
    have nb2 := kb2.n
    have zb2 := kb2.nr
    refine ⟨_, rfl, ?_⟩
    refine R_lo (nx := 7) (ls' := [(2, 0), (0, c), (0, w), (0, p), (0, r), (0, l), (0, d), (0, 1), (2, (23 + 10 * c)), (9, 0), (9, 0)]) rfl rfl rfl rfl ?_
    refine R_lo (nx := 9) rfl rfl rfl rfl ?_
    refine R_ifnull (nx := 12) (tg := 54) rfl rfl rfl (fun h => absurd h (by have := (isC_kd (isC_c (i := c) (by omega) (by omega))).1; omega)) (fun h => ?_)
    refine R_lo (nx := 13) rfl rfl rfl rfl ?_
    refine R_call1 (nx := 16) (as := [(0, w)]) (rest := []) rfl rfl (fun _ _ => rfl) rfl rfl rfl rfl rfl rfl rfl rfl (Cl.mono (c_P_isWay S w) ?_)
    rintro _ _ (⟨rfl, b13, rfl⟩ | ⟨rfl, b13, rfl⟩)
    ·
      refine ⟨_, rfl, ?_⟩
      refine R_ifF (nx := 19) rfl rfl rfl ?_
      refine R_lo (nx := 20) rfl rfl rfl rfl ?_
      refine R_call1 (nx := 23) (as := [(0, p)]) (rest := []) rfl rfl (fun _ _ => rfl) rfl rfl rfl rfl rfl rfl rfl rfl (Cl.mono (c_P_isPrime S p) ?_)
      rintro _ _ (⟨rfl, b20, rfl⟩ | ⟨rfl, b20, rfl⟩)
      ·
        refine ⟨_, rfl, ?_⟩
        refine R_ifF (nx := 26) rfl rfl rfl ?_
        refine R_lo (nx := 28) rfl rfl rfl rfl ?_
        refine R_if (nx := 31) (tg := 54) rfl rfl rfl (mm_cnd_lt _ _) (fun c28 => ?_) (fun c28 => ?_)
        ·
          have e28 : ¬ (0 ≤ r ∧ r ≤ 10) := by omega
          refine R_op (nx := 55) rfl rfl rfl ?_
          refine R_ret rfl (fun _ _ => rfl) rfl rfl ?_
          rw [show Q_told A c w p r l d 1 = ((-1), A) from by simp only [Q_told, b2, b13, b20, c28, e28, ifo, ifm, ifp, iffq, ↓reduceIte, ite_self, and_self, and_true, true_and, and_false, false_and, or_true, true_or, or_false, false_or, or_self, not_true_eq_false, not_false_eq_true, ne_eq]]; exact ⟨rfl, hRC, fun b _ => rfl⟩
        ·
          refine R_lo (nx := 33) rfl rfl rfl rfl ?_
          refine R_op (nx := 35) rfl rfl rfl ?_
          refine R_icmp (nx := 38) (tg := 54) rfl rfl rfl (mm_cnd_gt _ _) (fun c35 => ?_) (fun c35 => ?_)
          ·
            have e35 : ¬ (0 ≤ r ∧ r ≤ 10) := by omega
            refine R_op (nx := 55) rfl rfl rfl ?_
            refine R_ret rfl (fun _ _ => rfl) rfl rfl ?_
            rw [show Q_told A c w p r l d 1 = ((-1), A) from by simp only [Q_told, b2, b13, b20, c28, c35, e35, ifo, ifm, ifp, iffq, ↓reduceIte, ite_self, and_self, and_true, true_and, and_false, false_and, or_true, true_or, or_false, false_or, or_self, not_true_eq_false, not_false_eq_true, ne_eq]]; exact ⟨rfl, hRC, fun b _ => rfl⟩
          ·
            have e35 : 0 ≤ r ∧ r ≤ 10 := by omega
            refine R_lo (nx := 40) rfl rfl rfl rfl ?_
            refine R_call1 (nx := 43) (as := [(0, l)]) (rest := []) rfl rfl (fun _ _ => rfl) rfl rfl rfl rfl rfl rfl rfl rfl (Cl.mono (c_P_isLevel S l) ?_)
            rintro _ _ (⟨rfl, b40, rfl⟩ | ⟨rfl, b40, rfl⟩)
            ·
              refine ⟨_, rfl, ?_⟩
              refine R_ifF (nx := 46) rfl rfl rfl ?_
              refine R_lo (nx := 48) rfl rfl rfl rfl ?_
              refine R_call1 (nx := 51) (as := [(0, d)]) (rest := []) rfl rfl (fun _ _ => rfl) rfl rfl rfl rfl rfl rfl rfl rfl (Cl.mono (c_P_isDegree S d) ?_)
              rintro _ _ (⟨rfl, b48, rfl⟩ | ⟨rfl, b48, rfl⟩)
              ·
                refine ⟨_, rfl, ?_⟩
                refine R_ifT (tg := 56) rfl rfl rfl ?_
                refine R_lo (nx := 58) rfl rfl rfl rfl ?_
                refine R_call1 (nx := 61) (as := [(2, (23 + 10 * c))]) (rest := []) rfl rfl (fun _ _ => rfl) rfl rfl rfl rfl rfl rfl (isC_rc (isC_c (i := c) (by omega) (by omega)) _) rfl (Cl.mono (c_C_isBroken S (23 + 10 * c) (isC_c (i := c) (by omega) (by omega)) (AK A c) (by first | assumption | exact MC.up (by assumption) (by omega) | exact MC.up (MC.up (by assumption) (by omega)) (by omega) | exact MC.up (MC.up (MC.up (by assumption) (by omega)) (by omega)) (by omega)) (by assumption)) ?_)
                rintro _ _ (⟨rfl, b58, rfl⟩ | ⟨rfl, b58, rfl⟩)
                ·
                  have e58 : ¬ Xfb (AK A c) = 0 := b58
                  refine ⟨_, rfl, ?_⟩
                  refine R_ifF (nx := 64) rfl rfl rfl ?_
                  refine R_op (nx := 66) rfl rfl rfl ?_
                  refine R_ret rfl (fun _ _ => rfl) rfl rfl ?_
                  rw [show Q_told A c w p r l d 1 = ((-4), A) from by simp only [Q_told, b2, b13, b20, c28, c35, e35, b40, b48, b58, e58, ifo, ifm, ifp, iffq, ↓reduceIte, ite_self, and_self, and_true, true_and, and_false, false_and, or_true, true_or, or_false, false_or, or_self, not_true_eq_false, not_false_eq_true, ne_eq]]; exact ⟨rfl, hRC, fun b _ => rfl⟩
                ·
                  have e58 : Xfb (AK A c) = 0 := Classical.not_not.mp b58
                  refine ⟨_, rfl, ?_⟩
                  refine R_ifT (tg := 67) rfl rfl rfl ?_
                  refine R_lo (nx := 68) rfl rfl rfl rfl ?_
                  refine R_get (nx := 71) (w := (2, 8)) rfl rfl rfl rfl ?_
                  refine R_lo (nx := 73) rfl rfl rfl rfl ?_
                  refine R_lo (nx := 74) rfl rfl rfl rfl ?_
                  refine R_lo (nx := 75) rfl rfl rfl rfl ?_
                  refine R_call0 (nx := 78) (as := [(2, 8), (2, (23 + 10 * c)), (0, w), (0, p)]) (rest := []) rfl rfl (fun _ _ => rfl) rfl rfl rfl rfl rfl rfl rfl rfl (Cl.mono (c_Rd_run S (23 + 10 * c) (isC_c (i := c) (by omega) (by omega)) (AK A c) (by first | assumption | exact MC.up (by assumption) (by omega) | exact MC.up (MC.up (by assumption) (by omega)) (by omega) | exact MC.up (MC.up (MC.up (by assumption) (by omega)) (by omega)) (by omega)) w p (by assumption) (by first | assumption | exact Or.inl rfl) (by assumption)) ?_)
                  rintro _ S75 ⟨rfl, x75, l75, o75, ⟨t75, u75, v75⟩, f75⟩
                  have mmS75 : MC S75 (23 + 10 * c) (AK A c) := MC.fr (by first | assumption | exact MC.up (by assumption) (by omega) | exact MC.up (MC.up (by assumption) (by omega)) (by omega) | exact MC.up (MC.up (MC.up (by assumption) (by omega)) (by omega)) (by omega)) fun c q r => f75 c (by omega)
                  refine ⟨rfl, ?_⟩
                  refine R_op (nx := 79) rfl rfl rfl ?_
                  refine R_lo (nx := 81) (ls' := [(2, 0), (0, c), (0, w), (0, p), (0, r), (0, l), (0, d), (0, 1), (2, (23 + 10 * c)), (0, 0), (9, 0)]) rfl rfl rfl rfl ?_
                  refine R_op (nx := 82) rfl rfl rfl ?_
                  refine R_lo (nx := 84) (ls' := [(2, 0), (0, c), (0, w), (0, p), (0, r), (0, l), (0, d), (0, 1), (2, (23 + 10 * c)), (0, 0), (0, 0)]) rfl rfl rfl rfl ?_
                  have L84 : ∀ (f84 : Nat) (acc : Int) (i : Int), ((Xn (AK A c)) - i).toNat < f84 → (0 ≤ i ∧ i ≤ (Xn (AK A c))) → (0 ≤ acc ∧ acc ≤ i) → (acc = sm (tcF (AK A c) w p r l d 1) i) → Rn k_P_ofPage 84 [(2, 0), (0, c), (0, w), (0, p), (0, r), (0, l), (0, d), (0, 1), (2, (23 + 10 * c)), (0, acc), (0, i)] [] S75 (fun vv S' => vv = some (0, (Q_told A c w p r l d 1).1) ∧ RC S' (Q_told A c w p r l d 1).2 ∧ ∀ b, 71 ≤ b → S' b = S b) := by
                    intro f84
                    induction f84 with
                    | zero => intro acc i hm84; exact absurd hm84 (Nat.not_lt_zero _)
                    | succ f84 ih84 =>
                      intro acc i hm84 hi hb hq
                      have nn := mmS75.n
                      refine R_lo (nx := 86) rfl rfl rfl rfl ?_
                      refine R_lo (nx := 88) rfl rfl rfl rfl ?_
                      refine R_get (nx := 91) (w := (0, (S75 (23 + 10 * c) 0))) rfl rfl (isC_ob (isC_c (i := c) (by omega) (by omega))) rfl ?_
                      rw [nn]
                      refine R_icmp (nx := 94) (tg := 171) rfl rfl rfl (mm_cnd_ge _ _) (fun c91 => ?_) (fun c91 => ?_)
                      ·
                        have hfin : sm (tcF (AK A c) w p r l d 1) (Xn (AK A c)) = acc := by rw [hq, show (Xn (AK A c)) = i by omega]
                        refine R_lo (nx := 173) rfl rfl rfl rfl ?_
                        refine R_ret rfl (fun _ _ => rfl) rfl rfl ?_
                        rw [show Q_told A c w p r l d 1 = (acc, A) from by simp only [Q_told, hfin, b2, b13, b20, c28, c35, e35, b40, b48, b58, e58, c91, ifo, ifm, ifp, iffq, ↓reduceIte, ite_self, and_self, and_true, true_and, and_false, false_and, or_true, true_or, or_false, false_or, or_self, not_true_eq_false, not_false_eq_true, ne_eq]]; exact ⟨rfl, hRC.fr fun b hb => f75 b (by omega), fun b hb => f75 b (by omega)⟩
                      ·
                        refine R_lo (nx := 96) rfl rfl rfl rfl ?_
                        refine R_lo (nx := 97) rfl rfl rfl rfl ?_
                        refine R_lo (nx := 99) rfl rfl rfl rfl ?_
                        refine R_call1 (nx := 102) (as := [(2, (23 + 10 * c)), (0, w), (0, i)]) (rest := []) rfl rfl (fun _ _ => rfl) rfl rfl rfl rfl rfl rfl (isC_rc (isC_c (i := c) (by omega) (by omega)) _) rfl (Cl.mono (c_C_level S75 (23 + 10 * c) (isC_c (i := c) (by omega) (by omega)) (AK A c) (by first | assumption | exact MC.up (by assumption) (by omega) | exact MC.up (MC.up (by assumption) (by omega)) (by omega) | exact MC.up (MC.up (MC.up (by assumption) (by omega)) (by omega)) (by omega)) w i) ?_)
                        rintro _ _ ⟨rfl, rfl⟩
                        refine ⟨_, rfl, ?_⟩
                        refine R_lo (nx := 104) rfl rfl rfl rfl ?_
                        refine R_icmp (nx := 107) (tg := 165) rfl rfl rfl (mm_cnd_ne _ _) (fun c104 => ?_) (fun c104 => ?_)
                        ·
                          refine R_iinc (nx := 168) (z := (i + 1)) (ls' := [(2, 0), (0, c), (0, w), (0, p), (0, r), (0, l), (0, d), (0, 1), (2, (23 + 10 * c)), (0, acc), (0, (i + 1))]) rfl rfl rfl rfl ⟨by omega, by omega⟩ rfl ?_
                          refine R_op (nx := 171) (pc' := 84) rfl rfl rfl ?_
                          refine Rn.weak (ls' := [(2, 0), (0, c), (0, w), (0, p), (0, r), (0, l), (0, d), (0, 1), (2, (23 + 10 * c)), (0, acc), (0, (i + 1))]) ⟨Or.inl rfl, ⟨Or.inl rfl, ⟨Or.inl rfl, ⟨Or.inl rfl, ⟨Or.inl rfl, ⟨Or.inl rfl, ⟨Or.inl rfl, ⟨Or.inl rfl, ⟨Or.inl rfl, ⟨Or.inl rfl, ⟨Or.inl rfl, trivial⟩⟩⟩⟩⟩⟩⟩⟩⟩⟩⟩ ?_
                          refine ih84 (acc) ((i + 1)) ?_ ?_ ?_ ?_
                          · omega
                          · omega
                          · omega
                          · rw [sm_s _ hi.1, ← hq]
                            first | rw [tcF_1 (by omega)] | rw [tcF_1n (by omega), Int.add_zero]
                        ·
                          replace c104 := Classical.not_not.mp c104
                          refine R_lo (nx := 109) rfl rfl rfl rfl ?_
                          refine R_lo (nx := 111) rfl rfl rfl rfl ?_
                          refine R_call1 (nx := 114) (as := [(2, (23 + 10 * c)), (0, i)]) (rest := []) rfl rfl (fun _ _ => rfl) rfl rfl rfl rfl rfl rfl (isC_rc (isC_c (i := c) (by omega) (by omega)) _) rfl (Cl.mono (c_C_degree S75 (23 + 10 * c) (isC_c (i := c) (by omega) (by omega)) (AK A c) (by first | assumption | exact MC.up (by assumption) (by omega) | exact MC.up (MC.up (by assumption) (by omega)) (by omega) | exact MC.up (MC.up (MC.up (by assumption) (by omega)) (by omega)) (by omega)) i) ?_)
                          rintro _ _ ⟨rfl, rfl⟩
                          refine ⟨_, rfl, ?_⟩
                          refine R_lo (nx := 116) rfl rfl rfl rfl ?_
                          refine R_icmp (nx := 119) (tg := 165) rfl rfl rfl (mm_cnd_ne _ _) (fun c116 => ?_) (fun c116 => ?_)
                          ·
                            refine R_iinc (nx := 168) (z := (i + 1)) (ls' := [(2, 0), (0, c), (0, w), (0, p), (0, r), (0, l), (0, d), (0, 1), (2, (23 + 10 * c)), (0, acc), (0, (i + 1))]) rfl rfl rfl rfl ⟨by omega, by omega⟩ rfl ?_
                            refine R_op (nx := 171) (pc' := 84) rfl rfl rfl ?_
                            refine Rn.weak (ls' := [(2, 0), (0, c), (0, w), (0, p), (0, r), (0, l), (0, d), (0, 1), (2, (23 + 10 * c)), (0, acc), (0, (i + 1))]) ⟨Or.inl rfl, ⟨Or.inl rfl, ⟨Or.inl rfl, ⟨Or.inl rfl, ⟨Or.inl rfl, ⟨Or.inl rfl, ⟨Or.inl rfl, ⟨Or.inl rfl, ⟨Or.inl rfl, ⟨Or.inl rfl, ⟨Or.inl rfl, trivial⟩⟩⟩⟩⟩⟩⟩⟩⟩⟩⟩ ?_
                            refine ih84 (acc) ((i + 1)) ?_ ?_ ?_ ?_
                            · omega
                            · omega
                            · omega
                            · rw [sm_s _ hi.1, ← hq]
                              first | rw [tcF_1 (by omega)] | rw [tcF_1n (by omega), Int.add_zero]
                          ·
                            replace c116 := Classical.not_not.mp c116
                            refine R_lo (nx := 121) rfl rfl rfl rfl ?_
                            refine R_lo (nx := 123) rfl rfl rfl rfl ?_
                            refine R_ifF (nx := 126) rfl rfl rfl ?_
                            refine R_lo (nx := 127) rfl rfl rfl rfl ?_
                            refine R_get (nx := 130) (w := (2, 8)) rfl rfl rfl rfl ?_
                            refine R_lo (nx := 132) rfl rfl rfl rfl ?_
                            refine R_lo (nx := 134) rfl rfl rfl rfl ?_
                            refine R_call1 (nx := 137) (as := [(2, 8), (0, i), (0, r)]) (rest := [(0, acc)]) rfl rfl (fun _ _ => rfl) rfl rfl rfl rfl rfl rfl rfl rfl (Cl.mono (c_Rd_turnsAt S75 (23 + 10 * c) (isC_c (i := c) (by omega) (by omega)) (AK A c) (by first | assumption | exact MC.up (by assumption) (by omega) | exact MC.up (MC.up (by assumption) (by omega)) (by omega) | exact MC.up (MC.up (MC.up (by assumption) (by omega)) (by omega)) (by omega)) w p (by assumption) (by first | assumption | exact Or.inl rfl) (by assumption) (by assumption) (by assumption) (by assumption) (by assumption) (by assumption) (by assumption) i (by omega) r) ?_)
                            rintro _ _ (⟨rfl, b134, rfl⟩ | ⟨rfl, b134, rfl⟩)
                            ·
                              refine ⟨_, rfl, ?_⟩
                              refine R_ifF (nx := 140) rfl rfl rfl ?_
                              refine R_op (nx := 143) (pc' := 157) rfl rfl rfl ?_
                              refine R_op (nx := 158) rfl rfl rfl ?_
                              refine R_op (nx := 161) (pc' := 162) rfl rfl rfl ?_
                              refine R_iadd (nx := 163) (z := (acc + 1)) rfl rfl rfl ⟨by omega, by omega⟩ ?_
                              refine R_lo (nx := 165) (ls' := [(2, 0), (0, c), (0, w), (0, p), (0, r), (0, l), (0, d), (0, 1), (2, (23 + 10 * c)), (0, (acc + 1)), (0, i)]) rfl rfl rfl rfl ?_
                              refine R_iinc (nx := 168) (z := (i + 1)) (ls' := [(2, 0), (0, c), (0, w), (0, p), (0, r), (0, l), (0, d), (0, 1), (2, (23 + 10 * c)), (0, (acc + 1)), (0, (i + 1))]) rfl rfl rfl rfl ⟨by omega, by omega⟩ rfl ?_
                              refine R_op (nx := 171) (pc' := 84) rfl rfl rfl ?_
                              refine Rn.weak (ls' := [(2, 0), (0, c), (0, w), (0, p), (0, r), (0, l), (0, d), (0, 1), (2, (23 + 10 * c)), (0, (acc + 1)), (0, (i + 1))]) ⟨Or.inl rfl, ⟨Or.inl rfl, ⟨Or.inl rfl, ⟨Or.inl rfl, ⟨Or.inl rfl, ⟨Or.inl rfl, ⟨Or.inl rfl, ⟨Or.inl rfl, ⟨Or.inl rfl, ⟨Or.inl rfl, ⟨Or.inl rfl, trivial⟩⟩⟩⟩⟩⟩⟩⟩⟩⟩⟩ ?_
                              refine ih84 ((acc + 1)) ((i + 1)) ?_ ?_ ?_ ?_
                              · omega
                              · omega
                              · omega
                              · rw [sm_s _ hi.1, ← hq]
                                first | rw [tcF_1 (by omega)] | rw [tcF_1n (by omega), Int.add_zero]
                            ·
                              refine ⟨_, rfl, ?_⟩
                              refine R_ifT (tg := 161) rfl rfl rfl ?_
                              refine R_op (nx := 162) rfl rfl rfl ?_
                              refine R_iadd (nx := 163) (z := (acc + 0)) rfl rfl rfl ⟨by omega, by omega⟩ ?_
                              refine R_lo (nx := 165) (ls' := [(2, 0), (0, c), (0, w), (0, p), (0, r), (0, l), (0, d), (0, 1), (2, (23 + 10 * c)), (0, (acc + 0)), (0, i)]) rfl rfl rfl rfl ?_
                              refine R_iinc (nx := 168) (z := (i + 1)) (ls' := [(2, 0), (0, c), (0, w), (0, p), (0, r), (0, l), (0, d), (0, 1), (2, (23 + 10 * c)), (0, (acc + 0)), (0, (i + 1))]) rfl rfl rfl rfl ⟨by omega, by omega⟩ rfl ?_
                              refine R_op (nx := 171) (pc' := 84) rfl rfl rfl ?_
                              refine Rn.weak (ls' := [(2, 0), (0, c), (0, w), (0, p), (0, r), (0, l), (0, d), (0, 1), (2, (23 + 10 * c)), (0, (acc + 0)), (0, (i + 1))]) ⟨Or.inl rfl, ⟨Or.inl rfl, ⟨Or.inl rfl, ⟨Or.inl rfl, ⟨Or.inl rfl, ⟨Or.inl rfl, ⟨Or.inl rfl, ⟨Or.inl rfl, ⟨Or.inl rfl, ⟨Or.inl rfl, ⟨Or.inl rfl, trivial⟩⟩⟩⟩⟩⟩⟩⟩⟩⟩⟩ ?_
                              refine ih84 ((acc + 0)) ((i + 1)) ?_ ?_ ?_ ?_
                              · omega
                              · omega
                              · omega
                              · rw [sm_s _ hi.1, ← hq]
                                first | rw [tcF_1 (by omega)] | rw [tcF_1n (by omega), Int.add_zero]
                  refine Rn.weak (ls' := [(2, 0), (0, c), (0, w), (0, p), (0, r), (0, l), (0, d), (0, 1), (2, (23 + 10 * c)), (0, 0), (0, 0)]) ⟨Or.inl rfl, ⟨Or.inl rfl, ⟨Or.inl rfl, ⟨Or.inl rfl, ⟨Or.inl rfl, ⟨Or.inl rfl, ⟨Or.inl rfl, ⟨Or.inl rfl, ⟨Or.inl rfl, ⟨Or.inl rfl, ⟨Or.inl rfl, trivial⟩⟩⟩⟩⟩⟩⟩⟩⟩⟩⟩ ?_
                  refine L84 (((Xn (AK A c)) - (0)).toNat + 1) (0) (0) (Nat.lt_succ_self _) ?_ ?_ ?_
                  · omega
                  · omega
                  · rfl
              ·
                refine ⟨_, rfl, ?_⟩
                refine R_ifF (nx := 54) rfl rfl rfl ?_
                refine R_op (nx := 55) rfl rfl rfl ?_
                refine R_ret rfl (fun _ _ => rfl) rfl rfl ?_
                rw [show Q_told A c w p r l d 1 = ((-1), A) from by simp only [Q_told, b2, b13, b20, c28, c35, e35, b40, b48, ifo, ifm, ifp, iffq, ↓reduceIte, ite_self, and_self, and_true, true_and, and_false, false_and, or_true, true_or, or_false, false_or, or_self, not_true_eq_false, not_false_eq_true, ne_eq]]; exact ⟨rfl, hRC, fun b _ => rfl⟩
            ·
              refine ⟨_, rfl, ?_⟩
              refine R_ifT (tg := 54) rfl rfl rfl ?_
              refine R_op (nx := 55) rfl rfl rfl ?_
              refine R_ret rfl (fun _ _ => rfl) rfl rfl ?_
              rw [show Q_told A c w p r l d 1 = ((-1), A) from by simp only [Q_told, b2, b13, b20, c28, c35, e35, b40, ifo, ifm, ifp, iffq, ↓reduceIte, ite_self, and_self, and_true, true_and, and_false, false_and, or_true, true_or, or_false, false_or, or_self, not_true_eq_false, not_false_eq_true, ne_eq]]; exact ⟨rfl, hRC, fun b _ => rfl⟩
      ·
        refine ⟨_, rfl, ?_⟩
        refine R_ifT (tg := 54) rfl rfl rfl ?_
        refine R_op (nx := 55) rfl rfl rfl ?_
        refine R_ret rfl (fun _ _ => rfl) rfl rfl ?_
        rw [show Q_told A c w p r l d 1 = ((-1), A) from by simp only [Q_told, b2, b13, b20, ifo, ifm, ifp, iffq, ↓reduceIte, ite_self, and_self, and_true, true_and, and_false, false_and, or_true, true_or, or_false, false_or, or_self, not_true_eq_false, not_false_eq_true, ne_eq]]; exact ⟨rfl, hRC, fun b _ => rfl⟩
    ·
      refine ⟨_, rfl, ?_⟩
      refine R_ifT (tg := 54) rfl rfl rfl ?_
      refine R_op (nx := 55) rfl rfl rfl ?_
      refine R_ret rfl (fun _ _ => rfl) rfl rfl ?_
      rw [show Q_told A c w p r l d 1 = ((-1), A) from by simp only [Q_told, b2, b13, ifo, ifm, ifp, iffq, ↓reduceIte, ite_self, and_self, and_true, true_and, and_false, false_and, or_true, true_or, or_false, false_or, or_self, not_true_eq_false, not_false_eq_true, ne_eq]]; exact ⟨rfl, hRC, fun b _ => rfl⟩
  ·
    refine ⟨_, rfl, ?_⟩
    refine R_lo (nx := 7) (ls' := [(2, 0), (0, c), (0, w), (0, p), (0, r), (0, l), (0, d), (0, 1), (2, (-1)), (9, 0), (9, 0)]) rfl rfl rfl rfl ?_
    refine R_lo (nx := 9) rfl rfl rfl rfl ?_
    refine R_ifnull (nx := 12) (tg := 54) rfl rfl rfl (fun h => ?_) (fun h => absurd (by decide) h)
    refine R_op (nx := 55) rfl rfl rfl ?_
    refine R_ret rfl (fun _ _ => rfl) rfl rfl ?_
    rw [show Q_told A c w p r l d 1 = ((-1), A) from by simp only [Q_told, b2, ifo, ifm, ifp, iffq, ↓reduceIte, ite_self, and_self, and_true, true_and, and_false, false_and, or_true, true_or, or_false, false_or, or_self, not_true_eq_false, not_false_eq_true, ne_eq]]; exact ⟨rfl, hRC, fun b _ => rfl⟩

set_option maxRecDepth 20000 in
set_option maxHeartbeats 4000000 in
theorem c_P_turns (S : mm_S) (A : mm_A) (hRC : RC S A) (hV : Vs A) (c w p r l d : Int) : Cl 12 [(2, 0), (0, c), (0, w), (0, p), (0, r), (0, l), (0, d)] S (fun vv S' => vv = some (0, (Q_told A c w p r l d 1).1) ∧ RC S' (Q_told A c w p r l d 1).2 ∧ ∀ b, 71 ≤ b → S' b = S b) := by
  refine ⟨Nat.le_of_ble_eq_true rfl, ?_⟩
  show Rn k_P_turns 0 [(2, 0), (0, c), (0, w), (0, p), (0, r), (0, l), (0, d)] [] S _
  refine R_lo (nx := 1) rfl rfl rfl rfl ?_
  refine R_lo (nx := 2) rfl rfl rfl rfl ?_
  refine R_lo (nx := 3) rfl rfl rfl rfl ?_
  refine R_lo (nx := 4) rfl rfl rfl rfl ?_
  refine R_lo (nx := 6) rfl rfl rfl rfl ?_
  refine R_lo (nx := 8) rfl rfl rfl rfl ?_
  refine R_lo (nx := 10) rfl rfl rfl rfl ?_
  refine R_op (nx := 11) rfl rfl rfl ?_
  refine R_call1 (nx := 14) (as := [(2, 0), (0, c), (0, w), (0, p), (0, r), (0, l), (0, d), (0, 1)]) (rest := []) rfl rfl (fun _ _ => rfl) rfl rfl rfl rfl rfl rfl rfl rfl (Cl.mono (c_P_ofPage1 S A hRC hV c w p r l d) ?_)
  rintro _ S11 ⟨rfl, g11, f11⟩
  refine ⟨_, rfl, ?_⟩
  refine R_ret rfl (fun _ _ => rfl) rfl rfl ?_
  exact ⟨rfl, g11, f11⟩

set_option maxRecDepth 20000 in
set_option maxHeartbeats 4000000 in
theorem c_P_stands (S : mm_S) (A : mm_A) (hRC : RC S A) (hV : Vs A) (c w p : Int) : Cl 13 [(2, 0), (0, c), (0, w), (0, p)] S (fun vv S' => vv = some (0, (Q_stands A c w p).1) ∧ RC S' (Q_stands A c w p).2 ∧ ∀ b, 71 ≤ b → S' b = S b) := by
  refine ⟨Nat.le_of_ble_eq_true rfl, ?_⟩
  show Rn k_P_stands 0 [(2, 0), (0, c), (0, w), (0, p), (9, 0), (9, 0), (9, 0)] [] S _
  refine R_lo (nx := 1) rfl rfl rfl rfl ?_
  refine R_lo (nx := 2) rfl rfl rfl rfl ?_
  refine R_call1 (nx := 5) (as := [(2, 0), (0, c)]) (rest := []) rfl rfl (fun _ _ => rfl) rfl rfl rfl rfl rfl rfl rfl rfl (Cl.mono (c_P_complexAt S c) ?_)
  rintro _ _ (⟨rfl, b2, rfl⟩ | ⟨rfl, b2, rfl⟩)
  ·
    have kb2 := hRC.k b2.1 b2.2
    have vb2 := hV.1 c b2.1 b2.2
    have rb2 := vb2.2.1
    have nb2 := kb2.n
    have zb2 := kb2.nr
    refine ⟨_, rfl, ?_⟩
    refine R_lo (nx := 7) (ls' := [(2, 0), (0, c), (0, w), (0, p), (2, (23 + 10 * c)), (9, 0), (9, 0)]) rfl rfl rfl rfl ?_
    refine R_lo (nx := 9) rfl rfl rfl rfl ?_
    refine R_ifnull (nx := 12) (tg := 26) rfl rfl rfl (fun h => absurd h (by have := (isC_kd (isC_c (i := c) (by omega) (by omega))).1; omega)) (fun h => ?_)
    refine R_lo (nx := 13) rfl rfl rfl rfl ?_
    refine R_call1 (nx := 16) (as := [(0, w)]) (rest := []) rfl rfl (fun _ _ => rfl) rfl rfl rfl rfl rfl rfl rfl rfl (Cl.mono (c_P_isWay S w) ?_)
    rintro _ _ (⟨rfl, b13, rfl⟩ | ⟨rfl, b13, rfl⟩)
    ·
      refine ⟨_, rfl, ?_⟩
      refine R_ifF (nx := 19) rfl rfl rfl ?_
      refine R_lo (nx := 20) rfl rfl rfl rfl ?_
      refine R_call1 (nx := 23) (as := [(0, p)]) (rest := []) rfl rfl (fun _ _ => rfl) rfl rfl rfl rfl rfl rfl rfl rfl (Cl.mono (c_P_isPrime S p) ?_)
      rintro _ _ (⟨rfl, b20, rfl⟩ | ⟨rfl, b20, rfl⟩)
      ·
        refine ⟨_, rfl, ?_⟩
        refine R_ifT (tg := 28) rfl rfl rfl ?_
        refine R_lo (nx := 30) rfl rfl rfl rfl ?_
        refine R_call1 (nx := 33) (as := [(2, (23 + 10 * c))]) (rest := []) rfl rfl (fun _ _ => rfl) rfl rfl rfl rfl rfl rfl (isC_rc (isC_c (i := c) (by omega) (by omega)) _) rfl (Cl.mono (c_C_isBroken S (23 + 10 * c) (isC_c (i := c) (by omega) (by omega)) (AK A c) (by first | assumption | exact MC.up (by assumption) (by omega) | exact MC.up (MC.up (by assumption) (by omega)) (by omega) | exact MC.up (MC.up (MC.up (by assumption) (by omega)) (by omega)) (by omega)) (by assumption)) ?_)
        rintro _ _ (⟨rfl, b30, rfl⟩ | ⟨rfl, b30, rfl⟩)
        ·
          have e30 : ¬ Xfb (AK A c) = 0 := b30
          refine ⟨_, rfl, ?_⟩
          refine R_ifF (nx := 36) rfl rfl rfl ?_
          refine R_op (nx := 38) rfl rfl rfl ?_
          refine R_ret rfl (fun _ _ => rfl) rfl rfl ?_
          rw [show Q_stands A c w p = ((-4), A) from by simp only [Q_stands, b2, b13, b20, b30, e30, ifo, ifm, ifp, iffq, ↓reduceIte, ite_self, and_self, and_true, true_and, and_false, false_and, or_true, true_or, or_false, false_or, or_self, not_true_eq_false, not_false_eq_true, ne_eq]]; exact ⟨rfl, hRC, fun b _ => rfl⟩
        ·
          have e30 : Xfb (AK A c) = 0 := Classical.not_not.mp b30
          refine ⟨_, rfl, ?_⟩
          refine R_ifT (tg := 39) rfl rfl rfl ?_
          refine R_lo (nx := 40) rfl rfl rfl rfl ?_
          refine R_get (nx := 43) (w := (2, 8)) rfl rfl rfl rfl ?_
          refine R_lo (nx := 45) rfl rfl rfl rfl ?_
          refine R_lo (nx := 46) rfl rfl rfl rfl ?_
          refine R_lo (nx := 47) rfl rfl rfl rfl ?_
          refine R_call0 (nx := 50) (as := [(2, 8), (2, (23 + 10 * c)), (0, w), (0, p)]) (rest := []) rfl rfl (fun _ _ => rfl) rfl rfl rfl rfl rfl rfl rfl rfl (Cl.mono (c_Rd_run S (23 + 10 * c) (isC_c (i := c) (by omega) (by omega)) (AK A c) (by first | assumption | exact MC.up (by assumption) (by omega) | exact MC.up (MC.up (by assumption) (by omega)) (by omega) | exact MC.up (MC.up (MC.up (by assumption) (by omega)) (by omega)) (by omega)) w p (by assumption) (by first | assumption | exact Or.inl rfl) (by assumption)) ?_)
          rintro _ S47 ⟨rfl, x47, l47, o47, ⟨t47, u47, v47⟩, f47⟩
          have mmS47 : MC S47 (23 + 10 * c) (AK A c) := MC.fr (by first | assumption | exact MC.up (by assumption) (by omega) | exact MC.up (MC.up (by assumption) (by omega)) (by omega) | exact MC.up (MC.up (MC.up (by assumption) (by omega)) (by omega)) (by omega)) fun c q r => f47 c (by omega)
          refine ⟨rfl, ?_⟩
          refine R_op (nx := 51) rfl rfl rfl ?_
          refine R_lo (nx := 53) (ls' := [(2, 0), (0, c), (0, w), (0, p), (2, (23 + 10 * c)), (0, 0), (9, 0)]) rfl rfl rfl rfl ?_
          refine R_op (nx := 54) rfl rfl rfl ?_
          refine R_lo (nx := 56) (ls' := [(2, 0), (0, c), (0, w), (0, p), (2, (23 + 10 * c)), (0, 0), (0, 0)]) rfl rfl rfl rfl ?_
          have L56 : ∀ (f56 : Nat) (acc : Int) (i : Int), ((Xn (AK A c)) - i).toNat < f56 → (0 ≤ i ∧ i ≤ (Xn (AK A c))) → (0 ≤ acc ∧ acc ≤ 10) → (acc = mx (sndF (AK A c) w p) i) → Rn k_P_stands 56 [(2, 0), (0, c), (0, w), (0, p), (2, (23 + 10 * c)), (0, acc), (0, i)] [] S47 (fun vv S' => vv = some (0, (Q_stands A c w p).1) ∧ RC S' (Q_stands A c w p).2 ∧ ∀ b, 71 ≤ b → S' b = S b) := by
            intro f56
            induction f56 with
            | zero => intro acc i hm56; exact absurd hm56 (Nat.not_lt_zero _)
            | succ f56 ih56 =>
              intro acc i hm56 hi hb hq
              have nn := mmS47.n
              have hgr := gapF_r rb2 w p i b13
              have q7 := cl3_3 (z := Fw (AK A c) w p i) (by have := Fw_r b20 vb2 b13 i; omega)
              refine R_lo (nx := 58) rfl rfl rfl rfl ?_
              refine R_lo (nx := 60) rfl rfl rfl rfl ?_
              refine R_get (nx := 63) (w := (0, (S47 (23 + 10 * c) 0))) rfl rfl (isC_ob (isC_c (i := c) (by omega) (by omega))) rfl ?_
              rw [nn]
              refine R_icmp (nx := 66) (tg := 104) rfl rfl rfl (mm_cnd_ge _ _) (fun c63 => ?_) (fun c63 => ?_)
              ·
                have hfin : mx (sndF (AK A c) w p) (Xn (AK A c)) = acc := by rw [hq, show (Xn (AK A c)) = i by omega]
                refine R_lo (nx := 106) rfl rfl rfl rfl ?_
                refine R_ret rfl (fun _ _ => rfl) rfl rfl ?_
                rw [show Q_stands A c w p = (acc, A) from by simp only [Q_stands, hfin, b2, b13, b20, b30, e30, c63, ifo, ifm, ifp, iffq, ↓reduceIte, ite_self, and_self, and_true, true_and, and_false, false_and, or_true, true_or, or_false, false_or, or_self, not_true_eq_false, not_false_eq_true, ne_eq]]; exact ⟨rfl, hRC.fr fun b hb => f47 b (by omega), fun b hb => f47 b (by omega)⟩
              ·
                refine R_lo (nx := 67) rfl rfl rfl rfl ?_
                refine R_get (nx := 70) (w := (2, 8)) rfl rfl rfl rfl ?_
                refine R_lo (nx := 72) rfl rfl rfl rfl ?_
                refine R_call1 (nx := 75) (as := [(2, 8), (0, i)]) (rest := []) rfl rfl (fun _ _ => rfl) rfl rfl rfl rfl rfl rfl rfl rfl (Cl.mono (c_Rd_partner S47 (23 + 10 * c) (isC_c (i := c) (by omega) (by omega)) (AK A c) (by first | assumption | exact MC.up (by assumption) (by omega) | exact MC.up (MC.up (by assumption) (by omega)) (by omega) | exact MC.up (MC.up (MC.up (by assumption) (by omega)) (by omega)) (by omega)) w p (by assumption) (by first | assumption | exact Or.inl rfl) (by assumption) (by assumption) (by assumption) (by assumption) (by assumption) (by assumption) (by assumption) i (by omega) ) ?_)
                rintro _ _ ⟨rfl, rfl⟩
                refine ⟨_, rfl, ?_⟩
                refine R_op (nx := 77) rfl rfl rfl ?_
                refine R_icmp (nx := 80) (tg := 98) rfl rfl rfl (mm_cnd_eq _ _) (fun c77 => ?_) (fun c77 => ?_)
                ·
                  have e77 : Fw (AK A c) w p i = -1 := q7.mp c77
                  refine R_iinc (nx := 101) (z := (i + 1)) (ls' := [(2, 0), (0, c), (0, w), (0, p), (2, (23 + 10 * c)), (0, acc), (0, (i + 1))]) rfl rfl rfl rfl ⟨by omega, by omega⟩ rfl ?_
                  refine R_op (nx := 104) (pc' := 56) rfl rfl rfl ?_
                  refine Rn.weak (ls' := [(2, 0), (0, c), (0, w), (0, p), (2, (23 + 10 * c)), (0, acc), (0, (i + 1))]) ⟨Or.inl rfl, ⟨Or.inl rfl, ⟨Or.inl rfl, ⟨Or.inl rfl, ⟨Or.inl rfl, ⟨Or.inl rfl, ⟨Or.inl rfl, trivial⟩⟩⟩⟩⟩⟩⟩ ?_
                  refine ih56 (acc) ((i + 1)) ?_ ?_ ?_ ?_
                  · omega
                  · omega
                  · omega
                  · rw [mx_s _ hi.1, ← hq]
                    first | (rw [show sndF (AK A c) w p i = 0 from if_pos e77]; omega) | rw [show sndF (AK A c) w p i = gapF (AK A c) w p i + 1 from if_neg e77]
                ·
                  have e77 : Fw (AK A c) w p i ≠ -1 := fun z => c77 (q7.mpr z)
                  refine R_lo (nx := 82) rfl rfl rfl rfl ?_
                  refine R_lo (nx := 83) rfl rfl rfl rfl ?_
                  refine R_get (nx := 86) (w := (2, 8)) rfl rfl rfl rfl ?_
                  refine R_lo (nx := 88) rfl rfl rfl rfl ?_
                  refine R_call1 (nx := 91) (as := [(2, 8), (0, i)]) (rest := [(0, acc)]) rfl rfl (fun _ _ => rfl) rfl rfl rfl rfl rfl rfl rfl rfl (Cl.mono (c_Rd_gap S47 (23 + 10 * c) (isC_c (i := c) (by omega) (by omega)) (AK A c) (by first | assumption | exact MC.up (by assumption) (by omega) | exact MC.up (MC.up (by assumption) (by omega)) (by omega) | exact MC.up (MC.up (MC.up (by assumption) (by omega)) (by omega)) (by omega)) w p (by assumption) (by first | assumption | exact Or.inl rfl) (by assumption) (by assumption) (by assumption) (by assumption) (by assumption) (by assumption) (by assumption) i (by omega) (by first | assumption | omega | exact Fw_nl (by assumption))) ?_)
                  rintro _ _ ⟨rfl, rfl⟩
                  refine ⟨_, rfl, ?_⟩
                  refine R_op (nx := 92) rfl rfl rfl ?_
                  refine R_iadd (nx := 93) (z := ((gapF (AK A c) w p i) + 1)) rfl rfl rfl ⟨by omega, by omega⟩ ?_
                  refine R_call1 (nx := 96) (as := [(0, acc), (0, ((gapF (AK A c) w p i) + 1))]) (rest := []) rfl rfl (fun _ _ => rfl) rfl rfl rfl rfl rfl rfl rfl rfl (Cl.mono (c_Ma_max S47 acc ((gapF (AK A c) w p i) + 1)) ?_)
                  rintro _ _ ⟨rfl, rfl⟩
                  refine ⟨_, rfl, ?_⟩
                  refine R_lo (nx := 98) (ls' := [(2, 0), (0, c), (0, w), (0, p), (2, (23 + 10 * c)), (0, (max acc ((gapF (AK A c) w p i) + 1))), (0, i)]) rfl rfl rfl rfl ?_
                  refine R_iinc (nx := 101) (z := (i + 1)) (ls' := [(2, 0), (0, c), (0, w), (0, p), (2, (23 + 10 * c)), (0, (max acc ((gapF (AK A c) w p i) + 1))), (0, (i + 1))]) rfl rfl rfl rfl ⟨by omega, by omega⟩ rfl ?_
                  refine R_op (nx := 104) (pc' := 56) rfl rfl rfl ?_
                  refine Rn.weak (ls' := [(2, 0), (0, c), (0, w), (0, p), (2, (23 + 10 * c)), (0, (max acc ((gapF (AK A c) w p i) + 1))), (0, (i + 1))]) ⟨Or.inl rfl, ⟨Or.inl rfl, ⟨Or.inl rfl, ⟨Or.inl rfl, ⟨Or.inl rfl, ⟨Or.inl rfl, ⟨Or.inl rfl, trivial⟩⟩⟩⟩⟩⟩⟩ ?_
                  refine ih56 ((max acc ((gapF (AK A c) w p i) + 1))) ((i + 1)) ?_ ?_ ?_ ?_
                  · omega
                  · omega
                  · omega
                  · rw [mx_s _ hi.1, ← hq]
                    first | (rw [show sndF (AK A c) w p i = 0 from if_pos e77]; omega) | rw [show sndF (AK A c) w p i = gapF (AK A c) w p i + 1 from if_neg e77]
          refine Rn.weak (ls' := [(2, 0), (0, c), (0, w), (0, p), (2, (23 + 10 * c)), (0, 0), (0, 0)]) ⟨Or.inl rfl, ⟨Or.inl rfl, ⟨Or.inl rfl, ⟨Or.inl rfl, ⟨Or.inl rfl, ⟨Or.inl rfl, ⟨Or.inl rfl, trivial⟩⟩⟩⟩⟩⟩⟩ ?_
          refine L56 (((Xn (AK A c)) - (0)).toNat + 1) (0) (0) (Nat.lt_succ_self _) ?_ ?_ ?_
          · omega
          · omega
          · rfl
      ·
        refine ⟨_, rfl, ?_⟩
        refine R_ifF (nx := 26) rfl rfl rfl ?_
        refine R_op (nx := 27) rfl rfl rfl ?_
        refine R_ret rfl (fun _ _ => rfl) rfl rfl ?_
        rw [show Q_stands A c w p = ((-1), A) from by simp only [Q_stands, b2, b13, b20, ifo, ifm, ifp, iffq, ↓reduceIte, ite_self, and_self, and_true, true_and, and_false, false_and, or_true, true_or, or_false, false_or, or_self, not_true_eq_false, not_false_eq_true, ne_eq]]; exact ⟨rfl, hRC, fun b _ => rfl⟩
    ·
      refine ⟨_, rfl, ?_⟩
      refine R_ifT (tg := 26) rfl rfl rfl ?_
      refine R_op (nx := 27) rfl rfl rfl ?_
      refine R_ret rfl (fun _ _ => rfl) rfl rfl ?_
      rw [show Q_stands A c w p = ((-1), A) from by simp only [Q_stands, b2, b13, ifo, ifm, ifp, iffq, ↓reduceIte, ite_self, and_self, and_true, true_and, and_false, false_and, or_true, true_or, or_false, false_or, or_self, not_true_eq_false, not_false_eq_true, ne_eq]]; exact ⟨rfl, hRC, fun b _ => rfl⟩
  ·
    refine ⟨_, rfl, ?_⟩
    refine R_lo (nx := 7) (ls' := [(2, 0), (0, c), (0, w), (0, p), (2, (-1)), (9, 0), (9, 0)]) rfl rfl rfl rfl ?_
    refine R_lo (nx := 9) rfl rfl rfl rfl ?_
    refine R_ifnull (nx := 12) (tg := 26) rfl rfl rfl (fun h => ?_) (fun h => absurd (by decide) h)
    refine R_op (nx := 27) rfl rfl rfl ?_
    refine R_ret rfl (fun _ _ => rfl) rfl rfl ?_
    rw [show Q_stands A c w p = ((-1), A) from by simp only [Q_stands, b2, ifo, ifm, ifp, iffq, ↓reduceIte, ite_self, and_self, and_true, true_and, and_false, false_and, or_true, true_or, or_false, false_or, or_self, not_true_eq_false, not_false_eq_true, ne_eq]]; exact ⟨rfl, hRC, fun b _ => rfl⟩

set_option maxRecDepth 20000 in
set_option maxHeartbeats 4000000 in
theorem c_P_staying (S : mm_S) (a : Int) (hC : mm_isC a) (K : CX) (hM : MC S a K) (hV : Vx K) (hd : Xfb K = 0) (p d : Int) (hp : Xpr p) : Cl 41 [(2, 0), (2, a), (0, p), (0, d)] S (fun v S' => v = some (0, stay K p d) ∧ ∀ b, ¬ (8 ≤ b ∧ b ≤ 12) → S' b = S b) := by
  refine ⟨Nat.le_of_ble_eq_true rfl, ?_⟩
  show Rn k_P_staying 0 [(2, 0), (2, a), (0, p), (0, d), (9, 0), (9, 0)] [] S _
  have hnr := hV.1.1
  have hout := isC_out hC
  refine R_lo (nx := 1) rfl rfl rfl rfl ?_
  refine R_get (nx := 4) (w := (2, 8)) rfl rfl rfl rfl ?_
  refine R_lo (nx := 5) rfl rfl rfl rfl ?_
  refine R_op (nx := 6) rfl rfl rfl ?_
  refine R_lo (nx := 7) rfl rfl rfl rfl ?_
  refine R_call0 (nx := 10) (as := [(2, 8), (2, a), (0, 0), (0, p)]) (rest := []) rfl rfl (fun _ _ => rfl) rfl rfl rfl rfl rfl rfl rfl rfl (Cl.mono (c_Rd_run S a hC K (by first | assumption | exact MC.up (by assumption) (by omega) | exact MC.up (MC.up (by assumption) (by omega)) (by omega) | exact MC.up (MC.up (MC.up (by assumption) (by omega)) (by omega)) (by omega)) 0 p (by assumption) (by first | assumption | exact Or.inl rfl) (by assumption)) ?_)
  rintro _ S7 ⟨rfl, x7, l7, o7, ⟨t7, u7, v7⟩, f7⟩
  have mmS7 : MC S7 a K := MC.fr (by first | assumption | exact MC.up (by assumption) (by omega) | exact MC.up (MC.up (by assumption) (by omega)) (by omega) | exact MC.up (MC.up (MC.up (by assumption) (by omega)) (by omega)) (by omega)) fun c q r => f7 c (by omega)
  refine ⟨rfl, ?_⟩
  refine R_op (nx := 11) rfl rfl rfl ?_
  refine R_lo (nx := 13) (ls' := [(2, 0), (2, a), (0, p), (0, d), (0, 0), (9, 0)]) rfl rfl rfl rfl ?_
  refine R_op (nx := 14) rfl rfl rfl ?_
  refine R_lo (nx := 16) (ls' := [(2, 0), (2, a), (0, p), (0, d), (0, 0), (0, 0)]) rfl rfl rfl rfl ?_
  have L16 : ∀ (f16 : Nat) (acc : Int) (i : Int), (Xn K - i).toNat < f16 → (0 ≤ i ∧ i ≤ Xn K) → (0 ≤ acc ∧ acc ≤ i) → (acc = sm (fun x => if Xd K x = d ∧ Fw K 0 p x = -1 then 1 else 0) i) → Rn k_P_staying 16 [(2, 0), (2, a), (0, p), (0, d), (0, acc), (0, i)] [] S7 (fun v S' => v = some (0, stay K p d) ∧ ∀ b, ¬ (8 ≤ b ∧ b ≤ 12) → S' b = S b) := by
    intro f16
    induction f16 with
    | zero => intro acc i hm16; exact absurd hm16 (Nat.not_lt_zero _)
    | succ f16 ih16 =>
      intro acc i hm16 hi hb hq
      have nn := mmS7.n
      have q7 := cl3_3 (z := Fw K 0 p i) (by have := Fw_r hp hV (Or.inl rfl) i; omega)
      refine R_lo (nx := 18) rfl rfl rfl rfl ?_
      refine R_lo (nx := 19) rfl rfl rfl rfl ?_
      refine R_get (nx := 22) (w := (0, (S7 a 0))) rfl rfl (isC_ob hC) rfl ?_
      rw [nn]
      refine R_icmp (nx := 25) (tg := 58) rfl rfl rfl (mm_cnd_ge _ _) (fun c22 => ?_) (fun c22 => ?_)
      ·
        refine R_lo (nx := 60) rfl rfl rfl rfl ?_
        refine R_ret rfl (fun _ _ => rfl) rfl rfl ?_
        exact ⟨by rw [hq, show i = Xn K by omega]; rfl, fun b hb => f7 b hb⟩
      ·
        refine R_lo (nx := 26) rfl rfl rfl rfl ?_
        refine R_lo (nx := 28) rfl rfl rfl rfl ?_
        refine R_call1 (nx := 31) (as := [(2, a), (0, i)]) (rest := []) rfl rfl (fun _ _ => rfl) rfl rfl rfl rfl rfl rfl (isC_rc hC _) rfl (Cl.mono (c_C_degree S7 a hC K (by first | assumption | exact MC.up (by assumption) (by omega) | exact MC.up (MC.up (by assumption) (by omega)) (by omega) | exact MC.up (MC.up (MC.up (by assumption) (by omega)) (by omega)) (by omega)) i) ?_)
        rintro _ _ ⟨rfl, rfl⟩
        refine ⟨_, rfl, ?_⟩
        refine R_lo (nx := 32) rfl rfl rfl rfl ?_
        refine R_icmp (nx := 35) (tg := 52) rfl rfl rfl (mm_cnd_ne _ _) (fun c32 => ?_) (fun c32 => ?_)
        ·
          refine R_iinc (nx := 55) (z := (i + 1)) (ls' := [(2, 0), (2, a), (0, p), (0, d), (0, acc), (0, (i + 1))]) rfl rfl rfl rfl ⟨by omega, by omega⟩ rfl ?_
          refine R_op (nx := 58) (pc' := 16) rfl rfl rfl ?_
          refine Rn.weak (ls' := [(2, 0), (2, a), (0, p), (0, d), (0, acc), (0, (i + 1))]) ⟨Or.inl rfl, ⟨Or.inl rfl, ⟨Or.inl rfl, ⟨Or.inl rfl, ⟨Or.inl rfl, ⟨Or.inl rfl, trivial⟩⟩⟩⟩⟩⟩ ?_
          refine ih16 (acc) ((i + 1)) ?_ ?_ ?_ ?_
          · omega
          · omega
          · omega
          · rw [sm_s _ hi.1, ← hq]
            first | rw [if_pos (by omega)] | rw [if_neg (by omega), Int.add_zero]
        ·
          replace c32 := Classical.not_not.mp c32
          refine R_lo (nx := 36) rfl rfl rfl rfl ?_
          refine R_get (nx := 39) (w := (2, 8)) rfl rfl rfl rfl ?_
          refine R_lo (nx := 41) rfl rfl rfl rfl ?_
          refine R_call1 (nx := 44) (as := [(2, 8), (0, i)]) (rest := []) rfl rfl (fun _ _ => rfl) rfl rfl rfl rfl rfl rfl rfl rfl (Cl.mono (c_Rd_partner S7 a hC K (by first | assumption | exact MC.up (by assumption) (by omega) | exact MC.up (MC.up (by assumption) (by omega)) (by omega) | exact MC.up (MC.up (MC.up (by assumption) (by omega)) (by omega)) (by omega)) 0 p (by assumption) (by first | assumption | exact Or.inl rfl) (by assumption) (by assumption) (by assumption) (by assumption) (by assumption) (by assumption) (by assumption) i (by omega) ) ?_)
          rintro _ _ ⟨rfl, rfl⟩
          refine ⟨_, rfl, ?_⟩
          refine R_op (nx := 46) rfl rfl rfl ?_
          refine R_icmp (nx := 49) (tg := 52) rfl rfl rfl (mm_cnd_ne _ _) (fun c46 => ?_) (fun c46 => ?_)
          ·
            have e46 : Fw K 0 p i ≠ -1 := fun z => c46 (q7.mpr z)
            refine R_iinc (nx := 55) (z := (i + 1)) (ls' := [(2, 0), (2, a), (0, p), (0, d), (0, acc), (0, (i + 1))]) rfl rfl rfl rfl ⟨by omega, by omega⟩ rfl ?_
            refine R_op (nx := 58) (pc' := 16) rfl rfl rfl ?_
            refine Rn.weak (ls' := [(2, 0), (2, a), (0, p), (0, d), (0, acc), (0, (i + 1))]) ⟨Or.inl rfl, ⟨Or.inl rfl, ⟨Or.inl rfl, ⟨Or.inl rfl, ⟨Or.inl rfl, ⟨Or.inl rfl, trivial⟩⟩⟩⟩⟩⟩ ?_
            refine ih16 (acc) ((i + 1)) ?_ ?_ ?_ ?_
            · omega
            · omega
            · omega
            · rw [sm_s _ hi.1, ← hq]
              first | rw [if_pos (by omega)] | rw [if_neg (by omega), Int.add_zero]
          ·
            replace c46 := Classical.not_not.mp c46
            have e46 : Fw K 0 p i = -1 := q7.mp c46
            refine R_iinc (nx := 52) (z := (acc + 1)) (ls' := [(2, 0), (2, a), (0, p), (0, d), (0, (acc + 1)), (0, i)]) rfl rfl rfl rfl ⟨by omega, by omega⟩ rfl ?_
            refine R_iinc (nx := 55) (z := (i + 1)) (ls' := [(2, 0), (2, a), (0, p), (0, d), (0, (acc + 1)), (0, (i + 1))]) rfl rfl rfl rfl ⟨by omega, by omega⟩ rfl ?_
            refine R_op (nx := 58) (pc' := 16) rfl rfl rfl ?_
            refine Rn.weak (ls' := [(2, 0), (2, a), (0, p), (0, d), (0, (acc + 1)), (0, (i + 1))]) ⟨Or.inl rfl, ⟨Or.inl rfl, ⟨Or.inl rfl, ⟨Or.inl rfl, ⟨Or.inl rfl, ⟨Or.inl rfl, trivial⟩⟩⟩⟩⟩⟩ ?_
            refine ih16 ((acc + 1)) ((i + 1)) ?_ ?_ ?_ ?_
            · omega
            · omega
            · omega
            · rw [sm_s _ hi.1, ← hq]
              first | rw [if_pos (by omega)] | rw [if_neg (by omega), Int.add_zero]
  refine Rn.weak (ls' := [(2, 0), (2, a), (0, p), (0, d), (0, 0), (0, 0)]) ⟨Or.inl rfl, ⟨Or.inl rfl, ⟨Or.inl rfl, ⟨Or.inl rfl, ⟨Or.inl rfl, ⟨Or.inl rfl, trivial⟩⟩⟩⟩⟩⟩ ?_
  refine L16 ((Xn K - (0)).toNat + 1) (0) (0) (Nat.lt_succ_self _) ?_ ?_ ?_
  · omega
  · omega
  · rfl

set_option maxRecDepth 20000 in
set_option maxHeartbeats 4000000 in
theorem c_P_left (S : mm_S) (A : mm_A) (hRC : RC S A) (hV : Vs A) (c p d : Int) : Cl 14 [(2, 0), (0, c), (0, p), (0, d)] S (fun vv S' => vv = some (0, (Q_left A c p d).1) ∧ RC S' (Q_left A c p d).2 ∧ ∀ b, 71 ≤ b → S' b = S b) := by
  refine ⟨Nat.le_of_ble_eq_true rfl, ?_⟩
  show Rn k_P_left 0 [(2, 0), (0, c), (0, p), (0, d), (9, 0)] [] S _
  refine R_lo (nx := 1) rfl rfl rfl rfl ?_
  refine R_lo (nx := 2) rfl rfl rfl rfl ?_
  refine R_call1 (nx := 5) (as := [(2, 0), (0, c)]) (rest := []) rfl rfl (fun _ _ => rfl) rfl rfl rfl rfl rfl rfl rfl rfl (Cl.mono (c_P_complexAt S c) ?_)
  rintro _ _ (⟨rfl, b2, rfl⟩ | ⟨rfl, b2, rfl⟩)
  ·
    have kb2 := hRC.k b2.1 b2.2
    have vb2 := hV.1 c b2.1 b2.2
    have rb2 := vb2.2.1
    have nb2 := kb2.n
    have zb2 := kb2.nr
    refine ⟨_, rfl, ?_⟩
    refine R_lo (nx := 7) (ls' := [(2, 0), (0, c), (0, p), (0, d), (2, (23 + 10 * c))]) rfl rfl rfl rfl ?_
    refine R_lo (nx := 9) rfl rfl rfl rfl ?_
    refine R_ifnull (nx := 12) (tg := 26) rfl rfl rfl (fun h => absurd h (by have := (isC_kd (isC_c (i := c) (by omega) (by omega))).1; omega)) (fun h => ?_)
    refine R_lo (nx := 13) rfl rfl rfl rfl ?_
    refine R_call1 (nx := 16) (as := [(0, p)]) (rest := []) rfl rfl (fun _ _ => rfl) rfl rfl rfl rfl rfl rfl rfl rfl (Cl.mono (c_P_isPrime S p) ?_)
    rintro _ _ (⟨rfl, b13, rfl⟩ | ⟨rfl, b13, rfl⟩)
    ·
      refine ⟨_, rfl, ?_⟩
      refine R_ifF (nx := 19) rfl rfl rfl ?_
      refine R_lo (nx := 20) rfl rfl rfl rfl ?_
      refine R_call1 (nx := 23) (as := [(0, d)]) (rest := []) rfl rfl (fun _ _ => rfl) rfl rfl rfl rfl rfl rfl rfl rfl (Cl.mono (c_P_isDegree S d) ?_)
      rintro _ _ (⟨rfl, b20, rfl⟩ | ⟨rfl, b20, rfl⟩)
      ·
        refine ⟨_, rfl, ?_⟩
        refine R_ifT (tg := 28) rfl rfl rfl ?_
        refine R_lo (nx := 30) rfl rfl rfl rfl ?_
        refine R_call1 (nx := 33) (as := [(2, (23 + 10 * c))]) (rest := []) rfl rfl (fun _ _ => rfl) rfl rfl rfl rfl rfl rfl (isC_rc (isC_c (i := c) (by omega) (by omega)) _) rfl (Cl.mono (c_C_isBroken S (23 + 10 * c) (isC_c (i := c) (by omega) (by omega)) (AK A c) (by first | assumption | exact MC.up (by assumption) (by omega) | exact MC.up (MC.up (by assumption) (by omega)) (by omega) | exact MC.up (MC.up (MC.up (by assumption) (by omega)) (by omega)) (by omega)) (by assumption)) ?_)
        rintro _ _ (⟨rfl, b30, rfl⟩ | ⟨rfl, b30, rfl⟩)
        ·
          have e30 : ¬ Xfb (AK A c) = 0 := b30
          refine ⟨_, rfl, ?_⟩
          refine R_ifF (nx := 36) rfl rfl rfl ?_
          refine R_op (nx := 38) rfl rfl rfl ?_
          refine R_op (nx := 41) (pc' := 49) rfl rfl rfl ?_
          refine R_ret rfl (fun _ _ => rfl) rfl rfl ?_
          rw [show Q_left A c p d = ((-4), A) from by simp only [Q_left, b2, b13, b20, b30, e30, ifo, ifm, ifp, iffq, ↓reduceIte, ite_self, and_self, and_true, true_and, and_false, false_and, or_true, true_or, or_false, false_or, or_self, not_true_eq_false, not_false_eq_true, ne_eq]]; exact ⟨rfl, hRC, fun b _ => rfl⟩
        ·
          have e30 : Xfb (AK A c) = 0 := Classical.not_not.mp b30
          refine ⟨_, rfl, ?_⟩
          refine R_ifT (tg := 41) rfl rfl rfl ?_
          refine R_lo (nx := 42) rfl rfl rfl rfl ?_
          refine R_lo (nx := 44) rfl rfl rfl rfl ?_
          refine R_lo (nx := 45) rfl rfl rfl rfl ?_
          refine R_lo (nx := 46) rfl rfl rfl rfl ?_
          refine R_call1 (nx := 49) (as := [(2, 0), (2, (23 + 10 * c)), (0, p), (0, d)]) (rest := []) rfl rfl (fun _ _ => rfl) rfl rfl rfl rfl rfl rfl rfl rfl (Cl.mono (c_P_staying S (23 + 10 * c) (isC_c (i := c) (by omega) (by omega)) (AK A c) (by first | assumption | exact MC.up (by assumption) (by omega) | exact MC.up (MC.up (by assumption) (by omega)) (by omega) | exact MC.up (MC.up (MC.up (by assumption) (by omega)) (by omega)) (by omega)) (by assumption) e30 p d (by assumption)) ?_)
          rintro _ S46 ⟨rfl, f46⟩
          refine ⟨_, rfl, ?_⟩
          refine R_ret rfl (fun _ _ => rfl) rfl rfl ?_
          rw [show Q_left A c p d = ((stay (AK A c) p d), A) from by simp only [Q_left, b2, b13, b20, b30, e30, ifo, ifm, ifp, iffq, ↓reduceIte, ite_self, and_self, and_true, true_and, and_false, false_and, or_true, true_or, or_false, false_or, or_self, not_true_eq_false, not_false_eq_true, ne_eq]]; exact ⟨rfl, hRC.fr fun b hb => f46 b (by omega), fun b hb => f46 b (by omega)⟩
      ·
        refine ⟨_, rfl, ?_⟩
        refine R_ifF (nx := 26) rfl rfl rfl ?_
        refine R_op (nx := 27) rfl rfl rfl ?_
        refine R_ret rfl (fun _ _ => rfl) rfl rfl ?_
        rw [show Q_left A c p d = ((-1), A) from by simp only [Q_left, b2, b13, b20, ifo, ifm, ifp, iffq, ↓reduceIte, ite_self, and_self, and_true, true_and, and_false, false_and, or_true, true_or, or_false, false_or, or_self, not_true_eq_false, not_false_eq_true, ne_eq]]; exact ⟨rfl, hRC, fun b _ => rfl⟩
    ·
      refine ⟨_, rfl, ?_⟩
      refine R_ifT (tg := 26) rfl rfl rfl ?_
      refine R_op (nx := 27) rfl rfl rfl ?_
      refine R_ret rfl (fun _ _ => rfl) rfl rfl ?_
      rw [show Q_left A c p d = ((-1), A) from by simp only [Q_left, b2, b13, ifo, ifm, ifp, iffq, ↓reduceIte, ite_self, and_self, and_true, true_and, and_false, false_and, or_true, true_or, or_false, false_or, or_self, not_true_eq_false, not_false_eq_true, ne_eq]]; exact ⟨rfl, hRC, fun b _ => rfl⟩
  ·
    refine ⟨_, rfl, ?_⟩
    refine R_lo (nx := 7) (ls' := [(2, 0), (0, c), (0, p), (0, d), (2, (-1))]) rfl rfl rfl rfl ?_
    refine R_lo (nx := 9) rfl rfl rfl rfl ?_
    refine R_ifnull (nx := 12) (tg := 26) rfl rfl rfl (fun h => ?_) (fun h => absurd (by decide) h)
    refine R_op (nx := 27) rfl rfl rfl ?_
    refine R_ret rfl (fun _ _ => rfl) rfl rfl ?_
    rw [show Q_left A c p d = ((-1), A) from by simp only [Q_left, b2, ifo, ifm, ifp, iffq, ↓reduceIte, ite_self, and_self, and_true, true_and, and_false, false_and, or_true, true_or, or_false, false_or, or_self, not_true_eq_false, not_false_eq_true, ne_eq]]; exact ⟨rfl, hRC, fun b _ => rfl⟩

theorem RC.try2 {S S' : mm_S} {A : mm_A} (h : RC S A) {c : Int} (hc : 0 ≤ c ∧ c < 4) (hM : MC S' (23 + 10 * c) (AK A c)) {o q m : Int} (t : S' 18 0 = o ∧ S' 18 1 = q ∧ S' 18 2 = m) (hf : ∀ b, ¬ (8 ≤ b ∧ b ≤ 12) → b ≠ 18 → ¬ (23 + 10 * c ≤ b ∧ b ≤ 23 + 10 * c + 4) → S' b = S b) : RC S' (Atr A o q m) := by
  obtain ⟨h1, h2, h3, ⟨h4, h5, h6⟩, ⟨h7, h8⟩, h9⟩ := h
  refine ⟨fun i a b => ?_, fun i a b => (h2 i a b).fr fun e p q => hf e (by omega) (by omega) (by omega), by rw [hf 0 (by omega) (by omega) (by omega)]; exact h3, t, ⟨?_, fun j a b => ?_⟩, fun i a b => ?_⟩
  · by_cases e : i = c
    · subst e; exact hM
    · exact (h1 i a b).fr fun e p q => hf e (by omega) (by omega) (by omega)
  · rw [hf 19 (by omega) (by omega) (by omega)]; exact h7
  · rw [hf 20 (by omega) (by omega) (by omega)]; exact h8 j a b
  · rw [hf (63 + 2 * i) (by omega) (by omega) (by omega), hf (63 + 2 * i + 1) (by omega) (by omega) (by omega)]; exact h9 i a b

set_option maxRecDepth 20000 in
set_option maxHeartbeats 4000000 in
theorem c_P_would (S : mm_S) (A : mm_A) (hRC : RC S A) (hV : Vs A) (c x y v p d : Int) : Cl 19 [(2, 0), (0, c), (0, x), (0, y), (0, v), (0, p), (0, d)] S (fun vv S' => vv = some (0, (Q_would A c x y v p d).1) ∧ RC S' (Q_would A c x y v p d).2 ∧ ∀ b, 71 ≤ b → S' b = S b) := by
  refine ⟨Nat.le_of_ble_eq_true rfl, ?_⟩
  show Rn k_P_would 0 [(2, 0), (0, c), (0, x), (0, y), (0, v), (0, p), (0, d), (9, 0), (9, 0)] [] S _
  refine R_lo (nx := 1) rfl rfl rfl rfl ?_
  refine R_lo (nx := 2) rfl rfl rfl rfl ?_
  refine R_call1 (nx := 5) (as := [(2, 0), (0, c)]) (rest := []) rfl rfl (fun _ _ => rfl) rfl rfl rfl rfl rfl rfl rfl rfl (Cl.mono (c_P_complexAt S c) ?_)
  rintro _ _ (⟨rfl, b2, rfl⟩ | ⟨rfl, b2, rfl⟩)
  ·
    have kb2 := hRC.k b2.1 b2.2
    have vb2 := hV.1 c b2.1 b2.2
    have rb2 := vb2.2.1
    have nb2 := kb2.n
    have zb2 := kb2.nr
    refine ⟨_, rfl, ?_⟩
    refine R_lo (nx := 7) (ls' := [(2, 0), (0, c), (0, x), (0, y), (0, v), (0, p), (0, d), (2, (23 + 10 * c)), (9, 0)]) rfl rfl rfl rfl ?_
    refine R_lo (nx := 9) rfl rfl rfl rfl ?_
    refine R_ifnull (nx := 12) (tg := 47) rfl rfl rfl (fun h => absurd h (by have := (isC_kd (isC_c (i := c) (by omega) (by omega))).1; omega)) (fun h => ?_)
    refine R_lo (nx := 14) rfl rfl rfl rfl ?_
    refine R_lo (nx := 15) rfl rfl rfl rfl ?_
    refine R_lo (nx := 16) rfl rfl rfl rfl ?_
    refine R_call1 (nx := 19) (as := [(2, (23 + 10 * c)), (0, x), (0, y)]) (rest := []) rfl rfl (fun _ _ => rfl) rfl rfl rfl rfl rfl rfl (isC_rc (isC_c (i := c) (by omega) (by omega)) _) rfl (Cl.mono (c_C_mayHave S (23 + 10 * c) (isC_c (i := c) (by omega) (by omega)) (AK A c) (by first | assumption | exact MC.up (by assumption) (by omega) | exact MC.up (MC.up (by assumption) (by omega)) (by omega) | exact MC.up (MC.up (MC.up (by assumption) (by omega)) (by omega)) (by omega)) (by assumption) x y) ?_)
    rintro _ _ (⟨rfl, b16, rfl⟩ | ⟨rfl, b16, rfl⟩)
    ·
      refine ⟨_, rfl, ?_⟩
      refine R_ifF (nx := 22) rfl rfl rfl ?_
      refine R_lo (nx := 24) rfl rfl rfl rfl ?_
      refine R_op (nx := 25) (st' := [(1, v)]) rfl rfl rfl ?_
      refine R_call1 (nx := 28) (as := [(1, v)]) (rest := []) rfl rfl (fun _ _ => rfl) rfl rfl rfl rfl rfl rfl rfl rfl (Cl.mono (c_P_isEntry S v) ?_)
      rintro _ _ (⟨rfl, b25, rfl⟩ | ⟨rfl, b25, rfl⟩)
      ·
        refine ⟨_, rfl, ?_⟩
        refine R_ifF (nx := 31) rfl rfl rfl ?_
        refine R_lo (nx := 33) rfl rfl rfl rfl ?_
        refine R_call1 (nx := 36) (as := [(0, p)]) (rest := []) rfl rfl (fun _ _ => rfl) rfl rfl rfl rfl rfl rfl rfl rfl (Cl.mono (c_P_isPrime S p) ?_)
        rintro _ _ (⟨rfl, b33, rfl⟩ | ⟨rfl, b33, rfl⟩)
        ·
          refine ⟨_, rfl, ?_⟩
          refine R_ifF (nx := 39) rfl rfl rfl ?_
          refine R_lo (nx := 41) rfl rfl rfl rfl ?_
          refine R_call1 (nx := 44) (as := [(0, d)]) (rest := []) rfl rfl (fun _ _ => rfl) rfl rfl rfl rfl rfl rfl rfl rfl (Cl.mono (c_P_isDegree S d) ?_)
          rintro _ _ (⟨rfl, b41, rfl⟩ | ⟨rfl, b41, rfl⟩)
          ·
            refine ⟨_, rfl, ?_⟩
            refine R_ifT (tg := 49) rfl rfl rfl ?_
            refine R_lo (nx := 50) rfl rfl rfl rfl ?_
            refine R_get (nx := 53) (w := (2, 18)) rfl rfl rfl rfl ?_
            refine R_call0 (nx := 56) (as := [(2, 18)]) (rest := []) rfl rfl (fun _ _ => rfl) rfl rfl rfl rfl rfl rfl rfl rfl (Cl.mono (c_Tr_startAnew S) ?_)
            rintro _ _ ⟨rfl, rfl⟩
            refine ⟨rfl, ?_⟩
            refine R_lo (nx := 57) rfl rfl rfl rfl ?_
            refine R_get (nx := 60) (w := (2, 18)) rfl rfl rfl rfl ?_
            refine R_lo (nx := 62) rfl rfl rfl rfl ?_
            refine R_lo (nx := 63) rfl rfl rfl rfl ?_
            refine R_lo (nx := 64) rfl rfl rfl rfl ?_
            refine R_lo (nx := 66) rfl rfl rfl rfl ?_
            refine R_call0 (nx := 69) (as := [(2, 18), (2, (23 + 10 * c)), (0, x), (0, y), (0, v)]) (rest := []) rfl rfl (fun _ _ => rfl) rfl rfl rfl rfl rfl rfl rfl rfl (Cl.mono (c_Tr_open (mm_up (mm_up (mm_up S 18 0 0) 18 1 0) 18 2 0) (23 + 10 * c) (isC_c (i := c) (by omega) (by omega)) (AK A c) (by first | assumption | exact MC.up (by assumption) (by omega) | exact MC.up (MC.up (by assumption) (by omega)) (by omega) | exact MC.up (MC.up (MC.up (by assumption) (by omega)) (by omega)) (by omega)) x y v 0 0 0 (by (repeat rw [mm_uk (by decide)]); exact mm_ua) (by (repeat rw [mm_uk (by decide)]); exact mm_ua) mm_ua (by omega) (by omega)) ?_)
            rintro _ S66 ⟨rfl, p66, q66, m66, f66⟩
            have vs := Xset_Vx vb2 (v := v) b25 (Or.inr b16)
            have g66 : ∀ b, b ≠ 18 → ¬ (23 + 10 * c ≤ b ∧ b ≤ 23 + 10 * c + 4) → S66 b = S b := fun b hb hn => by rw [f66 b hb hn, mm_unq hb, mm_unq hb, mm_unq hb]
            have e66 : S66 18 2 = 1 := by rw [p66.2.2]; rfl
            refine ⟨rfl, ?_⟩
            refine R_lo (nx := 71) rfl rfl rfl rfl ?_
            refine R_call1 (nx := 74) (as := [(2, (23 + 10 * c))]) (rest := []) rfl rfl (fun _ _ => rfl) rfl rfl rfl rfl rfl rfl (isC_rc (isC_c (i := c) (by omega) (by omega)) _) rfl (Cl.mono (c_C_isBroken S66 (23 + 10 * c) (isC_c (i := c) (by omega) (by omega)) (Xset (AK A c) x y v) (by first | assumption | exact MC.up (by assumption) (by omega) | exact MC.up (MC.up (by assumption) (by omega)) (by omega) | exact MC.up (MC.up (MC.up (by assumption) (by omega)) (by omega)) (by omega)) (by assumption)) ?_)
            rintro _ _ (⟨rfl, b71, rfl⟩ | ⟨rfl, b71, rfl⟩)
            ·
              have h71 : wld (Xset (AK A c) x y v) p d = -4 := if_neg b71
              refine ⟨_, rfl, ?_⟩
              refine R_ifF (nx := 77) rfl rfl rfl ?_
              refine R_op (nx := 79) rfl rfl rfl ?_
              refine R_op (nx := 82) (pc' := 92) rfl rfl rfl ?_
              refine R_lo (nx := 94) (ls' := [(2, 0), (0, c), (0, x), (0, y), (0, v), (0, p), (0, d), (2, (23 + 10 * c)), (0, (-4))]) rfl rfl rfl rfl ?_
              have m98 := m66
              have k18 : S66 18 0 = 1 ∧ S66 18 1 = 0 ∧ S66 18 2 = 1 ∧ S66 18 3 = 23 + 10 * c ∧ S66 18 4 = x ∧ S66 18 5 = y ∧ S66 18 6 = Xe (AK A c) x y := ⟨p66.1, p66.2.1, e66, q66⟩
              have g98 : ∀ b, ¬ (8 ≤ b ∧ b ≤ 12) → b ≠ 18 → ¬ (23 + 10 * c ≤ b ∧ b ≤ 23 + 10 * c + 4) → S66 b = S b := fun b h1 h2 h3 => g66 b h2 h3
              refine R_lo (nx := 95) rfl rfl rfl rfl ?_
              refine R_get (nx := 98) (w := (2, 18)) rfl rfl rfl rfl ?_
              refine R_call0 (nx := 101) (as := [(2, 18)]) (rest := []) rfl rfl (fun _ _ => rfl) rfl rfl rfl rfl rfl rfl rfl rfl (Cl.mono (c_Tr_close S66 (23 + 10 * c) (isC_c (i := c) (by omega) (by omega)) (Xset (AK A c) x y v) m98 x y (Xe (AK A c) x y) 0 k18.2.1 k18.2.2.2.1 k18.2.2.2.2.1 k18.2.2.2.2.2.1 k18.2.2.2.2.2.2 (by omega)) ?_)
              rintro _ S98 ⟨rfl, p98, n98, f98⟩
              refine ⟨rfl, ?_⟩
              refine R_lo (nx := 103) rfl rfl rfl rfl ?_
              refine R_ret rfl (fun _ _ => rfl) rfl rfl ?_
              rw [show Q_would A c x y v p d = ((-4), Atr A 1 1 1) from by unfold Q_would ifm ifp; rw [if_pos b2, if_pos b16, if_pos b25, if_pos b33, if_pos b41]; first | rw [h71] | rw [w71]]
              exact ⟨rfl, hRC.try2 b2 (by rw [← Xset_back (AK A c) x y v]; exact n98) ⟨p98.1.trans k18.1, p98.2.1, p98.2.2.trans k18.2.2.1⟩ (fun b h1 h2 h3 => by rw [f98 b h2 h3]; exact g98 b h1 h2 h3), fun b hb => by rw [f98 b (by omega) (by omega)]; exact g98 b (by omega) (by omega) (by omega)⟩
            ·
              have h71 : Xfb (Xset (AK A c) x y v) = 0 := Classical.not_not.mp b71
              have e71 := h71
              have w71 : wld (Xset (AK A c) x y v) p d = stay (Xset (AK A c) x y v) p d := if_pos h71
              refine ⟨_, rfl, ?_⟩
              refine R_ifT (tg := 82) rfl rfl rfl ?_
              refine R_lo (nx := 83) rfl rfl rfl rfl ?_
              refine R_lo (nx := 85) rfl rfl rfl rfl ?_
              refine R_lo (nx := 87) rfl rfl rfl rfl ?_
              refine R_lo (nx := 89) rfl rfl rfl rfl ?_
              refine R_call1 (nx := 92) (as := [(2, 0), (2, (23 + 10 * c)), (0, p), (0, d)]) (rest := []) rfl rfl (fun _ _ => rfl) rfl rfl rfl rfl rfl rfl rfl rfl (Cl.mono (c_P_staying S66 (23 + 10 * c) (isC_c (i := c) (by omega) (by omega)) (Xset (AK A c) x y v) (by first | assumption | exact MC.up (by assumption) (by omega) | exact MC.up (MC.up (by assumption) (by omega)) (by omega) | exact MC.up (MC.up (MC.up (by assumption) (by omega)) (by omega)) (by omega)) (by assumption) e71 p d (by assumption)) ?_)
              rintro _ S89 ⟨rfl, f89⟩
              refine ⟨_, rfl, ?_⟩
              refine R_lo (nx := 94) (ls' := [(2, 0), (0, c), (0, x), (0, y), (0, v), (0, p), (0, d), (2, (23 + 10 * c)), (0, (stay (Xset (AK A c) x y v) p d))]) rfl rfl rfl rfl ?_
              have m98 : MC S89 (23 + 10 * c) (Xset (AK A c) x y v) := m66.fr fun e q r => f89 e (by omega)
              have k18 : S89 18 0 = 1 ∧ S89 18 1 = 0 ∧ S89 18 2 = 1 ∧ S89 18 3 = 23 + 10 * c ∧ S89 18 4 = x ∧ S89 18 5 = y ∧ S89 18 6 = Xe (AK A c) x y := by rw [f89 18 (by omega)]; exact ⟨p66.1, p66.2.1, e66, q66⟩
              have g98 : ∀ b, ¬ (8 ≤ b ∧ b ≤ 12) → b ≠ 18 → ¬ (23 + 10 * c ≤ b ∧ b ≤ 23 + 10 * c + 4) → S89 b = S b := fun b h1 h2 h3 => by rw [f89 b h1]; exact g66 b h2 h3
              refine R_lo (nx := 95) rfl rfl rfl rfl ?_
              refine R_get (nx := 98) (w := (2, 18)) rfl rfl rfl rfl ?_
              refine R_call0 (nx := 101) (as := [(2, 18)]) (rest := []) rfl rfl (fun _ _ => rfl) rfl rfl rfl rfl rfl rfl rfl rfl (Cl.mono (c_Tr_close S89 (23 + 10 * c) (isC_c (i := c) (by omega) (by omega)) (Xset (AK A c) x y v) m98 x y (Xe (AK A c) x y) 0 k18.2.1 k18.2.2.2.1 k18.2.2.2.2.1 k18.2.2.2.2.2.1 k18.2.2.2.2.2.2 (by omega)) ?_)
              rintro _ S98 ⟨rfl, p98, n98, f98⟩
              refine ⟨rfl, ?_⟩
              refine R_lo (nx := 103) rfl rfl rfl rfl ?_
              refine R_ret rfl (fun _ _ => rfl) rfl rfl ?_
              rw [show Q_would A c x y v p d = ((stay (Xset (AK A c) x y v) p d), Atr A 1 1 1) from by unfold Q_would ifm ifp; rw [if_pos b2, if_pos b16, if_pos b25, if_pos b33, if_pos b41]; first | rw [h71] | rw [w71]]
              exact ⟨rfl, hRC.try2 b2 (by rw [← Xset_back (AK A c) x y v]; exact n98) ⟨p98.1.trans k18.1, p98.2.1, p98.2.2.trans k18.2.2.1⟩ (fun b h1 h2 h3 => by rw [f98 b h2 h3]; exact g98 b h1 h2 h3), fun b hb => by rw [f98 b (by omega) (by omega)]; exact g98 b (by omega) (by omega) (by omega)⟩
          ·
            refine ⟨_, rfl, ?_⟩
            refine R_ifF (nx := 47) rfl rfl rfl ?_
            refine R_op (nx := 48) rfl rfl rfl ?_
            refine R_ret rfl (fun _ _ => rfl) rfl rfl ?_
            rw [show Q_would A c x y v p d = ((-1), A) from by simp only [Q_would, b2, b16, b25, b33, b41, ifo, ifm, ifp, iffq, ↓reduceIte, ite_self, and_self, and_true, true_and, and_false, false_and, or_true, true_or, or_false, false_or, or_self, not_true_eq_false, not_false_eq_true, ne_eq]]; exact ⟨rfl, hRC, fun b _ => rfl⟩
        ·
          refine ⟨_, rfl, ?_⟩
          refine R_ifT (tg := 47) rfl rfl rfl ?_
          refine R_op (nx := 48) rfl rfl rfl ?_
          refine R_ret rfl (fun _ _ => rfl) rfl rfl ?_
          rw [show Q_would A c x y v p d = ((-1), A) from by simp only [Q_would, b2, b16, b25, b33, ifo, ifm, ifp, iffq, ↓reduceIte, ite_self, and_self, and_true, true_and, and_false, false_and, or_true, true_or, or_false, false_or, or_self, not_true_eq_false, not_false_eq_true, ne_eq]]; exact ⟨rfl, hRC, fun b _ => rfl⟩
      ·
        refine ⟨_, rfl, ?_⟩
        refine R_ifT (tg := 47) rfl rfl rfl ?_
        refine R_op (nx := 48) rfl rfl rfl ?_
        refine R_ret rfl (fun _ _ => rfl) rfl rfl ?_
        rw [show Q_would A c x y v p d = ((-1), A) from by simp only [Q_would, b2, b16, b25, ifo, ifm, ifp, iffq, ↓reduceIte, ite_self, and_self, and_true, true_and, and_false, false_and, or_true, true_or, or_false, false_or, or_self, not_true_eq_false, not_false_eq_true, ne_eq]]; exact ⟨rfl, hRC, fun b _ => rfl⟩
    ·
      refine ⟨_, rfl, ?_⟩
      refine R_ifT (tg := 47) rfl rfl rfl ?_
      refine R_op (nx := 48) rfl rfl rfl ?_
      refine R_ret rfl (fun _ _ => rfl) rfl rfl ?_
      rw [show Q_would A c x y v p d = ((-1), A) from by simp only [Q_would, b2, b16, ifo, ifm, ifp, iffq, ↓reduceIte, ite_self, and_self, and_true, true_and, and_false, false_and, or_true, true_or, or_false, false_or, or_self, not_true_eq_false, not_false_eq_true, ne_eq]]; exact ⟨rfl, hRC, fun b _ => rfl⟩
  ·
    refine ⟨_, rfl, ?_⟩
    refine R_lo (nx := 7) (ls' := [(2, 0), (0, c), (0, x), (0, y), (0, v), (0, p), (0, d), (2, (-1)), (9, 0)]) rfl rfl rfl rfl ?_
    refine R_lo (nx := 9) rfl rfl rfl rfl ?_
    refine R_ifnull (nx := 12) (tg := 47) rfl rfl rfl (fun h => ?_) (fun h => absurd (by decide) h)
    refine R_op (nx := 48) rfl rfl rfl ?_
    refine R_ret rfl (fun _ _ => rfl) rfl rfl ?_
    rw [show Q_would A c x y v p d = ((-1), A) from by simp only [Q_would, b2, ifo, ifm, ifp, iffq, ↓reduceIte, ite_self, and_self, and_true, true_and, and_false, false_and, or_true, true_or, or_false, false_or, or_self, not_true_eq_false, not_false_eq_true, ne_eq]]; exact ⟨rfl, hRC, fun b _ => rfl⟩
