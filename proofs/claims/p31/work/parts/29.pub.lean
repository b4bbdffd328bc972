/-! Calls: the plain ones, of the class and of the reference. -/
set_option maxRecDepth 20000 in
set_option maxHeartbeats 4000000 in
theorem c_P_complexAt (S : mm_S) (c : Int) : Cl 30 [(2, 0), (0, c)] S (fun v S' => (v = some (2, 23 + 10 * c) ∧ (0 ≤ c ∧ c < 4) ∧ S = S') ∨ (v = some (2, -1) ∧ ¬ (0 ≤ c ∧ c < 4) ∧ S = S')) := by
  refine ⟨Nat.le_of_ble_eq_true rfl, ?_⟩
  show Rn k_P_complexAt 0 [(2, 0), (0, c)] [] S _
  refine R_lo (nx := 1) rfl rfl rfl rfl ?_
  refine R_if (nx := 4) (tg := 18) rfl rfl rfl (mm_cnd_lt _ _) (fun c1 => ?_) (fun c1 => ?_)
  ·
    refine R_op (nx := 19) rfl rfl rfl ?_
    refine R_ret rfl (fun _ _ => rfl) rfl rfl ?_
    first | exact Or.inl ⟨rfl, by omega, rfl⟩ | exact Or.inr ⟨rfl, by omega, rfl⟩
  ·
    refine R_lo (nx := 5) rfl rfl rfl rfl ?_
    refine R_op (nx := 6) rfl rfl rfl ?_
    refine R_icmp (nx := 9) (tg := 18) rfl rfl rfl (mm_cnd_ge _ _) (fun c6 => ?_) (fun c6 => ?_)
    ·
      refine R_op (nx := 19) rfl rfl rfl ?_
      refine R_ret rfl (fun _ _ => rfl) rfl rfl ?_
      first | exact Or.inl ⟨rfl, by omega, rfl⟩ | exact Or.inr ⟨rfl, by omega, rfl⟩
    ·
      refine R_lo (nx := 10) rfl rfl rfl rfl ?_
      refine R_get (nx := 13) (w := (2, 1)) rfl rfl rfl rfl ?_
      refine R_lo (nx := 14) rfl rfl rfl rfl ?_
      refine R_aald (nx := 15) (z := (23 + 10 * c)) rfl rfl (mm_el_ok 5 4 (by decide) rfl (by decide) (by omega) (by omega)) rfl ?_
      refine R_op (nx := 18) (pc' := 19) rfl rfl rfl ?_
      refine R_ret rfl (fun _ _ => rfl) rfl rfl ?_
      first | exact Or.inl ⟨rfl, by omega, rfl⟩ | exact Or.inr ⟨rfl, by omega, rfl⟩

set_option maxRecDepth 20000 in
set_option maxHeartbeats 4000000 in
theorem c_P_sheetAt (S : mm_S) (c : Int) : Cl 31 [(2, 0), (0, c)] S (fun v S' => (v = some (2, 63 + 2 * c) ∧ (0 ≤ c ∧ c < 4) ∧ S = S') ∨ (v = some (2, -1) ∧ ¬ (0 ≤ c ∧ c < 4) ∧ S = S')) := by
  refine ⟨Nat.le_of_ble_eq_true rfl, ?_⟩
  show Rn k_P_sheetAt 0 [(2, 0), (0, c)] [] S _
  refine R_lo (nx := 1) rfl rfl rfl rfl ?_
  refine R_if (nx := 4) (tg := 18) rfl rfl rfl (mm_cnd_lt _ _) (fun c1 => ?_) (fun c1 => ?_)
  ·
    refine R_op (nx := 19) rfl rfl rfl ?_
    refine R_ret rfl (fun _ _ => rfl) rfl rfl ?_
    first | exact Or.inl ⟨rfl, by omega, rfl⟩ | exact Or.inr ⟨rfl, by omega, rfl⟩
  ·
    refine R_lo (nx := 5) rfl rfl rfl rfl ?_
    refine R_op (nx := 6) rfl rfl rfl ?_
    refine R_icmp (nx := 9) (tg := 18) rfl rfl rfl (mm_cnd_ge _ _) (fun c6 => ?_) (fun c6 => ?_)
    ·
      refine R_op (nx := 19) rfl rfl rfl ?_
      refine R_ret rfl (fun _ _ => rfl) rfl rfl ?_
      first | exact Or.inl ⟨rfl, by omega, rfl⟩ | exact Or.inr ⟨rfl, by omega, rfl⟩
    ·
      refine R_lo (nx := 10) rfl rfl rfl rfl ?_
      refine R_get (nx := 13) (w := (2, 22)) rfl rfl rfl rfl ?_
      refine R_lo (nx := 14) rfl rfl rfl rfl ?_
      refine R_aald (nx := 15) (z := (63 + 2 * c)) rfl rfl (mm_el_ok 6 4 (by decide) rfl (by decide) (by omega) (by omega)) rfl ?_
      refine R_op (nx := 18) (pc' := 19) rfl rfl rfl ?_
      refine R_ret rfl (fun _ _ => rfl) rfl rfl ?_
      first | exact Or.inl ⟨rfl, by omega, rfl⟩ | exact Or.inr ⟨rfl, by omega, rfl⟩

set_option maxRecDepth 20000 in
set_option maxHeartbeats 4000000 in
theorem c_P_isDegree (S : mm_S) (d : Int) : Cl 32 [(0, d)] S (fun v S' => (v = some (0, 1) ∧ (0 ≤ d ∧ d ≤ 4) ∧ S = S') ∨ (v = some (0, 0) ∧ ¬ (0 ≤ d ∧ d ≤ 4) ∧ S = S')) := by
  refine ⟨Nat.le_of_ble_eq_true rfl, ?_⟩
  show Rn k_P_isDegree 0 [(0, d)] [] S _
  refine R_lo (nx := 1) rfl rfl rfl rfl ?_
  refine R_if (nx := 4) (tg := 13) rfl rfl rfl (mm_cnd_lt _ _) (fun c1 => ?_) (fun c1 => ?_)
  ·
    refine R_op (nx := 14) rfl rfl rfl ?_
    refine R_ret rfl (fun _ _ => rfl) rfl rfl ?_
    first | exact Or.inl ⟨rfl, by omega, rfl⟩ | exact Or.inr ⟨rfl, by omega, rfl⟩
  ·
    refine R_lo (nx := 5) rfl rfl rfl rfl ?_
    refine R_op (nx := 6) rfl rfl rfl ?_
    refine R_icmp (nx := 9) (tg := 13) rfl rfl rfl (mm_cnd_gt _ _) (fun c6 => ?_) (fun c6 => ?_)
    ·
      refine R_op (nx := 14) rfl rfl rfl ?_
      refine R_ret rfl (fun _ _ => rfl) rfl rfl ?_
      first | exact Or.inl ⟨rfl, by omega, rfl⟩ | exact Or.inr ⟨rfl, by omega, rfl⟩
    ·
      refine R_op (nx := 10) rfl rfl rfl ?_
      refine R_op (nx := 13) (pc' := 14) rfl rfl rfl ?_
      refine R_ret rfl (fun _ _ => rfl) rfl rfl ?_
      first | exact Or.inl ⟨rfl, by omega, rfl⟩ | exact Or.inr ⟨rfl, by omega, rfl⟩

set_option maxRecDepth 20000 in
set_option maxHeartbeats 4000000 in
theorem c_P_isLevel (S : mm_S) (d : Int) : Cl 33 [(0, d)] S (fun v S' => (v = some (0, 1) ∧ (0 ≤ d ∧ d ≤ 9) ∧ S = S') ∨ (v = some (0, 0) ∧ ¬ (0 ≤ d ∧ d ≤ 9) ∧ S = S')) := by
  refine ⟨Nat.le_of_ble_eq_true rfl, ?_⟩
  show Rn k_P_isLevel 0 [(0, d)] [] S _
  refine R_lo (nx := 1) rfl rfl rfl rfl ?_
  refine R_if (nx := 4) (tg := 14) rfl rfl rfl (mm_cnd_lt _ _) (fun c1 => ?_) (fun c1 => ?_)
  ·
    refine R_op (nx := 15) rfl rfl rfl ?_
    refine R_ret rfl (fun _ _ => rfl) rfl rfl ?_
    first | exact Or.inl ⟨rfl, by omega, rfl⟩ | exact Or.inr ⟨rfl, by omega, rfl⟩
  ·
    refine R_lo (nx := 5) rfl rfl rfl rfl ?_
    refine R_op (nx := 7) rfl rfl rfl ?_
    refine R_icmp (nx := 10) (tg := 14) rfl rfl rfl (mm_cnd_gt _ _) (fun c7 => ?_) (fun c7 => ?_)
    ·
      refine R_op (nx := 15) rfl rfl rfl ?_
      refine R_ret rfl (fun _ _ => rfl) rfl rfl ?_
      first | exact Or.inl ⟨rfl, by omega, rfl⟩ | exact Or.inr ⟨rfl, by omega, rfl⟩
    ·
      refine R_op (nx := 11) rfl rfl rfl ?_
      refine R_op (nx := 14) (pc' := 15) rfl rfl rfl ?_
      refine R_ret rfl (fun _ _ => rfl) rfl rfl ?_
      first | exact Or.inl ⟨rfl, by omega, rfl⟩ | exact Or.inr ⟨rfl, by omega, rfl⟩

set_option maxRecDepth 20000 in
set_option maxHeartbeats 4000000 in
theorem c_P_isWay (S : mm_S) (d : Int) : Cl 35 [(0, d)] S (fun v S' => (v = some (0, 1) ∧ (d = 0 ∨ d = 1) ∧ S = S') ∨ (v = some (0, 0) ∧ ¬ (d = 0 ∨ d = 1) ∧ S = S')) := by
  refine ⟨Nat.le_of_ble_eq_true rfl, ?_⟩
  show Rn k_P_isWay 0 [(0, d)] [] S _
  refine R_lo (nx := 1) rfl rfl rfl rfl ?_
  refine R_if (nx := 4) (tg := 9) rfl rfl rfl (mm_cnd_eq _ _) (fun c1 => ?_) (fun c1 => ?_)
  ·
    refine R_op (nx := 10) rfl rfl rfl ?_
    refine R_op (nx := 13) (pc' := 14) rfl rfl rfl ?_
    refine R_ret rfl (fun _ _ => rfl) rfl rfl ?_
    first | exact Or.inl ⟨rfl, by omega, rfl⟩ | exact Or.inr ⟨rfl, by omega, rfl⟩
  ·
    refine R_lo (nx := 5) rfl rfl rfl rfl ?_
    refine R_op (nx := 6) rfl rfl rfl ?_
    refine R_icmp (nx := 9) (tg := 13) rfl rfl rfl (mm_cnd_ne _ _) (fun c6 => ?_) (fun c6 => ?_)
    ·
      refine R_op (nx := 14) rfl rfl rfl ?_
      refine R_ret rfl (fun _ _ => rfl) rfl rfl ?_
      first | exact Or.inl ⟨rfl, by omega, rfl⟩ | exact Or.inr ⟨rfl, by omega, rfl⟩
    ·
      replace c6 := Classical.not_not.mp c6
      refine R_op (nx := 10) rfl rfl rfl ?_
      refine R_op (nx := 13) (pc' := 14) rfl rfl rfl ?_
      refine R_ret rfl (fun _ _ => rfl) rfl rfl ?_
      first | exact Or.inl ⟨rfl, by omega, rfl⟩ | exact Or.inr ⟨rfl, by omega, rfl⟩

set_option maxRecDepth 20000 in
set_option maxHeartbeats 4000000 in
theorem c_P_isSort (S : mm_S) (d : Int) : Cl 37 [(0, d)] S (fun v S' => (v = some (0, 1) ∧ (0 ≤ d ∧ d ≤ 2) ∧ S = S') ∨ (v = some (0, 0) ∧ ¬ (0 ≤ d ∧ d ≤ 2) ∧ S = S')) := by
  refine ⟨Nat.le_of_ble_eq_true rfl, ?_⟩
  show Rn k_P_isSort 0 [(0, d)] [] S _
  refine R_lo (nx := 1) rfl rfl rfl rfl ?_
  refine R_if (nx := 4) (tg := 14) rfl rfl rfl (mm_cnd_eq _ _) (fun c1 => ?_) (fun c1 => ?_)
  ·
    refine R_op (nx := 15) rfl rfl rfl ?_
    refine R_op (nx := 18) (pc' := 19) rfl rfl rfl ?_
    refine R_ret rfl (fun _ _ => rfl) rfl rfl ?_
    first | exact Or.inl ⟨rfl, by omega, rfl⟩ | exact Or.inr ⟨rfl, by omega, rfl⟩
  ·
    refine R_lo (nx := 5) rfl rfl rfl rfl ?_
    refine R_op (nx := 6) rfl rfl rfl ?_
    refine R_icmp (nx := 9) (tg := 14) rfl rfl rfl (mm_cnd_eq _ _) (fun c6 => ?_) (fun c6 => ?_)
    ·
      refine R_op (nx := 15) rfl rfl rfl ?_
      refine R_op (nx := 18) (pc' := 19) rfl rfl rfl ?_
      refine R_ret rfl (fun _ _ => rfl) rfl rfl ?_
      first | exact Or.inl ⟨rfl, by omega, rfl⟩ | exact Or.inr ⟨rfl, by omega, rfl⟩
    ·
      refine R_lo (nx := 10) rfl rfl rfl rfl ?_
      refine R_op (nx := 11) rfl rfl rfl ?_
      refine R_icmp (nx := 14) (tg := 18) rfl rfl rfl (mm_cnd_ne _ _) (fun c11 => ?_) (fun c11 => ?_)
      ·
        refine R_op (nx := 19) rfl rfl rfl ?_
        refine R_ret rfl (fun _ _ => rfl) rfl rfl ?_
        first | exact Or.inl ⟨rfl, by omega, rfl⟩ | exact Or.inr ⟨rfl, by omega, rfl⟩
      ·
        replace c11 := Classical.not_not.mp c11
        refine R_op (nx := 15) rfl rfl rfl ?_
        refine R_op (nx := 18) (pc' := 19) rfl rfl rfl ?_
        refine R_ret rfl (fun _ _ => rfl) rfl rfl ?_
        first | exact Or.inl ⟨rfl, by omega, rfl⟩ | exact Or.inr ⟨rfl, by omega, rfl⟩

def Xpr (p : Int) : Prop := p = 2 ∨ p = 3 ∨ p = 5 ∨ p = 7
def Xpr_dec (p : Int) : Decidable (Xpr p) := by unfold Xpr; infer_instance
def Xmay_dec (K : CX) (x y : Int) : Decidable (Xmay K x y) := by unfold Xmay; infer_instance
def Xfit_dec (K K2 : CX) : Decidable (Xfit K K2) := by unfold Xfit; infer_instance
def ifp {α : Type} (p : Int) (a b : α) : α := @ite α (Xpr p) (Xpr_dec p) a b
def ifm {α : Type} (K : CX) (x y : Int) (a b : α) : α := @ite α (Xmay K x y) (Xmay_dec K x y) a b
def iffq {α : Type} (K K2 : CX) (a b : α) : α := @ite α (Xfit K K2) (Xfit_dec K K2) a b

set_option maxRecDepth 20000 in
set_option maxHeartbeats 4000000 in
theorem c_P_isPrime (S : mm_S) (d : Int) : Cl 36 [(0, d)] S (fun v S' => (v = some (0, 1) ∧ (Xpr d) ∧ S = S') ∨ (v = some (0, 0) ∧ ¬ (Xpr d) ∧ S = S')) := by
  refine ⟨Nat.le_of_ble_eq_true rfl, ?_⟩
  show Rn k_P_isPrime 0 [(0, d)] [] S _
  refine R_lo (nx := 1) rfl rfl rfl rfl ?_
  refine R_op (nx := 2) rfl rfl rfl ?_
  refine R_icmp (nx := 5) (tg := 21) rfl rfl rfl (mm_cnd_eq _ _) (fun c2 => ?_) (fun c2 => ?_)
  ·
    refine R_op (nx := 22) rfl rfl rfl ?_
    refine R_op (nx := 25) (pc' := 26) rfl rfl rfl ?_
    refine R_ret rfl (fun _ _ => rfl) rfl rfl ?_
    unfold Xpr
    first | exact Or.inl ⟨rfl, by omega, rfl⟩ | exact Or.inr ⟨rfl, by omega, rfl⟩
  ·
    refine R_lo (nx := 6) rfl rfl rfl rfl ?_
    refine R_op (nx := 7) rfl rfl rfl ?_
    refine R_icmp (nx := 10) (tg := 21) rfl rfl rfl (mm_cnd_eq _ _) (fun c7 => ?_) (fun c7 => ?_)
    ·
      refine R_op (nx := 22) rfl rfl rfl ?_
      refine R_op (nx := 25) (pc' := 26) rfl rfl rfl ?_
      refine R_ret rfl (fun _ _ => rfl) rfl rfl ?_
      unfold Xpr
      first | exact Or.inl ⟨rfl, by omega, rfl⟩ | exact Or.inr ⟨rfl, by omega, rfl⟩
    ·
      refine R_lo (nx := 11) rfl rfl rfl rfl ?_
      refine R_op (nx := 12) rfl rfl rfl ?_
      refine R_icmp (nx := 15) (tg := 21) rfl rfl rfl (mm_cnd_eq _ _) (fun c12 => ?_) (fun c12 => ?_)
      ·
        refine R_op (nx := 22) rfl rfl rfl ?_
        refine R_op (nx := 25) (pc' := 26) rfl rfl rfl ?_
        refine R_ret rfl (fun _ _ => rfl) rfl rfl ?_
        unfold Xpr
        first | exact Or.inl ⟨rfl, by omega, rfl⟩ | exact Or.inr ⟨rfl, by omega, rfl⟩
      ·
        refine R_lo (nx := 16) rfl rfl rfl rfl ?_
        refine R_op (nx := 18) rfl rfl rfl ?_
        refine R_icmp (nx := 21) (tg := 25) rfl rfl rfl (mm_cnd_ne _ _) (fun c18 => ?_) (fun c18 => ?_)
        ·
          refine R_op (nx := 26) rfl rfl rfl ?_
          refine R_ret rfl (fun _ _ => rfl) rfl rfl ?_
          unfold Xpr
          first | exact Or.inl ⟨rfl, by omega, rfl⟩ | exact Or.inr ⟨rfl, by omega, rfl⟩
        ·
          replace c18 := Classical.not_not.mp c18
          refine R_op (nx := 22) rfl rfl rfl ?_
          refine R_op (nx := 25) (pc' := 26) rfl rfl rfl ?_
          refine R_ret rfl (fun _ _ => rfl) rfl rfl ?_
          unfold Xpr
          first | exact Or.inl ⟨rfl, by omega, rfl⟩ | exact Or.inr ⟨rfl, by omega, rfl⟩

set_option maxRecDepth 20000 in
set_option maxHeartbeats 4000000 in
theorem c_M_isPrime (S : mm_S) (d : Int) : Cl 69 [(0, d)] S (fun v S' => (v = some (0, 1) ∧ (Xpr d) ∧ S = S') ∨ (v = some (0, 0) ∧ ¬ (Xpr d) ∧ S = S')) := by
  refine ⟨Nat.le_of_ble_eq_true rfl, ?_⟩
  show Rn k_M_isPrime 0 [(0, d)] [] S _
  refine R_lo (nx := 1) rfl rfl rfl rfl ?_
  refine R_op (nx := 2) rfl rfl rfl ?_
  refine R_icmp (nx := 5) (tg := 21) rfl rfl rfl (mm_cnd_eq _ _) (fun c2 => ?_) (fun c2 => ?_)
  ·
    refine R_op (nx := 22) rfl rfl rfl ?_
    refine R_op (nx := 25) (pc' := 26) rfl rfl rfl ?_
    refine R_ret rfl (fun _ _ => rfl) rfl rfl ?_
    unfold Xpr
    first | exact Or.inl ⟨rfl, by omega, rfl⟩ | exact Or.inr ⟨rfl, by omega, rfl⟩
  ·
    refine R_lo (nx := 6) rfl rfl rfl rfl ?_
    refine R_op (nx := 7) rfl rfl rfl ?_
    refine R_icmp (nx := 10) (tg := 21) rfl rfl rfl (mm_cnd_eq _ _) (fun c7 => ?_) (fun c7 => ?_)
    ·
      refine R_op (nx := 22) rfl rfl rfl ?_
      refine R_op (nx := 25) (pc' := 26) rfl rfl rfl ?_
      refine R_ret rfl (fun _ _ => rfl) rfl rfl ?_
      unfold Xpr
      first | exact Or.inl ⟨rfl, by omega, rfl⟩ | exact Or.inr ⟨rfl, by omega, rfl⟩
    ·
      refine R_lo (nx := 11) rfl rfl rfl rfl ?_
      refine R_op (nx := 12) rfl rfl rfl ?_
      refine R_icmp (nx := 15) (tg := 21) rfl rfl rfl (mm_cnd_eq _ _) (fun c12 => ?_) (fun c12 => ?_)
      ·
        refine R_op (nx := 22) rfl rfl rfl ?_
        refine R_op (nx := 25) (pc' := 26) rfl rfl rfl ?_
        refine R_ret rfl (fun _ _ => rfl) rfl rfl ?_
        unfold Xpr
        first | exact Or.inl ⟨rfl, by omega, rfl⟩ | exact Or.inr ⟨rfl, by omega, rfl⟩
      ·
        refine R_lo (nx := 16) rfl rfl rfl rfl ?_
        refine R_op (nx := 18) rfl rfl rfl ?_
        refine R_icmp (nx := 21) (tg := 25) rfl rfl rfl (mm_cnd_ne _ _) (fun c18 => ?_) (fun c18 => ?_)
        ·
          refine R_op (nx := 26) rfl rfl rfl ?_
          refine R_ret rfl (fun _ _ => rfl) rfl rfl ?_
          unfold Xpr
          first | exact Or.inl ⟨rfl, by omega, rfl⟩ | exact Or.inr ⟨rfl, by omega, rfl⟩
        ·
          replace c18 := Classical.not_not.mp c18
          refine R_op (nx := 22) rfl rfl rfl ?_
          refine R_op (nx := 25) (pc' := 26) rfl rfl rfl ?_
          refine R_ret rfl (fun _ _ => rfl) rfl rfl ?_
          unfold Xpr
          first | exact Or.inl ⟨rfl, by omega, rfl⟩ | exact Or.inr ⟨rfl, by omega, rfl⟩

set_option maxRecDepth 20000 in
set_option maxHeartbeats 4000000 in
theorem c_P_isEntry (S : mm_S) (d : Int) : Cl 34 [(1, d)] S (fun v S' => (v = some (0, 1) ∧ (-9 ≤ d ∧ d ≤ 9) ∧ S = S') ∨ (v = some (0, 0) ∧ ¬ (-9 ≤ d ∧ d ≤ 9) ∧ S = S')) := by
  refine ⟨Nat.le_of_ble_eq_true rfl, ?_⟩
  show Rn k_P_isEntry 0 [(1, d), (9, 0)] [] S _
  refine R_lo (nx := 1) rfl rfl rfl rfl ?_
  refine R_op (nx := 4) rfl rfl rfl ?_
  refine R_op (nx := 5) (st' := [(0, (if (-9) < d then 1 else if d = (-9) then 0 else -1))]) rfl rfl rfl ?_
  refine R_if (nx := 8) (tg := 20) rfl rfl rfl (mm_lc_lt _ _) (fun c5 => ?_) (fun c5 => ?_)
  ·
    refine R_op (nx := 21) rfl rfl rfl ?_
    refine R_ret rfl (fun _ _ => rfl) rfl rfl ?_
    first | exact Or.inl ⟨rfl, by omega, rfl⟩ | exact Or.inr ⟨rfl, by omega, rfl⟩
  ·
    refine R_lo (nx := 9) rfl rfl rfl rfl ?_
    refine R_op (nx := 12) rfl rfl rfl ?_
    refine R_op (nx := 13) (st' := [(0, (if 9 < d then 1 else if d = 9 then 0 else -1))]) rfl rfl rfl ?_
    refine R_if (nx := 16) (tg := 20) rfl rfl rfl (mm_lc_gt _ _) (fun c13 => ?_) (fun c13 => ?_)
    ·
      refine R_op (nx := 21) rfl rfl rfl ?_
      refine R_ret rfl (fun _ _ => rfl) rfl rfl ?_
      first | exact Or.inl ⟨rfl, by omega, rfl⟩ | exact Or.inr ⟨rfl, by omega, rfl⟩
    ·
      refine R_op (nx := 17) rfl rfl rfl ?_
      refine R_op (nx := 20) (pc' := 21) rfl rfl rfl ?_
      refine R_ret rfl (fun _ _ => rfl) rfl rfl ?_
      first | exact Or.inl ⟨rfl, by omega, rfl⟩ | exact Or.inr ⟨rfl, by omega, rfl⟩

def Q_clear (A : mm_A) (c : Int) : Int × mm_A := if 0 ≤ c ∧ c < 4 then (Xn (AK A c), Akc A c Xz) else (-1, A)

set_option maxRecDepth 20000 in
set_option maxHeartbeats 4000000 in
theorem c_P_clear (S : mm_S) (A : mm_A) (hRC : RC S A) (hV : Vs A) (c : Int) : Cl 0 [(2, 0), (0, c)] S (fun vv S' => vv = some (0, (Q_clear A c).1) ∧ RC S' (Q_clear A c).2 ∧ ∀ b, 71 ≤ b → S' b = S b) := by
  refine ⟨Nat.le_of_ble_eq_true rfl, ?_⟩
  show Rn k_P_clear 0 [(2, 0), (0, c), (9, 0), (9, 0)] [] S _
  refine R_lo (nx := 1) rfl rfl rfl rfl ?_
  refine R_lo (nx := 2) rfl rfl rfl rfl ?_
  refine R_call1 (nx := 5) (as := [(2, 0), (0, c)]) (rest := []) rfl rfl (fun _ _ => rfl) rfl rfl rfl rfl rfl rfl rfl rfl (Cl.mono (c_P_complexAt S c) ?_)
  rintro _ _ (⟨rfl, b2, rfl⟩ | ⟨rfl, b2, rfl⟩)
  ·
    have kb2 := hRC.k b2.1 b2.2
    have vb2 := hV.1 c b2.1 b2.2
    have rb2 := vb2.2.1
    have nb2 := kb2.n
    have zb2 := kb2.nr
    refine ⟨_, rfl, ?_⟩
    refine R_lo (nx := 6) (ls' := [(2, 0), (0, c), (2, (23 + 10 * c)), (9, 0)]) rfl rfl rfl rfl ?_
    refine R_lo (nx := 7) rfl rfl rfl rfl ?_
    refine R_ifnonnull (nx := 10) (tg := 12) rfl rfl rfl (fun h => ?_) (fun h => absurd (by have := (isC_kd (isC_c (i := c) (by omega) (by omega))).1; omega) h)
    refine R_lo (nx := 13) rfl rfl rfl rfl ?_
    refine R_get (nx := 16) (w := (0, (S (23 + 10 * c) 0))) rfl rfl (isC_ob (isC_c (i := c) (by omega) (by omega))) rfl ?_
    rw [nb2]
    refine R_lo (nx := 17) (ls' := [(2, 0), (0, c), (2, (23 + 10 * c)), (0, (Xn (AK A c)))]) rfl rfl rfl rfl ?_
    refine R_lo (nx := 18) rfl rfl rfl rfl ?_
    refine R_call0 (nx := 21) (as := [(2, (23 + 10 * c))]) (rest := []) rfl rfl (fun _ _ => rfl) rfl rfl rfl rfl rfl rfl (isC_rc (isC_c (i := c) (by omega) (by omega)) _) rfl (Cl.mono (c_C_empty S (23 + 10 * c) (isC_c (i := c) (by omega) (by omega))) ?_)
    rintro _ S18 ⟨rfl, m18, f18⟩
    refine ⟨rfl, ?_⟩
    refine R_lo (nx := 22) rfl rfl rfl rfl ?_
    refine R_ret rfl (fun _ _ => rfl) rfl rfl ?_
    rw [show Q_clear A c = ((Xn (AK A c)), Akc A c Xz) from by simp only [Q_clear, b2, ifm, ifp, iffq, ↓reduceIte, ite_self, and_self, and_true, true_and, and_false, false_and, or_true, true_or, or_false, false_or, or_self, not_true_eq_false, not_false_eq_true, ne_eq]]; exact ⟨rfl, hRC.kc b2 m18 fun b hb hc => f18 b (by omega), fun b hb => f18 b (by omega)⟩
  ·
    refine ⟨_, rfl, ?_⟩
    refine R_lo (nx := 6) (ls' := [(2, 0), (0, c), (2, (-1)), (9, 0)]) rfl rfl rfl rfl ?_
    refine R_lo (nx := 7) rfl rfl rfl rfl ?_
    refine R_ifnonnull (nx := 10) (tg := 12) rfl rfl rfl (fun h => absurd h (by decide)) (fun h => ?_)
    refine R_op (nx := 11) rfl rfl rfl ?_
    refine R_ret rfl (fun _ _ => rfl) rfl rfl ?_
    rw [show Q_clear A c = ((-1), A) from by simp only [Q_clear, b2, ifm, ifp, iffq, ↓reduceIte, ite_self, and_self, and_true, true_and, and_false, false_and, or_true, true_or, or_false, false_or, or_self, not_true_eq_false, not_false_eq_true, ne_eq]]; exact ⟨rfl, hRC, fun b _ => rfl⟩

set_option maxRecDepth 20000 in
set_option maxHeartbeats 4000000 in
theorem c_M_clear (S : mm_S) (A : mm_A) (hRR : RR S A) (hV : Vs A) (c : Int) : Cl 56 [(2, 71), (0, c)] S (fun vv S' => vv = some (0, (Q_clear A c).1) ∧ RR S' (Q_clear A c).2 ∧ ∀ b, ¬ (71 ≤ b ∧ b < 91) → S' b = S b) := by
  refine ⟨Nat.le_of_ble_eq_true rfl, ?_⟩
  show Rn k_M_clear 0 [(2, 71), (0, c), (9, 0)] [] S _
  refine R_lo (nx := 1) rfl rfl rfl rfl ?_
  refine R_call1 (nx := 4) (as := [(0, c)]) (rest := []) rfl rfl (fun _ _ => rfl) rfl rfl rfl rfl rfl rfl rfl rfl (Cl.mono (c_M_isComplex S c) ?_)
  rintro _ _ (⟨rfl, b1, rfl⟩ | ⟨rfl, b1, rfl⟩)
  ·
    try have k1 := hRR.k b1.1 b1.2
    refine ⟨_, rfl, ?_⟩
    refine R_ifT (tg := 9) rfl rfl rfl ?_
    refine R_lo (nx := 10) rfl rfl rfl rfl ?_
    refine R_get (nx := 13) (w := (2, 72)) rfl rfl rfl rfl ?_
    refine R_lo (nx := 14) rfl rfl rfl rfl ?_
    refine R_iald (nx := 15) rfl rfl (mm_el_ok 1 5 (by decide) rfl (by decide) (by omega) (by omega)) ?_
    rw [k1.n]
    refine R_lo (nx := 16) (ls' := [(2, 71), (0, c), (0, (Xn (AK A c)))]) rfl rfl rfl rfl ?_
    refine R_lo (nx := 17) rfl rfl rfl rfl ?_
    refine R_lo (nx := 18) rfl rfl rfl rfl ?_
    refine R_call0 (nx := 21) (as := [(2, 71), (0, c)]) (rest := []) rfl rfl (fun _ _ => rfl) rfl rfl rfl rfl rfl rfl rfl rfl (Cl.mono (c_M_empties S c (by omega)) ?_)
    rintro _ S18 ⟨rfl, m18, o18, f18⟩
    refine ⟨rfl, ?_⟩
    refine R_lo (nx := 22) rfl rfl rfl rfl ?_
    refine R_ret rfl (fun _ _ => rfl) rfl rfl ?_
    rw [show Q_clear A c = ((Xn (AK A c)), Akc A c Xz) from by simp only [Q_clear, b1, ifm, ifp, iffq, ↓reduceIte, ite_self, and_self, and_true, true_and, and_false, false_and, or_true, true_or, or_false, false_or, or_self, not_true_eq_false, not_false_eq_true, ne_eq]]; exact ⟨rfl, hRR.kc m18 o18 (R71.of (f18 71 (by omega))) fun b hb => f18 b (by omega), fun b hb => f18 b (by omega)⟩
  ·
    try have k1 := hRR.k b1.1 b1.2
    refine ⟨_, rfl, ?_⟩
    refine R_ifF (nx := 7) rfl rfl rfl ?_
    refine R_op (nx := 8) rfl rfl rfl ?_
    refine R_ret rfl (fun _ _ => rfl) rfl rfl ?_
    rw [show Q_clear A c = ((-1), A) from by simp only [Q_clear, b1, ifm, ifp, iffq, ↓reduceIte, ite_self, and_self, and_true, true_and, and_false, false_and, or_true, true_or, or_false, false_or, or_self, not_true_eq_false, not_false_eq_true, ne_eq]]; exact ⟨rfl, hRR, fun b _ => rfl⟩

def Q_cell (A : mm_A) (c d l o : Int) : Int × mm_A := if 0 ≤ c ∧ c < 4 then (if 0 ≤ d ∧ d ≤ 4 then (if 0 ≤ l ∧ l ≤ 9 then (if 0 ≤ o ∧ o ≤ 9 then (if Xn (AK A c) = 12 then (-2, A) else (Xn (AK A c), Akc A c (Xadd (AK A c) d l o))) else (-1, A)) else (-1, A)) else (-1, A)) else (-1, A)

set_option maxRecDepth 20000 in
set_option maxHeartbeats 4000000 in
theorem c_P_cell (S : mm_S) (A : mm_A) (hRC : RC S A) (hV : Vs A) (c d l o : Int) : Cl 1 [(2, 0), (0, c), (0, d), (0, l), (0, o)] S (fun vv S' => vv = some (0, (Q_cell A c d l o).1) ∧ RC S' (Q_cell A c d l o).2 ∧ ∀ b, 71 ≤ b → S' b = S b) := by
  refine ⟨Nat.le_of_ble_eq_true rfl, ?_⟩
  show Rn k_P_cell 0 [(2, 0), (0, c), (0, d), (0, l), (0, o), (9, 0)] [] S _
  refine R_lo (nx := 1) rfl rfl rfl rfl ?_
  refine R_lo (nx := 2) rfl rfl rfl rfl ?_
  refine R_call1 (nx := 5) (as := [(2, 0), (0, c)]) (rest := []) rfl rfl (fun _ _ => rfl) rfl rfl rfl rfl rfl rfl rfl rfl (Cl.mono (c_P_complexAt S c) ?_)
  rintro _ _ (⟨rfl, b2, rfl⟩ | ⟨rfl, b2, rfl⟩)
  ·
    have kb2 := hRC.k b2.1 b2.2
    have vb2 := hV.1 c b2.1 b2.2
    have rb2 := vb2.2.1
    have nb2 := kb2.n
    have zb2 := kb2.nr
    refine ⟨_, rfl, ?_⟩
    refine R_lo (nx := 7) (ls' := [(2, 0), (0, c), (0, d), (0, l), (0, o), (2, (23 + 10 * c))]) rfl rfl rfl rfl ?_
    refine R_lo (nx := 9) rfl rfl rfl rfl ?_
    refine R_ifnull (nx := 12) (tg := 34) rfl rfl rfl (fun h => absurd h (by have := (isC_kd (isC_c (i := c) (by omega) (by omega))).1; omega)) (fun h => ?_)
    refine R_lo (nx := 13) rfl rfl rfl rfl ?_
    refine R_call1 (nx := 16) (as := [(0, d)]) (rest := []) rfl rfl (fun _ _ => rfl) rfl rfl rfl rfl rfl rfl rfl rfl (Cl.mono (c_P_isDegree S d) ?_)
    rintro _ _ (⟨rfl, b13, rfl⟩ | ⟨rfl, b13, rfl⟩)
    ·
      refine ⟨_, rfl, ?_⟩
      refine R_ifF (nx := 19) rfl rfl rfl ?_
      refine R_lo (nx := 20) rfl rfl rfl rfl ?_
      refine R_call1 (nx := 23) (as := [(0, l)]) (rest := []) rfl rfl (fun _ _ => rfl) rfl rfl rfl rfl rfl rfl rfl rfl (Cl.mono (c_P_isLevel S l) ?_)
      rintro _ _ (⟨rfl, b20, rfl⟩ | ⟨rfl, b20, rfl⟩)
      ·
        refine ⟨_, rfl, ?_⟩
        refine R_ifF (nx := 26) rfl rfl rfl ?_
        refine R_lo (nx := 28) rfl rfl rfl rfl ?_
        refine R_call1 (nx := 31) (as := [(0, o)]) (rest := []) rfl rfl (fun _ _ => rfl) rfl rfl rfl rfl rfl rfl rfl rfl (Cl.mono (c_P_isLevel S o) ?_)
        rintro _ _ (⟨rfl, b28, rfl⟩ | ⟨rfl, b28, rfl⟩)
        ·
          refine ⟨_, rfl, ?_⟩
          refine R_ifT (tg := 36) rfl rfl rfl ?_
          refine R_lo (nx := 38) rfl rfl rfl rfl ?_
          refine R_lo (nx := 39) rfl rfl rfl rfl ?_
          refine R_lo (nx := 40) rfl rfl rfl rfl ?_
          refine R_lo (nx := 42) rfl rfl rfl rfl ?_
          refine R_call1 (nx := 45) (as := [(2, (23 + 10 * c)), (0, d), (0, l), (0, o)]) (rest := []) rfl rfl (fun _ _ => rfl) rfl rfl rfl rfl rfl rfl (isC_rc (isC_c (i := c) (by omega) (by omega)) _) rfl (Cl.mono (c_C_add S (23 + 10 * c) (isC_c (i := c) (by omega) (by omega)) (AK A c) (by first | assumption | exact MC.up (by assumption) (by omega) | exact MC.up (MC.up (by assumption) (by omega)) (by omega) | exact MC.up (MC.up (MC.up (by assumption) (by omega)) (by omega)) (by omega)) d l o) ?_)
          rintro _ S42 (⟨rfl, b42, m42, f42⟩ | ⟨rfl, b42, rfl⟩)
          ·
            refine ⟨_, rfl, ?_⟩
            refine R_ret rfl (fun _ _ => rfl) rfl rfl ?_
            rw [show Q_cell A c d l o = ((Xn (AK A c)), Akc A c (Xadd (AK A c) d l o)) from by simp only [Q_cell, (show ¬ Xn (AK A c) = 12 by omega), b2, b13, b20, b28, b42, ifm, ifp, iffq, ↓reduceIte, ite_self, and_self, and_true, true_and, and_false, false_and, or_true, true_or, or_false, false_or, or_self, not_true_eq_false, not_false_eq_true, ne_eq]]; exact ⟨rfl, hRC.kc b2 m42 fun b hb hc => f42 b (by omega), fun b hb => f42 b (by omega)⟩
          ·
            refine ⟨_, rfl, ?_⟩
            refine R_ret rfl (fun _ _ => rfl) rfl rfl ?_
            rw [show Q_cell A c d l o = ((-2), A) from by simp only [Q_cell, b2, b13, b20, b28, b42, ifm, ifp, iffq, ↓reduceIte, ite_self, and_self, and_true, true_and, and_false, false_and, or_true, true_or, or_false, false_or, or_self, not_true_eq_false, not_false_eq_true, ne_eq]]; exact ⟨rfl, hRC, fun b _ => rfl⟩
        ·
          refine ⟨_, rfl, ?_⟩
          refine R_ifF (nx := 34) rfl rfl rfl ?_
          refine R_op (nx := 35) rfl rfl rfl ?_
          refine R_ret rfl (fun _ _ => rfl) rfl rfl ?_
          rw [show Q_cell A c d l o = ((-1), A) from by simp only [Q_cell, b2, b13, b20, b28, ifm, ifp, iffq, ↓reduceIte, ite_self, and_self, and_true, true_and, and_false, false_and, or_true, true_or, or_false, false_or, or_self, not_true_eq_false, not_false_eq_true, ne_eq]]; exact ⟨rfl, hRC, fun b _ => rfl⟩
      ·
        refine ⟨_, rfl, ?_⟩
        refine R_ifT (tg := 34) rfl rfl rfl ?_
        refine R_op (nx := 35) rfl rfl rfl ?_
        refine R_ret rfl (fun _ _ => rfl) rfl rfl ?_
        rw [show Q_cell A c d l o = ((-1), A) from by simp only [Q_cell, b2, b13, b20, ifm, ifp, iffq, ↓reduceIte, ite_self, and_self, and_true, true_and, and_false, false_and, or_true, true_or, or_false, false_or, or_self, not_true_eq_false, not_false_eq_true, ne_eq]]; exact ⟨rfl, hRC, fun b _ => rfl⟩
    ·
      refine ⟨_, rfl, ?_⟩
      refine R_ifT (tg := 34) rfl rfl rfl ?_
      refine R_op (nx := 35) rfl rfl rfl ?_
      refine R_ret rfl (fun _ _ => rfl) rfl rfl ?_
      rw [show Q_cell A c d l o = ((-1), A) from by simp only [Q_cell, b2, b13, ifm, ifp, iffq, ↓reduceIte, ite_self, and_self, and_true, true_and, and_false, false_and, or_true, true_or, or_false, false_or, or_self, not_true_eq_false, not_false_eq_true, ne_eq]]; exact ⟨rfl, hRC, fun b _ => rfl⟩
  ·
    refine ⟨_, rfl, ?_⟩
    refine R_lo (nx := 7) (ls' := [(2, 0), (0, c), (0, d), (0, l), (0, o), (2, (-1))]) rfl rfl rfl rfl ?_
    refine R_lo (nx := 9) rfl rfl rfl rfl ?_
    refine R_ifnull (nx := 12) (tg := 34) rfl rfl rfl (fun h => ?_) (fun h => absurd (by decide) h)
    refine R_op (nx := 35) rfl rfl rfl ?_
    refine R_ret rfl (fun _ _ => rfl) rfl rfl ?_
    rw [show Q_cell A c d l o = ((-1), A) from by simp only [Q_cell, b2, ifm, ifp, iffq, ↓reduceIte, ite_self, and_self, and_true, true_and, and_false, false_and, or_true, true_or, or_false, false_or, or_self, not_true_eq_false, not_false_eq_true, ne_eq]]; exact ⟨rfl, hRC, fun b _ => rfl⟩

theorem MR_cell {S : mm_S} {A : mm_A} {c : Int} (h : RR S A) (hc : 0 ≤ c ∧ c < 4) (hn : Xn (AK A c) < 12) (d l o : Int) {S1 : mm_S} (e : S1 = mm_up (mm_up (mm_up S 73 (12 * c + Xn (AK A c)) d) 74 (24 * c + Xn (AK A c)) l) 74 (12 * (2 * c + 1) + Xn (AK A c)) o) : RR (mm_up S1 72 c (Xn (AK A c) + 1)) (Akc A c (Xadd (AK A c) d l o)) := by
  have hk := h.k hc.1 hc.2
  have hnr := hk.1.nr
  have hO : Oth S S1 c := by rw [e]; exact (Oth.rf S c).sets d l o hc.1 ⟨hnr.1, hn⟩
  have hne : ∀ b, ¬ (73 ≤ b ∧ b ≤ 74) → S1 b = S b := fun b hb => by rw [e, mm_unq (by omega), mm_unq (by omega), mm_unq (by omega)]
  refine h.kc (S' := mm_up S1 72 c (Xn (AK A c) + 1)) ⟨⟨Xadd_Nz hk.1.1 d l o hn, fun x p q => ?_, fun x y p q r t => ?_⟩, mm_ua⟩ (hO.u72 _) (R71.of (by rw [mm_unq (by decide), hne 71 (by omega)])) fun b hb => by rw [mm_unq (by omega), hne b (by omega)]
  · rw [Xadd_n] at q
    rw [mm_unq (by decide), mm_unq (by decide), Xadd_d, Xadd_0, Xadd_1, e, mm_unq (by decide), mm_unq (by decide)]
    by_cases ex : x = Xn (AK A c)
    · rw [if_pos ex, if_pos ex, if_pos ex, ex]
      refine ⟨mm_ua, ?_, mm_ua⟩
      rw [mm_uk (by omega), show 12 * (2 * c) + Xn (AK A c) = 24 * c + Xn (AK A c) by omega]; exact mm_ua
    · rw [if_neg ex, if_neg ex, if_neg ex, mm_uk (by omega), mm_uk (by omega), mm_uk (by omega), mm_unq (by decide), mm_uk (by omega), mm_uk (by omega), mm_unq (by decide)]
      exact hk.1.2.1 x p (by omega)
  · rw [mm_unq (by decide), hne 75 (by omega), Xadd_e]; exact hk.1.e ⟨p, q⟩ ⟨r, t⟩

set_option maxRecDepth 20000 in
set_option maxHeartbeats 4000000 in
theorem c_M_cell (S : mm_S) (A : mm_A) (hRR : RR S A) (hV : Vs A) (c d l o : Int) : Cl 57 [(2, 71), (0, c), (0, d), (0, l), (0, o)] S (fun vv S' => vv = some (0, (Q_cell A c d l o).1) ∧ RR S' (Q_cell A c d l o).2 ∧ ∀ b, ¬ (71 ≤ b ∧ b < 91) → S' b = S b) := by
  refine ⟨Nat.le_of_ble_eq_true rfl, ?_⟩
  show Rn k_M_cell 0 [(2, 71), (0, c), (0, d), (0, l), (0, o)] [] S _
  refine R_lo (nx := 1) rfl rfl rfl rfl ?_
  refine R_call1 (nx := 4) (as := [(0, c)]) (rest := []) rfl rfl (fun _ _ => rfl) rfl rfl rfl rfl rfl rfl rfl rfl (Cl.mono (c_M_isComplex S c) ?_)
  rintro _ _ (⟨rfl, b1, rfl⟩ | ⟨rfl, b1, rfl⟩)
  ·
    try have k1 := hRR.k b1.1 b1.2
    try have n1 := k1.n
    try have z1 := k1.1.nr
    try have v1 := hV.1 _ b1.1 b1.2
    try have r1 := v1.2.1
    refine ⟨_, rfl, ?_⟩
    refine R_ifF (nx := 7) rfl rfl rfl ?_
    refine R_lo (nx := 8) rfl rfl rfl rfl ?_
    refine R_op (nx := 9) rfl rfl rfl ?_
    refine R_op (nx := 10) rfl rfl rfl ?_
    refine R_call1 (nx := 13) (as := [(0, d), (0, 0), (0, 4)]) (rest := []) rfl rfl (fun _ _ => rfl) rfl rfl rfl rfl rfl rfl rfl rfl (Cl.mono (c_M_in S d 0 4) ?_)
    rintro _ _ (⟨rfl, b10, rfl⟩ | ⟨rfl, b10, rfl⟩)
    ·
      refine ⟨_, rfl, ?_⟩
      refine R_ifF (nx := 16) rfl rfl rfl ?_
      refine R_lo (nx := 17) rfl rfl rfl rfl ?_
      refine R_op (nx := 18) rfl rfl rfl ?_
      refine R_op (nx := 20) rfl rfl rfl ?_
      refine R_call1 (nx := 23) (as := [(0, l), (0, 0), (0, 9)]) (rest := []) rfl rfl (fun _ _ => rfl) rfl rfl rfl rfl rfl rfl rfl rfl (Cl.mono (c_M_in S l 0 9) ?_)
      rintro _ _ (⟨rfl, b20, rfl⟩ | ⟨rfl, b20, rfl⟩)
      ·
        refine ⟨_, rfl, ?_⟩
        refine R_ifF (nx := 26) rfl rfl rfl ?_
        refine R_lo (nx := 28) rfl rfl rfl rfl ?_
        refine R_op (nx := 29) rfl rfl rfl ?_
        refine R_op (nx := 31) rfl rfl rfl ?_
        refine R_call1 (nx := 34) (as := [(0, o), (0, 0), (0, 9)]) (rest := []) rfl rfl (fun _ _ => rfl) rfl rfl rfl rfl rfl rfl rfl rfl (Cl.mono (c_M_in S o 0 9) ?_)
        rintro _ _ (⟨rfl, b31, rfl⟩ | ⟨rfl, b31, rfl⟩)
        ·
          refine ⟨_, rfl, ?_⟩
          refine R_ifT (tg := 39) rfl rfl rfl ?_
          refine R_lo (nx := 40) rfl rfl rfl rfl ?_
          refine R_get (nx := 43) (w := (2, 72)) rfl rfl rfl rfl ?_
          refine R_lo (nx := 44) rfl rfl rfl rfl ?_
          refine R_iald (nx := 45) rfl rfl (mm_el_ok 1 5 (by decide) rfl (by decide) (by omega) (by omega)) ?_
          rw [n1]
          refine R_op (nx := 47) rfl rfl rfl ?_
          refine R_icmp (nx := 50) (tg := 53) rfl rfl rfl (mm_cnd_ne _ _) (fun c47 => ?_) (fun c47 => ?_)
          ·
            refine R_lo (nx := 54) rfl rfl rfl rfl ?_
            refine R_lo (nx := 55) rfl rfl rfl rfl ?_
            refine R_lo (nx := 56) rfl rfl rfl rfl ?_
            refine R_get (nx := 59) (w := (2, 72)) rfl rfl rfl rfl ?_
            refine R_lo (nx := 60) rfl rfl rfl rfl ?_
            refine R_iald (nx := 61) rfl rfl (mm_el_ok 1 5 (by decide) rfl (by decide) (by omega) (by omega)) ?_
            rw [n1]
            refine R_lo (nx := 62) rfl rfl rfl rfl ?_
            refine R_lo (nx := 63) rfl rfl rfl rfl ?_
            refine R_lo (nx := 65) rfl rfl rfl rfl ?_
            refine R_call0 (nx := 68) (as := [(2, 71), (0, c), (0, (Xn (AK A c))), (0, d), (0, l), (0, o)]) (rest := []) rfl rfl (fun _ _ => rfl) rfl rfl rfl rfl rfl rfl rfl rfl (Cl.mono (c_M_sets S c (Xn (AK A c)) d l o (by omega) (by omega)) ?_)
            rintro _ S65 ⟨rfl, e65⟩
            refine ⟨rfl, ?_⟩
            refine R_lo (nx := 69) rfl rfl rfl rfl ?_
            refine R_get (nx := 72) (w := (2, 72)) rfl rfl rfl rfl ?_
            refine R_lo (nx := 73) rfl rfl rfl rfl ?_
            refine R_op (nx := 74) rfl rfl rfl ?_
            refine R_iald (nx := 75) rfl rfl (mm_el_ok 1 5 (by decide) rfl (by decide) (by omega) (by omega)) ?_
            rw [show S65 72 c = Xn (AK A c) from by rw [e65, mm_unq (by decide), mm_unq (by decide), mm_unq (by decide)]; exact n1]
            refine R_op (nx := 76) rfl rfl rfl ?_
            refine R_iadd (nx := 77) (z := ((Xn (AK A c)) + 1)) rfl rfl rfl ⟨by omega, by omega⟩ ?_
            refine R_iast (nx := 78) rfl rfl (mm_el_ok 1 5 (by decide) rfl (by decide) (by omega) (by omega)) ?_
            refine R_lo (nx := 79) rfl rfl rfl rfl ?_
            refine R_get (nx := 82) (w := (2, 72)) rfl rfl rfl rfl ?_
            refine R_lo (nx := 83) rfl rfl rfl rfl ?_
            refine R_iald (nx := 84) rfl rfl (mm_el_ok 1 5 (by decide) rfl (by decide) (by omega) (by omega)) ?_
            rw [show mm_up S65 72 c (Xn (AK A c) + 1) 72 c = Xn (AK A c) + 1 from mm_ua]
            refine R_op (nx := 85) rfl rfl rfl ?_
            refine R_isub (nx := 86) (z := (((Xn (AK A c)) + 1) - 1)) rfl rfl rfl ⟨by omega, by omega⟩ ?_
            refine R_cv (w := (Xn (AK A c))) (by omega) ?_
            refine R_ret rfl (fun _ _ => rfl) rfl rfl ?_
            rw [show Q_cell A c d l o = ((Xn (AK A c)), Akc A c (Xadd (AK A c) d l o)) from by simp only [Q_cell, b1, b10, b20, b31, c47, ifm, ifp, iffq, ↓reduceIte, ite_self, and_self, and_true, true_and, and_false, false_and, or_true, true_or, or_false, false_or, or_self, not_true_eq_false, not_false_eq_true, ne_eq]]; exact ⟨rfl, MR_cell hRR b1 (by omega) d l o e65, fun b hb => by rw [mm_unq (by omega), e65, mm_unq (by omega), mm_unq (by omega), mm_unq (by omega)]⟩
          ·
            replace c47 := Classical.not_not.mp c47
            refine R_op (nx := 52) rfl rfl rfl ?_
            refine R_ret rfl (fun _ _ => rfl) rfl rfl ?_
            rw [show Q_cell A c d l o = ((-2), A) from by simp only [Q_cell, b1, b10, b20, b31, c47, ifm, ifp, iffq, ↓reduceIte, ite_self, and_self, and_true, true_and, and_false, false_and, or_true, true_or, or_false, false_or, or_self, not_true_eq_false, not_false_eq_true, ne_eq]]; exact ⟨rfl, hRR, fun b _ => rfl⟩
        ·
          refine ⟨_, rfl, ?_⟩
          refine R_ifF (nx := 37) rfl rfl rfl ?_
          refine R_op (nx := 38) rfl rfl rfl ?_
          refine R_ret rfl (fun _ _ => rfl) rfl rfl ?_
          rw [show Q_cell A c d l o = ((-1), A) from by simp only [Q_cell, b1, b10, b20, b31, ifm, ifp, iffq, ↓reduceIte, ite_self, and_self, and_true, true_and, and_false, false_and, or_true, true_or, or_false, false_or, or_self, not_true_eq_false, not_false_eq_true, ne_eq]]; exact ⟨rfl, hRR, fun b _ => rfl⟩
      ·
        refine ⟨_, rfl, ?_⟩
        refine R_ifT (tg := 37) rfl rfl rfl ?_
        refine R_op (nx := 38) rfl rfl rfl ?_
        refine R_ret rfl (fun _ _ => rfl) rfl rfl ?_
        rw [show Q_cell A c d l o = ((-1), A) from by simp only [Q_cell, b1, b10, b20, ifm, ifp, iffq, ↓reduceIte, ite_self, and_self, and_true, true_and, and_false, false_and, or_true, true_or, or_false, false_or, or_self, not_true_eq_false, not_false_eq_true, ne_eq]]; exact ⟨rfl, hRR, fun b _ => rfl⟩
    ·
      refine ⟨_, rfl, ?_⟩
      refine R_ifT (tg := 37) rfl rfl rfl ?_
      refine R_op (nx := 38) rfl rfl rfl ?_
      refine R_ret rfl (fun _ _ => rfl) rfl rfl ?_
      rw [show Q_cell A c d l o = ((-1), A) from by simp only [Q_cell, b1, b10, ifm, ifp, iffq, ↓reduceIte, ite_self, and_self, and_true, true_and, and_false, false_and, or_true, true_or, or_false, false_or, or_self, not_true_eq_false, not_false_eq_true, ne_eq]]; exact ⟨rfl, hRR, fun b _ => rfl⟩
  ·
    try have k1 := hRR.k b1.1 b1.2
    try have n1 := k1.n
    try have z1 := k1.1.nr
    try have v1 := hV.1 _ b1.1 b1.2
    try have r1 := v1.2.1
    refine ⟨_, rfl, ?_⟩
    refine R_ifT (tg := 37) rfl rfl rfl ?_
    refine R_op (nx := 38) rfl rfl rfl ?_
    refine R_ret rfl (fun _ _ => rfl) rfl rfl ?_
    rw [show Q_cell A c d l o = ((-1), A) from by simp only [Q_cell, b1, ifm, ifp, iffq, ↓reduceIte, ite_self, and_self, and_true, true_and, and_false, false_and, or_true, true_or, or_false, false_or, or_self, not_true_eq_false, not_false_eq_true, ne_eq]]; exact ⟨rfl, hRR, fun b _ => rfl⟩

def Q_entry (A : mm_A) (c x y v : Int) : Int × mm_A := if 0 ≤ c ∧ c < 4 then (ifm (AK A c) x y (if -9 ≤ v ∧ v ≤ 9 then (10 + Xe (AK A c) x y, Akc A c (Xset (AK A c) x y v)) else (-1, A)) (-1, A)) else (-1, A)

set_option maxRecDepth 20000 in
set_option maxHeartbeats 4000000 in
theorem c_P_entry (S : mm_S) (A : mm_A) (hRC : RC S A) (hV : Vs A) (c x y v : Int) : Cl 2 [(2, 0), (0, c), (0, x), (0, y), (0, v)] S (fun vv S' => vv = some (0, (Q_entry A c x y v).1) ∧ RC S' (Q_entry A c x y v).2 ∧ ∀ b, 71 ≤ b → S' b = S b) := by
  refine ⟨Nat.le_of_ble_eq_true rfl, ?_⟩
  show Rn k_P_entry 0 [(2, 0), (0, c), (0, x), (0, y), (0, v), (9, 0), (9, 0)] [] S _
  refine R_lo (nx := 1) rfl rfl rfl rfl ?_
  refine R_lo (nx := 2) rfl rfl rfl rfl ?_
  refine R_call1 (nx := 5) (as := [(2, 0), (0, c)]) (rest := []) rfl rfl (fun _ _ => rfl) rfl rfl rfl rfl rfl rfl rfl rfl (Cl.mono (c_P_complexAt S c) ?_)
  rintro _ _ (⟨rfl, b2, rfl⟩ | ⟨rfl, b2, rfl⟩)
  ·
    have kb2 := hRC.k b2.1 b2.2
    have vb2 := hV.1 c b2.1 b2.2
    have rb2 := vb2.2.1
    have nb2 := kb2.n
    have zb2 := kb2.nr
    refine ⟨_, rfl, ?_⟩
    refine R_lo (nx := 7) (ls' := [(2, 0), (0, c), (0, x), (0, y), (0, v), (2, (23 + 10 * c)), (9, 0)]) rfl rfl rfl rfl ?_
    refine R_lo (nx := 9) rfl rfl rfl rfl ?_
    refine R_ifnull (nx := 12) (tg := 31) rfl rfl rfl (fun h => absurd h (by have := (isC_kd (isC_c (i := c) (by omega) (by omega))).1; omega)) (fun h => ?_)
    refine R_lo (nx := 14) rfl rfl rfl rfl ?_
    refine R_lo (nx := 15) rfl rfl rfl rfl ?_
    refine R_lo (nx := 16) rfl rfl rfl rfl ?_
    refine R_call1 (nx := 19) (as := [(2, (23 + 10 * c)), (0, x), (0, y)]) (rest := []) rfl rfl (fun _ _ => rfl) rfl rfl rfl rfl rfl rfl (isC_rc (isC_c (i := c) (by omega) (by omega)) _) rfl (Cl.mono (c_C_mayHave S (23 + 10 * c) (isC_c (i := c) (by omega) (by omega)) (AK A c) (by first | assumption | exact MC.up (by assumption) (by omega) | exact MC.up (MC.up (by assumption) (by omega)) (by omega) | exact MC.up (MC.up (MC.up (by assumption) (by omega)) (by omega)) (by omega)) (by assumption) x y) ?_)
    rintro _ _ (⟨rfl, b16, rfl⟩ | ⟨rfl, b16, rfl⟩)
    ·
      refine ⟨_, rfl, ?_⟩
      refine R_ifF (nx := 22) rfl rfl rfl ?_
      refine R_lo (nx := 24) rfl rfl rfl rfl ?_
      refine R_op (nx := 25) (st' := [(1, v)]) rfl rfl rfl ?_
      refine R_call1 (nx := 28) (as := [(1, v)]) (rest := []) rfl rfl (fun _ _ => rfl) rfl rfl rfl rfl rfl rfl rfl rfl (Cl.mono (c_P_isEntry S v) ?_)
      rintro _ _ (⟨rfl, b25, rfl⟩ | ⟨rfl, b25, rfl⟩)
      ·
        refine ⟨_, rfl, ?_⟩
        refine R_ifT (tg := 33) rfl rfl rfl ?_
        refine R_lo (nx := 35) rfl rfl rfl rfl ?_
        refine R_lo (nx := 36) rfl rfl rfl rfl ?_
        refine R_lo (nx := 37) rfl rfl rfl rfl ?_
        refine R_call1 (nx := 40) (as := [(2, (23 + 10 * c)), (0, x), (0, y)]) (rest := []) rfl rfl (fun _ _ => rfl) rfl rfl rfl rfl rfl rfl (isC_rc (isC_c (i := c) (by omega) (by omega)) _) rfl (Cl.mono (c_C_edge S (23 + 10 * c) (isC_c (i := c) (by omega) (by omega)) (AK A c) (by first | assumption | exact MC.up (by assumption) (by omega) | exact MC.up (MC.up (by assumption) (by omega)) (by omega) | exact MC.up (MC.up (MC.up (by assumption) (by omega)) (by omega)) (by omega)) x y) ?_)
        rintro _ _ ⟨rfl, rfl⟩
        refine ⟨_, rfl, ?_⟩
        refine R_lo (nx := 42) (ls' := [(2, 0), (0, c), (0, x), (0, y), (0, v), (2, (23 + 10 * c)), (0, (Xe (AK A c) x y))]) rfl rfl rfl rfl ?_
        refine R_lo (nx := 44) rfl rfl rfl rfl ?_
        refine R_lo (nx := 45) rfl rfl rfl rfl ?_
        refine R_lo (nx := 46) rfl rfl rfl rfl ?_
        refine R_lo (nx := 48) rfl rfl rfl rfl ?_
        refine R_call0 (nx := 51) (as := [(2, (23 + 10 * c)), (0, x), (0, y), (0, v)]) (rest := []) rfl rfl (fun _ _ => rfl) rfl rfl rfl rfl rfl rfl (isC_rc (isC_c (i := c) (by omega) (by omega)) _) rfl (Cl.mono (c_C_setEdge S (23 + 10 * c) (isC_c (i := c) (by omega) (by omega)) (AK A c) (by first | assumption | exact MC.up (by assumption) (by omega) | exact MC.up (MC.up (by assumption) (by omega)) (by omega) | exact MC.up (MC.up (MC.up (by assumption) (by omega)) (by omega)) (by omega)) x y v) ?_)
        rintro _ S48 ⟨rfl, m48, f48⟩
        refine ⟨rfl, ?_⟩
        refine R_op (nx := 53) rfl rfl rfl ?_
        refine R_lo (nx := 55) rfl rfl rfl rfl ?_
        refine R_iadd (nx := 56) (z := (10 + (Xe (AK A c) x y))) rfl rfl rfl (by have := rb2.e x y; exact ⟨by omega, by omega⟩) ?_
        refine R_ret rfl (fun _ _ => rfl) rfl rfl ?_
        rw [show Q_entry A c x y v = ((10 + (Xe (AK A c) x y)), Akc A c (Xset (AK A c) x y v)) from by simp only [Q_entry, b2, b16, b25, ifm, ifp, iffq, ↓reduceIte, ite_self, and_self, and_true, true_and, and_false, false_and, or_true, true_or, or_false, false_or, or_self, not_true_eq_false, not_false_eq_true, ne_eq]]; exact ⟨rfl, hRC.kc b2 m48 fun b hb hc => f48 b (by omega), fun b hb => f48 b (by omega)⟩
      ·
        refine ⟨_, rfl, ?_⟩
        refine R_ifF (nx := 31) rfl rfl rfl ?_
        refine R_op (nx := 32) rfl rfl rfl ?_
        refine R_ret rfl (fun _ _ => rfl) rfl rfl ?_
        rw [show Q_entry A c x y v = ((-1), A) from by simp only [Q_entry, b2, b16, b25, ifm, ifp, iffq, ↓reduceIte, ite_self, and_self, and_true, true_and, and_false, false_and, or_true, true_or, or_false, false_or, or_self, not_true_eq_false, not_false_eq_true, ne_eq]]; exact ⟨rfl, hRC, fun b _ => rfl⟩
    ·
      refine ⟨_, rfl, ?_⟩
      refine R_ifT (tg := 31) rfl rfl rfl ?_
      refine R_op (nx := 32) rfl rfl rfl ?_
      refine R_ret rfl (fun _ _ => rfl) rfl rfl ?_
      rw [show Q_entry A c x y v = ((-1), A) from by simp only [Q_entry, b2, b16, ifm, ifp, iffq, ↓reduceIte, ite_self, and_self, and_true, true_and, and_false, false_and, or_true, true_or, or_false, false_or, or_self, not_true_eq_false, not_false_eq_true, ne_eq]]; exact ⟨rfl, hRC, fun b _ => rfl⟩
  ·
    refine ⟨_, rfl, ?_⟩
    refine R_lo (nx := 7) (ls' := [(2, 0), (0, c), (0, x), (0, y), (0, v), (2, (-1)), (9, 0)]) rfl rfl rfl rfl ?_
    refine R_lo (nx := 9) rfl rfl rfl rfl ?_
    refine R_ifnull (nx := 12) (tg := 31) rfl rfl rfl (fun h => ?_) (fun h => absurd (by decide) h)
    refine R_op (nx := 32) rfl rfl rfl ?_
    refine R_ret rfl (fun _ _ => rfl) rfl rfl ?_
    rw [show Q_entry A c x y v = ((-1), A) from by simp only [Q_entry, b2, ifm, ifp, iffq, ↓reduceIte, ite_self, and_self, and_true, true_and, and_false, false_and, or_true, true_or, or_false, false_or, or_self, not_true_eq_false, not_false_eq_true, ne_eq]]; exact ⟨rfl, hRC, fun b _ => rfl⟩

theorem Q_entry_n {A : mm_A} {c x y v : Int} (h : (0 ≤ c ∧ c < 4) → ¬ Xmay (AK A c) x y) : Q_entry A c x y v = (-1, A) := by
  unfold Q_entry ifm
  by_cases a : 0 ≤ c ∧ c < 4
  · rw [if_pos a, if_neg (h a)]
  · rw [if_neg a]

set_option maxRecDepth 20000 in
set_option maxHeartbeats 4000000 in
theorem c_M_entry (S : mm_S) (A : mm_A) (hRR : RR S A) (hV : Vs A) (c x y v : Int) : Cl 59 [(2, 71), (0, c), (0, x), (0, y), (0, v)] S (fun vv S' => vv = some (0, (Q_entry A c x y v).1) ∧ RR S' (Q_entry A c x y v).2 ∧ ∀ b, ¬ (71 ≤ b ∧ b < 91) → S' b = S b) := by
  refine ⟨Nat.le_of_ble_eq_true rfl, ?_⟩
  show Rn k_M_entry 0 [(2, 71), (0, c), (0, x), (0, y), (0, v), (9, 0)] [] S _
  refine R_lo (nx := 1) rfl rfl rfl rfl ?_
  refine R_lo (nx := 2) rfl rfl rfl rfl ?_
  refine R_lo (nx := 3) rfl rfl rfl rfl ?_
  refine R_lo (nx := 4) rfl rfl rfl rfl ?_
  refine R_call1 (nx := 7) (as := [(2, 71), (0, c), (0, x), (0, y)]) (rest := []) rfl rfl (fun _ _ => rfl) rfl rfl rfl rfl rfl rfl rfl rfl (Cl.mono (c_M_isEntry S (AK A) (by first | assumption | exact hRR.1) c x y) ?_)
  rintro _ _ (⟨rfl, b4, rfl⟩ | ⟨rfl, b4, rfl⟩)
  ·
    try have k4 := hRR.k b4.1.1 b4.1.2
    try have z4 := k4.1.nr
    try have v4 := hV.1 _ b4.1.1 b4.1.2
    try have r4 := v4.2.1
    refine ⟨_, rfl, ?_⟩
    refine R_ifF (nx := 10) rfl rfl rfl ?_
    refine R_lo (nx := 12) rfl rfl rfl rfl ?_
    refine R_op (nx := 14) rfl rfl rfl ?_
    refine R_op (nx := 16) rfl rfl rfl ?_
    refine R_call1 (nx := 19) (as := [(0, v), (0, (-9)), (0, 9)]) (rest := []) rfl rfl (fun _ _ => rfl) rfl rfl rfl rfl rfl rfl rfl rfl (Cl.mono (c_M_in S v (-9) 9) ?_)
    rintro _ _ (⟨rfl, b16, rfl⟩ | ⟨rfl, b16, rfl⟩)
    ·
      refine ⟨_, rfl, ?_⟩
      refine R_ifF (nx := 22) rfl rfl rfl ?_
      refine R_lo (nx := 23) rfl rfl rfl rfl ?_
      refine R_lo (nx := 24) rfl rfl rfl rfl ?_
      refine R_lo (nx := 25) rfl rfl rfl rfl ?_
      refine R_lo (nx := 26) rfl rfl rfl rfl ?_
      refine R_call1 (nx := 29) (as := [(2, 71), (0, c), (0, x), (0, y)]) (rest := []) rfl rfl (fun _ _ => rfl) rfl rfl rfl rfl rfl rfl rfl rfl (Cl.mono (c_M_may S c (by omega) (AK A c) (show MRr S c (AK A c) by first | assumption | exact MR.r (by assumption) | exact MRr.up (by assumption) (by omega) | exact MRr.up (MR.r (by assumption)) (by omega) | exact MRr.up (MRr.up (MR.r (by assumption)) (by omega)) (by omega)) (by assumption) x y (by omega) (by omega)) ?_)
      rintro _ _ (⟨rfl, b26, rfl⟩ | ⟨rfl, b26, rfl⟩)
      ·
        refine ⟨_, rfl, ?_⟩
        refine R_ifT (tg := 34) rfl rfl rfl ?_
        refine R_lo (nx := 35) rfl rfl rfl rfl ?_
        refine R_lo (nx := 36) rfl rfl rfl rfl ?_
        refine R_lo (nx := 37) rfl rfl rfl rfl ?_
        refine R_lo (nx := 38) rfl rfl rfl rfl ?_
        refine R_call1 (nx := 41) (as := [(2, 71), (0, c), (0, x), (0, y)]) (rest := []) rfl rfl (fun _ _ => rfl) rfl rfl rfl rfl rfl rfl rfl rfl (Cl.mono (c_M_edge S c (by omega) (AK A c) (show MRr S c (AK A c) by first | assumption | exact MR.r (by assumption) | exact MRr.up (by assumption) (by omega) | exact MRr.up (MR.r (by assumption)) (by omega) | exact MRr.up (MRr.up (MR.r (by assumption)) (by omega)) (by omega)) x y (by omega) (by omega)) ?_)
        rintro _ _ ⟨rfl, rfl⟩
        refine ⟨_, rfl, ?_⟩
        refine R_lo (nx := 43) (ls' := [(2, 71), (0, c), (0, x), (0, y), (0, v), (0, (Xe (AK A c) x y))]) rfl rfl rfl rfl ?_
        refine R_lo (nx := 44) rfl rfl rfl rfl ?_
        refine R_get (nx := 47) (w := (2, 75)) rfl rfl rfl rfl ?_
        refine R_op (nx := 50) rfl rfl rfl ?_
        refine R_lo (nx := 51) rfl rfl rfl rfl ?_
        refine R_imul (nx := 52) (z := (144 * c)) rfl rfl rfl ⟨by omega, by omega⟩ ?_
        refine R_op (nx := 54) rfl rfl rfl ?_
        refine R_lo (nx := 55) rfl rfl rfl rfl ?_
        refine R_imul (nx := 56) (z := (12 * x)) rfl rfl rfl ⟨by omega, by omega⟩ ?_
        refine R_iadd (nx := 57) (z := ((144 * c) + (12 * x))) rfl rfl rfl ⟨by omega, by omega⟩ ?_
        refine R_lo (nx := 58) rfl rfl rfl rfl ?_
        refine R_iadd (nx := 59) (z := (((144 * c) + (12 * x)) + y)) rfl rfl rfl ⟨by omega, by omega⟩ ?_
        refine R_lo (nx := 61) rfl rfl rfl rfl ?_
        refine R_iast (nx := 62) rfl rfl (mm_el_ok 1 720 (by decide) rfl (by decide) (by omega) (by omega)) ?_
        refine R_op (nx := 64) rfl rfl rfl ?_
        refine R_lo (nx := 66) rfl rfl rfl rfl ?_
        refine R_iadd (nx := 67) (z := (10 + (Xe (AK A c) x y))) rfl rfl rfl (by have := r4.e x y; exact ⟨by omega, by omega⟩) ?_
        refine R_ret rfl (fun _ _ => rfl) rfl rfl ?_
        rw [show Q_entry A c x y v = ((10 + (Xe (AK A c) x y)), Akc A c (Xset (AK A c) x y v)) from by first | (simp only [Q_entry, b4.1, b4, b16, b26, ifm, ifp, iffq, ↓reduceIte, ite_self, and_self, and_true, true_and, and_false, false_and, or_true, true_or, or_false, false_or, or_self, not_true_eq_false, not_false_eq_true, ne_eq]; done) | (exact Q_entry_n fun p q => b4 ⟨p, q.1, q.2.1⟩)]; exact ⟨rfl, hRR.kc (k4.set b4.2.1 b4.2.2) ((Oth.rf S c).u75 _ (by omega)) (R71.of (mm_unq (by decide))) fun b hb => mm_unq (by omega), fun b hb => mm_unq (by omega)⟩
      ·
        refine ⟨_, rfl, ?_⟩
        refine R_ifF (nx := 32) rfl rfl rfl ?_
        refine R_op (nx := 33) rfl rfl rfl ?_
        refine R_ret rfl (fun _ _ => rfl) rfl rfl ?_
        rw [show Q_entry A c x y v = ((-1), A) from by first | (simp only [Q_entry, b4.1, b4, b16, b26, ifm, ifp, iffq, ↓reduceIte, ite_self, and_self, and_true, true_and, and_false, false_and, or_true, true_or, or_false, false_or, or_self, not_true_eq_false, not_false_eq_true, ne_eq]; done) | (exact Q_entry_n fun p q => b4 ⟨p, q.1, q.2.1⟩)]; exact ⟨rfl, hRR, fun b _ => rfl⟩
    ·
      refine ⟨_, rfl, ?_⟩
      refine R_ifT (tg := 32) rfl rfl rfl ?_
      refine R_op (nx := 33) rfl rfl rfl ?_
      refine R_ret rfl (fun _ _ => rfl) rfl rfl ?_
      rw [show Q_entry A c x y v = ((-1), A) from by first | (simp only [Q_entry, b4.1, b4, b16, ifm, ifp, iffq, ↓reduceIte, ite_self, and_self, and_true, true_and, and_false, false_and, or_true, true_or, or_false, false_or, or_self, not_true_eq_false, not_false_eq_true, ne_eq]; done) | (exact Q_entry_n fun p q => b4 ⟨p, q.1, q.2.1⟩)]; exact ⟨rfl, hRR, fun b _ => rfl⟩
  ·
    try have k4 := hRR.k b4.1.1 b4.1.2
    try have z4 := k4.1.nr
    try have v4 := hV.1 _ b4.1.1 b4.1.2
    try have r4 := v4.2.1
    refine ⟨_, rfl, ?_⟩
    refine R_ifT (tg := 32) rfl rfl rfl ?_
    refine R_op (nx := 33) rfl rfl rfl ?_
    refine R_ret rfl (fun _ _ => rfl) rfl rfl ?_
    rw [show Q_entry A c x y v = ((-1), A) from by first | (simp only [Q_entry, b4.1, b4, ifm, ifp, iffq, ↓reduceIte, ite_self, and_self, and_true, true_and, and_false, false_and, or_true, true_or, or_false, false_or, or_self, not_true_eq_false, not_false_eq_true, ne_eq]; done) | (exact Q_entry_n fun p q => b4 ⟨p, q.1, q.2.1⟩)]; exact ⟨rfl, hRR, fun b _ => rfl⟩
