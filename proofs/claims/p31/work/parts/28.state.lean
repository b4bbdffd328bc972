/-! What the document speaks of: the complexes, those kept, whether anything is kept, what was tried, the tape, the rows; and how the class and the reference hold it. -/
abbrev mm_A : Type := (Int → CX) × (Int → CX) × Int × (Int × Int × Int) × (Int × (Int → Int)) × (Int → Int × Int × (Int → Int))
def AK (A : mm_A) : Int → CX := A.1
def AQ (A : mm_A) : Int → CX := A.2.1
def Af (A : mm_A) : Int := A.2.2.1
def Ao (A : mm_A) : Int := A.2.2.2.1.1
def Ac (A : mm_A) : Int := A.2.2.2.1.2.1
def Am (A : mm_A) : Int := A.2.2.2.1.2.2
def AL (A : mm_A) : Int := A.2.2.2.2.1.1
def AT (A : mm_A) : Int → Int := A.2.2.2.2.1.2
def Aso (A : mm_A) (i : Int) : Int := (A.2.2.2.2.2 i).1
def Asz (A : mm_A) (i : Int) : Int := (A.2.2.2.2.2 i).2.1
def Apl (A : mm_A) (i : Int) : Int → Int := (A.2.2.2.2.2 i).2.2
def MK4 (S : mm_S) (c : Int) (K : CX) : Prop := Nz K ∧ S 76 c = Xn K ∧ (∀ x, 0 ≤ x → x < Xn K → S 77 (12 * c + x) = Xd K x ∧ S 78 (12 * (2 * c) + x) = X0 K x ∧ S 78 (12 * (2 * c + 1) + x) = X1 K x) ∧ ∀ x y, 0 ≤ x → x < 12 → 0 ≤ y → y < 12 → S 79 (144 * c + 12 * x + y) = Xe K x y
def RC (S : mm_S) (A : mm_A) : Prop := (∀ c, 0 ≤ c → c < 4 → MC S (23 + 10 * c) (AK A c)) ∧ (∀ c, 0 ≤ c → c < 4 → MC S (28 + 10 * c) (AQ A c)) ∧ S 0 9 = Af A ∧ (S 18 0 = Ao A ∧ S 18 1 = Ac A ∧ S 18 2 = Am A) ∧ (S 19 0 = AL A ∧ ∀ j, 0 ≤ j → j < AL A → (-128 ≤ S 20 j ∧ S 20 j ≤ 127) ∧ S 20 j % 256 = AT A j) ∧ ∀ i, 0 ≤ i → i < 4 → S (63 + 2 * i) 0 = Aso A i ∧ S (63 + 2 * i) 1 = Asz A i ∧ ∀ j, 0 ≤ j → j < 40 → S (63 + 2 * i + 1) j = Apl A i j
def RR (S : mm_S) (A : mm_A) : Prop := (∀ c, 0 ≤ c → c < 4 → MR S c (AK A c)) ∧ (∀ c, 0 ≤ c → c < 4 → MK4 S c (AQ A c)) ∧ S 71 8 = Af A ∧ (S 71 9 = Ao A ∧ S 71 10 = Ac A ∧ S 71 11 = Am A) ∧ (S 71 21 = AL A ∧ ∀ j, 0 ≤ j → j < AL A → S 85 j = AT A j) ∧ ∀ i, 0 ≤ i → i < 4 → S 87 i = Aso A i ∧ S 88 i = Asz A i ∧ ∀ j, 0 ≤ j → j < 40 → S 89 (40 * i + j) = Apl A i j
def Vs (A : mm_A) : Prop := (∀ c, 0 ≤ c → c < 4 → Vx (AK A c)) ∧ (∀ c, 0 ≤ c → c < 4 → Vx (AQ A c)) ∧ (Af A = 0 ∨ Af A = 1) ∧ (0 ≤ AL A ∧ AL A ≤ 200) ∧ (∀ j, 0 ≤ AT A j ∧ AT A j ≤ 255) ∧ ∀ i, 0 ≤ i → i < 4 → (-1 ≤ Aso A i ∧ Aso A i ≤ 2) ∧ (0 ≤ Asz A i ∧ Asz A i ≤ 40)
/-- one complex other; tried, tape, rows other -/
def Akc (A : mm_A) (c : Int) (K : CX) : mm_A := (fun i => if i = c then K else AK A i, A.2)
def Atr (A : mm_A) (o c m : Int) : mm_A := (A.1, A.2.1, A.2.2.1, (o, c, m), A.2.2.2.2)
def Atp (A : mm_A) (L : Int) (t : Int → Int) : mm_A := (A.1, A.2.1, A.2.2.1, A.2.2.2.1, (L, t), A.2.2.2.2.2)
def Ash (A : mm_A) (i : Int) (q : Int × Int × (Int → Int)) : mm_A := (A.1, A.2.1, A.2.2.1, A.2.2.2.1, A.2.2.2.2.1, fun j => if j = i then q else A.2.2.2.2.2 j)
def Akq (A : mm_A) : mm_A := (A.1, A.1, 1, A.2.2.2)
def Aag (A : mm_A) : mm_A := (A.2.1, A.2)
theorem Akc_same (A : mm_A) (c : Int) : Akc A c (AK A c) = A := by
  unfold Akc
  have : (fun i => if i = c then AK A c else AK A i) = A.1 := by
    funext i
    split
    · rename_i h; rw [h]; rfl
    · rfl
  rw [this]
theorem Akc_at (A : mm_A) (c : Int) (K : CX) : AK (Akc A c K) c = K := if_pos rfl
theorem Akc_ne (A : mm_A) {c i : Int} (K : CX) (h : i ≠ c) : AK (Akc A c K) i = AK A i := if_neg h
theorem Vs.kc {A : mm_A} (h : Vs A) {c : Int} {K : CX} (hK : Vx K) : Vs (Akc A c K) := by
  refine ⟨fun i a b => ?_, h.2⟩
  by_cases e : i = c
  · subst e; rw [Akc_at]; exact hK
  · rw [Akc_ne A K e]; exact h.1 i a b
theorem Vs.tr {A : mm_A} (h : Vs A) (o c m : Int) : Vs (Atr A o c m) := h
theorem RC.k {S : mm_S} {A : mm_A} (h : RC S A) {c : Int} (h0 : 0 ≤ c) (h1 : c < 4) : MC S (23 + 10 * c) (AK A c) := h.1 c h0 h1
theorem RR.k {S : mm_S} {A : mm_A} (h : RR S A) {c : Int} (h0 : 0 ≤ c) (h1 : c < 4) : MR S c (AK A c) := h.1 c h0 h1
/-- what is no part of it changes -/
theorem RC.fr {S S' : mm_S} {A : mm_A} (h : RC S A) (hf : ∀ b, (b = 0 ∨ (18 ≤ b ∧ b ≤ 20) ∨ (23 ≤ b ∧ b ≤ 70)) → S' b = S b) : RC S' A := by
  obtain ⟨h1, h2, h3, ⟨h4, h5, h6⟩, ⟨h7, h8⟩, h9⟩ := h
  refine ⟨fun c a b => (h1 c a b).fr fun e p q => hf e (by omega), fun c a b => (h2 c a b).fr fun e p q => hf e (by omega), by rw [hf 0 (by omega)]; exact h3, ⟨?_, ?_, ?_⟩, ⟨?_, fun j a b => ?_⟩, fun i a b => ?_⟩
  · rw [hf 18 (by omega)]; exact h4
  · rw [hf 18 (by omega)]; exact h5
  · rw [hf 18 (by omega)]; exact h6
  · rw [hf 19 (by omega)]; exact h7
  · rw [hf 20 (by omega)]; exact h8 j a b
  · rw [hf (63 + 2 * i) (by omega), hf (63 + 2 * i + 1) (by omega)]; exact h9 i a b
theorem RC.kc {S S' : mm_S} {A : mm_A} (h : RC S A) {c : Int} (hc : 0 ≤ c ∧ c < 4) {K : CX} (hM : MC S' (23 + 10 * c) K) (hf : ∀ b, (b = 0 ∨ (18 ≤ b ∧ b ≤ 20) ∨ (23 ≤ b ∧ b ≤ 70)) → ¬ (23 + 10 * c ≤ b ∧ b ≤ 23 + 10 * c + 4) → S' b = S b) : RC S' (Akc A c K) := by
  obtain ⟨h1, h2, h3, ⟨h4, h5, h6⟩, ⟨h7, h8⟩, h9⟩ := h
  refine ⟨fun i a b => ?_, fun i a b => (h2 i a b).fr fun e p q => hf e (by omega) (by omega), by rw [hf 0 (by omega) (by omega)]; exact h3, ⟨?_, ?_, ?_⟩, ⟨?_, fun j a b => ?_⟩, fun i a b => ?_⟩
  · by_cases e : i = c
    · subst e; rw [Akc_at]; exact hM
    · rw [Akc_ne A K e]; exact (h1 i a b).fr fun e p q => hf e (by omega) (by omega)
  · rw [hf 18 (by omega) (by omega)]; exact h4
  · rw [hf 18 (by omega) (by omega)]; exact h5
  · rw [hf 18 (by omega) (by omega)]; exact h6
  · rw [hf 19 (by omega) (by omega)]; exact h7
  · rw [hf 20 (by omega) (by omega)]; exact h8 j a b
  · rw [hf (63 + 2 * i) (by omega) (by omega), hf (63 + 2 * i + 1) (by omega) (by omega)]; exact h9 i a b
theorem RC.tr {S S' : mm_S} {A : mm_A} (h : RC S A) (hf : ∀ b, (b = 0 ∨ (19 ≤ b ∧ b ≤ 20) ∨ (23 ≤ b ∧ b ≤ 70)) → S' b = S b) : RC S' (Atr A (S' 18 0) (S' 18 1) (S' 18 2)) := by
  obtain ⟨h1, h2, h3, ⟨h4, h5, h6⟩, ⟨h7, h8⟩, h9⟩ := h
  refine ⟨fun c a b => (h1 c a b).fr fun e p q => hf e (by omega), fun c a b => (h2 c a b).fr fun e p q => hf e (by omega), by rw [hf 0 (by omega)]; exact h3, ⟨rfl, rfl, rfl⟩, ⟨?_, fun j a b => ?_⟩, fun i a b => ?_⟩
  · rw [hf 19 (by omega)]; exact h7
  · rw [hf 20 (by omega)]; exact h8 j a b
  · rw [hf (63 + 2 * i) (by omega), hf (63 + 2 * i + 1) (by omega)]; exact h9 i a b
theorem RC.tp {S S' : mm_S} {A : mm_A} (h : RC S A) {L : Int} {t : Int → Int} (hL : S' 19 0 = L) (ht : ∀ j, 0 ≤ j → j < L → (-128 ≤ S' 20 j ∧ S' 20 j ≤ 127) ∧ S' 20 j % 256 = t j) (hf : ∀ b, (b = 0 ∨ b = 18 ∨ (23 ≤ b ∧ b ≤ 70)) → S' b = S b) : RC S' (Atp A L t) := by
  obtain ⟨h1, h2, h3, ⟨h4, h5, h6⟩, ⟨h7, h8⟩, h9⟩ := h
  refine ⟨fun c a b => (h1 c a b).fr fun e p q => hf e (by omega), fun c a b => (h2 c a b).fr fun e p q => hf e (by omega), by rw [hf 0 (by omega)]; exact h3, ⟨?_, ?_, ?_⟩, ⟨hL, ht⟩, fun i a b => ?_⟩
  · rw [hf 18 (by omega)]; exact h4
  · rw [hf 18 (by omega)]; exact h5
  · rw [hf 18 (by omega)]; exact h6
  · rw [hf (63 + 2 * i) (by omega), hf (63 + 2 * i + 1) (by omega)]; exact h9 i a b
theorem RC.sh {S S' : mm_S} {A : mm_A} (h : RC S A) {i : Int} (hi : 0 ≤ i ∧ i < 4) {so sz : Int} {pl : Int → Int} (h0 : S' (63 + 2 * i) 0 = so) (h1' : S' (63 + 2 * i) 1 = sz) (hp : ∀ j, 0 ≤ j → j < 40 → S' (63 + 2 * i + 1) j = pl j) (hf : ∀ b, (b = 0 ∨ (18 ≤ b ∧ b ≤ 20) ∨ (23 ≤ b ∧ b ≤ 70)) → ¬ (63 + 2 * i ≤ b ∧ b ≤ 63 + 2 * i + 1) → S' b = S b) : RC S' (Ash A i (so, sz, pl)) := by
  obtain ⟨h1, h2, h3, ⟨h4, h5, h6⟩, ⟨h7, h8⟩, h9⟩ := h
  refine ⟨fun c a b => (h1 c a b).fr fun e p q => hf e (by omega) (by omega), fun c a b => (h2 c a b).fr fun e p q => hf e (by omega) (by omega), by rw [hf 0 (by omega) (by omega)]; exact h3, ⟨?_, ?_, ?_⟩, ⟨?_, fun j a b => ?_⟩, fun j a b => ?_⟩
  · rw [hf 18 (by omega) (by omega)]; exact h4
  · rw [hf 18 (by omega) (by omega)]; exact h5
  · rw [hf 18 (by omega) (by omega)]; exact h6
  · rw [hf 19 (by omega) (by omega)]; exact h7
  · rw [hf 20 (by omega) (by omega)]; exact h8 j a b
  · unfold Aso Asz Apl Ash
    dsimp only
    by_cases e : j = i
    · subst e
      rw [if_pos rfl]
      exact ⟨h0, h1', hp⟩
    · rw [if_neg e, hf (63 + 2 * j) (by omega) (by omega), hf (63 + 2 * j + 1) (by omega) (by omega)]; exact h9 j a b
theorem RC.kq {S S' : mm_S} {A : mm_A} (h : RC S A) (hf0 : S' 0 9 = 1) (hM : ∀ c, 0 ≤ c → c < 4 → MC S' (28 + 10 * c) (AK A c)) (hf : ∀ b, ((18 ≤ b ∧ b ≤ 20) ∨ (23 ≤ b ∧ b ≤ 70)) → ¬ (∃ c, 0 ≤ c ∧ c < 4 ∧ 28 + 10 * c ≤ b ∧ b ≤ 28 + 10 * c + 4) → S' b = S b) : RC S' (Akq A) := by
  obtain ⟨h1, h2, h3, ⟨h4, h5, h6⟩, ⟨h7, h8⟩, h9⟩ := h
  refine ⟨fun c a b => (h1 c a b).fr fun e p q => hf e (by omega) (by rintro ⟨d, x, y, z, w⟩; omega), hM, hf0, ⟨?_, ?_, ?_⟩, ⟨?_, fun j a b => ?_⟩, fun i a b => ?_⟩
  · rw [hf 18 (by omega) (by rintro ⟨d, x, y, z, w⟩; omega)]; exact h4
  · rw [hf 18 (by omega) (by rintro ⟨d, x, y, z, w⟩; omega)]; exact h5
  · rw [hf 18 (by omega) (by rintro ⟨d, x, y, z, w⟩; omega)]; exact h6
  · rw [hf 19 (by omega) (by rintro ⟨d, x, y, z, w⟩; omega)]; exact h7
  · rw [hf 20 (by omega) (by rintro ⟨d, x, y, z, w⟩; omega)]; exact h8 j a b
  · rw [hf (63 + 2 * i) (by omega) (by rintro ⟨d, x, y, z, w⟩; omega), hf (63 + 2 * i + 1) (by omega) (by rintro ⟨d, x, y, z, w⟩; omega)]; exact h9 i a b
theorem RC.ag {S S' : mm_S} {A : mm_A} (h : RC S A) (hM : ∀ c, 0 ≤ c → c < 4 → MC S' (23 + 10 * c) (AQ A c)) (hf : ∀ b, (b = 0 ∨ (18 ≤ b ∧ b ≤ 20) ∨ (23 ≤ b ∧ b ≤ 70)) → ¬ (∃ c, 0 ≤ c ∧ c < 4 ∧ 23 + 10 * c ≤ b ∧ b ≤ 23 + 10 * c + 4) → S' b = S b) : RC S' (Aag A) := by
  obtain ⟨h1, h2, h3, ⟨h4, h5, h6⟩, ⟨h7, h8⟩, h9⟩ := h
  refine ⟨hM, fun c a b => (h2 c a b).fr fun e p q => hf e (by omega) (by rintro ⟨d, x, y, z, w⟩; omega), by rw [hf 0 (by omega) (by rintro ⟨d, x, y, z, w⟩; omega)]; exact h3, ⟨?_, ?_, ?_⟩, ⟨?_, fun j a b => ?_⟩, fun i a b => ?_⟩
  · rw [hf 18 (by omega) (by rintro ⟨d, x, y, z, w⟩; omega)]; exact h4
  · rw [hf 18 (by omega) (by rintro ⟨d, x, y, z, w⟩; omega)]; exact h5
  · rw [hf 18 (by omega) (by rintro ⟨d, x, y, z, w⟩; omega)]; exact h6
  · rw [hf 19 (by omega) (by rintro ⟨d, x, y, z, w⟩; omega)]; exact h7
  · rw [hf 20 (by omega) (by rintro ⟨d, x, y, z, w⟩; omega)]; exact h8 j a b
  · rw [hf (63 + 2 * i) (by omega) (by rintro ⟨d, x, y, z, w⟩; omega), hf (63 + 2 * i + 1) (by omega) (by rintro ⟨d, x, y, z, w⟩; omega)]; exact h9 i a b
/-- the reference -/
def R71 (S S' : mm_S) : Prop := S' 71 8 = S 71 8 ∧ (S' 71 9 = S 71 9 ∧ S' 71 10 = S 71 10 ∧ S' 71 11 = S 71 11) ∧ S' 71 21 = S 71 21
theorem R71.of {S S' : mm_S} (h : S' 71 = S 71) : R71 S S' := by unfold R71; rw [h]; exact ⟨rfl, ⟨rfl, rfl, rfl⟩, rfl⟩
theorem MK4.fr {S S' : mm_S} {c : Int} {K : CX} (h : MK4 S c K) (hf : ∀ b, 76 ≤ b → b ≤ 79 → S' b = S b) : MK4 S' c K := by
  obtain ⟨a, b, d, e⟩ := h
  refine ⟨a, by rw [hf 76 (by omega) (by omega)]; exact b, fun x p q => ?_, fun x y p q r t => ?_⟩
  · rw [hf 77 (by omega) (by omega), hf 78 (by omega) (by omega)]; exact d x p q
  · rw [hf 79 (by omega) (by omega)]; exact e x y p q r t
theorem RR.fr {S S' : mm_S} {A : mm_A} (h : RR S A) (h0 : R71 S S') (hf : ∀ b, ((72 ≤ b ∧ b ≤ 79) ∨ b = 85 ∨ (87 ≤ b ∧ b ≤ 89)) → S' b = S b) : RR S' A := by
  obtain ⟨h1, h2, h3, ⟨h4, h5, h6⟩, ⟨h7, h8⟩, h9⟩ := h
  obtain ⟨g3, ⟨g4, g5, g6⟩, g7⟩ := h0
  refine ⟨fun c a b => (h1 c a b).fr fun e p q => hf e (by omega), fun c a b => (h2 c a b).fr fun e p q => hf e (by omega), g3.trans h3, ⟨g4.trans h4, g5.trans h5, g6.trans h6⟩, ⟨g7.trans h7, fun j a b => ?_⟩, fun i a b => ?_⟩
  · rw [hf 85 (by omega)]; exact h8 j a b
  · rw [hf 87 (by omega), hf 88 (by omega), hf 89 (by omega)]; exact h9 i a b
theorem RR.kc {S S' : mm_S} {A : mm_A} (h : RR S A) {c : Int} {K : CX} (hM : MR S' c K) (hO : Oth S S' c) (h0 : R71 S S') (hf : ∀ b, ((76 ≤ b ∧ b ≤ 79) ∨ b = 85 ∨ (87 ≤ b ∧ b ≤ 89)) → S' b = S b) : RR S' (Akc A c K) := by
  obtain ⟨h1, h2, h3, ⟨h4, h5, h6⟩, ⟨h7, h8⟩, h9⟩ := h
  obtain ⟨g3, ⟨g4, g5, g6⟩, g7⟩ := h0
  refine ⟨fun i a b => ?_, fun c a b => (h2 c a b).fr fun e p q => hf e (by omega), g3.trans h3, ⟨g4.trans h4, g5.trans h5, g6.trans h6⟩, ⟨g7.trans h7, fun j a b => ?_⟩, fun i a b => ?_⟩
  · by_cases e : i = c
    · subst e; rw [Akc_at]; exact hM
    · rw [Akc_ne A K e]; exact hO i _ a (by omega) e (h1 i a b)
  · rw [hf 85 (by omega)]; exact h8 j a b
  · rw [hf 87 (by omega), hf 88 (by omega), hf 89 (by omega)]; exact h9 i a b
/-- only the spare complex changes -/
theorem RR.o4 {S S' : mm_S} {A : mm_A} (h : RR S A) (hO : Oth S S' 4) (h0 : R71 S S') (hf : ∀ b, ((76 ≤ b ∧ b ≤ 79) ∨ b = 85 ∨ (87 ≤ b ∧ b ≤ 89)) → S' b = S b) : RR S' A := by
  obtain ⟨h1, h2, h3, ⟨h4, h5, h6⟩, ⟨h7, h8⟩, h9⟩ := h
  obtain ⟨g3, ⟨g4, g5, g6⟩, g7⟩ := h0
  refine ⟨fun i a b => hO i _ a (by omega) (by omega) (h1 i a b), fun c a b => (h2 c a b).fr fun e p q => hf e (by omega), g3.trans h3, ⟨g4.trans h4, g5.trans h5, g6.trans h6⟩, ⟨g7.trans h7, fun j a b => ?_⟩, fun i a b => ?_⟩
  · rw [hf 85 (by omega)]; exact h8 j a b
  · rw [hf 87 (by omega), hf 88 (by omega), hf 89 (by omega)]; exact h9 i a b
theorem RR.tr {S S' : mm_S} {A : mm_A} (h : RR S A) (h8' : S' 71 8 = S 71 8) (h21 : S' 71 21 = S 71 21) (hf : ∀ b, ((72 ≤ b ∧ b ≤ 79) ∨ b = 85 ∨ (87 ≤ b ∧ b ≤ 89)) → S' b = S b) : RR S' (Atr A (S' 71 9) (S' 71 10) (S' 71 11)) := by
  obtain ⟨h1, h2, h3, ⟨h4, h5, h6⟩, ⟨h7, h8⟩, h9⟩ := h
  refine ⟨fun c a b => (h1 c a b).fr fun e p q => hf e (by omega), fun c a b => (h2 c a b).fr fun e p q => hf e (by omega), h8'.trans h3, ⟨rfl, rfl, rfl⟩, ⟨h21.trans h7, fun j a b => ?_⟩, fun i a b => ?_⟩
  · rw [hf 85 (by omega)]; exact h8 j a b
  · rw [hf 87 (by omega), hf 88 (by omega), hf 89 (by omega)]; exact h9 i a b
theorem RR.tp {S S' : mm_S} {A : mm_A} (h : RR S A) {L : Int} {t : Int → Int} (hL : S' 71 21 = L) (ht : ∀ j, 0 ≤ j → j < L → S' 85 j = t j) (h8' : S' 71 8 = S 71 8) (h9' : S' 71 9 = S 71 9) (h10 : S' 71 10 = S 71 10) (h11 : S' 71 11 = S 71 11) (hf : ∀ b, ((72 ≤ b ∧ b ≤ 79) ∨ (87 ≤ b ∧ b ≤ 89)) → S' b = S b) : RR S' (Atp A L t) := by
  obtain ⟨h1, h2, h3, ⟨h4, h5, h6⟩, ⟨h7, h8⟩, h9⟩ := h
  refine ⟨fun c a b => (h1 c a b).fr fun e p q => hf e (by omega), fun c a b => (h2 c a b).fr fun e p q => hf e (by omega), h8'.trans h3, ⟨h9'.trans h4, h10.trans h5, h11.trans h6⟩, ⟨hL, ht⟩, fun i a b => ?_⟩
  rw [hf 87 (by omega), hf 88 (by omega), hf 89 (by omega)]; exact h9 i a b
theorem RR.sh {S S' : mm_S} {A : mm_A} (h : RR S A) {i : Int} {so sz : Int} {pl : Int → Int} (h0 : S' 71 = S 71) (hf : ∀ b, ((72 ≤ b ∧ b ≤ 79) ∨ b = 85) → S' b = S b) (a1 : ∀ j, S' 87 j = if j = i then so else S 87 j) (a2 : ∀ j, S' 88 j = if j = i then sz else S 88 j) (a3 : ∀ j k, 0 ≤ k → k < 40 → S' 89 (40 * j + k) = if j = i then pl k else S 89 (40 * j + k)) : RR S' (Ash A i (so, sz, pl)) := by
  obtain ⟨h1, h2, h3, ⟨h4, h5, h6⟩, ⟨h7, h8⟩, h9⟩ := h
  refine ⟨fun c a b => (h1 c a b).fr fun e p q => hf e (by omega), fun c a b => (h2 c a b).fr fun e p q => hf e (by omega), by rw [h0]; exact h3, ⟨by rw [h0]; exact h4, by rw [h0]; exact h5, by rw [h0]; exact h6⟩, ⟨by rw [h0]; exact h7, fun j a b => by rw [hf 85 (by omega)]; exact h8 j a b⟩, fun j a b => ?_⟩
  rw [a1, a2]
  have a3' := a3 j
  unfold Aso Asz Apl Ash
  dsimp only
  by_cases e : j = i
  · rw [if_pos e, if_pos e, if_pos e]
    exact ⟨rfl, rfl, fun k p q => by rw [a3' k p q, if_pos e]⟩
  · rw [if_neg e, if_neg e, if_neg e]
    have := h9 j a b
    exact ⟨this.1, this.2.1, fun k p q => by rw [a3' k p q, if_neg e]; exact this.2.2 k p q⟩
theorem RR.kq {S S' : mm_S} {A : mm_A} (h : RR S A) (hM : ∀ c, 0 ≤ c → c < 4 → MK4 S' c (AK A c)) (h0 : S' 71 8 = 1 ∧ (S' 71 9 = S 71 9 ∧ S' 71 10 = S 71 10 ∧ S' 71 11 = S 71 11) ∧ S' 71 21 = S 71 21) (hf : ∀ b, ((72 ≤ b ∧ b ≤ 75) ∨ b = 85 ∨ (87 ≤ b ∧ b ≤ 89)) → S' b = S b) : RR S' (Akq A) := by
  obtain ⟨h1, h2, h3, ⟨h4, h5, h6⟩, ⟨h7, h8⟩, h9⟩ := h
  obtain ⟨g3, ⟨g4, g5, g6⟩, g7⟩ := h0
  refine ⟨fun c a b => (h1 c a b).fr fun e p q => hf e (by omega), hM, g3, ⟨g4.trans h4, g5.trans h5, g6.trans h6⟩, ⟨g7.trans h7, fun j a b => ?_⟩, fun i a b => ?_⟩
  · rw [hf 85 (by omega)]; exact h8 j a b
  · rw [hf 87 (by omega), hf 88 (by omega), hf 89 (by omega)]; exact h9 i a b
theorem RR.ag {S S' : mm_S} {A : mm_A} (h : RR S A) (hM : ∀ c, 0 ≤ c → c < 4 → MR S' c (AQ A c)) (h0 : S' 71 = S 71) (hf : ∀ b, ((76 ≤ b ∧ b ≤ 79) ∨ b = 85 ∨ (87 ≤ b ∧ b ≤ 89)) → S' b = S b) : RR S' (Aag A) := by
  obtain ⟨h1, h2, h3, ⟨h4, h5, h6⟩, ⟨h7, h8⟩, h9⟩ := h
  refine ⟨hM, fun c a b => (h2 c a b).fr fun e p q => hf e (by omega), by rw [h0]; exact h3, ⟨by rw [h0]; exact h4, by rw [h0]; exact h5, by rw [h0]; exact h6⟩, ⟨by rw [h0]; exact h7, fun j a b => ?_⟩, fun i a b => ?_⟩
  · rw [hf 85 (by omega)]; exact h8 j a b
  · rw [hf 87 (by omega), hf 88 (by omega), hf 89 (by omega)]; exact h9 i a b
