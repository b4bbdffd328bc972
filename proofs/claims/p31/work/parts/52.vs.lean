/-! What every call leaves is such a state again. -/
theorem Vs.tp {A : mm_A} (h : Vs A) {L : Int} {t : Int → Int} (hL : 0 ≤ L ∧ L ≤ 200) (ht : ∀ j, 0 ≤ t j ∧ t j ≤ 255) : Vs (Atp A L t) := ⟨h.1, h.2.1, h.2.2.1, hL, ht, h.2.2.2.2.2⟩
theorem Vs.sh {A : mm_A} (h : Vs A) {i so sz : Int} {pl : Int → Int} (h1 : -1 ≤ so ∧ so ≤ 2) (h2 : 0 ≤ sz ∧ sz ≤ 40) : Vs (Ash A i (so, sz, pl)) := by
  refine ⟨h.1, h.2.1, h.2.2.1, h.2.2.2.1, h.2.2.2.2.1, fun j j0 j1 => ?_⟩
  unfold Aso Asz Ash
  dsimp only
  by_cases e : j = i
  · rw [if_pos e]; exact ⟨h1, h2⟩
  · rw [if_neg e]; exact h.2.2.2.2.2 j j0 j1
theorem V_clear {A : mm_A} (h : Vs A) (c : Int) : Vs (Q_clear A c).2 := by
  unfold Q_clear
  split
  · exact h.kc Xz_Vx
  · exact h
theorem V_cell {A : mm_A} (h : Vs A) (c d l o : Int) : Vs (Q_cell A c d l o).2 := by
  unfold Q_cell
  by_cases q0 : 0 ≤ c ∧ c < 4
  · rw [if_pos q0]
    have hk := h.1 c q0.1 q0.2
    have hnr := hk.1.1
    by_cases q1 : 0 ≤ d ∧ d ≤ 4
    · rw [if_pos q1]
      by_cases q2 : 0 ≤ l ∧ l ≤ 9
      · rw [if_pos q2]
        by_cases q3 : 0 ≤ o ∧ o ≤ 9
        · rw [if_pos q3]
          by_cases q4 : Xn (AK A c) = 12
          · rw [if_pos q4]; exact h
          · rw [if_neg q4]; exact h.kc (Xadd_Vx hk (by omega) q1 q2 q3)
        · rw [if_neg q3]; exact h
      · rw [if_neg q2]; exact h
    · rw [if_neg q1]; exact h
  · rw [if_neg q0]; exact h
theorem V_entry {A : mm_A} (h : Vs A) (c x y v : Int) : Vs (Q_entry A c x y v).2 := by
  unfold Q_entry ifm
  by_cases q0 : 0 ≤ c ∧ c < 4
  · rw [if_pos q0]
    by_cases q1 : Xmay (AK A c) x y
    · rw [if_pos q1]
      by_cases q2 : -9 ≤ v ∧ v ≤ 9
      · rw [if_pos q2]; exact h.kc (Xset_Vx (h.1 c q0.1 q0.2) q2 (Or.inr q1))
      · rw [if_neg q2]; exact h
    · rw [if_neg q1]; exact h
  · rw [if_neg q0]; exact h
theorem V_entryOf {A : mm_A} (h : Vs A) (c x y : Int) : Vs (Q_entryOf A c x y).2 := by
  unfold Q_entryOf
  split <;> exact h
theorem V_of {A : mm_A} (h : Vs A) (c x w : Int) : Vs (Q_of A c x w).2 := by
  unfold Q_of
  repeat' split
  all_goals exact h
theorem V_broken {A : mm_A} (h : Vs A) (c : Int) : Vs (Q_broken A c).2 := by
  unfold Q_broken
  split <;> exact h
theorem V_mend {A : mm_A} (h : Vs A) (c : Int) : Vs (Q_mend A c).2 := by
  unfold Q_mend
  split
  · exact h.tr _ _ _
  · exact h
theorem V_feed {A : mm_A} (h : Vs A) (e n : Int) : Vs (Q_feed A e n).2 := by
  have hL := h.2.2.2.1
  unfold Q_feed
  by_cases q : n < 1 ∨ 8 < n
  · rw [if_pos q]; exact h
  · rw [if_neg q]
    by_cases q2 : 200 < AL A + n
    · rw [if_pos q2]; exact h
    · rw [if_neg q2]
      refine h.tp (by omega) fun j => ?_
      split
      · exact h.2.2.2.2.1 j
      · unfold bt; omega
theorem V_text {A : mm_A} (h : Vs A) (c : Int) : Vs (Q_text A c).2 := by
  have hL := h.2.2.2.1
  have hT : Vs (Atp A 0 (AT A)) := h.tp (by omega) h.2.2.2.2.1
  unfold Q_text
  by_cases q : 0 ≤ c ∧ c < 4
  · rw [if_pos q]
    by_cases q2 : (rr (AL A) (AT A)).1 = 0
    · rw [if_pos q2]; exact hT
    · rw [if_neg q2]; exact hT.kc ((rr_g hL.1).resolve_left q2)
  · rw [if_neg q]; exact h
theorem V_goes {A : mm_A} (h : Vs A) (c w p x : Int) : Vs (Q_goes A c w p x).2 := by
  unfold Q_goes ifp
  repeat' split
  all_goals exact h
theorem V_reduced {A : mm_A} (h : Vs A) (c w p x y : Int) : Vs (Q_reduced A c w p x y).2 := by
  unfold Q_reduced ifp
  repeat' split
  all_goals exact h
theorem V_told {A : mm_A} (h : Vs A) (c w p r l d t : Int) : Vs (Q_told A c w p r l d t).2 := by
  unfold Q_told ifp
  repeat' split
  all_goals exact h
theorem V_stands {A : mm_A} (h : Vs A) (c w p : Int) : Vs (Q_stands A c w p).2 := by
  unfold Q_stands ifp
  repeat' split
  all_goals exact h
theorem V_left {A : mm_A} (h : Vs A) (c p d : Int) : Vs (Q_left A c p d).2 := by
  unfold Q_left ifp
  repeat' split
  all_goals exact h
theorem V_times {A : mm_A} (h : Vs A) (c o t : Int) : Vs (Q_times A c o t).2 := by
  unfold Q_times iffq
  by_cases q0 : 0 ≤ c ∧ c < 4
  · rw [if_pos q0]
    by_cases q1 : 0 ≤ o ∧ o < 4
    · rw [if_pos q1]
      by_cases q2 : 0 ≤ t ∧ t < 4
      · rw [if_pos q2]
        have h1 := h.1 c q0.1 q0.2
        have h2 := h.1 o q1.1 q1.2
        by_cases q3 : Xfit (AK A c) (AK A o)
        · rw [if_pos q3]; exact h.kc (isProd_Vx h1 h2 (Xprod_ok h1.1.1.1 h2.1.1.1 q3.1) q3)
        · rw [if_neg q3]; exact h
      · rw [if_neg q2]; exact h
    · rw [if_neg q1]; exact h
  · rw [if_neg q0]; exact h
theorem V_part {A : mm_A} (h : Vs A) (c w l t : Int) : Vs (Q_part A c w l t).2 := by
  unfold Q_part
  by_cases q0 : 0 ≤ c ∧ c < 4
  · rw [if_pos q0]
    have h1 := h.1 c q0.1 q0.2
    repeat' split
    all_goals first | exact h | exact h.kc (isPart_Vx h1 (Xpart_ok h1.1.1 w l))
  · rw [if_neg q0]; exact h
theorem V_would {A : mm_A} (h : Vs A) (c x y v p d : Int) : Vs (Q_would A c x y v p d).2 := by
  unfold Q_would ifm ifp
  repeat' split
  all_goals first | exact h | exact h.tr _ _ _
theorem V_trials {A : mm_A} (h : Vs A) (w : Int) : Vs (Q_trials A w).2 := by
  unfold Q_trials
  repeat' split
  all_goals exact h
theorem V_sheet {A : mm_A} (h : Vs A) (i so n : Int) : Vs (Q_sheet A i so n).2 := by
  unfold Q_sheet
  repeat' split
  all_goals first | exact h | exact h.sh (by omega) (by omega)
theorem V_put {A : mm_A} (h : Vs A) (i j v : Int) : Vs (Q_put A i j v).2 := by
  unfold Q_put ifo
  by_cases q : 0 ≤ i ∧ i < 4
  · rw [if_pos q]
    have hs := h.2.2.2.2.2 i q.1 q.2
    repeat' split
    all_goals first | exact h | exact h.sh hs.1 hs.2
  · rw [if_neg q]; exact h
theorem V_item {A : mm_A} (h : Vs A) (i so j : Int) : Vs (Q_item A i so j).2 := by
  unfold Q_item ifo
  repeat' split
  all_goals exact h
theorem V_copy {A : mm_A} (h : Vs A) (i j o k n : Int) : Vs (Q_copy A i j o k n).2 := by
  unfold Q_copy ifo
  by_cases q0 : 0 ≤ i ∧ i < 4
  · rw [if_pos q0]
    by_cases q : 0 ≤ o ∧ o < 4
    · rw [if_pos q]
      have hs := h.2.2.2.2.2 o q.1 q.2
      repeat' split
      all_goals first | exact h | exact h.sh hs.1 hs.2
    · rw [if_neg q]; exact h
  · rw [if_neg q0]; exact h
theorem V_lay {A : mm_A} (h : Vs A) (c x i j : Int) : Vs (Q_lay A c x i j).2 := by
  unfold Q_lay
  by_cases q0 : 0 ≤ c ∧ c < 4
  · rw [if_pos q0]
    by_cases q : 0 ≤ i ∧ i < 4
    · rw [if_pos q]
      have hs := h.2.2.2.2.2 i q.1 q.2
      repeat' split
      all_goals first | exact h | exact h.sh hs.1 hs.2
    · rw [if_neg q]; exact h
  · rw [if_neg q0]; exact h
theorem V_take {A : mm_A} (h : Vs A) (i j c x : Int) : Vs (Q_take A i j c x).2 := by
  unfold Q_take
  by_cases q0 : 0 ≤ c ∧ c < 4
  · rw [if_pos q0]
    by_cases q1 : 0 ≤ i ∧ i < 4
    · rw [if_pos q1]
      by_cases q2 : 0 ≤ x ∧ x < Xn (AK A c)
      · rw [if_pos q2]
        by_cases q3 : lackv (Aso A i) (Asz A i) j (Xn (AK A c)) = 0
        · rw [if_pos q3]
          by_cases q4 : sm (tkb (AK A c) x fun y => Apl A i (j + y)) (Xn (AK A c)) = 0
          · rw [if_pos q4]; exact h.kc (Xrow_Vx (h.1 c q0.1 q0.2) q2 q4)
          · rw [if_neg q4]; exact h
        · rw [if_neg q3]; exact h
      · rw [if_neg q2]; exact h
    · rw [if_neg q1]; exact h
  · rw [if_neg q0]; exact h
theorem V_many {A : mm_A} (h : Vs A) (w : Int) : Vs (Q_many A w).2 := by
  unfold Q_many
  repeat' split
  all_goals exact h
theorem V_keep {A : mm_A} (h : Vs A) : Vs (Q_keep A).2 := ⟨h.1, h.1, Or.inr rfl, h.2.2.2.1, h.2.2.2.2.1, h.2.2.2.2.2⟩
theorem V_again {A : mm_A} (h : Vs A) : Vs (Q_again A).2 := by
  unfold Q_again
  split
  · exact h
  · exact ⟨h.2.1, h.2.1, h.2.2.1, h.2.2.2.1, h.2.2.2.2.1, h.2.2.2.2.2⟩
/-- the law's own code, piece by piece -/
theorem find_app {A B : List mm_E} {pc : Nat} (h : mm_find A pc = none) : mm_find (A ++ B) pc = mm_find B pc := by
  induction A with
  | nil => rfl
  | cons e r ih =>
    show (if e.1 = pc then some e else mm_find (r ++ B) pc) = _
    have h' : (if e.1 = pc then some e else mm_find r pc) = none := h
    by_cases q : e.1 = pc
    · rw [if_pos q] at h'; cases h'
    · rw [if_neg q] at h' ⊢; exact ih h'
theorem find_fst {A B : List mm_E} {pc : Nat} {e : mm_E} (h : mm_find A pc = some e) : mm_find (A ++ B) pc = some e := by
  induction A with
  | nil => cases h
  | cons a r ih =>
    show (if a.1 = pc then some a else mm_find (r ++ B) pc) = _
    have h' : (if a.1 = pc then some a else mm_find r pc) = some e := h
    by_cases q : a.1 = pc
    · rw [if_pos q] at h' ⊢; exact h'
    · rw [if_neg q] at h' ⊢; exact ih h'
theorem find_no {A : List mm_E} {pc : Nat} (h : A.all (fun e => decide (e.1 < pc)) = true) : mm_find A pc = none := by
  induction A with
  | nil => rfl
  | cons a r ih =>
    rw [List.all_cons, Bool.and_eq_true] at h
    show (if a.1 = pc then some a else mm_find r pc) = none
    rw [if_neg (fun q => by have := of_decide_eq_true h.1; omega)]
    exact ih h.2
theorem all_lt {A : List mm_E} {lo pc : Nat} (h : A.all (fun e => decide (e.1 < lo)) = true) (q : lo ≤ pc) : A.all (fun e => decide (e.1 < pc)) = true := List.all_eq_true.mpr fun e he => decide_eq_true (by have := of_decide_eq_true (List.all_eq_true.mp h e he); omega)
theorem lwt_0 {pc : Nat} : mm_find k_Law_law pc = mm_find (k_Law_0 ++ (k_Law_1 ++ (k_Law_2 ++ (k_Law_3 ++ (k_Law_4 ++ (k_Law_5 ++ (k_Law_6 ++ (k_Law_7 ++ (k_Law_8 ++ (k_Law_9 ++ (k_Law_10 ++ (k_Law_11 ++ (k_Law_12 ++ (k_Law_13 ++ (k_Law_14 ++ (k_Law_15 ++ (k_Law_16 ++ (k_Law_17 ++ (k_Law_18 ++ (k_Law_19)))))))))))))))))))) pc := rfl
theorem lwt_1 {pc : Nat} (h : 222 ≤ pc) : mm_find k_Law_law pc = mm_find (k_Law_1 ++ (k_Law_2 ++ (k_Law_3 ++ (k_Law_4 ++ (k_Law_5 ++ (k_Law_6 ++ (k_Law_7 ++ (k_Law_8 ++ (k_Law_9 ++ (k_Law_10 ++ (k_Law_11 ++ (k_Law_12 ++ (k_Law_13 ++ (k_Law_14 ++ (k_Law_15 ++ (k_Law_16 ++ (k_Law_17 ++ (k_Law_18 ++ (k_Law_19))))))))))))))))))) pc := (lwt_0).trans (find_app (find_no (all_lt (lo := 222) (by decide +kernel) h)))
theorem lwt_2 {pc : Nat} (h : 288 ≤ pc) : mm_find k_Law_law pc = mm_find (k_Law_2 ++ (k_Law_3 ++ (k_Law_4 ++ (k_Law_5 ++ (k_Law_6 ++ (k_Law_7 ++ (k_Law_8 ++ (k_Law_9 ++ (k_Law_10 ++ (k_Law_11 ++ (k_Law_12 ++ (k_Law_13 ++ (k_Law_14 ++ (k_Law_15 ++ (k_Law_16 ++ (k_Law_17 ++ (k_Law_18 ++ (k_Law_19)))))))))))))))))) pc := (lwt_1 (by omega)).trans (find_app (find_no (all_lt (lo := 288) (by decide +kernel) h)))
theorem lwt_3 {pc : Nat} (h : 360 ≤ pc) : mm_find k_Law_law pc = mm_find (k_Law_3 ++ (k_Law_4 ++ (k_Law_5 ++ (k_Law_6 ++ (k_Law_7 ++ (k_Law_8 ++ (k_Law_9 ++ (k_Law_10 ++ (k_Law_11 ++ (k_Law_12 ++ (k_Law_13 ++ (k_Law_14 ++ (k_Law_15 ++ (k_Law_16 ++ (k_Law_17 ++ (k_Law_18 ++ (k_Law_19))))))))))))))))) pc := (lwt_2 (by omega)).trans (find_app (find_no (all_lt (lo := 360) (by decide +kernel) h)))
theorem lwt_4 {pc : Nat} (h : 436 ≤ pc) : mm_find k_Law_law pc = mm_find (k_Law_4 ++ (k_Law_5 ++ (k_Law_6 ++ (k_Law_7 ++ (k_Law_8 ++ (k_Law_9 ++ (k_Law_10 ++ (k_Law_11 ++ (k_Law_12 ++ (k_Law_13 ++ (k_Law_14 ++ (k_Law_15 ++ (k_Law_16 ++ (k_Law_17 ++ (k_Law_18 ++ (k_Law_19)))))))))))))))) pc := (lwt_3 (by omega)).trans (find_app (find_no (all_lt (lo := 436) (by decide +kernel) h)))
theorem lwt_5 {pc : Nat} (h : 512 ≤ pc) : mm_find k_Law_law pc = mm_find (k_Law_5 ++ (k_Law_6 ++ (k_Law_7 ++ (k_Law_8 ++ (k_Law_9 ++ (k_Law_10 ++ (k_Law_11 ++ (k_Law_12 ++ (k_Law_13 ++ (k_Law_14 ++ (k_Law_15 ++ (k_Law_16 ++ (k_Law_17 ++ (k_Law_18 ++ (k_Law_19))))))))))))))) pc := (lwt_4 (by omega)).trans (find_app (find_no (all_lt (lo := 512) (by decide +kernel) h)))
theorem lwt_6 {pc : Nat} (h : 580 ≤ pc) : mm_find k_Law_law pc = mm_find (k_Law_6 ++ (k_Law_7 ++ (k_Law_8 ++ (k_Law_9 ++ (k_Law_10 ++ (k_Law_11 ++ (k_Law_12 ++ (k_Law_13 ++ (k_Law_14 ++ (k_Law_15 ++ (k_Law_16 ++ (k_Law_17 ++ (k_Law_18 ++ (k_Law_19)))))))))))))) pc := (lwt_5 (by omega)).trans (find_app (find_no (all_lt (lo := 580) (by decide +kernel) h)))
theorem lwt_7 {pc : Nat} (h : 646 ≤ pc) : mm_find k_Law_law pc = mm_find (k_Law_7 ++ (k_Law_8 ++ (k_Law_9 ++ (k_Law_10 ++ (k_Law_11 ++ (k_Law_12 ++ (k_Law_13 ++ (k_Law_14 ++ (k_Law_15 ++ (k_Law_16 ++ (k_Law_17 ++ (k_Law_18 ++ (k_Law_19))))))))))))) pc := (lwt_6 (by omega)).trans (find_app (find_no (all_lt (lo := 646) (by decide +kernel) h)))
theorem lwt_8 {pc : Nat} (h : 714 ≤ pc) : mm_find k_Law_law pc = mm_find (k_Law_8 ++ (k_Law_9 ++ (k_Law_10 ++ (k_Law_11 ++ (k_Law_12 ++ (k_Law_13 ++ (k_Law_14 ++ (k_Law_15 ++ (k_Law_16 ++ (k_Law_17 ++ (k_Law_18 ++ (k_Law_19)))))))))))) pc := (lwt_7 (by omega)).trans (find_app (find_no (all_lt (lo := 714) (by decide +kernel) h)))
theorem lwt_9 {pc : Nat} (h : 782 ≤ pc) : mm_find k_Law_law pc = mm_find (k_Law_9 ++ (k_Law_10 ++ (k_Law_11 ++ (k_Law_12 ++ (k_Law_13 ++ (k_Law_14 ++ (k_Law_15 ++ (k_Law_16 ++ (k_Law_17 ++ (k_Law_18 ++ (k_Law_19))))))))))) pc := (lwt_8 (by omega)).trans (find_app (find_no (all_lt (lo := 782) (by decide +kernel) h)))
theorem lwt_10 {pc : Nat} (h : 850 ≤ pc) : mm_find k_Law_law pc = mm_find (k_Law_10 ++ (k_Law_11 ++ (k_Law_12 ++ (k_Law_13 ++ (k_Law_14 ++ (k_Law_15 ++ (k_Law_16 ++ (k_Law_17 ++ (k_Law_18 ++ (k_Law_19)))))))))) pc := (lwt_9 (by omega)).trans (find_app (find_no (all_lt (lo := 850) (by decide +kernel) h)))
theorem lwt_11 {pc : Nat} (h : 920 ≤ pc) : mm_find k_Law_law pc = mm_find (k_Law_11 ++ (k_Law_12 ++ (k_Law_13 ++ (k_Law_14 ++ (k_Law_15 ++ (k_Law_16 ++ (k_Law_17 ++ (k_Law_18 ++ (k_Law_19))))))))) pc := (lwt_10 (by omega)).trans (find_app (find_no (all_lt (lo := 920) (by decide +kernel) h)))
theorem lwt_12 {pc : Nat} (h : 986 ≤ pc) : mm_find k_Law_law pc = mm_find (k_Law_12 ++ (k_Law_13 ++ (k_Law_14 ++ (k_Law_15 ++ (k_Law_16 ++ (k_Law_17 ++ (k_Law_18 ++ (k_Law_19)))))))) pc := (lwt_11 (by omega)).trans (find_app (find_no (all_lt (lo := 986) (by decide +kernel) h)))
theorem lwt_13 {pc : Nat} (h : 1054 ≤ pc) : mm_find k_Law_law pc = mm_find (k_Law_13 ++ (k_Law_14 ++ (k_Law_15 ++ (k_Law_16 ++ (k_Law_17 ++ (k_Law_18 ++ (k_Law_19))))))) pc := (lwt_12 (by omega)).trans (find_app (find_no (all_lt (lo := 1054) (by decide +kernel) h)))
theorem lwt_14 {pc : Nat} (h : 1121 ≤ pc) : mm_find k_Law_law pc = mm_find (k_Law_14 ++ (k_Law_15 ++ (k_Law_16 ++ (k_Law_17 ++ (k_Law_18 ++ (k_Law_19)))))) pc := (lwt_13 (by omega)).trans (find_app (find_no (all_lt (lo := 1121) (by decide +kernel) h)))
theorem lwt_15 {pc : Nat} (h : 1194 ≤ pc) : mm_find k_Law_law pc = mm_find (k_Law_15 ++ (k_Law_16 ++ (k_Law_17 ++ (k_Law_18 ++ (k_Law_19))))) pc := (lwt_14 (by omega)).trans (find_app (find_no (all_lt (lo := 1194) (by decide +kernel) h)))
theorem lwt_16 {pc : Nat} (h : 1264 ≤ pc) : mm_find k_Law_law pc = mm_find (k_Law_16 ++ (k_Law_17 ++ (k_Law_18 ++ (k_Law_19)))) pc := (lwt_15 (by omega)).trans (find_app (find_no (all_lt (lo := 1264) (by decide +kernel) h)))
theorem lwt_17 {pc : Nat} (h : 1336 ≤ pc) : mm_find k_Law_law pc = mm_find (k_Law_17 ++ (k_Law_18 ++ (k_Law_19))) pc := (lwt_16 (by omega)).trans (find_app (find_no (all_lt (lo := 1336) (by decide +kernel) h)))
theorem lwt_18 {pc : Nat} (h : 1402 ≤ pc) : mm_find k_Law_law pc = mm_find (k_Law_18 ++ (k_Law_19)) pc := (lwt_17 (by omega)).trans (find_app (find_no (all_lt (lo := 1402) (by decide +kernel) h)))
theorem lwt_19 {pc : Nat} (h : 1470 ≤ pc) : mm_find k_Law_law pc = mm_find (k_Law_19) pc := (lwt_18 (by omega)).trans (find_app (find_no (all_lt (lo := 1470) (by decide +kernel) h)))
theorem lj_0 {pc : Nat} {e : mm_E} (h : 16 ≤ pc) (q : mm_find k_Law_0 pc = some e) : mm_find k_Law_law pc = some e := (lwt_0).trans (find_fst q)
theorem lj_1 {pc : Nat} {e : mm_E} (h : 222 ≤ pc) (q : mm_find k_Law_1 pc = some e) : mm_find k_Law_law pc = some e := (lwt_1 h).trans (find_fst q)
theorem lj_2 {pc : Nat} {e : mm_E} (h : 288 ≤ pc) (q : mm_find k_Law_2 pc = some e) : mm_find k_Law_law pc = some e := (lwt_2 h).trans (find_fst q)
theorem lj_3 {pc : Nat} {e : mm_E} (h : 360 ≤ pc) (q : mm_find k_Law_3 pc = some e) : mm_find k_Law_law pc = some e := (lwt_3 h).trans (find_fst q)
theorem lj_4 {pc : Nat} {e : mm_E} (h : 436 ≤ pc) (q : mm_find k_Law_4 pc = some e) : mm_find k_Law_law pc = some e := (lwt_4 h).trans (find_fst q)
theorem lj_5 {pc : Nat} {e : mm_E} (h : 512 ≤ pc) (q : mm_find k_Law_5 pc = some e) : mm_find k_Law_law pc = some e := (lwt_5 h).trans (find_fst q)
theorem lj_6 {pc : Nat} {e : mm_E} (h : 580 ≤ pc) (q : mm_find k_Law_6 pc = some e) : mm_find k_Law_law pc = some e := (lwt_6 h).trans (find_fst q)
theorem lj_7 {pc : Nat} {e : mm_E} (h : 646 ≤ pc) (q : mm_find k_Law_7 pc = some e) : mm_find k_Law_law pc = some e := (lwt_7 h).trans (find_fst q)
theorem lj_8 {pc : Nat} {e : mm_E} (h : 714 ≤ pc) (q : mm_find k_Law_8 pc = some e) : mm_find k_Law_law pc = some e := (lwt_8 h).trans (find_fst q)
theorem lj_9 {pc : Nat} {e : mm_E} (h : 782 ≤ pc) (q : mm_find k_Law_9 pc = some e) : mm_find k_Law_law pc = some e := (lwt_9 h).trans (find_fst q)
theorem lj_10 {pc : Nat} {e : mm_E} (h : 850 ≤ pc) (q : mm_find k_Law_10 pc = some e) : mm_find k_Law_law pc = some e := (lwt_10 h).trans (find_fst q)
theorem lj_11 {pc : Nat} {e : mm_E} (h : 920 ≤ pc) (q : mm_find k_Law_11 pc = some e) : mm_find k_Law_law pc = some e := (lwt_11 h).trans (find_fst q)
theorem lj_12 {pc : Nat} {e : mm_E} (h : 986 ≤ pc) (q : mm_find k_Law_12 pc = some e) : mm_find k_Law_law pc = some e := (lwt_12 h).trans (find_fst q)
theorem lj_13 {pc : Nat} {e : mm_E} (h : 1054 ≤ pc) (q : mm_find k_Law_13 pc = some e) : mm_find k_Law_law pc = some e := (lwt_13 h).trans (find_fst q)
theorem lj_14 {pc : Nat} {e : mm_E} (h : 1121 ≤ pc) (q : mm_find k_Law_14 pc = some e) : mm_find k_Law_law pc = some e := (lwt_14 h).trans (find_fst q)
theorem lj_15 {pc : Nat} {e : mm_E} (h : 1194 ≤ pc) (q : mm_find k_Law_15 pc = some e) : mm_find k_Law_law pc = some e := (lwt_15 h).trans (find_fst q)
theorem lj_16 {pc : Nat} {e : mm_E} (h : 1264 ≤ pc) (q : mm_find k_Law_16 pc = some e) : mm_find k_Law_law pc = some e := (lwt_16 h).trans (find_fst q)
theorem lj_17 {pc : Nat} {e : mm_E} (h : 1336 ≤ pc) (q : mm_find k_Law_17 pc = some e) : mm_find k_Law_law pc = some e := (lwt_17 h).trans (find_fst q)
theorem lj_18 {pc : Nat} {e : mm_E} (h : 1402 ≤ pc) (q : mm_find k_Law_18 pc = some e) : mm_find k_Law_law pc = some e := (lwt_18 h).trans (find_fst q)
theorem lj_19 {pc : Nat} {e : mm_E} (h : 1470 ≤ pc) (q : mm_find k_Law_19 pc = some e) : mm_find k_Law_law pc = some e := (lwt_19 h).trans (q)
