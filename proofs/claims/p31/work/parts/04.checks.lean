/-- a call's room and words -/
def mm_cok (own fr lo idx r1 r2 : Nat) (r3 : Int) (v : Bool) : Bool :=
  decide (r1 < 190) && ((mm_lm.any (fun q => decide (q.1 = own ∧ q.2.1 = idx ∧ q.2.2.1 = r1)) || (!v && mm_ln.any (fun q => decide (q.1 = own ∧ q.2.1 = idx ∧ q.2.2.1 = r1)))) &&
   decide ((mm_hd r1).2.2.2.2.2.2.2.2 = !v ∧ r2 = (mm_hd r1).2.2.2.2.2.2.2.1 + (if v then 1 else 0) ∧ r3 = (if v then ((mm_hd r1).2.2.2.2.1 : Int) + 1 else 0) ∧ (mm_hd r1).2.2.2.2.2.1 + 1 ≤ fr ∧ 8 + ((mm_hd r1).2.2.1 + 11) + (mm_hd r1).2.2.2.2.2.2.1 ≤ lo))
def mm_iok (own fr lo : Nat) (e : mm_E) : Bool := match e.2.1 with
  | .getfield idx => mm_lf.any fun q => decide (q.1 = own ∧ q.2.1 = idx ∧ q.2.2.1 = e.2.2.2.1 ∧ q.2.2.2.1 = e.2.2.2.2.1)
  | .putfield idx => mm_lf.any fun q => decide (q.1 = own ∧ q.2.1 = idx ∧ q.2.2.1 = e.2.2.2.1 ∧ q.2.2.2.1 = e.2.2.2.2.1)
  | .ldc idx => mm_lc.any fun q => decide (q.1 = own ∧ q.2.1 = idx ∧ q.2.2.1 = e.2.2.2.2.2)
  | .ldc_w idx => mm_lc.any fun q => decide (q.1 = own ∧ q.2.1 = idx ∧ q.2.2.1 = e.2.2.2.2.2)
  | .ldc2_w idx => mm_ll.any fun q => decide (q.1 = own ∧ q.2.1 = idx ∧ q.2.2.1 = e.2.2.2.2.2)
  | .iconst n => decide (-1 ≤ n ∧ n ≤ 5)
  | .bipush n => decide (-128 ≤ n ∧ n < 128)
  | .sipush n => decide (-32768 ≤ n ∧ n < 32768)
  | .iinc _ n => decide (-128 ≤ n ∧ n < 128)
  | .goto off => decide (0 ≤ (e.1 : Int) + off)
  | .if_icmp _ off => decide (0 ≤ (e.1 : Int) + off)
  | .ifCond _ off => decide (0 ≤ (e.1 : Int) + off)
  | .ifnull off => decide (0 ≤ (e.1 : Int) + off)
  | .ifnonnull off => decide (0 ≤ (e.1 : Int) + off)
  | .tableswitch d lw hi offs => decide (0 ≤ (e.1 : Int) + d ∧ -1000000 < lw ∧ hi < 1000000 ∧ (offs.size : Int) = hi - lw + 1) && offs.toList.all fun o => decide (0 ≤ (e.1 : Int) + o)
  | .invokevirtual idx => mm_cok own fr lo idx e.2.2.2.1 e.2.2.2.2.1 e.2.2.2.2.2 true
  | .invokestatic idx => if e.2.2.2.1 = 999 then mm_la.any (fun q => decide (q.1 = own ∧ q.2.1 = idx)) && decide (1 ≤ fr ∧ 26 ≤ lo) else mm_cok own fr lo idx e.2.2.2.1 e.2.2.2.2.1 e.2.2.2.2.2 false
  | .iaload => decide (e.2.2.2.1 = 7 → own = 13)
  | .arraylength => decide (e.2.2.2.1 = 7 → own = 13)
  | _ => true
def mm_il : Instr → Nat
  | .iload _ | .lload _ | .aload _ | .istore _ | .lstore _ | .astore _ | .bipush _ | .ldc _ => 2
  | .sipush _ | .iinc _ _ | .goto _ | .if_icmp _ _ | .ifCond _ _ | .ifnull _ | .ifnonnull _ | .getfield _ | .putfield _ | .invokevirtual _ | .invokestatic _ | .ldc_w _ | .ldc2_w _ => 3
  | .tableswitch _ _ _ _ => 0
  | _ => 1
def mm_rok (rt : Option FieldType) (e : mm_E) : Bool := match e.2.1 with
  | .ireturn => decide (rt = some .int ∨ (rt = some .boolean ∧ e.2.2.2.1 = 1))
  | .lreturn => decide (rt = some .long)
  | .areturn => match rt with
    | some (.object _) => true
    | _ => false
  | .return_ => decide (rt = none)
  | _ => true
def mm_eok (own fr lo : Nat) (bytes : ByteArray) (e : mm_E) : Bool := decide (decode bytes e.1 = .ok (e.2.1, e.2.2.1)) && (decide (mm_il e.2.1 = 0 ∨ e.2.2.1 = mm_il e.2.1) && mm_iok own fr lo e)

theorem rk_P_clear : k_P_clear.all (mm_rok (some .int)) = true := by decide +kernel
theorem ek_P_clear : k_P_clear.all (mm_eok 0 1 21 prog_1_method_2_code) = true := by decide +kernel
theorem rk_P_cell : k_P_cell.all (mm_rok (some .int)) = true := by decide +kernel
theorem ek_P_cell : k_P_cell.all (mm_eok 0 3 69 prog_1_method_3_code) = true := by decide +kernel
theorem rk_P_entry : k_P_entry.all (mm_rok (some .int)) = true := by decide +kernel
theorem ek_P_entry : k_P_entry.all (mm_eok 0 2 44 prog_1_method_4_code) = true := by decide +kernel
theorem rk_P_entryOf : k_P_entryOf.all (mm_rok (some .int)) = true := by decide +kernel
theorem ek_P_entryOf : k_P_entryOf.all (mm_eok 0 2 43 prog_1_method_5_code) = true := by decide +kernel
theorem rk_P_of : k_P_of.all (mm_rok (some .int)) = true := by decide +kernel
theorem ek_P_of : k_P_of.all (mm_eok 0 3 66 prog_1_method_6_code) = true := by decide +kernel
theorem rk_P_broken : k_P_broken.all (mm_rok (some .int)) = true := by decide +kernel
theorem ek_P_broken : k_P_broken.all (mm_eok 0 3 69 prog_1_method_7_code) = true := by decide +kernel
theorem rk_P_mend : k_P_mend.all (mm_rok (some .int)) = true := by decide +kernel
theorem ek_P_mend : k_P_mend.all (mm_eok 0 4 91 prog_1_method_8_code) = true := by decide +kernel
theorem rk_P_feed : k_P_feed.all (mm_rok (some .int)) = true := by decide +kernel
theorem ek_P_feed : k_P_feed.all (mm_eok 0 1 21 prog_1_method_9_code) = true := by decide +kernel
theorem rk_P_text : k_P_text.all (mm_rok (some .int)) = true := by decide +kernel
theorem ek_P_text : k_P_text.all (mm_eok 0 6 130 prog_1_method_10_code) = true := by decide +kernel
theorem rk_P_goes : k_P_goes.all (mm_rok (some .int)) = true := by decide +kernel
theorem ek_P_goes : k_P_goes.all (mm_eok 0 5 115 prog_1_method_11_code) = true := by decide +kernel
theorem rk_P_reduced : k_P_reduced.all (mm_rok (some .int)) = true := by decide +kernel
theorem ek_P_reduced : k_P_reduced.all (mm_eok 0 5 115 prog_1_method_12_code) = true := by decide +kernel
theorem rk_P_page : k_P_page.all (mm_rok (some .int)) = true := by decide +kernel
theorem ek_P_page : k_P_page.all (mm_eok 0 6 145 prog_1_method_13_code) = true := by decide +kernel
theorem rk_P_turns : k_P_turns.all (mm_rok (some .int)) = true := by decide +kernel
theorem ek_P_turns : k_P_turns.all (mm_eok 0 6 145 prog_1_method_14_code) = true := by decide +kernel
theorem rk_P_stands : k_P_stands.all (mm_rok (some .int)) = true := by decide +kernel
theorem ek_P_stands : k_P_stands.all (mm_eok 0 5 115 prog_1_method_15_code) = true := by decide +kernel
theorem rk_P_left : k_P_left.all (mm_rok (some .int)) = true := by decide +kernel
theorem ek_P_left : k_P_left.all (mm_eok 0 6 140 prog_1_method_16_code) = true := by decide +kernel
theorem rk_P_whole : k_P_whole.all (mm_rok (some .int)) = true := by decide +kernel
theorem ek_P_whole : k_P_whole.all (mm_eok 0 6 146 prog_1_method_17_code) = true := by decide +kernel
theorem rk_P_wholeAt : k_P_wholeAt.all (mm_rok (some .int)) = true := by decide +kernel
theorem ek_P_wholeAt : k_P_wholeAt.all (mm_eok 0 6 146 prog_1_method_18_code) = true := by decide +kernel
theorem rk_P_times : k_P_times.all (mm_rok (some .int)) = true := by decide +kernel
theorem ek_P_times : k_P_times.all (mm_eok 0 4 96 prog_1_method_19_code) = true := by decide +kernel
theorem rk_P_part : k_P_part.all (mm_rok (some .int)) = true := by decide +kernel
theorem ek_P_part : k_P_part.all (mm_eok 0 4 96 prog_1_method_20_code) = true := by decide +kernel
theorem rk_P_would : k_P_would.all (mm_rok (some .int)) = true := by decide +kernel
theorem ek_P_would : k_P_would.all (mm_eok 0 6 140 prog_1_method_21_code) = true := by decide +kernel
theorem rk_P_trials : k_P_trials.all (mm_rok (some .int)) = true := by decide +kernel
theorem ek_P_trials : k_P_trials.all (mm_eok 0 0 0 prog_1_method_22_code) = true := by decide +kernel
theorem rk_P_sheet : k_P_sheet.all (mm_rok (some .int)) = true := by decide +kernel
theorem ek_P_sheet : k_P_sheet.all (mm_eok 0 2 46 prog_1_method_23_code) = true := by decide +kernel
theorem rk_P_put : k_P_put.all (mm_rok (some .int)) = true := by decide +kernel
theorem ek_P_put : k_P_put.all (mm_eok 0 1 23 prog_1_method_24_code) = true := by decide +kernel
theorem rk_P_item : k_P_item.all (mm_rok (some .int)) = true := by decide +kernel
theorem ek_P_item : k_P_item.all (mm_eok 0 1 22 prog_1_method_25_code) = true := by decide +kernel
theorem rk_P_copy : k_P_copy.all (mm_rok (some .int)) = true := by decide +kernel
theorem ek_P_copy : k_P_copy.all (mm_eok 0 2 64 prog_1_method_26_code) = true := by decide +kernel
theorem rk_P_lay : k_P_lay.all (mm_rok (some .int)) = true := by decide +kernel
theorem ek_P_lay : k_P_lay.all (mm_eok 0 2 44 prog_1_method_27_code) = true := by decide +kernel
theorem rk_P_take : k_P_take.all (mm_rok (some .int)) = true := by decide +kernel
theorem ek_P_take : k_P_take.all (mm_eok 0 2 44 prog_1_method_28_code) = true := by decide +kernel
theorem rk_P_many : k_P_many.all (mm_rok (some .int)) = true := by decide +kernel
theorem ek_P_many : k_P_many.all (mm_eok 0 5 112 prog_1_method_29_code) = true := by decide +kernel
theorem rk_P_keep : k_P_keep.all (mm_rok (some .int)) = true := by decide +kernel
theorem ek_P_keep : k_P_keep.all (mm_eok 0 2 61 prog_1_method_30_code) = true := by decide +kernel
theorem rk_P_again : k_P_again.all (mm_rok (some .int)) = true := by decide +kernel
theorem ek_P_again : k_P_again.all (mm_eok 0 2 61 prog_1_method_31_code) = true := by decide +kernel
theorem rk_P_complexAt : k_P_complexAt.all (mm_rok (some (.object "PagesByLevels$Complex"))) = true := by decide +kernel
theorem ek_P_complexAt : k_P_complexAt.all (mm_eok 0 0 0 prog_1_method_32_code) = true := by decide +kernel
theorem rk_P_sheetAt : k_P_sheetAt.all (mm_rok (some (.object "PagesByLevels$Sheet"))) = true := by decide +kernel
theorem ek_P_sheetAt : k_P_sheetAt.all (mm_eok 0 0 0 prog_1_method_33_code) = true := by decide +kernel
theorem rk_P_isDegree : k_P_isDegree.all (mm_rok (some .boolean)) = true := by decide +kernel
theorem ek_P_isDegree : k_P_isDegree.all (mm_eok 0 0 0 prog_1_method_34_code) = true := by decide +kernel
theorem rk_P_isLevel : k_P_isLevel.all (mm_rok (some .boolean)) = true := by decide +kernel
theorem ek_P_isLevel : k_P_isLevel.all (mm_eok 0 0 0 prog_1_method_35_code) = true := by decide +kernel
theorem rk_P_isEntry : k_P_isEntry.all (mm_rok (some .boolean)) = true := by decide +kernel
theorem ek_P_isEntry : k_P_isEntry.all (mm_eok 0 0 0 prog_1_method_36_code) = true := by decide +kernel
theorem rk_P_isWay : k_P_isWay.all (mm_rok (some .boolean)) = true := by decide +kernel
theorem ek_P_isWay : k_P_isWay.all (mm_eok 0 0 0 prog_1_method_37_code) = true := by decide +kernel
theorem rk_P_isPrime : k_P_isPrime.all (mm_rok (some .boolean)) = true := by decide +kernel
theorem ek_P_isPrime : k_P_isPrime.all (mm_eok 0 0 0 prog_1_method_38_code) = true := by decide +kernel
theorem rk_P_isSort : k_P_isSort.all (mm_rok (some .boolean)) = true := by decide +kernel
theorem ek_P_isSort : k_P_isSort.all (mm_eok 0 0 0 prog_1_method_39_code) = true := by decide +kernel
theorem rk_P_get : k_P_get.all (mm_rok (some .int)) = true := by decide +kernel
theorem ek_P_get : k_P_get.all (mm_eok 0 0 0 prog_1_method_40_code) = true := by decide +kernel
theorem rk_P_set : k_P_set.all (mm_rok none) = true := by decide +kernel
theorem ek_P_set : k_P_set.all (mm_eok 0 0 0 prog_1_method_41_code) = true := by decide +kernel
theorem rk_P_ofPage : k_P_ofPage.all (mm_rok (some .int)) = true := by decide +kernel
theorem ek_P_ofPage : k_P_ofPage.all (mm_eok 0 5 115 prog_1_method_42_code) = true := by decide +kernel
theorem rk_P_staying : k_P_staying.all (mm_rok (some .int)) = true := by decide +kernel
theorem ek_P_staying : k_P_staying.all (mm_eok 0 5 115 prog_1_method_43_code) = true := by decide +kernel
theorem rk_P_inWholeNumbers : k_P_inWholeNumbers.all (mm_rok (some .int)) = true := by decide +kernel
theorem ek_P_inWholeNumbers : k_P_inWholeNumbers.all (mm_eok 0 5 121 prog_1_method_44_code) = true := by decide +kernel
theorem rk_P_refusalOfEdge : k_P_refusalOfEdge.all (mm_rok (some .int)) = true := by decide +kernel
theorem ek_P_refusalOfEdge : k_P_refusalOfEdge.all (mm_eok 0 1 22 prog_1_method_45_code) = true := by decide +kernel
theorem rk_P_cellsTogether : k_P_cellsTogether.all (mm_rok (some .int)) = true := by decide +kernel
theorem ek_P_cellsTogether : k_P_cellsTogether.all (mm_eok 0 0 0 prog_1_method_46_code) = true := by decide +kernel
theorem rk_P_setOfComplexes : k_P_setOfComplexes.all (mm_rok (some .int)) = true := by decide +kernel
theorem ek_P_setOfComplexes : k_P_setOfComplexes.all (mm_eok 0 4 89 prog_1_method_47_code) = true := by decide +kernel
theorem rk_M_in : k_M_in.all (mm_rok (some .boolean)) = true := by decide +kernel
theorem ek_M_in : k_M_in.all (mm_eok 8 0 0 prog_10_method_2_code) = true := by decide +kernel
theorem rk_M_isComplex : k_M_isComplex.all (mm_rok (some .boolean)) = true := by decide +kernel
theorem ek_M_isComplex : k_M_isComplex.all (mm_eok 8 1 22 prog_10_method_3_code) = true := by decide +kernel
theorem rk_M_isCell : k_M_isCell.all (mm_rok (some .boolean)) = true := by decide +kernel
theorem ek_M_isCell : k_M_isCell.all (mm_eok 8 1 22 prog_10_method_4_code) = true := by decide +kernel
theorem rk_M_degree : k_M_degree.all (mm_rok (some .int)) = true := by decide +kernel
theorem ek_M_degree : k_M_degree.all (mm_eok 8 0 0 prog_10_method_5_code) = true := by decide +kernel
theorem rk_M_level : k_M_level.all (mm_rok (some .int)) = true := by decide +kernel
theorem ek_M_level : k_M_level.all (mm_eok 8 0 0 prog_10_method_6_code) = true := by decide +kernel
theorem rk_M_edge : k_M_edge.all (mm_rok (some .int)) = true := by decide +kernel
theorem ek_M_edge : k_M_edge.all (mm_eok 8 0 0 prog_10_method_7_code) = true := by decide +kernel
theorem rk_M_may : k_M_may.all (mm_rok (some .boolean)) = true := by decide +kernel
theorem ek_M_may : k_M_may.all (mm_eok 8 1 23 prog_10_method_8_code) = true := by decide +kernel
theorem rk_M_sets : k_M_sets.all (mm_rok none) = true := by decide +kernel
theorem ek_M_sets : k_M_sets.all (mm_eok 8 0 0 prog_10_method_9_code) = true := by decide +kernel
theorem rk_M_empties : k_M_empties.all (mm_rok none) = true := by decide +kernel
theorem ek_M_empties : k_M_empties.all (mm_eok 8 0 0 prog_10_method_10_code) = true := by decide +kernel
theorem rk_M_copies : k_M_copies.all (mm_rok none) = true := by decide +kernel
theorem ek_M_copies : k_M_copies.all (mm_eok 8 1 25 prog_10_method_11_code) = true := by decide +kernel
theorem rk_M_clear : k_M_clear.all (mm_rok (some .int)) = true := by decide +kernel
theorem ek_M_clear : k_M_clear.all (mm_eok 8 2 42 prog_10_method_12_code) = true := by decide +kernel
theorem rk_M_cell : k_M_cell.all (mm_rok (some .int)) = true := by decide +kernel
theorem ek_M_cell : k_M_cell.all (mm_eok 8 2 42 prog_10_method_13_code) = true := by decide +kernel
theorem rk_M_isEntry : k_M_isEntry.all (mm_rok (some .boolean)) = true := by decide +kernel
theorem ek_M_isEntry : k_M_isEntry.all (mm_eok 8 2 44 prog_10_method_14_code) = true := by decide +kernel
theorem rk_M_entry : k_M_entry.all (mm_rok (some .int)) = true := by decide +kernel
theorem ek_M_entry : k_M_entry.all (mm_eok 8 3 67 prog_10_method_15_code) = true := by decide +kernel
theorem rk_M_entryOf : k_M_entryOf.all (mm_rok (some .int)) = true := by decide +kernel
theorem ek_M_entryOf : k_M_entryOf.all (mm_eok 8 3 67 prog_10_method_16_code) = true := by decide +kernel
theorem rk_M_entriesOf : k_M_entriesOf.all (mm_rok (some .int)) = true := by decide +kernel
theorem ek_M_entriesOf : k_M_entriesOf.all (mm_eok 8 1 23 prog_10_method_17_code) = true := by decide +kernel
theorem rk_M_of : k_M_of.all (mm_rok (some .int)) = true := by decide +kernel
theorem ek_M_of : k_M_of.all (mm_eok 8 2 48 prog_10_method_18_code) = true := by decide +kernel
theorem rk_M_brokenAt : k_M_brokenAt.all (mm_rok (some .int)) = true := by decide +kernel
theorem ek_M_brokenAt : k_M_brokenAt.all (mm_eok 8 1 23 prog_10_method_19_code) = true := by decide +kernel
theorem rk_M_broken : k_M_broken.all (mm_rok (some .int)) = true := by decide +kernel
theorem ek_M_broken : k_M_broken.all (mm_eok 8 2 48 prog_10_method_20_code) = true := by decide +kernel
theorem rk_M_mends : k_M_mends.all (mm_rok (some .boolean)) = true := by decide +kernel
theorem ek_M_mends : k_M_mends.all (mm_eok 8 2 48 prog_10_method_21_code) = true := by decide +kernel
theorem rk_M_mend : k_M_mend.all (mm_rok (some .int)) = true := by decide +kernel
theorem ek_M_mend : k_M_mend.all (mm_eok 8 3 74 prog_10_method_22_code) = true := by decide +kernel
theorem rk_M_would : k_M_would.all (mm_rok (some .int)) = true := by decide +kernel
theorem ek_M_would : k_M_would.all (mm_eok 8 5 126 prog_10_method_23_code) = true := by decide +kernel
theorem rk_M_trials : k_M_trials.all (mm_rok (some .int)) = true := by decide +kernel
theorem ek_M_trials : k_M_trials.all (mm_eok 8 0 0 prog_10_method_24_code) = true := by decide +kernel
theorem rk_M_isPrime : k_M_isPrime.all (mm_rok (some .boolean)) = true := by decide +kernel
theorem ek_M_isPrime : k_M_isPrime.all (mm_eok 8 0 0 prog_10_method_25_code) = true := by decide +kernel
theorem rk_M_isBefore : k_M_isBefore.all (mm_rok (some .boolean)) = true := by decide +kernel
theorem ek_M_isBefore : k_M_isBefore.all (mm_eok 8 1 23 prog_10_method_26_code) = true := by decide +kernel
theorem rk_M_findOrder : k_M_findOrder.all (mm_rok none) = true := by decide +kernel
theorem ek_M_findOrder : k_M_findOrder.all (mm_eok 8 2 47 prog_10_method_27_code) = true := by decide +kernel
theorem rk_M_lastOf : k_M_lastOf.all (mm_rok (some .int)) = true := by decide +kernel
theorem ek_M_lastOf : k_M_lastOf.all (mm_eok 8 0 0 prog_10_method_28_code) = true := by decide +kernel
theorem rk_M_inverse : k_M_inverse.all (mm_rok (some .int)) = true := by decide +kernel
theorem ek_M_inverse : k_M_inverse.all (mm_eok 8 0 0 prog_10_method_29_code) = true := by decide +kernel
theorem rk_M_reduces : k_M_reduces.all (mm_rok none) = true := by decide +kernel
theorem ek_M_reduces : k_M_reduces.all (mm_eok 8 3 72 prog_10_method_30_code) = true := by decide +kernel
theorem rk_M_isAsked : k_M_isAsked.all (mm_rok (some .boolean)) = true := by decide +kernel
theorem ek_M_isAsked : k_M_isAsked.all (mm_eok 8 1 22 prog_10_method_31_code) = true := by decide +kernel
theorem rk_M_goes : k_M_goes.all (mm_rok (some .int)) = true := by decide +kernel
theorem ek_M_goes : k_M_goes.all (mm_eok 8 4 101 prog_10_method_32_code) = true := by decide +kernel
theorem rk_M_reduced : k_M_reduced.all (mm_rok (some .int)) = true := by decide +kernel
theorem ek_M_reduced : k_M_reduced.all (mm_eok 8 4 101 prog_10_method_33_code) = true := by decide +kernel
theorem rk_M_gap : k_M_gap.all (mm_rok (some .int)) = true := by decide +kernel
theorem ek_M_gap : k_M_gap.all (mm_eok 8 1 23 prog_10_method_34_code) = true := by decide +kernel
theorem rk_M_counts : k_M_counts.all (mm_rok (some .int)) = true := by decide +kernel
theorem ek_M_counts : k_M_counts.all (mm_eok 8 2 47 prog_10_method_35_code) = true := by decide +kernel
theorem rk_M_told : k_M_told.all (mm_rok (some .int)) = true := by decide +kernel
theorem ek_M_told : k_M_told.all (mm_eok 8 4 101 prog_10_method_36_code) = true := by decide +kernel
theorem rk_M_page : k_M_page.all (mm_rok (some .int)) = true := by decide +kernel
theorem ek_M_page : k_M_page.all (mm_eok 8 5 128 prog_10_method_37_code) = true := by decide +kernel
theorem rk_M_turns : k_M_turns.all (mm_rok (some .int)) = true := by decide +kernel
theorem ek_M_turns : k_M_turns.all (mm_eok 8 5 128 prog_10_method_38_code) = true := by decide +kernel
theorem rk_M_stands : k_M_stands.all (mm_rok (some .int)) = true := by decide +kernel
theorem ek_M_stands : k_M_stands.all (mm_eok 8 4 101 prog_10_method_39_code) = true := by decide +kernel
theorem rk_M_leftOf : k_M_leftOf.all (mm_rok (some .int)) = true := by decide +kernel
theorem ek_M_leftOf : k_M_leftOf.all (mm_eok 8 4 101 prog_10_method_40_code) = true := by decide +kernel
theorem rk_M_left : k_M_left.all (mm_rok (some .int)) = true := by decide +kernel
theorem ek_M_left : k_M_left.all (mm_eok 8 5 126 prog_10_method_41_code) = true := by decide +kernel
theorem rk_M_isAt : k_M_isAt.all (mm_rok (some .boolean)) = true := by decide +kernel
theorem ek_M_isAt : k_M_isAt.all (mm_eok 8 1 23 prog_10_method_42_code) = true := by decide +kernel
theorem rk_M_cellsAt : k_M_cellsAt.all (mm_rok (some .int)) = true := by decide +kernel
theorem ek_M_cellsAt : k_M_cellsAt.all (mm_eok 8 2 48 prog_10_method_43_code) = true := by decide +kernel
theorem rk_M_takesTable : k_M_takesTable.all (mm_rok none) = true := by decide +kernel
theorem ek_M_takesTable : k_M_takesTable.all (mm_eok 8 3 74 prog_10_method_44_code) = true := by decide +kernel
theorem rk_M_size : k_M_size.all (mm_rok (some .long)) = true := by decide +kernel
theorem ek_M_size : k_M_size.all (mm_eok 8 0 0 prog_10_method_45_code) = true := by decide +kernel
theorem rk_M_leastTo : k_M_leastTo.all (mm_rok (some .boolean)) = true := by decide +kernel
theorem ek_M_leastTo : k_M_leastTo.all (mm_eok 8 1 21 prog_10_method_46_code) = true := by decide +kernel
theorem rk_M_lowers : k_M_lowers.all (mm_rok (some .boolean)) = true := by decide +kernel
theorem ek_M_lowers : k_M_lowers.all (mm_eok 8 0 0 prog_10_method_47_code) = true := by decide +kernel
theorem rk_M_simplifies : k_M_simplifies.all (mm_rok none) = true := by decide +kernel
theorem ek_M_simplifies : k_M_simplifies.all (mm_eok 8 2 48 prog_10_method_48_code) = true := by decide +kernel
theorem rk_M_wholeOf : k_M_wholeOf.all (mm_rok (some .int)) = true := by decide +kernel
theorem ek_M_wholeOf : k_M_wholeOf.all (mm_eok 8 4 101 prog_10_method_49_code) = true := by decide +kernel
theorem rk_M_whole : k_M_whole.all (mm_rok (some .int)) = true := by decide +kernel
theorem ek_M_whole : k_M_whole.all (mm_eok 8 5 128 prog_10_method_50_code) = true := by decide +kernel
theorem rk_M_wholeAt : k_M_wholeAt.all (mm_rok (some .int)) = true := by decide +kernel
theorem ek_M_wholeAt : k_M_wholeAt.all (mm_eok 8 5 128 prog_10_method_51_code) = true := by decide +kernel
theorem rk_M_times : k_M_times.all (mm_rok (some .int)) = true := by decide +kernel
theorem ek_M_times : k_M_times.all (mm_eok 8 2 48 prog_10_method_52_code) = true := by decide +kernel
theorem rk_M_part : k_M_part.all (mm_rok (some .int)) = true := by decide +kernel
theorem ek_M_part : k_M_part.all (mm_eok 8 2 48 prog_10_method_53_code) = true := by decide +kernel
theorem rk_M_feed : k_M_feed.all (mm_rok (some .int)) = true := by decide +kernel
theorem ek_M_feed : k_M_feed.all (mm_eok 8 1 22 prog_10_method_54_code) = true := by decide +kernel
theorem rk_M_here : k_M_here.all (mm_rok (some .int)) = true := by decide +kernel
theorem ek_M_here : k_M_here.all (mm_eok 8 0 0 prog_10_method_55_code) = true := by decide +kernel
theorem rk_M_takes : k_M_takes.all (mm_rok (some .boolean)) = true := by decide +kernel
theorem ek_M_takes : k_M_takes.all (mm_eok 8 1 20 prog_10_method_56_code) = true := by decide +kernel
theorem rk_M_readsNumber : k_M_readsNumber.all (mm_rok (some .boolean)) = true := by decide +kernel
theorem ek_M_readsNumber : k_M_readsNumber.all (mm_eok 8 1 22 prog_10_method_57_code) = true := by decide +kernel
theorem rk_M_readsEntry : k_M_readsEntry.all (mm_rok (some .boolean)) = true := by decide +kernel
theorem ek_M_readsEntry : k_M_readsEntry.all (mm_eok 8 2 46 prog_10_method_58_code) = true := by decide +kernel
theorem rk_M_readsCell : k_M_readsCell.all (mm_rok (some .boolean)) = true := by decide +kernel
theorem ek_M_readsCell : k_M_readsCell.all (mm_eok 8 3 70 prog_10_method_59_code) = true := by decide +kernel
theorem rk_M_text : k_M_text.all (mm_rok (some .int)) = true := by decide +kernel
theorem ek_M_text : k_M_text.all (mm_eok 8 4 95 prog_10_method_60_code) = true := by decide +kernel
theorem rk_M_isSheet : k_M_isSheet.all (mm_rok (some .boolean)) = true := by decide +kernel
theorem ek_M_isSheet : k_M_isSheet.all (mm_eok 8 1 22 prog_10_method_61_code) = true := by decide +kernel
theorem rk_M_isOutside : k_M_isOutside.all (mm_rok (some .boolean)) = true := by decide +kernel
theorem ek_M_isOutside : k_M_isOutside.all (mm_eok 8 0 0 prog_10_method_62_code) = true := by decide +kernel
theorem rk_M_cut : k_M_cut.all (mm_rok (some .long)) = true := by decide +kernel
theorem ek_M_cut : k_M_cut.all (mm_eok 8 0 0 prog_10_method_63_code) = true := by decide +kernel
theorem rk_M_sheet : k_M_sheet.all (mm_rok (some .int)) = true := by decide +kernel
theorem ek_M_sheet : k_M_sheet.all (mm_eok 8 2 42 prog_10_method_64_code) = true := by decide +kernel
theorem rk_M_put : k_M_put.all (mm_rok (some .int)) = true := by decide +kernel
theorem ek_M_put : k_M_put.all (mm_eok 8 2 42 prog_10_method_65_code) = true := by decide +kernel
theorem rk_M_item : k_M_item.all (mm_rok (some .int)) = true := by decide +kernel
theorem ek_M_item : k_M_item.all (mm_eok 8 2 42 prog_10_method_66_code) = true := by decide +kernel
theorem rk_M_copy : k_M_copy.all (mm_rok (some .int)) = true := by decide +kernel
theorem ek_M_copy : k_M_copy.all (mm_eok 8 2 42 prog_10_method_67_code) = true := by decide +kernel
theorem rk_M_lacks : k_M_lacks.all (mm_rok (some .int)) = true := by decide +kernel
theorem ek_M_lacks : k_M_lacks.all (mm_eok 8 1 23 prog_10_method_68_code) = true := by decide +kernel
theorem rk_M_lay : k_M_lay.all (mm_rok (some .int)) = true := by decide +kernel
theorem ek_M_lay : k_M_lay.all (mm_eok 8 2 46 prog_10_method_69_code) = true := by decide +kernel
theorem rk_M_take : k_M_take.all (mm_rok (some .int)) = true := by decide +kernel
theorem ek_M_take : k_M_take.all (mm_eok 8 2 46 prog_10_method_70_code) = true := by decide +kernel
theorem rk_M_cellsAll : k_M_cellsAll.all (mm_rok (some .int)) = true := by decide +kernel
theorem ek_M_cellsAll : k_M_cellsAll.all (mm_eok 8 0 0 prog_10_method_71_code) = true := by decide +kernel
theorem rk_M_many : k_M_many.all (mm_rok (some .int)) = true := by decide +kernel
theorem ek_M_many : k_M_many.all (mm_eok 8 2 48 prog_10_method_72_code) = true := by decide +kernel
theorem rk_M_moves : k_M_moves.all (mm_rok none) = true := by decide +kernel
theorem ek_M_moves : k_M_moves.all (mm_eok 8 0 0 prog_10_method_73_code) = true := by decide +kernel
theorem rk_M_keep : k_M_keep.all (mm_rok (some .int)) = true := by decide +kernel
theorem ek_M_keep : k_M_keep.all (mm_eok 8 1 22 prog_10_method_74_code) = true := by decide +kernel
theorem rk_M_again : k_M_again.all (mm_rok (some .int)) = true := by decide +kernel
theorem ek_M_again : k_M_again.all (mm_eok 8 1 22 prog_10_method_75_code) = true := by decide +kernel
theorem rk_C_has : k_C_has.all (mm_rok (some .boolean)) = true := by decide +kernel
theorem ek_C_has : k_C_has.all (mm_eok 1 0 0 prog_2_method_2_code) = true := by decide +kernel
theorem rk_C_degree : k_C_degree.all (mm_rok (some .int)) = true := by decide +kernel
theorem ek_C_degree : k_C_degree.all (mm_eok 1 1 21 prog_2_method_3_code) = true := by decide +kernel
theorem rk_C_level : k_C_level.all (mm_rok (some .int)) = true := by decide +kernel
theorem ek_C_level : k_C_level.all (mm_eok 1 1 21 prog_2_method_4_code) = true := by decide +kernel
theorem rk_C_edge : k_C_edge.all (mm_rok (some .int)) = true := by decide +kernel
theorem ek_C_edge : k_C_edge.all (mm_eok 1 1 21 prog_2_method_5_code) = true := by decide +kernel
theorem rk_C_setEdge : k_C_setEdge.all (mm_rok none) = true := by decide +kernel
theorem ek_C_setEdge : k_C_setEdge.all (mm_eok 1 1 21 prog_2_method_6_code) = true := by decide +kernel
theorem rk_C_mayHave : k_C_mayHave.all (mm_rok (some .boolean)) = true := by decide +kernel
theorem ek_C_mayHave : k_C_mayHave.all (mm_eok 1 1 21 prog_2_method_7_code) = true := by decide +kernel
theorem rk_C_empty : k_C_empty.all (mm_rok none) = true := by decide +kernel
theorem ek_C_empty : k_C_empty.all (mm_eok 1 0 0 prog_2_method_8_code) = true := by decide +kernel
theorem rk_C_add : k_C_add.all (mm_rok (some .int)) = true := by decide +kernel
theorem ek_C_add : k_C_add.all (mm_eok 1 2 44 prog_2_method_9_code) = true := by decide +kernel
theorem rk_C_entriesIn : k_C_entriesIn.all (mm_rok (some .int)) = true := by decide +kernel
theorem ek_C_entriesIn : k_C_entriesIn.all (mm_eok 1 2 43 prog_2_method_10_code) = true := by decide +kernel
theorem rk_C_edgesWith : k_C_edgesWith.all (mm_rok (some .int)) = true := by decide +kernel
theorem ek_C_edgesWith : k_C_edgesWith.all (mm_eok 1 2 43 prog_2_method_11_code) = true := by decide +kernel
theorem rk_C_isBroken : k_C_isBroken.all (mm_rok (some .boolean)) = true := by decide +kernel
theorem ek_C_isBroken : k_C_isBroken.all (mm_eok 1 3 69 prog_2_method_12_code) = true := by decide +kernel
theorem rk_C_firstBroken : k_C_firstBroken.all (mm_rok (some .int)) = true := by decide +kernel
theorem ek_C_firstBroken : k_C_firstBroken.all (mm_eok 1 2 46 prog_2_method_13_code) = true := by decide +kernel
theorem rk_C_stillBroken : k_C_stillBroken.all (mm_rok (some .int)) = true := by decide +kernel
theorem ek_C_stillBroken : k_C_stillBroken.all (mm_eok 1 3 69 prog_2_method_14_code) = true := by decide +kernel
theorem rk_C_edgeOfEdge : k_C_edgeOfEdge.all (mm_rok (some .int)) = true := by decide +kernel
theorem ek_C_edgeOfEdge : k_C_edgeOfEdge.all (mm_eok 1 1 21 prog_2_method_15_code) = true := by decide +kernel
theorem rk_C_become : k_C_become.all (mm_rok none) = true := by decide +kernel
theorem ek_C_become : k_C_become.all (mm_eok 1 1 40 prog_2_method_16_code) = true := by decide +kernel
theorem rk_C_canBeMultiplied : k_C_canBeMultiplied.all (mm_rok (some .boolean)) = true := by decide +kernel
theorem ek_C_canBeMultiplied : k_C_canBeMultiplied.all (mm_eok 1 3 66 prog_2_method_17_code) = true := by decide +kernel
theorem rk_C_topDegree : k_C_topDegree.all (mm_rok (some .int)) = true := by decide +kernel
theorem ek_C_topDegree : k_C_topDegree.all (mm_eok 1 2 42 prog_2_method_18_code) = true := by decide +kernel
theorem rk_C_topLevel : k_C_topLevel.all (mm_rok (some .int)) = true := by decide +kernel
theorem ek_C_topLevel : k_C_topLevel.all (mm_eok 1 2 43 prog_2_method_19_code) = true := by decide +kernel
theorem rk_C_becomeProduct : k_C_becomeProduct.all (mm_rok none) = true := by decide +kernel
theorem ek_C_becomeProduct : k_C_becomeProduct.all (mm_eok 1 3 72 prog_2_method_20_code) = true := by decide +kernel
theorem rk_C_setProductEdge : k_C_setProductEdge.all (mm_rok none) = true := by decide +kernel
theorem ek_C_setProductEdge : k_C_setProductEdge.all (mm_eok 1 2 44 prog_2_method_21_code) = true := by decide +kernel
theorem rk_C_becomePart : k_C_becomePart.all (mm_rok none) = true := by decide +kernel
theorem ek_C_becomePart : k_C_becomePart.all (mm_eok 1 3 71 prog_2_method_22_code) = true := by decide +kernel
theorem rk_C_setPartEdge : k_C_setPartEdge.all (mm_rok none) = true := by decide +kernel
theorem ek_C_setPartEdge : k_C_setPartEdge.all (mm_eok 1 2 44 prog_2_method_23_code) = true := by decide +kernel
theorem rk_Re_read : k_Re_read.all (mm_rok (some .int)) = true := by decide +kernel
theorem ek_Re_read : k_Re_read.all (mm_eok 6 5 109 prog_3_method_2_code) = true := by decide +kernel
theorem rk_Re_isAtEnd : k_Re_isAtEnd.all (mm_rok (some .boolean)) = true := by decide +kernel
theorem ek_Re_isAtEnd : k_Re_isAtEnd.all (mm_eok 6 2 41 prog_3_method_3_code) = true := by decide +kernel
theorem rk_Re_skipBlanks : k_Re_skipBlanks.all (mm_rok none) = true := by decide +kernel
theorem ek_Re_skipBlanks : k_Re_skipBlanks.all (mm_eok 6 1 21 prog_3_method_4_code) = true := by decide +kernel
theorem rk_Re_fails : k_Re_fails.all (mm_rok (some .boolean)) = true := by decide +kernel
theorem ek_Re_fails : k_Re_fails.all (mm_eok 6 0 0 prog_3_method_5_code) = true := by decide +kernel
theorem rk_Re_passes : k_Re_passes.all (mm_rok (some .boolean)) = true := by decide +kernel
theorem ek_Re_passes : k_Re_passes.all (mm_eok 6 2 41 prog_3_method_6_code) = true := by decide +kernel
theorem rk_Re_isAtDigit : k_Re_isAtDigit.all (mm_rok (some .boolean)) = true := by decide +kernel
theorem ek_Re_isAtDigit : k_Re_isAtDigit.all (mm_eok 6 1 21 prog_3_method_7_code) = true := by decide +kernel
theorem rk_Re_readsNumber : k_Re_readsNumber.all (mm_rok (some .boolean)) = true := by decide +kernel
theorem ek_Re_readsNumber : k_Re_readsNumber.all (mm_eok 6 2 42 prog_3_method_8_code) = true := by decide +kernel
theorem rk_Re_readsHead : k_Re_readsHead.all (mm_rok (some .boolean)) = true := by decide +kernel
theorem ek_Re_readsHead : k_Re_readsHead.all (mm_eok 6 3 69 prog_3_method_9_code) = true := by decide +kernel
theorem rk_Re_readsEntries : k_Re_readsEntries.all (mm_rok (some .boolean)) = true := by decide +kernel
theorem ek_Re_readsEntries : k_Re_readsEntries.all (mm_eok 6 4 87 prog_3_method_10_code) = true := by decide +kernel
theorem rk_Re_readsEntry : k_Re_readsEntry.all (mm_rok (some .boolean)) = true := by decide +kernel
theorem ek_Re_readsEntry : k_Re_readsEntry.all (mm_eok 6 3 64 prog_3_method_11_code) = true := by decide +kernel
theorem rk_Rd_run : k_Rd_run.all (mm_rok none) = true := by decide +kernel
theorem ek_Rd_run : k_Rd_run.all (mm_eok 2 4 91 prog_4_method_2_code) = true := by decide +kernel
theorem rk_Rd_putInOrder : k_Rd_putInOrder.all (mm_rok none) = true := by decide +kernel
theorem ek_Rd_putInOrder : k_Rd_putInOrder.all (mm_eok 2 3 67 prog_4_method_3_code) = true := by decide +kernel
theorem rk_Rd_standsBefore : k_Rd_standsBefore.all (mm_rok (some .boolean)) = true := by decide +kernel
theorem ek_Rd_standsBefore : k_Rd_standsBefore.all (mm_eok 2 2 43 prog_4_method_4_code) = true := by decide +kernel
theorem rk_Rd_reduce : k_Rd_reduce.all (mm_rok none) = true := by decide +kernel
theorem ek_Rd_reduce : k_Rd_reduce.all (mm_eok 2 3 68 prog_4_method_5_code) = true := by decide +kernel
theorem rk_Rd_lastOf : k_Rd_lastOf.all (mm_rok (some .int)) = true := by decide +kernel
theorem ek_Rd_lastOf : k_Rd_lastOf.all (mm_eok 2 2 43 prog_4_method_6_code) = true := by decide +kernel
theorem rk_Rd_takeAway : k_Rd_takeAway.all (mm_rok none) = true := by decide +kernel
theorem ek_Rd_takeAway : k_Rd_takeAway.all (mm_eok 2 2 43 prog_4_method_7_code) = true := by decide +kernel
theorem rk_Rd_leaves : k_Rd_leaves.all (mm_rok (some .int)) = true := by decide +kernel
theorem ek_Rd_leaves : k_Rd_leaves.all (mm_eok 2 1 22 prog_4_method_8_code) = true := by decide +kernel
theorem rk_Rd_remainder : k_Rd_remainder.all (mm_rok (some .int)) = true := by decide +kernel
theorem ek_Rd_remainder : k_Rd_remainder.all (mm_eok 2 1 21 prog_4_method_9_code) = true := by decide +kernel
theorem rk_Rd_partner : k_Rd_partner.all (mm_rok (some .int)) = true := by decide +kernel
theorem ek_Rd_partner : k_Rd_partner.all (mm_eok 2 1 21 prog_4_method_10_code) = true := by decide +kernel
theorem rk_Rd_gap : k_Rd_gap.all (mm_rok (some .int)) = true := by decide +kernel
theorem ek_Rd_gap : k_Rd_gap.all (mm_eok 2 2 43 prog_4_method_11_code) = true := by decide +kernel
theorem rk_Rd_standsOn : k_Rd_standsOn.all (mm_rok (some .boolean)) = true := by decide +kernel
theorem ek_Rd_standsOn : k_Rd_standsOn.all (mm_eok 2 3 64 prog_4_method_12_code) = true := by decide +kernel
theorem rk_Rd_turnsAt : k_Rd_turnsAt.all (mm_rok (some .boolean)) = true := by decide +kernel
theorem ek_Rd_turnsAt : k_Rd_turnsAt.all (mm_eok 2 3 64 prog_4_method_13_code) = true := by decide +kernel
theorem rk_Sh_become : k_Sh_become.all (mm_rok none) = true := by decide +kernel
theorem ek_Sh_become : k_Sh_become.all (mm_eok 7 1 24 prog_5_method_2_code) = true := by decide +kernel
theorem rk_Sh_isOutside : k_Sh_isOutside.all (mm_rok (some .boolean)) = true := by decide +kernel
theorem ek_Sh_isOutside : k_Sh_isOutside.all (mm_eok 7 0 0 prog_5_method_3_code) = true := by decide +kernel
theorem rk_Sh_get : k_Sh_get.all (mm_rok (some .long)) = true := by decide +kernel
theorem ek_Sh_get : k_Sh_get.all (mm_eok 7 0 0 prog_5_method_4_code) = true := by decide +kernel
theorem rk_Sh_set : k_Sh_set.all (mm_rok none) = true := by decide +kernel
theorem ek_Sh_set : k_Sh_set.all (mm_eok 7 0 0 prog_5_method_5_code) = true := by decide +kernel
theorem rk_Sh_copyPlaces : k_Sh_copyPlaces.all (mm_rok none) = true := by decide +kernel
theorem ek_Sh_copyPlaces : k_Sh_copyPlaces.all (mm_eok 7 1 40 prog_5_method_6_code) = true := by decide +kernel
theorem rk_Tp_add : k_Tp_add.all (mm_rok none) = true := by decide +kernel
theorem ek_Tp_add : k_Tp_add.all (mm_eok 5 0 0 prog_6_method_2_code) = true := by decide +kernel
theorem rk_Tp_at : k_Tp_at.all (mm_rok (some .int)) = true := by decide +kernel
theorem ek_Tp_at : k_Tp_at.all (mm_eok 5 0 0 prog_6_method_3_code) = true := by decide +kernel
theorem rk_Tr_startAnew : k_Tr_startAnew.all (mm_rok none) = true := by decide +kernel
theorem ek_Tr_startAnew : k_Tr_startAnew.all (mm_eok 4 0 0 prog_7_method_2_code) = true := by decide +kernel
theorem rk_Tr_open : k_Tr_open.all (mm_rok none) = true := by decide +kernel
theorem ek_Tr_open : k_Tr_open.all (mm_eok 4 2 44 prog_7_method_3_code) = true := by decide +kernel
theorem rk_Tr_close : k_Tr_close.all (mm_rok none) = true := by decide +kernel
theorem ek_Tr_close : k_Tr_close.all (mm_eok 4 2 44 prog_7_method_4_code) = true := by decide +kernel
theorem rk_Wn_choose : k_Wn_choose.all (mm_rok none) = true := by decide +kernel
theorem ek_Wn_choose : k_Wn_choose.all (mm_eok 3 0 0 prog_8_method_2_code) = true := by decide +kernel
theorem rk_Wn_free : k_Wn_free.all (mm_rok (some .int)) = true := by decide +kernel
theorem ek_Wn_free : k_Wn_free.all (mm_eok 3 4 98 prog_8_method_3_code) = true := by decide +kernel
theorem rk_Wn_factor : k_Wn_factor.all (mm_rok (some .int)) = true := by decide +kernel
theorem ek_Wn_factor : k_Wn_factor.all (mm_eok 3 4 98 prog_8_method_4_code) = true := by decide +kernel
theorem rk_Wn_quotient : k_Wn_quotient.all (mm_rok (some .int)) = true := by decide +kernel
theorem ek_Wn_quotient : k_Wn_quotient.all (mm_eok 3 1 21 prog_8_method_5_code) = true := by decide +kernel
theorem rk_Wn_findDivisors : k_Wn_findDivisors.all (mm_rok none) = true := by decide +kernel
theorem ek_Wn_findDivisors : k_Wn_findDivisors.all (mm_eok 3 3 73 prog_8_method_6_code) = true := by decide +kernel
theorem rk_Wn_gather : k_Wn_gather.all (mm_rok (some .int)) = true := by decide +kernel
theorem ek_Wn_gather : k_Wn_gather.all (mm_eok 3 2 43 prog_8_method_7_code) = true := by decide +kernel
theorem rk_Wn_determinant : k_Wn_determinant.all (mm_rok (some .int)) = true := by decide +kernel
theorem ek_Wn_determinant : k_Wn_determinant.all (mm_eok 3 2 43 prog_8_method_8_code) = true := by decide +kernel
theorem rk_Wn_greatestDivisor : k_Wn_greatestDivisor.all (mm_rok (some .int)) = true := by decide +kernel
theorem ek_Wn_greatestDivisor : k_Wn_greatestDivisor.all (mm_eok 3 0 0 prog_8_method_9_code) = true := by decide +kernel
theorem rk_In_bitCount : k_In_bitCount.all (mm_rok (some .int)) = true := by decide +kernel
theorem ek_In_bitCount : k_In_bitCount.all (mm_eok 9 0 0 prog_11_method_49_code) = true := by decide +kernel
theorem rk_In_compare : k_In_compare.all (mm_rok (some .int)) = true := by decide +kernel
theorem ek_In_compare : k_In_compare.all (mm_eok 9 0 0 prog_11_method_40_code) = true := by decide +kernel
theorem rk_Ma_abs : k_Ma_abs.all (mm_rok (some .int)) = true := by decide +kernel
theorem ek_Ma_abs : k_Ma_abs.all (mm_eok 10 0 0 prog_12_method_59_code) = true := by decide +kernel
theorem rk_Ma_floorMod : k_Ma_floorMod.all (mm_rok (some .int)) = true := by decide +kernel
theorem ek_Ma_floorMod : k_Ma_floorMod.all (mm_eok 10 0 0 prog_12_method_50_code) = true := by decide +kernel
theorem rk_Ma_max : k_Ma_max.all (mm_rok (some .int)) = true := by decide +kernel
theorem ek_Ma_max : k_Ma_max.all (mm_eok 10 0 0 prog_12_method_65_code) = true := by decide +kernel
theorem rk_Ma_min : k_Ma_min.all (mm_rok (some .int)) = true := by decide +kernel
theorem ek_Ma_min : k_Ma_min.all (mm_eok 10 0 0 prog_12_method_69_code) = true := by decide +kernel
theorem rk_Ar_fill : k_Ar_fill.all (mm_rok none) = true := by decide +kernel
theorem ek_Ar_fill : k_Ar_fill.all (mm_eok 11 0 0 prog_14_method_103_code) = true := by decide +kernel
theorem rk_Ar_fillL : k_Ar_fillL.all (mm_rok none) = true := by decide +kernel
theorem ek_Ar_fillL : k_Ar_fillL.all (mm_eok 11 0 0 prog_14_method_101_code) = true := by decide +kernel
def mm_mok (m : Nat) : Prop := (mm_T m).1.all (mm_eok (mm_hd m).2.2.2.2.1 (mm_hd m).2.2.2.2.2.1 (mm_hd m).2.2.2.2.2.2.1 (mm_hd m).2.1) = true ∧ (mm_T m).2 = (mm_hd m).2.2.1 ∧ (mm_T m).1.all (mm_rok (mm_hd m).2.2.2.1) = true
theorem ek_g0 : ∀ r, r < 10 → mm_mok (0 + r) := by
  intro r h
  match r, h with
  | 0, _ => exact ⟨ek_P_clear, rfl, rk_P_clear⟩
  | 1, _ => exact ⟨ek_P_cell, rfl, rk_P_cell⟩
  | 2, _ => exact ⟨ek_P_entry, rfl, rk_P_entry⟩
  | 3, _ => exact ⟨ek_P_entryOf, rfl, rk_P_entryOf⟩
  | 4, _ => exact ⟨ek_P_of, rfl, rk_P_of⟩
  | 5, _ => exact ⟨ek_P_broken, rfl, rk_P_broken⟩
  | 6, _ => exact ⟨ek_P_mend, rfl, rk_P_mend⟩
  | 7, _ => exact ⟨ek_P_feed, rfl, rk_P_feed⟩
  | 8, _ => exact ⟨ek_P_text, rfl, rk_P_text⟩
  | 9, _ => exact ⟨ek_P_goes, rfl, rk_P_goes⟩
  | n + 10, h => exact absurd h (by omega)
theorem ek_g1 : ∀ r, r < 10 → mm_mok (10 + r) := by
  intro r h
  match r, h with
  | 0, _ => exact ⟨ek_P_reduced, rfl, rk_P_reduced⟩
  | 1, _ => exact ⟨ek_P_page, rfl, rk_P_page⟩
  | 2, _ => exact ⟨ek_P_turns, rfl, rk_P_turns⟩
  | 3, _ => exact ⟨ek_P_stands, rfl, rk_P_stands⟩
  | 4, _ => exact ⟨ek_P_left, rfl, rk_P_left⟩
  | 5, _ => exact ⟨ek_P_whole, rfl, rk_P_whole⟩
  | 6, _ => exact ⟨ek_P_wholeAt, rfl, rk_P_wholeAt⟩
  | 7, _ => exact ⟨ek_P_times, rfl, rk_P_times⟩
  | 8, _ => exact ⟨ek_P_part, rfl, rk_P_part⟩
  | 9, _ => exact ⟨ek_P_would, rfl, rk_P_would⟩
  | n + 10, h => exact absurd h (by omega)
theorem ek_g2 : ∀ r, r < 10 → mm_mok (20 + r) := by
  intro r h
  match r, h with
  | 0, _ => exact ⟨ek_P_trials, rfl, rk_P_trials⟩
  | 1, _ => exact ⟨ek_P_sheet, rfl, rk_P_sheet⟩
  | 2, _ => exact ⟨ek_P_put, rfl, rk_P_put⟩
  | 3, _ => exact ⟨ek_P_item, rfl, rk_P_item⟩
  | 4, _ => exact ⟨ek_P_copy, rfl, rk_P_copy⟩
  | 5, _ => exact ⟨ek_P_lay, rfl, rk_P_lay⟩
  | 6, _ => exact ⟨ek_P_take, rfl, rk_P_take⟩
  | 7, _ => exact ⟨ek_P_many, rfl, rk_P_many⟩
  | 8, _ => exact ⟨ek_P_keep, rfl, rk_P_keep⟩
  | 9, _ => exact ⟨ek_P_again, rfl, rk_P_again⟩
  | n + 10, h => exact absurd h (by omega)
theorem ek_g3 : ∀ r, r < 10 → mm_mok (30 + r) := by
  intro r h
  match r, h with
  | 0, _ => exact ⟨ek_P_complexAt, rfl, rk_P_complexAt⟩
  | 1, _ => exact ⟨ek_P_sheetAt, rfl, rk_P_sheetAt⟩
  | 2, _ => exact ⟨ek_P_isDegree, rfl, rk_P_isDegree⟩
  | 3, _ => exact ⟨ek_P_isLevel, rfl, rk_P_isLevel⟩
  | 4, _ => exact ⟨ek_P_isEntry, rfl, rk_P_isEntry⟩
  | 5, _ => exact ⟨ek_P_isWay, rfl, rk_P_isWay⟩
  | 6, _ => exact ⟨ek_P_isPrime, rfl, rk_P_isPrime⟩
  | 7, _ => exact ⟨ek_P_isSort, rfl, rk_P_isSort⟩
  | 8, _ => exact ⟨ek_P_get, rfl, rk_P_get⟩
  | 9, _ => exact ⟨ek_P_set, rfl, rk_P_set⟩
  | n + 10, h => exact absurd h (by omega)
theorem ek_g4 : ∀ r, r < 10 → mm_mok (40 + r) := by
  intro r h
  match r, h with
  | 0, _ => exact ⟨ek_P_ofPage, rfl, rk_P_ofPage⟩
  | 1, _ => exact ⟨ek_P_staying, rfl, rk_P_staying⟩
  | 2, _ => exact ⟨ek_P_inWholeNumbers, rfl, rk_P_inWholeNumbers⟩
  | 3, _ => exact ⟨ek_P_refusalOfEdge, rfl, rk_P_refusalOfEdge⟩
  | 4, _ => exact ⟨ek_P_cellsTogether, rfl, rk_P_cellsTogether⟩
  | 5, _ => exact ⟨ek_P_setOfComplexes, rfl, rk_P_setOfComplexes⟩
  | 6, _ => exact ⟨ek_M_in, rfl, rk_M_in⟩
  | 7, _ => exact ⟨ek_M_isComplex, rfl, rk_M_isComplex⟩
  | 8, _ => exact ⟨ek_M_isCell, rfl, rk_M_isCell⟩
  | 9, _ => exact ⟨ek_M_degree, rfl, rk_M_degree⟩
  | n + 10, h => exact absurd h (by omega)
theorem ek_g5 : ∀ r, r < 10 → mm_mok (50 + r) := by
  intro r h
  match r, h with
  | 0, _ => exact ⟨ek_M_level, rfl, rk_M_level⟩
  | 1, _ => exact ⟨ek_M_edge, rfl, rk_M_edge⟩
  | 2, _ => exact ⟨ek_M_may, rfl, rk_M_may⟩
  | 3, _ => exact ⟨ek_M_sets, rfl, rk_M_sets⟩
  | 4, _ => exact ⟨ek_M_empties, rfl, rk_M_empties⟩
  | 5, _ => exact ⟨ek_M_copies, rfl, rk_M_copies⟩
  | 6, _ => exact ⟨ek_M_clear, rfl, rk_M_clear⟩
  | 7, _ => exact ⟨ek_M_cell, rfl, rk_M_cell⟩
  | 8, _ => exact ⟨ek_M_isEntry, rfl, rk_M_isEntry⟩
  | 9, _ => exact ⟨ek_M_entry, rfl, rk_M_entry⟩
  | n + 10, h => exact absurd h (by omega)
theorem ek_g6 : ∀ r, r < 10 → mm_mok (60 + r) := by
  intro r h
  match r, h with
  | 0, _ => exact ⟨ek_M_entryOf, rfl, rk_M_entryOf⟩
  | 1, _ => exact ⟨ek_M_entriesOf, rfl, rk_M_entriesOf⟩
  | 2, _ => exact ⟨ek_M_of, rfl, rk_M_of⟩
  | 3, _ => exact ⟨ek_M_brokenAt, rfl, rk_M_brokenAt⟩
  | 4, _ => exact ⟨ek_M_broken, rfl, rk_M_broken⟩
  | 5, _ => exact ⟨ek_M_mends, rfl, rk_M_mends⟩
  | 6, _ => exact ⟨ek_M_mend, rfl, rk_M_mend⟩
  | 7, _ => exact ⟨ek_M_would, rfl, rk_M_would⟩
  | 8, _ => exact ⟨ek_M_trials, rfl, rk_M_trials⟩
  | 9, _ => exact ⟨ek_M_isPrime, rfl, rk_M_isPrime⟩
  | n + 10, h => exact absurd h (by omega)
theorem ek_g7 : ∀ r, r < 10 → mm_mok (70 + r) := by
  intro r h
  match r, h with
  | 0, _ => exact ⟨ek_M_isBefore, rfl, rk_M_isBefore⟩
  | 1, _ => exact ⟨ek_M_findOrder, rfl, rk_M_findOrder⟩
  | 2, _ => exact ⟨ek_M_lastOf, rfl, rk_M_lastOf⟩
  | 3, _ => exact ⟨ek_M_inverse, rfl, rk_M_inverse⟩
  | 4, _ => exact ⟨ek_M_reduces, rfl, rk_M_reduces⟩
  | 5, _ => exact ⟨ek_M_isAsked, rfl, rk_M_isAsked⟩
  | 6, _ => exact ⟨ek_M_goes, rfl, rk_M_goes⟩
  | 7, _ => exact ⟨ek_M_reduced, rfl, rk_M_reduced⟩
  | 8, _ => exact ⟨ek_M_gap, rfl, rk_M_gap⟩
  | 9, _ => exact ⟨ek_M_counts, rfl, rk_M_counts⟩
  | n + 10, h => exact absurd h (by omega)
theorem ek_g8 : ∀ r, r < 10 → mm_mok (80 + r) := by
  intro r h
  match r, h with
  | 0, _ => exact ⟨ek_M_told, rfl, rk_M_told⟩
  | 1, _ => exact ⟨ek_M_page, rfl, rk_M_page⟩
  | 2, _ => exact ⟨ek_M_turns, rfl, rk_M_turns⟩
  | 3, _ => exact ⟨ek_M_stands, rfl, rk_M_stands⟩
  | 4, _ => exact ⟨ek_M_leftOf, rfl, rk_M_leftOf⟩
  | 5, _ => exact ⟨ek_M_left, rfl, rk_M_left⟩
  | 6, _ => exact ⟨ek_M_isAt, rfl, rk_M_isAt⟩
  | 7, _ => exact ⟨ek_M_cellsAt, rfl, rk_M_cellsAt⟩
  | 8, _ => exact ⟨ek_M_takesTable, rfl, rk_M_takesTable⟩
  | 9, _ => exact ⟨ek_M_size, rfl, rk_M_size⟩
  | n + 10, h => exact absurd h (by omega)
theorem ek_g9 : ∀ r, r < 10 → mm_mok (90 + r) := by
  intro r h
  match r, h with
  | 0, _ => exact ⟨ek_M_leastTo, rfl, rk_M_leastTo⟩
  | 1, _ => exact ⟨ek_M_lowers, rfl, rk_M_lowers⟩
  | 2, _ => exact ⟨ek_M_simplifies, rfl, rk_M_simplifies⟩
  | 3, _ => exact ⟨ek_M_wholeOf, rfl, rk_M_wholeOf⟩
  | 4, _ => exact ⟨ek_M_whole, rfl, rk_M_whole⟩
  | 5, _ => exact ⟨ek_M_wholeAt, rfl, rk_M_wholeAt⟩
  | 6, _ => exact ⟨ek_M_times, rfl, rk_M_times⟩
  | 7, _ => exact ⟨ek_M_part, rfl, rk_M_part⟩
  | 8, _ => exact ⟨ek_M_feed, rfl, rk_M_feed⟩
  | 9, _ => exact ⟨ek_M_here, rfl, rk_M_here⟩
  | n + 10, h => exact absurd h (by omega)
theorem ek_g10 : ∀ r, r < 10 → mm_mok (100 + r) := by
  intro r h
  match r, h with
  | 0, _ => exact ⟨ek_M_takes, rfl, rk_M_takes⟩
  | 1, _ => exact ⟨ek_M_readsNumber, rfl, rk_M_readsNumber⟩
  | 2, _ => exact ⟨ek_M_readsEntry, rfl, rk_M_readsEntry⟩
  | 3, _ => exact ⟨ek_M_readsCell, rfl, rk_M_readsCell⟩
  | 4, _ => exact ⟨ek_M_text, rfl, rk_M_text⟩
  | 5, _ => exact ⟨ek_M_isSheet, rfl, rk_M_isSheet⟩
  | 6, _ => exact ⟨ek_M_isOutside, rfl, rk_M_isOutside⟩
  | 7, _ => exact ⟨ek_M_cut, rfl, rk_M_cut⟩
  | 8, _ => exact ⟨ek_M_sheet, rfl, rk_M_sheet⟩
  | 9, _ => exact ⟨ek_M_put, rfl, rk_M_put⟩
  | n + 10, h => exact absurd h (by omega)
theorem ek_g11 : ∀ r, r < 10 → mm_mok (110 + r) := by
  intro r h
  match r, h with
  | 0, _ => exact ⟨ek_M_item, rfl, rk_M_item⟩
  | 1, _ => exact ⟨ek_M_copy, rfl, rk_M_copy⟩
  | 2, _ => exact ⟨ek_M_lacks, rfl, rk_M_lacks⟩
  | 3, _ => exact ⟨ek_M_lay, rfl, rk_M_lay⟩
  | 4, _ => exact ⟨ek_M_take, rfl, rk_M_take⟩
  | 5, _ => exact ⟨ek_M_cellsAll, rfl, rk_M_cellsAll⟩
  | 6, _ => exact ⟨ek_M_many, rfl, rk_M_many⟩
  | 7, _ => exact ⟨ek_M_moves, rfl, rk_M_moves⟩
  | 8, _ => exact ⟨ek_M_keep, rfl, rk_M_keep⟩
  | 9, _ => exact ⟨ek_M_again, rfl, rk_M_again⟩
  | n + 10, h => exact absurd h (by omega)
theorem ek_g12 : ∀ r, r < 10 → mm_mok (120 + r) := by
  intro r h
  match r, h with
  | 0, _ => exact ⟨ek_C_has, rfl, rk_C_has⟩
  | 1, _ => exact ⟨ek_C_degree, rfl, rk_C_degree⟩
  | 2, _ => exact ⟨ek_C_level, rfl, rk_C_level⟩
  | 3, _ => exact ⟨ek_C_edge, rfl, rk_C_edge⟩
  | 4, _ => exact ⟨ek_C_setEdge, rfl, rk_C_setEdge⟩
  | 5, _ => exact ⟨ek_C_mayHave, rfl, rk_C_mayHave⟩
  | 6, _ => exact ⟨ek_C_empty, rfl, rk_C_empty⟩
  | 7, _ => exact ⟨ek_C_add, rfl, rk_C_add⟩
  | 8, _ => exact ⟨ek_C_entriesIn, rfl, rk_C_entriesIn⟩
  | 9, _ => exact ⟨ek_C_edgesWith, rfl, rk_C_edgesWith⟩
  | n + 10, h => exact absurd h (by omega)
theorem ek_g13 : ∀ r, r < 10 → mm_mok (130 + r) := by
  intro r h
  match r, h with
  | 0, _ => exact ⟨ek_C_isBroken, rfl, rk_C_isBroken⟩
  | 1, _ => exact ⟨ek_C_firstBroken, rfl, rk_C_firstBroken⟩
  | 2, _ => exact ⟨ek_C_stillBroken, rfl, rk_C_stillBroken⟩
  | 3, _ => exact ⟨ek_C_edgeOfEdge, rfl, rk_C_edgeOfEdge⟩
  | 4, _ => exact ⟨ek_C_become, rfl, rk_C_become⟩
  | 5, _ => exact ⟨ek_C_canBeMultiplied, rfl, rk_C_canBeMultiplied⟩
  | 6, _ => exact ⟨ek_C_topDegree, rfl, rk_C_topDegree⟩
  | 7, _ => exact ⟨ek_C_topLevel, rfl, rk_C_topLevel⟩
  | 8, _ => exact ⟨ek_C_becomeProduct, rfl, rk_C_becomeProduct⟩
  | 9, _ => exact ⟨ek_C_setProductEdge, rfl, rk_C_setProductEdge⟩
  | n + 10, h => exact absurd h (by omega)
theorem ek_g14 : ∀ r, r < 10 → mm_mok (140 + r) := by
  intro r h
  match r, h with
  | 0, _ => exact ⟨ek_C_becomePart, rfl, rk_C_becomePart⟩
  | 1, _ => exact ⟨ek_C_setPartEdge, rfl, rk_C_setPartEdge⟩
  | 2, _ => exact ⟨ek_Re_read, rfl, rk_Re_read⟩
  | 3, _ => exact ⟨ek_Re_isAtEnd, rfl, rk_Re_isAtEnd⟩
  | 4, _ => exact ⟨ek_Re_skipBlanks, rfl, rk_Re_skipBlanks⟩
  | 5, _ => exact ⟨ek_Re_fails, rfl, rk_Re_fails⟩
  | 6, _ => exact ⟨ek_Re_passes, rfl, rk_Re_passes⟩
  | 7, _ => exact ⟨ek_Re_isAtDigit, rfl, rk_Re_isAtDigit⟩
  | 8, _ => exact ⟨ek_Re_readsNumber, rfl, rk_Re_readsNumber⟩
  | 9, _ => exact ⟨ek_Re_readsHead, rfl, rk_Re_readsHead⟩
  | n + 10, h => exact absurd h (by omega)
theorem ek_g15 : ∀ r, r < 10 → mm_mok (150 + r) := by
  intro r h
  match r, h with
  | 0, _ => exact ⟨ek_Re_readsEntries, rfl, rk_Re_readsEntries⟩
  | 1, _ => exact ⟨ek_Re_readsEntry, rfl, rk_Re_readsEntry⟩
  | 2, _ => exact ⟨ek_Rd_run, rfl, rk_Rd_run⟩
  | 3, _ => exact ⟨ek_Rd_putInOrder, rfl, rk_Rd_putInOrder⟩
  | 4, _ => exact ⟨ek_Rd_standsBefore, rfl, rk_Rd_standsBefore⟩
  | 5, _ => exact ⟨ek_Rd_reduce, rfl, rk_Rd_reduce⟩
  | 6, _ => exact ⟨ek_Rd_lastOf, rfl, rk_Rd_lastOf⟩
  | 7, _ => exact ⟨ek_Rd_takeAway, rfl, rk_Rd_takeAway⟩
  | 8, _ => exact ⟨ek_Rd_leaves, rfl, rk_Rd_leaves⟩
  | 9, _ => exact ⟨ek_Rd_remainder, rfl, rk_Rd_remainder⟩
  | n + 10, h => exact absurd h (by omega)
theorem ek_g16 : ∀ r, r < 10 → mm_mok (160 + r) := by
  intro r h
  match r, h with
  | 0, _ => exact ⟨ek_Rd_partner, rfl, rk_Rd_partner⟩
  | 1, _ => exact ⟨ek_Rd_gap, rfl, rk_Rd_gap⟩
  | 2, _ => exact ⟨ek_Rd_standsOn, rfl, rk_Rd_standsOn⟩
  | 3, _ => exact ⟨ek_Rd_turnsAt, rfl, rk_Rd_turnsAt⟩
  | 4, _ => exact ⟨ek_Sh_become, rfl, rk_Sh_become⟩
  | 5, _ => exact ⟨ek_Sh_isOutside, rfl, rk_Sh_isOutside⟩
  | 6, _ => exact ⟨ek_Sh_get, rfl, rk_Sh_get⟩
  | 7, _ => exact ⟨ek_Sh_set, rfl, rk_Sh_set⟩
  | 8, _ => exact ⟨ek_Sh_copyPlaces, rfl, rk_Sh_copyPlaces⟩
  | 9, _ => exact ⟨ek_Tp_add, rfl, rk_Tp_add⟩
  | n + 10, h => exact absurd h (by omega)
theorem ek_g17 : ∀ r, r < 10 → mm_mok (170 + r) := by
  intro r h
  match r, h with
  | 0, _ => exact ⟨ek_Tp_at, rfl, rk_Tp_at⟩
  | 1, _ => exact ⟨ek_Tr_startAnew, rfl, rk_Tr_startAnew⟩
  | 2, _ => exact ⟨ek_Tr_open, rfl, rk_Tr_open⟩
  | 3, _ => exact ⟨ek_Tr_close, rfl, rk_Tr_close⟩
  | 4, _ => exact ⟨ek_Wn_choose, rfl, rk_Wn_choose⟩
  | 5, _ => exact ⟨ek_Wn_free, rfl, rk_Wn_free⟩
  | 6, _ => exact ⟨ek_Wn_factor, rfl, rk_Wn_factor⟩
  | 7, _ => exact ⟨ek_Wn_quotient, rfl, rk_Wn_quotient⟩
  | 8, _ => exact ⟨ek_Wn_findDivisors, rfl, rk_Wn_findDivisors⟩
  | 9, _ => exact ⟨ek_Wn_gather, rfl, rk_Wn_gather⟩
  | n + 10, h => exact absurd h (by omega)
theorem ek_g18 : ∀ r, r < 10 → mm_mok (180 + r) := by
  intro r h
  match r, h with
  | 0, _ => exact ⟨ek_Wn_determinant, rfl, rk_Wn_determinant⟩
  | 1, _ => exact ⟨ek_Wn_greatestDivisor, rfl, rk_Wn_greatestDivisor⟩
  | 2, _ => exact ⟨ek_In_bitCount, rfl, rk_In_bitCount⟩
  | 3, _ => exact ⟨ek_In_compare, rfl, rk_In_compare⟩
  | 4, _ => exact ⟨ek_Ma_abs, rfl, rk_Ma_abs⟩
  | 5, _ => exact ⟨ek_Ma_floorMod, rfl, rk_Ma_floorMod⟩
  | 6, _ => exact ⟨ek_Ma_max, rfl, rk_Ma_max⟩
  | 7, _ => exact ⟨ek_Ma_min, rfl, rk_Ma_min⟩
  | 8, _ => exact ⟨ek_Ar_fill, rfl, rk_Ar_fill⟩
  | 9, _ => exact ⟨ek_Ar_fillL, rfl, rk_Ar_fillL⟩
  | n + 10, h => exact absurd h (by omega)
theorem mm_mok_all : ∀ m, m < 190 → mm_mok m := by
  intro m hm
  have e : m = 10 * (m / 10) + m % 10 := by omega
  have h1 : m / 10 < 19 := by omega
  have h2 : m % 10 < 10 := by omega
  rw [e]
  generalize m / 10 = q at h1 e ⊢
  generalize m % 10 = r at h2 e ⊢
  match q, h1 with
  | 0, _ => exact ek_g0 r (by omega)
  | 1, _ => exact ek_g1 r (by omega)
  | 2, _ => exact ek_g2 r (by omega)
  | 3, _ => exact ek_g3 r (by omega)
  | 4, _ => exact ek_g4 r (by omega)
  | 5, _ => exact ek_g5 r (by omega)
  | 6, _ => exact ek_g6 r (by omega)
  | 7, _ => exact ek_g7 r (by omega)
  | 8, _ => exact ek_g8 r (by omega)
  | 9, _ => exact ek_g9 r (by omega)
  | 10, _ => exact ek_g10 r (by omega)
  | 11, _ => exact ek_g11 r (by omega)
  | 12, _ => exact ek_g12 r (by omega)
  | 13, _ => exact ek_g13 r (by omega)
  | 14, _ => exact ek_g14 r (by omega)
  | 15, _ => exact ek_g15 r (by omega)
  | 16, _ => exact ek_g16 r (by omega)
  | 17, _ => exact ek_g17 r (by omega)
  | 18, _ => exact ek_g18 r (by omega)
  | n + 19, h => exact absurd h (by omega)
