/-- a call's room and words -/
def mm_cok (own fr lo idx r1 r2 : Nat) (r3 : Int) (v : Bool) : Bool :=
  decide (r1 < 190) && ((mm_lm.any (fun q => decide (q.1 = own ∧ q.2.1 = idx ∧ q.2.2.1 = r1)) || (!v && mm_ln.any (fun q => decide (q.1 = own ∧ q.2.1 = idx ∧ q.2.2.1 = r1)))) &&
   decide ((mm_hd r1).2.2.2.2.2.2.2.2 = !v ∧ r2 = (mm_hd r1).2.2.2.2.2.2.2.1 + (if v then 1 else 0) ∧ r3 = (if v then ((mm_hd r1).2.2.2.2.1 : Int) + 1 else 0) ∧ (mm_hd r1).2.2.2.2.2.1 + 1 ≤ fr ∧ 8 + ((mm_hd r1).2.2.1 + 11) + (mm_hd r1).2.2.2.2.2.2.1 ≤ lo))
def mm_iok (own fr lo : Nat) (e : mm_E) : Bool := match e.2.1 with
  | .getfield idx => mm_lf.any fun q => decide (q.1 = own ∧ q.2.1 = idx ∧ q.2.2.1 = e.2.2.2.1 ∧ q.2.2.2.1 = e.2.2.2.2.1)
  | .putfield idx => mm_lf.any fun q => decide (q.1 = own ∧ q.2.1 = idx ∧ q.2.2.1 = e.2.2.2.1 ∧ q.2.2.2.1 = e.2.2.2.2.1)
  | .ldc idx => mm_lc.any fun q => decide (q.1 = own ∧ q.2.1 = idx ∧ q.2.2.1 = e.2.2.2.2.2)
  | .ldc_w idx => mm_lc.any fun q => decide (q.1 = own ∧ q.2.1 = idx ∧ q.2.2.1 = e.2.2.2.2.2)
  | .ldc2_w idx => mm_ll.any fun q => decide (q.1 = own ∧ q.2.1 = idx ∧ q.2.2.1 = e.2.2.2.2.2)
  | .iconst n => decide (-1 ≤ n ∧ n ≤ 5)
  | .bipush n => decide (-128 ≤ n ∧ n < 128)
  | .sipush n => decide (-32768 ≤ n ∧ n < 32768)
  | .iinc _ n => decide (-128 ≤ n ∧ n < 128)
  | .goto off => decide (0 ≤ (e.1 : Int) + off)
  | .if_icmp _ off => decide (0 ≤ (e.1 : Int) + off)
  | .ifCond _ off => decide (0 ≤ (e.1 : Int) + off)
  | .ifnull off => decide (0 ≤ (e.1 : Int) + off)
  | .ifnonnull off => decide (0 ≤ (e.1 : Int) + off)
  | .tableswitch d lw hi offs => decide (0 ≤ (e.1 : Int) + d ∧ -1000000 < lw ∧ hi < 1000000 ∧ (offs.size : Int) = hi - lw + 1) && offs.toList.all fun o => decide (0 ≤ (e.1 : Int) + o)
  | .invokevirtual idx => mm_cok own fr lo idx e.2.2.2.1 e.2.2.2.2.1 e.2.2.2.2.2 true
  | .invokestatic idx => if e.2.2.2.1 = 999 then mm_la.any (fun q => decide (q.1 = own ∧ q.2.1 = idx)) && decide (1 ≤ fr ∧ 26 ≤ lo) else mm_cok own fr lo idx e.2.2.2.1 e.2.2.2.2.1 e.2.2.2.2.2 false
  | .iaload => decide (e.2.2.2.1 = 7 → own = 13)
  | .arraylength => decide (e.2.2.2.1 = 7 → own = 13)
  | _ => true
def mm_il : Instr → Nat
  | .iload _ | .lload _ | .aload _ | .istore _ | .lstore _ | .astore _ | .bipush _ | .ldc _ => 2
  | .sipush _ | .iinc _ _ | .goto _ | .if_icmp _ _ | .ifCond _ _ | .ifnull _ | .ifnonnull _ | .getfield _ | .putfield _ | .invokevirtual _ | .invokestatic _ | .ldc_w _ | .ldc2_w _ => 3
  | .tableswitch _ _ _ _ => 0
  | _ => 1
def mm_eok (own fr lo : Nat) (bytes : ByteArray) (e : mm_E) : Bool := decide (decode bytes e.1 = .ok (e.2.1, e.2.2.1)) && (decide (mm_il e.2.1 = 0 ∨ e.2.2.1 = mm_il e.2.1) && mm_iok own fr lo e)

theorem ek_P_clear : k_P_clear.all (mm_eok 0 1 21 prog_1_method_2_code) = true := by decide +kernel
theorem ek_P_cell : k_P_cell.all (mm_eok 0 3 69 prog_1_method_3_code) = true := by decide +kernel
theorem ek_P_entry : k_P_entry.all (mm_eok 0 2 44 prog_1_method_4_code) = true := by decide +kernel
theorem ek_P_entryOf : k_P_entryOf.all (mm_eok 0 2 43 prog_1_method_5_code) = true := by decide +kernel
theorem ek_P_of : k_P_of.all (mm_eok 0 3 66 prog_1_method_6_code) = true := by decide +kernel
theorem ek_P_broken : k_P_broken.all (mm_eok 0 3 69 prog_1_method_7_code) = true := by decide +kernel
theorem ek_P_mend : k_P_mend.all (mm_eok 0 4 91 prog_1_method_8_code) = true := by decide +kernel
theorem ek_P_feed : k_P_feed.all (mm_eok 0 1 21 prog_1_method_9_code) = true := by decide +kernel
theorem ek_P_text : k_P_text.all (mm_eok 0 6 130 prog_1_method_10_code) = true := by decide +kernel
theorem ek_P_goes : k_P_goes.all (mm_eok 0 5 115 prog_1_method_11_code) = true := by decide +kernel
theorem ek_P_reduced : k_P_reduced.all (mm_eok 0 5 115 prog_1_method_12_code) = true := by decide +kernel
theorem ek_P_page : k_P_page.all (mm_eok 0 6 145 prog_1_method_13_code) = true := by decide +kernel
theorem ek_P_turns : k_P_turns.all (mm_eok 0 6 145 prog_1_method_14_code) = true := by decide +kernel
theorem ek_P_stands : k_P_stands.all (mm_eok 0 5 115 prog_1_method_15_code) = true := by decide +kernel
theorem ek_P_left : k_P_left.all (mm_eok 0 6 140 prog_1_method_16_code) = true := by decide +kernel
theorem ek_P_whole : k_P_whole.all (mm_eok 0 6 146 prog_1_method_17_code) = true := by decide +kernel
theorem ek_P_wholeAt : k_P_wholeAt.all (mm_eok 0 6 146 prog_1_method_18_code) = true := by decide +kernel
theorem ek_P_times : k_P_times.all (mm_eok 0 4 96 prog_1_method_19_code) = true := by decide +kernel
theorem ek_P_part : k_P_part.all (mm_eok 0 4 96 prog_1_method_20_code) = true := by decide +kernel
theorem ek_P_would : k_P_would.all (mm_eok 0 6 140 prog_1_method_21_code) = true := by decide +kernel
theorem ek_P_trials : k_P_trials.all (mm_eok 0 0 0 prog_1_method_22_code) = true := by decide +kernel
theorem ek_P_sheet : k_P_sheet.all (mm_eok 0 2 46 prog_1_method_23_code) = true := by decide +kernel
theorem ek_P_put : k_P_put.all (mm_eok 0 1 23 prog_1_method_24_code) = true := by decide +kernel
theorem ek_P_item : k_P_item.all (mm_eok 0 1 22 prog_1_method_25_code) = true := by decide +kernel
theorem ek_P_copy : k_P_copy.all (mm_eok 0 2 64 prog_1_method_26_code) = true := by decide +kernel
theorem ek_P_lay : k_P_lay.all (mm_eok 0 2 44 prog_1_method_27_code) = true := by decide +kernel
theorem ek_P_take : k_P_take.all (mm_eok 0 2 44 prog_1_method_28_code) = true := by decide +kernel
theorem ek_P_many : k_P_many.all (mm_eok 0 5 112 prog_1_method_29_code) = true := by decide +kernel
theorem ek_P_keep : k_P_keep.all (mm_eok 0 2 61 prog_1_method_30_code) = true := by decide +kernel
theorem ek_P_again : k_P_again.all (mm_eok 0 2 61 prog_1_method_31_code) = true := by decide +kernel
theorem ek_P_complexAt : k_P_complexAt.all (mm_eok 0 0 0 prog_1_method_32_code) = true := by decide +kernel
theorem ek_P_sheetAt : k_P_sheetAt.all (mm_eok 0 0 0 prog_1_method_33_code) = true := by decide +kernel
theorem ek_P_isDegree : k_P_isDegree.all (mm_eok 0 0 0 prog_1_method_34_code) = true := by decide +kernel
theorem ek_P_isLevel : k_P_isLevel.all (mm_eok 0 0 0 prog_1_method_35_code) = true := by decide +kernel
theorem ek_P_isEntry : k_P_isEntry.all (mm_eok 0 0 0 prog_1_method_36_code) = true := by decide +kernel
theorem ek_P_isWay : k_P_isWay.all (mm_eok 0 0 0 prog_1_method_37_code) = true := by decide +kernel
theorem ek_P_isPrime : k_P_isPrime.all (mm_eok 0 0 0 prog_1_method_38_code) = true := by decide +kernel
theorem ek_P_isSort : k_P_isSort.all (mm_eok 0 0 0 prog_1_method_39_code) = true := by decide +kernel
theorem ek_P_get : k_P_get.all (mm_eok 0 0 0 prog_1_method_40_code) = true := by decide +kernel
theorem ek_P_set : k_P_set.all (mm_eok 0 0 0 prog_1_method_41_code) = true := by decide +kernel
theorem ek_P_ofPage : k_P_ofPage.all (mm_eok 0 5 115 prog_1_method_42_code) = true := by decide +kernel
theorem ek_P_staying : k_P_staying.all (mm_eok 0 5 115 prog_1_method_43_code) = true := by decide +kernel
theorem ek_P_inWholeNumbers : k_P_inWholeNumbers.all (mm_eok 0 5 121 prog_1_method_44_code) = true := by decide +kernel
theorem ek_P_refusalOfEdge : k_P_refusalOfEdge.all (mm_eok 0 1 22 prog_1_method_45_code) = true := by decide +kernel
theorem ek_P_cellsTogether : k_P_cellsTogether.all (mm_eok 0 0 0 prog_1_method_46_code) = true := by decide +kernel
theorem ek_P_setOfComplexes : k_P_setOfComplexes.all (mm_eok 0 4 89 prog_1_method_47_code) = true := by decide +kernel
theorem ek_M_in : k_M_in.all (mm_eok 8 0 0 prog_10_method_2_code) = true := by decide +kernel
theorem ek_M_isComplex : k_M_isComplex.all (mm_eok 8 1 22 prog_10_method_3_code) = true := by decide +kernel
theorem ek_M_isCell : k_M_isCell.all (mm_eok 8 1 22 prog_10_method_4_code) = true := by decide +kernel
theorem ek_M_degree : k_M_degree.all (mm_eok 8 0 0 prog_10_method_5_code) = true := by decide +kernel
theorem ek_M_level : k_M_level.all (mm_eok 8 0 0 prog_10_method_6_code) = true := by decide +kernel
theorem ek_M_edge : k_M_edge.all (mm_eok 8 0 0 prog_10_method_7_code) = true := by decide +kernel
theorem ek_M_may : k_M_may.all (mm_eok 8 1 23 prog_10_method_8_code) = true := by decide +kernel
theorem ek_M_sets : k_M_sets.all (mm_eok 8 0 0 prog_10_method_9_code) = true := by decide +kernel
theorem ek_M_empties : k_M_empties.all (mm_eok 8 0 0 prog_10_method_10_code) = true := by decide +kernel
theorem ek_M_copies : k_M_copies.all (mm_eok 8 1 25 prog_10_method_11_code) = true := by decide +kernel
theorem ek_M_clear : k_M_clear.all (mm_eok 8 2 42 prog_10_method_12_code) = true := by decide +kernel
theorem ek_M_cell : k_M_cell.all (mm_eok 8 2 42 prog_10_method_13_code) = true := by decide +kernel
theorem ek_M_isEntry : k_M_isEntry.all (mm_eok 8 2 44 prog_10_method_14_code) = true := by decide +kernel
theorem ek_M_entry : k_M_entry.all (mm_eok 8 3 67 prog_10_method_15_code) = true := by decide +kernel
theorem ek_M_entryOf : k_M_entryOf.all (mm_eok 8 3 67 prog_10_method_16_code) = true := by decide +kernel
theorem ek_M_entriesOf : k_M_entriesOf.all (mm_eok 8 1 23 prog_10_method_17_code) = true := by decide +kernel
theorem ek_M_of : k_M_of.all (mm_eok 8 2 48 prog_10_method_18_code) = true := by decide +kernel
theorem ek_M_brokenAt : k_M_brokenAt.all (mm_eok 8 1 23 prog_10_method_19_code) = true := by decide +kernel
theorem ek_M_broken : k_M_broken.all (mm_eok 8 2 48 prog_10_method_20_code) = true := by decide +kernel
theorem ek_M_mends : k_M_mends.all (mm_eok 8 2 48 prog_10_method_21_code) = true := by decide +kernel
theorem ek_M_mend : k_M_mend.all (mm_eok 8 3 74 prog_10_method_22_code) = true := by decide +kernel
theorem ek_M_would : k_M_would.all (mm_eok 8 5 126 prog_10_method_23_code) = true := by decide +kernel
theorem ek_M_trials : k_M_trials.all (mm_eok 8 0 0 prog_10_method_24_code) = true := by decide +kernel
theorem ek_M_isPrime : k_M_isPrime.all (mm_eok 8 0 0 prog_10_method_25_code) = true := by decide +kernel
theorem ek_M_isBefore : k_M_isBefore.all (mm_eok 8 1 23 prog_10_method_26_code) = true := by decide +kernel
theorem ek_M_findOrder : k_M_findOrder.all (mm_eok 8 2 47 prog_10_method_27_code) = true := by decide +kernel
theorem ek_M_lastOf : k_M_lastOf.all (mm_eok 8 0 0 prog_10_method_28_code) = true := by decide +kernel
theorem ek_M_inverse : k_M_inverse.all (mm_eok 8 0 0 prog_10_method_29_code) = true := by decide +kernel
theorem ek_M_reduces : k_M_reduces.all (mm_eok 8 3 72 prog_10_method_30_code) = true := by decide +kernel
theorem ek_M_isAsked : k_M_isAsked.all (mm_eok 8 1 22 prog_10_method_31_code) = true := by decide +kernel
theorem ek_M_goes : k_M_goes.all (mm_eok 8 4 101 prog_10_method_32_code) = true := by decide +kernel
theorem ek_M_reduced : k_M_reduced.all (mm_eok 8 4 101 prog_10_method_33_code) = true := by decide +kernel
theorem ek_M_gap : k_M_gap.all (mm_eok 8 1 23 prog_10_method_34_code) = true := by decide +kernel
theorem ek_M_counts : k_M_counts.all (mm_eok 8 2 47 prog_10_method_35_code) = true := by decide +kernel
theorem ek_M_told : k_M_told.all (mm_eok 8 4 101 prog_10_method_36_code) = true := by decide +kernel
theorem ek_M_page : k_M_page.all (mm_eok 8 5 128 prog_10_method_37_code) = true := by decide +kernel
theorem ek_M_turns : k_M_turns.all (mm_eok 8 5 128 prog_10_method_38_code) = true := by decide +kernel
theorem ek_M_stands : k_M_stands.all (mm_eok 8 4 101 prog_10_method_39_code) = true := by decide +kernel
theorem ek_M_leftOf : k_M_leftOf.all (mm_eok 8 4 101 prog_10_method_40_code) = true := by decide +kernel
theorem ek_M_left : k_M_left.all (mm_eok 8 5 126 prog_10_method_41_code) = true := by decide +kernel
theorem ek_M_isAt : k_M_isAt.all (mm_eok 8 1 23 prog_10_method_42_code) = true := by decide +kernel
theorem ek_M_cellsAt : k_M_cellsAt.all (mm_eok 8 2 48 prog_10_method_43_code) = true := by decide +kernel
theorem ek_M_takesTable : k_M_takesTable.all (mm_eok 8 3 74 prog_10_method_44_code) = true := by decide +kernel
theorem ek_M_size : k_M_size.all (mm_eok 8 0 0 prog_10_method_45_code) = true := by decide +kernel
theorem ek_M_leastTo : k_M_leastTo.all (mm_eok 8 1 21 prog_10_method_46_code) = true := by decide +kernel
theorem ek_M_lowers : k_M_lowers.all (mm_eok 8 0 0 prog_10_method_47_code) = true := by decide +kernel
theorem ek_M_simplifies : k_M_simplifies.all (mm_eok 8 2 48 prog_10_method_48_code) = true := by decide +kernel
theorem ek_M_wholeOf : k_M_wholeOf.all (mm_eok 8 4 101 prog_10_method_49_code) = true := by decide +kernel
theorem ek_M_whole : k_M_whole.all (mm_eok 8 5 128 prog_10_method_50_code) = true := by decide +kernel
theorem ek_M_wholeAt : k_M_wholeAt.all (mm_eok 8 5 128 prog_10_method_51_code) = true := by decide +kernel
theorem ek_M_times : k_M_times.all (mm_eok 8 2 48 prog_10_method_52_code) = true := by decide +kernel
theorem ek_M_part : k_M_part.all (mm_eok 8 2 48 prog_10_method_53_code) = true := by decide +kernel
theorem ek_M_feed : k_M_feed.all (mm_eok 8 1 22 prog_10_method_54_code) = true := by decide +kernel
theorem ek_M_here : k_M_here.all (mm_eok 8 0 0 prog_10_method_55_code) = true := by decide +kernel
theorem ek_M_takes : k_M_takes.all (mm_eok 8 1 20 prog_10_method_56_code) = true := by decide +kernel
theorem ek_M_readsNumber : k_M_readsNumber.all (mm_eok 8 1 22 prog_10_method_57_code) = true := by decide +kernel
theorem ek_M_readsEntry : k_M_readsEntry.all (mm_eok 8 2 46 prog_10_method_58_code) = true := by decide +kernel
theorem ek_M_readsCell : k_M_readsCell.all (mm_eok 8 3 70 prog_10_method_59_code) = true := by decide +kernel
theorem ek_M_text : k_M_text.all (mm_eok 8 4 95 prog_10_method_60_code) = true := by decide +kernel
theorem ek_M_isSheet : k_M_isSheet.all (mm_eok 8 1 22 prog_10_method_61_code) = true := by decide +kernel
theorem ek_M_isOutside : k_M_isOutside.all (mm_eok 8 0 0 prog_10_method_62_code) = true := by decide +kernel
theorem ek_M_cut : k_M_cut.all (mm_eok 8 0 0 prog_10_method_63_code) = true := by decide +kernel
theorem ek_M_sheet : k_M_sheet.all (mm_eok 8 2 42 prog_10_method_64_code) = true := by decide +kernel
theorem ek_M_put : k_M_put.all (mm_eok 8 2 42 prog_10_method_65_code) = true := by decide +kernel
theorem ek_M_item : k_M_item.all (mm_eok 8 2 42 prog_10_method_66_code) = true := by decide +kernel
theorem ek_M_copy : k_M_copy.all (mm_eok 8 2 42 prog_10_method_67_code) = true := by decide +kernel
theorem ek_M_lacks : k_M_lacks.all (mm_eok 8 1 23 prog_10_method_68_code) = true := by decide +kernel
theorem ek_M_lay : k_M_lay.all (mm_eok 8 2 46 prog_10_method_69_code) = true := by decide +kernel
theorem ek_M_take : k_M_take.all (mm_eok 8 2 46 prog_10_method_70_code) = true := by decide +kernel
theorem ek_M_cellsAll : k_M_cellsAll.all (mm_eok 8 0 0 prog_10_method_71_code) = true := by decide +kernel
theorem ek_M_many : k_M_many.all (mm_eok 8 2 48 prog_10_method_72_code) = true := by decide +kernel
theorem ek_M_moves : k_M_moves.all (mm_eok 8 0 0 prog_10_method_73_code) = true := by decide +kernel
theorem ek_M_keep : k_M_keep.all (mm_eok 8 1 22 prog_10_method_74_code) = true := by decide +kernel
theorem ek_M_again : k_M_again.all (mm_eok 8 1 22 prog_10_method_75_code) = true := by decide +kernel
theorem ek_C_has : k_C_has.all (mm_eok 1 0 0 prog_2_method_2_code) = true := by decide +kernel
theorem ek_C_degree : k_C_degree.all (mm_eok 1 1 21 prog_2_method_3_code) = true := by decide +kernel
theorem ek_C_level : k_C_level.all (mm_eok 1 1 21 prog_2_method_4_code) = true := by decide +kernel
theorem ek_C_edge : k_C_edge.all (mm_eok 1 1 21 prog_2_method_5_code) = true := by decide +kernel
theorem ek_C_setEdge : k_C_setEdge.all (mm_eok 1 1 21 prog_2_method_6_code) = true := by decide +kernel
theorem ek_C_mayHave : k_C_mayHave.all (mm_eok 1 1 21 prog_2_method_7_code) = true := by decide +kernel
theorem ek_C_empty : k_C_empty.all (mm_eok 1 0 0 prog_2_method_8_code) = true := by decide +kernel
theorem ek_C_add : k_C_add.all (mm_eok 1 2 44 prog_2_method_9_code) = true := by decide +kernel
theorem ek_C_entriesIn : k_C_entriesIn.all (mm_eok 1 2 43 prog_2_method_10_code) = true := by decide +kernel
theorem ek_C_edgesWith : k_C_edgesWith.all (mm_eok 1 2 43 prog_2_method_11_code) = true := by decide +kernel
theorem ek_C_isBroken : k_C_isBroken.all (mm_eok 1 3 69 prog_2_method_12_code) = true := by decide +kernel
theorem ek_C_firstBroken : k_C_firstBroken.all (mm_eok 1 2 46 prog_2_method_13_code) = true := by decide +kernel
theorem ek_C_stillBroken : k_C_stillBroken.all (mm_eok 1 3 69 prog_2_method_14_code) = true := by decide +kernel
theorem ek_C_edgeOfEdge : k_C_edgeOfEdge.all (mm_eok 1 1 21 prog_2_method_15_code) = true := by decide +kernel
theorem ek_C_become : k_C_become.all (mm_eok 1 1 40 prog_2_method_16_code) = true := by decide +kernel
theorem ek_C_canBeMultiplied : k_C_canBeMultiplied.all (mm_eok 1 3 66 prog_2_method_17_code) = true := by decide +kernel
theorem ek_C_topDegree : k_C_topDegree.all (mm_eok 1 2 42 prog_2_method_18_code) = true := by decide +kernel
theorem ek_C_topLevel : k_C_topLevel.all (mm_eok 1 2 43 prog_2_method_19_code) = true := by decide +kernel
theorem ek_C_becomeProduct : k_C_becomeProduct.all (mm_eok 1 3 72 prog_2_method_20_code) = true := by decide +kernel
theorem ek_C_setProductEdge : k_C_setProductEdge.all (mm_eok 1 2 44 prog_2_method_21_code) = true := by decide +kernel
theorem ek_C_becomePart : k_C_becomePart.all (mm_eok 1 3 71 prog_2_method_22_code) = true := by decide +kernel
theorem ek_C_setPartEdge : k_C_setPartEdge.all (mm_eok 1 2 44 prog_2_method_23_code) = true := by decide +kernel
theorem ek_Re_read : k_Re_read.all (mm_eok 6 5 109 prog_3_method_2_code) = true := by decide +kernel
theorem ek_Re_isAtEnd : k_Re_isAtEnd.all (mm_eok 6 2 41 prog_3_method_3_code) = true := by decide +kernel
theorem ek_Re_skipBlanks : k_Re_skipBlanks.all (mm_eok 6 1 21 prog_3_method_4_code) = true := by decide +kernel
theorem ek_Re_fails : k_Re_fails.all (mm_eok 6 0 0 prog_3_method_5_code) = true := by decide +kernel
theorem ek_Re_passes : k_Re_passes.all (mm_eok 6 2 41 prog_3_method_6_code) = true := by decide +kernel
theorem ek_Re_isAtDigit : k_Re_isAtDigit.all (mm_eok 6 1 21 prog_3_method_7_code) = true := by decide +kernel
theorem ek_Re_readsNumber : k_Re_readsNumber.all (mm_eok 6 2 42 prog_3_method_8_code) = true := by decide +kernel
theorem ek_Re_readsHead : k_Re_readsHead.all (mm_eok 6 3 69 prog_3_method_9_code) = true := by decide +kernel
theorem ek_Re_readsEntries : k_Re_readsEntries.all (mm_eok 6 4 87 prog_3_method_10_code) = true := by decide +kernel
theorem ek_Re_readsEntry : k_Re_readsEntry.all (mm_eok 6 3 64 prog_3_method_11_code) = true := by decide +kernel
theorem ek_Rd_run : k_Rd_run.all (mm_eok 2 4 91 prog_4_method_2_code) = true := by decide +kernel
theorem ek_Rd_putInOrder : k_Rd_putInOrder.all (mm_eok 2 3 67 prog_4_method_3_code) = true := by decide +kernel
theorem ek_Rd_standsBefore : k_Rd_standsBefore.all (mm_eok 2 2 43 prog_4_method_4_code) = true := by decide +kernel
theorem ek_Rd_reduce : k_Rd_reduce.all (mm_eok 2 3 68 prog_4_method_5_code) = true := by decide +kernel
theorem ek_Rd_lastOf : k_Rd_lastOf.all (mm_eok 2 2 43 prog_4_method_6_code) = true := by decide +kernel
theorem ek_Rd_takeAway : k_Rd_takeAway.all (mm_eok 2 2 43 prog_4_method_7_code) = true := by decide +kernel
theorem ek_Rd_leaves : k_Rd_leaves.all (mm_eok 2 1 22 prog_4_method_8_code) = true := by decide +kernel
theorem ek_Rd_remainder : k_Rd_remainder.all (mm_eok 2 1 21 prog_4_method_9_code) = true := by decide +kernel
theorem ek_Rd_partner : k_Rd_partner.all (mm_eok 2 1 21 prog_4_method_10_code) = true := by decide +kernel
theorem ek_Rd_gap : k_Rd_gap.all (mm_eok 2 2 43 prog_4_method_11_code) = true := by decide +kernel
theorem ek_Rd_standsOn : k_Rd_standsOn.all (mm_eok 2 3 64 prog_4_method_12_code) = true := by decide +kernel
theorem ek_Rd_turnsAt : k_Rd_turnsAt.all (mm_eok 2 3 64 prog_4_method_13_code) = true := by decide +kernel
theorem ek_Sh_become : k_Sh_become.all (mm_eok 7 1 24 prog_5_method_2_code) = true := by decide +kernel
theorem ek_Sh_isOutside : k_Sh_isOutside.all (mm_eok 7 0 0 prog_5_method_3_code) = true := by decide +kernel
theorem ek_Sh_get : k_Sh_get.all (mm_eok 7 0 0 prog_5_method_4_code) = true := by decide +kernel
theorem ek_Sh_set : k_Sh_set.all (mm_eok 7 0 0 prog_5_method_5_code) = true := by decide +kernel
theorem ek_Sh_copyPlaces : k_Sh_copyPlaces.all (mm_eok 7 1 40 prog_5_method_6_code) = true := by decide +kernel
theorem ek_Tp_add : k_Tp_add.all (mm_eok 5 0 0 prog_6_method_2_code) = true := by decide +kernel
theorem ek_Tp_at : k_Tp_at.all (mm_eok 5 0 0 prog_6_method_3_code) = true := by decide +kernel
theorem ek_Tr_startAnew : k_Tr_startAnew.all (mm_eok 4 0 0 prog_7_method_2_code) = true := by decide +kernel
theorem ek_Tr_open : k_Tr_open.all (mm_eok 4 2 44 prog_7_method_3_code) = true := by decide +kernel
theorem ek_Tr_close : k_Tr_close.all (mm_eok 4 2 44 prog_7_method_4_code) = true := by decide +kernel
theorem ek_Wn_choose : k_Wn_choose.all (mm_eok 3 0 0 prog_8_method_2_code) = true := by decide +kernel
theorem ek_Wn_free : k_Wn_free.all (mm_eok 3 4 98 prog_8_method_3_code) = true := by decide +kernel
theorem ek_Wn_factor : k_Wn_factor.all (mm_eok 3 4 98 prog_8_method_4_code) = true := by decide +kernel
theorem ek_Wn_quotient : k_Wn_quotient.all (mm_eok 3 1 21 prog_8_method_5_code) = true := by decide +kernel
theorem ek_Wn_findDivisors : k_Wn_findDivisors.all (mm_eok 3 3 73 prog_8_method_6_code) = true := by decide +kernel
theorem ek_Wn_gather : k_Wn_gather.all (mm_eok 3 2 43 prog_8_method_7_code) = true := by decide +kernel
theorem ek_Wn_determinant : k_Wn_determinant.all (mm_eok 3 2 43 prog_8_method_8_code) = true := by decide +kernel
theorem ek_Wn_greatestDivisor : k_Wn_greatestDivisor.all (mm_eok 3 0 0 prog_8_method_9_code) = true := by decide +kernel
theorem ek_In_bitCount : k_In_bitCount.all (mm_eok 9 0 0 prog_11_method_49_code) = true := by decide +kernel
theorem ek_In_compare : k_In_compare.all (mm_eok 9 0 0 prog_11_method_40_code) = true := by decide +kernel
theorem ek_Ma_abs : k_Ma_abs.all (mm_eok 10 0 0 prog_12_method_59_code) = true := by decide +kernel
theorem ek_Ma_floorMod : k_Ma_floorMod.all (mm_eok 10 0 0 prog_12_method_50_code) = true := by decide +kernel
theorem ek_Ma_max : k_Ma_max.all (mm_eok 10 0 0 prog_12_method_65_code) = true := by decide +kernel
theorem ek_Ma_min : k_Ma_min.all (mm_eok 10 0 0 prog_12_method_69_code) = true := by decide +kernel
theorem ek_Ar_fill : k_Ar_fill.all (mm_eok 11 0 0 prog_14_method_103_code) = true := by decide +kernel
theorem ek_Ar_fillL : k_Ar_fillL.all (mm_eok 11 0 0 prog_14_method_101_code) = true := by decide +kernel
def mm_mok (m : Nat) : Prop := (mm_T m).1.all (mm_eok (mm_hd m).2.2.2.2.1 (mm_hd m).2.2.2.2.2.1 (mm_hd m).2.2.2.2.2.2.1 (mm_hd m).2.1) = true ∧ (mm_T m).2 = (mm_hd m).2.2.1
theorem ek_g0 : ∀ r, r < 10 → mm_mok (0 + r) := by
  intro r h
  match r, h with
  | 0, _ => exact ⟨ek_P_clear, rfl⟩
  | 1, _ => exact ⟨ek_P_cell, rfl⟩
  | 2, _ => exact ⟨ek_P_entry, rfl⟩
  | 3, _ => exact ⟨ek_P_entryOf, rfl⟩
  | 4, _ => exact ⟨ek_P_of, rfl⟩
  | 5, _ => exact ⟨ek_P_broken, rfl⟩
  | 6, _ => exact ⟨ek_P_mend, rfl⟩
  | 7, _ => exact ⟨ek_P_feed, rfl⟩
  | 8, _ => exact ⟨ek_P_text, rfl⟩
  | 9, _ => exact ⟨ek_P_goes, rfl⟩
  | n + 10, h => exact absurd h (by omega)
theorem ek_g1 : ∀ r, r < 10 → mm_mok (10 + r) := by
  intro r h
  match r, h with
  | 0, _ => exact ⟨ek_P_reduced, rfl⟩
  | 1, _ => exact ⟨ek_P_page, rfl⟩
  | 2, _ => exact ⟨ek_P_turns, rfl⟩
  | 3, _ => exact ⟨ek_P_stands, rfl⟩
  | 4, _ => exact ⟨ek_P_left, rfl⟩
  | 5, _ => exact ⟨ek_P_whole, rfl⟩
  | 6, _ => exact ⟨ek_P_wholeAt, rfl⟩
  | 7, _ => exact ⟨ek_P_times, rfl⟩
  | 8, _ => exact ⟨ek_P_part, rfl⟩
  | 9, _ => exact ⟨ek_P_would, rfl⟩
  | n + 10, h => exact absurd h (by omega)
theorem ek_g2 : ∀ r, r < 10 → mm_mok (20 + r) := by
  intro r h
  match r, h with
  | 0, _ => exact ⟨ek_P_trials, rfl⟩
  | 1, _ => exact ⟨ek_P_sheet, rfl⟩
  | 2, _ => exact ⟨ek_P_put, rfl⟩
  | 3, _ => exact ⟨ek_P_item, rfl⟩
  | 4, _ => exact ⟨ek_P_copy, rfl⟩
  | 5, _ => exact ⟨ek_P_lay, rfl⟩
  | 6, _ => exact ⟨ek_P_take, rfl⟩
  | 7, _ => exact ⟨ek_P_many, rfl⟩
  | 8, _ => exact ⟨ek_P_keep, rfl⟩
  | 9, _ => exact ⟨ek_P_again, rfl⟩
  | n + 10, h => exact absurd h (by omega)
theorem ek_g3 : ∀ r, r < 10 → mm_mok (30 + r) := by
  intro r h
  match r, h with
  | 0, _ => exact ⟨ek_P_complexAt, rfl⟩
  | 1, _ => exact ⟨ek_P_sheetAt, rfl⟩
  | 2, _ => exact ⟨ek_P_isDegree, rfl⟩
  | 3, _ => exact ⟨ek_P_isLevel, rfl⟩
  | 4, _ => exact ⟨ek_P_isEntry, rfl⟩
  | 5, _ => exact ⟨ek_P_isWay, rfl⟩
  | 6, _ => exact ⟨ek_P_isPrime, rfl⟩
  | 7, _ => exact ⟨ek_P_isSort, rfl⟩
  | 8, _ => exact ⟨ek_P_get, rfl⟩
  | 9, _ => exact ⟨ek_P_set, rfl⟩
  | n + 10, h => exact absurd h (by omega)
theorem ek_g4 : ∀ r, r < 10 → mm_mok (40 + r) := by
  intro r h
  match r, h with
  | 0, _ => exact ⟨ek_P_ofPage, rfl⟩
  | 1, _ => exact ⟨ek_P_staying, rfl⟩
  | 2, _ => exact ⟨ek_P_inWholeNumbers, rfl⟩
  | 3, _ => exact ⟨ek_P_refusalOfEdge, rfl⟩
  | 4, _ => exact ⟨ek_P_cellsTogether, rfl⟩
  | 5, _ => exact ⟨ek_P_setOfComplexes, rfl⟩
  | 6, _ => exact ⟨ek_M_in, rfl⟩
  | 7, _ => exact ⟨ek_M_isComplex, rfl⟩
  | 8, _ => exact ⟨ek_M_isCell, rfl⟩
  | 9, _ => exact ⟨ek_M_degree, rfl⟩
  | n + 10, h => exact absurd h (by omega)
theorem ek_g5 : ∀ r, r < 10 → mm_mok (50 + r) := by
  intro r h
  match r, h with
  | 0, _ => exact ⟨ek_M_level, rfl⟩
  | 1, _ => exact ⟨ek_M_edge, rfl⟩
  | 2, _ => exact ⟨ek_M_may, rfl⟩
  | 3, _ => exact ⟨ek_M_sets, rfl⟩
  | 4, _ => exact ⟨ek_M_empties, rfl⟩
  | 5, _ => exact ⟨ek_M_copies, rfl⟩
  | 6, _ => exact ⟨ek_M_clear, rfl⟩
  | 7, _ => exact ⟨ek_M_cell, rfl⟩
  | 8, _ => exact ⟨ek_M_isEntry, rfl⟩
  | 9, _ => exact ⟨ek_M_entry, rfl⟩
  | n + 10, h => exact absurd h (by omega)
theorem ek_g6 : ∀ r, r < 10 → mm_mok (60 + r) := by
  intro r h
  match r, h with
  | 0, _ => exact ⟨ek_M_entryOf, rfl⟩
  | 1, _ => exact ⟨ek_M_entriesOf, rfl⟩
  | 2, _ => exact ⟨ek_M_of, rfl⟩
  | 3, _ => exact ⟨ek_M_brokenAt, rfl⟩
  | 4, _ => exact ⟨ek_M_broken, rfl⟩
  | 5, _ => exact ⟨ek_M_mends, rfl⟩
  | 6, _ => exact ⟨ek_M_mend, rfl⟩
  | 7, _ => exact ⟨ek_M_would, rfl⟩
  | 8, _ => exact ⟨ek_M_trials, rfl⟩
  | 9, _ => exact ⟨ek_M_isPrime, rfl⟩
  | n + 10, h => exact absurd h (by omega)
theorem ek_g7 : ∀ r, r < 10 → mm_mok (70 + r) := by
  intro r h
  match r, h with
  | 0, _ => exact ⟨ek_M_isBefore, rfl⟩
  | 1, _ => exact ⟨ek_M_findOrder, rfl⟩
  | 2, _ => exact ⟨ek_M_lastOf, rfl⟩
  | 3, _ => exact ⟨ek_M_inverse, rfl⟩
  | 4, _ => exact ⟨ek_M_reduces, rfl⟩
  | 5, _ => exact ⟨ek_M_isAsked, rfl⟩
  | 6, _ => exact ⟨ek_M_goes, rfl⟩
  | 7, _ => exact ⟨ek_M_reduced, rfl⟩
  | 8, _ => exact ⟨ek_M_gap, rfl⟩
  | 9, _ => exact ⟨ek_M_counts, rfl⟩
  | n + 10, h => exact absurd h (by omega)
theorem ek_g8 : ∀ r, r < 10 → mm_mok (80 + r) := by
  intro r h
  match r, h with
  | 0, _ => exact ⟨ek_M_told, rfl⟩
  | 1, _ => exact ⟨ek_M_page, rfl⟩
  | 2, _ => exact ⟨ek_M_turns, rfl⟩
  | 3, _ => exact ⟨ek_M_stands, rfl⟩
  | 4, _ => exact ⟨ek_M_leftOf, rfl⟩
  | 5, _ => exact ⟨ek_M_left, rfl⟩
  | 6, _ => exact ⟨ek_M_isAt, rfl⟩
  | 7, _ => exact ⟨ek_M_cellsAt, rfl⟩
  | 8, _ => exact ⟨ek_M_takesTable, rfl⟩
  | 9, _ => exact ⟨ek_M_size, rfl⟩
  | n + 10, h => exact absurd h (by omega)
theorem ek_g9 : ∀ r, r < 10 → mm_mok (90 + r) := by
  intro r h
  match r, h with
  | 0, _ => exact ⟨ek_M_leastTo, rfl⟩
  | 1, _ => exact ⟨ek_M_lowers, rfl⟩
  | 2, _ => exact ⟨ek_M_simplifies, rfl⟩
  | 3, _ => exact ⟨ek_M_wholeOf, rfl⟩
  | 4, _ => exact ⟨ek_M_whole, rfl⟩
  | 5, _ => exact ⟨ek_M_wholeAt, rfl⟩
  | 6, _ => exact ⟨ek_M_times, rfl⟩
  | 7, _ => exact ⟨ek_M_part, rfl⟩
  | 8, _ => exact ⟨ek_M_feed, rfl⟩
  | 9, _ => exact ⟨ek_M_here, rfl⟩
  | n + 10, h => exact absurd h (by omega)
theorem ek_g10 : ∀ r, r < 10 → mm_mok (100 + r) := by
  intro r h
  match r, h with
  | 0, _ => exact ⟨ek_M_takes, rfl⟩
  | 1, _ => exact ⟨ek_M_readsNumber, rfl⟩
  | 2, _ => exact ⟨ek_M_readsEntry, rfl⟩
  | 3, _ => exact ⟨ek_M_readsCell, rfl⟩
  | 4, _ => exact ⟨ek_M_text, rfl⟩
  | 5, _ => exact ⟨ek_M_isSheet, rfl⟩
  | 6, _ => exact ⟨ek_M_isOutside, rfl⟩
  | 7, _ => exact ⟨ek_M_cut, rfl⟩
  | 8, _ => exact ⟨ek_M_sheet, rfl⟩
  | 9, _ => exact ⟨ek_M_put, rfl⟩
  | n + 10, h => exact absurd h (by omega)
theorem ek_g11 : ∀ r, r < 10 → mm_mok (110 + r) := by
  intro r h
  match r, h with
  | 0, _ => exact ⟨ek_M_item, rfl⟩
  | 1, _ => exact ⟨ek_M_copy, rfl⟩
  | 2, _ => exact ⟨ek_M_lacks, rfl⟩
  | 3, _ => exact ⟨ek_M_lay, rfl⟩
  | 4, _ => exact ⟨ek_M_take, rfl⟩
  | 5, _ => exact ⟨ek_M_cellsAll, rfl⟩
  | 6, _ => exact ⟨ek_M_many, rfl⟩
  | 7, _ => exact ⟨ek_M_moves, rfl⟩
  | 8, _ => exact ⟨ek_M_keep, rfl⟩
  | 9, _ => exact ⟨ek_M_again, rfl⟩
  | n + 10, h => exact absurd h (by omega)
theorem ek_g12 : ∀ r, r < 10 → mm_mok (120 + r) := by
  intro r h
  match r, h with
  | 0, _ => exact ⟨ek_C_has, rfl⟩
  | 1, _ => exact ⟨ek_C_degree, rfl⟩
  | 2, _ => exact ⟨ek_C_level, rfl⟩
  | 3, _ => exact ⟨ek_C_edge, rfl⟩
  | 4, _ => exact ⟨ek_C_setEdge, rfl⟩
  | 5, _ => exact ⟨ek_C_mayHave, rfl⟩
  | 6, _ => exact ⟨ek_C_empty, rfl⟩
  | 7, _ => exact ⟨ek_C_add, rfl⟩
  | 8, _ => exact ⟨ek_C_entriesIn, rfl⟩
  | 9, _ => exact ⟨ek_C_edgesWith, rfl⟩
  | n + 10, h => exact absurd h (by omega)
theorem ek_g13 : ∀ r, r < 10 → mm_mok (130 + r) := by
  intro r h
  match r, h with
  | 0, _ => exact ⟨ek_C_isBroken, rfl⟩
  | 1, _ => exact ⟨ek_C_firstBroken, rfl⟩
  | 2, _ => exact ⟨ek_C_stillBroken, rfl⟩
  | 3, _ => exact ⟨ek_C_edgeOfEdge, rfl⟩
  | 4, _ => exact ⟨ek_C_become, rfl⟩
  | 5, _ => exact ⟨ek_C_canBeMultiplied, rfl⟩
  | 6, _ => exact ⟨ek_C_topDegree, rfl⟩
  | 7, _ => exact ⟨ek_C_topLevel, rfl⟩
  | 8, _ => exact ⟨ek_C_becomeProduct, rfl⟩
  | 9, _ => exact ⟨ek_C_setProductEdge, rfl⟩
  | n + 10, h => exact absurd h (by omega)
theorem ek_g14 : ∀ r, r < 10 → mm_mok (140 + r) := by
  intro r h
  match r, h with
  | 0, _ => exact ⟨ek_C_becomePart, rfl⟩
  | 1, _ => exact ⟨ek_C_setPartEdge, rfl⟩
  | 2, _ => exact ⟨ek_Re_read, rfl⟩
  | 3, _ => exact ⟨ek_Re_isAtEnd, rfl⟩
  | 4, _ => exact ⟨ek_Re_skipBlanks, rfl⟩
  | 5, _ => exact ⟨ek_Re_fails, rfl⟩
  | 6, _ => exact ⟨ek_Re_passes, rfl⟩
  | 7, _ => exact ⟨ek_Re_isAtDigit, rfl⟩
  | 8, _ => exact ⟨ek_Re_readsNumber, rfl⟩
  | 9, _ => exact ⟨ek_Re_readsHead, rfl⟩
  | n + 10, h => exact absurd h (by omega)
theorem ek_g15 : ∀ r, r < 10 → mm_mok (150 + r) := by
  intro r h
  match r, h with
  | 0, _ => exact ⟨ek_Re_readsEntries, rfl⟩
  | 1, _ => exact ⟨ek_Re_readsEntry, rfl⟩
  | 2, _ => exact ⟨ek_Rd_run, rfl⟩
  | 3, _ => exact ⟨ek_Rd_putInOrder, rfl⟩
  | 4, _ => exact ⟨ek_Rd_standsBefore, rfl⟩
  | 5, _ => exact ⟨ek_Rd_reduce, rfl⟩
  | 6, _ => exact ⟨ek_Rd_lastOf, rfl⟩
  | 7, _ => exact ⟨ek_Rd_takeAway, rfl⟩
  | 8, _ => exact ⟨ek_Rd_leaves, rfl⟩
  | 9, _ => exact ⟨ek_Rd_remainder, rfl⟩
  | n + 10, h => exact absurd h (by omega)
theorem ek_g16 : ∀ r, r < 10 → mm_mok (160 + r) := by
  intro r h
  match r, h with
  | 0, _ => exact ⟨ek_Rd_partner, rfl⟩
  | 1, _ => exact ⟨ek_Rd_gap, rfl⟩
  | 2, _ => exact ⟨ek_Rd_standsOn, rfl⟩
  | 3, _ => exact ⟨ek_Rd_turnsAt, rfl⟩
  | 4, _ => exact ⟨ek_Sh_become, rfl⟩
  | 5, _ => exact ⟨ek_Sh_isOutside, rfl⟩
  | 6, _ => exact ⟨ek_Sh_get, rfl⟩
  | 7, _ => exact ⟨ek_Sh_set, rfl⟩
  | 8, _ => exact ⟨ek_Sh_copyPlaces, rfl⟩
  | 9, _ => exact ⟨ek_Tp_add, rfl⟩
  | n + 10, h => exact absurd h (by omega)
theorem ek_g17 : ∀ r, r < 10 → mm_mok (170 + r) := by
  intro r h
  match r, h with
  | 0, _ => exact ⟨ek_Tp_at, rfl⟩
  | 1, _ => exact ⟨ek_Tr_startAnew, rfl⟩
  | 2, _ => exact ⟨ek_Tr_open, rfl⟩
  | 3, _ => exact ⟨ek_Tr_close, rfl⟩
  | 4, _ => exact ⟨ek_Wn_choose, rfl⟩
  | 5, _ => exact ⟨ek_Wn_free, rfl⟩
  | 6, _ => exact ⟨ek_Wn_factor, rfl⟩
  | 7, _ => exact ⟨ek_Wn_quotient, rfl⟩
  | 8, _ => exact ⟨ek_Wn_findDivisors, rfl⟩
  | 9, _ => exact ⟨ek_Wn_gather, rfl⟩
  | n + 10, h => exact absurd h (by omega)
theorem ek_g18 : ∀ r, r < 10 → mm_mok (180 + r) := by
  intro r h
  match r, h with
  | 0, _ => exact ⟨ek_Wn_determinant, rfl⟩
  | 1, _ => exact ⟨ek_Wn_greatestDivisor, rfl⟩
  | 2, _ => exact ⟨ek_In_bitCount, rfl⟩
  | 3, _ => exact ⟨ek_In_compare, rfl⟩
  | 4, _ => exact ⟨ek_Ma_abs, rfl⟩
  | 5, _ => exact ⟨ek_Ma_floorMod, rfl⟩
  | 6, _ => exact ⟨ek_Ma_max, rfl⟩
  | 7, _ => exact ⟨ek_Ma_min, rfl⟩
  | 8, _ => exact ⟨ek_Ar_fill, rfl⟩
  | 9, _ => exact ⟨ek_Ar_fillL, rfl⟩
  | n + 10, h => exact absurd h (by omega)
theorem mm_mok_all : ∀ m, m < 190 → mm_mok m := by
  intro m hm
  have e : m = 10 * (m / 10) + m % 10 := by omega
  have h1 : m / 10 < 19 := by omega
  have h2 : m % 10 < 10 := by omega
  rw [e]
  generalize m / 10 = q at h1 e ⊢
  generalize m % 10 = r at h2 e ⊢
  match q, h1 with
  | 0, _ => exact ek_g0 r (by omega)
  | 1, _ => exact ek_g1 r (by omega)
  | 2, _ => exact ek_g2 r (by omega)
  | 3, _ => exact ek_g3 r (by omega)
  | 4, _ => exact ek_g4 r (by omega)
  | 5, _ => exact ek_g5 r (by omega)
  | 6, _ => exact ek_g6 r (by omega)
  | 7, _ => exact ek_g7 r (by omega)
  | 8, _ => exact ek_g8 r (by omega)
  | 9, _ => exact ek_g9 r (by omega)
  | 10, _ => exact ek_g10 r (by omega)
  | 11, _ => exact ek_g11 r (by omega)
  | 12, _ => exact ek_g12 r (by omega)
  | 13, _ => exact ek_g13 r (by omega)
  | 14, _ => exact ek_g14 r (by omega)
  | 15, _ => exact ek_g15 r (by omega)
  | 16, _ => exact ek_g16 r (by omega)
  | 17, _ => exact ek_g17 r (by omega)
  | 18, _ => exact ek_g18 r (by omega)
  | n + 19, h => exact absurd h (by omega)
