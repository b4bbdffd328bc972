/-- Met.ofW for a method of any class of which no row runs in its place -/
theorem Met.ofWF {l : Launch} {y : MethodName} {ws ws' : List Cond} {rm : Room} {Pc : Array Value → State → Prop} {Qc : Array Value → State → Outcome → State → Prop} {mc ms : Nat} {free : Addr → Prop} {cc : ByteArray} {maxL : Nat} {ret : Option FieldType}
    (hy : plainFor y = true) (hw : ws = Cond.code y cc maxL ret :: ws')
    (body : ∀ p e s m args below meth c s₁, BodyLoose p l y (headSpec ws rm) cc maxL ret e s m args below meth c s₁ → c.maxLocals = maxL → Pc args s →
      W p l e (headSpec ws rm).room s m args below meth c s.heap [] 0 0 (MQ below Qc args s mc ms free) (entryFrame m args maxL)) : Met l y ws rm Pc Qc mc ms free := by
  refine MetFree.of_bodySF (code := cc) (maxLocals := maxL) (ret := ret) hy ?_ ?_
  · intro args s m h hn
    obtain ⟨meth, c, h1, h2, h3, h4, h5, h6, -, -⟩ := Cond.code_spec hn (atoms_spec (ws := ws) h _ (by rw [hw]; exact List.mem_cons_self))
    exact ⟨meth, c, h1, h2, h3, h4, h5, h6⟩
  · intro p e s m args below meth c s₁ B hml hP _
    have hh0 : s₁.heap = s.heap := by rw [B.state]; rfl
    obtain ⟨t, a1, o, b1, b2, b3⟩ := body p e s m args below meth c s₁ B hml hP s₁ hh0 (Stand.of_body B)
    exact ⟨t, o, a1, b1, b2, ⟨b3.1, b3.2⟩⟩
def mm_cns : List String := ["PagesByLevels", "PagesByLevels$Complex", "PagesByLevels$Reduction", "PagesByLevels$WholeNumbers", "PagesByLevels$Trials", "PagesByLevels$Tape", "PagesByLevels$Reader", "PagesByLevels$Sheet", "PagesByLevelsModel", "java/lang/Integer", "java/lang/Math", "java/util/Arrays", "java/lang/System", "PagesByLevelsLaw"]
def mm_cn (n : Nat) : String := mm_cns.getD n ""
def mm_F0 : u_T := fun k => match k with
  | 0 => ("PagesByLevels", "complexes", "[LPagesByLevels$Complex;", true)
  | 1 => ("PagesByLevels", "kept", "[LPagesByLevels$Complex;", true)
  | 2 => ("PagesByLevels", "made", "LPagesByLevels$Complex;", true)
  | 3 => ("PagesByLevels", "reduction", "LPagesByLevels$Reduction;", true)
  | 4 => ("PagesByLevels", "numbers", "LPagesByLevels$WholeNumbers;", true)
  | 5 => ("PagesByLevels", "tried", "LPagesByLevels$Trials;", true)
  | 6 => ("PagesByLevels", "tape", "LPagesByLevels$Tape;", true)
  | 7 => ("PagesByLevels", "reader", "LPagesByLevels$Reader;", true)
  | 8 => ("PagesByLevels", "sheets", "[LPagesByLevels$Sheet;", true)
  | _ => ("PagesByLevels", "anythingKept", "Z", false)
def mm_ty0 : Nat → FieldType := fun k => match k with
  | 0 => (.array (.object "PagesByLevels$Complex"))
  | 1 => (.array (.object "PagesByLevels$Complex"))
  | 2 => (.object "PagesByLevels$Complex")
  | 3 => (.object "PagesByLevels$Reduction")
  | 4 => (.object "PagesByLevels$WholeNumbers")
  | 5 => (.object "PagesByLevels$Trials")
  | 6 => (.object "PagesByLevels$Tape")
  | 7 => (.object "PagesByLevels$Reader")
  | 8 => (.array (.object "PagesByLevels$Sheet"))
  | _ => .boolean
def mm_F1 : u_T := fun k => match k with
  | 0 => ("PagesByLevels$Complex", "count", "I", false)
  | 1 => ("PagesByLevels$Complex", "degrees", "[I", true)
  | 2 => ("PagesByLevels$Complex", "levels", "[I", true)
  | 3 => ("PagesByLevels$Complex", "otherLevels", "[I", true)
  | _ => ("PagesByLevels$Complex", "edges", "[I", true)
def mm_ty1 : Nat → FieldType := fun k => match k with
  | 0 => .int
  | 1 => (.array .int)
  | 2 => (.array .int)
  | 3 => (.array .int)
  | _ => (.array .int)
def mm_F2 : u_T := fun k => match k with
  | 0 => ("PagesByLevels$Reduction", "complex", "LPagesByLevels$Complex;", false)
  | 1 => ("PagesByLevels$Reduction", "way", "I", false)
  | 2 => ("PagesByLevels$Reduction", "prime", "I", false)
  | 3 => ("PagesByLevels$Reduction", "order", "[I", true)
  | 4 => ("PagesByLevels$Reduction", "remainders", "[I", true)
  | 5 => ("PagesByLevels$Reduction", "lasts", "[I", true)
  | _ => ("PagesByLevels$Reduction", "owners", "[I", true)
def mm_ty2 : Nat → FieldType := fun k => match k with
  | 0 => (.object "PagesByLevels$Complex")
  | 1 => .int
  | 2 => .int
  | 3 => (.array .int)
  | 4 => (.array .int)
  | 5 => (.array .int)
  | _ => (.array .int)
def mm_F3 : u_T := fun k => match k with
  | 0 => ("PagesByLevels$WholeNumbers", "complex", "LPagesByLevels$Complex;", false)
  | 1 => ("PagesByLevels$WholeNumbers", "way", "I", false)
  | 2 => ("PagesByLevels$WholeNumbers", "level", "I", false)
  | 3 => ("PagesByLevels$WholeNumbers", "rows", "[I", true)
  | 4 => ("PagesByLevels$WholeNumbers", "columns", "[I", true)
  | 5 => ("PagesByLevels$WholeNumbers", "rowCount", "I", false)
  | 6 => ("PagesByLevels$WholeNumbers", "columnCount", "I", false)
  | 7 => ("PagesByLevels$WholeNumbers", "determinants", "[I", true)
  | 8 => ("PagesByLevels$WholeNumbers", "divisors", "[I", true)
  | _ => ("PagesByLevels$WholeNumbers", "rank", "I", false)
def mm_ty3 : Nat → FieldType := fun k => match k with
  | 0 => (.object "PagesByLevels$Complex")
  | 1 => .int
  | 2 => .int
  | 3 => (.array .int)
  | 4 => (.array .int)
  | 5 => .int
  | 6 => .int
  | 7 => (.array .int)
  | 8 => (.array .int)
  | _ => .int
def mm_F4 : u_T := fun k => match k with
  | 0 => ("PagesByLevels$Trials", "opened", "I", false)
  | 1 => ("PagesByLevels$Trials", "closed", "I", false)
  | 2 => ("PagesByLevels$Trials", "openAtMost", "I", false)
  | 3 => ("PagesByLevels$Trials", "complex", "LPagesByLevels$Complex;", false)
  | 4 => ("PagesByLevels$Trials", "x", "I", false)
  | 5 => ("PagesByLevels$Trials", "y", "I", false)
  | _ => ("PagesByLevels$Trials", "was", "I", false)
def mm_ty4 : Nat → FieldType := fun k => match k with
  | 0 => .int
  | 1 => .int
  | 2 => .int
  | 3 => (.object "PagesByLevels$Complex")
  | 4 => .int
  | 5 => .int
  | _ => .int
def mm_F5 : u_T := fun k => match k with
  | 0 => ("PagesByLevels$Tape", "length", "I", false)
  | _ => ("PagesByLevels$Tape", "bytes", "[B", true)
def mm_ty5 : Nat → FieldType := fun k => match k with
  | 0 => .int
  | _ => (.array .byte)
def mm_F6 : u_T := fun k => match k with
  | 0 => ("PagesByLevels$Reader", "tape", "LPagesByLevels$Tape;", true)
  | 1 => ("PagesByLevels$Reader", "complex", "LPagesByLevels$Complex;", true)
  | 2 => ("PagesByLevels$Reader", "place", "I", false)
  | 3 => ("PagesByLevels$Reader", "fault", "I", false)
  | 4 => ("PagesByLevels$Reader", "number", "I", false)
  | 5 => ("PagesByLevels$Reader", "numberPlace", "I", false)
  | _ => ("PagesByLevels$Reader", "told", "I", false)
def mm_ty6 : Nat → FieldType := fun k => match k with
  | 0 => (.object "PagesByLevels$Tape")
  | 1 => (.object "PagesByLevels$Complex")
  | 2 => .int
  | 3 => .int
  | 4 => .int
  | 5 => .int
  | _ => .int
def mm_F7 : u_T := fun k => match k with
  | 0 => ("PagesByLevels$Sheet", "sort", "I", false)
  | 1 => ("PagesByLevels$Sheet", "size", "I", false)
  | _ => ("PagesByLevels$Sheet", "places", "[J", true)
def mm_ty7 : Nat → FieldType := fun k => match k with
  | 0 => .int
  | 1 => .int
  | _ => (.array .long)
def mm_F8 : u_T := fun k => match k with
  | 0 => ("PagesByLevelsModel", "many", "[I", true)
  | 1 => ("PagesByLevelsModel", "degrees", "[I", true)
  | 2 => ("PagesByLevelsModel", "levels", "[I", true)
  | 3 => ("PagesByLevelsModel", "edges", "[I", true)
  | 4 => ("PagesByLevelsModel", "keptMany", "[I", true)
  | 5 => ("PagesByLevelsModel", "keptDegrees", "[I", true)
  | 6 => ("PagesByLevelsModel", "keptLevels", "[I", true)
  | 7 => ("PagesByLevelsModel", "keptEdges", "[I", true)
  | 8 => ("PagesByLevelsModel", "isKept", "Z", false)
  | 9 => ("PagesByLevelsModel", "opened", "I", false)
  | 10 => ("PagesByLevelsModel", "closed", "I", false)
  | 11 => ("PagesByLevelsModel", "openMost", "I", false)
  | 12 => ("PagesByLevelsModel", "rest", "[I", true)
  | 13 => ("PagesByLevelsModel", "with", "[I", true)
  | 14 => ("PagesByLevelsModel", "order", "[I", true)
  | 15 => ("PagesByLevelsModel", "table", "[J", true)
  | 16 => ("PagesByLevelsModel", "simple", "[J", true)
  | 17 => ("PagesByLevelsModel", "tableRows", "I", false)
  | 18 => ("PagesByLevelsModel", "tableColumns", "I", false)
  | 19 => ("PagesByLevelsModel", "rank", "I", false)
  | 20 => ("PagesByLevelsModel", "tape", "[I", true)
  | 21 => ("PagesByLevelsModel", "taped", "I", false)
  | 22 => ("PagesByLevelsModel", "at", "I", false)
  | 23 => ("PagesByLevelsModel", "number", "I", false)
  | 24 => ("PagesByLevelsModel", "numberAt", "I", false)
  | 25 => ("PagesByLevelsModel", "isTold", "[Z", true)
  | 26 => ("PagesByLevelsModel", "sorts", "[I", true)
  | 27 => ("PagesByLevelsModel", "lengths", "[I", true)
  | 28 => ("PagesByLevelsModel", "cells", "[J", true)
  | _ => ("PagesByLevelsModel", "moved", "[J", true)
def mm_ty8 : Nat → FieldType := fun k => match k with
  | 0 => (.array .int)
  | 1 => (.array .int)
  | 2 => (.array .int)
  | 3 => (.array .int)
  | 4 => (.array .int)
  | 5 => (.array .int)
  | 6 => (.array .int)
  | 7 => (.array .int)
  | 8 => .boolean
  | 9 => .int
  | 10 => .int
  | 11 => .int
  | 12 => (.array .int)
  | 13 => (.array .int)
  | 14 => (.array .int)
  | 15 => (.array .long)
  | 16 => (.array .long)
  | 17 => .int
  | 18 => .int
  | 19 => .int
  | 20 => (.array .int)
  | 21 => .int
  | 22 => .int
  | 23 => .int
  | 24 => .int
  | 25 => (.array .boolean)
  | 26 => (.array .int)
  | 27 => (.array .int)
  | 28 => (.array .long)
  | _ => (.array .long)
def mm_F (ci : Nat) : u_T := match ci with
  | 0 => mm_F0
  | 1 => mm_F1
  | 2 => mm_F2
  | 3 => mm_F3
  | 4 => mm_F4
  | 5 => mm_F5
  | 6 => mm_F6
  | 7 => mm_F7
  | _ => mm_F8
def mm_ty (ci : Nat) : Nat → FieldType := match ci with
  | 0 => mm_ty0
  | 1 => mm_ty1
  | 2 => mm_ty2
  | 3 => mm_ty3
  | 4 => mm_ty4
  | 5 => mm_ty5
  | 6 => mm_ty6
  | 7 => mm_ty7
  | _ => mm_ty8
def mm_nf (ci : Nat) : Nat := (mm_fks.getD ci []).length
def mm_cl : List vw_C := [(mm_cn 0, mm_F 0, mm_nf 0), (mm_cn 1, mm_F 1, mm_nf 1), (mm_cn 2, mm_F 2, mm_nf 2), (mm_cn 3, mm_F 3, mm_nf 3), (mm_cn 4, mm_F 4, mm_nf 4), (mm_cn 5, mm_F 5, mm_nf 5), (mm_cn 6, mm_F 6, mm_nf 6), (mm_cn 7, mm_F 7, mm_nf 7), (mm_cn 8, mm_F 8, mm_nf 8)]
abbrev mm_Hd : Type := MethodName × ByteArray × Nat × Option FieldType × Nat × Nat × Nat × Nat × Bool
def mm_hds : List mm_Hd := [(⟨"PagesByLevels", "clear", "(I)I"⟩, prog_1_method_2_code, 4, (some .int), 0, 1, 21, 1, false), (⟨"PagesByLevels", "cell", "(IIII)I"⟩, prog_1_method_3_code, 6, (some .int), 0, 3, 69, 4, false), (⟨"PagesByLevels", "entry", "(IIII)I"⟩, prog_1_method_4_code, 7, (some .int), 0, 2, 44, 4, false), (⟨"PagesByLevels", "entryOf", "(III)I"⟩, prog_1_method_5_code, 5, (some .int), 0, 2, 43, 3, false), (⟨"PagesByLevels", "of", "(III)I"⟩, prog_1_method_6_code, 5, (some .int), 0, 3, 66, 3, false), (⟨"PagesByLevels", "broken", "(I)I"⟩, prog_1_method_7_code, 3, (some .int), 0, 3, 69, 1, false), (⟨"PagesByLevels", "mend", "(I)I"⟩, prog_1_method_8_code, 7, (some .int), 0, 4, 91, 1, false), (⟨"PagesByLevels", "feed", "(JI)I"⟩, prog_1_method_9_code, 5, (some .int), 0, 1, 21, 2, false), (⟨"PagesByLevels", "text", "(I)I"⟩, prog_1_method_10_code, 4, (some .int), 0, 6, 130, 1, false), (⟨"PagesByLevels", "goes", "(IIII)I"⟩, prog_1_method_11_code, 6, (some .int), 0, 5, 115, 4, false), (⟨"PagesByLevels", "reduced", "(IIIII)I"⟩, prog_1_method_12_code, 7, (some .int), 0, 5, 115, 5, false), (⟨"PagesByLevels", "page", "(IIIIII)I"⟩, prog_1_method_13_code, 7, (some .int), 0, 6, 145, 6, false), (⟨"PagesByLevels", "turns", "(IIIIII)I"⟩, prog_1_method_14_code, 7, (some .int), 0, 6, 145, 6, false), (⟨"PagesByLevels", "stands", "(III)I"⟩, prog_1_method_15_code, 7, (some .int), 0, 5, 115, 3, false), (⟨"PagesByLevels", "left", "(III)I"⟩, prog_1_method_16_code, 5, (some .int), 0, 6, 140, 3, false), (⟨"PagesByLevels", "whole", "(III)I"⟩, prog_1_method_17_code, 5, (some .int), 0, 6, 146, 3, false), (⟨"PagesByLevels", "wholeAt", "(IIIII)I"⟩, prog_1_method_18_code, 7, (some .int), 0, 6, 146, 5, false), (⟨"PagesByLevels", "times", "(III)I"⟩, prog_1_method_19_code, 7, (some .int), 0, 4, 96, 3, false), (⟨"PagesByLevels", "part", "(IIII)I"⟩, prog_1_method_20_code, 7, (some .int), 0, 4, 96, 4, false), (⟨"PagesByLevels", "would", "(IIIIII)I"⟩, prog_1_method_21_code, 9, (some .int), 0, 6, 140, 6, false), (⟨"PagesByLevels", "trials", "(I)I"⟩, prog_1_method_22_code, 2, (some .int), 0, 0, 0, 1, false), (⟨"PagesByLevels", "sheet", "(III)I"⟩, prog_1_method_23_code, 5, (some .int), 0, 2, 46, 3, false), (⟨"PagesByLevels", "put", "(IIJ)I"⟩, prog_1_method_24_code, 6, (some .int), 0, 1, 23, 3, false), (⟨"PagesByLevels", "item", "(III)I"⟩, prog_1_method_25_code, 5, (some .int), 0, 1, 22, 3, false), (⟨"PagesByLevels", "copy", "(IIIII)I"⟩, prog_1_method_26_code, 8, (some .int), 0, 2, 64, 5, false), (⟨"PagesByLevels", "lay", "(IIII)I"⟩, prog_1_method_27_code, 9, (some .int), 0, 2, 44, 4, false), (⟨"PagesByLevels", "take", "(IIII)I"⟩, prog_1_method_28_code, 11, (some .int), 0, 2, 44, 4, false), (⟨"PagesByLevels", "many", "(I)I"⟩, prog_1_method_29_code, 2, (some .int), 0, 5, 112, 1, false), (⟨"PagesByLevels", "keep", "()I"⟩, prog_1_method_30_code, 2, (some .int), 0, 2, 61, 0, false), (⟨"PagesByLevels", "again", "()I"⟩, prog_1_method_31_code, 2, (some .int), 0, 2, 61, 0, false), (⟨"PagesByLevels", "complexAt", "(I)LPagesByLevels$Complex;"⟩, prog_1_method_32_code, 2, (some (.object "PagesByLevels$Complex")), 0, 0, 0, 1, false), (⟨"PagesByLevels", "sheetAt", "(I)LPagesByLevels$Sheet;"⟩, prog_1_method_33_code, 2, (some (.object "PagesByLevels$Sheet")), 0, 0, 0, 1, false), (⟨"PagesByLevels", "isDegree", "(I)Z"⟩, prog_1_method_34_code, 1, (some .boolean), 0, 0, 0, 1, true), (⟨"PagesByLevels", "isLevel", "(I)Z"⟩, prog_1_method_35_code, 1, (some .boolean), 0, 0, 0, 1, true), (⟨"PagesByLevels", "isEntry", "(J)Z"⟩, prog_1_method_36_code, 2, (some .boolean), 0, 0, 0, 1, true), (⟨"PagesByLevels", "isWay", "(I)Z"⟩, prog_1_method_37_code, 1, (some .boolean), 0, 0, 0, 1, true), (⟨"PagesByLevels", "isPrime", "(I)Z"⟩, prog_1_method_38_code, 1, (some .boolean), 0, 0, 0, 1, true), (⟨"PagesByLevels", "isSort", "(I)Z"⟩, prog_1_method_39_code, 1, (some .boolean), 0, 0, 0, 1, true), (⟨"PagesByLevels", "get", "([II)I"⟩, prog_1_method_40_code, 2, (some .int), 0, 0, 0, 2, true), (⟨"PagesByLevels", "set", "([III)V"⟩, prog_1_method_41_code, 3, none, 0, 0, 0, 3, true), (⟨"PagesByLevels", "ofPage", "(IIIIIIZ)I"⟩, prog_1_method_42_code, 11, (some .int), 0, 5, 115, 7, false), (⟨"PagesByLevels", "staying", "(LPagesByLevels$Complex;II)I"⟩, prog_1_method_43_code, 6, (some .int), 0, 5, 115, 3, false), (⟨"PagesByLevels", "inWholeNumbers", "(LPagesByLevels$Complex;IIII)I"⟩, prog_1_method_44_code, 6, (some .int), 0, 5, 121, 5, false), (⟨"PagesByLevels", "refusalOfEdge", "(LPagesByLevels$Sheet;II)I"⟩, prog_1_method_45_code, 3, (some .int), 0, 1, 22, 3, true), (⟨"PagesByLevels", "cellsTogether", "()I"⟩, prog_1_method_46_code, 3, (some .int), 0, 0, 0, 0, false), (⟨"PagesByLevels", "setOfComplexes", "(Z)I"⟩, prog_1_method_47_code, 4, (some .int), 0, 4, 89, 1, false), (⟨"PagesByLevelsModel", "in", "(III)Z"⟩, prog_10_method_2_code, 3, (some .boolean), 8, 0, 0, 3, true), (⟨"PagesByLevelsModel", "isComplex", "(I)Z"⟩, prog_10_method_3_code, 1, (some .boolean), 8, 1, 22, 1, true), (⟨"PagesByLevelsModel", "isCell", "(II)Z"⟩, prog_10_method_4_code, 3, (some .boolean), 8, 1, 22, 2, false), (⟨"PagesByLevelsModel", "degree", "(II)I"⟩, prog_10_method_5_code, 3, (some .int), 8, 0, 0, 2, false), (⟨"PagesByLevelsModel", "level", "(III)I"⟩, prog_10_method_6_code, 4, (some .int), 8, 0, 0, 3, false), (⟨"PagesByLevelsModel", "edge", "(III)I"⟩, prog_10_method_7_code, 4, (some .int), 8, 0, 0, 3, false), (⟨"PagesByLevelsModel", "may", "(III)Z"⟩, prog_10_method_8_code, 4, (some .boolean), 8, 1, 23, 3, false), (⟨"PagesByLevelsModel", "sets", "(IIIII)V"⟩, prog_10_method_9_code, 6, none, 8, 0, 0, 5, false), (⟨"PagesByLevelsModel", "empties", "(I)V"⟩, prog_10_method_10_code, 3, none, 8, 0, 0, 1, false), (⟨"PagesByLevelsModel", "copies", "(II)V"⟩, prog_10_method_11_code, 4, none, 8, 1, 25, 2, false), (⟨"PagesByLevelsModel", "clear", "(I)I"⟩, prog_10_method_12_code, 3, (some .int), 8, 2, 42, 1, false), (⟨"PagesByLevelsModel", "cell", "(IIII)I"⟩, prog_10_method_13_code, 5, (some .int), 8, 2, 42, 4, false), (⟨"PagesByLevelsModel", "isEntry", "(III)Z"⟩, prog_10_method_14_code, 4, (some .boolean), 8, 2, 44, 3, false), (⟨"PagesByLevelsModel", "entry", "(IIII)I"⟩, prog_10_method_15_code, 6, (some .int), 8, 3, 67, 4, false), (⟨"PagesByLevelsModel", "entryOf", "(III)I"⟩, prog_10_method_16_code, 4, (some .int), 8, 3, 67, 3, false), (⟨"PagesByLevelsModel", "entriesOf", "(IIZ)I"⟩, prog_10_method_17_code, 6, (some .int), 8, 1, 23, 3, false), (⟨"PagesByLevelsModel", "of", "(III)I"⟩, prog_10_method_18_code, 4, (some .int), 8, 2, 48, 3, false), (⟨"PagesByLevelsModel", "brokenAt", "(I)I"⟩, prog_10_method_19_code, 6, (some .int), 8, 1, 23, 1, false), (⟨"PagesByLevelsModel", "broken", "(I)I"⟩, prog_10_method_20_code, 2, (some .int), 8, 2, 48, 1, false), (⟨"PagesByLevelsModel", "mends", "(IIII)Z"⟩, prog_10_method_21_code, 7, (some .boolean), 8, 2, 48, 4, false), (⟨"PagesByLevelsModel", "mend", "(I)I"⟩, prog_10_method_22_code, 6, (some .int), 8, 3, 74, 1, false), (⟨"PagesByLevelsModel", "would", "(IIIIII)I"⟩, prog_10_method_23_code, 9, (some .int), 8, 5, 126, 6, false), (⟨"PagesByLevelsModel", "trials", "(I)I"⟩, prog_10_method_24_code, 2, (some .int), 8, 0, 0, 1, false), (⟨"PagesByLevelsModel", "isPrime", "(I)Z"⟩, prog_10_method_25_code, 1, (some .boolean), 8, 0, 0, 1, true), (⟨"PagesByLevelsModel", "isBefore", "(IIII)Z"⟩, prog_10_method_26_code, 5, (some .boolean), 8, 1, 23, 4, false), (⟨"PagesByLevelsModel", "findOrder", "(II)V"⟩, prog_10_method_27_code, 6, none, 8, 2, 47, 2, false), (⟨"PagesByLevelsModel", "lastOf", "(II)I"⟩, prog_10_method_28_code, 5, (some .int), 8, 0, 0, 2, false), (⟨"PagesByLevelsModel", "inverse", "(II)I"⟩, prog_10_method_29_code, 3, (some .int), 8, 0, 0, 2, true), (⟨"PagesByLevelsModel", "reduces", "(III)V"⟩, prog_10_method_30_code, 10, none, 8, 3, 72, 3, false), (⟨"PagesByLevelsModel", "isAsked", "(II)Z"⟩, prog_10_method_31_code, 2, (some .boolean), 8, 1, 22, 2, true), (⟨"PagesByLevelsModel", "goes", "(IIII)I"⟩, prog_10_method_32_code, 5, (some .int), 8, 4, 101, 4, false), (⟨"PagesByLevelsModel", "reduced", "(IIIII)I"⟩, prog_10_method_33_code, 6, (some .int), 8, 4, 101, 5, false), (⟨"PagesByLevelsModel", "gap", "(III)I"⟩, prog_10_method_34_code, 5, (some .int), 8, 1, 23, 3, false), (⟨"PagesByLevelsModel", "counts", "(IIIIIZ)I"⟩, prog_10_method_35_code, 10, (some .int), 8, 2, 47, 6, false), (⟨"PagesByLevelsModel", "told", "(IIIIIIZ)I"⟩, prog_10_method_36_code, 8, (some .int), 8, 4, 101, 7, false), (⟨"PagesByLevelsModel", "page", "(IIIIII)I"⟩, prog_10_method_37_code, 7, (some .int), 8, 5, 128, 6, false), (⟨"PagesByLevelsModel", "turns", "(IIIIII)I"⟩, prog_10_method_38_code, 7, (some .int), 8, 5, 128, 6, false), (⟨"PagesByLevelsModel", "stands", "(III)I"⟩, prog_10_method_39_code, 7, (some .int), 8, 4, 101, 3, false), (⟨"PagesByLevelsModel", "leftOf", "(III)I"⟩, prog_10_method_40_code, 6, (some .int), 8, 4, 101, 3, false), (⟨"PagesByLevelsModel", "left", "(III)I"⟩, prog_10_method_41_code, 4, (some .int), 8, 5, 126, 3, false), (⟨"PagesByLevelsModel", "isAt", "(IIIII)Z"⟩, prog_10_method_42_code, 6, (some .boolean), 8, 1, 23, 5, false), (⟨"PagesByLevelsModel", "cellsAt", "(IIII)I"⟩, prog_10_method_43_code, 7, (some .int), 8, 2, 48, 4, false), (⟨"PagesByLevelsModel", "takesTable", "(IIII)V"⟩, prog_10_method_44_code, 8, none, 8, 3, 74, 4, false), (⟨"PagesByLevelsModel", "size", "(J)J"⟩, prog_10_method_45_code, 2, (some .long), 8, 0, 0, 1, true), (⟨"PagesByLevelsModel", "leastTo", "(I)Z"⟩, prog_10_method_46_code, 8, (some .boolean), 8, 1, 21, 1, false), (⟨"PagesByLevelsModel", "lowers", "(I)Z"⟩, prog_10_method_47_code, 9, (some .boolean), 8, 0, 0, 1, false), (⟨"PagesByLevelsModel", "simplifies", "()V"⟩, prog_10_method_48_code, 1, none, 8, 2, 48, 0, false), (⟨"PagesByLevelsModel", "wholeOf", "(IIIII)I"⟩, prog_10_method_49_code, 8, (some .int), 8, 4, 101, 5, false), (⟨"PagesByLevelsModel", "whole", "(III)I"⟩, prog_10_method_50_code, 4, (some .int), 8, 5, 128, 3, false), (⟨"PagesByLevelsModel", "wholeAt", "(IIIII)I"⟩, prog_10_method_51_code, 6, (some .int), 8, 5, 128, 5, false), (⟨"PagesByLevelsModel", "times", "(III)I"⟩, prog_10_method_52_code, 12, (some .int), 8, 2, 48, 3, false), (⟨"PagesByLevelsModel", "part", "(IIII)I"⟩, prog_10_method_53_code, 9, (some .int), 8, 2, 48, 4, false), (⟨"PagesByLevelsModel", "feed", "(JI)I"⟩, prog_10_method_54_code, 5, (some .int), 8, 1, 22, 2, false), (⟨"PagesByLevelsModel", "here", "()I"⟩, prog_10_method_55_code, 1, (some .int), 8, 0, 0, 0, false), (⟨"PagesByLevelsModel", "takes", "(I)Z"⟩, prog_10_method_56_code, 2, (some .boolean), 8, 1, 20, 1, false), (⟨"PagesByLevelsModel", "readsNumber", "(I)Z"⟩, prog_10_method_57_code, 3, (some .boolean), 8, 1, 22, 1, false), (⟨"PagesByLevelsModel", "readsEntry", "(I)Z"⟩, prog_10_method_58_code, 5, (some .boolean), 8, 2, 46, 1, false), (⟨"PagesByLevelsModel", "readsCell", "()Z"⟩, prog_10_method_59_code, 6, (some .boolean), 8, 3, 70, 0, false), (⟨"PagesByLevelsModel", "text", "(I)I"⟩, prog_10_method_60_code, 4, (some .int), 8, 4, 95, 1, false), (⟨"PagesByLevelsModel", "isSheet", "(I)Z"⟩, prog_10_method_61_code, 1, (some .boolean), 8, 1, 22, 1, true), (⟨"PagesByLevelsModel", "isOutside", "(III)Z"⟩, prog_10_method_62_code, 4, (some .boolean), 8, 0, 0, 3, false), (⟨"PagesByLevelsModel", "cut", "(IJ)J"⟩, prog_10_method_63_code, 3, (some .long), 8, 0, 0, 2, true), (⟨"PagesByLevelsModel", "sheet", "(III)I"⟩, prog_10_method_64_code, 5, (some .int), 8, 2, 42, 3, false), (⟨"PagesByLevelsModel", "put", "(IIJ)I"⟩, prog_10_method_65_code, 5, (some .int), 8, 2, 42, 3, false), (⟨"PagesByLevelsModel", "item", "(III)I"⟩, prog_10_method_66_code, 4, (some .int), 8, 2, 42, 3, false), (⟨"PagesByLevelsModel", "copy", "(IIIII)I"⟩, prog_10_method_67_code, 7, (some .int), 8, 2, 42, 5, false), (⟨"PagesByLevelsModel", "lacks", "(III)I"⟩, prog_10_method_68_code, 4, (some .int), 8, 1, 23, 3, false), (⟨"PagesByLevelsModel", "lay", "(IIII)I"⟩, prog_10_method_69_code, 7, (some .int), 8, 2, 46, 4, false), (⟨"PagesByLevelsModel", "take", "(IIII)I"⟩, prog_10_method_70_code, 11, (some .int), 8, 2, 46, 4, false), (⟨"PagesByLevelsModel", "cellsAll", "()I"⟩, prog_10_method_71_code, 3, (some .int), 8, 0, 0, 0, false), (⟨"PagesByLevelsModel", "many", "(I)I"⟩, prog_10_method_72_code, 4, (some .int), 8, 2, 48, 1, false), (⟨"PagesByLevelsModel", "moves", "([I[I)V"⟩, prog_10_method_73_code, 3, none, 8, 0, 0, 2, true), (⟨"PagesByLevelsModel", "keep", "()I"⟩, prog_10_method_74_code, 1, (some .int), 8, 1, 22, 0, false), (⟨"PagesByLevelsModel", "again", "()I"⟩, prog_10_method_75_code, 1, (some .int), 8, 1, 22, 0, false), (⟨"PagesByLevels$Complex", "has", "(I)Z"⟩, prog_2_method_2_code, 2, (some .boolean), 1, 0, 0, 1, false), (⟨"PagesByLevels$Complex", "degree", "(I)I"⟩, prog_2_method_3_code, 2, (some .int), 1, 1, 21, 1, false), (⟨"PagesByLevels$Complex", "level", "(II)I"⟩, prog_2_method_4_code, 3, (some .int), 1, 1, 21, 2, false), (⟨"PagesByLevels$Complex", "edge", "(II)I"⟩, prog_2_method_5_code, 3, (some .int), 1, 1, 21, 2, false), (⟨"PagesByLevels$Complex", "setEdge", "(III)V"⟩, prog_2_method_6_code, 4, none, 1, 1, 21, 3, false), (⟨"PagesByLevels$Complex", "mayHave", "(II)Z"⟩, prog_2_method_7_code, 3, (some .boolean), 1, 1, 21, 2, false), (⟨"PagesByLevels$Complex", "empty", "()V"⟩, prog_2_method_8_code, 1, none, 1, 0, 0, 0, false), (⟨"PagesByLevels$Complex", "add", "(III)I"⟩, prog_2_method_9_code, 6, (some .int), 1, 2, 44, 3, false), (⟨"PagesByLevels$Complex", "entriesIn", "(I)I"⟩, prog_2_method_10_code, 4, (some .int), 1, 2, 43, 1, false), (⟨"PagesByLevels$Complex", "edgesWith", "(I)I"⟩, prog_2_method_11_code, 4, (some .int), 1, 2, 43, 1, false), (⟨"PagesByLevels$Complex", "isBroken", "()Z"⟩, prog_2_method_12_code, 1, (some .boolean), 1, 3, 69, 0, false), (⟨"PagesByLevels$Complex", "firstBroken", "()I"⟩, prog_2_method_13_code, 4, (some .int), 1, 2, 46, 0, false), (⟨"PagesByLevels$Complex", "stillBroken", "(I)I"⟩, prog_2_method_14_code, 3, (some .int), 1, 3, 69, 1, false), (⟨"PagesByLevels$Complex", "edgeOfEdge", "(II)I"⟩, prog_2_method_15_code, 6, (some .int), 1, 1, 21, 2, false), (⟨"PagesByLevels$Complex", "become", "(LPagesByLevels$Complex;)V"⟩, prog_2_method_16_code, 2, none, 1, 1, 40, 1, false), (⟨"PagesByLevels$Complex", "canBeMultiplied", "(LPagesByLevels$Complex;)Z"⟩, prog_2_method_17_code, 2, (some .boolean), 1, 3, 66, 1, false), (⟨"PagesByLevels$Complex", "topDegree", "()I"⟩, prog_2_method_18_code, 3, (some .int), 1, 2, 42, 0, false), (⟨"PagesByLevels$Complex", "topLevel", "(I)I"⟩, prog_2_method_19_code, 4, (some .int), 1, 2, 43, 1, false), (⟨"PagesByLevels$Complex", "becomeProduct", "(LPagesByLevels$Complex;LPagesByLevels$Complex;)V"⟩, prog_2_method_20_code, 5, none, 1, 3, 72, 2, false), (⟨"PagesByLevels$Complex", "setProductEdge", "(LPagesByLevels$Complex;LPagesByLevels$Complex;II)V"⟩, prog_2_method_21_code, 9, none, 1, 2, 44, 4, false), (⟨"PagesByLevels$Complex", "becomePart", "(LPagesByLevels$Complex;II)V"⟩, prog_2_method_22_code, 6, none, 1, 3, 71, 3, false), (⟨"PagesByLevels$Complex", "setPartEdge", "(ILPagesByLevels$Complex;III)V"⟩, prog_2_method_23_code, 8, none, 1, 2, 44, 5, false), (⟨"PagesByLevels$Reader", "read", "()I"⟩, prog_3_method_2_code, 2, (some .int), 6, 5, 109, 0, false), (⟨"PagesByLevels$Reader", "isAtEnd", "()Z"⟩, prog_3_method_3_code, 1, (some .boolean), 6, 2, 41, 0, false), (⟨"PagesByLevels$Reader", "skipBlanks", "()V"⟩, prog_3_method_4_code, 1, none, 6, 1, 21, 0, false), (⟨"PagesByLevels$Reader", "fails", "(I)Z"⟩, prog_3_method_5_code, 2, (some .boolean), 6, 0, 0, 1, false), (⟨"PagesByLevels$Reader", "passes", "(C)Z"⟩, prog_3_method_6_code, 3, (some .boolean), 6, 2, 41, 1, false), (⟨"PagesByLevels$Reader", "isAtDigit", "()Z"⟩, prog_3_method_7_code, 2, (some .boolean), 6, 1, 21, 0, false), (⟨"PagesByLevels$Reader", "readsNumber", "(I)Z"⟩, prog_3_method_8_code, 3, (some .boolean), 6, 2, 42, 1, false), (⟨"PagesByLevels$Reader", "readsHead", "()Z"⟩, prog_3_method_9_code, 4, (some .boolean), 6, 3, 69, 0, false), (⟨"PagesByLevels$Reader", "readsEntries", "()Z"⟩, prog_3_method_10_code, 3, (some .boolean), 6, 4, 87, 0, false), (⟨"PagesByLevels$Reader", "readsEntry", "()Z"⟩, prog_3_method_11_code, 4, (some .boolean), 6, 3, 64, 0, false), (⟨"PagesByLevels$Reduction", "run", "(LPagesByLevels$Complex;II)V"⟩, prog_4_method_2_code, 5, none, 2, 4, 91, 3, false), (⟨"PagesByLevels$Reduction", "putInOrder", "()V"⟩, prog_4_method_3_code, 3, none, 2, 3, 67, 0, false), (⟨"PagesByLevels$Reduction", "standsBefore", "(II)Z"⟩, prog_4_method_4_code, 5, (some .boolean), 2, 2, 43, 2, false), (⟨"PagesByLevels$Reduction", "reduce", "(I)V"⟩, prog_4_method_5_code, 4, none, 2, 3, 68, 1, false), (⟨"PagesByLevels$Reduction", "lastOf", "(I)I"⟩, prog_4_method_6_code, 4, (some .int), 2, 2, 43, 1, false), (⟨"PagesByLevels$Reduction", "takeAway", "(III)V"⟩, prog_4_method_7_code, 6, none, 2, 2, 43, 3, false), (⟨"PagesByLevels$Reduction", "leaves", "(I)I"⟩, prog_4_method_8_code, 2, (some .int), 2, 1, 22, 1, false), (⟨"PagesByLevels$Reduction", "remainder", "(II)I"⟩, prog_4_method_9_code, 3, (some .int), 2, 1, 21, 2, false), (⟨"PagesByLevels$Reduction", "partner", "(I)I"⟩, prog_4_method_10_code, 3, (some .int), 2, 1, 21, 1, false), (⟨"PagesByLevels$Reduction", "gap", "(I)I"⟩, prog_4_method_11_code, 2, (some .int), 2, 2, 43, 1, false), (⟨"PagesByLevels$Reduction", "standsOn", "(II)Z"⟩, prog_4_method_12_code, 3, (some .boolean), 2, 3, 64, 2, false), (⟨"PagesByLevels$Reduction", "turnsAt", "(II)Z"⟩, prog_4_method_13_code, 3, (some .boolean), 2, 3, 64, 2, false), (⟨"PagesByLevels$Sheet", "become", "(II)V"⟩, prog_5_method_2_code, 3, none, 7, 1, 24, 2, false), (⟨"PagesByLevels$Sheet", "isOutside", "(II)Z"⟩, prog_5_method_3_code, 3, (some .boolean), 7, 0, 0, 2, false), (⟨"PagesByLevels$Sheet", "get", "(I)J"⟩, prog_5_method_4_code, 2, (some .long), 7, 0, 0, 1, false), (⟨"PagesByLevels$Sheet", "set", "(IJ)V"⟩, prog_5_method_5_code, 4, none, 7, 0, 0, 2, false), (⟨"PagesByLevels$Sheet", "copyPlaces", "(ILPagesByLevels$Sheet;II)V"⟩, prog_5_method_6_code, 5, none, 7, 1, 40, 4, false), (⟨"PagesByLevels$Tape", "add", "(B)V"⟩, prog_6_method_2_code, 2, none, 5, 0, 0, 1, false), (⟨"PagesByLevels$Tape", "at", "(I)I"⟩, prog_6_method_3_code, 2, (some .int), 5, 0, 0, 1, false), (⟨"PagesByLevels$Trials", "startAnew", "()V"⟩, prog_7_method_2_code, 1, none, 4, 0, 0, 0, false), (⟨"PagesByLevels$Trials", "open", "(LPagesByLevels$Complex;III)V"⟩, prog_7_method_3_code, 5, none, 4, 2, 44, 4, false), (⟨"PagesByLevels$Trials", "close", "()V"⟩, prog_7_method_4_code, 1, none, 4, 2, 44, 0, false), (⟨"PagesByLevels$WholeNumbers", "choose", "(LPagesByLevels$Complex;II)V"⟩, prog_8_method_2_code, 4, none, 3, 0, 0, 3, false), (⟨"PagesByLevels$WholeNumbers", "free", "(I)I"⟩, prog_8_method_3_code, 4, (some .int), 3, 4, 98, 1, false), (⟨"PagesByLevels$WholeNumbers", "factor", "(II)I"⟩, prog_8_method_4_code, 4, (some .int), 3, 4, 98, 2, false), (⟨"PagesByLevels$WholeNumbers", "quotient", "(I)I"⟩, prog_8_method_5_code, 3, (some .int), 3, 1, 21, 1, false), (⟨"PagesByLevels$WholeNumbers", "findDivisors", "(I)V"⟩, prog_8_method_6_code, 6, none, 3, 3, 73, 1, false), (⟨"PagesByLevels$WholeNumbers", "gather", "([II)I"⟩, prog_8_method_7_code, 5, (some .int), 3, 2, 43, 2, false), (⟨"PagesByLevels$WholeNumbers", "determinant", "(II)I"⟩, prog_8_method_8_code, 11, (some .int), 3, 2, 43, 2, false), (⟨"PagesByLevels$WholeNumbers", "greatestDivisor", "(II)I"⟩, prog_8_method_9_code, 6, (some .int), 3, 0, 0, 2, true), (⟨"java/lang/Integer", "bitCount", "(I)I"⟩, prog_11_method_49_code, 1, (some .int), 9, 0, 0, 1, true), (⟨"java/lang/Integer", "compare", "(II)I"⟩, prog_11_method_40_code, 2, (some .int), 9, 0, 0, 2, true), (⟨"java/lang/Math", "abs", "(I)I"⟩, prog_12_method_59_code, 1, (some .int), 10, 0, 0, 1, true), (⟨"java/lang/Math", "floorMod", "(II)I"⟩, prog_12_method_50_code, 3, (some .int), 10, 0, 0, 2, true), (⟨"java/lang/Math", "max", "(II)I"⟩, prog_12_method_65_code, 2, (some .int), 10, 0, 0, 2, true), (⟨"java/lang/Math", "min", "(II)I"⟩, prog_12_method_69_code, 2, (some .int), 10, 0, 0, 2, true), (⟨"java/util/Arrays", "fill", "([II)V"⟩, prog_14_method_103_code, 4, none, 11, 0, 0, 2, true), (⟨"java/util/Arrays", "fill", "([JJ)V"⟩, prog_14_method_101_code, 5, none, 11, 0, 0, 2, true)]
def mm_hps : List (Nat × Nat × Nat × Nat) := [(285, 43, 283, 284), (297, 43, 295, 296), (319, 43, 317, 318), (337, 43, 335, 336), (342, 43, 340, 341), (363, 43, 361, 362), (376, 43, 374, 375), (402, 43, 400, 401), (410, 43, 408, 409), (472, 43, 470, 471), (540, 43, 538, 539), (545, 43, 543, 544), (569, 43, 567, 568), (573, 43, 571, 572), (579, 43, 577, 578), (587, 43, 585, 586), (639, 43, 637, 638), (643, 43, 641, 642), (671, 43, 669, 670), (683, 43, 681, 682), (687, 43, 685, 686), (691, 43, 689, 690), (709, 43, 707, 708), (721, 43, 719, 720), (729, 43, 727, 728), (739, 43, 737, 738), (746, 43, 744, 745), (750, 43, 748, 749), (762, 43, 760, 761), (766, 43, 764, 765), (289, 43, 288, 0), (695, 43, 694, 4), (300, 43, 299, 299), (303, 43, 302, 302), (326, 43, 325, 325), (475, 43, 474, 474), (478, 43, 477, 477), (698, 43, 697, 697), (496, 43, 495, 495), (508, 43, 507, 507), (549, 43, 548, 1), (583, 43, 582, 2), (591, 43, 590, 3), (742, 43, 741, 741), (754, 43, 753, 5), (758, 43, 757, 6), (874, 51, 873, 873), (871, 51, 870, 870), (898, 51, 897, 10), (906, 51, 905, 12), (910, 51, 909, 13), (914, 51, 913, 14), (902, 51, 901, 11), (886, 51, 885, 8), (878, 51, 877, 7), (1062, 51, 1061, 33), (868, 51, 866, 867), (882, 51, 880, 881), (894, 51, 893, 9), (890, 51, 888, 889), (918, 51, 916, 917), (926, 51, 925, 15), (922, 51, 920, 921), (934, 51, 933, 16), (930, 51, 928, 929), (942, 51, 941, 17), (938, 51, 936, 937), (946, 51, 944, 945), (976, 51, 974, 975), (949, 51, 948, 948), (965, 51, 964, 21), (961, 51, 960, 20), (969, 51, 968, 22), (972, 51, 971, 971), (957, 51, 956, 19), (983, 51, 982, 982), (980, 51, 978, 979), (987, 51, 985, 986), (1003, 51, 1002, 25), (999, 51, 998, 24), (995, 51, 994, 23), (991, 51, 989, 990), (1007, 51, 1005, 1006), (1011, 51, 1009, 1010), (953, 51, 952, 18), (1015, 51, 1013, 1014), (1035, 51, 1034, 29), (1031, 51, 1030, 28), (1027, 51, 1026, 27), (1046, 51, 1045, 1045), (1043, 51, 1042, 31), (1050, 51, 1049, 32), (1039, 51, 1038, 30), (1023, 51, 1022, 26), (1019, 51, 1017, 1018), (1054, 51, 1052, 1053), (1058, 51, 1056, 1057), (1066, 51, 1064, 1065), (1070, 51, 1068, 1069), (1079, 51, 1078, 34), (1091, 51, 1090, 37), (1087, 51, 1086, 36), (1095, 51, 1094, 38), (1083, 51, 1082, 35), (1075, 51, 1073, 1074), (1102, 51, 1101, 1101), (1121, 51, 1120, 39), (1109, 51, 1108, 1108), (1099, 51, 1097, 1098), (1106, 51, 1104, 1105), (1113, 51, 1111, 1112), (1117, 51, 1115, 1116), (1129, 51, 1128, 40), (1125, 51, 1123, 1124), (1133, 51, 1131, 1132), (1143, 51, 1142, 41), (1139, 51, 1137, 1138), (1150, 51, 1149, 1149), (1147, 51, 1145, 1146), (1154, 51, 1152, 1153), (315, 44, 313, 314), (346, 44, 344, 345), (350, 44, 348, 349), (332, 44, 330, 331), (311, 44, 309, 310), (323, 44, 321, 322), (293, 44, 291, 292), (307, 44, 305, 306), (354, 44, 352, 353), (359, 44, 357, 358), (482, 44, 480, 481), (367, 44, 365, 366), (393, 44, 391, 392), (372, 44, 370, 371), (465, 44, 463, 464), (647, 44, 645, 646), (651, 44, 649, 650), (656, 44, 654, 655), (661, 44, 659, 660), (667, 44, 665, 666), (675, 44, 673, 674), (679, 44, 677, 678), (414, 49, 412, 413), (419, 49, 417, 418), (423, 49, 421, 422), (446, 49, 444, 445), (450, 49, 448, 449), (439, 49, 437, 438), (435, 49, 433, 434), (431, 49, 429, 430), (455, 49, 453, 454), (459, 49, 457, 458), (486, 45, 484, 485), (493, 45, 491, 492), (500, 45, 498, 499), (512, 45, 510, 511), (524, 45, 522, 523), (532, 45, 530, 531), (517, 45, 515, 516), (528, 45, 526, 527), (536, 45, 534, 535), (557, 45, 555, 556), (565, 45, 563, 564), (553, 45, 551, 552), (702, 50, 700, 701), (713, 50, 711, 712), (725, 50, 723, 724), (717, 50, 715, 716), (733, 50, 731, 732), (406, 48, 404, 405), (427, 48, 425, 426), (380, 47, 378, 379), (384, 47, 382, 383), (398, 47, 396, 397), (595, 46, 593, 594), (599, 46, 597, 598), (631, 46, 629, 630), (635, 46, 633, 634), (603, 46, 601, 602), (607, 46, 605, 606), (621, 46, 619, 620), (627, 46, 626, 626), (614, 55, 613, 613), (504, 55, 503, 503), (561, 52, 560, 560), (520, 52, 519, 519), (388, 52, 387, 387), (442, 52, 441, 441), (489, 54, 488, 488), (705, 54, 704, 704)]
def mm_lf : List (Nat × Nat × Nat × Nat × Nat) := [(0, 11, 0, 0, 251), (0, 15, 0, 1, 252), (0, 19, 0, 2, 253), (0, 28, 0, 3, 254), (0, 35, 0, 4, 255), (0, 42, 0, 5, 256), (0, 49, 0, 6, 257), (0, 58, 0, 7, 258), (0, 64, 0, 8, 259), (0, 68, 0, 9, 260), (0, 77, 1, 0, 72), (0, 144, 5, 0, 196), (0, 207, 4, 0, 164), (0, 210, 4, 1, 166), (0, 213, 4, 2, 168), (0, 226, 7, 0, 240), (1, 9, 1, 0, 71), (1, 15, 1, 1, 76), (1, 19, 1, 2, 77), (1, 22, 1, 3, 78), (1, 25, 1, 4, 79), (2, 9, 2, 1, 99), (2, 15, 2, 2, 100), (2, 18, 2, 3, 101), (2, 22, 2, 4, 102), (2, 25, 2, 5, 103), (2, 28, 2, 6, 104), (2, 31, 2, 0, 98), (2, 44, 1, 0, 73), (3, 9, 3, 1, 127), (3, 15, 3, 2, 128), (3, 18, 3, 3, 129), (3, 22, 3, 4, 130), (3, 25, 3, 5, 131), (3, 28, 3, 6, 132), (3, 31, 3, 7, 133), (3, 34, 3, 8, 134), (3, 37, 3, 9, 135), (3, 40, 3, 0, 126), (3, 86, 1, 0, 74), (4, 7, 4, 0, 163), (4, 13, 4, 1, 165), (4, 16, 4, 2, 167), (4, 19, 4, 3, 169), (4, 23, 4, 4, 170), (4, 26, 4, 5, 171), (4, 29, 4, 6, 172), (5, 9, 5, 0, 194), (5, 15, 5, 1, 197), (6, 9, 6, 2, 212), (6, 15, 6, 3, 213), (6, 18, 6, 4, 214), (6, 21, 6, 5, 215), (6, 24, 6, 6, 216), (6, 27, 6, 0, 210), (6, 31, 6, 1, 211), (6, 63, 5, 0, 195), (6, 89, 1, 0, 75), (7, 9, 7, 0, 239), (7, 15, 7, 1, 241), (7, 18, 7, 2, 242), (8, 7, 8, 0, 773), (8, 13, 8, 1, 774), (8, 16, 8, 2, 775), (8, 19, 8, 3, 776), (8, 22, 8, 4, 777), (8, 25, 8, 5, 778), (8, 28, 8, 6, 779), (8, 31, 8, 7, 780), (8, 34, 8, 12, 785), (8, 37, 8, 13, 786), (8, 40, 8, 14, 787), (8, 43, 8, 15, 788), (8, 47, 8, 16, 789), (8, 50, 8, 20, 793), (8, 53, 8, 25, 798), (8, 57, 8, 26, 799), (8, 60, 8, 27, 800), (8, 63, 8, 28, 801), (8, 66, 8, 29, 802), (8, 114, 8, 9, 782), (8, 118, 8, 11, 784), (8, 121, 8, 10, 783), (8, 169, 8, 17, 790), (8, 176, 8, 18, 791), (8, 183, 8, 19, 792), (8, 206, 8, 21, 794), (8, 211, 8, 22, 795), (8, 218, 8, 23, 796), (8, 221, 8, 24, 797), (8, 261, 8, 8, 781)]
def mm_lm : List (Nat × Nat × Nat × Nat) := [(0, 73, 30, 286), (0, 81, 126, 290), (0, 84, 32, 298), (0, 88, 33, 301), (0, 91, 127, 304), (0, 95, 125, 320), (0, 99, 34, 324), (0, 103, 123, 329), (0, 107, 124, 333), (0, 111, 120, 338), (0, 114, 121, 343), (0, 118, 122, 347), (0, 121, 128, 351), (0, 124, 129, 356), (0, 127, 131, 364), (0, 131, 171, 377), (0, 134, 172, 381), (0, 138, 132, 390), (0, 141, 173, 395), (0, 147, 169, 403), (0, 150, 142, 411), (0, 153, 134, 462), (0, 156, 35, 473), (0, 159, 36, 476), (0, 162, 130, 479), (0, 166, 152, 483), (0, 170, 160, 533), (0, 173, 159, 541), (0, 176, 40, 546), (0, 180, 161, 574), (0, 183, 186, 575), (0, 188, 41, 580), (0, 192, 42, 588), (0, 196, 135, 644), (0, 200, 138, 658), (0, 204, 140, 672), (0, 216, 31, 692), (0, 220, 37, 696), (0, 223, 164, 699), (0, 229, 165, 710), (0, 232, 167, 714), (0, 236, 166, 722), (0, 240, 168, 730), (0, 244, 43, 740), (0, 248, 44, 751), (0, 251, 45, 755), (0, 259, 163, 550), (0, 262, 162, 562), (0, 265, 174, 592), (0, 268, 175, 596), (0, 271, 176, 628), (1, 28, 120, 312), (1, 32, 124, 308), (1, 36, 123, 355), (1, 40, 131, 394), (1, 44, 121, 368), (1, 48, 133, 369), (1, 57, 136, 648), (1, 60, 137, 653), (1, 63, 186, 652), (1, 68, 122, 657), (1, 71, 126, 662), (1, 74, 127, 663), (1, 78, 139, 664), (1, 82, 141, 676), (2, 35, 188, 487), (2, 41, 153, 490), (2, 53, 155, 509), (2, 57, 154, 497), (2, 65, 122, 501), (2, 69, 183, 502), (2, 74, 121, 505), (2, 78, 123, 513), (2, 81, 158, 514), (2, 84, 156, 521), (2, 87, 157, 529), (2, 91, 159, 525), (2, 94, 185, 518), (2, 99, 160, 558), (2, 102, 184, 559), (2, 105, 161, 554), (3, 44, 178, 600), (3, 48, 177, 632), (3, 56, 179, 604), (3, 59, 188, 611), (3, 69, 182, 612), (3, 74, 180, 618), (3, 78, 184, 624), (3, 83, 181, 625), (3, 91, 121, 608), (3, 94, 122, 609), (3, 96, 123, 623), (4, 32, 123, 385), (4, 38, 186, 386), (4, 43, 124, 389), (6, 35, 126, 415), (6, 40, 143, 416), (6, 44, 149, 428), (6, 47, 146, 447), (6, 51, 150, 452), (6, 54, 144, 420), (6, 57, 170, 424), (6, 66, 147, 436), (6, 69, 187, 440), (6, 75, 145, 443), (6, 79, 148, 432), (6, 82, 127, 451), (6, 86, 151, 456), (6, 92, 125, 460), (6, 96, 124, 461), (7, 22, 189, 703), (7, 28, 165, 734), (8, 69, 46, 872), (8, 73, 49, 903), (8, 77, 50, 907), (8, 81, 53, 883), (8, 85, 47, 869), (8, 89, 54, 875), (8, 93, 48, 895), (8, 97, 58, 891), (8, 100, 52, 899), (8, 103, 51, 911), (8, 106, 61, 923), (8, 110, 63, 931), (8, 124, 65, 939), (8, 128, 69, 947), (8, 131, 84, 950), (8, 134, 70, 962), (8, 137, 71, 958), (8, 141, 72, 966), (8, 144, 73, 970), (8, 147, 75, 981), (8, 150, 74, 954), (8, 154, 78, 1000), (8, 157, 79, 996), (8, 161, 80, 992), (8, 165, 86, 1032), (8, 172, 87, 1028), (8, 179, 89, 1044), (8, 186, 90, 1040), (8, 189, 91, 1047), (8, 192, 88, 1024), (8, 196, 92, 1036), (8, 199, 93, 1020), (8, 203, 55, 1059), (8, 214, 99, 1076), (8, 224, 100, 1088), (8, 227, 101, 1084), (8, 230, 102, 1092), (8, 233, 103, 1080), (8, 237, 105, 1100), (8, 240, 107, 1107), (8, 244, 106, 1118), (8, 247, 112, 1126), (8, 254, 115, 1140), (8, 257, 117, 1148), (13, 13, 0, 282), (13, 17, 56, 865), (13, 18, 1, 294), (13, 22, 57, 879), (13, 23, 2, 316), (13, 26, 59, 887), (13, 27, 3, 334), (13, 31, 60, 915), (13, 32, 4, 339), (13, 35, 62, 919), (13, 36, 5, 360), (13, 39, 64, 927), (13, 40, 6, 373), (13, 43, 66, 935), (13, 46, 7, 399), (13, 50, 98, 1067), (13, 51, 8, 407), (13, 54, 104, 1072), (13, 55, 9, 469), (13, 58, 76, 977), (13, 59, 10, 537), (13, 63, 77, 984), (13, 64, 11, 542), (13, 68, 81, 988), (13, 69, 12, 566), (13, 72, 82, 1004), (13, 73, 13, 570), (13, 76, 83, 1008), (13, 77, 14, 576), (13, 80, 85, 1012), (13, 81, 15, 584), (13, 84, 94, 1016), (13, 85, 16, 636), (13, 88, 95, 1051), (13, 89, 17, 640), (13, 92, 96, 1055), (13, 93, 18, 668), (13, 96, 97, 1063), (13, 97, 19, 680), (13, 100, 67, 943), (13, 101, 20, 684), (13, 104, 68, 973), (13, 105, 21, 688), (13, 108, 108, 1096), (13, 109, 22, 706), (13, 113, 109, 1103), (13, 114, 23, 718), (13, 117, 110, 1110), (13, 118, 24, 726), (13, 121, 111, 1114), (13, 122, 25, 736), (13, 125, 113, 1122), (13, 126, 26, 743), (13, 129, 114, 1130), (13, 130, 27, 747), (13, 133, 116, 1136), (13, 134, 28, 759), (13, 138, 118, 1144), (13, 139, 29, 763), (13, 142, 119, 1151)]
def mm_ln : List (Nat × Nat × Nat × Nat) := [(2, 49, 38, 494), (2, 61, 39, 506), (3, 52, 38, 622), (3, 65, 39, 610)]
def mm_lc : List (Nat × Nat × Int × Nat) := [(9, 265, 1431655765, 615), (9, 266, 858993459, 616), (9, 267, 252645135, 617)]
def mm_ll : List (Nat × Nat × Int × Nat) := [(0, 255, (-9), 327), (0, 257, 9, 328), (8, 209, 255, 1071), (8, 250, (-9), 1134), (8, 252, 9, 1135), (13, 44, 4294967295, 1155)]
def mm_la : List (Nat × Nat × Nat) := [(1, 51, 466), (7, 32, 735)]
def mm_hd0 : mm_Hd := (⟨"", "", ""⟩, ⟨#[]⟩, 0, none, 0, 0, 0, 0, true)
def mm_hd (m : Nat) : mm_Hd := mm_hds.getD m mm_hd0
def wA : List Cond := lw_tbl.filter goodWord
theorem wA_of {i : Nat} {w : Cond} (h : lw_tbl[i]? = some w) (hg : goodWord w = true) : w ∈ wA := List.mem_filter.mpr ⟨List.mem_of_getElem? h, hg⟩
theorem wA_good : ∀ w ∈ wA, goodWord w = true := fun w h => (List.mem_filter.mp h).2
theorem wA_in : ∀ w ∈ wA, w ∈ lw_tbl := fun w h => (List.mem_filter.mp h).1
def mm_wat (i : Nat) (w : Cond) : Bool := decide (lw_tbl[i]? = some w) && goodWord w
theorem mm_wat_ok {i : Nat} {w : Cond} (h : mm_wat i w = true) : w ∈ wA := by
  unfold mm_wat at h
  rw [Bool.and_eq_true, decide_eq_true_eq] at h
  exact wA_of h.1 h.2
def mm_lfw (q : Nat × Nat × Nat × Nat × Nat) : Cond := .fieldLink (mm_cn q.1) q.2.1 (mm_F q.2.2.1 q.2.2.2.1).1 (mm_F q.2.2.1 q.2.2.2.1).2.1 (mm_F q.2.2.1 q.2.2.2.1).2.2.1
theorem mm_lf_ok : ∀ q ∈ mm_lf, mm_lfw q ∈ wA ∧ q.2.2.1 < 9 ∧ q.2.2.2.1 < mm_nf q.2.2.1 := by
  have h : mm_lf.all (fun q => mm_wat q.2.2.2.2 (mm_lfw q) && (decide (q.2.2.1 < 9) && decide (q.2.2.2.1 < mm_nf q.2.2.1))) = true := by decide +kernel
  intro q hq
  have h1 := List.all_eq_true.mp h q hq
  rw [Bool.and_eq_true, Bool.and_eq_true, decide_eq_true_eq, decide_eq_true_eq] at h1
  exact ⟨mm_wat_ok h1.1, h1.2⟩
theorem mm_lm_ok : ∀ q ∈ mm_lm, Cond.methodLink (mm_cn q.1) q.2.1 (mm_hd q.2.2.1).1 ∈ wA := by
  have h : mm_lm.all (fun q => mm_wat q.2.2.2 (.methodLink (mm_cn q.1) q.2.1 (mm_hd q.2.2.1).1)) = true := by decide +kernel
  exact fun q hq => mm_wat_ok (List.all_eq_true.mp h q hq)
theorem mm_ln_ok : ∀ q ∈ mm_ln, Cond.methodLinkNest (mm_cn q.1) q.2.1 (mm_hd q.2.2.1).1 "PagesByLevels" ∈ lw_tbl := by
  have h : mm_ln.all (fun q => decide (lw_tbl[q.2.2.2]? = some (.methodLinkNest (mm_cn q.1) q.2.1 (mm_hd q.2.2.1).1 "PagesByLevels"))) = true := by decide +kernel
  exact fun q hq => List.mem_of_getElem? (of_decide_eq_true (List.all_eq_true.mp h q hq))
theorem mm_lc_ok : ∀ q ∈ mm_lc, Cond.constant (mm_cn q.1) q.2.1 (Int32.ofInt q.2.2.1) ∈ wA ∧ (-2147483648 ≤ q.2.2.1 ∧ q.2.2.1 < 2147483648) := by
  have h : mm_lc.all (fun q => mm_wat q.2.2.2 (.constant (mm_cn q.1) q.2.1 (Int32.ofInt q.2.2.1)) && decide (-2147483648 ≤ q.2.2.1 ∧ q.2.2.1 < 2147483648)) = true := by decide +kernel
  intro q hq
  have h1 := List.all_eq_true.mp h q hq
  rw [Bool.and_eq_true, decide_eq_true_eq] at h1
  exact ⟨mm_wat_ok h1.1, h1.2⟩
theorem mm_ll_ok : ∀ q ∈ mm_ll, Cond.constantLong (mm_cn q.1) q.2.1 (Int64.ofInt q.2.2.1) ∈ wA ∧ (-9223372036854775808 ≤ q.2.2.1 ∧ q.2.2.1 < 9223372036854775808) := by
  have h : mm_ll.all (fun q => mm_wat q.2.2.2 (.constantLong (mm_cn q.1) q.2.1 (Int64.ofInt q.2.2.1)) && decide (-9223372036854775808 ≤ q.2.2.1 ∧ q.2.2.1 < 9223372036854775808)) = true := by decide +kernel
  intro q hq
  have h1 := List.all_eq_true.mp h q hq
  rw [Bool.and_eq_true, decide_eq_true_eq] at h1
  exact ⟨mm_wat_ok h1.1, h1.2⟩
theorem mm_la_ok : ∀ q ∈ mm_la, Cond.methodLink (mm_cn q.1) q.2.1 arraycopyName ∈ wA := by
  have h : mm_la.all (fun q => mm_wat q.2.2 (.methodLink (mm_cn q.1) q.2.1 arraycopyName)) = true := by decide +kernel
  exact fun q hq => mm_wat_ok (List.all_eq_true.mp h q hq)
theorem mm_acw : Cond.native arraycopyName ∈ wA ∧ Cond.static arraycopyName ∈ wA ∧ Cond.initialized "java/lang/System" ∈ wA := ⟨mm_wat_ok (i := 468) (by decide +kernel), mm_wat_ok (i := 467) (by decide +kernel), mm_wat_ok (i := 53) (by decide +kernel)⟩
def mm_hok (q : mm_Hd × (Nat × Nat × Nat × Nat)) : Bool :=
  (mm_wat q.2.2.1 (.initialized q.1.1.cls) && (if q.1.2.2.2.2.2.2.2.2 then mm_wat q.2.2.2.1 (.static q.1.1) else mm_wat q.2.2.2.1 (.instanceMethod q.1.1) && mm_wat q.2.2.2.2 (.selects q.1.1.cls q.1.1 q.1.1)) &&
   decide (q.1.1.cls = mm_cn q.1.2.2.2.2.1 ∧ q.1.1.cls ≠ "java/lang/invoke/MethodHandle" ∧ q.1.1.cls ≠ "java/lang/invoke/VarHandle" ∧ (parseMethodDescriptor q.1.1.desc).map (fun d => d.parameters.length) = some q.1.2.2.2.2.2.2.2.1 ∧ plainFor q.1.1 = true))
theorem mm_hds_ok : ∀ m, m < 190 → mm_hok (mm_hd m, mm_hps.getD m (0, 0, 0, 0)) = true := by
  have h : (List.range 190).all (fun m => mm_hok (mm_hd m, mm_hps.getD m (0, 0, 0, 0))) = true := by decide +kernel
  intro m hm
  exact List.all_eq_true.mp h m (List.mem_range.mpr hm)
def mm_cw (q : mm_Hd) : Cond := .code q.1 q.2.1 q.2.2.1 q.2.2.2.1

set_option maxRecDepth 200000 in
set_option maxHeartbeats 4000000 in
theorem mm_cw0 : ((List.range 10).map fun j => some (mm_cw (mm_hd (0 + j)))) = ((List.range 10).map fun j => lw_tbl[(mm_hps.getD (0 + j) (0, 0, 0, 0)).1]?) := by rfl
set_option maxRecDepth 200000 in
set_option maxHeartbeats 4000000 in
theorem mm_cw1 : ((List.range 10).map fun j => some (mm_cw (mm_hd (10 + j)))) = ((List.range 10).map fun j => lw_tbl[(mm_hps.getD (10 + j) (0, 0, 0, 0)).1]?) := by rfl
set_option maxRecDepth 200000 in
set_option maxHeartbeats 4000000 in
theorem mm_cw2 : ((List.range 10).map fun j => some (mm_cw (mm_hd (20 + j)))) = ((List.range 10).map fun j => lw_tbl[(mm_hps.getD (20 + j) (0, 0, 0, 0)).1]?) := by rfl
set_option maxRecDepth 200000 in
set_option maxHeartbeats 4000000 in
theorem mm_cw3 : ((List.range 10).map fun j => some (mm_cw (mm_hd (30 + j)))) = ((List.range 10).map fun j => lw_tbl[(mm_hps.getD (30 + j) (0, 0, 0, 0)).1]?) := by rfl
set_option maxRecDepth 200000 in
set_option maxHeartbeats 4000000 in
theorem mm_cw4 : ((List.range 10).map fun j => some (mm_cw (mm_hd (40 + j)))) = ((List.range 10).map fun j => lw_tbl[(mm_hps.getD (40 + j) (0, 0, 0, 0)).1]?) := by rfl
set_option maxRecDepth 200000 in
set_option maxHeartbeats 4000000 in
theorem mm_cw5 : ((List.range 10).map fun j => some (mm_cw (mm_hd (50 + j)))) = ((List.range 10).map fun j => lw_tbl[(mm_hps.getD (50 + j) (0, 0, 0, 0)).1]?) := by rfl
set_option maxRecDepth 200000 in
set_option maxHeartbeats 4000000 in
theorem mm_cw6 : ((List.range 10).map fun j => some (mm_cw (mm_hd (60 + j)))) = ((List.range 10).map fun j => lw_tbl[(mm_hps.getD (60 + j) (0, 0, 0, 0)).1]?) := by rfl
set_option maxRecDepth 200000 in
set_option maxHeartbeats 4000000 in
theorem mm_cw7 : ((List.range 10).map fun j => some (mm_cw (mm_hd (70 + j)))) = ((List.range 10).map fun j => lw_tbl[(mm_hps.getD (70 + j) (0, 0, 0, 0)).1]?) := by rfl
set_option maxRecDepth 200000 in
set_option maxHeartbeats 4000000 in
theorem mm_cw8 : ((List.range 10).map fun j => some (mm_cw (mm_hd (80 + j)))) = ((List.range 10).map fun j => lw_tbl[(mm_hps.getD (80 + j) (0, 0, 0, 0)).1]?) := by rfl
set_option maxRecDepth 200000 in
set_option maxHeartbeats 4000000 in
theorem mm_cw9 : ((List.range 10).map fun j => some (mm_cw (mm_hd (90 + j)))) = ((List.range 10).map fun j => lw_tbl[(mm_hps.getD (90 + j) (0, 0, 0, 0)).1]?) := by rfl
set_option maxRecDepth 200000 in
set_option maxHeartbeats 4000000 in
theorem mm_cw10 : ((List.range 10).map fun j => some (mm_cw (mm_hd (100 + j)))) = ((List.range 10).map fun j => lw_tbl[(mm_hps.getD (100 + j) (0, 0, 0, 0)).1]?) := by rfl
set_option maxRecDepth 200000 in
set_option maxHeartbeats 4000000 in
theorem mm_cw11 : ((List.range 10).map fun j => some (mm_cw (mm_hd (110 + j)))) = ((List.range 10).map fun j => lw_tbl[(mm_hps.getD (110 + j) (0, 0, 0, 0)).1]?) := by rfl
set_option maxRecDepth 200000 in
set_option maxHeartbeats 4000000 in
theorem mm_cw12 : ((List.range 10).map fun j => some (mm_cw (mm_hd (120 + j)))) = ((List.range 10).map fun j => lw_tbl[(mm_hps.getD (120 + j) (0, 0, 0, 0)).1]?) := by rfl
set_option maxRecDepth 200000 in
set_option maxHeartbeats 4000000 in
theorem mm_cw13 : ((List.range 10).map fun j => some (mm_cw (mm_hd (130 + j)))) = ((List.range 10).map fun j => lw_tbl[(mm_hps.getD (130 + j) (0, 0, 0, 0)).1]?) := by rfl
set_option maxRecDepth 200000 in
set_option maxHeartbeats 4000000 in
theorem mm_cw14 : ((List.range 10).map fun j => some (mm_cw (mm_hd (140 + j)))) = ((List.range 10).map fun j => lw_tbl[(mm_hps.getD (140 + j) (0, 0, 0, 0)).1]?) := by rfl
set_option maxRecDepth 200000 in
set_option maxHeartbeats 4000000 in
theorem mm_cw15 : ((List.range 10).map fun j => some (mm_cw (mm_hd (150 + j)))) = ((List.range 10).map fun j => lw_tbl[(mm_hps.getD (150 + j) (0, 0, 0, 0)).1]?) := by rfl
set_option maxRecDepth 200000 in
set_option maxHeartbeats 4000000 in
theorem mm_cw16 : ((List.range 10).map fun j => some (mm_cw (mm_hd (160 + j)))) = ((List.range 10).map fun j => lw_tbl[(mm_hps.getD (160 + j) (0, 0, 0, 0)).1]?) := by rfl
set_option maxRecDepth 200000 in
set_option maxHeartbeats 4000000 in
theorem mm_cw17 : ((List.range 10).map fun j => some (mm_cw (mm_hd (170 + j)))) = ((List.range 10).map fun j => lw_tbl[(mm_hps.getD (170 + j) (0, 0, 0, 0)).1]?) := by rfl
set_option maxRecDepth 200000 in
set_option maxHeartbeats 4000000 in
theorem mm_cw18 : ((List.range 10).map fun j => some (mm_cw (mm_hd (180 + j)))) = ((List.range 10).map fun j => lw_tbl[(mm_hps.getD (180 + j) (0, 0, 0, 0)).1]?) := by rfl
theorem mm_cw_at {n k i : Nat} (h : ((List.range n).map fun j => some (mm_cw (mm_hd (i + j)))) = ((List.range n).map fun j => lw_tbl[(mm_hps.getD (i + j) (0, 0, 0, 0)).1]?)) (hk : k < n) : mm_cw (mm_hd (i + k)) ∈ wA := by
  have h1 := congrArg (fun l => l[k]?) h
  simp only [List.getElem?_map, List.getElem?_range hk, Option.map_some] at h1
  exact wA_of (Option.some.inj h1).symm rfl
theorem mm_cw_ok : ∀ m, m < 190 → mm_cw (mm_hd m) ∈ wA := by
  intro m hm
  have e : m = 10 * (m / 10) + m % 10 := by omega
  have h1 : m / 10 < 19 := by omega
  have h2 : m % 10 < 10 := by omega
  rw [e]
  generalize m / 10 = q at h1 e ⊢
  generalize m % 10 = r at h2 e ⊢
  match q, h1 with
  | 0, _ => exact mm_cw_at mm_cw0 (by omega)
  | 1, _ => exact mm_cw_at mm_cw1 (by omega)
  | 2, _ => exact mm_cw_at mm_cw2 (by omega)
  | 3, _ => exact mm_cw_at mm_cw3 (by omega)
  | 4, _ => exact mm_cw_at mm_cw4 (by omega)
  | 5, _ => exact mm_cw_at mm_cw5 (by omega)
  | 6, _ => exact mm_cw_at mm_cw6 (by omega)
  | 7, _ => exact mm_cw_at mm_cw7 (by omega)
  | 8, _ => exact mm_cw_at mm_cw8 (by omega)
  | 9, _ => exact mm_cw_at mm_cw9 (by omega)
  | 10, _ => exact mm_cw_at mm_cw10 (by omega)
  | 11, _ => exact mm_cw_at mm_cw11 (by omega)
  | 12, _ => exact mm_cw_at mm_cw12 (by omega)
  | 13, _ => exact mm_cw_at mm_cw13 (by omega)
  | 14, _ => exact mm_cw_at mm_cw14 (by omega)
  | 15, _ => exact mm_cw_at mm_cw15 (by omega)
  | 16, _ => exact mm_cw_at mm_cw16 (by omega)
  | 17, _ => exact mm_cw_at mm_cw17 (by omega)
  | 18, _ => exact mm_cw_at mm_cw18 (by omega)
  | n + 19, h => exact absurd h (by omega)
theorem mm_Fw0 : ∀ w ∈ u_ws (mm_cn 0) (mm_F 0) (mm_nf 0), w ∈ wA := by
  have h : (u_ws (mm_cn 0) (mm_F 0) (mm_nf 0)).all (fun w => decide (w ∈ lw_tbl) && goodWord w) = true := by decide +kernel
  intro w hw
  have h1 := List.all_eq_true.mp h w hw
  rw [Bool.and_eq_true, decide_eq_true_eq] at h1
  exact List.mem_filter.mpr h1
theorem mm_Fw1 : ∀ w ∈ u_ws (mm_cn 1) (mm_F 1) (mm_nf 1), w ∈ wA := by
  have h : (u_ws (mm_cn 1) (mm_F 1) (mm_nf 1)).all (fun w => decide (w ∈ lw_tbl) && goodWord w) = true := by decide +kernel
  intro w hw
  have h1 := List.all_eq_true.mp h w hw
  rw [Bool.and_eq_true, decide_eq_true_eq] at h1
  exact List.mem_filter.mpr h1
theorem mm_Fw2 : ∀ w ∈ u_ws (mm_cn 2) (mm_F 2) (mm_nf 2), w ∈ wA := by
  have h : (u_ws (mm_cn 2) (mm_F 2) (mm_nf 2)).all (fun w => decide (w ∈ lw_tbl) && goodWord w) = true := by decide +kernel
  intro w hw
  have h1 := List.all_eq_true.mp h w hw
  rw [Bool.and_eq_true, decide_eq_true_eq] at h1
  exact List.mem_filter.mpr h1
theorem mm_Fw3 : ∀ w ∈ u_ws (mm_cn 3) (mm_F 3) (mm_nf 3), w ∈ wA := by
  have h : (u_ws (mm_cn 3) (mm_F 3) (mm_nf 3)).all (fun w => decide (w ∈ lw_tbl) && goodWord w) = true := by decide +kernel
  intro w hw
  have h1 := List.all_eq_true.mp h w hw
  rw [Bool.and_eq_true, decide_eq_true_eq] at h1
  exact List.mem_filter.mpr h1
theorem mm_Fw4 : ∀ w ∈ u_ws (mm_cn 4) (mm_F 4) (mm_nf 4), w ∈ wA := by
  have h : (u_ws (mm_cn 4) (mm_F 4) (mm_nf 4)).all (fun w => decide (w ∈ lw_tbl) && goodWord w) = true := by decide +kernel
  intro w hw
  have h1 := List.all_eq_true.mp h w hw
  rw [Bool.and_eq_true, decide_eq_true_eq] at h1
  exact List.mem_filter.mpr h1
theorem mm_Fw5 : ∀ w ∈ u_ws (mm_cn 5) (mm_F 5) (mm_nf 5), w ∈ wA := by
  have h : (u_ws (mm_cn 5) (mm_F 5) (mm_nf 5)).all (fun w => decide (w ∈ lw_tbl) && goodWord w) = true := by decide +kernel
  intro w hw
  have h1 := List.all_eq_true.mp h w hw
  rw [Bool.and_eq_true, decide_eq_true_eq] at h1
  exact List.mem_filter.mpr h1
theorem mm_Fw6 : ∀ w ∈ u_ws (mm_cn 6) (mm_F 6) (mm_nf 6), w ∈ wA := by
  have h : (u_ws (mm_cn 6) (mm_F 6) (mm_nf 6)).all (fun w => decide (w ∈ lw_tbl) && goodWord w) = true := by decide +kernel
  intro w hw
  have h1 := List.all_eq_true.mp h w hw
  rw [Bool.and_eq_true, decide_eq_true_eq] at h1
  exact List.mem_filter.mpr h1
theorem mm_Fw7 : ∀ w ∈ u_ws (mm_cn 7) (mm_F 7) (mm_nf 7), w ∈ wA := by
  have h : (u_ws (mm_cn 7) (mm_F 7) (mm_nf 7)).all (fun w => decide (w ∈ lw_tbl) && goodWord w) = true := by decide +kernel
  intro w hw
  have h1 := List.all_eq_true.mp h w hw
  rw [Bool.and_eq_true, decide_eq_true_eq] at h1
  exact List.mem_filter.mpr h1
theorem mm_Fw8 : ∀ w ∈ u_ws (mm_cn 8) (mm_F 8) (mm_nf 8), w ∈ wA := by
  have h : (u_ws (mm_cn 8) (mm_F 8) (mm_nf 8)).all (fun w => decide (w ∈ lw_tbl) && goodWord w) = true := by decide +kernel
  intro w hw
  have h1 := List.all_eq_true.mp h w hw
  rw [Bool.and_eq_true, decide_eq_true_eq] at h1
  exact List.mem_filter.mpr h1
theorem mm_Fw : ∀ ci, ci < 9 → ∀ w ∈ u_ws (mm_cn ci) (mm_F ci) (mm_nf ci), w ∈ wA := by
  intro ci h
  match ci, h with
  | 0, _ => exact mm_Fw0
  | 1, _ => exact mm_Fw1
  | 2, _ => exact mm_Fw2
  | 3, _ => exact mm_Fw3
  | 4, _ => exact mm_Fw4
  | 5, _ => exact mm_Fw5
  | 6, _ => exact mm_Fw6
  | 7, _ => exact mm_Fw7
  | 8, _ => exact mm_Fw8
  | n + 9, h => exact absurd h (by omega)
theorem mm_Fty : ∀ ci, ci < 9 → ∀ k, k < mm_nf ci → parseFieldDescriptor (mm_F ci k).2.2.1 = some (mm_ty ci k) := by
  intro ci h
  match ci, h with
  | 0, _ => exact by decide +kernel
  | 1, _ => exact by decide +kernel
  | 2, _ => exact by decide +kernel
  | 3, _ => exact by decide +kernel
  | 4, _ => exact by decide +kernel
  | 5, _ => exact by decide +kernel
  | 6, _ => exact by decide +kernel
  | 7, _ => exact by decide +kernel
  | 8, _ => exact by decide +kernel
  | n + 9, h => exact absurd h (by omega)
theorem mm_Fnm : ∀ ci, ci < 9 → ∀ a, a < mm_nf ci → ∀ b, b < mm_nf ci → a ≠ b → (mm_F ci a).2.1 ≠ (mm_F ci b).2.1 := by
  intro ci h
  match ci, h with
  | 0, _ => exact by decide +kernel
  | 1, _ => exact by decide +kernel
  | 2, _ => exact by decide +kernel
  | 3, _ => exact by decide +kernel
  | 4, _ => exact by decide +kernel
  | 5, _ => exact by decide +kernel
  | 6, _ => exact by decide +kernel
  | 7, _ => exact by decide +kernel
  | 8, _ => exact by decide +kernel
  | n + 9, h => exact absurd h (by omega)
theorem mm_Ffi : ∀ ci, ci < 9 → ∀ k, k < mm_nf ci → mm_fk ci k ≠ 1 → (mm_F ci k).2.2.2 = false := by
  intro ci h
  match ci, h with
  | 0, _ => exact by decide +kernel
  | 1, _ => exact by decide +kernel
  | 2, _ => exact by decide +kernel
  | 3, _ => exact by decide +kernel
  | 4, _ => exact by decide +kernel
  | 5, _ => exact by decide +kernel
  | 6, _ => exact by decide +kernel
  | 7, _ => exact by decide +kernel
  | 8, _ => exact by decide +kernel
  | n + 9, h => exact absurd h (by omega)
theorem mm_Fki : ∀ ci, ci < 9 → ∀ k, k < mm_nf ci → (mm_fk ci k = 0 → mm_ty ci k = .int) ∧ (mm_fk ci k = 3 → mm_ty ci k = .boolean) ∧ (mm_fk ci k = 2 → mm_ty ci k = .object "PagesByLevels$Complex") ∧ mm_fk ci k < 4 := by
  intro ci h
  match ci, h with
  | 0, _ => exact by decide +kernel
  | 1, _ => exact by decide +kernel
  | 2, _ => exact by decide +kernel
  | 3, _ => exact by decide +kernel
  | 4, _ => exact by decide +kernel
  | 5, _ => exact by decide +kernel
  | 6, _ => exact by decide +kernel
  | 7, _ => exact by decide +kernel
  | 8, _ => exact by decide +kernel
  | n + 9, h => exact absurd h (by omega)
theorem mm_Fcl : ∀ ci, ci < 9 → mm_cl[ci]? = some (mm_cn ci, mm_F ci, mm_nf ci) := by
  intro ci h
  match ci, h with
  | 0, _ => exact rfl
  | 1, _ => exact rfl
  | 2, _ => exact rfl
  | 3, _ => exact rfl
  | 4, _ => exact rfl
  | 5, _ => exact rfl
  | 6, _ => exact rfl
  | 7, _ => exact rfl
  | 8, _ => exact rfl
  | n + 9, h => exact absurd h (by omega)
