/-! The constructors: a second small machine that makes cells; all it works on is known numbers. -/
abbrev cc_C : Type := Nat × Nat × List Int
def cc_isR (ci k : Nat) : Bool := mm_fk ci k = 1 || mm_fk ci k = 2
def cc_cell (σ : Nat → Nat) (P : Nat → ClassId) (c : cc_C) : va_E :=
  if c.1 = 0 then .inr (c.2.1, (List.range c.2.2.length).map fun k => mm_rl σ (if cc_isR c.2.1 k then 2 else 0, c.2.2.getD k 0))
  else if c.1 = 2 then .inl (P 2, c.2.2.length, .inr (.inl fun j => Int64.ofInt (c.2.2.getD j 0)))
  else if c.1 = 5 ∨ c.1 = 6 then .inl (P c.1, c.2.2.length, .inr (.inr (.inr (.inr fun j => if c.2.2.getD j (-1) < 0 then none else some (σ (c.2.2.getD j (-1)).toNat)))))
  else .inl (P c.1, c.2.2.length, .inl fun j => Int32.ofInt (c.2.2.getD j 0))
def cc_w (σ : Nat → Nat) (P : Nat → ClassId) (cs : List cc_C) : va_W := cs.zipIdx.map fun q => (σ q.2, cc_cell σ P q.1)
def cc_new (ci : Nat) : cc_C := (0, ci, (List.range (mm_nf ci)).map fun k => if cc_isR ci k then -1 else 0)
def cc_rn (x : Int) (n : Nat) : Bool := decide (-1 ≤ x ∧ x < (n : Int))
def cc_put (nx r1 r2 : Nat) (st : List mm_V) (cs : List cc_C) : Option (Nat × List mm_V × List cc_C) := match st with
  | (u, x) :: (2, a) :: t => match cs[a.toNat]? with
    | some (0, ci, fs) => if 0 ≤ a ∧ ci = r1 ∧ fs.length = mm_nf ci ∧ ((cc_isR r1 r2 = true ∧ u = 2 ∧ cc_rn x cs.length = true) ∨ (cc_isR r1 r2 = false ∧ u = 0 ∧ (mm_fk r1 r2 = 0 ∨ (mm_fk r1 r2 = 3 ∧ (x = 0 ∨ x = 1))))) then some (nx, t, cs.set a.toNat (0, ci, fs.set r2 x)) else none
    | _ => none
  | _ => none
def cc_get (nx r1 r2 : Nat) (st : List mm_V) (cs : List cc_C) : Option (Nat × List mm_V × List cc_C) := match st with
  | (2, a) :: t => match cs[a.toNat]? with
    | some (0, ci, fs) => if 0 ≤ a ∧ ci = r1 ∧ fs.length = mm_nf ci then some (nx, (if cc_isR r1 r2 then 2 else 0, fs.getD r2 0) :: t, cs) else none
    | _ => none
  | _ => none
def cc_ist (nx : Nat) (st : List mm_V) (cs : List cc_C) : Option (Nat × List mm_V × List cc_C) := match st with
  | (0, x) :: (0, i) :: (2, a) :: t => match cs[a.toNat]? with
    | some (1, q, l) => if 0 ≤ a ∧ 0 ≤ i ∧ i < (l.length : Int) ∧ i < 100000 then some (nx, t, cs.set a.toNat (1, q, l.set i.toNat x)) else none
    | _ => none
  | _ => none
def cc_ast (nx : Nat) (st : List mm_V) (cs : List cc_C) : Option (Nat × List mm_V × List cc_C) := match st with
  | (2, x) :: (0, i) :: (2, a) :: t => match cs[a.toNat]?, cs[x.toNat]? with
    | some (k, q, l), some (0, ci, fs) => if 0 ≤ a ∧ 0 ≤ i ∧ i < (l.length : Int) ∧ i < 100000 ∧ 0 ≤ x ∧ ((k = 5 ∧ ci = 1) ∨ (k = 6 ∧ ci = 7)) then some (nx, t, cs.set a.toNat (k, q, l.set i.toNat x)) else none
    | _, _ => none
  | _ => none
def cc_op (pc : Nat) (i : Instr) (nx r1 r2 : Nat) (st : List mm_V) (cs : List cc_C) : Option (Nat × List mm_V × List cc_C) := match i with
  | .aconst_null => some (nx, (2, -1) :: st, cs)
  | .iconst n => some (nx, (0, n) :: st, cs)
  | .bipush n => some (nx, (0, n) :: st, cs)
  | .sipush n => some (nx, (0, n) :: st, cs)
  | .dup => match st with
    | v :: t => if v.1 = 1 then none else some (nx, v :: v :: t, cs)
    | _ => none
  | .goto off => some (((pc : Int) + off).toNat, st, cs)
  | .if_icmp .ge off => match mm_b2 st 0 0 with
    | some (x, y, r) => if (-2147483648 ≤ x ∧ x < 2147483648) ∧ (-2147483648 ≤ y ∧ y < 2147483648) then some (if y ≤ x then ((pc : Int) + off).toNat else nx, r, cs) else none
    | none => none
  | .new _ => if r1 < 9 ∧ cs.length < 1000 then some (nx, (2, cs.length) :: st, cs ++ [cc_new r1]) else none
  | .newarray _ => match mm_b1 st 0 with
    | some (n, r) => if 0 ≤ n ∧ n < 100000 ∧ r1 ∈ [1, 2, 3, 4] ∧ cs.length < 1000 then some (nx, (2, cs.length) :: r, cs ++ [(r1, 0, List.replicate n.toNat 0)]) else none
    | none => none
  | .anewarray _ => match mm_b1 st 0 with
    | some (n, r) => if 0 ≤ n ∧ n < 100000 ∧ r1 ∈ [5, 6] ∧ cs.length < 1000 then some (nx, (2, cs.length) :: r, cs ++ [(r1, 0, List.replicate n.toNat (-1))]) else none
    | none => none
  | .putfield _ => cc_put nx r1 r2 st cs
  | .getfield _ => cc_get nx r1 r2 st cs
  | .iastore => cc_ist nx st cs
  | .aastore => cc_ast nx st cs
  | .invokespecial _ => if r1 = 998 then (match st with
    | (2, a) :: t => if 0 ≤ a ∧ a < (cs.length : Int) ∧ mm_cs t ≤ 8 then some (nx, t, cs) else none
    | _ => none) else none
  | _ => none
def cc_j (k : Nat → List mm_V → List mm_V → List cc_C → Option (List mm_V × List cc_C)) (ck : Nat → List mm_V → List cc_C → Option (List mm_V × List cc_C)) (e : mm_E) (ls st : List mm_V) (cs : List cc_C) : Option (List mm_V × List cc_C) :=
  match cc_op e.1 e.2.1 (e.1 + e.2.2.1) e.2.2.2.1 e.2.2.2.2.1 st cs with
  | some (pc, st', cs') => k pc ls st' cs'
  | none => match mm_lo e.2.1 (e.1 + e.2.2.1) ls st with
    | some (pc, ls', st') => k pc ls' st' cs
    | none => match e.2.1 with
      | .return_ => match st with
        | [] => some (ls, cs)
        | _ => none
      | .invokespecial _ => if e.2.2.2.1 = 997 ∧ e.2.2.2.2.2.toNat < st.length ∧ mm_cs (st.drop (e.2.2.2.2.2.toNat + 1)) ≤ 8 then
          (match st[e.2.2.2.2.2.toNat]? with
          | some (2, a) => if 0 ≤ a ∧ a < (cs.length : Int) then
              match ck e.2.2.2.2.1 (st.take (e.2.2.2.2.2.toNat + 1)).reverse cs with
              | some (_, cs') => k (e.1 + e.2.2.1) ls (st.drop (e.2.2.2.2.2.toNat + 1)) cs'
              | none => none
            else none
          | _ => none) else none
      | _ => none
def cc_ex (T : Nat → List mm_E × Nat) (stop : Nat) : Nat → List mm_E → Nat → List mm_V → List mm_V → List cc_C → Option (List mm_V × List cc_C)
  | 0, _, _, _, _, _ => none
  | n + 1, cd, pc, ls, st, cs => if pc = stop ∧ stop < 9999 then (match st with
      | [] => some (ls, cs)
      | _ => none) else match mm_find cd pc with
    | some e => cc_j (fun pc ls st cs => cc_ex T stop n cd pc ls st cs) (fun m as cs => if (mm_args as).length ≤ (T m).2 then cc_ex T 9999 n (T m).1 0 (mm_ent (T m).2 as) [] cs else none) e ls st cs
    | none => none
def cc_sz (cs : List cc_C) : Nat := match cs with
  | [] => 0
  | c :: r => c.2.2.length + cc_sz r

def cc_k0 : List mm_E := [(0, .aload_n 0, 1, 0, 0, 0), (1, .invokespecial 1, 3, 998, 0, 0), (4, .aload_n 0, 1, 0, 0, 0), (5, .iconst 4, 1, 0, 0, 0), (6, .anewarray 9, 3, 5, 0, 0), (9, .putfield 11, 3, 0, 0, 0), (12, .aload_n 0, 1, 0, 0, 0), (13, .iconst 4, 1, 0, 0, 0), (14, .anewarray 9, 3, 5, 0, 0), (17, .putfield 15, 3, 0, 1, 0), (20, .aload_n 0, 1, 0, 0, 0), (21, .new 9, 3, 1, 0, 0), (24, .dup, 1, 0, 0, 0), (25, .invokespecial 18, 3, 997, 1, 0), (28, .putfield 19, 3, 0, 2, 0), (31, .aload_n 0, 1, 0, 0, 0), (32, .new 23, 3, 2, 0, 0), (35, .dup, 1, 0, 0, 0), (36, .aload_n 0, 1, 0, 0, 0), (37, .getfield 19, 3, 0, 2, 0), (40, .invokespecial 25, 3, 997, 2, 1), (43, .putfield 28, 3, 0, 3, 0), (46, .aload_n 0, 1, 0, 0, 0), (47, .new 32, 3, 3, 0, 0), (50, .dup, 1, 0, 0, 0), (51, .aload_n 0, 1, 0, 0, 0), (52, .getfield 19, 3, 0, 2, 0), (55, .invokespecial 34, 3, 997, 3, 1), (58, .putfield 35, 3, 0, 4, 0), (61, .aload_n 0, 1, 0, 0, 0), (62, .new 39, 3, 4, 0, 0), (65, .dup, 1, 0, 0, 0), (66, .invokespecial 41, 3, 997, 4, 0), (69, .putfield 42, 3, 0, 5, 0), (72, .aload_n 0, 1, 0, 0, 0), (73, .new 46, 3, 5, 0, 0), (76, .dup, 1, 0, 0, 0), (77, .invokespecial 48, 3, 997, 5, 0), (80, .putfield 49, 3, 0, 6, 0), (83, .aload_n 0, 1, 0, 0, 0), (84, .new 53, 3, 6, 0, 0), (87, .dup, 1, 0, 0, 0), (88, .aload_n 0, 1, 0, 0, 0), (89, .getfield 49, 3, 0, 6, 0), (92, .aload_n 0, 1, 0, 0, 0), (93, .getfield 19, 3, 0, 2, 0), (96, .invokespecial 55, 3, 997, 6, 2), (99, .putfield 58, 3, 0, 7, 0), (102, .aload_n 0, 1, 0, 0, 0), (103, .iconst 4, 1, 0, 0, 0), (104, .anewarray 62, 3, 6, 0, 0), (107, .putfield 64, 3, 0, 8, 0), (110, .aload_n 0, 1, 0, 0, 0), (111, .iconst 0, 1, 0, 0, 0), (112, .putfield 68, 3, 0, 9, 0), (115, .iconst 0, 1, 0, 0, 0), (116, .istore_n 1, 1, 0, 0, 0), (117, .iload_n 1, 1, 0, 0, 0), (118, .iconst 4, 1, 0, 0, 0), (119, .if_icmp .ge (35), 3, 0, 0, 0), (122, .aload_n 0, 1, 0, 0, 0), (123, .getfield 11, 3, 0, 0, 0), (126, .iload_n 1, 1, 0, 0, 0), (127, .new 9, 3, 1, 0, 0), (130, .dup, 1, 0, 0, 0), (131, .invokespecial 18, 3, 997, 1, 0), (134, .aastore, 1, 0, 0, 0), (135, .aload_n 0, 1, 0, 0, 0), (136, .getfield 15, 3, 0, 1, 0), (139, .iload_n 1, 1, 0, 0, 0), (140, .new 9, 3, 1, 0, 0), (143, .dup, 1, 0, 0, 0), (144, .invokespecial 18, 3, 997, 1, 0), (147, .aastore, 1, 0, 0, 0), (148, .iinc 1 (1), 3, 0, 0, 0), (151, .goto (-34), 3, 0, 0, 0), (154, .iconst 0, 1, 0, 0, 0), (155, .istore_n 1, 1, 0, 0, 0), (156, .iload_n 1, 1, 0, 0, 0), (157, .iconst 4, 1, 0, 0, 0), (158, .if_icmp .ge (22), 3, 0, 0, 0), (161, .aload_n 0, 1, 0, 0, 0), (162, .getfield 64, 3, 0, 8, 0), (165, .iload_n 1, 1, 0, 0, 0), (166, .new 62, 3, 7, 0, 0), (169, .dup, 1, 0, 0, 0), (170, .invokespecial 72, 3, 997, 7, 0), (173, .aastore, 1, 0, 0, 0), (174, .iinc 1 (1), 3, 0, 0, 0), (177, .goto (-21), 3, 0, 0, 0), (180, .return_, 1, 0, 0, 0)]
def cc_k1 : List mm_E := [(0, .aload_n 0, 1, 0, 0, 0), (1, .invokespecial 3, 3, 998, 0, 0), (4, .aload_n 0, 1, 0, 0, 0), (5, .iconst 0, 1, 0, 0, 0), (6, .putfield 9, 3, 1, 0, 0), (9, .aload_n 0, 1, 0, 0, 0), (10, .bipush (12), 2, 0, 0, 0), (12, .newarray .int, 2, 1, 0, 0), (14, .putfield 15, 3, 1, 1, 0), (17, .aload_n 0, 1, 0, 0, 0), (18, .bipush (12), 2, 0, 0, 0), (20, .newarray .int, 2, 1, 0, 0), (22, .putfield 19, 3, 1, 2, 0), (25, .aload_n 0, 1, 0, 0, 0), (26, .bipush (12), 2, 0, 0, 0), (28, .newarray .int, 2, 1, 0, 0), (30, .putfield 22, 3, 1, 3, 0), (33, .aload_n 0, 1, 0, 0, 0), (34, .sipush (144), 3, 0, 0, 0), (37, .newarray .int, 2, 1, 0, 0), (39, .putfield 25, 3, 1, 4, 0), (42, .return_, 1, 0, 0, 0)]
def cc_k2 : List mm_E := [(0, .aload_n 0, 1, 0, 0, 0), (1, .invokespecial 3, 3, 998, 0, 0), (4, .aload_n 0, 1, 0, 0, 0), (5, .iconst 0, 1, 0, 0, 0), (6, .putfield 9, 3, 2, 1, 0), (9, .aload_n 0, 1, 0, 0, 0), (10, .iconst 2, 1, 0, 0, 0), (11, .putfield 15, 3, 2, 2, 0), (14, .aload_n 0, 1, 0, 0, 0), (15, .bipush (12), 2, 0, 0, 0), (17, .newarray .int, 2, 1, 0, 0), (19, .putfield 18, 3, 2, 3, 0), (22, .aload_n 0, 1, 0, 0, 0), (23, .sipush (144), 3, 0, 0, 0), (26, .newarray .int, 2, 1, 0, 0), (28, .putfield 22, 3, 2, 4, 0), (31, .aload_n 0, 1, 0, 0, 0), (32, .bipush (12), 2, 0, 0, 0), (34, .newarray .int, 2, 1, 0, 0), (36, .putfield 25, 3, 2, 5, 0), (39, .aload_n 0, 1, 0, 0, 0), (40, .bipush (12), 2, 0, 0, 0), (42, .newarray .int, 2, 1, 0, 0), (44, .putfield 28, 3, 2, 6, 0), (47, .aload_n 0, 1, 0, 0, 0), (48, .aload_n 1, 1, 0, 0, 0), (49, .putfield 31, 3, 2, 0, 0), (52, .return_, 1, 0, 0, 0)]
def cc_k3 : List mm_E := [(0, .aload_n 0, 1, 0, 0, 0), (1, .invokespecial 3, 3, 998, 0, 0), (4, .aload_n 0, 1, 0, 0, 0), (5, .iconst 0, 1, 0, 0, 0), (6, .putfield 9, 3, 3, 1, 0), (9, .aload_n 0, 1, 0, 0, 0), (10, .iconst (-1), 1, 0, 0, 0), (11, .putfield 15, 3, 3, 2, 0), (14, .aload_n 0, 1, 0, 0, 0), (15, .bipush (12), 2, 0, 0, 0), (17, .newarray .int, 2, 1, 0, 0), (19, .putfield 18, 3, 3, 3, 0), (22, .aload_n 0, 1, 0, 0, 0), (23, .bipush (12), 2, 0, 0, 0), (25, .newarray .int, 2, 1, 0, 0), (27, .putfield 22, 3, 3, 4, 0), (30, .aload_n 0, 1, 0, 0, 0), (31, .iconst 0, 1, 0, 0, 0), (32, .putfield 25, 3, 3, 5, 0), (35, .aload_n 0, 1, 0, 0, 0), (36, .iconst 0, 1, 0, 0, 0), (37, .putfield 28, 3, 3, 6, 0), (40, .aload_n 0, 1, 0, 0, 0), (41, .sipush (4096), 3, 0, 0, 0), (44, .newarray .int, 2, 1, 0, 0), (46, .putfield 31, 3, 3, 7, 0), (49, .aload_n 0, 1, 0, 0, 0), (50, .bipush (13), 2, 0, 0, 0), (52, .newarray .int, 2, 1, 0, 0), (54, .putfield 34, 3, 3, 8, 0), (57, .aload_n 0, 1, 0, 0, 0), (58, .iconst 0, 1, 0, 0, 0), (59, .putfield 37, 3, 3, 9, 0), (62, .aload_n 0, 1, 0, 0, 0), (63, .aload_n 1, 1, 0, 0, 0), (64, .putfield 40, 3, 3, 0, 0), (67, .return_, 1, 0, 0, 0)]
def cc_k4 : List mm_E := [(0, .aload_n 0, 1, 0, 0, 0), (1, .invokespecial 1, 3, 998, 0, 0), (4, .aload_n 0, 1, 0, 0, 0), (5, .iconst 0, 1, 0, 0, 0), (6, .putfield 7, 3, 4, 0, 0), (9, .aload_n 0, 1, 0, 0, 0), (10, .iconst 0, 1, 0, 0, 0), (11, .putfield 13, 3, 4, 1, 0), (14, .aload_n 0, 1, 0, 0, 0), (15, .iconst 0, 1, 0, 0, 0), (16, .putfield 16, 3, 4, 2, 0), (19, .aload_n 0, 1, 0, 0, 0), (20, .aconst_null, 1, 0, 0, 0), (21, .putfield 19, 3, 4, 3, 0), (24, .aload_n 0, 1, 0, 0, 0), (25, .iconst 0, 1, 0, 0, 0), (26, .putfield 23, 3, 4, 4, 0), (29, .aload_n 0, 1, 0, 0, 0), (30, .iconst 0, 1, 0, 0, 0), (31, .putfield 26, 3, 4, 5, 0), (34, .aload_n 0, 1, 0, 0, 0), (35, .iconst 0, 1, 0, 0, 0), (36, .putfield 29, 3, 4, 6, 0), (39, .return_, 1, 0, 0, 0)]
def cc_k5 : List mm_E := [(0, .aload_n 0, 1, 0, 0, 0), (1, .invokespecial 3, 3, 998, 0, 0), (4, .aload_n 0, 1, 0, 0, 0), (5, .iconst 0, 1, 0, 0, 0), (6, .putfield 9, 3, 5, 0, 0), (9, .aload_n 0, 1, 0, 0, 0), (10, .sipush (200), 3, 0, 0, 0), (13, .newarray .byte, 2, 3, 0, 0), (15, .putfield 15, 3, 5, 1, 0), (18, .return_, 1, 0, 0, 0)]
def cc_k6 : List mm_E := [(0, .aload_n 0, 1, 0, 0, 0), (1, .invokespecial 3, 3, 998, 0, 0), (4, .aload_n 0, 1, 0, 0, 0), (5, .iconst 0, 1, 0, 0, 0), (6, .putfield 9, 3, 6, 2, 0), (9, .aload_n 0, 1, 0, 0, 0), (10, .iconst (-1), 1, 0, 0, 0), (11, .putfield 15, 3, 6, 3, 0), (14, .aload_n 0, 1, 0, 0, 0), (15, .iconst 0, 1, 0, 0, 0), (16, .putfield 18, 3, 6, 4, 0), (19, .aload_n 0, 1, 0, 0, 0), (20, .iconst 0, 1, 0, 0, 0), (21, .putfield 21, 3, 6, 5, 0), (24, .aload_n 0, 1, 0, 0, 0), (25, .iconst 0, 1, 0, 0, 0), (26, .putfield 24, 3, 6, 6, 0), (29, .aload_n 0, 1, 0, 0, 0), (30, .aload_n 1, 1, 0, 0, 0), (31, .putfield 27, 3, 6, 0, 0), (34, .aload_n 0, 1, 0, 0, 0), (35, .aload_n 2, 1, 0, 0, 0), (36, .putfield 31, 3, 6, 1, 0), (39, .return_, 1, 0, 0, 0)]
def cc_k7 : List mm_E := [(0, .aload_n 0, 1, 0, 0, 0), (1, .invokespecial 3, 3, 998, 0, 0), (4, .aload_n 0, 1, 0, 0, 0), (5, .iconst (-1), 1, 0, 0, 0), (6, .putfield 9, 3, 7, 0, 0), (9, .aload_n 0, 1, 0, 0, 0), (10, .iconst 0, 1, 0, 0, 0), (11, .putfield 15, 3, 7, 1, 0), (14, .aload_n 0, 1, 0, 0, 0), (15, .bipush (40), 2, 0, 0, 0), (17, .newarray .long, 2, 2, 0, 0), (19, .putfield 18, 3, 7, 2, 0), (22, .return_, 1, 0, 0, 0)]
def cc_k8 : List mm_E := [(0, .aload_n 0, 1, 0, 0, 0), (1, .invokespecial 1, 3, 998, 0, 0), (4, .aload_n 0, 1, 0, 0, 0), (5, .iconst 5, 1, 0, 0, 0), (6, .newarray .int, 2, 1, 0, 0), (8, .putfield 7, 3, 8, 0, 0), (11, .aload_n 0, 1, 0, 0, 0), (12, .bipush (60), 2, 0, 0, 0), (14, .newarray .int, 2, 1, 0, 0), (16, .putfield 13, 3, 8, 1, 0), (19, .aload_n 0, 1, 0, 0, 0), (20, .bipush (120), 2, 0, 0, 0), (22, .newarray .int, 2, 1, 0, 0), (24, .putfield 16, 3, 8, 2, 0), (27, .aload_n 0, 1, 0, 0, 0), (28, .sipush (720), 3, 0, 0, 0), (31, .newarray .int, 2, 1, 0, 0), (33, .putfield 19, 3, 8, 3, 0), (36, .aload_n 0, 1, 0, 0, 0), (37, .iconst 4, 1, 0, 0, 0), (38, .newarray .int, 2, 1, 0, 0), (40, .putfield 22, 3, 8, 4, 0), (43, .aload_n 0, 1, 0, 0, 0), (44, .bipush (48), 2, 0, 0, 0), (46, .newarray .int, 2, 1, 0, 0), (48, .putfield 25, 3, 8, 5, 0), (51, .aload_n 0, 1, 0, 0, 0), (52, .bipush (96), 2, 0, 0, 0), (54, .newarray .int, 2, 1, 0, 0), (56, .putfield 28, 3, 8, 6, 0), (59, .aload_n 0, 1, 0, 0, 0), (60, .sipush (576), 3, 0, 0, 0), (63, .newarray .int, 2, 1, 0, 0), (65, .putfield 31, 3, 8, 7, 0), (68, .aload_n 0, 1, 0, 0, 0), (69, .sipush (144), 3, 0, 0, 0), (72, .newarray .int, 2, 1, 0, 0), (74, .putfield 34, 3, 8, 12, 0), (77, .aload_n 0, 1, 0, 0, 0), (78, .bipush (12), 2, 0, 0, 0), (80, .newarray .int, 2, 1, 0, 0), (82, .putfield 37, 3, 8, 13, 0), (85, .aload_n 0, 1, 0, 0, 0), (86, .bipush (12), 2, 0, 0, 0), (88, .newarray .int, 2, 1, 0, 0), (90, .putfield 40, 3, 8, 14, 0), (93, .aload_n 0, 1, 0, 0, 0), (94, .sipush (144), 3, 0, 0, 0), (97, .newarray .long, 2, 2, 0, 0), (99, .putfield 43, 3, 8, 15, 0), (102, .aload_n 0, 1, 0, 0, 0), (103, .bipush (12), 2, 0, 0, 0), (105, .newarray .long, 2, 2, 0, 0), (107, .putfield 47, 3, 8, 16, 0), (110, .aload_n 0, 1, 0, 0, 0), (111, .sipush (200), 3, 0, 0, 0), (114, .newarray .int, 2, 1, 0, 0), (116, .putfield 50, 3, 8, 20, 0), (119, .aload_n 0, 1, 0, 0, 0), (120, .bipush (12), 2, 0, 0, 0), (122, .newarray .boolean, 2, 4, 0, 0), (124, .putfield 53, 3, 8, 25, 0), (127, .aload_n 0, 1, 0, 0, 0), (128, .iconst 4, 1, 0, 0, 0), (129, .newarray .int, 2, 1, 0, 0), (131, .dup, 1, 0, 0, 0), (132, .iconst 0, 1, 0, 0, 0), (133, .iconst (-1), 1, 0, 0, 0), (134, .iastore, 1, 0, 0, 0), (135, .dup, 1, 0, 0, 0), (136, .iconst 1, 1, 0, 0, 0), (137, .iconst (-1), 1, 0, 0, 0), (138, .iastore, 1, 0, 0, 0), (139, .dup, 1, 0, 0, 0), (140, .iconst 2, 1, 0, 0, 0), (141, .iconst (-1), 1, 0, 0, 0), (142, .iastore, 1, 0, 0, 0), (143, .dup, 1, 0, 0, 0), (144, .iconst 3, 1, 0, 0, 0), (145, .iconst (-1), 1, 0, 0, 0), (146, .iastore, 1, 0, 0, 0), (147, .putfield 57, 3, 8, 26, 0), (150, .aload_n 0, 1, 0, 0, 0), (151, .iconst 4, 1, 0, 0, 0), (152, .newarray .int, 2, 1, 0, 0), (154, .putfield 60, 3, 8, 27, 0), (157, .aload_n 0, 1, 0, 0, 0), (158, .sipush (160), 3, 0, 0, 0), (161, .newarray .long, 2, 2, 0, 0), (163, .putfield 63, 3, 8, 28, 0), (166, .aload_n 0, 1, 0, 0, 0), (167, .bipush (40), 2, 0, 0, 0), (169, .newarray .long, 2, 2, 0, 0), (171, .putfield 66, 3, 8, 29, 0), (174, .return_, 1, 0, 0, 0)]
def cc_kL : List mm_E := [(0, .new 7, 3, 0, 0, 0), (3, .dup, 1, 0, 0, 0), (4, .invokespecial 9, 3, 997, 0, 0), (7, .astore_n 1, 1, 0, 0, 0), (8, .new 10, 3, 8, 0, 0), (11, .dup, 1, 0, 0, 0), (12, .invokespecial 12, 3, 997, 8, 0), (15, .astore_n 2, 1, 0, 0, 0)]
def cc_T (n : Nat) : List mm_E × Nat := ([(cc_k0, 2), (cc_k1, 1), (cc_k2, 2), (cc_k3, 2), (cc_k4, 1), (cc_k5, 1), (cc_k6, 3), (cc_k7, 1), (cc_k8, 1)] : List (List mm_E × Nat)).getD n ([], 0)
abbrev cc_Hd : Type := MethodName × ByteArray × Nat × Nat × Nat × Nat
def cc_hds : List cc_Hd := [(⟨"PagesByLevels", "<init>", "()V"⟩, prog_1_method_1_code, 2, 2, 43, 0), (⟨"PagesByLevels$Complex", "<init>", "()V"⟩, prog_2_method_1_code, 1, 1, 21, 0), (⟨"PagesByLevels$Reduction", "<init>", "(LPagesByLevels$Complex;)V"⟩, prog_4_method_1_code, 2, 1, 21, 1), (⟨"PagesByLevels$WholeNumbers", "<init>", "(LPagesByLevels$Complex;)V"⟩, prog_8_method_1_code, 2, 1, 21, 1), (⟨"PagesByLevels$Trials", "<init>", "()V"⟩, prog_7_method_1_code, 1, 1, 21, 0), (⟨"PagesByLevels$Tape", "<init>", "()V"⟩, prog_6_method_1_code, 1, 1, 21, 0), (⟨"PagesByLevels$Reader", "<init>", "(LPagesByLevels$Tape;LPagesByLevels$Complex;)V"⟩, prog_3_method_1_code, 3, 1, 21, 2), (⟨"PagesByLevels$Sheet", "<init>", "()V"⟩, prog_5_method_1_code, 1, 1, 21, 0), (⟨"PagesByLevelsModel", "<init>", "()V"⟩, prog_10_method_1_code, 1, 1, 21, 0)]
def cc_hd (n : Nat) : cc_Hd := cc_hds.getD n (⟨"", "", ""⟩, ⟨#[]⟩, 0, 0, 0, 0)
def cc_hps : List (Nat × Nat × Nat) := [(60, 43, 59), (69, 44, 68), (96, 45, 95), (124, 46, 123), (161, 47, 160), (192, 48, 191), (208, 49, 207), (237, 50, 236), (771, 51, 770)]
def cc_ln : List (Nat × Nat × Nat × Nat × Nat × Nat) := [(0, 9, 1, 64, 66, 44), (0, 23, 2, 92, 93, 45), (0, 32, 3, 120, 121, 46), (0, 39, 4, 157, 158, 47), (0, 46, 5, 188, 189, 48), (0, 53, 6, 204, 205, 49), (0, 62, 7, 232, 234, 50), (13, 7, 0, 56, 57, 43), (13, 10, 8, 767, 768, 51)]
def cc_la : List (Nat × Nat × Nat × Nat) := [(0, 9, 5, 64), (0, 9, 5, 64), (0, 62, 6, 232)]
def cc_lf : List (Nat × Nat × Nat × Nat × Nat) := [(0, 11, 0, 0, 251), (0, 15, 0, 1, 252), (0, 19, 0, 2, 253), (0, 28, 0, 3, 254), (0, 35, 0, 4, 255), (0, 42, 0, 5, 256), (0, 49, 0, 6, 257), (0, 58, 0, 7, 258), (0, 64, 0, 8, 259), (0, 68, 0, 9, 260), (1, 9, 1, 0, 71), (1, 15, 1, 1, 76), (1, 19, 1, 2, 77), (1, 22, 1, 3, 78), (1, 25, 1, 4, 79), (2, 9, 2, 1, 99), (2, 15, 2, 2, 100), (2, 18, 2, 3, 101), (2, 22, 2, 4, 102), (2, 25, 2, 5, 103), (2, 28, 2, 6, 104), (2, 31, 2, 0, 98), (3, 9, 3, 1, 127), (3, 15, 3, 2, 128), (3, 18, 3, 3, 129), (3, 22, 3, 4, 130), (3, 25, 3, 5, 131), (3, 28, 3, 6, 132), (3, 31, 3, 7, 133), (3, 34, 3, 8, 134), (3, 37, 3, 9, 135), (3, 40, 3, 0, 126), (4, 7, 4, 0, 163), (4, 13, 4, 1, 165), (4, 16, 4, 2, 167), (4, 19, 4, 3, 169), (4, 23, 4, 4, 170), (4, 26, 4, 5, 171), (4, 29, 4, 6, 172), (5, 9, 5, 0, 194), (5, 15, 5, 1, 197), (6, 9, 6, 2, 212), (6, 15, 6, 3, 213), (6, 18, 6, 4, 214), (6, 21, 6, 5, 215), (6, 24, 6, 6, 216), (6, 27, 6, 0, 210), (6, 31, 6, 1, 211), (7, 9, 7, 0, 239), (7, 15, 7, 1, 241), (7, 18, 7, 2, 242), (8, 7, 8, 0, 773), (8, 13, 8, 1, 774), (8, 16, 8, 2, 775), (8, 19, 8, 3, 776), (8, 22, 8, 4, 777), (8, 25, 8, 5, 778), (8, 28, 8, 6, 779), (8, 31, 8, 7, 780), (8, 34, 8, 12, 785), (8, 37, 8, 13, 786), (8, 40, 8, 14, 787), (8, 43, 8, 15, 788), (8, 47, 8, 16, 789), (8, 50, 8, 20, 793), (8, 53, 8, 25, 798), (8, 57, 8, 26, 799), (8, 60, 8, 27, 800), (8, 63, 8, 28, 801), (8, 66, 8, 29, 802)]
def cc_lo : List (Nat × Nat × Nat) := [(0, 1, 61), (1, 3, 70), (2, 3, 97), (3, 3, 125), (4, 1, 162), (5, 3, 193), (6, 3, 209), (7, 3, 238), (8, 1, 772)]
def cc_lk : List (Nat × Nat × Nat × Nat) := [(0, 18, 1, 67), (0, 25, 2, 94), (0, 34, 3, 122), (0, 41, 4, 159), (0, 48, 5, 190), (0, 55, 6, 206), (0, 72, 7, 235), (13, 9, 0, 58), (13, 12, 8, 769)]
theorem cc_ln_ok : ∀ q ∈ cc_ln, Cond.classLink (mm_cn q.1) q.2.1 (mm_cn q.2.2.1) ∈ wA ∧ Cond.instantiable (mm_cn q.2.2.1) (mm_nf q.2.2.1) ∈ wA ∧ Cond.initialized (mm_cn q.2.2.1) ∈ wA := by
  have h : cc_ln.all (fun q => mm_wat q.2.2.2.1 (.classLink (mm_cn q.1) q.2.1 (mm_cn q.2.2.1)) && (mm_wat q.2.2.2.2.1 (.instantiable (mm_cn q.2.2.1) (mm_nf q.2.2.1)) && mm_wat q.2.2.2.2.2 (.initialized (mm_cn q.2.2.1)))) = true := by decide +kernel
  intro q hq
  have h1 := List.all_eq_true.mp h q hq
  rw [Bool.and_eq_true, Bool.and_eq_true] at h1
  exact ⟨mm_wat_ok h1.1, mm_wat_ok h1.2.1, mm_wat_ok h1.2.2⟩
def cc_oc (r1 : Nat) : String := if r1 = 5 then "PagesByLevels$Complex" else "PagesByLevels$Sheet"
theorem cc_la_ok : ∀ q ∈ cc_la, Cond.classLink (mm_cn q.1) q.2.1 (cc_oc q.2.2.1) ∈ wA := by
  have h : cc_la.all (fun q => mm_wat q.2.2.2 (.classLink (mm_cn q.1) q.2.1 (cc_oc q.2.2.1))) = true := by decide +kernel
  exact fun q hq => mm_wat_ok (List.all_eq_true.mp h q hq)
theorem cc_lf_ok : ∀ q ∈ cc_lf, mm_lfw q ∈ wA ∧ q.2.2.1 < 9 ∧ q.2.2.2.1 < mm_nf q.2.2.1 := by
  have h : cc_lf.all (fun q => mm_wat q.2.2.2.2 (mm_lfw q) && (decide (q.2.2.1 < 9) && decide (q.2.2.2.1 < mm_nf q.2.2.1))) = true := by decide +kernel
  intro q hq
  have h1 := List.all_eq_true.mp h q hq
  rw [Bool.and_eq_true, Bool.and_eq_true, decide_eq_true_eq, decide_eq_true_eq] at h1
  exact ⟨mm_wat_ok h1.1, h1.2⟩
theorem cc_lo_ok : ∀ q ∈ cc_lo, Cond.methodLink (mm_cn q.1) q.2.1 Lib.objectInit ∈ wA := by
  have h : cc_lo.all (fun q => mm_wat q.2.2 (.methodLink (mm_cn q.1) q.2.1 Lib.objectInit)) = true := by decide +kernel
  exact fun q hq => mm_wat_ok (List.all_eq_true.mp h q hq)
theorem cc_obj : Cond.instanceMethod Lib.objectInit ∈ wA ∧ Cond.code Lib.objectInit ⟨#[0xb1]⟩ 1 none ∈ wA := ⟨mm_wat_ok (i := 62) (by decide +kernel), wA_of (i := 63) rfl rfl⟩
theorem cc_arr : Cond.arrayClass .int ∈ wA ∧ Cond.arrayClass .byte ∈ wA ∧ Cond.arrayClass .long ∈ wA ∧ Cond.arrayClass .boolean ∈ wA := ⟨mm_wat_ok (i := 91) (by decide +kernel), mm_wat_ok (i := 203) (by decide +kernel), mm_wat_ok (i := 250) (by decide +kernel), mm_wat_ok (i := 864) (by decide +kernel)⟩
theorem cc_lk_ok : ∀ q ∈ cc_lk, Cond.methodLink (mm_cn q.1) q.2.1 (cc_hd q.2.2.1).1 ∈ wA ∧ q.2.2.1 < 9 := by
  have h : cc_lk.all (fun q => mm_wat q.2.2.2 (.methodLink (mm_cn q.1) q.2.1 (cc_hd q.2.2.1).1) && decide (q.2.2.1 < 9)) = true := by decide +kernel
  intro q hq
  have h1 := List.all_eq_true.mp h q hq
  rw [Bool.and_eq_true, decide_eq_true_eq] at h1
  exact ⟨mm_wat_ok h1.1, h1.2⟩
def cc_cw (q : cc_Hd) : Cond := .code q.1 q.2.1 q.2.2.1 none
set_option maxRecDepth 200000 in
theorem cc_cw0 : cc_cw (cc_hd 0) ∈ wA := wA_of (i := 60) rfl rfl
set_option maxRecDepth 200000 in
theorem cc_cw1 : cc_cw (cc_hd 1) ∈ wA := wA_of (i := 69) rfl rfl
set_option maxRecDepth 200000 in
theorem cc_cw2 : cc_cw (cc_hd 2) ∈ wA := wA_of (i := 96) rfl rfl
set_option maxRecDepth 200000 in
theorem cc_cw3 : cc_cw (cc_hd 3) ∈ wA := wA_of (i := 124) rfl rfl
set_option maxRecDepth 200000 in
theorem cc_cw4 : cc_cw (cc_hd 4) ∈ wA := wA_of (i := 161) rfl rfl
set_option maxRecDepth 200000 in
theorem cc_cw5 : cc_cw (cc_hd 5) ∈ wA := wA_of (i := 192) rfl rfl
set_option maxRecDepth 200000 in
theorem cc_cw6 : cc_cw (cc_hd 6) ∈ wA := wA_of (i := 208) rfl rfl
set_option maxRecDepth 200000 in
theorem cc_cw7 : cc_cw (cc_hd 7) ∈ wA := wA_of (i := 237) rfl rfl
set_option maxRecDepth 200000 in
theorem cc_cw8 : cc_cw (cc_hd 8) ∈ wA := wA_of (i := 771) rfl rfl
theorem cc_cw_ok : ∀ ci, ci < 9 → cc_cw (cc_hd ci) ∈ wA := by
  intro ci h
  match ci, h with
  | 0, _ => exact cc_cw0
  | 1, _ => exact cc_cw1
  | 2, _ => exact cc_cw2
  | 3, _ => exact cc_cw3
  | 4, _ => exact cc_cw4
  | 5, _ => exact cc_cw5
  | 6, _ => exact cc_cw6
  | 7, _ => exact cc_cw7
  | 8, _ => exact cc_cw8
  | n + 9, h => exact absurd h (by omega)
theorem cc_hd_ok : ∀ ci, ci < 9 → Cond.initialized (cc_hd ci).1.cls ∈ wA ∧ Cond.instanceMethod (cc_hd ci).1 ∈ wA ∧ (cc_hd ci).1.cls = mm_cn ci ∧ (cc_hd ci).1.name = "<init>" ∧ ((cc_hd ci).1.cls ≠ "java/lang/invoke/MethodHandle" ∧ (cc_hd ci).1.cls ≠ "java/lang/invoke/VarHandle" ∧ (parseMethodDescriptor (cc_hd ci).1.desc).map (fun d => d.parameters.length) = some (cc_hd ci).2.2.2.2.2) ∧ plainFor (cc_hd ci).1 = true ∧ (cc_T ci).2 = (cc_hd ci).2.2.1 := by
  have h : (List.range 9).all (fun ci => mm_wat (cc_hps.getD ci (0, 0, 0)).2.1 (.initialized (cc_hd ci).1.cls) && (mm_wat (cc_hps.getD ci (0, 0, 0)).2.2 (.instanceMethod (cc_hd ci).1) && decide ((cc_hd ci).1.cls = mm_cn ci ∧ (cc_hd ci).1.name = "<init>" ∧ ((cc_hd ci).1.cls ≠ "java/lang/invoke/MethodHandle" ∧ (cc_hd ci).1.cls ≠ "java/lang/invoke/VarHandle" ∧ (parseMethodDescriptor (cc_hd ci).1.desc).map (fun d => d.parameters.length) = some (cc_hd ci).2.2.2.2.2) ∧ plainFor (cc_hd ci).1 = true ∧ (cc_T ci).2 = (cc_hd ci).2.2.1))) = true := by decide +kernel
  intro ci hci
  have h1 := List.all_eq_true.mp h ci (List.mem_range.mpr hci)
  rw [Bool.and_eq_true, Bool.and_eq_true, decide_eq_true_eq] at h1
  exact ⟨mm_wat_ok h1.1, mm_wat_ok h1.2.1, h1.2.2⟩
def cc_tc (t : ArrayType) : Nat := match t with
  | .int => 1
  | .long => 2
  | .byte => 3
  | .boolean => 4
  | _ => 0
/-- an instruction's words and room: own its class, fr and lo its room -/
def cc_iok (own fr lo : Nat) (e : mm_E) : Bool := match e.2.1 with
  | .iconst n => decide (-1 ≤ n ∧ n ≤ 5)
  | .bipush n => decide (-128 ≤ n ∧ n < 128)
  | .sipush n => decide (-32768 ≤ n ∧ n < 32768)
  | .goto off => decide (0 ≤ (e.1 : Int) + off)
  | .if_icmp _ off => decide (0 ≤ (e.1 : Int) + off)
  | .new idx => cc_ln.any fun q => decide (q.1 = own ∧ q.2.1 = idx ∧ q.2.2.1 = e.2.2.2.1)
  | .newarray t => decide (cc_tc t = e.2.2.2.1)
  | .anewarray idx => cc_la.any fun q => decide (q.1 = own ∧ q.2.1 = idx ∧ q.2.2.1 = e.2.2.2.1)
  | .getfield idx => cc_lf.any fun q => decide (q.1 = own ∧ q.2.1 = idx ∧ q.2.2.1 = e.2.2.2.1 ∧ q.2.2.2.1 = e.2.2.2.2.1)
  | .putfield idx => decide (own = e.2.2.2.1) && cc_lf.any fun q => decide (q.1 = own ∧ q.2.1 = idx ∧ q.2.2.1 = e.2.2.2.1 ∧ q.2.2.2.1 = e.2.2.2.2.1)
  | .invokespecial idx => if e.2.2.2.1 = 998 then cc_lo.any (fun q => decide (q.1 = own ∧ q.2.1 = idx)) && decide (1 ≤ fr ∧ 20 ≤ lo) else
      cc_lk.any (fun q => decide (q.1 = own ∧ q.2.1 = idx ∧ q.2.2.1 = e.2.2.2.2.1)) && decide (e.2.2.2.2.2 = ((cc_hd e.2.2.2.2.1).2.2.2.2.2 : Int) ∧ (cc_hd e.2.2.2.2.1).2.2.2.1 + 1 ≤ fr ∧ 8 + ((cc_hd e.2.2.2.2.1).2.2.1 + 11) + (cc_hd e.2.2.2.2.1).2.2.2.2.1 ≤ lo)
  | _ => true
def cc_il : Instr → Nat
  | .new _ | .anewarray _ | .invokespecial _ => 3
  | .newarray _ => 2
  | i => mm_il i
def cc_eok (own fr lo : Nat) (bytes : ByteArray) (e : mm_E) : Bool := decide (decode bytes e.1 = .ok (e.2.1, e.2.2.1)) && (decide (e.2.2.1 = cc_il e.2.1) && cc_iok own fr lo e)
theorem cc_ek0 : cc_k0.all (cc_eok 0 2 43 prog_1_method_1_code) = true := by decide +kernel
theorem cc_ek1 : cc_k1.all (cc_eok 1 1 21 prog_2_method_1_code) = true := by decide +kernel
theorem cc_ek2 : cc_k2.all (cc_eok 2 1 21 prog_4_method_1_code) = true := by decide +kernel
theorem cc_ek3 : cc_k3.all (cc_eok 3 1 21 prog_8_method_1_code) = true := by decide +kernel
theorem cc_ek4 : cc_k4.all (cc_eok 4 1 21 prog_7_method_1_code) = true := by decide +kernel
theorem cc_ek5 : cc_k5.all (cc_eok 5 1 21 prog_6_method_1_code) = true := by decide +kernel
theorem cc_ek6 : cc_k6.all (cc_eok 6 1 21 prog_3_method_1_code) = true := by decide +kernel
theorem cc_ek7 : cc_k7.all (cc_eok 7 1 21 prog_5_method_1_code) = true := by decide +kernel
theorem cc_ek8 : cc_k8.all (cc_eok 8 1 21 prog_10_method_1_code) = true := by decide +kernel
theorem cc_ek_all : ∀ ci, ci < 9 → (cc_T ci).1.all (cc_eok ci (cc_hd ci).2.2.2.1 (cc_hd ci).2.2.2.2.1 (cc_hd ci).2.1) = true := by
  intro ci h
  match ci, h with
  | 0, _ => exact cc_ek0
  | 1, _ => exact cc_ek1
  | 2, _ => exact cc_ek2
  | 3, _ => exact cc_ek3
  | 4, _ => exact cc_ek4
  | 5, _ => exact cc_ek5
  | 6, _ => exact cc_ek6
  | 7, _ => exact cc_ek7
  | 8, _ => exact cc_ek8
  | n + 9, h => exact absurd h (by omega)
theorem cc_ekL : cc_kL.all (cc_eok 13 9 346 code) = true := by decide +kernel
/-- the whole making, by calculation -/
def cc_end : Option (List mm_V × List cc_C) := cc_ex cc_T 16 400 cc_kL 0 [(2, 1000), (9, 0), (9, 0), (9, 0)] [] []
def cc_fin : List cc_C := [(0, 0, [1, 2, 3, 8, 13, 18, 19, 21, 22, 0]), (5, 0, [23, 33, 43, 53]), (5, 0, [28, 38, 48, 58]), (0, 1, [0, 4, 5, 6, 7]), (1, 0, List.replicate 12 0), (1, 0, List.replicate 12 0), (1, 0, List.replicate 12 0), (1, 0, List.replicate 144 0), (0, 2, [3, 0, 2, 9, 10, 11, 12]), (1, 0, List.replicate 12 0), (1, 0, List.replicate 144 0), (1, 0, List.replicate 12 0), (1, 0, List.replicate 12 0), (0, 3, [3, 0, (-1), 14, 15, 0, 0, 16, 17, 0]), (1, 0, List.replicate 12 0), (1, 0, List.replicate 12 0), (1, 0, List.replicate 4096 0), (1, 0, List.replicate 13 0), (0, 4, [0, 0, 0, (-1), 0, 0, 0]), (0, 5, [0, 20]), (3, 0, List.replicate 200 0), (0, 6, [19, 3, 0, (-1), 0, 0, 0]), (6, 0, [63, 65, 67, 69]), (0, 1, [0, 24, 25, 26, 27]), (1, 0, List.replicate 12 0), (1, 0, List.replicate 12 0), (1, 0, List.replicate 12 0), (1, 0, List.replicate 144 0), (0, 1, [0, 29, 30, 31, 32]), (1, 0, List.replicate 12 0), (1, 0, List.replicate 12 0), (1, 0, List.replicate 12 0), (1, 0, List.replicate 144 0), (0, 1, [0, 34, 35, 36, 37]), (1, 0, List.replicate 12 0), (1, 0, List.replicate 12 0), (1, 0, List.replicate 12 0), (1, 0, List.replicate 144 0), (0, 1, [0, 39, 40, 41, 42]), (1, 0, List.replicate 12 0), (1, 0, List.replicate 12 0), (1, 0, List.replicate 12 0), (1, 0, List.replicate 144 0), (0, 1, [0, 44, 45, 46, 47]), (1, 0, List.replicate 12 0), (1, 0, List.replicate 12 0), (1, 0, List.replicate 12 0), (1, 0, List.replicate 144 0), (0, 1, [0, 49, 50, 51, 52]), (1, 0, List.replicate 12 0), (1, 0, List.replicate 12 0), (1, 0, List.replicate 12 0), (1, 0, List.replicate 144 0), (0, 1, [0, 54, 55, 56, 57]), (1, 0, List.replicate 12 0), (1, 0, List.replicate 12 0), (1, 0, List.replicate 12 0), (1, 0, List.replicate 144 0), (0, 1, [0, 59, 60, 61, 62]), (1, 0, List.replicate 12 0), (1, 0, List.replicate 12 0), (1, 0, List.replicate 12 0), (1, 0, List.replicate 144 0), (0, 7, [(-1), 0, 64]), (2, 0, List.replicate 40 0), (0, 7, [(-1), 0, 66]), (2, 0, List.replicate 40 0), (0, 7, [(-1), 0, 68]), (2, 0, List.replicate 40 0), (0, 7, [(-1), 0, 70]), (2, 0, List.replicate 40 0), (0, 8, [72, 73, 74, 75, 76, 77, 78, 79, 0, 0, 0, 0, 80, 81, 82, 83, 84, 0, 0, 0, 85, 0, 0, 0, 0, 86, 87, 88, 89, 90]), (1, 0, [0, 0, 0, 0, 0]), (1, 0, List.replicate 60 0), (1, 0, List.replicate 120 0), (1, 0, List.replicate 720 0), (1, 0, [0, 0, 0, 0]), (1, 0, List.replicate 48 0), (1, 0, List.replicate 96 0), (1, 0, List.replicate 576 0), (1, 0, List.replicate 144 0), (1, 0, List.replicate 12 0), (1, 0, List.replicate 12 0), (2, 0, List.replicate 144 0), (2, 0, List.replicate 12 0), (1, 0, List.replicate 200 0), (4, 0, List.replicate 12 0), (1, 0, [(-1), (-1), (-1), (-1)]), (1, 0, [0, 0, 0, 0]), (2, 0, List.replicate 160 0), (2, 0, List.replicate 40 0)]
theorem cc_end_ok : cc_end = some ([(2, 1000), (2, 0), (2, 71), (9, 0)], cc_fin) := by decide +kernel
