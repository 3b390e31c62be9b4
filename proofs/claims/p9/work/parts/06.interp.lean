/-- the things, how many cells and slots were ever made -/
abbrev hm_G : Type := hm_H × Nat × Nat
/-- how a method ends: some r: it returns r; none: it throws -/
abbrev hm_Out : Type := Option (Option Value)
/-- an instruction: itself, its length, its group, its row in the tables -/
abbrev hm_O : Type := Instr × Nat × Nat × Nat
/-- a method: its name, the number of its class's name, its bytes, its places, what it returns, its instructions by pc, its handlers -/
abbrev hm_M : Type := MethodName × Nat × ByteArray × Nat × Option FieldType × List (Option hm_O) × List (Nat × Nat × Nat × Nat)
abbrev hm_My (M : hm_M) : MethodName := M.1
abbrev hm_Mo (M : hm_M) : Nat := M.2.1
abbrev hm_Mc (M : hm_M) : ByteArray := M.2.2.1
abbrev hm_Ml (M : hm_M) : Nat := M.2.2.2.1
abbrev hm_Mr (M : hm_M) : Option FieldType := M.2.2.2.2.1
abbrev hm_Mi (M : hm_M) : List (Option hm_O) := M.2.2.2.2.2.1
abbrev hm_Mh (M : hm_M) : List (Nat × Nat × Nat × Nat) := M.2.2.2.2.2.2
/-- the tables: each row begins with the number of the class whose pool it is, and the entry -/
abbrev hm_T : Type := List vw_C × (Nat → Nat → FieldType) × Nat × List (Nat × Nat × Nat × Nat) × List (Nat × Nat × Nat × String × String × String) × List (Nat × Nat × Nat) × List (Nat × Nat × String) × List (Nat × Nat) × List (Nat × Nat × Value) × List (Nat × Nat × String × Nat) × List (Nat × Nat × String × String × String × Value) × List (Nat × Nat × Nat × Nat × Nat × Nat) × List (Nat × Nat × Nat) × List (Nat × Nat × Nat)
abbrev hm_Tcl (G : hm_T) : List vw_C := G.1
abbrev hm_Tty (G : hm_T) : Nat → Nat → FieldType := G.2.1
abbrev hm_Tro (G : hm_T) : Nat := G.2.2.1
/-- fields of our objects: class, field -/
abbrev hm_Tf (G : hm_T) : List (Nat × Nat × Nat × Nat) := G.2.2.2.1
/-- fields of objects that are only read -/
abbrev hm_Tg (G : hm_T) : List (Nat × Nat × Nat × String × String × String) := G.2.2.2.2.1
/-- classes that are made -/
abbrev hm_Tn (G : hm_T) : List (Nat × Nat × Nat) := G.2.2.2.2.2.1
/-- arrays of objects -/
abbrev hm_Ta (G : hm_T) : List (Nat × Nat × String) := G.2.2.2.2.2.2.1
/-- arrays of arrays of ints -/
abbrev hm_Tm (G : hm_T) : List (Nat × Nat) := G.2.2.2.2.2.2.2.1
/-- numbers -/
abbrev hm_Tk (G : hm_T) : List (Nat × Nat × Value) := G.2.2.2.2.2.2.2.2.1
/-- texts: the text, its thing -/
abbrev hm_Ts (G : hm_T) : List (Nat × Nat × String × Nat) := G.2.2.2.2.2.2.2.2.2.1
/-- static fields -/
abbrev hm_Tz (G : hm_T) : List (Nat × Nat × String × String × String × Value) := G.2.2.2.2.2.2.2.2.2.2.1
/-- methods: how it is called (0 static, 1 virtual, 2 constructor, 3 constructor of a nest mate, 4 virtual of an object that is only read), its number, how many values it takes beside its object, the number of the object's class -/
abbrev hm_Tc (G : hm_T) : List (Nat × Nat × Nat × Nat × Nat × Nat) := G.2.2.2.2.2.2.2.2.2.2.2.1
/-- methods of the library that are rows of the kit: 0 Object(), 1 Math.max, 2 Math.min, 3 Math.min of longs, 4 arraycopy of ints or bytes -/
abbrev hm_Tl (G : hm_T) : List (Nat × Nat × Nat) := G.2.2.2.2.2.2.2.2.2.2.2.2.1
/-- 'throw new E()': the entries of new and of the constructor -/
abbrev hm_Tx (G : hm_T) : List (Nat × Nat × Nat) := G.2.2.2.2.2.2.2.2.2.2.2.2.2
/-- where a walk stands -/
abbrev hm_S : Type := Nat × List (Nat × Value) × List Value × hm_G
abbrev hm_R : Type := Option (hm_S ⊕ (hm_G × hm_Out))
def hm_pu (len : Nat) (g : hm_G) (r : Option (Nat × hm_P)) : hm_R := match r with
  | some q => if q.1 = len then some (.inl (q.2.1, q.2.2.1, q.2.2.2, g)) else none
  | none => none
/-- entries of rows of numbers -/
def hm_cpy (f t : List Value) (sp dp n : Nat) : List Value := (List.range t.length).map fun j => if dp ≤ j ∧ j < dp + n then f.getD (sp + (j - dp)) (.int 0) else t.getD j (.int 0)
/-- kinds of arrays whose numbers are copied -/
def hm_ib (ty : FieldType) : Bool := match ty with
  | .int => true
  | .byte => true
  | _ => false
def hm_allI (ty : FieldType) (l : List Value) : Bool := l.all fun v => match v with
  | .int x => fits ty (.int x)
  | _ => false
/-- a library's method -/
def hm_lib (nro which : Nat) (st : List Value) (h : hm_H) : Option (List Value × hm_H) := match which with
  | 0 => match st with
    | .ref _ :: r => some (r, h)
    | _ => none
  | 1 => match st with
    | .int y :: .int x :: r => some (.int (if x < y then y else x) :: r, h)
    | _ => none
  | 2 => match st with
    | .int y :: .int x :: r => some (.int (if y < x then y else x) :: r, h)
    | _ => none
  | 3 => match st with
    | .long y :: .long x :: r => some (.long (if y < x then y else x) :: r, h)
    | _ => none
  | 4 => match st with
    | .int n :: .int dp :: .ref t :: .int sp :: .ref f :: r => match h[f]?, h[t]? with
      | some (.inl a), some (.inl b) => if nro ≤ f ∧ nro ≤ t ∧ a.1 = b.1 ∧ hm_ib b.1 = true ∧ hm_allI b.1 a.2 = true ∧ True ∧ ¬ sp < 0 ∧ ¬ dp < 0 ∧ ¬ n < 0 ∧ sp.toNatClampNeg + n.toNatClampNeg ≤ a.2.length ∧ dp.toNatClampNeg + n.toNatClampNeg ≤ b.2.length then some (r, h.set t (.inl (b.1, hm_cpy a.2 b.2 sp.toNatClampNeg dp.toNatClampNeg n.toNatClampNeg))) else none
      | _, _ => none
    | _ => none
  | _ => none
/-- what the return instruction hands on -/
def hm_ret (i : Instr) (rt : Option FieldType) (st : List Value) : Option (Option Value) := match i, st with
  | .return_, [] => if rt = none then some none else none
  | .ireturn, [.int x] => match rt with
    | some ty => if narrow ty (.int x) = .int x then some (some (.int x)) else none
    | none => none
  | .lreturn, [.long x] => if rt = some .long then some (some (.long x)) else none
  | _, _ => none
/-- the first handler that covers pc -/
def hm_hand (pc : Nat) : List (Nat × Nat × Nat × Nat) → Option (Nat × Nat)
  | [] => none
  | x :: l => if x.1 ≤ pc ∧ pc < x.2.1 then some (x.2.2.1, x.2.2.2) else hm_hand pc l
/-- behind a call: the frame goes on at pc + 3, or the exception is caught, or goes on -/
def hm_back (M : hm_M) (pc : Nat) (lv : List (Nat × Value)) (rest : List Value) (r : Option (hm_G × hm_Out)) : hm_R := match r with
  | none => none
  | some (g, some v) => some (.inl (pc + 3, lv, v.toList ++ rest, g))
  | some (g, none) => match hm_Mh M with
    | [] => some (.inr (g, none))
    | [x] => if x.1 ≤ pc ∧ pc < x.2.1 then some (.inl (x.2.2.1, lv, [.retAddr 0], g)) else none
    | _ => none
/-- the number of an entry that an instruction names -/
def hm_ix (i : Instr) : Option Nat := match i with
  | .getfield k => some k
  | .putfield k => some k
  | .getstatic k => some k
  | .new k => some k
  | .anewarray k => some k
  | .ldc k => some k
  | .ldc_w k => some k
  | .ldc2_w k => some k
  | .invokevirtual k => some k
  | .invokespecial k => some k
  | .invokestatic k => some k
  | _ => none
/-- fields of our objects -/
def hm_dF (G : hm_T) (M : hm_M) (o : hm_O) (pc : Nat) (lv : List (Nat × Value)) (st : List Value) (g : hm_G) : hm_R := match (hm_Tf G)[o.2.2.2]? with
  | none => none
  | some x => if x.1 = hm_Mo M ∧ o.2.1 = 3 then match o.1 with
    | .getfield k => if k = x.2.1 then (hm_get g.1 x.2.2.1 x.2.2.2 st).map (fun st2 => .inl (pc + 3, lv, st2, g)) else none
    | .putfield k => match (hm_Tcl G)[x.2.2.1]? with
      | none => none
      | some q => if k = x.2.1 ∧ ((q.2.1 x.2.2.2).2.2.2 = false ∨ ((hm_My M).name = "<init>" ∧ (q.2.1 x.2.2.2).1 = (hm_My M).cls)) then (hm_put (hm_Tro G) g.1 x.2.2.1 x.2.2.2 (hm_Tty G x.2.2.1 x.2.2.2) st).map (fun r => .inl (pc + 3, lv, r.2, r.1, g.2)) else none
    | _ => none
    else none
/-- fields of objects that are only read -/
def hm_dG (G : hm_T) (M : hm_M) (o : hm_O) (pc : Nat) (lv : List (Nat × Value)) (st : List Value) (g : hm_G) : hm_R := match (hm_Tg G)[o.2.2.2]? with
  | none => none
  | some x => if x.1 = hm_Mo M ∧ o.2.1 = 3 ∧ o.1 = .getfield x.2.1 then (hm_getR g.1 x.2.2.1 x.2.2.2 st).map (fun st2 => .inl (pc + 3, lv, st2, g)) else none
/-- arrays -/
def hm_dA (G : hm_T) (o : hm_O) (pc : Nat) (lv : List (Nat × Value)) (st : List Value) (g : hm_G) : hm_R := if o.2.1 = 1 then match o.2.2.2 with
  | 0 => (hm_ald g.1 o.1 st).map (fun st2 => .inl (pc + 1, lv, st2, g))
  | 1 => (hm_ast (hm_Tro G) g.1 o.1 st).map (fun r => .inl (pc + 1, lv, r.2, r.1, g.2))
  | 2 => if o.1 = .arraylength then (hm_alen g.1 st).map (fun st2 => .inl (pc + 1, lv, st2, g)) else none
  | 3 => if o.1 = .aastore then (hm_astq (hm_Tcl G) (hm_Tro G) g.1 st).map (fun r => .inl (pc + 1, lv, r.2, r.1, g.2)) else none
  | _ => none
  else none
/-- new things -/
def hm_dN (G : hm_T) (M : hm_M) (o : hm_O) (pc : Nat) (lv : List (Nat × Value)) (st : List Value) (g : hm_G) : hm_R := match o.1 with
  | .new k => match (hm_Tn G)[o.2.2.2]? with
    | none => none
    | some x => match (hm_Tcl G)[x.2.2]? with
      | none => none
      | some q => if x.1 = hm_Mo M ∧ o.2.1 = 3 ∧ k = x.2.1 then some (.inl (pc + 3, lv, .ref g.1.length :: st, g.1 ++ [hm_new (hm_Tty G) x.2.2 q.2.2], g.2.1 + 1, g.2.2 + q.2.2)) else none
  | .newarray at9 => match st with
    | .int n :: r => if o.2.1 = 2 ∧ ¬ n < 0 ∧ n.toNatClampNeg * componentBytes (newarray.typeOf at9) ≤ 536870912 ∧ (newarray.typeOf at9 = .int ∨ newarray.typeOf at9 = .long ∨ newarray.typeOf at9 = .byte) then some (.inl (pc + 2, lv, .ref g.1.length :: r, g.1 ++ [hm_newa (newarray.typeOf at9) n.toNatClampNeg], g.2.1 + 1, g.2.2 + n.toNatClampNeg)) else none
    | _ => none
  | .anewarray k => match (hm_Ta G)[o.2.2.2]?, st with
    | some x, .int n :: r => if x.1 = hm_Mo M ∧ o.2.1 = 3 ∧ k = x.2.1 ∧ ¬ n < 0 ∧ n.toNatClampNeg * 4 ≤ 536870912 then some (.inl (pc + 3, lv, .ref g.1.length :: r, g.1 ++ [hm_newa (.object x.2.2) n.toNatClampNeg], g.2.1 + 1, g.2.2 + n.toNatClampNeg)) else none
    | _, _ => none
  | .multianewarray k 2 => match (hm_Tm G)[o.2.2.2]?, st with
    | some x, .int m :: .int n :: r => if x.1 = hm_Mo M ∧ o.2.1 = 4 ∧ k = x.2 ∧ ¬ n < 0 ∧ ¬ m < 0 ∧ n.toNatClampNeg * 4 ≤ 536870912 ∧ m.toNatClampNeg * 4 ≤ 536870912 then some (.inl (pc + 4, lv, .ref g.1.length :: r, g.1 ++ (.inl (.array .int, (List.range n.toNatClampNeg).map (fun j => .ref (g.1.length + 1 + j))) :: List.replicate n.toNatClampNeg (hm_newa .int m.toNatClampNeg)), g.2.1 + 1 + n.toNatClampNeg, g.2.2 + n.toNatClampNeg + n.toNatClampNeg * m.toNatClampNeg)) else none
    | _, _ => none
  | _ => none
/-- numbers of the pool -/
def hm_dK (G : hm_T) (M : hm_M) (o : hm_O) (pc : Nat) (lv : List (Nat × Value)) (st : List Value) (g : hm_G) : hm_R := match (hm_Tk G)[o.2.2.2]? with
  | none => none
  | some x => if x.1 = hm_Mo M then match x.2.2 with
    | .int v => if (o.1 = .ldc x.2.1 ∧ o.2.1 = 2) ∨ (o.1 = .ldc_w x.2.1 ∧ o.2.1 = 3) then some (.inl (pc + o.2.1, lv, .int v :: st, g)) else none
    | .long v => if o.1 = .ldc2_w x.2.1 ∧ o.2.1 = 3 then some (.inl (pc + 3, lv, .long v :: st, g)) else none
    | _ => none
    else none
/-- texts of the pool -/
def hm_dT (G : hm_T) (M : hm_M) (o : hm_O) (pc : Nat) (lv : List (Nat × Value)) (st : List Value) (g : hm_G) : hm_R := match (hm_Ts G)[o.2.2.2]? with
  | none => none
  | some x => if x.1 = hm_Mo M ∧ ((o.1 = .ldc x.2.1 ∧ o.2.1 = 2) ∨ (o.1 = .ldc_w x.2.1 ∧ o.2.1 = 3)) then some (.inl (pc + o.2.1, lv, .ref x.2.2.2 :: st, g)) else none
/-- static fields -/
def hm_dZ (G : hm_T) (M : hm_M) (o : hm_O) (pc : Nat) (lv : List (Nat × Value)) (st : List Value) (g : hm_G) : hm_R := match (hm_Tz G)[o.2.2.2]? with
  | none => none
  | some x => if x.1 = hm_Mo M ∧ o.1 = .getstatic x.2.1 ∧ o.2.1 = 3 then some (.inl (pc + 3, lv, x.2.2.2.2.2 :: st, g)) else none
/-- calls -/
def hm_dC (G : hm_T) (call : Nat → List Value → hm_G → Option (hm_G × hm_Out)) (M : hm_M) (o : hm_O) (pc : Nat) (lv : List (Nat × Value)) (st : List Value) (g : hm_G) : hm_R := match (hm_Tc G)[o.2.2.2]? with
  | none => none
  | some x => if x.1 = hm_Mo M ∧ o.2.1 = 3 ∧ x.2.2.2.2.1 ≤ st.length then match x.2.2.1 with
    | 0 => if o.1 = .invokestatic x.2.1 ∧ ((st.drop x.2.2.2.2.1).map fun v => v.category).sum ≤ 8 then hm_back M pc lv (st.drop x.2.2.2.2.1) (call x.2.2.2.1 (st.take x.2.2.2.2.1).reverse g) else none
    | 1 => match st.drop x.2.2.2.2.1 with
      | .ref b :: rest => match g.1[b]? with
        | some (.inr (.inl z)) => if z.1 = x.2.2.2.2.2 ∧ o.1 = .invokevirtual x.2.1 ∧ (rest.map fun v => v.category).sum ≤ 8 then hm_back M pc lv rest (call x.2.2.2.1 (.ref b :: (st.take x.2.2.2.2.1).reverse) g) else none
        | _ => none
      | _ => none
    | 2 => match st.drop x.2.2.2.2.1 with
      | .ref b :: rest => if o.1 = .invokespecial x.2.1 ∧ (rest.map fun v => v.category).sum ≤ 8 then match call x.2.2.2.1 (.ref b :: (st.take x.2.2.2.2.1).reverse) g with
        | some (g2, some none) => some (.inl (pc + 3, lv, rest, g2))
        | _ => none
        else none
      | _ => none
    | 3 => match st.drop x.2.2.2.2.1 with
      | .ref b :: rest => if o.1 = .invokespecial x.2.1 ∧ (rest.map fun v => v.category).sum ≤ 8 then match call x.2.2.2.1 (.ref b :: (st.take x.2.2.2.2.1).reverse) g with
        | some (g2, some none) => some (.inl (pc + 3, lv, rest, g2))
        | _ => none
        else none
      | _ => none
    | 4 => match st.drop x.2.2.2.2.1 with
      | .ref b :: rest => match g.1[b]? with
        | some (.inr (.inr z)) => if z.1 = "java/lang/String" ∧ o.1 = .invokevirtual x.2.1 ∧ (rest.map fun v => v.category).sum ≤ 8 then hm_back M pc lv rest (call x.2.2.2.1 (.ref b :: (st.take x.2.2.2.2.1).reverse) g) else none
        | _ => none
      | _ => none
    | _ => none
    else none
/-- the library's rows -/
def hm_dL (G : hm_T) (M : hm_M) (o : hm_O) (pc : Nat) (lv : List (Nat × Value)) (st : List Value) (g : hm_G) : hm_R := match (hm_Tl G)[o.2.2.2]? with
  | none => none
  | some x => if x.1 = hm_Mo M ∧ o.2.1 = 3 ∧ (o.1 = if x.2.2 = 0 then .invokespecial x.2.1 else .invokestatic x.2.1) ∧ (st.map fun v => v.category).sum ≤ 16 then (hm_lib (hm_Tro G) x.2.2 st g.1).map (fun r => .inl (pc + 3, lv, r.1, r.2, g.2)) else none
/-- the end of a method -/
def hm_dE (M : hm_M) (o : hm_O) (st : List Value) (g : hm_G) : hm_R := if o.2.1 = 1 then (hm_ret o.1 (hm_Mr M) st).map (fun v => .inr (g, some v)) else none
/-- throw new E() -/
def hm_dX (G : hm_T) (M : hm_M) (o : hm_O) (pc : Nat) (st : List Value) (g : hm_G) : hm_R := match (hm_Tx G)[o.2.2.2]?, (hm_Mi M)[pc + 3]?, (hm_Mi M)[pc + 4]?, (hm_Mi M)[pc + 7]? with
  | some x, some (some o3), some (some o4), some (some o7) => if x.1 = hm_Mo M ∧ o.1 = .new x.2.1 ∧ o.2.1 = 3 ∧ o3.1 = .dup ∧ o3.2.1 = 1 ∧ o4.1 = .invokespecial x.2.2 ∧ o4.2.1 = 3 ∧ o7.1 = .athrow ∧ o7.2.1 = 1 ∧ (st.map fun v => v.category).sum ≤ 8 ∧ hm_Mh M = [] then some (.inr ((g.1, g.2.1 + 1, g.2.2 + 6), none)) else none
  | _, _, _, _ => none
def hm_do (G : hm_T) (call : Nat → List Value → hm_G → Option (hm_G × hm_Out)) (M : hm_M) (o : hm_O) (pc : Nat) (lv : List (Nat × Value)) (st : List Value) (g : hm_G) : hm_R := match o.2.2.1 with
  | 0 => hm_pu o.2.1 g (hm_gK o.1 pc lv st)
  | 1 => hm_pu o.2.1 g (hm_gL o.1 pc lv st)
  | 2 => hm_pu o.2.1 g (hm_gS (hm_Ml M) o.1 pc lv st)
  | 3 => hm_pu o.2.1 g (hm_gA o.1 pc lv st)
  | 4 => hm_pu o.2.1 g (hm_gJ o.1 pc lv st)
  | 5 => hm_pu o.2.1 g (hm_gU o.1 pc lv st)
  | 6 => hm_pu o.2.1 g (hm_gD o.1 pc lv st)
  | 7 => hm_pu o.2.1 g (hm_gB o.1 pc lv st)
  | 8 => (hm_gW o.1 pc lv st).map fun q => .inl (q.1, q.2.1, q.2.2, g)
  | 9 => hm_dF G M o pc lv st g
  | 10 => hm_dG G M o pc lv st g
  | 11 => hm_dA G o pc lv st g
  | 12 => hm_dN G M o pc lv st g
  | 13 => hm_dK G M o pc lv st g
  | 14 => hm_dC G call M o pc lv st g
  | 15 => hm_dL G M o pc lv st g
  | 16 => hm_dE M o st g
  | 17 => hm_dX G M o pc st g
  | 18 => hm_dT G M o pc lv st g
  | 19 => hm_dZ G M o pc lv st g
  | _ => none
def hm_step (G : hm_T) (call : Nat → List Value → hm_G → Option (hm_G × hm_Out)) (M : hm_M) (s : hm_S) : hm_R := match (hm_Mi M)[s.1]? with
  | some (some o) => hm_do G call M o s.1 s.2.1 s.2.2.1 s.2.2.2
  | _ => none
def hm_run (G : hm_T) (call : Nat → List Value → hm_G → Option (hm_G × hm_Out)) (M : hm_M) : Nat → hm_S → Option (hm_G × hm_Out)
  | 0, _ => none
  | n + 1, s => match hm_step G call M s with
    | none => none
    | some (.inr r) => some r
    | some (.inl s2) => hm_run G call M n s2
/-- method i of the program pg, d calls deep, K steps in each body -/
def hm_call (G : hm_T) (pg : List hm_M) (K : Nat) : Nat → Nat → List Value → hm_G → Option (hm_G × hm_Out)
  | 0, _, _, _ => none
  | d + 1, i, args, g => match pg[i]? with
    | none => none
    | some M => if (lg_sl args).length ≤ hm_Ml M then hm_run G (hm_call G pg K d) M K (0, lv_args 0 args, [], g) else none
