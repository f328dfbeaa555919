/-! THE ABSTRACT MACHINE: a heap is a list of cells, a reference is a place in it (place 0: the law's script). A cell: an array of ints (kind 0), of chars (kind 1), the script (kind 7), or values: an object of a class (its number below 100) or an array of references (100 and the class's number). -/
abbrev am_C : Type := (Nat × List Int32) ⊕ (Nat × List Value)
abbrev am_H : Type := List am_C
abbrev am_R : Type := Option Value × am_H
abbrev am_S : Type := Nat × List Value × List Value × am_H
/-- what an instruction does: answers; goes on; branches; switches; reads an int; reads a reference; writes; calls (for an int, a long, nothing) -/
abbrev am_A : Type := am_R ⊕ am_S ⊕ (Bool × am_S × am_S) ⊕ (Int32 × List (Int32 × Nat) × Nat × List Value × List Value × am_H) ⊕ (Option Int32 × (Int32 → am_S)) ⊕ (Option Nat × (Nat → am_S)) ⊕ (Option am_H × (am_H → am_S)) ⊕ (Nat × List Value × am_H × (Int32 → am_H → am_S)) ⊕ (Nat × List Value × am_H × (Int64 → am_H → am_S)) ⊕ (Nat × List Value × am_H × (am_H → am_S)) ⊕ (Option Int32 × am_H)
abbrev am_Ret (r : am_R) : Option am_A := some (.inl r)
abbrev am_Go (s : am_S) : Option am_A := some (.inr (.inl s))
abbrev am_Br (b : Bool) (s t : am_S) : Option am_A := some (.inr (.inr (.inl (b, s, t))))
abbrev am_Sw (x : Int32) (t : List (Int32 × Nat)) (d : Nat) (L S : List Value) (h : am_H) : Option am_A := some (.inr (.inr (.inr (.inl (x, t, d, L, S, h)))))
abbrev am_Ri (o : Option Int32) (f : Int32 → am_S) : Option am_A := some (.inr (.inr (.inr (.inr (.inl (o, f))))))
abbrev am_Rr (o : Option Nat) (f : Nat → am_S) : Option am_A := some (.inr (.inr (.inr (.inr (.inr (.inl (o, f)))))))
abbrev am_Wr (o : Option am_H) (f : am_H → am_S) : Option am_A := some (.inr (.inr (.inr (.inr (.inr (.inr (.inl (o, f))))))))
abbrev am_Ci (j : Nat) (As : List Value) (h : am_H) (f : Int32 → am_H → am_S) : Option am_A := some (.inr (.inr (.inr (.inr (.inr (.inr (.inr (.inl (j, As, h, f)))))))))
abbrev am_Cl (j : Nat) (As : List Value) (h : am_H) (f : Int64 → am_H → am_S) : Option am_A := some (.inr (.inr (.inr (.inr (.inr (.inr (.inr (.inr (.inl (j, As, h, f))))))))))
abbrev am_Cv (j : Nat) (As : List Value) (h : am_H) (f : am_H → am_S) : Option am_A := some (.inr (.inr (.inr (.inr (.inr (.inr (.inr (.inr (.inr (.inl (j, As, h, f)))))))))))
/-- answers an int, if there is one -/
abbrev am_Rb (o : Option Int32) (h : am_H) : Option am_A := some (.inr (.inr (.inr (.inr (.inr (.inr (.inr (.inr (.inr (.inr (o, h)))))))))))
-- what a call gave
def am_bi (o : Option am_R) (f : Int32 → am_H → Option am_R) : Option am_R := match o with
  | some (some (.int x), h) => f x h
  | _ => none
def am_bl (o : Option am_R) (f : Int64 → am_H → Option am_R) : Option am_R := match o with
  | some (some (.long x), h) => f x h
  | _ => none
def am_bv (o : Option am_R) (f : am_H → Option am_R) : Option am_R := match o with
  | some (none, h) => f h
  | _ => none
def am_sw (x : Int32) (t : List (Int32 × Nat)) (d : Nat) (K : Nat → Option am_R) : Option am_R := match t with
  | [] => K d
  | q :: r => bif decide (x = q.1) then K q.2 else am_sw x r d K
-- the heap
def am_gi (h : am_H) (a c k : Nat) : Option Int32 := match h[a]? with
  | some (.inr (c', fs)) => bif Nat.beq c' c then (match fs[k]? with
    | some (.int x) => some x
    | _ => none) else none
  | _ => none
def am_gr (h : am_H) (a c k : Nat) : Option Nat := match h[a]? with
  | some (.inr (c', fs)) => bif Nat.beq c' c then (match fs[k]? with
    | some (.ref x) => some x
    | _ => none) else none
  | _ => none
def am_pf (h : am_H) (a c k : Nat) (v : Value) : Option am_H := match h[a]? with
  | some (.inr (c', fs)) => bif Nat.beq c' c && Nat.blt k fs.length then some (h.set a (.inr (c', fs.set k v))) else none
  | _ => none
def am_len (h : am_H) (a : Nat) : Option Int32 := match h[a]? with
  | some (.inl (t, l)) => bif Nat.ble t 1 || (Nat.beq t 7 && Nat.beq a 0) then some (Int32.ofNat l.length) else none
  | some (.inr (c, vs)) => bif Nat.beq c (am_qc + 100) then some (Int32.ofNat vs.length) else none
  | none => none
def am_in (i : Int32) (n : Nat) : Bool := !(decide (i < 0)) && Nat.blt i.toNatClampNeg n
/-- reads an array of kind t -/
def am_al (h : am_H) (t a : Nat) (i : Int32) : Option Int32 := match h[a]? with
  | some (.inl (t', l)) => bif (Nat.beq t' t || (Nat.beq t' 7 && (Nat.beq a 0 && Nat.beq t 0))) && am_in i l.length then l[i.toNatClampNeg]? else none
  | _ => none
/-- writes an array of kind t -/
def am_as (h : am_H) (t a : Nat) (i v : Int32) : Option am_H := match h[a]? with
  | some (.inl (t', l)) => bif Nat.beq t' t && am_in i l.length then some (h.set a (.inl (t', l.set i.toNatClampNeg v))) else none
  | _ => none
def am_ql (h : am_H) (a : Nat) (i : Int32) : Option Nat := match h[a]? with
  | some (.inr (c, vs)) => bif Nat.beq c (am_qc + 100) && am_in i vs.length then (match vs[i.toNatClampNeg]? with
    | some (.ref x) => some x
    | _ => none) else none
  | _ => none
def am_qs (h : am_H) (a : Nat) (i : Int32) (v : Nat) : Option am_H := match h[a]? with
  | some (.inr (c, vs)) => bif Nat.beq c (am_qc + 100) && am_in i vs.length then (match h[v]? with
    | some (.inr (c', _)) => bif Nat.beq (c' + 100) c then some (h.set a (.inr (c, vs.set i.toNatClampNeg (.ref v)))) else none
    | _ => none) else none
  | _ => none
def am_na (h : am_H) (t : Nat) (n : Int32) : Option am_H := bif decide (n < 0) || Nat.blt 1000000 n.toNatClampNeg then none else some (h ++ [.inl (t, List.replicate n.toNatClampNeg 0)])
def am_nq (h : am_H) (c : Nat) (n : Int32) : Option am_H := bif decide (n < 0) || Nat.blt 1000000 n.toNatClampNeg then none else some (h ++ [.inr (c + 100, List.replicate n.toNatClampNeg .null)])
/-- System.arraycopy of ints -/
def am_cpl (f g : List Int32) (sp dp n : Nat) : List Int32 := (List.range g.length).map (fun k => if dp ≤ k ∧ k < dp + n then f.getD (sp + (k - dp)) 0 else g.getD k 0)
def am_cp (h : am_H) (a : Nat) (sp : Int32) (b : Nat) (dp n : Int32) : Option am_H := match h[a]? with
  | some (.inl (0, f)) => (match h[b]? with
    | some (.inl (0, g)) => bif !(decide (sp < 0)) && (!(decide (dp < 0)) && (!(decide (n < 0)) && (Nat.ble (sp.toNatClampNeg + n.toNatClampNeg) f.length && Nat.ble (dp.toNatClampNeg + n.toNatClampNeg) g.length))) then some (h.set b (.inl (0, am_cpl f g sp.toNatClampNeg dp.toNatClampNeg n.toNatClampNeg))) else none
    | _ => none)
  | _ => none
-- numbers
def am_dv (x y : Int32) : Option Int32 := bif decide (y = 0) then none else some (x / y)
def am_rm (x y : Int32) : Option Int32 := bif decide (y = 0) then none else some (x - x / y * y)
def am_bz (x : Int32) : Option Int32 := bif decide (x = 0) || decide (x = 1) then some x else none
def am_cm (c : ClassFile.Cond) (x y : Int32) : Bool := match c with
  | .eq => decide (x = y)
  | .ne => decide (¬ x = y)
  | .lt => decide (x < y)
  | .ge => decide (y ≤ x)
  | .gt => decide (y < x)
  | .le => decide (x ≤ y)
abbrev am_max (x y : Int32) : Int32 := if x < y then y else x
abbrev am_min (x y : Int32) : Int32 := if y < x then y else x
-- locals: a place that holds nothing that may be read is .float 0
def am_st1 (L : List Value) (i : Nat) (v : Value) : List Value := L.set i v
def am_st2 (L : List Value) (i : Nat) (v : Value) : List Value := (L.set i v).set (i + 1) (.float 0)
def am_l0 (j : Nat) (As : List Value) : List Value := As ++ List.replicate (am_maxl j - As.length) (.float 0)
/-- no long in the place ahead -/
def am_nl (L : List Value) (a : Nat) : Bool := match a with
  | 0 => true
  | j + 1 => (match L[j]? with
    | some (.long _) => false
    | _ => true)
def am_cat (S : List Value) : Nat := (S.map fun v => v.category).sum
def am_find (l : List am_E) (pc : Nat) : Option am_E := match l with
  | [] => none
  | e :: r => bif Nat.beq e.1 pc then some e else am_find r pc
/-- a long as the only argument -/
def am_la (j : Nat) (S : List Value) : Bool := match S with
  | .long _ :: _ => am_la1 j
  | _ => false
/-- a call of method j with the top n of the stack; j from 1000: Math.max, Math.min, System.arraycopy, Object() -/
def am_inv (j n pc : Nat) (L S : List Value) (h : am_H) : Option am_A :=
  bif Nat.blt 8 (am_cat (S.drop n)) || (Nat.blt S.length n || !(Nat.beq (am_cat (S.take n)) n || am_la j S)) then none else
  bif Nat.blt j 1000 then (match am_ret j with
    | some .long => am_Cl j (S.take n).reverse h (fun x h => (pc, L, .long x :: S.drop n, h))
    | some _ => am_Ci j (S.take n).reverse h (fun x h => (pc, L, .int x :: S.drop n, h))
    | none => am_Cv j (S.take n).reverse h (fun h => (pc, L, S.drop n, h))) else
  (match j, S with
    | 1000, .int y :: .int x :: r => am_Go (pc, L, .int (am_max x y) :: r, h)
    | 1001, .int y :: .int x :: r => am_Go (pc, L, .int (am_min x y) :: r, h)
    | 1002, .int n :: .int dp :: .ref b :: .int sp :: .ref a :: r => am_Wr (am_cp h a sp b dp n) (fun h => (pc, L, r, h))
    | 1003, .ref _ :: r => am_Go (pc, L, r, h)
    | _, _ => none)
/-- one instruction of method i -/
def am_step (i : Nat) (e : am_E) (L S : List Value) (h : am_H) : Option am_A := match e with
  | (pc, ins, len, a1, a2, _, ci, cl, sw) => match ins with
    | .iconst _ | .bipush _ | .sipush _ | .ldc _ => am_Go (pc + len, L, .int ci :: S, h)
    | .lconst _ | .ldc2_w _ => am_Go (pc + len, L, .long cl :: S, h)
    | .aconst_null => am_Go (pc + 1, L, .null :: S, h)
    | .iload_n _ | .iload _ => (match L[a1]? with
      | some (.int x) => am_Go (pc + len, L, .int x :: S, h)
      | _ => none)
    | .lload_n _ | .lload _ => (match L[a1]? with
      | some (.long x) => am_Go (pc + len, L, .long x :: S, h)
      | _ => none)
    | .aload_n _ | .aload _ => (match L[a1]? with
      | some (.ref x) => am_Go (pc + len, L, .ref x :: S, h)
      | some .null => am_Go (pc + len, L, .null :: S, h)
      | _ => none)
    | .istore_n _ | .istore _ => (match S with
      | .int x :: r => bif am_dl i a1 && !(am_nl L a1) then none else am_Go (pc + len, am_st1 L a1 (.int x), r, h)
      | _ => none)
    | .lstore_n _ | .lstore _ => (match S with
      | .long x :: r => am_Go (pc + len, am_st2 L a1 (.long x), r, h)
      | _ => none)
    | .astore_n _ | .astore _ => (match S with
      | .ref x :: r => am_Go (pc + len, am_st1 L a1 (.ref x), r, h)
      | .null :: r => am_Go (pc + len, am_st1 L a1 .null, r, h)
      | _ => none)
    | .iinc _ _ => (match L[a1]? with
      | some (.int x) => am_Go (pc + 3, am_st1 L a1 (.int (x + ci)), S, h)
      | _ => none)
    | .iadd => (match S with
      | .int y :: .int x :: r => am_Go (pc + 1, L, .int (x + y) :: r, h)
      | _ => none)
    | .isub => (match S with
      | .int y :: .int x :: r => am_Go (pc + 1, L, .int (x - y) :: r, h)
      | _ => none)
    | .imul => (match S with
      | .int y :: .int x :: r => am_Go (pc + 1, L, .int (x * y) :: r, h)
      | _ => none)
    | .iand => (match S with
      | .int y :: .int x :: r => am_Go (pc + 1, L, .int (x &&& y) :: r, h)
      | _ => none)
    | .ishr => (match S with
      | .int y :: .int x :: r => am_Go (pc + 1, L, .int (x >>> (y &&& 31)) :: r, h)
      | _ => none)
    | .idiv => (match S with
      | .int y :: .int x :: r => am_Ri (am_dv x y) (fun z => (pc + 1, L, .int z :: r, h))
      | _ => none)
    | .irem => (match S with
      | .int y :: .int x :: r => am_Ri (am_rm x y) (fun z => (pc + 1, L, .int z :: r, h))
      | _ => none)
    | .ladd => (match S with
      | .long y :: .long x :: r => am_Go (pc + 1, L, .long (x + y) :: r, h)
      | _ => none)
    | .lsub => (match S with
      | .long y :: .long x :: r => am_Go (pc + 1, L, .long (x - y) :: r, h)
      | _ => none)
    | .lmul => (match S with
      | .long y :: .long x :: r => am_Go (pc + 1, L, .long (x * y) :: r, h)
      | _ => none)
    | .ldiv => (match S with
      | .long y :: .long x :: r => bif decide (y = 0) then none else am_Go (pc + 1, L, .long (x / y) :: r, h)
      | _ => none)
    | .lcmp => (match S with
      | .long y :: .long x :: r => am_Go (pc + 1, L, .int (lg_cmp x y) :: r, h)
      | _ => none)
    | .i2l => (match S with
      | .int x :: r => am_Go (pc + 1, L, .long x.toInt64 :: r, h)
      | _ => none)
    | .l2i => (match S with
      | .long x :: r => am_Go (pc + 1, L, .int x.toInt32 :: r, h)
      | _ => none)
    | .i2c => (match S with
      | .int x :: r => am_Go (pc + 1, L, .int (x.toUInt32 % 65536).toInt32 :: r, h)
      | _ => none)
    | .dup => (match S with
      | .ref x :: r => am_Go (pc + 1, L, .ref x :: .ref x :: r, h)
      | .int x :: r => am_Go (pc + 1, L, .int x :: .int x :: r, h)
      | _ => none)
    | .dup2 => (match S with
      | .int y :: .ref x :: r => am_Go (pc + 1, L, .int y :: .ref x :: .int y :: .ref x :: r, h)
      | _ => none)
    | .pop => (match S with
      | .int _ :: r => am_Go (pc + 1, L, r, h)
      | _ => none)
    | .if_icmp c _ => (match S with
      | .int y :: .int x :: r => am_Br (am_cm c x y) (a1, L, r, h) (pc + 3, L, r, h)
      | _ => none)
    | .ifCond c _ => (match S with
      | .int x :: r => am_Br (am_cm c x 0) (a1, L, r, h) (pc + 3, L, r, h)
      | _ => none)
    | .ifnull _ => (match S with
      | .ref _ :: r => am_Go (pc + 3, L, r, h)
      | .null :: r => am_Go (a1, L, r, h)
      | _ => none)
    | .goto _ => am_Go (a1, L, S, h)
    | .tableswitch _ _ _ _ | .lookupswitch _ _ => (match S with
      | .int x :: r => am_Sw x sw a1 L r h
      | _ => none)
    | .getfield _ => (match S with
      | .ref a :: r => (match am_ty a1 a2 with
        | .object _ | .array _ => am_Rr (am_gr h a a1 a2) (fun x => (pc + 3, L, .ref x :: r, h))
        | _ => am_Ri (am_gi h a a1 a2) (fun x => (pc + 3, L, .int x :: r, h)))
      | _ => none)
    | .putfield _ => (match S with
      | .int x :: .ref a :: r => (match am_ty a1 a2 with
        | .int => am_Wr (am_pf h a a1 a2 (.int x)) (fun h => (pc + 3, L, r, h))
        | .boolean => am_Wr (bif decide (x = 0) || decide (x = 1) then am_pf h a a1 a2 (.int x) else none) (fun h => (pc + 3, L, r, h))
        | _ => none)
      | .ref x :: .ref a :: r => (match am_ty a1 a2 with
        | .object _ | .array _ => am_Wr (am_pf h a a1 a2 (.ref x)) (fun h => (pc + 3, L, r, h))
        | _ => none)
      | _ => none)
    | .arraylength => (match S with
      | .ref a :: r => am_Ri (am_len h a) (fun x => (pc + 1, L, .int x :: r, h))
      | _ => none)
    | .iaload => (match S with
      | .int i :: .ref a :: r => am_Ri (am_al h 0 a i) (fun x => (pc + 1, L, .int x :: r, h))
      | _ => none)
    | .caload => (match S with
      | .int i :: .ref a :: r => am_Ri (am_al h 1 a i) (fun x => (pc + 1, L, .int x :: r, h))
      | _ => none)
    | .aaload => (match S with
      | .int i :: .ref a :: r => am_Rr (am_ql h a i) (fun x => (pc + 1, L, .ref x :: r, h))
      | _ => none)
    | .iastore => (match S with
      | .int v :: .int i :: .ref a :: r => am_Wr (am_as h 0 a i v) (fun h => (pc + 1, L, r, h))
      | _ => none)
    | .castore => (match S with
      | .int v :: .int i :: .ref a :: r => am_Wr (am_as h 1 a i (vp_nar .char v)) (fun h => (pc + 1, L, r, h))
      | _ => none)
    | .aastore => (match S with
      | .ref v :: .int i :: .ref a :: r => am_Wr (am_qs h a i v) (fun h => (pc + 1, L, r, h))
      | _ => none)
    | .new _ => am_Go (pc + 3, L, .ref h.length :: S, h ++ [.inr (a1, am_new a1)])
    | .newarray _ => (match S with
      | .int n :: r => am_Wr (am_na h a1 n) (fun h' => (pc + 2, L, .ref h.length :: r, h'))
      | _ => none)
    | .anewarray _ => (match S with
      | .int n :: r => am_Wr (am_nq h a1 n) (fun h' => (pc + 3, L, .ref h.length :: r, h'))
      | _ => none)
    | .invokevirtual _ | .invokespecial _ | .invokestatic _ => am_inv a1 a2 (pc + 3) L S h
    | .ireturn => (match S with
      | [.int x] => (match am_ret i with
        | some .boolean => am_Rb (am_bz x) h
        | some .int => am_Ret (some (.int x), h)
        | _ => none)
      | _ => none)
    | .lreturn => (match S with
      | [.long x] => (match am_ret i with
        | some .long => am_Ret (some (.long x), h)
        | _ => none)
      | _ => none)
    | .return_ => (match S with
      | [] => (match am_ret i with
        | none => am_Ret (none, h)
        | _ => none)
      | _ => none)
    | _ => none
