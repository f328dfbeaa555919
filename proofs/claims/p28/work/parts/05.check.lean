/-! WHAT IS CHECKED OF THE TABLES, by decide -/
def am_okw (w : Cond) : Bool := match w with
  | .fieldLinkNest .. => true
  | .methodLinkNest .. => true
  | .arrayOver (.object _) => true
  | w => goodWord w
def am_has (p : Nat) (w : Cond) : Bool := decide (lw_tbl[p]? = some w) && am_okw w
def am_cl1 (c : Nat) : vw_C := am_cls.getD c ("", fun _ => ("", "", "", false), 0)
def am_fl (own : String) (idx c k p : Nat) : Bool :=
  Nat.blt c am_cls.length && Nat.blt k (am_cl1 c).2.2 && (am_has p (.fieldLink own idx (am_cl1 c).1 ((am_cl1 c).2.1 k).2.1 ((am_cl1 c).2.1 k).2.2.1) || am_has p (.fieldLinkNest own idx (am_cl1 c).1 ((am_cl1 c).2.1 k).2.1 ((am_cl1 c).2.1 k).2.2.1 am_host))
def am_fw (i : Nat) (own : String) (idx c k p : Nat) : Bool :=
  Nat.blt c am_cls.length && Nat.blt k (am_cl1 c).2.2 && (bif ((am_cl1 c).2.1 k).2.2.2 then am_has p (.fieldLink own idx (am_cl1 c).1 ((am_cl1 c).2.1 k).2.1 ((am_cl1 c).2.1 k).2.2.1) && decide ((am_meth i).2.1.name = "<init>") && decide ((am_cl1 c).1 = own) else (am_has p (.fieldLink own idx (am_cl1 c).1 ((am_cl1 c).2.1 k).2.1 ((am_cl1 c).2.1 k).2.2.1) || am_has p (.fieldLinkNest own idx (am_cl1 c).1 ((am_cl1 c).2.1 k).2.1 ((am_cl1 c).2.1 k).2.2.1 am_host)))
abbrev am_own (i : Nat) : String := (am_meth i).1
abbrev am_nm (i : Nat) : MethodName := (am_meth i).2.1
abbrev am_by (i : Nat) : ByteArray := (am_meth i).2.2.1
abbrev am_ml (i : Nat) : Nat := (am_meth i).2.2.2.1
abbrev am_rt (i : Nat) : Option FieldType := (am_meth i).2.2.2.2.1
abbrev am_na_ (i : Nat) : Nat := (am_meth i).2.2.2.2.2.1
abbrev am_rank (i : Nat) : Nat := (am_meth i).2.2.2.2.2.2.1
abbrev am_kd (i : Nat) : Nat := (am_meth i).2.2.2.2.2.2.2
def am_cj (i j n : Nat) : Bool := Nat.blt j am_N && Nat.blt j 1000 && Nat.beq n (am_na_ j) && Nat.blt (am_rank j) (am_rank i) && decide (j ≠ m_law)
/-- the places of the locals where method i keeps longs -/
def am_lp (i j : Nat) : Bool := (am_code i).any (fun e => match e.2.1 with
  | .lstore_n _ | .lstore _ => Nat.beq e.2.2.2.1 j
  | _ => false) || (am_la1 i && Nat.beq j 0)
def am_lq (i a : Nat) : Bool := Nat.beq a 0 || !(am_lp i (a - 1))
def am_ck (i : Nat) (e : am_E) : Bool := match e with
  | (pc, ins, len, a1, a2, a3, ci, cl, sw) => decide (decode (am_by i) pc = .ok (ins, len)) && (match ins with
    | .iconst n => Nat.beq len 1 && decide (Int32.ofInt n = ci)
    | .bipush n => Nat.beq len 2 && decide ((Int8.ofInt n).toInt32 = ci)
    | .sipush n => Nat.beq len 3 && decide ((Int16.ofInt n).toInt32 = ci)
    | .ldc k => Nat.beq len 2 && am_has a3 (.constant (am_own i) k ci)
    | .lconst n => Nat.beq len 1 && decide (Int64.ofNat (n : Nat) = cl)
    | .ldc2_w k => Nat.beq len 3 && am_has a3 (.constantLong (am_own i) k cl)
    | .aconst_null => Nat.beq len 1
    | .iload_n k | .lload_n k | .aload_n k => Nat.beq len 1 && Nat.beq k.val a1
    | .iload k | .lload k | .aload k => Nat.beq len 2 && Nat.beq k a1
    | .astore_n k => Nat.beq len 1 && Nat.beq k.val a1 && Nat.blt a1 (am_ml i) && am_lq i a1
    | .astore k => Nat.beq len 2 && Nat.beq k a1 && Nat.blt a1 (am_ml i) && am_lq i a1
    | .istore_n k => Nat.beq len 1 && Nat.beq k.val a1 && Nat.blt a1 (am_ml i) && (am_lq i a1 || am_dl i a1)
    | .istore k => Nat.beq len 2 && Nat.beq k a1 && Nat.blt a1 (am_ml i) && (am_lq i a1 || am_dl i a1)
    | .lstore_n k => Nat.beq len 1 && Nat.beq k.val a1 && Nat.blt (a1 + 1) (am_ml i) && am_lq i a1 && am_lp i a1
    | .lstore k => Nat.beq len 2 && Nat.beq k a1 && Nat.blt (a1 + 1) (am_ml i) && am_lq i a1 && am_lp i a1
    | .iinc k n => Nat.beq len 3 && Nat.beq k a1 && decide (Int32.ofInt n = ci) && Nat.blt a1 (am_ml i) && am_lq i a1
    | .iadd | .isub | .imul | .iand | .ishr | .idiv | .irem | .ladd | .lsub | .lmul | .ldiv | .lcmp | .i2l | .l2i | .i2c | .dup | .dup2 | .pop | .iaload | .caload | .aaload | .iastore | .castore | .aastore | .arraylength | .ireturn | .lreturn | .return_ => Nat.beq len 1
    | .if_icmp _ off | .ifCond _ off | .ifnull off | .goto off => Nat.beq len 3 && decide ((pc : Int) + off = (a1 : Int))
    | .tableswitch d lo hi offs => decide ((pc : Int) + d = (a1 : Int)) && decide (hi + 1 = lo + sw.length) && Nat.beq sw.length offs.size && (List.range sw.length).all (fun k => match sw[k]?, offs[k]? with
      | some q, some o => decide (q.1.toInt = lo + k) && decide ((pc : Int) + o = (q.2 : Int))
      | _, _ => false)
    | .lookupswitch d ps => decide ((pc : Int) + d = (a1 : Int)) && (ps.toList.zip (ps.toList.drop 1)).all (fun (a, next) => decide (a.1 < next.1)) && Nat.beq sw.length ps.toList.length && (sw.zip ps.toList).all (fun q => decide (q.1.1.toInt = q.2.1) && decide ((pc : Int) + q.2.2 = (q.1.2 : Int)))
    | .getfield k => Nat.beq len 3 && am_fl (am_own i) k a1 a2 a3
    | .putfield k => Nat.beq len 3 && am_fw i (am_own i) k a1 a2 a3
    | .new k => Nat.beq len 3 && Nat.blt a1 am_cls.length && am_has a3 (.classLink (am_own i) k (am_cl1 a1).1)
    | .newarray t => Nat.beq len 2 && ((decide (t = .int) && Nat.beq a1 0) || (decide (t = .char) && Nat.beq a1 1))
    | .anewarray k => Nat.beq len 3 && Nat.beq a1 am_qc && am_has a3 (.classLink (am_own i) k (am_cl1 a1).1)
    | .invokevirtual k => Nat.beq len 3 && am_cj i a1 a2 && Nat.beq (am_kd a1) 0 && am_has a3 (.methodLink (am_own i) k (am_nm a1))
    | .invokespecial k => Nat.beq len 3 && (bif Nat.beq a1 1003 then Nat.beq a2 1 && Nat.blt 0 (am_rank i) && am_has a3 (.methodLink (am_own i) k objectInit) else am_cj i a1 a2 && Nat.beq (am_kd a1) 2 && (am_has a3 (.methodLink (am_own i) k (am_nm a1)) || am_has a3 (.methodLinkNest (am_own i) k (am_nm a1) am_host)))
    | .invokestatic k => Nat.beq len 3 && (bif Nat.beq a1 1000 then Nat.beq a2 2 && Nat.blt 0 (am_rank i) && am_has a3 (.methodLink (am_own i) k Lib.Math.max.name) else bif Nat.beq a1 1001 then Nat.beq a2 2 && Nat.blt 0 (am_rank i) && am_has a3 (.methodLink (am_own i) k Lib.Math.min.name) else bif Nat.beq a1 1002 then Nat.beq a2 5 && Nat.blt 0 (am_rank i) && am_has a3 (.methodLink (am_own i) k arraycopyName) else am_cj i a1 a2 && Nat.beq (am_kd a1) 1 && am_has a3 (.methodLink (am_own i) k (am_nm a1)))
    | _ => false)
def am_mck (j : Nat) : Bool :=
  am_has (am_mp j).1 (.code (am_nm j) (am_by j) (am_ml j) (am_rt j)) && am_has (am_mp j).2.1 (.initialized (am_nm j).cls)
  && (bif Nat.beq (am_kd j) 1 then am_has (am_mp j).2.2.1 (.static (am_nm j)) else am_has (am_mp j).2.2.1 (.instanceMethod (am_nm j)))
  && (bif Nat.beq (am_kd j) 0 then am_has (am_mp j).2.2.2 (.selects (am_nm j).cls (am_nm j) (am_nm j)) else true)
  && (bif Nat.beq (am_kd j) 1 then true else (match am_rk j with
    | some c => Nat.blt c am_cls.length && decide ((am_cl1 c).1 = (am_nm j).cls) && Nat.blt 0 (am_na_ j)
    | none => false))
  && (bif Nat.beq (am_kd j) 2 then decide ((am_nm j).name = "<init>") && decide (am_rt j = none) else true)
  && plainName (am_nm j).cls && decide ((am_nm j).cls ≠ "java/lang/invoke/MethodHandle") && decide ((am_nm j).cls ≠ "java/lang/invoke/VarHandle")
  && decide ((parseMethodDescriptor (am_nm j).desc).map (fun d => d.parameters.length) = some (am_na_ j - (bif Nat.beq (am_kd j) 1 then 0 else 1)))
  && Nat.ble (am_ml j) 20 && Nat.ble (am_na_ j) (am_ml j) && Nat.beq (am_maxl j) (am_ml j) && decide (am_ret j = am_rt j) && decide (am_own j = (am_nm j).cls)
  && (match am_rt j with
    | none | some .int | some .boolean | some .long => true
    | _ => false)
def am_cck (c : Nat) : Bool :=
  am_has (am_cp1 c).1 (.instantiable (am_cl1 c).1 (am_cl1 c).2.2) && am_has (am_cp1 c).2.1 (.initialized (am_cl1 c).1)
  && (List.range (am_cl1 c).2.2).all (fun k => am_has ((am_cp1 c).2.2.getD k 0) (u_lay (am_cl1 c).1 (am_cl1 c).2.1 k) && decide (parseFieldDescriptor ((am_cl1 c).2.1 k).2.2.1 = some (am_ty c k)) && decide (((am_cl1 c).2.1 k).1 = (am_cl1 c).1)
    && (List.range (am_cl1 c).2.2).all (fun k' => Nat.beq k k' || decide (((am_cl1 c).2.1 k).2.1 ≠ ((am_cl1 c).2.1 k').2.1))
    && decide ((am_new c)[k]? = some (defaultValue (am_ty c k))))
  && Nat.beq (am_new c).length (am_cl1 c).2.2

/-- the words of what the library does itself, and of the kinds of arrays -/
def am_nck : Bool := am_has (am_pm.getD 0 0) (.static Lib.Math.max.name) && am_has (am_pm.getD 1 0) (.initialized "java/lang/Math") && am_has (am_pm.getD 2 0) (.code Lib.Math.max.name Lib.Math.max.code 2 (some .int))
  && am_has (am_pm.getD 3 0) (.static Lib.Math.min.name) && am_has (am_pm.getD 4 0) (.code Lib.Math.min.name Lib.Math.min.code 2 (some .int))
  && am_has (am_pm.getD 5 0) (.native arraycopyName) && am_has (am_pm.getD 6 0) (.static arraycopyName) && am_has (am_pm.getD 7 0) (.initialized "java/lang/System")
  && am_has (am_pm.getD 8 0) (.instanceMethod objectInit) && am_has (am_pm.getD 9 0) (.code objectInit ⟨#[0xb1]⟩ 1 none)
  && am_has (am_pa.getD 0 0) (.arrayClass .int) && am_has (am_pa.getD 1 0) (.arrayClass .char) && am_has am_qp (.arrayOver (.object (am_cl1 am_qc).1)) && Nat.blt am_qc am_cls.length
/-- the tables are in order -/
def am_tab : Prop := (∀ i, i < am_N → ∀ e, e ∈ am_code i → am_ck i e = true) ∧ (∀ j, j < am_N → j ≠ m_law → am_mck j = true) ∧ (∀ c, c < am_cls.length → am_cck c = true) ∧ am_nck = true ∧ (∀ i, i < am_N → am_ret i = am_rt i)
