/-! what the tables say of the methods is so: by program -/
def xO (mid : Nat) : String := (xY mid).cls
def xlen : Instr → Nat
  | .bipush _ => 2
  | .ldc _ => 2
  | .iload _ => 2
  | .lload _ => 2
  | .aload _ => 2
  | .istore _ => 2
  | .lstore _ => 2
  | .astore _ => 2
  | .sipush _ => 3
  | .ldc2_w _ => 3
  | .iinc _ _ => 3
  | .ifCond _ _ => 3
  | .if_icmp _ _ => 3
  | .goto _ => 3
  | .getfield _ => 3
  | .putfield _ => 3
  | .invokestatic _ => 3
  | .invokevirtual _ => 3
  | .invokespecial _ => 3
  | .new _ => 3
  | .newarray _ => 2
  | _ => 1
def xsw : Instr → Bool
  | .tableswitch _ _ _ _ => true
  | .lookupswitch _ _ => true
  | _ => false
def xlook (ps : List (Int × Int)) : Bool := (ps.zip (ps.drop 1)).all (fun (a, next) => a.1 < next.1)
def xpos (pc : Nat) (off : Int) : Bool := decide (0 ≤ (pc : Int) + off)
def xtabs : List (List Jvm.Cond) := [k2_sels lw_privs, tables_1_1, tables_1_2, tables_1_3, tables_1_4, tables_1_5, tables_1_6]
def xis (c : Nat) (w : Jvm.Cond) : Bool := decide ((xnth xtabs (c / 1000) [])[c % 1000]? = some w) && goodWord w
theorem xtabs_in : ∀ (k : Nat) (w : Jvm.Cond), w ∈ xnth xtabs k [] → w ∈ lw_tbl
  | 0, w, h => List.mem_append_left _ h
  | 1, w, h => List.mem_append_right _ (List.mem_append_left _ h)
  | 2, w, h => List.mem_append_right _ (List.mem_append_right _ (List.mem_append_left _ h))
  | 3, w, h => List.mem_append_right _ (List.mem_append_right _ (List.mem_append_right _ (List.mem_append_left _ h)))
  | 4, w, h => List.mem_append_right _ (List.mem_append_right _ (List.mem_append_right _ (List.mem_append_right _ (List.mem_append_left _ h))))
  | 5, w, h => List.mem_append_right _ (List.mem_append_right _ (List.mem_append_right _ (List.mem_append_right _ (List.mem_append_right _ (List.mem_append_left _ h)))))
  | 6, w, h => List.mem_append_right _ (List.mem_append_right _ (List.mem_append_right _ (List.mem_append_right _ (List.mem_append_right _ (List.mem_append_right _ h)))))
  | k + 7, w, h => absurd h List.not_mem_nil
theorem xis_in {c : Nat} {w : Jvm.Cond} (h : xis c w = true) : w ∈ lw_tbl ∧ goodWord w = true := by
  simp only [xis, Bool.and_eq_true, decide_eq_true_eq] at h
  exact ⟨xtabs_in _ _ (List.mem_of_getElem? h.1), h.2⟩
/-- the one call of a private method of another class, beside the constructors -/
def xNw : Jvm.Cond := .methodLinkNest "PushSaidDoor$TextReader" 75 ⟨"PushSaidDoor", "isWithin", "(III)Z"⟩ "PushSaidDoor"
def xlk (mid : Nat) (e : xE) : Bool := match e with
  | (pc, i, len, a, b, c, k) => decide (decode (xB mid) pc = .ok (i, len)) && (xsw i || Nat.beq len (xlen i)) && (match i with
    | .ldc ix => decide (k = 0) || xis c (.constant (xO mid) ix (Int32.ofInt k))
    | .ldc2_w ix => xis c (.constantLong (xO mid) ix (Int64.ofInt k))
    | .ifCond _ off => xpos pc off
    | .if_icmp _ off => xpos pc off
    | .goto off => xpos pc off
    | .tableswitch d _ _ offs => xpos pc d && offs.toList.all (xpos pc)
    | .lookupswitch d ps => xpos pc d && ps.toList.all (fun q => xpos pc q.2) && xlook ps.toList
    | .getfield ix => (match xCl[a]? with
      | some (R, T, N) => Nat.blt b N && decide ((T b).1 = R) && xis c (.fieldLink (xO mid) ix R (T b).2.1 (T b).2.2.1)
      | none => false)
    | .putfield ix => (match xCl[a]? with
      | some (R, T, N) => Nat.blt b N && decide ((T b).1 = R) && xis c (.fieldLink (xO mid) ix R (T b).2.1 (T b).2.2.1)
      | none => false)
    | .invokestatic ix => bif Nat.beq a 1000 then xis c (.methodLink (xO mid) ix Lib.Math.min.name) && Nat.blt 0 (xF mid) else bif Nat.beq a 1001 then xis c (.methodLink (xO mid) ix Lib.Math.max.name) && Nat.blt 0 (xF mid)
      else bif Nat.beq a 1002 then xis c (.methodLink (xO mid) ix arraycopyName) && Nat.blt 0 (xF mid)
      else Nat.blt a xNM && !(decide ((xY a).name = "<init>")) && Nat.blt (xF a) (xF mid) && (bif Nat.beq b 0 then xis c (.methodLink (xO mid) ix (xY a)) else decide (Jvm.Cond.methodLinkNest (xO mid) ix (xY a) "PushSaidDoor" = xNw)) 
    | .invokevirtual ix => Nat.beq a 2000 || (Nat.blt a xNM && !(decide ((xY a).name = "<init>")) && Nat.blt (xF a) (xF mid) && xis c (.methodLink (xO mid) ix (xY a)))
    | _ => true)
def xmk (mid : Nat) : Bool := match xPl mid with
  | (p0, p1, p2, p3) => xis p0 (.code (xY mid) (xB mid) (xL mid) (xRt mid)) && xis p3 (.initialized (xO mid)) && plainName (xO mid) && decide ((parseMethodDescriptor (xY mid).desc).map (fun d => d.parameters.length) = some (xN mid))
    && decide (xO mid ≠ "java/lang/invoke/MethodHandle") && decide (xO mid ≠ "java/lang/invoke/VarHandle") && Nat.ble (xL mid) 21
    && (bif xSt mid then xis p1 (.static (xY mid)) else xis p1 (.instanceMethod (xY mid)) && xis p2 (.selects (xO mid) (xY mid) (xY mid)) && decide ((xCl[xI mid]?).map (fun q => q.1) = some (xO mid)))
def xmini (mid : Nat) : Bool := decide ((xY mid).name = "<init>")
def xchk (mid : Nat) : Bool := (xCode mid).all (xlk mid) && (xmini mid || xmk mid)
def xclk (ci : Nat) : Bool := match xCl[ci]? with
  | some (R, T, N) => (u_ws R T N).all (fun w => decide (w ∈ lw_tbl) && goodWord w) && (List.range N).all (fun k => decide (parseFieldDescriptor (T k).2.2.1 = some (xTy ci k))) && (List.range N).all (fun a => (List.range N).all (fun b => Nat.beq a b || decide ((T a).2.1 ≠ (T b).2.1)))
  | none => true
