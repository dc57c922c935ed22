/-! WHAT THE TABLE SAYS OF THE CODE: every row of it is the decoded instruction, and its words are among the tables' -/
def px_br (f : Int → Instr) (pcf : Nat → Nat) (pc : Nat) (t : Int) : Instr := f ((pcf t.toNat : Int) - pc)
def px_prs (pcf : Nat → Nat) (pc : Nat) : List Int → List (Int × Int)
  | k :: t :: r => (k, (pcf t.toNat : Int) - pc) :: px_prs pcf pc r
  | _ => []
def px_swl (n : Nat) (pc : Nat) : Nat := 1 + (3 - pc % 4) + n
/-- the instruction that a row stands for, and its length -/
def px_dec (pcf : Nat → Nat) (pc : Nat) (k : Nat) (a : List Int) : Option (Instr × Nat) := match k, a with
  | 0, [_, _, _, ix, kd, _] => some (match kd with | 0 => .invokevirtual ix.toNat | 2 => .invokespecial ix.toNat | _ => .invokestatic ix.toNat, 3)
  | 1, [_] => some (.ireturn, 1)
  | 2, _ => some (.lreturn, 1)
  | 3, _ => some (.return_, 1)
  | 4, [v] => some (.iconst v, 1)
  | 5, [v] => some (.bipush v, 2)
  | 6, [v] => some (.sipush v, 3)
  | 7, [_, ix, _] => some (.ldc ix.toNat, 2)
  | 8, [_, ix, _] => some (.ldc_w ix.toNat, 3)
  | 9, [i] => some (.iload_n (Fin.ofNat 4 i.toNat), 1)
  | 10, [i] => some (.iload i.toNat, 2)
  | 11, [i] => some (.istore_n (Fin.ofNat 4 i.toNat), 1)
  | 12, [i] => some (.istore i.toNat, 2)
  | 13, [i, n] => some (.iinc i.toNat n, 3)
  | 14, _ => some (.iadd, 1)
  | 15, _ => some (.isub, 1)
  | 16, _ => some (.imul, 1)
  | 17, _ => some (.idiv, 1)
  | 18, _ => some (.irem, 1)
  | 19, _ => some (.iand, 1)
  | 20, _ => some (.ior, 1)
  | 21, _ => some (.ixor, 1)
  | 22, _ => some (.ishl, 1)
  | 23, _ => some (.ishr, 1)
  | 24, _ => some (.iushr, 1)
  | 25, [c, t] => some (match c with
    | 0 => px_br (.if_icmp .eq) pcf pc t
    | 1 => px_br (.if_icmp .ne) pcf pc t
    | 2 => px_br (.if_icmp .lt) pcf pc t
    | 3 => px_br (.if_icmp .ge) pcf pc t
    | 4 => px_br (.if_icmp .gt) pcf pc t
    | _ => px_br (.if_icmp .le) pcf pc t, 3)
  | 26, [c, t] => some (match c with
    | 0 => px_br (.ifCond .eq) pcf pc t
    | 1 => px_br (.ifCond .ne) pcf pc t
    | 2 => px_br (.ifCond .lt) pcf pc t
    | 3 => px_br (.ifCond .ge) pcf pc t
    | 4 => px_br (.ifCond .gt) pcf pc t
    | _ => px_br (.ifCond .le) pcf pc t, 3)
  | 27, [t] => some (px_br .goto pcf pc t, 3)
  | 28, df :: lo :: hi :: ts => some (.tableswitch ((pcf df.toNat : Int) - pc) lo hi (ts.map (fun t => (pcf t.toNat : Int) - pc)).toArray, px_swl (12 + 4 * ts.length) pc)
  | 29, df :: ts => if ((px_prs pcf pc ts).zip ((px_prs pcf pc ts).drop 1)).all (fun (a, next) => a.1 < next.1) = true then some (.lookupswitch ((pcf df.toNat : Int) - pc) (px_prs pcf pc ts).toArray, px_swl (8 + 4 * ts.length) pc) else none
  | 30, _ => some (.dup, 1)
  | 31, _ => some (.pop, 1)
  | 32, _ => some (.dup2, 1)
  | 33, [i] => some (.aload_n (Fin.ofNat 4 i.toNat), 1)
  | 34, [i] => some (.astore_n (Fin.ofNat 4 i.toNat), 1)
  | 35, [_, _, _, _, ix] => some (.getfield ix.toNat, 3)
  | 36, [_, _, _, _, ix] => some (.putfield ix.toNat, 3)
  | 37, _ => some (.iaload, 1)
  | 38, _ => some (.iastore, 1)
  | 39, _ => some (.aaload, 1)
  | 40, _ => some (.aastore, 1)
  | 41, _ => some (.arraylength, 1)
  | 42, [_, ix, _] => some (.new ix.toNat, 3)
  | 43, _ => some (.newarray .int, 2)
  | 44, [ix, _] => some (.anewarray ix.toNat, 3)
  | 45, [i] => some (.lload_n (Fin.ofNat 4 i.toNat), 1)
  | 46, [i] => some (.lload i.toNat, 2)
  | 47, [i] => some (.lstore_n (Fin.ofNat 4 i.toNat), 1)
  | 48, [i] => some (.lstore i.toNat, 2)
  | 49, [v] => some (.lconst (Fin.ofNat 2 v.toNat), 1)
  | 50, [_, ix, _] => some (.ldc2_w ix.toNat, 3)
  | 51, _ => some (.ladd, 1)
  | 52, _ => some (.lmul, 1)
  | 53, _ => some (.ldiv, 1)
  | 54, _ => some (.lrem, 1)
  | 55, _ => some (.lcmp, 1)
  | 56, _ => some (.i2l, 1)
  | 57, _ => some (.i2c, 1)
  | 58, _ :: q :: ix :: _ => if q.toNat = pc then some (.getstatic ix.toNat, 3) else none
  | 59, [ix, _] => some (.invokestatic ix.toNat, 3)
  | 60, [ix, _] => some (.invokespecial ix.toNat, 3)
  | 61, _ :: q :: ix :: _ => if q.toNat = pc then some (.ldc ix.toNat, 2) else none
  | _, _ => none
def px_stop (k : Nat) : Bool := k == 1 || k == 2 || k == 3 || k == 27 || k == 28 || k == 29
/-- a word of the tables, by its place, that stays -/
def px_tabs : List (List Cond) := [k2_sels lw_privs, tables_1_1, tables_1_2, tables_1_3, tables_1_4, tables_1_5, tables_1_6, tables_1_7, tables_1_8, tables_1_9]
def px_lk2 (w : Nat) : Option Cond := match px_tabs[w / 1000]? with
  | some t => t[w % 1000]?
  | none => none
def px_wd1 (w : Nat) (c : Cond) : Bool := decide (px_lk2 w = some c) && goodWord c
def px_fok (q : px_fT) : Bool := match px_cl[q.2.2.1]? with
  | some (C, T, N) => decide (q.2.2.2.1 < N) && ((T q.2.2.2.1).1 == C) && px_wd1 q.2.2.2.2 (.fieldLink q.1 q.2.1 (T q.2.2.2.1).1 (T q.2.2.2.1).2.1 (T q.2.2.2.1).2.2.1)
  | none => false
def px_fty (ty : Nat) (d : FieldType) : Bool := match ty % 4 with
  | 0 => decide (d = .int)
  | 1 => decide (d = .boolean)
  | _ => match d with
    | .object _ => true
    | .array _ => true
    | _ => false
/-- a field's row: its kind, and who may write it -/
def px_fex (m : Nat) (ci sl ty : Nat) (put : Bool) : Bool := match px_cl[ci]? with
  | some (C, T, _) => (match parseFieldDescriptor (T sl).2.2.1 with
      | some d => px_fty ty d
      | none => false) && (!put || (((T sl).2.2.2 == decide (4 ≤ ty)) && (decide (ty < 4) || (((px_Y m).name == "<init>") && (C == px_O m)))))
  | none => false
def px_mok (q : px_mT) : Bool := match q with
  | (own, ix, c, kd, ws) => decide ((px_Y c).cls ≠ "java/lang/invoke/MethodHandle") && decide ((px_Y c).cls ≠ "java/lang/invoke/VarHandle") && (plainName (px_Y c).cls || ((px_Y c).cls == "java/lang/Math" && (px_Y c).desc == "(II)I")) && decide (px_mL c ≤ 20) && decide (c ≠ 282) && decide (px_pc c 0 = 0) && decide (px_at px_cwl c = some (c, ws.getLastD 0)) &&
    (match kd, ws with
    | 0, [a, b, d, e, _] => px_wd1 a (.methodLink own ix (px_Y c)) && px_wd1 b (.instanceMethod (px_Y c)) && px_wd1 d (.selects (px_Y c).cls (px_Y c) (px_Y c)) && px_wd1 e (.initialized (px_Y c).cls)
    | 1, [a, b, e, _] => px_wd1 a (.methodLink own ix (px_Y c)) && px_wd1 b (.static (px_Y c)) && px_wd1 e (.initialized (px_Y c).cls)
    | 3, [a, b, e, _] => decide (px_lk2 a = some (.methodLinkNest own ix (px_Y c) "RansomPieces")) && px_wd1 b (.static (px_Y c)) && px_wd1 e (.initialized (px_Y c).cls)
    | 2, [a, b, e, _] => ((px_Y c).name == "<init>") && decide (px_R c = none) && px_wd1 a (.methodLink own ix (px_Y c)) && px_wd1 b (.instanceMethod (px_Y c)) && px_wd1 e (.initialized (px_Y c).cls)
    | _, _ => false)
def px_ex (m : Nat) (k : Nat) (a : List Int) : Bool := match k, a with
  | 0, [c, na, mi, ix, kd, ci] => (match px_at px_ml mi.toNat with
      | some (own, ix', c', kd', _) => own == px_O m && ix' == ix.toNat && c' == c.toNat && (kd' : Int) == kd
      | none => false) && decide (((parseMethodDescriptor (px_Y c.toNat).desc).map (fun d => d.parameters.length)) = some (na.toNat - (if kd = 1 ∨ kd = 3 then 0 else 1))) && (decide (kd ≠ 0) || (match px_cl[ci.toNat]? with
      | some (C, _, _) => (px_Y c.toNat).cls == C
      | none => false)) && (decide (kd = 1 ∨ kd = 3) || decide (1 ≤ na))
  | 1, [z] => (if z = 0 then decide (px_R m = some .int) else decide (px_R m = some .boolean))
  | 2, _ => decide (px_R m = some .long)
  | 3, _ => decide (px_R m = none)
  | 4, [v] => (Int32.ofInt v).toInt == v
  | 5, [v] => (Int8.ofInt v).toInt32.toInt == v
  | 6, [v] => (Int16.ofInt v).toInt32.toInt == v
  | 7, [v, ix, w] => (Int32.ofInt v).toInt == v && px_wd1 w.toNat (.constant (px_O m) ix.toNat (Int32.ofInt v))
  | 8, [v, ix, w] => (Int32.ofInt v).toInt == v && px_wd1 w.toNat (.constant (px_O m) ix.toNat (Int32.ofInt v))
  | 9, [i] => decide (i.toNat < 4)
  | 11, [i] => decide (i.toNat < 4) && decide (i.toNat < px_mL m)
  | 12, [i] => decide (i.toNat < px_mL m)
  | 13, [i, n] => decide (i.toNat < px_mL m) && (Int32.ofInt n).toInt == n
  | 28, _ :: lo :: hi :: ts => decide (hi - lo < ts.length)
  | 25, [c, _] => decide (0 ≤ c ∧ c ≤ 5)
  | 26, [c, _] => decide (0 ≤ c ∧ c ≤ 5)
  | 33, [i] => decide (i.toNat < 4)
  | 34, [i] => decide (i.toNat < 4) && decide (i.toNat < px_mL m)
  | 35, [ci, sl, ty, fi, ix] => (match px_at px_fl fi.toNat with
      | some (own, ix', ci', sl', _) => own == px_O m && ix' == ix.toNat && ci' == ci.toNat && sl' == sl.toNat
      | none => false) && px_fex m ci.toNat sl.toNat ty.toNat false && decide (ci.toNat < 12) && decide (0 ≤ ty ∧ ty < 3)
  | 36, [ci, sl, ty, fi, ix] => (match px_at px_fl fi.toNat with
      | some (own, ix', ci', sl', _) => own == px_O m && ix' == ix.toNat && ci' == ci.toNat && sl' == sl.toNat
      | none => false) && px_fex m ci.toNat sl.toNat ty.toNat true && decide (ci.toNat < 12) && decide (0 ≤ ty ∧ ty < 7 ∧ ty ≠ 3)
  | 42, [ci, ix, w] => (match px_cl[ci.toNat]?, px_nwi[ci.toNat]? with
      | some (C, _, N), some (wi, wj) => px_wd1 w.toNat (.classLink (px_O m) ix.toNat C) && px_wd1 wi (.instantiable C N) && px_wd1 wj (.initialized C)
      | _, _ => false)
  | 44, [ix, w] => px_wd1 w.toNat (.classLink (px_O m) ix.toNat "RansomPieces$Fate")
  | 45, [i] => decide (i.toNat < 4)
  | 47, [i] => decide (i.toNat < 4) && decide (i.toNat + 1 < px_mL m)
  | 48, [i] => decide (i.toNat + 1 < px_mL m)
  | 49, [v] => (v == 0) || (v == 1)
  | 50, [v, ix, w] => (Int64.ofInt v).toInt == v && px_wd1 w.toNat (.constantLong (px_O m) ix.toNat (Int64.ofInt v))
  | 58, [0, q, ix, w, ip2] => px_wd1 w.toNat (.fieldLink (px_O m) ix.toNat "RansomPieces" "MOST_TOLD" "[I") && decide (decode (px_B m) (q.toNat + 3) = .ok (.arraylength, 1)) && (px_pc m ip2.toNat == q.toNat + 4)
  | 58, [1, q, ix, w, ip2, i] => px_wd1 w.toNat (.fieldLink (px_O m) ix.toNat "RansomPieces" "MOST_TOLD" "[I") && decide (decode (px_B m) (q.toNat + 3) = .ok (.iload_n (Fin.ofNat 4 i.toNat), 1)) && decide (decode (px_B m) (q.toNat + 4) = .ok (.iaload, 1)) && (px_pc m ip2.toNat == q.toNat + 5) && decide (i.toNat < 4)
  | 58, _ => false
  | 59, [ix, w] => px_wd1 w.toNat (.methodLink (px_O m) ix.toNat arraycopyName)
  | 60, [ix, w] => px_wd1 w.toNat (.methodLink (px_O m) ix.toNat objectInit)
  | 61, [1, q, ix, r, ip2, iv] => (px_O m == "RansomPieces$Reader") && ((ix == 84 && r == 0) || (ix == 76 && r == 1)) && iv == 86 && decide (decode (px_B m) (q.toNat + 2) = .ok (.invokevirtual 86, 3)) && (px_pc m ip2.toNat == q.toNat + 5)
  | 61, [2, q, ix, r, ip2, iv, i, _] => (px_O m == "RansomPieces$Reader") && ((ix == 84 && r == 0) || (ix == 76 && r == 1)) && iv == 90 && decide (decode (px_B m) (q.toNat + 2) = .ok (.iload i.toNat, 2)) && decide (decode (px_B m) (q.toNat + 4) = .ok (.invokevirtual 90, 3)) && (px_pc m ip2.toNat == q.toNat + 7)
  | 61, [3, q, ix, r, ip2, iv, i, _] => (px_O m == "RansomPieces$Reader") && ((ix == 84 && r == 0) || (ix == 76 && r == 1)) && iv == 78 && decide (decode (px_B m) (q.toNat + 2) = .ok (.iload i.toNat, 2)) && decide (decode (px_B m) (q.toNat + 4) = .ok (.i2c, 1)) && decide (decode (px_B m) (q.toNat + 5) = .ok (.invokevirtual 78, 3)) && (px_pc m ip2.toNat == q.toNat + 8)
  | 61, _ => false
  | _, _ => true
def px_okb (m ip : Nat) : Bool := match px_e m ip with
  | none => true
  | some (_, 62, _) => true
  | some (pc, k, a) => match px_dec (px_pc m) pc k a with
    | some (ins, len) => decide (decode (px_B m) pc = .ok (ins, len)) && (px_stop k || px_pc m (ip + 1) == pc + len) && px_ex m k a
    | none => false
def px_okm (m : Nat) : Bool := (List.range (16 * (px_T m).length)).all (px_okb m)
