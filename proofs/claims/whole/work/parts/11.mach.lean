/-! THE SMALL MACHINE: ints are Int, a world is a list of shapes and a table of ints -/
abbrev px_V : Type := Int ⊕ (Int ⊕ Nat)
abbrev px_Sh : Type := Nat × Nat × List (Option Nat)
abbrev px_H : Type := List px_Sh × (Nat → Nat → Int)
abbrev px_L : Type := List (Nat × px_V)
abbrev px_St : Type := Nat × px_L × List px_V × px_H
abbrev px_F : Type := List Int → List Int → Nat → px_L → List px_V → px_H → Option px_St
def px_wr (x : Int) : Int := x.bmod 4294967296
def px_wl (x : Int) : Int := x.bmod 18446744073709551616
def px_up (f : Nat → Nat → Int) (k i : Nat) (v : Int) : Nat → Nat → Int := fun a b => if a = k ∧ b = i then v else f a b
def px_pI : List px_V → Option (Int × List px_V)
  | .inl v :: r => some (v, r)
  | _ => none
def px_pL : List px_V → Option (Int × List px_V)
  | .inr (.inl v) :: r => some (v, r)
  | _ => none
def px_pR : List px_V → Option (Nat × List px_V)
  | .inr (.inr v) :: r => some (v, r)
  | _ => none
def px_cat : px_V → Nat
  | .inr (.inl _) => 2
  | _ => 1
/-- a value that may be kept: an int, a long, a known reference -/
def px_kv : px_V → Bool
  | .inr (.inr 0) => false
  | _ => true
def px_ld (ls : px_L) (i : Nat) : Option px_V := (ls.find? (fun q => q.1 == i)).map (fun q => q.2)
def px_s1 (ls : px_L) (i : Nat) (v : px_V) : px_L := (i, v) :: ls.filter (fun q => !(q.1 == i) && !(q.1 + 1 == i && px_cat q.2 == 2))
def px_s2 (ls : px_L) (i : Nat) (v : px_V) : px_L := (i, v) :: ls.filter (fun q => !(q.1 == i) && (!(q.1 == i + 1) && !(q.1 + 1 == i && px_cat q.2 == 2)))
def px_and (a b : Int) : Int := (Int32.ofInt a &&& Int32.ofInt b).toInt
def px_or (a b : Int) : Int := (Int32.ofInt a ||| Int32.ofInt b).toInt
def px_xor (a b : Int) : Int := (Int32.ofInt a ^^^ Int32.ofInt b).toInt
def px_shl (a b : Int) : Int := (Int32.ofInt a <<< (Int32.ofInt b &&& 31)).toInt
def px_shr (a b : Int) : Int := (Int32.ofInt a >>> (Int32.ofInt b &&& 31)).toInt
def px_ush (a b : Int) : Int := ((Int32.ofInt a).toUInt32 >>> ((Int32.ofInt b).toUInt32 &&& Int32.toUInt32 31)).toInt32.toInt
def px_i2c (a : Int) : Int := ((Int32.ofInt a).toUInt32 % 65536).toInt32.toInt
def px_cmp (c : Int) (a b : Int) : Bool := match c with
  | 0 => decide (a = b)
  | 1 => decide (a ≠ b)
  | 2 => decide (a < b)
  | 3 => decide (b ≤ a)
  | 4 => decide (b < a)
  | _ => decide (a ≤ b)
def px_words : List Int := [116, 104, 105, 110, 103, 32, 119, 111, 114, 116, 104, 32, 119, 101, 97, 114, 115, 32, 119, 101, 101, 107, 32, 99, 114, 105, 101, 115, 32, 114, 105, 118, 97, 108, 32, 99, 114, 101, 100, 105, 116, 32, 104, 111, 109, 101, 32, 108, 97, 115, 116, 32, 112, 114, 105, 99, 101, 32, 119, 101, 97, 114, 32, 101, 97, 116, 32, 103, 97, 105, 110, 32, 119, 104, 101, 110, 32, 111, 114, 32, 97, 110, 100, 32, 110, 111, 116, 32, 112, 97, 115, 115, 32, 102, 114, 111, 109, 32, 116, 111, 32, 109, 117, 100, 32, 99, 97, 118, 101, 32, 98, 121, 32, 97, 102, 116, 101, 114, 32, 112, 97, 121, 32, 99, 114, 121, 32, 119, 97, 105, 116, 32, 97, 103, 97, 105, 110, 32]
def px_signs : List Int := [59, 43, 45, 42, 47, 40, 41, 60, 61, 62]
def px_mt : List Int := [99999, 9999, 99, 1000, 99, 60, 999, 99]
/-- an int of an array -/
def px_rd (sc : List Int) (h : px_H) (r : Nat) (j : Int) : Option Int := match r with
  | 1 => if 0 ≤ j then sc[j.toNat]? else none
  | k + 5 => match h.1[k]? with
    | some (12, n, _) => if 0 ≤ j ∧ j < n then some (h.2 (k + 5) j.toNat) else none
    | _ => none
  | _ => none
def px_len (sc : List Int) (h : px_H) (r : Nat) : Option Int := match r with
  | 1 => some sc.length
  | k + 5 => match h.1[k]? with
    | some (12, n, _) => if n < 1048576 then some n else none
    | some (13, n, _) => if n < 1048576 then some n else none
    | _ => none
  | _ => none
def px_rf (l : List (Option Nat)) (k : Nat) : Option Nat := match l[k]? with
  | some (some r) => if 5 ≤ r then some r else none
  | _ => none
def px_o_const : px_F := fun _ a ip ls st h => match a with
  | v :: _ => some (ip + 1, ls, .inl v :: st, h)
  | _ => none
def px_o_iload : px_F := fun _ a ip ls st h => match a with
  | i :: _ => match px_ld ls i.toNat with
    | some (.inl v) => some (ip + 1, ls, .inl v :: st, h)
    | _ => none
  | _ => none
def px_o_lload : px_F := fun _ a ip ls st h => match a with
  | i :: _ => match px_ld ls i.toNat with
    | some (.inr (.inl v)) => some (ip + 1, ls, .inr (.inl v) :: st, h)
    | _ => none
  | _ => none
def px_o_aload : px_F := fun _ a ip ls st h => match a with
  | i :: _ => match px_ld ls i.toNat with
    | some (.inr (.inr (r + 1))) => some (ip + 1, ls, .inr (.inr (r + 1)) :: st, h)
    | _ => none
  | _ => none
def px_o_istore : px_F := fun _ a ip ls st h => match a, px_pI st with
  | i :: _, some (v, st) => some (ip + 1, px_s1 ls i.toNat (.inl v), st, h)
  | _, _ => none
def px_o_lstore : px_F := fun _ a ip ls st h => match a, px_pL st with
  | i :: _, some (v, st) => some (ip + 1, px_s2 ls i.toNat (.inr (.inl v)), st, h)
  | _, _ => none
def px_o_astore : px_F := fun _ a ip ls st h => match a, px_pR st with
  | i :: _, some (r + 1, st) => some (ip + 1, px_s1 ls i.toNat (.inr (.inr (r + 1))), st, h)
  | _, _ => none
def px_o_iinc : px_F := fun _ a ip ls st h => match a with
  | [i, n] => match px_ld ls i.toNat with
    | some (.inl v) => some (ip + 1, px_s1 ls i.toNat (.inl (px_wr (v + n))), st, h)
    | _ => none
  | _ => none
def px_bin (f : Int → Int → Option Int) : px_F := fun _ _ ip ls st h => match px_pI st with
  | some (y, st) => match px_pI st with
    | some (x, st) => match f x y with
      | some z => some (ip + 1, ls, .inl z :: st, h)
      | none => none
    | none => none
  | none => none
def px_lbin (f : Int → Int → Option Int) : px_F := fun _ _ ip ls st h => match px_pL st with
  | some (y, st) => match px_pL st with
    | some (x, st) => match f x y with
      | some z => some (ip + 1, ls, .inr (.inl z) :: st, h)
      | none => none
    | none => none
  | none => none
def px_o_lcmp : px_F := fun _ _ ip ls st h => match px_pL st with
  | some (y, st) => match px_pL st with
    | some (x, st) => some (ip + 1, ls, .inl (if x < y then -1 else if x = y then 0 else 1) :: st, h)
    | none => none
  | none => none
def px_o_icmp : px_F := fun _ a ip ls st h => match px_pI st with
  | some (y, st) => match px_pI st with
    | some (x, st) => match a with
      | [c, t] => some (bif px_cmp c x y then t.toNat else ip + 1, ls, st, h)
      | _ => none
    | none => none
  | none => none
def px_o_ifc : px_F := fun _ a ip ls st h => match px_pI st with
  | some (x, st) => match a with
    | [c, t] => some (bif px_cmp c x 0 then t.toNat else ip + 1, ls, st, h)
    | _ => none
  | none => none
def px_o_goto : px_F := fun _ a _ ls st h => match a with
  | [t] => some (t.toNat, ls, st, h)
  | _ => none
def px_o_tsw : px_F := fun _ a _ ls st h => match px_pI st with
  | some (x, st) => match a with
    | df :: lo :: hi :: ts => if x < lo ∨ hi < x then some (df.toNat, ls, st, h) else match ts[(x - lo).toNat]? with
      | some t => some (t.toNat, ls, st, h)
      | none => none
    | _ => none
  | none => none
def px_lk : List Int → Int → Int → Int
  | k :: t :: r, df, x => if x = k then t else px_lk r df x
  | _, df, _ => df
def px_o_lsw : px_F := fun _ a _ ls st h => match px_pI st with
  | some (x, st) => match a with
    | df :: ts => some ((px_lk ts df x).toNat, ls, st, h)
    | _ => none
  | none => none
def px_o_dup : px_F := fun _ _ ip ls st h => match st with
  | v :: st => bif px_kv v && px_cat v == 1 then some (ip + 1, ls, v :: v :: st, h) else none
  | _ => none
def px_o_pop : px_F := fun _ _ ip ls st h => match st with
  | v :: st => bif px_kv v && px_cat v == 1 then some (ip + 1, ls, st, h) else none
  | _ => none
def px_o_dup2 : px_F := fun _ _ ip ls st h => match st with
  | v :: w :: st => bif px_kv v && px_cat v == 1 && px_kv w && px_cat w == 1 then some (ip + 1, ls, v :: w :: v :: w :: st, h) else none
  | _ => none
def px_o_getf : px_F := fun _ a ip ls st h => match px_pR st with
  | some (k + 5, st) => match a with
    | ci :: sl :: ty :: _ => match h.1[k]? with
      | some (c, _, rs) => bif c == ci.toNat then
          (bif ty == 2 then match px_rf rs sl.toNat with
            | some r => some (ip + 1, ls, .inr (.inr r) :: st, h)
            | none => none
          else match rs[sl.toNat]? with
            | some none => some (ip + 1, ls, .inl (h.2 (k + 5) sl.toNat) :: st, h)
            | _ => none)
        else none
      | none => none
    | _ => none
  | _ => none
/-- ty: 0 int, 1 boolean, 2 reference; 4 more: final -/
def px_o_putf : px_F := fun _ a ip ls st h => match a with
  | ci :: sl :: ty :: _ => bif ty == 2 || ty == 6 then
      (match px_pR st with
      | some (r, st) => match px_pR st with
        | some (k + 5, st) => match h.1[k]? with
          | some (c, n, rs) => bif c == ci.toNat then match rs[sl.toNat]? with
              | some (some _) => if 5 ≤ r then some (ip + 1, ls, st, (h.1.set k (c, n, rs.set sl.toNat (some r)), h.2)) else none
              | _ => none
            else none
          | none => none
        | _ => none
      | none => none)
    else
      (match px_pI st with
      | some (v, st) => match px_pR st with
        | some (k + 5, st) => match h.1[k]? with
          | some (c, _, rs) => bif c == ci.toNat && (ty == 0 || ty == 4 || v == 0 || v == 1) then match rs[sl.toNat]? with
              | some none => some (ip + 1, ls, st, (h.1, px_up h.2 (k + 5) sl.toNat v))
              | _ => none
            else none
          | none => none
        | _ => none
      | none => none)
  | _ => none
def px_o_iald : px_F := fun sc _ ip ls st h => match px_pI st with
  | some (j, st) => match px_pR st with
    | some (r, st) => match px_rd sc h r j with
      | some v => some (ip + 1, ls, .inl v :: st, h)
      | none => none
    | none => none
  | none => none
def px_o_iast : px_F := fun _ _ ip ls st h => match px_pI st with
  | some (v, st) => match px_pI st with
    | some (j, st) => match px_pR st with
      | some (k + 5, st) => match h.1[k]? with
        | some (12, n, _) => if 0 ≤ j ∧ j < n then some (ip + 1, ls, st, (h.1, px_up h.2 (k + 5) j.toNat v)) else none
        | _ => none
      | _ => none
    | none => none
  | none => none
def px_o_alen : px_F := fun sc _ ip ls st h => match px_pR st with
  | some (r, st) => match px_len sc h r with
    | some v => some (ip + 1, ls, .inl v :: st, h)
    | none => none
  | none => none
def px_o_aald : px_F := fun _ _ ip ls st h => match px_pI st with
  | some (j, st) => match px_pR st with
    | some (k + 5, st) => match h.1[k]? with
      | some (13, n, rs) => if 0 ≤ j ∧ j < n then match px_rf rs j.toNat with
          | some r => some (ip + 1, ls, .inr (.inr r) :: st, h)
          | none => none
        else none
      | _ => none
    | _ => none
  | none => none
def px_cp (f : Nat → Nat → Int) (s d : Nat) (sp dp n : Nat) : Nat → Nat → Int := fun a b => if a = d ∧ dp ≤ b ∧ b < dp + n then f s (sp + (b - dp)) else f a b
def px_o_copy : px_F := fun _ _ ip ls st h => match px_pI st with
  | some (n, st) => match px_pI st with
    | some (dp, st) => match px_pR st with
      | some (d + 5, st) => match px_pI st with
        | some (sp, st) => match px_pR st with
          | some (s + 5, st) => match h.1[s]?, h.1[d]? with
            | some (12, sn, _), some (12, dn, _) => if 0 ≤ n ∧ 0 ≤ sp ∧ 0 ≤ dp ∧ sp + n ≤ sn ∧ dp + n ≤ dn ∧ st.length ≤ 4 then some (ip + 1, ls, st, (h.1, px_cp h.2 (s + 5) (d + 5) sp.toNat dp.toNat n.toNat)) else none
            | _, _ => none
          | _ => none
        | none => none
      | _ => none
    | none => none
  | none => none
/-- the slots of a new object: what is a reference, what is an int -/
def px_nw (ci : Nat) : Option (Nat × List (Option Nat)) := px_new[ci]?
def px_o_new : px_F := fun _ a ip ls st h => match a with
  | ci :: _ => match px_nw ci.toNat with
    | some (n, rs) => some (ip + 1, ls, .inr (.inr (h.1.length + 5)) :: st, (h.1 ++ [(ci.toNat, n, rs)], h.2))
    | none => none
  | _ => none
def px_o_newa : px_F := fun _ _ ip ls st h => match px_pI st with
  | some (n, st) => if 0 ≤ n ∧ n ≤ 1000000 then some (ip + 1, ls, .inr (.inr (h.1.length + 5)) :: st, (h.1 ++ [(12, n.toNat, [])], h.2)) else none
  | none => none
def px_o_objinit : px_F := fun _ _ ip ls st h => match px_pR st with
  | some (_ + 5, st) => if st.length ≤ 4 then some (ip + 1, ls, st, h) else none
  | _ => none
def px_o_l2 : px_F := fun _ _ ip ls st h => match px_pI st with
  | some (v, st) => some (ip + 1, ls, .inr (.inl v) :: st, h)
  | none => none
def px_o_lconst : px_F := fun _ a ip ls st h => match a with
  | v :: _ => some (ip + 1, ls, .inr (.inl v) :: st, h)
  | _ => none
def px_o_i2c : px_F := fun _ _ ip ls st h => match px_pI st with
  | some (v, st) => some (ip + 1, ls, .inl (px_i2c v) :: st, h)
  | none => none
/-- the table of what may be told, in one: 0 its length, 1 an int of it -/
def px_o_gets : px_F := fun _ a _ ls st h => match a with
  | [0, _, _, _, ip2] => some (ip2.toNat, ls, .inl 8 :: st, h)
  | [1, _, _, _, ip2, i] => match px_ld ls i.toNat with
    | some (.inl j) => if 0 ≤ j then match px_mt[j.toNat]? with
        | some v => some (ip2.toNat, ls, .inl v :: st, h)
        | none => none
      else none
    | _ => none
  | _ => none
/-- texts -/
def px_tx (r : Int) : List Int := if r = 0 then px_words else px_signs
def px_io (c : Int) : List Int → Nat → Int
  | [], _ => -1
  | x :: l, k => if x = c then (k : Int) else px_io c l (k + 1)
/-- a text and what is asked of it, in one: 1 its length, 2 a sign of it, 3 the place of a sign -/
def px_o_prim : px_F := fun _ a _ ls st h => match a with
  | [1, _, _, r, ip2, _] => if st.length ≤ 3 then some (ip2.toNat, ls, .inl ((px_tx r).length : Nat) :: st, h) else none
  | [2, _, _, r, ip2, _, i, _] => match px_ld ls i.toNat with
    | some (.inl j) => if 0 ≤ j ∧ st.length ≤ 3 then match (px_tx r)[j.toNat]? with
        | some v => some (ip2.toNat, ls, .inl v :: st, h)
        | none => none
      else none
    | _ => none
  | [3, _, _, r, ip2, _, i, _] => match px_ld ls i.toNat with
    | some (.inl c) => if st.length ≤ 3 then some (ip2.toNat, ls, .inl (px_io (px_i2c c) (px_tx r) 0) :: st, h) else none
    | _ => none
  | _ => none
def px_o_no : px_F := fun _ _ _ _ _ _ => none
def px_o_newr : px_F := fun _ _ ip ls st h => match px_pI st with
  | some (n, st) => if 0 ≤ n ∧ n ≤ 1000 then some (ip + 1, ls, .inr (.inr (h.1.length + 5)) :: st, (h.1 ++ [(13, n.toNat, List.replicate n.toNat (some 0))], h.2)) else none
  | none => none
def px_o_aast : px_F := fun _ _ ip ls st h => match px_pR st with
  | some (v + 5, st) => match px_pI st with
    | some (j, st) => match px_pR st with
      | some (k + 5, st) => match h.1[k]?, h.1[v]? with
        | some (13, n, rs), some (0, _, _) => if 0 ≤ j ∧ j < n ∧ j < rs.length then some (ip + 1, ls, st, (h.1.set k (13, n, rs.set j.toNat (some (v + 5))), h.2)) else none
        | _, _ => none
      | _ => none
    | none => none
  | _ => none
/-- the instructions by number, from 4 on -/
def px_ops : List px_F := [px_o_const, px_o_const, px_o_const, px_o_const, px_o_const, px_o_iload, px_o_iload, px_o_istore, px_o_istore, px_o_iinc,
  px_bin (fun x y => some (px_wr (x + y))), px_bin (fun x y => some (px_wr (x - y))), px_bin (fun x y => some (px_wr (x * y))),
  px_bin (fun x y => if y = 0 then none else some (px_wr (x.tdiv y))), px_bin (fun x y => if y = 0 then none else some (x.tmod y)),
  px_bin (fun x y => some (px_and x y)), px_bin (fun x y => some (px_or x y)), px_bin (fun x y => some (px_xor x y)),
  px_bin (fun x y => some (px_shl x y)), px_bin (fun x y => some (px_shr x y)), px_bin (fun x y => some (px_ush x y)),
  px_o_icmp, px_o_ifc, px_o_goto, px_o_tsw, px_o_lsw, px_o_dup, px_o_pop, px_o_dup2, px_o_aload, px_o_astore, px_o_getf, px_o_putf, px_o_iald, px_o_iast, px_o_aald, px_o_aast, px_o_alen,
  px_o_new, px_o_newa, px_o_newr, px_o_lload, px_o_lload, px_o_lstore, px_o_lstore, px_o_lconst, px_o_lconst,
  px_lbin (fun x y => some (px_wl (x + y))), px_lbin (fun x y => some (px_wl (x * y))), px_lbin (fun x y => if y = 0 then none else some (px_wl (x.tdiv y))), px_lbin (fun x y => if y = 0 then none else some (x.tmod y)),
  px_o_lcmp, px_o_l2, px_o_i2c, px_o_gets, px_o_copy, px_o_objinit, px_o_prim, px_o_no]
def px_ag : Nat → List px_V → px_L
  | _, [] => []
  | i, v :: vs => (i, v) :: px_ag (if px_cat v = 2 then i + 2 else i + 1) vs
/-- may this method be called with these arguments over this rest of the stack -/
def px_may (h : px_H) (kd ci : Int) (L : Nat) (n : Nat) (as rest : List px_V) : Bool :=
  decide (as.length = n) && as.all px_kv && rest.all px_kv && decide ((rest.map px_cat).sum ≤ 8) && decide ((as.map px_cat).sum ≤ L) &&
  (match kd with
  | 1 => true
  | 3 => true
  | _ => match as with
    | .inr (.inr (k + 5)) :: _ => match h.1[k]? with
      | some (c, _, _) => c == ci.toNat
      | none => false
    | _ => false)
def px_psh : Option px_V → List px_V → List px_V
  | some v, r => v :: r
  | none, r => r
/-- one instruction that is no call and no return -/
def px_st (sc : List Int) (m : Nat) (ip : Nat) (ls : px_L) (st : List px_V) (h : px_H) : Option px_St := match px_e m ip with
  | some (_, k + 4, a) => match px_ops[k]? with
    | some F => F sc a ip ls st h
    | none => none
  | _ => none
def px_run (sc : List Int) : Nat → Nat → Nat → Nat → px_L → List px_V → px_H → Option (Option px_V × px_H)
  | 0, _, _, _, _, _, _ => none
  | n + 1, d, m, ip, ls, st, h => match px_e m ip with
    | some (_, 0, c :: na :: _ :: _ :: kd :: ci :: _) => match d with
      | d + 1 => bif px_may h kd ci (px_mL c.toNat) na.toNat (st.take na.toNat).reverse (st.drop na.toNat) then
          (match px_run sc n d c.toNat 0 (px_ag 0 (st.take na.toNat).reverse) [] h with
          | some (r, h1) => px_run sc n (d + 1) m (ip + 1) ls (px_psh r (st.drop na.toNat)) h1
          | none => none)
        else none
      | 0 => none
    | some (_, 1, a) => match st with
      | [.inl v] => bif (a == [0]) || (v == 0) || (v == 1) then some (some (.inl v), h) else none
      | _ => none
    | some (_, 2, _) => match st with
      | [.inr (.inl v)] => some (some (.inr (.inl v)), h)
      | _ => none
    | some (_, 3, _) => match st with
      | [] => some (none, h)
      | _ => none
    | some (_, _ + 4, _) => match px_st sc m ip ls st h with
      | some (ip1, ls1, st1, h1) => px_run sc n d m ip1 ls1 st1 h1
      | none => none
    | _ => none
