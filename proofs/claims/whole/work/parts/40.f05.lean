def f_M_errand (s : px_Z) (x1 : Int) (x2 : Int) : Option (Int × px_Z) := if (x1) = ((-1)) then some ((0, px_up (px_up s 150 0 0) 150 57 0)) else (if (f_M_isIn (px_up s 150 0 0) x1 0 60) = (0) then some (((-1), px_up s 150 0 0)) else (if (f_M_isIn (px_up s 150 0 0) x2 1 20) = (0) then some (((-1), px_up s 150 0 0)) else (if ((px_up s 150 0 0) 150 57) = (12) then some (((-1), px_up s 150 0 0)) else (if 0 ≤ ((px_up s 150 0 0) 150 57) ∧ ((px_up s 150 0 0) 150 57) < 12 then if 0 ≤ ((px_up (px_up s 150 0 0) 182 ((px_up s 150 0 0) 150 57).toNat x1) 150 57) ∧ ((px_up (px_up s 150 0 0) 182 ((px_up s 150 0 0) 150 57).toNat x1) 150 57) < 12 then some (((px_up (px_up (px_up (px_up s 150 0 0) 182 ((px_up s 150 0 0) 150 57).toNat x1) 183 ((px_up (px_up s 150 0 0) 182 ((px_up s 150 0 0) 150 57).toNat x1) 150 57).toNat (px_wr ((px_wr (x1 + x2)) - 1))) 150 57 (px_wr (((px_up (px_up (px_up s 150 0 0) 182 ((px_up s 150 0 0) 150 57).toNat x1) 183 ((px_up (px_up s 150 0 0) 182 ((px_up s 150 0 0) 150 57).toNat x1) 150 57).toNat (px_wr ((px_wr (x1 + x2)) - 1))) 150 57) + 1))) 150 57, px_up (px_up (px_up (px_up s 150 0 0) 182 ((px_up s 150 0 0) 150 57).toNat x1) 183 ((px_up (px_up s 150 0 0) 182 ((px_up s 150 0 0) 150 57).toNat x1) 150 57).toNat (px_wr ((px_wr (x1 + x2)) - 1))) 150 57 (px_wr (((px_up (px_up (px_up s 150 0 0) 182 ((px_up s 150 0 0) 150 57).toNat x1) 183 ((px_up (px_up s 150 0 0) 182 ((px_up s 150 0 0) 150 57).toNat x1) 150 57).toNat (px_wr ((px_wr (x1 + x2)) - 1))) 150 57) + 1)))) else none else none))))
set_option maxHeartbeats 4000000 in
set_option maxRecDepth 100000 in
theorem c_M_errand {sc : List Int} {d : Nat} {s : px_Z} {x1 : Int} {x2 : Int} {out : Int × px_Z} (h : f_M_errand s x1 x2 = some out) : px_D sc (d + 1) 274 0 [(0, .inr (.inr 150)), (1, .inl (x1)), (2, .inl (x2))] [] (px_G1, s) (px_Qi out) := by
  unfold f_M_errand at h
  refine px_D_st 5 (ip1 := 5) (ls1 := [(0, .inr (.inr 150)), (1, .inl (x1)), (2, .inl (x2))]) (st1 := [.inl ((-1)), .inl (x1)]) (h1 := (px_G1, px_up s 150 0 0)) rfl ?_
  refine px_D_icmp rfl (fun hc => ?_) (fun hc => ?_)
  · have hc1 : ¬ ((x1) = ((-1))) := of_decide_eq_true hc
    rw [if_neg hc1] at h
    refine px_D_st 4 (ip1 := 15) (ls1 := [(0, .inr (.inr 150)), (1, .inl (x1)), (2, .inl (x2))]) (st1 := [.inl (60), .inl (0), .inl (x1), .inr (.inr 150)]) (h1 := (px_G1, px_up s 150 0 0)) rfl ?_
    refine px_D_call (as := [.inr (.inr 150), .inl (x1), .inl (0), .inl (60)]) (rest := []) rfl rfl rfl rfl ?_
    refine px_D_mono (c_M_isIn (d := d + 0) rfl) ?_
    rintro _ _ ⟨rfl, rfl⟩
    show px_D sc (d + 1) 274 16 [(0, .inr (.inr 150)), (1, .inl (x1)), (2, .inl (x2))] [.inl (f_M_isIn (px_up s 150 0 0) x1 0 60)] (px_G1, px_up s 150 0 0) _
    refine px_D_ifc rfl (fun hc => ?_) (fun hc => ?_)
    · have hc2 : (f_M_isIn (px_up s 150 0 0) x1 0 60) = (0) := of_decide_eq_true hc
      rw [if_pos hc2] at h
      refine px_D_st 1 (ip1 := 28) (ls1 := [(0, .inr (.inr 150)), (1, .inl (x1)), (2, .inl (x2))]) (st1 := [.inl ((-1))]) (h1 := (px_G1, px_up s 150 0 0)) rfl ?_
      cases h
      exact px_D_iret rfl rfl ⟨rfl, rfl⟩
    · have hc2 : ¬ ((f_M_isIn (px_up s 150 0 0) x1 0 60) = (0)) := of_decide_eq_false hc
      rw [if_neg hc2] at h
      refine px_D_st 4 (ip1 := 21) (ls1 := [(0, .inr (.inr 150)), (1, .inl (x1)), (2, .inl (x2))]) (st1 := [.inl (20), .inl (1), .inl (x2), .inr (.inr 150)]) (h1 := (px_G1, px_up s 150 0 0)) rfl ?_
      refine px_D_call (as := [.inr (.inr 150), .inl (x2), .inl (1), .inl (20)]) (rest := []) rfl rfl rfl rfl ?_
      refine px_D_mono (c_M_isIn (d := d + 0) rfl) ?_
      rintro _ _ ⟨rfl, rfl⟩
      show px_D sc (d + 1) 274 22 [(0, .inr (.inr 150)), (1, .inl (x1)), (2, .inl (x2))] [.inl (f_M_isIn (px_up s 150 0 0) x2 1 20)] (px_G1, px_up s 150 0 0) _
      refine px_D_ifc rfl (fun hc => ?_) (fun hc => ?_)
      · have hc3 : (f_M_isIn (px_up s 150 0 0) x2 1 20) = (0) := of_decide_eq_true hc
        rw [if_pos hc3] at h
        refine px_D_st 1 (ip1 := 28) (ls1 := [(0, .inr (.inr 150)), (1, .inl (x1)), (2, .inl (x2))]) (st1 := [.inl ((-1))]) (h1 := (px_G1, px_up s 150 0 0)) rfl ?_
        cases h
        exact px_D_iret rfl rfl ⟨rfl, rfl⟩
      · have hc3 : ¬ ((f_M_isIn (px_up s 150 0 0) x2 1 20) = (0)) := of_decide_eq_false hc
        rw [if_neg hc3] at h
        refine px_D_st 3 (ip1 := 26) (ls1 := [(0, .inr (.inr 150)), (1, .inl (x1)), (2, .inl (x2))]) (st1 := [.inl (12), .inl ((px_up s 150 0 0) 150 57)]) (h1 := (px_G1, px_up s 150 0 0)) rfl ?_
        refine px_D_icmp rfl (fun hc => ?_) (fun hc => ?_)
        · have hc4 : ¬ (((px_up s 150 0 0) 150 57) = (12)) := of_decide_eq_true hc
          rw [if_neg hc4] at h
          refine px_D_st 5 (ip1 := 34) (ls1 := [(0, .inr (.inr 150)), (1, .inl (x1)), (2, .inl (x2))]) (st1 := [.inl (x1), .inl ((px_up s 150 0 0) 150 57), .inr (.inr 182)]) (h1 := (px_G1, px_up s 150 0 0)) rfl ?_
          by_cases hc5 : 0 ≤ ((px_up s 150 0 0) 150 57) ∧ ((px_up s 150 0 0) 150 57) < 12
          case neg => rw [if_neg hc5] at h; cases h
          rw [if_pos hc5] at h
          refine px_D_iast (k := 177) (n := 12) rfl rfl hc5 ?_
          refine px_D_st 9 (ip1 := 44) (ls1 := [(0, .inr (.inr 150)), (1, .inl (x1)), (2, .inl (x2))]) (st1 := [.inl (px_wr ((px_wr (x1 + x2)) - 1)), .inl ((px_up (px_up s 150 0 0) 182 ((px_up s 150 0 0) 150 57).toNat x1) 150 57), .inr (.inr 183)]) (h1 := (px_G1, px_up (px_up s 150 0 0) 182 ((px_up s 150 0 0) 150 57).toNat x1)) rfl ?_
          by_cases hc6 : 0 ≤ ((px_up (px_up s 150 0 0) 182 ((px_up s 150 0 0) 150 57).toNat x1) 150 57) ∧ ((px_up (px_up s 150 0 0) 182 ((px_up s 150 0 0) 150 57).toNat x1) 150 57) < 12
          case neg => rw [if_neg hc6] at h; cases h
          rw [if_pos hc6] at h
          refine px_D_iast (k := 178) (n := 12) rfl rfl hc6 ?_
          refine px_D_st 8 (ip1 := 53) (ls1 := [(0, .inr (.inr 150)), (1, .inl (x1)), (2, .inl (x2))]) (st1 := [.inl ((px_up (px_up (px_up (px_up s 150 0 0) 182 ((px_up s 150 0 0) 150 57).toNat x1) 183 ((px_up (px_up s 150 0 0) 182 ((px_up s 150 0 0) 150 57).toNat x1) 150 57).toNat (px_wr ((px_wr (x1 + x2)) - 1))) 150 57 (px_wr (((px_up (px_up (px_up s 150 0 0) 182 ((px_up s 150 0 0) 150 57).toNat x1) 183 ((px_up (px_up s 150 0 0) 182 ((px_up s 150 0 0) 150 57).toNat x1) 150 57).toNat (px_wr ((px_wr (x1 + x2)) - 1))) 150 57) + 1))) 150 57)]) (h1 := (px_G1, px_up (px_up (px_up (px_up s 150 0 0) 182 ((px_up s 150 0 0) 150 57).toNat x1) 183 ((px_up (px_up s 150 0 0) 182 ((px_up s 150 0 0) 150 57).toNat x1) 150 57).toNat (px_wr ((px_wr (x1 + x2)) - 1))) 150 57 (px_wr (((px_up (px_up (px_up s 150 0 0) 182 ((px_up s 150 0 0) 150 57).toNat x1) 183 ((px_up (px_up s 150 0 0) 182 ((px_up s 150 0 0) 150 57).toNat x1) 150 57).toNat (px_wr ((px_wr (x1 + x2)) - 1))) 150 57) + 1)))) rfl ?_
          cases h
          exact px_D_iret rfl rfl ⟨rfl, rfl⟩
        · have hc4 : ((px_up s 150 0 0) 150 57) = (12) := Decidable.of_not_not (of_decide_eq_false hc)
          rw [if_pos hc4] at h
          refine px_D_st 1 (ip1 := 28) (ls1 := [(0, .inr (.inr 150)), (1, .inl (x1)), (2, .inl (x2))]) (st1 := [.inl ((-1))]) (h1 := (px_G1, px_up s 150 0 0)) rfl ?_
          cases h
          exact px_D_iret rfl rfl ⟨rfl, rfl⟩
  · have hc1 : (x1) = ((-1)) := Decidable.of_not_not (of_decide_eq_false hc)
    rw [if_pos hc1] at h
    refine px_D_st 4 (ip1 := 10) (ls1 := [(0, .inr (.inr 150)), (1, .inl (x1)), (2, .inl (x2))]) (st1 := [.inl (0)]) (h1 := (px_G1, px_up (px_up s 150 0 0) 150 57 0)) rfl ?_
    cases h
    exact px_D_iret rfl rfl ⟨rfl, rfl⟩

def l_M_underWay_4 (s : px_Z)  : Nat → Int → Int → Int → Option (Int)
  | 0, _, _, _ => none
  | n + 1, x1, x2, x3 => if (s 150 57) ≤ (x3) then some x2 else (if 0 ≤ (x3) ∧ (x3) < 12 then if 0 ≤ (x3) ∧ (x3) < 12 then if (f_M_isIn s x1 (s 182 x3.toNat) (s 183 x3.toNat)) = (0) then l_M_underWay_4 s  n x1 x2 (px_wr (x3 + 1)) else l_M_underWay_4 s  n x1 (px_wr (x2 + 1)) (px_wr (x3 + 1)) else none else none)
set_option maxHeartbeats 4000000 in
set_option maxRecDepth 100000 in
theorem cl_M_underWay_4 {sc : List Int} {d : Nat} {s : px_Z}  : ∀ (n : Nat) (x1 : Int) (x2 : Int) (x3 : Int) (out : Int), l_M_underWay_4 s  n x1 x2 x3 = some out → px_D sc (d + 1) 275 4 [(0, .inr (.inr 150)), (1, .inl (x1)), (2, .inl (x2)), (3, .inl (x3))] [] (px_G1, s) (px_Qp s out) := by
  intro n
  induction n with
  | zero => intro x1 x2 x3 out h; cases h
  | succ n ih =>
    intro x1 x2 x3 out h
    rw [l_M_underWay_4] at h
    refine px_D_st 3 (ip1 := 7) (ls1 := [(0, .inr (.inr 150)), (1, .inl (x1)), (2, .inl (x2)), (3, .inl (x3))]) (st1 := [.inl (s 150 57), .inl (x3)]) (h1 := (px_G1, s)) rfl ?_
    refine px_D_icmp rfl (fun hc => ?_) (fun hc => ?_)
    · have hc1 : (s 150 57) ≤ (x3) := of_decide_eq_true hc
      rw [if_pos hc1] at h
      refine px_D_st 1 (ip1 := 27) (ls1 := [(0, .inr (.inr 150)), (1, .inl (x1)), (2, .inl (x2)), (3, .inl (x3))]) (st1 := [.inl (x2)]) (h1 := (px_G1, s)) rfl ?_
      cases h
      exact px_D_iret rfl rfl ⟨rfl, rfl⟩
    · have hc1 : ¬ ((s 150 57) ≤ (x3)) := of_decide_eq_false hc
      rw [if_neg hc1] at h
      refine px_D_st 5 (ip1 := 13) (ls1 := [(0, .inr (.inr 150)), (1, .inl (x1)), (2, .inl (x2)), (3, .inl (x3))]) (st1 := [.inl (x3), .inr (.inr 182), .inl (x1), .inr (.inr 150)]) (h1 := (px_G1, s)) rfl ?_
      by_cases hc2 : 0 ≤ (x3) ∧ (x3) < 12
      case neg => rw [if_neg hc2] at h; cases h
      rw [if_pos hc2] at h
      refine px_D_iald (k := 177) (n := 12) rfl rfl hc2 ?_
      refine px_D_st 3 (ip1 := 17) (ls1 := [(0, .inr (.inr 150)), (1, .inl (x1)), (2, .inl (x2)), (3, .inl (x3))]) (st1 := [.inl (x3), .inr (.inr 183), .inl (s 182 x3.toNat), .inl (x1), .inr (.inr 150)]) (h1 := (px_G1, s)) rfl ?_
      by_cases hc3 : 0 ≤ (x3) ∧ (x3) < 12
      case neg => rw [if_neg hc3] at h; cases h
      rw [if_pos hc3] at h
      refine px_D_iald (k := 178) (n := 12) rfl rfl hc3 ?_
      refine px_D_call (as := [.inr (.inr 150), .inl (x1), .inl (s 182 x3.toNat), .inl (s 183 x3.toNat)]) (rest := []) rfl rfl rfl rfl ?_
      refine px_D_mono (c_M_isIn (d := d + 0) rfl) ?_
      rintro _ _ ⟨rfl, rfl⟩
      show px_D sc (d + 1) 275 19 [(0, .inr (.inr 150)), (1, .inl (x1)), (2, .inl (x2)), (3, .inl (x3))] [.inl (f_M_isIn s x1 (s 182 x3.toNat) (s 183 x3.toNat))] (px_G1, s) _
      refine px_D_ifc rfl (fun hc => ?_) (fun hc => ?_)
      · have hc4 : (f_M_isIn s x1 (s 182 x3.toNat) (s 183 x3.toNat)) = (0) := of_decide_eq_true hc
        rw [if_pos hc4] at h
        refine px_D_st 2 (ip1 := 4) (ls1 := [(3, .inl (px_wr (x3 + 1))), (0, .inr (.inr 150)), (1, .inl (x1)), (2, .inl (x2))]) (st1 := []) (h1 := (px_G1, s)) rfl ?_
        refine px_D_ls [(0, .inr (.inr 150)), (1, .inl (x1)), (2, .inl (x2)), (3, .inl (px_wr (x3 + 1)))] rfl rfl (List.forall_mem_cons.mpr ⟨rfl, List.forall_mem_cons.mpr ⟨rfl, List.forall_mem_cons.mpr ⟨rfl, List.forall_mem_cons.mpr ⟨rfl, fun _ h => absurd h List.not_mem_nil⟩⟩⟩⟩) ?_
        exact ih _ _ _ _ h
      · have hc4 : ¬ ((f_M_isIn s x1 (s 182 x3.toNat) (s 183 x3.toNat)) = (0)) := of_decide_eq_false hc
        rw [if_neg hc4] at h
        refine px_D_st 6 (ip1 := 4) (ls1 := [(3, .inl (px_wr (x3 + 1))), (2, .inl (px_wr (x2 + 1))), (0, .inr (.inr 150)), (1, .inl (x1))]) (st1 := []) (h1 := (px_G1, s)) rfl ?_
        refine px_D_ls [(0, .inr (.inr 150)), (1, .inl (x1)), (2, .inl (px_wr (x2 + 1))), (3, .inl (px_wr (x3 + 1)))] rfl rfl (List.forall_mem_cons.mpr ⟨rfl, List.forall_mem_cons.mpr ⟨rfl, List.forall_mem_cons.mpr ⟨rfl, List.forall_mem_cons.mpr ⟨rfl, fun _ h => absurd h List.not_mem_nil⟩⟩⟩⟩) ?_
        exact ih _ _ _ _ h
def f_M_underWay (s : px_Z) (x1 : Int) : Option (Int) := l_M_underWay_4 s  px_big x1 0 0
set_option maxHeartbeats 4000000 in
set_option maxRecDepth 100000 in
theorem c_M_underWay {sc : List Int} {d : Nat} {s : px_Z} {x1 : Int} {out : Int} (h : f_M_underWay s x1 = some out) : px_D sc (d + 1) 275 0 [(0, .inr (.inr 150)), (1, .inl (x1))] [] (px_G1, s) (px_Qp s out) := by
  unfold f_M_underWay at h
  refine px_D_st 4 (ip1 := 4) (ls1 := [(3, .inl (0)), (2, .inl (0)), (0, .inr (.inr 150)), (1, .inl (x1))]) (st1 := []) (h1 := (px_G1, s)) rfl ?_
  refine px_D_ls [(0, .inr (.inr 150)), (1, .inl (x1)), (2, .inl (0)), (3, .inl (0))] rfl rfl (List.forall_mem_cons.mpr ⟨rfl, List.forall_mem_cons.mpr ⟨rfl, List.forall_mem_cons.mpr ⟨rfl, List.forall_mem_cons.mpr ⟨rfl, fun _ h => absurd h List.not_mem_nil⟩⟩⟩⟩) ?_
  refine cl_M_underWay_4  px_big _ _ _ _ h

def l_M_messengers_17 (k38 : px_Z → Int → Int → Int → Option (Int × px_Z)) : Nat → px_Z → Int → Int → Int → Int → Option (Int × px_Z)
  | 0, _, _, _, _, _ => none
  | n + 1, s, x1, x2, x3, x4 => if (60) < (x4) then k38 s x1 x2 x3 else (f_M_underWay s x4).bind (fun q3 => if (q3) ≤ (x3) then (f_M_underWay s x4).bind (fun q5 => l_M_messengers_17 k38 n s x1 x2 (f_M_greater s q5 x3) (px_wr (x4 + 1))) else (f_M_underWay s x4).bind (fun q6 => l_M_messengers_17 k38 n s x1 x4 (f_M_greater s q6 x3) (px_wr (x4 + 1))))
set_option maxHeartbeats 4000000 in
set_option maxRecDepth 100000 in
theorem cl_M_messengers_17 {sc : List Int} {d : Nat} {k38 : px_Z → Int → Int → Int → Option (Int × px_Z)}  (hk38 : ∀ (s : px_Z) (y1 : Int) (y2 : Int) (y3 : Int) (out : Int × px_Z), k38 s y1 y2 y3 = some out → px_D sc (d + 2) 276 38 [(1, .inl (y1)), (2, .inl (y2)), (3, .inl (y3))] [] (px_G1, s) (px_Qi out)) : ∀ (n : Nat) (s : px_Z) (x1 : Int) (x2 : Int) (x3 : Int) (x4 : Int) (out : Int × px_Z), l_M_messengers_17 k38 n s x1 x2 x3 x4 = some out → px_D sc (d + 2) 276 17 [(0, .inr (.inr 150)), (1, .inl (x1)), (2, .inl (x2)), (3, .inl (x3)), (4, .inl (x4))] [] (px_G1, s) (px_Qi out) := by
  intro n
  induction n with
  | zero => intro s x1 x2 x3 x4 out h; cases h
  | succ n ih =>
    intro s x1 x2 x3 x4 out h
    rw [l_M_messengers_17] at h
    refine px_D_st 2 (ip1 := 19) (ls1 := [(0, .inr (.inr 150)), (1, .inl (x1)), (2, .inl (x2)), (3, .inl (x3)), (4, .inl (x4))]) (st1 := [.inl (60), .inl (x4)]) (h1 := (px_G1, s)) rfl ?_
    refine px_D_icmp rfl (fun hc => ?_) (fun hc => ?_)
    · have hc2 : (60) < (x4) := of_decide_eq_true hc
      rw [if_pos hc2] at h
      refine px_D_ls [(1, .inl (x1)), (2, .inl (x2)), (3, .inl (x3))] rfl rfl (List.forall_mem_cons.mpr ⟨rfl, List.forall_mem_cons.mpr ⟨rfl, List.forall_mem_cons.mpr ⟨rfl, fun _ h => absurd h List.not_mem_nil⟩⟩⟩) ?_
      exact hk38 _ _ _ _ _ h
    · have hc2 : ¬ ((60) < (x4)) := of_decide_eq_false hc
      rw [if_neg hc2] at h
      refine px_D_st 2 (ip1 := 22) (ls1 := [(0, .inr (.inr 150)), (1, .inl (x1)), (2, .inl (x2)), (3, .inl (x3)), (4, .inl (x4))]) (st1 := [.inl (x4), .inr (.inr 150)]) (h1 := (px_G1, s)) rfl ?_
      refine px_D_call (as := [.inr (.inr 150), .inl (x4)]) (rest := []) rfl rfl rfl rfl ?_
      obtain ⟨q3, hq3, h⟩ := Option.bind_eq_some_iff.mp h
      refine px_D_mono (c_M_underWay (d := d + 0) hq3) ?_
      rintro _ _ ⟨rfl, rfl⟩
      show px_D sc (d + 2) 276 23 [(0, .inr (.inr 150)), (1, .inl (x1)), (2, .inl (x2)), (3, .inl (x3)), (4, .inl (x4))] [.inl (q3)] (px_G1, s) _
      refine px_D_st 1 (ip1 := 24) (ls1 := [(0, .inr (.inr 150)), (1, .inl (x1)), (2, .inl (x2)), (3, .inl (x3)), (4, .inl (x4))]) (st1 := [.inl (x3), .inl (q3)]) (h1 := (px_G1, s)) rfl ?_
      refine px_D_icmp rfl (fun hc => ?_) (fun hc => ?_)
      · have hc4 : (q3) ≤ (x3) := of_decide_eq_true hc
        rw [if_pos hc4] at h
        refine px_D_st 5 (ip1 := 32) (ls1 := [(2, .inl (x2)), (0, .inr (.inr 150)), (1, .inl (x1)), (3, .inl (x3)), (4, .inl (x4))]) (st1 := [.inl (x4), .inr (.inr 150), .inr (.inr 150)]) (h1 := (px_G1, s)) rfl ?_
        refine px_D_call (as := [.inr (.inr 150), .inl (x4)]) (rest := [.inr (.inr 150)]) rfl rfl rfl rfl ?_
        obtain ⟨q5, hq5, h⟩ := Option.bind_eq_some_iff.mp h
        refine px_D_mono (c_M_underWay (d := d + 0) hq5) ?_
        rintro _ _ ⟨rfl, rfl⟩
        show px_D sc (d + 2) 276 33 [(2, .inl (x2)), (0, .inr (.inr 150)), (1, .inl (x1)), (3, .inl (x3)), (4, .inl (x4))] [.inl (q5), .inr (.inr 150)] (px_G1, s) _
        refine px_D_st 1 (ip1 := 34) (ls1 := [(2, .inl (x2)), (0, .inr (.inr 150)), (1, .inl (x1)), (3, .inl (x3)), (4, .inl (x4))]) (st1 := [.inl (x3), .inl (q5), .inr (.inr 150)]) (h1 := (px_G1, s)) rfl ?_
        refine px_D_call (as := [.inr (.inr 150), .inl (q5), .inl (x3)]) (rest := []) rfl rfl rfl rfl ?_
        refine px_D_mono (c_M_greater (d := d + 1) rfl) ?_
        rintro _ _ ⟨rfl, rfl⟩
        show px_D sc (d + 2) 276 35 [(2, .inl (x2)), (0, .inr (.inr 150)), (1, .inl (x1)), (3, .inl (x3)), (4, .inl (x4))] [.inl (f_M_greater s q5 x3)] (px_G1, s) _
        refine px_D_st 3 (ip1 := 17) (ls1 := [(4, .inl (px_wr (x4 + 1))), (3, .inl (f_M_greater s q5 x3)), (2, .inl (x2)), (0, .inr (.inr 150)), (1, .inl (x1))]) (st1 := []) (h1 := (px_G1, s)) rfl ?_
        refine px_D_ls [(0, .inr (.inr 150)), (1, .inl (x1)), (2, .inl (x2)), (3, .inl (f_M_greater s q5 x3)), (4, .inl (px_wr (x4 + 1)))] rfl rfl (List.forall_mem_cons.mpr ⟨rfl, List.forall_mem_cons.mpr ⟨rfl, List.forall_mem_cons.mpr ⟨rfl, List.forall_mem_cons.mpr ⟨rfl, List.forall_mem_cons.mpr ⟨rfl, fun _ h => absurd h List.not_mem_nil⟩⟩⟩⟩⟩) ?_
        exact ih _ _ _ _ _ _ h
      · have hc4 : ¬ ((q3) ≤ (x3)) := of_decide_eq_false hc
        rw [if_neg hc4] at h
        refine px_D_st 6 (ip1 := 32) (ls1 := [(2, .inl (x4)), (0, .inr (.inr 150)), (1, .inl (x1)), (3, .inl (x3)), (4, .inl (x4))]) (st1 := [.inl (x4), .inr (.inr 150), .inr (.inr 150)]) (h1 := (px_G1, s)) rfl ?_
        refine px_D_call (as := [.inr (.inr 150), .inl (x4)]) (rest := [.inr (.inr 150)]) rfl rfl rfl rfl ?_
        obtain ⟨q6, hq6, h⟩ := Option.bind_eq_some_iff.mp h
        refine px_D_mono (c_M_underWay (d := d + 0) hq6) ?_
        rintro _ _ ⟨rfl, rfl⟩
        show px_D sc (d + 2) 276 33 [(2, .inl (x4)), (0, .inr (.inr 150)), (1, .inl (x1)), (3, .inl (x3)), (4, .inl (x4))] [.inl (q6), .inr (.inr 150)] (px_G1, s) _
        refine px_D_st 1 (ip1 := 34) (ls1 := [(2, .inl (x4)), (0, .inr (.inr 150)), (1, .inl (x1)), (3, .inl (x3)), (4, .inl (x4))]) (st1 := [.inl (x3), .inl (q6), .inr (.inr 150)]) (h1 := (px_G1, s)) rfl ?_
        refine px_D_call (as := [.inr (.inr 150), .inl (q6), .inl (x3)]) (rest := []) rfl rfl rfl rfl ?_
        refine px_D_mono (c_M_greater (d := d + 1) rfl) ?_
        rintro _ _ ⟨rfl, rfl⟩
        show px_D sc (d + 2) 276 35 [(2, .inl (x4)), (0, .inr (.inr 150)), (1, .inl (x1)), (3, .inl (x3)), (4, .inl (x4))] [.inl (f_M_greater s q6 x3)] (px_G1, s) _
        refine px_D_st 3 (ip1 := 17) (ls1 := [(4, .inl (px_wr (x4 + 1))), (3, .inl (f_M_greater s q6 x3)), (2, .inl (x4)), (0, .inr (.inr 150)), (1, .inl (x1))]) (st1 := []) (h1 := (px_G1, s)) rfl ?_
        refine px_D_ls [(0, .inr (.inr 150)), (1, .inl (x1)), (2, .inl (x4)), (3, .inl (f_M_greater s q6 x3)), (4, .inl (px_wr (x4 + 1)))] rfl rfl (List.forall_mem_cons.mpr ⟨rfl, List.forall_mem_cons.mpr ⟨rfl, List.forall_mem_cons.mpr ⟨rfl, List.forall_mem_cons.mpr ⟨rfl, List.forall_mem_cons.mpr ⟨rfl, fun _ h => absurd h List.not_mem_nil⟩⟩⟩⟩⟩) ?_
        exact ih _ _ _ _ _ _ h
def f_M_messengers (s : px_Z) (x1 : Int) : Option (Int × px_Z) := if (f_M_isIn (px_up s 150 0 0) x1 0 1) = (0) then some (((-1), px_up s 150 0 0)) else l_M_messengers_17 (fun s x1 x2 x3 => if (x1) = (0) then some (x3, s) else some (x2, s)) px_big (px_up s 150 0 0) x1 (-1) 0 0
set_option maxHeartbeats 4000000 in
set_option maxRecDepth 100000 in
theorem c_M_messengers {sc : List Int} {d : Nat} {s : px_Z} {x1 : Int} {out : Int × px_Z} (h : f_M_messengers s x1 = some out) : px_D sc (d + 2) 276 0 [(0, .inr (.inr 150)), (1, .inl (x1))] [] (px_G1, s) (px_Qi out) := by
  unfold f_M_messengers at h
  refine px_D_st 7 (ip1 := 7) (ls1 := [(0, .inr (.inr 150)), (1, .inl (x1))]) (st1 := [.inl (1), .inl (0), .inl (x1), .inr (.inr 150)]) (h1 := (px_G1, px_up s 150 0 0)) rfl ?_
  refine px_D_call (as := [.inr (.inr 150), .inl (x1), .inl (0), .inl (1)]) (rest := []) rfl rfl rfl rfl ?_
  refine px_D_mono (c_M_isIn (d := d + 1) rfl) ?_
  rintro _ _ ⟨rfl, rfl⟩
  show px_D sc (d + 2) 276 8 [(0, .inr (.inr 150)), (1, .inl (x1))] [.inl (f_M_isIn (px_up s 150 0 0) x1 0 1)] (px_G1, px_up s 150 0 0) _
  refine px_D_ifc rfl (fun hc => ?_) (fun hc => ?_)
  · have hc1 : ¬ ((f_M_isIn (px_up s 150 0 0) x1 0 1) = (0)) := of_decide_eq_true hc
    rw [if_neg hc1] at h
    refine px_D_st 6 (ip1 := 17) (ls1 := [(4, .inl (0)), (3, .inl (0)), (2, .inl ((-1))), (0, .inr (.inr 150)), (1, .inl (x1))]) (st1 := []) (h1 := (px_G1, px_up s 150 0 0)) rfl ?_
    refine px_D_ls [(0, .inr (.inr 150)), (1, .inl (x1)), (2, .inl ((-1))), (3, .inl (0)), (4, .inl (0))] rfl rfl (List.forall_mem_cons.mpr ⟨rfl, List.forall_mem_cons.mpr ⟨rfl, List.forall_mem_cons.mpr ⟨rfl, List.forall_mem_cons.mpr ⟨rfl, List.forall_mem_cons.mpr ⟨rfl, fun _ h => absurd h List.not_mem_nil⟩⟩⟩⟩⟩) ?_
    refine cl_M_messengers_17 ?_ px_big _ _ _ _ _ _ h
    · intro s x1 x2 x3 out h
      refine px_D_st 1 (ip1 := 39) (ls1 := [(1, .inl (x1)), (2, .inl (x2)), (3, .inl (x3))]) (st1 := [.inl (x1)]) (h1 := (px_G1, s)) rfl ?_
      refine px_D_ifc rfl (fun hc => ?_) (fun hc => ?_)
      · have hc7 : ¬ ((x1) = (0)) := of_decide_eq_true hc
        rw [if_neg hc7] at h
        refine px_D_st 1 (ip1 := 43) (ls1 := [(1, .inl (x1)), (2, .inl (x2)), (3, .inl (x3))]) (st1 := [.inl (x2)]) (h1 := (px_G1, s)) rfl ?_
        cases h
        exact px_D_iret rfl rfl ⟨rfl, rfl⟩
      · have hc7 : (x1) = (0) := Decidable.of_not_not (of_decide_eq_false hc)
        rw [if_pos hc7] at h
        refine px_D_st 2 (ip1 := 43) (ls1 := [(1, .inl (x1)), (2, .inl (x2)), (3, .inl (x3))]) (st1 := [.inl (x3)]) (h1 := (px_G1, s)) rfl ?_
        cases h
        exact px_D_iret rfl rfl ⟨rfl, rfl⟩
  · have hc1 : (f_M_isIn (px_up s 150 0 0) x1 0 1) = (0) := Decidable.of_not_not (of_decide_eq_false hc)
    rw [if_pos hc1] at h
    refine px_D_st 1 (ip1 := 10) (ls1 := [(0, .inr (.inr 150)), (1, .inl (x1))]) (st1 := [.inl ((-1))]) (h1 := (px_G1, px_up s 150 0 0)) rfl ?_
    cases h
    exact px_D_iret rfl rfl ⟨rfl, rfl⟩

def f_M_keeps (s : px_Z) (x1 : Int) : Option (Int × px_Z) := if ((px_up s 150 62 (px_wr ((s 150 62) + 1))) 150 60) = (0) then (if 0 ≤ (px_wr (((px_up s 150 62 (px_wr ((s 150 62) + 1))) 150 62) - 1)) ∧ (px_wr (((px_up s 150 62 (px_wr ((s 150 62) + 1))) 150 62) - 1)) < 3000 then some (((px_up s 150 62 (px_wr ((s 150 62) + 1))) 184 (px_wr (((px_up s 150 62 (px_wr ((s 150 62) + 1))) 150 62) - 1)).toNat, px_up s 150 62 (px_wr ((s 150 62) + 1)))) else none) else (if 0 ≤ (px_wr (((px_up s 150 62 (px_wr ((s 150 62) + 1))) 150 62) - 1)) ∧ (px_wr (((px_up s 150 62 (px_wr ((s 150 62) + 1))) 150 62) - 1)) < 3000 then some ((x1, px_up (px_up s 150 62 (px_wr ((s 150 62) + 1))) 184 (px_wr (((px_up s 150 62 (px_wr ((s 150 62) + 1))) 150 62) - 1)).toNat x1)) else none)
set_option maxHeartbeats 4000000 in
set_option maxRecDepth 100000 in
theorem c_M_keeps {sc : List Int} {d : Nat} {s : px_Z} {x1 : Int} {out : Int × px_Z} (h : f_M_keeps s x1 = some out) : px_D sc (d + 0) 277 0 [(0, .inr (.inr 150)), (1, .inl (x1))] [] (px_G1, s) (px_Qi out) := by
  unfold f_M_keeps at h
  refine px_D_st 8 (ip1 := 8) (ls1 := [(0, .inr (.inr 150)), (1, .inl (x1))]) (st1 := [.inl ((px_up s 150 62 (px_wr ((s 150 62) + 1))) 150 60)]) (h1 := (px_G1, px_up s 150 62 (px_wr ((s 150 62) + 1)))) rfl ?_
  refine px_D_ifc rfl (fun hc => ?_) (fun hc => ?_)
  · have hc1 : ¬ (((px_up s 150 62 (px_wr ((s 150 62) + 1))) 150 60) = (0)) := of_decide_eq_true hc
    rw [if_neg hc1] at h
    refine px_D_st 7 (ip1 := 24) (ls1 := [(0, .inr (.inr 150)), (1, .inl (x1))]) (st1 := [.inl (x1), .inl (px_wr (((px_up s 150 62 (px_wr ((s 150 62) + 1))) 150 62) - 1)), .inr (.inr 184)]) (h1 := (px_G1, px_up s 150 62 (px_wr ((s 150 62) + 1)))) rfl ?_
    by_cases hc2 : 0 ≤ (px_wr (((px_up s 150 62 (px_wr ((s 150 62) + 1))) 150 62) - 1)) ∧ (px_wr (((px_up s 150 62 (px_wr ((s 150 62) + 1))) 150 62) - 1)) < 3000
    case neg => rw [if_neg hc2] at h; cases h
    rw [if_pos hc2] at h
    refine px_D_iast (k := 179) (n := 3000) rfl rfl hc2 ?_
    refine px_D_st 1 (ip1 := 26) (ls1 := [(0, .inr (.inr 150)), (1, .inl (x1))]) (st1 := [.inl (x1)]) (h1 := (px_G1, px_up (px_up s 150 62 (px_wr ((s 150 62) + 1))) 184 (px_wr (((px_up s 150 62 (px_wr ((s 150 62) + 1))) 150 62) - 1)).toNat x1)) rfl ?_
    cases h
    exact px_D_iret rfl rfl ⟨rfl, rfl⟩
  · have hc1 : ((px_up s 150 62 (px_wr ((s 150 62) + 1))) 150 60) = (0) := Decidable.of_not_not (of_decide_eq_false hc)
    rw [if_pos hc1] at h
    refine px_D_st 6 (ip1 := 15) (ls1 := [(0, .inr (.inr 150)), (1, .inl (x1))]) (st1 := [.inl (px_wr (((px_up s 150 62 (px_wr ((s 150 62) + 1))) 150 62) - 1)), .inr (.inr 184)]) (h1 := (px_G1, px_up s 150 62 (px_wr ((s 150 62) + 1)))) rfl ?_
    by_cases hc3 : 0 ≤ (px_wr (((px_up s 150 62 (px_wr ((s 150 62) + 1))) 150 62) - 1)) ∧ (px_wr (((px_up s 150 62 (px_wr ((s 150 62) + 1))) 150 62) - 1)) < 3000
    case neg => rw [if_neg hc3] at h; cases h
    rw [if_pos hc3] at h
    refine px_D_iald (k := 179) (n := 3000) rfl rfl hc3 ?_
    cases h
    exact px_D_iret rfl rfl ⟨rfl, rfl⟩

def l_M_keepsLaw_14 (k63 : px_Z → Int → Option (px_Z)) : Nat → px_Z → Int → Int → Option (px_Z)
  | 0, _, _, _ => none
  | n + 1, s, x1, x2 => if (px_wr ((px_wr (16 * x1)) + 16)) ≤ (x2) then k63 s x1 else (if 0 ≤ (x2) ∧ (x2) < 48 then (f_M_keeps s (s 159 x2.toNat)).bind (fun q6 => if 0 ≤ (x2) ∧ (x2) < 48 then if 0 ≤ (x2) ∧ (x2) < 48 then (f_M_keeps (px_up q6.2 159 x2.toNat q6.1) ((px_up q6.2 159 x2.toNat q6.1) 160 x2.toNat)).bind (fun q9 => if 0 ≤ (x2) ∧ (x2) < 48 then if 0 ≤ (x2) ∧ (x2) < 48 then (f_M_keeps (px_up q9.2 160 x2.toNat q9.1) ((px_up q9.2 160 x2.toNat q9.1) 161 x2.toNat)).bind (fun q12 => if 0 ≤ (x2) ∧ (x2) < 48 then if 0 ≤ (x2) ∧ (x2) < 48 then (f_M_keeps (px_up q12.2 161 x2.toNat q12.1) ((px_up q12.2 161 x2.toNat q12.1) 162 x2.toNat)).bind (fun q15 => if 0 ≤ (x2) ∧ (x2) < 48 then l_M_keepsLaw_14 k63 n (px_up q15.2 162 x2.toNat q15.1) x1 (px_wr (x2 + 1)) else none) else none else none) else none else none) else none else none) else none)
set_option maxHeartbeats 4000000 in
set_option maxRecDepth 100000 in
theorem cl_M_keepsLaw_14 {sc : List Int} {d : Nat} {k63 : px_Z → Int → Option (px_Z)}  (hk63 : ∀ (s : px_Z) (y1 : Int) (out : px_Z), k63 s y1 = some out → px_D sc (d + 1) 278 63 [(0, .inr (.inr 150)), (1, .inl (y1))] [] (px_G1, s) (px_Qv out)) : ∀ (n : Nat) (s : px_Z) (x1 : Int) (x2 : Int) (out : px_Z), l_M_keepsLaw_14 k63 n s x1 x2 = some out → px_D sc (d + 1) 278 14 [(0, .inr (.inr 150)), (1, .inl (x1)), (2, .inl (x2))] [] (px_G1, s) (px_Qv out) := by
  intro n
  induction n with
  | zero => intro s x1 x2 out h; cases h
  | succ n ih =>
    intro s x1 x2 out h
    rw [l_M_keepsLaw_14] at h
    refine px_D_st 6 (ip1 := 20) (ls1 := [(0, .inr (.inr 150)), (1, .inl (x1)), (2, .inl (x2))]) (st1 := [.inl (px_wr ((px_wr (16 * x1)) + 16)), .inl (x2)]) (h1 := (px_G1, s)) rfl ?_
    refine px_D_icmp rfl (fun hc => ?_) (fun hc => ?_)
    · have hc4 : (px_wr ((px_wr (16 * x1)) + 16)) ≤ (x2) := of_decide_eq_true hc
      rw [if_pos hc4] at h
      refine px_D_ls [(0, .inr (.inr 150)), (1, .inl (x1))] rfl rfl (List.forall_mem_cons.mpr ⟨rfl, List.forall_mem_cons.mpr ⟨rfl, fun _ h => absurd h List.not_mem_nil⟩⟩) ?_
      exact hk63 _ _ _ h
    · have hc4 : ¬ ((px_wr ((px_wr (16 * x1)) + 16)) ≤ (x2)) := of_decide_eq_false hc
      rw [if_neg hc4] at h
      refine px_D_st 7 (ip1 := 28) (ls1 := [(0, .inr (.inr 150)), (1, .inl (x1)), (2, .inl (x2))]) (st1 := [.inl (x2), .inr (.inr 159), .inr (.inr 150), .inl (x2), .inr (.inr 159)]) (h1 := (px_G1, s)) rfl ?_
      by_cases hc5 : 0 ≤ (x2) ∧ (x2) < 48
      case neg => rw [if_neg hc5] at h; cases h
      rw [if_pos hc5] at h
      refine px_D_iald (k := 154) (n := 48) rfl rfl hc5 ?_
      refine px_D_call (as := [.inr (.inr 150), .inl (s 159 x2.toNat)]) (rest := [.inl (x2), .inr (.inr 159)]) rfl rfl rfl rfl ?_
      obtain ⟨q6, hq6, h⟩ := Option.bind_eq_some_iff.mp h
      refine px_D_mono (c_M_keeps (d := d + 0) hq6) ?_
      rintro _ _ ⟨rfl, rfl⟩
      show px_D sc (d + 1) 278 30 [(0, .inr (.inr 150)), (1, .inl (x1)), (2, .inl (x2))] [.inl (q6.1), .inl (x2), .inr (.inr 159)] (px_G1, q6.2) _
      by_cases hc7 : 0 ≤ (x2) ∧ (x2) < 48
      case neg => rw [if_neg hc7] at h; cases h
      rw [if_pos hc7] at h
      refine px_D_iast (k := 154) (n := 48) rfl rfl hc7 ?_
      refine px_D_st 7 (ip1 := 38) (ls1 := [(0, .inr (.inr 150)), (1, .inl (x1)), (2, .inl (x2))]) (st1 := [.inl (x2), .inr (.inr 160), .inr (.inr 150), .inl (x2), .inr (.inr 160)]) (h1 := (px_G1, px_up q6.2 159 x2.toNat q6.1)) rfl ?_
      by_cases hc8 : 0 ≤ (x2) ∧ (x2) < 48
      case neg => rw [if_neg hc8] at h; cases h
      rw [if_pos hc8] at h
      refine px_D_iald (k := 155) (n := 48) rfl rfl hc8 ?_
      refine px_D_call (as := [.inr (.inr 150), .inl ((px_up q6.2 159 x2.toNat q6.1) 160 x2.toNat)]) (rest := [.inl (x2), .inr (.inr 160)]) rfl rfl rfl rfl ?_
      obtain ⟨q9, hq9, h⟩ := Option.bind_eq_some_iff.mp h
      refine px_D_mono (c_M_keeps (d := d + 0) hq9) ?_
      rintro _ _ ⟨rfl, rfl⟩
      show px_D sc (d + 1) 278 40 [(0, .inr (.inr 150)), (1, .inl (x1)), (2, .inl (x2))] [.inl (q9.1), .inl (x2), .inr (.inr 160)] (px_G1, q9.2) _
      by_cases hc10 : 0 ≤ (x2) ∧ (x2) < 48
      case neg => rw [if_neg hc10] at h; cases h
      rw [if_pos hc10] at h
      refine px_D_iast (k := 155) (n := 48) rfl rfl hc10 ?_
      refine px_D_st 7 (ip1 := 48) (ls1 := [(0, .inr (.inr 150)), (1, .inl (x1)), (2, .inl (x2))]) (st1 := [.inl (x2), .inr (.inr 161), .inr (.inr 150), .inl (x2), .inr (.inr 161)]) (h1 := (px_G1, px_up q9.2 160 x2.toNat q9.1)) rfl ?_
      by_cases hc11 : 0 ≤ (x2) ∧ (x2) < 48
      case neg => rw [if_neg hc11] at h; cases h
      rw [if_pos hc11] at h
      refine px_D_iald (k := 156) (n := 48) rfl rfl hc11 ?_
      refine px_D_call (as := [.inr (.inr 150), .inl ((px_up q9.2 160 x2.toNat q9.1) 161 x2.toNat)]) (rest := [.inl (x2), .inr (.inr 161)]) rfl rfl rfl rfl ?_
      obtain ⟨q12, hq12, h⟩ := Option.bind_eq_some_iff.mp h
      refine px_D_mono (c_M_keeps (d := d + 0) hq12) ?_
      rintro _ _ ⟨rfl, rfl⟩
      show px_D sc (d + 1) 278 50 [(0, .inr (.inr 150)), (1, .inl (x1)), (2, .inl (x2))] [.inl (q12.1), .inl (x2), .inr (.inr 161)] (px_G1, q12.2) _
      by_cases hc13 : 0 ≤ (x2) ∧ (x2) < 48
      case neg => rw [if_neg hc13] at h; cases h
      rw [if_pos hc13] at h
      refine px_D_iast (k := 156) (n := 48) rfl rfl hc13 ?_
      refine px_D_st 7 (ip1 := 58) (ls1 := [(0, .inr (.inr 150)), (1, .inl (x1)), (2, .inl (x2))]) (st1 := [.inl (x2), .inr (.inr 162), .inr (.inr 150), .inl (x2), .inr (.inr 162)]) (h1 := (px_G1, px_up q12.2 161 x2.toNat q12.1)) rfl ?_
      by_cases hc14 : 0 ≤ (x2) ∧ (x2) < 48
      case neg => rw [if_neg hc14] at h; cases h
      rw [if_pos hc14] at h
      refine px_D_iald (k := 157) (n := 48) rfl rfl hc14 ?_
      refine px_D_call (as := [.inr (.inr 150), .inl ((px_up q12.2 161 x2.toNat q12.1) 162 x2.toNat)]) (rest := [.inl (x2), .inr (.inr 162)]) rfl rfl rfl rfl ?_
      obtain ⟨q15, hq15, h⟩ := Option.bind_eq_some_iff.mp h
      refine px_D_mono (c_M_keeps (d := d + 0) hq15) ?_
      rintro _ _ ⟨rfl, rfl⟩
      show px_D sc (d + 1) 278 60 [(0, .inr (.inr 150)), (1, .inl (x1)), (2, .inl (x2))] [.inl (q15.1), .inl (x2), .inr (.inr 162)] (px_G1, q15.2) _
      by_cases hc16 : 0 ≤ (x2) ∧ (x2) < 48
      case neg => rw [if_neg hc16] at h; cases h
      rw [if_pos hc16] at h
      refine px_D_iast (k := 157) (n := 48) rfl rfl hc16 ?_
      refine px_D_st 2 (ip1 := 14) (ls1 := [(2, .inl (px_wr (x2 + 1))), (0, .inr (.inr 150)), (1, .inl (x1))]) (st1 := []) (h1 := (px_G1, px_up q15.2 162 x2.toNat q15.1)) rfl ?_
      refine px_D_ls [(0, .inr (.inr 150)), (1, .inl (x1)), (2, .inl (px_wr (x2 + 1)))] rfl rfl (List.forall_mem_cons.mpr ⟨rfl, List.forall_mem_cons.mpr ⟨rfl, List.forall_mem_cons.mpr ⟨rfl, fun _ h => absurd h List.not_mem_nil⟩⟩⟩) ?_
      exact ih _ _ _ _ h
def l_M_keepsLaw_67  : Nat → px_Z → Int → Int → Option (px_Z)
  | 0, _, _, _ => none
  | n + 1, s, x1, x2 => if (px_wr ((px_wr (400 * x1)) + 400)) ≤ (x2) then some s else (if 0 ≤ (x2) ∧ (x2) < 1200 then (f_M_keeps s (s 163 x2.toNat)).bind (fun q19 => if 0 ≤ (x2) ∧ (x2) < 1200 then if 0 ≤ (x2) ∧ (x2) < 1200 then (f_M_keeps (px_up q19.2 163 x2.toNat q19.1) ((px_up q19.2 163 x2.toNat q19.1) 164 x2.toNat)).bind (fun q22 => if 0 ≤ (x2) ∧ (x2) < 1200 then l_M_keepsLaw_67  n (px_up q22.2 164 x2.toNat q22.1) x1 (px_wr (x2 + 1)) else none) else none else none) else none)
set_option maxHeartbeats 4000000 in
set_option maxRecDepth 100000 in
theorem cl_M_keepsLaw_67 {sc : List Int} {d : Nat}  : ∀ (n : Nat) (s : px_Z) (x1 : Int) (x2 : Int) (out : px_Z), l_M_keepsLaw_67  n s x1 x2 = some out → px_D sc (d + 1) 278 67 [(0, .inr (.inr 150)), (1, .inl (x1)), (2, .inl (x2))] [] (px_G1, s) (px_Qv out) := by
  intro n
  induction n with
  | zero => intro s x1 x2 out h; cases h
  | succ n ih =>
    intro s x1 x2 out h
    rw [l_M_keepsLaw_67] at h
    refine px_D_st 6 (ip1 := 73) (ls1 := [(0, .inr (.inr 150)), (1, .inl (x1)), (2, .inl (x2))]) (st1 := [.inl (px_wr ((px_wr (400 * x1)) + 400)), .inl (x2)]) (h1 := (px_G1, s)) rfl ?_
    refine px_D_icmp rfl (fun hc => ?_) (fun hc => ?_)
    · have hc17 : (px_wr ((px_wr (400 * x1)) + 400)) ≤ (x2) := of_decide_eq_true hc
      rw [if_pos hc17] at h
      cases h
      exact px_D_vret rfl ⟨rfl, rfl⟩
    · have hc17 : ¬ ((px_wr ((px_wr (400 * x1)) + 400)) ≤ (x2)) := of_decide_eq_false hc
      rw [if_neg hc17] at h
      refine px_D_st 7 (ip1 := 81) (ls1 := [(0, .inr (.inr 150)), (1, .inl (x1)), (2, .inl (x2))]) (st1 := [.inl (x2), .inr (.inr 163), .inr (.inr 150), .inl (x2), .inr (.inr 163)]) (h1 := (px_G1, s)) rfl ?_
      by_cases hc18 : 0 ≤ (x2) ∧ (x2) < 1200
      case neg => rw [if_neg hc18] at h; cases h
      rw [if_pos hc18] at h
      refine px_D_iald (k := 158) (n := 1200) rfl rfl hc18 ?_
      refine px_D_call (as := [.inr (.inr 150), .inl (s 163 x2.toNat)]) (rest := [.inl (x2), .inr (.inr 163)]) rfl rfl rfl rfl ?_
      obtain ⟨q19, hq19, h⟩ := Option.bind_eq_some_iff.mp h
      refine px_D_mono (c_M_keeps (d := d + 0) hq19) ?_
      rintro _ _ ⟨rfl, rfl⟩
      show px_D sc (d + 1) 278 83 [(0, .inr (.inr 150)), (1, .inl (x1)), (2, .inl (x2))] [.inl (q19.1), .inl (x2), .inr (.inr 163)] (px_G1, q19.2) _
      by_cases hc20 : 0 ≤ (x2) ∧ (x2) < 1200
      case neg => rw [if_neg hc20] at h; cases h
      rw [if_pos hc20] at h
      refine px_D_iast (k := 158) (n := 1200) rfl rfl hc20 ?_
      refine px_D_st 7 (ip1 := 91) (ls1 := [(0, .inr (.inr 150)), (1, .inl (x1)), (2, .inl (x2))]) (st1 := [.inl (x2), .inr (.inr 164), .inr (.inr 150), .inl (x2), .inr (.inr 164)]) (h1 := (px_G1, px_up q19.2 163 x2.toNat q19.1)) rfl ?_
      by_cases hc21 : 0 ≤ (x2) ∧ (x2) < 1200
      case neg => rw [if_neg hc21] at h; cases h
      rw [if_pos hc21] at h
      refine px_D_iald (k := 159) (n := 1200) rfl rfl hc21 ?_
      refine px_D_call (as := [.inr (.inr 150), .inl ((px_up q19.2 163 x2.toNat q19.1) 164 x2.toNat)]) (rest := [.inl (x2), .inr (.inr 164)]) rfl rfl rfl rfl ?_
      obtain ⟨q22, hq22, h⟩ := Option.bind_eq_some_iff.mp h
      refine px_D_mono (c_M_keeps (d := d + 0) hq22) ?_
      rintro _ _ ⟨rfl, rfl⟩
      show px_D sc (d + 1) 278 93 [(0, .inr (.inr 150)), (1, .inl (x1)), (2, .inl (x2))] [.inl (q22.1), .inl (x2), .inr (.inr 164)] (px_G1, q22.2) _
      by_cases hc23 : 0 ≤ (x2) ∧ (x2) < 1200
      case neg => rw [if_neg hc23] at h; cases h
      rw [if_pos hc23] at h
      refine px_D_iast (k := 159) (n := 1200) rfl rfl hc23 ?_
      refine px_D_st 2 (ip1 := 67) (ls1 := [(2, .inl (px_wr (x2 + 1))), (0, .inr (.inr 150)), (1, .inl (x1))]) (st1 := []) (h1 := (px_G1, px_up q22.2 164 x2.toNat q22.1)) rfl ?_
      refine px_D_ls [(0, .inr (.inr 150)), (1, .inl (x1)), (2, .inl (px_wr (x2 + 1)))] rfl rfl (List.forall_mem_cons.mpr ⟨rfl, List.forall_mem_cons.mpr ⟨rfl, List.forall_mem_cons.mpr ⟨rfl, fun _ h => absurd h List.not_mem_nil⟩⟩⟩) ?_
      exact ih _ _ _ _ h
def f_M_keepsLaw (s : px_Z) (x1 : Int) : Option (px_Z) := if 0 ≤ (x1) ∧ (x1) < 2 then (f_M_keeps s (s 158 x1.toNat)).bind (fun q2 => if 0 ≤ (x1) ∧ (x1) < 2 then l_M_keepsLaw_14 (fun s x1 => l_M_keepsLaw_67  px_big s x1 (px_wr (400 * x1))) px_big (px_up q2.2 158 x1.toNat q2.1) x1 (px_wr (16 * x1)) else none) else none
set_option maxHeartbeats 4000000 in
set_option maxRecDepth 100000 in
theorem c_M_keepsLaw {sc : List Int} {d : Nat} {s : px_Z} {x1 : Int} {out : px_Z} (h : f_M_keepsLaw s x1 = some out) : px_D sc (d + 1) 278 0 [(0, .inr (.inr 150)), (1, .inl (x1))] [] (px_G1, s) (px_Qv out) := by
  unfold f_M_keepsLaw at h
  refine px_D_st 7 (ip1 := 7) (ls1 := [(0, .inr (.inr 150)), (1, .inl (x1))]) (st1 := [.inl (x1), .inr (.inr 158), .inr (.inr 150), .inl (x1), .inr (.inr 158)]) (h1 := (px_G1, s)) rfl ?_
  by_cases hc1 : 0 ≤ (x1) ∧ (x1) < 2
  case neg => rw [if_neg hc1] at h; cases h
  rw [if_pos hc1] at h
  refine px_D_iald (k := 153) (n := 2) rfl rfl hc1 ?_
  refine px_D_call (as := [.inr (.inr 150), .inl (s 158 x1.toNat)]) (rest := [.inl (x1), .inr (.inr 158)]) rfl rfl rfl rfl ?_
  obtain ⟨q2, hq2, h⟩ := Option.bind_eq_some_iff.mp h
  refine px_D_mono (c_M_keeps (d := d + 0) hq2) ?_
  rintro _ _ ⟨rfl, rfl⟩
  show px_D sc (d + 1) 278 9 [(0, .inr (.inr 150)), (1, .inl (x1))] [.inl (q2.1), .inl (x1), .inr (.inr 158)] (px_G1, q2.2) _
  by_cases hc3 : 0 ≤ (x1) ∧ (x1) < 2
  case neg => rw [if_neg hc3] at h; cases h
  rw [if_pos hc3] at h
  refine px_D_iast (k := 153) (n := 2) rfl rfl hc3 ?_
  refine px_D_st 4 (ip1 := 14) (ls1 := [(2, .inl (px_wr (16 * x1))), (0, .inr (.inr 150)), (1, .inl (x1))]) (st1 := []) (h1 := (px_G1, px_up q2.2 158 x1.toNat q2.1)) rfl ?_
  refine px_D_ls [(0, .inr (.inr 150)), (1, .inl (x1)), (2, .inl (px_wr (16 * x1)))] rfl rfl (List.forall_mem_cons.mpr ⟨rfl, List.forall_mem_cons.mpr ⟨rfl, List.forall_mem_cons.mpr ⟨rfl, fun _ h => absurd h List.not_mem_nil⟩⟩⟩) ?_
  refine cl_M_keepsLaw_14 ?_ px_big _ _ _ _ h
  · intro s x1 out h
    refine px_D_st 4 (ip1 := 67) (ls1 := [(2, .inl (px_wr (400 * x1))), (0, .inr (.inr 150)), (1, .inl (x1))]) (st1 := []) (h1 := (px_G1, s)) rfl ?_
    refine px_D_ls [(0, .inr (.inr 150)), (1, .inl (x1)), (2, .inl (px_wr (400 * x1)))] rfl rfl (List.forall_mem_cons.mpr ⟨rfl, List.forall_mem_cons.mpr ⟨rfl, List.forall_mem_cons.mpr ⟨rfl, fun _ h => absurd h List.not_mem_nil⟩⟩⟩) ?_
    refine cl_M_keepsLaw_67  px_big _ _ _ _ h

def l_M_keepsTold_62 (k97 : px_Z → Option (px_Z)) : Nat → px_Z → Int → Option (px_Z)
  | 0, _, _ => none
  | n + 1, s, x1 => if (8) ≤ (x1) then k97 s  else (if 0 ≤ (x1) ∧ (x1) < 8 then (f_M_keeps s (s 154 x1.toNat)).bind (fun q13 => if 0 ≤ (x1) ∧ (x1) < 8 then if 0 ≤ (x1) ∧ (x1) < 16 then (f_M_keeps (px_up q13.2 154 x1.toNat q13.1) ((px_up q13.2 154 x1.toNat q13.1) 167 x1.toNat)).bind (fun q16 => if 0 ≤ (x1) ∧ (x1) < 16 then if 0 ≤ (x1) ∧ (x1) < 8 then (f_M_keeps (px_up q16.2 167 x1.toNat q16.1) ((px_up q16.2 167 x1.toNat q16.1) 178 x1.toNat)).bind (fun q19 => if 0 ≤ (x1) ∧ (x1) < 8 then l_M_keepsTold_62 k97 n (px_up q19.2 178 x1.toNat q19.1) (px_wr (x1 + 1)) else none) else none else none) else none else none) else none)
set_option maxHeartbeats 4000000 in
set_option maxRecDepth 100000 in
theorem cl_M_keepsTold_62 {sc : List Int} {d : Nat} {k97 : px_Z → Option (px_Z)}  (hk97 : ∀ (s : px_Z) (out : px_Z), k97 s  = some out → px_D sc (d + 1) 279 97 [(0, .inr (.inr 150))] [] (px_G1, s) (px_Qv out)) : ∀ (n : Nat) (s : px_Z) (x1 : Int) (out : px_Z), l_M_keepsTold_62 k97 n s x1 = some out → px_D sc (d + 1) 279 62 [(0, .inr (.inr 150)), (1, .inl (x1))] [] (px_G1, s) (px_Qv out) := by
  intro n
  induction n with
  | zero => intro s x1 out h; cases h
  | succ n ih =>
    intro s x1 out h
    rw [l_M_keepsTold_62] at h
    refine px_D_st 2 (ip1 := 64) (ls1 := [(0, .inr (.inr 150)), (1, .inl (x1))]) (st1 := [.inl (8), .inl (x1)]) (h1 := (px_G1, s)) rfl ?_
    refine px_D_icmp rfl (fun hc => ?_) (fun hc => ?_)
    · have hc11 : (8) ≤ (x1) := of_decide_eq_true hc
      rw [if_pos hc11] at h
      refine px_D_ls [(0, .inr (.inr 150))] rfl rfl (List.forall_mem_cons.mpr ⟨rfl, fun _ h => absurd h List.not_mem_nil⟩) ?_
      exact hk97 _ _ h
    · have hc11 : ¬ ((8) ≤ (x1)) := of_decide_eq_false hc
      rw [if_neg hc11] at h
      refine px_D_st 7 (ip1 := 72) (ls1 := [(0, .inr (.inr 150)), (1, .inl (x1))]) (st1 := [.inl (x1), .inr (.inr 154), .inr (.inr 150), .inl (x1), .inr (.inr 154)]) (h1 := (px_G1, s)) rfl ?_
      by_cases hc12 : 0 ≤ (x1) ∧ (x1) < 8
      case neg => rw [if_neg hc12] at h; cases h
      rw [if_pos hc12] at h
      refine px_D_iald (k := 149) (n := 8) rfl rfl hc12 ?_
      refine px_D_call (as := [.inr (.inr 150), .inl (s 154 x1.toNat)]) (rest := [.inl (x1), .inr (.inr 154)]) rfl rfl rfl rfl ?_
      obtain ⟨q13, hq13, h⟩ := Option.bind_eq_some_iff.mp h
      refine px_D_mono (c_M_keeps (d := d + 0) hq13) ?_
      rintro _ _ ⟨rfl, rfl⟩
      show px_D sc (d + 1) 279 74 [(0, .inr (.inr 150)), (1, .inl (x1))] [.inl (q13.1), .inl (x1), .inr (.inr 154)] (px_G1, q13.2) _
      by_cases hc14 : 0 ≤ (x1) ∧ (x1) < 8
      case neg => rw [if_neg hc14] at h; cases h
      rw [if_pos hc14] at h
      refine px_D_iast (k := 149) (n := 8) rfl rfl hc14 ?_
      refine px_D_st 7 (ip1 := 82) (ls1 := [(0, .inr (.inr 150)), (1, .inl (x1))]) (st1 := [.inl (x1), .inr (.inr 167), .inr (.inr 150), .inl (x1), .inr (.inr 167)]) (h1 := (px_G1, px_up q13.2 154 x1.toNat q13.1)) rfl ?_
      by_cases hc15 : 0 ≤ (x1) ∧ (x1) < 16
      case neg => rw [if_neg hc15] at h; cases h
      rw [if_pos hc15] at h
      refine px_D_iald (k := 162) (n := 16) rfl rfl hc15 ?_
      refine px_D_call (as := [.inr (.inr 150), .inl ((px_up q13.2 154 x1.toNat q13.1) 167 x1.toNat)]) (rest := [.inl (x1), .inr (.inr 167)]) rfl rfl rfl rfl ?_
      obtain ⟨q16, hq16, h⟩ := Option.bind_eq_some_iff.mp h
      refine px_D_mono (c_M_keeps (d := d + 0) hq16) ?_
      rintro _ _ ⟨rfl, rfl⟩
      show px_D sc (d + 1) 279 84 [(0, .inr (.inr 150)), (1, .inl (x1))] [.inl (q16.1), .inl (x1), .inr (.inr 167)] (px_G1, q16.2) _
      by_cases hc17 : 0 ≤ (x1) ∧ (x1) < 16
      case neg => rw [if_neg hc17] at h; cases h
      rw [if_pos hc17] at h
      refine px_D_iast (k := 162) (n := 16) rfl rfl hc17 ?_
      refine px_D_st 7 (ip1 := 92) (ls1 := [(0, .inr (.inr 150)), (1, .inl (x1))]) (st1 := [.inl (x1), .inr (.inr 178), .inr (.inr 150), .inl (x1), .inr (.inr 178)]) (h1 := (px_G1, px_up q16.2 167 x1.toNat q16.1)) rfl ?_
      by_cases hc18 : 0 ≤ (x1) ∧ (x1) < 8
      case neg => rw [if_neg hc18] at h; cases h
      rw [if_pos hc18] at h
      refine px_D_iald (k := 173) (n := 8) rfl rfl hc18 ?_
      refine px_D_call (as := [.inr (.inr 150), .inl ((px_up q16.2 167 x1.toNat q16.1) 178 x1.toNat)]) (rest := [.inl (x1), .inr (.inr 178)]) rfl rfl rfl rfl ?_
      obtain ⟨q19, hq19, h⟩ := Option.bind_eq_some_iff.mp h
      refine px_D_mono (c_M_keeps (d := d + 0) hq19) ?_
      rintro _ _ ⟨rfl, rfl⟩
      show px_D sc (d + 1) 279 94 [(0, .inr (.inr 150)), (1, .inl (x1))] [.inl (q19.1), .inl (x1), .inr (.inr 178)] (px_G1, q19.2) _
      by_cases hc20 : 0 ≤ (x1) ∧ (x1) < 8
      case neg => rw [if_neg hc20] at h; cases h
      rw [if_pos hc20] at h
      refine px_D_iast (k := 173) (n := 8) rfl rfl hc20 ?_
      refine px_D_st 2 (ip1 := 62) (ls1 := [(1, .inl (px_wr (x1 + 1))), (0, .inr (.inr 150))]) (st1 := []) (h1 := (px_G1, px_up q19.2 178 x1.toNat q19.1)) rfl ?_
      refine px_D_ls [(0, .inr (.inr 150)), (1, .inl (px_wr (x1 + 1)))] rfl rfl (List.forall_mem_cons.mpr ⟨rfl, List.forall_mem_cons.mpr ⟨rfl, fun _ h => absurd h List.not_mem_nil⟩⟩) ?_
      exact ih _ _ _ h
def l_M_keepsTold_99 (k154 : px_Z → Option (px_Z)) : Nat → px_Z → Int → Option (px_Z)
  | 0, _, _ => none
  | n + 1, s, x1 => if (12) ≤ (x1) then k154 s  else (if 0 ≤ (x1) ∧ (x1) < 12 then (f_M_keeps s (s 179 x1.toNat)).bind (fun q23 => if 0 ≤ (x1) ∧ (x1) < 12 then if 0 ≤ (x1) ∧ (x1) < 12 then (f_M_keeps (px_up q23.2 179 x1.toNat q23.1) ((px_up q23.2 179 x1.toNat q23.1) 180 x1.toNat)).bind (fun q26 => if 0 ≤ (x1) ∧ (x1) < 12 then if 0 ≤ (x1) ∧ (x1) < 12 then (f_M_keeps (px_up q26.2 180 x1.toNat q26.1) ((px_up q26.2 180 x1.toNat q26.1) 181 x1.toNat)).bind (fun q29 => if 0 ≤ (x1) ∧ (x1) < 12 then if 0 ≤ (x1) ∧ (x1) < 12 then (f_M_keeps (px_up q29.2 181 x1.toNat q29.1) ((px_up q29.2 181 x1.toNat q29.1) 182 x1.toNat)).bind (fun q32 => if 0 ≤ (x1) ∧ (x1) < 12 then if 0 ≤ (x1) ∧ (x1) < 12 then (f_M_keeps (px_up q32.2 182 x1.toNat q32.1) ((px_up q32.2 182 x1.toNat q32.1) 183 x1.toNat)).bind (fun q35 => if 0 ≤ (x1) ∧ (x1) < 12 then l_M_keepsTold_99 k154 n (px_up q35.2 183 x1.toNat q35.1) (px_wr (x1 + 1)) else none) else none else none) else none else none) else none else none) else none else none) else none)
set_option maxHeartbeats 4000000 in
set_option maxRecDepth 100000 in
theorem cl_M_keepsTold_99 {sc : List Int} {d : Nat} {k154 : px_Z → Option (px_Z)}  (hk154 : ∀ (s : px_Z) (out : px_Z), k154 s  = some out → px_D sc (d + 1) 279 154 [(0, .inr (.inr 150))] [] (px_G1, s) (px_Qv out)) : ∀ (n : Nat) (s : px_Z) (x1 : Int) (out : px_Z), l_M_keepsTold_99 k154 n s x1 = some out → px_D sc (d + 1) 279 99 [(0, .inr (.inr 150)), (1, .inl (x1))] [] (px_G1, s) (px_Qv out) := by
  intro n
  induction n with
  | zero => intro s x1 out h; cases h
  | succ n ih =>
    intro s x1 out h
    rw [l_M_keepsTold_99] at h
    refine px_D_st 2 (ip1 := 101) (ls1 := [(0, .inr (.inr 150)), (1, .inl (x1))]) (st1 := [.inl (12), .inl (x1)]) (h1 := (px_G1, s)) rfl ?_
    refine px_D_icmp rfl (fun hc => ?_) (fun hc => ?_)
    · have hc21 : (12) ≤ (x1) := of_decide_eq_true hc
      rw [if_pos hc21] at h
      refine px_D_ls [(0, .inr (.inr 150))] rfl rfl (List.forall_mem_cons.mpr ⟨rfl, fun _ h => absurd h List.not_mem_nil⟩) ?_
      exact hk154 _ _ h
    · have hc21 : ¬ ((12) ≤ (x1)) := of_decide_eq_false hc
      rw [if_neg hc21] at h
      refine px_D_st 7 (ip1 := 109) (ls1 := [(0, .inr (.inr 150)), (1, .inl (x1))]) (st1 := [.inl (x1), .inr (.inr 179), .inr (.inr 150), .inl (x1), .inr (.inr 179)]) (h1 := (px_G1, s)) rfl ?_
      by_cases hc22 : 0 ≤ (x1) ∧ (x1) < 12
      case neg => rw [if_neg hc22] at h; cases h
      rw [if_pos hc22] at h
      refine px_D_iald (k := 174) (n := 12) rfl rfl hc22 ?_
      refine px_D_call (as := [.inr (.inr 150), .inl (s 179 x1.toNat)]) (rest := [.inl (x1), .inr (.inr 179)]) rfl rfl rfl rfl ?_
      obtain ⟨q23, hq23, h⟩ := Option.bind_eq_some_iff.mp h
      refine px_D_mono (c_M_keeps (d := d + 0) hq23) ?_
      rintro _ _ ⟨rfl, rfl⟩
      show px_D sc (d + 1) 279 111 [(0, .inr (.inr 150)), (1, .inl (x1))] [.inl (q23.1), .inl (x1), .inr (.inr 179)] (px_G1, q23.2) _
      by_cases hc24 : 0 ≤ (x1) ∧ (x1) < 12
      case neg => rw [if_neg hc24] at h; cases h
      rw [if_pos hc24] at h
      refine px_D_iast (k := 174) (n := 12) rfl rfl hc24 ?_
      refine px_D_st 7 (ip1 := 119) (ls1 := [(0, .inr (.inr 150)), (1, .inl (x1))]) (st1 := [.inl (x1), .inr (.inr 180), .inr (.inr 150), .inl (x1), .inr (.inr 180)]) (h1 := (px_G1, px_up q23.2 179 x1.toNat q23.1)) rfl ?_
      by_cases hc25 : 0 ≤ (x1) ∧ (x1) < 12
      case neg => rw [if_neg hc25] at h; cases h
      rw [if_pos hc25] at h
      refine px_D_iald (k := 175) (n := 12) rfl rfl hc25 ?_
      refine px_D_call (as := [.inr (.inr 150), .inl ((px_up q23.2 179 x1.toNat q23.1) 180 x1.toNat)]) (rest := [.inl (x1), .inr (.inr 180)]) rfl rfl rfl rfl ?_
      obtain ⟨q26, hq26, h⟩ := Option.bind_eq_some_iff.mp h
      refine px_D_mono (c_M_keeps (d := d + 0) hq26) ?_
      rintro _ _ ⟨rfl, rfl⟩
      show px_D sc (d + 1) 279 121 [(0, .inr (.inr 150)), (1, .inl (x1))] [.inl (q26.1), .inl (x1), .inr (.inr 180)] (px_G1, q26.2) _
      by_cases hc27 : 0 ≤ (x1) ∧ (x1) < 12
      case neg => rw [if_neg hc27] at h; cases h
      rw [if_pos hc27] at h
      refine px_D_iast (k := 175) (n := 12) rfl rfl hc27 ?_
      refine px_D_st 7 (ip1 := 129) (ls1 := [(0, .inr (.inr 150)), (1, .inl (x1))]) (st1 := [.inl (x1), .inr (.inr 181), .inr (.inr 150), .inl (x1), .inr (.inr 181)]) (h1 := (px_G1, px_up q26.2 180 x1.toNat q26.1)) rfl ?_
      by_cases hc28 : 0 ≤ (x1) ∧ (x1) < 12
      case neg => rw [if_neg hc28] at h; cases h
      rw [if_pos hc28] at h
      refine px_D_iald (k := 176) (n := 12) rfl rfl hc28 ?_
      refine px_D_call (as := [.inr (.inr 150), .inl ((px_up q26.2 180 x1.toNat q26.1) 181 x1.toNat)]) (rest := [.inl (x1), .inr (.inr 181)]) rfl rfl rfl rfl ?_
      obtain ⟨q29, hq29, h⟩ := Option.bind_eq_some_iff.mp h
      refine px_D_mono (c_M_keeps (d := d + 0) hq29) ?_
      rintro _ _ ⟨rfl, rfl⟩
      show px_D sc (d + 1) 279 131 [(0, .inr (.inr 150)), (1, .inl (x1))] [.inl (q29.1), .inl (x1), .inr (.inr 181)] (px_G1, q29.2) _
      by_cases hc30 : 0 ≤ (x1) ∧ (x1) < 12
      case neg => rw [if_neg hc30] at h; cases h
      rw [if_pos hc30] at h
      refine px_D_iast (k := 176) (n := 12) rfl rfl hc30 ?_
      refine px_D_st 7 (ip1 := 139) (ls1 := [(0, .inr (.inr 150)), (1, .inl (x1))]) (st1 := [.inl (x1), .inr (.inr 182), .inr (.inr 150), .inl (x1), .inr (.inr 182)]) (h1 := (px_G1, px_up q29.2 181 x1.toNat q29.1)) rfl ?_
      by_cases hc31 : 0 ≤ (x1) ∧ (x1) < 12
      case neg => rw [if_neg hc31] at h; cases h
      rw [if_pos hc31] at h
      refine px_D_iald (k := 177) (n := 12) rfl rfl hc31 ?_
      refine px_D_call (as := [.inr (.inr 150), .inl ((px_up q29.2 181 x1.toNat q29.1) 182 x1.toNat)]) (rest := [.inl (x1), .inr (.inr 182)]) rfl rfl rfl rfl ?_
      obtain ⟨q32, hq32, h⟩ := Option.bind_eq_some_iff.mp h
      refine px_D_mono (c_M_keeps (d := d + 0) hq32) ?_
      rintro _ _ ⟨rfl, rfl⟩
      show px_D sc (d + 1) 279 141 [(0, .inr (.inr 150)), (1, .inl (x1))] [.inl (q32.1), .inl (x1), .inr (.inr 182)] (px_G1, q32.2) _
      by_cases hc33 : 0 ≤ (x1) ∧ (x1) < 12
      case neg => rw [if_neg hc33] at h; cases h
      rw [if_pos hc33] at h
      refine px_D_iast (k := 177) (n := 12) rfl rfl hc33 ?_
      refine px_D_st 7 (ip1 := 149) (ls1 := [(0, .inr (.inr 150)), (1, .inl (x1))]) (st1 := [.inl (x1), .inr (.inr 183), .inr (.inr 150), .inl (x1), .inr (.inr 183)]) (h1 := (px_G1, px_up q32.2 182 x1.toNat q32.1)) rfl ?_
      by_cases hc34 : 0 ≤ (x1) ∧ (x1) < 12
      case neg => rw [if_neg hc34] at h; cases h
      rw [if_pos hc34] at h
      refine px_D_iald (k := 178) (n := 12) rfl rfl hc34 ?_
      refine px_D_call (as := [.inr (.inr 150), .inl ((px_up q32.2 182 x1.toNat q32.1) 183 x1.toNat)]) (rest := [.inl (x1), .inr (.inr 183)]) rfl rfl rfl rfl ?_
      obtain ⟨q35, hq35, h⟩ := Option.bind_eq_some_iff.mp h
      refine px_D_mono (c_M_keeps (d := d + 0) hq35) ?_
      rintro _ _ ⟨rfl, rfl⟩
      show px_D sc (d + 1) 279 151 [(0, .inr (.inr 150)), (1, .inl (x1))] [.inl (q35.1), .inl (x1), .inr (.inr 183)] (px_G1, q35.2) _
      by_cases hc36 : 0 ≤ (x1) ∧ (x1) < 12
      case neg => rw [if_neg hc36] at h; cases h
      rw [if_pos hc36] at h
      refine px_D_iast (k := 178) (n := 12) rfl rfl hc36 ?_
      refine px_D_st 2 (ip1 := 99) (ls1 := [(1, .inl (px_wr (x1 + 1))), (0, .inr (.inr 150))]) (st1 := []) (h1 := (px_G1, px_up q35.2 183 x1.toNat q35.1)) rfl ?_
      refine px_D_ls [(0, .inr (.inr 150)), (1, .inl (px_wr (x1 + 1)))] rfl rfl (List.forall_mem_cons.mpr ⟨rfl, List.forall_mem_cons.mpr ⟨rfl, fun _ h => absurd h List.not_mem_nil⟩⟩) ?_
      exact ih _ _ _ h
def l_M_keepsTold_156 (k171 : px_Z → Option (px_Z)) : Nat → px_Z → Int → Option (px_Z)
  | 0, _, _ => none
  | n + 1, s, x1 => if (120) ≤ (x1) then k171 s  else (if 0 ≤ (x1) ∧ (x1) < 240 then (f_M_keeps s (s 166 x1.toNat)).bind (fun q39 => if 0 ≤ (x1) ∧ (x1) < 240 then l_M_keepsTold_156 k171 n (px_up q39.2 166 x1.toNat q39.1) (px_wr (x1 + 1)) else none) else none)
set_option maxHeartbeats 4000000 in
set_option maxRecDepth 100000 in
theorem cl_M_keepsTold_156 {sc : List Int} {d : Nat} {k171 : px_Z → Option (px_Z)}  (hk171 : ∀ (s : px_Z) (out : px_Z), k171 s  = some out → px_D sc (d + 1) 279 171 [(0, .inr (.inr 150))] [] (px_G1, s) (px_Qv out)) : ∀ (n : Nat) (s : px_Z) (x1 : Int) (out : px_Z), l_M_keepsTold_156 k171 n s x1 = some out → px_D sc (d + 1) 279 156 [(0, .inr (.inr 150)), (1, .inl (x1))] [] (px_G1, s) (px_Qv out) := by
  intro n
  induction n with
  | zero => intro s x1 out h; cases h
  | succ n ih =>
    intro s x1 out h
    rw [l_M_keepsTold_156] at h
    refine px_D_st 2 (ip1 := 158) (ls1 := [(0, .inr (.inr 150)), (1, .inl (x1))]) (st1 := [.inl (120), .inl (x1)]) (h1 := (px_G1, s)) rfl ?_
    refine px_D_icmp rfl (fun hc => ?_) (fun hc => ?_)
    · have hc37 : (120) ≤ (x1) := of_decide_eq_true hc
      rw [if_pos hc37] at h
      refine px_D_ls [(0, .inr (.inr 150))] rfl rfl (List.forall_mem_cons.mpr ⟨rfl, fun _ h => absurd h List.not_mem_nil⟩) ?_
      exact hk171 _ _ h
    · have hc37 : ¬ ((120) ≤ (x1)) := of_decide_eq_false hc
      rw [if_neg hc37] at h
      refine px_D_st 7 (ip1 := 166) (ls1 := [(0, .inr (.inr 150)), (1, .inl (x1))]) (st1 := [.inl (x1), .inr (.inr 166), .inr (.inr 150), .inl (x1), .inr (.inr 166)]) (h1 := (px_G1, s)) rfl ?_
      by_cases hc38 : 0 ≤ (x1) ∧ (x1) < 240
      case neg => rw [if_neg hc38] at h; cases h
      rw [if_pos hc38] at h
      refine px_D_iald (k := 161) (n := 240) rfl rfl hc38 ?_
      refine px_D_call (as := [.inr (.inr 150), .inl (s 166 x1.toNat)]) (rest := [.inl (x1), .inr (.inr 166)]) rfl rfl rfl rfl ?_
      obtain ⟨q39, hq39, h⟩ := Option.bind_eq_some_iff.mp h
      refine px_D_mono (c_M_keeps (d := d + 0) hq39) ?_
      rintro _ _ ⟨rfl, rfl⟩
      show px_D sc (d + 1) 279 168 [(0, .inr (.inr 150)), (1, .inl (x1))] [.inl (q39.1), .inl (x1), .inr (.inr 166)] (px_G1, q39.2) _
      by_cases hc40 : 0 ≤ (x1) ∧ (x1) < 240
      case neg => rw [if_neg hc40] at h; cases h
      rw [if_pos hc40] at h
      refine px_D_iast (k := 161) (n := 240) rfl rfl hc40 ?_
      refine px_D_st 2 (ip1 := 156) (ls1 := [(1, .inl (px_wr (x1 + 1))), (0, .inr (.inr 150))]) (st1 := []) (h1 := (px_G1, px_up q39.2 166 x1.toNat q39.1)) rfl ?_
      refine px_D_ls [(0, .inr (.inr 150)), (1, .inl (px_wr (x1 + 1)))] rfl rfl (List.forall_mem_cons.mpr ⟨rfl, List.forall_mem_cons.mpr ⟨rfl, fun _ h => absurd h List.not_mem_nil⟩⟩) ?_
      exact ih _ _ _ h
def l_M_keepsTold_173  : Nat → px_Z → Int → Option (px_Z)
  | 0, _, _ => none
  | n + 1, s, x1 => if (180) ≤ (x1) then some s else (if 0 ≤ (x1) ∧ (x1) < 360 then (f_M_keeps s (s 171 x1.toNat)).bind (fun q43 => if 0 ≤ (x1) ∧ (x1) < 360 then l_M_keepsTold_173  n (px_up q43.2 171 x1.toNat q43.1) (px_wr (x1 + 1)) else none) else none)
set_option maxHeartbeats 4000000 in
set_option maxRecDepth 100000 in
theorem cl_M_keepsTold_173 {sc : List Int} {d : Nat}  : ∀ (n : Nat) (s : px_Z) (x1 : Int) (out : px_Z), l_M_keepsTold_173  n s x1 = some out → px_D sc (d + 1) 279 173 [(0, .inr (.inr 150)), (1, .inl (x1))] [] (px_G1, s) (px_Qv out) := by
  intro n
  induction n with
  | zero => intro s x1 out h; cases h
  | succ n ih =>
    intro s x1 out h
    rw [l_M_keepsTold_173] at h
    refine px_D_st 2 (ip1 := 175) (ls1 := [(0, .inr (.inr 150)), (1, .inl (x1))]) (st1 := [.inl (180), .inl (x1)]) (h1 := (px_G1, s)) rfl ?_
    refine px_D_icmp rfl (fun hc => ?_) (fun hc => ?_)
    · have hc41 : (180) ≤ (x1) := of_decide_eq_true hc
      rw [if_pos hc41] at h
      cases h
      exact px_D_vret rfl ⟨rfl, rfl⟩
    · have hc41 : ¬ ((180) ≤ (x1)) := of_decide_eq_false hc
      rw [if_neg hc41] at h
      refine px_D_st 7 (ip1 := 183) (ls1 := [(0, .inr (.inr 150)), (1, .inl (x1))]) (st1 := [.inl (x1), .inr (.inr 171), .inr (.inr 150), .inl (x1), .inr (.inr 171)]) (h1 := (px_G1, s)) rfl ?_
      by_cases hc42 : 0 ≤ (x1) ∧ (x1) < 360
      case neg => rw [if_neg hc42] at h; cases h
      rw [if_pos hc42] at h
      refine px_D_iald (k := 166) (n := 360) rfl rfl hc42 ?_
      refine px_D_call (as := [.inr (.inr 150), .inl (s 171 x1.toNat)]) (rest := [.inl (x1), .inr (.inr 171)]) rfl rfl rfl rfl ?_
      obtain ⟨q43, hq43, h⟩ := Option.bind_eq_some_iff.mp h
      refine px_D_mono (c_M_keeps (d := d + 0) hq43) ?_
      rintro _ _ ⟨rfl, rfl⟩
      show px_D sc (d + 1) 279 185 [(0, .inr (.inr 150)), (1, .inl (x1))] [.inl (q43.1), .inl (x1), .inr (.inr 171)] (px_G1, q43.2) _
      by_cases hc44 : 0 ≤ (x1) ∧ (x1) < 360
      case neg => rw [if_neg hc44] at h; cases h
      rw [if_pos hc44] at h
      refine px_D_iast (k := 166) (n := 360) rfl rfl hc44 ?_
      refine px_D_st 2 (ip1 := 173) (ls1 := [(1, .inl (px_wr (x1 + 1))), (0, .inr (.inr 150))]) (st1 := []) (h1 := (px_G1, px_up q43.2 171 x1.toNat q43.1)) rfl ?_
      refine px_D_ls [(0, .inr (.inr 150)), (1, .inl (px_wr (x1 + 1)))] rfl rfl (List.forall_mem_cons.mpr ⟨rfl, List.forall_mem_cons.mpr ⟨rfl, fun _ h => absurd h List.not_mem_nil⟩⟩) ?_
      exact ih _ _ _ h
def f_M_keepsTold (s : px_Z) : Option (px_Z) := (f_M_keeps s (s 150 6)).bind (fun q1 => (f_M_keeps (px_up q1.2 150 6 q1.1) ((px_up q1.2 150 6 q1.1) 150 8)).bind (fun q2 => (f_M_keeps (px_up q2.2 150 8 q2.1) ((px_up q2.2 150 8 q2.1) 150 9)).bind (fun q3 => (f_M_keeps (px_up q3.2 150 9 q3.1) ((px_up q3.2 150 9 q3.1) 150 10)).bind (fun q4 => (f_M_keeps (px_up q4.2 150 10 q4.1) ((px_up q4.2 150 10 q4.1) 150 35)).bind (fun q5 => (f_M_keeps (px_up q5.2 150 35 q5.1) ((px_up q5.2 150 35 q5.1) 150 37)).bind (fun q6 => (f_M_keeps (px_up q6.2 150 37 q6.1) ((px_up q6.2 150 37 q6.1) 150 43)).bind (fun q7 => (f_M_keeps (px_up q7.2 150 43 q7.1) ((px_up q7.2 150 43 q7.1) 150 51)).bind (fun q8 => (f_M_keeps (px_up q8.2 150 51 q8.1) ((px_up q8.2 150 51 q8.1) 150 53)).bind (fun q9 => (f_M_keeps (px_up q9.2 150 53 q9.1) ((px_up q9.2 150 53 q9.1) 150 57)).bind (fun q10 => l_M_keepsTold_62 (fun s => l_M_keepsTold_99 (fun s => l_M_keepsTold_156 (fun s => l_M_keepsTold_173  px_big s 0) px_big s 0) px_big s 0) px_big (px_up q10.2 150 57 q10.1) 0))))))))))
set_option maxHeartbeats 4000000 in
set_option maxRecDepth 100000 in
theorem c_M_keepsTold {sc : List Int} {d : Nat} {s : px_Z} {out : px_Z} (h : f_M_keepsTold s  = some out) : px_D sc (d + 1) 279 0 [(0, .inr (.inr 150))] [] (px_G1, s) (px_Qv out) := by
  unfold f_M_keepsTold at h
  refine px_D_st 4 (ip1 := 4) (ls1 := [(0, .inr (.inr 150))]) (st1 := [.inl (s 150 6), .inr (.inr 150), .inr (.inr 150)]) (h1 := (px_G1, s)) rfl ?_
  refine px_D_call (as := [.inr (.inr 150), .inl (s 150 6)]) (rest := [.inr (.inr 150)]) rfl rfl rfl rfl ?_
  obtain ⟨q1, hq1, h⟩ := Option.bind_eq_some_iff.mp h
  refine px_D_mono (c_M_keeps (d := d + 0) hq1) ?_
  rintro _ _ ⟨rfl, rfl⟩
  show px_D sc (d + 1) 279 5 [(0, .inr (.inr 150))] [.inl (q1.1), .inr (.inr 150)] (px_G1, q1.2) _
  refine px_D_st 5 (ip1 := 10) (ls1 := [(0, .inr (.inr 150))]) (st1 := [.inl ((px_up q1.2 150 6 q1.1) 150 8), .inr (.inr 150), .inr (.inr 150)]) (h1 := (px_G1, px_up q1.2 150 6 q1.1)) rfl ?_
  refine px_D_call (as := [.inr (.inr 150), .inl ((px_up q1.2 150 6 q1.1) 150 8)]) (rest := [.inr (.inr 150)]) rfl rfl rfl rfl ?_
  obtain ⟨q2, hq2, h⟩ := Option.bind_eq_some_iff.mp h
  refine px_D_mono (c_M_keeps (d := d + 0) hq2) ?_
  rintro _ _ ⟨rfl, rfl⟩
  show px_D sc (d + 1) 279 11 [(0, .inr (.inr 150))] [.inl (q2.1), .inr (.inr 150)] (px_G1, q2.2) _
  refine px_D_st 5 (ip1 := 16) (ls1 := [(0, .inr (.inr 150))]) (st1 := [.inl ((px_up q2.2 150 8 q2.1) 150 9), .inr (.inr 150), .inr (.inr 150)]) (h1 := (px_G1, px_up q2.2 150 8 q2.1)) rfl ?_
  refine px_D_call (as := [.inr (.inr 150), .inl ((px_up q2.2 150 8 q2.1) 150 9)]) (rest := [.inr (.inr 150)]) rfl rfl rfl rfl ?_
  obtain ⟨q3, hq3, h⟩ := Option.bind_eq_some_iff.mp h
  refine px_D_mono (c_M_keeps (d := d + 0) hq3) ?_
  rintro _ _ ⟨rfl, rfl⟩
  show px_D sc (d + 1) 279 17 [(0, .inr (.inr 150))] [.inl (q3.1), .inr (.inr 150)] (px_G1, q3.2) _
  refine px_D_st 5 (ip1 := 22) (ls1 := [(0, .inr (.inr 150))]) (st1 := [.inl ((px_up q3.2 150 9 q3.1) 150 10), .inr (.inr 150), .inr (.inr 150)]) (h1 := (px_G1, px_up q3.2 150 9 q3.1)) rfl ?_
  refine px_D_call (as := [.inr (.inr 150), .inl ((px_up q3.2 150 9 q3.1) 150 10)]) (rest := [.inr (.inr 150)]) rfl rfl rfl rfl ?_
  obtain ⟨q4, hq4, h⟩ := Option.bind_eq_some_iff.mp h
  refine px_D_mono (c_M_keeps (d := d + 0) hq4) ?_
  rintro _ _ ⟨rfl, rfl⟩
  show px_D sc (d + 1) 279 23 [(0, .inr (.inr 150))] [.inl (q4.1), .inr (.inr 150)] (px_G1, q4.2) _
  refine px_D_st 5 (ip1 := 28) (ls1 := [(0, .inr (.inr 150))]) (st1 := [.inl ((px_up q4.2 150 10 q4.1) 150 35), .inr (.inr 150), .inr (.inr 150)]) (h1 := (px_G1, px_up q4.2 150 10 q4.1)) rfl ?_
  refine px_D_call (as := [.inr (.inr 150), .inl ((px_up q4.2 150 10 q4.1) 150 35)]) (rest := [.inr (.inr 150)]) rfl rfl rfl rfl ?_
  obtain ⟨q5, hq5, h⟩ := Option.bind_eq_some_iff.mp h
  refine px_D_mono (c_M_keeps (d := d + 0) hq5) ?_
  rintro _ _ ⟨rfl, rfl⟩
  show px_D sc (d + 1) 279 29 [(0, .inr (.inr 150))] [.inl (q5.1), .inr (.inr 150)] (px_G1, q5.2) _
  refine px_D_st 5 (ip1 := 34) (ls1 := [(0, .inr (.inr 150))]) (st1 := [.inl ((px_up q5.2 150 35 q5.1) 150 37), .inr (.inr 150), .inr (.inr 150)]) (h1 := (px_G1, px_up q5.2 150 35 q5.1)) rfl ?_
  refine px_D_call (as := [.inr (.inr 150), .inl ((px_up q5.2 150 35 q5.1) 150 37)]) (rest := [.inr (.inr 150)]) rfl rfl rfl rfl ?_
  obtain ⟨q6, hq6, h⟩ := Option.bind_eq_some_iff.mp h
  refine px_D_mono (c_M_keeps (d := d + 0) hq6) ?_
  rintro _ _ ⟨rfl, rfl⟩
  show px_D sc (d + 1) 279 35 [(0, .inr (.inr 150))] [.inl (q6.1), .inr (.inr 150)] (px_G1, q6.2) _
  refine px_D_st 5 (ip1 := 40) (ls1 := [(0, .inr (.inr 150))]) (st1 := [.inl ((px_up q6.2 150 37 q6.1) 150 43), .inr (.inr 150), .inr (.inr 150)]) (h1 := (px_G1, px_up q6.2 150 37 q6.1)) rfl ?_
  refine px_D_call (as := [.inr (.inr 150), .inl ((px_up q6.2 150 37 q6.1) 150 43)]) (rest := [.inr (.inr 150)]) rfl rfl rfl rfl ?_
  obtain ⟨q7, hq7, h⟩ := Option.bind_eq_some_iff.mp h
  refine px_D_mono (c_M_keeps (d := d + 0) hq7) ?_
  rintro _ _ ⟨rfl, rfl⟩
  show px_D sc (d + 1) 279 41 [(0, .inr (.inr 150))] [.inl (q7.1), .inr (.inr 150)] (px_G1, q7.2) _
  refine px_D_st 5 (ip1 := 46) (ls1 := [(0, .inr (.inr 150))]) (st1 := [.inl ((px_up q7.2 150 43 q7.1) 150 51), .inr (.inr 150), .inr (.inr 150)]) (h1 := (px_G1, px_up q7.2 150 43 q7.1)) rfl ?_
  refine px_D_call (as := [.inr (.inr 150), .inl ((px_up q7.2 150 43 q7.1) 150 51)]) (rest := [.inr (.inr 150)]) rfl rfl rfl rfl ?_
  obtain ⟨q8, hq8, h⟩ := Option.bind_eq_some_iff.mp h
  refine px_D_mono (c_M_keeps (d := d + 0) hq8) ?_
  rintro _ _ ⟨rfl, rfl⟩
  show px_D sc (d + 1) 279 47 [(0, .inr (.inr 150))] [.inl (q8.1), .inr (.inr 150)] (px_G1, q8.2) _
  refine px_D_st 5 (ip1 := 52) (ls1 := [(0, .inr (.inr 150))]) (st1 := [.inl ((px_up q8.2 150 51 q8.1) 150 53), .inr (.inr 150), .inr (.inr 150)]) (h1 := (px_G1, px_up q8.2 150 51 q8.1)) rfl ?_
  refine px_D_call (as := [.inr (.inr 150), .inl ((px_up q8.2 150 51 q8.1) 150 53)]) (rest := [.inr (.inr 150)]) rfl rfl rfl rfl ?_
  obtain ⟨q9, hq9, h⟩ := Option.bind_eq_some_iff.mp h
  refine px_D_mono (c_M_keeps (d := d + 0) hq9) ?_
  rintro _ _ ⟨rfl, rfl⟩
  show px_D sc (d + 1) 279 53 [(0, .inr (.inr 150))] [.inl (q9.1), .inr (.inr 150)] (px_G1, q9.2) _
  refine px_D_st 5 (ip1 := 58) (ls1 := [(0, .inr (.inr 150))]) (st1 := [.inl ((px_up q9.2 150 53 q9.1) 150 57), .inr (.inr 150), .inr (.inr 150)]) (h1 := (px_G1, px_up q9.2 150 53 q9.1)) rfl ?_
  refine px_D_call (as := [.inr (.inr 150), .inl ((px_up q9.2 150 53 q9.1) 150 57)]) (rest := [.inr (.inr 150)]) rfl rfl rfl rfl ?_
  obtain ⟨q10, hq10, h⟩ := Option.bind_eq_some_iff.mp h
  refine px_D_mono (c_M_keeps (d := d + 0) hq10) ?_
  rintro _ _ ⟨rfl, rfl⟩
  show px_D sc (d + 1) 279 59 [(0, .inr (.inr 150))] [.inl (q10.1), .inr (.inr 150)] (px_G1, q10.2) _
  refine px_D_st 3 (ip1 := 62) (ls1 := [(1, .inl (0)), (0, .inr (.inr 150))]) (st1 := []) (h1 := (px_G1, px_up q10.2 150 57 q10.1)) rfl ?_
  refine px_D_ls [(0, .inr (.inr 150)), (1, .inl (0))] rfl rfl (List.forall_mem_cons.mpr ⟨rfl, List.forall_mem_cons.mpr ⟨rfl, fun _ h => absurd h List.not_mem_nil⟩⟩) ?_
  refine cl_M_keepsTold_62 ?_ px_big _ _ _ h
  · intro s out h
    refine px_D_st 2 (ip1 := 99) (ls1 := [(1, .inl (0)), (0, .inr (.inr 150))]) (st1 := []) (h1 := (px_G1, s)) rfl ?_
    refine px_D_ls [(0, .inr (.inr 150)), (1, .inl (0))] rfl rfl (List.forall_mem_cons.mpr ⟨rfl, List.forall_mem_cons.mpr ⟨rfl, fun _ h => absurd h List.not_mem_nil⟩⟩) ?_
    refine cl_M_keepsTold_99 ?_ px_big _ _ _ h
    · intro s out h
      refine px_D_st 2 (ip1 := 156) (ls1 := [(1, .inl (0)), (0, .inr (.inr 150))]) (st1 := []) (h1 := (px_G1, s)) rfl ?_
      refine px_D_ls [(0, .inr (.inr 150)), (1, .inl (0))] rfl rfl (List.forall_mem_cons.mpr ⟨rfl, List.forall_mem_cons.mpr ⟨rfl, fun _ h => absurd h List.not_mem_nil⟩⟩) ?_
      refine cl_M_keepsTold_156 ?_ px_big _ _ _ h
      · intro s out h
        refine px_D_st 2 (ip1 := 173) (ls1 := [(1, .inl (0)), (0, .inr (.inr 150))]) (st1 := []) (h1 := (px_G1, s)) rfl ?_
        refine px_D_ls [(0, .inr (.inr 150)), (1, .inl (0))] rfl rfl (List.forall_mem_cons.mpr ⟨rfl, List.forall_mem_cons.mpr ⟨rfl, fun _ h => absurd h List.not_mem_nil⟩⟩) ?_
        refine cl_M_keepsTold_173  px_big _ _ _ h

def l_M_image_21 (k36 : px_Z → Int → Option (Int × px_Z)) : Nat → px_Z → Int → Int → Option (Int × px_Z)
  | 0, _, _, _ => none
  | n + 1, s, x1, x2 => if (40) ≤ (x2) then k36 s x1 else (if 0 ≤ (x2) ∧ (x2) < 40 then (f_M_keeps s (s 151 x2.toNat)).bind (fun q5 => if 0 ≤ (x2) ∧ (x2) < 40 then l_M_image_21 k36 n (px_up q5.2 151 x2.toNat q5.1) x1 (px_wr (x2 + 1)) else none) else none)
set_option maxHeartbeats 4000000 in
set_option maxRecDepth 100000 in
theorem cl_M_image_21 {sc : List Int} {d : Nat} {k36 : px_Z → Int → Option (Int × px_Z)}  (hk36 : ∀ (s : px_Z) (y1 : Int) (out : Int × px_Z), k36 s y1 = some out → px_D sc (d + 2) 280 36 [(0, .inr (.inr 150)), (1, .inl (y1))] [] (px_G1, s) (px_Qi out)) : ∀ (n : Nat) (s : px_Z) (x1 : Int) (x2 : Int) (out : Int × px_Z), l_M_image_21 k36 n s x1 x2 = some out → px_D sc (d + 2) 280 21 [(0, .inr (.inr 150)), (1, .inl (x1)), (2, .inl (x2))] [] (px_G1, s) (px_Qi out) := by
  intro n
  induction n with
  | zero => intro s x1 x2 out h; cases h
  | succ n ih =>
    intro s x1 x2 out h
    rw [l_M_image_21] at h
    refine px_D_st 2 (ip1 := 23) (ls1 := [(0, .inr (.inr 150)), (1, .inl (x1)), (2, .inl (x2))]) (st1 := [.inl (40), .inl (x2)]) (h1 := (px_G1, s)) rfl ?_
    refine px_D_icmp rfl (fun hc => ?_) (fun hc => ?_)
    · have hc3 : (40) ≤ (x2) := of_decide_eq_true hc
      rw [if_pos hc3] at h
      refine px_D_ls [(0, .inr (.inr 150)), (1, .inl (x1))] rfl rfl (List.forall_mem_cons.mpr ⟨rfl, List.forall_mem_cons.mpr ⟨rfl, fun _ h => absurd h List.not_mem_nil⟩⟩) ?_
      exact hk36 _ _ _ h
    · have hc3 : ¬ ((40) ≤ (x2)) := of_decide_eq_false hc
      rw [if_neg hc3] at h
      refine px_D_st 7 (ip1 := 31) (ls1 := [(0, .inr (.inr 150)), (1, .inl (x1)), (2, .inl (x2))]) (st1 := [.inl (x2), .inr (.inr 151), .inr (.inr 150), .inl (x2), .inr (.inr 151)]) (h1 := (px_G1, s)) rfl ?_
      by_cases hc4 : 0 ≤ (x2) ∧ (x2) < 40
      case neg => rw [if_neg hc4] at h; cases h
      rw [if_pos hc4] at h
      refine px_D_iald (k := 146) (n := 40) rfl rfl hc4 ?_
      refine px_D_call (as := [.inr (.inr 150), .inl (s 151 x2.toNat)]) (rest := [.inl (x2), .inr (.inr 151)]) rfl rfl rfl rfl ?_
      obtain ⟨q5, hq5, h⟩ := Option.bind_eq_some_iff.mp h
      refine px_D_mono (c_M_keeps (d := d + 1) hq5) ?_
      rintro _ _ ⟨rfl, rfl⟩
      show px_D sc (d + 2) 280 33 [(0, .inr (.inr 150)), (1, .inl (x1)), (2, .inl (x2))] [.inl (q5.1), .inl (x2), .inr (.inr 151)] (px_G1, q5.2) _
      by_cases hc6 : 0 ≤ (x2) ∧ (x2) < 40
      case neg => rw [if_neg hc6] at h; cases h
      rw [if_pos hc6] at h
      refine px_D_iast (k := 146) (n := 40) rfl rfl hc6 ?_
      refine px_D_st 2 (ip1 := 21) (ls1 := [(2, .inl (px_wr (x2 + 1))), (0, .inr (.inr 150)), (1, .inl (x1))]) (st1 := []) (h1 := (px_G1, px_up q5.2 151 x2.toNat q5.1)) rfl ?_
      refine px_D_ls [(0, .inr (.inr 150)), (1, .inl (x1)), (2, .inl (px_wr (x2 + 1)))] rfl rfl (List.forall_mem_cons.mpr ⟨rfl, List.forall_mem_cons.mpr ⟨rfl, List.forall_mem_cons.mpr ⟨rfl, fun _ h => absurd h List.not_mem_nil⟩⟩⟩) ?_
      exact ih _ _ _ _ h
def l_M_image_40 (k55 : px_Z → Int → Option (Int × px_Z)) : Nat → px_Z → Int → Int → Option (Int × px_Z)
  | 0, _, _, _ => none
  | n + 1, s, x1, x2 => if (600) ≤ (x2) then k55 s x1 else (if 0 ≤ (x2) ∧ (x2) < 600 then (f_M_keeps s (s 155 x2.toNat)).bind (fun q10 => if 0 ≤ (x2) ∧ (x2) < 600 then l_M_image_40 k55 n (px_up q10.2 155 x2.toNat q10.1) x1 (px_wr (x2 + 1)) else none) else none)
set_option maxHeartbeats 4000000 in
set_option maxRecDepth 100000 in
theorem cl_M_image_40 {sc : List Int} {d : Nat} {k55 : px_Z → Int → Option (Int × px_Z)}  (hk55 : ∀ (s : px_Z) (y1 : Int) (out : Int × px_Z), k55 s y1 = some out → px_D sc (d + 2) 280 55 [(0, .inr (.inr 150)), (1, .inl (y1))] [] (px_G1, s) (px_Qi out)) : ∀ (n : Nat) (s : px_Z) (x1 : Int) (x2 : Int) (out : Int × px_Z), l_M_image_40 k55 n s x1 x2 = some out → px_D sc (d + 2) 280 40 [(0, .inr (.inr 150)), (1, .inl (x1)), (2, .inl (x2))] [] (px_G1, s) (px_Qi out) := by
  intro n
  induction n with
  | zero => intro s x1 x2 out h; cases h
  | succ n ih =>
    intro s x1 x2 out h
    rw [l_M_image_40] at h
    refine px_D_st 2 (ip1 := 42) (ls1 := [(0, .inr (.inr 150)), (1, .inl (x1)), (2, .inl (x2))]) (st1 := [.inl (600), .inl (x2)]) (h1 := (px_G1, s)) rfl ?_
    refine px_D_icmp rfl (fun hc => ?_) (fun hc => ?_)
    · have hc8 : (600) ≤ (x2) := of_decide_eq_true hc
      rw [if_pos hc8] at h
      refine px_D_ls [(0, .inr (.inr 150)), (1, .inl (x1))] rfl rfl (List.forall_mem_cons.mpr ⟨rfl, List.forall_mem_cons.mpr ⟨rfl, fun _ h => absurd h List.not_mem_nil⟩⟩) ?_
      exact hk55 _ _ _ h
    · have hc8 : ¬ ((600) ≤ (x2)) := of_decide_eq_false hc
      rw [if_neg hc8] at h
      refine px_D_st 7 (ip1 := 50) (ls1 := [(0, .inr (.inr 150)), (1, .inl (x1)), (2, .inl (x2))]) (st1 := [.inl (x2), .inr (.inr 155), .inr (.inr 150), .inl (x2), .inr (.inr 155)]) (h1 := (px_G1, s)) rfl ?_
      by_cases hc9 : 0 ≤ (x2) ∧ (x2) < 600
      case neg => rw [if_neg hc9] at h; cases h
      rw [if_pos hc9] at h
      refine px_D_iald (k := 150) (n := 600) rfl rfl hc9 ?_
      refine px_D_call (as := [.inr (.inr 150), .inl (s 155 x2.toNat)]) (rest := [.inl (x2), .inr (.inr 155)]) rfl rfl rfl rfl ?_
      obtain ⟨q10, hq10, h⟩ := Option.bind_eq_some_iff.mp h
      refine px_D_mono (c_M_keeps (d := d + 1) hq10) ?_
      rintro _ _ ⟨rfl, rfl⟩
      show px_D sc (d + 2) 280 52 [(0, .inr (.inr 150)), (1, .inl (x1)), (2, .inl (x2))] [.inl (q10.1), .inl (x2), .inr (.inr 155)] (px_G1, q10.2) _
      by_cases hc11 : 0 ≤ (x2) ∧ (x2) < 600
      case neg => rw [if_neg hc11] at h; cases h
      rw [if_pos hc11] at h
      refine px_D_iast (k := 150) (n := 600) rfl rfl hc11 ?_
      refine px_D_st 2 (ip1 := 40) (ls1 := [(2, .inl (px_wr (x2 + 1))), (0, .inr (.inr 150)), (1, .inl (x1))]) (st1 := []) (h1 := (px_G1, px_up q10.2 155 x2.toNat q10.1)) rfl ?_
      refine px_D_ls [(0, .inr (.inr 150)), (1, .inl (x1)), (2, .inl (px_wr (x2 + 1)))] rfl rfl (List.forall_mem_cons.mpr ⟨rfl, List.forall_mem_cons.mpr ⟨rfl, List.forall_mem_cons.mpr ⟨rfl, fun _ h => absurd h List.not_mem_nil⟩⟩⟩) ?_
      exact ih _ _ _ _ h
def j_M_image_j10 (s : px_Z) (x1 : Int) : Option (Int × px_Z) := if (x1) = 0 ∨ (x1) = 1 then l_M_image_21 (fun s x1 => (f_M_keepsTold s ).bind (fun q7 => l_M_image_40 (fun s x1 => (f_M_keepsLaw s 0).bind (fun q12 => (f_M_keepsLaw q12 1).bind (fun q13 => if (x1) = (0) then some (1, px_up q13 150 3 0) else some (1, q13)))) px_big q7 x1 0)) px_big (px_up (px_up (px_up s 150 60 x1) 150 61 1) 150 62 0) x1 0 else none
set_option maxHeartbeats 4000000 in
set_option maxRecDepth 100000 in
theorem cj_M_image_j10 {sc : List Int} {d : Nat} {s : px_Z} {x1 : Int} {out : Int × px_Z} (h : j_M_image_j10 s x1 = some out) : px_D sc (d + 2) 280 10 [(0, .inr (.inr 150)), (1, .inl (x1))] [] (px_G1, s) (px_Qi out) := by
  unfold j_M_image_j10 at h
  refine px_D_st 2 (ip1 := 12) (ls1 := [(0, .inr (.inr 150)), (1, .inl (x1))]) (st1 := [.inl (x1), .inr (.inr 150)]) (h1 := (px_G1, s)) rfl ?_
  by_cases hc2 : (x1) = 0 ∨ (x1) = 1
  case neg => rw [if_neg hc2] at h; cases h
  rw [if_pos hc2] at h
  refine px_D_putz (k := 145) rfl rfl rfl rfl hc2 ?_
  refine px_D_st 8 (ip1 := 21) (ls1 := [(2, .inl (0)), (0, .inr (.inr 150)), (1, .inl (x1))]) (st1 := []) (h1 := (px_G1, px_up (px_up (px_up s 150 60 x1) 150 61 1) 150 62 0)) rfl ?_
  refine px_D_ls [(0, .inr (.inr 150)), (1, .inl (x1)), (2, .inl (0))] rfl rfl (List.forall_mem_cons.mpr ⟨rfl, List.forall_mem_cons.mpr ⟨rfl, List.forall_mem_cons.mpr ⟨rfl, fun _ h => absurd h List.not_mem_nil⟩⟩⟩) ?_
  refine cl_M_image_21 ?_ px_big _ _ _ _ h
  · intro s x1 out h
    refine px_D_st 1 (ip1 := 37) (ls1 := [(0, .inr (.inr 150)), (1, .inl (x1))]) (st1 := [.inr (.inr 150)]) (h1 := (px_G1, s)) rfl ?_
    refine px_D_call (as := [.inr (.inr 150)]) (rest := []) rfl rfl rfl rfl ?_
    obtain ⟨q7, hq7, h⟩ := Option.bind_eq_some_iff.mp h
    refine px_D_mono (c_M_keepsTold (d := d + 0) hq7) ?_
    rintro _ _ ⟨rfl, rfl⟩
    show px_D sc (d + 2) 280 38 [(0, .inr (.inr 150)), (1, .inl (x1))] [] (px_G1, q7) _
    refine px_D_st 2 (ip1 := 40) (ls1 := [(2, .inl (0)), (0, .inr (.inr 150)), (1, .inl (x1))]) (st1 := []) (h1 := (px_G1, q7)) rfl ?_
    refine px_D_ls [(0, .inr (.inr 150)), (1, .inl (x1)), (2, .inl (0))] rfl rfl (List.forall_mem_cons.mpr ⟨rfl, List.forall_mem_cons.mpr ⟨rfl, List.forall_mem_cons.mpr ⟨rfl, fun _ h => absurd h List.not_mem_nil⟩⟩⟩) ?_
    refine cl_M_image_40 ?_ px_big _ _ _ _ h
    · intro s x1 out h
      refine px_D_st 2 (ip1 := 57) (ls1 := [(0, .inr (.inr 150)), (1, .inl (x1))]) (st1 := [.inl (0), .inr (.inr 150)]) (h1 := (px_G1, s)) rfl ?_
      refine px_D_call (as := [.inr (.inr 150), .inl (0)]) (rest := []) rfl rfl rfl rfl ?_
      obtain ⟨q12, hq12, h⟩ := Option.bind_eq_some_iff.mp h
      refine px_D_mono (c_M_keepsLaw (d := d + 0) hq12) ?_
      rintro _ _ ⟨rfl, rfl⟩
      show px_D sc (d + 2) 280 58 [(0, .inr (.inr 150)), (1, .inl (x1))] [] (px_G1, q12) _
      refine px_D_st 2 (ip1 := 60) (ls1 := [(0, .inr (.inr 150)), (1, .inl (x1))]) (st1 := [.inl (1), .inr (.inr 150)]) (h1 := (px_G1, q12)) rfl ?_
      refine px_D_call (as := [.inr (.inr 150), .inl (1)]) (rest := []) rfl rfl rfl rfl ?_
      obtain ⟨q13, hq13, h⟩ := Option.bind_eq_some_iff.mp h
      refine px_D_mono (c_M_keepsLaw (d := d + 0) hq13) ?_
      rintro _ _ ⟨rfl, rfl⟩
      show px_D sc (d + 2) 280 61 [(0, .inr (.inr 150)), (1, .inl (x1))] [] (px_G1, q13) _
      refine px_D_st 1 (ip1 := 62) (ls1 := [(0, .inr (.inr 150)), (1, .inl (x1))]) (st1 := [.inl (x1)]) (h1 := (px_G1, q13)) rfl ?_
      refine px_D_ifc rfl (fun hc => ?_) (fun hc => ?_)
      · have hc14 : ¬ ((x1) = (0)) := of_decide_eq_true hc
        rw [if_neg hc14] at h
        refine px_D_st 1 (ip1 := 67) (ls1 := [(0, .inr (.inr 150)), (1, .inl (x1))]) (st1 := [.inl (1)]) (h1 := (px_G1, q13)) rfl ?_
        cases h
        exact px_D_iret rfl rfl ⟨rfl, rfl⟩
      · have hc14 : (x1) = (0) := Decidable.of_not_not (of_decide_eq_false hc)
        rw [if_pos hc14] at h
        refine px_D_st 4 (ip1 := 67) (ls1 := [(0, .inr (.inr 150)), (1, .inl (x1))]) (st1 := [.inl (1)]) (h1 := (px_G1, px_up q13 150 3 0)) rfl ?_
        cases h
        exact px_D_iret rfl rfl ⟨rfl, rfl⟩
def f_M_image (s : px_Z) (x1 : Int) : Option (Int × px_Z) := if (x1) = (0) then (if ((px_up s 150 0 0) 150 61) = (0) then some (0, px_up s 150 0 0) else j_M_image_j10 (px_up s 150 0 0) x1) else j_M_image_j10 (px_up s 150 0 0) x1
set_option maxHeartbeats 4000000 in
set_option maxRecDepth 100000 in
theorem c_M_image {sc : List Int} {d : Nat} {s : px_Z} {x1 : Int} {out : Int × px_Z} (h : f_M_image s x1 = some out) : px_D sc (d + 2) 280 0 [(0, .inr (.inr 150)), (1, .inl (x1))] [] (px_G1, s) (px_Qi out) := by
  unfold f_M_image at h
  refine px_D_st 4 (ip1 := 4) (ls1 := [(0, .inr (.inr 150)), (1, .inl (x1))]) (st1 := [.inl (x1)]) (h1 := (px_G1, px_up s 150 0 0)) rfl ?_
  refine px_D_ifc rfl (fun hc => ?_) (fun hc => ?_)
  · have hc1 : ¬ ((x1) = (0)) := of_decide_eq_true hc
    rw [if_neg hc1] at h
    refine px_D_ls [(0, .inr (.inr 150)), (1, .inl (x1))] rfl rfl (List.forall_mem_cons.mpr ⟨rfl, List.forall_mem_cons.mpr ⟨rfl, fun _ h => absurd h List.not_mem_nil⟩⟩) ?_
    exact cj_M_image_j10 h
  · have hc1 : (x1) = (0) := Decidable.of_not_not (of_decide_eq_false hc)
    rw [if_pos hc1] at h
    refine px_D_st 2 (ip1 := 7) (ls1 := [(0, .inr (.inr 150)), (1, .inl (x1))]) (st1 := [.inl ((px_up s 150 0 0) 150 61)]) (h1 := (px_G1, px_up s 150 0 0)) rfl ?_
    refine px_D_ifc rfl (fun hc => ?_) (fun hc => ?_)
    · have hc15 : ¬ (((px_up s 150 0 0) 150 61) = (0)) := of_decide_eq_true hc
      rw [if_neg hc15] at h
      refine px_D_ls [(0, .inr (.inr 150)), (1, .inl (x1))] rfl rfl (List.forall_mem_cons.mpr ⟨rfl, List.forall_mem_cons.mpr ⟨rfl, fun _ h => absurd h List.not_mem_nil⟩⟩) ?_
      exact cj_M_image_j10 h
    · have hc15 : ((px_up s 150 0 0) 150 61) = (0) := Decidable.of_not_not (of_decide_eq_false hc)
      rw [if_pos hc15] at h
      refine px_D_st 1 (ip1 := 9) (ls1 := [(0, .inr (.inr 150)), (1, .inl (x1))]) (st1 := [.inl (0)]) (h1 := (px_G1, px_up s 150 0 0)) rfl ?_
      cases h
      exact px_D_iret rfl rfl ⟨rfl, rfl⟩

def f_M_look (s : px_Z) (x1 : Int) : Option (Int × px_Z) := if (x1) = (0) then some (((px_up s 150 0 0) 150 6, px_up s 150 0 0)) else (if (x1) = (1) then (f_M_homeSet (px_up s 150 0 0) ).bind (fun q22 => some (q22, px_up s 150 0 0)) else (if (x1) = (2) then some (((px_up s 150 0 0) 151 0, px_up s 150 0 0)) else (if (x1) = (3) then some (((px_up s 150 0 0) 151 3, px_up s 150 0 0)) else (if (x1) = (4) then some (((px_up s 150 0 0) 151 4, px_up s 150 0 0)) else (if (x1) = (5) then some (((px_up s 150 0 0) 151 5, px_up s 150 0 0)) else (if (x1) = (6) then some ((px_wr (((px_up s 150 0 0) 151 6) - 1), px_up s 150 0 0)) else (if (x1) = (7) then some (((px_up s 150 0 0) 151 2, px_up s 150 0 0)) else (if (x1) = (8) then some (((px_up s 150 0 0) 151 1, px_up s 150 0 0)) else (if (x1) = (9) then some (((px_up s 150 0 0) 158 0, px_up s 150 0 0)) else (if (x1) = (10) then some (((px_up s 150 0 0) 158 1, px_up s 150 0 0)) else (if (x1) = (11) then some (((px_up s 150 0 0) 150 35, px_up s 150 0 0)) else (if (x1) = (12) then some (((px_up s 150 0 0) 150 37, px_up s 150 0 0)) else (if (x1) = (13) then some (((px_up s 150 0 0) 150 43, px_up s 150 0 0)) else (if (x1) = (14) then some (((px_up s 150 0 0) 150 51, px_up s 150 0 0)) else (if (x1) = (15) then some (((px_up s 150 0 0) 150 53, px_up s 150 0 0)) else (if (x1) = (16) then some (((px_up s 150 0 0) 150 57, px_up s 150 0 0)) else (if (x1) = (17) then some (((px_up s 150 0 0) 150 3, px_up s 150 0 0)) else (if (x1) = (20) then some (((px_up s 150 0 0) 150 8, px_up s 150 0 0)) else (if (x1) = (21) then some (((px_up s 150 0 0) 150 9, px_up s 150 0 0)) else (if (x1) = (22) then some ((f_M_thaw (px_up s 150 0 0) , px_up s 150 0 0)) else some (((-1000), px_up s 150 0 0))))))))))))))))))))))
set_option maxHeartbeats 4000000 in
set_option maxRecDepth 100000 in
theorem c_M_look {sc : List Int} {d : Nat} {s : px_Z} {x1 : Int} {out : Int × px_Z} (h : f_M_look s x1 = some out) : px_D sc (d + 2) 281 0 [(0, .inr (.inr 150)), (1, .inl (x1))] [] (px_G1, s) (px_Qi out) := by
  unfold f_M_look at h
  refine px_D_st 4 (ip1 := 4) (ls1 := [(0, .inr (.inr 150)), (1, .inl (x1))]) (st1 := [.inl (x1)]) (h1 := (px_G1, px_up s 150 0 0)) rfl ?_
  refine px_D_ifc rfl (fun hc => ?_) (fun hc => ?_)
  · have hc1 : ¬ ((x1) = (0)) := of_decide_eq_true hc
    rw [if_neg hc1] at h
    refine px_D_st 2 (ip1 := 10) (ls1 := [(0, .inr (.inr 150)), (1, .inl (x1))]) (st1 := [.inl (1), .inl (x1)]) (h1 := (px_G1, px_up s 150 0 0)) rfl ?_
    refine px_D_icmp rfl (fun hc => ?_) (fun hc => ?_)
    · have hc2 : ¬ ((x1) = (1)) := of_decide_eq_true hc
      rw [if_neg hc2] at h
      refine px_D_st 2 (ip1 := 16) (ls1 := [(0, .inr (.inr 150)), (1, .inl (x1))]) (st1 := [.inl (2), .inl (x1)]) (h1 := (px_G1, px_up s 150 0 0)) rfl ?_
      refine px_D_icmp rfl (fun hc => ?_) (fun hc => ?_)
      · have hc3 : ¬ ((x1) = (2)) := of_decide_eq_true hc
        rw [if_neg hc3] at h
        refine px_D_st 2 (ip1 := 24) (ls1 := [(0, .inr (.inr 150)), (1, .inl (x1))]) (st1 := [.inl (3), .inl (x1)]) (h1 := (px_G1, px_up s 150 0 0)) rfl ?_
        refine px_D_icmp rfl (fun hc => ?_) (fun hc => ?_)
        · have hc4 : ¬ ((x1) = (3)) := of_decide_eq_true hc
          rw [if_neg hc4] at h
          refine px_D_st 2 (ip1 := 32) (ls1 := [(0, .inr (.inr 150)), (1, .inl (x1))]) (st1 := [.inl (4), .inl (x1)]) (h1 := (px_G1, px_up s 150 0 0)) rfl ?_
          refine px_D_icmp rfl (fun hc => ?_) (fun hc => ?_)
          · have hc5 : ¬ ((x1) = (4)) := of_decide_eq_true hc
            rw [if_neg hc5] at h
            refine px_D_st 2 (ip1 := 40) (ls1 := [(0, .inr (.inr 150)), (1, .inl (x1))]) (st1 := [.inl (5), .inl (x1)]) (h1 := (px_G1, px_up s 150 0 0)) rfl ?_
            refine px_D_icmp rfl (fun hc => ?_) (fun hc => ?_)
            · have hc6 : ¬ ((x1) = (5)) := of_decide_eq_true hc
              rw [if_neg hc6] at h
              refine px_D_st 2 (ip1 := 48) (ls1 := [(0, .inr (.inr 150)), (1, .inl (x1))]) (st1 := [.inl (6), .inl (x1)]) (h1 := (px_G1, px_up s 150 0 0)) rfl ?_
              refine px_D_icmp rfl (fun hc => ?_) (fun hc => ?_)
              · have hc7 : ¬ ((x1) = (6)) := of_decide_eq_true hc
                rw [if_neg hc7] at h
                refine px_D_st 2 (ip1 := 58) (ls1 := [(0, .inr (.inr 150)), (1, .inl (x1))]) (st1 := [.inl (7), .inl (x1)]) (h1 := (px_G1, px_up s 150 0 0)) rfl ?_
                refine px_D_icmp rfl (fun hc => ?_) (fun hc => ?_)
                · have hc8 : ¬ ((x1) = (7)) := of_decide_eq_true hc
                  rw [if_neg hc8] at h
                  refine px_D_st 2 (ip1 := 66) (ls1 := [(0, .inr (.inr 150)), (1, .inl (x1))]) (st1 := [.inl (8), .inl (x1)]) (h1 := (px_G1, px_up s 150 0 0)) rfl ?_
                  refine px_D_icmp rfl (fun hc => ?_) (fun hc => ?_)
                  · have hc9 : ¬ ((x1) = (8)) := of_decide_eq_true hc
                    rw [if_neg hc9] at h
                    refine px_D_st 2 (ip1 := 74) (ls1 := [(0, .inr (.inr 150)), (1, .inl (x1))]) (st1 := [.inl (9), .inl (x1)]) (h1 := (px_G1, px_up s 150 0 0)) rfl ?_
                    refine px_D_icmp rfl (fun hc => ?_) (fun hc => ?_)
                    · have hc10 : ¬ ((x1) = (9)) := of_decide_eq_true hc
                      rw [if_neg hc10] at h
                      refine px_D_st 2 (ip1 := 82) (ls1 := [(0, .inr (.inr 150)), (1, .inl (x1))]) (st1 := [.inl (10), .inl (x1)]) (h1 := (px_G1, px_up s 150 0 0)) rfl ?_
                      refine px_D_icmp rfl (fun hc => ?_) (fun hc => ?_)
                      · have hc11 : ¬ ((x1) = (10)) := of_decide_eq_true hc
                        rw [if_neg hc11] at h
                        refine px_D_st 2 (ip1 := 90) (ls1 := [(0, .inr (.inr 150)), (1, .inl (x1))]) (st1 := [.inl (11), .inl (x1)]) (h1 := (px_G1, px_up s 150 0 0)) rfl ?_
                        refine px_D_icmp rfl (fun hc => ?_) (fun hc => ?_)
                        · have hc12 : ¬ ((x1) = (11)) := of_decide_eq_true hc
                          rw [if_neg hc12] at h
                          refine px_D_st 2 (ip1 := 96) (ls1 := [(0, .inr (.inr 150)), (1, .inl (x1))]) (st1 := [.inl (12), .inl (x1)]) (h1 := (px_G1, px_up s 150 0 0)) rfl ?_
                          refine px_D_icmp rfl (fun hc => ?_) (fun hc => ?_)
                          · have hc13 : ¬ ((x1) = (12)) := of_decide_eq_true hc
                            rw [if_neg hc13] at h
                            refine px_D_st 2 (ip1 := 102) (ls1 := [(0, .inr (.inr 150)), (1, .inl (x1))]) (st1 := [.inl (13), .inl (x1)]) (h1 := (px_G1, px_up s 150 0 0)) rfl ?_
                            refine px_D_icmp rfl (fun hc => ?_) (fun hc => ?_)
                            · have hc14 : ¬ ((x1) = (13)) := of_decide_eq_true hc
                              rw [if_neg hc14] at h
                              refine px_D_st 2 (ip1 := 108) (ls1 := [(0, .inr (.inr 150)), (1, .inl (x1))]) (st1 := [.inl (14), .inl (x1)]) (h1 := (px_G1, px_up s 150 0 0)) rfl ?_
                              refine px_D_icmp rfl (fun hc => ?_) (fun hc => ?_)
                              · have hc15 : ¬ ((x1) = (14)) := of_decide_eq_true hc
                                rw [if_neg hc15] at h
                                refine px_D_st 2 (ip1 := 114) (ls1 := [(0, .inr (.inr 150)), (1, .inl (x1))]) (st1 := [.inl (15), .inl (x1)]) (h1 := (px_G1, px_up s 150 0 0)) rfl ?_
                                refine px_D_icmp rfl (fun hc => ?_) (fun hc => ?_)
                                · have hc16 : ¬ ((x1) = (15)) := of_decide_eq_true hc
                                  rw [if_neg hc16] at h
                                  refine px_D_st 2 (ip1 := 120) (ls1 := [(0, .inr (.inr 150)), (1, .inl (x1))]) (st1 := [.inl (16), .inl (x1)]) (h1 := (px_G1, px_up s 150 0 0)) rfl ?_
                                  refine px_D_icmp rfl (fun hc => ?_) (fun hc => ?_)
                                  · have hc17 : ¬ ((x1) = (16)) := of_decide_eq_true hc
                                    rw [if_neg hc17] at h
                                    refine px_D_st 2 (ip1 := 126) (ls1 := [(0, .inr (.inr 150)), (1, .inl (x1))]) (st1 := [.inl (17), .inl (x1)]) (h1 := (px_G1, px_up s 150 0 0)) rfl ?_
                                    refine px_D_icmp rfl (fun hc => ?_) (fun hc => ?_)
                                    · have hc18 : ¬ ((x1) = (17)) := of_decide_eq_true hc
                                      rw [if_neg hc18] at h
                                      refine px_D_st 2 (ip1 := 132) (ls1 := [(0, .inr (.inr 150)), (1, .inl (x1))]) (st1 := [.inl (20), .inl (x1)]) (h1 := (px_G1, px_up s 150 0 0)) rfl ?_
                                      refine px_D_icmp rfl (fun hc => ?_) (fun hc => ?_)
                                      · have hc19 : ¬ ((x1) = (20)) := of_decide_eq_true hc
                                        rw [if_neg hc19] at h
                                        refine px_D_st 2 (ip1 := 138) (ls1 := [(0, .inr (.inr 150)), (1, .inl (x1))]) (st1 := [.inl (21), .inl (x1)]) (h1 := (px_G1, px_up s 150 0 0)) rfl ?_
                                        refine px_D_icmp rfl (fun hc => ?_) (fun hc => ?_)
                                        · have hc20 : ¬ ((x1) = (21)) := of_decide_eq_true hc
                                          rw [if_neg hc20] at h
                                          refine px_D_st 2 (ip1 := 144) (ls1 := [(0, .inr (.inr 150)), (1, .inl (x1))]) (st1 := [.inl (22), .inl (x1)]) (h1 := (px_G1, px_up s 150 0 0)) rfl ?_
                                          refine px_D_icmp rfl (fun hc => ?_) (fun hc => ?_)
                                          · have hc21 : ¬ ((x1) = (22)) := of_decide_eq_true hc
                                            rw [if_neg hc21] at h
                                            refine px_D_st 1 (ip1 := 149) (ls1 := [(0, .inr (.inr 150)), (1, .inl (x1))]) (st1 := [.inl ((-1000))]) (h1 := (px_G1, px_up s 150 0 0)) rfl ?_
                                            cases h
                                            exact px_D_iret rfl rfl ⟨rfl, rfl⟩
                                          · have hc21 : (x1) = (22) := Decidable.of_not_not (of_decide_eq_false hc)
                                            rw [if_pos hc21] at h
                                            refine px_D_st 1 (ip1 := 146) (ls1 := [(0, .inr (.inr 150)), (1, .inl (x1))]) (st1 := [.inr (.inr 150)]) (h1 := (px_G1, px_up s 150 0 0)) rfl ?_
                                            refine px_D_call (as := [.inr (.inr 150)]) (rest := []) rfl rfl rfl rfl ?_
                                            refine px_D_mono (c_M_thaw (d := d + 1) rfl) ?_
                                            rintro _ _ ⟨rfl, rfl⟩
                                            show px_D sc (d + 2) 281 147 [(0, .inr (.inr 150)), (1, .inl (x1))] [.inl (f_M_thaw (px_up s 150 0 0) )] (px_G1, px_up s 150 0 0) _
                                            refine px_D_st 1 (ip1 := 149) (ls1 := [(0, .inr (.inr 150)), (1, .inl (x1))]) (st1 := [.inl (f_M_thaw (px_up s 150 0 0) )]) (h1 := (px_G1, px_up s 150 0 0)) rfl ?_
                                            cases h
                                            exact px_D_iret rfl rfl ⟨rfl, rfl⟩
                                        · have hc20 : (x1) = (21) := Decidable.of_not_not (of_decide_eq_false hc)
                                          rw [if_pos hc20] at h
                                          refine px_D_st 3 (ip1 := 149) (ls1 := [(0, .inr (.inr 150)), (1, .inl (x1))]) (st1 := [.inl ((px_up s 150 0 0) 150 9)]) (h1 := (px_G1, px_up s 150 0 0)) rfl ?_
                                          cases h
                                          exact px_D_iret rfl rfl ⟨rfl, rfl⟩
                                      · have hc19 : (x1) = (20) := Decidable.of_not_not (of_decide_eq_false hc)
                                        rw [if_pos hc19] at h
                                        refine px_D_st 2 (ip1 := 135) (ls1 := [(0, .inr (.inr 150)), (1, .inl (x1))]) (st1 := [.inl ((px_up s 150 0 0) 150 8)]) (h1 := (px_G1, px_up s 150 0 0)) rfl ?_
                                        cases h
                                        exact px_D_iret rfl rfl ⟨rfl, rfl⟩
                                    · have hc18 : (x1) = (17) := Decidable.of_not_not (of_decide_eq_false hc)
                                      rw [if_pos hc18] at h
                                      refine px_D_st 2 (ip1 := 129) (ls1 := [(0, .inr (.inr 150)), (1, .inl (x1))]) (st1 := [.inl ((px_up s 150 0 0) 150 3)]) (h1 := (px_G1, px_up s 150 0 0)) rfl ?_
                                      cases h
                                      exact px_D_iret rfl rfl ⟨rfl, rfl⟩
                                  · have hc17 : (x1) = (16) := Decidable.of_not_not (of_decide_eq_false hc)
                                    rw [if_pos hc17] at h
                                    refine px_D_st 2 (ip1 := 123) (ls1 := [(0, .inr (.inr 150)), (1, .inl (x1))]) (st1 := [.inl ((px_up s 150 0 0) 150 57)]) (h1 := (px_G1, px_up s 150 0 0)) rfl ?_
                                    cases h
                                    exact px_D_iret rfl rfl ⟨rfl, rfl⟩
                                · have hc16 : (x1) = (15) := Decidable.of_not_not (of_decide_eq_false hc)
                                  rw [if_pos hc16] at h
                                  refine px_D_st 2 (ip1 := 117) (ls1 := [(0, .inr (.inr 150)), (1, .inl (x1))]) (st1 := [.inl ((px_up s 150 0 0) 150 53)]) (h1 := (px_G1, px_up s 150 0 0)) rfl ?_
                                  cases h
                                  exact px_D_iret rfl rfl ⟨rfl, rfl⟩
                              · have hc15 : (x1) = (14) := Decidable.of_not_not (of_decide_eq_false hc)
                                rw [if_pos hc15] at h
                                refine px_D_st 2 (ip1 := 111) (ls1 := [(0, .inr (.inr 150)), (1, .inl (x1))]) (st1 := [.inl ((px_up s 150 0 0) 150 51)]) (h1 := (px_G1, px_up s 150 0 0)) rfl ?_
                                cases h
                                exact px_D_iret rfl rfl ⟨rfl, rfl⟩
                            · have hc14 : (x1) = (13) := Decidable.of_not_not (of_decide_eq_false hc)
                              rw [if_pos hc14] at h
                              refine px_D_st 2 (ip1 := 105) (ls1 := [(0, .inr (.inr 150)), (1, .inl (x1))]) (st1 := [.inl ((px_up s 150 0 0) 150 43)]) (h1 := (px_G1, px_up s 150 0 0)) rfl ?_
                              cases h
                              exact px_D_iret rfl rfl ⟨rfl, rfl⟩
                          · have hc13 : (x1) = (12) := Decidable.of_not_not (of_decide_eq_false hc)
                            rw [if_pos hc13] at h
                            refine px_D_st 2 (ip1 := 99) (ls1 := [(0, .inr (.inr 150)), (1, .inl (x1))]) (st1 := [.inl ((px_up s 150 0 0) 150 37)]) (h1 := (px_G1, px_up s 150 0 0)) rfl ?_
                            cases h
                            exact px_D_iret rfl rfl ⟨rfl, rfl⟩
                        · have hc12 : (x1) = (11) := Decidable.of_not_not (of_decide_eq_false hc)
                          rw [if_pos hc12] at h
                          refine px_D_st 2 (ip1 := 93) (ls1 := [(0, .inr (.inr 150)), (1, .inl (x1))]) (st1 := [.inl ((px_up s 150 0 0) 150 35)]) (h1 := (px_G1, px_up s 150 0 0)) rfl ?_
                          cases h
                          exact px_D_iret rfl rfl ⟨rfl, rfl⟩
                      · have hc11 : (x1) = (10) := Decidable.of_not_not (of_decide_eq_false hc)
                        rw [if_pos hc11] at h
                        refine px_D_st 4 (ip1 := 87) (ls1 := [(0, .inr (.inr 150)), (1, .inl (x1))]) (st1 := [.inl ((px_up s 150 0 0) 158 1)]) (h1 := (px_G1, px_up s 150 0 0)) rfl ?_
                        cases h
                        exact px_D_iret rfl rfl ⟨rfl, rfl⟩
                    · have hc10 : (x1) = (9) := Decidable.of_not_not (of_decide_eq_false hc)
                      rw [if_pos hc10] at h
                      refine px_D_st 4 (ip1 := 79) (ls1 := [(0, .inr (.inr 150)), (1, .inl (x1))]) (st1 := [.inl ((px_up s 150 0 0) 158 0)]) (h1 := (px_G1, px_up s 150 0 0)) rfl ?_
                      cases h
                      exact px_D_iret rfl rfl ⟨rfl, rfl⟩
                  · have hc9 : (x1) = (8) := Decidable.of_not_not (of_decide_eq_false hc)
                    rw [if_pos hc9] at h
                    refine px_D_st 4 (ip1 := 71) (ls1 := [(0, .inr (.inr 150)), (1, .inl (x1))]) (st1 := [.inl ((px_up s 150 0 0) 151 1)]) (h1 := (px_G1, px_up s 150 0 0)) rfl ?_
                    cases h
                    exact px_D_iret rfl rfl ⟨rfl, rfl⟩
                · have hc8 : (x1) = (7) := Decidable.of_not_not (of_decide_eq_false hc)
                  rw [if_pos hc8] at h
                  refine px_D_st 4 (ip1 := 63) (ls1 := [(0, .inr (.inr 150)), (1, .inl (x1))]) (st1 := [.inl ((px_up s 150 0 0) 151 2)]) (h1 := (px_G1, px_up s 150 0 0)) rfl ?_
                  cases h
                  exact px_D_iret rfl rfl ⟨rfl, rfl⟩
              · have hc7 : (x1) = (6) := Decidable.of_not_not (of_decide_eq_false hc)
                rw [if_pos hc7] at h
                refine px_D_st 6 (ip1 := 55) (ls1 := [(0, .inr (.inr 150)), (1, .inl (x1))]) (st1 := [.inl (px_wr (((px_up s 150 0 0) 151 6) - 1))]) (h1 := (px_G1, px_up s 150 0 0)) rfl ?_
                cases h
                exact px_D_iret rfl rfl ⟨rfl, rfl⟩
            · have hc6 : (x1) = (5) := Decidable.of_not_not (of_decide_eq_false hc)
              rw [if_pos hc6] at h
              refine px_D_st 4 (ip1 := 45) (ls1 := [(0, .inr (.inr 150)), (1, .inl (x1))]) (st1 := [.inl ((px_up s 150 0 0) 151 5)]) (h1 := (px_G1, px_up s 150 0 0)) rfl ?_
              cases h
              exact px_D_iret rfl rfl ⟨rfl, rfl⟩
          · have hc5 : (x1) = (4) := Decidable.of_not_not (of_decide_eq_false hc)
            rw [if_pos hc5] at h
            refine px_D_st 4 (ip1 := 37) (ls1 := [(0, .inr (.inr 150)), (1, .inl (x1))]) (st1 := [.inl ((px_up s 150 0 0) 151 4)]) (h1 := (px_G1, px_up s 150 0 0)) rfl ?_
            cases h
            exact px_D_iret rfl rfl ⟨rfl, rfl⟩
        · have hc4 : (x1) = (3) := Decidable.of_not_not (of_decide_eq_false hc)
          rw [if_pos hc4] at h
          refine px_D_st 4 (ip1 := 29) (ls1 := [(0, .inr (.inr 150)), (1, .inl (x1))]) (st1 := [.inl ((px_up s 150 0 0) 151 3)]) (h1 := (px_G1, px_up s 150 0 0)) rfl ?_
          cases h
          exact px_D_iret rfl rfl ⟨rfl, rfl⟩
      · have hc3 : (x1) = (2) := Decidable.of_not_not (of_decide_eq_false hc)
        rw [if_pos hc3] at h
        refine px_D_st 4 (ip1 := 21) (ls1 := [(0, .inr (.inr 150)), (1, .inl (x1))]) (st1 := [.inl ((px_up s 150 0 0) 151 0)]) (h1 := (px_G1, px_up s 150 0 0)) rfl ?_
        cases h
        exact px_D_iret rfl rfl ⟨rfl, rfl⟩
    · have hc2 : (x1) = (1) := Decidable.of_not_not (of_decide_eq_false hc)
      rw [if_pos hc2] at h
      refine px_D_st 1 (ip1 := 12) (ls1 := [(0, .inr (.inr 150)), (1, .inl (x1))]) (st1 := [.inr (.inr 150)]) (h1 := (px_G1, px_up s 150 0 0)) rfl ?_
      refine px_D_call (as := [.inr (.inr 150)]) (rest := []) rfl rfl rfl rfl ?_
      obtain ⟨q22, hq22, h⟩ := Option.bind_eq_some_iff.mp h
      refine px_D_mono (c_M_homeSet (d := d + 0) hq22) ?_
      rintro _ _ ⟨rfl, rfl⟩
      show px_D sc (d + 2) 281 13 [(0, .inr (.inr 150)), (1, .inl (x1))] [.inl (q22)] (px_G1, px_up s 150 0 0) _
      cases h
      exact px_D_iret rfl rfl ⟨rfl, rfl⟩
  · have hc1 : (x1) = (0) := Decidable.of_not_not (of_decide_eq_false hc)
    rw [if_pos hc1] at h
    refine px_D_st 2 (ip1 := 7) (ls1 := [(0, .inr (.inr 150)), (1, .inl (x1))]) (st1 := [.inl ((px_up s 150 0 0) 150 6)]) (h1 := (px_G1, px_up s 150 0 0)) rfl ?_
    cases h
    exact px_D_iret rfl rfl ⟨rfl, rfl⟩

def f_Least_forget (s : px_Z) : Option (px_Z) := some (px_up (px_up s 145 10 (-2)) 145 13 0)
set_option maxHeartbeats 4000000 in
set_option maxRecDepth 100000 in
theorem c_Least_forget {sc : List Int} {d : Nat} {s : px_Z} {out : px_Z} (h : f_Least_forget s  = some out) : px_D sc (d + 0) 21 0 [(0, .inr (.inr 145))] [] (px_G1, s) (px_Qv out) := by
  unfold f_Least_forget at h
  refine px_D_st 6 (ip1 := 6) (ls1 := [(0, .inr (.inr 145))]) (st1 := []) (h1 := (px_G1, px_up (px_up s 145 10 (-2)) 145 13 0)) rfl ?_
  cases h
  exact px_D_vret rfl ⟨rfl, rfl⟩

def f_R_forgetDeeds (s : px_Z) : Option (px_Z) := (f_Least_forget (px_up s 88 2 0) ).bind (fun q1 => some q1)
set_option maxHeartbeats 4000000 in
set_option maxRecDepth 100000 in
theorem c_R_forgetDeeds {sc : List Int} {d : Nat} {s : px_Z} {out : px_Z} (h : f_R_forgetDeeds s  = some out) : px_D sc (d + 1) 142 0 [(0, .inr (.inr 5))] [] (px_G1, s) (px_Qv out) := by
  unfold f_R_forgetDeeds at h
  refine px_D_st 6 (ip1 := 6) (ls1 := [(0, .inr (.inr 5))]) (st1 := [.inr (.inr 145)]) (h1 := (px_G1, px_up s 88 2 0)) rfl ?_
  refine px_D_call (as := [.inr (.inr 145)]) (rest := []) rfl rfl rfl rfl ?_
  obtain ⟨q1, hq1, h⟩ := Option.bind_eq_some_iff.mp h
  refine px_D_mono (c_Least_forget (d := d + 0) hq1) ?_
  rintro _ _ ⟨rfl, rfl⟩
  show px_D sc (d + 1) 142 7 [(0, .inr (.inr 5))] [] (px_G1, q1) _
  cases h
  exact px_D_vret rfl ⟨rfl, rfl⟩

def f_R_state (s : px_Z) (x1 : Int) : Option (Int × px_Z) := (f_R_forgetDeeds (px_up s 7 0 x1) ).bind (fun q1 => some (s 7 0, q1))
set_option maxHeartbeats 4000000 in
set_option maxRecDepth 100000 in
theorem c_R_state {sc : List Int} {d : Nat} {s : px_Z} {x1 : Int} {out : Int × px_Z} (h : f_R_state s x1 = some out) : px_D sc (d + 2) 107 0 [(0, .inr (.inr 5)), (1, .inl (x1))] [] (px_G1, s) (px_Qi out) := by
  unfold f_R_state at h
  refine px_D_st 11 (ip1 := 11) (ls1 := [(2, .inl (s 7 0)), (0, .inr (.inr 5)), (1, .inl (x1))]) (st1 := [.inr (.inr 5)]) (h1 := (px_G1, px_up s 7 0 x1)) rfl ?_
  refine px_D_call (as := [.inr (.inr 5)]) (rest := []) rfl rfl rfl rfl ?_
  obtain ⟨q1, hq1, h⟩ := Option.bind_eq_some_iff.mp h
  refine px_D_mono (c_R_forgetDeeds (d := d + 0) hq1) ?_
  rintro _ _ ⟨rfl, rfl⟩
  show px_D sc (d + 2) 107 12 [(2, .inl (s 7 0)), (0, .inr (.inr 5)), (1, .inl (x1))] [] (px_G1, q1) _
  refine px_D_st 1 (ip1 := 13) (ls1 := [(2, .inl (s 7 0)), (0, .inr (.inr 5)), (1, .inl (x1))]) (st1 := [.inl (s 7 0)]) (h1 := (px_G1, q1)) rfl ?_
  cases h
  exact px_D_iret rfl rfl ⟨rfl, rfl⟩

def f_World_isHimHome (s : px_Z) : Option (Int) := if (s 6 1) ≤ (0) then some 0 else (if 0 ≤ (px_wr ((s 6 1) - 1)) ∧ (px_wr ((s 6 1) - 1)) < 8 then if (s 9 (px_wr ((s 6 1) - 1)).toNat) = (1) then some 1 else some 0 else none)
set_option maxHeartbeats 4000000 in
set_option maxRecDepth 100000 in
theorem c_World_isHimHome {sc : List Int} {d : Nat} {s : px_Z} {out : Int} (h : f_World_isHimHome s  = some out) : px_D sc (d + 0) 86 0 [(0, .inr (.inr 6))] [] (px_G1, s) (px_Qp s out) := by
  unfold f_World_isHimHome at h
  refine px_D_st 2 (ip1 := 2) (ls1 := [(0, .inr (.inr 6))]) (st1 := [.inl (s 6 1)]) (h1 := (px_G1, s)) rfl ?_
  refine px_D_ifc rfl (fun hc => ?_) (fun hc => ?_)
  · have hc1 : (s 6 1) ≤ (0) := of_decide_eq_true hc
    rw [if_pos hc1] at h
    refine px_D_st 1 (ip1 := 16) (ls1 := [(0, .inr (.inr 6))]) (st1 := [.inl (0)]) (h1 := (px_G1, s)) rfl ?_
    cases h
    exact px_D_iret rfl rfl ⟨rfl, rfl⟩
  · have hc1 : ¬ ((s 6 1) ≤ (0)) := of_decide_eq_false hc
    rw [if_neg hc1] at h
    refine px_D_st 7 (ip1 := 10) (ls1 := [(0, .inr (.inr 6))]) (st1 := [.inl (px_wr ((s 6 1) - 1)), .inr (.inr 9)]) (h1 := (px_G1, s)) rfl ?_
    by_cases hc2 : 0 ≤ (px_wr ((s 6 1) - 1)) ∧ (px_wr ((s 6 1) - 1)) < 8
    case neg => rw [if_neg hc2] at h; cases h
    rw [if_pos hc2] at h
    refine px_D_iald (k := 4) (n := 8) rfl rfl hc2 ?_
    refine px_D_st 1 (ip1 := 12) (ls1 := [(0, .inr (.inr 6))]) (st1 := [.inl (1), .inl (s 9 (px_wr ((s 6 1) - 1)).toNat)]) (h1 := (px_G1, s)) rfl ?_
    refine px_D_icmp rfl (fun hc => ?_) (fun hc => ?_)
    · have hc3 : ¬ ((s 9 (px_wr ((s 6 1) - 1)).toNat) = (1)) := of_decide_eq_true hc
      rw [if_neg hc3] at h
      refine px_D_st 1 (ip1 := 16) (ls1 := [(0, .inr (.inr 6))]) (st1 := [.inl (0)]) (h1 := (px_G1, s)) rfl ?_
      cases h
      exact px_D_iret rfl rfl ⟨rfl, rfl⟩
    · have hc3 : (s 9 (px_wr ((s 6 1) - 1)).toNat) = (1) := Decidable.of_not_not (of_decide_eq_false hc)
      rw [if_pos hc3] at h
      refine px_D_st 2 (ip1 := 16) (ls1 := [(0, .inr (.inr 6))]) (st1 := [.inl (1)]) (h1 := (px_G1, s)) rfl ?_
      cases h
      exact px_D_iret rfl rfl ⟨rfl, rfl⟩

def f_R_within (s : px_Z) (x0 : Int) (x1 : Int) (x2 : Int) : Int := if (x0) < (x1) then 0 else (if (x2) < (x0) then 0 else 1)
set_option maxHeartbeats 4000000 in
set_option maxRecDepth 100000 in
theorem c_R_within {sc : List Int} {d : Nat} {s : px_Z} {x0 : Int} {x1 : Int} {x2 : Int} {out : Int} (h : f_R_within s x0 x1 x2 = out) : px_D sc (d + 0) 144 0 [(0, .inl (x0)), (1, .inl (x1)), (2, .inl (x2))] [] (px_G1, s) (px_Qp s out) := by
  unfold f_R_within at h
  refine px_D_st 2 (ip1 := 2) (ls1 := [(0, .inl (x0)), (1, .inl (x1)), (2, .inl (x2))]) (st1 := [.inl (x1), .inl (x0)]) (h1 := (px_G1, s)) rfl ?_
  refine px_D_icmp rfl (fun hc => ?_) (fun hc => ?_)
  · have hc1 : (x0) < (x1) := of_decide_eq_true hc
    rw [if_pos hc1] at h
    refine px_D_st 1 (ip1 := 9) (ls1 := [(0, .inl (x0)), (1, .inl (x1)), (2, .inl (x2))]) (st1 := [.inl (0)]) (h1 := (px_G1, s)) rfl ?_
    subst h
    exact px_D_iret rfl rfl ⟨rfl, rfl⟩
  · have hc1 : ¬ ((x0) < (x1)) := of_decide_eq_false hc
    rw [if_neg hc1] at h
    refine px_D_st 2 (ip1 := 5) (ls1 := [(0, .inl (x0)), (1, .inl (x1)), (2, .inl (x2))]) (st1 := [.inl (x2), .inl (x0)]) (h1 := (px_G1, s)) rfl ?_
    refine px_D_icmp rfl (fun hc => ?_) (fun hc => ?_)
    · have hc2 : (x2) < (x0) := of_decide_eq_true hc
      rw [if_pos hc2] at h
      refine px_D_st 1 (ip1 := 9) (ls1 := [(0, .inl (x0)), (1, .inl (x1)), (2, .inl (x2))]) (st1 := [.inl (0)]) (h1 := (px_G1, s)) rfl ?_
      subst h
      exact px_D_iret rfl rfl ⟨rfl, rfl⟩
    · have hc2 : ¬ ((x2) < (x0)) := of_decide_eq_false hc
      rw [if_neg hc2] at h
      refine px_D_st 2 (ip1 := 9) (ls1 := [(0, .inl (x0)), (1, .inl (x1)), (2, .inl (x2))]) (st1 := [.inl (1)]) (h1 := (px_G1, s)) rfl ?_
      subst h
      exact px_D_iret rfl rfl ⟨rfl, rfl⟩
set_option maxHeartbeats 4000000 in
set_option maxRecDepth 100000 in
theorem bz_R_within {s : px_Z} {x0 : Int} {x1 : Int} {x2 : Int} : f_R_within s x0 x1 x2 = 0 ∨ f_R_within s x0 x1 x2 = 1 := by
  unfold f_R_within
  repeat' split
  all_goals first | exact Or.inl rfl | exact Or.inr rfl | exact Or.inl rfl

def l_Arrays_fill_5  : Nat → px_Z → Int → Int → Int → Option (px_Z)
  | 0, _, _, _, _ => none
  | n + 1, s, x1, x2, x3 => if (x3) ≤ (x2) then some s else (if 0 ≤ (x2) ∧ (x2) < 8 then l_Arrays_fill_5  n (px_up s 13 x2.toNat x1) x1 (px_wr (x2 + 1)) x3 else none)
set_option maxHeartbeats 4000000 in
set_option maxRecDepth 100000 in
theorem cl_Arrays_fill_5 {sc : List Int} {d : Nat}  : ∀ (n : Nat) (s : px_Z) (x1 : Int) (x2 : Int) (x3 : Int) (out : px_Z), l_Arrays_fill_5  n s x1 x2 x3 = some out → px_D sc (d + 0) 287 5 [(0, .inr (.inr 13)), (1, .inl (x1)), (2, .inl (x2)), (3, .inl (x3))] [] (px_G1, s) (px_Qv out) := by
  intro n
  induction n with
  | zero => intro s x1 x2 x3 out h; cases h
  | succ n ih =>
    intro s x1 x2 x3 out h
    rw [l_Arrays_fill_5] at h
    refine px_D_st 2 (ip1 := 7) (ls1 := [(0, .inr (.inr 13)), (1, .inl (x1)), (2, .inl (x2)), (3, .inl (x3))]) (st1 := [.inl (x3), .inl (x2)]) (h1 := (px_G1, s)) rfl ?_
    refine px_D_icmp rfl (fun hc => ?_) (fun hc => ?_)
    · have hc1 : (x3) ≤ (x2) := of_decide_eq_true hc
      rw [if_pos hc1] at h
      cases h
      exact px_D_vret rfl ⟨rfl, rfl⟩
    · have hc1 : ¬ ((x3) ≤ (x2)) := of_decide_eq_false hc
      rw [if_neg hc1] at h
      refine px_D_st 3 (ip1 := 11) (ls1 := [(0, .inr (.inr 13)), (1, .inl (x1)), (2, .inl (x2)), (3, .inl (x3))]) (st1 := [.inl (x1), .inl (x2), .inr (.inr 13)]) (h1 := (px_G1, s)) rfl ?_
      by_cases hc2 : 0 ≤ (x2) ∧ (x2) < 8
      case neg => rw [if_neg hc2] at h; cases h
      rw [if_pos hc2] at h
      refine px_D_iast (k := 8) (n := 8) rfl rfl hc2 ?_
      refine px_D_st 2 (ip1 := 5) (ls1 := [(2, .inl (px_wr (x2 + 1))), (0, .inr (.inr 13)), (1, .inl (x1)), (3, .inl (x3))]) (st1 := []) (h1 := (px_G1, px_up s 13 x2.toNat x1)) rfl ?_
      refine px_D_ls [(0, .inr (.inr 13)), (1, .inl (x1)), (2, .inl (px_wr (x2 + 1))), (3, .inl (x3))] rfl rfl (List.forall_mem_cons.mpr ⟨rfl, List.forall_mem_cons.mpr ⟨rfl, List.forall_mem_cons.mpr ⟨rfl, List.forall_mem_cons.mpr ⟨rfl, fun _ h => absurd h List.not_mem_nil⟩⟩⟩⟩) ?_
      exact ih _ _ _ _ _ h
def f_Arrays_fill (s : px_Z) (x1 : Int) : Option (px_Z) := l_Arrays_fill_5  px_big s x1 0 8
set_option maxHeartbeats 4000000 in
set_option maxRecDepth 100000 in
theorem c_Arrays_fill {sc : List Int} {d : Nat} {s : px_Z} {x1 : Int} {out : px_Z} (h : f_Arrays_fill s x1 = some out) : px_D sc (d + 0) 287 0 [(0, .inr (.inr 13)), (1, .inl (x1))] [] (px_G1, s) (px_Qv out) := by
  unfold f_Arrays_fill at h
  refine px_D_st 5 (ip1 := 5) (ls1 := [(3, .inl (8)), (2, .inl (0)), (0, .inr (.inr 13)), (1, .inl (x1))]) (st1 := []) (h1 := (px_G1, s)) rfl ?_
  refine px_D_ls [(0, .inr (.inr 13)), (1, .inl (x1)), (2, .inl (0)), (3, .inl (8))] rfl rfl (List.forall_mem_cons.mpr ⟨rfl, List.forall_mem_cons.mpr ⟨rfl, List.forall_mem_cons.mpr ⟨rfl, List.forall_mem_cons.mpr ⟨rfl, fun _ h => absurd h List.not_mem_nil⟩⟩⟩⟩) ?_
  refine cl_Arrays_fill_5  px_big _ _ _ _ _ h

def f_World_addThing (s : px_Z) (x1 : Int) : Option (Int × px_Z) := if (s 6 1) < (8) then (if 0 ≤ (s 6 1) ∧ (s 6 1) < 8 then (f_Arrays_fill (px_up s 12 (s 6 1).toNat x1) 0).bind (fun q3 => some ((px_wr (((px_up (px_up q3 6 7 0) 6 1 (px_wr (((px_up q3 6 7 0) 6 1) + 1))) 6 1) - 1), px_up (px_up q3 6 7 0) 6 1 (px_wr (((px_up q3 6 7 0) 6 1) + 1))))) else none) else some (((-1), s))
set_option maxHeartbeats 4000000 in
set_option maxRecDepth 100000 in
theorem c_World_addThing {sc : List Int} {d : Nat} {s : px_Z} {x1 : Int} {out : Int × px_Z} (h : f_World_addThing s x1 = some out) : px_D sc (d + 1) 82 0 [(0, .inr (.inr 6)), (1, .inl (x1))] [] (px_G1, s) (px_Qi out) := by
  unfold f_World_addThing at h
  refine px_D_st 3 (ip1 := 3) (ls1 := [(0, .inr (.inr 6)), (1, .inl (x1))]) (st1 := [.inl (8), .inl (s 6 1)]) (h1 := (px_G1, s)) rfl ?_
  refine px_D_icmp rfl (fun hc => ?_) (fun hc => ?_)
  · have hc1 : (s 6 1) < (8) := of_decide_eq_true hc
    rw [if_pos hc1] at h
    refine px_D_st 5 (ip1 := 11) (ls1 := [(0, .inr (.inr 6)), (1, .inl (x1))]) (st1 := [.inl (x1), .inl (s 6 1), .inr (.inr 12)]) (h1 := (px_G1, s)) rfl ?_
    by_cases hc2 : 0 ≤ (s 6 1) ∧ (s 6 1) < 8
    case neg => rw [if_neg hc2] at h; cases h
    rw [if_pos hc2] at h
    refine px_D_iast (k := 7) (n := 8) rfl rfl hc2 ?_
    refine px_D_st 3 (ip1 := 15) (ls1 := [(0, .inr (.inr 6)), (1, .inl (x1))]) (st1 := [.inl (0), .inr (.inr 13)]) (h1 := (px_G1, px_up s 12 (s 6 1).toNat x1)) rfl ?_
    refine px_D_call (as := [.inr (.inr 13), .inl (0)]) (rest := []) rfl rfl rfl rfl ?_
    obtain ⟨q3, hq3, h⟩ := Option.bind_eq_some_iff.mp h
    refine px_D_mono (c_Arrays_fill (d := d + 0) hq3) ?_
    rintro _ _ ⟨rfl, rfl⟩
    show px_D sc (d + 1) 82 16 [(0, .inr (.inr 6)), (1, .inl (x1))] [] (px_G1, q3) _
    refine px_D_st 13 (ip1 := 29) (ls1 := [(0, .inr (.inr 6)), (1, .inl (x1))]) (st1 := [.inl (px_wr (((px_up (px_up q3 6 7 0) 6 1 (px_wr (((px_up q3 6 7 0) 6 1) + 1))) 6 1) - 1))]) (h1 := (px_G1, px_up (px_up q3 6 7 0) 6 1 (px_wr (((px_up q3 6 7 0) 6 1) + 1)))) rfl ?_
    cases h
    exact px_D_iret rfl rfl ⟨rfl, rfl⟩
  · have hc1 : ¬ ((s 6 1) < (8)) := of_decide_eq_false hc
    rw [if_neg hc1] at h
    refine px_D_st 1 (ip1 := 5) (ls1 := [(0, .inr (.inr 6)), (1, .inl (x1))]) (st1 := [.inl ((-1))]) (h1 := (px_G1, s)) rfl ?_
    cases h
    exact px_D_iret rfl rfl ⟨rfl, rfl⟩

def f_R_thing (s : px_Z) (x1 : Int) : Option (Int × px_Z) := if (f_R_within s x1 0 999) = (0) then some (((-1), s)) else (if (8) ≤ (s 6 1) then some (((-1), s)) else (f_World_isHimHome s ).bind (fun q3 => if (q3) = (0) then (f_World_addThing s x1).bind (fun q5 => (f_R_forgetDeeds q5.2 ).bind (fun q6 => some (q5.1, q6))) else some (((-1), s))))
set_option maxHeartbeats 4000000 in
set_option maxRecDepth 100000 in
theorem c_R_thing {sc : List Int} {d : Nat} {s : px_Z} {x1 : Int} {out : Int × px_Z} (h : f_R_thing s x1 = some out) : px_D sc (d + 2) 108 0 [(0, .inr (.inr 5)), (1, .inl (x1))] [] (px_G1, s) (px_Qi out) := by
  unfold f_R_thing at h
  refine px_D_st 3 (ip1 := 3) (ls1 := [(0, .inr (.inr 5)), (1, .inl (x1))]) (st1 := [.inl (999), .inl (0), .inl (x1)]) (h1 := (px_G1, s)) rfl ?_
  refine px_D_call (as := [.inl (x1), .inl (0), .inl (999)]) (rest := []) rfl rfl rfl rfl ?_
  refine px_D_mono (c_R_within (d := d + 1) rfl) ?_
  rintro _ _ ⟨rfl, rfl⟩
  show px_D sc (d + 2) 108 4 [(0, .inr (.inr 5)), (1, .inl (x1))] [.inl (f_R_within s x1 0 999)] (px_G1, s) _
  refine px_D_ifc rfl (fun hc => ?_) (fun hc => ?_)
  · have hc1 : (f_R_within s x1 0 999) = (0) := of_decide_eq_true hc
    rw [if_pos hc1] at h
    refine px_D_st 1 (ip1 := 15) (ls1 := [(0, .inr (.inr 5)), (1, .inl (x1))]) (st1 := [.inl ((-1))]) (h1 := (px_G1, s)) rfl ?_
    cases h
    exact px_D_iret rfl rfl ⟨rfl, rfl⟩
  · have hc1 : ¬ ((f_R_within s x1 0 999) = (0)) := of_decide_eq_false hc
    rw [if_neg hc1] at h
    refine px_D_st 4 (ip1 := 9) (ls1 := [(0, .inr (.inr 5)), (1, .inl (x1))]) (st1 := [.inl (8), .inl (s 6 1)]) (h1 := (px_G1, s)) rfl ?_
    refine px_D_icmp rfl (fun hc => ?_) (fun hc => ?_)
    · have hc2 : (8) ≤ (s 6 1) := of_decide_eq_true hc
      rw [if_pos hc2] at h
      refine px_D_st 1 (ip1 := 15) (ls1 := [(0, .inr (.inr 5)), (1, .inl (x1))]) (st1 := [.inl ((-1))]) (h1 := (px_G1, s)) rfl ?_
      cases h
      exact px_D_iret rfl rfl ⟨rfl, rfl⟩
    · have hc2 : ¬ ((8) ≤ (s 6 1)) := of_decide_eq_false hc
      rw [if_neg hc2] at h
      refine px_D_st 2 (ip1 := 12) (ls1 := [(0, .inr (.inr 5)), (1, .inl (x1))]) (st1 := [.inr (.inr 6)]) (h1 := (px_G1, s)) rfl ?_
      refine px_D_call (as := [.inr (.inr 6)]) (rest := []) rfl rfl rfl rfl ?_
      obtain ⟨q3, hq3, h⟩ := Option.bind_eq_some_iff.mp h
      refine px_D_mono (c_World_isHimHome (d := d + 1) hq3) ?_
      rintro _ _ ⟨rfl, rfl⟩
      show px_D sc (d + 2) 108 13 [(0, .inr (.inr 5)), (1, .inl (x1))] [.inl (q3)] (px_G1, s) _
      refine px_D_ifc rfl (fun hc => ?_) (fun hc => ?_)
      · have hc4 : (q3) = (0) := of_decide_eq_true hc
        rw [if_pos hc4] at h
        refine px_D_st 3 (ip1 := 19) (ls1 := [(0, .inr (.inr 5)), (1, .inl (x1))]) (st1 := [.inl (x1), .inr (.inr 6)]) (h1 := (px_G1, s)) rfl ?_
        refine px_D_call (as := [.inr (.inr 6), .inl (x1)]) (rest := []) rfl rfl rfl rfl ?_
        obtain ⟨q5, hq5, h⟩ := Option.bind_eq_some_iff.mp h
        refine px_D_mono (c_World_addThing (d := d + 0) hq5) ?_
        rintro _ _ ⟨rfl, rfl⟩
        show px_D sc (d + 2) 108 20 [(0, .inr (.inr 5)), (1, .inl (x1))] [.inl (q5.1)] (px_G1, q5.2) _
        refine px_D_st 2 (ip1 := 22) (ls1 := [(2, .inl (q5.1)), (0, .inr (.inr 5)), (1, .inl (x1))]) (st1 := [.inr (.inr 5)]) (h1 := (px_G1, q5.2)) rfl ?_
        refine px_D_call (as := [.inr (.inr 5)]) (rest := []) rfl rfl rfl rfl ?_
        obtain ⟨q6, hq6, h⟩ := Option.bind_eq_some_iff.mp h
        refine px_D_mono (c_R_forgetDeeds (d := d + 0) hq6) ?_
        rintro _ _ ⟨rfl, rfl⟩
        show px_D sc (d + 2) 108 23 [(2, .inl (q5.1)), (0, .inr (.inr 5)), (1, .inl (x1))] [] (px_G1, q6) _
        refine px_D_st 1 (ip1 := 24) (ls1 := [(2, .inl (q5.1)), (0, .inr (.inr 5)), (1, .inl (x1))]) (st1 := [.inl (q5.1)]) (h1 := (px_G1, q6)) rfl ?_
        cases h
        exact px_D_iret rfl rfl ⟨rfl, rfl⟩
      · have hc4 : ¬ ((q3) = (0)) := of_decide_eq_false hc
        rw [if_neg hc4] at h
        refine px_D_st 1 (ip1 := 15) (ls1 := [(0, .inr (.inr 5)), (1, .inl (x1))]) (st1 := [.inl ((-1))]) (h1 := (px_G1, s)) rfl ?_
        cases h
        exact px_D_iret rfl rfl ⟨rfl, rfl⟩

def f_R_tell (s : px_Z) (x1 : Int) (x2 : Int) (x3 : Int) : Option (px_Z) := if (x1) = 0 then some (px_up s 7 1 x3) else (if (x1) = 1 then some (px_up s 7 2 x3) else (if (x1) = 2 then some (px_up s 7 3 x3) else (if (x1) = 3 then some (px_up s 6 2 x3) else (if (x1) = 4 then some (px_up s 6 3 x3) else (if (x1) = 5 then some (px_up s 6 4 x3) else (if (x1) = 6 then (if 0 ≤ (x2) ∧ (x2) < 8 then some (px_up s 12 x2.toNat x3) else none) else (if 0 ≤ (x2) ∧ (x2) < 8 then some (px_up s 8 x2.toNat x3) else none)))))))
set_option maxHeartbeats 4000000 in
set_option maxRecDepth 100000 in
theorem c_R_tell {sc : List Int} {d : Nat} {s : px_Z} {x1 : Int} {x2 : Int} {x3 : Int} {out : px_Z} (h : f_R_tell s x1 x2 x3 = some out) : px_D sc (d + 0) 110 0 [(0, .inr (.inr 5)), (1, .inl (x1)), (2, .inl (x2)), (3, .inl (x3))] [] (px_G1, s) (px_Qv out) := by
  unfold f_R_tell at h
  refine px_D_st 1 (ip1 := 1) (ls1 := [(0, .inr (.inr 5)), (1, .inl (x1)), (2, .inl (x2)), (3, .inl (x3))]) (st1 := [.inl (x1)]) (h1 := (px_G1, s)) rfl ?_
  by_cases hc1 : (x1) = 0
  · rw [if_pos hc1] at h
    refine px_D_tsw (c := 0) rfl hc1 (by decide) rfl ?_
    refine px_D_st 6 (ip1 := 49) (ls1 := [(0, .inr (.inr 5)), (1, .inl (x1)), (2, .inl (x2)), (3, .inl (x3))]) (st1 := []) (h1 := (px_G1, px_up s 7 1 x3)) rfl ?_
    cases h
    exact px_D_vret rfl ⟨rfl, rfl⟩
  rw [if_neg hc1] at h
  by_cases hc2 : (x1) = 1
  · rw [if_pos hc2] at h
    refine px_D_tsw (c := 1) rfl hc2 (by decide) rfl ?_
    refine px_D_st 6 (ip1 := 49) (ls1 := [(0, .inr (.inr 5)), (1, .inl (x1)), (2, .inl (x2)), (3, .inl (x3))]) (st1 := []) (h1 := (px_G1, px_up s 7 2 x3)) rfl ?_
    cases h
    exact px_D_vret rfl ⟨rfl, rfl⟩
  rw [if_neg hc2] at h
  by_cases hc3 : (x1) = 2
  · rw [if_pos hc3] at h
    refine px_D_tsw (c := 2) rfl hc3 (by decide) rfl ?_
    refine px_D_st 6 (ip1 := 49) (ls1 := [(0, .inr (.inr 5)), (1, .inl (x1)), (2, .inl (x2)), (3, .inl (x3))]) (st1 := []) (h1 := (px_G1, px_up s 7 3 x3)) rfl ?_
    cases h
    exact px_D_vret rfl ⟨rfl, rfl⟩
  rw [if_neg hc3] at h
  by_cases hc4 : (x1) = 3
  · rw [if_pos hc4] at h
    refine px_D_tsw (c := 3) rfl hc4 (by decide) rfl ?_
    refine px_D_st 5 (ip1 := 49) (ls1 := [(0, .inr (.inr 5)), (1, .inl (x1)), (2, .inl (x2)), (3, .inl (x3))]) (st1 := []) (h1 := (px_G1, px_up s 6 2 x3)) rfl ?_
    cases h
    exact px_D_vret rfl ⟨rfl, rfl⟩
  rw [if_neg hc4] at h
  by_cases hc5 : (x1) = 4
  · rw [if_pos hc5] at h
    refine px_D_tsw (c := 4) rfl hc5 (by decide) rfl ?_
    refine px_D_st 5 (ip1 := 49) (ls1 := [(0, .inr (.inr 5)), (1, .inl (x1)), (2, .inl (x2)), (3, .inl (x3))]) (st1 := []) (h1 := (px_G1, px_up s 6 3 x3)) rfl ?_
    cases h
    exact px_D_vret rfl ⟨rfl, rfl⟩
  rw [if_neg hc5] at h
  by_cases hc6 : (x1) = 5
  · rw [if_pos hc6] at h
    refine px_D_tsw (c := 5) rfl hc6 (by decide) rfl ?_
    refine px_D_st 5 (ip1 := 49) (ls1 := [(0, .inr (.inr 5)), (1, .inl (x1)), (2, .inl (x2)), (3, .inl (x3))]) (st1 := []) (h1 := (px_G1, px_up s 6 4 x3)) rfl ?_
    cases h
    exact px_D_vret rfl ⟨rfl, rfl⟩
  rw [if_neg hc6] at h
  by_cases hc7 : (x1) = 6
  · rw [if_pos hc7] at h
    refine px_D_tsw (c := 6) rfl hc7 (by decide) rfl ?_
    refine px_D_st 5 (ip1 := 40) (ls1 := [(0, .inr (.inr 5)), (1, .inl (x1)), (2, .inl (x2)), (3, .inl (x3))]) (st1 := [.inl (x3), .inl (x2), .inr (.inr 12)]) (h1 := (px_G1, s)) rfl ?_
    by_cases hc8 : 0 ≤ (x2) ∧ (x2) < 8
    case neg => rw [if_neg hc8] at h; cases h
    rw [if_pos hc8] at h
    refine px_D_iast (k := 7) (n := 8) rfl rfl hc8 ?_
    refine px_D_st 1 (ip1 := 49) (ls1 := [(0, .inr (.inr 5)), (1, .inl (x1)), (2, .inl (x2)), (3, .inl (x3))]) (st1 := []) (h1 := (px_G1, px_up s 12 x2.toNat x3)) rfl ?_
    cases h
    exact px_D_vret rfl ⟨rfl, rfl⟩
  rw [if_neg hc7] at h
  refine px_D_tswD rfl (by omega) ?_
  refine px_D_st 6 (ip1 := 48) (ls1 := [(0, .inr (.inr 5)), (1, .inl (x1)), (2, .inl (x2)), (3, .inl (x3))]) (st1 := [.inl (x3), .inl (x2), .inr (.inr 8)]) (h1 := (px_G1, s)) rfl ?_
  by_cases hc9 : 0 ≤ (x2) ∧ (x2) < 8
  case neg => rw [if_neg hc9] at h; cases h
  rw [if_pos hc9] at h
  refine px_D_iast (k := 3) (n := 8) rfl rfl hc9 ?_
  cases h
  exact px_D_vret rfl ⟨rfl, rfl⟩

def f_R_set (s : px_Z) (x1 : Int) (x2 : Int) (x3 : Int) : Option (Int × px_Z) := if (f_R_within s x1 0 (px_wr (8 - 1))) = (0) then some (0, s) else (if 0 ≤ (x1) then (px_mt[(x1).toNat]?).bind (fun q3 => if (f_R_within s x3 0 q3) = (0) then some (0, s) else (if (x1) < (6) then (f_R_tell s x1 x2 x3).bind (fun q6 => (f_R_forgetDeeds q6 ).bind (fun q7 => some (1, q7))) else (if (f_R_within s x2 0 (px_wr ((s 6 1) - 1))) = (0) then some (0, s) else (f_R_tell s x1 x2 x3).bind (fun q9 => (f_R_forgetDeeds q9 ).bind (fun q10 => some (1, q10)))))) else none)
set_option maxHeartbeats 4000000 in
set_option maxRecDepth 100000 in
theorem c_R_set {sc : List Int} {d : Nat} {s : px_Z} {x1 : Int} {x2 : Int} {x3 : Int} {out : Int × px_Z} (h : f_R_set s x1 x2 x3 = some out) : px_D sc (d + 2) 109 0 [(0, .inr (.inr 5)), (1, .inl (x1)), (2, .inl (x2)), (3, .inl (x3))] [] (px_G1, s) (px_Qi out) := by
  unfold f_R_set at h
  refine px_D_st 5 (ip1 := 6) (ls1 := [(0, .inr (.inr 5)), (1, .inl (x1)), (2, .inl (x2)), (3, .inl (x3))]) (st1 := [.inl (px_wr (8 - 1)), .inl (0), .inl (x1)]) (h1 := (px_G1, s)) rfl ?_
  refine px_D_call (as := [.inl (x1), .inl (0), .inl (px_wr (8 - 1))]) (rest := []) rfl rfl rfl rfl ?_
  refine px_D_mono (c_R_within (d := d + 1) rfl) ?_
  rintro _ _ ⟨rfl, rfl⟩
  show px_D sc (d + 2) 109 7 [(0, .inr (.inr 5)), (1, .inl (x1)), (2, .inl (x2)), (3, .inl (x3))] [.inl (f_R_within s x1 0 (px_wr (8 - 1)))] (px_G1, s) _
  refine px_D_ifc rfl (fun hc => ?_) (fun hc => ?_)
  · have hc1 : (f_R_within s x1 0 (px_wr (8 - 1))) = (0) := of_decide_eq_true hc
    rw [if_pos hc1] at h
    refine px_D_st 1 (ip1 := 16) (ls1 := [(0, .inr (.inr 5)), (1, .inl (x1)), (2, .inl (x2)), (3, .inl (x3))]) (st1 := [.inl (0)]) (h1 := (px_G1, s)) rfl ?_
    cases h
    exact px_D_iret rfl rfl ⟨rfl, rfl⟩
  · have hc1 : ¬ ((f_R_within s x1 0 (px_wr (8 - 1))) = (0)) := of_decide_eq_false hc
    rw [if_neg hc1] at h
    refine px_D_st 2 (ip1 := 10) (ls1 := [(0, .inr (.inr 5)), (1, .inl (x1)), (2, .inl (x2)), (3, .inl (x3))]) (st1 := [.inl (0), .inl (x3)]) (h1 := (px_G1, s)) rfl ?_
    by_cases hc2 : 0 ≤ (x1)
    case neg => rw [if_neg hc2] at h; cases h
    rw [if_pos hc2] at h
    obtain ⟨q3, hq3, h⟩ := Option.bind_eq_some_iff.mp h
    refine px_D_gets (j := x1) rfl rfl hc2 hq3 ?_
    refine px_D_call (as := [.inl (x3), .inl (0), .inl (q3)]) (rest := []) rfl rfl rfl rfl ?_
    refine px_D_mono (c_R_within (d := d + 1) rfl) ?_
    rintro _ _ ⟨rfl, rfl⟩
    show px_D sc (d + 2) 109 14 [(0, .inr (.inr 5)), (1, .inl (x1)), (2, .inl (x2)), (3, .inl (x3))] [.inl (f_R_within s x3 0 q3)] (px_G1, s) _
    refine px_D_ifc rfl (fun hc => ?_) (fun hc => ?_)
    · have hc4 : ¬ ((f_R_within s x3 0 q3) = (0)) := of_decide_eq_true hc
      rw [if_neg hc4] at h
      refine px_D_st 2 (ip1 := 19) (ls1 := [(0, .inr (.inr 5)), (1, .inl (x1)), (2, .inl (x2)), (3, .inl (x3))]) (st1 := [.inl (6), .inl (x1)]) (h1 := (px_G1, s)) rfl ?_
      refine px_D_icmp rfl (fun hc => ?_) (fun hc => ?_)
      · have hc5 : (x1) < (6) := of_decide_eq_true hc
        rw [if_pos hc5] at h
        refine px_D_st 4 (ip1 := 35) (ls1 := [(0, .inr (.inr 5)), (1, .inl (x1)), (2, .inl (x2)), (3, .inl (x3))]) (st1 := [.inl (x3), .inl (x2), .inl (x1), .inr (.inr 5)]) (h1 := (px_G1, s)) rfl ?_
        refine px_D_call (as := [.inr (.inr 5), .inl (x1), .inl (x2), .inl (x3)]) (rest := []) rfl rfl rfl rfl ?_
        obtain ⟨q6, hq6, h⟩ := Option.bind_eq_some_iff.mp h
        refine px_D_mono (c_R_tell (d := d + 1) hq6) ?_
        rintro _ _ ⟨rfl, rfl⟩
        show px_D sc (d + 2) 109 36 [(0, .inr (.inr 5)), (1, .inl (x1)), (2, .inl (x2)), (3, .inl (x3))] [] (px_G1, q6) _
        refine px_D_st 1 (ip1 := 37) (ls1 := [(0, .inr (.inr 5)), (1, .inl (x1)), (2, .inl (x2)), (3, .inl (x3))]) (st1 := [.inr (.inr 5)]) (h1 := (px_G1, q6)) rfl ?_
        refine px_D_call (as := [.inr (.inr 5)]) (rest := []) rfl rfl rfl rfl ?_
        obtain ⟨q7, hq7, h⟩ := Option.bind_eq_some_iff.mp h
        refine px_D_mono (c_R_forgetDeeds (d := d + 0) hq7) ?_
        rintro _ _ ⟨rfl, rfl⟩
        show px_D sc (d + 2) 109 38 [(0, .inr (.inr 5)), (1, .inl (x1)), (2, .inl (x2)), (3, .inl (x3))] [] (px_G1, q7) _
        refine px_D_st 1 (ip1 := 39) (ls1 := [(0, .inr (.inr 5)), (1, .inl (x1)), (2, .inl (x2)), (3, .inl (x3))]) (st1 := [.inl (1)]) (h1 := (px_G1, q7)) rfl ?_
        cases h
        exact px_D_iret rfl rfl ⟨rfl, rfl⟩
      · have hc5 : ¬ ((x1) < (6)) := of_decide_eq_false hc
        rw [if_neg hc5] at h
        refine px_D_st 7 (ip1 := 27) (ls1 := [(0, .inr (.inr 5)), (1, .inl (x1)), (2, .inl (x2)), (3, .inl (x3))]) (st1 := [.inl (px_wr ((s 6 1) - 1)), .inl (0), .inl (x2)]) (h1 := (px_G1, s)) rfl ?_
        refine px_D_call (as := [.inl (x2), .inl (0), .inl (px_wr ((s 6 1) - 1))]) (rest := []) rfl rfl rfl rfl ?_
        refine px_D_mono (c_R_within (d := d + 1) rfl) ?_
        rintro _ _ ⟨rfl, rfl⟩
        show px_D sc (d + 2) 109 28 [(0, .inr (.inr 5)), (1, .inl (x1)), (2, .inl (x2)), (3, .inl (x3))] [.inl (f_R_within s x2 0 (px_wr ((s 6 1) - 1)))] (px_G1, s) _
        refine px_D_ifc rfl (fun hc => ?_) (fun hc => ?_)
        · have hc8 : ¬ ((f_R_within s x2 0 (px_wr ((s 6 1) - 1))) = (0)) := of_decide_eq_true hc
          rw [if_neg hc8] at h
          refine px_D_st 4 (ip1 := 35) (ls1 := [(0, .inr (.inr 5)), (1, .inl (x1)), (2, .inl (x2)), (3, .inl (x3))]) (st1 := [.inl (x3), .inl (x2), .inl (x1), .inr (.inr 5)]) (h1 := (px_G1, s)) rfl ?_
          refine px_D_call (as := [.inr (.inr 5), .inl (x1), .inl (x2), .inl (x3)]) (rest := []) rfl rfl rfl rfl ?_
          obtain ⟨q9, hq9, h⟩ := Option.bind_eq_some_iff.mp h
          refine px_D_mono (c_R_tell (d := d + 1) hq9) ?_
          rintro _ _ ⟨rfl, rfl⟩
          show px_D sc (d + 2) 109 36 [(0, .inr (.inr 5)), (1, .inl (x1)), (2, .inl (x2)), (3, .inl (x3))] [] (px_G1, q9) _
          refine px_D_st 1 (ip1 := 37) (ls1 := [(0, .inr (.inr 5)), (1, .inl (x1)), (2, .inl (x2)), (3, .inl (x3))]) (st1 := [.inr (.inr 5)]) (h1 := (px_G1, q9)) rfl ?_
          refine px_D_call (as := [.inr (.inr 5)]) (rest := []) rfl rfl rfl rfl ?_
          obtain ⟨q10, hq10, h⟩ := Option.bind_eq_some_iff.mp h
          refine px_D_mono (c_R_forgetDeeds (d := d + 0) hq10) ?_
          rintro _ _ ⟨rfl, rfl⟩
          show px_D sc (d + 2) 109 38 [(0, .inr (.inr 5)), (1, .inl (x1)), (2, .inl (x2)), (3, .inl (x3))] [] (px_G1, q10) _
          refine px_D_st 1 (ip1 := 39) (ls1 := [(0, .inr (.inr 5)), (1, .inl (x1)), (2, .inl (x2)), (3, .inl (x3))]) (st1 := [.inl (1)]) (h1 := (px_G1, q10)) rfl ?_
          cases h
          exact px_D_iret rfl rfl ⟨rfl, rfl⟩
        · have hc8 : (f_R_within s x2 0 (px_wr ((s 6 1) - 1))) = (0) := Decidable.of_not_not (of_decide_eq_false hc)
          rw [if_pos hc8] at h
          refine px_D_st 1 (ip1 := 30) (ls1 := [(0, .inr (.inr 5)), (1, .inl (x1)), (2, .inl (x2)), (3, .inl (x3))]) (st1 := [.inl (0)]) (h1 := (px_G1, s)) rfl ?_
          cases h
          exact px_D_iret rfl rfl ⟨rfl, rfl⟩
    · have hc4 : (f_R_within s x3 0 q3) = (0) := Decidable.of_not_not (of_decide_eq_false hc)
      rw [if_pos hc4] at h
      refine px_D_st 1 (ip1 := 16) (ls1 := [(0, .inr (.inr 5)), (1, .inl (x1)), (2, .inl (x2)), (3, .inl (x3))]) (st1 := [.inl (0)]) (h1 := (px_G1, s)) rfl ?_
      cases h
      exact px_D_iret rfl rfl ⟨rfl, rfl⟩

def l_R_feedOne_2  : Nat → px_Z → Int → Int → Option (px_Z)
  | 0, _, _, _ => none
  | n + 1, s, x1, x2 => if (x2) < (0) then some s else (if (400) ≤ (s 5 5) then l_R_feedOne_2  n s x1 (px_wr (x2 + (-8))) else (if 0 ≤ (s 5 5) ∧ (s 5 5) < 400 then l_R_feedOne_2  n (px_up (px_up s 120 (s 5 5).toNat (px_and ((px_ush (x1) (x2))) (255))) 5 5 (px_wr (((px_up s 120 (s 5 5).toNat (px_and ((px_ush (x1) (x2))) (255))) 5 5) + 1))) x1 (px_wr (x2 + (-8))) else none))
set_option maxHeartbeats 4000000 in
set_option maxRecDepth 100000 in
theorem cl_R_feedOne_2 {sc : List Int} {d : Nat}  : ∀ (n : Nat) (s : px_Z) (x1 : Int) (x2 : Int) (out : px_Z), l_R_feedOne_2  n s x1 x2 = some out → px_D sc (d + 0) 112 2 [(0, .inr (.inr 5)), (1, .inl (x1)), (2, .inl (x2))] [] (px_G1, s) (px_Qv out) := by
  intro n
  induction n with
  | zero => intro s x1 x2 out h; cases h
  | succ n ih =>
    intro s x1 x2 out h
    rw [l_R_feedOne_2] at h
    refine px_D_st 1 (ip1 := 3) (ls1 := [(0, .inr (.inr 5)), (1, .inl (x1)), (2, .inl (x2))]) (st1 := [.inl (x2)]) (h1 := (px_G1, s)) rfl ?_
    refine px_D_ifc rfl (fun hc => ?_) (fun hc => ?_)
    · have hc1 : (x2) < (0) := of_decide_eq_true hc
      rw [if_pos hc1] at h
      cases h
      exact px_D_vret rfl ⟨rfl, rfl⟩
    · have hc1 : ¬ ((x2) < (0)) := of_decide_eq_false hc
      rw [if_neg hc1] at h
      refine px_D_st 3 (ip1 := 7) (ls1 := [(0, .inr (.inr 5)), (1, .inl (x1)), (2, .inl (x2))]) (st1 := [.inl (400), .inl (s 5 5)]) (h1 := (px_G1, s)) rfl ?_
      refine px_D_icmp rfl (fun hc => ?_) (fun hc => ?_)
      · have hc2 : (400) ≤ (s 5 5) := of_decide_eq_true hc
        rw [if_pos hc2] at h
        refine px_D_st 2 (ip1 := 2) (ls1 := [(2, .inl (px_wr (x2 + (-8)))), (0, .inr (.inr 5)), (1, .inl (x1))]) (st1 := []) (h1 := (px_G1, s)) rfl ?_
        refine px_D_ls [(0, .inr (.inr 5)), (1, .inl (x1)), (2, .inl (px_wr (x2 + (-8))))] rfl rfl (List.forall_mem_cons.mpr ⟨rfl, List.forall_mem_cons.mpr ⟨rfl, List.forall_mem_cons.mpr ⟨rfl, fun _ h => absurd h List.not_mem_nil⟩⟩⟩) ?_
        exact ih _ _ _ _ h
      · have hc2 : ¬ ((400) ≤ (s 5 5)) := of_decide_eq_false hc
        rw [if_neg hc2] at h
        refine px_D_st 9 (ip1 := 17) (ls1 := [(0, .inr (.inr 5)), (1, .inl (x1)), (2, .inl (x2))]) (st1 := [.inl (px_and ((px_ush (x1) (x2))) (255)), .inl (s 5 5), .inr (.inr 120)]) (h1 := (px_G1, s)) rfl ?_
        by_cases hc3 : 0 ≤ (s 5 5) ∧ (s 5 5) < 400
        case neg => rw [if_neg hc3] at h; cases h
        rw [if_pos hc3] at h
        refine px_D_iast (k := 115) (n := 400) rfl rfl hc3 ?_
        refine px_D_st 8 (ip1 := 2) (ls1 := [(2, .inl (px_wr (x2 + (-8)))), (0, .inr (.inr 5)), (1, .inl (x1))]) (st1 := []) (h1 := (px_G1, px_up (px_up s 120 (s 5 5).toNat (px_and ((px_ush (x1) (x2))) (255))) 5 5 (px_wr (((px_up s 120 (s 5 5).toNat (px_and ((px_ush (x1) (x2))) (255))) 5 5) + 1)))) rfl ?_
        refine px_D_ls [(0, .inr (.inr 5)), (1, .inl (x1)), (2, .inl (px_wr (x2 + (-8))))] rfl rfl (List.forall_mem_cons.mpr ⟨rfl, List.forall_mem_cons.mpr ⟨rfl, List.forall_mem_cons.mpr ⟨rfl, fun _ h => absurd h List.not_mem_nil⟩⟩⟩) ?_
        exact ih _ _ _ _ h
def f_R_feedOne (s : px_Z) (x1 : Int) : Option (px_Z) := l_R_feedOne_2  px_big s x1 24
set_option maxHeartbeats 4000000 in
set_option maxRecDepth 100000 in
theorem c_R_feedOne {sc : List Int} {d : Nat} {s : px_Z} {x1 : Int} {out : px_Z} (h : f_R_feedOne s x1 = some out) : px_D sc (d + 0) 112 0 [(0, .inr (.inr 5)), (1, .inl (x1))] [] (px_G1, s) (px_Qv out) := by
  unfold f_R_feedOne at h
  refine px_D_st 2 (ip1 := 2) (ls1 := [(2, .inl (24)), (0, .inr (.inr 5)), (1, .inl (x1))]) (st1 := []) (h1 := (px_G1, s)) rfl ?_
  refine px_D_ls [(0, .inr (.inr 5)), (1, .inl (x1)), (2, .inl (24))] rfl rfl (List.forall_mem_cons.mpr ⟨rfl, List.forall_mem_cons.mpr ⟨rfl, List.forall_mem_cons.mpr ⟨rfl, fun _ h => absurd h List.not_mem_nil⟩⟩⟩) ?_
  refine cl_R_feedOne_2  px_big _ _ _ _ h

def f_R_feed (s : px_Z) (x1 : Int) (x2 : Int) (x3 : Int) (x4 : Int) (x5 : Int) : Option (Int × px_Z) := if (px_wr ((s 5 5) + 20)) ≤ (400) then (f_R_feedOne s x1).bind (fun q2 => (f_R_feedOne q2 x2).bind (fun q3 => (f_R_feedOne q3 x3).bind (fun q4 => (f_R_feedOne q4 x4).bind (fun q5 => (f_R_feedOne q5 x5).bind (fun q6 => some (q6 5 5, q6)))))) else some (((-1), s))
set_option maxHeartbeats 4000000 in
set_option maxRecDepth 100000 in
theorem c_R_feed {sc : List Int} {d : Nat} {s : px_Z} {x1 : Int} {x2 : Int} {x3 : Int} {x4 : Int} {x5 : Int} {out : Int × px_Z} (h : f_R_feed s x1 x2 x3 x4 x5 = some out) : px_D sc (d + 1) 111 0 [(0, .inr (.inr 5)), (1, .inl (x1)), (2, .inl (x2)), (3, .inl (x3)), (4, .inl (x4)), (5, .inl (x5))] [] (px_G1, s) (px_Qi out) := by
  unfold f_R_feed at h
  refine px_D_st 5 (ip1 := 5) (ls1 := [(0, .inr (.inr 5)), (1, .inl (x1)), (2, .inl (x2)), (3, .inl (x3)), (4, .inl (x4)), (5, .inl (x5))]) (st1 := [.inl (400), .inl (px_wr ((s 5 5) + 20))]) (h1 := (px_G1, s)) rfl ?_
  refine px_D_icmp rfl (fun hc => ?_) (fun hc => ?_)
  · have hc1 : (px_wr ((s 5 5) + 20)) ≤ (400) := of_decide_eq_true hc
    rw [if_pos hc1] at h
    refine px_D_st 2 (ip1 := 10) (ls1 := [(0, .inr (.inr 5)), (1, .inl (x1)), (2, .inl (x2)), (3, .inl (x3)), (4, .inl (x4)), (5, .inl (x5))]) (st1 := [.inl (x1), .inr (.inr 5)]) (h1 := (px_G1, s)) rfl ?_
    refine px_D_call (as := [.inr (.inr 5), .inl (x1)]) (rest := []) rfl rfl rfl rfl ?_
    obtain ⟨q2, hq2, h⟩ := Option.bind_eq_some_iff.mp h
    refine px_D_mono (c_R_feedOne (d := d + 0) hq2) ?_
    rintro _ _ ⟨rfl, rfl⟩
    show px_D sc (d + 1) 111 11 [(0, .inr (.inr 5)), (1, .inl (x1)), (2, .inl (x2)), (3, .inl (x3)), (4, .inl (x4)), (5, .inl (x5))] [] (px_G1, q2) _
    refine px_D_st 2 (ip1 := 13) (ls1 := [(0, .inr (.inr 5)), (1, .inl (x1)), (2, .inl (x2)), (3, .inl (x3)), (4, .inl (x4)), (5, .inl (x5))]) (st1 := [.inl (x2), .inr (.inr 5)]) (h1 := (px_G1, q2)) rfl ?_
    refine px_D_call (as := [.inr (.inr 5), .inl (x2)]) (rest := []) rfl rfl rfl rfl ?_
    obtain ⟨q3, hq3, h⟩ := Option.bind_eq_some_iff.mp h
    refine px_D_mono (c_R_feedOne (d := d + 0) hq3) ?_
    rintro _ _ ⟨rfl, rfl⟩
    show px_D sc (d + 1) 111 14 [(0, .inr (.inr 5)), (1, .inl (x1)), (2, .inl (x2)), (3, .inl (x3)), (4, .inl (x4)), (5, .inl (x5))] [] (px_G1, q3) _
    refine px_D_st 2 (ip1 := 16) (ls1 := [(0, .inr (.inr 5)), (1, .inl (x1)), (2, .inl (x2)), (3, .inl (x3)), (4, .inl (x4)), (5, .inl (x5))]) (st1 := [.inl (x3), .inr (.inr 5)]) (h1 := (px_G1, q3)) rfl ?_
    refine px_D_call (as := [.inr (.inr 5), .inl (x3)]) (rest := []) rfl rfl rfl rfl ?_
    obtain ⟨q4, hq4, h⟩ := Option.bind_eq_some_iff.mp h
    refine px_D_mono (c_R_feedOne (d := d + 0) hq4) ?_
    rintro _ _ ⟨rfl, rfl⟩
    show px_D sc (d + 1) 111 17 [(0, .inr (.inr 5)), (1, .inl (x1)), (2, .inl (x2)), (3, .inl (x3)), (4, .inl (x4)), (5, .inl (x5))] [] (px_G1, q4) _
    refine px_D_st 2 (ip1 := 19) (ls1 := [(0, .inr (.inr 5)), (1, .inl (x1)), (2, .inl (x2)), (3, .inl (x3)), (4, .inl (x4)), (5, .inl (x5))]) (st1 := [.inl (x4), .inr (.inr 5)]) (h1 := (px_G1, q4)) rfl ?_
    refine px_D_call (as := [.inr (.inr 5), .inl (x4)]) (rest := []) rfl rfl rfl rfl ?_
    obtain ⟨q5, hq5, h⟩ := Option.bind_eq_some_iff.mp h
    refine px_D_mono (c_R_feedOne (d := d + 0) hq5) ?_
    rintro _ _ ⟨rfl, rfl⟩
    show px_D sc (d + 1) 111 20 [(0, .inr (.inr 5)), (1, .inl (x1)), (2, .inl (x2)), (3, .inl (x3)), (4, .inl (x4)), (5, .inl (x5))] [] (px_G1, q5) _
    refine px_D_st 2 (ip1 := 22) (ls1 := [(0, .inr (.inr 5)), (1, .inl (x1)), (2, .inl (x2)), (3, .inl (x3)), (4, .inl (x4)), (5, .inl (x5))]) (st1 := [.inl (x5), .inr (.inr 5)]) (h1 := (px_G1, q5)) rfl ?_
    refine px_D_call (as := [.inr (.inr 5), .inl (x5)]) (rest := []) rfl rfl rfl rfl ?_
    obtain ⟨q6, hq6, h⟩ := Option.bind_eq_some_iff.mp h
    refine px_D_mono (c_R_feedOne (d := d + 0) hq6) ?_
    rintro _ _ ⟨rfl, rfl⟩
    show px_D sc (d + 1) 111 23 [(0, .inr (.inr 5)), (1, .inl (x1)), (2, .inl (x2)), (3, .inl (x3)), (4, .inl (x4)), (5, .inl (x5))] [] (px_G1, q6) _
    refine px_D_st 2 (ip1 := 25) (ls1 := [(0, .inr (.inr 5)), (1, .inl (x1)), (2, .inl (x2)), (3, .inl (x3)), (4, .inl (x4)), (5, .inl (x5))]) (st1 := [.inl (q6 5 5)]) (h1 := (px_G1, q6)) rfl ?_
    cases h
    exact px_D_iret rfl rfl ⟨rfl, rfl⟩
  · have hc1 : ¬ ((px_wr ((s 5 5) + 20)) ≤ (400)) := of_decide_eq_false hc
    rw [if_neg hc1] at h
    refine px_D_st 1 (ip1 := 7) (ls1 := [(0, .inr (.inr 5)), (1, .inl (x1)), (2, .inl (x2)), (3, .inl (x3)), (4, .inl (x4)), (5, .inl (x5))]) (st1 := [.inl ((-1))]) (h1 := (px_G1, s)) rfl ?_
    cases h
    exact px_D_iret rfl rfl ⟨rfl, rfl⟩

def f_R_end (s : px_Z) (x1 : Int) : Option (Int × px_Z) := if (f_R_within s x1 0 (s 5 5)) = (0) then some (0, s) else some (1, px_up s 5 5 x1)
set_option maxHeartbeats 4000000 in
set_option maxRecDepth 100000 in
theorem c_R_end {sc : List Int} {d : Nat} {s : px_Z} {x1 : Int} {out : Int × px_Z} (h : f_R_end s x1 = some out) : px_D sc (d + 1) 113 0 [(0, .inr (.inr 5)), (1, .inl (x1))] [] (px_G1, s) (px_Qi out) := by
  unfold f_R_end at h
  refine px_D_st 4 (ip1 := 4) (ls1 := [(0, .inr (.inr 5)), (1, .inl (x1))]) (st1 := [.inl (s 5 5), .inl (0), .inl (x1)]) (h1 := (px_G1, s)) rfl ?_
  refine px_D_call (as := [.inl (x1), .inl (0), .inl (s 5 5)]) (rest := []) rfl rfl rfl rfl ?_
  refine px_D_mono (c_R_within (d := d + 0) rfl) ?_
  rintro _ _ ⟨rfl, rfl⟩
  show px_D sc (d + 1) 113 5 [(0, .inr (.inr 5)), (1, .inl (x1))] [.inl (f_R_within s x1 0 (s 5 5))] (px_G1, s) _
  refine px_D_ifc rfl (fun hc => ?_) (fun hc => ?_)
  · have hc1 : ¬ ((f_R_within s x1 0 (s 5 5)) = (0)) := of_decide_eq_true hc
    rw [if_neg hc1] at h
    refine px_D_st 4 (ip1 := 12) (ls1 := [(0, .inr (.inr 5)), (1, .inl (x1))]) (st1 := [.inl (1)]) (h1 := (px_G1, px_up s 5 5 x1)) rfl ?_
    cases h
    exact px_D_iret rfl rfl ⟨rfl, rfl⟩
  · have hc1 : (f_R_within s x1 0 (s 5 5)) = (0) := Decidable.of_not_not (of_decide_eq_false hc)
    rw [if_pos hc1] at h
    refine px_D_st 1 (ip1 := 7) (ls1 := [(0, .inr (.inr 5)), (1, .inl (x1))]) (st1 := [.inl (0)]) (h1 := (px_G1, s)) rfl ?_
    cases h
    exact px_D_iret rfl rfl ⟨rfl, rfl⟩

def f_World_tellAfter (s : px_Z) (x2 : Int) : Option (px_Z) := some (px_up (px_cp s 142 13 0 0 8) 6 7 x2)
set_option maxHeartbeats 4000000 in
set_option maxRecDepth 100000 in
theorem c_World_tellAfter {sc : List Int} {d : Nat} {s : px_Z} {x2 : Int} {out : px_Z} (h : f_World_tellAfter s x2 = some out) : px_D sc (d + 0) 83 0 [(0, .inr (.inr 6)), (1, .inr (.inr 142)), (2, .inl (x2))] [] (px_G1, s) (px_Qv out) := by
  unfold f_World_tellAfter at h
  refine px_D_st 10 (ip1 := 10) (ls1 := [(0, .inr (.inr 6)), (1, .inr (.inr 142)), (2, .inl (x2))]) (st1 := []) (h1 := (px_G1, px_up (px_cp s 142 13 0 0 8) 6 7 x2)) rfl ?_
  cases h
  exact px_D_vret rfl ⟨rfl, rfl⟩

def f_Hills_become (s : px_Z) : Option (px_Z) := some (px_cp (px_cp (px_cp (px_cp (px_cp (px_up s 28 0 (s 132 0)) 133 29 0 0 24) 134 30 0 0 24) 135 31 0 0 24) 136 32 0 0 24) 137 33 0 0 24)
set_option maxHeartbeats 4000000 in
set_option maxRecDepth 100000 in
theorem c_Hills_become {sc : List Int} {d : Nat} {s : px_Z} {out : px_Z} (h : f_Hills_become s  = some out) : px_D sc (d + 0) 4 0 [(0, .inr (.inr 28)), (1, .inr (.inr 132))] [] (px_G1, s) (px_Qv out) := by
  unfold f_Hills_become at h
  refine px_D_st 44 (ip1 := 44) (ls1 := [(0, .inr (.inr 28)), (1, .inr (.inr 132))]) (st1 := []) (h1 := (px_G1, px_cp (px_cp (px_cp (px_cp (px_cp (px_up s 28 0 (s 132 0)) 133 29 0 0 24) 134 30 0 0 24) 135 31 0 0 24) 136 32 0 0 24) 137 33 0 0 24)) rfl ?_
  cases h
  exact px_D_vret rfl ⟨rfl, rfl⟩

def f_Plan_become (s : px_Z) : Option (px_Z) := some (px_cp (px_cp (px_cp (px_up s 34 0 (s 138 0)) 139 35 0 0 60) 140 36 0 0 60) 141 37 0 0 60)
set_option maxHeartbeats 4000000 in
set_option maxRecDepth 100000 in
theorem c_Plan_become {sc : List Int} {d : Nat} {s : px_Z} {out : px_Z} (h : f_Plan_become s  = some out) : px_D sc (d + 0) 38 0 [(0, .inr (.inr 34)), (1, .inr (.inr 138))] [] (px_G1, s) (px_Qv out) := by
  unfold f_Plan_become at h
  refine px_D_st 28 (ip1 := 28) (ls1 := [(0, .inr (.inr 34)), (1, .inr (.inr 138))]) (st1 := []) (h1 := (px_G1, px_cp (px_cp (px_cp (px_up s 34 0 (s 138 0)) 139 35 0 0 60) 140 36 0 0 60) 141 37 0 0 60)) rfl ?_
  cases h
  exact px_D_vret rfl ⟨rfl, rfl⟩

def f_Law_become (s : px_Z) : Option (px_Z) := some (px_cp (px_cp (px_cp (px_cp (px_cp (px_up (px_up s 21 0 (s 125 0)) 21 1 ((px_up s 21 0 (s 125 0)) 125 1)) 126 22 0 0 16) 127 23 0 0 16) 128 24 0 0 16) 129 25 0 0 16) 130 26 0 0 400)
set_option maxHeartbeats 4000000 in
set_option maxRecDepth 100000 in
theorem c_Law_become {sc : List Int} {d : Nat} {s : px_Z} {out : px_Z} (h : f_Law_become s  = some out) : px_D sc (d + 0) 13 0 [(0, .inr (.inr 21)), (1, .inr (.inr 125))] [] (px_G1, s) (px_Qv out) := by
  unfold f_Law_become at h
  refine px_D_st 48 (ip1 := 48) (ls1 := [(0, .inr (.inr 21)), (1, .inr (.inr 125))]) (st1 := []) (h1 := (px_G1, px_cp (px_cp (px_cp (px_cp (px_cp (px_up (px_up s 21 0 (s 125 0)) 21 1 ((px_up s 21 0 (s 125 0)) 125 1)) 126 22 0 0 16) 127 23 0 0 16) 128 24 0 0 16) 129 25 0 0 16) 130 26 0 0 400)) rfl ?_
  cases h
  exact px_D_vret rfl ⟨rfl, rfl⟩

def f_Law_become_2 (s : px_Z) : Option (px_Z) := some (px_cp (px_cp (px_cp (px_cp (px_cp (px_up (px_up s 14 0 (s 125 0)) 14 1 ((px_up s 14 0 (s 125 0)) 125 1)) 126 15 0 0 16) 127 16 0 0 16) 128 17 0 0 16) 129 18 0 0 16) 130 19 0 0 400)
set_option maxHeartbeats 4000000 in
set_option maxRecDepth 100000 in
theorem c_Law_become_2 {sc : List Int} {d : Nat} {s : px_Z} {out : px_Z} (h : f_Law_become_2 s  = some out) : px_D sc (d + 0) 13 0 [(0, .inr (.inr 14)), (1, .inr (.inr 125))] [] (px_G1, s) (px_Qv out) := by
  unfold f_Law_become_2 at h
  refine px_D_st 48 (ip1 := 48) (ls1 := [(0, .inr (.inr 14)), (1, .inr (.inr 125))]) (st1 := []) (h1 := (px_G1, px_cp (px_cp (px_cp (px_cp (px_cp (px_up (px_up s 14 0 (s 125 0)) 14 1 ((px_up s 14 0 (s 125 0)) 125 1)) 126 15 0 0 16) 127 16 0 0 16) 128 17 0 0 16) 129 18 0 0 16) 130 19 0 0 400)) rfl ?_
  cases h
  exact px_D_vret rfl ⟨rfl, rfl⟩

def j_R_takeText_j5 (s : px_Z) (x1 : Int) : Option (Int × px_Z) := (f_Least_forget s ).bind (fun q2 => if (x1) = 0 then (f_Law_become_2 q2 ).bind (fun q4 => some (q4 14 0, q4)) else (if (x1) = 1 then (f_Law_become q2 ).bind (fun q6 => some (q6 21 0, q6)) else (if (x1) = 2 then (f_Hills_become q2 ).bind (fun q8 => some (q8 28 0, q8)) else (if (x1) = 3 then (f_World_tellAfter q2 (q2 121 13)).bind (fun q10 => some (q10 6 7, q10)) else (f_Plan_become q2 ).bind (fun q11 => some (q11 34 0, q11))))))
set_option maxHeartbeats 4000000 in
set_option maxRecDepth 100000 in
theorem cj_R_takeText_j5 {sc : List Int} {d : Nat} {s : px_Z} {x1 : Int} {out : Int × px_Z} (h : j_R_takeText_j5 s x1 = some out) : px_D sc (d + 2) 115 5 [(0, .inr (.inr 5)), (1, .inl (x1))] [] (px_G1, s) (px_Qi out) := by
  unfold j_R_takeText_j5 at h
  refine px_D_st 2 (ip1 := 7) (ls1 := [(0, .inr (.inr 5)), (1, .inl (x1))]) (st1 := [.inr (.inr 145)]) (h1 := (px_G1, s)) rfl ?_
  refine px_D_call (as := [.inr (.inr 145)]) (rest := []) rfl rfl rfl rfl ?_
  obtain ⟨q2, hq2, h⟩ := Option.bind_eq_some_iff.mp h
  refine px_D_mono (c_Least_forget (d := d + 1) hq2) ?_
  rintro _ _ ⟨rfl, rfl⟩
  show px_D sc (d + 2) 115 8 [(0, .inr (.inr 5)), (1, .inl (x1))] [] (px_G1, q2) _
  refine px_D_st 1 (ip1 := 9) (ls1 := [(0, .inr (.inr 5)), (1, .inl (x1))]) (st1 := [.inl (x1)]) (h1 := (px_G1, q2)) rfl ?_
  by_cases hc3 : (x1) = 0
  · rw [if_pos hc3] at h
    refine px_D_tsw (c := 0) rfl hc3 (by decide) rfl ?_
    refine px_D_st 6 (ip1 := 16) (ls1 := [(0, .inr (.inr 5)), (1, .inl (x1))]) (st1 := [.inr (.inr 125), .inr (.inr 14)]) (h1 := (px_G1, q2)) rfl ?_
    refine px_D_call (as := [.inr (.inr 14), .inr (.inr 125)]) (rest := []) rfl rfl rfl rfl ?_
    obtain ⟨q4, hq4, h⟩ := Option.bind_eq_some_iff.mp h
    refine px_D_mono (c_Law_become_2 (d := d + 1) hq4) ?_
    rintro _ _ ⟨rfl, rfl⟩
    show px_D sc (d + 2) 115 17 [(0, .inr (.inr 5)), (1, .inl (x1))] [] (px_G1, q4) _
    refine px_D_st 4 (ip1 := 21) (ls1 := [(0, .inr (.inr 5)), (1, .inl (x1))]) (st1 := [.inl (q4 14 0)]) (h1 := (px_G1, q4)) rfl ?_
    cases h
    exact px_D_iret rfl rfl ⟨rfl, rfl⟩
  rw [if_neg hc3] at h
  by_cases hc5 : (x1) = 1
  · rw [if_pos hc5] at h
    refine px_D_tsw (c := 1) rfl hc5 (by decide) rfl ?_
    refine px_D_st 6 (ip1 := 28) (ls1 := [(0, .inr (.inr 5)), (1, .inl (x1))]) (st1 := [.inr (.inr 125), .inr (.inr 21)]) (h1 := (px_G1, q2)) rfl ?_
    refine px_D_call (as := [.inr (.inr 21), .inr (.inr 125)]) (rest := []) rfl rfl rfl rfl ?_
    obtain ⟨q6, hq6, h⟩ := Option.bind_eq_some_iff.mp h
    refine px_D_mono (c_Law_become (d := d + 1) hq6) ?_
    rintro _ _ ⟨rfl, rfl⟩
    show px_D sc (d + 2) 115 29 [(0, .inr (.inr 5)), (1, .inl (x1))] [] (px_G1, q6) _
    refine px_D_st 4 (ip1 := 33) (ls1 := [(0, .inr (.inr 5)), (1, .inl (x1))]) (st1 := [.inl (q6 21 0)]) (h1 := (px_G1, q6)) rfl ?_
    cases h
    exact px_D_iret rfl rfl ⟨rfl, rfl⟩
  rw [if_neg hc5] at h
  by_cases hc7 : (x1) = 2
  · rw [if_pos hc7] at h
    refine px_D_tsw (c := 2) rfl hc7 (by decide) rfl ?_
    refine px_D_st 6 (ip1 := 40) (ls1 := [(0, .inr (.inr 5)), (1, .inl (x1))]) (st1 := [.inr (.inr 132), .inr (.inr 28)]) (h1 := (px_G1, q2)) rfl ?_
    refine px_D_call (as := [.inr (.inr 28), .inr (.inr 132)]) (rest := []) rfl rfl rfl rfl ?_
    obtain ⟨q8, hq8, h⟩ := Option.bind_eq_some_iff.mp h
    refine px_D_mono (c_Hills_become (d := d + 1) hq8) ?_
    rintro _ _ ⟨rfl, rfl⟩
    show px_D sc (d + 2) 115 41 [(0, .inr (.inr 5)), (1, .inl (x1))] [] (px_G1, q8) _
    refine px_D_st 4 (ip1 := 45) (ls1 := [(0, .inr (.inr 5)), (1, .inl (x1))]) (st1 := [.inl (q8 28 0)]) (h1 := (px_G1, q8)) rfl ?_
    cases h
    exact px_D_iret rfl rfl ⟨rfl, rfl⟩
  rw [if_neg hc7] at h
  by_cases hc9 : (x1) = 3
  · rw [if_pos hc9] at h
    refine px_D_tsw (c := 3) rfl hc9 (by decide) rfl ?_
    refine px_D_st 8 (ip1 := 54) (ls1 := [(0, .inr (.inr 5)), (1, .inl (x1))]) (st1 := [.inl (q2 121 13), .inr (.inr 142), .inr (.inr 6)]) (h1 := (px_G1, q2)) rfl ?_
    refine px_D_call (as := [.inr (.inr 6), .inr (.inr 142), .inl (q2 121 13)]) (rest := []) rfl rfl rfl rfl ?_
    obtain ⟨q10, hq10, h⟩ := Option.bind_eq_some_iff.mp h
    refine px_D_mono (c_World_tellAfter (d := d + 1) hq10) ?_
    rintro _ _ ⟨rfl, rfl⟩
    show px_D sc (d + 2) 115 55 [(0, .inr (.inr 5)), (1, .inl (x1))] [] (px_G1, q10) _
    refine px_D_st 3 (ip1 := 58) (ls1 := [(0, .inr (.inr 5)), (1, .inl (x1))]) (st1 := [.inl (q10 6 7)]) (h1 := (px_G1, q10)) rfl ?_
    cases h
    exact px_D_iret rfl rfl ⟨rfl, rfl⟩
  rw [if_neg hc9] at h
  refine px_D_tswD rfl (by omega) ?_
  refine px_D_st 6 (ip1 := 65) (ls1 := [(0, .inr (.inr 5)), (1, .inl (x1))]) (st1 := [.inr (.inr 138), .inr (.inr 34)]) (h1 := (px_G1, q2)) rfl ?_
  refine px_D_call (as := [.inr (.inr 34), .inr (.inr 138)]) (rest := []) rfl rfl rfl rfl ?_
  obtain ⟨q11, hq11, h⟩ := Option.bind_eq_some_iff.mp h
  refine px_D_mono (c_Plan_become (d := d + 1) hq11) ?_
  rintro _ _ ⟨rfl, rfl⟩
  show px_D sc (d + 2) 115 66 [(0, .inr (.inr 5)), (1, .inl (x1))] [] (px_G1, q11) _
  refine px_D_st 4 (ip1 := 70) (ls1 := [(0, .inr (.inr 5)), (1, .inl (x1))]) (st1 := [.inl (q11 34 0)]) (h1 := (px_G1, q11)) rfl ?_
  cases h
  exact px_D_iret rfl rfl ⟨rfl, rfl⟩
def f_R_takeText (s : px_Z) (x1 : Int) : Option (Int × px_Z) := if (x1) ≤ (1) then j_R_takeText_j5 s x1 else (f_R_forgetDeeds s ).bind (fun q12 => j_R_takeText_j5 q12 x1)
set_option maxHeartbeats 4000000 in
set_option maxRecDepth 100000 in
theorem c_R_takeText {sc : List Int} {d : Nat} {s : px_Z} {x1 : Int} {out : Int × px_Z} (h : f_R_takeText s x1 = some out) : px_D sc (d + 2) 115 0 [(0, .inr (.inr 5)), (1, .inl (x1))] [] (px_G1, s) (px_Qi out) := by
  unfold f_R_takeText at h
  refine px_D_st 2 (ip1 := 2) (ls1 := [(0, .inr (.inr 5)), (1, .inl (x1))]) (st1 := [.inl (1), .inl (x1)]) (h1 := (px_G1, s)) rfl ?_
  refine px_D_icmp rfl (fun hc => ?_) (fun hc => ?_)
  · have hc1 : (x1) ≤ (1) := of_decide_eq_true hc
    rw [if_pos hc1] at h
    refine px_D_ls [(0, .inr (.inr 5)), (1, .inl (x1))] rfl rfl (List.forall_mem_cons.mpr ⟨rfl, List.forall_mem_cons.mpr ⟨rfl, fun _ h => absurd h List.not_mem_nil⟩⟩) ?_
    exact cj_R_takeText_j5 h
  · have hc1 : ¬ ((x1) ≤ (1)) := of_decide_eq_false hc
    rw [if_neg hc1] at h
    refine px_D_st 1 (ip1 := 4) (ls1 := [(0, .inr (.inr 5)), (1, .inl (x1))]) (st1 := [.inr (.inr 5)]) (h1 := (px_G1, s)) rfl ?_
    refine px_D_call (as := [.inr (.inr 5)]) (rest := []) rfl rfl rfl rfl ?_
    obtain ⟨q12, hq12, h⟩ := Option.bind_eq_some_iff.mp h
    refine px_D_mono (c_R_forgetDeeds (d := d + 0) hq12) ?_
    rintro _ _ ⟨rfl, rfl⟩
    show px_D sc (d + 2) 115 5 [(0, .inr (.inr 5)), (1, .inl (x1))] [] (px_G1, q12) _
    refine px_D_ls [(0, .inr (.inr 5)), (1, .inl (x1))] rfl rfl (List.forall_mem_cons.mpr ⟨rfl, List.forall_mem_cons.mpr ⟨rfl, fun _ h => absurd h List.not_mem_nil⟩⟩) ?_
    exact cj_R_takeText_j5 h

def f_Reader_goesOn (s : px_Z) : Option (Int) := if (s 121 7) = (0) then (if 0 ≤ (s 121 4) ∧ (s 121 4) < 401 then if (s 122 (s 121 4).toNat) = (0) then some 0 else some 1 else none) else some 0
set_option maxHeartbeats 4000000 in
set_option maxRecDepth 100000 in
theorem c_Reader_goesOn {sc : List Int} {d : Nat} {s : px_Z} {out : Int} (h : f_Reader_goesOn s  = some out) : px_D sc (d + 0) 51 0 [(0, .inr (.inr 121))] [] (px_G1, s) (px_Qp s out) := by
  unfold f_Reader_goesOn at h
  refine px_D_st 2 (ip1 := 2) (ls1 := [(0, .inr (.inr 121))]) (st1 := [.inl (s 121 7)]) (h1 := (px_G1, s)) rfl ?_
  refine px_D_ifc rfl (fun hc => ?_) (fun hc => ?_)
  · have hc1 : ¬ ((s 121 7) = (0)) := of_decide_eq_true hc
    rw [if_neg hc1] at h
    refine px_D_st 1 (ip1 := 12) (ls1 := [(0, .inr (.inr 121))]) (st1 := [.inl (0)]) (h1 := (px_G1, s)) rfl ?_
    cases h
    exact px_D_iret rfl rfl ⟨rfl, rfl⟩
  · have hc1 : (s 121 7) = (0) := Decidable.of_not_not (of_decide_eq_false hc)
    rw [if_pos hc1] at h
    refine px_D_st 4 (ip1 := 7) (ls1 := [(0, .inr (.inr 121))]) (st1 := [.inl (s 121 4), .inr (.inr 122)]) (h1 := (px_G1, s)) rfl ?_
    by_cases hc2 : 0 ≤ (s 121 4) ∧ (s 121 4) < 401
    case neg => rw [if_neg hc2] at h; cases h
    rw [if_pos hc2] at h
    refine px_D_iald (k := 117) (n := 401) rfl rfl hc2 ?_
    refine px_D_ifc rfl (fun hc => ?_) (fun hc => ?_)
    · have hc3 : (s 122 (s 121 4).toNat) = (0) := of_decide_eq_true hc
      rw [if_pos hc3] at h
      refine px_D_st 1 (ip1 := 12) (ls1 := [(0, .inr (.inr 121))]) (st1 := [.inl (0)]) (h1 := (px_G1, s)) rfl ?_
      cases h
      exact px_D_iret rfl rfl ⟨rfl, rfl⟩
    · have hc3 : ¬ ((s 122 (s 121 4).toNat) = (0)) := of_decide_eq_false hc
      rw [if_neg hc3] at h
      refine px_D_st 2 (ip1 := 12) (ls1 := [(0, .inr (.inr 121))]) (st1 := [.inl (1)]) (h1 := (px_G1, s)) rfl ?_
      cases h
      exact px_D_iret rfl rfl ⟨rfl, rfl⟩

def l_Arrays_fill_2_5  : Nat → px_Z → Int → Int → Int → Option (px_Z)
  | 0, _, _, _, _ => none
  | n + 1, s, x1, x2, x3 => if (x3) ≤ (x2) then some s else (if 0 ≤ (x2) ∧ (x2) < 8 then l_Arrays_fill_2_5  n (px_up s 142 x2.toNat x1) x1 (px_wr (x2 + 1)) x3 else none)
set_option maxHeartbeats 4000000 in
set_option maxRecDepth 100000 in
theorem cl_Arrays_fill_2_5 {sc : List Int} {d : Nat}  : ∀ (n : Nat) (s : px_Z) (x1 : Int) (x2 : Int) (x3 : Int) (out : px_Z), l_Arrays_fill_2_5  n s x1 x2 x3 = some out → px_D sc (d + 0) 287 5 [(0, .inr (.inr 142)), (1, .inl (x1)), (2, .inl (x2)), (3, .inl (x3))] [] (px_G1, s) (px_Qv out) := by
  intro n
  induction n with
  | zero => intro s x1 x2 x3 out h; cases h
  | succ n ih =>
    intro s x1 x2 x3 out h
    rw [l_Arrays_fill_2_5] at h
    refine px_D_st 2 (ip1 := 7) (ls1 := [(0, .inr (.inr 142)), (1, .inl (x1)), (2, .inl (x2)), (3, .inl (x3))]) (st1 := [.inl (x3), .inl (x2)]) (h1 := (px_G1, s)) rfl ?_
    refine px_D_icmp rfl (fun hc => ?_) (fun hc => ?_)
    · have hc1 : (x3) ≤ (x2) := of_decide_eq_true hc
      rw [if_pos hc1] at h
      cases h
      exact px_D_vret rfl ⟨rfl, rfl⟩
    · have hc1 : ¬ ((x3) ≤ (x2)) := of_decide_eq_false hc
      rw [if_neg hc1] at h
      refine px_D_st 3 (ip1 := 11) (ls1 := [(0, .inr (.inr 142)), (1, .inl (x1)), (2, .inl (x2)), (3, .inl (x3))]) (st1 := [.inl (x1), .inl (x2), .inr (.inr 142)]) (h1 := (px_G1, s)) rfl ?_
      by_cases hc2 : 0 ≤ (x2) ∧ (x2) < 8
      case neg => rw [if_neg hc2] at h; cases h
      rw [if_pos hc2] at h
      refine px_D_iast (k := 137) (n := 8) rfl rfl hc2 ?_
      refine px_D_st 2 (ip1 := 5) (ls1 := [(2, .inl (px_wr (x2 + 1))), (0, .inr (.inr 142)), (1, .inl (x1)), (3, .inl (x3))]) (st1 := []) (h1 := (px_G1, px_up s 142 x2.toNat x1)) rfl ?_
      refine px_D_ls [(0, .inr (.inr 142)), (1, .inl (x1)), (2, .inl (px_wr (x2 + 1))), (3, .inl (x3))] rfl rfl (List.forall_mem_cons.mpr ⟨rfl, List.forall_mem_cons.mpr ⟨rfl, List.forall_mem_cons.mpr ⟨rfl, List.forall_mem_cons.mpr ⟨rfl, fun _ h => absurd h List.not_mem_nil⟩⟩⟩⟩) ?_
      exact ih _ _ _ _ _ h
def f_Arrays_fill_2 (s : px_Z) (x1 : Int) : Option (px_Z) := l_Arrays_fill_2_5  px_big s x1 0 8
set_option maxHeartbeats 4000000 in
set_option maxRecDepth 100000 in
theorem c_Arrays_fill_2 {sc : List Int} {d : Nat} {s : px_Z} {x1 : Int} {out : px_Z} (h : f_Arrays_fill_2 s x1 = some out) : px_D sc (d + 0) 287 0 [(0, .inr (.inr 142)), (1, .inl (x1))] [] (px_G1, s) (px_Qv out) := by
  unfold f_Arrays_fill_2 at h
  refine px_D_st 5 (ip1 := 5) (ls1 := [(3, .inl (8)), (2, .inl (0)), (0, .inr (.inr 142)), (1, .inl (x1))]) (st1 := []) (h1 := (px_G1, s)) rfl ?_
  refine px_D_ls [(0, .inr (.inr 142)), (1, .inl (x1)), (2, .inl (0)), (3, .inl (8))] rfl rfl (List.forall_mem_cons.mpr ⟨rfl, List.forall_mem_cons.mpr ⟨rfl, List.forall_mem_cons.mpr ⟨rfl, List.forall_mem_cons.mpr ⟨rfl, fun _ h => absurd h List.not_mem_nil⟩⟩⟩⟩) ?_
  refine cl_Arrays_fill_2_5  px_big _ _ _ _ _ h

def f_Reader_step (s : px_Z) : Option (px_Z) := if (px_wr ((s 121 3) - 1)) ≤ (s 121 4) then some s else some (px_up s 121 4 (px_wr ((s 121 4) + 1)))
set_option maxHeartbeats 4000000 in
set_option maxRecDepth 100000 in
theorem c_Reader_step {sc : List Int} {d : Nat} {s : px_Z} {out : px_Z} (h : f_Reader_step s  = some out) : px_D sc (d + 0) 48 0 [(0, .inr (.inr 121))] [] (px_G1, s) (px_Qv out) := by
  unfold f_Reader_step at h
  refine px_D_st 6 (ip1 := 6) (ls1 := [(0, .inr (.inr 121))]) (st1 := [.inl (px_wr ((s 121 3) - 1)), .inl (s 121 4)]) (h1 := (px_G1, s)) rfl ?_
  refine px_D_icmp rfl (fun hc => ?_) (fun hc => ?_)
  · have hc1 : (px_wr ((s 121 3) - 1)) ≤ (s 121 4) := of_decide_eq_true hc
    rw [if_pos hc1] at h
    cases h
    exact px_D_vret rfl ⟨rfl, rfl⟩
  · have hc1 : ¬ ((px_wr ((s 121 3) - 1)) ≤ (s 121 4)) := of_decide_eq_false hc
    rw [if_neg hc1] at h
    refine px_D_st 6 (ip1 := 13) (ls1 := [(0, .inr (.inr 121))]) (st1 := []) (h1 := (px_G1, px_up s 121 4 (px_wr ((s 121 4) + 1)))) rfl ?_
    cases h
    exact px_D_vret rfl ⟨rfl, rfl⟩

def f_Reader_fail (s : px_Z) (x1 : Int) : Option (px_Z) := if (s 121 7) = (0) then (if 0 ≤ ((px_up s 121 7 x1) 121 4) ∧ ((px_up s 121 7 x1) 121 4) < 401 then some (px_up (px_up s 121 7 x1) 121 8 ((px_up s 121 7 x1) 124 ((px_up s 121 7 x1) 121 4).toNat)) else none) else some s
set_option maxHeartbeats 4000000 in
set_option maxRecDepth 100000 in
theorem c_Reader_fail {sc : List Int} {d : Nat} {s : px_Z} {x1 : Int} {out : px_Z} (h : f_Reader_fail s x1 = some out) : px_D sc (d + 0) 47 0 [(0, .inr (.inr 121)), (1, .inl (x1))] [] (px_G1, s) (px_Qv out) := by
  unfold f_Reader_fail at h
  refine px_D_st 2 (ip1 := 2) (ls1 := [(0, .inr (.inr 121)), (1, .inl (x1))]) (st1 := [.inl (s 121 7)]) (h1 := (px_G1, s)) rfl ?_
  refine px_D_ifc rfl (fun hc => ?_) (fun hc => ?_)
  · have hc1 : ¬ ((s 121 7) = (0)) := of_decide_eq_true hc
    rw [if_neg hc1] at h
    cases h
    exact px_D_vret rfl ⟨rfl, rfl⟩
  · have hc1 : (s 121 7) = (0) := Decidable.of_not_not (of_decide_eq_false hc)
    rw [if_pos hc1] at h
    refine px_D_st 8 (ip1 := 11) (ls1 := [(0, .inr (.inr 121)), (1, .inl (x1))]) (st1 := [.inl ((px_up s 121 7 x1) 121 4), .inr (.inr 124), .inr (.inr 121)]) (h1 := (px_G1, px_up s 121 7 x1)) rfl ?_
    by_cases hc2 : 0 ≤ ((px_up s 121 7 x1) 121 4) ∧ ((px_up s 121 7 x1) 121 4) < 401
    case neg => rw [if_neg hc2] at h; cases h
    rw [if_pos hc2] at h
    refine px_D_iald (k := 119) (n := 401) rfl rfl hc2 ?_
    refine px_D_st 1 (ip1 := 13) (ls1 := [(0, .inr (.inr 121)), (1, .inl (x1))]) (st1 := []) (h1 := (px_G1, px_up (px_up s 121 7 x1) 121 8 ((px_up s 121 7 x1) 124 ((px_up s 121 7 x1) 121 4).toNat))) rfl ?_
    cases h
    exact px_D_vret rfl ⟨rfl, rfl⟩

def f_Reader_expect (s : px_Z) (x1 : Int) : Option (px_Z) := if 0 ≤ (s 121 4) ∧ (s 121 4) < 401 then if (s 122 (s 121 4).toNat) = (x1) then (f_Reader_step s ).bind (fun q4 => some q4) else (f_Reader_fail s 1).bind (fun q3 => some q3) else none
set_option maxHeartbeats 4000000 in
set_option maxRecDepth 100000 in
theorem c_Reader_expect {sc : List Int} {d : Nat} {s : px_Z} {x1 : Int} {out : px_Z} (h : f_Reader_expect s x1 = some out) : px_D sc (d + 1) 49 0 [(0, .inr (.inr 121)), (1, .inl (x1))] [] (px_G1, s) (px_Qv out) := by
  unfold f_Reader_expect at h
  refine px_D_st 4 (ip1 := 4) (ls1 := [(0, .inr (.inr 121)), (1, .inl (x1))]) (st1 := [.inl (s 121 4), .inr (.inr 122)]) (h1 := (px_G1, s)) rfl ?_
  by_cases hc1 : 0 ≤ (s 121 4) ∧ (s 121 4) < 401
  case neg => rw [if_neg hc1] at h; cases h
  rw [if_pos hc1] at h
  refine px_D_iald (k := 117) (n := 401) rfl rfl hc1 ?_
  refine px_D_st 1 (ip1 := 6) (ls1 := [(0, .inr (.inr 121)), (1, .inl (x1))]) (st1 := [.inl (x1), .inl (s 122 (s 121 4).toNat)]) (h1 := (px_G1, s)) rfl ?_
  refine px_D_icmp rfl (fun hc => ?_) (fun hc => ?_)
  · have hc2 : ¬ ((s 122 (s 121 4).toNat) = (x1)) := of_decide_eq_true hc
    rw [if_neg hc2] at h
    refine px_D_st 2 (ip1 := 12) (ls1 := [(0, .inr (.inr 121)), (1, .inl (x1))]) (st1 := [.inl (1), .inr (.inr 121)]) (h1 := (px_G1, s)) rfl ?_
    refine px_D_call (as := [.inr (.inr 121), .inl (1)]) (rest := []) rfl rfl rfl rfl ?_
    obtain ⟨q3, hq3, h⟩ := Option.bind_eq_some_iff.mp h
    refine px_D_mono (c_Reader_fail (d := d + 0) hq3) ?_
    rintro _ _ ⟨rfl, rfl⟩
    show px_D sc (d + 1) 49 13 [(0, .inr (.inr 121)), (1, .inl (x1))] [] (px_G1, q3) _
    cases h
    exact px_D_vret rfl ⟨rfl, rfl⟩
  · have hc2 : (s 122 (s 121 4).toNat) = (x1) := Decidable.of_not_not (of_decide_eq_false hc)
    rw [if_pos hc2] at h
    refine px_D_st 1 (ip1 := 8) (ls1 := [(0, .inr (.inr 121)), (1, .inl (x1))]) (st1 := [.inr (.inr 121)]) (h1 := (px_G1, s)) rfl ?_
    refine px_D_call (as := [.inr (.inr 121)]) (rest := []) rfl rfl rfl rfl ?_
    obtain ⟨q4, hq4, h⟩ := Option.bind_eq_some_iff.mp h
    refine px_D_mono (c_Reader_step (d := d + 0) hq4) ?_
    rintro _ _ ⟨rfl, rfl⟩
    show px_D sc (d + 1) 49 9 [(0, .inr (.inr 121)), (1, .inl (x1))] [] (px_G1, q4) _
    refine px_D_st 1 (ip1 := 13) (ls1 := [(0, .inr (.inr 121)), (1, .inl (x1))]) (st1 := []) (h1 := (px_G1, q4)) rfl ?_
    cases h
    exact px_D_vret rfl ⟨rfl, rfl⟩

def f_Reader_numberWithin (s : px_Z) (x1 : Int) (x2 : Int) : Option (Int × px_Z) := if 0 ≤ (s 121 4) ∧ (s 121 4) < 401 then if 0 ≤ (s 121 4) ∧ (s 121 4) < 401 then if (s 122 (s 121 4).toNat) = (1) then (if (f_R_within s (s 123 (s 121 4).toNat) x1 x2) = (0) then (f_Reader_fail s 2).bind (fun q6 => some ((s 123 (s 121 4).toNat, q6))) else (f_Reader_step s ).bind (fun q5 => some ((s 123 (s 121 4).toNat, q5)))) else (f_Reader_fail s 1).bind (fun q7 => some ((s 123 (s 121 4).toNat, q7))) else none else none
set_option maxHeartbeats 4000000 in
set_option maxRecDepth 100000 in
theorem c_Reader_numberWithin {sc : List Int} {d : Nat} {s : px_Z} {x1 : Int} {x2 : Int} {out : Int × px_Z} (h : f_Reader_numberWithin s x1 x2 = some out) : px_D sc (d + 1) 50 0 [(0, .inr (.inr 121)), (1, .inl (x1)), (2, .inl (x2))] [] (px_G1, s) (px_Qi out) := by
  unfold f_Reader_numberWithin at h
  refine px_D_st 4 (ip1 := 4) (ls1 := [(0, .inr (.inr 121)), (1, .inl (x1)), (2, .inl (x2))]) (st1 := [.inl (s 121 4), .inr (.inr 123)]) (h1 := (px_G1, s)) rfl ?_
  by_cases hc1 : 0 ≤ (s 121 4) ∧ (s 121 4) < 401
  case neg => rw [if_neg hc1] at h; cases h
  rw [if_pos hc1] at h
  refine px_D_iald (k := 118) (n := 401) rfl rfl hc1 ?_
  refine px_D_st 5 (ip1 := 10) (ls1 := [(3, .inl (s 123 (s 121 4).toNat)), (0, .inr (.inr 121)), (1, .inl (x1)), (2, .inl (x2))]) (st1 := [.inl (s 121 4), .inr (.inr 122)]) (h1 := (px_G1, s)) rfl ?_
  by_cases hc2 : 0 ≤ (s 121 4) ∧ (s 121 4) < 401
  case neg => rw [if_neg hc2] at h; cases h
  rw [if_pos hc2] at h
  refine px_D_iald (k := 117) (n := 401) rfl rfl hc2 ?_
  refine px_D_st 1 (ip1 := 12) (ls1 := [(3, .inl (s 123 (s 121 4).toNat)), (0, .inr (.inr 121)), (1, .inl (x1)), (2, .inl (x2))]) (st1 := [.inl (1), .inl (s 122 (s 121 4).toNat)]) (h1 := (px_G1, s)) rfl ?_
  refine px_D_icmp rfl (fun hc => ?_) (fun hc => ?_)
  · have hc3 : (s 122 (s 121 4).toNat) = (1) := of_decide_eq_true hc
    rw [if_pos hc3] at h
    refine px_D_st 3 (ip1 := 20) (ls1 := [(3, .inl (s 123 (s 121 4).toNat)), (0, .inr (.inr 121)), (1, .inl (x1)), (2, .inl (x2))]) (st1 := [.inl (x2), .inl (x1), .inl (s 123 (s 121 4).toNat)]) (h1 := (px_G1, s)) rfl ?_
    refine px_D_call (as := [.inl (s 123 (s 121 4).toNat), .inl (x1), .inl (x2)]) (rest := []) rfl rfl rfl rfl ?_
    refine px_D_mono (c_R_within (d := d + 0) rfl) ?_
    rintro _ _ ⟨rfl, rfl⟩
    show px_D sc (d + 1) 50 21 [(3, .inl (s 123 (s 121 4).toNat)), (0, .inr (.inr 121)), (1, .inl (x1)), (2, .inl (x2))] [.inl (f_R_within s (s 123 (s 121 4).toNat) x1 x2)] (px_G1, s) _
    refine px_D_ifc rfl (fun hc => ?_) (fun hc => ?_)
    · have hc4 : ¬ ((f_R_within s (s 123 (s 121 4).toNat) x1 x2) = (0)) := of_decide_eq_true hc
      rw [if_neg hc4] at h
      refine px_D_st 1 (ip1 := 27) (ls1 := [(3, .inl (s 123 (s 121 4).toNat)), (0, .inr (.inr 121)), (1, .inl (x1)), (2, .inl (x2))]) (st1 := [.inr (.inr 121)]) (h1 := (px_G1, s)) rfl ?_
      refine px_D_call (as := [.inr (.inr 121)]) (rest := []) rfl rfl rfl rfl ?_
      obtain ⟨q5, hq5, h⟩ := Option.bind_eq_some_iff.mp h
      refine px_D_mono (c_Reader_step (d := d + 0) hq5) ?_
      rintro _ _ ⟨rfl, rfl⟩
      show px_D sc (d + 1) 50 28 [(3, .inl (s 123 (s 121 4).toNat)), (0, .inr (.inr 121)), (1, .inl (x1)), (2, .inl (x2))] [] (px_G1, q5) _
      refine px_D_st 1 (ip1 := 29) (ls1 := [(3, .inl (s 123 (s 121 4).toNat)), (0, .inr (.inr 121)), (1, .inl (x1)), (2, .inl (x2))]) (st1 := [.inl (s 123 (s 121 4).toNat)]) (h1 := (px_G1, q5)) rfl ?_
      cases h
      exact px_D_iret rfl rfl ⟨rfl, rfl⟩
    · have hc4 : (f_R_within s (s 123 (s 121 4).toNat) x1 x2) = (0) := Decidable.of_not_not (of_decide_eq_false hc)
      rw [if_pos hc4] at h
      refine px_D_st 2 (ip1 := 24) (ls1 := [(3, .inl (s 123 (s 121 4).toNat)), (0, .inr (.inr 121)), (1, .inl (x1)), (2, .inl (x2))]) (st1 := [.inl (2), .inr (.inr 121)]) (h1 := (px_G1, s)) rfl ?_
      refine px_D_call (as := [.inr (.inr 121), .inl (2)]) (rest := []) rfl rfl rfl rfl ?_
      obtain ⟨q6, hq6, h⟩ := Option.bind_eq_some_iff.mp h
      refine px_D_mono (c_Reader_fail (d := d + 0) hq6) ?_
      rintro _ _ ⟨rfl, rfl⟩
      show px_D sc (d + 1) 50 25 [(3, .inl (s 123 (s 121 4).toNat)), (0, .inr (.inr 121)), (1, .inl (x1)), (2, .inl (x2))] [] (px_G1, q6) _
      refine px_D_st 2 (ip1 := 29) (ls1 := [(3, .inl (s 123 (s 121 4).toNat)), (0, .inr (.inr 121)), (1, .inl (x1)), (2, .inl (x2))]) (st1 := [.inl (s 123 (s 121 4).toNat)]) (h1 := (px_G1, q6)) rfl ?_
      cases h
      exact px_D_iret rfl rfl ⟨rfl, rfl⟩
  · have hc3 : ¬ ((s 122 (s 121 4).toNat) = (1)) := of_decide_eq_false hc
    rw [if_neg hc3] at h
    refine px_D_st 2 (ip1 := 15) (ls1 := [(3, .inl (s 123 (s 121 4).toNat)), (0, .inr (.inr 121)), (1, .inl (x1)), (2, .inl (x2))]) (st1 := [.inl (1), .inr (.inr 121)]) (h1 := (px_G1, s)) rfl ?_
    refine px_D_call (as := [.inr (.inr 121), .inl (1)]) (rest := []) rfl rfl rfl rfl ?_
    obtain ⟨q7, hq7, h⟩ := Option.bind_eq_some_iff.mp h
    refine px_D_mono (c_Reader_fail (d := d + 0) hq7) ?_
    rintro _ _ ⟨rfl, rfl⟩
    show px_D sc (d + 1) 50 16 [(3, .inl (s 123 (s 121 4).toNat)), (0, .inr (.inr 121)), (1, .inl (x1)), (2, .inl (x2))] [] (px_G1, q7) _
    refine px_D_st 2 (ip1 := 29) (ls1 := [(3, .inl (s 123 (s 121 4).toNat)), (0, .inr (.inr 121)), (1, .inl (x1)), (2, .inl (x2))]) (st1 := [.inl (s 123 (s 121 4).toNat)]) (h1 := (px_G1, q7)) rfl ?_
    cases h
    exact px_D_iret rfl rfl ⟨rfl, rfl⟩

def l_Reader_readAfterThings_4  : Nat → px_Z → Int → Int → Int → Option (px_Z)
  | 0, _, _, _, _ => none
  | n + 1, s, x1, x2, x3 => if (400) ≤ (x3) then some s else (if (x2) = (0) then some s else (if (s 121 7) = (0) then (if 0 ≤ (s 121 4) ∧ (s 121 4) < 401 then if (s 122 (s 121 4).toNat) = (1) then (if 0 ≤ (s 121 4) ∧ (s 121 4) < 401 then if (s 123 (s 121 4).toNat) = (x1) then (f_Reader_fail s 2).bind (fun q24 => (f_Reader_numberWithin q24 0 (px_wr ((q24 121 5) - 1))).bind (fun q25 => if (q25.2 121 7) = (0) then (if 0 ≤ (x1) ∧ (x1) < 8 then if 0 ≤ (x1) ∧ (x1) < 8 then if 0 ≤ ((px_up q25.2 142 x1.toNat (px_or ((q25.2 142 x1.toNat)) ((px_shl (1) (q25.1))))) 121 4) ∧ ((px_up q25.2 142 x1.toNat (px_or ((q25.2 142 x1.toNat)) ((px_shl (1) (q25.1))))) 121 4) < 401 then if ((px_up q25.2 142 x1.toNat (px_or ((q25.2 142 x1.toNat)) ((px_shl (1) (q25.1))))) 122 ((px_up q25.2 142 x1.toNat (px_or ((q25.2 142 x1.toNat)) ((px_shl (1) (q25.1))))) 121 4).toNat) = (1) then l_Reader_readAfterThings_4  n (px_up q25.2 142 x1.toNat (px_or ((q25.2 142 x1.toNat)) ((px_shl (1) (q25.1))))) x1 1 (px_wr (x3 + 1)) else l_Reader_readAfterThings_4  n (px_up q25.2 142 x1.toNat (px_or ((q25.2 142 x1.toNat)) ((px_shl (1) (q25.1))))) x1 0 (px_wr (x3 + 1)) else none else none else none) else (if 0 ≤ (q25.2 121 4) ∧ (q25.2 121 4) < 401 then if (q25.2 122 (q25.2 121 4).toNat) = (1) then l_Reader_readAfterThings_4  n q25.2 x1 1 (px_wr (x3 + 1)) else l_Reader_readAfterThings_4  n q25.2 x1 0 (px_wr (x3 + 1)) else none))) else (f_Reader_numberWithin s 0 (px_wr ((s 121 5) - 1))).bind (fun q16 => if (q16.2 121 7) = (0) then (if 0 ≤ (x1) ∧ (x1) < 8 then if 0 ≤ (x1) ∧ (x1) < 8 then if 0 ≤ ((px_up q16.2 142 x1.toNat (px_or ((q16.2 142 x1.toNat)) ((px_shl (1) (q16.1))))) 121 4) ∧ ((px_up q16.2 142 x1.toNat (px_or ((q16.2 142 x1.toNat)) ((px_shl (1) (q16.1))))) 121 4) < 401 then if ((px_up q16.2 142 x1.toNat (px_or ((q16.2 142 x1.toNat)) ((px_shl (1) (q16.1))))) 122 ((px_up q16.2 142 x1.toNat (px_or ((q16.2 142 x1.toNat)) ((px_shl (1) (q16.1))))) 121 4).toNat) = (1) then l_Reader_readAfterThings_4  n (px_up q16.2 142 x1.toNat (px_or ((q16.2 142 x1.toNat)) ((px_shl (1) (q16.1))))) x1 1 (px_wr (x3 + 1)) else l_Reader_readAfterThings_4  n (px_up q16.2 142 x1.toNat (px_or ((q16.2 142 x1.toNat)) ((px_shl (1) (q16.1))))) x1 0 (px_wr (x3 + 1)) else none else none else none) else (if 0 ≤ (q16.2 121 4) ∧ (q16.2 121 4) < 401 then if (q16.2 122 (q16.2 121 4).toNat) = (1) then l_Reader_readAfterThings_4  n q16.2 x1 1 (px_wr (x3 + 1)) else l_Reader_readAfterThings_4  n q16.2 x1 0 (px_wr (x3 + 1)) else none)) else none) else (f_Reader_numberWithin s 0 (px_wr ((s 121 5) - 1))).bind (fun q6 => if (q6.2 121 7) = (0) then (if 0 ≤ (x1) ∧ (x1) < 8 then if 0 ≤ (x1) ∧ (x1) < 8 then if 0 ≤ ((px_up q6.2 142 x1.toNat (px_or ((q6.2 142 x1.toNat)) ((px_shl (1) (q6.1))))) 121 4) ∧ ((px_up q6.2 142 x1.toNat (px_or ((q6.2 142 x1.toNat)) ((px_shl (1) (q6.1))))) 121 4) < 401 then if ((px_up q6.2 142 x1.toNat (px_or ((q6.2 142 x1.toNat)) ((px_shl (1) (q6.1))))) 122 ((px_up q6.2 142 x1.toNat (px_or ((q6.2 142 x1.toNat)) ((px_shl (1) (q6.1))))) 121 4).toNat) = (1) then l_Reader_readAfterThings_4  n (px_up q6.2 142 x1.toNat (px_or ((q6.2 142 x1.toNat)) ((px_shl (1) (q6.1))))) x1 1 (px_wr (x3 + 1)) else l_Reader_readAfterThings_4  n (px_up q6.2 142 x1.toNat (px_or ((q6.2 142 x1.toNat)) ((px_shl (1) (q6.1))))) x1 0 (px_wr (x3 + 1)) else none else none else none) else (if 0 ≤ (q6.2 121 4) ∧ (q6.2 121 4) < 401 then if (q6.2 122 (q6.2 121 4).toNat) = (1) then l_Reader_readAfterThings_4  n q6.2 x1 1 (px_wr (x3 + 1)) else l_Reader_readAfterThings_4  n q6.2 x1 0 (px_wr (x3 + 1)) else none)) else none) else some s))
set_option maxHeartbeats 4000000 in
set_option maxRecDepth 100000 in
theorem cl_Reader_readAfterThings_4 {sc : List Int} {d : Nat}  : ∀ (n : Nat) (s : px_Z) (x1 : Int) (x2 : Int) (x3 : Int) (out : px_Z), l_Reader_readAfterThings_4  n s x1 x2 x3 = some out → px_D sc (d + 2) 61 4 [(0, .inr (.inr 121)), (1, .inl (x1)), (2, .inl (x2)), (3, .inl (x3))] [] (px_G1, s) (px_Qv out) := by
  intro n
  induction n with
  | zero => intro s x1 x2 x3 out h; cases h
  | succ n ih =>
    intro s x1 x2 x3 out h
    rw [l_Reader_readAfterThings_4] at h
    refine px_D_st 2 (ip1 := 6) (ls1 := [(0, .inr (.inr 121)), (1, .inl (x1)), (2, .inl (x2)), (3, .inl (x3))]) (st1 := [.inl (400), .inl (x3)]) (h1 := (px_G1, s)) rfl ?_
    refine px_D_icmp rfl (fun hc => ?_) (fun hc => ?_)
    · have hc1 : (400) ≤ (x3) := of_decide_eq_true hc
      rw [if_pos hc1] at h
      cases h
      exact px_D_vret rfl ⟨rfl, rfl⟩
    · have hc1 : ¬ ((400) ≤ (x3)) := of_decide_eq_false hc
      rw [if_neg hc1] at h
      refine px_D_st 1 (ip1 := 8) (ls1 := [(0, .inr (.inr 121)), (1, .inl (x1)), (2, .inl (x2)), (3, .inl (x3))]) (st1 := [.inl (x2)]) (h1 := (px_G1, s)) rfl ?_
      refine px_D_ifc rfl (fun hc => ?_) (fun hc => ?_)
      · have hc2 : (x2) = (0) := of_decide_eq_true hc
        rw [if_pos hc2] at h
        cases h
        exact px_D_vret rfl ⟨rfl, rfl⟩
      · have hc2 : ¬ ((x2) = (0)) := of_decide_eq_false hc
        rw [if_neg hc2] at h
        refine px_D_st 2 (ip1 := 11) (ls1 := [(0, .inr (.inr 121)), (1, .inl (x1)), (2, .inl (x2)), (3, .inl (x3))]) (st1 := [.inl (s 121 7)]) (h1 := (px_G1, s)) rfl ?_
        refine px_D_ifc rfl (fun hc => ?_) (fun hc => ?_)
        · have hc3 : ¬ ((s 121 7) = (0)) := of_decide_eq_true hc
          rw [if_neg hc3] at h
          cases h
          exact px_D_vret rfl ⟨rfl, rfl⟩
        · have hc3 : (s 121 7) = (0) := Decidable.of_not_not (of_decide_eq_false hc)
          rw [if_pos hc3] at h
          refine px_D_st 4 (ip1 := 16) (ls1 := [(0, .inr (.inr 121)), (1, .inl (x1)), (2, .inl (x2)), (3, .inl (x3))]) (st1 := [.inl (s 121 4), .inr (.inr 122)]) (h1 := (px_G1, s)) rfl ?_
          by_cases hc4 : 0 ≤ (s 121 4) ∧ (s 121 4) < 401
          case neg => rw [if_neg hc4] at h; cases h
          rw [if_pos hc4] at h
          refine px_D_iald (k := 117) (n := 401) rfl rfl hc4 ?_
          refine px_D_st 1 (ip1 := 18) (ls1 := [(0, .inr (.inr 121)), (1, .inl (x1)), (2, .inl (x2)), (3, .inl (x3))]) (st1 := [.inl (1), .inl (s 122 (s 121 4).toNat)]) (h1 := (px_G1, s)) rfl ?_
          refine px_D_icmp rfl (fun hc => ?_) (fun hc => ?_)
          · have hc5 : ¬ ((s 122 (s 121 4).toNat) = (1)) := of_decide_eq_true hc
            rw [if_neg hc5] at h
            refine px_D_st 6 (ip1 := 35) (ls1 := [(0, .inr (.inr 121)), (1, .inl (x1)), (2, .inl (x2)), (3, .inl (x3))]) (st1 := [.inl (px_wr ((s 121 5) - 1)), .inl (0), .inr (.inr 121)]) (h1 := (px_G1, s)) rfl ?_
            refine px_D_call (as := [.inr (.inr 121), .inl (0), .inl (px_wr ((s 121 5) - 1))]) (rest := []) rfl rfl rfl rfl ?_
            obtain ⟨q6, hq6, h⟩ := Option.bind_eq_some_iff.mp h
            refine px_D_mono (c_Reader_numberWithin (d := d + 0) hq6) ?_
            rintro _ _ ⟨rfl, rfl⟩
            show px_D sc (d + 2) 61 36 [(0, .inr (.inr 121)), (1, .inl (x1)), (2, .inl (x2)), (3, .inl (x3))] [.inl (q6.1)] (px_G1, q6.2) _
            refine px_D_st 3 (ip1 := 39) (ls1 := [(4, .inl (q6.1)), (0, .inr (.inr 121)), (1, .inl (x1)), (2, .inl (x2)), (3, .inl (x3))]) (st1 := [.inl (q6.2 121 7)]) (h1 := (px_G1, q6.2)) rfl ?_
            refine px_D_ifc rfl (fun hc => ?_) (fun hc => ?_)
            · have hc7 : ¬ ((q6.2 121 7) = (0)) := of_decide_eq_true hc
              rw [if_neg hc7] at h
              refine px_D_st 4 (ip1 := 54) (ls1 := [(4, .inl (q6.1)), (0, .inr (.inr 121)), (1, .inl (x1)), (2, .inl (x2)), (3, .inl (x3))]) (st1 := [.inl (q6.2 121 4), .inr (.inr 122)]) (h1 := (px_G1, q6.2)) rfl ?_
              by_cases hc8 : 0 ≤ (q6.2 121 4) ∧ (q6.2 121 4) < 401
              case neg => rw [if_neg hc8] at h; cases h
              rw [if_pos hc8] at h
              refine px_D_iald (k := 117) (n := 401) rfl rfl hc8 ?_
              refine px_D_st 1 (ip1 := 56) (ls1 := [(4, .inl (q6.1)), (0, .inr (.inr 121)), (1, .inl (x1)), (2, .inl (x2)), (3, .inl (x3))]) (st1 := [.inl (1), .inl (q6.2 122 (q6.2 121 4).toNat)]) (h1 := (px_G1, q6.2)) rfl ?_
              refine px_D_icmp rfl (fun hc => ?_) (fun hc => ?_)
              · have hc9 : ¬ ((q6.2 122 (q6.2 121 4).toNat) = (1)) := of_decide_eq_true hc
                rw [if_neg hc9] at h
                refine px_D_st 4 (ip1 := 4) (ls1 := [(3, .inl (px_wr (x3 + 1))), (2, .inl (0)), (4, .inl (q6.1)), (0, .inr (.inr 121)), (1, .inl (x1))]) (st1 := []) (h1 := (px_G1, q6.2)) rfl ?_
                refine px_D_ls [(0, .inr (.inr 121)), (1, .inl (x1)), (2, .inl (0)), (3, .inl (px_wr (x3 + 1)))] rfl rfl (List.forall_mem_cons.mpr ⟨rfl, List.forall_mem_cons.mpr ⟨rfl, List.forall_mem_cons.mpr ⟨rfl, List.forall_mem_cons.mpr ⟨rfl, fun _ h => absurd h List.not_mem_nil⟩⟩⟩⟩) ?_
                exact ih _ _ _ _ _ h
              · have hc9 : (q6.2 122 (q6.2 121 4).toNat) = (1) := Decidable.of_not_not (of_decide_eq_false hc)
                rw [if_pos hc9] at h
                refine px_D_st 5 (ip1 := 4) (ls1 := [(3, .inl (px_wr (x3 + 1))), (2, .inl (1)), (4, .inl (q6.1)), (0, .inr (.inr 121)), (1, .inl (x1))]) (st1 := []) (h1 := (px_G1, q6.2)) rfl ?_
                refine px_D_ls [(0, .inr (.inr 121)), (1, .inl (x1)), (2, .inl (1)), (3, .inl (px_wr (x3 + 1)))] rfl rfl (List.forall_mem_cons.mpr ⟨rfl, List.forall_mem_cons.mpr ⟨rfl, List.forall_mem_cons.mpr ⟨rfl, List.forall_mem_cons.mpr ⟨rfl, fun _ h => absurd h List.not_mem_nil⟩⟩⟩⟩) ?_
                exact ih _ _ _ _ _ h
            · have hc7 : (q6.2 121 7) = (0) := Decidable.of_not_not (of_decide_eq_false hc)
              rw [if_pos hc7] at h
              refine px_D_st 4 (ip1 := 44) (ls1 := [(4, .inl (q6.1)), (0, .inr (.inr 121)), (1, .inl (x1)), (2, .inl (x2)), (3, .inl (x3))]) (st1 := [.inl (x1), .inr (.inr 142), .inl (x1), .inr (.inr 142)]) (h1 := (px_G1, q6.2)) rfl ?_
              by_cases hc10 : 0 ≤ (x1) ∧ (x1) < 8
              case neg => rw [if_neg hc10] at h; cases h
              rw [if_pos hc10] at h
              refine px_D_iald (k := 137) (n := 8) rfl rfl hc10 ?_
              refine px_D_st 4 (ip1 := 49) (ls1 := [(4, .inl (q6.1)), (0, .inr (.inr 121)), (1, .inl (x1)), (2, .inl (x2)), (3, .inl (x3))]) (st1 := [.inl (px_or ((q6.2 142 x1.toNat)) ((px_shl (1) (q6.1)))), .inl (x1), .inr (.inr 142)]) (h1 := (px_G1, q6.2)) rfl ?_
              by_cases hc11 : 0 ≤ (x1) ∧ (x1) < 8
              case neg => rw [if_neg hc11] at h; cases h
              rw [if_pos hc11] at h
              refine px_D_iast (k := 137) (n := 8) rfl rfl hc11 ?_
              refine px_D_st 4 (ip1 := 54) (ls1 := [(4, .inl (q6.1)), (0, .inr (.inr 121)), (1, .inl (x1)), (2, .inl (x2)), (3, .inl (x3))]) (st1 := [.inl ((px_up q6.2 142 x1.toNat (px_or ((q6.2 142 x1.toNat)) ((px_shl (1) (q6.1))))) 121 4), .inr (.inr 122)]) (h1 := (px_G1, px_up q6.2 142 x1.toNat (px_or ((q6.2 142 x1.toNat)) ((px_shl (1) (q6.1)))))) rfl ?_
              by_cases hc12 : 0 ≤ ((px_up q6.2 142 x1.toNat (px_or ((q6.2 142 x1.toNat)) ((px_shl (1) (q6.1))))) 121 4) ∧ ((px_up q6.2 142 x1.toNat (px_or ((q6.2 142 x1.toNat)) ((px_shl (1) (q6.1))))) 121 4) < 401
              case neg => rw [if_neg hc12] at h; cases h
              rw [if_pos hc12] at h
              refine px_D_iald (k := 117) (n := 401) rfl rfl hc12 ?_
              refine px_D_st 1 (ip1 := 56) (ls1 := [(4, .inl (q6.1)), (0, .inr (.inr 121)), (1, .inl (x1)), (2, .inl (x2)), (3, .inl (x3))]) (st1 := [.inl (1), .inl ((px_up q6.2 142 x1.toNat (px_or ((q6.2 142 x1.toNat)) ((px_shl (1) (q6.1))))) 122 ((px_up q6.2 142 x1.toNat (px_or ((q6.2 142 x1.toNat)) ((px_shl (1) (q6.1))))) 121 4).toNat)]) (h1 := (px_G1, px_up q6.2 142 x1.toNat (px_or ((q6.2 142 x1.toNat)) ((px_shl (1) (q6.1)))))) rfl ?_
              refine px_D_icmp rfl (fun hc => ?_) (fun hc => ?_)
              · have hc13 : ¬ (((px_up q6.2 142 x1.toNat (px_or ((q6.2 142 x1.toNat)) ((px_shl (1) (q6.1))))) 122 ((px_up q6.2 142 x1.toNat (px_or ((q6.2 142 x1.toNat)) ((px_shl (1) (q6.1))))) 121 4).toNat) = (1)) := of_decide_eq_true hc
                rw [if_neg hc13] at h
                refine px_D_st 4 (ip1 := 4) (ls1 := [(3, .inl (px_wr (x3 + 1))), (2, .inl (0)), (4, .inl (q6.1)), (0, .inr (.inr 121)), (1, .inl (x1))]) (st1 := []) (h1 := (px_G1, px_up q6.2 142 x1.toNat (px_or ((q6.2 142 x1.toNat)) ((px_shl (1) (q6.1)))))) rfl ?_
                refine px_D_ls [(0, .inr (.inr 121)), (1, .inl (x1)), (2, .inl (0)), (3, .inl (px_wr (x3 + 1)))] rfl rfl (List.forall_mem_cons.mpr ⟨rfl, List.forall_mem_cons.mpr ⟨rfl, List.forall_mem_cons.mpr ⟨rfl, List.forall_mem_cons.mpr ⟨rfl, fun _ h => absurd h List.not_mem_nil⟩⟩⟩⟩) ?_
                exact ih _ _ _ _ _ h
              · have hc13 : ((px_up q6.2 142 x1.toNat (px_or ((q6.2 142 x1.toNat)) ((px_shl (1) (q6.1))))) 122 ((px_up q6.2 142 x1.toNat (px_or ((q6.2 142 x1.toNat)) ((px_shl (1) (q6.1))))) 121 4).toNat) = (1) := Decidable.of_not_not (of_decide_eq_false hc)
                rw [if_pos hc13] at h
                refine px_D_st 5 (ip1 := 4) (ls1 := [(3, .inl (px_wr (x3 + 1))), (2, .inl (1)), (4, .inl (q6.1)), (0, .inr (.inr 121)), (1, .inl (x1))]) (st1 := []) (h1 := (px_G1, px_up q6.2 142 x1.toNat (px_or ((q6.2 142 x1.toNat)) ((px_shl (1) (q6.1)))))) rfl ?_
                refine px_D_ls [(0, .inr (.inr 121)), (1, .inl (x1)), (2, .inl (1)), (3, .inl (px_wr (x3 + 1)))] rfl rfl (List.forall_mem_cons.mpr ⟨rfl, List.forall_mem_cons.mpr ⟨rfl, List.forall_mem_cons.mpr ⟨rfl, List.forall_mem_cons.mpr ⟨rfl, fun _ h => absurd h List.not_mem_nil⟩⟩⟩⟩) ?_
                exact ih _ _ _ _ _ h
          · have hc5 : (s 122 (s 121 4).toNat) = (1) := Decidable.of_not_not (of_decide_eq_false hc)
            rw [if_pos hc5] at h
            refine px_D_st 4 (ip1 := 23) (ls1 := [(0, .inr (.inr 121)), (1, .inl (x1)), (2, .inl (x2)), (3, .inl (x3))]) (st1 := [.inl (s 121 4), .inr (.inr 123)]) (h1 := (px_G1, s)) rfl ?_
            by_cases hc14 : 0 ≤ (s 121 4) ∧ (s 121 4) < 401
            case neg => rw [if_neg hc14] at h; cases h
            rw [if_pos hc14] at h
            refine px_D_iald (k := 118) (n := 401) rfl rfl hc14 ?_
            refine px_D_st 1 (ip1 := 25) (ls1 := [(0, .inr (.inr 121)), (1, .inl (x1)), (2, .inl (x2)), (3, .inl (x3))]) (st1 := [.inl (x1), .inl (s 123 (s 121 4).toNat)]) (h1 := (px_G1, s)) rfl ?_
            refine px_D_icmp rfl (fun hc => ?_) (fun hc => ?_)
            · have hc15 : ¬ ((s 123 (s 121 4).toNat) = (x1)) := of_decide_eq_true hc
              rw [if_neg hc15] at h
              refine px_D_st 6 (ip1 := 35) (ls1 := [(0, .inr (.inr 121)), (1, .inl (x1)), (2, .inl (x2)), (3, .inl (x3))]) (st1 := [.inl (px_wr ((s 121 5) - 1)), .inl (0), .inr (.inr 121)]) (h1 := (px_G1, s)) rfl ?_
              refine px_D_call (as := [.inr (.inr 121), .inl (0), .inl (px_wr ((s 121 5) - 1))]) (rest := []) rfl rfl rfl rfl ?_
              obtain ⟨q16, hq16, h⟩ := Option.bind_eq_some_iff.mp h
              refine px_D_mono (c_Reader_numberWithin (d := d + 0) hq16) ?_
              rintro _ _ ⟨rfl, rfl⟩
              show px_D sc (d + 2) 61 36 [(0, .inr (.inr 121)), (1, .inl (x1)), (2, .inl (x2)), (3, .inl (x3))] [.inl (q16.1)] (px_G1, q16.2) _
              refine px_D_st 3 (ip1 := 39) (ls1 := [(4, .inl (q16.1)), (0, .inr (.inr 121)), (1, .inl (x1)), (2, .inl (x2)), (3, .inl (x3))]) (st1 := [.inl (q16.2 121 7)]) (h1 := (px_G1, q16.2)) rfl ?_
              refine px_D_ifc rfl (fun hc => ?_) (fun hc => ?_)
              · have hc17 : ¬ ((q16.2 121 7) = (0)) := of_decide_eq_true hc
                rw [if_neg hc17] at h
                refine px_D_st 4 (ip1 := 54) (ls1 := [(4, .inl (q16.1)), (0, .inr (.inr 121)), (1, .inl (x1)), (2, .inl (x2)), (3, .inl (x3))]) (st1 := [.inl (q16.2 121 4), .inr (.inr 122)]) (h1 := (px_G1, q16.2)) rfl ?_
                by_cases hc18 : 0 ≤ (q16.2 121 4) ∧ (q16.2 121 4) < 401
                case neg => rw [if_neg hc18] at h; cases h
                rw [if_pos hc18] at h
                refine px_D_iald (k := 117) (n := 401) rfl rfl hc18 ?_
                refine px_D_st 1 (ip1 := 56) (ls1 := [(4, .inl (q16.1)), (0, .inr (.inr 121)), (1, .inl (x1)), (2, .inl (x2)), (3, .inl (x3))]) (st1 := [.inl (1), .inl (q16.2 122 (q16.2 121 4).toNat)]) (h1 := (px_G1, q16.2)) rfl ?_
                refine px_D_icmp rfl (fun hc => ?_) (fun hc => ?_)
                · have hc19 : ¬ ((q16.2 122 (q16.2 121 4).toNat) = (1)) := of_decide_eq_true hc
                  rw [if_neg hc19] at h
                  refine px_D_st 4 (ip1 := 4) (ls1 := [(3, .inl (px_wr (x3 + 1))), (2, .inl (0)), (4, .inl (q16.1)), (0, .inr (.inr 121)), (1, .inl (x1))]) (st1 := []) (h1 := (px_G1, q16.2)) rfl ?_
                  refine px_D_ls [(0, .inr (.inr 121)), (1, .inl (x1)), (2, .inl (0)), (3, .inl (px_wr (x3 + 1)))] rfl rfl (List.forall_mem_cons.mpr ⟨rfl, List.forall_mem_cons.mpr ⟨rfl, List.forall_mem_cons.mpr ⟨rfl, List.forall_mem_cons.mpr ⟨rfl, fun _ h => absurd h List.not_mem_nil⟩⟩⟩⟩) ?_
                  exact ih _ _ _ _ _ h
                · have hc19 : (q16.2 122 (q16.2 121 4).toNat) = (1) := Decidable.of_not_not (of_decide_eq_false hc)
                  rw [if_pos hc19] at h
                  refine px_D_st 5 (ip1 := 4) (ls1 := [(3, .inl (px_wr (x3 + 1))), (2, .inl (1)), (4, .inl (q16.1)), (0, .inr (.inr 121)), (1, .inl (x1))]) (st1 := []) (h1 := (px_G1, q16.2)) rfl ?_
                  refine px_D_ls [(0, .inr (.inr 121)), (1, .inl (x1)), (2, .inl (1)), (3, .inl (px_wr (x3 + 1)))] rfl rfl (List.forall_mem_cons.mpr ⟨rfl, List.forall_mem_cons.mpr ⟨rfl, List.forall_mem_cons.mpr ⟨rfl, List.forall_mem_cons.mpr ⟨rfl, fun _ h => absurd h List.not_mem_nil⟩⟩⟩⟩) ?_
                  exact ih _ _ _ _ _ h
              · have hc17 : (q16.2 121 7) = (0) := Decidable.of_not_not (of_decide_eq_false hc)
                rw [if_pos hc17] at h
                refine px_D_st 4 (ip1 := 44) (ls1 := [(4, .inl (q16.1)), (0, .inr (.inr 121)), (1, .inl (x1)), (2, .inl (x2)), (3, .inl (x3))]) (st1 := [.inl (x1), .inr (.inr 142), .inl (x1), .inr (.inr 142)]) (h1 := (px_G1, q16.2)) rfl ?_
                by_cases hc20 : 0 ≤ (x1) ∧ (x1) < 8
                case neg => rw [if_neg hc20] at h; cases h
                rw [if_pos hc20] at h
                refine px_D_iald (k := 137) (n := 8) rfl rfl hc20 ?_
                refine px_D_st 4 (ip1 := 49) (ls1 := [(4, .inl (q16.1)), (0, .inr (.inr 121)), (1, .inl (x1)), (2, .inl (x2)), (3, .inl (x3))]) (st1 := [.inl (px_or ((q16.2 142 x1.toNat)) ((px_shl (1) (q16.1)))), .inl (x1), .inr (.inr 142)]) (h1 := (px_G1, q16.2)) rfl ?_
                by_cases hc21 : 0 ≤ (x1) ∧ (x1) < 8
                case neg => rw [if_neg hc21] at h; cases h
                rw [if_pos hc21] at h
                refine px_D_iast (k := 137) (n := 8) rfl rfl hc21 ?_
                refine px_D_st 4 (ip1 := 54) (ls1 := [(4, .inl (q16.1)), (0, .inr (.inr 121)), (1, .inl (x1)), (2, .inl (x2)), (3, .inl (x3))]) (st1 := [.inl ((px_up q16.2 142 x1.toNat (px_or ((q16.2 142 x1.toNat)) ((px_shl (1) (q16.1))))) 121 4), .inr (.inr 122)]) (h1 := (px_G1, px_up q16.2 142 x1.toNat (px_or ((q16.2 142 x1.toNat)) ((px_shl (1) (q16.1)))))) rfl ?_
                by_cases hc22 : 0 ≤ ((px_up q16.2 142 x1.toNat (px_or ((q16.2 142 x1.toNat)) ((px_shl (1) (q16.1))))) 121 4) ∧ ((px_up q16.2 142 x1.toNat (px_or ((q16.2 142 x1.toNat)) ((px_shl (1) (q16.1))))) 121 4) < 401
                case neg => rw [if_neg hc22] at h; cases h
                rw [if_pos hc22] at h
                refine px_D_iald (k := 117) (n := 401) rfl rfl hc22 ?_
                refine px_D_st 1 (ip1 := 56) (ls1 := [(4, .inl (q16.1)), (0, .inr (.inr 121)), (1, .inl (x1)), (2, .inl (x2)), (3, .inl (x3))]) (st1 := [.inl (1), .inl ((px_up q16.2 142 x1.toNat (px_or ((q16.2 142 x1.toNat)) ((px_shl (1) (q16.1))))) 122 ((px_up q16.2 142 x1.toNat (px_or ((q16.2 142 x1.toNat)) ((px_shl (1) (q16.1))))) 121 4).toNat)]) (h1 := (px_G1, px_up q16.2 142 x1.toNat (px_or ((q16.2 142 x1.toNat)) ((px_shl (1) (q16.1)))))) rfl ?_
                refine px_D_icmp rfl (fun hc => ?_) (fun hc => ?_)
                · have hc23 : ¬ (((px_up q16.2 142 x1.toNat (px_or ((q16.2 142 x1.toNat)) ((px_shl (1) (q16.1))))) 122 ((px_up q16.2 142 x1.toNat (px_or ((q16.2 142 x1.toNat)) ((px_shl (1) (q16.1))))) 121 4).toNat) = (1)) := of_decide_eq_true hc
                  rw [if_neg hc23] at h
                  refine px_D_st 4 (ip1 := 4) (ls1 := [(3, .inl (px_wr (x3 + 1))), (2, .inl (0)), (4, .inl (q16.1)), (0, .inr (.inr 121)), (1, .inl (x1))]) (st1 := []) (h1 := (px_G1, px_up q16.2 142 x1.toNat (px_or ((q16.2 142 x1.toNat)) ((px_shl (1) (q16.1)))))) rfl ?_
                  refine px_D_ls [(0, .inr (.inr 121)), (1, .inl (x1)), (2, .inl (0)), (3, .inl (px_wr (x3 + 1)))] rfl rfl (List.forall_mem_cons.mpr ⟨rfl, List.forall_mem_cons.mpr ⟨rfl, List.forall_mem_cons.mpr ⟨rfl, List.forall_mem_cons.mpr ⟨rfl, fun _ h => absurd h List.not_mem_nil⟩⟩⟩⟩) ?_
                  exact ih _ _ _ _ _ h
                · have hc23 : ((px_up q16.2 142 x1.toNat (px_or ((q16.2 142 x1.toNat)) ((px_shl (1) (q16.1))))) 122 ((px_up q16.2 142 x1.toNat (px_or ((q16.2 142 x1.toNat)) ((px_shl (1) (q16.1))))) 121 4).toNat) = (1) := Decidable.of_not_not (of_decide_eq_false hc)
                  rw [if_pos hc23] at h
                  refine px_D_st 5 (ip1 := 4) (ls1 := [(3, .inl (px_wr (x3 + 1))), (2, .inl (1)), (4, .inl (q16.1)), (0, .inr (.inr 121)), (1, .inl (x1))]) (st1 := []) (h1 := (px_G1, px_up q16.2 142 x1.toNat (px_or ((q16.2 142 x1.toNat)) ((px_shl (1) (q16.1)))))) rfl ?_
                  refine px_D_ls [(0, .inr (.inr 121)), (1, .inl (x1)), (2, .inl (1)), (3, .inl (px_wr (x3 + 1)))] rfl rfl (List.forall_mem_cons.mpr ⟨rfl, List.forall_mem_cons.mpr ⟨rfl, List.forall_mem_cons.mpr ⟨rfl, List.forall_mem_cons.mpr ⟨rfl, fun _ h => absurd h List.not_mem_nil⟩⟩⟩⟩) ?_
                  exact ih _ _ _ _ _ h
            · have hc15 : (s 123 (s 121 4).toNat) = (x1) := Decidable.of_not_not (of_decide_eq_false hc)
              rw [if_pos hc15] at h
              refine px_D_st 2 (ip1 := 28) (ls1 := [(0, .inr (.inr 121)), (1, .inl (x1)), (2, .inl (x2)), (3, .inl (x3))]) (st1 := [.inl (2), .inr (.inr 121)]) (h1 := (px_G1, s)) rfl ?_
              refine px_D_call (as := [.inr (.inr 121), .inl (2)]) (rest := []) rfl rfl rfl rfl ?_
              obtain ⟨q24, hq24, h⟩ := Option.bind_eq_some_iff.mp h
              refine px_D_mono (c_Reader_fail (d := d + 1) hq24) ?_
              rintro _ _ ⟨rfl, rfl⟩
              show px_D sc (d + 2) 61 29 [(0, .inr (.inr 121)), (1, .inl (x1)), (2, .inl (x2)), (3, .inl (x3))] [] (px_G1, q24) _
              refine px_D_st 6 (ip1 := 35) (ls1 := [(0, .inr (.inr 121)), (1, .inl (x1)), (2, .inl (x2)), (3, .inl (x3))]) (st1 := [.inl (px_wr ((q24 121 5) - 1)), .inl (0), .inr (.inr 121)]) (h1 := (px_G1, q24)) rfl ?_
              refine px_D_call (as := [.inr (.inr 121), .inl (0), .inl (px_wr ((q24 121 5) - 1))]) (rest := []) rfl rfl rfl rfl ?_
              obtain ⟨q25, hq25, h⟩ := Option.bind_eq_some_iff.mp h
              refine px_D_mono (c_Reader_numberWithin (d := d + 0) hq25) ?_
              rintro _ _ ⟨rfl, rfl⟩
              show px_D sc (d + 2) 61 36 [(0, .inr (.inr 121)), (1, .inl (x1)), (2, .inl (x2)), (3, .inl (x3))] [.inl (q25.1)] (px_G1, q25.2) _
              refine px_D_st 3 (ip1 := 39) (ls1 := [(4, .inl (q25.1)), (0, .inr (.inr 121)), (1, .inl (x1)), (2, .inl (x2)), (3, .inl (x3))]) (st1 := [.inl (q25.2 121 7)]) (h1 := (px_G1, q25.2)) rfl ?_
              refine px_D_ifc rfl (fun hc => ?_) (fun hc => ?_)
              · have hc26 : ¬ ((q25.2 121 7) = (0)) := of_decide_eq_true hc
                rw [if_neg hc26] at h
                refine px_D_st 4 (ip1 := 54) (ls1 := [(4, .inl (q25.1)), (0, .inr (.inr 121)), (1, .inl (x1)), (2, .inl (x2)), (3, .inl (x3))]) (st1 := [.inl (q25.2 121 4), .inr (.inr 122)]) (h1 := (px_G1, q25.2)) rfl ?_
                by_cases hc27 : 0 ≤ (q25.2 121 4) ∧ (q25.2 121 4) < 401
                case neg => rw [if_neg hc27] at h; cases h
                rw [if_pos hc27] at h
                refine px_D_iald (k := 117) (n := 401) rfl rfl hc27 ?_
                refine px_D_st 1 (ip1 := 56) (ls1 := [(4, .inl (q25.1)), (0, .inr (.inr 121)), (1, .inl (x1)), (2, .inl (x2)), (3, .inl (x3))]) (st1 := [.inl (1), .inl (q25.2 122 (q25.2 121 4).toNat)]) (h1 := (px_G1, q25.2)) rfl ?_
                refine px_D_icmp rfl (fun hc => ?_) (fun hc => ?_)
                · have hc28 : ¬ ((q25.2 122 (q25.2 121 4).toNat) = (1)) := of_decide_eq_true hc
                  rw [if_neg hc28] at h
                  refine px_D_st 4 (ip1 := 4) (ls1 := [(3, .inl (px_wr (x3 + 1))), (2, .inl (0)), (4, .inl (q25.1)), (0, .inr (.inr 121)), (1, .inl (x1))]) (st1 := []) (h1 := (px_G1, q25.2)) rfl ?_
                  refine px_D_ls [(0, .inr (.inr 121)), (1, .inl (x1)), (2, .inl (0)), (3, .inl (px_wr (x3 + 1)))] rfl rfl (List.forall_mem_cons.mpr ⟨rfl, List.forall_mem_cons.mpr ⟨rfl, List.forall_mem_cons.mpr ⟨rfl, List.forall_mem_cons.mpr ⟨rfl, fun _ h => absurd h List.not_mem_nil⟩⟩⟩⟩) ?_
                  exact ih _ _ _ _ _ h
                · have hc28 : (q25.2 122 (q25.2 121 4).toNat) = (1) := Decidable.of_not_not (of_decide_eq_false hc)
                  rw [if_pos hc28] at h
                  refine px_D_st 5 (ip1 := 4) (ls1 := [(3, .inl (px_wr (x3 + 1))), (2, .inl (1)), (4, .inl (q25.1)), (0, .inr (.inr 121)), (1, .inl (x1))]) (st1 := []) (h1 := (px_G1, q25.2)) rfl ?_
                  refine px_D_ls [(0, .inr (.inr 121)), (1, .inl (x1)), (2, .inl (1)), (3, .inl (px_wr (x3 + 1)))] rfl rfl (List.forall_mem_cons.mpr ⟨rfl, List.forall_mem_cons.mpr ⟨rfl, List.forall_mem_cons.mpr ⟨rfl, List.forall_mem_cons.mpr ⟨rfl, fun _ h => absurd h List.not_mem_nil⟩⟩⟩⟩) ?_
                  exact ih _ _ _ _ _ h
              · have hc26 : (q25.2 121 7) = (0) := Decidable.of_not_not (of_decide_eq_false hc)
                rw [if_pos hc26] at h
                refine px_D_st 4 (ip1 := 44) (ls1 := [(4, .inl (q25.1)), (0, .inr (.inr 121)), (1, .inl (x1)), (2, .inl (x2)), (3, .inl (x3))]) (st1 := [.inl (x1), .inr (.inr 142), .inl (x1), .inr (.inr 142)]) (h1 := (px_G1, q25.2)) rfl ?_
                by_cases hc29 : 0 ≤ (x1) ∧ (x1) < 8
                case neg => rw [if_neg hc29] at h; cases h
                rw [if_pos hc29] at h
                refine px_D_iald (k := 137) (n := 8) rfl rfl hc29 ?_
                refine px_D_st 4 (ip1 := 49) (ls1 := [(4, .inl (q25.1)), (0, .inr (.inr 121)), (1, .inl (x1)), (2, .inl (x2)), (3, .inl (x3))]) (st1 := [.inl (px_or ((q25.2 142 x1.toNat)) ((px_shl (1) (q25.1)))), .inl (x1), .inr (.inr 142)]) (h1 := (px_G1, q25.2)) rfl ?_
                by_cases hc30 : 0 ≤ (x1) ∧ (x1) < 8
                case neg => rw [if_neg hc30] at h; cases h
                rw [if_pos hc30] at h
                refine px_D_iast (k := 137) (n := 8) rfl rfl hc30 ?_
                refine px_D_st 4 (ip1 := 54) (ls1 := [(4, .inl (q25.1)), (0, .inr (.inr 121)), (1, .inl (x1)), (2, .inl (x2)), (3, .inl (x3))]) (st1 := [.inl ((px_up q25.2 142 x1.toNat (px_or ((q25.2 142 x1.toNat)) ((px_shl (1) (q25.1))))) 121 4), .inr (.inr 122)]) (h1 := (px_G1, px_up q25.2 142 x1.toNat (px_or ((q25.2 142 x1.toNat)) ((px_shl (1) (q25.1)))))) rfl ?_
                by_cases hc31 : 0 ≤ ((px_up q25.2 142 x1.toNat (px_or ((q25.2 142 x1.toNat)) ((px_shl (1) (q25.1))))) 121 4) ∧ ((px_up q25.2 142 x1.toNat (px_or ((q25.2 142 x1.toNat)) ((px_shl (1) (q25.1))))) 121 4) < 401
                case neg => rw [if_neg hc31] at h; cases h
                rw [if_pos hc31] at h
                refine px_D_iald (k := 117) (n := 401) rfl rfl hc31 ?_
                refine px_D_st 1 (ip1 := 56) (ls1 := [(4, .inl (q25.1)), (0, .inr (.inr 121)), (1, .inl (x1)), (2, .inl (x2)), (3, .inl (x3))]) (st1 := [.inl (1), .inl ((px_up q25.2 142 x1.toNat (px_or ((q25.2 142 x1.toNat)) ((px_shl (1) (q25.1))))) 122 ((px_up q25.2 142 x1.toNat (px_or ((q25.2 142 x1.toNat)) ((px_shl (1) (q25.1))))) 121 4).toNat)]) (h1 := (px_G1, px_up q25.2 142 x1.toNat (px_or ((q25.2 142 x1.toNat)) ((px_shl (1) (q25.1)))))) rfl ?_
                refine px_D_icmp rfl (fun hc => ?_) (fun hc => ?_)
                · have hc32 : ¬ (((px_up q25.2 142 x1.toNat (px_or ((q25.2 142 x1.toNat)) ((px_shl (1) (q25.1))))) 122 ((px_up q25.2 142 x1.toNat (px_or ((q25.2 142 x1.toNat)) ((px_shl (1) (q25.1))))) 121 4).toNat) = (1)) := of_decide_eq_true hc
                  rw [if_neg hc32] at h
                  refine px_D_st 4 (ip1 := 4) (ls1 := [(3, .inl (px_wr (x3 + 1))), (2, .inl (0)), (4, .inl (q25.1)), (0, .inr (.inr 121)), (1, .inl (x1))]) (st1 := []) (h1 := (px_G1, px_up q25.2 142 x1.toNat (px_or ((q25.2 142 x1.toNat)) ((px_shl (1) (q25.1)))))) rfl ?_
                  refine px_D_ls [(0, .inr (.inr 121)), (1, .inl (x1)), (2, .inl (0)), (3, .inl (px_wr (x3 + 1)))] rfl rfl (List.forall_mem_cons.mpr ⟨rfl, List.forall_mem_cons.mpr ⟨rfl, List.forall_mem_cons.mpr ⟨rfl, List.forall_mem_cons.mpr ⟨rfl, fun _ h => absurd h List.not_mem_nil⟩⟩⟩⟩) ?_
                  exact ih _ _ _ _ _ h
                · have hc32 : ((px_up q25.2 142 x1.toNat (px_or ((q25.2 142 x1.toNat)) ((px_shl (1) (q25.1))))) 122 ((px_up q25.2 142 x1.toNat (px_or ((q25.2 142 x1.toNat)) ((px_shl (1) (q25.1))))) 121 4).toNat) = (1) := Decidable.of_not_not (of_decide_eq_false hc)
                  rw [if_pos hc32] at h
                  refine px_D_st 5 (ip1 := 4) (ls1 := [(3, .inl (px_wr (x3 + 1))), (2, .inl (1)), (4, .inl (q25.1)), (0, .inr (.inr 121)), (1, .inl (x1))]) (st1 := []) (h1 := (px_G1, px_up q25.2 142 x1.toNat (px_or ((q25.2 142 x1.toNat)) ((px_shl (1) (q25.1)))))) rfl ?_
                  refine px_D_ls [(0, .inr (.inr 121)), (1, .inl (x1)), (2, .inl (1)), (3, .inl (px_wr (x3 + 1)))] rfl rfl (List.forall_mem_cons.mpr ⟨rfl, List.forall_mem_cons.mpr ⟨rfl, List.forall_mem_cons.mpr ⟨rfl, List.forall_mem_cons.mpr ⟨rfl, fun _ h => absurd h List.not_mem_nil⟩⟩⟩⟩) ?_
                  exact ih _ _ _ _ _ h
def f_Reader_readAfterThings (s : px_Z) (x1 : Int) : Option (px_Z) := l_Reader_readAfterThings_4  px_big s x1 1 0
set_option maxHeartbeats 4000000 in
set_option maxRecDepth 100000 in
theorem c_Reader_readAfterThings {sc : List Int} {d : Nat} {s : px_Z} {x1 : Int} {out : px_Z} (h : f_Reader_readAfterThings s x1 = some out) : px_D sc (d + 2) 61 0 [(0, .inr (.inr 121)), (1, .inl (x1))] [] (px_G1, s) (px_Qv out) := by
  unfold f_Reader_readAfterThings at h
  refine px_D_st 4 (ip1 := 4) (ls1 := [(3, .inl (0)), (2, .inl (1)), (0, .inr (.inr 121)), (1, .inl (x1))]) (st1 := []) (h1 := (px_G1, s)) rfl ?_
  refine px_D_ls [(0, .inr (.inr 121)), (1, .inl (x1)), (2, .inl (1)), (3, .inl (0))] rfl rfl (List.forall_mem_cons.mpr ⟨rfl, List.forall_mem_cons.mpr ⟨rfl, List.forall_mem_cons.mpr ⟨rfl, List.forall_mem_cons.mpr ⟨rfl, fun _ h => absurd h List.not_mem_nil⟩⟩⟩⟩) ?_
  refine cl_Reader_readAfterThings_4  px_big _ _ _ _ _ h
