def f_R_least (s : px_Z) (x1 : Int) : Option (Int × px_Z) := (f_Least_solve s (-1)).bind (fun q1 => if (f_Least_canBe q1 ) = (0) then some (((-1), q1)) else (if (x1) = (0) then some (q1 145 8, q1) else (if (x1) = (1) then some (f_Least_costOfWaiting q1 , q1) else (if (x1) < (10) then some (((-1), q1)) else (if (px_wr (x1 - 10)) ≤ (px_wr ((q1 6 4) - (q1 7 4))) then (f_Least_thingOfWeek q1 (px_wr (x1 - 10))).bind (fun q7 => some (q7, q1)) else some (((-1), q1)))))))
set_option maxHeartbeats 4000000 in
set_option maxRecDepth 100000 in
theorem c_R_least {sc : List Int} {d : Nat} {s : px_Z} {x1 : Int} {out : Int × px_Z} (h : f_R_least s x1 = some out) : px_D sc (d + 6) 121 0 [(0, .inr (.inr 5)), (1, .inl (x1))] [] (px_G1, s) (px_Qi out) := by
  unfold f_R_least at h
  refine px_D_st 3 (ip1 := 3) (ls1 := [(0, .inr (.inr 5)), (1, .inl (x1))]) (st1 := [.inl ((-1)), .inr (.inr 145)]) (h1 := (px_G1, s)) rfl ?_
  refine px_D_call (as := [.inr (.inr 145), .inl ((-1))]) (rest := []) rfl rfl rfl rfl ?_
  obtain ⟨q1, hq1, h⟩ := Option.bind_eq_some_iff.mp h
  refine px_D_mono (c_Least_solve (d := d + 0) hq1) ?_
  rintro _ _ ⟨rfl, rfl⟩
  show px_D sc (d + 6) 121 4 [(0, .inr (.inr 5)), (1, .inl (x1))] [] (px_G1, q1) _
  refine px_D_st 2 (ip1 := 6) (ls1 := [(0, .inr (.inr 5)), (1, .inl (x1))]) (st1 := [.inr (.inr 145)]) (h1 := (px_G1, q1)) rfl ?_
  refine px_D_call (as := [.inr (.inr 145)]) (rest := []) rfl rfl rfl rfl ?_
  refine px_D_mono (c_Least_canBe (d := d + 5) rfl) ?_
  rintro _ _ ⟨rfl, rfl⟩
  show px_D sc (d + 6) 121 7 [(0, .inr (.inr 5)), (1, .inl (x1))] [.inl (f_Least_canBe q1 )] (px_G1, q1) _
  refine px_D_ifc rfl (fun hc => ?_) (fun hc => ?_)
  · have hc2 : ¬ ((f_Least_canBe q1 ) = (0)) := of_decide_eq_true hc
    rw [if_neg hc2] at h
    refine px_D_st 1 (ip1 := 11) (ls1 := [(0, .inr (.inr 5)), (1, .inl (x1))]) (st1 := [.inl (x1)]) (h1 := (px_G1, q1)) rfl ?_
    refine px_D_ifc rfl (fun hc => ?_) (fun hc => ?_)
    · have hc3 : ¬ ((x1) = (0)) := of_decide_eq_true hc
      rw [if_neg hc3] at h
      refine px_D_st 2 (ip1 := 18) (ls1 := [(0, .inr (.inr 5)), (1, .inl (x1))]) (st1 := [.inl (1), .inl (x1)]) (h1 := (px_G1, q1)) rfl ?_
      refine px_D_icmp rfl (fun hc => ?_) (fun hc => ?_)
      · have hc4 : ¬ ((x1) = (1)) := of_decide_eq_true hc
        rw [if_neg hc4] at h
        refine px_D_st 2 (ip1 := 25) (ls1 := [(0, .inr (.inr 5)), (1, .inl (x1))]) (st1 := [.inl (10), .inl (x1)]) (h1 := (px_G1, q1)) rfl ?_
        refine px_D_icmp rfl (fun hc => ?_) (fun hc => ?_)
        · have hc5 : (x1) < (10) := of_decide_eq_true hc
          rw [if_pos hc5] at h
          refine px_D_st 1 (ip1 := 39) (ls1 := [(0, .inr (.inr 5)), (1, .inl (x1))]) (st1 := [.inl ((-1))]) (h1 := (px_G1, q1)) rfl ?_
          cases h
          exact px_D_iret rfl rfl ⟨rfl, rfl⟩
        · have hc5 : ¬ ((x1) < (10)) := of_decide_eq_false hc
          rw [if_neg hc5] at h
          refine px_D_st 11 (ip1 := 37) (ls1 := [(0, .inr (.inr 5)), (1, .inl (x1))]) (st1 := [.inl (px_wr ((q1 6 4) - (q1 7 4))), .inl (px_wr (x1 - 10))]) (h1 := (px_G1, q1)) rfl ?_
          refine px_D_icmp rfl (fun hc => ?_) (fun hc => ?_)
          · have hc6 : (px_wr (x1 - 10)) ≤ (px_wr ((q1 6 4) - (q1 7 4))) := of_decide_eq_true hc
            rw [if_pos hc6] at h
            refine px_D_st 5 (ip1 := 45) (ls1 := [(0, .inr (.inr 5)), (1, .inl (x1))]) (st1 := [.inl (px_wr (x1 - 10)), .inr (.inr 145)]) (h1 := (px_G1, q1)) rfl ?_
            refine px_D_call (as := [.inr (.inr 145), .inl (px_wr (x1 - 10))]) (rest := []) rfl rfl rfl rfl ?_
            obtain ⟨q7, hq7, h⟩ := Option.bind_eq_some_iff.mp h
            refine px_D_mono (c_Least_thingOfWeek (d := d + 5) hq7) ?_
            rintro _ _ ⟨rfl, rfl⟩
            show px_D sc (d + 6) 121 46 [(0, .inr (.inr 5)), (1, .inl (x1))] [.inl (q7)] (px_G1, q1) _
            cases h
            exact px_D_iret rfl rfl ⟨rfl, rfl⟩
          · have hc6 : ¬ ((px_wr (x1 - 10)) ≤ (px_wr ((q1 6 4) - (q1 7 4)))) := of_decide_eq_false hc
            rw [if_neg hc6] at h
            refine px_D_st 1 (ip1 := 39) (ls1 := [(0, .inr (.inr 5)), (1, .inl (x1))]) (st1 := [.inl ((-1))]) (h1 := (px_G1, q1)) rfl ?_
            cases h
            exact px_D_iret rfl rfl ⟨rfl, rfl⟩
      · have hc4 : (x1) = (1) := Decidable.of_not_not (of_decide_eq_false hc)
        rw [if_pos hc4] at h
        refine px_D_st 2 (ip1 := 21) (ls1 := [(0, .inr (.inr 5)), (1, .inl (x1))]) (st1 := [.inr (.inr 145)]) (h1 := (px_G1, q1)) rfl ?_
        refine px_D_call (as := [.inr (.inr 145)]) (rest := []) rfl rfl rfl rfl ?_
        refine px_D_mono (c_Least_costOfWaiting (d := d + 5) rfl) ?_
        rintro _ _ ⟨rfl, rfl⟩
        show px_D sc (d + 6) 121 22 [(0, .inr (.inr 5)), (1, .inl (x1))] [.inl (f_Least_costOfWaiting q1 )] (px_G1, q1) _
        cases h
        exact px_D_iret rfl rfl ⟨rfl, rfl⟩
    · have hc3 : (x1) = (0) := Decidable.of_not_not (of_decide_eq_false hc)
      rw [if_pos hc3] at h
      refine px_D_st 3 (ip1 := 15) (ls1 := [(0, .inr (.inr 5)), (1, .inl (x1))]) (st1 := [.inl (q1 145 8)]) (h1 := (px_G1, q1)) rfl ?_
      cases h
      exact px_D_iret rfl rfl ⟨rfl, rfl⟩
  · have hc2 : (f_Least_canBe q1 ) = (0) := Decidable.of_not_not (of_decide_eq_false hc)
    rw [if_pos hc2] at h
    refine px_D_st 1 (ip1 := 9) (ls1 := [(0, .inr (.inr 5)), (1, .inl (x1))]) (st1 := [.inl ((-1))]) (h1 := (px_G1, q1)) rfl ?_
    cases h
    exact px_D_iret rfl rfl ⟨rfl, rfl⟩

def l_Orders_count_19 (k49 : px_Z → Int → Int → Option (Int × px_Z)) : Nat → px_Z → Int → Int → Int → Option (Int × px_Z)
  | 0, _, _, _, _ => none
  | n + 1, s, x2, x3, x4 => if (s 6 1) ≤ (x4) then k49 s x2 x3 else (if (px_and ((px_shr (x2) (x4))) (1)) = (0) then (f_World_isReady s x4 x2).bind (fun q5 => if (q5) = (0) then l_Orders_count_19 k49 n s x2 x3 (px_wr (x4 + 1)) else (if 0 ≤ (px_or (x2) ((px_shl (1) (x4)))) ∧ (px_or (x2) ((px_shl (1) (x4)))) < 256 then l_Orders_count_19 k49 n s x2 (px_wr (x3 + (s 144 (px_or (x2) ((px_shl (1) (x4)))).toNat))) (px_wr (x4 + 1)) else none)) else l_Orders_count_19 k49 n s x2 x3 (px_wr (x4 + 1)))
set_option maxHeartbeats 4000000 in
set_option maxRecDepth 100000 in
theorem cl_Orders_count_19 {sc : List Int} {d : Nat} {k49 : px_Z → Int → Int → Option (Int × px_Z)}  (hk49 : ∀ (s : px_Z) (y2 : Int) (y3 : Int) (out : Int × px_Z), k49 s y2 y3 = some out → px_D sc (d + 2) 32 49 [(0, .inr (.inr 143)), (2, .inl (y2)), (3, .inl (y3))] [] (px_G1, s) (px_Qi out)) : ∀ (n : Nat) (s : px_Z) (x2 : Int) (x3 : Int) (x4 : Int) (out : Int × px_Z), l_Orders_count_19 k49 n s x2 x3 x4 = some out → px_D sc (d + 2) 32 19 [(0, .inr (.inr 143)), (2, .inl (x2)), (3, .inl (x3)), (4, .inl (x4))] [] (px_G1, s) (px_Qi out) := by
  intro n
  induction n with
  | zero => intro s x2 x3 x4 out h; cases h
  | succ n ih =>
    intro s x2 x3 x4 out h
    rw [l_Orders_count_19] at h
    refine px_D_st 4 (ip1 := 23) (ls1 := [(0, .inr (.inr 143)), (2, .inl (x2)), (3, .inl (x3)), (4, .inl (x4))]) (st1 := [.inl (s 6 1), .inl (x4)]) (h1 := (px_G1, s)) rfl ?_
    refine px_D_icmp rfl (fun hc => ?_) (fun hc => ?_)
    · have hc3 : (s 6 1) ≤ (x4) := of_decide_eq_true hc
      rw [if_pos hc3] at h
      refine px_D_ls [(0, .inr (.inr 143)), (2, .inl (x2)), (3, .inl (x3))] rfl rfl (List.forall_mem_cons.mpr ⟨rfl, List.forall_mem_cons.mpr ⟨rfl, List.forall_mem_cons.mpr ⟨rfl, fun _ h => absurd h List.not_mem_nil⟩⟩⟩) ?_
      exact hk49 _ _ _ _ h
    · have hc3 : ¬ ((s 6 1) ≤ (x4)) := of_decide_eq_false hc
      rw [if_neg hc3] at h
      refine px_D_st 5 (ip1 := 29) (ls1 := [(0, .inr (.inr 143)), (2, .inl (x2)), (3, .inl (x3)), (4, .inl (x4))]) (st1 := [.inl (px_and ((px_shr (x2) (x4))) (1))]) (h1 := (px_G1, s)) rfl ?_
      refine px_D_ifc rfl (fun hc => ?_) (fun hc => ?_)
      · have hc4 : ¬ ((px_and ((px_shr (x2) (x4))) (1)) = (0)) := of_decide_eq_true hc
        rw [if_neg hc4] at h
        refine px_D_st 2 (ip1 := 19) (ls1 := [(4, .inl (px_wr (x4 + 1))), (0, .inr (.inr 143)), (2, .inl (x2)), (3, .inl (x3))]) (st1 := []) (h1 := (px_G1, s)) rfl ?_
        refine px_D_ls [(0, .inr (.inr 143)), (2, .inl (x2)), (3, .inl (x3)), (4, .inl (px_wr (x4 + 1)))] rfl rfl (List.forall_mem_cons.mpr ⟨rfl, List.forall_mem_cons.mpr ⟨rfl, List.forall_mem_cons.mpr ⟨rfl, List.forall_mem_cons.mpr ⟨rfl, fun _ h => absurd h List.not_mem_nil⟩⟩⟩⟩) ?_
        exact ih _ _ _ _ _ h
      · have hc4 : (px_and ((px_shr (x2) (x4))) (1)) = (0) := Decidable.of_not_not (of_decide_eq_false hc)
        rw [if_pos hc4] at h
        refine px_D_st 4 (ip1 := 34) (ls1 := [(0, .inr (.inr 143)), (2, .inl (x2)), (3, .inl (x3)), (4, .inl (x4))]) (st1 := [.inl (x2), .inl (x4), .inr (.inr 6)]) (h1 := (px_G1, s)) rfl ?_
        refine px_D_call (as := [.inr (.inr 6), .inl (x4), .inl (x2)]) (rest := []) rfl rfl rfl rfl ?_
        obtain ⟨q5, hq5, h⟩ := Option.bind_eq_some_iff.mp h
        refine px_D_mono (c_World_isReady (d := d + 0) hq5) ?_
        rintro _ _ ⟨rfl, rfl⟩
        show px_D sc (d + 2) 32 35 [(0, .inr (.inr 143)), (2, .inl (x2)), (3, .inl (x3)), (4, .inl (x4))] [.inl (q5)] (px_G1, s) _
        refine px_D_ifc rfl (fun hc => ?_) (fun hc => ?_)
        · have hc6 : (q5) = (0) := of_decide_eq_true hc
          rw [if_pos hc6] at h
          refine px_D_st 2 (ip1 := 19) (ls1 := [(4, .inl (px_wr (x4 + 1))), (0, .inr (.inr 143)), (2, .inl (x2)), (3, .inl (x3))]) (st1 := []) (h1 := (px_G1, s)) rfl ?_
          refine px_D_ls [(0, .inr (.inr 143)), (2, .inl (x2)), (3, .inl (x3)), (4, .inl (px_wr (x4 + 1)))] rfl rfl (List.forall_mem_cons.mpr ⟨rfl, List.forall_mem_cons.mpr ⟨rfl, List.forall_mem_cons.mpr ⟨rfl, List.forall_mem_cons.mpr ⟨rfl, fun _ h => absurd h List.not_mem_nil⟩⟩⟩⟩) ?_
          exact ih _ _ _ _ _ h
        · have hc6 : ¬ ((q5) = (0)) := of_decide_eq_false hc
          rw [if_neg hc6] at h
          refine px_D_st 8 (ip1 := 44) (ls1 := [(0, .inr (.inr 143)), (2, .inl (x2)), (3, .inl (x3)), (4, .inl (x4))]) (st1 := [.inl (px_or (x2) ((px_shl (1) (x4)))), .inr (.inr 144), .inl (x3)]) (h1 := (px_G1, s)) rfl ?_
          by_cases hc7 : 0 ≤ (px_or (x2) ((px_shl (1) (x4)))) ∧ (px_or (x2) ((px_shl (1) (x4)))) < 256
          case neg => rw [if_neg hc7] at h; cases h
          rw [if_pos hc7] at h
          refine px_D_iald (k := 139) (n := 256) rfl rfl hc7 ?_
          refine px_D_st 4 (ip1 := 19) (ls1 := [(4, .inl (px_wr (x4 + 1))), (3, .inl (px_wr (x3 + (s 144 (px_or (x2) ((px_shl (1) (x4)))).toNat)))), (0, .inr (.inr 143)), (2, .inl (x2))]) (st1 := []) (h1 := (px_G1, s)) rfl ?_
          refine px_D_ls [(0, .inr (.inr 143)), (2, .inl (x2)), (3, .inl (px_wr (x3 + (s 144 (px_or (x2) ((px_shl (1) (x4)))).toNat)))), (4, .inl (px_wr (x4 + 1)))] rfl rfl (List.forall_mem_cons.mpr ⟨rfl, List.forall_mem_cons.mpr ⟨rfl, List.forall_mem_cons.mpr ⟨rfl, List.forall_mem_cons.mpr ⟨rfl, fun _ h => absurd h List.not_mem_nil⟩⟩⟩⟩) ?_
          exact ih _ _ _ _ _ h
def l_Orders_count_13 (k56 : px_Z → Option (Int × px_Z)) : Nat → px_Z → Int → Option (Int × px_Z)
  | 0, _, _ => none
  | n + 1, s, x2 => if (x2) < (0) then k56 s  else l_Orders_count_19 (fun s x2 x3 => if 0 ≤ (x2) ∧ (x2) < 256 then l_Orders_count_13 k56 n (px_up s 144 x2.toNat x3) (px_wr (x2 + (-1))) else none) px_big s x2 0 0
set_option maxHeartbeats 4000000 in
set_option maxRecDepth 100000 in
theorem cl_Orders_count_13 {sc : List Int} {d : Nat} {k56 : px_Z → Option (Int × px_Z)}  (hk56 : ∀ (s : px_Z) (out : Int × px_Z), k56 s  = some out → px_D sc (d + 2) 32 56 [(0, .inr (.inr 143))] [] (px_G1, s) (px_Qi out)) : ∀ (n : Nat) (s : px_Z) (x2 : Int) (out : Int × px_Z), l_Orders_count_13 k56 n s x2 = some out → px_D sc (d + 2) 32 13 [(0, .inr (.inr 143)), (2, .inl (x2))] [] (px_G1, s) (px_Qi out) := by
  intro n
  induction n with
  | zero => intro s x2 out h; cases h
  | succ n ih =>
    intro s x2 out h
    rw [l_Orders_count_13] at h
    refine px_D_st 1 (ip1 := 14) (ls1 := [(0, .inr (.inr 143)), (2, .inl (x2))]) (st1 := [.inl (x2)]) (h1 := (px_G1, s)) rfl ?_
    refine px_D_ifc rfl (fun hc => ?_) (fun hc => ?_)
    · have hc2 : (x2) < (0) := of_decide_eq_true hc
      rw [if_pos hc2] at h
      refine px_D_ls [(0, .inr (.inr 143))] rfl rfl (List.forall_mem_cons.mpr ⟨rfl, fun _ h => absurd h List.not_mem_nil⟩) ?_
      exact hk56 _ _ h
    · have hc2 : ¬ ((x2) < (0)) := of_decide_eq_false hc
      rw [if_neg hc2] at h
      refine px_D_st 4 (ip1 := 19) (ls1 := [(4, .inl (0)), (3, .inl (0)), (0, .inr (.inr 143)), (2, .inl (x2))]) (st1 := []) (h1 := (px_G1, s)) rfl ?_
      refine px_D_ls [(0, .inr (.inr 143)), (2, .inl (x2)), (3, .inl (0)), (4, .inl (0))] rfl rfl (List.forall_mem_cons.mpr ⟨rfl, List.forall_mem_cons.mpr ⟨rfl, List.forall_mem_cons.mpr ⟨rfl, List.forall_mem_cons.mpr ⟨rfl, fun _ h => absurd h List.not_mem_nil⟩⟩⟩⟩) ?_
      refine cl_Orders_count_19 ?_ px_big _ _ _ _ _ h
      · intro s x2 x3 out h
        refine px_D_st 4 (ip1 := 53) (ls1 := [(0, .inr (.inr 143)), (2, .inl (x2)), (3, .inl (x3))]) (st1 := [.inl (x3), .inl (x2), .inr (.inr 144)]) (h1 := (px_G1, s)) rfl ?_
        by_cases hc8 : 0 ≤ (x2) ∧ (x2) < 256
        case neg => rw [if_neg hc8] at h; cases h
        rw [if_pos hc8] at h
        refine px_D_iast (k := 139) (n := 256) rfl rfl hc8 ?_
        refine px_D_st 2 (ip1 := 13) (ls1 := [(2, .inl (px_wr (x2 + (-1)))), (0, .inr (.inr 143)), (3, .inl (x3))]) (st1 := []) (h1 := (px_G1, px_up s 144 x2.toNat x3)) rfl ?_
        refine px_D_ls [(0, .inr (.inr 143)), (2, .inl (px_wr (x2 + (-1))))] rfl rfl (List.forall_mem_cons.mpr ⟨rfl, List.forall_mem_cons.mpr ⟨rfl, fun _ h => absurd h List.not_mem_nil⟩⟩) ?_
        exact ih _ _ _ h
def f_Orders_count (s : px_Z) : Option (Int × px_Z) := if 0 ≤ (f_World_all s ) ∧ (f_World_all s ) < 256 then l_Orders_count_13 (fun s => (f_World_homeSet s ).bind (fun q9 => if 0 ≤ (q9) ∧ (q9) < 256 then some (s 144 q9.toNat, s) else none)) px_big (px_up s 144 (f_World_all s ).toNat 1) (px_wr ((f_World_all s ) - 1)) else none
set_option maxHeartbeats 4000000 in
set_option maxRecDepth 100000 in
theorem c_Orders_count {sc : List Int} {d : Nat} {s : px_Z} {out : Int × px_Z} (h : f_Orders_count s  = some out) : px_D sc (d + 2) 32 0 [(0, .inr (.inr 143))] [] (px_G1, s) (px_Qi out) := by
  unfold f_Orders_count at h
  refine px_D_st 2 (ip1 := 2) (ls1 := [(0, .inr (.inr 143))]) (st1 := [.inr (.inr 6)]) (h1 := (px_G1, s)) rfl ?_
  refine px_D_call (as := [.inr (.inr 6)]) (rest := []) rfl rfl rfl rfl ?_
  refine px_D_mono (c_World_all (d := d + 1) rfl) ?_
  rintro _ _ ⟨rfl, rfl⟩
  show px_D sc (d + 2) 32 3 [(0, .inr (.inr 143))] [.inl (f_World_all s )] (px_G1, s) _
  refine px_D_st 5 (ip1 := 8) (ls1 := [(1, .inl (f_World_all s )), (0, .inr (.inr 143))]) (st1 := [.inl (1), .inl (f_World_all s ), .inr (.inr 144)]) (h1 := (px_G1, s)) rfl ?_
  by_cases hc1 : 0 ≤ (f_World_all s ) ∧ (f_World_all s ) < 256
  case neg => rw [if_neg hc1] at h; cases h
  rw [if_pos hc1] at h
  refine px_D_iast (k := 139) (n := 256) rfl rfl hc1 ?_
  refine px_D_st 4 (ip1 := 13) (ls1 := [(2, .inl (px_wr ((f_World_all s ) - 1))), (1, .inl (f_World_all s )), (0, .inr (.inr 143))]) (st1 := []) (h1 := (px_G1, px_up s 144 (f_World_all s ).toNat 1)) rfl ?_
  refine px_D_ls [(0, .inr (.inr 143)), (2, .inl (px_wr ((f_World_all s ) - 1)))] rfl rfl (List.forall_mem_cons.mpr ⟨rfl, List.forall_mem_cons.mpr ⟨rfl, fun _ h => absurd h List.not_mem_nil⟩⟩) ?_
  refine cl_Orders_count_13 ?_ px_big _ _ _ h
  · intro s out h
    refine px_D_st 4 (ip1 := 60) (ls1 := [(0, .inr (.inr 143))]) (st1 := [.inr (.inr 6), .inr (.inr 144)]) (h1 := (px_G1, s)) rfl ?_
    refine px_D_call (as := [.inr (.inr 6)]) (rest := [.inr (.inr 144)]) rfl rfl rfl rfl ?_
    obtain ⟨q9, hq9, h⟩ := Option.bind_eq_some_iff.mp h
    refine px_D_mono (c_World_homeSet (d := d + 1) hq9) ?_
    rintro _ _ ⟨rfl, rfl⟩
    show px_D sc (d + 2) 32 61 [(0, .inr (.inr 143))] [.inl (q9), .inr (.inr 144)] (px_G1, s) _
    by_cases hc10 : 0 ≤ (q9) ∧ (q9) < 256
    case neg => rw [if_neg hc10] at h; cases h
    rw [if_pos hc10] at h
    refine px_D_iald (k := 139) (n := 256) rfl rfl hc10 ?_
    cases h
    exact px_D_iret rfl rfl ⟨rfl, rfl⟩

def l_Orders_thingAt_18 (s : px_Z) (k51 : Int → Int → Int → Int → Option (Int)) : Nat → Int → Int → Int → Int → Int → Option (Int)
  | 0, _, _, _, _, _ => none
  | n + 1, x1, x2, x3, x4, x5 => if (s 6 1) ≤ (x5) then k51 x1 x2 x3 x4 else (if (x3) = ((-1)) then (if (px_and ((px_shr (x2) (x5))) (1)) = (0) then (f_World_isReady s x5 x2).bind (fun q7 => if (q7) = (0) then l_Orders_thingAt_18 s k51 n x1 x2 x3 x4 (px_wr (x5 + 1)) else (if 0 ≤ (px_or (x2) ((px_shl (1) (x5)))) ∧ (px_or (x2) ((px_shl (1) (x5)))) < 256 then if (s 144 (px_or (x2) ((px_shl (1) (x5)))).toNat) ≤ (0) then l_Orders_thingAt_18 s k51 n x1 x2 x3 x4 (px_wr (x5 + 1)) else l_Orders_thingAt_18 s k51 n x1 x2 x5 x4 (px_wr (x5 + 1)) else none)) else l_Orders_thingAt_18 s k51 n x1 x2 x3 x4 (px_wr (x5 + 1))) else k51 x1 x2 x3 x4)
set_option maxHeartbeats 4000000 in
set_option maxRecDepth 100000 in
theorem cl_Orders_thingAt_18 {sc : List Int} {d : Nat} {s : px_Z} {k51 : Int → Int → Int → Int → Option (Int)}  (hk51 : ∀ (y1 : Int) (y2 : Int) (y3 : Int) (y4 : Int) (out : Int), k51 y1 y2 y3 y4 = some out → px_D sc (d + 2) 33 51 [(0, .inr (.inr 143)), (1, .inl (y1)), (2, .inl (y2)), (3, .inl (y3)), (4, .inl (y4))] [] (px_G1, s) (px_Qp s out)) : ∀ (n : Nat) (x1 : Int) (x2 : Int) (x3 : Int) (x4 : Int) (x5 : Int) (out : Int), l_Orders_thingAt_18 s k51 n x1 x2 x3 x4 x5 = some out → px_D sc (d + 2) 33 18 [(0, .inr (.inr 143)), (1, .inl (x1)), (2, .inl (x2)), (3, .inl (x3)), (4, .inl (x4)), (5, .inl (x5))] [] (px_G1, s) (px_Qp s out) := by
  intro n
  induction n with
  | zero => intro x1 x2 x3 x4 x5 out h; cases h
  | succ n ih =>
    intro x1 x2 x3 x4 x5 out h
    rw [l_Orders_thingAt_18] at h
    refine px_D_st 4 (ip1 := 22) (ls1 := [(0, .inr (.inr 143)), (1, .inl (x1)), (2, .inl (x2)), (3, .inl (x3)), (4, .inl (x4)), (5, .inl (x5))]) (st1 := [.inl (s 6 1), .inl (x5)]) (h1 := (px_G1, s)) rfl ?_
    refine px_D_icmp rfl (fun hc => ?_) (fun hc => ?_)
    · have hc4 : (s 6 1) ≤ (x5) := of_decide_eq_true hc
      rw [if_pos hc4] at h
      refine px_D_ls [(0, .inr (.inr 143)), (1, .inl (x1)), (2, .inl (x2)), (3, .inl (x3)), (4, .inl (x4))] rfl rfl (List.forall_mem_cons.mpr ⟨rfl, List.forall_mem_cons.mpr ⟨rfl, List.forall_mem_cons.mpr ⟨rfl, List.forall_mem_cons.mpr ⟨rfl, List.forall_mem_cons.mpr ⟨rfl, fun _ h => absurd h List.not_mem_nil⟩⟩⟩⟩⟩) ?_
      exact hk51 _ _ _ _ _ h
    · have hc4 : ¬ ((s 6 1) ≤ (x5)) := of_decide_eq_false hc
      rw [if_neg hc4] at h
      refine px_D_st 2 (ip1 := 25) (ls1 := [(0, .inr (.inr 143)), (1, .inl (x1)), (2, .inl (x2)), (3, .inl (x3)), (4, .inl (x4)), (5, .inl (x5))]) (st1 := [.inl ((-1)), .inl (x3)]) (h1 := (px_G1, s)) rfl ?_
      refine px_D_icmp rfl (fun hc => ?_) (fun hc => ?_)
      · have hc5 : ¬ ((x3) = ((-1))) := of_decide_eq_true hc
        rw [if_neg hc5] at h
        refine px_D_ls [(0, .inr (.inr 143)), (1, .inl (x1)), (2, .inl (x2)), (3, .inl (x3)), (4, .inl (x4))] rfl rfl (List.forall_mem_cons.mpr ⟨rfl, List.forall_mem_cons.mpr ⟨rfl, List.forall_mem_cons.mpr ⟨rfl, List.forall_mem_cons.mpr ⟨rfl, List.forall_mem_cons.mpr ⟨rfl, fun _ h => absurd h List.not_mem_nil⟩⟩⟩⟩⟩) ?_
        exact hk51 _ _ _ _ _ h
      · have hc5 : (x3) = ((-1)) := Decidable.of_not_not (of_decide_eq_false hc)
        rw [if_pos hc5] at h
        refine px_D_st 5 (ip1 := 31) (ls1 := [(0, .inr (.inr 143)), (1, .inl (x1)), (2, .inl (x2)), (3, .inl (x3)), (4, .inl (x4)), (5, .inl (x5))]) (st1 := [.inl (px_and ((px_shr (x2) (x5))) (1))]) (h1 := (px_G1, s)) rfl ?_
        refine px_D_ifc rfl (fun hc => ?_) (fun hc => ?_)
        · have hc6 : ¬ ((px_and ((px_shr (x2) (x5))) (1)) = (0)) := of_decide_eq_true hc
          rw [if_neg hc6] at h
          refine px_D_st 2 (ip1 := 18) (ls1 := [(5, .inl (px_wr (x5 + 1))), (0, .inr (.inr 143)), (1, .inl (x1)), (2, .inl (x2)), (3, .inl (x3)), (4, .inl (x4))]) (st1 := []) (h1 := (px_G1, s)) rfl ?_
          refine px_D_ls [(0, .inr (.inr 143)), (1, .inl (x1)), (2, .inl (x2)), (3, .inl (x3)), (4, .inl (x4)), (5, .inl (px_wr (x5 + 1)))] rfl rfl (List.forall_mem_cons.mpr ⟨rfl, List.forall_mem_cons.mpr ⟨rfl, List.forall_mem_cons.mpr ⟨rfl, List.forall_mem_cons.mpr ⟨rfl, List.forall_mem_cons.mpr ⟨rfl, List.forall_mem_cons.mpr ⟨rfl, fun _ h => absurd h List.not_mem_nil⟩⟩⟩⟩⟩⟩) ?_
          exact ih _ _ _ _ _ _ h
        · have hc6 : (px_and ((px_shr (x2) (x5))) (1)) = (0) := Decidable.of_not_not (of_decide_eq_false hc)
          rw [if_pos hc6] at h
          refine px_D_st 4 (ip1 := 36) (ls1 := [(0, .inr (.inr 143)), (1, .inl (x1)), (2, .inl (x2)), (3, .inl (x3)), (4, .inl (x4)), (5, .inl (x5))]) (st1 := [.inl (x2), .inl (x5), .inr (.inr 6)]) (h1 := (px_G1, s)) rfl ?_
          refine px_D_call (as := [.inr (.inr 6), .inl (x5), .inl (x2)]) (rest := []) rfl rfl rfl rfl ?_
          obtain ⟨q7, hq7, h⟩ := Option.bind_eq_some_iff.mp h
          refine px_D_mono (c_World_isReady (d := d + 0) hq7) ?_
          rintro _ _ ⟨rfl, rfl⟩
          show px_D sc (d + 2) 33 37 [(0, .inr (.inr 143)), (1, .inl (x1)), (2, .inl (x2)), (3, .inl (x3)), (4, .inl (x4)), (5, .inl (x5))] [.inl (q7)] (px_G1, s) _
          refine px_D_ifc rfl (fun hc => ?_) (fun hc => ?_)
          · have hc8 : (q7) = (0) := of_decide_eq_true hc
            rw [if_pos hc8] at h
            refine px_D_st 2 (ip1 := 18) (ls1 := [(5, .inl (px_wr (x5 + 1))), (0, .inr (.inr 143)), (1, .inl (x1)), (2, .inl (x2)), (3, .inl (x3)), (4, .inl (x4))]) (st1 := []) (h1 := (px_G1, s)) rfl ?_
            refine px_D_ls [(0, .inr (.inr 143)), (1, .inl (x1)), (2, .inl (x2)), (3, .inl (x3)), (4, .inl (x4)), (5, .inl (px_wr (x5 + 1)))] rfl rfl (List.forall_mem_cons.mpr ⟨rfl, List.forall_mem_cons.mpr ⟨rfl, List.forall_mem_cons.mpr ⟨rfl, List.forall_mem_cons.mpr ⟨rfl, List.forall_mem_cons.mpr ⟨rfl, List.forall_mem_cons.mpr ⟨rfl, fun _ h => absurd h List.not_mem_nil⟩⟩⟩⟩⟩⟩) ?_
            exact ih _ _ _ _ _ _ h
          · have hc8 : ¬ ((q7) = (0)) := of_decide_eq_false hc
            rw [if_neg hc8] at h
            refine px_D_st 7 (ip1 := 45) (ls1 := [(0, .inr (.inr 143)), (1, .inl (x1)), (2, .inl (x2)), (3, .inl (x3)), (4, .inl (x4)), (5, .inl (x5))]) (st1 := [.inl (px_or (x2) ((px_shl (1) (x5)))), .inr (.inr 144)]) (h1 := (px_G1, s)) rfl ?_
            by_cases hc9 : 0 ≤ (px_or (x2) ((px_shl (1) (x5)))) ∧ (px_or (x2) ((px_shl (1) (x5)))) < 256
            case neg => rw [if_neg hc9] at h; cases h
            rw [if_pos hc9] at h
            refine px_D_iald (k := 139) (n := 256) rfl rfl hc9 ?_
            refine px_D_ifc rfl (fun hc => ?_) (fun hc => ?_)
            · have hc10 : (s 144 (px_or (x2) ((px_shl (1) (x5)))).toNat) ≤ (0) := of_decide_eq_true hc
              rw [if_pos hc10] at h
              refine px_D_st 2 (ip1 := 18) (ls1 := [(5, .inl (px_wr (x5 + 1))), (0, .inr (.inr 143)), (1, .inl (x1)), (2, .inl (x2)), (3, .inl (x3)), (4, .inl (x4))]) (st1 := []) (h1 := (px_G1, s)) rfl ?_
              refine px_D_ls [(0, .inr (.inr 143)), (1, .inl (x1)), (2, .inl (x2)), (3, .inl (x3)), (4, .inl (x4)), (5, .inl (px_wr (x5 + 1)))] rfl rfl (List.forall_mem_cons.mpr ⟨rfl, List.forall_mem_cons.mpr ⟨rfl, List.forall_mem_cons.mpr ⟨rfl, List.forall_mem_cons.mpr ⟨rfl, List.forall_mem_cons.mpr ⟨rfl, List.forall_mem_cons.mpr ⟨rfl, fun _ h => absurd h List.not_mem_nil⟩⟩⟩⟩⟩⟩) ?_
              exact ih _ _ _ _ _ _ h
            · have hc10 : ¬ ((s 144 (px_or (x2) ((px_shl (1) (x5)))).toNat) ≤ (0)) := of_decide_eq_false hc
              rw [if_neg hc10] at h
              refine px_D_st 4 (ip1 := 18) (ls1 := [(5, .inl (px_wr (x5 + 1))), (3, .inl (x5)), (0, .inr (.inr 143)), (1, .inl (x1)), (2, .inl (x2)), (4, .inl (x4))]) (st1 := []) (h1 := (px_G1, s)) rfl ?_
              refine px_D_ls [(0, .inr (.inr 143)), (1, .inl (x1)), (2, .inl (x2)), (3, .inl (x5)), (4, .inl (x4)), (5, .inl (px_wr (x5 + 1)))] rfl rfl (List.forall_mem_cons.mpr ⟨rfl, List.forall_mem_cons.mpr ⟨rfl, List.forall_mem_cons.mpr ⟨rfl, List.forall_mem_cons.mpr ⟨rfl, List.forall_mem_cons.mpr ⟨rfl, List.forall_mem_cons.mpr ⟨rfl, fun _ h => absurd h List.not_mem_nil⟩⟩⟩⟩⟩⟩) ?_
              exact ih _ _ _ _ _ _ h
def l_Orders_thingAt_8 (s : px_Z)  : Nat → Int → Int → Int → Int → Option (Int)
  | 0, _, _, _, _ => none
  | n + 1, x1, x2, x3, x4 => if (x1) < (x4) then some x3 else (if (8) < (x4) then some x3 else l_Orders_thingAt_18 s (fun x1 x2 x3 x4 => if (x3) = ((-1)) then l_Orders_thingAt_8 s  n x1 x2 x3 (px_wr (x4 + 1)) else l_Orders_thingAt_8 s  n x1 (px_or (x2) ((px_shl (1) (x3)))) x3 (px_wr (x4 + 1))) px_big x1 x2 (-1) x4 0)
set_option maxHeartbeats 4000000 in
set_option maxRecDepth 100000 in
theorem cl_Orders_thingAt_8 {sc : List Int} {d : Nat} {s : px_Z}  : ∀ (n : Nat) (x1 : Int) (x2 : Int) (x3 : Int) (x4 : Int) (out : Int), l_Orders_thingAt_8 s  n x1 x2 x3 x4 = some out → px_D sc (d + 2) 33 8 [(0, .inr (.inr 143)), (1, .inl (x1)), (2, .inl (x2)), (3, .inl (x3)), (4, .inl (x4))] [] (px_G1, s) (px_Qp s out) := by
  intro n
  induction n with
  | zero => intro x1 x2 x3 x4 out h; cases h
  | succ n ih =>
    intro x1 x2 x3 x4 out h
    rw [l_Orders_thingAt_8] at h
    refine px_D_st 2 (ip1 := 10) (ls1 := [(0, .inr (.inr 143)), (1, .inl (x1)), (2, .inl (x2)), (3, .inl (x3)), (4, .inl (x4))]) (st1 := [.inl (x1), .inl (x4)]) (h1 := (px_G1, s)) rfl ?_
    refine px_D_icmp rfl (fun hc => ?_) (fun hc => ?_)
    · have hc2 : (x1) < (x4) := of_decide_eq_true hc
      rw [if_pos hc2] at h
      refine px_D_st 1 (ip1 := 63) (ls1 := [(0, .inr (.inr 143)), (1, .inl (x1)), (2, .inl (x2)), (3, .inl (x3)), (4, .inl (x4))]) (st1 := [.inl (x3)]) (h1 := (px_G1, s)) rfl ?_
      cases h
      exact px_D_iret rfl rfl ⟨rfl, rfl⟩
    · have hc2 : ¬ ((x1) < (x4)) := of_decide_eq_false hc
      rw [if_neg hc2] at h
      refine px_D_st 2 (ip1 := 13) (ls1 := [(0, .inr (.inr 143)), (1, .inl (x1)), (2, .inl (x2)), (3, .inl (x3)), (4, .inl (x4))]) (st1 := [.inl (8), .inl (x4)]) (h1 := (px_G1, s)) rfl ?_
      refine px_D_icmp rfl (fun hc => ?_) (fun hc => ?_)
      · have hc3 : (8) < (x4) := of_decide_eq_true hc
        rw [if_pos hc3] at h
        refine px_D_st 1 (ip1 := 63) (ls1 := [(0, .inr (.inr 143)), (1, .inl (x1)), (2, .inl (x2)), (3, .inl (x3)), (4, .inl (x4))]) (st1 := [.inl (x3)]) (h1 := (px_G1, s)) rfl ?_
        cases h
        exact px_D_iret rfl rfl ⟨rfl, rfl⟩
      · have hc3 : ¬ ((8) < (x4)) := of_decide_eq_false hc
        rw [if_neg hc3] at h
        refine px_D_st 4 (ip1 := 18) (ls1 := [(5, .inl (0)), (3, .inl ((-1))), (0, .inr (.inr 143)), (1, .inl (x1)), (2, .inl (x2)), (4, .inl (x4))]) (st1 := []) (h1 := (px_G1, s)) rfl ?_
        refine px_D_ls [(0, .inr (.inr 143)), (1, .inl (x1)), (2, .inl (x2)), (3, .inl ((-1))), (4, .inl (x4)), (5, .inl (0))] rfl rfl (List.forall_mem_cons.mpr ⟨rfl, List.forall_mem_cons.mpr ⟨rfl, List.forall_mem_cons.mpr ⟨rfl, List.forall_mem_cons.mpr ⟨rfl, List.forall_mem_cons.mpr ⟨rfl, List.forall_mem_cons.mpr ⟨rfl, fun _ h => absurd h List.not_mem_nil⟩⟩⟩⟩⟩⟩) ?_
        refine cl_Orders_thingAt_18 ?_ px_big _ _ _ _ _ _ h
        · intro x1 x2 x3 x4 out h
          refine px_D_st 2 (ip1 := 53) (ls1 := [(0, .inr (.inr 143)), (1, .inl (x1)), (2, .inl (x2)), (3, .inl (x3)), (4, .inl (x4))]) (st1 := [.inl ((-1)), .inl (x3)]) (h1 := (px_G1, s)) rfl ?_
          refine px_D_icmp rfl (fun hc => ?_) (fun hc => ?_)
          · have hc11 : (x3) = ((-1)) := of_decide_eq_true hc
            rw [if_pos hc11] at h
            refine px_D_st 2 (ip1 := 8) (ls1 := [(4, .inl (px_wr (x4 + 1))), (0, .inr (.inr 143)), (1, .inl (x1)), (2, .inl (x2)), (3, .inl (x3))]) (st1 := []) (h1 := (px_G1, s)) rfl ?_
            refine px_D_ls [(0, .inr (.inr 143)), (1, .inl (x1)), (2, .inl (x2)), (3, .inl (x3)), (4, .inl (px_wr (x4 + 1)))] rfl rfl (List.forall_mem_cons.mpr ⟨rfl, List.forall_mem_cons.mpr ⟨rfl, List.forall_mem_cons.mpr ⟨rfl, List.forall_mem_cons.mpr ⟨rfl, List.forall_mem_cons.mpr ⟨rfl, fun _ h => absurd h List.not_mem_nil⟩⟩⟩⟩⟩) ?_
            exact ih _ _ _ _ _ h
          · have hc11 : ¬ ((x3) = ((-1))) := of_decide_eq_false hc
            rw [if_neg hc11] at h
            refine px_D_st 8 (ip1 := 8) (ls1 := [(4, .inl (px_wr (x4 + 1))), (2, .inl (px_or (x2) ((px_shl (1) (x3))))), (0, .inr (.inr 143)), (1, .inl (x1)), (3, .inl (x3))]) (st1 := []) (h1 := (px_G1, s)) rfl ?_
            refine px_D_ls [(0, .inr (.inr 143)), (1, .inl (x1)), (2, .inl (px_or (x2) ((px_shl (1) (x3))))), (3, .inl (x3)), (4, .inl (px_wr (x4 + 1)))] rfl rfl (List.forall_mem_cons.mpr ⟨rfl, List.forall_mem_cons.mpr ⟨rfl, List.forall_mem_cons.mpr ⟨rfl, List.forall_mem_cons.mpr ⟨rfl, List.forall_mem_cons.mpr ⟨rfl, fun _ h => absurd h List.not_mem_nil⟩⟩⟩⟩⟩) ?_
            exact ih _ _ _ _ _ h
def f_Orders_thingAt (s : px_Z) (x1 : Int) : Option (Int) := (f_World_homeSet s ).bind (fun q1 => l_Orders_thingAt_8 s  px_big x1 q1 (-1) 0)
set_option maxHeartbeats 4000000 in
set_option maxRecDepth 100000 in
theorem c_Orders_thingAt {sc : List Int} {d : Nat} {s : px_Z} {x1 : Int} {out : Int} (h : f_Orders_thingAt s x1 = some out) : px_D sc (d + 2) 33 0 [(0, .inr (.inr 143)), (1, .inl (x1))] [] (px_G1, s) (px_Qp s out) := by
  unfold f_Orders_thingAt at h
  refine px_D_st 2 (ip1 := 2) (ls1 := [(0, .inr (.inr 143)), (1, .inl (x1))]) (st1 := [.inr (.inr 6)]) (h1 := (px_G1, s)) rfl ?_
  refine px_D_call (as := [.inr (.inr 6)]) (rest := []) rfl rfl rfl rfl ?_
  obtain ⟨q1, hq1, h⟩ := Option.bind_eq_some_iff.mp h
  refine px_D_mono (c_World_homeSet (d := d + 1) hq1) ?_
  rintro _ _ ⟨rfl, rfl⟩
  show px_D sc (d + 2) 33 3 [(0, .inr (.inr 143)), (1, .inl (x1))] [.inl (q1)] (px_G1, s) _
  refine px_D_st 5 (ip1 := 8) (ls1 := [(4, .inl (0)), (3, .inl ((-1))), (2, .inl (q1)), (0, .inr (.inr 143)), (1, .inl (x1))]) (st1 := []) (h1 := (px_G1, s)) rfl ?_
  refine px_D_ls [(0, .inr (.inr 143)), (1, .inl (x1)), (2, .inl (q1)), (3, .inl ((-1))), (4, .inl (0))] rfl rfl (List.forall_mem_cons.mpr ⟨rfl, List.forall_mem_cons.mpr ⟨rfl, List.forall_mem_cons.mpr ⟨rfl, List.forall_mem_cons.mpr ⟨rfl, List.forall_mem_cons.mpr ⟨rfl, fun _ h => absurd h List.not_mem_nil⟩⟩⟩⟩⟩) ?_
  refine cl_Orders_thingAt_8  px_big _ _ _ _ _ h

def f_R_orders (s : px_Z) (x1 : Int) : Option (Int × px_Z) := (f_Orders_count s ).bind (fun q1 => if (x1) = (0) then some (q1.1, q1.2) else (if (x1) < (10) then some (((-1), q1.2)) else (if (q1.1) = (0) then some (((-1), q1.2)) else (f_Orders_thingAt q1.2 (px_wr (x1 - 10))).bind (fun q5 => some (q5, q1.2)))))
set_option maxHeartbeats 4000000 in
set_option maxRecDepth 100000 in
theorem c_R_orders {sc : List Int} {d : Nat} {s : px_Z} {x1 : Int} {out : Int × px_Z} (h : f_R_orders s x1 = some out) : px_D sc (d + 3) 122 0 [(0, .inr (.inr 5)), (1, .inl (x1))] [] (px_G1, s) (px_Qi out) := by
  unfold f_R_orders at h
  refine px_D_st 2 (ip1 := 2) (ls1 := [(0, .inr (.inr 5)), (1, .inl (x1))]) (st1 := [.inr (.inr 143)]) (h1 := (px_G1, s)) rfl ?_
  refine px_D_call (as := [.inr (.inr 143)]) (rest := []) rfl rfl rfl rfl ?_
  obtain ⟨q1, hq1, h⟩ := Option.bind_eq_some_iff.mp h
  refine px_D_mono (c_Orders_count (d := d + 0) hq1) ?_
  rintro _ _ ⟨rfl, rfl⟩
  show px_D sc (d + 3) 122 3 [(0, .inr (.inr 5)), (1, .inl (x1))] [.inl (q1.1)] (px_G1, q1.2) _
  refine px_D_st 2 (ip1 := 5) (ls1 := [(2, .inl (q1.1)), (0, .inr (.inr 5)), (1, .inl (x1))]) (st1 := [.inl (x1)]) (h1 := (px_G1, q1.2)) rfl ?_
  refine px_D_ifc rfl (fun hc => ?_) (fun hc => ?_)
  · have hc2 : ¬ ((x1) = (0)) := of_decide_eq_true hc
    rw [if_neg hc2] at h
    refine px_D_st 2 (ip1 := 10) (ls1 := [(2, .inl (q1.1)), (0, .inr (.inr 5)), (1, .inl (x1))]) (st1 := [.inl (10), .inl (x1)]) (h1 := (px_G1, q1.2)) rfl ?_
    refine px_D_icmp rfl (fun hc => ?_) (fun hc => ?_)
    · have hc3 : (x1) < (10) := of_decide_eq_true hc
      rw [if_pos hc3] at h
      refine px_D_st 2 (ip1 := 21) (ls1 := [(2, .inl (q1.1)), (0, .inr (.inr 5)), (1, .inl (x1))]) (st1 := [.inl ((-1))]) (h1 := (px_G1, q1.2)) rfl ?_
      cases h
      exact px_D_iret rfl rfl ⟨rfl, rfl⟩
    · have hc3 : ¬ ((x1) < (10)) := of_decide_eq_false hc
      rw [if_neg hc3] at h
      refine px_D_st 1 (ip1 := 12) (ls1 := [(2, .inl (q1.1)), (0, .inr (.inr 5)), (1, .inl (x1))]) (st1 := [.inl (q1.1)]) (h1 := (px_G1, q1.2)) rfl ?_
      refine px_D_ifc rfl (fun hc => ?_) (fun hc => ?_)
      · have hc4 : ¬ ((q1.1) = (0)) := of_decide_eq_true hc
        rw [if_neg hc4] at h
        refine px_D_st 5 (ip1 := 20) (ls1 := [(2, .inl (q1.1)), (0, .inr (.inr 5)), (1, .inl (x1))]) (st1 := [.inl (px_wr (x1 - 10)), .inr (.inr 143)]) (h1 := (px_G1, q1.2)) rfl ?_
        refine px_D_call (as := [.inr (.inr 143), .inl (px_wr (x1 - 10))]) (rest := []) rfl rfl rfl rfl ?_
        obtain ⟨q5, hq5, h⟩ := Option.bind_eq_some_iff.mp h
        refine px_D_mono (c_Orders_thingAt (d := d + 0) hq5) ?_
        rintro _ _ ⟨rfl, rfl⟩
        show px_D sc (d + 3) 122 21 [(2, .inl (q1.1)), (0, .inr (.inr 5)), (1, .inl (x1))] [.inl (q5)] (px_G1, q1.2) _
        cases h
        exact px_D_iret rfl rfl ⟨rfl, rfl⟩
      · have hc4 : (q1.1) = (0) := Decidable.of_not_not (of_decide_eq_false hc)
        rw [if_pos hc4] at h
        refine px_D_st 2 (ip1 := 21) (ls1 := [(2, .inl (q1.1)), (0, .inr (.inr 5)), (1, .inl (x1))]) (st1 := [.inl ((-1))]) (h1 := (px_G1, q1.2)) rfl ?_
        cases h
        exact px_D_iret rfl rfl ⟨rfl, rfl⟩
  · have hc2 : (x1) = (0) := Decidable.of_not_not (of_decide_eq_false hc)
    rw [if_pos hc2] at h
    refine px_D_st 1 (ip1 := 7) (ls1 := [(2, .inl (q1.1)), (0, .inr (.inr 5)), (1, .inl (x1))]) (st1 := [.inl (q1.1)]) (h1 := (px_G1, q1.2)) rfl ?_
    cases h
    exact px_D_iret rfl rfl ⟨rfl, rfl⟩

def l_Hills_hasMud_2 (s : px_Z)  : Nat → Int → Int → Int → Option (Int)
  | 0, _, _, _ => none
  | n + 1, x1, x2, x3 => if (6) ≤ (x3) then some 0 else (f_Hills_mudIn s x3 x1).bind (fun q2 => if (q2) = (x2) then some 1 else l_Hills_hasMud_2 s  n x1 x2 (px_wr (x3 + 1)))
set_option maxHeartbeats 4000000 in
set_option maxRecDepth 100000 in
theorem cl_Hills_hasMud_2 {sc : List Int} {d : Nat} {s : px_Z}  : ∀ (n : Nat) (x1 : Int) (x2 : Int) (x3 : Int) (out : Int), l_Hills_hasMud_2 s  n x1 x2 x3 = some out → px_D sc (d + 2) 9 2 [(0, .inr (.inr 28)), (1, .inl (x1)), (2, .inl (x2)), (3, .inl (x3))] [] (px_G1, s) (px_Qp s out) := by
  intro n
  induction n with
  | zero => intro x1 x2 x3 out h; cases h
  | succ n ih =>
    intro x1 x2 x3 out h
    rw [l_Hills_hasMud_2] at h
    refine px_D_st 2 (ip1 := 4) (ls1 := [(0, .inr (.inr 28)), (1, .inl (x1)), (2, .inl (x2)), (3, .inl (x3))]) (st1 := [.inl (6), .inl (x3)]) (h1 := (px_G1, s)) rfl ?_
    refine px_D_icmp rfl (fun hc => ?_) (fun hc => ?_)
    · have hc1 : (6) ≤ (x3) := of_decide_eq_true hc
      rw [if_pos hc1] at h
      refine px_D_st 1 (ip1 := 16) (ls1 := [(0, .inr (.inr 28)), (1, .inl (x1)), (2, .inl (x2)), (3, .inl (x3))]) (st1 := [.inl (0)]) (h1 := (px_G1, s)) rfl ?_
      cases h
      exact px_D_iret rfl rfl ⟨rfl, rfl⟩
    · have hc1 : ¬ ((6) ≤ (x3)) := of_decide_eq_false hc
      rw [if_neg hc1] at h
      refine px_D_st 3 (ip1 := 8) (ls1 := [(0, .inr (.inr 28)), (1, .inl (x1)), (2, .inl (x2)), (3, .inl (x3))]) (st1 := [.inl (x1), .inl (x3), .inr (.inr 28)]) (h1 := (px_G1, s)) rfl ?_
      refine px_D_call (as := [.inr (.inr 28), .inl (x3), .inl (x1)]) (rest := []) rfl rfl rfl rfl ?_
      obtain ⟨q2, hq2, h⟩ := Option.bind_eq_some_iff.mp h
      refine px_D_mono (c_Hills_mudIn (d := d + 0) hq2) ?_
      rintro _ _ ⟨rfl, rfl⟩
      show px_D sc (d + 2) 9 9 [(0, .inr (.inr 28)), (1, .inl (x1)), (2, .inl (x2)), (3, .inl (x3))] [.inl (q2)] (px_G1, s) _
      refine px_D_st 1 (ip1 := 10) (ls1 := [(0, .inr (.inr 28)), (1, .inl (x1)), (2, .inl (x2)), (3, .inl (x3))]) (st1 := [.inl (x2), .inl (q2)]) (h1 := (px_G1, s)) rfl ?_
      refine px_D_icmp rfl (fun hc => ?_) (fun hc => ?_)
      · have hc3 : ¬ ((q2) = (x2)) := of_decide_eq_true hc
        rw [if_neg hc3] at h
        refine px_D_st 2 (ip1 := 2) (ls1 := [(3, .inl (px_wr (x3 + 1))), (0, .inr (.inr 28)), (1, .inl (x1)), (2, .inl (x2))]) (st1 := []) (h1 := (px_G1, s)) rfl ?_
        refine px_D_ls [(0, .inr (.inr 28)), (1, .inl (x1)), (2, .inl (x2)), (3, .inl (px_wr (x3 + 1)))] rfl rfl (List.forall_mem_cons.mpr ⟨rfl, List.forall_mem_cons.mpr ⟨rfl, List.forall_mem_cons.mpr ⟨rfl, List.forall_mem_cons.mpr ⟨rfl, fun _ h => absurd h List.not_mem_nil⟩⟩⟩⟩) ?_
        exact ih _ _ _ _ h
      · have hc3 : (q2) = (x2) := Decidable.of_not_not (of_decide_eq_false hc)
        rw [if_pos hc3] at h
        refine px_D_st 1 (ip1 := 12) (ls1 := [(0, .inr (.inr 28)), (1, .inl (x1)), (2, .inl (x2)), (3, .inl (x3))]) (st1 := [.inl (1)]) (h1 := (px_G1, s)) rfl ?_
        cases h
        exact px_D_iret rfl rfl ⟨rfl, rfl⟩
def f_Hills_hasMud (s : px_Z) (x1 : Int) (x2 : Int) : Option (Int) := l_Hills_hasMud_2 s  px_big x1 x2 0
set_option maxHeartbeats 4000000 in
set_option maxRecDepth 100000 in
theorem c_Hills_hasMud {sc : List Int} {d : Nat} {s : px_Z} {x1 : Int} {x2 : Int} {out : Int} (h : f_Hills_hasMud s x1 x2 = some out) : px_D sc (d + 2) 9 0 [(0, .inr (.inr 28)), (1, .inl (x1)), (2, .inl (x2))] [] (px_G1, s) (px_Qp s out) := by
  unfold f_Hills_hasMud at h
  refine px_D_st 2 (ip1 := 2) (ls1 := [(3, .inl (0)), (0, .inr (.inr 28)), (1, .inl (x1)), (2, .inl (x2))]) (st1 := []) (h1 := (px_G1, s)) rfl ?_
  refine px_D_ls [(0, .inr (.inr 28)), (1, .inl (x1)), (2, .inl (x2)), (3, .inl (0))] rfl rfl (List.forall_mem_cons.mpr ⟨rfl, List.forall_mem_cons.mpr ⟨rfl, List.forall_mem_cons.mpr ⟨rfl, List.forall_mem_cons.mpr ⟨rfl, fun _ h => absurd h List.not_mem_nil⟩⟩⟩⟩) ?_
  refine cl_Hills_hasMud_2  px_big _ _ _ _ h

def l_R_fits_25 (s : px_Z)  : Nat → Int → Int → Int → Int → Option (Int)
  | 0, _, _, _, _ => none
  | n + 1, x1, x2, x5, x6 => if (s 6 1) ≤ (x6) then some x5 else (if 0 ≤ (x6) ∧ (x6) < 8 then if (s 9 x6.toNat) = (1) then l_R_fits_25 s  n x1 x2 x5 (px_wr (x6 + 1)) else (if 0 ≤ (x6) ∧ (x6) < 8 then if (f_R_within s (s 8 x6.toNat) x1 x2) = (0) then l_R_fits_25 s  n x1 x2 x5 (px_wr (x6 + 1)) else l_R_fits_25 s  n x1 x2 (px_or (x5) ((px_shl (1) (x6)))) (px_wr (x6 + 1)) else none) else none)
set_option maxHeartbeats 4000000 in
set_option maxRecDepth 100000 in
theorem cl_R_fits_25 {sc : List Int} {d : Nat} {s : px_Z}  : ∀ (n : Nat) (x1 : Int) (x2 : Int) (x5 : Int) (x6 : Int) (out : Int), l_R_fits_25 s  n x1 x2 x5 x6 = some out → px_D sc (d + 3) 123 25 [(0, .inr (.inr 5)), (1, .inl (x1)), (2, .inl (x2)), (5, .inl (x5)), (6, .inl (x6))] [] (px_G1, s) (px_Qp s out) := by
  intro n
  induction n with
  | zero => intro x1 x2 x5 x6 out h; cases h
  | succ n ih =>
    intro x1 x2 x5 x6 out h
    rw [l_R_fits_25] at h
    refine px_D_st 4 (ip1 := 29) (ls1 := [(0, .inr (.inr 5)), (1, .inl (x1)), (2, .inl (x2)), (5, .inl (x5)), (6, .inl (x6))]) (st1 := [.inl (s 6 1), .inl (x6)]) (h1 := (px_G1, s)) rfl ?_
    refine px_D_icmp rfl (fun hc => ?_) (fun hc => ?_)
    · have hc5 : (s 6 1) ≤ (x6) := of_decide_eq_true hc
      rw [if_pos hc5] at h
      refine px_D_st 1 (ip1 := 57) (ls1 := [(0, .inr (.inr 5)), (1, .inl (x1)), (2, .inl (x2)), (5, .inl (x5)), (6, .inl (x6))]) (st1 := [.inl (x5)]) (h1 := (px_G1, s)) rfl ?_
      cases h
      exact px_D_iret rfl rfl ⟨rfl, rfl⟩
    · have hc5 : ¬ ((s 6 1) ≤ (x6)) := of_decide_eq_false hc
      rw [if_neg hc5] at h
      refine px_D_st 5 (ip1 := 35) (ls1 := [(0, .inr (.inr 5)), (1, .inl (x1)), (2, .inl (x2)), (5, .inl (x5)), (6, .inl (x6))]) (st1 := [.inl (x6), .inr (.inr 9)]) (h1 := (px_G1, s)) rfl ?_
      by_cases hc6 : 0 ≤ (x6) ∧ (x6) < 8
      case neg => rw [if_neg hc6] at h; cases h
      rw [if_pos hc6] at h
      refine px_D_iald (k := 4) (n := 8) rfl rfl hc6 ?_
      refine px_D_st 1 (ip1 := 37) (ls1 := [(0, .inr (.inr 5)), (1, .inl (x1)), (2, .inl (x2)), (5, .inl (x5)), (6, .inl (x6))]) (st1 := [.inl (1), .inl (s 9 x6.toNat)]) (h1 := (px_G1, s)) rfl ?_
      refine px_D_icmp rfl (fun hc => ?_) (fun hc => ?_)
      · have hc7 : (s 9 x6.toNat) = (1) := of_decide_eq_true hc
        rw [if_pos hc7] at h
        refine px_D_st 2 (ip1 := 25) (ls1 := [(6, .inl (px_wr (x6 + 1))), (0, .inr (.inr 5)), (1, .inl (x1)), (2, .inl (x2)), (5, .inl (x5))]) (st1 := []) (h1 := (px_G1, s)) rfl ?_
        refine px_D_ls [(0, .inr (.inr 5)), (1, .inl (x1)), (2, .inl (x2)), (5, .inl (x5)), (6, .inl (px_wr (x6 + 1)))] rfl rfl (List.forall_mem_cons.mpr ⟨rfl, List.forall_mem_cons.mpr ⟨rfl, List.forall_mem_cons.mpr ⟨rfl, List.forall_mem_cons.mpr ⟨rfl, List.forall_mem_cons.mpr ⟨rfl, fun _ h => absurd h List.not_mem_nil⟩⟩⟩⟩⟩) ?_
        exact ih _ _ _ _ _ h
      · have hc7 : ¬ ((s 9 x6.toNat) = (1)) := of_decide_eq_false hc
        rw [if_neg hc7] at h
        refine px_D_st 5 (ip1 := 43) (ls1 := [(0, .inr (.inr 5)), (1, .inl (x1)), (2, .inl (x2)), (5, .inl (x5)), (6, .inl (x6))]) (st1 := [.inl (x6), .inr (.inr 8)]) (h1 := (px_G1, s)) rfl ?_
        by_cases hc8 : 0 ≤ (x6) ∧ (x6) < 8
        case neg => rw [if_neg hc8] at h; cases h
        rw [if_pos hc8] at h
        refine px_D_iald (k := 3) (n := 8) rfl rfl hc8 ?_
        refine px_D_st 2 (ip1 := 46) (ls1 := [(0, .inr (.inr 5)), (1, .inl (x1)), (2, .inl (x2)), (5, .inl (x5)), (6, .inl (x6))]) (st1 := [.inl (x2), .inl (x1), .inl (s 8 x6.toNat)]) (h1 := (px_G1, s)) rfl ?_
        refine px_D_call (as := [.inl (s 8 x6.toNat), .inl (x1), .inl (x2)]) (rest := []) rfl rfl rfl rfl ?_
        refine px_D_mono (c_R_within (d := d + 2) rfl) ?_
        rintro _ _ ⟨rfl, rfl⟩
        show px_D sc (d + 3) 123 47 [(0, .inr (.inr 5)), (1, .inl (x1)), (2, .inl (x2)), (5, .inl (x5)), (6, .inl (x6))] [.inl (f_R_within s (s 8 x6.toNat) x1 x2)] (px_G1, s) _
        refine px_D_ifc rfl (fun hc => ?_) (fun hc => ?_)
        · have hc9 : (f_R_within s (s 8 x6.toNat) x1 x2) = (0) := of_decide_eq_true hc
          rw [if_pos hc9] at h
          refine px_D_st 2 (ip1 := 25) (ls1 := [(6, .inl (px_wr (x6 + 1))), (0, .inr (.inr 5)), (1, .inl (x1)), (2, .inl (x2)), (5, .inl (x5))]) (st1 := []) (h1 := (px_G1, s)) rfl ?_
          refine px_D_ls [(0, .inr (.inr 5)), (1, .inl (x1)), (2, .inl (x2)), (5, .inl (x5)), (6, .inl (px_wr (x6 + 1)))] rfl rfl (List.forall_mem_cons.mpr ⟨rfl, List.forall_mem_cons.mpr ⟨rfl, List.forall_mem_cons.mpr ⟨rfl, List.forall_mem_cons.mpr ⟨rfl, List.forall_mem_cons.mpr ⟨rfl, fun _ h => absurd h List.not_mem_nil⟩⟩⟩⟩⟩) ?_
          exact ih _ _ _ _ _ h
        · have hc9 : ¬ ((f_R_within s (s 8 x6.toNat) x1 x2) = (0)) := of_decide_eq_false hc
          rw [if_neg hc9] at h
          refine px_D_st 8 (ip1 := 25) (ls1 := [(6, .inl (px_wr (x6 + 1))), (5, .inl (px_or (x5) ((px_shl (1) (x6))))), (0, .inr (.inr 5)), (1, .inl (x1)), (2, .inl (x2))]) (st1 := []) (h1 := (px_G1, s)) rfl ?_
          refine px_D_ls [(0, .inr (.inr 5)), (1, .inl (x1)), (2, .inl (x2)), (5, .inl (px_or (x5) ((px_shl (1) (x6))))), (6, .inl (px_wr (x6 + 1)))] rfl rfl (List.forall_mem_cons.mpr ⟨rfl, List.forall_mem_cons.mpr ⟨rfl, List.forall_mem_cons.mpr ⟨rfl, List.forall_mem_cons.mpr ⟨rfl, List.forall_mem_cons.mpr ⟨rfl, fun _ h => absurd h List.not_mem_nil⟩⟩⟩⟩⟩) ?_
          exact ih _ _ _ _ _ h
def f_R_fits (s : px_Z) (x1 : Int) (x2 : Int) (x3 : Int) (x4 : Int) : Option (Int) := if (f_R_within s x3 0 60) = (0) then some (-1) else (if (f_R_within s x4 0 5) = (0) then some (-1) else (f_Hills_hasMud s x3 x4).bind (fun q3 => if (q3) = (0) then some 0 else l_R_fits_25 s  px_big x1 x2 0 0))
set_option maxHeartbeats 4000000 in
set_option maxRecDepth 100000 in
theorem c_R_fits {sc : List Int} {d : Nat} {s : px_Z} {x1 : Int} {x2 : Int} {x3 : Int} {x4 : Int} {out : Int} (h : f_R_fits s x1 x2 x3 x4 = some out) : px_D sc (d + 3) 123 0 [(0, .inr (.inr 5)), (1, .inl (x1)), (2, .inl (x2)), (3, .inl (x3)), (4, .inl (x4))] [] (px_G1, s) (px_Qp s out) := by
  unfold f_R_fits at h
  refine px_D_st 3 (ip1 := 3) (ls1 := [(0, .inr (.inr 5)), (1, .inl (x1)), (2, .inl (x2)), (3, .inl (x3)), (4, .inl (x4))]) (st1 := [.inl (60), .inl (0), .inl (x3)]) (h1 := (px_G1, s)) rfl ?_
  refine px_D_call (as := [.inl (x3), .inl (0), .inl (60)]) (rest := []) rfl rfl rfl rfl ?_
  refine px_D_mono (c_R_within (d := d + 2) rfl) ?_
  rintro _ _ ⟨rfl, rfl⟩
  show px_D sc (d + 3) 123 4 [(0, .inr (.inr 5)), (1, .inl (x1)), (2, .inl (x2)), (3, .inl (x3)), (4, .inl (x4))] [.inl (f_R_within s x3 0 60)] (px_G1, s) _
  refine px_D_ifc rfl (fun hc => ?_) (fun hc => ?_)
  · have hc1 : (f_R_within s x3 0 60) = (0) := of_decide_eq_true hc
    rw [if_pos hc1] at h
    refine px_D_st 1 (ip1 := 11) (ls1 := [(0, .inr (.inr 5)), (1, .inl (x1)), (2, .inl (x2)), (3, .inl (x3)), (4, .inl (x4))]) (st1 := [.inl ((-1))]) (h1 := (px_G1, s)) rfl ?_
    cases h
    exact px_D_iret rfl rfl ⟨rfl, rfl⟩
  · have hc1 : ¬ ((f_R_within s x3 0 60) = (0)) := of_decide_eq_false hc
    rw [if_neg hc1] at h
    refine px_D_st 3 (ip1 := 8) (ls1 := [(0, .inr (.inr 5)), (1, .inl (x1)), (2, .inl (x2)), (3, .inl (x3)), (4, .inl (x4))]) (st1 := [.inl (5), .inl (0), .inl (x4)]) (h1 := (px_G1, s)) rfl ?_
    refine px_D_call (as := [.inl (x4), .inl (0), .inl (5)]) (rest := []) rfl rfl rfl rfl ?_
    refine px_D_mono (c_R_within (d := d + 2) rfl) ?_
    rintro _ _ ⟨rfl, rfl⟩
    show px_D sc (d + 3) 123 9 [(0, .inr (.inr 5)), (1, .inl (x1)), (2, .inl (x2)), (3, .inl (x3)), (4, .inl (x4))] [.inl (f_R_within s x4 0 5)] (px_G1, s) _
    refine px_D_ifc rfl (fun hc => ?_) (fun hc => ?_)
    · have hc2 : ¬ ((f_R_within s x4 0 5) = (0)) := of_decide_eq_true hc
      rw [if_neg hc2] at h
      refine px_D_st 5 (ip1 := 17) (ls1 := [(0, .inr (.inr 5)), (1, .inl (x1)), (2, .inl (x2)), (3, .inl (x3)), (4, .inl (x4))]) (st1 := [.inl (x4), .inl (x3), .inr (.inr 28)]) (h1 := (px_G1, s)) rfl ?_
      refine px_D_call (as := [.inr (.inr 28), .inl (x3), .inl (x4)]) (rest := []) rfl rfl rfl rfl ?_
      obtain ⟨q3, hq3, h⟩ := Option.bind_eq_some_iff.mp h
      refine px_D_mono (c_Hills_hasMud (d := d + 0) hq3) ?_
      rintro _ _ ⟨rfl, rfl⟩
      show px_D sc (d + 3) 123 18 [(0, .inr (.inr 5)), (1, .inl (x1)), (2, .inl (x2)), (3, .inl (x3)), (4, .inl (x4))] [.inl (q3)] (px_G1, s) _
      refine px_D_ifc rfl (fun hc => ?_) (fun hc => ?_)
      · have hc4 : ¬ ((q3) = (0)) := of_decide_eq_true hc
        rw [if_neg hc4] at h
        refine px_D_st 4 (ip1 := 25) (ls1 := [(6, .inl (0)), (5, .inl (0)), (0, .inr (.inr 5)), (1, .inl (x1)), (2, .inl (x2)), (3, .inl (x3)), (4, .inl (x4))]) (st1 := []) (h1 := (px_G1, s)) rfl ?_
        refine px_D_ls [(0, .inr (.inr 5)), (1, .inl (x1)), (2, .inl (x2)), (5, .inl (0)), (6, .inl (0))] rfl rfl (List.forall_mem_cons.mpr ⟨rfl, List.forall_mem_cons.mpr ⟨rfl, List.forall_mem_cons.mpr ⟨rfl, List.forall_mem_cons.mpr ⟨rfl, List.forall_mem_cons.mpr ⟨rfl, fun _ h => absurd h List.not_mem_nil⟩⟩⟩⟩⟩) ?_
        refine cl_R_fits_25  px_big _ _ _ _ _ h
      · have hc4 : (q3) = (0) := Decidable.of_not_not (of_decide_eq_false hc)
        rw [if_pos hc4] at h
        refine px_D_st 1 (ip1 := 20) (ls1 := [(0, .inr (.inr 5)), (1, .inl (x1)), (2, .inl (x2)), (3, .inl (x3)), (4, .inl (x4))]) (st1 := [.inl (0)]) (h1 := (px_G1, s)) rfl ?_
        cases h
        exact px_D_iret rfl rfl ⟨rfl, rfl⟩
    · have hc2 : (f_R_within s x4 0 5) = (0) := Decidable.of_not_not (of_decide_eq_false hc)
      rw [if_pos hc2] at h
      refine px_D_st 1 (ip1 := 11) (ls1 := [(0, .inr (.inr 5)), (1, .inl (x1)), (2, .inl (x2)), (3, .inl (x3)), (4, .inl (x4))]) (st1 := [.inl ((-1))]) (h1 := (px_G1, s)) rfl ?_
      cases h
      exact px_D_iret rfl rfl ⟨rfl, rfl⟩

def l_Hills_cavesBy_4 (s : px_Z)  : Nat → Int → Int → Int → Option (Int)
  | 0, _, _, _ => none
  | n + 1, x1, x2, x3 => if (s 28 0) ≤ (x3) then some x2 else (if 0 ≤ (x3) ∧ (x3) < 24 then if (s 29 x3.toNat) = ((-1)) then l_Hills_cavesBy_4 s  n x1 x2 (px_wr (x3 + 1)) else (if 0 ≤ (x3) ∧ (x3) < 24 then if (s 30 x3.toNat) = (x1) then (if 0 ≤ (x3) ∧ (x3) < 24 then l_Hills_cavesBy_4 s  n x1 (px_or (x2) ((px_shl (1) ((s 29 x3.toNat))))) (px_wr (x3 + 1)) else none) else l_Hills_cavesBy_4 s  n x1 x2 (px_wr (x3 + 1)) else none) else none)
set_option maxHeartbeats 4000000 in
set_option maxRecDepth 100000 in
theorem cl_Hills_cavesBy_4 {sc : List Int} {d : Nat} {s : px_Z}  : ∀ (n : Nat) (x1 : Int) (x2 : Int) (x3 : Int) (out : Int), l_Hills_cavesBy_4 s  n x1 x2 x3 = some out → px_D sc (d + 0) 11 4 [(0, .inr (.inr 28)), (1, .inl (x1)), (2, .inl (x2)), (3, .inl (x3))] [] (px_G1, s) (px_Qp s out) := by
  intro n
  induction n with
  | zero => intro x1 x2 x3 out h; cases h
  | succ n ih =>
    intro x1 x2 x3 out h
    rw [l_Hills_cavesBy_4] at h
    refine px_D_st 3 (ip1 := 7) (ls1 := [(0, .inr (.inr 28)), (1, .inl (x1)), (2, .inl (x2)), (3, .inl (x3))]) (st1 := [.inl (s 28 0), .inl (x3)]) (h1 := (px_G1, s)) rfl ?_
    refine px_D_icmp rfl (fun hc => ?_) (fun hc => ?_)
    · have hc1 : (s 28 0) ≤ (x3) := of_decide_eq_true hc
      rw [if_pos hc1] at h
      refine px_D_st 1 (ip1 := 32) (ls1 := [(0, .inr (.inr 28)), (1, .inl (x1)), (2, .inl (x2)), (3, .inl (x3))]) (st1 := [.inl (x2)]) (h1 := (px_G1, s)) rfl ?_
      cases h
      exact px_D_iret rfl rfl ⟨rfl, rfl⟩
    · have hc1 : ¬ ((s 28 0) ≤ (x3)) := of_decide_eq_false hc
      rw [if_neg hc1] at h
      refine px_D_st 3 (ip1 := 11) (ls1 := [(0, .inr (.inr 28)), (1, .inl (x1)), (2, .inl (x2)), (3, .inl (x3))]) (st1 := [.inl (x3), .inr (.inr 29)]) (h1 := (px_G1, s)) rfl ?_
      by_cases hc2 : 0 ≤ (x3) ∧ (x3) < 24
      case neg => rw [if_neg hc2] at h; cases h
      rw [if_pos hc2] at h
      refine px_D_iald (k := 24) (n := 24) rfl rfl hc2 ?_
      refine px_D_st 1 (ip1 := 13) (ls1 := [(0, .inr (.inr 28)), (1, .inl (x1)), (2, .inl (x2)), (3, .inl (x3))]) (st1 := [.inl ((-1)), .inl (s 29 x3.toNat)]) (h1 := (px_G1, s)) rfl ?_
      refine px_D_icmp rfl (fun hc => ?_) (fun hc => ?_)
      · have hc3 : (s 29 x3.toNat) = ((-1)) := of_decide_eq_true hc
        rw [if_pos hc3] at h
        refine px_D_st 2 (ip1 := 4) (ls1 := [(3, .inl (px_wr (x3 + 1))), (0, .inr (.inr 28)), (1, .inl (x1)), (2, .inl (x2))]) (st1 := []) (h1 := (px_G1, s)) rfl ?_
        refine px_D_ls [(0, .inr (.inr 28)), (1, .inl (x1)), (2, .inl (x2)), (3, .inl (px_wr (x3 + 1)))] rfl rfl (List.forall_mem_cons.mpr ⟨rfl, List.forall_mem_cons.mpr ⟨rfl, List.forall_mem_cons.mpr ⟨rfl, List.forall_mem_cons.mpr ⟨rfl, fun _ h => absurd h List.not_mem_nil⟩⟩⟩⟩) ?_
        exact ih _ _ _ _ h
      · have hc3 : ¬ ((s 29 x3.toNat) = ((-1))) := of_decide_eq_false hc
        rw [if_neg hc3] at h
        refine px_D_st 3 (ip1 := 17) (ls1 := [(0, .inr (.inr 28)), (1, .inl (x1)), (2, .inl (x2)), (3, .inl (x3))]) (st1 := [.inl (x3), .inr (.inr 30)]) (h1 := (px_G1, s)) rfl ?_
        by_cases hc4 : 0 ≤ (x3) ∧ (x3) < 24
        case neg => rw [if_neg hc4] at h; cases h
        rw [if_pos hc4] at h
        refine px_D_iald (k := 25) (n := 24) rfl rfl hc4 ?_
        refine px_D_st 1 (ip1 := 19) (ls1 := [(0, .inr (.inr 28)), (1, .inl (x1)), (2, .inl (x2)), (3, .inl (x3))]) (st1 := [.inl (x1), .inl (s 30 x3.toNat)]) (h1 := (px_G1, s)) rfl ?_
        refine px_D_icmp rfl (fun hc => ?_) (fun hc => ?_)
        · have hc5 : ¬ ((s 30 x3.toNat) = (x1)) := of_decide_eq_true hc
          rw [if_neg hc5] at h
          refine px_D_st 2 (ip1 := 4) (ls1 := [(3, .inl (px_wr (x3 + 1))), (0, .inr (.inr 28)), (1, .inl (x1)), (2, .inl (x2))]) (st1 := []) (h1 := (px_G1, s)) rfl ?_
          refine px_D_ls [(0, .inr (.inr 28)), (1, .inl (x1)), (2, .inl (x2)), (3, .inl (px_wr (x3 + 1)))] rfl rfl (List.forall_mem_cons.mpr ⟨rfl, List.forall_mem_cons.mpr ⟨rfl, List.forall_mem_cons.mpr ⟨rfl, List.forall_mem_cons.mpr ⟨rfl, fun _ h => absurd h List.not_mem_nil⟩⟩⟩⟩) ?_
          exact ih _ _ _ _ h
        · have hc5 : (s 30 x3.toNat) = (x1) := Decidable.of_not_not (of_decide_eq_false hc)
          rw [if_pos hc5] at h
          refine px_D_st 5 (ip1 := 25) (ls1 := [(0, .inr (.inr 28)), (1, .inl (x1)), (2, .inl (x2)), (3, .inl (x3))]) (st1 := [.inl (x3), .inr (.inr 29), .inl (1), .inl (x2)]) (h1 := (px_G1, s)) rfl ?_
          by_cases hc6 : 0 ≤ (x3) ∧ (x3) < 24
          case neg => rw [if_neg hc6] at h; cases h
          rw [if_pos hc6] at h
          refine px_D_iald (k := 24) (n := 24) rfl rfl hc6 ?_
          refine px_D_st 5 (ip1 := 4) (ls1 := [(3, .inl (px_wr (x3 + 1))), (2, .inl (px_or (x2) ((px_shl (1) ((s 29 x3.toNat)))))), (0, .inr (.inr 28)), (1, .inl (x1))]) (st1 := []) (h1 := (px_G1, s)) rfl ?_
          refine px_D_ls [(0, .inr (.inr 28)), (1, .inl (x1)), (2, .inl (px_or (x2) ((px_shl (1) ((s 29 x3.toNat)))))), (3, .inl (px_wr (x3 + 1)))] rfl rfl (List.forall_mem_cons.mpr ⟨rfl, List.forall_mem_cons.mpr ⟨rfl, List.forall_mem_cons.mpr ⟨rfl, List.forall_mem_cons.mpr ⟨rfl, fun _ h => absurd h List.not_mem_nil⟩⟩⟩⟩) ?_
          exact ih _ _ _ _ h
def f_Hills_cavesBy (s : px_Z) (x1 : Int) : Option (Int) := l_Hills_cavesBy_4 s  px_big x1 0 0
set_option maxHeartbeats 4000000 in
set_option maxRecDepth 100000 in
theorem c_Hills_cavesBy {sc : List Int} {d : Nat} {s : px_Z} {x1 : Int} {out : Int} (h : f_Hills_cavesBy s x1 = some out) : px_D sc (d + 0) 11 0 [(0, .inr (.inr 28)), (1, .inl (x1))] [] (px_G1, s) (px_Qp s out) := by
  unfold f_Hills_cavesBy at h
  refine px_D_st 4 (ip1 := 4) (ls1 := [(3, .inl (0)), (2, .inl (0)), (0, .inr (.inr 28)), (1, .inl (x1))]) (st1 := []) (h1 := (px_G1, s)) rfl ?_
  refine px_D_ls [(0, .inr (.inr 28)), (1, .inl (x1)), (2, .inl (0)), (3, .inl (0))] rfl rfl (List.forall_mem_cons.mpr ⟨rfl, List.forall_mem_cons.mpr ⟨rfl, List.forall_mem_cons.mpr ⟨rfl, List.forall_mem_cons.mpr ⟨rfl, fun _ h => absurd h List.not_mem_nil⟩⟩⟩⟩) ?_
  refine cl_Hills_cavesBy_4  px_big _ _ _ _ h

def l_Hills_caves_4 (s : px_Z)  : Nat → Int → Int → Option (Int)
  | 0, _, _ => none
  | n + 1, x1, x2 => if (6) ≤ (x2) then some x1 else (f_Hills_cavesBy s x2).bind (fun q2 => l_Hills_caves_4 s  n (px_or (x1) (q2)) (px_wr (x2 + 1)))
set_option maxHeartbeats 4000000 in
set_option maxRecDepth 100000 in
theorem cl_Hills_caves_4 {sc : List Int} {d : Nat} {s : px_Z}  : ∀ (n : Nat) (x1 : Int) (x2 : Int) (out : Int), l_Hills_caves_4 s  n x1 x2 = some out → px_D sc (d + 1) 10 4 [(0, .inr (.inr 28)), (1, .inl (x1)), (2, .inl (x2))] [] (px_G1, s) (px_Qp s out) := by
  intro n
  induction n with
  | zero => intro x1 x2 out h; cases h
  | succ n ih =>
    intro x1 x2 out h
    rw [l_Hills_caves_4] at h
    refine px_D_st 2 (ip1 := 6) (ls1 := [(0, .inr (.inr 28)), (1, .inl (x1)), (2, .inl (x2))]) (st1 := [.inl (6), .inl (x2)]) (h1 := (px_G1, s)) rfl ?_
    refine px_D_icmp rfl (fun hc => ?_) (fun hc => ?_)
    · have hc1 : (6) ≤ (x2) := of_decide_eq_true hc
      rw [if_pos hc1] at h
      refine px_D_st 1 (ip1 := 16) (ls1 := [(0, .inr (.inr 28)), (1, .inl (x1)), (2, .inl (x2))]) (st1 := [.inl (x1)]) (h1 := (px_G1, s)) rfl ?_
      cases h
      exact px_D_iret rfl rfl ⟨rfl, rfl⟩
    · have hc1 : ¬ ((6) ≤ (x2)) := of_decide_eq_false hc
      rw [if_neg hc1] at h
      refine px_D_st 3 (ip1 := 10) (ls1 := [(0, .inr (.inr 28)), (1, .inl (x1)), (2, .inl (x2))]) (st1 := [.inl (x2), .inr (.inr 28), .inl (x1)]) (h1 := (px_G1, s)) rfl ?_
      refine px_D_call (as := [.inr (.inr 28), .inl (x2)]) (rest := [.inl (x1)]) rfl rfl rfl rfl ?_
      obtain ⟨q2, hq2, h⟩ := Option.bind_eq_some_iff.mp h
      refine px_D_mono (c_Hills_cavesBy (d := d + 0) hq2) ?_
      rintro _ _ ⟨rfl, rfl⟩
      show px_D sc (d + 1) 10 11 [(0, .inr (.inr 28)), (1, .inl (x1)), (2, .inl (x2))] [.inl (q2), .inl (x1)] (px_G1, s) _
      refine px_D_st 4 (ip1 := 4) (ls1 := [(2, .inl (px_wr (x2 + 1))), (1, .inl (px_or (x1) (q2))), (0, .inr (.inr 28))]) (st1 := []) (h1 := (px_G1, s)) rfl ?_
      refine px_D_ls [(0, .inr (.inr 28)), (1, .inl (px_or (x1) (q2))), (2, .inl (px_wr (x2 + 1)))] rfl rfl (List.forall_mem_cons.mpr ⟨rfl, List.forall_mem_cons.mpr ⟨rfl, List.forall_mem_cons.mpr ⟨rfl, fun _ h => absurd h List.not_mem_nil⟩⟩⟩) ?_
      exact ih _ _ _ h
def f_Hills_caves (s : px_Z) : Option (Int) := l_Hills_caves_4 s  px_big 0 0
set_option maxHeartbeats 4000000 in
set_option maxRecDepth 100000 in
theorem c_Hills_caves {sc : List Int} {d : Nat} {s : px_Z} {out : Int} (h : f_Hills_caves s  = some out) : px_D sc (d + 1) 10 0 [(0, .inr (.inr 28))] [] (px_G1, s) (px_Qp s out) := by
  unfold f_Hills_caves at h
  refine px_D_st 4 (ip1 := 4) (ls1 := [(2, .inl (0)), (1, .inl (0)), (0, .inr (.inr 28))]) (st1 := []) (h1 := (px_G1, s)) rfl ?_
  refine px_D_ls [(0, .inr (.inr 28)), (1, .inl (0)), (2, .inl (0))] rfl rfl (List.forall_mem_cons.mpr ⟨rfl, List.forall_mem_cons.mpr ⟨rfl, List.forall_mem_cons.mpr ⟨rfl, fun _ h => absurd h List.not_mem_nil⟩⟩⟩) ?_
  refine cl_Hills_caves_4  px_big _ _ _ h

def l_R_kept_7 (s : px_Z)  : Nat → Int → Int → Option (Int)
  | 0, _, _ => none
  | n + 1, x1, x2 => if (s 6 1) ≤ (x2) then some x1 else (if 0 ≤ (x2) ∧ (x2) < 8 then if (s 9 x2.toNat) = (1) then (if 0 ≤ (x2) ∧ (x2) < 8 then (f_Hills_cavesBy s (s 11 x2.toNat)).bind (fun q6 => l_R_kept_7 s  n (px_and (x1) (q6)) (px_wr (x2 + 1))) else none) else l_R_kept_7 s  n x1 (px_wr (x2 + 1)) else none)
set_option maxHeartbeats 4000000 in
set_option maxRecDepth 100000 in
theorem cl_R_kept_7 {sc : List Int} {d : Nat} {s : px_Z}  : ∀ (n : Nat) (x1 : Int) (x2 : Int) (out : Int), l_R_kept_7 s  n x1 x2 = some out → px_D sc (d + 2) 124 7 [(0, .inr (.inr 5)), (1, .inl (x1)), (2, .inl (x2))] [] (px_G1, s) (px_Qp s out) := by
  intro n
  induction n with
  | zero => intro x1 x2 out h; cases h
  | succ n ih =>
    intro x1 x2 out h
    rw [l_R_kept_7] at h
    refine px_D_st 4 (ip1 := 11) (ls1 := [(0, .inr (.inr 5)), (1, .inl (x1)), (2, .inl (x2))]) (st1 := [.inl (s 6 1), .inl (x2)]) (h1 := (px_G1, s)) rfl ?_
    refine px_D_icmp rfl (fun hc => ?_) (fun hc => ?_)
    · have hc2 : (s 6 1) ≤ (x2) := of_decide_eq_true hc
      rw [if_pos hc2] at h
      refine px_D_st 1 (ip1 := 36) (ls1 := [(0, .inr (.inr 5)), (1, .inl (x1)), (2, .inl (x2))]) (st1 := [.inl (x1)]) (h1 := (px_G1, s)) rfl ?_
      cases h
      exact px_D_iret rfl rfl ⟨rfl, rfl⟩
    · have hc2 : ¬ ((s 6 1) ≤ (x2)) := of_decide_eq_false hc
      rw [if_neg hc2] at h
      refine px_D_st 5 (ip1 := 17) (ls1 := [(0, .inr (.inr 5)), (1, .inl (x1)), (2, .inl (x2))]) (st1 := [.inl (x2), .inr (.inr 9)]) (h1 := (px_G1, s)) rfl ?_
      by_cases hc3 : 0 ≤ (x2) ∧ (x2) < 8
      case neg => rw [if_neg hc3] at h; cases h
      rw [if_pos hc3] at h
      refine px_D_iald (k := 4) (n := 8) rfl rfl hc3 ?_
      refine px_D_st 1 (ip1 := 19) (ls1 := [(0, .inr (.inr 5)), (1, .inl (x1)), (2, .inl (x2))]) (st1 := [.inl (1), .inl (s 9 x2.toNat)]) (h1 := (px_G1, s)) rfl ?_
      refine px_D_icmp rfl (fun hc => ?_) (fun hc => ?_)
      · have hc4 : ¬ ((s 9 x2.toNat) = (1)) := of_decide_eq_true hc
        rw [if_neg hc4] at h
        refine px_D_st 2 (ip1 := 7) (ls1 := [(2, .inl (px_wr (x2 + 1))), (0, .inr (.inr 5)), (1, .inl (x1))]) (st1 := []) (h1 := (px_G1, s)) rfl ?_
        refine px_D_ls [(0, .inr (.inr 5)), (1, .inl (x1)), (2, .inl (px_wr (x2 + 1)))] rfl rfl (List.forall_mem_cons.mpr ⟨rfl, List.forall_mem_cons.mpr ⟨rfl, List.forall_mem_cons.mpr ⟨rfl, fun _ h => absurd h List.not_mem_nil⟩⟩⟩) ?_
        exact ih _ _ _ h
      · have hc4 : (s 9 x2.toNat) = (1) := Decidable.of_not_not (of_decide_eq_false hc)
        rw [if_pos hc4] at h
        refine px_D_st 9 (ip1 := 29) (ls1 := [(0, .inr (.inr 5)), (1, .inl (x1)), (2, .inl (x2))]) (st1 := [.inl (x2), .inr (.inr 11), .inr (.inr 28), .inl (x1)]) (h1 := (px_G1, s)) rfl ?_
        by_cases hc5 : 0 ≤ (x2) ∧ (x2) < 8
        case neg => rw [if_neg hc5] at h; cases h
        rw [if_pos hc5] at h
        refine px_D_iald (k := 6) (n := 8) rfl rfl hc5 ?_
        refine px_D_call (as := [.inr (.inr 28), .inl (s 11 x2.toNat)]) (rest := [.inl (x1)]) rfl rfl rfl rfl ?_
        obtain ⟨q6, hq6, h⟩ := Option.bind_eq_some_iff.mp h
        refine px_D_mono (c_Hills_cavesBy (d := d + 1) hq6) ?_
        rintro _ _ ⟨rfl, rfl⟩
        show px_D sc (d + 2) 124 31 [(0, .inr (.inr 5)), (1, .inl (x1)), (2, .inl (x2))] [.inl (q6), .inl (x1)] (px_G1, s) _
        refine px_D_st 4 (ip1 := 7) (ls1 := [(2, .inl (px_wr (x2 + 1))), (1, .inl (px_and (x1) (q6))), (0, .inr (.inr 5))]) (st1 := []) (h1 := (px_G1, s)) rfl ?_
        refine px_D_ls [(0, .inr (.inr 5)), (1, .inl (px_and (x1) (q6))), (2, .inl (px_wr (x2 + 1)))] rfl rfl (List.forall_mem_cons.mpr ⟨rfl, List.forall_mem_cons.mpr ⟨rfl, List.forall_mem_cons.mpr ⟨rfl, fun _ h => absurd h List.not_mem_nil⟩⟩⟩) ?_
        exact ih _ _ _ h
def f_R_kept (s : px_Z) : Option (Int) := (f_Hills_caves s ).bind (fun q1 => l_R_kept_7 s  px_big q1 0)
set_option maxHeartbeats 4000000 in
set_option maxRecDepth 100000 in
theorem c_R_kept {sc : List Int} {d : Nat} {s : px_Z} {out : Int} (h : f_R_kept s  = some out) : px_D sc (d + 2) 124 0 [(0, .inr (.inr 5))] [] (px_G1, s) (px_Qp s out) := by
  unfold f_R_kept at h
  refine px_D_st 3 (ip1 := 3) (ls1 := [(0, .inr (.inr 5))]) (st1 := [.inr (.inr 28)]) (h1 := (px_G1, s)) rfl ?_
  refine px_D_call (as := [.inr (.inr 28)]) (rest := []) rfl rfl rfl rfl ?_
  obtain ⟨q1, hq1, h⟩ := Option.bind_eq_some_iff.mp h
  refine px_D_mono (c_Hills_caves (d := d + 0) hq1) ?_
  rintro _ _ ⟨rfl, rfl⟩
  show px_D sc (d + 2) 124 4 [(0, .inr (.inr 5))] [.inl (q1)] (px_G1, s) _
  refine px_D_st 3 (ip1 := 7) (ls1 := [(2, .inl (0)), (1, .inl (q1)), (0, .inr (.inr 5))]) (st1 := []) (h1 := (px_G1, s)) rfl ?_
  refine px_D_ls [(0, .inr (.inr 5)), (1, .inl (q1)), (2, .inl (0))] rfl rfl (List.forall_mem_cons.mpr ⟨rfl, List.forall_mem_cons.mpr ⟨rfl, List.forall_mem_cons.mpr ⟨rfl, fun _ h => absurd h List.not_mem_nil⟩⟩⟩) ?_
  refine cl_R_kept_7  px_big _ _ _ h

def f_Told_addLetter (s : px_Z) (x1 : Int) : Option (Int × px_Z) := if (s 38 0) < (8) then (if 0 ≤ (s 38 0) ∧ (s 38 0) < 8 then some ((px_wr (((px_up (px_up s 39 (s 38 0).toNat x1) 38 0 (px_wr (((px_up s 39 (s 38 0).toNat x1) 38 0) + 1))) 38 0) - 1), px_up (px_up s 39 (s 38 0).toNat x1) 38 0 (px_wr (((px_up s 39 (s 38 0).toNat x1) 38 0) + 1)))) else none) else some (((-1), s))
set_option maxHeartbeats 4000000 in
set_option maxRecDepth 100000 in
theorem c_Told_addLetter {sc : List Int} {d : Nat} {s : px_Z} {x1 : Int} {out : Int × px_Z} (h : f_Told_addLetter s x1 = some out) : px_D sc (d + 0) 65 0 [(0, .inr (.inr 38)), (1, .inl (x1))] [] (px_G1, s) (px_Qi out) := by
  unfold f_Told_addLetter at h
  refine px_D_st 3 (ip1 := 3) (ls1 := [(0, .inr (.inr 38)), (1, .inl (x1))]) (st1 := [.inl (8), .inl (s 38 0)]) (h1 := (px_G1, s)) rfl ?_
  refine px_D_icmp rfl (fun hc => ?_) (fun hc => ?_)
  · have hc1 : (s 38 0) < (8) := of_decide_eq_true hc
    rw [if_pos hc1] at h
    refine px_D_st 5 (ip1 := 11) (ls1 := [(0, .inr (.inr 38)), (1, .inl (x1))]) (st1 := [.inl (x1), .inl (s 38 0), .inr (.inr 39)]) (h1 := (px_G1, s)) rfl ?_
    by_cases hc2 : 0 ≤ (s 38 0) ∧ (s 38 0) < 8
    case neg => rw [if_neg hc2] at h; cases h
    rw [if_pos hc2] at h
    refine px_D_iast (k := 34) (n := 8) rfl rfl hc2 ?_
    refine px_D_st 10 (ip1 := 22) (ls1 := [(0, .inr (.inr 38)), (1, .inl (x1))]) (st1 := [.inl (px_wr (((px_up (px_up s 39 (s 38 0).toNat x1) 38 0 (px_wr (((px_up s 39 (s 38 0).toNat x1) 38 0) + 1))) 38 0) - 1))]) (h1 := (px_G1, px_up (px_up s 39 (s 38 0).toNat x1) 38 0 (px_wr (((px_up s 39 (s 38 0).toNat x1) 38 0) + 1)))) rfl ?_
    cases h
    exact px_D_iret rfl rfl ⟨rfl, rfl⟩
  · have hc1 : ¬ ((s 38 0) < (8)) := of_decide_eq_false hc
    rw [if_neg hc1] at h
    refine px_D_st 1 (ip1 := 5) (ls1 := [(0, .inr (.inr 38)), (1, .inl (x1))]) (st1 := [.inl ((-1))]) (h1 := (px_G1, s)) rfl ?_
    cases h
    exact px_D_iret rfl rfl ⟨rfl, rfl⟩

def f_R_letter (s : px_Z) (x1 : Int) : Option (Int × px_Z) := if (f_R_within s x1 0 (f_World_all s )) = (0) then some (((-1), s)) else (f_Told_addLetter s x1).bind (fun q2 => some (q2.1, q2.2))
set_option maxHeartbeats 4000000 in
set_option maxRecDepth 100000 in
theorem c_R_letter {sc : List Int} {d : Nat} {s : px_Z} {x1 : Int} {out : Int × px_Z} (h : f_R_letter s x1 = some out) : px_D sc (d + 1) 125 0 [(0, .inr (.inr 5)), (1, .inl (x1))] [] (px_G1, s) (px_Qi out) := by
  unfold f_R_letter at h
  refine px_D_st 4 (ip1 := 4) (ls1 := [(0, .inr (.inr 5)), (1, .inl (x1))]) (st1 := [.inr (.inr 6), .inl (0), .inl (x1)]) (h1 := (px_G1, s)) rfl ?_
  refine px_D_call (as := [.inr (.inr 6)]) (rest := [.inl (0), .inl (x1)]) rfl rfl rfl rfl ?_
  refine px_D_mono (c_World_all (d := d + 0) rfl) ?_
  rintro _ _ ⟨rfl, rfl⟩
  show px_D sc (d + 1) 125 5 [(0, .inr (.inr 5)), (1, .inl (x1))] [.inl (f_World_all s ), .inl (0), .inl (x1)] (px_G1, s) _
  refine px_D_call (as := [.inl (x1), .inl (0), .inl (f_World_all s )]) (rest := []) rfl rfl rfl rfl ?_
  refine px_D_mono (c_R_within (d := d + 0) rfl) ?_
  rintro _ _ ⟨rfl, rfl⟩
  show px_D sc (d + 1) 125 6 [(0, .inr (.inr 5)), (1, .inl (x1))] [.inl (f_R_within s x1 0 (f_World_all s ))] (px_G1, s) _
  refine px_D_ifc rfl (fun hc => ?_) (fun hc => ?_)
  · have hc1 : ¬ ((f_R_within s x1 0 (f_World_all s )) = (0)) := of_decide_eq_true hc
    rw [if_neg hc1] at h
    refine px_D_st 4 (ip1 := 13) (ls1 := [(0, .inr (.inr 5)), (1, .inl (x1))]) (st1 := [.inl (x1), .inr (.inr 38)]) (h1 := (px_G1, s)) rfl ?_
    refine px_D_call (as := [.inr (.inr 38), .inl (x1)]) (rest := []) rfl rfl rfl rfl ?_
    obtain ⟨q2, hq2, h⟩ := Option.bind_eq_some_iff.mp h
    refine px_D_mono (c_Told_addLetter (d := d + 0) hq2) ?_
    rintro _ _ ⟨rfl, rfl⟩
    show px_D sc (d + 1) 125 14 [(0, .inr (.inr 5)), (1, .inl (x1))] [.inl (q2.1)] (px_G1, q2.2) _
    cases h
    exact px_D_iret rfl rfl ⟨rfl, rfl⟩
  · have hc1 : (f_R_within s x1 0 (f_World_all s )) = (0) := Decidable.of_not_not (of_decide_eq_false hc)
    rw [if_pos hc1] at h
    refine px_D_st 1 (ip1 := 8) (ls1 := [(0, .inr (.inr 5)), (1, .inl (x1))]) (st1 := [.inl ((-1))]) (h1 := (px_G1, s)) rfl ?_
    cases h
    exact px_D_iret rfl rfl ⟨rfl, rfl⟩

def l_Told_letterOrders_12 (s : px_Z) (k51 : Int → Int → Int → Option (Int)) : Nat → Int → Int → Int → Int → Option (Int)
  | 0, _, _, _, _ => none
  | n + 1, x1, x2, x3, x4 => if (x2) ≤ (x4) then k51 x1 x2 x3 else (if 0 ≤ (x2) ∧ (x2) < 8 then if 0 ≤ (x4) ∧ (x4) < 8 then if 0 ≤ (x2) ∧ (x2) < 8 then if (px_and ((s 39 x2.toNat)) ((s 39 x4.toNat))) = (s 39 x2.toNat) then (if 0 ≤ (x2) ∧ (x2) < 8 then if 0 ≤ (x4) ∧ (x4) < 8 then if (s 39 x2.toNat) = (s 39 x4.toNat) then l_Told_letterOrders_12 s k51 n x1 x2 (px_wr (x3 + 1)) (px_wr (x4 + 1)) else l_Told_letterOrders_12 s k51 n x1 x2 x3 (px_wr (x4 + 1)) else none else none) else (if 0 ≤ (x4) ∧ (x4) < 8 then if (px_and ((s 39 x2.toNat)) ((s 39 x4.toNat))) = (s 39 x4.toNat) then (if 0 ≤ (x2) ∧ (x2) < 8 then if 0 ≤ (x4) ∧ (x4) < 8 then if (s 39 x2.toNat) = (s 39 x4.toNat) then l_Told_letterOrders_12 s k51 n x1 x2 (px_wr (x3 + 1)) (px_wr (x4 + 1)) else l_Told_letterOrders_12 s k51 n x1 x2 x3 (px_wr (x4 + 1)) else none else none) else some 0 else none) else none else none else none)
set_option maxHeartbeats 4000000 in
set_option maxRecDepth 100000 in
theorem cl_Told_letterOrders_12 {sc : List Int} {d : Nat} {s : px_Z} {k51 : Int → Int → Int → Option (Int)}  (hk51 : ∀ (y1 : Int) (y2 : Int) (y3 : Int) (out : Int), k51 y1 y2 y3 = some out → px_D sc (d + 0) 68 51 [(0, .inr (.inr 38)), (1, .inl (y1)), (2, .inl (y2)), (3, .inl (y3))] [] (px_G1, s) (px_Qp s out)) : ∀ (n : Nat) (x1 : Int) (x2 : Int) (x3 : Int) (x4 : Int) (out : Int), l_Told_letterOrders_12 s k51 n x1 x2 x3 x4 = some out → px_D sc (d + 0) 68 12 [(0, .inr (.inr 38)), (1, .inl (x1)), (2, .inl (x2)), (3, .inl (x3)), (4, .inl (x4))] [] (px_G1, s) (px_Qp s out) := by
  intro n
  induction n with
  | zero => intro x1 x2 x3 x4 out h; cases h
  | succ n ih =>
    intro x1 x2 x3 x4 out h
    rw [l_Told_letterOrders_12] at h
    refine px_D_st 2 (ip1 := 14) (ls1 := [(0, .inr (.inr 38)), (1, .inl (x1)), (2, .inl (x2)), (3, .inl (x3)), (4, .inl (x4))]) (st1 := [.inl (x2), .inl (x4)]) (h1 := (px_G1, s)) rfl ?_
    refine px_D_icmp rfl (fun hc => ?_) (fun hc => ?_)
    · have hc2 : (x2) ≤ (x4) := of_decide_eq_true hc
      rw [if_pos hc2] at h
      refine px_D_ls [(0, .inr (.inr 38)), (1, .inl (x1)), (2, .inl (x2)), (3, .inl (x3))] rfl rfl (List.forall_mem_cons.mpr ⟨rfl, List.forall_mem_cons.mpr ⟨rfl, List.forall_mem_cons.mpr ⟨rfl, List.forall_mem_cons.mpr ⟨rfl, fun _ h => absurd h List.not_mem_nil⟩⟩⟩⟩) ?_
      exact hk51 _ _ _ _ h
    · have hc2 : ¬ ((x2) ≤ (x4)) := of_decide_eq_false hc
      rw [if_neg hc2] at h
      refine px_D_st 3 (ip1 := 18) (ls1 := [(0, .inr (.inr 38)), (1, .inl (x1)), (2, .inl (x2)), (3, .inl (x3)), (4, .inl (x4))]) (st1 := [.inl (x2), .inr (.inr 39)]) (h1 := (px_G1, s)) rfl ?_
      by_cases hc3 : 0 ≤ (x2) ∧ (x2) < 8
      case neg => rw [if_neg hc3] at h; cases h
      rw [if_pos hc3] at h
      refine px_D_iald (k := 34) (n := 8) rfl rfl hc3 ?_
      refine px_D_st 3 (ip1 := 22) (ls1 := [(0, .inr (.inr 38)), (1, .inl (x1)), (2, .inl (x2)), (3, .inl (x3)), (4, .inl (x4))]) (st1 := [.inl (x4), .inr (.inr 39), .inl (s 39 x2.toNat)]) (h1 := (px_G1, s)) rfl ?_
      by_cases hc4 : 0 ≤ (x4) ∧ (x4) < 8
      case neg => rw [if_neg hc4] at h; cases h
      rw [if_pos hc4] at h
      refine px_D_iald (k := 34) (n := 8) rfl rfl hc4 ?_
      refine px_D_st 6 (ip1 := 29) (ls1 := [(5, .inl (px_and ((s 39 x2.toNat)) ((s 39 x4.toNat)))), (0, .inr (.inr 38)), (1, .inl (x1)), (2, .inl (x2)), (3, .inl (x3)), (4, .inl (x4))]) (st1 := [.inl (x2), .inr (.inr 39), .inl (px_and ((s 39 x2.toNat)) ((s 39 x4.toNat)))]) (h1 := (px_G1, s)) rfl ?_
      by_cases hc5 : 0 ≤ (x2) ∧ (x2) < 8
      case neg => rw [if_neg hc5] at h; cases h
      rw [if_pos hc5] at h
      refine px_D_iald (k := 34) (n := 8) rfl rfl hc5 ?_
      refine px_D_icmp rfl (fun hc => ?_) (fun hc => ?_)
      · have hc6 : (px_and ((s 39 x2.toNat)) ((s 39 x4.toNat))) = (s 39 x2.toNat) := of_decide_eq_true hc
        rw [if_pos hc6] at h
        refine px_D_st 3 (ip1 := 42) (ls1 := [(5, .inl (px_and ((s 39 x2.toNat)) ((s 39 x4.toNat)))), (0, .inr (.inr 38)), (1, .inl (x1)), (2, .inl (x2)), (3, .inl (x3)), (4, .inl (x4))]) (st1 := [.inl (x2), .inr (.inr 39)]) (h1 := (px_G1, s)) rfl ?_
        by_cases hc7 : 0 ≤ (x2) ∧ (x2) < 8
        case neg => rw [if_neg hc7] at h; cases h
        rw [if_pos hc7] at h
        refine px_D_iald (k := 34) (n := 8) rfl rfl hc7 ?_
        refine px_D_st 3 (ip1 := 46) (ls1 := [(5, .inl (px_and ((s 39 x2.toNat)) ((s 39 x4.toNat)))), (0, .inr (.inr 38)), (1, .inl (x1)), (2, .inl (x2)), (3, .inl (x3)), (4, .inl (x4))]) (st1 := [.inl (x4), .inr (.inr 39), .inl (s 39 x2.toNat)]) (h1 := (px_G1, s)) rfl ?_
        by_cases hc8 : 0 ≤ (x4) ∧ (x4) < 8
        case neg => rw [if_neg hc8] at h; cases h
        rw [if_pos hc8] at h
        refine px_D_iald (k := 34) (n := 8) rfl rfl hc8 ?_
        refine px_D_icmp rfl (fun hc => ?_) (fun hc => ?_)
        · have hc9 : ¬ ((s 39 x2.toNat) = (s 39 x4.toNat)) := of_decide_eq_true hc
          rw [if_neg hc9] at h
          refine px_D_st 2 (ip1 := 12) (ls1 := [(4, .inl (px_wr (x4 + 1))), (5, .inl (px_and ((s 39 x2.toNat)) ((s 39 x4.toNat)))), (0, .inr (.inr 38)), (1, .inl (x1)), (2, .inl (x2)), (3, .inl (x3))]) (st1 := []) (h1 := (px_G1, s)) rfl ?_
          refine px_D_ls [(0, .inr (.inr 38)), (1, .inl (x1)), (2, .inl (x2)), (3, .inl (x3)), (4, .inl (px_wr (x4 + 1)))] rfl rfl (List.forall_mem_cons.mpr ⟨rfl, List.forall_mem_cons.mpr ⟨rfl, List.forall_mem_cons.mpr ⟨rfl, List.forall_mem_cons.mpr ⟨rfl, List.forall_mem_cons.mpr ⟨rfl, fun _ h => absurd h List.not_mem_nil⟩⟩⟩⟩⟩) ?_
          exact ih _ _ _ _ _ h
        · have hc9 : (s 39 x2.toNat) = (s 39 x4.toNat) := Decidable.of_not_not (of_decide_eq_false hc)
          rw [if_pos hc9] at h
          refine px_D_st 3 (ip1 := 12) (ls1 := [(4, .inl (px_wr (x4 + 1))), (3, .inl (px_wr (x3 + 1))), (5, .inl (px_and ((s 39 x2.toNat)) ((s 39 x4.toNat)))), (0, .inr (.inr 38)), (1, .inl (x1)), (2, .inl (x2))]) (st1 := []) (h1 := (px_G1, s)) rfl ?_
          refine px_D_ls [(0, .inr (.inr 38)), (1, .inl (x1)), (2, .inl (x2)), (3, .inl (px_wr (x3 + 1))), (4, .inl (px_wr (x4 + 1)))] rfl rfl (List.forall_mem_cons.mpr ⟨rfl, List.forall_mem_cons.mpr ⟨rfl, List.forall_mem_cons.mpr ⟨rfl, List.forall_mem_cons.mpr ⟨rfl, List.forall_mem_cons.mpr ⟨rfl, fun _ h => absurd h List.not_mem_nil⟩⟩⟩⟩⟩) ?_
          exact ih _ _ _ _ _ h
      · have hc6 : ¬ ((px_and ((s 39 x2.toNat)) ((s 39 x4.toNat))) = (s 39 x2.toNat)) := of_decide_eq_false hc
        rw [if_neg hc6] at h
        refine px_D_st 4 (ip1 := 35) (ls1 := [(5, .inl (px_and ((s 39 x2.toNat)) ((s 39 x4.toNat)))), (0, .inr (.inr 38)), (1, .inl (x1)), (2, .inl (x2)), (3, .inl (x3)), (4, .inl (x4))]) (st1 := [.inl (x4), .inr (.inr 39), .inl (px_and ((s 39 x2.toNat)) ((s 39 x4.toNat)))]) (h1 := (px_G1, s)) rfl ?_
        by_cases hc10 : 0 ≤ (x4) ∧ (x4) < 8
        case neg => rw [if_neg hc10] at h; cases h
        rw [if_pos hc10] at h
        refine px_D_iald (k := 34) (n := 8) rfl rfl hc10 ?_
        refine px_D_icmp rfl (fun hc => ?_) (fun hc => ?_)
        · have hc11 : (px_and ((s 39 x2.toNat)) ((s 39 x4.toNat))) = (s 39 x4.toNat) := of_decide_eq_true hc
          rw [if_pos hc11] at h
          refine px_D_st 3 (ip1 := 42) (ls1 := [(5, .inl (px_and ((s 39 x2.toNat)) ((s 39 x4.toNat)))), (0, .inr (.inr 38)), (1, .inl (x1)), (2, .inl (x2)), (3, .inl (x3)), (4, .inl (x4))]) (st1 := [.inl (x2), .inr (.inr 39)]) (h1 := (px_G1, s)) rfl ?_
          by_cases hc12 : 0 ≤ (x2) ∧ (x2) < 8
          case neg => rw [if_neg hc12] at h; cases h
          rw [if_pos hc12] at h
          refine px_D_iald (k := 34) (n := 8) rfl rfl hc12 ?_
          refine px_D_st 3 (ip1 := 46) (ls1 := [(5, .inl (px_and ((s 39 x2.toNat)) ((s 39 x4.toNat)))), (0, .inr (.inr 38)), (1, .inl (x1)), (2, .inl (x2)), (3, .inl (x3)), (4, .inl (x4))]) (st1 := [.inl (x4), .inr (.inr 39), .inl (s 39 x2.toNat)]) (h1 := (px_G1, s)) rfl ?_
          by_cases hc13 : 0 ≤ (x4) ∧ (x4) < 8
          case neg => rw [if_neg hc13] at h; cases h
          rw [if_pos hc13] at h
          refine px_D_iald (k := 34) (n := 8) rfl rfl hc13 ?_
          refine px_D_icmp rfl (fun hc => ?_) (fun hc => ?_)
          · have hc14 : ¬ ((s 39 x2.toNat) = (s 39 x4.toNat)) := of_decide_eq_true hc
            rw [if_neg hc14] at h
            refine px_D_st 2 (ip1 := 12) (ls1 := [(4, .inl (px_wr (x4 + 1))), (5, .inl (px_and ((s 39 x2.toNat)) ((s 39 x4.toNat)))), (0, .inr (.inr 38)), (1, .inl (x1)), (2, .inl (x2)), (3, .inl (x3))]) (st1 := []) (h1 := (px_G1, s)) rfl ?_
            refine px_D_ls [(0, .inr (.inr 38)), (1, .inl (x1)), (2, .inl (x2)), (3, .inl (x3)), (4, .inl (px_wr (x4 + 1)))] rfl rfl (List.forall_mem_cons.mpr ⟨rfl, List.forall_mem_cons.mpr ⟨rfl, List.forall_mem_cons.mpr ⟨rfl, List.forall_mem_cons.mpr ⟨rfl, List.forall_mem_cons.mpr ⟨rfl, fun _ h => absurd h List.not_mem_nil⟩⟩⟩⟩⟩) ?_
            exact ih _ _ _ _ _ h
          · have hc14 : (s 39 x2.toNat) = (s 39 x4.toNat) := Decidable.of_not_not (of_decide_eq_false hc)
            rw [if_pos hc14] at h
            refine px_D_st 3 (ip1 := 12) (ls1 := [(4, .inl (px_wr (x4 + 1))), (3, .inl (px_wr (x3 + 1))), (5, .inl (px_and ((s 39 x2.toNat)) ((s 39 x4.toNat)))), (0, .inr (.inr 38)), (1, .inl (x1)), (2, .inl (x2))]) (st1 := []) (h1 := (px_G1, s)) rfl ?_
            refine px_D_ls [(0, .inr (.inr 38)), (1, .inl (x1)), (2, .inl (x2)), (3, .inl (px_wr (x3 + 1))), (4, .inl (px_wr (x4 + 1)))] rfl rfl (List.forall_mem_cons.mpr ⟨rfl, List.forall_mem_cons.mpr ⟨rfl, List.forall_mem_cons.mpr ⟨rfl, List.forall_mem_cons.mpr ⟨rfl, List.forall_mem_cons.mpr ⟨rfl, fun _ h => absurd h List.not_mem_nil⟩⟩⟩⟩⟩) ?_
            exact ih _ _ _ _ _ h
        · have hc11 : ¬ ((px_and ((s 39 x2.toNat)) ((s 39 x4.toNat))) = (s 39 x4.toNat)) := of_decide_eq_false hc
          rw [if_neg hc11] at h
          refine px_D_st 1 (ip1 := 38) (ls1 := [(5, .inl (px_and ((s 39 x2.toNat)) ((s 39 x4.toNat)))), (0, .inr (.inr 38)), (1, .inl (x1)), (2, .inl (x2)), (3, .inl (x3)), (4, .inl (x4))]) (st1 := [.inl (0)]) (h1 := (px_G1, s)) rfl ?_
          cases h
          exact px_D_iret rfl rfl ⟨rfl, rfl⟩
def l_Told_letterOrders_4 (s : px_Z)  : Nat → Int → Int → Option (Int)
  | 0, _, _ => none
  | n + 1, x1, x2 => if (s 38 0) ≤ (x2) then some x1 else l_Told_letterOrders_12 s (fun x1 x2 x3 => l_Told_letterOrders_4 s  n (px_wr (x1 * x3)) (px_wr (x2 + 1))) px_big x1 x2 1 0
set_option maxHeartbeats 4000000 in
set_option maxRecDepth 100000 in
theorem cl_Told_letterOrders_4 {sc : List Int} {d : Nat} {s : px_Z}  : ∀ (n : Nat) (x1 : Int) (x2 : Int) (out : Int), l_Told_letterOrders_4 s  n x1 x2 = some out → px_D sc (d + 0) 68 4 [(0, .inr (.inr 38)), (1, .inl (x1)), (2, .inl (x2))] [] (px_G1, s) (px_Qp s out) := by
  intro n
  induction n with
  | zero => intro x1 x2 out h; cases h
  | succ n ih =>
    intro x1 x2 out h
    rw [l_Told_letterOrders_4] at h
    refine px_D_st 3 (ip1 := 7) (ls1 := [(0, .inr (.inr 38)), (1, .inl (x1)), (2, .inl (x2))]) (st1 := [.inl (s 38 0), .inl (x2)]) (h1 := (px_G1, s)) rfl ?_
    refine px_D_icmp rfl (fun hc => ?_) (fun hc => ?_)
    · have hc1 : (s 38 0) ≤ (x2) := of_decide_eq_true hc
      rw [if_pos hc1] at h
      refine px_D_st 1 (ip1 := 58) (ls1 := [(0, .inr (.inr 38)), (1, .inl (x1)), (2, .inl (x2))]) (st1 := [.inl (x1)]) (h1 := (px_G1, s)) rfl ?_
      cases h
      exact px_D_iret rfl rfl ⟨rfl, rfl⟩
    · have hc1 : ¬ ((s 38 0) ≤ (x2)) := of_decide_eq_false hc
      rw [if_neg hc1] at h
      refine px_D_st 4 (ip1 := 12) (ls1 := [(4, .inl (0)), (3, .inl (1)), (0, .inr (.inr 38)), (1, .inl (x1)), (2, .inl (x2))]) (st1 := []) (h1 := (px_G1, s)) rfl ?_
      refine px_D_ls [(0, .inr (.inr 38)), (1, .inl (x1)), (2, .inl (x2)), (3, .inl (1)), (4, .inl (0))] rfl rfl (List.forall_mem_cons.mpr ⟨rfl, List.forall_mem_cons.mpr ⟨rfl, List.forall_mem_cons.mpr ⟨rfl, List.forall_mem_cons.mpr ⟨rfl, List.forall_mem_cons.mpr ⟨rfl, fun _ h => absurd h List.not_mem_nil⟩⟩⟩⟩⟩) ?_
      refine cl_Told_letterOrders_12 ?_ px_big _ _ _ _ _ h
      · intro x1 x2 x3 out h
        refine px_D_st 6 (ip1 := 4) (ls1 := [(2, .inl (px_wr (x2 + 1))), (1, .inl (px_wr (x1 * x3))), (0, .inr (.inr 38)), (3, .inl (x3))]) (st1 := []) (h1 := (px_G1, s)) rfl ?_
        refine px_D_ls [(0, .inr (.inr 38)), (1, .inl (px_wr (x1 * x3))), (2, .inl (px_wr (x2 + 1)))] rfl rfl (List.forall_mem_cons.mpr ⟨rfl, List.forall_mem_cons.mpr ⟨rfl, List.forall_mem_cons.mpr ⟨rfl, fun _ h => absurd h List.not_mem_nil⟩⟩⟩) ?_
        exact ih _ _ _ h
def f_Told_letterOrders (s : px_Z) : Option (Int) := l_Told_letterOrders_4 s  px_big 1 0
set_option maxHeartbeats 4000000 in
set_option maxRecDepth 100000 in
theorem c_Told_letterOrders {sc : List Int} {d : Nat} {s : px_Z} {out : Int} (h : f_Told_letterOrders s  = some out) : px_D sc (d + 0) 68 0 [(0, .inr (.inr 38))] [] (px_G1, s) (px_Qp s out) := by
  unfold f_Told_letterOrders at h
  refine px_D_st 4 (ip1 := 4) (ls1 := [(2, .inl (0)), (1, .inl (1)), (0, .inr (.inr 38))]) (st1 := []) (h1 := (px_G1, s)) rfl ?_
  refine px_D_ls [(0, .inr (.inr 38)), (1, .inl (1)), (2, .inl (0))] rfl rfl (List.forall_mem_cons.mpr ⟨rfl, List.forall_mem_cons.mpr ⟨rfl, List.forall_mem_cons.mpr ⟨rfl, fun _ h => absurd h List.not_mem_nil⟩⟩⟩) ?_
  refine cl_Told_letterOrders_4  px_big _ _ _ h

def l_Told_letterAt_10 (s : px_Z) (k36 : Int → Int → Int → Option (Int)) : Nat → Int → Int → Int → Int → Option (Int)
  | 0, _, _, _, _ => none
  | n + 1, x1, x2, x3, x4 => if (s 38 0) ≤ (x4) then k36 x1 x2 x3 else (if 0 ≤ (x4) ∧ (x4) < 8 then if 0 ≤ (x2) ∧ (x2) < 8 then if (0) < (px_wr ((f_Integer_bitCount s (s 39 x4.toNat)) - (f_Integer_bitCount s (s 39 x2.toNat)))) then l_Told_letterAt_10 s k36 n x1 x2 (px_wr (x3 + 1)) (px_wr (x4 + 1)) else (if (px_wr ((f_Integer_bitCount s (s 39 x4.toNat)) - (f_Integer_bitCount s (s 39 x2.toNat)))) = (0) then (if (x2) ≤ (x4) then l_Told_letterAt_10 s k36 n x1 x2 x3 (px_wr (x4 + 1)) else l_Told_letterAt_10 s k36 n x1 x2 (px_wr (x3 + 1)) (px_wr (x4 + 1))) else l_Told_letterAt_10 s k36 n x1 x2 x3 (px_wr (x4 + 1))) else none else none)
set_option maxHeartbeats 4000000 in
set_option maxRecDepth 100000 in
theorem cl_Told_letterAt_10 {sc : List Int} {d : Nat} {s : px_Z} {k36 : Int → Int → Int → Option (Int)}  (hk36 : ∀ (y1 : Int) (y2 : Int) (y3 : Int) (out : Int), k36 y1 y2 y3 = some out → px_D sc (d + 1) 69 36 [(0, .inr (.inr 38)), (1, .inl (y1)), (2, .inl (y2)), (3, .inl (y3))] [] (px_G1, s) (px_Qp s out)) : ∀ (n : Nat) (x1 : Int) (x2 : Int) (x3 : Int) (x4 : Int) (out : Int), l_Told_letterAt_10 s k36 n x1 x2 x3 x4 = some out → px_D sc (d + 1) 69 10 [(0, .inr (.inr 38)), (1, .inl (x1)), (2, .inl (x2)), (3, .inl (x3)), (4, .inl (x4))] [] (px_G1, s) (px_Qp s out) := by
  intro n
  induction n with
  | zero => intro x1 x2 x3 x4 out h; cases h
  | succ n ih =>
    intro x1 x2 x3 x4 out h
    rw [l_Told_letterAt_10] at h
    refine px_D_st 3 (ip1 := 13) (ls1 := [(0, .inr (.inr 38)), (1, .inl (x1)), (2, .inl (x2)), (3, .inl (x3)), (4, .inl (x4))]) (st1 := [.inl (s 38 0), .inl (x4)]) (h1 := (px_G1, s)) rfl ?_
    refine px_D_icmp rfl (fun hc => ?_) (fun hc => ?_)
    · have hc2 : (s 38 0) ≤ (x4) := of_decide_eq_true hc
      rw [if_pos hc2] at h
      refine px_D_ls [(0, .inr (.inr 38)), (1, .inl (x1)), (2, .inl (x2)), (3, .inl (x3))] rfl rfl (List.forall_mem_cons.mpr ⟨rfl, List.forall_mem_cons.mpr ⟨rfl, List.forall_mem_cons.mpr ⟨rfl, List.forall_mem_cons.mpr ⟨rfl, fun _ h => absurd h List.not_mem_nil⟩⟩⟩⟩) ?_
      exact hk36 _ _ _ _ h
    · have hc2 : ¬ ((s 38 0) ≤ (x4)) := of_decide_eq_false hc
      rw [if_neg hc2] at h
      refine px_D_st 3 (ip1 := 17) (ls1 := [(0, .inr (.inr 38)), (1, .inl (x1)), (2, .inl (x2)), (3, .inl (x3)), (4, .inl (x4))]) (st1 := [.inl (x4), .inr (.inr 39)]) (h1 := (px_G1, s)) rfl ?_
      by_cases hc3 : 0 ≤ (x4) ∧ (x4) < 8
      case neg => rw [if_neg hc3] at h; cases h
      rw [if_pos hc3] at h
      refine px_D_iald (k := 34) (n := 8) rfl rfl hc3 ?_
      refine px_D_call (as := [.inl (s 39 x4.toNat)]) (rest := []) rfl rfl rfl rfl ?_
      refine px_D_mono (c_Integer_bitCount (d := d + 0) rfl) ?_
      rintro _ _ ⟨rfl, rfl⟩
      show px_D sc (d + 1) 69 19 [(0, .inr (.inr 38)), (1, .inl (x1)), (2, .inl (x2)), (3, .inl (x3)), (4, .inl (x4))] [.inl (f_Integer_bitCount s (s 39 x4.toNat))] (px_G1, s) _
      refine px_D_st 3 (ip1 := 22) (ls1 := [(0, .inr (.inr 38)), (1, .inl (x1)), (2, .inl (x2)), (3, .inl (x3)), (4, .inl (x4))]) (st1 := [.inl (x2), .inr (.inr 39), .inl (f_Integer_bitCount s (s 39 x4.toNat))]) (h1 := (px_G1, s)) rfl ?_
      by_cases hc4 : 0 ≤ (x2) ∧ (x2) < 8
      case neg => rw [if_neg hc4] at h; cases h
      rw [if_pos hc4] at h
      refine px_D_iald (k := 34) (n := 8) rfl rfl hc4 ?_
      refine px_D_call (as := [.inl (s 39 x2.toNat)]) (rest := [.inl (f_Integer_bitCount s (s 39 x4.toNat))]) rfl rfl rfl rfl ?_
      refine px_D_mono (c_Integer_bitCount (d := d + 0) rfl) ?_
      rintro _ _ ⟨rfl, rfl⟩
      show px_D sc (d + 1) 69 24 [(0, .inr (.inr 38)), (1, .inl (x1)), (2, .inl (x2)), (3, .inl (x3)), (4, .inl (x4))] [.inl (f_Integer_bitCount s (s 39 x2.toNat)), .inl (f_Integer_bitCount s (s 39 x4.toNat))] (px_G1, s) _
      refine px_D_st 3 (ip1 := 27) (ls1 := [(5, .inl (px_wr ((f_Integer_bitCount s (s 39 x4.toNat)) - (f_Integer_bitCount s (s 39 x2.toNat))))), (0, .inr (.inr 38)), (1, .inl (x1)), (2, .inl (x2)), (3, .inl (x3)), (4, .inl (x4))]) (st1 := [.inl (px_wr ((f_Integer_bitCount s (s 39 x4.toNat)) - (f_Integer_bitCount s (s 39 x2.toNat))))]) (h1 := (px_G1, s)) rfl ?_
      refine px_D_ifc rfl (fun hc => ?_) (fun hc => ?_)
      · have hc5 : (0) < (px_wr ((f_Integer_bitCount s (s 39 x4.toNat)) - (f_Integer_bitCount s (s 39 x2.toNat)))) := of_decide_eq_true hc
        rw [if_pos hc5] at h
        refine px_D_st 3 (ip1 := 10) (ls1 := [(4, .inl (px_wr (x4 + 1))), (3, .inl (px_wr (x3 + 1))), (5, .inl (px_wr ((f_Integer_bitCount s (s 39 x4.toNat)) - (f_Integer_bitCount s (s 39 x2.toNat))))), (0, .inr (.inr 38)), (1, .inl (x1)), (2, .inl (x2))]) (st1 := []) (h1 := (px_G1, s)) rfl ?_
        refine px_D_ls [(0, .inr (.inr 38)), (1, .inl (x1)), (2, .inl (x2)), (3, .inl (px_wr (x3 + 1))), (4, .inl (px_wr (x4 + 1)))] rfl rfl (List.forall_mem_cons.mpr ⟨rfl, List.forall_mem_cons.mpr ⟨rfl, List.forall_mem_cons.mpr ⟨rfl, List.forall_mem_cons.mpr ⟨rfl, List.forall_mem_cons.mpr ⟨rfl, fun _ h => absurd h List.not_mem_nil⟩⟩⟩⟩⟩) ?_
        exact ih _ _ _ _ _ h
      · have hc5 : ¬ ((0) < (px_wr ((f_Integer_bitCount s (s 39 x4.toNat)) - (f_Integer_bitCount s (s 39 x2.toNat))))) := of_decide_eq_false hc
        rw [if_neg hc5] at h
        refine px_D_st 1 (ip1 := 29) (ls1 := [(5, .inl (px_wr ((f_Integer_bitCount s (s 39 x4.toNat)) - (f_Integer_bitCount s (s 39 x2.toNat))))), (0, .inr (.inr 38)), (1, .inl (x1)), (2, .inl (x2)), (3, .inl (x3)), (4, .inl (x4))]) (st1 := [.inl (px_wr ((f_Integer_bitCount s (s 39 x4.toNat)) - (f_Integer_bitCount s (s 39 x2.toNat))))]) (h1 := (px_G1, s)) rfl ?_
        refine px_D_ifc rfl (fun hc => ?_) (fun hc => ?_)
        · have hc6 : ¬ ((px_wr ((f_Integer_bitCount s (s 39 x4.toNat)) - (f_Integer_bitCount s (s 39 x2.toNat)))) = (0)) := of_decide_eq_true hc
          rw [if_neg hc6] at h
          refine px_D_st 2 (ip1 := 10) (ls1 := [(4, .inl (px_wr (x4 + 1))), (5, .inl (px_wr ((f_Integer_bitCount s (s 39 x4.toNat)) - (f_Integer_bitCount s (s 39 x2.toNat))))), (0, .inr (.inr 38)), (1, .inl (x1)), (2, .inl (x2)), (3, .inl (x3))]) (st1 := []) (h1 := (px_G1, s)) rfl ?_
          refine px_D_ls [(0, .inr (.inr 38)), (1, .inl (x1)), (2, .inl (x2)), (3, .inl (x3)), (4, .inl (px_wr (x4 + 1)))] rfl rfl (List.forall_mem_cons.mpr ⟨rfl, List.forall_mem_cons.mpr ⟨rfl, List.forall_mem_cons.mpr ⟨rfl, List.forall_mem_cons.mpr ⟨rfl, List.forall_mem_cons.mpr ⟨rfl, fun _ h => absurd h List.not_mem_nil⟩⟩⟩⟩⟩) ?_
          exact ih _ _ _ _ _ h
        · have hc6 : (px_wr ((f_Integer_bitCount s (s 39 x4.toNat)) - (f_Integer_bitCount s (s 39 x2.toNat)))) = (0) := Decidable.of_not_not (of_decide_eq_false hc)
          rw [if_pos hc6] at h
          refine px_D_st 2 (ip1 := 32) (ls1 := [(5, .inl (px_wr ((f_Integer_bitCount s (s 39 x4.toNat)) - (f_Integer_bitCount s (s 39 x2.toNat))))), (0, .inr (.inr 38)), (1, .inl (x1)), (2, .inl (x2)), (3, .inl (x3)), (4, .inl (x4))]) (st1 := [.inl (x2), .inl (x4)]) (h1 := (px_G1, s)) rfl ?_
          refine px_D_icmp rfl (fun hc => ?_) (fun hc => ?_)
          · have hc7 : (x2) ≤ (x4) := of_decide_eq_true hc
            rw [if_pos hc7] at h
            refine px_D_st 2 (ip1 := 10) (ls1 := [(4, .inl (px_wr (x4 + 1))), (5, .inl (px_wr ((f_Integer_bitCount s (s 39 x4.toNat)) - (f_Integer_bitCount s (s 39 x2.toNat))))), (0, .inr (.inr 38)), (1, .inl (x1)), (2, .inl (x2)), (3, .inl (x3))]) (st1 := []) (h1 := (px_G1, s)) rfl ?_
            refine px_D_ls [(0, .inr (.inr 38)), (1, .inl (x1)), (2, .inl (x2)), (3, .inl (x3)), (4, .inl (px_wr (x4 + 1)))] rfl rfl (List.forall_mem_cons.mpr ⟨rfl, List.forall_mem_cons.mpr ⟨rfl, List.forall_mem_cons.mpr ⟨rfl, List.forall_mem_cons.mpr ⟨rfl, List.forall_mem_cons.mpr ⟨rfl, fun _ h => absurd h List.not_mem_nil⟩⟩⟩⟩⟩) ?_
            exact ih _ _ _ _ _ h
          · have hc7 : ¬ ((x2) ≤ (x4)) := of_decide_eq_false hc
            rw [if_neg hc7] at h
            refine px_D_st 3 (ip1 := 10) (ls1 := [(4, .inl (px_wr (x4 + 1))), (3, .inl (px_wr (x3 + 1))), (5, .inl (px_wr ((f_Integer_bitCount s (s 39 x4.toNat)) - (f_Integer_bitCount s (s 39 x2.toNat))))), (0, .inr (.inr 38)), (1, .inl (x1)), (2, .inl (x2))]) (st1 := []) (h1 := (px_G1, s)) rfl ?_
            refine px_D_ls [(0, .inr (.inr 38)), (1, .inl (x1)), (2, .inl (x2)), (3, .inl (px_wr (x3 + 1))), (4, .inl (px_wr (x4 + 1)))] rfl rfl (List.forall_mem_cons.mpr ⟨rfl, List.forall_mem_cons.mpr ⟨rfl, List.forall_mem_cons.mpr ⟨rfl, List.forall_mem_cons.mpr ⟨rfl, List.forall_mem_cons.mpr ⟨rfl, fun _ h => absurd h List.not_mem_nil⟩⟩⟩⟩⟩) ?_
            exact ih _ _ _ _ _ h
def l_Told_letterAt_2 (s : px_Z)  : Nat → Int → Int → Option (Int)
  | 0, _, _ => none
  | n + 1, x1, x2 => if (s 38 0) ≤ (x2) then some (-1) else l_Told_letterAt_10 s (fun x1 x2 x3 => if (x3) = (x1) then some x2 else l_Told_letterAt_2 s  n x1 (px_wr (x2 + 1))) px_big x1 x2 0 0
set_option maxHeartbeats 4000000 in
set_option maxRecDepth 100000 in
theorem cl_Told_letterAt_2 {sc : List Int} {d : Nat} {s : px_Z}  : ∀ (n : Nat) (x1 : Int) (x2 : Int) (out : Int), l_Told_letterAt_2 s  n x1 x2 = some out → px_D sc (d + 1) 69 2 [(0, .inr (.inr 38)), (1, .inl (x1)), (2, .inl (x2))] [] (px_G1, s) (px_Qp s out) := by
  intro n
  induction n with
  | zero => intro x1 x2 out h; cases h
  | succ n ih =>
    intro x1 x2 out h
    rw [l_Told_letterAt_2] at h
    refine px_D_st 3 (ip1 := 5) (ls1 := [(0, .inr (.inr 38)), (1, .inl (x1)), (2, .inl (x2))]) (st1 := [.inl (s 38 0), .inl (x2)]) (h1 := (px_G1, s)) rfl ?_
    refine px_D_icmp rfl (fun hc => ?_) (fun hc => ?_)
    · have hc1 : (s 38 0) ≤ (x2) := of_decide_eq_true hc
      rw [if_pos hc1] at h
      refine px_D_st 1 (ip1 := 44) (ls1 := [(0, .inr (.inr 38)), (1, .inl (x1)), (2, .inl (x2))]) (st1 := [.inl ((-1))]) (h1 := (px_G1, s)) rfl ?_
      cases h
      exact px_D_iret rfl rfl ⟨rfl, rfl⟩
    · have hc1 : ¬ ((s 38 0) ≤ (x2)) := of_decide_eq_false hc
      rw [if_neg hc1] at h
      refine px_D_st 4 (ip1 := 10) (ls1 := [(4, .inl (0)), (3, .inl (0)), (0, .inr (.inr 38)), (1, .inl (x1)), (2, .inl (x2))]) (st1 := []) (h1 := (px_G1, s)) rfl ?_
      refine px_D_ls [(0, .inr (.inr 38)), (1, .inl (x1)), (2, .inl (x2)), (3, .inl (0)), (4, .inl (0))] rfl rfl (List.forall_mem_cons.mpr ⟨rfl, List.forall_mem_cons.mpr ⟨rfl, List.forall_mem_cons.mpr ⟨rfl, List.forall_mem_cons.mpr ⟨rfl, List.forall_mem_cons.mpr ⟨rfl, fun _ h => absurd h List.not_mem_nil⟩⟩⟩⟩⟩) ?_
      refine cl_Told_letterAt_10 ?_ px_big _ _ _ _ _ h
      · intro x1 x2 x3 out h
        refine px_D_st 2 (ip1 := 38) (ls1 := [(0, .inr (.inr 38)), (1, .inl (x1)), (2, .inl (x2)), (3, .inl (x3))]) (st1 := [.inl (x1), .inl (x3)]) (h1 := (px_G1, s)) rfl ?_
        refine px_D_icmp rfl (fun hc => ?_) (fun hc => ?_)
        · have hc8 : ¬ ((x3) = (x1)) := of_decide_eq_true hc
          rw [if_neg hc8] at h
          refine px_D_st 2 (ip1 := 2) (ls1 := [(2, .inl (px_wr (x2 + 1))), (0, .inr (.inr 38)), (1, .inl (x1)), (3, .inl (x3))]) (st1 := []) (h1 := (px_G1, s)) rfl ?_
          refine px_D_ls [(0, .inr (.inr 38)), (1, .inl (x1)), (2, .inl (px_wr (x2 + 1)))] rfl rfl (List.forall_mem_cons.mpr ⟨rfl, List.forall_mem_cons.mpr ⟨rfl, List.forall_mem_cons.mpr ⟨rfl, fun _ h => absurd h List.not_mem_nil⟩⟩⟩) ?_
          exact ih _ _ _ h
        · have hc8 : (x3) = (x1) := Decidable.of_not_not (of_decide_eq_false hc)
          rw [if_pos hc8] at h
          refine px_D_st 1 (ip1 := 40) (ls1 := [(0, .inr (.inr 38)), (1, .inl (x1)), (2, .inl (x2)), (3, .inl (x3))]) (st1 := [.inl (x2)]) (h1 := (px_G1, s)) rfl ?_
          cases h
          exact px_D_iret rfl rfl ⟨rfl, rfl⟩
def f_Told_letterAt (s : px_Z) (x1 : Int) : Option (Int) := l_Told_letterAt_2 s  px_big x1 0
set_option maxHeartbeats 4000000 in
set_option maxRecDepth 100000 in
theorem c_Told_letterAt {sc : List Int} {d : Nat} {s : px_Z} {x1 : Int} {out : Int} (h : f_Told_letterAt s x1 = some out) : px_D sc (d + 1) 69 0 [(0, .inr (.inr 38)), (1, .inl (x1))] [] (px_G1, s) (px_Qp s out) := by
  unfold f_Told_letterAt at h
  refine px_D_st 2 (ip1 := 2) (ls1 := [(2, .inl (0)), (0, .inr (.inr 38)), (1, .inl (x1))]) (st1 := []) (h1 := (px_G1, s)) rfl ?_
  refine px_D_ls [(0, .inr (.inr 38)), (1, .inl (x1)), (2, .inl (0))] rfl rfl (List.forall_mem_cons.mpr ⟨rfl, List.forall_mem_cons.mpr ⟨rfl, List.forall_mem_cons.mpr ⟨rfl, fun _ h => absurd h List.not_mem_nil⟩⟩⟩) ?_
  refine cl_Told_letterAt_2  px_big _ _ _ h

def f_R_letters (s : px_Z) (x1 : Int) : Option (Int) := (f_Told_letterOrders s ).bind (fun q1 => if (x1) = (0) then some q1 else (if (x1) < (10) then some (-1) else (if (q1) = (0) then some (-1) else (f_Told_letterAt s (px_wr (x1 - 10))).bind (fun q5 => some q5))))
set_option maxHeartbeats 4000000 in
set_option maxRecDepth 100000 in
theorem c_R_letters {sc : List Int} {d : Nat} {s : px_Z} {x1 : Int} {out : Int} (h : f_R_letters s x1 = some out) : px_D sc (d + 2) 126 0 [(0, .inr (.inr 5)), (1, .inl (x1))] [] (px_G1, s) (px_Qp s out) := by
  unfold f_R_letters at h
  refine px_D_st 3 (ip1 := 3) (ls1 := [(0, .inr (.inr 5)), (1, .inl (x1))]) (st1 := [.inr (.inr 38)]) (h1 := (px_G1, s)) rfl ?_
  refine px_D_call (as := [.inr (.inr 38)]) (rest := []) rfl rfl rfl rfl ?_
  obtain ⟨q1, hq1, h⟩ := Option.bind_eq_some_iff.mp h
  refine px_D_mono (c_Told_letterOrders (d := d + 1) hq1) ?_
  rintro _ _ ⟨rfl, rfl⟩
  show px_D sc (d + 2) 126 4 [(0, .inr (.inr 5)), (1, .inl (x1))] [.inl (q1)] (px_G1, s) _
  refine px_D_st 2 (ip1 := 6) (ls1 := [(2, .inl (q1)), (0, .inr (.inr 5)), (1, .inl (x1))]) (st1 := [.inl (x1)]) (h1 := (px_G1, s)) rfl ?_
  refine px_D_ifc rfl (fun hc => ?_) (fun hc => ?_)
  · have hc2 : ¬ ((x1) = (0)) := of_decide_eq_true hc
    rw [if_neg hc2] at h
    refine px_D_st 2 (ip1 := 11) (ls1 := [(2, .inl (q1)), (0, .inr (.inr 5)), (1, .inl (x1))]) (st1 := [.inl (10), .inl (x1)]) (h1 := (px_G1, s)) rfl ?_
    refine px_D_icmp rfl (fun hc => ?_) (fun hc => ?_)
    · have hc3 : (x1) < (10) := of_decide_eq_true hc
      rw [if_pos hc3] at h
      refine px_D_st 2 (ip1 := 23) (ls1 := [(2, .inl (q1)), (0, .inr (.inr 5)), (1, .inl (x1))]) (st1 := [.inl ((-1))]) (h1 := (px_G1, s)) rfl ?_
      cases h
      exact px_D_iret rfl rfl ⟨rfl, rfl⟩
    · have hc3 : ¬ ((x1) < (10)) := of_decide_eq_false hc
      rw [if_neg hc3] at h
      refine px_D_st 1 (ip1 := 13) (ls1 := [(2, .inl (q1)), (0, .inr (.inr 5)), (1, .inl (x1))]) (st1 := [.inl (q1)]) (h1 := (px_G1, s)) rfl ?_
      refine px_D_ifc rfl (fun hc => ?_) (fun hc => ?_)
      · have hc4 : ¬ ((q1) = (0)) := of_decide_eq_true hc
        rw [if_neg hc4] at h
        refine px_D_st 6 (ip1 := 22) (ls1 := [(2, .inl (q1)), (0, .inr (.inr 5)), (1, .inl (x1))]) (st1 := [.inl (px_wr (x1 - 10)), .inr (.inr 38)]) (h1 := (px_G1, s)) rfl ?_
        refine px_D_call (as := [.inr (.inr 38), .inl (px_wr (x1 - 10))]) (rest := []) rfl rfl rfl rfl ?_
        obtain ⟨q5, hq5, h⟩ := Option.bind_eq_some_iff.mp h
        refine px_D_mono (c_Told_letterAt (d := d + 0) hq5) ?_
        rintro _ _ ⟨rfl, rfl⟩
        show px_D sc (d + 2) 126 23 [(2, .inl (q1)), (0, .inr (.inr 5)), (1, .inl (x1))] [.inl (q5)] (px_G1, s) _
        cases h
        exact px_D_iret rfl rfl ⟨rfl, rfl⟩
      · have hc4 : (q1) = (0) := Decidable.of_not_not (of_decide_eq_false hc)
        rw [if_pos hc4] at h
        refine px_D_st 2 (ip1 := 23) (ls1 := [(2, .inl (q1)), (0, .inr (.inr 5)), (1, .inl (x1))]) (st1 := [.inl ((-1))]) (h1 := (px_G1, s)) rfl ?_
        cases h
        exact px_D_iret rfl rfl ⟨rfl, rfl⟩
  · have hc2 : (x1) = (0) := Decidable.of_not_not (of_decide_eq_false hc)
    rw [if_pos hc2] at h
    refine px_D_st 1 (ip1 := 8) (ls1 := [(2, .inl (q1)), (0, .inr (.inr 5)), (1, .inl (x1))]) (st1 := [.inl (q1)]) (h1 := (px_G1, s)) rfl ?_
    cases h
    exact px_D_iret rfl rfl ⟨rfl, rfl⟩

def f_Told_addSight (s : px_Z) (x1 : Int) (x2 : Int) (x3 : Int) : Option (Int × px_Z) := if (s 38 1) < (12) then (if 0 ≤ (s 38 1) ∧ (s 38 1) < 12 then if 0 ≤ ((px_up s 40 (s 38 1).toNat x1) 38 1) ∧ ((px_up s 40 (s 38 1).toNat x1) 38 1) < 12 then if 0 ≤ ((px_up (px_up s 40 (s 38 1).toNat x1) 41 ((px_up s 40 (s 38 1).toNat x1) 38 1).toNat x2) 38 1) ∧ ((px_up (px_up s 40 (s 38 1).toNat x1) 41 ((px_up s 40 (s 38 1).toNat x1) 38 1).toNat x2) 38 1) < 12 then some (((px_up (px_up (px_up (px_up s 40 (s 38 1).toNat x1) 41 ((px_up s 40 (s 38 1).toNat x1) 38 1).toNat x2) 42 ((px_up (px_up s 40 (s 38 1).toNat x1) 41 ((px_up s 40 (s 38 1).toNat x1) 38 1).toNat x2) 38 1).toNat x3) 38 1 (px_wr (((px_up (px_up (px_up s 40 (s 38 1).toNat x1) 41 ((px_up s 40 (s 38 1).toNat x1) 38 1).toNat x2) 42 ((px_up (px_up s 40 (s 38 1).toNat x1) 41 ((px_up s 40 (s 38 1).toNat x1) 38 1).toNat x2) 38 1).toNat x3) 38 1) + 1))) 38 1, px_up (px_up (px_up (px_up s 40 (s 38 1).toNat x1) 41 ((px_up s 40 (s 38 1).toNat x1) 38 1).toNat x2) 42 ((px_up (px_up s 40 (s 38 1).toNat x1) 41 ((px_up s 40 (s 38 1).toNat x1) 38 1).toNat x2) 38 1).toNat x3) 38 1 (px_wr (((px_up (px_up (px_up s 40 (s 38 1).toNat x1) 41 ((px_up s 40 (s 38 1).toNat x1) 38 1).toNat x2) 42 ((px_up (px_up s 40 (s 38 1).toNat x1) 41 ((px_up s 40 (s 38 1).toNat x1) 38 1).toNat x2) 38 1).toNat x3) 38 1) + 1)))) else none else none else none) else some (((-1), s))
set_option maxHeartbeats 4000000 in
set_option maxRecDepth 100000 in
theorem c_Told_addSight {sc : List Int} {d : Nat} {s : px_Z} {x1 : Int} {x2 : Int} {x3 : Int} {out : Int × px_Z} (h : f_Told_addSight s x1 x2 x3 = some out) : px_D sc (d + 0) 66 0 [(0, .inr (.inr 38)), (1, .inl (x1)), (2, .inl (x2)), (3, .inl (x3))] [] (px_G1, s) (px_Qi out) := by
  unfold f_Told_addSight at h
  refine px_D_st 3 (ip1 := 3) (ls1 := [(0, .inr (.inr 38)), (1, .inl (x1)), (2, .inl (x2)), (3, .inl (x3))]) (st1 := [.inl (12), .inl (s 38 1)]) (h1 := (px_G1, s)) rfl ?_
  refine px_D_icmp rfl (fun hc => ?_) (fun hc => ?_)
  · have hc1 : (s 38 1) < (12) := of_decide_eq_true hc
    rw [if_pos hc1] at h
    refine px_D_st 5 (ip1 := 11) (ls1 := [(0, .inr (.inr 38)), (1, .inl (x1)), (2, .inl (x2)), (3, .inl (x3))]) (st1 := [.inl (x1), .inl (s 38 1), .inr (.inr 40)]) (h1 := (px_G1, s)) rfl ?_
    by_cases hc2 : 0 ≤ (s 38 1) ∧ (s 38 1) < 12
    case neg => rw [if_neg hc2] at h; cases h
    rw [if_pos hc2] at h
    refine px_D_iast (k := 35) (n := 12) rfl rfl hc2 ?_
    refine px_D_st 5 (ip1 := 17) (ls1 := [(0, .inr (.inr 38)), (1, .inl (x1)), (2, .inl (x2)), (3, .inl (x3))]) (st1 := [.inl (x2), .inl ((px_up s 40 (s 38 1).toNat x1) 38 1), .inr (.inr 41)]) (h1 := (px_G1, px_up s 40 (s 38 1).toNat x1)) rfl ?_
    by_cases hc3 : 0 ≤ ((px_up s 40 (s 38 1).toNat x1) 38 1) ∧ ((px_up s 40 (s 38 1).toNat x1) 38 1) < 12
    case neg => rw [if_neg hc3] at h; cases h
    rw [if_pos hc3] at h
    refine px_D_iast (k := 36) (n := 12) rfl rfl hc3 ?_
    refine px_D_st 5 (ip1 := 23) (ls1 := [(0, .inr (.inr 38)), (1, .inl (x1)), (2, .inl (x2)), (3, .inl (x3))]) (st1 := [.inl (x3), .inl ((px_up (px_up s 40 (s 38 1).toNat x1) 41 ((px_up s 40 (s 38 1).toNat x1) 38 1).toNat x2) 38 1), .inr (.inr 42)]) (h1 := (px_G1, px_up (px_up s 40 (s 38 1).toNat x1) 41 ((px_up s 40 (s 38 1).toNat x1) 38 1).toNat x2)) rfl ?_
    by_cases hc4 : 0 ≤ ((px_up (px_up s 40 (s 38 1).toNat x1) 41 ((px_up s 40 (s 38 1).toNat x1) 38 1).toNat x2) 38 1) ∧ ((px_up (px_up s 40 (s 38 1).toNat x1) 41 ((px_up s 40 (s 38 1).toNat x1) 38 1).toNat x2) 38 1) < 12
    case neg => rw [if_neg hc4] at h; cases h
    rw [if_pos hc4] at h
    refine px_D_iast (k := 37) (n := 12) rfl rfl hc4 ?_
    refine px_D_st 8 (ip1 := 32) (ls1 := [(0, .inr (.inr 38)), (1, .inl (x1)), (2, .inl (x2)), (3, .inl (x3))]) (st1 := [.inl ((px_up (px_up (px_up (px_up s 40 (s 38 1).toNat x1) 41 ((px_up s 40 (s 38 1).toNat x1) 38 1).toNat x2) 42 ((px_up (px_up s 40 (s 38 1).toNat x1) 41 ((px_up s 40 (s 38 1).toNat x1) 38 1).toNat x2) 38 1).toNat x3) 38 1 (px_wr (((px_up (px_up (px_up s 40 (s 38 1).toNat x1) 41 ((px_up s 40 (s 38 1).toNat x1) 38 1).toNat x2) 42 ((px_up (px_up s 40 (s 38 1).toNat x1) 41 ((px_up s 40 (s 38 1).toNat x1) 38 1).toNat x2) 38 1).toNat x3) 38 1) + 1))) 38 1)]) (h1 := (px_G1, px_up (px_up (px_up (px_up s 40 (s 38 1).toNat x1) 41 ((px_up s 40 (s 38 1).toNat x1) 38 1).toNat x2) 42 ((px_up (px_up s 40 (s 38 1).toNat x1) 41 ((px_up s 40 (s 38 1).toNat x1) 38 1).toNat x2) 38 1).toNat x3) 38 1 (px_wr (((px_up (px_up (px_up s 40 (s 38 1).toNat x1) 41 ((px_up s 40 (s 38 1).toNat x1) 38 1).toNat x2) 42 ((px_up (px_up s 40 (s 38 1).toNat x1) 41 ((px_up s 40 (s 38 1).toNat x1) 38 1).toNat x2) 38 1).toNat x3) 38 1) + 1)))) rfl ?_
    cases h
    exact px_D_iret rfl rfl ⟨rfl, rfl⟩
  · have hc1 : ¬ ((s 38 1) < (12)) := of_decide_eq_false hc
    rw [if_neg hc1] at h
    refine px_D_st 1 (ip1 := 5) (ls1 := [(0, .inr (.inr 38)), (1, .inl (x1)), (2, .inl (x2)), (3, .inl (x3))]) (st1 := [.inl ((-1))]) (h1 := (px_G1, s)) rfl ?_
    cases h
    exact px_D_iret rfl rfl ⟨rfl, rfl⟩

def f_R_sight (s : px_Z) (x1 : Int) (x2 : Int) (x3 : Int) : Option (Int × px_Z) := if (x1) = ((-1)) then some (0, px_up s 38 1 0) else (if (f_R_within s x1 0 (px_wr ((s 6 1) - 1))) = (0) then some (((-1), s)) else (if (f_R_within s x2 0 60) = (0) then some (((-1), s)) else (if (f_R_within s x3 0 99) = (0) then some (((-1), s)) else (f_Told_addSight s x1 x2 x3).bind (fun q5 => some (q5.1, q5.2)))))
set_option maxHeartbeats 4000000 in
set_option maxRecDepth 100000 in
theorem c_R_sight {sc : List Int} {d : Nat} {s : px_Z} {x1 : Int} {x2 : Int} {x3 : Int} {out : Int × px_Z} (h : f_R_sight s x1 x2 x3 = some out) : px_D sc (d + 1) 127 0 [(0, .inr (.inr 5)), (1, .inl (x1)), (2, .inl (x2)), (3, .inl (x3))] [] (px_G1, s) (px_Qi out) := by
  unfold f_R_sight at h
  refine px_D_st 2 (ip1 := 2) (ls1 := [(0, .inr (.inr 5)), (1, .inl (x1)), (2, .inl (x2)), (3, .inl (x3))]) (st1 := [.inl ((-1)), .inl (x1)]) (h1 := (px_G1, s)) rfl ?_
  refine px_D_icmp rfl (fun hc => ?_) (fun hc => ?_)
  · have hc1 : ¬ ((x1) = ((-1))) := of_decide_eq_true hc
    rw [if_neg hc1] at h
    refine px_D_st 7 (ip1 := 17) (ls1 := [(0, .inr (.inr 5)), (1, .inl (x1)), (2, .inl (x2)), (3, .inl (x3))]) (st1 := [.inl (px_wr ((s 6 1) - 1)), .inl (0), .inl (x1)]) (h1 := (px_G1, s)) rfl ?_
    refine px_D_call (as := [.inl (x1), .inl (0), .inl (px_wr ((s 6 1) - 1))]) (rest := []) rfl rfl rfl rfl ?_
    refine px_D_mono (c_R_within (d := d + 0) rfl) ?_
    rintro _ _ ⟨rfl, rfl⟩
    show px_D sc (d + 1) 127 18 [(0, .inr (.inr 5)), (1, .inl (x1)), (2, .inl (x2)), (3, .inl (x3))] [.inl (f_R_within s x1 0 (px_wr ((s 6 1) - 1)))] (px_G1, s) _
    refine px_D_ifc rfl (fun hc => ?_) (fun hc => ?_)
    · have hc2 : (f_R_within s x1 0 (px_wr ((s 6 1) - 1))) = (0) := of_decide_eq_true hc
      rw [if_pos hc2] at h
      refine px_D_st 1 (ip1 := 30) (ls1 := [(0, .inr (.inr 5)), (1, .inl (x1)), (2, .inl (x2)), (3, .inl (x3))]) (st1 := [.inl ((-1))]) (h1 := (px_G1, s)) rfl ?_
      cases h
      exact px_D_iret rfl rfl ⟨rfl, rfl⟩
    · have hc2 : ¬ ((f_R_within s x1 0 (px_wr ((s 6 1) - 1))) = (0)) := of_decide_eq_false hc
      rw [if_neg hc2] at h
      refine px_D_st 3 (ip1 := 22) (ls1 := [(0, .inr (.inr 5)), (1, .inl (x1)), (2, .inl (x2)), (3, .inl (x3))]) (st1 := [.inl (60), .inl (0), .inl (x2)]) (h1 := (px_G1, s)) rfl ?_
      refine px_D_call (as := [.inl (x2), .inl (0), .inl (60)]) (rest := []) rfl rfl rfl rfl ?_
      refine px_D_mono (c_R_within (d := d + 0) rfl) ?_
      rintro _ _ ⟨rfl, rfl⟩
      show px_D sc (d + 1) 127 23 [(0, .inr (.inr 5)), (1, .inl (x1)), (2, .inl (x2)), (3, .inl (x3))] [.inl (f_R_within s x2 0 60)] (px_G1, s) _
      refine px_D_ifc rfl (fun hc => ?_) (fun hc => ?_)
      · have hc3 : (f_R_within s x2 0 60) = (0) := of_decide_eq_true hc
        rw [if_pos hc3] at h
        refine px_D_st 1 (ip1 := 30) (ls1 := [(0, .inr (.inr 5)), (1, .inl (x1)), (2, .inl (x2)), (3, .inl (x3))]) (st1 := [.inl ((-1))]) (h1 := (px_G1, s)) rfl ?_
        cases h
        exact px_D_iret rfl rfl ⟨rfl, rfl⟩
      · have hc3 : ¬ ((f_R_within s x2 0 60) = (0)) := of_decide_eq_false hc
        rw [if_neg hc3] at h
        refine px_D_st 3 (ip1 := 27) (ls1 := [(0, .inr (.inr 5)), (1, .inl (x1)), (2, .inl (x2)), (3, .inl (x3))]) (st1 := [.inl (99), .inl (0), .inl (x3)]) (h1 := (px_G1, s)) rfl ?_
        refine px_D_call (as := [.inl (x3), .inl (0), .inl (99)]) (rest := []) rfl rfl rfl rfl ?_
        refine px_D_mono (c_R_within (d := d + 0) rfl) ?_
        rintro _ _ ⟨rfl, rfl⟩
        show px_D sc (d + 1) 127 28 [(0, .inr (.inr 5)), (1, .inl (x1)), (2, .inl (x2)), (3, .inl (x3))] [.inl (f_R_within s x3 0 99)] (px_G1, s) _
        refine px_D_ifc rfl (fun hc => ?_) (fun hc => ?_)
        · have hc4 : ¬ ((f_R_within s x3 0 99) = (0)) := of_decide_eq_true hc
          rw [if_neg hc4] at h
          refine px_D_st 6 (ip1 := 37) (ls1 := [(0, .inr (.inr 5)), (1, .inl (x1)), (2, .inl (x2)), (3, .inl (x3))]) (st1 := [.inl (x3), .inl (x2), .inl (x1), .inr (.inr 38)]) (h1 := (px_G1, s)) rfl ?_
          refine px_D_call (as := [.inr (.inr 38), .inl (x1), .inl (x2), .inl (x3)]) (rest := []) rfl rfl rfl rfl ?_
          obtain ⟨q5, hq5, h⟩ := Option.bind_eq_some_iff.mp h
          refine px_D_mono (c_Told_addSight (d := d + 0) hq5) ?_
          rintro _ _ ⟨rfl, rfl⟩
          show px_D sc (d + 1) 127 38 [(0, .inr (.inr 5)), (1, .inl (x1)), (2, .inl (x2)), (3, .inl (x3))] [.inl (q5.1)] (px_G1, q5.2) _
          cases h
          exact px_D_iret rfl rfl ⟨rfl, rfl⟩
        · have hc4 : (f_R_within s x3 0 99) = (0) := Decidable.of_not_not (of_decide_eq_false hc)
          rw [if_pos hc4] at h
          refine px_D_st 1 (ip1 := 30) (ls1 := [(0, .inr (.inr 5)), (1, .inl (x1)), (2, .inl (x2)), (3, .inl (x3))]) (st1 := [.inl ((-1))]) (h1 := (px_G1, s)) rfl ?_
          cases h
          exact px_D_iret rfl rfl ⟨rfl, rfl⟩
  · have hc1 : (x1) = ((-1)) := Decidable.of_not_not (of_decide_eq_false hc)
    rw [if_pos hc1] at h
    refine px_D_st 6 (ip1 := 9) (ls1 := [(0, .inr (.inr 5)), (1, .inl (x1)), (2, .inl (x2)), (3, .inl (x3))]) (st1 := [.inl (0)]) (h1 := (px_G1, px_up s 38 1 0)) rfl ?_
    cases h
    exact px_D_iret rfl rfl ⟨rfl, rfl⟩

def j_Told_gainsay_j18 (s : px_Z) (x1 : Int) (x2 : Int) : Option (Int) := if 0 ≤ (x1) ∧ (x1) < 12 then if 0 ≤ (x2) ∧ (x2) < 12 then if (s 41 x1.toNat) = (s 41 x2.toNat) then (if 0 ≤ (x1) ∧ (x1) < 12 then if 0 ≤ (x2) ∧ (x2) < 12 then if (s 42 x1.toNat) = (s 42 x2.toNat) then some 0 else some 1 else none else none) else some 0 else none else none
set_option maxHeartbeats 4000000 in
set_option maxRecDepth 100000 in
theorem cj_Told_gainsay_j18 {sc : List Int} {d : Nat} {s : px_Z} {x1 : Int} {x2 : Int} {out : Int} (h : j_Told_gainsay_j18 s x1 x2 = some out) : px_D sc (d + 0) 71 18 [(0, .inr (.inr 38)), (1, .inl (x1)), (2, .inl (x2))] [] (px_G1, s) (px_Qp s out) := by
  unfold j_Told_gainsay_j18 at h
  refine px_D_st 3 (ip1 := 21) (ls1 := [(0, .inr (.inr 38)), (1, .inl (x1)), (2, .inl (x2))]) (st1 := [.inl (x1), .inr (.inr 41)]) (h1 := (px_G1, s)) rfl ?_
  by_cases hc4 : 0 ≤ (x1) ∧ (x1) < 12
  case neg => rw [if_neg hc4] at h; cases h
  rw [if_pos hc4] at h
  refine px_D_iald (k := 36) (n := 12) rfl rfl hc4 ?_
  refine px_D_st 3 (ip1 := 25) (ls1 := [(0, .inr (.inr 38)), (1, .inl (x1)), (2, .inl (x2))]) (st1 := [.inl (x2), .inr (.inr 41), .inl (s 41 x1.toNat)]) (h1 := (px_G1, s)) rfl ?_
  by_cases hc5 : 0 ≤ (x2) ∧ (x2) < 12
  case neg => rw [if_neg hc5] at h; cases h
  rw [if_pos hc5] at h
  refine px_D_iald (k := 36) (n := 12) rfl rfl hc5 ?_
  refine px_D_icmp rfl (fun hc => ?_) (fun hc => ?_)
  · have hc6 : ¬ ((s 41 x1.toNat) = (s 41 x2.toNat)) := of_decide_eq_true hc
    rw [if_neg hc6] at h
    refine px_D_st 1 (ip1 := 39) (ls1 := [(0, .inr (.inr 38)), (1, .inl (x1)), (2, .inl (x2))]) (st1 := [.inl (0)]) (h1 := (px_G1, s)) rfl ?_
    cases h
    exact px_D_iret rfl rfl ⟨rfl, rfl⟩
  · have hc6 : (s 41 x1.toNat) = (s 41 x2.toNat) := Decidable.of_not_not (of_decide_eq_false hc)
    rw [if_pos hc6] at h
    refine px_D_st 3 (ip1 := 30) (ls1 := [(0, .inr (.inr 38)), (1, .inl (x1)), (2, .inl (x2))]) (st1 := [.inl (x1), .inr (.inr 42)]) (h1 := (px_G1, s)) rfl ?_
    by_cases hc7 : 0 ≤ (x1) ∧ (x1) < 12
    case neg => rw [if_neg hc7] at h; cases h
    rw [if_pos hc7] at h
    refine px_D_iald (k := 37) (n := 12) rfl rfl hc7 ?_
    refine px_D_st 3 (ip1 := 34) (ls1 := [(0, .inr (.inr 38)), (1, .inl (x1)), (2, .inl (x2))]) (st1 := [.inl (x2), .inr (.inr 42), .inl (s 42 x1.toNat)]) (h1 := (px_G1, s)) rfl ?_
    by_cases hc8 : 0 ≤ (x2) ∧ (x2) < 12
    case neg => rw [if_neg hc8] at h; cases h
    rw [if_pos hc8] at h
    refine px_D_iald (k := 37) (n := 12) rfl rfl hc8 ?_
    refine px_D_icmp rfl (fun hc => ?_) (fun hc => ?_)
    · have hc9 : (s 42 x1.toNat) = (s 42 x2.toNat) := of_decide_eq_true hc
      rw [if_pos hc9] at h
      refine px_D_st 1 (ip1 := 39) (ls1 := [(0, .inr (.inr 38)), (1, .inl (x1)), (2, .inl (x2))]) (st1 := [.inl (0)]) (h1 := (px_G1, s)) rfl ?_
      cases h
      exact px_D_iret rfl rfl ⟨rfl, rfl⟩
    · have hc9 : ¬ ((s 42 x1.toNat) = (s 42 x2.toNat)) := of_decide_eq_false hc
      rw [if_neg hc9] at h
      refine px_D_st 2 (ip1 := 39) (ls1 := [(0, .inr (.inr 38)), (1, .inl (x1)), (2, .inl (x2))]) (st1 := [.inl (1)]) (h1 := (px_G1, s)) rfl ?_
      cases h
      exact px_D_iret rfl rfl ⟨rfl, rfl⟩
def f_Told_gainsay (s : px_Z) (x1 : Int) (x2 : Int) : Option (Int) := if 0 ≤ (x1) ∧ (x1) < 12 then if 0 ≤ (x2) ∧ (x2) < 12 then if (s 41 x2.toNat) ≤ (s 41 x1.toNat) then j_Told_gainsay_j18 s x1 x2 else (if 0 ≤ (x1) ∧ (x1) < 12 then if 0 ≤ (x2) ∧ (x2) < 12 then if (s 42 x2.toNat) < (s 42 x1.toNat) then some 1 else j_Told_gainsay_j18 s x1 x2 else none else none) else none else none
set_option maxHeartbeats 4000000 in
set_option maxRecDepth 100000 in
theorem c_Told_gainsay {sc : List Int} {d : Nat} {s : px_Z} {x1 : Int} {x2 : Int} {out : Int} (h : f_Told_gainsay s x1 x2 = some out) : px_D sc (d + 0) 71 0 [(0, .inr (.inr 38)), (1, .inl (x1)), (2, .inl (x2))] [] (px_G1, s) (px_Qp s out) := by
  unfold f_Told_gainsay at h
  refine px_D_st 3 (ip1 := 3) (ls1 := [(0, .inr (.inr 38)), (1, .inl (x1)), (2, .inl (x2))]) (st1 := [.inl (x1), .inr (.inr 41)]) (h1 := (px_G1, s)) rfl ?_
  by_cases hc1 : 0 ≤ (x1) ∧ (x1) < 12
  case neg => rw [if_neg hc1] at h; cases h
  rw [if_pos hc1] at h
  refine px_D_iald (k := 36) (n := 12) rfl rfl hc1 ?_
  refine px_D_st 3 (ip1 := 7) (ls1 := [(0, .inr (.inr 38)), (1, .inl (x1)), (2, .inl (x2))]) (st1 := [.inl (x2), .inr (.inr 41), .inl (s 41 x1.toNat)]) (h1 := (px_G1, s)) rfl ?_
  by_cases hc2 : 0 ≤ (x2) ∧ (x2) < 12
  case neg => rw [if_neg hc2] at h; cases h
  rw [if_pos hc2] at h
  refine px_D_iald (k := 36) (n := 12) rfl rfl hc2 ?_
  refine px_D_icmp rfl (fun hc => ?_) (fun hc => ?_)
  · have hc3 : (s 41 x2.toNat) ≤ (s 41 x1.toNat) := of_decide_eq_true hc
    rw [if_pos hc3] at h
    refine px_D_ls [(0, .inr (.inr 38)), (1, .inl (x1)), (2, .inl (x2))] rfl rfl (List.forall_mem_cons.mpr ⟨rfl, List.forall_mem_cons.mpr ⟨rfl, List.forall_mem_cons.mpr ⟨rfl, fun _ h => absurd h List.not_mem_nil⟩⟩⟩) ?_
    exact cj_Told_gainsay_j18 h
  · have hc3 : ¬ ((s 41 x2.toNat) ≤ (s 41 x1.toNat)) := of_decide_eq_false hc
    rw [if_neg hc3] at h
    refine px_D_st 3 (ip1 := 12) (ls1 := [(0, .inr (.inr 38)), (1, .inl (x1)), (2, .inl (x2))]) (st1 := [.inl (x1), .inr (.inr 42)]) (h1 := (px_G1, s)) rfl ?_
    by_cases hc10 : 0 ≤ (x1) ∧ (x1) < 12
    case neg => rw [if_neg hc10] at h; cases h
    rw [if_pos hc10] at h
    refine px_D_iald (k := 37) (n := 12) rfl rfl hc10 ?_
    refine px_D_st 3 (ip1 := 16) (ls1 := [(0, .inr (.inr 38)), (1, .inl (x1)), (2, .inl (x2))]) (st1 := [.inl (x2), .inr (.inr 42), .inl (s 42 x1.toNat)]) (h1 := (px_G1, s)) rfl ?_
    by_cases hc11 : 0 ≤ (x2) ∧ (x2) < 12
    case neg => rw [if_neg hc11] at h; cases h
    rw [if_pos hc11] at h
    refine px_D_iald (k := 37) (n := 12) rfl rfl hc11 ?_
    refine px_D_icmp rfl (fun hc => ?_) (fun hc => ?_)
    · have hc12 : (s 42 x2.toNat) < (s 42 x1.toNat) := of_decide_eq_true hc
      rw [if_pos hc12] at h
      refine px_D_st 2 (ip1 := 39) (ls1 := [(0, .inr (.inr 38)), (1, .inl (x1)), (2, .inl (x2))]) (st1 := [.inl (1)]) (h1 := (px_G1, s)) rfl ?_
      cases h
      exact px_D_iret rfl rfl ⟨rfl, rfl⟩
    · have hc12 : ¬ ((s 42 x2.toNat) < (s 42 x1.toNat)) := of_decide_eq_false hc
      rw [if_neg hc12] at h
      refine px_D_ls [(0, .inr (.inr 38)), (1, .inl (x1)), (2, .inl (x2))] rfl rfl (List.forall_mem_cons.mpr ⟨rfl, List.forall_mem_cons.mpr ⟨rfl, List.forall_mem_cons.mpr ⟨rfl, fun _ h => absurd h List.not_mem_nil⟩⟩⟩) ?_
      exact cj_Told_gainsay_j18 h

def l_Told_falseThings_42 (s : px_Z) (k65 : Int → Int → Option (Int)) : Nat → Int → Int → Int → Int → Option (Int)
  | 0, _, _, _, _ => none
  | n + 1, x2, x3, x4, x5 => if (s 38 1) ≤ (x5) then k65 x2 x3 else (if 0 ≤ (x5) ∧ (x5) < 12 then if (s 40 x5.toNat) = (x4) then (f_Told_gainsay s x3 x5).bind (fun q8 => if (q8) = (0) then l_Told_falseThings_42 s k65 n x2 x3 x4 (px_wr (x5 + 1)) else l_Told_falseThings_42 s k65 n (px_or (x2) ((px_shl (1) (x4)))) x3 x4 (px_wr (x5 + 1))) else l_Told_falseThings_42 s k65 n x2 x3 x4 (px_wr (x5 + 1)) else none)
set_option maxHeartbeats 4000000 in
set_option maxRecDepth 100000 in
theorem cl_Told_falseThings_42 {sc : List Int} {d : Nat} {s : px_Z} {k65 : Int → Int → Option (Int)}  (hk65 : ∀ (y2 : Int) (y3 : Int) (out : Int), k65 y2 y3 = some out → px_D sc (d + 1) 70 65 [(0, .inr (.inr 38)), (1, .inr (.inr 7)), (2, .inl (y2)), (3, .inl (y3))] [] (px_G1, s) (px_Qp s out)) : ∀ (n : Nat) (x2 : Int) (x3 : Int) (x4 : Int) (x5 : Int) (out : Int), l_Told_falseThings_42 s k65 n x2 x3 x4 x5 = some out → px_D sc (d + 1) 70 42 [(0, .inr (.inr 38)), (1, .inr (.inr 7)), (2, .inl (x2)), (3, .inl (x3)), (4, .inl (x4)), (5, .inl (x5))] [] (px_G1, s) (px_Qp s out) := by
  intro n
  induction n with
  | zero => intro x2 x3 x4 x5 out h; cases h
  | succ n ih =>
    intro x2 x3 x4 x5 out h
    rw [l_Told_falseThings_42] at h
    refine px_D_st 3 (ip1 := 45) (ls1 := [(0, .inr (.inr 38)), (1, .inr (.inr 7)), (2, .inl (x2)), (3, .inl (x3)), (4, .inl (x4)), (5, .inl (x5))]) (st1 := [.inl (s 38 1), .inl (x5)]) (h1 := (px_G1, s)) rfl ?_
    refine px_D_icmp rfl (fun hc => ?_) (fun hc => ?_)
    · have hc5 : (s 38 1) ≤ (x5) := of_decide_eq_true hc
      rw [if_pos hc5] at h
      refine px_D_ls [(0, .inr (.inr 38)), (1, .inr (.inr 7)), (2, .inl (x2)), (3, .inl (x3))] rfl rfl (List.forall_mem_cons.mpr ⟨rfl, List.forall_mem_cons.mpr ⟨rfl, List.forall_mem_cons.mpr ⟨rfl, List.forall_mem_cons.mpr ⟨rfl, fun _ h => absurd h List.not_mem_nil⟩⟩⟩⟩) ?_
      exact hk65 _ _ _ h
    · have hc5 : ¬ ((s 38 1) ≤ (x5)) := of_decide_eq_false hc
      rw [if_neg hc5] at h
      refine px_D_st 3 (ip1 := 49) (ls1 := [(0, .inr (.inr 38)), (1, .inr (.inr 7)), (2, .inl (x2)), (3, .inl (x3)), (4, .inl (x4)), (5, .inl (x5))]) (st1 := [.inl (x5), .inr (.inr 40)]) (h1 := (px_G1, s)) rfl ?_
      by_cases hc6 : 0 ≤ (x5) ∧ (x5) < 12
      case neg => rw [if_neg hc6] at h; cases h
      rw [if_pos hc6] at h
      refine px_D_iald (k := 35) (n := 12) rfl rfl hc6 ?_
      refine px_D_st 1 (ip1 := 51) (ls1 := [(0, .inr (.inr 38)), (1, .inr (.inr 7)), (2, .inl (x2)), (3, .inl (x3)), (4, .inl (x4)), (5, .inl (x5))]) (st1 := [.inl (x4), .inl (s 40 x5.toNat)]) (h1 := (px_G1, s)) rfl ?_
      refine px_D_icmp rfl (fun hc => ?_) (fun hc => ?_)
      · have hc7 : ¬ ((s 40 x5.toNat) = (x4)) := of_decide_eq_true hc
        rw [if_neg hc7] at h
        refine px_D_st 2 (ip1 := 42) (ls1 := [(5, .inl (px_wr (x5 + 1))), (0, .inr (.inr 38)), (1, .inr (.inr 7)), (2, .inl (x2)), (3, .inl (x3)), (4, .inl (x4))]) (st1 := []) (h1 := (px_G1, s)) rfl ?_
        refine px_D_ls [(0, .inr (.inr 38)), (1, .inr (.inr 7)), (2, .inl (x2)), (3, .inl (x3)), (4, .inl (x4)), (5, .inl (px_wr (x5 + 1)))] rfl rfl (List.forall_mem_cons.mpr ⟨rfl, List.forall_mem_cons.mpr ⟨rfl, List.forall_mem_cons.mpr ⟨rfl, List.forall_mem_cons.mpr ⟨rfl, List.forall_mem_cons.mpr ⟨rfl, List.forall_mem_cons.mpr ⟨rfl, fun _ h => absurd h List.not_mem_nil⟩⟩⟩⟩⟩⟩) ?_
        exact ih _ _ _ _ _ h
      · have hc7 : (s 40 x5.toNat) = (x4) := Decidable.of_not_not (of_decide_eq_false hc)
        rw [if_pos hc7] at h
        refine px_D_st 3 (ip1 := 55) (ls1 := [(0, .inr (.inr 38)), (1, .inr (.inr 7)), (2, .inl (x2)), (3, .inl (x3)), (4, .inl (x4)), (5, .inl (x5))]) (st1 := [.inl (x5), .inl (x3), .inr (.inr 38)]) (h1 := (px_G1, s)) rfl ?_
        refine px_D_call (as := [.inr (.inr 38), .inl (x3), .inl (x5)]) (rest := []) rfl rfl rfl rfl ?_
        obtain ⟨q8, hq8, h⟩ := Option.bind_eq_some_iff.mp h
        refine px_D_mono (c_Told_gainsay (d := d + 0) hq8) ?_
        rintro _ _ ⟨rfl, rfl⟩
        show px_D sc (d + 1) 70 56 [(0, .inr (.inr 38)), (1, .inr (.inr 7)), (2, .inl (x2)), (3, .inl (x3)), (4, .inl (x4)), (5, .inl (x5))] [.inl (q8)] (px_G1, s) _
        refine px_D_ifc rfl (fun hc => ?_) (fun hc => ?_)
        · have hc9 : (q8) = (0) := of_decide_eq_true hc
          rw [if_pos hc9] at h
          refine px_D_st 2 (ip1 := 42) (ls1 := [(5, .inl (px_wr (x5 + 1))), (0, .inr (.inr 38)), (1, .inr (.inr 7)), (2, .inl (x2)), (3, .inl (x3)), (4, .inl (x4))]) (st1 := []) (h1 := (px_G1, s)) rfl ?_
          refine px_D_ls [(0, .inr (.inr 38)), (1, .inr (.inr 7)), (2, .inl (x2)), (3, .inl (x3)), (4, .inl (x4)), (5, .inl (px_wr (x5 + 1)))] rfl rfl (List.forall_mem_cons.mpr ⟨rfl, List.forall_mem_cons.mpr ⟨rfl, List.forall_mem_cons.mpr ⟨rfl, List.forall_mem_cons.mpr ⟨rfl, List.forall_mem_cons.mpr ⟨rfl, List.forall_mem_cons.mpr ⟨rfl, fun _ h => absurd h List.not_mem_nil⟩⟩⟩⟩⟩⟩) ?_
          exact ih _ _ _ _ _ h
        · have hc9 : ¬ ((q8) = (0)) := of_decide_eq_false hc
          rw [if_neg hc9] at h
          refine px_D_st 8 (ip1 := 42) (ls1 := [(5, .inl (px_wr (x5 + 1))), (2, .inl (px_or (x2) ((px_shl (1) (x4))))), (0, .inr (.inr 38)), (1, .inr (.inr 7)), (3, .inl (x3)), (4, .inl (x4))]) (st1 := []) (h1 := (px_G1, s)) rfl ?_
          refine px_D_ls [(0, .inr (.inr 38)), (1, .inr (.inr 7)), (2, .inl (px_or (x2) ((px_shl (1) (x4))))), (3, .inl (x3)), (4, .inl (x4)), (5, .inl (px_wr (x5 + 1)))] rfl rfl (List.forall_mem_cons.mpr ⟨rfl, List.forall_mem_cons.mpr ⟨rfl, List.forall_mem_cons.mpr ⟨rfl, List.forall_mem_cons.mpr ⟨rfl, List.forall_mem_cons.mpr ⟨rfl, List.forall_mem_cons.mpr ⟨rfl, fun _ h => absurd h List.not_mem_nil⟩⟩⟩⟩⟩⟩) ?_
          exact ih _ _ _ _ _ h
def l_Told_falseThings_4 (s : px_Z)  : Nat → Int → Int → Option (Int)
  | 0, _, _ => none
  | n + 1, x2, x3 => if (s 38 1) ≤ (x3) then some x2 else (if 0 ≤ (x3) ∧ (x3) < 12 then if 0 ≤ (x3) ∧ (x3) < 12 then if (s 7 4) < (s 41 x3.toNat) then l_Told_falseThings_42 s (fun x2 x3 => l_Told_falseThings_4 s  n x2 (px_wr (x3 + 1))) px_big x2 x3 (s 40 x3.toNat) 0 else (if (f_R_within s (s 40 x3.toNat) 0 7) = (0) then l_Told_falseThings_42 s (fun x2 x3 => l_Told_falseThings_4 s  n x2 (px_wr (x3 + 1))) px_big x2 x3 (s 40 x3.toNat) 0 else (if 0 ≤ (x3) ∧ (x3) < 12 then if 0 ≤ (s 40 x3.toNat) ∧ (s 40 x3.toNat) < 8 then if (s 42 x3.toNat) ≤ (s 8 (s 40 x3.toNat).toNat) then l_Told_falseThings_42 s (fun x2 x3 => l_Told_falseThings_4 s  n x2 (px_wr (x3 + 1))) px_big x2 x3 (s 40 x3.toNat) 0 else l_Told_falseThings_42 s (fun x2 x3 => l_Told_falseThings_4 s  n x2 (px_wr (x3 + 1))) px_big (px_or (x2) ((px_shl (1) ((s 40 x3.toNat))))) x3 (s 40 x3.toNat) 0 else none else none)) else none else none)
set_option maxHeartbeats 4000000 in
set_option maxRecDepth 100000 in
theorem cl_Told_falseThings_4 {sc : List Int} {d : Nat} {s : px_Z}  : ∀ (n : Nat) (x2 : Int) (x3 : Int) (out : Int), l_Told_falseThings_4 s  n x2 x3 = some out → px_D sc (d + 1) 70 4 [(0, .inr (.inr 38)), (1, .inr (.inr 7)), (2, .inl (x2)), (3, .inl (x3))] [] (px_G1, s) (px_Qp s out) := by
  intro n
  induction n with
  | zero => intro x2 x3 out h; cases h
  | succ n ih =>
    intro x2 x3 out h
    rw [l_Told_falseThings_4] at h
    refine px_D_st 3 (ip1 := 7) (ls1 := [(0, .inr (.inr 38)), (1, .inr (.inr 7)), (2, .inl (x2)), (3, .inl (x3))]) (st1 := [.inl (s 38 1), .inl (x3)]) (h1 := (px_G1, s)) rfl ?_
    refine px_D_icmp rfl (fun hc => ?_) (fun hc => ?_)
    · have hc1 : (s 38 1) ≤ (x3) := of_decide_eq_true hc
      rw [if_pos hc1] at h
      refine px_D_st 1 (ip1 := 68) (ls1 := [(0, .inr (.inr 38)), (1, .inr (.inr 7)), (2, .inl (x2)), (3, .inl (x3))]) (st1 := [.inl (x2)]) (h1 := (px_G1, s)) rfl ?_
      cases h
      exact px_D_iret rfl rfl ⟨rfl, rfl⟩
    · have hc1 : ¬ ((s 38 1) ≤ (x3)) := of_decide_eq_false hc
      rw [if_neg hc1] at h
      refine px_D_st 3 (ip1 := 11) (ls1 := [(0, .inr (.inr 38)), (1, .inr (.inr 7)), (2, .inl (x2)), (3, .inl (x3))]) (st1 := [.inl (x3), .inr (.inr 40)]) (h1 := (px_G1, s)) rfl ?_
      by_cases hc2 : 0 ≤ (x3) ∧ (x3) < 12
      case neg => rw [if_neg hc2] at h; cases h
      rw [if_pos hc2] at h
      refine px_D_iald (k := 35) (n := 12) rfl rfl hc2 ?_
      refine px_D_st 4 (ip1 := 16) (ls1 := [(4, .inl (s 40 x3.toNat)), (0, .inr (.inr 38)), (1, .inr (.inr 7)), (2, .inl (x2)), (3, .inl (x3))]) (st1 := [.inl (x3), .inr (.inr 41)]) (h1 := (px_G1, s)) rfl ?_
      by_cases hc3 : 0 ≤ (x3) ∧ (x3) < 12
      case neg => rw [if_neg hc3] at h; cases h
      rw [if_pos hc3] at h
      refine px_D_iald (k := 36) (n := 12) rfl rfl hc3 ?_
      refine px_D_st 2 (ip1 := 19) (ls1 := [(4, .inl (s 40 x3.toNat)), (0, .inr (.inr 38)), (1, .inr (.inr 7)), (2, .inl (x2)), (3, .inl (x3))]) (st1 := [.inl (s 7 4), .inl (s 41 x3.toNat)]) (h1 := (px_G1, s)) rfl ?_
      refine px_D_icmp rfl (fun hc => ?_) (fun hc => ?_)
      · have hc4 : (s 7 4) < (s 41 x3.toNat) := of_decide_eq_true hc
        rw [if_pos hc4] at h
        refine px_D_st 2 (ip1 := 42) (ls1 := [(5, .inl (0)), (4, .inl (s 40 x3.toNat)), (0, .inr (.inr 38)), (1, .inr (.inr 7)), (2, .inl (x2)), (3, .inl (x3))]) (st1 := []) (h1 := (px_G1, s)) rfl ?_
        refine px_D_ls [(0, .inr (.inr 38)), (1, .inr (.inr 7)), (2, .inl (x2)), (3, .inl (x3)), (4, .inl (s 40 x3.toNat)), (5, .inl (0))] rfl rfl (List.forall_mem_cons.mpr ⟨rfl, List.forall_mem_cons.mpr ⟨rfl, List.forall_mem_cons.mpr ⟨rfl, List.forall_mem_cons.mpr ⟨rfl, List.forall_mem_cons.mpr ⟨rfl, List.forall_mem_cons.mpr ⟨rfl, fun _ h => absurd h List.not_mem_nil⟩⟩⟩⟩⟩⟩) ?_
        refine cl_Told_falseThings_42 ?_ px_big _ _ _ _ _ h
        · intro x2 x3 out h
          refine px_D_st 2 (ip1 := 4) (ls1 := [(3, .inl (px_wr (x3 + 1))), (0, .inr (.inr 38)), (1, .inr (.inr 7)), (2, .inl (x2))]) (st1 := []) (h1 := (px_G1, s)) rfl ?_
          refine px_D_ls [(0, .inr (.inr 38)), (1, .inr (.inr 7)), (2, .inl (x2)), (3, .inl (px_wr (x3 + 1)))] rfl rfl (List.forall_mem_cons.mpr ⟨rfl, List.forall_mem_cons.mpr ⟨rfl, List.forall_mem_cons.mpr ⟨rfl, List.forall_mem_cons.mpr ⟨rfl, fun _ h => absurd h List.not_mem_nil⟩⟩⟩⟩) ?_
          exact ih _ _ _ h
      · have hc4 : ¬ ((s 7 4) < (s 41 x3.toNat)) := of_decide_eq_false hc
        rw [if_neg hc4] at h
        refine px_D_st 3 (ip1 := 23) (ls1 := [(4, .inl (s 40 x3.toNat)), (0, .inr (.inr 38)), (1, .inr (.inr 7)), (2, .inl (x2)), (3, .inl (x3))]) (st1 := [.inl (7), .inl (0), .inl (s 40 x3.toNat)]) (h1 := (px_G1, s)) rfl ?_
        refine px_D_call (as := [.inl (s 40 x3.toNat), .inl (0), .inl (7)]) (rest := []) rfl rfl rfl rfl ?_
        refine px_D_mono (c_R_within (d := d + 0) rfl) ?_
        rintro _ _ ⟨rfl, rfl⟩
        show px_D sc (d + 1) 70 24 [(4, .inl (s 40 x3.toNat)), (0, .inr (.inr 38)), (1, .inr (.inr 7)), (2, .inl (x2)), (3, .inl (x3))] [.inl (f_R_within s (s 40 x3.toNat) 0 7)] (px_G1, s) _
        refine px_D_ifc rfl (fun hc => ?_) (fun hc => ?_)
        · have hc10 : (f_R_within s (s 40 x3.toNat) 0 7) = (0) := of_decide_eq_true hc
          rw [if_pos hc10] at h
          refine px_D_st 2 (ip1 := 42) (ls1 := [(5, .inl (0)), (4, .inl (s 40 x3.toNat)), (0, .inr (.inr 38)), (1, .inr (.inr 7)), (2, .inl (x2)), (3, .inl (x3))]) (st1 := []) (h1 := (px_G1, s)) rfl ?_
          refine px_D_ls [(0, .inr (.inr 38)), (1, .inr (.inr 7)), (2, .inl (x2)), (3, .inl (x3)), (4, .inl (s 40 x3.toNat)), (5, .inl (0))] rfl rfl (List.forall_mem_cons.mpr ⟨rfl, List.forall_mem_cons.mpr ⟨rfl, List.forall_mem_cons.mpr ⟨rfl, List.forall_mem_cons.mpr ⟨rfl, List.forall_mem_cons.mpr ⟨rfl, List.forall_mem_cons.mpr ⟨rfl, fun _ h => absurd h List.not_mem_nil⟩⟩⟩⟩⟩⟩) ?_
          refine cl_Told_falseThings_42 ?_ px_big _ _ _ _ _ h
          · intro x2 x3 out h
            refine px_D_st 2 (ip1 := 4) (ls1 := [(3, .inl (px_wr (x3 + 1))), (0, .inr (.inr 38)), (1, .inr (.inr 7)), (2, .inl (x2))]) (st1 := []) (h1 := (px_G1, s)) rfl ?_
            refine px_D_ls [(0, .inr (.inr 38)), (1, .inr (.inr 7)), (2, .inl (x2)), (3, .inl (px_wr (x3 + 1)))] rfl rfl (List.forall_mem_cons.mpr ⟨rfl, List.forall_mem_cons.mpr ⟨rfl, List.forall_mem_cons.mpr ⟨rfl, List.forall_mem_cons.mpr ⟨rfl, fun _ h => absurd h List.not_mem_nil⟩⟩⟩⟩) ?_
            exact ih _ _ _ h
        · have hc10 : ¬ ((f_R_within s (s 40 x3.toNat) 0 7) = (0)) := of_decide_eq_false hc
          rw [if_neg hc10] at h
          refine px_D_st 3 (ip1 := 28) (ls1 := [(4, .inl (s 40 x3.toNat)), (0, .inr (.inr 38)), (1, .inr (.inr 7)), (2, .inl (x2)), (3, .inl (x3))]) (st1 := [.inl (x3), .inr (.inr 42)]) (h1 := (px_G1, s)) rfl ?_
          by_cases hc11 : 0 ≤ (x3) ∧ (x3) < 12
          case neg => rw [if_neg hc11] at h; cases h
          rw [if_pos hc11] at h
          refine px_D_iald (k := 37) (n := 12) rfl rfl hc11 ?_
          refine px_D_st 3 (ip1 := 32) (ls1 := [(4, .inl (s 40 x3.toNat)), (0, .inr (.inr 38)), (1, .inr (.inr 7)), (2, .inl (x2)), (3, .inl (x3))]) (st1 := [.inl (s 40 x3.toNat), .inr (.inr 8), .inl (s 42 x3.toNat)]) (h1 := (px_G1, s)) rfl ?_
          by_cases hc12 : 0 ≤ (s 40 x3.toNat) ∧ (s 40 x3.toNat) < 8
          case neg => rw [if_neg hc12] at h; cases h
          rw [if_pos hc12] at h
          refine px_D_iald (k := 3) (n := 8) rfl rfl hc12 ?_
          refine px_D_icmp rfl (fun hc => ?_) (fun hc => ?_)
          · have hc13 : (s 42 x3.toNat) ≤ (s 8 (s 40 x3.toNat).toNat) := of_decide_eq_true hc
            rw [if_pos hc13] at h
            refine px_D_st 2 (ip1 := 42) (ls1 := [(5, .inl (0)), (4, .inl (s 40 x3.toNat)), (0, .inr (.inr 38)), (1, .inr (.inr 7)), (2, .inl (x2)), (3, .inl (x3))]) (st1 := []) (h1 := (px_G1, s)) rfl ?_
            refine px_D_ls [(0, .inr (.inr 38)), (1, .inr (.inr 7)), (2, .inl (x2)), (3, .inl (x3)), (4, .inl (s 40 x3.toNat)), (5, .inl (0))] rfl rfl (List.forall_mem_cons.mpr ⟨rfl, List.forall_mem_cons.mpr ⟨rfl, List.forall_mem_cons.mpr ⟨rfl, List.forall_mem_cons.mpr ⟨rfl, List.forall_mem_cons.mpr ⟨rfl, List.forall_mem_cons.mpr ⟨rfl, fun _ h => absurd h List.not_mem_nil⟩⟩⟩⟩⟩⟩) ?_
            refine cl_Told_falseThings_42 ?_ px_big _ _ _ _ _ h
            · intro x2 x3 out h
              refine px_D_st 2 (ip1 := 4) (ls1 := [(3, .inl (px_wr (x3 + 1))), (0, .inr (.inr 38)), (1, .inr (.inr 7)), (2, .inl (x2))]) (st1 := []) (h1 := (px_G1, s)) rfl ?_
              refine px_D_ls [(0, .inr (.inr 38)), (1, .inr (.inr 7)), (2, .inl (x2)), (3, .inl (px_wr (x3 + 1)))] rfl rfl (List.forall_mem_cons.mpr ⟨rfl, List.forall_mem_cons.mpr ⟨rfl, List.forall_mem_cons.mpr ⟨rfl, List.forall_mem_cons.mpr ⟨rfl, fun _ h => absurd h List.not_mem_nil⟩⟩⟩⟩) ?_
              exact ih _ _ _ h
          · have hc13 : ¬ ((s 42 x3.toNat) ≤ (s 8 (s 40 x3.toNat).toNat)) := of_decide_eq_false hc
            rw [if_neg hc13] at h
            refine px_D_st 8 (ip1 := 42) (ls1 := [(5, .inl (0)), (2, .inl (px_or (x2) ((px_shl (1) ((s 40 x3.toNat)))))), (4, .inl (s 40 x3.toNat)), (0, .inr (.inr 38)), (1, .inr (.inr 7)), (3, .inl (x3))]) (st1 := []) (h1 := (px_G1, s)) rfl ?_
            refine px_D_ls [(0, .inr (.inr 38)), (1, .inr (.inr 7)), (2, .inl (px_or (x2) ((px_shl (1) ((s 40 x3.toNat)))))), (3, .inl (x3)), (4, .inl (s 40 x3.toNat)), (5, .inl (0))] rfl rfl (List.forall_mem_cons.mpr ⟨rfl, List.forall_mem_cons.mpr ⟨rfl, List.forall_mem_cons.mpr ⟨rfl, List.forall_mem_cons.mpr ⟨rfl, List.forall_mem_cons.mpr ⟨rfl, List.forall_mem_cons.mpr ⟨rfl, fun _ h => absurd h List.not_mem_nil⟩⟩⟩⟩⟩⟩) ?_
            refine cl_Told_falseThings_42 ?_ px_big _ _ _ _ _ h
            · intro x2 x3 out h
              refine px_D_st 2 (ip1 := 4) (ls1 := [(3, .inl (px_wr (x3 + 1))), (0, .inr (.inr 38)), (1, .inr (.inr 7)), (2, .inl (x2))]) (st1 := []) (h1 := (px_G1, s)) rfl ?_
              refine px_D_ls [(0, .inr (.inr 38)), (1, .inr (.inr 7)), (2, .inl (x2)), (3, .inl (px_wr (x3 + 1)))] rfl rfl (List.forall_mem_cons.mpr ⟨rfl, List.forall_mem_cons.mpr ⟨rfl, List.forall_mem_cons.mpr ⟨rfl, List.forall_mem_cons.mpr ⟨rfl, fun _ h => absurd h List.not_mem_nil⟩⟩⟩⟩) ?_
              exact ih _ _ _ h
def f_Told_falseThings (s : px_Z) : Option (Int) := l_Told_falseThings_4 s  px_big 0 0
set_option maxHeartbeats 4000000 in
set_option maxRecDepth 100000 in
theorem c_Told_falseThings {sc : List Int} {d : Nat} {s : px_Z} {out : Int} (h : f_Told_falseThings s  = some out) : px_D sc (d + 1) 70 0 [(0, .inr (.inr 38)), (1, .inr (.inr 7))] [] (px_G1, s) (px_Qp s out) := by
  unfold f_Told_falseThings at h
  refine px_D_st 4 (ip1 := 4) (ls1 := [(3, .inl (0)), (2, .inl (0)), (0, .inr (.inr 38)), (1, .inr (.inr 7))]) (st1 := []) (h1 := (px_G1, s)) rfl ?_
  refine px_D_ls [(0, .inr (.inr 38)), (1, .inr (.inr 7)), (2, .inl (0)), (3, .inl (0))] rfl rfl (List.forall_mem_cons.mpr ⟨rfl, List.forall_mem_cons.mpr ⟨rfl, List.forall_mem_cons.mpr ⟨rfl, List.forall_mem_cons.mpr ⟨rfl, fun _ h => absurd h List.not_mem_nil⟩⟩⟩⟩) ?_
  refine cl_Told_falseThings_4  px_big _ _ _ h

def f_R_wrong (s : px_Z) : Option (Int) := (f_Told_falseThings s ).bind (fun q1 => some q1)
set_option maxHeartbeats 4000000 in
set_option maxRecDepth 100000 in
theorem c_R_wrong {sc : List Int} {d : Nat} {s : px_Z} {out : Int} (h : f_R_wrong s  = some out) : px_D sc (d + 2) 128 0 [(0, .inr (.inr 5))] [] (px_G1, s) (px_Qp s out) := by
  unfold f_R_wrong at h
  refine px_D_st 6 (ip1 := 6) (ls1 := [(0, .inr (.inr 5))]) (st1 := [.inr (.inr 7), .inr (.inr 38)]) (h1 := (px_G1, s)) rfl ?_
  refine px_D_call (as := [.inr (.inr 38), .inr (.inr 7)]) (rest := []) rfl rfl rfl rfl ?_
  obtain ⟨q1, hq1, h⟩ := Option.bind_eq_some_iff.mp h
  refine px_D_mono (c_Told_falseThings (d := d + 0) hq1) ?_
  rintro _ _ ⟨rfl, rfl⟩
  show px_D sc (d + 2) 128 7 [(0, .inr (.inr 5))] [.inl (q1)] (px_G1, s) _
  cases h
  exact px_D_iret rfl rfl ⟨rfl, rfl⟩

def l_World_creditLasts_6  : Nat → px_Z → Int → Int → Option (Int × px_Z)
  | 0, _, _, _ => none
  | n + 1, s, x1, x2 => if (60) < (x2) then some (((-1), s)) else (if (x1) = (0) then some (x2, s) else (f_World_eaten s (px_wr ((s 7 4) + x2)) (f_Math_max s 0 (px_wr ((s 7 3) - x2))) x1).bind (fun q3 => l_World_creditLasts_6  n q3.2 (f_Math_max q3.2 0 (px_wr (x1 - q3.1))) (px_wr (x2 + 1))))
set_option maxHeartbeats 4000000 in
set_option maxRecDepth 100000 in
theorem cl_World_creditLasts_6 {sc : List Int} {d : Nat}  : ∀ (n : Nat) (s : px_Z) (x1 : Int) (x2 : Int) (out : Int × px_Z), l_World_creditLasts_6  n s x1 x2 = some out → px_D sc (d + 4) 102 6 [(0, .inr (.inr 6)), (1, .inl (x1)), (2, .inl (x2))] [] (px_G1, s) (px_Qi out) := by
  intro n
  induction n with
  | zero => intro s x1 x2 out h; cases h
  | succ n ih =>
    intro s x1 x2 out h
    rw [l_World_creditLasts_6] at h
    refine px_D_st 2 (ip1 := 8) (ls1 := [(0, .inr (.inr 6)), (1, .inl (x1)), (2, .inl (x2))]) (st1 := [.inl (60), .inl (x2)]) (h1 := (px_G1, s)) rfl ?_
    refine px_D_icmp rfl (fun hc => ?_) (fun hc => ?_)
    · have hc1 : (60) < (x2) := of_decide_eq_true hc
      rw [if_pos hc1] at h
      refine px_D_st 1 (ip1 := 36) (ls1 := [(0, .inr (.inr 6)), (1, .inl (x1)), (2, .inl (x2))]) (st1 := [.inl ((-1))]) (h1 := (px_G1, s)) rfl ?_
      cases h
      exact px_D_iret rfl rfl ⟨rfl, rfl⟩
    · have hc1 : ¬ ((60) < (x2)) := of_decide_eq_false hc
      rw [if_neg hc1] at h
      refine px_D_st 1 (ip1 := 10) (ls1 := [(0, .inr (.inr 6)), (1, .inl (x1)), (2, .inl (x2))]) (st1 := [.inl (x1)]) (h1 := (px_G1, s)) rfl ?_
      refine px_D_ifc rfl (fun hc => ?_) (fun hc => ?_)
      · have hc2 : ¬ ((x1) = (0)) := of_decide_eq_true hc
        rw [if_neg hc2] at h
        refine px_D_st 14 (ip1 := 27) (ls1 := [(0, .inr (.inr 6)), (1, .inl (x1)), (2, .inl (x2))]) (st1 := [.inl (px_wr ((s 7 3) - x2)), .inl (0), .inl (px_wr ((s 7 4) + x2)), .inr (.inr 6), .inl (x1), .inl (0)]) (h1 := (px_G1, s)) rfl ?_
        refine px_D_call (as := [.inl (0), .inl (px_wr ((s 7 3) - x2))]) (rest := [.inl (px_wr ((s 7 4) + x2)), .inr (.inr 6), .inl (x1), .inl (0)]) rfl rfl rfl rfl ?_
        refine px_D_mono (c_Math_max (d := d + 3) rfl) ?_
        rintro _ _ ⟨rfl, rfl⟩
        show px_D sc (d + 4) 102 28 [(0, .inr (.inr 6)), (1, .inl (x1)), (2, .inl (x2))] [.inl (f_Math_max s 0 (px_wr ((s 7 3) - x2))), .inl (px_wr ((s 7 4) + x2)), .inr (.inr 6), .inl (x1), .inl (0)] (px_G1, s) _
        refine px_D_st 1 (ip1 := 29) (ls1 := [(0, .inr (.inr 6)), (1, .inl (x1)), (2, .inl (x2))]) (st1 := [.inl (x1), .inl (f_Math_max s 0 (px_wr ((s 7 3) - x2))), .inl (px_wr ((s 7 4) + x2)), .inr (.inr 6), .inl (x1), .inl (0)]) (h1 := (px_G1, s)) rfl ?_
        refine px_D_call (as := [.inr (.inr 6), .inl (px_wr ((s 7 4) + x2)), .inl (f_Math_max s 0 (px_wr ((s 7 3) - x2))), .inl (x1)]) (rest := [.inl (x1), .inl (0)]) rfl rfl rfl rfl ?_
        obtain ⟨q3, hq3, h⟩ := Option.bind_eq_some_iff.mp h
        refine px_D_mono (c_World_eaten (d := d + 0) hq3) ?_
        rintro _ _ ⟨rfl, rfl⟩
        show px_D sc (d + 4) 102 30 [(0, .inr (.inr 6)), (1, .inl (x1)), (2, .inl (x2))] [.inl (q3.1), .inl (x1), .inl (0)] (px_G1, q3.2) _
        refine px_D_st 1 (ip1 := 31) (ls1 := [(0, .inr (.inr 6)), (1, .inl (x1)), (2, .inl (x2))]) (st1 := [.inl (px_wr (x1 - q3.1)), .inl (0)]) (h1 := (px_G1, q3.2)) rfl ?_
        refine px_D_call (as := [.inl (0), .inl (px_wr (x1 - q3.1))]) (rest := []) rfl rfl rfl rfl ?_
        refine px_D_mono (c_Math_max (d := d + 3) rfl) ?_
        rintro _ _ ⟨rfl, rfl⟩
        show px_D sc (d + 4) 102 32 [(0, .inr (.inr 6)), (1, .inl (x1)), (2, .inl (x2))] [.inl (f_Math_max q3.2 0 (px_wr (x1 - q3.1)))] (px_G1, q3.2) _
        refine px_D_st 3 (ip1 := 6) (ls1 := [(2, .inl (px_wr (x2 + 1))), (1, .inl (f_Math_max q3.2 0 (px_wr (x1 - q3.1)))), (0, .inr (.inr 6))]) (st1 := []) (h1 := (px_G1, q3.2)) rfl ?_
        refine px_D_ls [(0, .inr (.inr 6)), (1, .inl (f_Math_max q3.2 0 (px_wr (x1 - q3.1)))), (2, .inl (px_wr (x2 + 1)))] rfl rfl (List.forall_mem_cons.mpr ⟨rfl, List.forall_mem_cons.mpr ⟨rfl, List.forall_mem_cons.mpr ⟨rfl, fun _ h => absurd h List.not_mem_nil⟩⟩⟩) ?_
        exact ih _ _ _ _ h
      · have hc2 : (x1) = (0) := Decidable.of_not_not (of_decide_eq_false hc)
        rw [if_pos hc2] at h
        refine px_D_st 1 (ip1 := 12) (ls1 := [(0, .inr (.inr 6)), (1, .inl (x1)), (2, .inl (x2))]) (st1 := [.inl (x2)]) (h1 := (px_G1, s)) rfl ?_
        cases h
        exact px_D_iret rfl rfl ⟨rfl, rfl⟩
def f_World_creditLasts (s : px_Z) : Option (Int × px_Z) := l_World_creditLasts_6  px_big s (s 7 2) 0
set_option maxHeartbeats 4000000 in
set_option maxRecDepth 100000 in
theorem c_World_creditLasts {sc : List Int} {d : Nat} {s : px_Z} {out : Int × px_Z} (h : f_World_creditLasts s  = some out) : px_D sc (d + 4) 102 0 [(0, .inr (.inr 6))] [] (px_G1, s) (px_Qi out) := by
  unfold f_World_creditLasts at h
  refine px_D_st 6 (ip1 := 6) (ls1 := [(2, .inl (0)), (1, .inl (s 7 2)), (0, .inr (.inr 6))]) (st1 := []) (h1 := (px_G1, s)) rfl ?_
  refine px_D_ls [(0, .inr (.inr 6)), (1, .inl (s 7 2)), (2, .inl (0))] rfl rfl (List.forall_mem_cons.mpr ⟨rfl, List.forall_mem_cons.mpr ⟨rfl, List.forall_mem_cons.mpr ⟨rfl, fun _ h => absurd h List.not_mem_nil⟩⟩⟩) ?_
  refine cl_World_creditLasts_6  px_big _ _ _ _ h

def f_R_lasts (s : px_Z) : Option (Int × px_Z) := (f_World_creditLasts s ).bind (fun q1 => some (q1.1, q1.2))
set_option maxHeartbeats 4000000 in
set_option maxRecDepth 100000 in
theorem c_R_lasts {sc : List Int} {d : Nat} {s : px_Z} {out : Int × px_Z} (h : f_R_lasts s  = some out) : px_D sc (d + 5) 129 0 [(0, .inr (.inr 5))] [] (px_G1, s) (px_Qi out) := by
  unfold f_R_lasts at h
  refine px_D_st 2 (ip1 := 2) (ls1 := [(0, .inr (.inr 5))]) (st1 := [.inr (.inr 6)]) (h1 := (px_G1, s)) rfl ?_
  refine px_D_call (as := [.inr (.inr 6)]) (rest := []) rfl rfl rfl rfl ?_
  obtain ⟨q1, hq1, h⟩ := Option.bind_eq_some_iff.mp h
  refine px_D_mono (c_World_creditLasts (d := d + 0) hq1) ?_
  rintro _ _ ⟨rfl, rfl⟩
  show px_D sc (d + 5) 129 3 [(0, .inr (.inr 5))] [.inl (q1.1)] (px_G1, q1.2) _
  cases h
  exact px_D_iret rfl rfl ⟨rfl, rfl⟩

def l_R_power_4 (s : px_Z)  : Nat → Int → Int → Int → Int → Option (Int)
  | 0, _, _, _, _ => none
  | n + 1, x0, x1, x2, x4 => if (x1) ≤ (x4) then some x2 else l_R_power_4 s  n x0 x1 (px_wl (x2 * x0)) (px_wr (x4 + 1))
set_option maxHeartbeats 4000000 in
set_option maxRecDepth 100000 in
theorem cl_R_power_4 {sc : List Int} {d : Nat} {s : px_Z}  : ∀ (n : Nat) (x0 : Int) (x1 : Int) (x2 : Int) (x4 : Int) (out : Int), l_R_power_4 s  n x0 x1 x2 x4 = some out → px_D sc (d + 0) 143 4 [(0, .inl (x0)), (1, .inl (x1)), (2, .inr (.inl (x2))), (4, .inl (x4))] [] (px_G1, s) (px_Qlp s out) := by
  intro n
  induction n with
  | zero => intro x0 x1 x2 x4 out h; cases h
  | succ n ih =>
    intro x0 x1 x2 x4 out h
    rw [l_R_power_4] at h
    refine px_D_st 2 (ip1 := 6) (ls1 := [(0, .inl (x0)), (1, .inl (x1)), (2, .inr (.inl (x2))), (4, .inl (x4))]) (st1 := [.inl (x1), .inl (x4)]) (h1 := (px_G1, s)) rfl ?_
    refine px_D_icmp rfl (fun hc => ?_) (fun hc => ?_)
    · have hc1 : (x1) ≤ (x4) := of_decide_eq_true hc
      rw [if_pos hc1] at h
      refine px_D_st 1 (ip1 := 15) (ls1 := [(0, .inl (x0)), (1, .inl (x1)), (2, .inr (.inl (x2))), (4, .inl (x4))]) (st1 := [.inr (.inl (x2))]) (h1 := (px_G1, s)) rfl ?_
      cases h
      exact px_D_lret rfl ⟨rfl, rfl⟩
    · have hc1 : ¬ ((x1) ≤ (x4)) := of_decide_eq_false hc
      rw [if_neg hc1] at h
      refine px_D_st 7 (ip1 := 4) (ls1 := [(4, .inl (px_wr (x4 + 1))), (2, .inr (.inl (px_wl (x2 * x0)))), (0, .inl (x0)), (1, .inl (x1))]) (st1 := []) (h1 := (px_G1, s)) rfl ?_
      refine px_D_ls [(0, .inl (x0)), (1, .inl (x1)), (2, .inr (.inl (px_wl (x2 * x0)))), (4, .inl (px_wr (x4 + 1)))] rfl rfl (List.forall_mem_cons.mpr ⟨rfl, List.forall_mem_cons.mpr ⟨rfl, List.forall_mem_cons.mpr ⟨rfl, List.forall_mem_cons.mpr ⟨rfl, fun _ h => absurd h List.not_mem_nil⟩⟩⟩⟩) ?_
      exact ih _ _ _ _ _ h
def f_R_power (s : px_Z) (x0 : Int) (x1 : Int) : Option (Int) := l_R_power_4 s  px_big x0 x1 1 0
set_option maxHeartbeats 4000000 in
set_option maxRecDepth 100000 in
theorem c_R_power {sc : List Int} {d : Nat} {s : px_Z} {x0 : Int} {x1 : Int} {out : Int} (h : f_R_power s x0 x1 = some out) : px_D sc (d + 0) 143 0 [(0, .inl (x0)), (1, .inl (x1))] [] (px_G1, s) (px_Qlp s out) := by
  unfold f_R_power at h
  refine px_D_st 4 (ip1 := 4) (ls1 := [(4, .inl (0)), (2, .inr (.inl (1))), (0, .inl (x0)), (1, .inl (x1))]) (st1 := []) (h1 := (px_G1, s)) rfl ?_
  refine px_D_ls [(0, .inl (x0)), (1, .inl (x1)), (2, .inr (.inl (1))), (4, .inl (0))] rfl rfl (List.forall_mem_cons.mpr ⟨rfl, List.forall_mem_cons.mpr ⟨rfl, List.forall_mem_cons.mpr ⟨rfl, List.forall_mem_cons.mpr ⟨rfl, fun _ h => absurd h List.not_mem_nil⟩⟩⟩⟩) ?_
  refine cl_R_power_4  px_big _ _ _ _ _ h

def l_R_commonPart_6 (s : px_Z)  : Nat → Int → Int → Int → Option (Int)
  | 0, _, _, _ => none
  | n + 1, x4, x6, x8 => if (200) ≤ (x8) then some x4 else (if ((if (x6) < (0) then -1 else if (x6) = (0) then 0 else 1)) = (0) then some x4 else (if (x6) = 0 then none else l_R_commonPart_6 s  n x6 (x4.tmod x6) (px_wr (x8 + 1))))
set_option maxHeartbeats 4000000 in
set_option maxRecDepth 100000 in
theorem cl_R_commonPart_6 {sc : List Int} {d : Nat} {s : px_Z}  : ∀ (n : Nat) (x4 : Int) (x6 : Int) (x8 : Int) (out : Int), l_R_commonPart_6 s  n x4 x6 x8 = some out → px_D sc (d + 0) 144 6 [(4, .inr (.inl (x4))), (6, .inr (.inl (x6))), (8, .inl (x8))] [] (px_G1, s) (px_Qlp s out) := by
  intro n
  induction n with
  | zero => intro x4 x6 x8 out h; cases h
  | succ n ih =>
    intro x4 x6 x8 out h
    rw [l_R_commonPart_6] at h
    refine px_D_st 2 (ip1 := 8) (ls1 := [(4, .inr (.inl (x4))), (6, .inr (.inl (x6))), (8, .inl (x8))]) (st1 := [.inl (200), .inl (x8)]) (h1 := (px_G1, s)) rfl ?_
    refine px_D_icmp rfl (fun hc => ?_) (fun hc => ?_)
    · have hc1 : (200) ≤ (x8) := of_decide_eq_true hc
      rw [if_pos hc1] at h
      refine px_D_st 1 (ip1 := 24) (ls1 := [(4, .inr (.inl (x4))), (6, .inr (.inl (x6))), (8, .inl (x8))]) (st1 := [.inr (.inl (x4))]) (h1 := (px_G1, s)) rfl ?_
      cases h
      exact px_D_lret rfl ⟨rfl, rfl⟩
    · have hc1 : ¬ ((200) ≤ (x8)) := of_decide_eq_false hc
      rw [if_neg hc1] at h
      refine px_D_st 3 (ip1 := 12) (ls1 := [(4, .inr (.inl (x4))), (6, .inr (.inl (x6))), (8, .inl (x8))]) (st1 := [.inl ((if (x6) < (0) then -1 else if (x6) = (0) then 0 else 1))]) (h1 := (px_G1, s)) rfl ?_
      refine px_D_ifc rfl (fun hc => ?_) (fun hc => ?_)
      · have hc2 : ((if (x6) < (0) then -1 else if (x6) = (0) then 0 else 1)) = (0) := of_decide_eq_true hc
        rw [if_pos hc2] at h
        refine px_D_st 1 (ip1 := 24) (ls1 := [(4, .inr (.inl (x4))), (6, .inr (.inl (x6))), (8, .inl (x8))]) (st1 := [.inr (.inl (x4))]) (h1 := (px_G1, s)) rfl ?_
        cases h
        exact px_D_lret rfl ⟨rfl, rfl⟩
      · have hc2 : ¬ (((if (x6) < (0) then -1 else if (x6) = (0) then 0 else 1)) = (0)) := of_decide_eq_false hc
        rw [if_neg hc2] at h
        refine px_D_st 2 (ip1 := 15) (ls1 := [(4, .inr (.inl (x4))), (6, .inr (.inl (x6))), (8, .inl (x8))]) (st1 := [.inr (.inl (x6)), .inr (.inl (x4))]) (h1 := (px_G1, s)) rfl ?_
        by_cases hc3 : (x6) = 0
        · rw [if_pos hc3] at h; cases h
        rw [if_neg hc3] at h
        refine px_D_lrem rfl hc3 ?_
        refine px_D_st 7 (ip1 := 6) (ls1 := [(8, .inl (px_wr (x8 + 1))), (6, .inr (.inl (x4.tmod x6))), (4, .inr (.inl (x6))), (9, .inr (.inl (x4.tmod x6)))]) (st1 := []) (h1 := (px_G1, s)) rfl ?_
        refine px_D_ls [(4, .inr (.inl (x6))), (6, .inr (.inl (x4.tmod x6))), (8, .inl (px_wr (x8 + 1)))] rfl rfl (List.forall_mem_cons.mpr ⟨rfl, List.forall_mem_cons.mpr ⟨rfl, List.forall_mem_cons.mpr ⟨rfl, fun _ h => absurd h List.not_mem_nil⟩⟩⟩) ?_
        exact ih _ _ _ _ h
def f_R_commonPart (s : px_Z) (x0 : Int) (x2 : Int) : Option (Int) := l_R_commonPart_6 s  px_big x0 x2 0
set_option maxHeartbeats 4000000 in
set_option maxRecDepth 100000 in
theorem c_R_commonPart {sc : List Int} {d : Nat} {s : px_Z} {x0 : Int} {x2 : Int} {out : Int} (h : f_R_commonPart s x0 x2 = some out) : px_D sc (d + 0) 144 0 [(0, .inr (.inl (x0))), (2, .inr (.inl (x2)))] [] (px_G1, s) (px_Qlp s out) := by
  unfold f_R_commonPart at h
  refine px_D_st 6 (ip1 := 6) (ls1 := [(8, .inl (0)), (6, .inr (.inl (x2))), (4, .inr (.inl (x0))), (0, .inr (.inl (x0))), (2, .inr (.inl (x2)))]) (st1 := []) (h1 := (px_G1, s)) rfl ?_
  refine px_D_ls [(4, .inr (.inl (x0))), (6, .inr (.inl (x2))), (8, .inl (0))] rfl rfl (List.forall_mem_cons.mpr ⟨rfl, List.forall_mem_cons.mpr ⟨rfl, List.forall_mem_cons.mpr ⟨rfl, fun _ h => absurd h List.not_mem_nil⟩⟩⟩) ?_
  refine cl_R_commonPart_6  px_big _ _ _ _ h

def l_R_cards_30 (s : px_Z) (k60 : Int → Int → Int → Option (Int)) : Nat → Int → Int → Int → Int → Int → Int → Int → Option (Int)
  | 0, _, _, _, _, _, _, _ => none
  | n + 1, x1, x2, x3, x4, x5, x7, x9 => if (x2) ≤ (x9) then k60 x4 x5 x7 else (f_R_power s (px_wr (10 - x3)) x9).bind (fun q6 => (f_R_power s x3 (px_wr ((px_wr (x2 - 1)) - x9))).bind (fun q7 => if (x1) ≤ (x9) then l_R_cards_30 s k60 n x1 x2 x3 x4 x5 (px_wl (x7 + (px_wl (q6 * q7)))) (px_wr (x9 + 1)) else l_R_cards_30 s k60 n x1 x2 x3 x4 (px_wl (x5 + (px_wl (q6 * q7)))) (px_wl (x7 + (px_wl (q6 * q7)))) (px_wr (x9 + 1))))
set_option maxHeartbeats 4000000 in
set_option maxRecDepth 100000 in
theorem cl_R_cards_30 {sc : List Int} {d : Nat} {s : px_Z} {k60 : Int → Int → Int → Option (Int)}  (hk60 : ∀ (y4 : Int) (y5 : Int) (y7 : Int) (out : Int), k60 y4 y5 y7 = some out → px_D sc (d + 1) 130 60 [(4, .inl (y4)), (5, .inr (.inl (y5))), (7, .inr (.inl (y7)))] [] (px_G1, s) (px_Qlp s out)) : ∀ (n : Nat) (x1 : Int) (x2 : Int) (x3 : Int) (x4 : Int) (x5 : Int) (x7 : Int) (x9 : Int) (out : Int), l_R_cards_30 s k60 n x1 x2 x3 x4 x5 x7 x9 = some out → px_D sc (d + 1) 130 30 [(1, .inl (x1)), (2, .inl (x2)), (3, .inl (x3)), (4, .inl (x4)), (5, .inr (.inl (x5))), (7, .inr (.inl (x7))), (9, .inl (x9))] [] (px_G1, s) (px_Qlp s out) := by
  intro n
  induction n with
  | zero => intro x1 x2 x3 x4 x5 x7 x9 out h; cases h
  | succ n ih =>
    intro x1 x2 x3 x4 x5 x7 x9 out h
    rw [l_R_cards_30] at h
    refine px_D_st 2 (ip1 := 32) (ls1 := [(1, .inl (x1)), (2, .inl (x2)), (3, .inl (x3)), (4, .inl (x4)), (5, .inr (.inl (x5))), (7, .inr (.inl (x7))), (9, .inl (x9))]) (st1 := [.inl (x2), .inl (x9)]) (h1 := (px_G1, s)) rfl ?_
    refine px_D_icmp rfl (fun hc => ?_) (fun hc => ?_)
    · have hc5 : (x2) ≤ (x9) := of_decide_eq_true hc
      rw [if_pos hc5] at h
      refine px_D_ls [(4, .inl (x4)), (5, .inr (.inl (x5))), (7, .inr (.inl (x7)))] rfl rfl (List.forall_mem_cons.mpr ⟨rfl, List.forall_mem_cons.mpr ⟨rfl, List.forall_mem_cons.mpr ⟨rfl, fun _ h => absurd h List.not_mem_nil⟩⟩⟩) ?_
      exact hk60 _ _ _ _ h
    · have hc5 : ¬ ((x2) ≤ (x9)) := of_decide_eq_false hc
      rw [if_neg hc5] at h
      refine px_D_st 4 (ip1 := 37) (ls1 := [(1, .inl (x1)), (2, .inl (x2)), (3, .inl (x3)), (4, .inl (x4)), (5, .inr (.inl (x5))), (7, .inr (.inl (x7))), (9, .inl (x9))]) (st1 := [.inl (x9), .inl (px_wr (10 - x3))]) (h1 := (px_G1, s)) rfl ?_
      refine px_D_call (as := [.inl (px_wr (10 - x3)), .inl (x9)]) (rest := []) rfl rfl rfl rfl ?_
      obtain ⟨q6, hq6, h⟩ := Option.bind_eq_some_iff.mp h
      refine px_D_mono (c_R_power (d := d + 0) hq6) ?_
      rintro _ _ ⟨rfl, rfl⟩
      show px_D sc (d + 1) 130 38 [(1, .inl (x1)), (2, .inl (x2)), (3, .inl (x3)), (4, .inl (x4)), (5, .inr (.inl (x5))), (7, .inr (.inl (x7))), (9, .inl (x9))] [.inr (.inl (q6))] (px_G1, s) _
      refine px_D_st 6 (ip1 := 44) (ls1 := [(1, .inl (x1)), (2, .inl (x2)), (3, .inl (x3)), (4, .inl (x4)), (5, .inr (.inl (x5))), (7, .inr (.inl (x7))), (9, .inl (x9))]) (st1 := [.inl (px_wr ((px_wr (x2 - 1)) - x9)), .inl (x3), .inr (.inl (q6))]) (h1 := (px_G1, s)) rfl ?_
      refine px_D_call (as := [.inl (x3), .inl (px_wr ((px_wr (x2 - 1)) - x9))]) (rest := [.inr (.inl (q6))]) rfl rfl rfl rfl ?_
      obtain ⟨q7, hq7, h⟩ := Option.bind_eq_some_iff.mp h
      refine px_D_mono (c_R_power (d := d + 0) hq7) ?_
      rintro _ _ ⟨rfl, rfl⟩
      show px_D sc (d + 1) 130 45 [(1, .inl (x1)), (2, .inl (x2)), (3, .inl (x3)), (4, .inl (x4)), (5, .inr (.inl (x5))), (7, .inr (.inl (x7))), (9, .inl (x9))] [.inr (.inl (q7)), .inr (.inl (q6))] (px_G1, s) _
      refine px_D_st 8 (ip1 := 53) (ls1 := [(7, .inr (.inl (px_wl (x7 + (px_wl (q6 * q7)))))), (10, .inr (.inl (px_wl (q6 * q7)))), (1, .inl (x1)), (2, .inl (x2)), (3, .inl (x3)), (4, .inl (x4)), (5, .inr (.inl (x5))), (9, .inl (x9))]) (st1 := [.inl (x1), .inl (x9)]) (h1 := (px_G1, s)) rfl ?_
      refine px_D_icmp rfl (fun hc => ?_) (fun hc => ?_)
      · have hc8 : (x1) ≤ (x9) := of_decide_eq_true hc
        rw [if_pos hc8] at h
        refine px_D_st 2 (ip1 := 30) (ls1 := [(9, .inl (px_wr (x9 + 1))), (7, .inr (.inl (px_wl (x7 + (px_wl (q6 * q7)))))), (10, .inr (.inl (px_wl (q6 * q7)))), (1, .inl (x1)), (2, .inl (x2)), (3, .inl (x3)), (4, .inl (x4)), (5, .inr (.inl (x5)))]) (st1 := []) (h1 := (px_G1, s)) rfl ?_
        refine px_D_ls [(1, .inl (x1)), (2, .inl (x2)), (3, .inl (x3)), (4, .inl (x4)), (5, .inr (.inl (x5))), (7, .inr (.inl (px_wl (x7 + (px_wl (q6 * q7)))))), (9, .inl (px_wr (x9 + 1)))] rfl rfl (List.forall_mem_cons.mpr ⟨rfl, List.forall_mem_cons.mpr ⟨rfl, List.forall_mem_cons.mpr ⟨rfl, List.forall_mem_cons.mpr ⟨rfl, List.forall_mem_cons.mpr ⟨rfl, List.forall_mem_cons.mpr ⟨rfl, List.forall_mem_cons.mpr ⟨rfl, fun _ h => absurd h List.not_mem_nil⟩⟩⟩⟩⟩⟩⟩) ?_
        exact ih _ _ _ _ _ _ _ _ h
      · have hc8 : ¬ ((x1) ≤ (x9)) := of_decide_eq_false hc
        rw [if_neg hc8] at h
        refine px_D_st 6 (ip1 := 30) (ls1 := [(9, .inl (px_wr (x9 + 1))), (5, .inr (.inl (px_wl (x5 + (px_wl (q6 * q7)))))), (7, .inr (.inl (px_wl (x7 + (px_wl (q6 * q7)))))), (10, .inr (.inl (px_wl (q6 * q7)))), (1, .inl (x1)), (2, .inl (x2)), (3, .inl (x3)), (4, .inl (x4))]) (st1 := []) (h1 := (px_G1, s)) rfl ?_
        refine px_D_ls [(1, .inl (x1)), (2, .inl (x2)), (3, .inl (x3)), (4, .inl (x4)), (5, .inr (.inl (px_wl (x5 + (px_wl (q6 * q7)))))), (7, .inr (.inl (px_wl (x7 + (px_wl (q6 * q7)))))), (9, .inl (px_wr (x9 + 1)))] rfl rfl (List.forall_mem_cons.mpr ⟨rfl, List.forall_mem_cons.mpr ⟨rfl, List.forall_mem_cons.mpr ⟨rfl, List.forall_mem_cons.mpr ⟨rfl, List.forall_mem_cons.mpr ⟨rfl, List.forall_mem_cons.mpr ⟨rfl, List.forall_mem_cons.mpr ⟨rfl, fun _ h => absurd h List.not_mem_nil⟩⟩⟩⟩⟩⟩⟩) ?_
        exact ih _ _ _ _ _ _ _ _ h
def f_R_cards (s : px_Z) (x1 : Int) (x2 : Int) (x3 : Int) (x4 : Int) : Option (Int) := if (f_R_within s x2 2 12) = (0) then some (-1) else (if (f_R_within s x1 1 (px_wr (x2 - 1))) = (0) then some (-1) else (if (f_R_within s x3 1 9) = (0) then some (-1) else (if (f_R_within s x4 0 1) = (0) then some (-1) else l_R_cards_30 s (fun x4 x5 x7 => (f_R_commonPart s x5 x7).bind (fun q9 => if (x4) = (0) then (if ((if (q9) < (0) then -1 else if (q9) = (0) then 0 else 1)) ≤ (0) then some x5 else (if (q9) = 0 then none else some (px_wl (x5.tdiv q9)))) else (if ((if (q9) < (0) then -1 else if (q9) = (0) then 0 else 1)) ≤ (0) then some x7 else (if (q9) = 0 then none else some (px_wl (x7.tdiv q9)))))) px_big x1 x2 x3 x4 0 0 0)))
set_option maxHeartbeats 4000000 in
set_option maxRecDepth 100000 in
theorem c_R_cards {sc : List Int} {d : Nat} {s : px_Z} {x1 : Int} {x2 : Int} {x3 : Int} {x4 : Int} {out : Int} (h : f_R_cards s x1 x2 x3 x4 = some out) : px_D sc (d + 1) 130 0 [(0, .inr (.inr 5)), (1, .inl (x1)), (2, .inl (x2)), (3, .inl (x3)), (4, .inl (x4))] [] (px_G1, s) (px_Qlp s out) := by
  unfold f_R_cards at h
  refine px_D_st 3 (ip1 := 3) (ls1 := [(0, .inr (.inr 5)), (1, .inl (x1)), (2, .inl (x2)), (3, .inl (x3)), (4, .inl (x4))]) (st1 := [.inl (12), .inl (2), .inl (x2)]) (h1 := (px_G1, s)) rfl ?_
  refine px_D_call (as := [.inl (x2), .inl (2), .inl (12)]) (rest := []) rfl rfl rfl rfl ?_
  refine px_D_mono (c_R_within (d := d + 0) rfl) ?_
  rintro _ _ ⟨rfl, rfl⟩
  show px_D sc (d + 1) 130 4 [(0, .inr (.inr 5)), (1, .inl (x1)), (2, .inl (x2)), (3, .inl (x3)), (4, .inl (x4))] [.inl (f_R_within s x2 2 12)] (px_G1, s) _
  refine px_D_ifc rfl (fun hc => ?_) (fun hc => ?_)
  · have hc1 : (f_R_within s x2 2 12) = (0) := of_decide_eq_true hc
    rw [if_pos hc1] at h
    refine px_D_st 1 (ip1 := 23) (ls1 := [(0, .inr (.inr 5)), (1, .inl (x1)), (2, .inl (x2)), (3, .inl (x3)), (4, .inl (x4))]) (st1 := [.inr (.inl ((-1)))]) (h1 := (px_G1, s)) rfl ?_
    cases h
    exact px_D_lret rfl ⟨rfl, rfl⟩
  · have hc1 : ¬ ((f_R_within s x2 2 12) = (0)) := of_decide_eq_false hc
    rw [if_neg hc1] at h
    refine px_D_st 5 (ip1 := 10) (ls1 := [(0, .inr (.inr 5)), (1, .inl (x1)), (2, .inl (x2)), (3, .inl (x3)), (4, .inl (x4))]) (st1 := [.inl (px_wr (x2 - 1)), .inl (1), .inl (x1)]) (h1 := (px_G1, s)) rfl ?_
    refine px_D_call (as := [.inl (x1), .inl (1), .inl (px_wr (x2 - 1))]) (rest := []) rfl rfl rfl rfl ?_
    refine px_D_mono (c_R_within (d := d + 0) rfl) ?_
    rintro _ _ ⟨rfl, rfl⟩
    show px_D sc (d + 1) 130 11 [(0, .inr (.inr 5)), (1, .inl (x1)), (2, .inl (x2)), (3, .inl (x3)), (4, .inl (x4))] [.inl (f_R_within s x1 1 (px_wr (x2 - 1)))] (px_G1, s) _
    refine px_D_ifc rfl (fun hc => ?_) (fun hc => ?_)
    · have hc2 : (f_R_within s x1 1 (px_wr (x2 - 1))) = (0) := of_decide_eq_true hc
      rw [if_pos hc2] at h
      refine px_D_st 1 (ip1 := 23) (ls1 := [(0, .inr (.inr 5)), (1, .inl (x1)), (2, .inl (x2)), (3, .inl (x3)), (4, .inl (x4))]) (st1 := [.inr (.inl ((-1)))]) (h1 := (px_G1, s)) rfl ?_
      cases h
      exact px_D_lret rfl ⟨rfl, rfl⟩
    · have hc2 : ¬ ((f_R_within s x1 1 (px_wr (x2 - 1))) = (0)) := of_decide_eq_false hc
      rw [if_neg hc2] at h
      refine px_D_st 3 (ip1 := 15) (ls1 := [(0, .inr (.inr 5)), (1, .inl (x1)), (2, .inl (x2)), (3, .inl (x3)), (4, .inl (x4))]) (st1 := [.inl (9), .inl (1), .inl (x3)]) (h1 := (px_G1, s)) rfl ?_
      refine px_D_call (as := [.inl (x3), .inl (1), .inl (9)]) (rest := []) rfl rfl rfl rfl ?_
      refine px_D_mono (c_R_within (d := d + 0) rfl) ?_
      rintro _ _ ⟨rfl, rfl⟩
      show px_D sc (d + 1) 130 16 [(0, .inr (.inr 5)), (1, .inl (x1)), (2, .inl (x2)), (3, .inl (x3)), (4, .inl (x4))] [.inl (f_R_within s x3 1 9)] (px_G1, s) _
      refine px_D_ifc rfl (fun hc => ?_) (fun hc => ?_)
      · have hc3 : (f_R_within s x3 1 9) = (0) := of_decide_eq_true hc
        rw [if_pos hc3] at h
        refine px_D_st 1 (ip1 := 23) (ls1 := [(0, .inr (.inr 5)), (1, .inl (x1)), (2, .inl (x2)), (3, .inl (x3)), (4, .inl (x4))]) (st1 := [.inr (.inl ((-1)))]) (h1 := (px_G1, s)) rfl ?_
        cases h
        exact px_D_lret rfl ⟨rfl, rfl⟩
      · have hc3 : ¬ ((f_R_within s x3 1 9) = (0)) := of_decide_eq_false hc
        rw [if_neg hc3] at h
        refine px_D_st 3 (ip1 := 20) (ls1 := [(0, .inr (.inr 5)), (1, .inl (x1)), (2, .inl (x2)), (3, .inl (x3)), (4, .inl (x4))]) (st1 := [.inl (1), .inl (0), .inl (x4)]) (h1 := (px_G1, s)) rfl ?_
        refine px_D_call (as := [.inl (x4), .inl (0), .inl (1)]) (rest := []) rfl rfl rfl rfl ?_
        refine px_D_mono (c_R_within (d := d + 0) rfl) ?_
        rintro _ _ ⟨rfl, rfl⟩
        show px_D sc (d + 1) 130 21 [(0, .inr (.inr 5)), (1, .inl (x1)), (2, .inl (x2)), (3, .inl (x3)), (4, .inl (x4))] [.inl (f_R_within s x4 0 1)] (px_G1, s) _
        refine px_D_ifc rfl (fun hc => ?_) (fun hc => ?_)
        · have hc4 : ¬ ((f_R_within s x4 0 1) = (0)) := of_decide_eq_true hc
          rw [if_neg hc4] at h
          refine px_D_st 6 (ip1 := 30) (ls1 := [(9, .inl (0)), (7, .inr (.inl (0))), (5, .inr (.inl (0))), (0, .inr (.inr 5)), (1, .inl (x1)), (2, .inl (x2)), (3, .inl (x3)), (4, .inl (x4))]) (st1 := []) (h1 := (px_G1, s)) rfl ?_
          refine px_D_ls [(1, .inl (x1)), (2, .inl (x2)), (3, .inl (x3)), (4, .inl (x4)), (5, .inr (.inl (0))), (7, .inr (.inl (0))), (9, .inl (0))] rfl rfl (List.forall_mem_cons.mpr ⟨rfl, List.forall_mem_cons.mpr ⟨rfl, List.forall_mem_cons.mpr ⟨rfl, List.forall_mem_cons.mpr ⟨rfl, List.forall_mem_cons.mpr ⟨rfl, List.forall_mem_cons.mpr ⟨rfl, List.forall_mem_cons.mpr ⟨rfl, fun _ h => absurd h List.not_mem_nil⟩⟩⟩⟩⟩⟩⟩) ?_
          refine cl_R_cards_30 ?_ px_big _ _ _ _ _ _ _ _ h
          · intro x4 x5 x7 out h
            refine px_D_st 2 (ip1 := 62) (ls1 := [(4, .inl (x4)), (5, .inr (.inl (x5))), (7, .inr (.inl (x7)))]) (st1 := [.inr (.inl (x7)), .inr (.inl (x5))]) (h1 := (px_G1, s)) rfl ?_
            refine px_D_call (as := [.inr (.inl (x5)), .inr (.inl (x7))]) (rest := []) rfl rfl rfl rfl ?_
            obtain ⟨q9, hq9, h⟩ := Option.bind_eq_some_iff.mp h
            refine px_D_mono (c_R_commonPart (d := d + 0) hq9) ?_
            rintro _ _ ⟨rfl, rfl⟩
            show px_D sc (d + 1) 130 63 [(4, .inl (x4)), (5, .inr (.inl (x5))), (7, .inr (.inl (x7)))] [.inr (.inl (q9))] (px_G1, s) _
            refine px_D_st 2 (ip1 := 65) (ls1 := [(9, .inr (.inl (q9))), (4, .inl (x4)), (5, .inr (.inl (x5))), (7, .inr (.inl (x7)))]) (st1 := [.inl (x4)]) (h1 := (px_G1, s)) rfl ?_
            refine px_D_ifc rfl (fun hc => ?_) (fun hc => ?_)
            · have hc10 : ¬ ((x4) = (0)) := of_decide_eq_true hc
              rw [if_neg hc10] at h
              refine px_D_st 5 (ip1 := 73) (ls1 := [(11, .inr (.inl (x7))), (9, .inr (.inl (q9))), (4, .inl (x4)), (5, .inr (.inl (x5))), (7, .inr (.inl (x7)))]) (st1 := [.inl ((if (q9) < (0) then -1 else if (q9) = (0) then 0 else 1))]) (h1 := (px_G1, s)) rfl ?_
              refine px_D_ifc rfl (fun hc => ?_) (fun hc => ?_)
              · have hc11 : ((if (q9) < (0) then -1 else if (q9) = (0) then 0 else 1)) ≤ (0) := of_decide_eq_true hc
                rw [if_pos hc11] at h
                refine px_D_st 1 (ip1 := 79) (ls1 := [(11, .inr (.inl (x7))), (9, .inr (.inl (q9))), (4, .inl (x4)), (5, .inr (.inl (x5))), (7, .inr (.inl (x7)))]) (st1 := [.inr (.inl (x7))]) (h1 := (px_G1, s)) rfl ?_
                cases h
                exact px_D_lret rfl ⟨rfl, rfl⟩
              · have hc11 : ¬ (((if (q9) < (0) then -1 else if (q9) = (0) then 0 else 1)) ≤ (0)) := of_decide_eq_false hc
                rw [if_neg hc11] at h
                refine px_D_st 2 (ip1 := 76) (ls1 := [(11, .inr (.inl (x7))), (9, .inr (.inl (q9))), (4, .inl (x4)), (5, .inr (.inl (x5))), (7, .inr (.inl (x7)))]) (st1 := [.inr (.inl (q9)), .inr (.inl (x7))]) (h1 := (px_G1, s)) rfl ?_
                by_cases hc12 : (q9) = 0
                · rw [if_pos hc12] at h; cases h
                rw [if_neg hc12] at h
                refine px_D_ldiv rfl hc12 ?_
                refine px_D_st 1 (ip1 := 79) (ls1 := [(11, .inr (.inl (x7))), (9, .inr (.inl (q9))), (4, .inl (x4)), (5, .inr (.inl (x5))), (7, .inr (.inl (x7)))]) (st1 := [.inr (.inl (px_wl (x7.tdiv q9)))]) (h1 := (px_G1, s)) rfl ?_
                cases h
                exact px_D_lret rfl ⟨rfl, rfl⟩
            · have hc10 : (x4) = (0) := Decidable.of_not_not (of_decide_eq_false hc)
              rw [if_pos hc10] at h
              refine px_D_st 6 (ip1 := 73) (ls1 := [(11, .inr (.inl (x5))), (9, .inr (.inl (q9))), (4, .inl (x4)), (5, .inr (.inl (x5))), (7, .inr (.inl (x7)))]) (st1 := [.inl ((if (q9) < (0) then -1 else if (q9) = (0) then 0 else 1))]) (h1 := (px_G1, s)) rfl ?_
              refine px_D_ifc rfl (fun hc => ?_) (fun hc => ?_)
              · have hc13 : ((if (q9) < (0) then -1 else if (q9) = (0) then 0 else 1)) ≤ (0) := of_decide_eq_true hc
                rw [if_pos hc13] at h
                refine px_D_st 1 (ip1 := 79) (ls1 := [(11, .inr (.inl (x5))), (9, .inr (.inl (q9))), (4, .inl (x4)), (5, .inr (.inl (x5))), (7, .inr (.inl (x7)))]) (st1 := [.inr (.inl (x5))]) (h1 := (px_G1, s)) rfl ?_
                cases h
                exact px_D_lret rfl ⟨rfl, rfl⟩
              · have hc13 : ¬ (((if (q9) < (0) then -1 else if (q9) = (0) then 0 else 1)) ≤ (0)) := of_decide_eq_false hc
                rw [if_neg hc13] at h
                refine px_D_st 2 (ip1 := 76) (ls1 := [(11, .inr (.inl (x5))), (9, .inr (.inl (q9))), (4, .inl (x4)), (5, .inr (.inl (x5))), (7, .inr (.inl (x7)))]) (st1 := [.inr (.inl (q9)), .inr (.inl (x5))]) (h1 := (px_G1, s)) rfl ?_
                by_cases hc14 : (q9) = 0
                · rw [if_pos hc14] at h; cases h
                rw [if_neg hc14] at h
                refine px_D_ldiv rfl hc14 ?_
                refine px_D_st 1 (ip1 := 79) (ls1 := [(11, .inr (.inl (x5))), (9, .inr (.inl (q9))), (4, .inl (x4)), (5, .inr (.inl (x5))), (7, .inr (.inl (x7)))]) (st1 := [.inr (.inl (px_wl (x5.tdiv q9)))]) (h1 := (px_G1, s)) rfl ?_
                cases h
                exact px_D_lret rfl ⟨rfl, rfl⟩
        · have hc4 : (f_R_within s x4 0 1) = (0) := Decidable.of_not_not (of_decide_eq_false hc)
          rw [if_pos hc4] at h
          refine px_D_st 1 (ip1 := 23) (ls1 := [(0, .inr (.inr 5)), (1, .inl (x1)), (2, .inl (x2)), (3, .inl (x3)), (4, .inl (x4))]) (st1 := [.inr (.inl ((-1)))]) (h1 := (px_G1, s)) rfl ?_
          cases h
          exact px_D_lret rfl ⟨rfl, rfl⟩

def f_Math_floorDiv (s : px_Z) (x0 : Int) (x1 : Int) : Option (Int) := if (x1) = 0 then none else if (0) ≤ (px_xor (x0) (x1)) then some (px_wr (x0.tdiv x1)) else (if (px_wr ((px_wr (x0.tdiv x1)) * x1)) = (x0) then some (px_wr (x0.tdiv x1)) else some (px_wr ((px_wr (x0.tdiv x1)) - 1)))
set_option maxHeartbeats 4000000 in
set_option maxRecDepth 100000 in
theorem c_Math_floorDiv {sc : List Int} {d : Nat} {s : px_Z} {x0 : Int} {x1 : Int} {out : Int} (h : f_Math_floorDiv s x0 x1 = some out) : px_D sc (d + 0) 281 0 [(0, .inl (x0)), (1, .inl (x1))] [] (px_G1, s) (px_Qp s out) := by
  unfold f_Math_floorDiv at h
  refine px_D_st 2 (ip1 := 2) (ls1 := [(0, .inl (x0)), (1, .inl (x1))]) (st1 := [.inl (x1), .inl (x0)]) (h1 := (px_G1, s)) rfl ?_
  by_cases hc1 : (x1) = 0
  · rw [if_pos hc1] at h; cases h
  rw [if_neg hc1] at h
  refine px_D_div rfl hc1 ?_
  refine px_D_st 4 (ip1 := 7) (ls1 := [(2, .inl (px_wr (x0.tdiv x1))), (0, .inl (x0)), (1, .inl (x1))]) (st1 := [.inl (px_xor (x0) (x1))]) (h1 := (px_G1, s)) rfl ?_
  refine px_D_ifc rfl (fun hc => ?_) (fun hc => ?_)
  · have hc2 : (0) ≤ (px_xor (x0) (x1)) := of_decide_eq_true hc
    rw [if_pos hc2] at h
    refine px_D_st 1 (ip1 := 18) (ls1 := [(2, .inl (px_wr (x0.tdiv x1))), (0, .inl (x0)), (1, .inl (x1))]) (st1 := [.inl (px_wr (x0.tdiv x1))]) (h1 := (px_G1, s)) rfl ?_
    cases h
    exact px_D_iret rfl rfl ⟨rfl, rfl⟩
  · have hc2 : ¬ ((0) ≤ (px_xor (x0) (x1))) := of_decide_eq_false hc
    rw [if_neg hc2] at h
    refine px_D_st 4 (ip1 := 12) (ls1 := [(2, .inl (px_wr (x0.tdiv x1))), (0, .inl (x0)), (1, .inl (x1))]) (st1 := [.inl (x0), .inl (px_wr ((px_wr (x0.tdiv x1)) * x1))]) (h1 := (px_G1, s)) rfl ?_
    refine px_D_icmp rfl (fun hc => ?_) (fun hc => ?_)
    · have hc3 : (px_wr ((px_wr (x0.tdiv x1)) * x1)) = (x0) := of_decide_eq_true hc
      rw [if_pos hc3] at h
      refine px_D_st 1 (ip1 := 18) (ls1 := [(2, .inl (px_wr (x0.tdiv x1))), (0, .inl (x0)), (1, .inl (x1))]) (st1 := [.inl (px_wr (x0.tdiv x1))]) (h1 := (px_G1, s)) rfl ?_
      cases h
      exact px_D_iret rfl rfl ⟨rfl, rfl⟩
    · have hc3 : ¬ ((px_wr ((px_wr (x0.tdiv x1)) * x1)) = (x0)) := of_decide_eq_false hc
      rw [if_neg hc3] at h
      refine px_D_st 3 (ip1 := 16) (ls1 := [(2, .inl (px_wr (x0.tdiv x1))), (0, .inl (x0)), (1, .inl (x1))]) (st1 := [.inl (px_wr ((px_wr (x0.tdiv x1)) - 1))]) (h1 := (px_G1, s)) rfl ?_
      cases h
      exact px_D_iret rfl rfl ⟨rfl, rfl⟩

def f_R_share (s : px_Z) (x1 : Int) (x2 : Int) (x3 : Int) (x4 : Int) : Option (Int) := if (f_R_within s x1 0 99999) = (0) then some (-1) else (if (f_R_within s x2 1 99) = (0) then some (-1) else (if (f_R_within s x3 1 99) = (0) then some (-1) else (f_Math_floorDiv s (px_wr (x1 * x2)) (px_wr (x2 + x3))).bind (fun q4 => (f_Math_floorDiv s (px_wr (x1 * x3)) (px_wr (x2 + x3))).bind (fun q5 => if (x4) = 0 then some q4 else (if (x4) = 1 then some q5 else (if (x4) = 2 then some (px_wr ((px_wr (x1 - q4)) - q5)) else some (-1)))))))
set_option maxHeartbeats 4000000 in
set_option maxRecDepth 100000 in
theorem c_R_share {sc : List Int} {d : Nat} {s : px_Z} {x1 : Int} {x2 : Int} {x3 : Int} {x4 : Int} {out : Int} (h : f_R_share s x1 x2 x3 x4 = some out) : px_D sc (d + 1) 131 0 [(0, .inr (.inr 5)), (1, .inl (x1)), (2, .inl (x2)), (3, .inl (x3)), (4, .inl (x4))] [] (px_G1, s) (px_Qp s out) := by
  unfold f_R_share at h
  refine px_D_st 3 (ip1 := 3) (ls1 := [(0, .inr (.inr 5)), (1, .inl (x1)), (2, .inl (x2)), (3, .inl (x3)), (4, .inl (x4))]) (st1 := [.inl (99999), .inl (0), .inl (x1)]) (h1 := (px_G1, s)) rfl ?_
  refine px_D_call (as := [.inl (x1), .inl (0), .inl (99999)]) (rest := []) rfl rfl rfl rfl ?_
  refine px_D_mono (c_R_within (d := d + 0) rfl) ?_
  rintro _ _ ⟨rfl, rfl⟩
  show px_D sc (d + 1) 131 4 [(0, .inr (.inr 5)), (1, .inl (x1)), (2, .inl (x2)), (3, .inl (x3)), (4, .inl (x4))] [.inl (f_R_within s x1 0 99999)] (px_G1, s) _
  refine px_D_ifc rfl (fun hc => ?_) (fun hc => ?_)
  · have hc1 : (f_R_within s x1 0 99999) = (0) := of_decide_eq_true hc
    rw [if_pos hc1] at h
    refine px_D_st 1 (ip1 := 16) (ls1 := [(0, .inr (.inr 5)), (1, .inl (x1)), (2, .inl (x2)), (3, .inl (x3)), (4, .inl (x4))]) (st1 := [.inl ((-1))]) (h1 := (px_G1, s)) rfl ?_
    cases h
    exact px_D_iret rfl rfl ⟨rfl, rfl⟩
  · have hc1 : ¬ ((f_R_within s x1 0 99999) = (0)) := of_decide_eq_false hc
    rw [if_neg hc1] at h
    refine px_D_st 3 (ip1 := 8) (ls1 := [(0, .inr (.inr 5)), (1, .inl (x1)), (2, .inl (x2)), (3, .inl (x3)), (4, .inl (x4))]) (st1 := [.inl (99), .inl (1), .inl (x2)]) (h1 := (px_G1, s)) rfl ?_
    refine px_D_call (as := [.inl (x2), .inl (1), .inl (99)]) (rest := []) rfl rfl rfl rfl ?_
    refine px_D_mono (c_R_within (d := d + 0) rfl) ?_
    rintro _ _ ⟨rfl, rfl⟩
    show px_D sc (d + 1) 131 9 [(0, .inr (.inr 5)), (1, .inl (x1)), (2, .inl (x2)), (3, .inl (x3)), (4, .inl (x4))] [.inl (f_R_within s x2 1 99)] (px_G1, s) _
    refine px_D_ifc rfl (fun hc => ?_) (fun hc => ?_)
    · have hc2 : (f_R_within s x2 1 99) = (0) := of_decide_eq_true hc
      rw [if_pos hc2] at h
      refine px_D_st 1 (ip1 := 16) (ls1 := [(0, .inr (.inr 5)), (1, .inl (x1)), (2, .inl (x2)), (3, .inl (x3)), (4, .inl (x4))]) (st1 := [.inl ((-1))]) (h1 := (px_G1, s)) rfl ?_
      cases h
      exact px_D_iret rfl rfl ⟨rfl, rfl⟩
    · have hc2 : ¬ ((f_R_within s x2 1 99) = (0)) := of_decide_eq_false hc
      rw [if_neg hc2] at h
      refine px_D_st 3 (ip1 := 13) (ls1 := [(0, .inr (.inr 5)), (1, .inl (x1)), (2, .inl (x2)), (3, .inl (x3)), (4, .inl (x4))]) (st1 := [.inl (99), .inl (1), .inl (x3)]) (h1 := (px_G1, s)) rfl ?_
      refine px_D_call (as := [.inl (x3), .inl (1), .inl (99)]) (rest := []) rfl rfl rfl rfl ?_
      refine px_D_mono (c_R_within (d := d + 0) rfl) ?_
      rintro _ _ ⟨rfl, rfl⟩
      show px_D sc (d + 1) 131 14 [(0, .inr (.inr 5)), (1, .inl (x1)), (2, .inl (x2)), (3, .inl (x3)), (4, .inl (x4))] [.inl (f_R_within s x3 1 99)] (px_G1, s) _
      refine px_D_ifc rfl (fun hc => ?_) (fun hc => ?_)
      · have hc3 : ¬ ((f_R_within s x3 1 99) = (0)) := of_decide_eq_true hc
        rw [if_neg hc3] at h
        refine px_D_st 6 (ip1 := 23) (ls1 := [(0, .inr (.inr 5)), (1, .inl (x1)), (2, .inl (x2)), (3, .inl (x3)), (4, .inl (x4))]) (st1 := [.inl (px_wr (x2 + x3)), .inl (px_wr (x1 * x2))]) (h1 := (px_G1, s)) rfl ?_
        refine px_D_call (as := [.inl (px_wr (x1 * x2)), .inl (px_wr (x2 + x3))]) (rest := []) rfl rfl rfl rfl ?_
        obtain ⟨q4, hq4, h⟩ := Option.bind_eq_some_iff.mp h
        refine px_D_mono (c_Math_floorDiv (d := d + 0) hq4) ?_
        rintro _ _ ⟨rfl, rfl⟩
        show px_D sc (d + 1) 131 24 [(0, .inr (.inr 5)), (1, .inl (x1)), (2, .inl (x2)), (3, .inl (x3)), (4, .inl (x4))] [.inl (q4)] (px_G1, s) _
        refine px_D_st 7 (ip1 := 31) (ls1 := [(5, .inl (q4)), (0, .inr (.inr 5)), (1, .inl (x1)), (2, .inl (x2)), (3, .inl (x3)), (4, .inl (x4))]) (st1 := [.inl (px_wr (x2 + x3)), .inl (px_wr (x1 * x3))]) (h1 := (px_G1, s)) rfl ?_
        refine px_D_call (as := [.inl (px_wr (x1 * x3)), .inl (px_wr (x2 + x3))]) (rest := []) rfl rfl rfl rfl ?_
        obtain ⟨q5, hq5, h⟩ := Option.bind_eq_some_iff.mp h
        refine px_D_mono (c_Math_floorDiv (d := d + 0) hq5) ?_
        rintro _ _ ⟨rfl, rfl⟩
        show px_D sc (d + 1) 131 32 [(5, .inl (q4)), (0, .inr (.inr 5)), (1, .inl (x1)), (2, .inl (x2)), (3, .inl (x3)), (4, .inl (x4))] [.inl (q5)] (px_G1, s) _
        refine px_D_st 2 (ip1 := 34) (ls1 := [(6, .inl (q5)), (5, .inl (q4)), (0, .inr (.inr 5)), (1, .inl (x1)), (2, .inl (x2)), (3, .inl (x3)), (4, .inl (x4))]) (st1 := [.inl (x4)]) (h1 := (px_G1, s)) rfl ?_
        by_cases hc6 : (x4) = 0
        · rw [if_pos hc6] at h
          refine px_D_tsw (c := 0) rfl hc6 (by decide) rfl ?_
          refine px_D_st 1 (ip1 := 36) (ls1 := [(6, .inl (q5)), (5, .inl (q4)), (0, .inr (.inr 5)), (1, .inl (x1)), (2, .inl (x2)), (3, .inl (x3)), (4, .inl (x4))]) (st1 := [.inl (q4)]) (h1 := (px_G1, s)) rfl ?_
          cases h
          exact px_D_iret rfl rfl ⟨rfl, rfl⟩
        rw [if_neg hc6] at h
        by_cases hc7 : (x4) = 1
        · rw [if_pos hc7] at h
          refine px_D_tsw (c := 1) rfl hc7 (by decide) rfl ?_
          refine px_D_st 1 (ip1 := 38) (ls1 := [(6, .inl (q5)), (5, .inl (q4)), (0, .inr (.inr 5)), (1, .inl (x1)), (2, .inl (x2)), (3, .inl (x3)), (4, .inl (x4))]) (st1 := [.inl (q5)]) (h1 := (px_G1, s)) rfl ?_
          cases h
          exact px_D_iret rfl rfl ⟨rfl, rfl⟩
        rw [if_neg hc7] at h
        by_cases hc8 : (x4) = 2
        · rw [if_pos hc8] at h
          refine px_D_tsw (c := 2) rfl hc8 (by decide) rfl ?_
          refine px_D_st 5 (ip1 := 44) (ls1 := [(6, .inl (q5)), (5, .inl (q4)), (0, .inr (.inr 5)), (1, .inl (x1)), (2, .inl (x2)), (3, .inl (x3)), (4, .inl (x4))]) (st1 := [.inl (px_wr ((px_wr (x1 - q4)) - q5))]) (h1 := (px_G1, s)) rfl ?_
          cases h
          exact px_D_iret rfl rfl ⟨rfl, rfl⟩
        rw [if_neg hc8] at h
        refine px_D_tswD rfl (by omega) ?_
        refine px_D_st 1 (ip1 := 46) (ls1 := [(6, .inl (q5)), (5, .inl (q4)), (0, .inr (.inr 5)), (1, .inl (x1)), (2, .inl (x2)), (3, .inl (x3)), (4, .inl (x4))]) (st1 := [.inl ((-1))]) (h1 := (px_G1, s)) rfl ?_
        cases h
        exact px_D_iret rfl rfl ⟨rfl, rfl⟩
      · have hc3 : (f_R_within s x3 1 99) = (0) := Decidable.of_not_not (of_decide_eq_false hc)
        rw [if_pos hc3] at h
        refine px_D_st 1 (ip1 := 16) (ls1 := [(0, .inr (.inr 5)), (1, .inl (x1)), (2, .inl (x2)), (3, .inl (x3)), (4, .inl (x4))]) (st1 := [.inl ((-1))]) (h1 := (px_G1, s)) rfl ?_
        cases h
        exact px_D_iret rfl rfl ⟨rfl, rfl⟩

def f_Told_addErrand (s : px_Z) (x1 : Int) (x2 : Int) : Option (Int × px_Z) := if (s 38 2) < (12) then (if 0 ≤ (s 38 2) ∧ (s 38 2) < 12 then if 0 ≤ ((px_up s 43 (s 38 2).toNat x1) 38 2) ∧ ((px_up s 43 (s 38 2).toNat x1) 38 2) < 12 then some (((px_up (px_up (px_up s 43 (s 38 2).toNat x1) 44 ((px_up s 43 (s 38 2).toNat x1) 38 2).toNat x2) 38 2 (px_wr (((px_up (px_up s 43 (s 38 2).toNat x1) 44 ((px_up s 43 (s 38 2).toNat x1) 38 2).toNat x2) 38 2) + 1))) 38 2, px_up (px_up (px_up s 43 (s 38 2).toNat x1) 44 ((px_up s 43 (s 38 2).toNat x1) 38 2).toNat x2) 38 2 (px_wr (((px_up (px_up s 43 (s 38 2).toNat x1) 44 ((px_up s 43 (s 38 2).toNat x1) 38 2).toNat x2) 38 2) + 1)))) else none else none) else some (((-1), s))
set_option maxHeartbeats 4000000 in
set_option maxRecDepth 100000 in
theorem c_Told_addErrand {sc : List Int} {d : Nat} {s : px_Z} {x1 : Int} {x2 : Int} {out : Int × px_Z} (h : f_Told_addErrand s x1 x2 = some out) : px_D sc (d + 0) 67 0 [(0, .inr (.inr 38)), (1, .inl (x1)), (2, .inl (x2))] [] (px_G1, s) (px_Qi out) := by
  unfold f_Told_addErrand at h
  refine px_D_st 3 (ip1 := 3) (ls1 := [(0, .inr (.inr 38)), (1, .inl (x1)), (2, .inl (x2))]) (st1 := [.inl (12), .inl (s 38 2)]) (h1 := (px_G1, s)) rfl ?_
  refine px_D_icmp rfl (fun hc => ?_) (fun hc => ?_)
  · have hc1 : (s 38 2) < (12) := of_decide_eq_true hc
    rw [if_pos hc1] at h
    refine px_D_st 5 (ip1 := 11) (ls1 := [(0, .inr (.inr 38)), (1, .inl (x1)), (2, .inl (x2))]) (st1 := [.inl (x1), .inl (s 38 2), .inr (.inr 43)]) (h1 := (px_G1, s)) rfl ?_
    by_cases hc2 : 0 ≤ (s 38 2) ∧ (s 38 2) < 12
    case neg => rw [if_neg hc2] at h; cases h
    rw [if_pos hc2] at h
    refine px_D_iast (k := 38) (n := 12) rfl rfl hc2 ?_
    refine px_D_st 5 (ip1 := 17) (ls1 := [(0, .inr (.inr 38)), (1, .inl (x1)), (2, .inl (x2))]) (st1 := [.inl (x2), .inl ((px_up s 43 (s 38 2).toNat x1) 38 2), .inr (.inr 44)]) (h1 := (px_G1, px_up s 43 (s 38 2).toNat x1)) rfl ?_
    by_cases hc3 : 0 ≤ ((px_up s 43 (s 38 2).toNat x1) 38 2) ∧ ((px_up s 43 (s 38 2).toNat x1) 38 2) < 12
    case neg => rw [if_neg hc3] at h; cases h
    rw [if_pos hc3] at h
    refine px_D_iast (k := 39) (n := 12) rfl rfl hc3 ?_
    refine px_D_st 8 (ip1 := 26) (ls1 := [(0, .inr (.inr 38)), (1, .inl (x1)), (2, .inl (x2))]) (st1 := [.inl ((px_up (px_up (px_up s 43 (s 38 2).toNat x1) 44 ((px_up s 43 (s 38 2).toNat x1) 38 2).toNat x2) 38 2 (px_wr (((px_up (px_up s 43 (s 38 2).toNat x1) 44 ((px_up s 43 (s 38 2).toNat x1) 38 2).toNat x2) 38 2) + 1))) 38 2)]) (h1 := (px_G1, px_up (px_up (px_up s 43 (s 38 2).toNat x1) 44 ((px_up s 43 (s 38 2).toNat x1) 38 2).toNat x2) 38 2 (px_wr (((px_up (px_up s 43 (s 38 2).toNat x1) 44 ((px_up s 43 (s 38 2).toNat x1) 38 2).toNat x2) 38 2) + 1)))) rfl ?_
    cases h
    exact px_D_iret rfl rfl ⟨rfl, rfl⟩
  · have hc1 : ¬ ((s 38 2) < (12)) := of_decide_eq_false hc
    rw [if_neg hc1] at h
    refine px_D_st 1 (ip1 := 5) (ls1 := [(0, .inr (.inr 38)), (1, .inl (x1)), (2, .inl (x2))]) (st1 := [.inl ((-1))]) (h1 := (px_G1, s)) rfl ?_
    cases h
    exact px_D_iret rfl rfl ⟨rfl, rfl⟩
