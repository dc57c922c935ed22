/-! THE IMAGE -/
theorem pz_cp_s {f : px_Z} {a d n i : Nat} (h : i < n) : px_cp f a d 0 0 n d i = f a i := by
  rw [pz_cp_get, if_pos ⟨rfl, Nat.zero_le _, by omega⟩, Nat.zero_add, Nat.sub_zero]
theorem pz_cp_c {f : px_Z} {a d p q n c i : Nat} (h : c ≠ d) : px_cp f a d p q n c i = f c i := by
  rw [pz_cp_get, if_neg (fun r => h r.1)]
def pz_wb1 (q : px_Z) : px_Z := (px_cp (px_cp (px_cp (px_cp (px_cp (px_cp (px_cp (px_up (px_up (px_up (px_cp (px_cp (px_cp (px_up (px_cp (px_cp (px_cp (px_cp (px_cp (px_up (px_cp (px_cp (px_cp (px_cp (px_cp (px_up (px_up (px_cp (px_cp (px_cp (px_cp (px_cp (px_up (px_up (px_up (px_cp (px_cp (px_up (px_up (px_up (px_up q 47 1 (q 6 1)) 47 2 (q 6 2)) 47 3 (q 6 3)) 47 4 (q 6 4)) 12 53 0 0 8) 13 54 0 0 8) 47 7 (q 6 7)) 55 0 (q 14 0)) 55 1 (q 14 1)) 15 56 0 0 16) 16 57 0 0 16) 17 58 0 0 16) 18 59 0 0 16) 19 60 0 0 400) 62 0 (q 21 0)) 62 1 (q 21 1)) 22 63 0 0 16) 23 64 0 0 16) 24 65 0 0 16) 25 66 0 0 16) 26 67 0 0 400) 69 0 (q 28 0)) 29 70 0 0 24) 30 71 0 0 24) 31 72 0 0 24) 32 73 0 0 24) 33 74 0 0 24) 75 0 (q 34 0)) 35 76 0 0 60) 36 77 0 0 60) 37 78 0 0 60) 79 0 (q 38 0)) 79 1 (q 38 1)) 79 2 (q 38 2)) 39 80 0 0 8) 40 81 0 0 12) 41 82 0 0 12) 42 83 0 0 12) 43 84 0 0 12) 44 85 0 0 12) 45 86 0 0 600)
set_option maxRecDepth 20000 in
theorem pz_wb1_eq {s q : px_Z} (h : f_Fate_become_13 s = some q) : f_World_become s = some (pz_wb1 q) := by
  unfold f_World_become
  rw [h, Option.bind_some]
  rfl
theorem pz_wb1_fr {q : px_Z} {c i : Nat} (h : ¬ (47 ≤ c ∧ c < 88)) : pz_wb1 q c i = q c i := by
  unfold pz_wb1
  simp (disch := omega) only [pz_cp_c, pz_up_c]
theorem pz_wb1_ku {q : px_Z} {c i : Nat} (h : pz_ku c i = true) (hc : ¬ (1 ≤ c ∧ c ≤ 5)) : pz_wb1 q (47 + c) i = q (6 + c) i := by
  have h40 := pz_ku_lt h
  rcases (show c = 0 ∨ c = 1 ∨ c = 2 ∨ c = 3 ∨ c = 4 ∨ c = 5 ∨ c = 6 ∨ c = 7 ∨ c = 8 ∨ c = 9 ∨ c = 10 ∨ c = 11 ∨ c = 12 ∨ c = 13 ∨ c = 14 ∨ c = 15 ∨ c = 16 ∨ c = 17 ∨ c = 18 ∨ c = 19 ∨ c = 20 ∨ c = 21 ∨ c = 22 ∨ c = 23 ∨ c = 24 ∨ c = 25 ∨ c = 26 ∨ c = 27 ∨ c = 28 ∨ c = 29 ∨ c = 30 ∨ c = 31 ∨ c = 32 ∨ c = 33 ∨ c = 34 ∨ c = 35 ∨ c = 36 ∨ c = 37 ∨ c = 38 ∨ c = 39 by omega) with rfl | rfl | rfl | rfl | rfl | rfl | rfl | rfl | rfl | rfl | rfl | rfl | rfl | rfl | rfl | rfl | rfl | rfl | rfl | rfl | rfl | rfl | rfl | rfl | rfl | rfl | rfl | rfl | rfl | rfl | rfl | rfl | rfl | rfl | rfl | rfl | rfl | rfl | rfl | rfl
  · have hi : i = 1 ∨ i = 2 ∨ i = 3 ∨ i = 4 ∨ i = 7 := by
      have h2 : [1, 2, 3, 4, 7].contains i = true := h
      simpa only [List.contains_cons, List.contains_nil, Bool.or_eq_true, beq_iff_eq, Bool.or_false] using h2
    rcases hi with rfl | rfl | rfl | rfl | rfl
    all_goals (show pz_wb1 q 47 _ = q 6 _; unfold pz_wb1; simp (disch := decide) only [pz_cp_c, pz_up_c, pz_up_i, pz_up_s])
  · exact absurd hc (by decide)
  · exact absurd hc (by decide)
  · exact absurd hc (by decide)
  · exact absurd hc (by decide)
  · exact absurd hc (by decide)
  · have hi : i < 8 := of_decide_eq_true h
    show pz_wb1 q 53 i = q 12 i
    unfold pz_wb1
    simp (disch := first | decide | exact hi) only [pz_cp_c, pz_up_c, pz_cp_s]
  · have hi : i < 8 := of_decide_eq_true h
    show pz_wb1 q 54 i = q 13 i
    unfold pz_wb1
    simp (disch := first | decide | exact hi) only [pz_cp_c, pz_up_c, pz_cp_s]
  · have hi : i < 2 := of_decide_eq_true h
    rcases (show i = 0 ∨ i = 1 by omega) with rfl | rfl
    all_goals (show pz_wb1 q 55 _ = q 14 _; unfold pz_wb1; simp (disch := decide) only [pz_cp_c, pz_up_c, pz_up_i, pz_up_s])
  · have hi : i < 16 := of_decide_eq_true h
    show pz_wb1 q 56 i = q 15 i
    unfold pz_wb1
    simp (disch := first | decide | exact hi) only [pz_cp_c, pz_up_c, pz_cp_s]
  · have hi : i < 16 := of_decide_eq_true h
    show pz_wb1 q 57 i = q 16 i
    unfold pz_wb1
    simp (disch := first | decide | exact hi) only [pz_cp_c, pz_up_c, pz_cp_s]
  · have hi : i < 16 := of_decide_eq_true h
    show pz_wb1 q 58 i = q 17 i
    unfold pz_wb1
    simp (disch := first | decide | exact hi) only [pz_cp_c, pz_up_c, pz_cp_s]
  · have hi : i < 16 := of_decide_eq_true h
    show pz_wb1 q 59 i = q 18 i
    unfold pz_wb1
    simp (disch := first | decide | exact hi) only [pz_cp_c, pz_up_c, pz_cp_s]
  · have hi : i < 400 := of_decide_eq_true h
    show pz_wb1 q 60 i = q 19 i
    unfold pz_wb1
    simp (disch := first | decide | exact hi) only [pz_cp_c, pz_up_c, pz_cp_s]
  · cases h
  · have hi : i < 2 := of_decide_eq_true h
    rcases (show i = 0 ∨ i = 1 by omega) with rfl | rfl
    all_goals (show pz_wb1 q 62 _ = q 21 _; unfold pz_wb1; simp (disch := decide) only [pz_cp_c, pz_up_c, pz_up_i, pz_up_s])
  · have hi : i < 16 := of_decide_eq_true h
    show pz_wb1 q 63 i = q 22 i
    unfold pz_wb1
    simp (disch := first | decide | exact hi) only [pz_cp_c, pz_up_c, pz_cp_s]
  · have hi : i < 16 := of_decide_eq_true h
    show pz_wb1 q 64 i = q 23 i
    unfold pz_wb1
    simp (disch := first | decide | exact hi) only [pz_cp_c, pz_up_c, pz_cp_s]
  · have hi : i < 16 := of_decide_eq_true h
    show pz_wb1 q 65 i = q 24 i
    unfold pz_wb1
    simp (disch := first | decide | exact hi) only [pz_cp_c, pz_up_c, pz_cp_s]
  · have hi : i < 16 := of_decide_eq_true h
    show pz_wb1 q 66 i = q 25 i
    unfold pz_wb1
    simp (disch := first | decide | exact hi) only [pz_cp_c, pz_up_c, pz_cp_s]
  · have hi : i < 400 := of_decide_eq_true h
    show pz_wb1 q 67 i = q 26 i
    unfold pz_wb1
    simp (disch := first | decide | exact hi) only [pz_cp_c, pz_up_c, pz_cp_s]
  · cases h
  · have hi : i < 1 := of_decide_eq_true h
    rcases (show i = 0 by omega) with rfl
    all_goals (show pz_wb1 q 69 _ = q 28 _; unfold pz_wb1; simp (disch := decide) only [pz_cp_c, pz_up_c, pz_up_i, pz_up_s])
  · have hi : i < 24 := of_decide_eq_true h
    show pz_wb1 q 70 i = q 29 i
    unfold pz_wb1
    simp (disch := first | decide | exact hi) only [pz_cp_c, pz_up_c, pz_cp_s]
  · have hi : i < 24 := of_decide_eq_true h
    show pz_wb1 q 71 i = q 30 i
    unfold pz_wb1
    simp (disch := first | decide | exact hi) only [pz_cp_c, pz_up_c, pz_cp_s]
  · have hi : i < 24 := of_decide_eq_true h
    show pz_wb1 q 72 i = q 31 i
    unfold pz_wb1
    simp (disch := first | decide | exact hi) only [pz_cp_c, pz_up_c, pz_cp_s]
  · have hi : i < 24 := of_decide_eq_true h
    show pz_wb1 q 73 i = q 32 i
    unfold pz_wb1
    simp (disch := first | decide | exact hi) only [pz_cp_c, pz_up_c, pz_cp_s]
  · have hi : i < 24 := of_decide_eq_true h
    show pz_wb1 q 74 i = q 33 i
    unfold pz_wb1
    simp (disch := first | decide | exact hi) only [pz_cp_c, pz_up_c, pz_cp_s]
  · have hi : i < 1 := of_decide_eq_true h
    rcases (show i = 0 by omega) with rfl
    all_goals (show pz_wb1 q 75 _ = q 34 _; unfold pz_wb1; simp (disch := decide) only [pz_cp_c, pz_up_c, pz_up_i, pz_up_s])
  · have hi : i < 60 := of_decide_eq_true h
    show pz_wb1 q 76 i = q 35 i
    unfold pz_wb1
    simp (disch := first | decide | exact hi) only [pz_cp_c, pz_up_c, pz_cp_s]
  · have hi : i < 60 := of_decide_eq_true h
    show pz_wb1 q 77 i = q 36 i
    unfold pz_wb1
    simp (disch := first | decide | exact hi) only [pz_cp_c, pz_up_c, pz_cp_s]
  · have hi : i < 60 := of_decide_eq_true h
    show pz_wb1 q 78 i = q 37 i
    unfold pz_wb1
    simp (disch := first | decide | exact hi) only [pz_cp_c, pz_up_c, pz_cp_s]
  · have hi : i < 3 := of_decide_eq_true h
    rcases (show i = 0 ∨ i = 1 ∨ i = 2 by omega) with rfl | rfl | rfl
    all_goals (show pz_wb1 q 79 _ = q 38 _; unfold pz_wb1; simp (disch := decide) only [pz_cp_c, pz_up_c, pz_up_i, pz_up_s])
  · have hi : i < 8 := of_decide_eq_true h
    show pz_wb1 q 80 i = q 39 i
    unfold pz_wb1
    simp (disch := first | decide | exact hi) only [pz_cp_c, pz_up_c, pz_cp_s]
  · have hi : i < 12 := of_decide_eq_true h
    show pz_wb1 q 81 i = q 40 i
    unfold pz_wb1
    simp (disch := first | decide | exact hi) only [pz_cp_c, pz_up_c, pz_cp_s]
  · have hi : i < 12 := of_decide_eq_true h
    show pz_wb1 q 82 i = q 41 i
    unfold pz_wb1
    simp (disch := first | decide | exact hi) only [pz_cp_c, pz_up_c, pz_cp_s]
  · have hi : i < 12 := of_decide_eq_true h
    show pz_wb1 q 83 i = q 42 i
    unfold pz_wb1
    simp (disch := first | decide | exact hi) only [pz_cp_c, pz_up_c, pz_cp_s]
  · have hi : i < 12 := of_decide_eq_true h
    show pz_wb1 q 84 i = q 43 i
    unfold pz_wb1
    simp (disch := first | decide | exact hi) only [pz_cp_c, pz_up_c, pz_cp_s]
  · have hi : i < 12 := of_decide_eq_true h
    show pz_wb1 q 85 i = q 44 i
    unfold pz_wb1
    simp (disch := first | decide | exact hi) only [pz_cp_c, pz_up_c, pz_cp_s]
  · have hi : i < 600 := of_decide_eq_true h
    show pz_wb1 q 86 i = q 45 i
    unfold pz_wb1
    simp (disch := first | decide | exact hi) only [pz_cp_c, pz_up_c, pz_cp_s]
def pz_wb2 (q : px_Z) : px_Z := (px_cp (px_cp (px_cp (px_cp (px_cp (px_cp (px_cp (px_up (px_up (px_up (px_cp (px_cp (px_cp (px_up (px_cp (px_cp (px_cp (px_cp (px_cp (px_up (px_cp (px_cp (px_cp (px_cp (px_cp (px_up (px_up (px_cp (px_cp (px_cp (px_cp (px_cp (px_up (px_up (px_up (px_cp (px_cp (px_up (px_up (px_up (px_up q 6 1 (q 47 1)) 6 2 (q 47 2)) 6 3 (q 47 3)) 6 4 (q 47 4)) 53 12 0 0 8) 54 13 0 0 8) 6 7 (q 47 7)) 14 0 (q 55 0)) 14 1 (q 55 1)) 56 15 0 0 16) 57 16 0 0 16) 58 17 0 0 16) 59 18 0 0 16) 60 19 0 0 400) 21 0 (q 62 0)) 21 1 (q 62 1)) 63 22 0 0 16) 64 23 0 0 16) 65 24 0 0 16) 66 25 0 0 16) 67 26 0 0 400) 28 0 (q 69 0)) 70 29 0 0 24) 71 30 0 0 24) 72 31 0 0 24) 73 32 0 0 24) 74 33 0 0 24) 34 0 (q 75 0)) 76 35 0 0 60) 77 36 0 0 60) 78 37 0 0 60) 38 0 (q 79 0)) 38 1 (q 79 1)) 38 2 (q 79 2)) 80 39 0 0 8) 81 40 0 0 12) 82 41 0 0 12) 83 42 0 0 12) 84 43 0 0 12) 85 44 0 0 12) 86 45 0 0 600)
set_option maxRecDepth 20000 in
theorem pz_wb2_eq {s q : px_Z} (h : f_Fate_become_14 s = some q) : f_World_become_2 s = some (pz_wb2 q) := by
  unfold f_World_become_2
  rw [h, Option.bind_some]
  rfl
theorem pz_wb2_fr {q : px_Z} {c i : Nat} (h : ¬ (6 ≤ c ∧ c < 47)) : pz_wb2 q c i = q c i := by
  unfold pz_wb2
  simp (disch := omega) only [pz_cp_c, pz_up_c]
theorem pz_wb2_ku {q : px_Z} {c i : Nat} (h : pz_ku c i = true) (hc : ¬ (1 ≤ c ∧ c ≤ 5)) : pz_wb2 q (6 + c) i = q (47 + c) i := by
  have h40 := pz_ku_lt h
  rcases (show c = 0 ∨ c = 1 ∨ c = 2 ∨ c = 3 ∨ c = 4 ∨ c = 5 ∨ c = 6 ∨ c = 7 ∨ c = 8 ∨ c = 9 ∨ c = 10 ∨ c = 11 ∨ c = 12 ∨ c = 13 ∨ c = 14 ∨ c = 15 ∨ c = 16 ∨ c = 17 ∨ c = 18 ∨ c = 19 ∨ c = 20 ∨ c = 21 ∨ c = 22 ∨ c = 23 ∨ c = 24 ∨ c = 25 ∨ c = 26 ∨ c = 27 ∨ c = 28 ∨ c = 29 ∨ c = 30 ∨ c = 31 ∨ c = 32 ∨ c = 33 ∨ c = 34 ∨ c = 35 ∨ c = 36 ∨ c = 37 ∨ c = 38 ∨ c = 39 by omega) with rfl | rfl | rfl | rfl | rfl | rfl | rfl | rfl | rfl | rfl | rfl | rfl | rfl | rfl | rfl | rfl | rfl | rfl | rfl | rfl | rfl | rfl | rfl | rfl | rfl | rfl | rfl | rfl | rfl | rfl | rfl | rfl | rfl | rfl | rfl | rfl | rfl | rfl | rfl | rfl
  · have hi : i = 1 ∨ i = 2 ∨ i = 3 ∨ i = 4 ∨ i = 7 := by
      have h2 : [1, 2, 3, 4, 7].contains i = true := h
      simpa only [List.contains_cons, List.contains_nil, Bool.or_eq_true, beq_iff_eq, Bool.or_false] using h2
    rcases hi with rfl | rfl | rfl | rfl | rfl
    all_goals (show pz_wb2 q 6 _ = q 47 _; unfold pz_wb2; simp (disch := decide) only [pz_cp_c, pz_up_c, pz_up_i, pz_up_s])
  · exact absurd hc (by decide)
  · exact absurd hc (by decide)
  · exact absurd hc (by decide)
  · exact absurd hc (by decide)
  · exact absurd hc (by decide)
  · have hi : i < 8 := of_decide_eq_true h
    show pz_wb2 q 12 i = q 53 i
    unfold pz_wb2
    simp (disch := first | decide | exact hi) only [pz_cp_c, pz_up_c, pz_cp_s]
  · have hi : i < 8 := of_decide_eq_true h
    show pz_wb2 q 13 i = q 54 i
    unfold pz_wb2
    simp (disch := first | decide | exact hi) only [pz_cp_c, pz_up_c, pz_cp_s]
  · have hi : i < 2 := of_decide_eq_true h
    rcases (show i = 0 ∨ i = 1 by omega) with rfl | rfl
    all_goals (show pz_wb2 q 14 _ = q 55 _; unfold pz_wb2; simp (disch := decide) only [pz_cp_c, pz_up_c, pz_up_i, pz_up_s])
  · have hi : i < 16 := of_decide_eq_true h
    show pz_wb2 q 15 i = q 56 i
    unfold pz_wb2
    simp (disch := first | decide | exact hi) only [pz_cp_c, pz_up_c, pz_cp_s]
  · have hi : i < 16 := of_decide_eq_true h
    show pz_wb2 q 16 i = q 57 i
    unfold pz_wb2
    simp (disch := first | decide | exact hi) only [pz_cp_c, pz_up_c, pz_cp_s]
  · have hi : i < 16 := of_decide_eq_true h
    show pz_wb2 q 17 i = q 58 i
    unfold pz_wb2
    simp (disch := first | decide | exact hi) only [pz_cp_c, pz_up_c, pz_cp_s]
  · have hi : i < 16 := of_decide_eq_true h
    show pz_wb2 q 18 i = q 59 i
    unfold pz_wb2
    simp (disch := first | decide | exact hi) only [pz_cp_c, pz_up_c, pz_cp_s]
  · have hi : i < 400 := of_decide_eq_true h
    show pz_wb2 q 19 i = q 60 i
    unfold pz_wb2
    simp (disch := first | decide | exact hi) only [pz_cp_c, pz_up_c, pz_cp_s]
  · cases h
  · have hi : i < 2 := of_decide_eq_true h
    rcases (show i = 0 ∨ i = 1 by omega) with rfl | rfl
    all_goals (show pz_wb2 q 21 _ = q 62 _; unfold pz_wb2; simp (disch := decide) only [pz_cp_c, pz_up_c, pz_up_i, pz_up_s])
  · have hi : i < 16 := of_decide_eq_true h
    show pz_wb2 q 22 i = q 63 i
    unfold pz_wb2
    simp (disch := first | decide | exact hi) only [pz_cp_c, pz_up_c, pz_cp_s]
  · have hi : i < 16 := of_decide_eq_true h
    show pz_wb2 q 23 i = q 64 i
    unfold pz_wb2
    simp (disch := first | decide | exact hi) only [pz_cp_c, pz_up_c, pz_cp_s]
  · have hi : i < 16 := of_decide_eq_true h
    show pz_wb2 q 24 i = q 65 i
    unfold pz_wb2
    simp (disch := first | decide | exact hi) only [pz_cp_c, pz_up_c, pz_cp_s]
  · have hi : i < 16 := of_decide_eq_true h
    show pz_wb2 q 25 i = q 66 i
    unfold pz_wb2
    simp (disch := first | decide | exact hi) only [pz_cp_c, pz_up_c, pz_cp_s]
  · have hi : i < 400 := of_decide_eq_true h
    show pz_wb2 q 26 i = q 67 i
    unfold pz_wb2
    simp (disch := first | decide | exact hi) only [pz_cp_c, pz_up_c, pz_cp_s]
  · cases h
  · have hi : i < 1 := of_decide_eq_true h
    rcases (show i = 0 by omega) with rfl
    all_goals (show pz_wb2 q 28 _ = q 69 _; unfold pz_wb2; simp (disch := decide) only [pz_cp_c, pz_up_c, pz_up_i, pz_up_s])
  · have hi : i < 24 := of_decide_eq_true h
    show pz_wb2 q 29 i = q 70 i
    unfold pz_wb2
    simp (disch := first | decide | exact hi) only [pz_cp_c, pz_up_c, pz_cp_s]
  · have hi : i < 24 := of_decide_eq_true h
    show pz_wb2 q 30 i = q 71 i
    unfold pz_wb2
    simp (disch := first | decide | exact hi) only [pz_cp_c, pz_up_c, pz_cp_s]
  · have hi : i < 24 := of_decide_eq_true h
    show pz_wb2 q 31 i = q 72 i
    unfold pz_wb2
    simp (disch := first | decide | exact hi) only [pz_cp_c, pz_up_c, pz_cp_s]
  · have hi : i < 24 := of_decide_eq_true h
    show pz_wb2 q 32 i = q 73 i
    unfold pz_wb2
    simp (disch := first | decide | exact hi) only [pz_cp_c, pz_up_c, pz_cp_s]
  · have hi : i < 24 := of_decide_eq_true h
    show pz_wb2 q 33 i = q 74 i
    unfold pz_wb2
    simp (disch := first | decide | exact hi) only [pz_cp_c, pz_up_c, pz_cp_s]
  · have hi : i < 1 := of_decide_eq_true h
    rcases (show i = 0 by omega) with rfl
    all_goals (show pz_wb2 q 34 _ = q 75 _; unfold pz_wb2; simp (disch := decide) only [pz_cp_c, pz_up_c, pz_up_i, pz_up_s])
  · have hi : i < 60 := of_decide_eq_true h
    show pz_wb2 q 35 i = q 76 i
    unfold pz_wb2
    simp (disch := first | decide | exact hi) only [pz_cp_c, pz_up_c, pz_cp_s]
  · have hi : i < 60 := of_decide_eq_true h
    show pz_wb2 q 36 i = q 77 i
    unfold pz_wb2
    simp (disch := first | decide | exact hi) only [pz_cp_c, pz_up_c, pz_cp_s]
  · have hi : i < 60 := of_decide_eq_true h
    show pz_wb2 q 37 i = q 78 i
    unfold pz_wb2
    simp (disch := first | decide | exact hi) only [pz_cp_c, pz_up_c, pz_cp_s]
  · have hi : i < 3 := of_decide_eq_true h
    rcases (show i = 0 ∨ i = 1 ∨ i = 2 by omega) with rfl | rfl | rfl
    all_goals (show pz_wb2 q 38 _ = q 79 _; unfold pz_wb2; simp (disch := decide) only [pz_cp_c, pz_up_c, pz_up_i, pz_up_s])
  · have hi : i < 8 := of_decide_eq_true h
    show pz_wb2 q 39 i = q 80 i
    unfold pz_wb2
    simp (disch := first | decide | exact hi) only [pz_cp_c, pz_up_c, pz_cp_s]
  · have hi : i < 12 := of_decide_eq_true h
    show pz_wb2 q 40 i = q 81 i
    unfold pz_wb2
    simp (disch := first | decide | exact hi) only [pz_cp_c, pz_up_c, pz_cp_s]
  · have hi : i < 12 := of_decide_eq_true h
    show pz_wb2 q 41 i = q 82 i
    unfold pz_wb2
    simp (disch := first | decide | exact hi) only [pz_cp_c, pz_up_c, pz_cp_s]
  · have hi : i < 12 := of_decide_eq_true h
    show pz_wb2 q 42 i = q 83 i
    unfold pz_wb2
    simp (disch := first | decide | exact hi) only [pz_cp_c, pz_up_c, pz_cp_s]
  · have hi : i < 12 := of_decide_eq_true h
    show pz_wb2 q 43 i = q 84 i
    unfold pz_wb2
    simp (disch := first | decide | exact hi) only [pz_cp_c, pz_up_c, pz_cp_s]
  · have hi : i < 12 := of_decide_eq_true h
    show pz_wb2 q 44 i = q 85 i
    unfold pz_wb2
    simp (disch := first | decide | exact hi) only [pz_cp_c, pz_up_c, pz_cp_s]
  · have hi : i < 600 := of_decide_eq_true h
    show pz_wb2 q 45 i = q 86 i
    unfold pz_wb2
    simp (disch := first | decide | exact hi) only [pz_cp_c, pz_up_c, pz_cp_s]
