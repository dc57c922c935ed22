/-! a FATE becomes another -/
theorem pz_be {s : px_Z} (h : s 7 6 = 0 ∨ s 7 6 = 1) : ∃ u, f_Fate_become s = some u ∧ pz_ag [90, 91, 92, 93, 94] s u ∧ (∀ i, i < 8 → u 90 i = s 7 i) ∧ (∀ i, i < 8 → u 91 i = s 8 i) ∧ (∀ i, i < 8 → u 92 i = s 9 i) ∧ (∀ i, i < 8 → u 93 i = s 10 i) ∧ (∀ i, i < 8 → u 94 i = s 11 i) := by
  have e : f_Fate_become s = if s 7 6 = 0 ∨ s 7 6 = 1 then some (px_cp (px_cp (px_cp (px_cp (px_up (px_up (px_up (px_up (px_up (px_up (px_up (px_up s 90 0 (s 7 0)) 90 1 (s 7 1)) 90 2 (s 7 2)) 90 3 (s 7 3)) 90 4 (s 7 4)) 90 5 (s 7 5)) 90 6 (s 7 6)) 90 7 (s 7 7)) 8 91 0 0 8) 9 92 0 0 8) 10 93 0 0 8) 11 94 0 0 8) else none := rfl
  refine ⟨(px_cp (px_cp (px_cp (px_cp (px_up (px_up (px_up (px_up (px_up (px_up (px_up (px_up s 90 0 (s 7 0)) 90 1 (s 7 1)) 90 2 (s 7 2)) 90 3 (s 7 3)) 90 4 (s 7 4)) 90 5 (s 7 5)) 90 6 (s 7 6)) 90 7 (s 7 7)) 8 91 0 0 8) 9 92 0 0 8) 10 93 0 0 8) 11 94 0 0 8), by rw [e, if_pos h], fun c i hc => ?_, fun i hi => ?_, fun i hi => ?_, fun i hi => ?_, fun i hi => ?_, fun i hi => ?_⟩
  · simp only [List.mem_cons, List.not_mem_nil, or_false, not_or] at hc
    obtain ⟨h0, h1, h2, h3, h4⟩ := hc
    simp only [pz_cp_get, h1, h2, h3, h4, false_and, if_false, pz_up_c h0]
  · rcases (show i = 0 ∨ i = 1 ∨ i = 2 ∨ i = 3 ∨ i = 4 ∨ i = 5 ∨ i = 6 ∨ i = 7 by omega) with rfl | rfl | rfl | rfl | rfl | rfl | rfl | rfl <;> rfl
  · exact (if_neg (fun q => absurd q.1 (by decide))).trans ((if_neg (fun q => absurd q.1 (by decide))).trans ((if_neg (fun q => absurd q.1 (by decide))).trans ((if_pos ⟨rfl, Nat.zero_le _, by omega⟩).trans (by rw [Nat.zero_add, Nat.sub_zero]; rfl))))
  · exact (if_neg (fun q => absurd q.1 (by decide))).trans ((if_neg (fun q => absurd q.1 (by decide))).trans ((if_pos ⟨rfl, Nat.zero_le _, by omega⟩).trans (by rw [Nat.zero_add, Nat.sub_zero]; rfl)))
  · exact (if_neg (fun q => absurd q.1 (by decide))).trans ((if_pos ⟨rfl, Nat.zero_le _, by omega⟩).trans (by rw [Nat.zero_add, Nat.sub_zero]; rfl))
  · exact (if_pos ⟨rfl, Nat.zero_le _, by omega⟩).trans (by rw [Nat.zero_add, Nat.sub_zero]; rfl)
theorem pz_be_6 {s : px_Z} (h : s 7 6 = 0 ∨ s 7 6 = 1) : ∃ u, f_Fate_become_6 s = some u ∧ pz_ag [95, 96, 97, 98, 99] s u ∧ (∀ i, i < 8 → u 95 i = s 7 i) ∧ (∀ i, i < 8 → u 96 i = s 8 i) ∧ (∀ i, i < 8 → u 97 i = s 9 i) ∧ (∀ i, i < 8 → u 98 i = s 10 i) ∧ (∀ i, i < 8 → u 99 i = s 11 i) := by
  have e : f_Fate_become_6 s = if s 7 6 = 0 ∨ s 7 6 = 1 then some (px_cp (px_cp (px_cp (px_cp (px_up (px_up (px_up (px_up (px_up (px_up (px_up (px_up s 95 0 (s 7 0)) 95 1 (s 7 1)) 95 2 (s 7 2)) 95 3 (s 7 3)) 95 4 (s 7 4)) 95 5 (s 7 5)) 95 6 (s 7 6)) 95 7 (s 7 7)) 8 96 0 0 8) 9 97 0 0 8) 10 98 0 0 8) 11 99 0 0 8) else none := rfl
  refine ⟨(px_cp (px_cp (px_cp (px_cp (px_up (px_up (px_up (px_up (px_up (px_up (px_up (px_up s 95 0 (s 7 0)) 95 1 (s 7 1)) 95 2 (s 7 2)) 95 3 (s 7 3)) 95 4 (s 7 4)) 95 5 (s 7 5)) 95 6 (s 7 6)) 95 7 (s 7 7)) 8 96 0 0 8) 9 97 0 0 8) 10 98 0 0 8) 11 99 0 0 8), by rw [e, if_pos h], fun c i hc => ?_, fun i hi => ?_, fun i hi => ?_, fun i hi => ?_, fun i hi => ?_, fun i hi => ?_⟩
  · simp only [List.mem_cons, List.not_mem_nil, or_false, not_or] at hc
    obtain ⟨h0, h1, h2, h3, h4⟩ := hc
    simp only [pz_cp_get, h1, h2, h3, h4, false_and, if_false, pz_up_c h0]
  · rcases (show i = 0 ∨ i = 1 ∨ i = 2 ∨ i = 3 ∨ i = 4 ∨ i = 5 ∨ i = 6 ∨ i = 7 by omega) with rfl | rfl | rfl | rfl | rfl | rfl | rfl | rfl <;> rfl
  · exact (if_neg (fun q => absurd q.1 (by decide))).trans ((if_neg (fun q => absurd q.1 (by decide))).trans ((if_neg (fun q => absurd q.1 (by decide))).trans ((if_pos ⟨rfl, Nat.zero_le _, by omega⟩).trans (by rw [Nat.zero_add, Nat.sub_zero]; rfl))))
  · exact (if_neg (fun q => absurd q.1 (by decide))).trans ((if_neg (fun q => absurd q.1 (by decide))).trans ((if_pos ⟨rfl, Nat.zero_le _, by omega⟩).trans (by rw [Nat.zero_add, Nat.sub_zero]; rfl)))
  · exact (if_neg (fun q => absurd q.1 (by decide))).trans ((if_pos ⟨rfl, Nat.zero_le _, by omega⟩).trans (by rw [Nat.zero_add, Nat.sub_zero]; rfl))
  · exact (if_pos ⟨rfl, Nat.zero_le _, by omega⟩).trans (by rw [Nat.zero_add, Nat.sub_zero]; rfl)
theorem pz_be_5 {s : px_Z} (h : s 7 6 = 0 ∨ s 7 6 = 1) : ∃ u, f_Fate_become_5 s = some u ∧ pz_ag [100, 101, 102, 103, 104] s u ∧ (∀ i, i < 8 → u 100 i = s 7 i) ∧ (∀ i, i < 8 → u 101 i = s 8 i) ∧ (∀ i, i < 8 → u 102 i = s 9 i) ∧ (∀ i, i < 8 → u 103 i = s 10 i) ∧ (∀ i, i < 8 → u 104 i = s 11 i) := by
  have e : f_Fate_become_5 s = if s 7 6 = 0 ∨ s 7 6 = 1 then some (px_cp (px_cp (px_cp (px_cp (px_up (px_up (px_up (px_up (px_up (px_up (px_up (px_up s 100 0 (s 7 0)) 100 1 (s 7 1)) 100 2 (s 7 2)) 100 3 (s 7 3)) 100 4 (s 7 4)) 100 5 (s 7 5)) 100 6 (s 7 6)) 100 7 (s 7 7)) 8 101 0 0 8) 9 102 0 0 8) 10 103 0 0 8) 11 104 0 0 8) else none := rfl
  refine ⟨(px_cp (px_cp (px_cp (px_cp (px_up (px_up (px_up (px_up (px_up (px_up (px_up (px_up s 100 0 (s 7 0)) 100 1 (s 7 1)) 100 2 (s 7 2)) 100 3 (s 7 3)) 100 4 (s 7 4)) 100 5 (s 7 5)) 100 6 (s 7 6)) 100 7 (s 7 7)) 8 101 0 0 8) 9 102 0 0 8) 10 103 0 0 8) 11 104 0 0 8), by rw [e, if_pos h], fun c i hc => ?_, fun i hi => ?_, fun i hi => ?_, fun i hi => ?_, fun i hi => ?_, fun i hi => ?_⟩
  · simp only [List.mem_cons, List.not_mem_nil, or_false, not_or] at hc
    obtain ⟨h0, h1, h2, h3, h4⟩ := hc
    simp only [pz_cp_get, h1, h2, h3, h4, false_and, if_false, pz_up_c h0]
  · rcases (show i = 0 ∨ i = 1 ∨ i = 2 ∨ i = 3 ∨ i = 4 ∨ i = 5 ∨ i = 6 ∨ i = 7 by omega) with rfl | rfl | rfl | rfl | rfl | rfl | rfl | rfl <;> rfl
  · exact (if_neg (fun q => absurd q.1 (by decide))).trans ((if_neg (fun q => absurd q.1 (by decide))).trans ((if_neg (fun q => absurd q.1 (by decide))).trans ((if_pos ⟨rfl, Nat.zero_le _, by omega⟩).trans (by rw [Nat.zero_add, Nat.sub_zero]; rfl))))
  · exact (if_neg (fun q => absurd q.1 (by decide))).trans ((if_neg (fun q => absurd q.1 (by decide))).trans ((if_pos ⟨rfl, Nat.zero_le _, by omega⟩).trans (by rw [Nat.zero_add, Nat.sub_zero]; rfl)))
  · exact (if_neg (fun q => absurd q.1 (by decide))).trans ((if_pos ⟨rfl, Nat.zero_le _, by omega⟩).trans (by rw [Nat.zero_add, Nat.sub_zero]; rfl))
  · exact (if_pos ⟨rfl, Nat.zero_le _, by omega⟩).trans (by rw [Nat.zero_add, Nat.sub_zero]; rfl)
theorem pz_be_2 {s : px_Z} (h : s 7 6 = 0 ∨ s 7 6 = 1) : ∃ u, f_Fate_become_3 s = some u ∧ pz_ag [105, 106, 107, 108, 109] s u ∧ (∀ i, i < 8 → u 105 i = s 7 i) ∧ (∀ i, i < 8 → u 106 i = s 8 i) ∧ (∀ i, i < 8 → u 107 i = s 9 i) ∧ (∀ i, i < 8 → u 108 i = s 10 i) ∧ (∀ i, i < 8 → u 109 i = s 11 i) := by
  have e : f_Fate_become_3 s = if s 7 6 = 0 ∨ s 7 6 = 1 then some (px_cp (px_cp (px_cp (px_cp (px_up (px_up (px_up (px_up (px_up (px_up (px_up (px_up s 105 0 (s 7 0)) 105 1 (s 7 1)) 105 2 (s 7 2)) 105 3 (s 7 3)) 105 4 (s 7 4)) 105 5 (s 7 5)) 105 6 (s 7 6)) 105 7 (s 7 7)) 8 106 0 0 8) 9 107 0 0 8) 10 108 0 0 8) 11 109 0 0 8) else none := rfl
  refine ⟨(px_cp (px_cp (px_cp (px_cp (px_up (px_up (px_up (px_up (px_up (px_up (px_up (px_up s 105 0 (s 7 0)) 105 1 (s 7 1)) 105 2 (s 7 2)) 105 3 (s 7 3)) 105 4 (s 7 4)) 105 5 (s 7 5)) 105 6 (s 7 6)) 105 7 (s 7 7)) 8 106 0 0 8) 9 107 0 0 8) 10 108 0 0 8) 11 109 0 0 8), by rw [e, if_pos h], fun c i hc => ?_, fun i hi => ?_, fun i hi => ?_, fun i hi => ?_, fun i hi => ?_, fun i hi => ?_⟩
  · simp only [List.mem_cons, List.not_mem_nil, or_false, not_or] at hc
    obtain ⟨h0, h1, h2, h3, h4⟩ := hc
    simp only [pz_cp_get, h1, h2, h3, h4, false_and, if_false, pz_up_c h0]
  · rcases (show i = 0 ∨ i = 1 ∨ i = 2 ∨ i = 3 ∨ i = 4 ∨ i = 5 ∨ i = 6 ∨ i = 7 by omega) with rfl | rfl | rfl | rfl | rfl | rfl | rfl | rfl <;> rfl
  · exact (if_neg (fun q => absurd q.1 (by decide))).trans ((if_neg (fun q => absurd q.1 (by decide))).trans ((if_neg (fun q => absurd q.1 (by decide))).trans ((if_pos ⟨rfl, Nat.zero_le _, by omega⟩).trans (by rw [Nat.zero_add, Nat.sub_zero]; rfl))))
  · exact (if_neg (fun q => absurd q.1 (by decide))).trans ((if_neg (fun q => absurd q.1 (by decide))).trans ((if_pos ⟨rfl, Nat.zero_le _, by omega⟩).trans (by rw [Nat.zero_add, Nat.sub_zero]; rfl)))
  · exact (if_neg (fun q => absurd q.1 (by decide))).trans ((if_pos ⟨rfl, Nat.zero_le _, by omega⟩).trans (by rw [Nat.zero_add, Nat.sub_zero]; rfl))
  · exact (if_pos ⟨rfl, Nat.zero_le _, by omega⟩).trans (by rw [Nat.zero_add, Nat.sub_zero]; rfl)
theorem pz_be_3 {s : px_Z} (h : s 7 6 = 0 ∨ s 7 6 = 1) : ∃ u, f_Fate_become_2 s = some u ∧ pz_ag [110, 111, 112, 113, 114] s u ∧ (∀ i, i < 8 → u 110 i = s 7 i) ∧ (∀ i, i < 8 → u 111 i = s 8 i) ∧ (∀ i, i < 8 → u 112 i = s 9 i) ∧ (∀ i, i < 8 → u 113 i = s 10 i) ∧ (∀ i, i < 8 → u 114 i = s 11 i) := by
  have e : f_Fate_become_2 s = if s 7 6 = 0 ∨ s 7 6 = 1 then some (px_cp (px_cp (px_cp (px_cp (px_up (px_up (px_up (px_up (px_up (px_up (px_up (px_up s 110 0 (s 7 0)) 110 1 (s 7 1)) 110 2 (s 7 2)) 110 3 (s 7 3)) 110 4 (s 7 4)) 110 5 (s 7 5)) 110 6 (s 7 6)) 110 7 (s 7 7)) 8 111 0 0 8) 9 112 0 0 8) 10 113 0 0 8) 11 114 0 0 8) else none := rfl
  refine ⟨(px_cp (px_cp (px_cp (px_cp (px_up (px_up (px_up (px_up (px_up (px_up (px_up (px_up s 110 0 (s 7 0)) 110 1 (s 7 1)) 110 2 (s 7 2)) 110 3 (s 7 3)) 110 4 (s 7 4)) 110 5 (s 7 5)) 110 6 (s 7 6)) 110 7 (s 7 7)) 8 111 0 0 8) 9 112 0 0 8) 10 113 0 0 8) 11 114 0 0 8), by rw [e, if_pos h], fun c i hc => ?_, fun i hi => ?_, fun i hi => ?_, fun i hi => ?_, fun i hi => ?_, fun i hi => ?_⟩
  · simp only [List.mem_cons, List.not_mem_nil, or_false, not_or] at hc
    obtain ⟨h0, h1, h2, h3, h4⟩ := hc
    simp only [pz_cp_get, h1, h2, h3, h4, false_and, if_false, pz_up_c h0]
  · rcases (show i = 0 ∨ i = 1 ∨ i = 2 ∨ i = 3 ∨ i = 4 ∨ i = 5 ∨ i = 6 ∨ i = 7 by omega) with rfl | rfl | rfl | rfl | rfl | rfl | rfl | rfl <;> rfl
  · exact (if_neg (fun q => absurd q.1 (by decide))).trans ((if_neg (fun q => absurd q.1 (by decide))).trans ((if_neg (fun q => absurd q.1 (by decide))).trans ((if_pos ⟨rfl, Nat.zero_le _, by omega⟩).trans (by rw [Nat.zero_add, Nat.sub_zero]; rfl))))
  · exact (if_neg (fun q => absurd q.1 (by decide))).trans ((if_neg (fun q => absurd q.1 (by decide))).trans ((if_pos ⟨rfl, Nat.zero_le _, by omega⟩).trans (by rw [Nat.zero_add, Nat.sub_zero]; rfl)))
  · exact (if_neg (fun q => absurd q.1 (by decide))).trans ((if_pos ⟨rfl, Nat.zero_le _, by omega⟩).trans (by rw [Nat.zero_add, Nat.sub_zero]; rfl))
  · exact (if_pos ⟨rfl, Nat.zero_le _, by omega⟩).trans (by rw [Nat.zero_add, Nat.sub_zero]; rfl)
theorem pz_be_4 {s : px_Z} (h : s 7 6 = 0 ∨ s 7 6 = 1) : ∃ u, f_Fate_become_4 s = some u ∧ pz_ag [115, 116, 117, 118, 119] s u ∧ (∀ i, i < 8 → u 115 i = s 7 i) ∧ (∀ i, i < 8 → u 116 i = s 8 i) ∧ (∀ i, i < 8 → u 117 i = s 9 i) ∧ (∀ i, i < 8 → u 118 i = s 10 i) ∧ (∀ i, i < 8 → u 119 i = s 11 i) := by
  have e : f_Fate_become_4 s = if s 7 6 = 0 ∨ s 7 6 = 1 then some (px_cp (px_cp (px_cp (px_cp (px_up (px_up (px_up (px_up (px_up (px_up (px_up (px_up s 115 0 (s 7 0)) 115 1 (s 7 1)) 115 2 (s 7 2)) 115 3 (s 7 3)) 115 4 (s 7 4)) 115 5 (s 7 5)) 115 6 (s 7 6)) 115 7 (s 7 7)) 8 116 0 0 8) 9 117 0 0 8) 10 118 0 0 8) 11 119 0 0 8) else none := rfl
  refine ⟨(px_cp (px_cp (px_cp (px_cp (px_up (px_up (px_up (px_up (px_up (px_up (px_up (px_up s 115 0 (s 7 0)) 115 1 (s 7 1)) 115 2 (s 7 2)) 115 3 (s 7 3)) 115 4 (s 7 4)) 115 5 (s 7 5)) 115 6 (s 7 6)) 115 7 (s 7 7)) 8 116 0 0 8) 9 117 0 0 8) 10 118 0 0 8) 11 119 0 0 8), by rw [e, if_pos h], fun c i hc => ?_, fun i hi => ?_, fun i hi => ?_, fun i hi => ?_, fun i hi => ?_, fun i hi => ?_⟩
  · simp only [List.mem_cons, List.not_mem_nil, or_false, not_or] at hc
    obtain ⟨h0, h1, h2, h3, h4⟩ := hc
    simp only [pz_cp_get, h1, h2, h3, h4, false_and, if_false, pz_up_c h0]
  · rcases (show i = 0 ∨ i = 1 ∨ i = 2 ∨ i = 3 ∨ i = 4 ∨ i = 5 ∨ i = 6 ∨ i = 7 by omega) with rfl | rfl | rfl | rfl | rfl | rfl | rfl | rfl <;> rfl
  · exact (if_neg (fun q => absurd q.1 (by decide))).trans ((if_neg (fun q => absurd q.1 (by decide))).trans ((if_neg (fun q => absurd q.1 (by decide))).trans ((if_pos ⟨rfl, Nat.zero_le _, by omega⟩).trans (by rw [Nat.zero_add, Nat.sub_zero]; rfl))))
  · exact (if_neg (fun q => absurd q.1 (by decide))).trans ((if_neg (fun q => absurd q.1 (by decide))).trans ((if_pos ⟨rfl, Nat.zero_le _, by omega⟩).trans (by rw [Nat.zero_add, Nat.sub_zero]; rfl)))
  · exact (if_neg (fun q => absurd q.1 (by decide))).trans ((if_pos ⟨rfl, Nat.zero_le _, by omega⟩).trans (by rw [Nat.zero_add, Nat.sub_zero]; rfl))
  · exact (if_pos ⟨rfl, Nat.zero_le _, by omega⟩).trans (by rw [Nat.zero_add, Nat.sub_zero]; rfl)
theorem pz_be_9 {s : px_Z} (h : s 90 6 = 0 ∨ s 90 6 = 1) : ∃ u, f_Fate_become_9 s = some u ∧ pz_ag [7, 8, 9, 10, 11] s u ∧ (∀ i, i < 8 → u 7 i = s 90 i) ∧ (∀ i, i < 8 → u 8 i = s 91 i) ∧ (∀ i, i < 8 → u 9 i = s 92 i) ∧ (∀ i, i < 8 → u 10 i = s 93 i) ∧ (∀ i, i < 8 → u 11 i = s 94 i) := by
  have e : f_Fate_become_9 s = if s 90 6 = 0 ∨ s 90 6 = 1 then some (px_cp (px_cp (px_cp (px_cp (px_up (px_up (px_up (px_up (px_up (px_up (px_up (px_up s 7 0 (s 90 0)) 7 1 (s 90 1)) 7 2 (s 90 2)) 7 3 (s 90 3)) 7 4 (s 90 4)) 7 5 (s 90 5)) 7 6 (s 90 6)) 7 7 (s 90 7)) 91 8 0 0 8) 92 9 0 0 8) 93 10 0 0 8) 94 11 0 0 8) else none := rfl
  refine ⟨(px_cp (px_cp (px_cp (px_cp (px_up (px_up (px_up (px_up (px_up (px_up (px_up (px_up s 7 0 (s 90 0)) 7 1 (s 90 1)) 7 2 (s 90 2)) 7 3 (s 90 3)) 7 4 (s 90 4)) 7 5 (s 90 5)) 7 6 (s 90 6)) 7 7 (s 90 7)) 91 8 0 0 8) 92 9 0 0 8) 93 10 0 0 8) 94 11 0 0 8), by rw [e, if_pos h], fun c i hc => ?_, fun i hi => ?_, fun i hi => ?_, fun i hi => ?_, fun i hi => ?_, fun i hi => ?_⟩
  · simp only [List.mem_cons, List.not_mem_nil, or_false, not_or] at hc
    obtain ⟨h0, h1, h2, h3, h4⟩ := hc
    simp only [pz_cp_get, h1, h2, h3, h4, false_and, if_false, pz_up_c h0]
  · rcases (show i = 0 ∨ i = 1 ∨ i = 2 ∨ i = 3 ∨ i = 4 ∨ i = 5 ∨ i = 6 ∨ i = 7 by omega) with rfl | rfl | rfl | rfl | rfl | rfl | rfl | rfl <;> rfl
  · exact (if_neg (fun q => absurd q.1 (by decide))).trans ((if_neg (fun q => absurd q.1 (by decide))).trans ((if_neg (fun q => absurd q.1 (by decide))).trans ((if_pos ⟨rfl, Nat.zero_le _, by omega⟩).trans (by rw [Nat.zero_add, Nat.sub_zero]; rfl))))
  · exact (if_neg (fun q => absurd q.1 (by decide))).trans ((if_neg (fun q => absurd q.1 (by decide))).trans ((if_pos ⟨rfl, Nat.zero_le _, by omega⟩).trans (by rw [Nat.zero_add, Nat.sub_zero]; rfl)))
  · exact (if_neg (fun q => absurd q.1 (by decide))).trans ((if_pos ⟨rfl, Nat.zero_le _, by omega⟩).trans (by rw [Nat.zero_add, Nat.sub_zero]; rfl))
  · exact (if_pos ⟨rfl, Nat.zero_le _, by omega⟩).trans (by rw [Nat.zero_add, Nat.sub_zero]; rfl)
theorem pz_be_8 {s : px_Z} (h : s 95 6 = 0 ∨ s 95 6 = 1) : ∃ u, f_Fate_become_8 s = some u ∧ pz_ag [7, 8, 9, 10, 11] s u ∧ (∀ i, i < 8 → u 7 i = s 95 i) ∧ (∀ i, i < 8 → u 8 i = s 96 i) ∧ (∀ i, i < 8 → u 9 i = s 97 i) ∧ (∀ i, i < 8 → u 10 i = s 98 i) ∧ (∀ i, i < 8 → u 11 i = s 99 i) := by
  have e : f_Fate_become_8 s = if s 95 6 = 0 ∨ s 95 6 = 1 then some (px_cp (px_cp (px_cp (px_cp (px_up (px_up (px_up (px_up (px_up (px_up (px_up (px_up s 7 0 (s 95 0)) 7 1 (s 95 1)) 7 2 (s 95 2)) 7 3 (s 95 3)) 7 4 (s 95 4)) 7 5 (s 95 5)) 7 6 (s 95 6)) 7 7 (s 95 7)) 96 8 0 0 8) 97 9 0 0 8) 98 10 0 0 8) 99 11 0 0 8) else none := rfl
  refine ⟨(px_cp (px_cp (px_cp (px_cp (px_up (px_up (px_up (px_up (px_up (px_up (px_up (px_up s 7 0 (s 95 0)) 7 1 (s 95 1)) 7 2 (s 95 2)) 7 3 (s 95 3)) 7 4 (s 95 4)) 7 5 (s 95 5)) 7 6 (s 95 6)) 7 7 (s 95 7)) 96 8 0 0 8) 97 9 0 0 8) 98 10 0 0 8) 99 11 0 0 8), by rw [e, if_pos h], fun c i hc => ?_, fun i hi => ?_, fun i hi => ?_, fun i hi => ?_, fun i hi => ?_, fun i hi => ?_⟩
  · simp only [List.mem_cons, List.not_mem_nil, or_false, not_or] at hc
    obtain ⟨h0, h1, h2, h3, h4⟩ := hc
    simp only [pz_cp_get, h1, h2, h3, h4, false_and, if_false, pz_up_c h0]
  · rcases (show i = 0 ∨ i = 1 ∨ i = 2 ∨ i = 3 ∨ i = 4 ∨ i = 5 ∨ i = 6 ∨ i = 7 by omega) with rfl | rfl | rfl | rfl | rfl | rfl | rfl | rfl <;> rfl
  · exact (if_neg (fun q => absurd q.1 (by decide))).trans ((if_neg (fun q => absurd q.1 (by decide))).trans ((if_neg (fun q => absurd q.1 (by decide))).trans ((if_pos ⟨rfl, Nat.zero_le _, by omega⟩).trans (by rw [Nat.zero_add, Nat.sub_zero]; rfl))))
  · exact (if_neg (fun q => absurd q.1 (by decide))).trans ((if_neg (fun q => absurd q.1 (by decide))).trans ((if_pos ⟨rfl, Nat.zero_le _, by omega⟩).trans (by rw [Nat.zero_add, Nat.sub_zero]; rfl)))
  · exact (if_neg (fun q => absurd q.1 (by decide))).trans ((if_pos ⟨rfl, Nat.zero_le _, by omega⟩).trans (by rw [Nat.zero_add, Nat.sub_zero]; rfl))
  · exact (if_pos ⟨rfl, Nat.zero_le _, by omega⟩).trans (by rw [Nat.zero_add, Nat.sub_zero]; rfl)
theorem pz_be_7 {s : px_Z} (h : s 100 6 = 0 ∨ s 100 6 = 1) : ∃ u, f_Fate_become_7 s = some u ∧ pz_ag [7, 8, 9, 10, 11] s u ∧ (∀ i, i < 8 → u 7 i = s 100 i) ∧ (∀ i, i < 8 → u 8 i = s 101 i) ∧ (∀ i, i < 8 → u 9 i = s 102 i) ∧ (∀ i, i < 8 → u 10 i = s 103 i) ∧ (∀ i, i < 8 → u 11 i = s 104 i) := by
  have e : f_Fate_become_7 s = if s 100 6 = 0 ∨ s 100 6 = 1 then some (px_cp (px_cp (px_cp (px_cp (px_up (px_up (px_up (px_up (px_up (px_up (px_up (px_up s 7 0 (s 100 0)) 7 1 (s 100 1)) 7 2 (s 100 2)) 7 3 (s 100 3)) 7 4 (s 100 4)) 7 5 (s 100 5)) 7 6 (s 100 6)) 7 7 (s 100 7)) 101 8 0 0 8) 102 9 0 0 8) 103 10 0 0 8) 104 11 0 0 8) else none := rfl
  refine ⟨(px_cp (px_cp (px_cp (px_cp (px_up (px_up (px_up (px_up (px_up (px_up (px_up (px_up s 7 0 (s 100 0)) 7 1 (s 100 1)) 7 2 (s 100 2)) 7 3 (s 100 3)) 7 4 (s 100 4)) 7 5 (s 100 5)) 7 6 (s 100 6)) 7 7 (s 100 7)) 101 8 0 0 8) 102 9 0 0 8) 103 10 0 0 8) 104 11 0 0 8), by rw [e, if_pos h], fun c i hc => ?_, fun i hi => ?_, fun i hi => ?_, fun i hi => ?_, fun i hi => ?_, fun i hi => ?_⟩
  · simp only [List.mem_cons, List.not_mem_nil, or_false, not_or] at hc
    obtain ⟨h0, h1, h2, h3, h4⟩ := hc
    simp only [pz_cp_get, h1, h2, h3, h4, false_and, if_false, pz_up_c h0]
  · rcases (show i = 0 ∨ i = 1 ∨ i = 2 ∨ i = 3 ∨ i = 4 ∨ i = 5 ∨ i = 6 ∨ i = 7 by omega) with rfl | rfl | rfl | rfl | rfl | rfl | rfl | rfl <;> rfl
  · exact (if_neg (fun q => absurd q.1 (by decide))).trans ((if_neg (fun q => absurd q.1 (by decide))).trans ((if_neg (fun q => absurd q.1 (by decide))).trans ((if_pos ⟨rfl, Nat.zero_le _, by omega⟩).trans (by rw [Nat.zero_add, Nat.sub_zero]; rfl))))
  · exact (if_neg (fun q => absurd q.1 (by decide))).trans ((if_neg (fun q => absurd q.1 (by decide))).trans ((if_pos ⟨rfl, Nat.zero_le _, by omega⟩).trans (by rw [Nat.zero_add, Nat.sub_zero]; rfl)))
  · exact (if_neg (fun q => absurd q.1 (by decide))).trans ((if_pos ⟨rfl, Nat.zero_le _, by omega⟩).trans (by rw [Nat.zero_add, Nat.sub_zero]; rfl))
  · exact (if_pos ⟨rfl, Nat.zero_le _, by omega⟩).trans (by rw [Nat.zero_add, Nat.sub_zero]; rfl)
theorem pz_be_12 {s : px_Z} (h : s 105 6 = 0 ∨ s 105 6 = 1) : ∃ u, f_Fate_become_12 s = some u ∧ pz_ag [7, 8, 9, 10, 11] s u ∧ (∀ i, i < 8 → u 7 i = s 105 i) ∧ (∀ i, i < 8 → u 8 i = s 106 i) ∧ (∀ i, i < 8 → u 9 i = s 107 i) ∧ (∀ i, i < 8 → u 10 i = s 108 i) ∧ (∀ i, i < 8 → u 11 i = s 109 i) := by
  have e : f_Fate_become_12 s = if s 105 6 = 0 ∨ s 105 6 = 1 then some (px_cp (px_cp (px_cp (px_cp (px_up (px_up (px_up (px_up (px_up (px_up (px_up (px_up s 7 0 (s 105 0)) 7 1 (s 105 1)) 7 2 (s 105 2)) 7 3 (s 105 3)) 7 4 (s 105 4)) 7 5 (s 105 5)) 7 6 (s 105 6)) 7 7 (s 105 7)) 106 8 0 0 8) 107 9 0 0 8) 108 10 0 0 8) 109 11 0 0 8) else none := rfl
  refine ⟨(px_cp (px_cp (px_cp (px_cp (px_up (px_up (px_up (px_up (px_up (px_up (px_up (px_up s 7 0 (s 105 0)) 7 1 (s 105 1)) 7 2 (s 105 2)) 7 3 (s 105 3)) 7 4 (s 105 4)) 7 5 (s 105 5)) 7 6 (s 105 6)) 7 7 (s 105 7)) 106 8 0 0 8) 107 9 0 0 8) 108 10 0 0 8) 109 11 0 0 8), by rw [e, if_pos h], fun c i hc => ?_, fun i hi => ?_, fun i hi => ?_, fun i hi => ?_, fun i hi => ?_, fun i hi => ?_⟩
  · simp only [List.mem_cons, List.not_mem_nil, or_false, not_or] at hc
    obtain ⟨h0, h1, h2, h3, h4⟩ := hc
    simp only [pz_cp_get, h1, h2, h3, h4, false_and, if_false, pz_up_c h0]
  · rcases (show i = 0 ∨ i = 1 ∨ i = 2 ∨ i = 3 ∨ i = 4 ∨ i = 5 ∨ i = 6 ∨ i = 7 by omega) with rfl | rfl | rfl | rfl | rfl | rfl | rfl | rfl <;> rfl
  · exact (if_neg (fun q => absurd q.1 (by decide))).trans ((if_neg (fun q => absurd q.1 (by decide))).trans ((if_neg (fun q => absurd q.1 (by decide))).trans ((if_pos ⟨rfl, Nat.zero_le _, by omega⟩).trans (by rw [Nat.zero_add, Nat.sub_zero]; rfl))))
  · exact (if_neg (fun q => absurd q.1 (by decide))).trans ((if_neg (fun q => absurd q.1 (by decide))).trans ((if_pos ⟨rfl, Nat.zero_le _, by omega⟩).trans (by rw [Nat.zero_add, Nat.sub_zero]; rfl)))
  · exact (if_neg (fun q => absurd q.1 (by decide))).trans ((if_pos ⟨rfl, Nat.zero_le _, by omega⟩).trans (by rw [Nat.zero_add, Nat.sub_zero]; rfl))
  · exact (if_pos ⟨rfl, Nat.zero_le _, by omega⟩).trans (by rw [Nat.zero_add, Nat.sub_zero]; rfl)
theorem pz_be_10 {s : px_Z} (h : s 110 6 = 0 ∨ s 110 6 = 1) : ∃ u, f_Fate_become_10 s = some u ∧ pz_ag [7, 8, 9, 10, 11] s u ∧ (∀ i, i < 8 → u 7 i = s 110 i) ∧ (∀ i, i < 8 → u 8 i = s 111 i) ∧ (∀ i, i < 8 → u 9 i = s 112 i) ∧ (∀ i, i < 8 → u 10 i = s 113 i) ∧ (∀ i, i < 8 → u 11 i = s 114 i) := by
  have e : f_Fate_become_10 s = if s 110 6 = 0 ∨ s 110 6 = 1 then some (px_cp (px_cp (px_cp (px_cp (px_up (px_up (px_up (px_up (px_up (px_up (px_up (px_up s 7 0 (s 110 0)) 7 1 (s 110 1)) 7 2 (s 110 2)) 7 3 (s 110 3)) 7 4 (s 110 4)) 7 5 (s 110 5)) 7 6 (s 110 6)) 7 7 (s 110 7)) 111 8 0 0 8) 112 9 0 0 8) 113 10 0 0 8) 114 11 0 0 8) else none := rfl
  refine ⟨(px_cp (px_cp (px_cp (px_cp (px_up (px_up (px_up (px_up (px_up (px_up (px_up (px_up s 7 0 (s 110 0)) 7 1 (s 110 1)) 7 2 (s 110 2)) 7 3 (s 110 3)) 7 4 (s 110 4)) 7 5 (s 110 5)) 7 6 (s 110 6)) 7 7 (s 110 7)) 111 8 0 0 8) 112 9 0 0 8) 113 10 0 0 8) 114 11 0 0 8), by rw [e, if_pos h], fun c i hc => ?_, fun i hi => ?_, fun i hi => ?_, fun i hi => ?_, fun i hi => ?_, fun i hi => ?_⟩
  · simp only [List.mem_cons, List.not_mem_nil, or_false, not_or] at hc
    obtain ⟨h0, h1, h2, h3, h4⟩ := hc
    simp only [pz_cp_get, h1, h2, h3, h4, false_and, if_false, pz_up_c h0]
  · rcases (show i = 0 ∨ i = 1 ∨ i = 2 ∨ i = 3 ∨ i = 4 ∨ i = 5 ∨ i = 6 ∨ i = 7 by omega) with rfl | rfl | rfl | rfl | rfl | rfl | rfl | rfl <;> rfl
  · exact (if_neg (fun q => absurd q.1 (by decide))).trans ((if_neg (fun q => absurd q.1 (by decide))).trans ((if_neg (fun q => absurd q.1 (by decide))).trans ((if_pos ⟨rfl, Nat.zero_le _, by omega⟩).trans (by rw [Nat.zero_add, Nat.sub_zero]; rfl))))
  · exact (if_neg (fun q => absurd q.1 (by decide))).trans ((if_neg (fun q => absurd q.1 (by decide))).trans ((if_pos ⟨rfl, Nat.zero_le _, by omega⟩).trans (by rw [Nat.zero_add, Nat.sub_zero]; rfl)))
  · exact (if_neg (fun q => absurd q.1 (by decide))).trans ((if_pos ⟨rfl, Nat.zero_le _, by omega⟩).trans (by rw [Nat.zero_add, Nat.sub_zero]; rfl))
  · exact (if_pos ⟨rfl, Nat.zero_le _, by omega⟩).trans (by rw [Nat.zero_add, Nat.sub_zero]; rfl)
theorem pz_be_11 {s : px_Z} (h : s 115 6 = 0 ∨ s 115 6 = 1) : ∃ u, f_Fate_become_11 s = some u ∧ pz_ag [7, 8, 9, 10, 11] s u ∧ (∀ i, i < 8 → u 7 i = s 115 i) ∧ (∀ i, i < 8 → u 8 i = s 116 i) ∧ (∀ i, i < 8 → u 9 i = s 117 i) ∧ (∀ i, i < 8 → u 10 i = s 118 i) ∧ (∀ i, i < 8 → u 11 i = s 119 i) := by
  have e : f_Fate_become_11 s = if s 115 6 = 0 ∨ s 115 6 = 1 then some (px_cp (px_cp (px_cp (px_cp (px_up (px_up (px_up (px_up (px_up (px_up (px_up (px_up s 7 0 (s 115 0)) 7 1 (s 115 1)) 7 2 (s 115 2)) 7 3 (s 115 3)) 7 4 (s 115 4)) 7 5 (s 115 5)) 7 6 (s 115 6)) 7 7 (s 115 7)) 116 8 0 0 8) 117 9 0 0 8) 118 10 0 0 8) 119 11 0 0 8) else none := rfl
  refine ⟨(px_cp (px_cp (px_cp (px_cp (px_up (px_up (px_up (px_up (px_up (px_up (px_up (px_up s 7 0 (s 115 0)) 7 1 (s 115 1)) 7 2 (s 115 2)) 7 3 (s 115 3)) 7 4 (s 115 4)) 7 5 (s 115 5)) 7 6 (s 115 6)) 7 7 (s 115 7)) 116 8 0 0 8) 117 9 0 0 8) 118 10 0 0 8) 119 11 0 0 8), by rw [e, if_pos h], fun c i hc => ?_, fun i hi => ?_, fun i hi => ?_, fun i hi => ?_, fun i hi => ?_, fun i hi => ?_⟩
  · simp only [List.mem_cons, List.not_mem_nil, or_false, not_or] at hc
    obtain ⟨h0, h1, h2, h3, h4⟩ := hc
    simp only [pz_cp_get, h1, h2, h3, h4, false_and, if_false, pz_up_c h0]
  · rcases (show i = 0 ∨ i = 1 ∨ i = 2 ∨ i = 3 ∨ i = 4 ∨ i = 5 ∨ i = 6 ∨ i = 7 by omega) with rfl | rfl | rfl | rfl | rfl | rfl | rfl | rfl <;> rfl
  · exact (if_neg (fun q => absurd q.1 (by decide))).trans ((if_neg (fun q => absurd q.1 (by decide))).trans ((if_neg (fun q => absurd q.1 (by decide))).trans ((if_pos ⟨rfl, Nat.zero_le _, by omega⟩).trans (by rw [Nat.zero_add, Nat.sub_zero]; rfl))))
  · exact (if_neg (fun q => absurd q.1 (by decide))).trans ((if_neg (fun q => absurd q.1 (by decide))).trans ((if_pos ⟨rfl, Nat.zero_le _, by omega⟩).trans (by rw [Nat.zero_add, Nat.sub_zero]; rfl)))
  · exact (if_neg (fun q => absurd q.1 (by decide))).trans ((if_pos ⟨rfl, Nat.zero_le _, by omega⟩).trans (by rw [Nat.zero_add, Nat.sub_zero]; rfl))
  · exact (if_pos ⟨rfl, Nat.zero_le _, by omega⟩).trans (by rw [Nat.zero_add, Nat.sub_zero]; rfl)
theorem pz_be_13 {s : px_Z} (h : s 7 6 = 0 ∨ s 7 6 = 1) : ∃ u, f_Fate_become_13 s = some u ∧ pz_ag [48, 49, 50, 51, 52] s u ∧ (∀ i, i < 8 → u 48 i = s 7 i) ∧ (∀ i, i < 8 → u 49 i = s 8 i) ∧ (∀ i, i < 8 → u 50 i = s 9 i) ∧ (∀ i, i < 8 → u 51 i = s 10 i) ∧ (∀ i, i < 8 → u 52 i = s 11 i) := by
  have e : f_Fate_become_13 s = if s 7 6 = 0 ∨ s 7 6 = 1 then some (px_cp (px_cp (px_cp (px_cp (px_up (px_up (px_up (px_up (px_up (px_up (px_up (px_up s 48 0 (s 7 0)) 48 1 (s 7 1)) 48 2 (s 7 2)) 48 3 (s 7 3)) 48 4 (s 7 4)) 48 5 (s 7 5)) 48 6 (s 7 6)) 48 7 (s 7 7)) 8 49 0 0 8) 9 50 0 0 8) 10 51 0 0 8) 11 52 0 0 8) else none := rfl
  refine ⟨(px_cp (px_cp (px_cp (px_cp (px_up (px_up (px_up (px_up (px_up (px_up (px_up (px_up s 48 0 (s 7 0)) 48 1 (s 7 1)) 48 2 (s 7 2)) 48 3 (s 7 3)) 48 4 (s 7 4)) 48 5 (s 7 5)) 48 6 (s 7 6)) 48 7 (s 7 7)) 8 49 0 0 8) 9 50 0 0 8) 10 51 0 0 8) 11 52 0 0 8), by rw [e, if_pos h], fun c i hc => ?_, fun i hi => ?_, fun i hi => ?_, fun i hi => ?_, fun i hi => ?_, fun i hi => ?_⟩
  · simp only [List.mem_cons, List.not_mem_nil, or_false, not_or] at hc
    obtain ⟨h0, h1, h2, h3, h4⟩ := hc
    simp only [pz_cp_get, h1, h2, h3, h4, false_and, if_false, pz_up_c h0]
  · rcases (show i = 0 ∨ i = 1 ∨ i = 2 ∨ i = 3 ∨ i = 4 ∨ i = 5 ∨ i = 6 ∨ i = 7 by omega) with rfl | rfl | rfl | rfl | rfl | rfl | rfl | rfl <;> rfl
  · exact (if_neg (fun q => absurd q.1 (by decide))).trans ((if_neg (fun q => absurd q.1 (by decide))).trans ((if_neg (fun q => absurd q.1 (by decide))).trans ((if_pos ⟨rfl, Nat.zero_le _, by omega⟩).trans (by rw [Nat.zero_add, Nat.sub_zero]; rfl))))
  · exact (if_neg (fun q => absurd q.1 (by decide))).trans ((if_neg (fun q => absurd q.1 (by decide))).trans ((if_pos ⟨rfl, Nat.zero_le _, by omega⟩).trans (by rw [Nat.zero_add, Nat.sub_zero]; rfl)))
  · exact (if_neg (fun q => absurd q.1 (by decide))).trans ((if_pos ⟨rfl, Nat.zero_le _, by omega⟩).trans (by rw [Nat.zero_add, Nat.sub_zero]; rfl))
  · exact (if_pos ⟨rfl, Nat.zero_le _, by omega⟩).trans (by rw [Nat.zero_add, Nat.sub_zero]; rfl)
theorem pz_be_14 {s : px_Z} (h : s 48 6 = 0 ∨ s 48 6 = 1) : ∃ u, f_Fate_become_14 s = some u ∧ pz_ag [7, 8, 9, 10, 11] s u ∧ (∀ i, i < 8 → u 7 i = s 48 i) ∧ (∀ i, i < 8 → u 8 i = s 49 i) ∧ (∀ i, i < 8 → u 9 i = s 50 i) ∧ (∀ i, i < 8 → u 10 i = s 51 i) ∧ (∀ i, i < 8 → u 11 i = s 52 i) := by
  have e : f_Fate_become_14 s = if s 48 6 = 0 ∨ s 48 6 = 1 then some (px_cp (px_cp (px_cp (px_cp (px_up (px_up (px_up (px_up (px_up (px_up (px_up (px_up s 7 0 (s 48 0)) 7 1 (s 48 1)) 7 2 (s 48 2)) 7 3 (s 48 3)) 7 4 (s 48 4)) 7 5 (s 48 5)) 7 6 (s 48 6)) 7 7 (s 48 7)) 49 8 0 0 8) 50 9 0 0 8) 51 10 0 0 8) 52 11 0 0 8) else none := rfl
  refine ⟨(px_cp (px_cp (px_cp (px_cp (px_up (px_up (px_up (px_up (px_up (px_up (px_up (px_up s 7 0 (s 48 0)) 7 1 (s 48 1)) 7 2 (s 48 2)) 7 3 (s 48 3)) 7 4 (s 48 4)) 7 5 (s 48 5)) 7 6 (s 48 6)) 7 7 (s 48 7)) 49 8 0 0 8) 50 9 0 0 8) 51 10 0 0 8) 52 11 0 0 8), by rw [e, if_pos h], fun c i hc => ?_, fun i hi => ?_, fun i hi => ?_, fun i hi => ?_, fun i hi => ?_, fun i hi => ?_⟩
  · simp only [List.mem_cons, List.not_mem_nil, or_false, not_or] at hc
    obtain ⟨h0, h1, h2, h3, h4⟩ := hc
    simp only [pz_cp_get, h1, h2, h3, h4, false_and, if_false, pz_up_c h0]
  · rcases (show i = 0 ∨ i = 1 ∨ i = 2 ∨ i = 3 ∨ i = 4 ∨ i = 5 ∨ i = 6 ∨ i = 7 by omega) with rfl | rfl | rfl | rfl | rfl | rfl | rfl | rfl <;> rfl
  · exact (if_neg (fun q => absurd q.1 (by decide))).trans ((if_neg (fun q => absurd q.1 (by decide))).trans ((if_neg (fun q => absurd q.1 (by decide))).trans ((if_pos ⟨rfl, Nat.zero_le _, by omega⟩).trans (by rw [Nat.zero_add, Nat.sub_zero]; rfl))))
  · exact (if_neg (fun q => absurd q.1 (by decide))).trans ((if_neg (fun q => absurd q.1 (by decide))).trans ((if_pos ⟨rfl, Nat.zero_le _, by omega⟩).trans (by rw [Nat.zero_add, Nat.sub_zero]; rfl)))
  · exact (if_neg (fun q => absurd q.1 (by decide))).trans ((if_pos ⟨rfl, Nat.zero_le _, by omega⟩).trans (by rw [Nat.zero_add, Nat.sub_zero]; rfl))
  · exact (if_pos ⟨rfl, Nat.zero_le _, by omega⟩).trans (by rw [Nat.zero_add, Nat.sub_zero]; rfl)
