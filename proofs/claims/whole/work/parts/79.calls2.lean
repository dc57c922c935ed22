/-! calls that tell numbers -/
theorem pz_up_same (f : px_Z) (k i b : Nat) (v : Int) : px_up f k i v k b = if b = i then v else f k b := by
  rw [pz_up_get]
  by_cases h : b = i
  · rw [if_pos ⟨rfl, h⟩, if_pos h]
  · rw [if_neg (fun q => h q.2), if_neg h]
theorem pz_F_wear {n t : Nat} {v : Int} {f0 f1 f2 f3 f4 q g1 r : Nat → Int} (h : pz_F n f0 f1 f2 f3 f4 q) (hn : n ≤ 8) (ht : t < n) (hv : 0 ≤ v ∧ v ≤ 99) (e1 : ∀ i, g1 i = if i = t then v else f1 i) (eq : ∀ i, r i = if i = 8 + t then v else q i) : pz_F n f0 g1 f2 f3 f4 r := by
  have lo : ∀ i, i < 8 → r i = q i := fun i hi => by rw [eq, if_neg (by omega)]
  have hi : ∀ i, 16 ≤ i → r i = q i := fun i hi => by rw [eq, if_neg (by omega)]
  obtain ⟨a, b, c, d, e⟩ := h
  refine ⟨?_, ?_, fun i h8 => ?_, fun i h8 hni => ?_, fun k hk => ?_⟩
  · rw [lo 0 (by decide), lo 1 (by decide), lo 2 (by decide), lo 3 (by decide), lo 4 (by decide), lo 5 (by decide), lo 6 (by decide)]
    exact a
  · rw [lo 0 (by decide), lo 2 (by decide), lo 4 (by decide), lo 5 (by decide), lo 6 (by decide), lo 7 (by decide)]
    exact b
  · rw [hi (16 + i) (by omega), hi (24 + i) (by omega), hi (32 + i) (by omega), e1 i, eq (8 + i)]
    obtain ⟨c1, c2, c3, c4, c5, c6, c7⟩ := c i h8
    by_cases hit : i = t
    · rw [if_pos hit, if_pos (by omega)]
      exact ⟨rfl, c2, c3, c4, hv.1, hv.2, c7⟩
    · rw [if_neg hit, if_neg (by omega)]
      exact ⟨c1, c2, c3, c4, c5, c6, c7⟩
  · rw [hi (16 + i) (by omega), hi (24 + i) (by omega), hi (32 + i) (by omega), eq (8 + i), if_neg (by omega)]
    exact d i h8 hni
  · rw [hi (16 + k) (by omega)]
    intro h1 i h2
    rw [hi (16 + i) (by omega)]
    exact e k hk h1 i h2
theorem pz_j26_7 (z : px_Z) (b v : Int) : j_M_set_j26 z 7 b v = j_M_set_j77 z 7 b v := by
  unfold j_M_set_j26 j_M_set_j33 j_M_set_j41 j_M_set_j49 j_M_set_j55 j_M_set_j61 j_M_set_j69
  rw [if_neg (by decide), if_neg (by decide), if_neg (by decide), if_neg (by decide), if_neg (by decide), if_neg (by decide), if_neg (by decide)]
theorem po_set {s : px_Z} (h : pz_I s) (a b v : Int) : pz_op (f_R_set s a b v) (fun u => f_M_set u a b v) := by
  have h' := h
  obtain ⟨n, ⟨hn, w1, wF, w3, w4, w5, w6, w7, w8⟩, hU, hM, hT, hX, hC⟩ := h
  obtain ⟨b1, b2, b3, b4, b5, b6, b7, b8, b9⟩ := w1
  have wF' := wF
  obtain ⟨⟨a1, a2, a3, a4, a5, a6, a7⟩, ⟨r1, r2, r3, r4, r5, r6, r7, r8, r9, r10, r11, r12, r13⟩, c, d, e'⟩ := wF
  have b1' : s 6 1 = (n : Int) := b1
  have b2' : s 150 6 = (n : Int) := b2
  have hno : ∀ x : px_Z, f_M_set s a b v = some (0, px_up s 150 0 0) → pz_op (some (0, s)) (fun u => f_M_set u a b v) := fun _ e => ⟨0, s, px_up s 150 0 0, rfl, e, pz_I_told h'⟩
  have hM0 : ∀ u : px_Z, u 150 6 = (n : Int) → f_M_set u a b v = if 0 ≤ a ∧ a ≤ 7 then (if 0 ≤ v ∧ v ≤ f_M_mostOf u a then (if a ≤ 5 then j_M_set_j26 (px_up u 150 0 0) a b v else (if 0 ≤ b ∧ b ≤ (n : Int) - 1 then j_M_set_j26 (px_up u 150 0 0) a b v else some (0, px_up u 150 0 0))) else some (0, px_up u 150 0 0)) else some (0, px_up u 150 0 0) := by
    intro u hu
    unfold f_M_set
    rw [pz_isIn, pz_isIn, pz_isThing (s := px_up u 150 0 0) hu, pz_i1, pz_i1, pz_i1]
    rfl
  have hR0 : f_R_set s a b v = if 0 ≤ a ∧ a ≤ 7 then (if 0 ≤ a then (px_mt[a.toNat]?).bind (fun q3 => if 0 ≤ v ∧ v ≤ q3 then (if a < 6 then (f_R_tell s a b v).bind (fun q6 => (f_R_forgetDeeds q6).bind (fun q7 => some (1, q7))) else (if 0 ≤ b ∧ b ≤ (n : Int) - 1 then (f_R_tell s a b v).bind (fun q9 => (f_R_forgetDeeds q9).bind (fun q10 => some (1, q10))) else some (0, s))) else some (0, s)) else none) else some (0, s) := by
    unfold f_R_set
    rw [show px_wr (8 - 1) = 7 from by decide, b1', pz_wr_pred (by omega), pz_within, pz_within, pz_i1, pz_i1]
    simp only [pz_within, pz_i1]
  by_cases ha : 0 ≤ a ∧ a ≤ 7
  · rcases (show a = 0 ∨ a = 1 ∨ a = 2 ∨ a = 3 ∨ a = 4 ∨ a = 5 ∨ a = 6 ∨ a = 7 by omega) with rfl | rfl | rfl | rfl | rfl | rfl | rfl | rfl
    · by_cases hv : 0 ≤ v ∧ v ≤ 99999
      · refine ⟨1, px_up (px_up (px_up (px_up s 7 1 v) 88 2 0) 145 10 (-2)) 145 13 0, px_up (px_up (px_up (px_up (px_up (px_up (px_up s 7 1 v) 88 2 0) 145 10 (-2)) 145 13 0) 150 0 0) 151 3 v) 150 3 0, ?_, ?_, ?_⟩
        · rw [hR0, if_pos ha]
          show (if 0 ≤ v ∧ v ≤ 99999 then _ else _) = _
          rw [if_pos hv]; rfl
        · show f_M_set _ _ _ _ = _
          rw [hM0 _ (by exact b2'), if_pos ha]
          show (if 0 ≤ v ∧ v ≤ 99999 then _ else _) = _
          rw [if_pos hv]; rfl
        · refine ⟨n, ⟨hn, ⟨b1, b2, b3, b4, b5, b6, b7, b8, b9⟩, (pz_F_lo wF' (fun i hi => pz_up_i (show i ≠ 3 by omega)) ⟨a1, rfl, a3, a4, a5, a6, a7⟩ ⟨r1, r2, r3, r4, r5, r6, r7, r8, r9, r10, r11, r12, r13⟩), w3, w4, w5, w6, w7, w8⟩, pz_U_zero hU rfl rfl rfl, pz_M_ek hM ?_, pz_T_ek hT ?_, pz_X_ek hX ?_, Or.inl ⟨rfl, rfl⟩⟩
          all_goals repeat (first | exact pz_ek_rf | refine pz_ek_up rfl ?_)
      · have e1 : f_R_set s 0 b v = some (0, s) := by
          rw [hR0, if_pos ha]
          show (if 0 ≤ v ∧ v ≤ 99999 then _ else _) = _
          rw [if_neg hv]
        rw [e1]
        refine hno s ?_
        rw [hM0 _ b2', if_pos ha]
        show (if 0 ≤ v ∧ v ≤ 99999 then _ else _) = _
        rw [if_neg hv]
    · by_cases hv : 0 ≤ v ∧ v ≤ 9999
      · refine ⟨1, px_up (px_up (px_up (px_up s 7 2 v) 88 2 0) 145 10 (-2)) 145 13 0, px_up (px_up (px_up (px_up (px_up (px_up (px_up s 7 2 v) 88 2 0) 145 10 (-2)) 145 13 0) 150 0 0) 151 4 v) 150 3 0, ?_, ?_, ?_⟩
        · rw [hR0, if_pos ha]
          show (if 0 ≤ v ∧ v ≤ 9999 then _ else _) = _
          rw [if_pos hv]; rfl
        · show f_M_set _ _ _ _ = _
          rw [hM0 _ (by exact b2'), if_pos ha]
          show (if 0 ≤ v ∧ v ≤ 9999 then _ else _) = _
          rw [if_pos hv]; rfl
        · refine ⟨n, ⟨hn, ⟨b1, b2, b3, b4, b5, b6, b7, b8, b9⟩, (pz_F_lo wF' (fun i hi => pz_up_i (show i ≠ 4 by omega)) ⟨a1, a2, rfl, a4, a5, a6, a7⟩ ⟨hv.1, hv.2, r3, r4, r5, r6, r7, r8, r9, r10, r11, r12, r13⟩), w3, w4, w5, w6, w7, w8⟩, pz_U_zero hU rfl rfl rfl, pz_M_ek hM ?_, pz_T_ek hT ?_, pz_X_ek hX ?_, Or.inl ⟨rfl, rfl⟩⟩
          all_goals repeat (first | exact pz_ek_rf | refine pz_ek_up rfl ?_)
      · have e1 : f_R_set s 1 b v = some (0, s) := by
          rw [hR0, if_pos ha]
          show (if 0 ≤ v ∧ v ≤ 9999 then _ else _) = _
          rw [if_neg hv]
        rw [e1]
        refine hno s ?_
        rw [hM0 _ b2', if_pos ha]
        show (if 0 ≤ v ∧ v ≤ 9999 then _ else _) = _
        rw [if_neg hv]
    · by_cases hv : 0 ≤ v ∧ v ≤ 99
      · refine ⟨1, px_up (px_up (px_up (px_up s 7 3 v) 88 2 0) 145 10 (-2)) 145 13 0, px_up (px_up (px_up (px_up (px_up (px_up (px_up s 7 3 v) 88 2 0) 145 10 (-2)) 145 13 0) 150 0 0) 151 5 v) 150 3 0, ?_, ?_, ?_⟩
        · rw [hR0, if_pos ha]
          show (if 0 ≤ v ∧ v ≤ 99 then _ else _) = _
          rw [if_pos hv]; rfl
        · show f_M_set _ _ _ _ = _
          rw [hM0 _ (by exact b2'), if_pos ha]
          show (if 0 ≤ v ∧ v ≤ 99 then _ else _) = _
          rw [if_pos hv]; rfl
        · refine ⟨n, ⟨hn, ⟨b1, b2, b3, b4, b5, b6, b7, b8, b9⟩, (pz_F_lo wF' (fun i hi => pz_up_i (show i ≠ 5 by omega)) ⟨a1, a2, a3, rfl, a5, a6, a7⟩ ⟨r1, r2, hv.1, hv.2, r5, r6, r7, r8, r9, r10, r11, r12, r13⟩), w3, w4, w5, w6, w7, w8⟩, pz_U_zero hU rfl rfl rfl, pz_M_ek hM ?_, pz_T_ek hT ?_, pz_X_ek hX ?_, Or.inl ⟨rfl, rfl⟩⟩
          all_goals repeat (first | exact pz_ek_rf | refine pz_ek_up rfl ?_)
      · have e1 : f_R_set s 2 b v = some (0, s) := by
          rw [hR0, if_pos ha]
          show (if 0 ≤ v ∧ v ≤ 99 then _ else _) = _
          rw [if_neg hv]
        rw [e1]
        refine hno s ?_
        rw [hM0 _ b2', if_pos ha]
        show (if 0 ≤ v ∧ v ≤ 99 then _ else _) = _
        rw [if_neg hv]
    · by_cases hv : 0 ≤ v ∧ v ≤ 1000
      · refine ⟨1, px_up (px_up (px_up (px_up s 6 2 v) 88 2 0) 145 10 (-2)) 145 13 0, px_up (px_up (px_up (px_up (px_up (px_up (px_up s 6 2 v) 88 2 0) 145 10 (-2)) 145 13 0) 150 0 0) 150 8 v) 150 3 0, ?_, ?_, ?_⟩
        · rw [hR0, if_pos ha]
          show (if 0 ≤ v ∧ v ≤ 1000 then _ else _) = _
          rw [if_pos hv]; rfl
        · show f_M_set _ _ _ _ = _
          rw [hM0 _ (by exact b2'), if_pos ha]
          show (if 0 ≤ v ∧ v ≤ 1000 then _ else _) = _
          rw [if_pos hv]; rfl
        · refine ⟨n, ⟨hn, ⟨b1, b2, rfl, b4, b5, b6, b7, b8, b9⟩, ⟨⟨a1, a2, a3, a4, a5, a6, a7⟩, ⟨r1, r2, r3, r4, r5, r6, r7, r8, r9, r10, r11, r12, r13⟩, c, d, e'⟩, w3, w4, w5, w6, w7, w8⟩, pz_U_zero hU rfl rfl rfl, pz_M_ek hM ?_, pz_T_ek hT ?_, pz_X_ek hX ?_, Or.inl ⟨rfl, rfl⟩⟩
          all_goals repeat (first | exact pz_ek_rf | refine pz_ek_up rfl ?_)
      · have e1 : f_R_set s 3 b v = some (0, s) := by
          rw [hR0, if_pos ha]
          show (if 0 ≤ v ∧ v ≤ 1000 then _ else _) = _
          rw [if_neg hv]
        rw [e1]
        refine hno s ?_
        rw [hM0 _ b2', if_pos ha]
        show (if 0 ≤ v ∧ v ≤ 1000 then _ else _) = _
        rw [if_neg hv]
    · by_cases hv : 0 ≤ v ∧ v ≤ 99
      · refine ⟨1, px_up (px_up (px_up (px_up s 6 3 v) 88 2 0) 145 10 (-2)) 145 13 0, px_up (px_up (px_up (px_up (px_up (px_up (px_up s 6 3 v) 88 2 0) 145 10 (-2)) 145 13 0) 150 0 0) 150 9 v) 150 3 0, ?_, ?_, ?_⟩
        · rw [hR0, if_pos ha]
          show (if 0 ≤ v ∧ v ≤ 99 then _ else _) = _
          rw [if_pos hv]; rfl
        · show f_M_set _ _ _ _ = _
          rw [hM0 _ (by exact b2'), if_pos ha]
          show (if 0 ≤ v ∧ v ≤ 99 then _ else _) = _
          rw [if_pos hv]; rfl
        · refine ⟨n, ⟨hn, ⟨b1, b2, b3, rfl, hv.1, b6, b7, b8, b9⟩, ⟨⟨a1, a2, a3, a4, a5, a6, a7⟩, ⟨r1, r2, r3, r4, r5, r6, r7, r8, r9, r10, r11, r12, r13⟩, c, d, e'⟩, w3, w4, w5, w6, w7, w8⟩, pz_U_zero hU rfl rfl rfl, pz_M_ek hM ?_, pz_T_ek hT ?_, pz_X_ek hX ?_, Or.inl ⟨rfl, rfl⟩⟩
          all_goals repeat (first | exact pz_ek_rf | refine pz_ek_up rfl ?_)
      · have e1 : f_R_set s 4 b v = some (0, s) := by
          rw [hR0, if_pos ha]
          show (if 0 ≤ v ∧ v ≤ 99 then _ else _) = _
          rw [if_neg hv]
        rw [e1]
        refine hno s ?_
        rw [hM0 _ b2', if_pos ha]
        show (if 0 ≤ v ∧ v ≤ 99 then _ else _) = _
        rw [if_neg hv]
    · by_cases hv : 0 ≤ v ∧ v ≤ 60
      · refine ⟨1, px_up (px_up (px_up (px_up s 6 4 v) 88 2 0) 145 10 (-2)) 145 13 0, px_up (px_up (px_up (px_up (px_up (px_up (px_up s 6 4 v) 88 2 0) 145 10 (-2)) 145 13 0) 150 0 0) 150 10 (px_wr (v - 30))) 150 3 0, ?_, ?_, ?_⟩
        · rw [hR0, if_pos ha]
          show (if 0 ≤ v ∧ v ≤ 60 then _ else _) = _
          rw [if_pos hv]; rfl
        · show f_M_set _ _ _ _ = _
          rw [hM0 _ (by exact b2'), if_pos ha]
          show (if 0 ≤ v ∧ v ≤ 60 then _ else _) = _
          rw [if_pos hv]; rfl
        · refine ⟨n, ⟨hn, ⟨b1, b2, b3, b4, b5, ?_, hv.1, hv.2, b9⟩, ⟨⟨a1, a2, a3, a4, a5, a6, a7⟩, ⟨r1, r2, r3, r4, r5, r6, r7, r8, r9, r10, r11, r12, r13⟩, c, d, e'⟩, w3, w4, w5, w6, w7, w8⟩, pz_U_zero hU rfl rfl rfl, pz_M_ek hM ?_, pz_T_ek hT ?_, pz_X_ek hX ?_, Or.inl ⟨rfl, rfl⟩⟩
          case refine_1 =>
            show v = px_wr (v - 30) + 30
            rw [pz_wr_id (by omega) (by omega)]
            omega
          all_goals repeat (first | exact pz_ek_rf | refine pz_ek_up rfl ?_)
      · have e1 : f_R_set s 5 b v = some (0, s) := by
          rw [hR0, if_pos ha]
          show (if 0 ≤ v ∧ v ≤ 60 then _ else _) = _
          rw [if_neg hv]
        rw [e1]
        refine hno s ?_
        rw [hM0 _ b2', if_pos ha]
        show (if 0 ≤ v ∧ v ≤ 60 then _ else _) = _
        rw [if_neg hv]
    · by_cases hv : 0 ≤ v ∧ v ≤ 999
      · by_cases hb : 0 ≤ b ∧ b ≤ (n : Int) - 1
        · obtain ⟨t, rfl⟩ : ∃ t : Nat, b = (t : Int) := ⟨b.toNat, by omega⟩
          refine ⟨1, px_up (px_up (px_up (px_up s 12 t v) 88 2 0) 145 10 (-2)) 145 13 0, px_up (px_up (px_up (px_up (px_up (px_up (px_up s 12 t v) 88 2 0) 145 10 (-2)) 145 13 0) 150 0 0) 154 t v) 150 3 0, ?_, ?_, ?_⟩
          · rw [hR0, if_pos ha]
            show (if 0 ≤ v ∧ v ≤ 999 then (if (6 : Int) < 6 then _ else (if 0 ≤ (t : Int) ∧ (t : Int) ≤ (n : Int) - 1 then ((if 0 ≤ (t : Int) ∧ (t : Int) < 8 then some (px_up s 12 (t : Int).toNat v) else none).bind _) else _)) else _) = _
            rw [if_pos hv, if_neg (by decide), if_pos hb, if_pos (by omega)]; rfl
          · show f_M_set _ _ _ _ = _
            rw [hM0 _ (by exact b2'), if_pos ha]
            show (if 0 ≤ v ∧ v ≤ 999 then (if (6 : Int) ≤ 5 then _ else (if 0 ≤ (t : Int) ∧ (t : Int) ≤ (n : Int) - 1 then (if 0 ≤ (t : Int) ∧ (t : Int) < 8 then _ else none) else _)) else _) = _
            rw [if_pos hv, if_neg (by decide), if_pos hb, if_pos (by omega)]; rfl
          · refine ⟨n, ⟨hn, ⟨b1, b2, b3, b4, b5, b6, b7, b8, b9⟩, ⟨⟨a1, a2, a3, a4, a5, a6, a7⟩, ⟨r1, r2, r3, r4, r5, r6, r7, r8, r9, r10, r11, r12, r13⟩, c, d, e'⟩, fun i hi => ⟨?_, (w3 i hi).2⟩, w4, w5, w6, w7, w8⟩, pz_U_zero hU rfl rfl rfl, pz_M_ek hM ?_, pz_T_ek hT ?_, pz_X_ek hX ?_, Or.inl ⟨rfl, rfl⟩⟩
            case refine_1 =>
              show (if 12 = 12 ∧ i = t then v else s 12 i) = (if 154 = 154 ∧ i = t then v else s 154 i)
              by_cases hit : i = t
              · rw [if_pos ⟨rfl, hit⟩, if_pos ⟨rfl, hit⟩]
              · rw [if_neg (fun q => hit q.2), if_neg (fun q => hit q.2)]
                exact (w3 i hi).1
            all_goals repeat (first | exact pz_ek_rf | refine pz_ek_up rfl ?_)
        · have e1 : f_R_set s 6 b v = some (0, s) := by
            rw [hR0, if_pos ha]
            show (if 0 ≤ v ∧ v ≤ 999 then (if (6 : Int) < 6 then _ else (if 0 ≤ b ∧ b ≤ (n : Int) - 1 then _ else _)) else _) = _
            rw [if_pos hv, if_neg (by decide), if_neg hb]
          rw [e1]
          refine hno s ?_
          rw [hM0 _ b2', if_pos ha]
          show (if 0 ≤ v ∧ v ≤ 999 then (if (6 : Int) ≤ 5 then _ else (if 0 ≤ b ∧ b ≤ (n : Int) - 1 then _ else _)) else _) = _
          rw [if_pos hv, if_neg (by decide), if_neg hb]
      · have e1 : f_R_set s 6 b v = some (0, s) := by
          rw [hR0, if_pos ha]
          show (if 0 ≤ v ∧ v ≤ 999 then _ else _) = _
          rw [if_neg hv]
        rw [e1]
        refine hno s ?_
        rw [hM0 _ b2', if_pos ha]
        show (if 0 ≤ v ∧ v ≤ 999 then _ else _) = _
        rw [if_neg hv]
    · by_cases hv : 0 ≤ v ∧ v ≤ 99
      · by_cases hb : 0 ≤ b ∧ b ≤ (n : Int) - 1
        · obtain ⟨t, rfl⟩ : ∃ t : Nat, b = (t : Int) := ⟨b.toNat, by omega⟩
          refine ⟨1, px_up (px_up (px_up (px_up s 8 t v) 88 2 0) 145 10 (-2)) 145 13 0, px_up (px_up (px_up (px_up (px_up (px_up (px_up s 8 t v) 88 2 0) 145 10 (-2)) 145 13 0) 150 0 0) 151 (8 + t) v) 150 3 0, ?_, ?_, ?_⟩
          · rw [hR0, if_pos ha]
            show (if 0 ≤ v ∧ v ≤ 99 then (if (7 : Int) < 6 then _ else (if 0 ≤ (t : Int) ∧ (t : Int) ≤ (n : Int) - 1 then ((if 0 ≤ (t : Int) ∧ (t : Int) < 8 then some (px_up s 8 (t : Int).toNat v) else none).bind _) else _)) else _) = _
            rw [if_pos hv, if_neg (by decide), if_pos hb, if_pos (by omega)]; rfl
          · show f_M_set _ _ _ _ = _
            rw [hM0 _ (by exact b2'), if_pos ha]
            show (if 0 ≤ v ∧ v ≤ 99 then (if (7 : Int) ≤ 5 then _ else (if 0 ≤ (t : Int) ∧ (t : Int) ≤ (n : Int) - 1 then j_M_set_j26 _ 7 _ _ else _)) else _) = _
            rw [if_pos hv, if_neg (by decide), if_pos hb]
            rw [pz_j26_7]
            unfold j_M_set_j77
            rw [if_pos rfl, pz_wr_id (by omega) (by omega), if_pos (by omega), show (8 + (t : Int)).toNat = 8 + t by omega]
          · refine ⟨n, ⟨hn, ⟨b1, b2, b3, b4, b5, b6, b7, b8, b9⟩, pz_F_wear (f1 := s 8) (q := s 151) ⟨⟨a1, a2, a3, a4, a5, a6, a7⟩, ⟨r1, r2, r3, r4, r5, r6, r7, r8, r9, r10, r11, r12, r13⟩, c, d, e'⟩ hn (show t < n by omega) hv (fun i => pz_up_same s 8 t i v) (fun i => pz_up_same s 151 (8 + t) i v), w3, w4, w5, w6, w7, w8⟩, pz_U_zero hU rfl rfl rfl, pz_M_ek hM ?_, pz_T_ek hT ?_, pz_X_ek hX ?_, Or.inl ⟨rfl, rfl⟩⟩
            all_goals repeat (first | exact pz_ek_rf | refine pz_ek_up rfl ?_)
        · have e1 : f_R_set s 7 b v = some (0, s) := by
            rw [hR0, if_pos ha]
            show (if 0 ≤ v ∧ v ≤ 99 then (if (7 : Int) < 6 then _ else (if 0 ≤ b ∧ b ≤ (n : Int) - 1 then _ else _)) else _) = _
            rw [if_pos hv, if_neg (by decide), if_neg hb]
          rw [e1]
          refine hno s ?_
          rw [hM0 _ b2', if_pos ha]
          show (if 0 ≤ v ∧ v ≤ 99 then (if (7 : Int) ≤ 5 then _ else (if 0 ≤ b ∧ b ≤ (n : Int) - 1 then _ else _)) else _) = _
          rw [if_pos hv, if_neg (by decide), if_neg hb]
      · have e1 : f_R_set s 7 b v = some (0, s) := by
          rw [hR0, if_pos ha]
          show (if 0 ≤ v ∧ v ≤ 99 then _ else _) = _
          rw [if_neg hv]
        rw [e1]
        refine hno s ?_
        rw [hM0 _ b2', if_pos ha]
        show (if 0 ≤ v ∧ v ≤ 99 then _ else _) = _
        rw [if_neg hv]
  · have e1 : f_R_set s a b v = some (0, s) := by
      rw [hR0, if_neg ha]
    rw [e1]
    refine hno s ?_
    rw [hM0 _ b2', if_neg ha]
/-! THINGS, LETTERS, SIGHTS, ERRANDS -/
theorem pz_fill13 {s : px_Z} (x : Int) : ∃ u, f_Arrays_fill s x = some u ∧ pz_ag [13] s u ∧ (∀ i, i < 8 → u 13 i = x) := by
  have hl : ∀ (m fu i : Nat) (z : px_Z), i + m = 8 → m < fu → ∃ u, l_Arrays_fill_5 fu z x (i : Int) 8 = some u ∧ pz_ag [13] z u ∧ (∀ j, i ≤ j → j < 8 → u 13 j = x) ∧ (∀ j, j < i → u 13 j = z 13 j) := by
    intro m
    induction m with
    | zero =>
      intro fu i z hi hf
      obtain ⟨f, rfl⟩ : ∃ f, fu = f + 1 := ⟨fu - 1, by omega⟩
      rw [l_Arrays_fill_5, if_pos (by omega)]
      exact ⟨z, rfl, pz_ag_rf, fun j h1 h2 => by omega, fun _ _ => rfl⟩
    | succ m ih =>
      intro fu i z hi hf
      obtain ⟨f, rfl⟩ : ∃ f, fu = f + 1 := ⟨fu - 1, by omega⟩
      rw [l_Arrays_fill_5, if_neg (by omega), if_pos (by omega), Int.toNat_natCast, pz_wr_suc (by omega)]
      obtain ⟨u, e, h1, h2, h3⟩ := ih f (i + 1) (px_up z 13 i x) (by omega) (by omega)
      refine ⟨u, e, pz_ag_tr (pz_ag_up pz_ag_rf (List.mem_cons_self ..)) h1, fun j h4 h5 => ?_, fun j h4 => ?_⟩
      · by_cases hj : j = i
        · subst hj
          rw [h3 j (by omega), pz_up_same, if_pos rfl]
        · exact h2 j (by omega) h5
      · rw [h3 j (by omega), pz_up_same, if_neg (by omega)]
  obtain ⟨u, e, h1, h2, -⟩ := hl 8 px_big 0 s (by omega) (pz_big_lt (by omega))
  exact ⟨u, e, h1, fun i hi => h2 i (Nat.zero_le _) hi⟩
theorem pz_fill166 {K : px_Z → Int → Option (Int × px_Z)} {s : px_Z} (x2 : Int) {Q : Int × px_Z → Prop} (hK : ∀ u, pz_ag [167] s u → (∀ i, i < 8 → u 167 i = 0) → pz_ok (K u x2) Q) : pz_ok (l_M_thing_69 K px_big s x2 0) Q := by
  have hl : ∀ (m fu i : Nat) (z : px_Z), i + m = 8 → m < fu → pz_ag [167] s z → (∀ j, j < i → z 167 j = 0) → pz_ok (l_M_thing_69 K fu z x2 (i : Int)) Q := by
    intro m
    induction m with
    | zero =>
      intro fu i z hi hf hz h0
      obtain ⟨f, rfl⟩ : ∃ f, fu = f + 1 := ⟨fu - 1, by omega⟩
      rw [l_M_thing_69, if_pos (by omega)]
      exact hK z hz (fun j hj => h0 j (by omega))
    | succ m ih =>
      intro fu i z hi hf hz h0
      obtain ⟨f, rfl⟩ : ∃ f, fu = f + 1 := ⟨fu - 1, by omega⟩
      rw [l_M_thing_69, if_neg (by omega), if_pos (by omega), Int.toNat_natCast, pz_wr_suc (by omega)]
      refine ih f (i + 1) _ (by omega) (by omega) (pz_ag_up hz (List.mem_cons_self ..)) (fun j hj => ?_)
      rw [pz_up_same]
      split
      · rfl
      · exact h0 j (by omega)
  exact hl 8 px_big 0 s (by omega) (pz_big_lt (by omega)) pz_ag_rf (fun j hj => by omega)
theorem po_thing {s : px_Z} (h : pz_I s) (v : Int) : pz_op (f_R_thing s v) (fun u => f_M_thing u v) := by
  have h' := h
  obtain ⟨n, ⟨hn, w1, wF, w3, w4, w5, w6, w7, w8⟩, hU, hM, hT, hX, hC⟩ := h
  obtain ⟨b1, b2, b3, b4, b5, b6, b7, b8, b9⟩ := w1
  obtain ⟨fa, fb, fc, fd, fe⟩ := wF
  have b1' : s 6 1 = (n : Int) := b1
  have b2' : s 150 6 = (n : Int) := b2
  have hno : f_R_thing s v = some (-1, s) → f_M_thing s v = some (-1, px_up s 150 0 0) → pz_op (f_R_thing s v) (fun u => f_M_thing u v) := fun e1 e2 => ⟨-1, s, px_up s 150 0 0, e1, e2, pz_I_told h'⟩
  have hR0 : f_R_thing s v = if 0 ≤ v ∧ v ≤ 999 then (if 8 ≤ (n : Int) then some (-1, s) else (f_World_isHimHome s).bind (fun q3 => if q3 = 0 then (f_World_addThing s v).bind (fun q5 => (f_R_forgetDeeds q5.2).bind (fun q6 => some (q5.1, q6))) else some (-1, s))) else some (-1, s) := by
    unfold f_R_thing
    rw [pz_within, pz_i1, b1']
  have hM0 : ∀ u : px_Z, u 150 6 = (n : Int) → f_M_thing u v = if 0 ≤ v ∧ v ≤ 999 then (if (n : Int) = 8 then some (-1, px_up u 150 0 0) else (if (n : Int) ≤ 0 then j_M_thing_j25 (px_up u 150 0 0) v else (f_M_isHome (px_up u 150 0 0) (px_wr ((n : Int) - 1))).bind (fun q11 => if q11 = 0 then j_M_thing_j25 (px_up u 150 0 0) v else some (-1, px_up u 150 0 0)))) else some (-1, px_up u 150 0 0) := by
    intro u hu
    unfold f_M_thing
    rw [pz_isIn, pz_i1, show (px_up u 150 0 0) 150 6 = u 150 6 from rfl, hu]
  by_cases hv : 0 ≤ v ∧ v ≤ 999
  · by_cases h8 : n = 8
    · refine hno ?_ ?_
      · rw [hR0, if_pos hv, if_pos (by omega)]
      · rw [hM0 _ b2', if_pos hv, if_pos (by omega)]
    · have hhim : f_World_isHimHome s = some (if 0 < n ∧ s 9 (n - 1) = 1 then 1 else 0) := by
        unfold f_World_isHimHome
        rw [b1']
        by_cases h0 : n = 0
        · rw [if_pos (by omega), if_neg (by omega)]
        · rw [if_neg (by omega), pz_wr_pred (by omega), if_pos (by omega), show ((n : Int) - 1).toNat = n - 1 by omega]
          by_cases h9 : s 9 (n - 1) = 1
          · rw [if_pos h9, if_pos ⟨by omega, h9⟩]
          · rw [if_neg h9, if_neg (fun q => h9 q.2)]
      have hhome : ∀ u : px_Z, 0 < n → u 151 (16 + (n - 1)) = s 151 (16 + (n - 1)) → f_M_isHome (px_up u 150 0 0) (px_wr ((n : Int) - 1)) = some (if s 9 (n - 1) = 1 then 1 else 0) := by
        intro u h0 hu
        unfold f_M_isHome
        rw [pz_wr_pred (by omega), pz_wr_id (by omega) (by omega), if_pos (by omega), show (16 + ((n : Int) - 1)).toNat = 16 + (n - 1) by omega, show (px_up u 150 0 0) 151 (16 + (n - 1)) = u 151 (16 + (n - 1)) from rfl, hu]
        have h9 : s 9 (n - 1) = s 151 (16 + (n - 1)) := (fc (n - 1) (by omega)).2.1
        rw [h9]
        split <;> rfl
      by_cases hh : 0 < n ∧ s 9 (n - 1) = 1
      · refine hno ?_ ?_
        · rw [hR0, if_pos hv, if_neg (by omega), hhim, if_pos hh]; rfl
        · rw [hM0 _ b2', if_pos hv, if_neg (by omega), if_neg (by omega), hhome s hh.1 rfl, if_pos hh.2]; rfl
      · obtain ⟨u, e1, u1, u2⟩ := pz_fill13 (s := px_up s 12 n v) 0
        have u6 : u 6 1 = (n : Int) := (u1 6 1 (by decide)).trans b1'
        have hR : f_R_thing s v = some ((n : Int), px_up (px_up (px_up (px_up (px_up u 6 7 0) 6 1 ((n + 1 : Nat) : Int)) 88 2 0) 145 10 (-2)) 145 13 0) := by
          rw [hR0, if_pos hv, if_neg (by omega), hhim, if_neg hh]
          show ((f_World_addThing s v).bind _) = _
          unfold f_World_addThing
          rw [b1', if_pos (by omega), if_pos (by omega), Int.toNat_natCast, e1, Option.bind_some]
          rw [show (px_up u 6 7 0) 6 1 = u 6 1 from rfl, u6, pz_wr_suc (by omega)]
          show some (px_wr (((n + 1 : Nat) : Int) - 1), _) = _
          rw [pz_wr_pred (by omega), show ((n + 1 : Nat) : Int) - 1 = (n : Int) by omega]
        have hm6 : (px_up (px_up (px_up (px_up (px_up u 6 7 0) 6 1 ((n + 1 : Nat) : Int)) 88 2 0) 145 10 (-2)) 145 13 0) 150 6 = (n : Int) := (u1 150 6 (by decide)).trans b2'
        have hm150 : ∀ i, (px_up (px_up (px_up (px_up (px_up u 6 7 0) 6 1 ((n + 1 : Nat) : Int)) 88 2 0) 145 10 (-2)) 145 13 0) 151 i = s 151 i := fun i => u1 151 i (by decide)
        generalize hgen : px_up (px_up (px_up (px_up (px_up u 6 7 0) 6 1 ((n + 1 : Nat) : Int)) 88 2 0) 145 10 (-2)) 145 13 0 = t at hR hm6 hm150
        have hj : f_M_thing t v = j_M_thing_j25 (px_up t 150 0 0) v := by
          rw [hM0 _ hm6, if_pos hv, if_neg (by omega)]
          by_cases h0 : n = 0
          · rw [if_pos (by omega)]
          · rw [if_neg (by omega), hhome t (by omega) (hm150 _), if_neg (fun q => hh ⟨by omega, q⟩)]
            rfl
        have hz : (px_up t 150 0 0) 150 6 = (n : Int) := hm6
        have hok : pz_ok (j_M_thing_j25 (px_up t 150 0 0) v) (fun q => q.1 = (n : Int) ∧ ∃ y, pz_ag [167] (px_up (px_up (px_up (px_up (px_up (px_up (px_up t 150 0 0) 154 n v) 151 (8 + n) 0) 151 (16 + n) 0) 151 (24 + n) 0) 151 (32 + n) 0) 150 6 ((n + 1 : Nat) : Int)) y ∧ (∀ i, i < 8 → y 167 i = 0) ∧ q.2 = px_up (px_up y 150 37 0) 150 3 0) := by
          unfold j_M_thing_j25
          rw [hz, pz_wr_id (x := 8 + (n : Int)) (by omega) (by omega), pz_wr_id (x := 16 + (n : Int)) (by omega) (by omega), pz_wr_id (x := 24 + (n : Int)) (by omega) (by omega), pz_wr_id (x := 32 + (n : Int)) (by omega) (by omega), if_pos (by omega), if_pos (by omega), if_pos (by omega), if_pos (by omega), if_pos (by omega), Int.toNat_natCast, show (8 + (n : Int)).toNat = 8 + n by omega, show (16 + (n : Int)).toNat = 16 + n by omega, show (24 + (n : Int)).toNat = 24 + n by omega, show (32 + (n : Int)).toNat = 32 + n by omega]
          rw [show (px_up (px_up (px_up (px_up (px_up (px_up t 150 0 0) 154 n v) 151 (8 + n) 0) 151 (16 + n) 0) 151 (24 + n) 0) 151 (32 + n) 0) 150 6 = (n : Int) from hm6, pz_wr_suc (by omega)]
          refine pz_fill166 _ (fun y h1 h2 => ?_)
          exact ⟨_, rfl, rfl, y, h1, h2, rfl⟩
        obtain ⟨⟨qa, qz⟩, e2, rfl, y, y1, y2, rfl⟩ := hok
        refine ⟨(n : Int), t, _, hR, hj.trans e2, ?_⟩
        subst hgen
        have d0 := fd n (by omega) (Nat.le_refl _)
        have y150 : ∀ i, y 151 i = s 151 i := by
          intro i
          rw [y1 151 i (by decide)]
          show px_up _ 151 (32 + n) 0 151 i = _
          rw [pz_up_same]
          by_cases i4 : i = 32 + n
          · rw [if_pos i4, i4]; exact d0.2.2.2.symm
          rw [if_neg i4, pz_up_same]
          by_cases i3 : i = 24 + n
          · rw [if_pos i3, i3]; exact d0.2.2.1.symm
          rw [if_neg i3, pz_up_same]
          by_cases i2 : i = 16 + n
          · rw [if_pos i2, i2]; exact d0.2.1.symm
          rw [if_neg i2, pz_up_same]
          by_cases i1 : i = 8 + n
          · rw [if_pos i1, i1]; exact d0.1.symm
          rw [if_neg i1]
          exact u1 151 i (by decide)
        have y153 : ∀ i, y 154 i = if i = n then v else s 154 i := by
          intro i
          rw [y1 154 i (by decide)]
          show px_up _ 154 n v 154 i = _
          rw [pz_up_same]
          split
          · rfl
          · exact u1 154 i (by decide)
        have yu : ∀ c i, c < 150 → c ≠ 6 → c ≠ 12 → c ≠ 13 → c ≠ 88 → c ≠ 145 → y c i = s c i := by
          intro c i h1 h2 h3 h4 h5 h6
          rw [y1 c i (by intro hc; rw [List.mem_singleton] at hc; omega), pz_up_c (by omega), pz_up_c (by omega), pz_up_c (by omega), pz_up_c (by omega), pz_up_c (by omega), pz_up_c (by omega), pz_up_c (by omega), pz_up_c h6, pz_up_c h6, pz_up_c h5, pz_up_c h2, pz_up_c h2, u1 c i (by intro hc; rw [List.mem_singleton] at hc; omega), pz_up_c h3]
        have y12 : ∀ i, y 12 i = if i = n then v else s 12 i := by
          intro i
          rw [y1 12 i (by decide)]
          show u 12 i = _
          rw [u1 12 i (by decide), pz_up_same]
        have y13 : ∀ i, i < 8 → y 13 i = 0 := by
          intro i hi
          rw [y1 13 i (by decide)]
          exact u2 i hi
        have ek : ∀ k : Nat → Nat → Bool, k 150 0 = false → k 150 3 = false → k 150 6 = false → k 150 37 = false → k 6 1 = false → k 6 7 = false → k 88 2 = false → k 145 10 = false → k 145 13 = false → (∀ i, k 12 i = false) → (∀ i, k 13 i = false) → (∀ i, k 151 i = false) → (∀ i, k 154 i = false) → (∀ i, k 167 i = false) → pz_ek k s (px_up (px_up y 150 37 0) 150 3 0) := by
          intro k k0 k3 k6 k37 k61 k67 k88 k145 k145b k12 k13 k150 k153 k166
          refine pz_ek_up k3 (pz_ek_up k37 (pz_ek_ag (L := [167]) ⟨k166, trivial⟩ y1 ?_))
          refine pz_ek_up k6 (pz_ek_up (k150 _) (pz_ek_up (k150 _) (pz_ek_up (k150 _) (pz_ek_up (k150 _) (pz_ek_up (k153 _) (pz_ek_up k0 ?_))))))
          refine pz_ek_up k145b (pz_ek_up k145 (pz_ek_up k88 (pz_ek_up k61 (pz_ek_up k67 (pz_ek_ag (L := [13]) ⟨k13, trivial⟩ u1 (pz_ek_up (k12 _) pz_ek_rf))))))
        have z6 : ∀ i, i ≠ 1 → i ≠ 7 → y 6 i = s 6 i := by
          intro i h1 h2
          rw [y1 6 i (by decide), pz_up_c (by decide), pz_up_c (by decide), pz_up_c (by decide), pz_up_c (by decide), pz_up_c (by decide), pz_up_c (by decide), pz_up_c (by decide), pz_up_c (by decide), pz_up_c (by decide), pz_up_c (by decide), pz_up_i h1, pz_up_i h2, u1 6 i (by decide), pz_up_c (by decide)]
        have z149 : ∀ i, i ≠ 0 → i ≠ 6 → y 150 i = s 150 i := by
          intro i h1 h2
          rw [y1 150 i (by decide), pz_up_i h2, pz_up_c (by decide), pz_up_c (by decide), pz_up_c (by decide), pz_up_c (by decide), pz_up_c (by decide), pz_up_i h1, pz_up_c (by decide), pz_up_c (by decide), pz_up_c (by decide), pz_up_c (by decide), pz_up_c (by decide), u1 150 i (by decide), pz_up_c (by decide)]
        refine ⟨n + 1, ⟨by omega, ⟨?_, ?_, ?_, ?_, ?_, ?_, ?_, ?_, ?_⟩, ?_, ?_, pz_W4_ek w4 ?_ ?_, pz_W5_ek w5 ?_ ?_ ?_, ?_, pz_W7_ek w7 ?_ ?_ ?_ ?_ ?_, ?_⟩, pz_U_zero hU ?_ rfl ?_, pz_M_ek hM ?_, pz_T_ek hT ?_, pz_X_ek hX ?_, Or.inl ?_⟩
        · exact y1 6 1 (by decide)
        · exact y1 150 6 (by decide)
        · show y 6 2 = y 150 8
          rw [z6 2 (by decide) (by decide), z149 8 (by decide) (by decide)]; exact b3
        · show y 6 3 = y 150 9
          rw [z6 3 (by decide) (by decide), z149 9 (by decide) (by decide)]; exact b4
        · show 0 ≤ y 150 9
          rw [z149 9 (by decide) (by decide)]; exact b5
        · show y 6 4 = y 150 10 + 30
          rw [z6 4 (by decide) (by decide), z149 10 (by decide) (by decide)]; exact b6
        · show 0 ≤ y 6 4
          rw [z6 4 (by decide) (by decide)]; exact b7
        · show y 6 4 ≤ 60
          rw [z6 4 (by decide) (by decide)]; exact b8
        · show y 6 7 = 0
          exact y1 6 7 (by decide)
        · have fF : pz_F n (y 7) (y 8) (y 9) (y 10) (y 11) (y 151) := pz_F_congr ⟨fa, fb, fc, fd, fe⟩ (fun i _ => yu 7 i (by decide) (by decide) (by decide) (by decide) (by decide) (by decide)) (fun i _ => yu 8 i (by decide) (by decide) (by decide) (by decide) (by decide) (by decide)) (fun i _ => yu 9 i (by decide) (by decide) (by decide) (by decide) (by decide) (by decide)) (fun i _ => yu 10 i (by decide) (by decide) (by decide) (by decide) (by decide) (by decide)) (fun i _ => yu 11 i (by decide) (by decide) (by decide) (by decide) (by decide) (by decide)) (fun i _ => y150 i) hn
          obtain ⟨ga, gb, gc, gd, ge⟩ := fF
          obtain ⟨g1, g2, g3, g4, g5, g6, g7, g8, g9, g10, g11, g12, g13⟩ := gb
          refine ⟨ga, ⟨g1, g2, g3, g4, g5, g6, g7, ?_, g9, g10, g11, g12, g13⟩, gc, fun i hi hni => gd i hi (by omega), fun k hk hk1 => ?_⟩
          · show y 151 6 ≤ ((n + 1 : Nat) : Int)
            omega
          · have hkn : k = n := by omega
            subst hkn
            have := (gd k (by omega) (Nat.le_refl _)).2.1
            have hk2 : y 151 (16 + k) = 1 := hk1
            omega
        · intro i hi
          show y 12 i = y 154 i ∧ y 13 i = y 167 i ∧ 0 ≤ y 167 i ∧ y 167 i < 256
          rw [y12, y153, y13 i hi, y2 i hi]
          refine ⟨?_, rfl, by decide, by decide⟩
          split
          · rfl
          · exact (w3 i hi).1
        · exact ek _ rfl rfl rfl rfl rfl rfl rfl rfl rfl (fun _ => rfl) (fun _ => rfl) (fun _ => rfl) (fun _ => rfl) (fun _ => rfl)
        · exact ek _ rfl rfl rfl rfl rfl rfl rfl rfl rfl (fun _ => rfl) (fun _ => rfl) (fun _ => rfl) (fun _ => rfl) (fun _ => rfl)
        · exact ek _ rfl rfl rfl rfl rfl rfl rfl rfl rfl (fun _ => rfl) (fun _ => rfl) (fun _ => rfl) (fun _ => rfl) (fun _ => rfl)
        · show y 150 35 = s 150 35
          exact z149 35 (by decide) (by decide)
        · intro i _
          show y 166 i = s 166 i
          rw [y1 166 i (by decide)]
          exact u1 166 i (by decide)
        · have w6' : pz_W6 n (pz_wo (px_up (px_up y 150 37 0) 150 3 0)) (px_up (px_up y 150 37 0) 150 3 0) := pz_W6_ek w6 (ek _ rfl rfl rfl rfl rfl rfl rfl rfl rfl (fun _ => rfl) (fun _ => rfl) (fun _ => rfl) (fun _ => rfl) (fun _ => rfl)) (z149 43 (by decide) (by decide)) (fun i _ => (y1 171 i (by decide)).trans (u1 171 i (by decide)))
          obtain ⟨md, p1, p2, p3, p4⟩ := w6'
          refine ⟨md, p1, p2, p3, fun k hk => ?_⟩
          obtain ⟨q1, q2, q3⟩ := p4 k hk
          refine ⟨q1, q2, ?_⟩
          rcases q3 with q3 | q3
          · exact Or.inl ⟨q3.1, q3.2.1, q3.2.2.1, by omega, q3.2.2.2.2⟩
          · exact Or.inr q3
        · exact ek _ rfl rfl rfl rfl rfl rfl rfl rfl rfl (fun _ => rfl) (fun _ => rfl) (fun _ => rfl) (fun _ => rfl) (fun _ => rfl)
        · exact z149 51 (by decide) (by decide)
        · exact z149 53 (by decide) (by decide)
        · exact z149 57 (by decide) (by decide)
        · exact ek _ rfl rfl rfl rfl rfl rfl rfl rfl rfl (fun _ => rfl) (fun _ => rfl) (fun _ => rfl) (fun _ => rfl) (fun _ => rfl)
        · intro k hk
          show y 45 k = y 155 k
          rw [yu 45 k (by decide) (by decide) (by decide) (by decide) (by decide) (by decide), y1 155 k (by decide)]
          exact (w8 k hk).trans (u1 155 k (by decide)).symm
        · exact y1 88 2 (by decide)
        · show y 88 1 = s 88 1
          rw [y1 88 1 (by decide)]
          exact u1 88 1 (by decide)
        · exact ek _ rfl rfl rfl rfl rfl rfl rfl rfl rfl (fun _ => rfl) (fun _ => rfl) (fun _ => rfl) (fun _ => rfl) (fun _ => rfl)
        · exact ek _ rfl rfl rfl rfl rfl rfl rfl rfl rfl (fun _ => rfl) (fun _ => rfl) (fun _ => rfl) (fun _ => rfl) (fun _ => rfl)
        · exact ek _ rfl rfl rfl rfl rfl rfl rfl rfl rfl (fun _ => rfl) (fun _ => rfl) (fun _ => rfl) (fun _ => rfl) (fun _ => rfl)
        · exact ⟨y1 145 10 (by decide), y1 145 13 (by decide)⟩
  · refine hno ?_ ?_
    · rw [hR0, if_neg hv]
    · rw [hM0 _ b2', if_neg hv]
