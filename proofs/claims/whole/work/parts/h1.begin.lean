/-! TEXT: the beginning of a reading, and what all readings have in common -/
theorem pt_begin {y : px_Z} {b : Nat → Int} {L : Nat} (h4 : L ≤ 400) (h13 : y 150 13 = (L : Int)) (h155 : y 156 = b) (hb : ∀ k, k < 400 → 0 ≤ b k) (hw : ∀ k, k < 139 → y 157 k = pz_wd.getD k 0) (k : Int) : ∃ w, f_M_reads (px_up (px_up (px_up (px_up (px_up (px_up (px_up y 150 0 0) 150 33 0) 150 34 (-1)) 150 14 0) 150 27 0) 150 28 0) 150 26 k) = some w ∧ pt_B w b L (pt_st b L 0) ∧ w 150 26 = k ∧ w 150 27 = 0 ∧ w 150 28 = 0 ∧ w 150 33 = 0 ∧ w 150 34 = -1 ∧ (∀ c j, ¬ (c = 150 ∧ (j = 0 ∨ (14 ≤ j ∧ j ≤ 17) ∨ (26 ≤ j ∧ j ≤ 28) ∨ j = 33 ∨ j = 34)) → w c j = y c j) := by
  have fr : ∀ c j, ¬ (c = 150 ∧ (j = 0 ∨ j = 14 ∨ (26 ≤ j ∧ j ≤ 28) ∨ j = 33 ∨ j = 34)) → px_up (px_up (px_up (px_up (px_up (px_up (px_up y 150 0 0) 150 33 0) 150 34 (-1)) 150 14 0) 150 27 0) 150 28 0) 150 26 k c j = y c j := fun c j h => by rw [pt_upn (by omega), pt_upn (by omega), pt_upn (by omega), pt_upn (by omega), pt_upn (by omega), pt_upn (by omega), pt_upn (by omega)]
  obtain ⟨w, a1, a2, a3, a4, a5, a6⟩ := pt_reads (s := px_up (px_up (px_up (px_up (px_up (px_up (px_up y 150 0 0) 150 33 0) 150 34 (-1)) 150 14 0) 150 27 0) 150 28 0) 150 26 k) (e := 0) h4 ((fr 150 13 (by omega)).trans h13) ((funext fun j => fr 156 j (by omega)).trans h155) hb (fun q hq => (fr 157 q (by omega)).trans (hw q hq)) (Nat.zero_le _) (by rw [pt_upn (by omega), pt_upn (by omega), pt_upn (by omega), pt_upi]; rfl)
  refine ⟨w, a1, ⟨(a6 150 13 (by omega)).trans ((fr 150 13 (by omega)).trans h13), h4, (funext fun j => (a6 156 j (by omega)).trans (fr 156 j (by omega))).trans h155, hb, fun q hq => (a6 157 q (by omega)).trans ((fr 157 q (by omega)).trans (hw q hq)), pt_st_le b L 0, a2, a3, a4, a5⟩, ?_, ?_, ?_, ?_, ?_, fun c j h => (a6 c j (by omega)).trans (fr c j (by omega))⟩
  · rw [a6 150 26 (by omega), pt_upi]
  · rw [a6 150 27 (by omega), pt_upn (by omega), pt_upn (by omega), pt_upi]
  · rw [a6 150 28 (by omega), pt_upn (by omega), pt_upi]
  · rw [a6 150 33 (by omega), pt_upn (by omega), pt_upn (by omega), pt_upn (by omega), pt_upn (by omega), pt_upn (by omega), pt_upi]
  · rw [a6 150 34 (by omega), pt_upn (by omega), pt_upn (by omega), pt_upn (by omega), pt_upn (by omega), pt_upi]
def pt_FR (u v : px_Z) : Prop := ∀ c j, ¬ (c = 121 ∧ (j = 4 ∨ j = 6 ∨ j = 7 ∨ j = 8 ∨ j = 13)) → ¬ (125 ≤ c ∧ c ≤ 142) → v c j = u c j
def pt_GR (z w : px_Z) : Prop := ∀ c j, ¬ (c = 150 ∧ ((14 ≤ j ∧ j ≤ 17) ∨ j = 27 ∨ j = 28 ∨ (30 ≤ j ∧ j ≤ 32) ∨ j = 42)) → ¬ (159 ≤ c ∧ c ≤ 162 ∧ 32 ≤ j) → ¬ ((c = 163 ∨ c = 164) ∧ 800 ≤ j) → ¬ (c = 166 ∧ 120 ≤ j) → ¬ (c = 167 ∧ 8 ≤ j) → ¬ (c = 171 ∧ 180 ≤ j) → ¬ (c = 165 ∨ c = 168 ∨ c = 169 ∨ c = 170 ∨ c = 172 ∨ c = 173) → w c j = z c j
/-- a reading of both, the LAWS' kind k -/
def pt_RP (k : Int) (RD : px_Z → Option px_Z) (MD : px_Z → Option (Int × px_Z)) (RE : Nat → px_Z → px_Z → Int → Prop) : Prop := ∀ (b : Nat → Int) (L T nt : Nat) (u z : px_Z), nt ≤ 8 → pt_A u b L T 0 → pt_B z b L (pt_st b L 0) → u 121 7 = 0 → u 121 5 = (nt : Int) → z 150 6 = (nt : Int) → z 150 26 = k → z 150 27 = 0 → z 150 28 = 0 → ∃ v w r, RD u = some v ∧ MD z = some (r, w) ∧ pt_FR u v ∧ pt_GR z w ∧ (((v 121 7 = 0 ∧ v 121 8 = -1) ∧ r ≠ -1 ∧ RE nt v w r) ∨ (v 121 7 ≠ 0 ∧ r = -1 ∧ w 150 31 = v 121 7 ∧ w 150 32 = v 121 8))
def pt_Rlaw (_ : Nat) (v w : px_Z) (r : Int) : Prop := ∃ n m : Nat, n ≤ 16 ∧ m ≤ 400 ∧ r = (n : Int) ∧ pt_LN n m v w ∧ v 125 1 = (m : Int) ∧ w 150 27 = (m : Int) ∧ (∀ i, i < m → pz_cr (v 130 i) (w 163 (800 + i)) (w 164 (800 + i)) ∧ (w 150 26 ≠ 0 → v 130 i ≠ 263 ∧ v 130 i ≠ 264))
def pt_Rhil (_ : Nat) (v w : px_Z) (r : Int) : Prop := ∃ m : Nat, m ≤ 24 ∧ r = (m : Int) ∧ pt_HL m v w
def pt_Raft (nt : Nat) (v w : px_Z) (r : Int) : Prop := ∃ m : Nat, m ≤ 12 ∧ r = (m : Int) ∧ v 121 13 = (m : Int) ∧ pt_AF nt v w
def pt_Rpla (nt : Nat) (v w : px_Z) (r : Int) : Prop := ∃ m : Nat, m ≤ 60 ∧ r = (m : Int) ∧ v 138 0 = (m : Int) ∧ ∀ k, k < m → pt_dr nt (v 139 k) (v 140 k) (v 141 k) (w 171 (180 + 3 * k)) (w 171 (181 + 3 * k)) (w 171 (182 + 3 * k))
theorem pt_RPlaw {k x : Int} (hk : k = 0 ∧ x = 1 ∨ k = 1 ∧ x = 0) : pt_RP k (fun q => f_Reader_readLaw q x) f_M_readLaw pt_Rlaw := by
  intro b L T nt u z h8 hA hB h0 h5 h6 h26 h27 h28
  obtain ⟨v, w, r, a1, a2, a3, a4, a5⟩ := pt_law (x := x) hA hB h0 (by omega) h27 h28
  refine ⟨v, w, r, a1, a2, fun c j q1 q2 => a3 c j (by omega) (by omega), fun c j q1 q2 q3 q4 q5 q6 q7 => a4 c j (by omega) q3 (by omega) q2, ?_⟩
  rcases a5 with ⟨p1, n, m, p2, p3, p4, p5⟩ | p
  · exact Or.inl ⟨p1, by omega, n, m, p2, p3, p4, p5⟩
  · exact Or.inr p
theorem pt_RPhil : pt_RP 2 f_Reader_readHills f_M_readHills pt_Rhil := by
  intro b L T nt u z h8 hA hB h0 h5 h6 h26 h27 h28
  obtain ⟨v, w, r, a1, a2, a3, a4, a5⟩ := pt_hills hA hB h0
  refine ⟨v, w, r, a1, a2, fun c j q1 q2 => a3 c j (by omega) (by omega), fun c j q1 q2 q3 q4 q5 q6 q7 => a4 c j (by omega) q4, ?_⟩
  rcases a5 with ⟨p1, m, p2, p3, p4⟩ | p
  · exact Or.inl ⟨p1, by omega, m, p2, p3, p4⟩
  · exact Or.inr p
theorem pt_RPaft : pt_RP 3 f_Reader_readAfter f_M_readAfter pt_Raft := by
  intro b L T nt u z h8 hA hB h0 h5 h6 h26 h27 h28
  obtain ⟨v, w, r, a1, a2, a3, a4, a5⟩ := pt_after hA hB h0 h5 h6 h8
  refine ⟨v, w, r, a1, a2, fun c j q1 q2 => a3 c j (by omega) (by omega), fun c j q1 q2 q3 q4 q5 q6 q7 => a4 c j (by omega) q5, ?_⟩
  rcases a5 with ⟨p1, m, p2, p3, p4⟩ | p
  · exact Or.inl ⟨p1, by omega, m, p2, p3, p4⟩
  · exact Or.inr p
theorem pt_RPpla : pt_RP 4 f_Reader_readPlan f_M_readPlan pt_Rpla := by
  intro b L T nt u z h8 hA hB h0 h5 h6 h26 h27 h28
  obtain ⟨v, w, r, a1, a2, a3, a4, a5⟩ := pt_plan hA hB h0 h5 h6 h8 h28
  refine ⟨v, w, r, a1, a2, fun c j q1 q2 => a3 c j (by omega) (by omega), fun c j q1 q2 q3 q4 q5 q6 q7 => a4 c j (by omega) (by omega) q6 (by omega) (by omega), ?_⟩
  rcases a5 with ⟨p1, m, p2, p3, p4⟩ | p
  · exact Or.inl ⟨p1, by omega, m, p2, p3, p4⟩
  · exact Or.inr p
/-- cells that no text touches -/
def pt_un (c j : Nat) : Prop := ¬ (c = 5 ∧ j = 5) ∧ ¬ (c = 6 ∧ j = 7) ∧ ¬ (13 ≤ c ∧ c ≤ 37) ∧ ¬ (c = 88 ∧ j = 2) ∧ ¬ (121 ≤ c ∧ c ≤ 142) ∧ ¬ (c = 145 ∧ (j = 10 ∨ j = 13)) ∧ ¬ (c = 150 ∧ (j = 0 ∨ j = 3 ∨ (13 ≤ j ∧ j ≤ 17) ∨ (26 ≤ j ∧ j ≤ 28) ∨ (30 ≤ j ∧ j ≤ 35) ∨ j = 37 ∨ j = 42 ∨ j = 43)) ∧ ¬ (158 ≤ c ∧ c ≤ 173)
theorem pt_fin {s t : px_Z} {n : Nat} (hW : pz_W n (pz_wo s) s) (hM : pz_M s) (hT : pz_T s) (hX : pz_X s) (G : ∀ c j, pt_un c j → t c j = s c j) (h37 : t 6 7 = t 150 37) (w3 : pz_W3 (pz_wo t) t) (w4 : pz_W4 (pz_wo t) t) (w5 : pz_W5 (pz_wo t) t) (w6 : pz_W6 n (pz_wo t) t) (U : pz_U n t) (t5 : t 5 5 = 0) (t13 : t 150 13 = 0) (x7 : t 121 7 = t 150 33) (x8 : t 121 8 = t 150 34) (C : pz_C n t) : pz_I t := by
  obtain ⟨hn, w1, wF, _, _, _, _, w7, w8⟩ := hW
  refine ⟨n, ⟨hn, ?_, ?_, w3, w4, w5, w6, ?_, ?_⟩, U, ?_, ?_, ?_, C⟩
  · obtain ⟨a1, a2, a3, a4, a5, a6, a7, a8, a9⟩ := w1
    exact ⟨(G 6 1 (by unfold pt_un; omega)).trans a1, (G 150 6 (by unfold pt_un; omega)).trans a2, (G 6 2 (by unfold pt_un; omega)).trans (a3.trans (G 150 8 (by unfold pt_un; omega)).symm), (G 6 3 (by unfold pt_un; omega)).trans (a4.trans (G 150 9 (by unfold pt_un; omega)).symm), by rw [G 150 9 (by unfold pt_un; omega)]; exact a5, by show t 6 4 = t 150 10 + 30; rw [G 6 4 (by unfold pt_un; omega), G 150 10 (by unfold pt_un; omega)]; exact a6, by show 0 ≤ t 6 4; rw [G 6 4 (by unfold pt_un; omega)]; exact a7, by show t 6 4 ≤ 60; rw [G 6 4 (by unfold pt_un; omega)]; exact a8, h37⟩
  · exact pz_F_congr wF (fun i _ => G 7 i (by unfold pt_un; omega)) (fun i _ => G 8 i (by unfold pt_un; omega)) (fun i _ => G 9 i (by unfold pt_un; omega)) (fun i _ => G 10 i (by unfold pt_un; omega)) (fun i _ => G 11 i (by unfold pt_un; omega)) (fun i _ => G 151 i (by unfold pt_un; omega)) hn
  · exact pz_W7_congr (fun c i _ q1 q2 => G (6 + c) i (by unfold pt_un; omega)) (G 150 51 (by unfold pt_un; omega)) (G 150 53 (by unfold pt_un; omega)) (G 150 57 (by unfold pt_un; omega)) (fun c i _ q1 q2 => G c i (by unfold pt_un; omega)) w7
  · intro k hk
    show t 45 k = t 155 k
    rw [G 45 k (by unfold pt_un; omega), G 155 k (by unfold pt_un; omega)]
    exact w8 k hk
  · refine pz_M_ek hM (fun c i hk => G c i ?_)
    unfold pz_kM at hk
    simp only [Bool.or_eq_true, Bool.and_eq_true, beq_iff_eq, decide_eq_true_eq] at hk
    unfold pt_un; omega
  · obtain ⟨a1, a2, a3, a4⟩ := hT
    refine ⟨t5.trans t13.symm, by rw [t13]; decide, by rw [t13]; decide, fun i hi => ?_⟩
    rw [G 120 i (by unfold pt_un; omega), G 156 i (by unfold pt_un; omega)]
    exact a4 i hi
  · obtain ⟨a1, a2, a3, a4⟩ := hX
    exact ⟨x7, x8, (G 150 5 (by unfold pt_un; omega)).trans a3, fun i hi => (G 157 i (by unfold pt_un; omega)).trans (a4 i hi)⟩
