/-! TEXT: what stays -/
theorem pt_WLc {j m : Nat} {size : Int} {a b c d code a' b' c' d' code' : Nat → Int} {v w : px_Z} (ea : ∀ i, i < 16 → a' i = a i) (eb : ∀ i, i < 16 → b' i = b i) (ec : ∀ i, i < 16 → c' i = c i) (ed : ∀ i, i < 16 → d' i = d i) (eo : ∀ i, i < 400 → code' i = code i) (e7 : w 158 j = v 158 j) (el : ∀ q l, 159 ≤ q → q ≤ 162 → l < 16 → w q (16 * j + l) = v q (16 * j + l)) (ec2 : ∀ q i, 163 ≤ q → q ≤ 164 → i < 400 → w q (400 * j + i) = v q (400 * j + i)) (h : pz_WL j m size a b c d code v) : pz_WL j m size a' b' c' d' code' w := by
  obtain ⟨⟨hm, h0, hl⟩, s0, s1, hd, hw⟩ := h
  refine ⟨⟨hm, e7.trans h0, fun l hl' => ?_⟩, s0, s1, fun l hl' => (by rw [ed l (by omega)]; exact hd l hl'), fun h1 i hi => (by rw [eo i (by omega)]; exact hw h1 i hi)⟩
  have h2 : (0 ≤ b l ∧ b l ≤ c l ∧ c l ≤ d l ∧ d l ≤ 400 ∧ (∃ t, pz_ty code ((c l).toNat - (b l).toNat) (b l).toNat [] = some [t] ∧ t ≠ 1) ∧ (c l ≠ d l → pz_ty code ((d l).toNat - (c l).toNat) (c l).toNat [] = some [1])) ∧ a l = 265 + v 159 (16 * j + l) ∧ b l = v 160 (16 * j + l) ∧ c l = v 161 (16 * j + l) ∧ d l = v 162 (16 * j + l) ∧ (∀ i : Nat, (i : Int) < d l → pz_cr (code i) (v 163 (400 * j + i)) (v 164 (400 * j + i))) := hl l hl'
  obtain ⟨⟨l1, l2, l3, l4, ⟨t, l5, l6⟩, l7⟩, m0, m1, m2, m3, mc⟩ := h2
  have hll : l < 16 := by omega
  show (0 ≤ b' l ∧ b' l ≤ c' l ∧ c' l ≤ d' l ∧ d' l ≤ 400 ∧ (∃ t, pz_ty code' ((c' l).toNat - (b' l).toNat) (b' l).toNat [] = some [t] ∧ t ≠ 1) ∧ (c' l ≠ d' l → pz_ty code' ((d' l).toNat - (c' l).toNat) (c' l).toNat [] = some [1])) ∧ a' l = 265 + w 159 (16 * j + l) ∧ b' l = w 160 (16 * j + l) ∧ c' l = w 161 (16 * j + l) ∧ d' l = w 162 (16 * j + l) ∧ (∀ i : Nat, (i : Int) < d' l → pz_cr (code' i) (w 163 (400 * j + i)) (w 164 (400 * j + i)))
  rw [ea l hll, eb l hll, ec l hll, ed l hll, el 159 l (by omega) (by omega) hll, el 160 l (by omega) (by omega) hll, el 161 l (by omega) (by omega) hll, el 162 l (by omega) (by omega) hll]
  refine ⟨⟨l1, l2, l3, l4, ⟨t, ?_, l6⟩, fun h => ?_⟩, m0, m1, m2, m3, fun i hi => ?_⟩
  · rw [pz_ty_congr _ _ _ (fun i h1 h2 => eo i (by omega))]; exact l5
  · rw [pz_ty_congr _ _ _ (fun i h1 h2 => eo i (by omega))]; exact l7 h
  · rw [eo i (by omega), ec2 163 i (by omega) (by omega) (by omega), ec2 164 i (by omega) (by omega) (by omega)]; exact mc i hi
theorem pt_W3k {s t : px_Z} (h : pz_W3 (pz_wo s) s) (h12 : ∀ i, t 12 i = s 12 i) (h13 : ∀ i, i < 8 → t 13 i = s 13 i) (h153 : ∀ i, t 154 i = s 154 i) (h166 : ∀ i, i < 8 → t 167 i = s 167 i) : pz_W3 (pz_wo t) t := by
  intro i hi
  show t 12 i = t 154 i ∧ t 13 i = t 167 i ∧ 0 ≤ t 167 i ∧ t 167 i < 256
  rw [h12 i, h13 i hi, h153 i, h166 i hi]
  exact h i hi
theorem pt_WLk {s t : px_Z} {j m c0 : Nat} (h : pz_WL j m (s c0 1) (s (c0 + 1)) (s (c0 + 2)) (s (c0 + 3)) (s (c0 + 4)) (s (c0 + 5)) s) (hc : ∀ c i, c0 ≤ c → c ≤ c0 + 5 → t c i = s c i) (e7 : t 158 j = s 158 j) (el : ∀ q l, 159 ≤ q → q ≤ 162 → l < 16 → t q (16 * j + l) = s q (16 * j + l)) (ec2 : ∀ q i, 163 ≤ q → q ≤ 164 → i < 400 → t q (400 * j + i) = s q (400 * j + i)) : pz_WL j m (t c0 1) (t (c0 + 1)) (t (c0 + 2)) (t (c0 + 3)) (t (c0 + 4)) (t (c0 + 5)) t := by
  rw [hc c0 1 (by omega) (by omega)]
  exact pt_WLc (fun i _ => hc (c0 + 1) i (by omega) (by omega)) (fun i _ => hc (c0 + 2) i (by omega) (by omega)) (fun i _ => hc (c0 + 3) i (by omega) (by omega)) (fun i _ => hc (c0 + 4) i (by omega) (by omega)) (fun i _ => hc (c0 + 5) i (by omega) (by omega)) e7 el ec2 h
theorem pt_W4k {s t : px_Z} (h : pz_W4 (pz_wo s) s) (hc : ∀ c i, 14 ≤ c → c ≤ 26 → t c i = s c i) (e7 : ∀ j, t 158 j = s 158 j) (el : ∀ q l, 159 ≤ q → q ≤ 162 → l < 32 → t q l = s q l) (ec2 : ∀ q i, 163 ≤ q → q ≤ 164 → i < 800 → t q i = s q i) : pz_W4 (pz_wo t) t := by
  obtain ⟨⟨m0, a1, a2⟩, ⟨m1, b1, b2⟩⟩ := h
  refine ⟨⟨m0, (hc 14 0 (by omega) (by omega)).trans a1, ?_⟩, ⟨m1, (hc 21 0 (by omega) (by omega)).trans b1, ?_⟩⟩
  · exact pt_WLk (c0 := 14) a2 (fun c i q1 q2 => hc c i (by omega) (by omega)) (e7 0) (fun q l q1 q2 q3 => el q _ q1 q2 (by omega)) (fun q i q1 q2 q3 => ec2 q _ q1 q2 (by omega))
  · exact pt_WLk (c0 := 21) b2 (fun c i q1 q2 => hc c i (by omega) (by omega)) (e7 1) (fun q l q1 q2 q3 => el q _ q1 q2 (by omega)) (fun q i q1 q2 q3 => ec2 q _ q1 q2 (by omega))
theorem pt_W5k {s t : px_Z} (h : pz_W5 (pz_wo s) s) (hc : ∀ c i, 28 ≤ c → c ≤ 33 → t c i = s c i) (e : t 150 35 = s 150 35) (e2 : ∀ i, i < 120 → t 166 i = s 166 i) : pz_W5 (pz_wo t) t := pz_W5_congr (fun c i _ q1 q2 => hc (6 + c) i (by omega) (by omega)) e e2 h
theorem pt_W6k {n : Nat} {s t : px_Z} (h : pz_W6 n (pz_wo s) s) (hc : ∀ c i, 34 ≤ c → c ≤ 37 → t c i = s c i) (e : t 150 43 = s 150 43) (e2 : ∀ i, i < 180 → t 171 i = s 171 i) : pz_W6 n (pz_wo t) t := pz_W6_congr (fun c i _ q1 q2 => hc (6 + c) i (by omega) (by omega)) e e2 h
/-- cells that neither the beginning nor a reading of the reference touches -/
def pt_uw (c j : Nat) : Prop := ¬ (c = 150 ∧ (j = 0 ∨ (14 ≤ j ∧ j ≤ 17) ∨ (26 ≤ j ∧ j ≤ 28) ∨ (30 ≤ j ∧ j ≤ 34) ∨ j = 42)) ∧ ¬ (159 ≤ c ∧ c ≤ 162 ∧ 32 ≤ j) ∧ ¬ ((c = 163 ∨ c = 164) ∧ 800 ≤ j) ∧ ¬ (c = 166 ∧ 120 ≤ j) ∧ ¬ (c = 167 ∧ 8 ≤ j) ∧ ¬ (c = 171 ∧ 180 ≤ j) ∧ ¬ (c = 165 ∨ c = 168 ∨ c = 169 ∨ c = 170 ∨ c = 172 ∨ c = 173)
/-- cells that the splitting and a reading of the class leave -/
def pt_uv (c j : Nat) : Prop := ¬ (c = 5 ∧ j = 5) ∧ ¬ (121 ≤ c ∧ c ≤ 142)
/-- what is owed when a text of kind k was read without a fault -/
def pt_TK (s : px_Z) (k : Int) (RE : Nat → px_Z → px_Z → Int → Prop) : Prop := ∀ (n : Nat) (v w1 : px_Z) (r1 : Int), pz_W n (pz_wo s) s → pz_U n s → pz_M s → pz_T s → pz_X s → (∀ c j, pt_uv c j → v c j = s c j) → v 5 5 = 0 → v 121 7 = 0 → v 121 8 = -1 → RE n v w1 r1 → ∃ y, f_R_takeText v k = some (r1, y) ∧ (∀ c j, 150 ≤ c → y c j = s c j) ∧ (∀ c j, (c = 120 ∨ (121 ≤ c ∧ c ≤ 142)) → y c j = v c j) ∧ ∀ w r, RE n v w r → r ≠ -1 → w 150 33 = 0 → w 150 34 = -1 → w 150 26 = k → (∀ c j, pt_uw c j → w c j = y c j) → ∃ t, j_M_text_j41 w k r = some (r1, t) ∧ pz_I t
set_option maxHeartbeats 2000000 in
theorem pt_glue {s : px_Z} {k : Int} {RD : px_Z → Option px_Z} {MD : px_Z → Option (Int × px_Z)} {RE : Nat → px_Z → px_Z → Int → Prop} (hI : pz_I s) (hRP : pt_RP k RD MD RE) (hR : f_R_text s k = (f_Reader_split s (s 5 5) (s 6 1)).bind (fun q1 => (RD (px_up q1 5 5 0)).bind (fun q3 => if (q3 121 7) = (0) then (f_R_takeText q3 k).bind (fun q5 => some (q5.1, q5.2)) else some (((-1), q3))))) (hM : ∀ y, f_M_text y k = (f_M_reads (px_up (px_up (px_up (px_up (px_up (px_up (px_up y 150 0 0) 150 33 0) 150 34 (-1)) 150 14 0) 150 27 0) 150 28 0) 150 26 k)).bind (fun q1 => (MD q1).bind (fun q6 => if (q6.1) = ((-1)) then j_M_text_j41 (px_up (px_up q6.2 150 33 (q6.2 150 31)) 150 34 ((px_up q6.2 150 33 (q6.2 150 31)) 150 32)) k q6.1 else j_M_text_j41 q6.2 k q6.1))) (hTK : pt_TK s k RE) : pz_op (f_R_text s k) (fun u => f_M_text u k) := by
  obtain ⟨n, hW, hU, hMM, hT, hX, hC⟩ := hI
  obtain ⟨L, hL⟩ : ∃ L : Nat, s 150 13 = (L : Int) := ⟨(s 150 13).toNat, by have := hT.2.1; omega⟩
  have hL4 : L ≤ 400 := by have := hT.2.2.1; omega
  have e55 : s 5 5 = (L : Int) := hT.1.trans hL
  have e61 : s 6 1 = (n : Int) := hW.2.1.1
  have hn8 : n ≤ 8 := hW.1
  obtain ⟨u0, T, p1, p2, p3, p4, p5, p6, p7⟩ := pt_split (s := s) (L := L) (b := s 156) (fun q hq => (hT.2.2.2 q hq).1) (fun q hq => (hT.2.2.2 q hq).2) hL4 (s 6 1)
  have hA : pt_A (px_up u0 5 5 0) (s 156) L T 0 := by
    refine pt_A_up ⟨p2, p3, Nat.zero_le _, hL4, fun _ => p6⟩ (by omega) (by omega)
  have u7 : px_up u0 5 5 0 121 7 = 0 := (pt_upn (by omega)).trans p5
  have u5 : px_up u0 5 5 0 121 5 = (n : Int) := (pt_upn (by omega)).trans (p4.trans e61)
  have begin_ : ∀ y : px_Z, (∀ c j, 150 ≤ c → y c j = s c j) → ∃ z, f_M_reads (px_up (px_up (px_up (px_up (px_up (px_up (px_up y 150 0 0) 150 33 0) 150 34 (-1)) 150 14 0) 150 27 0) 150 28 0) 150 26 k) = some z ∧ pt_B z (s 156) L (pt_st (s 156) L 0) ∧ z 150 26 = k ∧ z 150 27 = 0 ∧ z 150 28 = 0 ∧ z 150 33 = 0 ∧ z 150 34 = -1 ∧ z 150 6 = (n : Int) ∧ (∀ c j, ¬ (c = 150 ∧ (j = 0 ∨ (14 ≤ j ∧ j ≤ 17) ∨ (26 ≤ j ∧ j ≤ 28) ∨ j = 33 ∨ j = 34)) → z c j = y c j) := by
    intro y hy
    obtain ⟨z, b1, b2, b3, b4, b5, b6, b7, b8⟩ := pt_begin (y := y) (b := s 156) hL4 ((hy 150 13 (by omega)).trans hL) (funext fun j => hy 156 j (by omega)) (fun q hq => (hT.2.2.2 q hq).2.1) (fun q hq => (hy 157 q (by omega)).trans (hX.2.2.2 q hq)) k
    exact ⟨z, b1, b2, b3, b4, b5, b6, b7, (b8 150 6 (by omega)).trans ((hy 150 6 (by omega)).trans hW.2.1.2.1), b8⟩
  obtain ⟨z1, -, c2, c3, c4, c5, -, -, c8, -⟩ := begin_ s (fun _ _ _ => rfl)
  obtain ⟨v, w1, r1, d1, -, d3, -, d5⟩ := hRP (s 156) L T n (px_up u0 5 5 0) z1 hn8 hA c2 u7 u5 c8 c3 c4 c5
  have vs : ∀ c j, pt_uv c j → v c j = s c j := by
    intro c j h
    unfold pt_uv at h
    rw [d3 c j (by omega) (by omega), pt_upn (by omega), p7 c j (by omega) (by omega)]
  have v55 : v 5 5 = 0 := by rw [d3 5 5 (by omega) (by omega), pt_upi]
  rw [hR, e55, p1, Option.bind_some, d1, Option.bind_some]
  rcases d5 with ⟨⟨f1, f2⟩, f3, f4⟩ | ⟨f1, f2, f3, f4⟩
  · rw [if_pos f1]
    obtain ⟨y, g1, g2, g3, g4⟩ := hTK n v w1 r1 hW hU hMM hT hX vs v55 f1 f2 f4
    rw [g1, Option.bind_some]
    obtain ⟨z2, k1, k2, k3, k4, k5, k6, k7, k8, k9⟩ := begin_ y g2
    obtain ⟨v', w, r, m1, m2, m3, m4, m5⟩ := hRP (s 156) L T n (px_up u0 5 5 0) z2 hn8 hA k2 u7 u5 k8 k3 k4 k5
    have ev : v = v' := by rw [d1] at m1; injection m1
    subst ev
    rcases m5 with ⟨_, q3, q4⟩ | ⟨q1, _⟩
    · obtain ⟨t, t1, t2⟩ := g4 w r q4 q3 ((m4 150 33 (by omega) (by omega) (by omega) (by omega) (by omega) (by omega) (by omega)).trans k6) ((m4 150 34 (by omega) (by omega) (by omega) (by omega) (by omega) (by omega) (by omega)).trans k7) ((m4 150 26 (by omega) (by omega) (by omega) (by omega) (by omega) (by omega) (by omega)).trans k3) (fun c j h => by unfold pt_uw at h; rw [m4 c j (by omega) (by omega) (by omega) (by omega) (by omega) (by omega) (by omega), k9 c j (by omega)])
      refine ⟨r1, y, t, rfl, ?_, t2⟩
      show f_M_text y k = some (r1, t)
      rw [hM, k1, Option.bind_some, m2, Option.bind_some]
      dsimp only
      rw [if_neg q3, t1]
    · exact absurd f1 q1
  · rw [if_neg f1]
    obtain ⟨z2, k1, k2, k3, k4, k5, k6, k7, k8, k9⟩ := begin_ v (fun c j h => vs c j (by unfold pt_uv; omega))
    obtain ⟨v', w, r, m1, m2, m3, m4, m5⟩ := hRP (s 156) L T n (px_up u0 5 5 0) z2 hn8 hA k2 u7 u5 k8 k3 k4 k5
    have ev : v = v' := by rw [d1] at m1; injection m1
    subst ev
    rcases m5 with ⟨⟨q1, _⟩, _⟩ | ⟨q1, q2, q3, q4⟩
    · exact absurd q1 f1
    · refine ⟨-1, v, px_up (px_up (px_up w 150 33 (w 150 31)) 150 34 (w 150 32)) 150 13 0, rfl, ?_, ?_⟩
      · show f_M_text v k = _
        rw [hM, k1, Option.bind_some, m2, Option.bind_some]
        dsimp only
        rw [if_pos q2, q2]
        unfold j_M_text_j41
        rw [if_pos rfl, pt_upn (by omega)]
      · have G0 : ∀ c j, pt_uw c j → ¬ (c = 150 ∧ j = 13) → px_up (px_up (px_up w 150 33 (w 150 31)) 150 34 (w 150 32)) 150 13 0 c j = v c j := by
          intro c j h h'
          unfold pt_uw at h
          rw [pt_upn (by omega), pt_upn (by omega), pt_upn (by omega), m4 c j (by omega) (by omega) (by omega) (by omega) (by omega) (by omega) (by omega), k9 c j (by omega)]
        have G : ∀ c j, pt_uw c j → pt_uv c j → ¬ (c = 150 ∧ j = 13) → px_up (px_up (px_up w 150 33 (w 150 31)) 150 34 (w 150 32)) 150 13 0 c j = s c j := fun c j h1 h2 h3 => (G0 c j h1 h3).trans (vs c j h2)
        obtain ⟨hn, w1', wF, w3, w4, w5, w6, w7, w8⟩ := hW
        refine pt_fin ⟨hn, w1', wF, w3, w4, w5, w6, w7, w8⟩ hMM hT hX (fun c j h => G c j (by unfold pt_un at h; unfold pt_uw; omega) (by unfold pt_un at h; unfold pt_uv; omega) (by unfold pt_un at h; omega)) ?_ (pt_W3k w3 (fun i => G 12 i (by unfold pt_uw; omega) (by unfold pt_uv; omega) (by omega)) (fun i hi => G 13 i (by unfold pt_uw; omega) (by unfold pt_uv; omega) (by omega)) (fun i => G 154 i (by unfold pt_uw; omega) (by unfold pt_uv; omega) (by omega)) (fun i hi => G 167 i (by unfold pt_uw; omega) (by unfold pt_uv; omega) (by omega))) (pt_W4k w4 (fun c i q1 q2 => G c i (by unfold pt_uw; omega) (by unfold pt_uv; omega) (by omega)) (fun j => G 158 j (by unfold pt_uw; omega) (by unfold pt_uv; omega) (by omega)) (fun c i q1 q2 q3 => G c i (by unfold pt_uw; omega) (by unfold pt_uv; omega) (by omega)) (fun c i q1 q2 q3 => G c i (by unfold pt_uw; omega) (by unfold pt_uv; omega) (by omega))) (pt_W5k w5 (fun c i q1 q2 => G c i (by unfold pt_uw; omega) (by unfold pt_uv; omega) (by omega)) (G 150 35 (by unfold pt_uw; omega) (by unfold pt_uv; omega) (by omega)) (fun i hi => G 166 i (by unfold pt_uw; omega) (by unfold pt_uv; omega) (by omega))) (pt_W6k w6 (fun c i q1 q2 => G c i (by unfold pt_uw; omega) (by unfold pt_uv; omega) (by omega)) (G 150 43 (by unfold pt_uw; omega) (by unfold pt_uv; omega) (by omega)) (fun i hi => G 171 i (by unfold pt_uw; omega) (by unfold pt_uv; omega) (by omega))) (pz_U_ek hU (fun c i hk => G c i (by unfold pz_kU at hk; simp only [Bool.or_eq_true, Bool.and_eq_true, beq_iff_eq, decide_eq_true_eq] at hk; unfold pt_uw; omega) (by unfold pz_kU at hk; simp only [Bool.or_eq_true, Bool.and_eq_true, beq_iff_eq, decide_eq_true_eq] at hk; unfold pt_uv; omega) (by unfold pz_kU at hk; simp only [Bool.or_eq_true, Bool.and_eq_true, beq_iff_eq, decide_eq_true_eq] at hk; omega))) ?_ pt_upi ?_ ?_ (pz_C_ek hC (fun c i hk => G c i (by unfold pz_kC at hk; simp only [Bool.or_eq_true, Bool.and_eq_true, beq_iff_eq] at hk; unfold pt_uw; omega) (by unfold pz_kC at hk; simp only [Bool.or_eq_true, Bool.and_eq_true, beq_iff_eq] at hk; unfold pt_uv; omega) (by unfold pz_kC at hk; simp only [Bool.or_eq_true, Bool.and_eq_true, beq_iff_eq] at hk; omega)))
        · rw [G 6 7 (by unfold pt_uw; omega) (by unfold pt_uv; omega) (by omega), G 150 37 (by unfold pt_uw; omega) (by unfold pt_uv; omega) (by omega)]
          exact w1'.2.2.2.2.2.2.2.2
        · exact (G0 5 5 (by unfold pt_uw; omega) (by omega)).trans v55
        · rw [G0 121 7 (by unfold pt_uw; omega) (by omega), pt_upn (by omega), pt_upn (by omega), pt_upi, q3]
        · rw [G0 121 8 (by unfold pt_uw; omega) (by omega), pt_upn (by omega), pt_upi, q4]
