/-! TEXT: what is compared; what waits -/
def pt_cm (s : px_Z) : Option px_Z := (f_Reader_readSum s).bind (fun q6 => if 0 ≤ (q6 121 4) ∧ (q6 121 4) < 401 then if (q6 121 7) = (0) then (if (q6 122 (q6 121 4).toNat) = (60) then (f_Reader_step q6).bind (fun q11 => (f_Reader_readSum q11).bind (fun q12 => (f_Law_put q12 (q6 122 (q6 121 4).toNat)).bind (fun q13 => some q13))) else (if (q6 122 (q6 121 4).toNat) = (61) then (f_Reader_step q6).bind (fun q15 => (f_Reader_readSum q15).bind (fun q16 => (f_Law_put q16 (q6 122 (q6 121 4).toNat)).bind (fun q17 => some q17))) else (if (q6 122 (q6 121 4).toNat) = (62) then (f_Reader_step q6).bind (fun q20 => (f_Reader_readSum q20).bind (fun q21 => (f_Law_put q21 (q6 122 (q6 121 4).toNat)).bind (fun q22 => some q22))) else (f_Reader_fail q6 1).bind (fun q19 => some q19)))) else (f_Reader_fail q6 1).bind (fun q9 => some q9) else none)
/-- the parts of a condition -/
theorem pt_gN {s : px_Z} {n : Nat} {x1 : Int} (g1 : 0 ≤ s 121 4 ∧ s 121 4 < 401) (h : s 122 (s 121 4).toNat = 272) (hx : x1 < 8) : g_0 (n + 1) 1 s x1 = (f_Reader_step s).bind (fun q52 => (g_0 n 1 q52 (px_wr (x1 + 1))).bind (fun q53 => (f_Law_put q53 272).bind (fun q54 => some q54))) := by
  rw [g_0, if_pos g1, if_pos h, if_neg (show ¬ (1 : Nat) = 0 by decide), if_pos hx, if_pos h]
theorem pt_gP {s : px_Z} {n : Nat} {x1 : Int} (g1 : 0 ≤ s 121 4 ∧ s 121 4 < 401) (h : s 122 (s 121 4).toNat = 40) (hx : x1 < 8) : g_0 (n + 1) 1 s x1 = (f_Reader_step s).bind (fun q156 => (g_0 n 0 q156 (px_wr (x1 + 1))).bind (fun q157 => (f_Reader_expect q157 41).bind (fun q158 => some q158))) := by
  have h2 : ¬ s 122 (s 121 4).toNat = 272 := by omega
  rw [g_0, if_pos g1, if_neg h2, if_pos h, if_neg (show ¬ (1 : Nat) = 0 by decide), if_pos hx, if_neg h2, if_pos h]
theorem pt_g8 {s : px_Z} {n : Nat} {x1 : Int} (g1 : 0 ≤ s 121 4 ∧ s 121 4 < 401) (h : s 122 (s 121 4).toNat = 40 ∨ s 122 (s 121 4).toNat = 272) (hx : ¬ x1 < 8) : g_0 (n + 1) 1 s x1 = (f_Reader_fail s 3).bind (fun q55 => some q55) := by
  rcases h with h | h
  · have h2 : ¬ s 122 (s 121 4).toNat = 272 := by omega
    rw [g_0, if_pos g1, if_neg h2, if_pos h, if_neg (show ¬ (1 : Nat) = 0 by decide), if_neg hx]
  · rw [g_0, if_pos g1, if_pos h, if_neg (show ¬ (1 : Nat) = 0 by decide), if_neg hx]
theorem pt_gC {s : px_Z} {n : Nat} {x1 : Int} (g1 : 0 ≤ s 121 4 ∧ s 121 4 < 401) (h : ¬ s 122 (s 121 4).toNat = 40) (h2 : ¬ s 122 (s 121 4).toNat = 272) : g_0 (n + 1) 1 s x1 = pt_cm s := by
  rw [g_0, if_pos g1, if_neg h2, if_neg h, if_pos rfl, if_neg h2, if_neg h]
  rfl
theorem pt_t2c {c : Int} {x y : Nat} {ts : List Nat} (hc : c = 60 ∨ c = 61 ∨ c = 62) (hx : x ≠ 1) (hy : y ≠ 1) : pz_t1 c (y :: x :: ts) = some (1 :: ts) := by
  unfold pz_t1; rw [if_neg (by omega), if_neg (by omega), if_neg (by omega), pz_t2_c, if_neg (fun h => by omega), if_neg (fun h => by omega), if_pos ⟨hc, hx, hy⟩]
theorem pt_t2o {c : Int} {ts : List Nat} (hc : c = 270 ∨ c = 271) : pz_t1 c (1 :: 1 :: ts) = some (1 :: ts) := by
  unfold pz_t1; rw [if_neg (by omega), if_neg (by omega), if_neg (by omega), pz_t2_c, if_neg (fun h => by omega), if_neg (fun h => by omega), if_neg (fun h => by omega), if_pos ⟨hc, rfl, rfl⟩]
theorem pt_t2n {ts : List Nat} : pz_t1 272 (1 :: ts) = some (1 :: ts) := by
  unfold pz_t1; rw [if_neg (by omega), if_neg (by omega), if_pos rfl, pz_tn_c, if_pos rfl]
/-- a sign under the reference's hand -/
theorem pt_sgV {z : px_Z} {b : Nat → Int} {L i : Nat} (hB : pt_B z b L i) {c : Int} (hc : pt_sg c = true) (h : pt_ck b L i = c) : z 150 17 = c := by
  have hcr : c = 59 ∨ c = 43 ∨ c = 45 ∨ c = 42 ∨ c = 47 ∨ c = 40 ∨ c = 41 ∨ c = 60 ∨ c = 61 ∨ c = 62 := of_decide_eq_true hc
  obtain ⟨h1, h2, h3, h4, h5, h6, h7, h8, h9, h10⟩ := hB
  rcases pt_kinds b h6 with ⟨k1, k2, k3⟩ | ⟨ki, k1, k2⟩ | ⟨ki, k1, k2⟩ | ⟨ki, k1, k2, k3⟩ | ⟨j', ki, kj, k1, k2, k3⟩
  · omega
  · omega
  · omega
  · rw [h10 ki, k3, h]
  · omega
theorem pt_isS1 {z : px_Z} {b : Nat → Int} {L i : Nat} (hB : pt_B z b L i) {c : Int} (hc : pt_sg c = true) (h : pt_ck b L i = c) : f_M_isSign z c = 1 := by rw [pt_isSg hB hc, if_pos h]
theorem pt_isS0 {z : px_Z} {b : Nat → Int} {L i : Nat} (hB : pt_B z b L i) {c : Int} (hc : pt_sg c = true) (h : pt_ck b L i ≠ c) : f_M_isSign z c = 0 := by rw [pt_isSg hB hc, if_neg h]
set_option maxHeartbeats 1000000 in
theorem pt_cmp {b : Nat → Int} {L T k0 e t m : Nat} {ts : List Nat} {u z : px_Z} (hS : pt_S b L T k0 t m ts u z) (hP : pt_P u z) (hl : ts.length + 3 < 32) (he : 1 ≤ e) (hme : m + e ≤ t) : ∃ v w r, pt_cm u = some v ∧ f_M_readCompared z = some (r, w) ∧ pt_fl m u v ∧ pt_gs z w ∧ ((r = 0 ∧ ∃ t' m', t < t' ∧ m < m' ∧ m' + e ≤ t' ∧ pt_S b L T k0 t' m' (1 :: ts) v w) ∨ (r = -1 ∧ pt_X b L T m v w)) := by
  obtain ⟨v1, w1, r1, a1, a2, a3, a4, a5⟩ := pt_sum hS hP (by omega) he hme
  unfold pt_cm f_M_readCompared
  rw [a1, a2, Option.bind_some, Option.bind_some]
  dsimp only
  rcases a5 with ⟨rfl, t1, m1, k1, hk1, ht1, hm1, hme1, hS1⟩ | ⟨rfl, hX⟩
  · obtain ⟨g1, g2, g3, g4⟩ := pt_A_tok hS1.1
    obtain ⟨htT, hT⟩ := pt_T4 hS1.1
    have P1 := pt_Pfr hP a3 a4
    rw [if_neg pt_0n1, if_pos g1, if_pos hS1.2.2.1, g2]
    have cmp : ∀ (c o : Int), (c = 60 ∧ o = 6 ∨ c = 61 ∧ o = 7 ∨ c = 62 ∧ o = 8) → pt_ck b L (pt_st b L t1) = c → ∃ v w r, (f_Reader_step v1).bind (fun q11 => (f_Reader_readSum q11).bind (fun q12 => (f_Law_put q12 c).bind (fun q13 => some q13))) = some v ∧ j_M_readCompared_j35 w1 o = some (r, w) ∧ pt_fl m u v ∧ pt_gs z w ∧ ((r = 0 ∧ ∃ t' m', t < t' ∧ m < m' ∧ m' + e ≤ t' ∧ pt_S b L T k0 t' m' (1 :: ts) v w) ∨ (r = -1 ∧ pt_X b L T m v w)) := by
      intro c o hco hc
      have hcr : pz_cr c o 0 := by
        rcases hco with ⟨q1, q2⟩ | ⟨q1, q2⟩ | ⟨q1, q2⟩
        · subst q1; subst q2; exact Or.inr (Or.inr (Or.inr (Or.inr (Or.inr (Or.inr (Or.inl ⟨rfl, rfl⟩))))))
        · subst q1; subst q2; exact Or.inr (Or.inr (Or.inr (Or.inr (Or.inr (Or.inr (Or.inr (Or.inl ⟨rfl, rfl⟩)))))))
        · subst q1; subst q2; exact Or.inr (Or.inr (Or.inr (Or.inr (Or.inr (Or.inr (Or.inr (Or.inr (Or.inl ⟨rfl, rfl⟩))))))))
      have ht := pt_A_end hS1.1 (by rw [hc]; omega)
      obtain ⟨v2, w2, b1, b2, b3, b4, b5⟩ := pt_go hS1 ht
      have f2 : pt_fl m u v2 := pt_flT a3 (pt_flA b4) (Nat.le_refl m)
      have g2 : pt_gs z w2 := pt_gsT a4 (pt_gsB b5)
      obtain ⟨v3, w3, r3, c1, c2, c3, c4, c5⟩ := pt_sum (e := e + 1) b3 (pt_Pfr hP f2 g2) (by rw [List.length_cons]; omega) (by omega) (by omega)
      unfold j_M_readCompared_j35
      rw [b1, b2, Option.bind_some, Option.bind_some, c1, c2, Option.bind_some, Option.bind_some]
      dsimp only
      have f3 : pt_fl m u v3 := pt_flT f2 c3 (by omega)
      have g3 : pt_gs z w3 := pt_gsT g2 c4
      rcases c5 with ⟨rfl, t3, m3, k3, hk3, ht3, hm3, hme3, hS3⟩ | ⟨rfl, hX⟩
      · obtain ⟨htT3, _⟩ := pt_T4 hS3.1
        obtain ⟨v4, w4, d1, d2, d3, d4, d5⟩ := pt_pe2 (x := c) (o := o) (a := 0) hS3 (by omega) hcr (pt_t2c (by omega) hk1 hk3) (fun _ => by omega)
        rw [if_neg pt_0n1, d1, d2, Option.bind_some, Option.bind_some]
        exact ⟨v4, w4, 0, rfl, rfl, pt_flT f3 d4 (by omega), pt_gsT g3 d5, Or.inl ⟨rfl, t3, m3 + 1, by omega, by omega, by omega, d3⟩⟩
      · obtain ⟨v4, d1, d2, d3⟩ := pt_putX hX c
        rw [if_pos rfl, d1, Option.bind_some]
        exact ⟨v4, w3, -1, rfl, rfl, pt_flT f3 d3 (by omega), g3, Or.inr ⟨rfl, pt_Xmo d2 (by omega)⟩⟩
    by_cases h60 : pt_ck b L (pt_st b L t1) = 60
    · rw [if_pos h60, pt_isS1 hS1.2.1 (c := 60) rfl h60, if_neg pt_1n0, h60]
      unfold j_M_readCompared_j22
      rw [if_pos (pt_sgV hS1.2.1 (c := 60) rfl h60)]
      exact cmp 60 6 (Or.inl ⟨rfl, rfl⟩) h60
    · rw [if_neg h60, pt_isS0 hS1.2.1 (c := 60) rfl h60, if_pos rfl]
      by_cases h61 : pt_ck b L (pt_st b L t1) = 61
      · rw [if_pos h61, pt_isS1 hS1.2.1 (c := 61) rfl h61, if_neg pt_1n0, h61]
        unfold j_M_readCompared_j22
        have ev := pt_sgV hS1.2.1 (c := 61) rfl h61
        rw [if_neg (show ¬ w1 150 17 = 60 by omega), if_pos ev]
        exact cmp 61 7 (Or.inr (Or.inl ⟨rfl, rfl⟩)) h61
      · rw [if_neg h61, pt_isS0 hS1.2.1 (c := 61) rfl h61, if_pos rfl]
        by_cases h62 : pt_ck b L (pt_st b L t1) = 62
        · rw [if_pos h62, pt_isS1 hS1.2.1 (c := 62) rfl h62, if_neg pt_1n0, h62]
          unfold j_M_readCompared_j22
          have ev := pt_sgV hS1.2.1 (c := 62) rfl h62
          rw [if_neg (show ¬ w1 150 17 = 60 by omega), if_neg (show ¬ w1 150 17 = 61 by omega)]
          exact cmp 62 8 (Or.inr (Or.inr ⟨rfl, rfl⟩)) h62
        · rw [if_neg h62, pt_isS0 hS1.2.1 (c := 62) rfl h62, if_pos rfl]
          obtain ⟨v2, w2, b1, b2, b3, b4, b5⟩ := pt_no hS1 (k := 1) (by decide)
          rw [b1, b2, Option.bind_some, Option.bind_some]
          exact ⟨v2, w2, -1, rfl, rfl, pt_flT a3 (pt_flA b4) (Nat.le_refl m), pt_gsT a4 (pt_gsB b5), Or.inr ⟨rfl, pt_Xmo b3 (by omega)⟩⟩
  · obtain ⟨tx, hxA⟩ := hX.2.1
    obtain ⟨g1, g2, g3, g4⟩ := pt_A_tok hxA
    rw [if_pos rfl, if_pos g1, if_neg hX.1, pt_fail2 hX.1, Option.bind_some]
    exact ⟨v1, w1, -1, rfl, rfl, a3, a4, Or.inr ⟨rfl, hX⟩⟩
/-- k times NOT -/
def pt_nots : Nat → px_Z → Option px_Z
  | 0, v => some v
  | k + 1, v => (f_Law_put v 272).bind (pt_nots k)
/-- what a condition may change in the reference -/
def pt_gc (z w : px_Z) : Prop := ∀ c j, ¬ (c = 150 ∧ ((14 ≤ j ∧ j ≤ 17) ∨ j = 27 ∨ j = 28 ∨ j = 30 ∨ j = 31 ∨ j = 32)) → ¬ ((c = 163 ∨ c = 164) ∧ 800 ≤ j) → c ≠ 165 → w c j = z c j
theorem pt_gcR (z : px_Z) : pt_gc z z := fun _ _ _ _ _ => rfl
theorem pt_gcT {u v w : px_Z} (h1 : pt_gc u v) (h2 : pt_gc v w) : pt_gc u w := fun c j g1 g2 g3 => (h2 c j g1 g2 g3).trans (h1 c j g1 g2 g3)
theorem pt_gcS {u v : px_Z} (h : pt_gs u v) : pt_gc u v := fun c j g1 g2 _ => h c j (by omega) g2
theorem pt_gcB {u v : px_Z} (h : pt_fb u v) : pt_gc u v := fun c j g1 _ _ => h c j (by omega)
theorem pt_Pfc {m : Nat} {u z v w : px_Z} (h : pt_P u z) (h1 : pt_fl m u v) (h2 : pt_gc z w) : pt_P v w := by
  unfold pt_P
  rw [h1 121 6 (by omega) (by omega) (by omega), h2 150 26 (by omega) (by omega) (by omega)]
  exact h
/-- cells that settling touches -/
def pt_ge (z w : px_Z) : Prop := ∀ c j, ¬ (c = 150 ∧ (j = 27 ∨ j = 28 ∨ j = 30)) → ¬ ((c = 163 ∨ c = 164) ∧ 800 ≤ j) → w c j = z c j
theorem pt_geB {z w : px_Z} {b : Nat → Int} {L i : Nat} (hB : pt_B z b L i) (h : pt_ge z w) : pt_B w b L i := pt_B_of hB (fun j g1 g2 => h 150 j (by omega) (by omega)) (fun j => h 156 j (by omega) (by omega)) (fun j => h 157 j (by omega) (by omega))
theorem pt_gec {z w : px_Z} (h : pt_ge z w) : pt_gc z w := fun c j g1 g2 _ => h c j (by omega) g2
/-- cells that putting touches -/
def pt_fp (m : Nat) (u v : px_Z) : Prop := ∀ c j, ¬ (c = 125 ∧ j = 1) → ¬ (c = 130 ∧ m ≤ j) → v c j = u c j
theorem pt_fpl {m : Nat} {u v : px_Z} (h : pt_fp m u v) : pt_fl m u v := fun c j _ g2 g3 => h c j g2 g3
theorem pt_fpA {m : Nat} {u v : px_Z} {b : Nat → Int} {L T t : Nat} (hA : pt_A u b L T t) (h : pt_fp m u v) : pt_A v b L T t := pt_A_of hA (fun j hj => h 121 j (by omega) (by omega)) (fun c j g1 g2 => h c j (by omega) (by omega))
theorem pt_wm1 {p : Nat} (h : p < 1000) : px_wr (((p + 1 : Nat) : Int) - 1) = (p : Int) := by rw [pz_wr_id (by omega) (by omega)]; omega
theorem pt_sett0 {z : px_Z} {p : Nat} {c : Int} (hp : z 150 30 = (p : Int)) (hp4 : p ≤ 40) (h : ∀ q, p = q + 1 → z 165 q ≠ c) (n : Nat) : l_M_settles_0 (n + 1) z c = some z := by
  rw [l_M_settles_0, hp]
  cases p with
  | zero => rw [if_pos (by decide)]
  | succ q => rw [if_neg (by omega), pt_wm1 (by omega), if_pos ⟨Int.natCast_nonneg _, by omega⟩, Int.toNat_natCast, if_neg (h q rfl)]
/-- the NOTs on top are settled -/
theorem pt_settN {k0 p : Nat} {ts : List Nat} : ∀ (k n m o : Nat) (u z : px_Z), k < n → pt_Q k0 m (1 :: ts) u z → z 150 30 = ((p + k : Nat) : Int) → p + k ≤ 40 → (∀ i, p ≤ i → i < p + k → z 165 i = 9) → (∀ q, p = q + 1 → z 165 q ≠ 9) → z 150 28 = (o : Int) → k ≤ o → o ≤ 8 → m + k ≤ 400 → ∃ u' w, pt_nots k u = some u' ∧ l_M_settles_0 n z 9 = some w ∧ pt_Q k0 (m + k) (1 :: ts) u' w ∧ w 150 30 = (p : Int) ∧ w 150 28 = ((o - k : Nat) : Int) ∧ pt_fp m u u' ∧ pt_ge z w := by
  intro k
  induction k with
  | zero =>
    intro n m o u z hn hQ hp hp4 h9 hb ho hko ho8 hm
    obtain ⟨n, rfl⟩ : ∃ q, n = q + 1 := ⟨n - 1, by omega⟩
    exact ⟨u, z, rfl, pt_sett0 hp hp4 hb n, hQ, hp, ho, fun _ _ _ _ => rfl, fun _ _ _ _ => rfl⟩
  | succ k ih =>
    intro n m o u z hn hQ hp hp4 h9 hb ho hko ho8 hm
    obtain ⟨n, rfl⟩ : ∃ q, n = q + 1 := ⟨n - 1, by omega⟩
    obtain ⟨v1, a1, a2, a3, a4⟩ := pt_put hQ.1 (by omega) 272
    obtain ⟨w1, b1, b2, b3, b4, b5⟩ := pt_emit (z := px_up z 150 30 ((p + k : Nat) : Int)) (m := m) (by rw [pt_upn (by omega)]; exact hQ.2.1) (by omega) 9 0
    have e28 : w1 150 28 = (o : Int) := by rw [b5 150 28 (by omega) (by omega), pt_upn (by omega)]; exact ho
    have w28 : px_wr ((o : Int) - 1) = ((o - 1 : Nat) : Int) := by rw [pz_wr_id (by omega) (by omega)]; omega
    have hp' : z 150 30 = ((p + k + 1 : Nat) : Int) := hp
    have tq : pt_Q k0 (m + 1) (1 :: ts) v1 (px_up w1 150 28 ((o - 1 : Nat) : Int)) := by
      have q0 : pt_Q k0 m (1 :: ts) u (px_up z 150 30 ((p + k : Nat) : Int)) := by
        obtain ⟨c1, c2, c3, c4, c5⟩ := hQ
        refine ⟨c1, by rw [pt_upn (by omega)]; exact c2, c3, c4, fun i hi => ?_⟩
        rw [pt_upn (by omega), pt_upn (by omega), pt_upn (by omega)]
        exact c5 i hi
      obtain ⟨c1, c2, c3, c4, c5⟩ := pt_Qpe q0 a2 a3 a4 b2 b3 b4 b5 (Or.inr (Or.inr (Or.inr (Or.inr (Or.inr (Or.inr (Or.inr (Or.inr (Or.inr (Or.inl ⟨rfl, rfl⟩)))))))))) pt_t2n (fun _ => by decide)
      refine ⟨c1, by rw [pt_upn (by omega)]; exact c2, c3, c4, fun i hi => ?_⟩
      rw [pt_upn (by omega), pt_upn (by omega), pt_upn (by omega)]
      exact c5 i hi
    clear w28
    have s1 : ∀ c j, ¬ (c = 150 ∧ (j = 27 ∨ j = 28 ∨ j = 30)) → ¬ ((c = 163 ∨ c = 164) ∧ 800 ≤ j) → px_up w1 150 28 ((o - 1 : Nat) : Int) c j = z c j := fun c j g1 g2 => by rw [pt_upn (by omega), b5 c j (by omega) (by omega), pt_upn (by omega)]
    obtain ⟨u', w, i1, i2, i3, i4, i5, i6, i7⟩ := ih n (m + 1) (o - 1) v1 (px_up w1 150 28 ((o - 1 : Nat) : Int)) (by omega) tq (by rw [pt_upn (by omega), b5 150 30 (by omega) (by omega), pt_upi]) (by omega) (fun i g1 g2 => by rw [s1 165 i (by omega) (by omega)]; exact h9 i g1 (by omega)) (fun q hq => by rw [s1 165 q (by omega) (by omega)]; exact hb q hq) pt_upi (by omega) (by omega) (by omega)
    refine ⟨u', w, ?_, ?_, by rw [show m + (k + 1) = m + 1 + k by omega]; exact i3, i4, by rw [show o - (k + 1) = o - 1 - k by omega]; exact i5, fun c j g1 g2 => (i6 c j g1 (by omega)).trans (a4 c j g1 (by omega)), fun c j g1 g2 => (i7 c j g1 g2).trans (s1 c j g1 g2)⟩
    · rw [pt_nots, a1, Option.bind_some]; exact i1
    · rw [l_M_settles_0, hp', if_neg (by omega), pt_wm1 (by omega), if_pos ⟨Int.natCast_nonneg _, by omega⟩, Int.toNat_natCast, if_pos (h9 (p + k) (by omega) (by omega)), b1, Option.bind_some, if_pos rfl, e28, show px_wr ((o : Int) - 1) = ((o - 1 : Nat) : Int) by rw [pz_wr_id (by omega) (by omega)]; omega]
      exact i2
