/-! TEXT: conditions: the recursion beside the stack -/
theorem pt_wait {z : px_Z} {p : Nat} (h : z 150 30 = (p : Int)) (hp : p < 40) (c : Int) : ∃ w, f_M_waits z c = some w ∧ w 150 30 = ((p + 1 : Nat) : Int) ∧ w 165 p = c ∧ (∀ q j, ¬ (q = 150 ∧ j = 30) → ¬ (q = 165 ∧ j = p) → w q j = z q j) := by
  unfold f_M_waits
  rw [h, if_pos ⟨Int.natCast_nonneg _, by omega⟩, Int.toNat_natCast, pt_upn (by omega), h, pz_wr_suc (by omega)]
  exact ⟨_, rfl, pt_upi, by rw [pt_upn (by omega), pt_upi], fun q j g1 g2 => by rw [pt_upn g1, pt_upn g2]⟩
/-- AND or OR on top is settled -/
theorem pt_settO {k0 p m : Nat} {ts : List Nat} {u z : px_Z} {c x : Int} (hQ : pt_Q k0 m (1 :: 1 :: ts) u z) (hp : z 150 30 = ((p + 1 : Nat) : Int)) (hp4 : p + 1 ≤ 40) (htop : z 165 p = c) (hb : ∀ q, p = q + 1 → z 165 q ≠ c) (hcx : c = 10 ∧ x = 271 ∨ c = 11 ∧ x = 270) (hm : m < 400) : ∃ u' w, f_Law_put u x = some u' ∧ f_M_settles z c = some w ∧ pt_Q k0 (m + 1) (1 :: ts) u' w ∧ w 150 30 = (p : Int) ∧ w 150 28 = z 150 28 ∧ pt_fp m u u' ∧ pt_ge z w := by
  obtain ⟨v1, a1, a2, a3, a4⟩ := pt_put hQ.1 hm x
  obtain ⟨w1, b1, b2, b3, b4, b5⟩ := pt_emit (z := px_up z 150 30 (p : Int)) (m := m) (by rw [pt_upn (by omega)]; exact hQ.2.1) hm c 0
  have q0 : pt_Q k0 m (1 :: 1 :: ts) u (px_up z 150 30 (p : Int)) := by
    obtain ⟨c1, c2, c3, c4, c5⟩ := hQ
    refine ⟨c1, by rw [pt_upn (by omega)]; exact c2, c3, c4, fun i hi => ?_⟩
    rw [pt_upn (by omega), pt_upn (by omega), pt_upn (by omega)]
    exact c5 i hi
  have hcr : pz_cr x c 0 := by
    rcases hcx with ⟨q1, q2⟩ | ⟨q1, q2⟩
    · subst q1; subst q2; exact Or.inr (Or.inr (Or.inr (Or.inr (Or.inr (Or.inr (Or.inr (Or.inr (Or.inr (Or.inr (Or.inl ⟨rfl, rfl⟩))))))))))
    · subst q1; subst q2; exact Or.inr (Or.inr (Or.inr (Or.inr (Or.inr (Or.inr (Or.inr (Or.inr (Or.inr (Or.inr (Or.inr ⟨rfl, rfl⟩))))))))))
  have q1 := pt_Qpe q0 a2 a3 a4 b2 b3 b4 b5 hcr (pt_t2o (by omega)) (fun _ => by omega)
  have s1 : ∀ q j, ¬ (q = 150 ∧ (j = 27 ∨ j = 30)) → ¬ ((q = 163 ∨ q = 164) ∧ 800 ≤ j) → w1 q j = z q j := fun q j g1 g2 => by rw [b5 q j (by omega) (by omega), pt_upn (by omega)]
  have e30 : w1 150 30 = (p : Int) := by rw [b5 150 30 (by omega) (by omega), pt_upi]
  refine ⟨v1, w1, a1, ?_, q1, e30, s1 150 28 (by omega) (by omega), fun q j g1 g2 => a4 q j g1 (by omega), fun q j g1 g2 => s1 q j (by omega) g2⟩
  have hs : l_M_settles_0 999999 w1 c = some w1 := pt_sett0 e30 (by omega) (fun q hq => by rw [s1 165 q (by omega) (by omega)]; exact hb q hq) 999998
  show l_M_settles_0 (999999 + 1) z c = some w1
  rw [l_M_settles_0, hp, if_neg (by omega), pt_wm1 (by omega), if_pos ⟨Int.natCast_nonneg _, by omega⟩, Int.toNat_natCast, if_pos htop, b1, Option.bind_some, if_neg (by omega)]
  exact hs
theorem pt_sett0' {z : px_Z} {p : Nat} {c : Int} (hp : z 150 30 = (p : Int)) (hp4 : p ≤ 40) (h : ∀ q, p = q + 1 → z 165 q ≠ c) : f_M_settles z c = some z := pt_sett0 hp hp4 h 999999
def pt_any (fm : Nat) (s : px_Z) (br due : Int) : Option (Int × px_Z) := l_M_readAny_7 (fun s => (f_M_errs s 3).bind (fun q46 => some (q46.1, q46.2))) (fun s => (f_M_errs s 1).bind (fun q47 => some (q47.1, q47.2))) fm s br due
/-- the way out of a condition -/
def pt_ex (fm : Nat) (q5 : px_Z) (br : Int) : Option (Int × px_Z) := if br = 0 then some (0, q5) else (if (f_M_isSign q5 41) = (0) then (f_M_errs q5 1).bind (fun q47 => some (q47.1, q47.2)) else (f_M_settles (px_up (px_up q5 150 30 (px_wr ((q5 150 30) - 1))) 150 28 (px_wr (((px_up q5 150 30 (px_wr ((q5 150 30) - 1))) 150 28) - 1))) 9).bind (fun q8 => (f_M_reads q8).bind (fun q9 => pt_any fm q9 (px_wr (br - 1)) 0)))
theorem pt_anyN {s : px_Z} {n : Nat} {br : Int} (h7 : f_M_isWord s 7 = 1) : pt_any (n + 1) s br 1 = if s 150 28 = 8 then (f_M_errs s 3).bind (fun q46 => some (q46.1, q46.2)) else (f_M_waits (px_up s 150 28 (px_wr ((s 150 28) + 1))) 9).bind (fun q23 => (f_M_reads q23).bind (fun q24 => pt_any n q24 br 1)) := by
  unfold pt_any
  rw [l_M_readAny_7, if_neg pt_1n0, h7, if_neg pt_1n0, if_neg pt_1n0, if_neg pt_1n0]
theorem pt_anyP {s : px_Z} {n : Nat} {br : Int} (h7 : f_M_isWord s 7 = 0) (h40 : f_M_isSign s 40 = 1) : pt_any (n + 1) s br 1 = if s 150 28 = 8 then (f_M_errs s 3).bind (fun q46 => some (q46.1, q46.2)) else (f_M_waits (px_up s 150 28 (px_wr ((s 150 28) + 1))) 12).bind (fun q23 => (f_M_reads q23).bind (fun q24 => pt_any n q24 (px_wr (br + 1)) 1)) := by
  unfold pt_any
  rw [l_M_readAny_7, if_neg pt_1n0, h7, if_pos rfl, h40, if_neg pt_1n0, if_pos rfl, if_pos rfl]
theorem pt_anyC {s : px_Z} {n : Nat} {br : Int} (h7 : f_M_isWord s 7 = 0) (h40 : f_M_isSign s 40 = 0) : pt_any (n + 1) s br 1 = (f_M_readCompared s).bind (fun q31 => if (q31.1) = ((-1)) then some (((-1), q31.2)) else (f_M_settles q31.2 9).bind (fun q33 => pt_any n q33 br 0)) := by
  unfold pt_any
  rw [l_M_readAny_7, if_neg pt_1n0, h7, if_pos rfl, h40, if_pos rfl]
theorem pt_anyA {s : px_Z} {n : Nat} {br : Int} (h6 : f_M_isWord s 6 = 1) : pt_any (n + 1) s br 0 = (f_M_settles s 10).bind (fun q14 => (f_M_waits q14 10).bind (fun q15 => (f_M_reads q15).bind (fun q16 => pt_any n q16 br 1))) := by
  unfold pt_any
  rw [l_M_readAny_7, if_pos rfl, h6, if_neg pt_1n0]
theorem pt_anyO {s : px_Z} {n : Nat} {br : Int} (h6 : f_M_isWord s 6 = 0) (h5 : f_M_isWord s 5 = 1) : pt_any (n + 1) s br 0 = (f_M_settles s 10).bind (fun q10 => (f_M_settles q10 11).bind (fun q11 => (f_M_waits q11 11).bind (fun q12 => (f_M_reads q12).bind (fun q13 => pt_any n q13 br 1)))) := by
  unfold pt_any
  rw [l_M_readAny_7, if_pos rfl, h6, if_pos rfl, h5, if_neg pt_1n0]
theorem pt_anyX {s : px_Z} {n : Nat} {br : Int} (h6 : f_M_isWord s 6 = 0) (h5 : f_M_isWord s 5 = 0) : pt_any (n + 1) s br 0 = (f_M_settles s 10).bind (fun q4 => (f_M_settles q4 11).bind (fun q5 => pt_ex n q5 br)) := by
  unfold pt_any
  rw [l_M_readAny_7, if_pos rfl, h6, if_pos rfl, h5, if_pos rfl]
  rfl
/-- after NOT, ( , AND, OR: one more waits, one token on -/
theorem pt_push {b : Nat → Int} {L T k0 t m p : Nat} {ts : List Nat} {u z : px_Z} (hS : pt_S b L T k0 t m ts u z) (ht : t < T) (hp : z 150 30 = (p : Int)) (hp4 : p < 40) (c : Int) : ∃ v w1 w, f_Reader_step u = some v ∧ f_M_waits z c = some w1 ∧ f_M_reads w1 = some w ∧ pt_S b L T k0 (t + 1) m ts v w ∧ pt_fa u v ∧ pt_gc z w ∧ w 150 30 = ((p + 1 : Nat) : Int) ∧ w 165 p = c ∧ (∀ j, j ≠ p → w 165 j = z 165 j) ∧ w 150 28 = z 150 28 := by
  obtain ⟨hA, hB, h0, hQ⟩ := hS
  obtain ⟨w1, a1, a2, a3, a4⟩ := pt_wait hp hp4 c
  have hB1 : pt_B w1 b L (pt_st b L t) := pt_B_of hB (fun j g1 g2 => a4 150 j (by omega) (by omega)) (fun j => a4 156 j (by omega) (by omega)) (fun j => a4 157 j (by omega) (by omega))
  have hQ1 : pt_Q k0 m ts u w1 := by
    obtain ⟨c1, c2, c3, c4, c5⟩ := hQ
    refine ⟨c1, (a4 150 27 (by omega) (by omega)).trans c2, c3, c4, fun i hi => ?_⟩
    rw [a4 163 _ (by omega) (by omega), a4 164 _ (by omega) (by omega), a4 150 26 (by omega) (by omega)]
    exact c5 i hi
  obtain ⟨v, w, b1, b2, b3, b4, b5⟩ := pt_go ⟨hA, hB1, h0, hQ1⟩ ht
  exact ⟨v, w1, w, b1, a1, b2, b3, b4, fun q j g1 g2 g3 => (b5 q j (by omega)).trans (a4 q j (by omega) (by omega)), (b5 150 30 (by omega)).trans a2, (b5 165 p (by omega)).trans a3, fun j hj => (b5 165 j (by omega)).trans (a4 165 j (by omega) (by omega)), (b5 150 28 (by omega)).trans (a4 150 28 (by omega) (by omega))⟩
/-- a condition, k NOTs wait, p others below them, o are so far begun -/
def pt_CC (b : Nat → Int) (L T k0 n : Nat) : Prop := ∀ (k p o t m fm e : Nat) (ts : List Nat) (u z : px_Z) (br : Int), 2 * (8 - o) + 1 ≤ n → o ≤ 8 → k ≤ o → 1 ≤ e → pt_S b L T k0 t m ts u z → pt_P u z → ts.length + 3 + 2 * (8 - o) < 32 → m + k + e ≤ t → T + 2 ≤ fm + t → z 150 30 = ((p + k : Nat) : Int) → p + k + 3 * (8 - o) ≤ 40 → (∀ i, p ≤ i → i < p + k → z 165 i = 9) → (∀ q, p = q + 1 → z 165 q ≠ 9) → z 150 28 = (o : Int) → 0 ≤ br → br ≤ (o : Int) →
  ∃ v w, g_0 n 1 u (o : Int) = some v ∧ pt_gc z w ∧ ((∃ v' t' m' fm', pt_nots k v = some v' ∧ pt_any fm z br 1 = pt_any fm' w br 0 ∧ T + 2 ≤ fm' + t' ∧ t < t' ∧ m < m' ∧ m' + e ≤ t' ∧ pt_S b L T k0 t' m' (1 :: ts) v' w ∧ pt_fl m u v' ∧ w 150 30 = (p : Int) ∧ w 150 28 = ((o - k : Nat) : Int) ∧ (∀ i, i < p → w 165 i = z 165 i)) ∨ (pt_any fm z br 1 = some (-1, w) ∧ pt_X b L T m v w ∧ pt_fl m u v))
/-- conditions that are joined; h others wait below -/
def pt_EE (b : Nat → Int) (L T k0 n : Nat) : Prop := ∀ (h o t m fm e : Nat) (ts : List Nat) (u z : px_Z) (br : Int), 2 * (8 - o) + 2 ≤ n → o ≤ 8 → 1 ≤ e → pt_S b L T k0 t m ts u z → pt_P u z → ts.length + 5 + 2 * (8 - o) < 32 → m + e ≤ t → T + 2 ≤ fm + t → z 150 30 = (h : Int) → h + 2 + 3 * (8 - o) ≤ 40 → (∀ q, h = q + 1 → z 165 q ≠ 9 ∧ z 165 q ≠ 10 ∧ z 165 q ≠ 11) → z 150 28 = (o : Int) → 0 ≤ br → br ≤ (o : Int) →
  ∃ v w, g_0 n 0 u (o : Int) = some v ∧ pt_fl m u v ∧ pt_gc z w ∧ ((∃ t' m' fm', pt_any fm z br 1 = pt_ex fm' w br ∧ T + 1 ≤ fm' + t' ∧ t < t' ∧ m < m' ∧ m' + e ≤ t' ∧ pt_S b L T k0 t' m' (1 :: ts) v w ∧ w 150 30 = (h : Int) ∧ w 150 28 = (o : Int) ∧ (∀ i, i < h → w 165 i = z 165 i)) ∨ (pt_any fm z br 1 = some (-1, w) ∧ pt_X b L T m v w))
theorem pt_eiD {g : Nat → px_Z → Int → Option px_Z} {u : px_Z} (h : u 121 7 ≠ 0) (n : Nat) (x y k : Int) : l_Reader_readEither_7 g (n + 1) u x y k = some u := by
  rw [l_Reader_readEither_7]
  by_cases h1 : 400 ≤ k
  · rw [if_pos h1]
  · rw [if_neg h1, if_neg h]
/-- settled states are paired states -/
theorem pt_ScP {b : Nat → Int} {L T k0 t m m' : Nat} {ts us : List Nat} {u z v w : px_Z} (hS : pt_S b L T k0 t m ts u z) (h1 : pt_fp m u v) (h2 : pt_ge z w) (hQ : pt_Q k0 m' us v w) : pt_S b L T k0 t m' us v w := ⟨pt_fpA hS.1 h1, pt_geB hS.2.1 h2, (h1 121 7 (by omega) (by omega)).trans hS.2.2.1, hQ⟩
set_option maxHeartbeats 4000000 in
theorem pt_eiL {b : Nat → Int} {L T k0 n : Nat} (hC : pt_CC b L T k0 n) {h o e : Nat} {ts : List Nat} {br : Int} (hn : 2 * (8 - o) + 1 ≤ n) (ho : o ≤ 8) (he : 1 ≤ e) (hl : ts.length + 5 + 2 * (8 - o) < 32) (hh : h + 2 + 3 * (8 - o) ≤ 40) (hb0 : 0 ≤ br) (hb1 : br ≤ (o : Int)) : ∀ (d fu fm wt x3 t m : Nat) (u z z1 : px_Z), T - t = d → d + 2 < fu → x3 + 1 ≤ t → T + 2 ≤ fm + t → wt ≤ 1 → f_M_settles z 10 = some z1 → pt_ge z z1 → pt_B z b L (pt_st b L t) → pt_S b L T k0 t m (if wt = 0 then 1 :: ts else 1 :: 1 :: ts) u z1 → pt_P u z1 → z1 150 30 = ((h + wt : Nat) : Int) → (wt = 1 → z1 165 h = 11) → (∀ q, h = q + 1 → z1 165 q ≠ 10 ∧ z1 165 q ≠ 11) → z1 150 28 = (o : Int) → m + wt + e ≤ t →
    ∃ v w, l_Reader_readEither_7 (g_0 n) fu u (o : Int) (wt : Int) (x3 : Int) = some v ∧ pt_fl m u v ∧ pt_gc z w ∧ ((∃ t' m' fm', pt_any fm z br 0 = pt_ex fm' w br ∧ T + 1 ≤ fm' + t' ∧ t ≤ t' ∧ m ≤ m' ∧ m' + e ≤ t' ∧ pt_S b L T k0 t' m' (1 :: ts) v w ∧ w 150 30 = (h : Int) ∧ w 150 28 = (o : Int) ∧ (∀ i, i < h → w 165 i = z1 165 i)) ∨ (pt_any fm z br 0 = some (-1, w) ∧ pt_X b L T m v w)) := by
  intro d
  induction d using Nat.strongRecOn with
  | ind d ih =>
    intro fu fm wt x3 t m u z z1 hd hf hx hfm hwt hz1 hge hBz hS hP h30 htop hbase h28 hme
    obtain ⟨htT, hT⟩ := pt_T4 hS.1
    obtain ⟨fu, rfl⟩ : ∃ q, fu = q + 1 + 1 := ⟨fu - 2, by omega⟩
    obtain ⟨fm, rfl⟩ : ∃ q, fm = q + 1 := ⟨fm - 1, by omega⟩
    obtain ⟨g1, g2, g3, g4⟩ := pt_A_tok hS.1
    have gcz : pt_gc z z1 := pt_gec hge
    by_cases h271 : pt_ck b L (pt_st b L t) = 271
    · have ht := pt_A_end hS.1 (by rw [h271]; decide)
      rw [l_Reader_readEither_7, if_neg (show ¬ (400 : Int) ≤ (x3 : Int) by omega), if_pos hS.2.2.1, if_pos g1, g2, if_pos h271, h271, pt_anyA (pt_isW1 hBz (j := 15) (by decide) (k := 271) (m := 6) rfl rfl h271), hz1, Option.bind_some]
      obtain ⟨v1, w1, w2, a1, a2, a3, a4, a5, a6, a7, a8, a9, a10⟩ := pt_push hS ht h30 (by omega) 10
      rw [a1, Option.bind_some, a2, Option.bind_some, a3, Option.bind_some]
      have P1 : pt_P v1 w2 := pt_Pfc hP (pt_flA (m := m) a5) a6
      have hl1 : (if wt = 0 then 1 :: ts else 1 :: 1 :: ts).length ≤ ts.length + 2 := by split <;> simp
      obtain ⟨v2, w3, b1, b2, b3⟩ := hC 0 (h + wt + 1) o (t + 1) m fm (e + wt + 1) _ v1 w2 br hn ho (Nat.zero_le _) (by omega) a4 P1 (by omega) (by omega) (by omega) a7 (by omega) (fun i i1 i2 => by omega) (fun q hq => by rw [show q = h + wt by omega, a8]; decide) (a10.trans h28) hb0 hb1
      rw [b1, Option.bind_some]
      have G3 : pt_gc z w3 := pt_gcT gcz (pt_gcT a6 b2)
      rcases b3 with ⟨v2', t', m', fm', c1, c2, c3, c4, c5, c6, c7, c8, c9, c10, c11⟩ | ⟨c1, c2, c3⟩
      · have ev : v2 = v2' := by injection c1
        subst ev
        obtain ⟨htT', _⟩ := pt_T4 c7.1
        have e164 : ∀ i, i < h + wt → w3 165 i = z1 165 i := fun i hi => (c11 i (by omega)).trans (a9 i (by omega))
        have etop : w3 165 (h + wt) = 10 := (c11 (h + wt) (by omega)).trans a8
        have hnt : ∀ q, h + wt = q + 1 → w3 165 q ≠ 10 := by
          intro q hq
          rw [e164 q (by omega)]
          by_cases w0 : wt = 0
          · exact (hbase q (by omega)).1
          · rw [show q = h by omega, htop (by omega)]; decide
        -- AND is put, and settled at the next round
        have key : ∀ us : List Nat, pt_Q k0 m' (1 :: 1 :: us) v2 w3 → ∃ v3 w4, f_Law_put v2 271 = some v3 ∧ f_M_settles w3 10 = some w4 ∧ pt_Q k0 (m' + 1) (1 :: us) v3 w4 ∧ w4 150 30 = ((h + wt : Nat) : Int) ∧ w4 150 28 = w3 150 28 ∧ pt_fp m' v2 v3 ∧ pt_ge w3 w4 := fun us hq => pt_settO hq c9 (by omega) etop hnt (Or.inl ⟨rfl, rfl⟩) (by omega)
        have key2 : ∃ v3 w4, f_Law_put v2 271 = some v3 ∧ f_M_settles w3 10 = some w4 ∧ pt_Q k0 (m' + 1) (if wt = 0 then 1 :: ts else 1 :: 1 :: ts) v3 w4 ∧ w4 150 30 = ((h + wt : Nat) : Int) ∧ w4 150 28 = w3 150 28 ∧ pt_fp m' v2 v3 ∧ pt_ge w3 w4 := by
          by_cases w0 : wt = 0
          · rw [if_pos w0]; rw [if_pos w0] at c7; exact key ts c7.2.2.2
          · rw [if_neg w0]; rw [if_neg w0] at c7; exact key (1 :: ts) c7.2.2.2
        obtain ⟨v3, w4, d1, d2, d3, d4, d5, d6, d7⟩ := key2
        have S4 := pt_ScP c7 d6 d7 d3
        have f3 : pt_fl m u v3 := pt_flT (pt_flT (pt_flA a5) c8 (Nat.le_refl m)) (pt_fpl d6) (by omega)
        have e4 : ∀ i, i < h + wt → w4 165 i = z1 165 i := fun i hi => (d7 165 i (by omega) (by omega)).trans (e164 i hi)
        rw [d1, Option.bind_some, pz_wr_suc (by omega), c2]
        obtain ⟨v5, w5, i1, i2, i3, i4⟩ := ih (T - t') (by omega) (fu + 1) fm' wt (x3 + 1) t' (m' + 1) v3 w3 w4 rfl (by omega) (by omega) c3 hwt d2 d7 c7.2.1 S4 (pt_Pfc hP f3 (pt_gcT (pt_gcT a6 b2) (pt_gec d7))) d4 (fun w1 => by rw [e4 h (by omega)]; exact htop w1) (fun q hq => by rw [e4 q (by omega)]; exact hbase q hq) (d5.trans (c10.trans (by rw [Nat.sub_zero]))) (by omega)
        refine ⟨v5, w5, i1, pt_flT f3 i2 (by omega), pt_gcT G3 i3, ?_⟩
        rcases i4 with ⟨t2, m2, fm2, j1, j2, j3, j4, j5, j6, j7, j8, j9⟩ | ⟨j1, j2⟩
        · exact Or.inl ⟨t2, m2, fm2, j1, j2, by omega, by omega, j5, j6, j7, j8, fun i hi => (j9 i hi).trans (e4 i (by omega))⟩
        · exact Or.inr ⟨j1, pt_Xmo j2 (by omega)⟩
      · obtain ⟨v3, d1, d2, d3⟩ := pt_putX c2 271
        rw [d1, Option.bind_some, pt_eiD d2.1, c1]
        exact ⟨v3, w3, rfl, pt_flT (pt_flT (pt_flA a5) c3 (Nat.le_refl m)) d3 (Nat.le_refl m), G3, Or.inr ⟨rfl, d2⟩⟩
    · -- OR is put and settled
      have key : ∃ u1 z2, f_M_settles z1 11 = some z2 ∧ pt_S b L T k0 t (m + wt) (1 :: ts) u1 z2 ∧ z2 150 30 = (h : Int) ∧ z2 150 28 = (o : Int) ∧ pt_fl m u u1 ∧ pt_ge z1 z2 ∧ l_Reader_readEither_7 (g_0 n) (fu + 1 + 1) u (o : Int) (wt : Int) (x3 : Int) = if pt_ck b L (pt_st b L t) = 270 then (f_Reader_step u1).bind (fun q12 => (g_0 n 1 q12 (o : Int)).bind (fun q13 => l_Reader_readEither_7 (g_0 n) (fu + 1) q13 (o : Int) 1 (px_wr ((x3 : Int) + 1)))) else some u1 := by
        by_cases w0 : wt = 0
        · subst w0
          refine ⟨u, z1, pt_sett0' h30 (by omega) (fun q hq => (hbase q (by omega)).2), hS, h30, h28, pt_flR m u, fun _ _ _ _ => rfl, ?_⟩
          rw [l_Reader_readEither_7, if_neg (show ¬ (400 : Int) ≤ (x3 : Int) by omega), if_pos hS.2.2.1, if_pos g1, g2, if_neg h271, if_pos (show ((0 : Nat) : Int) = 0 from rfl)]
        · have w1 : wt = 1 := by omega
          subst w1
          obtain ⟨u1, z2, d1, d2, d3, d4, d5, d6, d7⟩ := pt_settO (c := 11) (x := 270) hS.2.2.2 h30 (by omega) (htop rfl) (fun q hq => (hbase q hq).2) (Or.inr ⟨rfl, rfl⟩) (by omega)
          refine ⟨u1, z2, d2, pt_ScP hS d6 d7 d3, d4, d5.trans h28, pt_fpl d6, d7, ?_⟩
          rw [l_Reader_readEither_7, if_neg (show ¬ (400 : Int) ≤ (x3 : Int) by omega), if_pos hS.2.2.1, if_pos g1, g2, if_neg h271, if_neg (show ¬ ((1 : Nat) : Int) = 0 by decide), d1, Option.bind_some]
      obtain ⟨u1, z2, k1, k2, k3, k4, k5, k6, k7⟩ := key
      have n6 : f_M_isWord z 6 = 0 := pt_isW0 hBz (j := 15) (by decide) (k := 271) (m := 6) rfl rfl h271
      have e2 : ∀ i, z2 165 i = z1 165 i := fun i => k6 165 i (by omega) (by omega)
      rw [k7]
      by_cases h270 : pt_ck b L (pt_st b L t) = 270
      · have ht := pt_A_end hS.1 (by rw [h270]; decide)
        rw [if_pos h270, pt_anyO n6 (pt_isW1 hBz (j := 14) (by decide) (k := 270) (m := 5) rfl rfl h270), hz1, Option.bind_some, k1, Option.bind_some]
        obtain ⟨v1, w1, w2, a1, a2, a3, a4, a5, a6, a7, a8, a9, a10⟩ := pt_push k2 ht k3 (by omega) 11
        rw [a1, Option.bind_some, a2, Option.bind_some, a3, Option.bind_some]
        have f1 : pt_fl m u v1 := pt_flT k5 (pt_flA a5) (Nat.le_refl m)
        have G2 : pt_gc z1 w2 := pt_gcT (pt_gec k6) a6
        obtain ⟨v2, w3, b1, b2, b3⟩ := hC 0 (h + 1) o (t + 1) (m + wt) fm (e + 1) (1 :: ts) v1 w2 br hn ho (Nat.zero_le _) (by omega) a4 (pt_Pfc hP f1 G2) (by rw [List.length_cons]; omega) (by omega) (by omega) a7 (by omega) (fun i i1 i2 => by omega) (fun q hq => by rw [show q = h by omega, a8]; decide) (a10.trans k4) hb0 hb1
        rw [b1, Option.bind_some]
        have G3 : pt_gc z w3 := pt_gcT gcz (pt_gcT G2 b2)
        rcases b3 with ⟨v2', t', m', fm', c1, c2, c3, c4, c5, c6, c7, c8, c9, c10, c11⟩ | ⟨c1, c2, c3⟩
        · have ev : v2 = v2' := by injection c1
          subst ev
          have e3 : ∀ i, i < h → w3 165 i = z1 165 i := fun i hi => (c11 i (by omega)).trans ((a9 i (by omega)).trans (e2 i))
          have etop : w3 165 h = 11 := (c11 h (by omega)).trans a8
          have f3 : pt_fl m u v2 := pt_flT f1 c8 (by omega)
          rw [pz_wr_suc (by omega), c2]
          obtain ⟨v5, w5, i1, i2, i3, i4⟩ := ih (T - t') (by omega) (fu + 1) fm' 1 (x3 + 1) t' m' v2 w3 w3 rfl (by omega) (by omega) c3 (by omega) (pt_sett0' c9 (by omega) (fun q hq => by rw [show q = h by omega, etop]; decide)) (fun _ _ _ _ => rfl) c7.2.1 c7 (pt_Pfc hP f3 (pt_gcT G2 b2)) c9 (fun _ => etop) (fun q hq => by rw [e3 q (by omega)]; exact hbase q hq) (c10.trans (by rw [Nat.sub_zero])) (by omega)
          refine ⟨v5, w5, i1, pt_flT f3 i2 (by omega), pt_gcT G3 i3, ?_⟩
          rcases i4 with ⟨t2, m2, fm2, j1, j2, j3, j4, j5, j6, j7, j8, j9⟩ | ⟨j1, j2⟩
          · exact Or.inl ⟨t2, m2, fm2, j1, j2, by omega, by omega, j5, j6, j7, j8, fun i hi => (j9 i hi).trans (e3 i hi)⟩
          · exact Or.inr ⟨j1, pt_Xmo j2 (by omega)⟩
        · rw [pt_eiD c2.1, c1]
          exact ⟨v2, w3, rfl, pt_flT f1 c3 (by omega), G3, Or.inr ⟨rfl, pt_Xmo c2 (by omega)⟩⟩
      · rw [if_neg h270, pt_anyX n6 (pt_isW0 hBz (j := 14) (by decide) (k := 270) (m := 5) rfl rfl h270), hz1, Option.bind_some, k1, Option.bind_some]
        exact ⟨u1, z2, rfl, k5, pt_gcT gcz (pt_gec k6), Or.inl ⟨t, m + wt, fm, rfl, by omega, Nat.le_refl _, by omega, hme, k2, k3, k4, fun i hi => e2 i⟩⟩
