/-! TEXT: how the reference lays a PLAN's deeds -/
def pt_k77 (s : px_Z) : Option (Int × px_Z) := (f_M_errs s 4).bind (fun q21 => some (q21.1, q21.2))
def pt_ld (fm : Nat) (s : px_Z) (n dp k : Nat) : Option (Int × px_Z) := l_M_laysDeeds_6 pt_k77 fm s (n : Int) (dp : Int) (k : Int)
theorem pt_w180 {n : Nat} (h : n < 60) : px_wr (180 + px_wr (3 * (n : Int))) = ((180 + 3 * n : Nat) : Int) := by
  rw [pz_wr_id (x := 3 * (n : Int)) (by omega) (by omega), pz_wr_id (by omega) (by omega)]; omega
theorem pt_w181 {n : Nat} (h : n < 60) : px_wr (((180 + 3 * n : Nat) : Int) + 1) = ((181 + 3 * n : Nat) : Int) := by
  rw [pz_wr_id (by omega) (by omega)]; omega
theorem pt_w182 {n : Nat} (h : n < 60) : px_wr (((180 + 3 * n : Nat) : Int) + 2) = ((182 + 3 * n : Nat) : Int) := by
  rw [pz_wr_id (by omega) (by omega)]; omega
theorem pt_ldD {s : px_Z} {fu n dp k K : Nat} (h42 : s 150 42 = (K : Int)) (hk : k < K) (hK : K ≤ 140) (h3 : s 168 k ≠ 3) (h4 : s 168 k ≠ 4) (hn : n < 60) : pt_ld (fu + 1) s n dp k = pt_ld fu (px_up (px_up (px_up s 171 (180 + 3 * n) (s 168 k)) 171 (181 + 3 * n) (s 169 k)) 171 (182 + 3 * n) (s 170 k)) (n + 1) dp (k + 1) := by
  have gk : 0 ≤ (k : Int) ∧ (k : Int) < 140 := by omega
  have g0 : 0 ≤ ((180 + 3 * n : Nat) : Int) ∧ ((180 + 3 * n : Nat) : Int) < 360 := by omega
  have g1 : 0 ≤ ((181 + 3 * n : Nat) : Int) ∧ ((181 + 3 * n : Nat) : Int) < 360 := by omega
  have g2 : 0 ≤ ((182 + 3 * n : Nat) : Int) ∧ ((182 + 3 * n : Nat) : Int) < 360 := by omega
  unfold pt_ld
  rw [l_M_laysDeeds_6, h42, if_neg (show ¬ (K : Int) ≤ (k : Int) by omega), if_pos gk, Int.toNat_natCast, if_neg h3, if_pos gk, if_neg h4, if_neg (show ¬ (n : Int) = 60 by omega), if_pos gk, pt_w180 hn, if_pos g0, if_pos gk, pt_w181 hn, if_pos g1, if_pos gk, pt_w182 hn, if_pos g2, pz_wr_suc (show n < 2147483647 by omega), pz_wr_suc (show k < 2147483647 by omega), Int.toNat_natCast, Int.toNat_natCast, Int.toNat_natCast, pt_upc (show 169 ≠ 171 by decide), pt_upc (show 170 ≠ 171 by decide), pt_upc (show 170 ≠ 171 by decide)]
theorem pt_ldX {s : px_Z} {fu dp k K : Nat} (h42 : s 150 42 = (K : Int)) (hk : k < K) (hK : K ≤ 140) (h3 : s 168 k ≠ 3) (h4 : s 168 k ≠ 4) : pt_ld (fu + 1) s 60 dp k = pt_k77 s := by
  have gk : 0 ≤ (k : Int) ∧ (k : Int) < 140 := by omega
  unfold pt_ld
  rw [l_M_laysDeeds_6, h42, if_neg (show ¬ (K : Int) ≤ (k : Int) by omega), if_pos gk, Int.toNat_natCast, if_neg h3, if_pos gk, if_neg h4, if_pos (show ((60 : Nat) : Int) = 60 from rfl)]
theorem pt_ldA {s : px_Z} {fu n dp k K : Nat} (h42 : s 150 42 = (K : Int)) (hk : k < K) (hK : K ≤ 140) (h3 : s 168 k = 3) (hd : dp < 4) : pt_ld (fu + 1) s n dp k = pt_ld fu (px_up (px_up s 172 dp (k : Int)) 173 dp (s 169 k)) n (dp + 1) (k + 1) := by
  have gk : 0 ≤ (k : Int) ∧ (k : Int) < 140 := by omega
  have gd : 0 ≤ (dp : Int) ∧ (dp : Int) < 4 := by omega
  unfold pt_ld
  rw [l_M_laysDeeds_6, h42, if_neg (show ¬ (K : Int) ≤ (k : Int) by omega), if_pos gk, Int.toNat_natCast, if_pos h3, if_pos gd, if_pos gk, if_pos gd, Int.toNat_natCast, pz_wr_suc (show dp < 2147483647 by omega), pz_wr_suc (show k < 2147483647 by omega), pt_upc (show 169 ≠ 172 by decide)]
theorem pt_wj {j : Nat} (h : j < 9) : px_wr (((j + 1 : Nat) : Int) - 1) = (j : Int) := pt_wm1 (by omega)
theorem pt_ldE {s : px_Z} {fu n dp k K k0 j : Nat} (h42 : s 150 42 = (K : Int)) (hk : k < K) (hK : K ≤ 140) (h4 : s 168 k = 4) (hd : dp < 4) (h171 : s 172 dp = (k0 : Int)) (hk0 : k0 < 140) (h172 : s 173 dp = ((j + 1 : Nat) : Int)) (hj : j < 9) : pt_ld (fu + 1) s n (dp + 1) k = if j = 0 then pt_ld fu (px_up s 173 dp (j : Int)) n dp (k + 1) else pt_ld fu (px_up s 173 dp (j : Int)) n (dp + 1) (k0 + 1) := by
  have gk : 0 ≤ (k : Int) ∧ (k : Int) < 140 := by omega
  have gd : 0 ≤ (dp : Int) ∧ (dp : Int) < 4 := by omega
  unfold pt_ld
  rw [l_M_laysDeeds_6, h42, if_neg (show ¬ (K : Int) ≤ (k : Int) by omega), if_pos gk, Int.toNat_natCast, if_neg (show ¬ s 168 k = 3 by omega), if_pos gk, if_pos h4, pt_wm1 (show dp < 1000 by omega), if_pos gd, if_pos gd, if_pos gd, Int.toNat_natCast, h172, pt_wj hj, pt_upi]
  by_cases e : j = 0
  · rw [if_pos e, if_pos (show (j : Int) ≤ 0 by omega), pz_wr_suc (show k < 2147483647 by omega)]
  · rw [if_neg e, if_neg (show ¬ (j : Int) ≤ 0 by omega), if_pos gd, pt_upc (show 172 ≠ 173 by decide), h171, pz_wr_suc (show k0 < 2147483647 by omega)]
def pt_ly (f : Nat → Nat) (l n : Nat) (s s' : px_Z) : Prop := ∀ i, i < l → s' 171 (180 + 3 * (n + i)) = s 168 (f i) ∧ s' 171 (181 + 3 * (n + i)) = s 169 (f i) ∧ s' 171 (182 + 3 * (n + i)) = s 170 (f i)
def pt_lf (n dp : Nat) (s s' : px_Z) : Prop := ∀ c j, ¬ (c = 171 ∧ 180 + 3 * n ≤ j) → ¬ ((c = 172 ∨ c = 173) ∧ dp ≤ j) → s' c j = s c j
/-- the steps k0 .. k1 lay the deeds f 0 .. f (l - 1), at a cost of c -/
def pt_Lay (z : px_Z) (k0 k1 dp : Nat) (f : Nat → Nat) (l c : Nat) : Prop := l ≤ c ∧ (∀ i, i < l → k0 ≤ f i ∧ f i < k1) ∧ ∀ (s : px_Z) (n fu K : Nat), (∀ j, k0 ≤ j → j < k1 → s 168 j = z 168 j ∧ s 169 j = z 169 j) → s 150 42 = (K : Int) → k1 ≤ K → K ≤ 140 → n ≤ 60 → c < fu → (n + l ≤ 60 → ∃ s' fu', fu ≤ fu' + c ∧ pt_ld fu s n dp k0 = pt_ld fu' s' (n + l) dp k1 ∧ pt_ly f l n s s' ∧ pt_lf n dp s s') ∧ (60 < n + l → ∃ s', pt_ld fu s n dp k0 = pt_k77 s' ∧ pt_lf n dp s s')
theorem pt_LayZ {z w : px_Z} {k0 k1 dp : Nat} {f : Nat → Nat} {l c : Nat} (h : pt_Lay z k0 k1 dp f l c) (e : ∀ j, k0 ≤ j → j < k1 → w 168 j = z 168 j ∧ w 169 j = z 169 j) : pt_Lay w k0 k1 dp f l c := by
  obtain ⟨h1, h2, h3⟩ := h
  exact ⟨h1, h2, fun s n fu K ha => h3 s n fu K (fun j j1 j2 => ⟨(ha j j1 j2).1.trans (e j j1 j2).1, (ha j j1 j2).2.trans (e j j1 j2).2⟩)⟩
theorem pt_LayF {z : px_Z} {k0 k1 dp : Nat} {f g : Nat → Nat} {l c : Nat} (h : pt_Lay z k0 k1 dp f l c) (e : ∀ i, i < l → g i = f i) : pt_Lay z k0 k1 dp g l c := by
  obtain ⟨h1, h2, h3⟩ := h
  refine ⟨h1, fun i hi => by rw [e i hi]; exact h2 i hi, fun s n fu K ha hK hk1 hK4 hn hc => ?_⟩
  obtain ⟨a, b⟩ := h3 s n fu K ha hK hk1 hK4 hn hc
  refine ⟨fun hl => ?_, b⟩
  obtain ⟨s', fu', p1, p2, p3, p4⟩ := a hl
  exact ⟨s', fu', p1, p2, fun i hi => by rw [e i hi]; exact p3 i hi, p4⟩
theorem pt_Lay0 (z : px_Z) (k dp : Nat) (f : Nat → Nat) : pt_Lay z k k dp f 0 0 :=
  ⟨Nat.le_refl 0, fun i hi => absurd hi (Nat.not_lt_zero _), fun s n fu K _ _ _ _ hn _ => ⟨fun _ => ⟨s, fu, Nat.le_refl _, rfl, fun i hi => absurd hi (Nat.not_lt_zero _), fun _ _ _ _ => rfl⟩, fun h => by omega⟩⟩
theorem pt_Lay1 {z : px_Z} {k dp : Nat} (h3 : z 168 k ≠ 3) (h4 : z 168 k ≠ 4) : pt_Lay z k (k + 1) dp (fun _ => k) 1 1 := by
  refine ⟨Nat.le_refl 1, fun i hi => ⟨Nat.le_refl k, Nat.lt_succ_self k⟩, fun s n fu K ha hK hk1 hK4 hn hc => ?_⟩
  obtain ⟨fu, rfl⟩ : ∃ q, fu = q + 1 := ⟨fu - 1, by omega⟩
  have e := (ha k (Nat.le_refl k) (Nat.lt_succ_self k)).1
  refine ⟨fun hl => ?_, fun hl => ?_⟩
  · refine ⟨_, fu, Nat.le_refl _, pt_ldD hK (by omega) hK4 (by rw [e]; exact h3) (by rw [e]; exact h4) (by omega), fun i hi => ?_, fun c j g1 g2 => ?_⟩
    · have ei : i = 0 := by omega
      subst ei
      refine ⟨?_, ?_, ?_⟩
      · rw [pt_upn (by omega), pt_upn (by omega)]; exact pt_upi
      · rw [pt_upn (by omega)]; exact pt_upi
      · exact pt_upi
    · rw [pt_upn (by omega), pt_upn (by omega), pt_upn (by omega)]
  · have en : n = 60 := by omega
    subst en
    exact ⟨s, pt_ldX hK (by omega) hK4 (by rw [e]; exact h3) (by rw [e]; exact h4), fun _ _ _ _ => rfl⟩
theorem pt_LayC {z : px_Z} {k0 k1 k2 dp : Nat} {f1 f2 : Nat → Nat} {l1 l2 c1 c2 : Nat} (h01 : k0 ≤ k1) (h12 : k1 ≤ k2) (h1 : pt_Lay z k0 k1 dp f1 l1 c1) (h2 : pt_Lay z k1 k2 dp f2 l2 c2) : pt_Lay z k0 k2 dp (fun i => if i < l1 then f1 i else f2 (i - l1)) (l1 + l2) (c1 + c2) := by
  obtain ⟨a1, a2, a3⟩ := h1
  obtain ⟨b1, b2, b3⟩ := h2
  refine ⟨by omega, fun i hi => ?_, fun s n fu K ha hK hk1 hK4 hn hc => ?_⟩
  · by_cases e : i < l1
    · have := a2 i e
      simp only [if_pos e]
      omega
    · have := b2 (i - l1) (by omega)
      simp only [if_neg e]
      omega
  · obtain ⟨p, q⟩ := a3 s n fu K (fun j j1 j2 => ha j j1 (by omega)) hK (by omega) hK4 hn (by omega)
    by_cases e : n + l1 ≤ 60
    · obtain ⟨s1, fu1, r1, r2, r3, r4⟩ := p e
      obtain ⟨p', q'⟩ := b3 s1 (n + l1) fu1 K (fun j j1 j2 => by rw [r4 168 j (by omega) (by omega), r4 169 j (by omega) (by omega)]; exact ha j (by omega) j2) (by rw [r4 150 42 (by omega) (by omega)]; exact hK) hk1 hK4 e (by omega)
      refine ⟨fun hl => ?_, fun hl => ?_⟩
      · obtain ⟨s2, fu2, t1, t2, t3, t4⟩ := p' (by omega)
        refine ⟨s2, fu2, by omega, by rw [r2, t2, show n + l1 + l2 = n + (l1 + l2) by omega], fun i hi => ?_, fun c j g1 g2 => (t4 c j (by omega) g2).trans (r4 c j g1 g2)⟩
        by_cases ei : i < l1
        · have := r3 i ei
          simp only [if_pos ei]
          rw [t4 171 _ (by omega) (by omega), t4 171 _ (by omega) (by omega), t4 171 _ (by omega) (by omega)]
          exact this
        · have := t3 (i - l1) (by omega)
          simp only [if_neg ei]
          rw [show n + l1 + (i - l1) = n + i by omega] at this
          rw [r4 168 _ (by omega) (by omega), r4 169 _ (by omega) (by omega), r4 170 _ (by omega) (by omega)] at this
          exact this
      · obtain ⟨s2, t1, t2⟩ := q' (by omega)
        exact ⟨s2, r2.trans t1, fun c j g1 g2 => (t2 c j (by omega) g2).trans (r4 c j g1 g2)⟩
    · refine ⟨fun hl => by omega, fun _ => q (by omega)⟩
set_option maxHeartbeats 1000000 in
theorem pt_LayI {z : px_Z} {k0 k1 dp : Nat} {f : Nat → Nat} {l c : Nat} (hd : dp < 4) (h01 : k0 < k1) (h : pt_Lay z (k0 + 1) k1 (dp + 1) f l c) (h4 : z 168 k1 = 4) : ∀ (j : Nat) (s : px_Z) (n fu K : Nat), (∀ i, k0 + 1 ≤ i → i < k1 + 1 → s 168 i = z 168 i ∧ s 169 i = z 169 i) → s 150 42 = (K : Int) → k1 + 1 ≤ K → K ≤ 140 → n ≤ 60 → s 172 dp = (k0 : Int) → s 173 dp = ((j + 1 : Nat) : Int) → j < 9 → (j + 1) * (c + 1) < fu → (n + l * (j + 1) ≤ 60 → ∃ s' fu', fu ≤ fu' + (j + 1) * (c + 1) ∧ pt_ld fu s n (dp + 1) (k0 + 1) = pt_ld fu' s' (n + l * (j + 1)) dp (k1 + 1) ∧ pt_ly (fun i => f (i % l)) (l * (j + 1)) n s s' ∧ pt_lf n dp s s') ∧ (60 < n + l * (j + 1) → ∃ s', pt_ld fu s n (dp + 1) (k0 + 1) = pt_k77 s' ∧ pt_lf n dp s s') := by
  obtain ⟨a1, a2, a3⟩ := h
  intro j
  induction j with
  | zero =>
    intro s n fu K ha hK hk1 hK4 hn h171 h172 hj hc
    obtain ⟨p, q⟩ := a3 s n fu K (fun i i1 i2 => ha i i1 (by omega)) hK (by omega) hK4 hn (by omega)
    rw [show (0 + 1) * (c + 1) = c + 1 by omega, show l * (0 + 1) = l by omega] at *
    refine ⟨fun hl => ?_, fun hl => ?_⟩
    · obtain ⟨s1, fu1, r1, r2, r3, r4⟩ := p hl
      obtain ⟨fu1, rfl⟩ : ∃ x, fu1 = x + 1 := ⟨fu1 - 1, by omega⟩
      have e := pt_ldE (s := s1) (fu := fu1) (n := n + l) (dp := dp) (k := k1) (K := K) (k0 := k0) (j := 0) (by rw [r4 150 42 (by omega) (by omega)]; exact hK) (by omega) hK4 (by rw [r4 168 k1 (by omega) (by omega), (ha k1 (by omega) (by omega)).1]; exact h4) hd (by rw [r4 172 dp (by omega) (by omega)]; exact h171) (by omega) (by rw [r4 173 dp (by omega) (by omega)]; exact h172) (by omega)
      rw [if_pos rfl] at e
      refine ⟨_, fu1, by omega, r2.trans e, fun i hi => ?_, fun c j g1 g2 => ?_⟩
      · have := r3 i hi
        simp only [Nat.mod_eq_of_lt hi]
        rw [pt_upn (by omega), pt_upn (by omega), pt_upn (by omega)]
        exact this
      · rw [pt_upn (by omega)]; exact r4 c j g1 (by omega)
    · obtain ⟨s1, r1, r2⟩ := q hl
      exact ⟨s1, r1, fun c j g1 g2 => r2 c j g1 (by omega)⟩
  | succ j ih =>
    intro s n fu K ha hK hk1 hK4 hn h171 h172 hj hc
    have m1 : l * (j + 1 + 1) = l * (j + 1) + l := Nat.mul_succ l (j + 1)
    have m2 : (j + 1 + 1) * (c + 1) = (j + 1) * (c + 1) + (c + 1) := Nat.succ_mul (j + 1) (c + 1)
    rw [m2] at hc
    rw [m1, m2]
    obtain ⟨p, q⟩ := a3 s n fu K (fun i i1 i2 => ha i i1 (by omega)) hK (by omega) hK4 hn (by omega)
    by_cases e60 : n + l ≤ 60
    · obtain ⟨s1, fu1, r1, r2, r3, r4⟩ := p e60
      obtain ⟨fu1, rfl⟩ : ∃ x, fu1 = x + 1 := ⟨fu1 - 1, by omega⟩
      have e := pt_ldE (s := s1) (fu := fu1) (n := n + l) (dp := dp) (k := k1) (K := K) (k0 := k0) (j := j + 1) (by rw [r4 150 42 (by omega) (by omega)]; exact hK) (by omega) hK4 (by rw [r4 168 k1 (by omega) (by omega), (ha k1 (by omega) (by omega)).1]; exact h4) hd (by rw [r4 172 dp (by omega) (by omega)]; exact h171) (by omega) (by rw [r4 173 dp (by omega) (by omega)]; exact h172) (by omega)
      rw [if_neg (Nat.succ_ne_zero j)] at e
      have fr : ∀ c' j', ¬ (c' = 171 ∧ 180 + 3 * n ≤ j') → ¬ ((c' = 172 ∨ c' = 173) ∧ dp ≤ j') → px_up s1 173 dp ((j + 1 : Nat) : Int) c' j' = s c' j' := fun c' j' g1 g2 => by rw [pt_upn (by omega)]; exact r4 c' j' g1 (by omega)
      obtain ⟨p', q'⟩ := ih (px_up s1 173 dp ((j + 1 : Nat) : Int)) (n + l) fu1 K (fun i i1 i2 => by rw [fr 168 i (by omega) (by omega), fr 169 i (by omega) (by omega)]; exact ha i i1 i2) (by rw [fr 150 42 (by omega) (by omega)]; exact hK) hk1 hK4 e60 (by rw [pt_upn (by omega), r4 172 dp (by omega) (by omega)]; exact h171) pt_upi (by omega) (by omega)
      refine ⟨fun hl => ?_, fun hl => ?_⟩
      · obtain ⟨s2, fu2, t1, t2, t3, t4⟩ := p' (by omega)
        refine ⟨s2, fu2, by omega, by rw [r2, e, t2, show n + l + l * (j + 1) = n + (l * (j + 1) + l) by omega], fun i hi => ?_, fun c' j' g1 g2 => (t4 c' j' (by omega) g2).trans (fr c' j' g1 g2)⟩
        by_cases ei : i < l
        · have := r3 i ei
          simp only [Nat.mod_eq_of_lt ei]
          rw [t4 171 _ (by omega) (by omega), t4 171 _ (by omega) (by omega), t4 171 _ (by omega) (by omega), pt_upn (by omega), pt_upn (by omega), pt_upn (by omega)]
          exact this
        · have := t3 (i - l) (by omega)
          have em : i % l = (i - l) % l := Nat.mod_eq_sub_mod (by omega)
          simp only [em]
          simp only [] at this
          rw [show n + l + (i - l) = n + i by omega] at this
          rw [fr 168 _ (by omega) (by omega), fr 169 _ (by omega) (by omega), fr 170 _ (by omega) (by omega)] at this
          exact this
      · obtain ⟨s2, t1, t2⟩ := q' (by omega)
        exact ⟨s2, by rw [r2, e, t1], fun c' j' g1 g2 => (t2 c' j' (by omega) g2).trans (fr c' j' g1 g2)⟩
    · refine ⟨fun hl => by omega, fun _ => ?_⟩
      obtain ⟨s1, r1, r2⟩ := q (by omega)
      exact ⟨s1, r1, fun c j g1 g2 => r2 c j g1 (by omega)⟩
theorem pt_LayR {z : px_Z} {k0 k1 dp : Nat} {f : Nat → Nat} {l c j : Nat} (hd : dp < 4) (h01 : k0 < k1) (h : pt_Lay z (k0 + 1) k1 (dp + 1) f l c) (h3 : z 168 k0 = 3) (h8 : z 169 k0 = ((j + 1 : Nat) : Int)) (hj : j < 9) (h4 : z 168 k1 = 4) : pt_Lay z k0 (k1 + 1) dp (fun i => f (i % l)) (l * (j + 1)) (1 + (j + 1) * (c + 1)) := by
  have hI := pt_LayI hd h01 h h4
  obtain ⟨a1, a2, a3⟩ := h
  refine ⟨?_, fun i hi => ?_, fun s n fu K ha hK hk1 hK4 hn hc => ?_⟩
  · have h1 : l * (j + 1) ≤ (c + 1) * (j + 1) := Nat.mul_le_mul_right (j + 1) (by omega)
    rw [Nat.mul_comm (c + 1)] at h1
    omega
  · have hl : 0 < l := by
      rcases Nat.eq_zero_or_pos l with h0 | h0
      · subst h0; rw [Nat.zero_mul] at hi; omega
      · exact h0
    have := a2 (i % l) (Nat.mod_lt i hl)
    dsimp only
    omega
  · obtain ⟨fu, rfl⟩ : ∃ x, fu = x + 1 := ⟨fu - 1, by omega⟩
    obtain ⟨e1, e2⟩ := ha k0 (Nat.le_refl _) (by omega)
    have e := pt_ldA (s := s) (fu := fu) (n := n) (dp := dp) (k := k0) hK (by omega) hK4 (e1.trans h3) hd
    have fr : ∀ c' j', ¬ ((c' = 172 ∨ c' = 173) ∧ dp ≤ j') → px_up (px_up s 172 dp (k0 : Int)) 173 dp (s 169 k0) c' j' = s c' j' := fun c' j' g => by rw [pt_upn (by omega), pt_upn (by omega)]
    obtain ⟨p, q⟩ := hI j (px_up (px_up s 172 dp (k0 : Int)) 173 dp (s 169 k0)) n fu K (fun i i1 i2 => by rw [fr 168 i (by omega), fr 169 i (by omega)]; exact ha i (by omega) i2) (by rw [fr 150 42 (by omega)]; exact hK) hk1 hK4 hn (by rw [pt_upn (by omega), pt_upi]) (by rw [pt_upi, e2]; exact h8) hj (by omega)
    refine ⟨fun hl => ?_, fun hl => ?_⟩
    · obtain ⟨s', fu', p1, p2, p3, p4⟩ := p hl
      refine ⟨s', fu', by omega, e.trans p2, fun i hi => ?_, fun c' j' g1 g2 => (p4 c' j' g1 g2).trans (fr c' j' g2)⟩
      have := p3 i hi
      rw [fr 168 _ (by omega), fr 169 _ (by omega), fr 170 _ (by omega)] at this
      exact this
    · obtain ⟨s', p1, p2⟩ := q hl
      exact ⟨s', e.trans p1, fun c' j' g1 g2 => (p2 c' j' g1 g2).trans (fr c' j' g2)⟩
