/-! TEXT: AFTER -/
theorem pt_nb {u : px_Z} {b : Nat → Int} {L T t : Nat} (hA : pt_A u b L T t) (lo hi : Int) : ∃ x, (pt_ck b L (pt_st b L t) = 1 → x = pt_mw b L (pt_st b L t)) ∧ f_Reader_numberWithin u lo hi = if pt_ck b L (pt_st b L t) = 1 then (if lo ≤ x ∧ x ≤ hi then (f_Reader_step u).bind (fun q5 => some (x, q5)) else (f_Reader_fail u 2).bind (fun q6 => some (x, q6))) else (f_Reader_fail u 1).bind (fun q7 => some (x, q7)) := by
  obtain ⟨g1, g2, g3, g4⟩ := pt_A_tok hA
  refine ⟨_, g3, ?_⟩
  unfold f_Reader_numberWithin
  rw [if_pos g1, if_pos g1, g2, pz_within]
  by_cases h : lo ≤ u 123 (u 121 4).toNat ∧ u 123 (u 121 4).toNat ≤ hi
  · rw [if_pos h, if_pos h, if_neg pt_1n0]
  · rw [if_neg h, if_neg h, if_pos rfl]
def pt_AF (nt : Nat) (u z : px_Z) : Prop := u 121 5 = (nt : Int) ∧ z 150 6 = (nt : Int) ∧ nt ≤ 8 ∧ ∀ i, i < 8 → u 142 i = z 167 (8 + i) ∧ 0 ≤ z 167 (8 + i) ∧ z 167 (8 + i) < 256
def pt_fA (u v : px_Z) : Prop := ∀ c j, ¬ (c = 121 ∧ (j = 4 ∨ j = 7 ∨ j = 8)) → c ≠ 142 → v c j = u c j
def pt_gA (z w : px_Z) : Prop := ∀ c j, ¬ (c = 150 ∧ ((14 ≤ j ∧ j ≤ 17) ∨ j = 31 ∨ j = 32)) → ¬ (c = 167 ∧ 8 ≤ j) → w c j = z c j
theorem pt_AF_fr {nt : Nat} {u z v w : px_Z} (h : pt_AF nt u z) (h1 : pt_fa u v) (h2 : pt_fb z w) : pt_AF nt v w := by
  obtain ⟨a1, a2, a3, a4⟩ := h
  refine ⟨(h1 121 5 (by omega)).trans a1, (h2 150 6 (by omega)).trans a2, a3, fun i hi => ?_⟩
  rw [h1 142 i (by omega), h2 167 (8 + i) (by omega)]
  exact a4 i hi
theorem pt_wn {n : Nat} (h : n ≤ 8) : px_wr ((n : Int) - 1) = (n : Int) - 1 := pz_wr_id (by omega) (by omega)
theorem pt_or8 {a v : Int} (h1 : 0 ≤ a) (h2 : a < 256) (h3 : 0 ≤ v) (h4 : v < 8) : 0 ≤ px_or a (px_shl 1 v) ∧ px_or a (px_shl 1 v) < 256 := by
  obtain ⟨A, rfl⟩ : ∃ A : Nat, a = (A : Int) := ⟨a.toNat, by omega⟩
  obtain ⟨V, rfl⟩ : ∃ V : Nat, v = (V : Int) := ⟨v.toNat, by omega⟩
  rw [pz_add (by omega) (by omega)]
  have h5 : A ||| 2 ^ V < 2 ^ 8 := Nat.or_lt_two_pow (by omega) (Nat.pow_lt_pow_right (by decide) (by omega))
  omega
/-- what becomes of reading: both on, or the same fault; the reference's rest is R -/
def pt_AO (b : Nat → Int) (L T nt : Nat) (u v z w : px_Z) (R K : Option (Int × px_Z)) : Prop := pt_fA u v ∧ pt_gA z w ∧ ((v 121 7 = 0 ∧ (∃ t, pt_A v b L T t ∧ pt_B w b L (pt_st b L t)) ∧ pt_AF nt v w ∧ R = K) ∨ (v 121 7 ≠ 0 ∧ (∃ t, pt_A v b L T t) ∧ R = some (-1, w) ∧ w 150 31 = v 121 7 ∧ w 150 32 = v 121 8))
theorem pt_thD {u : px_Z} (h : u 121 7 ≠ 0) (n : Nat) (x y : Int) (k : Int) : l_Reader_readAfterThings_4 (n + 1) u x y k = some u := by
  rw [l_Reader_readAfterThings_4]
  by_cases h1 : 400 ≤ k
  · rw [if_pos h1]
  · rw [if_neg h1]
    by_cases h2 : y = 0
    · rw [if_pos h2]
    · rw [if_neg h2, if_neg h]
set_option maxHeartbeats 2000000 in
theorem pt_others {b : Nat → Int} {L T nt th : Nat} (hth : th < nt) : ∀ (d fu fm t x3 : Nat) (u z : px_Z), T - t = d → d + 2 < fu → d + 2 < fm → x3 + 1 ≤ t → pt_A u b L T t → pt_B z b L (pt_st b L t) → u 121 7 = 0 → pt_AF nt u z → ∃ v w, l_Reader_readAfterThings_4 fu u (th : Int) 1 (x3 : Int) = some v ∧ pt_AO b L T nt u v z w ((f_M_readOther z (th : Int)).bind (fun q5 => if (q5.1) = ((-1)) then some (((-1), q5.2)) else l_M_readAfterLine_23 (fun s => (f_M_readMark s 59).bind (fun q10 => some (q10.1, q10.2))) fm q5.2 (th : Int))) ((f_M_readMark w 59).bind (fun q10 => some (q10.1, q10.2))) := by
  intro d
  induction d using Nat.strongRecOn with
  | ind d ih =>
    intro fu fm t x3 u z hd hf hm hx hA hB h0 hF
    obtain ⟨fu, rfl⟩ : ∃ m, fu = m + 1 + 1 := ⟨fu - 2, by omega⟩
    obtain ⟨fm, rfl⟩ : ∃ m, fm = m + 1 := ⟨fm - 1, by omega⟩
    obtain ⟨g1, g2, g3, g4⟩ := pt_A_tok hA
    obtain ⟨n1, n2⟩ := pt_isN hB
    obtain ⟨f1, f2, f3, f4⟩ := hF
    have hT : T ≤ 400 := by have := hA.1.2.1; have := hA.2.2.2; omega
    have htT : t ≤ T := hA.2.2.1
    rw [l_Reader_readAfterThings_4, if_neg (by omega), if_neg (by decide), if_pos h0, if_pos g1, g2]
    by_cases hk : pt_ck b L (pt_st b L t) = 1
    · have ht := pt_A_end hA (by rw [hk]; decide)
      have hmw : 0 ≤ pt_mw b L (pt_st b L t) := (pt_mwR hk).1
      have ez : z 150 17 = pt_mw b L (pt_st b L t) := (n2 hk).2
      rw [if_pos hk, if_pos g1, g3 hk]
      unfold f_M_readOther
      rw [if_pos (n1.mpr hk), f2, ez]
      by_cases e1 : pt_mw b L (pt_st b L t) = (th : Int)
      · obtain ⟨v, w, a1, a2, a3, a4, a5, a6, a7, a8, a9⟩ := pt_bad hA hB h0 2
        obtain ⟨x, v2, b1, b2, b3⟩ := pt_numbD a5 (by rw [a6]; decide) 0 (px_wr (v 121 5 - 1))
        obtain ⟨t2, b2⟩ := b2
        obtain ⟨k1, k2, k3, k4⟩ := pt_A_tok b2
        have e7 : v2 121 7 = 2 := (b3 121 7 (by omega)).trans a6
        have e8 : v2 121 8 = (pt_st b L t : Int) := (b3 121 8 (by omega)).trans a7
        rw [if_pos e1, a1, Option.bind_some, b1, Option.bind_some]
        dsimp only
        rw [if_neg (by rw [e7]; decide), if_pos k1]
        have hh : ∀ y : Int, l_Reader_readAfterThings_4 (fu + 1) v2 (th : Int) y (px_wr ((x3 : Int) + 1)) = some v2 := fun y => pt_thD (by rw [e7]; decide) _ _ _ _
        rw [hh, hh, ite_self]
        refine ⟨v2, w, rfl, fun c j q1 q2 => (b3 c j (by omega)).trans (a3 c j (by omega)), fun c j q1 q2 => a4 c j q1, Or.inr ⟨by rw [e7]; decide, ⟨t2, b2⟩, ?_, by rw [a8, e7], by rw [a9, e8]⟩⟩
        rw [if_neg (by omega), if_pos e1, a2, Option.bind_some, Option.bind_some, if_pos rfl]
      · rw [if_neg e1]
        obtain ⟨x, hx1, hx2⟩ := pt_nb hA 0 (px_wr (u 121 5 - 1))
        have hx3 := hx1 hk
        subst hx3
        rw [if_pos hk, f1, pt_wn f3] at hx2
        rw [f1, pt_wn f3]
        by_cases e2 : (nt : Int) ≤ pt_mw b L (pt_st b L t)
        · obtain ⟨v, w, a1, a2, a3, a4, a5, a6, a7, a8, a9⟩ := pt_bad hA hB h0 2
          obtain ⟨k1, k2, k3, k4⟩ := pt_A_tok a5
          have hh : ∀ y : Int, l_Reader_readAfterThings_4 (fu + 1) v (th : Int) y (px_wr ((x3 : Int) + 1)) = some v := fun y => pt_thD (by rw [a6]; decide) _ _ _ _
          rw [if_neg (by omega), a1, Option.bind_some] at hx2
          rw [hx2, Option.bind_some, if_neg (show ¬ v 121 7 = 0 by rw [a6]; decide), if_pos k1, hh, hh, ite_self]
          refine ⟨v, w, rfl, fun c j q1 q2 => a3 c j (by omega), fun c j q1 q2 => a4 c j q1, Or.inr ⟨by rw [a6]; decide, ⟨t, a5⟩, ?_, by rw [a8, a6], by rw [a9, a7]⟩⟩
          rw [if_pos e2, a2, Option.bind_some, Option.bind_some, if_pos rfl]
        · obtain ⟨o1, o2, o3⟩ := f4 th (by omega)
          obtain ⟨v, a1, a2, a3⟩ := pt_step hA ht
          obtain ⟨w, b1, b2, b3⟩ := pt_next (z := px_up z 167 (8 + th) (px_or (z 167 (8 + th)) (px_shl 1 (pt_mw b L (pt_st b L t))))) (t := t) (pt_B_up hB (by omega) (by omega))
          have m8 : pt_mw b L (pt_st b L t) < 8 := by omega
          have ev : v 142 th = z 167 (8 + th) := (a3 142 th (by omega)).trans o1
          rw [if_pos ⟨hmw, by omega⟩, a1, Option.bind_some] at hx2
          obtain ⟨q, hq, hq1, hq2⟩ : ∃ q : Int × px_Z, f_Reader_numberWithin u 0 ((nt : Int) - 1) = some q ∧ q.1 = pt_mw b L (pt_st b L t) ∧ q.2 = v := ⟨_, hx2, rfl, rfl⟩
          rw [hq, Option.bind_some, hq1, hq2, if_pos ((a3 121 7 (by omega)).trans h0), if_pos ⟨Int.natCast_nonneg _, by omega⟩, if_pos ⟨Int.natCast_nonneg _, by omega⟩, Int.toNat_natCast, ev]
          obtain ⟨s, hs⟩ : ∃ s : px_Z, px_up v 142 th (px_or (z 167 (8 + th)) (px_shl 1 (pt_mw b L (pt_st b L t)))) = s := ⟨_, rfl⟩
          simp only [hs]
          have sA : pt_A s b L T (t + 1) := by rw [← hs]; exact pt_A_up a2 (by omega) (by omega)
          obtain ⟨k1, k2, k3, k4⟩ := pt_A_tok sA
          obtain ⟨m1, m2⟩ := pt_isN b2
          have s7 : s 121 7 = 0 := by rw [← hs, pt_upn (by omega)]; exact (a3 121 7 (by omega)).trans h0
          have sF : pt_AF nt s w := by
            refine ⟨by rw [← hs, pt_upn (by omega)]; exact (a3 121 5 (by omega)).trans f1, by rw [b3 150 6 (by omega), pt_upn (by omega)]; exact f2, f3, fun i hi => ?_⟩
            rw [b3 167 (8 + i) (by omega), ← hs]
            by_cases ei : i = th
            · subst ei; rw [pt_upi, pt_upi]; exact ⟨rfl, pt_or8 o2 o3 hmw m8⟩
            · rw [pt_upn (by omega), pt_upn (by omega), a3 142 i (by omega)]; exact f4 i hi
          have sf : pt_fA u s := fun c j q1 q2 => by rw [← hs, pt_upn (by omega)]; exact a3 c j (by omega)
          have sg : pt_gA z w := fun c j q1 q2 => by rw [b3 c j (by omega)]; exact pt_upn (by omega)
          have g16 : 0 ≤ ((8 + th : Nat) : Int) ∧ ((8 + th : Nat) : Int) < 16 := ⟨Int.natCast_nonneg _, by omega⟩
          rw [if_pos k1, k2, pz_wr_suc (by omega), if_neg e2, if_neg e1, pz_w8 (show th < 8 by omega), if_pos g16, if_pos g16, Int.toNat_natCast, b1, Option.bind_some, Option.bind_some]
          dsimp only
          rw [if_neg pt_0n1, l_M_readAfterLine_23]
          by_cases e3 : pt_ck b L (pt_st b L (t + 1)) = 1
          · rw [if_pos e3, if_pos (m1.mpr e3)]
            obtain ⟨v', w', i1, i2, i3, i4⟩ := ih (T - (t + 1)) (by omega) (fu + 1) fm (t + 1) (x3 + 1) s w rfl (by omega) (by omega) (by omega) sA b2 s7 sF
            exact ⟨v', w', i1, fun c j q1 q2 => (i2 c j q1 q2).trans (sf c j q1 q2), fun c j q1 q2 => (i3 c j q1 q2).trans (sg c j q1 q2), i4⟩
          · rw [if_neg e3, if_neg (fun h => e3 (m1.mp h)), l_Reader_readAfterThings_4, if_pos rfl, ite_self]
            exact ⟨s, w, rfl, sf, sg, Or.inl ⟨s7, ⟨t + 1, sA, b2⟩, sF, rfl⟩⟩
    · obtain ⟨x, hx1, hx2⟩ := pt_nb hA 0 (px_wr (u 121 5 - 1))
      obtain ⟨v, w, a1, a2, a3, a4, a5, a6, a7, a8, a9⟩ := pt_bad hA hB h0 1
      obtain ⟨k1, k2, k3, k4⟩ := pt_A_tok a5
      have hh : ∀ y : Int, l_Reader_readAfterThings_4 (fu + 1) v (th : Int) y (px_wr ((x3 : Int) + 1)) = some v := fun y => pt_thD (by rw [a6]; decide) _ _ _ _
      rw [if_neg hk, hx2, if_neg hk, a1, Option.bind_some, Option.bind_some]
      dsimp only
      rw [if_neg (by rw [a6]; decide), if_pos k1, hh, hh, ite_self]
      refine ⟨v, w, rfl, fun c j q1 q2 => a3 c j (by omega), fun c j q1 q2 => a4 c j q1, Or.inr ⟨by rw [a6]; decide, ⟨t, a5⟩, ?_, by rw [a8, a6], by rw [a9, a7]⟩⟩
      unfold f_M_readOther
      rw [if_neg (fun h => hk (n1.mp h)), a2, Option.bind_some, Option.bind_some, if_pos rfl]
