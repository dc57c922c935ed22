/-! TEXT: AFTER, line by line -/
theorem pt_wordO {u z : px_Z} {b : Nat → Int} {L T t : Nat} (hA : pt_A u b L T t) (hB : pt_B z b L (pt_st b L t)) (h0 : u 121 7 = 0) {j : Nat} (hj : j < 28) {k m : Int} (hk : k = 256 + (j : Int)) (hm : m = (pt_pe j : Int)) : ∃ v w r, f_Reader_expect u k = some v ∧ f_M_readWord z m = some (r, w) ∧ pt_fa u v ∧ pt_fb z w ∧ pt_out b L T (t + 1) v w r := by
  subst hk; subst hm
  obtain ⟨v, w, r, a1, a2, a3, a4, a5⟩ := pt_word hA hB h0 hj
  refine ⟨v, w, r, a1, a2, a3, a4, ?_⟩
  rcases a5 with ⟨ok, ht, hA1, hB1, h1, hr⟩ | ⟨nok, hA1, h7, h8, hr, g1, g2⟩
  · exact Or.inl ⟨h1, hA1, hB1, by omega⟩
  · exact Or.inr ⟨by omega, ⟨_, hA1⟩, hr, by rw [g1, h7], by rw [g2, h8]⟩
theorem pt_numbO {u z : px_Z} {b : Nat → Int} {L T t : Nat} (hA : pt_A u b L T t) (hB : pt_B z b L (pt_st b L t)) (h0 : u 121 7 = 0) {lo hi : Int} (hlo : 0 ≤ lo) : ∃ v w r x, f_Reader_numberWithin u lo hi = some (x, v) ∧ f_M_readNumber z lo hi = some (r, w) ∧ pt_fa u v ∧ pt_fb z w ∧ pt_out b L T (t + 1) v w r ∧ (v 121 7 = 0 → x = r ∧ lo ≤ r ∧ r ≤ hi) := by
  obtain ⟨v, w, r, x, k, b1, b2, hk, hx, b3, b4, b5⟩ := pt_numb hA hB h0 lo hi
  refine ⟨v, w, r, x, b1, b2, b3, b4, ?_, ?_⟩
  · rcases b5 with ⟨ok2, ht2, hA2, hB2, h2, hr2⟩ | ⟨nok2, hA2, k7, k8, hr2, g1, g2⟩
    · exact Or.inl ⟨h2, hA2, hB2, by omega⟩
    · exact Or.inr ⟨by omega, ⟨_, hA2⟩, hr2, by rw [g1, k7], by rw [g2, k8]⟩
  · intro h
    rcases b5 with ⟨ok2, ht2, hA2, hB2, h2, hr2⟩ | ⟨nok2, hA2, k7, k8, hr2, g1, g2⟩
    · rw [hx ok2.1, hr2]; exact ⟨rfl, ok2.2.1, ok2.2.2⟩
    · omega
theorem pt_aD {u : px_Z} {b : Nat → Int} {L T : Nat} (hA : ∃ t, pt_A u b L T t) (h0 : u 121 7 ≠ 0) (x : Int) : ∃ v1 v3, f_Reader_expect u 279 = some v1 ∧ f_Reader_readAfterThings v1 x = some v1 ∧ f_Reader_expect v1 59 = some v3 ∧ pt_dead b L T u v3 ∧ pt_fa u v3 := by
  obtain ⟨t, hA⟩ := hA
  obtain ⟨v1, a1, ⟨t1, a2⟩, a3⟩ := pt_expectD hA h0 279
  have e7 : v1 121 7 ≠ 0 := by rw [a3 121 7 (by omega)]; exact h0
  obtain ⟨v3, b1, b2, b3⟩ := pt_expectD a2 e7 59
  exact ⟨v1, v3, a1, pt_thD e7 999999 x 1 0, b1, ⟨(b3 121 7 (by omega)).trans (a3 121 7 (by omega)), (b3 121 8 (by omega)).trans (a3 121 8 (by omega)), b2⟩, fun c j hh => (b3 c j (by omega)).trans (a3 c j (by omega))⟩
/-- the outcome of a line -/
def pt_AE (b : Nat → Int) (L T nt : Nat) (u v z w : px_Z) (r : Int) : Prop := pt_fA u v ∧ pt_gA z w ∧ ((v 121 7 = 0 ∧ (∃ t, pt_A v b L T t ∧ pt_B w b L (pt_st b L t)) ∧ pt_AF nt v w ∧ r ≠ -1) ∨ (v 121 7 ≠ 0 ∧ (∃ t, pt_A v b L T t) ∧ r = -1 ∧ w 150 31 = v 121 7 ∧ w 150 32 = v 121 8))
set_option maxHeartbeats 1000000 in
theorem pt_aline {u z : px_Z} {b : Nat → Int} {L T t nt : Nat} (hA : pt_A u b L T t) (hB : pt_B z b L (pt_st b L t)) (h0 : u 121 7 = 0) (hF : pt_AF nt u z) : ∃ x v0 v1 v2 v3 w r, f_Reader_numberWithin u 0 (px_wr (u 121 5 - 1)) = some (x, v0) ∧ f_Reader_expect v0 279 = some v1 ∧ f_Reader_readAfterThings v1 x = some v2 ∧ f_Reader_expect v2 59 = some v3 ∧ f_M_readAfterLine z = some (r, w) ∧ pt_AE b L T nt u v3 z w r := by
  have hbig : px_big = 1000000 := rfl
  obtain ⟨f1, f2, f3, f4⟩ := hF
  unfold f_M_readAfterLine
  rw [f1, f2, pt_wn f3]
  obtain ⟨v, w, r, x, a1, a2, a3, a4, a5, a6⟩ := pt_numbO hA hB h0 (lo := 0) (hi := (nt : Int) - 1) (by decide)
  rw [a2, Option.bind_some]
  dsimp only
  refine ⟨x, v, ?_⟩
  rcases a5 with ⟨h7, hA1, hB1, hr⟩ | ⟨h7, hA1, hr, e31, e32⟩
  · rw [if_neg hr]
    obtain ⟨xe, lo1, hi1⟩ := a6 h7
    subst xe
    obtain ⟨th, rfl⟩ : ∃ th : Nat, x = (th : Int) := ⟨x.toNat, by omega⟩
    have F1 := pt_AF_fr ⟨f1, f2, f3, f4⟩ a3 a4
    obtain ⟨v1, w1, r1, b1, b2, b3, b4, b5⟩ := pt_wordO hA1 hB1 h7 (j := 23) (by decide) (k := 279) (m := 23) rfl rfl
    rw [b2, Option.bind_some]
    dsimp only
    rcases b5 with ⟨h71, hA2, hB2, hr1⟩ | ⟨h71, hA2, hr1, e31, e32⟩
    · rw [if_neg hr1]
      have F2 := pt_AF_fr F1 b3 b4
      have hT : T ≤ 400 := by have := hA.1.2.1; have := hA.2.2.2; omega
      obtain ⟨v2, w2, c1, c2, c3, c4⟩ := pt_others (b := b) (L := L) (T := T) (nt := nt) (th := th) (by omega) (T - (t + 1 + 1)) px_big px_big (t + 1 + 1) 0 v1 w1 rfl (by omega) (by omega) (by omega) hA2 hB2 h71 F2
      rcases c4 with ⟨h72, ⟨t2, hA3, hB3⟩, F3, hR⟩ | ⟨h72, hA3, hR, e31, e32⟩
      · obtain ⟨v3, w3, r3, d1, d2, d3, d4, d5⟩ := pt_markO hA3 hB3 h72 (c := 59) rfl
        refine ⟨v1, v2, v3, w3, r3, a1, b1, c1, d1, ?_, fun c j q1 q2 => (d3 c j q1).trans ((c2 c j q1 q2).trans ((b3 c j q1).trans (a3 c j q1))), fun c j q1 q2 => (d4 c j q1).trans ((c3 c j q1 q2).trans ((b4 c j q1).trans (a4 c j q1))), ?_⟩
        · rw [hR, d2, Option.bind_some]
        · rcases d5 with ⟨h73, hA4, hB4, hr3⟩ | ⟨h73, hA4, hr3, e31, e32⟩
          · exact Or.inl ⟨h73, ⟨_, hA4, hB4⟩, pt_AF_fr F3 d3 d4, hr3⟩
          · exact Or.inr ⟨h73, hA4, hr3, e31, e32⟩
      · obtain ⟨t3, hA3⟩ := hA3
        obtain ⟨v3, d1, d2, d3⟩ := pt_expectD hA3 h72 59
        refine ⟨v1, v2, v3, w2, -1, a1, b1, c1, d1, hR, fun c j q1 q2 => (d3 c j (by omega)).trans ((c2 c j q1 q2).trans ((b3 c j q1).trans (a3 c j q1))), fun c j q1 q2 => (c3 c j q1 q2).trans ((b4 c j q1).trans (a4 c j q1)), Or.inr ⟨by rw [d3 121 7 (by omega)]; exact h72, d2, rfl, by rw [d3 121 7 (by omega)]; exact e31, by rw [d3 121 8 (by omega)]; exact e32⟩⟩
    · rw [if_pos hr1]
      obtain ⟨t3, hA2⟩ := hA2
      obtain ⟨v3, d1, d2, d3⟩ := pt_expectD hA2 h71 59
      exact ⟨v1, v1, v3, w1, -1, a1, b1, pt_thD h71 999999 _ 1 0, d1, rfl, fun c j q1 q2 => (d3 c j (by omega)).trans ((b3 c j q1).trans (a3 c j q1)), fun c j q1 q2 => (b4 c j q1).trans (a4 c j q1), Or.inr ⟨by rw [d3 121 7 (by omega)]; exact h71, d2, rfl, by rw [d3 121 7 (by omega)]; exact e31, by rw [d3 121 8 (by omega)]; exact e32⟩⟩
  · rw [if_pos hr]
    obtain ⟨v1, v3, d1, d2, d3, d4, d5⟩ := pt_aD hA1 h7 x
    exact ⟨v1, v1, v3, w, -1, a1, d1, d2, d3, rfl, fun c j q1 q2 => (d5 c j q1).trans (a3 c j q1), fun c j q1 q2 => a4 c j q1, Or.inr ⟨by rw [d4.1]; exact h7, d4.2.2, rfl, by rw [d4.1]; exact e31, by rw [d4.2.1]; exact e32⟩⟩
theorem pt_alD {u : px_Z} (h : u 121 7 ≠ 0) (n : Nat) (x : Int) : l_Reader_readAfter_9 (n + 1) u x = some u := by
  rw [l_Reader_readAfter_9]
  by_cases h1 : 12 < x
  · rw [if_pos h1]
  · rw [if_neg h1]; unfold f_Reader_goesOn; rw [if_neg h, Option.bind_some, if_pos rfl]
def pt_fA2 (u v : px_Z) : Prop := ∀ c j, ¬ (c = 121 ∧ (j = 4 ∨ j = 7 ∨ j = 8 ∨ j = 13)) → c ≠ 142 → v c j = u c j
def pt_AP (nt : Nat) (v w : px_Z) (r : Int) : Prop := ((v 121 7 = 0 ∧ v 121 8 = -1) ∧ ∃ m : Nat, m ≤ 12 ∧ r = (m : Int) ∧ v 121 13 = (m : Int) ∧ pt_AF nt v w) ∨ (v 121 7 ≠ 0 ∧ r = -1 ∧ w 150 31 = v 121 7 ∧ w 150 32 = v 121 8)
set_option maxHeartbeats 1000000 in
theorem pt_afterL {b : Nat → Int} {L T nt : Nat} : ∀ (d n fu fm t : Nat) (u z : px_Z), n + d = 12 → d + 1 < fu → d + 1 < fm → pt_A u b L T t → pt_B z b L (pt_st b L t) → u 121 7 = 0 → pt_AF nt u z → u 121 13 = (n : Int) → ∃ v w r, l_Reader_readAfter_9 fu u (n : Int) = some v ∧ l_M_readAfter_16 (fun s => if (s 150 17) < (s 150 6) then (f_M_errs s 3).bind (fun q8 => some (q8.1, q8.2)) else (f_M_errs s 2).bind (fun q9 => some (q9.1, q9.2))) (fun s x1 => if (s 150 16) = (0) then some (x1, s) else (f_M_errs s 1).bind (fun q11 => some (q11.1, q11.2))) fm z (n : Int) = some (r, w) ∧ pt_fA2 u v ∧ pt_gA z w ∧ pt_AP nt v w r := by
  intro d
  induction d with
  | zero =>
    intro n fu fm t u z hd hf hm hA hB h0 hF h13
    obtain ⟨fu, rfl⟩ : ∃ m, fu = m + 1 + 1 := ⟨fu - 2, by omega⟩
    obtain ⟨fm, rfl⟩ : ∃ m, fm = m + 1 := ⟨fm - 1, by omega⟩
    obtain ⟨g1, g2, g3, g4⟩ := pt_A_tok hA
    obtain ⟨n1, n2⟩ := pt_isN hB
    obtain ⟨f1, f2, f3, f4⟩ := hF
    have hn : (n : Int) = 12 := by omega
    have dead : ∀ (k : Int) (v w : px_Z), k ≠ 0 → f_M_errs z k = some (-1, w) → pt_fa u v → pt_fb z w → pt_A v b L T t → v 121 7 = k → v 121 8 = (pt_st b L t : Int) → w 150 31 = k → w 150 32 = (pt_st b L t : Int) → ∀ x : Int, ∃ v', (f_Reader_expect v 279).bind (fun q7 => (f_Reader_readAfterThings q7 x).bind (fun q8 => (f_Reader_expect q8 59).bind (fun q9 => l_Reader_readAfter_9 (fu + 1) (px_up q9 121 13 (px_wr ((q9 121 13) + 1))) (px_wr ((n : Int) + 1))))) = some v' ∧ pt_fA2 u v' ∧ pt_gA z w ∧ pt_AP nt v' w (-1) := by
      intro k v w hk a2 a3 a4 a5 a6 a7 a8 a9 x
      obtain ⟨v1, v3, d1, d2, d3, d4, d5⟩ := pt_aD ⟨t, a5⟩ (by rw [a6]; exact hk) x
      have e7 : px_up v3 121 13 (px_wr ((v3 121 13) + 1)) 121 7 = k := by rw [pt_upn (by omega), d4.1, a6]
      have e8 : px_up v3 121 13 (px_wr ((v3 121 13) + 1)) 121 8 = (pt_st b L t : Int) := by rw [pt_upn (by omega), d4.2.1, a7]
      refine ⟨px_up v3 121 13 (px_wr ((v3 121 13) + 1)), ?_, fun c j q1 q2 => ?_, fun c j q1 q2 => a4 c j q1, Or.inr ⟨by rw [e7]; exact hk, rfl, by rw [a8, e7], by rw [a9, e8]⟩⟩
      · rw [d1, Option.bind_some, d2, Option.bind_some, d3, Option.bind_some, pt_alD (by rw [e7]; exact hk)]
      · rw [pt_upn (by omega)]; exact (d5 c j (by omega)).trans (a3 c j (by omega))
    rw [l_Reader_readAfter_9, if_neg (show ¬ 12 < (n : Int) by omega), l_M_readAfter_16]
    rcases pt_isE hB with ⟨he, z0, c0⟩ | ⟨he, z0, c0⟩
    · rw [pt_gon1 hA h0 he, Option.bind_some, if_neg pt_1n0, if_pos hn, if_pos g1, g2]
      by_cases hk : pt_ck b L (pt_st b L t) = 1
      · rw [if_pos hk, if_pos g1, g3 hk, if_pos (n1.mpr hk), if_pos hn, (n2 hk).2, f1, f2]
        by_cases e2 : (nt : Int) ≤ pt_mw b L (pt_st b L t)
        · obtain ⟨v, w, a1, a2, a3, a4, a5, a6, a7, a8, a9⟩ := pt_bad hA hB h0 2
          obtain ⟨x, hx1, hx2⟩ := pt_nb hA 0 (px_wr ((nt : Int) - 1))
          have hx3 := hx1 hk
          subst hx3
          obtain ⟨v', p1, p2, p3, p4⟩ := dead 2 v w (by decide) a2 a3 a4 a5 a6 a7 a8 a9 (pt_mw b L (pt_st b L t))
          rw [if_pos e2, hx2, if_pos hk, pt_wn f3, if_neg (by omega), a1, Option.bind_some, Option.bind_some, if_neg (by omega), a2, Option.bind_some]
          exact ⟨v', w, -1, p1, rfl, p2, p3, p4⟩
        · obtain ⟨v, w, a1, a2, a3, a4, a5, a6, a7, a8, a9⟩ := pt_bad hA hB h0 3
          obtain ⟨x, v2, b1, ⟨t2, b2⟩, b3⟩ := pt_numbD a5 (by rw [a6]; decide) 0 (px_wr (v 121 5 - 1))
          obtain ⟨v1, v3, d1, d2, d3, d4, d5⟩ := pt_aD ⟨t2, b2⟩ (by rw [b3 121 7 (by omega), a6]; decide) x
          have e7 : px_up v3 121 13 (px_wr ((v3 121 13) + 1)) 121 7 = 3 := by rw [pt_upn (by omega), d4.1, b3 121 7 (by omega), a6]
          have e8 : px_up v3 121 13 (px_wr ((v3 121 13) + 1)) 121 8 = (pt_st b L t : Int) := by rw [pt_upn (by omega), d4.2.1, b3 121 8 (by omega), a7]
          rw [if_neg e2, a1, Option.bind_some, b1, Option.bind_some, d1, Option.bind_some, d2, Option.bind_some, d3, Option.bind_some, pt_alD (by rw [e7]; decide), if_pos (by omega), a2, Option.bind_some]
          refine ⟨_, w, -1, rfl, rfl, fun c j q1 q2 => ?_, fun c j q1 q2 => a4 c j q1, Or.inr ⟨by rw [e7]; decide, rfl, by rw [a8, e7], by rw [a9, e8]⟩⟩
          rw [pt_upn (by omega)]; exact (d5 c j (by omega)).trans ((b3 c j (by omega)).trans (a3 c j (by omega)))
      · obtain ⟨v, w, a1, a2, a3, a4, a5, a6, a7, a8, a9⟩ := pt_bad hA hB h0 1
        obtain ⟨x, hx1, hx2⟩ := pt_nb hA 0 (px_wr (u 121 5 - 1))
        obtain ⟨v', p1, p2, p3, p4⟩ := dead 1 v w (by decide) a2 a3 a4 a5 a6 a7 a8 a9 x
        rw [if_neg hk, hx2, if_neg hk, a1, Option.bind_some, Option.bind_some, if_neg (fun h => hk (n1.mp h)), if_neg z0, a2, Option.bind_some]
        exact ⟨v', w, -1, p1, rfl, p2, p3, p4⟩
    · rw [pt_gon0 hA he, Option.bind_some, if_pos rfl, if_neg (show ¬ z 150 16 = 3 by omega), if_pos z0]
      exact ⟨u, z, _, rfl, rfl, fun _ _ _ _ => rfl, fun _ _ _ _ => rfl, Or.inl ⟨⟨h0, hA.2.2.2.2 h0⟩, n, by omega, rfl, h13, f1, f2, f3, f4⟩⟩
  | succ d ih =>
    intro n fu fm t u z hd hf hm hA hB h0 hF h13
    obtain ⟨fu, rfl⟩ : ∃ m, fu = m + 1 + 1 := ⟨fu - 2, by omega⟩
    obtain ⟨fm, rfl⟩ : ∃ m, fm = m + 1 := ⟨fm - 1, by omega⟩
    obtain ⟨g1, g2, g3, g4⟩ := pt_A_tok hA
    obtain ⟨n1, n2⟩ := pt_isN hB
    have hn : ¬ (n : Int) = 12 := by omega
    rw [l_Reader_readAfter_9, if_neg (show ¬ 12 < (n : Int) by omega), l_M_readAfter_16]
    rcases pt_isE hB with ⟨he, z0, c0⟩ | ⟨he, z0, c0⟩
    · rw [pt_gon1 hA h0 he, Option.bind_some, if_neg pt_1n0, if_neg hn]
      by_cases hk : pt_ck b L (pt_st b L t) = 1
      · obtain ⟨x, v0, v1, v2, v3, w, r, a1, a2, a3, a4, a5, a6, a7, a8⟩ := pt_aline hA hB h0 hF
        have e13 : v3 121 13 = (n : Int) := (a6 121 13 (by omega) (by omega)).trans h13
        rw [a1, Option.bind_some, a2, Option.bind_some, a3, Option.bind_some, a4, Option.bind_some, e13, pz_wr_suc (by omega), if_pos (n1.mpr hk), if_neg hn, a5, Option.bind_some]
        dsimp only
        obtain ⟨s, hs⟩ : ∃ s : px_Z, px_up v3 121 13 ((n + 1 : Nat) : Int) = s := ⟨_, rfl⟩
        rw [hs]
        have sv : ∀ c j, ¬ (c = 121 ∧ j = 13) → s c j = v3 c j := fun c j q => by rw [← hs]; exact pt_upn q
        have sf : pt_fA2 u s := fun c j q1 q2 => by rw [sv c j (by omega)]; exact a6 c j (by omega) q2
        rcases a8 with ⟨h7, ⟨t', hA1, hB1⟩, F1, hr⟩ | ⟨h7, hA1, hr, e31, e32⟩
        · rw [if_neg hr]
          obtain ⟨v', w', r', i1, i2, i3, i4, i5⟩ := ih (n + 1) (fu + 1) fm t' s w (by omega) (by omega) (by omega) (by rw [← hs]; exact pt_A_up hA1 (by omega) (by omega)) hB1 (by rw [sv 121 7 (by omega)]; exact h7) ⟨by rw [sv 121 5 (by omega)]; exact F1.1, F1.2.1, F1.2.2.1, fun i hi => by rw [sv 142 i (by omega)]; exact F1.2.2.2 i hi⟩ (by rw [← hs]; exact pt_upi)
          exact ⟨v', w', r', i1, i2, fun c j q1 q2 => (i3 c j q1 q2).trans (sf c j q1 q2), fun c j q1 q2 => (i4 c j q1 q2).trans (a7 c j q1 q2), i5⟩
        · rw [if_pos hr, pt_alD (by rw [sv 121 7 (by omega)]; exact h7)]
          exact ⟨s, w, -1, rfl, rfl, sf, a7, Or.inr ⟨by rw [sv 121 7 (by omega)]; exact h7, rfl, by rw [sv 121 7 (by omega)]; exact e31, by rw [sv 121 8 (by omega)]; exact e32⟩⟩
      · obtain ⟨v, w, a1, a2, a3, a4, a5, a6, a7, a8, a9⟩ := pt_bad hA hB h0 1
        obtain ⟨x, hx1, hx2⟩ := pt_nb hA 0 (px_wr (u 121 5 - 1))
        obtain ⟨v1, v3, d1, d2, d3, d4, d5⟩ := pt_aD ⟨t, a5⟩ (by rw [a6]; decide) x
        have e7 : px_up v3 121 13 (px_wr ((v3 121 13) + 1)) 121 7 = 1 := by rw [pt_upn (by omega), d4.1, a6]
        have e8 : px_up v3 121 13 (px_wr ((v3 121 13) + 1)) 121 8 = (pt_st b L t : Int) := by rw [pt_upn (by omega), d4.2.1, a7]
        rw [hx2, if_neg hk, a1, Option.bind_some, Option.bind_some]
        dsimp only
        rw [d1, Option.bind_some, d2, Option.bind_some, d3, Option.bind_some, pt_alD (by rw [e7]; decide), if_neg (fun h => hk (n1.mp h)), if_neg z0, a2, Option.bind_some]
        refine ⟨_, w, -1, rfl, rfl, fun c j q1 q2 => ?_, fun c j q1 q2 => a4 c j q1, Or.inr ⟨by rw [e7]; decide, rfl, by rw [a8, e7], by rw [a9, e8]⟩⟩
        rw [pt_upn (by omega)]; exact (d5 c j (by omega)).trans (a3 c j (by omega))
    · rw [pt_gon0 hA he, Option.bind_some, if_pos rfl, if_neg (show ¬ z 150 16 = 3 by omega), if_pos z0]
      exact ⟨u, z, _, rfl, rfl, fun _ _ _ _ => rfl, fun _ _ _ _ => rfl, Or.inl ⟨⟨h0, hA.2.2.2.2 h0⟩, n, by omega, rfl, h13, hF⟩⟩
theorem pt_fill : ∀ (r n i : Nat) (s : px_Z), i + r = 8 → r < n → ∃ v, l_Arrays_fill_2_5 n s 0 (i : Int) 8 = some v ∧ (∀ j, i ≤ j → j < 8 → v 142 j = 0) ∧ (∀ c j, ¬ (c = 142 ∧ i ≤ j) → v c j = s c j) := by
  intro r
  induction r with
  | zero =>
    intro n i s hi hn
    obtain ⟨n, rfl⟩ : ∃ m, n = m + 1 := ⟨n - 1, by omega⟩
    rw [l_Arrays_fill_2_5, if_pos (by omega)]
    exact ⟨s, rfl, fun j h1 h2 => by omega, fun _ _ _ => rfl⟩
  | succ r ih =>
    intro n i s hi hn
    obtain ⟨n, rfl⟩ : ∃ m, n = m + 1 := ⟨n - 1, by omega⟩
    rw [l_Arrays_fill_2_5, if_neg (by omega), if_pos ⟨Int.natCast_nonneg _, by omega⟩, Int.toNat_natCast, pz_wr_suc (by omega)]
    obtain ⟨v, a1, a2, a3⟩ := ih n (i + 1) (px_up s 142 i 0) (by omega) (by omega)
    refine ⟨v, a1, fun j h1 h2 => ?_, fun c j h => ?_⟩
    · by_cases e : j = i
      · subst e; rw [a3 142 j (by omega), pt_upi]
      · exact a2 j (by omega) h2
    · rw [a3 c j (by omega), pt_upn (by omega)]
theorem pt_fillM {K : px_Z → Option (Int × px_Z)} : ∀ (r n i : Nat) (s : px_Z), i + r = 8 → r < n → ∃ v, l_M_readAfter_2 K n s (i : Int) = K v ∧ (∀ j, i ≤ j → j < 8 → v 167 (8 + j) = 0) ∧ (∀ c j, ¬ (c = 167 ∧ 8 + i ≤ j) → v c j = s c j) := by
  intro r
  induction r with
  | zero =>
    intro n i s hi hn
    obtain ⟨n, rfl⟩ : ∃ m, n = m + 1 := ⟨n - 1, by omega⟩
    rw [l_M_readAfter_2, if_pos (by omega)]
    exact ⟨s, rfl, fun j h1 h2 => by omega, fun _ _ _ => rfl⟩
  | succ r ih =>
    intro n i s hi hn
    obtain ⟨n, rfl⟩ : ∃ m, n = m + 1 := ⟨n - 1, by omega⟩
    rw [l_M_readAfter_2, if_neg (by omega), pz_w8 (by omega), if_pos ⟨Int.natCast_nonneg _, by omega⟩, Int.toNat_natCast, pz_wr_suc (by omega)]
    obtain ⟨v, a1, a2, a3⟩ := ih n (i + 1) (px_up s 167 (8 + i) 0) (by omega) (by omega)
    refine ⟨v, a1, fun j h1 h2 => ?_, fun c j h => ?_⟩
    · by_cases e : j = i
      · subst e; rw [a3 167 (8 + j) (by omega), pt_upi]
      · exact a2 j (by omega) h2
    · rw [a3 c j (by omega), pt_upn (by omega)]
theorem pt_after {b : Nat → Int} {L T t nt : Nat} {u z : px_Z} (hA : pt_A u b L T t) (hB : pt_B z b L (pt_st b L t)) (h0 : u 121 7 = 0) (h5 : u 121 5 = (nt : Int)) (h6 : z 150 6 = (nt : Int)) (h8 : nt ≤ 8) : ∃ v w r, f_Reader_readAfter u = some v ∧ f_M_readAfter z = some (r, w) ∧ pt_fA2 u v ∧ pt_gA z w ∧ pt_AP nt v w r := by
  have hbig : px_big = 1000000 := rfl
  obtain ⟨u1, p1, p2, p3⟩ := pt_fill 8 px_big 0 (px_up u 121 13 0) rfl (by omega)
  obtain ⟨z1, k1, k2, k3⟩ := pt_fillM (K := fun s => l_M_readAfter_16 (fun s => if (s 150 17) < (s 150 6) then (f_M_errs s 3).bind (fun q8 => some (q8.1, q8.2)) else (f_M_errs s 2).bind (fun q9 => some (q9.1, q9.2))) (fun s x1 => if (s 150 16) = (0) then some (x1, s) else (f_M_errs s 1).bind (fun q11 => some (q11.1, q11.2))) px_big s 0) 8 px_big 0 z rfl (by omega)
  have q3 : ∀ c j, c ≠ 142 → ¬ (c = 121 ∧ j = 13) → u1 c j = u c j := fun c j g1 g2 => (p3 c j (by omega)).trans (pt_upn g2)
  obtain ⟨v, w, r, a1, a2, a3, a4, a5⟩ := pt_afterL (b := b) (L := L) (T := T) (nt := nt) 12 0 px_big px_big t u1 z1 rfl (by omega) (by omega) (pt_A_of hA (fun j hj => q3 121 j (by omega) (by omega)) (fun c j g1 g2 => q3 c j (by omega) (by omega))) (pt_B_of hB (fun j g1 g2 => k3 150 j (by omega)) (fun j => k3 156 j (by omega)) (fun j => k3 157 j (by omega))) ((q3 121 7 (by omega) (by omega)).trans h0) ⟨(q3 121 5 (by omega) (by omega)).trans h5, (k3 150 6 (by omega)).trans h6, h8, fun i hi => ⟨(p2 i (by omega) hi).trans (k2 i (by omega) hi).symm, by rw [k2 i (by omega) hi]; decide, by rw [k2 i (by omega) hi]; decide⟩⟩ ((p3 121 13 (by omega)).trans pt_upi)
  refine ⟨v, w, r, ?_, ?_, fun c j g1 g2 => (a3 c j g1 g2).trans (q3 c j g2 (by omega)), fun c j g1 g2 => (a4 c j g1 g2).trans (k3 c j (by omega)), a5⟩
  · unfold f_Reader_readAfter f_Arrays_fill_2
    have p1' : l_Arrays_fill_2_5 px_big (px_up u 121 13 0) 0 0 8 = some u1 := p1
    rw [p1', Option.bind_some]
    exact a1
  · unfold f_M_readAfter
    exact k1.trans a2
