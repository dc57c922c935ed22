/-! TEXT: a deed of A PLAN -/
theorem pt_fxm {x : List Int} : ∀ (ws : List (List Int)) (k j : Nat), pt_fx x ws k = some j → x ∈ ws := by
  intro ws
  induction ws with
  | nil => intro k j h; cases h
  | cons w ws ih =>
    intro k j h
    rw [pt_fx] at h
    by_cases e : x = w
    · rw [e]; exact List.mem_cons_self
    · rw [if_neg e] at h
      exact List.mem_cons_of_mem _ (ih _ _ h)
theorem pt_sll (b : Nat → Int) : ∀ (r i : Nat), (pt_sl b r i).length = r := by
  intro r
  induction r with
  | zero => intro i; rfl
  | succ r ih => intro i; rw [pt_sl, List.length_cons, ih]
theorem pt_wl : ∀ x ∈ pt_ws, (pt_fx x pt_ws 0 = some 27 → x.length = 5) ∧ (pt_fx x pt_ws 0 = some 24 → x.length = 3) ∧ (pt_fx x pt_ws 0 = some 25 → x.length = 3) ∧ (pt_fx x pt_ws 0 = some 26 → x.length = 4) := by decide +kernel
theorem pt_wlen {b : Nat → Int} {L i j : Nat} (hi : i ≤ L) (h : pt_ck b L i = 256 + (j : Int)) : (j = 27 → i + 5 ≤ pt_en b L i) ∧ (24 ≤ j ∧ j ≤ 26 → i + 3 ≤ pt_en b L i) := by
  have hen := (pt_en_le b hi).1
  obtain ⟨r, hr⟩ : ∃ r, pt_en b L i = i + r := ⟨pt_en b L i - i, by omega⟩
  have hx : pt_fx (pt_sl b r i) pt_ws 0 = some j := by
    unfold pt_ck at h
    by_cases hl : i < L
    · rw [if_pos hl] at h
      cases hle : pt_le (b i)
      · rw [hle, if_neg (by decide)] at h
        cases hdi : pt_di (b i)
        · rw [hdi, if_neg (by decide)] at h
          cases hsg : pt_sg (b i)
          · rw [hsg, if_neg (by decide)] at h; omega
          · rw [hsg, if_pos rfl] at h
            have hcr := of_decide_eq_true hsg
            omega
        · rw [hdi, if_pos rfl] at h
          by_cases h5 : pt_en b L i < i + 5
          · rw [if_pos h5] at h; omega
          · rw [if_neg h5] at h; omega
      · rw [hle, if_pos rfl, hr, pt_ixf] at h
        cases hh : pt_fx (pt_sl b r i) pt_ws 0 with
        | none => rw [hh] at h; have h' : (2 : Int) = 256 + (j : Int) := h; omega
        | some q => rw [hh] at h; have h' : 256 + (q : Int) = 256 + (j : Int) := h; rw [show q = j by omega]
    · rw [if_neg hl] at h; omega
  obtain ⟨w1, w2, w3, w4⟩ := pt_wl _ (pt_fxm _ _ _ hx)
  rw [pt_sll] at w1 w2 w3 w4
  refine ⟨fun e => ?_, fun e => ?_⟩
  · subst e; have := w1 hx; omega
  · have e3 : j = 24 ∨ j = 25 ∨ j = 26 := by omega
    rcases e3 with e | e | e
    · subst e; have := w2 hx; omega
    · subst e; have := w3 hx; omega
    · subst e; have := w4 hx; omega
theorem pt_stE {b : Nat → Int} {L t : Nat} : pt_en b L (pt_st b L t) ≤ pt_st b L (t + 1) := (pt_sk_le b (pt_en_le b (pt_st_le b L t)).2.1).1
theorem pt_st1 {u : px_Z} {b : Nat → Int} {L T t s : Nat} (hA : pt_A u b L T s) (ht : t < T) : pt_st b L t + 1 ≤ pt_st b L (t + 1) := by
  have h1 := hA.1.2.2.1 t ht
  have h2 := (pt_en_le b (pt_st_le b L t)).2.2 h1
  have h3 := pt_stE (b := b) (L := L) (t := t)
  omega
theorem pt_es {z : px_Z} {k : Nat} (h : z 150 42 = (k : Int)) (hk : k < 140) (x1 x2 x3 : Int) : ∃ w, f_M_emitsStep z x1 x2 x3 = some w ∧ w 150 42 = ((k + 1 : Nat) : Int) ∧ w 168 k = x1 ∧ w 169 k = x2 ∧ w 170 k = x3 ∧ (∀ c j, ¬ (c = 150 ∧ j = 42) → ¬ (168 ≤ c ∧ c ≤ 170 ∧ j = k) → w c j = z c j) := by
  have g : 0 ≤ (k : Int) ∧ (k : Int) < 140 := by omega
  refine ⟨px_up (px_up (px_up (px_up z 168 k x1) 169 k x2) 170 k x3) 150 42 ((k + 1 : Nat) : Int), ?_, pt_upi, ?_, ?_, ?_, ?_⟩
  · unfold f_M_emitsStep
    simp only [pt_upc, ne_eq, Nat.reduceEqDiff, not_false_eq_true, h, if_pos g, Int.toNat_natCast]
    rw [pz_wr_suc (by omega)]
  · rw [pt_upn (by omega), pt_upn (by omega), pt_upn (by omega), pt_upi]
  · rw [pt_upn (by omega), pt_upn (by omega), pt_upi]
  · rw [pt_upn (by omega), pt_upi]
  · intro c j h1 h2
    rw [pt_upn (by omega), pt_upn (by omega), pt_upn (by omega), pt_upn (by omega)]
theorem pt_ad {u : px_Z} {N : Nat} (h : u 138 0 = (N : Int)) (hN : N < 2000000) (x1 x2 x3 : Int) : ∃ v, f_Plan_addDeed u x1 x2 x3 = some v ∧ v 138 0 = ((N + 1 : Nat) : Int) ∧ (N < 60 → v 139 N = x1 ∧ v 140 N = x2 ∧ v 141 N = x3) ∧ (∀ c j, ¬ (c = 138 ∧ j = 0) → ¬ (139 ≤ c ∧ c ≤ 141 ∧ j = N) → v c j = u c j) := by
  by_cases h6 : N < 60
  · have g : 0 ≤ (N : Int) ∧ (N : Int) < 60 := by omega
    refine ⟨px_up (px_up (px_up (px_up u 139 N x1) 140 N x2) 141 N x3) 138 0 ((N + 1 : Nat) : Int), ?_, pt_upi, fun _ => ⟨?_, ?_, ?_⟩, ?_⟩
    · unfold f_Plan_addDeed
      simp only [pt_upc, ne_eq, Nat.reduceEqDiff, not_false_eq_true, h, if_pos g, Int.toNat_natCast]
      rw [if_neg (by omega), pz_wr_suc (by omega)]
    · rw [pt_upn (by omega), pt_upn (by omega), pt_upn (by omega), pt_upi]
    · rw [pt_upn (by omega), pt_upn (by omega), pt_upi]
    · rw [pt_upn (by omega), pt_upi]
    · intro c j h1 h2
      rw [pt_upn (by omega), pt_upn (by omega), pt_upn (by omega), pt_upn (by omega)]
  · refine ⟨px_up u 138 0 ((N + 1 : Nat) : Int), ?_, pt_upi, fun hh => absurd hh h6, fun c j h1 h2 => pt_upn h1⟩
    unfold f_Plan_addDeed
    rw [h, if_pos (show (60 : Int) ≤ (N : Int) by omega), pz_wr_suc (by omega)]
/-- a deed of both -/
def pt_dr (nt : Nat) (a b c o x y : Int) : Prop := a = 280 + o ∧ b = x ∧ ((o = 0 ∧ c = y ∧ 0 ≤ b ∧ b < (nt : Int) ∧ 0 ≤ c ∧ c ≤ 5) ∨ ((o = 1 ∨ o = 2) ∧ 1 ≤ b ∧ b ≤ 20))
def pt_fdn (N : Nat) (u v : px_Z) : Prop := ∀ c j, ¬ (c = 121 ∧ (j = 4 ∨ j = 7 ∨ j = 8)) → ¬ (c = 138 ∧ j = 0) → ¬ (139 ≤ c ∧ c ≤ 141 ∧ j = N) → v c j = u c j
def pt_gdn (k : Nat) (z w : px_Z) : Prop := ∀ c j, ¬ (c = 150 ∧ ((14 ≤ j ∧ j ≤ 17) ∨ j = 31 ∨ j = 32 ∨ j = 42)) → ¬ (168 ≤ c ∧ c ≤ 170 ∧ j = k) → w c j = z c j
def pt_q3 (x1 x2 x3 : Int) (q : px_Z) : Option px_Z := (f_Plan_addDeed q x1 x2 x3).bind (fun q8 => (f_Reader_expect q8 59).bind (fun q9 => some q9))
theorem pt_q3D {u : px_Z} {b : Nat → Int} {L T N : Nat} (hA : ∃ t, pt_A u b L T t) (h0 : u 121 7 ≠ 0) (hN : u 138 0 = (N : Int)) (hN2 : N < 2000000) (x1 x2 x3 : Int) : ∃ v, pt_q3 x1 x2 x3 u = some v ∧ pt_dead b L T u v ∧ pt_fdn N u v := by
  obtain ⟨t, hA⟩ := hA
  obtain ⟨s, e1, _, _, e2⟩ := pt_ad hN hN2 x1 x2 x3
  have hs : pt_A s b L T t := pt_A_of hA (fun j hj => e2 121 j (by omega) (by omega)) (fun c j h1 h2 => e2 c j (by omega) (by omega))
  obtain ⟨v, a1, a2, a3⟩ := pt_expectD hs (by rw [e2 121 7 (by omega) (by omega)]; exact h0) 59
  unfold pt_q3
  rw [e1, Option.bind_some, a1, Option.bind_some]
  exact ⟨v, rfl, ⟨(a3 121 7 (by omega)).trans (e2 121 7 (by omega) (by omega)), (a3 121 8 (by omega)).trans (e2 121 8 (by omega) (by omega)), a2⟩, fun c j g1 g2 g3 => (a3 c j (by omega)).trans (e2 c j g2 g3)⟩
/-- the deed's mark; then both have it -/
theorem pt_q3P {u z : px_Z} {b : Nat → Int} {L T t N k nt : Nat} (hA : pt_A u b L T t) (hB : pt_B z b L (pt_st b L t)) (h0 : u 121 7 = 0) (hN : u 138 0 = (N : Int)) (hN2 : N < 2000000) (hk : z 150 42 = (k : Int)) (hk4 : k < 140) {x1 x2 x3 o y : Int} (hd : pt_dr nt x1 x2 x3 o x2 y) : ∃ v w r, pt_q3 x1 x2 x3 u = some v ∧ (f_M_readMark z 59).bind (fun q8 => if (q8.1) = ((-1)) then some (((-1), q8.2)) else (f_M_emitsStep q8.2 o x2 y).bind (fun q10 => some (0, q10))) = some (r, w) ∧ pt_fdn N u v ∧ pt_gdn k z w ∧ ((r = 0 ∧ pt_A v b L T (t + 1) ∧ pt_B w b L (pt_st b L (t + 1)) ∧ v 121 7 = 0 ∧ v 138 0 = ((N + 1 : Nat) : Int) ∧ w 150 42 = ((k + 1 : Nat) : Int) ∧ (N < 60 → pt_dr nt (v 139 N) (v 140 N) (v 141 N) (w 168 k) (w 169 k) (w 170 k)) ∧ w 168 k = o) ∨ (r = -1 ∧ v 121 7 ≠ 0 ∧ (∃ t, pt_A v b L T t) ∧ w 150 31 = v 121 7 ∧ w 150 32 = v 121 8)) := by
  obtain ⟨s, e1, e2, e3, e4⟩ := pt_ad hN hN2 x1 x2 x3
  have hs : pt_A s b L T t := pt_A_of hA (fun j hj => e4 121 j (by omega) (by omega)) (fun c j h1 h2 => e4 c j (by omega) (by omega))
  obtain ⟨v, w, r, a1, a2, a3, a4, a5⟩ := pt_markO hs hB ((e4 121 7 (by omega) (by omega)).trans h0) (c := 59) rfl
  unfold pt_q3
  rw [e1, Option.bind_some, a1, Option.bind_some, a2, Option.bind_some]
  dsimp only
  have F : pt_fdn N u v := fun c j g1 g2 g3 => (a3 c j g1).trans (e4 c j g2 g3)
  rcases a5 with ⟨h7, hA1, hB1, hr⟩ | ⟨h7, hA1, hr, e31, e32⟩
  · rw [if_neg hr]
    obtain ⟨w2, b1, b2, b3, b4, b5, b6⟩ := pt_es (z := w) ((a4 150 42 (by omega)).trans hk) hk4 o x2 y
    rw [b1, Option.bind_some]
    refine ⟨v, w2, 0, rfl, rfl, F, fun c j g1 g2 => (b6 c j (by omega) g2).trans (a4 c j (by omega)), Or.inl ⟨rfl, hA1, pt_B_of hB1 (fun j g1 g2 => b6 150 j (by omega) (by omega)) (fun j => b6 156 j (by omega) (by omega)) (fun j => b6 157 j (by omega) (by omega)), h7, (a3 138 0 (by omega)).trans e2, b2, fun h6 => ?_, b3⟩⟩
    obtain ⟨d1, d2, d3⟩ := e3 h6
    rw [a3 139 N (by omega), a3 140 N (by omega), a3 141 N (by omega), d1, d2, d3, b3, b4, b5]
    exact hd
  · rw [if_pos hr]
    exact ⟨v, w, -1, rfl, rfl, F, fun c j g1 g2 => a4 c j (by omega), Or.inr ⟨rfl, h7, hA1, e31, e32⟩⟩
/-- the outcome of a deed -/
def pt_DO (b : Nat → Int) (L T N k nt t : Nat) (u v z w : px_Z) (r : Int) : Prop := pt_fdn N u v ∧ pt_gdn k z w ∧ ((r = 0 ∧ (∃ t', t < t' ∧ pt_st b L t + 4 ≤ pt_st b L t' ∧ pt_A v b L T t' ∧ pt_B w b L (pt_st b L t')) ∧ v 121 7 = 0 ∧ v 138 0 = ((N + 1 : Nat) : Int) ∧ w 150 42 = ((k + 1 : Nat) : Int) ∧ (N < 60 → pt_dr nt (v 139 N) (v 140 N) (v 141 N) (w 168 k) (w 169 k) (w 170 k)) ∧ w 168 k ≠ 3 ∧ w 168 k ≠ 4) ∨ (r = -1 ∧ v 121 7 ≠ 0 ∧ (∃ t, pt_A v b L T t) ∧ w 150 31 = v 121 7 ∧ w 150 32 = v 121 8))
set_option maxHeartbeats 2000000 in
theorem pt_deed {u z : px_Z} {b : Nat → Int} {L T t N k nt : Nat} (hA : pt_A u b L T t) (hB : pt_B z b L (pt_st b L t)) (h0 : u 121 7 = 0) (hw : 280 ≤ pt_ck b L (pt_st b L t) ∧ pt_ck b L (pt_st b L t) ≤ 282) (h5 : u 121 5 = (nt : Int)) (h6 : z 150 6 = (nt : Int)) (h8 : nt ≤ 8) (hN : u 138 0 = (N : Int)) (hN2 : N < 2000000) (hk : z 150 42 = (k : Int)) (hk4 : k < 140) : ∃ v1 v w r, f_Reader_step u = some v1 ∧ f_Reader_readDeed v1 (pt_ck b L (pt_st b L t)) = some v ∧ f_M_readDeed z = some (r, w) ∧ pt_DO b L T N k nt t u v z w r := by
  have ht := pt_A_end hA (by omega)
  obtain ⟨v1, w1, a1, a2, a3, a4, a5, a6, a7⟩ := pt_good hA hB h0 ht
  obtain ⟨j, hj1, hj2⟩ : ∃ j : Nat, pt_ck b L (pt_st b L t) = 256 + (j : Int) ∧ 24 ≤ j ∧ j ≤ 26 := ⟨(pt_ck b L (pt_st b L t) - 256).toNat, by omega, by omega⟩
  have hlen := (pt_wlen (pt_st_le b L t) hj1).2 hj2
  have hst := pt_stE (b := b) (L := L) (t := t)
  have ez : z 150 17 = (j : Int) := by
    have h10 := hB.2.2.2.2.2.2.2.2.2
    rcases pt_kinds b hB.2.2.2.2.2.1 with ⟨k1, k2, k3⟩ | ⟨ki, k1, k2⟩ | ⟨ki, k1, k2⟩ | ⟨ki, k1, k2, k3⟩ | ⟨j', ki, kj, k1, k2, k3⟩
    · omega
    · omega
    · omega
    · have hcr := of_decide_eq_true k1
      omega
    · rw [h10 ki, k3]
      have e : j' = j := by omega
      subst e
      have hj : j' = 24 ∨ j' = 25 ∨ j' = 26 := by omega
      rcases hj with e | e | e <;> subst e <;> decide
  have ew : px_wr (z 150 17 - 24) = (j : Int) - 24 := by rw [ez]; exact pz_wr_id (by omega) (by omega)
  have n1 : v1 138 0 = (N : Int) := (a3 138 0 (by omega)).trans hN
  have k1 : w1 150 42 = (k : Int) := (a4 150 42 (by omega)).trans hk
  have fin : ∀ {v w : px_Z} {r : Int} {t' : Nat}, pt_fdn N v1 v → pt_gdn k w1 w → t + 2 ≤ t' → ((r = 0 ∧ pt_A v b L T (t' + 1) ∧ pt_B w b L (pt_st b L (t' + 1)) ∧ v 121 7 = 0 ∧ v 138 0 = ((N + 1 : Nat) : Int) ∧ w 150 42 = ((k + 1 : Nat) : Int) ∧ (N < 60 → pt_dr nt (v 139 N) (v 140 N) (v 141 N) (w 168 k) (w 169 k) (w 170 k)) ∧ w 168 k ≠ 3 ∧ w 168 k ≠ 4) ∨ (r = -1 ∧ v 121 7 ≠ 0 ∧ (∃ t, pt_A v b L T t) ∧ w 150 31 = v 121 7 ∧ w 150 32 = v 121 8)) → pt_DO b L T N k nt t u v z w r := by
    intro v w r t' f1 f2 htt f3
    refine ⟨fun c j g1 g2 g3 => (f1 c j g1 g2 g3).trans (a3 c j g1), fun c j g1 g2 => (f2 c j g1 g2).trans (a4 c j (by omega)), ?_⟩
    rcases f3 with ⟨q1, q2, q3, q4, q5, q6, q7, q8, q9⟩ | q
    · refine Or.inl ⟨q1, ⟨t' + 1, by omega, ?_, q2, q3⟩, q4, q5, q6, q7, q8, q9⟩
      have hT := q2.2.2.1
      have s1 := pt_st1 q2 (show t' < T by omega)
      have mono : ∀ d x, x + d ≤ T → pt_st b L x ≤ pt_st b L (x + d) := by
        intro d
        induction d with
        | zero => intro x _; exact Nat.le_refl _
        | succ d ih =>
          intro x hx
          have i1 := ih x (by omega)
          have i2 := pt_st1 q2 (show x + d < T by omega)
          rw [show x + (d + 1) = x + d + 1 by omega]
          omega
      have s2 := mono (t' - (t + 1)) (t + 1) (by omega)
      rw [show t + 1 + (t' - (t + 1)) = t' by omega] at s2
      omega
    · exact Or.inr q
  unfold f_M_readDeed
  rw [a2, Option.bind_some]
  refine ⟨v1, ?_⟩
  rw [ew]
  unfold f_Reader_readDeed j_M_readDeed_j13
  by_cases e280 : pt_ck b L (pt_st b L t) = 280
  · have j24 : (j : Int) - 24 = 0 := by omega
    rw [if_pos e280, if_pos j24, if_pos j24, a3 121 5 (by omega), h5, a4 150 6 (by omega), h6, pt_wn h8, j24, e280]
    unfold j_M_readDeed_j21
    obtain ⟨v2, w2, r2, x2, b1, b2, b3, b4, b5, b6⟩ := pt_numbO a5 a6 a7 (lo := 0) (hi := (nt : Int) - 1) (by decide)
    rw [b1, b2, Option.bind_some, Option.bind_some]
    dsimp only
    rcases b5 with ⟨h72, hA2, hB2, hr2⟩ | ⟨h72, hA2, hr2, e31, e32⟩
    · obtain ⟨x2e, lo2, hi2⟩ := b6 h72
      subst x2e
      rw [if_neg hr2, if_pos rfl]
      obtain ⟨v3', v3, w3, r3, x3, c1, c2, c3, c4, c5, c6, c7⟩ := pt_tol hA2 hB2 h72 (j := 22) (by decide) (k := 278) (m := 22) rfl rfl (lo := 0) (hi := 5) (by decide)
      rw [c1, Option.bind_some, c2, c3, Option.bind_some, Option.bind_some]
      dsimp only
      unfold j_M_readDeed_j37
      have n3 : v3 138 0 = (N : Int) := (c4 138 0 (by omega)).trans ((b3 138 0 (by omega)).trans n1)
      have k3 : w3 150 42 = (k : Int) := (c5 150 42 (by omega)).trans ((b4 150 42 (by omega)).trans k1)
      rcases c6 with ⟨h73, hA3, hB3, hr3⟩ | ⟨h73, hA3, hr3, e31, e32⟩
      · obtain ⟨x3e, lo3, hi3⟩ := c7 h73
        subst x3e
        rw [if_neg hr3]
        obtain ⟨v, w, r, d1, d2, d3, d4, d5⟩ := pt_q3P (nt := nt) hA3 hB3 h73 n3 hN2 k3 hk4 (x1 := 280) (x2 := x2) (x3 := x3) (o := 0) (y := x3) ⟨rfl, rfl, Or.inl ⟨rfl, rfl, by omega, by omega, by omega, by omega⟩⟩
        refine ⟨v, w, r, a1, d1, d2, fin (t' := t + 1 + 1 + 2) (fun c j g1 g2 g3 => (d3 c j g1 g2 g3).trans ((c4 c j g1).trans (b3 c j g1))) (fun c j g1 g2 => (d4 c j g1 g2).trans ((c5 c j (by omega)).trans (b4 c j (by omega)))) (by omega) ?_⟩
        rcases d5 with ⟨q1, q2, q3, q4, q5, q6, q7, q8⟩ | q
        · exact Or.inl ⟨q1, q2, q3, q4, q5, q6, q7, by rw [q8]; decide, by rw [q8]; decide⟩
        · exact Or.inr q
      · rw [if_pos hr3]
        obtain ⟨v, d1, d2, d3⟩ := pt_q3D hA3 h73 n3 hN2 280 x2 x3
        exact ⟨v, w3, -1, a1, d1, rfl, fin (t' := t + 2) (fun c j g1 g2 g3 => (d3 c j g1 g2 g3).trans ((c4 c j g1).trans (b3 c j g1))) (fun c j g1 g2 => (c5 c j (by omega)).trans (b4 c j (by omega))) (by omega) (Or.inr ⟨rfl, by rw [d2.1]; exact h73, d2.2.2, by rw [d2.1]; exact e31, by rw [d2.2.1]; exact e32⟩)⟩
    · rw [if_pos hr2]
      obtain ⟨v3', x3, v3, c1, c2, c3, c4⟩ := pt_enD hA2 h72 278 0 5
      obtain ⟨v, d1, d2, d3⟩ := pt_q3D c3.2.2 (by rw [c3.1]; exact h72) ((c4 138 0 (by omega)).trans ((b3 138 0 (by omega)).trans n1)) hN2 280 x2 x3
      rw [c1, Option.bind_some, c2, Option.bind_some]
      exact ⟨v, w2, -1, a1, d1, rfl, fin (t' := t + 2) (fun c j g1 g2 g3 => (d3 c j g1 g2 g3).trans ((c4 c j g1).trans (b3 c j g1))) (fun c j g1 g2 => b4 c j (by omega)) (by omega) (Or.inr ⟨rfl, by rw [d2.1, c3.1]; exact h72, d2.2.2, by rw [d2.1, c3.1]; exact e31, by rw [d2.2.1, c3.2.1]; exact e32⟩)⟩
  · have j24 : ¬ (j : Int) - 24 = 0 := by omega
    rw [if_neg e280, if_neg j24, if_neg j24]
    unfold j_M_readDeed_j21
    obtain ⟨v2, w2, r2, x2, b1, b2, b3, b4, b5, b6⟩ := pt_numbO a5 a6 a7 (lo := 1) (hi := 20) (by decide)
    rw [b1, b2, Option.bind_some, Option.bind_some]
    dsimp only
    have n2 : v2 138 0 = (N : Int) := (b3 138 0 (by omega)).trans n1
    have k2 : w2 150 42 = (k : Int) := (b4 150 42 (by omega)).trans k1
    rcases b5 with ⟨h72, hA2, hB2, hr2⟩ | ⟨h72, hA2, hr2, e31, e32⟩
    · obtain ⟨x2e, lo2, hi2⟩ := b6 h72
      subst x2e
      unfold j_M_readDeed_j37
      rw [if_neg hr2, if_neg j24, if_neg pt_0n1]
      obtain ⟨v, w, r, d1, d2, d3, d4, d5⟩ := pt_q3P (nt := nt) hA2 hB2 h72 n2 hN2 k2 hk4 (x1 := pt_ck b L (pt_st b L t)) (x2 := x2) (x3 := -1) (o := (j : Int) - 24) (y := 0) ⟨by omega, rfl, Or.inr ⟨by omega, lo2, hi2⟩⟩
      refine ⟨v, w, r, a1, d1, d2, fin (t' := t + 1 + 1) (fun c j g1 g2 g3 => (d3 c j g1 g2 g3).trans (b3 c j g1)) (fun c j g1 g2 => (d4 c j g1 g2).trans (b4 c j (by omega))) (by omega) ?_⟩
      rcases d5 with ⟨q1, q2, q3, q4, q5, q6, q7, q8⟩ | q
      · exact Or.inl ⟨q1, q2, q3, q4, q5, q6, q7, by rw [q8]; omega, by rw [q8]; omega⟩
      · exact Or.inr q
    · rw [if_pos hr2]
      obtain ⟨v, d1, d2, d3⟩ := pt_q3D hA2 h72 n2 hN2 (pt_ck b L (pt_st b L t)) x2 (-1)
      exact ⟨v, w2, -1, a1, d1, rfl, fin (t' := t + 2) (fun c j g1 g2 g3 => (d3 c j g1 g2 g3).trans (b3 c j g1)) (fun c j g1 g2 => b4 c j (by omega)) (by omega) (Or.inr ⟨rfl, by rw [d2.1]; exact h72, d2.2.2, by rw [d2.1]; exact e31, by rw [d2.2.1]; exact e32⟩)⟩
