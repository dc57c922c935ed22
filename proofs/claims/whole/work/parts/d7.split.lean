/-! TOKENS: all of the class -/
def pt_sk (b : Nat → Int) (L e : Nat) : Nat := pt_to pt_bl b (L - e) e
/-- where the t-th token begins -/
def pt_st (b : Nat → Int) (L : Nat) : Nat → Nat
  | 0 => pt_sk b L 0
  | t + 1 => pt_sk b L (pt_en b L (pt_st b L t))
theorem pt_en_le (b : Nat → Int) {L i : Nat} (h : i ≤ L) : i ≤ pt_en b L i ∧ pt_en b L i ≤ L ∧ (i < L → i < pt_en b L i) := by
  unfold pt_en
  by_cases h1 : i < L
  · rw [if_pos h1]
    have a := pt_to_le (p := pt_le) (b := b) (L - (i + 1)) (i + 1)
    have c := pt_to_le (p := pt_di) (b := b) (L - (i + 1)) (i + 1)
    split
    · omega
    · split
      · omega
      · omega
  · rw [if_neg h1]; omega
theorem pt_sk_le (b : Nat → Int) {L e : Nat} (h : e ≤ L) : e ≤ pt_sk b L e ∧ pt_sk b L e ≤ L := by
  have a := pt_to_le (p := pt_bl) (b := b) (L - e) e
  unfold pt_sk; omega
theorem pt_st_le (b : Nat → Int) (L : Nat) : ∀ t, pt_st b L t ≤ L := by
  intro t
  induction t with
  | zero => exact (pt_sk_le b (Nat.zero_le _)).2
  | succ t ih => exact (pt_sk_le b (pt_en_le b ih).2.1).2
/-- the class's tokens of the TEXT b of L bytes: T and the end -/
def pt_toks (u : px_Z) (b : Nat → Int) (L T : Nat) : Prop := u 121 3 = ((T + 1 : Nat) : Int) ∧ T ≤ L ∧ (∀ t, t < T → pt_st b L t < L) ∧ pt_st b L T = L ∧ ∀ t, t ≤ T → pt_cell u b L t (pt_st b L t)
/-- what splitting changes -/
def pt_fs (s u : px_Z) : Prop := ∀ c j, ¬ (c = 121 ∧ j = 3) → ¬ (122 ≤ c ∧ c ≤ 124) → u c j = s c j
set_option maxHeartbeats 4000000 in
theorem pt_spl {L : Nat} {b : Nat → Int} (hb0 : ∀ k, k < 400 → 0 ≤ b k ∧ b k < 256) (h4 : L ≤ 400) : ∀ (r n i T : Nat) (x5 : Nat) (s : px_Z), (∀ k, k < 400 → s 120 k = b k) → i + r = L → r < n → x5 ≤ i → T ≤ i → s 121 3 = (T : Int) → pt_sk b L i = pt_st b L T → (∀ t, t < T → pt_st b L t < L ∧ pt_cell s b L t (pt_st b L t)) →
    ∃ u T', l_Reader_split_19 (fun s x2 => (f_Reader_addToken s 0 0 x2).bind (fun q4 => some q4)) n s (L : Int) (i : Int) (x5 : Int) = some u ∧ pt_toks u b L T' ∧ pt_fs s u := by
  intro r
  induction r using Nat.strongRecOn with
  | ind r ih =>
    intro n i T x5 s hb hi hn hx hTi hT hsk hc
    obtain ⟨n, rfl⟩ : ∃ m, n = m + 1 := ⟨n - 1, by omega⟩
    rw [l_Reader_split_19]
    by_cases h1 : L ≤ i
    · have e1 : i = L := by omega
      subst e1
      have hst : pt_st b i T = i := by
        rw [← hsk]; have := pt_sk_le b (Nat.le_refl i); omega
      obtain ⟨u, a1, a2, a3, a4, a5, a6⟩ := pt_add hT (by omega) 0 0 (i : Int)
      refine ⟨u, T, ?_, ⟨a5, hTi, fun t ht => (hc t ht).1, hst, fun t ht => ?_⟩, fun c j g1 g2 => a6 c j g1 (by omega)⟩
      · by_cases h2 : (i : Int) ≤ (x5 : Int)
        · rw [if_pos h2, a1, Option.bind_some]
        · rw [if_neg h2, if_pos (Int.le_refl _), a1, Option.bind_some]
      · by_cases h3 : t = T
        · subst h3
          have ek : pt_ck b i i = 0 := by rw [pt_ck, if_neg (by omega)]
          rw [hst]
          exact ⟨by rw [a2, ek], fun h => by rw [ek] at h; exact absurd h (by decide), a4⟩
        · obtain ⟨_, g1, g2, g3⟩ := hc t (by omega)
          exact ⟨by rw [a6 122 t (by omega) (by omega)]; exact g1, fun h => by rw [a6 123 t (by omega) (by omega)]; exact g2 h, by rw [a6 124 t (by omega) (by omega)]; exact g3⟩
    · rw [if_neg (by omega), if_neg (by omega)]
      cases hbl : pt_bl (b i)
      · have hsi : pt_sk b L i = i := by
          unfold pt_sk
          rw [show L - i = (L - (i + 1)) + 1 by omega, pt_to, hbl, if_neg (by decide)]
        rw [hsi] at hsk
        obtain ⟨u, a1, a2, a3, a4⟩ := pt_one hb hb0 h4 (by omega) hT (by omega) hbl
        have hen := pt_en_le b (L := L) (i := i) (by omega)
        rw [a1, Option.bind_some, pz_wr_suc (by omega)]
        obtain ⟨v, T', b1, b2, b3⟩ := ih (L - pt_en b L i) (by omega) n (pt_en b L i) (T + 1) (x5 + 1) u (fun k hk => by rw [a4 120 k (by omega) (by omega)]; exact hb k hk) (by omega) (by omega) (by omega) (by omega) a3 (by rw [pt_st, ← hsk]) (fun t ht => by
          by_cases h3 : t = T
          · subst h3
            rw [← hsk]
            exact ⟨by omega, a2⟩
          · obtain ⟨g0, g1, g2, g3⟩ := hc t (by omega)
            exact ⟨g0, by rw [a4 122 t (by omega) (by omega)]; exact g1, fun h => by rw [a4 123 t (by omega) (by omega)]; exact g2 h, by rw [a4 124 t (by omega) (by omega)]; exact g3⟩)
        exact ⟨v, T', b1, b2, fun c j g1 g2 => (b3 c j g1 g2).trans (a4 c j g1 (by omega))⟩
      · have hsi : pt_sk b L i = pt_sk b L (i + 1) := by
          have e1 : L - i = (L - (i + 1)) + 1 := by omega
          unfold pt_sk
          rw [e1, pt_to, hbl, if_pos rfl]
        have e2 : f_Reader_splitOne s (i : Int) (L : Int) = some (((i + 1 : Nat) : Int), s) := by
          unfold f_Reader_splitOne
          rw [if_pos ⟨Int.natCast_nonneg _, by omega⟩, Int.toNat_natCast, hb i (by omega), pz_wr_suc (by omega)]
          by_cases h5 : b i = 32
          · rw [if_pos h5]
          · rw [if_neg h5, if_pos (by
              unfold pt_bl at hbl
              rw [decide_eq_false h5, Bool.false_or, decide_eq_true_iff] at hbl
              exact hbl)]
        rw [e2, Option.bind_some, pz_wr_suc (by omega)]
        exact ih (L - (i + 1)) (by omega) n (i + 1) T (x5 + 1) s hb (by omega) (by omega) (by omega) (by omega) hT (by rw [← hsi]; exact hsk) hc
theorem pt_split {s : px_Z} {L : Nat} {b : Nat → Int} (hb : ∀ k, k < 400 → s 120 k = b k) (hb0 : ∀ k, k < 400 → 0 ≤ b k ∧ b k < 256) (h4 : L ≤ 400) (x3 : Int) : ∃ u T, f_Reader_split s (L : Int) x3 = some u ∧ pt_toks u b L T ∧ u 121 4 = 0 ∧ u 121 5 = x3 ∧ u 121 7 = 0 ∧ u 121 8 = -1 ∧ (∀ c j, ¬ (c = 121 ∧ 3 ≤ j ∧ j ≤ 8) → ¬ (122 ≤ c ∧ c ≤ 124) → u c j = s c j) := by
  have hbig : px_big = 1000000 := rfl
  obtain ⟨u, T, a1, a2, a3⟩ := pt_spl hb0 h4 L px_big 0 0 0 (px_up (px_up (px_up (px_up (px_up s 121 5 x3) 121 7 0) 121 8 (-1)) 121 3 0) 121 4 0) (fun k hk => by rw [pt_upc (by decide), pt_upc (by decide), pt_upc (by decide), pt_upc (by decide), pt_upc (by decide)]; exact hb k hk) (by omega) (by omega) (by omega) (by omega) (by rw [pt_upn (by decide), pt_upi]; rfl) rfl (fun t ht => absurd ht (Nat.not_lt_zero _))
  refine ⟨u, T, a1, a2, ?_, ?_, ?_, ?_, ?_⟩
  · rw [a3 121 4 (by omega) (by omega), pt_upi]
  · rw [a3 121 5 (by omega) (by omega), pt_upn (by decide), pt_upn (by decide), pt_upn (by decide), pt_upn (by decide), pt_upi]
  · rw [a3 121 7 (by omega) (by omega), pt_upn (by decide), pt_upn (by decide), pt_upn (by decide), pt_upi]
  · rw [a3 121 8 (by omega) (by omega), pt_upn (by decide), pt_upn (by decide), pt_upi]
  · intro c j g1 g2
    rw [a3 c j (by omega) g2, pt_upn (by omega), pt_upn (by omega), pt_upn (by omega), pt_upn (by omega), pt_upn (by omega)]
