/-! TOKENS: the reference's whole step -/
set_option maxHeartbeats 4000000 in
theorem pt_reads {s : px_Z} {L e : Nat} {b : Nat → Int} (h4 : L ≤ 400) (hL : s 150 13 = (L : Int)) (hb : s 156 = b) (hb0 : ∀ k, k < 400 → 0 ≤ b k) (hW : ∀ k, k < 139 → s 157 k = pz_wd.getD k 0) (he : e ≤ L) (h14 : s 150 14 = (e : Int)) :
    ∃ u, f_M_reads s = some u ∧ u 150 14 = (pt_en b L (pt_to pt_bl b (L - e) e) : Int) ∧ u 150 15 = (pt_to pt_bl b (L - e) e : Int) ∧ u 150 16 = pt_mk b L (pt_to pt_bl b (L - e) e) ∧ (pt_to pt_bl b (L - e) e < L → u 150 17 = pt_mw b L (pt_to pt_bl b (L - e) e)) ∧ pt_fr s u := by
  have hbig : px_big = 1000000 := rfl
  obtain ⟨v, a1, a2, a3⟩ := pt_r0 (K := (fun s => (f_M_raw (px_up (px_up s 150 15 (s 150 14)) 150 16 1) ((px_up (px_up s 150 15 (s 150 14)) 150 16 1) 150 14)).bind (fun q5 => if (q5) = ((-1)) then some (px_up (px_up (px_up s 150 15 (s 150 14)) 150 16 1) 150 16 0) else (if (f_M_isLetter (px_up (px_up (px_up (px_up s 150 15 (s 150 14)) 150 16 1) 150 14 (px_wr (((px_up (px_up s 150 15 (s 150 14)) 150 16 1) 150 14) + 1))) 150 17 q5) q5) = (0) then (if (f_M_isDigit (px_up (px_up (px_up (px_up s 150 15 (s 150 14)) 150 16 1) 150 14 (px_wr (((px_up (px_up s 150 15 (s 150 14)) 150 16 1) 150 14) + 1))) 150 17 q5) q5) = (0) then (if (f_M_isMarkSign (px_up (px_up (px_up (px_up s 150 15 (s 150 14)) 150 16 1) 150 14 (px_wr (((px_up (px_up s 150 15 (s 150 14)) 150 16 1) 150 14) + 1))) 150 17 q5) q5) = (0) then some (px_up (px_up (px_up (px_up s 150 15 (s 150 14)) 150 16 1) 150 14 (px_wr (((px_up (px_up s 150 15 (s 150 14)) 150 16 1) 150 14) + 1))) 150 17 q5) else some (px_up (px_up (px_up (px_up (px_up s 150 15 (s 150 14)) 150 16 1) 150 14 (px_wr (((px_up (px_up s 150 15 (s 150 14)) 150 16 1) 150 14) + 1))) 150 17 q5) 150 16 4)) else l_M_reads_90 (fun s => if (5) ≤ (px_wr ((s 150 14) - (s 150 15))) then some s else some (px_up s 150 16 3)) px_big (px_up (px_up (px_up (px_up (px_up s 150 15 (s 150 14)) 150 16 1) 150 14 (px_wr (((px_up (px_up s 150 15 (s 150 14)) 150 16 1) 150 14) + 1))) 150 17 q5) 150 17 (px_wr (q5 - 48))) ) else l_M_reads_51 (fun s => (f_M_wordAt s (s 150 15) (s 150 14)).bind (fun q17 => if ((px_up s 150 17 q17) 150 17) = ((-1)) then some (px_up s 150 17 q17) else some (px_up (px_up s 150 17 q17) 150 16 2))) px_big (px_up (px_up (px_up (px_up s 150 15 (s 150 14)) 150 16 1) 150 14 (px_wr (((px_up (px_up s 150 15 (s 150 14)) 150 16 1) 150 14) + 1))) 150 17 q5) )))) h4 (L - e) px_big s e hL hb h14 (by omega) (by omega)
  have hto := pt_to_le (p := pt_bl) (b := b) (L - e) e
  unfold f_M_reads
  rw [a1]
  clear a1
  generalize pt_to pt_bl b (L - e) e = i at a2 hto ⊢
  have hvL : v 150 13 = (L : Int) := (a3 150 13 (by decide)).trans hL
  have hvb : v 156 = b := by rw [← hb]; exact funext fun k => a3 156 k (fun h => absurd h.1 (by decide))
  have hvW : ∀ k, k < 139 → v 157 k = pz_wd.getD k 0 := fun k hk => (a3 157 k (fun h => absurd h.1 (by decide))).trans (hW k hk)
  have hfr : pt_fr s v := fun c k h => a3 c k (fun hh => h ⟨hh.1, by omega⟩)
  rw [a2]
  have e14 : px_up (px_up v 150 15 (i : Int)) 150 16 1 150 14 = (i : Int) := by rw [pt_upn (by decide), pt_upn (by decide)]; exact a2
  rw [e14, pt_raw (L := L) (b := b) (by rw [pt_upn (by decide), pt_upn (by decide)]; exact hvL) (by rw [pt_upc (by decide), pt_upc (by decide)]; exact hvb) h4, Option.bind_some]
  by_cases hi : i < L
  · have hbi := hb0 i (by omega)
    rw [if_pos hi, if_neg (by omega : ¬ b i = -1), pz_wr_suc (by omega)]
    have c0 : ∀ k, ¬ (14 ≤ k ∧ k ≤ 17) → px_up (px_up (px_up (px_up v 150 15 (i : Int)) 150 16 1) 150 14 ((i + 1 : Nat) : Int)) 150 17 (b i) 150 k = v 150 k := fun k hk => by
      rw [pt_upn (by omega), pt_upn (by omega), pt_upn (by omega), pt_upn (by omega)]
    have c1 : ∀ c, c ≠ 150 → px_up (px_up (px_up (px_up v 150 15 (i : Int)) 150 16 1) 150 14 ((i + 1 : Nat) : Int)) 150 17 (b i) c = v c := fun c hc => by
      rw [pt_upc hc, pt_upc hc, pt_upc hc, pt_upc hc]
    have c2 : pt_fr s (px_up (px_up (px_up (px_up v 150 15 (i : Int)) 150 16 1) 150 14 ((i + 1 : Nat) : Int)) 150 17 (b i)) := fun c k h => by
      by_cases hc : c = 150
      · subst hc; rw [c0 k (fun hh => h ⟨rfl, hh⟩)]; exact hfr 150 k h
      · rw [c1 c hc]; exact hfr c k h
    have c14 : px_up (px_up (px_up (px_up v 150 15 (i : Int)) 150 16 1) 150 14 ((i + 1 : Nat) : Int)) 150 17 (b i) 150 14 = ((i + 1 : Nat) : Int) := by rw [pt_upn (by decide), pt_upi]
    have c15 : px_up (px_up (px_up (px_up v 150 15 (i : Int)) 150 16 1) 150 14 ((i + 1 : Nat) : Int)) 150 17 (b i) 150 15 = (i : Int) := by rw [pt_upn (by decide), pt_upn (by decide), pt_upn (by decide), pt_upi]
    have c16 : px_up (px_up (px_up (px_up v 150 15 (i : Int)) 150 16 1) 150 14 ((i + 1 : Nat) : Int)) 150 17 (b i) 150 16 = 1 := by rw [pt_upn (by decide), pt_upn (by decide), pt_upi]
    have c17 : px_up (px_up (px_up (px_up v 150 15 (i : Int)) 150 16 1) 150 14 ((i + 1 : Nat) : Int)) 150 17 (b i) 150 17 = b i := pt_upi
    have c13 := (c0 13 (by omega)).trans hvL
    have c155 := (c1 156 (by decide)).trans hvb
    have c156 : ∀ k, k < 139 → px_up (px_up (px_up (px_up v 150 15 (i : Int)) 150 16 1) 150 14 ((i + 1 : Nat) : Int)) 150 17 (b i) 157 k = pz_wd.getD k 0 := fun k hk => by rw [c1 157 (by decide)]; exact hvW k hk
    generalize px_up (px_up (px_up (px_up v 150 15 (i : Int)) 150 16 1) 150 14 ((i + 1 : Nat) : Int)) 150 17 (b i) = t at c2 c14 c15 c16 c17 c13 c155 c156 ⊢
    clear c0 c1 e14
    cases hle : pt_le (b i)
    · have hle' : ¬ pt_le (b i) = true := by rw [hle]; decide
      rw [if_pos ((pt_isL _ _).mpr hle)]
      cases hdi : pt_di (b i)
      · have hdi' : ¬ pt_di (b i) = true := by rw [hdi]; decide
        rw [if_pos ((pt_isD _ _).mpr hdi)]
        have e0 : pt_en b L i = i + 1 := by rw [pt_en, if_pos hi, if_neg hle', if_neg hdi']
        have em : pt_mw b L i = b i := by rw [pt_mw, if_neg hle', if_neg hdi']
        have ek : pt_mk b L i = if pt_sg (b i) = true then 4 else 1 := by rw [pt_mk, if_pos hi, if_neg hle', if_neg hdi']
        cases hsg : pt_sg (b i)
        · rw [if_pos ((pt_isM _ _).mpr hsg)]
          refine ⟨_, rfl, by rw [e0]; exact c14, c15, ?_, fun _ => by rw [em]; exact c17, c2⟩
          rw [ek, hsg]; exact c16
        · rw [if_neg (fun h => by rw [pt_isM, hsg] at h; cases h)]
          refine ⟨_, rfl, ?_, ?_, ?_, fun _ => ?_, ?_⟩
          · rw [pt_upn (by decide), e0]; exact c14
          · rw [pt_upn (by decide)]; exact c15
          · rw [pt_upi, ek, hsg]; rfl
          · rw [pt_upn (by decide), em]; exact c17
          · intro c k h; rw [pt_upn (fun hh => h ⟨hh.1, by omega⟩)]; exact c2 c k h
      · rw [if_neg (fun h => by rw [pt_isD, hdi] at h; cases h)]
        have hd := pt_diR hdi
        rw [pz_wr_id (x := b i - 48) (by omega) (by omega)]
        obtain ⟨u, d1, d2, d3, d4, d5, d6⟩ := pt_rd2 (t := px_up t 150 17 (b i - 48)) (b := b) h4 (by rw [pt_upn (by decide)]; exact c13) (by rw [pt_upc (by decide)]; exact c155) hi (by rw [pt_upn (by decide)]; exact c14) (by rw [pt_upn (by decide)]; exact c15) (by rw [pt_upn (by decide)]; exact c16) pt_upi hle hdi
        refine ⟨u, d1, d2, d3, d4, fun _ => d5, ?_⟩
        intro c k h; rw [d6 c k h, pt_upn (fun hh => h ⟨hh.1, by omega⟩)]; exact c2 c k h
    · rw [if_neg (fun h => by rw [pt_isL, hle] at h; cases h)]
      obtain ⟨u, d1, d2, d3, d4, d5, d6⟩ := pt_rd1 (t := t) (b := b) h4 c13 c155 c156 hi c14 c15 c16 hle
      exact ⟨u, d1, d2, d3, d4, fun _ => d5, fun c k h => (d6 c k h).trans (c2 c k h)⟩
  · rw [if_neg hi, if_pos rfl]
    have e0 : pt_en b L i = i := by rw [pt_en, if_neg hi]
    refine ⟨_, rfl, ?_, ?_, ?_, fun h => absurd h hi, ?_⟩
    · rw [pt_upn (by decide), e0]; exact e14
    · rw [pt_upn (by decide), pt_upn (by decide), pt_upi]
    · rw [pt_upi, pt_mk, if_neg hi]
    · intro c k h; rw [pt_upn (fun hh => h ⟨hh.1, by omega⟩), pt_upn (fun hh => h ⟨hh.1, by omega⟩), pt_upn (fun hh => h ⟨hh.1, by omega⟩)]; exact hfr c k h
