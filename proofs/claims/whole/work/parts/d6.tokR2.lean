/-! TOKENS: one of the class -/
def pt_ck (b : Nat → Int) (L i : Nat) : Int := if i < L then (if pt_le (b i) = true then pt_kv (pt_ix b i (pt_en b L i) pt_ws 0) else if pt_di (b i) = true then (if pt_en b L i < i + 5 then 1 else 2) else if pt_sg (b i) = true then b i else 2) else 0
def pt_cell (u : px_Z) (b : Nat → Int) (L t i : Nat) : Prop := u 122 t = pt_ck b L i ∧ (pt_ck b L i = 1 → u 123 t = pt_mw b L i) ∧ u 124 t = (i : Int)
def pt_fc (T : Nat) (s u : px_Z) : Prop := ∀ c j, ¬ (c = 121 ∧ j = 3) → ¬ (122 ≤ c ∧ c ≤ 124 ∧ j = T) → u c j = s c j
theorem pt_ioS : ∀ k : Fin 256, (px_io (px_i2c ((k.val : Nat) : Int)) (px_tx 1) 0 < 0) = (pt_sg ((k.val : Nat) : Int) = false) := by decide +kernel
theorem pt_io {c : Int} (h1 : 0 ≤ c) (h2 : c < 256) : (px_io (px_i2c c) (px_tx 1) 0 < 0) ↔ pt_sg c = false := by
  have h := pt_ioS ⟨c.toNat, by omega⟩
  dsimp only at h
  rw [Int.toNat_of_nonneg h1] at h
  rw [h]
theorem pt_ixc {b c : Nat → Int} {i e : Nat} (h : ∀ k, i ≤ k → k < e → b k = c k) : ∀ (ws : List (List Int)) (k : Nat), pt_ix b i e ws k = pt_ix c i e ws k := by
  have h1 : ∀ (w : List Int) (j : Nat), i ≤ j → pt_mt b e w j = pt_mt c e w j := by
    intro w
    induction w with
    | nil => intro j _; rfl
    | cons x w ih =>
      intro j hj
      rw [pt_mt, pt_mt, ih (j + 1) (by omega)]
      by_cases h2 : j < e
      · rw [h j hj h2]
      · rw [decide_eq_false h2, Bool.false_and, Bool.false_and]
  intro ws
  induction ws with
  | nil => intro k; rfl
  | cons w ws ih => intro k; rw [pt_ix, pt_ix, h1 w i (Nat.le_refl _), ih]
set_option maxHeartbeats 4000000 in
theorem pt_one {s : px_Z} {L i T : Nat} {b : Nat → Int} (hb : ∀ k, k < 400 → s 120 k = b k) (hb0 : ∀ k, k < 400 → 0 ≤ b k ∧ b k < 256) (h4 : L ≤ 400) (hi : i < L) (hT : s 121 3 = (T : Int)) (hT4 : T ≤ 400) (hbl : pt_bl (b i) = false) :
    ∃ u, f_Reader_splitOne s (i : Int) (L : Int) = some ((pt_en b L i : Int), u) ∧ pt_cell u b L T i ∧ u 121 3 = ((T + 1 : Nat) : Int) ∧ pt_fc T s u := by
  have hbig : px_big = 1000000 := rfl
  have hr : L - i = (L - (i + 1)) + 1 := by omega
  unfold pt_bl at hbl
  rw [Bool.or_eq_false_iff, decide_eq_false_iff_not, decide_eq_false_iff_not] at hbl
  unfold f_Reader_splitOne
  rw [if_pos ⟨Int.natCast_nonneg _, by omega⟩, Int.toNat_natCast, hb i (by omega), if_neg hbl.1, if_neg hbl.2, pt_c16 hb h4 (L - i) px_big i (by omega) (by omega), hr, pt_to]
  unfold j_Reader_splitOne_j26
  cases hle : pt_le (b i)
  · have hle' : ¬ pt_le (b i) = true := by rw [hle]; decide
    rw [if_neg (by decide : ¬ false = true), if_pos (Int.le_refl _)]
    obtain ⟨y, y1, y2⟩ := pt_c41 (s := s) (b := b) hb h4 (K := fun s x2 x4 x5 x6 => j_Reader_splitOne_j66 s x2 x4 x5 x6) (x2 := (i : Int)) (x4 := b i) i (L - (i + 1) + 1) px_big 0 0 (by omega) (by omega) (by omega)
    rw [Nat.add_zero i] at y1 y2
    rw [y1]
    clear y1
    rw [pt_to] at y2 ⊢
    unfold j_Reader_splitOne_j66
    cases hdi : pt_di (b i)
    · have hdi' : ¬ pt_di (b i) = true := by rw [hdi]; decide
      have e0 : pt_en b L i = i + 1 := by rw [pt_en, if_pos hi, if_neg hle', if_neg hdi']
      have ek : pt_ck b L i = if pt_sg (b i) = true then b i else 2 := by rw [pt_ck, if_pos hi, if_neg hle', if_neg hdi']
      rw [if_neg (by decide : ¬ false = true), if_pos (Int.le_refl _), pz_wr_suc (by omega), e0]
      have hbi := hb0 i (by omega)
      cases hsg : pt_sg (b i)
      · rw [if_pos ((pt_io hbi.1 hbi.2).mpr hsg)]
        obtain ⟨u, a1, a2, a3, a4, a5, a6⟩ := pt_add hT hT4 2 0 (i : Int)
        rw [a1, Option.bind_some]
        refine ⟨u, rfl, ⟨?_, fun h => ?_, a4⟩, a5, a6⟩
        · rw [a2, ek, hsg]; rfl
        · rw [ek, hsg, if_neg (by decide : ¬ false = true)] at h; exact absurd h (by decide)
      · rw [if_neg (fun h => by rw [pt_io hbi.1 hbi.2, hsg] at h; cases h)]
        obtain ⟨u, a1, a2, a3, a4, a5, a6⟩ := pt_add hT hT4 (b i) 0 (i : Int)
        rw [a1, Option.bind_some]
        refine ⟨u, rfl, ⟨?_, fun h => ?_, a4⟩, a5, a6⟩
        · rw [a2, ek, hsg]; rfl
        · rw [ek, hsg, if_pos rfl] at h; rw [h] at hsg; exact absurd hsg (by decide)
    · rw [if_pos rfl]
      rw [if_pos hdi] at y2
      have hd := pt_diR hdi
      have e0 : pt_en b L i = pt_to pt_di b (L - (i + 1)) (i + 1) := by rw [pt_en, if_pos hi, if_neg hle', if_pos hdi]
      have hto := pt_to_le (p := pt_di) (b := b) (L - (i + 1)) (i + 1)
      rw [← e0] at y2 hto ⊢
      have ek : pt_ck b L i = if pt_en b L i < i + 5 then 1 else 2 := by rw [pt_ck, if_pos hi, if_neg hle', if_pos hdi]
      have em : pt_mw b L i = pt_va b (L - (i + 1)) (i + 1) (b i - 48) := by rw [pt_mw, if_neg hle', if_pos hdi]
      have ev : pt_va b (L - (i + 1) + 1) i 0 = pt_va b (L - (i + 1)) (i + 1) (b i - 48) := by
        rw [pt_va, if_pos hdi, if_neg (by decide)]; congr 1; omega
      rw [if_neg (by omega), pz_wr_id (by omega) (by omega)]
      by_cases h5 : pt_en b L i < i + 5
      · rw [if_neg (by omega)]
        obtain ⟨u, a1, a2, a3, a4, a5, a6⟩ := pt_add hT hT4 1 y (i : Int)
        rw [a1, Option.bind_some]
        refine ⟨u, rfl, ⟨?_, fun h => ?_, a4⟩, a5, a6⟩
        · rw [a2, ek, if_pos h5]
        · rw [a3, em, ← ev]; exact y2 (by omega)
      · rw [if_pos (by omega)]
        obtain ⟨u, a1, a2, a3, a4, a5, a6⟩ := pt_add hT hT4 2 y (i : Int)
        rw [a1, Option.bind_some]
        refine ⟨u, rfl, ⟨?_, fun h => ?_, a4⟩, a5, a6⟩
        · rw [a2, ek, if_neg h5]
        · rw [ek, if_neg h5] at h; exact absurd h (by decide)
  · have e0 : pt_en b L i = pt_to pt_le b (L - (i + 1)) (i + 1) := by rw [pt_en, if_pos hi, if_pos hle]
    have hto := pt_to_le (p := pt_le) (b := b) (L - (i + 1)) (i + 1)
    rw [← e0] at hto
    rw [if_pos rfl, ← e0, if_neg (by omega), pt_keyword s (by omega) (by omega), Option.bind_some, pt_ixc (b := s 120) (c := b) (fun k _ h => hb k (by omega))]
    have ek : pt_ck b L i = pt_kv (pt_ix b i (pt_en b L i) pt_ws 0) := by rw [pt_ck, if_pos hi, if_pos hle]
    obtain ⟨u, a1, a2, a3, a4, a5, a6⟩ := pt_add hT hT4 (pt_kv (pt_ix b i (pt_en b L i) pt_ws 0)) 0 (i : Int)
    rw [a1, Option.bind_some]
    refine ⟨u, rfl, ⟨?_, fun h => ?_, a4⟩, a5, a6⟩
    · rw [a2, ek]
    · rw [ek] at h
      cases hh : pt_ix b i (pt_en b L i) pt_ws 0 with
      | none => rw [hh] at h; exact absurd h (by decide)
      | some k => rw [hh] at h; simp only [pt_kv] at h; omega
