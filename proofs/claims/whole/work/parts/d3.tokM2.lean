/-! TOKENS: one of the reference -/
def pt_sg (c : Int) : Bool := decide (c = 59 ∨ c = 43 ∨ c = 45 ∨ c = 42 ∨ c = 47 ∨ c = 40 ∨ c = 41 ∨ c = 60 ∨ c = 61 ∨ c = 62)
/-- where a token that begins at i ends -/
def pt_en (b : Nat → Int) (L i : Nat) : Nat := if i < L then (if pt_le (b i) = true then pt_to pt_le b (L - (i + 1)) (i + 1) else if pt_di (b i) = true then pt_to pt_di b (L - (i + 1)) (i + 1) else i + 1) else i
def pt_mk (b : Nat → Int) (L i : Nat) : Int := if i < L then (if pt_le (b i) = true then (if pt_ix b i (pt_en b L i) pt_wm 0 = none then 1 else 2) else if pt_di (b i) = true then (if pt_en b L i < i + 5 then 3 else 1) else if pt_sg (b i) = true then 4 else 1) else 0
def pt_mw (b : Nat → Int) (L i : Nat) : Int := if pt_le (b i) = true then pt_mv (pt_ix b i (pt_en b L i) pt_wm 0) else if pt_di (b i) = true then pt_va b (L - (i + 1)) (i + 1) (b i - 48) else b i
theorem pt_isM (s : px_Z) (c : Int) : f_M_isMarkSign s c = 0 ↔ pt_sg c = false := by
  unfold f_M_isMarkSign pt_sg
  rw [decide_eq_false_iff_not]
  repeat' split
  all_goals simp_all
theorem pt_le32 {c : Int} (h : pt_le c = true) : c ≠ 32 := by
  intro h1; rw [h1] at h; exact absurd h (by decide)
theorem pt_mvn (o : Option Nat) : pt_mv o = -1 ↔ o = none := by
  cases o with
  | none => exact ⟨fun _ => rfl, fun _ => rfl⟩
  | some k => exact ⟨fun h => by simp only [pt_mv] at h; omega, fun h => by cases h⟩
def pt_fr (s u : px_Z) : Prop := ∀ c k, ¬ (c = 150 ∧ 14 ≤ k ∧ k ≤ 17) → u c k = s c k
set_option maxHeartbeats 4000000 in
theorem pt_rd1 {t : px_Z} {L i : Nat} {b : Nat → Int} (h4 : L ≤ 400) (hL : t 150 13 = (L : Int)) (hb : t 156 = b) (hW : ∀ k, k < 139 → t 157 k = pz_wd.getD k 0) (hi : i < L) (h14 : t 150 14 = ((i + 1 : Nat) : Int)) (h15 : t 150 15 = (i : Int)) (h16 : t 150 16 = 1) (hle : pt_le (b i) = true) :
    ∃ u, l_M_reads_51 (fun s => (f_M_wordAt s (s 150 15) (s 150 14)).bind (fun q17 => if ((px_up s 150 17 q17) 150 17) = ((-1)) then some (px_up s 150 17 q17) else some (px_up (px_up s 150 17 q17) 150 16 2))) px_big t = some u ∧ u 150 14 = (pt_en b L i : Int) ∧ u 150 15 = (i : Int) ∧ u 150 16 = pt_mk b L i ∧ u 150 17 = pt_mw b L i ∧ pt_fr t u := by
  have hbig : px_big = 1000000 := rfl
  obtain ⟨v, a1, a2, a3⟩ := pt_r51 (K := fun s => (f_M_wordAt s (s 150 15) (s 150 14)).bind (fun q17 => if ((px_up s 150 17 q17) 150 17) = ((-1)) then some (px_up s 150 17 q17) else some (px_up (px_up s 150 17 q17) 150 16 2))) h4 (L - (i + 1)) px_big t (i + 1) hL hb h14 (by omega) (by omega)
  rw [a1]
  have e0 : pt_en b L i = pt_to pt_le b (L - (i + 1)) (i + 1) := by rw [pt_en, if_pos hi, if_pos hle]
  have hto := pt_to_le (p := pt_le) (b := b) (L - (i + 1)) (i + 1)
  rw [← e0] at a2 hto
  have hv15 : v 150 15 = (i : Int) := (a3 150 15 (by decide)).trans h15
  have hvb : v 156 = b := by rw [← hb]; exact funext fun k => a3 156 k (fun h => absurd h.1 (by decide))
  have hvW : ∀ k, k < 139 → v 157 k = pz_wd.getD k 0 := fun k hk => (a3 157 k (fun h => absurd h.1 (by decide))).trans (hW k hk)
  have hw := pt_wordAt hvW (x1 := i) (x2 := pt_en b L i) (by omega) (by omega) (fun j j1 j2 => by
    rw [hvb]; apply pt_le32
    by_cases h : j = i
    · rw [h]; exact hle
    · exact hto.2.2.1 j (by omega) j2)
  rw [hvb] at hw
  have em : pt_mw b L i = pt_mv (pt_ix b i (pt_en b L i) pt_wm 0) := by rw [pt_mw, if_pos hle]
  have ek : pt_mk b L i = if pt_ix b i (pt_en b L i) pt_wm 0 = none then 1 else 2 := by rw [pt_mk, if_pos hi, if_pos hle]
  rw [a2, hv15, hw, Option.bind_some, pt_upi, ← em]
  have hfr : pt_fr t v := fun c k h => a3 c k (fun hh => h ⟨hh.1, by omega⟩)
  by_cases h5 : pt_ix b i (pt_en b L i) pt_wm 0 = none
  · rw [if_pos (by rw [em]; exact (pt_mvn _).mpr h5)]
    refine ⟨_, rfl, ?_, ?_, ?_, pt_upi, ?_⟩
    · rw [pt_upn (by decide)]; exact a2
    · rw [pt_upn (by decide)]; exact hv15
    · rw [pt_upn (by decide), ek, if_pos h5]; exact (a3 150 16 (by decide)).trans h16
    · intro c k h; rw [pt_upn (fun hh => h ⟨hh.1, by omega⟩)]; exact hfr c k h
  · rw [if_neg (fun h => h5 ((pt_mvn _).mp (em ▸ h)))]
    refine ⟨_, rfl, ?_, ?_, ?_, ?_, ?_⟩
    · rw [pt_upn (by decide), pt_upn (by decide)]; exact a2
    · rw [pt_upn (by decide), pt_upn (by decide)]; exact hv15
    · rw [pt_upi, ek, if_neg h5]
    · rw [pt_upn (by decide), pt_upi]
    · intro c k h; rw [pt_upn (fun hh => h ⟨hh.1, by omega⟩), pt_upn (fun hh => h ⟨hh.1, by omega⟩)]; exact hfr c k h
set_option maxHeartbeats 4000000 in
theorem pt_rd2 {t : px_Z} {L i : Nat} {b : Nat → Int} (h4 : L ≤ 400) (hL : t 150 13 = (L : Int)) (hb : t 156 = b) (hi : i < L) (h14 : t 150 14 = ((i + 1 : Nat) : Int)) (h15 : t 150 15 = (i : Int)) (h16 : t 150 16 = 1) (h17 : t 150 17 = b i - 48) (hle : pt_le (b i) = false) (hdi : pt_di (b i) = true) :
    ∃ u, l_M_reads_90 (fun s => if (5) ≤ (px_wr ((s 150 14) - (s 150 15))) then some s else some (px_up s 150 16 3)) px_big t = some u ∧ u 150 14 = (pt_en b L i : Int) ∧ u 150 15 = (i : Int) ∧ u 150 16 = pt_mk b L i ∧ u 150 17 = pt_mw b L i ∧ pt_fr t u := by
  have hbig : px_big = 1000000 := rfl
  have hd := pt_diR hdi
  have hle' : ¬ pt_le (b i) = true := by rw [hle]; decide
  obtain ⟨v, a1, a2, a3, a4⟩ := pt_r90 (K := fun s => if (5) ≤ (px_wr ((s 150 14) - (s 150 15))) then some s else some (px_up s 150 16 3)) h4 (L - (i + 1)) px_big t (i + 1) (b i - 48) hL hb h14 h17 (by omega) (by omega) (by omega) (by omega)
  rw [a1]
  have e0 : pt_en b L i = pt_to pt_di b (L - (i + 1)) (i + 1) := by rw [pt_en, if_pos hi, if_neg hle', if_pos hdi]
  have hto := pt_to_le (p := pt_di) (b := b) (L - (i + 1)) (i + 1)
  rw [← e0] at a2 hto
  have hv15 : v 150 15 = (i : Int) := (a4 150 15 (by decide)).trans h15
  have em : pt_mw b L i = pt_va b (L - (i + 1)) (i + 1) (b i - 48) := by rw [pt_mw, if_neg hle', if_pos hdi]
  have ek : pt_mk b L i = if pt_en b L i < i + 5 then 3 else 1 := by rw [pt_mk, if_pos hi, if_neg hle', if_pos hdi]
  rw [← em] at a3
  have hfr : pt_fr t v := fun c k h => a4 c k (fun hh => h ⟨hh.1, by omega⟩)
  rw [a2, hv15, pz_wr_id (by omega) (by omega)]
  by_cases h5 : pt_en b L i < i + 5
  · rw [if_neg (by omega)]
    refine ⟨_, rfl, ?_, ?_, ?_, ?_, ?_⟩
    · rw [pt_upn (by decide)]; exact a2
    · rw [pt_upn (by decide)]; exact hv15
    · rw [pt_upi, ek, if_pos h5]
    · rw [pt_upn (by decide)]; exact a3
    · intro c k h; rw [pt_upn (fun hh => h ⟨hh.1, by omega⟩)]; exact hfr c k h
  · rw [if_pos (by omega)]
    refine ⟨_, rfl, a2, hv15, ?_, a3, hfr⟩
    rw [ek, if_neg h5]; exact (a4 150 16 (by decide)).trans h16
