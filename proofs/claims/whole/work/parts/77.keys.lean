/-! WHAT A PART OF THE INVARIANT RESTS ON -/
def pz_ek (k : Nat → Nat → Bool) (s t : px_Z) : Prop := ∀ c i, k c i = true → t c i = s c i
theorem pz_ek_rf {k : Nat → Nat → Bool} {s : px_Z} : pz_ek k s s := fun _ _ _ => rfl
theorem pz_ek_tr {k : Nat → Nat → Bool} {s t u : px_Z} (h1 : pz_ek k s t) (h2 : pz_ek k t u) : pz_ek k s u := fun c i h => (h2 c i h).trans (h1 c i h)
theorem pz_ek_up {k : Nat → Nat → Bool} {s t : px_Z} {a b : Nat} {v : Int} (h : k a b = false) (h1 : pz_ek k s t) : pz_ek k s (px_up t a b v) := by
  intro c i hk
  rw [pz_up_get, if_neg (fun q => by rw [q.1, q.2, h] at hk; cases hk)]
  exact h1 c i hk
theorem pz_ek_cp {k : Nat → Nat → Bool} {s t : px_Z} {a d p q n : Nat} (h : ∀ i, k d i = false) (h1 : pz_ek k s t) : pz_ek k s (px_cp t a d p q n) := by
  intro c i hk
  rw [pz_cp_get, if_neg (fun r => by rw [r.1, h i] at hk; cases hk)]
  exact h1 c i hk
def pz_kn (k : Nat → Nat → Bool) : List Nat → Prop
  | [] => True
  | c :: L => (∀ i, k c i = false) ∧ pz_kn k L
theorem pz_kn_in {k : Nat → Nat → Bool} {c : Nat} : ∀ {L : List Nat}, pz_kn k L → c ∈ L → ∀ i, k c i = false := by
  intro L
  induction L with
  | nil => intro _ h; cases h
  | cons a r ih =>
    intro h hc
    rcases List.mem_cons.mp hc with rfl | hc
    · exact h.1
    · exact ih h.2 hc
theorem pz_ek_ag {k : Nat → Nat → Bool} {s t u : px_Z} {L : List Nat} (h : pz_kn k L) (h2 : pz_ag L t u) (h1 : pz_ek k s t) : pz_ek k s u := by
  intro c i hk
  rw [h2 c i (fun hc => by rw [pz_kn_in h hc i] at hk; cases hk)]
  exact h1 c i hk
/-- how many of a cell's numbers make the reference's world -/
def pz_kb (c : Nat) : Nat := if c = 151 then 40 else if c = 154 then 8 else if c = 155 then 600 else if c = 158 then 2 else if c = 159 then 32 else if c = 160 then 32 else if c = 161 then 32 else if c = 162 then 32 else if c = 163 then 800 else if c = 164 then 800 else if c = 166 then 120 else if c = 167 then 8 else if c = 171 then 180 else if c = 178 then 8 else if c = 179 then 12 else if c = 180 then 12 else if c = 181 then 12 else if c = 182 then 12 else if c = 183 then 12 else 0
def pz_kp (c i : Nat) : Bool := if c = 150 then [6, 8, 9, 10, 35, 37, 43, 51, 53, 57].contains i else (pz_kb c != 0) && decide (i < pz_kb c)
/-- the same of the class's -/
def pz_kc (c : Nat) : Nat := if c = 1 then 8 else if c = 2 then 8 else if c = 3 then 8 else if c = 4 then 8 else if c = 5 then 8 else if c = 6 then 8 else if c = 7 then 8 else if c = 8 then 2 else if c = 9 then 16 else if c = 10 then 16 else if c = 11 then 16 else if c = 12 then 16 else if c = 13 then 400 else if c = 15 then 2 else if c = 16 then 16 else if c = 17 then 16 else if c = 18 then 16 else if c = 19 then 16 else if c = 20 then 400 else if c = 22 then 1 else if c = 23 then 24 else if c = 24 then 24 else if c = 25 then 24 else if c = 26 then 24 else if c = 27 then 24 else if c = 28 then 1 else if c = 29 then 60 else if c = 30 then 60 else if c = 31 then 60 else if c = 32 then 3 else if c = 33 then 8 else if c = 34 then 12 else if c = 35 then 12 else if c = 36 then 12 else if c = 37 then 12 else if c = 38 then 12 else if c = 39 then 600 else 0
def pz_ku (c i : Nat) : Bool := if c = 0 then [1, 2, 3, 4, 7].contains i else (pz_kc c != 0) && decide (i < pz_kc c)
theorem pz_ku_lt {c i : Nat} (h : pz_ku c i = true) : c < 40 := by
  refine Nat.lt_of_not_le (fun hc => ?_)
  have h0 : pz_kc c = 0 := by
    unfold pz_kc
    repeat rw [if_neg (by omega)]
  unfold pz_ku at h
  rw [if_neg (by omega), h0] at h
  cases h
theorem pz_dt {i n : Nat} (h : i < n) : decide (i < n) = true := decide_eq_true h
theorem pz_F_congr {n : Nat} {f0 f1 f2 f3 f4 q g0 g1 g2 g3 g4 r : Nat → Int} (h : pz_F n f0 f1 f2 f3 f4 q) (e0 : ∀ i, i < 8 → g0 i = f0 i) (e1 : ∀ i, i < 8 → g1 i = f1 i) (e2 : ∀ i, i < 8 → g2 i = f2 i) (e3 : ∀ i, i < 8 → g3 i = f3 i) (e4 : ∀ i, i < 8 → g4 i = f4 i) (eq : ∀ i, i < 40 → r i = q i) (hn : n ≤ 8) : pz_F n g0 g1 g2 g3 g4 r := by
  obtain ⟨a, b, c, d, e⟩ := h
  refine ⟨?_, ?_, fun i hi => ?_, fun i hi hni => ?_, fun k hk => ?_⟩
  · rw [e0 0 (by decide), e0 1 (by decide), e0 2 (by decide), e0 3 (by decide), e0 4 (by decide), e0 5 (by decide), e0 7 (by decide), eq 0 (by decide), eq 1 (by decide), eq 2 (by decide), eq 3 (by decide), eq 4 (by decide), eq 5 (by decide), eq 6 (by decide)]
    exact a
  · rw [e0 6 (by decide), eq 0 (by decide), eq 2 (by decide), eq 4 (by decide), eq 5 (by decide), eq 6 (by decide), eq 7 (by decide)]
    exact b
  · rw [e1 i hi, e2 i hi, e3 i hi, e4 i hi, eq (8 + i) (by omega), eq (16 + i) (by omega), eq (24 + i) (by omega), eq (32 + i) (by omega)]
    exact c i hi
  · rw [eq (8 + i) (by omega), eq (16 + i) (by omega), eq (24 + i) (by omega), eq (32 + i) (by omega)]
    exact d i hi hni
  · rw [eq (16 + k) (by omega)]
    intro h1 i hi
    rw [eq (16 + i) (by omega)]
    exact e k hk h1 i hi
theorem pz_ty_congr {c d : Nat → Int} : ∀ (m k : Nat) (ts : List Nat), (∀ i, k ≤ i → i < k + m → c i = d i) → pz_ty c m k ts = pz_ty d m k ts := by
  intro m
  induction m with
  | zero => intro k ts _; rfl
  | succ m ih =>
    intro k ts h
    have h1 : pz_ty c m (k + 1) = pz_ty d m (k + 1) := funext (fun us => ih (k + 1) us (fun i h2 h3 => h i (by omega) (by omega)))
    rw [pz_ty, pz_ty, h k (Nat.le_refl _) (by omega), h1]
theorem pz_WL_congr {j m : Nat} {size : Int} {a b c d code a' b' c' d' code' : Nat → Int} {v w : px_Z} (hj : j ≤ 1) (ea : ∀ i, i < 16 → a' i = a i) (eb : ∀ i, i < 16 → b' i = b i) (ec : ∀ i, i < 16 → c' i = c i) (ed : ∀ i, i < 16 → d' i = d i) (eo : ∀ i, i < 400 → code' i = code i) (e : ∀ q i, pz_kp q i = true → 158 ≤ q → q ≤ 164 → w q i = v q i) (h : pz_WL j m size a b c d code v) : pz_WL j m size a' b' c' d' code' w := by
  obtain ⟨⟨hm, h0, hl⟩, s0, s1, hd, hw⟩ := h
  refine ⟨⟨hm, (e 158 j (pz_dt (show j < 2 by omega)) (by decide) (by decide)).trans h0, fun l hl' => ?_⟩, s0, s1, fun l hl' => (by rw [ed l (by omega)]; exact hd l hl'), fun h1 i hi => (by rw [eo i (by omega)]; exact hw h1 i hi)⟩
  have h2 : (0 ≤ b l ∧ b l ≤ c l ∧ c l ≤ d l ∧ d l ≤ 400 ∧ (∃ t, pz_ty code ((c l).toNat - (b l).toNat) (b l).toNat [] = some [t] ∧ t ≠ 1) ∧ (c l ≠ d l → pz_ty code ((d l).toNat - (c l).toNat) (c l).toNat [] = some [1])) ∧ a l = 265 + v 159 (16 * j + l) ∧ b l = v 160 (16 * j + l) ∧ c l = v 161 (16 * j + l) ∧ d l = v 162 (16 * j + l) ∧ (∀ i : Nat, (i : Int) < d l → pz_cr (code i) (v 163 (400 * j + i)) (v 164 (400 * j + i))) := hl l hl'
  obtain ⟨⟨l1, l2, l3, l4, ⟨t, l5, l6⟩, l7⟩, m0, m1, m2, m3, mc⟩ := h2
  have hll : l < 16 := by omega
  have k8 : w 159 (16 * j + l) = v 159 (16 * j + l) := e 159 _ (pz_dt (show 16 * j + l < 32 by omega)) (by decide) (by decide)
  have k9 : w 160 (16 * j + l) = v 160 (16 * j + l) := e 160 _ (pz_dt (show 16 * j + l < 32 by omega)) (by decide) (by decide)
  have k10 : w 161 (16 * j + l) = v 161 (16 * j + l) := e 161 _ (pz_dt (show 16 * j + l < 32 by omega)) (by decide) (by decide)
  have k11 : w 162 (16 * j + l) = v 162 (16 * j + l) := e 162 _ (pz_dt (show 16 * j + l < 32 by omega)) (by decide) (by decide)
  show (0 ≤ b' l ∧ b' l ≤ c' l ∧ c' l ≤ d' l ∧ d' l ≤ 400 ∧ (∃ t, pz_ty code' ((c' l).toNat - (b' l).toNat) (b' l).toNat [] = some [t] ∧ t ≠ 1) ∧ (c' l ≠ d' l → pz_ty code' ((d' l).toNat - (c' l).toNat) (c' l).toNat [] = some [1])) ∧ a' l = 265 + w 159 (16 * j + l) ∧ b' l = w 160 (16 * j + l) ∧ c' l = w 161 (16 * j + l) ∧ d' l = w 162 (16 * j + l) ∧ (∀ i : Nat, (i : Int) < d' l → pz_cr (code' i) (w 163 (400 * j + i)) (w 164 (400 * j + i)))
  rw [ea l hll, eb l hll, ec l hll, ed l hll, k8, k9, k10, k11]
  refine ⟨⟨l1, l2, l3, l4, ⟨t, ?_, l6⟩, fun h => ?_⟩, m0, m1, m2, m3, fun i hi => ?_⟩
  · rw [pz_ty_congr _ _ _ (fun i h1 h2 => eo i (by omega))]; exact l5
  · rw [pz_ty_congr _ _ _ (fun i h1 h2 => eo i (by omega))]; exact l7 h
  · rw [eo i (by omega), e 163 _ (pz_dt (show 400 * j + i < 800 by omega)) (by decide) (by decide), e 164 _ (pz_dt (show 400 * j + i < 800 by omega)) (by decide) (by decide)]; exact mc i hi
theorem pz_W3_congr {u v x y : px_Z} (hu : ∀ c i, pz_ku c i = true → 6 ≤ c → c ≤ 7 → x c i = u c i) (hv : ∀ c i, pz_kp c i = true → 154 ≤ c → c ≤ 167 → y c i = v c i) (w3 : pz_W3 u v) : pz_W3 x y := by
  intro i hi
  rw [hu 6 i (pz_dt hi) (by decide) (by decide), hu 7 i (pz_dt hi) (by decide) (by decide), hv 154 i (pz_dt hi) (by decide) (by decide), hv 167 i (pz_dt hi) (by decide) (by decide)]
  exact w3 i hi
theorem pz_W4_congr {u v x y : px_Z} (hu : ∀ c i, pz_ku c i = true → 8 ≤ c → c ≤ 20 → x c i = u c i) (hv : ∀ c i, pz_kp c i = true → 158 ≤ c → c ≤ 164 → y c i = v c i) (h : pz_W4 u v) : pz_W4 x y := by
  obtain ⟨⟨ma, w4a, w4b⟩, ⟨mb, w4c, w4d⟩⟩ := h
  refine ⟨⟨ma, ?_, ?_⟩, ⟨mb, ?_, ?_⟩⟩
  · rw [hu 8 0 rfl (by decide) (by decide)]; exact w4a
  · rw [hu 8 1 rfl (by decide) (by decide)]
    exact pz_WL_congr (by decide) (fun i hi => hu 9 i (pz_dt hi) (by decide) (by decide)) (fun i hi => hu 10 i (pz_dt hi) (by decide) (by decide)) (fun i hi => hu 11 i (pz_dt hi) (by decide) (by decide)) (fun i hi => hu 12 i (pz_dt hi) (by decide) (by decide)) (fun i hi => hu 13 i (pz_dt hi) (by decide) (by decide)) hv w4b
  · rw [hu 15 0 rfl (by decide) (by decide)]; exact w4c
  · rw [hu 15 1 rfl (by decide) (by decide)]
    exact pz_WL_congr (by decide) (fun i hi => hu 16 i (pz_dt hi) (by decide) (by decide)) (fun i hi => hu 17 i (pz_dt hi) (by decide) (by decide)) (fun i hi => hu 18 i (pz_dt hi) (by decide) (by decide)) (fun i hi => hu 19 i (pz_dt hi) (by decide) (by decide)) (fun i hi => hu 20 i (pz_dt hi) (by decide) (by decide)) hv w4d
theorem pz_W5_congr {u v x y : px_Z} (hu : ∀ c i, pz_ku c i = true → 22 ≤ c → c ≤ 27 → x c i = u c i) (h35 : y 150 35 = v 150 35) (hv : ∀ i, i < 120 → y 166 i = v 166 i) (h : pz_W5 u v) : pz_W5 x y := by
  obtain ⟨mh, w5a, w5b, w5c, w5d, w5e⟩ := h
  refine ⟨mh, w5a, ?_, ?_, ?_, ?_⟩
  · rw [hu 22 0 rfl (by decide) (by decide)]; exact w5b
  · rw [h35]; exact w5c
  · intro i hi
    have h23 : x 23 i = u 23 i := hu 23 i (pz_dt (show i < 24 by omega)) (by decide) (by decide)
    have h24 : x 24 i = u 24 i := hu 24 i (pz_dt (show i < 24 by omega)) (by decide) (by decide)
    have h25 : x 25 i = u 25 i := hu 25 i (pz_dt (show i < 24 by omega)) (by decide) (by decide)
    have h26 : x 26 i = u 26 i := hu 26 i (pz_dt (show i < 24 by omega)) (by decide) (by decide)
    have h27 : x 27 i = u 27 i := hu 27 i (pz_dt (show i < 24 by omega)) (by decide) (by decide)
    have k0 : y 166 (5 * i + 0) = v 166 (5 * i + 0) := hv _ (by omega)
    have k1 : y 166 (5 * i + 1) = v 166 (5 * i + 1) := hv _ (by omega)
    have k2 : y 166 (5 * i + 2) = v 166 (5 * i + 2) := hv _ (by omega)
    have k3 : y 166 (5 * i + 3) = v 166 (5 * i + 3) := hv _ (by omega)
    have k4 : y 166 (5 * i + 4) = v 166 (5 * i + 4) := hv _ (by omega)
    show x 23 i = y 166 (5 * i + 0) ∧ x 24 i = y 166 (5 * i + 1) ∧ (x 23 i = -1 → x 25 i = y 166 (5 * i + 2) ∧ x 26 i = y 166 (5 * i + 3) ∧ x 27 i = y 166 (5 * i + 4))
    rw [h23, h24, h25, h26, h27, k0, k1, k2, k3, k4]
    exact w5d i hi
  · intro i hi
    have h23 : x 23 i = u 23 i := hu 23 i (pz_dt (show i < 24 by omega)) (by decide) (by decide)
    have h24 : x 24 i = u 24 i := hu 24 i (pz_dt (show i < 24 by omega)) (by decide) (by decide)
    have h25 : x 25 i = u 25 i := hu 25 i (pz_dt (show i < 24 by omega)) (by decide) (by decide)
    have h26 : x 26 i = u 26 i := hu 26 i (pz_dt (show i < 24 by omega)) (by decide) (by decide)
    have h27 : x 27 i = u 27 i := hu 27 i (pz_dt (show i < 24 by omega)) (by decide) (by decide)
    rw [h23, h24, h25, h26, h27]
    exact w5e i hi
theorem pz_W6_congr {n : Nat} {u v x y : px_Z} (hu : ∀ c i, pz_ku c i = true → 28 ≤ c → c ≤ 31 → x c i = u c i) (h43 : y 150 43 = v 150 43) (hv : ∀ i, i < 180 → y 171 i = v 171 i) (h : pz_W6 n u v) : pz_W6 n x y := by
  obtain ⟨md, w6a, w6b, w6c, w6d⟩ := h
  refine ⟨md, w6a, ?_, ?_, ?_⟩
  · rw [hu 28 0 rfl (by decide) (by decide)]; exact w6b
  · rw [h43]; exact w6c
  · intro k hk
    have h29 : x 29 k = u 29 k := hu 29 k (pz_dt (show k < 60 by omega)) (by decide) (by decide)
    have h30 : x 30 k = u 30 k := hu 30 k (pz_dt (show k < 60 by omega)) (by decide) (by decide)
    have h31 : x 31 k = u 31 k := hu 31 k (pz_dt (show k < 60 by omega)) (by decide) (by decide)
    have k0 : y 171 (3 * k) = v 171 (3 * k) := hv _ (by omega)
    have k1 : y 171 (3 * k + 1) = v 171 (3 * k + 1) := hv _ (by omega)
    have k2 : y 171 (3 * k + 2) = v 171 (3 * k + 2) := hv _ (by omega)
    rw [h29, h30, h31, k0, k1, k2]
    exact w6d k hk
theorem pz_W7_congr {u v x y : px_Z} (hu : ∀ c i, pz_ku c i = true → 32 ≤ c → c ≤ 38 → x c i = u c i) (h51 : y 150 51 = v 150 51) (h53 : y 150 53 = v 150 53) (h57 : y 150 57 = v 150 57) (hv : ∀ c i, pz_kp c i = true → 178 ≤ c → c ≤ 183 → y c i = v c i) (h : pz_W7 u v) : pz_W7 x y := by
  obtain ⟨w7a, w7b, w7c⟩ := h
  refine ⟨?_, ?_, ?_⟩
  · rw [hu 32 0 rfl (by decide) (by decide), h51]
    obtain ⟨a, b, c, d⟩ := w7a
    refine ⟨a, b, c, fun i hi => ?_⟩
    rw [hu 33 i (pz_dt (show i < 8 by omega)) (by decide) (by decide), hv 178 i (pz_dt (show i < 8 by omega)) (by decide) (by decide)]
    exact d i hi
  · rw [hu 32 1 rfl (by decide) (by decide), h53]
    obtain ⟨a, b, c, d⟩ := w7b
    refine ⟨a, b, c, fun i hi => ?_⟩
    rw [hu 34 i (pz_dt (show i < 12 by omega)) (by decide) (by decide), hv 179 i (pz_dt (show i < 12 by omega)) (by decide) (by decide), hu 35 i (pz_dt (show i < 12 by omega)) (by decide) (by decide), hv 180 i (pz_dt (show i < 12 by omega)) (by decide) (by decide), hu 36 i (pz_dt (show i < 12 by omega)) (by decide) (by decide), hv 181 i (pz_dt (show i < 12 by omega)) (by decide) (by decide)]
    exact d i hi
  · rw [hu 32 2 rfl (by decide) (by decide), h57]
    obtain ⟨a, b, c, d⟩ := w7c
    refine ⟨a, b, c, fun i hi => ?_⟩
    rw [hu 37 i (pz_dt (show i < 12 by omega)) (by decide) (by decide), hv 182 i (pz_dt (show i < 12 by omega)) (by decide) (by decide), hu 38 i (pz_dt (show i < 12 by omega)) (by decide) (by decide), hv 183 i (pz_dt (show i < 12 by omega)) (by decide) (by decide)]
    exact d i hi
theorem pz_W_congr {n : Nat} {u v x y : px_Z} (hu : ∀ c i, pz_ku c i = true → x c i = u c i) (hv : ∀ c i, pz_kp c i = true → y c i = v c i) (h : pz_W n u v) : pz_W n x y := by
  obtain ⟨hn, w1, wF, w3, w4, w5, w6, w7, w8⟩ := h
  refine ⟨hn, ?_, ?_, pz_W3_congr (fun c i hk _ _ => hu c i hk) (fun c i hk _ _ => hv c i hk) w3, pz_W4_congr (fun c i hk _ _ => hu c i hk) (fun c i hk _ _ => hv c i hk) w4, pz_W5_congr (fun c i hk _ _ => hu c i hk) (hv 150 35 rfl) (fun i hi => hv 166 i (pz_dt hi)) w5, pz_W6_congr (fun c i hk _ _ => hu c i hk) (hv 150 43 rfl) (fun i hi => hv 171 i (pz_dt hi)) w6, pz_W7_congr (fun c i hk _ _ => hu c i hk) (hv 150 51 rfl) (hv 150 53 rfl) (hv 150 57 rfl) (fun c i hk _ _ => hv c i hk) w7, ?_⟩
  · unfold pz_W1 at w1 ⊢
    rw [hu 0 1 rfl, hu 0 2 rfl, hu 0 3 rfl, hu 0 4 rfl, hu 0 7 rfl, hv 150 6 rfl, hv 150 8 rfl, hv 150 9 rfl, hv 150 10 rfl, hv 150 37 rfl]
    exact w1
  · exact pz_F_congr wF (fun i hi => hu 1 i (pz_dt hi)) (fun i hi => hu 2 i (pz_dt hi)) (fun i hi => hu 3 i (pz_dt hi)) (fun i hi => hu 4 i (pz_dt hi)) (fun i hi => hu 5 i (pz_dt hi)) (fun i hi => hv 151 i (pz_dt hi)) hn
  · intro k hk
    rw [hu 39 k (pz_dt hk), hv 155 k (pz_dt hk)]
    exact w8 k hk
/-- the world that stands, of the class and of the reference -/
def pz_kR (c i : Nat) : Bool := decide (6 ≤ c) && pz_ku (c - 6) i
def pz_kU (c i : Nat) : Bool := (c == 88 && (i == 1 || i == 2)) || (c == 150 && i == 3) || (decide (90 ≤ c) && decide (c < 120)) || c == 152
def pz_kM (c i : Nat) : Bool := (c == 5 && i == 2) || (c == 150 && i == 61) || (decide (47 ≤ c) && decide (c < 88)) || c == 184
def pz_kT (c i : Nat) : Bool := (c == 5 && i == 5) || (c == 150 && i == 13) || c == 120 || c == 156
def pz_kX (c i : Nat) : Bool := (c == 121 && (i == 7 || i == 8)) || (c == 150 && (i == 33 || i == 34 || i == 5)) || c == 157
def pz_kC (c i : Nat) : Bool := (c == 145 && (i == 5 || i == 6 || i == 9 || i == 10 || i == 11 || i == 12 || i == 13 || i == 14 || i == 15)) || (c == 6 && i == 4) || (c == 7 && (i == 2 || i == 3 || i == 4 || i == 5 || i == 6)) || c == 8 || c == 9 || c == 12 || c == 13 || (c == 14 && i == 0) || c == 15 || c == 16 || c == 17 || c == 18 || c == 19 || (c == 28 && i == 0) || c == 29 || c == 30 || c == 31 || c == 32 || c == 33 || c == 147
theorem pz_W_ek {n : Nat} {s t z y : px_Z} (h : pz_W n (pz_wo s) z) (e1 : pz_ek pz_kR s t) (e2 : pz_ek pz_kp z y) : pz_W n (pz_wo t) y := by
  refine pz_W_congr (fun c i hk => ?_) (fun c i hk => e2 c i hk) h
  refine e1 (6 + c) i ?_
  unfold pz_kR
  rw [show 6 + c - 6 = c by omega, hk, Bool.and_true]
  exact decide_eq_true (by omega)
theorem pz_U_ek {n : Nat} {s t : px_Z} (h : pz_U n s) (e : pz_ek pz_kU s t) : pz_U n t := by
  obtain ⟨k, r, hk, hr, h1, h2, h3, hF⟩ := h
  refine ⟨k, r, hk, hr, (e 88 2 rfl).trans h1, (e 150 3 rfl).trans h2, (e 88 1 rfl).trans h3, fun j hj => ?_⟩
  have h4 : (r + 6 - j) % 6 < 6 := Nat.mod_lt _ (by decide)
  have hc : ∀ c, 90 ≤ c → c < 120 → t c = s c := fun c h5 h6 => funext (fun i => e c i (by
    unfold pz_kU
    simp only [decide_eq_true h5, decide_eq_true h6, Bool.and_true, Bool.or_true, Bool.true_or]))
  have hrow : (fun i => t 152 (40 * (k - 1 - j) + i)) = (fun i => s 152 (40 * (k - 1 - j) + i)) := funext (fun i => e 152 _ (by unfold pz_kU; simp))
  rw [hrow, hc _ (by omega) (by omega), hc _ (by omega) (by omega), hc _ (by omega) (by omega), hc _ (by omega) (by omega), hc _ (by omega) (by omega)]
  exact hF j hj
theorem pz_M_ek {s t : px_Z} (h : pz_M s) (e : pz_ek pz_kM s t) : pz_M t := by
  rcases h with ⟨h1, h2⟩ | ⟨h1, h2, n, h3⟩
  · exact Or.inl ⟨(e 5 2 rfl).trans h1, (e 150 61 rfl).trans h2⟩
  · refine Or.inr ⟨(e 5 2 rfl).trans h1, (e 150 61 rfl).trans h2, n, pz_W_congr (fun c i hk => ?_) (fun c i hk => ?_) h3⟩
    · have h4 := pz_ku_lt hk
      refine e (47 + c) i ?_
      unfold pz_kM
      rw [decide_eq_true (show 47 ≤ 47 + c by omega), decide_eq_true (show 47 + c < 88 by omega)]
      simp
    · exact e 184 _ (by unfold pz_kM; simp)
theorem pz_T_ek {s t : px_Z} (h : pz_T s) (e : pz_ek pz_kT s t) : pz_T t := by
  unfold pz_T at h ⊢
  have e1 : t 120 = s 120 := funext (fun i => e 120 i (by unfold pz_kT; simp))
  have e2 : t 156 = s 156 := funext (fun i => e 156 i (by unfold pz_kT; simp))
  rw [e1, e2, e 5 5 rfl, e 150 13 rfl]
  exact h
theorem pz_X_ek {s t : px_Z} (h : pz_X s) (e : pz_ek pz_kX s t) : pz_X t := by
  unfold pz_X at h ⊢
  have e1 : t 157 = s 157 := funext (fun i => e 157 i (by unfold pz_kX; simp))
  rw [e1, e 121 7 rfl, e 121 8 rfl, e 150 33 rfl, e 150 34 rfl, e 150 5 rfl]
  exact h
theorem pz_C_ek {n : Nat} {s t : px_Z} (h : pz_C n s) (e : pz_ek pz_kC s t) : pz_C n t := by
  have c8 : t 8 = s 8 := funext (fun i => e 8 i (by unfold pz_kC; simp))
  have c9 : t 9 = s 9 := funext (fun i => e 9 i (by unfold pz_kC; simp))
  have c12 : t 12 = s 12 := funext (fun i => e 12 i (by unfold pz_kC; simp))
  have c13 : t 13 = s 13 := funext (fun i => e 13 i (by unfold pz_kC; simp))
  have c15 : t 15 = s 15 := funext (fun i => e 15 i (by unfold pz_kC; simp))
  have c16 : t 16 = s 16 := funext (fun i => e 16 i (by unfold pz_kC; simp))
  have c17 : t 17 = s 17 := funext (fun i => e 17 i (by unfold pz_kC; simp))
  have c18 : t 18 = s 18 := funext (fun i => e 18 i (by unfold pz_kC; simp))
  have c19 : t 19 = s 19 := funext (fun i => e 19 i (by unfold pz_kC; simp))
  have c29 : t 29 = s 29 := funext (fun i => e 29 i (by unfold pz_kC; simp))
  have c30 : t 30 = s 30 := funext (fun i => e 30 i (by unfold pz_kC; simp))
  have c31 : t 31 = s 31 := funext (fun i => e 31 i (by unfold pz_kC; simp))
  have c32 : t 32 = s 32 := funext (fun i => e 32 i (by unfold pz_kC; simp))
  have c33 : t 33 = s 33 := funext (fun i => e 33 i (by unfold pz_kC; simp))
  have c147 : t 147 = s 147 := funext (fun i => e 147 i (by unfold pz_kC; simp))
  have ho : ∀ mh, pz_opc t mh = pz_opc s mh := by
    intro mh
    funext w
    unfold pz_opc
    rw [c29, c30, c31, c32, c33, e 7 4 rfl, e 7 6 rfl]
  have hp : ∀ m tk, pz_prc t m tk = pz_prc s m tk := by
    intro m tk
    funext a b c d
    unfold pz_prc
    rw [c15, c16, c17, c18, c19, c12, c8, c9, e 7 3 rfl, e 7 2 rfl]
  unfold pz_C pz_fg at h ⊢
  rw [e 145 10 rfl, e 145 13 rfl]
  rcases h with h | ⟨m, mh, h2, h3, h4, h5⟩
  · exact Or.inl h
  · refine Or.inr ⟨m, mh, (e 14 0 rfl).trans h2, (e 28 0 rfl).trans h3, ?_, ?_⟩
    · unfold pz_Cs at h4 ⊢
      rw [e 145 10 rfl]
      rcases h4 with h4 | ⟨h6, h7⟩
      · exact Or.inl h4
      · refine Or.inr ⟨h6, ?_⟩
        unfold pz_sol pz_bl at h7 ⊢
        rw [ho, e 145 10 rfl, hp, c9, c13, c147, e 145 5 rfl, e 145 6 rfl, e 145 9 rfl, e 145 11 rfl, e 145 12 rfl, e 6 4 rfl, e 7 4 rfl, e 7 5 rfl]
        exact h7
    · unfold pz_Ch at h5 ⊢
      have hx : pz_hx n m mh t = pz_hx n m mh s := by
        funext i
        unfold pz_hx
        rw [ho, hp, c9, c13, e 6 4 rfl, e 7 4 rfl, e 7 5 rfl]
      rw [hx, c9, e 145 13 rfl, e 145 14 rfl, e 145 15 rfl]
      exact h5
/-- all that the invariant rests on -/
def pz_kI (c i : Nat) : Bool := pz_kR c i || pz_kp c i || pz_kU c i || pz_kM c i || pz_kT c i || pz_kX c i || pz_kC c i
theorem pz_ek_mono {k l : Nat → Nat → Bool} {s t : px_Z} (h : pz_ek k s t) (hk : ∀ c i, l c i = true → k c i = true) : pz_ek l s t := fun c i h1 => h c i (hk c i h1)
theorem pz_I_ek {s t : px_Z} (h : pz_I s) (e : pz_ek pz_kI s t) : pz_I t := by
  obtain ⟨n, hW, hU, hM, hT, hX, hC⟩ := h
  refine ⟨n, pz_W_ek hW (pz_ek_mono e ?_) (pz_ek_mono e ?_), pz_U_ek hU (pz_ek_mono e ?_), pz_M_ek hM (pz_ek_mono e ?_), pz_T_ek hT (pz_ek_mono e ?_), pz_X_ek hX (pz_ek_mono e ?_), pz_C_ek hC (pz_ek_mono e ?_)⟩
  all_goals
    intro c i h
    unfold pz_kI
    rw [h]
    simp only [Bool.or_true, Bool.true_or]
/-- what is owed of a call that answers a number: both answer, alike, and the invariant holds behind them -/
def pz_op (r : Option (Int × px_Z)) (m : px_Z → Option (Int × px_Z)) : Prop := ∃ a u v, r = some (a, u) ∧ m u = some (a, v) ∧ pz_I v
def pz_oq (r : Option Int) (s : px_Z) (m : px_Z → Option (Int × px_Z)) : Prop := ∃ a v, r = some a ∧ m s = some (a, v) ∧ pz_I v

def pz_kr (a b c i : Nat) : Bool := decide (a ≤ c) && decide (c ≤ b) && pz_ku (c - 6) i
def pz_kq (a b c i : Nat) : Bool := decide (a ≤ c) && decide (c ≤ b) && pz_kp c i
theorem pz_kr_ek {a b : Nat} {s t : px_Z} (e : pz_ek (pz_kr (6 + a) (6 + b)) s t) : ∀ c i, pz_ku c i = true → a ≤ c → c ≤ b → pz_wo t c i = pz_wo s c i := by
  intro c i hk h1 h2
  refine e (6 + c) i ?_
  unfold pz_kr
  rw [show 6 + c - 6 = c by omega, hk, decide_eq_true (show 6 + a ≤ 6 + c by omega), decide_eq_true (show 6 + c ≤ 6 + b by omega)]
  rfl
theorem pz_kq_ek {a b : Nat} {s t : px_Z} (e : pz_ek (pz_kq a b) s t) : ∀ c i, pz_kp c i = true → a ≤ c → c ≤ b → t c i = s c i := by
  intro c i hk h1 h2
  refine e c i ?_
  unfold pz_kq
  rw [hk, decide_eq_true h1, decide_eq_true h2]
  rfl
theorem pz_W4_ek {s t z y : px_Z} (h : pz_W4 (pz_wo s) z) (e1 : pz_ek (pz_kr 14 26) s t) (e2 : pz_ek (pz_kq 158 164) z y) : pz_W4 (pz_wo t) y := pz_W4_congr (pz_kr_ek (a := 8) (b := 20) e1) (pz_kq_ek e2) h
theorem pz_W5_ek {s t z y : px_Z} (h : pz_W5 (pz_wo s) z) (e1 : pz_ek (pz_kr 28 33) s t) (e2 : y 150 35 = z 150 35) (e3 : ∀ i, i < 120 → y 166 i = z 166 i) : pz_W5 (pz_wo t) y := pz_W5_congr (pz_kr_ek (a := 22) (b := 27) e1) e2 e3 h
theorem pz_W6_ek {n : Nat} {s t z y : px_Z} (h : pz_W6 n (pz_wo s) z) (e1 : pz_ek (pz_kr 34 37) s t) (e2 : y 150 43 = z 150 43) (e3 : ∀ i, i < 180 → y 171 i = z 171 i) : pz_W6 n (pz_wo t) y := pz_W6_congr (pz_kr_ek (a := 28) (b := 31) e1) e2 e3 h
theorem pz_W7_ek {s t z y : px_Z} (h : pz_W7 (pz_wo s) z) (e1 : pz_ek (pz_kr 38 44) s t) (h51 : y 150 51 = z 150 51) (h53 : y 150 53 = z 150 53) (h57 : y 150 57 = z 150 57) (e2 : pz_ek (pz_kq 178 183) z y) : pz_W7 (pz_wo t) y := pz_W7_congr (pz_kr_ek (a := 32) (b := 38) e1) h51 h53 h57 (pz_kq_ek e2) h
