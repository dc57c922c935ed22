/-! the loops of THE IMAGE -/
theorem pz_image_21 {T : Bool} {z0 : px_Z} {K : px_Z → Int → Option (Int × px_Z)} {Q : Int × px_Z → Prop} (x1 : Int) (hK : ∀ z', pz_KI T z0 40 z' → pz_ok (K z' x1) Q) : ∀ (m fu i : Nat) (z : px_Z), i + m = 40 → m < fu → pz_KI T z0 (0 + i) z → pz_ok (l_M_image_21 K fu z x1 (i : Int)) Q := by
  intro m
  induction m with
  | zero =>
    intro fu i z hi hf hz
    obtain ⟨f, rfl⟩ : ∃ f, fu = f + 1 := ⟨fu - 1, by omega⟩
    have : i = 40 := by omega
    subst this
    rw [l_M_image_21, if_pos (by decide)]
    exact hK z hz
  | succ m ih =>
    intro fu i z hi hf hz
    obtain ⟨f, rfl⟩ : ∃ f, fu = f + 1 := ⟨fu - 1, by omega⟩
    have hp : pz_pos 151 i = 0 + i := by show i = _; omega
    rw [← hp] at hz
    obtain ⟨v, z1, e1, h1⟩ := pz_keep1 hz (show pz_kp 151 i = true from pz_dt (show i < 40 by omega))
    rw [hp] at h1
    rw [l_M_image_21, if_neg (by omega), if_pos (by omega), Int.toNat_natCast, e1, Option.bind_some, if_pos (by omega), pz_wr_suc (by omega)]
    exact ih f (i + 1) _ (by omega) (by omega) h1
theorem pz_image_40 {T : Bool} {z0 : px_Z} {K : px_Z → Int → Option (Int × px_Z)} {Q : Int × px_Z → Prop} (x1 : Int) (hK : ∀ z', pz_KI T z0 1034 z' → pz_ok (K z' x1) Q) : ∀ (m fu i : Nat) (z : px_Z), i + m = 600 → m < fu → pz_KI T z0 (434 + i) z → pz_ok (l_M_image_40 K fu z x1 (i : Int)) Q := by
  intro m
  induction m with
  | zero =>
    intro fu i z hi hf hz
    obtain ⟨f, rfl⟩ : ∃ f, fu = f + 1 := ⟨fu - 1, by omega⟩
    have : i = 600 := by omega
    subst this
    rw [l_M_image_40, if_pos (by decide)]
    exact hK z hz
  | succ m ih =>
    intro fu i z hi hf hz
    obtain ⟨f, rfl⟩ : ∃ f, fu = f + 1 := ⟨fu - 1, by omega⟩
    have hp : pz_pos 155 i = 434 + i := rfl
    rw [← hp] at hz
    obtain ⟨v, z1, e1, h1⟩ := pz_keep1 hz (show pz_kp 155 i = true from pz_dt (show i < 600 by omega))
    rw [hp] at h1
    rw [l_M_image_40, if_neg (by omega), if_pos (by omega), Int.toNat_natCast, e1, Option.bind_some, if_pos (by omega), pz_wr_suc (by omega)]
    exact ih f (i + 1) _ (by omega) (by omega) h1
theorem pz_keepsTold_156 {T : Bool} {z0 : px_Z} {K : px_Z → Option (px_Z)} {Q : px_Z → Prop} (hK : ∀ z', pz_KI T z0 254 z' → pz_ok (K z') Q) : ∀ (m fu i : Nat) (z : px_Z), i + m = 120 → m < fu → pz_KI T z0 (134 + i) z → pz_ok (l_M_keepsTold_156 K fu z (i : Int)) Q := by
  intro m
  induction m with
  | zero =>
    intro fu i z hi hf hz
    obtain ⟨f, rfl⟩ : ∃ f, fu = f + 1 := ⟨fu - 1, by omega⟩
    have : i = 120 := by omega
    subst this
    rw [l_M_keepsTold_156, if_pos (by decide)]
    exact hK z hz
  | succ m ih =>
    intro fu i z hi hf hz
    obtain ⟨f, rfl⟩ : ∃ f, fu = f + 1 := ⟨fu - 1, by omega⟩
    have hp : pz_pos 166 i = 134 + i := rfl
    rw [← hp] at hz
    obtain ⟨v, z1, e1, h1⟩ := pz_keep1 hz (show pz_kp 166 i = true from pz_dt (show i < 120 by omega))
    rw [hp] at h1
    rw [l_M_keepsTold_156, if_neg (by omega), if_pos (by omega), Int.toNat_natCast, e1, Option.bind_some, if_pos (by omega), pz_wr_suc (by omega)]
    exact ih f (i + 1) _ (by omega) (by omega) h1
theorem pz_keepsTold_173 {T : Bool} {z0 : px_Z} {Q : px_Z → Prop} (hK : ∀ z', pz_KI T z0 434 z' → Q z') : ∀ (m fu i : Nat) (z : px_Z), i + m = 180 → m < fu → pz_KI T z0 (254 + i) z → pz_ok (l_M_keepsTold_173 fu z (i : Int)) Q := by
  intro m
  induction m with
  | zero =>
    intro fu i z hi hf hz
    obtain ⟨f, rfl⟩ : ∃ f, fu = f + 1 := ⟨fu - 1, by omega⟩
    have : i = 180 := by omega
    subst this
    rw [l_M_keepsTold_173, if_pos (by decide)]
    exact pz_ok_some (hK z hz)
  | succ m ih =>
    intro fu i z hi hf hz
    obtain ⟨f, rfl⟩ : ∃ f, fu = f + 1 := ⟨fu - 1, by omega⟩
    have hp : pz_pos 171 i = 254 + i := rfl
    rw [← hp] at hz
    obtain ⟨v, z1, e1, h1⟩ := pz_keep1 hz (show pz_kp 171 i = true from pz_dt (show i < 180 by omega))
    rw [hp] at h1
    rw [l_M_keepsTold_173, if_neg (by omega), if_pos (by omega), Int.toNat_natCast, e1, Option.bind_some, if_pos (by omega), pz_wr_suc (by omega)]
    exact ih f (i + 1) _ (by omega) (by omega) h1
theorem pz_keepsTold_62 {T : Bool} {z0 : px_Z} {K : px_Z → Option (px_Z)} {Q : px_Z → Prop} (hK : ∀ z', pz_KI T z0 74 z' → pz_ok (K z') Q) : ∀ (m fu i : Nat) (z : px_Z), i + m = 8 → m < fu → pz_KI T z0 (50 + 3 * i) z → pz_ok (l_M_keepsTold_62 K fu z (i : Int)) Q := by
  intro m
  induction m with
  | zero =>
    intro fu i z hi hf hz
    obtain ⟨f, rfl⟩ : ∃ f, fu = f + 1 := ⟨fu - 1, by omega⟩
    have : i = 8 := by omega
    subst this
    rw [l_M_keepsTold_62, if_pos (by decide)]
    exact hK z hz
  | succ m ih =>
    intro fu i z hi hf hz
    obtain ⟨f, rfl⟩ : ∃ f, fu = f + 1 := ⟨fu - 1, by omega⟩
    rw [l_M_keepsTold_62, if_neg (by omega), if_pos (by omega), Int.toNat_natCast]
    have hp0 : 50 + 3 * i = pz_pos 154 i := by
      show _ = 50 + 3 * i
      omega
    rw [hp0] at hz
    obtain ⟨v0, z1, e0, hz0⟩ := pz_keep1 hz (show pz_kp 154 i = true from pz_dt (show i < 8 by omega))
    rw [← hp0] at hz0
    clear hz
    rename pz_KI T z0 _ _ => hz
    rw [e0, Option.bind_some, if_pos (by omega), if_pos (by omega)]
    dsimp only
    have hp1 : 50 + 3 * i + 1 = pz_pos 167 i := by
      show _ = 51 + 3 * i
      omega
    rw [hp1] at hz
    obtain ⟨v1, z2, e1, hz1⟩ := pz_keep1 hz (show pz_kp 167 i = true from pz_dt (show i < 8 by omega))
    rw [← hp1] at hz1
    clear hz
    rename pz_KI T z0 _ _ => hz
    rw [e1, Option.bind_some, if_pos (by omega), if_pos (by omega)]
    dsimp only
    have hp2 : 50 + 3 * i + 1 + 1 = pz_pos 178 i := by
      show _ = 52 + 3 * i
      omega
    rw [hp2] at hz
    obtain ⟨v2, z3, e2, hz2⟩ := pz_keep1 hz (show pz_kp 178 i = true from pz_dt (show i < 8 by omega))
    rw [← hp2] at hz2
    clear hz
    rename pz_KI T z0 _ _ => hz
    rw [e2, Option.bind_some, if_pos (by omega)]
    dsimp only
    rw [pz_wr_suc (by omega)]
    refine ih f (i + 1) _ (by omega) (by omega) ?_
    rw [show 50 + 3 * (i + 1) = 50 + 3 * i + 1 + 1 + 1 by omega]
    exact hz
theorem pz_keepsTold_99 {T : Bool} {z0 : px_Z} {K : px_Z → Option (px_Z)} {Q : px_Z → Prop} (hK : ∀ z', pz_KI T z0 134 z' → pz_ok (K z') Q) : ∀ (m fu i : Nat) (z : px_Z), i + m = 12 → m < fu → pz_KI T z0 (74 + 5 * i) z → pz_ok (l_M_keepsTold_99 K fu z (i : Int)) Q := by
  intro m
  induction m with
  | zero =>
    intro fu i z hi hf hz
    obtain ⟨f, rfl⟩ : ∃ f, fu = f + 1 := ⟨fu - 1, by omega⟩
    have : i = 12 := by omega
    subst this
    rw [l_M_keepsTold_99, if_pos (by decide)]
    exact hK z hz
  | succ m ih =>
    intro fu i z hi hf hz
    obtain ⟨f, rfl⟩ : ∃ f, fu = f + 1 := ⟨fu - 1, by omega⟩
    rw [l_M_keepsTold_99, if_neg (by omega), if_pos (by omega), Int.toNat_natCast]
    have hp0 : 74 + 5 * i = pz_pos 179 i := by
      show _ = 74 + 5 * i
      omega
    rw [hp0] at hz
    obtain ⟨v0, z1, e0, hz0⟩ := pz_keep1 hz (show pz_kp 179 i = true from pz_dt (show i < 12 by omega))
    rw [← hp0] at hz0
    clear hz
    rename pz_KI T z0 _ _ => hz
    rw [e0, Option.bind_some, if_pos (by omega), if_pos (by omega)]
    dsimp only
    have hp1 : 74 + 5 * i + 1 = pz_pos 180 i := by
      show _ = 75 + 5 * i
      omega
    rw [hp1] at hz
    obtain ⟨v1, z2, e1, hz1⟩ := pz_keep1 hz (show pz_kp 180 i = true from pz_dt (show i < 12 by omega))
    rw [← hp1] at hz1
    clear hz
    rename pz_KI T z0 _ _ => hz
    rw [e1, Option.bind_some, if_pos (by omega), if_pos (by omega)]
    dsimp only
    have hp2 : 74 + 5 * i + 1 + 1 = pz_pos 181 i := by
      show _ = 76 + 5 * i
      omega
    rw [hp2] at hz
    obtain ⟨v2, z3, e2, hz2⟩ := pz_keep1 hz (show pz_kp 181 i = true from pz_dt (show i < 12 by omega))
    rw [← hp2] at hz2
    clear hz
    rename pz_KI T z0 _ _ => hz
    rw [e2, Option.bind_some, if_pos (by omega), if_pos (by omega)]
    dsimp only
    have hp3 : 74 + 5 * i + 1 + 1 + 1 = pz_pos 182 i := by
      show _ = 77 + 5 * i
      omega
    rw [hp3] at hz
    obtain ⟨v3, z4, e3, hz3⟩ := pz_keep1 hz (show pz_kp 182 i = true from pz_dt (show i < 12 by omega))
    rw [← hp3] at hz3
    clear hz
    rename pz_KI T z0 _ _ => hz
    rw [e3, Option.bind_some, if_pos (by omega), if_pos (by omega)]
    dsimp only
    have hp4 : 74 + 5 * i + 1 + 1 + 1 + 1 = pz_pos 183 i := by
      show _ = 78 + 5 * i
      omega
    rw [hp4] at hz
    obtain ⟨v4, z5, e4, hz4⟩ := pz_keep1 hz (show pz_kp 183 i = true from pz_dt (show i < 12 by omega))
    rw [← hp4] at hz4
    clear hz
    rename pz_KI T z0 _ _ => hz
    rw [e4, Option.bind_some, if_pos (by omega)]
    dsimp only
    rw [pz_wr_suc (by omega)]
    refine ih f (i + 1) _ (by omega) (by omega) ?_
    rw [show 74 + 5 * (i + 1) = 74 + 5 * i + 1 + 1 + 1 + 1 + 1 by omega]
    exact hz
theorem pz_keepsTold {T : Bool} {z0 z : px_Z} (hz : pz_KI T z0 40 z) : ∃ z', f_M_keepsTold z = some z' ∧ pz_KI T z0 434 z' := by
  unfold f_M_keepsTold
  obtain ⟨v0, z1, e0, hz0⟩ := pz_keep1 (c := 150) (i := 6) (show pz_KI T z0 (pz_pos 150 6) _ from hz) rfl
  rw [e0, Option.bind_some]
  dsimp only
  have hz0' : pz_KI T z0 41 _ := hz0
  clear hz hz0
  rename pz_KI T z0 _ _ => hz
  obtain ⟨v1, z2, e1, hz1⟩ := pz_keep1 (c := 150) (i := 8) (show pz_KI T z0 (pz_pos 150 8) _ from hz) rfl
  rw [e1, Option.bind_some]
  dsimp only
  have hz1' : pz_KI T z0 42 _ := hz1
  clear hz hz1
  rename pz_KI T z0 _ _ => hz
  obtain ⟨v2, z3, e2, hz2⟩ := pz_keep1 (c := 150) (i := 9) (show pz_KI T z0 (pz_pos 150 9) _ from hz) rfl
  rw [e2, Option.bind_some]
  dsimp only
  have hz2' : pz_KI T z0 43 _ := hz2
  clear hz hz2
  rename pz_KI T z0 _ _ => hz
  obtain ⟨v3, z4, e3, hz3⟩ := pz_keep1 (c := 150) (i := 10) (show pz_KI T z0 (pz_pos 150 10) _ from hz) rfl
  rw [e3, Option.bind_some]
  dsimp only
  have hz3' : pz_KI T z0 44 _ := hz3
  clear hz hz3
  rename pz_KI T z0 _ _ => hz
  obtain ⟨v4, z5, e4, hz4⟩ := pz_keep1 (c := 150) (i := 35) (show pz_KI T z0 (pz_pos 150 35) _ from hz) rfl
  rw [e4, Option.bind_some]
  dsimp only
  have hz4' : pz_KI T z0 45 _ := hz4
  clear hz hz4
  rename pz_KI T z0 _ _ => hz
  obtain ⟨v5, z6, e5, hz5⟩ := pz_keep1 (c := 150) (i := 37) (show pz_KI T z0 (pz_pos 150 37) _ from hz) rfl
  rw [e5, Option.bind_some]
  dsimp only
  have hz5' : pz_KI T z0 46 _ := hz5
  clear hz hz5
  rename pz_KI T z0 _ _ => hz
  obtain ⟨v6, z7, e6, hz6⟩ := pz_keep1 (c := 150) (i := 43) (show pz_KI T z0 (pz_pos 150 43) _ from hz) rfl
  rw [e6, Option.bind_some]
  dsimp only
  have hz6' : pz_KI T z0 47 _ := hz6
  clear hz hz6
  rename pz_KI T z0 _ _ => hz
  obtain ⟨v7, z8, e7, hz7⟩ := pz_keep1 (c := 150) (i := 51) (show pz_KI T z0 (pz_pos 150 51) _ from hz) rfl
  rw [e7, Option.bind_some]
  dsimp only
  have hz7' : pz_KI T z0 48 _ := hz7
  clear hz hz7
  rename pz_KI T z0 _ _ => hz
  obtain ⟨v8, z9, e8, hz8⟩ := pz_keep1 (c := 150) (i := 53) (show pz_KI T z0 (pz_pos 150 53) _ from hz) rfl
  rw [e8, Option.bind_some]
  dsimp only
  have hz8' : pz_KI T z0 49 _ := hz8
  clear hz hz8
  rename pz_KI T z0 _ _ => hz
  obtain ⟨v9, z10, e9, hz9⟩ := pz_keep1 (c := 150) (i := 57) (show pz_KI T z0 (pz_pos 150 57) _ from hz) rfl
  rw [e9, Option.bind_some]
  dsimp only
  have hz9' : pz_KI T z0 50 _ := hz9
  clear hz hz9
  rename pz_KI T z0 _ _ => hz
  have h := pz_keepsTold_62 (T := T) (z0 := z0) (Q := fun z' => pz_KI T z0 434 z') (K := fun s => l_M_keepsTold_99 (fun s => l_M_keepsTold_156 (fun s => l_M_keepsTold_173  px_big s 0) px_big s 0) px_big s 0) (fun y hy => pz_keepsTold_99 (K := fun s => l_M_keepsTold_156 (fun s => l_M_keepsTold_173  px_big s 0) px_big s 0) (fun y2 hy2 => pz_keepsTold_156 (K := fun s => l_M_keepsTold_173  px_big s 0) (fun y3 hy3 => pz_keepsTold_173 (fun y4 hy4 => hy4) 180 px_big 0 y3 (by omega) (pz_big_lt (by omega)) hy3) 120 px_big 0 y2 (by omega) (pz_big_lt (by omega)) hy2) 12 px_big 0 y (by omega) (pz_big_lt (by omega)) hy) 8 px_big 0 _ (by omega) (pz_big_lt (by omega)) hz
  obtain ⟨z', e, hq⟩ := h
  exact ⟨z', e, hq⟩
theorem pz_keepsLaw_67 {T : Bool} {z0 : px_Z} {j : Nat} (hj : j ≤ 1) {Q : px_Z → Prop} (hK : ∀ z', pz_KI T z0 (1899 + 865 * j) z' → Q z') : ∀ (m fu i : Nat) (z : px_Z), i + m = 400 → m < fu → pz_KI T z0 (1099 + 865 * j + 2 * i) z → pz_ok (l_M_keepsLaw_67 fu z (j : Int) ((400 * j + i : Nat) : Int)) Q := by
  intro m
  induction m with
  | zero =>
    intro fu i z hi hf hz
    obtain ⟨f, rfl⟩ : ∃ f, fu = f + 1 := ⟨fu - 1, by omega⟩
    have : i = 400 := by omega
    subst this
    rw [l_M_keepsLaw_67, pz_wr_id (x := 400 * (j : Int)) (by omega) (by omega), pz_wr_id (x := 400 * (j : Int) + 400) (by omega) (by omega), if_pos (by omega)]
    refine pz_ok_some (hK z ?_)
    rw [show 1899 + 865 * j = 1099 + 865 * j + 2 * 400 by omega]
    exact hz
  | succ m ih =>
    intro fu i z hi hf hz
    obtain ⟨f, rfl⟩ : ∃ f, fu = f + 1 := ⟨fu - 1, by omega⟩
    have b : 0 ≤ ((400 * j + i : Nat) : Int) ∧ ((400 * j + i : Nat) : Int) < 1200 := by omega
    rw [l_M_keepsLaw_67, pz_wr_id (x := 400 * (j : Int)) (by omega) (by omega), pz_wr_id (x := 400 * (j : Int) + 400) (by omega) (by omega), if_neg (by omega), if_pos b, Int.toNat_natCast]
    have hp0 : 1099 + 865 * j + 2 * i = pz_pos 163 (400 * j + i) := by
      show _ = 1099 + 2 * ((400 * j + i) % 400) + 865 * ((400 * j + i) / 400)
      omega
    rw [hp0] at hz
    obtain ⟨v0, z1, e0, hz0⟩ := pz_keep1 hz (show pz_kp 163 (400 * j + i) = true from pz_dt (show 400 * j + i < 800 by omega))
    rw [← hp0] at hz0
    rw [e0, Option.bind_some, if_pos b, if_pos b]
    dsimp only
    have hp1 : 1099 + 865 * j + 2 * i + 1 = pz_pos 164 (400 * j + i) := by
      show _ = 1100 + 2 * ((400 * j + i) % 400) + 865 * ((400 * j + i) / 400)
      omega
    rw [hp1] at hz0
    obtain ⟨v1, z2, e1, hz1⟩ := pz_keep1 hz0 (show pz_kp 164 (400 * j + i) = true from pz_dt (show 400 * j + i < 800 by omega))
    rw [← hp1] at hz1
    rw [e1, Option.bind_some, if_pos b, pz_wr_suc (by omega)]
    dsimp only
    refine ih f (i + 1) _ (by omega) (by omega) ?_
    rw [show 1099 + 865 * j + 2 * (i + 1) = 1099 + 865 * j + 2 * i + 1 + 1 by omega]
    exact hz1
theorem pz_keepsLaw_14 {T : Bool} {z0 : px_Z} {j : Nat} (hj : j ≤ 1) {K : px_Z → Int → Option (px_Z)} {Q : px_Z → Prop} (hK : ∀ z', pz_KI T z0 (1099 + 865 * j) z' → pz_ok (K z' (j : Int)) Q) : ∀ (m fu i : Nat) (z : px_Z), i + m = 16 → m < fu → pz_KI T z0 (1035 + 865 * j + 4 * i) z → pz_ok (l_M_keepsLaw_14 K fu z (j : Int) ((16 * j + i : Nat) : Int)) Q := by
  intro m
  induction m with
  | zero =>
    intro fu i z hi hf hz
    obtain ⟨f, rfl⟩ : ∃ f, fu = f + 1 := ⟨fu - 1, by omega⟩
    have : i = 16 := by omega
    subst this
    rw [l_M_keepsLaw_14, pz_wr_id (x := 16 * (j : Int)) (by omega) (by omega), pz_wr_id (x := 16 * (j : Int) + 16) (by omega) (by omega), if_pos (by omega)]
    refine hK z ?_
    rw [show 1099 + 865 * j = 1035 + 865 * j + 4 * 16 by omega]
    exact hz
  | succ m ih =>
    intro fu i z hi hf hz
    obtain ⟨f, rfl⟩ : ∃ f, fu = f + 1 := ⟨fu - 1, by omega⟩
    have b : 0 ≤ ((16 * j + i : Nat) : Int) ∧ ((16 * j + i : Nat) : Int) < 48 := by omega
    rw [l_M_keepsLaw_14, pz_wr_id (x := 16 * (j : Int)) (by omega) (by omega), pz_wr_id (x := 16 * (j : Int) + 16) (by omega) (by omega), if_neg (by omega), if_pos b, Int.toNat_natCast]
    have hp0 : 1035 + 865 * j + 4 * i = pz_pos 159 (16 * j + i) := by
      show _ = 1035 + 4 * ((16 * j + i) % 16) + 865 * ((16 * j + i) / 16)
      omega
    rw [hp0] at hz
    obtain ⟨v0, z1, e0, hz0⟩ := pz_keep1 hz (show pz_kp 159 (16 * j + i) = true from pz_dt (show 16 * j + i < 32 by omega))
    rw [← hp0] at hz0
    clear hz
    rename pz_KI T z0 _ _ => hz
    rw [e0, Option.bind_some, if_pos b, if_pos b]
    dsimp only
    have hp1 : 1035 + 865 * j + 4 * i + 1 = pz_pos 160 (16 * j + i) := by
      show _ = 1036 + 4 * ((16 * j + i) % 16) + 865 * ((16 * j + i) / 16)
      omega
    rw [hp1] at hz
    obtain ⟨v1, z2, e1, hz1⟩ := pz_keep1 hz (show pz_kp 160 (16 * j + i) = true from pz_dt (show 16 * j + i < 32 by omega))
    rw [← hp1] at hz1
    clear hz
    rename pz_KI T z0 _ _ => hz
    rw [e1, Option.bind_some, if_pos b, if_pos b]
    dsimp only
    have hp2 : 1035 + 865 * j + 4 * i + 1 + 1 = pz_pos 161 (16 * j + i) := by
      show _ = 1037 + 4 * ((16 * j + i) % 16) + 865 * ((16 * j + i) / 16)
      omega
    rw [hp2] at hz
    obtain ⟨v2, z3, e2, hz2⟩ := pz_keep1 hz (show pz_kp 161 (16 * j + i) = true from pz_dt (show 16 * j + i < 32 by omega))
    rw [← hp2] at hz2
    clear hz
    rename pz_KI T z0 _ _ => hz
    rw [e2, Option.bind_some, if_pos b, if_pos b]
    dsimp only
    have hp3 : 1035 + 865 * j + 4 * i + 1 + 1 + 1 = pz_pos 162 (16 * j + i) := by
      show _ = 1038 + 4 * ((16 * j + i) % 16) + 865 * ((16 * j + i) / 16)
      omega
    rw [hp3] at hz
    obtain ⟨v3, z4, e3, hz3⟩ := pz_keep1 hz (show pz_kp 162 (16 * j + i) = true from pz_dt (show 16 * j + i < 32 by omega))
    rw [← hp3] at hz3
    clear hz
    rename pz_KI T z0 _ _ => hz
    rw [e3, Option.bind_some, if_pos b]
    dsimp only
    rw [pz_wr_suc (by omega)]
    refine ih f (i + 1) _ (by omega) (by omega) ?_
    rw [show 1035 + 865 * j + 4 * (i + 1) = 1035 + 865 * j + 4 * i + 1 + 1 + 1 + 1 by omega]
    exact hz
theorem pz_keepsLaw {T : Bool} {z0 z : px_Z} {j : Nat} (hj : j ≤ 1) (hz : pz_KI T z0 (1034 + 865 * j) z) : ∃ z', f_M_keepsLaw z (j : Int) = some z' ∧ pz_KI T z0 (1899 + 865 * j) z' := by
  unfold f_M_keepsLaw
  have b : 0 ≤ (j : Int) ∧ (j : Int) < 2 := by omega
  rw [if_pos b, Int.toNat_natCast]
  have hp : 1034 + 865 * j = pz_pos 158 j := rfl
  rw [hp] at hz
  obtain ⟨v, z1, e, hz1⟩ := pz_keep1 hz (show pz_kp 158 j = true from pz_dt (show j < 2 by omega))
  rw [← hp] at hz1
  rw [e, Option.bind_some, if_pos b]
  dsimp only
  have h := pz_keepsLaw_14 (T := T) (z0 := z0) hj (Q := fun z' => pz_KI T z0 (1899 + 865 * j) z') (K := fun s x1 => l_M_keepsLaw_67 px_big s x1 (px_wr (400 * x1))) (fun y hy => by
    rw [pz_wr_id (x := 400 * (j : Int)) (by omega) (by omega), show 400 * (j : Int) = ((400 * j + 0 : Nat) : Int) by omega]
    exact pz_keepsLaw_67 hj (fun y2 hy2 => hy2) 400 px_big 0 y (by omega) (pz_big_lt (by omega)) hy) 16 px_big 0 (px_up z1 158 j v) (by omega) (pz_big_lt (by omega)) (by
    rw [show 1035 + 865 * j + 4 * 0 = 1034 + 865 * j + 1 by omega]
    exact hz1)
  rw [pz_wr_id (x := 16 * (j : Int)) (by omega) (by omega), show 16 * (j : Int) = ((16 * j + 0 : Nat) : Int) by omega]
  obtain ⟨z', e2, hq⟩ := h
  exact ⟨z', e2, hq⟩
theorem pz_imgM {T : Bool} {z : px_Z} : ∃ z1 z', j_M_image_j10 z (if T then 1 else 0) = some (1, z') ∧ pz_KI T (px_up (px_up (px_up z 150 60 (if T then 1 else 0)) 150 61 1) 150 62 0) 2764 z1 ∧ z' = (if T then z1 else px_up z1 150 3 0) := by
  unfold j_M_image_j10
  rw [if_pos (by cases T <;> decide)]
  have hz0 : pz_KI T (px_up (px_up (px_up z 150 60 (if T then 1 else 0)) 150 61 1) 150 62 0) 0 (px_up (px_up (px_up z 150 60 (if T then 1 else 0)) 150 61 1) 150 62 0) := ⟨rfl, rfl, fun c i _ => (if_neg (fun q => absurd q.2 (Nat.not_lt_zero _))).symm, fun p => (if_neg (fun q => absurd q.2 (Nat.not_lt_zero _))).symm, fun _ _ _ _ _ => rfl⟩
  generalize px_up (px_up (px_up z 150 60 (if T then 1 else 0)) 150 61 1) 150 62 0 = w at hz0 ⊢
  have h := pz_image_21 (T := T) (z0 := w) (K := fun s x1 => (f_M_keepsTold s ).bind (fun q7 => l_M_image_40 (fun s x1 => (f_M_keepsLaw s 0).bind (fun q12 => (f_M_keepsLaw q12 1).bind (fun q13 => if (x1) = (0) then some (1, px_up q13 150 3 0) else some (1, q13)))) px_big q7 x1 0)) (Q := fun q => q.1 = 1 ∧ ∃ z1, pz_KI T w 2764 z1 ∧ q.2 = (if T then z1 else px_up z1 150 3 0)) (if T then 1 else 0) (fun y hy => by
    obtain ⟨y1, e1, h1⟩ := pz_keepsTold hy
    rw [e1, Option.bind_some]
    refine pz_image_40 (if T then 1 else 0) (fun y2 hy2 => ?_) 600 px_big 0 y1 (by omega) (pz_big_lt (by omega)) h1
    obtain ⟨y3, e3, h3⟩ := pz_keepsLaw (j := 0) (by omega) hy2
    rw [show f_M_keepsLaw y2 0 = some y3 from e3, Option.bind_some]
    obtain ⟨y4, e4, h4⟩ := pz_keepsLaw (j := 1) (by omega) h3
    rw [show f_M_keepsLaw y3 1 = some y4 from e4, Option.bind_some]
    cases T with
    | true => exact ⟨_, rfl, rfl, y4, h4, rfl⟩
    | false => exact ⟨_, rfl, rfl, y4, h4, rfl⟩) 40 px_big 0 w (by omega) (pz_big_lt (by omega)) hz0
  obtain ⟨⟨a, z'⟩, e, ha, z1, h1, h2⟩ := h
  have ha' : a = 1 := ha
  subst ha'
  exact ⟨z1, z', e, h1, h2⟩
