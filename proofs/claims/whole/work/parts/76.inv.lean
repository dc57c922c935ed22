/-! WHAT HOLDS BETWEEN CALLS: the class's cells beside the reference's -/
/-- a FATE (five rows) beside a row of forty; n THINGS -/
def pz_F (n : Nat) (f0 f1 f2 f3 f4 q : Nat → Int) : Prop :=
  (f0 0 = q 1 ∧ f0 1 = q 3 ∧ f0 2 = q 4 ∧ f0 3 = q 5 ∧ f0 4 = q 0 ∧ f0 5 = q 6 - 1 ∧ f0 7 = q 2) ∧
  (0 ≤ q 4 ∧ q 4 ≤ 9999 ∧ 0 ≤ q 5 ∧ q 5 ≤ 99 ∧ 0 ≤ q 0 ∧ q 0 ≤ 60 ∧ 0 ≤ q 6 ∧ q 6 ≤ (n : Int) ∧ 0 ≤ q 2 ∧ q 2 ≤ 120 ∧ 0 ≤ q 7 ∧ q 7 ≤ q 0 + 1 ∧ ((f0 6 = 0 ∧ q 7 ≠ q 0 + 1) ∨ (f0 6 = 1 ∧ q 7 = q 0 + 1))) ∧
  (∀ i, i < 8 → f1 i = q (8 + i) ∧ f2 i = q (16 + i) ∧ f3 i = q (24 + i) ∧ f4 i = q (32 + i) - 1 ∧ 0 ≤ q (8 + i) ∧ q (8 + i) ≤ 99 ∧ 0 ≤ q (32 + i) ∧ q (32 + i) ≤ 6 ∧ (q (16 + i) = 1 → 1 ≤ q (32 + i))) ∧
  (∀ i, i < 8 → n ≤ i → q (8 + i) = 0 ∧ q (16 + i) = 0 ∧ q (24 + i) = 0 ∧ q (32 + i) = 0) ∧
  (∀ k, k + 1 = n → q (16 + k) = 1 → ∀ i, i < n → q (16 + i) = 1)
/-- what was told of numbers -/
def pz_W1 (n : Nat) (u v : px_Z) : Prop := u 0 1 = (n : Int) ∧ v 150 6 = (n : Int) ∧ u 0 2 = v 150 8 ∧ u 0 3 = v 150 9 ∧ 0 ≤ v 150 9 ∧ u 0 4 = v 150 10 + 30 ∧ 0 ≤ u 0 4 ∧ u 0 4 ≤ 60 ∧ u 0 7 = v 150 37
def pz_W3 (u v : px_Z) : Prop := ∀ i, i < 8 → u 6 i = v 154 i ∧ u 7 i = v 167 i ∧ 0 ≤ v 167 i ∧ v 167 i < 256
/-- a LAW: its lines, the length of its code, no words that are not its own -/
def pz_WL (j m : Nat) (size : Int) (a b c d code : Nat → Int) (v : px_Z) : Prop := pz_LR j m (pz_lnv a b c d) code v ∧ 0 ≤ size ∧ size ≤ 400 ∧ (∀ l, l < m → d l ≤ size) ∧ (j = 1 → ∀ i : Nat, (i : Int) < size → code i ≠ 263 ∧ code i ≠ 264)
def pz_W4 (u v : px_Z) : Prop := (∃ m : Nat, u 8 0 = (m : Int) ∧ pz_WL 0 m (u 8 1) (u 9) (u 10) (u 11) (u 12) (u 13) v) ∧ (∃ m : Nat, u 15 0 = (m : Int) ∧ pz_WL 1 m (u 15 1) (u 16) (u 17) (u 18) (u 19) (u 20) v)
def pz_W5 (u v : px_Z) : Prop := ∃ m : Nat, m ≤ 24 ∧ u 22 0 = (m : Int) ∧ v 150 35 = (m : Int) ∧ pz_hle (pz_hlv (u 23) (u 24) (u 25) (u 26) (u 27)) (fun i k => v 166 (5 * i + k)) m ∧ (∀ i, i < m → -1 ≤ u 23 i ∧ u 23 i ≤ 7 ∧ 0 ≤ u 24 i ∧ u 24 i ≤ 5 ∧ (u 23 i = -1 → 0 ≤ u 25 i ∧ u 26 i ≤ 60 ∧ 0 ≤ u 27 i ∧ u 27 i ≤ 5))
def pz_W6 (n : Nat) (u v : px_Z) : Prop := ∃ m : Nat, m ≤ 60 ∧ u 28 0 = (m : Int) ∧ v 150 43 = (m : Int) ∧ (∀ k, k < m → u 29 k = 280 + v 171 (3 * k) ∧ u 30 k = v 171 (3 * k + 1) ∧ ((v 171 (3 * k) = 0 ∧ u 31 k = v 171 (3 * k + 2) ∧ 0 ≤ u 30 k ∧ u 30 k < (n : Int) ∧ 0 ≤ u 31 k ∧ u 31 k ≤ 5) ∨ ((v 171 (3 * k) = 1 ∨ v 171 (3 * k) = 2) ∧ 1 ≤ u 30 k ∧ u 30 k ≤ 20)))
def pz_W7 (u v : px_Z) : Prop := (u 32 0 = v 150 51 ∧ 0 ≤ v 150 51 ∧ v 150 51 ≤ 8 ∧ (∀ i : Nat, (i : Int) < v 150 51 → u 33 i = v 178 i ∧ 0 ≤ v 178 i ∧ v 178 i < 256)) ∧
  (u 32 1 = v 150 53 ∧ 0 ≤ v 150 53 ∧ v 150 53 ≤ 12 ∧ (∀ i : Nat, (i : Int) < v 150 53 → u 34 i = v 179 i ∧ 0 ≤ v 179 i ∧ v 179 i < 8 ∧ u 35 i = v 180 i ∧ u 36 i = v 181 i)) ∧
  (u 32 2 = v 150 57 ∧ 0 ≤ v 150 57 ∧ v 150 57 ≤ 12 ∧ (∀ i : Nat, (i : Int) < v 150 57 → u 37 i = v 182 i ∧ 0 ≤ u 37 i ∧ u 37 i ≤ 60 ∧ 1 ≤ u 38 i ∧ u 38 i ≤ 20 ∧ u 37 i + u 38 i - 1 = v 183 i))
def pz_W8 (u v : px_Z) : Prop := ∀ k, k < 600 → u 39 k = v 155 k
/-- a WORLD of the class (41 cells) beside the reference's cells -/
def pz_W (n : Nat) (u v : px_Z) : Prop := n ≤ 8 ∧ pz_W1 n u v ∧ pz_F n (u 1) (u 2) (u 3) (u 4) (u 5) (v 151) ∧ pz_W3 u v ∧ pz_W4 u v ∧ pz_W5 u v ∧ pz_W6 n u v ∧ pz_W7 u v ∧ pz_W8 u v
/-- the world as it stands -/
def pz_wo (s : px_Z) : px_Z := fun c => s (6 + c)
/-- what can be undone -/
def pz_U (n : Nat) (s : px_Z) : Prop := ∃ k r : Nat, k ≤ 6 ∧ r < 6 ∧ s 88 2 = (k : Int) ∧ s 150 3 = (k : Int) ∧ s 88 1 = (r : Int) ∧ (∀ j, j < k → pz_F n (s (90 + 5 * ((r + 6 - j) % 6))) (s (91 + 5 * ((r + 6 - j) % 6))) (s (92 + 5 * ((r + 6 - j) % 6))) (s (93 + 5 * ((r + 6 - j) % 6))) (s (94 + 5 * ((r + 6 - j) % 6))) (fun i => s 152 (40 * (k - 1 - j) + i)))
/-- where the reference keeps a cell's number in its image -/
def pz_pos (c i : Nat) : Nat :=
  if c = 151 then i
  else if c = 150 then (if i = 6 then 40 else if i = 8 then 41 else if i = 9 then 42 else if i = 10 then 43 else if i = 35 then 44 else if i = 37 then 45 else if i = 43 then 46 else if i = 51 then 47 else if i = 53 then 48 else 49)
  else if c = 154 then 50 + 3 * i else if c = 167 then 51 + 3 * i else if c = 178 then 52 + 3 * i
  else if c = 179 then 74 + 5 * i else if c = 180 then 75 + 5 * i else if c = 181 then 76 + 5 * i else if c = 182 then 77 + 5 * i else if c = 183 then 78 + 5 * i
  else if c = 166 then 134 + i else if c = 171 then 254 + i else if c = 155 then 434 + i
  else if c = 158 then 1034 + 865 * i
  else if c = 159 then 1035 + 4 * (i % 16) + 865 * (i / 16) else if c = 160 then 1036 + 4 * (i % 16) + 865 * (i / 16) else if c = 161 then 1037 + 4 * (i % 16) + 865 * (i / 16) else if c = 162 then 1038 + 4 * (i % 16) + 865 * (i / 16)
  else if c = 163 then 1099 + 2 * (i % 400) + 865 * (i / 400) else 1100 + 2 * (i % 400) + 865 * (i / 400)
def pz_M (s : px_Z) : Prop := (s 5 2 = 0 ∧ s 150 61 = 0) ∨ (s 5 2 = 1 ∧ s 150 61 = 1 ∧ ∃ n, pz_W n (fun c => s (47 + c)) (fun c i => s 184 (pz_pos c i)))
def pz_T (s : px_Z) : Prop := s 5 5 = s 150 13 ∧ 0 ≤ s 150 13 ∧ s 150 13 ≤ 400 ∧ (∀ i, i < 400 → s 120 i = s 156 i ∧ 0 ≤ s 156 i ∧ s 156 i < 256)
def pz_wd : List Int := [32, 112, 114, 105, 99, 101, 32, 119, 101, 97, 114, 32, 101, 97, 116, 32, 103, 97, 105, 110, 32, 119, 104, 101, 110, 32, 111, 114, 32, 97, 110, 100, 32, 110, 111, 116, 32, 116, 104, 105, 110, 103, 32, 119, 111, 114, 116, 104, 32, 119, 101, 97, 114, 115, 32, 119, 101, 101, 107, 32, 104, 111, 109, 101, 32, 99, 114, 105, 101, 115, 32, 108, 97, 115, 116, 32, 114, 105, 118, 97, 108, 32, 99, 114, 101, 100, 105, 116, 32, 112, 97, 115, 115, 32, 102, 114, 111, 109, 32, 116, 111, 32, 109, 117, 100, 32, 99, 97, 118, 101, 32, 98, 121, 32, 97, 102, 116, 101, 114, 32, 112, 97, 121, 32, 99, 114, 121, 32, 119, 97, 105, 116, 32, 97, 103, 97, 105, 110, 32]
/-- the rest: the latest text's fault, no thought under way, the words -/
def pz_X (s : px_Z) : Prop := s 121 7 = s 150 33 ∧ s 121 8 = s 150 34 ∧ s 150 5 = 0 ∧ (∀ i, i < 139 → s 157 i = pz_wd.getD i 0)
/-- is any PASS open in a WEEK -/
def pz_an (hl : Nat → Nat → Int) (m : Nat) (w : Int) : Bool := (pz_fi (fun p => decide (pz_md hl m (p : Int) w ≠ -1)) 6 0).isSome
/-- LEAST: what is yet to be paid, L: never -/
def pz_cv (L rest p : Int) : Int := if L ≤ rest then L else rest + p
def pz_co (L : Int) (n : Nat) (af : Nat → Int) (op : Int → Bool) (th : Int) (pr : Nat → Int → Nat → Nat → Int) : Nat → Nat → Nat → Int
  | 0, S, _ => if S = 2 ^ n - 1 then 0 else L
  | r + 1, S, q => pz_fo (fun t b => if pz_can n af t S && op (th - r) then (if pz_cv L (pz_co L n af op th pr r (S ||| 2 ^ t) (t + 1)) (pr t (th - r) (pz_cnt S) q) < b then pz_cv L (pz_co L n af op th pr r (S ||| 2 ^ t) (t + 1)) (pr t (th - r) (pz_cnt S) q) else b) else b) n 0 (pz_co L n af op th pr r S q)
/-- the best of the THINGS and the first that gives it -/
def pz_bc (L : Int) (n : Nat) (af : Nat → Int) (op : Int → Bool) (th : Int) (pr : Nat → Int → Nat → Nat → Int) (r S q : Nat) : Int × Nat := pz_fo (fun t (b : Int × Nat) => if pz_can n af t S && op (th - r) then (if pz_cv L (pz_co L n af op th pr r (S ||| 2 ^ t) (t + 1)) (pr t (th - r) (pz_cnt S) q) < b.1 then (pz_cv L (pz_co L n af op th pr r (S ||| 2 ^ t) (t + 1)) (pr t (th - r) (pz_cnt S) q), t) else b) else b) n 0 (L, 8)
def pz_ch (L : Int) (n : Nat) (af : Nat → Int) (op : Int → Bool) (th : Int) (pr : Nat → Int → Nat → Nat → Int) (r S q : Nat) : Nat := if pz_co L n af op th pr r S q < (pz_bc L n af op th pr r S q).1 then 8 else (pz_bc L n af op th pr r S q).2
/-- the price that is thought of: m lines of PRICES, the THING tk with the RIVAL -/
def pz_prc (s : px_Z) (m : Nat) (tk : Int) (t : Nat) (wk : Int) (c q : Nat) : Int := pz_pr m (pz_lnv (s 15) (s 16) (s 17) (s 18)) (s 19) (pz_gv (t : Int) (s 12 t) (s 8 t) wk (s 7 3) (if (t : Int) = tk ∨ s 9 t = 2 then 1 else 0) (s 7 2) (c : Int) (pz_lw (s 12) ((q : Int) - 1))) (s 12 t)
def pz_opc (s : px_Z) (mh : Nat) (w : Int) : Bool := pz_an (pz_hlv (s 29) (s 30) (s 31) (s 32) (s 33)) mh w && !(decide (w = s 7 4) && decide (s 7 6 ≠ 0))
def pz_nib (x : Int) (sl : Nat) : Int := px_and (px_shr x (4 * (sl : Int))) 15
/-- the sets that come up from hs on -/
def pz_dom (n hs S : Nat) : Prop := S < 2 ^ n ∧ hs &&& S = hs ∧ (S < 2 ^ (n - 1) ∨ S = 2 ^ n - 1)
/-- bl: whether the price asks for LAST -/
def pz_slot (bl : Bool) (hs S sl : Nat) : Prop := sl < 8 ∧ (((bl = false ∨ S = hs) ∧ sl = 0) ∨ (bl = true ∧ S ≠ hs ∧ S.testBit sl = true ∧ hs.testBit sl = false))
def pz_lq (hs q0 S sl : Nat) : Nat := if S = hs then q0 else sl + 1
/-- prices that don't rest on LAST -/
def pz_nq (pr : Nat → Int → Nat → Nat → Int) : Prop := ∀ t w c q q2, pr t w c q = pr t w c q2
def pz_bl (s : px_Z) : Bool := decide (s 145 9 ≠ 0)
def pz_sol (n m mh : Nat) (s : px_Z) : Prop :=
  s 145 5 = ((pz_hs (s 9) n : Nat) : Int) ∧ s 145 6 = ((2 ^ n - 1 : Nat) : Int) ∧ (s 6 4 < s 7 4 → s 145 11 = 536870912) ∧ (s 7 4 ≤ s 6 4 →
    s 145 11 = pz_co 536870912 n (s 13) (pz_opc s mh) (s 6 4) (pz_prc s m (s 145 10)) (s 6 4 - s 7 4 + 1).toNat (pz_hs (s 9) n) (s 7 5 + 1).toNat ∧
    s 145 12 = pz_co 536870912 n (s 13) (pz_opc s mh) (s 6 4) (pz_prc s m (s 145 10)) (s 6 4 - s 7 4).toNat (pz_hs (s 9) n) (s 7 5 + 1).toNat ∧
    (pz_bl s = false → pz_nq (pz_prc s m (s 145 10))) ∧
    (∀ r : Nat, (r : Int) ≤ s 6 4 - s 7 4 → ∀ S sl, pz_dom n (pz_hs (s 9) n) S → S < 2 ^ (n - 1) → pz_slot (pz_bl s) (pz_hs (s 9) n) S sl →
      pz_nib (s 147 (128 * (s 6 4 - r).toNat + S)) sl = (pz_ch 536870912 n (s 13) (pz_opc s mh) (s 6 4) (pz_prc s m (s 145 10)) r S (pz_lq (pz_hs (s 9) n) (s 7 5 + 1).toNat S sl) : Int)))
/-- the sum if a THING were with the RIVAL, and the hardest of those that are HELD -/
def pz_hx (n m mh : Nat) (s : px_Z) (i : Nat) : Int := if s 7 4 ≤ s 6 4 then pz_co 536870912 n (s 13) (pz_opc s mh) (s 6 4) (pz_prc s m (i : Int)) (s 6 4 - s 7 4 + 1).toNat (pz_hs (s 9) n) (s 7 5 + 1).toNat else 536870912
def pz_hw (h : Nat → Int) (x : Nat → Int) : Nat → Nat → Int × Int → Int × Int := pz_fo (fun i b => if h i = 0 then (if 536870912 ≤ x i then b else (if x i ≤ b.2 then b else ((i : Int), x i))) else b)
/-- the thought that was last thought holds, or is forgotten -/
def pz_Cs (n m mh : Nat) (s : px_Z) : Prop := s 145 10 = -2 ∨ (-1 ≤ s 145 10 ∧ pz_sol n m mh s)
def pz_Ch (n m mh : Nat) (s : px_Z) : Prop := s 145 13 = 0 ∨ (s 145 14, s 145 15) = pz_hw (s 9) (pz_hx n m mh s) (n - 1) 0 (-1, -1)
abbrev pz_fg (s : px_Z) : Prop := s 145 10 = -2 ∧ s 145 13 = 0
theorem pz_fg_of {s t : px_Z} (h1 : t 145 10 = s 145 10) (h2 : t 145 13 = s 145 13) (h : pz_fg s) : pz_fg t := ⟨h1.trans h.1, h2.trans h.2⟩
def pz_C (n : Nat) (s : px_Z) : Prop := pz_fg s ∨ (∃ m mh : Nat, s 14 0 = (m : Int) ∧ s 28 0 = (mh : Int) ∧ pz_Cs n m mh s ∧ pz_Ch n m mh s)
def pz_I (s : px_Z) : Prop := ∃ n, pz_W n (pz_wo s) s ∧ pz_U n s ∧ pz_M s ∧ pz_T s ∧ pz_X s ∧ pz_C n s
