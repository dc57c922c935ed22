/-- what lies in old cells, and what else the tables say -/
def px_txt0 : String := "thing worth wears week cries rival credit home last price wear eat gain when or and not pass from to mud cave by after pay cry wait again "
def px_txt1 : String := ";+-*/()<=>"
def px_byt : List (List Int32) := [px_words.map Int32.ofInt, px_signs.map Int32.ofInt]
def px_Tx (g : px_g) (U : State) : Prop :=
  vk_R "RansomPieces$Reader" 84 px_txt0 g.2.2.2.1 U ∧ vk_R "RansomPieces$Reader" 76 px_txt1 g.2.2.2.2 U ∧
  (∃ adK adV : Nat → Nat, vk_S 2 [px_words.length, px_signs.length] px_byt adK adV (fun q => g.1 ≤ q) U U.heap ∧ adK 0 = g.2.2.2.1 ∧ adK 1 = g.2.2.2.2) ∧
  va_Z "java/lang/String" "COMPACT_STRINGS" "Z" (.int 1) (fun q => g.1 ≤ q) U U.heap ∧ va_Zq "jdk/internal/util/Preconditions" "SIOOBE_FORMATTER" "Ljava/util/function/BiFunction;" (fun q => g.1 ≤ q) U U.heap
def px_Ex (sc : List Int) (g : px_g) (U : State) : Prop :=
  va_AO "RansomPieces$Fate" U ∧ (∀ w ∈ lw_tbl, (∃ a b c d, w = Cond.methodLinkNest a b c d) → va_Nw w U) ∧
  va_Z "RansomPieces" "MOST_TOLD" "[I" (.ref g.2.2.1) (fun q => g.1 ≤ q) U U.heap ∧ (∃ fm : Nat → Int32, va_T .int g.2.2.1 8 (fun j => .int (fm j)) (fun q => g.1 ≤ q) U U.heap ∧ ∀ j v, px_mt[j]? = some v → (fm j).toInt = v) ∧
  (∃ (L : Nat) (xs : Nat → Int32), va_X g.2.1 L xs U U.heap ∧ g.2.1 < g.1 ∧ L < 2 ^ 31 ∧ sc.length = L ∧ ∀ j v, sc[j]? = some v → (xs j).toInt = v) ∧ px_Tx g U
theorem px_ix1 {g : px_g} {a : Nat} (h : px_ix g a = 1) : a = g.2.1 := by
  unfold px_ix at h
  split at h
  · omega
  · split at h
    · assumption
    · omega
theorem px_arrw {n0 : Nat} {cA cF : ClassId} {G : List px_Sh} {f : Nat → Nat → Int32} {k n : Nat} {rs : List (Option Nat)} (i : Nat) (x : Int32) (hG : G[k]? = some (12, n, rs)) : px_wd n0 cA cF G (px_fu f (k + 5) i x) = (px_wd n0 cA cF G f).set k (n0 + k, .inl (cA, n, .inl (upd (f (k + 5)) i x))) := by
  have h8 := px_wd_set (n0 := n0) (cA := cA) (cF := cF) (f := f) (f' := px_fu f (k + 5) i x) (sh' := (12, n, rs)) hG (fun j hj => px_fu_ne f x (by omega))
  rw [px_set_self hG, px_ent_arr, px_fu_self] at h8
  exact h8
section PXO
variable {sc : List Int} {l : Launch} {D : va_G} {cA cF : ClassId} {g : px_g}

theorem px_sim_iald : px_Sim sc l D cA cF g (px_Ex sc g) 37 px_o_iald := by
  intro mid ip pc a ins len he hd hdc hnx hex p e R s m args below meth c H locs cells slots Q lv ls st G f ip1 ls1 st1 G1 f1 hC hE hI hF hc hs kk
  cases hd
  have hnx := hnx.resolve_left (by decide)
  simp only [px_o_iald] at hF
  split at hF
  · rename_i j st2 h1
    obtain ⟨x, st3, rfl, rfl, rfl⟩ := px_pI_inv h1
    split at hF
    · rename_i r st4 h2
      split at hF
      · rename_i v hv
        cases hF
        simp only [px_z] at kk
        unfold px_rd at hv
        split at hv
        · obtain ⟨b, st5, rfl, hb, rfl⟩ := px_pR_inv h2 (by omega)
          have hb := px_ix1 hb
          subst hb
          obtain ⟨L, xs, hX, hbl, hL, hsc, hval⟩ := hE.2.2.2.2.1
          split at hv
          · rename_i h0
            have hlt : x.toInt.toNat < L := by rw [← hsc]; exact (List.getElem?_eq_some_iff.mp hv).1
            refine va_sld (A := fun q => g.1 ≤ q) hC.1 hC.2.1 hX (Nat.lt_of_lt_of_le hbl hC.2.2.2.2.2.2.2.1) (Nat.not_le.mpr hbl) hI.2.2.1 (vp_in_iff.mpr ⟨h0, by omega⟩) hdc ?_
            rw [← hnx]
            exact kk lv ls _ f H locs rfl (by rw [px_us_cons]; show Sum.inl (xs x.toInt.toNat).toInt :: _ = _; rw [hval _ _ hv]) rfl hI
          · cases hv
        · rename_i k
          obtain ⟨st5, rfl, rfl⟩ := px_pR5 h2
          split at hv
          · rename_i n rs hG
            split at hv
            · rename_i h0
              cases hv
              have hat := px_wd_at (n0 := g.1) (cA := cA) (cF := cF) f hG
              rw [px_ent_arr] at hat
              refine va_iald hC.1 hC.2.1 hC.2.2.2.2.2.1 hI.2.1 k 0 hat rfl (vp_in_iff.mpr h0) hdc ?_
              rw [← hnx]
              exact kk lv ls _ f H locs rfl rfl rfl hI
            · cases hv
          · cases hv
        · cases hv
      · cases hF
    · cases hF
  · cases hF
theorem px_sim_iast : px_Sim sc l D cA cF g (px_Ex sc g) 38 px_o_iast := by
  intro mid ip pc a ins len he hd hdc hnx hex p e R s m args below meth c H locs cells slots Q lv ls st G f ip1 ls1 st1 G1 f1 hC hE hI hF hc hs kk
  cases hd
  have hnx := hnx.resolve_left (by decide)
  simp only [px_o_iast] at hF
  split at hF
  · rename_i v st2 h1
    obtain ⟨x, st3, rfl, rfl, rfl⟩ := px_pI_inv h1
    split at hF
    · rename_i j st4 h2
      obtain ⟨i, st5, rfl, rfl, rfl⟩ := px_pI_inv h2
      split at hF
      · rename_i k st6 h3
        obtain ⟨st7, rfl, rfl⟩ := px_pR5 h3
        split at hF
        · rename_i n rs hG
          split at hF
          · rename_i h0
            cases hF
            simp only [px_z] at kk
            have hat := px_wd_at (n0 := g.1) (cA := cA) (cF := cF) f hG
            rw [px_ent_arr] at hat
            refine va_iast hC.1 hC.2.1 hC.2.2.2.2.2.1 hI.2.1 (px_wd_D _ _ _ _ _) hI.2.2.1 k 0 hat rfl (vp_in_iff.mpr h0) hdc (fun H1 locs1 hP1 _ hS1 => ?_)
            rw [← hnx]
            refine kk lv ls st7 (px_fu f (k + 5) i.toInt.toNat x) H1 locs1 rfl rfl (px_uf_fu _ _ _ _) ⟨hI.1, ?_, hS1, hI.2.2.2.1, hI.2.2.2.2.1, px_fz hI.2.2.2.2.2 hG _ _⟩
            rw [px_arrw _ _ hG]
            exact hP1
          · cases hF
        · cases hF
      · cases hF
    · cases hF
  · cases hF
theorem px_sim_alen : px_Sim sc l D cA cF g (px_Ex sc g) 41 px_o_alen := by
  intro mid ip pc a ins len he hd hdc hnx hex p e R s m args below meth c H locs cells slots Q lv ls st G f ip1 ls1 st1 G1 f1 hC hE hI hF hc hs kk
  cases hd
  have hnx := hnx.resolve_left (by decide)
  simp only [px_o_alen] at hF
  split at hF
  · rename_i r st2 h2
    split at hF
    · rename_i v hv
      cases hF
      simp only [px_z] at kk
      unfold px_len at hv
      split at hv
      · obtain ⟨b, st5, rfl, hb, rfl⟩ := px_pR_inv h2 (by omega)
        have hb := px_ix1 hb
        subst hb
        obtain ⟨L, xs, hX, hbl, hL, hsc, hval⟩ := hE.2.2.2.2.1
        cases hv
        refine va_slen (A := fun q => g.1 ≤ q) hC.1 hC.2.1 hX (Nat.lt_of_lt_of_le hbl hC.2.2.2.2.2.2.2.1) (Nat.not_le.mpr hbl) hI.2.2.1 hdc ?_
        rw [← hnx]
        exact kk lv ls _ f H locs rfl (by rw [px_us_cons]; show Sum.inl (nI L).toInt :: _ = _; rw [nI_toInt hL, hsc]) rfl hI
      · rename_i k
        obtain ⟨st5, rfl, rfl⟩ := px_pR5 h2
        split at hv
        · rename_i n rs hG
          split at hv
          · rename_i hn
            cases hv
            have hat := px_wd_at (n0 := g.1) (cA := cA) (cF := cF) f hG
            rw [px_ent_arr] at hat
            refine va_alen (v := nI n) hC.1 hC.2.1 hC.2.2.2.2.2.1 hI.2.1 k 0 hat rfl rfl hdc ?_
            rw [← hnx]
            exact kk lv ls _ f H locs rfl (by rw [px_us_cons]; show Sum.inl (nI n).toInt :: _ = _; rw [nI_toInt (by omega)]) rfl hI
          · cases hv
        · rename_i n rs hG
          split at hv
          · rename_i hn
            cases hv
            have hat := px_wd_at (n0 := g.1) (cA := cA) (cF := cF) f hG
            unfold px_ent at hat
            rw [if_neg (by show ¬ 13 = 12; omega), if_pos rfl] at hat
            refine va_alen (v := nI n) hC.1 hC.2.1 hC.2.2.2.2.2.1 hI.2.1 k 1 hat rfl rfl hdc ?_
            rw [← hnx]
            exact kk lv ls _ f H locs rfl (by rw [px_us_cons]; show Sum.inl (nI n).toInt :: _ = _; rw [nI_toInt (by omega)]) rfl hI
          · cases hv
        · cases hv
      · cases hv
    · cases hF
  · cases hF
end PXO
