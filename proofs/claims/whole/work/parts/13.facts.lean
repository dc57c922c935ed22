def px_G : List Cond := lw_tbl.filter goodWord
theorem px_lk2_in {w : Nat} {c : Cond} (h : px_lk2 w = some c) : c ∈ lw_tbl := by
  unfold px_lk2 at h
  split at h
  · rename_i t ht
    have h1 := List.mem_of_getElem? ht
    have h2 := List.mem_of_getElem? h
    unfold lw_tbl tables_1
    simp only [px_tabs, List.mem_cons, List.not_mem_nil, or_false] at h1
    simp only [List.mem_append]
    rcases h1 with rfl | rfl | rfl | rfl | rfl | rfl | rfl | rfl | rfl | rfl
    · exact Or.inl h2
    · exact Or.inr (Or.inl h2)
    · exact Or.inr (Or.inr (Or.inl h2))
    · exact Or.inr (Or.inr (Or.inr (Or.inl h2)))
    · exact Or.inr (Or.inr (Or.inr (Or.inr (Or.inl h2))))
    · exact Or.inr (Or.inr (Or.inr (Or.inr (Or.inr (Or.inl h2)))))
    · exact Or.inr (Or.inr (Or.inr (Or.inr (Or.inr (Or.inr (Or.inl h2))))))
    · exact Or.inr (Or.inr (Or.inr (Or.inr (Or.inr (Or.inr (Or.inr (Or.inl h2)))))))
    · exact Or.inr (Or.inr (Or.inr (Or.inr (Or.inr (Or.inr (Or.inr (Or.inr (Or.inl h2))))))))
    · exact Or.inr (Or.inr (Or.inr (Or.inr (Or.inr (Or.inr (Or.inr (Or.inr (Or.inr h2))))))))
  · cases h
theorem px_in {w : Nat} {c : Cond} (h : px_wd1 w c = true) : c ∈ px_G := by
  unfold px_wd1 at h
  rw [Bool.and_eq_true] at h
  exact List.mem_filter.mpr ⟨px_lk2_in (of_decide_eq_true h.1), h.2⟩
theorem px_at_all {α : Type} {l : List (List α)} {p : α → Bool} (h : l.all (fun c => c.all p) = true) {i : Nat} {q : α} (hq : px_at l i = some q) : p q = true := by
  unfold px_at at hq
  split at hq
  · rename_i c hc
    have h1 := List.all_eq_true.mp h c (List.mem_of_getElem? hc)
    exact List.all_eq_true.mp h1 q (List.mem_of_getElem? hq)
  · cases hq
set_option maxRecDepth 100000 in
theorem px_fl_all : (px_fl.all (fun c => c.all px_fok)) = true := by decide +kernel
set_option maxRecDepth 100000 in
theorem px_ml_0 : (px_ml.getD 0 []).all px_mok = true := by decide +kernel
set_option maxRecDepth 100000 in
theorem px_ml_1 : (px_ml.getD 1 []).all px_mok = true := by decide +kernel
set_option maxRecDepth 100000 in
theorem px_ml_2 : (px_ml.getD 2 []).all px_mok = true := by decide +kernel
set_option maxRecDepth 100000 in
theorem px_ml_3 : (px_ml.getD 3 []).all px_mok = true := by decide +kernel
set_option maxRecDepth 100000 in
theorem px_ml_4 : (px_ml.getD 4 []).all px_mok = true := by decide +kernel
set_option maxRecDepth 100000 in
theorem px_ml_5 : (px_ml.getD 5 []).all px_mok = true := by decide +kernel
set_option maxRecDepth 100000 in
theorem px_ml_6 : (px_ml.getD 6 []).all px_mok = true := by decide +kernel
set_option maxRecDepth 100000 in
theorem px_ml_7 : (px_ml.getD 7 []).all px_mok = true := by decide +kernel
set_option maxRecDepth 100000 in
theorem px_ml_8 : (px_ml.getD 8 []).all px_mok = true := by decide +kernel
set_option maxRecDepth 100000 in
theorem px_ml_9 : (px_ml.getD 9 []).all px_mok = true := by decide +kernel
set_option maxRecDepth 100000 in
theorem px_ml_10 : (px_ml.getD 10 []).all px_mok = true := by decide +kernel
set_option maxRecDepth 100000 in
theorem px_ml_11 : (px_ml.getD 11 []).all px_mok = true := by decide +kernel
set_option maxRecDepth 100000 in
theorem px_ml_12 : (px_ml.getD 12 []).all px_mok = true := by decide +kernel
set_option maxRecDepth 100000 in
theorem px_ml_13 : (px_ml.getD 13 []).all px_mok = true := by decide +kernel
set_option maxRecDepth 100000 in
theorem px_ml_14 : (px_ml.getD 14 []).all px_mok = true := by decide +kernel
set_option maxRecDepth 100000 in
theorem px_ml_15 : (px_ml.getD 15 []).all px_mok = true := by decide +kernel
set_option maxRecDepth 100000 in
theorem px_ml_16 : (px_ml.getD 16 []).all px_mok = true := by decide +kernel
set_option maxRecDepth 100000 in
theorem px_ml_17 : (px_ml.getD 17 []).all px_mok = true := by decide +kernel
set_option maxRecDepth 100000 in
theorem px_ml_18 : (px_ml.getD 18 []).all px_mok = true := by decide +kernel
set_option maxRecDepth 100000 in
theorem px_ml_19 : (px_ml.getD 19 []).all px_mok = true := by decide +kernel
set_option maxRecDepth 100000 in
theorem px_ml_20 : (px_ml.getD 20 []).all px_mok = true := by decide +kernel
theorem px_ml_all {i : Nat} {q : px_mT} (h : px_at px_ml i = some q) : px_mok q = true := by
  unfold px_at at h
  split at h
  · rename_i c hc
    have hl : i / 16 < 21 := (List.getElem?_eq_some_iff.mp hc).1
    have hq := List.mem_of_getElem? h
    have e : px_ml.getD (i / 16) [] = c := by rw [List.getD_eq_getElem?_getD, hc]; rfl
    generalize i / 16 = j at hl e
    match j, hl, e with
    | 0, _, e => exact List.all_eq_true.mp (e ▸ px_ml_0) q hq
    | 1, _, e => exact List.all_eq_true.mp (e ▸ px_ml_1) q hq
    | 2, _, e => exact List.all_eq_true.mp (e ▸ px_ml_2) q hq
    | 3, _, e => exact List.all_eq_true.mp (e ▸ px_ml_3) q hq
    | 4, _, e => exact List.all_eq_true.mp (e ▸ px_ml_4) q hq
    | 5, _, e => exact List.all_eq_true.mp (e ▸ px_ml_5) q hq
    | 6, _, e => exact List.all_eq_true.mp (e ▸ px_ml_6) q hq
    | 7, _, e => exact List.all_eq_true.mp (e ▸ px_ml_7) q hq
    | 8, _, e => exact List.all_eq_true.mp (e ▸ px_ml_8) q hq
    | 9, _, e => exact List.all_eq_true.mp (e ▸ px_ml_9) q hq
    | 10, _, e => exact List.all_eq_true.mp (e ▸ px_ml_10) q hq
    | 11, _, e => exact List.all_eq_true.mp (e ▸ px_ml_11) q hq
    | 12, _, e => exact List.all_eq_true.mp (e ▸ px_ml_12) q hq
    | 13, _, e => exact List.all_eq_true.mp (e ▸ px_ml_13) q hq
    | 14, _, e => exact List.all_eq_true.mp (e ▸ px_ml_14) q hq
    | 15, _, e => exact List.all_eq_true.mp (e ▸ px_ml_15) q hq
    | 16, _, e => exact List.all_eq_true.mp (e ▸ px_ml_16) q hq
    | 17, _, e => exact List.all_eq_true.mp (e ▸ px_ml_17) q hq
    | 18, _, e => exact List.all_eq_true.mp (e ▸ px_ml_18) q hq
    | 19, _, e => exact List.all_eq_true.mp (e ▸ px_ml_19) q hq
    | 20, _, e => exact List.all_eq_true.mp (e ▸ px_ml_20) q hq
    | n + 21, hl, _ => exact absurd hl (by omega)
  · cases h
def px_cfc (ci : Nat) : Bool := match px_cl[ci]?, px_fw[ci]? with
  | some (C, T, N), some ws => (List.range N).all (fun k => px_wd1 (ws.getD k 0) (u_lay C T k))
  | _, _ => true
set_option maxRecDepth 100000 in
theorem px_cf_all : (List.range 12).all px_cfc = true := by decide +kernel
theorem px_cl_len {ci : Nat} {C : String} {T : u_T} {N : Nat} (h : px_cl[ci]? = some (C, T, N)) : ci < 12 := (List.getElem?_eq_some_iff.mp h).1
theorem px_cl_in {ci : Nat} {C : String} {T : u_T} {N : Nat} (h : px_cl[ci]? = some (C, T, N)) : ∀ w ∈ u_ws C T N, w ∈ px_G := by
  intro w hw
  obtain ⟨k, hk, rfl⟩ := List.mem_map.mp hw
  have h1 := List.all_eq_true.mp px_cf_all ci (List.mem_range.mpr (px_cl_len h))
  unfold px_cfc at h1
  rw [h] at h1
  have h2 : ci < px_fw.length := px_cl_len h
  rw [List.getElem?_eq_getElem h2] at h1
  exact px_in (List.all_eq_true.mp h1 k hk)
theorem px_cl_ty {ci : Nat} {C : String} {T : u_T} {N : Nat} (h : px_cl[ci]? = some (C, T, N)) : ∃ ty : Nat → FieldType, ∀ k, k < N → parseFieldDescriptor (T k).2.2.1 = some (ty k) := by
  have h0 := px_cl_len h
  match ci, h0, h with
  | 0, _, h => cases h; exact ⟨_, tyX0_ok⟩
  | 1, _, h => cases h; exact ⟨_, tyX1_ok⟩
  | 2, _, h => cases h; exact ⟨_, tyX2_ok⟩
  | 3, _, h => cases h; exact ⟨_, tyX3_ok⟩
  | 4, _, h => cases h; exact ⟨_, tyX4_ok⟩
  | 5, _, h => cases h; exact ⟨_, tyX5_ok⟩
  | 6, _, h => cases h; exact ⟨_, tyX6_ok⟩
  | 7, _, h => cases h; exact ⟨_, tyX7_ok⟩
  | 8, _, h => cases h; exact ⟨_, tyX8_ok⟩
  | 9, _, h => cases h; exact ⟨_, tyX9_ok⟩
  | 10, _, h => cases h; exact ⟨_, tyX10_ok⟩
  | 11, _, h => cases h; exact ⟨_, tyX11_ok⟩
  | n + 12, h0, _ => exact absurd h0 (by omega)
theorem px_cl_nm {ci : Nat} {C : String} {T : u_T} {N : Nat} (h : px_cl[ci]? = some (C, T, N)) : ∀ a, a < N → ∀ b, b < N → a ≠ b → (T a).2.1 ≠ (T b).2.1 := by
  have h0 := px_cl_len h
  match ci, h0, h with
  | 0, _, h => cases h; exact nmX0
  | 1, _, h => cases h; exact nmX1
  | 2, _, h => cases h; exact nmX2
  | 3, _, h => cases h; exact nmX3
  | 4, _, h => cases h; exact nmX4
  | 5, _, h => cases h; exact nmX5
  | 6, _, h => cases h; exact nmX6
  | 7, _, h => cases h; exact nmX7
  | 8, _, h => cases h; exact nmX8
  | 9, _, h => cases h; exact nmX9
  | 10, _, h => cases h; exact nmX10
  | 11, _, h => cases h; exact nmX11
  | n + 12, h0, _ => exact absurd h0 (by omega)
/-- the slots of a new object are the defaults of its fields -/
def px_nwc (ci : Nat) : Bool := match px_cl[ci]?, px_new[ci]? with
  | some (_, T, N), some (n, rs) => (n == N) && (rs.length == N) && (List.range N).all (fun k => match parseFieldDescriptor (T k).2.2.1, rs[k]? with
      | some .int, some none => true
      | some .boolean, some none => true
      | some (.object _), some (some 0) => true
      | some (.array _), some (some 0) => true
      | _, _ => false)
  | _, _ => false
set_option maxRecDepth 100000 in
theorem px_nw_all : (List.range 12).all px_nwc = true := by decide +kernel
