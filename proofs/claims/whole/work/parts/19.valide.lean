theorem px_v148 : px_okm 148 = true := by
  unfold px_okm
  rw [List.all_eq_true]
  intro ip h
  have hlt : ip < 704 := List.mem_range.mp h
  by_cases h0 : ip < 88
  · have h9 := List.all_eq_true.mp px_v148_0 (ip - 0) (List.mem_range.mpr (by omega))
    rw [show 0 + (ip - 0) = ip by omega] at h9
    exact h9
  by_cases h1 : ip < 176
  · have h9 := List.all_eq_true.mp px_v148_1 (ip - 88) (List.mem_range.mpr (by omega))
    rw [show 88 + (ip - 88) = ip by omega] at h9
    exact h9
  by_cases h2 : ip < 264
  · have h9 := List.all_eq_true.mp px_v148_2 (ip - 176) (List.mem_range.mpr (by omega))
    rw [show 176 + (ip - 176) = ip by omega] at h9
    exact h9
  by_cases h3 : ip < 352
  · have h9 := List.all_eq_true.mp px_v148_3 (ip - 264) (List.mem_range.mpr (by omega))
    rw [show 264 + (ip - 264) = ip by omega] at h9
    exact h9
  by_cases h4 : ip < 440
  · have h9 := List.all_eq_true.mp px_v148_4 (ip - 352) (List.mem_range.mpr (by omega))
    rw [show 352 + (ip - 352) = ip by omega] at h9
    exact h9
  by_cases h5 : ip < 528
  · have h9 := List.all_eq_true.mp px_v148_5 (ip - 440) (List.mem_range.mpr (by omega))
    rw [show 440 + (ip - 440) = ip by omega] at h9
    exact h9
  by_cases h6 : ip < 616
  · have h9 := List.all_eq_true.mp px_v148_6 (ip - 528) (List.mem_range.mpr (by omega))
    rw [show 528 + (ip - 528) = ip by omega] at h9
    exact h9
  by_cases h7 : ip < 704
  · have h9 := List.all_eq_true.mp px_v148_7 (ip - 616) (List.mem_range.mpr (by omega))
    rw [show 616 + (ip - 616) = ip by omega] at h9
    exact h9
  exact absurd hlt (by omega)
theorem px_v282 : px_okm 282 = true := by
  unfold px_okm
  rw [List.all_eq_true]
  intro ip h
  have hlt : ip < 736 := List.mem_range.mp h
  by_cases h0 : ip < 88
  · have h9 := List.all_eq_true.mp px_v282_0 (ip - 0) (List.mem_range.mpr (by omega))
    rw [show 0 + (ip - 0) = ip by omega] at h9
    exact h9
  by_cases h1 : ip < 176
  · have h9 := List.all_eq_true.mp px_v282_1 (ip - 88) (List.mem_range.mpr (by omega))
    rw [show 88 + (ip - 88) = ip by omega] at h9
    exact h9
  by_cases h2 : ip < 264
  · have h9 := List.all_eq_true.mp px_v282_2 (ip - 176) (List.mem_range.mpr (by omega))
    rw [show 176 + (ip - 176) = ip by omega] at h9
    exact h9
  by_cases h3 : ip < 352
  · have h9 := List.all_eq_true.mp px_v282_3 (ip - 264) (List.mem_range.mpr (by omega))
    rw [show 264 + (ip - 264) = ip by omega] at h9
    exact h9
  by_cases h4 : ip < 440
  · have h9 := List.all_eq_true.mp px_v282_4 (ip - 352) (List.mem_range.mpr (by omega))
    rw [show 352 + (ip - 352) = ip by omega] at h9
    exact h9
  by_cases h5 : ip < 528
  · have h9 := List.all_eq_true.mp px_v282_5 (ip - 440) (List.mem_range.mpr (by omega))
    rw [show 440 + (ip - 440) = ip by omega] at h9
    exact h9
  by_cases h6 : ip < 616
  · have h9 := List.all_eq_true.mp px_v282_6 (ip - 528) (List.mem_range.mpr (by omega))
    rw [show 528 + (ip - 528) = ip by omega] at h9
    exact h9
  by_cases h7 : ip < 704
  · have h9 := List.all_eq_true.mp px_v282_7 (ip - 616) (List.mem_range.mpr (by omega))
    rw [show 616 + (ip - 616) = ip by omega] at h9
    exact h9
  by_cases h8 : ip < 736
  · have h9 := List.all_eq_true.mp px_v282_8 (ip - 704) (List.mem_range.mpr (by omega))
    rw [show 704 + (ip - 704) = ip by omega] at h9
    exact h9
  exact absurd hlt (by omega)
def px_ids : List (List Nat) := [[0, 1, 2, 3, 4, 5, 6, 7, 8, 9, 10, 11, 12, 13, 14, 15], [16, 17, 18, 19, 20, 21, 22, 23, 24, 25, 26, 27, 28, 29, 30, 31], [32, 33, 34, 35, 36, 37, 38, 39, 40, 41, 42, 43, 44, 45, 46, 47], [48, 49, 50, 51, 52, 53, 54, 55, 56, 57, 58, 59, 60, 61, 62, 63], [64, 65, 66, 67, 68, 69, 70, 71, 72, 73, 74, 75, 76, 77, 78, 79], [80, 81, 82, 83, 84, 85, 86, 87, 88, 89, 90, 91, 92, 93, 94, 95], [96, 97, 98, 99, 100, 101, 102, 103, 104, 105, 106, 107, 108, 109, 110, 111], [112, 113, 114, 115, 116, 117, 118, 119, 120, 121, 122, 123, 124, 125, 126, 127], [128, 129, 130, 131, 132, 133, 134, 135, 136, 137, 138, 139, 140, 141, 142, 143], [144, 145, 146, 147, 148, 149, 150, 151, 152, 153, 154, 155, 156, 157, 158, 159], [160, 161, 162, 163, 164, 165, 166, 167, 168, 169, 170, 171, 172, 173, 174, 175], [176, 177, 178, 179, 180, 181, 182, 183, 184, 185, 186, 187, 188, 189, 190, 191], [192, 193, 194, 195, 196, 197, 198, 199, 200, 201, 202, 203, 204, 205, 206, 207], [208, 209, 210, 211, 212, 213, 214, 215, 216, 217, 218, 219, 220, 221, 222, 223], [224, 225, 226, 227, 228, 229, 230, 231, 232, 233, 234, 235, 236, 237, 238, 239], [240, 241, 242, 243, 244, 245, 246, 247, 248, 249, 250, 251, 252, 253, 254, 255], [256, 257, 258, 259, 260, 261, 262, 263, 264, 265, 266, 267, 268, 269, 270, 271], [272, 273, 274, 275, 276, 277, 278, 279, 280, 281, 282, 283, 284, 285, 286, 287], [288, 289]]
theorem px_vc0 : ∀ m ∈ ([0, 1, 2, 3, 4, 5, 6, 7, 8, 9, 10, 11, 12, 13, 14, 15] : List Nat), px_okm m = true := List.forall_mem_cons.mpr ⟨px_v0, List.forall_mem_cons.mpr ⟨px_v1, List.forall_mem_cons.mpr ⟨px_v2, List.forall_mem_cons.mpr ⟨px_v3, List.forall_mem_cons.mpr ⟨px_v4, List.forall_mem_cons.mpr ⟨px_v5, List.forall_mem_cons.mpr ⟨px_v6, List.forall_mem_cons.mpr ⟨px_v7, List.forall_mem_cons.mpr ⟨px_v8, List.forall_mem_cons.mpr ⟨px_v9, List.forall_mem_cons.mpr ⟨px_v10, List.forall_mem_cons.mpr ⟨px_v11, List.forall_mem_cons.mpr ⟨px_v12, List.forall_mem_cons.mpr ⟨px_v13, List.forall_mem_cons.mpr ⟨px_v14, List.forall_mem_cons.mpr ⟨px_v15, fun _ h => absurd h List.not_mem_nil⟩⟩⟩⟩⟩⟩⟩⟩⟩⟩⟩⟩⟩⟩⟩⟩
theorem px_vc1 : ∀ m ∈ ([16, 17, 18, 19, 20, 21, 22, 23, 24, 25, 26, 27, 28, 29, 30, 31] : List Nat), px_okm m = true := List.forall_mem_cons.mpr ⟨px_v16, List.forall_mem_cons.mpr ⟨px_v17, List.forall_mem_cons.mpr ⟨px_v18, List.forall_mem_cons.mpr ⟨px_v19, List.forall_mem_cons.mpr ⟨px_v20, List.forall_mem_cons.mpr ⟨px_v21, List.forall_mem_cons.mpr ⟨px_v22, List.forall_mem_cons.mpr ⟨px_v23, List.forall_mem_cons.mpr ⟨px_v24, List.forall_mem_cons.mpr ⟨px_v25, List.forall_mem_cons.mpr ⟨px_v26, List.forall_mem_cons.mpr ⟨px_v27, List.forall_mem_cons.mpr ⟨px_v28, List.forall_mem_cons.mpr ⟨px_v29, List.forall_mem_cons.mpr ⟨px_v30, List.forall_mem_cons.mpr ⟨px_v31, fun _ h => absurd h List.not_mem_nil⟩⟩⟩⟩⟩⟩⟩⟩⟩⟩⟩⟩⟩⟩⟩⟩
theorem px_vc2 : ∀ m ∈ ([32, 33, 34, 35, 36, 37, 38, 39, 40, 41, 42, 43, 44, 45, 46, 47] : List Nat), px_okm m = true := List.forall_mem_cons.mpr ⟨px_v32, List.forall_mem_cons.mpr ⟨px_v33, List.forall_mem_cons.mpr ⟨px_v34, List.forall_mem_cons.mpr ⟨px_v35, List.forall_mem_cons.mpr ⟨px_v36, List.forall_mem_cons.mpr ⟨px_v37, List.forall_mem_cons.mpr ⟨px_v38, List.forall_mem_cons.mpr ⟨px_v39, List.forall_mem_cons.mpr ⟨px_v40, List.forall_mem_cons.mpr ⟨px_v41, List.forall_mem_cons.mpr ⟨px_v42, List.forall_mem_cons.mpr ⟨px_v43, List.forall_mem_cons.mpr ⟨px_v44, List.forall_mem_cons.mpr ⟨px_v45, List.forall_mem_cons.mpr ⟨px_v46, List.forall_mem_cons.mpr ⟨px_v47, fun _ h => absurd h List.not_mem_nil⟩⟩⟩⟩⟩⟩⟩⟩⟩⟩⟩⟩⟩⟩⟩⟩
theorem px_vc3 : ∀ m ∈ ([48, 49, 50, 51, 52, 53, 54, 55, 56, 57, 58, 59, 60, 61, 62, 63] : List Nat), px_okm m = true := List.forall_mem_cons.mpr ⟨px_v48, List.forall_mem_cons.mpr ⟨px_v49, List.forall_mem_cons.mpr ⟨px_v50, List.forall_mem_cons.mpr ⟨px_v51, List.forall_mem_cons.mpr ⟨px_v52, List.forall_mem_cons.mpr ⟨px_v53, List.forall_mem_cons.mpr ⟨px_v54, List.forall_mem_cons.mpr ⟨px_v55, List.forall_mem_cons.mpr ⟨px_v56, List.forall_mem_cons.mpr ⟨px_v57, List.forall_mem_cons.mpr ⟨px_v58, List.forall_mem_cons.mpr ⟨px_v59, List.forall_mem_cons.mpr ⟨px_v60, List.forall_mem_cons.mpr ⟨px_v61, List.forall_mem_cons.mpr ⟨px_v62, List.forall_mem_cons.mpr ⟨px_v63, fun _ h => absurd h List.not_mem_nil⟩⟩⟩⟩⟩⟩⟩⟩⟩⟩⟩⟩⟩⟩⟩⟩
theorem px_vc4 : ∀ m ∈ ([64, 65, 66, 67, 68, 69, 70, 71, 72, 73, 74, 75, 76, 77, 78, 79] : List Nat), px_okm m = true := List.forall_mem_cons.mpr ⟨px_v64, List.forall_mem_cons.mpr ⟨px_v65, List.forall_mem_cons.mpr ⟨px_v66, List.forall_mem_cons.mpr ⟨px_v67, List.forall_mem_cons.mpr ⟨px_v68, List.forall_mem_cons.mpr ⟨px_v69, List.forall_mem_cons.mpr ⟨px_v70, List.forall_mem_cons.mpr ⟨px_v71, List.forall_mem_cons.mpr ⟨px_v72, List.forall_mem_cons.mpr ⟨px_v73, List.forall_mem_cons.mpr ⟨px_v74, List.forall_mem_cons.mpr ⟨px_v75, List.forall_mem_cons.mpr ⟨px_v76, List.forall_mem_cons.mpr ⟨px_v77, List.forall_mem_cons.mpr ⟨px_v78, List.forall_mem_cons.mpr ⟨px_v79, fun _ h => absurd h List.not_mem_nil⟩⟩⟩⟩⟩⟩⟩⟩⟩⟩⟩⟩⟩⟩⟩⟩
theorem px_vc5 : ∀ m ∈ ([80, 81, 82, 83, 84, 85, 86, 87, 88, 89, 90, 91, 92, 93, 94, 95] : List Nat), px_okm m = true := List.forall_mem_cons.mpr ⟨px_v80, List.forall_mem_cons.mpr ⟨px_v81, List.forall_mem_cons.mpr ⟨px_v82, List.forall_mem_cons.mpr ⟨px_v83, List.forall_mem_cons.mpr ⟨px_v84, List.forall_mem_cons.mpr ⟨px_v85, List.forall_mem_cons.mpr ⟨px_v86, List.forall_mem_cons.mpr ⟨px_v87, List.forall_mem_cons.mpr ⟨px_v88, List.forall_mem_cons.mpr ⟨px_v89, List.forall_mem_cons.mpr ⟨px_v90, List.forall_mem_cons.mpr ⟨px_v91, List.forall_mem_cons.mpr ⟨px_v92, List.forall_mem_cons.mpr ⟨px_v93, List.forall_mem_cons.mpr ⟨px_v94, List.forall_mem_cons.mpr ⟨px_v95, fun _ h => absurd h List.not_mem_nil⟩⟩⟩⟩⟩⟩⟩⟩⟩⟩⟩⟩⟩⟩⟩⟩
theorem px_vc6 : ∀ m ∈ ([96, 97, 98, 99, 100, 101, 102, 103, 104, 105, 106, 107, 108, 109, 110, 111] : List Nat), px_okm m = true := List.forall_mem_cons.mpr ⟨px_v96, List.forall_mem_cons.mpr ⟨px_v97, List.forall_mem_cons.mpr ⟨px_v98, List.forall_mem_cons.mpr ⟨px_v99, List.forall_mem_cons.mpr ⟨px_v100, List.forall_mem_cons.mpr ⟨px_v101, List.forall_mem_cons.mpr ⟨px_v102, List.forall_mem_cons.mpr ⟨px_v103, List.forall_mem_cons.mpr ⟨px_v104, List.forall_mem_cons.mpr ⟨px_v105, List.forall_mem_cons.mpr ⟨px_v106, List.forall_mem_cons.mpr ⟨px_v107, List.forall_mem_cons.mpr ⟨px_v108, List.forall_mem_cons.mpr ⟨px_v109, List.forall_mem_cons.mpr ⟨px_v110, List.forall_mem_cons.mpr ⟨px_v111, fun _ h => absurd h List.not_mem_nil⟩⟩⟩⟩⟩⟩⟩⟩⟩⟩⟩⟩⟩⟩⟩⟩
theorem px_vc7 : ∀ m ∈ ([112, 113, 114, 115, 116, 117, 118, 119, 120, 121, 122, 123, 124, 125, 126, 127] : List Nat), px_okm m = true := List.forall_mem_cons.mpr ⟨px_v112, List.forall_mem_cons.mpr ⟨px_v113, List.forall_mem_cons.mpr ⟨px_v114, List.forall_mem_cons.mpr ⟨px_v115, List.forall_mem_cons.mpr ⟨px_v116, List.forall_mem_cons.mpr ⟨px_v117, List.forall_mem_cons.mpr ⟨px_v118, List.forall_mem_cons.mpr ⟨px_v119, List.forall_mem_cons.mpr ⟨px_v120, List.forall_mem_cons.mpr ⟨px_v121, List.forall_mem_cons.mpr ⟨px_v122, List.forall_mem_cons.mpr ⟨px_v123, List.forall_mem_cons.mpr ⟨px_v124, List.forall_mem_cons.mpr ⟨px_v125, List.forall_mem_cons.mpr ⟨px_v126, List.forall_mem_cons.mpr ⟨px_v127, fun _ h => absurd h List.not_mem_nil⟩⟩⟩⟩⟩⟩⟩⟩⟩⟩⟩⟩⟩⟩⟩⟩
theorem px_vc8 : ∀ m ∈ ([128, 129, 130, 131, 132, 133, 134, 135, 136, 137, 138, 139, 140, 141, 142, 143] : List Nat), px_okm m = true := List.forall_mem_cons.mpr ⟨px_v128, List.forall_mem_cons.mpr ⟨px_v129, List.forall_mem_cons.mpr ⟨px_v130, List.forall_mem_cons.mpr ⟨px_v131, List.forall_mem_cons.mpr ⟨px_v132, List.forall_mem_cons.mpr ⟨px_v133, List.forall_mem_cons.mpr ⟨px_v134, List.forall_mem_cons.mpr ⟨px_v135, List.forall_mem_cons.mpr ⟨px_v136, List.forall_mem_cons.mpr ⟨px_v137, List.forall_mem_cons.mpr ⟨px_v138, List.forall_mem_cons.mpr ⟨px_v139, List.forall_mem_cons.mpr ⟨px_v140, List.forall_mem_cons.mpr ⟨px_v141, List.forall_mem_cons.mpr ⟨px_v142, List.forall_mem_cons.mpr ⟨px_v143, fun _ h => absurd h List.not_mem_nil⟩⟩⟩⟩⟩⟩⟩⟩⟩⟩⟩⟩⟩⟩⟩⟩
theorem px_vc9 : ∀ m ∈ ([144, 145, 146, 147, 148, 149, 150, 151, 152, 153, 154, 155, 156, 157, 158, 159] : List Nat), px_okm m = true := List.forall_mem_cons.mpr ⟨px_v144, List.forall_mem_cons.mpr ⟨px_v145, List.forall_mem_cons.mpr ⟨px_v146, List.forall_mem_cons.mpr ⟨px_v147, List.forall_mem_cons.mpr ⟨px_v148, List.forall_mem_cons.mpr ⟨px_v149, List.forall_mem_cons.mpr ⟨px_v150, List.forall_mem_cons.mpr ⟨px_v151, List.forall_mem_cons.mpr ⟨px_v152, List.forall_mem_cons.mpr ⟨px_v153, List.forall_mem_cons.mpr ⟨px_v154, List.forall_mem_cons.mpr ⟨px_v155, List.forall_mem_cons.mpr ⟨px_v156, List.forall_mem_cons.mpr ⟨px_v157, List.forall_mem_cons.mpr ⟨px_v158, List.forall_mem_cons.mpr ⟨px_v159, fun _ h => absurd h List.not_mem_nil⟩⟩⟩⟩⟩⟩⟩⟩⟩⟩⟩⟩⟩⟩⟩⟩
theorem px_vc10 : ∀ m ∈ ([160, 161, 162, 163, 164, 165, 166, 167, 168, 169, 170, 171, 172, 173, 174, 175] : List Nat), px_okm m = true := List.forall_mem_cons.mpr ⟨px_v160, List.forall_mem_cons.mpr ⟨px_v161, List.forall_mem_cons.mpr ⟨px_v162, List.forall_mem_cons.mpr ⟨px_v163, List.forall_mem_cons.mpr ⟨px_v164, List.forall_mem_cons.mpr ⟨px_v165, List.forall_mem_cons.mpr ⟨px_v166, List.forall_mem_cons.mpr ⟨px_v167, List.forall_mem_cons.mpr ⟨px_v168, List.forall_mem_cons.mpr ⟨px_v169, List.forall_mem_cons.mpr ⟨px_v170, List.forall_mem_cons.mpr ⟨px_v171, List.forall_mem_cons.mpr ⟨px_v172, List.forall_mem_cons.mpr ⟨px_v173, List.forall_mem_cons.mpr ⟨px_v174, List.forall_mem_cons.mpr ⟨px_v175, fun _ h => absurd h List.not_mem_nil⟩⟩⟩⟩⟩⟩⟩⟩⟩⟩⟩⟩⟩⟩⟩⟩
theorem px_vc11 : ∀ m ∈ ([176, 177, 178, 179, 180, 181, 182, 183, 184, 185, 186, 187, 188, 189, 190, 191] : List Nat), px_okm m = true := List.forall_mem_cons.mpr ⟨px_v176, List.forall_mem_cons.mpr ⟨px_v177, List.forall_mem_cons.mpr ⟨px_v178, List.forall_mem_cons.mpr ⟨px_v179, List.forall_mem_cons.mpr ⟨px_v180, List.forall_mem_cons.mpr ⟨px_v181, List.forall_mem_cons.mpr ⟨px_v182, List.forall_mem_cons.mpr ⟨px_v183, List.forall_mem_cons.mpr ⟨px_v184, List.forall_mem_cons.mpr ⟨px_v185, List.forall_mem_cons.mpr ⟨px_v186, List.forall_mem_cons.mpr ⟨px_v187, List.forall_mem_cons.mpr ⟨px_v188, List.forall_mem_cons.mpr ⟨px_v189, List.forall_mem_cons.mpr ⟨px_v190, List.forall_mem_cons.mpr ⟨px_v191, fun _ h => absurd h List.not_mem_nil⟩⟩⟩⟩⟩⟩⟩⟩⟩⟩⟩⟩⟩⟩⟩⟩
theorem px_vc12 : ∀ m ∈ ([192, 193, 194, 195, 196, 197, 198, 199, 200, 201, 202, 203, 204, 205, 206, 207] : List Nat), px_okm m = true := List.forall_mem_cons.mpr ⟨px_v192, List.forall_mem_cons.mpr ⟨px_v193, List.forall_mem_cons.mpr ⟨px_v194, List.forall_mem_cons.mpr ⟨px_v195, List.forall_mem_cons.mpr ⟨px_v196, List.forall_mem_cons.mpr ⟨px_v197, List.forall_mem_cons.mpr ⟨px_v198, List.forall_mem_cons.mpr ⟨px_v199, List.forall_mem_cons.mpr ⟨px_v200, List.forall_mem_cons.mpr ⟨px_v201, List.forall_mem_cons.mpr ⟨px_v202, List.forall_mem_cons.mpr ⟨px_v203, List.forall_mem_cons.mpr ⟨px_v204, List.forall_mem_cons.mpr ⟨px_v205, List.forall_mem_cons.mpr ⟨px_v206, List.forall_mem_cons.mpr ⟨px_v207, fun _ h => absurd h List.not_mem_nil⟩⟩⟩⟩⟩⟩⟩⟩⟩⟩⟩⟩⟩⟩⟩⟩
theorem px_vc13 : ∀ m ∈ ([208, 209, 210, 211, 212, 213, 214, 215, 216, 217, 218, 219, 220, 221, 222, 223] : List Nat), px_okm m = true := List.forall_mem_cons.mpr ⟨px_v208, List.forall_mem_cons.mpr ⟨px_v209, List.forall_mem_cons.mpr ⟨px_v210, List.forall_mem_cons.mpr ⟨px_v211, List.forall_mem_cons.mpr ⟨px_v212, List.forall_mem_cons.mpr ⟨px_v213, List.forall_mem_cons.mpr ⟨px_v214, List.forall_mem_cons.mpr ⟨px_v215, List.forall_mem_cons.mpr ⟨px_v216, List.forall_mem_cons.mpr ⟨px_v217, List.forall_mem_cons.mpr ⟨px_v218, List.forall_mem_cons.mpr ⟨px_v219, List.forall_mem_cons.mpr ⟨px_v220, List.forall_mem_cons.mpr ⟨px_v221, List.forall_mem_cons.mpr ⟨px_v222, List.forall_mem_cons.mpr ⟨px_v223, fun _ h => absurd h List.not_mem_nil⟩⟩⟩⟩⟩⟩⟩⟩⟩⟩⟩⟩⟩⟩⟩⟩
theorem px_vc14 : ∀ m ∈ ([224, 225, 226, 227, 228, 229, 230, 231, 232, 233, 234, 235, 236, 237, 238, 239] : List Nat), px_okm m = true := List.forall_mem_cons.mpr ⟨px_v224, List.forall_mem_cons.mpr ⟨px_v225, List.forall_mem_cons.mpr ⟨px_v226, List.forall_mem_cons.mpr ⟨px_v227, List.forall_mem_cons.mpr ⟨px_v228, List.forall_mem_cons.mpr ⟨px_v229, List.forall_mem_cons.mpr ⟨px_v230, List.forall_mem_cons.mpr ⟨px_v231, List.forall_mem_cons.mpr ⟨px_v232, List.forall_mem_cons.mpr ⟨px_v233, List.forall_mem_cons.mpr ⟨px_v234, List.forall_mem_cons.mpr ⟨px_v235, List.forall_mem_cons.mpr ⟨px_v236, List.forall_mem_cons.mpr ⟨px_v237, List.forall_mem_cons.mpr ⟨px_v238, List.forall_mem_cons.mpr ⟨px_v239, fun _ h => absurd h List.not_mem_nil⟩⟩⟩⟩⟩⟩⟩⟩⟩⟩⟩⟩⟩⟩⟩⟩
theorem px_vc15 : ∀ m ∈ ([240, 241, 242, 243, 244, 245, 246, 247, 248, 249, 250, 251, 252, 253, 254, 255] : List Nat), px_okm m = true := List.forall_mem_cons.mpr ⟨px_v240, List.forall_mem_cons.mpr ⟨px_v241, List.forall_mem_cons.mpr ⟨px_v242, List.forall_mem_cons.mpr ⟨px_v243, List.forall_mem_cons.mpr ⟨px_v244, List.forall_mem_cons.mpr ⟨px_v245, List.forall_mem_cons.mpr ⟨px_v246, List.forall_mem_cons.mpr ⟨px_v247, List.forall_mem_cons.mpr ⟨px_v248, List.forall_mem_cons.mpr ⟨px_v249, List.forall_mem_cons.mpr ⟨px_v250, List.forall_mem_cons.mpr ⟨px_v251, List.forall_mem_cons.mpr ⟨px_v252, List.forall_mem_cons.mpr ⟨px_v253, List.forall_mem_cons.mpr ⟨px_v254, List.forall_mem_cons.mpr ⟨px_v255, fun _ h => absurd h List.not_mem_nil⟩⟩⟩⟩⟩⟩⟩⟩⟩⟩⟩⟩⟩⟩⟩⟩
theorem px_vc16 : ∀ m ∈ ([256, 257, 258, 259, 260, 261, 262, 263, 264, 265, 266, 267, 268, 269, 270, 271] : List Nat), px_okm m = true := List.forall_mem_cons.mpr ⟨px_v256, List.forall_mem_cons.mpr ⟨px_v257, List.forall_mem_cons.mpr ⟨px_v258, List.forall_mem_cons.mpr ⟨px_v259, List.forall_mem_cons.mpr ⟨px_v260, List.forall_mem_cons.mpr ⟨px_v261, List.forall_mem_cons.mpr ⟨px_v262, List.forall_mem_cons.mpr ⟨px_v263, List.forall_mem_cons.mpr ⟨px_v264, List.forall_mem_cons.mpr ⟨px_v265, List.forall_mem_cons.mpr ⟨px_v266, List.forall_mem_cons.mpr ⟨px_v267, List.forall_mem_cons.mpr ⟨px_v268, List.forall_mem_cons.mpr ⟨px_v269, List.forall_mem_cons.mpr ⟨px_v270, List.forall_mem_cons.mpr ⟨px_v271, fun _ h => absurd h List.not_mem_nil⟩⟩⟩⟩⟩⟩⟩⟩⟩⟩⟩⟩⟩⟩⟩⟩
theorem px_vc17 : ∀ m ∈ ([272, 273, 274, 275, 276, 277, 278, 279, 280, 281, 282, 283, 284, 285, 286, 287] : List Nat), px_okm m = true := List.forall_mem_cons.mpr ⟨px_v272, List.forall_mem_cons.mpr ⟨px_v273, List.forall_mem_cons.mpr ⟨px_v274, List.forall_mem_cons.mpr ⟨px_v275, List.forall_mem_cons.mpr ⟨px_v276, List.forall_mem_cons.mpr ⟨px_v277, List.forall_mem_cons.mpr ⟨px_v278, List.forall_mem_cons.mpr ⟨px_v279, List.forall_mem_cons.mpr ⟨px_v280, List.forall_mem_cons.mpr ⟨px_v281, List.forall_mem_cons.mpr ⟨px_v282, List.forall_mem_cons.mpr ⟨px_v283, List.forall_mem_cons.mpr ⟨px_v284, List.forall_mem_cons.mpr ⟨px_v285, List.forall_mem_cons.mpr ⟨px_v286, List.forall_mem_cons.mpr ⟨px_v287, fun _ h => absurd h List.not_mem_nil⟩⟩⟩⟩⟩⟩⟩⟩⟩⟩⟩⟩⟩⟩⟩⟩
theorem px_vc18 : ∀ m ∈ ([288, 289] : List Nat), px_okm m = true := List.forall_mem_cons.mpr ⟨px_v288, List.forall_mem_cons.mpr ⟨px_v289, fun _ h => absurd h List.not_mem_nil⟩⟩
theorem px_vall : ∀ c ∈ px_ids, ∀ m ∈ c, px_okm m = true := List.forall_mem_cons.mpr ⟨px_vc0, List.forall_mem_cons.mpr ⟨px_vc1, List.forall_mem_cons.mpr ⟨px_vc2, List.forall_mem_cons.mpr ⟨px_vc3, List.forall_mem_cons.mpr ⟨px_vc4, List.forall_mem_cons.mpr ⟨px_vc5, List.forall_mem_cons.mpr ⟨px_vc6, List.forall_mem_cons.mpr ⟨px_vc7, List.forall_mem_cons.mpr ⟨px_vc8, List.forall_mem_cons.mpr ⟨px_vc9, List.forall_mem_cons.mpr ⟨px_vc10, List.forall_mem_cons.mpr ⟨px_vc11, List.forall_mem_cons.mpr ⟨px_vc12, List.forall_mem_cons.mpr ⟨px_vc13, List.forall_mem_cons.mpr ⟨px_vc14, List.forall_mem_cons.mpr ⟨px_vc15, List.forall_mem_cons.mpr ⟨px_vc16, List.forall_mem_cons.mpr ⟨px_vc17, List.forall_mem_cons.mpr ⟨px_vc18, fun _ h => absurd h List.not_mem_nil⟩⟩⟩⟩⟩⟩⟩⟩⟩⟩⟩⟩⟩⟩⟩⟩⟩⟩⟩
set_option maxRecDepth 100000 in
theorem px_idc : (List.range 290).all (fun m => decide (px_at px_ids m = some m)) = true := by decide +kernel
theorem px_hv (m ip : Nat) : px_okb m ip = true := by
  by_cases hm : m < 290
  · have h1 := of_decide_eq_true (List.all_eq_true.mp px_idc m (List.mem_range.mpr hm))
    have h2 : px_okm m = true := by
      unfold px_at at h1
      split at h1
      · rename_i c hc
        exact px_vall c (List.mem_of_getElem? hc) m (List.mem_of_getElem? h1)
      · cases h1
    by_cases hi : ip < 16 * (px_T m).length
    · exact List.all_eq_true.mp h2 ip (List.mem_range.mpr hi)
    · have h3 : px_e m ip = none := by
        unfold px_e px_at
        rw [List.getElem?_eq_none (by omega)]
      unfold px_okb
      rw [h3]
  · have h3 : px_T m = [] := by
      unfold px_T px_at
      by_cases h5 : m / 16 < 19
      · have h6 : m / 16 = 18 := by omega
        rw [h6]
        obtain ⟨k, h7⟩ : ∃ k, m % 16 = k + 2 := ⟨m % 16 - 2, by omega⟩
        rw [h7]
        rfl
      · rw [List.getElem?_eq_none (by show 19 ≤ m / 16; omega)]
    have h4 : px_e m ip = none := by
      unfold px_e
      rw [h3]
      rfl
    unfold px_okb
    rw [h4]

