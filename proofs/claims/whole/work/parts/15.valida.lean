set_option maxRecDepth 100000 in
theorem px_v0 : px_okm 0 = true := by decide +kernel
set_option maxRecDepth 100000 in
theorem px_v1 : px_okm 1 = true := by decide +kernel
set_option maxRecDepth 100000 in
theorem px_v2 : px_okm 2 = true := by decide +kernel
set_option maxRecDepth 100000 in
theorem px_v3 : px_okm 3 = true := by decide +kernel
set_option maxRecDepth 100000 in
theorem px_v4 : px_okm 4 = true := by decide +kernel
set_option maxRecDepth 100000 in
theorem px_v5 : px_okm 5 = true := by decide +kernel
set_option maxRecDepth 100000 in
theorem px_v6 : px_okm 6 = true := by decide +kernel
set_option maxRecDepth 100000 in
theorem px_v7 : px_okm 7 = true := by decide +kernel
set_option maxRecDepth 100000 in
theorem px_v8 : px_okm 8 = true := by decide +kernel
set_option maxRecDepth 100000 in
theorem px_v9 : px_okm 9 = true := by decide +kernel
set_option maxRecDepth 100000 in
theorem px_v10 : px_okm 10 = true := by decide +kernel
set_option maxRecDepth 100000 in
theorem px_v11 : px_okm 11 = true := by decide +kernel
set_option maxRecDepth 100000 in
theorem px_v12 : px_okm 12 = true := by decide +kernel
set_option maxRecDepth 100000 in
theorem px_v13 : px_okm 13 = true := by decide +kernel
set_option maxRecDepth 100000 in
theorem px_v14 : px_okm 14 = true := by decide +kernel
set_option maxRecDepth 100000 in
theorem px_v15 : px_okm 15 = true := by decide +kernel
set_option maxRecDepth 100000 in
theorem px_v16 : px_okm 16 = true := by decide +kernel
set_option maxRecDepth 100000 in
theorem px_v17 : px_okm 17 = true := by decide +kernel
set_option maxRecDepth 100000 in
theorem px_v18 : px_okm 18 = true := by decide +kernel
set_option maxRecDepth 100000 in
theorem px_v19 : px_okm 19 = true := by decide +kernel
set_option maxRecDepth 100000 in
theorem px_v20 : px_okm 20 = true := by decide +kernel
set_option maxRecDepth 100000 in
theorem px_v21 : px_okm 21 = true := by decide +kernel
set_option maxRecDepth 100000 in
theorem px_v22 : px_okm 22 = true := by decide +kernel
set_option maxRecDepth 100000 in
theorem px_v23 : px_okm 23 = true := by decide +kernel
set_option maxRecDepth 100000 in
theorem px_v24 : px_okm 24 = true := by decide +kernel
set_option maxRecDepth 100000 in
theorem px_v25 : px_okm 25 = true := by decide +kernel
set_option maxRecDepth 100000 in
theorem px_v26 : px_okm 26 = true := by decide +kernel
set_option maxRecDepth 100000 in
theorem px_v27 : px_okm 27 = true := by decide +kernel
set_option maxRecDepth 100000 in
theorem px_v28 : px_okm 28 = true := by decide +kernel
set_option maxRecDepth 100000 in
theorem px_v29 : px_okm 29 = true := by decide +kernel
set_option maxRecDepth 100000 in
theorem px_v30 : px_okm 30 = true := by decide +kernel
set_option maxRecDepth 100000 in
theorem px_v31 : px_okm 31 = true := by decide +kernel
set_option maxRecDepth 100000 in
theorem px_v32 : px_okm 32 = true := by decide +kernel
set_option maxRecDepth 100000 in
theorem px_v33 : px_okm 33 = true := by decide +kernel
set_option maxRecDepth 100000 in
theorem px_v34 : px_okm 34 = true := by decide +kernel
set_option maxRecDepth 100000 in
theorem px_v35 : px_okm 35 = true := by decide +kernel
set_option maxRecDepth 100000 in
theorem px_v36 : px_okm 36 = true := by decide +kernel
set_option maxRecDepth 100000 in
theorem px_v37 : px_okm 37 = true := by decide +kernel
set_option maxRecDepth 100000 in
theorem px_v38 : px_okm 38 = true := by decide +kernel
set_option maxRecDepth 100000 in
theorem px_v39 : px_okm 39 = true := by decide +kernel
set_option maxRecDepth 100000 in
theorem px_v40 : px_okm 40 = true := by decide +kernel
set_option maxRecDepth 100000 in
theorem px_v41 : px_okm 41 = true := by decide +kernel
set_option maxRecDepth 100000 in
theorem px_v42 : px_okm 42 = true := by decide +kernel
set_option maxRecDepth 100000 in
theorem px_v43 : px_okm 43 = true := by decide +kernel
set_option maxRecDepth 100000 in
theorem px_v44 : px_okm 44 = true := by decide +kernel
set_option maxRecDepth 100000 in
theorem px_v45 : px_okm 45 = true := by decide +kernel
set_option maxRecDepth 100000 in
theorem px_v46 : px_okm 46 = true := by decide +kernel
set_option maxRecDepth 100000 in
theorem px_v47 : px_okm 47 = true := by decide +kernel
set_option maxRecDepth 100000 in
theorem px_v48 : px_okm 48 = true := by decide +kernel
set_option maxRecDepth 100000 in
theorem px_v49 : px_okm 49 = true := by decide +kernel
set_option maxRecDepth 100000 in
theorem px_v50 : px_okm 50 = true := by decide +kernel
set_option maxRecDepth 100000 in
theorem px_v51 : px_okm 51 = true := by decide +kernel
set_option maxRecDepth 100000 in
theorem px_v52 : px_okm 52 = true := by decide +kernel
set_option maxRecDepth 100000 in
theorem px_v53 : px_okm 53 = true := by decide +kernel
set_option maxRecDepth 100000 in
theorem px_v54 : px_okm 54 = true := by decide +kernel
set_option maxRecDepth 100000 in
theorem px_v55 : px_okm 55 = true := by decide +kernel
set_option maxRecDepth 100000 in
theorem px_v56 : px_okm 56 = true := by decide +kernel
set_option maxRecDepth 100000 in
theorem px_v57 : px_okm 57 = true := by decide +kernel
set_option maxRecDepth 100000 in
theorem px_v58 : px_okm 58 = true := by decide +kernel
set_option maxRecDepth 100000 in
theorem px_v59 : px_okm 59 = true := by decide +kernel
set_option maxRecDepth 100000 in
theorem px_v60 : px_okm 60 = true := by decide +kernel
set_option maxRecDepth 100000 in
theorem px_v61 : px_okm 61 = true := by decide +kernel
set_option maxRecDepth 100000 in
theorem px_v62 : px_okm 62 = true := by decide +kernel
set_option maxRecDepth 100000 in
theorem px_v63 : px_okm 63 = true := by decide +kernel
set_option maxRecDepth 100000 in
theorem px_v64 : px_okm 64 = true := by decide +kernel
set_option maxRecDepth 100000 in
theorem px_v65 : px_okm 65 = true := by decide +kernel
set_option maxRecDepth 100000 in
theorem px_v66 : px_okm 66 = true := by decide +kernel
set_option maxRecDepth 100000 in
theorem px_v67 : px_okm 67 = true := by decide +kernel
set_option maxRecDepth 100000 in
theorem px_v68 : px_okm 68 = true := by decide +kernel
set_option maxRecDepth 100000 in
theorem px_v69 : px_okm 69 = true := by decide +kernel
set_option maxRecDepth 100000 in
theorem px_v70 : px_okm 70 = true := by decide +kernel
set_option maxRecDepth 100000 in
theorem px_v71 : px_okm 71 = true := by decide +kernel
set_option maxRecDepth 100000 in
theorem px_v72 : px_okm 72 = true := by decide +kernel
set_option maxRecDepth 100000 in
theorem px_v73 : px_okm 73 = true := by decide +kernel
set_option maxRecDepth 100000 in
theorem px_v74 : px_okm 74 = true := by decide +kernel
set_option maxRecDepth 100000 in
theorem px_v75 : px_okm 75 = true := by decide +kernel
set_option maxRecDepth 100000 in
theorem px_v76 : px_okm 76 = true := by decide +kernel
set_option maxRecDepth 100000 in
theorem px_v77 : px_okm 77 = true := by decide +kernel
set_option maxRecDepth 100000 in
theorem px_v78 : px_okm 78 = true := by decide +kernel
set_option maxRecDepth 100000 in
theorem px_v79 : px_okm 79 = true := by decide +kernel
set_option maxRecDepth 100000 in
theorem px_v80 : px_okm 80 = true := by decide +kernel
set_option maxRecDepth 100000 in
theorem px_v81 : px_okm 81 = true := by decide +kernel
set_option maxRecDepth 100000 in
theorem px_v82 : px_okm 82 = true := by decide +kernel
set_option maxRecDepth 100000 in
theorem px_v83 : px_okm 83 = true := by decide +kernel
set_option maxRecDepth 100000 in
theorem px_v84 : px_okm 84 = true := by decide +kernel
set_option maxRecDepth 100000 in
theorem px_v85 : px_okm 85 = true := by decide +kernel
set_option maxRecDepth 100000 in
theorem px_v86 : px_okm 86 = true := by decide +kernel
set_option maxRecDepth 100000 in
theorem px_v87 : px_okm 87 = true := by decide +kernel
set_option maxRecDepth 100000 in
theorem px_v88 : px_okm 88 = true := by decide +kernel
set_option maxRecDepth 100000 in
theorem px_v89 : px_okm 89 = true := by decide +kernel
set_option maxRecDepth 100000 in
theorem px_v90 : px_okm 90 = true := by decide +kernel
set_option maxRecDepth 100000 in
theorem px_v91 : px_okm 91 = true := by decide +kernel
set_option maxRecDepth 100000 in
theorem px_v92 : px_okm 92 = true := by decide +kernel
set_option maxRecDepth 100000 in
theorem px_v93 : px_okm 93 = true := by decide +kernel
set_option maxRecDepth 100000 in
theorem px_v94 : px_okm 94 = true := by decide +kernel
set_option maxRecDepth 100000 in
theorem px_v95 : px_okm 95 = true := by decide +kernel
set_option maxRecDepth 100000 in
theorem px_v96 : px_okm 96 = true := by decide +kernel
set_option maxRecDepth 100000 in
theorem px_v97 : px_okm 97 = true := by decide +kernel
set_option maxRecDepth 100000 in
theorem px_v98 : px_okm 98 = true := by decide +kernel
set_option maxRecDepth 100000 in
theorem px_v99 : px_okm 99 = true := by decide +kernel
