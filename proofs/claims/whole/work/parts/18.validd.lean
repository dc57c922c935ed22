set_option maxRecDepth 100000 in
theorem px_v145_0 : (List.range 88).all (fun i => px_okb 145 (0 + i)) = true := by decide +kernel
set_option maxRecDepth 100000 in
theorem px_v145_1 : (List.range 88).all (fun i => px_okb 145 (88 + i)) = true := by decide +kernel
set_option maxRecDepth 100000 in
theorem px_v145_2 : (List.range 88).all (fun i => px_okb 145 (176 + i)) = true := by decide +kernel
set_option maxRecDepth 100000 in
theorem px_v145_3 : (List.range 88).all (fun i => px_okb 145 (264 + i)) = true := by decide +kernel
set_option maxRecDepth 100000 in
theorem px_v145_4 : (List.range 88).all (fun i => px_okb 145 (352 + i)) = true := by decide +kernel
set_option maxRecDepth 100000 in
theorem px_v145_5 : (List.range 88).all (fun i => px_okb 145 (440 + i)) = true := by decide +kernel
set_option maxRecDepth 100000 in
theorem px_v145_6 : (List.range 88).all (fun i => px_okb 145 (528 + i)) = true := by decide +kernel
set_option maxRecDepth 100000 in
theorem px_v145_7 : (List.range 88).all (fun i => px_okb 145 (616 + i)) = true := by decide +kernel
set_option maxRecDepth 100000 in
theorem px_v279_0 : (List.range 88).all (fun i => px_okb 279 (0 + i)) = true := by decide +kernel
set_option maxRecDepth 100000 in
theorem px_v279_1 : (List.range 88).all (fun i => px_okb 279 (88 + i)) = true := by decide +kernel
set_option maxRecDepth 100000 in
theorem px_v279_2 : (List.range 88).all (fun i => px_okb 279 (176 + i)) = true := by decide +kernel
set_option maxRecDepth 100000 in
theorem px_v279_3 : (List.range 88).all (fun i => px_okb 279 (264 + i)) = true := by decide +kernel
set_option maxRecDepth 100000 in
theorem px_v279_4 : (List.range 88).all (fun i => px_okb 279 (352 + i)) = true := by decide +kernel
set_option maxRecDepth 100000 in
theorem px_v279_5 : (List.range 88).all (fun i => px_okb 279 (440 + i)) = true := by decide +kernel
set_option maxRecDepth 100000 in
theorem px_v279_6 : (List.range 88).all (fun i => px_okb 279 (528 + i)) = true := by decide +kernel
set_option maxRecDepth 100000 in
theorem px_v279_7 : (List.range 88).all (fun i => px_okb 279 (616 + i)) = true := by decide +kernel
set_option maxRecDepth 100000 in
theorem px_v279_8 : (List.range 32).all (fun i => px_okb 279 (704 + i)) = true := by decide +kernel
