set_option maxRecDepth 100000 in
theorem px_v148_0 : (List.range 88).all (fun i => px_okb 148 (0 + i)) = true := by decide +kernel
set_option maxRecDepth 100000 in
theorem px_v148_1 : (List.range 88).all (fun i => px_okb 148 (88 + i)) = true := by decide +kernel
set_option maxRecDepth 100000 in
theorem px_v148_2 : (List.range 88).all (fun i => px_okb 148 (176 + i)) = true := by decide +kernel
set_option maxRecDepth 100000 in
theorem px_v148_3 : (List.range 88).all (fun i => px_okb 148 (264 + i)) = true := by decide +kernel
set_option maxRecDepth 100000 in
theorem px_v148_4 : (List.range 88).all (fun i => px_okb 148 (352 + i)) = true := by decide +kernel
set_option maxRecDepth 100000 in
theorem px_v148_5 : (List.range 88).all (fun i => px_okb 148 (440 + i)) = true := by decide +kernel
set_option maxRecDepth 100000 in
theorem px_v148_6 : (List.range 88).all (fun i => px_okb 148 (528 + i)) = true := by decide +kernel
set_option maxRecDepth 100000 in
theorem px_v148_7 : (List.range 88).all (fun i => px_okb 148 (616 + i)) = true := by decide +kernel
set_option maxRecDepth 100000 in
theorem px_v282_0 : (List.range 88).all (fun i => px_okb 282 (0 + i)) = true := by decide +kernel
set_option maxRecDepth 100000 in
theorem px_v282_1 : (List.range 88).all (fun i => px_okb 282 (88 + i)) = true := by decide +kernel
set_option maxRecDepth 100000 in
theorem px_v282_2 : (List.range 88).all (fun i => px_okb 282 (176 + i)) = true := by decide +kernel
set_option maxRecDepth 100000 in
theorem px_v282_3 : (List.range 88).all (fun i => px_okb 282 (264 + i)) = true := by decide +kernel
set_option maxRecDepth 100000 in
theorem px_v282_4 : (List.range 88).all (fun i => px_okb 282 (352 + i)) = true := by decide +kernel
set_option maxRecDepth 100000 in
theorem px_v282_5 : (List.range 88).all (fun i => px_okb 282 (440 + i)) = true := by decide +kernel
set_option maxRecDepth 100000 in
theorem px_v282_6 : (List.range 88).all (fun i => px_okb 282 (528 + i)) = true := by decide +kernel
set_option maxRecDepth 100000 in
theorem px_v282_7 : (List.range 88).all (fun i => px_okb 282 (616 + i)) = true := by decide +kernel
set_option maxRecDepth 100000 in
theorem px_v282_8 : (List.range 32).all (fun i => px_okb 282 (704 + i)) = true := by decide +kernel
