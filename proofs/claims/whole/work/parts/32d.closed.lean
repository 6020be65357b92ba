set_option maxRecDepth 100000 in
theorem P_z_add : P_chk 147 180 [] = true := by decide +kernel
set_option maxRecDepth 100000 in
theorem P_z_s0 : P_chk 153 276 [0] = true := by decide +kernel
set_option maxRecDepth 100000 in
theorem P_z_s1 : P_chk 153 276 [1] = true := by decide +kernel
set_option maxRecDepth 100000 in
theorem P_z_f0 : P_chk 154 277 [0] = true := by decide +kernel
set_option maxRecDepth 100000 in
theorem P_z_f1 : P_chk 154 277 [1] = true := by decide +kernel
set_option maxRecDepth 100000 in
theorem P_z_e0 : P_chk 146 176 [0] = true := by decide +kernel
set_option maxRecDepth 100000 in
theorem P_z_c0 : P_chk 161 284 [nI 0] = true := by decide +kernel
set_option maxRecDepth 100000 in
theorem P_z_c1 : P_chk 161 284 [nI 1] = true := by decide +kernel
set_option maxRecDepth 100000 in
theorem P_z_c2 : P_chk 161 284 [nI 2] = true := by decide +kernel
set_option maxRecDepth 100000 in
theorem P_z_c3 : P_chk 161 284 [nI 3] = true := by decide +kernel
set_option maxRecDepth 100000 in
theorem P_z_c4 : P_chk 161 284 [nI 4] = true := by decide +kernel
set_option maxRecDepth 100000 in
theorem P_z_c5 : P_chk 161 284 [nI 5] = true := by decide +kernel
set_option maxRecDepth 100000 in
theorem P_z_c6 : P_chk 161 284 [nI 6] = true := by decide +kernel
set_option maxRecDepth 100000 in
theorem P_z_c7 : P_chk 161 284 [nI 7] = true := by decide +kernel
set_option maxRecDepth 100000 in
theorem P_z_c8 : P_chk 161 284 [nI 8] = true := by decide +kernel
set_option maxRecDepth 100000 in
theorem P_z_c9 : P_chk 161 284 [nI 9] = true := by decide +kernel
