set_option maxRecDepth 100000 in
theorem am_ck0 : am_chkF 0 0 am_q0 = true := by decide +kernel
set_option maxRecDepth 100000 in
theorem am_ck1 : am_chkF 1 0 am_q1 = true := by decide +kernel
set_option maxRecDepth 100000 in
theorem am_ck2 : am_chkF 2 0 am_q2 = true := by decide +kernel
set_option maxRecDepth 100000 in
theorem am_ck3 : am_chkF 3 0 am_q3 = true := by decide +kernel
set_option maxRecDepth 100000 in
theorem am_ck4 : am_chkF 4 0 am_q4 = true := by decide +kernel
set_option maxRecDepth 100000 in
theorem am_ck5 : am_chkF 5 0 am_q5 = true := by decide +kernel
set_option maxRecDepth 100000 in
theorem am_ck6 : am_chkF 6 0 am_q6 = true := by decide +kernel
set_option maxRecDepth 100000 in
theorem am_ck7 : am_chkF 7 0 am_q7 = true := by decide +kernel
set_option maxRecDepth 100000 in
theorem am_ck8 : am_chkF 8 0 am_q8 = true := by decide +kernel
set_option maxRecDepth 100000 in
theorem am_ck9 : am_chkF 9 0 am_q9 = true := by decide +kernel
set_option maxRecDepth 100000 in
theorem am_ck10 : am_chkF 10 0 am_q10 = true := by decide +kernel
set_option maxRecDepth 100000 in
theorem am_ck11 : am_chkF 11 0 am_q11 = true := by decide +kernel
