set_option maxRecDepth 100000 in
theorem am_ck12 : am_chkF 12 0 am_q12 = true := by decide +kernel
set_option maxRecDepth 100000 in
theorem am_ck13 : am_chkF 13 0 am_q13 = true := by decide +kernel
set_option maxRecDepth 100000 in
theorem am_ck14 : am_chkF 14 0 am_q14 = true := by decide +kernel
set_option maxRecDepth 100000 in
theorem am_ck15 : am_chkF 15 0 am_q15 = true := by decide +kernel
set_option maxRecDepth 100000 in
theorem am_ck16 : am_chkF 16 0 am_q16 = true := by decide +kernel
set_option maxRecDepth 100000 in
theorem am_ck17 : am_chkF 17 0 am_q17 = true := by decide +kernel
set_option maxRecDepth 100000 in
theorem am_ck18 : am_chkF 18 0 am_q18 = true := by decide +kernel
set_option maxRecDepth 100000 in
theorem am_ck19 : am_chkF 19 0 am_q19 = true := by decide +kernel
set_option maxRecDepth 100000 in
theorem am_ck20 : am_chkF 20 0 am_q20 = true := by decide +kernel
set_option maxRecDepth 100000 in
theorem am_ck21 : am_chkF 21 0 am_q21 = true := by decide +kernel
set_option maxRecDepth 100000 in
theorem am_ck22 : am_chkF 22 0 am_q22 = true := by decide +kernel
set_option maxRecDepth 100000 in
theorem am_ck23 : am_chkF 23 0 am_q23 = true := by decide +kernel
