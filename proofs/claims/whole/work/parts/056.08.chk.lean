set_option maxRecDepth 100000 in
theorem am_ck96 : am_chkF 96 0 am_q96 = true := by decide +kernel
set_option maxRecDepth 100000 in
theorem am_ck97 : am_chkF 97 0 am_q97 = true := by decide +kernel
set_option maxRecDepth 100000 in
theorem am_ck98 : am_chkF 98 0 am_q98 = true := by decide +kernel
set_option maxRecDepth 100000 in
theorem am_ck99 : am_chkF 99 0 am_q99 = true := by decide +kernel
set_option maxRecDepth 100000 in
theorem am_ck100 : am_chkF 100 0 am_q100 = true := by decide +kernel
set_option maxRecDepth 100000 in
theorem am_ck101 : am_chkF 101 0 am_q101 = true := by decide +kernel
set_option maxRecDepth 100000 in
theorem am_ck102 : am_chkF 102 0 am_q102 = true := by decide +kernel
set_option maxRecDepth 100000 in
theorem am_ck103 : am_chkF 103 0 am_q103 = true := by decide +kernel
set_option maxRecDepth 100000 in
theorem am_ck104 : am_chkF 104 0 am_q104 = true := by decide +kernel
set_option maxRecDepth 100000 in
theorem am_ck105 : am_chkF 105 0 am_q105 = true := by decide +kernel
set_option maxRecDepth 100000 in
theorem am_ck106 : am_chkF 106 0 am_q106 = true := by decide +kernel
set_option maxRecDepth 100000 in
theorem am_ck107 : am_chkF 107 0 am_q107 = true := by decide +kernel
