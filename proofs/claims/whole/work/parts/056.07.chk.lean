set_option maxRecDepth 100000 in
theorem am_ck84 : am_chkF 84 0 am_q84 = true := by decide +kernel
set_option maxRecDepth 100000 in
theorem am_ck85 : am_chkF 85 0 am_q85 = true := by decide +kernel
set_option maxRecDepth 100000 in
theorem am_ck86 : am_chkF 86 0 am_q86 = true := by decide +kernel
set_option maxRecDepth 100000 in
theorem am_ck87 : am_chkF 87 0 am_q87 = true := by decide +kernel
set_option maxRecDepth 100000 in
theorem am_ck88 : am_chkF 88 0 am_q88 = true := by decide +kernel
set_option maxRecDepth 100000 in
theorem am_ck89 : am_chkF 89 0 am_q89 = true := by decide +kernel
set_option maxRecDepth 100000 in
theorem am_ck90 : am_chkF 90 0 am_q90 = true := by decide +kernel
set_option maxRecDepth 100000 in
theorem am_ck91 : am_chkF 91 0 am_q91 = true := by decide +kernel
set_option maxRecDepth 100000 in
theorem am_ck92 : am_chkF 92 0 am_q92 = true := by decide +kernel
set_option maxRecDepth 100000 in
theorem am_ck93 : am_chkF 93 0 am_q93 = true := by decide +kernel
set_option maxRecDepth 100000 in
theorem am_ck94 : am_chkF 94 0 am_q94 = true := by decide +kernel
set_option maxRecDepth 100000 in
theorem am_ck95 : am_chkF 95 0 am_q95 = true := by decide +kernel
