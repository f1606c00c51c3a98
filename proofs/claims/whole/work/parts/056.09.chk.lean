set_option maxRecDepth 100000 in
theorem am_ck108 : am_chkF 108 0 am_q108 = true := by decide +kernel
set_option maxRecDepth 100000 in
theorem am_ck109 : am_chkF 109 0 am_q109 = true := by decide +kernel
set_option maxRecDepth 100000 in
theorem am_ck110 : am_chkF 110 0 am_q110 = true := by decide +kernel
set_option maxRecDepth 100000 in
theorem am_ck111 : am_chkF 111 0 am_q111 = true := by decide +kernel
set_option maxRecDepth 100000 in
theorem am_ck112 : am_chkF 112 0 am_q112 = true := by decide +kernel
set_option maxRecDepth 100000 in
theorem am_ck113 : am_chkF 113 0 am_q113 = true := by decide +kernel
set_option maxRecDepth 100000 in
theorem am_ck114 : am_chkF 114 0 am_q114 = true := by decide +kernel
set_option maxRecDepth 100000 in
theorem am_ck115 : am_chkF 115 0 am_q115 = true := by decide +kernel
set_option maxRecDepth 100000 in
theorem am_ck116 : am_chkF 116 0 am_q116 = true := by decide +kernel
set_option maxRecDepth 100000 in
theorem am_ck117 : am_chkF 117 0 am_q117 = true := by decide +kernel
set_option maxRecDepth 100000 in
theorem am_ck118 : am_chkF 118 0 am_q118 = true := by decide +kernel
set_option maxRecDepth 100000 in
theorem am_ck119 : am_chkF 119 0 am_q119 = true := by decide +kernel
