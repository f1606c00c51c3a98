set_option maxRecDepth 100000 in
theorem am_ck36 : am_chkF 36 0 am_q36 = true := by decide +kernel
set_option maxRecDepth 100000 in
theorem am_ck37 : am_chkF 37 0 am_q37 = true := by decide +kernel
set_option maxRecDepth 100000 in
theorem am_ck38 : am_chkF 38 0 am_q38 = true := by decide +kernel
set_option maxRecDepth 100000 in
theorem am_ck39 : am_chkF 39 0 am_q39 = true := by decide +kernel
set_option maxRecDepth 100000 in
theorem am_ck40 : am_chkF 40 0 am_q40 = true := by decide +kernel
set_option maxRecDepth 100000 in
theorem am_ck41 : am_chkF 41 0 am_q41 = true := by decide +kernel
set_option maxRecDepth 100000 in
theorem am_ck42 : am_chkF 42 0 am_q42 = true := by decide +kernel
set_option maxRecDepth 100000 in
theorem am_ck43 : am_chkF 43 0 am_q43 = true := by decide +kernel
set_option maxRecDepth 100000 in
theorem am_ck44 : am_chkF 44 0 am_q44 = true := by decide +kernel
set_option maxRecDepth 100000 in
theorem am_ck45 : am_chkF 45 0 am_q45 = true := by decide +kernel
set_option maxRecDepth 100000 in
theorem am_ck46 : am_chkF 46 0 am_q46 = true := by decide +kernel
set_option maxRecDepth 100000 in
theorem am_ck47 : am_chkF 47 0 am_q47 = true := by decide +kernel
