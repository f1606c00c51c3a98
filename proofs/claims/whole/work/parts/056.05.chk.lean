set_option maxRecDepth 100000 in
theorem am_ck60 : am_chkF 60 0 am_q60 = true := by decide +kernel
set_option maxRecDepth 100000 in
theorem am_ck61 : am_chkF 61 0 am_q61 = true := by decide +kernel
set_option maxRecDepth 100000 in
theorem am_ck62 : am_chkF 62 0 am_q62 = true := by decide +kernel
set_option maxRecDepth 100000 in
theorem am_ck63 : am_chkF 63 0 am_q63 = true := by decide +kernel
set_option maxRecDepth 100000 in
theorem am_ck64 : am_chkF 64 0 am_q64 = true := by decide +kernel
set_option maxRecDepth 100000 in
theorem am_ck65 : am_chkF 65 0 am_q65 = true := by decide +kernel
set_option maxRecDepth 100000 in
theorem am_ck66 : am_chkF 66 0 am_q66 = true := by decide +kernel
set_option maxRecDepth 100000 in
theorem am_ck67 : am_chkF 67 0 am_q67 = true := by decide +kernel
set_option maxRecDepth 100000 in
theorem am_ck68 : am_chkF 68 0 am_q68 = true := by decide +kernel
set_option maxRecDepth 100000 in
theorem am_ck69 : am_chkF 69 0 am_q69 = true := by decide +kernel
set_option maxRecDepth 100000 in
theorem am_ck70 : am_chkF 70 0 am_q70 = true := by decide +kernel
set_option maxRecDepth 100000 in
theorem am_ck71 : am_chkF 71 0 am_q71 = true := by decide +kernel
