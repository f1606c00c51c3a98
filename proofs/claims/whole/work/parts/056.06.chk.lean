set_option maxRecDepth 100000 in
theorem am_ck72 : am_chkF 72 0 am_q72 = true := by decide +kernel
set_option maxRecDepth 100000 in
theorem am_ck73 : am_chkF 73 0 am_q73 = true := by decide +kernel
set_option maxRecDepth 100000 in
theorem am_ck74 : am_chkF 74 0 am_q74 = true := by decide +kernel
set_option maxRecDepth 100000 in
theorem am_ck75 : am_chkF 75 0 am_q75 = true := by decide +kernel
set_option maxRecDepth 100000 in
theorem am_ck76 : am_chkF 76 0 am_q76 = true := by decide +kernel
set_option maxRecDepth 100000 in
theorem am_ck77 : am_chkF 77 0 am_q77 = true := by decide +kernel
set_option maxRecDepth 100000 in
theorem am_ck78 : am_chkF 78 0 am_q78 = true := by decide +kernel
set_option maxRecDepth 100000 in
theorem am_ck79 : am_chkF 79 0 am_q79 = true := by decide +kernel
set_option maxRecDepth 100000 in
theorem am_ck80 : am_chkF 80 0 am_q80 = true := by decide +kernel
set_option maxRecDepth 100000 in
theorem am_ck81 : am_chkF 81 0 am_q81 = true := by decide +kernel
set_option maxRecDepth 100000 in
theorem am_ck82 : am_chkF 82 0 am_q82 = true := by decide +kernel
set_option maxRecDepth 100000 in
theorem am_ck83 : am_chkF 83 0 am_q83 = true := by decide +kernel
