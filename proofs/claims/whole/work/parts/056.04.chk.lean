set_option maxRecDepth 100000 in
theorem am_ck48 : am_chkF 48 0 am_q48 = true := by decide +kernel
set_option maxRecDepth 100000 in
theorem am_ck49 : am_chkF 49 0 am_q49 = true := by decide +kernel
set_option maxRecDepth 100000 in
theorem am_ck50 : am_chkF 50 0 am_q50 = true := by decide +kernel
set_option maxRecDepth 100000 in
theorem am_ck51 : am_chkF 51 0 am_q51 = true := by decide +kernel
set_option maxRecDepth 100000 in
theorem am_ck52 : am_chkF 52 0 am_q52 = true := by decide +kernel
set_option maxRecDepth 100000 in
theorem am_ck53 : am_chkF 53 0 am_q53 = true := by decide +kernel
set_option maxRecDepth 100000 in
theorem am_ck54 : am_chkF 54 0 am_q54 = true := by decide +kernel
set_option maxRecDepth 100000 in
theorem am_ck55 : am_chkF 55 0 am_q55 = true := by decide +kernel
set_option maxRecDepth 100000 in
theorem am_ck56 : am_chkF 56 0 am_q56 = true := by decide +kernel
set_option maxRecDepth 100000 in
theorem am_ck57 : am_chkF 57 0 am_q57 = true := by decide +kernel
set_option maxRecDepth 100000 in
theorem am_ck58 : am_chkF 58 0 am_q58 = true := by decide +kernel
set_option maxRecDepth 100000 in
theorem am_ck59 : am_chkF 59 0 am_q59 = true := by decide +kernel
