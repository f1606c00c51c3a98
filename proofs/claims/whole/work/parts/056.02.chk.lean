set_option maxRecDepth 100000 in
theorem am_ck24 : am_chkF 24 0 am_q24 = true := by decide +kernel
set_option maxRecDepth 100000 in
theorem am_ck25 : am_chkF 25 0 am_q25 = true := by decide +kernel
set_option maxRecDepth 100000 in
theorem am_ck26 : am_chkF 26 0 am_q26 = true := by decide +kernel
set_option maxRecDepth 100000 in
theorem am_ck27 : am_chkF 27 0 am_q27 = true := by decide +kernel
set_option maxRecDepth 100000 in
theorem am_ck28 : am_chkF 28 0 am_q28 = true := by decide +kernel
set_option maxRecDepth 100000 in
theorem am_ck29 : am_chkF 29 0 am_q29 = true := by decide +kernel
set_option maxRecDepth 100000 in
theorem am_ck30 : am_chkF 30 0 am_q30 = true := by decide +kernel
set_option maxRecDepth 100000 in
theorem am_ck31 : am_chkF 31 0 am_q31 = true := by decide +kernel
set_option maxRecDepth 100000 in
theorem am_ck32 : am_chkF 32 0 am_q32 = true := by decide +kernel
set_option maxRecDepth 100000 in
theorem am_ck33 : am_chkF 33 0 am_q33 = true := by decide +kernel
set_option maxRecDepth 100000 in
theorem am_ck34 : am_chkF 34 0 am_q34 = true := by decide +kernel
set_option maxRecDepth 100000 in
theorem am_ck35 : am_chkF 35 0 am_q35 = true := by decide +kernel
