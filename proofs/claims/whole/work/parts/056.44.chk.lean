set_option maxRecDepth 100000 in
theorem am_ck176_16 : am_chkF 176 800 ((am_q176.drop 800).take 50) = true := by decide +kernel
set_option maxRecDepth 100000 in
theorem am_ck176_17 : am_chkF 176 850 ((am_q176.drop 850).take 50) = true := by decide +kernel
