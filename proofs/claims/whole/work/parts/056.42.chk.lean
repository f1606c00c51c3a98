set_option maxRecDepth 100000 in
theorem am_ck176_8 : am_chkF 176 400 ((am_q176.drop 400).take 50) = true := by decide +kernel
set_option maxRecDepth 100000 in
theorem am_ck176_9 : am_chkF 176 450 ((am_q176.drop 450).take 50) = true := by decide +kernel
set_option maxRecDepth 100000 in
theorem am_ck176_10 : am_chkF 176 500 ((am_q176.drop 500).take 50) = true := by decide +kernel
set_option maxRecDepth 100000 in
theorem am_ck176_11 : am_chkF 176 550 ((am_q176.drop 550).take 50) = true := by decide +kernel
