set_option maxRecDepth 100000 in
theorem am_ck176_0 : am_chkF 176 0 ((am_q176.drop 0).take 50) = true := by decide +kernel
set_option maxRecDepth 100000 in
theorem am_ck176_1 : am_chkF 176 50 ((am_q176.drop 50).take 50) = true := by decide +kernel
set_option maxRecDepth 100000 in
theorem am_ck176_2 : am_chkF 176 100 ((am_q176.drop 100).take 50) = true := by decide +kernel
set_option maxRecDepth 100000 in
theorem am_ck176_3 : am_chkF 176 150 ((am_q176.drop 150).take 50) = true := by decide +kernel
