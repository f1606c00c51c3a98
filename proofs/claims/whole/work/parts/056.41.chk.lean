set_option maxRecDepth 100000 in
theorem am_ck176_4 : am_chkF 176 200 ((am_q176.drop 200).take 50) = true := by decide +kernel
set_option maxRecDepth 100000 in
theorem am_ck176_5 : am_chkF 176 250 ((am_q176.drop 250).take 50) = true := by decide +kernel
set_option maxRecDepth 100000 in
theorem am_ck176_6 : am_chkF 176 300 ((am_q176.drop 300).take 50) = true := by decide +kernel
set_option maxRecDepth 100000 in
theorem am_ck176_7 : am_chkF 176 350 ((am_q176.drop 350).take 50) = true := by decide +kernel
