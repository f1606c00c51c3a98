set_option maxRecDepth 100000 in
theorem am_ck176_12 : am_chkF 176 600 ((am_q176.drop 600).take 50) = true := by decide +kernel
set_option maxRecDepth 100000 in
theorem am_ck176_13 : am_chkF 176 650 ((am_q176.drop 650).take 50) = true := by decide +kernel
set_option maxRecDepth 100000 in
theorem am_ck176_14 : am_chkF 176 700 ((am_q176.drop 700).take 50) = true := by decide +kernel
set_option maxRecDepth 100000 in
theorem am_ck176_15 : am_chkF 176 750 ((am_q176.drop 750).take 50) = true := by decide +kernel
