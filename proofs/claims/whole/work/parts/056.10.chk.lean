set_option maxRecDepth 100000 in
theorem am_ck120 : am_chkF 120 0 am_q120 = true := by decide +kernel
set_option maxRecDepth 100000 in
theorem am_ck121 : am_chkF 121 0 am_q121 = true := by decide +kernel
set_option maxRecDepth 100000 in
theorem am_ck122 : am_chkF 122 0 am_q122 = true := by decide +kernel
set_option maxRecDepth 100000 in
theorem am_ck123 : am_chkF 123 0 am_q123 = true := by decide +kernel
set_option maxRecDepth 100000 in
theorem am_ck124 : am_chkF 124 0 am_q124 = true := by decide +kernel
set_option maxRecDepth 100000 in
theorem am_ck125 : am_chkF 125 0 am_q125 = true := by decide +kernel
set_option maxRecDepth 100000 in
theorem am_ck126 : am_chkF 126 0 am_q126 = true := by decide +kernel
set_option maxRecDepth 100000 in
theorem am_ck127 : am_chkF 127 0 am_q127 = true := by decide +kernel
set_option maxRecDepth 100000 in
theorem am_ck128 : am_chkF 128 0 am_q128 = true := by decide +kernel
set_option maxRecDepth 100000 in
theorem am_ck129 : am_chkF 129 0 am_q129 = true := by decide +kernel
set_option maxRecDepth 100000 in
theorem am_ck130 : am_chkF 130 0 am_q130 = true := by decide +kernel
set_option maxRecDepth 100000 in
theorem am_ck131 : am_chkF 131 0 am_q131 = true := by decide +kernel
