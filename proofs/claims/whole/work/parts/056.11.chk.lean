set_option maxRecDepth 100000 in
theorem am_ck132 : am_chkF 132 0 am_q132 = true := by decide +kernel
set_option maxRecDepth 100000 in
theorem am_ck133 : am_chkF 133 0 am_q133 = true := by decide +kernel
set_option maxRecDepth 100000 in
theorem am_ck134 : am_chkF 134 0 am_q134 = true := by decide +kernel
set_option maxRecDepth 100000 in
theorem am_ck135 : am_chkF 135 0 am_q135 = true := by decide +kernel
set_option maxRecDepth 100000 in
theorem am_ck136 : am_chkF 136 0 am_q136 = true := by decide +kernel
set_option maxRecDepth 100000 in
theorem am_ck137 : am_chkF 137 0 am_q137 = true := by decide +kernel
set_option maxRecDepth 100000 in
theorem am_ck138 : am_chkF 138 0 am_q138 = true := by decide +kernel
set_option maxRecDepth 100000 in
theorem am_ck139 : am_chkF 139 0 am_q139 = true := by decide +kernel
set_option maxRecDepth 100000 in
theorem am_ck140 : am_chkF 140 0 am_q140 = true := by decide +kernel
set_option maxRecDepth 100000 in
theorem am_ck141 : am_chkF 141 0 am_q141 = true := by decide +kernel
set_option maxRecDepth 100000 in
theorem am_ck142 : am_chkF 142 0 am_q142 = true := by decide +kernel
set_option maxRecDepth 100000 in
theorem am_ck143 : am_chkF 143 0 am_q143 = true := by decide +kernel
