set_option maxRecDepth 100000 in
theorem am_ck168 : am_chkF 168 0 am_q168 = true := by decide +kernel
set_option maxRecDepth 100000 in
theorem am_ck169 : am_chkF 169 0 am_q169 = true := by decide +kernel
set_option maxRecDepth 100000 in
theorem am_ck170 : am_chkF 170 0 am_q170 = true := by decide +kernel
set_option maxRecDepth 100000 in
theorem am_ck171 : am_chkF 171 0 am_q171 = true := by decide +kernel
set_option maxRecDepth 100000 in
theorem am_ck172 : am_chkF 172 0 am_q172 = true := by decide +kernel
set_option maxRecDepth 100000 in
theorem am_ck173 : am_chkF 173 0 am_q173 = true := by decide +kernel
set_option maxRecDepth 100000 in
theorem am_ck174 : am_chkF 174 0 am_q174 = true := by decide +kernel
set_option maxRecDepth 100000 in
theorem am_ck175 : am_chkF 175 0 am_q175 = true := by decide +kernel
