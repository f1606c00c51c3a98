set_option maxRecDepth 100000 in
theorem am_ck156 : am_chkF 156 0 am_q156 = true := by decide +kernel
set_option maxRecDepth 100000 in
theorem am_ck157 : am_chkF 157 0 am_q157 = true := by decide +kernel
set_option maxRecDepth 100000 in
theorem am_ck158 : am_chkF 158 0 am_q158 = true := by decide +kernel
set_option maxRecDepth 100000 in
theorem am_ck159 : am_chkF 159 0 am_q159 = true := by decide +kernel
set_option maxRecDepth 100000 in
theorem am_ck160 : am_chkF 160 0 am_q160 = true := by decide +kernel
set_option maxRecDepth 100000 in
theorem am_ck161 : am_chkF 161 0 am_q161 = true := by decide +kernel
set_option maxRecDepth 100000 in
theorem am_ck162 : am_chkF 162 0 am_q162 = true := by decide +kernel
set_option maxRecDepth 100000 in
theorem am_ck163 : am_chkF 163 0 am_q163 = true := by decide +kernel
set_option maxRecDepth 100000 in
theorem am_ck164 : am_chkF 164 0 am_q164 = true := by decide +kernel
set_option maxRecDepth 100000 in
theorem am_ck165 : am_chkF 165 0 am_q165 = true := by decide +kernel
set_option maxRecDepth 100000 in
theorem am_ck166 : am_chkF 166 0 am_q166 = true := by decide +kernel
set_option maxRecDepth 100000 in
theorem am_ck167 : am_chkF 167 0 am_q167 = true := by decide +kernel
