set_option maxRecDepth 100000 in
theorem am_ck144 : am_chkF 144 0 am_q144 = true := by decide +kernel
set_option maxRecDepth 100000 in
theorem am_ck145 : am_chkF 145 0 am_q145 = true := by decide +kernel
set_option maxRecDepth 100000 in
theorem am_ck146 : am_chkF 146 0 am_q146 = true := by decide +kernel
set_option maxRecDepth 100000 in
theorem am_ck147 : am_chkF 147 0 am_q147 = true := by decide +kernel
set_option maxRecDepth 100000 in
theorem am_ck148 : am_chkF 148 0 am_q148 = true := by decide +kernel
set_option maxRecDepth 100000 in
theorem am_ck149 : am_chkF 149 0 am_q149 = true := by decide +kernel
set_option maxRecDepth 100000 in
theorem am_ck150 : am_chkF 150 0 am_q150 = true := by decide +kernel
set_option maxRecDepth 100000 in
theorem am_ck151 : am_chkF 151 0 am_q151 = true := by decide +kernel
set_option maxRecDepth 100000 in
theorem am_ck152 : am_chkF 152 0 am_q152 = true := by decide +kernel
set_option maxRecDepth 100000 in
theorem am_ck153 : am_chkF 153 0 am_q153 = true := by decide +kernel
set_option maxRecDepth 100000 in
theorem am_ck154 : am_chkF 154 0 am_q154 = true := by decide +kernel
set_option maxRecDepth 100000 in
theorem am_ck155 : am_chkF 155 0 am_q155 = true := by decide +kernel
