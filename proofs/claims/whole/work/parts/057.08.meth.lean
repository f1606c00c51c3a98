theorem am_mk175 : am_mchk 175 955 75 954 0 = true := by decide +kernel
