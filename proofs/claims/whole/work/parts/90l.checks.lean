/-! ===== each method: its table is its bytes (by wip/whole/gen_links.py) ===== -/
theorem am_c_law_1152 : am_ckM 13 (some .boolean) mc_L_law code 1152 48 = true := by decide +kernel
theorem am_c_law_1200 : am_ckM 13 (some .boolean) mc_L_law code 1200 48 = true := by decide +kernel
theorem am_c_law_1248 : am_ckM 13 (some .boolean) mc_L_law code 1248 48 = true := by decide +kernel
theorem am_c_law_1296 : am_ckM 13 (some .boolean) mc_L_law code 1296 48 = true := by decide +kernel
theorem am_c_law_1344 : am_ckM 13 (some .boolean) mc_L_law code 1344 48 = true := by decide +kernel
theorem am_c_law_1392 : am_ckM 13 (some .boolean) mc_L_law code 1392 48 = true := by decide +kernel
