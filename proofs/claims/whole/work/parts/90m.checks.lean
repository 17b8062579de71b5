/-! ===== each method: its table is its bytes (by wip/whole/gen_links.py) ===== -/
theorem am_c_law_1440 : am_ckM 13 (some .boolean) mc_L_law code 1440 48 = true := by decide +kernel
theorem am_c_law_1488 : am_ckM 13 (some .boolean) mc_L_law code 1488 48 = true := by decide +kernel
theorem am_c_law_1536 : am_ckM 13 (some .boolean) mc_L_law code 1536 48 = true := by decide +kernel
theorem am_c_law_1584 : am_ckM 13 (some .boolean) mc_L_law code 1584 48 = true := by decide +kernel
theorem am_c_law_1632 : am_ckM 13 (some .boolean) mc_L_law code 1632 48 = true := by decide +kernel
theorem am_c_law_1680 : am_ckM 13 (some .boolean) mc_L_law code 1680 48 = true := by decide +kernel
