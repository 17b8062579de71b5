/-! ===== each method: its table is its bytes (by wip/whole/gen_links.py) ===== -/
theorem am_c_law_864 : am_ckM 13 (some .boolean) mc_L_law code 864 48 = true := by decide +kernel
theorem am_c_law_912 : am_ckM 13 (some .boolean) mc_L_law code 912 48 = true := by decide +kernel
theorem am_c_law_960 : am_ckM 13 (some .boolean) mc_L_law code 960 48 = true := by decide +kernel
theorem am_c_law_1008 : am_ckM 13 (some .boolean) mc_L_law code 1008 48 = true := by decide +kernel
theorem am_c_law_1056 : am_ckM 13 (some .boolean) mc_L_law code 1056 48 = true := by decide +kernel
theorem am_c_law_1104 : am_ckM 13 (some .boolean) mc_L_law code 1104 48 = true := by decide +kernel
