/-! ===== each method: its table is its bytes (by wip/whole/gen_links.py) ===== -/
theorem am_c_law_0 : am_ckM 13 (some .boolean) mc_L_law code 0 48 = true := by decide +kernel
theorem am_c_law_48 : am_ckM 13 (some .boolean) mc_L_law code 48 48 = true := by decide +kernel
theorem am_c_law_96 : am_ckM 13 (some .boolean) mc_L_law code 96 48 = true := by decide +kernel
theorem am_c_law_144 : am_ckM 13 (some .boolean) mc_L_law code 144 48 = true := by decide +kernel
theorem am_c_law_192 : am_ckM 13 (some .boolean) mc_L_law code 192 48 = true := by decide +kernel
theorem am_c_law_240 : am_ckM 13 (some .boolean) mc_L_law code 240 48 = true := by decide +kernel
