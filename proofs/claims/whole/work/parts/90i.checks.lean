/-! ===== each method: its table is its bytes (by wip/whole/gen_links.py) ===== -/
theorem am_c_law_288 : am_ckM 13 (some .boolean) mc_L_law code 288 48 = true := by decide +kernel
theorem am_c_law_336 : am_ckM 13 (some .boolean) mc_L_law code 336 48 = true := by decide +kernel
theorem am_c_law_384 : am_ckM 13 (some .boolean) mc_L_law code 384 48 = true := by decide +kernel
theorem am_c_law_432 : am_ckM 13 (some .boolean) mc_L_law code 432 48 = true := by decide +kernel
theorem am_c_law_480 : am_ckM 13 (some .boolean) mc_L_law code 480 48 = true := by decide +kernel
theorem am_c_law_528 : am_ckM 13 (some .boolean) mc_L_law code 528 48 = true := by decide +kernel
