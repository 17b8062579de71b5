/-! ===== each method: its table is its bytes (by wip/whole/gen_links.py) ===== -/
theorem am_c_law_576 : am_ckM 13 (some .boolean) mc_L_law code 576 48 = true := by decide +kernel
theorem am_c_law_624 : am_ckM 13 (some .boolean) mc_L_law code 624 48 = true := by decide +kernel
theorem am_c_law_672 : am_ckM 13 (some .boolean) mc_L_law code 672 48 = true := by decide +kernel
theorem am_c_law_720 : am_ckM 13 (some .boolean) mc_L_law code 720 48 = true := by decide +kernel
theorem am_c_law_768 : am_ckM 13 (some .boolean) mc_L_law code 768 48 = true := by decide +kernel
theorem am_c_law_816 : am_ckM 13 (some .boolean) mc_L_law code 816 48 = true := by decide +kernel
