/-! ===== each method: its table is its bytes (by wip/whole/gen_links.py) ===== -/
theorem am_c_law_1728 : am_ckM 13 (some .boolean) mc_L_law code 1728 48 = true := by decide +kernel
theorem am_c_law_1776 : am_ckM 13 (some .boolean) mc_L_law code 1776 48 = true := by decide +kernel
