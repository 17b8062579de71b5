/-! ===== the class's constructor ===== -/
set_option maxRecDepth 100000 in
theorem boot1 : ok_r (am_run (fun _ => none) 6 25000 ix_X11_init [.ref 0] h_c0) h_c1 = true := by decide +kernel
