/-! ===== what is known of each class (by wip/whole/gen_classes.py) ===== -/
theorem am_wsT {ws : List Cond} {ps : List Nat} (h : ws = ps.filterMap (fun i => lw_tbl[i]?)) (hg : ws.all goodWord = true) : ∀ w ∈ ws, w ∈ am_T := by
  intro w hw
  have h1 := List.all_eq_true.mp hg w hw
  rw [h] at hw
  obtain ⟨i, -, hi⟩ := List.mem_filterMap.mp hw
  exact am_inT (am_inG hi h1)
def am_CF (ci : Nat) (C : String) (T : u_T) (N : Nat) : Prop := (∀ w ∈ u_ws C T N, w ∈ am_T) ∧ (∀ k, k < N → parseFieldDescriptor (T k).2.2.1 = some (am_fty ci k)) ∧ (∀ a, a < N → ∀ b, b < N → a ≠ b → (T a).2.1 ≠ (T b).2.1) ∧ Cond.instantiable C N ∈ am_T ∧ Cond.initialized C ∈ am_T ∧ (∀ k, k < N → defaultValue (am_fty ci k) = am_dfv (am_fty ci k)) ∧ am_own ci = C ∧ (∀ k, k < N → (T k).1 = C) ∧ ci < 13
theorem am_cf_0 : am_CF 0 RX0 TX0 4 := ⟨am_wsT (ps := [403, 405, 407, 409]) (by decide +kernel) (by decide +kernel), tyX0_ok, nmX0, am_inT (am_inG (i := 390) (by decide +kernel) rfl), am_inT (am_inG (i := 103) (by decide +kernel) rfl), by decide +kernel, rfl, by decide +kernel, by decide⟩
theorem am_cf_1 : am_CF 1 RX1 TX1 9 := ⟨am_wsT (ps := [275, 277, 279, 281, 283, 285, 287, 289, 291]) (by decide +kernel) (by decide +kernel), tyX1_ok, nmX1, am_inT (am_inG (i := 244) (by decide +kernel) rfl), am_inT (am_inG (i := 98) (by decide +kernel) rfl), by decide +kernel, rfl, by decide +kernel, by decide⟩
theorem am_cf_2 : am_CF 2 RX2 TX2 8 := ⟨am_wsT (ps := [226, 228, 230, 232, 234, 236, 238, 240]) (by decide +kernel) (by decide +kernel), tyX2_ok, nmX2, am_inT (am_inG (i := 200) (by decide +kernel) rfl), am_inT (am_inG (i := 97) (by decide +kernel) rfl), by decide +kernel, rfl, by decide +kernel, by decide⟩
theorem am_cf_3 : am_CF 3 RX3 TX3 4 := ⟨am_wsT (ps := [380, 382, 384, 386]) (by decide +kernel) (by decide +kernel), tyX3_ok, nmX3, am_inT (am_inG (i := 368) (by decide +kernel) rfl), am_inT (am_inG (i := 102) (by decide +kernel) rfl), by decide +kernel, rfl, by decide +kernel, by decide⟩
theorem am_cf_4 : am_CF 4 RX4 TX4 5 := ⟨am_wsT (ps := [426, 428, 430, 432, 434]) (by decide +kernel) (by decide +kernel), tyX4_ok, nmX4, am_inT (am_inG (i := 413) (by decide +kernel) rfl), am_inT (am_inG (i := 104) (by decide +kernel) rfl), by decide +kernel, rfl, by decide +kernel, by decide⟩
theorem am_cf_5 : am_CF 5 RX5 TX5 1 := ⟨am_wsT (ps := [257]) (by decide +kernel) (by decide +kernel), tyX5_ok, nmX5, am_inT (am_inG (i := 251) (by decide +kernel) rfl), am_inT (am_inG (i := 99) (by decide +kernel) rfl), by decide +kernel, rfl, by decide +kernel, by decide⟩
theorem am_cf_6 : am_CF 6 RX6 TX6 8 := ⟨am_wsT (ps := [157, 159, 161, 163, 165, 167, 169, 171]) (by decide +kernel) (by decide +kernel), tyX6_ok, nmX6, am_inT (am_inG (i := 121) (by decide +kernel) rfl), am_inT (am_inG (i := 92) (by decide +kernel) rfl), by decide +kernel, rfl, by decide +kernel, by decide⟩
theorem am_cf_7 : am_CF 7 RX7 TX7 4 := ⟨am_wsT (ps := [190, 192, 194, 196]) (by decide +kernel) (by decide +kernel), tyX7_ok, nmX7, am_inT (am_inG (i := 176) (by decide +kernel) rfl), am_inT (am_inG (i := 96) (by decide +kernel) rfl), by decide +kernel, rfl, by decide +kernel, by decide⟩
theorem am_cf_8 : am_CF 8 RX8 TX8 13 := ⟨am_wsT (ps := [339, 341, 343, 345, 347, 349, 351, 353, 355, 357, 359, 361, 363]) (by decide +kernel) (by decide +kernel), tyX8_ok, nmX8, am_inT (am_inG (i := 318) (by decide +kernel) rfl), am_inT (am_inG (i := 101) (by decide +kernel) rfl), by decide +kernel, rfl, by decide +kernel, by decide⟩
theorem am_cf_9 : am_CF 9 RX9 TX9 5 := ⟨am_wsT (ps := [306, 308, 310, 312, 314]) (by decide +kernel) (by decide +kernel), tyX9_ok, nmX9, am_inT (am_inG (i := 295) (by decide +kernel) rfl), am_inT (am_inG (i := 100) (by decide +kernel) rfl), by decide +kernel, rfl, by decide +kernel, by decide⟩
theorem am_cf_10 : am_CF 10 RX10 TX10 3 := ⟨am_wsT (ps := [450, 452, 454]) (by decide +kernel) (by decide +kernel), tyX10_ok, nmX10, am_inT (am_inG (i := 439) (by decide +kernel) rfl), am_inT (am_inG (i := 105) (by decide +kernel) rfl), by decide +kernel, rfl, by decide +kernel, by decide⟩
theorem am_cf_11 : am_CF 11 RX11 TX11 10 := ⟨am_wsT (ps := [467, 469, 471, 473, 475, 477, 479, 481, 483, 485]) (by decide +kernel) (by decide +kernel), tyX11_ok, nmX11, am_inT (am_inG (i := 113) (by decide +kernel) rfl), am_inT (am_inG (i := 91) (by decide +kernel) rfl), by decide +kernel, rfl, by decide +kernel, by decide⟩
theorem am_cf_12 : am_CF 12 RX12 TX12 59 := ⟨am_wsT (ps := [1177, 1179, 1181, 1183, 1185, 1187, 1189, 1191, 1193, 1195, 1197, 1199, 1201, 1203, 1205, 1207, 1209, 1211, 1213, 1215, 1217, 1219, 1221, 1223, 1225, 1227, 1229, 1231, 1233, 1235, 1237, 1239, 1241, 1243, 1245, 1247, 1249, 1251, 1253, 1255, 1257, 1259, 1261, 1263, 1265, 1267, 1269, 1271, 1273, 1275, 1277, 1279, 1281, 1283, 1285, 1287, 1289, 1291, 1293]) (by decide +kernel) (by decide +kernel), tyX12_ok, nmX12, am_inT (am_inG (i := 1109) (by decide +kernel) rfl), am_inT (am_inG (i := 106) (by decide +kernel) rfl), by decide +kernel, rfl, by decide +kernel, by decide⟩
theorem am_cls : ∀ (ci : Nat) (q : vw_C), vwCl[ci]? = some q → am_CF ci q.1 q.2.1 q.2.2
  | 0, q, h => by cases h; exact am_cf_0
  | 1, q, h => by cases h; exact am_cf_1
  | 2, q, h => by cases h; exact am_cf_2
  | 3, q, h => by cases h; exact am_cf_3
  | 4, q, h => by cases h; exact am_cf_4
  | 5, q, h => by cases h; exact am_cf_5
  | 6, q, h => by cases h; exact am_cf_6
  | 7, q, h => by cases h; exact am_cf_7
  | 8, q, h => by cases h; exact am_cf_8
  | 9, q, h => by cases h; exact am_cf_9
  | 10, q, h => by cases h; exact am_cf_10
  | 11, q, h => by cases h; exact am_cf_11
  | 12, q, h => by cases h; exact am_cf_12
  | (n + 13), q, h => by cases (show none = some q from h)
