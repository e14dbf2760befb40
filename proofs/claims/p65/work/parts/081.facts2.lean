/-! what the tables say of each method -/
set_option maxRecDepth 100000 in
theorem gg_ckm_0 : gg_ckr 0 43 = true := by decide +kernel
set_option maxRecDepth 100000 in
theorem gg_ckm_43 : gg_ckr 43 43 = true := by decide +kernel
set_option maxRecDepth 100000 in
theorem gg_ckm_86 : gg_ckr 86 43 = true := by decide +kernel
set_option maxRecDepth 100000 in
theorem gg_ckm_129 : gg_ckr 129 43 = true := by decide +kernel
set_option maxRecDepth 100000 in
theorem gg_ckm_172 : gg_ckr 172 43 = true := by decide +kernel
set_option maxRecDepth 100000 in
theorem gg_ckm_215 : gg_ckr 215 43 = true := by decide +kernel
set_option maxRecDepth 100000 in
theorem gg_ckm_258 : gg_ckr 258 43 = true := by decide +kernel
set_option maxRecDepth 100000 in
theorem gg_ckm_301 : gg_ckr 301 43 = true := by decide +kernel
set_option maxRecDepth 100000 in
theorem gg_ckm_344 : gg_ckr 344 11 = true := by decide +kernel
set_option maxRecDepth 100000 in
theorem gg_ckm_355 : gg_ckr 355 11 = true := by decide +kernel
set_option maxRecDepth 100000 in
theorem gg_ckm_366 : gg_ckr 366 11 = true := by decide +kernel
set_option maxRecDepth 100000 in
theorem gg_ckm_377 : gg_ckr 377 11 = true := by decide +kernel
set_option maxRecDepth 100000 in
theorem gg_ckm_388 : gg_ckr 388 11 = true := by decide +kernel
set_option maxRecDepth 100000 in
theorem gg_ckm_399 : gg_ckr 399 11 = true := by decide +kernel
set_option maxRecDepth 100000 in
theorem gg_ckm_410 : gg_ckr 410 11 = true := by decide +kernel
set_option maxRecDepth 100000 in
theorem gy_w345 : gg_wd 345 ∈ gg_gw := gg_gw_tb (gg_tb_in (j := 5) (List.mem_of_getElem? (i := 92) rfl)) rfl
set_option maxRecDepth 100000 in
theorem gy_w347 : gg_wd 347 ∈ gg_gw := gg_gw_tb (gg_tb_in (j := 3) (List.mem_of_getElem? (i := 161) rfl)) rfl
set_option maxRecDepth 100000 in
theorem gy_w351 : gg_wd 351 ∈ gg_gw := gg_gw_tb (gg_tb_in (j := 4) (List.mem_of_getElem? (i := 170) rfl)) rfl
set_option maxRecDepth 100000 in
theorem gy_w372 : gg_wd 372 ∈ gg_gw := gg_gw_tb (gg_tb_in (j := 6) (List.mem_of_getElem? (i := 51) rfl)) rfl
