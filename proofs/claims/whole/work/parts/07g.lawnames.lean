set_option maxRecDepth 20000 in
theorem nwl_in : ∀ w ∈ nwl, w ∈ lw_tbl := by
  have hp : nwl = ([94, 95, 96, 97, 105, 109, 126, 127, 128, 129, 131, 132, 133, 134, 136, 137, 138, 139, 140, 142, 144, 146, 148, 149, 151, 152, 177, 179, 181, 183, 185, 186, 187, 189, 190, 192, 193, 195, 196, 226, 244, 246, 248, 267, 268, 270, 271, 273, 274, 276, 306, 324, 329, 333, 356, 686, 79, 121, 172, 222, 237, 242, 351, 469, 472, 491, 498, 547, 596, 597, 600, 618, 691, 752, 757, 758, 777, 819] : List Nat).filterMap (fun i => lw_tbl[i]?) := by decide +kernel
  intro w hw
  rw [hp] at hw
  obtain ⟨i, -, hi⟩ := List.mem_filterMap.mp hw
  exact List.mem_of_getElem? hi
theorem lwi_0 : (.instantiable RX0 8 : Cond) ∈ lw_tbl := List.mem_of_getElem? (i := 257) (by decide +kernel)
theorem lwi_1 : (.instantiable RX1 1 : Cond) ∈ lw_tbl := List.mem_of_getElem? (i := 350) (by decide +kernel)
theorem lwi_2 : (.instantiable RX2 3 : Cond) ∈ lw_tbl := List.mem_of_getElem? (i := 236) (by decide +kernel)
theorem lwi_3 : (.instantiable RX3 3 : Cond) ∈ lw_tbl := List.mem_of_getElem? (i := 215) (by decide +kernel)
theorem lwi_4 : (.instantiable RX4 4 : Cond) ∈ lw_tbl := List.mem_of_getElem? (i := 78) (by decide +kernel)
theorem lwi_5 : (.instantiable RX5 2 : Cond) ∈ lw_tbl := List.mem_of_getElem? (i := 84) (by decide +kernel)
theorem lwi_6 : (.instantiable RX6 8 : Cond) ∈ lw_tbl := List.mem_of_getElem? (i := 171) (by decide +kernel)
theorem lwi_7 : (.instantiable RX7 8 : Cond) ∈ lw_tbl := List.mem_of_getElem? (i := 120) (by decide +kernel)
theorem lwi_8 : (.instantiable RX8 4 : Cond) ∈ lw_tbl := List.mem_of_getElem? (i := 295) (by decide +kernel)
theorem lwi_9 : (.instantiable RX9 6 : Cond) ∈ lw_tbl := List.mem_of_getElem? (i := 317) (by decide +kernel)
theorem lwi_10 : (.instantiable RX10 12 : Cond) ∈ lw_tbl := List.mem_of_getElem? (i := 70) (by decide +kernel)
theorem lwi_11 : (.instantiable RX11 29 : Cond) ∈ lw_tbl := List.mem_of_getElem? (i := 856) (by decide +kernel)
theorem lwa_I : (.arrayClass .int : Cond) ∈ lw_tbl := List.mem_of_getElem? (i := 103) (by decide +kernel)
theorem lwa_Z : (.arrayClass .boolean : Cond) ∈ lw_tbl := List.mem_of_getElem? (i := 949) (by decide +kernel)
theorem lwo_S : (.arrayOver (.object "GainsaidOnce$State") : Cond) ∈ lw_tbl := List.mem_of_getElem? (i := 221) (by decide +kernel)
theorem lwo_M : (.arrayOver (.object "GainsaidOnce$Image") : Cond) ∈ lw_tbl := List.mem_of_getElem? (i := 235) (by decide +kernel)
theorem lws_F : (.laysStatic "GainsaidOnce" "FEW" "[I" : Cond) ∈ lw_tbl := List.mem_of_getElem? (i := 325) (by decide +kernel)
theorem lwn_G : (.initialized "GainsaidOnce" : Cond) ∈ lw_tbl := List.mem_of_getElem? (i := 55) (by decide +kernel)
