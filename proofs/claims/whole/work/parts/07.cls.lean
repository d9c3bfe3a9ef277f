/-! the classes: their words are among the tables, their fields' types and names -/
theorem pm_in {ws : List Cond} (h1 : ws.all (fun w => decide (w ∈ lw_tbl)) = true) (h2 : ws.all goodWord = true) : ∀ w ∈ ws, w ∈ pm_tbl := fun w hw => List.mem_filter.mpr ⟨of_decide_eq_true (List.all_eq_true.mp h1 w hw), List.all_eq_true.mp h2 w hw⟩
theorem pm_at {w : Cond} (i : Nat) (h1 : lw_tbl[i]? = some w) (h2 : goodWord w = true) : w ∈ pm_tbl := List.mem_filter.mpr ⟨List.mem_of_getElem? h1, h2⟩
theorem pm_in0 : ∀ w ∈ u_ws RX0 TX0 6, w ∈ pm_tbl := pm_in (by decide +kernel) (by decide +kernel)
theorem pm_in1 : ∀ w ∈ u_ws RX1 TX1 12, w ∈ pm_tbl := pm_in (by decide +kernel) (by decide +kernel)
theorem pm_in2 : ∀ w ∈ u_ws RX2 TX2 4, w ∈ pm_tbl := pm_in (by decide +kernel) (by decide +kernel)
theorem pm_in3 : ∀ w ∈ u_ws RX3 TX3 8, w ∈ pm_tbl := pm_in (by decide +kernel) (by decide +kernel)
theorem pm_in4 : ∀ w ∈ u_ws RX4 TX4 5, w ∈ pm_tbl := pm_in (by decide +kernel) (by decide +kernel)
theorem pm_in5 : ∀ w ∈ u_ws RX5 TX5 8, w ∈ pm_tbl := pm_in (by decide +kernel) (by decide +kernel)
theorem pm_in6 : ∀ w ∈ u_ws RX6 TX6 8, w ∈ pm_tbl := pm_in (by decide +kernel) (by decide +kernel)
theorem pm_in7 : ∀ w ∈ u_ws RX7 TX7 5, w ∈ pm_tbl := pm_in (by decide +kernel) (by decide +kernel)
theorem pm_in8 : ∀ w ∈ u_ws RX8 TX8 7, w ∈ pm_tbl := pm_in (by decide +kernel) (by decide +kernel)
theorem pm_in9 : ∀ w ∈ u_ws RX9 TX9 9, w ∈ pm_tbl := pm_in (by decide +kernel) (by decide +kernel)
theorem pm_in10 : ∀ w ∈ u_ws RX10 TX10 57, w ∈ pm_tbl := pm_in (by decide +kernel) (by decide +kernel)
