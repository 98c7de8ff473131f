theorem try_good : lw_tbl.all goodWord = true := by decide +kernel
theorem try_len : lw_tbl.length = 1478 := by decide +kernel
