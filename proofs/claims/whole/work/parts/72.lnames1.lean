/-! the tables are the law, by program -/
theorem ok_l_hd : aq_okM l_hd = true := by decide +kernel
theorem ok_l_c0 : aq_okM l_c0 = true := by decide +kernel
theorem ok_l_c1 : aq_okM l_c1 = true := by decide +kernel
theorem ok_l_c2 : aq_okM l_c2 = true := by decide +kernel
