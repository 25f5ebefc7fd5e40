/-! the tables are the law, by program -/
theorem ok_l_c3 : aq_okM l_c3 = true := by decide +kernel
theorem ok_l_c4 : aq_okM l_c4 = true := by decide +kernel
theorem ok_l_c5 : aq_okM l_c5 = true := by decide +kernel
theorem ok_l_c6 : aq_okM l_c6 = true := by decide +kernel
