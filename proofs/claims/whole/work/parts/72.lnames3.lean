/-! the tables are the law, by program -/
theorem ok_l_c7 : aq_okM l_c7 = true := by decide +kernel
theorem ok_l_c8 : aq_okM l_c8 = true := by decide +kernel
theorem ok_l_c9 : aq_okM l_c9 = true := by decide +kernel
theorem ok_l_c10 : aq_okM l_c10 = true := by decide +kernel
