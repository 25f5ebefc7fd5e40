/-! the tables are the law, by program -/
theorem ok_l_c11 : aq_okM l_c11 = true := by decide +kernel
