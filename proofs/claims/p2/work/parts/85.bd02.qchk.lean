/-! checks -/
theorem qt_mClause_129_5_e : qSeg 63 qt_mClause qt_mClause_L qt_mClause_R qt_mClause_Q 129 qt_mClause_129_5 = true := by decide +kernel
theorem qt_mClause_129_6_e : qSeg 63 qt_mClause qt_mClause_L qt_mClause_R qt_mClause_Q 129 qt_mClause_129_6 = true := by decide +kernel
theorem qt_mClause_129_7_e : qSeg 63 qt_mClause qt_mClause_L qt_mClause_R qt_mClause_Q 129 qt_mClause_129_7 = true := by decide +kernel
theorem qt_mClause_129_8_e : qSeg 63 qt_mClause qt_mClause_L qt_mClause_R qt_mClause_Q 129 qt_mClause_129_8 = true := by decide +kernel
