/-! checks -/
theorem qt_mClause_129_1_e : qSeg 63 qt_mClause qt_mClause_L qt_mClause_R qt_mClause_Q 129 qt_mClause_129_1 = true := by decide +kernel
theorem qt_mClause_129_2_e : qSeg 63 qt_mClause qt_mClause_L qt_mClause_R qt_mClause_Q 129 qt_mClause_129_2 = true := by decide +kernel
theorem qt_mClause_129_3_e : qSeg 63 qt_mClause qt_mClause_L qt_mClause_R qt_mClause_Q 129 qt_mClause_129_3 = true := by decide +kernel
theorem qt_mClause_129_4_e : qSeg 63 qt_mClause qt_mClause_L qt_mClause_R qt_mClause_Q 129 qt_mClause_129_4 = true := by decide +kernel
