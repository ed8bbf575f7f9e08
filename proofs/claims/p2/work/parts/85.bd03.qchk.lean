/-! checks -/
theorem qt_mClause_172_0_e : qSeg 63 qt_mClause qt_mClause_L qt_mClause_R qt_mClause_Q 172 qt_mClause_172_0 = true := by decide +kernel
theorem qt_mClause_172_1_e : qSeg 63 qt_mClause qt_mClause_L qt_mClause_R qt_mClause_Q 172 qt_mClause_172_1 = true := by decide +kernel
theorem qt_mClause_172_2_e : qSeg 63 qt_mClause qt_mClause_L qt_mClause_R qt_mClause_Q 172 qt_mClause_172_2 = true := by decide +kernel
theorem qt_mClause_184_0_e : qSeg 63 qt_mClause qt_mClause_L qt_mClause_R qt_mClause_Q 184 qt_mClause_184_0 = true := by decide +kernel
