/-! checks -/
noncomputable def qt_mHere_L : List (Nat × List qAp) := []
noncomputable def qt_mHere_R : List (Nat × List sQ) := []
noncomputable def qt_mHere_Q : List sQ := []
theorem qt_mHere_e : qChk 21 qt_mHere [] [qR_skm] qt_mHere_L qt_mHere_R qt_mHere_Q = true := by decide +kernel
noncomputable def qt_mLook_L : List (Nat × List qAp) := [(0, [(([(0, 120)], [(2, 1013, (0, [])), (2, 120, (2, [])), (2, 120, (3, [])), (2, 500, (0, [(2, 1)])), (2, 501, (0, [(3, 1)])), (3, 0, (0, []))], [(1, 1), (0, 240), (0, 240), (0, 240), (0, 255), (0, 240)], [(0, [(1, (-1)), (2, 1)]), (0, [(2, (-1)), (5, 1)]), (0, [])], [(0, 0), (1, 1), (3, 3), (4, 4), (2, 5)], (0, [])), [], [qR_skm])])]
noncomputable def qt_mLook_R : List (Nat × List sQ) := []
noncomputable def qt_mLook_Q : List sQ := [qt_mHere]
theorem qt_mLook_e : qChk 21 qt_mLook [] [qR_skm] qt_mLook_L qt_mLook_R qt_mLook_Q = true := by decide +kernel
noncomputable def qt_mBad_L : List (Nat × List qAp) := []
noncomputable def qt_mBad_R : List (Nat × List sQ) := []
noncomputable def qt_mBad_Q : List sQ := []
theorem qt_mBad_e : qChk 19 qt_mBad [] [] qt_mBad_L qt_mBad_R qt_mBad_Q = true := by decide +kernel
noncomputable def qt_mDigit_L : List (Nat × List qAp) := []
noncomputable def qt_mDigit_R : List (Nat × List sQ) := []
noncomputable def qt_mDigit_Q : List sQ := []
theorem qt_mDigit_e : qChk 18 qt_mDigit [] [] qt_mDigit_L qt_mDigit_R qt_mDigit_Q = true := by decide +kernel
noncomputable def qt_mLetter_L : List (Nat × List qAp) := []
noncomputable def qt_mLetter_R : List (Nat × List sQ) := []
noncomputable def qt_mLetter_Q : List sQ := []
theorem qt_mLetter_e : qChk 30 qt_mLetter [((0, [(0, 1)]), [100, 101, 102, 104, 105, 106, 110, 111, 119, 120])] [] qt_mLetter_L qt_mLetter_R qt_mLetter_Q = true := by decide +kernel
noncomputable def qt_mSign_L : List (Nat × List qAp) := []
noncomputable def qt_mSign_R : List (Nat × List sQ) := []
noncomputable def qt_mSign_Q : List sQ := []
theorem qt_mSign_e : qChk 21 qt_mSign [((0, [(0, 1)]), [60, 61, 62, 63])] [] qt_mSign_L qt_mSign_R qt_mSign_Q = true := by decide +kernel
noncomputable def qt_mPut_L : List (Nat × List qAp) := []
noncomputable def qt_mPut_R : List (Nat × List sQ) := []
noncomputable def qt_mPut_Q : List sQ := []
theorem qt_mPut_e : qChk 47 qt_mPut [] [qR_nput] qt_mPut_L qt_mPut_R qt_mPut_Q = true := by decide +kernel
noncomputable def qt_mPutX_L : List (Nat × List qAp) := []
noncomputable def qt_mPutX_R : List (Nat × List sQ) := []
noncomputable def qt_mPutX_Q : List sQ := []
theorem qt_mPutX_e : qChk 47 qt_mPutX [((0, [(3, 1)]), [1, 2, 3, 4])] [qR_nou] qt_mPutX_L qt_mPutX_R qt_mPutX_Q = true := by decide +kernel
noncomputable def qt_mOpens_L : List (Nat × List qAp) := []
noncomputable def qt_mOpens_R : List (Nat × List sQ) := []
noncomputable def qt_mOpens_Q : List sQ := [qt_mBad]
theorem qt_mOpens_e : qChk 28 qt_mOpens [((0, [(0, 1)]), [6])] [] qt_mOpens_L qt_mOpens_R qt_mOpens_Q = true := by decide +kernel
noncomputable def qt_mCloses_L : List (Nat × List qAp) := []
noncomputable def qt_mCloses_R : List (Nat × List sQ) := []
noncomputable def qt_mCloses_Q : List sQ := [qt_mLook, qt_mBad]
theorem qt_mCloses_e : qChk 32 qt_mCloses [((0, [(0, (-1)), (7, 1)]), [0, 1])] [] qt_mCloses_L qt_mCloses_R qt_mCloses_Q = true := by decide +kernel
noncomputable def qt_mClosesF_L : List (Nat × List qAp) := []
noncomputable def qt_mClosesF_R : List (Nat × List sQ) := []
noncomputable def qt_mClosesF_Q : List sQ := []
theorem qt_mClosesF_e : qChk 26 qt_mClosesF [] [] qt_mClosesF_L qt_mClosesF_R qt_mClosesF_Q = true := by decide +kernel
noncomputable def qt_mNum_L : List (Nat × List qAp) := []
noncomputable def qt_mNum_R : List (Nat × List sQ) := []
noncomputable def qt_mNum_Q : List sQ := [qt_mHere, qt_mBad, qt_mDigit]
theorem qt_mNum_e : qChk 120 qt_mNum [] [qR_num] qt_mNum_L qt_mNum_R qt_mNum_Q = true := by decide +kernel
noncomputable def qt_mAtom_L : List (Nat × List qAp) := []
noncomputable def qt_mAtom_R : List (Nat × List sQ) := []
noncomputable def qt_mAtom_Q : List sQ := [qt_mLook, qt_mBad, qt_mDigit, qt_mLetter, qt_mPut, qt_mPutX, qt_mOpens, qt_mCloses, qt_mClosesF, qt_mNum, qt_mSum]
theorem qt_mAtom_e : qChk 35 qt_mAtom [] [qR_nmAT, qR_idm, qR_atm] qt_mAtom_L qt_mAtom_R qt_mAtom_Q = true := by decide +kernel
noncomputable def qt_mTerm_L : List (Nat × List qAp) := [(4, [(([(0, 120)], [(2, 120, (5, [])), (2, 120, (14, [])), (2, 120, (4, [])), (2, 1013, (0, [])), (2, 120, (2, [])), (2, 120, (3, [])), (2, 504, (0, [(0, 241), (5, 1)])), (2, 90, (0, [(1, 1)])), (2, 520000663088, (0, [(1, 1)])), (2, 520000664089, (0, [(1, 1)])), (2, 666088, (0, [])), (2, 667089, (0, [])), (2, 1122, (0, [(0, 241), (5, 1)])), (2, 642, (0, [(0, 241), (5, 1)])), (3, 0, (0, [])), (3, 0, (0, [])), (3, 0, (0, []))], [(0, 6), (0, 4), ((-1), (-1)), (1, 1), (0, 240), (0, 240), (0, 240), (0, 241), (0, 242), (0, 242), (0, 2080), (0, 2080), (0, 242), (0, 242), (0, 240), (0, 241), (0, 242)], [(0, [(4, (-1)), (5, 1)]), (0, [(7, (-1)), (12, 1)]), (0, [(7, 1), (12, (-1))]), (0, [(7, (-1)), (8, 1)]), (0, [(7, 1), (8, (-1))]), (0, [(7, (-1)), (9, 1)]), (0, [(7, 1), (9, (-1))]), (0, [(5, (-1)), (7, 1)]), (0, [(1, (-520)), (10, 1)]), (0, [(1, 520), (10, (-1))]), (0, [(1, (-520)), (11, 1)]), (0, [(1, 520), (11, (-1))]), (0, [(7, (-1)), (13, (-1)), (15, 1), (16, 1)]), (0, [(7, 1), (13, 1), (15, (-1)), (16, (-1))]), (0, [(6, (-1)), (14, 1), (16, 1)]), (0, [(6, (-1)), (15, 1), (16, 1)]), (1, [(6, (-1)), (14, 1)]), (0, [(4, (-1)), (6, 1)]), (0, [])], [(0, 0), (1, 1), (3, 3), (4, 4), (6, 6), (5, 14), (7, 15), (13, 16)], (0, [])), [], [qR_nmTT, qR_ttm]), (([(0, 120)], [(2, 120, (5, [])), (2, 120, (14, [])), (2, 120, (4, [])), (2, 1013, (0, [])), (2, 120, (2, [])), (2, 120, (3, [])), (2, 504, (0, [(0, 241), (5, 1)])), (2, 90, (0, [(1, 1)])), (2, 520000663088, (0, [(1, 1)])), (2, 520000664089, (0, [(1, 1)])), (2, 666088, (0, [])), (2, 667089, (0, [])), (2, 1122, (0, [(0, 241), (5, 1)])), (2, 642, (0, [(0, 241), (5, 1)])), (3, 0, (0, [])), (3, 0, (0, [])), (3, 0, (0, []))], [(0, 6), (0, 4), ((-1), (-1)), (1, 1), (0, 240), (0, 240), ((-241), (-1)), (0, 241), (0, 242), (0, 242), (0, 2080), (0, 2080), (0, 242), (0, 242), (0, 240), (0, 241), (0, 242)], [(0, [(4, (-1)), (5, 1)]), (0, [(7, (-1)), (12, 1)]), (0, [(7, 1), (12, (-1))]), (0, [(7, (-1)), (8, 1)]), (0, [(7, 1), (8, (-1))]), (0, [(7, (-1)), (9, 1)]), (0, [(7, 1), (9, (-1))]), (0, [(5, (-1)), (7, 1)]), (0, [(1, (-520)), (10, 1)]), (0, [(1, 520), (10, (-1))]), (0, [(1, (-520)), (11, 1)]), (0, [(1, 520), (11, (-1))]), (1, [(6, 1), (14, 1)]), ((-1), [(4, (-1)), (6, (-1))]), (0, [])], [(0, 0), (1, 1), (3, 3), (4, 4), (6, 6), (5, 14), (7, 15), (13, 16)], (0, [])), [], [qR_nmTT, qR_ttm]), (([(0, 120)], [(2, 120, (4, [])), (2, 120, (14, [])), (2, 90, (0, [(1, 1)])), (2, 666088, (0, [])), (2, 667089, (0, [])), (3, 0, (0, [])), (3, 0, (0, [])), (3, 0, (0, []))], [(0, 300), (0, 4), (0, 2600), (0, 2080), (0, 2080), ((-241), (-1)), (0, 240), (0, 240)], [(1, [(0, 1), (5, 1)]), ((-1), [(0, (-1)), (5, (-1))]), (1, [(5, 1), (6, 1)]), ((-1), [(5, (-1)), (7, (-1))]), (0, [(1, (-520)), (3, 1)]), (0, [(1, 520), (3, (-1))]), (0, [(1, (-520)), (4, 1)]), (0, [(1, 520), (4, (-1))]), (0, [])], [(1, 1), (6, 5), (5, 6), (4, 7)], (0, [])), [], [qR_nou])]), (63, [(([(0, 120)], [(2, 120, (5, [])), (2, 120, (14, [])), (2, 120, (4, [])), (2, 1013, (0, [])), (2, 120, (2, [])), (2, 120, (3, [])), (2, 504, (0, [(0, 241), (5, 1)])), (2, 90, (0, [(1, 1)])), (2, 520000663088, (0, [(1, 1)])), (2, 520000664089, (0, [(1, 1)])), (2, 666088, (0, [])), (2, 667089, (0, [])), (2, 1122, (0, [(0, 241), (5, 1)])), (2, 642, (0, [(0, 241), (5, 1)])), (3, 0, (0, [])), (3, 0, (0, [])), (3, 0, (0, []))], [(0, 6), (0, 4), ((-1), (-1)), (1, 1), (0, 240), (0, 240), (0, 240), (0, 241), (0, 242), (0, 242), (0, 2080), (0, 2080), (0, 242), (0, 242), (0, 240), (0, 241), (0, 242)], [(0, [(4, (-1)), (5, 1)]), (0, [(7, (-1)), (12, 1)]), (0, [(7, 1), (12, (-1))]), (0, [(7, (-1)), (8, 1)]), (0, [(7, 1), (8, (-1))]), (0, [(7, (-1)), (9, 1)]), (0, [(7, 1), (9, (-1))]), (0, [(5, (-1)), (7, 1)]), (0, [(1, (-520)), (10, 1)]), (0, [(1, 520), (10, (-1))]), (0, [(1, (-520)), (11, 1)]), (0, [(1, 520), (11, (-1))]), (0, [(7, (-1)), (13, (-1)), (15, 1), (16, 1)]), (0, [(7, 1), (13, 1), (15, (-1)), (16, (-1))]), (0, [(6, (-1)), (14, 1), (16, 1)]), (0, [(6, (-1)), (15, 1), (16, 1)]), (1, [(6, (-1)), (14, 1)]), (0, [(4, (-1)), (6, 1)]), (0, [])], [(0, 0), (1, 1), (3, 3), (4, 4), (6, 6), (5, 14), (7, 15), (13, 16)], (0, [])), [], [qR_nmTT, qR_ttm]), (([(0, 120)], [(2, 120, (5, [])), (2, 120, (14, [])), (2, 120, (4, [])), (2, 1013, (0, [])), (2, 120, (2, [])), (2, 120, (3, [])), (2, 504, (0, [(0, 241), (5, 1)])), (2, 90, (0, [(1, 1)])), (2, 520000663088, (0, [(1, 1)])), (2, 520000664089, (0, [(1, 1)])), (2, 666088, (0, [])), (2, 667089, (0, [])), (2, 1122, (0, [(0, 241), (5, 1)])), (2, 642, (0, [(0, 241), (5, 1)])), (3, 0, (0, [])), (3, 0, (0, [])), (3, 0, (0, []))], [(0, 6), (0, 4), ((-1), (-1)), (1, 1), (0, 240), (0, 240), ((-241), (-1)), (0, 241), (0, 242), (0, 242), (0, 2080), (0, 2080), (0, 242), (0, 242), (0, 240), (0, 241), (0, 242)], [(0, [(4, (-1)), (5, 1)]), (0, [(7, (-1)), (12, 1)]), (0, [(7, 1), (12, (-1))]), (0, [(7, (-1)), (8, 1)]), (0, [(7, 1), (8, (-1))]), (0, [(7, (-1)), (9, 1)]), (0, [(7, 1), (9, (-1))]), (0, [(5, (-1)), (7, 1)]), (0, [(1, (-520)), (10, 1)]), (0, [(1, 520), (10, (-1))]), (0, [(1, (-520)), (11, 1)]), (0, [(1, 520), (11, (-1))]), (1, [(6, 1), (14, 1)]), ((-1), [(4, (-1)), (6, (-1))]), (0, [])], [(0, 0), (1, 1), (3, 3), (4, 4), (6, 6), (5, 14), (7, 15), (13, 16)], (0, [])), [], [qR_nmTT, qR_ttm]), (([(0, 120)], [(2, 120, (4, [])), (2, 120, (14, [])), (2, 90, (0, [(1, 1)])), (2, 666088, (0, [])), (2, 667089, (0, [])), (3, 0, (0, [])), (3, 0, (0, [])), (3, 0, (0, []))], [(0, 300), (0, 4), (0, 2600), (0, 2080), (0, 2080), ((-241), (-1)), (0, 240), (0, 240)], [(1, [(0, 1), (5, 1)]), ((-1), [(0, (-1)), (5, (-1))]), (1, [(5, 1), (6, 1)]), ((-1), [(5, (-1)), (7, (-1))]), (0, [(1, (-520)), (3, 1)]), (0, [(1, 520), (3, (-1))]), (0, [(1, (-520)), (4, 1)]), (0, [(1, 520), (4, (-1))]), (0, [])], [(1, 1), (6, 5), (5, 6), (4, 7)], (0, [])), [], [qR_nou])])]
noncomputable def qt_mTerm_R : List (Nat × List sQ) := []
noncomputable def qt_mTerm_Q : List sQ := [qt_mLook, qt_mPut, qt_mPutX, qt_mAtom]
theorem qt_mTerm_e : qChk 40 qt_mTerm [] [qR_nmTM, qR_tmm] qt_mTerm_L qt_mTerm_R qt_mTerm_Q = true := by decide +kernel
