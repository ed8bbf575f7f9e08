/-! checks -/
noncomputable def qt_cPeek_L : List (Nat × List qAp) := [(0, [(([(0, 41)], [(2, 1000, (0, [])), (2, 41, (1, [])), (2, 41, (2, [])), (2, 500, (0, [(2, 1)])), (2, 501, (0, [(3, 1)])), (3, 0, (0, []))], [(1, 1), (0, 240), (0, 240), (0, 240), (0, 255), (0, 240)], [(0, [(1, (-1)), (2, 1)]), (0, [(2, (-1)), (5, 1)]), (0, [])], [(0, 0), (1, 1), (3, 3), (4, 4), (2, 5)], (0, [])), [], [qR_skc])])]
noncomputable def qt_cPeek_R : List (Nat × List sQ) := []
noncomputable def qt_cPeek_Q : List sQ := []
theorem qt_cPeek_e : qChk 33 qt_cPeek [] [qR_skc] qt_cPeek_L qt_cPeek_R qt_cPeek_Q = true := by decide +kernel
noncomputable def qt_cHere_L : List (Nat × List qAp) := []
noncomputable def qt_cHere_R : List (Nat × List sQ) := []
noncomputable def qt_cHere_Q : List sQ := []
theorem qt_cHere_e : qChk 21 qt_cHere [] [qR_skc] qt_cHere_L qt_cHere_R qt_cHere_Q = true := by decide +kernel
noncomputable def qt_cTake_L : List (Nat × List qAp) := []
noncomputable def qt_cTake_R : List (Nat × List sQ) := []
noncomputable def qt_cTake_Q : List sQ := [qt_cPeek]
theorem qt_cTake_e : qChk 21 qt_cTake [((0, [(0, (-1)), (5, 1)]), [0, 1])] [] qt_cTake_L qt_cTake_R qt_cTake_Q = true := by decide +kernel
noncomputable def qt_cDigit_L : List (Nat × List qAp) := []
noncomputable def qt_cDigit_R : List (Nat × List sQ) := []
noncomputable def qt_cDigit_Q : List sQ := []
theorem qt_cDigit_e : qChk 18 qt_cDigit [] [] qt_cDigit_L qt_cDigit_R qt_cDigit_Q = true := by decide +kernel
noncomputable def qt_cNumN_L : List (Nat × List qAp) := []
noncomputable def qt_cNumN_R : List (Nat × List sQ) := []
noncomputable def qt_cNumN_Q : List sQ := [qt_cPeek, qt_cDigit]
theorem qt_cNumN_e : qChk 15 qt_cNumN [] [] qt_cNumN_L qt_cNumN_R qt_cNumN_Q = true := by decide +kernel
noncomputable def qt_cNumM_L : List (Nat × List qAp) := []
noncomputable def qt_cNumM_R : List (Nat × List sQ) := []
noncomputable def qt_cNumM_Q : List sQ := [qt_cPeek, qt_cDigit]
theorem qt_cNumM_e : qChk 15 qt_cNumM [] [] qt_cNumM_L qt_cNumM_R qt_cNumM_Q = true := by decide +kernel
noncomputable def qt_cNumD_L : List (Nat × List qAp) := []
noncomputable def qt_cNumD_R : List (Nat × List sQ) := []
noncomputable def qt_cNumD_Q : List sQ := [qt_cPeek, qt_cHere, qt_cDigit]
theorem qt_cNumD_e : qChk 123 qt_cNumD [] [qR_nuc] qt_cNumD_L qt_cNumD_R qt_cNumD_Q = true := by decide +kernel
noncomputable def qt_cEnc_L : List (Nat × List qAp) := []
noncomputable def qt_cEnc_R : List (Nat × List sQ) := []
noncomputable def qt_cEnc_Q : List sQ := []
theorem qt_cEnc_e : qChk 17 qt_cEnc [] [] qt_cEnc_L qt_cEnc_R qt_cEnc_Q = true := by decide +kernel
noncomputable def qt_cMax0_L : List (Nat × List qAp) := []
noncomputable def qt_cMax0_R : List (Nat × List sQ) := []
noncomputable def qt_cMax0_Q : List sQ := []
theorem qt_cMax0_e : qChk 15 qt_cMax0 [] [] qt_cMax0_L qt_cMax0_R qt_cMax0_Q = true := by decide +kernel
noncomputable def qt_cMin3_L : List (Nat × List qAp) := []
noncomputable def qt_cMin3_R : List (Nat × List sQ) := []
noncomputable def qt_cMin3_Q : List sQ := []
theorem qt_cMin3_e : qChk 15 qt_cMin3 [] [] qt_cMin3_L qt_cMin3_R qt_cMin3_Q = true := by decide +kernel
noncomputable def qt_cMin4_L : List (Nat × List qAp) := []
noncomputable def qt_cMin4_R : List (Nat × List sQ) := []
noncomputable def qt_cMin4_Q : List sQ := []
theorem qt_cMin4_e : qChk 15 qt_cMin4 [] [] qt_cMin4_L qt_cMin4_R qt_cMin4_Q = true := by decide +kernel
noncomputable def qt_cMin6_L : List (Nat × List qAp) := []
noncomputable def qt_cMin6_R : List (Nat × List sQ) := []
noncomputable def qt_cMin6_Q : List sQ := []
theorem qt_cMin6_e : qChk 15 qt_cMin6 [] [] qt_cMin6_L qt_cMin6_R qt_cMin6_Q = true := by decide +kernel
noncomputable def qt_cIocdiehwn_L : List (Nat × List qAp) := []
noncomputable def qt_cIocdiehwn_R : List (Nat × List sQ) := []
noncomputable def qt_cIocdiehwn_Q : List sQ := []
theorem qt_cIocdiehwn_e : qChk 79 qt_cIocdiehwn [((0, [(0, 1)]), [100, 101, 102, 104, 105, 106, 110, 111, 119, 120, 128])] [] qt_cIocdiehwn_L qt_cIocdiehwn_R qt_cIocdiehwn_Q = true := by decide +kernel
noncomputable def qt_cIoldiehwn_L : List (Nat × List qAp) := []
noncomputable def qt_cIoldiehwn_R : List (Nat × List sQ) := []
noncomputable def qt_cIoldiehwn_Q : List sQ := [qt_J9_min, qt_J9_max, qt_cEnc, qt_cIocdiehwn]
theorem qt_cIoldiehwn_e : qChk 30 qt_cIoldiehwn [] [] qt_cIoldiehwn_L qt_cIoldiehwn_R qt_cIoldiehwn_Q = true := by decide +kernel
noncomputable def qt_cCoderdiehwn_L : List (Nat × List qAp) := []
noncomputable def qt_cCoderdiehwn_R : List (Nat × List sQ) := []
noncomputable def qt_cCoderdiehwn_Q : List sQ := []
theorem qt_cCoderdiehwn_e : qChk 15 qt_cCoderdiehwn [] [] qt_cCoderdiehwn_L qt_cCoderdiehwn_R qt_cCoderdiehwn_Q = true := by decide +kernel
noncomputable def qt_cLendiehwn_L : List (Nat × List qAp) := []
noncomputable def qt_cLendiehwn_R : List (Nat × List sQ) := []
noncomputable def qt_cLendiehwn_Q : List sQ := [qt_cCoderdiehwn]
theorem qt_cLendiehwn_e : qChk 16 qt_cLendiehwn [] [] qt_cLendiehwn_L qt_cLendiehwn_R qt_cLendiehwn_Q = true := by decide +kernel
noncomputable def qt_cLatdiehwn_L : List (Nat × List qAp) := []
noncomputable def qt_cLatdiehwn_R : List (Nat × List sQ) := []
noncomputable def qt_cLatdiehwn_Q : List sQ := []
theorem qt_cLatdiehwn_e : qChk 17 qt_cLatdiehwn [] [] qt_cLatdiehwn_L qt_cLatdiehwn_R qt_cLatdiehwn_Q = true := by decide +kernel
noncomputable def qt_cIo2diehwn_L : List (Nat × List qAp) := []
noncomputable def qt_cIo2diehwn_R : List (Nat × List sQ) := []
noncomputable def qt_cIo2diehwn_Q : List sQ := [qt_cIoldiehwn, qt_cLendiehwn, qt_cLatdiehwn]
theorem qt_cIo2diehwn_e : qChk 21 qt_cIo2diehwn [] [] qt_cIo2diehwn_L qt_cIo2diehwn_R qt_cIo2diehwn_Q = true := by decide +kernel
noncomputable def qt_cIodiehwn_L : List (Nat × List qAp) := []
noncomputable def qt_cIodiehwn_R : List (Nat × List sQ) := []
noncomputable def qt_cIodiehwn_Q : List sQ := [qt_cIo2diehwn]
theorem qt_cIodiehwn_e : qChk 14 qt_cIodiehwn [] [] qt_cIodiehwn_L qt_cIodiehwn_R qt_cIodiehwn_Q = true := by decide +kernel
noncomputable def qt_cEmit_L : List (Nat × List qAp) := []
noncomputable def qt_cEmit_R : List (Nat × List sQ) := []
noncomputable def qt_cEmit_Q : List sQ := []
theorem qt_cEmit_e : qChk 26 qt_cEmit [] [qR_npc, qR_gfx] qt_cEmit_L qt_cEmit_R qt_cEmit_Q = true := by decide +kernel
noncomputable def qt_cCmp_L : List (Nat × List qAp) := []
noncomputable def qt_cCmp_R : List (Nat × List sQ) := []
noncomputable def qt_cCmp_Q : List sQ := []
theorem qt_cCmp_e : qChk 21 qt_cCmp [((0, [(0, 1)]), [60, 61, 62, 63])] [] qt_cCmp_L qt_cCmp_R qt_cCmp_Q = true := by decide +kernel
noncomputable def qt_cAtom_L : List (Nat × List qAp) := []
noncomputable def qt_cAtom_R : List (Nat × List sQ) := []
noncomputable def qt_cAtom_Q : List sQ := [qt_cPeek, qt_cTake, qt_cNumN, qt_cNumM, qt_cNumD, qt_cIodiehwn, qt_cEmit, qt_cSum]
theorem qt_cAtom_e : qChk 40 qt_cAtom [] [qR_nrAT, qR_idc, qR_atc] qt_cAtom_L qt_cAtom_R qt_cAtom_Q = true := by decide +kernel
noncomputable def qt_cTerm_L : List (Nat × List qAp) := [(12, [(([(0, 48)], [(0, 1, (0, [])), (0, 2, (0, [])), (2, 1000, (0, [])), (2, 41, (1, [])), (2, 41, (2, [])), (2, 504, (0, [(0, 241), (4, 1)])), (2, 48, (2, [])), (2, 662047, (0, [])), (2, 1102, (0, [(0, 241), (4, 1)])), (2, 642, (0, [(0, 241), (4, 1)])), (3, 0, (0, [])), (3, 0, (0, [])), (3, 0, (0, []))], [(0, 6), (0, 240), (1, 1), (0, 240), (0, 240), (0, 240), (0, 241), (0, 242), (0, 242), (0, 242), (0, 240), (0, 241), (0, 242)], [(0, [(3, (-1)), (4, 1)]), (0, [(6, (-1)), (8, 1)]), (0, [(6, 1), (8, (-1))]), (0, [(6, (-1)), (7, 1)]), (0, [(6, 1), (7, (-1))]), (0, [(4, (-1)), (6, 1)]), (1, [(1, 1), (4, (-1))]), (0, [(6, (-1)), (9, (-1)), (11, 1), (12, 1)]), (0, [(6, 1), (9, 1), (11, (-1)), (12, (-1))]), (0, [(5, (-1)), (10, 1), (12, 1)]), (0, [(5, (-1)), (11, 1), (12, 1)]), (1, [(5, (-1)), (10, 1)]), (0, [(3, (-1)), (5, 1)]), (0, [])], [(0, 0), (1, 2), (2, 3), (4, 5), (3, 10), (5, 11), (8, 12)], (0, [])), [], [qR_nrTT, qR_ttc]), (([(0, 48)], [(0, 1, (0, [])), (0, 2, (0, [])), (2, 1000, (0, [])), (2, 41, (1, [])), (2, 41, (2, [])), (2, 504, (0, [(0, 241), (4, 1)])), (2, 48, (2, [])), (2, 662047, (0, [])), (2, 1102, (0, [(0, 241), (4, 1)])), (2, 642, (0, [(0, 241), (4, 1)])), (3, 0, (0, [])), (3, 0, (0, [])), (3, 0, (0, []))], [(0, 6), (0, 240), (1, 1), (0, 240), (0, 240), ((-241), (-1)), (0, 241), (0, 242), (0, 242), (0, 242), (0, 240), (0, 241), (0, 242)], [(0, [(3, (-1)), (4, 1)]), (0, [(6, (-1)), (8, 1)]), (0, [(6, 1), (8, (-1))]), (0, [(6, (-1)), (7, 1)]), (0, [(6, 1), (7, (-1))]), (0, [(4, (-1)), (6, 1)]), (1, [(1, 1), (4, (-1))]), (1, [(5, 1), (10, 1)]), ((-1), [(3, (-1)), (5, (-1))]), (0, [])], [(0, 0), (1, 2), (2, 3), (4, 5), (3, 10), (5, 11), (8, 12)], (0, [])), [], [qR_nrTT, qR_ttc])])]
noncomputable def qt_cTerm_R : List (Nat × List sQ) := []
noncomputable def qt_cTerm_Q : List sQ := [qt_cPeek, qt_cEmit, qt_cAtom]
theorem qt_cTerm_e : qChk 40 qt_cTerm [] [qR_nrTM, qR_tmc] qt_cTerm_L qt_cTerm_R qt_cTerm_Q = true := by decide +kernel
noncomputable def qt_cSum_L : List (Nat × List qAp) := [(12, [(([(0, 48)], [(0, 1, (0, [])), (0, 2, (0, [])), (2, 1000, (0, [])), (2, 41, (1, [])), (2, 41, (2, [])), (2, 506, (0, [(0, 241), (4, 1)])), (2, 48, (2, [])), (2, 662047, (0, [])), (2, 1104, (0, [(0, 241), (4, 1)])), (2, 644, (0, [(0, 241), (4, 1)])), (3, 0, (0, [])), (3, 0, (0, [])), (3, 0, (0, []))], [(0, 6), (0, 240), (1, 1), (0, 240), (0, 240), (0, 240), (0, 241), (0, 242), (0, 242), (0, 242), (0, 240), (0, 241), (0, 242)], [(0, [(3, (-1)), (4, 1)]), (0, [(6, (-1)), (8, 1)]), (0, [(6, 1), (8, (-1))]), (0, [(6, (-1)), (7, 1)]), (0, [(6, 1), (7, (-1))]), (0, [(4, (-1)), (6, 1)]), (1, [(1, 1), (4, (-1))]), (0, [(6, (-1)), (9, (-1)), (11, 1), (12, 1)]), (0, [(6, 1), (9, 1), (11, (-1)), (12, (-1))]), (0, [(5, (-1)), (10, 1), (12, 1)]), (0, [(5, (-1)), (11, 1), (12, 1)]), (1, [(5, (-1)), (10, 1)]), (0, [(3, (-1)), (5, 1)]), (0, [])], [(0, 0), (1, 2), (2, 3), (4, 5), (3, 10), (5, 11), (8, 12)], (0, [])), [], [qR_nrST, qR_stc]), (([(0, 48)], [(0, 1, (0, [])), (0, 2, (0, [])), (2, 1000, (0, [])), (2, 41, (1, [])), (2, 41, (2, [])), (2, 506, (0, [(0, 241), (4, 1)])), (2, 48, (2, [])), (2, 662047, (0, [])), (2, 1104, (0, [(0, 241), (4, 1)])), (2, 644, (0, [(0, 241), (4, 1)])), (3, 0, (0, [])), (3, 0, (0, [])), (3, 0, (0, []))], [(0, 6), (0, 240), (1, 1), (0, 240), (0, 240), ((-241), (-1)), (0, 241), (0, 242), (0, 242), (0, 242), (0, 240), (0, 241), (0, 242)], [(0, [(3, (-1)), (4, 1)]), (0, [(6, (-1)), (8, 1)]), (0, [(6, 1), (8, (-1))]), (0, [(6, (-1)), (7, 1)]), (0, [(6, 1), (7, (-1))]), (0, [(4, (-1)), (6, 1)]), (1, [(1, 1), (4, (-1))]), (1, [(5, 1), (10, 1)]), ((-1), [(3, (-1)), (5, (-1))]), (0, [])], [(0, 0), (1, 2), (2, 3), (4, 5), (3, 10), (5, 11), (8, 12)], (0, [])), [], [qR_nrST, qR_stc])])]
noncomputable def qt_cSum_R : List (Nat × List sQ) := []
noncomputable def qt_cSum_Q : List sQ := [qt_cPeek, qt_cEmit, qt_cTerm]
theorem qt_cSum_e : qChk 40 qt_cSum [] [qR_nrSU, qR_suc] qt_cSum_L qt_cSum_R qt_cSum_Q = true := by decide +kernel
noncomputable def qt_cUnit_L : List (Nat × List qAp) := [(45, [(([(0, 48)], [(0, 1, (0, [])), (2, 1000, (0, [])), (2, 41, (1, [])), (2, 41, (2, [])), (2, 508, (0, [(0, 241), (3, 1)])), (2, 48, (2, [])), (2, 662047, (0, [])), (2, 1106, (0, [(0, 241), (3, 1)])), (2, 646, (0, [(0, 241), (3, 1)])), (3, 0, (0, [])), (3, 0, (0, [])), (3, 0, (0, []))], [(0, 6), (1, 1), (0, 240), (0, 240), (0, 240), (0, 241), (0, 242), (0, 242), (0, 242), (0, 240), (0, 241), (0, 242)], [(0, [(2, (-1)), (3, 1)]), (0, [(5, (-1)), (7, 1)]), (0, [(5, 1), (7, (-1))]), (0, [(5, (-1)), (6, 1)]), (0, [(5, 1), (6, (-1))]), (0, [(3, (-1)), (5, 1)]), (0, [(5, (-1)), (8, (-1)), (10, 1), (11, 1)]), (0, [(5, 1), (8, 1), (10, (-1)), (11, (-1))]), (0, [(4, (-1)), (9, 1), (11, 1)]), (0, [(4, (-1)), (10, 1), (11, 1)]), (1, [(4, (-1)), (9, 1)]), (0, [(2, (-1)), (4, 1)]), (0, [])], [(0, 0), (2, 1), (3, 2), (5, 4), (4, 9), (6, 10), (9, 11)], (0, [])), [], [qR_nrCM, qR_cmc]), (([(0, 48)], [(0, 1, (0, [])), (2, 1000, (0, [])), (2, 41, (1, [])), (2, 41, (2, [])), (2, 508, (0, [(0, 241), (3, 1)])), (2, 48, (2, [])), (2, 662047, (0, [])), (2, 1106, (0, [(0, 241), (3, 1)])), (2, 646, (0, [(0, 241), (3, 1)])), (3, 0, (0, [])), (3, 0, (0, [])), (3, 0, (0, []))], [(0, 6), (1, 1), (0, 240), (0, 240), ((-241), (-1)), (0, 241), (0, 242), (0, 242), (0, 242), (0, 240), (0, 241), (0, 242)], [(0, [(2, (-1)), (3, 1)]), (0, [(5, (-1)), (7, 1)]), (0, [(5, 1), (7, (-1))]), (0, [(5, (-1)), (6, 1)]), (0, [(5, 1), (6, (-1))]), (0, [(3, (-1)), (5, 1)]), (1, [(4, 1), (9, 1)]), ((-1), [(2, (-1)), (4, (-1))]), (0, [])], [(0, 0), (2, 1), (3, 2), (5, 4), (4, 9), (6, 10), (9, 11)], (0, [])), [], [qR_nrCM, qR_cmc])])]
noncomputable def qt_cUnit_R : List (Nat × List sQ) := []
noncomputable def qt_cUnit_Q : List sQ := [qt_cPeek, qt_cEmit, qt_cCmp, qt_cSum, qt_cNest6, qt_cNestN, qt_cNestM, qt_cNestC, qt_cNestD]
theorem qt_cUnit_e : qChk 33 qt_cUnit [] [qR_nrUN, qR_unc] qt_cUnit_L qt_cUnit_R qt_cUnit_Q = true := by decide +kernel
noncomputable def qt_cUnitB_L : List (Nat × List qAp) := []
noncomputable def qt_cUnitB_R : List (Nat × List sQ) := []
noncomputable def qt_cUnitB_Q : List sQ := [qt_cPeek, qt_cEmit, qt_cCmp, qt_cSum]
theorem qt_cUnitB_e : qChk 41 qt_cUnitB [] [qR_nrCM, qR_idc, qR_cmc] qt_cUnitB_L qt_cUnitB_R qt_cUnitB_Q = true := by decide +kernel
noncomputable def qt_cNest6_L : List (Nat × List qAp) := []
noncomputable def qt_cNest6_R : List (Nat × List sQ) := []
noncomputable def qt_cNest6_Q : List sQ := []
theorem qt_cNest6_e : qChk 14 qt_cNest6 [] [] qt_cNest6_L qt_cNest6_R qt_cNest6_Q = true := by decide +kernel
noncomputable def qt_cNestN_L : List (Nat × List qAp) := []
noncomputable def qt_cNestN_R : List (Nat × List sQ) := []
noncomputable def qt_cNestN_Q : List sQ := [qt_cUnit]
theorem qt_cNestN_e : qChk 31 qt_cNestN [] [qR_nn1] qt_cNestN_L qt_cNestN_R qt_cNestN_Q = true := by decide +kernel
noncomputable def qt_cNestM_L : List (Nat × List qAp) := []
noncomputable def qt_cNestM_R : List (Nat × List sQ) := []
noncomputable def qt_cNestM_Q : List sQ := [qt_cEmit, qt_cUnit]
theorem qt_cNestM_e : qChk 34 qt_cNestM [] [qR_nn1] qt_cNestM_L qt_cNestM_R qt_cNestM_Q = true := by decide +kernel
noncomputable def qt_cNestC_L : List (Nat × List qAp) := []
noncomputable def qt_cNestC_R : List (Nat × List sQ) := []
noncomputable def qt_cNestC_Q : List sQ := [qt_cCond]
theorem qt_cNestC_e : qChk 31 qt_cNestC [] [qR_nn2] qt_cNestC_L qt_cNestC_R qt_cNestC_Q = true := by decide +kernel
noncomputable def qt_cNestD_L : List (Nat × List qAp) := []
noncomputable def qt_cNestD_R : List (Nat × List sQ) := []
noncomputable def qt_cNestD_Q : List sQ := [qt_cTake, qt_cCond]
theorem qt_cNestD_e : qChk 37 qt_cNestD [] [qR_nn2] qt_cNestD_L qt_cNestD_R qt_cNestD_Q = true := by decide +kernel
noncomputable def qt_cTruth_L : List (Nat × List qAp) := [(13, [(([(0, 48)], [(0, 1, (0, [])), (0, 3, (0, [])), (2, 1000, (0, [])), (2, 41, (1, [])), (2, 41, (2, [])), (2, 509, (0, [(0, 241), (4, 1)])), (2, 48, (2, [])), (2, 662047, (0, [])), (2, 1107, (0, [(0, 241), (4, 1)])), (2, 647, (0, [(0, 241), (4, 1)])), (3, 0, (0, [])), (3, 0, (0, [])), (3, 0, (0, []))], [(0, 6), (0, 240), (1, 1), (0, 240), (0, 240), (0, 240), (0, 241), (0, 242), (0, 242), (0, 242), (0, 240), (0, 241), (0, 242)], [(0, [(3, (-1)), (4, 1)]), (0, [(6, (-1)), (8, 1)]), (0, [(6, 1), (8, (-1))]), (0, [(6, (-1)), (7, 1)]), (0, [(6, 1), (7, (-1))]), (0, [(4, (-1)), (6, 1)]), (1, [(1, 1), (4, (-1))]), (0, [(6, (-1)), (9, (-1)), (11, 1), (12, 1)]), (0, [(6, 1), (9, 1), (11, (-1)), (12, (-1))]), (0, [(5, (-1)), (10, 1), (12, 1)]), (0, [(5, (-1)), (11, 1), (12, 1)]), (1, [(5, (-1)), (10, 1)]), (0, [(3, (-1)), (5, 1)]), (0, [])], [(0, 0), (2, 2), (3, 3), (5, 5), (4, 10), (6, 11), (9, 12)], (0, [])), [], [qR_nrAN, qR_anc]), (([(0, 48)], [(0, 1, (0, [])), (0, 3, (0, [])), (2, 1000, (0, [])), (2, 41, (1, [])), (2, 41, (2, [])), (2, 509, (0, [(0, 241), (4, 1)])), (2, 48, (2, [])), (2, 662047, (0, [])), (2, 1107, (0, [(0, 241), (4, 1)])), (2, 647, (0, [(0, 241), (4, 1)])), (3, 0, (0, [])), (3, 0, (0, [])), (3, 0, (0, []))], [(0, 6), (0, 240), (1, 1), (0, 240), (0, 240), ((-241), (-1)), (0, 241), (0, 242), (0, 242), (0, 242), (0, 240), (0, 241), (0, 242)], [(0, [(3, (-1)), (4, 1)]), (0, [(6, (-1)), (8, 1)]), (0, [(6, 1), (8, (-1))]), (0, [(6, (-1)), (7, 1)]), (0, [(6, 1), (7, (-1))]), (0, [(4, (-1)), (6, 1)]), (1, [(1, 1), (4, (-1))]), (1, [(5, 1), (10, 1)]), ((-1), [(3, (-1)), (5, (-1))]), (0, [])], [(0, 0), (2, 2), (3, 3), (5, 5), (4, 10), (6, 11), (9, 12)], (0, [])), [], [qR_nrAN, qR_anc])])]
noncomputable def qt_cTruth_R : List (Nat × List sQ) := []
noncomputable def qt_cTruth_Q : List sQ := [qt_cTake, qt_cEmit, qt_cUnit]
theorem qt_cTruth_e : qChk 28 qt_cTruth [] [qR_nrTR, qR_trc] qt_cTruth_L qt_cTruth_R qt_cTruth_Q = true := by decide +kernel
noncomputable def qt_cTruthB_L : List (Nat × List qAp) := [(13, [(([(0, 48)], [(0, 1, (0, [])), (0, 3, (0, [])), (2, 1000, (0, [])), (2, 41, (1, [])), (2, 41, (2, [])), (2, 509, (0, [(0, 241), (4, 1)])), (2, 48, (2, [])), (2, 662047, (0, [])), (2, 1107, (0, [(0, 241), (4, 1)])), (2, 647, (0, [(0, 241), (4, 1)])), (3, 0, (0, [])), (3, 0, (0, [])), (3, 0, (0, []))], [(0, 6), (0, 240), (1, 1), (0, 240), (0, 240), (0, 240), (0, 241), (0, 242), (0, 242), (0, 242), (0, 240), (0, 241), (0, 242)], [(0, [(3, (-1)), (4, 1)]), (0, [(6, (-1)), (8, 1)]), (0, [(6, 1), (8, (-1))]), (0, [(6, (-1)), (7, 1)]), (0, [(6, 1), (7, (-1))]), (0, [(4, (-1)), (6, 1)]), (1, [(1, 1), (4, (-1))]), (0, [(6, (-1)), (9, (-1)), (11, 1), (12, 1)]), (0, [(6, 1), (9, 1), (11, (-1)), (12, (-1))]), (0, [(5, (-1)), (10, 1), (12, 1)]), (0, [(5, (-1)), (11, 1), (12, 1)]), (1, [(5, (-1)), (10, 1)]), (0, [(3, (-1)), (5, 1)]), (0, [])], [(0, 0), (2, 2), (3, 3), (5, 5), (4, 10), (6, 11), (9, 12)], (0, [])), [], [qR_nrAN, qR_anc]), (([(0, 48)], [(0, 1, (0, [])), (0, 3, (0, [])), (2, 1000, (0, [])), (2, 41, (1, [])), (2, 41, (2, [])), (2, 509, (0, [(0, 241), (4, 1)])), (2, 48, (2, [])), (2, 662047, (0, [])), (2, 1107, (0, [(0, 241), (4, 1)])), (2, 647, (0, [(0, 241), (4, 1)])), (3, 0, (0, [])), (3, 0, (0, [])), (3, 0, (0, []))], [(0, 6), (0, 240), (1, 1), (0, 240), (0, 240), ((-241), (-1)), (0, 241), (0, 242), (0, 242), (0, 242), (0, 240), (0, 241), (0, 242)], [(0, [(3, (-1)), (4, 1)]), (0, [(6, (-1)), (8, 1)]), (0, [(6, 1), (8, (-1))]), (0, [(6, (-1)), (7, 1)]), (0, [(6, 1), (7, (-1))]), (0, [(4, (-1)), (6, 1)]), (1, [(1, 1), (4, (-1))]), (1, [(5, 1), (10, 1)]), ((-1), [(3, (-1)), (5, (-1))]), (0, [])], [(0, 0), (2, 2), (3, 3), (5, 5), (4, 10), (6, 11), (9, 12)], (0, [])), [], [qR_nrAN, qR_anc])])]
noncomputable def qt_cTruthB_R : List (Nat × List sQ) := []
noncomputable def qt_cTruthB_Q : List sQ := [qt_cTake, qt_cEmit, qt_cUnit, qt_cUnitB]
theorem qt_cTruthB_e : qChk 28 qt_cTruthB [] [qR_nrTB, qR_tbc] qt_cTruthB_L qt_cTruthB_R qt_cTruthB_Q = true := by decide +kernel
noncomputable def qt_cCond_L : List (Nat × List qAp) := [(13, [(([(0, 48)], [(0, 1, (0, [])), (0, 3, (0, [])), (2, 1000, (0, [])), (2, 41, (1, [])), (2, 41, (2, [])), (2, 511, (0, [(0, 241), (4, 1)])), (2, 48, (2, [])), (2, 662047, (0, [])), (2, 1109, (0, [(0, 241), (4, 1)])), (2, 649, (0, [(0, 241), (4, 1)])), (3, 0, (0, [])), (3, 0, (0, [])), (3, 0, (0, []))], [(0, 6), (0, 240), (1, 1), (0, 240), (0, 240), (0, 240), (0, 241), (0, 242), (0, 242), (0, 242), (0, 240), (0, 241), (0, 242)], [(0, [(3, (-1)), (4, 1)]), (0, [(6, (-1)), (8, 1)]), (0, [(6, 1), (8, (-1))]), (0, [(6, (-1)), (7, 1)]), (0, [(6, 1), (7, (-1))]), (0, [(4, (-1)), (6, 1)]), (1, [(1, 1), (4, (-1))]), (0, [(6, (-1)), (9, (-1)), (11, 1), (12, 1)]), (0, [(6, 1), (9, 1), (11, (-1)), (12, (-1))]), (0, [(5, (-1)), (10, 1), (12, 1)]), (0, [(5, (-1)), (11, 1), (12, 1)]), (1, [(5, (-1)), (10, 1)]), (0, [(3, (-1)), (5, 1)]), (0, [])], [(0, 0), (2, 2), (3, 3), (5, 5), (4, 10), (6, 11), (9, 12)], (0, [])), [], [qR_nrOT, qR_otc]), (([(0, 48)], [(0, 1, (0, [])), (0, 3, (0, [])), (2, 1000, (0, [])), (2, 41, (1, [])), (2, 41, (2, [])), (2, 511, (0, [(0, 241), (4, 1)])), (2, 48, (2, [])), (2, 662047, (0, [])), (2, 1109, (0, [(0, 241), (4, 1)])), (2, 649, (0, [(0, 241), (4, 1)])), (3, 0, (0, [])), (3, 0, (0, [])), (3, 0, (0, []))], [(0, 6), (0, 240), (1, 1), (0, 240), (0, 240), ((-241), (-1)), (0, 241), (0, 242), (0, 242), (0, 242), (0, 240), (0, 241), (0, 242)], [(0, [(3, (-1)), (4, 1)]), (0, [(6, (-1)), (8, 1)]), (0, [(6, 1), (8, (-1))]), (0, [(6, (-1)), (7, 1)]), (0, [(6, 1), (7, (-1))]), (0, [(4, (-1)), (6, 1)]), (1, [(1, 1), (4, (-1))]), (1, [(5, 1), (10, 1)]), ((-1), [(3, (-1)), (5, (-1))]), (0, [])], [(0, 0), (2, 2), (3, 3), (5, 5), (4, 10), (6, 11), (9, 12)], (0, [])), [], [qR_nrOT, qR_otc])])]
noncomputable def qt_cCond_R : List (Nat × List sQ) := []
noncomputable def qt_cCond_Q : List sQ := [qt_cTake, qt_cEmit, qt_cTruth]
theorem qt_cCond_e : qChk 28 qt_cCond [] [qR_nrCO, qR_coc] qt_cCond_L qt_cCond_R qt_cCond_Q = true := by decide +kernel
noncomputable def qt_cCondB_L : List (Nat × List qAp) := [(13, [(([(0, 48)], [(0, 1, (0, [])), (0, 3, (0, [])), (2, 1000, (0, [])), (2, 41, (1, [])), (2, 41, (2, [])), (2, 511, (0, [(0, 241), (4, 1)])), (2, 48, (2, [])), (2, 662047, (0, [])), (2, 1109, (0, [(0, 241), (4, 1)])), (2, 649, (0, [(0, 241), (4, 1)])), (3, 0, (0, [])), (3, 0, (0, [])), (3, 0, (0, []))], [(0, 6), (0, 240), (1, 1), (0, 240), (0, 240), (0, 240), (0, 241), (0, 242), (0, 242), (0, 242), (0, 240), (0, 241), (0, 242)], [(0, [(3, (-1)), (4, 1)]), (0, [(6, (-1)), (8, 1)]), (0, [(6, 1), (8, (-1))]), (0, [(6, (-1)), (7, 1)]), (0, [(6, 1), (7, (-1))]), (0, [(4, (-1)), (6, 1)]), (1, [(1, 1), (4, (-1))]), (0, [(6, (-1)), (9, (-1)), (11, 1), (12, 1)]), (0, [(6, 1), (9, 1), (11, (-1)), (12, (-1))]), (0, [(5, (-1)), (10, 1), (12, 1)]), (0, [(5, (-1)), (11, 1), (12, 1)]), (1, [(5, (-1)), (10, 1)]), (0, [(3, (-1)), (5, 1)]), (0, [])], [(0, 0), (2, 2), (3, 3), (5, 5), (4, 10), (6, 11), (9, 12)], (0, [])), [], [qR_nrOT, qR_otc]), (([(0, 48)], [(0, 1, (0, [])), (0, 3, (0, [])), (2, 1000, (0, [])), (2, 41, (1, [])), (2, 41, (2, [])), (2, 511, (0, [(0, 241), (4, 1)])), (2, 48, (2, [])), (2, 662047, (0, [])), (2, 1109, (0, [(0, 241), (4, 1)])), (2, 649, (0, [(0, 241), (4, 1)])), (3, 0, (0, [])), (3, 0, (0, [])), (3, 0, (0, []))], [(0, 6), (0, 240), (1, 1), (0, 240), (0, 240), ((-241), (-1)), (0, 241), (0, 242), (0, 242), (0, 242), (0, 240), (0, 241), (0, 242)], [(0, [(3, (-1)), (4, 1)]), (0, [(6, (-1)), (8, 1)]), (0, [(6, 1), (8, (-1))]), (0, [(6, (-1)), (7, 1)]), (0, [(6, 1), (7, (-1))]), (0, [(4, (-1)), (6, 1)]), (1, [(1, 1), (4, (-1))]), (1, [(5, 1), (10, 1)]), ((-1), [(3, (-1)), (5, (-1))]), (0, [])], [(0, 0), (2, 2), (3, 3), (5, 5), (4, 10), (6, 11), (9, 12)], (0, [])), [], [qR_nrOT, qR_otc])])]
noncomputable def qt_cCondB_R : List (Nat × List sQ) := []
noncomputable def qt_cCondB_Q : List sQ := [qt_cTake, qt_cEmit, qt_cTruth, qt_cTruthB]
theorem qt_cCondB_e : qChk 28 qt_cCondB [] [qR_nrCB, qR_cbc] qt_cCondB_L qt_cCondB_R qt_cCondB_Q = true := by decide +kernel
