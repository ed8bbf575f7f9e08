/-! checks -/
noncomputable def qt_cHas_L : List (Nat × List qAp) := []
noncomputable def qt_cHas_R : List (Nat × List sQ) := []
noncomputable def qt_cHas_Q : List sQ := []
theorem qt_cHas_e : qChk 18 qt_cHas [] [] qt_cHas_L qt_cHas_R qt_cHas_Q = true := by decide +kernel
noncomputable def qt_cWatnow_L : List (Nat × List qAp) := [(27, [(([(0, 7)], [(0, 1, (0, [])), (0, 2, (0, [])), (0, 3, (0, [])), (0, 4, (0, [])), (2, 1060, (0, [])), (2, 56, (0, [])), (2, 606, (0, [(0, 1)])), (2, 5, (0, [(0, 1)]))], [(0, 5), (2, 6), (0, 5), (0, 6), (1, 1), (2, 6), (0, 5), (0, 5)], [(1, [(0, 1), (5, (-1))]), (0, [(1, 1), (5, (-1))]), (0, [(1, (-1)), (5, 1)]), (1, [(5, (-1)), (7, 1)]), (0, [(3, 1), (6, (-1))]), (1, [(1, (-1)), (3, 1)]), (1, [(1, (-1)), (6, 1)]), (0, [(7, 1)]), (0, [(7, (-1))]), (1, [(1, (-1)), (2, 1)]), ((-1), [(1, 1), (2, (-1))]), (0, [])], [(1, 0), (2, 1), (0, 4), (3, 5), (4, 6)], (0, [])), [], [qR_woAnow]), (([(0, 7)], [(0, 1, (0, [])), (0, 2, (0, [])), (0, 3, (0, [])), (0, 4, (0, [])), (2, 1060, (0, [])), (2, 56, (0, [])), (2, 606, (0, [(0, 1)])), (2, 5, (0, [(0, 1)]))], [(0, 5), (2, 6), (0, 5), (0, 6), (1, 1), (2, 6), (0, 5), (0, 5)], [(1, [(0, 1), (5, (-1))]), (0, [(1, 1), (5, (-1))]), (0, [(1, (-1)), (5, 1)]), (1, [(5, (-1)), (7, 1)]), (0, [(3, 1), (6, (-1))]), (1, [(1, (-1)), (3, 1)]), (1, [(1, (-1)), (6, 1)]), (1, [(7, (-1))]), (1, [(2, 1), (7, (-1))]), ((-1), [(2, (-1)), (7, 1)]), (0, [])], [(1, 0), (2, 1), (0, 4), (3, 5), (4, 6)], (0, [])), [], [qR_woBnow])])]
noncomputable def qt_cWatnow_R : List (Nat × List sQ) := []
noncomputable def qt_cWatnow_Q : List sQ := []
theorem qt_cWatnow_e : qChk 24 qt_cWatnow [] [qR_wpnow] qt_cWatnow_L qt_cWatnow_R qt_cWatnow_Q = true := by decide +kernel
noncomputable def qt_cClrnow_L : List (Nat × List qAp) := [(17, [(([(0, 66), (1, 7)], [(0, 2, (0, [])), (2, 1060, (0, [])), (2, 56, (0, [])), (2, 6006000000000000612060, (0, [(2, 1)])), (2, 6006000000000000613061, (0, [(2, 1)])), (2, 6006000000000000614062, (0, [(2, 1)])), (2, 6006000000000000615063, (0, [(2, 1)])), (2, 608059, (0, [])), (2, 6000000000000612060, (0, [])), (2, 6000000000000613061, (0, [])), (2, 6000000000000614062, (0, [])), (2, 6000000000000615063, (0, [])), (2, 66, (9, [])), (2, 66, (10, [])), (2, 66, (11, [])), (2, 614, (0, [])), (2, 615, (0, [])), (2, 616, (0, []))], [(0, 6), (1, 1), (2, 6), (0, 0), (0, 0), (0, 0), (0, 0), (0, 6), (0, 6), (0, 6), (0, 6), (0, 6), (0, 0), (0, 0), (0, 0), (0, 0), (0, 0), (0, 0)], [(0, [(0, 1), (2, (-1))]), (0, [(0, (-1)), (7, 1)]), (0, [(0, 1), (7, (-1))]), (0, [(0, (-1)), (8, 1)]), (0, [(0, 1), (8, (-1))]), (0, [(0, (-1)), (9, 1)]), (0, [(0, 1), (9, (-1))]), (0, [(0, (-1)), (10, 1)]), (0, [(0, 1), (10, (-1))]), (0, [(0, (-1)), (11, 1)]), (0, [(0, 1), (11, (-1))]), (0, [])], [(0, 1), (1, 2)], (0, [])), [], [])])]
noncomputable def qt_cClrnow_R : List (Nat × List sQ) := [(28, [qR_innow])]
noncomputable def qt_cClrnow_Q : List sQ := [qt_cWatnow]
theorem qt_cClrnow_e : qChk 47 qt_cClrnow [] [qR_in0now, qR_emnow] qt_cClrnow_L qt_cClrnow_R qt_cClrnow_Q = true := by decide +kernel
noncomputable def qt_cDrmnow_L : List (Nat × List qAp) := []
noncomputable def qt_cDrmnow_R : List (Nat × List sQ) := []
noncomputable def qt_cDrmnow_Q : List sQ := [qt_cHas, qt_cWor]
theorem qt_cDrmnow_e : qChk 81 qt_cDrmnow [] [qR_ndnow, qR_dbnow, qR_drnow] qt_cDrmnow_L qt_cDrmnow_R qt_cDrmnow_Q = true := by decide +kernel
noncomputable def qt_mOf_L : List (Nat × List qAp) := []
noncomputable def qt_mOf_R : List (Nat × List sQ) := []
noncomputable def qt_mOf_Q : List sQ := []
theorem qt_mOf_e : qChk 18 qt_mOf [] [] qt_mOf_L qt_mOf_R qt_mOf_Q = true := by decide +kernel
noncomputable def qt_mIn_L : List (Nat × List qAp) := []
noncomputable def qt_mIn_R : List (Nat × List sQ) := []
noncomputable def qt_mIn_Q : List sQ := []
theorem qt_mIn_e : qChk 18 qt_mIn [] [] qt_mIn_L qt_mIn_R qt_mIn_Q = true := by decide +kernel
noncomputable def qt_mHs_L : List (Nat × List qAp) := []
noncomputable def qt_mHs_R : List (Nat × List sQ) := []
noncomputable def qt_mHs_Q : List sQ := []
theorem qt_mHs_e : qChk 19 qt_mHs [] [qR_an] qt_mHs_L qt_mHs_R qt_mHs_Q = true := by decide +kernel
noncomputable def qt_mMan_L : List (Nat × List qAp) := [(2, [(([(0, 120)], [(0, 1, (0, [])), (0, 2, (0, [])), (2, 1064, (0, [])), (2, 120, (22, [])), (2, 621, (0, [(0, 1)]))], [(0, 5), (0, 6), (1, 1), (2, 6), (0, 5)], [(1, [(0, 1), (3, (-1))]), (0, [(1, 1), (4, (-1))]), (1, [(1, 1), (3, (-1))]), (1, [(3, (-1)), (4, 1)]), (0, [])], [(1, 0), (0, 2), (2, 3), (3, 4)], (0, [])), [], [qR_mo])])]
noncomputable def qt_mMan_R : List (Nat × List sQ) := []
noncomputable def qt_mMan_Q : List sQ := []
theorem qt_mMan_e : qChk 24 qt_mMan [] [qR_mo0] qt_mMan_L qt_mMan_R qt_mMan_Q = true := by decide +kernel
noncomputable def qt_mWat_L : List (Nat × List qAp) := []
noncomputable def qt_mWat_R : List (Nat × List sQ) := []
noncomputable def qt_mWat_Q : List sQ := [qt_mMan]
theorem qt_mWat_e : qChk 26 qt_mWat [] [qR_wm] qt_mWat_L qt_mWat_R qt_mWat_Q = true := by decide +kernel
noncomputable def qt_J9_min_L : List (Nat × List qAp) := []
noncomputable def qt_J9_min_R : List (Nat × List sQ) := []
noncomputable def qt_J9_min_Q : List sQ := []
theorem qt_J9_min_e : qChk 15 qt_J9_min [] [] qt_J9_min_L qt_J9_min_R qt_J9_min_Q = true := by decide +kernel
noncomputable def qt_J9_max_L : List (Nat × List qAp) := []
noncomputable def qt_J9_max_R : List (Nat × List sQ) := []
noncomputable def qt_J9_max_Q : List sQ := []
theorem qt_J9_max_e : qChk 15 qt_J9_max [] [] qt_J9_max_L qt_J9_max_R qt_J9_max_Q = true := by decide +kernel
noncomputable def qt_mBed_L : List (Nat × List qAp) := []
noncomputable def qt_mBed_R : List (Nat × List sQ) := []
noncomputable def qt_mBed_Q : List sQ := [qt_mOf, qt_mIn]
theorem qt_mBed_e : qChk 31 qt_mBed [] [qR_bd] qt_mBed_L qt_mBed_R qt_mBed_Q = true := by decide +kernel
noncomputable def qt_mDrm_L : List (Nat × List qAp) := []
noncomputable def qt_mDrm_R : List (Nat × List sQ) := []
noncomputable def qt_mDrm_Q : List sQ := [qt_mWat, qt_J9_min, qt_J9_max, qt_mWor]
theorem qt_mDrm_e : qChk 96 qt_mDrm [] [qR_ndm, qR_dbm, qR_drm] qt_mDrm_L qt_mDrm_R qt_mDrm_Q = true := by decide +kernel
