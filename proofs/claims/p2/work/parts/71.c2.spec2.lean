/-! what feed tells -/
set_option maxHeartbeats 1000000 in
theorem pe_cFeedA {h h' : zH} {a b c d e : Int32} {x : Int32} {m dq : Nat} (z : Int) (hG : sG pReg pG h) (hb0 : (0 : Int) ≤ z ∧ z ≤ 239) (hb1 : (1 : Int) ≤ (pgv 21 h) ∧ (pgv 21 h) ≤ 1) (hb2 : ((-2147483648) : Int) ≤ a.toInt ∧ a.toInt ≤ 2147483647) (hb3 : ((-2147483648) : Int) ≤ b.toInt ∧ b.toInt ≤ 2147483647) (hb4 : ((-2147483648) : Int) ≤ c.toInt ∧ c.toInt ≤ 2147483647) (hb5 : ((-2147483648) : Int) ≤ d.toInt ∧ d.toInt ≤ 2147483647) (hb6 : ((-2147483648) : Int) ≤ e.toInt ∧ e.toInt ≤ 2147483647) (hb7 : (0 : Int) ≤ (h.1 544 0).toInt ∧ (h.1 544 0).toInt ≤ 255) (hb8 : (0 : Int) ≤ (h.1 544 1).toInt ∧ (h.1 544 1).toInt ≤ 255) (hb9 : (0 : Int) ≤ (h.1 544 2).toInt ∧ (h.1 544 2).toInt ≤ 255) (hb10 : (0 : Int) ≤ (h.1 544 3).toInt ∧ (h.1 544 3).toInt ≤ 255) (hb11 : (0 : Int) ≤ (h.1 545 0).toInt ∧ (h.1 545 0).toInt ≤ 1) (hb12 : (0 : Int) ≤ (h.1 544 4).toInt ∧ (h.1 544 4).toInt ≤ 255) (hb13 : (0 : Int) ≤ (h.1 544 5).toInt ∧ (h.1 544 5).toInt ≤ 255) (hb14 : (0 : Int) ≤ (h.1 544 6).toInt ∧ (h.1 544 6).toInt ≤ 255) (hb15 : (0 : Int) ≤ (h.1 544 7).toInt ∧ (h.1 544 7).toInt ≤ 255) (hb16 : (0 : Int) ≤ (h.1 545 1).toInt ∧ (h.1 545 1).toInt ≤ 1) (hb17 : (0 : Int) ≤ (h.1 544 8).toInt ∧ (h.1 544 8).toInt ≤ 255) (hb18 : (0 : Int) ≤ (h.1 544 9).toInt ∧ (h.1 544 9).toInt ≤ 255) (hb19 : (0 : Int) ≤ (h.1 544 10).toInt ∧ (h.1 544 10).toInt ≤ 255) (hb20 : (0 : Int) ≤ (h.1 544 11).toInt ∧ (h.1 544 11).toInt ≤ 255) (hb21 : (0 : Int) ≤ (h.1 545 2).toInt ∧ (h.1 545 2).toInt ≤ 1) (hb22 : (0 : Int) ≤ (h.1 544 12).toInt ∧ (h.1 544 12).toInt ≤ 255) (hb23 : (0 : Int) ≤ (h.1 544 13).toInt ∧ (h.1 544 13).toInt ≤ 255) (hb24 : (0 : Int) ≤ (h.1 544 14).toInt ∧ (h.1 544 14).toInt ≤ 255) (hb25 : (0 : Int) ≤ (h.1 544 15).toInt ∧ (h.1 544 15).toInt ≤ 255) (hb26 : (0 : Int) ≤ (h.1 545 3).toInt ∧ (h.1 545 3).toInt ≤ 1) (hb27 : (0 : Int) ≤ (h.1 544 16).toInt ∧ (h.1 544 16).toInt ≤ 255) (hb28 : (0 : Int) ≤ (h.1 544 17).toInt ∧ (h.1 544 17).toInt ≤ 255) (hb29 : (0 : Int) ≤ (h.1 544 18).toInt ∧ (h.1 544 18).toInt ≤ 255) (hb30 : (0 : Int) ≤ (h.1 544 19).toInt ∧ (h.1 544 19).toInt ≤ 255) (hb31 : (0 : Int) ≤ (h.1 545 4).toInt ∧ (h.1 545 4).toInt ≤ 1) (hb32 : (0 : Int) ≤ (h.1 546 0).toInt ∧ (h.1 546 0).toInt ≤ 260) (hb33 : (0 : Int) ≤ (h.1 546 4).toInt ∧ (h.1 546 4).toInt ≤ 260) (hb34 : (0 : Int) ≤ (h.1 546 8).toInt ∧ (h.1 546 8).toInt ≤ 260) (hb35 : (0 : Int) ≤ (h.1 546 12).toInt ∧ (h.1 546 12).toInt ≤ 260) (hb36 : (0 : Int) ≤ (h.1 546 16).toInt ∧ (h.1 546 16).toInt ≤ 260) (hb37 : (0 : Int) ≤ (h.1 546 20).toInt ∧ (h.1 546 20).toInt ≤ 260) (hb38 : (0 : Int) ≤ (h.1 353 1).toInt ∧ (h.1 353 1).toInt ≤ 240) (hb39 : (0 : Int) ≤ (h.1 547 ((0 + (1 * z + 0) : Int)).toNat).toInt ∧ (h.1 547 ((0 + (1 * z + 0) : Int)).toNat).toInt ≤ 255) (hb40 : (0 : Int) ≤ (h.1 352 ((0 + (1 * z + 0) : Int)).toNat).toInt ∧ (h.1 352 ((0 + (1 * z + 0) : Int)).toNat).toInt ≤ 255) (hc0 : (0 + (1 * a.toInt + ((-16777216) * (h.1 544 0).toInt + ((-65536) * (h.1 544 1).toInt + ((-256) * (h.1 544 2).toInt + ((-1) * (h.1 544 3).toInt + (4294967296 * (h.1 545 0).toInt + 0)))))) : Int) ≤ 0) (hc1 : (0 + ((-1) * a.toInt + (16777216 * (h.1 544 0).toInt + (65536 * (h.1 544 1).toInt + (256 * (h.1 544 2).toInt + (1 * (h.1 544 3).toInt + ((-4294967296) * (h.1 545 0).toInt + 0)))))) : Int) ≤ 0) (hc2 : (0 + (1 * b.toInt + ((-16777216) * (h.1 544 4).toInt + ((-65536) * (h.1 544 5).toInt + ((-256) * (h.1 544 6).toInt + ((-1) * (h.1 544 7).toInt + (4294967296 * (h.1 545 1).toInt + 0)))))) : Int) ≤ 0) (hc3 : (0 + ((-1) * b.toInt + (16777216 * (h.1 544 4).toInt + (65536 * (h.1 544 5).toInt + (256 * (h.1 544 6).toInt + (1 * (h.1 544 7).toInt + ((-4294967296) * (h.1 545 1).toInt + 0)))))) : Int) ≤ 0) (hc4 : (0 + (1 * c.toInt + ((-16777216) * (h.1 544 8).toInt + ((-65536) * (h.1 544 9).toInt + ((-256) * (h.1 544 10).toInt + ((-1) * (h.1 544 11).toInt + (4294967296 * (h.1 545 2).toInt + 0)))))) : Int) ≤ 0) (hc5 : (0 + ((-1) * c.toInt + (16777216 * (h.1 544 8).toInt + (65536 * (h.1 544 9).toInt + (256 * (h.1 544 10).toInt + (1 * (h.1 544 11).toInt + ((-4294967296) * (h.1 545 2).toInt + 0)))))) : Int) ≤ 0) (hc6 : (0 + (1 * d.toInt + ((-16777216) * (h.1 544 12).toInt + ((-65536) * (h.1 544 13).toInt + ((-256) * (h.1 544 14).toInt + ((-1) * (h.1 544 15).toInt + (4294967296 * (h.1 545 3).toInt + 0)))))) : Int) ≤ 0) (hc7 : (0 + ((-1) * d.toInt + (16777216 * (h.1 544 12).toInt + (65536 * (h.1 544 13).toInt + (256 * (h.1 544 14).toInt + (1 * (h.1 544 15).toInt + ((-4294967296) * (h.1 545 3).toInt + 0)))))) : Int) ≤ 0) (hc8 : (0 + (1 * e.toInt + ((-16777216) * (h.1 544 16).toInt + ((-65536) * (h.1 544 17).toInt + ((-256) * (h.1 544 18).toInt + ((-1) * (h.1 544 19).toInt + (4294967296 * (h.1 545 4).toInt + 0)))))) : Int) ≤ 0) (hc9 : (0 + ((-1) * e.toInt + (16777216 * (h.1 544 16).toInt + (65536 * (h.1 544 17).toInt + (256 * (h.1 544 18).toInt + (1 * (h.1 544 19).toInt + ((-4294967296) * (h.1 545 4).toInt + 0)))))) : Int) ≤ 0) (hc10 : (0 + ((-1) * (h.1 546 0).toInt + (1 * (h.1 353 1).toInt + 0)) : Int) ≤ 0) (hc11 : (0 + (1 * (h.1 546 0).toInt + ((-1) * (h.1 353 1).toInt + 0)) : Int) ≤ 0) (hc12 : (1 + (1 * z + ((-1) * (h.1 353 1).toInt + 0)) : Int) ≤ 0) (hc13 : (0 + ((-1) * (h.1 547 ((0 + (1 * z + 0) : Int)).toNat).toInt + (1 * (h.1 352 ((0 + (1 * z + 0) : Int)).toNat).toInt + 0)) : Int) ≤ 0) (hc14 : (0 + (1 * (h.1 547 ((0 + (1 * z + 0) : Int)).toNat).toInt + ((-1) * (h.1 352 ((0 + (1 * z + 0) : Int)).toNat).toInt + 0)) : Int) ≤ 0) (hrun : yrun m dq 52 [.inr (.inr 406), .inl a, .inl b, .inl c, .inl d, .inl e] h = some (some (.inl x), h')) : sG pReg pG h' ∧ sF pReg [(41, 1, 1), (40, 0, 239)] h h' ∧ ((x.toInt = ((-1) + 0 : Int) ∧ (h'.1 353 1).toInt = (0 + (1 * (h.1 353 1).toInt + 0) : Int) ∧ (h'.1 352 ((0 + (1 * z + 0) : Int)).toNat).toInt = (0 + (1 * (h.1 547 ((0 + (1 * z + 0) : Int)).toNat).toInt + 0) : Int) ∧ (241 + ((-1) * (h.1 546 20).toInt + 0) : Int) ≤ 0) ∨ (x.toInt = (0 + (1 * (h.1 546 20).toInt + 0) : Int) ∧ (h'.1 353 1).toInt = (0 + (1 * (h.1 546 20).toInt + 0) : Int) ∧ (h'.1 352 ((0 + (1 * z + 0) : Int)).toNat).toInt = (0 + (1 * (h.1 547 ((0 + (1 * z + 0) : Int)).toNat).toInt + 0) : Int) ∧ ((-240) + (1 * (h.1 546 20).toInt + 0) : Int) ≤ 0 ∧ (0 + ((-1) * (h.1 546 20).toInt + (1 * (h.1 353 1).toInt + 0)) : Int) ≤ 0)) := by
  have hM : sMt pReg pgv (pL [z, (pgv 21 h), a.toInt, b.toInt, c.toInt, d.toInt, e.toInt, (h.1 544 0).toInt, (h.1 544 1).toInt, (h.1 544 2).toInt, (h.1 544 3).toInt, (h.1 545 0).toInt, (h.1 544 4).toInt, (h.1 544 5).toInt, (h.1 544 6).toInt, (h.1 544 7).toInt, (h.1 545 1).toInt, (h.1 544 8).toInt, (h.1 544 9).toInt, (h.1 544 10).toInt, (h.1 544 11).toInt, (h.1 545 2).toInt, (h.1 544 12).toInt, (h.1 544 13).toInt, (h.1 544 14).toInt, (h.1 544 15).toInt, (h.1 545 3).toInt, (h.1 544 16).toInt, (h.1 544 17).toInt, (h.1 544 18).toInt, (h.1 544 19).toInt, (h.1 545 4).toInt, (h.1 546 0).toInt, (h.1 546 4).toInt, (h.1 546 8).toInt, (h.1 546 12).toInt, (h.1 546 16).toInt, (h.1 546 20).toInt, (h.1 353 1).toInt, (h.1 547 ((0 + (1 * z + 0) : Int)).toNat).toInt, (h.1 352 ((0 + (1 * z + 0) : Int)).toNat).toInt]) (pL0 [z, (pgv 21 h), a.toInt, b.toInt, c.toInt, d.toInt, e.toInt, (h.1 544 0).toInt, (h.1 544 1).toInt, (h.1 544 2).toInt, (h.1 544 3).toInt, (h.1 545 0).toInt, (h.1 544 4).toInt, (h.1 544 5).toInt, (h.1 544 6).toInt, (h.1 544 7).toInt, (h.1 545 1).toInt, (h.1 544 8).toInt, (h.1 544 9).toInt, (h.1 544 10).toInt, (h.1 544 11).toInt, (h.1 545 2).toInt, (h.1 544 12).toInt, (h.1 544 13).toInt, (h.1 544 14).toInt, (h.1 544 15).toInt, (h.1 545 3).toInt, (h.1 544 16).toInt, (h.1 544 17).toInt, (h.1 544 18).toInt, (h.1 544 19).toInt, (h.1 545 4).toInt, (h.1 546 0).toInt, (h.1 546 4).toInt, (h.1 546 8).toInt, (h.1 546 12).toInt, (h.1 546 16).toInt, (h.1 546 20).toInt, (h.1 353 1).toInt, (h.1 547 ((0 + (1 * z + 0) : Int)).toNat).toInt, (h.1 352 ((0 + (1 * z + 0) : Int)).toNat).toInt]) (sAs tcFeedA.2.1) (zent 0 [.inr (.inr 406), .inl a, .inl b, .inl c, .inl d, .inl e]) [] h := pmkk (ya1 ⟨406, rfl, by decide +kernel⟩ ya0) (ya1 trivial (ya1 (show pgv 21 h = sv (pL [z, (pgv 21 h), a.toInt, b.toInt, c.toInt, d.toInt, e.toInt, (h.1 544 0).toInt, (h.1 544 1).toInt, (h.1 544 2).toInt, (h.1 544 3).toInt, (h.1 545 0).toInt, (h.1 544 4).toInt, (h.1 544 5).toInt, (h.1 544 6).toInt, (h.1 544 7).toInt, (h.1 545 1).toInt, (h.1 544 8).toInt, (h.1 544 9).toInt, (h.1 544 10).toInt, (h.1 544 11).toInt, (h.1 545 2).toInt, (h.1 544 12).toInt, (h.1 544 13).toInt, (h.1 544 14).toInt, (h.1 544 15).toInt, (h.1 545 3).toInt, (h.1 544 16).toInt, (h.1 544 17).toInt, (h.1 544 18).toInt, (h.1 544 19).toInt, (h.1 545 4).toInt, (h.1 546 0).toInt, (h.1 546 4).toInt, (h.1 546 8).toInt, (h.1 546 12).toInt, (h.1 546 16).toInt, (h.1 546 20).toInt, (h.1 353 1).toInt, (h.1 547 ((0 + (1 * z + 0) : Int)).toNat).toInt, (h.1 352 ((0 + (1 * z + 0) : Int)).toNat).toInt]) (sY 1) by rw [sY_v]; rfl) (ya1 ⟨_, rfl, rfl⟩ (ya1 ⟨_, rfl, rfl⟩ (ya1 ⟨_, rfl, rfl⟩ (ya1 ⟨_, rfl, rfl⟩ (ya1 ⟨_, rfl, rfl⟩ (ya1 (psm_p (k := 544) (by decide) (by decide +kernel) (by decide +kernel) 0 rfl (by rw [sY_v]; rfl)) (ya1 (psm_p (k := 544) (by decide) (by decide +kernel) (by decide +kernel) 1 rfl (by rw [sY_v]; rfl)) (ya1 (psm_p (k := 544) (by decide) (by decide +kernel) (by decide +kernel) 2 rfl (by rw [sY_v]; rfl)) (ya1 (psm_p (k := 544) (by decide) (by decide +kernel) (by decide +kernel) 3 rfl (by rw [sY_v]; rfl)) (ya1 (psm_p (k := 545) (by decide) (by decide +kernel) (by decide +kernel) 0 rfl (by rw [sY_v]; rfl)) (ya1 (psm_p (k := 544) (by decide) (by decide +kernel) (by decide +kernel) 4 rfl (by rw [sY_v]; rfl)) (ya1 (psm_p (k := 544) (by decide) (by decide +kernel) (by decide +kernel) 5 rfl (by rw [sY_v]; rfl)) (ya1 (psm_p (k := 544) (by decide) (by decide +kernel) (by decide +kernel) 6 rfl (by rw [sY_v]; rfl)) (ya1 (psm_p (k := 544) (by decide) (by decide +kernel) (by decide +kernel) 7 rfl (by rw [sY_v]; rfl)) (ya1 (psm_p (k := 545) (by decide) (by decide +kernel) (by decide +kernel) 1 rfl (by rw [sY_v]; rfl)) (ya1 (psm_p (k := 544) (by decide) (by decide +kernel) (by decide +kernel) 8 rfl (by rw [sY_v]; rfl)) (ya1 (psm_p (k := 544) (by decide) (by decide +kernel) (by decide +kernel) 9 rfl (by rw [sY_v]; rfl)) (ya1 (psm_p (k := 544) (by decide) (by decide +kernel) (by decide +kernel) 10 rfl (by rw [sY_v]; rfl)) (ya1 (psm_p (k := 544) (by decide) (by decide +kernel) (by decide +kernel) 11 rfl (by rw [sY_v]; rfl)) (ya1 (psm_p (k := 545) (by decide) (by decide +kernel) (by decide +kernel) 2 rfl (by rw [sY_v]; rfl)) (ya1 (psm_p (k := 544) (by decide) (by decide +kernel) (by decide +kernel) 12 rfl (by rw [sY_v]; rfl)) (ya1 (psm_p (k := 544) (by decide) (by decide +kernel) (by decide +kernel) 13 rfl (by rw [sY_v]; rfl)) (ya1 (psm_p (k := 544) (by decide) (by decide +kernel) (by decide +kernel) 14 rfl (by rw [sY_v]; rfl)) (ya1 (psm_p (k := 544) (by decide) (by decide +kernel) (by decide +kernel) 15 rfl (by rw [sY_v]; rfl)) (ya1 (psm_p (k := 545) (by decide) (by decide +kernel) (by decide +kernel) 3 rfl (by rw [sY_v]; rfl)) (ya1 (psm_p (k := 544) (by decide) (by decide +kernel) (by decide +kernel) 16 rfl (by rw [sY_v]; rfl)) (ya1 (psm_p (k := 544) (by decide) (by decide +kernel) (by decide +kernel) 17 rfl (by rw [sY_v]; rfl)) (ya1 (psm_p (k := 544) (by decide) (by decide +kernel) (by decide +kernel) 18 rfl (by rw [sY_v]; rfl)) (ya1 (psm_p (k := 544) (by decide) (by decide +kernel) (by decide +kernel) 19 rfl (by rw [sY_v]; rfl)) (ya1 (psm_p (k := 545) (by decide) (by decide +kernel) (by decide +kernel) 4 rfl (by rw [sY_v]; rfl)) (ya1 (psm_p (k := 546) (by decide) (by decide +kernel) (by decide +kernel) 0 rfl (by rw [sY_v]; rfl)) (ya1 (psm_p (k := 546) (by decide) (by decide +kernel) (by decide +kernel) 4 rfl (by rw [sY_v]; rfl)) (ya1 (psm_p (k := 546) (by decide) (by decide +kernel) (by decide +kernel) 8 rfl (by rw [sY_v]; rfl)) (ya1 (psm_p (k := 546) (by decide) (by decide +kernel) (by decide +kernel) 12 rfl (by rw [sY_v]; rfl)) (ya1 (psm_p (k := 546) (by decide) (by decide +kernel) (by decide +kernel) 16 rfl (by rw [sY_v]; rfl)) (ya1 (psm_p (k := 546) (by decide) (by decide +kernel) (by decide +kernel) 20 rfl (by rw [sY_v]; rfl)) (ya1 (psm_p (k := 353) (by decide) (by decide +kernel) (by decide +kernel) 1 rfl (by rw [sY_v]; rfl)) (ya1 (psm_p (k := 547) (by decide) (by decide +kernel) (by decide +kernel) ((0 + (1 * z + 0) : Int)).toNat (by show (0 + (1 * z + 0) : Int) = _; omega) (by rw [sY_v]; rfl)) (ya1 (psm_p (k := 352) (by decide) (by decide +kernel) (by decide +kernel) ((0 + (1 * z + 0) : Int)).toNat (by show (0 + (1 * z + 0) : Int) = _; omega) (by rw [sY_v]; rfl)) (ya0)))))))))))))))))))))))))))))))))))))))))) (ya1 hb0 (ya1 hb1 (ya1 hb2 (ya1 hb3 (ya1 hb4 (ya1 hb5 (ya1 hb6 (ya1 hb7 (ya1 hb8 (ya1 hb9 (ya1 hb10 (ya1 hb11 (ya1 hb12 (ya1 hb13 (ya1 hb14 (ya1 hb15 (ya1 hb16 (ya1 hb17 (ya1 hb18 (ya1 hb19 (ya1 hb20 (ya1 hb21 (ya1 hb22 (ya1 hb23 (ya1 hb24 (ya1 hb25 (ya1 hb26 (ya1 hb27 (ya1 hb28 (ya1 hb29 (ya1 hb30 (ya1 hb31 (ya1 hb32 (ya1 hb33 (ya1 hb34 (ya1 hb35 (ya1 hb36 (ya1 hb37 (ya1 hb38 (ya1 hb39 (ya1 hb40 (ya0)))))))))))))))))))))))))))))))))))))))))) (ya1 hc0 (ya1 hc1 (ya1 hc2 (ya1 hc3 (ya1 hc4 (ya1 hc5 (ya1 hc6 (ya1 hc7 (ya1 hc8 (ya1 hc9 (ya1 hc10 (ya1 hc11 (ya1 hc12 (ya1 hc13 (ya1 hc14 (ya1 (show (0 + 0 : Int) ≤ 0 by decide) (ya0))))))))))))))))) (ya1 rfl (ya1 rfl (ya1 rfl (ya1 rfl (ya1 rfl (ya1 rfl (ya1 rfl (ya1 rfl (ya1 rfl (ya1 rfl (ya1 rfl (ya1 rfl (ya1 rfl (ya1 rfl (ya1 rfl (ya1 rfl (ya1 rfl (ya1 rfl (ya1 rfl (ya1 rfl (ya1 rfl (ya1 rfl (ya1 rfl (ya1 rfl (ya1 rfl (ya1 rfl (ya1 rfl (ya1 rfl (ya1 rfl (ya1 rfl (ya1 rfl (ya1 rfl (ya1 rfl (ya1 rfl (ya1 rfl (ya1 rfl (ya1 rfl (ya1 rfl (ya1 rfl (ya1 rfl (ya1 rfl (ya0)))))))))))))))))))))))))))))))))))))))))) rfl
  obtain ⟨g1, g2, hx⟩ := pGo tcFeedA_ok hG hM hrun
  refine ⟨g1, g2, ?_⟩
  refine pone hx (ya1 ?_ (ya1 ?_ (ya0)))
  · intro hE
    obtain ⟨ρx, eQ, -, ⟨k0, -⟩, ⟨m0, m1, -⟩, hr⟩ := pexU hE
    have e0 : ρx 0 = z := eQ 0 (by decide)
    have e1 : ρx 1 = (pgv 21 h) := eQ 1 (by decide)
    have e2 : ρx 2 = a.toInt := eQ 2 (by decide)
    have e3 : ρx 3 = b.toInt := eQ 3 (by decide)
    have e4 : ρx 4 = c.toInt := eQ 4 (by decide)
    have e5 : ρx 5 = d.toInt := eQ 5 (by decide)
    have e6 : ρx 6 = e.toInt := eQ 6 (by decide)
    have e7 : ρx 7 = (h.1 544 0).toInt := eQ 7 (by decide)
    have e8 : ρx 8 = (h.1 544 1).toInt := eQ 8 (by decide)
    have e9 : ρx 9 = (h.1 544 2).toInt := eQ 9 (by decide)
    have e10 : ρx 10 = (h.1 544 3).toInt := eQ 10 (by decide)
    have e11 : ρx 11 = (h.1 545 0).toInt := eQ 11 (by decide)
    have e12 : ρx 12 = (h.1 544 4).toInt := eQ 12 (by decide)
    have e13 : ρx 13 = (h.1 544 5).toInt := eQ 13 (by decide)
    have e14 : ρx 14 = (h.1 544 6).toInt := eQ 14 (by decide)
    have e15 : ρx 15 = (h.1 544 7).toInt := eQ 15 (by decide)
    have e16 : ρx 16 = (h.1 545 1).toInt := eQ 16 (by decide)
    have e17 : ρx 17 = (h.1 544 8).toInt := eQ 17 (by decide)
    have e18 : ρx 18 = (h.1 544 9).toInt := eQ 18 (by decide)
    have e19 : ρx 19 = (h.1 544 10).toInt := eQ 19 (by decide)
    have e20 : ρx 20 = (h.1 544 11).toInt := eQ 20 (by decide)
    have e21 : ρx 21 = (h.1 545 2).toInt := eQ 21 (by decide)
    have e22 : ρx 22 = (h.1 544 12).toInt := eQ 22 (by decide)
    have e23 : ρx 23 = (h.1 544 13).toInt := eQ 23 (by decide)
    have e24 : ρx 24 = (h.1 544 14).toInt := eQ 24 (by decide)
    have e25 : ρx 25 = (h.1 544 15).toInt := eQ 25 (by decide)
    have e26 : ρx 26 = (h.1 545 3).toInt := eQ 26 (by decide)
    have e27 : ρx 27 = (h.1 544 16).toInt := eQ 27 (by decide)
    have e28 : ρx 28 = (h.1 544 17).toInt := eQ 28 (by decide)
    have e29 : ρx 29 = (h.1 544 18).toInt := eQ 29 (by decide)
    have e30 : ρx 30 = (h.1 544 19).toInt := eQ 30 (by decide)
    have e31 : ρx 31 = (h.1 545 4).toInt := eQ 31 (by decide)
    have e32 : ρx 32 = (h.1 546 0).toInt := eQ 32 (by decide)
    have e33 : ρx 33 = (h.1 546 4).toInt := eQ 33 (by decide)
    have e34 : ρx 34 = (h.1 546 8).toInt := eQ 34 (by decide)
    have e35 : ρx 35 = (h.1 546 12).toInt := eQ 35 (by decide)
    have e36 : ρx 36 = (h.1 546 16).toInt := eQ 36 (by decide)
    have e37 : ρx 37 = (h.1 546 20).toInt := eQ 37 (by decide)
    have e38 : ρx 38 = (h.1 353 1).toInt := eQ 38 (by decide)
    have e39 : ρx 39 = (h.1 547 ((0 + (1 * z + 0) : Int)).toNat).toInt := eQ 39 (by decide)
    have e40 : ρx 40 = (h.1 352 ((0 + (1 * z + 0) : Int)).toNat).toInt := eQ 40 (by decide)
    have hr : x.toInt = ((-1) + 0 : Int) := hr
    have m0 : (h'.1 353 1).toInt = (0 + (1 * ρx 38 + 0) : Int) := psm_u (k := 353) (by decide) (by decide +kernel) m0 (1) rfl
    have m1 : (h'.1 352 ((0 + (1 * z + 0) : Int)).toNat).toInt = (0 + (1 * ρx 39 + 0) : Int) := psm_u (k := 352) (by decide) (by decide +kernel) m1 (((0 + (1 * z + 0) : Int)).toNat) (by show (0 + (1 * ρx 0 + 0) : Int) = _; rw [e0]; omega)
    have k0 : (241 + ((-1) * ρx 37 + 0) : Int) ≤ 0 := k0
    rw [e37] at k0
    exact Or.inl ⟨(by rw [hr]), (m0.trans (by rw [e38])), (m1.trans (by rw [e39])), k0⟩
  · intro hE
    obtain ⟨ρx, eQ, -, ⟨k0, k1, -⟩, ⟨m0, m1, -⟩, hr⟩ := pexU hE
    have e0 : ρx 0 = z := eQ 0 (by decide)
    have e1 : ρx 1 = (pgv 21 h) := eQ 1 (by decide)
    have e2 : ρx 2 = a.toInt := eQ 2 (by decide)
    have e3 : ρx 3 = b.toInt := eQ 3 (by decide)
    have e4 : ρx 4 = c.toInt := eQ 4 (by decide)
    have e5 : ρx 5 = d.toInt := eQ 5 (by decide)
    have e6 : ρx 6 = e.toInt := eQ 6 (by decide)
    have e7 : ρx 7 = (h.1 544 0).toInt := eQ 7 (by decide)
    have e8 : ρx 8 = (h.1 544 1).toInt := eQ 8 (by decide)
    have e9 : ρx 9 = (h.1 544 2).toInt := eQ 9 (by decide)
    have e10 : ρx 10 = (h.1 544 3).toInt := eQ 10 (by decide)
    have e11 : ρx 11 = (h.1 545 0).toInt := eQ 11 (by decide)
    have e12 : ρx 12 = (h.1 544 4).toInt := eQ 12 (by decide)
    have e13 : ρx 13 = (h.1 544 5).toInt := eQ 13 (by decide)
    have e14 : ρx 14 = (h.1 544 6).toInt := eQ 14 (by decide)
    have e15 : ρx 15 = (h.1 544 7).toInt := eQ 15 (by decide)
    have e16 : ρx 16 = (h.1 545 1).toInt := eQ 16 (by decide)
    have e17 : ρx 17 = (h.1 544 8).toInt := eQ 17 (by decide)
    have e18 : ρx 18 = (h.1 544 9).toInt := eQ 18 (by decide)
    have e19 : ρx 19 = (h.1 544 10).toInt := eQ 19 (by decide)
    have e20 : ρx 20 = (h.1 544 11).toInt := eQ 20 (by decide)
    have e21 : ρx 21 = (h.1 545 2).toInt := eQ 21 (by decide)
    have e22 : ρx 22 = (h.1 544 12).toInt := eQ 22 (by decide)
    have e23 : ρx 23 = (h.1 544 13).toInt := eQ 23 (by decide)
    have e24 : ρx 24 = (h.1 544 14).toInt := eQ 24 (by decide)
    have e25 : ρx 25 = (h.1 544 15).toInt := eQ 25 (by decide)
    have e26 : ρx 26 = (h.1 545 3).toInt := eQ 26 (by decide)
    have e27 : ρx 27 = (h.1 544 16).toInt := eQ 27 (by decide)
    have e28 : ρx 28 = (h.1 544 17).toInt := eQ 28 (by decide)
    have e29 : ρx 29 = (h.1 544 18).toInt := eQ 29 (by decide)
    have e30 : ρx 30 = (h.1 544 19).toInt := eQ 30 (by decide)
    have e31 : ρx 31 = (h.1 545 4).toInt := eQ 31 (by decide)
    have e32 : ρx 32 = (h.1 546 0).toInt := eQ 32 (by decide)
    have e33 : ρx 33 = (h.1 546 4).toInt := eQ 33 (by decide)
    have e34 : ρx 34 = (h.1 546 8).toInt := eQ 34 (by decide)
    have e35 : ρx 35 = (h.1 546 12).toInt := eQ 35 (by decide)
    have e36 : ρx 36 = (h.1 546 16).toInt := eQ 36 (by decide)
    have e37 : ρx 37 = (h.1 546 20).toInt := eQ 37 (by decide)
    have e38 : ρx 38 = (h.1 353 1).toInt := eQ 38 (by decide)
    have e39 : ρx 39 = (h.1 547 ((0 + (1 * z + 0) : Int)).toNat).toInt := eQ 39 (by decide)
    have e40 : ρx 40 = (h.1 352 ((0 + (1 * z + 0) : Int)).toNat).toInt := eQ 40 (by decide)
    have hr : x.toInt = (0 + (1 * ρx 37 + 0) : Int) := hr
    have m0 : (h'.1 353 1).toInt = (0 + (1 * ρx 37 + 0) : Int) := psm_u (k := 353) (by decide) (by decide +kernel) m0 (1) rfl
    have m1 : (h'.1 352 ((0 + (1 * z + 0) : Int)).toNat).toInt = (0 + (1 * ρx 39 + 0) : Int) := psm_u (k := 352) (by decide) (by decide +kernel) m1 (((0 + (1 * z + 0) : Int)).toNat) (by show (0 + (1 * ρx 0 + 0) : Int) = _; rw [e0]; omega)
    have k0 : ((-240) + (1 * ρx 37 + 0) : Int) ≤ 0 := k0
    rw [e37] at k0
    have k1 : (0 + ((-1) * ρx 37 + (1 * ρx 38 + 0)) : Int) ≤ 0 := k1
    rw [e37, e38] at k1
    exact Or.inr (⟨(by rw [hr, e37]), (m0.trans (by rw [e37])), (m1.trans (by rw [e39])), k0, k1⟩)
set_option maxHeartbeats 1000000 in
theorem pe_cFeedB {h h' : zH} {a b c d e : Int32} {x : Int32} {m dq : Nat} (z : Int) (hG : sG pReg pG h) (hb0 : (0 : Int) ≤ z ∧ z ≤ 239) (hb1 : (1 : Int) ≤ (pgv 21 h) ∧ (pgv 21 h) ≤ 1) (hb2 : ((-2147483648) : Int) ≤ a.toInt ∧ a.toInt ≤ 2147483647) (hb3 : ((-2147483648) : Int) ≤ b.toInt ∧ b.toInt ≤ 2147483647) (hb4 : ((-2147483648) : Int) ≤ c.toInt ∧ c.toInt ≤ 2147483647) (hb5 : ((-2147483648) : Int) ≤ d.toInt ∧ d.toInt ≤ 2147483647) (hb6 : ((-2147483648) : Int) ≤ e.toInt ∧ e.toInt ≤ 2147483647) (hb7 : (0 : Int) ≤ (h.1 544 0).toInt ∧ (h.1 544 0).toInt ≤ 255) (hb8 : (0 : Int) ≤ (h.1 544 1).toInt ∧ (h.1 544 1).toInt ≤ 255) (hb9 : (0 : Int) ≤ (h.1 544 2).toInt ∧ (h.1 544 2).toInt ≤ 255) (hb10 : (0 : Int) ≤ (h.1 544 3).toInt ∧ (h.1 544 3).toInt ≤ 255) (hb11 : (0 : Int) ≤ (h.1 545 0).toInt ∧ (h.1 545 0).toInt ≤ 1) (hb12 : (0 : Int) ≤ (h.1 544 4).toInt ∧ (h.1 544 4).toInt ≤ 255) (hb13 : (0 : Int) ≤ (h.1 544 5).toInt ∧ (h.1 544 5).toInt ≤ 255) (hb14 : (0 : Int) ≤ (h.1 544 6).toInt ∧ (h.1 544 6).toInt ≤ 255) (hb15 : (0 : Int) ≤ (h.1 544 7).toInt ∧ (h.1 544 7).toInt ≤ 255) (hb16 : (0 : Int) ≤ (h.1 545 1).toInt ∧ (h.1 545 1).toInt ≤ 1) (hb17 : (0 : Int) ≤ (h.1 544 8).toInt ∧ (h.1 544 8).toInt ≤ 255) (hb18 : (0 : Int) ≤ (h.1 544 9).toInt ∧ (h.1 544 9).toInt ≤ 255) (hb19 : (0 : Int) ≤ (h.1 544 10).toInt ∧ (h.1 544 10).toInt ≤ 255) (hb20 : (0 : Int) ≤ (h.1 544 11).toInt ∧ (h.1 544 11).toInt ≤ 255) (hb21 : (0 : Int) ≤ (h.1 545 2).toInt ∧ (h.1 545 2).toInt ≤ 1) (hb22 : (0 : Int) ≤ (h.1 544 12).toInt ∧ (h.1 544 12).toInt ≤ 255) (hb23 : (0 : Int) ≤ (h.1 544 13).toInt ∧ (h.1 544 13).toInt ≤ 255) (hb24 : (0 : Int) ≤ (h.1 544 14).toInt ∧ (h.1 544 14).toInt ≤ 255) (hb25 : (0 : Int) ≤ (h.1 544 15).toInt ∧ (h.1 544 15).toInt ≤ 255) (hb26 : (0 : Int) ≤ (h.1 545 3).toInt ∧ (h.1 545 3).toInt ≤ 1) (hb27 : (0 : Int) ≤ (h.1 544 16).toInt ∧ (h.1 544 16).toInt ≤ 255) (hb28 : (0 : Int) ≤ (h.1 544 17).toInt ∧ (h.1 544 17).toInt ≤ 255) (hb29 : (0 : Int) ≤ (h.1 544 18).toInt ∧ (h.1 544 18).toInt ≤ 255) (hb30 : (0 : Int) ≤ (h.1 544 19).toInt ∧ (h.1 544 19).toInt ≤ 255) (hb31 : (0 : Int) ≤ (h.1 545 4).toInt ∧ (h.1 545 4).toInt ≤ 1) (hb32 : (0 : Int) ≤ (h.1 546 0).toInt ∧ (h.1 546 0).toInt ≤ 260) (hb33 : (0 : Int) ≤ (h.1 546 4).toInt ∧ (h.1 546 4).toInt ≤ 260) (hb34 : (0 : Int) ≤ (h.1 546 8).toInt ∧ (h.1 546 8).toInt ≤ 260) (hb35 : (0 : Int) ≤ (h.1 546 12).toInt ∧ (h.1 546 12).toInt ≤ 260) (hb36 : (0 : Int) ≤ (h.1 546 16).toInt ∧ (h.1 546 16).toInt ≤ 260) (hb37 : (0 : Int) ≤ (h.1 546 20).toInt ∧ (h.1 546 20).toInt ≤ 260) (hb38 : (0 : Int) ≤ (h.1 353 1).toInt ∧ (h.1 353 1).toInt ≤ 240) (hb39 : (0 : Int) ≤ (h.1 547 ((0 + (1 * z + 0) : Int)).toNat).toInt ∧ (h.1 547 ((0 + (1 * z + 0) : Int)).toNat).toInt ≤ 255) (hc0 : (0 + (1 * a.toInt + ((-16777216) * (h.1 544 0).toInt + ((-65536) * (h.1 544 1).toInt + ((-256) * (h.1 544 2).toInt + ((-1) * (h.1 544 3).toInt + (4294967296 * (h.1 545 0).toInt + 0)))))) : Int) ≤ 0) (hc1 : (0 + ((-1) * a.toInt + (16777216 * (h.1 544 0).toInt + (65536 * (h.1 544 1).toInt + (256 * (h.1 544 2).toInt + (1 * (h.1 544 3).toInt + ((-4294967296) * (h.1 545 0).toInt + 0)))))) : Int) ≤ 0) (hc2 : (0 + (1 * b.toInt + ((-16777216) * (h.1 544 4).toInt + ((-65536) * (h.1 544 5).toInt + ((-256) * (h.1 544 6).toInt + ((-1) * (h.1 544 7).toInt + (4294967296 * (h.1 545 1).toInt + 0)))))) : Int) ≤ 0) (hc3 : (0 + ((-1) * b.toInt + (16777216 * (h.1 544 4).toInt + (65536 * (h.1 544 5).toInt + (256 * (h.1 544 6).toInt + (1 * (h.1 544 7).toInt + ((-4294967296) * (h.1 545 1).toInt + 0)))))) : Int) ≤ 0) (hc4 : (0 + (1 * c.toInt + ((-16777216) * (h.1 544 8).toInt + ((-65536) * (h.1 544 9).toInt + ((-256) * (h.1 544 10).toInt + ((-1) * (h.1 544 11).toInt + (4294967296 * (h.1 545 2).toInt + 0)))))) : Int) ≤ 0) (hc5 : (0 + ((-1) * c.toInt + (16777216 * (h.1 544 8).toInt + (65536 * (h.1 544 9).toInt + (256 * (h.1 544 10).toInt + (1 * (h.1 544 11).toInt + ((-4294967296) * (h.1 545 2).toInt + 0)))))) : Int) ≤ 0) (hc6 : (0 + (1 * d.toInt + ((-16777216) * (h.1 544 12).toInt + ((-65536) * (h.1 544 13).toInt + ((-256) * (h.1 544 14).toInt + ((-1) * (h.1 544 15).toInt + (4294967296 * (h.1 545 3).toInt + 0)))))) : Int) ≤ 0) (hc7 : (0 + ((-1) * d.toInt + (16777216 * (h.1 544 12).toInt + (65536 * (h.1 544 13).toInt + (256 * (h.1 544 14).toInt + (1 * (h.1 544 15).toInt + ((-4294967296) * (h.1 545 3).toInt + 0)))))) : Int) ≤ 0) (hc8 : (0 + (1 * e.toInt + ((-16777216) * (h.1 544 16).toInt + ((-65536) * (h.1 544 17).toInt + ((-256) * (h.1 544 18).toInt + ((-1) * (h.1 544 19).toInt + (4294967296 * (h.1 545 4).toInt + 0)))))) : Int) ≤ 0) (hc9 : (0 + ((-1) * e.toInt + (16777216 * (h.1 544 16).toInt + (65536 * (h.1 544 17).toInt + (256 * (h.1 544 18).toInt + (1 * (h.1 544 19).toInt + ((-4294967296) * (h.1 545 4).toInt + 0)))))) : Int) ≤ 0) (hc10 : (0 + ((-1) * (h.1 546 0).toInt + (1 * (h.1 353 1).toInt + 0)) : Int) ≤ 0) (hc11 : (0 + (1 * (h.1 546 0).toInt + ((-1) * (h.1 353 1).toInt + 0)) : Int) ≤ 0) (hc12 : (0 + ((-1) * z + (1 * (h.1 353 1).toInt + 0)) : Int) ≤ 0) (hrun : yrun m dq 52 [.inr (.inr 406), .inl a, .inl b, .inl c, .inl d, .inl e] h = some (some (.inl x), h')) : sG pReg pG h' ∧ sF pReg [(41, 1, 1), (40, 0, 239)] h h' ∧ ((x.toInt = ((-1) + 0 : Int) ∧ (h'.1 353 1).toInt = (0 + (1 * (h.1 353 1).toInt + 0) : Int) ∧ (241 + ((-1) * (h.1 546 20).toInt + 0) : Int) ≤ 0) ∨ (x.toInt = (0 + (1 * (h.1 546 20).toInt + 0) : Int) ∧ (h'.1 353 1).toInt = (0 + (1 * (h.1 546 20).toInt + 0) : Int) ∧ (h'.1 352 ((0 + (1 * z + 0) : Int)).toNat).toInt = (0 + (1 * (h.1 547 ((0 + (1 * z + 0) : Int)).toNat).toInt + 0) : Int) ∧ ((-240) + (1 * (h.1 546 20).toInt + 0) : Int) ≤ 0 ∧ (0 + ((-1) * (h.1 546 20).toInt + (1 * (h.1 353 1).toInt + 0)) : Int) ≤ 0 ∧ (1 + (1 * z + ((-1) * (h.1 546 20).toInt + 0)) : Int) ≤ 0) ∨ (x.toInt = (0 + (1 * (h.1 546 20).toInt + 0) : Int) ∧ (h'.1 353 1).toInt = (0 + (1 * (h.1 546 20).toInt + 0) : Int) ∧ ((-240) + (1 * (h.1 546 20).toInt + 0) : Int) ≤ 0 ∧ (0 + ((-1) * (h.1 546 20).toInt + (1 * (h.1 353 1).toInt + 0)) : Int) ≤ 0 ∧ (0 + ((-1) * z + (1 * (h.1 546 20).toInt + 0)) : Int) ≤ 0)) := by
  have hM : sMt pReg pgv (pL [z, (pgv 21 h), a.toInt, b.toInt, c.toInt, d.toInt, e.toInt, (h.1 544 0).toInt, (h.1 544 1).toInt, (h.1 544 2).toInt, (h.1 544 3).toInt, (h.1 545 0).toInt, (h.1 544 4).toInt, (h.1 544 5).toInt, (h.1 544 6).toInt, (h.1 544 7).toInt, (h.1 545 1).toInt, (h.1 544 8).toInt, (h.1 544 9).toInt, (h.1 544 10).toInt, (h.1 544 11).toInt, (h.1 545 2).toInt, (h.1 544 12).toInt, (h.1 544 13).toInt, (h.1 544 14).toInt, (h.1 544 15).toInt, (h.1 545 3).toInt, (h.1 544 16).toInt, (h.1 544 17).toInt, (h.1 544 18).toInt, (h.1 544 19).toInt, (h.1 545 4).toInt, (h.1 546 0).toInt, (h.1 546 4).toInt, (h.1 546 8).toInt, (h.1 546 12).toInt, (h.1 546 16).toInt, (h.1 546 20).toInt, (h.1 353 1).toInt, (h.1 547 ((0 + (1 * z + 0) : Int)).toNat).toInt]) (pL0 [z, (pgv 21 h), a.toInt, b.toInt, c.toInt, d.toInt, e.toInt, (h.1 544 0).toInt, (h.1 544 1).toInt, (h.1 544 2).toInt, (h.1 544 3).toInt, (h.1 545 0).toInt, (h.1 544 4).toInt, (h.1 544 5).toInt, (h.1 544 6).toInt, (h.1 544 7).toInt, (h.1 545 1).toInt, (h.1 544 8).toInt, (h.1 544 9).toInt, (h.1 544 10).toInt, (h.1 544 11).toInt, (h.1 545 2).toInt, (h.1 544 12).toInt, (h.1 544 13).toInt, (h.1 544 14).toInt, (h.1 544 15).toInt, (h.1 545 3).toInt, (h.1 544 16).toInt, (h.1 544 17).toInt, (h.1 544 18).toInt, (h.1 544 19).toInt, (h.1 545 4).toInt, (h.1 546 0).toInt, (h.1 546 4).toInt, (h.1 546 8).toInt, (h.1 546 12).toInt, (h.1 546 16).toInt, (h.1 546 20).toInt, (h.1 353 1).toInt, (h.1 547 ((0 + (1 * z + 0) : Int)).toNat).toInt]) (sAs tcFeedB.2.1) (zent 0 [.inr (.inr 406), .inl a, .inl b, .inl c, .inl d, .inl e]) [] h := pmkk (ya1 ⟨406, rfl, by decide +kernel⟩ ya0) (ya1 trivial (ya1 (show pgv 21 h = sv (pL [z, (pgv 21 h), a.toInt, b.toInt, c.toInt, d.toInt, e.toInt, (h.1 544 0).toInt, (h.1 544 1).toInt, (h.1 544 2).toInt, (h.1 544 3).toInt, (h.1 545 0).toInt, (h.1 544 4).toInt, (h.1 544 5).toInt, (h.1 544 6).toInt, (h.1 544 7).toInt, (h.1 545 1).toInt, (h.1 544 8).toInt, (h.1 544 9).toInt, (h.1 544 10).toInt, (h.1 544 11).toInt, (h.1 545 2).toInt, (h.1 544 12).toInt, (h.1 544 13).toInt, (h.1 544 14).toInt, (h.1 544 15).toInt, (h.1 545 3).toInt, (h.1 544 16).toInt, (h.1 544 17).toInt, (h.1 544 18).toInt, (h.1 544 19).toInt, (h.1 545 4).toInt, (h.1 546 0).toInt, (h.1 546 4).toInt, (h.1 546 8).toInt, (h.1 546 12).toInt, (h.1 546 16).toInt, (h.1 546 20).toInt, (h.1 353 1).toInt, (h.1 547 ((0 + (1 * z + 0) : Int)).toNat).toInt]) (sY 1) by rw [sY_v]; rfl) (ya1 ⟨_, rfl, rfl⟩ (ya1 ⟨_, rfl, rfl⟩ (ya1 ⟨_, rfl, rfl⟩ (ya1 ⟨_, rfl, rfl⟩ (ya1 ⟨_, rfl, rfl⟩ (ya1 (psm_p (k := 544) (by decide) (by decide +kernel) (by decide +kernel) 0 rfl (by rw [sY_v]; rfl)) (ya1 (psm_p (k := 544) (by decide) (by decide +kernel) (by decide +kernel) 1 rfl (by rw [sY_v]; rfl)) (ya1 (psm_p (k := 544) (by decide) (by decide +kernel) (by decide +kernel) 2 rfl (by rw [sY_v]; rfl)) (ya1 (psm_p (k := 544) (by decide) (by decide +kernel) (by decide +kernel) 3 rfl (by rw [sY_v]; rfl)) (ya1 (psm_p (k := 545) (by decide) (by decide +kernel) (by decide +kernel) 0 rfl (by rw [sY_v]; rfl)) (ya1 (psm_p (k := 544) (by decide) (by decide +kernel) (by decide +kernel) 4 rfl (by rw [sY_v]; rfl)) (ya1 (psm_p (k := 544) (by decide) (by decide +kernel) (by decide +kernel) 5 rfl (by rw [sY_v]; rfl)) (ya1 (psm_p (k := 544) (by decide) (by decide +kernel) (by decide +kernel) 6 rfl (by rw [sY_v]; rfl)) (ya1 (psm_p (k := 544) (by decide) (by decide +kernel) (by decide +kernel) 7 rfl (by rw [sY_v]; rfl)) (ya1 (psm_p (k := 545) (by decide) (by decide +kernel) (by decide +kernel) 1 rfl (by rw [sY_v]; rfl)) (ya1 (psm_p (k := 544) (by decide) (by decide +kernel) (by decide +kernel) 8 rfl (by rw [sY_v]; rfl)) (ya1 (psm_p (k := 544) (by decide) (by decide +kernel) (by decide +kernel) 9 rfl (by rw [sY_v]; rfl)) (ya1 (psm_p (k := 544) (by decide) (by decide +kernel) (by decide +kernel) 10 rfl (by rw [sY_v]; rfl)) (ya1 (psm_p (k := 544) (by decide) (by decide +kernel) (by decide +kernel) 11 rfl (by rw [sY_v]; rfl)) (ya1 (psm_p (k := 545) (by decide) (by decide +kernel) (by decide +kernel) 2 rfl (by rw [sY_v]; rfl)) (ya1 (psm_p (k := 544) (by decide) (by decide +kernel) (by decide +kernel) 12 rfl (by rw [sY_v]; rfl)) (ya1 (psm_p (k := 544) (by decide) (by decide +kernel) (by decide +kernel) 13 rfl (by rw [sY_v]; rfl)) (ya1 (psm_p (k := 544) (by decide) (by decide +kernel) (by decide +kernel) 14 rfl (by rw [sY_v]; rfl)) (ya1 (psm_p (k := 544) (by decide) (by decide +kernel) (by decide +kernel) 15 rfl (by rw [sY_v]; rfl)) (ya1 (psm_p (k := 545) (by decide) (by decide +kernel) (by decide +kernel) 3 rfl (by rw [sY_v]; rfl)) (ya1 (psm_p (k := 544) (by decide) (by decide +kernel) (by decide +kernel) 16 rfl (by rw [sY_v]; rfl)) (ya1 (psm_p (k := 544) (by decide) (by decide +kernel) (by decide +kernel) 17 rfl (by rw [sY_v]; rfl)) (ya1 (psm_p (k := 544) (by decide) (by decide +kernel) (by decide +kernel) 18 rfl (by rw [sY_v]; rfl)) (ya1 (psm_p (k := 544) (by decide) (by decide +kernel) (by decide +kernel) 19 rfl (by rw [sY_v]; rfl)) (ya1 (psm_p (k := 545) (by decide) (by decide +kernel) (by decide +kernel) 4 rfl (by rw [sY_v]; rfl)) (ya1 (psm_p (k := 546) (by decide) (by decide +kernel) (by decide +kernel) 0 rfl (by rw [sY_v]; rfl)) (ya1 (psm_p (k := 546) (by decide) (by decide +kernel) (by decide +kernel) 4 rfl (by rw [sY_v]; rfl)) (ya1 (psm_p (k := 546) (by decide) (by decide +kernel) (by decide +kernel) 8 rfl (by rw [sY_v]; rfl)) (ya1 (psm_p (k := 546) (by decide) (by decide +kernel) (by decide +kernel) 12 rfl (by rw [sY_v]; rfl)) (ya1 (psm_p (k := 546) (by decide) (by decide +kernel) (by decide +kernel) 16 rfl (by rw [sY_v]; rfl)) (ya1 (psm_p (k := 546) (by decide) (by decide +kernel) (by decide +kernel) 20 rfl (by rw [sY_v]; rfl)) (ya1 (psm_p (k := 353) (by decide) (by decide +kernel) (by decide +kernel) 1 rfl (by rw [sY_v]; rfl)) (ya1 (psm_p (k := 547) (by decide) (by decide +kernel) (by decide +kernel) ((0 + (1 * z + 0) : Int)).toNat (by show (0 + (1 * z + 0) : Int) = _; omega) (by rw [sY_v]; rfl)) (ya0))))))))))))))))))))))))))))))))))))))))) (ya1 hb0 (ya1 hb1 (ya1 hb2 (ya1 hb3 (ya1 hb4 (ya1 hb5 (ya1 hb6 (ya1 hb7 (ya1 hb8 (ya1 hb9 (ya1 hb10 (ya1 hb11 (ya1 hb12 (ya1 hb13 (ya1 hb14 (ya1 hb15 (ya1 hb16 (ya1 hb17 (ya1 hb18 (ya1 hb19 (ya1 hb20 (ya1 hb21 (ya1 hb22 (ya1 hb23 (ya1 hb24 (ya1 hb25 (ya1 hb26 (ya1 hb27 (ya1 hb28 (ya1 hb29 (ya1 hb30 (ya1 hb31 (ya1 hb32 (ya1 hb33 (ya1 hb34 (ya1 hb35 (ya1 hb36 (ya1 hb37 (ya1 hb38 (ya1 hb39 (ya0))))))))))))))))))))))))))))))))))))))))) (ya1 hc0 (ya1 hc1 (ya1 hc2 (ya1 hc3 (ya1 hc4 (ya1 hc5 (ya1 hc6 (ya1 hc7 (ya1 hc8 (ya1 hc9 (ya1 hc10 (ya1 hc11 (ya1 hc12 (ya1 (show (0 + 0 : Int) ≤ 0 by decide) (ya0))))))))))))))) (ya1 rfl (ya1 rfl (ya1 rfl (ya1 rfl (ya1 rfl (ya1 rfl (ya1 rfl (ya1 rfl (ya1 rfl (ya1 rfl (ya1 rfl (ya1 rfl (ya1 rfl (ya1 rfl (ya1 rfl (ya1 rfl (ya1 rfl (ya1 rfl (ya1 rfl (ya1 rfl (ya1 rfl (ya1 rfl (ya1 rfl (ya1 rfl (ya1 rfl (ya1 rfl (ya1 rfl (ya1 rfl (ya1 rfl (ya1 rfl (ya1 rfl (ya1 rfl (ya1 rfl (ya1 rfl (ya1 rfl (ya1 rfl (ya1 rfl (ya1 rfl (ya1 rfl (ya1 rfl (ya0))))))))))))))))))))))))))))))))))))))))) rfl
  obtain ⟨g1, g2, hx⟩ := pGo tcFeedB_ok hG hM hrun
  refine ⟨g1, g2, ?_⟩
  refine pone hx (ya1 ?_ (ya1 ?_ (ya1 ?_ (ya0))))
  · intro hE
    obtain ⟨ρx, eQ, -, ⟨k0, -⟩, ⟨m0, -⟩, hr⟩ := pexU hE
    have e0 : ρx 0 = z := eQ 0 (by decide)
    have e1 : ρx 1 = (pgv 21 h) := eQ 1 (by decide)
    have e2 : ρx 2 = a.toInt := eQ 2 (by decide)
    have e3 : ρx 3 = b.toInt := eQ 3 (by decide)
    have e4 : ρx 4 = c.toInt := eQ 4 (by decide)
    have e5 : ρx 5 = d.toInt := eQ 5 (by decide)
    have e6 : ρx 6 = e.toInt := eQ 6 (by decide)
    have e7 : ρx 7 = (h.1 544 0).toInt := eQ 7 (by decide)
    have e8 : ρx 8 = (h.1 544 1).toInt := eQ 8 (by decide)
    have e9 : ρx 9 = (h.1 544 2).toInt := eQ 9 (by decide)
    have e10 : ρx 10 = (h.1 544 3).toInt := eQ 10 (by decide)
    have e11 : ρx 11 = (h.1 545 0).toInt := eQ 11 (by decide)
    have e12 : ρx 12 = (h.1 544 4).toInt := eQ 12 (by decide)
    have e13 : ρx 13 = (h.1 544 5).toInt := eQ 13 (by decide)
    have e14 : ρx 14 = (h.1 544 6).toInt := eQ 14 (by decide)
    have e15 : ρx 15 = (h.1 544 7).toInt := eQ 15 (by decide)
    have e16 : ρx 16 = (h.1 545 1).toInt := eQ 16 (by decide)
    have e17 : ρx 17 = (h.1 544 8).toInt := eQ 17 (by decide)
    have e18 : ρx 18 = (h.1 544 9).toInt := eQ 18 (by decide)
    have e19 : ρx 19 = (h.1 544 10).toInt := eQ 19 (by decide)
    have e20 : ρx 20 = (h.1 544 11).toInt := eQ 20 (by decide)
    have e21 : ρx 21 = (h.1 545 2).toInt := eQ 21 (by decide)
    have e22 : ρx 22 = (h.1 544 12).toInt := eQ 22 (by decide)
    have e23 : ρx 23 = (h.1 544 13).toInt := eQ 23 (by decide)
    have e24 : ρx 24 = (h.1 544 14).toInt := eQ 24 (by decide)
    have e25 : ρx 25 = (h.1 544 15).toInt := eQ 25 (by decide)
    have e26 : ρx 26 = (h.1 545 3).toInt := eQ 26 (by decide)
    have e27 : ρx 27 = (h.1 544 16).toInt := eQ 27 (by decide)
    have e28 : ρx 28 = (h.1 544 17).toInt := eQ 28 (by decide)
    have e29 : ρx 29 = (h.1 544 18).toInt := eQ 29 (by decide)
    have e30 : ρx 30 = (h.1 544 19).toInt := eQ 30 (by decide)
    have e31 : ρx 31 = (h.1 545 4).toInt := eQ 31 (by decide)
    have e32 : ρx 32 = (h.1 546 0).toInt := eQ 32 (by decide)
    have e33 : ρx 33 = (h.1 546 4).toInt := eQ 33 (by decide)
    have e34 : ρx 34 = (h.1 546 8).toInt := eQ 34 (by decide)
    have e35 : ρx 35 = (h.1 546 12).toInt := eQ 35 (by decide)
    have e36 : ρx 36 = (h.1 546 16).toInt := eQ 36 (by decide)
    have e37 : ρx 37 = (h.1 546 20).toInt := eQ 37 (by decide)
    have e38 : ρx 38 = (h.1 353 1).toInt := eQ 38 (by decide)
    have e39 : ρx 39 = (h.1 547 ((0 + (1 * z + 0) : Int)).toNat).toInt := eQ 39 (by decide)
    have hr : x.toInt = ((-1) + 0 : Int) := hr
    have m0 : (h'.1 353 1).toInt = (0 + (1 * ρx 38 + 0) : Int) := psm_u (k := 353) (by decide) (by decide +kernel) m0 (1) rfl
    have k0 : (241 + ((-1) * ρx 37 + 0) : Int) ≤ 0 := k0
    rw [e37] at k0
    exact Or.inl ⟨(by rw [hr]), (m0.trans (by rw [e38])), k0⟩
  · intro hE
    obtain ⟨ρx, eQ, -, ⟨k0, k1, k2, -⟩, ⟨m0, m1, -⟩, hr⟩ := pexU hE
    have e0 : ρx 0 = z := eQ 0 (by decide)
    have e1 : ρx 1 = (pgv 21 h) := eQ 1 (by decide)
    have e2 : ρx 2 = a.toInt := eQ 2 (by decide)
    have e3 : ρx 3 = b.toInt := eQ 3 (by decide)
    have e4 : ρx 4 = c.toInt := eQ 4 (by decide)
    have e5 : ρx 5 = d.toInt := eQ 5 (by decide)
    have e6 : ρx 6 = e.toInt := eQ 6 (by decide)
    have e7 : ρx 7 = (h.1 544 0).toInt := eQ 7 (by decide)
    have e8 : ρx 8 = (h.1 544 1).toInt := eQ 8 (by decide)
    have e9 : ρx 9 = (h.1 544 2).toInt := eQ 9 (by decide)
    have e10 : ρx 10 = (h.1 544 3).toInt := eQ 10 (by decide)
    have e11 : ρx 11 = (h.1 545 0).toInt := eQ 11 (by decide)
    have e12 : ρx 12 = (h.1 544 4).toInt := eQ 12 (by decide)
    have e13 : ρx 13 = (h.1 544 5).toInt := eQ 13 (by decide)
    have e14 : ρx 14 = (h.1 544 6).toInt := eQ 14 (by decide)
    have e15 : ρx 15 = (h.1 544 7).toInt := eQ 15 (by decide)
    have e16 : ρx 16 = (h.1 545 1).toInt := eQ 16 (by decide)
    have e17 : ρx 17 = (h.1 544 8).toInt := eQ 17 (by decide)
    have e18 : ρx 18 = (h.1 544 9).toInt := eQ 18 (by decide)
    have e19 : ρx 19 = (h.1 544 10).toInt := eQ 19 (by decide)
    have e20 : ρx 20 = (h.1 544 11).toInt := eQ 20 (by decide)
    have e21 : ρx 21 = (h.1 545 2).toInt := eQ 21 (by decide)
    have e22 : ρx 22 = (h.1 544 12).toInt := eQ 22 (by decide)
    have e23 : ρx 23 = (h.1 544 13).toInt := eQ 23 (by decide)
    have e24 : ρx 24 = (h.1 544 14).toInt := eQ 24 (by decide)
    have e25 : ρx 25 = (h.1 544 15).toInt := eQ 25 (by decide)
    have e26 : ρx 26 = (h.1 545 3).toInt := eQ 26 (by decide)
    have e27 : ρx 27 = (h.1 544 16).toInt := eQ 27 (by decide)
    have e28 : ρx 28 = (h.1 544 17).toInt := eQ 28 (by decide)
    have e29 : ρx 29 = (h.1 544 18).toInt := eQ 29 (by decide)
    have e30 : ρx 30 = (h.1 544 19).toInt := eQ 30 (by decide)
    have e31 : ρx 31 = (h.1 545 4).toInt := eQ 31 (by decide)
    have e32 : ρx 32 = (h.1 546 0).toInt := eQ 32 (by decide)
    have e33 : ρx 33 = (h.1 546 4).toInt := eQ 33 (by decide)
    have e34 : ρx 34 = (h.1 546 8).toInt := eQ 34 (by decide)
    have e35 : ρx 35 = (h.1 546 12).toInt := eQ 35 (by decide)
    have e36 : ρx 36 = (h.1 546 16).toInt := eQ 36 (by decide)
    have e37 : ρx 37 = (h.1 546 20).toInt := eQ 37 (by decide)
    have e38 : ρx 38 = (h.1 353 1).toInt := eQ 38 (by decide)
    have e39 : ρx 39 = (h.1 547 ((0 + (1 * z + 0) : Int)).toNat).toInt := eQ 39 (by decide)
    have hr : x.toInt = (0 + (1 * ρx 37 + 0) : Int) := hr
    have m0 : (h'.1 353 1).toInt = (0 + (1 * ρx 37 + 0) : Int) := psm_u (k := 353) (by decide) (by decide +kernel) m0 (1) rfl
    have m1 : (h'.1 352 ((0 + (1 * z + 0) : Int)).toNat).toInt = (0 + (1 * ρx 39 + 0) : Int) := psm_u (k := 352) (by decide) (by decide +kernel) m1 (((0 + (1 * z + 0) : Int)).toNat) (by show (0 + (1 * ρx 0 + 0) : Int) = _; rw [e0]; omega)
    have k0 : ((-240) + (1 * ρx 37 + 0) : Int) ≤ 0 := k0
    rw [e37] at k0
    have k1 : (0 + ((-1) * ρx 37 + (1 * ρx 38 + 0)) : Int) ≤ 0 := k1
    rw [e37, e38] at k1
    have k2 : (1 + (1 * ρx 0 + ((-1) * ρx 37 + 0)) : Int) ≤ 0 := k2
    rw [e0, e37] at k2
    exact Or.inr (Or.inl ⟨(by rw [hr, e37]), (m0.trans (by rw [e37])), (m1.trans (by rw [e39])), k0, k1, k2⟩)
  · intro hE
    obtain ⟨ρx, eQ, -, ⟨k0, k1, k2, -⟩, ⟨m0, -⟩, hr⟩ := pexU hE
    have e0 : ρx 0 = z := eQ 0 (by decide)
    have e1 : ρx 1 = (pgv 21 h) := eQ 1 (by decide)
    have e2 : ρx 2 = a.toInt := eQ 2 (by decide)
    have e3 : ρx 3 = b.toInt := eQ 3 (by decide)
    have e4 : ρx 4 = c.toInt := eQ 4 (by decide)
    have e5 : ρx 5 = d.toInt := eQ 5 (by decide)
    have e6 : ρx 6 = e.toInt := eQ 6 (by decide)
    have e7 : ρx 7 = (h.1 544 0).toInt := eQ 7 (by decide)
    have e8 : ρx 8 = (h.1 544 1).toInt := eQ 8 (by decide)
    have e9 : ρx 9 = (h.1 544 2).toInt := eQ 9 (by decide)
    have e10 : ρx 10 = (h.1 544 3).toInt := eQ 10 (by decide)
    have e11 : ρx 11 = (h.1 545 0).toInt := eQ 11 (by decide)
    have e12 : ρx 12 = (h.1 544 4).toInt := eQ 12 (by decide)
    have e13 : ρx 13 = (h.1 544 5).toInt := eQ 13 (by decide)
    have e14 : ρx 14 = (h.1 544 6).toInt := eQ 14 (by decide)
    have e15 : ρx 15 = (h.1 544 7).toInt := eQ 15 (by decide)
    have e16 : ρx 16 = (h.1 545 1).toInt := eQ 16 (by decide)
    have e17 : ρx 17 = (h.1 544 8).toInt := eQ 17 (by decide)
    have e18 : ρx 18 = (h.1 544 9).toInt := eQ 18 (by decide)
    have e19 : ρx 19 = (h.1 544 10).toInt := eQ 19 (by decide)
    have e20 : ρx 20 = (h.1 544 11).toInt := eQ 20 (by decide)
    have e21 : ρx 21 = (h.1 545 2).toInt := eQ 21 (by decide)
    have e22 : ρx 22 = (h.1 544 12).toInt := eQ 22 (by decide)
    have e23 : ρx 23 = (h.1 544 13).toInt := eQ 23 (by decide)
    have e24 : ρx 24 = (h.1 544 14).toInt := eQ 24 (by decide)
    have e25 : ρx 25 = (h.1 544 15).toInt := eQ 25 (by decide)
    have e26 : ρx 26 = (h.1 545 3).toInt := eQ 26 (by decide)
    have e27 : ρx 27 = (h.1 544 16).toInt := eQ 27 (by decide)
    have e28 : ρx 28 = (h.1 544 17).toInt := eQ 28 (by decide)
    have e29 : ρx 29 = (h.1 544 18).toInt := eQ 29 (by decide)
    have e30 : ρx 30 = (h.1 544 19).toInt := eQ 30 (by decide)
    have e31 : ρx 31 = (h.1 545 4).toInt := eQ 31 (by decide)
    have e32 : ρx 32 = (h.1 546 0).toInt := eQ 32 (by decide)
    have e33 : ρx 33 = (h.1 546 4).toInt := eQ 33 (by decide)
    have e34 : ρx 34 = (h.1 546 8).toInt := eQ 34 (by decide)
    have e35 : ρx 35 = (h.1 546 12).toInt := eQ 35 (by decide)
    have e36 : ρx 36 = (h.1 546 16).toInt := eQ 36 (by decide)
    have e37 : ρx 37 = (h.1 546 20).toInt := eQ 37 (by decide)
    have e38 : ρx 38 = (h.1 353 1).toInt := eQ 38 (by decide)
    have e39 : ρx 39 = (h.1 547 ((0 + (1 * z + 0) : Int)).toNat).toInt := eQ 39 (by decide)
    have hr : x.toInt = (0 + (1 * ρx 37 + 0) : Int) := hr
    have m0 : (h'.1 353 1).toInt = (0 + (1 * ρx 37 + 0) : Int) := psm_u (k := 353) (by decide) (by decide +kernel) m0 (1) rfl
    have k0 : ((-240) + (1 * ρx 37 + 0) : Int) ≤ 0 := k0
    rw [e37] at k0
    have k1 : (0 + ((-1) * ρx 37 + (1 * ρx 38 + 0)) : Int) ≤ 0 := k1
    rw [e37, e38] at k1
    have k2 : (0 + ((-1) * ρx 0 + (1 * ρx 37 + 0)) : Int) ≤ 0 := k2
    rw [e0, e37] at k2
    exact Or.inr (Or.inr (⟨(by rw [hr, e37]), (m0.trans (by rw [e37])), k0, k1, k2⟩))
set_option maxHeartbeats 1000000 in
theorem pe_mFeedA {h h' : zH} {a b c d e : Int32} {x : Int32} {m dq : Nat} (z : Int) (hG : sG pReg pG h) (hb0 : (0 : Int) ≤ z ∧ z ≤ 239) (hb1 : (1 : Int) ≤ (pgv 21 h) ∧ (pgv 21 h) ≤ 1) (hb2 : ((-2147483648) : Int) ≤ a.toInt ∧ a.toInt ≤ 2147483647) (hb3 : ((-2147483648) : Int) ≤ b.toInt ∧ b.toInt ≤ 2147483647) (hb4 : ((-2147483648) : Int) ≤ c.toInt ∧ c.toInt ≤ 2147483647) (hb5 : ((-2147483648) : Int) ≤ d.toInt ∧ d.toInt ≤ 2147483647) (hb6 : ((-2147483648) : Int) ≤ e.toInt ∧ e.toInt ≤ 2147483647) (hb7 : (0 : Int) ≤ (h.1 544 0).toInt ∧ (h.1 544 0).toInt ≤ 255) (hb8 : (0 : Int) ≤ (h.1 544 1).toInt ∧ (h.1 544 1).toInt ≤ 255) (hb9 : (0 : Int) ≤ (h.1 544 2).toInt ∧ (h.1 544 2).toInt ≤ 255) (hb10 : (0 : Int) ≤ (h.1 544 3).toInt ∧ (h.1 544 3).toInt ≤ 255) (hb11 : (0 : Int) ≤ (h.1 545 0).toInt ∧ (h.1 545 0).toInt ≤ 1) (hb12 : (0 : Int) ≤ (h.1 544 4).toInt ∧ (h.1 544 4).toInt ≤ 255) (hb13 : (0 : Int) ≤ (h.1 544 5).toInt ∧ (h.1 544 5).toInt ≤ 255) (hb14 : (0 : Int) ≤ (h.1 544 6).toInt ∧ (h.1 544 6).toInt ≤ 255) (hb15 : (0 : Int) ≤ (h.1 544 7).toInt ∧ (h.1 544 7).toInt ≤ 255) (hb16 : (0 : Int) ≤ (h.1 545 1).toInt ∧ (h.1 545 1).toInt ≤ 1) (hb17 : (0 : Int) ≤ (h.1 544 8).toInt ∧ (h.1 544 8).toInt ≤ 255) (hb18 : (0 : Int) ≤ (h.1 544 9).toInt ∧ (h.1 544 9).toInt ≤ 255) (hb19 : (0 : Int) ≤ (h.1 544 10).toInt ∧ (h.1 544 10).toInt ≤ 255) (hb20 : (0 : Int) ≤ (h.1 544 11).toInt ∧ (h.1 544 11).toInt ≤ 255) (hb21 : (0 : Int) ≤ (h.1 545 2).toInt ∧ (h.1 545 2).toInt ≤ 1) (hb22 : (0 : Int) ≤ (h.1 544 12).toInt ∧ (h.1 544 12).toInt ≤ 255) (hb23 : (0 : Int) ≤ (h.1 544 13).toInt ∧ (h.1 544 13).toInt ≤ 255) (hb24 : (0 : Int) ≤ (h.1 544 14).toInt ∧ (h.1 544 14).toInt ≤ 255) (hb25 : (0 : Int) ≤ (h.1 544 15).toInt ∧ (h.1 544 15).toInt ≤ 255) (hb26 : (0 : Int) ≤ (h.1 545 3).toInt ∧ (h.1 545 3).toInt ≤ 1) (hb27 : (0 : Int) ≤ (h.1 544 16).toInt ∧ (h.1 544 16).toInt ≤ 255) (hb28 : (0 : Int) ≤ (h.1 544 17).toInt ∧ (h.1 544 17).toInt ≤ 255) (hb29 : (0 : Int) ≤ (h.1 544 18).toInt ∧ (h.1 544 18).toInt ≤ 255) (hb30 : (0 : Int) ≤ (h.1 544 19).toInt ∧ (h.1 544 19).toInt ≤ 255) (hb31 : (0 : Int) ≤ (h.1 545 4).toInt ∧ (h.1 545 4).toInt ≤ 1) (hb32 : (0 : Int) ≤ (h.1 546 0).toInt ∧ (h.1 546 0).toInt ≤ 260) (hb33 : (0 : Int) ≤ (h.1 546 20).toInt ∧ (h.1 546 20).toInt ≤ 260) (hb34 : (0 : Int) ≤ (h.1 440 2).toInt ∧ (h.1 440 2).toInt ≤ 240) (hb35 : (0 : Int) ≤ (h.1 547 ((0 + (1 * z + 0) : Int)).toNat).toInt ∧ (h.1 547 ((0 + (1 * z + 0) : Int)).toNat).toInt ≤ 255) (hb36 : (0 : Int) ≤ (h.1 407 ((0 + (1 * z + 0) : Int)).toNat).toInt ∧ (h.1 407 ((0 + (1 * z + 0) : Int)).toNat).toInt ≤ 255) (hc0 : (0 + (1 * a.toInt + ((-16777216) * (h.1 544 0).toInt + ((-65536) * (h.1 544 1).toInt + ((-256) * (h.1 544 2).toInt + ((-1) * (h.1 544 3).toInt + (4294967296 * (h.1 545 0).toInt + 0)))))) : Int) ≤ 0) (hc1 : (0 + ((-1) * a.toInt + (16777216 * (h.1 544 0).toInt + (65536 * (h.1 544 1).toInt + (256 * (h.1 544 2).toInt + (1 * (h.1 544 3).toInt + ((-4294967296) * (h.1 545 0).toInt + 0)))))) : Int) ≤ 0) (hc2 : (0 + (1 * b.toInt + ((-16777216) * (h.1 544 4).toInt + ((-65536) * (h.1 544 5).toInt + ((-256) * (h.1 544 6).toInt + ((-1) * (h.1 544 7).toInt + (4294967296 * (h.1 545 1).toInt + 0)))))) : Int) ≤ 0) (hc3 : (0 + ((-1) * b.toInt + (16777216 * (h.1 544 4).toInt + (65536 * (h.1 544 5).toInt + (256 * (h.1 544 6).toInt + (1 * (h.1 544 7).toInt + ((-4294967296) * (h.1 545 1).toInt + 0)))))) : Int) ≤ 0) (hc4 : (0 + (1 * c.toInt + ((-16777216) * (h.1 544 8).toInt + ((-65536) * (h.1 544 9).toInt + ((-256) * (h.1 544 10).toInt + ((-1) * (h.1 544 11).toInt + (4294967296 * (h.1 545 2).toInt + 0)))))) : Int) ≤ 0) (hc5 : (0 + ((-1) * c.toInt + (16777216 * (h.1 544 8).toInt + (65536 * (h.1 544 9).toInt + (256 * (h.1 544 10).toInt + (1 * (h.1 544 11).toInt + ((-4294967296) * (h.1 545 2).toInt + 0)))))) : Int) ≤ 0) (hc6 : (0 + (1 * d.toInt + ((-16777216) * (h.1 544 12).toInt + ((-65536) * (h.1 544 13).toInt + ((-256) * (h.1 544 14).toInt + ((-1) * (h.1 544 15).toInt + (4294967296 * (h.1 545 3).toInt + 0)))))) : Int) ≤ 0) (hc7 : (0 + ((-1) * d.toInt + (16777216 * (h.1 544 12).toInt + (65536 * (h.1 544 13).toInt + (256 * (h.1 544 14).toInt + (1 * (h.1 544 15).toInt + ((-4294967296) * (h.1 545 3).toInt + 0)))))) : Int) ≤ 0) (hc8 : (0 + (1 * e.toInt + ((-16777216) * (h.1 544 16).toInt + ((-65536) * (h.1 544 17).toInt + ((-256) * (h.1 544 18).toInt + ((-1) * (h.1 544 19).toInt + (4294967296 * (h.1 545 4).toInt + 0)))))) : Int) ≤ 0) (hc9 : (0 + ((-1) * e.toInt + (16777216 * (h.1 544 16).toInt + (65536 * (h.1 544 17).toInt + (256 * (h.1 544 18).toInt + (1 * (h.1 544 19).toInt + ((-4294967296) * (h.1 545 4).toInt + 0)))))) : Int) ≤ 0) (hc10 : (0 + ((-1) * (h.1 546 0).toInt + (1 * (h.1 440 2).toInt + 0)) : Int) ≤ 0) (hc11 : (0 + (1 * (h.1 546 0).toInt + ((-1) * (h.1 440 2).toInt + 0)) : Int) ≤ 0) (hc12 : (1 + (1 * z + ((-1) * (h.1 440 2).toInt + 0)) : Int) ≤ 0) (hc13 : (0 + ((-1) * (h.1 547 ((0 + (1 * z + 0) : Int)).toNat).toInt + (1 * (h.1 407 ((0 + (1 * z + 0) : Int)).toNat).toInt + 0)) : Int) ≤ 0) (hc14 : (0 + (1 * (h.1 547 ((0 + (1 * z + 0) : Int)).toNat).toInt + ((-1) * (h.1 407 ((0 + (1 * z + 0) : Int)).toNat).toInt + 0)) : Int) ≤ 0) (hrun : yrun m dq 122 [.inr (.inr 440), .inl a, .inl b, .inl c, .inl d, .inl e] h = some (some (.inl x), h')) : sG pReg pG h' ∧ sF pReg [(120, 2, 2), (87, 0, 239)] h h' ∧ ((x.toInt = ((-1) + 0 : Int) ∧ (h'.1 440 2).toInt = (0 + (1 * (h.1 440 2).toInt + 0) : Int) ∧ (h'.1 407 ((0 + (1 * z + 0) : Int)).toNat).toInt = (0 + (1 * (h.1 547 ((0 + (1 * z + 0) : Int)).toNat).toInt + 0) : Int) ∧ (241 + ((-1) * (h.1 546 20).toInt + 0) : Int) ≤ 0) ∨ (x.toInt = (0 + (1 * (h.1 546 20).toInt + 0) : Int) ∧ (h'.1 440 2).toInt = (0 + (1 * (h.1 546 20).toInt + 0) : Int) ∧ (h'.1 407 ((0 + (1 * z + 0) : Int)).toNat).toInt = (0 + (1 * (h.1 547 ((0 + (1 * z + 0) : Int)).toNat).toInt + 0) : Int) ∧ ((-240) + (1 * (h.1 546 20).toInt + 0) : Int) ≤ 0 ∧ (0 + ((-1) * (h.1 546 20).toInt + (1 * (h.1 440 2).toInt + 0)) : Int) ≤ 0)) := by
  have hM : sMt pReg pgv (pL [z, (pgv 21 h), a.toInt, b.toInt, c.toInt, d.toInt, e.toInt, (h.1 544 0).toInt, (h.1 544 1).toInt, (h.1 544 2).toInt, (h.1 544 3).toInt, (h.1 545 0).toInt, (h.1 544 4).toInt, (h.1 544 5).toInt, (h.1 544 6).toInt, (h.1 544 7).toInt, (h.1 545 1).toInt, (h.1 544 8).toInt, (h.1 544 9).toInt, (h.1 544 10).toInt, (h.1 544 11).toInt, (h.1 545 2).toInt, (h.1 544 12).toInt, (h.1 544 13).toInt, (h.1 544 14).toInt, (h.1 544 15).toInt, (h.1 545 3).toInt, (h.1 544 16).toInt, (h.1 544 17).toInt, (h.1 544 18).toInt, (h.1 544 19).toInt, (h.1 545 4).toInt, (h.1 546 0).toInt, (h.1 546 20).toInt, (h.1 440 2).toInt, (h.1 547 ((0 + (1 * z + 0) : Int)).toNat).toInt, (h.1 407 ((0 + (1 * z + 0) : Int)).toNat).toInt]) (pL0 [z, (pgv 21 h), a.toInt, b.toInt, c.toInt, d.toInt, e.toInt, (h.1 544 0).toInt, (h.1 544 1).toInt, (h.1 544 2).toInt, (h.1 544 3).toInt, (h.1 545 0).toInt, (h.1 544 4).toInt, (h.1 544 5).toInt, (h.1 544 6).toInt, (h.1 544 7).toInt, (h.1 545 1).toInt, (h.1 544 8).toInt, (h.1 544 9).toInt, (h.1 544 10).toInt, (h.1 544 11).toInt, (h.1 545 2).toInt, (h.1 544 12).toInt, (h.1 544 13).toInt, (h.1 544 14).toInt, (h.1 544 15).toInt, (h.1 545 3).toInt, (h.1 544 16).toInt, (h.1 544 17).toInt, (h.1 544 18).toInt, (h.1 544 19).toInt, (h.1 545 4).toInt, (h.1 546 0).toInt, (h.1 546 20).toInt, (h.1 440 2).toInt, (h.1 547 ((0 + (1 * z + 0) : Int)).toNat).toInt, (h.1 407 ((0 + (1 * z + 0) : Int)).toNat).toInt]) (sAs tmFeedA.2.1) (zent 0 [.inr (.inr 440), .inl a, .inl b, .inl c, .inl d, .inl e]) [] h := pmkk (ya1 ⟨440, rfl, by decide +kernel⟩ ya0) (ya1 trivial (ya1 (show pgv 21 h = sv (pL [z, (pgv 21 h), a.toInt, b.toInt, c.toInt, d.toInt, e.toInt, (h.1 544 0).toInt, (h.1 544 1).toInt, (h.1 544 2).toInt, (h.1 544 3).toInt, (h.1 545 0).toInt, (h.1 544 4).toInt, (h.1 544 5).toInt, (h.1 544 6).toInt, (h.1 544 7).toInt, (h.1 545 1).toInt, (h.1 544 8).toInt, (h.1 544 9).toInt, (h.1 544 10).toInt, (h.1 544 11).toInt, (h.1 545 2).toInt, (h.1 544 12).toInt, (h.1 544 13).toInt, (h.1 544 14).toInt, (h.1 544 15).toInt, (h.1 545 3).toInt, (h.1 544 16).toInt, (h.1 544 17).toInt, (h.1 544 18).toInt, (h.1 544 19).toInt, (h.1 545 4).toInt, (h.1 546 0).toInt, (h.1 546 20).toInt, (h.1 440 2).toInt, (h.1 547 ((0 + (1 * z + 0) : Int)).toNat).toInt, (h.1 407 ((0 + (1 * z + 0) : Int)).toNat).toInt]) (sY 1) by rw [sY_v]; rfl) (ya1 ⟨_, rfl, rfl⟩ (ya1 ⟨_, rfl, rfl⟩ (ya1 ⟨_, rfl, rfl⟩ (ya1 ⟨_, rfl, rfl⟩ (ya1 ⟨_, rfl, rfl⟩ (ya1 (psm_p (k := 544) (by decide) (by decide +kernel) (by decide +kernel) 0 rfl (by rw [sY_v]; rfl)) (ya1 (psm_p (k := 544) (by decide) (by decide +kernel) (by decide +kernel) 1 rfl (by rw [sY_v]; rfl)) (ya1 (psm_p (k := 544) (by decide) (by decide +kernel) (by decide +kernel) 2 rfl (by rw [sY_v]; rfl)) (ya1 (psm_p (k := 544) (by decide) (by decide +kernel) (by decide +kernel) 3 rfl (by rw [sY_v]; rfl)) (ya1 (psm_p (k := 545) (by decide) (by decide +kernel) (by decide +kernel) 0 rfl (by rw [sY_v]; rfl)) (ya1 (psm_p (k := 544) (by decide) (by decide +kernel) (by decide +kernel) 4 rfl (by rw [sY_v]; rfl)) (ya1 (psm_p (k := 544) (by decide) (by decide +kernel) (by decide +kernel) 5 rfl (by rw [sY_v]; rfl)) (ya1 (psm_p (k := 544) (by decide) (by decide +kernel) (by decide +kernel) 6 rfl (by rw [sY_v]; rfl)) (ya1 (psm_p (k := 544) (by decide) (by decide +kernel) (by decide +kernel) 7 rfl (by rw [sY_v]; rfl)) (ya1 (psm_p (k := 545) (by decide) (by decide +kernel) (by decide +kernel) 1 rfl (by rw [sY_v]; rfl)) (ya1 (psm_p (k := 544) (by decide) (by decide +kernel) (by decide +kernel) 8 rfl (by rw [sY_v]; rfl)) (ya1 (psm_p (k := 544) (by decide) (by decide +kernel) (by decide +kernel) 9 rfl (by rw [sY_v]; rfl)) (ya1 (psm_p (k := 544) (by decide) (by decide +kernel) (by decide +kernel) 10 rfl (by rw [sY_v]; rfl)) (ya1 (psm_p (k := 544) (by decide) (by decide +kernel) (by decide +kernel) 11 rfl (by rw [sY_v]; rfl)) (ya1 (psm_p (k := 545) (by decide) (by decide +kernel) (by decide +kernel) 2 rfl (by rw [sY_v]; rfl)) (ya1 (psm_p (k := 544) (by decide) (by decide +kernel) (by decide +kernel) 12 rfl (by rw [sY_v]; rfl)) (ya1 (psm_p (k := 544) (by decide) (by decide +kernel) (by decide +kernel) 13 rfl (by rw [sY_v]; rfl)) (ya1 (psm_p (k := 544) (by decide) (by decide +kernel) (by decide +kernel) 14 rfl (by rw [sY_v]; rfl)) (ya1 (psm_p (k := 544) (by decide) (by decide +kernel) (by decide +kernel) 15 rfl (by rw [sY_v]; rfl)) (ya1 (psm_p (k := 545) (by decide) (by decide +kernel) (by decide +kernel) 3 rfl (by rw [sY_v]; rfl)) (ya1 (psm_p (k := 544) (by decide) (by decide +kernel) (by decide +kernel) 16 rfl (by rw [sY_v]; rfl)) (ya1 (psm_p (k := 544) (by decide) (by decide +kernel) (by decide +kernel) 17 rfl (by rw [sY_v]; rfl)) (ya1 (psm_p (k := 544) (by decide) (by decide +kernel) (by decide +kernel) 18 rfl (by rw [sY_v]; rfl)) (ya1 (psm_p (k := 544) (by decide) (by decide +kernel) (by decide +kernel) 19 rfl (by rw [sY_v]; rfl)) (ya1 (psm_p (k := 545) (by decide) (by decide +kernel) (by decide +kernel) 4 rfl (by rw [sY_v]; rfl)) (ya1 (psm_p (k := 546) (by decide) (by decide +kernel) (by decide +kernel) 0 rfl (by rw [sY_v]; rfl)) (ya1 (psm_p (k := 546) (by decide) (by decide +kernel) (by decide +kernel) 20 rfl (by rw [sY_v]; rfl)) (ya1 (psm_p (k := 440) (by decide) (by decide +kernel) (by decide +kernel) 2 rfl (by rw [sY_v]; rfl)) (ya1 (psm_p (k := 547) (by decide) (by decide +kernel) (by decide +kernel) ((0 + (1 * z + 0) : Int)).toNat (by show (0 + (1 * z + 0) : Int) = _; omega) (by rw [sY_v]; rfl)) (ya1 (psm_p (k := 407) (by decide) (by decide +kernel) (by decide +kernel) ((0 + (1 * z + 0) : Int)).toNat (by show (0 + (1 * z + 0) : Int) = _; omega) (by rw [sY_v]; rfl)) (ya0)))))))))))))))))))))))))))))))))))))) (ya1 hb0 (ya1 hb1 (ya1 hb2 (ya1 hb3 (ya1 hb4 (ya1 hb5 (ya1 hb6 (ya1 hb7 (ya1 hb8 (ya1 hb9 (ya1 hb10 (ya1 hb11 (ya1 hb12 (ya1 hb13 (ya1 hb14 (ya1 hb15 (ya1 hb16 (ya1 hb17 (ya1 hb18 (ya1 hb19 (ya1 hb20 (ya1 hb21 (ya1 hb22 (ya1 hb23 (ya1 hb24 (ya1 hb25 (ya1 hb26 (ya1 hb27 (ya1 hb28 (ya1 hb29 (ya1 hb30 (ya1 hb31 (ya1 hb32 (ya1 hb33 (ya1 hb34 (ya1 hb35 (ya1 hb36 (ya0)))))))))))))))))))))))))))))))))))))) (ya1 hc0 (ya1 hc1 (ya1 hc2 (ya1 hc3 (ya1 hc4 (ya1 hc5 (ya1 hc6 (ya1 hc7 (ya1 hc8 (ya1 hc9 (ya1 hc10 (ya1 hc11 (ya1 hc12 (ya1 hc13 (ya1 hc14 (ya1 (show (0 + 0 : Int) ≤ 0 by decide) (ya0))))))))))))))))) (ya1 rfl (ya1 rfl (ya1 rfl (ya1 rfl (ya1 rfl (ya1 rfl (ya1 rfl (ya1 rfl (ya1 rfl (ya1 rfl (ya1 rfl (ya1 rfl (ya1 rfl (ya1 rfl (ya1 rfl (ya1 rfl (ya1 rfl (ya1 rfl (ya1 rfl (ya1 rfl (ya1 rfl (ya1 rfl (ya1 rfl (ya1 rfl (ya1 rfl (ya1 rfl (ya1 rfl (ya1 rfl (ya1 rfl (ya1 rfl (ya1 rfl (ya1 rfl (ya1 rfl (ya1 rfl (ya1 rfl (ya1 rfl (ya1 rfl (ya0)))))))))))))))))))))))))))))))))))))) rfl
  obtain ⟨g1, g2, hx⟩ := pGo tmFeedA_ok hG hM hrun
  refine ⟨g1, g2, ?_⟩
  refine pone hx (ya1 ?_ (ya1 ?_ (ya0)))
  · intro hE
    obtain ⟨ρx, eQ, -, ⟨k0, -⟩, ⟨m0, m1, -⟩, hr⟩ := pexU hE
    have e0 : ρx 0 = z := eQ 0 (by decide)
    have e1 : ρx 1 = (pgv 21 h) := eQ 1 (by decide)
    have e2 : ρx 2 = a.toInt := eQ 2 (by decide)
    have e3 : ρx 3 = b.toInt := eQ 3 (by decide)
    have e4 : ρx 4 = c.toInt := eQ 4 (by decide)
    have e5 : ρx 5 = d.toInt := eQ 5 (by decide)
    have e6 : ρx 6 = e.toInt := eQ 6 (by decide)
    have e7 : ρx 7 = (h.1 544 0).toInt := eQ 7 (by decide)
    have e8 : ρx 8 = (h.1 544 1).toInt := eQ 8 (by decide)
    have e9 : ρx 9 = (h.1 544 2).toInt := eQ 9 (by decide)
    have e10 : ρx 10 = (h.1 544 3).toInt := eQ 10 (by decide)
    have e11 : ρx 11 = (h.1 545 0).toInt := eQ 11 (by decide)
    have e12 : ρx 12 = (h.1 544 4).toInt := eQ 12 (by decide)
    have e13 : ρx 13 = (h.1 544 5).toInt := eQ 13 (by decide)
    have e14 : ρx 14 = (h.1 544 6).toInt := eQ 14 (by decide)
    have e15 : ρx 15 = (h.1 544 7).toInt := eQ 15 (by decide)
    have e16 : ρx 16 = (h.1 545 1).toInt := eQ 16 (by decide)
    have e17 : ρx 17 = (h.1 544 8).toInt := eQ 17 (by decide)
    have e18 : ρx 18 = (h.1 544 9).toInt := eQ 18 (by decide)
    have e19 : ρx 19 = (h.1 544 10).toInt := eQ 19 (by decide)
    have e20 : ρx 20 = (h.1 544 11).toInt := eQ 20 (by decide)
    have e21 : ρx 21 = (h.1 545 2).toInt := eQ 21 (by decide)
    have e22 : ρx 22 = (h.1 544 12).toInt := eQ 22 (by decide)
    have e23 : ρx 23 = (h.1 544 13).toInt := eQ 23 (by decide)
    have e24 : ρx 24 = (h.1 544 14).toInt := eQ 24 (by decide)
    have e25 : ρx 25 = (h.1 544 15).toInt := eQ 25 (by decide)
    have e26 : ρx 26 = (h.1 545 3).toInt := eQ 26 (by decide)
    have e27 : ρx 27 = (h.1 544 16).toInt := eQ 27 (by decide)
    have e28 : ρx 28 = (h.1 544 17).toInt := eQ 28 (by decide)
    have e29 : ρx 29 = (h.1 544 18).toInt := eQ 29 (by decide)
    have e30 : ρx 30 = (h.1 544 19).toInt := eQ 30 (by decide)
    have e31 : ρx 31 = (h.1 545 4).toInt := eQ 31 (by decide)
    have e32 : ρx 32 = (h.1 546 0).toInt := eQ 32 (by decide)
    have e33 : ρx 33 = (h.1 546 20).toInt := eQ 33 (by decide)
    have e34 : ρx 34 = (h.1 440 2).toInt := eQ 34 (by decide)
    have e35 : ρx 35 = (h.1 547 ((0 + (1 * z + 0) : Int)).toNat).toInt := eQ 35 (by decide)
    have e36 : ρx 36 = (h.1 407 ((0 + (1 * z + 0) : Int)).toNat).toInt := eQ 36 (by decide)
    have hr : x.toInt = ((-1) + 0 : Int) := hr
    have m0 : (h'.1 440 2).toInt = (0 + (1 * ρx 34 + 0) : Int) := psm_u (k := 440) (by decide) (by decide +kernel) m0 (2) rfl
    have m1 : (h'.1 407 ((0 + (1 * z + 0) : Int)).toNat).toInt = (0 + (1 * ρx 35 + 0) : Int) := psm_u (k := 407) (by decide) (by decide +kernel) m1 (((0 + (1 * z + 0) : Int)).toNat) (by show (0 + (1 * ρx 0 + 0) : Int) = _; rw [e0]; omega)
    have k0 : (241 + ((-1) * ρx 33 + 0) : Int) ≤ 0 := k0
    rw [e33] at k0
    exact Or.inl ⟨(by rw [hr]), (m0.trans (by rw [e34])), (m1.trans (by rw [e35])), k0⟩
  · intro hE
    obtain ⟨ρx, eQ, -, ⟨k0, k1, -⟩, ⟨m0, m1, -⟩, hr⟩ := pexU hE
    have e0 : ρx 0 = z := eQ 0 (by decide)
    have e1 : ρx 1 = (pgv 21 h) := eQ 1 (by decide)
    have e2 : ρx 2 = a.toInt := eQ 2 (by decide)
    have e3 : ρx 3 = b.toInt := eQ 3 (by decide)
    have e4 : ρx 4 = c.toInt := eQ 4 (by decide)
    have e5 : ρx 5 = d.toInt := eQ 5 (by decide)
    have e6 : ρx 6 = e.toInt := eQ 6 (by decide)
    have e7 : ρx 7 = (h.1 544 0).toInt := eQ 7 (by decide)
    have e8 : ρx 8 = (h.1 544 1).toInt := eQ 8 (by decide)
    have e9 : ρx 9 = (h.1 544 2).toInt := eQ 9 (by decide)
    have e10 : ρx 10 = (h.1 544 3).toInt := eQ 10 (by decide)
    have e11 : ρx 11 = (h.1 545 0).toInt := eQ 11 (by decide)
    have e12 : ρx 12 = (h.1 544 4).toInt := eQ 12 (by decide)
    have e13 : ρx 13 = (h.1 544 5).toInt := eQ 13 (by decide)
    have e14 : ρx 14 = (h.1 544 6).toInt := eQ 14 (by decide)
    have e15 : ρx 15 = (h.1 544 7).toInt := eQ 15 (by decide)
    have e16 : ρx 16 = (h.1 545 1).toInt := eQ 16 (by decide)
    have e17 : ρx 17 = (h.1 544 8).toInt := eQ 17 (by decide)
    have e18 : ρx 18 = (h.1 544 9).toInt := eQ 18 (by decide)
    have e19 : ρx 19 = (h.1 544 10).toInt := eQ 19 (by decide)
    have e20 : ρx 20 = (h.1 544 11).toInt := eQ 20 (by decide)
    have e21 : ρx 21 = (h.1 545 2).toInt := eQ 21 (by decide)
    have e22 : ρx 22 = (h.1 544 12).toInt := eQ 22 (by decide)
    have e23 : ρx 23 = (h.1 544 13).toInt := eQ 23 (by decide)
    have e24 : ρx 24 = (h.1 544 14).toInt := eQ 24 (by decide)
    have e25 : ρx 25 = (h.1 544 15).toInt := eQ 25 (by decide)
    have e26 : ρx 26 = (h.1 545 3).toInt := eQ 26 (by decide)
    have e27 : ρx 27 = (h.1 544 16).toInt := eQ 27 (by decide)
    have e28 : ρx 28 = (h.1 544 17).toInt := eQ 28 (by decide)
    have e29 : ρx 29 = (h.1 544 18).toInt := eQ 29 (by decide)
    have e30 : ρx 30 = (h.1 544 19).toInt := eQ 30 (by decide)
    have e31 : ρx 31 = (h.1 545 4).toInt := eQ 31 (by decide)
    have e32 : ρx 32 = (h.1 546 0).toInt := eQ 32 (by decide)
    have e33 : ρx 33 = (h.1 546 20).toInt := eQ 33 (by decide)
    have e34 : ρx 34 = (h.1 440 2).toInt := eQ 34 (by decide)
    have e35 : ρx 35 = (h.1 547 ((0 + (1 * z + 0) : Int)).toNat).toInt := eQ 35 (by decide)
    have e36 : ρx 36 = (h.1 407 ((0 + (1 * z + 0) : Int)).toNat).toInt := eQ 36 (by decide)
    have hr : x.toInt = (0 + (1 * ρx 33 + 0) : Int) := hr
    have m0 : (h'.1 440 2).toInt = (0 + (1 * ρx 33 + 0) : Int) := psm_u (k := 440) (by decide) (by decide +kernel) m0 (2) rfl
    have m1 : (h'.1 407 ((0 + (1 * z + 0) : Int)).toNat).toInt = (0 + (1 * ρx 35 + 0) : Int) := psm_u (k := 407) (by decide) (by decide +kernel) m1 (((0 + (1 * z + 0) : Int)).toNat) (by show (0 + (1 * ρx 0 + 0) : Int) = _; rw [e0]; omega)
    have k0 : ((-240) + (1 * ρx 33 + 0) : Int) ≤ 0 := k0
    rw [e33] at k0
    have k1 : (0 + ((-1) * ρx 33 + (1 * ρx 34 + 0)) : Int) ≤ 0 := k1
    rw [e33, e34] at k1
    exact Or.inr (⟨(by rw [hr, e33]), (m0.trans (by rw [e33])), (m1.trans (by rw [e35])), k0, k1⟩)
set_option maxHeartbeats 1000000 in
theorem pe_mFeedB {h h' : zH} {a b c d e : Int32} {x : Int32} {m dq : Nat} (z : Int) (hG : sG pReg pG h) (hb0 : (0 : Int) ≤ z ∧ z ≤ 239) (hb1 : (1 : Int) ≤ (pgv 21 h) ∧ (pgv 21 h) ≤ 1) (hb2 : ((-2147483648) : Int) ≤ a.toInt ∧ a.toInt ≤ 2147483647) (hb3 : ((-2147483648) : Int) ≤ b.toInt ∧ b.toInt ≤ 2147483647) (hb4 : ((-2147483648) : Int) ≤ c.toInt ∧ c.toInt ≤ 2147483647) (hb5 : ((-2147483648) : Int) ≤ d.toInt ∧ d.toInt ≤ 2147483647) (hb6 : ((-2147483648) : Int) ≤ e.toInt ∧ e.toInt ≤ 2147483647) (hb7 : (0 : Int) ≤ (h.1 544 0).toInt ∧ (h.1 544 0).toInt ≤ 255) (hb8 : (0 : Int) ≤ (h.1 544 1).toInt ∧ (h.1 544 1).toInt ≤ 255) (hb9 : (0 : Int) ≤ (h.1 544 2).toInt ∧ (h.1 544 2).toInt ≤ 255) (hb10 : (0 : Int) ≤ (h.1 544 3).toInt ∧ (h.1 544 3).toInt ≤ 255) (hb11 : (0 : Int) ≤ (h.1 545 0).toInt ∧ (h.1 545 0).toInt ≤ 1) (hb12 : (0 : Int) ≤ (h.1 544 4).toInt ∧ (h.1 544 4).toInt ≤ 255) (hb13 : (0 : Int) ≤ (h.1 544 5).toInt ∧ (h.1 544 5).toInt ≤ 255) (hb14 : (0 : Int) ≤ (h.1 544 6).toInt ∧ (h.1 544 6).toInt ≤ 255) (hb15 : (0 : Int) ≤ (h.1 544 7).toInt ∧ (h.1 544 7).toInt ≤ 255) (hb16 : (0 : Int) ≤ (h.1 545 1).toInt ∧ (h.1 545 1).toInt ≤ 1) (hb17 : (0 : Int) ≤ (h.1 544 8).toInt ∧ (h.1 544 8).toInt ≤ 255) (hb18 : (0 : Int) ≤ (h.1 544 9).toInt ∧ (h.1 544 9).toInt ≤ 255) (hb19 : (0 : Int) ≤ (h.1 544 10).toInt ∧ (h.1 544 10).toInt ≤ 255) (hb20 : (0 : Int) ≤ (h.1 544 11).toInt ∧ (h.1 544 11).toInt ≤ 255) (hb21 : (0 : Int) ≤ (h.1 545 2).toInt ∧ (h.1 545 2).toInt ≤ 1) (hb22 : (0 : Int) ≤ (h.1 544 12).toInt ∧ (h.1 544 12).toInt ≤ 255) (hb23 : (0 : Int) ≤ (h.1 544 13).toInt ∧ (h.1 544 13).toInt ≤ 255) (hb24 : (0 : Int) ≤ (h.1 544 14).toInt ∧ (h.1 544 14).toInt ≤ 255) (hb25 : (0 : Int) ≤ (h.1 544 15).toInt ∧ (h.1 544 15).toInt ≤ 255) (hb26 : (0 : Int) ≤ (h.1 545 3).toInt ∧ (h.1 545 3).toInt ≤ 1) (hb27 : (0 : Int) ≤ (h.1 544 16).toInt ∧ (h.1 544 16).toInt ≤ 255) (hb28 : (0 : Int) ≤ (h.1 544 17).toInt ∧ (h.1 544 17).toInt ≤ 255) (hb29 : (0 : Int) ≤ (h.1 544 18).toInt ∧ (h.1 544 18).toInt ≤ 255) (hb30 : (0 : Int) ≤ (h.1 544 19).toInt ∧ (h.1 544 19).toInt ≤ 255) (hb31 : (0 : Int) ≤ (h.1 545 4).toInt ∧ (h.1 545 4).toInt ≤ 1) (hb32 : (0 : Int) ≤ (h.1 546 0).toInt ∧ (h.1 546 0).toInt ≤ 260) (hb33 : (0 : Int) ≤ (h.1 546 20).toInt ∧ (h.1 546 20).toInt ≤ 260) (hb34 : (0 : Int) ≤ (h.1 440 2).toInt ∧ (h.1 440 2).toInt ≤ 240) (hb35 : (0 : Int) ≤ (h.1 547 ((0 + (1 * z + 0) : Int)).toNat).toInt ∧ (h.1 547 ((0 + (1 * z + 0) : Int)).toNat).toInt ≤ 255) (hc0 : (0 + (1 * a.toInt + ((-16777216) * (h.1 544 0).toInt + ((-65536) * (h.1 544 1).toInt + ((-256) * (h.1 544 2).toInt + ((-1) * (h.1 544 3).toInt + (4294967296 * (h.1 545 0).toInt + 0)))))) : Int) ≤ 0) (hc1 : (0 + ((-1) * a.toInt + (16777216 * (h.1 544 0).toInt + (65536 * (h.1 544 1).toInt + (256 * (h.1 544 2).toInt + (1 * (h.1 544 3).toInt + ((-4294967296) * (h.1 545 0).toInt + 0)))))) : Int) ≤ 0) (hc2 : (0 + (1 * b.toInt + ((-16777216) * (h.1 544 4).toInt + ((-65536) * (h.1 544 5).toInt + ((-256) * (h.1 544 6).toInt + ((-1) * (h.1 544 7).toInt + (4294967296 * (h.1 545 1).toInt + 0)))))) : Int) ≤ 0) (hc3 : (0 + ((-1) * b.toInt + (16777216 * (h.1 544 4).toInt + (65536 * (h.1 544 5).toInt + (256 * (h.1 544 6).toInt + (1 * (h.1 544 7).toInt + ((-4294967296) * (h.1 545 1).toInt + 0)))))) : Int) ≤ 0) (hc4 : (0 + (1 * c.toInt + ((-16777216) * (h.1 544 8).toInt + ((-65536) * (h.1 544 9).toInt + ((-256) * (h.1 544 10).toInt + ((-1) * (h.1 544 11).toInt + (4294967296 * (h.1 545 2).toInt + 0)))))) : Int) ≤ 0) (hc5 : (0 + ((-1) * c.toInt + (16777216 * (h.1 544 8).toInt + (65536 * (h.1 544 9).toInt + (256 * (h.1 544 10).toInt + (1 * (h.1 544 11).toInt + ((-4294967296) * (h.1 545 2).toInt + 0)))))) : Int) ≤ 0) (hc6 : (0 + (1 * d.toInt + ((-16777216) * (h.1 544 12).toInt + ((-65536) * (h.1 544 13).toInt + ((-256) * (h.1 544 14).toInt + ((-1) * (h.1 544 15).toInt + (4294967296 * (h.1 545 3).toInt + 0)))))) : Int) ≤ 0) (hc7 : (0 + ((-1) * d.toInt + (16777216 * (h.1 544 12).toInt + (65536 * (h.1 544 13).toInt + (256 * (h.1 544 14).toInt + (1 * (h.1 544 15).toInt + ((-4294967296) * (h.1 545 3).toInt + 0)))))) : Int) ≤ 0) (hc8 : (0 + (1 * e.toInt + ((-16777216) * (h.1 544 16).toInt + ((-65536) * (h.1 544 17).toInt + ((-256) * (h.1 544 18).toInt + ((-1) * (h.1 544 19).toInt + (4294967296 * (h.1 545 4).toInt + 0)))))) : Int) ≤ 0) (hc9 : (0 + ((-1) * e.toInt + (16777216 * (h.1 544 16).toInt + (65536 * (h.1 544 17).toInt + (256 * (h.1 544 18).toInt + (1 * (h.1 544 19).toInt + ((-4294967296) * (h.1 545 4).toInt + 0)))))) : Int) ≤ 0) (hc10 : (0 + ((-1) * (h.1 546 0).toInt + (1 * (h.1 440 2).toInt + 0)) : Int) ≤ 0) (hc11 : (0 + (1 * (h.1 546 0).toInt + ((-1) * (h.1 440 2).toInt + 0)) : Int) ≤ 0) (hc12 : (0 + ((-1) * z + (1 * (h.1 440 2).toInt + 0)) : Int) ≤ 0) (hrun : yrun m dq 122 [.inr (.inr 440), .inl a, .inl b, .inl c, .inl d, .inl e] h = some (some (.inl x), h')) : sG pReg pG h' ∧ sF pReg [(120, 2, 2), (87, 0, 239)] h h' ∧ ((x.toInt = ((-1) + 0 : Int) ∧ (h'.1 440 2).toInt = (0 + (1 * (h.1 440 2).toInt + 0) : Int) ∧ (241 + ((-1) * (h.1 546 20).toInt + 0) : Int) ≤ 0) ∨ (x.toInt = (0 + (1 * (h.1 546 20).toInt + 0) : Int) ∧ (h'.1 440 2).toInt = (0 + (1 * (h.1 546 20).toInt + 0) : Int) ∧ (h'.1 407 ((0 + (1 * z + 0) : Int)).toNat).toInt = (0 + (1 * (h.1 547 ((0 + (1 * z + 0) : Int)).toNat).toInt + 0) : Int) ∧ ((-240) + (1 * (h.1 546 20).toInt + 0) : Int) ≤ 0 ∧ (0 + ((-1) * (h.1 546 20).toInt + (1 * (h.1 440 2).toInt + 0)) : Int) ≤ 0 ∧ (1 + (1 * z + ((-1) * (h.1 546 20).toInt + 0)) : Int) ≤ 0) ∨ (x.toInt = (0 + (1 * (h.1 546 20).toInt + 0) : Int) ∧ (h'.1 440 2).toInt = (0 + (1 * (h.1 546 20).toInt + 0) : Int) ∧ ((-240) + (1 * (h.1 546 20).toInt + 0) : Int) ≤ 0 ∧ (0 + ((-1) * (h.1 546 20).toInt + (1 * (h.1 440 2).toInt + 0)) : Int) ≤ 0 ∧ (0 + ((-1) * z + (1 * (h.1 546 20).toInt + 0)) : Int) ≤ 0)) := by
  have hM : sMt pReg pgv (pL [z, (pgv 21 h), a.toInt, b.toInt, c.toInt, d.toInt, e.toInt, (h.1 544 0).toInt, (h.1 544 1).toInt, (h.1 544 2).toInt, (h.1 544 3).toInt, (h.1 545 0).toInt, (h.1 544 4).toInt, (h.1 544 5).toInt, (h.1 544 6).toInt, (h.1 544 7).toInt, (h.1 545 1).toInt, (h.1 544 8).toInt, (h.1 544 9).toInt, (h.1 544 10).toInt, (h.1 544 11).toInt, (h.1 545 2).toInt, (h.1 544 12).toInt, (h.1 544 13).toInt, (h.1 544 14).toInt, (h.1 544 15).toInt, (h.1 545 3).toInt, (h.1 544 16).toInt, (h.1 544 17).toInt, (h.1 544 18).toInt, (h.1 544 19).toInt, (h.1 545 4).toInt, (h.1 546 0).toInt, (h.1 546 20).toInt, (h.1 440 2).toInt, (h.1 547 ((0 + (1 * z + 0) : Int)).toNat).toInt]) (pL0 [z, (pgv 21 h), a.toInt, b.toInt, c.toInt, d.toInt, e.toInt, (h.1 544 0).toInt, (h.1 544 1).toInt, (h.1 544 2).toInt, (h.1 544 3).toInt, (h.1 545 0).toInt, (h.1 544 4).toInt, (h.1 544 5).toInt, (h.1 544 6).toInt, (h.1 544 7).toInt, (h.1 545 1).toInt, (h.1 544 8).toInt, (h.1 544 9).toInt, (h.1 544 10).toInt, (h.1 544 11).toInt, (h.1 545 2).toInt, (h.1 544 12).toInt, (h.1 544 13).toInt, (h.1 544 14).toInt, (h.1 544 15).toInt, (h.1 545 3).toInt, (h.1 544 16).toInt, (h.1 544 17).toInt, (h.1 544 18).toInt, (h.1 544 19).toInt, (h.1 545 4).toInt, (h.1 546 0).toInt, (h.1 546 20).toInt, (h.1 440 2).toInt, (h.1 547 ((0 + (1 * z + 0) : Int)).toNat).toInt]) (sAs tmFeedB.2.1) (zent 0 [.inr (.inr 440), .inl a, .inl b, .inl c, .inl d, .inl e]) [] h := pmkk (ya1 ⟨440, rfl, by decide +kernel⟩ ya0) (ya1 trivial (ya1 (show pgv 21 h = sv (pL [z, (pgv 21 h), a.toInt, b.toInt, c.toInt, d.toInt, e.toInt, (h.1 544 0).toInt, (h.1 544 1).toInt, (h.1 544 2).toInt, (h.1 544 3).toInt, (h.1 545 0).toInt, (h.1 544 4).toInt, (h.1 544 5).toInt, (h.1 544 6).toInt, (h.1 544 7).toInt, (h.1 545 1).toInt, (h.1 544 8).toInt, (h.1 544 9).toInt, (h.1 544 10).toInt, (h.1 544 11).toInt, (h.1 545 2).toInt, (h.1 544 12).toInt, (h.1 544 13).toInt, (h.1 544 14).toInt, (h.1 544 15).toInt, (h.1 545 3).toInt, (h.1 544 16).toInt, (h.1 544 17).toInt, (h.1 544 18).toInt, (h.1 544 19).toInt, (h.1 545 4).toInt, (h.1 546 0).toInt, (h.1 546 20).toInt, (h.1 440 2).toInt, (h.1 547 ((0 + (1 * z + 0) : Int)).toNat).toInt]) (sY 1) by rw [sY_v]; rfl) (ya1 ⟨_, rfl, rfl⟩ (ya1 ⟨_, rfl, rfl⟩ (ya1 ⟨_, rfl, rfl⟩ (ya1 ⟨_, rfl, rfl⟩ (ya1 ⟨_, rfl, rfl⟩ (ya1 (psm_p (k := 544) (by decide) (by decide +kernel) (by decide +kernel) 0 rfl (by rw [sY_v]; rfl)) (ya1 (psm_p (k := 544) (by decide) (by decide +kernel) (by decide +kernel) 1 rfl (by rw [sY_v]; rfl)) (ya1 (psm_p (k := 544) (by decide) (by decide +kernel) (by decide +kernel) 2 rfl (by rw [sY_v]; rfl)) (ya1 (psm_p (k := 544) (by decide) (by decide +kernel) (by decide +kernel) 3 rfl (by rw [sY_v]; rfl)) (ya1 (psm_p (k := 545) (by decide) (by decide +kernel) (by decide +kernel) 0 rfl (by rw [sY_v]; rfl)) (ya1 (psm_p (k := 544) (by decide) (by decide +kernel) (by decide +kernel) 4 rfl (by rw [sY_v]; rfl)) (ya1 (psm_p (k := 544) (by decide) (by decide +kernel) (by decide +kernel) 5 rfl (by rw [sY_v]; rfl)) (ya1 (psm_p (k := 544) (by decide) (by decide +kernel) (by decide +kernel) 6 rfl (by rw [sY_v]; rfl)) (ya1 (psm_p (k := 544) (by decide) (by decide +kernel) (by decide +kernel) 7 rfl (by rw [sY_v]; rfl)) (ya1 (psm_p (k := 545) (by decide) (by decide +kernel) (by decide +kernel) 1 rfl (by rw [sY_v]; rfl)) (ya1 (psm_p (k := 544) (by decide) (by decide +kernel) (by decide +kernel) 8 rfl (by rw [sY_v]; rfl)) (ya1 (psm_p (k := 544) (by decide) (by decide +kernel) (by decide +kernel) 9 rfl (by rw [sY_v]; rfl)) (ya1 (psm_p (k := 544) (by decide) (by decide +kernel) (by decide +kernel) 10 rfl (by rw [sY_v]; rfl)) (ya1 (psm_p (k := 544) (by decide) (by decide +kernel) (by decide +kernel) 11 rfl (by rw [sY_v]; rfl)) (ya1 (psm_p (k := 545) (by decide) (by decide +kernel) (by decide +kernel) 2 rfl (by rw [sY_v]; rfl)) (ya1 (psm_p (k := 544) (by decide) (by decide +kernel) (by decide +kernel) 12 rfl (by rw [sY_v]; rfl)) (ya1 (psm_p (k := 544) (by decide) (by decide +kernel) (by decide +kernel) 13 rfl (by rw [sY_v]; rfl)) (ya1 (psm_p (k := 544) (by decide) (by decide +kernel) (by decide +kernel) 14 rfl (by rw [sY_v]; rfl)) (ya1 (psm_p (k := 544) (by decide) (by decide +kernel) (by decide +kernel) 15 rfl (by rw [sY_v]; rfl)) (ya1 (psm_p (k := 545) (by decide) (by decide +kernel) (by decide +kernel) 3 rfl (by rw [sY_v]; rfl)) (ya1 (psm_p (k := 544) (by decide) (by decide +kernel) (by decide +kernel) 16 rfl (by rw [sY_v]; rfl)) (ya1 (psm_p (k := 544) (by decide) (by decide +kernel) (by decide +kernel) 17 rfl (by rw [sY_v]; rfl)) (ya1 (psm_p (k := 544) (by decide) (by decide +kernel) (by decide +kernel) 18 rfl (by rw [sY_v]; rfl)) (ya1 (psm_p (k := 544) (by decide) (by decide +kernel) (by decide +kernel) 19 rfl (by rw [sY_v]; rfl)) (ya1 (psm_p (k := 545) (by decide) (by decide +kernel) (by decide +kernel) 4 rfl (by rw [sY_v]; rfl)) (ya1 (psm_p (k := 546) (by decide) (by decide +kernel) (by decide +kernel) 0 rfl (by rw [sY_v]; rfl)) (ya1 (psm_p (k := 546) (by decide) (by decide +kernel) (by decide +kernel) 20 rfl (by rw [sY_v]; rfl)) (ya1 (psm_p (k := 440) (by decide) (by decide +kernel) (by decide +kernel) 2 rfl (by rw [sY_v]; rfl)) (ya1 (psm_p (k := 547) (by decide) (by decide +kernel) (by decide +kernel) ((0 + (1 * z + 0) : Int)).toNat (by show (0 + (1 * z + 0) : Int) = _; omega) (by rw [sY_v]; rfl)) (ya0))))))))))))))))))))))))))))))))))))) (ya1 hb0 (ya1 hb1 (ya1 hb2 (ya1 hb3 (ya1 hb4 (ya1 hb5 (ya1 hb6 (ya1 hb7 (ya1 hb8 (ya1 hb9 (ya1 hb10 (ya1 hb11 (ya1 hb12 (ya1 hb13 (ya1 hb14 (ya1 hb15 (ya1 hb16 (ya1 hb17 (ya1 hb18 (ya1 hb19 (ya1 hb20 (ya1 hb21 (ya1 hb22 (ya1 hb23 (ya1 hb24 (ya1 hb25 (ya1 hb26 (ya1 hb27 (ya1 hb28 (ya1 hb29 (ya1 hb30 (ya1 hb31 (ya1 hb32 (ya1 hb33 (ya1 hb34 (ya1 hb35 (ya0))))))))))))))))))))))))))))))))))))) (ya1 hc0 (ya1 hc1 (ya1 hc2 (ya1 hc3 (ya1 hc4 (ya1 hc5 (ya1 hc6 (ya1 hc7 (ya1 hc8 (ya1 hc9 (ya1 hc10 (ya1 hc11 (ya1 hc12 (ya1 (show (0 + 0 : Int) ≤ 0 by decide) (ya0))))))))))))))) (ya1 rfl (ya1 rfl (ya1 rfl (ya1 rfl (ya1 rfl (ya1 rfl (ya1 rfl (ya1 rfl (ya1 rfl (ya1 rfl (ya1 rfl (ya1 rfl (ya1 rfl (ya1 rfl (ya1 rfl (ya1 rfl (ya1 rfl (ya1 rfl (ya1 rfl (ya1 rfl (ya1 rfl (ya1 rfl (ya1 rfl (ya1 rfl (ya1 rfl (ya1 rfl (ya1 rfl (ya1 rfl (ya1 rfl (ya1 rfl (ya1 rfl (ya1 rfl (ya1 rfl (ya1 rfl (ya1 rfl (ya1 rfl (ya0))))))))))))))))))))))))))))))))))))) rfl
  obtain ⟨g1, g2, hx⟩ := pGo tmFeedB_ok hG hM hrun
  refine ⟨g1, g2, ?_⟩
  refine pone hx (ya1 ?_ (ya1 ?_ (ya1 ?_ (ya0))))
  · intro hE
    obtain ⟨ρx, eQ, -, ⟨k0, -⟩, ⟨m0, -⟩, hr⟩ := pexU hE
    have e0 : ρx 0 = z := eQ 0 (by decide)
    have e1 : ρx 1 = (pgv 21 h) := eQ 1 (by decide)
    have e2 : ρx 2 = a.toInt := eQ 2 (by decide)
    have e3 : ρx 3 = b.toInt := eQ 3 (by decide)
    have e4 : ρx 4 = c.toInt := eQ 4 (by decide)
    have e5 : ρx 5 = d.toInt := eQ 5 (by decide)
    have e6 : ρx 6 = e.toInt := eQ 6 (by decide)
    have e7 : ρx 7 = (h.1 544 0).toInt := eQ 7 (by decide)
    have e8 : ρx 8 = (h.1 544 1).toInt := eQ 8 (by decide)
    have e9 : ρx 9 = (h.1 544 2).toInt := eQ 9 (by decide)
    have e10 : ρx 10 = (h.1 544 3).toInt := eQ 10 (by decide)
    have e11 : ρx 11 = (h.1 545 0).toInt := eQ 11 (by decide)
    have e12 : ρx 12 = (h.1 544 4).toInt := eQ 12 (by decide)
    have e13 : ρx 13 = (h.1 544 5).toInt := eQ 13 (by decide)
    have e14 : ρx 14 = (h.1 544 6).toInt := eQ 14 (by decide)
    have e15 : ρx 15 = (h.1 544 7).toInt := eQ 15 (by decide)
    have e16 : ρx 16 = (h.1 545 1).toInt := eQ 16 (by decide)
    have e17 : ρx 17 = (h.1 544 8).toInt := eQ 17 (by decide)
    have e18 : ρx 18 = (h.1 544 9).toInt := eQ 18 (by decide)
    have e19 : ρx 19 = (h.1 544 10).toInt := eQ 19 (by decide)
    have e20 : ρx 20 = (h.1 544 11).toInt := eQ 20 (by decide)
    have e21 : ρx 21 = (h.1 545 2).toInt := eQ 21 (by decide)
    have e22 : ρx 22 = (h.1 544 12).toInt := eQ 22 (by decide)
    have e23 : ρx 23 = (h.1 544 13).toInt := eQ 23 (by decide)
    have e24 : ρx 24 = (h.1 544 14).toInt := eQ 24 (by decide)
    have e25 : ρx 25 = (h.1 544 15).toInt := eQ 25 (by decide)
    have e26 : ρx 26 = (h.1 545 3).toInt := eQ 26 (by decide)
    have e27 : ρx 27 = (h.1 544 16).toInt := eQ 27 (by decide)
    have e28 : ρx 28 = (h.1 544 17).toInt := eQ 28 (by decide)
    have e29 : ρx 29 = (h.1 544 18).toInt := eQ 29 (by decide)
    have e30 : ρx 30 = (h.1 544 19).toInt := eQ 30 (by decide)
    have e31 : ρx 31 = (h.1 545 4).toInt := eQ 31 (by decide)
    have e32 : ρx 32 = (h.1 546 0).toInt := eQ 32 (by decide)
    have e33 : ρx 33 = (h.1 546 20).toInt := eQ 33 (by decide)
    have e34 : ρx 34 = (h.1 440 2).toInt := eQ 34 (by decide)
    have e35 : ρx 35 = (h.1 547 ((0 + (1 * z + 0) : Int)).toNat).toInt := eQ 35 (by decide)
    have hr : x.toInt = ((-1) + 0 : Int) := hr
    have m0 : (h'.1 440 2).toInt = (0 + (1 * ρx 34 + 0) : Int) := psm_u (k := 440) (by decide) (by decide +kernel) m0 (2) rfl
    have k0 : (241 + ((-1) * ρx 33 + 0) : Int) ≤ 0 := k0
    rw [e33] at k0
    exact Or.inl ⟨(by rw [hr]), (m0.trans (by rw [e34])), k0⟩
  · intro hE
    obtain ⟨ρx, eQ, -, ⟨k0, k1, k2, -⟩, ⟨m0, m1, -⟩, hr⟩ := pexU hE
    have e0 : ρx 0 = z := eQ 0 (by decide)
    have e1 : ρx 1 = (pgv 21 h) := eQ 1 (by decide)
    have e2 : ρx 2 = a.toInt := eQ 2 (by decide)
    have e3 : ρx 3 = b.toInt := eQ 3 (by decide)
    have e4 : ρx 4 = c.toInt := eQ 4 (by decide)
    have e5 : ρx 5 = d.toInt := eQ 5 (by decide)
    have e6 : ρx 6 = e.toInt := eQ 6 (by decide)
    have e7 : ρx 7 = (h.1 544 0).toInt := eQ 7 (by decide)
    have e8 : ρx 8 = (h.1 544 1).toInt := eQ 8 (by decide)
    have e9 : ρx 9 = (h.1 544 2).toInt := eQ 9 (by decide)
    have e10 : ρx 10 = (h.1 544 3).toInt := eQ 10 (by decide)
    have e11 : ρx 11 = (h.1 545 0).toInt := eQ 11 (by decide)
    have e12 : ρx 12 = (h.1 544 4).toInt := eQ 12 (by decide)
    have e13 : ρx 13 = (h.1 544 5).toInt := eQ 13 (by decide)
    have e14 : ρx 14 = (h.1 544 6).toInt := eQ 14 (by decide)
    have e15 : ρx 15 = (h.1 544 7).toInt := eQ 15 (by decide)
    have e16 : ρx 16 = (h.1 545 1).toInt := eQ 16 (by decide)
    have e17 : ρx 17 = (h.1 544 8).toInt := eQ 17 (by decide)
    have e18 : ρx 18 = (h.1 544 9).toInt := eQ 18 (by decide)
    have e19 : ρx 19 = (h.1 544 10).toInt := eQ 19 (by decide)
    have e20 : ρx 20 = (h.1 544 11).toInt := eQ 20 (by decide)
    have e21 : ρx 21 = (h.1 545 2).toInt := eQ 21 (by decide)
    have e22 : ρx 22 = (h.1 544 12).toInt := eQ 22 (by decide)
    have e23 : ρx 23 = (h.1 544 13).toInt := eQ 23 (by decide)
    have e24 : ρx 24 = (h.1 544 14).toInt := eQ 24 (by decide)
    have e25 : ρx 25 = (h.1 544 15).toInt := eQ 25 (by decide)
    have e26 : ρx 26 = (h.1 545 3).toInt := eQ 26 (by decide)
    have e27 : ρx 27 = (h.1 544 16).toInt := eQ 27 (by decide)
    have e28 : ρx 28 = (h.1 544 17).toInt := eQ 28 (by decide)
    have e29 : ρx 29 = (h.1 544 18).toInt := eQ 29 (by decide)
    have e30 : ρx 30 = (h.1 544 19).toInt := eQ 30 (by decide)
    have e31 : ρx 31 = (h.1 545 4).toInt := eQ 31 (by decide)
    have e32 : ρx 32 = (h.1 546 0).toInt := eQ 32 (by decide)
    have e33 : ρx 33 = (h.1 546 20).toInt := eQ 33 (by decide)
    have e34 : ρx 34 = (h.1 440 2).toInt := eQ 34 (by decide)
    have e35 : ρx 35 = (h.1 547 ((0 + (1 * z + 0) : Int)).toNat).toInt := eQ 35 (by decide)
    have hr : x.toInt = (0 + (1 * ρx 33 + 0) : Int) := hr
    have m0 : (h'.1 440 2).toInt = (0 + (1 * ρx 33 + 0) : Int) := psm_u (k := 440) (by decide) (by decide +kernel) m0 (2) rfl
    have m1 : (h'.1 407 ((0 + (1 * z + 0) : Int)).toNat).toInt = (0 + (1 * ρx 35 + 0) : Int) := psm_u (k := 407) (by decide) (by decide +kernel) m1 (((0 + (1 * z + 0) : Int)).toNat) (by show (0 + (1 * ρx 0 + 0) : Int) = _; rw [e0]; omega)
    have k0 : ((-240) + (1 * ρx 33 + 0) : Int) ≤ 0 := k0
    rw [e33] at k0
    have k1 : (0 + ((-1) * ρx 33 + (1 * ρx 34 + 0)) : Int) ≤ 0 := k1
    rw [e33, e34] at k1
    have k2 : (1 + (1 * ρx 0 + ((-1) * ρx 33 + 0)) : Int) ≤ 0 := k2
    rw [e0, e33] at k2
    exact Or.inr (Or.inl ⟨(by rw [hr, e33]), (m0.trans (by rw [e33])), (m1.trans (by rw [e35])), k0, k1, k2⟩)
  · intro hE
    obtain ⟨ρx, eQ, -, ⟨k0, k1, k2, -⟩, ⟨m0, -⟩, hr⟩ := pexU hE
    have e0 : ρx 0 = z := eQ 0 (by decide)
    have e1 : ρx 1 = (pgv 21 h) := eQ 1 (by decide)
    have e2 : ρx 2 = a.toInt := eQ 2 (by decide)
    have e3 : ρx 3 = b.toInt := eQ 3 (by decide)
    have e4 : ρx 4 = c.toInt := eQ 4 (by decide)
    have e5 : ρx 5 = d.toInt := eQ 5 (by decide)
    have e6 : ρx 6 = e.toInt := eQ 6 (by decide)
    have e7 : ρx 7 = (h.1 544 0).toInt := eQ 7 (by decide)
    have e8 : ρx 8 = (h.1 544 1).toInt := eQ 8 (by decide)
    have e9 : ρx 9 = (h.1 544 2).toInt := eQ 9 (by decide)
    have e10 : ρx 10 = (h.1 544 3).toInt := eQ 10 (by decide)
    have e11 : ρx 11 = (h.1 545 0).toInt := eQ 11 (by decide)
    have e12 : ρx 12 = (h.1 544 4).toInt := eQ 12 (by decide)
    have e13 : ρx 13 = (h.1 544 5).toInt := eQ 13 (by decide)
    have e14 : ρx 14 = (h.1 544 6).toInt := eQ 14 (by decide)
    have e15 : ρx 15 = (h.1 544 7).toInt := eQ 15 (by decide)
    have e16 : ρx 16 = (h.1 545 1).toInt := eQ 16 (by decide)
    have e17 : ρx 17 = (h.1 544 8).toInt := eQ 17 (by decide)
    have e18 : ρx 18 = (h.1 544 9).toInt := eQ 18 (by decide)
    have e19 : ρx 19 = (h.1 544 10).toInt := eQ 19 (by decide)
    have e20 : ρx 20 = (h.1 544 11).toInt := eQ 20 (by decide)
    have e21 : ρx 21 = (h.1 545 2).toInt := eQ 21 (by decide)
    have e22 : ρx 22 = (h.1 544 12).toInt := eQ 22 (by decide)
    have e23 : ρx 23 = (h.1 544 13).toInt := eQ 23 (by decide)
    have e24 : ρx 24 = (h.1 544 14).toInt := eQ 24 (by decide)
    have e25 : ρx 25 = (h.1 544 15).toInt := eQ 25 (by decide)
    have e26 : ρx 26 = (h.1 545 3).toInt := eQ 26 (by decide)
    have e27 : ρx 27 = (h.1 544 16).toInt := eQ 27 (by decide)
    have e28 : ρx 28 = (h.1 544 17).toInt := eQ 28 (by decide)
    have e29 : ρx 29 = (h.1 544 18).toInt := eQ 29 (by decide)
    have e30 : ρx 30 = (h.1 544 19).toInt := eQ 30 (by decide)
    have e31 : ρx 31 = (h.1 545 4).toInt := eQ 31 (by decide)
    have e32 : ρx 32 = (h.1 546 0).toInt := eQ 32 (by decide)
    have e33 : ρx 33 = (h.1 546 20).toInt := eQ 33 (by decide)
    have e34 : ρx 34 = (h.1 440 2).toInt := eQ 34 (by decide)
    have e35 : ρx 35 = (h.1 547 ((0 + (1 * z + 0) : Int)).toNat).toInt := eQ 35 (by decide)
    have hr : x.toInt = (0 + (1 * ρx 33 + 0) : Int) := hr
    have m0 : (h'.1 440 2).toInt = (0 + (1 * ρx 33 + 0) : Int) := psm_u (k := 440) (by decide) (by decide +kernel) m0 (2) rfl
    have k0 : ((-240) + (1 * ρx 33 + 0) : Int) ≤ 0 := k0
    rw [e33] at k0
    have k1 : (0 + ((-1) * ρx 33 + (1 * ρx 34 + 0)) : Int) ≤ 0 := k1
    rw [e33, e34] at k1
    have k2 : (0 + ((-1) * ρx 0 + (1 * ρx 33 + 0)) : Int) ≤ 0 := k2
    rw [e0, e33] at k2
    exact Or.inr (Or.inr (⟨(by rw [hr, e33]), (m0.trans (by rw [e33])), k0, k1, k2⟩))
