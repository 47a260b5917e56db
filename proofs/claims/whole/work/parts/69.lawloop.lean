/-! the law: its loop and its start -/
section LL
variable {κ : Nat × Nat} {b L : Nat} {xs : Nat → Int32} {h m j F : Nat} {ad : Nat → Nat} {M1 M2 : Mm} {ar : Ar} {nm : Nat → Int64} {sc : Sc}
theorem lw_a0 (hj : j < 512) (hjL : 3 * j + 4 ≤ L) (hL : L ≤ 1537) (hH : HD κ b L xs h m ad (j + 1)) (hI : IV j M1 h ar nm sc F) (hM : MoR M2 m ad ar nm sc) : GL κ b L xs M1 M2 42 (LVs b h m j) [.int (nI 0)] (37 * (512 - j) + 17 * F) (1918 * (512 - j) + 418 * F) := gl_tableIn (tgt := 144) d_Law_law_42 (by decide) (by decide) rfl (by decide) (lw_op1 (pc := 144) hj hjL hL hH hI hM (o_sign hI hj) s_Law_law_144 d_Law_law_149 l_Law_21 d_Law_law_150 (by decide) s_Law_law_153 d_Law_law_158 l_Law_25 d_Law_law_159 (by decide) d_Law_law_162 (by decide))
theorem lw_a1 (hj : j < 512) (hjL : 3 * j + 4 ≤ L) (hL : L ≤ 1537) (hH : HD κ b L xs h m ad (j + 1)) (hI : IV j M1 h ar nm sc F) (hM : MoR M2 m ad ar nm sc) : GL κ b L xs M1 M2 42 (LVs b h m j) [.int (nI 1)] (37 * (512 - j) + 17 * F) (1918 * (512 - j) + 418 * F) := gl_tableIn (tgt := 167) d_Law_law_42 (by decide) (by decide) rfl (by decide) (lw_op0 (pc := 167) hj hH hI hM (o_erase hI hj) s_Law_law_167 l_Law_26 d_Law_law_168 (by decide) s_Law_law_171 l_Law_30 d_Law_law_172 (by decide) d_Law_law_175 (by decide))
theorem lw_a2 (hj : j < 512) (hjL : 3 * j + 4 ≤ L) (hL : L ≤ 1537) (hH : HD κ b L xs h m ad (j + 1)) (hI : IV j M1 h ar nm sc F) (hM : MoR M2 m ad ar nm sc) : GL κ b L xs M1 M2 42 (LVs b h m j) [.int (nI 2)] (37 * (512 - j) + 17 * F) (1918 * (512 - j) + 418 * F) := gl_tableIn (tgt := 180) d_Law_law_42 (by decide) (by decide) rfl (by decide) (lw_op2 (pc := 180) hj hjL hL hH hI hM (o_want hI hj) s_Law_law_180 d_Law_law_185 s_Law_law_186 d_Law_law_190 l_Law_31 d_Law_law_191 (by decide) s_Law_law_194 d_Law_law_199 s_Law_law_200 d_Law_law_204 l_Law_35 d_Law_law_205 (by decide) d_Law_law_208 (by decide))
theorem lw_a3 (hj : j < 512) (hjL : 3 * j + 4 ≤ L) (hL : L ≤ 1537) (hH : HD κ b L xs h m ad (j + 1)) (hI : IV j M1 h ar nm sc F) (hM : MoR M2 m ad ar nm sc) : GL κ b L xs M1 M2 42 (LVs b h m j) [.int (nI 3)] (37 * (512 - j) + 17 * F) (1918 * (512 - j) + 418 * F) := gl_tableIn (tgt := 213) d_Law_law_42 (by decide) (by decide) rfl (by decide) (lw_op1 (pc := 213) hj hjL hL hH hI hM (o_free hI hj) s_Law_law_213 d_Law_law_218 l_Law_36 d_Law_law_219 (by decide) s_Law_law_222 d_Law_law_227 l_Law_39 d_Law_law_228 (by decide) d_Law_law_231 (by decide))
theorem lw_a4 (hj : j < 512) (hjL : 3 * j + 4 ≤ L) (hL : L ≤ 1537) (hH : HD κ b L xs h m ad (j + 1)) (hI : IV j M1 h ar nm sc F) (hM : MoR M2 m ad ar nm sc) : GL κ b L xs M1 M2 42 (LVs b h m j) [.int (nI 4)] (37 * (512 - j) + 17 * F) (1918 * (512 - j) + 418 * F) := gl_tableIn (tgt := 236) d_Law_law_42 (by decide) (by decide) rfl (by decide) (lw_op2 (pc := 236) hj hjL hL hH hI hM (o_renew hI hj) s_Law_law_236 d_Law_law_241 s_Law_law_242 d_Law_law_246 l_Law_40 d_Law_law_247 (by decide) s_Law_law_250 d_Law_law_255 s_Law_law_256 d_Law_law_260 l_Law_43 d_Law_law_261 (by decide) d_Law_law_264 (by decide))
theorem lw_a5 (hj : j < 512) (hjL : 3 * j + 4 ≤ L) (hL : L ≤ 1537) (hH : HD κ b L xs h m ad (j + 1)) (hI : IV j M1 h ar nm sc F) (hM : MoR M2 m ad ar nm sc) : GL κ b L xs M1 M2 42 (LVs b h m j) [.int (nI 5)] (37 * (512 - j) + 17 * F) (1918 * (512 - j) + 418 * F) := gl_tableIn (tgt := 269) d_Law_law_42 (by decide) (by decide) rfl (by decide) (lw_op1 (pc := 269) hj hjL hL hH hI hM (o_leave hI hj) s_Law_law_269 d_Law_law_274 l_Law_44 d_Law_law_275 (by decide) s_Law_law_278 d_Law_law_283 l_Law_47 d_Law_law_284 (by decide) d_Law_law_287 (by decide))
theorem lw_a6 (hj : j < 512) (hjL : 3 * j + 4 ≤ L) (hL : L ≤ 1537) (hH : HD κ b L xs h m ad (j + 1)) (hI : IV j M1 h ar nm sc F) (hM : MoR M2 m ad ar nm sc) : GL κ b L xs M1 M2 42 (LVs b h m j) [.int (nI 6)] (37 * (512 - j) + 17 * F) (1918 * (512 - j) + 418 * F) := gl_tableIn (tgt := 292) d_Law_law_42 (by decide) (by decide) rfl (by decide) (lw_op1 (pc := 292) hj hjL hL hH hI hM (o_tick hI hj) s_Law_law_292 d_Law_law_297 l_Law_48 d_Law_law_298 (by decide) s_Law_law_301 d_Law_law_306 l_Law_51 d_Law_law_307 (by decide) d_Law_law_310 (by decide))
theorem lw_a7 (hj : j < 512) (hjL : 3 * j + 4 ≤ L) (hL : L ≤ 1537) (hH : HD κ b L xs h m ad (j + 1)) (hI : IV j M1 h ar nm sc F) (hM : MoR M2 m ad ar nm sc) : GL κ b L xs M1 M2 42 (LVs b h m j) [.int (nI 7)] (37 * (512 - j) + 17 * F) (1918 * (512 - j) + 418 * F) := gl_tableIn (tgt := 315) d_Law_law_42 (by decide) (by decide) rfl (by decide) (lw_op0 (pc := 315) hj hH hI hM (o_holder hI hj) s_Law_law_315 l_Law_52 d_Law_law_316 (by decide) s_Law_law_319 l_Law_55 d_Law_law_320 (by decide) d_Law_law_323 (by decide))
theorem lw_a8 (hj : j < 512) (hjL : 3 * j + 4 ≤ L) (hL : L ≤ 1537) (hH : HD κ b L xs h m ad (j + 1)) (hI : IV j M1 h ar nm sc F) (hM : MoR M2 m ad ar nm sc) : GL κ b L xs M1 M2 42 (LVs b h m j) [.int (nI 8)] (37 * (512 - j) + 17 * F) (1918 * (512 - j) + 418 * F) := gl_tableIn (tgt := 328) d_Law_law_42 (by decide) (by decide) rfl (by decide) (lw_op0 (pc := 328) hj hH hI hM (o_left hI hj) s_Law_law_328 l_Law_56 d_Law_law_329 (by decide) s_Law_law_332 l_Law_59 d_Law_law_333 (by decide) d_Law_law_336 (by decide))
theorem lw_a9 (hj : j < 512) (hjL : 3 * j + 4 ≤ L) (hL : L ≤ 1537) (hH : HD κ b L xs h m ad (j + 1)) (hI : IV j M1 h ar nm sc F) (hM : MoR M2 m ad ar nm sc) : GL κ b L xs M1 M2 42 (LVs b h m j) [.int (nI 9)] (37 * (512 - j) + 17 * F) (1918 * (512 - j) + 418 * F) := gl_tableIn (tgt := 341) d_Law_law_42 (by decide) (by decide) rfl (by decide) (lw_op1 (pc := 341) hj hjL hL hH hI hM (o_waiting hI hj) s_Law_law_341 d_Law_law_346 l_Law_60 d_Law_law_347 (by decide) s_Law_law_350 d_Law_law_355 l_Law_63 d_Law_law_356 (by decide) d_Law_law_359 (by decide))
theorem lw_a10 (hj : j < 512) (hjL : 3 * j + 4 ≤ L) (hL : L ≤ 1537) (hH : HD κ b L xs h m ad (j + 1)) (hI : IV j M1 h ar nm sc F) (hM : MoR M2 m ad ar nm sc) : GL κ b L xs M1 M2 42 (LVs b h m j) [.int (nI 10)] (37 * (512 - j) + 17 * F) (1918 * (512 - j) + 418 * F) := gl_tableIn (tgt := 364) d_Law_law_42 (by decide) (by decide) rfl (by decide) (lw_op0 (pc := 364) hj hH hI hM (o_first hI hj) s_Law_law_364 l_Law_64 d_Law_law_365 (by decide) s_Law_law_368 l_Law_67 d_Law_law_369 (by decide) d_Law_law_372 (by decide))
theorem lw_a11 (hj : j < 512) (hjL : 3 * j + 4 ≤ L) (hL : L ≤ 1537) (hH : HD κ b L xs h m ad (j + 1)) (hI : IV j M1 h ar nm sc F) (hM : MoR M2 m ad ar nm sc) : GL κ b L xs M1 M2 42 (LVs b h m j) [.int (nI 11)] (37 * (512 - j) + 17 * F) (1918 * (512 - j) + 418 * F) := gl_tableIn (tgt := 377) d_Law_law_42 (by decide) (by decide) rfl (by decide) (lw_op2 (pc := 377) hj hjL hL hH hI hM (o_job hI hj) s_Law_law_377 d_Law_law_382 s_Law_law_383 d_Law_law_387 l_Law_68 d_Law_law_388 (by decide) s_Law_law_391 d_Law_law_396 s_Law_law_397 d_Law_law_401 l_Law_71 d_Law_law_402 (by decide) d_Law_law_405 (by decide))
theorem lw_a12 (hj : j < 512) (hjL : 3 * j + 4 ≤ L) (hL : L ≤ 1537) (hH : HD κ b L xs h m ad (j + 1)) (hI : IV j M1 h ar nm sc F) (hM : MoR M2 m ad ar nm sc) : GL κ b L xs M1 M2 42 (LVs b h m j) [.int (nI 12)] (37 * (512 - j) + 17 * F) (1918 * (512 - j) + 418 * F) := gl_tableIn (tgt := 410) d_Law_law_42 (by decide) (by decide) rfl (by decide) (lw_opJ (pc := 410) hj hH hI hM (o_work hI hj) s_Law_law_410 l_Law_72 d_Law_law_411 (by decide) s_Law_law_414 l_Law_76 d_Law_law_415 (by decide) d_Law_law_418 d_Law_law_419 (by decide))
theorem lw_a13 (hj : j < 512) (hjL : 3 * j + 4 ≤ L) (hL : L ≤ 1537) (hH : HD κ b L xs h m ad (j + 1)) (hI : IV j M1 h ar nm sc F) (hM : MoR M2 m ad ar nm sc) : GL κ b L xs M1 M2 42 (LVs b h m j) [.int (nI 13)] (37 * (512 - j) + 17 * F) (1918 * (512 - j) + 418 * F) := gl_tableIn (tgt := 424) d_Law_law_42 (by decide) (by decide) rfl (by decide) (lw_op0 (pc := 424) hj hH hI hM (o_cancel hI hj) s_Law_law_424 l_Law_77 d_Law_law_425 (by decide) s_Law_law_428 l_Law_80 d_Law_law_429 (by decide) d_Law_law_432 (by decide))
theorem lw_a14 (hj : j < 512) (hjL : 3 * j + 4 ≤ L) (hL : L ≤ 1537) (hH : HD κ b L xs h m ad (j + 1)) (hI : IV j M1 h ar nm sc F) (hM : MoR M2 m ad ar nm sc) : GL κ b L xs M1 M2 42 (LVs b h m j) [.int (nI 14)] (37 * (512 - j) + 17 * F) (1918 * (512 - j) + 418 * F) := gl_tableIn (tgt := 437) d_Law_law_42 (by decide) (by decide) rfl (by decide) (lw_op0 (pc := 437) hj hH hI hM (o_ask hI hj) s_Law_law_437 l_Law_81 d_Law_law_438 (by decide) s_Law_law_441 l_Law_84 d_Law_law_442 (by decide) d_Law_law_445 (by decide))
theorem lw_a15 (hj : j < 512) (hjL : 3 * j + 4 ≤ L) (hL : L ≤ 1537) (hH : HD κ b L xs h m ad (j + 1)) (hI : IV j M1 h ar nm sc F) (hM : MoR M2 m ad ar nm sc) : GL κ b L xs M1 M2 42 (LVs b h m j) [.int (nI 15)] (37 * (512 - j) + 17 * F) (1918 * (512 - j) + 418 * F) := gl_tableIn (tgt := 450) d_Law_law_42 (by decide) (by decide) rfl (by decide) (lw_op0 (pc := 450) hj hH hI hM (o_known hI hj) s_Law_law_450 l_Law_85 d_Law_law_451 (by decide) s_Law_law_454 l_Law_89 d_Law_law_455 (by decide) d_Law_law_458 (by decide))
theorem lw_a16 (hj : j < 512) (hjL : 3 * j + 4 ≤ L) (hL : L ≤ 1537) (hH : HD κ b L xs h m ad (j + 1)) (hI : IV j M1 h ar nm sc F) (hM : MoR M2 m ad ar nm sc) : GL κ b L xs M1 M2 42 (LVs b h m j) [.int (nI 16)] (37 * (512 - j) + 17 * F) (1918 * (512 - j) + 418 * F) := gl_tableIn (tgt := 463) d_Law_law_42 (by decide) (by decide) rfl (by decide) (lw_op1 (pc := 463) hj hjL hL hH hI hM (o_watch hI hj) s_Law_law_463 d_Law_law_468 l_Law_90 d_Law_law_469 (by decide) s_Law_law_472 d_Law_law_477 l_Law_93 d_Law_law_478 (by decide) d_Law_law_481 (by decide))
theorem lw_a17 (hj : j < 512) (hjL : 3 * j + 4 ≤ L) (hL : L ≤ 1537) (hH : HD κ b L xs h m ad (j + 1)) (hI : IV j M1 h ar nm sc F) (hM : MoR M2 m ad ar nm sc) : GL κ b L xs M1 M2 42 (LVs b h m j) [.int (nI 17)] (37 * (512 - j) + 17 * F) (1918 * (512 - j) + 418 * F) := gl_tableIn (tgt := 486) d_Law_law_42 (by decide) (by decide) rfl (by decide) (lw_op1 (pc := 486) hj hjL hL hH hI hM (o_note hI hj) s_Law_law_486 d_Law_law_491 l_Law_94 d_Law_law_492 (by decide) s_Law_law_495 d_Law_law_500 l_Law_97 d_Law_law_501 (by decide) d_Law_law_504 (by decide))
theorem lw_a18 (hj : j < 512) (hjL : 3 * j + 4 ≤ L) (hL : L ≤ 1537) (hH : HD κ b L xs h m ad (j + 1)) (hI : IV j M1 h ar nm sc F) (hM : MoR M2 m ad ar nm sc) : GL κ b L xs M1 M2 42 (LVs b h m j) [.int (nI 18)] (37 * (512 - j) + 17 * F) (1918 * (512 - j) + 418 * F) := gl_tableIn (tgt := 509) d_Law_law_42 (by decide) (by decide) rfl (by decide) (lw_op2 (pc := 509) hj hjL hL hH hI hM (o_waits hI hj) s_Law_law_509 d_Law_law_514 s_Law_law_515 d_Law_law_519 l_Law_98 d_Law_law_520 (by decide) s_Law_law_523 d_Law_law_528 s_Law_law_529 d_Law_law_533 l_Law_101 d_Law_law_534 (by decide) d_Law_law_537 (by decide))
theorem lw_a19 (hj : j < 512) (hjL : 3 * j + 4 ≤ L) (hL : L ≤ 1537) (hH : HD κ b L xs h m ad (j + 1)) (hI : IV j M1 h ar nm sc F) (hM : MoR M2 m ad ar nm sc) : GL κ b L xs M1 M2 42 (LVs b h m j) [.int (nI 19)] (37 * (512 - j) + 17 * F) (1918 * (512 - j) + 418 * F) := gl_tableIn (tgt := 542) d_Law_law_42 (by decide) (by decide) rfl (by decide) (lw_op1 (pc := 542) hj hjL hL hH hI hM (o_waited hI hj) s_Law_law_542 d_Law_law_547 l_Law_102 d_Law_law_548 (by decide) s_Law_law_551 d_Law_law_556 l_Law_105 d_Law_law_557 (by decide) d_Law_law_560 (by decide))
theorem lw_a20 (hj : j < 512) (hjL : 3 * j + 4 ≤ L) (hL : L ≤ 1537) (hH : HD κ b L xs h m ad (j + 1)) (hI : IV j M1 h ar nm sc F) (hM : MoR M2 m ad ar nm sc) : GL κ b L xs M1 M2 42 (LVs b h m j) [.int (nI 20)] (37 * (512 - j) + 17 * F) (1918 * (512 - j) + 418 * F) := gl_tableIn (tgt := 565) d_Law_law_42 (by decide) (by decide) rfl (by decide) (lw_op1 (pc := 565) hj hjL hL hH hI hM (o_letter hI hj) s_Law_law_565 d_Law_law_570 l_Law_106 d_Law_law_571 (by decide) s_Law_law_574 d_Law_law_579 l_Law_109 d_Law_law_580 (by decide) d_Law_law_583 (by decide))
theorem lw_a21 (hj : j < 512) (hjL : 3 * j + 4 ≤ L) (hL : L ≤ 1537) (hH : HD κ b L xs h m ad (j + 1)) (hI : IV j M1 h ar nm sc F) (hM : MoR M2 m ad ar nm sc) : GL κ b L xs M1 M2 42 (LVs b h m j) [.int (nI 21)] (37 * (512 - j) + 17 * F) (1918 * (512 - j) + 418 * F) := gl_tableIn (tgt := 588) d_Law_law_42 (by decide) (by decide) rfl (by decide) (lw_op1 (pc := 588) hj hjL hL hH hI hM (o_count hI hj) s_Law_law_588 d_Law_law_593 l_Law_110 d_Law_law_594 (by decide) s_Law_law_597 d_Law_law_602 l_Law_113 d_Law_law_603 (by decide) d_Law_law_606 (by decide))
theorem lw_table {k : Nat} (hk : k ≤ 31) (hj : j < 512) (hjL : 3 * j + 4 ≤ L) (hL : L ≤ 1537) (hH : HD κ b L xs h m ad (j + 1)) (hI : IV j M1 h ar nm sc F) (hM : MoR M2 m ad ar nm sc) : GL κ b L xs M1 M2 42 (LVs b h m j) [.int (nI k)] (37 * (512 - j) + 17 * F) (1918 * (512 - j) + 418 * F) := by
  have hcs : k = 0 ∨ k = 1 ∨ k = 2 ∨ k = 3 ∨ k = 4 ∨ k = 5 ∨ k = 6 ∨ k = 7 ∨ k = 8 ∨ k = 9 ∨ k = 10 ∨ k = 11 ∨ k = 12 ∨ k = 13 ∨ k = 14 ∨ k = 15 ∨ k = 16 ∨ k = 17 ∨ k = 18 ∨ k = 19 ∨ k = 20 ∨ k = 21 ∨ 22 ≤ k := by omega
  rcases hcs with rfl | rfl | rfl | rfl | rfl | rfl | rfl | rfl | rfl | rfl | rfl | rfl | rfl | rfl | rfl | rfl | rfl | rfl | rfl | rfl | rfl | rfl | hk2
  · exact lw_a0 hj hjL hL hH hI hM
  · exact lw_a1 hj hjL hL hH hI hM
  · exact lw_a2 hj hjL hL hH hI hM
  · exact lw_a3 hj hjL hL hH hI hM
  · exact lw_a4 hj hjL hL hH hI hM
  · exact lw_a5 hj hjL hL hH hI hM
  · exact lw_a6 hj hjL hL hH hI hM
  · exact lw_a7 hj hjL hL hH hI hM
  · exact lw_a8 hj hjL hL hH hI hM
  · exact lw_a9 hj hjL hL hH hI hM
  · exact lw_a10 hj hjL hL hH hI hM
  · exact lw_a11 hj hjL hL hH hI hM
  · exact lw_a12 hj hjL hL hH hI hM
  · exact lw_a13 hj hjL hL hH hI hM
  · exact lw_a14 hj hjL hL hH hI hM
  · exact lw_a15 hj hjL hL hH hI hM
  · exact lw_a16 hj hjL hL hH hI hM
  · exact lw_a17 hj hjL hL hH hI hM
  · exact lw_a18 hj hjL hL hH hI hM
  · exact lw_a19 hj hjL hL hH hI hM
  · exact lw_a20 hj hjL hL hH hI hM
  · exact lw_a21 hj hjL hL hH hI hM
  · have e : (nI k).toInt = (k : Int) := nI_toInt (by omega)
    refine gl_tableOut (tgt := 611) d_Law_law_42 (Or.inr (by rw [e]; omega)) (by decide) ?_
    refine gl_le (lw_next (F := F) (kx := 0) (nx := 0) hj hH hM ?_) (by omega) (by omega)
    obtain ⟨T, JM, C, B, W, tp, u, hX, hN, hT, rfl⟩ := hI
    exact ⟨_, by omega, by omega, T, JM, C, B, W, tp, u, hX, hN.mono (by omega), hT.up, rfl⟩
theorem lw_step (hL : L ≤ 1537) (hH : j < 512 → HD κ b L xs h m ad (j + 1)) : j ≤ 512 → HD κ b L xs h m ad j := by
  intro hj M1 M2 ar nm sc F hI hM
  refine gl_seq s_Law_law_28 rfl ?_
  refine gl_slen d_Law_law_30 ?_
  refine gl_seq s_Law_law_31 rfl ?_
  have e1 : (nI L).toInt = (L : Int) := nI_toInt (by omega)
  have e2 : (nI (1 + 3 * j)).toInt = ((1 + 3 * j : Nat) : Int) := nI_toInt (by omega)
  have e4 : (3 : Int32).toInt = 3 := rfl
  have e3 : (nI L - 3).toInt = (L : Int) - 3 := by rw [subT (by omega) (by omega), e1, e4]
  refine gl_icmp_gt (tgt := 617) d_Law_law_33 (by decide) (fun _ => ?_) (fun hc => ?_)
  · exact gl_seq s_Law_law_617 rfl (gl_ret d_Law_law_618)
  · have hjL : 3 * j + 4 ≤ L := by
      rw [Int32.lt_iff_toInt_lt, e3, e2] at hc
      omega
    have hj' : j < 512 := by omega
    refine gl_seq s_Law_law_36 rfl ?_
    refine gl_sld (j := 1 + 3 * j) d_Law_law_38 rfl (by omega) (by omega) ?_
    refine gl_seq s_Law_law_39 rfl ?_
    obtain ⟨k, hk, e⟩ := and31 (xs (1 + 3 * j))
    have hg := lw_table hk hj' hjL hL (hH hj') hI hM
    rw [← e] at hg
    exact hg
theorem lw_head (hL : L ≤ 1537) : ∀ n j, j + n = 512 → HD κ b L xs h m ad j := by
  intro n
  induction n with
  | zero => intro j hj; exact lw_step hL (fun h => by omega) (by omega)
  | succ n ih => intro j hj; exact lw_step hL (fun h => ih (j + 1) (by omega)) (by omega)
theorem lw_go (hL : L ≤ 1537) : GL κ b L xs (fun _ => none) (fun _ => none) 0 (ent [.ref b] 4) [] 600000 7302250 := by
  refine gl_new (k' := 599999) (n' := 7302243) n_Law_7 d_Law_law_0 (by omega) (by decide) (fun h hh => ?_)
  refine gl_seq s_Law_law_3 rfl ?_
  refine gl_cell d_Law_law_6 rfl (by show 2 ≤ 8; decide) (fun v0 => ?_)
  refine gl_invI (d := 11) (k2 := 500000) (n2 := 7000000) l_Law_15 d_Law_law_9 rfl ⟨rfl, (show 2 ≤ m_LH_init.2.2.1 by decide), by show 1 ≤ 8; decide⟩ (by omega) (x_init up_s) (by omega) (by omega) ?_
  rintro v M1' ⟨rfl, hX⟩
  refine gl_seq s_Law_law_12 rfl ?_
  refine GL.swap (gl_new (k' := 400000) (n' := 6000000) n_Law_18 d_Law_law_13 (by omega) (by decide) (fun m hm => ?_))
  refine gl_seq s_Law_law_16 rfl ?_
  refine gl_cell d_Law_law_19 rfl (by show 2 ≤ 8; decide) (fun v1 => ?_)
  refine gl_invI (d := 11) (k2 := 300000) (n2 := 5000000) l_Law_20 d_Law_law_22 rfl ⟨rfl, (show 2 ≤ m_Mo_init.2.2.1 by decide), by show 1 ≤ 8; decide⟩ (by omega) (m_init (show _ = some (eO 9 (moP (fun _ => 0) 0)) from up_s)) (by omega) (by omega) ?_
  rintro v M2' ⟨rfl, ad, hMo⟩
  refine GL.swap ?_
  refine gl_seq s_Law_law_25 rfl ?_
  have hI : IV 0 M1' h (fun _ _ => 0) (fun _ => 0) (fun _ => 0) 0 := ⟨[], [], [], fun _ => [], [], [], 0, hX, ⟨0, fun _ => [], Nat.le_refl _, NS_0⟩, ⟨List.nodup_nil, Nat.le_refl _, Nat.le_refl _, (fun i t ht => by cases ht), Nat.le_refl _⟩, rfl⟩
  exact gl_le (lw_head (h := h) (m := m) (ad := ad) hL 512 0 rfl M1' M2' _ _ _ 0 hI hMo) (by omega) (by omega)
end LL
theorem whole_start {p : Program} {e : Env} {s : State} {m : MethodId} {below : List Frame} {meth : Method} {c : Code} (l : Launch) {b L : Nat} {xs : Nat → Int32} (hL : L ≤ 1537) (C0 : lw_At p s m meth c b L xs) : W p l e room_1 s m #[Value.ref b] below meth c s.heap [] 0 0 (lw_Z below #[Value.ref b] s) (entryFrame m ([Value.ref b] : List Value).toArray 4) := by
  obtain ⟨κ, D, hC, hM⟩ := law_env C0
  rw [lg_entry_eq]
  exact lw_go hL p l e s m below meth c D s.heap [] 0 0 _ hC va_S.rf hM (lh_ent (vs := [.ref b]) (n := 4) rfl (show 1 ≤ 4 by decide))
