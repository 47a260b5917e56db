/-! THE CLAIM OUT OF ONE WALK OF THE LAW'S BODY. Your part is whole_start (and what it stands on); all else here is the same for every law, but numbers. -/
def R_law : String := "LeaseHouseLaw"
def lw_P (b : Addr) (xs : List Int32) (args : Array Value) (s : State) : Prop := args = #[.ref b] ∧ s.IntsAt b xs ∧ xs.length ≤ 1537 ∧ (Jvm.Cond.and given_1 narrow_1).before args s = true
def lw_Q (_ : Array Value) (s : State) (o : Outcome) (t : State) : Prop := o = .returned (some (.int 1)) ∧ Framed s o t [] 600000 7302250
def lw_Z (below : List Frame) (a : Array Value) (s : State) : State → Prop := fun t => ∃ o, t.status = .running ∧ Ended t below o ∧ lw_Q a s o t
/-- the law's own end, with 1 on the stack, nothing written that was there before, its room as the claim has it -/
theorem lw_ret {p : Program} {l : Launch} {e : Env} {s : State} {m : MethodId} {below : List Frame} {meth : Method} {c : Code} {b : Nat} (hx : p.tables.exec = Jvm.exec) (hb : c.code = code) (hr : meth.sig.returnType = ret) (hlocks : meth.locks = false) {pc : Nat} {H : Heap} {ls : Array Slot} (hdg : decode code pc = .ok (.ireturn, 1)) : W p l e room_1 s m #[Value.ref b] below meth c H [] 600000 7302250 (lw_Z below #[Value.ref b] s) (F0 m pc ls [.int 1]) := by
  intro T hT X
  obtain ⟨fs, hret, hrun, hended, hW, hframe⟩ := X.leave (v := some (.int 1)) (hlocks := hlocks) (fun h => by rw [hr] at h; cases h)
  have hmeth' : T.vm.method? m = some meth := X.method'
  refine ⟨T.setFrames fs, ?_, .returned (some (.int 1)), hrun, hended, rfl, ⟨_, rfl⟩, hW, hframe⟩
  jvm_step X.here [X.here.top, hx, hb, hdg, hmeth', hr, ret, narrow_b1]
  (try refine ⟨rfl, ?_⟩); (try refine ⟨rfl, ?_⟩)
  first | (intro acts; rw [hret _ acts rfl rfl rfl]) | rw [hret _ _ rfl rfl rfl]
  exact Steps.refl _
/-- what holds at the law's entry: the machine, the code, the tables' words (any of lw_tbl by 'hts w (by decide +kernel)'), the script of L ints xs at the cell b, what the Statement gives of the start (any of its parts by flat_of_before) -/
def lw_At (p : Program) (s : State) (m : MethodId) (meth : Method) (c : Code) (b L : Nat) (xs : Nat → Int32) : Prop :=
  p.tables.exec = Jvm.exec ∧ c.code = code ∧ meth.sig.returnType = ret ∧ c.maxLocals = 4 ∧ s.vm.findClass R_law = some m.cls ∧ (∀ w ∈ lw_tbl, w.before #[Value.ref b] s = true) ∧ va_X b L xs s s.heap ∧ b < s.heap.size ∧ meth.locks = false ∧ (Jvm.Cond.and given_1 narrow_1).before #[Value.ref b] s = true
abbrev c_Law_law : ByteArray := code
theorem s_Law_cell_0 : dsq c_Law_cell 0 [(.iload_n 1, 1, 0), (.aload_n 0, 1, 0)] 2 = true := by decide +kernel
theorem s_Law_cell_6 : dsq c_Law_cell 6 [(.aload_n 0, 1, 0), (.iload_n 1, 1, 0)] 8 = true := by decide +kernel
theorem s_Law_cell_9 : dsq c_Law_cell 9 [(.goto 4, 3, 0)] 13 = true := by decide +kernel
theorem s_Law_cell_12 : dsq c_Law_cell 12 [(.iconst 0, 1, 0)] 13 = true := by decide +kernel
theorem d_Law_cell_2 : decode c_Law_cell 2 = .ok (.arraylength, 1) := by decide +kernel
theorem d_Law_cell_3 : decode c_Law_cell 3 = .ok (.if_icmp .ge 9, 3) := by decide +kernel
theorem d_Law_cell_8 : decode c_Law_cell 8 = .ok (.iaload, 1) := by decide +kernel
theorem d_Law_cell_13 : decode c_Law_cell 13 = .ok (.ireturn, 1) := by decide +kernel
theorem s_Law_law_3 : dsq c_Law_law 3 [(.dup, 1, 0), (.aload_n 0, 1, 0), (.iconst 0, 1, 0)] 6 = true := by decide +kernel
theorem s_Law_law_12 : dsq c_Law_law 12 [(.astore_n 1, 1, 0)] 13 = true := by decide +kernel
theorem s_Law_law_16 : dsq c_Law_law 16 [(.dup, 1, 0), (.aload_n 0, 1, 0), (.iconst 0, 1, 0)] 19 = true := by decide +kernel
theorem s_Law_law_25 : dsq c_Law_law 25 [(.astore_n 2, 1, 0), (.iconst 1, 1, 1), (.istore_n 3, 1, 0)] 28 = true := by decide +kernel
theorem s_Law_law_28 : dsq c_Law_law 28 [(.iload_n 3, 1, 0), (.aload_n 0, 1, 0)] 30 = true := by decide +kernel
theorem s_Law_law_31 : dsq c_Law_law 31 [(.iconst 3, 1, 3), (.isub, 1, 0)] 33 = true := by decide +kernel
theorem s_Law_law_36 : dsq c_Law_law 36 [(.aload_n 0, 1, 0), (.iload_n 3, 1, 0)] 38 = true := by decide +kernel
theorem s_Law_law_39 : dsq c_Law_law 39 [(.bipush 31, 2, 31), (.iand, 1, 0)] 42 = true := by decide +kernel
theorem s_Law_law_144 : dsq c_Law_law 144 [(.aload_n 1, 1, 0), (.aload_n 0, 1, 0), (.iload_n 3, 1, 0), (.iconst 1, 1, 1), (.iadd, 1, 0)] 149 = true := by decide +kernel
theorem s_Law_law_153 : dsq c_Law_law 153 [(.aload_n 2, 1, 0), (.aload_n 0, 1, 0), (.iload_n 3, 1, 0), (.iconst 1, 1, 1), (.iadd, 1, 0)] 158 = true := by decide +kernel
theorem s_Law_law_165 : dsq c_Law_law 165 [(.iconst 0, 1, 0)] 166 = true := by decide +kernel
theorem s_Law_law_167 : dsq c_Law_law 167 [(.aload_n 1, 1, 0)] 168 = true := by decide +kernel
theorem s_Law_law_171 : dsq c_Law_law 171 [(.aload_n 2, 1, 0)] 172 = true := by decide +kernel
theorem s_Law_law_178 : dsq c_Law_law 178 [(.iconst 0, 1, 0)] 179 = true := by decide +kernel
theorem s_Law_law_180 : dsq c_Law_law 180 [(.aload_n 1, 1, 0), (.aload_n 0, 1, 0), (.iload_n 3, 1, 0), (.iconst 1, 1, 1), (.iadd, 1, 0)] 185 = true := by decide +kernel
theorem s_Law_law_186 : dsq c_Law_law 186 [(.aload_n 0, 1, 0), (.iload_n 3, 1, 0), (.iconst 2, 1, 2), (.iadd, 1, 0)] 190 = true := by decide +kernel
theorem s_Law_law_194 : dsq c_Law_law 194 [(.aload_n 2, 1, 0), (.aload_n 0, 1, 0), (.iload_n 3, 1, 0), (.iconst 1, 1, 1), (.iadd, 1, 0)] 199 = true := by decide +kernel
theorem s_Law_law_200 : dsq c_Law_law 200 [(.aload_n 0, 1, 0), (.iload_n 3, 1, 0), (.iconst 2, 1, 2), (.iadd, 1, 0)] 204 = true := by decide +kernel
theorem s_Law_law_211 : dsq c_Law_law 211 [(.iconst 0, 1, 0)] 212 = true := by decide +kernel
theorem s_Law_law_213 : dsq c_Law_law 213 [(.aload_n 1, 1, 0), (.aload_n 0, 1, 0), (.iload_n 3, 1, 0), (.iconst 1, 1, 1), (.iadd, 1, 0)] 218 = true := by decide +kernel
theorem s_Law_law_222 : dsq c_Law_law 222 [(.aload_n 2, 1, 0), (.aload_n 0, 1, 0), (.iload_n 3, 1, 0), (.iconst 1, 1, 1), (.iadd, 1, 0)] 227 = true := by decide +kernel
theorem s_Law_law_234 : dsq c_Law_law 234 [(.iconst 0, 1, 0)] 235 = true := by decide +kernel
theorem s_Law_law_236 : dsq c_Law_law 236 [(.aload_n 1, 1, 0), (.aload_n 0, 1, 0), (.iload_n 3, 1, 0), (.iconst 1, 1, 1), (.iadd, 1, 0)] 241 = true := by decide +kernel
theorem s_Law_law_242 : dsq c_Law_law 242 [(.aload_n 0, 1, 0), (.iload_n 3, 1, 0), (.iconst 2, 1, 2), (.iadd, 1, 0)] 246 = true := by decide +kernel
theorem s_Law_law_250 : dsq c_Law_law 250 [(.aload_n 2, 1, 0), (.aload_n 0, 1, 0), (.iload_n 3, 1, 0), (.iconst 1, 1, 1), (.iadd, 1, 0)] 255 = true := by decide +kernel
theorem s_Law_law_256 : dsq c_Law_law 256 [(.aload_n 0, 1, 0), (.iload_n 3, 1, 0), (.iconst 2, 1, 2), (.iadd, 1, 0)] 260 = true := by decide +kernel
theorem s_Law_law_267 : dsq c_Law_law 267 [(.iconst 0, 1, 0)] 268 = true := by decide +kernel
theorem s_Law_law_269 : dsq c_Law_law 269 [(.aload_n 1, 1, 0), (.aload_n 0, 1, 0), (.iload_n 3, 1, 0), (.iconst 1, 1, 1), (.iadd, 1, 0)] 274 = true := by decide +kernel
theorem s_Law_law_278 : dsq c_Law_law 278 [(.aload_n 2, 1, 0), (.aload_n 0, 1, 0), (.iload_n 3, 1, 0), (.iconst 1, 1, 1), (.iadd, 1, 0)] 283 = true := by decide +kernel
theorem s_Law_law_290 : dsq c_Law_law 290 [(.iconst 0, 1, 0)] 291 = true := by decide +kernel
theorem s_Law_law_292 : dsq c_Law_law 292 [(.aload_n 1, 1, 0), (.aload_n 0, 1, 0), (.iload_n 3, 1, 0), (.iconst 1, 1, 1), (.iadd, 1, 0)] 297 = true := by decide +kernel
theorem s_Law_law_301 : dsq c_Law_law 301 [(.aload_n 2, 1, 0), (.aload_n 0, 1, 0), (.iload_n 3, 1, 0), (.iconst 1, 1, 1), (.iadd, 1, 0)] 306 = true := by decide +kernel
theorem s_Law_law_313 : dsq c_Law_law 313 [(.iconst 0, 1, 0)] 314 = true := by decide +kernel
theorem s_Law_law_315 : dsq c_Law_law 315 [(.aload_n 1, 1, 0)] 316 = true := by decide +kernel
theorem s_Law_law_319 : dsq c_Law_law 319 [(.aload_n 2, 1, 0)] 320 = true := by decide +kernel
theorem s_Law_law_326 : dsq c_Law_law 326 [(.iconst 0, 1, 0)] 327 = true := by decide +kernel
theorem s_Law_law_328 : dsq c_Law_law 328 [(.aload_n 1, 1, 0)] 329 = true := by decide +kernel
theorem s_Law_law_332 : dsq c_Law_law 332 [(.aload_n 2, 1, 0)] 333 = true := by decide +kernel
theorem s_Law_law_339 : dsq c_Law_law 339 [(.iconst 0, 1, 0)] 340 = true := by decide +kernel
theorem s_Law_law_341 : dsq c_Law_law 341 [(.aload_n 1, 1, 0), (.aload_n 0, 1, 0), (.iload_n 3, 1, 0), (.iconst 1, 1, 1), (.iadd, 1, 0)] 346 = true := by decide +kernel
theorem s_Law_law_350 : dsq c_Law_law 350 [(.aload_n 2, 1, 0), (.aload_n 0, 1, 0), (.iload_n 3, 1, 0), (.iconst 1, 1, 1), (.iadd, 1, 0)] 355 = true := by decide +kernel
theorem s_Law_law_362 : dsq c_Law_law 362 [(.iconst 0, 1, 0)] 363 = true := by decide +kernel
theorem s_Law_law_364 : dsq c_Law_law 364 [(.aload_n 1, 1, 0)] 365 = true := by decide +kernel
theorem s_Law_law_368 : dsq c_Law_law 368 [(.aload_n 2, 1, 0)] 369 = true := by decide +kernel
theorem s_Law_law_375 : dsq c_Law_law 375 [(.iconst 0, 1, 0)] 376 = true := by decide +kernel
theorem s_Law_law_377 : dsq c_Law_law 377 [(.aload_n 1, 1, 0), (.aload_n 0, 1, 0), (.iload_n 3, 1, 0), (.iconst 1, 1, 1), (.iadd, 1, 0)] 382 = true := by decide +kernel
theorem s_Law_law_383 : dsq c_Law_law 383 [(.aload_n 0, 1, 0), (.iload_n 3, 1, 0), (.iconst 2, 1, 2), (.iadd, 1, 0)] 387 = true := by decide +kernel
theorem s_Law_law_391 : dsq c_Law_law 391 [(.aload_n 2, 1, 0), (.aload_n 0, 1, 0), (.iload_n 3, 1, 0), (.iconst 1, 1, 1), (.iadd, 1, 0)] 396 = true := by decide +kernel
theorem s_Law_law_397 : dsq c_Law_law 397 [(.aload_n 0, 1, 0), (.iload_n 3, 1, 0), (.iconst 2, 1, 2), (.iadd, 1, 0)] 401 = true := by decide +kernel
theorem s_Law_law_408 : dsq c_Law_law 408 [(.iconst 0, 1, 0)] 409 = true := by decide +kernel
theorem s_Law_law_410 : dsq c_Law_law 410 [(.aload_n 1, 1, 0)] 411 = true := by decide +kernel
theorem s_Law_law_414 : dsq c_Law_law 414 [(.aload_n 2, 1, 0)] 415 = true := by decide +kernel
theorem s_Law_law_422 : dsq c_Law_law 422 [(.iconst 0, 1, 0)] 423 = true := by decide +kernel
theorem s_Law_law_424 : dsq c_Law_law 424 [(.aload_n 1, 1, 0)] 425 = true := by decide +kernel
theorem s_Law_law_428 : dsq c_Law_law 428 [(.aload_n 2, 1, 0)] 429 = true := by decide +kernel
theorem s_Law_law_435 : dsq c_Law_law 435 [(.iconst 0, 1, 0)] 436 = true := by decide +kernel
theorem s_Law_law_437 : dsq c_Law_law 437 [(.aload_n 1, 1, 0)] 438 = true := by decide +kernel
theorem s_Law_law_441 : dsq c_Law_law 441 [(.aload_n 2, 1, 0)] 442 = true := by decide +kernel
theorem s_Law_law_448 : dsq c_Law_law 448 [(.iconst 0, 1, 0)] 449 = true := by decide +kernel
theorem s_Law_law_450 : dsq c_Law_law 450 [(.aload_n 1, 1, 0)] 451 = true := by decide +kernel
theorem s_Law_law_454 : dsq c_Law_law 454 [(.aload_n 2, 1, 0)] 455 = true := by decide +kernel
theorem s_Law_law_461 : dsq c_Law_law 461 [(.iconst 0, 1, 0)] 462 = true := by decide +kernel
theorem s_Law_law_463 : dsq c_Law_law 463 [(.aload_n 1, 1, 0), (.aload_n 0, 1, 0), (.iload_n 3, 1, 0), (.iconst 1, 1, 1), (.iadd, 1, 0)] 468 = true := by decide +kernel
theorem s_Law_law_472 : dsq c_Law_law 472 [(.aload_n 2, 1, 0), (.aload_n 0, 1, 0), (.iload_n 3, 1, 0), (.iconst 1, 1, 1), (.iadd, 1, 0)] 477 = true := by decide +kernel
theorem s_Law_law_484 : dsq c_Law_law 484 [(.iconst 0, 1, 0)] 485 = true := by decide +kernel
theorem s_Law_law_486 : dsq c_Law_law 486 [(.aload_n 1, 1, 0), (.aload_n 0, 1, 0), (.iload_n 3, 1, 0), (.iconst 1, 1, 1), (.iadd, 1, 0)] 491 = true := by decide +kernel
theorem s_Law_law_495 : dsq c_Law_law 495 [(.aload_n 2, 1, 0), (.aload_n 0, 1, 0), (.iload_n 3, 1, 0), (.iconst 1, 1, 1), (.iadd, 1, 0)] 500 = true := by decide +kernel
theorem s_Law_law_507 : dsq c_Law_law 507 [(.iconst 0, 1, 0)] 508 = true := by decide +kernel
theorem s_Law_law_509 : dsq c_Law_law 509 [(.aload_n 1, 1, 0), (.aload_n 0, 1, 0), (.iload_n 3, 1, 0), (.iconst 1, 1, 1), (.iadd, 1, 0)] 514 = true := by decide +kernel
theorem s_Law_law_515 : dsq c_Law_law 515 [(.aload_n 0, 1, 0), (.iload_n 3, 1, 0), (.iconst 2, 1, 2), (.iadd, 1, 0)] 519 = true := by decide +kernel
theorem s_Law_law_523 : dsq c_Law_law 523 [(.aload_n 2, 1, 0), (.aload_n 0, 1, 0), (.iload_n 3, 1, 0), (.iconst 1, 1, 1), (.iadd, 1, 0)] 528 = true := by decide +kernel
theorem s_Law_law_529 : dsq c_Law_law 529 [(.aload_n 0, 1, 0), (.iload_n 3, 1, 0), (.iconst 2, 1, 2), (.iadd, 1, 0)] 533 = true := by decide +kernel
theorem s_Law_law_540 : dsq c_Law_law 540 [(.iconst 0, 1, 0)] 541 = true := by decide +kernel
theorem s_Law_law_542 : dsq c_Law_law 542 [(.aload_n 1, 1, 0), (.aload_n 0, 1, 0), (.iload_n 3, 1, 0), (.iconst 1, 1, 1), (.iadd, 1, 0)] 547 = true := by decide +kernel
theorem s_Law_law_551 : dsq c_Law_law 551 [(.aload_n 2, 1, 0), (.aload_n 0, 1, 0), (.iload_n 3, 1, 0), (.iconst 1, 1, 1), (.iadd, 1, 0)] 556 = true := by decide +kernel
theorem s_Law_law_563 : dsq c_Law_law 563 [(.iconst 0, 1, 0)] 564 = true := by decide +kernel
theorem s_Law_law_565 : dsq c_Law_law 565 [(.aload_n 1, 1, 0), (.aload_n 0, 1, 0), (.iload_n 3, 1, 0), (.iconst 1, 1, 1), (.iadd, 1, 0)] 570 = true := by decide +kernel
theorem s_Law_law_574 : dsq c_Law_law 574 [(.aload_n 2, 1, 0), (.aload_n 0, 1, 0), (.iload_n 3, 1, 0), (.iconst 1, 1, 1), (.iadd, 1, 0)] 579 = true := by decide +kernel
theorem s_Law_law_586 : dsq c_Law_law 586 [(.iconst 0, 1, 0)] 587 = true := by decide +kernel
theorem s_Law_law_588 : dsq c_Law_law 588 [(.aload_n 1, 1, 0), (.aload_n 0, 1, 0), (.iload_n 3, 1, 0), (.iconst 1, 1, 1), (.iadd, 1, 0)] 593 = true := by decide +kernel
theorem s_Law_law_597 : dsq c_Law_law 597 [(.aload_n 2, 1, 0), (.aload_n 0, 1, 0), (.iload_n 3, 1, 0), (.iconst 1, 1, 1), (.iadd, 1, 0)] 602 = true := by decide +kernel
theorem s_Law_law_609 : dsq c_Law_law 609 [(.iconst 0, 1, 0)] 610 = true := by decide +kernel
theorem s_Law_law_611 : dsq c_Law_law 611 [(.iinc 3 3, 3, 3), (.goto (-586), 3, 0)] 28 = true := by decide +kernel
theorem s_Law_law_617 : dsq c_Law_law 617 [(.iconst 1, 1, 1)] 618 = true := by decide +kernel
theorem d_Law_law_0 : decode c_Law_law 0 = .ok (.new 7, 3) := by decide +kernel
theorem d_Law_law_6 : decode c_Law_law 6 = .ok (.invokestatic 9, 3) := by decide +kernel
theorem d_Law_law_9 : decode c_Law_law 9 = .ok (.invokespecial 15, 3) := by decide +kernel
theorem d_Law_law_13 : decode c_Law_law 13 = .ok (.new 18, 3) := by decide +kernel
theorem d_Law_law_19 : decode c_Law_law 19 = .ok (.invokestatic 9, 3) := by decide +kernel
theorem d_Law_law_22 : decode c_Law_law 22 = .ok (.invokespecial 20, 3) := by decide +kernel
theorem d_Law_law_30 : decode c_Law_law 30 = .ok (.arraylength, 1) := by decide +kernel
theorem d_Law_law_33 : decode c_Law_law 33 = .ok (.if_icmp .gt 584, 3) := by decide +kernel
theorem d_Law_law_38 : decode c_Law_law 38 = .ok (.iaload, 1) := by decide +kernel
theorem d_Law_law_42 : decode c_Law_law 42 = .ok (.tableswitch 569 0 21 #[102, 125, 138, 171, 194, 227, 250, 273, 286, 299, 322, 335, 368, 382, 395, 408, 421, 444, 467, 500, 523, 546], 102) := by decide +kernel
theorem d_Law_law_149 : decode c_Law_law 149 = .ok (.iaload, 1) := by decide +kernel
theorem d_Law_law_150 : decode c_Law_law 150 = .ok (.invokevirtual 21, 3) := by decide +kernel
theorem d_Law_law_158 : decode c_Law_law 158 = .ok (.iaload, 1) := by decide +kernel
theorem d_Law_law_159 : decode c_Law_law 159 = .ok (.invokevirtual 25, 3) := by decide +kernel
theorem d_Law_law_162 : decode c_Law_law 162 = .ok (.if_icmp .eq 449, 3) := by decide +kernel
theorem d_Law_law_166 : decode c_Law_law 166 = .ok (.ireturn, 1) := by decide +kernel
theorem d_Law_law_168 : decode c_Law_law 168 = .ok (.invokevirtual 26, 3) := by decide +kernel
theorem d_Law_law_172 : decode c_Law_law 172 = .ok (.invokevirtual 30, 3) := by decide +kernel
theorem d_Law_law_175 : decode c_Law_law 175 = .ok (.if_icmp .eq 436, 3) := by decide +kernel
theorem d_Law_law_179 : decode c_Law_law 179 = .ok (.ireturn, 1) := by decide +kernel
theorem d_Law_law_185 : decode c_Law_law 185 = .ok (.iaload, 1) := by decide +kernel
theorem d_Law_law_190 : decode c_Law_law 190 = .ok (.iaload, 1) := by decide +kernel
theorem d_Law_law_191 : decode c_Law_law 191 = .ok (.invokevirtual 31, 3) := by decide +kernel
theorem d_Law_law_199 : decode c_Law_law 199 = .ok (.iaload, 1) := by decide +kernel
theorem d_Law_law_204 : decode c_Law_law 204 = .ok (.iaload, 1) := by decide +kernel
theorem d_Law_law_205 : decode c_Law_law 205 = .ok (.invokevirtual 35, 3) := by decide +kernel
theorem d_Law_law_208 : decode c_Law_law 208 = .ok (.if_icmp .eq 403, 3) := by decide +kernel
theorem d_Law_law_212 : decode c_Law_law 212 = .ok (.ireturn, 1) := by decide +kernel
theorem d_Law_law_218 : decode c_Law_law 218 = .ok (.iaload, 1) := by decide +kernel
theorem d_Law_law_219 : decode c_Law_law 219 = .ok (.invokevirtual 36, 3) := by decide +kernel
theorem d_Law_law_227 : decode c_Law_law 227 = .ok (.iaload, 1) := by decide +kernel
theorem d_Law_law_228 : decode c_Law_law 228 = .ok (.invokevirtual 39, 3) := by decide +kernel
theorem d_Law_law_231 : decode c_Law_law 231 = .ok (.if_icmp .eq 380, 3) := by decide +kernel
theorem d_Law_law_235 : decode c_Law_law 235 = .ok (.ireturn, 1) := by decide +kernel
theorem d_Law_law_241 : decode c_Law_law 241 = .ok (.iaload, 1) := by decide +kernel
theorem d_Law_law_246 : decode c_Law_law 246 = .ok (.iaload, 1) := by decide +kernel
theorem d_Law_law_247 : decode c_Law_law 247 = .ok (.invokevirtual 40, 3) := by decide +kernel
theorem d_Law_law_255 : decode c_Law_law 255 = .ok (.iaload, 1) := by decide +kernel
theorem d_Law_law_260 : decode c_Law_law 260 = .ok (.iaload, 1) := by decide +kernel
theorem d_Law_law_261 : decode c_Law_law 261 = .ok (.invokevirtual 43, 3) := by decide +kernel
theorem d_Law_law_264 : decode c_Law_law 264 = .ok (.if_icmp .eq 347, 3) := by decide +kernel
theorem d_Law_law_268 : decode c_Law_law 268 = .ok (.ireturn, 1) := by decide +kernel
theorem d_Law_law_274 : decode c_Law_law 274 = .ok (.iaload, 1) := by decide +kernel
theorem d_Law_law_275 : decode c_Law_law 275 = .ok (.invokevirtual 44, 3) := by decide +kernel
theorem d_Law_law_283 : decode c_Law_law 283 = .ok (.iaload, 1) := by decide +kernel
theorem d_Law_law_284 : decode c_Law_law 284 = .ok (.invokevirtual 47, 3) := by decide +kernel
theorem d_Law_law_287 : decode c_Law_law 287 = .ok (.if_icmp .eq 324, 3) := by decide +kernel
theorem d_Law_law_291 : decode c_Law_law 291 = .ok (.ireturn, 1) := by decide +kernel
theorem d_Law_law_297 : decode c_Law_law 297 = .ok (.iaload, 1) := by decide +kernel
theorem d_Law_law_298 : decode c_Law_law 298 = .ok (.invokevirtual 48, 3) := by decide +kernel
theorem d_Law_law_306 : decode c_Law_law 306 = .ok (.iaload, 1) := by decide +kernel
theorem d_Law_law_307 : decode c_Law_law 307 = .ok (.invokevirtual 51, 3) := by decide +kernel
theorem d_Law_law_310 : decode c_Law_law 310 = .ok (.if_icmp .eq 301, 3) := by decide +kernel
theorem d_Law_law_314 : decode c_Law_law 314 = .ok (.ireturn, 1) := by decide +kernel
theorem d_Law_law_316 : decode c_Law_law 316 = .ok (.invokevirtual 52, 3) := by decide +kernel
theorem d_Law_law_320 : decode c_Law_law 320 = .ok (.invokevirtual 55, 3) := by decide +kernel
theorem d_Law_law_323 : decode c_Law_law 323 = .ok (.if_icmp .eq 288, 3) := by decide +kernel
theorem d_Law_law_327 : decode c_Law_law 327 = .ok (.ireturn, 1) := by decide +kernel
theorem d_Law_law_329 : decode c_Law_law 329 = .ok (.invokevirtual 56, 3) := by decide +kernel
theorem d_Law_law_333 : decode c_Law_law 333 = .ok (.invokevirtual 59, 3) := by decide +kernel
theorem d_Law_law_336 : decode c_Law_law 336 = .ok (.if_icmp .eq 275, 3) := by decide +kernel
theorem d_Law_law_340 : decode c_Law_law 340 = .ok (.ireturn, 1) := by decide +kernel
theorem d_Law_law_346 : decode c_Law_law 346 = .ok (.iaload, 1) := by decide +kernel
theorem d_Law_law_347 : decode c_Law_law 347 = .ok (.invokevirtual 60, 3) := by decide +kernel
theorem d_Law_law_355 : decode c_Law_law 355 = .ok (.iaload, 1) := by decide +kernel
theorem d_Law_law_356 : decode c_Law_law 356 = .ok (.invokevirtual 63, 3) := by decide +kernel
theorem d_Law_law_359 : decode c_Law_law 359 = .ok (.if_icmp .eq 252, 3) := by decide +kernel
theorem d_Law_law_363 : decode c_Law_law 363 = .ok (.ireturn, 1) := by decide +kernel
theorem d_Law_law_365 : decode c_Law_law 365 = .ok (.invokevirtual 64, 3) := by decide +kernel
theorem d_Law_law_369 : decode c_Law_law 369 = .ok (.invokevirtual 67, 3) := by decide +kernel
theorem d_Law_law_372 : decode c_Law_law 372 = .ok (.if_icmp .eq 239, 3) := by decide +kernel
theorem d_Law_law_376 : decode c_Law_law 376 = .ok (.ireturn, 1) := by decide +kernel
theorem d_Law_law_382 : decode c_Law_law 382 = .ok (.iaload, 1) := by decide +kernel
theorem d_Law_law_387 : decode c_Law_law 387 = .ok (.iaload, 1) := by decide +kernel
theorem d_Law_law_388 : decode c_Law_law 388 = .ok (.invokevirtual 68, 3) := by decide +kernel
theorem d_Law_law_396 : decode c_Law_law 396 = .ok (.iaload, 1) := by decide +kernel
theorem d_Law_law_401 : decode c_Law_law 401 = .ok (.iaload, 1) := by decide +kernel
theorem d_Law_law_402 : decode c_Law_law 402 = .ok (.invokevirtual 71, 3) := by decide +kernel
theorem d_Law_law_405 : decode c_Law_law 405 = .ok (.if_icmp .eq 206, 3) := by decide +kernel
theorem d_Law_law_409 : decode c_Law_law 409 = .ok (.ireturn, 1) := by decide +kernel
theorem d_Law_law_411 : decode c_Law_law 411 = .ok (.invokevirtual 72, 3) := by decide +kernel
theorem d_Law_law_415 : decode c_Law_law 415 = .ok (.invokevirtual 76, 3) := by decide +kernel
theorem d_Law_law_418 : decode c_Law_law 418 = .ok (.lcmp, 1) := by decide +kernel
theorem d_Law_law_419 : decode c_Law_law 419 = .ok (.ifCond .eq 192, 3) := by decide +kernel
theorem d_Law_law_423 : decode c_Law_law 423 = .ok (.ireturn, 1) := by decide +kernel
theorem d_Law_law_425 : decode c_Law_law 425 = .ok (.invokevirtual 77, 3) := by decide +kernel
theorem d_Law_law_429 : decode c_Law_law 429 = .ok (.invokevirtual 80, 3) := by decide +kernel
theorem d_Law_law_432 : decode c_Law_law 432 = .ok (.if_icmp .eq 179, 3) := by decide +kernel
theorem d_Law_law_436 : decode c_Law_law 436 = .ok (.ireturn, 1) := by decide +kernel
theorem d_Law_law_438 : decode c_Law_law 438 = .ok (.invokevirtual 81, 3) := by decide +kernel
theorem d_Law_law_442 : decode c_Law_law 442 = .ok (.invokevirtual 84, 3) := by decide +kernel
theorem d_Law_law_445 : decode c_Law_law 445 = .ok (.if_icmp .eq 166, 3) := by decide +kernel
theorem d_Law_law_449 : decode c_Law_law 449 = .ok (.ireturn, 1) := by decide +kernel
theorem d_Law_law_451 : decode c_Law_law 451 = .ok (.invokevirtual 85, 3) := by decide +kernel
theorem d_Law_law_455 : decode c_Law_law 455 = .ok (.invokevirtual 89, 3) := by decide +kernel
theorem d_Law_law_458 : decode c_Law_law 458 = .ok (.if_icmp .eq 153, 3) := by decide +kernel
theorem d_Law_law_462 : decode c_Law_law 462 = .ok (.ireturn, 1) := by decide +kernel
theorem d_Law_law_468 : decode c_Law_law 468 = .ok (.iaload, 1) := by decide +kernel
theorem d_Law_law_469 : decode c_Law_law 469 = .ok (.invokevirtual 90, 3) := by decide +kernel
theorem d_Law_law_477 : decode c_Law_law 477 = .ok (.iaload, 1) := by decide +kernel
theorem d_Law_law_478 : decode c_Law_law 478 = .ok (.invokevirtual 93, 3) := by decide +kernel
theorem d_Law_law_481 : decode c_Law_law 481 = .ok (.if_icmp .eq 130, 3) := by decide +kernel
theorem d_Law_law_485 : decode c_Law_law 485 = .ok (.ireturn, 1) := by decide +kernel
theorem d_Law_law_491 : decode c_Law_law 491 = .ok (.iaload, 1) := by decide +kernel
theorem d_Law_law_492 : decode c_Law_law 492 = .ok (.invokevirtual 94, 3) := by decide +kernel
theorem d_Law_law_500 : decode c_Law_law 500 = .ok (.iaload, 1) := by decide +kernel
theorem d_Law_law_501 : decode c_Law_law 501 = .ok (.invokevirtual 97, 3) := by decide +kernel
theorem d_Law_law_504 : decode c_Law_law 504 = .ok (.if_icmp .eq 107, 3) := by decide +kernel
theorem d_Law_law_508 : decode c_Law_law 508 = .ok (.ireturn, 1) := by decide +kernel
theorem d_Law_law_514 : decode c_Law_law 514 = .ok (.iaload, 1) := by decide +kernel
theorem d_Law_law_519 : decode c_Law_law 519 = .ok (.iaload, 1) := by decide +kernel
theorem d_Law_law_520 : decode c_Law_law 520 = .ok (.invokevirtual 98, 3) := by decide +kernel
theorem d_Law_law_528 : decode c_Law_law 528 = .ok (.iaload, 1) := by decide +kernel
theorem d_Law_law_533 : decode c_Law_law 533 = .ok (.iaload, 1) := by decide +kernel
theorem d_Law_law_534 : decode c_Law_law 534 = .ok (.invokevirtual 101, 3) := by decide +kernel
theorem d_Law_law_537 : decode c_Law_law 537 = .ok (.if_icmp .eq 74, 3) := by decide +kernel
theorem d_Law_law_541 : decode c_Law_law 541 = .ok (.ireturn, 1) := by decide +kernel
theorem d_Law_law_547 : decode c_Law_law 547 = .ok (.iaload, 1) := by decide +kernel
theorem d_Law_law_548 : decode c_Law_law 548 = .ok (.invokevirtual 102, 3) := by decide +kernel
theorem d_Law_law_556 : decode c_Law_law 556 = .ok (.iaload, 1) := by decide +kernel
theorem d_Law_law_557 : decode c_Law_law 557 = .ok (.invokevirtual 105, 3) := by decide +kernel
theorem d_Law_law_560 : decode c_Law_law 560 = .ok (.if_icmp .eq 51, 3) := by decide +kernel
theorem d_Law_law_564 : decode c_Law_law 564 = .ok (.ireturn, 1) := by decide +kernel
theorem d_Law_law_570 : decode c_Law_law 570 = .ok (.iaload, 1) := by decide +kernel
theorem d_Law_law_571 : decode c_Law_law 571 = .ok (.invokevirtual 106, 3) := by decide +kernel
theorem d_Law_law_579 : decode c_Law_law 579 = .ok (.iaload, 1) := by decide +kernel
theorem d_Law_law_580 : decode c_Law_law 580 = .ok (.invokevirtual 109, 3) := by decide +kernel
theorem d_Law_law_583 : decode c_Law_law 583 = .ok (.if_icmp .eq 28, 3) := by decide +kernel
theorem d_Law_law_587 : decode c_Law_law 587 = .ok (.ireturn, 1) := by decide +kernel
theorem d_Law_law_593 : decode c_Law_law 593 = .ok (.iaload, 1) := by decide +kernel
theorem d_Law_law_594 : decode c_Law_law 594 = .ok (.invokevirtual 110, 3) := by decide +kernel
theorem d_Law_law_602 : decode c_Law_law 602 = .ok (.iaload, 1) := by decide +kernel
theorem d_Law_law_603 : decode c_Law_law 603 = .ok (.invokevirtual 113, 3) := by decide +kernel
theorem d_Law_law_606 : decode c_Law_law 606 = .ok (.if_icmp .eq 5, 3) := by decide +kernel
theorem d_Law_law_610 : decode c_Law_law 610 = .ok (.ireturn, 1) := by decide +kernel
theorem d_Law_law_618 : decode c_Law_law 618 = .ok (.ireturn, 1) := by decide +kernel
