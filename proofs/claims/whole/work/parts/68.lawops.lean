/-! the law's arms -/
theorem nI_addN (a b : Nat) : nI a + nI b = nI (a + b) := Int32.toBitVec_inj.mp (by rw [Int32.toBitVec_add, nI_bv, nI_bv, nI_bv, BitVec.ofNat_add])
theorem nI_x (x : Int32) : ∃ n, x = nI n := ⟨x.toBitVec.toNat, Int32.toBitVec_inj.mp (by rw [nI_bv]; simp)⟩
theorem and31 (x : Int32) : ∃ k, k ≤ 31 ∧ x &&& 31 = nI k := by
  obtain ⟨n, rfl⟩ := nI_x x
  exact ⟨n &&& 31, Nat.and_le_right, nI_and n 31⟩
theorem subT {x y : Int32} (h1 : -2147483648 ≤ x.toInt - y.toInt) (h2 : x.toInt - y.toInt < 2147483648) : (x - y).toInt = x.toInt - y.toInt := by
  rw [Int32.toInt_sub]
  exact Int.bmod_eq_of_le (by omega) (by omega)
section LO
variable {κ : Nat × Nat} {b L : Nat} {xs : Nat → Int32} {h m j F : Nat} {ad : Nat → Nat} {M1 M2 : Mm} {ar : Ar} {nm : Nat → Int64} {sc : Sc} {νx νm : MD} {pc i1 i2 : Nat}
abbrev LVs (b h m j : Nat) : LV := [some (.ref b), some (.ref h), some (.ref m), some (.int (nI (1 + 3 * j)))]
/-- at the loop's head, j calls done -/
def HD (κ : Nat × Nat) (b L : Nat) (xs : Nat → Int32) (h m : Nat) (ad : Nat → Nat) (j : Nat) : Prop := ∀ (M1 M2 : Mm) (ar : Ar) (nm : Nat → Int64) (sc : Sc) (F : Nat), IV j M1 h ar nm sc F → MoR M2 m ad ar nm sc → GL κ b L xs M1 M2 28 (LVs b h m j) [] (37 * (512 - j) + 17 * F) (1918 * (512 - j) + 418 * F)
theorem IV.cell (hI : IV j M1 h ar nm sc F) : ∃ fs, M1 h = some (eO 0 fs) := by
  obtain ⟨T, JM, C, B, W, tp, u, ⟨own, aT, aJ, aC, aB, aW, ts, hP⟩, -⟩ := hI
  exact ⟨_, hP.1⟩
theorem lw_next {kx nx : Nat} (hj : j < 512) (hH : HD κ b L xs h m ad (j + 1)) (hM : MoR M2 m ad ar nm sc) (hP : PO j h M1 kx nx F ar nm sc) : GL κ b L xs M1 M2 611 (LVs b h m j) [] (37 * (512 - j) + 17 * F - kx) (1918 * (512 - j) + 418 * F - nx) := by
  obtain ⟨F', hk, hn, hI⟩ := hP
  refine gl_seq s_Law_law_611 rfl ?_
  have e : nI (1 + 3 * j) + 3 = nI (1 + 3 * (j + 1)) := by
    rw [show 1 + 3 * (j + 1) = (1 + 3 * j) + 3 by omega]
    exact nI_addN (1 + 3 * j) 3
  rw [e]
  exact gl_le (hH M1 M2 ar nm sc F' hI hM) (by omega) (by omega)
theorem lw_op0 {off : Int} (hj : j < 512) (hH : HD κ b L xs h m ad (j + 1)) (hI : IV j M1 h ar nm sc F) (hM : MoR M2 m ad ar nm sc) (hO : OPs κ j h m F M1 ad ar nm sc νx νm [] isI)
    (s1 : dsq code pc [(.aload_n 1, 1, 0)] (pc + 1) = true) (L1 : MV "LeaseHouseLaw" i1 0 νx 0) (d1 : decode code (pc + 1) = .ok (.invokevirtual i1, 3)) (o1 : 1 ≤ νx.2.2.1)
    (s2 : dsq code (pc + 4) [(.aload_n 2, 1, 0)] (pc + 5) = true) (L2 : MV "LeaseHouseLaw" i2 9 νm 0) (d2 : decode code (pc + 5) = .ok (.invokevirtual i2, 3)) (o2 : 1 ≤ νm.2.2.1)
    (d3 : decode code (pc + 8) = .ok (.if_icmp .eq off, 3)) (hoff : ((pc + 8 : Nat) : Int) + off = ((611 : Nat) : Int)) :
    GL κ b L xs M1 M2 pc (LVs b h m j) [] (37 * (512 - j) + 17 * F) (1918 * (512 - j) + 418 * F) := by
  obtain ⟨kx, nx, QX, hk, hn, hG, hO⟩ := hO
  obtain ⟨fs, hc⟩ := hI.cell
  refine gl_seq s1 rfl ?_
  refine gl_invV (k2 := 37 * (512 - j) + 17 * F - kx) (n2 := 1918 * (512 - j) + 418 * F - nx) hc L1 d1 rfl ⟨rfl, o1, by decide⟩ (by omega) hG (by omega) (by omega) ?_
  intro v M1' hQ
  obtain ⟨⟨x, rfl⟩, hN⟩ := hO v M1' hQ
  refine gl_seq s2 rfl ?_
  refine GL.swap (gl_invV (k2 := 37 * (512 - j) + 17 * F - kx) (n2 := 1918 * (512 - j) + 418 * F - nx) hM.1 L2 d2 rfl ⟨rfl, o2, by show 1 ≤ 8; decide⟩ (by omega) (hN M2 hM) (by omega) (by omega) ?_)
  rintro v M2' ⟨ar', nm', sc', hM', rfl, hP⟩
  exact GL.swap (gl_icmp_eq d3 hoff rfl (lw_next hj hH hM' hP))
theorem lw_opJ {off : Int} (hj : j < 512) (hH : HD κ b L xs h m ad (j + 1)) (hI : IV j M1 h ar nm sc F) (hM : MoR M2 m ad ar nm sc) (hO : OPs κ j h m F M1 ad ar nm sc νx νm [] isJ)
    (s1 : dsq code pc [(.aload_n 1, 1, 0)] (pc + 1) = true) (L1 : MV "LeaseHouseLaw" i1 0 νx 0) (d1 : decode code (pc + 1) = .ok (.invokevirtual i1, 3)) (o1 : 1 ≤ νx.2.2.1)
    (s2 : dsq code (pc + 4) [(.aload_n 2, 1, 0)] (pc + 5) = true) (L2 : MV "LeaseHouseLaw" i2 9 νm 0) (d2 : decode code (pc + 5) = .ok (.invokevirtual i2, 3)) (o2 : 1 ≤ νm.2.2.1)
    (d4 : decode code (pc + 8) = .ok (.lcmp, 1)) (d3 : decode code (pc + 9) = .ok (.ifCond .eq off, 3)) (hoff : ((pc + 9 : Nat) : Int) + off = ((611 : Nat) : Int)) :
    GL κ b L xs M1 M2 pc (LVs b h m j) [] (37 * (512 - j) + 17 * F) (1918 * (512 - j) + 418 * F) := by
  obtain ⟨kx, nx, QX, hk, hn, hG, hO⟩ := hO
  obtain ⟨fs, hc⟩ := hI.cell
  refine gl_seq s1 rfl ?_
  refine gl_invV (k2 := 37 * (512 - j) + 17 * F - kx) (n2 := 1918 * (512 - j) + 418 * F - nx) hc L1 d1 rfl ⟨rfl, o1, by decide⟩ (by omega) hG (by omega) (by omega) ?_
  intro v M1' hQ
  obtain ⟨⟨x, rfl⟩, hN⟩ := hO v M1' hQ
  refine gl_seq s2 rfl ?_
  refine GL.swap (gl_invV (k2 := 37 * (512 - j) + 17 * F - kx) (n2 := 1918 * (512 - j) + 418 * F - nx) hM.1 L2 d2 rfl ⟨rfl, o2, by show 2 ≤ 8; decide⟩ (by omega) (hN M2 hM) (by omega) (by omega) ?_)
  rintro v M2' ⟨ar', nm', sc', hM', rfl, hP⟩
  refine GL.swap (gl_lcmp d4 (gl_if_eq d3 hoff ?_ (lw_next hj hH hM' hP)))
  unfold lg_cmp
  simp
theorem lw_op1 {off : Int} (hj : j < 512) (hjL : 3 * j + 4 ≤ L) (hL : L ≤ 1537) (hH : HD κ b L xs h m ad (j + 1)) (hI : IV j M1 h ar nm sc F) (hM : MoR M2 m ad ar nm sc) (hO : OPs κ j h m F M1 ad ar nm sc νx νm [.int (xs (1 + 3 * j + 1))] isI)
    (s1 : dsq code pc [(.aload_n 1, 1, 0), (.aload_n 0, 1, 0), (.iload_n 3, 1, 0), (.iconst 1, 1, 1), (.iadd, 1, 0)] (pc + 5) = true) (a1 : decode code (pc + 5) = .ok (.iaload, 1)) (L1 : MV "LeaseHouseLaw" i1 0 νx 1) (d1 : decode code (pc + 6) = .ok (.invokevirtual i1, 3)) (o1 : 2 ≤ νx.2.2.1)
    (s2 : dsq code (pc + 9) [(.aload_n 2, 1, 0), (.aload_n 0, 1, 0), (.iload_n 3, 1, 0), (.iconst 1, 1, 1), (.iadd, 1, 0)] (pc + 14) = true) (a2 : decode code (pc + 14) = .ok (.iaload, 1)) (L2 : MV "LeaseHouseLaw" i2 9 νm 1) (d2 : decode code (pc + 15) = .ok (.invokevirtual i2, 3)) (o2 : 2 ≤ νm.2.2.1)
    (d3 : decode code (pc + 18) = .ok (.if_icmp .eq off, 3)) (hoff : ((pc + 18 : Nat) : Int) + off = ((611 : Nat) : Int)) :
    GL κ b L xs M1 M2 pc (LVs b h m j) [] (37 * (512 - j) + 17 * F) (1918 * (512 - j) + 418 * F) := by
  obtain ⟨kx, nx, QX, hk, hn, hG, hO⟩ := hO
  obtain ⟨fs, hc⟩ := hI.cell
  refine gl_seq s1 rfl ?_
  refine gl_sld (j := 1 + 3 * j + 1) a1 (nI_1 _) (by omega) (by omega) ?_
  refine gl_invV (k2 := 37 * (512 - j) + 17 * F - kx) (n2 := 1918 * (512 - j) + 418 * F - nx) hc L1 d1 rfl ⟨rfl, o1, by decide⟩ (by omega) hG (by omega) (by omega) ?_
  intro v M1' hQ
  obtain ⟨⟨x, rfl⟩, hN⟩ := hO v M1' hQ
  refine gl_seq s2 rfl ?_
  refine gl_sld (j := 1 + 3 * j + 1) a2 (nI_1 _) (by omega) (by omega) ?_
  refine GL.swap (gl_invV (k2 := 37 * (512 - j) + 17 * F - kx) (n2 := 1918 * (512 - j) + 418 * F - nx) hM.1 L2 d2 rfl ⟨rfl, o2, by show 1 ≤ 8; decide⟩ (by omega) (hN M2 hM) (by omega) (by omega) ?_)
  rintro v M2' ⟨ar', nm', sc', hM', rfl, hP⟩
  exact GL.swap (gl_icmp_eq d3 hoff rfl (lw_next hj hH hM' hP))
theorem lw_op2 {off : Int} (hj : j < 512) (hjL : 3 * j + 4 ≤ L) (hL : L ≤ 1537) (hH : HD κ b L xs h m ad (j + 1)) (hI : IV j M1 h ar nm sc F) (hM : MoR M2 m ad ar nm sc) (hO : OPs κ j h m F M1 ad ar nm sc νx νm [.int (xs (1 + 3 * j + 1)), .int (xs (1 + 3 * j + 2))] isI)
    (s1 : dsq code pc [(.aload_n 1, 1, 0), (.aload_n 0, 1, 0), (.iload_n 3, 1, 0), (.iconst 1, 1, 1), (.iadd, 1, 0)] (pc + 5) = true) (a1 : decode code (pc + 5) = .ok (.iaload, 1)) (s1b : dsq code (pc + 6) [(.aload_n 0, 1, 0), (.iload_n 3, 1, 0), (.iconst 2, 1, 2), (.iadd, 1, 0)] (pc + 10) = true) (a1b : decode code (pc + 10) = .ok (.iaload, 1)) (L1 : MV "LeaseHouseLaw" i1 0 νx 2) (d1 : decode code (pc + 11) = .ok (.invokevirtual i1, 3)) (o1 : 3 ≤ νx.2.2.1)
    (s2 : dsq code (pc + 14) [(.aload_n 2, 1, 0), (.aload_n 0, 1, 0), (.iload_n 3, 1, 0), (.iconst 1, 1, 1), (.iadd, 1, 0)] (pc + 19) = true) (a2 : decode code (pc + 19) = .ok (.iaload, 1)) (s2b : dsq code (pc + 20) [(.aload_n 0, 1, 0), (.iload_n 3, 1, 0), (.iconst 2, 1, 2), (.iadd, 1, 0)] (pc + 24) = true) (a2b : decode code (pc + 24) = .ok (.iaload, 1)) (L2 : MV "LeaseHouseLaw" i2 9 νm 2) (d2 : decode code (pc + 25) = .ok (.invokevirtual i2, 3)) (o2 : 3 ≤ νm.2.2.1)
    (d3 : decode code (pc + 28) = .ok (.if_icmp .eq off, 3)) (hoff : ((pc + 28 : Nat) : Int) + off = ((611 : Nat) : Int)) :
    GL κ b L xs M1 M2 pc (LVs b h m j) [] (37 * (512 - j) + 17 * F) (1918 * (512 - j) + 418 * F) := by
  obtain ⟨kx, nx, QX, hk, hn, hG, hO⟩ := hO
  obtain ⟨fs, hc⟩ := hI.cell
  refine gl_seq s1 rfl ?_
  refine gl_sld (j := 1 + 3 * j + 1) a1 (nI_1 _) (by omega) (by omega) ?_
  refine gl_seq s1b rfl ?_
  refine gl_sld (j := 1 + 3 * j + 2) a1b (nI_addN (1 + 3 * j) 2) (by omega) (by omega) ?_
  refine gl_invV (k2 := 37 * (512 - j) + 17 * F - kx) (n2 := 1918 * (512 - j) + 418 * F - nx) hc L1 d1 rfl ⟨rfl, o1, by decide⟩ (by omega) hG (by omega) (by omega) ?_
  intro v M1' hQ
  obtain ⟨⟨x, rfl⟩, hN⟩ := hO v M1' hQ
  refine gl_seq s2 rfl ?_
  refine gl_sld (j := 1 + 3 * j + 1) a2 (nI_1 _) (by omega) (by omega) ?_
  refine gl_seq s2b rfl ?_
  refine gl_sld (j := 1 + 3 * j + 2) a2b (nI_addN (1 + 3 * j) 2) (by omega) (by omega) ?_
  refine GL.swap (gl_invV (k2 := 37 * (512 - j) + 17 * F - kx) (n2 := 1918 * (512 - j) + 418 * F - nx) hM.1 L2 d2 rfl ⟨rfl, o2, by show 1 ≤ 8; decide⟩ (by omega) (hN M2 hM) (by omega) (by omega) ?_)
  rintro v M2' ⟨ar', nm', sc', hM', rfl, hP⟩
  exact GL.swap (gl_icmp_eq d3 hoff rfl (lw_next hj hH hM' hP))
end LO
