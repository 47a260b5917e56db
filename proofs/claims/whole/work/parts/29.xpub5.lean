theorem c8 (c : Int32) : (c.toInt < 0 ∨ 7 < c.toInt) ∨ c = 0 ∨ c = 1 ∨ c = 2 ∨ c = 3 ∨ c = 4 ∨ c = 5 ∨ c = 6 ∨ c = 7 := by
  simp only [← Int32.toInt_inj]
  have e0 : (0 : Int32).toInt = 0 := by decide
  have e1 : (1 : Int32).toInt = 1 := by decide
  have e2 : (2 : Int32).toInt = 2 := by decide
  have e3 : (3 : Int32).toInt = 3 := by decide
  have e4 : (4 : Int32).toInt = 4 := by decide
  have e5 : (5 : Int32).toInt = 5 := by decide
  have e6 : (6 : Int32).toInt = 6 := by decide
  have e7 : (7 : Int32).toInt = 7 := by decide
  omega
def bcF (x : Int32) : Int32 :=
  let a := x - ((x.toUInt32 >>> ((1 : Int32).toUInt32 &&& Int32.toUInt32 31)).toInt32 &&& 1431655765)
  let b := (a &&& 858993459) + ((a.toUInt32 >>> ((2 : Int32).toUInt32 &&& Int32.toUInt32 31)).toInt32 &&& 858993459)
  let c := (b + (b.toUInt32 >>> ((4 : Int32).toUInt32 &&& Int32.toUInt32 31)).toInt32) &&& 252645135
  let e := c + (c.toUInt32 >>> ((8 : Int32).toUInt32 &&& Int32.toUInt32 31)).toInt32
  let f := e + (e.toUInt32 >>> ((16 : Int32).toUInt32 &&& Int32.toUInt32 31)).toInt32
  f &&& 63
def wXor (t : Th) (c : Int32) : Th := (t.1, t.2.1, t.2.2.1, t.2.2.2.1, t.2.2.2.2.1, t.2.2.2.2.2 ^^^ ((1 : Int32) <<< (c &&& 31)))
section XY
variable {κ : Nat × Nat} {d : Nat} {M M' : Mm} {a i : Nat} {own : Nat → Nat × Nat} {h aT aJ aC aB aW : Nat} {ts : List Nat} {T : List Th} {J J' : List Wt} {C C' : List (Int32 × Int32)} {B B' : Nat → List (Int32 × Int32)} {W W' : List Int32} {tp nw : Int32}
theorem i_bitCount {x : Int32} : G κ m_Intg_bitCount d M 0 [some (.int x)] [] 0 0 (fun v M' => v = some (.int (bcF x)) ∧ M' = M) := by
  refine g_seq s_Intg_bitCount_0 rfl ?_
  refine g_ldcw k_Intg_265 d_Intg_bitCount_4  ?_
  refine g_seq s_Intg_bitCount_7 rfl ?_
  refine g_ldcw k_Intg_266 d_Intg_bitCount_11  ?_
  refine g_seq s_Intg_bitCount_14 rfl ?_
  refine g_ldcw k_Intg_266 d_Intg_bitCount_18  ?_
  refine g_seq s_Intg_bitCount_21 rfl ?_
  refine g_ldcw k_Intg_267 d_Intg_bitCount_29  ?_
  refine g_seq s_Intg_bitCount_32 rfl ?_
  exact g_iret rfl d_Intg_bitCount_52 (⟨rfl, rfl⟩)
theorem x_watch {c : Int32} (hX : XQ M h T J C B W tp nw) (hlen : T.length < 512) : G κ m_LH_watch (d + 8) M 0 [some (.ref h), some (.int c), none] [] 3 1041 (fun v M' => (¬ (tp ≠ 0 ∧ 0 ≤ c ∧ c < 16) ∧ v = some (.int (-1)) ∧ M' = M) ∨ ((tp ≠ 0 ∧ 0 ≤ c ∧ c < 16) ∧ ∃ T1 i t, Add T tp T1 i t ∧ v = some (.int (bcF (wXor t c).2.2.2.2.2)) ∧ XQ M' h (T1.set i (wXor t c)) J C B W tp nw)) := by
  obtain ⟨own, aT, aJ, aC, aB, aW, ts, hP⟩ := hX
  have hH := hP.1
  refine g_seq s_LH_watch_0 rfl ?_
  refine g_invV (k2 := 3) (n2 := 1041) l_LH_47 d_LH_watch_2 rfl ⟨rfl, Nat.le_of_ble_eq_true rfl, Nat.le_of_ble_eq_true rfl⟩ (hH) (x_hasNameAnd hH) (by first | omega | (simp <;> omega)) (by first | omega | (simp <;> omega)) ?_
  rintro v M1 ⟨rfl, rfl⟩
  refine g_if_ne (tgt := 10) d_LH_watch_5 (by decide) (fun h1 => ?_) (fun h1 => ?_)
  · skip
    have ok1 : tp ≠ 0 ∧ 0 ≤ c ∧ c < 16 := of_decide_eq_true (b2i_n.mp h1)
    refine g_seq s_LH_watch_10 rfl ?_
    refine g_get f_LH_35 d_LH_watch_12 (hH) rfl ?_
    refine g_invV (k2 := 0) (n2 := 0) l_LH_54 d_LH_watch_15 rfl ⟨rfl, Nat.le_of_ble_eq_true rfl, Nat.le_of_ble_eq_true rfl⟩ (hH) (x_foat hP hlen) (by first | omega | (simp <;> omega)) (by first | omega | (simp <;> omega)) ?_
    rintro v M3 ⟨T1, i, t, own', ts', x, hA, rfl, hx, hP3⟩
    have hth := hP3.at hA.1 hx
    obtain ⟨r, ws, hc3, hr3, ho3, hR3⟩ := id hth
    refine g_seq s_LH_watch_18 rfl ?_
    refine g_ifnonnull (tgt := 25) d_LH_watch_20 (by decide) ?_
    refine g_seq s_LH_watch_25 rfl ?_
    refine g_get f_LH_160 d_LH_watch_27 (hc3) rfl ?_
    refine g_seq s_LH_watch_30 rfl ?_
    refine g_put f_LH_160 d_LH_watch_34 (hc3) rfl rfl rfl ?_
    refine g_seq s_LH_watch_37 rfl ?_
    refine g_get f_LH_160 d_LH_watch_38 (up_s) rfl ?_
    refine g_invS  l_LH_163 d_LH_watch_41 rfl ⟨rfl, Nat.le_of_ble_eq_true rfl, Nat.le_of_ble_eq_true rfl⟩ (i_bitCount) (Nat.le_of_eq (Nat.zero_add _)) (Nat.le_of_eq (Nat.zero_add _)) ?_
    rintro v M4 ⟨rfl, rfl⟩
    have hX4 := hP3.told (t' := wXor t c) hx hth (hc3.k1 (Or.inl ⟨rfl, rfl⟩)) (up_s : ThC (up M3 x (eO 1 [.int t.1, .ref r, .int t.2.2.1, .int t.2.2.2.1, .int t.2.2.2.2.1, .int (t.2.2.2.2.2 ^^^ ((1 : Int32) <<< (c &&& 31)))])) x r (wXor t c)) hc3 rfl (hP3.2.2.2.2.1.thing hc3)
    exact g_iret rfl d_LH_watch_44 (Or.inr ⟨ok1, T1, i, t, hA, rfl, own', aT, aJ, aC, aB, aW, ts', hX4⟩)
  · skip
    refine g_seq s_LH_watch_8 rfl ?_
    exact g_iret rfl d_LH_watch_9 (Or.inl ⟨of_decide_eq_false (b2i_0.mp h1), rfl, rfl⟩)
theorem x_count {c : Int32} (hX : XQ M h T J C B W tp nw) (hlen : T.length ≤ 512) : G κ m_LH_count (d + 5) M 0 [some (.ref h), some (.int c)] [] 0 0 (fun v M' => M' = M ∧ ((c = 0 ∧ v = some (.int nw)) ∨ (c = 1 ∧ v = some (.int (nI (sm (fun t : Th => if lent t then 1 else 0) T)))) ∨ (c = 2 ∧ v = some (.int (nI (sm (fun t : Th => t.2.1.length) T)))) ∨ (c = 3 ∧ v = some (.int (nI J.length))) ∨ (c = 4 ∧ v = some (.int (nI C.length))) ∨ (c = 5 ∧ v = some (.int (nI (sm (fun t : Th => if t.2.2.2.2.2 = 0 then 0 else 1) T)))) ∨ (c = 6 ∧ ∃ o, FI (byN tp) T o ∧ v = some (.int (chOf T o))) ∨ (c = 7 ∧ v = some (.int (nI (sm (fun i => (B i).length) (List.range 16))))) ∨ ((c.toInt < 0 ∨ 7 < c.toInt) ∧ v = some (.int (-1))))) := by
  obtain ⟨own, aT, aJ, aC, aB, aW, ts, hP⟩ := hX
  have hH := hP.1
  have htl := hP.len
  obtain ⟨js, hj1, hj2, hj3⟩ := id hP.2.2.1
  obtain ⟨cs, hc1, hc2, hc3⟩ := id hP.2.2.2.1
  rcases c8 c with hc | rfl | rfl | rfl | rfl | rfl | rfl | rfl | rfl
  · skip
    refine g_seq s_LH_count_0 rfl ?_
    refine g_tableOut (tgt := 98) d_LH_count_1 hc (by decide) ?_
    refine g_seq s_LH_count_98 rfl ?_
    exact g_iret rfl d_LH_count_99 (⟨rfl, Or.inr (Or.inr (Or.inr (Or.inr (Or.inr (Or.inr (Or.inr (Or.inr ⟨hc, rfl⟩)))))))⟩)
  · skip
    refine g_seq s_LH_count_0 rfl ?_
    refine g_tableIn (tgt := 48) d_LH_count_1 (by decide) (by decide) (off := 47) (by decide) (by decide) ?_
    refine g_seq s_LH_count_48 rfl ?_
    refine g_get f_LH_39 d_LH_count_49 (hH) rfl ?_
    exact g_iret rfl d_LH_count_52 (⟨rfl, Or.inl ⟨rfl, rfl⟩⟩)
  · skip
    refine g_seq s_LH_count_0 rfl ?_
    refine g_tableIn (tgt := 53) d_LH_count_1 (by decide) (by decide) (off := 52) (by decide) (by decide) ?_
    refine g_seq s_LH_count_53 rfl ?_
    refine g_invV  l_LH_191 d_LH_count_54 rfl ⟨rfl, Nat.le_of_ble_eq_true rfl, Nat.le_of_ble_eq_true rfl⟩ (hH) (x_countLeases hH hP.2.1.1 hP.2.1.2.2.2 (by omega)) (Nat.le_of_eq (Nat.zero_add _)) (Nat.le_of_eq (Nat.zero_add _)) ?_
    rintro v M1 ⟨rfl, rfl⟩
    exact g_iret rfl d_LH_count_57 (⟨rfl, Or.inr (Or.inl ⟨rfl, rfl⟩)⟩)
  · skip
    refine g_seq s_LH_count_0 rfl ?_
    refine g_tableIn (tgt := 58) d_LH_count_1 (by decide) (by decide) (off := 57) (by decide) (by decide) ?_
    refine g_seq s_LH_count_58 rfl ?_
    refine g_invV  l_LH_194 d_LH_count_59 rfl ⟨rfl, Nat.le_of_ble_eq_true rfl, Nat.le_of_ble_eq_true rfl⟩ (hH) (x_countWaiting hH hP.2.1.1 hP.2.1.2.2.2 (by omega)) (Nat.le_of_eq (Nat.zero_add _)) (Nat.le_of_eq (Nat.zero_add _)) ?_
    rintro v M1 ⟨rfl, rfl⟩
    exact g_iret rfl d_LH_count_62 (⟨rfl, Or.inr (Or.inr (Or.inl ⟨rfl, rfl⟩))⟩)
  · skip
    refine g_seq s_LH_count_0 rfl ?_
    refine g_tableIn (tgt := 63) d_LH_count_1 (by decide) (by decide) (off := 62) (by decide) (by decide) ?_
    refine g_seq s_LH_count_63 rfl ?_
    refine g_get f_LH_16 d_LH_count_64 (hH) rfl ?_
    refine g_invL  l_LH_98 d_LH_count_67 rfl ⟨rfl, Nat.le_of_ble_eq_true rfl, Nat.le_of_ble_eq_true rfl⟩ (hj1) (al_size hj1) (Nat.le_of_eq (Nat.zero_add _)) (Nat.le_of_eq (Nat.zero_add _)) ?_
    rintro v M1 ⟨rfl, rfl⟩
    exact g_iret rfl d_LH_count_70 (⟨rfl, Or.inr (Or.inr (Or.inr (Or.inl ⟨rfl, by rw [hj3.1]⟩)))⟩)
  · skip
    refine g_seq s_LH_count_0 rfl ?_
    refine g_tableIn (tgt := 71) d_LH_count_1 (by decide) (by decide) (off := 70) (by decide) (by decide) ?_
    refine g_seq s_LH_count_71 rfl ?_
    refine g_get f_LH_19 d_LH_count_72 (hH) rfl ?_
    refine g_invL  l_LH_98 d_LH_count_75 rfl ⟨rfl, Nat.le_of_ble_eq_true rfl, Nat.le_of_ble_eq_true rfl⟩ (hc1) (al_size hc1) (Nat.le_of_eq (Nat.zero_add _)) (Nat.le_of_eq (Nat.zero_add _)) ?_
    rintro v M1 ⟨rfl, rfl⟩
    exact g_iret rfl d_LH_count_78 (⟨rfl, Or.inr (Or.inr (Or.inr (Or.inr (Or.inl ⟨rfl, by rw [hc3.1]⟩))))⟩)
  · skip
    refine g_seq s_LH_count_0 rfl ?_
    refine g_tableIn (tgt := 79) d_LH_count_1 (by decide) (by decide) (off := 78) (by decide) (by decide) ?_
    refine g_seq s_LH_count_79 rfl ?_
    refine g_invV  l_LH_197 d_LH_count_80 rfl ⟨rfl, Nat.le_of_ble_eq_true rfl, Nat.le_of_ble_eq_true rfl⟩ (hH) (x_countWatchedNames hH hP.2.1.1 hP.2.1.2.2.2 (by omega)) (Nat.le_of_eq (Nat.zero_add _)) (Nat.le_of_eq (Nat.zero_add _)) ?_
    rintro v M1 ⟨rfl, rfl⟩
    exact g_iret rfl d_LH_count_83 (⟨rfl, Or.inr (Or.inr (Or.inr (Or.inr (Or.inr (Or.inl ⟨rfl, rfl⟩)))))⟩)
  · skip
    refine g_seq s_LH_count_0 rfl ?_
    refine g_tableIn (tgt := 84) d_LH_count_1 (by decide) (by decide) (off := 83) (by decide) (by decide) ?_
    refine g_seq s_LH_count_84 rfl ?_
    refine g_get f_LH_35 d_LH_count_86 (hH) rfl ?_
    refine g_invV  l_LH_148 d_LH_count_89 rfl ⟨rfl, Nat.le_of_ble_eq_true rfl, Nat.le_of_ble_eq_true rfl⟩ (hH) (x_changesOf hH hP.2.1 (by omega)) (Nat.le_of_eq (Nat.zero_add _)) (Nat.le_of_eq (Nat.zero_add _)) ?_
    rintro v M1 ⟨rfl, o, hFI, rfl⟩
    exact g_iret rfl d_LH_count_92 (⟨rfl, Or.inr (Or.inr (Or.inr (Or.inr (Or.inr (Or.inr (Or.inl ⟨rfl, o, hFI, rfl⟩))))))⟩)
  · skip
    refine g_seq s_LH_count_0 rfl ?_
    refine g_tableIn (tgt := 93) d_LH_count_1 (by decide) (by decide) (off := 92) (by decide) (by decide) ?_
    refine g_seq s_LH_count_93 rfl ?_
    refine g_invV  l_LH_200 d_LH_count_94 rfl ⟨rfl, Nat.le_of_ble_eq_true rfl, Nat.le_of_ble_eq_true rfl⟩ (hH) (x_countNotes hH hP.2.2.2.2.1) (Nat.le_of_eq (Nat.zero_add _)) (Nat.le_of_eq (Nat.zero_add _)) ?_
    rintro v M1 ⟨rfl, rfl⟩
    exact g_iret rfl d_LH_count_97 (⟨rfl, Or.inr (Or.inr (Or.inr (Or.inr (Or.inr (Or.inr (Or.inr (Or.inl ⟨rfl, rfl⟩)))))))⟩)
end XY
