def chOf (T : List Th) (o : Option Nat) : Int32 := match o with
  | none => 0
  | some i => match T[i]? with
    | none => 0
    | some t => t.2.2.2.2.1
section XK
variable {κ : Nat × Nat} {d : Nat} {M M' : Mm} {a i : Nat} {own : Nat → Nat × Nat} {h aT aJ aC aB aW : Nat} {ts : List Nat} {T : List Th} {J J' : List Wt} {C C' : List (Int32 × Int32)} {B B' : Nat → List (Int32 × Int32)} {W W' : List Int32} {tp nw : Int32}
theorem x_cancel (hX : XQ M h T J C B W tp nw) (h30 : J.length ≤ 30) : G κ m_LH_cancel (d + 3) M 0 [some (.ref h), none, none] [] 0 0 (fun v M' => (tp = 0 ∧ v = some (.int (-1)) ∧ M' = M) ∨ (tp ≠ 0 ∧ v = some (.int (nI (J.length - (J.filter (fun j : Wt => j.1 != tp)).length))) ∧ XQ M' h T (J.filter (fun j : Wt => j.1 != tp)) C B W tp nw)) := by
  obtain ⟨own, aT, aJ, aC, aB, aW, ts, hP⟩ := hX
  have hH := hP.1
  obtain ⟨js, hj1, hj2, hj3⟩ := id hP.2.2.1
  have hjl : js.length = J.length := hj3.1
  have hfl : (J.filter (fun j : Wt => j.1 != tp)).length ≤ J.length := List.length_filter_le _ _
  have loop : ∀ n (Mc : Mm), n ≤ J.length → tp ≠ 0 → XP Mc own h aT aJ aC aB aW ts T (J.take n ++ (J.drop n).filter (fun j : Wt => j.1 != tp)) C B W tp nw →
      G κ m_LH_cancel (d + 3) Mc 21 [some (.ref h), some (.int (nI J.length)), some (.int (nI n - 1))] [] 0 0 (fun v M' => (tp = 0 ∧ v = some (.int (-1)) ∧ M' = M) ∨ (tp ≠ 0 ∧ v = some (.int (nI (J.length - (J.filter (fun j : Wt => j.1 != tp)).length))) ∧ XQ M' h T (J.filter (fun j : Wt => j.1 != tp)) C B W tp nw)) := by
    intro n
    induction n with
    | zero =>
      intro Mc hn h0 hPc
      have he : J.take 0 ++ (J.drop 0).filter (fun j : Wt => j.1 != tp) = J.filter (fun j : Wt => j.1 != tp) := by simp
      rw [he] at hPc
      obtain ⟨jc, hc1, hc2, hc3⟩ := id hPc.2.2.1
      refine g_seq s_LH_cancel_21 rfl ?_
      refine g_if_lt (tgt := 61) d_LH_cancel_22 (by decide) (fun hbr => ?_) (fun hbr => absurd hbr (by decide))
      refine g_seq s_LH_cancel_61 rfl ?_
      refine g_get f_LH_16 d_LH_cancel_63 (hPc.1) rfl ?_
      refine g_invL  l_LH_98 d_LH_cancel_66 rfl ⟨rfl, Nat.le_of_ble_eq_true rfl, Nat.le_of_ble_eq_true rfl⟩ (hc1) (al_size hc1) (Nat.le_of_eq (Nat.zero_add _)) (Nat.le_of_eq (Nat.zero_add _)) ?_
      rintro v M2 ⟨rfl, rfl⟩
      refine g_seq s_LH_cancel_69 rfl ?_
      exact g_iret rfl d_LH_cancel_70 (Or.inr ⟨h0, by rw [hc3.1, pk_sub hfl], own, aT, aJ, aC, aB, aW, ts, hPc⟩)
    | succ n ih =>
      intro Mc hn h0 hPc
      rw [nI_pred]
      have hnl : n < J.length := by omega
      have hJn := List.getElem?_eq_getElem hnl
      generalize J[n] = jn at hJn
      obtain ⟨jc, hc1, hc2, hc3⟩ := id hPc.2.2.1
      have hat : (J.take (n + 1) ++ (J.drop (n + 1)).filter (fun j : Wt => j.1 != tp))[n]? = some jn := by
        rw [List.getElem?_append_left (by simp; omega), List.getElem?_take, if_pos (by omega)]; exact hJn
      have hdr : J.drop n = jn :: J.drop (n + 1) := by
        have h1 := List.drop_eq_getElem_cons hnl
        rw [List.getElem?_eq_getElem hnl] at hJn
        rw [h1, Option.some.inj hJn]
      have htk : J.take (n + 1) = J.take n ++ [jn] := by rw [List.take_add_one, hJn]; rfl
      obtain ⟨x, hx, hxj⟩ := hc3.at hat
      have hcl : jc.length ≤ 30 := by
        rw [hc3.1]
        have := List.length_filter_le (fun j : Wt => j.1 != tp) (J.drop (n + 1))
        simp at this ⊢
        omega
      refine g_seq s_LH_cancel_21 rfl ?_
      refine g_if_lt (tgt := 61) d_LH_cancel_22 (by decide) (fun hbr => absurd hbr (nI_lt0 (by omega))) (fun hbr => ?_)
      refine g_seq s_LH_cancel_25 rfl ?_
      refine g_get f_LH_16 d_LH_cancel_26 (hPc.1) rfl ?_
      refine g_seq s_LH_cancel_29 rfl ?_
      refine g_invL  l_LH_106 d_LH_cancel_30 rfl ⟨rfl, Nat.le_of_ble_eq_true rfl, Nat.le_of_ble_eq_true rfl⟩ (hc1) (al_get hc1 hx (by omega)) (Nat.le_of_eq (Nat.zero_add _)) (Nat.le_of_eq (Nat.zero_add _)) ?_
      rintro v M2 ⟨rfl, rfl⟩
      refine g_cast cl_LH_117 rfl ca_Job_Job d_LH_cancel_33 (hxj) ?_
      refine g_invV  l_LH_138 d_LH_cancel_36 rfl ⟨rfl, Nat.le_of_ble_eq_true rfl, Nat.le_of_ble_eq_true rfl⟩ (hxj) (j_name hxj) (Nat.le_of_eq (Nat.zero_add _)) (Nat.le_of_eq (Nat.zero_add _)) ?_
      rintro v M3 ⟨rfl, rfl⟩
      refine g_seq s_LH_cancel_39 rfl ?_
      refine g_get f_LH_35 d_LH_cancel_40 (hPc.1) rfl ?_
      refine g_icmp_ne (tgt := 55) d_LH_cancel_43 (by decide) (fun h2 => ?_) (fun h2 => ?_)
      · skip
        have he : J.take n ++ (J.drop n).filter (fun j : Wt => j.1 != tp) = J.take (n + 1) ++ (J.drop (n + 1)).filter (fun j : Wt => j.1 != tp) := by
          rw [hdr, htk, List.filter_cons_of_pos (by simpa using h2)]; simp
        refine g_seq s_LH_cancel_55 rfl ?_
        rw [← Int32.sub_eq_add_neg]
        exact ih _ (by omega) h0 (by rw [he]; exact hPc)
      · skip
        have he : (J.take (n + 1) ++ (J.drop (n + 1)).filter (fun j : Wt => j.1 != tp)).eraseIdx n = J.take n ++ (J.drop n).filter (fun j : Wt => j.1 != tp) := by
          rw [hdr, htk, List.filter_cons_of_neg (by simpa using h2), List.append_assoc, List.eraseIdx_append_of_length_le (by simp; omega)]
          have : n - (J.take n).length = 0 := by simp; omega
          rw [this]
          simp
        refine g_seq s_LH_cancel_46 rfl ?_
        refine g_get f_LH_16 d_LH_cancel_47 (hPc.1) rfl ?_
        refine g_seq s_LH_cancel_50 rfl ?_
        refine g_invL  l_LH_94 d_LH_cancel_51 rfl ⟨rfl, Nat.le_of_ble_eq_true rfl, Nat.le_of_ble_eq_true rfl⟩ (hc1) (al_remove hc1 hx (by omega) (fun y hy => by obtain ⟨z, hz⟩ := hc3.mem hy; exact can_jo hz)) (Nat.le_of_eq (Nat.zero_add _)) (Nat.le_of_eq (Nat.zero_add _)) ?_
        rintro v M4 ⟨rfl, rfl⟩
        refine g_seq s_LH_cancel_54 rfl ?_
        have hP4 := hPc.jobs hc1 (hc3.erase n)
        rw [he] at hP4
        rw [← Int32.sub_eq_add_neg]
        exact ih _ (by omega) h0 hP4
  refine g_seq s_LH_cancel_0 rfl ?_
  refine g_get f_LH_35 d_LH_cancel_1 (hH) rfl ?_
  refine g_if_ne (tgt := 9) d_LH_cancel_4 (by decide) (fun h1 => ?_) (fun h1 => ?_)
  · skip
    refine g_seq s_LH_cancel_9 rfl ?_
    refine g_get f_LH_16 d_LH_cancel_10 (hH) rfl ?_
    refine g_invL  l_LH_98 d_LH_cancel_13 rfl ⟨rfl, Nat.le_of_ble_eq_true rfl, Nat.le_of_ble_eq_true rfl⟩ (hj1) (al_size hj1) (Nat.le_of_eq (Nat.zero_add _)) (Nat.le_of_eq (Nat.zero_add _)) ?_
    rintro v M1 ⟨rfl, rfl⟩
    rw [hjl]
    refine g_seq s_LH_cancel_16 rfl ?_
    exact loop J.length _ (Nat.le_refl _) h1 (by simpa using hP)
  · skip
    refine g_seq s_LH_cancel_7 rfl ?_
    exact g_iret rfl d_LH_cancel_8 (Or.inl ⟨h1, rfl, rfl⟩)
theorem x_known (hX : XQ M h T J C B W tp nw) (h4 : C.length ≤ 4) : G κ m_LH_known (d + 4) M 0 [some (.ref h)] [] 0 0 (fun v M' => M' = M ∧ ((tp = 0 ∧ v = some (.int 0)) ∨ (tp ≠ 0 ∧ ∃ o, FI (fun e : Int32 × Int32 => e.1 == tp) C o ∧ v = some (.int (b2i o.isSome))))) := by
  obtain ⟨own, aT, aJ, aC, aB, aW, ts, hP⟩ := hX
  have hH := hP.1
  obtain ⟨cs, hc1, hc2, hc3⟩ := id hP.2.2.2.1
  refine g_seq s_LH_known_0 rfl ?_
  refine g_get f_LH_35 d_LH_known_1 (hH) rfl ?_
  refine g_if_eq (tgt := 24) d_LH_known_4 (by decide) (fun h1 => ?_) (fun h1 => ?_)
  · skip
    refine g_seq s_LH_known_24 rfl ?_
    exact g_zret rfl rfl d_LH_known_25 (⟨rfl, Or.inl ⟨h1, rfl⟩⟩)
  · skip
    refine g_seq s_LH_known_7 rfl ?_
    refine g_get f_LH_35 d_LH_known_9 (hH) rfl ?_
    refine g_invV  l_LH_143 d_LH_known_12 rfl ⟨rfl, Nat.le_of_ble_eq_true rfl, Nat.le_of_ble_eq_true rfl⟩ (hH) (x_findInCache hH hc1 hc3 (by rw [hc3.1]; omega)) (Nat.le_of_eq (Nat.zero_add _)) (Nat.le_of_eq (Nat.zero_add _)) ?_
    rintro v M1 ⟨o, hFI, rfl, rfl⟩
    refine g_seq s_LH_known_15 rfl ?_
    cases o with
    | none =>
      refine g_icmp_eq (tgt := 24) d_LH_known_17 (by decide) (fun hbr => ?_) (fun hbr => absurd hbr (fun h => h rfl))
      refine g_seq s_LH_known_24 rfl ?_
      exact g_zret rfl rfl d_LH_known_25 (⟨rfl, Or.inr ⟨h1, none, hFI, rfl⟩⟩)
    | some i =>
      obtain ⟨y, hy, -⟩ := id hFI
      have hil := (List.getElem?_eq_some_iff.mp hy).1
      have hne : ¬ oI (some i) = -2 := by
        show ¬ nI i = -2
        intro e
        have h1 := nI_lt0 (j := i) (by omega)
        rw [e] at h1
        exact h1 (by decide)
      refine g_icmp_eq (tgt := 24) d_LH_known_17 (by decide) (fun hbr => absurd hbr (hne)) (fun hbr => ?_)
      refine g_seq s_LH_known_20 rfl ?_
      exact g_zret rfl rfl d_LH_known_25 (⟨rfl, Or.inr ⟨h1, some i, hFI, rfl⟩⟩)
theorem x_ask (hX : XQ M h T J C B W tp nw) (hlen : T.length ≤ 512) (h4 : C.length ≤ 4) : G κ m_LH_ask (d + 7) M 0 [some (.ref h), none, none] [] 2 24 (fun v M' => (tp = 0 ∧ v = some (.int (-1)) ∧ M' = M) ∨ (tp ≠ 0 ∧ ∃ o asked C1, FI (fun e : Int32 × Int32 => e.1 == tp) C o ∧ ((o = none ∧ C1 = C ∧ ∃ o2, FI (byN tp) T o2 ∧ asked = (tp, 1000 * chOf T o2 + nw)) ∨ ∃ i, o = some i ∧ C[i]? = some asked ∧ C1 = C.eraseIdx i) ∧ v = some (.int asked.2) ∧ XQ M' h T J ((if C1.length < 4 then C1 else C1.eraseIdx 0) ++ [asked]) B W tp nw)) := by
  obtain ⟨own, aT, aJ, aC, aB, aW, ts, hP⟩ := hX
  have hH := hP.1
  have htl := hP.len
  obtain ⟨cs, hc1, hc2, hc3⟩ := id hP.2.2.2.1
  have last : ∀ (Mc : Mm) (C1 : List (Int32 × Int32)) (asked : Int32 × Int32) (cs1 : List Nat) (x : Nat) (o1 : Value), tp ≠ 0 → XP Mc own h aT aJ aC aB aW ts T J C1 B W tp nw → Mc aC = some (eL cs1) → R2 (CaR Mc) cs1 C1 → CaR Mc x asked → C1.length < 4 → (∃ o C1', FI (fun e : Int32 × Int32 => e.1 == tp) C o ∧ ((o = none ∧ C1' = C ∧ ∃ o2, FI (byN tp) T o2 ∧ asked = (tp, 1000 * chOf T o2 + nw)) ∨ ∃ i, o = some i ∧ C[i]? = some asked ∧ C1' = C.eraseIdx i) ∧ C1 = (if C1'.length < 4 then C1' else C1'.eraseIdx 0)) →
      G κ m_LH_ask (d + 7) Mc 87 [some (.ref h), some o1, some (.ref x)] [] 1 21 (fun v M' => (tp = 0 ∧ v = some (.int (-1)) ∧ M' = M) ∨ (tp ≠ 0 ∧ ∃ o asked C1, FI (fun e : Int32 × Int32 => e.1 == tp) C o ∧ ((o = none ∧ C1 = C ∧ ∃ o2, FI (byN tp) T o2 ∧ asked = (tp, 1000 * chOf T o2 + nw)) ∨ ∃ i, o = some i ∧ C[i]? = some asked ∧ C1 = C.eraseIdx i) ∧ v = some (.int asked.2) ∧ XQ M' h T J ((if C1.length < 4 then C1 else C1.eraseIdx 0) ++ [asked]) B W tp nw)) := by
    intro Mc C1 asked cs1 x o1 h0 hPc g1 g2 g3 g4 g5
    have hcl : cs1.length = C1.length := g2.1
    have hxa : x ≠ aC := fun e => by unfold CaR at g3; rw [e, g1] at g3; cases g3
    refine g_seq s_LH_ask_87 rfl ?_
    refine g_get f_LH_19 d_LH_ask_88 (hPc.1) rfl ?_
    refine g_seq s_LH_ask_91 rfl ?_
    refine g_invL (k2 := 0) (n2 := 0) l_LH_154 d_LH_ask_92 rfl ⟨rfl, Nat.le_of_ble_eq_true rfl, Nat.le_of_ble_eq_true rfl⟩ (g1) (al_add g1 (by rw [g2.1]; omega) (can_ca g3) (fun y hy => by obtain ⟨z, hz⟩ := g2.mem hy; exact can_ca hz)) (by first | omega | (simp <;> omega)) (by first | omega | (simp <;> omega)) ?_
    rintro v M2 ⟨rfl, rfl⟩
    have hP2 := hPc.cach g1 (g2.snoc g3)
    refine g_seq s_LH_ask_95 rfl ?_
    refine g_invV  l_LH_157 d_LH_ask_97 rfl ⟨rfl, Nat.le_of_ble_eq_true rfl, Nat.le_of_ble_eq_true rfl⟩ ((up_n hxa).trans g3) (c_number ((up_n hxa).trans g3)) (Nat.le_of_eq (Nat.zero_add _)) (Nat.le_of_eq (Nat.zero_add _)) ?_
    rintro v M3 ⟨rfl, rfl⟩
    obtain ⟨o, C1', e1, e2, e3⟩ := g5
    exact g_iret rfl d_LH_ask_100 (Or.inr ⟨h0, o, asked, C1', e1, e2, rfl, own, aT, aJ, aC, aB, aW, ts, by rw [← e3]; exact hP2⟩)
  have tail : ∀ (Mc : Mm) (C1 : List (Int32 × Int32)) (asked : Int32 × Int32) (cs1 : List Nat) (x : Nat) (o1 : Value), tp ≠ 0 → XP Mc own h aT aJ aC aB aW ts T J C1 B W tp nw → Mc aC = some (eL cs1) → R2 (CaR Mc) cs1 C1 → CaR Mc x asked → C1.length ≤ 4 → (∃ o, FI (fun e : Int32 × Int32 => e.1 == tp) C o ∧ ((o = none ∧ C1 = C ∧ ∃ o2, FI (byN tp) T o2 ∧ asked = (tp, 1000 * chOf T o2 + nw)) ∨ ∃ i, o = some i ∧ C[i]? = some asked ∧ C1 = C.eraseIdx i)) →
      G κ m_LH_ask (d + 7) Mc 68 [some (.ref h), some o1, some (.ref x)] [.ref h] 1 21 (fun v M' => (tp = 0 ∧ v = some (.int (-1)) ∧ M' = M) ∨ (tp ≠ 0 ∧ ∃ o asked C1, FI (fun e : Int32 × Int32 => e.1 == tp) C o ∧ ((o = none ∧ C1 = C ∧ ∃ o2, FI (byN tp) T o2 ∧ asked = (tp, 1000 * chOf T o2 + nw)) ∨ ∃ i, o = some i ∧ C[i]? = some asked ∧ C1 = C.eraseIdx i) ∧ v = some (.int asked.2) ∧ XQ M' h T J ((if C1.length < 4 then C1 else C1.eraseIdx 0) ++ [asked]) B W tp nw)) := by
    intro Mc C1 asked cs1 x o1 h0 hPc g1 g2 g3 g4 ⟨o, e1, e2⟩
    refine g_get f_LH_19 d_LH_ask_68 (hPc.1) rfl ?_
    refine g_invL (k2 := 1) (n2 := 21) l_LH_98 d_LH_ask_71 rfl ⟨rfl, Nat.le_of_ble_eq_true rfl, Nat.le_of_ble_eq_true rfl⟩ (g1) (al_size g1) (by first | omega | (simp <;> omega)) (by first | omega | (simp <;> omega)) ?_
    rintro v M2 ⟨rfl, rfl⟩
    refine g_seq s_LH_ask_74 rfl ?_
    refine g_icmp_lt (tgt := 87) d_LH_ask_75 (by decide) (fun h2 => ?_) (fun h2 => ?_)
    · skip
      have hlt : C1.length < 4 := by
        rcases Nat.lt_or_ge C1.length 4 with q | q
        · exact q
        · exact absurd h2 (show ¬ nI cs1.length < nI 4 from nI_nlt (by rw [g2.1]; exact q) (by rw [g2.1]; omega))
      exact last _ C1 asked cs1 x o1 h0 hPc g1 g2 g3 hlt ⟨o, C1, e1, e2, by rw [if_pos hlt]⟩
    · skip
      have hlt : ¬ C1.length < 4 := fun q => h2 (show nI cs1.length < nI 4 from nI_lt (by rw [g2.1]; exact q) (by omega))
      obtain ⟨y, hy, hyc⟩ := g2.at (i := 0) (List.getElem?_eq_getElem (by omega))
      have hxa : x ≠ aC := fun e => by unfold CaR at g3; rw [e, g1] at g3; cases g3
      refine g_seq s_LH_ask_78 rfl ?_
      refine g_get f_LH_19 d_LH_ask_79 (hPc.1) rfl ?_
      refine g_seq s_LH_ask_82 rfl ?_
      refine g_invL (k2 := 1) (n2 := 21) l_LH_94 d_LH_ask_83 rfl ⟨rfl, Nat.le_of_ble_eq_true rfl, Nat.le_of_ble_eq_true rfl⟩ (g1) (al_remove (j := 0) g1 hy (by rw [g2.1]; omega) (fun y hy => by obtain ⟨z, hz⟩ := g2.mem hy; exact can_ca hz)) (by first | omega | (simp <;> omega)) (by first | omega | (simp <;> omega)) ?_
      rintro v M3 ⟨rfl, rfl⟩
      have hP3 := hPc.cach g1 (g2.erase 0)
      have hl2 := last _ (C1.eraseIdx 0) asked (cs1.eraseIdx 0) x o1 h0 hP3 up_s ((g2.erase 0).mono (fun z w _ hz => (up_n (fun e => by unfold CaR at hz; rw [e, g1] at hz; cases hz)).trans hz)) ((up_n hxa).trans g3) (by rw [List.length_eraseIdx_of_lt (by omega)]; omega) ⟨o, C1, e1, e2, by rw [if_neg hlt]⟩
      refine g_seq (is := [(.pop, 1, 0)]) (pc' := 87) (by decide +kernel) rfl ?_
      exact hl2
  refine g_seq s_LH_ask_0 rfl ?_
  refine g_get f_LH_35 d_LH_ask_1 (hH) rfl ?_
  refine g_if_ne (tgt := 9) d_LH_ask_4 (by decide) (fun h1 => ?_) (fun h1 => ?_)
  · skip
    refine g_seq s_LH_ask_9 rfl ?_
    refine g_get f_LH_35 d_LH_ask_11 (hH) rfl ?_
    refine g_invV (k2 := 2) (n2 := 24) l_LH_143 d_LH_ask_14 rfl ⟨rfl, Nat.le_of_ble_eq_true rfl, Nat.le_of_ble_eq_true rfl⟩ (hH) (x_findInCache hH hc1 hc3 (by rw [hc3.1]; omega)) (by first | omega | (simp <;> omega)) (by first | omega | (simp <;> omega)) ?_
    rintro v M1 ⟨o, hFI, rfl, rfl⟩
    refine g_seq s_LH_ask_17 rfl ?_
    cases o with
    | none =>
      refine g_icmp_ne (tgt := 55) d_LH_ask_21 (by decide) (fun hbr => absurd hbr (fun h => h rfl)) (fun hbr => ?_)
      refine g_new (k' := 1) (n' := 22) n_LH_146 d_LH_ask_24 (by first | omega | (simp <;> omega)) (by first | omega | (simp <;> omega)) (fun q hq hzq => ?_)
      have nq : ∀ x e, M1 x = some e → x ≠ q := fun x e hx e2 => by rw [e2, hq] at hx; cases hx
      have hP2 := hP.new (e := eO 4 [.int 0, .int 0]) hq
      refine g_seq s_LH_ask_27 rfl ?_
      refine g_get f_LH_35 d_LH_ask_29 (hP2.1) rfl ?_
      refine g_seq s_LH_ask_32 rfl ?_
      refine g_get f_LH_35 d_LH_ask_37 (hP2.1) rfl ?_
      refine g_invV (k2 := 1) (n2 := 22) l_LH_148 d_LH_ask_40 rfl ⟨rfl, Nat.le_of_ble_eq_true rfl, Nat.le_of_ble_eq_true rfl⟩ (hP2.1) (x_changesOf hP2.1 hP2.2.1 (by omega)) (by first | omega | (simp <;> omega)) (by first | omega | (simp <;> omega)) ?_
      rintro v M2 ⟨rfl, o2, hF2, rfl⟩
      refine g_seq s_LH_ask_43 rfl ?_
      refine g_get f_LH_39 d_LH_ask_45 (hP2.1) rfl ?_
      refine g_seq s_LH_ask_48 rfl ?_
      refine g_invIN (k2 := 1) (n2 := 22) l_LH_151 d_LH_ask_49 rfl ⟨rfl, Nat.le_of_ble_eq_true rfl, Nat.le_of_ble_eq_true rfl⟩ (c_init up_s) (by first | omega | (simp <;> omega)) (by first | omega | (simp <;> omega)) ?_
      rintro v M3 ⟨rfl, rfl⟩
      rw [up_up]
      refine g_seq s_LH_ask_52 rfl ?_
      exact g_le (tail _ C (tp, 1000 * chOf T o2 + nw) cs q _ h1 (hP.new hq) ((up_n (nq aC _ hc1)).trans hc1) (hc3.mono (fun x y _ hz => (up_n (nq x _ hz)).trans hz)) up_s h4 ⟨none, hFI, Or.inl ⟨rfl, rfl, o2, hF2, rfl⟩⟩) (by omega) (by omega)
    | some i =>
      obtain ⟨y, hy, -⟩ := id hFI
      have hil := (List.getElem?_eq_some_iff.mp hy).1
      have hne : ¬ oI (some i) = -2 := by
        show ¬ nI i = -2
        intro e
        have h1 := nI_lt0 (j := i) (by omega)
        rw [e] at h1
        exact h1 (by decide)
      obtain ⟨x, hx, hxc⟩ := hc3.at hy
      have hxa : x ≠ aC := fun e => by unfold CaR at hxc; rw [e, hc1] at hxc; cases hxc
      refine g_icmp_ne (tgt := 55) d_LH_ask_21 (by decide) (fun hbr => ?_) (fun hbr => absurd hbr (hne))
      refine g_seq s_LH_ask_55 rfl ?_
      refine g_get f_LH_19 d_LH_ask_56 (hH) rfl ?_
      refine g_seq s_LH_ask_59 rfl ?_
      refine g_invL (k2 := 2) (n2 := 24) l_LH_94 d_LH_ask_60 rfl ⟨rfl, Nat.le_of_ble_eq_true rfl, Nat.le_of_ble_eq_true rfl⟩ (hc1) (al_remove (j := i) hc1 hx (by rw [hc3.1]; omega) (fun y hy => by obtain ⟨z, hz⟩ := hc3.mem hy; exact can_ca hz)) (by first | omega | (simp <;> omega)) (by first | omega | (simp <;> omega)) ?_
      rintro v M2 ⟨rfl, rfl⟩
      have hP2 := hP.cach hc1 (hc3.erase i)
      refine g_cast cl_LH_146 rfl ca_Cached_Cached d_LH_ask_63 ((up_n hxa).trans hxc) ?_
      refine g_seq s_LH_ask_66 rfl ?_
      exact g_le (tail _ (C.eraseIdx i) y (cs.eraseIdx i) x _ h1 hP2 up_s ((hc3.erase i).mono (fun z w _ hz => (up_n (fun e => by unfold CaR at hz; rw [e, hc1] at hz; cases hz)).trans hz)) ((up_n hxa).trans hxc) (by rw [List.length_eraseIdx_of_lt hil]; omega) ⟨some i, hFI, Or.inr ⟨i, rfl, hy, rfl⟩⟩) (by omega) (by omega)
  · skip
    refine g_seq s_LH_ask_7 rfl ?_
    exact g_iret rfl d_LH_ask_8 (Or.inl ⟨h1, rfl, rfl⟩)
theorem x_note {c : Int32} (hX : XQ M h T J C B W tp nw) (h8 : ∀ i, i < 16 → (B i).length ≤ 8) : G κ m_LH_note (d + 4) M 0 [some (.ref h), some (.int c), none] [] 0 0 (fun v M' => (¬ (0 ≤ c ∧ c < 16) ∧ v = some (.int (-1)) ∧ M' = M) ∨ ∃ i, i < 16 ∧ c = nI i ∧ ((B i = [] ∧ v = some (.int (-2)) ∧ M' = M) ∨ ∃ x N, B i = x :: N ∧ v = some (.int x.2) ∧ XQ M' h T J C (fun j => if j = i then N else B j) W x.1 nw)) := by
  obtain ⟨own, aT, aJ, aC, aB, aW, ts, hP⟩ := hX
  have hH := hP.1
  refine g_seq s_LH_note_0 rfl ?_
  refine g_invS  l_LH_168 d_LH_note_1 rfl ⟨rfl, Nat.le_of_ble_eq_true rfl, Nat.le_of_ble_eq_true rfl⟩ (x_isClient) (Nat.le_of_eq (Nat.zero_add _)) (Nat.le_of_eq (Nat.zero_add _)) ?_
  rintro v M1 ⟨rfl, rfl⟩
  refine g_if_ne (tgt := 9) d_LH_note_4 (by decide) (fun h1 => ?_) (fun h1 => ?_)
  · skip
    have hok : 0 ≤ c ∧ c < 16 := of_decide_eq_true (b2i_n.mp h1)
    obtain ⟨i, hi1, hi2⟩ := nI_of (x := c) (Int32.not_lt.mpr hok.1)
    subst hi2
    have hi : i < 16 := (nI_ltI hi1 (by decide)).mp (show nI i < nI 16 from hok.2)
    obtain ⟨f, f1, f2⟩ := id hP.2.2.2.2.1
    obtain ⟨b, hfb, l, ws, hb1, hb2, hb3, hb4⟩ := f2 i hi
    have hwl : ws.length ≤ 8 := by rw [hb4.1]; exact h8 i hi
    refine g_seq s_LH_note_9 rfl ?_
    refine g_get f_LH_24 d_LH_note_10 (hH) rfl ?_
    refine g_seq s_LH_note_13 rfl ?_
    refine g_aald d_LH_note_14 f1 (vp_nI hi (by omega)) ?_
    rw [nI_cl (by omega), hfb]
    refine g_invV  l_LH_171 d_LH_note_15 rfl ⟨rfl, Nat.le_of_ble_eq_true rfl, Nat.le_of_ble_eq_true rfl⟩ (hb1) (b_takeOldest hb1 hb2 hb4 hwl) (Nat.le_of_eq (Nat.zero_add _)) (Nat.le_of_eq (Nat.zero_add _)) ?_
    rintro v M2 (⟨hn, rfl, rfl⟩ | ⟨x, hx, rfl, rfl⟩)
    · have hBn : B i = [] := List.length_eq_zero_iff.mp (by rw [← hb4.1, hn]; rfl)
      refine g_seq s_LH_note_18 rfl ?_
      refine g_ifnonnullN d_LH_note_20 ?_
      refine g_seq s_LH_note_23 rfl ?_
      exact g_iret rfl d_LH_note_25 (Or.inr ⟨i, hi, rfl, Or.inl ⟨hBn, rfl, rfl⟩⟩)
    · cases hB : B i with
      | nil =>
        rw [hB] at hb4
        have := hb4.1
        rw [List.length_eq_zero_iff.mp this] at hx
        cases hx
      | cons n0 N =>
        rw [hB] at hb4
        have hxn : NoR M1 x n0 := hb4.2 0 x n0 hx rfl
        have hxl : x ≠ l := fun e => by unfold NoR at hxn; rw [e, hb2] at hxn; cases hxn
        have hP2 := hP.box (B' := fun j => if j = i then N else B j) f1 f2 hfb hb1 hb2 hb3 (ws' := ws.eraseIdx 0) (by simpa using hb4.erase 0) (fun j hj => if_neg hj)
        have hxn2 : NoR (up M1 l (eL (ws.eraseIdx 0))) x n0 := (up_n hxl).trans hxn
        generalize up M1 l (eL (ws.eraseIdx 0)) = M2 at hP2 hxn2
        refine g_seq s_LH_note_18 rfl ?_
        refine g_ifnonnull (tgt := 26) d_LH_note_20 (by decide) ?_
        refine g_seq s_LH_note_26 rfl ?_
        refine g_invV  l_LH_175 d_LH_note_28 rfl ⟨rfl, Nat.le_of_ble_eq_true rfl, Nat.le_of_ble_eq_true rfl⟩ (hxn2) (n_name hxn2) (Nat.le_of_eq (Nat.zero_add _)) (Nat.le_of_eq (Nat.zero_add _)) ?_
        rintro v M3 ⟨rfl, rfl⟩
        refine g_put f_LH_35 d_LH_note_31 (hP2.1) rfl rfl rfl ?_
        have hhx : h ≠ x := fun e => by have := hP2.1; unfold HoC at this; unfold NoR at hxn2; rw [e, hxn2] at this; cases this
        refine g_seq s_LH_note_34 rfl ?_
        refine g_invV  l_LH_178 d_LH_note_35 rfl ⟨rfl, Nat.le_of_ble_eq_true rfl, Nat.le_of_ble_eq_true rfl⟩ ((up_n hhx.symm).trans hxn2) (n_kind ((up_n hhx.symm).trans hxn2)) (Nat.le_of_eq (Nat.zero_add _)) (Nat.le_of_eq (Nat.zero_add _)) ?_
        rintro v M4 ⟨rfl, rfl⟩
        exact g_iret rfl d_LH_note_38 (Or.inr ⟨i, hi, rfl, Or.inr ⟨n0, N, hB, rfl, own, aT, aJ, aC, aB, aW, ts, hP2.house⟩⟩)
  · skip
    refine g_seq s_LH_note_7 rfl ?_
    exact g_iret rfl d_LH_note_8 (Or.inl ⟨of_decide_eq_false (b2i_0.mp h1), rfl, rfl⟩)
theorem x_waits {lo hh : Int32} (hX : XQ M h T J C B W tp nw) : G κ m_LH_waits (d + 1) M 0 [some (.ref h), some (.int lo), some (.int hh)] [] 0 0 (fun v M' => v = some (.int (nI (sm (fun x : Int32 => if lo ≤ x ∧ x < hh then 1 else 0) W))) ∧ M' = M) := by
  obtain ⟨own, aT, aJ, aC, aB, aW, ts, hP⟩ := hX
  obtain ⟨aw, f, w1, w2, w3⟩ := id hP.2.2.2.2.2
  refine g_seq s_LH_waits_0 rfl ?_
  refine g_get f_LH_31 d_LH_waits_1 (hP.1) rfl ?_
  refine g_seq s_LH_waits_4 rfl ?_
  refine g_invV  l_LH_181 d_LH_waits_6 rfl ⟨rfl, Nat.le_of_ble_eq_true rfl, Nat.le_of_ble_eq_true rfl⟩ (w1) (wt_countFrom hP.2.2.2.2.2) (Nat.le_of_eq (Nat.zero_add _)) (Nat.le_of_eq (Nat.zero_add _)) ?_
  rintro v M1 ⟨rfl, rfl⟩
  exact g_iret rfl d_LH_waits_9 (⟨rfl, rfl⟩)
theorem x_waited {tk : Int32} (hX : XQ M h T J C B W tp nw) : G κ m_LH_waited (d + 1) M 0 [some (.ref h), some (.int tk)] [] 0 0 (fun v M' => v = some (.int (W.foldl (gUp tk) (-2))) ∧ M' = M) := by
  obtain ⟨own, aT, aJ, aC, aB, aW, ts, hP⟩ := hX
  obtain ⟨aw, f, w1, w2, w3⟩ := id hP.2.2.2.2.2
  refine g_seq s_LH_waited_0 rfl ?_
  refine g_get f_LH_31 d_LH_waited_1 (hP.1) rfl ?_
  refine g_seq s_LH_waited_4 rfl ?_
  refine g_invV  l_LH_185 d_LH_waited_5 rfl ⟨rfl, Nat.le_of_ble_eq_true rfl, Nat.le_of_ble_eq_true rfl⟩ (w1) (wt_greatestUpTo hP.2.2.2.2.2) (Nat.le_of_eq (Nat.zero_add _)) (Nat.le_of_eq (Nat.zero_add _)) ?_
  rintro v M1 ⟨rfl, rfl⟩
  exact g_iret rfl d_LH_waited_8 (⟨rfl, rfl⟩)
end XK
