/-! each call, of both -/
section OP2
variable {κ : Nat × Nat} {j h m F : Nat} {M : Mm} {ad : Nat → Nat} {ar : Ar} {nm : Nat → Int64} {sc : Sc}
theorem o_holder (hI : IV j M h ar nm sc F) (hj : j < 512) : OPs κ j h m F M ad ar nm sc m_LH_holder m_Mo_holder [] isI := by
  obtain ⟨T, JM, C, B, W, tp, u, K, ls, hX, hN, hT, rfl, hKj, hK, hlen, h8, hrow, hJ, hC, hok, h6, h0, hL, hW⟩ := hI.go hj
  refine ⟨0, 0, _, by omega, by omega, x_holder hX (by omega), ?_⟩
  rintro v M' ⟨rfl, hv⟩
  have e : v = some (.int (holderA tp (lk T (ni tp)))) := by
    unfold holderA
    rcases hv with ⟨a, rfl⟩ | ⟨a, o, hF, b⟩
    · rw [if_pos (h0.mp a)]
    · rw [if_neg (fun q => a (h0.mpr q))]
      rcases b with ⟨rfl, rfl⟩ | ⟨i, t, rfl, ht, rfl⟩
      · rw [hL.FIn hF]; rfl
      · rw [(hL.FIs hF ht).2]
  subst e
  exact ⟨⟨_, rfl⟩, n_mono (m_holder hN hK) (fun v' a n s ⟨e1, e2⟩ => ⟨e1, stay hT hKj (by omega) (by omega) hX e2⟩)⟩
theorem o_left (hI : IV j M h ar nm sc F) (hj : j < 512) : OPs κ j h m F M ad ar nm sc m_LH_left m_Mo_left [] isI := by
  obtain ⟨T, JM, C, B, W, tp, u, K, ls, hX, hN, hT, rfl, hKj, hK, hlen, h8, hrow, hJ, hC, hok, h6, h0, hL, hW⟩ := hI.go hj
  refine ⟨0, 0, _, by omega, by omega, x_left hX (by omega), ?_⟩
  rintro v M' ⟨rfl, hv⟩
  have e : v = some (.int (leftA tp (nI u) (lk T (ni tp)))) := by
    unfold leftA
    rcases hv with ⟨a, rfl⟩ | ⟨a, o, hF, b⟩
    · rw [if_pos (h0.mp a)]
    · rw [if_neg (fun q => a (h0.mpr q))]
      rcases b with ⟨rfl, rfl⟩ | ⟨i, t, rfl, ht, ⟨l, rfl⟩ | ⟨l, rfl⟩⟩
      · rw [hL.FIn hF, if_neg (fun q => by cases q)]
      · rw [(hL.FIs hF ht).2, if_neg (by rw [l]; decide)]
      · rw [(hL.FIs hF ht).2, if_pos l]
  subst e
  exact ⟨⟨_, rfl⟩, n_mono (m_left hN hK) (fun v' a n s ⟨e1, e2⟩ => ⟨e1, stay hT hKj (by omega) (by omega) hX e2⟩)⟩
theorem o_waiting {c : Int32} (hI : IV j M h ar nm sc F) (hj : j < 512) : OPs κ j h m F M ad ar nm sc m_LH_waiting m_Mo_waiting [.int c] isI := by
  obtain ⟨T, JM, C, B, W, tp, u, K, ls, hX, hN, hT, rfl, hKj, hK, hlen, h8, hrow, hJ, hC, hok, h6, h0, hL, hW⟩ := hI.go hj
  refine ⟨0, 0, _, by omega, by omega, x_waiting hX (by omega) hrow, ?_⟩
  rintro v M' ⟨rfl, hv⟩
  have e : v = some (.int (waitingA tp c (lk T (ni tp)))) := by
    unfold waitingA
    rcases hv with ⟨a, rfl⟩ | ⟨a, o, hF, b⟩
    · rw [if_pos (h0.mp a)]
    · rw [if_neg (fun q => a (h0.mpr q))]
      rcases b with ⟨rfl, rfl⟩ | ⟨i, t, rfl, ht, ⟨k, w, rfl, hw, rfl⟩ | ⟨hno, rfl⟩⟩
      · rw [hL.FIn hF, atI_out (l := (newT (ni tp)).2.1) (Nat.zero_le _) (fun k hk => absurd hk (Nat.not_lt_zero _))]
      · have := hrow i t ht
        rw [(hL.FIs hF ht).2, atI_in (by omega) hw]
      · have := hrow i t ht
        rw [(hL.FIs hF ht).2, atI_out (by omega) hno]
  subst e
  exact ⟨⟨_, rfl⟩, n_mono (m_waiting hN hK) (fun v' a n s ⟨e1, e2⟩ => ⟨e1, stay hT hKj (by omega) (by omega) hX e2⟩)⟩
theorem o_letter {c : Int32} (hI : IV j M h ar nm sc F) (hj : j < 512) : OPs κ j h m F M ad ar nm sc m_LH_letter m_Mo_letter [.int c] isI := by
  obtain ⟨T, JM, C, B, W, tp, u, K, ls, hX, hN, hT, rfl, hKj, hK, hlen, h8, hrow, hJ, hC, hok, h6, h0, hL, hW⟩ := hI.go hj
  refine ⟨0, 0, _, by omega, by omega, x_letter (T := T) (J := isrt JM) (C := C) (B := B) (W := W) (tp := tp) (nw := nI u) hX hok h6, ?_⟩
  rintro v M' ⟨rfl, hv⟩
  have e : v = some (.int (atI tp (fun l => nI (l + 96)) c)) := by
    rcases hv with ⟨k, l, rfl, hw, rfl⟩ | ⟨hno, rfl⟩
    · rw [atI_in (by omega) hw]
    · rw [atI_out (by omega) hno]
  subst e
  exact ⟨⟨_, rfl⟩, n_mono (m_letter hN) (fun v' a n s ⟨e1, e2⟩ => ⟨e1, stay hT hKj (by omega) (by omega) hX e2⟩)⟩
theorem o_erase (hI : IV j M h ar nm sc F) (hj : j < 512) : OPs κ j h m F M ad ar nm sc m_LH_erase m_Mo_erase [] isI := by
  obtain ⟨T, JM, C, B, W, tp, u, K, ls, hX, hN, hT, rfl, hKj, hK, hlen, h8, hrow, hJ, hC, hok, h6, h0, hL, hW⟩ := hI.go hj
  refine ⟨0, 0, _, by omega, by omega, x_erase (T := T) (J := isrt JM) (C := C) (B := B) (W := W) (tp := tp) (nw := nI u) hX hok h6, ?_⟩
  rintro v M' ⟨hX', rfl⟩
  exact ⟨⟨_, rfl⟩, n_mono (m_erase hN) (fun v' a n s ⟨e1, e2⟩ => ⟨e1, stay hT hKj (by omega) (by omega) hX' e2⟩)⟩
theorem sign_3 {tp : List Nat} {l : Nat} (h1 : 1 ≤ l) (h2 : l ≤ 26) (h6 : tp.length < 6) : signA tp (nI (l + 96)) = nI (tp.length + 1) ∧ signT tp (nI (l + 96)) = tp ++ [l] := by
  have a3 : (nI (l + 96)).toInt = ((l + 96 : Nat) : Int) := nI_toInt (by omega)
  have hc : (97 : Int32) ≤ nI (l + 96) ∧ nI (l + 96) ≤ 122 := by
    refine ⟨Int32.le_iff_toInt_le.mpr ?_, Int32.le_iff_toInt_le.mpr ?_⟩
    · rw [a3, show (97 : Int32).toInt = 97 from rfl]; omega
    · rw [a3, show (122 : Int32).toInt = 122 from rfl]; omega
  unfold signA signT
  rw [if_pos hc, if_pos hc, if_neg (by omega), if_neg (by omega), nI_cl (by omega), Nat.add_sub_cancel]
  exact ⟨rfl, rfl⟩
theorem o_sign {c : Int32} (hI : IV j M h ar nm sc F) (hj : j < 512) : OPs κ j h m F M ad ar nm sc m_LH_sign m_Mo_sign [.int c] isI := by
  obtain ⟨T, JM, C, B, W, tp, u, K, ls, hX, hN, hT, rfl, hKj, hK, hlen, h8, hrow, hJ, hC, hok, h6, h0, hL, hW⟩ := hI.go hj
  refine ⟨0, 0, _, by omega, by omega, x_sign (T := T) (J := isrt JM) (C := C) (B := B) (W := W) (tp := tp) (nw := nI u) hX hok h6, ?_⟩
  rintro v M' ⟨tp', hX', hv⟩
  have e : v = some (.int (signA tp c)) ∧ tp' = signT tp c := by
    rcases hv with ⟨a, rfl, rfl⟩ | ⟨a, b, rfl, rfl⟩ | ⟨a, rfl, l, l1, l2, rfl, rfl⟩
    · unfold signA signT; rw [if_neg a, if_neg a]; exact ⟨rfl, rfl⟩
    · unfold signA signT; rw [if_pos a, if_pos a, if_pos b, if_pos b]; exact ⟨rfl, rfl⟩
    · obtain ⟨e1, e2⟩ := sign_3 l1 l2 a
      rw [e1, e2]; exact ⟨rfl, rfl⟩
  obtain ⟨rfl, rfl⟩ := e
  exact ⟨⟨_, rfl⟩, n_mono (m_sign hN) (fun v' a n s ⟨e1, e2⟩ => ⟨e1, stay hT hKj (by omega) (by omega) hX' e2⟩)⟩
theorem o_waits {lo hh : Int32} (hI : IV j M h ar nm sc F) (hj : j < 512) : OPs κ j h m F M ad ar nm sc m_LH_waits m_Mo_waits [.int lo, .int hh] isI := by
  obtain ⟨T, JM, C, B, W, tp, u, K, ls, hX, hN, hT, rfl, hKj, hK, hlen, h8, hrow, hJ, hC, hok, h6, h0, hL, hW⟩ := hI.go hj
  refine ⟨0, 0, _, by omega, by omega, x_waits hX, ?_⟩
  rintro v M' ⟨rfl, rfl⟩
  exact ⟨⟨_, rfl⟩, n_mono (m_waits hN) (fun v' a n s ⟨e1, e2⟩ => ⟨e1, stay hT hKj (by omega) (by omega) hX e2⟩)⟩
theorem o_waited {tk : Int32} (hI : IV j M h ar nm sc F) (hj : j < 512) : OPs κ j h m F M ad ar nm sc m_LH_waited m_Mo_waited [.int tk] isI := by
  obtain ⟨T, JM, C, B, W, tp, u, K, ls, hX, hN, hT, rfl, hKj, hK, hlen, h8, hrow, hJ, hC, hok, h6, h0, hL, hW⟩ := hI.go hj
  refine ⟨0, 0, _, by omega, by omega, x_waited hX, ?_⟩
  rintro v M' ⟨rfl, rfl⟩
  exact ⟨⟨_, rfl⟩, n_mono (m_waited hN) (fun v' a n s ⟨e1, e2⟩ => ⟨e1, stay hT hKj (by omega) (by omega) hX e2⟩)⟩
theorem o_known (hI : IV j M h ar nm sc F) (hj : j < 512) : OPs κ j h m F M ad ar nm sc m_LH_known m_Mo_known [] isI := by
  obtain ⟨T, JM, C, B, W, tp, u, K, ls, hX, hN, hT, rfl, hKj, hK, hlen, h8, hrow, hJ, hC, hok, h6, h0, hL, hW⟩ := hI.go hj
  refine ⟨0, 0, _, by omega, by omega, x_known hX hC, ?_⟩
  rintro v M' ⟨rfl, ⟨a, rfl⟩ | ⟨a, o, hF, rfl⟩⟩
  · refine ⟨⟨_, rfl⟩, n_mono (m_known hN hK) (fun v' a' n s ⟨e2, e1⟩ => ⟨?_, stay hT hKj (by omega) (by omega) hX e2⟩)⟩
    rcases e1 with ⟨-, rfl⟩ | ⟨b, -⟩
    · rfl
    · exact absurd (h0.mp a) b
  · refine ⟨⟨_, rfl⟩, n_mono (m_known hN hK) (fun v' a' n s ⟨e2, e1⟩ => ⟨?_, stay hT hKj (by omega) (by omega) hX e2⟩)⟩
    rcases e1 with ⟨b, -⟩ | ⟨-, o', hF', rfl⟩
    · exact absurd (h0.mpr b) a
    · rw [FI_uniq hF' hF]
theorem o_note {c : Int32} (hI : IV j M h ar nm sc F) (hj : j < 512) : OPs κ j h m F M ad ar nm sc m_LH_note m_Mo_note [.int c] isI := by
  obtain ⟨T, JM, C, B, W, tp, u, K, ls, hX, hN, hT, rfl, hKj, hK, hlen, h8, hrow, hJ, hC, hok, h6, h0, hL, hW⟩ := hI.go hj
  refine ⟨0, 0, _, by omega, by omega, x_note hX h8, ?_⟩
  have hcI : ∀ i, i < 16 → c = nI i → 0 ≤ c ∧ c < 16 := by
    rintro i hi rfl
    have a3 : (nI i).toInt = (i : Int) := nI_toInt (by omega)
    refine ⟨Int32.le_iff_toInt_le.mpr ?_, Int32.lt_iff_toInt_lt.mpr ?_⟩
    · rw [a3, show (0 : Int32).toInt = 0 from rfl]; omega
    · rw [a3, show (16 : Int32).toInt = 16 from rfl]; omega
  rintro v M' (⟨a, rfl, rfl⟩ | ⟨i, hi, hc, ⟨hB, rfl, rfl⟩ | ⟨x, N, hB, rfl, hX'⟩⟩)
  · refine ⟨⟨_, rfl⟩, n_mono (m_note hN) (fun v' a' n s e => ?_)⟩
    rcases e with ⟨-, rfl, e2⟩ | ⟨i, hi, hc, -⟩
    · exact ⟨rfl, stay hT hKj (by omega) (by omega) hX e2⟩
    · exact absurd (hcI i hi hc) a
  · refine ⟨⟨_, rfl⟩, n_mono (m_note hN) (fun v' a' n s e => ?_)⟩
    rcases e with ⟨a, -⟩ | ⟨i', hi', hc', e⟩
    · exact absurd (hcI i hi hc) a
    · have : i' = i := (nI_eqI (by omega) (by omega)).mp (hc'.symm.trans hc)
      subst this
      rcases e with ⟨-, rfl, e2⟩ | ⟨x, N, hB', -⟩
      · exact ⟨rfl, stay hT hKj (by omega) (by omega) hX e2⟩
      · rw [hB] at hB'; cases hB'
  · refine ⟨⟨_, rfl⟩, n_mono (m_note hN) (fun v' a' n s e => ?_)⟩
    rcases e with ⟨a, -⟩ | ⟨i', hi', hc', e⟩
    · exact absurd (hcI i hi hc) a
    · have : i' = i := (nI_eqI (by omega) (by omega)).mp (hc'.symm.trans hc)
      subst this
      rcases e with ⟨hB', -⟩ | ⟨x', N', hB', rfl, tp', ht', e2⟩
      · rw [hB] at hB'; cases hB'
      · rw [hB] at hB'; cases hB'
        rw [← ht'] at hX'
        exact ⟨rfl, stay hT hKj (by omega) (by omega) hX' e2⟩
theorem o_first (hI : IV j M h ar nm sc F) (hj : j < 512) : OPs κ j h m F M ad ar nm sc m_LH_first m_Mo_first [] isI := by
  obtain ⟨T, JM, C, B, W, tp, u, K, ls, hX, hN, hT, rfl, hKj, hK, hlen, h8, hrow, hJ, hC, hok, h6, h0, hL, hW⟩ := hI.go hj
  refine ⟨0, 0, _, by omega, by omega, x_first hX (by omega), ?_⟩
  rintro v M' ⟨o, hM, ⟨rfl, rfl, rfl⟩ | ⟨i, t, rfl, ht, rfl, hX'⟩⟩
  · refine ⟨⟨_, rfl⟩, n_mono (m_first hN hL) (fun v' a' n s ⟨o', hM', e⟩ => ?_)⟩
    have := MinT_uniq hL.2 hM' hM
    subst this
    rcases e with ⟨-, rfl, e2⟩ | ⟨i, t, e, -⟩
    · exact ⟨rfl, stay hT hKj (by omega) (by omega) hX e2⟩
    · cases e
  · refine ⟨⟨_, rfl⟩, n_mono (m_first hN hL) (fun v' a' n s ⟨o', hM', e⟩ => ?_)⟩
    have := MinT_uniq hL.2 hM' hM
    subst this
    rcases e with ⟨e, -⟩ | ⟨i', t', e, ht', rfl, tp', hq, e2⟩
    · cases e
    · cases e
      rw [ht] at ht'
      cases ht'
      rw [← hq] at hX'
      exact ⟨rfl, stay hT hKj (by omega) (by omega) hX' e2⟩
theorem o_job {rk du : Int32} (hI : IV j M h ar nm sc F) (hj : j < 512) : OPs κ j h m F M ad ar nm sc m_LH_job m_Mo_job [.int rk, .int du] isI := by
  obtain ⟨T, JM, C, B, W, tp, u, K, ls, hX, hN, hT, rfl, hKj, hK, hlen, h8, hrow, hJ, hC, hok, h6, h0, hL, hW⟩ := hI.go hj
  refine ⟨2, 80, _, by omega, by omega, x_job hX hJ, ?_⟩
  have hjl := isrt_len JM
  rw [hjl]
  rintro v M' (⟨a, rfl, rfl⟩ | ⟨a, b, rfl, rfl⟩ | ⟨a, b, rfl, o, hF, hX'⟩)
  · have e : jobS tp rk du JM = (-1, JM) := if_pos (h0.mp a)
    refine ⟨⟨_, rfl⟩, n_mono (m_job hN hK) (fun v' a' n s ⟨e1, e2⟩ => ?_)⟩
    rw [e] at e1 e2
    exact ⟨e1, stay hT hKj (by omega) (by omega) hX e2⟩
  · have e : jobS tp rk du JM = (-3, JM) := by unfold jobS; rw [if_neg (fun q => a (h0.mpr q)), if_pos b]
    refine ⟨⟨_, rfl⟩, n_mono (m_job hN hK) (fun v' a' n s ⟨e1, e2⟩ => ?_)⟩
    rw [e] at e1 e2
    exact ⟨e1, stay hT hKj (by omega) (by omega) hX e2⟩
  · have e : jobS tp rk du JM = (nI (JM.length + 1), JM ++ [(ni tp, rk, du)]) := by unfold jobS; rw [if_neg (fun q => a (h0.mpr q)), if_neg (by omega)]
    refine ⟨⟨_, rfl⟩, n_mono (m_job hN hK) (fun v' a' n s ⟨e1, e2⟩ => ?_)⟩
    rw [e] at e1 e2
    rw [← hjl, ins_A hF, ← isrt_snoc] at hX'
    exact ⟨e1, stay hT hKj (by omega) (by omega) hX' e2⟩
theorem o_work (hI : IV j M h ar nm sc F) (hj : j < 512) : OPs κ j h m F M ad ar nm sc m_LH_work m_Mo_work [] isJ := by
  obtain ⟨T, JM, C, B, W, tp, u, K, ls, hX, hN, hT, rfl, hKj, hK, hlen, h8, hrow, hJ, hC, hok, h6, h0, hL, hW⟩ := hI.go hj
  refine ⟨0, 0, _, by omega, by omega, x_work hX hJ, ?_⟩
  rintro v M' (⟨a, rfl, rfl⟩ | ⟨x, hx, hd, rfl, hX'⟩)
  · refine ⟨⟨_, rfl⟩, n_mono (m_work hN) (fun v' a' n s ⟨o, hB, e⟩ => ?_)⟩
    rcases e with ⟨-, rfl, e2⟩ | ⟨b, x, rfl, hb, ⟨-, rfl, e2⟩ | ⟨hd, rfl, tp', hq, e2⟩⟩
    · exact ⟨rfl, stay hT hKj (by omega) (by omega) hX e2⟩
    · exact ⟨rfl, stay hT hKj (by omega) (by omega) hX e2⟩
    · exact absurd hd (a x (by rw [isrt_min hB hb]; rfl))
  · refine ⟨⟨_, rfl⟩, n_mono (m_work hN) (fun v' a' n s ⟨o, hB, e⟩ => ?_)⟩
    rcases e with ⟨rfl, rfl, e2⟩ | ⟨b, y, rfl, hb, e⟩
    · rw [isrt_none hB] at hx; cases hx
    · have hm := isrt_min hB hb
      rw [hm] at hx hX'
      cases hx
      rcases e with ⟨hd', -⟩ | ⟨-, rfl, tp', hq, e2⟩
      · exact absurd hd hd'
      · rw [← hq] at hX'
        exact ⟨rfl, stay hT hKj (by omega) (by omega) hX' e2⟩
theorem o_cancel (hI : IV j M h ar nm sc F) (hj : j < 512) : OPs κ j h m F M ad ar nm sc m_LH_cancel m_Mo_cancel [] isI := by
  obtain ⟨T, JM, C, B, W, tp, u, K, ls, hX, hN, hT, rfl, hKj, hK, hlen, h8, hrow, hJ, hC, hok, h6, h0, hL, hW⟩ := hI.go hj
  refine ⟨0, 0, _, by omega, by omega, x_cancel hX hJ, ?_⟩
  rintro v M' (⟨a, rfl, rfl⟩ | ⟨a, rfl, hX'⟩)
  · refine ⟨⟨_, rfl⟩, n_mono (m_cancel hN hK) (fun v' a' n s e => ?_)⟩
    rcases e with ⟨-, rfl, e2⟩ | ⟨b, -⟩
    · exact ⟨rfl, stay hT hKj (by omega) (by omega) hX e2⟩
    · exact absurd (h0.mp a) b
  · refine ⟨⟨_, rfl⟩, n_mono (m_cancel hN hK) (fun v' a' n s e => ?_)⟩
    rcases e with ⟨b, -⟩ | ⟨-, rfl, e2⟩
    · exact absurd (h0.mpr b) a
    · rw [← isrt_filter] at hX'
      refine ⟨?_, stay hT hKj (by omega) (by omega) hX' e2⟩
      rw [← isrt_filter, isrt_len, isrt_len]
theorem o_ask (hI : IV j M h ar nm sc F) (hj : j < 512) : OPs κ j h m F M ad ar nm sc m_LH_ask m_Mo_ask [] isI := by
  obtain ⟨T, JM, C, B, W, tp, u, K, ls, hX, hN, hT, rfl, hKj, hK, hlen, h8, hrow, hJ, hC, hok, h6, h0, hL, hW⟩ := hI.go hj
  refine ⟨2, 24, _, by omega, by omega, x_ask hX (by omega) hC, ?_⟩
  rintro v M' (⟨a, rfl, rfl⟩ | ⟨a, o, x, C1, hF, hc, rfl, hX'⟩)
  · refine ⟨⟨_, rfl⟩, n_mono (m_ask hN hK) (fun v' a' n s e => ?_)⟩
    rcases e with ⟨-, rfl, e2⟩ | ⟨b, -⟩
    · exact ⟨rfl, stay hT hKj (by omega) (by omega) hX e2⟩
    · exact absurd (h0.mp a) b
  · refine ⟨⟨_, rfl⟩, n_mono (m_ask hN hK) (fun v' a' n s e => ?_)⟩
    rcases e with ⟨b, -⟩ | ⟨-, o', x', k, hF', e, rfl, e2⟩
    · exact absurd (h0.mpr b) a
    have := FI_uniq hF' hF
    subst this
    rcases hc with ⟨rfl, rfl, o2, hF2, rfl⟩ | ⟨i, rfl, hx, rfl⟩
    · rcases e with ⟨-, rfl, rfl⟩ | ⟨e, -⟩
      · have hch : chOf T o2 = (lk T (ni tp)).2.2.2.2.1 := by
          obtain _ | i := o2
          · rw [hL.FIn hF2]; rfl
          · obtain ⟨t, ht, -⟩ := id hF2
            rw [(hL.FIs hF2 ht).2]
            unfold chOf
            simp only [ht]
        rw [hch] at hX' ⊢
        refine ⟨rfl, stay hT hKj (by omega) (by omega) ?_ e2⟩
        by_cases h4 : C1.length < 4
        · rw [if_pos h4] at hX' ⊢
          rw [List.eraseIdx_of_length_le (Nat.le_refl _)]
          exact hX'
        · rw [if_neg h4] at hX' ⊢
          exact hX'
      · cases e
    · rcases e with ⟨e, -⟩ | ⟨e, hx'⟩
      · cases e
      · cases e
        rw [hx] at hx'
        cases hx'
        have hil := (List.getElem?_eq_some_iff.mp hx).1
        rw [if_pos (by rw [List.length_eraseIdx_of_lt hil]; omega)] at hX'
        exact ⟨rfl, stay hT hKj (by omega) (by omega) hX' e2⟩
end OP2
