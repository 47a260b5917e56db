/-! each call, of both: those that change the things -/
section OP3
variable {κ : Nat × Nat} {j h m F : Nat} {M : Mm} {ad : Nat → Nat} {ar : Ar} {nm : Nat → Int64} {sc : Sc}
theorem o_count {c : Int32} (hI : IV j M h ar nm sc F) (hj : j < 512) : OPs κ j h m F M ad ar nm sc m_LH_count m_Mo_count [.int c] isI := by
  obtain ⟨T, JM, C, B, W, tp, u, K, ls, hX, hN, hT, rfl, hKj, hK, hlen, h8, hrow, hJ, hC, hok, h6, h0, hL, hW⟩ := hI.go hj
  refine ⟨0, 0, _, by omega, by omega, x_count hX (by omega), ?_⟩
  rintro v M' ⟨rfl, hv⟩
  have hP : isI v := by
    rcases hv with ⟨-, rfl⟩ | ⟨-, rfl⟩ | ⟨-, rfl⟩ | ⟨-, rfl⟩ | ⟨-, rfl⟩ | ⟨-, rfl⟩ | ⟨-, o, -, rfl⟩ | ⟨-, rfl⟩ | ⟨-, rfl⟩ <;> exact ⟨_, rfl⟩
  refine ⟨hP, n_mono (m_count hN hL hK) (fun v' a' n s ⟨e2, e1⟩ => ⟨?_, stay hT hKj (by omega) (by omega) hX e2⟩)⟩
  have hch : ∀ o, FI (byN (ni tp)) T o → chOf T o = (lk T (ni tp)).2.2.2.2.1 := by
    intro o hF2
    obtain _ | i := o
    · rw [hL.FIn hF2]; rfl
    · obtain ⟨t, ht, -⟩ := id hF2
      rw [(hL.FIs hF2 ht).2]
      unfold chOf
      simp only [ht]
  have hv2 : (c = 0 ∧ v = some (.int (nI u))) ∨ (c = 1 ∧ v = some (.int (nI (sm (fun t : Th => if lent t then 1 else 0) T)))) ∨ (c = 2 ∧ v = some (.int (nI (sm (fun t : Th => t.2.1.length) T)))) ∨ (c = 3 ∧ v = some (.int (nI JM.length))) ∨ (c = 4 ∧ v = some (.int (nI C.length))) ∨ (c = 5 ∧ v = some (.int (nI (sm (fun t : Th => if t.2.2.2.2.2 = 0 then 0 else 1) T)))) ∨ (c = 6 ∧ v = some (.int (lk T (ni tp)).2.2.2.2.1)) ∨ (c = 7 ∧ v = some (.int (nI (sm (fun i => (B i).length) (List.range 16))))) ∨ ((c.toInt < 0 ∨ 7 < c.toInt) ∧ v = some (.int (-1))) := by
    rw [isrt_len] at hv
    rcases hv with a | a | a | a | a | a | ⟨a, o, hF, b⟩ | a | a
    · exact Or.inl a
    · exact Or.inr (Or.inl a)
    · exact Or.inr (Or.inr (Or.inl a))
    · exact Or.inr (Or.inr (Or.inr (Or.inl a)))
    · exact Or.inr (Or.inr (Or.inr (Or.inr (Or.inl a))))
    · exact Or.inr (Or.inr (Or.inr (Or.inr (Or.inr (Or.inl a)))))
    · rw [hch o hF] at b
      exact Or.inr (Or.inr (Or.inr (Or.inr (Or.inr (Or.inr (Or.inl ⟨a, b⟩))))))
    · exact Or.inr (Or.inr (Or.inr (Or.inr (Or.inr (Or.inr (Or.inr (Or.inl a)))))))
    · exact Or.inr (Or.inr (Or.inr (Or.inr (Or.inr (Or.inr (Or.inr (Or.inr a)))))))
  clear hv hch hX hN hT e2 hrow h8
  have key : ∀ (p0 p1 p2 p3 p4 p5 p6 p7 p8 v1 v2 : Option Value), ((c = 0 ∧ v1 = p0) ∨ (c = 1 ∧ v1 = p1) ∨ (c = 2 ∧ v1 = p2) ∨ (c = 3 ∧ v1 = p3) ∨ (c = 4 ∧ v1 = p4) ∨ (c = 5 ∧ v1 = p5) ∨ (c = 6 ∧ v1 = p6) ∨ (c = 7 ∧ v1 = p7) ∨ ((c.toInt < 0 ∨ 7 < c.toInt) ∧ v1 = p8)) → ((c = 0 ∧ v2 = p0) ∨ (c = 1 ∧ v2 = p1) ∨ (c = 2 ∧ v2 = p2) ∨ (c = 3 ∧ v2 = p3) ∨ (c = 4 ∧ v2 = p4) ∨ (c = 5 ∧ v2 = p5) ∨ (c = 6 ∧ v2 = p6) ∨ (c = 7 ∧ v2 = p7) ∨ ((c.toInt < 0 ∨ 7 < c.toInt) ∧ v2 = p8)) → v1 = v2 := by
    intro p0 p1 p2 p3 p4 p5 p6 p7 p8 v1 v2 h1 h2
    rcases h1 with ⟨a, rfl⟩ | ⟨a, rfl⟩ | ⟨a, rfl⟩ | ⟨a, rfl⟩ | ⟨a, rfl⟩ | ⟨a, rfl⟩ | ⟨a, rfl⟩ | ⟨a, rfl⟩ | ⟨a, rfl⟩ <;> rcases h2 with ⟨b, rfl⟩ | ⟨b, rfl⟩ | ⟨b, rfl⟩ | ⟨b, rfl⟩ | ⟨b, rfl⟩ | ⟨b, rfl⟩ | ⟨b, rfl⟩ | ⟨b, rfl⟩ | ⟨b, rfl⟩ <;> first | rfl | (rw [a] at b; exact absurd b (by decide)) | (rw [b] at a; exact absurd a (by decide))
  exact key _ _ _ _ _ _ _ _ _ _ _ e1 hv2
theorem o_want {c tk : Int32} (hI : IV j M h ar nm sc F) (hj : j < 512) : OPs κ j h m F M ad ar nm sc m_LH_want m_Mo_want [.int c, .int tk] isI := by
  obtain ⟨T, JM, C, B, W, tp, u, K, ls, hX, hN, hT, rfl, hKj, hK, hlen, h8, hrow, hJ, hC, hok, h6, h0, hL, hW⟩ := hI.go hj
  refine ⟨20, 1500, _, by omega, by omega, x_want hX hlen h8 hrow, ?_⟩
  rintro v M' (⟨hc, rfl, rfl⟩ | ⟨hc, T1, i, t, hA, hv⟩)
  · have e : wantS tp (nI u) c tk (lk T (ni tp)) B = (-1, lk T (ni tp), B) := if_neg (fun q => hc ⟨⟨fun z => q.1.1 (h0.mp z), q.1.2⟩, q.2⟩)
    refine ⟨⟨_, rfl⟩, n_mono (m_want hN hK) (fun v' a n s ⟨e1, e2⟩ => ?_)⟩
    rw [e] at e1 e2
    have e2 : NY a n s (K + 1) (fU (lk T) (ni tp) (lk T (ni tp))) JM C B W tp (nI u) := e2
    rw [fU_id] at e2
    exact ⟨e1, stay hT hKj (by omega) (by omega) hX e2⟩
  have hcc : okC tp c ∧ okK tk := ⟨⟨fun z => hc.1.1 (h0.mpr z), hc.1.2⟩, hc.2⟩
  obtain ⟨hI1, hp1, hot, hut, hr1, hL1, ht1, htx, hlx⟩ := IT_add hT hA
  have hin : inT t c ↔ (t.2.2.1 = c ∨ t.2.1.any (fun w => w.1 == c) = true) := by
    refine or_congr Iff.rfl ?_
    rw [List.any_eq_true]
    constructor
    · rintro ⟨k, w, hw, hwc⟩
      exact ⟨w, List.mem_of_getElem? hw, beq_iff_eq.mpr hwc⟩
    · rintro ⟨w, hw, hwc⟩
      obtain ⟨k, hk⟩ := List.getElem?_of_mem hw
      exact ⟨k, w, hk, beq_iff_eq.mp hwc⟩
  have hub := until_b (tk := tk) (hT.u4 hj) hc.2.1 hc.2.2
  have hid : ∀ (a : Ar) (n : Nat → Int64) (s : Sc), NY a n s (K + 1) (fU (lk T) (ni tp) t) JM C B W tp (nI u) → NY a n s (K + 1) (lk T1) JM C B W tp (nI u) := by
    intro a n s hh
    rw [← hlx, fU_id, hL1.1] at hh
    exact hh
  rcases hv with ⟨hl, rfl, hX'⟩ | ⟨hl, hi, rfl, hX'⟩ | ⟨hl, hi, h5, rfl, hX'⟩ | ⟨hl, hi, h5, rfl, hX'⟩
  · have e : wantS tp (nI u) c tk t B = (0, lendT t c (nI u + tk), tellB t.2.2.2.2.2 (t.1, 1) 16 B) := by
      unfold wantS; rw [if_pos hcc, if_neg (by rw [hl]; decide)]
    obtain ⟨a1, a2, a3⟩ := IT_up (t' := lendT t c (nI u + tk)) (W' := W) hT hA rfl ⟨hot.1, hot.2.1, fun _ => hub.2⟩ (fun _ => hub.1) (by show W.length + t.2.1.length ≤ _; omega)
    have p1 := (phT_b (t := t)).1
    have p2 : phT (lendT t c (nI u + tk)) ≤ t.2.1.length + 1 := phT_b.2
    refine ⟨⟨_, rfl⟩, n_mono (m_want hN hK) (fun v' a n s ⟨e1, e2⟩ => ?_)⟩
    rw [hlx, e] at e1 e2
    exact ⟨e1, move hKj hX' (by rw [a3]; exact e2) a1 (by omega) (by omega)⟩
  · have e : wantS tp (nI u) c tk t B = (-2, t, B) := by
      unfold wantS; rw [if_pos hcc, if_pos hl, if_pos (hin.mp hi)]
    refine ⟨⟨_, rfl⟩, n_mono (m_want hN hK) (fun v' a n s ⟨e1, e2⟩ => ?_)⟩
    rw [hlx, e] at e1 e2
    exact ⟨e1, move hKj hX' (hid _ _ _ e2) hI1 (by omega) (by omega)⟩
  · have e : wantS tp (nI u) c tk t B = (-3, t, B) := by
      unfold wantS; rw [if_pos hcc, if_pos hl, if_neg (fun q => hi (hin.mpr q)), if_pos h5]
    refine ⟨⟨_, rfl⟩, n_mono (m_want hN hK) (fun v' a n s ⟨e1, e2⟩ => ?_)⟩
    rw [hlx, e] at e1 e2
    exact ⟨e1, move hKj hX' (hid _ _ _ e2) hI1 (by omega) (by omega)⟩
  · have e : wantS tp (nI u) c tk t B = (nI (t.2.1.length + 1), addW t (c, tk, nI u), B) := by
      unfold wantS; rw [if_pos hcc, if_pos hl, if_neg (fun q => hi (hin.mpr q)), if_neg (by omega)]
    have hln : (addW t (c, tk, nI u)).2.1.length = t.2.1.length + 1 := by
      show (t.2.1 ++ [(c, tk, nI u)]).length = _
      rw [List.length_append]; rfl
    have g1 : (1 : Int32).toInt ≤ tk.toInt := Int32.le_iff_toInt_le.mp hc.2.1
    have g2 : tk.toInt ≤ (100 : Int32).toInt := Int32.le_iff_toInt_le.mp hc.2.2
    obtain ⟨a1, a2, a3⟩ := IT_up (t' := addW t (c, tk, nI u)) (W' := W) hT hA rfl ⟨by omega, fun k w hw => by
      have hw : (t.2.1 ++ [(c, tk, nI u)])[k]? = some w := hw
      by_cases hk : k < t.2.1.length
      · rw [List.getElem?_append_left hk] at hw
        exact hot.2.1 k w hw
      · rw [List.getElem?_append_right (by omega)] at hw
        have hz : k - t.2.1.length < 1 := (List.getElem?_eq_some_iff.mp hw).1
        have hz0 : k - t.2.1.length = 0 := by omega
        rw [hz0] at hw
        cases hw
        exact ⟨g1, g2⟩, hot.2.2⟩ hut (by omega)
    have p2 : phT (addW t (c, tk, nI u)) = phT t + 1 := by
      unfold phT
      rw [hln]
      show (if lent t = true then 1 else 0) + (t.2.1.length + 1) = _
      omega
    refine ⟨⟨_, rfl⟩, n_mono (m_want hN hK) (fun v' a n s ⟨e1, e2⟩ => ?_)⟩
    rw [hlx, e] at e1 e2
    exact ⟨e1, move hKj hX' (by rw [a3]; exact e2) a1 (by omega) (by omega)⟩
theorem hold_FI {T : List Th} {x c : Int32} (hL : LK (lk T) T) (h0 : 0 ≤ c) (h : (lk T x).2.2.1 = c) : ∃ i t, FI (byN x) T (some i) ∧ T[i]? = some t ∧ t.2.2.1 = c := by
  obtain ⟨o, hF⟩ := FI_ex (p := byN x) T
  obtain _ | i := o
  · rw [hL.FIn hF] at h
    have h : (-2 : Int32) = c := h
    rw [← h] at h0
    exact absurd h0 (by decide)
  · obtain ⟨t, ht, -⟩ := id hF
    rw [(hL.FIs hF ht).2] at h
    exact ⟨i, t, hF, ht, h⟩
theorem o_free {c : Int32} (hI : IV j M h ar nm sc F) (hj : j < 512) : OPs κ j h m F M ad ar nm sc m_LH_free m_Mo_free [.int c] isI := by
  obtain ⟨T, JM, C, B, W, tp, u, K, ls, hX, hN, hT, rfl, hKj, hK, hlen, h8, hrow, hJ, hC, hok, h6, h0, hL, hW⟩ := hI.go hj
  refine ⟨17, 418, _, by omega, by omega, x_free hX (by omega) h8 hrow hW, ?_⟩
  rintro v M' (⟨hc, rfl, rfl⟩ | ⟨hc, i, t, hF, ht, htc, rfl, hX'⟩)
  · have e : freeS tp (nI u) c (lk T (ni tp)) B W = (-1, lk T (ni tp), B, W) := if_neg (fun q => hc ⟨⟨fun z => q.1.1 (h0.mp z), q.1.2⟩, hold_FI hL q.1.2.1 q.2⟩)
    refine ⟨⟨_, rfl⟩, n_mono (m_free hN hK (by omega)) (fun v' a n s ⟨e1, e2⟩ => ?_)⟩
    rw [e] at e1 e2
    have e2 : NY a n s (K + 1) (fU (lk T) (ni tp) (lk T (ni tp))) JM C B W tp (nI u) := e2
    rw [fU_id] at e2
    exact ⟨e1, stay hT hKj (by omega) (by omega) hX e2⟩
  have hcc : okC tp c := ⟨fun z => hc.1 (h0.mpr z), hc.2⟩
  have hA : Add T (ni tp) T i t := ⟨ht, Or.inl ⟨hF, rfl⟩⟩
  obtain ⟨hI1, hp1, hot, hut, hr1, hL1, ht1, htx, hlx⟩ := IT_add hT hA
  have e : freeS tp (nI u) c t B W = ((endT (nI u) t).2.2.1, endT (nI u) t, tellB t.2.2.2.2.2 (t.1, endK t) 16 B, endW (nI u) t W) := if_pos ⟨hcc, htc⟩
  have hE : okT (endT (nI u) t) ∧ (lent (endT (nI u) t) = true → ((u + 1 : Nat) : Int) ≤ (endT (nI u) t).2.2.2.1.toInt) ∧ (endT (nI u) t).2.1.length ≤ t.2.1.length := by
    unfold endT
    rcases hr : t.2.1 with _ | ⟨w, ws⟩
    · exact ⟨⟨Nat.zero_le _, (fun j w hw => by cases hw), (fun h => by cases h)⟩, (fun h => by cases h), Nat.zero_le _⟩
    · have hw := hot.2.1 0 w (by rw [hr]; rfl)
      have h5 := hot.1
      rw [hr, List.length_cons] at h5
      have hub := until_b (tk := w.2.1) (hT.u4 hj) (Int32.le_iff_toInt_le.mpr hw.1) (Int32.le_iff_toInt_le.mpr hw.2)
      refine ⟨⟨?_, fun k y hy => hot.2.1 (k + 1) y (by rw [hr]; exact hy), fun _ => hub.2⟩, fun _ => hub.1, ?_⟩
      · show ws.length ≤ 5; omega
      · show ws.length ≤ ws.length + 1; omega
  have hel := endW_len (u := nI u) (t := t) (W := W)
  obtain ⟨a1, a2, a3⟩ := IT_up (t' := endT (nI u) t) (W' := endW (nI u) t W) hT hA endT_1 hE.1 hE.2.1 (by omega)
  have p1 := (phT_b (t := t)).1
  have p2 := (phT_b (t := endT (nI u) t)).2
  have p3 := hE.2.2
  refine ⟨⟨_, rfl⟩, n_mono (m_free hN hK (by omega)) (fun v' a n s ⟨e1, e2⟩ => ?_)⟩
  rw [hlx, e] at e1 e2
  exact ⟨e1, move hKj hX' (by rw [a3]; exact e2) a1 (by omega) (by omega)⟩
theorem o_renew {c tk : Int32} (hI : IV j M h ar nm sc F) (hj : j < 512) : OPs κ j h m F M ad ar nm sc m_LH_renew m_Mo_renew [.int c, .int tk] isI := by
  obtain ⟨T, JM, C, B, W, tp, u, K, ls, hX, hN, hT, rfl, hKj, hK, hlen, h8, hrow, hJ, hC, hok, h6, h0, hL, hW⟩ := hI.go hj
  refine ⟨17, 418, _, by omega, by omega, x_renew hX (by omega) h8, ?_⟩
  rintro v M' (⟨hc, rfl, rfl⟩ | ⟨hc, hk, i, t, hF, ht, htc, rfl, hX'⟩)
  · have e : renewS tp (nI u) c tk (lk T (ni tp)) B = (-1, lk T (ni tp), B) := if_neg (fun q => hc ⟨⟨fun z => q.1.1 (h0.mp z), q.1.2⟩, q.2.1, hold_FI hL q.1.2.1 q.2.2⟩)
    refine ⟨⟨_, rfl⟩, n_mono (m_renew hN hK) (fun v' a n s ⟨e1, e2⟩ => ?_)⟩
    rw [e] at e1 e2
    have e2 : NY a n s (K + 1) (fU (lk T) (ni tp) (lk T (ni tp))) JM C B W tp (nI u) := e2
    rw [fU_id] at e2
    exact ⟨e1, stay hT hKj (by omega) (by omega) hX e2⟩
  have hcc : okC tp c := ⟨fun z => hc.1 (h0.mpr z), hc.2⟩
  have hA : Add T (ni tp) T i t := ⟨ht, Or.inl ⟨hF, rfl⟩⟩
  obtain ⟨hI1, hp1, hot, hut, hr1, hL1, ht1, htx, hlx⟩ := IT_add hT hA
  have e : renewS tp (nI u) c tk t B = (nI u + tk, lendT t c (nI u + tk), tellB t.2.2.2.2.2 (t.1, 3) 16 B) := if_pos ⟨hcc, hk, htc⟩
  have hub := until_b (tk := tk) (hT.u4 hj) hk.1 hk.2
  obtain ⟨a1, a2, a3⟩ := IT_up (t' := lendT t c (nI u + tk)) (W' := W) hT hA rfl ⟨hot.1, hot.2.1, fun _ => hub.2⟩ (fun _ => hub.1) (by show W.length + t.2.1.length ≤ _; omega)
  have p1 := (phT_b (t := t)).1
  have p2 : phT (lendT t c (nI u + tk)) ≤ t.2.1.length + 1 := phT_b.2
  refine ⟨⟨_, rfl⟩, n_mono (m_renew hN hK) (fun v' a n s ⟨e1, e2⟩ => ?_)⟩
  rw [hlx, e] at e1 e2
  exact ⟨e1, move hKj hX' (by rw [a3]; exact e2) a1 (by omega) (by omega)⟩
theorem o_leave {c : Int32} (hI : IV j M h ar nm sc F) (hj : j < 512) : OPs κ j h m F M ad ar nm sc m_LH_leave m_Mo_leave [.int c] isI := by
  obtain ⟨T, JM, C, B, W, tp, u, K, ls, hX, hN, hT, rfl, hKj, hK, hlen, h8, hrow, hJ, hC, hok, h6, h0, hL, hW⟩ := hI.go hj
  refine ⟨0, 0, _, by omega, by omega, x_leave hX (by omega) hrow, ?_⟩
  have hsm : ∀ (a : Ar) (n : Nat → Int64) (s : Sc) (x : Int32), leaveS tp c (lk T (ni tp)) = (x, lk T (ni tp)) → NY a n s (K + 1) (fU (lk T) (ni tp) (leaveS tp c (lk T (ni tp))).2) JM C B W tp (nI u) → NY a n s (K + 1) (lk T) JM C B W tp (nI u) := by
    intro a n s x e hh
    rw [e] at hh
    have hh : NY a n s (K + 1) (fU (lk T) (ni tp) (lk T (ni tp))) JM C B W tp (nI u) := hh
    rw [fU_id] at hh
    exact hh
  rintro v M' (⟨hc, rfl, rfl⟩ | ⟨hc, o, hF, hv⟩)
  · have e : leaveS tp c (lk T (ni tp)) = (-1, lk T (ni tp)) := if_neg (fun q => hc ⟨fun z => q.1 (h0.mp z), q.2⟩)
    refine ⟨⟨_, rfl⟩, n_mono (m_leave hN hK) (fun v' a n s ⟨e1, e2⟩ => ?_)⟩
    have e2 := hsm _ _ _ _ e e2
    rw [e] at e1
    exact ⟨e1, stay hT hKj (by omega) (by omega) hX e2⟩
  have hcc : okC tp c := ⟨fun z => hc.1 (h0.mpr z), hc.2⟩
  have hle : ∀ t o2, FI (fun w : Wt => w.1 == c) t.2.1 o2 → leaveS tp c t = (match o2 with | none => (-2, t) | some k => (nI (t.2.1.length - 1), delW t k)) := by
    intro t o2 h2
    unfold leaveS
    rw [if_pos hcc, FI_find h2]
    cases o2 <;> rfl
  rcases hv with ⟨rfl, rfl, rfl⟩ | ⟨i, t, rfl, ht, o2, h2, hv⟩
  · have e : leaveS tp c (lk T (ni tp)) = (-2, lk T (ni tp)) := hle _ none (by rw [hL.FIn hF]; exact fun k y hy => by cases hy)
    refine ⟨⟨_, rfl⟩, n_mono (m_leave hN hK) (fun v' a n s ⟨e1, e2⟩ => ?_)⟩
    have e2 := hsm _ _ _ _ e e2
    rw [e] at e1
    exact ⟨e1, stay hT hKj (by omega) (by omega) hX e2⟩
  have hA : Add T (ni tp) T i t := ⟨ht, Or.inl ⟨hF, rfl⟩⟩
  obtain ⟨hI1, hp1, hot, hut, hr1, hL1, ht1, htx, hlx⟩ := IT_add hT hA
  have e := hle t o2 h2
  rcases hv with ⟨rfl, rfl, rfl⟩ | ⟨k, rfl, rfl, hX'⟩
  · rw [← hlx] at e
    refine ⟨⟨_, rfl⟩, n_mono (m_leave hN hK) (fun v' a n s ⟨e1, e2⟩ => ?_)⟩
    have e2 := hsm _ _ _ _ e e2
    rw [e] at e1
    exact ⟨e1, stay hT hKj (by omega) (by omega) hX e2⟩
  · have e : leaveS tp c t = (nI (t.2.1.length - 1), delW t k) := e
    obtain ⟨w, hw, -⟩ := h2
    have hkl := (List.getElem?_eq_some_iff.mp hw).1
    have hln : (delW t k).2.1.length = t.2.1.length - 1 := List.length_eraseIdx_of_lt hkl
    have h5 := hot.1
    obtain ⟨a1, a2, a3⟩ := IT_up (t' := delW t k) (W' := W) hT hA rfl ⟨by omega, fun k' y hy => by
      have hy : (t.2.1.eraseIdx k)[k']? = some y := hy
      rw [List.getElem?_eraseIdx] at hy
      split at hy
      · exact hot.2.1 _ y hy
      · exact hot.2.1 _ y hy, hot.2.2⟩ hut (by omega)
    have p1 := (phT_b (t := t)).1
    have p2 := (phT_b (t := delW t k)).2
    refine ⟨⟨_, rfl⟩, n_mono (m_leave hN hK) (fun v' a n s ⟨e1, e2⟩ => ?_)⟩
    rw [hlx, e] at e1 e2
    exact ⟨e1, move hKj hX' (by rw [a3]; exact e2) a1 (by omega) (by omega)⟩
theorem o_watch {c : Int32} (hI : IV j M h ar nm sc F) (hj : j < 512) : OPs κ j h m F M ad ar nm sc m_LH_watch m_Mo_watch [.int c] isI := by
  obtain ⟨T, JM, C, B, W, tp, u, K, ls, hX, hN, hT, rfl, hKj, hK, hlen, h8, hrow, hJ, hC, hok, h6, h0, hL, hW⟩ := hI.go hj
  refine ⟨3, 1041, _, by omega, by omega, x_watch hX hlen, ?_⟩
  rintro v M' (⟨hc, rfl, rfl⟩ | ⟨hc, T1, i, t, hA, rfl, hX'⟩)
  · refine ⟨⟨_, rfl⟩, n_mono (m_watch hN hK) (fun v' a n s e => ?_)⟩
    rcases e with ⟨-, rfl, e2⟩ | ⟨q, -⟩
    · exact ⟨rfl, stay hT hKj (by omega) (by omega) hX e2⟩
    · exact absurd ⟨fun z => q.1 (h0.mp z), q.2⟩ hc
  · obtain ⟨hI1, hp1, hot, hut, hr1, hL1, ht1, htx, hlx⟩ := IT_add hT hA
    obtain ⟨a1, a2, a3⟩ := IT_up (t' := wXor t c) (W' := W) hT hA rfl hot hut (by show W.length + t.2.1.length ≤ _; omega)
    have p2 : phT (wXor t c) = phT t := rfl
    refine ⟨⟨_, rfl⟩, n_mono (m_watch hN hK) (fun v' a n s e => ?_)⟩
    rcases e with ⟨q, -⟩ | ⟨-, rfl, e2⟩
    · exact absurd ⟨fun z => hc.1 (h0.mpr z), hc.2⟩ q
    · rw [hlx] at e2 ⊢
      exact ⟨rfl, move hKj hX' (by rw [a3]; exact e2) a1 (by omega) (by omega)⟩
theorem TkR_W {tg : Int32} : ∀ (k : Nat) (s s' : TS), TkR tg k s s' → s'.2.2.1.length + sm (fun t : Th => t.2.1.length) s'.1 ≤ s.2.2.1.length + sm (fun t : Th => t.2.1.length) s.1 := by
  intro k
  induction k with
  | zero => rintro s s' ⟨rfl, -⟩; exact Nat.le_refl _
  | succ k ih =>
    rintro s s' ⟨i, t, hm, ht, hle, hR⟩
    have h1 := ih _ _ hR
    have h1 : s'.2.2.1.length + sm (fun t : Th => t.2.1.length) s'.1 ≤ (endW t.2.2.2.1 t s.2.2.1).length + sm (fun t : Th => t.2.1.length) (s.1.set i (endT t.2.2.2.1 t)) := h1
    have s1 := sm_set (f := fun t : Th => t.2.1.length) (y := endT t.2.2.2.1 t) ht
    have s2 := endW_len (u := t.2.2.2.1) (t := t) (W := s.2.2.1)
    omega
theorem o_tick {c : Int32} (hI : IV j M h ar nm sc F) (hj : j < 512) : OPs κ j h m F M ad ar nm sc m_LH_tick m_Mo_tick [.int c] isI := by
  obtain ⟨T, JM, C, B, W, tp, u, K, ls, hX, hN, hT, rfl, hKj, hK, hlen, h8, hrow, hJ, hC, hok, h6, h0, hL, hW⟩ := hI.go hj
  by_cases hc : 0 ≤ c ∧ c ≤ 60
  · obtain ⟨n, hn1, rfl⟩ := nI_of (Int32.not_lt.mpr hc.1)
    have hni : (nI n).toInt = (n : Int) := nI_toInt (by omega)
    have hn : n ≤ 60 := by
      have := Int32.le_iff_toInt_le.mp hc.2
      rw [hni, show (60 : Int32).toInt = 60 from rfl] at this
      omega
    have hu := hT.u4 hj
    obtain ⟨t1, t2, t3, t4, t5⟩ := id hT
    have hok' : ∀ (i : Nat) (t : Th), T[i]? = some t → okT t := fun i t ht => (t4 i t ht).1
    have htg : (nI (u + n)).toInt ≤ 50000 := by
      have : (nI (u + n)).toInt = ((u + n : Nat) : Int) := nI_toInt (by omega)
      omega
    obtain ⟨k0, s', hR, hk0⟩ := TkR_ex htg (sm phT T) T B W (nI u) (Nat.le_refl _) hok'
    have hph := TkR_ph htg k0 _ _ hR hok'
    have hph : sm phT s'.1 + k0 ≤ sm phT T := hph
    have hww := TkR_W k0 _ _ hR
    have hww : s'.2.2.1.length + sm (fun t : Th => t.2.1.length) s'.1 ≤ W.length + sm (fun t : Th => t.2.1.length) T := hww
    refine ⟨17 * k0, 418 * k0, _, by omega, by omega, x_tickK t1 hR hX hn hu (by omega) h8 hok' (fun i t ht hl => by have := (t4 i t ht).2 hl; omega) (by omega), ?_⟩
    rintro v M' ⟨rfl, hX'⟩
    refine ⟨⟨_, rfl⟩, n_mono (m_tick hN hL ⟨t4, by omega⟩ hn hu hR) (fun v' a n' s ⟨e1, e2, e3, e4, e5, e6⟩ => ⟨e1, ?_⟩)⟩
    refine move hKj hX' e2 ⟨e3.2, by omega, by omega, e4.1, by omega⟩ (by omega) (by omega)
  · refine ⟨0, 0, _, by omega, by omega, x_tickB hc, ?_⟩
    rintro v M' ⟨rfl, rfl⟩
    exact ⟨⟨_, rfl⟩, n_mono (m_tickB hN hc) (fun v' a n s ⟨e1, e2⟩ => ⟨e1, stay hT hKj (by omega) (by omega) hX e2⟩)⟩
end OP3
