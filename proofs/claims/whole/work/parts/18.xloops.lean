def sm {α : Type} (f : α → Nat) (l : List α) : Nat := (l.map f).sum
theorem sm_step {α : Type} {f : α → Nat} {l : List α} {i : Nat} {x : α} (h : l[i]? = some x) : sm f (l.take (i + 1)) = sm f (l.take i) + f x := by
  unfold sm
  rw [List.take_add_one, h]
  simp
theorem sm_all {α : Type} {f : α → Nat} {l : List α} {i : Nat} (h : l.length ≤ i) : sm f (l.take i) = sm f l := by
  rw [List.take_of_length_le h]
def lent (t : Th) : Bool := t.2.2.1 != -2
/-- t ends ahead of u -/
def bef (t u : Th) : Bool := decide (t.2.2.2.1 < u.2.2.2.1 ∨ (t.2.2.2.1 = u.2.2.2.1 ∧ t.1 < u.1))
theorem bef_tr {t u w : Th} (h1 : bef t u = true) (h2 : bef u w = true) : bef t w = true := by
  simp only [bef, decide_eq_true_eq] at *
  simp only [Int32.lt_iff_toInt_lt, ← Int32.toInt_inj] at *
  omega
theorem bef_as {t u : Th} (h1 : bef t u = true) : bef u t = false := by
  simp only [bef, decide_eq_true_eq, decide_eq_false_iff_not] at *
  simp only [Int32.lt_iff_toInt_lt, ← Int32.toInt_inj] at *
  omega
/-- which of the first n things ends first -/
def MinT (T : List Th) (n : Nat) (r : Option Nat) : Prop := match r with
  | none => ∀ (j : Nat) (y : Th), j < n → T[j]? = some y → lent y = false
  | some i => i < n ∧ ∃ t, T[i]? = some t ∧ lent t = true ∧ ∀ (j : Nat) (y : Th), j < n → T[j]? = some y → lent y = true → bef y t = false
section XO
variable {κ : Nat × Nat} {d : Nat} {M : Mm} {a : Nat} {own : Nat → Nat × Nat} {h aT aJ aC aB aW : Nat} {tp nw : Int32} {ts : List Nat} {T : List Th}
theorem x_findNextToEnd (hH : HoC M h aT aJ aC aB aW tp nw) (hT : M aT = some (eL ts)) (hR : R2 (ThR M own) ts T) (hlen : ts.length ≤ 10000) : G κ m_LH_findNextToEnd (d + 3) M 0 [some (.ref h), none, none, none] [] 0 0 (fun v M' => ∃ o, MinT T T.length o ∧ v = some (va_rf (o.bind (fun i => ts[i]?))) ∧ M' = M) := by
  have loop : ∀ n i r o3, i + n = ts.length → MinT T i r → G κ m_LH_findNextToEnd (d + 3) M 4 [some (.ref h), some (va_rf (r.bind (fun i => ts[i]?))), some (.int (nI i)), o3] [] 0 0 (fun v M' => ∃ o, MinT T T.length o ∧ v = some (va_rf (o.bind (fun i => ts[i]?))) ∧ M' = M) := by
    intro n
    induction n with
    | zero =>
      intro i r o3 hi hmin
      have hiT : i = T.length := by rw [← hR.1]; omega
      refine g_seq s_LH_findNextToEnd_4 rfl ?_
      refine g_get f_LH_10 d_LH_findNextToEnd_6 (hH) rfl ?_
      refine g_invL  l_LH_98 d_LH_findNextToEnd_9 rfl ⟨rfl, Nat.le_of_ble_eq_true rfl, Nat.le_of_ble_eq_true rfl⟩ (hT) (al_size hT) (Nat.le_of_eq (Nat.zero_add _)) (Nat.le_of_eq (Nat.zero_add _)) ?_
      rintro v M' ⟨rfl, rfl⟩
      refine g_icmp_ge (tgt := 54) d_LH_findNextToEnd_12 (by decide) (fun hc => ?_) (fun hc => absurd hc (fun h => h (nI_le (by omega) (by omega))))
      cases hr : r.bind (fun i => ts[i]?) with
      | none =>
        refine g_seq s_LH_findNextToEnd_54 rfl ?_
        exact g_aretN rfl (by first | exact Or.inl ⟨_, rfl⟩ | exact Or.inr ⟨_, rfl⟩) d_LH_findNextToEnd_55 (⟨r, hiT ▸ hmin, by rw [hr]; rfl, rfl⟩)
      | some y =>
        refine g_seq s_LH_findNextToEnd_54 rfl ?_
        exact g_aret rfl (by first | exact Or.inl ⟨_, rfl⟩ | exact Or.inr ⟨_, rfl⟩) d_LH_findNextToEnd_55 (⟨r, hiT ▸ hmin, by rw [hr]; rfl, rfl⟩)
    | succ n ih =>
      intro i r o3 hi hmin
      have hil : i < T.length := by rw [← hR.1]; omega
      have hTi := List.getElem?_eq_getElem hil
      generalize T[i] = ti at hTi
      obtain ⟨x, hx, r1, ws, hc1, hr1, ho1, hw1⟩ := hR.at hTi
      have skip : (lent ti = false ∨ ∃ b tb, r = some b ∧ T[b]? = some tb ∧ bef ti tb = false) → MinT T (i + 1) r := by
        intro hs
        cases r with
        | none =>
          intro j y hj hy
          by_cases hji : j = i
          · subst hji
            rw [hTi] at hy
            cases hy
            rcases hs with hs | ⟨b, tb, hs, -⟩
            · exact hs
            · cases hs
          · exact hmin j y (by omega) hy
        | some b =>
          obtain ⟨hb1, t, hb2, hb3, hb4⟩ := hmin
          refine ⟨by omega, t, hb2, hb3, fun j y hj hy hly => ?_⟩
          by_cases hji : j = i
          · subst hji
            rw [hTi] at hy
            cases hy
            rcases hs with hs | ⟨b', tb, hs, hs2, hs3⟩
            · rw [hs] at hly; cases hly
            · cases hs
              rw [hb2] at hs2
              cases hs2
              exact hs3
          · exact hb4 j y (by omega) hy hly
      have cont : ∀ o3', MinT T (i + 1) r → G κ m_LH_findNextToEnd (d + 3) M 48 [some (.ref h), some (va_rf (r.bind (fun i => ts[i]?))), some (.int (nI i)), o3'] [] 0 0 (fun v M' => ∃ o, MinT T T.length o ∧ v = some (va_rf (o.bind (fun i => ts[i]?))) ∧ M' = M) := by
        intro o3' hm
        have hih := ih (i + 1) r o3' (by omega) hm
        cases hrb : r.bind (fun i => ts[i]?) with
        | none =>
          rw [hrb] at hih
          refine g_seq s_LH_findNextToEnd_48 rfl ?_
          rw [nI_1]
          exact hih
        | some y =>
          rw [hrb] at hih
          refine g_seq s_LH_findNextToEnd_48 rfl ?_
          rw [nI_1]
          exact hih
      have take : lent ti = true → (∀ (j : Nat) (y : Th), j < i → T[j]? = some y → lent y = true → bef y ti = false) → G κ m_LH_findNextToEnd (d + 3) M 46 [some (.ref h), some (va_rf (r.bind (fun i => ts[i]?))), some (.int (nI i)), some (.ref x)] [] 0 0 (fun v M' => ∃ o, MinT T T.length o ∧ v = some (va_rf (o.bind (fun i => ts[i]?))) ∧ M' = M) := by
        intro hlt hb
        refine g_seq s_LH_findNextToEnd_46 rfl ?_
        rw [nI_1]
        have hm : MinT T (i + 1) (some i) := by
          refine ⟨by omega, ti, hTi, hlt, fun j y hj hy hly => ?_⟩
          by_cases hji : j = i
          · subst hji
            rw [hTi] at hy
            cases hy
            cases hbb : bef ti ti with
            | false => rfl
            | true => rw [bef_as hbb] at hbb; cases hbb
          · exact hb j y (by omega) hy hly
        have := ih (i + 1) (some i) (some (.ref x)) (by omega) hm
        rw [Option.bind_some, hx] at this
        exact this
      refine g_seq s_LH_findNextToEnd_4 rfl ?_
      refine g_get f_LH_10 d_LH_findNextToEnd_6 (hH) rfl ?_
      refine g_invL  l_LH_98 d_LH_findNextToEnd_9 rfl ⟨rfl, Nat.le_of_ble_eq_true rfl, Nat.le_of_ble_eq_true rfl⟩ (hT) (al_size hT) (Nat.le_of_eq (Nat.zero_add _)) (Nat.le_of_eq (Nat.zero_add _)) ?_
      rintro v M' ⟨rfl, rfl⟩
      refine g_icmp_ge (tgt := 54) d_LH_findNextToEnd_12 (by decide) (fun hc => absurd hc (nI_ge (by omega) (by omega))) (fun hc => ?_)
      refine g_seq s_LH_findNextToEnd_15 rfl ?_
      refine g_get f_LH_10 d_LH_findNextToEnd_16 (hH) rfl ?_
      refine g_seq s_LH_findNextToEnd_19 rfl ?_
      refine g_invL  l_LH_106 d_LH_findNextToEnd_20 rfl ⟨rfl, Nat.le_of_ble_eq_true rfl, Nat.le_of_ble_eq_true rfl⟩ (hT) (al_get hT hx (by omega)) (Nat.le_of_eq (Nat.zero_add _)) (Nat.le_of_eq (Nat.zero_add _)) ?_
      rintro v M' ⟨rfl, rfl⟩
      refine g_cast cl_LH_59 rfl ca_Thing_Thing d_LH_findNextToEnd_23 (hc1) ?_
      refine g_seq s_LH_findNextToEnd_26 rfl ?_
      refine g_invV  l_LH_58 d_LH_findNextToEnd_28 rfl ⟨rfl, Nat.le_of_ble_eq_true rfl, Nat.le_of_ble_eq_true rfl⟩ (hc1) (t_isLent hc1) (Nat.le_of_eq (Nat.zero_add _)) (Nat.le_of_eq (Nat.zero_add _)) ?_
      rintro v M' ⟨rfl, rfl⟩
      refine g_if_eq (tgt := 48) d_LH_findNextToEnd_31 (by decide) (fun hc => ?_) (fun hc => ?_)
      · skip
        exact cont _ (skip (Or.inl (b2i_0.mp hc)))
      · skip
        have hlt : lent ti = true := b2i_n.mp hc
        cases r with
        | none =>
          refine g_seq s_LH_findNextToEnd_34 rfl ?_
          refine g_ifnullN (tgt := 46) d_LH_findNextToEnd_35 (by decide) ?_
          exact take hlt (fun j y hj hy hly => by rw [hmin j y hj hy] at hly; cases hly)
        | some b =>
          obtain ⟨hb1, tb, hb2, hb3, hb4⟩ := id hmin
          obtain ⟨xb, hxb, r2, ws2, hc2, hr2, ho2, hw2⟩ := hR.at hb2
          simp only [Option.bind_some, hxb] at cont take ⊢
          refine g_seq s_LH_findNextToEnd_34 rfl ?_
          refine g_ifnull d_LH_findNextToEnd_35 ?_
          refine g_seq s_LH_findNextToEnd_38 rfl ?_
          refine g_invV  l_LH_206 d_LH_findNextToEnd_40 rfl ⟨rfl, Nat.le_of_ble_eq_true rfl, Nat.le_of_ble_eq_true rfl⟩ (hc1) (t_endsBefore hc1 hc2) (Nat.le_of_eq (Nat.zero_add _)) (Nat.le_of_eq (Nat.zero_add _)) ?_
          rintro v M' ⟨rfl, rfl⟩
          refine g_if_eq (tgt := 48) d_LH_findNextToEnd_43 (by decide) (fun hd => ?_) (fun hd => ?_)
          · skip
            exact cont _ (skip (Or.inr ⟨b, tb, rfl, hb2, b2i_0.mp hd⟩))
          · skip
            have hbe : bef ti tb = true := b2i_n.mp hd
            refine take hlt (fun j y hj hy hly => ?_)
            cases hyy : bef y ti with
            | false => rfl
            | true => exact absurd (bef_tr hyy hbe) (by rw [hb4 j y hj hy hly]; decide)
  refine g_seq s_LH_findNextToEnd_0 rfl ?_
  exact loop ts.length 0 none none (by omega) (fun j y hj => absurd hj (Nat.not_lt_zero _))
theorem x_countLeases (hH : HoC M h aT aJ aC aB aW tp nw) (hT : M aT = some (eL ts)) (hR : R2 (ThR M own) ts T) (hlen : ts.length ≤ 10000) : G κ m_LH_countLeases (d + 3) M 0 [some (.ref h), none, none] [] 0 0 (fun v M' => v = some (.int (nI (sm (fun t : Th => if lent t then 1 else 0) T))) ∧ M' = M) := by
  have loop : ∀ n i, i + n = ts.length → G κ m_LH_countLeases (d + 3) M 4 [some (.ref h), some (.int (nI (sm (fun t : Th => if lent t then 1 else 0) (T.take i)))), some (.int (nI i))] [] 0 0 (fun v M' => v = some (.int (nI (sm (fun t : Th => if lent t then 1 else 0) T))) ∧ M' = M) := by
    intro n
    induction n with
    | zero =>
      intro i hi
      refine g_seq s_LH_countLeases_4 rfl ?_
      refine g_get f_LH_10 d_LH_countLeases_6 (hH) rfl ?_
      refine g_invL  l_LH_98 d_LH_countLeases_9 rfl ⟨rfl, Nat.le_of_ble_eq_true rfl, Nat.le_of_ble_eq_true rfl⟩ (hT) (al_size hT) (Nat.le_of_eq (Nat.zero_add _)) (Nat.le_of_eq (Nat.zero_add _)) ?_
      rintro v M' ⟨rfl, rfl⟩
      refine g_icmp_ge (tgt := 41) d_LH_countLeases_12 (by decide) (fun hc => ?_) (fun hc => absurd hc (fun h => h (nI_le (by omega) (by omega))))
      refine g_seq s_LH_countLeases_41 rfl ?_
      rw [sm_all (by rw [← hR.1]; omega)]
      exact g_iret rfl d_LH_countLeases_42 (⟨rfl, rfl⟩)
    | succ n ih =>
      intro i hi
      have hil : i < T.length := by rw [← hR.1]; omega
      have hTi := List.getElem?_eq_getElem hil
      generalize T[i] = ti at hTi
      obtain ⟨x, hx, r1, ws, hc1, hr1, ho1, hw1⟩ := hR.at hTi
      have hst := sm_step (f := fun t : Th => if lent t then 1 else 0) hTi
      refine g_seq s_LH_countLeases_4 rfl ?_
      refine g_get f_LH_10 d_LH_countLeases_6 (hH) rfl ?_
      refine g_invL  l_LH_98 d_LH_countLeases_9 rfl ⟨rfl, Nat.le_of_ble_eq_true rfl, Nat.le_of_ble_eq_true rfl⟩ (hT) (al_size hT) (Nat.le_of_eq (Nat.zero_add _)) (Nat.le_of_eq (Nat.zero_add _)) ?_
      rintro v M' ⟨rfl, rfl⟩
      refine g_icmp_ge (tgt := 41) d_LH_countLeases_12 (by decide) (fun hc => absurd hc (nI_ge (by omega) (by omega))) (fun hc => ?_)
      refine g_seq s_LH_countLeases_15 rfl ?_
      refine g_get f_LH_10 d_LH_countLeases_16 (hH) rfl ?_
      refine g_seq s_LH_countLeases_19 rfl ?_
      refine g_invL  l_LH_106 d_LH_countLeases_20 rfl ⟨rfl, Nat.le_of_ble_eq_true rfl, Nat.le_of_ble_eq_true rfl⟩ (hT) (al_get hT hx (by omega)) (Nat.le_of_eq (Nat.zero_add _)) (Nat.le_of_eq (Nat.zero_add _)) ?_
      rintro v M' ⟨rfl, rfl⟩
      refine g_cast cl_LH_59 rfl ca_Thing_Thing d_LH_countLeases_23 (hc1) ?_
      refine g_invV  l_LH_58 d_LH_countLeases_26 rfl ⟨rfl, Nat.le_of_ble_eq_true rfl, Nat.le_of_ble_eq_true rfl⟩ (hc1) (t_isLent hc1) (Nat.le_of_eq (Nat.zero_add _)) (Nat.le_of_eq (Nat.zero_add _)) ?_
      rintro v M' ⟨rfl, rfl⟩
      refine g_if_eq (tgt := 35) d_LH_countLeases_29 (by decide) (fun hc => ?_) (fun hc => ?_)
      · skip
        refine g_seq s_LH_countLeases_35 rfl ?_
        have hl : lent ti = false := b2i_0.mp hc
        rw [nI_1]
        have := ih (i + 1) (by omega)
        rw [hst, hl] at this
        exact this
      · skip
        refine g_seq s_LH_countLeases_32 rfl ?_
        have hl : lent ti = true := b2i_n.mp hc
        rw [nI_1, nI_1]
        have := ih (i + 1) (by omega)
        rw [hst, hl] at this
        exact this
  refine g_seq s_LH_countLeases_0 rfl ?_
  exact loop ts.length 0 (by omega)
theorem x_countWatchedNames (hH : HoC M h aT aJ aC aB aW tp nw) (hT : M aT = some (eL ts)) (hR : R2 (ThR M own) ts T) (hlen : ts.length ≤ 10000) : G κ m_LH_countWatchedNames (d + 3) M 0 [some (.ref h), none, none] [] 0 0 (fun v M' => v = some (.int (nI (sm (fun t : Th => if t.2.2.2.2.2 = 0 then 0 else 1) T))) ∧ M' = M) := by
  have loop : ∀ n i, i + n = ts.length → G κ m_LH_countWatchedNames (d + 3) M 4 [some (.ref h), some (.int (nI (sm (fun t : Th => if t.2.2.2.2.2 = 0 then 0 else 1) (T.take i)))), some (.int (nI i))] [] 0 0 (fun v M' => v = some (.int (nI (sm (fun t : Th => if t.2.2.2.2.2 = 0 then 0 else 1) T))) ∧ M' = M) := by
    intro n
    induction n with
    | zero =>
      intro i hi
      refine g_seq s_LH_countWatchedNames_4 rfl ?_
      refine g_get f_LH_10 d_LH_countWatchedNames_6 (hH) rfl ?_
      refine g_invL  l_LH_98 d_LH_countWatchedNames_9 rfl ⟨rfl, Nat.le_of_ble_eq_true rfl, Nat.le_of_ble_eq_true rfl⟩ (hT) (al_size hT) (Nat.le_of_eq (Nat.zero_add _)) (Nat.le_of_eq (Nat.zero_add _)) ?_
      rintro v M' ⟨rfl, rfl⟩
      refine g_icmp_ge (tgt := 41) d_LH_countWatchedNames_12 (by decide) (fun hc => ?_) (fun hc => absurd hc (fun h => h (nI_le (by omega) (by omega))))
      refine g_seq s_LH_countWatchedNames_41 rfl ?_
      rw [sm_all (by rw [← hR.1]; omega)]
      exact g_iret rfl d_LH_countWatchedNames_42 (⟨rfl, rfl⟩)
    | succ n ih =>
      intro i hi
      have hil : i < T.length := by rw [← hR.1]; omega
      have hTi := List.getElem?_eq_getElem hil
      generalize T[i] = ti at hTi
      obtain ⟨x, hx, r1, ws, hc1, hr1, ho1, hw1⟩ := hR.at hTi
      have hst := sm_step (f := fun t : Th => if t.2.2.2.2.2 = 0 then 0 else 1) hTi
      refine g_seq s_LH_countWatchedNames_4 rfl ?_
      refine g_get f_LH_10 d_LH_countWatchedNames_6 (hH) rfl ?_
      refine g_invL  l_LH_98 d_LH_countWatchedNames_9 rfl ⟨rfl, Nat.le_of_ble_eq_true rfl, Nat.le_of_ble_eq_true rfl⟩ (hT) (al_size hT) (Nat.le_of_eq (Nat.zero_add _)) (Nat.le_of_eq (Nat.zero_add _)) ?_
      rintro v M' ⟨rfl, rfl⟩
      refine g_icmp_ge (tgt := 41) d_LH_countWatchedNames_12 (by decide) (fun hc => absurd hc (nI_ge (by omega) (by omega))) (fun hc => ?_)
      refine g_seq s_LH_countWatchedNames_15 rfl ?_
      refine g_get f_LH_10 d_LH_countWatchedNames_16 (hH) rfl ?_
      refine g_seq s_LH_countWatchedNames_19 rfl ?_
      refine g_invL  l_LH_106 d_LH_countWatchedNames_20 rfl ⟨rfl, Nat.le_of_ble_eq_true rfl, Nat.le_of_ble_eq_true rfl⟩ (hT) (al_get hT hx (by omega)) (Nat.le_of_eq (Nat.zero_add _)) (Nat.le_of_eq (Nat.zero_add _)) ?_
      rintro v M' ⟨rfl, rfl⟩
      refine g_cast cl_LH_59 rfl ca_Thing_Thing d_LH_countWatchedNames_23 (hc1) ?_
      refine g_get f_LH_160 d_LH_countWatchedNames_26 (hc1) rfl ?_
      refine g_if_eq (tgt := 35) d_LH_countWatchedNames_29 (by decide) (fun hc => ?_) (fun hc => ?_)
      · skip
        refine g_seq s_LH_countWatchedNames_35 rfl ?_
        rw [nI_1]
        have := ih (i + 1) (by omega)
        rw [hst, if_pos hc] at this
        exact this
      · skip
        refine g_seq s_LH_countWatchedNames_32 rfl ?_
        rw [nI_1, nI_1]
        have := ih (i + 1) (by omega)
        rw [hst, if_neg hc] at this
        exact this
  refine g_seq s_LH_countWatchedNames_0 rfl ?_
  exact loop ts.length 0 (by omega)
theorem x_countWaiting (hH : HoC M h aT aJ aC aB aW tp nw) (hT : M aT = some (eL ts)) (hR : R2 (ThR M own) ts T) (hlen : ts.length ≤ 10000) : G κ m_LH_countWaiting (d + 3) M 0 [some (.ref h), none, none] [] 0 0 (fun v M' => v = some (.int (nI (sm (fun t : Th => t.2.1.length) T))) ∧ M' = M) := by
  have loop : ∀ n i, i + n = ts.length → G κ m_LH_countWaiting (d + 3) M 4 [some (.ref h), some (.int (nI (sm (fun t : Th => t.2.1.length) (T.take i)))), some (.int (nI i))] [] 0 0 (fun v M' => v = some (.int (nI (sm (fun t : Th => t.2.1.length) T))) ∧ M' = M) := by
    intro n
    induction n with
    | zero =>
      intro i hi
      refine g_seq s_LH_countWaiting_4 rfl ?_
      refine g_get f_LH_10 d_LH_countWaiting_6 (hH) rfl ?_
      refine g_invL  l_LH_98 d_LH_countWaiting_9 rfl ⟨rfl, Nat.le_of_ble_eq_true rfl, Nat.le_of_ble_eq_true rfl⟩ (hT) (al_size hT) (Nat.le_of_eq (Nat.zero_add _)) (Nat.le_of_eq (Nat.zero_add _)) ?_
      rintro v M' ⟨rfl, rfl⟩
      refine g_icmp_ge (tgt := 41) d_LH_countWaiting_12 (by decide) (fun hc => ?_) (fun hc => absurd hc (fun h => h (nI_le (by omega) (by omega))))
      refine g_seq s_LH_countWaiting_41 rfl ?_
      rw [sm_all (by rw [← hR.1]; omega)]
      exact g_iret rfl d_LH_countWaiting_42 (⟨rfl, rfl⟩)
    | succ n ih =>
      intro i hi
      have hil : i < T.length := by rw [← hR.1]; omega
      have hTi := List.getElem?_eq_getElem hil
      generalize T[i] = ti at hTi
      obtain ⟨x, hx, r1, ws, hc1, hr1, ho1, hw1⟩ := hR.at hTi
      have hst := sm_step (f := fun t : Th => t.2.1.length) hTi
      refine g_seq s_LH_countWaiting_4 rfl ?_
      refine g_get f_LH_10 d_LH_countWaiting_6 (hH) rfl ?_
      refine g_invL  l_LH_98 d_LH_countWaiting_9 rfl ⟨rfl, Nat.le_of_ble_eq_true rfl, Nat.le_of_ble_eq_true rfl⟩ (hT) (al_size hT) (Nat.le_of_eq (Nat.zero_add _)) (Nat.le_of_eq (Nat.zero_add _)) ?_
      rintro v M' ⟨rfl, rfl⟩
      refine g_icmp_ge (tgt := 41) d_LH_countWaiting_12 (by decide) (fun hc => absurd hc (nI_ge (by omega) (by omega))) (fun hc => ?_)
      refine g_seq s_LH_countWaiting_15 rfl ?_
      refine g_get f_LH_10 d_LH_countWaiting_17 (hH) rfl ?_
      refine g_seq s_LH_countWaiting_20 rfl ?_
      refine g_invL  l_LH_106 d_LH_countWaiting_21 rfl ⟨rfl, Nat.le_of_ble_eq_true rfl, Nat.le_of_ble_eq_true rfl⟩ (hT) (al_get hT hx (by omega)) (Nat.le_of_eq (Nat.zero_add _)) (Nat.le_of_eq (Nat.zero_add _)) ?_
      rintro v M' ⟨rfl, rfl⟩
      refine g_cast cl_LH_59 rfl ca_Thing_Thing d_LH_countWaiting_24 (hc1) ?_
      refine g_get f_LH_91 d_LH_countWaiting_27 (hc1) rfl ?_
      refine g_invL  l_LH_98 d_LH_countWaiting_30 rfl ⟨rfl, Nat.le_of_ble_eq_true rfl, Nat.le_of_ble_eq_true rfl⟩ (hr1) (al_size hr1) (Nat.le_of_eq (Nat.zero_add _)) (Nat.le_of_eq (Nat.zero_add _)) ?_
      rintro v M' ⟨rfl, rfl⟩
      refine g_seq s_LH_countWaiting_33 rfl ?_
      rw [nI_1, nI_add, hw1.1]
      have := ih (i + 1) (by omega)
      rw [hst] at this
      exact this
  refine g_seq s_LH_countWaiting_0 rfl ?_
  exact loop ts.length 0 (by omega)
end XO
