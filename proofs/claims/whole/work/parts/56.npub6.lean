theorem befI {t u : Th} : bef t u = true ↔ (t.2.2.2.1.toInt < u.2.2.2.1.toInt ∨ (t.2.2.2.1.toInt = u.2.2.2.1.toInt ∧ t.1.toInt < u.1.toInt)) := by
  unfold bef
  rw [decide_eq_true_iff, Int32.lt_iff_toInt_lt, Int32.lt_iff_toInt_lt, Int32.toInt_inj]
section NP6
variable {κ : Nat × Nat} {d m : Nat} {ad : Nat → Nat} {ar : Ar} {nm : Nat → Int64} {sc : Sc} {K : Nat} {ls : Nat → List Nat} {f : Int32 → Th} {J : List Wt} {C : List (Int32 × Int32)} {B : Nat → List (Int32 × Int32)} {W : List Int32} {tp : List Nat} {nw : Int32} {T : List Th}
def lentK (f : Int32 → Th) (ls : Nat → List Nat) (k : Nat) : Prop := lent (f (ni (ls k))) = true
def ltF (f : Int32 → Th) (ls : Nat → List Nat) (k b : Nat) : Prop := bef (f (ni (ls k))) (f (ni (ls b))) = true
def dueK (f : Int32 → Th) (ls : Nat → List Nat) (nw : Int32) (k : Nat) : Prop := lent (f (ni (ls k))) = true ∧ (f (ni (ls k))).2.2.2.1 ≤ nw
def ltN (ls : Nat → List Nat) (k b : Nat) : Prop := ni (ls k) < ni (ls b)
theorem m_next (h : NS ar nm sc K ls f J C B W tp nw) : GN κ m_Mo_next d m ad ar nm sc 0 [some (.ref m), none, none] [] (fun v ar' nm' sc' => ar' = ar ∧ nm' = nm ∧ sc' = sc ∧ ∃ o, BestP (dueK f ls nw) (ltN ls) K o ∧ v = some (.int (oM o))) := by
  obtain ⟨hN, ht, hj, hc, hb, hw, hp, hnw⟩ := id h
  obtain ⟨n1, n2, n3, n4⟩ := id hN
  have irr : ∀ i, ¬ ltN ls i i := fun i => Int32.lt_irrefl
  have loop : ∀ q i o, i + q = K → BestP (dueK f ls nw) (ltN ls) i o → GN κ m_Mo_next d m ad ar nm sc 4 [some (.ref m), some (.int (oM o)), some (.int (nI i))] [] (fun v ar' nm' sc' => ar' = ar ∧ nm' = nm ∧ sc' = sc ∧ ∃ o, BestP (dueK f ls nw) (ltN ls) K o ∧ v = some (.int (oM o))) := by
    intro q
    induction q with
    | zero =>
      intro i o hi hB
      have : i = K := by omega
      subst this
      refine n_seq s_Mo_next_4 rfl ?_
      refine n_gets f_Mo_85 d_Mo_next_6 rfl ?_
      rw [n1]
      refine n_icmp_ge (tgt := 62) d_Mo_next_9 (by decide) (fun hbr => ?_) (fun hbr => absurd hbr (fun h => h (nI_le (Nat.le_refl _) (by omega))))
      refine n_seq s_Mo_next_62 rfl ?_
      exact n_iret rfl d_Mo_next_63 (⟨rfl, rfl, rfl, o, hB, rfl⟩)
    | succ q ih =>
      intro i o hi hB
      have hT := ht.1 i (by omega)
      have hi42 : i < 4200 := by omega
      have skip : ¬ dueK f ls nw i → GN κ m_Mo_next d m ad ar nm sc 56 [some (.ref m), some (.int (oM o)), some (.int (nI i))] [] (fun v ar' nm' sc' => ar' = ar ∧ nm' = nm ∧ sc' = sc ∧ ∃ o, BestP (dueK f ls nw) (ltN ls) K o ∧ v = some (.int (oM o))) := by
        intro hd
        refine n_seq s_Mo_next_56 rfl ?_
        rw [nI_1]
        exact ih (i + 1) o (by omega) (hB.no hd)
      refine n_seq s_Mo_next_4 rfl ?_
      refine n_gets f_Mo_85 d_Mo_next_6 rfl ?_
      rw [n1]
      refine n_icmp_ge (tgt := 62) d_Mo_next_9 (by decide) (fun hbr => absurd hbr (nI_ge (by omega) (by omega))) (fun hbr => ?_)
      refine n_seq s_Mo_next_12 rfl ?_
      refine n_geta f_Mo_27 d_Mo_next_13 (by decide) ?_
      refine n_seq s_Mo_next_16 rfl ?_
      refine n_ald d_Mo_next_17 ⟨by decide, by decide⟩ (rfl) (hi42) ?_
      refine n_if_lt (tgt := 56) d_Mo_next_18 (by decide) (fun h1 => ?_) (fun h1 => ?_)
      · skip
        have hl := (hoM_lt hT).mp h1
        exact skip (fun e => by rw [e.1] at hl; cases hl)
      · skip
        have hl := (hoM_ge hT).mp (Int32.not_lt.mp h1)
        refine n_seq s_Mo_next_21 rfl ?_
        refine n_geta f_Mo_30 d_Mo_next_22 (by decide) ?_
        refine n_seq s_Mo_next_25 rfl ?_
        refine n_ald d_Mo_next_26 ⟨by decide, by decide⟩ (rfl) (hi42) ?_
        rw [hT.2.2.2.2.1 hl]
        refine n_seq s_Mo_next_27 rfl ?_
        refine n_gets f_Mo_96 d_Mo_next_28 rfl ?_
        rw [hnw]
        refine n_icmp_gt (tgt := 56) d_Mo_next_31 (by decide) (fun h2 => ?_) (fun h2 => ?_)
        · skip
          exact skip (fun e => absurd h2 (Int32.not_lt.mpr e.2))
        · skip
          have hdue : dueK f ls nw i := ⟨hl, Int32.not_lt.mp h2⟩
          refine n_seq s_Mo_next_34 rfl ?_
          obtain _ | b := o
          · refine n_if_lt (tgt := 54) d_Mo_next_35 (by decide) (fun hbr => ?_) (fun hbr => absurd hbr (fun h => h (by decide)))
            refine n_seq s_Mo_next_54 rfl ?_
            rw [nI_1]
            exact ih (i + 1) (some i) (by omega) (BestP.fst (irr i) hB hdue)
          · have hbl := hB.1
            obtain ⟨e1, e2, e3, -⟩ := n3 i (by omega)
            obtain ⟨g1, g2, g3, -⟩ := n3 b (by omega)
            refine n_if_lt (tgt := 54) d_Mo_next_35 (by decide) (fun hbr => absurd hbr (nI_lt0 (by omega))) (fun hbr => ?_)
            refine n_seq s_Mo_next_38 rfl ?_
            refine n_geta f_Mo_13 d_Mo_next_39 (by decide) ?_
            refine n_seq s_Mo_next_42 rfl ?_
            refine n_lald d_Mo_next_43 (rfl) (hi42) ?_
            rw [e1]
            refine n_seq s_Mo_next_44 rfl ?_
            refine n_geta f_Mo_13 d_Mo_next_45 (by decide) ?_
            refine n_seq s_Mo_next_48 rfl ?_
            refine n_lald d_Mo_next_49 (rfl) ((by omega)) ?_
            rw [g1]
            refine n_lcmp d_Mo_next_50  ?_
            refine n_if_ge (tgt := 56) d_Mo_next_51 (by decide) (fun h3 => ?_) (fun h3 => ?_)
            · skip
              have hlt : ¬ ltN ls i b := fun e => by
                have := (ni_lt e2 g2 e3 g3).mpr e
                have h4 := (lg_cmp_ge _ _).mp h3
                exact absurd this (Int64.not_lt.mpr h4)
              refine n_seq s_Mo_next_56 rfl ?_
              rw [nI_1]
              exact ih (i + 1) (some b) (by omega) (BestP.old hB hlt)
            · skip
              have hlt : ltN ls i b := (ni_lt e2 g2 e3 g3).mp ((lg_cmp_lt _ _).mp (Int32.not_le.mp h3))
              refine n_seq s_Mo_next_54 rfl ?_
              rw [nI_1]
              exact ih (i + 1) (some i) (by omega) (BestP.nw (irr i) (fun k _ h1 h2 => Int32.lt_of_lt_of_le h1 (Int32.not_lt.mp h2)) (fun k h1 h2 => Int32.lt_irrefl (Int32.lt_trans h1 h2)) hB hdue hlt)
  refine n_seq s_Mo_next_0 rfl ?_
  exact loop K 0 none (by omega) (fun k hk => absurd hk (Nat.not_lt_zero _))
theorem ltF_irr {i : Nat} : ¬ ltF f ls i i := fun h => by
  unfold ltF at h; rw [befI] at h; omega
theorem ltF_nt {i b k : Nat} (h : ltF f ls i b) (h2 : ¬ ltF f ls k b) : ltF f ls i k := by
  unfold ltF at *
  rw [befI] at *
  omega
theorem ltF_as {i k : Nat} (h : ltF f ls i k) : ¬ ltF f ls k i := by
  unfold ltF at *
  rw [befI] at *
  omega
theorem MinT_uniq {o o' : Option Nat} (hL : (T.map (fun t => t.1)).Nodup) (h : MinT T T.length o) (h' : MinT T T.length o') : o = o' := by
  obtain _ | i := o
  · obtain _ | j := o'
    · rfl
    · obtain ⟨hj, t, h1, h2, -⟩ := h'
      have := h j t hj h1
      rw [h2] at this; cases this
  · obtain ⟨hi, t, h1, h2, h3⟩ := h
    obtain _ | j := o'
    · have := h' i t hi h1
      rw [h2] at this; cases this
    · obtain ⟨hj, u, g1, g2, g3⟩ := h'
      have b1 := h3 j u hj g1 g2
      have b2 := g3 i t hi h1 h2
      have c1 : ¬ bef u t = true := by rw [b1]; decide
      have c2 : ¬ bef t u = true := by rw [b2]; decide
      rw [befI] at c1 c2
      have e : t.1 = u.1 := Int32.toInt_inj.mp (by omega)
      have e2 : (T.map (fun t => t.1))[i]? = (T.map (fun t => t.1))[j]? := by
        rw [List.getElem?_map, List.getElem?_map, h1, g1]; simp [e]
      rw [(List.getElem?_inj (by simpa using hi) hL).mp e2]
/-- the best of the reference's names is the least of the class's things -/
theorem Best_Min {b i : Nat} {t : Th} (hL : LK f T) (h : NS ar nm sc K ls f J C B W tp nw) (hB : BestP (lentK f ls) (ltF f ls) K (some b)) (ht : f (ni (ls b)) = t) (hi : T[i]? = some t) : MinT T T.length (some i) := by
  obtain ⟨b1, b2, b3, -⟩ := hB
  refine ⟨(List.getElem?_eq_some_iff.mp hi).1, t, hi, by rw [← ht]; exact b2, fun j y hj hy hl => ?_⟩
  have hfy := hL.at hy
  rcases hex : decide (∃ k, k < K ∧ y.1 = ni (ls k)) with _ | _
  · have h2 := of_decide_eq_false hex
    have := h.2.1.2.1 y.1 (fun k hk e => h2 ⟨k, hk, e⟩)
    rw [hfy] at this
    rw [this] at hl; cases hl
  · obtain ⟨k, hk, e⟩ := of_decide_eq_true hex
    have := b3 k hk (by unfold lentK; rw [← e, hfy]; exact hl)
    unfold ltF at this
    rw [← e, hfy, ht] at this
    exact Bool.eq_false_iff.mpr this
theorem m_first (h : NS ar nm sc K ls f J C B W tp nw) (hL : LK f T) : GN κ m_Mo_first (d + 1) m ad ar nm sc 0 [some (.ref m), none, none] [] (fun v ar' nm' sc' => ∃ o, MinT T T.length o ∧ ((o = none ∧ v = some (.int (-2)) ∧ NY ar' nm' sc' (K + 1) f J C B W tp nw) ∨ ∃ i t, o = some i ∧ T[i]? = some t ∧ v = some (.int t.2.2.1) ∧ ∃ tp', ni tp' = t.1 ∧ NY ar' nm' sc' (K + 1) f J C B W tp' nw)) := by
  obtain ⟨hN, ht, hj, hc, hb, hw, hp, hnw⟩ := id h
  obtain ⟨n1, n2, n3, n4⟩ := id hN
  have loop : ∀ q i o, i + q = K → BestP (lentK f ls) (ltF f ls) i o → GN κ m_Mo_first (d + 1) m ad ar nm sc 4 [some (.ref m), some (.int (oM o)), some (.int (nI i))] [] (fun v ar' nm' sc' => ∃ o, MinT T T.length o ∧ ((o = none ∧ v = some (.int (-2)) ∧ NY ar' nm' sc' (K + 1) f J C B W tp nw) ∨ ∃ i t, o = some i ∧ T[i]? = some t ∧ v = some (.int t.2.2.1) ∧ ∃ tp', ni tp' = t.1 ∧ NY ar' nm' sc' (K + 1) f J C B W tp' nw)) := by
    intro q
    induction q with
    | zero =>
      intro i o hi hB
      have : i = K := by omega
      subst this
      refine n_seq s_Mo_first_4 rfl ?_
      refine n_gets f_Mo_85 d_Mo_first_6 rfl ?_
      rw [n1]
      refine n_icmp_ge (tgt := 79) d_Mo_first_9 (by decide) (fun hbr => ?_) (fun hbr => absurd hbr (fun h => h (nI_le (Nat.le_refl _) (by omega))))
      refine n_seq s_Mo_first_79 rfl ?_
      obtain _ | b := o
      · refine n_if_ge (tgt := 86) d_Mo_first_80 (by decide) (fun hbr => absurd hbr (by decide)) (fun hbr => ?_)
        refine n_seq s_Mo_first_83 rfl ?_
        refine n_iret rfl d_Mo_first_85 ⟨none, fun j y hj hy => ?_, Or.inl ⟨rfl, rfl, h.y⟩⟩
        have hfy := hL.at hy
        rcases hl : lent y with _ | _
        · rfl
        · exfalso
          have h2 : f y.1 = newT y.1 := ht.2.1 y.1 (fun k hk e => hB k hk (by unfold lentK; rw [← e, hfy]; exact hl))
          rw [hfy] at h2
          rw [h2] at hl; cases hl
      · have hbl := hB.1
        have hT := ht.1 b hbl
        obtain ⟨i', hi'⟩ := hL.lent hB.2.1
        refine n_if_ge (tgt := 86) d_Mo_first_80 (by decide) (fun hbr => ?_) (fun hbr => absurd hbr (fun h => h (nI_pos' (by omega))))
        refine n_seq s_Mo_first_86 rfl ?_
        refine n_invV l_Mo_123 d_Mo_first_88 rfl ⟨rfl, Nat.le_of_ble_eq_true rfl, Nat.le_of_ble_eq_true rfl⟩ (m_writeN h hbl) ?_
        rintro v ar' nm' sc' ⟨rfl, h3⟩
        have hT3 := h3.2.1.1 b hbl
        refine n_seq s_Mo_first_91 rfl ?_
        refine n_geta f_Mo_27 d_Mo_first_92 (by decide) ?_
        refine n_seq s_Mo_first_95 rfl ?_
        refine n_ald d_Mo_first_96 ⟨by decide, by decide⟩ (rfl) ((show b < 4200 by omega)) ?_
        exact n_iret rfl d_Mo_first_97 (⟨some i', Best_Min hL h hB rfl hi', Or.inr ⟨i', _, rfl, hi', by rw [hoM_v hT3 hB.2.1], ls b, (ht.2.2 _).symm, h3.y⟩⟩)
    | succ q ih =>
      intro i o hi hB
      have hT := ht.1 i (by omega)
      have hi42 : i < 4200 := by omega
      refine n_seq s_Mo_first_4 rfl ?_
      refine n_gets f_Mo_85 d_Mo_first_6 rfl ?_
      rw [n1]
      refine n_icmp_ge (tgt := 79) d_Mo_first_9 (by decide) (fun hbr => absurd hbr (nI_ge (by omega) (by omega))) (fun hbr => ?_)
      refine n_seq s_Mo_first_12 rfl ?_
      refine n_geta f_Mo_27 d_Mo_first_13 (by decide) ?_
      refine n_seq s_Mo_first_16 rfl ?_
      refine n_ald d_Mo_first_17 ⟨by decide, by decide⟩ (rfl) (hi42) ?_
      refine n_if_lt (tgt := 73) d_Mo_first_18 (by decide) (fun h1 => ?_) (fun h1 => ?_)
      · skip
        have hl := (hoM_lt hT).mp h1
        refine n_seq s_Mo_first_73 rfl ?_
        rw [nI_1]
        exact ih (i + 1) o (by omega) (hB.no (fun e => by unfold lentK at e; rw [e] at hl; cases hl))
      · skip
        have hl := (hoM_ge hT).mp (Int32.not_lt.mp h1)
        refine n_seq s_Mo_first_21 rfl ?_
        obtain _ | b := o
        · refine n_if_lt (tgt := 71) d_Mo_first_22 (by decide) (fun hbr => ?_) (fun hbr => absurd hbr (fun h => h (by decide)))
          refine n_seq s_Mo_first_71 rfl ?_
          rw [nI_1]
          exact ih (i + 1) (some i) (by omega) (BestP.fst ltF_irr hB hl)
        · have hbl := hB.1
          have hTb := ht.1 b (by omega)
          obtain ⟨e1, e2, e3, -⟩ := n3 i (by omega)
          obtain ⟨g1, g2, g3, -⟩ := n3 b (by omega)
          have hb42 : b < 4200 := by omega
          have u1 := hT.2.2.2.2.1 hl
          have u2 := hTb.2.2.2.2.1 hB.2.1
          have x1 := ht.2.2 (ni (ls i))
          have x2 := ht.2.2 (ni (ls b))
          have new : ltF f ls i b → GN κ m_Mo_first (d + 1) m ad ar nm sc 71 [some (.ref m), some (.int (nI b)), some (.int (nI i))] [] (fun v ar' nm' sc' => ∃ o, MinT T T.length o ∧ ((o = none ∧ v = some (.int (-2)) ∧ NY ar' nm' sc' (K + 1) f J C B W tp nw) ∨ ∃ i t, o = some i ∧ T[i]? = some t ∧ v = some (.int t.2.2.1) ∧ ∃ tp', ni tp' = t.1 ∧ NY ar' nm' sc' (K + 1) f J C B W tp' nw)) := by
            intro hlt
            refine n_seq s_Mo_first_71 rfl ?_
            rw [nI_1]
            exact ih (i + 1) (some i) (by omega) (BestP.nw ltF_irr (fun k _ => ltF_nt) (fun k => ltF_as) hB hl hlt)
          have old : ¬ ltF f ls i b → GN κ m_Mo_first (d + 1) m ad ar nm sc 73 [some (.ref m), some (.int (nI b)), some (.int (nI i))] [] (fun v ar' nm' sc' => ∃ o, MinT T T.length o ∧ ((o = none ∧ v = some (.int (-2)) ∧ NY ar' nm' sc' (K + 1) f J C B W tp nw) ∨ ∃ i t, o = some i ∧ T[i]? = some t ∧ v = some (.int t.2.2.1) ∧ ∃ tp', ni tp' = t.1 ∧ NY ar' nm' sc' (K + 1) f J C B W tp' nw)) := by
            intro hlt
            refine n_seq s_Mo_first_73 rfl ?_
            rw [nI_1]
            exact ih (i + 1) (some b) (by omega) (BestP.old hB hlt)
          refine n_if_lt (tgt := 71) d_Mo_first_22 (by decide) (fun hbr => absurd hbr (nI_lt0 (by omega))) (fun hbr => ?_)
          refine n_seq s_Mo_first_25 rfl ?_
          refine n_geta f_Mo_30 d_Mo_first_26 (by decide) ?_
          refine n_seq s_Mo_first_29 rfl ?_
          refine n_ald d_Mo_first_30 ⟨by decide, by decide⟩ (rfl) (hi42) ?_
          rw [u1]
          refine n_seq s_Mo_first_31 rfl ?_
          refine n_geta f_Mo_30 d_Mo_first_32 (by decide) ?_
          refine n_seq s_Mo_first_35 rfl ?_
          refine n_ald d_Mo_first_36 ⟨by decide, by decide⟩ (rfl) (hb42) ?_
          rw [u2]
          refine n_icmp_lt (tgt := 71) d_Mo_first_37 (by decide) (fun h2 => ?_) (fun h2 => ?_)
          · skip
            exact new (decide_eq_true (Or.inl h2))
          · skip
            refine n_seq s_Mo_first_40 rfl ?_
            refine n_geta f_Mo_30 d_Mo_first_41 (by decide) ?_
            refine n_seq s_Mo_first_44 rfl ?_
            refine n_ald d_Mo_first_45 ⟨by decide, by decide⟩ (rfl) (hi42) ?_
            rw [u1]
            refine n_seq s_Mo_first_46 rfl ?_
            refine n_geta f_Mo_30 d_Mo_first_47 (by decide) ?_
            refine n_seq s_Mo_first_50 rfl ?_
            refine n_ald d_Mo_first_51 ⟨by decide, by decide⟩ (rfl) (hb42) ?_
            rw [u2]
            refine n_icmp_ne (tgt := 73) d_Mo_first_52 (by decide) (fun h3 => ?_) (fun h3 => ?_)
            · skip
              exact old (fun e => (of_decide_eq_true e).elim h2 (fun e => h3 e.1))
            · skip
              refine n_seq s_Mo_first_55 rfl ?_
              refine n_geta f_Mo_13 d_Mo_first_56 (by decide) ?_
              refine n_seq s_Mo_first_59 rfl ?_
              refine n_lald d_Mo_first_60 (rfl) (hi42) ?_
              rw [e1]
              refine n_seq s_Mo_first_61 rfl ?_
              refine n_geta f_Mo_13 d_Mo_first_62 (by decide) ?_
              refine n_seq s_Mo_first_65 rfl ?_
              refine n_lald d_Mo_first_66 (rfl) (hb42) ?_
              rw [g1]
              refine n_lcmp d_Mo_first_67  ?_
              refine n_if_ge (tgt := 73) d_Mo_first_68 (by decide) (fun h4 => ?_) (fun h4 => ?_)
              · skip
                refine old (fun e => (of_decide_eq_true e).elim h2 (fun e => ?_))
                have e5 := e.2
                rw [x1, x2] at e5
                exact absurd ((ni_lt e2 g2 e3 g3).mpr e5) (Int64.not_lt.mpr ((lg_cmp_ge _ _).mp h4))
              · skip
                have hlt := (ni_lt e2 g2 e3 g3).mp ((lg_cmp_lt _ _).mp (Int32.not_le.mp h4))
                exact new (decide_eq_true (Or.inr ⟨h3, by rw [x1, x2]; exact hlt⟩))
  refine n_seq s_Mo_first_0 rfl ?_
  exact loop K 0 none (by omega) (fun k hk => absurd hk (Nat.not_lt_zero _))
end NP6
