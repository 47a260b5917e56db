section NP3
variable {κ : Nat × Nat} {d m : Nat} {ad : Nat → Nat} {ar : Ar} {nm : Nat → Int64} {sc : Sc} {K : Nat} {ls : Nat → List Nat} {f : Int32 → Th} {J : List Wt} {C : List (Int32 × Int32)} {B : Nat → List (Int32 × Int32)} {W : List Int32} {tp : List Nat} {nw : Int32}
theorem m_goneN {k : Nat} (h : NS ar nm sc K ls f J C B W tp nw) (hk : k < J.length) : GN κ m_Mo_gone d m ad ar nm sc 0 [some (.ref m), some (.int (nI k)), none] [] (fun v ar' nm' sc' => v = none ∧ NS ar' nm' sc' K ls f (J.eraseIdx k) C B W tp nw) := by
  obtain ⟨hN, ht, ⟨j1, j2, j3, j4, j5⟩, hc, hb, hw, hp, hnw⟩ := h
  refine n_mono (m_gone j1 j2 hk) ?_
  rintro v ar' nm' sc' ⟨rfl, rfl, rfl, rfl⟩
  refine ⟨rfl, hN, ht, ⟨?_, ?_, j3.erase hk (fun j hj => sh_out (by omega)) (fun j h1 h2 => sh_in (by omega) (by omega)), j4.erase hk (fun j hj => sh_out (by omega)) (fun j h1 h2 => sh_in (by omega) (by omega)), j5.erase hk (fun j hj => sh_out (by omega)) (fun j h1 h2 => sh_in (by omega) (by omega))⟩, hc, hb, hw, hp, hnw⟩
  · rw [List.length_eraseIdx_of_lt hk]; rfl
  · rw [List.length_eraseIdx_of_lt hk]; omega
theorem m_writeN {n : Nat} (h : NS ar nm sc K ls f J C B W tp nw) (hn : n < K) : GN κ m_Mo_write d m ad ar nm sc 0 [some (.ref m), some (.int (nI n)), none, none, none] [] (fun v ar' nm' sc' => v = none ∧ NS ar' nm' sc' K ls f J C B W (ls n) nw) := by
  obtain ⟨hN, ht, hj, hc, hb, hw, hp, hnw⟩ := h
  obtain ⟨e1, e2, e3, e4⟩ := hN.2.2.1 n hn
  have h40 := hN.2.1
  refine n_mono (m_write (by omega) e1 e2 e3) ?_
  rintro v ar' nm' sc' ⟨rfl, rfl, rfl, g0, g20, rfl, hg⟩
  exact ⟨rfl, hN, ht, hj, hc, hb, hw, ⟨rfl, e2, e3, hg⟩, hnw⟩
theorem m_dropN {c : Nat} (h : NS ar nm sc K ls f J C B W tp nw) (hc16 : c < 16) (h1 : 1 ≤ (B c).length) : GN κ m_Mo_drop d m ad ar nm sc 0 [some (.ref m), some (.int (nI c)), none] [] (fun v ar' nm' sc' => v = none ∧ NS ar' nm' sc' K ls f J C (fun i => if i = c then (B c).eraseIdx 0 else B i) W tp nw) := by
  obtain ⟨hN, ht, hj, hc, hb, hw, hp, hnw⟩ := h
  obtain ⟨b1, b2, -⟩ := hb c hc16
  refine n_mono (m_drop hc16 b1 b2 h1) ?_
  rintro v ar' nm' sc' ⟨rfl, rfl, rfl, rfl⟩
  exact ⟨rfl, hN, ht, hj, hc, hb.drop hc16 h1, hw, hp, hnw⟩
def jobS (tp : List Nat) (rk du : Int32) (J : List Wt) : Int32 × List Wt := if tp = [] then (-1, J) else if J.length = 30 then (-3, J) else (nI (J.length + 1), J ++ [(ni tp, rk, du)])
theorem m_job {rk du : Int32} (h : NS ar nm sc K ls f J C B W tp nw) (hK : K < 4000) : GN κ m_Mo_job (d + 2) m ad ar nm sc 0 [some (.ref m), some (.int rk), some (.int du), none] [] (fun v ar' nm' sc' => v = some (.int (jobS tp rk du J).1) ∧ NY ar' nm' sc' (K + 1) f (jobS tp rk du J).2 C B W tp nw) := by
  have hp := h.2.2.2.2.2.2.1
  unfold jobS
  refine n_seq s_Mo_job_0 rfl ?_
  refine n_gets f_Mo_75 d_Mo_job_1 rfl ?_
  refine n_if_ne (tgt := 9) d_Mo_job_4 (by decide) (fun h1 => ?_) (fun h1 => ?_)
  · skip
    have hne : tp ≠ [] := fun e => h1 ((tp_0 hp).mpr e)
    rw [if_neg hne]
    refine n_seq s_Mo_job_9 rfl ?_
    refine n_invV l_Mo_109 d_Mo_job_10 rfl ⟨rfl, Nat.le_of_ble_eq_true rfl, Nat.le_of_ble_eq_true rfl⟩ (m_here h hne hK) ?_
    rintro v ar' nm' sc' ⟨n, K', ls', h', hn, hls, rfl, hK'⟩
    obtain ⟨hN, ht, ⟨j1, j2, j3, j4, j5⟩, hc, hb, hw, hp, hnw⟩ := id h'
    refine n_seq s_Mo_job_13 rfl ?_
    refine n_gets f_Mo_126 d_Mo_job_15 rfl ?_
    rw [j1]
    refine n_seq s_Mo_job_18 rfl ?_
    refine n_icmp_ne (tgt := 26) d_Mo_job_20 (by decide) (fun h2 => ?_) (fun h2 => ?_)
    · skip
      have h30 : J.length ≠ 30 := fun e => h2 (by rw [e]; rfl)
      rw [if_neg h30]
      have hst : ar' = arS ar' [(12, ar' 12), (13, ar' 13), (14, ar' 14)] := arS_id _ (by simp)
      refine n_st hst ?_
      refine n_seq s_Mo_job_26 rfl ?_
      refine n_geta f_Mo_48 d_Mo_job_27 (by decide) ?_
      refine n_seq s_Mo_job_30 rfl ?_
      refine n_gets f_Mo_126 d_Mo_job_31 rfl ?_
      rw [j1]
      refine n_seq s_Mo_job_34 rfl ?_
      refine n_astL d_Mo_job_35 ⟨by decide, by decide⟩ rfl (rfl) ((show J.length < 30 by omega)) ?_
      refine n_seq s_Mo_job_36 rfl ?_
      refine n_geta f_Mo_51 d_Mo_job_37 (by decide) ?_
      refine n_seq s_Mo_job_40 rfl ?_
      refine n_gets f_Mo_126 d_Mo_job_41 rfl ?_
      rw [j1]
      refine n_seq s_Mo_job_44 rfl ?_
      refine n_astL d_Mo_job_45 ⟨by decide, by decide⟩ rfl (rfl) ((show J.length < 30 by omega)) ?_
      refine n_seq s_Mo_job_46 rfl ?_
      refine n_geta f_Mo_54 d_Mo_job_47 (by decide) ?_
      refine n_seq s_Mo_job_50 rfl ?_
      refine n_gets f_Mo_126 d_Mo_job_52 rfl ?_
      rw [j1]
      refine n_seq s_Mo_job_55 rfl ?_
      rw [nI_1]
      refine n_puts f_Mo_126 d_Mo_job_58 rfl ?_
      refine n_seq s_Mo_job_61 rfl ?_
      refine n_astL d_Mo_job_62 ⟨by decide, by decide⟩ rfl (rfl) ((show J.length < 30 by omega)) ?_
      refine n_seq s_Mo_job_63 rfl ?_
      refine n_gets f_Mo_126 d_Mo_job_64 rfl ?_
      refine n_iret rfl d_Mo_job_67 ⟨rfl, K', ls', hK', hN, ht, ⟨by rw [List.length_append]; rfl, by rw [List.length_append]; simp; omega, j3.snoc (fun j hj => pk_un (by omega)) ⟨n, hn, pk_us, by rw [hls]⟩, j4.snoc (fun j hj => pk_un (by omega)) pk_us, j5.snoc (fun j hj => pk_un (by omega)) pk_us⟩, hc, hb, hw, hp, hnw⟩
    · skip
      have h30 : J.length = 30 := (nI_eq (b := 30) (by omega) (by decide)).mp h2
      rw [if_pos h30]
      refine n_seq s_Mo_job_23 rfl ?_
      exact n_iret rfl d_Mo_job_25 (⟨rfl, K', ls', hK', h'⟩)
  · skip
    rw [if_pos ((tp_0 hp).mp h1)]
    refine n_seq s_Mo_job_7 rfl ?_
    exact n_iret rfl d_Mo_job_8 (⟨rfl, h.y⟩)
theorem gobI {j e : Wt} : gob j e = true ↔ (j.2.1.toInt < e.2.1.toInt ∨ (j.2.1.toInt = e.2.1.toInt ∧ j.2.2.toInt < e.2.2.toInt)) := by
  unfold gob
  rw [decide_eq_true_iff, Int32.lt_iff_toInt_lt, Int32.lt_iff_toInt_lt, Int32.toInt_inj]
def ltJ (J : List Wt) (i b : Nat) : Prop := ∃ x y, J[i]? = some x ∧ J[b]? = some y ∧ gob x y = true
def BestJ (J : List Wt) (i : Nat) (o : Option Nat) : Prop := BestP (fun k => k < J.length) (ltJ J) i o
theorem ltJ_irr {i : Nat} : ¬ ltJ J i i := fun ⟨x, y, h1, h2, h3⟩ => by
  rw [h1] at h2; cases h2
  rw [gobI] at h3; omega
theorem ltJ_as {i k : Nat} (h : ltJ J i k) : ¬ ltJ J k i := fun ⟨x, y, h1, h2, h3⟩ => by
  obtain ⟨x', y', h1', h2', h3'⟩ := h
  rw [h1] at h2'; cases h2'
  rw [h2] at h1'; cases h1'
  rw [gobI] at h3 h3'; omega
theorem ltJ_nt {i b k : Nat} (hk : k < J.length) (h : ltJ J i b) (h2 : ¬ ltJ J k b) : ltJ J i k := by
  obtain ⟨x, y, h1, h3, h4⟩ := h
  have e := List.getElem?_eq_getElem hk
  refine ⟨x, J[k], h1, e, ?_⟩
  rcases hg : gob x J[k] with _ | _
  · exfalso
    apply h2
    refine ⟨J[k], y, e, h3, ?_⟩
    have h5 : ¬ gob x J[k] = true := by rw [hg]; decide
    rw [gobI] at h4 h5 ⊢
    omega
  · rfl
theorem m_work (h : NS ar nm sc K ls f J C B W tp nw) : GN κ m_Mo_work (d + 1) m ad ar nm sc 0 [some (.ref m), none, none] [] (fun v ar' nm' sc' => ∃ o, BestJ J J.length o ∧ ((o = none ∧ v = some (.long 1099511627776) ∧ NY ar' nm' sc' (K + 1) f J C B W tp nw) ∨ ∃ b x, o = some b ∧ J[b]? = some x ∧ ((¬ x.2.2 ≤ nw ∧ v = some (.long 1099511627776) ∧ NY ar' nm' sc' (K + 1) f J C B W tp nw) ∨ (x.2.2 ≤ nw ∧ v = some (.long x.2.1.toInt64) ∧ ∃ tp', ni tp' = x.1 ∧ NY ar' nm' sc' (K + 1) f (J.eraseIdx b) C B W tp' nw)))) := by
  obtain ⟨hN, ht, ⟨j1, j2, j3, j4, j5⟩, hc, hb, hw, hp, hnw⟩ := id h
  have loop : ∀ q i o, i + q = J.length → BestJ J i o → GN κ m_Mo_work (d + 1) m ad ar nm sc 4 [some (.ref m), some (.int (oM o)), some (.int (nI i))] [] (fun v ar' nm' sc' => ∃ o, BestJ J J.length o ∧ ((o = none ∧ v = some (.long 1099511627776) ∧ NY ar' nm' sc' (K + 1) f J C B W tp nw) ∨ ∃ b x, o = some b ∧ J[b]? = some x ∧ ((¬ x.2.2 ≤ nw ∧ v = some (.long 1099511627776) ∧ NY ar' nm' sc' (K + 1) f J C B W tp nw) ∨ (x.2.2 ≤ nw ∧ v = some (.long x.2.1.toInt64) ∧ ∃ tp', ni tp' = x.1 ∧ NY ar' nm' sc' (K + 1) f (J.eraseIdx b) C B W tp' nw)))) := by
    intro q
    induction q with
    | zero =>
      intro i o hi hB
      have : i = J.length := by omega
      subst this
      refine n_seq s_Mo_work_4 rfl ?_
      refine n_gets f_Mo_126 d_Mo_work_6 rfl ?_
      rw [j1]
      refine n_icmp_ge (tgt := 69) d_Mo_work_9 (by decide) (fun hbr => ?_) (fun hbr => absurd hbr (fun h => h (nI_le (Nat.le_refl _) (by omega))))
      refine n_seq s_Mo_work_69 rfl ?_
      obtain _ | b := o
      · refine n_if_lt (tgt := 86) d_Mo_work_70 (by decide) (fun hbr => ?_) (fun hbr => absurd hbr (fun h => h (by decide)))
        refine n_ldc2 k_Mo_129 d_Mo_work_86  ?_
        exact n_lret rfl d_Mo_work_89 (⟨none, hB, Or.inl ⟨rfl, rfl, h.y⟩⟩)
      · have hbl := hB.1
        have hJb := List.getElem?_eq_getElem hbl
        generalize J[b] = x at hJb
        obtain ⟨nk, hnk, hv, hx⟩ := j3 b x hJb
        refine n_if_lt (tgt := 86) d_Mo_work_70 (by decide) (fun hbr => absurd hbr (nI_lt0 (by omega))) (fun hbr => ?_)
        refine n_seq s_Mo_work_73 rfl ?_
        refine n_geta f_Mo_54 d_Mo_work_74 (by decide) ?_
        refine n_seq s_Mo_work_77 rfl ?_
        refine n_ald d_Mo_work_78 ⟨by decide, by decide⟩ (rfl) ((show b < 30 by omega)) ?_
        rw [j5 b x hJb]
        refine n_seq s_Mo_work_79 rfl ?_
        refine n_gets f_Mo_96 d_Mo_work_80 rfl ?_
        rw [hnw]
        refine n_icmp_le (tgt := 90) d_Mo_work_83 (by decide) (fun h1 => ?_) (fun h1 => ?_)
        · skip
          refine n_seq s_Mo_work_90 rfl ?_
          refine n_geta f_Mo_51 d_Mo_work_91 (by decide) ?_
          refine n_seq s_Mo_work_94 rfl ?_
          refine n_ald d_Mo_work_95 ⟨by decide, by decide⟩ (rfl) ((show b < 30 by omega)) ?_
          rw [j4 b x hJb]
          refine n_seq s_Mo_work_96 rfl ?_
          refine n_geta f_Mo_48 d_Mo_work_99 (by decide) ?_
          refine n_seq s_Mo_work_102 rfl ?_
          refine n_ald d_Mo_work_103 ⟨by decide, by decide⟩ (rfl) ((show b < 30 by omega)) ?_
          rw [hv]
          refine n_invV l_Mo_123 d_Mo_work_104 rfl ⟨rfl, Nat.le_of_ble_eq_true rfl, Nat.le_of_ble_eq_true rfl⟩ (m_writeN h hnk) ?_
          rintro v ar' nm' sc' ⟨rfl, h2⟩
          refine n_seq s_Mo_work_107 rfl ?_
          refine n_invV l_Mo_131 d_Mo_work_109 rfl ⟨rfl, Nat.le_of_ble_eq_true rfl, Nat.le_of_ble_eq_true rfl⟩ (m_goneN h2 hbl) ?_
          rintro v ar' nm' sc' ⟨rfl, h3⟩
          refine n_seq s_Mo_work_112 rfl ?_
          exact n_lret rfl d_Mo_work_114 (⟨some b, hB, Or.inr ⟨b, x, rfl, hJb, Or.inr ⟨h1, rfl, ls nk, hx.symm, h3.y⟩⟩⟩)
        · skip
          refine n_ldc2 k_Mo_129 d_Mo_work_86  ?_
          exact n_lret rfl d_Mo_work_89 (⟨some b, hB, Or.inr ⟨b, x, rfl, hJb, Or.inl ⟨h1, rfl, h.y⟩⟩⟩)
    | succ q ih =>
      intro i o hi hB
      have hil : i < J.length := by omega
      have hJi := List.getElem?_eq_getElem hil
      generalize J[i] = x at hJi
      refine n_seq s_Mo_work_4 rfl ?_
      refine n_gets f_Mo_126 d_Mo_work_6 rfl ?_
      rw [j1]
      refine n_icmp_ge (tgt := 69) d_Mo_work_9 (by decide) (fun hbr => absurd hbr (nI_ge hil (by omega))) (fun hbr => ?_)
      refine n_seq s_Mo_work_12 rfl ?_
      obtain _ | b := o
      · refine n_if_lt (tgt := 61) d_Mo_work_13 (by decide) (fun hbr => ?_) (fun hbr => absurd hbr (fun h => h (by decide)))
        refine n_seq s_Mo_work_61 rfl ?_
        rw [nI_1]
        exact ih (i + 1) (some i) (by omega) (BestP.fst ltJ_irr hB hil)
      · have hbl := hB.1
        have hJb := List.getElem?_eq_getElem (l := J) (i := b) (by omega)
        generalize J[b] = y at hJb
        have new : gob x y = true → GN κ m_Mo_work (d + 1) m ad ar nm sc 61 [some (.ref m), some (.int (nI b)), some (.int (nI i))] [] (fun v ar' nm' sc' => ∃ o, BestJ J J.length o ∧ ((o = none ∧ v = some (.long 1099511627776) ∧ NY ar' nm' sc' (K + 1) f J C B W tp nw) ∨ ∃ b x, o = some b ∧ J[b]? = some x ∧ ((¬ x.2.2 ≤ nw ∧ v = some (.long 1099511627776) ∧ NY ar' nm' sc' (K + 1) f J C B W tp nw) ∨ (x.2.2 ≤ nw ∧ v = some (.long x.2.1.toInt64) ∧ ∃ tp', ni tp' = x.1 ∧ NY ar' nm' sc' (K + 1) f (J.eraseIdx b) C B W tp' nw)))) := by
          intro hg
          refine n_seq s_Mo_work_61 rfl ?_
          rw [nI_1]
          exact ih (i + 1) (some i) (by omega) (BestP.nw ltJ_irr (fun k hk => ltJ_nt hk) (fun k => ltJ_as) hB hil ⟨x, y, hJi, hJb, hg⟩)
        have old : ¬ gob x y = true → GN κ m_Mo_work (d + 1) m ad ar nm sc 63 [some (.ref m), some (.int (nI b)), some (.int (nI i))] [] (fun v ar' nm' sc' => ∃ o, BestJ J J.length o ∧ ((o = none ∧ v = some (.long 1099511627776) ∧ NY ar' nm' sc' (K + 1) f J C B W tp nw) ∨ ∃ b x, o = some b ∧ J[b]? = some x ∧ ((¬ x.2.2 ≤ nw ∧ v = some (.long 1099511627776) ∧ NY ar' nm' sc' (K + 1) f J C B W tp nw) ∨ (x.2.2 ≤ nw ∧ v = some (.long x.2.1.toInt64) ∧ ∃ tp', ni tp' = x.1 ∧ NY ar' nm' sc' (K + 1) f (J.eraseIdx b) C B W tp' nw)))) := by
          intro hg
          refine n_seq s_Mo_work_63 rfl ?_
          rw [nI_1]
          refine ih (i + 1) (some b) (by omega) (BestP.old hB (fun ⟨x', y', e1, e2, e3⟩ => ?_))
          rw [hJi] at e1; cases e1
          rw [hJb] at e2; cases e2
          exact hg e3
        refine n_if_lt (tgt := 61) d_Mo_work_13 (by decide) (fun hbr => absurd hbr (nI_lt0 (by omega))) (fun hbr => ?_)
        refine n_seq s_Mo_work_16 rfl ?_
        refine n_geta f_Mo_51 d_Mo_work_17 (by decide) ?_
        refine n_seq s_Mo_work_20 rfl ?_
        refine n_ald d_Mo_work_21 ⟨by decide, by decide⟩ (rfl) ((show i < 30 by omega)) ?_
        rw [j4 i x hJi]
        refine n_seq s_Mo_work_22 rfl ?_
        refine n_geta f_Mo_51 d_Mo_work_23 (by decide) ?_
        refine n_seq s_Mo_work_26 rfl ?_
        refine n_ald d_Mo_work_27 ⟨by decide, by decide⟩ (rfl) ((show b < 30 by omega)) ?_
        rw [j4 b y hJb]
        refine n_icmp_lt (tgt := 61) d_Mo_work_28 (by decide) (fun h1 => ?_) (fun h1 => ?_)
        · skip
          exact new (decide_eq_true (Or.inl h1))
        · skip
          refine n_seq s_Mo_work_31 rfl ?_
          refine n_geta f_Mo_51 d_Mo_work_32 (by decide) ?_
          refine n_seq s_Mo_work_35 rfl ?_
          refine n_ald d_Mo_work_36 ⟨by decide, by decide⟩ (rfl) ((show i < 30 by omega)) ?_
          rw [j4 i x hJi]
          refine n_seq s_Mo_work_37 rfl ?_
          refine n_geta f_Mo_51 d_Mo_work_38 (by decide) ?_
          refine n_seq s_Mo_work_41 rfl ?_
          refine n_ald d_Mo_work_42 ⟨by decide, by decide⟩ (rfl) ((show b < 30 by omega)) ?_
          rw [j4 b y hJb]
          refine n_icmp_ne (tgt := 63) d_Mo_work_43 (by decide) (fun h2 => ?_) (fun h2 => ?_)
          · skip
            exact old (fun e => (of_decide_eq_true e).elim h1 (fun e => h2 e.1))
          · skip
            refine n_seq s_Mo_work_46 rfl ?_
            refine n_geta f_Mo_54 d_Mo_work_47 (by decide) ?_
            refine n_seq s_Mo_work_50 rfl ?_
            refine n_ald d_Mo_work_51 ⟨by decide, by decide⟩ (rfl) ((show i < 30 by omega)) ?_
            rw [j5 i x hJi]
            refine n_seq s_Mo_work_52 rfl ?_
            refine n_geta f_Mo_54 d_Mo_work_53 (by decide) ?_
            refine n_seq s_Mo_work_56 rfl ?_
            refine n_ald d_Mo_work_57 ⟨by decide, by decide⟩ (rfl) ((show b < 30 by omega)) ?_
            rw [j5 b y hJb]
            refine n_icmp_ge (tgt := 63) d_Mo_work_58 (by decide) (fun h3 => ?_) (fun h3 => ?_)
            · skip
              exact old (fun e => (of_decide_eq_true e).elim h1 (fun e => absurd e.2 (Int32.not_lt.mpr h3)))
            · skip
              exact new (decide_eq_true (Or.inr ⟨h2, Int32.not_le.mp h3⟩))
  refine n_seq s_Mo_work_0 rfl ?_
  exact loop J.length 0 none (by omega) (fun k hk => absurd hk (Nat.not_lt_zero _))
theorem m_cancel (h : NS ar nm sc K ls f J C B W tp nw) (hK : K < 4000) : GN κ m_Mo_cancel (d + 2) m ad ar nm sc 0 [some (.ref m), none, none, none] [] (fun v ar' nm' sc' => (tp = [] ∧ v = some (.int (-1)) ∧ NY ar' nm' sc' (K + 1) f J C B W tp nw) ∨ (tp ≠ [] ∧ v = some (.int (nI (J.length - (J.filter (fun j : Wt => j.1 != ni tp)).length))) ∧ NY ar' nm' sc' (K + 1) f (J.filter (fun j : Wt => j.1 != ni tp)) C B W tp nw)) := by
  have hp := h.2.2.2.2.2.2.1
  refine n_seq s_Mo_cancel_0 rfl ?_
  refine n_gets f_Mo_75 d_Mo_cancel_1 rfl ?_
  refine n_if_ne (tgt := 9) d_Mo_cancel_4 (by decide) (fun h1 => ?_) (fun h1 => ?_)
  · skip
    have hne : tp ≠ [] := fun e => h1 ((tp_0 hp).mpr e)
    refine n_seq s_Mo_cancel_9 rfl ?_
    refine n_invV l_Mo_109 d_Mo_cancel_10 rfl ⟨rfl, Nat.le_of_ble_eq_true rfl, Nat.le_of_ble_eq_true rfl⟩ (m_here h hne hK) ?_
    rintro v ar' nm' sc' ⟨n, K', ls', h', hn, hls, rfl, hK'⟩
    have h30 := h'.2.2.1.2.1
    have loop : ∀ q (ar1 : Ar) (nm1 : Nat → Int64) (sc1 : Sc) (a : Nat), q ≤ J.length → NS ar1 nm1 sc1 K' ls' f (J.take q ++ (J.drop q).filter (fun j : Wt => j.1 != ni tp)) C B W tp nw → a + ((J.drop q).filter (fun j : Wt => j.1 != ni tp)).length = (J.drop q).length → GN κ m_Mo_cancel (d + 2) m ad ar1 nm1 sc1 23 [some (.ref m), some (.int (nI n)), some (.int (nI a)), some (.int (nI q + (-1)))] [] (fun v ar' nm' sc' => (tp = [] ∧ v = some (.int (-1)) ∧ NY ar' nm' sc' (K + 1) f J C B W tp nw) ∨ (tp ≠ [] ∧ v = some (.int (nI (J.length - (J.filter (fun j : Wt => j.1 != ni tp)).length))) ∧ NY ar' nm' sc' (K + 1) f (J.filter (fun j : Wt => j.1 != ni tp)) C B W tp nw)) := by
      intro q
      induction q with
      | zero =>
        intro ar1 nm1 sc1 a hq hS ha
        rw [List.take_zero, List.nil_append, List.drop_zero] at hS
        rw [List.drop_zero] at ha
        refine n_seq s_Mo_cancel_23 rfl ?_
        refine n_if_lt (tgt := 54) d_Mo_cancel_24 (by decide) (fun hbr => ?_) (fun hbr => absurd hbr (fun h => h (by decide)))
        refine n_seq s_Mo_cancel_54 rfl ?_
        exact n_iret rfl d_Mo_cancel_55 (Or.inr ⟨hne, by rw [show a = J.length - (J.filter (fun j : Wt => j.1 != ni tp)).length by omega], K', ls', hK', hS⟩)
      | succ q ih =>
        intro ar1 nm1 sc1 a hq hS ha
        have hql : q < J.length := by omega
        have hJq := List.getElem?_eq_getElem hql
        have hdr : J.drop q = J[q] :: J.drop (q + 1) := List.drop_eq_getElem_cons hql
        have htk : J.take (q + 1) = J.take q ++ [J[q]] := by rw [List.take_succ, hJq]; rfl
        generalize J[q] = x at hJq hdr htk
        have hlt : (J.take q).length = q := by rw [List.length_take]; omega
        have hat : (J.take (q + 1) ++ (J.drop (q + 1)).filter (fun j : Wt => j.1 != ni tp))[q]? = some x := by
          rw [htk, List.append_assoc, List.getElem?_append_right (by omega), hlt, Nat.sub_self]; rfl
        obtain ⟨hN, ht, ⟨j1, j2, j3, j4, j5⟩, hc, hb, hw, hp, hnw⟩ := id hS
        obtain ⟨k, hk, hv, hx⟩ := j3 q x hat
        have h40 := hN.2.1
        rw [pk_m1]
        refine n_seq s_Mo_cancel_23 rfl ?_
        refine n_if_lt (tgt := 54) d_Mo_cancel_24 (by decide) (fun hbr => absurd hbr (nI_lt0 (by omega))) (fun hbr => ?_)
        refine n_seq s_Mo_cancel_27 rfl ?_
        refine n_geta f_Mo_48 d_Mo_cancel_28 (by decide) ?_
        refine n_seq s_Mo_cancel_31 rfl ?_
        refine n_ald d_Mo_cancel_32 ⟨by decide, by decide⟩ (rfl) ((show q < 30 by omega)) ?_
        rw [hv]
        refine n_seq s_Mo_cancel_33 rfl ?_
        refine n_icmp_eq (tgt := 40) d_Mo_cancel_34 (by decide) (fun h2 => ?_) (fun h2 => ?_)
        · skip
          have hkn : k = n := (nI_eqI (by omega) (by omega)).mp h2
          subst hkn
          have hxt : (x.1 != ni tp) = false := by rw [hx, hls]; simp
          refine n_seq s_Mo_cancel_40 rfl ?_
          refine n_invV l_Mo_131 d_Mo_cancel_42 rfl ⟨rfl, Nat.le_of_ble_eq_true rfl, Nat.le_of_ble_eq_true rfl⟩ (m_goneN hS (by rw [List.length_append, List.length_take]; omega)) ?_
          rintro v ar2 nm2 sc2 ⟨rfl, hS2⟩
          refine n_seq s_Mo_cancel_45 rfl ?_
          rw [nI_1]
          have he : (J.take (q + 1) ++ (J.drop (q + 1)).filter (fun j : Wt => j.1 != ni tp)).eraseIdx q = J.take q ++ (J.drop q).filter (fun j : Wt => j.1 != ni tp) := by
            rw [htk, hdr, List.filter_cons_of_neg (by rw [hxt]; decide), List.append_assoc, List.eraseIdx_append_of_length_le (by omega), hlt, Nat.sub_self]; rfl
          rw [he] at hS2
          refine ih _ _ _ (a + 1) (by omega) hS2 ?_
          rw [hdr, List.filter_cons_of_neg (by rw [hxt]; decide), List.length_cons]
          omega
        · skip
          have hxt : (x.1 != ni tp) = true := by
            rw [hx, ← hls]
            refine bne_iff_ne.mpr (fun e => h2 ?_)
            have := hN.2.2.2 k n hk hn (ni_inj (hN.2.2.1 k hk).2.1 (hN.2.2.1 n hn).2.1 (hN.2.2.1 k hk).2.2.1 (hN.2.2.1 n hn).2.2.1 e)
            rw [this]
          refine n_seq s_Mo_cancel_37 rfl ?_
          refine ih _ _ _ a (by omega) ?_ ?_
          · rw [hdr, List.filter_cons_of_pos (p := fun j : Wt => j.1 != ni tp) hxt]
            rw [htk, List.append_assoc] at hS
            exact hS
          · rw [hdr, List.filter_cons_of_pos (p := fun j : Wt => j.1 != ni tp) hxt, List.length_cons, List.length_cons]
            omega
    refine n_seq s_Mo_cancel_13 rfl ?_
    refine n_gets f_Mo_126 d_Mo_cancel_17 rfl ?_
    rw [h'.2.2.1.1]
    refine n_seq s_Mo_cancel_20 rfl ?_
    rw [show nI J.length - 1 = nI J.length + (-1) from Int32.sub_eq_add_neg _ _]
    exact loop J.length _ _ _ 0 (Nat.le_refl _) (by rw [List.take_length, List.drop_length]; simpa using h') (by simp)
  · skip
    refine n_seq s_Mo_cancel_7 rfl ?_
    exact n_iret rfl d_Mo_cancel_8 (Or.inl ⟨(tp_0 hp).mp h1, rfl, h.y⟩)
end NP3
