theorem sm_rs (F : Nat → Nat) (i : Nat) : sm F (List.range (i + 1)) = sm F (List.range i) + F i := by
  unfold sm
  rw [List.range_succ, List.map_append, List.sum_append]; simp
section NP7
variable {κ : Nat × Nat} {d m : Nat} {ad : Nat → Nat} {ar : Ar} {nm : Nat → Int64} {sc : Sc} {K : Nat} {ls : Nat → List Nat} {f : Int32 → Th} {J : List Wt} {C : List (Int32 × Int32)} {B : Nat → List (Int32 × Int32)} {W : List Int32} {tp : List Nat} {nw : Int32} {T : List Th}
theorem sm_K {φ : Th → Nat} (h : NS ar nm sc K ls f J C B W tp nw) (hL : LK f T) (h0 : ∀ x, φ (newT x) = 0) : sm (fun k => φ (f (ni (ls k)))) (List.range K) = sm φ T := by
  have hL2 := hL
  obtain ⟨rfl, hn⟩ := hL
  obtain ⟨⟨n1, n2, n3, n4⟩, ⟨t1, t2, t3⟩, -⟩ := h
  refine (sm_T (g := fun k => ni (ls k)) h0 (fun k k' hk hk' e => n4 k k' hk hk' (ni_inj (n3 k hk).2.1 (n3 k' hk').2.1 (n3 k hk).2.2.1 (n3 k' hk').2.2.1 e)) hn (fun t ht hno => ?_)).symm
  have h2 := t2 t.1 hno
  obtain ⟨j, hj⟩ := List.getElem?_of_mem ht
  rw [hL2.at hj] at h2
  rw [h2]; exact h0 _
theorem wl_0 {ar : Ar} {k : Nat} {t : Th} (h : ThM ar k t) : ¬ ar 3 k ≤ 0 ↔ ¬ t.2.2.2.2.2 = 0 := by
  obtain ⟨-, ⟨wl, h2⟩, -⟩ := h
  have hl := h2.len
  obtain ⟨w1, w2, w3, w4, w5, q, hq, e⟩ := h2
  rw [w1]
  constructor
  · intro hn e0
    rcases hw : wl with _ | ⟨c, wl'⟩
    · rw [hw] at hn; exact hn (by decide)
    · have hc : c ∈ wl := by rw [hw]; exact List.mem_cons_self
      have := (w5 c (w3 c hc)).mpr hc
      rw [e0, wbit_z c (w3 c hc)] at this
      cases this
  · intro hn hle
    apply hn
    have h0 : wl = [] := by
      rcases hw : wl with _ | ⟨c, wl'⟩
      · rfl
      · rw [hw] at hle hl
        exact absurd hle (nI_nle (Nat.succ_pos _) (by omega))
    rw [e]
    have : q = 0 := by
      apply Nat.eq_of_testBit_eq
      intro c
      rw [Nat.zero_testBit]
      rcases Nat.lt_or_ge c 16 with hc | hc
      · have h1 : ¬ wbit (nI q) c = true := fun hb => by
          have := (w5 c hc).mp (by rw [e]; exact hb)
          rw [h0] at this; cases this
        rw [wbit_N hq hc] at h1
        rw [Nat.testBit_eq_decide_div_mod_eq]
        exact decide_eq_false h1
      · exact Nat.testBit_lt_two_pow (Nat.lt_of_lt_of_le hq (Nat.pow_le_pow_right (n := 2) (by decide) hc))
    rw [this]; rfl
theorem m_count {c : Int32} (h : NS ar nm sc K ls f J C B W tp nw) (hL : LK f T) (hK : K < 4000) : GN κ m_Mo_count (d + 2) m ad ar nm sc 0 [some (.ref m), some (.int c), none, none] [] (fun v ar' nm' sc' => NY ar' nm' sc' (K + 1) f J C B W tp nw ∧ ((c = 0 ∧ v = some (.int nw)) ∨ (c = 1 ∧ v = some (.int (nI (sm (fun t : Th => if lent t then 1 else 0) T)))) ∨ (c = 2 ∧ v = some (.int (nI (sm (fun t : Th => t.2.1.length) T)))) ∨ (c = 3 ∧ v = some (.int (nI J.length))) ∨ (c = 4 ∧ v = some (.int (nI C.length))) ∨ (c = 5 ∧ v = some (.int (nI (sm (fun t : Th => if t.2.2.2.2.2 = 0 then 0 else 1) T)))) ∨ (c = 6 ∧ v = some (.int (f (ni tp)).2.2.2.2.1)) ∨ (c = 7 ∧ v = some (.int (nI (sm (fun i => (B i).length) (List.range 16))))) ∨ ((c.toInt < 0 ∨ 7 < c.toInt) ∧ v = some (.int (-1))))) := by
  obtain ⟨hN, ht, hj, hc, hb, hw, hp, hnw⟩ := id h
  obtain ⟨n1, n2, n3, n4⟩ := id hN
  refine n_seq s_Mo_count_0 rfl ?_
  rcases c8 c with hc8 | rfl | rfl | rfl | rfl | rfl | rfl | rfl | rfl
  · refine n_tableOut (tgt := 196) d_Mo_count_3 hc8 (by decide) ?_
    refine n_seq s_Mo_count_196 rfl ?_
    exact n_iret rfl d_Mo_count_197 (⟨h.y, Or.inr (Or.inr (Or.inr (Or.inr (Or.inr (Or.inr (Or.inr (Or.inr ⟨hc8, rfl⟩)))))))⟩)
  · refine n_tableIn (tgt := 48) d_Mo_count_3 (by decide) (by decide) (off := 45) (by decide) (by decide) ?_
    refine n_seq s_Mo_count_48 rfl ?_
    refine n_gets f_Mo_96 d_Mo_count_49 rfl ?_
    exact n_iret rfl d_Mo_count_52 (⟨h.y, Or.inl ⟨rfl, by rw [hnw]⟩⟩)
  · refine n_tableIn (tgt := 53) d_Mo_count_3 (by decide) (by decide) (off := 50) (by decide) (by decide) ?_
    have hs := sm_K (φ := fun t : Th => if lent t then 1 else 0) h hL (fun _ => rfl)
    have loop : ∀ q i, i + q = K → GN κ m_Mo_count (d + 2) m ad ar nm sc 55 [some (.ref m), some (.int 1), some (.int (nI (sm (fun k => if lent (f (ni (ls k))) then 1 else 0) (List.range i)))), some (.int (nI i))] [] (fun v ar' nm' sc' => NY ar' nm' sc' (K + 1) f J C B W tp nw ∧ v = some (.int (nI (sm (fun t : Th => if lent t then 1 else 0) T)))) := by
      intro q
      induction q with
      | zero =>
        intro i hi
        have : i = K := by omega
        subst this
        refine n_seq s_Mo_count_55 rfl ?_
        refine n_gets f_Mo_85 d_Mo_count_57 rfl ?_
        rw [n1]
        refine n_icmp_ge (tgt := 81) d_Mo_count_60 (by decide) (fun hbr => ?_) (fun hbr => absurd hbr (fun h => h (nI_le (Nat.le_refl _) (by omega))))
        refine n_seq s_Mo_count_81 rfl ?_
        exact n_iret rfl d_Mo_count_82 (⟨h.y, by rw [← hs]⟩)
      | succ q ih =>
        intro i hi
        have hT := ht.1 i (by omega)
        have hih := ih (i + 1) (by omega)
        rw [sm_rs] at hih
        refine n_seq s_Mo_count_55 rfl ?_
        refine n_gets f_Mo_85 d_Mo_count_57 rfl ?_
        rw [n1]
        refine n_icmp_ge (tgt := 81) d_Mo_count_60 (by decide) (fun hbr => absurd hbr (nI_ge (by omega) (by omega))) (fun hbr => ?_)
        refine n_seq s_Mo_count_63 rfl ?_
        refine n_geta f_Mo_27 d_Mo_count_64 (by decide) ?_
        refine n_seq s_Mo_count_67 rfl ?_
        refine n_ald d_Mo_count_68 ⟨by decide, by decide⟩ (rfl) ((show i < 4200 by omega)) ?_
        refine n_if_lt (tgt := 75) d_Mo_count_69 (by decide) (fun h1 => ?_) (fun h1 => ?_)
        · skip
          rw [if_neg (by rw [(hoM_lt hT).mp h1]; decide)] at hih
          refine n_seq s_Mo_count_75 rfl ?_
          rw [nI_1]
          exact hih
        · skip
          rw [if_pos ((hoM_ge hT).mp (Int32.not_lt.mp h1))] at hih
          refine n_seq s_Mo_count_72 rfl ?_
          rw [nI_1, nI_1]
          exact hih
    refine n_seq s_Mo_count_53 rfl ?_
    exact n_mono (loop K 0 (by omega)) (fun v a n s hh => ⟨hh.1, Or.inr (Or.inl ⟨rfl, hh.2⟩)⟩)
  · refine n_tableIn (tgt := 83) d_Mo_count_3 (by decide) (by decide) (off := 80) (by decide) (by decide) ?_
    have hs := sm_K (φ := fun t : Th => t.2.1.length) h hL (fun _ => rfl)
    have loop : ∀ q i, i + q = K → GN κ m_Mo_count (d + 2) m ad ar nm sc 85 [some (.ref m), some (.int 2), some (.int (nI (sm (fun k => (f (ni (ls k))).2.1.length) (List.range i)))), some (.int (nI i))] [] (fun v ar' nm' sc' => NY ar' nm' sc' (K + 1) f J C B W tp nw ∧ v = some (.int (nI (sm (fun t : Th => t.2.1.length) T)))) := by
      intro q
      induction q with
      | zero =>
        intro i hi
        have : i = K := by omega
        subst this
        refine n_seq s_Mo_count_85 rfl ?_
        refine n_gets f_Mo_85 d_Mo_count_87 rfl ?_
        rw [n1]
        refine n_icmp_ge (tgt := 108) d_Mo_count_90 (by decide) (fun hbr => ?_) (fun hbr => absurd hbr (fun h => h (nI_le (Nat.le_refl _) (by omega))))
        refine n_seq s_Mo_count_108 rfl ?_
        exact n_iret rfl d_Mo_count_109 (⟨h.y, by rw [← hs]⟩)
      | succ q ih =>
        intro i hi
        have hT := ht.1 i (by omega)
        have hih := ih (i + 1) (by omega)
        rw [sm_rs] at hih
        refine n_seq s_Mo_count_85 rfl ?_
        refine n_gets f_Mo_85 d_Mo_count_87 rfl ?_
        rw [n1]
        refine n_icmp_ge (tgt := 108) d_Mo_count_90 (by decide) (fun hbr => absurd hbr (nI_ge (by omega) (by omega))) (fun hbr => ?_)
        refine n_seq s_Mo_count_93 rfl ?_
        refine n_geta f_Mo_33 d_Mo_count_95 (by decide) ?_
        refine n_seq s_Mo_count_98 rfl ?_
        refine n_ald d_Mo_count_99 ⟨by decide, by decide⟩ (rfl) ((show i < 4200 by omega)) ?_
        rw [hT.2.2.2.2.2.1]
        refine n_seq s_Mo_count_100 rfl ?_
        rw [nI_1, nI_add]
        exact hih
    refine n_seq s_Mo_count_83 rfl ?_
    exact n_mono (loop K 0 (by omega)) (fun v a n s hh => ⟨hh.1, Or.inr (Or.inr (Or.inl ⟨rfl, hh.2⟩))⟩)
  · refine n_tableIn (tgt := 110) d_Mo_count_3 (by decide) (by decide) (off := 107) (by decide) (by decide) ?_
    refine n_seq s_Mo_count_110 rfl ?_
    refine n_gets f_Mo_126 d_Mo_count_111 rfl ?_
    exact n_iret rfl d_Mo_count_114 (⟨h.y, Or.inr (Or.inr (Or.inr (Or.inl ⟨rfl, by rw [hj.1]⟩)))⟩)
  · refine n_tableIn (tgt := 115) d_Mo_count_3 (by decide) (by decide) (off := 112) (by decide) (by decide) ?_
    refine n_seq s_Mo_count_115 rfl ?_
    refine n_gets f_Mo_134 d_Mo_count_116 rfl ?_
    exact n_iret rfl d_Mo_count_119 (⟨h.y, Or.inr (Or.inr (Or.inr (Or.inr (Or.inl ⟨rfl, by rw [hc.1]⟩))))⟩)
  · refine n_tableIn (tgt := 120) d_Mo_count_3 (by decide) (by decide) (off := 117) (by decide) (by decide) ?_
    have hs := sm_K (φ := fun t : Th => if t.2.2.2.2.2 = 0 then 0 else 1) h hL (fun _ => rfl)
    have loop : ∀ q i, i + q = K → GN κ m_Mo_count (d + 2) m ad ar nm sc 122 [some (.ref m), some (.int 5), some (.int (nI (sm (fun k => if (f (ni (ls k))).2.2.2.2.2 = 0 then 0 else 1) (List.range i)))), some (.int (nI i))] [] (fun v ar' nm' sc' => NY ar' nm' sc' (K + 1) f J C B W tp nw ∧ v = some (.int (nI (sm (fun t : Th => if t.2.2.2.2.2 = 0 then 0 else 1) T)))) := by
      intro q
      induction q with
      | zero =>
        intro i hi
        have : i = K := by omega
        subst this
        refine n_seq s_Mo_count_122 rfl ?_
        refine n_gets f_Mo_85 d_Mo_count_124 rfl ?_
        rw [n1]
        refine n_icmp_ge (tgt := 148) d_Mo_count_127 (by decide) (fun hbr => ?_) (fun hbr => absurd hbr (fun h => h (nI_le (Nat.le_refl _) (by omega))))
        refine n_seq s_Mo_count_148 rfl ?_
        exact n_iret rfl d_Mo_count_149 (⟨h.y, by rw [← hs]⟩)
      | succ q ih =>
        intro i hi
        have hT := ht.1 i (by omega)
        have hih := ih (i + 1) (by omega)
        rw [sm_rs] at hih
        refine n_seq s_Mo_count_122 rfl ?_
        refine n_gets f_Mo_85 d_Mo_count_124 rfl ?_
        rw [n1]
        refine n_icmp_ge (tgt := 148) d_Mo_count_127 (by decide) (fun hbr => absurd hbr (nI_ge (by omega) (by omega))) (fun hbr => ?_)
        refine n_seq s_Mo_count_130 rfl ?_
        refine n_geta f_Mo_20 d_Mo_count_131 (by decide) ?_
        refine n_seq s_Mo_count_134 rfl ?_
        refine n_ald d_Mo_count_135 ⟨by decide, by decide⟩ (rfl) ((show i < 4200 by omega)) ?_
        refine n_if_le (tgt := 142) d_Mo_count_136 (by decide) (fun h1 => ?_) (fun h1 => ?_)
        · skip
          rw [if_pos (Classical.byContradiction (fun e => (wl_0 hT).mpr e h1))] at hih
          refine n_seq s_Mo_count_142 rfl ?_
          rw [nI_1]
          exact hih
        · skip
          rw [if_neg ((wl_0 hT).mp h1)] at hih
          refine n_seq s_Mo_count_139 rfl ?_
          rw [nI_1, nI_1]
          exact hih
    refine n_seq s_Mo_count_120 rfl ?_
    exact n_mono (loop K 0 (by omega)) (fun v a n s hh => ⟨hh.1, Or.inr (Or.inr (Or.inr (Or.inr (Or.inr (Or.inl ⟨rfl, hh.2⟩)))))⟩)
  · refine n_tableIn (tgt := 150) d_Mo_count_3 (by decide) (by decide) (off := 147) (by decide) (by decide) ?_
    refine n_seq s_Mo_count_150 rfl ?_
    refine n_gets f_Mo_75 d_Mo_count_151 rfl ?_
    refine n_if_ne (tgt := 161) d_Mo_count_154 (by decide) (fun h1 => ?_) (fun h1 => ?_)
    · skip
      have hne : tp ≠ [] := fun e => h1 ((tp_0 hp).mpr e)
      refine n_seq s_Mo_count_161 rfl ?_
      refine n_geta f_Mo_17 d_Mo_count_162 (by decide) ?_
      refine n_seq s_Mo_count_165 rfl ?_
      refine n_invV l_Mo_109 d_Mo_count_166 rfl ⟨rfl, Nat.le_of_ble_eq_true rfl, Nat.le_of_ble_eq_true rfl⟩ (m_here h hne hK) ?_
      rintro v ar' nm' sc' ⟨n, K', ls', h', hn, hls, rfl, hK'⟩
      have hT := h'.2.1.1 n hn
      rw [hls] at hT
      have h40 := h'.1.2.1
      refine n_ald d_Mo_count_169 ⟨by decide, by decide⟩ (rfl) ((show n < 4200 by omega)) ?_
      rw [hT.1]
      exact n_iret rfl d_Mo_count_170 (⟨⟨K', ls', hK', h'⟩, Or.inr (Or.inr (Or.inr (Or.inr (Or.inr (Or.inr (Or.inl ⟨rfl, rfl⟩))))))⟩)
    · skip
      have he := (tp_0 hp).mp h1
      have h2 : f (ni tp) = newT (ni tp) := ht.2.1 _ (fun k hk e => (n3 k hk).2.2.2 (by
        rw [he] at e
        exact (ni_inj (fun _ h => by cases h) (n3 k hk).2.1 (Nat.zero_le _) (n3 k hk).2.2.1 e).symm))
      refine n_seq s_Mo_count_157 rfl ?_
      exact n_iret rfl d_Mo_count_170 (⟨h.y, Or.inr (Or.inr (Or.inr (Or.inr (Or.inr (Or.inr (Or.inl ⟨rfl, by rw [h2]; rfl⟩))))))⟩)
  · refine n_tableIn (tgt := 171) d_Mo_count_3 (by decide) (by decide) (off := 168) (by decide) (by decide) ?_
    have loop : ∀ q i, i + q = 16 → GN κ m_Mo_count (d + 2) m ad ar nm sc 173 [some (.ref m), some (.int 7), some (.int (nI (sm (fun i => (B i).length) (List.range i)))), some (.int (nI i))] [] (fun v ar' nm' sc' => NY ar' nm' sc' (K + 1) f J C B W tp nw ∧ v = some (.int (nI (sm (fun i => (B i).length) (List.range 16))))) := by
      intro q
      induction q with
      | zero =>
        intro i hi
        have : i = 16 := by omega
        subst this
        refine n_seq s_Mo_count_173 rfl ?_
        refine n_icmp_ge (tgt := 194) d_Mo_count_176 (by decide) (fun hbr => ?_) (fun hbr => absurd hbr (fun h => h (nI_le (Nat.le_refl 16) (by omega))))
        refine n_seq s_Mo_count_194 rfl ?_
        exact n_iret rfl d_Mo_count_195 (⟨h.y, rfl⟩)
      | succ q ih =>
        intro i hi
        have hih := ih (i + 1) (by omega)
        rw [sm_rs] at hih
        refine n_seq s_Mo_count_173 rfl ?_
        refine n_icmp_ge (tgt := 194) d_Mo_count_176 (by decide) (fun hbr => absurd hbr (nI_ge (b := 16) (by omega) (by omega))) (fun hbr => ?_)
        refine n_seq s_Mo_count_179 rfl ?_
        refine n_geta f_Mo_69 d_Mo_count_181 (by decide) ?_
        refine n_seq s_Mo_count_184 rfl ?_
        refine n_ald d_Mo_count_185 ⟨by decide, by decide⟩ (rfl) ((show i < 16 by omega)) ?_
        rw [(hb i (by omega)).1]
        refine n_seq s_Mo_count_186 rfl ?_
        rw [nI_1, nI_add]
        exact hih
    refine n_seq s_Mo_count_171 rfl ?_
    exact n_mono (loop 16 0 (by omega)) (fun v a n s hh => ⟨hh.1, Or.inr (Or.inr (Or.inr (Or.inr (Or.inr (Or.inr (Or.inr (Or.inl ⟨rfl, hh.2⟩)))))))⟩)
end NP7
