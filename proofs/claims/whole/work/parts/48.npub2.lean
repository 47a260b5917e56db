section NP2
variable {κ : Nat × Nat} {d m : Nat} {ad : Nat → Nat} {ar : Ar} {nm : Nat → Int64} {sc : Sc} {K : Nat} {ls : Nat → List Nat} {f : Int32 → Th} {J : List Wt} {C : List (Int32 × Int32)} {B : Nat → List (Int32 × Int32)} {W : List Int32} {tp : List Nat} {nw : Int32}
theorem c16_of {c : Int32} (h : 0 ≤ c ∧ c < 16) : ∃ i, i < 16 ∧ c = nI i := by
  obtain ⟨i, h1, h2⟩ := nI_of (Int32.not_lt.mpr h.1)
  subst h2
  exact ⟨i, (nI_ltI (b := 16) h1 (by decide)).mp h.2, rfl⟩
theorem c16_ne : ∀ i, i < 16 → (nI i ≠ -2 ∧ nI i ≠ -1 ∧ 0 ≤ nI i) := by decide
theorem lent_c {t : Th} {c : Int32} (hc : 0 ≤ c ∧ c < 16) (h : t.2.2.1 = c) : lent t = true := by
  obtain ⟨i, hi, rfl⟩ := c16_of hc
  unfold lent
  rw [h]
  have : ∀ i, i < 16 → (nI i != -2) = true := by decide
  exact this i hi
theorem hoM_eq {ar : Ar} {k : Nat} {t : Th} {c : Int32} (h : ThM ar k t) (hc : 0 ≤ c ∧ c < 16) : ar 5 k = c ↔ t.2.2.1 = c := by
  obtain ⟨i, hi, rfl⟩ := c16_of hc
  obtain ⟨-, -, a3, a4, -⟩ := h
  rw [a3]
  unfold hoM
  obtain ⟨e1, e2, -⟩ := c16_ne i hi
  by_cases h2 : t.2.2.1 = -2
  · rw [if_pos h2, h2]
    exact ⟨fun e => absurd e.symm e2, fun e => absurd e.symm e1⟩
  · rw [if_neg h2]
theorem lendM {n : Nat} {c tk : Int32} (h : NS ar nm sc K ls f J C B W tp nw) (hn : n < K) (hc : 0 ≤ c ∧ c < 16) (hx : ls n = tp) : NS (arS ar [(5, upd (ar 5) n c), (6, upd (ar 6) n (nw + tk))]) nm sc K ls (fU f (ni tp) ((f (ni tp)).1, (f (ni tp)).2.1, c, nw + tk, (f (ni tp)).2.2.2.2)) J C B W tp nw := by
  obtain ⟨hN, ht, hj, hcc, hb, hw, hp, hnw⟩ := id h
  obtain ⟨a1, a2, a3, a4, a5, a6, a7, a8, a9, a10, a11⟩ := ht.1 n hn
  have hx1 := ht.2.2 (ni tp)
  obtain ⟨i, hi, rfl⟩ := c16_of hc
  subst hx
  refine ⟨hN, MT.upd ht hN hn (fun k hk hkn => ⟨rfl, rfl, pk_un hkn, pk_un hkn, rfl, fun _ _ => rfl, fun _ _ => ⟨rfl, rfl, rfl⟩⟩) ?_ hx1, hj, hcc, hb, hw, hp, hnw⟩
  refine ⟨a1, a2, pk_us.trans ?_, Or.inr ⟨i, hi, rfl⟩, fun _ => pk_us, a6, a7, a8, a9, a10, a11⟩
  unfold hoM
  rw [if_neg (c16_ne i hi).1]
theorem m_want {c tk : Int32} (h : NS ar nm sc K ls f J C B W tp nw) (hK : K < 4000) : GN κ m_Mo_want (d + 2) m ad ar nm sc 0 [some (.ref m), some (.int c), some (.int tk), none, none] [] (fun v ar' nm' sc' => v = some (.int (wantS tp nw c tk (f (ni tp)) B).1) ∧ NY ar' nm' sc' (K + 1) (fU f (ni tp) (wantS tp nw c tk (f (ni tp)) B).2.1) J C (wantS tp nw c tk (f (ni tp)) B).2.2 W tp nw) := by
  have hp := h.2.2.2.2.2.2.1
  unfold wantS
  have bad : ¬ (okC tp c ∧ okK tk) → GN κ m_Mo_want (d + 2) m ad ar nm sc 25 [some (.ref m), some (.int c), some (.int tk), none, none] [] (fun v ar' nm' sc' => v = some (.int (wantS tp nw c tk (f (ni tp)) B).1) ∧ NY ar' nm' sc' (K + 1) (fU f (ni tp) (wantS tp nw c tk (f (ni tp)) B).2.1) J C (wantS tp nw c tk (f (ni tp)) B).2.2 W tp nw) := by
    intro hb
    unfold wantS
    rw [if_neg hb]
    refine n_seq s_Mo_want_25 rfl ?_
    exact n_iret rfl d_Mo_want_26 (⟨rfl, h.yU (by omega)⟩)
  unfold wantS at bad
  refine n_seq s_Mo_want_0 rfl ?_
  refine n_gets f_Mo_75 d_Mo_want_1 rfl ?_
  refine n_if_eq (tgt := 25) d_Mo_want_4 (by decide) (fun h1 => ?_) (fun h1 => ?_)
  · skip
    exact bad (fun q => q.1.1 ((tp_0 hp).mp h1))
  · skip
    have hne : tp ≠ [] := fun e => h1 ((tp_0 hp).mpr e)
    refine n_seq s_Mo_want_7 rfl ?_
    refine n_invS l_Mo_105 d_Mo_want_8 rfl ⟨rfl, Nat.le_of_ble_eq_true rfl, Nat.le_of_ble_eq_true rfl⟩ (fun M => m_isClient) ?_
    rintro v rfl
    refine n_if_eq (tgt := 25) d_Mo_want_11 (by decide) (fun h2 => ?_) (fun h2 => ?_)
    · skip
      exact bad (fun q => of_decide_eq_false (b2i_0.mp h2) q.1.2)
    · skip
      have hc := of_decide_eq_true (b2i_n.mp h2)
      refine n_seq s_Mo_want_14 rfl ?_
      refine n_icmp_lt (tgt := 25) d_Mo_want_16 (by decide) (fun h3 => ?_) (fun h3 => ?_)
      · skip
        exact bad (fun q => absurd h3 (Int32.not_lt.mpr q.2.1))
      · skip
        refine n_seq s_Mo_want_19 rfl ?_
        refine n_icmp_le (tgt := 27) d_Mo_want_22 (by decide) (fun h4 => ?_) (fun h4 => ?_)
        · skip
          rw [if_pos ⟨⟨hne, hc⟩, Int32.not_lt.mp h3, h4⟩]
          refine n_seq s_Mo_want_27 rfl ?_
          refine n_invV l_Mo_109 d_Mo_want_28 rfl ⟨rfl, Nat.le_of_ble_eq_true rfl, Nat.le_of_ble_eq_true rfl⟩ (m_here h hne hK) ?_
          rintro v ar' nm' sc' ⟨n, K', ls', h', hn, hls, rfl, hK'⟩
          have hT := h'.2.1.1 n hn
          rw [hls] at hT
          have h40 := h'.1.2.1
          have hnw := h'.2.2.2.2.2.2.2
          have hx1 := h'.2.1.2.2 (ni tp)
          have hn42 : n < 4200 := by omega
          refine n_seq s_Mo_want_31 rfl ?_
          refine n_geta f_Mo_27 d_Mo_want_33 (by decide) ?_
          refine n_seq s_Mo_want_36 rfl ?_
          refine n_ald d_Mo_want_37 ⟨by decide, by decide⟩ (rfl) (hn42) ?_
          refine n_if_ge (tgt := 68) d_Mo_want_38 (by decide) (fun h5 => ?_) (fun h5 => ?_)
          · skip
            have hl := (hoM_ge hT).mp h5
            rw [if_pos hl]
            have fin : ∀ u, ((f (ni tp)).2.2.1 = c ∨ (f (ni tp)).2.1.any (fun w => w.1 == c) = true) → GN κ m_Mo_want (d + 2) m ad ar' nm' sc' 87 [some (.ref m), some (.int c), some (.int tk), some (.int (nI n)), u] [] (fun v ar' nm' sc' => v = some (.int (if (f (ni tp)).2.2.1 = c ∨ (f (ni tp)).2.1.any (fun w => w.1 == c) = true then (-2, f (ni tp), B) else if (f (ni tp)).2.1.length = 5 then (-3, f (ni tp), B) else (nI ((f (ni tp)).2.1.length + 1), addW (f (ni tp)) (c, tk, nw), B)).1) ∧ NY ar' nm' sc' (K + 1) (fU f (ni tp) (if (f (ni tp)).2.2.1 = c ∨ (f (ni tp)).2.1.any (fun w => w.1 == c) = true then (-2, f (ni tp), B) else if (f (ni tp)).2.1.length = 5 then (-3, f (ni tp), B) else (nI ((f (ni tp)).2.1.length + 1), addW (f (ni tp)) (c, tk, nw), B)).2.1) J C (if (f (ni tp)).2.2.1 = c ∨ (f (ni tp)).2.1.any (fun w => w.1 == c) = true then (-2, f (ni tp), B) else if (f (ni tp)).2.1.length = 5 then (-3, f (ni tp), B) else (nI ((f (ni tp)).2.1.length + 1), addW (f (ni tp)) (c, tk, nw), B)).2.2 W tp nw) := by
              intro u hi
              rw [if_pos hi]
              refine n_seq s_Mo_want_87 rfl ?_
              exact n_iret rfl d_Mo_want_89 (⟨rfl, h'.yU hK'⟩)
            refine n_seq s_Mo_want_68 rfl ?_
            refine n_geta f_Mo_27 d_Mo_want_69 (by decide) ?_
            refine n_seq s_Mo_want_72 rfl ?_
            refine n_ald d_Mo_want_73 ⟨by decide, by decide⟩ (rfl) (hn42) ?_
            refine n_seq s_Mo_want_74 rfl ?_
            refine n_icmp_eq (tgt := 87) d_Mo_want_75 (by decide) (fun h6 => ?_) (fun h6 => ?_)
            · skip
              exact fin _ (Or.inl ((hoM_eq hT hc).mp h6))
            · skip
              obtain ⟨a1, a2, a3, a4, a5, a6, a7, a8, a9, a10, a11⟩ := id hT
              refine n_seq s_Mo_want_78 rfl ?_
              refine n_invV l_Mo_113 d_Mo_want_81 rfl ⟨rfl, Nat.le_of_ble_eq_true rfl, Nat.le_of_ble_eq_true rfl⟩ (m_place hn42 a6 a7 (fun j w hj => a8 j w hj)) ?_
              rintro v ar'' nm'' sc'' ⟨rfl, rfl, rfl, o, hFI, rfl⟩
              have hany := FI_any hFI
              refine n_if_lt (tgt := 90) d_Mo_want_84 (by decide) (fun h7 => ?_) (fun h7 => ?_)
              · skip
                obtain _ | j := o
                · have hi : ¬ ((f (ni tp)).2.2.1 = c ∨ (f (ni tp)).2.1.any (fun w => w.1 == c) = true) := fun q => q.elim (fun q => h6 ((hoM_eq hT hc).mpr q)) (fun q => by rw [hany] at q; cases q)
                  rw [if_neg hi]
                  refine n_seq s_Mo_want_90 rfl ?_
                  refine n_geta f_Mo_33 d_Mo_want_91 (by decide) ?_
                  refine n_seq s_Mo_want_94 rfl ?_
                  refine n_ald d_Mo_want_95 ⟨by decide, by decide⟩ (rfl) (hn42) ?_
                  rw [a6]
                  refine n_seq s_Mo_want_96 rfl ?_
                  refine n_icmp_ne (tgt := 103) d_Mo_want_97 (by decide) (fun h8 => ?_) (fun h8 => ?_)
                  · skip
                    have h5 : ¬ (f (ni tp)).2.1.length = 5 := fun e => h8 (by rw [e]; rfl)
                    rw [if_neg h5]
                    have hst : ar'' = arS ar'' [(7, ar'' 7), (8, ar'' 8), (9, ar'' 9), (10, ar'' 10)] := arS_id _ (by simp)
                    have hm : (5 : Int32) * nI n = nI (5 * n) := pk_mul 5 n
                    refine n_st hst ?_
                    refine n_seq s_Mo_want_103 rfl ?_
                    refine n_geta f_Mo_33 d_Mo_want_107 (by decide) ?_
                    refine n_seq s_Mo_want_110 rfl ?_
                    refine n_aldL d_Mo_want_112 ⟨by decide, by decide⟩ rfl (rfl) (hn42) ?_
                    rw [a6]
                    refine n_seq s_Mo_want_113 rfl ?_
                    rw [nI_1]
                    refine n_astL d_Mo_want_116 ⟨by decide, by decide⟩ rfl (rfl) (hn42) ?_
                    refine n_seq s_Mo_want_117 rfl ?_
                    rw [n5]
                    refine n_geta f_Mo_36 d_Mo_want_121 (by decide) ?_
                    refine n_seq s_Mo_want_124 rfl ?_
                    refine n_astL d_Mo_want_127 ⟨by decide, by decide⟩ rfl (rfl) ((show 5 * n + (f (ni tp)).2.1.length < 21000 by omega)) ?_
                    refine n_seq s_Mo_want_128 rfl ?_
                    refine n_geta f_Mo_39 d_Mo_want_129 (by decide) ?_
                    refine n_seq s_Mo_want_132 rfl ?_
                    refine n_astL d_Mo_want_135 ⟨by decide, by decide⟩ rfl (rfl) ((show 5 * n + (f (ni tp)).2.1.length < 21000 by omega)) ?_
                    refine n_seq s_Mo_want_136 rfl ?_
                    refine n_geta f_Mo_42 d_Mo_want_137 (by decide) ?_
                    refine n_seq s_Mo_want_140 rfl ?_
                    refine n_gets f_Mo_96 d_Mo_want_143 rfl ?_
                    rw [hnw]
                    refine n_astL d_Mo_want_146 ⟨by decide, by decide⟩ rfl (rfl) ((show 5 * n + (f (ni tp)).2.1.length < 21000 by omega)) ?_
                    refine n_seq s_Mo_want_147 rfl ?_
                    refine n_geta f_Mo_33 d_Mo_want_148 (by decide) ?_
                    refine n_seq s_Mo_want_151 rfl ?_
                    refine n_aldL d_Mo_want_152 ⟨by decide, by decide⟩ rfl (rfl) (hn42) ?_
                    rw [pk_us]
                    refine n_iret rfl d_Mo_want_153 ⟨rfl, K', ls', hK', ?_⟩
                    obtain ⟨hN, ht, hj, hcc, hb, hw, hp, hnw⟩ := id h'
                    subst hls
                    refine ⟨hN, MT.upd ht hN hn (fun k hk hkn => ⟨rfl, rfl, rfl, rfl, pk_un hkn, fun _ _ => rfl, fun j hj => ⟨pk_un (by omega), pk_un (by omega), pk_un (by omega)⟩⟩) ?_ hx1, hj, hcc, hb, hw, hp, hnw⟩
                    refine ⟨a1, a2, a3, a4, a5, pk_us.trans (by simp [addW]), by simp [addW]; omega, a8.snoc (fun j hj => pk_un (by omega)) pk_us, a9.snoc (fun j hj => pk_un (by omega)) pk_us, a10.snoc (fun j hj => pk_un (by omega)) pk_us, fun w hw => ?_⟩
                    rcases List.mem_append.mp hw with hw | hw
                    · exact a11 w hw
                    · rw [List.mem_singleton.mp hw]
                      exact c16_of hc
                  · skip
                    have h5 : (f (ni tp)).2.1.length = 5 := (nI_eq (b := 5) (by omega) (by decide)).mp h8
                    rw [if_pos h5]
                    refine n_seq s_Mo_want_100 rfl ?_
                    exact n_iret rfl d_Mo_want_102 (⟨rfl, h'.yU hK'⟩)
                · exact absurd h7 (nI_lt0 (by obtain ⟨w, hw, -⟩ := hFI; have := (List.getElem?_eq_some_iff.mp hw).1; omega))
              · skip
                obtain _ | j := o
                · exact absurd (by decide) h7
                · exact fin _ (Or.inr (by rw [hany]; rfl))
          · skip
            have hl := (hoM_lt hT).mp (Int32.not_le.mp h5)
            rw [if_neg (by rw [hl]; decide)]
            have hst : ar' = arS ar' [(5, ar' 5), (6, ar' 6)] := arS_id _ (by simp)
            refine n_st hst ?_
            refine n_seq s_Mo_want_41 rfl ?_
            refine n_geta f_Mo_27 d_Mo_want_42 (by decide) ?_
            refine n_seq s_Mo_want_45 rfl ?_
            refine n_astL d_Mo_want_47 ⟨by decide, by decide⟩ rfl (rfl) (hn42) ?_
            refine n_seq s_Mo_want_48 rfl ?_
            refine n_geta f_Mo_30 d_Mo_want_49 (by decide) ?_
            refine n_seq s_Mo_want_52 rfl ?_
            refine n_gets f_Mo_96 d_Mo_want_54 rfl ?_
            rw [hnw]
            refine n_seq s_Mo_want_57 rfl ?_
            refine n_astL d_Mo_want_59 ⟨by decide, by decide⟩ rfl (rfl) (hn42) ?_
            refine n_seq s_Mo_want_60 rfl ?_
            have hch := m_change (κ := κ) (d := d) (m := m) (ad := ad) (kind := 1) (lendM (tk := tk) h' hn hc hls) hn
            rw [hls, fU_s, fU_fU] at hch
            refine n_invV l_Mo_92 d_Mo_want_63 rfl ⟨rfl, Nat.le_of_ble_eq_true rfl, Nat.le_of_ble_eq_true rfl⟩ (hch) ?_
            rintro v ar'' nm'' sc'' ⟨rfl, rfl, rfl, h2⟩
            refine n_seq s_Mo_want_66 rfl ?_
            exact n_iret rfl d_Mo_want_67 (⟨rfl, K', ls', hK', by rw [hx1]; exact h2⟩)
        · skip
          exact bad (fun q => h4 q.2.2)
theorem m_free {c : Int32} (h : NS ar nm sc K ls f J C B W tp nw) (hK : K < 4000) (hW : W.length < 4000) : GN κ m_Mo_free (d + 3) m ad ar nm sc 0 [some (.ref m), some (.int c), none] [] (fun v ar' nm' sc' => v = some (.int (freeS tp nw c (f (ni tp)) B W).1) ∧ NY ar' nm' sc' (K + 1) (fU f (ni tp) (freeS tp nw c (f (ni tp)) B W).2.1) J C (freeS tp nw c (f (ni tp)) B W).2.2.1 (freeS tp nw c (f (ni tp)) B W).2.2.2 tp nw) := by
  have hp := h.2.2.2.2.2.2.1
  have bad : ¬ okC tp c → GN κ m_Mo_free (d + 3) m ad ar nm sc 14 [some (.ref m), some (.int c), none] [] (fun v ar' nm' sc' => v = some (.int (freeS tp nw c (f (ni tp)) B W).1) ∧ NY ar' nm' sc' (K + 1) (fU f (ni tp) (freeS tp nw c (f (ni tp)) B W).2.1) J C (freeS tp nw c (f (ni tp)) B W).2.2.1 (freeS tp nw c (f (ni tp)) B W).2.2.2 tp nw) := by
    intro hb
    unfold freeS
    rw [if_neg (fun q => hb q.1)]
    refine n_seq s_Mo_free_14 rfl ?_
    exact n_iret rfl d_Mo_free_15 (⟨rfl, h.yU (by omega)⟩)
  refine n_seq s_Mo_free_0 rfl ?_
  refine n_gets f_Mo_75 d_Mo_free_1 rfl ?_
  refine n_if_eq (tgt := 14) d_Mo_free_4 (by decide) (fun h1 => ?_) (fun h1 => ?_)
  · skip
    exact bad (fun q => q.1 ((tp_0 hp).mp h1))
  · skip
    have hne : tp ≠ [] := fun e => h1 ((tp_0 hp).mpr e)
    refine n_seq s_Mo_free_7 rfl ?_
    refine n_invS l_Mo_105 d_Mo_free_8 rfl ⟨rfl, Nat.le_of_ble_eq_true rfl, Nat.le_of_ble_eq_true rfl⟩ (fun M => m_isClient) ?_
    rintro v rfl
    refine n_if_ne (tgt := 16) d_Mo_free_11 (by decide) (fun h2 => ?_) (fun h2 => ?_)
    · skip
      have hc := of_decide_eq_true (b2i_n.mp h2)
      unfold freeS
      refine n_seq s_Mo_free_16 rfl ?_
      refine n_invV l_Mo_109 d_Mo_free_17 rfl ⟨rfl, Nat.le_of_ble_eq_true rfl, Nat.le_of_ble_eq_true rfl⟩ (m_here h hne hK) ?_
      rintro v ar' nm' sc' ⟨n, K', ls', h', hn, hls, rfl, hK'⟩
      have hT := h'.2.1.1 n hn
      rw [hls] at hT
      have h40 := h'.1.2.1
      have hx1 := h'.2.1.2.2 (ni tp)
      have hn42 : n < 4200 := by omega
      refine n_seq s_Mo_free_20 rfl ?_
      refine n_geta f_Mo_27 d_Mo_free_22 (by decide) ?_
      refine n_seq s_Mo_free_25 rfl ?_
      refine n_ald d_Mo_free_26 ⟨by decide, by decide⟩ (rfl) (hn42) ?_
      refine n_seq s_Mo_free_27 rfl ?_
      refine n_icmp_eq (tgt := 33) d_Mo_free_28 (by decide) (fun h3 => ?_) (fun h3 => ?_)
      · skip
        rw [if_pos ⟨⟨hne, hc⟩, (hoM_eq hT hc).mp h3⟩]
        refine n_seq s_Mo_free_33 rfl ?_
        have he := m_end (κ := κ) (d := d) (m := m) (ad := ad) h' hn hW
        rw [hls] at he
        refine n_invV l_Mo_117 d_Mo_free_35 rfl ⟨rfl, Nat.le_of_ble_eq_true rfl, Nat.le_of_ble_eq_true rfl⟩ (he) ?_
        rintro v ar'' nm'' sc'' ⟨rfl, h2⟩
        have hT2 := h2.2.1.1 n hn
        rw [hls, fU_s] at hT2
        refine n_seq s_Mo_free_38 rfl ?_
        refine n_geta f_Mo_27 d_Mo_free_39 (by decide) ?_
        refine n_seq s_Mo_free_42 rfl ?_
        refine n_ald d_Mo_free_43 ⟨by decide, by decide⟩ (rfl) (hn42) ?_
        rw [hx1]
        refine n_if_ge (tgt := 52) d_Mo_free_44 (by decide) (fun h5 => ?_) (fun h5 => ?_)
        · skip
          refine n_seq s_Mo_free_52 rfl ?_
          refine n_geta f_Mo_27 d_Mo_free_53 (by decide) ?_
          refine n_seq s_Mo_free_56 rfl ?_
          refine n_ald d_Mo_free_57 ⟨by decide, by decide⟩ (rfl) (hn42) ?_
          exact n_iret rfl d_Mo_free_58 (⟨by rw [hoM_v hT2 ((hoM_ge hT2).mp h5)], K', ls', hK', h2⟩)
        · skip
          have hl := (hoM_lt hT2).mp (Int32.not_le.mp h5)
          refine n_seq s_Mo_free_47 rfl ?_
          exact n_iret rfl d_Mo_free_58 (⟨by unfold lent at hl; rw [show (endT nw (f (ni tp))).2.2.1 = -2 by simpa using hl], K', ls', hK', h2⟩)
      · skip
        rw [if_neg (fun q => h3 ((hoM_eq hT hc).mpr q.2))]
        refine n_seq s_Mo_free_31 rfl ?_
        exact n_iret rfl d_Mo_free_32 (⟨rfl, h'.yU hK'⟩)
    · skip
      exact bad (fun q => of_decide_eq_false (b2i_0.mp h2) q.2)
theorem m_renew {c tk : Int32} (h : NS ar nm sc K ls f J C B W tp nw) (hK : K < 4000) : GN κ m_Mo_renew (d + 2) m ad ar nm sc 0 [some (.ref m), some (.int c), some (.int tk), none] [] (fun v ar' nm' sc' => v = some (.int (renewS tp nw c tk (f (ni tp)) B).1) ∧ NY ar' nm' sc' (K + 1) (fU f (ni tp) (renewS tp nw c tk (f (ni tp)) B).2.1) J C (renewS tp nw c tk (f (ni tp)) B).2.2 W tp nw) := by
  have hp := h.2.2.2.2.2.2.1
  have bad : ¬ (okC tp c ∧ okK tk) → GN κ m_Mo_renew (d + 2) m ad ar nm sc 25 [some (.ref m), some (.int c), some (.int tk), none] [] (fun v ar' nm' sc' => v = some (.int (renewS tp nw c tk (f (ni tp)) B).1) ∧ NY ar' nm' sc' (K + 1) (fU f (ni tp) (renewS tp nw c tk (f (ni tp)) B).2.1) J C (renewS tp nw c tk (f (ni tp)) B).2.2 W tp nw) := by
    intro hb
    unfold renewS
    rw [if_neg (fun q => hb ⟨q.1, q.2.1⟩)]
    refine n_seq s_Mo_renew_25 rfl ?_
    exact n_iret rfl d_Mo_renew_26 (⟨rfl, h.yU (by omega)⟩)
  refine n_seq s_Mo_renew_0 rfl ?_
  refine n_gets f_Mo_75 d_Mo_renew_1 rfl ?_
  refine n_if_eq (tgt := 25) d_Mo_renew_4 (by decide) (fun h1 => ?_) (fun h1 => ?_)
  · skip
    exact bad (fun q => q.1.1 ((tp_0 hp).mp h1))
  · skip
    have hne : tp ≠ [] := fun e => h1 ((tp_0 hp).mpr e)
    refine n_seq s_Mo_renew_7 rfl ?_
    refine n_invS l_Mo_105 d_Mo_renew_8 rfl ⟨rfl, Nat.le_of_ble_eq_true rfl, Nat.le_of_ble_eq_true rfl⟩ (fun M => m_isClient) ?_
    rintro v rfl
    refine n_if_eq (tgt := 25) d_Mo_renew_11 (by decide) (fun h2 => ?_) (fun h2 => ?_)
    · skip
      exact bad (fun q => of_decide_eq_false (b2i_0.mp h2) q.1.2)
    · skip
      have hc := of_decide_eq_true (b2i_n.mp h2)
      refine n_seq s_Mo_renew_14 rfl ?_
      refine n_icmp_lt (tgt := 25) d_Mo_renew_16 (by decide) (fun h3 => ?_) (fun h3 => ?_)
      · skip
        exact bad (fun q => absurd h3 (Int32.not_lt.mpr q.2.1))
      · skip
        refine n_seq s_Mo_renew_19 rfl ?_
        refine n_icmp_le (tgt := 27) d_Mo_renew_22 (by decide) (fun h4 => ?_) (fun h4 => ?_)
        · skip
          unfold renewS
          refine n_seq s_Mo_renew_27 rfl ?_
          refine n_invV l_Mo_109 d_Mo_renew_28 rfl ⟨rfl, Nat.le_of_ble_eq_true rfl, Nat.le_of_ble_eq_true rfl⟩ (m_here h hne hK) ?_
          rintro v ar' nm' sc' ⟨n, K', ls', h', hn, hls, rfl, hK'⟩
          have hT := h'.2.1.1 n hn
          rw [hls] at hT
          have h40 := h'.1.2.1
          have hnw := h'.2.2.2.2.2.2.2
          have hx1 := h'.2.1.2.2 (ni tp)
          have hn42 : n < 4200 := by omega
          refine n_seq s_Mo_renew_31 rfl ?_
          refine n_geta f_Mo_27 d_Mo_renew_33 (by decide) ?_
          refine n_seq s_Mo_renew_36 rfl ?_
          refine n_ald d_Mo_renew_37 ⟨by decide, by decide⟩ (rfl) (hn42) ?_
          refine n_seq s_Mo_renew_38 rfl ?_
          refine n_icmp_eq (tgt := 44) d_Mo_renew_39 (by decide) (fun h5 => ?_) (fun h5 => ?_)
          · skip
            have hho := (hoM_eq hT hc).mp h5
            rw [if_pos ⟨⟨hne, hc⟩, ⟨Int32.not_lt.mp h3, h4⟩, hho⟩]
            have hst : ar' = arS ar' [(5, upd (ar' 5) n c), (6, ar' 6)] := arS_id _ (by
              intro q hq
              rcases List.mem_cons.mp hq with rfl | hq
              · funext j
                by_cases hjn : j = n
                · rw [hjn]; exact pk_us.trans h5.symm
                · exact pk_un hjn
              · rw [List.mem_singleton.mp hq])
            refine n_st hst ?_
            refine n_seq s_Mo_renew_44 rfl ?_
            refine n_geta f_Mo_30 d_Mo_renew_45 (by decide) ?_
            refine n_seq s_Mo_renew_48 rfl ?_
            refine n_gets f_Mo_96 d_Mo_renew_50 rfl ?_
            rw [hnw]
            refine n_seq s_Mo_renew_53 rfl ?_
            refine n_astL d_Mo_renew_55 ⟨by decide, by decide⟩ rfl (rfl) (hn42) ?_
            refine n_seq s_Mo_renew_56 rfl ?_
            have hch := m_change (κ := κ) (d := d) (m := m) (ad := ad) (kind := 3) (lendM (tk := tk) h' hn hc hls) hn
            rw [hls, fU_s, fU_fU] at hch
            refine n_invV l_Mo_92 d_Mo_renew_59 rfl ⟨rfl, Nat.le_of_ble_eq_true rfl, Nat.le_of_ble_eq_true rfl⟩ (hch) ?_
            rintro v ar'' nm'' sc'' ⟨rfl, rfl, rfl, h2⟩
            have hT2 := h2.2.1.1 n hn
            rw [hls, fU_s] at hT2
            refine n_seq s_Mo_renew_62 rfl ?_
            refine n_geta f_Mo_30 d_Mo_renew_63 (by decide) ?_
            refine n_seq s_Mo_renew_66 rfl ?_
            refine n_ald d_Mo_renew_67 ⟨by decide, by decide⟩ (rfl) (hn42) ?_
            rw [hT2.2.2.2.2.1 (lent_c hc rfl)]
            exact n_iret rfl d_Mo_renew_68 (⟨rfl, K', ls', hK', by rw [hx1]; exact h2⟩)
          · skip
            rw [if_neg (fun q => h5 ((hoM_eq hT hc).mpr q.2.2))]
            refine n_seq s_Mo_renew_42 rfl ?_
            exact n_iret rfl d_Mo_renew_43 (⟨rfl, h'.yU hK'⟩)
        · skip
          exact bad (fun q => h4 q.2.2)
theorem m_leave {c : Int32} (h : NS ar nm sc K ls f J C B W tp nw) (hK : K < 4000) : GN κ m_Mo_leave (d + 2) m ad ar nm sc 0 [some (.ref m), some (.int c), none, none] [] (fun v ar' nm' sc' => v = some (.int (leaveS tp c (f (ni tp))).1) ∧ NY ar' nm' sc' (K + 1) (fU f (ni tp) (leaveS tp c (f (ni tp))).2) J C B W tp nw) := by
  have hp := h.2.2.2.2.2.2.1
  have bad : ¬ okC tp c → GN κ m_Mo_leave (d + 2) m ad ar nm sc 14 [some (.ref m), some (.int c), none, none] [] (fun v ar' nm' sc' => v = some (.int (leaveS tp c (f (ni tp))).1) ∧ NY ar' nm' sc' (K + 1) (fU f (ni tp) (leaveS tp c (f (ni tp))).2) J C B W tp nw) := by
    intro hb
    unfold leaveS
    rw [if_neg hb]
    refine n_seq s_Mo_leave_14 rfl ?_
    exact n_iret rfl d_Mo_leave_15 (⟨rfl, h.yU (by omega)⟩)
  refine n_seq s_Mo_leave_0 rfl ?_
  refine n_gets f_Mo_75 d_Mo_leave_1 rfl ?_
  refine n_if_eq (tgt := 14) d_Mo_leave_4 (by decide) (fun h1 => ?_) (fun h1 => ?_)
  · skip
    exact bad (fun q => q.1 ((tp_0 hp).mp h1))
  · skip
    have hne : tp ≠ [] := fun e => h1 ((tp_0 hp).mpr e)
    refine n_seq s_Mo_leave_7 rfl ?_
    refine n_invS l_Mo_105 d_Mo_leave_8 rfl ⟨rfl, Nat.le_of_ble_eq_true rfl, Nat.le_of_ble_eq_true rfl⟩ (fun M => m_isClient) ?_
    rintro v rfl
    refine n_if_ne (tgt := 16) d_Mo_leave_11 (by decide) (fun h2 => ?_) (fun h2 => ?_)
    · skip
      have hc := of_decide_eq_true (b2i_n.mp h2)
      unfold leaveS
      rw [if_pos ⟨hne, hc⟩]
      refine n_seq s_Mo_leave_16 rfl ?_
      refine n_invV l_Mo_109 d_Mo_leave_17 rfl ⟨rfl, Nat.le_of_ble_eq_true rfl, Nat.le_of_ble_eq_true rfl⟩ (m_here h hne hK) ?_
      rintro v ar' nm' sc' ⟨n, K', ls', h', hn, hls, rfl, hK'⟩
      have hT := h'.2.1.1 n hn
      rw [hls] at hT
      have h40 := h'.1.2.1
      have hx1 := h'.2.1.2.2 (ni tp)
      have hn42 : n < 4200 := by omega
      obtain ⟨a1, a2, a3, a4, a5, a6, a7, a8, a9, a10, a11⟩ := id hT
      refine n_seq s_Mo_leave_20 rfl ?_
      refine n_invV l_Mo_113 d_Mo_leave_24 rfl ⟨rfl, Nat.le_of_ble_eq_true rfl, Nat.le_of_ble_eq_true rfl⟩ (m_place hn42 a6 a7 (fun j w hj => a8 j w hj)) ?_
      rintro v ar'' nm'' sc'' ⟨rfl, rfl, rfl, o, hFI, rfl⟩
      rw [FI_find hFI]
      obtain _ | j := o
      · refine n_seq s_Mo_leave_27 rfl ?_
        refine n_if_ge (tgt := 35) d_Mo_leave_29 (by decide) (fun hbr => absurd hbr (by decide)) (fun hbr => ?_)
        refine n_seq s_Mo_leave_32 rfl ?_
        exact n_iret rfl d_Mo_leave_34 (⟨rfl, h'.yU hK'⟩)
      · obtain ⟨w, hw, -⟩ := hFI
        have hjl := (List.getElem?_eq_some_iff.mp hw).1
        refine n_seq s_Mo_leave_27 rfl ?_
        refine n_if_ge (tgt := 35) d_Mo_leave_29 (by decide) (fun hbr => ?_) (fun hbr => absurd hbr (fun h => h (nI_pos' (by omega))))
        refine n_seq s_Mo_leave_35 rfl ?_
        refine n_invV l_Mo_102 d_Mo_leave_38 rfl ⟨rfl, Nat.le_of_ble_eq_true rfl, Nat.le_of_ble_eq_true rfl⟩ (m_out hn42 a6 a7 hjl) ?_
        rintro v ar2 nm2 sc2 ⟨rfl, rfl, rfl, rfl⟩
        refine n_seq s_Mo_leave_41 rfl ?_
        refine n_geta f_Mo_33 d_Mo_leave_42 (by decide) ?_
        refine n_seq s_Mo_leave_45 rfl ?_
        refine n_aldL d_Mo_leave_46 ⟨by decide, by decide⟩ rfl (rfl) (hn42) ?_
        rw [pk_us]
        refine n_iret rfl d_Mo_leave_47 ⟨rfl, K', ls', hK', ?_⟩
        obtain ⟨hN, ht, hj, hcc, hb, hww, hp, hnw⟩ := id h'
        subst hls
        refine ⟨hN, MT.upd ht hN hn (fun k hk hkn => ⟨rfl, rfl, rfl, rfl, pk_un hkn, fun _ _ => rfl, fun j hj => ⟨sh_out (by omega), sh_out (by omega), sh_out (by omega)⟩⟩) ?_ hx1, hj, hcc, hb, hww, hp, hnw⟩
        refine ⟨a1, a2, a3, a4, a5, ?_, ?_, a8.erase hjl (fun j hj => sh_out (by omega)) (fun j h1 h2 => sh_in (by omega) (by omega)), a9.erase hjl (fun j hj => sh_out (by omega)) (fun j h1 h2 => sh_in (by omega) (by omega)), a10.erase hjl (fun j hj => sh_out (by omega)) (fun j h1 h2 => sh_in (by omega) (by omega)), fun w hw => a11 w (List.mem_of_mem_eraseIdx hw)⟩
        · refine pk_us.trans ?_
          show _ = nI ((f (ni (ls' n))).2.1.eraseIdx j).length
          rw [List.length_eraseIdx_of_lt hjl]
        · show ((f (ni (ls' n))).2.1.eraseIdx j).length ≤ 5
          rw [List.length_eraseIdx_of_lt hjl]; omega
    · skip
      exact bad (fun q => of_decide_eq_false (b2i_0.mp h2) q.2)
end NP2
