section NP4
variable {κ : Nat × Nat} {d m : Nat} {ad : Nat → Nat} {ar : Ar} {nm : Nat → Int64} {sc : Sc} {K : Nat} {ls : Nat → List Nat} {f : Int32 → Th} {J : List Wt} {C : List (Int32 × Int32)} {B : Nat → List (Int32 × Int32)} {W : List Int32} {tp : List Nat} {nw : Int32}
theorem m_inCacheN {n : Nat} (h : NS ar nm sc K ls f J C B W tp nw) (hn : n < K) (hls : ls n = tp) : GN κ m_Mo_inCache d m ad ar nm sc 0 [some (.ref m), some (.int (nI n)), none] [] (fun v ar' nm' sc' => ar' = ar ∧ nm' = nm ∧ sc' = sc ∧ ∃ o, FI (fun e : Int32 × Int32 => e.1 == ni tp) C o ∧ v = some (.int (oM o))) := by
  obtain ⟨hN, ht, hj, ⟨c1, c2, c3, c4⟩, hb, hw, hp, hnw⟩ := id h
  refine m_inCacheP c1 c2 (fun j x hx => ?_)
  obtain ⟨k, hk, e1, e2⟩ := c3 j x hx
  have h40 := hN.2.1
  rw [e1, beq_iff_eq, e2, nI_eqI (by omega) (by omega)]
  constructor
  · intro e; rw [e, hls]
  · intro e
    rw [← hls] at e
    exact hN.2.2.2 k n hk hn (ni_inj (hN.2.2.1 k hk).2.1 (hN.2.2.1 n hn).2.1 (hN.2.2.1 k hk).2.2.1 (hN.2.2.1 n hn).2.2.1 e)
theorem m_known (h : NS ar nm sc K ls f J C B W tp nw) (hK : K < 4000) : GN κ m_Mo_known (d + 2) m ad ar nm sc 0 [some (.ref m)] [] (fun v ar' nm' sc' => NY ar' nm' sc' (K + 1) f J C B W tp nw ∧ ((tp = [] ∧ v = some (.int 0)) ∨ (tp ≠ [] ∧ ∃ o, FI (fun e : Int32 × Int32 => e.1 == ni tp) C o ∧ v = some (.int (b2i o.isSome))))) := by
  have hp := h.2.2.2.2.2.2.1
  refine n_seq s_Mo_known_0 rfl ?_
  refine n_gets f_Mo_75 d_Mo_known_1 rfl ?_
  refine n_if_le (tgt := 22) d_Mo_known_4 (by decide) (fun h1 => ?_) (fun h1 => ?_)
  · skip
    have h0 : tp = [] := (tp_0 hp).mp (by
      have h2 := hp.1
      rw [h2] at h1 ⊢
      rcases Nat.eq_zero_or_pos tp.length with e | e
      · rw [e]; rfl
      · exact absurd h1 (nI_nle e (by have := hp.2.2.1; omega)))
    refine n_seq s_Mo_known_22 rfl ?_
    exact n_zret rfl rfl d_Mo_known_23 (⟨h.y, Or.inl ⟨h0, rfl⟩⟩)
  · skip
    have hne : tp ≠ [] := fun e => h1 (by rw [(tp_0 hp).mpr e]; decide)
    refine n_seq s_Mo_known_7 rfl ?_
    refine n_invV l_Mo_109 d_Mo_known_9 rfl ⟨rfl, Nat.le_of_ble_eq_true rfl, Nat.le_of_ble_eq_true rfl⟩ (m_here h hne hK) ?_
    rintro v ar' nm' sc' ⟨n, K', ls', h', hn, hls, rfl, hK'⟩
    refine n_invV l_Mo_137 d_Mo_known_12 rfl ⟨rfl, Nat.le_of_ble_eq_true rfl, Nat.le_of_ble_eq_true rfl⟩ (m_inCacheN h' hn hls) ?_
    rintro v ar'' nm'' sc'' ⟨rfl, rfl, rfl, o, hFI, rfl⟩
    obtain _ | j := o
    · refine n_if_lt (tgt := 22) d_Mo_known_15 (by decide) (fun hbr => ?_) (fun hbr => absurd hbr (fun h => h (by decide)))
      refine n_seq s_Mo_known_22 rfl ?_
      exact n_zret rfl rfl d_Mo_known_23 (⟨⟨K', ls', hK', h'⟩, Or.inr ⟨hne, none, hFI, rfl⟩⟩)
    · have hjl : j < 4 := by
        obtain ⟨x, hx, -⟩ := hFI
        have := (List.getElem?_eq_some_iff.mp hx).1
        have := h'.2.2.2.1.2.1
        omega
      refine n_if_lt (tgt := 22) d_Mo_known_15 (by decide) (fun hbr => absurd hbr (nI_lt0 (by omega))) (fun hbr => ?_)
      refine n_seq s_Mo_known_18 rfl ?_
      exact n_zret rfl rfl d_Mo_known_23 (⟨⟨K', ls', hK', h'⟩, Or.inr ⟨hne, some j, hFI, rfl⟩⟩)
theorem m_askL {n k L : Nat} {vv : Int32} {x : Int32 × Int32} (h : NS ar nm (scR sc 26 (sc 26)) K ls f J C B W tp nw) (hn : n < K) (hls : ls n = tp) (hx : x = (ni tp, vv)) (hL : (C.eraseIdx k).length + 1 = L) (hk : k < L) (hL4 : L ≤ 4) : GN κ m_Mo_ask (d + 2) m ad ar nm (scR sc 26 (nI L)) 80 [some (.ref m), some (.int (nI n)), some (.int (nI k)), some (.int vv), some (.int (nI k))] [] (fun v ar' nm' sc' => v = some (.int x.2) ∧ NS ar' nm' sc' K ls f J (C.eraseIdx k ++ [x]) B W tp nw) := by
  obtain ⟨hN, ht, hj, ⟨c1, c2, c3, c4⟩, hb, hw, hp, hnw⟩ := id h
  have e1 : nI L - 1 = nI (L - 1) := pk_sub (b := 1) (by omega)
  have hCk : k < C.length → C.length = L := fun h => by rw [List.length_eraseIdx_of_lt h] at hL; omega
  have hCn : ¬ k < C.length → C.length + 1 = L := fun h => by rw [List.eraseIdx_of_length_le (by omega)] at hL; omega
  have loop : ∀ q i, i + q = L - 1 → k ≤ i → GN κ m_Mo_ask (d + 2) m ad (arS ar [(15, sh (ar 15) k i), (16, sh (ar 16) k i)]) nm (scR sc 26 (nI L)) 80 [some (.ref m), some (.int (nI n)), some (.int (nI k)), some (.int vv), some (.int (nI i))] [] (fun v ar' nm' sc' => v = some (.int x.2) ∧ NS ar' nm' sc' K ls f J (C.eraseIdx k ++ [x]) B W tp nw) := by
    intro q
    induction q with
    | zero =>
      intro i hi hki
      refine n_seq s_Mo_ask_80 rfl ?_
      refine n_gets f_Mo_134 d_Mo_ask_83 rfl ?_
      rw [show scR sc 26 (nI L) 26 = nI L from rfl]
      refine n_seq s_Mo_ask_86 rfl ?_
      rw [e1]
      refine n_icmp_ge (tgt := 129) d_Mo_ask_88 (by decide) (fun hbr => ?_) (fun hbr => absurd hbr (fun h => h (nI_le (by omega) (by omega))))
      refine n_seq s_Mo_ask_129 rfl ?_
      refine n_geta f_Mo_57 d_Mo_ask_130 (by decide) ?_
      refine n_seq s_Mo_ask_133 rfl ?_
      refine n_gets f_Mo_134 d_Mo_ask_134 rfl ?_
      rw [show scR sc 26 (nI L) 26 = nI L from rfl]
      refine n_seq s_Mo_ask_137 rfl ?_
      rw [e1]
      refine n_astL d_Mo_ask_140 ⟨by decide, by decide⟩ rfl (rfl) ((show L - 1 < 4 by omega)) ?_
      refine n_seq s_Mo_ask_141 rfl ?_
      refine n_geta f_Mo_60 d_Mo_ask_142 (by decide) ?_
      refine n_seq s_Mo_ask_145 rfl ?_
      refine n_gets f_Mo_134 d_Mo_ask_146 rfl ?_
      rw [show scR sc 26 (nI L) 26 = nI L from rfl]
      refine n_seq s_Mo_ask_149 rfl ?_
      rw [e1]
      refine n_astL d_Mo_ask_152 ⟨by decide, by decide⟩ rfl (rfl) ((show L - 1 < 4 by omega)) ?_
      refine n_seq s_Mo_ask_153 rfl ?_
      subst hx
      refine n_iret rfl d_Mo_ask_154 ⟨rfl, hN, ht, hj, ⟨by rw [List.length_append, List.length_singleton, hL]; rfl, by rw [List.length_append, List.length_singleton, hL]; exact hL4, ?_, ?_⟩, hb, hw, hp, hnw⟩
      · by_cases hkc : k < C.length
        · have := hCk hkc
          refine (RP.erase c3 hkc (g' := sh (ar 15) k i) (fun j hj => sh_out (by omega)) (fun j h1 h2 => sh_in (by omega) (by omega))).snoc (fun j hj => pk_un (by omega)) ?_
          rw [show (C.eraseIdx k).length = L - 1 by omega]
          exact ⟨n, hn, pk_us, by rw [hls]⟩
        · have := hCn hkc
          rw [List.eraseIdx_of_length_le (by omega)]
          refine c3.snoc (fun j hj => (pk_un (by omega)).trans (sh_out (by omega))) ?_
          rw [show C.length = L - 1 by omega]
          exact ⟨n, hn, pk_us, by rw [hls]⟩
      · by_cases hkc : k < C.length
        · have := hCk hkc
          refine (RP.erase c4 hkc (g' := sh (ar 16) k i) (fun j hj => sh_out (by omega)) (fun j h1 h2 => sh_in (by omega) (by omega))).snoc (fun j hj => pk_un (by omega)) ?_
          rw [show (C.eraseIdx k).length = L - 1 by omega]
          exact pk_us
        · have := hCn hkc
          rw [List.eraseIdx_of_length_le (by omega)]
          refine c4.snoc (fun j hj => (pk_un (by omega)).trans (sh_out (by omega))) ?_
          rw [show C.length = L - 1 by omega]
          exact pk_us
    | succ q ih =>
      intro i hi hki
      refine n_seq s_Mo_ask_80 rfl ?_
      refine n_gets f_Mo_134 d_Mo_ask_83 rfl ?_
      rw [show scR sc 26 (nI L) 26 = nI L from rfl]
      refine n_seq s_Mo_ask_86 rfl ?_
      rw [e1]
      refine n_icmp_ge (tgt := 129) d_Mo_ask_88 (by decide) (fun hbr => absurd hbr (nI_ge (by omega) (by omega))) (fun hbr => ?_)
      refine n_seq s_Mo_ask_91 rfl ?_
      refine n_geta f_Mo_57 d_Mo_ask_92 (by decide) ?_
      refine n_seq s_Mo_ask_95 rfl ?_
      refine n_geta f_Mo_57 d_Mo_ask_98 (by decide) ?_
      refine n_seq s_Mo_ask_101 rfl ?_
      refine n_aldL d_Mo_ask_105 ⟨by decide, by decide⟩ rfl (nI_1 _) ((show i + 1 < 4 by omega)) ?_
      refine n_astL d_Mo_ask_106 ⟨by decide, by decide⟩ rfl (rfl) ((show i < 4 by omega)) ?_
      rw [sh_s hki]
      refine n_seq s_Mo_ask_107 rfl ?_
      refine n_geta f_Mo_60 d_Mo_ask_108 (by decide) ?_
      refine n_seq s_Mo_ask_111 rfl ?_
      refine n_geta f_Mo_60 d_Mo_ask_114 (by decide) ?_
      refine n_seq s_Mo_ask_117 rfl ?_
      refine n_aldL d_Mo_ask_121 ⟨by decide, by decide⟩ rfl (nI_1 _) ((show i + 1 < 4 by omega)) ?_
      refine n_astL d_Mo_ask_122 ⟨by decide, by decide⟩ rfl (rfl) ((show i < 4 by omega)) ?_
      rw [sh_s hki]
      refine n_seq s_Mo_ask_123 rfl ?_
      rw [nI_1]
      exact ih (i + 1) (by omega) (by omega)
  have hst : ar = arS ar [(15, ar 15), (16, ar 16)] := arS_id _ (by simp)
  have := loop (L - 1 - k) k (by omega) (Nat.le_refl _)
  rw [sh_0, sh_0, ← hst] at this
  exact this
theorem scR_id {i : Nat} {sc : Sc} : scR sc i (sc i) = sc := by
  funext j
  unfold scR
  by_cases h : j = i <;> simp [h]
theorem m_ask (h : NS ar nm sc K ls f J C B W tp nw) (hK : K < 4000) : GN κ m_Mo_ask (d + 2) m ad ar nm sc 0 [some (.ref m), none, none, none, none] [] (fun v ar' nm' sc' => (tp = [] ∧ v = some (.int (-1)) ∧ NY ar' nm' sc' (K + 1) f J C B W tp nw) ∨ (tp ≠ [] ∧ ∃ o x k, FI (fun e : Int32 × Int32 => e.1 == ni tp) C o ∧ ((o = none ∧ x = (ni tp, 1000 * (f (ni tp)).2.2.2.2.1 + nw) ∧ k = if C.length < 4 then C.length else 0) ∨ (o = some k ∧ C[k]? = some x)) ∧ v = some (.int x.2) ∧ NY ar' nm' sc' (K + 1) f J (C.eraseIdx k ++ [x]) B W tp nw)) := by
  have hp := h.2.2.2.2.2.2.1
  refine n_seq s_Mo_ask_0 rfl ?_
  refine n_gets f_Mo_75 d_Mo_ask_1 rfl ?_
  refine n_if_ne (tgt := 9) d_Mo_ask_4 (by decide) (fun h1 => ?_) (fun h1 => ?_)
  · skip
    have hne : tp ≠ [] := fun e => h1 ((tp_0 hp).mpr e)
    refine n_seq s_Mo_ask_9 rfl ?_
    refine n_invV l_Mo_109 d_Mo_ask_10 rfl ⟨rfl, Nat.le_of_ble_eq_true rfl, Nat.le_of_ble_eq_true rfl⟩ (m_here h hne hK) ?_
    rintro v ar' nm' sc' ⟨n, K', ls', h', hn, hls, rfl, hK'⟩
    refine n_seq s_Mo_ask_13 rfl ?_
    refine n_invV l_Mo_137 d_Mo_ask_16 rfl ⟨rfl, Nat.le_of_ble_eq_true rfl, Nat.le_of_ble_eq_true rfl⟩ (m_inCacheN h' hn hls) ?_
    rintro v ar'' nm'' sc'' ⟨rfl, rfl, rfl, o, hFI, rfl⟩
    have hT := h'.2.1.1 n hn
    rw [hls] at hT
    have h40 := h'.1.2.1
    have hn42 : n < 4200 := by omega
    obtain ⟨c1, c2, c3, c4⟩ := h'.2.2.2.1
    have hid : NS ar'' nm'' (scR sc'' 26 (sc'' 26)) K' ls' f J C B W tp nw := by rw [scR_id]; exact h'
    refine n_seq s_Mo_ask_19 rfl ?_
    obtain _ | j := o
    · refine n_if_lt (tgt := 33) d_Mo_ask_21 (by decide) (fun hbr => ?_) (fun hbr => absurd hbr (fun h => h (by decide)))
      refine n_seq s_Mo_ask_33 rfl ?_
      refine n_geta f_Mo_17 d_Mo_ask_37 (by decide) ?_
      refine n_seq s_Mo_ask_40 rfl ?_
      refine n_ald d_Mo_ask_41 ⟨by decide, by decide⟩ (rfl) (hn42) ?_
      rw [hT.1]
      refine n_seq s_Mo_ask_42 rfl ?_
      refine n_gets f_Mo_96 d_Mo_ask_44 rfl ?_
      rw [h'.2.2.2.2.2.2.2]
      refine n_seq s_Mo_ask_47 rfl ?_
      refine n_if_ge (tgt := 77) d_Mo_ask_50 (by decide) (fun hbr => absurd hbr (by decide)) (fun hbr => ?_)
      refine n_seq s_Mo_ask_53 rfl ?_
      refine n_gets f_Mo_134 d_Mo_ask_54 rfl ?_
      rw [c1]
      refine n_seq s_Mo_ask_57 rfl ?_
      refine n_icmp_ge (tgt := 75) d_Mo_ask_58 (by decide) (fun h2 => ?_) (fun h2 => ?_)
      · skip
        have h4 : ¬ C.length < 4 := fun e => nI_ge e (by omega) h2
        refine n_seq s_Mo_ask_75 rfl ?_
        have hL := m_askL (κ := κ) (d := d) (m := m) (ad := ad) (k := 0) (L := 4) (vv := 1000 * (f (ni tp)).2.2.2.2.1 + nw) hid hn hls rfl (by rw [List.length_eraseIdx_of_lt (by omega)]; omega) (by decide) (Nat.le_refl _)
        rw [show scR sc'' 26 (nI 4) = sc'' by rw [show nI 4 = sc'' 26 by rw [c1, show C.length = 4 by omega], scR_id]] at hL
        refine n_mono hL ?_
        rintro v a1 n1 s1 ⟨hv, hs⟩
        exact Or.inr ⟨hne, none, _, 0, hFI, Or.inl ⟨rfl, rfl, by rw [if_neg h4]⟩, hv, K', ls', hK', hs⟩
      · skip
        have h4 : C.length < 4 := by
          rcases Nat.lt_or_ge C.length 4 with e | e
          · exact e
          · exact absurd (nI_le (a := 4) e (by omega)) h2
        refine n_seq s_Mo_ask_61 rfl ?_
        refine n_gets f_Mo_134 d_Mo_ask_63 rfl ?_
        rw [c1]
        refine n_seq s_Mo_ask_66 rfl ?_
        rw [nI_1]
        refine n_puts f_Mo_134 d_Mo_ask_69 rfl ?_
        refine n_seq s_Mo_ask_72 rfl ?_
        have hL := m_askL (κ := κ) (d := d) (m := m) (ad := ad) (k := C.length) (L := C.length + 1) (vv := 1000 * (f (ni tp)).2.2.2.2.1 + nw) hid hn hls rfl (by rw [List.eraseIdx_of_length_le (Nat.le_refl _)]) (by omega) (by omega)
        refine n_mono hL ?_
        rintro v a1 n1 s1 ⟨hv, hs⟩
        exact Or.inr ⟨hne, none, _, C.length, hFI, Or.inl ⟨rfl, rfl, by rw [if_pos h4]⟩, hv, K', ls', hK', hs⟩
    · obtain ⟨x, hx, hxp, -⟩ := id hFI
      have hjl := (List.getElem?_eq_some_iff.mp hx).1
      refine n_if_lt (tgt := 33) d_Mo_ask_21 (by decide) (fun hbr => absurd hbr (nI_lt0 (by omega))) (fun hbr => ?_)
      refine n_seq s_Mo_ask_24 rfl ?_
      refine n_geta f_Mo_60 d_Mo_ask_25 (by decide) ?_
      refine n_seq s_Mo_ask_28 rfl ?_
      refine n_ald d_Mo_ask_29 ⟨by decide, by decide⟩ (rfl) ((show j < 4 by omega)) ?_
      rw [c4 j x hx]
      refine n_seq s_Mo_ask_30 rfl ?_
      refine n_if_ge (tgt := 77) d_Mo_ask_50 (by decide) (fun hbr => ?_) (fun hbr => absurd hbr (fun h => h (nI_pos' (by omega))))
      refine n_seq s_Mo_ask_77 rfl ?_
      have hL := m_askL (κ := κ) (d := d) (m := m) (ad := ad) (k := j) (L := C.length) (x := x) (vv := x.2) hid hn hls (by rw [← eq_of_beq hxp]) (by rw [List.length_eraseIdx_of_lt hjl]; omega) hjl c2
      rw [show scR sc'' 26 (nI C.length) = sc'' by rw [← c1, scR_id]] at hL
      refine n_mono hL ?_
      rintro v a1 n1 s1 ⟨hv, hs⟩
      exact Or.inr ⟨hne, some j, x, j, hFI, Or.inr ⟨rfl, hx⟩, hv, K', ls', hK', hs⟩
  · skip
    refine n_seq s_Mo_ask_7 rfl ?_
    exact n_iret rfl d_Mo_ask_8 (Or.inl ⟨(tp_0 hp).mp h1, rfl, h.y⟩)
theorem m_note {c : Int32} (h : NS ar nm sc K ls f J C B W tp nw) : GN κ m_Mo_note (d + 1) m ad ar nm sc 0 [some (.ref m), some (.int c), none] [] (fun v ar' nm' sc' => (¬ (0 ≤ c ∧ c < 16) ∧ v = some (.int (-1)) ∧ NY ar' nm' sc' (K + 1) f J C B W tp nw) ∨ ∃ i, i < 16 ∧ c = nI i ∧ ((B i = [] ∧ v = some (.int (-2)) ∧ NY ar' nm' sc' (K + 1) f J C B W tp nw) ∨ ∃ x N, B i = x :: N ∧ v = some (.int x.2) ∧ ∃ tp', ni tp' = x.1 ∧ NY ar' nm' sc' (K + 1) f J C (fun j => if j = i then N else B j) W tp' nw)) := by
  refine n_seq s_Mo_note_0 rfl ?_
  refine n_invS l_Mo_105 d_Mo_note_1 rfl ⟨rfl, Nat.le_of_ble_eq_true rfl, Nat.le_of_ble_eq_true rfl⟩ (fun M => m_isClient) ?_
  rintro v rfl
  refine n_if_ne (tgt := 9) d_Mo_note_4 (by decide) (fun h2 => ?_) (fun h2 => ?_)
  · skip
    have hc := of_decide_eq_true (b2i_n.mp h2)
    obtain ⟨i, hi, rfl⟩ := c16_of hc
    obtain ⟨b1, b2, b3, b4⟩ := h.2.2.2.2.1 i hi
    refine n_seq s_Mo_note_9 rfl ?_
    refine n_geta f_Mo_69 d_Mo_note_10 (by decide) ?_
    refine n_seq s_Mo_note_13 rfl ?_
    refine n_ald d_Mo_note_14 ⟨by decide, by decide⟩ (rfl) (hi) ?_
    rw [b1]
    have hm : (8 : Int32) * nI i = nI (8 * i) := pk_mul 8 i
    rcases hB : B i with _ | ⟨x, N⟩
    · refine n_if_ne (tgt := 21) d_Mo_note_15 (by decide) (fun hbr => absurd hbr (fun h => h rfl)) (fun hbr => ?_)
      refine n_seq s_Mo_note_18 rfl ?_
      exact n_iret rfl d_Mo_note_20 (Or.inr ⟨i, hi, rfl, Or.inl ⟨hB, rfl, h.y⟩⟩)
    · rw [hB] at b2 b3 b4
      have h17 := b3 0 x rfl
      have h18 : ar 18 (8 * i) = x.2 := b4 0 x rfl
      obtain ⟨k, hk, hv, hx⟩ := h17
      have hv' : ar 17 (8 * i) = nI k := hv
      refine n_if_ne (tgt := 21) d_Mo_note_15 (by decide) (fun hbr => ?_) (fun hbr => absurd hbr (nI_ne0 (Nat.succ_pos _) (by omega)))
      refine n_seq s_Mo_note_21 rfl ?_
      refine n_geta f_Mo_66 d_Mo_note_22 (by decide) ?_
      refine n_seq s_Mo_note_25 rfl ?_
      refine n_ald d_Mo_note_29 ⟨by decide, by decide⟩ (hm) ((show 8 * i < 128 by omega)) ?_
      rw [h18]
      refine n_seq s_Mo_note_30 rfl ?_
      refine n_geta f_Mo_63 d_Mo_note_33 (by decide) ?_
      refine n_seq s_Mo_note_36 rfl ?_
      refine n_ald d_Mo_note_40 ⟨by decide, by decide⟩ (hm) ((show 8 * i < 128 by omega)) ?_
      rw [hv']
      refine n_invV l_Mo_123 d_Mo_note_41 rfl ⟨rfl, Nat.le_of_ble_eq_true rfl, Nat.le_of_ble_eq_true rfl⟩ (m_writeN h hk) ?_
      rintro v ar' nm' sc' ⟨rfl, h3⟩
      refine n_seq s_Mo_note_44 rfl ?_
      refine n_invV l_Mo_88 d_Mo_note_46 rfl ⟨rfl, Nat.le_of_ble_eq_true rfl, Nat.le_of_ble_eq_true rfl⟩ (m_dropN h3 hi (by rw [hB]; exact Nat.succ_pos _)) ?_
      rintro v ar' nm' sc' ⟨rfl, h4⟩
      rw [hB] at h4
      refine n_seq s_Mo_note_49 rfl ?_
      exact n_iret rfl d_Mo_note_50 (Or.inr ⟨i, hi, rfl, Or.inr ⟨x, N, hB, rfl, ls k, hx.symm, h4.y⟩⟩)
  · skip
    refine n_seq s_Mo_note_7 rfl ?_
    exact n_iret rfl d_Mo_note_8 (Or.inl ⟨of_decide_eq_false (b2i_0.mp h2), rfl, h.y⟩)
theorem m_waits {lo hh : Int32} (h : NS ar nm sc K ls f J C B W tp nw) : GN κ m_Mo_waits d m ad ar nm sc 0 [some (.ref m), some (.int lo), some (.int hh), none, none] [] (fun v ar' nm' sc' => v = some (.int (nI (sm (fun x : Int32 => if lo ≤ x ∧ x < hh then 1 else 0) W))) ∧ NY ar' nm' sc' (K + 1) f J C B W tp nw) := by
  obtain ⟨w1, w2, w3⟩ := h.2.2.2.2.2.1
  have loop : ∀ q i, i + q = W.length → GN κ m_Mo_waits d m ad ar nm sc 5 [some (.ref m), some (.int lo), some (.int hh), some (.int (nI (sm (fun x : Int32 => if lo ≤ x ∧ x < hh then 1 else 0) (W.take i)))), some (.int (nI i))] [] (fun v ar' nm' sc' => v = some (.int (nI (sm (fun x : Int32 => if lo ≤ x ∧ x < hh then 1 else 0) W))) ∧ NY ar' nm' sc' (K + 1) f J C B W tp nw) := by
    intro q
    induction q with
    | zero =>
      intro i hi
      refine n_seq s_Mo_waits_5 rfl ?_
      refine n_gets f_Mo_99 d_Mo_waits_8 rfl ?_
      rw [w1]
      refine n_icmp_ge (tgt := 45) d_Mo_waits_11 (by decide) (fun hbr => ?_) (fun hbr => absurd hbr (fun h => h (nI_le (by omega) (by omega))))
      refine n_seq s_Mo_waits_45 rfl ?_
      rw [sm_all (by omega)]
      exact n_iret rfl d_Mo_waits_46 (⟨rfl, h.y⟩)
    | succ q ih =>
      intro i hi
      have hil : i < W.length := by omega
      have hW := List.getElem?_eq_getElem hil
      generalize W[i] = x at hW
      have hs := sm_step (f := fun x : Int32 => if lo ≤ x ∧ x < hh then 1 else 0) hW
      have hih := ih (i + 1) (by omega)
      refine n_seq s_Mo_waits_5 rfl ?_
      refine n_gets f_Mo_99 d_Mo_waits_8 rfl ?_
      rw [w1]
      refine n_icmp_ge (tgt := 45) d_Mo_waits_11 (by decide) (fun hbr => absurd hbr (nI_ge hil (by omega))) (fun hbr => ?_)
      refine n_seq s_Mo_waits_14 rfl ?_
      refine n_geta f_Mo_45 d_Mo_waits_15 (by decide) ?_
      refine n_seq s_Mo_waits_18 rfl ?_
      refine n_ald d_Mo_waits_20 ⟨by decide, by decide⟩ (rfl) ((show i < 4200 by omega)) ?_
      rw [w3 i x hW]
      refine n_seq s_Mo_waits_21 rfl ?_
      refine n_icmp_lt (tgt := 39) d_Mo_waits_22 (by decide) (fun h1 => ?_) (fun h1 => ?_)
      · skip
        rw [if_neg (fun q => absurd h1 (Int32.not_lt.mpr q.1)), Nat.add_zero] at hs
        rw [hs] at hih
        refine n_seq s_Mo_waits_39 rfl ?_
        rw [nI_1]
        exact hih
      · skip
        refine n_seq s_Mo_waits_25 rfl ?_
        refine n_geta f_Mo_45 d_Mo_waits_26 (by decide) ?_
        refine n_seq s_Mo_waits_29 rfl ?_
        refine n_ald d_Mo_waits_31 ⟨by decide, by decide⟩ (rfl) ((show i < 4200 by omega)) ?_
        rw [w3 i x hW]
        refine n_seq s_Mo_waits_32 rfl ?_
        refine n_icmp_ge (tgt := 39) d_Mo_waits_33 (by decide) (fun h2 => ?_) (fun h2 => ?_)
        · skip
          rw [if_neg (fun q => absurd q.2 (Int32.not_lt.mpr h2)), Nat.add_zero] at hs
          rw [hs] at hih
          refine n_seq s_Mo_waits_39 rfl ?_
          rw [nI_1]
          exact hih
        · skip
          rw [if_pos ⟨Int32.not_lt.mp h1, Int32.not_le.mp h2⟩] at hs
          rw [hs] at hih
          refine n_seq s_Mo_waits_36 rfl ?_
          rw [nI_1, nI_1]
          exact hih
  refine n_seq s_Mo_waits_0 rfl ?_
  exact loop W.length 0 (by omega)
theorem m_waited {tk : Int32} (h : NS ar nm sc K ls f J C B W tp nw) : GN κ m_Mo_waited d m ad ar nm sc 0 [some (.ref m), some (.int tk), none, none] [] (fun v ar' nm' sc' => v = some (.int (W.foldl (gUp tk) (-2))) ∧ NY ar' nm' sc' (K + 1) f J C B W tp nw) := by
  obtain ⟨w1, w2, w3⟩ := h.2.2.2.2.2.1
  have loop : ∀ q i, i + q = W.length → GN κ m_Mo_waited d m ad ar nm sc 5 [some (.ref m), some (.int tk), some (.int ((W.take i).foldl (gUp tk) (-2))), some (.int (nI i))] [] (fun v ar' nm' sc' => v = some (.int (W.foldl (gUp tk) (-2))) ∧ NY ar' nm' sc' (K + 1) f J C B W tp nw) := by
    intro q
    induction q with
    | zero =>
      intro i hi
      refine n_seq s_Mo_waited_5 rfl ?_
      refine n_gets f_Mo_99 d_Mo_waited_7 rfl ?_
      rw [w1]
      refine n_icmp_ge (tgt := 46) d_Mo_waited_10 (by decide) (fun hbr => ?_) (fun hbr => absurd hbr (fun h => h (nI_le (by omega) (by omega))))
      refine n_seq s_Mo_waited_46 rfl ?_
      rw [List.take_of_length_le (by omega)]
      exact n_iret rfl d_Mo_waited_47 (⟨rfl, h.y⟩)
    | succ q ih =>
      intro i hi
      have hil : i < W.length := by omega
      have hW := List.getElem?_eq_getElem hil
      generalize W[i] = x at hW
      have hih := ih (i + 1) (by omega)
      rw [List.take_succ, hW, List.foldl_append] at hih
      generalize (W.take i).foldl (gUp tk) (-2) = g at hih ⊢
      change GN κ m_Mo_waited d m ad ar nm sc 5 [some (.ref m), some (.int tk), some (.int (gUp tk g x)), some (.int (nI (i + 1)))] [] _ at hih
      unfold gUp at hih
      refine n_seq s_Mo_waited_5 rfl ?_
      refine n_gets f_Mo_99 d_Mo_waited_7 rfl ?_
      rw [w1]
      refine n_icmp_ge (tgt := 46) d_Mo_waited_10 (by decide) (fun hbr => absurd hbr (nI_ge hil (by omega))) (fun hbr => ?_)
      refine n_seq s_Mo_waited_13 rfl ?_
      refine n_geta f_Mo_45 d_Mo_waited_14 (by decide) ?_
      refine n_seq s_Mo_waited_17 rfl ?_
      refine n_ald d_Mo_waited_18 ⟨by decide, by decide⟩ (rfl) ((show i < 4200 by omega)) ?_
      rw [w3 i x hW]
      refine n_seq s_Mo_waited_19 rfl ?_
      refine n_icmp_gt (tgt := 40) d_Mo_waited_20 (by decide) (fun h1 => ?_) (fun h1 => ?_)
      · skip
        rw [if_neg (fun q => absurd h1 (Int32.not_lt.mpr q.1))] at hih
        refine n_seq s_Mo_waited_40 rfl ?_
        rw [nI_1]
        exact hih
      · skip
        refine n_seq s_Mo_waited_23 rfl ?_
        refine n_geta f_Mo_45 d_Mo_waited_24 (by decide) ?_
        refine n_seq s_Mo_waited_27 rfl ?_
        refine n_ald d_Mo_waited_28 ⟨by decide, by decide⟩ (rfl) ((show i < 4200 by omega)) ?_
        rw [w3 i x hW]
        refine n_seq s_Mo_waited_29 rfl ?_
        refine n_icmp_le (tgt := 40) d_Mo_waited_30 (by decide) (fun h2 => ?_) (fun h2 => ?_)
        · skip
          rw [if_neg (fun q => absurd q.2 (Int32.not_lt.mpr h2))] at hih
          refine n_seq s_Mo_waited_40 rfl ?_
          rw [nI_1]
          exact hih
        · skip
          rw [if_pos ⟨Int32.not_lt.mp h1, Int32.not_le.mp h2⟩] at hih
          refine n_seq s_Mo_waited_33 rfl ?_
          refine n_geta f_Mo_45 d_Mo_waited_34 (by decide) ?_
          refine n_seq s_Mo_waited_37 rfl ?_
          refine n_ald d_Mo_waited_38 ⟨by decide, by decide⟩ (rfl) ((show i < 4200 by omega)) ?_
          rw [w3 i x hW]
          refine n_seq s_Mo_waited_39 rfl ?_
          rw [nI_1]
          exact hih
  refine n_seq s_Mo_waited_0 rfl ?_
  exact loop W.length 0 (by omega)
end NP4
