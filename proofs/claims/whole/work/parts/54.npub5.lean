section NP5
variable {κ : Nat × Nat} {d m : Nat} {ad : Nat → Nat} {ar : Ar} {nm : Nat → Int64} {sc : Sc} {K : Nat} {ls : Nat → List Nat} {f : Int32 → Th} {J : List Wt} {C : List (Int32 × Int32)} {B : Nat → List (Int32 × Int32)} {W : List Int32} {tp : List Nat} {nw : Int32}
theorem WL.add {g3 g4 g3' g4' : Nat → Int32} {k i : Nat} {wa : Int32} {wl : List Nat} (h : WL g3 g4 k wa wl) (hi : i < 16) (hno : i ∉ wl) (h3 : g3' k = nI (wl.length + 1)) (h4 : ∀ j, j < wl.length → g4' (16 * k + j) = g4 (16 * k + j)) (h5 : g4' (16 * k + wl.length) = nI i) : WL g3' g4' k (wa ^^^ ((1 : Int32) <<< (nI i &&& 31))) (wl ++ [i]) := by
  obtain ⟨a1, a2, a3, a4, a5, q, hq, rfl⟩ := h
  obtain ⟨x1, x2, x3⟩ := xor_w hq hi
  rw [x1]
  refine ⟨by rw [h3, List.length_append]; rfl, ?_, fun c hc => ?_, a4.snoc h4 h5, fun c hc => ?_, _, x2, rfl⟩
  · rw [List.nodup_append]
    exact ⟨a2, List.nodup_cons.mpr ⟨List.not_mem_nil, List.nodup_nil⟩, fun a ha b hb e => hno (by rw [List.mem_singleton.mp hb] at e; rw [← e]; exact ha)⟩
  · rcases List.mem_append.mp hc with h | h
    · exact a3 c h
    · rw [List.mem_singleton.mp h]; exact hi
  · rw [x3 c hc, List.mem_append, List.mem_singleton]
    by_cases e : c = i
    · rw [if_pos e, a5 c hc, e]
      exact ⟨fun _ => Or.inr rfl, fun _ => hno⟩
    · rw [if_neg e, a5 c hc]
      exact ⟨Or.inl, fun h => h.elim id (fun h => absurd h e)⟩
theorem WL.del {g3 g4 g3' g4' : Nat → Int32} {k i p : Nat} {wa : Int32} {wl : List Nat} (h : WL g3 g4 k wa wl) (hi : i < 16) (hp : wl[p]? = some i) (h3 : g3' k = nI (wl.length - 1)) (h4 : ∀ j, j < p → g4' (16 * k + j) = g4 (16 * k + j)) (h5 : ∀ j, p ≤ j → j < wl.length - 1 → g4' (16 * k + j) = g4 (16 * k + (j + 1))) : WL g3' g4' k (wa ^^^ ((1 : Int32) <<< (nI i &&& 31))) (wl.eraseIdx p) := by
  have hpl := (List.getElem?_eq_some_iff.mp hp).1
  obtain ⟨a1, a2, a3, a4, a5, q, hq, rfl⟩ := h
  obtain ⟨x1, x2, x3⟩ := xor_w hq hi
  rw [x1]
  refine ⟨by rw [h3, List.length_eraseIdx_of_lt hpl], a2.sublist (List.eraseIdx_sublist _ _), fun c hc => a3 c (List.mem_of_mem_eraseIdx hc), a4.erase hpl h4 h5, fun c hc => ?_, _, x2, rfl⟩
  rw [x3 c hc, List.mem_eraseIdx_iff_getElem?]
  by_cases e : c = i
  · rw [if_pos e, a5 c hc, e]
    constructor
    · intro hn
      exact absurd (List.mem_of_getElem? hp) hn
    · rintro ⟨j, hj, hj2⟩
      have := (List.getElem?_inj (by exact hpl) a2).mp (hp.trans hj2.symm)
      omega
  · rw [if_neg e, a5 c hc]
    constructor
    · intro hm
      obtain ⟨j, hj⟩ := List.getElem?_of_mem hm
      refine ⟨j, fun e2 => ?_, hj⟩
      rw [e2, hp] at hj
      exact e (Option.some.inj hj).symm
    · rintro ⟨j, -, hj2⟩
      exact List.mem_of_getElem? hj2
theorem m_watch {c : Int32} (h : NS ar nm sc K ls f J C B W tp nw) (hK : K < 4000) : GN κ m_Mo_watch (d + 2) m ad ar nm sc 0 [some (.ref m), some (.int c), none, none, none] [] (fun v ar' nm' sc' => (¬ okC tp c ∧ v = some (.int (-1)) ∧ NY ar' nm' sc' (K + 1) f J C B W tp nw) ∨ (okC tp c ∧ v = some (.int (bcF (wXor (f (ni tp)) c).2.2.2.2.2)) ∧ NY ar' nm' sc' (K + 1) (fU f (ni tp) (wXor (f (ni tp)) c)) J C B W tp nw)) := by
  have hp := h.2.2.2.2.2.2.1
  have bad : ¬ okC tp c → GN κ m_Mo_watch (d + 2) m ad ar nm sc 14 [some (.ref m), some (.int c), none, none, none] [] (fun v ar' nm' sc' => (¬ okC tp c ∧ v = some (.int (-1)) ∧ NY ar' nm' sc' (K + 1) f J C B W tp nw) ∨ (okC tp c ∧ v = some (.int (bcF (wXor (f (ni tp)) c).2.2.2.2.2)) ∧ NY ar' nm' sc' (K + 1) (fU f (ni tp) (wXor (f (ni tp)) c)) J C B W tp nw)) := by
    intro hb
    refine n_seq s_Mo_watch_14 rfl ?_
    exact n_iret rfl d_Mo_watch_15 (Or.inl ⟨hb, rfl, h.y⟩)
  refine n_seq s_Mo_watch_0 rfl ?_
  refine n_gets f_Mo_75 d_Mo_watch_1 rfl ?_
  refine n_if_eq (tgt := 14) d_Mo_watch_4 (by decide) (fun h1 => ?_) (fun h1 => ?_)
  · skip
    exact bad (fun q => q.1 ((tp_0 hp).mp h1))
  · skip
    have hne : tp ≠ [] := fun e => h1 ((tp_0 hp).mpr e)
    refine n_seq s_Mo_watch_7 rfl ?_
    refine n_invS l_Mo_105 d_Mo_watch_8 rfl ⟨rfl, Nat.le_of_ble_eq_true rfl, Nat.le_of_ble_eq_true rfl⟩ (fun M => m_isClient) ?_
    rintro v rfl
    refine n_if_ne (tgt := 16) d_Mo_watch_11 (by decide) (fun h2 => ?_) (fun h2 => ?_)
    · skip
      have hc := of_decide_eq_true (b2i_n.mp h2)
      have hok : okC tp c := ⟨hne, hc⟩
      refine n_seq s_Mo_watch_16 rfl ?_
      refine n_invV l_Mo_109 d_Mo_watch_17 rfl ⟨rfl, Nat.le_of_ble_eq_true rfl, Nat.le_of_ble_eq_true rfl⟩ (m_here h hne hK) ?_
      rintro v ar' nm' sc' ⟨n, K', ls', h', hn, hls, rfl, hK'⟩
      have hT := h'.2.1.1 n hn
      rw [hls] at hT
      have h40 := h'.1.2.1
      have hx1 := h'.2.1.2.2 (ni tp)
      have hn42 : n < 4200 := by omega
      obtain ⟨a1, ⟨wl, a2⟩, a3, a4, a5, a6⟩ := id hT
      have hl := a2.len
      obtain ⟨w1, w2, w3, w4, w5, w6⟩ := id a2
      obtain ⟨i, hi, rfl⟩ := c16_of hc
      have fin : ∀ (wl' : List Nat) (g3 g4 : Nat → Int32), (∀ k, k < K' → k ≠ n → g3 k = ar' 3 k ∧ ∀ j, j < 16 → g4 (16 * k + j) = ar' 4 (16 * k + j)) → WL g3 g4 n (wXor (f (ni tp)) (nI i)).2.2.2.2.2 wl' → NS (arS ar' [(3, g3), (4, g4)]) nm' sc' K' ls' (fU f (ni tp) (wXor (f (ni tp)) (nI i))) J C B W tp nw := by
        intro wl' g3 g4 hag hW
        obtain ⟨hN, ht, hj, hcc, hb, hw, hp, hnw⟩ := id h'
        subst hls
        exact ⟨hN, MT.upd ht hN hn (fun k hk hkn => ⟨rfl, (hag k hk hkn).1, rfl, rfl, rfl, (hag k hk hkn).2, fun _ _ => ⟨rfl, rfl, rfl⟩⟩) ⟨a1, ⟨wl', hW⟩, a3, a4, a5, a6⟩ hx1, hj, hcc, hb, hw, hp, hnw⟩
      have hst : ar' = arS ar' [(3, ar' 3), (4, ar' 4)] := arS_id _ (by simp)
      have loop : ∀ q k, k + q = wl.length → (∀ j, j < k → wl[j]? ≠ some i) → GN κ m_Mo_watch (d + 2) m ad ar' nm' sc' 23 [some (.ref m), some (.int (nI i)), some (.int (nI n)), some (.int (nI k)), none] [] (fun v ar' nm' sc' => (¬ okC tp (nI i) ∧ v = some (.int (-1)) ∧ NY ar' nm' sc' (K + 1) f J C B W tp nw) ∨ (okC tp (nI i) ∧ v = some (.int (bcF (wXor (f (ni tp)) (nI i)).2.2.2.2.2)) ∧ NY ar' nm' sc' (K + 1) (fU f (ni tp) (wXor (f (ni tp)) (nI i))) J C B W tp nw)) := by
        intro q
        induction q with
        | zero =>
          intro k hk hno
          have : k = wl.length := by omega
          subst this
          have hnm : i ∉ wl := fun hm => by
            obtain ⟨j, hj⟩ := List.getElem?_of_mem hm
            exact hno j (List.getElem?_eq_some_iff.mp hj).1 hj
          have hl16 : wl.length < 16 := by
            have := nodup_le 16 (l := wl ++ [i]) (by
              rw [List.nodup_append]
              exact ⟨w2, List.nodup_cons.mpr ⟨List.not_mem_nil, List.nodup_nil⟩, fun a ha b hb e => hnm (by rw [List.mem_singleton.mp hb] at e; rw [← e]; exact ha)⟩) (fun c hc => by
              rcases List.mem_append.mp hc with h | h
              · exact w3 c h
              · rw [List.mem_singleton.mp h]; exact hi)
            rw [List.length_append, List.length_singleton] at this
            omega
          have hm : (16 : Int32) * nI n = nI (16 * n) := pk_mul 16 n
          refine n_st hst ?_
          refine n_seq s_Mo_watch_23 rfl ?_
          refine n_geta f_Mo_20 d_Mo_watch_25 (by decide) ?_
          refine n_seq s_Mo_watch_28 rfl ?_
          refine n_aldL d_Mo_watch_29 ⟨by decide, by decide⟩ rfl (rfl) (hn42) ?_
          rw [w1]
          refine n_icmp_ge (tgt := 54) d_Mo_watch_30 (by decide) (fun hbr => ?_) (fun hbr => absurd hbr (fun h => h (nI_le (Nat.le_refl _) (by omega))))
          refine n_seq s_Mo_watch_54 rfl ?_
          refine n_geta f_Mo_20 d_Mo_watch_56 (by decide) ?_
          refine n_seq s_Mo_watch_59 rfl ?_
          refine n_aldL d_Mo_watch_60 ⟨by decide, by decide⟩ rfl (rfl) (hn42) ?_
          rw [w1]
          refine n_icmp_ne (tgt := 93) d_Mo_watch_61 (by decide) (fun hbr => absurd hbr (fun h => h rfl)) (fun hbr => ?_)
          refine n_seq s_Mo_watch_64 rfl ?_
          refine n_geta f_Mo_24 d_Mo_watch_65 (by decide) ?_
          refine n_seq s_Mo_watch_68 rfl ?_
          refine n_geta f_Mo_20 d_Mo_watch_73 (by decide) ?_
          refine n_seq s_Mo_watch_76 rfl ?_
          refine n_aldL d_Mo_watch_78 ⟨by decide, by decide⟩ rfl (rfl) (hn42) ?_
          rw [w1]
          refine n_seq s_Mo_watch_79 rfl ?_
          rw [nI_1]
          refine n_astL d_Mo_watch_82 ⟨by decide, by decide⟩ rfl (rfl) (hn42) ?_
          refine n_seq s_Mo_watch_83 rfl ?_
          rw [n16]
          refine n_astL d_Mo_watch_85 ⟨by decide, by decide⟩ rfl (rfl) ((show 16 * n + wl.length < 67200 by omega)) ?_
          refine n_seq s_Mo_watch_86 rfl ?_
          refine n_geta f_Mo_20 d_Mo_watch_87 (by decide) ?_
          refine n_seq s_Mo_watch_90 rfl ?_
          refine n_aldL d_Mo_watch_91 ⟨by decide, by decide⟩ rfl (rfl) (hn42) ?_
          rw [pk_us]
          have hW := a2.add (g3' := upd (ar' 3) n (nI (wl.length + 1))) (g4' := upd (ar' 4) (16 * n + wl.length) (nI i)) hi hnm pk_us (fun j hj => pk_un (by omega)) pk_us
          have hbc := hW.bc
          rw [List.length_append] at hbc
          exact n_iret rfl d_Mo_watch_92 (Or.inr ⟨hok, congrArg (fun z => some (Value.int z)) hbc.symm, K', ls', hK', fin _ _ _ (fun k hk hkn => ⟨pk_un hkn, fun j hj => pk_un (by omega)⟩) hW⟩)
        | succ q ih =>
          intro k hk hno
          have hkl : k < wl.length := by omega
          have hwk := List.getElem?_eq_getElem hkl
          generalize wl[k] = y at hwk
          have hy := w3 y (List.mem_of_getElem? hwk)
          refine n_seq s_Mo_watch_23 rfl ?_
          refine n_geta f_Mo_20 d_Mo_watch_25 (by decide) ?_
          refine n_seq s_Mo_watch_28 rfl ?_
          refine n_ald d_Mo_watch_29 ⟨by decide, by decide⟩ (rfl) (hn42) ?_
          rw [w1]
          refine n_icmp_ge (tgt := 54) d_Mo_watch_30 (by decide) (fun hbr => absurd hbr (nI_ge hkl (by omega))) (fun hbr => ?_)
          refine n_seq s_Mo_watch_33 rfl ?_
          refine n_geta f_Mo_24 d_Mo_watch_34 (by decide) ?_
          refine n_seq s_Mo_watch_37 rfl ?_
          refine n_ald d_Mo_watch_43 ⟨by decide, by decide⟩ (n16) ((show 16 * n + k < 67200 by omega)) ?_
          rw [show ar' 4 (16 * n + k) = nI y from w4 k y hwk]
          refine n_seq s_Mo_watch_44 rfl ?_
          refine n_icmp_eq (tgt := 54) d_Mo_watch_45 (by decide) (fun h3 => ?_) (fun h3 => ?_)
          · skip
            have hyi : y = i := (nI_eqI (by omega) (by omega)).mp h3
            subst hyi
            have e1 : nI wl.length - 1 = nI (wl.length - 1) := pk_sub (b := 1) (by omega)
            have hW := a2.del (g3' := upd (ar' 3) n (nI (wl.length - 1))) (g4' := sh (ar' 4) (16 * n + k) (16 * n + (wl.length - 1))) hi hwk pk_us (fun j hj => sh_out (by omega)) (fun j h1 h2 => sh_in (by omega) (by omega))
            have hbc := hW.bc
            rw [List.length_eraseIdx_of_lt hkl] at hbc
            have loop2 : ∀ r b, b + r = 16 * n + (wl.length - 1) → 16 * n + k ≤ b → GN κ m_Mo_watch (d + 2) m ad (arS ar' [(3, upd (ar' 3) n (nI (wl.length - 1))), (4, sh (ar' 4) (16 * n + k) b)]) nm' sc' 111 [some (.ref m), some (.int (nI y)), some (.int (nI n)), some (.int (nI k)), some (.int (nI b))] [] (fun v ar' nm' sc' => (¬ okC tp (nI y) ∧ v = some (.int (-1)) ∧ NY ar' nm' sc' (K + 1) f J C B W tp nw) ∨ (okC tp (nI y) ∧ v = some (.int (bcF (wXor (f (ni tp)) (nI y)).2.2.2.2.2)) ∧ NY ar' nm' sc' (K + 1) (fU f (ni tp) (wXor (f (ni tp)) (nI y))) J C B W tp nw)) := by
              intro r
              induction r with
              | zero =>
                intro b hb hkb
                have hbe : b = 16 * n + (wl.length - 1) := by omega
                subst hbe
                refine n_seq s_Mo_watch_111 rfl ?_
                refine n_geta f_Mo_20 d_Mo_watch_118 (by decide) ?_
                refine n_seq s_Mo_watch_121 rfl ?_
                refine n_aldL d_Mo_watch_122 ⟨by decide, by decide⟩ rfl (rfl) (hn42) ?_
                rw [pk_us]
                refine n_seq s_Mo_watch_123 rfl ?_
                rw [n16]
                refine n_icmp_ge (tgt := 149) d_Mo_watch_124 (by decide) (fun hbr => ?_) (fun hbr => absurd hbr (fun h => h (nI_le (Nat.le_refl _) (by omega))))
                refine n_seq s_Mo_watch_149 rfl ?_
                refine n_geta f_Mo_20 d_Mo_watch_150 (by decide) ?_
                refine n_seq s_Mo_watch_153 rfl ?_
                refine n_aldL d_Mo_watch_154 ⟨by decide, by decide⟩ rfl (rfl) (hn42) ?_
                rw [pk_us]
                exact n_iret rfl d_Mo_watch_155 (Or.inr ⟨hok, congrArg (fun z => some (Value.int z)) hbc.symm, K', ls', hK', fin _ _ _ (fun k hk hkn => ⟨pk_un hkn, fun j hj => sh_out (by omega)⟩) hW⟩)
              | succ r ih2 =>
                intro b hb hkb
                refine n_seq s_Mo_watch_111 rfl ?_
                refine n_geta f_Mo_20 d_Mo_watch_118 (by decide) ?_
                refine n_seq s_Mo_watch_121 rfl ?_
                refine n_aldL d_Mo_watch_122 ⟨by decide, by decide⟩ rfl (rfl) (hn42) ?_
                rw [pk_us]
                refine n_seq s_Mo_watch_123 rfl ?_
                rw [n16]
                refine n_icmp_ge (tgt := 149) d_Mo_watch_124 (by decide) (fun hbr => absurd hbr (nI_ge (by omega) (by omega))) (fun hbr => ?_)
                refine n_seq s_Mo_watch_127 rfl ?_
                refine n_geta f_Mo_24 d_Mo_watch_128 (by decide) ?_
                refine n_seq s_Mo_watch_131 rfl ?_
                refine n_geta f_Mo_24 d_Mo_watch_134 (by decide) ?_
                refine n_seq s_Mo_watch_137 rfl ?_
                refine n_aldL d_Mo_watch_141 ⟨by decide, by decide⟩ rfl (nI_1 _) ((show b + 1 < 67200 by omega)) ?_
                refine n_astL d_Mo_watch_142 ⟨by decide, by decide⟩ rfl (rfl) ((show b < 67200 by omega)) ?_
                rw [sh_s hkb]
                refine n_seq s_Mo_watch_143 rfl ?_
                rw [nI_1]
                exact ih2 (b + 1) (by omega) (by omega)
            refine n_st hst ?_
            refine n_seq s_Mo_watch_54 rfl ?_
            refine n_geta f_Mo_20 d_Mo_watch_56 (by decide) ?_
            refine n_seq s_Mo_watch_59 rfl ?_
            refine n_aldL d_Mo_watch_60 ⟨by decide, by decide⟩ rfl (rfl) (hn42) ?_
            rw [w1]
            refine n_icmp_ne (tgt := 93) d_Mo_watch_61 (by decide) (fun hbr => ?_) (fun hbr => absurd hbr (fun e => absurd ((nI_eqI (by omega) (by omega)).mp e) (by omega)))
            refine n_seq s_Mo_watch_93 rfl ?_
            refine n_geta f_Mo_20 d_Mo_watch_94 (by decide) ?_
            refine n_seq s_Mo_watch_97 rfl ?_
            refine n_aldL d_Mo_watch_99 ⟨by decide, by decide⟩ rfl (rfl) (hn42) ?_
            rw [w1]
            refine n_seq s_Mo_watch_100 rfl ?_
            rw [e1]
            refine n_astL d_Mo_watch_102 ⟨by decide, by decide⟩ rfl (rfl) (hn42) ?_
            refine n_seq s_Mo_watch_103 rfl ?_
            rw [n16]
            have := loop2 (wl.length - 1 - k) (16 * n + k) (by omega) (Nat.le_refl _)
            rw [sh_0] at this
            exact this
          · skip
            refine n_seq s_Mo_watch_48 rfl ?_
            rw [nI_1]
            refine ih (k + 1) (by omega) (fun j hj e => ?_)
            by_cases hjk : j = k
            · rw [hjk, hwk] at e
              cases e
              exact h3 rfl
            · exact hno j (by omega) e
      refine n_seq s_Mo_watch_20 rfl ?_
      exact loop wl.length 0 (by omega) (fun j hj => absurd hj (Nat.not_lt_zero _))
    · skip
      exact bad (fun q => of_decide_eq_false (b2i_0.mp h2) q.2)
end NP5
