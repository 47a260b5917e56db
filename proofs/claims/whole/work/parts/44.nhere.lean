/-! the reference: a name is found, or made -/
def Agr (ar ar' : Ar) (k : Nat) : Prop := ar' 2 k = ar 2 k ∧ ar' 3 k = ar 3 k ∧ ar' 5 k = ar 5 k ∧ ar' 6 k = ar 6 k ∧ ar' 7 k = ar 7 k ∧ (∀ j, j < 16 → ar' 4 (16 * k + j) = ar 4 (16 * k + j)) ∧ ∀ j, j < 5 → ar' 8 (5 * k + j) = ar 8 (5 * k + j) ∧ ar' 9 (5 * k + j) = ar 9 (5 * k + j) ∧ ar' 10 (5 * k + j) = ar 10 (5 * k + j)
theorem nodup_le : ∀ (n : Nat) {l : List Nat}, l.Nodup → (∀ c, c ∈ l → c < n) → l.length ≤ n := by
  intro n
  induction n with
  | zero =>
    intro l _ h
    cases l with
    | nil => exact Nat.le_refl _
    | cons a l => exact absurd (h a List.mem_cons_self) (Nat.not_lt_zero _)
  | succ n ih =>
    intro l hd h
    have h1 := ih (l := l.erase n) (hd.erase n) (fun c hc => by
      have h2 := h c (List.mem_of_mem_erase hc)
      have h3 : c ≠ n := fun e => by
        subst e
        exact absurd hc (List.Nodup.not_mem_erase hd)
      omega)
    have h2 := List.length_erase_of_mem (a := n) (l := l)
    by_cases hm : n ∈ l
    · have := h2 hm; omega
    · rw [List.erase_of_not_mem hm] at h1; omega
theorem WL.len {g3 g4 : Nat → Int32} {k : Nat} {wa : Int32} {wl : List Nat} (h : WL g3 g4 k wa wl) : wl.length ≤ 16 := nodup_le 16 h.2.1 h.2.2.1
theorem WL.agr {g3 g4 g3' g4' : Nat → Int32} {k : Nat} {wa : Int32} {wl : List Nat} (h : WL g3 g4 k wa wl) (h3 : g3' k = g3 k) (h4 : ∀ j, j < 16 → g4' (16 * k + j) = g4 (16 * k + j)) : WL g3' g4' k wa wl := by
  have hl := h.len
  obtain ⟨a1, a2, a3, a4, a5, a6⟩ := h
  exact ⟨h3.trans a1, a2, a3, a4.keep (fun j hj => h4 j (by omega)), a5, a6⟩
theorem ThM.agr {ar ar' : Ar} {k : Nat} {t : Th} (h : ThM ar k t) (g : Agr ar ar' k) : ThM ar' k t := by
  obtain ⟨a1, ⟨wl, a2⟩, a3, a4, a5, a6, a7, a8, a9, a10, a11⟩ := h
  obtain ⟨g1, g2, g3, g4, g5, g6, g7⟩ := g
  exact ⟨g1.trans a1, ⟨wl, a2.agr g2 g6⟩, g3.trans a3, a4, fun hl => g4.trans (a5 hl), g5.trans a6, a7, a8.keep (fun j hj => (g7 j (by omega)).1), a9.keep (fun j hj => (g7 j (by omega)).2.1), a10.keep (fun j hj => (g7 j (by omega)).2.2), a11⟩
theorem RP.nil {α : Type} {g : Nat → Int32} {R : Int32 → α → Prop} : RP g R ([] : List α) := fun j x hx => by simp at hx
theorem wbit_z : ∀ c, c < 16 → wbit 0 c = false := by decide
theorem ThM.fresh {ar : Ar} {k : Nat} {x : Int32} (h2 : ar 2 k = 0) (h3 : ar 3 k = 0) (h5 : ar 5 k = -1) (h7 : ar 7 k = 0) : ThM ar k (newT x) := ⟨h2, ⟨[], h3, List.nodup_nil, (fun c hc => by simp at hc), RP.nil, (fun c hc => by rw [show (newT x).2.2.2.2.2 = 0 from rfl, wbit_z c hc]; simp), 0, by decide, rfl⟩, h5, Or.inl rfl, (fun h => by cases h), h7, Nat.zero_le _, RP.nil, RP.nil, RP.nil, fun w hw => by cases hw⟩
def lsN (K : Nat) (tp : List Nat) (ls : Nat → List Nat) : Nat → List Nat := fun k => if k = K then tp else ls k
theorem lsN_s {K : Nat} {tp : List Nat} {ls : Nat → List Nat} : lsN K tp ls K = tp := if_pos rfl
theorem lsN_n {K k : Nat} {tp : List Nat} {ls : Nat → List Nat} (h : k ≠ K) : lsN K tp ls k = ls k := if_neg h
theorem Nx.mono {K : Nat} {ls : Nat → List Nat} {tp : List Nat} {v x : Int32} (h : Nx K ls v x) : Nx (K + 1) (lsN K tp ls) v x := by
  obtain ⟨k, h1, h2, h3⟩ := h
  exact ⟨k, by omega, h2, by rw [lsN_n (by omega)]; exact h3⟩
section NH
variable {κ : Nat × Nat} {d m : Nat} {ad : Nat → Nat} {ar : Ar} {nm : Nat → Int64} {sc : Sc} {K : Nat} {ls : Nat → List Nat} {f : Int32 → Th} {J : List Wt} {C : List (Int32 × Int32)} {B : Nat → List (Int32 × Int32)} {W : List Int32} {tp : List Nat} {nw : Int32}
theorem NS.new (h : NS ar nm sc K ls f J C B W tp nw) (hK : K < 4000) (hne : tp ≠ []) (hno : ∀ j, j < K → ls j ≠ tp) : NS (arS ar [(2, upd (ar 2) K 0), (3, upd (ar 3) K 0), (5, upd (ar 5) K (-1)), (7, upd (ar 7) K 0)]) (vp_updL nm K (lN (cK tp 6))) (scR sc 23 (nI (K + 1))) (K + 1) (lsN K tp ls) f J C B W tp nw := by
  obtain ⟨⟨n1, n2, n3, n4⟩, ⟨t1, t2, t3⟩, ⟨j1, j2, j3, j4, j5⟩, ⟨c1, c2, c3, c4⟩, hb, hw, hp, hnw⟩ := h
  obtain ⟨p1, p2, p3, p4⟩ := id hp
  have hf : f (ni tp) = newT (ni tp) := t2 _ (fun k hk e => hno k hk (ni_inj p2 (n3 k hk).2.1 p3 (n3 k hk).2.2.1 e).symm)
  refine ⟨⟨rfl, by omega, fun k hk => ?_, fun k k' hk hk' e => ?_⟩, ⟨fun k hk => ?_, fun x hx => ?_, t3⟩, ⟨j1, j2, j3.mono (fun v x h => h.mono), j4, j5⟩, ⟨c1, c2, c3.mono (fun v x h => h.mono), c4⟩, fun c hc => ?_, hw, hp, hnw⟩
  · by_cases hkK : k = K
    · subst hkK
      rw [lsN_s, pk_uLs]
      exact ⟨rfl, p2, p3, hne⟩
    · rw [lsN_n hkK, pk_uLn hkK]
      exact n3 k (by omega)
  · by_cases h1 : k = K
    · by_cases h2 : k' = K
      · omega
      · rw [h1, lsN_s, lsN_n h2] at e
        exact absurd e.symm (hno k' (by omega))
    · by_cases h2 : k' = K
      · rw [h2, lsN_s, lsN_n h1] at e
        exact absurd e (hno k (by omega))
      · rw [lsN_n h1, lsN_n h2] at e
        exact n4 k k' (by omega) (by omega) e
  · by_cases hkK : k = K
    · subst hkK
      rw [lsN_s, hf]
      exact ThM.fresh pk_us pk_us pk_us pk_us
    · rw [lsN_n hkK]
      exact (t1 k (by omega)).agr ⟨pk_un hkK, pk_un hkK, pk_un hkK, rfl, pk_un hkK, fun _ _ => rfl, fun _ _ => ⟨rfl, rfl, rfl⟩⟩
  · refine t2 x (fun k hk => ?_)
    have := hx k (by omega)
    rwa [lsN_n (by omega)] at this
  · obtain ⟨b1, b2, b3, b4⟩ := hb c hc
    exact ⟨b1, b2, b3.mono (fun v x h => h.mono), b4⟩
theorem m_here (h : NS ar nm sc K ls f J C B W tp nw) (hne : tp ≠ []) (hK : K < 4000) : GN κ m_Mo_here (d + 1) m ad ar nm sc 0 [some (.ref m), none, none, none] [] (fun v ar' nm' sc' => ∃ n K' ls', NS ar' nm' sc' K' ls' f J C B W tp nw ∧ n < K' ∧ ls' n = tp ∧ v = some (.int (nI n)) ∧ K' ≤ K + 1) := by
  obtain ⟨⟨n1, n2, n3, n4⟩, ht, hj, hc, hb, hw, hp, hnw⟩ := id h
  obtain ⟨p1, p2, p3, p4⟩ := id hp
  have loop : ∀ q k, k + q = K → (∀ j, j < k → ls j ≠ tp) → GN κ m_Mo_here (d + 1) m ad ar nm sc 7 [some (.ref m), some (.long (lN (cK tp 6))), none, some (.int (nI k))] [] (fun v ar' nm' sc' => ∃ n K' ls', NS ar' nm' sc' K' ls' f J C B W tp nw ∧ n < K' ∧ ls' n = tp ∧ v = some (.int (nI n)) ∧ K' ≤ K + 1) := by
    intro q
    induction q with
    | zero =>
      intro k hk hno
      have : k = K := by omega
      subst this
      have hst : ar = arS ar [(2, ar 2), (3, ar 3), (5, ar 5), (7, ar 7)] := arS_id _ (by simp)
      refine n_st hst ?_
      refine n_seq s_Mo_here_7 rfl ?_
      refine n_gets f_Mo_85 d_Mo_here_9 rfl ?_
      rw [n1]
      refine n_icmp_ge (tgt := 34) d_Mo_here_12 (by decide) (fun hbr => ?_) (fun hbr => absurd hbr (fun h => h (nI_le (Nat.le_refl _) (by omega))))
      refine n_seq s_Mo_here_34 rfl ?_
      refine n_geta f_Mo_13 d_Mo_here_35 (by decide) ?_
      refine n_seq s_Mo_here_38 rfl ?_
      refine n_gets f_Mo_85 d_Mo_here_39 rfl ?_
      rw [n1]
      refine n_seq s_Mo_here_42 rfl ?_
      refine n_last d_Mo_here_43 (rfl) ((by omega)) ?_
      refine n_seq s_Mo_here_44 rfl ?_
      refine n_geta f_Mo_17 d_Mo_here_45 (by decide) ?_
      refine n_seq s_Mo_here_48 rfl ?_
      refine n_gets f_Mo_85 d_Mo_here_49 rfl ?_
      rw [n1]
      refine n_seq s_Mo_here_52 rfl ?_
      refine n_astL d_Mo_here_53 ⟨by decide, by decide⟩ rfl (rfl) ((show k < 4200 by omega)) ?_
      refine n_seq s_Mo_here_54 rfl ?_
      refine n_geta f_Mo_20 d_Mo_here_55 (by decide) ?_
      refine n_seq s_Mo_here_58 rfl ?_
      refine n_gets f_Mo_85 d_Mo_here_59 rfl ?_
      rw [n1]
      refine n_seq s_Mo_here_62 rfl ?_
      refine n_astL d_Mo_here_63 ⟨by decide, by decide⟩ rfl (rfl) ((show k < 4200 by omega)) ?_
      refine n_seq s_Mo_here_64 rfl ?_
      refine n_geta f_Mo_27 d_Mo_here_65 (by decide) ?_
      refine n_seq s_Mo_here_68 rfl ?_
      refine n_gets f_Mo_85 d_Mo_here_69 rfl ?_
      rw [n1]
      refine n_seq s_Mo_here_72 rfl ?_
      refine n_astL d_Mo_here_73 ⟨by decide, by decide⟩ rfl (rfl) ((show k < 4200 by omega)) ?_
      refine n_seq s_Mo_here_74 rfl ?_
      refine n_geta f_Mo_33 d_Mo_here_75 (by decide) ?_
      refine n_seq s_Mo_here_78 rfl ?_
      refine n_gets f_Mo_85 d_Mo_here_79 rfl ?_
      rw [n1]
      refine n_seq s_Mo_here_82 rfl ?_
      refine n_astL d_Mo_here_83 ⟨by decide, by decide⟩ rfl (rfl) ((show k < 4200 by omega)) ?_
      refine n_seq s_Mo_here_84 rfl ?_
      refine n_gets f_Mo_85 d_Mo_here_86 rfl ?_
      rw [n1]
      refine n_seq s_Mo_here_89 rfl ?_
      rw [nI_1]
      refine n_puts f_Mo_85 d_Mo_here_92 rfl ?_
      exact n_iret rfl d_Mo_here_95 (⟨k, k + 1, _, h.new hK hne hno, by omega, lsN_s, rfl, Nat.le_refl _⟩)
    | succ q ih =>
      intro k hk hno
      obtain ⟨e1, e2, e3, e4⟩ := n3 k (by omega)
      refine n_seq s_Mo_here_7 rfl ?_
      refine n_gets f_Mo_85 d_Mo_here_9 rfl ?_
      rw [n1]
      refine n_icmp_ge (tgt := 34) d_Mo_here_12 (by decide) (fun hbr => absurd hbr (nI_ge (by omega) (by omega))) (fun hbr => ?_)
      refine n_seq s_Mo_here_15 rfl ?_
      refine n_geta f_Mo_13 d_Mo_here_16 (by decide) ?_
      refine n_seq s_Mo_here_19 rfl ?_
      refine n_lald d_Mo_here_20 (rfl) ((by omega)) ?_
      rw [e1]
      refine n_seq s_Mo_here_21 rfl ?_
      refine n_lcmp d_Mo_here_22  ?_
      refine n_if_ne (tgt := 28) d_Mo_here_23 (by decide) (fun h1 => ?_) (fun h1 => ?_)
      · skip
        refine n_seq s_Mo_here_28 rfl ?_
        rw [nI_1]
        refine ih (k + 1) (by omega) (fun j hj e => ?_)
        by_cases hjk : j = k
        · subst hjk
          exact h1 ((lg_cmp_eq _ _).mpr (by rw [e]))
        · exact hno j (by omega) e
      · skip
        refine n_seq s_Mo_here_26 rfl ?_
        exact n_iret rfl d_Mo_here_27 (⟨k, K, ls, h, by omega, (lN_cK e2 p2 e3 p3).mp ((lg_cmp_eq _ _).mp h1), rfl, by omega⟩)
  refine n_seq s_Mo_here_0 rfl ?_
  refine n_invV l_Mo_81 d_Mo_here_1 rfl ⟨rfl, Nat.le_of_ble_eq_true rfl, Nat.le_of_ble_eq_true rfl⟩ (m_code hp) ?_
  rintro v ar' nm' sc' ⟨rfl, rfl, rfl, rfl⟩
  refine n_seq s_Mo_here_4 rfl ?_
  exact loop K 0 (by omega) (fun j hj => absurd hj (Nat.not_lt_zero _))
end NH
