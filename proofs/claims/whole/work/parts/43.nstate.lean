/-! the reference's state -/
def Nx (K : Nat) (ls : Nat → List Nat) (v x : Int32) : Prop := ∃ k, k < K ∧ v = nI k ∧ x = ni (ls k)
def MN (nm : Nat → Int64) (sc : Sc) (K : Nat) (ls : Nat → List Nat) : Prop := sc 23 = nI K ∧ K ≤ 4000 ∧ (∀ k, k < K → nm k = lN (cK (ls k) 6) ∧ okL (ls k) ∧ (ls k).length ≤ 6 ∧ ls k ≠ []) ∧ ∀ k k', k < K → k' < K → ls k = ls k' → k = k'
def hoM (x : Int32) : Int32 := if x = -2 then -1 else x
def WL (g3 g4 : Nat → Int32) (k : Nat) (wa : Int32) (wl : List Nat) : Prop := g3 k = nI wl.length ∧ wl.Nodup ∧ (∀ c, c ∈ wl → c < 16) ∧ RP (fun j => g4 (16 * k + j)) (fun v c => v = nI c) wl ∧ (∀ c, c < 16 → (wbit wa c = true ↔ c ∈ wl)) ∧ ∃ q, q < 65536 ∧ wa = nI q
def RW (ar : Ar) (k : Nat) (row : List Wt) : Prop := ar 7 k = nI row.length ∧ row.length ≤ 5 ∧ RP (fun j => ar 8 (5 * k + j)) (fun v (w : Wt) => v = w.1) row ∧ RP (fun j => ar 9 (5 * k + j)) (fun v (w : Wt) => v = w.2.1) row ∧ RP (fun j => ar 10 (5 * k + j)) (fun v (w : Wt) => v = w.2.2) row ∧ ∀ w, w ∈ row → ∃ c, c < 16 ∧ w.1 = nI c
def ThM (ar : Ar) (k : Nat) (t : Th) : Prop := ar 2 k = t.2.2.2.2.1 ∧ (∃ wl, WL (ar 3) (ar 4) k t.2.2.2.2.2 wl) ∧ ar 5 k = hoM t.2.2.1 ∧ (t.2.2.1 = -2 ∨ ∃ c, c < 16 ∧ t.2.2.1 = nI c) ∧ (lent t = true → ar 6 k = t.2.2.2.1) ∧ RW ar k t.2.1
def MT (ar : Ar) (K : Nat) (ls : Nat → List Nat) (f : Int32 → Th) : Prop := (∀ k, k < K → ThM ar k (f (ni (ls k)))) ∧ (∀ x, (∀ k, k < K → x ≠ ni (ls k)) → f x = newT x) ∧ ∀ x, (f x).1 = x
def MJ (g12 g13 g14 : Nat → Int32) (c : Int32) (K : Nat) (ls : Nat → List Nat) (J : List Wt) : Prop := c = nI J.length ∧ J.length ≤ 30 ∧ RP g12 (fun v (w : Wt) => Nx K ls v w.1) J ∧ RP g13 (fun v (w : Wt) => v = w.2.1) J ∧ RP g14 (fun v (w : Wt) => v = w.2.2) J
def MCa (g15 g16 : Nat → Int32) (c : Int32) (K : Nat) (ls : Nat → List Nat) (C : List (Int32 × Int32)) : Prop := c = nI C.length ∧ C.length ≤ 4 ∧ RP g15 (fun v w => Nx K ls v w.1) C ∧ RP g16 (fun v w => v = w.2) C
def MB (g17 g18 g19 : Nat → Int32) (K : Nat) (ls : Nat → List Nat) (B : Nat → List (Int32 × Int32)) : Prop := ∀ c, c < 16 → g19 c = nI (B c).length ∧ (B c).length ≤ 8 ∧ RP (fun j => g17 (8 * c + j)) (fun v w => Nx K ls v w.1) (B c) ∧ RP (fun j => g18 (8 * c + j)) (fun v w => v = w.2) (B c)
def MW (g11 : Nat → Int32) (c : Int32) (W : List Int32) : Prop := c = nI W.length ∧ W.length ≤ 4000 ∧ RP g11 (fun v x => v = x) W
def MP (g0 : Nat → Int32) (c : Int32) (tp : List Nat) : Prop := c = nI tp.length ∧ okL tp ∧ tp.length ≤ 6 ∧ RP g0 (fun v l => v = nI (l + 96)) tp
def NS (ar : Ar) (nm : Nat → Int64) (sc : Sc) (K : Nat) (ls : Nat → List Nat) (f : Int32 → Th) (J : List Wt) (C : List (Int32 × Int32)) (B : Nat → List (Int32 × Int32)) (W : List Int32) (tp : List Nat) (nw : Int32) : Prop := MN nm sc K ls ∧ MT ar K ls f ∧ MJ (ar 12) (ar 13) (ar 14) (sc 25) K ls J ∧ MCa (ar 15) (ar 16) (sc 26) K ls C ∧ MB (ar 17) (ar 18) (ar 19) K ls B ∧ MW (ar 11) (sc 24) W ∧ MP (ar 0) (sc 21) tp ∧ sc 22 = nw
section NS1
variable {κ : Nat × Nat} {d m : Nat} {ad : Nat → Nat} {ar : Ar} {nm : Nat → Int64} {sc : Sc}
theorem m_code {tp : List Nat} (hp : MP (ar 0) (sc 21) tp) : GN κ m_Mo_code d m ad ar nm sc 0 [some (.ref m), none, none, none] [] (fun v ar' nm' sc' => ar' = ar ∧ nm' = nm ∧ sc' = sc ∧ v = some (.long (lN (cK tp 6)))) := by
  obtain ⟨p1, p2, p3, p4⟩ := hp
  have loop : ∀ q k, k + q = 6 → GN κ m_Mo_code d m ad ar nm sc 8 [some (.ref m), some (.long (lN (cK tp k))), none, some (.int (nI k))] [] (fun v ar' nm' sc' => ar' = ar ∧ nm' = nm ∧ sc' = sc ∧ v = some (.long (lN (cK tp 6)))) := by
    intro q
    induction q with
    | zero =>
      intro k hk
      have : k = 6 := by omega
      subst this
      refine n_seq s_Mo_code_8 rfl ?_
      refine n_icmp_ge (tgt := 49) d_Mo_code_11 (by decide) (fun hbr => ?_) (fun hbr => absurd hbr (fun h => h (nI_le (Nat.le_refl 6) (by omega))))
      refine n_seq s_Mo_code_49 rfl ?_
      exact n_lret rfl d_Mo_code_50 (⟨rfl, rfl, rfl, rfl⟩)
    | succ q ih =>
      intro k hk
      refine n_seq s_Mo_code_8 rfl ?_
      refine n_icmp_ge (tgt := 49) d_Mo_code_11 (by decide) (fun hbr => absurd hbr (nI_ge (a := k) (b := 6) (by omega) (by omega))) (fun hbr => ?_)
      refine n_ldc2 k_Mo_79 d_Mo_code_14  ?_
      refine n_seq s_Mo_code_17 rfl ?_
      refine n_gets f_Mo_75 d_Mo_code_21 rfl ?_
      rw [p1]
      have hs : cK tp (k + 1) = 27 * cK tp k + dg tp k := rfl
      refine n_icmp_ge (tgt := 39) d_Mo_code_24 (by decide) (fun h1 => ?_) (fun h1 => ?_)
      · skip
        have h2 := (nI_leI (by omega) (by omega)).mp h1
        rw [dg_out h2] at hs
        refine n_seq s_Mo_code_39 rfl ?_
        rw [nI_1, show (27 : Int64) = lN 27 from rfl, lN_mul, show (0 : Int32).toInt64 = lN 0 from rfl, lN_add, ← hs]
        exact ih (k + 1) (by omega)
      · skip
        have h2 : k < tp.length := by
          rw [nI_leI (by omega) (by omega)] at h1; omega
        refine n_seq s_Mo_code_27 rfl ?_
        refine n_geta f_Mo_7 d_Mo_code_28 (by decide) ?_
        refine n_seq s_Mo_code_31 rfl ?_
        refine n_ald d_Mo_code_32 ⟨by decide, by decide⟩ (rfl) ((show k < 6 by omega)) ?_
        rw [p4 k _ (dg_at p2 h2).1]
        refine n_seq s_Mo_code_33 rfl ?_
        rw [nI_1, show (96 : Int32) = nI 96 from rfl, pk_sub (by omega), Nat.add_sub_cancel, nI_l (by have := dg_le p2 k; omega), show (27 : Int64) = lN 27 from rfl, lN_mul, lN_add, ← hs]
        exact ih (k + 1) (by omega)
  refine n_seq s_Mo_code_0 rfl ?_
  refine n_gets f_Mo_75 d_Mo_code_1 rfl ?_
  rw [p1]
  refine n_seq s_Mo_code_4 rfl ?_
  rw [nI_l (by omega)]
  exact loop 6 0 rfl
theorem m_write {n : Nat} {ls : List Nat} (hn : n < 4200) (h1 : nm n = lN (cK ls 6)) (ho : okL ls) (h6 : ls.length ≤ 6) : GN κ m_Mo_write d m ad ar nm sc 0 [some (.ref m), some (.int (nI n)), none, none, none] [] (fun v ar' nm' sc' => v = none ∧ nm' = nm ∧ sc' = scR sc 21 (nI ls.length) ∧ ∃ g0 g20, ar' = arS ar [(0, g0), (20, g20)] ∧ RP g0 (fun v l => v = nI (l + 96)) ls) := by
  have loop2 : ∀ q k v (g0 g20 : Nat → Int32), k + q = ls.length → (∀ j, j < 6 → g20 j = nI (dg ls j)) → (∀ j, j < k → g0 j = nI (dg ls j + 96)) → GN κ m_Mo_write d m ad (arS ar [(0, g0), (20, g20)]) nm (scR sc 21 (nI ls.length)) 49 [some (.ref m), some (.int (nI n)), some (.long v), none, some (.int (nI k))] [] (fun v ar' nm' sc' => v = none ∧ nm' = nm ∧ sc' = scR sc 21 (nI ls.length) ∧ ∃ g0 g20, ar' = arS ar [(0, g0), (20, g20)] ∧ RP g0 (fun v l => v = nI (l + 96)) ls) := by
    intro q
    induction q with
    | zero =>
      intro k v g0 g20 hk hg hg0
      refine n_seq s_Mo_write_49 rfl ?_
      refine n_gets f_Mo_75 d_Mo_write_52 rfl ?_
      refine n_icmp_ge (tgt := 81) d_Mo_write_55 (by decide) (fun hbr => ?_) (fun hbr => absurd hbr (fun h => h (nI_le (show ls.length ≤ k by omega) (by omega))))
      exact n_vret rfl d_Mo_write_81 (⟨rfl, rfl, rfl, g0, g20, rfl, fun j l hl => by have h2 := (List.getElem?_eq_some_iff.mp hl).1; have h3 := (dg_at ho h2).1; rw [hl] at h3; cases h3; exact hg0 j (by omega)⟩)
    | succ q ih =>
      intro k v g0 g20 hk hg hg0
      refine n_seq s_Mo_write_49 rfl ?_
      refine n_gets f_Mo_75 d_Mo_write_52 rfl ?_
      refine n_icmp_ge (tgt := 81) d_Mo_write_55 (by decide) (fun hbr => absurd hbr (nI_ge (show k < ls.length by omega) (by omega))) (fun hbr => ?_)
      refine n_seq s_Mo_write_58 rfl ?_
      refine n_geta f_Mo_7 d_Mo_write_59 (by decide) ?_
      refine n_seq s_Mo_write_62 rfl ?_
      refine n_geta f_Mo_72 d_Mo_write_65 (by decide) ?_
      refine n_seq s_Mo_write_68 rfl ?_
      refine n_aldL d_Mo_write_70 ⟨by decide, by decide⟩ rfl (rfl) ((show k < 6 by omega)) ?_
      rw [hg k (by omega)]
      refine n_seq s_Mo_write_71 rfl ?_
      rw [show (96 : Int32) = nI 96 from rfl, nI_add]
      refine n_astL d_Mo_write_74 ⟨by decide, by decide⟩ rfl (rfl) ((show k < 6 by omega)) ?_
      refine n_seq s_Mo_write_75 rfl ?_
      rw [nI_1]
      refine ih (k + 1) _ _ _ (by omega) hg (fun j hj => ?_)
      by_cases hjk : j = k
      · rw [hjk, pk_us]
      · rw [pk_un hjk]; exact hg0 j (by omega)
  have loop : ∀ q (g20 : Nat → Int32), q ≤ 6 → (∀ j, q ≤ j → j < 6 → g20 j = nI (dg ls j)) → GN κ m_Mo_write d m ad (arS ar [(0, ar 0), (20, g20)]) nm sc 10 [some (.ref m), some (.int (nI n)), some (.long (lN (cK ls q))), none, some (.int (nI q + (-1)))] [] (fun v ar' nm' sc' => v = none ∧ nm' = nm ∧ sc' = scR sc 21 (nI ls.length) ∧ ∃ g0 g20, ar' = arS ar [(0, g0), (20, g20)] ∧ RP g0 (fun v l => v = nI (l + 96)) ls) := by
    intro q
    induction q with
    | zero =>
      intro g20 hq hg
      refine n_seq s_Mo_write_10 rfl ?_
      refine n_if_lt (tgt := 40) d_Mo_write_12 (by decide) (fun hbr => ?_) (fun hbr => absurd hbr (fun h => h (by decide)))
      refine n_seq s_Mo_write_40 rfl ?_
      rw [lN_i]
      refine n_puts f_Mo_75 d_Mo_write_43 rfl ?_
      refine n_seq s_Mo_write_46 rfl ?_
      exact loop2 ls.length 0 _ _ _ (by omega) (fun j hj => hg j (Nat.zero_le _) hj) (fun j hj => absurd hj (Nat.not_lt_zero _))
    | succ q ih =>
      intro g20 hq hg
      have c6 := cK_63 ho h6 (k := q + 1) hq
      have hs : cK ls (q + 1) = 27 * cK ls q + dg ls q := rfl
      have h26 := dg_le ho q
      rw [pk_m1]
      refine n_seq s_Mo_write_10 rfl ?_
      refine n_if_lt (tgt := 40) d_Mo_write_12 (by decide) (fun hbr => absurd hbr (nI_pos (by omega))) (fun hbr => ?_)
      refine n_seq s_Mo_write_15 rfl ?_
      refine n_geta f_Mo_72 d_Mo_write_16 (by decide) ?_
      refine n_seq s_Mo_write_19 rfl ?_
      refine n_ldc2 k_Mo_79 d_Mo_write_22  ?_
      refine n_lrem d_Mo_write_25 (by decide) ?_
      rw [show (27 : Int64) = lN 27 from rfl, pk_lRem (by omega) (by decide) (by decide)]
      refine n_seq s_Mo_write_26 rfl ?_
      rw [lN_i, show cK ls (q + 1) % 27 = dg ls q by omega]
      refine n_astL d_Mo_write_27 ⟨by decide, by decide⟩ rfl (rfl) ((show q < 6 by omega)) ?_
      refine n_seq s_Mo_write_28 rfl ?_
      refine n_ldc2 k_Mo_79 d_Mo_write_29  ?_
      refine n_ldiv d_Mo_write_32 (by decide) ?_
      rw [show (27 : Int64) = lN 27 from rfl, pk_lDiv (by omega) (by decide) (by decide), show cK ls (q + 1) / 27 = cK ls q by omega]
      refine n_seq s_Mo_write_33 rfl ?_
      refine ih _ (by omega) (fun j h1 h2 => ?_)
      by_cases hjk : j = q
      · rw [hjk, pk_us]
      · rw [pk_un hjk]; exact hg j (by omega) h2
  have hst : ar = arS ar [(0, ar 0), (20, ar 20)] := arS_id _ (by simp)
  refine n_st hst ?_
  refine n_seq s_Mo_write_0 rfl ?_
  refine n_geta f_Mo_13 d_Mo_write_1 (by decide) ?_
  refine n_seq s_Mo_write_4 rfl ?_
  refine n_lald d_Mo_write_5 (rfl) (hn) ?_
  rw [h1]
  refine n_seq s_Mo_write_6 rfl ?_
  exact loop 6 (ar 20) (Nat.le_refl _) (fun j h1 h2 => absurd h1 (by omega))
end NS1
