/-! the reference: leases end -/
theorem fU_fU {f : Int32 → Th} {x : Int32} {a b : Th} : fU (fU f x a) x b = fU f x b := by
  funext y
  unfold fU
  by_cases h : y = x <;> simp [h]
theorem hoM_lt {ar : Ar} {k : Nat} {t : Th} (h : ThM ar k t) : ar 5 k < 0 ↔ lent t = false := by
  obtain ⟨-, -, a3, a4, -⟩ := h
  rw [a3]
  unfold hoM lent
  rcases a4 with h | ⟨c, hc, h⟩
  · rw [if_pos h, h]; decide
  · have h2 : ∀ c, c < 16 → (nI c ≠ -2 ∧ ¬ nI c < 0 ∧ (nI c != -2) = true) := by decide
    obtain ⟨e1, e2, e3⟩ := h2 c hc
    rw [h, if_neg e1, e3]
    exact ⟨fun e => absurd e e2, fun e => by cases e⟩
theorem hoM_ge {ar : Ar} {k : Nat} {t : Th} (h : ThM ar k t) : 0 ≤ ar 5 k ↔ lent t = true := by
  have := hoM_lt h
  constructor
  · intro h1
    rcases hl : lent t with _ | _
    · exact absurd (this.mpr hl) (Int32.not_lt.mpr h1)
    · rfl
  · intro h1
    exact Int32.not_lt.mp (fun h2 => by rw [this.mp h2] at h1; cases h1)
theorem hoM_v {ar : Ar} {k : Nat} {t : Th} (h : ThM ar k t) (hl : lent t = true) : ar 5 k = t.2.2.1 := by
  obtain ⟨-, -, a3, a4, -⟩ := h
  rw [a3]
  unfold hoM
  exact if_neg (fun e => by unfold lent at hl; rw [e] at hl; cases hl)
section NE
variable {κ : Nat × Nat} {d m : Nat} {ad : Nat → Nat} {ar : Ar} {nm : Nat → Int64} {sc : Sc} {K : Nat} {ls : Nat → List Nat} {f : Int32 → Th} {J : List Wt} {C : List (Int32 × Int32)} {B : Nat → List (Int32 × Int32)} {W : List Int32} {tp : List Nat} {nw : Int32}
theorem m_end {n : Nat} (h : NS ar nm sc K ls f J C B W tp nw) (hn : n < K) (hW : W.length < 4000) : GN κ m_Mo_end (d + 2) m ad ar nm sc 0 [some (.ref m), some (.int (nI n))] [] (fun v ar' nm' sc' => v = none ∧ NS ar' nm' sc' K ls (fU f (ni (ls n)) (endT nw (f (ni (ls n))))) J C (tellB (f (ni (ls n))).2.2.2.2.2 (ni (ls n), endK (f (ni (ls n)))) 16 B) (endW nw (f (ni (ls n))) W) tp nw) := by
  obtain ⟨hN, ht, hj, hc, hb, ⟨hw1, hw2, hw3⟩, hp, hnw⟩ := id h
  obtain ⟨n1, n2, n3, n4⟩ := id hN
  obtain ⟨t1, t2, t3⟩ := id ht
  obtain ⟨a1, a2, a3, a4, a5, a6, a7, a8, a9, a10, a11⟩ := id (t1 n hn)
  have hx1 := t3 (ni (ls n))
  generalize hx : ni (ls n) = x at *
  rcases htt : f x with ⟨nm0, row, ho, un, ch, wa⟩
  rw [htt] at a1 a2 a3 a4 a5 a6 a7 a8 a9 a10 a11 hx1
  dsimp only at a1 a2 a3 a4 a5 a6 a7 a8 a9 a10 a11 hx1
  have hn42 : n < 4200 := by omega
  obtain _ | ⟨w, ws⟩ := row
  · have hst : ar = arS ar [(5, ar 5)] := arS_id _ (by simp)
    refine n_st hst ?_
    refine n_seq s_Mo_end_0 rfl ?_
    refine n_geta f_Mo_33 d_Mo_end_1 (by decide) ?_
    refine n_seq s_Mo_end_4 rfl ?_
    refine n_aldL d_Mo_end_5 ⟨by decide, by decide⟩ rfl (rfl) (hn42) ?_
    rw [a6]
    refine n_if_ne (tgt := 23) d_Mo_end_6 (by decide) (fun hbr => absurd hbr (fun h => h rfl)) (fun hbr => ?_)
    refine n_seq s_Mo_end_9 rfl ?_
    refine n_geta f_Mo_27 d_Mo_end_10 (by decide) ?_
    refine n_seq s_Mo_end_13 rfl ?_
    refine n_astL d_Mo_end_15 ⟨by decide, by decide⟩ rfl (rfl) (hn42) ?_
    refine n_seq s_Mo_end_16 rfl ?_
    have hNS : NS (arS ar [(5, upd (ar 5) n (-1))]) nm sc K ls (fU f x (nm0, [], -2, un, ch, wa)) J C B W tp nw := by
      refine ⟨hN, ?_, hj, hc, hb, ⟨hw1, hw2, hw3⟩, hp, hnw⟩
      subst hx
      refine MT.upd ht hN hn (fun k hk hkn => ⟨rfl, rfl, pk_un hkn, rfl, rfl, fun _ _ => rfl, fun _ _ => ⟨rfl, rfl, rfl⟩⟩) ?_ hx1
      exact ⟨a1, a2, pk_us, Or.inl rfl, (fun h => by cases h), a6, a7, a8, a9, a10, a11⟩
    have hch := m_change (κ := κ) (d := d) (m := m) (ad := ad) (kind := 4) hNS hn
    rw [hx, fU_s, fU_fU] at hch
    refine n_invV l_Mo_92 d_Mo_end_19 rfl ⟨rfl, Nat.le_of_ble_eq_true rfl, Nat.le_of_ble_eq_true rfl⟩ (hch) ?_
    rintro v ar' nm' sc' ⟨rfl, rfl, rfl, h2⟩
    exact n_vret rfl d_Mo_end_22 (⟨rfl, h2⟩)
  · have hst : ar = arS ar [(5, ar 5), (6, ar 6), (11, ar 11)] := arS_id _ (by simp)
    have hc0 := a11 w List.mem_cons_self
    have e8 : ar 8 (5 * n) = w.1 := a8 0 w rfl
    have e9 : ar 9 (5 * n) = w.2.1 := a9 0 w rfl
    have e10 : ar 10 (5 * n) = w.2.2 := a10 0 w rfl
    have hm : (5 : Int32) * nI n = nI (5 * n) := pk_mul 5 n
    have hl : ws.length + 1 ≤ 5 := a7
    refine n_st hst ?_
    refine n_seq s_Mo_end_0 rfl ?_
    refine n_geta f_Mo_33 d_Mo_end_1 (by decide) ?_
    refine n_seq s_Mo_end_4 rfl ?_
    refine n_aldL d_Mo_end_5 ⟨by decide, by decide⟩ rfl (rfl) (hn42) ?_
    rw [a6]
    refine n_if_ne (tgt := 23) d_Mo_end_6 (by decide) (fun hbr => ?_) (fun hbr => absurd hbr (nI_ne0 (Nat.succ_pos _) (by simp only [List.length_cons]; omega)))
    refine n_seq s_Mo_end_23 rfl ?_
    refine n_geta f_Mo_27 d_Mo_end_24 (by decide) ?_
    refine n_seq s_Mo_end_27 rfl ?_
    refine n_geta f_Mo_36 d_Mo_end_29 (by decide) ?_
    refine n_seq s_Mo_end_32 rfl ?_
    refine n_aldL d_Mo_end_35 ⟨by decide, by decide⟩ rfl (hm) ((show 5 * n < 21000 by omega)) ?_
    rw [e8]
    refine n_astL d_Mo_end_36 ⟨by decide, by decide⟩ rfl (rfl) (hn42) ?_
    refine n_seq s_Mo_end_37 rfl ?_
    refine n_geta f_Mo_30 d_Mo_end_38 (by decide) ?_
    refine n_seq s_Mo_end_41 rfl ?_
    refine n_gets f_Mo_96 d_Mo_end_43 rfl ?_
    rw [hnw]
    refine n_seq s_Mo_end_46 rfl ?_
    refine n_geta f_Mo_39 d_Mo_end_47 (by decide) ?_
    refine n_seq s_Mo_end_50 rfl ?_
    refine n_aldL d_Mo_end_53 ⟨by decide, by decide⟩ rfl (hm) ((show 5 * n < 21000 by omega)) ?_
    rw [e9]
    refine n_seq s_Mo_end_54 rfl ?_
    refine n_astL d_Mo_end_55 ⟨by decide, by decide⟩ rfl (rfl) (hn42) ?_
    refine n_seq s_Mo_end_56 rfl ?_
    refine n_geta f_Mo_45 d_Mo_end_57 (by decide) ?_
    refine n_seq s_Mo_end_60 rfl ?_
    refine n_gets f_Mo_99 d_Mo_end_62 rfl ?_
    rw [hw1]
    refine n_seq s_Mo_end_65 rfl ?_
    rw [nI_1]
    refine n_puts f_Mo_99 d_Mo_end_68 rfl ?_
    refine n_seq s_Mo_end_71 rfl ?_
    refine n_gets f_Mo_96 d_Mo_end_72 rfl ?_
    rw [show scR sc 24 (nI (W.length + 1)) 22 = nw from hnw]
    refine n_seq s_Mo_end_75 rfl ?_
    refine n_geta f_Mo_42 d_Mo_end_76 (by decide) ?_
    refine n_seq s_Mo_end_79 rfl ?_
    refine n_aldL d_Mo_end_82 ⟨by decide, by decide⟩ rfl (hm) ((show 5 * n < 21000 by omega)) ?_
    rw [e10]
    refine n_seq s_Mo_end_83 rfl ?_
    refine n_astL d_Mo_end_84 ⟨by decide, by decide⟩ rfl (rfl) ((show W.length < 4200 by omega)) ?_
    refine n_seq s_Mo_end_85 rfl ?_
    refine n_invV l_Mo_102 d_Mo_end_88 rfl ⟨rfl, Nat.le_of_ble_eq_true rfl, Nat.le_of_ble_eq_true rfl⟩ (m_out (k := 0) (L := ws.length + 1) hn42 a6 hl (by omega)) ?_
    rintro v ar' nm' sc' ⟨rfl, rfl, rfl, rfl⟩
    generalize hA : arS _ _ = A
    have hNS : NS A nm' (scR sc 24 (nI (W.length + 1))) K ls (fU f x (nm0, ws, w.1, nw + w.2.1, ch, wa)) J C B (W ++ [nw - w.2.2]) tp nw := by
      subst hA
      refine ⟨hN, ?_, hj, hc, hb, ⟨?_, ?_, hw3.snoc (fun j hj => pk_un (by omega)) pk_us⟩, hp, hnw⟩
      · subst hx
        refine MT.upd ht hN hn (fun k hk hkn => ⟨rfl, rfl, pk_un hkn, pk_un hkn, pk_un hkn, fun _ _ => rfl, fun j hj => ⟨sh_out (by omega), sh_out (by omega), sh_out (by omega)⟩⟩) ?_ hx1
        refine ⟨a1, a2, ?_, Or.inr hc0, fun _ => pk_us, pk_us, by show ws.length ≤ 5; omega, ?_, ?_, ?_, fun w' hw' => a11 w' (List.mem_cons_of_mem _ hw')⟩
        · refine pk_us.trans ?_
          obtain ⟨c, hc, e⟩ := hc0
          have h2 : ∀ c, c < 16 → nI c ≠ -2 := by decide
          unfold hoM
          rw [if_neg (by rw [e]; exact h2 c hc)]
        · exact RP.erase (k := 0) a8 (Nat.succ_pos _) (fun j hj => absurd hj (Nat.not_lt_zero _)) (fun j _ hj => sh_in (by omega) (by simp at hj; omega))
        · exact RP.erase (k := 0) a9 (Nat.succ_pos _) (fun j hj => absurd hj (Nat.not_lt_zero _)) (fun j _ hj => sh_in (by omega) (by simp at hj; omega))
        · exact RP.erase (k := 0) a10 (Nat.succ_pos _) (fun j hj => absurd hj (Nat.not_lt_zero _)) (fun j _ hj => sh_in (by omega) (by simp at hj; omega))
      · rw [List.length_append]; rfl
      · rw [List.length_append]; exact hW
    have hch := m_change (κ := κ) (d := d) (m := m) (ad := ad) (kind := 2) hNS hn
    rw [hx, fU_s, fU_fU] at hch
    refine n_seq s_Mo_end_91 rfl ?_
    refine n_invV l_Mo_92 d_Mo_end_94 rfl ⟨rfl, Nat.le_of_ble_eq_true rfl, Nat.le_of_ble_eq_true rfl⟩ (hch) ?_
    rintro v ar' nm' sc' ⟨rfl, rfl, rfl, h2⟩
    exact n_vret rfl d_Mo_end_97 (⟨rfl, h2⟩)
end NE
/-- the best of the first i -/
def BestP (p : Nat → Prop) (lt : Nat → Nat → Prop) (i : Nat) (o : Option Nat) : Prop := match o with
  | none => ∀ k, k < i → ¬ p k
  | some b => b < i ∧ p b ∧ (∀ k, k < i → p k → ¬ lt k b) ∧ ∀ k, k < b → p k → lt b k
theorem BestP.no {p : Nat → Prop} {lt : Nat → Nat → Prop} {i : Nat} {o : Option Nat} (h : BestP p lt i o) (hp : ¬ p i) : BestP p lt (i + 1) o := by
  cases o with
  | none =>
    intro k hk
    by_cases e : k = i
    · rw [e]; exact hp
    · exact h k (by omega)
  | some b =>
    obtain ⟨h1, h2, h3, h4⟩ := h
    refine ⟨by omega, h2, fun k hk hpk => ?_, h4⟩
    by_cases e : k = i
    · rw [e] at hpk; exact absurd hpk hp
    · exact h3 k (by omega) hpk
theorem BestP.fst {p : Nat → Prop} {lt : Nat → Nat → Prop} {i : Nat} (hirr : ¬ lt i i) (h : BestP p lt i none) (hp : p i) : BestP p lt (i + 1) (some i) := by
  refine ⟨by omega, hp, fun k hk hpk => ?_, fun k hk hpk => absurd hpk (h k hk)⟩
  by_cases e : k = i
  · rw [e]; exact hirr
  · exact absurd hpk (h k (by omega))
theorem BestP.old {p : Nat → Prop} {lt : Nat → Nat → Prop} {i b : Nat} (h : BestP p lt i (some b)) (hl : ¬ lt i b) : BestP p lt (i + 1) (some b) := by
  obtain ⟨h1, h2, h3, h4⟩ := h
  refine ⟨by omega, h2, fun k hk hpk => ?_, h4⟩
  by_cases e : k = i
  · rw [e]; exact hl
  · exact h3 k (by omega) hpk
theorem BestP.nw {p : Nat → Prop} {lt : Nat → Nat → Prop} {i b : Nat} (hirr : ¬ lt i i) (hnt : ∀ k, p k → lt i b → ¬ lt k b → lt i k) (has : ∀ k, lt i k → ¬ lt k i) (h : BestP p lt i (some b)) (hp : p i) (hl : lt i b) : BestP p lt (i + 1) (some i) := by
  obtain ⟨h1, h2, h3, h4⟩ := h
  refine ⟨by omega, hp, fun k hk hpk => ?_, fun k hk hpk => hnt k hpk hl (h3 k hk hpk)⟩
  by_cases e : k = i
  · rw [e]; exact hirr
  · exact has k (hnt k hpk hl (h3 k (by omega) hpk))
