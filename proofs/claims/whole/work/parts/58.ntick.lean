def TI (T : List Th) (W : List Int32) (u : Nat) : Prop := (∀ (i : Nat) (t : Th), T[i]? = some t → okT t ∧ (lent t = true → (u : Int) ≤ t.2.2.2.1.toInt)) ∧ W.length + sm (fun t : Th => t.2.1.length) T ≤ 511
theorem endT_1 {u : Int32} {t : Th} : (endT u t).1 = t.1 := by
  unfold endT
  split <;> rfl
section NT
variable {κ : Nat × Nat} {d m : Nat} {ad : Nat → Nat} {K : Nat} {ls : Nat → List Nat} {J : List Wt} {C : List (Int32 × Int32)} {tp : List Nat}
theorem TI.end {T : List Th} {W : List Int32} {u i : Nat} {t : Th} (h : TI T W u) (ht : T[i]? = some t) (hl : lent t = true) (hu : t.2.2.2.1 = nI u) (hu5 : u ≤ 50000) : TI (T.set i (endT (nI u) t)) (endW (nI u) t W) u ∧ sm phT (T.set i (endT (nI u) t)) + 1 ≤ sm phT T := by
  obtain ⟨h1, h2⟩ := h
  have hil := (List.getElem?_eq_some_iff.mp ht).1
  have hui : (nI u).toInt = (u : Int) := nI_toInt (by omega)
  have hk := endT_ok (h1 i t ht).1 hl (by rw [hu, hui]; omega)
  rw [hu] at hk
  refine ⟨⟨fun j y hy => ?_, ?_⟩, ?_⟩
  · by_cases hj : i = j
    · subst hj
      rw [List.getElem?_set_self hil] at hy
      cases hy
      refine ⟨hk.1, fun hl2 => ?_⟩
      have ho := (h1 i t ht).1
      revert hl2
      unfold endT
      rcases hr : t.2.1 with _ | ⟨w, ws⟩
      · intro hl2; cases hl2
      · intro _
        have hw := ho.2.1 0 w (by rw [hr]; rfl)
        show (u : Int) ≤ (nI u + w.2.1).toInt
        rw [addT (by omega) (by omega), hui]
        omega
    · rw [List.getElem?_set_ne hj] at hy
      exact h1 j y hy
  · have e1 := sm_set (f := fun t : Th => t.2.1.length) (y := endT (nI u) t) ht
    have e2 := endW_len (u := nI u) (t := t) (W := W)
    omega
  · have e1 := sm_set (f := phT) (y := endT (nI u) t) ht
    have := hk.2.1
    omega
theorem m_tickB {ar : Ar} {nm : Nat → Int64} {sc : Sc} {f : Int32 → Th} {B : BB} {W : List Int32} {nw c : Int32} (h : NS ar nm sc K ls f J C B W tp nw) (hc : ¬ (0 ≤ c ∧ c ≤ 60)) : GN κ m_Mo_tick d m ad ar nm sc 0 [some (.ref m), some (.int c), none, none, none] [] (fun v ar' nm' sc' => v = some (.int (-1)) ∧ NY ar' nm' sc' (K + 1) f J C B W tp nw) := by
  refine n_seq s_Mo_tick_0 rfl ?_
  refine n_if_lt (tgt := 10) d_Mo_tick_1 (by decide) (fun h1 => ?_) (fun h1 => ?_)
  · skip
    refine n_seq s_Mo_tick_10 rfl ?_
    exact n_iret rfl d_Mo_tick_11 (⟨rfl, h.y⟩)
  · skip
    refine n_seq s_Mo_tick_4 rfl ?_
    refine n_icmp_le (tgt := 12) d_Mo_tick_7 (by decide) (fun hbr => absurd hbr (fun h2 => hc ⟨Int32.not_lt.mp h1, h2⟩)) (fun hbr => ?_)
    refine n_seq s_Mo_tick_10 rfl ?_
    exact n_iret rfl d_Mo_tick_11 (⟨rfl, h.y⟩)
theorem m_tick {ar : Ar} {nm : Nat → Int64} {sc : Sc} {f : Int32 → Th} {B : BB} {W : List Int32} {T : List Th} {u0 n k0 : Nat} {s' : TS} {nc : Int32} (h : NS ar nm sc K ls f J C B W tp (nI u0)) (hL : LK f T) (hI : TI T W (u0 + 1)) (hn : n ≤ 60) (hu : u0 ≤ 40000) (hR : TkR (nI (u0 + n)) k0 (T, B, W, nc) s') :
    GN κ m_Mo_tick (d + 3) m ad ar nm sc 0 [some (.ref m), some (.int (nI n)), none, none, none] [] (fun v ar' nm' sc' => v = some (.int (nI k0)) ∧ NY ar' nm' sc' (K + 1) (lk s'.1) J C s'.2.1 s'.2.2.1 tp (nI (u0 + n)) ∧ LK (lk s'.1) s'.1 ∧ TI s'.1 s'.2.2.1 (u0 + n + 1) ∧ s'.1.length = T.length ∧ sm phT s'.1 ≤ sm phT T) := by
  generalize hQ : (fun (v : Option Value) (ar' : Ar) (nm' : Nat → Int64) (sc' : Sc) => v = some (.int (nI k0)) ∧ NY ar' nm' sc' (K + 1) (lk s'.1) J C s'.2.1 s'.2.2.1 tp (nI (u0 + n)) ∧ LK (lk s'.1) s'.1 ∧ TI s'.1 s'.2.2.1 (u0 + n + 1) ∧ s'.1.length = T.length ∧ sm phT s'.1 ≤ sm phT T) = Q
  have htg : (nI (u0 + n)).toInt = ((u0 + n : Nat) : Int) := nI_toInt (by omega)
  have outer : ∀ q a j k (T1 : List Th) (B1 : BB) (W1 : List Int32) (f1 : Int32 → Th) (ar1 : Ar) (nm1 : Nat → Int64) (sc1 : Sc) (nc1 : Int32) (u4 : Option Value), j + q = n → a + k = k0 → NS ar1 nm1 sc1 K ls f1 J C B1 W1 tp (nI (u0 + j)) → LK f1 T1 → TI T1 W1 (u0 + j + 1) → TkR (nI (u0 + n)) k (T1, B1, W1, nc1) s' → T1.length = T.length → sm phT T1 ≤ sm phT T → GN κ m_Mo_tick (d + 3) m ad ar1 nm1 sc1 16 [some (.ref m), some (.int (nI n)), some (.int (nI a)), some (.int (nI j)), u4] [] Q := by
    intro q
    induction q with
    | zero =>
      intro a j k T1 B1 W1 f1 ar1 nm1 sc1 nc1 u4 hj hak h1 hL1 hI1 hR1 hl1 hs1
      have hjn : j = n := by omega
      subst hjn
      obtain _ | k := k
      · obtain ⟨rfl, -⟩ := hR1
        refine n_seq s_Mo_tick_16 rfl ?_
        refine n_icmp_ge (tgt := 66) d_Mo_tick_18 (by decide) (fun hbr => ?_) (fun hbr => absurd hbr (fun h => h (nI_le (Nat.le_refl _) (by omega))))
        refine n_seq s_Mo_tick_66 rfl ?_
        subst hQ
        rw [← hL1.1]
        exact n_iret rfl d_Mo_tick_67 (⟨by rw [← hak]; rfl, h1.y, hL1, hI1, hl1, hs1⟩)
      · exfalso
        obtain ⟨i, t, hm, ht, hle, -⟩ := hR1
        obtain ⟨-, t', ht', hl', -⟩ := hm
        dsimp only at ht ht'
        rw [ht] at ht'; cases ht'
        have := (hI1.1 i t ht).2 hl'
        rw [Int32.le_iff_toInt_le, htg] at hle
        omega
    | succ q ih =>
      intro a j k T1 B1 W1 f1 ar1 nm1 sc1 nc1 u4 hj hak h1 hL1 hI1 hR1 hl1 hs1
      have huj : (nI (u0 + j + 1)).toInt = ((u0 + j + 1 : Nat) : Int) := nI_toInt (by omega)
      have inner : ∀ k a (T1 : List Th) (B1 : BB) (W1 : List Int32) (f1 : Int32 → Th) (ar1 : Ar) (nm1 : Nat → Int64) (sc1 : Sc) (nc1 : Int32) (o : Option Nat), a + k = k0 → NS ar1 nm1 sc1 K ls f1 J C B1 W1 tp (nI (u0 + j + 1)) → LK f1 T1 → TI T1 W1 (u0 + j + 1) → TkR (nI (u0 + n)) k (T1, B1, W1, nc1) s' → T1.length = T.length → sm phT T1 ≤ sm phT T → BestP (dueK f1 ls (nI (u0 + j + 1))) (ltN ls) K o → GN κ m_Mo_tick (d + 3) m ad ar1 nm1 sc1 37 [some (.ref m), some (.int (nI n)), some (.int (nI a)), some (.int (nI j)), some (.int (oM o))] [] Q := by
        intro k
        induction k with
        | zero =>
          intro a T1 B1 W1 f1 ar1 nm1 sc1 nc1 o hak h1 hL1 hI1 hR1 hl1 hs1 hB
          obtain _ | e := o
          · skip
            refine n_seq s_Mo_tick_37 rfl ?_
            refine n_if_lt (tgt := 60) d_Mo_tick_39 (by decide) (fun hbr => ?_) (fun hbr => absurd hbr (fun h => h (by decide)))
            refine n_seq s_Mo_tick_60 rfl ?_
            rw [nI_1]
            refine ih a (j + 1) 0 T1 B1 W1 f1 ar1 nm1 sc1 nc1 _ (by omega) hak h1 hL1 ⟨fun i t ht => ⟨(hI1.1 i t ht).1, fun hl => ?_⟩, hI1.2⟩ hR1 hl1 hs1
            have h2 := (hI1.1 i t ht).2 hl
            have hft := hL1.at ht
            rcases hex : decide (∃ k, k < K ∧ t.1 = ni (ls k)) with _ | _
            · have h3 := of_decide_eq_false hex
              have := h1.2.1.2.1 t.1 (fun k hk e => h3 ⟨k, hk, e⟩)
              rw [hft] at this
              rw [this] at hl; cases hl
            · obtain ⟨k, hk, e⟩ := of_decide_eq_true hex
              have h4 := hB k hk
              unfold dueK at h4
              rw [← e, hft, Int32.le_iff_toInt_le, huj] at h4
              have : ¬ t.2.2.2.1.toInt ≤ ((u0 + j + 1 : Nat) : Int) := fun hh => h4 ⟨hl, hh⟩
              omega
          · exfalso
            obtain ⟨hb1, ⟨hb2, hb3⟩, hb4, -⟩ := hB
            obtain ⟨i, hi⟩ := hL1.lent hb2
            have hui := (hI1.1 i _ hi).2 hb2
            rw [Int32.le_iff_toInt_le, huj] at hb3
            refine hR1.2 i _ ⟨(List.getElem?_eq_some_iff.mp hi).1, _, hi, hb2, fun j2 y hj2 hy hl => ?_⟩ hi ?_
            · have hfy := hL1.at hy
              have hyu := (hI1.1 j2 y hy).2 hl
              refine Bool.eq_false_iff.mpr (fun hbf => ?_)
              rw [befI] at hbf
              rcases hex : decide (∃ k, k < K ∧ y.1 = ni (ls k)) with _ | _
              · have h3 := of_decide_eq_false hex
                have := h1.2.1.2.1 y.1 (fun k hk e => h3 ⟨k, hk, e⟩)
                rw [hfy] at this
                rw [this] at hl; cases hl
              · obtain ⟨k, hk, e2⟩ := of_decide_eq_true hex
                have h5 := hb4 k hk (by unfold dueK; rw [← e2, hfy, Int32.le_iff_toInt_le, huj]; exact ⟨hl, by omega⟩)
                unfold ltN at h5
                rw [← e2, Int32.lt_iff_toInt_lt] at h5
                rw [h1.2.1.2.2] at hbf
                omega
            · rw [Int32.le_iff_toInt_le, htg]; omega
        | succ k ihk =>
          intro a T1 B1 W1 f1 ar1 nm1 sc1 nc1 o hak h1 hL1 hI1 hR1 hl1 hs1 hB
          obtain _ | e := o
          · skip
            refine n_seq s_Mo_tick_37 rfl ?_
            refine n_if_lt (tgt := 60) d_Mo_tick_39 (by decide) (fun hbr => ?_) (fun hbr => absurd hbr (fun h => h (by decide)))
            refine n_seq s_Mo_tick_60 rfl ?_
            rw [nI_1]
            refine ih a (j + 1) (k + 1) T1 B1 W1 f1 ar1 nm1 sc1 nc1 _ (by omega) hak h1 hL1 ⟨fun i t ht => ⟨(hI1.1 i t ht).1, fun hl => ?_⟩, hI1.2⟩ hR1 hl1 hs1
            have h2 := (hI1.1 i t ht).2 hl
            have hft := hL1.at ht
            rcases hex : decide (∃ k, k < K ∧ t.1 = ni (ls k)) with _ | _
            · have h3 := of_decide_eq_false hex
              have := h1.2.1.2.1 t.1 (fun k hk e => h3 ⟨k, hk, e⟩)
              rw [hft] at this
              rw [this] at hl; cases hl
            · obtain ⟨k, hk, e⟩ := of_decide_eq_true hex
              have h4 := hB k hk
              unfold dueK at h4
              rw [← e, hft, Int32.le_iff_toInt_le, huj] at h4
              have : ¬ t.2.2.2.1.toInt ≤ ((u0 + j + 1 : Nat) : Int) := fun hh => h4 ⟨hl, hh⟩
              omega
          · obtain ⟨hb1, ⟨hb2, hb3⟩, hb4, -⟩ := hB
            obtain ⟨i, hi⟩ := hL1.lent hb2
            have hui := (hI1.1 i _ hi).2 hb2
            rw [Int32.le_iff_toInt_le, huj] at hb3
            have hmin : MinT T1 T1.length (some i) := by
              refine ⟨(List.getElem?_eq_some_iff.mp hi).1, _, hi, hb2, fun j2 y hj2 hy hl => ?_⟩
              have hfy := hL1.at hy
              have hyu := (hI1.1 j2 y hy).2 hl
              refine Bool.eq_false_iff.mpr (fun hbf => ?_)
              rw [befI] at hbf
              rcases hex : decide (∃ k, k < K ∧ y.1 = ni (ls k)) with _ | _
              · have h3 := of_decide_eq_false hex
                have := h1.2.1.2.1 y.1 (fun k hk e => h3 ⟨k, hk, e⟩)
                rw [hfy] at this
                rw [this] at hl; cases hl
              · obtain ⟨k, hk, e2⟩ := of_decide_eq_true hex
                have h5 := hb4 k hk (by unfold dueK; rw [← e2, hfy, Int32.le_iff_toInt_le, huj]; exact ⟨hl, by omega⟩)
                unfold ltN at h5
                rw [← e2, Int32.lt_iff_toInt_lt] at h5
                rw [h1.2.1.2.2] at hbf
                omega
            obtain ⟨i', t', hm', ht', -, hR2⟩ := hR1
            have hii := Option.some.inj (MinT_uniq hL1.2 hm' hmin)
            subst hii
            dsimp only at ht'
            rw [hi] at ht'
            have htt := Option.some.inj ht'
            subst htt
            have hx := h1.2.1.2.2 (ni (ls e))
            have hun : (f1 (ni (ls e))).2.2.2.1 = nI (u0 + j + 1) := Int32.toInt_inj.mp (by rw [huj]; omega)
            have hTI := hI1.end hi hb2 hun (by omega)
            have hlb : W1.length < 4000 := by have := hI1.2; omega
            refine n_seq s_Mo_tick_37 rfl ?_
            refine n_if_lt (tgt := 60) d_Mo_tick_39 (by decide) (fun hbr => absurd hbr (nI_lt0 (by have := h1.1.2.1; omega))) (fun hbr => ?_)
            refine n_seq s_Mo_tick_42 rfl ?_
            refine n_invV l_Mo_117 d_Mo_tick_45 rfl ⟨rfl, Nat.le_of_ble_eq_true rfl, Nat.le_of_ble_eq_true rfl⟩ (m_end h1 hb1 hlb) ?_
            rintro v ar2 nm2 sc2 ⟨rfl, h2⟩
            refine n_seq s_Mo_tick_48 rfl ?_
            refine n_invV l_Mo_120 d_Mo_tick_52 rfl ⟨rfl, Nat.le_of_ble_eq_true rfl, Nat.le_of_ble_eq_true rfl⟩ (m_next h2) ?_
            rintro v ar3 nm3 sc3 ⟨rfl, rfl, rfl, o2, hB2, rfl⟩
            refine n_seq s_Mo_tick_55 rfl ?_
            rw [nI_1]
            have hL2 := hL1.set hi (t' := endT (nI (u0 + j + 1)) (f1 (ni (ls e)))) endT_1
            rw [hx] at hL2
            unfold tkS at hR2
            dsimp only at hR2
            rw [hun, hx] at hR2
            exact ihk (a + 1) _ _ _ _ _ _ _ _ o2 (by omega) h2 hL2 hTI.1 hR2 (by rw [List.length_set]; exact hl1) (by omega) hB2
      refine n_seq s_Mo_tick_16 rfl ?_
      refine n_icmp_ge (tgt := 66) d_Mo_tick_18 (by decide) (fun hbr => absurd hbr (nI_ge (by omega) (by omega))) (fun hbr => ?_)
      refine n_seq s_Mo_tick_21 rfl ?_
      refine n_gets f_Mo_96 d_Mo_tick_23 rfl ?_
      rw [h1.2.2.2.2.2.2.2]
      refine n_seq s_Mo_tick_26 rfl ?_
      rw [nI_1]
      refine n_puts f_Mo_96 d_Mo_tick_28 rfl ?_
      refine n_seq s_Mo_tick_31 rfl ?_
      have h2 : NS ar1 nm1 (scR sc1 22 (nI (u0 + j + 1))) K ls f1 J C B1 W1 tp (nI (u0 + j + 1)) := by
        obtain ⟨hN, ht, hj, hc, hb, hw, hp, hnw⟩ := h1
        exact ⟨hN, ht, hj, hc, hb, hw, hp, rfl⟩
      refine n_invV l_Mo_120 d_Mo_tick_32 rfl ⟨rfl, Nat.le_of_ble_eq_true rfl, Nat.le_of_ble_eq_true rfl⟩ (m_next h2) ?_
      rintro v ar3 nm3 sc3 ⟨rfl, rfl, rfl, o2, hB2, rfl⟩
      refine n_seq s_Mo_tick_35 rfl ?_
      exact inner k a T1 B1 W1 f1 _ _ _ nc1 o2 hak h2 hL1 hI1 hR1 hl1 hs1 hB2
  refine n_seq s_Mo_tick_0 rfl ?_
  refine n_if_lt (tgt := 10) d_Mo_tick_1 (by decide) (fun hbr => absurd hbr (nI_lt0 (by omega))) (fun hbr => ?_)
  refine n_seq s_Mo_tick_4 rfl ?_
  refine n_icmp_le (tgt := 12) d_Mo_tick_7 (by decide) (fun hbr => ?_) (fun hbr => absurd hbr (fun h => h (nI_le (b := 60) hn (by decide))))
  refine n_seq s_Mo_tick_12 rfl ?_
  exact outer n 0 0 k0 T B W f ar nm sc nc none (by omega) (by omega) h hL hI hR rfl (Nat.le_refl _)
end NT
