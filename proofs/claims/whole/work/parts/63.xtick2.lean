/-! tick once more, its ends counted ahead -/
theorem MinT_ex {T : List Th} : ∀ n, n ≤ T.length → ∃ o, MinT T n o := by
  intro n
  induction n with
  | zero => intro _; exact ⟨none, fun j y hj => absurd hj (Nat.not_lt_zero _)⟩
  | succ n ih =>
    intro hn
    obtain ⟨o, ho⟩ := ih (by omega)
    have hTn := List.getElem?_eq_getElem (l := T) (i := n) (by omega)
    generalize T[n] = t at hTn
    rcases hl : lent t with _ | _
    · refine ⟨o, ?_⟩
      obtain _ | i := o
      · intro j y hj hy
        by_cases e : j = n
        · rw [e, hTn] at hy; cases hy; exact hl
        · exact ho j y (by omega) hy
      · obtain ⟨h1, u, h2, h3, h4⟩ := ho
        refine ⟨by omega, u, h2, h3, fun j y hj hy hly => ?_⟩
        by_cases e : j = n
        · rw [e, hTn] at hy; cases hy; rw [hl] at hly; cases hly
        · exact h4 j y (by omega) hy hly
    · obtain _ | i := o
      · refine ⟨some n, by omega, t, hTn, hl, fun j y hj hy hly => ?_⟩
        by_cases e : j = n
        · rw [e, hTn] at hy; cases hy
          refine Bool.eq_false_iff.mpr (fun hb => ?_)
          rw [befI] at hb; omega
        · rw [ho j y (by omega) hy] at hly; cases hly
      · obtain ⟨h1, u, h2, h3, h4⟩ := ho
        rcases hb : bef t u with _ | _
        · refine ⟨some i, by omega, u, h2, h3, fun j y hj hy hly => ?_⟩
          by_cases e : j = n
          · rw [e, hTn] at hy; cases hy; exact hb
          · exact h4 j y (by omega) hy hly
        · refine ⟨some n, by omega, t, hTn, hl, fun j y hj hy hly => ?_⟩
          by_cases e : j = n
          · rw [e, hTn] at hy; cases hy
            refine Bool.eq_false_iff.mpr (fun hb => ?_)
            rw [befI] at hb; omega
          · refine Bool.eq_false_iff.mpr (fun hb2 => ?_)
            have h5 : ¬ bef y u = true := by rw [h4 j y (by omega) hy hly]; decide
            rw [befI] at hb hb2 h5
            omega
theorem TkR_ex {tg : Int32} (htg : tg.toInt ≤ 50000) : ∀ (F : Nat) (T : List Th) (B : Nat → List (Int32 × Int32)) (W : List Int32) (nc : Int32), sm phT T ≤ F → (∀ (i : Nat) (t : Th), T[i]? = some t → okT t) → ∃ k s', TkR tg k (T, B, W, nc) s' ∧ k ≤ F := by
  intro F
  induction F with
  | zero =>
    intro T B W nc hF hok
    refine ⟨0, _, ⟨rfl, ?_⟩, Nat.le_refl _⟩
    rintro i t ⟨hi, t2, ht2, hl, -⟩ ht
    dsimp only at ht ht2
    have := sm_ge (f := phT) ht2
    have hph : 1 ≤ phT t2 := by simp only [phT, hl]; show 1 ≤ 1 + _; omega
    omega
  | succ F ih =>
    intro T B W nc hF hok
    obtain ⟨o, ho⟩ := MinT_ex (T := T) T.length (Nat.le_refl _)
    obtain _ | i := o
    · refine ⟨0, _, ⟨rfl, ?_⟩, Nat.zero_le _⟩
      rintro i t ⟨hi, t2, ht2, hl, -⟩ ht
      dsimp only at ht ht2
      rw [ho i t2 hi ht2] at hl; cases hl
    · obtain ⟨hi, t, ht, hl, hb⟩ := id ho
      by_cases hle : t.2.2.2.1 ≤ tg
      · have hule : t.2.2.2.1.toInt ≤ 50000 := Int.le_trans (Int32.le_iff_toInt_le.mp hle) htg
        obtain ⟨e1, e2, -⟩ := endT_ok (hok i t ht) hl hule
        have s1 := sm_set (f := phT) (y := endT t.2.2.2.1 t) ht
        obtain ⟨k, s', h1, h2⟩ := ih (T.set i (endT t.2.2.2.1 t)) (tellB t.2.2.2.2.2 (t.1, endK t) 16 B) (endW t.2.2.2.1 t W) t.2.2.2.1 (by omega) (fun j tj hj => by
          by_cases hji : j = i
          · subst hji
            rw [List.getElem?_set_self (List.getElem?_eq_some_iff.mp ht).1] at hj
            cases hj
            exact e1
          · rw [List.getElem?_set_ne (Ne.symm hji)] at hj
            exact hok j tj hj)
        exact ⟨k + 1, s', ⟨i, t, ho, ht, hle, h1⟩, by omega⟩
      · refine ⟨0, _, ⟨rfl, ?_⟩, Nat.zero_le _⟩
        rintro i' t' ⟨hi', t2, ht2, hl2, hb2⟩ ht' hle'
        dsimp only at ht' ht2 hb2
        rw [ht'] at ht2
        cases ht2
        have b1 : ¬ bef t' t = true := by rw [hb i' t' (by simpa using hi') ht' hl2]; decide
        rw [befI] at b1
        rw [Int32.le_iff_toInt_le] at hle hle'
        omega
section XI2
variable {κ : Nat × Nat} {d : Nat} {M M' : Mm} {a i : Nat} {own : Nat → Nat × Nat} {h aT aJ aC aB aW : Nat} {ts : List Nat} {T : List Th} {J J' : List Wt} {C C' : List (Int32 × Int32)} {B B' : Nat → List (Int32 × Int32)} {W W' : List Int32} {tp nw : Int32}
theorem x_tickK {n k0 : Nat} {nwN : Nat} {s' : TS} (hnd : (T.map (fun t => t.1)).Nodup) (hR : TkR (nI (nwN + n)) k0 (T, B, W, nI nwN) s') (hX : XQ M h T J C B W tp (nI nwN)) (hn : n ≤ 60) (hnw : nwN ≤ 40000) (hlen : T.length ≤ 512) (h8 : ∀ i, i < 16 → (B i).length ≤ 8) (hok : ∀ (i : Nat) (t : Th), T[i]? = some t → okT t) (hun : ∀ (i : Nat) (t : Th), T[i]? = some t → lent t = true → (nwN : Int) < t.2.2.2.1.toInt) (hWl : W.length + sm (fun t : Th => t.2.1.length) T ≤ 511) :
    G κ m_LH_tick (d + 11) M 0 [some (.ref h), some (.int (nI n)), none, none, none, none] [] (17 * k0) (418 * k0) (fun v M' => v = some (.int (nI k0)) ∧ XQ M' h s'.1 J C s'.2.1 s'.2.2.1 tp (nI (nwN + n))) := by
  obtain ⟨own, aT, aJ, aC, aB, aW, ts, hP⟩ := hX
  have htl := hP.len
  have htg : (nI (nwN + n)).toInt = nwN + n := by have := nI_toInt (n := nwN + n) (by omega); omega
  have loop : ∀ F (Mc : Mm) (Tc : List Th) (Bc : Nat → List (Int32 × Int32)) (Wc : List Int32) (nc : Int32) (e : Nat) (o : Option Nat), (Tc.map (fun t => t.1)).Nodup → TkR (nI (nwN + n)) F (Tc, Bc, Wc, nc) s' → Tc.length = T.length → XP Mc own h aT aJ aC aB aW ts Tc J C Bc Wc tp nc → (∀ i, i < 16 → (Bc i).length ≤ 8) → (∀ (i : Nat) (t : Th), Tc[i]? = some t → okT t) → Wc.length + sm (fun t : Th => t.2.1.length) Tc ≤ 511 → e + sm (cpT (nI (nwN + n))) Tc ≤ n * ts.length → MinT Tc Tc.length o →
      G κ m_LH_tick (d + 11) Mc 38 [some (.ref h), some (.int (nI n)), some (.int (nI (nwN + n))), some (.int (nI (n * ts.length))), some (.int (nI e)), some (va_rf (o.bind (fun i => ts[i]?)))] [] (17 * F) (418 * F) (fun v M' => v = some (.int (nI (e + F))) ∧ XQ M' h s'.1 J C s'.2.1 s'.2.2.1 tp (nI (nwN + n))) := by
    have body : ∀ F, (∀ F', F = F' + 1 → ∀ (Mc : Mm) (Tc : List Th) (Bc : Nat → List (Int32 × Int32)) (Wc : List Int32) (nc : Int32) (e : Nat) (o : Option Nat), (Tc.map (fun t => t.1)).Nodup → TkR (nI (nwN + n)) F' (Tc, Bc, Wc, nc) s' → Tc.length = T.length → XP Mc own h aT aJ aC aB aW ts Tc J C Bc Wc tp nc → (∀ i, i < 16 → (Bc i).length ≤ 8) → (∀ (i : Nat) (t : Th), Tc[i]? = some t → okT t) → Wc.length + sm (fun t : Th => t.2.1.length) Tc ≤ 511 → e + sm (cpT (nI (nwN + n))) Tc ≤ n * ts.length → MinT Tc Tc.length o →
      G κ m_LH_tick (d + 11) Mc 38 [some (.ref h), some (.int (nI n)), some (.int (nI (nwN + n))), some (.int (nI (n * ts.length))), some (.int (nI e)), some (va_rf (o.bind (fun i => ts[i]?)))] [] (17 * F') (418 * F') (fun v M' => v = some (.int (nI (e + F'))) ∧ XQ M' h s'.1 J C s'.2.1 s'.2.2.1 tp (nI (nwN + n)))) → ∀ (Mc : Mm) (Tc : List Th) (Bc : Nat → List (Int32 × Int32)) (Wc : List Int32) (nc : Int32) (e : Nat) (o : Option Nat), (Tc.map (fun t => t.1)).Nodup → TkR (nI (nwN + n)) F (Tc, Bc, Wc, nc) s' → Tc.length = T.length → XP Mc own h aT aJ aC aB aW ts Tc J C Bc Wc tp nc → (∀ i, i < 16 → (Bc i).length ≤ 8) → (∀ (i : Nat) (t : Th), Tc[i]? = some t → okT t) → Wc.length + sm (fun t : Th => t.2.1.length) Tc ≤ 511 → e + sm (cpT (nI (nwN + n))) Tc ≤ n * ts.length → MinT Tc Tc.length o →
      G κ m_LH_tick (d + 11) Mc 38 [some (.ref h), some (.int (nI n)), some (.int (nI (nwN + n))), some (.int (nI (n * ts.length))), some (.int (nI e)), some (va_rf (o.bind (fun i => ts[i]?)))] [] (17 * F) (418 * F) (fun v M' => v = some (.int (nI (e + F))) ∧ XQ M' h s'.1 J C s'.2.1 s'.2.2.1 tp (nI (nwN + n))) := by
      intro F IH Mc Tc Bc Wc nc e o hdn hRc hTl hPc g8 gok gW gcap hmin
      have hmul : n * ts.length ≤ 60 * 512 := Nat.mul_le_mul hn (by omega)
      have fin : ∀ o5, (∀ i t, MinT Tc Tc.length (some i) → Tc[i]? = some t → ¬ t.2.2.2.1 ≤ nI (nwN + n)) → G κ m_LH_tick (d + 11) Mc 85 [some (.ref h), some (.int (nI n)), some (.int (nI (nwN + n))), some (.int (nI (n * ts.length))), some (.int (nI e)), some o5] [] (17 * F) (418 * F) (fun v M' => v = some (.int (nI (e + F))) ∧ XQ M' h s'.1 J C s'.2.1 s'.2.2.1 tp (nI (nwN + n))) := by
        intro o5 hdone
        obtain _ | F := F
        · obtain ⟨rfl, -⟩ := hRc
          refine g_seq s_LH_tick_85 rfl ?_
          refine g_put f_LH_39 d_LH_tick_87 (hPc.1) rfl rfl rfl ?_
          refine g_seq s_LH_tick_90 rfl ?_
          exact g_iret rfl d_LH_tick_92 (⟨rfl, own, aT, aJ, aC, aB, aW, ts, hPc.house⟩)
        · obtain ⟨i, t, hm, ht, hle, -⟩ := hRc
          exact absurd hle (hdone i t hm ht)
      cases o with
      | none =>
        have hdone : ∀ i t, MinT Tc Tc.length (some i) → Tc[i]? = some t → ¬ t.2.2.2.1 ≤ nI (nwN + n) := by
          rintro i t ⟨hi, t2, ht2, hl, -⟩ ht
          exact absurd (hl.symm.trans (hmin i t2 hi ht2)) (by decide)
        rw [Option.bind_none]
        refine g_seq s_LH_tick_38 rfl ?_
        refine g_icmp_ge (tgt := 85) d_LH_tick_41 (by decide) (fun h1 => ?_) (fun h1 => ?_)
        · skip
          exact fin _ hdone
        · skip
          refine g_seq s_LH_tick_44 rfl ?_
          refine g_ifnullN (tgt := 85) d_LH_tick_46 (by decide) ?_
          exact fin _ hdone
      | some i =>
        obtain ⟨hi, t, ht, hl, hb⟩ := id hmin
        obtain ⟨x, hx, hxt⟩ := hPc.2.1.2.2.2.at ht
        obtain ⟨r, hxc⟩ := hxt.cell
        have hotk := gok i t ht
        have key : t.2.2.2.1 ≤ nI (nwN + n) ∨ ∀ i t, MinT Tc Tc.length (some i) → Tc[i]? = some t → ¬ t.2.2.2.1 ≤ nI (nwN + n) := by
          by_cases hle : t.2.2.2.1 ≤ nI (nwN + n)
          · exact Or.inl hle
          · refine Or.inr ?_
            rintro i' t' ⟨hi', t2, ht2, hl2, hb2⟩ ht' hle'
            rw [ht'] at ht2
            cases ht2
            have b1 := hb i' t' hi' ht' hl2
            simp only [bef, decide_eq_false_iff_not, Int32.lt_iff_toInt_lt, ← Int32.toInt_inj] at b1
            rw [Int32.le_iff_toInt_le] at hle hle'
            omega
        rw [Option.bind_some, hx]
        refine g_seq s_LH_tick_38 rfl ?_
        rcases key with hle | hdone
        · have hcp : 1 ≤ cpT (nI (nwN + n)) t := by
            unfold cpT
            rw [if_pos ⟨hl, hle⟩]
            have := Int32.le_iff_toInt_le.mp hle
            omega
          have hcs := sm_ge (f := cpT (nI (nwN + n))) ht
          have hph : 1 ≤ phT t := by simp only [phT, hl]; show 1 ≤ 1 + _; omega
          have hps := sm_ge (f := phT) ht
          obtain ⟨F', rfl⟩ : ∃ F', F = F' + 1 := by
            obtain _ | F' := F
            · exact absurd hle (hRc.2 i t hmin ht)
            · exact ⟨F', rfl⟩
          obtain ⟨i', t', hm', ht', -, hRn⟩ := hRc
          have hii := (Option.some.inj (MinT_uniq hdn hm' hmin)).symm
          subst hii
          dsimp only at ht'
          rw [ht] at ht'
          have htt := Option.some.inj ht'
          subst htt
          have hule : t.2.2.2.1.toInt ≤ 50000 := by
            have := Int32.le_iff_toInt_le.mp hle
            omega
          obtain ⟨e1, e2, e3⟩ := endT_ok hotk hl hule
          have hrl := sm_ge (f := fun t : Th => t.2.1.length) ht
          refine g_icmp_ge (tgt := 85) d_LH_tick_41 (by decide) (fun hbr => absurd hbr (nI_ge (by omega) (by omega))) (fun hbr => ?_)
          refine g_seq s_LH_tick_44 rfl ?_
          refine g_ifnull d_LH_tick_46 ?_
          refine g_seq s_LH_tick_49 rfl ?_
          refine g_get f_LH_82 d_LH_tick_51 (hxc) rfl ?_
          refine g_seq s_LH_tick_54 rfl ?_
          refine g_icmp_gt (tgt := 85) d_LH_tick_55 (by decide) (fun hbr => absurd hbr (Int32.not_lt.mpr hle)) (fun hbr => ?_)
          refine g_seq s_LH_tick_58 rfl ?_
          refine g_get f_LH_82 d_LH_tick_61 (hxc) rfl ?_
          refine g_put f_LH_39 d_LH_tick_64 (hPc.1) rfl rfl rfl ?_
          have hP2 := hPc.house (tp' := tp) (nw' := t.2.2.2.1)
          refine g_seq s_LH_tick_67 rfl ?_
          refine g_invV (k2 := 17 * F') (n2 := 418 * F') l_LH_75 d_LH_tick_70 rfl ⟨rfl, Nat.le_of_ble_eq_true rfl, Nat.le_of_ble_eq_true rfl⟩ (hP2.1) (x_endLease hP2.1 (hP2.at ht hx) hP2.2.2.2.2.1 g8 hP2.2.2.2.2.2 (by omega) (by have := hotk.1; omega)) (by first | omega | (simp <;> omega)) (by first | omega | (simp <;> omega)) ?_
          rintro v M3 ⟨rfl, ⟨aw, -, hK⟩, q1, q2, q3⟩
          have hP3 := hP2.thing hx hK q1 q2 q3
          refine g_seq s_LH_tick_73 rfl ?_
          refine g_invV (k2 := 17 * F') (n2 := 418 * F') l_LH_102 d_LH_tick_77 rfl ⟨rfl, Nat.le_of_ble_eq_true rfl, Nat.le_of_ble_eq_true rfl⟩ (hP3.1) (x_findNextToEnd hP3.1 hP3.2.1.1 hP3.2.1.2.2.2 (by omega)) (by first | omega | (simp <;> omega)) (by first | omega | (simp <;> omega)) ?_
          rintro v M4 ⟨o', hmin', rfl, rfl⟩
          have s1 := sm_set (f := phT) (y := endT t.2.2.2.1 t) ht
          have s2 := sm_set (f := cpT (nI (nwN + n))) (y := endT t.2.2.2.1 t) ht
          have s3 := sm_set (f := fun t : Th => t.2.1.length) (y := endT t.2.2.2.1 t) ht
          have s4 := endW_len (u := t.2.2.2.1) (t := t) (W := Wc)
          have e4 := e3 _ hle
          have hih := IH F' rfl _ (Tc.set i (endT t.2.2.2.1 t)) (tellB t.2.2.2.2.2 (t.1, endK t) 16 Bc) (endW t.2.2.2.1 t Wc) t.2.2.2.1 (e + 1) o' (by rw [map_set1 ht endT_1]; exact hdn) hRn (by simpa using hTl) hP3 (tellB_len g8) (fun j tj hj => ?_) (by omega) (by omega) hmin'
          · have hfin := g_mono hih (Q' := fun v M' => v = some (.int (nI (e + (F' + 1)))) ∧ XQ M' h s'.1 J C s'.2.1 s'.2.2.1 tp (nI (nwN + n))) (fun v M' hh => by
              obtain ⟨h2, h3⟩ := hh
              exact ⟨by rw [h2]; congr 3; omega, h3⟩)
            cases hbb : o'.bind (fun i => ts[i]?) with
            | none =>
              rw [hbb] at hfin
              refine g_seq s_LH_tick_80 rfl ?_
              rw [nI_1]
              exact hfin
            | some y =>
              rw [hbb] at hfin
              refine g_seq s_LH_tick_80 rfl ?_
              rw [nI_1]
              exact hfin
          · by_cases hji : j = i
            · subst hji
              rw [List.getElem?_set_self (List.getElem?_eq_some_iff.mp ht).1] at hj
              cases hj
              exact e1
            · rw [List.getElem?_set_ne (Ne.symm hji)] at hj
              exact gok j tj hj
        · skip
          refine g_icmp_ge (tgt := 85) d_LH_tick_41 (by decide) (fun h1 => ?_) (fun h1 => ?_)
          · skip
            exact fin _ hdone
          · skip
            refine g_seq s_LH_tick_44 rfl ?_
            refine g_ifnull d_LH_tick_46 ?_
            refine g_seq s_LH_tick_49 rfl ?_
            refine g_get f_LH_82 d_LH_tick_51 (hxc) rfl ?_
            refine g_seq s_LH_tick_54 rfl ?_
            refine g_icmp_gt (tgt := 85) d_LH_tick_55 (by decide) (fun hbr => ?_) (fun hbr => absurd hbr (fun h => h (Int32.not_le.mp (hdone i t hmin ht))))
            exact fin _ hdone
    intro F
    induction F with
    | zero => exact body 0 (fun F' e => by omega)
    | succ F ih => exact body (F + 1) (fun F' e => by cases e; exact ih)
  refine g_seq s_LH_tick_0 rfl ?_
  refine g_if_lt (tgt := 10) d_LH_tick_1 (by decide) (fun hbr => absurd hbr (nI_lt0 (by omega))) (fun hbr => ?_)
  refine g_seq s_LH_tick_4 rfl ?_
  refine g_icmp_le (tgt := 12) d_LH_tick_7 (by decide) (fun hbr => ?_) (fun hbr => absurd hbr (fun h => h (show nI n ≤ nI 60 from nI_le hn (by omega))))
  refine g_seq s_LH_tick_12 rfl ?_
  refine g_get f_LH_39 d_LH_tick_13 (hP.1) rfl ?_
  refine g_seq s_LH_tick_16 rfl ?_
  rw [nI_add]
  refine g_get f_LH_10 d_LH_tick_21 (hP.1) rfl ?_
  refine g_invL (k2 := 17 * k0) (n2 := 418 * k0) l_LH_98 d_LH_tick_24 rfl ⟨rfl, Nat.le_of_ble_eq_true rfl, Nat.le_of_ble_eq_true rfl⟩ (hP.2.1.1) (al_size hP.2.1.1) (by first | omega | (simp <;> omega)) (by first | omega | (simp <;> omega)) ?_
  rintro v M1 ⟨rfl, rfl⟩
  refine g_seq s_LH_tick_27 rfl ?_
  rw [pk_mul]
  refine g_invV (k2 := 17 * k0) (n2 := 418 * k0) l_LH_102 d_LH_tick_33 rfl ⟨rfl, Nat.le_of_ble_eq_true rfl, Nat.le_of_ble_eq_true rfl⟩ (hP.1) (x_findNextToEnd hP.1 hP.2.1.1 hP.2.1.2.2.2 (by omega)) (by first | omega | (simp <;> omega)) (by first | omega | (simp <;> omega)) ?_
  rintro v M2 ⟨o, hmin, rfl, rfl⟩
  have hcap : sm (cpT (nI (nwN + n))) T ≤ n * ts.length := by
    rw [htl]
    refine sm_le (fun t ht => ?_)
    obtain ⟨j, hj⟩ := List.getElem?_of_mem ht
    unfold cpT
    split
    · rename_i hh
      have := hun j t hj hh.1
      omega
    · exact Nat.zero_le _
  have hl := loop k0 _ T B W (nI nwN) 0 o hnd hR rfl hP h8 hok hWl (by omega) hmin
  have hl2 := g_mono hl (Q' := fun v M' => v = some (.int (nI k0)) ∧ XQ M' h s'.1 J C s'.2.1 s'.2.2.1 tp (nI (nwN + n))) (fun v M' hh => by
    obtain ⟨h2, h3⟩ := hh
    exact ⟨by rw [h2, Nat.zero_add], h3⟩)
  cases hbb : o.bind (fun i => ts[i]?) with
  | none =>
    rw [hbb] at hl2
    refine g_seq s_LH_tick_36 rfl ?_
    exact hl2
  | some y =>
    rw [hbb] at hl2
    refine g_seq s_LH_tick_36 rfl ?_
    exact hl2
end XI2
