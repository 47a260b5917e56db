abbrev TS : Type := List Th × (Nat → List (Int32 × Int32)) × List Int32 × Int32
/-- one lease ends: that of thing i, at its time -/
def tkS (i : Nat) (t : Th) (s : TS) : TS := (s.1.set i (endT t.2.2.2.1 t), tellB t.2.2.2.2.2 (t.1, endK t) 16 s.2.1, endW t.2.2.2.1 t s.2.2.1, t.2.2.2.1)
/-- k leases end, one after the other, up to the time tg; then none is left -/
def TkR (tg : Int32) : Nat → TS → TS → Prop
  | 0, s, s' => s' = s ∧ ∀ i t, MinT s.1 s.1.length (some i) → s.1[i]? = some t → ¬ t.2.2.2.1 ≤ tg
  | k + 1, s, s' => ∃ i t, MinT s.1 s.1.length (some i) ∧ s.1[i]? = some t ∧ t.2.2.2.1 ≤ tg ∧ TkR tg k (tkS i t s) s'
def phT (t : Th) : Nat := (if lent t then 1 else 0) + t.2.1.length
def cpT (tg : Int32) (t : Th) : Nat := if lent t = true ∧ t.2.2.2.1 ≤ tg then (tg.toInt + 1 - t.2.2.2.1.toInt).toNat else 0
/-- a thing as it may stand -/
def okT (t : Th) : Prop := t.2.1.length ≤ 5 ∧ (∀ (j : Nat) (w : Wt), t.2.1[j]? = some w → 1 ≤ w.2.1.toInt ∧ w.2.1.toInt ≤ 100) ∧ (lent t = true → 0 ≤ t.2.2.2.1.toInt ∧ t.2.2.2.1.toInt ≤ 100000)
theorem addT {x y : Int32} (h1 : -2147483648 ≤ x.toInt + y.toInt) (h2 : x.toInt + y.toInt < 2147483648) : (x + y).toInt = x.toInt + y.toInt := by
  rw [Int32.toInt_add]
  exact Int.bmod_eq_of_le (by omega) (by omega)
theorem sm_set {α : Type} {f : α → Nat} : ∀ {l : List α} {i : Nat} {x y : α}, l[i]? = some x → sm f (l.set i y) + f x = sm f l + f y := by
  intro l
  induction l with
  | nil => intro i x y h; simp at h
  | cons a l ih =>
    intro i x y h
    cases i with
    | zero => simp at h; subst h; simp [sm]; omega
    | succ i =>
      have := ih (y := y) (by simpa using h)
      simp [sm] at this ⊢
      omega
theorem sm_ge {α : Type} {f : α → Nat} {l : List α} {i : Nat} {x : α} (h : l[i]? = some x) : f x ≤ sm f l := by
  have := sm_set (f := f) (y := x) h
  have hx := List.mem_of_getElem? h
  unfold sm
  induction l generalizing i with
  | nil => simp at h
  | cons a l ih =>
    cases i with
    | zero => simp at h; subst h; simp
    | succ i =>
      have h2 : l[i]? = some x := by simpa using h
      have := ih h2 (sm_set h2) (List.mem_of_getElem? h2)
      simp
      omega
theorem sm_le {α : Type} {f : α → Nat} {c : Nat} {l : List α} (h : ∀ x ∈ l, f x ≤ c) : sm f l ≤ c * l.length := by
  unfold sm
  induction l with
  | nil => simp
  | cons a l ih =>
    have h1 := h a List.mem_cons_self
    have h2 := ih (fun x hx => h x (List.mem_cons_of_mem _ hx))
    simp [Nat.mul_add]
    omega
theorem endT_ok {t : Th} (h : okT t) (hl : lent t = true) (hu : t.2.2.2.1.toInt ≤ 50000) : okT (endT t.2.2.2.1 t) ∧ phT (endT t.2.2.2.1 t) + 1 ≤ phT t ∧ ∀ tg, t.2.2.2.1 ≤ tg → cpT tg (endT t.2.2.2.1 t) + 1 ≤ cpT tg t := by
  obtain ⟨nm, row, ho, un, ch, wa⟩ := t
  obtain ⟨h1, h2, h3⟩ := h
  have h3' := h3 hl
  cases row with
  | nil =>
    refine ⟨⟨Nat.zero_le _, fun j w hw => by simp [endT] at hw, fun hh => by simp [endT, lent] at hh⟩, ?_, fun tg htg => ?_⟩
    · have e1 : phT (endT un (nm, [], ho, un, ch, wa)) = 0 := by simp [phT, endT, lent]
      have e2 : phT (nm, [], ho, un, ch, wa) = 1 := by simp only [phT, hl]; rfl
      show phT (endT un (nm, [], ho, un, ch, wa)) + 1 ≤ _
      omega
    · have e1 : cpT tg (endT un (nm, [], ho, un, ch, wa)) = 0 := by simp [cpT, endT, lent]
      show cpT tg (endT un (nm, [], ho, un, ch, wa)) + 1 ≤ _
      rw [e1]
      unfold cpT
      rw [if_pos ⟨hl, htg⟩]
      have : un.toInt ≤ tg.toInt := Int32.le_iff_toInt_le.mp htg
      show 0 + 1 ≤ (tg.toInt + 1 - un.toInt).toNat
      omega
  | cons w row =>
    have hw := h2 0 w rfl
    have hadd : (un + w.2.1).toInt = un.toInt + w.2.1.toInt := addT (by have := h3'.1; simp at this ⊢; omega) (by have := h3'.2; simp at this ⊢; omega)
    have hu0 : 0 ≤ un.toInt := h3'.1
    have hu1 : un.toInt ≤ 50000 := hu
    refine ⟨⟨?_, fun j w' hw' => h2 (j + 1) w' (by simpa [endT] using hw'), fun _ => ?_⟩, ?_, fun tg htg => ?_⟩
    · simp at h1; show row.length ≤ 5; omega
    · show 0 ≤ (un + w.2.1).toInt ∧ (un + w.2.1).toInt ≤ 100000
      rw [hadd]; omega
    · have e1 : phT (endT un (nm, w :: row, ho, un, ch, wa)) ≤ 1 + row.length := Nat.add_le_add_right (by cases lent (endT un (nm, w :: row, ho, un, ch, wa)) <;> decide) _
      have e2 : phT (nm, w :: row, ho, un, ch, wa) = 1 + (row.length + 1) := by simp only [phT, hl]; rfl
      show phT (endT un (nm, w :: row, ho, un, ch, wa)) + 1 ≤ _
      omega
    · have hle : un.toInt ≤ tg.toInt := Int32.le_iff_toInt_le.mp htg
      have e2 : cpT tg (nm, w :: row, ho, un, ch, wa) = (tg.toInt + 1 - un.toInt).toNat := by unfold cpT; rw [if_pos ⟨hl, htg⟩]
      have e1 : cpT tg (endT un (nm, w :: row, ho, un, ch, wa)) ≤ (tg.toInt + 1 - (un.toInt + w.2.1.toInt)).toNat := by
        unfold cpT
        split
        · show (tg.toInt + 1 - (un + w.2.1).toInt).toNat ≤ _
          rw [hadd]; exact Nat.le_refl _
        · exact Nat.zero_le _
      show cpT tg (endT un (nm, w :: row, ho, un, ch, wa)) + 1 ≤ _
      omega
theorem endW_len {u : Int32} {t : Th} {W : List Int32} : (endW u t W).length + (endT u t).2.1.length ≤ W.length + t.2.1.length := by
  obtain ⟨nm, row, ho, un, ch, wa⟩ := t
  cases row with
  | nil => simp [endW, endT]
  | cons w row => simp [endW, endT]; omega
theorem tellB_len {wa : Int32} {x : Int32 × Int32} {n : Nat} {B : Nat → List (Int32 × Int32)} (h8 : ∀ i, i < 16 → (B i).length ≤ 8) : ∀ i, i < 16 → (tellB wa x n B i).length ≤ 8 := by
  intro i hi
  unfold tellB
  split
  · exact push8_len (h8 i hi)
  · exact h8 i hi
section XI
variable {κ : Nat × Nat} {d : Nat} {M M' : Mm} {a i : Nat} {own : Nat → Nat × Nat} {h aT aJ aC aB aW : Nat} {ts : List Nat} {T : List Th} {J J' : List Wt} {C C' : List (Int32 × Int32)} {B B' : Nat → List (Int32 × Int32)} {W W' : List Int32} {tp nw : Int32}
theorem x_tick {n : Nat} {nwN : Nat} (hX : XQ M h T J C B W tp (nI nwN)) (hn : n ≤ 60) (hnw : nwN ≤ 40000) (hlen : T.length ≤ 512) (h8 : ∀ i, i < 16 → (B i).length ≤ 8) (hok : ∀ (i : Nat) (t : Th), T[i]? = some t → okT t) (hun : ∀ (i : Nat) (t : Th), T[i]? = some t → lent t = true → (nwN : Int) < t.2.2.2.1.toInt) (hWl : W.length + sm (fun t : Th => t.2.1.length) T ≤ 511) :
    G κ m_LH_tick (d + 11) M 0 [some (.ref h), some (.int (nI n)), none, none, none, none] [] (17 * sm phT T) (418 * sm phT T) (fun v M' => ∃ k s', TkR (nI (nwN + n)) k (T, B, W, nI nwN) s' ∧ v = some (.int (nI k)) ∧ XQ M' h s'.1 J C s'.2.1 s'.2.2.1 tp (nI (nwN + n))) := by
  obtain ⟨own, aT, aJ, aC, aB, aW, ts, hP⟩ := hX
  have htl := hP.len
  have htg : (nI (nwN + n)).toInt = nwN + n := by have := nI_toInt (n := nwN + n) (by omega); omega
  have loop : ∀ F (Mc : Mm) (Tc : List Th) (Bc : Nat → List (Int32 × Int32)) (Wc : List Int32) (nc : Int32) (e : Nat) (o : Option Nat), sm phT Tc ≤ F → Tc.length = T.length → XP Mc own h aT aJ aC aB aW ts Tc J C Bc Wc tp nc → (∀ i, i < 16 → (Bc i).length ≤ 8) → (∀ (i : Nat) (t : Th), Tc[i]? = some t → okT t) → Wc.length + sm (fun t : Th => t.2.1.length) Tc ≤ 511 → e + sm (cpT (nI (nwN + n))) Tc ≤ n * ts.length → MinT Tc Tc.length o →
      G κ m_LH_tick (d + 11) Mc 38 [some (.ref h), some (.int (nI n)), some (.int (nI (nwN + n))), some (.int (nI (n * ts.length))), some (.int (nI e)), some (va_rf (o.bind (fun i => ts[i]?)))] [] (17 * F) (418 * F) (fun v M' => ∃ k s', TkR (nI (nwN + n)) k (Tc, Bc, Wc, nc) s' ∧ v = some (.int (nI (e + k))) ∧ XQ M' h s'.1 J C s'.2.1 s'.2.2.1 tp (nI (nwN + n))) := by
    have body : ∀ F, (∀ F', F = F' + 1 → ∀ (Mc : Mm) (Tc : List Th) (Bc : Nat → List (Int32 × Int32)) (Wc : List Int32) (nc : Int32) (e : Nat) (o : Option Nat), sm phT Tc ≤ F' → Tc.length = T.length → XP Mc own h aT aJ aC aB aW ts Tc J C Bc Wc tp nc → (∀ i, i < 16 → (Bc i).length ≤ 8) → (∀ (i : Nat) (t : Th), Tc[i]? = some t → okT t) → Wc.length + sm (fun t : Th => t.2.1.length) Tc ≤ 511 → e + sm (cpT (nI (nwN + n))) Tc ≤ n * ts.length → MinT Tc Tc.length o →
      G κ m_LH_tick (d + 11) Mc 38 [some (.ref h), some (.int (nI n)), some (.int (nI (nwN + n))), some (.int (nI (n * ts.length))), some (.int (nI e)), some (va_rf (o.bind (fun i => ts[i]?)))] [] (17 * F') (418 * F') (fun v M' => ∃ k s', TkR (nI (nwN + n)) k (Tc, Bc, Wc, nc) s' ∧ v = some (.int (nI (e + k))) ∧ XQ M' h s'.1 J C s'.2.1 s'.2.2.1 tp (nI (nwN + n)))) → ∀ (Mc : Mm) (Tc : List Th) (Bc : Nat → List (Int32 × Int32)) (Wc : List Int32) (nc : Int32) (e : Nat) (o : Option Nat), sm phT Tc ≤ F → Tc.length = T.length → XP Mc own h aT aJ aC aB aW ts Tc J C Bc Wc tp nc → (∀ i, i < 16 → (Bc i).length ≤ 8) → (∀ (i : Nat) (t : Th), Tc[i]? = some t → okT t) → Wc.length + sm (fun t : Th => t.2.1.length) Tc ≤ 511 → e + sm (cpT (nI (nwN + n))) Tc ≤ n * ts.length → MinT Tc Tc.length o →
      G κ m_LH_tick (d + 11) Mc 38 [some (.ref h), some (.int (nI n)), some (.int (nI (nwN + n))), some (.int (nI (n * ts.length))), some (.int (nI e)), some (va_rf (o.bind (fun i => ts[i]?)))] [] (17 * F) (418 * F) (fun v M' => ∃ k s', TkR (nI (nwN + n)) k (Tc, Bc, Wc, nc) s' ∧ v = some (.int (nI (e + k))) ∧ XQ M' h s'.1 J C s'.2.1 s'.2.2.1 tp (nI (nwN + n))) := by
      intro F IH Mc Tc Bc Wc nc e o hF hTl hPc g8 gok gW gcap hmin
      have hmul : n * ts.length ≤ 60 * 512 := Nat.mul_le_mul hn (by omega)
      have fin : ∀ o5, (∀ i t, MinT Tc Tc.length (some i) → Tc[i]? = some t → ¬ t.2.2.2.1 ≤ nI (nwN + n)) → G κ m_LH_tick (d + 11) Mc 85 [some (.ref h), some (.int (nI n)), some (.int (nI (nwN + n))), some (.int (nI (n * ts.length))), some (.int (nI e)), some o5] [] (17 * F) (418 * F) (fun v M' => ∃ k s', TkR (nI (nwN + n)) k (Tc, Bc, Wc, nc) s' ∧ v = some (.int (nI (e + k))) ∧ XQ M' h s'.1 J C s'.2.1 s'.2.2.1 tp (nI (nwN + n))) := by
        intro o5 hdone
        refine g_seq s_LH_tick_85 rfl ?_
        refine g_put f_LH_39 d_LH_tick_87 (hPc.1) rfl rfl rfl ?_
        refine g_seq s_LH_tick_90 rfl ?_
        exact g_iret rfl d_LH_tick_92 (⟨0, (Tc, Bc, Wc, nc), ⟨rfl, hdone⟩, rfl, own, aT, aJ, aC, aB, aW, ts, hPc.house⟩)
      cases o with
      | none =>
        have hdone : ∀ i t, MinT Tc Tc.length (some i) → Tc[i]? = some t → ¬ t.2.2.2.1 ≤ nI (nwN + n) := by
          rintro i t ⟨hi, t2, ht2, hl, -⟩ ht
          exact absurd (hl.symm.trans (hmin i t2 hi ht2)) (by decide)
        rw [Option.bind_none]
        refine g_seq s_LH_tick_38 rfl ?_
        refine g_icmp_ge (tgt := 85) d_LH_tick_41 (by decide) (fun h1 => ?_) (fun h1 => ?_)
        · skip
          exact fin _ hdone
        · skip
          refine g_seq s_LH_tick_44 rfl ?_
          refine g_ifnullN (tgt := 85) d_LH_tick_46 (by decide) ?_
          exact fin _ hdone
      | some i =>
        obtain ⟨hi, t, ht, hl, hb⟩ := id hmin
        obtain ⟨x, hx, hxt⟩ := hPc.2.1.2.2.2.at ht
        obtain ⟨r, hxc⟩ := hxt.cell
        have hotk := gok i t ht
        have key : t.2.2.2.1 ≤ nI (nwN + n) ∨ ∀ i t, MinT Tc Tc.length (some i) → Tc[i]? = some t → ¬ t.2.2.2.1 ≤ nI (nwN + n) := by
          by_cases hle : t.2.2.2.1 ≤ nI (nwN + n)
          · exact Or.inl hle
          · refine Or.inr ?_
            rintro i' t' ⟨hi', t2, ht2, hl2, hb2⟩ ht' hle'
            rw [ht'] at ht2
            cases ht2
            have b1 := hb i' t' hi' ht' hl2
            simp only [bef, decide_eq_false_iff_not, Int32.lt_iff_toInt_lt, ← Int32.toInt_inj] at b1
            rw [Int32.le_iff_toInt_le] at hle hle'
            omega
        rw [Option.bind_some, hx]
        refine g_seq s_LH_tick_38 rfl ?_
        rcases key with hle | hdone
        · have hcp : 1 ≤ cpT (nI (nwN + n)) t := by
            unfold cpT
            rw [if_pos ⟨hl, hle⟩]
            have := Int32.le_iff_toInt_le.mp hle
            omega
          have hcs := sm_ge (f := cpT (nI (nwN + n))) ht
          have hph : 1 ≤ phT t := by simp only [phT, hl]; show 1 ≤ 1 + _; omega
          have hps := sm_ge (f := phT) ht
          obtain ⟨F', rfl⟩ : ∃ F', F = F' + 1 := ⟨F - 1, by omega⟩
          have hule : t.2.2.2.1.toInt ≤ 50000 := by
            have := Int32.le_iff_toInt_le.mp hle
            omega
          obtain ⟨e1, e2, e3⟩ := endT_ok hotk hl hule
          have hrl := sm_ge (f := fun t : Th => t.2.1.length) ht
          refine g_icmp_ge (tgt := 85) d_LH_tick_41 (by decide) (fun hbr => absurd hbr (nI_ge (by omega) (by omega))) (fun hbr => ?_)
          refine g_seq s_LH_tick_44 rfl ?_
          refine g_ifnull d_LH_tick_46 ?_
          refine g_seq s_LH_tick_49 rfl ?_
          refine g_get f_LH_82 d_LH_tick_51 (hxc) rfl ?_
          refine g_seq s_LH_tick_54 rfl ?_
          refine g_icmp_gt (tgt := 85) d_LH_tick_55 (by decide) (fun hbr => absurd hbr (Int32.not_lt.mpr hle)) (fun hbr => ?_)
          refine g_seq s_LH_tick_58 rfl ?_
          refine g_get f_LH_82 d_LH_tick_61 (hxc) rfl ?_
          refine g_put f_LH_39 d_LH_tick_64 (hPc.1) rfl rfl rfl ?_
          have hP2 := hPc.house (tp' := tp) (nw' := t.2.2.2.1)
          refine g_seq s_LH_tick_67 rfl ?_
          refine g_invV (k2 := 17 * F') (n2 := 418 * F') l_LH_75 d_LH_tick_70 rfl ⟨rfl, Nat.le_of_ble_eq_true rfl, Nat.le_of_ble_eq_true rfl⟩ (hP2.1) (x_endLease hP2.1 (hP2.at ht hx) hP2.2.2.2.2.1 g8 hP2.2.2.2.2.2 (by omega) (by have := hotk.1; omega)) (by first | omega | (simp <;> omega)) (by first | omega | (simp <;> omega)) ?_
          rintro v M3 ⟨rfl, ⟨aw, -, hK⟩, q1, q2, q3⟩
          have hP3 := hP2.thing hx hK q1 q2 q3
          refine g_seq s_LH_tick_73 rfl ?_
          refine g_invV (k2 := 17 * F') (n2 := 418 * F') l_LH_102 d_LH_tick_77 rfl ⟨rfl, Nat.le_of_ble_eq_true rfl, Nat.le_of_ble_eq_true rfl⟩ (hP3.1) (x_findNextToEnd hP3.1 hP3.2.1.1 hP3.2.1.2.2.2 (by omega)) (by first | omega | (simp <;> omega)) (by first | omega | (simp <;> omega)) ?_
          rintro v M4 ⟨o', hmin', rfl, rfl⟩
          have s1 := sm_set (f := phT) (y := endT t.2.2.2.1 t) ht
          have s2 := sm_set (f := cpT (nI (nwN + n))) (y := endT t.2.2.2.1 t) ht
          have s3 := sm_set (f := fun t : Th => t.2.1.length) (y := endT t.2.2.2.1 t) ht
          have s4 := endW_len (u := t.2.2.2.1) (t := t) (W := Wc)
          have e4 := e3 _ hle
          have hih := IH F' rfl _ (Tc.set i (endT t.2.2.2.1 t)) (tellB t.2.2.2.2.2 (t.1, endK t) 16 Bc) (endW t.2.2.2.1 t Wc) t.2.2.2.1 (e + 1) o' (by omega) (by simpa using hTl) hP3 (tellB_len g8) (fun j tj hj => ?_) (by omega) (by omega) hmin'
          · have hfin := g_mono hih (Q' := fun v M' => ∃ k s', TkR (nI (nwN + n)) k (Tc, Bc, Wc, nc) s' ∧ v = some (.int (nI (e + k))) ∧ XQ M' h s'.1 J C s'.2.1 s'.2.2.1 tp (nI (nwN + n))) (fun v M' hh => by
              obtain ⟨k, s', h1, h2, h3⟩ := hh
              exact ⟨k + 1, s', ⟨i, t, hmin, ht, hle, h1⟩, by rw [h2]; congr 3; omega, h3⟩)
            cases hbb : o'.bind (fun i => ts[i]?) with
            | none =>
              rw [hbb] at hfin
              refine g_seq s_LH_tick_80 rfl ?_
              rw [nI_1]
              exact hfin
            | some y =>
              rw [hbb] at hfin
              refine g_seq s_LH_tick_80 rfl ?_
              rw [nI_1]
              exact hfin
          · by_cases hji : j = i
            · subst hji
              rw [List.getElem?_set_self (List.getElem?_eq_some_iff.mp ht).1] at hj
              cases hj
              exact e1
            · rw [List.getElem?_set_ne (Ne.symm hji)] at hj
              exact gok j tj hj
        · skip
          refine g_icmp_ge (tgt := 85) d_LH_tick_41 (by decide) (fun h1 => ?_) (fun h1 => ?_)
          · skip
            exact fin _ hdone
          · skip
            refine g_seq s_LH_tick_44 rfl ?_
            refine g_ifnull d_LH_tick_46 ?_
            refine g_seq s_LH_tick_49 rfl ?_
            refine g_get f_LH_82 d_LH_tick_51 (hxc) rfl ?_
            refine g_seq s_LH_tick_54 rfl ?_
            refine g_icmp_gt (tgt := 85) d_LH_tick_55 (by decide) (fun hbr => ?_) (fun hbr => absurd hbr (fun h => h (Int32.not_le.mp (hdone i t hmin ht))))
            exact fin _ hdone
    intro F
    induction F with
    | zero => exact body 0 (fun F' e => by omega)
    | succ F ih => exact body (F + 1) (fun F' e => by cases e; exact ih)
  refine g_seq s_LH_tick_0 rfl ?_
  refine g_if_lt (tgt := 10) d_LH_tick_1 (by decide) (fun hbr => absurd hbr (nI_lt0 (by omega))) (fun hbr => ?_)
  refine g_seq s_LH_tick_4 rfl ?_
  refine g_icmp_le (tgt := 12) d_LH_tick_7 (by decide) (fun hbr => ?_) (fun hbr => absurd hbr (fun h => h (show nI n ≤ nI 60 from nI_le hn (by omega))))
  refine g_seq s_LH_tick_12 rfl ?_
  refine g_get f_LH_39 d_LH_tick_13 (hP.1) rfl ?_
  refine g_seq s_LH_tick_16 rfl ?_
  rw [nI_add]
  refine g_get f_LH_10 d_LH_tick_21 (hP.1) rfl ?_
  refine g_invL (k2 := 17 * sm phT T) (n2 := 418 * sm phT T) l_LH_98 d_LH_tick_24 rfl ⟨rfl, Nat.le_of_ble_eq_true rfl, Nat.le_of_ble_eq_true rfl⟩ (hP.2.1.1) (al_size hP.2.1.1) (by first | omega | (simp <;> omega)) (by first | omega | (simp <;> omega)) ?_
  rintro v M1 ⟨rfl, rfl⟩
  refine g_seq s_LH_tick_27 rfl ?_
  rw [pk_mul]
  refine g_invV (k2 := 17 * sm phT T) (n2 := 418 * sm phT T) l_LH_102 d_LH_tick_33 rfl ⟨rfl, Nat.le_of_ble_eq_true rfl, Nat.le_of_ble_eq_true rfl⟩ (hP.1) (x_findNextToEnd hP.1 hP.2.1.1 hP.2.1.2.2.2 (by omega)) (by first | omega | (simp <;> omega)) (by first | omega | (simp <;> omega)) ?_
  rintro v M2 ⟨o, hmin, rfl, rfl⟩
  have hcap : sm (cpT (nI (nwN + n))) T ≤ n * ts.length := by
    rw [htl]
    refine sm_le (fun t ht => ?_)
    obtain ⟨j, hj⟩ := List.getElem?_of_mem ht
    unfold cpT
    split
    · rename_i hh
      have := hun j t hj hh.1
      omega
    · exact Nat.zero_le _
  have hl := loop (sm phT T) _ T B W (nI nwN) 0 o (Nat.le_refl _) rfl hP h8 hok hWl (by omega) hmin
  have hl2 := g_mono hl (Q' := fun v M' => ∃ k s', TkR (nI (nwN + n)) k (T, B, W, nI nwN) s' ∧ v = some (.int (nI k)) ∧ XQ M' h s'.1 J C s'.2.1 s'.2.2.1 tp (nI (nwN + n))) (fun v M' hh => by
    obtain ⟨k, s', h1, h2, h3⟩ := hh
    exact ⟨k, s', h1, by rw [h2, Nat.zero_add], h3⟩)
  cases hbb : o.bind (fun i => ts[i]?) with
  | none =>
    rw [hbb] at hl2
    refine g_seq s_LH_tick_36 rfl ?_
    exact hl2
  | some y =>
    rw [hbb] at hl2
    refine g_seq s_LH_tick_36 rfl ?_
    exact hl2
end XI
