/-! names as the reference keeps them -/
def dg (ls : List Nat) (k : Nat) : Nat := (ls[k]?).getD 0
def cK (ls : List Nat) : Nat → Nat
  | 0 => ls.length
  | k + 1 => 27 * cK ls k + dg ls k
def ni (ls : List Nat) : Int32 := nI (enc ls)
theorem dg_le {ls : List Nat} (h : okL ls) (k : Nat) : dg ls k ≤ 26 := by
  unfold dg
  cases e : ls[k]? with
  | none => exact Nat.zero_le _
  | some l => exact (h l (List.mem_of_getElem? e)).2
theorem dg_at {ls : List Nat} (h : okL ls) {k : Nat} (hk : k < ls.length) : ls[k]? = some (dg ls k) ∧ 1 ≤ dg ls k := by
  unfold dg
  have e := List.getElem?_eq_getElem hk
  rw [e]
  exact ⟨rfl, (h _ (List.getElem_mem hk)).1⟩
theorem dg_out {ls : List Nat} {k : Nat} (hk : ls.length ≤ k) : dg ls k = 0 := by
  unfold dg
  rw [List.getElem?_eq_none hk]; rfl
theorem cK_b {ls : List Nat} (h : okL ls) (h6 : ls.length ≤ 6) : ∀ k, k ≤ 6 → cK ls k < 7 * 27 ^ k := by
  intro k
  induction k with
  | zero => intro _; show ls.length < 7 * 1; omega
  | succ k ih =>
    intro hk
    have h1 := ih (by omega)
    have h2 := dg_le h k
    show 27 * cK ls k + dg ls k < 7 * 27 ^ (k + 1)
    rw [Nat.pow_succ]
    omega
theorem cK_63 {ls : List Nat} (h : okL ls) (h6 : ls.length ≤ 6) {k : Nat} (hk : k ≤ 6) : cK ls k < 2 ^ 40 := Nat.lt_of_lt_of_le (cK_b h h6 k hk) (by
  have : 27 ^ k ≤ 27 ^ 6 := Nat.pow_le_pow_right (by decide) hk
  omega)
/-- the letters up to k, as the class counts them -/
def eK (ls : List Nat) (k : Nat) : Nat := enc (ls.take k)
theorem eK_s {ls : List Nat} {k : Nat} (hk : k < ls.length) : eK ls (k + 1) = eK ls k * 26 + dg ls k := by
  unfold eK dg
  rw [List.take_succ, List.getElem?_eq_getElem hk]
  exact enc_snoc _ _
theorem eK_o {ls : List Nat} {k : Nat} (hk : ls.length ≤ k) : eK ls k = enc ls := by
  unfold eK
  rw [List.take_of_length_le hk]
/-- both orders of names of one length are one -/
theorem ord_eq {a b : List Nat} (ha : okL a) (hb : okL b) (hl : a.length = b.length) : ∀ k, (eK a k < eK b k ∧ cK a k < cK b k) ∨ (eK a k = eK b k ∧ cK a k = cK b k ∧ ∀ j, j < k → dg a j = dg b j) ∨ (eK b k < eK a k ∧ cK b k < cK a k) := by
  intro k
  induction k with
  | zero => exact Or.inr (Or.inl ⟨by simp [eK], hl, fun j hj => absurd hj (Nat.not_lt_zero _)⟩)
  | succ k ih =>
    have c1 : cK a (k + 1) = 27 * cK a k + dg a k := rfl
    have c2 : cK b (k + 1) = 27 * cK b k + dg b k := rfl
    have d1 := dg_le ha k
    have d2 := dg_le hb k
    by_cases hk : k < a.length
    · have e1 := eK_s hk
      have e2 := eK_s (ls := b) (k := k) (by omega)
      have p1 := (dg_at ha hk).2
      have p2 := (dg_at hb (k := k) (by omega)).2
      rcases ih with ⟨h1, h2⟩ | ⟨h1, h2, h3⟩ | ⟨h1, h2⟩
      · exact Or.inl ⟨by omega, by omega⟩
      · rcases Nat.lt_trichotomy (dg a k) (dg b k) with h | h | h
        · exact Or.inl ⟨by omega, by omega⟩
        · refine Or.inr (Or.inl ⟨by omega, by omega, fun j hj => ?_⟩)
          by_cases hjk : j = k
          · rw [hjk]; exact h
          · exact h3 j (by omega)
        · exact Or.inr (Or.inr ⟨by omega, by omega⟩)
      · exact Or.inr (Or.inr ⟨by omega, by omega⟩)
    · have e1 := eK_o (ls := a) (k := k) (by omega)
      have e2 := eK_o (ls := b) (k := k) (by omega)
      have e3 := eK_o (ls := a) (k := k + 1) (by omega)
      have e4 := eK_o (ls := b) (k := k + 1) (by omega)
      have p1 := dg_out (ls := a) (k := k) (by omega)
      have p2 := dg_out (ls := b) (k := k) (by omega)
      rcases ih with ⟨h1, h2⟩ | ⟨h1, h2, h3⟩ | ⟨h1, h2⟩
      · exact Or.inl ⟨by omega, by omega⟩
      · refine Or.inr (Or.inl ⟨by omega, by omega, fun j hj => ?_⟩)
        by_cases hjk : j = k
        · rw [hjk]; omega
        · exact h3 j (by omega)
      · exact Or.inr (Or.inr ⟨by omega, by omega⟩)
theorem cK_lt {a b : List Nat} (ha : okL a) (hb : okL b) (hl : a.length < b.length) : ∀ k, cK a k < cK b k := by
  intro k
  induction k with
  | zero => exact hl
  | succ k ih =>
    have c1 : cK a (k + 1) = 27 * cK a k + dg a k := rfl
    have c2 : cK b (k + 1) = 27 * cK b k + dg b k := rfl
    have d1 := dg_le ha k
    omega
theorem enc_le : ∀ ls : List Nat, okL ls → 25 * enc ls + 26 ≤ 26 ^ (ls.length + 1) ∧ 26 ^ ls.length ≤ 25 * enc ls + 1 := by
  refine snocRec ?_ ?_
  · intro _; exact ⟨by decide, by decide⟩
  · intro l x ih h
    obtain ⟨h1, h2, h3⟩ := okL_snoc.mp h
    have := ih h1
    rw [enc_snoc, List.length_append, List.length_singleton, Nat.pow_succ 26 (l.length + 1), Nat.pow_succ 26 l.length]
    rw [Nat.pow_succ 26 l.length] at this
    omega
theorem enc_ltl {a b : List Nat} (ha : okL a) (hb : okL b) (hl : a.length < b.length) : enc a < enc b := by
  have h1 := (enc_le a ha).1
  have h2 := (enc_le b hb).2
  have h3 : 26 ^ (a.length + 1) ≤ 26 ^ b.length := Nat.pow_le_pow_right (by decide) hl
  omega
theorem ord_nm {a b : List Nat} (ha : okL a) (hb : okL b) (h6 : a.length ≤ 6) (h6b : b.length ≤ 6) : (enc a < enc b ∧ cK a 6 < cK b 6) ∨ a = b ∨ (enc b < enc a ∧ cK b 6 < cK a 6) := by
  rcases Nat.lt_trichotomy a.length b.length with hl | hl | hl
  · exact Or.inl ⟨enc_ltl ha hb hl, cK_lt ha hb hl 6⟩
  · have h := ord_eq ha hb hl 6
    rw [eK_o h6, eK_o h6b] at h
    rcases h with h | ⟨-, -, h⟩ | h
    · exact Or.inl h
    · refine Or.inr (Or.inl (List.ext_getElem? fun i => ?_))
      by_cases hi : i < a.length
      · rw [(dg_at ha hi).1, (dg_at hb (k := i) (by omega)).1, h i (by omega)]
      · rw [List.getElem?_eq_none (by omega), List.getElem?_eq_none (by omega)]
    · exact Or.inr (Or.inr h)
  · exact Or.inr (Or.inr ⟨enc_ltl hb ha hl, cK_lt hb ha hl 6⟩)
theorem ni_inj {a b : List Nat} (ha : okL a) (hb : okL b) (h6 : a.length ≤ 6) (h6b : b.length ≤ 6) (h : ni a = ni b) : a = b := by
  have b1 := enc_b ha h6
  have b2 := enc_b hb h6b
  have h1 := (nI_eq (a := enc a) (b := enc b) (by omega) (by omega)).mp h
  rcases ord_nm ha hb h6 h6b with h2 | h2 | h2
  · omega
  · exact h2
  · omega
theorem ni_lt {a b : List Nat} (ha : okL a) (hb : okL b) (h6 : a.length ≤ 6) (h6b : b.length ≤ 6) : (lN (cK a 6) < lN (cK b 6)) ↔ ni a < ni b := by
  have b1 := enc_b ha h6
  have b2 := enc_b hb h6b
  have c1 := cK_63 ha h6 (Nat.le_refl 6)
  have c2 := cK_63 hb h6b (Nat.le_refl 6)
  unfold ni
  rw [pk_lLT (by omega) (by omega), nI_ltI (by omega) (by omega)]
  rcases ord_nm ha hb h6 h6b with h2 | h2 | h2
  · omega
  · rw [h2]; omega
  · omega
theorem lN_cK {a b : List Nat} (ha : okL a) (hb : okL b) (h6 : a.length ≤ 6) (h6b : b.length ≤ 6) : lN (cK a 6) = lN (cK b 6) ↔ a = b := by
  have c1 := cK_63 ha h6 (Nat.le_refl 6)
  have c2 := cK_63 hb h6b (Nat.le_refl 6)
  rw [pk_lEQ (by omega) (by omega)]
  constructor
  · intro h
    rcases ord_nm ha hb h6 h6b with h2 | h2 | h2
    · omega
    · exact h2
    · omega
  · intro h; rw [h]
/-! an array holds a list -/
def RP {α : Type} (g : Nat → Int32) (R : Int32 → α → Prop) (L : List α) : Prop := ∀ (j : Nat) (x : α), L[j]? = some x → R (g j) x
theorem RP.keep {α : Type} {g g' : Nat → Int32} {R : Int32 → α → Prop} {L : List α} (h : RP g R L) (hg : ∀ j, j < L.length → g' j = g j) : RP g' R L := fun j x hx => by
  rw [hg j (List.getElem?_eq_some_iff.mp hx).1]; exact h j x hx
theorem RP.snoc {α : Type} {g g' : Nat → Int32} {R : Int32 → α → Prop} {L : List α} {x : α} (h : RP g R L) (hg : ∀ j, j < L.length → g' j = g j) (hx : R (g' L.length) x) : RP g' R (L ++ [x]) := fun j y hy => by
  by_cases hj : j < L.length
  · rw [List.getElem?_append_left hj] at hy
    rw [hg j hj]; exact h j y hy
  · rw [List.getElem?_append_right (by omega)] at hy
    have : j - L.length = 0 := by
      have := (List.getElem?_eq_some_iff.mp hy).1
      simp at this; omega
    rw [this] at hy
    cases hy
    rw [show j = L.length by omega]; exact hx
theorem RP.erase {α : Type} {g g' : Nat → Int32} {R : Int32 → α → Prop} {L : List α} {k : Nat} (h : RP g R L) (hk : k < L.length) (h1 : ∀ j, j < k → g' j = g j) (h2 : ∀ j, k ≤ j → j < L.length - 1 → g' j = g (j + 1)) : RP g' R (L.eraseIdx k) := fun j y hy => by
  rw [List.getElem?_eraseIdx] at hy
  split at hy
  · rename_i hj
    rw [h1 j hj]; exact h j y hy
  · rename_i hj
    have := (List.getElem?_eq_some_iff.mp hy).1
    rw [h2 j (by omega) (by omega)]; exact h (j + 1) y hy
theorem RP.mono {α : Type} {g : Nat → Int32} {R R' : Int32 → α → Prop} {L : List α} (h : RP g R L) (hR : ∀ v x, R v x → R' v x) : RP g R' L := fun j x hx => hR _ _ (h j x hx)
theorem sh_in {f : Nat → Int32} {lo hi j : Nat} (h : lo ≤ j) (h2 : j < hi) : sh f lo hi j = f (j + 1) := if_pos ⟨h, h2⟩
theorem sh_out {f : Nat → Int32} {lo hi j : Nat} (h : j < lo ∨ hi ≤ j) : sh f lo hi j = f j := if_neg (by omega)
section NC
variable {κ : Nat × Nat} {d m : Nat} {ad : Nat → Nat} {ar : Ar} {nm : Nat → Int64} {sc : Sc}
theorem m_inCacheP {α : Type} {n : Int32} {C : List α} {p : α → Bool} (h26 : sc 26 = nI C.length) (h4 : C.length ≤ 4) (h15 : ∀ (j : Nat) (x : α), C[j]? = some x → (ar 15 j = n ↔ p x = true)) : GN κ m_Mo_inCache d m ad ar nm sc 0 [some (.ref m), some (.int n), none] [] (fun v ar' nm' sc' => ar' = ar ∧ nm' = nm ∧ sc' = sc ∧ ∃ o, FI p C o ∧ v = some (.int (oM o))) := by
  have loop : ∀ k i, i + k = C.length → (∀ (j : Nat) (y : α), j < i → C[j]? = some y → p y = false) → GN κ m_Mo_inCache d m ad ar nm sc 2 [some (.ref m), some (.int n), some (.int (nI i))] [] (fun v ar' nm' sc' => ar' = ar ∧ nm' = nm ∧ sc' = sc ∧ ∃ o, FI p C o ∧ v = some (.int (oM o))) := by
    intro k
    induction k with
    | zero =>
      intro i hi hno
      refine n_seq s_Mo_inCache_2 rfl ?_
      refine n_gets f_Mo_134 d_Mo_inCache_4 rfl ?_
      rw [h26]
      refine n_icmp_ge (tgt := 28) d_Mo_inCache_7 (by decide) (fun hbr => ?_) (fun hbr => absurd hbr (fun h => h (nI_le (by omega) (by omega))))
      refine n_seq s_Mo_inCache_28 rfl ?_
      exact n_iret rfl d_Mo_inCache_29 (⟨rfl, rfl, rfl, none, fun j y hy => hno j y (by have := (List.getElem?_eq_some_iff.mp hy).1; omega) hy, rfl⟩)
    | succ k ih =>
      intro i hi hno
      have hil : i < C.length := by omega
      have hri := List.getElem?_eq_getElem hil
      generalize C[i] = w at hri
      have e1 := h15 i w hri
      refine n_seq s_Mo_inCache_2 rfl ?_
      refine n_gets f_Mo_134 d_Mo_inCache_4 rfl ?_
      rw [h26]
      refine n_icmp_ge (tgt := 28) d_Mo_inCache_7 (by decide) (fun hbr => absurd hbr (nI_ge (by omega) (by omega))) (fun hbr => ?_)
      refine n_seq s_Mo_inCache_10 rfl ?_
      refine n_geta f_Mo_57 d_Mo_inCache_11 (by decide) ?_
      refine n_seq s_Mo_inCache_14 rfl ?_
      refine n_ald d_Mo_inCache_15 ⟨by decide, by decide⟩ (rfl) ((show i < 4 by omega)) ?_
      refine n_seq s_Mo_inCache_16 rfl ?_
      refine n_icmp_ne (tgt := 22) d_Mo_inCache_17 (by decide) (fun h1 => ?_) (fun h1 => ?_)
      · skip
        refine n_seq s_Mo_inCache_22 rfl ?_
        rw [nI_1]
        refine ih (i + 1) (by omega) (fun j y hj hy => ?_)
        by_cases hji : j = i
        · subst hji
          rw [hri] at hy
          cases hy
          exact Bool.eq_false_iff.mpr (fun e => h1 (e1.mpr e))
        · exact hno j y (by omega) hy
      · skip
        refine n_seq s_Mo_inCache_20 rfl ?_
        exact n_iret rfl d_Mo_inCache_21 (⟨rfl, rfl, rfl, some i, ⟨w, hri, e1.mp h1, hno⟩, rfl⟩)
  refine n_seq s_Mo_inCache_0 rfl ?_
  exact loop C.length 0 (by omega) (fun j y hj => absurd hj (Nat.not_lt_zero _))
theorem m_drop {c L : Nat} (hc : c < 16) (h19 : ar 19 c = nI L) (h8 : L ≤ 8) (h1 : 1 ≤ L) : GN κ m_Mo_drop d m ad ar nm sc 0 [some (.ref m), some (.int (nI c)), none] [] (fun v ar' nm' sc' => v = none ∧ nm' = nm ∧ sc' = sc ∧ ar' = arS ar [(19, upd (ar 19) c (nI (L - 1))), (17, sh (ar 17) (8 * c) (8 * c + (L - 1))), (18, sh (ar 18) (8 * c) (8 * c + (L - 1)))]) := by
  have e1 : nI L - 1 = nI (L - 1) := pk_sub (b := 1) (by omega)
  have loop : ∀ q i, i + q = L - 1 → GN κ m_Mo_drop d m ad (arS ar [(19, upd (ar 19) c (nI (L - 1))), (17, sh (ar 17) (8 * c) (8 * c + i)), (18, sh (ar 18) (8 * c) (8 * c + i))]) nm sc 12 [some (.ref m), some (.int (nI c)), some (.int (nI i))] [] (fun v ar' nm' sc' => v = none ∧ nm' = nm ∧ sc' = sc ∧ ar' = arS ar [(19, upd (ar 19) c (nI (L - 1))), (17, sh (ar 17) (8 * c) (8 * c + (L - 1))), (18, sh (ar 18) (8 * c) (8 * c + (L - 1)))]) := by
    intro q
    induction q with
    | zero =>
      intro i hi
      have hie : i = L - 1 := by omega
      subst hie
      refine n_seq s_Mo_drop_12 rfl ?_
      refine n_geta f_Mo_69 d_Mo_drop_14 (by decide) ?_
      refine n_seq s_Mo_drop_17 rfl ?_
      refine n_aldL d_Mo_drop_18 ⟨by decide, by decide⟩ rfl (rfl) (hc) ?_
      rw [pk_us]
      refine n_icmp_ge (tgt := 76) d_Mo_drop_19 (by decide) (fun hbr => ?_) (fun hbr => absurd hbr (fun h => h (nI_le (Nat.le_refl _) (by omega))))
      exact n_vret rfl d_Mo_drop_76 (⟨rfl, rfl, rfl, rfl⟩)
    | succ q ih =>
      intro i hi
      refine n_seq s_Mo_drop_12 rfl ?_
      refine n_geta f_Mo_69 d_Mo_drop_14 (by decide) ?_
      refine n_seq s_Mo_drop_17 rfl ?_
      refine n_aldL d_Mo_drop_18 ⟨by decide, by decide⟩ rfl (rfl) (hc) ?_
      rw [pk_us]
      refine n_icmp_ge (tgt := 76) d_Mo_drop_19 (by decide) (fun hbr => absurd hbr (nI_ge (by omega) (by omega))) (fun hbr => ?_)
      refine n_seq s_Mo_drop_22 rfl ?_
      refine n_geta f_Mo_63 d_Mo_drop_23 (by decide) ?_
      refine n_seq s_Mo_drop_26 rfl ?_
      rw [n8]
      refine n_geta f_Mo_63 d_Mo_drop_33 (by decide) ?_
      refine n_seq s_Mo_drop_36 rfl ?_
      rw [n8]
      refine n_aldL d_Mo_drop_44 ⟨by decide, by decide⟩ rfl (nI_1 _) ((show 8 * c + i + 1 < 128 by omega)) ?_
      refine n_astL d_Mo_drop_45 ⟨by decide, by decide⟩ rfl (rfl) ((show 8 * c + i < 128 by omega)) ?_
      rw [sh_s (Nat.le_add_right _ _)]
      refine n_seq s_Mo_drop_46 rfl ?_
      refine n_geta f_Mo_66 d_Mo_drop_47 (by decide) ?_
      refine n_seq s_Mo_drop_50 rfl ?_
      rw [n8]
      refine n_geta f_Mo_66 d_Mo_drop_57 (by decide) ?_
      refine n_seq s_Mo_drop_60 rfl ?_
      rw [n8]
      refine n_aldL d_Mo_drop_68 ⟨by decide, by decide⟩ rfl (nI_1 _) ((show 8 * c + i + 1 < 128 by omega)) ?_
      refine n_astL d_Mo_drop_69 ⟨by decide, by decide⟩ rfl (rfl) ((show 8 * c + i < 128 by omega)) ?_
      rw [sh_s (Nat.le_add_right _ _)]
      refine n_seq s_Mo_drop_70 rfl ?_
      rw [nI_1]
      exact ih (i + 1) (by omega)
  have hst : ar = arS ar [(19, ar 19), (17, ar 17), (18, ar 18)] := arS_id _ (by simp)
  refine n_st hst ?_
  refine n_seq s_Mo_drop_0 rfl ?_
  refine n_geta f_Mo_69 d_Mo_drop_1 (by decide) ?_
  refine n_seq s_Mo_drop_4 rfl ?_
  refine n_aldL d_Mo_drop_6 ⟨by decide, by decide⟩ rfl (rfl) (hc) ?_
  rw [h19]
  refine n_seq s_Mo_drop_7 rfl ?_
  rw [e1]
  refine n_astL d_Mo_drop_9 ⟨by decide, by decide⟩ rfl (rfl) (hc) ?_
  refine n_seq s_Mo_drop_10 rfl ?_
  have := loop (L - 1) 0 (by omega)
  rw [Nat.add_zero, sh_0, sh_0] at this
  exact this
theorem m_gone {k L : Nat} (h25 : sc 25 = nI L) (h30 : L ≤ 30) (hk : k < L) : GN κ m_Mo_gone d m ad ar nm sc 0 [some (.ref m), some (.int (nI k)), none] [] (fun v ar' nm' sc' => v = none ∧ nm' = nm ∧ sc' = scR sc 25 (nI (L - 1)) ∧ ar' = arS ar [(12, sh (ar 12) k (L - 1)), (13, sh (ar 13) k (L - 1)), (14, sh (ar 14) k (L - 1))]) := by
  have e1 : nI L - 1 = nI (L - 1) := pk_sub (b := 1) (by omega)
  have loop : ∀ q i, i + q = L - 1 → k ≤ i → GN κ m_Mo_gone d m ad (arS ar [(12, sh (ar 12) k i), (13, sh (ar 13) k i), (14, sh (ar 14) k i)]) nm (scR sc 25 (nI (L - 1))) 12 [some (.ref m), some (.int (nI k)), some (.int (nI i))] [] (fun v ar' nm' sc' => v = none ∧ nm' = nm ∧ sc' = scR sc 25 (nI (L - 1)) ∧ ar' = arS ar [(12, sh (ar 12) k (L - 1)), (13, sh (ar 13) k (L - 1)), (14, sh (ar 14) k (L - 1))]) := by
    intro q
    induction q with
    | zero =>
      intro i hi hki
      have hie : i = L - 1 := by omega
      subst hie
      refine n_seq s_Mo_gone_12 rfl ?_
      refine n_gets f_Mo_126 d_Mo_gone_14 rfl ?_
      refine n_icmp_ge (tgt := 68) d_Mo_gone_17 (by decide) (fun hbr => ?_) (fun hbr => absurd hbr (fun h => h (nI_le (Nat.le_refl _) (by omega))))
      exact n_vret rfl d_Mo_gone_68 (⟨rfl, rfl, rfl, rfl⟩)
    | succ q ih =>
      intro i hi hki
      refine n_seq s_Mo_gone_12 rfl ?_
      refine n_gets f_Mo_126 d_Mo_gone_14 rfl ?_
      refine n_icmp_ge (tgt := 68) d_Mo_gone_17 (by decide) (fun hbr => absurd hbr (nI_ge (by omega) (by omega))) (fun hbr => ?_)
      refine n_seq s_Mo_gone_20 rfl ?_
      refine n_geta f_Mo_48 d_Mo_gone_21 (by decide) ?_
      refine n_seq s_Mo_gone_24 rfl ?_
      refine n_geta f_Mo_48 d_Mo_gone_26 (by decide) ?_
      refine n_seq s_Mo_gone_29 rfl ?_
      refine n_aldL d_Mo_gone_32 ⟨by decide, by decide⟩ rfl (nI_1 _) ((show i + 1 < 30 by omega)) ?_
      refine n_astL d_Mo_gone_33 ⟨by decide, by decide⟩ rfl (rfl) ((show i < 30 by omega)) ?_
      rw [sh_s hki]
      refine n_seq s_Mo_gone_34 rfl ?_
      refine n_geta f_Mo_51 d_Mo_gone_35 (by decide) ?_
      refine n_seq s_Mo_gone_38 rfl ?_
      refine n_geta f_Mo_51 d_Mo_gone_40 (by decide) ?_
      refine n_seq s_Mo_gone_43 rfl ?_
      refine n_aldL d_Mo_gone_46 ⟨by decide, by decide⟩ rfl (nI_1 _) ((show i + 1 < 30 by omega)) ?_
      refine n_astL d_Mo_gone_47 ⟨by decide, by decide⟩ rfl (rfl) ((show i < 30 by omega)) ?_
      rw [sh_s hki]
      refine n_seq s_Mo_gone_48 rfl ?_
      refine n_geta f_Mo_54 d_Mo_gone_49 (by decide) ?_
      refine n_seq s_Mo_gone_52 rfl ?_
      refine n_geta f_Mo_54 d_Mo_gone_54 (by decide) ?_
      refine n_seq s_Mo_gone_57 rfl ?_
      refine n_aldL d_Mo_gone_60 ⟨by decide, by decide⟩ rfl (nI_1 _) ((show i + 1 < 30 by omega)) ?_
      refine n_astL d_Mo_gone_61 ⟨by decide, by decide⟩ rfl (rfl) ((show i < 30 by omega)) ?_
      rw [sh_s hki]
      refine n_seq s_Mo_gone_62 rfl ?_
      rw [nI_1]
      exact ih (i + 1) (by omega) (by omega)
  have hst : ar = arS ar [(12, ar 12), (13, ar 13), (14, ar 14)] := arS_id _ (by simp)
  refine n_st hst ?_
  refine n_seq s_Mo_gone_0 rfl ?_
  refine n_gets f_Mo_126 d_Mo_gone_2 rfl ?_
  rw [h25]
  refine n_seq s_Mo_gone_5 rfl ?_
  rw [e1]
  refine n_puts f_Mo_126 d_Mo_gone_7 rfl ?_
  refine n_seq s_Mo_gone_10 rfl ?_
  have := loop (L - 1 - k) k (by omega) (Nat.le_refl _)
  rw [sh_0, sh_0, sh_0] at this
  exact this
end NC
