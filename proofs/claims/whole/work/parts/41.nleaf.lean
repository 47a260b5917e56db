/-! rows of the arrays that a loop writes: a list of them -/
def arS (ar : Ar) : List (Nat × (Nat → Int32)) → Ar
  | [] => ar
  | (a, f) :: l => fun i => if i = a then f else arS ar l i
def setC {ρ : Type} : List (Nat × (Nat → Int32)) → Nat → Nat → Int32 → (List (Nat × (Nat → Int32)) → Option ρ) → Option ρ
  | [], _, _, _, _ => none
  | (a, f) :: l, i, j, y, k => if i = a then k ((a, upd f j y) :: l) else setC l i j y (fun l' => k ((a, f) :: l'))
theorem setC_spec {ρ : Type} {ar : Ar} {r : ρ} {i jj : Nat} {y : Int32} : ∀ (l : List (Nat × (Nat → Int32))) (k : List (Nat × (Nat → Int32)) → Option ρ), setC l i jj y k = some r → ∃ l', k l' = some r ∧ arS ar l' = arR (arS ar l) i (upd (arS ar l i) jj y) := by
  intro l
  induction l with
  | nil => intro k h; cases h
  | cons q l ih =>
    obtain ⟨a, f⟩ := q
    intro k h
    unfold setC at h
    split at h
    · rename_i hia
      subst hia
      refine ⟨_, h, ?_⟩
      funext j
      by_cases hj : j = i <;> simp [arS, arR, hj]
    · rename_i hia
      obtain ⟨l', h1, h2⟩ := ih _ h
      refine ⟨_, h1, ?_⟩
      funext j
      show (if j = a then f else arS ar l' j) = arR (fun i => if i = a then f else arS ar l i) i (upd (if i = a then f else arS ar l i) jj y) j
      rw [h2, if_neg hia]
      unfold arR
      dsimp only
      by_cases hj : j = a
      · rw [if_pos hj, if_neg (fun e => hia (e.symm.trans hj)), if_pos hj]
      · rw [if_neg hj, if_neg hj]
def getC {ρ : Type} : List (Nat × (Nat → Int32)) → Nat → (Nat → Int32) → ((Nat → Int32) → Option ρ) → Option ρ
  | [], _, e, k => k e
  | (a, f) :: l, i, e, k => if i = a then k f else getC l i e k
theorem getC_spec {ar : Ar} {i : Nat} {f : Nat → Int32} : ∀ (l : List (Nat × (Nat → Int32))), getC l i (ar i) some = some f → arS ar l i = f := by
  intro l
  induction l with
  | nil => intro h; cases h; rfl
  | cons q l ih =>
    obtain ⟨a, g⟩ := q
    intro h
    unfold getC at h
    show (if i = a then g else arS ar l i) = f
    split at h
    · rename_i hia
      cases h
      rw [if_pos hia]
    · rename_i hia
      rw [if_neg hia]
      exact ih h
theorem arS_id {ar : Ar} : ∀ (l : List (Nat × (Nat → Int32))), (∀ q ∈ l, q.2 = ar q.1) → ar = arS ar l := by
  intro l
  induction l with
  | nil => intro _; rfl
  | cons q l ih =>
    obtain ⟨a, g⟩ := q
    intro h
    funext i
    show ar i = if i = a then g else arS ar l i
    have h1 := h (a, g) List.mem_cons_self
    have h2 := ih (fun q hq => h q (List.mem_cons_of_mem _ hq))
    by_cases hia : i = a
    · rw [if_pos hia, hia]; exact h1.symm
    · rw [if_neg hia, ← h2]
section NL
variable {κ : Nat × Nat} {μ ν : MD} {d m : Nat} {ad : Nat → Nat} {ar : Ar} {nm : Nat → Int64} {sc : Sc} {pc : Nat} {lv : LV} {st rest : List Value} {Q : Option Value → Ar → (Nat → Int64) → Sc → Prop} {l l' : List (Nat × (Nat → Int32))}
theorem n_aldL {i j : Nat} {x : Int32} {f : Nat → Int32} (hd : decode μ.2.1 pc = .ok (.iaload, 1)) (hi : i < 21 ∧ i ≠ 1) (hf : getC l i (ar i) some = some f) (hx : x = nI j) (hj : j < ln i) (kk : GN κ μ d m ad (arS ar l) nm sc (pc + 1) lv (.int (f j) :: rest) Q) : GN κ μ d m ad (arS ar l) nm sc pc lv (.int x :: .ref (ad i) :: rest) Q := n_ald hd hi hx hj (by rw [getC_spec l hf]; exact kk)
theorem n_astL {i j : Nat} {x y : Int32} (hd : decode μ.2.1 pc = .ok (.iastore, 1)) (hi : i < 21 ∧ i ≠ 1) (hl : setC l i j y some = some l') (hx : x = nI j) (hj : j < ln i) (kk : GN κ μ d m ad (arS ar l') nm sc (pc + 1) lv rest Q) : GN κ μ d m ad (arS ar l) nm sc pc lv (.int y :: .int x :: .ref (ad i) :: rest) Q := by
  obtain ⟨l2, h1, h2⟩ := setC_spec (ar := ar) l some hl
  cases h1
  exact n_ast hd hi hx hj (by rw [← h2]; exact kk)
theorem n_st {ar' : Ar} (h : ar = ar') (kk : GN κ μ d m ad ar' nm sc pc lv st Q) : GN κ μ d m ad ar nm sc pc lv st Q := h ▸ kk
end NL
/-- shifted down by one from lo to hi -/
def sh (f : Nat → Int32) (lo hi : Nat) : Nat → Int32 := fun j => if lo ≤ j ∧ j < hi then f (j + 1) else f j
theorem sh_0 {f : Nat → Int32} {lo : Nat} : sh f lo lo = f := by funext j; unfold sh; rw [if_neg (by omega)]
theorem sh_s {f : Nat → Int32} {lo j : Nat} (h : lo ≤ j) : upd (sh f lo j) j (sh f lo j (j + 1)) = sh f lo (j + 1) := by
  funext q
  unfold upd sh
  by_cases hq : q = j
  · subst hq
    rw [if_pos rfl, if_neg (by omega), if_pos (by omega)]
  · rw [if_neg hq]
    by_cases h2 : lo ≤ q ∧ q < j
    · rw [if_pos h2, if_pos (by omega)]
    · rw [if_neg h2, if_neg (by omega)]
def oM (r : Option Nat) : Int32 := match r with
  | none => -1
  | some i => nI i
section NB
variable {κ : Nat × Nat} {d m : Nat} {ad : Nat → Nat} {ar : Ar} {nm : Nat → Int64} {sc : Sc}
theorem m_isClient {M : Mm} {c : Int32} : G κ m_Mo_isClient d M 0 [some (.int c)] [] 0 0 (fun v M' => v = some (.int (b2i (decide (0 ≤ c ∧ c < 16)))) ∧ M' = M) := by
  refine g_seq s_Mo_isClient_0 rfl ?_
  refine g_if_lt (tgt := 14) d_Mo_isClient_1 (by decide) (fun h => ?_) (fun h => ?_)
  · skip
    refine g_seq s_Mo_isClient_14 rfl ?_
    exact g_zret rfl rfl d_Mo_isClient_15 (⟨by rw [decide_eq_false (fun q => absurd h (Int32.not_lt.mpr q.1))]; rfl, rfl⟩)
  · skip
    refine g_seq s_Mo_isClient_4 rfl ?_
    refine g_icmp_ge (tgt := 14) d_Mo_isClient_7 (by decide) (fun h2 => ?_) (fun h2 => ?_)
    · skip
      refine g_seq s_Mo_isClient_14 rfl ?_
      exact g_zret rfl rfl d_Mo_isClient_15 (⟨by rw [decide_eq_false (fun q => absurd q.2 (Int32.not_lt.mpr h2))]; rfl, rfl⟩)
    · skip
      refine g_seq s_Mo_isClient_10 rfl ?_
      exact g_zret rfl rfl d_Mo_isClient_15 (⟨by rw [decide_eq_true ⟨Int32.not_lt.mp h, Int32.not_le.mp h2⟩]; rfl, rfl⟩)
theorem n5 {n j : Nat} : (5 : Int32) * nI n + nI j = nI (5 * n + j) := by rw [show (5 : Int32) = nI 5 from rfl, pk_mul, nI_add]
theorem n16 {n j : Nat} : (16 : Int32) * nI n + nI j = nI (16 * n + j) := by rw [show (16 : Int32) = nI 16 from rfl, pk_mul, nI_add]
theorem n8 {n j : Nat} : (8 : Int32) * nI n + nI j = nI (8 * n + j) := by rw [show (8 : Int32) = nI 8 from rfl, pk_mul, nI_add]
theorem m_place {n : Nat} {c : Int32} {row : List Wt} (hn : n < 4200) (h7 : ar 7 n = nI row.length) (h5 : row.length ≤ 5) (h8 : ∀ (j : Nat) (w : Wt), row[j]? = some w → ar 8 (5 * n + j) = w.1) : GN κ m_Mo_place d m ad ar nm sc 0 [some (.ref m), some (.int (nI n)), some (.int c), none] [] (fun v ar' nm' sc' => ar' = ar ∧ nm' = nm ∧ sc' = sc ∧ ∃ o, FI (fun w : Wt => w.1 == c) row o ∧ v = some (.int (oM o))) := by
  have loop : ∀ k i, i + k = row.length → (∀ (j : Nat) (y : Wt), j < i → row[j]? = some y → (y.1 == c) = false) → GN κ m_Mo_place d m ad ar nm sc 2 [some (.ref m), some (.int (nI n)), some (.int c), some (.int (nI i))] [] (fun v ar' nm' sc' => ar' = ar ∧ nm' = nm ∧ sc' = sc ∧ ∃ o, FI (fun w : Wt => w.1 == c) row o ∧ v = some (.int (oM o))) := by
    intro k
    induction k with
    | zero =>
      intro i hi hno
      refine n_seq s_Mo_place_2 rfl ?_
      refine n_geta f_Mo_33 d_Mo_place_4 (by decide) ?_
      refine n_seq s_Mo_place_7 rfl ?_
      refine n_ald d_Mo_place_8 ⟨by decide, by decide⟩ (rfl) (hn) ?_
      rw [h7]
      refine n_icmp_ge (tgt := 34) d_Mo_place_9 (by decide) (fun hbr => ?_) (fun hbr => absurd hbr (fun h => h (nI_le (by omega) (by omega))))
      refine n_seq s_Mo_place_34 rfl ?_
      exact n_iret rfl d_Mo_place_35 (⟨rfl, rfl, rfl, none, fun j y hy => hno j y (by have := (List.getElem?_eq_some_iff.mp hy).1; omega) hy, rfl⟩)
    | succ k ih =>
      intro i hi hno
      have hil : i < row.length := by omega
      have hri := List.getElem?_eq_getElem hil
      generalize row[i] = w at hri
      refine n_seq s_Mo_place_2 rfl ?_
      refine n_geta f_Mo_33 d_Mo_place_4 (by decide) ?_
      refine n_seq s_Mo_place_7 rfl ?_
      refine n_ald d_Mo_place_8 ⟨by decide, by decide⟩ (rfl) (hn) ?_
      rw [h7]
      refine n_icmp_ge (tgt := 34) d_Mo_place_9 (by decide) (fun hbr => absurd hbr (nI_ge (by omega) (by omega))) (fun hbr => ?_)
      refine n_seq s_Mo_place_12 rfl ?_
      refine n_geta f_Mo_36 d_Mo_place_13 (by decide) ?_
      refine n_seq s_Mo_place_16 rfl ?_
      refine n_ald d_Mo_place_21 ⟨by decide, by decide⟩ (n5) ((show 5 * n + i < 21000 by omega)) ?_
      rw [h8 i w hri]
      refine n_seq s_Mo_place_22 rfl ?_
      refine n_icmp_ne (tgt := 28) d_Mo_place_23 (by decide) (fun h1 => ?_) (fun h1 => ?_)
      · skip
        refine n_seq s_Mo_place_28 rfl ?_
        rw [nI_1]
        refine ih (i + 1) (by omega) (fun j y hj hy => ?_)
        by_cases hji : j = i
        · subst hji
          rw [hri] at hy
          cases hy
          simpa using h1
        · exact hno j y (by omega) hy
      · skip
        refine n_seq s_Mo_place_26 rfl ?_
        exact n_iret rfl d_Mo_place_27 (⟨rfl, rfl, rfl, some i, ⟨w, hri, by simpa using h1, hno⟩, rfl⟩)
  refine n_seq s_Mo_place_0 rfl ?_
  exact loop row.length 0 (by omega) (fun j y hj => absurd hj (Nat.not_lt_zero _))
theorem m_inCache {n : Nat} {CN : List (Nat × Int32)} (hn : n ≤ 100000) (h26 : sc 26 = nI CN.length) (h4 : CN.length ≤ 4) (h15 : ∀ (j : Nat) (x : Nat × Int32), CN[j]? = some x → ar 15 j = nI x.1 ∧ x.1 ≤ 100000) : GN κ m_Mo_inCache d m ad ar nm sc 0 [some (.ref m), some (.int (nI n)), none] [] (fun v ar' nm' sc' => ar' = ar ∧ nm' = nm ∧ sc' = sc ∧ ∃ o, FI (fun x : Nat × Int32 => x.1 == n) CN o ∧ v = some (.int (oM o))) := by
  have loop : ∀ k i, i + k = CN.length → (∀ (j : Nat) (y : Nat × Int32), j < i → CN[j]? = some y → (y.1 == n) = false) → GN κ m_Mo_inCache d m ad ar nm sc 2 [some (.ref m), some (.int (nI n)), some (.int (nI i))] [] (fun v ar' nm' sc' => ar' = ar ∧ nm' = nm ∧ sc' = sc ∧ ∃ o, FI (fun x : Nat × Int32 => x.1 == n) CN o ∧ v = some (.int (oM o))) := by
    intro k
    induction k with
    | zero =>
      intro i hi hno
      refine n_seq s_Mo_inCache_2 rfl ?_
      refine n_gets f_Mo_134 d_Mo_inCache_4 rfl ?_
      rw [h26]
      refine n_icmp_ge (tgt := 28) d_Mo_inCache_7 (by decide) (fun hbr => ?_) (fun hbr => absurd hbr (fun h => h (nI_le (by omega) (by omega))))
      refine n_seq s_Mo_inCache_28 rfl ?_
      exact n_iret rfl d_Mo_inCache_29 (⟨rfl, rfl, rfl, none, fun j y hy => hno j y (by have := (List.getElem?_eq_some_iff.mp hy).1; omega) hy, rfl⟩)
    | succ k ih =>
      intro i hi hno
      have hil : i < CN.length := by omega
      have hri := List.getElem?_eq_getElem hil
      generalize CN[i] = w at hri
      obtain ⟨e1, e2⟩ := h15 i w hri
      refine n_seq s_Mo_inCache_2 rfl ?_
      refine n_gets f_Mo_134 d_Mo_inCache_4 rfl ?_
      rw [h26]
      refine n_icmp_ge (tgt := 28) d_Mo_inCache_7 (by decide) (fun hbr => absurd hbr (nI_ge (by omega) (by omega))) (fun hbr => ?_)
      refine n_seq s_Mo_inCache_10 rfl ?_
      refine n_geta f_Mo_57 d_Mo_inCache_11 (by decide) ?_
      refine n_seq s_Mo_inCache_14 rfl ?_
      refine n_ald d_Mo_inCache_15 ⟨by decide, by decide⟩ (rfl) ((show i < 4 by omega)) ?_
      rw [e1]
      refine n_seq s_Mo_inCache_16 rfl ?_
      refine n_icmp_ne (tgt := 22) d_Mo_inCache_17 (by decide) (fun h1 => ?_) (fun h1 => ?_)
      · skip
        refine n_seq s_Mo_inCache_22 rfl ?_
        rw [nI_1]
        refine ih (i + 1) (by omega) (fun j y hj hy => ?_)
        by_cases hji : j = i
        · subst hji
          rw [hri] at hy
          cases hy
          simpa using fun e => h1 (by rw [e])
        · exact hno j y (by omega) hy
      · skip
        refine n_seq s_Mo_inCache_20 rfl ?_
        exact n_iret rfl d_Mo_inCache_21 (⟨rfl, rfl, rfl, some i, ⟨w, hri, by simpa using (nI_eqI e2 hn).mp h1, hno⟩, rfl⟩)
  refine n_seq s_Mo_inCache_0 rfl ?_
  exact loop CN.length 0 (by omega) (fun j y hj => absurd hj (Nat.not_lt_zero _))
theorem m_out {n k L : Nat} (hn : n < 4200) (h7 : ar 7 n = nI L) (h5 : L ≤ 5) (hk : k < L) : GN κ m_Mo_out d m ad ar nm sc 0 [some (.ref m), some (.int (nI n)), some (.int (nI k)), none] [] (fun v ar' nm' sc' => v = none ∧ nm' = nm ∧ sc' = sc ∧ ar' = arS ar [(7, upd (ar 7) n (nI (L - 1))), (8, sh (ar 8) (5 * n + k) (5 * n + (L - 1))), (9, sh (ar 9) (5 * n + k) (5 * n + (L - 1))), (10, sh (ar 10) (5 * n + k) (5 * n + (L - 1)))]) := by
  have e1 : nI L - 1 = nI (L - 1) := pk_sub (b := 1) (by omega)
  have loop : ∀ q i, i + q = 5 * n + (L - 1) → 5 * n + k ≤ i → GN κ m_Mo_out d m ad (arS ar [(7, upd (ar 7) n (nI (L - 1))), (8, sh (ar 8) (5 * n + k) i), (9, sh (ar 9) (5 * n + k) i), (10, sh (ar 10) (5 * n + k) i)]) nm sc 16 [some (.ref m), some (.int (nI n)), some (.int (nI k)), some (.int (nI i))] [] (fun v ar' nm' sc' => v = none ∧ nm' = nm ∧ sc' = sc ∧ ar' = arS ar [(7, upd (ar 7) n (nI (L - 1))), (8, sh (ar 8) (5 * n + k) (5 * n + (L - 1))), (9, sh (ar 9) (5 * n + k) (5 * n + (L - 1))), (10, sh (ar 10) (5 * n + k) (5 * n + (L - 1)))]) := by
    intro q
    induction q with
    | zero =>
      intro i hi hki
      have hie : i = 5 * n + (L - 1) := by omega
      subst hie
      refine n_seq s_Mo_out_16 rfl ?_
      refine n_geta f_Mo_33 d_Mo_out_21 (by decide) ?_
      refine n_seq s_Mo_out_24 rfl ?_
      refine n_aldL d_Mo_out_25 ⟨by decide, by decide⟩ rfl rfl hn ?_
      rw [pk_us]
      refine n_seq s_Mo_out_26 rfl ?_
      rw [n5]
      refine n_icmp_ge (tgt := 78) d_Mo_out_27 (by decide) (fun hbr => ?_) (fun hbr => absurd hbr (fun h => h (nI_le (Nat.le_refl _) (by omega))))
      exact n_vret rfl d_Mo_out_78 (⟨rfl, rfl, rfl, rfl⟩)
    | succ q ih =>
      intro i hi hki
      refine n_seq s_Mo_out_16 rfl ?_
      refine n_geta f_Mo_33 d_Mo_out_21 (by decide) ?_
      refine n_seq s_Mo_out_24 rfl ?_
      refine n_aldL d_Mo_out_25 ⟨by decide, by decide⟩ rfl rfl hn ?_
      rw [pk_us]
      refine n_seq s_Mo_out_26 rfl ?_
      rw [n5]
      refine n_icmp_ge (tgt := 78) d_Mo_out_27 (by decide) (fun hbr => absurd hbr (nI_ge (by omega) (by omega))) (fun hbr => ?_)
      refine n_seq s_Mo_out_30 rfl ?_
      refine n_geta f_Mo_36 d_Mo_out_31 (by decide) ?_
      refine n_seq s_Mo_out_34 rfl ?_
      refine n_geta f_Mo_36 d_Mo_out_36 (by decide) ?_
      refine n_seq s_Mo_out_39 rfl ?_
      refine n_aldL d_Mo_out_42 ⟨by decide, by decide⟩ rfl (nI_1 i) (show i + 1 < 21000 by omega) ?_
      refine n_astL d_Mo_out_43 ⟨by decide, by decide⟩ rfl rfl (show i < 21000 by omega) ?_
      rw [sh_s hki]
      refine n_seq s_Mo_out_44 rfl ?_
      refine n_geta f_Mo_39 d_Mo_out_45 (by decide) ?_
      refine n_seq s_Mo_out_48 rfl ?_
      refine n_geta f_Mo_39 d_Mo_out_50 (by decide) ?_
      refine n_seq s_Mo_out_53 rfl ?_
      refine n_aldL d_Mo_out_56 ⟨by decide, by decide⟩ rfl (nI_1 i) (show i + 1 < 21000 by omega) ?_
      refine n_astL d_Mo_out_57 ⟨by decide, by decide⟩ rfl rfl (show i < 21000 by omega) ?_
      rw [sh_s hki]
      refine n_seq s_Mo_out_58 rfl ?_
      refine n_geta f_Mo_42 d_Mo_out_59 (by decide) ?_
      refine n_seq s_Mo_out_62 rfl ?_
      refine n_geta f_Mo_42 d_Mo_out_64 (by decide) ?_
      refine n_seq s_Mo_out_67 rfl ?_
      refine n_aldL d_Mo_out_70 ⟨by decide, by decide⟩ rfl (nI_1 i) (show i + 1 < 21000 by omega) ?_
      refine n_astL d_Mo_out_71 ⟨by decide, by decide⟩ rfl rfl (show i < 21000 by omega) ?_
      rw [sh_s hki]
      refine n_seq s_Mo_out_72 rfl ?_
      rw [nI_1]
      exact ih (i + 1) (by omega) (by omega)
  have hst : ar = arS ar [(7, ar 7), (8, ar 8), (9, ar 9), (10, ar 10)] := arS_id _ (by simp)
  refine n_st hst ?_
  refine n_seq s_Mo_out_0 rfl ?_
  refine n_geta f_Mo_33 d_Mo_out_1 (by decide) ?_
  refine n_seq s_Mo_out_4 rfl ?_
  refine n_aldL d_Mo_out_6 ⟨by decide, by decide⟩ rfl rfl hn ?_
  rw [h7]
  refine n_seq s_Mo_out_7 rfl ?_
  rw [e1]
  refine n_astL d_Mo_out_9 ⟨by decide, by decide⟩ rfl rfl hn ?_
  refine n_seq s_Mo_out_10 rfl ?_
  rw [n5]
  have := loop (L - 1 - k) (5 * n + k) (by omega) (Nat.le_refl _)
  rw [sh_0, sh_0, sh_0] at this
  exact this
end NB
