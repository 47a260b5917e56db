/-! what the public methods answer, and do -/
abbrev okC (tp : List Nat) (c : Int32) : Prop := tp ≠ [] ∧ 0 ≤ c ∧ c < 16
abbrev okK (tk : Int32) : Prop := 1 ≤ tk ∧ tk ≤ 100
abbrev BB : Type := Nat → List (Int32 × Int32)
def signA (tp : List Nat) (c : Int32) : Int32 := if 97 ≤ c ∧ c ≤ 122 then (if tp.length = 6 then -3 else nI (tp.length + 1)) else -1
def signT (tp : List Nat) (c : Int32) : List Nat := if 97 ≤ c ∧ c ≤ 122 then (if tp.length = 6 then tp else tp ++ [c.toNatClampNeg - 96]) else tp
def wantS (tp : List Nat) (nw c tk : Int32) (t : Th) (B : BB) : Int32 × Th × BB := if okC tp c ∧ okK tk then (if lent t = true then (if t.2.2.1 = c ∨ t.2.1.any (fun w => w.1 == c) = true then (-2, t, B) else if t.2.1.length = 5 then (-3, t, B) else (nI (t.2.1.length + 1), addW t (c, tk, nw), B)) else (0, lendT t c (nw + tk), tellB t.2.2.2.2.2 (t.1, 1) 16 B)) else (-1, t, B)
def freeS (tp : List Nat) (nw c : Int32) (t : Th) (B : BB) (W : List Int32) : Int32 × Th × BB × List Int32 := if okC tp c ∧ t.2.2.1 = c then ((endT nw t).2.2.1, endT nw t, tellB t.2.2.2.2.2 (t.1, endK t) 16 B, endW nw t W) else (-1, t, B, W)
def renewS (tp : List Nat) (nw c tk : Int32) (t : Th) (B : BB) : Int32 × Th × BB := if okC tp c ∧ okK tk ∧ t.2.2.1 = c then (nw + tk, lendT t c (nw + tk), tellB t.2.2.2.2.2 (t.1, 3) 16 B) else (-1, t, B)
def leaveS (tp : List Nat) (c : Int32) (t : Th) : Int32 × Th := if okC tp c then (match t.2.1.findIdx? (fun w => w.1 == c) with | none => (-2, t) | some j => (nI (t.2.1.length - 1), delW t j)) else (-1, t)
def holderA (tp : List Nat) (t : Th) : Int32 := if tp = [] then -1 else t.2.2.1
def leftA (tp : List Nat) (nw : Int32) (t : Th) : Int32 := if tp = [] then -1 else if lent t = true then t.2.2.2.1 - nw else -2
def atI {α : Type} (l : List α) (g : α → Int32) (c : Int32) : Int32 := if 0 ≤ c then ((l[c.toNatClampNeg]?).map g).getD (-2) else -2
def waitingA (tp : List Nat) (c : Int32) (t : Th) : Int32 := if tp = [] then -1 else atI t.2.1 (fun w => w.1) c
theorem FI_find {α : Type} {p : α → Bool} {l : List α} {o : Option Nat} (h : FI p l o) : l.findIdx? p = o := by
  cases o with
  | none =>
    rw [List.findIdx?_eq_none_iff]
    intro x hx
    obtain ⟨j, hj⟩ := List.getElem?_of_mem hx
    exact h j x hj
  | some i =>
    obtain ⟨x, h1, h2, h3⟩ := h
    rw [List.findIdx?_eq_some_iff_getElem]
    obtain ⟨hi, he⟩ := List.getElem?_eq_some_iff.mp h1
    refine ⟨hi, by rw [he]; exact h2, fun j hj => ?_⟩
    have := h3 j l[j] hj (List.getElem?_eq_getElem (by omega))
    simp [this]
theorem FI_any {α : Type} {p : α → Bool} {l : List α} {o : Option Nat} (h : FI p l o) : l.any p = o.isSome := by
  cases o with
  | none =>
    rw [Option.isSome_none, List.any_eq_false]
    intro x hx
    obtain ⟨j, hj⟩ := List.getElem?_of_mem hx
    rw [h j x hj]; decide
  | some i =>
    obtain ⟨x, h1, h2, h3⟩ := h
    rw [Option.isSome_some, List.any_eq_true]
    exact ⟨x, List.mem_of_getElem? h1, h2⟩
theorem fU_id {f : Int32 → Th} {x : Int32} : fU f x (f x) = f := by
  funext y
  unfold fU
  by_cases h : y = x <;> simp [h]
theorem atI_in {α : Type} {l : List α} {g : α → Int32} {j : Nat} {x : α} (hl : l.length ≤ 100000) (h : l[j]? = some x) : atI l g (nI j) = g x := by
  have := (List.getElem?_eq_some_iff.mp h).1
  unfold atI
  rw [if_pos (nI_pos' (by omega)), nI_cl (by omega), h]; rfl
theorem atI_out {α : Type} {l : List α} {g : α → Int32} {c : Int32} (hl : l.length ≤ 100000) (h : ∀ j, j < l.length → c ≠ nI j) : atI l g c = -2 := by
  unfold atI
  by_cases h0 : 0 ≤ c
  · rw [if_pos h0]
    obtain ⟨j, hj1, hj2⟩ := nI_of (Int32.not_lt.mpr h0)
    subst hj2
    rw [nI_clamp hj1, List.getElem?_eq_none]; rfl
    rcases Nat.lt_or_ge j l.length with h1 | h1
    · exact absurd rfl (h j h1)
    · exact h1
  · rw [if_neg h0]
def NY (ar : Ar) (nm : Nat → Int64) (sc : Sc) (b : Nat) (f : Int32 → Th) (J : List Wt) (C : List (Int32 × Int32)) (B : BB) (W : List Int32) (tp : List Nat) (nw : Int32) : Prop := ∃ K ls, K ≤ b ∧ NS ar nm sc K ls f J C B W tp nw
section NP
variable {κ : Nat × Nat} {d m : Nat} {ad : Nat → Nat} {ar : Ar} {nm : Nat → Int64} {sc : Sc} {K : Nat} {ls : Nat → List Nat} {f : Int32 → Th} {J : List Wt} {C : List (Int32 × Int32)} {B : Nat → List (Int32 × Int32)} {W : List Int32} {tp : List Nat} {nw : Int32}
theorem NS.y (h : NS ar nm sc K ls f J C B W tp nw) : NY ar nm sc (K + 1) f J C B W tp nw := ⟨K, ls, by omega, h⟩
theorem NS.yU (h : NS ar nm sc K ls f J C B W tp nw) {b : Nat} (hb : K ≤ b) {x : Int32} : NY ar nm sc b (fU f x (f x)) J C B W tp nw := ⟨K, ls, hb, by rw [fU_id]; exact h⟩
theorem tp_ne {tp : List Nat} {h6 : tp.length ≤ 6} : nI tp.length = 0 ↔ tp = [] := by
  rw [show (0 : Int32) = nI 0 from rfl, nI_eq (by omega) (by decide), List.length_eq_zero_iff]
theorem tp_0 (hp : MP (ar 0) (sc 21) tp) : sc 21 = 0 ↔ tp = [] := by
  rw [hp.1]; exact tp_ne (h6 := hp.2.2.1)
theorem m_sign {c : Int32} (h : NS ar nm sc K ls f J C B W tp nw) : GN κ m_Mo_sign d m ad ar nm sc 0 [some (.ref m), some (.int c)] [] (fun v ar' nm' sc' => v = some (.int (signA tp c)) ∧ NY ar' nm' sc' (K + 1) f J C B W (signT tp c) nw) := by
  obtain ⟨hN, ht, hj, hc, hb, hw, ⟨p1, p2, p3, p4⟩, hnw⟩ := id h
  have bad : ¬ (97 ≤ c ∧ c ≤ 122) → GN κ m_Mo_sign d m ad ar nm sc 12 [some (.ref m), some (.int c)] [] (fun v ar' nm' sc' => v = some (.int (signA tp c)) ∧ NY ar' nm' sc' (K + 1) f J C B W (signT tp c) nw) := by
    intro hb
    unfold signA signT
    rw [if_neg hb, if_neg hb]
    refine n_seq s_Mo_sign_12 rfl ?_
    exact n_iret rfl d_Mo_sign_13 (⟨rfl, h.y⟩)
  refine n_seq s_Mo_sign_0 rfl ?_
  refine n_icmp_lt (tgt := 12) d_Mo_sign_3 (by decide) (fun h1 => ?_) (fun h1 => ?_)
  · skip
    exact bad (fun q => absurd h1 (Int32.not_lt.mpr q.1))
  · skip
    refine n_seq s_Mo_sign_6 rfl ?_
    refine n_icmp_le (tgt := 14) d_Mo_sign_9 (by decide) (fun h2 => ?_) (fun h2 => ?_)
    · skip
      have hok : 97 ≤ c ∧ c ≤ 122 := ⟨Int32.not_lt.mp h1, h2⟩
      unfold signA signT
      rw [if_pos hok, if_pos hok]
      refine n_seq s_Mo_sign_14 rfl ?_
      refine n_gets f_Mo_75 d_Mo_sign_15 rfl ?_
      rw [p1]
      refine n_seq s_Mo_sign_18 rfl ?_
      refine n_icmp_ne (tgt := 26) d_Mo_sign_20 (by decide) (fun h3 => ?_) (fun h3 => ?_)
      · skip
        have h6 : tp.length ≠ 6 := fun e => h3 (by rw [e]; rfl)
        rw [if_neg h6, if_neg h6]
        have hst : ar = arS ar [(0, ar 0)] := arS_id _ (by simp)
        refine n_st hst ?_
        refine n_seq s_Mo_sign_26 rfl ?_
        refine n_geta f_Mo_7 d_Mo_sign_27 (by decide) ?_
        refine n_seq s_Mo_sign_30 rfl ?_
        refine n_gets f_Mo_75 d_Mo_sign_32 rfl ?_
        rw [p1]
        refine n_seq s_Mo_sign_35 rfl ?_
        rw [nI_1]
        refine n_puts f_Mo_75 d_Mo_sign_38 rfl ?_
        refine n_seq s_Mo_sign_41 rfl ?_
        refine n_astL d_Mo_sign_42 ⟨by decide, by decide⟩ rfl (rfl) ((show tp.length < 6 by omega)) ?_
        refine n_seq s_Mo_sign_43 rfl ?_
        refine n_gets f_Mo_75 d_Mo_sign_44 rfl ?_
        obtain ⟨l, hl, hcl⟩ := nI_of (x := c) (fun h => absurd (Int32.le_trans hok.1 (Int32.le_of_lt h)) (by decide))
        have l1 : 97 ≤ l := (nI_leI (a := 97) (by decide) hl).mp (by rw [← hcl]; exact hok.1)
        have l2 : l ≤ 122 := (nI_leI (b := 122) hl (by decide)).mp (by rw [← hcl]; exact hok.2)
        have hct : c.toNatClampNeg = l := by rw [hcl, nI_clamp hl]
        exact n_iret rfl d_Mo_sign_47 (⟨rfl, K, ls, by omega, hN, ht, hj, hc, hb, hw, ⟨by simp only [List.length_append]; rfl, okL_snoc.mpr ⟨p2, by omega, by omega⟩, by simp only [List.length_append, List.length_singleton]; omega, p4.snoc (fun j hj => pk_un (by omega)) (pk_us.trans (by rw [hct, show l - 96 + 96 = l by omega]; exact hcl))⟩, hnw⟩)
      · skip
        have h6 : tp.length = 6 := (nI_eq (b := 6) (by omega) (by decide)).mp h3
        rw [if_pos h6, if_pos h6]
        refine n_seq s_Mo_sign_23 rfl ?_
        exact n_iret rfl d_Mo_sign_25 (⟨rfl, h.y⟩)
    · skip
      exact bad (fun q => h2 q.2)
theorem m_erase (h : NS ar nm sc K ls f J C B W tp nw) : GN κ m_Mo_erase d m ad ar nm sc 0 [some (.ref m), none] [] (fun v ar' nm' sc' => v = some (.int (nI tp.length)) ∧ NY ar' nm' sc' (K + 1) f J C B W [] nw) := by
  obtain ⟨hN, ht, hj, hc, hb, hw, ⟨p1, p2, p3, p4⟩, hnw⟩ := id h
  refine n_seq s_Mo_erase_0 rfl ?_
  refine n_gets f_Mo_75 d_Mo_erase_1 rfl ?_
  refine n_seq s_Mo_erase_4 rfl ?_
  refine n_puts f_Mo_75 d_Mo_erase_7 rfl ?_
  refine n_seq s_Mo_erase_10 rfl ?_
  exact n_iret rfl d_Mo_erase_11 (⟨by rw [p1], K, ls, by omega, hN, ht, hj, hc, hb, hw, ⟨rfl, (fun l hl => by cases hl), Nat.zero_le _, RP.nil⟩, hnw⟩)
theorem m_letter {c : Int32} (h : NS ar nm sc K ls f J C B W tp nw) : GN κ m_Mo_letter d m ad ar nm sc 0 [some (.ref m), some (.int c)] [] (fun v ar' nm' sc' => v = some (.int (atI tp (fun l => nI (l + 96)) c)) ∧ NY ar' nm' sc' (K + 1) f J C B W tp nw) := by
  obtain ⟨hN, ht, hj, hc, hb, hw, ⟨p1, p2, p3, p4⟩, hnw⟩ := id h
  have bad : (∀ j, j < tp.length → c ≠ nI j) → GN κ m_Mo_letter d m ad ar nm sc 12 [some (.ref m), some (.int c)] [] (fun v ar' nm' sc' => v = some (.int (atI tp (fun l => nI (l + 96)) c)) ∧ NY ar' nm' sc' (K + 1) f J C B W tp nw) := by
    intro hb
    rw [atI_out (by omega) hb]
    refine n_seq s_Mo_letter_12 rfl ?_
    exact n_iret rfl d_Mo_letter_23 (⟨rfl, h.y⟩)
  refine n_seq s_Mo_letter_0 rfl ?_
  refine n_if_lt (tgt := 12) d_Mo_letter_1 (by decide) (fun h1 => ?_) (fun h1 => ?_)
  · skip
    exact bad (fun j hj e => by rw [e] at h1; exact nI_lt0 (by omega) h1)
  · skip
    obtain ⟨j, hj1, hj2⟩ := nI_of h1
    subst hj2
    refine n_seq s_Mo_letter_4 rfl ?_
    refine n_gets f_Mo_75 d_Mo_letter_6 rfl ?_
    rw [p1]
    refine n_icmp_lt (tgt := 17) d_Mo_letter_9 (by decide) (fun h2 => ?_) (fun h2 => ?_)
    · skip
      have hjl : j < tp.length := (nI_ltI hj1 (by omega)).mp h2
      have hTj := List.getElem?_eq_getElem hjl
      refine n_seq s_Mo_letter_17 rfl ?_
      refine n_geta f_Mo_7 d_Mo_letter_18 (by decide) ?_
      refine n_seq s_Mo_letter_21 rfl ?_
      refine n_ald d_Mo_letter_22 ⟨by decide, by decide⟩ (rfl) ((show j < 6 by omega)) ?_
      rw [p4 j _ hTj]
      exact n_iret rfl d_Mo_letter_23 (⟨by rw [atI_in (by omega) hTj], h.y⟩)
    · skip
      exact bad (fun j' hj' e => h2 (by rw [e]; exact nI_lt hj' (show tp.length < 2 ^ 31 by omega)))
theorem m_holder (h : NS ar nm sc K ls f J C B W tp nw) (hK : K < 4000) : GN κ m_Mo_holder (d + 2) m ad ar nm sc 0 [some (.ref m), none] [] (fun v ar' nm' sc' => v = some (.int (holderA tp (f (ni tp)))) ∧ NY ar' nm' sc' (K + 1) f J C B W tp nw) := by
  have hp := h.2.2.2.2.2.2.1
  unfold holderA
  refine n_seq s_Mo_holder_0 rfl ?_
  refine n_gets f_Mo_75 d_Mo_holder_1 rfl ?_
  refine n_if_ne (tgt := 9) d_Mo_holder_4 (by decide) (fun h1 => ?_) (fun h1 => ?_)
  · skip
    have hne : tp ≠ [] := fun e => h1 ((tp_0 hp).mpr e)
    rw [if_neg hne]
    refine n_seq s_Mo_holder_9 rfl ?_
    refine n_invV l_Mo_109 d_Mo_holder_10 rfl ⟨rfl, Nat.le_of_ble_eq_true rfl, Nat.le_of_ble_eq_true rfl⟩ (m_here h hne hK) ?_
    rintro v ar' nm' sc' ⟨n, K', ls', h', hn, hls, rfl, hK'⟩
    have hT := h'.2.1.1 n hn
    rw [hls] at hT
    have h40 := h'.1.2.1
    refine n_seq s_Mo_holder_13 rfl ?_
    refine n_geta f_Mo_27 d_Mo_holder_15 (by decide) ?_
    refine n_seq s_Mo_holder_18 rfl ?_
    refine n_ald d_Mo_holder_19 ⟨by decide, by decide⟩ (rfl) ((show n < 4200 by omega)) ?_
    refine n_if_ge (tgt := 28) d_Mo_holder_20 (by decide) (fun h2 => ?_) (fun h2 => ?_)
    · skip
      have hl := (hoM_ge hT).mp h2
      refine n_seq s_Mo_holder_28 rfl ?_
      refine n_geta f_Mo_27 d_Mo_holder_29 (by decide) ?_
      refine n_seq s_Mo_holder_32 rfl ?_
      refine n_ald d_Mo_holder_33 ⟨by decide, by decide⟩ (rfl) ((show n < 4200 by omega)) ?_
      rw [hoM_v hT hl]
      exact n_iret rfl d_Mo_holder_34 (⟨rfl, K', ls', hK', h'⟩)
    · skip
      have hl := (hoM_lt hT).mp (Int32.not_le.mp h2)
      refine n_seq s_Mo_holder_23 rfl ?_
      exact n_iret rfl d_Mo_holder_34 (⟨by unfold lent at hl; rw [show (f (ni tp)).2.2.1 = -2 by simpa using hl], K', ls', hK', h'⟩)
  · skip
    rw [if_pos ((tp_0 hp).mp h1)]
    refine n_seq s_Mo_holder_7 rfl ?_
    exact n_iret rfl d_Mo_holder_8 (⟨rfl, h.y⟩)
theorem m_left (h : NS ar nm sc K ls f J C B W tp nw) (hK : K < 4000) : GN κ m_Mo_left (d + 2) m ad ar nm sc 0 [some (.ref m), none] [] (fun v ar' nm' sc' => v = some (.int (leftA tp nw (f (ni tp)))) ∧ NY ar' nm' sc' (K + 1) f J C B W tp nw) := by
  have hp := h.2.2.2.2.2.2.1
  unfold leftA
  refine n_seq s_Mo_left_0 rfl ?_
  refine n_gets f_Mo_75 d_Mo_left_1 rfl ?_
  refine n_if_ne (tgt := 9) d_Mo_left_4 (by decide) (fun h1 => ?_) (fun h1 => ?_)
  · skip
    have hne : tp ≠ [] := fun e => h1 ((tp_0 hp).mpr e)
    rw [if_neg hne]
    refine n_seq s_Mo_left_9 rfl ?_
    refine n_invV l_Mo_109 d_Mo_left_10 rfl ⟨rfl, Nat.le_of_ble_eq_true rfl, Nat.le_of_ble_eq_true rfl⟩ (m_here h hne hK) ?_
    rintro v ar' nm' sc' ⟨n, K', ls', h', hn, hls, rfl, hK'⟩
    have hT := h'.2.1.1 n hn
    rw [hls] at hT
    have h40 := h'.1.2.1
    refine n_seq s_Mo_left_13 rfl ?_
    refine n_geta f_Mo_27 d_Mo_left_15 (by decide) ?_
    refine n_seq s_Mo_left_18 rfl ?_
    refine n_ald d_Mo_left_19 ⟨by decide, by decide⟩ (rfl) ((show n < 4200 by omega)) ?_
    refine n_if_ge (tgt := 28) d_Mo_left_20 (by decide) (fun h2 => ?_) (fun h2 => ?_)
    · skip
      have hl := (hoM_ge hT).mp h2
      rw [if_pos hl]
      refine n_seq s_Mo_left_28 rfl ?_
      refine n_geta f_Mo_30 d_Mo_left_29 (by decide) ?_
      refine n_seq s_Mo_left_32 rfl ?_
      refine n_ald d_Mo_left_33 ⟨by decide, by decide⟩ (rfl) ((show n < 4200 by omega)) ?_
      rw [hT.2.2.2.2.1 hl]
      refine n_seq s_Mo_left_34 rfl ?_
      refine n_gets f_Mo_96 d_Mo_left_35 rfl ?_
      rw [h'.2.2.2.2.2.2.2]
      refine n_seq s_Mo_left_38 rfl ?_
      exact n_iret rfl d_Mo_left_39 (⟨rfl, K', ls', hK', h'⟩)
    · skip
      have hl := (hoM_lt hT).mp (Int32.not_le.mp h2)
      rw [if_neg (by rw [hl]; decide)]
      refine n_seq s_Mo_left_23 rfl ?_
      exact n_iret rfl d_Mo_left_39 (⟨rfl, K', ls', hK', h'⟩)
  · skip
    rw [if_pos ((tp_0 hp).mp h1)]
    refine n_seq s_Mo_left_7 rfl ?_
    exact n_iret rfl d_Mo_left_8 (⟨rfl, h.y⟩)
theorem m_waiting {c : Int32} (h : NS ar nm sc K ls f J C B W tp nw) (hK : K < 4000) : GN κ m_Mo_waiting (d + 2) m ad ar nm sc 0 [some (.ref m), some (.int c), none] [] (fun v ar' nm' sc' => v = some (.int (waitingA tp c (f (ni tp)))) ∧ NY ar' nm' sc' (K + 1) f J C B W tp nw) := by
  have hp := h.2.2.2.2.2.2.1
  unfold waitingA
  refine n_seq s_Mo_waiting_0 rfl ?_
  refine n_gets f_Mo_75 d_Mo_waiting_1 rfl ?_
  refine n_if_ne (tgt := 9) d_Mo_waiting_4 (by decide) (fun h1 => ?_) (fun h1 => ?_)
  · skip
    have hne : tp ≠ [] := fun e => h1 ((tp_0 hp).mpr e)
    rw [if_neg hne]
    refine n_seq s_Mo_waiting_9 rfl ?_
    refine n_invV l_Mo_109 d_Mo_waiting_10 rfl ⟨rfl, Nat.le_of_ble_eq_true rfl, Nat.le_of_ble_eq_true rfl⟩ (m_here h hne hK) ?_
    rintro v ar' nm' sc' ⟨n, K', ls', h', hn, hls, rfl, hK'⟩
    have hT := h'.2.1.1 n hn
    rw [hls] at hT
    have h40 := h'.1.2.1
    obtain ⟨-, -, -, -, -, a6, a7, a8, -⟩ := hT
    generalize (f (ni tp)).2.1 = row at a6 a7 a8 ⊢
    have bad : ∀ u, (∀ j, j < row.length → c ≠ nI j) → GN κ m_Mo_waiting (d + 2) m ad ar' nm' sc' 28 [some (.ref m), some (.int c), u] [] (fun v ar' nm' sc' => v = some (.int (atI row (fun w => w.1) c)) ∧ NY ar' nm' sc' (K + 1) f J C B W tp nw) := by
      intro u hb
      rw [atI_out (by omega) hb]
      refine n_seq s_Mo_waiting_28 rfl ?_
      exact n_iret rfl d_Mo_waiting_43 (⟨rfl, K', ls', hK', h'⟩)
    refine n_seq s_Mo_waiting_13 rfl ?_
    refine n_if_lt (tgt := 28) d_Mo_waiting_15 (by decide) (fun h3 => ?_) (fun h3 => ?_)
    · skip
      exact bad _ (fun j hj e => by rw [e] at h3; exact nI_lt0 (by omega) h3)
    · skip
      obtain ⟨j, hj1, hj2⟩ := nI_of h3
      subst hj2
      refine n_seq s_Mo_waiting_18 rfl ?_
      refine n_geta f_Mo_33 d_Mo_waiting_20 (by decide) ?_
      refine n_seq s_Mo_waiting_23 rfl ?_
      refine n_ald d_Mo_waiting_24 ⟨by decide, by decide⟩ (rfl) ((show n < 4200 by omega)) ?_
      rw [a6]
      refine n_icmp_lt (tgt := 33) d_Mo_waiting_25 (by decide) (fun h2 => ?_) (fun h2 => ?_)
      · skip
        have hjl : j < row.length := (nI_ltI hj1 (by omega)).mp h2
        have hTj := List.getElem?_eq_getElem hjl
        refine n_seq s_Mo_waiting_33 rfl ?_
        refine n_geta f_Mo_36 d_Mo_waiting_34 (by decide) ?_
        refine n_seq s_Mo_waiting_37 rfl ?_
        refine n_ald d_Mo_waiting_42 ⟨by decide, by decide⟩ (n5) ((show 5 * n + j < 21000 by omega)) ?_
        rw [show ar' 8 (5 * n + j) = _ from a8 j _ hTj]
        exact n_iret rfl d_Mo_waiting_43 (⟨by rw [atI_in (by omega) hTj], K', ls', hK', h'⟩)
      · skip
        exact bad _ (fun j' hj' e => h2 (by rw [e]; exact nI_lt hj' (show row.length < 2 ^ 31 by omega)))
  · skip
    rw [if_pos ((tp_0 hp).mp h1)]
    refine n_seq s_Mo_waiting_7 rfl ?_
    exact n_iret rfl d_Mo_waiting_8 (⟨rfl, h.y⟩)
end NP
