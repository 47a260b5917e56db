def delW (t : Th) (j : Nat) : Th := (t.1, t.2.1.eraseIdx j, t.2.2)
abbrev byN (nm : Int32) : Th → Bool := fun t => t.1 == nm
section XV
variable {κ : Nat × Nat} {d : Nat} {M M' : Mm} {a i : Nat} {own : Nat → Nat × Nat} {h aT aJ aC aB aW : Nat} {ts : List Nat} {T : List Th} {J : List Wt} {C : List (Int32 × Int32)} {B B' : Nat → List (Int32 × Int32)} {W W' : List Int32} {tp nw : Int32}
theorem XP.len (hX : XP M own h aT aJ aC aB aW ts T J C B W tp nw) : ts.length = T.length := hX.2.1.2.2.2.1
theorem XP.row {r : Nat} {t : Th} {ws' : List Nat} {row' : List Wt} {ws : List Nat} (hX : XP M own h aT aJ aC aB aW ts T J C B W tp nw) (hx : ts[i]? = some a) (hc : ThC M a r t) (hr : M r = some (eL ws)) (ho : own r = (3, a)) (hR : R2 (WaR M) ws' row') : XP (up M r (eL ws')) own h aT aJ aC aB aW ts (T.set i (t.1, row', t.2.2)) J C B W tp nw := by
  have hK : Kp (fun k q => k = 101 ∧ own q = (3, a)) M (up M r (eL ws')) := up_kp hr ⟨rfl, ho⟩
  have n : ∀ {k q : Nat}, k ≠ 101 → ¬ (k = 101 ∧ own q = (3, a)) := fun n1 hh => n1 hh.1
  obtain ⟨aw, f, w1, w2, w3⟩ := id hX.2.2.2.2.2
  have har : a ≠ r := fun e => by unfold ThC at hc; rw [e, hr] at hc; cases hc
  exact hX.thing (aw := aw) hx (hK.wk (fun k q hh => Or.inr (Or.inl ⟨hh.1, Or.inr hh.2⟩))) ⟨r, ws', (up_n har).trans hc, up_s, ho, hR.mono (fun x y _ hw => hK x _ hw (n (k := 2) (by decide)))⟩ (hX.2.2.2.2.1.keep hK (fun _ => n (by decide)) (fun _ => n (by decide)) (n (by decide)) (fun r i hr hh => by rw [hr] at hh; cases hh.2)) (hX.2.2.2.2.2.keep hK (n (by decide)) (fun _ => n (by decide)))
theorem x_free {c : Int32} (hX : XQ M h T J C B W tp nw) (hlen : T.length ≤ 512) (h8 : ∀ i, i < 16 → (B i).length ≤ 8) (hrow : ∀ (i : Nat) (t : Th), T[i]? = some t → t.2.1.length ≤ 5) (hW : W.length < 512) : G κ m_LH_free (d + 11) M 0 [some (.ref h), some (.int c), none] [] 17 418 (fun v M' =>
    (¬ ((tp ≠ 0 ∧ 0 ≤ c ∧ c < 16) ∧ ∃ i t, FI (byN tp) T (some i) ∧ T[i]? = some t ∧ t.2.2.1 = c) ∧ v = some (.int (-1)) ∧ M' = M) ∨
    ((tp ≠ 0 ∧ 0 ≤ c ∧ c < 16) ∧ ∃ i t, FI (byN tp) T (some i) ∧ T[i]? = some t ∧ t.2.2.1 = c ∧ v = some (.int (endT nw t).2.2.1) ∧ XQ M' h (T.set i (endT nw t)) J C (tellB t.2.2.2.2.2 (t.1, endK t) 16 B) (endW nw t W) tp nw)) := by
  obtain ⟨own, aT, aJ, aC, aB, aW, ts, hP⟩ := hX
  have hH := hP.1
  have htl := hP.len
  have bad : ∀ M', M' = M → ¬ ((tp ≠ 0 ∧ 0 ≤ c ∧ c < 16) ∧ ∃ i t, FI (byN tp) T (some i) ∧ T[i]? = some t ∧ t.2.2.1 = c) → G κ m_LH_free (d + 11) M' 5 [some (.ref h), some (.int c), none] [.null] 17 418 (fun v M' =>
    (¬ ((tp ≠ 0 ∧ 0 ≤ c ∧ c < 16) ∧ ∃ i t, FI (byN tp) T (some i) ∧ T[i]? = some t ∧ t.2.2.1 = c) ∧ v = some (.int (-1)) ∧ M' = M) ∨
    ((tp ≠ 0 ∧ 0 ≤ c ∧ c < 16) ∧ ∃ i t, FI (byN tp) T (some i) ∧ T[i]? = some t ∧ t.2.2.1 = c ∧ v = some (.int (endT nw t).2.2.1) ∧ XQ M' h (T.set i (endT nw t)) J C (tellB t.2.2.2.2.2 (t.1, endK t) 16 B) (endW nw t W) tp nw)) := by
    intro M' e hb
    refine g_seq s_LH_free_5 rfl ?_
    refine g_ifnonnullN d_LH_free_7 ?_
    refine g_seq s_LH_free_10 rfl ?_
    exact g_iret rfl d_LH_free_11 (Or.inl ⟨hb, rfl, e⟩)
  have uniq : ∀ i j, FI (byN tp) T (some i) → FI (byN tp) T (some j) → i = j := by
    rintro i j ⟨x, hx1, hx2, hx3⟩ ⟨y, hy1, hy2, hy3⟩
    rcases Nat.lt_trichotomy i j with q | q | q
    · rw [hy3 i x q hx1] at hx2; cases hx2
    · exact q
    · rw [hx3 j y q hy1] at hy2; cases hy2
  refine g_seq s_LH_free_0 rfl ?_
  refine g_invV (k2 := 17) (n2 := 418) l_LH_72 d_LH_free_2 rfl ⟨rfl, Nat.le_of_ble_eq_true rfl, Nat.le_of_ble_eq_true rfl⟩ (hH) (x_findThingHeldBy hH hP.2.1 (by omega)) (by first | omega | (simp <;> omega)) (by first | omega | (simp <;> omega)) ?_
  rintro v M1 ⟨rfl, ⟨rfl, hb⟩ | ⟨hok, o, hFI, ⟨rfl, rfl⟩ | ⟨i, t, x, rfl, ht, hx, ⟨hc, rfl⟩ | ⟨hc, rfl⟩⟩⟩⟩
  · exact bad _ rfl (fun q => hb q.1)
  · refine bad _ rfl ?_
    rintro ⟨-, i, t, ⟨y, hy1, hy2, hy3⟩, h2, h3⟩
    exact absurd (hy2.symm.trans (hFI i y hy1)) (by decide)
  · have hth := hP.at ht hx
    refine g_seq s_LH_free_5 rfl ?_
    refine g_ifnonnull (tgt := 12) d_LH_free_7 (by decide) ?_
    refine g_seq s_LH_free_12 rfl ?_
    refine g_invV (k2 := 0) (n2 := 0) l_LH_75 d_LH_free_14 rfl ⟨rfl, Nat.le_of_ble_eq_true rfl, Nat.le_of_ble_eq_true rfl⟩ (hH) (x_endLease hH hth hP.2.2.2.2.1 h8 hP.2.2.2.2.2 hW (by have := hrow i t ht; omega)) (by first | omega | (simp <;> omega)) (by first | omega | (simp <;> omega)) ?_
    rintro v M2 ⟨rfl, ⟨aw, -, hK⟩, h1, h2, h3⟩
    obtain ⟨r2, hc2⟩ := h1.cell
    refine g_seq s_LH_free_17 rfl ?_
    refine g_get f_LH_79 d_LH_free_18 (hc2) rfl ?_
    exact g_iret rfl d_LH_free_21 (Or.inr ⟨hok, i, t, hFI, ht, hc, rfl, own, aT, aJ, aC, aB, aW, ts, hP.thing hx hK h1 h2 h3⟩)
  · refine bad _ rfl ?_
    rintro ⟨-, i', t', h1, h2, h3⟩
    have := uniq i' i h1 hFI
    subst this
    rw [ht] at h2
    cases h2
    exact hc h3
theorem x_renew {c tk : Int32} (hX : XQ M h T J C B W tp nw) (hlen : T.length ≤ 512) (h8 : ∀ i, i < 16 → (B i).length ≤ 8) : G κ m_LH_renew (d + 10) M 0 [some (.ref h), some (.int c), some (.int tk), none] [] 17 418 (fun v M' =>
    (¬ ((tp ≠ 0 ∧ 0 ≤ c ∧ c < 16) ∧ (1 ≤ tk ∧ tk ≤ 100) ∧ ∃ i t, FI (byN tp) T (some i) ∧ T[i]? = some t ∧ t.2.2.1 = c) ∧ v = some (.int (-1)) ∧ M' = M) ∨
    ((tp ≠ 0 ∧ 0 ≤ c ∧ c < 16) ∧ (1 ≤ tk ∧ tk ≤ 100) ∧ ∃ i t, FI (byN tp) T (some i) ∧ T[i]? = some t ∧ t.2.2.1 = c ∧ v = some (.int (nw + tk)) ∧ XQ M' h (T.set i (lendT t c (nw + tk))) J C (tellB t.2.2.2.2.2 (t.1, 3) 16 B) W tp nw)) := by
  obtain ⟨own, aT, aJ, aC, aB, aW, ts, hP⟩ := hX
  have hH := hP.1
  have htl := hP.len
  have fin : ∀ M' o3, M' = M → ¬ ((tp ≠ 0 ∧ 0 ≤ c ∧ c < 16) ∧ (1 ≤ tk ∧ tk ≤ 100) ∧ ∃ i t, FI (byN tp) T (some i) ∧ T[i]? = some t ∧ t.2.2.1 = c) → G κ m_LH_renew (d + 10) M' 17 [some (.ref h), some (.int c), some (.int tk), o3] [] 17 418 (fun v M' =>
    (¬ ((tp ≠ 0 ∧ 0 ≤ c ∧ c < 16) ∧ (1 ≤ tk ∧ tk ≤ 100) ∧ ∃ i t, FI (byN tp) T (some i) ∧ T[i]? = some t ∧ t.2.2.1 = c) ∧ v = some (.int (-1)) ∧ M' = M) ∨
    ((tp ≠ 0 ∧ 0 ≤ c ∧ c < 16) ∧ (1 ≤ tk ∧ tk ≤ 100) ∧ ∃ i t, FI (byN tp) T (some i) ∧ T[i]? = some t ∧ t.2.2.1 = c ∧ v = some (.int (nw + tk)) ∧ XQ M' h (T.set i (lendT t c (nw + tk))) J C (tellB t.2.2.2.2.2 (t.1, 3) 16 B) W tp nw)) := by
    intro M' o3 e hb
    refine g_seq s_LH_renew_17 rfl ?_
    exact g_iret rfl d_LH_renew_18 (Or.inl ⟨hb, rfl, e⟩)
  have bad : ∀ M', M' = M → ¬ ((tp ≠ 0 ∧ 0 ≤ c ∧ c < 16) ∧ ∃ i t, FI (byN tp) T (some i) ∧ T[i]? = some t ∧ t.2.2.1 = c) → G κ m_LH_renew (d + 10) M' 5 [some (.ref h), some (.int c), some (.int tk), none] [.null] 17 418 (fun v M' =>
    (¬ ((tp ≠ 0 ∧ 0 ≤ c ∧ c < 16) ∧ (1 ≤ tk ∧ tk ≤ 100) ∧ ∃ i t, FI (byN tp) T (some i) ∧ T[i]? = some t ∧ t.2.2.1 = c) ∧ v = some (.int (-1)) ∧ M' = M) ∨
    ((tp ≠ 0 ∧ 0 ≤ c ∧ c < 16) ∧ (1 ≤ tk ∧ tk ≤ 100) ∧ ∃ i t, FI (byN tp) T (some i) ∧ T[i]? = some t ∧ t.2.2.1 = c ∧ v = some (.int (nw + tk)) ∧ XQ M' h (T.set i (lendT t c (nw + tk))) J C (tellB t.2.2.2.2.2 (t.1, 3) 16 B) W tp nw)) := by
    intro M' e hb
    refine g_seq s_LH_renew_5 rfl ?_
    refine g_ifnullN (tgt := 17) d_LH_renew_7 (by decide) ?_
    exact fin _ _ e (fun q => hb ⟨q.1, q.2.2⟩)
  have uniq : ∀ i j, FI (byN tp) T (some i) → FI (byN tp) T (some j) → i = j := by
    rintro i j ⟨x, hx1, hx2, hx3⟩ ⟨y, hy1, hy2, hy3⟩
    rcases Nat.lt_trichotomy i j with q | q | q
    · rw [hy3 i x q hx1] at hx2; cases hx2
    · exact q
    · rw [hx3 j y q hy1] at hy2; cases hy2
  refine g_seq s_LH_renew_0 rfl ?_
  refine g_invV (k2 := 17) (n2 := 418) l_LH_72 d_LH_renew_2 rfl ⟨rfl, Nat.le_of_ble_eq_true rfl, Nat.le_of_ble_eq_true rfl⟩ (hH) (x_findThingHeldBy hH hP.2.1 (by omega)) (by first | omega | (simp <;> omega)) (by first | omega | (simp <;> omega)) ?_
  rintro v M1 ⟨rfl, ⟨rfl, hb⟩ | ⟨hok, o, hFI, ⟨rfl, rfl⟩ | ⟨i, t, x, rfl, ht, hx, ⟨hc, rfl⟩ | ⟨hc, rfl⟩⟩⟩⟩
  · exact bad _ rfl (fun q => hb q.1)
  · refine bad _ rfl ?_
    rintro ⟨-, i, t, ⟨y, hy1, hy2, hy3⟩, h2, h3⟩
    exact absurd (hy2.symm.trans (hFI i y hy1)) (by decide)
  · have hth := hP.at ht hx
    obtain ⟨r, hc1⟩ := hth.cell
    refine g_seq s_LH_renew_5 rfl ?_
    refine g_ifnull d_LH_renew_7 ?_
    refine g_seq s_LH_renew_10 rfl ?_
    refine g_invS (k2 := 17) (n2 := 418) l_LH_51 d_LH_renew_11 rfl ⟨rfl, Nat.le_of_ble_eq_true rfl, Nat.le_of_ble_eq_true rfl⟩ (x_isLeaseTime) (by first | omega | (simp <;> omega)) (by first | omega | (simp <;> omega)) ?_
    rintro v M2 ⟨rfl, rfl⟩
    refine g_if_ne (tgt := 19) d_LH_renew_14 (by decide) (fun h2 => ?_) (fun h2 => ?_)
    · skip
      have ok2 : 1 ≤ tk ∧ tk ≤ 100 := of_decide_eq_true (b2i_n.mp h2)
      refine g_seq s_LH_renew_19 rfl ?_
      refine g_invV (k2 := 0) (n2 := 0) l_LH_68 d_LH_renew_24 rfl ⟨rfl, Nat.le_of_ble_eq_true rfl, Nat.le_of_ble_eq_true rfl⟩ (hH) (x_lend hH hc1 hP.2.2.2.2.1 h8) (by first | omega | (simp <;> omega)) (by first | omega | (simp <;> omega)) ?_
      rintro v M3 ⟨rfl, hK, hc3, hB3⟩
      refine g_seq s_LH_renew_27 rfl ?_
      refine g_get f_LH_82 d_LH_renew_28 (hc3) rfl ?_
      exact g_iret rfl d_LH_renew_31 (Or.inr ⟨hok, ok2, i, t, hFI, ht, hc, rfl, own, aT, aJ, aC, aB, aW, ts, hP.told hx hth hK hc3 hc1 rfl hB3⟩)
    · skip
      exact fin _ _ rfl (fun q => of_decide_eq_false (b2i_0.mp h2) q.2.1)
  · refine bad _ rfl ?_
    rintro ⟨-, i', t', h1, h2, h3⟩
    have := uniq i' i h1 hFI
    subst this
    rw [ht] at h2
    cases h2
    exact hc h3
theorem x_leave {c : Int32} (hX : XQ M h T J C B W tp nw) (hlen : T.length ≤ 512) (hrow : ∀ (i : Nat) (t : Th), T[i]? = some t → t.2.1.length ≤ 5) : G κ m_LH_leave (d + 4) M 0 [some (.ref h), some (.int c), none, none] [] 0 0 (fun v M' =>
    (¬ (tp ≠ 0 ∧ 0 ≤ c ∧ c < 16) ∧ v = some (.int (-1)) ∧ M' = M) ∨
    ((tp ≠ 0 ∧ 0 ≤ c ∧ c < 16) ∧ ∃ o, FI (byN tp) T o ∧ ((o = none ∧ v = some (.int (-2)) ∧ M' = M) ∨ ∃ i t, o = some i ∧ T[i]? = some t ∧ ∃ o2, FI (fun w : Wt => w.1 == c) t.2.1 o2 ∧ ((o2 = none ∧ v = some (.int (-2)) ∧ M' = M) ∨ ∃ j, o2 = some j ∧ v = some (.int (nI (t.2.1.length - 1))) ∧ XQ M' h (T.set i (delW t j)) J C B W tp nw)))) := by
  obtain ⟨own, aT, aJ, aC, aB, aW, ts, hP⟩ := hX
  have hH := hP.1
  have htl := hP.len
  refine g_seq s_LH_leave_0 rfl ?_
  refine g_invV  l_LH_47 d_LH_leave_2 rfl ⟨rfl, Nat.le_of_ble_eq_true rfl, Nat.le_of_ble_eq_true rfl⟩ (hH) (x_hasNameAnd hH) (Nat.le_of_eq (Nat.zero_add _)) (Nat.le_of_eq (Nat.zero_add _)) ?_
  rintro v M1 ⟨rfl, rfl⟩
  refine g_if_ne (tgt := 10) d_LH_leave_5 (by decide) (fun h1 => ?_) (fun h1 => ?_)
  · skip
    have hok : tp ≠ 0 ∧ 0 ≤ c ∧ c < 16 := of_decide_eq_true (b2i_n.mp h1)
    refine g_seq s_LH_leave_10 rfl ?_
    refine g_get f_LH_35 d_LH_leave_12 (hH) rfl ?_
    refine g_invV  l_LH_85 d_LH_leave_15 rfl ⟨rfl, Nat.le_of_ble_eq_true rfl, Nat.le_of_ble_eq_true rfl⟩ (hH) (x_findThing hH hP.2.1.1 hP.2.1.2.2.2 (by omega)) (Nat.le_of_eq (Nat.zero_add _)) (Nat.le_of_eq (Nat.zero_add _)) ?_
    rintro v M2 ⟨o, hFI, rfl, rfl⟩
    cases o with
    | none =>
      rw [Option.bind_none]
      refine g_seq s_LH_leave_18 rfl ?_
      refine g_ifnonnullN d_LH_leave_20 ?_
      refine g_seq s_LH_leave_23 rfl ?_
      exact g_iret rfl d_LH_leave_25 (Or.inr ⟨hok, none, hFI, Or.inl ⟨rfl, rfl, rfl⟩⟩)
    | some i =>
      obtain ⟨t, ht1, ht2, ht3⟩ := id hFI
      obtain ⟨x, hx, r, ws, hc1, hr, ho, hR⟩ := hP.2.1.2.2.2.at ht1
      have h5 := hrow i t ht1
      have hwl : ws.length ≤ 5 := by rw [hR.1]; exact h5
      rw [Option.bind_some, hx]
      refine g_seq s_LH_leave_18 rfl ?_
      refine g_ifnonnull (tgt := 26) d_LH_leave_20 (by decide) ?_
      refine g_seq s_LH_leave_26 rfl ?_
      refine g_invV  l_LH_88 d_LH_leave_28 rfl ⟨rfl, Nat.le_of_ble_eq_true rfl, Nat.le_of_ble_eq_true rfl⟩ (hc1) (t_placeOf hc1 hr hR (by omega)) (Nat.le_of_eq (Nat.zero_add _)) (Nat.le_of_eq (Nat.zero_add _)) ?_
      rintro v M3 ⟨o2, hF2, rfl, rfl⟩
      refine g_seq s_LH_leave_31 rfl ?_
      cases o2 with
      | none =>
        refine g_icmp_ne (tgt := 41) d_LH_leave_35 (by decide) (fun hbr => absurd hbr (fun h => h rfl)) (fun hbr => ?_)
        refine g_seq s_LH_leave_38 rfl ?_
        exact g_iret rfl d_LH_leave_40 (Or.inr ⟨hok, some i, hFI, Or.inr ⟨i, t, rfl, ht1, none, hF2, Or.inl ⟨rfl, rfl, rfl⟩⟩⟩)
      | some j =>
        obtain ⟨w, hw1, hw2, hw3⟩ := id hF2
        have hjl := (List.getElem?_eq_some_iff.mp hw1).1
        obtain ⟨y, hy, hyw⟩ := hR.at hw1
        have hne : ¬ oI (some j) = -2 := by
          show ¬ nI j = -2
          intro e
          have h1 := nI_lt0 (j := j) (by omega)
          rw [e] at h1
          exact h1 (by decide)
        refine g_icmp_ne (tgt := 41) d_LH_leave_35 (by decide) (fun hbr => ?_) (fun hbr => absurd hbr (hne))
        refine g_seq s_LH_leave_41 rfl ?_
        refine g_get f_LH_91 d_LH_leave_42 (hc1) rfl ?_
        refine g_seq s_LH_leave_45 rfl ?_
        refine g_invL  l_LH_94 d_LH_leave_46 rfl ⟨rfl, Nat.le_of_ble_eq_true rfl, Nat.le_of_ble_eq_true rfl⟩ (hr) (al_remove hr hy (by omega) (fun y hy => by obtain ⟨z, hz⟩ := hR.mem hy; exact can_wa hz)) (Nat.le_of_eq (Nat.zero_add _)) (Nat.le_of_eq (Nat.zero_add _)) ?_
        rintro v M4 ⟨rfl, rfl⟩
        have har : x ≠ r := fun e => by unfold ThC at hc1; rw [e, hr] at hc1; cases hc1
        refine g_seq s_LH_leave_49 rfl ?_
        refine g_get f_LH_91 d_LH_leave_51 ((up_n har).trans hc1) rfl ?_
        refine g_invL  l_LH_98 d_LH_leave_54 rfl ⟨rfl, Nat.le_of_ble_eq_true rfl, Nat.le_of_ble_eq_true rfl⟩ (up_s) (al_size up_s) (Nat.le_of_eq (Nat.zero_add _)) (Nat.le_of_eq (Nat.zero_add _)) ?_
        rintro v M5 ⟨rfl, rfl⟩
        have hle : (ws.eraseIdx j).length = t.2.1.length - 1 := by rw [List.length_eraseIdx_of_lt (by rw [hR.1]; exact hjl), hR.1]
        exact g_iret rfl d_LH_leave_57 (Or.inr ⟨hok, some i, hFI, Or.inr ⟨i, t, rfl, ht1, some j, hF2, Or.inr ⟨j, rfl, by rw [hle], own, aT, aJ, aC, aB, aW, ts, hP.row hx hc1 hr ho (hR.erase j)⟩⟩⟩)
  · skip
    refine g_seq s_LH_leave_8 rfl ?_
    exact g_iret rfl d_LH_leave_9 (Or.inl ⟨of_decide_eq_false (b2i_0.mp h1), rfl, rfl⟩)
theorem x_holder (hX : XQ M h T J C B W tp nw) (hlen : T.length ≤ 512) : G κ m_LH_holder (d + 4) M 0 [some (.ref h), none] [] 0 0 (fun v M' => M' = M ∧ ((tp = 0 ∧ v = some (.int (-1))) ∨ (tp ≠ 0 ∧ ∃ o, FI (byN tp) T o ∧ ((o = none ∧ v = some (.int (-2))) ∨ ∃ i t, o = some i ∧ T[i]? = some t ∧ v = some (.int t.2.2.1))))) := by
  obtain ⟨own, aT, aJ, aC, aB, aW, ts, hP⟩ := hX
  have hH := hP.1
  have htl := hP.len
  refine g_seq s_LH_holder_0 rfl ?_
  refine g_get f_LH_35 d_LH_holder_1 (hH) rfl ?_
  refine g_if_ne (tgt := 9) d_LH_holder_4 (by decide) (fun h1 => ?_) (fun h1 => ?_)
  · skip
    refine g_seq s_LH_holder_9 rfl ?_
    refine g_get f_LH_35 d_LH_holder_11 (hH) rfl ?_
    refine g_invV  l_LH_85 d_LH_holder_14 rfl ⟨rfl, Nat.le_of_ble_eq_true rfl, Nat.le_of_ble_eq_true rfl⟩ (hH) (x_findThing hH hP.2.1.1 hP.2.1.2.2.2 (by omega)) (Nat.le_of_eq (Nat.zero_add _)) (Nat.le_of_eq (Nat.zero_add _)) ?_
    rintro v M2 ⟨o, hFI, rfl, rfl⟩
    cases o with
    | none =>
      rw [Option.bind_none]
      refine g_seq s_LH_holder_17 rfl ?_
      refine g_ifnonnullN d_LH_holder_19 ?_
      refine g_seq s_LH_holder_22 rfl ?_
      exact g_iret rfl d_LH_holder_31 (⟨rfl, Or.inr ⟨h1, none, hFI, Or.inl ⟨rfl, rfl⟩⟩⟩)
    | some i =>
      obtain ⟨t, ht1, ht2, ht3⟩ := id hFI
      obtain ⟨x, hx, r, ws, hc1, hr, ho, hR⟩ := hP.2.1.2.2.2.at ht1
      rw [Option.bind_some, hx]
      refine g_seq s_LH_holder_17 rfl ?_
      refine g_ifnonnull (tgt := 27) d_LH_holder_19 (by decide) ?_
      refine g_seq s_LH_holder_27 rfl ?_
      refine g_get f_LH_79 d_LH_holder_28 (hc1) rfl ?_
      exact g_iret rfl d_LH_holder_31 (⟨rfl, Or.inr ⟨h1, some i, hFI, Or.inr ⟨i, t, rfl, ht1, rfl⟩⟩⟩)
  · skip
    refine g_seq s_LH_holder_7 rfl ?_
    exact g_iret rfl d_LH_holder_8 (⟨rfl, Or.inl ⟨h1, rfl⟩⟩)
theorem x_left (hX : XQ M h T J C B W tp nw) (hlen : T.length ≤ 512) : G κ m_LH_left (d + 4) M 0 [some (.ref h), none] [] 0 0 (fun v M' => M' = M ∧ ((tp = 0 ∧ v = some (.int (-1))) ∨ (tp ≠ 0 ∧ ∃ o, FI (byN tp) T o ∧ ((o = none ∧ v = some (.int (-2))) ∨ ∃ i t, o = some i ∧ T[i]? = some t ∧ ((lent t = false ∧ v = some (.int (-2))) ∨ (lent t = true ∧ v = some (.int (t.2.2.2.1 - nw)))))))) := by
  obtain ⟨own, aT, aJ, aC, aB, aW, ts, hP⟩ := hX
  have hH := hP.1
  have htl := hP.len
  refine g_seq s_LH_left_0 rfl ?_
  refine g_get f_LH_35 d_LH_left_1 (hH) rfl ?_
  refine g_if_ne (tgt := 9) d_LH_left_4 (by decide) (fun h1 => ?_) (fun h1 => ?_)
  · skip
    refine g_seq s_LH_left_9 rfl ?_
    refine g_get f_LH_35 d_LH_left_11 (hH) rfl ?_
    refine g_invV  l_LH_85 d_LH_left_14 rfl ⟨rfl, Nat.le_of_ble_eq_true rfl, Nat.le_of_ble_eq_true rfl⟩ (hH) (x_findThing hH hP.2.1.1 hP.2.1.2.2.2 (by omega)) (Nat.le_of_eq (Nat.zero_add _)) (Nat.le_of_eq (Nat.zero_add _)) ?_
    rintro v M2 ⟨o, hFI, rfl, rfl⟩
    cases o with
    | none =>
      rw [Option.bind_none]
      refine g_seq s_LH_left_17 rfl ?_
      refine g_ifnullN (tgt := 29) d_LH_left_19 (by decide) ?_
      refine g_seq s_LH_left_29 rfl ?_
      exact g_iret rfl d_LH_left_43 (⟨rfl, Or.inr ⟨h1, none, hFI, Or.inl ⟨rfl, rfl⟩⟩⟩)
    | some i =>
      obtain ⟨t, ht1, ht2, ht3⟩ := id hFI
      obtain ⟨x, hx, r, ws, hc1, hr, ho, hR⟩ := hP.2.1.2.2.2.at ht1
      rw [Option.bind_some, hx]
      refine g_seq s_LH_left_17 rfl ?_
      refine g_ifnull d_LH_left_19 ?_
      refine g_seq s_LH_left_22 rfl ?_
      refine g_invV  l_LH_58 d_LH_left_23 rfl ⟨rfl, Nat.le_of_ble_eq_true rfl, Nat.le_of_ble_eq_true rfl⟩ (hc1) (t_isLent hc1) (Nat.le_of_eq (Nat.zero_add _)) (Nat.le_of_eq (Nat.zero_add _)) ?_
      rintro v M3 ⟨rfl, rfl⟩
      refine g_if_ne (tgt := 34) d_LH_left_26 (by decide) (fun h2 => ?_) (fun h2 => ?_)
      · skip
        refine g_seq s_LH_left_34 rfl ?_
        refine g_get f_LH_82 d_LH_left_35 (hc1) rfl ?_
        refine g_seq s_LH_left_38 rfl ?_
        refine g_get f_LH_39 d_LH_left_39 (hH) rfl ?_
        refine g_seq s_LH_left_42 rfl ?_
        exact g_iret rfl d_LH_left_43 (⟨rfl, Or.inr ⟨h1, some i, hFI, Or.inr ⟨i, t, rfl, ht1, Or.inr ⟨b2i_n.mp h2, rfl⟩⟩⟩⟩)
      · skip
        refine g_seq s_LH_left_29 rfl ?_
        exact g_iret rfl d_LH_left_43 (⟨rfl, Or.inr ⟨h1, some i, hFI, Or.inr ⟨i, t, rfl, ht1, Or.inl ⟨b2i_0.mp h2, rfl⟩⟩⟩⟩)
  · skip
    refine g_seq s_LH_left_7 rfl ?_
    exact g_iret rfl d_LH_left_8 (⟨rfl, Or.inl ⟨h1, rfl⟩⟩)
theorem x_waiting {c : Int32} (hX : XQ M h T J C B W tp nw) (hlen : T.length ≤ 512) (hrow : ∀ (i : Nat) (t : Th), T[i]? = some t → t.2.1.length ≤ 5) : G κ m_LH_waiting (d + 4) M 0 [some (.ref h), some (.int c), none] [] 0 0 (fun v M' => M' = M ∧ ((tp = 0 ∧ v = some (.int (-1))) ∨ (tp ≠ 0 ∧ ∃ o, FI (byN tp) T o ∧ ((o = none ∧ v = some (.int (-2))) ∨ ∃ i t, o = some i ∧ T[i]? = some t ∧ ((∃ j w, c = nI j ∧ t.2.1[j]? = some w ∧ v = some (.int w.1)) ∨ ((∀ j, j < t.2.1.length → c ≠ nI j) ∧ v = some (.int (-2)))))))) := by
  obtain ⟨own, aT, aJ, aC, aB, aW, ts, hP⟩ := hX
  have hH := hP.1
  have htl := hP.len
  refine g_seq s_LH_waiting_0 rfl ?_
  refine g_get f_LH_35 d_LH_waiting_1 (hH) rfl ?_
  refine g_if_ne (tgt := 9) d_LH_waiting_4 (by decide) (fun h1 => ?_) (fun h1 => ?_)
  · skip
    refine g_seq s_LH_waiting_9 rfl ?_
    refine g_get f_LH_35 d_LH_waiting_11 (hH) rfl ?_
    refine g_invV  l_LH_85 d_LH_waiting_14 rfl ⟨rfl, Nat.le_of_ble_eq_true rfl, Nat.le_of_ble_eq_true rfl⟩ (hH) (x_findThing hH hP.2.1.1 hP.2.1.2.2.2 (by omega)) (Nat.le_of_eq (Nat.zero_add _)) (Nat.le_of_eq (Nat.zero_add _)) ?_
    rintro v M2 ⟨o, hFI, rfl, rfl⟩
    cases o with
    | none =>
      rw [Option.bind_none]
      refine g_seq s_LH_waiting_17 rfl ?_
      refine g_ifnullN (tgt := 37) d_LH_waiting_19 (by decide) ?_
      refine g_seq s_LH_waiting_37 rfl ?_
      exact g_iret rfl d_LH_waiting_39 (⟨rfl, Or.inr ⟨h1, none, hFI, Or.inl ⟨rfl, rfl⟩⟩⟩)
    | some i =>
      obtain ⟨t, ht1, ht2, ht3⟩ := id hFI
      obtain ⟨x, hx, r, ws, hc1, hr, ho, hR⟩ := hP.2.1.2.2.2.at ht1
      have h5 := hrow i t ht1
      have hwl : ws.length = t.2.1.length := hR.1
      rw [Option.bind_some, hx]
      refine g_seq s_LH_waiting_17 rfl ?_
      refine g_ifnull d_LH_waiting_19 ?_
      refine g_seq s_LH_waiting_22 rfl ?_
      refine g_if_lt (tgt := 37) d_LH_waiting_23 (by decide) (fun h2 => ?_) (fun h2 => ?_)
      · skip
        refine g_seq s_LH_waiting_37 rfl ?_
        exact g_iret rfl d_LH_waiting_39 (⟨rfl, Or.inr ⟨h1, some i, hFI, Or.inr ⟨i, t, rfl, ht1, Or.inr ⟨fun j hj e => by rw [e] at h2; exact nI_lt0 (by omega) h2, rfl⟩⟩⟩⟩)
      · skip
        obtain ⟨j, hj1, hj2⟩ := nI_of h2
        subst hj2
        refine g_seq s_LH_waiting_26 rfl ?_
        refine g_get f_LH_91 d_LH_waiting_28 (hc1) rfl ?_
        refine g_invL  l_LH_98 d_LH_waiting_31 rfl ⟨rfl, Nat.le_of_ble_eq_true rfl, Nat.le_of_ble_eq_true rfl⟩ (hr) (al_size hr) (Nat.le_of_eq (Nat.zero_add _)) (Nat.le_of_eq (Nat.zero_add _)) ?_
        rintro v M3 ⟨rfl, rfl⟩
        refine g_icmp_lt (tgt := 40) d_LH_waiting_34 (by decide) (fun h3 => ?_) (fun h3 => ?_)
        · skip
          have hjl : j < t.2.1.length := by rw [← hwl]; exact (nI_ltI hj1 (by omega)).mp h3
          have hw1 := List.getElem?_eq_getElem hjl
          generalize t.2.1[j] = w at hw1
          obtain ⟨y, hy, hyw⟩ := hR.at hw1
          refine g_seq s_LH_waiting_40 rfl ?_
          refine g_get f_LH_91 d_LH_waiting_41 (hc1) rfl ?_
          refine g_seq s_LH_waiting_44 rfl ?_
          refine g_invL  l_LH_106 d_LH_waiting_45 rfl ⟨rfl, Nat.le_of_ble_eq_true rfl, Nat.le_of_ble_eq_true rfl⟩ (hr) (al_get hr hy (by omega)) (Nat.le_of_eq (Nat.zero_add _)) (Nat.le_of_eq (Nat.zero_add _)) ?_
          rintro v M4 ⟨rfl, rfl⟩
          refine g_cast cl_LH_109 rfl ca_Waiter_Waiter d_LH_waiting_48 (hyw) ?_
          refine g_invV  l_LH_111 d_LH_waiting_51 rfl ⟨rfl, Nat.le_of_ble_eq_true rfl, Nat.le_of_ble_eq_true rfl⟩ (hyw) (w_client hyw) (Nat.le_of_eq (Nat.zero_add _)) (Nat.le_of_eq (Nat.zero_add _)) ?_
          rintro v M5 ⟨rfl, rfl⟩
          exact g_iret rfl d_LH_waiting_54 (⟨rfl, Or.inr ⟨h1, some i, hFI, Or.inr ⟨i, t, rfl, ht1, Or.inl ⟨j, w, rfl, hw1, rfl⟩⟩⟩⟩)
        · skip
          refine g_seq s_LH_waiting_37 rfl ?_
          exact g_iret rfl d_LH_waiting_39 (⟨rfl, Or.inr ⟨h1, some i, hFI, Or.inr ⟨i, t, rfl, ht1, Or.inr ⟨fun j' hj' e => h3 (by rw [e]; exact nI_lt (by omega) (by omega)), rfl⟩⟩⟩⟩)
  · skip
    refine g_seq s_LH_waiting_7 rfl ?_
    exact g_iret rfl d_LH_waiting_8 (⟨rfl, Or.inl ⟨h1, rfl⟩⟩)
theorem x_first (hX : XQ M h T J C B W tp nw) (hlen : T.length ≤ 512) : G κ m_LH_first (d + 4) M 0 [some (.ref h), none] [] 0 0 (fun v M' => ∃ o, MinT T T.length o ∧ ((o = none ∧ v = some (.int (-2)) ∧ M' = M) ∨ ∃ i t, o = some i ∧ T[i]? = some t ∧ v = some (.int t.2.2.1) ∧ XQ M' h T J C B W t.1 nw)) := by
  obtain ⟨own, aT, aJ, aC, aB, aW, ts, hP⟩ := hX
  have hH := hP.1
  have htl := hP.len
  refine g_seq s_LH_first_0 rfl ?_
  refine g_invV  l_LH_102 d_LH_first_1 rfl ⟨rfl, Nat.le_of_ble_eq_true rfl, Nat.le_of_ble_eq_true rfl⟩ (hH) (x_findNextToEnd hH hP.2.1.1 hP.2.1.2.2.2 (by omega)) (Nat.le_of_eq (Nat.zero_add _)) (Nat.le_of_eq (Nat.zero_add _)) ?_
  rintro v M2 ⟨o, hMin, rfl, rfl⟩
  cases o with
  | none =>
    rw [Option.bind_none]
    refine g_seq s_LH_first_4 rfl ?_
    refine g_ifnonnullN d_LH_first_6 ?_
    refine g_seq s_LH_first_9 rfl ?_
    exact g_iret rfl d_LH_first_11 (⟨none, hMin, Or.inl ⟨rfl, rfl, rfl⟩⟩)
  | some i =>
    obtain ⟨hi, t, ht1, ht2, ht3⟩ := id hMin
    obtain ⟨x, hx, r, ws, hc1, hr, ho, hR⟩ := hP.2.1.2.2.2.at ht1
    have hhx := hH.nth hc1
    rw [Option.bind_some, hx]
    refine g_seq s_LH_first_4 rfl ?_
    refine g_ifnonnull (tgt := 12) d_LH_first_6 (by decide) ?_
    refine g_seq s_LH_first_12 rfl ?_
    refine g_get f_LH_114 d_LH_first_14 (hc1) rfl ?_
    refine g_put f_LH_35 d_LH_first_17 (hH) rfl rfl rfl ?_
    refine g_seq s_LH_first_20 rfl ?_
    refine g_get f_LH_79 d_LH_first_21 ((up_n hhx.symm).trans hc1) rfl ?_
    exact g_iret rfl d_LH_first_24 (⟨some i, hMin, Or.inr ⟨i, t, rfl, ht1, rfl, own, aT, aJ, aC, aB, aW, ts, hP.house⟩⟩)
end XV
