def XQ (M : Mm) (h : Nat) (T : List Th) (J : List Wt) (C : List (Int32 × Int32)) (B : Nat → List (Int32 × Int32)) (W : List Int32) (tp nw : Int32) : Prop := ∃ own aT aJ aC aB aW ts, XP M own h aT aJ aC aB aW ts T J C B W tp nw
/-- the name's thing, found or made -/
def Add (T : List Th) (nm : Int32) (T1 : List Th) (i : Nat) (t : Th) : Prop := T1[i]? = some t ∧ ((FI (fun t : Th => t.1 == nm) T (some i) ∧ T1 = T) ∨ (FI (fun t : Th => t.1 == nm) T none ∧ T1 = T ++ [newT nm] ∧ i = T.length ∧ t = newT nm))
section XU
variable {κ : Nat × Nat} {d : Nat} {M M' : Mm} {a i : Nat} {own : Nat → Nat × Nat} {h aT aJ aC aB aW : Nat} {ts : List Nat} {T : List Th} {J : List Wt} {C : List (Int32 × Int32)} {B B' : Nat → List (Int32 × Int32)} {W W' : List Int32} {tp nw : Int32}
theorem XP.thing {aw : Nat} {t' : Th} (hX : XP M own h aT aJ aC aB aW ts T J C B W tp nw) (hx : ts[i]? = some a) (hK : Kp (ChE own a aW aw) M M') (ht : ThR M' own a t') (hB' : PB M' own aB B') (hW' : PW M' aW W') : XP M' own h aT aJ aC aB aW ts (T.set i t') J C B' W' tp nw := by
  obtain ⟨h1, ⟨g1, g2, g3, g4⟩, h3, h4, h5, h6⟩ := hX
  have nE : ∀ {k q : Nat}, k ≠ 1 → k ≠ 101 → k ≠ 7 → k ≠ 100 → ¬ ChE own a aW aw k q := by
    intro k q n1 n2 n3 n4 hh
    rcases hh with hh | hh | hh | hh
    · exact n1 hh.1
    · exact n2 hh.1
    · exact n3 hh.1
    · exact n4 hh.1
  have nL : ∀ {q x y : Nat}, own q = (x, y) → x ≠ 4 → (x, y) ≠ (3, a) → ¬ ChE own a aW aw 101 q := by
    intro q x y ho n4 n3 hh
    rcases hh with hh | ⟨-, ⟨i, hh⟩ | hh⟩ | hh | hh
    · cases hh.1
    · rw [ho] at hh; exact n4 (congrArg Prod.fst hh)
    · rw [ho] at hh; exact n3 hh
    · cases hh.1
    · cases hh.1
  refine ⟨h1.keep hK (nE (by decide) (by decide) (by decide) (by decide)), ⟨hK aT _ g1 (nL g2 (by decide) (by simp)), g2, g3, ⟨by simpa using g4.1, fun j x y hxj hy => ?_⟩⟩, h3.keep hK (fun _ => nE (by decide) (by decide) (by decide) (by decide)) (fun r hr => nL hr (by decide) (by simp)), h4.keep hK (fun _ => nE (by decide) (by decide) (by decide) (by decide)) (fun r hr => nL hr (by decide) (by simp)), hB', hW'⟩
  by_cases hji : j = i
  · subst hji
    rw [hx] at hxj
    cases hxj
    have hjl : j < T.length := by rw [← g4.1]; exact (List.getElem?_eq_some_iff.mp hx).1
    rw [List.getElem?_set_self hjl] at hy
    cases hy
    exact ht
  · rw [List.getElem?_set_ne (Ne.symm hji)] at hy
    have hxa : x ≠ a := fun e => by
      subst e
      have h1 := (List.getElem?_eq_some_iff.mp hxj)
      have h2 := (List.getElem?_eq_some_iff.mp hx)
      exact hji ((List.getElem_inj g3).mp (h1.2.trans h2.2.symm))
    refine (g4.2 j x y hxj hy).keep hK (fun hh => ?_) (fun _ => nE (by decide) (by decide) (by decide) (by decide)) (fun r hr => nL hr (by decide) (fun e => hxa (congrArg Prod.snd e)))
    rcases hh with hh | hh | hh | hh
    · exact hxa hh.2
    · cases hh.1
    · cases hh.1
    · cases hh.1
theorem ChT.e {aW aw : Nat} : ∀ k q, ChT own a k q → ChE own a aW aw k q := fun k q hh => hh.elim Or.inl (fun hh => Or.inr (Or.inl ⟨hh.1, Or.inl hh.2⟩))
/-- a change that was told: the rest stands -/
theorem XP.told {r : Nat} {t t' : Th} (hX : XP M own h aT aJ aC aB aW ts T J C B W tp nw) (hx : ts[i]? = some a) (hT : ThR M own a t) (hK : Kp (ChT own a) M M') (hc : ThC M' a r t') (hc0 : ThC M a r t) (hrow : t'.2.1 = t.2.1) (hB' : PB M' own aB B') : XP M' own h aT aJ aC aB aW ts (T.set i t') J C B' W tp nw := by
  obtain ⟨aw, f, w1, w2, w3⟩ := id hX.2.2.2.2.2
  have n : ∀ {k q : Nat}, k ≠ 1 → k ≠ 101 → ¬ ChT own a k q := fun n1 n2 hh => hh.elim (fun hh => n1 hh.1) (fun hh => n2 hh.1)
  refine hX.thing hx (hK.wk (ChT.e (aw := aw))) ?_ hB' (hX.2.2.2.2.2.keep hK (n (by decide) (by decide)) (fun _ => n (by decide) (by decide)))
  obtain ⟨r0, ws, g1, g2, g3, g4⟩ := hT
  have hrr : r0 = r := by unfold ThC at g1 hc0; rw [g1] at hc0; cases hc0; rfl
  subst hrr
  refine ⟨r0, ws, hc, hK r0 _ g2 (fun hh => ?_), g3, by rw [hrow]; exact g4.mono (fun x y _ hw => hK x _ hw (n (k := 2) (by decide) (by decide)))⟩
  rcases hh with hh | ⟨-, i, hh⟩
  · cases hh.1
  · rw [g3] at hh; cases hh
/-- what findOrAddThing gives, in the house's words -/
theorem x_foat {nm : Int32} (hX : XP M own h aT aJ aC aB aW ts T J C B W tp nw) (hlen : T.length < 512) : G κ m_LH_findOrAddThing (d + 7) M 0 [some (.ref h), some (.int nm), none] [] 3 1041 (fun v M' => ∃ T1 i t own' ts' x, Add T nm T1 i t ∧ v = some (.ref x) ∧ ts'[i]? = some x ∧ XP M' own' h aT aJ aC aB aW ts' T1 J C B W tp nw) := by
  obtain ⟨h1, h2, h3, h4, h5, h6⟩ := id hX
  have htl : ts.length = T.length := h2.2.2.2.1
  refine g_le (g_mono (x_findOrAddThing h1 h2 (by omega)) ?_) (by omega) (by omega)
  rintro v M' ⟨o, hFI, ⟨i, x, rfl, hx, rfl, rfl⟩ | ⟨rfl, q, own', rfl, hP, ho, hK⟩⟩
  · obtain ⟨t, ht, -⟩ := id hFI
    exact ⟨T, i, t, own, ts, x, ⟨ht, Or.inl ⟨hFI, rfl⟩⟩, rfl, hx, hX⟩
  · have n : ∀ {k q : Nat}, k ≠ 101 → ¬ (k = 101 ∧ q = aT) := fun n1 hh => n1 hh.1
    have nL : ∀ {r x y : Nat}, own' r = (x, y) → x ≠ 0 → ¬ (101 = 101 ∧ r = aT) := fun hr hx hh => by rw [hh.2, hP.2.1] at hr; exact hx (congrArg Prod.fst hr).symm
    refine ⟨T ++ [newT nm], T.length, newT nm, own', ts ++ [q], q, ⟨by simp, Or.inr ⟨hFI, rfl, rfl, rfl⟩⟩, rfl, by rw [← htl]; simp, h1.keep hK (n (by decide)), hP, (h3.tag ho).keep hK (fun _ => n (by decide)) (fun r hr => nL hr (by decide)), (h4.tag ho).keep hK (fun _ => n (by decide)) (fun r hr => nL hr (by decide)), (h5.tag ho).keep hK (fun _ => n (by decide)) (fun _ => n (by decide)) (n (by decide)) (fun r i hr => nL hr (by decide)), h6.keep hK (n (by decide)) (fun _ => n (by decide))⟩
theorem XP.at {t : Th} (hX : XP M own h aT aJ aC aB aW ts T J C B W tp nw) (ht : T[i]? = some t) (hx : ts[i]? = some a) : ThR M own a t := hX.2.1.2.2.2.2 i a t hx ht
theorem x_want {c tk : Int32} (hX : XQ M h T J C B W tp nw) (hlen : T.length < 512) (h8 : ∀ i, i < 16 → (B i).length ≤ 8) (hrow : ∀ (i : Nat) (t : Th), T[i]? = some t → t.2.1.length ≤ 5) : G κ m_LH_want (d + 10) M 0 [some (.ref h), some (.int c), some (.int tk), none] [] 20 1500 (fun v M' =>
    (¬ ((tp ≠ 0 ∧ 0 ≤ c ∧ c < 16) ∧ 1 ≤ tk ∧ tk ≤ 100) ∧ v = some (.int (-1)) ∧ M' = M) ∨
    (((tp ≠ 0 ∧ 0 ≤ c ∧ c < 16) ∧ 1 ≤ tk ∧ tk ≤ 100) ∧ ∃ T1 i t, Add T tp T1 i t ∧
      ((lent t = false ∧ v = some (.int 0) ∧ XQ M' h (T1.set i (lendT t c (nw + tk))) J C (tellB t.2.2.2.2.2 (t.1, 1) 16 B) W tp nw) ∨
       (lent t = true ∧ inT t c ∧ v = some (.int (-2)) ∧ XQ M' h T1 J C B W tp nw) ∨
       (lent t = true ∧ ¬ inT t c ∧ t.2.1.length = 5 ∧ v = some (.int (-3)) ∧ XQ M' h T1 J C B W tp nw) ∨
       (lent t = true ∧ ¬ inT t c ∧ t.2.1.length < 5 ∧ v = some (.int (nI (t.2.1.length + 1))) ∧ XQ M' h (T1.set i (addW t (c, tk, nw))) J C B W tp nw)))) := by
  obtain ⟨own, aT, aJ, aC, aB, aW, ts, hP⟩ := hX
  have hH := hP.1
  have bad : ∀ M', M' = M → ¬ ((tp ≠ 0 ∧ 0 ≤ c ∧ c < 16) ∧ 1 ≤ tk ∧ tk ≤ 100) → G κ m_LH_want (d + 10) M' 15 [some (.ref h), some (.int c), some (.int tk), none] [] 20 1500 (fun v M' =>
    (¬ ((tp ≠ 0 ∧ 0 ≤ c ∧ c < 16) ∧ 1 ≤ tk ∧ tk ≤ 100) ∧ v = some (.int (-1)) ∧ M' = M) ∨
    (((tp ≠ 0 ∧ 0 ≤ c ∧ c < 16) ∧ 1 ≤ tk ∧ tk ≤ 100) ∧ ∃ T1 i t, Add T tp T1 i t ∧
      ((lent t = false ∧ v = some (.int 0) ∧ XQ M' h (T1.set i (lendT t c (nw + tk))) J C (tellB t.2.2.2.2.2 (t.1, 1) 16 B) W tp nw) ∨
       (lent t = true ∧ inT t c ∧ v = some (.int (-2)) ∧ XQ M' h T1 J C B W tp nw) ∨
       (lent t = true ∧ ¬ inT t c ∧ t.2.1.length = 5 ∧ v = some (.int (-3)) ∧ XQ M' h T1 J C B W tp nw) ∨
       (lent t = true ∧ ¬ inT t c ∧ t.2.1.length < 5 ∧ v = some (.int (nI (t.2.1.length + 1))) ∧ XQ M' h (T1.set i (addW t (c, tk, nw))) J C B W tp nw)))) := by
    intro M' e hb
    refine g_seq s_LH_want_15 rfl ?_
    exact g_iret rfl d_LH_want_16 (Or.inl ⟨hb, rfl, e⟩)
  refine g_seq s_LH_want_0 rfl ?_
  refine g_invV (k2 := 20) (n2 := 1500) l_LH_47 d_LH_want_2 rfl ⟨rfl, Nat.le_of_ble_eq_true rfl, Nat.le_of_ble_eq_true rfl⟩ (hH) (x_hasNameAnd hH) (by first | omega | (simp <;> omega)) (by first | omega | (simp <;> omega)) ?_
  rintro v M1 ⟨rfl, rfl⟩
  refine g_if_eq (tgt := 15) d_LH_want_5 (by decide) (fun h1 => ?_) (fun h1 => ?_)
  · skip
    exact bad _ rfl (fun q => of_decide_eq_false (b2i_0.mp h1) q.1)
  · skip
    have ok1 : tp ≠ 0 ∧ 0 ≤ c ∧ c < 16 := of_decide_eq_true (b2i_n.mp h1)
    refine g_seq s_LH_want_8 rfl ?_
    refine g_invS (k2 := 20) (n2 := 1500) l_LH_51 d_LH_want_9 rfl ⟨rfl, Nat.le_of_ble_eq_true rfl, Nat.le_of_ble_eq_true rfl⟩ (x_isLeaseTime) (by first | omega | (simp <;> omega)) (by first | omega | (simp <;> omega)) ?_
    rintro v M2 ⟨rfl, rfl⟩
    refine g_if_ne (tgt := 17) d_LH_want_12 (by decide) (fun h2 => ?_) (fun h2 => ?_)
    · skip
      have ok2 : 1 ≤ tk ∧ tk ≤ 100 := of_decide_eq_true (b2i_n.mp h2)
      refine g_seq s_LH_want_17 rfl ?_
      refine g_get f_LH_35 d_LH_want_19 (hH) rfl ?_
      refine g_invV (k2 := 17) (n2 := 459) l_LH_54 d_LH_want_22 rfl ⟨rfl, Nat.le_of_ble_eq_true rfl, Nat.le_of_ble_eq_true rfl⟩ (hH) (x_foat hP hlen) (by first | omega | (simp <;> omega)) (by first | omega | (simp <;> omega)) ?_
      rintro v M3 ⟨T1, i, t, own', ts', x, hA, rfl, hx, hP3⟩
      have hth := hP3.at hA.1 hx
      obtain ⟨r, hc3⟩ := hth.cell
      have hrow3 : t.2.1.length ≤ 5 := by
        rcases hA.2 with ⟨-, e⟩ | ⟨-, -, -, e⟩
        · rw [e] at hA; exact hrow i t hA.1
        · rw [e]; exact Nat.zero_le _
      refine g_seq s_LH_want_25 rfl ?_
      refine g_ifnonnull (tgt := 32) d_LH_want_27 (by decide) ?_
      refine g_seq s_LH_want_32 rfl ?_
      refine g_invV (k2 := 17) (n2 := 459) l_LH_58 d_LH_want_33 rfl ⟨rfl, Nat.le_of_ble_eq_true rfl, Nat.le_of_ble_eq_true rfl⟩ (hc3) (t_isLent hc3) (by first | omega | (simp <;> omega)) (by first | omega | (simp <;> omega)) ?_
      rintro v M4 ⟨rfl, rfl⟩
      refine g_if_eq (tgt := 47) d_LH_want_36 (by decide) (fun h3 => ?_) (fun h3 => ?_)
      · skip
        have hl : lent t = false := b2i_0.mp h3
        refine g_seq s_LH_want_47 rfl ?_
        refine g_invV (k2 := 0) (n2 := 0) l_LH_68 d_LH_want_52 rfl ⟨rfl, Nat.le_of_ble_eq_true rfl, Nat.le_of_ble_eq_true rfl⟩ (hP3.1) (x_lend hP3.1 hc3 hP3.2.2.2.2.1 h8) (by first | omega | (simp <;> omega)) (by first | omega | (simp <;> omega)) ?_
        rintro v M5 ⟨rfl, hK, hc5, hB5⟩
        refine g_seq s_LH_want_55 rfl ?_
        exact g_iret rfl d_LH_want_56 (Or.inr ⟨⟨ok1, ok2⟩, T1, i, t, hA, Or.inl ⟨hl, rfl, own', aT, aJ, aC, aB, aW, ts', hP3.told hx hth hK hc5 hc3 rfl hB5⟩⟩)
      · skip
        have hl : lent t = true := b2i_n.mp h3
        refine g_seq s_LH_want_39 rfl ?_
        refine g_invV (k2 := 0) (n2 := 0) l_LH_64 d_LH_want_43 rfl ⟨rfl, Nat.le_of_ble_eq_true rfl, Nat.le_of_ble_eq_true rfl⟩ (hP3.1) (x_lineUp hP3.1 hth hrow3) (by first | omega | (simp <;> omega)) (by first | omega | (simp <;> omega)) ?_
        rintro v M5 (⟨e1, rfl, rfl⟩ | ⟨e1, e2, rfl, rfl⟩ | ⟨e1, e2, rfl, e3, e4⟩)
        · skip
          exact g_iret rfl d_LH_want_46 (Or.inr ⟨⟨ok1, ok2⟩, T1, i, t, hA, Or.inr (Or.inl ⟨hl, e1, rfl, own', aT, aJ, aC, aB, aW, ts', hP3⟩)⟩)
        · skip
          exact g_iret rfl d_LH_want_46 (Or.inr ⟨⟨ok1, ok2⟩, T1, i, t, hA, Or.inr (Or.inr (Or.inl ⟨hl, e1, e2, rfl, own', aT, aJ, aC, aB, aW, ts', hP3⟩))⟩)
        · obtain ⟨aw, f, w1, w2, w3⟩ := id hP3.2.2.2.2.2
          have n : ∀ {k q : Nat}, k ≠ 101 → ¬ (k = 101 ∧ own' q = (3, x)) := fun n1 hh => n1 hh.1
          have hX5 := hP3.thing (aw := aw) hx (e4.wk (fun k q hh => Or.inr (Or.inl ⟨hh.1, Or.inr hh.2⟩))) e3 (hP3.2.2.2.2.1.keep e4 (fun _ => n (by decide)) (fun _ => n (by decide)) (n (by decide)) (fun r i hr hh => by rw [hr] at hh; cases hh.2)) (hP3.2.2.2.2.2.keep e4 (n (by decide)) (fun _ => n (by decide)))
          exact g_iret rfl d_LH_want_46 (Or.inr ⟨⟨ok1, ok2⟩, T1, i, t, hA, Or.inr (Or.inr (Or.inr ⟨hl, e1, e2, rfl, own', aT, aJ, aC, aB, aW, ts', hX5⟩))⟩)
    · skip
      exact bad _ rfl (fun q => of_decide_eq_false (b2i_0.mp h2) q.2)
end XU
