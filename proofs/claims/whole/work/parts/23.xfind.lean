def addW (t : Th) (w : Wt) : Th := (t.1, t.2.1 ++ [w], t.2.2)
def newT (nm : Int32) : Th := (nm, [], -2, 0, 0, 0)
/-- the client holds the thing or waits for it -/
def inT (t : Th) (c : Int32) : Prop := t.2.2.1 = c ∨ ∃ (j : Nat) (w : Wt), t.2.1[j]? = some w ∧ w.1 = c
section XF
variable {κ : Nat × Nat} {d : Nat} {M : Mm} {a : Nat} {own : Nat → Nat × Nat} {h aT aJ aC aB aW : Nat} {tp nw : Int32} {ts : List Nat} {T : List Th}
theorem x_lineUp {t : Th} {c tk : Int32} (hH : HoC M h aT aJ aC aB aW tp nw) (hT : ThR M own a t) (hrow : t.2.1.length ≤ 5) : G κ m_LH_lineUp (d + 7) M 0 [some (.ref h), some (.ref a), some (.int c), some (.int tk)] [] 2 23 (fun v M' =>
    (inT t c ∧ v = some (.int (-2)) ∧ M' = M) ∨ (¬ inT t c ∧ t.2.1.length = 5 ∧ v = some (.int (-3)) ∧ M' = M) ∨
    (¬ inT t c ∧ t.2.1.length < 5 ∧ v = some (.int (nI (t.2.1.length + 1))) ∧ ThR M' own a (addW t (c, tk, nw)) ∧ Kp (fun k q => k = 101 ∧ own q = (3, a)) M M')) := by
  obtain ⟨r, ws, hc, hr, ho, hR⟩ := hT
  have hwl : ws.length = t.2.1.length := hR.1
  have no2 : ∀ M', M' = M → inT t c → G κ m_LH_lineUp (d + 7) M' 18 [some (.ref h), some (.ref a), some (.int c), some (.int tk)] [] 2 23 (fun v M' =>
    (inT t c ∧ v = some (.int (-2)) ∧ M' = M) ∨ (¬ inT t c ∧ t.2.1.length = 5 ∧ v = some (.int (-3)) ∧ M' = M) ∨
    (¬ inT t c ∧ t.2.1.length < 5 ∧ v = some (.int (nI (t.2.1.length + 1))) ∧ ThR M' own a (addW t (c, tk, nw)) ∧ Kp (fun k q => k = 101 ∧ own q = (3, a)) M M')) := by
    intro M' e hh
    refine g_seq s_LH_lineUp_18 rfl ?_
    exact g_iret rfl d_LH_lineUp_20 (Or.inl ⟨hh, rfl, e⟩)
  refine g_seq s_LH_lineUp_0 rfl ?_
  refine g_get f_LH_79 d_LH_lineUp_1 (hc) rfl ?_
  refine g_seq s_LH_lineUp_4 rfl ?_
  refine g_icmp_eq (tgt := 18) d_LH_lineUp_5 (by decide) (fun h1 => ?_) (fun h1 => ?_)
  · skip
    exact no2 _ rfl (Or.inl h1)
  · skip
    refine g_seq s_LH_lineUp_8 rfl ?_
    refine g_invV  l_LH_88 d_LH_lineUp_10 rfl ⟨rfl, Nat.le_of_ble_eq_true rfl, Nat.le_of_ble_eq_true rfl⟩ (hc) (t_placeOf hc hr hR (by omega)) (Nat.le_of_eq (Nat.zero_add _)) (Nat.le_of_eq (Nat.zero_add _)) ?_
    rintro v M1 ⟨o, hFI, rfl, rfl⟩
    refine g_seq s_LH_lineUp_13 rfl ?_
    cases o with
    | some i =>
      obtain ⟨w, hw1, hw2, hw3⟩ := hFI
      have hil := (List.getElem?_eq_some_iff.mp hw1).1
      have hne : ¬ oI (some i) = -2 := by
        show ¬ nI i = -2
        intro e
        have h1 := nI_lt0 (j := i) (by omega)
        rw [e] at h1
        exact h1 (by decide)
      refine g_icmp_eq (tgt := 21) d_LH_lineUp_15 (by decide) (fun hbr => absurd hbr (hne)) (fun hbr => ?_)
      exact no2 _ rfl (Or.inr ⟨i, w, hw1, by simpa using hw2⟩)
    | none =>
      have hnot : ¬ inT t c := by
        rintro (e | ⟨j, w, e1, e2⟩)
        · exact h1 e
        · have := hFI j w e1
          simp [e2] at this
      refine g_icmp_eq (tgt := 21) d_LH_lineUp_15 (by decide) (fun hbr => ?_) (fun hbr => absurd hbr (fun h => h rfl))
      refine g_seq s_LH_lineUp_21 rfl ?_
      refine g_get f_LH_91 d_LH_lineUp_22 (hc) rfl ?_
      refine g_invL  l_LH_98 d_LH_lineUp_25 rfl ⟨rfl, Nat.le_of_ble_eq_true rfl, Nat.le_of_ble_eq_true rfl⟩ (hr) (al_size hr) (Nat.le_of_eq (Nat.zero_add _)) (Nat.le_of_eq (Nat.zero_add _)) ?_
      rintro v M2 ⟨rfl, rfl⟩
      refine g_seq s_LH_lineUp_28 rfl ?_
      refine g_icmp_lt (tgt := 35) d_LH_lineUp_29 (by decide) (fun h2 => ?_) (fun h2 => ?_)
      · skip
        have hlt : ws.length < 5 := by
          rcases Nat.lt_or_ge ws.length 5 with q | q
          · exact q
          · exact absurd h2 (show ¬ nI ws.length < nI 5 from nI_nlt q (by omega))
        refine g_seq s_LH_lineUp_35 rfl ?_
        refine g_get f_LH_91 d_LH_lineUp_36 (hc) rfl ?_
        refine g_new (k' := 1) (n' := 20) n_LH_109 d_LH_lineUp_39 (by first | omega | (simp <;> omega)) (by first | omega | (simp <;> omega)) (fun q hq hzq => ?_)
        have nq : ∀ x e, M2 x = some e → x ≠ q := fun x e hx e2 => by rw [e2, hq] at hx; cases hx
        refine g_seq s_LH_lineUp_42 rfl ?_
        refine g_get f_LH_39 d_LH_lineUp_46 ((up_n (nq h _ hH)).trans hH) rfl ?_
        refine g_invIN  l_LH_210 d_LH_lineUp_49 rfl ⟨rfl, Nat.le_of_ble_eq_true rfl, Nat.le_of_ble_eq_true rfl⟩ (w_init up_s) (Nat.le_of_eq (Nat.zero_add _)) (Nat.le_of_eq (Nat.zero_add _)) ?_
        rintro v M3 ⟨rfl, rfl⟩
        rw [up_up]
        have hr3 : up M2 q (eO 2 [.int c, .int tk, .int nw]) r = some (eL ws) := (up_n (nq r _ hr)).trans hr
        have hwq : WaR (up M2 q (eO 2 [.int c, .int tk, .int nw])) q (c, tk, nw) := up_s
        have hc3 : ThC (up M2 q (eO 2 [.int c, .int tk, .int nw])) a r t := (up_n (nq a _ hc)).trans hc
        have hR3 : R2 (WaR (up M2 q (eO 2 [.int c, .int tk, .int nw]))) ws t.2.1 := hR.mono (fun x y _ hz => (up_n (nq x _ hz)).trans hz)
        have hK3 : Kp (fun k q => k = 101 ∧ own q = (3, a)) M2 (up M2 q (eO 2 [.int c, .int tk, .int nw])) := up_kpn hq
        generalize up M2 q (eO 2 [.int c, .int tk, .int nw]) = M3 at hr3 hwq hc3 hR3 hK3
        have har : a ≠ r := fun e => by unfold ThC at hc3; rw [e, hr3] at hc3; cases hc3
        refine g_invL (k2 := 0) (n2 := 0) l_LH_154 d_LH_lineUp_52 rfl ⟨rfl, Nat.le_of_ble_eq_true rfl, Nat.le_of_ble_eq_true rfl⟩ (hr3) (al_add hr3 (by omega) (can_wa hwq) (fun y hy => by obtain ⟨z, hz⟩ := hR3.mem hy; exact can_wa hz)) (by first | omega | (simp <;> omega)) (by first | omega | (simp <;> omega)) ?_
        rintro v M4 ⟨rfl, rfl⟩
        refine g_seq s_LH_lineUp_55 rfl ?_
        refine g_get f_LH_91 d_LH_lineUp_57 ((up_n har).trans hc3) rfl ?_
        refine g_invL  l_LH_98 d_LH_lineUp_60 rfl ⟨rfl, Nat.le_of_ble_eq_true rfl, Nat.le_of_ble_eq_true rfl⟩ (up_s) (al_size up_s) (Nat.le_of_eq (Nat.zero_add _)) (Nat.le_of_eq (Nat.zero_add _)) ?_
        rintro v M5 ⟨rfl, rfl⟩
        have hK4 : Kp (fun k q => k = 101 ∧ own q = (3, a)) M3 (up M3 r (eL (ws ++ [q]))) := up_kp hr3 ⟨rfl, ho⟩
        have hRf := (hR3.snoc hwq).mono (fun x y _ hz => hK4 x _ hz (fun hh => by cases hh.1))
        exact g_iret rfl d_LH_lineUp_63 (Or.inr (Or.inr ⟨hnot, by omega, by rw [List.length_append, hwl]; rfl, ⟨r, _, (up_n har).trans hc3, up_s, ho, hRf⟩, hK3.tr hK4⟩))
      · skip
        refine g_seq s_LH_lineUp_32 rfl ?_
        have h5 : t.2.1.length = 5 := by
          rcases Nat.lt_or_ge ws.length 5 with q | q
          · exact absurd (show nI ws.length < nI 5 from nI_lt q (by omega)) h2
          · omega
        exact g_iret rfl d_LH_lineUp_34 (Or.inr (Or.inl ⟨hnot, h5, rfl, rfl⟩))
theorem PT.tag {own' : Nat → Nat × Nat} (h : PT M own aT ts T) (ho : ∀ x xs, M x = some (eL xs) → own' x = own x) : PT M own' aT ts T :=
  ⟨h.1, (ho aT _ h.1).trans h.2.1, h.2.2.1, h.2.2.2.mono (fun x y _ hw => by obtain ⟨r, ws, g1, g2, g3, g4⟩ := hw; exact ⟨r, ws, g1, g2, (ho r _ g2).trans g3, g4⟩)⟩
theorem PJ.tag {own' : Nat → Nat × Nat} {J : List Wt} (h : PJ M own aJ J) (ho : ∀ x xs, M x = some (eL xs) → own' x = own x) : PJ M own' aJ J := by
  obtain ⟨js, g1, g2, g3⟩ := h
  exact ⟨js, g1, (ho _ _ g1).trans g2, g3⟩
theorem PC.tag {own' : Nat → Nat × Nat} {C : List (Int32 × Int32)} (h : PC M own aC C) (ho : ∀ x xs, M x = some (eL xs) → own' x = own x) : PC M own' aC C := by
  obtain ⟨js, g1, g2, g3⟩ := h
  exact ⟨js, g1, (ho _ _ g1).trans g2, g3⟩
theorem PB.tag {own' : Nat → Nat × Nat} {B : Nat → List (Int32 × Int32)} (h : PB M own aB B) (ho : ∀ x xs, M x = some (eL xs) → own' x = own x) : PB M own' aB B := by
  obtain ⟨f, g1, g2⟩ := h
  refine ⟨f, g1, fun i hi => ?_⟩
  obtain ⟨b, h1, l, ws, h2, h3, h4, h5⟩ := g2 i hi
  exact ⟨b, h1, l, ws, h2, h3, (ho _ _ h3).trans h4, h5⟩
theorem x_findOrAddThing {nm : Int32} (hH : HoC M h aT aJ aC aB aW tp nw) (hT : PT M own aT ts T) (hlen : ts.length < 512) : G κ m_LH_findOrAddThing (d + 7) M 0 [some (.ref h), some (.int nm), none] [] 3 (2 * ts.length + 19) (fun v M' => ∃ o, FI (fun t : Th => t.1 == nm) T o ∧ ((∃ i x, o = some i ∧ ts[i]? = some x ∧ v = some (.ref x) ∧ M' = M) ∨
    (o = none ∧ ∃ q own', v = some (.ref q) ∧ PT M' own' aT (ts ++ [q]) (T ++ [newT nm]) ∧ (∀ x xs, M x = some (eL xs) → own' x = own x) ∧ Kp (fun k x => k = 101 ∧ x = aT) M M'))) := by
  obtain ⟨hT1, hT2, hT3, hT4⟩ := id hT
  refine g_seq s_LH_findOrAddThing_0 rfl ?_
  refine g_invV (k2 := 3) (n2 := 2 * ts.length + 19) l_LH_85 d_LH_findOrAddThing_2 rfl ⟨rfl, Nat.le_of_ble_eq_true rfl, Nat.le_of_ble_eq_true rfl⟩ (hH) (x_findThing hH hT1 hT4 (by omega)) (by first | omega | (simp <;> omega)) (by first | omega | (simp <;> omega)) ?_
  rintro v M1 ⟨o, hFI, rfl, rfl⟩
  cases o with
  | some i =>
    obtain ⟨t, ht1, ht2, ht3⟩ := id hFI
    obtain ⟨x, hx, hx2⟩ := hT4.at ht1
    rw [Option.bind_some, hx]
    refine g_seq s_LH_findOrAddThing_5 rfl ?_
    refine g_ifnonnull (tgt := 41) d_LH_findOrAddThing_7 (by decide) ?_
    refine g_seq s_LH_findOrAddThing_41 rfl ?_
    exact g_aret rfl (by first | exact Or.inl ⟨_, rfl⟩ | exact Or.inr ⟨_, rfl⟩) d_LH_findOrAddThing_42 (⟨some i, hFI, Or.inl ⟨i, x, rfl, hx, rfl, rfl⟩⟩)
  | none =>
    rw [Option.bind_none]
    refine g_seq s_LH_findOrAddThing_5 rfl ?_
    refine g_ifnonnullN d_LH_findOrAddThing_7 ?_
    refine g_seq s_LH_findOrAddThing_10 rfl ?_
    refine g_get f_LH_10 d_LH_findOrAddThing_11 (hH) rfl ?_
    refine g_invL (k2 := 3) (n2 := 2 * ts.length + 19) l_LH_98 d_LH_findOrAddThing_14 rfl ⟨rfl, Nat.le_of_ble_eq_true rfl, Nat.le_of_ble_eq_true rfl⟩ (hT1) (al_size hT1) (by first | omega | (simp <;> omega)) (by first | omega | (simp <;> omega)) ?_
    rintro v M2 ⟨rfl, rfl⟩
    refine g_seq s_LH_findOrAddThing_17 rfl ?_
    refine g_icmp_ge (tgt := 41) d_LH_findOrAddThing_20 (by decide) (fun hbr => absurd hbr ((show ¬ nI 512 ≤ nI ts.length from nI_ge hlen (by omega)))) (fun hbr => ?_)
    refine g_new (k' := 2) (n' := (2*ts.length+13)) n_LH_59 d_LH_findOrAddThing_23 (by first | omega | (simp <;> omega)) (by first | omega | (simp <;> omega)) (fun q hq hzq => ?_)
    have nq : ∀ x e, M2 x = some e → x ≠ q := fun x e hx e2 => by rw [e2, hq] at hx; cases hx
    refine g_seq s_LH_findOrAddThing_26 rfl ?_
    refine g_invI (k2 := 1) (n2 := 2 * ts.length + 10) l_LH_203 d_LH_findOrAddThing_28 rfl ⟨rfl, Nat.le_of_ble_eq_true rfl, Nat.le_of_ble_eq_true rfl⟩ (t_init up_s) (by first | omega | (simp <;> omega)) (by first | omega | (simp <;> omega)) ?_
    rintro v M3 ⟨rfl, r, hr, hrz, rfl⟩
    have hrq : r ≠ q := fun e => by rw [e, up_s] at hr; cases hr
    have hr0 : M2 r = none := by rw [up_n hrq] at hr; exact hr
    have nr : ∀ x e, M2 x = some e → x ≠ r := fun x e hx e2 => by rw [e2, hr0] at hx; cases hx
    have hk3 : ∀ x e, M2 x = some e → up (up (up M2 q (eO 1 [.int 0, .null, .int 0, .int 0, .int 0, .int 0])) r (eL [])) q (eO 1 [.int nm, .ref r, .int (-2), .int 0, .int 0, .int 0]) x = some e := fun x e hx => by rw [up_n (nq x e hx), up_n (nr x e hx), up_n (nq x e hx)]; exact hx
    have hcq : ThC (up (up (up M2 q (eO 1 [.int 0, .null, .int 0, .int 0, .int 0, .int 0])) r (eL [])) q (eO 1 [.int nm, .ref r, .int (-2), .int 0, .int 0, .int 0])) q r (newT nm) := up_s
    have hrr : up (up (up M2 q (eO 1 [.int 0, .null, .int 0, .int 0, .int 0, .int 0])) r (eL [])) q (eO 1 [.int nm, .ref r, .int (-2), .int 0, .int 0, .int 0]) r = some (eL []) := by rw [up_n hrq]; exact up_s
    generalize up (up (up M2 q (eO 1 [.int 0, .null, .int 0, .int 0, .int 0, .int 0])) r (eL [])) q (eO 1 [.int nm, .ref r, .int (-2), .int 0, .int 0, .int 0]) = M3 at hk3 hcq hrr
    have hK3 : ∀ Ch, Kp Ch M2 M3 := fun Ch x e hx _ => hk3 x e hx
    refine g_seq s_LH_findOrAddThing_31 rfl ?_
    refine g_get f_LH_10 d_LH_findOrAddThing_33 (hk3 h _ hH) rfl ?_
    refine g_seq s_LH_findOrAddThing_36 rfl ?_
    refine g_invL (k2 := 0) (n2 := 0) l_LH_154 d_LH_findOrAddThing_37 rfl ⟨rfl, Nat.le_of_ble_eq_true rfl, Nat.le_of_ble_eq_true rfl⟩ (hk3 aT _ hT1) (al_add (hk3 aT _ hT1) (by omega) (can_th hcq) (fun y hy => by obtain ⟨z, hz⟩ := hT4.mem hy; obtain ⟨r9, hz9⟩ := hz.cell; exact can_th (hk3 y _ hz9))) (by first | omega | (simp <;> omega)) (by first | omega | (simp <;> omega)) ?_
    rintro v M4 ⟨rfl, rfl⟩
    refine g_seq s_LH_findOrAddThing_40 rfl ?_
    have hraT : r ≠ aT := fun e => by rw [e, hT1] at hr0; cases hr0
    have hqaT : q ≠ aT := fun e => by rw [e, hT1] at hq; cases hq
    have hoo : ∀ x xs, M2 x = some (eL xs) → (if x = r then (3, q) else own x) = own x := fun x xs hx => if_neg (nr x _ hx)
    have hK4 : Kp (fun k x => k = 101 ∧ x = aT) M3 (up M3 aT (eL (ts ++ [q]))) := up_kp (hk3 aT _ hT1) ⟨rfl, rfl⟩
    have hP := ((hT.tag (own' := fun x => if x = r then (3, q) else own x) hoo).keep (hK3 (fun _ _ => False)) (fun _ _ h => h) (fun _ h => h) (fun _ _ _ h => h) (fun _ _ h => h)).2.2.2
    have hfin : PT (up M3 aT (eL (ts ++ [q]))) (fun x => if x = r then (3, q) else own x) aT (ts ++ [q]) (T ++ [newT nm]) := by
      refine ⟨up_s, by show (if aT = r then (3, q) else own aT) = (0, 0); rw [if_neg hraT.symm]; exact hT2, ?_, ?_⟩
      · rw [List.nodup_append]
        refine ⟨hT3, by simp, fun x hx y hy e => ?_⟩
        obtain ⟨z, hz⟩ := hT4.mem hx
        obtain ⟨r9, hz9⟩ := hz.cell
        exact nq x _ hz9 (e.trans (List.mem_singleton.mp hy))
      · refine (hP.mono (fun x y hx hw => ?_)).snoc ?_
        · refine hw.keep hK4 (fun hh => by cases hh.1) (fun _ hh => by cases hh.1) (fun r9 he hh => ?_)
          rw [hh.2] at he
          simp only [if_neg hraT.symm, hT2] at he
          cases he
        · exact ⟨r, [], (up_n hqaT).trans hcq, (up_n hraT).trans hrr, if_pos rfl, R2.nil⟩
    exact g_aret rfl (by first | exact Or.inl ⟨_, rfl⟩ | exact Or.inr ⟨_, rfl⟩) d_LH_findOrAddThing_42 (⟨none, hFI, Or.inr ⟨rfl, q, _, rfl, hfin, hoo, (hK3 _).tr hK4⟩⟩)
theorem x_findThingHeldBy {c : Int32} (hH : HoC M h aT aJ aC aB aW tp nw) (hT : PT M own aT ts T) (hlen : ts.length ≤ 10000) : G κ m_LH_findThingHeldBy (d + 4) M 0 [some (.ref h), some (.int c), none] [] 0 0 (fun v M' => M' = M ∧ ((v = some .null ∧ ¬ (tp ≠ 0 ∧ 0 ≤ c ∧ c < 16)) ∨ (tp ≠ 0 ∧ 0 ≤ c ∧ c < 16) ∧ ∃ o, FI (fun t : Th => t.1 == tp) T o ∧ ((o = none ∧ v = some .null) ∨ ∃ i t x, o = some i ∧ T[i]? = some t ∧ ts[i]? = some x ∧ ((t.2.2.1 = c ∧ v = some (.ref x)) ∨ (t.2.2.1 ≠ c ∧ v = some .null))))) := by
  obtain ⟨hT1, hT2, hT3, hT4⟩ := id hT
  refine g_seq s_LH_findThingHeldBy_0 rfl ?_
  refine g_invV  l_LH_47 d_LH_findThingHeldBy_2 rfl ⟨rfl, Nat.le_of_ble_eq_true rfl, Nat.le_of_ble_eq_true rfl⟩ (hH) (x_hasNameAnd hH) (Nat.le_of_eq (Nat.zero_add _)) (Nat.le_of_eq (Nat.zero_add _)) ?_
  rintro v M1 ⟨rfl, rfl⟩
  refine g_if_ne (tgt := 10) d_LH_findThingHeldBy_5 (by decide) (fun h1 => ?_) (fun h1 => ?_)
  · skip
    have hok : tp ≠ 0 ∧ 0 ≤ c ∧ c < 16 := of_decide_eq_true (b2i_n.mp h1)
    refine g_seq s_LH_findThingHeldBy_10 rfl ?_
    refine g_get f_LH_35 d_LH_findThingHeldBy_12 (hH) rfl ?_
    refine g_invV  l_LH_85 d_LH_findThingHeldBy_15 rfl ⟨rfl, Nat.le_of_ble_eq_true rfl, Nat.le_of_ble_eq_true rfl⟩ (hH) (x_findThing hH hT1 hT4 hlen) (Nat.le_of_eq (Nat.zero_add _)) (Nat.le_of_eq (Nat.zero_add _)) ?_
    rintro v M2 ⟨o, hFI, rfl, rfl⟩
    cases o with
    | none =>
      rw [Option.bind_none]
      refine g_seq s_LH_findThingHeldBy_18 rfl ?_
      refine g_ifnullN (tgt := 35) d_LH_findThingHeldBy_20 (by decide) ?_
      refine g_seq s_LH_findThingHeldBy_35 rfl ?_
      exact g_aretN rfl (by first | exact Or.inl ⟨_, rfl⟩ | exact Or.inr ⟨_, rfl⟩) d_LH_findThingHeldBy_36 (⟨rfl, Or.inr ⟨hok, none, hFI, Or.inl ⟨rfl, rfl⟩⟩⟩)
    | some i =>
      obtain ⟨t, ht1, ht2, ht3⟩ := id hFI
      obtain ⟨x, hx, hx2⟩ := hT4.at ht1
      obtain ⟨r, hxc⟩ := hx2.cell
      rw [Option.bind_some, hx]
      refine g_seq s_LH_findThingHeldBy_18 rfl ?_
      refine g_ifnull d_LH_findThingHeldBy_20 ?_
      refine g_seq s_LH_findThingHeldBy_23 rfl ?_
      refine g_get f_LH_79 d_LH_findThingHeldBy_24 (hxc) rfl ?_
      refine g_seq s_LH_findThingHeldBy_27 rfl ?_
      refine g_icmp_ne (tgt := 35) d_LH_findThingHeldBy_28 (by decide) (fun h2 => ?_) (fun h2 => ?_)
      · skip
        refine g_seq s_LH_findThingHeldBy_35 rfl ?_
        exact g_aretN rfl (by first | exact Or.inl ⟨_, rfl⟩ | exact Or.inr ⟨_, rfl⟩) d_LH_findThingHeldBy_36 (⟨rfl, Or.inr ⟨hok, some i, hFI, Or.inr ⟨i, t, x, rfl, ht1, hx, Or.inr ⟨h2, rfl⟩⟩⟩⟩)
      · skip
        refine g_seq s_LH_findThingHeldBy_31 rfl ?_
        exact g_aret rfl (by first | exact Or.inl ⟨_, rfl⟩ | exact Or.inr ⟨_, rfl⟩) d_LH_findThingHeldBy_36 (⟨rfl, Or.inr ⟨hok, some i, hFI, Or.inr ⟨i, t, x, rfl, ht1, hx, Or.inl ⟨h2, rfl⟩⟩⟩⟩)
  · skip
    refine g_seq s_LH_findThingHeldBy_8 rfl ?_
    exact g_aretN rfl (by first | exact Or.inl ⟨_, rfl⟩ | exact Or.inr ⟨_, rfl⟩) d_LH_findThingHeldBy_9 (⟨rfl, Or.inl ⟨rfl, of_decide_eq_false (b2i_0.mp h1)⟩⟩)
theorem x_changesOf {nm : Int32} (hH : HoC M h aT aJ aC aB aW tp nw) (hT : PT M own aT ts T) (hlen : ts.length ≤ 10000) : G κ m_LH_changesOf (d + 4) M 0 [some (.ref h), some (.int nm), none] [] 0 0 (fun v M' => M' = M ∧ ∃ o, FI (fun t : Th => t.1 == nm) T o ∧ v = some (.int (match o with | none => 0 | some i => match T[i]? with | none => 0 | some t => t.2.2.2.2.1))) := by
  obtain ⟨hT1, hT2, hT3, hT4⟩ := id hT
  refine g_seq s_LH_changesOf_0 rfl ?_
  refine g_invV  l_LH_85 d_LH_changesOf_2 rfl ⟨rfl, Nat.le_of_ble_eq_true rfl, Nat.le_of_ble_eq_true rfl⟩ (hH) (x_findThing hH hT1 hT4 hlen) (Nat.le_of_eq (Nat.zero_add _)) (Nat.le_of_eq (Nat.zero_add _)) ?_
  rintro v M2 ⟨o, hFI, rfl, rfl⟩
  cases o with
  | none =>
    rw [Option.bind_none]
    refine g_seq s_LH_changesOf_5 rfl ?_
    refine g_ifnonnullN d_LH_changesOf_7 ?_
    refine g_seq s_LH_changesOf_10 rfl ?_
    exact g_iret rfl d_LH_changesOf_18 (⟨rfl, none, hFI, rfl⟩)
  | some i =>
    obtain ⟨t, ht1, ht2, ht3⟩ := id hFI
    obtain ⟨x, hx, hx2⟩ := hT4.at ht1
    obtain ⟨r, hxc⟩ := hx2.cell
    rw [Option.bind_some, hx]
    refine g_seq s_LH_changesOf_5 rfl ?_
    refine g_ifnonnull (tgt := 14) d_LH_changesOf_7 (by decide) ?_
    refine g_seq s_LH_changesOf_14 rfl ?_
    refine g_get f_LH_223 d_LH_changesOf_15 (hxc) rfl ?_
    exact g_iret rfl d_LH_changesOf_18 (⟨rfl, some i, hFI, by simp only [ht1]⟩)
theorem x_countNotes {B : Nat → List (Int32 × Int32)} (hH : HoC M h aT aJ aC aB aW tp nw) (hB : PB M own aB B) : G κ m_LH_countNotes (d + 2) M 0 [some (.ref h), none, none] [] 0 0 (fun v M' => v = some (.int (nI (sm (fun i => (B i).length) (List.range 16)))) ∧ M' = M) := by
  obtain ⟨f, f1, f2⟩ := hB
  have loop : ∀ n i, i + n = 16 → G κ m_LH_countNotes (d + 2) M 4 [some (.ref h), some (.int (nI (sm (fun i => (B i).length) ((List.range 16).take i)))), some (.int (nI i))] [] 0 0 (fun v M' => v = some (.int (nI (sm (fun i => (B i).length) (List.range 16)))) ∧ M' = M) := by
    intro n
    induction n with
    | zero =>
      intro i hi
      have h16 : i = 16 := by omega
      subst h16
      refine g_seq s_LH_countNotes_4 rfl ?_
      refine g_icmp_ge (tgt := 28) d_LH_countNotes_7 (by decide) (fun hbr => ?_) (fun hbr => absurd hbr (fun h => h (by decide)))
      refine g_seq s_LH_countNotes_28 rfl ?_
      exact g_iret rfl d_LH_countNotes_29 (⟨rfl, rfl⟩)
    | succ n ih =>
      intro i hi
      have hil : i < 16 := by omega
      obtain ⟨b, hfb, l, ws, hb1, hb2, hb3, hb4⟩ := f2 i hil
      have hri : (List.range 16)[i]? = some i := by simp [hil]
      have hih := ih (i + 1) (by omega)
      rw [sm_step hri, ← hb4.1] at hih
      refine g_seq s_LH_countNotes_4 rfl ?_
      refine g_icmp_ge (tgt := 28) d_LH_countNotes_7 (by decide) (fun hbr => absurd hbr ((show ¬ nI 16 ≤ nI i from nI_ge hil (by omega)))) (fun hbr => ?_)
      refine g_seq s_LH_countNotes_10 rfl ?_
      refine g_get f_LH_24 d_LH_countNotes_12 (hH) rfl ?_
      refine g_seq s_LH_countNotes_15 rfl ?_
      refine g_aald d_LH_countNotes_16 f1 (vp_nI hil (by omega)) ?_
      rw [nI_cl (by omega), hfb]
      refine g_invV  l_LH_239 d_LH_countNotes_17 rfl ⟨rfl, Nat.le_of_ble_eq_true rfl, Nat.le_of_ble_eq_true rfl⟩ (hb1) (b_size hb1 hb2) (Nat.le_of_eq (Nat.zero_add _)) (Nat.le_of_eq (Nat.zero_add _)) ?_
      rintro v M2 ⟨rfl, rfl⟩
      refine g_seq s_LH_countNotes_20 rfl ?_
      rw [nI_1, nI_add]
      exact hih
  refine g_seq s_LH_countNotes_0 rfl ?_
  exact loop 16 0 (by omega)
end XF
