def lendT (t : Th) (c u : Int32) : Th := (t.1, t.2.1, c, u, t.2.2.2.2.1 + 1, t.2.2.2.2.2)
def endT (nw : Int32) (t : Th) : Th := match t.2.1 with
  | [] => (t.1, [], -2, t.2.2.2.1, t.2.2.2.2.1 + 1, t.2.2.2.2.2)
  | w :: ws => (t.1, ws, w.1, nw + w.2.1, t.2.2.2.2.1 + 1, t.2.2.2.2.2)
def endW (nw : Int32) (t : Th) (W : List Int32) : List Int32 := match t.2.1 with
  | [] => W
  | w :: _ => W ++ [nw - w.2.2]
def endK (t : Th) : Int32 := match t.2.1 with
  | [] => 4
  | _ :: _ => 2
/-- what an end of a lease may touch -/
def ChE (own : Nat → Nat × Nat) (a aW aw : Nat) : Nat → Nat → Prop := fun k q => (k = 1 ∧ q = a) ∨ (k = 101 ∧ ((∃ i, own q = (4, i)) ∨ own q = (3, a))) ∨ (k = 7 ∧ q = aW) ∨ (k = 100 ∧ q = aw)
section XC
variable {κ : Nat × Nat} {d : Nat} {M : Mm} {a : Nat} {own : Nat → Nat × Nat} {h aT aJ aC aB aW : Nat} {tp nw : Int32}
theorem ThR.cell {t : Th} (h : ThR M own a t) : ∃ r, ThC M a r t := by
  obtain ⟨r, _, h1, _⟩ := h
  exact ⟨r, h1⟩
theorem HoC.nth {r : Nat} {t : Th} (hH : HoC M h aT aJ aC aB aW tp nw) (hT : ThC M a r t) : h ≠ a := fun e => by unfold HoC at hH; unfold ThC at hT; rw [e, hT] at hH; cases hH
theorem ThC.k1 {r : Nat} {t : Th} {e : EE} {Ch : Nat → Nat → Prop} (h : ThC M a r t) (hc : Ch 1 a) : Kp Ch M (up M a e) := up_kp h hc
theorem PB.thing {r : Nat} {t : Th} {e : EE} {B : Nat → List (Int32 × Int32)} (hB : PB M own aB B) (h : ThC M a r t) : PB (up M a e) own aB B := hB.keep (Ch := fun k q => k = 1 ∧ q = a) (up_kp h ⟨rfl, rfl⟩) (fun x hx => by cases hx.1) (fun x hx => by cases hx.1) (fun hx => by cases hx.1) (fun _ _ _ hx => by cases hx.1)
theorem x_lend {r : Nat} {t : Th} {c tk kind : Int32} {B : Nat → List (Int32 × Int32)} (hH : HoC M h aT aJ aC aB aW tp nw) (hT : ThC M a r t) (hB : PB M own aB B) (h8 : ∀ i, i < 16 → (B i).length ≤ 8) : G κ m_LH_lend (d + 9) M 0 [some (.ref h), some (.ref a), some (.int c), some (.int tk), some (.int kind)] [] 17 418 (fun v M' => v = none ∧ Kp (ChT own a) M M' ∧ ThC M' a r (lendT t c (nw + tk)) ∧ PB M' own aB (tellB t.2.2.2.2.2 (t.1, kind) 16 B)) := by
  have hha := hH.nth hT
  refine g_seq s_LH_lend_0 rfl ?_
  refine g_put f_LH_79 d_LH_lend_2 (hT) rfl rfl rfl ?_
  refine g_seq s_LH_lend_5 rfl ?_
  refine g_get f_LH_39 d_LH_lend_7 ((up_n hha).trans hH) rfl ?_
  refine g_seq s_LH_lend_10 rfl ?_
  refine g_put f_LH_82 d_LH_lend_12 (up_s) rfl rfl rfl ?_
  rw [up_up]
  refine g_seq s_LH_lend_15 rfl ?_
  refine g_invV (k2 := 0) (n2 := 0) l_LH_211 d_LH_lend_19 rfl ⟨rfl, Nat.le_of_ble_eq_true rfl, Nat.le_of_ble_eq_true rfl⟩ ((up_n hha).trans hH) (x_tellChange (t := (t.1, t.2.1, c, nw + tk, t.2.2.2.2.1, t.2.2.2.2.2)) ((up_n hha).trans hH) up_s (hB.thing hT) h8) (by first | omega | (simp <;> omega)) (by first | omega | (simp <;> omega)) ?_
  rintro v M' ⟨rfl, h1, h2, h3⟩
  exact g_vret rfl d_LH_lend_22 (⟨rfl, (hT.k1 (Or.inl ⟨rfl, rfl⟩)).tr h1, h2, h3⟩)
theorem x_endLease {t : Th} {B : Nat → List (Int32 × Int32)} {W : List Int32} (hH : HoC M h aT aJ aC aB aW tp nw) (hT : ThR M own a t) (hB : PB M own aB B) (h8 : ∀ i, i < 16 → (B i).length ≤ 8) (hW : PW M aW W) (hWl : W.length < 512) (hrow : t.2.1.length ≤ 10000) : G κ m_LH_endLease (d + 10) M 0 [some (.ref h), some (.ref a), none] [] 17 418 (fun v M' => v = none ∧ (∃ aw, (∃ n, M aW = some (eO 7 [.ref aw, n])) ∧ Kp (ChE own a aW aw) M M') ∧ ThR M' own a (endT nw t) ∧ PB M' own aB (tellB t.2.2.2.2.2 (t.1, endK t) 16 B) ∧ PW M' aW (endW nw t W)) := by
  obtain ⟨r, ws, hc, hr, ho, hR⟩ := hT
  obtain ⟨aw, f, hw1, hw2, hw3, hw4⟩ := id hW
  have hha := hH.nth hc
  have hws : ws.length ≤ 100000 := by rw [hR.1]; omega
  have tsub : ∀ k q, ChT own a k q → ChE own a aW aw k q := fun k q hh => hh.elim Or.inl (fun hh => Or.inr (Or.inl ⟨hh.1, Or.inl hh.2⟩))
  refine g_seq s_LH_endLease_0 rfl ?_
  refine g_get f_LH_91 d_LH_endLease_1 (hc) rfl ?_
  refine g_invL  l_LH_130 d_LH_endLease_4 rfl ⟨rfl, Nat.le_of_ble_eq_true rfl, Nat.le_of_ble_eq_true rfl⟩ (hr) (al_isEmpty hr hws) (Nat.le_of_eq (Nat.zero_add _)) (Nat.le_of_eq (Nat.zero_add _)) ?_
  rintro v M' ⟨rfl, rfl⟩
  obtain ⟨nm, row, hoT, un, chg, wa⟩ := t
  cases row with
  | nil =>
    have hwn : ws = [] := List.length_eq_zero_iff.mp hR.1
    rw [if_pos hwn]
    refine g_if_eq (tgt := 23) d_LH_endLease_7 (by decide) (fun hbr => absurd hbr (by decide)) (fun hbr => ?_)
    refine g_seq s_LH_endLease_10 rfl ?_
    refine g_put f_LH_79 d_LH_endLease_13 (hc) rfl rfl rfl ?_
    refine g_seq s_LH_endLease_16 rfl ?_
    refine g_invV (k2 := 0) (n2 := 0) l_LH_211 d_LH_endLease_19 rfl ⟨rfl, Nat.le_of_ble_eq_true rfl, Nat.le_of_ble_eq_true rfl⟩ ((up_n hha).trans hH) (x_tellChange (t := (nm, [], -2, un, chg, wa)) ((up_n hha).trans hH) up_s (hB.thing hc) h8) (by first | omega | (simp <;> omega)) (by first | omega | (simp <;> omega)) ?_
    rintro v M2 ⟨rfl, h1, h2, h3⟩
    have hK := (hc.k1 (Ch := ChT own a) (Or.inl ⟨rfl, rfl⟩)).tr h1
    have hnot : ∀ q, own q = (3, a) → ¬ ChT own a 101 q := fun q e hh => by
      rcases hh with hh | ⟨-, i, hh⟩
      · cases hh.1
      · rw [e] at hh; cases hh
    exact g_vret rfl d_LH_endLease_22 (⟨rfl, ⟨aw, ⟨_, hw1⟩, hK.wk tsub⟩, ⟨r, ws, h2, hK r _ hr (hnot r ho), ho, by rw [hwn]; exact R2.nil⟩, h3, hW.keep hK (fun hh => by rcases hh with hh | hh <;> cases hh.1) (fun x hh => by rcases hh with hh | hh <;> cases hh.1)⟩)
  | cons w row =>
    have hwn : ¬ ws = [] := fun e => by have := hR.1; rw [e] at this; cases this
    rw [if_neg hwn]
    obtain ⟨x, hx, hxw⟩ := hR.at (i := 0) (y := w) rfl
    have hxr : x ≠ r := fun e => by unfold WaR at hxw; rw [e, hr] at hxw; cases hxw
    have har : a ≠ r := fun e => by unfold ThC at hc; rw [e, hr] at hc; cases hc
    have hhr : h ≠ r := fun e => by unfold HoC at hH; rw [e, hr] at hH; cases hH
    refine g_if_eq (tgt := 23) d_LH_endLease_7 (by decide) (fun hbr => ?_) (fun hbr => absurd hbr (fun h => h rfl))
    refine g_seq s_LH_endLease_23 rfl ?_
    refine g_get f_LH_91 d_LH_endLease_24 (hc) rfl ?_
    refine g_seq s_LH_endLease_27 rfl ?_
    refine g_invL  l_LH_94 d_LH_endLease_28 rfl ⟨rfl, Nat.le_of_ble_eq_true rfl, Nat.le_of_ble_eq_true rfl⟩ (hr) (al_remove (j := 0) hr hx hws (fun y hy => by obtain ⟨z, hz⟩ := hR.mem hy; exact can_wa hz)) (Nat.le_of_eq (Nat.zero_add _)) (Nat.le_of_eq (Nat.zero_add _)) ?_
    rintro v M2 ⟨rfl, rfl⟩
    have hxw2 : WaR (up M' r (eL (ws.eraseIdx 0))) x w := (up_n hxr).trans hxw
    have hH2 : HoC (up M' r (eL (ws.eraseIdx 0))) h aT aJ aC aB aW tp nw := (up_n hhr).trans hH
    have hc2 : ThC (up M' r (eL (ws.eraseIdx 0))) a r (nm, row, hoT, un, chg, wa) := (up_n har).trans hc
    have hK2 : Kp (ChE own a aW aw) M' (up M' r (eL (ws.eraseIdx 0))) := up_kp hr (Or.inr (Or.inl ⟨rfl, Or.inr ho⟩))
    have hK2' : Kp (fun k q => k = 101 ∧ own q = (3, a)) M' (up M' r (eL (ws.eraseIdx 0))) := up_kp hr ⟨rfl, ho⟩
    have hB2 := hB.keep hK2' (fun x hh => by cases hh.1) (fun x hh => by cases hh.1) (fun hh => by cases hh.1) (fun r i e hh => by rw [e] at hh; cases hh.2)
    have hW2 := hW.keep hK2' (fun hh => by cases hh.1) (fun x hh => by cases hh.1)
    have hR2 : R2 (WaR (up M' r (eL (ws.eraseIdx 0)))) (ws.eraseIdx 0) row := (hR.erase 0).mono (fun y z _ hz => hK2' y _ hz (fun hh => by cases hh.1))
    have hr2 : up M' r (eL (ws.eraseIdx 0)) r = some (eL (ws.eraseIdx 0)) := up_s
    have hw12 : up M' r (eL (ws.eraseIdx 0)) aW = some (eO 7 [.ref aw, .int (nI W.length)]) := hK2' aW _ hw1 (fun hh => by cases hh.1)
    generalize up M' r (eL (ws.eraseIdx 0)) = M3 at hxw2 hH2 hc2 hK2 hB2 hW2 hR2 hr2 hw12
    refine g_cast cl_LH_109 rfl ca_Waiter_Waiter d_LH_endLease_31 (hxw2) ?_
    refine g_seq s_LH_endLease_34 rfl ?_
    refine g_get f_LH_31 d_LH_endLease_36 (hH2) rfl ?_
    refine g_seq s_LH_endLease_39 rfl ?_
    refine g_get f_LH_39 d_LH_endLease_40 (hH2) rfl ?_
    refine g_seq s_LH_endLease_43 rfl ?_
    refine g_invV  l_LH_215 d_LH_endLease_44 rfl ⟨rfl, Nat.le_of_ble_eq_true rfl, Nat.le_of_ble_eq_true rfl⟩ (hxw2) (w_since hxw2) (Nat.le_of_eq (Nat.zero_add _)) (Nat.le_of_eq (Nat.zero_add _)) ?_
    rintro v M4 ⟨rfl, rfl⟩
    refine g_seq s_LH_endLease_47 rfl ?_
    refine g_invV  l_LH_218 d_LH_endLease_48 rfl ⟨rfl, Nat.le_of_ble_eq_true rfl, Nat.le_of_ble_eq_true rfl⟩ (hw12) (wt_add (x := nw - w.2.2) hW2 hWl) (Nat.le_of_eq (Nat.zero_add _)) (Nat.le_of_eq (Nat.zero_add _)) ?_
    rintro v M5 ⟨rfl, hW5, hK5⟩
    have hK5' : Kp (fun k q => (k = 7 ∧ q = aW) ∨ (k = 100 ∧ q = aw)) M4 M5 := hK5.wk (fun k q hh => hh.imp id (fun hh => ⟨hh.1, by obtain ⟨-, aw2, n2, e1, e2⟩ := hh; rw [hw12] at e1; cases e1; exact e2⟩))
    have hB5a : aB ≠ aw := fun e => by
      obtain ⟨f2, q1, -⟩ := hB
      rw [e, hw2] at q1; cases q1
    have hxw5 : WaR M5 x w := hK5' x _ hxw2 (fun hh => by rcases hh with hh | hh <;> cases hh.1)
    have hH5 := hH2.keep hK5' (fun hh => by rcases hh with hh | hh <;> cases hh.1)
    have hc5 : ThC M5 a r (nm, row, hoT, un, chg, wa) := hK5' a _ hc2 (fun hh => by rcases hh with hh | hh <;> cases hh.1)
    have hB5 := hB2.keep hK5' (fun x hh => by rcases hh with hh | hh <;> cases hh.1) (fun x hh => by rcases hh with hh | hh <;> cases hh.1) (fun hh => hh.elim (fun hh => by cases hh.1) (fun hh => hB5a hh.2)) (fun _ _ _ hh => by rcases hh with hh | hh <;> cases hh.1)
    refine g_seq s_LH_endLease_51 rfl ?_
    refine g_invV  l_LH_111 d_LH_endLease_54 rfl ⟨rfl, Nat.le_of_ble_eq_true rfl, Nat.le_of_ble_eq_true rfl⟩ (hxw5) (w_client hxw5) (Nat.le_of_eq (Nat.zero_add _)) (Nat.le_of_eq (Nat.zero_add _)) ?_
    rintro v M6 ⟨rfl, rfl⟩
    refine g_seq s_LH_endLease_57 rfl ?_
    refine g_invV  l_LH_220 d_LH_endLease_58 rfl ⟨rfl, Nat.le_of_ble_eq_true rfl, Nat.le_of_ble_eq_true rfl⟩ (hxw5) (w_ticks hxw5) (Nat.le_of_eq (Nat.zero_add _)) (Nat.le_of_eq (Nat.zero_add _)) ?_
    rintro v M7 ⟨rfl, rfl⟩
    refine g_seq s_LH_endLease_61 rfl ?_
    refine g_invV (k2 := 0) (n2 := 0) l_LH_68 d_LH_endLease_62 rfl ⟨rfl, Nat.le_of_ble_eq_true rfl, Nat.le_of_ble_eq_true rfl⟩ (hH5) (x_lend hH5 hc5 hB5 h8) (by first | omega | (simp <;> omega)) (by first | omega | (simp <;> omega)) ?_
    rintro v M8 ⟨rfl, h1, h2, h3⟩
    have hnot : ∀ q, own q = (3, a) → ¬ ChT own a 101 q := fun q e hh => by
      rcases hh with hh | ⟨-, i, hh⟩
      · cases hh.1
      · rw [e] at hh; cases hh
    have hr5 : M7 r = some (eL (ws.eraseIdx 0)) := hK5' r _ hr2 (fun hh => by rcases hh with hh | hh <;> cases hh.1)
    have hR5 := hR2.mono (fun y z _ hz => hK5' y _ hz (fun hh => by rcases hh with hh | hh <;> cases hh.1))
    exact g_vret rfl d_LH_endLease_65 (⟨rfl, ⟨aw, ⟨_, hw1⟩, (hK2.tr (hK5'.wk (fun k q hh => Or.inr (Or.inr hh)))).tr (h1.wk tsub)⟩, ⟨r, _, h2, h1 r _ hr5 (hnot r ho), ho, hR5.mono (fun y z _ hz => h1 y _ hz (fun hh => by rcases hh with hh | hh <;> cases hh.1))⟩, h3, hW5.keep h1 (fun hh => by rcases hh with hh | hh <;> cases hh.1) (fun x hh => by rcases hh with hh | hh <;> cases hh.1)⟩)
end XC
