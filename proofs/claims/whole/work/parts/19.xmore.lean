def gob (j e : Wt) : Bool := decide (j.2.1 < e.2.1 ∨ (j.2.1 = e.2.1 ∧ j.2.2 < e.2.2))
/-- a client's box: its list, whose owner it is -/
def BoR (M : Mm) (own : Nat → Nat × Nat) (i a : Nat) (ns : List (Int32 × Int32)) : Prop := ∃ l ws, M a = some (eO 6 [.ref l]) ∧ M l = some (eL ws) ∧ own l = (4, i) ∧ R2 (NoR M) ws ns
section XM
variable {κ : Nat × Nat} {d : Nat} {M : Mm} {a : Nat} {own : Nat → Nat × Nat} {h aT aJ aC aB aW : Nat} {tp nw : Int32} {ts : List Nat} {T : List Th}
theorem can_wa {x : Nat} {w : Wt} (h : WaR M x w) : Can sOb M x := ⟨2, _, _, h, rfl, ca_Waiter_Obj⟩
theorem can_jo {x : Nat} {w : Wt} (h : JoR M x w) : Can sOb M x := ⟨3, _, _, h, rfl, ca_Job_Obj⟩
theorem can_ca {x : Nat} {w : Int32 × Int32} (h : CaR M x w) : Can sOb M x := ⟨4, _, _, h, rfl, ca_Cached_Obj⟩
theorem can_no {x : Nat} {w : Int32 × Int32} (h : NoR M x w) : Can sOb M x := ⟨5, _, _, h, rfl, ca_Note_Obj⟩
theorem can_th {x r : Nat} {t : Th} (h : ThC M x r t) : Can sOb M x := ⟨1, _, _, h, rfl, ca_Thing_Obj⟩
theorem x_findTurnOf {js : List Nat} {J : List Wt} {j : Wt} {x : Nat} (hH : HoC M h aT aJ aC aB aW tp nw) (hJ : M aJ = some (eL js)) (hR : R2 (JoR M) js J) (hj : JoR M x j) (hlen : js.length ≤ 10000) : G κ m_LH_findTurnOf (d + 3) M 0 [some (.ref h), some (.ref x), none] [] 0 0 (fun v M' => ∃ o, FI (fun e : Wt => gob j e) J o ∧ v = some (.int (nI (o.getD J.length))) ∧ M' = M) := by
  have loop : ∀ n i, i + n = js.length → (∀ (k : Nat) (y : Wt), k < i → J[k]? = some y → gob j y = false) → G κ m_LH_findTurnOf (d + 3) M 2 [some (.ref h), some (.ref x), some (.int (nI i))] [] 0 0 (fun v M' => ∃ o, FI (fun e : Wt => gob j e) J o ∧ v = some (.int (nI (o.getD J.length))) ∧ M' = M) := by
    intro n
    induction n with
    | zero =>
      intro i hi hno
      have hiJ : i = J.length := by rw [← hR.1]; omega
      refine g_seq s_LH_findTurnOf_2 rfl ?_
      refine g_get f_LH_16 d_LH_findTurnOf_4 (hH) rfl ?_
      refine g_invL  l_LH_98 d_LH_findTurnOf_7 rfl ⟨rfl, Nat.le_of_ble_eq_true rfl, Nat.le_of_ble_eq_true rfl⟩ (hJ) (al_size hJ) (Nat.le_of_eq (Nat.zero_add _)) (Nat.le_of_eq (Nat.zero_add _)) ?_
      rintro v M' ⟨rfl, rfl⟩
      refine g_icmp_ge (tgt := 37) d_LH_findTurnOf_10 (by decide) (fun hc => ?_) (fun hc => absurd hc (fun h => h (nI_le (by omega) (by omega))))
      refine g_seq s_LH_findTurnOf_37 rfl ?_
      exact g_iret rfl d_LH_findTurnOf_38 (⟨none, fun k y hy => hno k y (by have := (List.getElem?_eq_some_iff.mp hy).1; omega) hy, by rw [hiJ]; rfl, rfl⟩)
    | succ n ih =>
      intro i hi hno
      have hil : i < J.length := by rw [← hR.1]; omega
      have hJi := List.getElem?_eq_getElem hil
      generalize J[i] = ji at hJi
      obtain ⟨y, hy, hw⟩ := hR.at hJi
      refine g_seq s_LH_findTurnOf_2 rfl ?_
      refine g_get f_LH_16 d_LH_findTurnOf_4 (hH) rfl ?_
      refine g_invL  l_LH_98 d_LH_findTurnOf_7 rfl ⟨rfl, Nat.le_of_ble_eq_true rfl, Nat.le_of_ble_eq_true rfl⟩ (hJ) (al_size hJ) (Nat.le_of_eq (Nat.zero_add _)) (Nat.le_of_eq (Nat.zero_add _)) ?_
      rintro v M' ⟨rfl, rfl⟩
      refine g_icmp_ge (tgt := 37) d_LH_findTurnOf_10 (by decide) (fun hc => absurd hc (nI_ge (by omega) (by omega))) (fun hc => ?_)
      refine g_seq s_LH_findTurnOf_13 rfl ?_
      refine g_get f_LH_16 d_LH_findTurnOf_15 (hH) rfl ?_
      refine g_seq s_LH_findTurnOf_18 rfl ?_
      refine g_invL  l_LH_106 d_LH_findTurnOf_19 rfl ⟨rfl, Nat.le_of_ble_eq_true rfl, Nat.le_of_ble_eq_true rfl⟩ (hJ) (al_get hJ hy (by omega)) (Nat.le_of_eq (Nat.zero_add _)) (Nat.le_of_eq (Nat.zero_add _)) ?_
      rintro v M' ⟨rfl, rfl⟩
      refine g_cast cl_LH_117 rfl ca_Job_Job d_LH_findTurnOf_22 (hw) ?_
      refine g_invV  l_LH_234 d_LH_findTurnOf_25 rfl ⟨rfl, Nat.le_of_ble_eq_true rfl, Nat.le_of_ble_eq_true rfl⟩ (hj) (t_goesBefore hj hw) (Nat.le_of_eq (Nat.zero_add _)) (Nat.le_of_eq (Nat.zero_add _)) ?_
      rintro v M' ⟨rfl, rfl⟩
      refine g_if_ne (tgt := 37) d_LH_findTurnOf_28 (by decide) (fun hc2 => ?_) (fun hc2 => ?_)
      · skip
        refine g_seq s_LH_findTurnOf_37 rfl ?_
        exact g_iret rfl d_LH_findTurnOf_38 (⟨some i, ⟨_, hJi, b2i_n.mp hc2, hno⟩, rfl, rfl⟩)
      · skip
        refine g_seq s_LH_findTurnOf_31 rfl ?_
        rw [nI_1]
        refine ih (i + 1) (by omega) (fun k z hk hz => ?_)
        by_cases hki : k = i
        · subst hki
          rw [hJi] at hz
          cases hz
          exact b2i_0.mp hc2
        · exact hno k z (by omega) hz
  refine g_seq s_LH_findTurnOf_0 rfl ?_
  exact loop js.length 0 (by omega) (fun j y hj => absurd hj (Nat.not_lt_zero _))
theorem x_findInCache {cs : List Nat} {C : List (Int32 × Int32)} {nm : Int32} (hH : HoC M h aT aJ aC aB aW tp nw) (hC : M aC = some (eL cs)) (hR : R2 (CaR M) cs C) (hlen : cs.length ≤ 10000) : G κ m_LH_findInCache (d + 3) M 0 [some (.ref h), some (.int nm), none] [] 0 0 (fun v M' => ∃ o, FI (fun e : Int32 × Int32 => e.1 == nm) C o ∧ v = some (.int (oI o)) ∧ M' = M) := by
  have loop : ∀ n i, i + n = cs.length → (∀ (k : Nat) (y : Int32 × Int32), k < i → C[k]? = some y → (y.1 == nm) = false) → G κ m_LH_findInCache (d + 3) M 2 [some (.ref h), some (.int nm), some (.int (nI i))] [] 0 0 (fun v M' => ∃ o, FI (fun e : Int32 × Int32 => e.1 == nm) C o ∧ v = some (.int (oI o)) ∧ M' = M) := by
    intro n
    induction n with
    | zero =>
      intro i hi hno
      refine g_seq s_LH_findInCache_2 rfl ?_
      refine g_get f_LH_19 d_LH_findInCache_4 (hH) rfl ?_
      refine g_invL  l_LH_98 d_LH_findInCache_7 rfl ⟨rfl, Nat.le_of_ble_eq_true rfl, Nat.le_of_ble_eq_true rfl⟩ (hC) (al_size hC) (Nat.le_of_eq (Nat.zero_add _)) (Nat.le_of_eq (Nat.zero_add _)) ?_
      rintro v M' ⟨rfl, rfl⟩
      refine g_icmp_ge (tgt := 39) d_LH_findInCache_10 (by decide) (fun hc => ?_) (fun hc => absurd hc (fun h => h (nI_le (by omega) (by omega))))
      refine g_seq s_LH_findInCache_39 rfl ?_
      exact g_iret rfl d_LH_findInCache_41 (⟨none, fun k y hy => hno k y (by have := (List.getElem?_eq_some_iff.mp hy).1; rw [← hR.1] at this; omega) hy, rfl, rfl⟩)
    | succ n ih =>
      intro i hi hno
      have hil : i < C.length := by rw [← hR.1]; omega
      have hJi := List.getElem?_eq_getElem hil
      generalize C[i] = ji at hJi
      obtain ⟨y, hy, hw⟩ := hR.at hJi
      refine g_seq s_LH_findInCache_2 rfl ?_
      refine g_get f_LH_19 d_LH_findInCache_4 (hH) rfl ?_
      refine g_invL  l_LH_98 d_LH_findInCache_7 rfl ⟨rfl, Nat.le_of_ble_eq_true rfl, Nat.le_of_ble_eq_true rfl⟩ (hC) (al_size hC) (Nat.le_of_eq (Nat.zero_add _)) (Nat.le_of_eq (Nat.zero_add _)) ?_
      rintro v M' ⟨rfl, rfl⟩
      refine g_icmp_ge (tgt := 39) d_LH_findInCache_10 (by decide) (fun hc => absurd hc (nI_ge (by omega) (by omega))) (fun hc => ?_)
      refine g_seq s_LH_findInCache_13 rfl ?_
      refine g_get f_LH_19 d_LH_findInCache_14 (hH) rfl ?_
      refine g_seq s_LH_findInCache_17 rfl ?_
      refine g_invL  l_LH_106 d_LH_findInCache_18 rfl ⟨rfl, Nat.le_of_ble_eq_true rfl, Nat.le_of_ble_eq_true rfl⟩ (hC) (al_get hC hy (by omega)) (Nat.le_of_eq (Nat.zero_add _)) (Nat.le_of_eq (Nat.zero_add _)) ?_
      rintro v M' ⟨rfl, rfl⟩
      refine g_cast cl_LH_146 rfl ca_Cached_Cached d_LH_findInCache_21 (hw) ?_
      refine g_invV  l_LH_238 d_LH_findInCache_24 rfl ⟨rfl, Nat.le_of_ble_eq_true rfl, Nat.le_of_ble_eq_true rfl⟩ (hw) (c_name hw) (Nat.le_of_eq (Nat.zero_add _)) (Nat.le_of_eq (Nat.zero_add _)) ?_
      rintro v M' ⟨rfl, rfl⟩
      refine g_seq s_LH_findInCache_27 rfl ?_
      refine g_icmp_ne (tgt := 33) d_LH_findInCache_28 (by decide) (fun hc2 => ?_) (fun hc2 => ?_)
      · skip
        refine g_seq s_LH_findInCache_33 rfl ?_
        rw [nI_1]
        refine ih (i + 1) (by omega) (fun k z hk hz => ?_)
        by_cases hki : k = i
        · subst hki
          rw [hJi] at hz
          cases hz
          simpa using hc2
        · exact hno k z (by omega) hz
      · skip
        refine g_seq s_LH_findInCache_31 rfl ?_
        exact g_iret rfl d_LH_findInCache_32 (⟨some i, ⟨_, hJi, by simpa using hc2, hno⟩, rfl, rfl⟩)
  refine g_seq s_LH_findInCache_0 rfl ?_
  exact loop cs.length 0 (by omega) (fun j y hj => absurd hj (Nat.not_lt_zero _))
theorem b_init {e1 : Value} (hM : M a = some (eO 6 [e1])) : G κ m_NoteBox_init (d + 4) M 0 [some (.ref a)] [] 1 3 (fun v M' => v = none ∧ ∃ r, M r = none ∧ r ≠ κ.1 ∧ M' = up (up M r (eL [])) a (eO 6 [.ref r])) := by
  refine g_seq s_NoteBox_init_0 rfl ?_
  refine g_objInit l_NoteBox_3 oi_1 oi_2 d_NoteBox_init_1 (Nat.le_of_ble_eq_true rfl) ?_
  refine g_seq s_NoteBox_init_4 rfl ?_
  refine g_new (k' := 0) (n' := 0) n_NoteBox_9 d_NoteBox_init_5 (by first | omega | (simp <;> omega)) (by first | omega | (simp <;> omega)) (fun r hr hzr => ?_)
  have har : a ≠ r := fun e => by rw [e, hr] at hM; cases hM
  refine g_seq s_NoteBox_init_8 rfl ?_
  refine g_invI  l_NoteBox_11 d_NoteBox_init_9 rfl ⟨rfl, Nat.le_of_ble_eq_true rfl, Nat.le_of_ble_eq_true rfl⟩ (al_init (mc := 0) (e2 := .null) up_s) (Nat.le_of_eq (Nat.zero_add _)) (Nat.le_of_eq (Nat.zero_add _)) ?_
  rintro v M' ⟨rfl, rfl⟩
  refine g_putF f_NoteBox_12 ⟨_, rfl, rfl⟩ rfl d_NoteBox_init_12 (by rw [up_up, up_n har]; exact hM) rfl rfl rfl ?_
  exact g_vret rfl d_NoteBox_init_15 (⟨rfl, r, hr, hzr, by rw [up_up]⟩)
theorem b_size {l : Nat} {ws : List Nat} (hM : M a = some (eO 6 [.ref l])) (hl : M l = some (eL ws)) : G κ m_NoteBox_size (d + 1) M 0 [some (.ref a)] [] 0 0 (fun v M' => v = some (.int (nI ws.length)) ∧ M' = M) := by
  refine g_seq s_NoteBox_size_0 rfl ?_
  refine g_get f_NoteBox_12 d_NoteBox_size_1 (hM) rfl ?_
  refine g_invL  l_NoteBox_18 d_NoteBox_size_4 rfl ⟨rfl, Nat.le_of_ble_eq_true rfl, Nat.le_of_ble_eq_true rfl⟩ (hl) (al_size hl) (Nat.le_of_eq (Nat.zero_add _)) (Nat.le_of_eq (Nat.zero_add _)) ?_
  rintro v M' ⟨rfl, rfl⟩
  exact g_iret rfl d_NoteBox_size_7 (⟨rfl, rfl⟩)
theorem b_put {l x : Nat} {ws : List Nat} (hM : M a = some (eO 6 [.ref l])) (hl : M l = some (eL ws)) (hx : Can sOb M x) (hel : ∀ y ∈ ws, Can sOb M y) (h8 : ws.length ≤ 8) : G κ m_NoteBox_put (d + 7) M 0 [some (.ref a), some (.ref x)] [] 1 26 (fun v M' => v = none ∧ M' = up M l (eL ((if ws.length < 8 then ws else ws.eraseIdx 0) ++ [x]))) := by
  have hal : a ≠ l := fun e => by rw [e, hl] at hM; cases hM
  have add : ∀ (M1 : Mm) (ws1 : List Nat), M1 a = some (eO 6 [.ref l]) → M1 l = some (eL ws1) → Can sOb M1 x → (∀ y ∈ ws1, Can sOb M1 y) → ws1.length ≤ 8 → up M1 l (eL (ws1 ++ [x])) = up M l (eL ((if ws.length < 8 then ws else ws.eraseIdx 0) ++ [x])) → G κ m_NoteBox_put (d + 7) M1 21 [some (.ref a), some (.ref x)] [] 1 26 (fun v M' => v = none ∧ M' = up M l (eL ((if ws.length < 8 then ws else ws.eraseIdx 0) ++ [x]))) := by
    intro M1 ws1 h1 h2 h3 h4 h5 h6
    refine g_seq s_NoteBox_put_21 rfl ?_
    refine g_get f_NoteBox_12 d_NoteBox_put_22 (h1) rfl ?_
    refine g_seq s_NoteBox_put_25 rfl ?_
    refine g_invL (k2 := 0) (n2 := 0) l_NoteBox_26 d_NoteBox_put_26 rfl ⟨rfl, Nat.le_of_ble_eq_true rfl, Nat.le_of_ble_eq_true rfl⟩ (h2) (al_add h2 (by omega) h3 h4) (by first | omega | (simp <;> omega)) (by first | omega | (simp <;> omega)) ?_
    rintro v M' ⟨rfl, rfl⟩
    refine g_seq s_NoteBox_put_29 rfl ?_
    exact g_vret rfl d_NoteBox_put_30 (⟨rfl, h6⟩)
  refine g_seq s_NoteBox_put_0 rfl ?_
  refine g_get f_NoteBox_12 d_NoteBox_put_1 (hM) rfl ?_
  refine g_invL  l_NoteBox_18 d_NoteBox_put_4 rfl ⟨rfl, Nat.le_of_ble_eq_true rfl, Nat.le_of_ble_eq_true rfl⟩ (hl) (al_size hl) (Nat.le_of_eq (Nat.zero_add _)) (Nat.le_of_eq (Nat.zero_add _)) ?_
  rintro v M' ⟨rfl, rfl⟩
  refine g_seq s_NoteBox_put_7 rfl ?_
  refine g_icmp_lt (tgt := 21) d_NoteBox_put_9 (by decide) (fun hc => ?_) (fun hc => ?_)
  · skip
    have hlt : ws.length < 8 := by
      rcases Nat.lt_or_ge ws.length 8 with q | q
      · exact q
      · exact absurd hc (show ¬ nI ws.length < nI 8 from nI_nlt q (by omega))
    exact add _ ws hM hl hx hel h8 (by rw [if_pos hlt])
  · skip
    have hlt : ¬ ws.length < 8 := fun q => hc (show nI ws.length < nI 8 from nI_lt q (by omega))
    have h0 : ws[0]? = some (ws[0]'(by omega)) := List.getElem?_eq_getElem _
    refine g_seq s_NoteBox_put_12 rfl ?_
    refine g_get f_NoteBox_12 d_NoteBox_put_13 (hM) rfl ?_
    refine g_seq s_NoteBox_put_16 rfl ?_
    refine g_invL  l_NoteBox_22 d_NoteBox_put_17 rfl ⟨rfl, Nat.le_of_ble_eq_true rfl, Nat.le_of_ble_eq_true rfl⟩ (hl) (al_remove (j := 0) hl h0 (by omega) hel) (Nat.le_of_eq (Nat.zero_add _)) (Nat.le_of_eq (Nat.zero_add _)) ?_
    rintro v M' ⟨rfl, rfl⟩
    refine g_seq (is := [(.pop, 1, 0)]) (pc' := 21) (by decide +kernel) rfl ?_
    exact add _ (ws.eraseIdx 0) (by rw [up_n hal]; exact hM) up_s (hx.up (fun ci fs hh => by rw [hl] at hh; cases hh)) (fun y hy => (hel y (List.mem_of_mem_eraseIdx hy)).up (fun ci fs hh => by rw [hl] at hh; cases hh)) (by rw [List.length_eraseIdx_of_lt (by omega)]; omega) (by rw [if_neg hlt, up_up])
theorem b_takeOldest {l : Nat} {ws : List Nat} {N : List (Int32 × Int32)} (hM : M a = some (eO 6 [.ref l])) (hl : M l = some (eL ws)) (hR : R2 (NoR M) ws N) (h8 : ws.length ≤ 8) : G κ m_NoteBox_takeOldest (d + 3) M 0 [some (.ref a)] [] 0 0 (fun v M' => (ws = [] ∧ v = some .null ∧ M' = M) ∨ ∃ x, ws[0]? = some x ∧ v = some (.ref x) ∧ M' = up M l (eL (ws.eraseIdx 0))) := by
  refine g_seq s_NoteBox_takeOldest_0 rfl ?_
  refine g_get f_NoteBox_12 d_NoteBox_takeOldest_1 (hM) rfl ?_
  refine g_invL  l_NoteBox_30 d_NoteBox_takeOldest_4 rfl ⟨rfl, Nat.le_of_ble_eq_true rfl, Nat.le_of_ble_eq_true rfl⟩ (hl) (al_isEmpty hl (by omega)) (Nat.le_of_eq (Nat.zero_add _)) (Nat.le_of_eq (Nat.zero_add _)) ?_
  rintro v M' ⟨rfl, rfl⟩
  cases hws : ws with
  | nil =>
    rw [if_pos rfl]
    refine g_if_eq (tgt := 14) d_NoteBox_takeOldest_7 (by decide) (fun hc => absurd hc (by decide)) (fun hc => ?_)
    refine g_seq s_NoteBox_takeOldest_10 rfl ?_
    exact g_aretN rfl (by first | exact Or.inl ⟨_, rfl⟩ | exact Or.inr ⟨_, rfl⟩) d_NoteBox_takeOldest_25 (Or.inl ⟨rfl, rfl, rfl⟩)
  | cons x ws' =>
    rw [if_neg (by simp)]
    rw [hws] at hl hR h8
    obtain ⟨n0, hn0⟩ := hR.mem (x := x) List.mem_cons_self
    refine g_if_eq (tgt := 14) d_NoteBox_takeOldest_7 (by decide) (fun hc => ?_) (fun hc => absurd hc (fun h => h rfl))
    refine g_seq s_NoteBox_takeOldest_14 rfl ?_
    refine g_get f_NoteBox_12 d_NoteBox_takeOldest_15 (hM) rfl ?_
    refine g_seq s_NoteBox_takeOldest_18 rfl ?_
    refine g_invL  l_NoteBox_22 d_NoteBox_takeOldest_19 rfl ⟨rfl, Nat.le_of_ble_eq_true rfl, Nat.le_of_ble_eq_true rfl⟩ (hl) (al_remove (j := 0) hl rfl (by omega) (fun y hy => by obtain ⟨z, hz⟩ := hR.mem hy; exact can_no hz)) (Nat.le_of_eq (Nat.zero_add _)) (Nat.le_of_eq (Nat.zero_add _)) ?_
    rintro v M' ⟨rfl, rfl⟩
    have hxl : x ≠ l := fun e => by rw [e] at hn0; unfold NoR at hn0; rw [hl] at hn0; cases hn0
    refine g_cast cl_NoteBox_34 rfl ca_Note_Note d_NoteBox_takeOldest_22 ((up_n hxl).trans hn0) ?_
    exact g_aret rfl (by first | exact Or.inl ⟨_, rfl⟩ | exact Or.inr ⟨_, rfl⟩) d_NoteBox_takeOldest_25 (Or.inr ⟨x, rfl, rfl, rfl⟩)
end XM
