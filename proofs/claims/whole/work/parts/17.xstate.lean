/-! what the class's objects stand for -/
abbrev Wt : Type := Int32 × Int32 × Int32
abbrev Th : Type := Int32 × List Wt × Int32 × Int32 × Int32 × Int32
/-- two lists of one length, R place by place -/
def R2 {α : Type} (R : Nat → α → Prop) (xs : List Nat) (ys : List α) : Prop := xs.length = ys.length ∧ ∀ (i x : Nat) (y : α), xs[i]? = some x → ys[i]? = some y → R x y
theorem R2.at {α : Type} {R : Nat → α → Prop} {xs : List Nat} {ys : List α} (h : R2 R xs ys) {i : Nat} {y : α} (hy : ys[i]? = some y) : ∃ x, xs[i]? = some x ∧ R x y := by
  have hi : i < xs.length := by rw [h.1]; exact (List.getElem?_eq_some_iff.mp hy).1
  exact ⟨xs[i], List.getElem?_eq_getElem hi, h.2 i _ _ (List.getElem?_eq_getElem hi) hy⟩
theorem R2.mem {α : Type} {R : Nat → α → Prop} {xs : List Nat} {ys : List α} (h : R2 R xs ys) {x : Nat} (hx : x ∈ xs) : ∃ y, R x y := by
  obtain ⟨i, hi⟩ := List.getElem?_of_mem hx
  have hl : i < ys.length := by rw [← h.1]; exact (List.getElem?_eq_some_iff.mp hi).1
  exact ⟨_, h.2 i _ _ hi (List.getElem?_eq_getElem hl)⟩
theorem R2.mono {α : Type} {R R' : Nat → α → Prop} {xs : List Nat} {ys : List α} (h : R2 R xs ys) (hm : ∀ x y, x ∈ xs → R x y → R' x y) : R2 R' xs ys := ⟨h.1, fun i x y hx hy => hm x y (List.mem_of_getElem? hx) (h.2 i x y hx hy)⟩
theorem R2.nil {α : Type} {R : Nat → α → Prop} : R2 R [] ([] : List α) := ⟨rfl, fun i x y hx => by simp at hx⟩
theorem R2.snoc {α : Type} {R : Nat → α → Prop} {xs : List Nat} {ys : List α} {x : Nat} {y : α} (h : R2 R xs ys) (hxy : R x y) : R2 R (xs ++ [x]) (ys ++ [y]) := by
  refine ⟨by simp [h.1], fun i a b ha hb => ?_⟩
  by_cases hi : i < xs.length
  · rw [List.getElem?_append_left hi] at ha
    rw [List.getElem?_append_left (by rw [← h.1]; exact hi)] at hb
    exact h.2 i a b ha hb
  · rw [List.getElem?_append_right (by omega)] at ha
    rw [List.getElem?_append_right (by rw [← h.1]; omega), ← h.1] at hb
    have hz : i - xs.length < 1 := (List.getElem?_eq_some_iff.mp ha).1
    have h0 : i - xs.length = 0 := by omega
    rw [h0] at ha hb
    cases ha
    cases hb
    exact hxy
theorem R2.erase {α : Type} {R : Nat → α → Prop} {xs : List Nat} {ys : List α} (h : R2 R xs ys) (j : Nat) : R2 R (xs.eraseIdx j) (ys.eraseIdx j) := by
  refine ⟨by rw [List.length_eraseIdx, List.length_eraseIdx, h.1], fun i a b ha hb => ?_⟩
  rw [List.getElem?_eraseIdx] at ha hb
  by_cases hij : i < j
  · rw [if_pos hij] at ha hb; exact h.2 i a b ha hb
  · rw [if_neg hij] at ha hb; exact h.2 (i + 1) a b ha hb
/-- the first place in l where p holds -/
def FI {α : Type} (p : α → Bool) (l : List α) (r : Option Nat) : Prop := match r with
  | none => ∀ (j : Nat) (y : α), l[j]? = some y → p y = false
  | some i => ∃ x, l[i]? = some x ∧ p x = true ∧ ∀ (j : Nat) (y : α), j < i → l[j]? = some y → p y = false
def oI (r : Option Nat) : Int32 := match r with
  | none => -2
  | some i => nI i
def WaR (M : Mm) (a : Nat) (w : Wt) : Prop := M a = some (eO 2 [.int w.1, .int w.2.1, .int w.2.2])
def JoR (M : Mm) (a : Nat) (w : Wt) : Prop := M a = some (eO 3 [.int w.1, .int w.2.1, .int w.2.2])
def CaR (M : Mm) (a : Nat) (w : Int32 × Int32) : Prop := M a = some (eO 4 [.int w.1, .int w.2])
def NoR (M : Mm) (a : Nat) (w : Int32 × Int32) : Prop := M a = some (eO 5 [.int w.1, .int w.2])
/-- a thing: its cell, its row's list (whose owner it is) -/
def ThC (M : Mm) (a r : Nat) (t : Th) : Prop := M a = some (eO 1 [.int t.1, .ref r, .int t.2.2.1, .int t.2.2.2.1, .int t.2.2.2.2.1, .int t.2.2.2.2.2])
def ThR (M : Mm) (own : Nat → Nat × Nat) (a : Nat) (t : Th) : Prop := ∃ r ws, ThC M a r t ∧ M r = some (eL ws) ∧ own r = (3, a) ∧ R2 (WaR M) ws t.2.1
section XS
variable {κ : Nat × Nat} {d : Nat} {M : Mm} {a : Nat} {own : Nat → Nat × Nat}
theorem t_placeOf {r : Nat} {ws : List Nat} {t : Th} {c : Int32} (hM : ThC M a r t) (hr : M r = some (eL ws)) (hR : R2 (WaR M) ws t.2.1) (hlen : ws.length ≤ 10000) : G κ m_Thing_placeOf (d + 3) M 0 [some (.ref a), some (.int c), none] [] 0 0 (fun v M' => ∃ o, FI (fun w : Wt => w.1 == c) t.2.1 o ∧ v = some (.int (oI o)) ∧ M' = M) := by
  have loop : ∀ n i, i + n = ws.length → (∀ (j : Nat) (y : Wt), j < i → t.2.1[j]? = some y → (y.1 == c) = false) → G κ m_Thing_placeOf (d + 3) M 2 [some (.ref a), some (.int c), some (.int (nI i))] [] 0 0 (fun v M' => ∃ o, FI (fun w : Wt => w.1 == c) t.2.1 o ∧ v = some (.int (oI o)) ∧ M' = M) := by
    intro n
    induction n with
    | zero =>
      intro i hi hno
      refine g_seq s_Thing_placeOf_2 rfl ?_
      refine g_get f_Thing_12 d_Thing_placeOf_4 (hM) rfl ?_
      refine g_invL  l_Thing_34 d_Thing_placeOf_7 rfl ⟨rfl, Nat.le_of_ble_eq_true rfl, Nat.le_of_ble_eq_true rfl⟩ (hr) (al_size hr) (Nat.le_of_eq (Nat.zero_add _)) (Nat.le_of_eq (Nat.zero_add _)) ?_
      rintro v M' ⟨rfl, rfl⟩
      refine g_icmp_ge (tgt := 39) d_Thing_placeOf_10 (by decide) (fun hc => ?_) (fun hc => absurd hc (fun h => h (nI_le (by omega) (by omega))))
      refine g_seq s_Thing_placeOf_39 rfl ?_
      exact g_iret rfl d_Thing_placeOf_41 (⟨none, fun j y hy => hno j y (by have := (List.getElem?_eq_some_iff.mp hy).1; rw [← hR.1] at this; omega) hy, rfl, rfl⟩)
    | succ n ih =>
      intro i hi hno
      have hil : i < t.2.1.length := by rw [← hR.1]; omega
      obtain ⟨x, hx, hw⟩ := hR.at (List.getElem?_eq_getElem hil)
      refine g_seq s_Thing_placeOf_2 rfl ?_
      refine g_get f_Thing_12 d_Thing_placeOf_4 (hM) rfl ?_
      refine g_invL  l_Thing_34 d_Thing_placeOf_7 rfl ⟨rfl, Nat.le_of_ble_eq_true rfl, Nat.le_of_ble_eq_true rfl⟩ (hr) (al_size hr) (Nat.le_of_eq (Nat.zero_add _)) (Nat.le_of_eq (Nat.zero_add _)) ?_
      rintro v M' ⟨rfl, rfl⟩
      refine g_icmp_ge (tgt := 39) d_Thing_placeOf_10 (by decide) (fun hc => absurd hc (nI_ge (by omega) (by omega))) (fun hc => ?_)
      refine g_seq s_Thing_placeOf_13 rfl ?_
      refine g_get f_Thing_12 d_Thing_placeOf_14 (hM) rfl ?_
      refine g_seq s_Thing_placeOf_17 rfl ?_
      refine g_invL  l_Thing_38 d_Thing_placeOf_18 rfl ⟨rfl, Nat.le_of_ble_eq_true rfl, Nat.le_of_ble_eq_true rfl⟩ (hr) (al_get hr hx (by omega)) (Nat.le_of_eq (Nat.zero_add _)) (Nat.le_of_eq (Nat.zero_add _)) ?_
      rintro v M' ⟨rfl, rfl⟩
      refine g_cast cl_Thing_42 rfl ca_Waiter_Waiter d_Thing_placeOf_21 (hw) ?_
      refine g_invV  l_Thing_44 d_Thing_placeOf_24 rfl ⟨rfl, Nat.le_of_ble_eq_true rfl, Nat.le_of_ble_eq_true rfl⟩ (hw) (w_client hw) (Nat.le_of_eq (Nat.zero_add _)) (Nat.le_of_eq (Nat.zero_add _)) ?_
      rintro v M' ⟨rfl, rfl⟩
      refine g_seq s_Thing_placeOf_27 rfl ?_
      refine g_icmp_ne (tgt := 33) d_Thing_placeOf_28 (by decide) (fun hc => ?_) (fun hc => ?_)
      · skip
        refine g_seq s_Thing_placeOf_33 rfl ?_
        rw [nI_1]
        refine ih (i + 1) (by omega) (fun j y hj hy => ?_)
        by_cases hji : j = i
        · subst hji
          rw [List.getElem?_eq_getElem hil] at hy
          cases hy
          simpa using hc
        · exact hno j y (by omega) hy
      · skip
        refine g_seq s_Thing_placeOf_31 rfl ?_
        exact g_iret rfl d_Thing_placeOf_32 (⟨some i, ⟨_, List.getElem?_eq_getElem hil, by simpa using hc, hno⟩, rfl, rfl⟩)
  refine g_seq s_Thing_placeOf_0 rfl ?_
  exact loop ws.length 0 (by omega) (fun j y hj => absurd hj (Nat.not_lt_zero _))
/-- the house's cell -/
def HoC (M : Mm) (h aT aJ aC aB aW : Nat) (tp nw : Int32) : Prop := M h = some (eO 0 [.ref aT, .ref aJ, .ref aC, .ref aB, .ref aW, .int tp, .int nw])
theorem x_findThing {h aT aJ aC aB aW : Nat} {tp nw nm : Int32} {ts : List Nat} {T : List Th} (hH : HoC M h aT aJ aC aB aW tp nw) (hT : M aT = some (eL ts)) (hR : R2 (ThR M own) ts T) (hlen : ts.length ≤ 10000) : G κ m_LH_findThing (d + 3) M 0 [some (.ref h), some (.int nm), none] [] 0 0 (fun v M' => ∃ o, FI (fun t : Th => t.1 == nm) T o ∧ v = some (va_rf (o.bind (fun i => ts[i]?))) ∧ M' = M) := by
  have loop : ∀ n i, i + n = ts.length → (∀ (j : Nat) (y : Th), j < i → T[j]? = some y → (y.1 == nm) = false) → G κ m_LH_findThing (d + 3) M 2 [some (.ref h), some (.int nm), some (.int (nI i))] [] 0 0 (fun v M' => ∃ o, FI (fun t : Th => t.1 == nm) T o ∧ v = some (va_rf (o.bind (fun i => ts[i]?))) ∧ M' = M) := by
    intro n
    induction n with
    | zero =>
      intro i hi hno
      refine g_seq s_LH_findThing_2 rfl ?_
      refine g_get f_LH_10 d_LH_findThing_4 (hH) rfl ?_
      refine g_invL  l_LH_98 d_LH_findThing_7 rfl ⟨rfl, Nat.le_of_ble_eq_true rfl, Nat.le_of_ble_eq_true rfl⟩ (hT) (al_size hT) (Nat.le_of_eq (Nat.zero_add _)) (Nat.le_of_eq (Nat.zero_add _)) ?_
      rintro v M' ⟨rfl, rfl⟩
      refine g_icmp_ge (tgt := 49) d_LH_findThing_10 (by decide) (fun hc => ?_) (fun hc => absurd hc (fun h => h (nI_le (by omega) (by omega))))
      refine g_seq s_LH_findThing_49 rfl ?_
      exact g_aretN rfl (by first | exact Or.inl ⟨_, rfl⟩ | exact Or.inr ⟨_, rfl⟩) d_LH_findThing_50 (⟨none, fun j y hy => hno j y (by have := (List.getElem?_eq_some_iff.mp hy).1; rw [← hR.1] at this; omega) hy, rfl, rfl⟩)
    | succ n ih =>
      intro i hi hno
      have hil : i < T.length := by rw [← hR.1]; omega
      obtain ⟨x, hx, r, ws, hc1, hr1, ho1, hw1⟩ := hR.at (List.getElem?_eq_getElem hil)
      refine g_seq s_LH_findThing_2 rfl ?_
      refine g_get f_LH_10 d_LH_findThing_4 (hH) rfl ?_
      refine g_invL  l_LH_98 d_LH_findThing_7 rfl ⟨rfl, Nat.le_of_ble_eq_true rfl, Nat.le_of_ble_eq_true rfl⟩ (hT) (al_size hT) (Nat.le_of_eq (Nat.zero_add _)) (Nat.le_of_eq (Nat.zero_add _)) ?_
      rintro v M' ⟨rfl, rfl⟩
      refine g_icmp_ge (tgt := 49) d_LH_findThing_10 (by decide) (fun hc => absurd hc (nI_ge (by omega) (by omega))) (fun hc => ?_)
      refine g_seq s_LH_findThing_13 rfl ?_
      refine g_get f_LH_10 d_LH_findThing_14 (hH) rfl ?_
      refine g_seq s_LH_findThing_17 rfl ?_
      refine g_invL  l_LH_106 d_LH_findThing_18 rfl ⟨rfl, Nat.le_of_ble_eq_true rfl, Nat.le_of_ble_eq_true rfl⟩ (hT) (al_get hT hx (by omega)) (Nat.le_of_eq (Nat.zero_add _)) (Nat.le_of_eq (Nat.zero_add _)) ?_
      rintro v M' ⟨rfl, rfl⟩
      refine g_cast cl_LH_59 rfl ca_Thing_Thing d_LH_findThing_21 (hc1) ?_
      refine g_get f_LH_114 d_LH_findThing_24 (hc1) rfl ?_
      refine g_seq s_LH_findThing_27 rfl ?_
      refine g_icmp_ne (tgt := 43) d_LH_findThing_28 (by decide) (fun hc => ?_) (fun hc => ?_)
      · skip
        refine g_seq s_LH_findThing_43 rfl ?_
        rw [nI_1]
        refine ih (i + 1) (by omega) (fun j y hj hy => ?_)
        by_cases hji : j = i
        · subst hji
          rw [List.getElem?_eq_getElem hil] at hy
          cases hy
          simpa using hc
        · exact hno j y (by omega) hy
      · skip
        refine g_seq s_LH_findThing_31 rfl ?_
        refine g_get f_LH_10 d_LH_findThing_32 (hH) rfl ?_
        refine g_seq s_LH_findThing_35 rfl ?_
        refine g_invL  l_LH_106 d_LH_findThing_36 rfl ⟨rfl, Nat.le_of_ble_eq_true rfl, Nat.le_of_ble_eq_true rfl⟩ (hT) (al_get hT hx (by omega)) (Nat.le_of_eq (Nat.zero_add _)) (Nat.le_of_eq (Nat.zero_add _)) ?_
        rintro v M' ⟨rfl, rfl⟩
        refine g_cast cl_LH_59 rfl ca_Thing_Thing d_LH_findThing_39 (hc1) ?_
        exact g_aret rfl (by first | exact Or.inl ⟨_, rfl⟩ | exact Or.inr ⟨_, rfl⟩) d_LH_findThing_42 (⟨some i, ⟨_, List.getElem?_eq_getElem hil, by simpa using hc, hno⟩, by rw [Option.bind_some, hx]; rfl, rfl⟩)
  refine g_seq s_LH_findThing_0 rfl ?_
  exact loop ts.length 0 (by omega) (fun j y hj => absurd hj (Nat.not_lt_zero _))
end XS
