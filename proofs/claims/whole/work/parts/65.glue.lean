/-! the two side by side -/
def IT (j : Nat) (T : List Th) (W : List Int32) (u : Nat) : Prop := (T.map (fun t => t.1)).Nodup ∧ T.length ≤ j ∧ u ≤ 60 * j ∧ (∀ (i : Nat) (t : Th), T[i]? = some t → okT t ∧ (lent t = true → ((u + 1 : Nat) : Int) ≤ t.2.2.2.1.toInt)) ∧ W.length + sm (fun t : Th => t.2.1.length) T ≤ j
def IV (j : Nat) (M : Mm) (h : Nat) (ar : Ar) (nm : Nat → Int64) (sc : Sc) (F : Nat) : Prop := ∃ T JM C B W tp u, XQ M h T (isrt JM) C B W (ni tp) (nI u) ∧ NY ar nm sc j (lk T) JM C B W tp (nI u) ∧ IT j T W u ∧ sm phT T = F
/-- what comes after a call of both -/
def PO (j h : Nat) (M : Mm) (kx nx F : Nat) (ar : Ar) (nm : Nat → Int64) (sc : Sc) : Prop := ∃ F', kx + 17 * F' ≤ 37 + 17 * F ∧ nx + 418 * F' ≤ 1918 + 418 * F ∧ IV (j + 1) M h ar nm sc F'
def isI (v : Option Value) : Prop := ∃ x : Int32, v = some (.int x)
def isJ (v : Option Value) : Prop := ∃ x : Int64, v = some (.long x)
/-- one call of both: the same answer, and the two side by side again -/
def OPs (κ : Nat × Nat) (j h m F : Nat) (M : Mm) (ad : Nat → Nat) (ar : Ar) (nm : Nat → Int64) (sc : Sc) (νx νm : MD) (As : List Value) (P : Option Value → Prop) : Prop := ∃ kx nx QX, kx ≤ 37 + 17 * F ∧ nx ≤ 1918 + 418 * F ∧ G κ νx 11 M 0 (ent (.ref h :: As) νx.2.2.1) [] kx nx QX ∧ ∀ v M', QX v M' → P v ∧ GN κ νm 11 m ad ar nm sc 0 (ent (.ref m :: As) νm.2.2.1) [] (fun v' ar' nm' sc' => v' = v ∧ PO j h M' kx nx F ar' nm' sc')
theorem NY.mono {ar : Ar} {nm : Nat → Int64} {sc : Sc} {b b' : Nat} {f : Int32 → Th} {J : List Wt} {C : List (Int32 × Int32)} {B : BB} {W : List Int32} {tp : List Nat} {nw : Int32} (h : NY ar nm sc b f J C B W tp nw) (hb : b ≤ b') : NY ar nm sc b' f J C B W tp nw := by
  obtain ⟨K, ls, h1, h2⟩ := h
  exact ⟨K, ls, by omega, h2⟩
theorem FI_ex {α : Type} {p : α → Bool} : ∀ (l : List α), ∃ o, FI p l o := by
  intro l
  induction l with
  | nil => exact ⟨none, fun j y hy => by cases hy⟩
  | cons e l ih =>
    by_cases hp : p e = true
    · exact ⟨some 0, e, rfl, hp, fun j y hj => absurd hj (Nat.not_lt_zero _)⟩
    · have hp' : p e = false := by simpa using hp
      obtain ⟨o, ho⟩ := ih
      obtain _ | i := o
      · refine ⟨none, fun j y hy => ?_⟩
        obtain _ | j := j
        · cases hy; exact hp'
        · exact ho j y hy
      · obtain ⟨x, h1, h2, h3⟩ := ho
        refine ⟨some (i + 1), x, h1, h2, fun j y hj hy => ?_⟩
        obtain _ | j := j
        · cases hy; exact hp'
        · exact h3 j y (by omega) hy
theorem FI_uniq {α : Type} {p : α → Bool} {l : List α} {o o' : Option Nat} (h : FI p l o) (h' : FI p l o') : o = o' := by
  rw [← FI_find h, ← FI_find h']
theorem sm_app {α : Type} {f : α → Nat} {l : List α} {x : α} : sm f (l ++ [x]) = sm f l + f x := by
  unfold sm
  simp
section OP
variable {κ : Nat × Nat} {j h m F kx nx K : Nat} {M : Mm} {ad : Nat → Nat} {ar : Ar} {nm : Nat → Int64} {sc : Sc} {T : List Th} {JM : List Wt} {C : List (Int32 × Int32)} {B : BB} {W : List Int32} {tp : List Nat} {u : Nat}
theorem IT.up (hT : IT j T W u) : IT (j + 1) T W u := by
  obtain ⟨h1, h2, h3, h4, h5⟩ := hT
  exact ⟨h1, by omega, by omega, h4, by omega⟩
theorem IV.go (hI : IV j M h ar nm sc F) (hj : j < 512) : ∃ T JM C B W tp u K ls, XQ M h T (isrt JM) C B W (ni tp) (nI u) ∧ NS ar nm sc K ls (lk T) JM C B W tp (nI u) ∧ IT j T W u ∧ sm phT T = F ∧ K ≤ j ∧ K < 4000 ∧ T.length < 512 ∧ (∀ i, i < 16 → (B i).length ≤ 8) ∧ (∀ (i : Nat) (t : Th), T[i]? = some t → t.2.1.length ≤ 5) ∧ (isrt JM).length ≤ 30 ∧ C.length ≤ 4 ∧ okL tp ∧ tp.length ≤ 6 ∧ (ni tp = 0 ↔ tp = []) ∧ LK (lk T) T ∧ W.length < 512 := by
  obtain ⟨T, JM, C, B, W, tp, u, hX, ⟨K, ls, hK, hN⟩, hT, hF⟩ := hI
  obtain ⟨g1, g2, g3, g4, g5, g6, g7, g8⟩ := id hN
  obtain ⟨t1, t2, t3, t4, t5⟩ := id hT
  refine ⟨T, JM, C, B, W, tp, u, K, ls, hX, hN, hT, hF, hK, by omega, by omega, fun i hi => (g5 i hi).2.1, fun i t ht => (t4 i t ht).1.1, ?_, g4.2.1, g7.2.1, g7.2.2.1, ?_, ⟨rfl, t1⟩, by omega⟩
  · rw [isrt_len]; exact g3.2.1
  · rw [← enc_0 g7.2.1]
    have hb := enc_b g7.2.1 g7.2.2.1
    show nI (enc tp) = nI 0 ↔ _
    exact nI_eq (by omega) (by decide)
theorem move {T' : List Th} {W' : List Int32} {u' : Nat} (hKj : K ≤ j) (hX : XQ M h T' (isrt JM) C B W' (ni tp) (nI u')) (hN : NY ar nm sc (K + 1) (lk T') JM C B W' tp (nI u')) (hT : IT (j + 1) T' W' u') (hk : kx + 17 * sm phT T' ≤ 37 + 17 * F) (hn : nx + 418 * sm phT T' ≤ 1918 + 418 * F) : PO j h M kx nx F ar nm sc :=
  ⟨_, hk, hn, T', JM, C, B, W', tp, u', hX, hN.mono (by omega), hT, rfl⟩
theorem stay (hT : IT j T W u) (hKj : K ≤ j) (hk : kx ≤ 37) (hn : nx ≤ 1918) (hX : XQ M h T (isrt JM) C B W (ni tp) (nI u)) (hN : NY ar nm sc (K + 1) (lk T) JM C B W tp (nI u)) : PO j h M kx nx (sm phT T) ar nm sc :=
  move hKj hX hN hT.up (by omega) (by omega)
theorem okT_new {x : Int32} : okT (newT x) := ⟨Nat.zero_le _, (fun j w hw => by cases hw), (fun h => by cases h)⟩
theorem IT_add {x : Int32} {T1 : List Th} {i : Nat} {t : Th} (hT : IT j T W u) (hA : Add T x T1 i t) : IT (j + 1) T1 W u ∧ sm phT T1 = sm phT T ∧ okT t ∧ (lent t = true → ((u + 1 : Nat) : Int) ≤ t.2.2.2.1.toInt) ∧ sm (fun t : Th => t.2.1.length) T1 = sm (fun t : Th => t.2.1.length) T ∧ LK (lk T) T1 ∧ T1[i]? = some t ∧ t.1 = x ∧ lk T x = t := by
  obtain ⟨h1, h2, h3, h4, h5⟩ := id hT
  obtain ⟨l1, l2, l3, l4⟩ := LK.add (f := lk T) ⟨rfl, h1⟩ hA
  obtain ⟨a1, ⟨a2, rfl⟩ | ⟨a2, rfl, rfl, rfl⟩⟩ := hA
  · exact ⟨hT.up, rfl, (h4 i t a1).1, (h4 i t a1).2, rfl, l1, l2, l3, l4⟩
  · have s1 : sm phT (T ++ [newT x]) = sm phT T := sm_app
    have s2 : sm (fun t : Th => t.2.1.length) (T ++ [newT x]) = sm (fun t : Th => t.2.1.length) T := sm_app
    refine ⟨⟨l1.2, by rw [List.length_append]; show T.length + 1 ≤ _; omega, by omega, fun k y hy => ?_, by rw [s2]; omega⟩, s1, okT_new, (fun h => by cases h), s2, l1, l2, l3, l4⟩
    by_cases hk : k < T.length
    · rw [List.getElem?_append_left hk] at hy
      exact h4 k y hy
    · rw [List.getElem?_append_right (by omega)] at hy
      have hz : k - T.length < 1 := (List.getElem?_eq_some_iff.mp hy).1
      have hz0 : k - T.length = 0 := by omega
      rw [hz0] at hy
      cases hy
      exact ⟨okT_new, (fun h => by cases h)⟩
theorem IT_up {x : Int32} {T1 : List Th} {i : Nat} {t t' : Th} {W' : List Int32} (hT : IT j T W u) (hA : Add T x T1 i t) (h1 : t'.1 = t.1) (hok : okT t') (hun : lent t' = true → ((u + 1 : Nat) : Int) ≤ t'.2.2.2.1.toInt) (hr : W'.length + t'.2.1.length ≤ W.length + t.2.1.length + 1) : IT (j + 1) (T1.set i t') W' u ∧ sm phT (T1.set i t') + phT t = sm phT T + phT t' ∧ lk (T1.set i t') = fU (lk T) x t' := by
  obtain ⟨⟨b1, b2, b3, b4, b5⟩, e1, e2, e3, e4, e5, e6, e7, e8⟩ := IT_add hT hA
  have c1 := hT.2.2.2.2
  have s1 := sm_set (f := phT) (y := t') e6
  have s2 := sm_set (f := fun t : Th => t.2.1.length) (y := t') e6
  have hil := (List.getElem?_eq_some_iff.mp e6).1
  have hL := e5.set e6 h1
  rw [e7] at hL
  refine ⟨⟨hL.2, by rw [List.length_set]; exact b2, b3, fun k y hy => ?_, by omega⟩, by omega, hL.1.symm⟩
  by_cases hk : i = k
  · subst hk
    rw [List.getElem?_set_self hil] at hy
    cases hy
    exact ⟨hok, hun⟩
  · rw [List.getElem?_set_ne hk] at hy
    exact b4 k y hy
theorem phT_b {t : Th} : t.2.1.length ≤ phT t ∧ phT t ≤ t.2.1.length + 1 := by
  unfold phT
  split <;> omega
theorem until_b {tk : Int32} (hu : u ≤ 40000) (h1 : 1 ≤ tk) (h2 : tk ≤ 100) : ((u + 1 : Nat) : Int) ≤ (nI u + tk).toInt ∧ 0 ≤ (nI u + tk).toInt ∧ (nI u + tk).toInt ≤ 100000 := by
  have a1 : (1 : Int32).toInt ≤ tk.toInt := Int32.le_iff_toInt_le.mp h1
  have a2 : tk.toInt ≤ (100 : Int32).toInt := Int32.le_iff_toInt_le.mp h2
  have a3 : (nI u).toInt = (u : Int) := nI_toInt (by omega)
  rw [show (1 : Int32).toInt = 1 from rfl] at a1
  rw [show (100 : Int32).toInt = 100 from rfl] at a2
  rw [addT (by omega) (by omega), a3]
  omega
theorem IT.u4 (hT : IT j T W u) (hj : j < 512) : u ≤ 40000 := by have := hT.2.2.1; omega
theorem lent_cc {t : Th} {c : Int32} (h1 : t.2.2.1 = c) (h0 : 0 ≤ c) : lent t = true := by
  unfold lent
  rw [h1, bne_iff_ne]
  intro e
  rw [e] at h0
  exact absurd h0 (by decide)
end OP
