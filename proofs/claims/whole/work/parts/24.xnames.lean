/-! names -/
def enc (ls : List Nat) : Nat := ls.foldl (fun acc l => acc * 26 + l) 0
def okL (ls : List Nat) : Prop := ∀ l ∈ ls, 1 ≤ l ∧ l ≤ 26
theorem enc_snoc (ls : List Nat) (l : Nat) : enc (ls ++ [l]) = enc ls * 26 + l := by simp [enc]
theorem okL_snoc {ls : List Nat} {l : Nat} : okL (ls ++ [l]) ↔ okL ls ∧ 1 ≤ l ∧ l ≤ 26 := by
  unfold okL
  constructor
  · intro h
    exact ⟨fun x hx => h x (List.mem_append_left _ hx), h l (List.mem_append_right _ (List.mem_singleton.mpr rfl))⟩
  · rintro ⟨h1, h2⟩ x hx
    rcases List.mem_append.mp hx with h | h
    · exact h1 x h
    · rw [List.mem_singleton.mp h]; exact h2
/-- lists by their last element -/
theorem snocRec {α : Type} {P : List α → Prop} (h0 : P []) (h1 : ∀ l x, P l → P (l ++ [x])) : ∀ l, P l := by
  have : ∀ n (l : List α), l.length = n → P l := by
    intro n
    induction n with
    | zero => intro l hl; rw [List.length_eq_zero_iff.mp hl]; exact h0
    | succ n ih =>
      intro l hl
      have hne : l ≠ [] := fun e => by rw [e] at hl; cases hl
      rw [← List.dropLast_concat_getLast hne]
      exact h1 _ _ (ih _ (by simp [hl]))
  exact fun l => this _ l rfl
theorem enc_lt : ∀ ls : List Nat, okL ls → enc ls < 27 ^ ls.length := by
  refine snocRec ?_ ?_
  · intro _; decide
  · intro l x ih h
    obtain ⟨h1, h2, h3⟩ := okL_snoc.mp h
    have := ih h1
    rw [enc_snoc, List.length_append, List.length_singleton, Nat.pow_succ]
    omega
theorem enc_b {ls : List Nat} (h : okL ls) (h6 : ls.length ≤ 6) : enc ls < 387420489 := Nat.lt_of_lt_of_le (enc_lt ls h) (Nat.pow_le_pow_right (by omega) h6)
theorem enc_0 {ls : List Nat} (h : okL ls) : enc ls = 0 ↔ ls = [] := by
  refine snocRec (P := fun ls => okL ls → (enc ls = 0 ↔ ls = [])) (fun _ => by simp [enc]) (fun l x _ h => ?_) ls h
  obtain ⟨h1, h2, h3⟩ := okL_snoc.mp h
  rw [enc_snoc]
  constructor
  · intro e; omega
  · intro e; simp at e
theorem enc_pre {l : List Nat} {x : Nat} (h : okL (l ++ [x])) (h6 : (l ++ [x]).length ≤ 6) : (nI (enc (l ++ [x])) - 1) / 26 = nI (enc l) := by
  have hb := enc_b h h6
  obtain ⟨h1, h2, h3⟩ := okL_snoc.mp h
  rw [enc_snoc] at hb ⊢
  rw [show (1 : Int32) = nI 1 from rfl, show (26 : Int32) = nI 26 from rfl, pk_sub (by omega), pk_div (by omega) (by decide) (by decide)]
  congr 1
  omega
theorem enc_rem {l : List Nat} {x : Nat} (h : okL (l ++ [x])) (h6 : (l ++ [x]).length ≤ 6) : (97 : Int32) + (nI (enc (l ++ [x])) - 1 - (nI (enc (l ++ [x])) - 1) / 26 * 26) = nI (x + 96) := by
  have hb := enc_b h h6
  obtain ⟨h1, h2, h3⟩ := okL_snoc.mp h
  rw [enc_snoc] at hb ⊢
  rw [show (1 : Int32) = nI 1 from rfl, show (26 : Int32) = nI 26 from rfl, show (97 : Int32) = nI 97 from rfl, pk_sub (by omega), pk_rem (by omega) (by decide) (by decide), nI_add]
  congr 1
  omega
section XN
variable {κ : Nat × Nat} {d : Nat} {M : Mm} {a : Nat}
theorem x_lengthOf {ls : List Nat} (h : okL ls) (h6 : ls.length ≤ 6) : G κ m_LH_lengthOf (d + 1) M 0 [some (.int (nI (enc ls))), none, none] [] 0 0 (fun v M' => v = some (.int (nI ls.length)) ∧ M' = M) := by
  have loop : ∀ l' : List Nat, okL l' → ∀ i, i + l'.length = ls.length → G κ m_LH_lengthOf (d + 1) M 4 [some (.int (nI (enc ls))), some (.int (nI i)), some (.int (nI (enc l')))] [] 0 0 (fun v M' => v = some (.int (nI ls.length)) ∧ M' = M) := by
    refine snocRec ?_ ?_
    · intro _ i hi
      have hi2 : i = ls.length := by simpa using hi
      have fin : G κ m_LH_lengthOf (d + 1) M 25 [some (.int (nI (enc ls))), some (.int (nI i)), some (.int (nI (enc [])))] [] 0 0 (fun v M' => v = some (.int (nI ls.length)) ∧ M' = M) := by
        refine g_seq s_LH_lengthOf_25 rfl ?_
        exact g_iret rfl d_LH_lengthOf_26 (⟨by rw [hi2], rfl⟩)
      refine g_seq s_LH_lengthOf_4 rfl ?_
      refine g_icmp_ge (tgt := 25) d_LH_lengthOf_7 (by decide) (fun h1 => ?_) (fun h1 => ?_)
      · skip
        exact fin
      · skip
        refine g_seq s_LH_lengthOf_10 rfl ?_
        refine g_if_eq (tgt := 25) d_LH_lengthOf_11 (by decide) (fun hbr => ?_) (fun hbr => absurd hbr (fun h => h rfl))
        exact fin
    · intro l x ih hok i hi
      have hi2 : i + l.length + 1 = ls.length := by simpa [Nat.add_assoc] using hi
      have hl6 : (l ++ [x]).length ≤ 6 := by simp; omega
      have hne : ¬ enc (l ++ [x]) = 0 := fun e => by simpa using (enc_0 hok).mp e
      refine g_seq s_LH_lengthOf_4 rfl ?_
      refine g_icmp_ge (tgt := 25) d_LH_lengthOf_7 (by decide) (fun hbr => absurd hbr ((show ¬ nI 6 ≤ nI i from nI_ge (by omega) (by omega)))) (fun hbr => ?_)
      refine g_seq s_LH_lengthOf_10 rfl ?_
      refine g_if_eq (tgt := 25) d_LH_lengthOf_11 (by decide) (fun hbr => absurd hbr (nI_ne0 (by omega) (by have := enc_b hok hl6; omega))) (fun hbr => ?_)
      refine g_seq s_LH_lengthOf_14 rfl ?_
      refine g_invS  l_LH_188 d_LH_lengthOf_15 rfl ⟨rfl, Nat.le_of_ble_eq_true rfl, Nat.le_of_ble_eq_true rfl⟩ (x_withoutLastLetter) (Nat.le_of_eq (Nat.zero_add _)) (Nat.le_of_eq (Nat.zero_add _)) ?_
      rintro v M' ⟨rfl, rfl⟩
      rw [enc_pre hok hl6]
      refine g_seq s_LH_lengthOf_18 rfl ?_
      rw [nI_1]
      exact ih (okL_snoc.mp hok).1 (i + 1) (by omega)
  refine g_seq s_LH_lengthOf_0 rfl ?_
  exact loop ls h 0 (by omega)
end XN
/-! the house -/
abbrev XS : Type := List Th × List Wt × List (Int32 × Int32) × (Nat → List (Int32 × Int32)) × List Int32 × List Nat × Int32
/-- the house's parts -/
def XP (M : Mm) (own : Nat → Nat × Nat) (h aT aJ aC aB aW : Nat) (ts : List Nat) (T : List Th) (J : List Wt) (C : List (Int32 × Int32)) (B : Nat → List (Int32 × Int32)) (W : List Int32) (tp nw : Int32) : Prop :=
  HoC M h aT aJ aC aB aW tp nw ∧ PT M own aT ts T ∧ PJ M own aJ J ∧ PC M own aC C ∧ PB M own aB B ∧ PW M aW W
def XR (M : Mm) (h : Nat) (X : XS) : Prop := ∃ own aT aJ aC aB aW ts, XP M own h aT aJ aC aB aW ts X.1 X.2.1 X.2.2.1 X.2.2.2.1 X.2.2.2.2.1 (nI (enc X.2.2.2.2.2.1)) X.2.2.2.2.2.2
section XH
variable {κ : Nat × Nat} {d : Nat} {M : Mm} {own : Nat → Nat × Nat} {h aT aJ aC aB aW : Nat} {ts : List Nat} {T : List Th} {J : List Wt} {C : List (Int32 × Int32)} {B : Nat → List (Int32 × Int32)} {W : List Int32} {tp : List Nat} {nw : Int32}
theorem XP.house {tp nw tp' nw' : Int32} (hX : XP M own h aT aJ aC aB aW ts T J C B W tp nw) : XP (up M h (eO 0 [.ref aT, .ref aJ, .ref aC, .ref aB, .ref aW, .int tp', .int nw'])) own h aT aJ aC aB aW ts T J C B W tp' nw' := by
  obtain ⟨h1, h2, h3, h4, h5, h6⟩ := hX
  have hK : Kp (fun k q => k = 0 ∧ q = h) M (up M h (eO 0 [.ref aT, .ref aJ, .ref aC, .ref aB, .ref aW, .int tp', .int nw'])) := up_kp h1 ⟨rfl, rfl⟩
  have n : ∀ {k q : Nat}, k ≠ 0 → ¬ (k = 0 ∧ q = h) := fun hk hh => hk hh.1
  exact ⟨up_s, h2.keep hK (fun _ _ => n (by decide)) (fun _ => n (by decide)) (fun _ _ _ => n (by decide)) (fun _ _ => n (by decide)), h3.keep hK (fun _ => n (by decide)) (fun _ _ => n (by decide)), h4.keep hK (fun _ => n (by decide)) (fun _ _ => n (by decide)), h5.keep hK (fun _ => n (by decide)) (fun _ => n (by decide)) (n (by decide)) (fun _ _ _ => n (by decide)), h6.keep hK (n (by decide)) (fun _ => n (by decide))⟩
theorem x_sign {c : Int32} (hX : XR M h (T, J, C, B, W, tp, nw)) (hok : okL tp) (h6 : tp.length ≤ 6) : G κ m_LH_sign (d + 2) M 0 [some (.ref h), some (.int c), none] [] 0 0 (fun v M' => ∃ tp', XR M' h (T, J, C, B, W, tp', nw) ∧
    ((¬ (97 ≤ c ∧ c ≤ 122) ∧ v = some (.int (-1)) ∧ tp' = tp) ∨ ((97 ≤ c ∧ c ≤ 122) ∧ tp.length = 6 ∧ v = some (.int (-3)) ∧ tp' = tp) ∨ (tp.length < 6 ∧ v = some (.int (nI (tp.length + 1))) ∧ ∃ l, 1 ≤ l ∧ l ≤ 26 ∧ c = nI (l + 96) ∧ tp' = tp ++ [l]))) := by
  have hX0 := hX
  obtain ⟨own, aT, aJ, aC, aB, aW, ts, hP⟩ := hX
  have hH := hP.1
  have bad : ¬ (97 ≤ c ∧ c ≤ 122) → G κ m_LH_sign (d + 2) M 12 [some (.ref h), some (.int c), none] [] 0 0 (fun v M' => ∃ tp', XR M' h (T, J, C, B, W, tp', nw) ∧
    ((¬ (97 ≤ c ∧ c ≤ 122) ∧ v = some (.int (-1)) ∧ tp' = tp) ∨ ((97 ≤ c ∧ c ≤ 122) ∧ tp.length = 6 ∧ v = some (.int (-3)) ∧ tp' = tp) ∨ (tp.length < 6 ∧ v = some (.int (nI (tp.length + 1))) ∧ ∃ l, 1 ≤ l ∧ l ≤ 26 ∧ c = nI (l + 96) ∧ tp' = tp ++ [l]))) := by
    intro hb
    refine g_seq s_LH_sign_12 rfl ?_
    exact g_iret rfl d_LH_sign_13 (⟨tp, hX0, Or.inl ⟨hb, rfl, rfl⟩⟩)
  refine g_seq s_LH_sign_0 rfl ?_
  refine g_icmp_lt (tgt := 12) d_LH_sign_3 (by decide) (fun h1 => ?_) (fun h1 => ?_)
  · skip
    exact bad (fun q => absurd h1 (Int32.not_lt.mpr q.1))
  · skip
    refine g_seq s_LH_sign_6 rfl ?_
    refine g_icmp_le (tgt := 14) d_LH_sign_9 (by decide) (fun h2 => ?_) (fun h2 => ?_)
    · skip
      have h97 : 97 ≤ c := Int32.not_lt.mp h1
      refine g_seq s_LH_sign_14 rfl ?_
      refine g_get f_LH_35 d_LH_sign_15 (hH) rfl ?_
      refine g_invS  l_LH_43 d_LH_sign_18 rfl ⟨rfl, Nat.le_of_ble_eq_true rfl, Nat.le_of_ble_eq_true rfl⟩ (x_lengthOf hok h6) (Nat.le_of_eq (Nat.zero_add _)) (Nat.le_of_eq (Nat.zero_add _)) ?_
      rintro v M' ⟨rfl, rfl⟩
      refine g_seq s_LH_sign_21 rfl ?_
      refine g_icmp_lt (tgt := 31) d_LH_sign_25 (by decide) (fun h3 => ?_) (fun h3 => ?_)
      · skip
        have hl6 : tp.length < 6 := by
          rcases Nat.lt_or_ge tp.length 6 with q | q
          · exact q
          · exact absurd h3 (show ¬ nI tp.length < nI 6 from nI_nlt q (by omega))
        obtain ⟨l, hl1, hl2, hl3⟩ : ∃ l, 1 ≤ l ∧ l ≤ 26 ∧ c = nI (l + 96) := by
          obtain ⟨j, hj1, hj2⟩ := nI_of (x := c) (fun q => absurd h97 (Int32.not_le.mpr (Int32.lt_trans q (by decide))))
          rw [hj2] at h97 h2
          have a1 := (nI_leI (a := 97) (by decide) hj1).mp h97
          have a2 := (nI_leI (b := 122) hj1 (by decide)).mp h2
          exact ⟨j - 96, by omega, by omega, by rw [hj2]; congr 1; omega⟩
        have hb := enc_b (okL_snoc.mpr ⟨hok, hl1, hl2⟩) (by simp; omega)
        rw [enc_snoc] at hb
        have he : nI (enc tp) * 26 + (c - 97 + 1) = nI (enc (tp ++ [l])) := by
          rw [hl3, enc_snoc, show (26 : Int32) = nI 26 from rfl, show (97 : Int32) = nI 97 from rfl, show (1 : Int32) = nI 1 from rfl, pk_mul, pk_sub (by omega), nI_add, nI_add]
          congr 1
          omega
        refine g_seq s_LH_sign_31 rfl ?_
        refine g_get f_LH_35 d_LH_sign_33 (hH) rfl ?_
        refine g_seq s_LH_sign_36 rfl ?_
        refine g_put f_LH_35 d_LH_sign_46 (hH) rfl rfl rfl ?_
        rw [he]
        refine g_seq s_LH_sign_49 rfl ?_
        rw [nI_1]
        exact g_iret rfl d_LH_sign_52 (⟨tp ++ [l], ⟨own, aT, aJ, aC, aB, aW, ts, hP.house⟩, Or.inr (Or.inr ⟨hl6, rfl, l, hl1, hl2, hl3, rfl⟩)⟩)
      · skip
        have hl6 : tp.length = 6 := by
          rcases Nat.lt_or_ge tp.length 6 with q | q
          · exact absurd (show nI tp.length < nI 6 from nI_lt q (by omega)) h3
          · omega
        refine g_seq s_LH_sign_28 rfl ?_
        exact g_iret rfl d_LH_sign_30 (⟨tp, hX0, Or.inr (Or.inl ⟨⟨h97, h2⟩, hl6, rfl, rfl⟩)⟩)
    · skip
      exact bad (fun q => h2 q.2)
theorem x_erase (hX : XR M h (T, J, C, B, W, tp, nw)) (hok : okL tp) (h6 : tp.length ≤ 6) : G κ m_LH_erase (d + 2) M 0 [some (.ref h), none] [] 0 0 (fun v M' => XR M' h (T, J, C, B, W, [], nw) ∧ v = some (.int (nI tp.length))) := by
  obtain ⟨own, aT, aJ, aC, aB, aW, ts, hP⟩ := hX
  have hH := hP.1
  refine g_seq s_LH_erase_0 rfl ?_
  refine g_get f_LH_35 d_LH_erase_1 (hH) rfl ?_
  refine g_invS  l_LH_43 d_LH_erase_4 rfl ⟨rfl, Nat.le_of_ble_eq_true rfl, Nat.le_of_ble_eq_true rfl⟩ (x_lengthOf hok h6) (Nat.le_of_eq (Nat.zero_add _)) (Nat.le_of_eq (Nat.zero_add _)) ?_
  rintro v M' ⟨rfl, rfl⟩
  refine g_seq s_LH_erase_7 rfl ?_
  refine g_put f_LH_35 d_LH_erase_10 (hH) rfl rfl rfl ?_
  refine g_seq s_LH_erase_13 rfl ?_
  exact g_iret rfl d_LH_erase_14 (⟨⟨own, aT, aJ, aC, aB, aW, ts, hP.house⟩, rfl⟩)
theorem x_letter {c : Int32} (hX : XR M h (T, J, C, B, W, tp, nw)) (hok : okL tp) (h6 : tp.length ≤ 6) : G κ m_LH_letter (d + 2) M 0 [some (.ref h), some (.int c), none, none, none] [] 0 0 (fun v M' => M' = M ∧ ((∃ j l, c = nI j ∧ tp[j]? = some l ∧ v = some (.int (nI (l + 96)))) ∨ ((∀ j, j < tp.length → c ≠ nI j) ∧ v = some (.int (-2))))) := by
  obtain ⟨own, aT, aJ, aC, aB, aW, ts, hP⟩ := hX
  have hH := hP.1
  have bad : (∀ j, j < tp.length → c ≠ nI j) → G κ m_LH_letter (d + 2) M 17 [some (.ref h), some (.int c), some (.int (nI tp.length)), none, none] [] 0 0 (fun v M' => M' = M ∧ ((∃ j l, c = nI j ∧ tp[j]? = some l ∧ v = some (.int (nI (l + 96)))) ∨ ((∀ j, j < tp.length → c ≠ nI j) ∧ v = some (.int (-2))))) := by
    intro hb
    refine g_seq s_LH_letter_17 rfl ?_
    exact g_iret rfl d_LH_letter_19 (⟨rfl, Or.inr ⟨hb, rfl⟩⟩)
  refine g_seq s_LH_letter_0 rfl ?_
  refine g_get f_LH_35 d_LH_letter_1 (hH) rfl ?_
  refine g_invS  l_LH_43 d_LH_letter_4 rfl ⟨rfl, Nat.le_of_ble_eq_true rfl, Nat.le_of_ble_eq_true rfl⟩ (x_lengthOf hok h6) (Nat.le_of_eq (Nat.zero_add _)) (Nat.le_of_eq (Nat.zero_add _)) ?_
  rintro v M' ⟨rfl, rfl⟩
  refine g_seq s_LH_letter_7 rfl ?_
  refine g_if_lt (tgt := 17) d_LH_letter_9 (by decide) (fun h1 => ?_) (fun h1 => ?_)
  · skip
    exact bad (fun j hj e => by rw [e] at h1; exact nI_lt0 (by omega) h1)
  · skip
    obtain ⟨j, hj1, hj2⟩ := nI_of h1
    subst hj2
    refine g_seq s_LH_letter_12 rfl ?_
    refine g_icmp_lt (tgt := 20) d_LH_letter_14 (by decide) (fun h2 => ?_) (fun h2 => ?_)
    · skip
      have hjl : j < tp.length := (nI_ltI hj1 (by omega)).mp h2
      have hTj := List.getElem?_eq_getElem hjl
      generalize tp[j] = l at hTj
      have loop : ∀ n i, i = j + n → i < tp.length → G κ m_LH_letter (d + 2) M' 30 [some (.ref h), some (.int (nI j)), some (.int (nI tp.length)), some (.int (nI (enc (tp.take (i + 1))))), some (.int (nI i))] [] 0 0 (fun v M'' => M'' = M' ∧ ((∃ j' l, nI j = nI j' ∧ tp[j']? = some l ∧ v = some (.int (nI (l + 96)))) ∨ ((∀ j', j' < tp.length → nI j ≠ nI j') ∧ v = some (.int (-2))))) := by
        intro n
        induction n with
        | zero =>
          intro i hi hil
          have hij : i = j := by omega
          subst hij
          have ht : tp.take (i + 1) = tp.take i ++ [l] := by rw [List.take_add_one, hTj]; rfl
          have hok1 : okL (tp.take i ++ [l]) := by rw [← ht]; exact fun x hx => hok x (List.mem_of_mem_take hx)
          refine g_seq s_LH_letter_30 rfl ?_
          refine g_icmp_le (tgt := 47) d_LH_letter_33 (by decide) (fun hbr => ?_) (fun hbr => absurd hbr (fun h => h (nI_le (Nat.le_refl _) (by omega))))
          refine g_seq s_LH_letter_47 rfl ?_
          refine g_irem d_LH_letter_54 (by decide) ?_
          refine g_seq s_LH_letter_55 rfl ?_
          rw [ht, enc_rem hok1 (by simp; omega)]
          exact g_iret rfl d_LH_letter_56 (⟨rfl, Or.inl ⟨i, l, rfl, hTj, rfl⟩⟩)
        | succ n ih =>
          intro i hi hil
          have hTi := List.getElem?_eq_getElem hil
          have ht : tp.take (i + 1) = tp.take i ++ [tp[i]] := by rw [List.take_add_one, hTi]; rfl
          have hok1 : okL (tp.take i ++ [tp[i]]) := by rw [← ht]; exact fun x hx => hok x (List.mem_of_mem_take hx)
          obtain ⟨i', rfl⟩ : ∃ i', i = i' + 1 := ⟨i - 1, by omega⟩
          have hih := ih i' (by omega) (by omega)
          refine g_seq s_LH_letter_30 rfl ?_
          refine g_icmp_le (tgt := 47) d_LH_letter_33 (by decide) (fun hbr => absurd hbr (nI_ge (by omega) (by omega))) (fun hbr => ?_)
          refine g_seq s_LH_letter_36 rfl ?_
          refine g_invS  l_LH_188 d_LH_letter_37 rfl ⟨rfl, Nat.le_of_ble_eq_true rfl, Nat.le_of_ble_eq_true rfl⟩ (x_withoutLastLetter) (Nat.le_of_eq (Nat.zero_add _)) (Nat.le_of_eq (Nat.zero_add _)) ?_
          rintro v M2 ⟨rfl, rfl⟩
          rw [ht, enc_pre hok1 (by simp; omega)]
          refine g_seq s_LH_letter_40 rfl ?_
          rw [pk_m1]
          exact hih
      refine g_seq s_LH_letter_20 rfl ?_
      refine g_get f_LH_35 d_LH_letter_21 (hH) rfl ?_
      refine g_seq s_LH_letter_24 rfl ?_
      obtain ⟨n, hn⟩ : ∃ n, tp.length = n + 1 := ⟨tp.length - 1, by omega⟩
      have hlp := loop (n - j) n (by omega) (by omega)
      rw [← hn, List.take_length] at hlp
      have e1 : nI tp.length - 1 = nI n := by rw [hn]; exact nI_pred n
      rw [e1]
      exact hlp
    · skip
      exact bad (fun j' hj' e => h2 (by rw [e]; exact nI_lt hj' (show tp.length < 2 ^ 31 by omega)))
end XH
