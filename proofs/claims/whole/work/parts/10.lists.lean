section GC
variable {κ : Nat × Nat} {μ ν : MD} {d : Nat} {M : Mm} {pc : Nat} {lv : LV} {st rest : List Value} {k n : Nat} {Q : Option Value → Mm → Prop}
theorem g_deep {d' : Nat} (h : G κ μ d M pc lv st k n Q) (hd : d ≤ d') : G κ μ d' M pc lv st k n Q := by
  intro p l e R s m args below meth c D A H locs cells slots ls C hS hM0 hl
  obtain ⟨hx, hb, hr, hml, hown, hts, hnw, hlk, hnm, hdf, hdl, hkc, hks, hA, hE0⟩ := C
  exact h p l e R s m args below meth c D A H locs cells slots ls ⟨hx, hb, hr, hml, hown, hts, hnw, hlk, hnm, by omega, by omega, hkc, hks, hA, hE0⟩ hS hM0 hl
/-- a list is shut, and what is no more needed is forgotten -/
theorem g_shut {a b cap : Nat} {mc : Int32} {xs : List Nat} {f : Nat → Option Nat} (M' : Mm) (hM : M a = some (eO 8 [.int mc, .ref b, .int (nI xs.length)])) (hMb : M b = some (aR sOb cap f)) (hcap : xs.length ≤ cap) (hc1 : cap ≤ 100000) (hf : ∀ i, i < xs.length → f i = xs[i]?)
    (hM1 : M' a = some (eL xs)) (hM2 : M' b = none) (hM3 : ∀ q, q ≠ a → M' q = M q ∨ M' q = none) (kk : G κ μ d M' pc lv st k n Q) : G κ μ d M pc lv st k n Q := by
  intro p l e R s m args below meth c D A H locs cells slots ls C hS hM0 hl
  obtain ⟨ws, tys, bk, hK, hP, hD, hz, hEn⟩ := id hM0
  refine kk p l e R s m args below meth c D A H locs cells slots ls C hS ⟨ws, tys, va_up bk a b, hK, hP, hD, hz, fun q e h => ?_⟩ hl
  have ha := hEn a _ hM
  obtain ⟨cA, hb1, hb2⟩ := hEn b _ hMb
  have hab : b ≠ a := fun x => by rw [x, hM] at hMb; cases hMb
  have hbz : b ≠ κ.1 := fun x => hz (by rw [← x]; exact mem_A hD hb1)
  have haz : a ≠ κ.1 := fun x => hz (by rw [← x]; exact mem_A hD ha)
  have hbk : ∀ q xs', M q = some (eL xs') → bk q ≠ a ∧ bk q ≠ b := fun q xs' h => ⟨(hEn q _ h).lists haz (by rw [hM]; exact fun h => by cases h), (hEn q _ h).lists hbz (by rw [hMb]; exact fun h => by cases h)⟩
  have hsub : ∀ q e, q ≠ a → M' q = some e → M q = some e := fun q e hq h => by
    rcases hM3 q hq with h1 | h1
    · rw [← h1]; exact h
    · rw [h1] at h; cases h
  by_cases hq : q = a
  · subst hq
    rw [hM1] at h
    cases h
    refine ⟨⟨mc, by rw [va_up_self]; exact ha⟩, Or.inr ⟨by rw [va_up_self]; exact hbz, by rw [va_up_self]; exact hM2, fun q' xs' h3 h4 => ?_, cA, cap, f, by rw [va_up_self]; exact hb1, hb2, hcap, hc1, hf⟩⟩
    rw [va_up_self] at h4
    by_cases hq' : q' = q
    · exact hq'
    · exfalso
      rw [va_up_ne _ _ hq'] at h4
      exact (hbk q' xs' (hsub q' _ hq' h3)).2 h4
  · have h := hsub q e hq h
    have h0 := hEn q e h
    match e, h, h0 with
    | .inl o, h, h0 => exact h0
    | .inr (.inl x), h, h0 => exact h0
    | .inr (.inr ys), h, ⟨⟨mc2, g0⟩, h2⟩ =>
      obtain ⟨hka, hkb⟩ := hbk q ys h
      refine ⟨⟨mc2, by rw [va_up_ne _ _ hq]; exact g0⟩, ?_⟩
      rw [va_up_ne _ _ hq]
      rcases h2 with h2 | ⟨g1, g2, g3, cA2, cap2, f2, g4, g5, g6, g7⟩
      · exact Or.inl h2
      · refine Or.inr ⟨g1, ?_, fun q' xs' h3 h4 => ?_, cA2, cap2, f2, g4, g5, g6, g7⟩
        · rcases hM3 _ hka with h1 | h1
          · rw [h1]; exact g2
          · exact h1
        · by_cases hq' : q' = a
          · rw [hq', va_up_self] at h4
            exact absurd h4.symm hkb
          · rw [va_up_ne _ _ hq'] at h4
            exact g3 q' xs' (hsub q' _ hq' h3) h4
theorem Can.up {E : String} {v a : Nat} {e : EE} (h : Can E M v) (hn : ∀ ci fs, M a ≠ some (eO ci fs)) : Can E (up M a e) v := by
  obtain ⟨ci, fs, q, h1, h2⟩ := h
  refine ⟨ci, fs, q, ?_, h2⟩
  rw [up_n (fun x => hn ci fs (by rw [← x]; exact h1))]
  exact h1
end GC
/-! the JDK's lists -/
section AL
variable {κ : Nat × Nat} {d : Nat} {M : Mm} {a : Nat} {xs : List Nat}
theorem abc_init : G κ m_AbC_init (d + 1) M 0 [some (.ref a)] [] 0 0 (fun v M' => v = none ∧ M' = M) := by
  refine g_seq s_AbC_init_0 rfl ?_
  refine g_objInit l_AbC_1 oi_1 oi_2 d_AbC_init_1 (Nat.le_of_ble_eq_true rfl) ?_
  exact g_vret rfl d_AbC_init_4 (⟨rfl, rfl⟩)
theorem abl_init {mc : Int32} {e2 e3 : Value} (hM : M a = some (eO 8 [.int mc, e2, e3])) : G κ m_AbL_init (d + 2) M 0 [some (.ref a)] [] 0 0 (fun v M' => v = none ∧ M' = up M a (eO 8 [.int 0, e2, e3])) := by
  refine g_seq s_AbL_init_0 rfl ?_
  refine g_invI  l_AbL_1 d_AbL_init_1 rfl ⟨rfl, Nat.le_of_ble_eq_true rfl, Nat.le_of_ble_eq_true rfl⟩ (abc_init) (Nat.le_of_eq (Nat.zero_add _)) (Nat.le_of_eq (Nat.zero_add _)) ?_
  rintro v M' ⟨rfl, rfl⟩
  refine g_seq s_AbL_init_4 rfl ?_
  refine g_put f_AbL_7 d_AbL_init_6 (hM) rfl rfl rfl ?_
  exact g_vret rfl d_AbL_init_9 (⟨rfl, rfl⟩)
theorem al_init {mc : Int32} {e2 : Value} (hM : M a = some (eO 8 [.int mc, e2, .int 0])) : G κ m_AL_init (d + 3) M 0 [some (.ref a)] [] 0 0 (fun v M' => v = none ∧ M' = up M a (eL [])) := by
  refine g_seq s_AL_init_0 rfl ?_
  refine g_invI  l_AL_1 d_AL_init_1 rfl ⟨rfl, Nat.le_of_ble_eq_true rfl, Nat.le_of_ble_eq_true rfl⟩ (abl_init hM) (Nat.le_of_eq (Nat.zero_add _)) (Nat.le_of_eq (Nat.zero_add _)) ?_
  rintro v M' ⟨rfl, rfl⟩
  refine g_seq s_AL_init_4 rfl ?_
  refine g_gets fs_AL_39 d_AL_init_5  ?_
  refine g_put f_AL_9 d_AL_init_8 (up_s) rfl rfl rfl ?_
  refine g_closeE (a := a) (mc := 0) (up M a (eL [])) up_s (fun q => ?_) ?_
  · by_cases hq : q = a <;> simp [up, hq]
  exact g_vret rfl d_AL_init_11 (⟨rfl, rfl⟩)
theorem al_size (hM : M a = some (eL xs)) : G κ m_AL_size d M 0 [some (.ref a)] [] 0 0 (fun v M' => v = some (.int (nI xs.length)) ∧ M' = M) := by
  refine g_open hM (fun mc hnil => ?_) (fun mc b cap f hb hba hbz hcap hc1 hf => ?_)
  · skip
    refine g_seq s_AL_size_0 rfl ?_
    refine g_get f_AL_48 d_AL_size_1 (up_s) rfl ?_
    subst hnil
    refine g_closeE (a := a) (mc := mc) M up_s (fun q => ?_) ?_
    · by_cases hq : q = a <;> simp [up, hq, hM]
    exact g_iret rfl d_AL_size_4 (⟨rfl, rfl⟩)
  · skip
    refine g_seq s_AL_size_0 rfl ?_
    refine g_get f_AL_48 d_AL_size_1 (by rw [up_n hba.symm]; exact up_s) rfl ?_
    refine g_shut (a := a) (b := b) (mc := mc) M (by rw [up_n hba.symm]; exact up_s) up_s hcap hc1 hf hM hb (fun q hq => ?_) ?_
    · by_cases hqb : q = b
      · rw [hqb]; exact Or.inr hb
      · exact Or.inl (by rw [up_n hqb, up_n hq])
    exact g_iret rfl d_AL_size_4 (⟨rfl, rfl⟩)
end AL
