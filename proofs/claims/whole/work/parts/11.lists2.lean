section AL2
variable {κ : Nat × Nat} {d : Nat} {M : Mm} {a : Nat} {xs : List Nat}
theorem nI_lt0 {j : Nat} (h : j ≤ 100000) : ¬ nI j < 0 := nI_pos (by omega)
theorem nI_cl {j : Nat} (h : j ≤ 100000) : (nI j).toNatClampNeg = j := nI_clamp (by omega)
theorem al_isEmpty (hM : M a = some (eL xs)) (hlen : xs.length ≤ 100000) : G κ m_AL_isEmpty d M 0 [some (.ref a)] [] 0 0 (fun v M' => v = some (.int (if xs = [] then 1 else 0)) ∧ M' = M) := by
  refine g_open hM (fun mc hnil => ?_) (fun mc b cap f hb hba hbz hcap hc1 hf => ?_)
  · skip
    refine g_seq s_AL_isEmpty_0 rfl ?_
    refine g_get f_AL_48 d_AL_isEmpty_1 (up_s) rfl ?_
    subst hnil
    refine g_closeE (a := a) (mc := mc) M up_s (fun q => ?_) ?_
    · by_cases hq : q = a <;> simp [up, hq, hM]
    refine g_if_ne (tgt := 11) d_AL_isEmpty_4 (by decide) (fun hc => absurd hc (fun h => h rfl)) (fun hc => ?_)
    refine g_seq s_AL_isEmpty_7 rfl ?_
    exact g_zret rfl rfl d_AL_isEmpty_12 (⟨rfl, rfl⟩)
  · skip
    refine g_seq s_AL_isEmpty_0 rfl ?_
    refine g_get f_AL_48 d_AL_isEmpty_1 (by rw [up_n hba.symm]; exact up_s) rfl ?_
    refine g_shut (a := a) (b := b) (mc := mc) M (by rw [up_n hba.symm]; exact up_s) up_s hcap hc1 hf hM hb (fun q hq => ?_) ?_
    · by_cases hqb : q = b
      · rw [hqb]; exact Or.inr hb
      · exact Or.inl (by rw [up_n hqb, up_n hq])
    refine g_if_ne (tgt := 11) d_AL_isEmpty_4 (by decide) (fun h => ?_) (fun h => ?_)
    · skip
      refine g_seq s_AL_isEmpty_11 rfl ?_
      have hne : ¬ xs = [] := fun e => h (by rw [e]; rfl)
      exact g_zret rfl rfl d_AL_isEmpty_12 (⟨by rw [if_neg hne], rfl⟩)
    · skip
      refine g_seq s_AL_isEmpty_7 rfl ?_
      have hne : xs = [] := by
        cases xs with
        | nil => rfl
        | cons x l => exact absurd h (nI_ne0 (by simp) (by omega))
      exact g_zret rfl rfl d_AL_isEmpty_12 (⟨by rw [if_pos hne], rfl⟩)
theorem prec_checkIndex {x y : Int32} (h0 : ¬ x < 0) (h1 : x < y) : G κ m_Prec_checkIndex d M 0 [some (.int x), some (.int y), some .null] [] 0 0 (fun v M' => v = some (.int x) ∧ M' = M) := by
  refine g_seq s_Prec_checkIndex_0 rfl ?_
  refine g_if_lt (tgt := 9) d_Prec_checkIndex_1 (by decide) (fun hc => absurd hc (h0)) (fun hc => ?_)
  refine g_seq s_Prec_checkIndex_4 rfl ?_
  refine g_icmp_lt (tgt := 16) d_Prec_checkIndex_6 (by decide) (fun hc => ?_) (fun hc => absurd hc (fun h => h h1))
  refine g_seq s_Prec_checkIndex_16 rfl ?_
  exact g_iret rfl d_Prec_checkIndex_17 (⟨rfl, rfl⟩)
theorem obs_checkIndex {x y : Int32} (h0 : ¬ x < 0) (h1 : x < y) : G κ m_Obs_checkIndex (d + 1) M 0 [some (.int x), some (.int y)] [] 0 0 (fun v M' => v = some (.int x) ∧ M' = M) := by
  refine g_seq s_Obs_checkIndex_0 rfl ?_
  refine g_invS  l_Obs_105 d_Obs_checkIndex_3 rfl ⟨rfl, Nat.le_of_ble_eq_true rfl, Nat.le_of_ble_eq_true rfl⟩ (prec_checkIndex h0 h1) (Nat.le_of_eq (Nat.zero_add _)) (Nat.le_of_eq (Nat.zero_add _)) ?_
  rintro v M' ⟨rfl, rfl⟩
  exact g_iret rfl d_Obs_checkIndex_6 (⟨rfl, rfl⟩)
theorem al_elementData {b cap j : Nat} {f : Nat → Option Nat} {e1 e3 : Value} (hM : M a = some (eO 8 [e1, .ref b, e3])) (hMb : M b = some (aR sOb cap f)) (hj : j < cap) (hj2 : j ≤ 100000) : G κ m_AL_elementData d M 0 [some (.ref a), some (.int (nI j))] [] 0 0 (fun v M' => v = some (va_rf (f j)) ∧ M' = M) := by
  refine g_seq s_AL_elementData_0 rfl ?_
  refine g_get f_AL_9 d_AL_elementData_1 (hM) rfl ?_
  refine g_seq s_AL_elementData_4 rfl ?_
  refine g_aald d_AL_elementData_5 hMb (by unfold vp_in; rw [nI_cl hj2]; exact fun h => h.elim (nI_lt0 hj2) (fun h => by omega)) ?_
  rw [nI_cl hj2]
  cases f j with
  | none =>
    exact g_aretN rfl (by first | exact Or.inl ⟨_, rfl⟩ | exact Or.inr ⟨_, rfl⟩) d_AL_elementData_6 (⟨rfl, rfl⟩)
  | some y =>
    exact g_aret rfl (by first | exact Or.inl ⟨_, rfl⟩ | exact Or.inr ⟨_, rfl⟩) d_AL_elementData_6 (⟨rfl, rfl⟩)
theorem al_get {j y : Nat} (hM : M a = some (eL xs)) (hj : xs[j]? = some y) (hlen : xs.length ≤ 100000) : G κ m_AL_get (d + 2) M 0 [some (.ref a), some (.int (nI j))] [] 0 0 (fun v M' => v = some (.ref y) ∧ M' = M) := by
  have hjl : j < xs.length := (List.getElem?_eq_some_iff.mp hj).1
  refine g_open hM (fun mc hnil => ?_) (fun mc b cap f hb hba hbz hcap hc1 hf => ?_)
  · subst hnil
    simp at hjl
  · have hA : up (up M a (eO 8 [.int mc, .ref b, .int (nI xs.length)])) b (aR sOb cap f) a = some (eO 8 [.int mc, .ref b, .int (nI xs.length)]) := by rw [up_n hba.symm]; exact up_s
    refine g_seq s_AL_get_0 rfl ?_
    refine g_get f_AL_48 d_AL_get_2 (hA) rfl ?_
    refine g_invS  l_AL_118 d_AL_get_5 rfl ⟨rfl, Nat.le_of_ble_eq_true rfl, Nat.le_of_ble_eq_true rfl⟩ (obs_checkIndex (nI_lt0 (by omega)) (nI_lt hjl (by omega))) (Nat.le_of_eq (Nat.zero_add _)) (Nat.le_of_eq (Nat.zero_add _)) ?_
    rintro v M' ⟨rfl, rfl⟩
    refine g_seq s_AL_get_8 rfl ?_
    refine g_invV  l_AL_123 d_AL_get_11 rfl ⟨rfl, Nat.le_of_ble_eq_true rfl, Nat.le_of_ble_eq_true rfl⟩ (hA) (al_elementData hA up_s (by omega) (by omega)) (Nat.le_of_eq (Nat.zero_add _)) (Nat.le_of_eq (Nat.zero_add _)) ?_
    rintro v M' ⟨rfl, rfl⟩
    rw [hf j hjl, hj]
    refine g_shut (a := a) (b := b) (mc := mc) M hA up_s hcap hc1 hf hM hb (fun q hq => ?_) ?_
    · by_cases hqb : q = b
      · rw [hqb]; exact Or.inr hb
      · exact Or.inl (by rw [up_n hqb, up_n hq])
    exact g_aret rfl (by first | exact Or.inl ⟨_, rfl⟩ | exact Or.inr ⟨_, rfl⟩) d_AL_get_14 (⟨rfl, rfl⟩)
end AL2
