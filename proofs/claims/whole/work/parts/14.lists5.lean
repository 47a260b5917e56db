section AL5
variable {κ : Nat × Nat} {d : Nat} {M : Mm} {a : Nat} {xs : List Nat}
/-- an open list, and the memory in which it was shut -/
def LQ (κ : Nat × Nat) (M Mo : Mm) (a b : Nat) (mc : Int32) (xs : List Nat) (cap : Nat) (f : Nat → Option Nat) : Prop := LO κ Mo a b mc xs cap f ∧ (∀ q, q ≠ a → Mo q = M q ∨ M q = none) ∧ (b ≠ κ.1 → M b = none) ∧ M a = some (eL xs)
theorem g_openQ {μ : MD} {pc : Nat} {lv : LV} {st : List Value} {k n : Nat} {Q : Option Value → Mm → Prop} (hM : M a = some (eL xs)) (kk : ∀ Mo b mc cap f, LQ κ M Mo a b mc xs cap f → G κ μ d Mo pc lv st k n Q) : G κ μ d M pc lv st k n Q := by
  refine g_open hM (fun mc hnil => ?_) (fun mc b cap f hb hba hbz hcap hc1 hf => ?_)
  · exact kk _ κ.1 mc 0 (fun _ => none) ⟨⟨up_s, Or.inl ⟨rfl, hnil, rfl⟩, by rw [hnil]; exact Nat.le_refl _, by omega, fun i hi => by rw [hnil] at hi; exact absurd hi (Nat.not_lt_zero _)⟩, fun q hq => Or.inl (up_n hq), fun h => absurd rfl h, hM⟩
  · refine kk _ b mc cap f ⟨⟨by rw [up_n hba.symm]; exact up_s, Or.inr ⟨hbz, up_s⟩, hcap, hc1, hf⟩, fun q hq => ?_, fun _ => hb, hM⟩
    by_cases hqb : q = b
    · rw [hqb]; exact Or.inr hb
    · exact Or.inl (by rw [up_n hqb, up_n hq])
theorem LQ.can {Mo : Mm} {b cap x : Nat} {mc : Int32} {f : Nat → Option Nat} (h : LQ κ M Mo a b mc xs cap f) (hx : Can sOb M x) : Can sOb Mo x := by
  obtain ⟨ci, fs, q, h1, h2⟩ := hx
  refine ⟨ci, fs, q, ?_, h2⟩
  have hxa : x ≠ a := fun e => by rw [e, h.2.2.2] at h1; cases h1
  rcases h.2.1 x hxa with h3 | h3
  · rw [h3]; exact h1
  · rw [h3] at h1; cases h1
theorem g_shutQ {μ : MD} {pc : Nat} {lv : LV} {st : List Value} {k n : Nat} {Q : Option Value → Mm → Prop} {Mo M2 : Mm} {b b' cap cap' : Nat} {mc mc' : Int32} {f f' : Nat → Option Nat} {ys : List Nat} (h : LQ κ M Mo a b mc xs cap f) (h1 : M2 a = some (eO 8 [.int mc', .ref b', .int (nI ys.length)])) (h2 : M2 b' = some (aR sOb cap' f')) (h3 : ys.length ≤ cap') (h4 : cap' ≤ 100000) (h5 : ∀ i, i < ys.length → f' i = ys[i]?)
    (h6 : b' = b ∨ Mo b' = none) (h7 : b' ≠ κ.1) (h8 : ∀ q, q ≠ a → q ≠ b' → M2 q = Mo q) (kk : G κ μ d (up M a (eL ys)) pc lv st k n Q) : G κ μ d M2 pc lv st k n Q := by
  obtain ⟨-, g2, g3, g4⟩ := h
  have hba : b' ≠ a := fun e => by rw [e, h1] at h2; cases h2
  have hbn : M b' = none := by
    rcases h6 with h6 | h6
    · rw [h6]; exact g3 (by rw [← h6]; exact h7)
    · rcases g2 b' hba with h9 | h9
      · rw [← h9]; exact h6
      · exact h9
  refine g_shut (a := a) (b := b') (mc := mc') (up M a (eL ys)) h1 h2 h3 h4 h5 up_s (by rw [up_n hba]; exact hbn) (fun q hq => ?_) kk
  rw [up_n hq]
  by_cases hqb : q = b'
  · rw [hqb]; exact Or.inr hbn
  · rw [h8 q hq hqb]
    rcases g2 q hq with h9 | h9
    · exact Or.inl h9.symm
    · exact Or.inr h9
theorem LO.bump {b cap : Nat} {mc mc' : Int32} {f : Nat → Option Nat} (h : LO κ M a b mc xs cap f) : LO κ (up M a (eO 8 [.int mc', .ref b, .int (nI xs.length)])) a b mc' xs cap f := by
  obtain ⟨h1, h2, h3⟩ := h
  refine ⟨up_s, ?_, h3⟩
  rcases h2 with h2 | ⟨h2, h4⟩
  · exact Or.inl h2
  · exact Or.inr ⟨h2, by rw [up_n (fun e => by rw [e, h1] at h4; cases h4)]; exact h4⟩
theorem al_add {x : Nat} (hM : M a = some (eL xs)) (hlen : xs.length ≤ 10000) (hx : Can sOb M x) (hel : ∀ y ∈ xs, Can sOb M y) : G κ m_AL_add (d + 6) M 0 [some (.ref a), some (.ref x)] [] 1 (2 * xs.length + 10) (fun v M' => v = some (.int 1) ∧ M' = up M a (eL (xs ++ [x]))) := by
  refine g_openQ hM (fun Mo b mc cap f h => ?_)
  have hMo := h.1.1
  refine g_seq s_AL_add_0 rfl ?_
  refine g_get f_AL_63 d_AL_add_2 (hMo) rfl ?_
  refine g_seq s_AL_add_5 rfl ?_
  refine g_put f_AL_63 d_AL_add_7 (hMo) rfl rfl rfl ?_
  refine g_seq s_AL_add_10 rfl ?_
  refine g_get f_AL_9 d_AL_add_13 (up_s) rfl ?_
  refine g_seq s_AL_add_16 rfl ?_
  refine g_get f_AL_48 d_AL_add_17 (up_s) rfl ?_
  refine g_invV (k2 := 0) (n2 := 0) l_AL_131 d_AL_add_20 rfl ⟨rfl, Nat.le_of_ble_eq_true rfl, Nat.le_of_ble_eq_true rfl⟩ (up_s) (al_add3 h.1.bump hlen (can_upn (h.can hx) ((h.can hx).nel hMo)) (fun y hy => can_upn (h.can (hel y hy)) ((h.can (hel y hy)).nel hMo))) (by first | omega | (simp; omega)) (by first | omega | (simp; omega)) ?_
  rintro v M' ⟨rfl, b', cap', f', h1, h2, h3, h4, h5, h6, h7, h8⟩
  have hba : b' ≠ a := fun e => by rw [e, h4] at h5; cases h5
  have hl1 : (xs ++ [x]).length = xs.length + 1 := by simp
  refine g_shutQ (mc' := mc + 1) (ys := xs ++ [x]) h (by rw [h4, hl1]) h5 (by simpa using h6) h7 (by simpa using h8) (h1.imp id (fun e => by rw [up_n hba] at e; exact e)) h2 (fun q hq hqb => by rw [h3 q hq hqb, up_n hq]) ?_
  refine g_seq s_AL_add_23 rfl ?_
  exact g_zret rfl rfl d_AL_add_24 (⟨rfl, rfl⟩)
theorem al_fastRemove {b cap j : Nat} {mc : Int32} {f : Nat → Option Nat} (hMa : M a = some (eO 8 [.int mc, .ref b, .int (nI xs.length)])) (hMb : M b = some (aR sOb cap f)) (hcap : xs.length ≤ cap) (hf : ∀ i, i < xs.length → f i = xs[i]?) (hj : j < xs.length) (hlen : xs.length ≤ 100000) (hel : ∀ y ∈ xs, Can sOb M y) : G κ m_AL_fastRemove (d + 1) M 0 [some (.ref a), some (.ref b), some (.int (nI j)), none] [] 0 0
    (fun v M' => v = none ∧ ∃ f', M' a = some (eO 8 [.int (mc + 1), .ref b, .int (nI (xs.eraseIdx j).length)]) ∧ M' b = some (aR sOb cap f') ∧ (∀ q, q ≠ a → q ≠ b → M' q = M q) ∧ ∀ i, i < (xs.eraseIdx j).length → f' i = (xs.eraseIdx j)[i]?) := by
  have hba : b ≠ a := fun e => by rw [e, hMa] at hMb; cases hMb
  have hel2 : (xs.eraseIdx j).length = xs.length - 1 := by rw [List.length_eraseIdx_of_lt hj]
  have e1 : nI xs.length - 1 = nI (xs.length - 1) := pk_sub (b := 1) (by omega)
  have tail : ∀ (M1 : Mm) (f1 : Nat → Option Nat), M1 a = some (eO 8 [.int (mc + 1), .ref b, .int (nI xs.length)]) → M1 b = some (aR sOb cap f1) → (∀ q, q ≠ a → q ≠ b → M1 q = M q) → (∀ i, i < xs.length - 1 → f1 i = (xs.eraseIdx j)[i]?) →
      G κ m_AL_fastRemove (d + 1) M1 34 [some (.ref a), some (.ref b), some (.int (nI j)), some (.int (nI (xs.length - 1)))] [] 0 0
    (fun v M' => v = none ∧ ∃ f', M' a = some (eO 8 [.int (mc + 1), .ref b, .int (nI (xs.eraseIdx j).length)]) ∧ M' b = some (aR sOb cap f') ∧ (∀ q, q ≠ a → q ≠ b → M' q = M q) ∧ ∀ i, i < (xs.eraseIdx j).length → f' i = (xs.eraseIdx j)[i]?) := by
    intro M1 f1 h1 h2 h3 h4
    refine g_seq s_AL_fastRemove_34 rfl ?_
    refine g_put f_AL_48 d_AL_fastRemove_38 (h1) rfl rfl rfl ?_
    refine g_seq s_AL_fastRemove_41 rfl ?_
    refine g_aastN d_AL_fastRemove_42 (by rw [up_n hba]; exact h2) (vp_nI (by omega) (by omega)) ?_
    rw [nI_cl (by omega)]
    exact g_vret rfl d_AL_fastRemove_43 (⟨rfl, _, by rw [up_n hba.symm, up_s, hel2], up_s, fun q hq hqb => by rw [up_n hqb, up_n hq]; exact h3 q hq hqb, fun i hi => by rw [va_up_ne _ _ (by omega)]; exact h4 i (by omega)⟩)
  refine g_seq s_AL_fastRemove_0 rfl ?_
  refine g_get f_AL_63 d_AL_fastRemove_2 (hMa) rfl ?_
  refine g_seq s_AL_fastRemove_5 rfl ?_
  refine g_put f_AL_63 d_AL_fastRemove_7 (hMa) rfl rfl rfl ?_
  refine g_seq s_AL_fastRemove_10 rfl ?_
  refine g_get f_AL_48 d_AL_fastRemove_11 (up_s) rfl ?_
  refine g_seq s_AL_fastRemove_14 rfl ?_
  rw [e1]
  refine g_icmp_le (tgt := 34) d_AL_fastRemove_19 (by decide) (fun hc => ?_) (fun hc => ?_)
  · skip
    have hjl : ¬ (j < xs.length - 1) := fun e => absurd hc (nI_ge e (by omega))
    refine tail _ f up_s (by rw [up_n hba]; exact hMb) (fun q hq hqb => up_n hq) (fun i hi => ?_)
    rw [hf i (by omega), List.getElem?_eraseIdx, if_pos (by omega)]
  · skip
    have hjl : j < xs.length - 1 := by
      rcases Nat.lt_or_ge j (xs.length - 1) with h | h
      · exact h
      · exact absurd (nI_le h (by omega)) hc
    refine g_seq s_AL_fastRemove_22 rfl ?_
    rw [nI_1, pk_sub (by omega)]
    refine g_acopy (a := b) (b := b) (na := cap) (nb := cap) (f := f) (g := f) l_AL_112 ac_1 ac_2 ac_3 d_AL_fastRemove_31 (by rw [up_n hba]; exact hMb) (by rw [up_n hba]; exact hMb) (nI_lt0 (by omega)) (nI_lt0 (by omega)) (nI_lt0 (by omega)) (by rw [nI_cl (by omega), nI_cl (by omega)]; omega) (by rw [nI_cl (by omega), nI_cl (by omega)]; omega) (fun i hi y hy => ?_) (Nat.le_of_ble_eq_true rfl) ?_
    · rw [nI_cl (by omega)] at hi hy
      rw [hf _ (by omega)] at hy
      have hcn := hel y (List.mem_of_getElem? hy)
      exact can_upn hcn (hcn.nel hMa)
    · rw [nI_cl (by omega), nI_cl (by omega), nI_cl (by omega)]
      refine tail _ _ (by rw [up_n hba.symm]; exact up_s) up_s (fun q hq hqb => by rw [up_n hqb, up_n hq]) (fun i hi => ?_)
      rw [List.getElem?_eraseIdx]
      by_cases hij : i < j
      · rw [if_pos hij, pk_cpy_out (Or.inl hij)]; exact hf i (by omega)
      · rw [if_neg hij, pk_cpy_in (by omega) (by omega), ← hf (i + 1) (by omega)]; congr 1; omega
theorem al_remove {j y : Nat} (hM : M a = some (eL xs)) (hj : xs[j]? = some y) (hlen : xs.length ≤ 100000) (hel : ∀ y ∈ xs, Can sOb M y) : G κ m_AL_remove (d + 2) M 0 [some (.ref a), some (.int (nI j)), none, none] [] 0 0 (fun v M' => v = some (.ref y) ∧ M' = up M a (eL (xs.eraseIdx j))) := by
  have hjl : j < xs.length := (List.getElem?_eq_some_iff.mp hj).1
  refine g_openQ hM (fun Mo b mc cap f h => ?_)
  obtain ⟨hMo, hb, hcap, hc1, hf⟩ := id h.1
  rcases hb with ⟨-, hnil, -⟩ | ⟨hbz, hMb⟩
  · rw [hnil] at hjl; exact absurd hjl (Nat.not_lt_zero _)
  refine g_seq s_AL_remove_0 rfl ?_
  refine g_get f_AL_48 d_AL_remove_2 (hMo) rfl ?_
  refine g_invS  l_AL_118 d_AL_remove_5 rfl ⟨rfl, Nat.le_of_ble_eq_true rfl, Nat.le_of_ble_eq_true rfl⟩ (obs_checkIndex (nI_lt0 (by omega)) (nI_lt hjl (by omega))) (Nat.le_of_eq (Nat.zero_add _)) (Nat.le_of_eq (Nat.zero_add _)) ?_
  rintro v M' ⟨rfl, rfl⟩
  refine g_seq s_AL_remove_8 rfl ?_
  refine g_get f_AL_9 d_AL_remove_10 (hMo) rfl ?_
  refine g_seq s_AL_remove_13 rfl ?_
  refine g_aald d_AL_remove_16 hMb (vp_nI (by omega) (by omega)) ?_
  rw [nI_cl (by omega), hf j hjl, hj]
  refine g_seq s_AL_remove_17 rfl ?_
  refine g_invV  l_AL_144 d_AL_remove_21 rfl ⟨rfl, Nat.le_of_ble_eq_true rfl, Nat.le_of_ble_eq_true rfl⟩ (hMo) (al_fastRemove hMo hMb hcap hf hjl hlen (fun y hy => h.can (hel y hy))) (Nat.le_of_eq (Nat.zero_add _)) (Nat.le_of_eq (Nat.zero_add _)) ?_
  rintro v M' ⟨rfl, f', h1, h2, h3, h4⟩
  refine g_shutQ h h1 h2 (by rw [List.length_eraseIdx_of_lt hjl]; omega) hc1 h4 (Or.inl rfl) hbz h3 ?_
  refine g_seq s_AL_remove_24 rfl ?_
  exact g_aret rfl (by first | exact Or.inl ⟨_, rfl⟩ | exact Or.inr ⟨_, rfl⟩) d_AL_remove_25 (⟨rfl, rfl⟩)
end AL5
