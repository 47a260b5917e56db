section AL6
variable {κ : Nat × Nat} {d : Nat} {M : Mm} {a : Nat} {xs : List Nat}
theorem al_rangeCheckForAdd {j : Nat} {e1 e2 : Value} (hM : M a = some (eO 8 [e1, e2, .int (nI xs.length)])) (hj : j ≤ xs.length) (hlen : xs.length ≤ 100000) : G κ m_AL_rangeCheckForAdd d M 0 [some (.ref a), some (.int (nI j))] [] 0 0 (fun v M' => v = none ∧ M' = M) := by
  refine g_seq s_AL_rangeCheckForAdd_0 rfl ?_
  refine g_get f_AL_48 d_AL_rangeCheckForAdd_2 (hM) rfl ?_
  refine g_icmp_gt (tgt := 12) d_AL_rangeCheckForAdd_5 (by decide) (fun hc => absurd hc (nI_nlt hj (by omega))) (fun hc => ?_)
  refine g_seq s_AL_rangeCheckForAdd_8 rfl ?_
  refine g_if_ge (tgt := 25) d_AL_rangeCheckForAdd_9 (by decide) (fun hc => ?_) (fun hc => absurd hc (fun h => h (nI_pos' (by omega))))
  exact g_vret rfl d_AL_rangeCheckForAdd_25 (⟨rfl, rfl⟩)
def insAt (xs : List Nat) (j x : Nat) : List Nat := xs.take j ++ x :: xs.drop j
theorem insAt_len {j x : Nat} (hj : j ≤ xs.length) : (insAt xs j x).length = xs.length + 1 := by
  simp [insAt]; omega
theorem insAt_lo {j x i : Nat} (hj : j ≤ xs.length) (h : i < j) : (insAt xs j x)[i]? = xs[i]? := by
  unfold insAt
  rw [List.getElem?_append_left (by simp; omega), List.getElem?_take, if_pos h]
theorem insAt_eq {j x : Nat} (hj : j ≤ xs.length) : (insAt xs j x)[j]? = some x := by
  unfold insAt
  rw [List.getElem?_append_right (by simp; omega)]
  simp [Nat.min_eq_left hj]
theorem insAt_hi {j x i : Nat} (hj : j ≤ xs.length) (h : j ≤ i) : (insAt xs j x)[i + 1]? = xs[i]? := by
  unfold insAt
  rw [List.getElem?_append_right (by simp; omega)]
  have : i + 1 - (xs.take j).length = (i - j) + 1 := by simp [Nat.min_eq_left hj]; omega
  rw [this, List.getElem?_cons_succ, List.getElem?_drop]
  congr 1; omega
theorem al_addAt {j x : Nat} (hM : M a = some (eL xs)) (hj : j ≤ xs.length) (hlen : xs.length ≤ 10000) (hx : Can sOb M x) (hel : ∀ y ∈ xs, Can sOb M y) : G κ m_AL_addAt (d + 5) M 0 [some (.ref a), some (.int (nI j)), some (.ref x), none, none] [] 1 (2 * xs.length + 10) (fun v M' => v = none ∧ M' = up M a (eL (insAt xs j x))) := by
  refine g_openQ hM (fun Mo b mc cap f h => ?_)
  have hMo := h.1.1
  have hLO := h.1.bump (mc' := mc + 1)
  have hcx : ∀ y, Can sOb M y → Can sOb (up Mo a (eO 8 [.int (mc + 1), .ref b, .int (nI xs.length)])) y := fun y hy => can_upn (h.can hy) ((h.can hy).nel hMo)
  have hil := insAt_len (x := x) hj
  -- behind the room's making
  have key : ∀ (M1 : Mm) (b1 cap1 k n : Nat) (f1 : Nat → Option Nat), M1 a = some (eO 8 [.int (mc + 1), .ref b1, .int (nI xs.length)]) → M1 b1 = some (aR sOb cap1 f1) → (∀ y, Can sOb M y → Can sOb M1 y) → xs.length < cap1 → cap1 ≤ 100000 → (∀ i, i < xs.length → f1 i = xs[i]?) → (b1 = b ∨ Mo b1 = none) → b1 ≠ κ.1 → (∀ q, q ≠ a → q ≠ b1 → M1 q = Mo q) →
      G κ m_AL_addAt (d + 5) M1 38 [some (.ref a), some (.int (nI j)), some (.ref x), some (.int (nI xs.length)), some (.ref b1)] [] k n (fun v M' => v = none ∧ M' = up M a (eL (insAt xs j x))) := by
    intro M1 b1 cap1 k n f1 h1 h2 h3 h4 h9 h5 h6 h7 h8
    have hab : a ≠ b1 := fun e => by rw [← e, h1] at h2; cases h2
    refine g_seq s_AL_addAt_38 rfl ?_
    rw [nI_1, pk_sub hj]
    refine g_acopy (a := b1) (b := b1) (na := cap1) (nb := cap1) (f := f1) (g := f1) l_AL_112 ac_1 ac_2 ac_3 d_AL_addAt_49 h2 h2 (nI_lt0 (by omega)) (nI_lt0 (by omega)) (nI_lt0 (by omega)) (by rw [nI_cl (by omega), nI_cl (by omega)]; omega) (by rw [nI_cl (by omega), nI_cl (by omega)]; omega) (fun i hi y hy => ?_) (Nat.le_of_ble_eq_true rfl) ?_
    · rw [nI_cl (by omega)] at hi hy
      rw [h5 _ (by omega)] at hy
      exact h3 y (hel y (List.mem_of_getElem? hy))
    · rw [nI_cl (by omega), nI_cl (by omega), nI_cl (by omega)]
      refine g_seq s_AL_addAt_52 rfl ?_
      refine g_aast d_AL_addAt_56 up_s (vp_nI (by omega) (by omega)) (can_upn (h3 x hx) ((h3 x hx).nn (fun ci fs hh => by rw [h2] at hh; cases hh))) ?_
      rw [nI_cl (by omega)]
      refine g_seq s_AL_addAt_57 rfl ?_
      refine g_put f_AL_48 d_AL_addAt_61 (by rw [up_n hab, up_n hab]; exact h1) rfl rfl rfl ?_
      rw [nI_1]
      refine g_shutQ (mc' := mc + 1) (b' := b1) (ys := insAt xs j x) h (by rw [up_s, hil]) (by rw [up_n hab.symm]; exact up_s) (by omega) h9 (fun i hi => ?_) h6 h7 (fun q hq hqb => by rw [up_n hq, up_n hqb, up_n hqb]; exact h8 q hq hqb) ?_
      · rcases Nat.lt_trichotomy i j with hij | hij | hij
        · rw [va_up_ne _ _ (by omega), pk_cpy_out (Or.inl (by omega)), insAt_lo hj hij]; exact h5 i (by omega)
        · rw [hij, va_up_self, insAt_eq hj]
        · obtain ⟨i', rfl⟩ : ∃ i', i = i' + 1 := ⟨i - 1, by omega⟩
          rw [va_up_ne _ _ (by omega), pk_cpy_in (by omega) (by omega), insAt_hi hj (by omega), ← h5 i' (by omega)]; congr 1; omega
      exact g_vret rfl d_AL_addAt_64 (⟨rfl, rfl⟩)
  have grown : xs.length = cap → G κ m_AL_addAt (d + 5) (up Mo a (eO 8 [.int (mc + 1), .ref b, .int (nI xs.length)])) 32 [some (.ref a), some (.int (nI j)), some (.ref x), some (.int (nI xs.length)), some (.ref b)] [] 1 (2 * xs.length + 10) (fun v M' => v = none ∧ M' = up M a (eL (insAt xs j x))) := by
    intro hfull
    refine g_seq s_AL_addAt_32 rfl ?_
    refine g_invV (k2 := 0) (n2 := 0) l_AL_129 d_AL_addAt_33 rfl ⟨rfl, Nat.le_of_ble_eq_true rfl, Nat.le_of_ble_eq_true rfl⟩ (up_s) (al_grow hLO hfull hlen (fun y hy => hcx y (hel y hy))) (by first | omega | (simp; omega)) (by first | omega | (simp; omega)) ?_
    rintro v M' ⟨q, N, g, rfl, h1, h2, rfl, h3, h4, h5⟩
    have haq : a ≠ q := fun e => by rw [← e, up_s] at h1; cases h1
    refine g_seq (is := [(.astore 4, 2, 0)]) (pc' := 38) (by decide +kernel) rfl ?_
    refine key _ q N 0 0 g up_s (by rw [up_n haq.symm]; exact up_s) (fun y hy => ?_) h3 h4 h5 (Or.inr (by rw [up_n haq.symm] at h1; exact h1)) h2 (fun q' hq hqb => by rw [up_n hq, up_n hqb, up_n hq])
    have hc1 := hcx y hy
    exact can_upn (can_upn hc1 (hc1.nn (fun ci fs h => by rw [h1] at h; cases h))) (hc1.nel up_s)
  refine g_seq s_AL_addAt_0 rfl ?_
  refine g_invV  l_AL_135 d_AL_addAt_2 rfl ⟨rfl, Nat.le_of_ble_eq_true rfl, Nat.le_of_ble_eq_true rfl⟩ (hMo) (al_rangeCheckForAdd hMo hj (by omega)) (Nat.le_of_eq (Nat.zero_add _)) (Nat.le_of_eq (Nat.zero_add _)) ?_
  rintro v M' ⟨rfl, rfl⟩
  refine g_seq s_AL_addAt_5 rfl ?_
  refine g_get f_AL_63 d_AL_addAt_7 (hMo) rfl ?_
  refine g_seq s_AL_addAt_10 rfl ?_
  refine g_put f_AL_63 d_AL_addAt_12 (hMo) rfl rfl rfl ?_
  refine g_seq s_AL_addAt_15 rfl ?_
  refine g_get f_AL_48 d_AL_addAt_16 (up_s) rfl ?_
  refine g_seq s_AL_addAt_19 rfl ?_
  refine g_get f_AL_9 d_AL_addAt_22 (up_s) rfl ?_
  refine g_seq s_AL_addAt_25 rfl ?_
  obtain ⟨-, hb, hcap, hc1, hf⟩ := id hLO
  rcases hb with ⟨hbz, hnil, hc0⟩ | ⟨hbz, hMb⟩
  · subst hbz
    refine g_alenE d_AL_addAt_28  ?_
    refine g_icmp_ne (tgt := 38) d_AL_addAt_29 (by decide) (fun hc => absurd hc (fun h => h (by rw [hnil]; rfl))) (fun hc => ?_)
    exact grown (by rw [hc0, hnil]; rfl)
  · skip
    refine g_alen d_AL_addAt_28 hMb rfl ?_
    refine g_icmp_ne (tgt := 38) d_AL_addAt_29 (by decide) (fun hc => ?_) (fun hc => ?_)
    · skip
      have hne : xs.length ≠ cap := fun e => hc (by rw [e])
      exact key _ b cap _ _ f up_s hMb hcx (by omega) hc1 hf (Or.inl rfl) hbz (fun q hq _ => up_n hq)
    · skip
      exact grown ((nI_eqI (by omega) hc1).mp hc)
end AL6
