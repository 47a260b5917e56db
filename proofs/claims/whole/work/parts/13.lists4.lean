section AL4
variable {κ : Nat × Nat} {d : Nat} {M : Mm} {a : Nat} {xs : List Nat}
theorem nI_eqI {a b : Nat} (ha : a ≤ 100000) (hb : b ≤ 100000) : nI a = nI b ↔ a = b := nI_eq (by omega) (by omega)
theorem can_no8 : Cond.castable "java/util/ArrayList" sOb ∉ nW := by decide +kernel
theorem Can.nel {x : Nat} {fs : List Value} (h : Can sOb M x) (hM : M a = some (eO 8 fs)) : x ≠ a := fun e => by
  obtain ⟨ci, fs', q, h1, h2, h3⟩ := h
  rw [e, hM] at h1
  cases h1
  cases h2
  exact can_no8 h3
theorem Can.nn {x : Nat} {E : String} (h : Can E M x) (hM : ∀ ci fs, M a ≠ some (eO ci fs)) : x ≠ a := fun e => by
  obtain ⟨ci, fs', q, h1, h2, h3⟩ := h
  exact hM ci fs' (by rw [← e]; exact h1)
theorem can_upn {x : Nat} {E : String} {e : EE} (h : Can E M x) (hne : x ≠ a) : Can E (up M a e) x := by
  obtain ⟨ci, fs', q, h1, h2, h3⟩ := h
  exact ⟨ci, fs', q, by rw [up_n hne]; exact h1, h2, h3⟩
theorem al_add3 {b cap x : Nat} {mc : Int32} {f : Nat → Option Nat} (h : LO κ M a b mc xs cap f) (hlen : xs.length ≤ 10000) (hx : Can sOb M x) (hel : ∀ y ∈ xs, Can sOb M y) : G κ m_AL_add3 (d + 5) M 0 [some (.ref a), some (.ref x), some (.ref b), some (.int (nI xs.length))] [] 1 (2 * xs.length + 10)
    (fun v M' => v = none ∧ ∃ b' cap' f', (b' = b ∨ M b' = none) ∧ b' ≠ κ.1 ∧ (∀ q, q ≠ a → q ≠ b' → M' q = M q) ∧ M' a = some (eO 8 [.int mc, .ref b', .int (nI (xs.length + 1))]) ∧ M' b' = some (aR sOb cap' f') ∧ xs.length + 1 ≤ cap' ∧ cap' ≤ 100000 ∧ ∀ i, i < xs.length + 1 → f' i = (xs ++ [x])[i]?) := by
  have hLO := h
  obtain ⟨hM, hb, hcap, hc1, hf⟩ := h
  have key : ∀ (M1 : Mm) (b1 cap1 k n : Nat) (f1 : Nat → Option Nat), M1 a = some (eO 8 [.int mc, .ref b1, .int (nI xs.length)]) → M1 b1 = some (aR sOb cap1 f1) → Can sOb M1 x → xs.length < cap1 → cap1 ≤ 100000 → (∀ i, i < xs.length → f1 i = xs[i]?) → (b1 = b ∨ M b1 = none) → b1 ≠ κ.1 → (∀ q, q ≠ a → q ≠ b1 → M1 q = M q) →
      G κ m_AL_add3 (d + 5) M1 11 [some (.ref a), some (.ref x), some (.ref b1), some (.int (nI xs.length))] [] k n
    (fun v M' => v = none ∧ ∃ b' cap' f', (b' = b ∨ M b' = none) ∧ b' ≠ κ.1 ∧ (∀ q, q ≠ a → q ≠ b' → M' q = M q) ∧ M' a = some (eO 8 [.int mc, .ref b', .int (nI (xs.length + 1))]) ∧ M' b' = some (aR sOb cap' f') ∧ xs.length + 1 ≤ cap' ∧ cap' ≤ 100000 ∧ ∀ i, i < xs.length + 1 → f' i = (xs ++ [x])[i]?) := by
    intro M1 b1 cap1 k n f1 h1 h2 h3 h4 h9 h5 h6 h7 h8
    have hab : a ≠ b1 := fun e => by rw [← e, h1] at h2; cases h2
    refine g_seq s_AL_add3_11 rfl ?_
    refine g_aast d_AL_add3_14 h2 (vp_nI h4 (by omega)) h3 ?_
    rw [nI_cl (by omega)]
    refine g_seq s_AL_add3_15 rfl ?_
    refine g_put f_AL_48 d_AL_add3_19 (by rw [up_n hab]; exact h1) rfl rfl rfl ?_
    have hg : ∀ i, i < xs.length + 1 → va_up f1 xs.length (some x) i = (xs ++ [x])[i]? := by
      intro i hi
      by_cases hie : i = xs.length
      · subst hie
        rw [va_up_self]; simp
      · rw [va_up_ne _ _ hie, h5 i (by omega), List.getElem?_append_left (by omega)]
    exact g_vret rfl d_AL_add3_22 (⟨rfl, b1, cap1, va_up f1 xs.length (some x), h6, h7, fun q hq hqb => by rw [up_n hq, up_n hqb]; exact h8 q hq hqb, by rw [up_s, nI_1], by rw [up_n hab.symm]; exact up_s, h4, h9, hg⟩)
  have grown : ∀ k n : Nat, xs.length = cap → G κ m_AL_add3 (d + 5) M 6 [some (.ref a), some (.ref x), some (.ref b), some (.int (nI xs.length))] [] 1 (2 * xs.length + 10)
    (fun v M' => v = none ∧ ∃ b' cap' f', (b' = b ∨ M b' = none) ∧ b' ≠ κ.1 ∧ (∀ q, q ≠ a → q ≠ b' → M' q = M q) ∧ M' a = some (eO 8 [.int mc, .ref b', .int (nI (xs.length + 1))]) ∧ M' b' = some (aR sOb cap' f') ∧ xs.length + 1 ≤ cap' ∧ cap' ≤ 100000 ∧ ∀ i, i < xs.length + 1 → f' i = (xs ++ [x])[i]?) := by
    intro k n hfull
    refine g_seq s_AL_add3_6 rfl ?_
    refine g_invV (k2 := 0) (n2 := 0) l_AL_129 d_AL_add3_7 rfl ⟨rfl, Nat.le_of_ble_eq_true rfl, Nat.le_of_ble_eq_true rfl⟩ (hM) (al_grow hLO hfull hlen hel) (by first | omega | (simp; omega)) (by first | omega | (simp; omega)) ?_
    rintro v M' ⟨q, N, g, rfl, h1, h2, rfl, h3, h4, h5⟩
    have haq : a ≠ q := fun e => by rw [e, h1] at hM; cases hM
    refine g_seq (is := [(.astore_n 2, 1, 0)]) (pc' := 11) (by decide +kernel) rfl ?_
    exact key _ q N 0 0 g up_s (by rw [up_n haq.symm]; exact up_s) (can_upn (can_upn hx (hx.nn (fun ci fs h => by rw [h1] at h; cases h))) (hx.nel hM)) h3 h4 h5 (Or.inr h1) h2 (fun q' hq hqb => by rw [up_n hq, up_n hqb])
  rcases hb with ⟨hbz, hnil, hc0⟩ | ⟨hbz, hMb⟩
  · subst hnil
    subst hbz
    refine g_seq s_AL_add3_0 rfl ?_
    refine g_alenE d_AL_add3_2  ?_
    refine g_icmp_ne (tgt := 11) d_AL_add3_3 (by decide) (fun hc => absurd hc (fun h => h rfl)) (fun hc => ?_)
    exact grown 0 0 hc0.symm
  · skip
    refine g_seq s_AL_add3_0 rfl ?_
    refine g_alen d_AL_add3_2 hMb rfl ?_
    refine g_icmp_ne (tgt := 11) d_AL_add3_3 (by decide) (fun hc => ?_) (fun hc => ?_)
    · skip
      have hne : xs.length ≠ cap := fun e => hc (by rw [e])
      exact key M b cap _ _ f hM hMb hx (by omega) hc1 hf (Or.inl rfl) hbz (fun _ _ _ => rfl)
    · skip
      exact grown 0 0 ((nI_eqI (by omega) hc1).mp hc)
end AL4
