section AL3
variable {κ : Nat × Nat} {d : Nat} {M : Mm} {a : Nat} {xs : List Nat}
theorem up_up {a : Nat} {e e' : EE} : up (up M a e) a e' = up M a e' := by
  funext q
  by_cases hq : q = a <;> simp [up, hq]
theorem vp_nI {j cap : Nat} (h : j < cap) (h2 : j ≤ 100000) : vp_in (nI j) cap := by
  unfold vp_in
  rw [nI_cl h2]
  exact fun h3 => h3.elim (nI_lt0 h2) (fun h3 => by omega)
theorem as_newLength {o x y N : Nat} (ho : o + x + y ≤ 100000) (hN : N = o + (if x < y then y else x)) (h0 : 0 < N) : G κ m_AS_newLength (d + 1) M 0 [some (.int (nI o)), some (.int (nI x)), some (.int (nI y)), none] [] 0 0 (fun v M' => v = some (.int (nI N)) ∧ M' = M) := by
  have e1 : nI o + (if nI x < nI y then nI y else nI x) = nI N := by
    rw [hN]
    by_cases h : x < y
    · rw [if_pos h, if_pos (nI_lt h (by omega)), nI_add]
    · rw [if_neg h, if_neg (nI_nlt (by omega) (by omega)), nI_add]
  have hN2 : N ≤ 100000 := by rw [hN]; split <;> omega
  refine g_seq s_AS_newLength_0 rfl ?_
  refine g_mmax l_AS_194 mx_max1 mx_i mx_max2 d_AS_newLength_3 (Nat.le_of_ble_eq_true rfl) ?_
  refine g_seq s_AS_newLength_6 rfl ?_
  rw [e1]
  refine g_icmp_ge (tgt := 21) d_AS_newLength_10 (by decide) (fun hc => absurd hc (fun h => nI_nle h0 (by omega) h)) (fun hc => ?_)
  refine g_seq s_AS_newLength_13 rfl ?_
  refine g_ldc k_AS_200 d_AS_newLength_14  ?_
  have hmx : ¬ (2147483639 : Int32) < nI N := by
    rw [show (2147483639 : Int32) = nI 2147483639 from rfl]
    exact nI_nlt (by omega) (by omega)
  refine g_icmp_gt (tgt := 21) d_AS_newLength_16 (by decide) (fun hc => absurd hc (hmx)) (fun hc => ?_)
  refine g_seq s_AS_newLength_19 rfl ?_
  exact g_iret rfl d_AS_newLength_20 (⟨rfl, rfl⟩)
theorem arrs_copyOf3 {b cap N : Nat} {f : Nat → Option Nat} (hMb : M b = some (aR sOb cap f)) (hcap : cap ≤ N) (hN : N ≤ 100000) (hel : ∀ i, i < cap → ∀ y, f i = some y → Can sOb M y) : G κ m_Arrs_copyOf3 (d + 1) M 0 [some (.ref b), some (.int (nI N)), some (.ref κ.2), none] [] 1 N (fun v M' => ∃ q g, v = some (.ref q) ∧ M q = none ∧ q ≠ κ.1 ∧ M' = up M q (aR sOb N g) ∧ ∀ i, i < cap → g i = f i) := by
  refine g_seq s_Arrs_copyOf3_0 rfl ?_
  refine g_ldcM cl_Arrs_110 d_Arrs_copyOf3_1  ?_
  refine g_acmp_ne (tgt := 13) d_Arrs_copyOf3_3 (by decide) (fun hc => absurd hc (fun h => h rfl)) (fun hc => ?_)
  refine g_seq s_Arrs_copyOf3_6 rfl ?_
  refine g_newR (k' := 0) (n' := 0) (N := N) cl_Arrs_2 ao_Obj d_Arrs_copyOf3_7 (nI_lt0 hN) (nI_cl hN) hN (by omega) (by omega) (fun q hq hz => ?_)
  have hbq : b ≠ q := fun x => by rw [x, hq] at hMb; cases hMb
  refine g_seq s_Arrs_copyOf3_10 rfl ?_
  refine g_alen d_Arrs_copyOf3_30 ((up_n hbq).trans hMb) rfl ?_
  refine g_seq s_Arrs_copyOf3_31 rfl ?_
  refine g_mmin l_Arrs_304 mx_min1 mx_i mx_min2 d_Arrs_copyOf3_32 (Nat.le_of_ble_eq_true rfl) ?_
  rw [if_neg (show ¬ nI N < nI cap from nI_nlt hcap (by omega))]
  refine g_acopy (a := b) (b := q) (na := cap) (nb := N) (f := f) (g := fun _ => none) l_Arrs_150 ac_1 ac_2 ac_3 d_Arrs_copyOf3_35 (by rw [up_n hbq]; exact hMb) up_s (by decide) (by decide) (nI_lt0 (by omega)) (by rw [nI_cl (by omega)]; show 0 + cap ≤ cap; omega) (by rw [nI_cl (by omega)]; show 0 + cap ≤ N; omega) (fun i hi y hy => ?_) (Nat.le_of_ble_eq_true rfl) ?_
  · rw [nI_cl (by omega)] at hi
    have hy2 : f i = some y := by
      have : (0 : Int32).toNatClampNeg + i = i := by show 0 + i = i; omega
      rw [this] at hy; exact hy
    exact (hel i hi y hy2).up (fun ci fs h => by rw [hq] at h; cases h)
  · skip
    refine g_seq s_Arrs_copyOf3_38 rfl ?_
    exact g_aret rfl (by first | exact Or.inl ⟨_, rfl⟩ | exact Or.inr ⟨_, rfl⟩) d_Arrs_copyOf3_39 (⟨q, _, rfl, hq, hz, up_up, fun i hi => by rw [nI_cl (by omega)]; show va_cpy f _ 0 0 cap i = f i; rw [pk_cpy_in (by omega) (by omega)]; congr 1; omega⟩)
theorem arrs_copyOf {b cap N : Nat} {f : Nat → Option Nat} (hMb : M b = some (aR sOb cap f)) (hcap : cap ≤ N) (hN : N ≤ 100000) (hel : ∀ i, i < cap → ∀ y, f i = some y → Can sOb M y) : G κ m_Arrs_copyOf (d + 2) M 0 [some (.ref b), some (.int (nI N))] [] 1 N (fun v M' => ∃ q g, v = some (.ref q) ∧ M q = none ∧ q ≠ κ.1 ∧ M' = up M q (aR sOb N g) ∧ ∀ i, i < cap → g i = f i) := by
  refine g_seq s_Arrs_copyOf_0 rfl ?_
  refine g_getC l_Arrs_86 gc_1 gc_2 gc_3 d_Arrs_copyOf_3 hMb (Nat.le_of_ble_eq_true rfl) ?_
  refine g_invS (k2 := 0) (n2 := 0) l_Arrs_300 d_Arrs_copyOf_6 rfl ⟨rfl, Nat.le_of_ble_eq_true rfl, Nat.le_of_ble_eq_true rfl⟩ (arrs_copyOf3 hMb hcap hN hel) (by first | omega | (simp; omega)) (by first | omega | (simp; omega)) ?_
  rintro v M' ⟨q, g, rfl, h⟩
  exact g_aret rfl (by first | exact Or.inl ⟨_, rfl⟩ | exact Or.inr ⟨_, rfl⟩) d_Arrs_copyOf_9 (⟨q, g, rfl, h⟩)
/-- the room that a full list of n elements comes to -/
def gN (n : Nat) : Nat := n + (if 1 < n / 2 then n / 2 else 1)
theorem al_growI {b cap : Nat} {mc : Int32} {e3 : Value} {f : Nat → Option Nat} (hM : M a = some (eO 8 [.int mc, .ref b, e3])) (hMb : M b = some (aR sOb cap f)) (hbz : b ≠ κ.1) (hcap : cap ≤ 10000) (hel : ∀ i, i < cap → ∀ y, f i = some y → Can sOb M y) : G κ m_AL_growI (d + 3) M 0 [some (.ref a), some (.int (nI (cap + 1))), none, none] [] 1 (gN cap) (fun v M' => ∃ q g, v = some (.ref q) ∧ M q = none ∧ q ≠ κ.1 ∧ M' = up (up M q (aR sOb (gN cap) g)) a (eO 8 [.int mc, .ref q, e3]) ∧ ∀ i, i < cap → g i = f i) := by
  have hgN : gN cap ≤ 100000 ∧ cap ≤ gN cap ∧ 0 < gN cap := by unfold gN; split <;> omega
  have e1 : nI (cap + 1) - nI cap = nI 1 := by rw [pk_sub (by omega)]; congr 1; omega
  have e2 : nI cap >>> ((1 : Int32) &&& 31) = nI (cap / 2) := pk_shrN (by omega) _ 1 (by decide)
  have key : G κ m_AL_growI (d + 3) M 20 [some (.ref a), some (.int (nI (cap + 1))), some (.int (nI cap)), none] [] 1 (gN cap) (fun v M' => ∃ q g, v = some (.ref q) ∧ M q = none ∧ q ≠ κ.1 ∧ M' = up (up M q (aR sOb (gN cap) g)) a (eO 8 [.int mc, .ref q, e3]) ∧ ∀ i, i < cap → g i = f i) := by
    refine g_seq s_AL_growI_20 rfl ?_
    rw [e1, e2]
    refine g_invS (k2 := 1) (n2 := gN cap) l_AL_73 d_AL_growI_27 rfl ⟨rfl, Nat.le_of_ble_eq_true rfl, Nat.le_of_ble_eq_true rfl⟩ (as_newLength (N := gN cap) (by omega) rfl hgN.2.2) (by first | omega | (simp; omega)) (by first | omega | (simp; omega)) ?_
    rintro v M' ⟨rfl, rfl⟩
    refine g_seq s_AL_growI_30 rfl ?_
    refine g_get f_AL_9 d_AL_growI_33 (hM) rfl ?_
    refine g_seq s_AL_growI_36 rfl ?_
    refine g_invS (k2 := 0) (n2 := 0) l_AL_66 d_AL_growI_37 rfl ⟨rfl, Nat.le_of_ble_eq_true rfl, Nat.le_of_ble_eq_true rfl⟩ (arrs_copyOf hMb hgN.2.1 hgN.1 hel) (by first | omega | (simp; omega)) (by first | omega | (simp; omega)) ?_
    rintro v M' ⟨q, g, rfl, hq, hz, rfl, hg⟩
    have haq : a ≠ q := fun x => by rw [x, hq] at hM; cases hM
    refine g_seq s_AL_growI_40 rfl ?_
    refine g_put f_AL_9 d_AL_growI_41 (by rw [up_n haq]; exact hM) rfl rfl rfl ?_
    exact g_aret rfl (by first | exact Or.inl ⟨_, rfl⟩ | exact Or.inr ⟨_, rfl⟩) d_AL_growI_44 (⟨q, g, rfl, hq, hz, rfl, hg⟩)
  refine g_seq s_AL_growI_0 rfl ?_
  refine g_get f_AL_9 d_AL_growI_1 (hM) rfl ?_
  refine g_alen d_AL_growI_4 hMb rfl ?_
  refine g_seq s_AL_growI_5 rfl ?_
  refine g_if_gt (tgt := 20) d_AL_growI_7 (by decide) (fun h => ?_) (fun h => ?_)
  · skip
    exact key
  · skip
    refine g_seq s_AL_growI_10 rfl ?_
    refine g_get f_AL_9 d_AL_growI_11 (hM) rfl ?_
    refine g_gets fs_AL_39 d_AL_growI_14  ?_
    refine g_acmp_eq (tgt := 45) d_AL_growI_17 (by decide) (fun hc => absurd hc (hbz)) (fun hc => ?_)
    exact key
theorem al_growE {mc : Int32} {e3 : Value} (hM : M a = some (eO 8 [.int mc, .ref κ.1, e3])) : G κ m_AL_growI (d + 3) M 0 [some (.ref a), some (.int 1), none, none] [] 1 10 (fun v M' => ∃ q, v = some (.ref q) ∧ M q = none ∧ q ≠ κ.1 ∧ M' = up (up M q (aR sOb 10 (fun _ => none))) a (eO 8 [.int mc, .ref q, e3])) := by
  refine g_seq s_AL_growI_0 rfl ?_
  refine g_get f_AL_9 d_AL_growI_1 (hM) rfl ?_
  refine g_alenE d_AL_growI_4  ?_
  refine g_seq s_AL_growI_5 rfl ?_
  refine g_if_gt (tgt := 20) d_AL_growI_7 (by decide) (fun hc => absurd hc (by decide)) (fun hc => ?_)
  refine g_seq s_AL_growI_10 rfl ?_
  refine g_get f_AL_9 d_AL_growI_11 (hM) rfl ?_
  refine g_gets fs_AL_39 d_AL_growI_14  ?_
  refine g_acmp_eq (tgt := 45) d_AL_growI_17 (by decide) (fun hc => ?_) (fun hc => absurd hc (fun h => h rfl))
  refine g_seq s_AL_growI_45 rfl ?_
  refine g_mmax l_AL_79 mx_max1 mx_i mx_max2 d_AL_growI_49 (Nat.le_of_ble_eq_true rfl) ?_
  rw [if_neg (show ¬ (10 : Int32) < 1 by decide)]
  refine g_newR (k' := 0) (n' := 0) (N := 10) cl_AL_7 ao_Obj d_AL_growI_52 (by decide) (by decide) (by decide) (by omega) (by omega) (fun q hq hz => ?_)
  have haq : a ≠ q := fun x => by rw [x, hq] at hM; cases hM
  refine g_seq s_AL_growI_55 rfl ?_
  refine g_put f_AL_9 d_AL_growI_56 (by rw [up_n haq]; exact hM) rfl rfl rfl ?_
  exact g_aret rfl (by first | exact Or.inl ⟨_, rfl⟩ | exact Or.inr ⟨_, rfl⟩) d_AL_growI_59 (⟨q, rfl, hq, hz, rfl⟩)
/-- an open list: its cell, what holds its elements (or the empty one) -/
def LO (κ : Nat × Nat) (M : Mm) (a b : Nat) (mc : Int32) (xs : List Nat) (cap : Nat) (f : Nat → Option Nat) : Prop := M a = some (eO 8 [.int mc, .ref b, .int (nI xs.length)]) ∧ ((b = κ.1 ∧ xs = [] ∧ cap = 0) ∨ (b ≠ κ.1 ∧ M b = some (aR sOb cap f))) ∧ xs.length ≤ cap ∧ cap ≤ 100000 ∧ ∀ i, i < xs.length → f i = xs[i]?
theorem al_grow {b cap : Nat} {mc : Int32} {f : Nat → Option Nat} (h : LO κ M a b mc xs cap f) (hfull : xs.length = cap) (hlen : xs.length ≤ 10000) (hel : ∀ y ∈ xs, Can sOb M y) : G κ m_AL_grow (d + 4) M 0 [some (.ref a)] [] 1 (2 * xs.length + 10) (fun v M' => ∃ q N g, v = some (.ref q) ∧ M q = none ∧ q ≠ κ.1 ∧ M' = up (up M q (aR sOb N g)) a (eO 8 [.int mc, .ref q, .int (nI xs.length)]) ∧ xs.length < N ∧ N ≤ 100000 ∧ ∀ i, i < xs.length → g i = xs[i]?) := by
  obtain ⟨hM, hb, hcap, hc1, hf⟩ := h
  refine g_seq s_AL_grow_0 rfl ?_
  refine g_get f_AL_48 d_AL_grow_2 (hM) rfl ?_
  refine g_seq s_AL_grow_5 rfl ?_
  rcases hb with ⟨rfl, rfl, rfl⟩ | ⟨hbz, hMb⟩
  · refine g_invV (k2 := 0) (n2 := 0) l_AL_69 d_AL_grow_7 rfl ⟨rfl, Nat.le_of_ble_eq_true rfl, Nat.le_of_ble_eq_true rfl⟩ (hM) (al_growE hM) (by first | omega | (simp; omega)) (by first | omega | (simp; omega)) ?_
    rintro v M' ⟨q, rfl, h1, h2, rfl⟩
    exact g_aret rfl (by first | exact Or.inl ⟨_, rfl⟩ | exact Or.inr ⟨_, rfl⟩) d_AL_grow_10 (⟨q, 10, _, rfl, h1, h2, rfl, by decide, by decide, fun i hi => absurd hi (Nat.not_lt_zero _)⟩)
  · have hgN : gN cap ≤ 2 * xs.length + 10 ∧ xs.length < gN cap ∧ gN cap ≤ 100000 := by unfold gN; split <;> omega
    rw [nI_1, hfull]
    refine g_invV (k2 := 0) (n2 := 0) l_AL_69 d_AL_grow_7 rfl ⟨rfl, Nat.le_of_ble_eq_true rfl, Nat.le_of_ble_eq_true rfl⟩ (hM) (al_growI hM hMb hbz (by omega) (fun i hi y hy => hel y (by rw [hf i (by omega)] at hy; exact List.mem_of_getElem? hy))) (by first | omega | (simp; omega)) (by first | omega | (simp; omega)) ?_
    rintro v M' ⟨q, g, rfl, h1, h2, rfl, hg⟩
    exact g_aret rfl (by first | exact Or.inl ⟨_, rfl⟩ | exact Or.inr ⟨_, rfl⟩) d_AL_grow_10 (⟨q, _, g, rfl, h1, h2, by rw [hfull], by omega, hgN.2.2, fun i hi => by rw [hg i (by omega)]; exact hf i (by omega)⟩)
end AL3
