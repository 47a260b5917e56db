/-! the reference is made -/
def moP (ad : Nat → Nat) (i : Nat) : List Value := (List.range 27).map (fun j => if j < i then Value.ref (ad j) else if j < 21 then Value.null else Value.int 0)
def adU (ad : Nat → Nat) (i q : Nat) : Nat → Nat := fun j => if j = i then q else ad j
def moE (i : Nat) : EE := if i = 1 then aJ 4200 (fun _ => 0) else aI (ln i) (fun _ => 0)
def MoI (M : Mm) (m : Nat) (ad : Nat → Nat) (i : Nat) : Prop := M m = some (eO 9 (moP ad i)) ∧ (∀ j, j < i → M (ad j) = some (moE j) ∧ ad j ≠ m) ∧ ∀ a b, a < i → b < i → ad a = ad b → a = b
theorem vset_eq {ρ : Type} {v : Value} : ∀ (l : List Value) (n : Nat) (k : List Value → Option ρ), n < l.length → vset l n v k = k (l.set n v) := by
  intro l
  induction l with
  | nil => intro n k h; exact absurd h (Nat.not_lt_zero _)
  | cons a l ih =>
    intro n k h
    cases n with
    | zero => rfl
    | succ n => exact ih n _ (by simp only [List.length_cons] at h; omega)
theorem moP_set {ad : Nat → Nat} {i q : Nat} (h : i < 21) : (moP ad i).set i (.ref q) = moP (adU ad i q) (i + 1) := by
  apply List.ext_getElem?
  intro j
  unfold moP adU
  rw [List.getElem?_set, List.getElem?_map, List.getElem?_map]
  by_cases hj : i = j
  · subst hj
    rw [if_pos rfl, List.length_map, List.length_range, if_pos (by omega), List.getElem?_range (by omega)]
    simp only [Option.map_some]
    rw [if_pos (by omega)]; rfl
  · rw [if_neg hj]
    by_cases h27 : j < 27
    · rw [List.getElem?_range h27]
      simp only [Option.map_some]
      by_cases h1 : j < i
      · rw [if_pos h1, if_pos (by omega), if_neg (Ne.symm hj)]
      · rw [if_neg h1, if_neg (show ¬ j < i + 1 by omega)]
    · rw [List.getElem?_eq_none (by simp; omega)]; rfl
theorem vset_moP {ad : Nat → Nat} {i q : Nat} (h : i < 21) : vset (moP ad i) i (.ref q) some = some (moP (adU ad i q) (i + 1)) := by
  rw [vset_eq _ _ _ (by simp [moP]; omega), moP_set h]
theorem MoI.at {M : Mm} {m q i : Nat} {ad : Nat → Nat} {e : EE} (h : MoI M m ad i) (hq : M q = none) : up M q e m = some (eO 9 (moP ad i)) := by
  rw [up_n (fun x => by rw [← x, h.1] at hq; cases hq)]; exact h.1
theorem MoI.step {M : Mm} {m q i : Nat} {ad : Nat → Nat} (h : MoI M m ad i) (hq : M q = none) : MoI (up (up M q (moE i)) m (eO 9 (moP (adU ad i q) (i + 1)))) m (adU ad i q) (i + 1) := by
  obtain ⟨h1, h2, h3⟩ := h
  have hqm : q ≠ m := fun x => by rw [x, h1] at hq; cases hq
  have hne : ∀ j, j < i → ad j ≠ q := fun j hj x => by have := (h2 j hj).1; rw [x, hq] at this; cases this
  refine ⟨up_s, fun j hj => ?_, fun a b ha hb e => ?_⟩
  · unfold adU
    by_cases hji : j = i
    · rw [if_pos hji, up_n hqm, up_s, hji]
      exact ⟨rfl, hqm⟩
    · rw [if_neg hji, up_n (h2 j (by omega)).2, up_n (hne j (by omega))]
      exact h2 j (by omega)
  · unfold adU at e
    by_cases ha2 : a = i
    · by_cases hb2 : b = i
      · omega
      · rw [if_pos ha2, if_neg hb2] at e
        exact absurd e.symm (hne b (by omega))
    · by_cases hb2 : b = i
      · rw [if_neg ha2, if_pos hb2] at e
        exact absurd e (hne a (by omega))
      · rw [if_neg ha2, if_neg hb2] at e
        exact h3 a b (by omega) (by omega) e
theorem moP_21 {ad : Nat → Nat} : moP ad 21 = moF ad (fun _ => 0) := rfl
theorem MoI.fin {M : Mm} {m : Nat} {ad : Nat → Nat} (h : MoI M m ad 21) : MoR M m ad (fun _ _ => 0) (fun _ => 0) (fun _ => 0) := ⟨by rw [← moP_21]; exact h.1, fun i hi h1 => by rw [(h.2.1 i hi).1]; unfold moE; rw [if_neg h1], (h.2.1 1 (by decide)).1, h.2.2⟩
theorem NS_0 : NS (fun _ _ => 0) (fun _ => 0) (fun _ => 0) 0 (fun _ => []) (lk []) [] [] (fun _ => []) [] [] 0 := ⟨⟨rfl, Nat.zero_le _, fun k hk => absurd hk (Nat.not_lt_zero _), fun k k' hk => absurd hk (Nat.not_lt_zero _)⟩, ⟨fun k hk => absurd hk (Nat.not_lt_zero _), fun x _ => rfl, fun x => rfl⟩, ⟨rfl, Nat.zero_le _, RP.nil, RP.nil, RP.nil⟩, ⟨rfl, Nat.zero_le _, RP.nil, RP.nil⟩, fun c hc => ⟨rfl, Nat.zero_le _, RP.nil, RP.nil⟩, ⟨rfl, Nat.zero_le _, RP.nil⟩, ⟨rfl, (fun l hl => by cases hl), Nat.zero_le _, RP.nil⟩, rfl⟩
section NI
variable {κ : Nat × Nat} {d m : Nat} {M : Mm}
theorem m_init {s : Int32} (hM : M m = some (eO 9 (moP (fun _ => 0) 0))) : G κ m_Mo_init (d + 1) M 0 [some (.ref m), some (.int s)] [] 21 159982 (fun v M' => v = none ∧ ∃ ad, MoR M' m ad (fun _ _ => 0) (fun _ => 0) (fun _ => 0)) := by
  have hI : MoI M m (fun _ => 0) 0 := ⟨hM, fun j hj => absurd hj (Nat.not_lt_zero _), fun a b ha => absurd ha (Nat.not_lt_zero _)⟩
  generalize (fun _ => 0 : Nat → Nat) = ad0 at hI
  clear hM
  refine g_seq s_Mo_init_0 rfl ?_
  refine g_objInit l_Mo_1 oi_1 oi_2 d_Mo_init_1 (Nat.le_of_ble_eq_true rfl) ?_
  refine g_seq s_Mo_init_4 rfl ?_
  refine g_newI (k' := 20) (n' := 159976) (N := 6) ay_int d_Mo_init_7 (by decide) (by decide) (by decide) (by omega) (by omega) (fun q hq hzq => ?_)
  refine g_putF f_Mo_7 ⟨_, rfl, rfl⟩ rfl d_Mo_init_9 (hI.at hq) (vset_moP (i := 0) (by decide)) rfl rfl ?_
  replace hI := hI.step hq
  change MoI (up (up M q _) m (eO 9 (moP (adU ad0 0 q) 1))) m (adU ad0 0 q) 1 at hI
  generalize adU ad0 0 q = ad1 at hI ⊢
  change G κ m_Mo_init (d + 1) (up (up M q (moE 0)) m (eO 9 (moP ad1 1))) _ _ _ _ _ _
  generalize up (up M q (moE 0)) m (eO 9 (moP ad1 1)) = M1 at hI ⊢
  clear hq hzq
  clear ad0
  refine g_seq s_Mo_init_12 rfl ?_
  refine g_newJ (k' := 19) (n' := 155776) (N := 4200) ay_long d_Mo_init_16 (by decide) (by decide) (by decide) (by omega) (by omega) (fun q hq hzq => ?_)
  refine g_putF f_Mo_13 ⟨_, rfl, rfl⟩ rfl d_Mo_init_18 (hI.at hq) (vset_moP (i := 1) (by decide)) rfl rfl ?_
  replace hI := hI.step hq
  change MoI (up (up M1 q _) m (eO 9 (moP (adU ad1 1 q) 2))) m (adU ad1 1 q) 2 at hI
  generalize adU ad1 1 q = ad2 at hI ⊢
  change G κ m_Mo_init (d + 1) (up (up M1 q (moE 1)) m (eO 9 (moP ad2 2))) _ _ _ _ _ _
  generalize up (up M1 q (moE 1)) m (eO 9 (moP ad2 2)) = M2 at hI ⊢
  clear hq hzq
  clear ad1 M1
  refine g_seq s_Mo_init_21 rfl ?_
  refine g_newI (k' := 18) (n' := 151576) (N := 4200) ay_int d_Mo_init_25 (by decide) (by decide) (by decide) (by omega) (by omega) (fun q hq hzq => ?_)
  refine g_putF f_Mo_17 ⟨_, rfl, rfl⟩ rfl d_Mo_init_27 (hI.at hq) (vset_moP (i := 2) (by decide)) rfl rfl ?_
  replace hI := hI.step hq
  change MoI (up (up M2 q _) m (eO 9 (moP (adU ad2 2 q) 3))) m (adU ad2 2 q) 3 at hI
  generalize adU ad2 2 q = ad3 at hI ⊢
  change G κ m_Mo_init (d + 1) (up (up M2 q (moE 2)) m (eO 9 (moP ad3 3))) _ _ _ _ _ _
  generalize up (up M2 q (moE 2)) m (eO 9 (moP ad3 3)) = M3 at hI ⊢
  clear hq hzq
  clear ad2 M2
  refine g_seq s_Mo_init_30 rfl ?_
  refine g_newI (k' := 17) (n' := 147376) (N := 4200) ay_int d_Mo_init_34 (by decide) (by decide) (by decide) (by omega) (by omega) (fun q hq hzq => ?_)
  refine g_putF f_Mo_20 ⟨_, rfl, rfl⟩ rfl d_Mo_init_36 (hI.at hq) (vset_moP (i := 3) (by decide)) rfl rfl ?_
  replace hI := hI.step hq
  change MoI (up (up M3 q _) m (eO 9 (moP (adU ad3 3 q) 4))) m (adU ad3 3 q) 4 at hI
  generalize adU ad3 3 q = ad4 at hI ⊢
  change G κ m_Mo_init (d + 1) (up (up M3 q (moE 3)) m (eO 9 (moP ad4 4))) _ _ _ _ _ _
  generalize up (up M3 q (moE 3)) m (eO 9 (moP ad4 4)) = M4 at hI ⊢
  clear hq hzq
  clear ad3 M3
  refine g_seq s_Mo_init_39 rfl ?_
  refine g_ldc k_Mo_23 d_Mo_init_40  ?_
  refine g_newI (k' := 16) (n' := 80176) (N := 67200) ay_int d_Mo_init_42 (by decide) (by decide) (by decide) (by omega) (by omega) (fun q hq hzq => ?_)
  refine g_putF f_Mo_24 ⟨_, rfl, rfl⟩ rfl d_Mo_init_44 (hI.at hq) (vset_moP (i := 4) (by decide)) rfl rfl ?_
  replace hI := hI.step hq
  change MoI (up (up M4 q _) m (eO 9 (moP (adU ad4 4 q) 5))) m (adU ad4 4 q) 5 at hI
  generalize adU ad4 4 q = ad5 at hI ⊢
  change G κ m_Mo_init (d + 1) (up (up M4 q (moE 4)) m (eO 9 (moP ad5 5))) _ _ _ _ _ _
  generalize up (up M4 q (moE 4)) m (eO 9 (moP ad5 5)) = M5 at hI ⊢
  clear hq hzq
  clear ad4 M4
  refine g_seq s_Mo_init_47 rfl ?_
  refine g_newI (k' := 15) (n' := 75976) (N := 4200) ay_int d_Mo_init_51 (by decide) (by decide) (by decide) (by omega) (by omega) (fun q hq hzq => ?_)
  refine g_putF f_Mo_27 ⟨_, rfl, rfl⟩ rfl d_Mo_init_53 (hI.at hq) (vset_moP (i := 5) (by decide)) rfl rfl ?_
  replace hI := hI.step hq
  change MoI (up (up M5 q _) m (eO 9 (moP (adU ad5 5 q) 6))) m (adU ad5 5 q) 6 at hI
  generalize adU ad5 5 q = ad6 at hI ⊢
  change G κ m_Mo_init (d + 1) (up (up M5 q (moE 5)) m (eO 9 (moP ad6 6))) _ _ _ _ _ _
  generalize up (up M5 q (moE 5)) m (eO 9 (moP ad6 6)) = M6 at hI ⊢
  clear hq hzq
  clear ad5 M5
  refine g_seq s_Mo_init_56 rfl ?_
  refine g_newI (k' := 14) (n' := 71776) (N := 4200) ay_int d_Mo_init_60 (by decide) (by decide) (by decide) (by omega) (by omega) (fun q hq hzq => ?_)
  refine g_putF f_Mo_30 ⟨_, rfl, rfl⟩ rfl d_Mo_init_62 (hI.at hq) (vset_moP (i := 6) (by decide)) rfl rfl ?_
  replace hI := hI.step hq
  change MoI (up (up M6 q _) m (eO 9 (moP (adU ad6 6 q) 7))) m (adU ad6 6 q) 7 at hI
  generalize adU ad6 6 q = ad7 at hI ⊢
  change G κ m_Mo_init (d + 1) (up (up M6 q (moE 6)) m (eO 9 (moP ad7 7))) _ _ _ _ _ _
  generalize up (up M6 q (moE 6)) m (eO 9 (moP ad7 7)) = M7 at hI ⊢
  clear hq hzq
  clear ad6 M6
  refine g_seq s_Mo_init_65 rfl ?_
  refine g_newI (k' := 13) (n' := 67576) (N := 4200) ay_int d_Mo_init_69 (by decide) (by decide) (by decide) (by omega) (by omega) (fun q hq hzq => ?_)
  refine g_putF f_Mo_33 ⟨_, rfl, rfl⟩ rfl d_Mo_init_71 (hI.at hq) (vset_moP (i := 7) (by decide)) rfl rfl ?_
  replace hI := hI.step hq
  change MoI (up (up M7 q _) m (eO 9 (moP (adU ad7 7 q) 8))) m (adU ad7 7 q) 8 at hI
  generalize adU ad7 7 q = ad8 at hI ⊢
  change G κ m_Mo_init (d + 1) (up (up M7 q (moE 7)) m (eO 9 (moP ad8 8))) _ _ _ _ _ _
  generalize up (up M7 q (moE 7)) m (eO 9 (moP ad8 8)) = M8 at hI ⊢
  clear hq hzq
  clear ad7 M7
  refine g_seq s_Mo_init_74 rfl ?_
  refine g_newI (k' := 12) (n' := 46576) (N := 21000) ay_int d_Mo_init_78 (by decide) (by decide) (by decide) (by omega) (by omega) (fun q hq hzq => ?_)
  refine g_putF f_Mo_36 ⟨_, rfl, rfl⟩ rfl d_Mo_init_80 (hI.at hq) (vset_moP (i := 8) (by decide)) rfl rfl ?_
  replace hI := hI.step hq
  change MoI (up (up M8 q _) m (eO 9 (moP (adU ad8 8 q) 9))) m (adU ad8 8 q) 9 at hI
  generalize adU ad8 8 q = ad9 at hI ⊢
  change G κ m_Mo_init (d + 1) (up (up M8 q (moE 8)) m (eO 9 (moP ad9 9))) _ _ _ _ _ _
  generalize up (up M8 q (moE 8)) m (eO 9 (moP ad9 9)) = M9 at hI ⊢
  clear hq hzq
  clear ad8 M8
  refine g_seq s_Mo_init_83 rfl ?_
  refine g_newI (k' := 11) (n' := 25576) (N := 21000) ay_int d_Mo_init_87 (by decide) (by decide) (by decide) (by omega) (by omega) (fun q hq hzq => ?_)
  refine g_putF f_Mo_39 ⟨_, rfl, rfl⟩ rfl d_Mo_init_89 (hI.at hq) (vset_moP (i := 9) (by decide)) rfl rfl ?_
  replace hI := hI.step hq
  change MoI (up (up M9 q _) m (eO 9 (moP (adU ad9 9 q) 10))) m (adU ad9 9 q) 10 at hI
  generalize adU ad9 9 q = ad10 at hI ⊢
  change G κ m_Mo_init (d + 1) (up (up M9 q (moE 9)) m (eO 9 (moP ad10 10))) _ _ _ _ _ _
  generalize up (up M9 q (moE 9)) m (eO 9 (moP ad10 10)) = M10 at hI ⊢
  clear hq hzq
  clear ad9 M9
  refine g_seq s_Mo_init_92 rfl ?_
  refine g_newI (k' := 10) (n' := 4576) (N := 21000) ay_int d_Mo_init_96 (by decide) (by decide) (by decide) (by omega) (by omega) (fun q hq hzq => ?_)
  refine g_putF f_Mo_42 ⟨_, rfl, rfl⟩ rfl d_Mo_init_98 (hI.at hq) (vset_moP (i := 10) (by decide)) rfl rfl ?_
  replace hI := hI.step hq
  change MoI (up (up M10 q _) m (eO 9 (moP (adU ad10 10 q) 11))) m (adU ad10 10 q) 11 at hI
  generalize adU ad10 10 q = ad11 at hI ⊢
  change G κ m_Mo_init (d + 1) (up (up M10 q (moE 10)) m (eO 9 (moP ad11 11))) _ _ _ _ _ _
  generalize up (up M10 q (moE 10)) m (eO 9 (moP ad11 11)) = M11 at hI ⊢
  clear hq hzq
  clear ad10 M10
  refine g_seq s_Mo_init_101 rfl ?_
  refine g_newI (k' := 9) (n' := 376) (N := 4200) ay_int d_Mo_init_105 (by decide) (by decide) (by decide) (by omega) (by omega) (fun q hq hzq => ?_)
  refine g_putF f_Mo_45 ⟨_, rfl, rfl⟩ rfl d_Mo_init_107 (hI.at hq) (vset_moP (i := 11) (by decide)) rfl rfl ?_
  replace hI := hI.step hq
  change MoI (up (up M11 q _) m (eO 9 (moP (adU ad11 11 q) 12))) m (adU ad11 11 q) 12 at hI
  generalize adU ad11 11 q = ad12 at hI ⊢
  change G κ m_Mo_init (d + 1) (up (up M11 q (moE 11)) m (eO 9 (moP ad12 12))) _ _ _ _ _ _
  generalize up (up M11 q (moE 11)) m (eO 9 (moP ad12 12)) = M12 at hI ⊢
  clear hq hzq
  clear ad11 M11
  refine g_seq s_Mo_init_110 rfl ?_
  refine g_newI (k' := 8) (n' := 346) (N := 30) ay_int d_Mo_init_113 (by decide) (by decide) (by decide) (by omega) (by omega) (fun q hq hzq => ?_)
  refine g_putF f_Mo_48 ⟨_, rfl, rfl⟩ rfl d_Mo_init_115 (hI.at hq) (vset_moP (i := 12) (by decide)) rfl rfl ?_
  replace hI := hI.step hq
  change MoI (up (up M12 q _) m (eO 9 (moP (adU ad12 12 q) 13))) m (adU ad12 12 q) 13 at hI
  generalize adU ad12 12 q = ad13 at hI ⊢
  change G κ m_Mo_init (d + 1) (up (up M12 q (moE 12)) m (eO 9 (moP ad13 13))) _ _ _ _ _ _
  generalize up (up M12 q (moE 12)) m (eO 9 (moP ad13 13)) = M13 at hI ⊢
  clear hq hzq
  clear ad12 M12
  refine g_seq s_Mo_init_118 rfl ?_
  refine g_newI (k' := 7) (n' := 316) (N := 30) ay_int d_Mo_init_121 (by decide) (by decide) (by decide) (by omega) (by omega) (fun q hq hzq => ?_)
  refine g_putF f_Mo_51 ⟨_, rfl, rfl⟩ rfl d_Mo_init_123 (hI.at hq) (vset_moP (i := 13) (by decide)) rfl rfl ?_
  replace hI := hI.step hq
  change MoI (up (up M13 q _) m (eO 9 (moP (adU ad13 13 q) 14))) m (adU ad13 13 q) 14 at hI
  generalize adU ad13 13 q = ad14 at hI ⊢
  change G κ m_Mo_init (d + 1) (up (up M13 q (moE 13)) m (eO 9 (moP ad14 14))) _ _ _ _ _ _
  generalize up (up M13 q (moE 13)) m (eO 9 (moP ad14 14)) = M14 at hI ⊢
  clear hq hzq
  clear ad13 M13
  refine g_seq s_Mo_init_126 rfl ?_
  refine g_newI (k' := 6) (n' := 286) (N := 30) ay_int d_Mo_init_129 (by decide) (by decide) (by decide) (by omega) (by omega) (fun q hq hzq => ?_)
  refine g_putF f_Mo_54 ⟨_, rfl, rfl⟩ rfl d_Mo_init_131 (hI.at hq) (vset_moP (i := 14) (by decide)) rfl rfl ?_
  replace hI := hI.step hq
  change MoI (up (up M14 q _) m (eO 9 (moP (adU ad14 14 q) 15))) m (adU ad14 14 q) 15 at hI
  generalize adU ad14 14 q = ad15 at hI ⊢
  change G κ m_Mo_init (d + 1) (up (up M14 q (moE 14)) m (eO 9 (moP ad15 15))) _ _ _ _ _ _
  generalize up (up M14 q (moE 14)) m (eO 9 (moP ad15 15)) = M15 at hI ⊢
  clear hq hzq
  clear ad14 M14
  refine g_seq s_Mo_init_134 rfl ?_
  refine g_newI (k' := 5) (n' := 282) (N := 4) ay_int d_Mo_init_136 (by decide) (by decide) (by decide) (by omega) (by omega) (fun q hq hzq => ?_)
  refine g_putF f_Mo_57 ⟨_, rfl, rfl⟩ rfl d_Mo_init_138 (hI.at hq) (vset_moP (i := 15) (by decide)) rfl rfl ?_
  replace hI := hI.step hq
  change MoI (up (up M15 q _) m (eO 9 (moP (adU ad15 15 q) 16))) m (adU ad15 15 q) 16 at hI
  generalize adU ad15 15 q = ad16 at hI ⊢
  change G κ m_Mo_init (d + 1) (up (up M15 q (moE 15)) m (eO 9 (moP ad16 16))) _ _ _ _ _ _
  generalize up (up M15 q (moE 15)) m (eO 9 (moP ad16 16)) = M16 at hI ⊢
  clear hq hzq
  clear ad15 M15
  refine g_seq s_Mo_init_141 rfl ?_
  refine g_newI (k' := 4) (n' := 278) (N := 4) ay_int d_Mo_init_143 (by decide) (by decide) (by decide) (by omega) (by omega) (fun q hq hzq => ?_)
  refine g_putF f_Mo_60 ⟨_, rfl, rfl⟩ rfl d_Mo_init_145 (hI.at hq) (vset_moP (i := 16) (by decide)) rfl rfl ?_
  replace hI := hI.step hq
  change MoI (up (up M16 q _) m (eO 9 (moP (adU ad16 16 q) 17))) m (adU ad16 16 q) 17 at hI
  generalize adU ad16 16 q = ad17 at hI ⊢
  change G κ m_Mo_init (d + 1) (up (up M16 q (moE 16)) m (eO 9 (moP ad17 17))) _ _ _ _ _ _
  generalize up (up M16 q (moE 16)) m (eO 9 (moP ad17 17)) = M17 at hI ⊢
  clear hq hzq
  clear ad16 M16
  refine g_seq s_Mo_init_148 rfl ?_
  refine g_newI (k' := 3) (n' := 150) (N := 128) ay_int d_Mo_init_152 (by decide) (by decide) (by decide) (by omega) (by omega) (fun q hq hzq => ?_)
  refine g_putF f_Mo_63 ⟨_, rfl, rfl⟩ rfl d_Mo_init_154 (hI.at hq) (vset_moP (i := 17) (by decide)) rfl rfl ?_
  replace hI := hI.step hq
  change MoI (up (up M17 q _) m (eO 9 (moP (adU ad17 17 q) 18))) m (adU ad17 17 q) 18 at hI
  generalize adU ad17 17 q = ad18 at hI ⊢
  change G κ m_Mo_init (d + 1) (up (up M17 q (moE 17)) m (eO 9 (moP ad18 18))) _ _ _ _ _ _
  generalize up (up M17 q (moE 17)) m (eO 9 (moP ad18 18)) = M18 at hI ⊢
  clear hq hzq
  clear ad17 M17
  refine g_seq s_Mo_init_157 rfl ?_
  refine g_newI (k' := 2) (n' := 22) (N := 128) ay_int d_Mo_init_161 (by decide) (by decide) (by decide) (by omega) (by omega) (fun q hq hzq => ?_)
  refine g_putF f_Mo_66 ⟨_, rfl, rfl⟩ rfl d_Mo_init_163 (hI.at hq) (vset_moP (i := 18) (by decide)) rfl rfl ?_
  replace hI := hI.step hq
  change MoI (up (up M18 q _) m (eO 9 (moP (adU ad18 18 q) 19))) m (adU ad18 18 q) 19 at hI
  generalize adU ad18 18 q = ad19 at hI ⊢
  change G κ m_Mo_init (d + 1) (up (up M18 q (moE 18)) m (eO 9 (moP ad19 19))) _ _ _ _ _ _
  generalize up (up M18 q (moE 18)) m (eO 9 (moP ad19 19)) = M19 at hI ⊢
  clear hq hzq
  clear ad18 M18
  refine g_seq s_Mo_init_166 rfl ?_
  refine g_newI (k' := 1) (n' := 6) (N := 16) ay_int d_Mo_init_169 (by decide) (by decide) (by decide) (by omega) (by omega) (fun q hq hzq => ?_)
  refine g_putF f_Mo_69 ⟨_, rfl, rfl⟩ rfl d_Mo_init_171 (hI.at hq) (vset_moP (i := 19) (by decide)) rfl rfl ?_
  replace hI := hI.step hq
  change MoI (up (up M19 q _) m (eO 9 (moP (adU ad19 19 q) 20))) m (adU ad19 19 q) 20 at hI
  generalize adU ad19 19 q = ad20 at hI ⊢
  change G κ m_Mo_init (d + 1) (up (up M19 q (moE 19)) m (eO 9 (moP ad20 20))) _ _ _ _ _ _
  generalize up (up M19 q (moE 19)) m (eO 9 (moP ad20 20)) = M20 at hI ⊢
  clear hq hzq
  clear ad19 M19
  refine g_seq s_Mo_init_174 rfl ?_
  refine g_newI (k' := 0) (n' := 0) (N := 6) ay_int d_Mo_init_177 (by decide) (by decide) (by decide) (by omega) (by omega) (fun q hq hzq => ?_)
  refine g_putF f_Mo_72 ⟨_, rfl, rfl⟩ rfl d_Mo_init_179 (hI.at hq) (vset_moP (i := 20) (by decide)) rfl rfl ?_
  replace hI := hI.step hq
  change MoI (up (up M20 q _) m (eO 9 (moP (adU ad20 20 q) 21))) m (adU ad20 20 q) 21 at hI
  generalize adU ad20 20 q = ad21 at hI ⊢
  change G κ m_Mo_init (d + 1) (up (up M20 q (moE 20)) m (eO 9 (moP ad21 21))) _ _ _ _ _ _
  generalize up (up M20 q (moE 20)) m (eO 9 (moP ad21 21)) = M21 at hI ⊢
  clear hq hzq
  clear ad20 M20
  exact g_vret rfl d_Mo_init_182 (⟨rfl, ad21, hI.fin⟩)
end NI
