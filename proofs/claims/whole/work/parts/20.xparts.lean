/-! what a step leaves as it was: kind by kind (an object's kind is its class; 100 an array, 101 a list) -/
def kd (e : EE) : Nat := match e with
  | .inl o => o.1
  | .inr (.inl _) => 100
  | .inr (.inr _) => 101
def Kp (Ch : Nat → Nat → Prop) (M M' : Mm) : Prop := ∀ q e, M q = some e → ¬ Ch (kd e) q → M' q = some e
theorem Kp.rf {Ch : Nat → Nat → Prop} {M : Mm} : Kp Ch M M := fun _ _ h _ => h
theorem Kp.tr {Ch : Nat → Nat → Prop} {M M' M'' : Mm} (h : Kp Ch M M') (h' : Kp Ch M' M'') : Kp Ch M M'' := fun q e h1 h2 => h' q e (h q e h1 h2) h2
theorem Kp.wk {Ch Ch' : Nat → Nat → Prop} {M M' : Mm} (h : Kp Ch M M') (hw : ∀ k q, Ch k q → Ch' k q) : Kp Ch' M M' := fun q e h1 h2 => h q e h1 (fun h3 => h2 (hw _ _ h3))
theorem up_kp {Ch : Nat → Nat → Prop} {M : Mm} {a : Nat} {e e0 : EE} (h : M a = some e0) (hc : Ch (kd e0) a) : Kp Ch M (up M a e) := fun q e1 h1 h2 => by
  by_cases hq : q = a
  · subst hq
    rw [h] at h1
    cases h1
    exact absurd hc h2
  · rw [up_n hq]; exact h1
theorem up_kpn {Ch : Nat → Nat → Prop} {M : Mm} {a : Nat} {e : EE} (h : M a = none) : Kp Ch M (up M a e) := fun q e1 h1 h2 => by
  have hq : q ≠ a := fun x => by rw [x, h] at h1; cases h1
  rw [up_n hq]; exact h1
/-! the parts of a house -/
def PT (M : Mm) (own : Nat → Nat × Nat) (aT : Nat) (ts : List Nat) (T : List Th) : Prop := M aT = some (eL ts) ∧ own aT = (0, 0) ∧ ts.Nodup ∧ R2 (ThR M own) ts T
def PJ (M : Mm) (own : Nat → Nat × Nat) (aJ : Nat) (J : List Wt) : Prop := ∃ js, M aJ = some (eL js) ∧ own aJ = (1, 0) ∧ R2 (JoR M) js J
def PC (M : Mm) (own : Nat → Nat × Nat) (aC : Nat) (C : List (Int32 × Int32)) : Prop := ∃ cs, M aC = some (eL cs) ∧ own aC = (2, 0) ∧ R2 (CaR M) cs C
def PB (M : Mm) (own : Nat → Nat × Nat) (aB : Nat) (B : Nat → List (Int32 × Int32)) : Prop := ∃ f, M aB = some (aR "LeaseHouse$NoteBox" 16 f) ∧ ∀ i, i < 16 → ∃ b, f i = some b ∧ BoR M own i b (B i)
def PW (M : Mm) (aW : Nat) (W : List Int32) : Prop := ∃ aw f, M aW = some (eO 7 [.ref aw, .int (nI W.length)]) ∧ M aw = some (aI 512 f) ∧ W.length ≤ 512 ∧ ∀ i x, W[i]? = some x → f i = x
section PK
variable {Ch : Nat → Nat → Prop} {M M' : Mm} {own : Nat → Nat × Nat}
theorem ThR.keep {a : Nat} {t : Th} (h : ThR M own a t) (hK : Kp Ch M M') (h1 : ¬ Ch 1 a) (h2 : ∀ x, ¬ Ch 2 x) (h3 : ∀ r, own r = (3, a) → ¬ Ch 101 r) : ThR M' own a t := by
  obtain ⟨r, ws, g1, g2, g3, g4⟩ := h
  exact ⟨r, ws, hK a _ g1 h1, hK r _ g2 (h3 r g3), g3, g4.mono (fun x y _ hw => hK x _ hw (h2 x))⟩
theorem PT.keep {aT : Nat} {ts : List Nat} {T : List Th} (h : PT M own aT ts T) (hK : Kp Ch M M') (h1 : ∀ a ∈ ts, ¬ Ch 1 a) (h2 : ∀ x, ¬ Ch 2 x) (h3 : ∀ r a, own r = (3, a) → ¬ Ch 101 r) (h4 : ∀ r, own r = (0, 0) → ¬ Ch 101 r) : PT M' own aT ts T :=
  ⟨hK aT _ h.1 (h4 aT h.2.1), h.2.1, h.2.2.1, h.2.2.2.mono (fun x y hx hw => hw.keep hK (h1 x hx) h2 (fun r hr => h3 r x hr))⟩
theorem PJ.keep {aJ : Nat} {J : List Wt} (h : PJ M own aJ J) (hK : Kp Ch M M') (h3 : ∀ x, ¬ Ch 3 x) (h4 : ∀ r, own r = (1, 0) → ¬ Ch 101 r) : PJ M' own aJ J := by
  obtain ⟨js, g1, g2, g3⟩ := h
  exact ⟨js, hK aJ _ g1 (h4 aJ g2), g2, g3.mono (fun x y _ hw => hK x _ hw (h3 x))⟩
theorem PC.keep {aC : Nat} {C : List (Int32 × Int32)} (h : PC M own aC C) (hK : Kp Ch M M') (h3 : ∀ x, ¬ Ch 4 x) (h4 : ∀ r, own r = (2, 0) → ¬ Ch 101 r) : PC M' own aC C := by
  obtain ⟨js, g1, g2, g3⟩ := h
  exact ⟨js, hK aC _ g1 (h4 aC g2), g2, g3.mono (fun x y _ hw => hK x _ hw (h3 x))⟩
theorem BoR.keep {i b : Nat} {N : List (Int32 × Int32)} (h : BoR M own i b N) (hK : Kp Ch M M') (h5 : ∀ x, ¬ Ch 5 x) (h6 : ¬ Ch 6 b) (h4 : ∀ r, own r = (4, i) → ¬ Ch 101 r) : BoR M' own i b N := by
  obtain ⟨l, ws, g1, g2, g3, g4⟩ := h
  exact ⟨l, ws, hK b _ g1 h6, hK l _ g2 (h4 l g3), g3, g4.mono (fun x y _ hw => hK x _ hw (h5 x))⟩
theorem PB.keep {aB : Nat} {B : Nat → List (Int32 × Int32)} (h : PB M own aB B) (hK : Kp Ch M M') (h5 : ∀ x, ¬ Ch 5 x) (h6 : ∀ x, ¬ Ch 6 x) (h1 : ¬ Ch 100 aB) (h4 : ∀ r i, own r = (4, i) → ¬ Ch 101 r) : PB M' own aB B := by
  obtain ⟨f, g1, g2⟩ := h
  refine ⟨f, hK aB _ g1 h1, fun i hi => ?_⟩
  obtain ⟨b, g3, g4⟩ := g2 i hi
  exact ⟨b, g3, g4.keep hK h5 (h6 b) (fun r hr => h4 r i hr)⟩
theorem PW.keep {aW : Nat} {W : List Int32} (h : PW M aW W) (hK : Kp Ch M M') (h7 : ¬ Ch 7 aW) (h1 : ∀ x, ¬ Ch 100 x) : PW M' aW W := by
  obtain ⟨aw, f, g1, g2, g3⟩ := h
  exact ⟨aw, f, hK aW _ g1 h7, hK aw _ g2 (h1 aw), g3⟩
theorem HoC.keep {h aT aJ aC aB aW : Nat} {tp nw : Int32} (hH : HoC M h aT aJ aC aB aW tp nw) (hK : Kp Ch M M') (h0 : ¬ Ch 0 h) : HoC M' h aT aJ aC aB aW tp nw := hK h _ hH h0
end PK
/-! the wait times -/
section XW
variable {κ : Nat × Nat} {d : Nat} {M : Mm} {a : Nat}
theorem wt_init {e1 e2 : Value} (hM : M a = some (eO 7 [e1, e2])) : G κ m_WaitTimes_init (d + 1) M 0 [some (.ref a)] [] 1 512 (fun v M' => v = none ∧ ∃ r, M r = none ∧ r ≠ κ.1 ∧ M' = up (up M r (aI 512 (fun _ => 0))) a (eO 7 [.ref r, .int 0])) := by
  refine g_seq s_WaitTimes_init_0 rfl ?_
  refine g_objInit l_WaitTimes_3 oi_1 oi_2 d_WaitTimes_init_1 (Nat.le_of_ble_eq_true rfl) ?_
  refine g_seq s_WaitTimes_init_4 rfl ?_
  refine g_newI (k' := 0) (n' := 0) (N := 512) ay_int d_WaitTimes_init_8 (by decide) (by decide) (by decide) (by omega) (by omega) (fun r hr hzr => ?_)
  have har : a ≠ r := fun e => by rw [e, hr] at hM; cases hM
  refine g_putF f_WaitTimes_9 ⟨_, rfl, rfl⟩ rfl d_WaitTimes_init_10 (by rw [up_n har]; exact hM) rfl rfl rfl ?_
  refine g_seq s_WaitTimes_init_13 rfl ?_
  refine g_put f_WaitTimes_15 d_WaitTimes_init_15 (up_s) rfl rfl rfl ?_
  exact g_vret rfl d_WaitTimes_init_18 (⟨rfl, r, hr, hzr, by rw [up_up]⟩)
theorem wt_add {W : List Int32} {x : Int32} (h : PW M a W) (hlen : W.length < 512) : G κ m_WaitTimes_add d M 0 [some (.ref a), some (.int x)] [] 0 0 (fun v M' => v = none ∧ PW M' a (W ++ [x]) ∧ Kp (fun k q => (k = 7 ∧ q = a) ∨ (k = 100 ∧ ∃ aw n, M a = some (eO 7 [.ref aw, n]) ∧ q = aw)) M M') := by
  obtain ⟨aw, f, g1, g2, g3, g4⟩ := h
  have haw : a ≠ aw := fun e => by rw [e, g2] at g1; cases g1
  refine g_seq s_WaitTimes_add_0 rfl ?_
  refine g_get f_WaitTimes_15 d_WaitTimes_add_1 (g1) rfl ?_
  refine g_seq s_WaitTimes_add_4 rfl ?_
  refine g_get f_WaitTimes_9 d_WaitTimes_add_5 (g1) rfl ?_
  refine g_alen d_WaitTimes_add_8 g2 rfl ?_
  refine g_icmp_ge (tgt := 32) d_WaitTimes_add_9 (by decide) (fun hc => absurd hc (nI_ge (show W.length < 512 by omega) (by show 512 < 2 ^ 31; decide))) (fun hc => ?_)
  refine g_seq s_WaitTimes_add_12 rfl ?_
  refine g_get f_WaitTimes_9 d_WaitTimes_add_13 (g1) rfl ?_
  refine g_seq s_WaitTimes_add_16 rfl ?_
  refine g_get f_WaitTimes_15 d_WaitTimes_add_17 (g1) rfl ?_
  refine g_seq s_WaitTimes_add_20 rfl ?_
  refine g_iast d_WaitTimes_add_21 g2 (vp_nI hlen (by omega)) ?_
  rw [nI_cl (by omega)]
  refine g_seq s_WaitTimes_add_22 rfl ?_
  refine g_get f_WaitTimes_15 d_WaitTimes_add_24 (by rw [up_n haw]; exact g1) rfl ?_
  refine g_seq s_WaitTimes_add_27 rfl ?_
  refine g_put f_WaitTimes_15 d_WaitTimes_add_29 (by rw [up_n haw]; exact g1) rfl rfl rfl ?_
  rw [nI_1]
  have hpw : PW (up (up M aw (aI 512 (upd f W.length x))) a (eO 7 [.ref aw, .int (nI (W.length + 1))])) a (W ++ [x]) := by
    refine ⟨aw, upd f W.length x, by rw [up_s]; simp, by rw [up_n haw.symm]; exact up_s, by simp; omega, fun i y hy => ?_⟩
    by_cases hi : i < W.length
    · rw [List.getElem?_append_left hi] at hy
      rw [pk_un (by omega)]
      exact g4 i y hy
    · rw [List.getElem?_append_right (by omega)] at hy
      have hz : i - W.length < 1 := (List.getElem?_eq_some_iff.mp hy).1
      have h0 : i = W.length := by omega
      subst h0
      rw [Nat.sub_self] at hy
      cases hy
      exact pk_us
  exact g_vret rfl d_WaitTimes_add_32 (⟨rfl, hpw, (up_kp g2 (Or.inr ⟨rfl, aw, _, g1, rfl⟩)).tr (up_kp (by rw [up_n haw]; exact g1) (Or.inl ⟨rfl, rfl⟩))⟩)
theorem wt_countFrom {W : List Int32} {lo hh : Int32} (h : PW M a W) : G κ m_WaitTimes_countFrom d M 0 [some (.ref a), some (.int lo), some (.int hh), none, none] [] 0 0 (fun v M' => v = some (.int (nI (sm (fun x : Int32 => if lo ≤ x ∧ x < hh then 1 else 0) W))) ∧ M' = M) := by
  obtain ⟨aw, f, g1, g2, g3, g4⟩ := h
  have loop : ∀ n i, i + n = W.length → G κ m_WaitTimes_countFrom d M 5 [some (.ref a), some (.int lo), some (.int hh), some (.int (nI (sm (fun x : Int32 => if lo ≤ x ∧ x < hh then 1 else 0) (W.take i)))), some (.int (nI i))] [] 0 0 (fun v M' => v = some (.int (nI (sm (fun x : Int32 => if lo ≤ x ∧ x < hh then 1 else 0) W))) ∧ M' = M) := by
    intro n
    induction n with
    | zero =>
      intro i hi
      refine g_seq s_WaitTimes_countFrom_5 rfl ?_
      refine g_get f_WaitTimes_15 d_WaitTimes_countFrom_8 (g1) rfl ?_
      refine g_icmp_ge (tgt := 45) d_WaitTimes_countFrom_11 (by decide) (fun hc => ?_) (fun hc => absurd hc (fun h => h (nI_le (by omega) (by omega))))
      refine g_seq s_WaitTimes_countFrom_45 rfl ?_
      rw [sm_all (by omega)]
      exact g_iret rfl d_WaitTimes_countFrom_46 (⟨rfl, rfl⟩)
    | succ n ih =>
      intro i hi
      have hil : i < W.length := by omega
      have hWi := List.getElem?_eq_getElem hil
      generalize W[i] = wi at hWi
      have hfi := g4 i wi hWi
      have hst := sm_step (f := fun x : Int32 => if lo ≤ x ∧ x < hh then 1 else 0) hWi
      have hih := ih (i + 1) (by omega)
      rw [hst] at hih
      refine g_seq s_WaitTimes_countFrom_5 rfl ?_
      refine g_get f_WaitTimes_15 d_WaitTimes_countFrom_8 (g1) rfl ?_
      refine g_icmp_ge (tgt := 45) d_WaitTimes_countFrom_11 (by decide) (fun hc => absurd hc (nI_ge (by omega) (by omega))) (fun hc => ?_)
      refine g_seq s_WaitTimes_countFrom_14 rfl ?_
      refine g_get f_WaitTimes_9 d_WaitTimes_countFrom_15 (g1) rfl ?_
      refine g_seq s_WaitTimes_countFrom_18 rfl ?_
      refine g_iald d_WaitTimes_countFrom_20 g2 (vp_nI (by omega) (by omega)) ?_
      rw [nI_cl (by omega), hfi]
      refine g_seq s_WaitTimes_countFrom_21 rfl ?_
      refine g_icmp_lt (tgt := 39) d_WaitTimes_countFrom_22 (by decide) (fun h1 => ?_) (fun h1 => ?_)
      · skip
        refine g_seq s_WaitTimes_countFrom_39 rfl ?_
        rw [nI_1]
        rw [if_neg (fun q => absurd h1 (Int32.not_lt.mpr q.1))] at hih
        exact hih
      · skip
        refine g_seq s_WaitTimes_countFrom_25 rfl ?_
        refine g_get f_WaitTimes_9 d_WaitTimes_countFrom_26 (g1) rfl ?_
        refine g_seq s_WaitTimes_countFrom_29 rfl ?_
        refine g_iald d_WaitTimes_countFrom_31 g2 (vp_nI (by omega) (by omega)) ?_
        rw [nI_cl (by omega), hfi]
        refine g_seq s_WaitTimes_countFrom_32 rfl ?_
        refine g_icmp_ge (tgt := 39) d_WaitTimes_countFrom_33 (by decide) (fun h2 => ?_) (fun h2 => ?_)
        · skip
          refine g_seq s_WaitTimes_countFrom_39 rfl ?_
          rw [nI_1]
          rw [if_neg (fun q => absurd q.2 (Int32.not_lt.mpr h2))] at hih
          exact hih
        · skip
          refine g_seq s_WaitTimes_countFrom_36 rfl ?_
          rw [nI_1, nI_1]
          rw [if_pos ⟨Int32.not_lt.mp h1, Int32.not_le.mp h2⟩] at hih
          exact hih
  refine g_seq s_WaitTimes_countFrom_0 rfl ?_
  exact loop W.length 0 (by omega)
def gUp (tk : Int32) (g x : Int32) : Int32 := if x ≤ tk ∧ g < x then x else g
theorem fl_step {α β : Type} {f : β → α → β} {b : β} {l : List α} {i : Nat} {x : α} (h : l[i]? = some x) : (l.take (i + 1)).foldl f b = f ((l.take i).foldl f b) x := by
  rw [List.take_add_one, h]; simp
theorem wt_greatestUpTo {W : List Int32} {tk : Int32} (h : PW M a W) : G κ m_WaitTimes_greatestUpTo d M 0 [some (.ref a), some (.int tk), none, none] [] 0 0 (fun v M' => v = some (.int (W.foldl (gUp tk) (-2))) ∧ M' = M) := by
  obtain ⟨aw, f, g1, g2, g3, g4⟩ := h
  have loop : ∀ n i, i + n = W.length → G κ m_WaitTimes_greatestUpTo d M 5 [some (.ref a), some (.int tk), some (.int ((W.take i).foldl (gUp tk) (-2))), some (.int (nI i))] [] 0 0 (fun v M' => v = some (.int (W.foldl (gUp tk) (-2))) ∧ M' = M) := by
    intro n
    induction n with
    | zero =>
      intro i hi
      refine g_seq s_WaitTimes_greatestUpTo_5 rfl ?_
      refine g_get f_WaitTimes_15 d_WaitTimes_greatestUpTo_7 (g1) rfl ?_
      refine g_icmp_ge (tgt := 46) d_WaitTimes_greatestUpTo_10 (by decide) (fun hc => ?_) (fun hc => absurd hc (fun h => h (nI_le (by omega) (by omega))))
      refine g_seq s_WaitTimes_greatestUpTo_46 rfl ?_
      rw [List.take_of_length_le (by omega)]
      exact g_iret rfl d_WaitTimes_greatestUpTo_47 (⟨rfl, rfl⟩)
    | succ n ih =>
      intro i hi
      have hil : i < W.length := by omega
      have hWi := List.getElem?_eq_getElem hil
      generalize W[i] = wi at hWi
      have hfi := g4 i wi hWi
      have hih := ih (i + 1) (by omega)
      rw [fl_step hWi] at hih
      unfold gUp at hih
      refine g_seq s_WaitTimes_greatestUpTo_5 rfl ?_
      refine g_get f_WaitTimes_15 d_WaitTimes_greatestUpTo_7 (g1) rfl ?_
      refine g_icmp_ge (tgt := 46) d_WaitTimes_greatestUpTo_10 (by decide) (fun hc => absurd hc (nI_ge (by omega) (by omega))) (fun hc => ?_)
      refine g_seq s_WaitTimes_greatestUpTo_13 rfl ?_
      refine g_get f_WaitTimes_9 d_WaitTimes_greatestUpTo_14 (g1) rfl ?_
      refine g_seq s_WaitTimes_greatestUpTo_17 rfl ?_
      refine g_iald d_WaitTimes_greatestUpTo_18 g2 (vp_nI (by omega) (by omega)) ?_
      rw [nI_cl (by omega), hfi]
      refine g_seq s_WaitTimes_greatestUpTo_19 rfl ?_
      refine g_icmp_gt (tgt := 40) d_WaitTimes_greatestUpTo_20 (by decide) (fun h1 => ?_) (fun h1 => ?_)
      · skip
        refine g_seq s_WaitTimes_greatestUpTo_40 rfl ?_
        rw [nI_1]
        rw [if_neg (fun q => absurd h1 (Int32.not_lt.mpr q.1))] at hih
        exact hih
      · skip
        refine g_seq s_WaitTimes_greatestUpTo_23 rfl ?_
        refine g_get f_WaitTimes_9 d_WaitTimes_greatestUpTo_24 (g1) rfl ?_
        refine g_seq s_WaitTimes_greatestUpTo_27 rfl ?_
        refine g_iald d_WaitTimes_greatestUpTo_28 g2 (vp_nI (by omega) (by omega)) ?_
        rw [nI_cl (by omega), hfi]
        refine g_seq s_WaitTimes_greatestUpTo_29 rfl ?_
        refine g_icmp_le (tgt := 40) d_WaitTimes_greatestUpTo_30 (by decide) (fun h2 => ?_) (fun h2 => ?_)
        · skip
          refine g_seq s_WaitTimes_greatestUpTo_40 rfl ?_
          rw [nI_1]
          rw [if_neg (fun q => absurd q.2 (Int32.not_lt.mpr h2))] at hih
          exact hih
        · skip
          refine g_seq s_WaitTimes_greatestUpTo_33 rfl ?_
          refine g_get f_WaitTimes_9 d_WaitTimes_greatestUpTo_34 (g1) rfl ?_
          refine g_seq s_WaitTimes_greatestUpTo_37 rfl ?_
          refine g_iald d_WaitTimes_greatestUpTo_38 g2 (vp_nI (by omega) (by omega)) ?_
          rw [nI_cl (by omega), hfi]
          refine g_seq s_WaitTimes_greatestUpTo_39 rfl ?_
          rw [nI_1]
          rw [if_pos ⟨Int32.not_lt.mp h1, Int32.not_le.mp h2⟩] at hih
          exact hih
  refine g_seq s_WaitTimes_greatestUpTo_0 rfl ?_
  exact loop W.length 0 (by omega)
end XW
