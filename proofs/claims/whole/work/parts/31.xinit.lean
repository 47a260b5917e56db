section GS
variable {κ : Nat × Nat} {μ : MD} {d : Nat} {M : Mm} {pc : Nat} {lv : LV} {rest : List Value} {k n : Nat} {Q : Option Value → Mm → Prop}
/-- an object comes into an array of its own class -/
theorem g_aastS {a N ci v : Nat} {f : Nat → Option Nat} {i : Int32} {q : vw_C} {vs : List Value} (hd : decode μ.2.1 pc = .ok (.aastore, 1)) (hq : vwCl[ci]? = some q) (hM : M a = some (aR q.1 N f)) (hi : vp_in i N) (hv : M v = some (eO ci vs)) (kk : G κ μ d (up M a (aR q.1 N (va_up f i.toNatClampNeg (some v)))) (pc + 1) lv rest k n Q) : G κ μ d M pc lv (.ref v :: .int i :: .ref a :: rest) k n Q := by
  intro p l e R s m args below meth c D A H locs cells slots ls C hS hM0 hl
  obtain ⟨hx, hb, hr, hml, hown, hts, hnw, hlk, hnm, hdf, hdl, hkc, hks, hA, hE0⟩ := id C
  obtain ⟨ws, tys, bk, hK, hP, hD, hz, hEn⟩ := id hM0
  obtain ⟨cA, h1, h2⟩ := hEn a _ hM
  obtain ⟨q0, h3⟩ := List.getElem?_of_mem h1
  obtain ⟨t0, h4⟩ := List.getElem?_of_mem h2
  obtain ⟨qk, h5⟩ := List.getElem?_of_mem (hEn v _ hv)
  refine va_astq hx hb hK hP hD hS q0 t0 qk ci h3 h4 h5 hq hi hd (fun H1 locs1 hP1 hD1 hS1 => ?_)
  exact kk p l e R s m args below meth c D A H1 locs1 cells slots ls C hS1 (mm_set hK hD hz hEn h3 hM (fun xs h => by cases h) ⟨cA, mem_self h3, h2⟩ hP1 hD1) hl
end GS
section XB
variable {κ : Nat × Nat} {d : Nat} {M : Mm} {h : Nat}
theorem x_tickB {c : Int32} (hc : ¬ (0 ≤ c ∧ c ≤ 60)) : G κ m_LH_tick d M 0 [some (.ref h), some (.int c), none, none, none, none] [] 0 0 (fun v M' => v = some (.int (-1)) ∧ M' = M) := by
  refine g_seq s_LH_tick_0 rfl ?_
  refine g_if_lt (tgt := 10) d_LH_tick_1 (by decide) (fun h1 => ?_) (fun h1 => ?_)
  · skip
    refine g_seq s_LH_tick_10 rfl ?_
    exact g_iret rfl d_LH_tick_11 (⟨rfl, rfl⟩)
  · skip
    refine g_seq s_LH_tick_4 rfl ?_
    refine g_icmp_le (tgt := 12) d_LH_tick_7 (by decide) (fun hbr => absurd hbr (fun h2 => hc ⟨Int32.not_lt.mp h1, h2⟩)) (fun hbr => ?_)
    refine g_seq s_LH_tick_10 rfl ?_
    exact g_iret rfl d_LH_tick_11 (⟨rfl, rfl⟩)
/-- the boxes' part, the first n made -/
def PBn (M : Mm) (own : Nat → Nat × Nat) (aB n : Nat) : Prop := ∃ f, M aB = some (aR "LeaseHouse$NoteBox" 16 f) ∧ ∀ i, i < n → ∃ b, f i = some b ∧ BoR M own i b []
theorem x_init {s : Int32} (hM : M h = some (eO 0 [.null, .null, .null, .null, .null, .int 0, .int 0])) : G κ m_LH_init (d + 5) M 0 [some (.ref h), some (.int s), none] [] 38 603 (fun v M' => v = none ∧ XQ M' h [] [] [] (fun _ => []) [] 0 0) := by
  have loop : ∀ n c (Mc : Mm) (own : Nat → Nat × Nat) (q1 q2 q3 qB qW : Nat), c + n = 16 → HoC Mc h q1 q2 q3 qB qW 0 0 → Mc q1 = some (eL []) → own q1 = (0, 0) → Mc q2 = some (eL []) → own q2 = (1, 0) → Mc q3 = some (eL []) → own q3 = (2, 0) → PBn Mc own qB c → PW Mc qW [] →
      G κ m_LH_init (d + 5) Mc 69 [some (.ref h), some (.int s), some (.int (nI c))] [] (2 * n) (4 * n) (fun v M' => v = none ∧ XQ M' h [] [] [] (fun _ => []) [] 0 0) := by
    intro n
    induction n with
    | zero =>
      intro c Mc own q1 q2 q3 qB qW hc g1 g2 g3 g4 g5 g6 g7 g8 g9
      have h16 : c = 16 := by omega
      subst h16
      obtain ⟨f, f1, f2⟩ := g8
      refine g_seq s_LH_init_69 rfl ?_
      refine g_icmp_ge (tgt := 94) d_LH_init_72 (by decide) (fun hbr => ?_) (fun hbr => absurd hbr (fun h => h (by decide)))
      exact g_vret rfl d_LH_init_94 (⟨rfl, own, q1, q2, q3, qB, qW, [], g1, ⟨g2, g3, by simp, R2.nil⟩, ⟨[], g4, g5, R2.nil⟩, ⟨[], g6, g7, R2.nil⟩, ⟨f, f1, f2⟩, g9⟩)
    | succ n ih =>
      intro c Mc own q1 q2 q3 qB qW hc g1 g2 g3 g4 g5 g6 g7 g8 g9
      have hcl : c < 16 := by omega
      obtain ⟨f, f1, f2⟩ := g8
      refine g_seq s_LH_init_69 rfl ?_
      refine g_icmp_ge (tgt := 94) d_LH_init_72 (by decide) (fun hbr => absurd hbr ((show ¬ nI 16 ≤ nI c from nI_ge hcl (by omega)))) (fun hbr => ?_)
      refine g_seq s_LH_init_75 rfl ?_
      refine g_get f_LH_24 d_LH_init_76 (g1) rfl ?_
      refine g_seq s_LH_init_79 rfl ?_
      refine g_new (k' := (2*n+1)) (n' := (4*n+3)) n_LH_22 d_LH_init_80 (by first | omega | (simp <;> omega)) (by first | omega | (simp <;> omega)) (fun b hb hzb => ?_)
      have nb : ∀ x e, Mc x = some e → x ≠ b := fun x e hx e2 => by rw [e2, hb] at hx; cases hx
      refine g_seq s_LH_init_83 rfl ?_
      refine g_invIN (k2 := 2 * n) (n2 := 4 * n) l_LH_42 d_LH_init_84 rfl ⟨rfl, Nat.le_of_ble_eq_true rfl, Nat.le_of_ble_eq_true rfl⟩ (b_init up_s) (by first | omega | (simp <;> omega)) (by first | omega | (simp <;> omega)) ?_
      rintro v M2 ⟨rfl, r, hr, hrz, rfl⟩
      have hrb : r ≠ b := fun e => by rw [e, up_s] at hr; cases hr
      have hr0 : Mc r = none := by rw [up_n hrb] at hr; exact hr
      have nr : ∀ x e, Mc x = some e → x ≠ r := fun x e hx e2 => by rw [e2, hr0] at hx; cases hx
      have hk : ∀ x e, Mc x = some e → up (up (up Mc b (eO 6 [.null])) r (eL [])) b (eO 6 [.ref r]) x = some e := fun x e hx => by rw [up_n (nb x e hx), up_n (nr x e hx), up_n (nb x e hx)]; exact hx
      have hbb : up (up (up Mc b (eO 6 [.null])) r (eL [])) b (eO 6 [.ref r]) b = some (eO 6 [.ref r]) := up_s
      have hrr : up (up (up Mc b (eO 6 [.null])) r (eL [])) b (eO 6 [.ref r]) r = some (eL []) := by rw [up_n hrb]; exact up_s
      generalize up (up (up Mc b (eO 6 [.null])) r (eL [])) b (eO 6 [.ref r]) = M2 at hk hbb hrr
      refine g_aastS d_LH_init_87 rfl (hk qB _ f1) (vp_nI hcl (by omega)) hbb ?_
      rw [nI_cl (by omega)]
      refine g_seq s_LH_init_88 rfl ?_
      rw [nI_1]
      have hk3 : ∀ x e, Mc x = some e → x ≠ qB → up M2 qB (aR "LeaseHouse$NoteBox" 16 (va_up f c (some b))) x = some e := fun x e hx hne => by rw [up_n hne]; exact hk x e hx
      have nqB : ∀ x e, Mc x = some e → (kd e == 100) = false → x ≠ qB := fun x e hx hne e2 => by rw [e2, f1] at hx; cases hx; cases hne
      have hrq : r ≠ qB := fun e => by rw [e, f1] at hr0; cases hr0
      have hbq : b ≠ qB := fun e => by rw [e, f1] at hb; cases hb
      obtain ⟨aw, fw, w1, w2, w3⟩ := id g9
      have hawq : aw ≠ qB := fun e => by rw [e, f1] at w2; cases w2
      refine ih (c + 1) _ (fun x => if x = r then (4, c) else own x) q1 q2 q3 qB qW (by omega) (hk3 h _ g1 (nqB h _ g1 rfl)) (hk3 q1 _ g2 (nqB q1 _ g2 rfl)) ((if_neg (nr q1 _ g2)).trans g3) (hk3 q2 _ g4 (nqB q2 _ g4 rfl)) ((if_neg (nr q2 _ g4)).trans g5) (hk3 q3 _ g6 (nqB q3 _ g6 rfl)) ((if_neg (nr q3 _ g6)).trans g7) ?_ ⟨aw, fw, hk3 qW _ w1 (nqB qW _ w1 rfl), hk3 aw _ w2 hawq, w3⟩
      refine ⟨_, up_s, fun i hi => ?_⟩
      by_cases hic : i = c
      · subst hic
        exact ⟨b, va_up_self _ _ _, r, [], (up_n hbq).trans hbb, (up_n hrq).trans hrr, if_pos rfl, R2.nil⟩
      · obtain ⟨b', e1, l, ws, e2, e3, e4, e5⟩ := f2 i (by omega)
        have hws : ws = [] := List.length_eq_zero_iff.mp e5.1
        subst hws
        exact ⟨b', by rw [va_up_ne _ _ hic]; exact e1, l, [], hk3 b' _ e2 (nqB b' _ e2 rfl), hk3 l _ e3 (nqB l _ e3 rfl), (if_neg (nr l _ e3)).trans e4, R2.nil⟩
  refine g_seq s_LH_init_0 rfl ?_
  refine g_objInit l_LH_1 oi_1 oi_2 d_LH_init_1 (Nat.le_of_ble_eq_true rfl) ?_
  refine g_seq s_LH_init_4 rfl ?_
  refine g_new (k' := 37) (n' := 600) n_LH_7 d_LH_init_5 (by first | omega | (simp <;> omega)) (by first | omega | (simp <;> omega)) (fun q1 hq1 hzq1 => ?_)
  have n1 : h ≠ q1 := fun e => by rw [e, hq1] at hM; cases hM
  refine g_seq s_LH_init_8 rfl ?_
  refine g_invI (k2 := 37) (n2 := 600) l_LH_9 d_LH_init_9 rfl ⟨rfl, Nat.le_of_ble_eq_true rfl, Nat.le_of_ble_eq_true rfl⟩ (al_init (mc := 0) (e2 := .null) up_s) (by first | omega | (simp <;> omega)) (by first | omega | (simp <;> omega)) ?_
  rintro v M1 ⟨rfl, rfl⟩
  rw [up_up]
  refine g_putF f_LH_10 ⟨_, rfl, rfl⟩ rfl d_LH_init_12 ((up_n n1).trans hM) rfl rfl rfl ?_
  have a1 : up (up M q1 (eL [])) h (eO 0 [.ref q1, .null, .null, .null, .null, .int 0, .int 0]) q1 = some (eL []) := by rw [up_n n1.symm]; exact up_s
  have a0 : up (up M q1 (eL [])) h (eO 0 [.ref q1, .null, .null, .null, .null, .int 0, .int 0]) h = some (eO 0 [.ref q1, .null, .null, .null, .null, .int 0, .int 0]) := up_s
  generalize up (up M q1 (eL [])) h (eO 0 [.ref q1, .null, .null, .null, .null, .int 0, .int 0]) = M1 at a1 a0
  refine g_seq s_LH_init_15 rfl ?_
  refine g_new (k' := 36) (n' := 597) n_LH_7 d_LH_init_16 (by first | omega | (simp <;> omega)) (by first | omega | (simp <;> omega)) (fun q2 hq2 hzq2 => ?_)
  have n2 : ∀ x e, M1 x = some e → x ≠ q2 := fun x e hx e2 => by rw [e2, hq2] at hx; cases hx
  refine g_seq s_LH_init_19 rfl ?_
  refine g_invI (k2 := 36) (n2 := 597) l_LH_9 d_LH_init_20 rfl ⟨rfl, Nat.le_of_ble_eq_true rfl, Nat.le_of_ble_eq_true rfl⟩ (al_init (mc := 0) (e2 := .null) up_s) (by first | omega | (simp <;> omega)) (by first | omega | (simp <;> omega)) ?_
  rintro v M2 ⟨rfl, rfl⟩
  rw [up_up]
  refine g_putF f_LH_16 ⟨_, rfl, rfl⟩ rfl d_LH_init_23 ((up_n (n2 h _ a0)).trans a0) rfl rfl rfl ?_
  have b0 : up (up M1 q2 (eL [])) h (eO 0 [.ref q1, .ref q2, .null, .null, .null, .int 0, .int 0]) h = some (eO 0 [.ref q1, .ref q2, .null, .null, .null, .int 0, .int 0]) := up_s
  have h1 : q1 ≠ h := n1.symm
  have b1 : up (up M1 q2 (eL [])) h (eO 0 [.ref q1, .ref q2, .null, .null, .null, .int 0, .int 0]) q1 = some (eL []) := by rw [up_n h1, up_n (n2 q1 _ a1)]; exact a1
  have b2 : up (up M1 q2 (eL [])) h (eO 0 [.ref q1, .ref q2, .null, .null, .null, .int 0, .int 0]) q2 = some (eL []) := by rw [up_n (n2 h _ a0).symm]; exact up_s
  have h2 : q2 ≠ h := (n2 h _ a0).symm
  have d12 : q1 ≠ q2 := n2 q1 _ a1
  generalize up (up M1 q2 (eL [])) h (eO 0 [.ref q1, .ref q2, .null, .null, .null, .int 0, .int 0]) = M2 at b0 b1 b2
  refine g_seq s_LH_init_26 rfl ?_
  refine g_new (k' := 35) (n' := 594) n_LH_7 d_LH_init_27 (by first | omega | (simp <;> omega)) (by first | omega | (simp <;> omega)) (fun q3 hq3 hzq3 => ?_)
  have n3 : ∀ x e, M2 x = some e → x ≠ q3 := fun x e hx e2 => by rw [e2, hq3] at hx; cases hx
  refine g_seq s_LH_init_30 rfl ?_
  refine g_invI (k2 := 35) (n2 := 594) l_LH_9 d_LH_init_31 rfl ⟨rfl, Nat.le_of_ble_eq_true rfl, Nat.le_of_ble_eq_true rfl⟩ (al_init (mc := 0) (e2 := .null) up_s) (by first | omega | (simp <;> omega)) (by first | omega | (simp <;> omega)) ?_
  rintro v M3 ⟨rfl, rfl⟩
  rw [up_up]
  refine g_putF f_LH_19 ⟨_, rfl, rfl⟩ rfl d_LH_init_34 ((up_n (n3 h _ b0)).trans b0) rfl rfl rfl ?_
  have c0 : up (up M2 q3 (eL [])) h (eO 0 [.ref q1, .ref q2, .ref q3, .null, .null, .int 0, .int 0]) h = some (eO 0 [.ref q1, .ref q2, .ref q3, .null, .null, .int 0, .int 0]) := up_s
  have c1 : up (up M2 q3 (eL [])) h (eO 0 [.ref q1, .ref q2, .ref q3, .null, .null, .int 0, .int 0]) q1 = some (eL []) := by rw [up_n h1, up_n (n3 q1 _ b1)]; exact b1
  have c2 : up (up M2 q3 (eL [])) h (eO 0 [.ref q1, .ref q2, .ref q3, .null, .null, .int 0, .int 0]) q2 = some (eL []) := by rw [up_n h2, up_n (n3 q2 _ b2)]; exact b2
  have h3 : q3 ≠ h := (n3 h _ b0).symm
  have c3 : up (up M2 q3 (eL [])) h (eO 0 [.ref q1, .ref q2, .ref q3, .null, .null, .int 0, .int 0]) q3 = some (eL []) := by rw [up_n h3]; exact up_s
  have d13 : q1 ≠ q3 := n3 q1 _ b1
  have d23 : q2 ≠ q3 := n3 q2 _ b2
  generalize up (up M2 q3 (eL [])) h (eO 0 [.ref q1, .ref q2, .ref q3, .null, .null, .int 0, .int 0]) = M3 at c0 c1 c2 c3
  refine g_seq s_LH_init_37 rfl ?_
  refine g_newR (k' := 34) (n' := 578) (N := 16) cl_LH_22 ao_NoteBox d_LH_init_40 (by decide) (by decide) (by decide) (by omega) (by omega) (fun qB hqB hzB => ?_)
  have nB : ∀ x e, M3 x = some e → x ≠ qB := fun x e hx e2 => by rw [e2, hqB] at hx; cases hx
  refine g_putF f_LH_24 ⟨_, rfl, rfl⟩ rfl d_LH_init_43 ((up_n (nB h _ c0)).trans c0) rfl rfl rfl ?_
  have hB : qB ≠ h := (nB h _ c0).symm
  have k4 : ∀ x e, M3 x = some e → x ≠ h → up (up M3 qB (aR "LeaseHouse$NoteBox" 16 (fun _ => none))) h (eO 0 [.ref q1, .ref q2, .ref q3, .ref qB, .null, .int 0, .int 0]) x = some e := fun x e hx hne => by rw [up_n hne, up_n (nB x e hx)]; exact hx
  have e0 : up (up M3 qB (aR "LeaseHouse$NoteBox" 16 (fun _ => none))) h (eO 0 [.ref q1, .ref q2, .ref q3, .ref qB, .null, .int 0, .int 0]) h = some (eO 0 [.ref q1, .ref q2, .ref q3, .ref qB, .null, .int 0, .int 0]) := up_s
  have eB : up (up M3 qB (aR "LeaseHouse$NoteBox" 16 (fun _ => none))) h (eO 0 [.ref q1, .ref q2, .ref q3, .ref qB, .null, .int 0, .int 0]) qB = some (aR "LeaseHouse$NoteBox" 16 (fun _ => none)) := by rw [up_n hB]; exact up_s
  have e1 := k4 q1 _ c1 h1
  have e2 := k4 q2 _ c2 h2
  have e3 := k4 q3 _ c3 h3
  clear k4
  generalize up (up M3 qB (aR "LeaseHouse$NoteBox" 16 (fun _ => none))) h (eO 0 [.ref q1, .ref q2, .ref q3, .ref qB, .null, .int 0, .int 0]) = M4 at e0 eB e1 e2 e3
  refine g_seq s_LH_init_46 rfl ?_
  refine g_new (k' := 33) (n' := 576) n_LH_28 d_LH_init_47 (by first | omega | (simp <;> omega)) (by first | omega | (simp <;> omega)) (fun qW hqW hzqW => ?_)
  have nW2 : ∀ x e, M4 x = some e → x ≠ qW := fun x e hx e2 => by rw [e2, hqW] at hx; cases hx
  refine g_seq s_LH_init_50 rfl ?_
  refine g_invIN (k2 := 32) (n2 := 64) l_LH_30 d_LH_init_51 rfl ⟨rfl, Nat.le_of_ble_eq_true rfl, Nat.le_of_ble_eq_true rfl⟩ (wt_init up_s) (by first | omega | (simp <;> omega)) (by first | omega | (simp <;> omega)) ?_
  rintro v M5 ⟨rfl, aw, haw, hawz, rfl⟩
  have hawW : aw ≠ qW := fun e => by rw [e, up_s] at haw; cases haw
  have haw0 : M4 aw = none := by rw [up_n hawW] at haw; exact haw
  have nw2 : ∀ x e, M4 x = some e → x ≠ aw := fun x e hx e2 => by rw [e2, haw0] at hx; cases hx
  have hW : qW ≠ h := (nW2 h _ e0).symm
  have k5 : ∀ x e, M4 x = some e → up (up (up M4 qW (eO 7 [.null, .int 0])) aw (aI 512 (fun _ => 0))) qW (eO 7 [.ref aw, .int 0]) x = some e := fun x e hx => by rw [up_n (nW2 x e hx), up_n (nw2 x e hx), up_n (nW2 x e hx)]; exact hx
  have f0 : up (up (up M4 qW (eO 7 [.null, .int 0])) aw (aI 512 (fun _ => 0))) qW (eO 7 [.ref aw, .int 0]) qW = some (eO 7 [.ref aw, .int 0]) := up_s
  have fw : up (up (up M4 qW (eO 7 [.null, .int 0])) aw (aI 512 (fun _ => 0))) qW (eO 7 [.ref aw, .int 0]) aw = some (aI 512 (fun _ => 0)) := by rw [up_n hawW]; exact up_s
  have hawh : aw ≠ h := (nw2 h _ e0).symm
  generalize up (up (up M4 qW (eO 7 [.null, .int 0])) aw (aI 512 (fun _ => 0))) qW (eO 7 [.ref aw, .int 0]) = M5 at k5 f0 fw
  refine g_putF f_LH_31 ⟨_, rfl, rfl⟩ rfl d_LH_init_54 (k5 h _ e0) rfl rfl rfl ?_
  refine g_seq s_LH_init_57 rfl ?_
  refine g_put f_LH_35 d_LH_init_59 (up_s) rfl rfl rfl ?_
  rw [up_up]
  refine g_seq s_LH_init_62 rfl ?_
  refine g_put f_LH_39 d_LH_init_64 (up_s) rfl rfl rfl ?_
  rw [up_up]
  refine g_seq s_LH_init_67 rfl ?_
  refine loop 16 0 _ (fun x => if x = q1 then (0, 0) else if x = q2 then (1, 0) else (2, 0)) q1 q2 q3 qB qW (by omega) up_s ((up_n h1).trans (k5 q1 _ e1)) (if_pos rfl) ((up_n h2).trans (k5 q2 _ e2)) ?_ ((up_n h3).trans (k5 q3 _ e3)) ?_ ⟨_, (up_n hB).trans (k5 qB _ eB), fun i hi => absurd hi (Nat.not_lt_zero _)⟩ ⟨aw, _, (up_n hW).trans f0, (up_n hawh).trans fw, Nat.zero_le _, fun i x hx => by simp at hx⟩
  · rw [if_neg d12.symm, if_pos rfl]
  · rw [if_neg d13.symm, if_neg d23.symm]
end XB
