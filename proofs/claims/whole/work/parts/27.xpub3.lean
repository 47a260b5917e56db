def insA {α : Type} (xs : List α) (j : Nat) (x : α) : List α := xs.take j ++ x :: xs.drop j
theorem R2.ap {α : Type} {R : Nat → α → Prop} {xs xs' : List Nat} {ys ys' : List α} (h : R2 R xs ys) (h' : R2 R xs' ys') : R2 R (xs ++ xs') (ys ++ ys') := by
  refine ⟨by simp [h.1, h'.1], fun i a b ha hb => ?_⟩
  by_cases hi : i < xs.length
  · rw [List.getElem?_append_left hi] at ha
    rw [List.getElem?_append_left (by rw [← h.1]; exact hi)] at hb
    exact h.2 i a b ha hb
  · rw [List.getElem?_append_right (by omega)] at ha
    rw [List.getElem?_append_right (by rw [← h.1]; omega), ← h.1] at hb
    exact h'.2 _ a b ha hb
theorem R2.take {α : Type} {R : Nat → α → Prop} {xs : List Nat} {ys : List α} (h : R2 R xs ys) (j : Nat) : R2 R (xs.take j) (ys.take j) := by
  refine ⟨by simp [h.1], fun i a b ha hb => ?_⟩
  rw [List.getElem?_take] at ha hb
  split at ha
  · rename_i hij
    rw [if_pos hij] at hb
    exact h.2 i a b ha hb
  · cases ha
theorem R2.drop {α : Type} {R : Nat → α → Prop} {xs : List Nat} {ys : List α} (h : R2 R xs ys) (j : Nat) : R2 R (xs.drop j) (ys.drop j) := by
  refine ⟨by simp [h.1], fun i a b ha hb => ?_⟩
  rw [List.getElem?_drop] at ha hb
  exact h.2 _ a b ha hb
theorem R2.one {α : Type} {R : Nat → α → Prop} {x : Nat} {y : α} (h : R x y) : R2 R [x] [y] := by
  have := (R2.nil (R := R)).snoc h
  exact this
theorem R2.ins {α : Type} {R : Nat → α → Prop} {xs : List Nat} {ys : List α} {x : Nat} {y : α} (h : R2 R xs ys) (j : Nat) (hxy : R x y) : R2 R (insA xs j x) (insA ys j y) := (h.take j).ap ((R2.one hxy).ap (h.drop j))
section XJ
variable {κ : Nat × Nat} {d : Nat} {M M' : Mm} {a i : Nat} {own : Nat → Nat × Nat} {h aT aJ aC aB aW : Nat} {ts : List Nat} {T : List Th} {J J' : List Wt} {C C' : List (Int32 × Int32)} {B B' : Nat → List (Int32 × Int32)} {W W' : List Int32} {tp nw : Int32}
theorem XP.new {q : Nat} {e : EE} (hX : XP M own h aT aJ aC aB aW ts T J C B W tp nw) (hq : M q = none) : XP (up M q e) own h aT aJ aC aB aW ts T J C B W tp nw := by
  obtain ⟨h1, h2, h3, h4, h5, h6⟩ := hX
  have hK : Kp (fun _ _ => False) M (up M q e) := up_kpn hq
  exact ⟨h1.keep hK (fun h => h), h2.keep hK (fun _ _ h => h) (fun _ h => h) (fun _ _ _ h => h) (fun _ _ h => h), h3.keep hK (fun _ h => h) (fun _ _ h => h), h4.keep hK (fun _ h => h) (fun _ _ h => h), h5.keep hK (fun _ h => h) (fun _ h => h) (fun h => h) (fun _ _ _ h => h), h6.keep hK (fun h => h) (fun _ h => h)⟩
theorem XP.jobs {js js' : List Nat} (hX : XP M own h aT aJ aC aB aW ts T J C B W tp nw) (hJ : M aJ = some (eL js)) (hR : R2 (JoR M) js' J') : XP (up M aJ (eL js')) own h aT aJ aC aB aW ts T J' C B W tp nw := by
  obtain ⟨h1, h2, h3, h4, h5, h6⟩ := hX
  have ho : own aJ = (1, 0) := by obtain ⟨_, _, g, _⟩ := h3; exact g
  have hK : Kp (fun k q => k = 101 ∧ q = aJ) M (up M aJ (eL js')) := up_kp hJ ⟨rfl, rfl⟩
  have n : ∀ {k q : Nat}, k ≠ 101 → ¬ (k = 101 ∧ q = aJ) := fun n1 hh => n1 hh.1
  have nL : ∀ {r x y : Nat}, own r = (x, y) → x ≠ 1 → ¬ (101 = 101 ∧ r = aJ) := fun hr hx hh => by rw [hh.2, ho] at hr; exact hx (congrArg Prod.fst hr).symm
  exact ⟨h1.keep hK (n (by decide)), h2.keep hK (fun _ _ => n (by decide)) (fun _ => n (by decide)) (fun _ _ hr => nL hr (by decide)) (fun _ hr => nL hr (by decide)), ⟨js', up_s, ho, hR.mono (fun x y _ hw => hK x _ hw (n (k := 3) (by decide)))⟩, h4.keep hK (fun _ => n (by decide)) (fun _ hr => nL hr (by decide)), h5.keep hK (fun _ => n (by decide)) (fun _ => n (by decide)) (n (by decide)) (fun _ _ hr => nL hr (by decide)), h6.keep hK (n (by decide)) (fun _ => n (by decide))⟩
theorem XP.cach {js js' : List Nat} (hX : XP M own h aT aJ aC aB aW ts T J C B W tp nw) (hC : M aC = some (eL js)) (hR : R2 (CaR M) js' C') : XP (up M aC (eL js')) own h aT aJ aC aB aW ts T J C' B W tp nw := by
  obtain ⟨h1, h2, h3, h4, h5, h6⟩ := hX
  have ho : own aC = (2, 0) := by obtain ⟨_, _, g, _⟩ := h4; exact g
  have hK : Kp (fun k q => k = 101 ∧ q = aC) M (up M aC (eL js')) := up_kp hC ⟨rfl, rfl⟩
  have n : ∀ {k q : Nat}, k ≠ 101 → ¬ (k = 101 ∧ q = aC) := fun n1 hh => n1 hh.1
  have nL : ∀ {r x y : Nat}, own r = (x, y) → x ≠ 2 → ¬ (101 = 101 ∧ r = aC) := fun hr hx hh => by rw [hh.2, ho] at hr; exact hx (congrArg Prod.fst hr).symm
  exact ⟨h1.keep hK (n (by decide)), h2.keep hK (fun _ _ => n (by decide)) (fun _ => n (by decide)) (fun _ _ hr => nL hr (by decide)) (fun _ hr => nL hr (by decide)), h3.keep hK (fun _ => n (by decide)) (fun _ hr => nL hr (by decide)), ⟨js', up_s, ho, hR.mono (fun x y _ hw => hK x _ hw (n (k := 4) (by decide)))⟩, h5.keep hK (fun _ => n (by decide)) (fun _ => n (by decide)) (n (by decide)) (fun _ _ hr => nL hr (by decide)), h6.keep hK (n (by decide)) (fun _ => n (by decide))⟩
theorem XP.box {f : Nat → Option Nat} {c b l : Nat} {ws ws' : List Nat} (hX : XP M own h aT aJ aC aB aW ts T J C B W tp nw) (h1 : M aB = some (aR "LeaseHouse$NoteBox" 16 f)) (h2 : ∀ i, i < 16 → ∃ b, f i = some b ∧ BoR M own i b (B i)) (hb : f c = some b) (hMb : M b = some (eO 6 [.ref l])) (hl : M l = some (eL ws)) (ho : own l = (4, c)) (hR : R2 (NoR M) ws' (B' c)) (hB : ∀ i, i ≠ c → B' i = B i) : XP (up M l (eL ws')) own h aT aJ aC aB aW ts T J C B' W tp nw := by
  obtain ⟨g1, g2, g3, g4, g5, g6⟩ := hX
  have hK : Kp (fun k q => k = 101 ∧ q = l) M (up M l (eL ws')) := up_kp hl ⟨rfl, rfl⟩
  have n : ∀ {k q : Nat}, k ≠ 101 → ¬ (k = 101 ∧ q = l) := fun n1 hh => n1 hh.1
  have nL : ∀ {r x y : Nat}, own r = (x, y) → x ≠ 4 → ¬ (101 = 101 ∧ r = l) := fun hr hx hh => by rw [hh.2, ho] at hr; exact hx (congrArg Prod.fst hr).symm
  exact ⟨g1.keep hK (n (by decide)), g2.keep hK (fun _ _ => n (by decide)) (fun _ => n (by decide)) (fun _ _ hr => nL hr (by decide)) (fun _ hr => nL hr (by decide)), g3.keep hK (fun _ => n (by decide)) (fun _ hr => nL hr (by decide)), g4.keep hK (fun _ => n (by decide)) (fun _ hr => nL hr (by decide)), PB_box h1 h2 hb hMb hl ho rfl hR hB, g6.keep hK (n (by decide)) (fun _ => n (by decide))⟩
theorem x_job {rk du : Int32} (hX : XQ M h T J C B W tp nw) (h30 : J.length ≤ 30) : G κ m_LH_job (d + 6) M 0 [some (.ref h), some (.int rk), some (.int du), none] [] 2 80 (fun v M' => (tp = 0 ∧ v = some (.int (-1)) ∧ M' = M) ∨ (tp ≠ 0 ∧ J.length = 30 ∧ v = some (.int (-3)) ∧ M' = M) ∨ (tp ≠ 0 ∧ J.length < 30 ∧ v = some (.int (nI (J.length + 1))) ∧ ∃ o, FI (fun e : Wt => gob (tp, rk, du) e) J o ∧ XQ M' h T (insA J (o.getD J.length) (tp, rk, du)) C B W tp nw)) := by
  obtain ⟨own, aT, aJ, aC, aB, aW, ts, hP⟩ := hX
  have hH := hP.1
  obtain ⟨js, hj1, hj2, hj3⟩ := id hP.2.2.1
  have hjl : js.length = J.length := hj3.1
  refine g_seq s_LH_job_0 rfl ?_
  refine g_get f_LH_35 d_LH_job_1 (hH) rfl ?_
  refine g_if_ne (tgt := 9) d_LH_job_4 (by decide) (fun h1 => ?_) (fun h1 => ?_)
  · skip
    refine g_seq s_LH_job_9 rfl ?_
    refine g_get f_LH_16 d_LH_job_10 (hH) rfl ?_
    refine g_invL (k2 := 2) (n2 := 80) l_LH_98 d_LH_job_13 rfl ⟨rfl, Nat.le_of_ble_eq_true rfl, Nat.le_of_ble_eq_true rfl⟩ (hj1) (al_size hj1) (by first | omega | (simp <;> omega)) (by first | omega | (simp <;> omega)) ?_
    rintro v M1 ⟨rfl, rfl⟩
    refine g_seq s_LH_job_16 rfl ?_
    refine g_icmp_lt (tgt := 24) d_LH_job_18 (by decide) (fun h2 => ?_) (fun h2 => ?_)
    · skip
      have hlt : J.length < 30 := by
        rcases Nat.lt_or_ge J.length 30 with q | q
        · exact q
        · exact absurd h2 (show ¬ nI js.length < nI 30 from nI_nlt (by omega) (by omega))
      refine g_new (k' := 1) (n' := 77) n_LH_117 d_LH_job_24 (by first | omega | (simp <;> omega)) (by first | omega | (simp <;> omega)) (fun q hq hzq => ?_)
      have nq : ∀ x e, M1 x = some e → x ≠ q := fun x e hx e2 => by rw [e2, hq] at hx; cases hx
      refine g_seq s_LH_job_27 rfl ?_
      refine g_get f_LH_35 d_LH_job_29 ((up_n (nq h _ hH)).trans hH) rfl ?_
      refine g_seq s_LH_job_32 rfl ?_
      refine g_invIN (k2 := 1) (n2 := 77) l_LH_119 d_LH_job_34 rfl ⟨rfl, Nat.le_of_ble_eq_true rfl, Nat.le_of_ble_eq_true rfl⟩ (j_init up_s) (by first | omega | (simp <;> omega)) (by first | omega | (simp <;> omega)) ?_
      rintro v M2 ⟨rfl, rfl⟩
      rw [up_up]
      have hP2 := hP.new (e := eO 3 [.int tp, .int rk, .int du]) hq
      have hjq : JoR (up M1 q (eO 3 [.int tp, .int rk, .int du])) q (tp, rk, du) := up_s
      have hj1' : up M1 q (eO 3 [.int tp, .int rk, .int du]) aJ = some (eL js) := (up_n (nq aJ _ hj1)).trans hj1
      have hj3' : R2 (JoR (up M1 q (eO 3 [.int tp, .int rk, .int du]))) js J := hj3.mono (fun x y _ hz => (up_n (nq x _ hz)).trans hz)
      generalize up M1 q (eO 3 [.int tp, .int rk, .int du]) = M2 at hP2 hjq hj1' hj3'
      refine g_seq s_LH_job_37 rfl ?_
      refine g_get f_LH_16 d_LH_job_39 (hP2.1) rfl ?_
      refine g_seq s_LH_job_42 rfl ?_
      refine g_invV (k2 := 1) (n2 := 77) l_LH_122 d_LH_job_44 rfl ⟨rfl, Nat.le_of_ble_eq_true rfl, Nat.le_of_ble_eq_true rfl⟩ (hP2.1) (x_findTurnOf hP2.1 hj1' hj3' hjq (by omega)) (by first | omega | (simp <;> omega)) (by first | omega | (simp <;> omega)) ?_
      rintro v M3 ⟨o, hFI, rfl, rfl⟩
      have hle : o.getD J.length ≤ js.length := by
        cases o with
        | none => rw [hjl]; exact Nat.le_refl _
        | some i =>
          obtain ⟨y, hy, -⟩ := hFI
          have := (List.getElem?_eq_some_iff.mp hy).1
          show i ≤ js.length
          omega
      refine g_seq s_LH_job_47 rfl ?_
      refine g_invL (k2 := 0) (n2 := 0) l_LH_126 d_LH_job_48 rfl ⟨rfl, Nat.le_of_ble_eq_true rfl, Nat.le_of_ble_eq_true rfl⟩ (hj1') (al_addAt hj1' hle (by omega) (can_jo hjq) (fun y hy => by obtain ⟨z, hz⟩ := hj3'.mem hy; exact can_jo hz)) (by first | omega | (simp <;> omega)) (by first | omega | (simp <;> omega)) ?_
      rintro v M4 ⟨rfl, rfl⟩
      have hP4 := hP2.jobs hj1' (hj3'.ins (o.getD J.length) hjq)
      refine g_seq s_LH_job_51 rfl ?_
      refine g_get f_LH_16 d_LH_job_52 (hP4.1) rfl ?_
      refine g_invL (k2 := 0) (n2 := 0) l_LH_98 d_LH_job_55 rfl ⟨rfl, Nat.le_of_ble_eq_true rfl, Nat.le_of_ble_eq_true rfl⟩ (up_s) (al_size up_s) (by first | omega | (simp <;> omega)) (by first | omega | (simp <;> omega)) ?_
      rintro v M5 ⟨rfl, rfl⟩
      exact g_iret rfl d_LH_job_58 (Or.inr (Or.inr ⟨h1, hlt, by rw [insAt_len hle, hjl], o, hFI, own, aT, aJ, aC, aB, aW, ts, hP4⟩))
    · skip
      have hge : J.length = 30 := by
        rcases Nat.lt_or_ge J.length 30 with q | q
        · exact absurd (show nI js.length < nI 30 from nI_lt (by omega) (by omega)) h2
        · omega
      refine g_seq s_LH_job_21 rfl ?_
      exact g_iret rfl d_LH_job_23 (Or.inr (Or.inl ⟨h1, hge, rfl, rfl⟩))
  · skip
    refine g_seq s_LH_job_7 rfl ?_
    exact g_iret rfl d_LH_job_8 (Or.inl ⟨h1, rfl, rfl⟩)
theorem x_work (hX : XQ M h T J C B W tp nw) (h30 : J.length ≤ 30) : G κ m_LH_work (d + 3) M 0 [some (.ref h), none] [] 0 0 (fun v M' => ((∀ j, J[0]? = some j → ¬ j.2.2 ≤ nw) ∧ v = some (.long 1099511627776) ∧ M' = M) ∨ ∃ j, J[0]? = some j ∧ j.2.2 ≤ nw ∧ v = some (.long j.2.1.toInt64) ∧ XQ M' h T (J.eraseIdx 0) C B W j.1 nw) := by
  obtain ⟨own, aT, aJ, aC, aB, aW, ts, hP⟩ := hX
  have hH := hP.1
  obtain ⟨js, hj1, hj2, hj3⟩ := id hP.2.2.1
  have hjl : js.length = J.length := hj3.1
  have bad : ∀ M', M' = M → (∀ j, J[0]? = some j → ¬ j.2.2 ≤ nw) → G κ m_LH_work (d + 3) M' 31 [some (.ref h), none] [] 0 0 (fun v M' => ((∀ j, J[0]? = some j → ¬ j.2.2 ≤ nw) ∧ v = some (.long 1099511627776) ∧ M' = M) ∨ ∃ j, J[0]? = some j ∧ j.2.2 ≤ nw ∧ v = some (.long j.2.1.toInt64) ∧ XQ M' h T (J.eraseIdx 0) C B W j.1 nw) := by
    intro M' e hb
    refine g_ldc2 k_LH_136 d_LH_work_31  ?_
    exact g_lret rfl d_LH_work_34 (Or.inl ⟨hb, rfl, e⟩)
  refine g_seq s_LH_work_0 rfl ?_
  refine g_get f_LH_16 d_LH_work_1 (hH) rfl ?_
  refine g_invL  l_LH_130 d_LH_work_4 rfl ⟨rfl, Nat.le_of_ble_eq_true rfl, Nat.le_of_ble_eq_true rfl⟩ (hj1) (al_isEmpty hj1 (by omega)) (Nat.le_of_eq (Nat.zero_add _)) (Nat.le_of_eq (Nat.zero_add _)) ?_
  rintro v M1 ⟨rfl, rfl⟩
  obtain hJ | ⟨j, hJ⟩ : J[0]? = none ∨ ∃ j, J[0]? = some j := by cases J[0]? <;> simp
  · have hn : js = [] := by
      apply List.length_eq_zero_iff.mp
      rw [hjl]
      rcases Nat.eq_zero_or_pos J.length with q | q
      · exact q
      · rw [List.getElem?_eq_getElem q] at hJ; cases hJ
    rw [if_pos hn]
    refine g_if_ne (tgt := 31) d_LH_work_7 (by decide) (fun hbr => ?_) (fun hbr => absurd hbr (by decide))
    exact bad _ rfl (fun j hj => by rw [hJ] at hj; cases hj)
  · obtain ⟨x, hx, hxj⟩ := hj3.at hJ
    have hn : ¬ js = [] := fun e => by rw [e] at hx; cases hx
    rw [if_neg hn]
    refine g_if_ne (tgt := 31) d_LH_work_7 (by decide) (fun hbr => absurd hbr (fun h => h rfl)) (fun hbr => ?_)
    refine g_seq s_LH_work_10 rfl ?_
    refine g_get f_LH_16 d_LH_work_11 (hH) rfl ?_
    refine g_seq s_LH_work_14 rfl ?_
    refine g_invL  l_LH_106 d_LH_work_15 rfl ⟨rfl, Nat.le_of_ble_eq_true rfl, Nat.le_of_ble_eq_true rfl⟩ (hj1) (al_get (j := 0) hj1 hx (by omega)) (Nat.le_of_eq (Nat.zero_add _)) (Nat.le_of_eq (Nat.zero_add _)) ?_
    rintro v M2 ⟨rfl, rfl⟩
    refine g_cast cl_LH_117 rfl ca_Job_Job d_LH_work_18 (hxj) ?_
    refine g_invV  l_LH_133 d_LH_work_21 rfl ⟨rfl, Nat.le_of_ble_eq_true rfl, Nat.le_of_ble_eq_true rfl⟩ (hxj) (j_due hxj) (Nat.le_of_eq (Nat.zero_add _)) (Nat.le_of_eq (Nat.zero_add _)) ?_
    rintro v M3 ⟨rfl, rfl⟩
    refine g_seq s_LH_work_24 rfl ?_
    refine g_get f_LH_39 d_LH_work_25 (hH) rfl ?_
    refine g_icmp_le (tgt := 35) d_LH_work_28 (by decide) (fun h2 => ?_) (fun h2 => ?_)
    · skip
      refine g_seq s_LH_work_35 rfl ?_
      refine g_get f_LH_16 d_LH_work_36 (hH) rfl ?_
      refine g_seq s_LH_work_39 rfl ?_
      refine g_invL  l_LH_94 d_LH_work_40 rfl ⟨rfl, Nat.le_of_ble_eq_true rfl, Nat.le_of_ble_eq_true rfl⟩ (hj1) (al_remove (j := 0) hj1 hx (by omega) (fun y hy => by obtain ⟨z, hz⟩ := hj3.mem hy; exact can_jo hz)) (Nat.le_of_eq (Nat.zero_add _)) (Nat.le_of_eq (Nat.zero_add _)) ?_
      rintro v M4 ⟨rfl, rfl⟩
      have hP4 := hP.jobs hj1 (hj3.erase 0)
      have hxa : x ≠ aJ := fun e => by unfold JoR at hxj; rw [e, hj1] at hxj; cases hxj
      have hxj4 : JoR (up M3 aJ (eL (js.eraseIdx 0))) x j := (up_n hxa).trans hxj
      generalize up M3 aJ (eL (js.eraseIdx 0)) = M4 at hP4 hxj4
      refine g_cast cl_LH_117 rfl ca_Job_Job d_LH_work_43 (hxj4) ?_
      refine g_seq s_LH_work_46 rfl ?_
      refine g_invV  l_LH_138 d_LH_work_49 rfl ⟨rfl, Nat.le_of_ble_eq_true rfl, Nat.le_of_ble_eq_true rfl⟩ (hxj4) (j_name hxj4) (Nat.le_of_eq (Nat.zero_add _)) (Nat.le_of_eq (Nat.zero_add _)) ?_
      rintro v M5 ⟨rfl, rfl⟩
      refine g_put f_LH_35 d_LH_work_52 (hP4.1) rfl rfl rfl ?_
      have hhx : h ≠ x := fun e => by have := hP4.1; unfold HoC at this; unfold JoR at hxj4; rw [e, hxj4] at this; cases this
      refine g_seq s_LH_work_55 rfl ?_
      refine g_invV  l_LH_140 d_LH_work_56 rfl ⟨rfl, Nat.le_of_ble_eq_true rfl, Nat.le_of_ble_eq_true rfl⟩ ((up_n hhx.symm).trans hxj4) (j_rank ((up_n hhx.symm).trans hxj4)) (Nat.le_of_eq (Nat.zero_add _)) (Nat.le_of_eq (Nat.zero_add _)) ?_
      rintro v M6 ⟨rfl, rfl⟩
      refine g_seq s_LH_work_59 rfl ?_
      exact g_lret rfl d_LH_work_60 (Or.inr ⟨j, hJ, h2, rfl, own, aT, aJ, aC, aB, aW, ts, hP4.house⟩)
    · skip
      exact bad _ rfl (fun j' hj' => by rw [hJ] at hj'; cases hj'; exact h2)
end XJ
