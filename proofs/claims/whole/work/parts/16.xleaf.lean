/-! leaves of the class -/
def b2i (b : Bool) : Int32 := if b then 1 else 0
theorem b2i_0 {b : Bool} : b2i b = 0 ↔ b = false := by cases b <;> decide
theorem b2i_n {b : Bool} : ¬ b2i b = 0 ↔ b = true := by cases b <;> decide
theorem b2i_nar (b : Bool) : narrow .boolean (.int (b2i b)) = .int (b2i b) := by cases b <;> rfl
section XL
variable {κ : Nat × Nat} {d : Nat} {M : Mm} {a : Nat}
theorem w_client {c t s : Int32} (hM : M a = some (eO 2 [.int c, .int t, .int s])) : G κ m_Waiter_client d M 0 [some (.ref a)] [] 0 0 (fun v M' => v = some (.int c) ∧ M' = M) := by
  refine g_seq s_Waiter_client_0 rfl ?_
  refine g_get f_Waiter_7 d_Waiter_client_1 (hM) rfl ?_
  exact g_iret rfl d_Waiter_client_4 (⟨rfl, rfl⟩)
theorem w_ticks {c t s : Int32} (hM : M a = some (eO 2 [.int c, .int t, .int s])) : G κ m_Waiter_ticks d M 0 [some (.ref a)] [] 0 0 (fun v M' => v = some (.int t) ∧ M' = M) := by
  refine g_seq s_Waiter_ticks_0 rfl ?_
  refine g_get f_Waiter_13 d_Waiter_ticks_1 (hM) rfl ?_
  exact g_iret rfl d_Waiter_ticks_4 (⟨rfl, rfl⟩)
theorem w_since {c t s : Int32} (hM : M a = some (eO 2 [.int c, .int t, .int s])) : G κ m_Waiter_since d M 0 [some (.ref a)] [] 0 0 (fun v M' => v = some (.int s) ∧ M' = M) := by
  refine g_seq s_Waiter_since_0 rfl ?_
  refine g_get f_Waiter_16 d_Waiter_since_1 (hM) rfl ?_
  exact g_iret rfl d_Waiter_since_4 (⟨rfl, rfl⟩)
theorem j_name {c t s : Int32} (hM : M a = some (eO 3 [.int c, .int t, .int s])) : G κ m_Job_name d M 0 [some (.ref a)] [] 0 0 (fun v M' => v = some (.int c) ∧ M' = M) := by
  refine g_seq s_Job_name_0 rfl ?_
  refine g_get f_Job_7 d_Job_name_1 (hM) rfl ?_
  exact g_iret rfl d_Job_name_4 (⟨rfl, rfl⟩)
theorem j_rank {c t s : Int32} (hM : M a = some (eO 3 [.int c, .int t, .int s])) : G κ m_Job_rank d M 0 [some (.ref a)] [] 0 0 (fun v M' => v = some (.int t) ∧ M' = M) := by
  refine g_seq s_Job_rank_0 rfl ?_
  refine g_get f_Job_13 d_Job_rank_1 (hM) rfl ?_
  exact g_iret rfl d_Job_rank_4 (⟨rfl, rfl⟩)
theorem j_due {c t s : Int32} (hM : M a = some (eO 3 [.int c, .int t, .int s])) : G κ m_Job_due d M 0 [some (.ref a)] [] 0 0 (fun v M' => v = some (.int s) ∧ M' = M) := by
  refine g_seq s_Job_due_0 rfl ?_
  refine g_get f_Job_16 d_Job_due_1 (hM) rfl ?_
  exact g_iret rfl d_Job_due_4 (⟨rfl, rfl⟩)
theorem c_name {c t : Int32} (hM : M a = some (eO 4 [.int c, .int t])) : G κ m_Cached_name d M 0 [some (.ref a)] [] 0 0 (fun v M' => v = some (.int c) ∧ M' = M) := by
  refine g_seq s_Cached_name_0 rfl ?_
  refine g_get f_Cached_7 d_Cached_name_1 (hM) rfl ?_
  exact g_iret rfl d_Cached_name_4 (⟨rfl, rfl⟩)
theorem c_number {c t : Int32} (hM : M a = some (eO 4 [.int c, .int t])) : G κ m_Cached_number d M 0 [some (.ref a)] [] 0 0 (fun v M' => v = some (.int t) ∧ M' = M) := by
  refine g_seq s_Cached_number_0 rfl ?_
  refine g_get f_Cached_13 d_Cached_number_1 (hM) rfl ?_
  exact g_iret rfl d_Cached_number_4 (⟨rfl, rfl⟩)
theorem n_name {c t : Int32} (hM : M a = some (eO 5 [.int c, .int t])) : G κ m_Note_name d M 0 [some (.ref a)] [] 0 0 (fun v M' => v = some (.int c) ∧ M' = M) := by
  refine g_seq s_Note_name_0 rfl ?_
  refine g_get f_Note_7 d_Note_name_1 (hM) rfl ?_
  exact g_iret rfl d_Note_name_4 (⟨rfl, rfl⟩)
theorem n_kind {c t : Int32} (hM : M a = some (eO 5 [.int c, .int t])) : G κ m_Note_kind d M 0 [some (.ref a)] [] 0 0 (fun v M' => v = some (.int t) ∧ M' = M) := by
  refine g_seq s_Note_kind_0 rfl ?_
  refine g_get f_Note_13 d_Note_kind_1 (hM) rfl ?_
  exact g_iret rfl d_Note_kind_4 (⟨rfl, rfl⟩)
theorem rcd_init : G κ m_Rcd_init (d + 1) M 0 [some (.ref a)] [] 0 0 (fun v M' => v = none ∧ M' = M) := by
  refine g_seq s_Rcd_init_0 rfl ?_
  refine g_objInit l_Rcd_1 oi_1 oi_2 d_Rcd_init_1 (Nat.le_of_ble_eq_true rfl) ?_
  exact g_vret rfl d_Rcd_init_4 (⟨rfl, rfl⟩)
theorem w_init {x y z : Int32} {e1 e2 e3 : Value} (hM : M a = some (eO 2 [e1, e2, e3])) : G κ m_Waiter_init (d + 2) M 0 [some (.ref a), some (.int x), some (.int y), some (.int z)] [] 0 0 (fun v M' => v = none ∧ M' = up M a (eO 2 [.int x, .int y, .int z])) := by
  refine g_seq s_Waiter_init_0 rfl ?_
  refine g_invI  l_Waiter_1 d_Waiter_init_1 rfl ⟨rfl, Nat.le_of_ble_eq_true rfl, Nat.le_of_ble_eq_true rfl⟩ (rcd_init) (Nat.le_of_eq (Nat.zero_add _)) (Nat.le_of_eq (Nat.zero_add _)) ?_
  rintro v M' ⟨rfl, rfl⟩
  refine g_seq s_Waiter_init_4 rfl ?_
  refine g_putF f_Waiter_7 ⟨_, rfl, rfl⟩ rfl d_Waiter_init_6 (hM) rfl rfl rfl ?_
  refine g_seq s_Waiter_init_9 rfl ?_
  refine g_putF f_Waiter_13 ⟨_, rfl, rfl⟩ rfl d_Waiter_init_11 (up_s) rfl rfl rfl ?_
  refine g_seq s_Waiter_init_14 rfl ?_
  refine g_putF f_Waiter_16 ⟨_, rfl, rfl⟩ rfl d_Waiter_init_16 (up_s) rfl rfl rfl ?_
  exact g_vret rfl d_Waiter_init_19 (⟨rfl, by rw [up_up, up_up]⟩)
theorem j_init {x y z : Int32} {e1 e2 e3 : Value} (hM : M a = some (eO 3 [e1, e2, e3])) : G κ m_Job_init (d + 2) M 0 [some (.ref a), some (.int x), some (.int y), some (.int z)] [] 0 0 (fun v M' => v = none ∧ M' = up M a (eO 3 [.int x, .int y, .int z])) := by
  refine g_seq s_Job_init_0 rfl ?_
  refine g_invI  l_Job_1 d_Job_init_1 rfl ⟨rfl, Nat.le_of_ble_eq_true rfl, Nat.le_of_ble_eq_true rfl⟩ (rcd_init) (Nat.le_of_eq (Nat.zero_add _)) (Nat.le_of_eq (Nat.zero_add _)) ?_
  rintro v M' ⟨rfl, rfl⟩
  refine g_seq s_Job_init_4 rfl ?_
  refine g_putF f_Job_7 ⟨_, rfl, rfl⟩ rfl d_Job_init_6 (hM) rfl rfl rfl ?_
  refine g_seq s_Job_init_9 rfl ?_
  refine g_putF f_Job_13 ⟨_, rfl, rfl⟩ rfl d_Job_init_11 (up_s) rfl rfl rfl ?_
  refine g_seq s_Job_init_14 rfl ?_
  refine g_putF f_Job_16 ⟨_, rfl, rfl⟩ rfl d_Job_init_16 (up_s) rfl rfl rfl ?_
  exact g_vret rfl d_Job_init_19 (⟨rfl, by rw [up_up, up_up]⟩)
theorem c_init {x y : Int32} {e1 e2 : Value} (hM : M a = some (eO 4 [e1, e2])) : G κ m_Cached_init (d + 2) M 0 [some (.ref a), some (.int x), some (.int y)] [] 0 0 (fun v M' => v = none ∧ M' = up M a (eO 4 [.int x, .int y])) := by
  refine g_seq s_Cached_init_0 rfl ?_
  refine g_invI  l_Cached_1 d_Cached_init_1 rfl ⟨rfl, Nat.le_of_ble_eq_true rfl, Nat.le_of_ble_eq_true rfl⟩ (rcd_init) (Nat.le_of_eq (Nat.zero_add _)) (Nat.le_of_eq (Nat.zero_add _)) ?_
  rintro v M' ⟨rfl, rfl⟩
  refine g_seq s_Cached_init_4 rfl ?_
  refine g_putF f_Cached_7 ⟨_, rfl, rfl⟩ rfl d_Cached_init_6 (hM) rfl rfl rfl ?_
  refine g_seq s_Cached_init_9 rfl ?_
  refine g_putF f_Cached_13 ⟨_, rfl, rfl⟩ rfl d_Cached_init_11 (up_s) rfl rfl rfl ?_
  exact g_vret rfl d_Cached_init_14 (⟨rfl, by rw [up_up]⟩)
theorem n_init {x y : Int32} {e1 e2 : Value} (hM : M a = some (eO 5 [e1, e2])) : G κ m_Note_init (d + 2) M 0 [some (.ref a), some (.int x), some (.int y)] [] 0 0 (fun v M' => v = none ∧ M' = up M a (eO 5 [.int x, .int y])) := by
  refine g_seq s_Note_init_0 rfl ?_
  refine g_invI  l_Note_1 d_Note_init_1 rfl ⟨rfl, Nat.le_of_ble_eq_true rfl, Nat.le_of_ble_eq_true rfl⟩ (rcd_init) (Nat.le_of_eq (Nat.zero_add _)) (Nat.le_of_eq (Nat.zero_add _)) ?_
  rintro v M' ⟨rfl, rfl⟩
  refine g_seq s_Note_init_4 rfl ?_
  refine g_putF f_Note_7 ⟨_, rfl, rfl⟩ rfl d_Note_init_6 (hM) rfl rfl rfl ?_
  refine g_seq s_Note_init_9 rfl ?_
  refine g_putF f_Note_13 ⟨_, rfl, rfl⟩ rfl d_Note_init_11 (up_s) rfl rfl rfl ?_
  exact g_vret rfl d_Note_init_14 (⟨rfl, by rw [up_up]⟩)
theorem t_init {x : Int32} {e1 e2 e3 e4 e5 e6 : Value} (hM : M a = some (eO 1 [e1, e2, e3, e4, e5, e6])) : G κ m_Thing_init (d + 4) M 0 [some (.ref a), some (.int x)] [] 1 3 (fun v M' => v = none ∧ ∃ r, M r = none ∧ r ≠ κ.1 ∧ M' = up (up M r (eL [])) a (eO 1 [.int x, .ref r, .int (-2), .int 0, .int 0, .int 0])) := by
  refine g_seq s_Thing_init_0 rfl ?_
  refine g_objInit l_Thing_3 oi_1 oi_2 d_Thing_init_1 (Nat.le_of_ble_eq_true rfl) ?_
  refine g_seq s_Thing_init_4 rfl ?_
  refine g_new (k' := 0) (n' := 0) n_Thing_9 d_Thing_init_5 (by first | omega | (simp <;> omega)) (by first | omega | (simp <;> omega)) (fun r hr hzr => ?_)
  have har : a ≠ r := fun e => by rw [e, hr] at hM; cases hM
  refine g_seq s_Thing_init_8 rfl ?_
  refine g_invI  l_Thing_11 d_Thing_init_9 rfl ⟨rfl, Nat.le_of_ble_eq_true rfl, Nat.le_of_ble_eq_true rfl⟩ (al_init (mc := 0) (e2 := .null) up_s) (Nat.le_of_eq (Nat.zero_add _)) (Nat.le_of_eq (Nat.zero_add _)) ?_
  rintro v M' ⟨rfl, rfl⟩
  refine g_putF f_Thing_12 ⟨_, rfl, rfl⟩ rfl d_Thing_init_12 (by rw [up_up, up_n har]; exact hM) rfl rfl rfl ?_
  refine g_seq s_Thing_init_15 rfl ?_
  refine g_put f_Thing_18 d_Thing_init_18 (up_s) rfl rfl rfl ?_
  refine g_seq s_Thing_init_21 rfl ?_
  refine g_put f_Thing_22 d_Thing_init_23 (up_s) rfl rfl rfl ?_
  refine g_seq s_Thing_init_26 rfl ?_
  refine g_put f_Thing_25 d_Thing_init_28 (up_s) rfl rfl rfl ?_
  refine g_seq s_Thing_init_31 rfl ?_
  refine g_put f_Thing_28 d_Thing_init_33 (up_s) rfl rfl rfl ?_
  refine g_seq s_Thing_init_36 rfl ?_
  refine g_putF f_Thing_31 ⟨_, rfl, rfl⟩ rfl d_Thing_init_38 (up_s) rfl rfl rfl ?_
  exact g_vret rfl d_Thing_init_41 (⟨rfl, r, hr, hzr, by rw [up_up, up_up, up_up, up_up, up_up, up_up]⟩)
theorem t_isLent {e1 e2 e4 e5 e6 : Value} {ho : Int32} (hM : M a = some (eO 1 [e1, e2, .int ho, e4, e5, e6])) : G κ m_Thing_isLent d M 0 [some (.ref a)] [] 0 0 (fun v M' => v = some (.int (b2i (ho != -2))) ∧ M' = M) := by
  refine g_seq s_Thing_isLent_0 rfl ?_
  refine g_get f_Thing_18 d_Thing_isLent_1 (hM) rfl ?_
  refine g_seq s_Thing_isLent_4 rfl ?_
  refine g_icmp_eq (tgt := 13) d_Thing_isLent_6 (by decide) (fun h => ?_) (fun h => ?_)
  · skip
    refine g_seq s_Thing_isLent_13 rfl ?_
    exact g_zret rfl rfl d_Thing_isLent_14 (⟨by rw [show (ho != -2) = false from by simp [h]]; rfl, rfl⟩)
  · skip
    refine g_seq s_Thing_isLent_9 rfl ?_
    exact g_zret rfl rfl d_Thing_isLent_14 (⟨by rw [show (ho != -2) = true from by simp [h]]; rfl, rfl⟩)
theorem t_endsBefore {b : Nat} {x x' u u' : Int32} {e2 e3 e5 e6 g2 g3 g5 g6 : Value} (hM : M a = some (eO 1 [.int x, e2, e3, .int u, e5, e6])) (hMb : M b = some (eO 1 [.int x', g2, g3, .int u', g5, g6])) : G κ m_Thing_endsBefore d M 0 [some (.ref a), some (.ref b)] [] 0 0 (fun v M' => v = some (.int (b2i (decide (u < u' ∨ (u = u' ∧ x < x'))))) ∧ M' = M) := by
  refine g_seq s_Thing_endsBefore_0 rfl ?_
  refine g_get f_Thing_22 d_Thing_endsBefore_1 (hM) rfl ?_
  refine g_seq s_Thing_endsBefore_4 rfl ?_
  refine g_get f_Thing_22 d_Thing_endsBefore_5 (hMb) rfl ?_
  refine g_icmp_eq (tgt := 30) d_Thing_endsBefore_8 (by decide) (fun h => ?_) (fun h => ?_)
  · skip
    refine g_seq s_Thing_endsBefore_30 rfl ?_
    refine g_get f_Thing_31 d_Thing_endsBefore_31 (hM) rfl ?_
    refine g_seq s_Thing_endsBefore_34 rfl ?_
    refine g_get f_Thing_31 d_Thing_endsBefore_35 (hMb) rfl ?_
    have hlt : ¬ u < u' := by rw [h]; exact Int32.lt_irrefl
    refine g_icmp_ge (tgt := 45) d_Thing_endsBefore_38 (by decide) (fun h2 => ?_) (fun h2 => ?_)
    · skip
      refine g_seq s_Thing_endsBefore_45 rfl ?_
      exact g_zret rfl rfl d_Thing_endsBefore_46 (⟨by rw [decide_eq_false (fun q => q.elim hlt (fun q => absurd q.2 (Int32.not_lt.mpr h2)))]; rfl, rfl⟩)
    · skip
      refine g_seq s_Thing_endsBefore_41 rfl ?_
      exact g_zret rfl rfl d_Thing_endsBefore_46 (⟨by rw [decide_eq_true (Or.inr ⟨h, Int32.not_le.mp h2⟩)]; rfl, rfl⟩)
  · skip
    refine g_seq s_Thing_endsBefore_11 rfl ?_
    refine g_get f_Thing_22 d_Thing_endsBefore_12 (hM) rfl ?_
    refine g_seq s_Thing_endsBefore_15 rfl ?_
    refine g_get f_Thing_22 d_Thing_endsBefore_16 (hMb) rfl ?_
    refine g_icmp_ge (tgt := 26) d_Thing_endsBefore_19 (by decide) (fun h2 => ?_) (fun h2 => ?_)
    · skip
      refine g_seq s_Thing_endsBefore_26 rfl ?_
      exact g_zret rfl rfl d_Thing_endsBefore_46 (⟨by rw [decide_eq_false (fun q => q.elim (fun q => absurd q (Int32.not_lt.mpr h2)) (fun q => h q.1))]; rfl, rfl⟩)
    · skip
      refine g_seq s_Thing_endsBefore_22 rfl ?_
      exact g_zret rfl rfl d_Thing_endsBefore_46 (⟨by rw [decide_eq_true (Or.inl (Int32.not_le.mp h2))]; rfl, rfl⟩)
theorem t_goesBefore {b : Nat} {x x' u u' : Int32} {e1 g1 : Value} (hM : M a = some (eO 3 [e1, .int u, .int x])) (hMb : M b = some (eO 3 [g1, .int u', .int x'])) : G κ m_Job_goesBefore d M 0 [some (.ref a), some (.ref b)] [] 0 0 (fun v M' => v = some (.int (b2i (decide (u < u' ∨ (u = u' ∧ x < x'))))) ∧ M' = M) := by
  refine g_seq s_Job_goesBefore_0 rfl ?_
  refine g_get f_Job_13 d_Job_goesBefore_1 (hM) rfl ?_
  refine g_seq s_Job_goesBefore_4 rfl ?_
  refine g_get f_Job_13 d_Job_goesBefore_5 (hMb) rfl ?_
  refine g_icmp_eq (tgt := 30) d_Job_goesBefore_8 (by decide) (fun h => ?_) (fun h => ?_)
  · skip
    refine g_seq s_Job_goesBefore_30 rfl ?_
    refine g_get f_Job_16 d_Job_goesBefore_31 (hM) rfl ?_
    refine g_seq s_Job_goesBefore_34 rfl ?_
    refine g_get f_Job_16 d_Job_goesBefore_35 (hMb) rfl ?_
    have hlt : ¬ u < u' := by rw [h]; exact Int32.lt_irrefl
    refine g_icmp_ge (tgt := 45) d_Job_goesBefore_38 (by decide) (fun h2 => ?_) (fun h2 => ?_)
    · skip
      refine g_seq s_Job_goesBefore_45 rfl ?_
      exact g_zret rfl rfl d_Job_goesBefore_46 (⟨by rw [decide_eq_false (fun q => q.elim hlt (fun q => absurd q.2 (Int32.not_lt.mpr h2)))]; rfl, rfl⟩)
    · skip
      refine g_seq s_Job_goesBefore_41 rfl ?_
      exact g_zret rfl rfl d_Job_goesBefore_46 (⟨by rw [decide_eq_true (Or.inr ⟨h, Int32.not_le.mp h2⟩)]; rfl, rfl⟩)
  · skip
    refine g_seq s_Job_goesBefore_11 rfl ?_
    refine g_get f_Job_13 d_Job_goesBefore_12 (hM) rfl ?_
    refine g_seq s_Job_goesBefore_15 rfl ?_
    refine g_get f_Job_13 d_Job_goesBefore_16 (hMb) rfl ?_
    refine g_icmp_ge (tgt := 26) d_Job_goesBefore_19 (by decide) (fun h2 => ?_) (fun h2 => ?_)
    · skip
      refine g_seq s_Job_goesBefore_26 rfl ?_
      exact g_zret rfl rfl d_Job_goesBefore_46 (⟨by rw [decide_eq_false (fun q => q.elim (fun q => absurd q (Int32.not_lt.mpr h2)) (fun q => h q.1))]; rfl, rfl⟩)
    · skip
      refine g_seq s_Job_goesBefore_22 rfl ?_
      exact g_zret rfl rfl d_Job_goesBefore_46 (⟨by rw [decide_eq_true (Or.inl (Int32.not_le.mp h2))]; rfl, rfl⟩)
theorem t_isWatchedBy {e1 e2 e3 e4 e5 : Value} {wa c : Int32} (hM : M a = some (eO 1 [e1, e2, e3, e4, e5, .int wa])) : G κ m_Thing_isWatchedBy d M 0 [some (.ref a), some (.int c)] [] 0 0 (fun v M' => v = some (.int (b2i (decide ((wa >>> (c &&& 31)) &&& 1 = 1)))) ∧ M' = M) := by
  refine g_seq s_Thing_isWatchedBy_0 rfl ?_
  refine g_get f_Thing_28 d_Thing_isWatchedBy_1 (hM) rfl ?_
  refine g_seq s_Thing_isWatchedBy_4 rfl ?_
  refine g_icmp_ne (tgt := 16) d_Thing_isWatchedBy_9 (by decide) (fun h => ?_) (fun h => ?_)
  · skip
    refine g_seq s_Thing_isWatchedBy_16 rfl ?_
    exact g_zret rfl rfl d_Thing_isWatchedBy_17 (⟨by rw [decide_eq_false h]; rfl, rfl⟩)
  · skip
    refine g_seq s_Thing_isWatchedBy_12 rfl ?_
    exact g_zret rfl rfl d_Thing_isWatchedBy_17 (⟨by rw [decide_eq_true h]; rfl, rfl⟩)
theorem x_isClient {c : Int32} : G κ m_LH_isClient d M 0 [some (.int c)] [] 0 0 (fun v M' => v = some (.int (b2i (decide (0 ≤ c ∧ c < 16)))) ∧ M' = M) := by
  refine g_seq s_LH_isClient_0 rfl ?_
  refine g_if_lt (tgt := 14) d_LH_isClient_1 (by decide) (fun h => ?_) (fun h => ?_)
  · skip
    refine g_seq s_LH_isClient_14 rfl ?_
    exact g_zret rfl rfl d_LH_isClient_15 (⟨by rw [decide_eq_false (fun q => absurd h (Int32.not_lt.mpr q.1))]; rfl, rfl⟩)
  · skip
    refine g_seq s_LH_isClient_4 rfl ?_
    refine g_icmp_ge (tgt := 14) d_LH_isClient_7 (by decide) (fun h2 => ?_) (fun h2 => ?_)
    · skip
      refine g_seq s_LH_isClient_14 rfl ?_
      exact g_zret rfl rfl d_LH_isClient_15 (⟨by rw [decide_eq_false (fun q => absurd q.2 (Int32.not_lt.mpr h2))]; rfl, rfl⟩)
    · skip
      refine g_seq s_LH_isClient_10 rfl ?_
      exact g_zret rfl rfl d_LH_isClient_15 (⟨by rw [decide_eq_true ⟨Int32.not_lt.mp h, Int32.not_le.mp h2⟩]; rfl, rfl⟩)
theorem x_isLeaseTime {c : Int32} : G κ m_LH_isLeaseTime d M 0 [some (.int c)] [] 0 0 (fun v M' => v = some (.int (b2i (decide (1 ≤ c ∧ c ≤ 100)))) ∧ M' = M) := by
  refine g_seq s_LH_isLeaseTime_0 rfl ?_
  refine g_icmp_lt (tgt := 15) d_LH_isLeaseTime_2 (by decide) (fun h => ?_) (fun h => ?_)
  · skip
    refine g_seq s_LH_isLeaseTime_15 rfl ?_
    exact g_zret rfl rfl d_LH_isLeaseTime_16 (⟨by rw [decide_eq_false (fun q => absurd h (Int32.not_lt.mpr q.1))]; rfl, rfl⟩)
  · skip
    refine g_seq s_LH_isLeaseTime_5 rfl ?_
    refine g_icmp_gt (tgt := 15) d_LH_isLeaseTime_8 (by decide) (fun h2 => ?_) (fun h2 => ?_)
    · skip
      refine g_seq s_LH_isLeaseTime_15 rfl ?_
      exact g_zret rfl rfl d_LH_isLeaseTime_16 (⟨by rw [decide_eq_false (fun q => absurd h2 (Int32.not_lt.mpr q.2))]; rfl, rfl⟩)
    · skip
      refine g_seq s_LH_isLeaseTime_11 rfl ?_
      exact g_zret rfl rfl d_LH_isLeaseTime_16 (⟨by rw [decide_eq_true ⟨Int32.not_lt.mp h, Int32.not_lt.mp h2⟩]; rfl, rfl⟩)
theorem x_hasNameAnd {e1 e2 e3 e4 e5 e7 : Value} {tp c : Int32} (hM : M a = some (eO 0 [e1, e2, e3, e4, e5, .int tp, e7])) : G κ m_LH_hasNameAnd (d + 1) M 0 [some (.ref a), some (.int c)] [] 0 0 (fun v M' => v = some (.int (b2i (decide (tp ≠ 0 ∧ 0 ≤ c ∧ c < 16)))) ∧ M' = M) := by
  refine g_seq s_LH_hasNameAnd_0 rfl ?_
  refine g_get f_LH_35 d_LH_hasNameAnd_1 (hM) rfl ?_
  refine g_if_eq (tgt := 18) d_LH_hasNameAnd_4 (by decide) (fun h => ?_) (fun h => ?_)
  · skip
    refine g_seq s_LH_hasNameAnd_18 rfl ?_
    exact g_zret rfl rfl d_LH_hasNameAnd_19 (⟨by rw [decide_eq_false (fun q => q.1 h)]; rfl, rfl⟩)
  · skip
    refine g_seq s_LH_hasNameAnd_7 rfl ?_
    refine g_invS  l_LH_168 d_LH_hasNameAnd_8 rfl ⟨rfl, Nat.le_of_ble_eq_true rfl, Nat.le_of_ble_eq_true rfl⟩ (x_isClient) (Nat.le_of_eq (Nat.zero_add _)) (Nat.le_of_eq (Nat.zero_add _)) ?_
    rintro v M' ⟨rfl, rfl⟩
    refine g_if_eq (tgt := 18) d_LH_hasNameAnd_11 (by decide) (fun h2 => ?_) (fun h2 => ?_)
    · skip
      refine g_seq s_LH_hasNameAnd_18 rfl ?_
      exact g_zret rfl rfl d_LH_hasNameAnd_19 (⟨by rw [decide_eq_false (fun q => of_decide_eq_false (b2i_0.mp h2) q.2)]; rfl, rfl⟩)
    · skip
      refine g_seq s_LH_hasNameAnd_14 rfl ?_
      exact g_zret rfl rfl d_LH_hasNameAnd_19 (⟨by rw [decide_eq_true ⟨h, of_decide_eq_true (b2i_n.mp h2)⟩]; rfl, rfl⟩)
theorem x_withoutLastLetter {c : Int32} : G κ m_LH_withoutLastLetter d M 0 [some (.int c)] [] 0 0 (fun v M' => v = some (.int ((c - 1) / 26)) ∧ M' = M) := by
  refine g_seq s_LH_withoutLastLetter_0 rfl ?_
  refine g_idiv d_LH_withoutLastLetter_5 (by decide) ?_
  exact g_iret rfl d_LH_withoutLastLetter_6 (⟨rfl, rfl⟩)
end XL
