theorem bq_m0 (q : Nat) : q % 256 % 2 = q / 1 % 2 := by omega
theorem bq_m1 (q : Nat) : q % 256 / 2 % 2 = q / 2 % 2 := by omega
theorem bq_m2 (q : Nat) : q % 256 / 4 % 2 = q / 4 % 2 := by omega
theorem bq_m3 (q : Nat) : q % 256 / 8 % 2 = q / 8 % 2 := by omega
theorem bq_m4 (q : Nat) : q % 256 / 16 % 2 = q / 16 % 2 := by omega
theorem bq_m5 (q : Nat) : q % 256 / 32 % 2 = q / 32 % 2 := by omega
theorem bq_m6 (q : Nat) : q % 256 / 64 % 2 = q / 64 % 2 := by omega
theorem bq_m7 (q : Nat) : q % 256 / 128 % 2 = q / 128 % 2 := by omega
theorem pc_sum (q : Nat) : pcN (q % 256) + pcN (q / 256) = sm (fun c => q / 2 ^ c % 2) (List.range 16) := by
  have hr : sm (fun c => q / 2 ^ c % 2) (List.range 16) = q / 1 % 2 + (q / 2 % 2 + (q / 4 % 2 + (q / 8 % 2 + (q / 16 % 2 + (q / 32 % 2 + (q / 64 % 2 + (q / 128 % 2 + (q / 256 % 2 + (q / 512 % 2 + (q / 1024 % 2 + (q / 2048 % 2 + (q / 4096 % 2 + (q / 8192 % 2 + (q / 16384 % 2 + (q / 32768 % 2 + 0))))))))))))))) := by simp only [sm, List.range, List.range.loop, List.map_cons, List.map_nil, List.sum_cons, List.sum_nil, Nat.reducePow]
  rw [hr]
  show (((q % 256 % 2 + q % 256 / 2 % 2) + (q % 256 / 4 % 2 + q % 256 / 8 % 2)) + ((q % 256 / 16 % 2 + q % 256 / 32 % 2) + (q % 256 / 64 % 2 + q % 256 / 128 % 2))) + (((q / 256 % 2 + q / 256 / 2 % 2) + (q / 256 / 4 % 2 + q / 256 / 8 % 2)) + ((q / 256 / 16 % 2 + q / 256 / 32 % 2) + (q / 256 / 64 % 2 + q / 256 / 128 % 2))) = _
  rw [Nat.div_div_eq_div_mul, Nat.div_div_eq_div_mul, Nat.div_div_eq_div_mul, Nat.div_div_eq_div_mul, Nat.div_div_eq_div_mul, Nat.div_div_eq_div_mul, Nat.div_div_eq_div_mul]
  rw [bq_m0, bq_m1, bq_m2, bq_m3, bq_m4, bq_m5, bq_m6, bq_m7]
  simp only [Nat.reduceMul, Nat.add_assoc, Nat.add_zero]
theorem WL.bc {g3 g4 : Nat → Int32} {k : Nat} {wa : Int32} {wl : List Nat} (h : WL g3 g4 k wa wl) : bcF wa = nI wl.length := by
  obtain ⟨-, h2, h3, -, h5, q, hq, rfl⟩ := h
  rw [bcF_N hq, bc_N hq]
  congr 1
  rw [nodup_sm 16 h2 h3]
  have hb : ∀ c, c < 16 → (if c ∈ wl then 1 else 0) = q / 2 ^ c % 2 := by
    intro c hc
    have h1 := h5 c hc
    rw [wbit_N hq hc] at h1
    by_cases hm : c ∈ wl
    · rw [if_pos hm]; exact (h1.mpr hm).symm
    · rw [if_neg hm]
      have : ¬ q / 2 ^ c % 2 = 1 := fun e => hm (h1.mp e)
      omega
  have hs : sm (fun c => if c ∈ wl then 1 else 0) (List.range 16) = sm (fun c => q / 2 ^ c % 2) (List.range 16) := by
    unfold sm
    congr 1
    exact List.map_congr_left (fun c hc => hb c (List.mem_range.mp hc))
  rw [hs]
  exact pc_sum q
