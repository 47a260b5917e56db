theorem wbit_N {q c : Nat} (h : q < 65536) (hc : c < 16) : wbit (nI q) c = true ↔ q / 2 ^ c % 2 = 1 := by
  have hs : ∀ c, c < 16 → ((nI c &&& 31).toBitVec.smod 32).toNat = c := by decide
  have hd : q / 2 ^ c ≤ q := Nat.div_le_self _ _
  unfold wbit
  rw [decide_eq_true_iff, pk_shrN (by omega) _ c (hs c hc), pk_andN (by omega) 1 (by decide), show (1 : Int32) = nI 1 from rfl, nI_eq (by omega) (by decide)]
theorem nodup_sm : ∀ (n : Nat) {l : List Nat}, l.Nodup → (∀ c, c ∈ l → c < n) → l.length = sm (fun c => if c ∈ l then 1 else 0) (List.range n) := by
  intro n
  induction n with
  | zero =>
    intro l _ h
    cases l with
    | nil => rfl
    | cons a l => exact absurd (h a List.mem_cons_self) (Nat.not_lt_zero _)
  | succ n ih =>
    intro l hd h
    have hno : ¬ n ∈ l.erase n := List.Nodup.not_mem_erase hd
    have h1 := ih (l := l.erase n) (hd.erase n) (fun c hc => by
      have h2 := h c (List.mem_of_mem_erase hc)
      have h3 : c ≠ n := fun e => hno (by rw [← e]; rw [e] at hc; rw [e]; exact hc)
      omega)
    have hsm : sm (fun c => if c ∈ l.erase n then 1 else 0) (List.range n) = sm (fun c => if c ∈ l then 1 else 0) (List.range n) := by
      unfold sm
      congr 1
      refine List.map_congr_left (fun c hc => ?_)
      have hcn : c ≠ n := by have := List.mem_range.mp hc; omega
      simp only [List.mem_erase_of_ne hcn]
    have hl : sm (fun c => if c ∈ l then 1 else 0) (List.range (n + 1)) = sm (fun c => if c ∈ l then 1 else 0) (List.range n) + (if n ∈ l then 1 else 0) := by
      unfold sm
      rw [List.range_succ, List.map_append, List.sum_append]
      simp
    rw [hl, ← hsm, ← h1]
    by_cases hm : n ∈ l
    · rw [if_pos hm, List.length_erase_of_mem hm]
      have := List.length_pos_of_mem hm
      omega
    · rw [if_neg hm, List.erase_of_not_mem hm]; omega
/-- a bit turned -/
theorem xor_w {q i : Nat} (hq : q < 65536) (hi : i < 16) : nI q ^^^ ((1 : Int32) <<< (nI i &&& 31)) = nI (q ^^^ 2 ^ i) ∧ q ^^^ 2 ^ i < 65536 ∧ ∀ c, c < 16 → (wbit (nI (q ^^^ 2 ^ i)) c = true ↔ (if c = i then ¬ wbit (nI q) c = true else wbit (nI q) c = true)) := by
  have hs : ∀ c, c < 16 → ((nI c &&& 31).toBitVec.smod 32).toNat = c := by decide
  have hp : 2 ^ i < 2 ^ 16 := Nat.pow_lt_pow_right (by decide) hi
  have hx : q ^^^ 2 ^ i < 2 ^ 16 := Nat.xor_lt_two_pow hq hp
  refine ⟨?_, hx, fun c hc => ?_⟩
  · rw [show (1 : Int32) = nI 1 from rfl, pk_shlN (n := 1) _ i (hs i hi) (by omega), Nat.one_mul, nI_xor]
  · rw [wbit_N hx hc, wbit_N hq hc]
    have t1 : ∀ a : Nat, a / 2 ^ c % 2 = 1 ↔ a.testBit c = true := fun a => by rw [Nat.testBit_eq_decide_div_mod_eq, decide_eq_true_iff]
    rw [t1, t1, Nat.testBit_xor, Nat.testBit_two_pow]
    by_cases h : c = i
    · rw [if_pos h, h]; cases q.testBit i <;> simp
    · rw [if_neg h]; cases q.testBit c <;> simp [Ne.symm h]
