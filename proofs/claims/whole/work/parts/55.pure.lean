/-! the things as a map from names -/
def lk (T : List Th) (x : Int32) : Th := (T.find? (fun t => t.1 == x)).getD (newT x)
def LK (f : Int32 → Th) (T : List Th) : Prop := f = lk T ∧ (T.map (fun t => t.1)).Nodup
theorem lk_cons {a : Th} {T : List Th} {x : Int32} : lk (a :: T) x = if a.1 = x then a else lk T x := by
  unfold lk
  rw [List.find?_cons]
  by_cases h : a.1 = x
  · rw [if_pos h, show (a.1 == x) = true from beq_iff_eq.mpr h]; rfl
  · rw [if_neg h, show (a.1 == x) = false from beq_eq_false_iff_ne.mpr h]
theorem lk_nil {x : Int32} : lk [] x = newT x := rfl
theorem lk_no {x : Int32} : ∀ {T : List Th}, (∀ t, t ∈ T → t.1 ≠ x) → lk T x = newT x := by
  intro T
  induction T with
  | nil => intro _; rfl
  | cons a T ih =>
    intro h
    rw [lk_cons, if_neg (h a List.mem_cons_self)]
    exact ih (fun t ht => h t (List.mem_cons_of_mem _ ht))
theorem lk_mem {t : Th} : ∀ {T : List Th}, (T.map (fun t => t.1)).Nodup → t ∈ T → lk T t.1 = t := by
  intro T
  induction T with
  | nil => intro _ h; cases h
  | cons a T ih =>
    intro hn h
    rw [List.map_cons, List.nodup_cons] at hn
    rw [lk_cons]
    rcases List.mem_cons.mp h with rfl | h
    · rw [if_pos rfl]
    · rw [if_neg (fun e => hn.1 (List.mem_map.mpr ⟨t, h, e.symm⟩))]
      exact ih hn.2 h
theorem lk_1 {T : List Th} {x : Int32} : (lk T x).1 = x := by
  induction T with
  | nil => rfl
  | cons a T ih =>
    rw [lk_cons]
    by_cases h : a.1 = x
    · rw [if_pos h]; exact h
    · rw [if_neg h]; exact ih
theorem lk_or {T : List Th} {x : Int32} : lk T x = newT x ∨ lk T x ∈ T := by
  induction T with
  | nil => exact Or.inl rfl
  | cons a T ih =>
    rw [lk_cons]
    by_cases h : a.1 = x
    · rw [if_pos h]; exact Or.inr List.mem_cons_self
    · rw [if_neg h]; exact ih.imp id (List.mem_cons_of_mem _)
theorem map_set1 {T : List Th} {i : Nat} {t t' : Th} (h : T[i]? = some t) (h1 : t'.1 = t.1) : (T.set i t').map (fun t => t.1) = T.map (fun t => t.1) := by
  apply List.ext_getElem?
  intro j
  rw [List.getElem?_map, List.getElem?_map]
  by_cases hj : i = j
  · subst hj
    rw [List.getElem?_set_self (List.getElem?_eq_some_iff.mp h).1, h]
    simp [h1]
  · rw [List.getElem?_set_ne hj]
theorem LK.set {f : Int32 → Th} {T : List Th} {i : Nat} {t t' : Th} (hL : LK f T) (h : T[i]? = some t) (h1 : t'.1 = t.1) : LK (fU f t.1 t') (T.set i t') := by
  obtain ⟨rfl, hn⟩ := hL
  have hm := map_set1 h h1
  have hn' : ((T.set i t').map (fun t => t.1)).Nodup := by rw [hm]; exact hn
  have hil := (List.getElem?_eq_some_iff.mp h).1
  refine ⟨?_, hn'⟩
  funext y
  by_cases hy : y = t.1
  · rw [hy, fU_s, ← h1]
    exact (lk_mem hn' (List.mem_of_getElem? (List.getElem?_set_self hil))).symm
  · rw [fU_n hy]
    rcases lk_or (T := T) (x := y) with h2 | h2
    · rcases lk_or (T := T.set i t') (x := y) with h3 | h3
      · rw [h2, h3]
      · have h4 : (lk (T.set i t') y).1 ∈ (T.set i t').map (fun t => t.1) := List.mem_map.mpr ⟨_, h3, rfl⟩
        rw [hm, lk_1] at h4
        obtain ⟨u, hu, hu1⟩ := List.mem_map.mp h4
        have h5 := lk_mem hn hu
        rw [hu1, h2] at h5
        rw [← h5] at hu
        obtain ⟨j, hj⟩ := List.getElem?_of_mem hu
        have hij : i ≠ j := fun e => by
          rw [← e, h] at hj
          exact hy (by rw [Option.some.inj hj]; rfl)
        have h6 : (T.set i t')[j]? = some (newT y) := by rw [List.getElem?_set_ne hij]; exact hj
        have h7 := lk_mem hn' (List.mem_of_getElem? h6)
        rw [show (newT y).1 = y from rfl] at h7
        rw [h2, h7]
    · obtain ⟨j, hj⟩ := List.getElem?_of_mem h2
      have hij : i ≠ j := fun e => by
        rw [← e, h] at hj
        exact hy (by rw [Option.some.inj hj, lk_1])
      have h6 : (T.set i t')[j]? = some (lk T y) := by rw [List.getElem?_set_ne hij]; exact hj
      have h7 := lk_mem hn' (List.mem_of_getElem? h6)
      rw [lk_1] at h7
      exact h7.symm
theorem LK.at {f : Int32 → Th} {T : List Th} {i : Nat} {t : Th} (hL : LK f T) (h : T[i]? = some t) : f t.1 = t := by
  rw [hL.1]; exact lk_mem hL.2 (List.mem_of_getElem? h)
theorem LK.FIs {f : Int32 → Th} {T : List Th} {x : Int32} {i : Nat} {t : Th} (hL : LK f T) (h : FI (byN x) T (some i)) (ht : T[i]? = some t) : t.1 = x ∧ f x = t := by
  obtain ⟨u, hu, hb, -⟩ := h
  rw [ht] at hu
  cases hu
  have e : t.1 = x := beq_iff_eq.mp hb
  exact ⟨e, by rw [← e]; exact hL.at ht⟩
theorem LK.FIn {f : Int32 → Th} {T : List Th} {x : Int32} (hL : LK f T) (h : FI (byN x) T none) : f x = newT x := by
  rw [hL.1]
  refine lk_no (fun t ht e => ?_)
  obtain ⟨j, hj⟩ := List.getElem?_of_mem ht
  have := h j t hj
  rw [show byN x t = (t.1 == x) from rfl, beq_iff_eq.mpr e] at this
  cases this
theorem LK.app {f : Int32 → Th} {T : List Th} {x : Int32} (hL : LK f T) (h : FI (byN x) T none) : LK f (T ++ [newT x]) := by
  have hno : ∀ t, t ∈ T → t.1 ≠ x := fun t ht e => by
    obtain ⟨j, hj⟩ := List.getElem?_of_mem ht
    have := h j t hj
    rw [show byN x t = (t.1 == x) from rfl, beq_iff_eq.mpr e] at this
    cases this
  obtain ⟨rfl, hn⟩ := hL
  have hn' : ((T ++ [newT x]).map (fun t => t.1)).Nodup := by
    rw [List.map_append, List.nodup_append]
    refine ⟨hn, List.nodup_cons.mpr ⟨List.not_mem_nil, List.nodup_nil⟩, fun a ha b hb e => ?_⟩
    obtain ⟨t, ht, rfl⟩ := List.mem_map.mp ha
    exact hno t ht (e.trans (List.mem_singleton.mp hb))
  refine ⟨?_, hn'⟩
  clear hn hn' h
  funext y
  induction T with
  | nil =>
    show lk [] y = lk [newT x] y
    rw [lk_cons, lk_nil]
    by_cases hy : (newT x).1 = y
    · rw [if_pos hy]; have : x = y := hy; rw [this]
    · rw [if_neg hy]
  | cons a T ih =>
    rw [List.cons_append, lk_cons, lk_cons]
    by_cases hy : a.1 = y
    · rw [if_pos hy, if_pos hy]
    · rw [if_neg hy, if_neg hy]
      exact ih (fun t ht => hno t (List.mem_cons_of_mem _ ht))
theorem LK.add {f : Int32 → Th} {T T1 : List Th} {x : Int32} {i : Nat} {t : Th} (hL : LK f T) (h : Add T x T1 i t) : LK f T1 ∧ T1[i]? = some t ∧ t.1 = x ∧ f x = t := by
  obtain ⟨h1, h2 | ⟨h2, h3, h4, h5⟩⟩ := h
  · obtain ⟨h2, rfl⟩ := h2
    obtain ⟨e1, e2⟩ := hL.FIs h2 h1
    exact ⟨hL, h1, e1, e2⟩
  · subst h3 h5
    exact ⟨hL.app h2, h1, rfl, hL.FIn h2⟩
theorem LK.lent {f : Int32 → Th} {T : List Th} {x : Int32} (hL : LK f T) (h : lent (f x) = true) : ∃ i : Nat, T[i]? = some (f x) := by
  rw [hL.1] at h ⊢
  rcases lk_or (T := T) (x := x) with h2 | h2
  · rw [h2] at h; cases h
  · exact List.getElem?_of_mem h2
/-! sums -/
theorem sm_point {F H : Nat → Nat} {k0 a : Nat} (h1 : F k0 = a) (h2 : H k0 = 0) (h3 : ∀ k, k ≠ k0 → F k = H k) : ∀ K, k0 < K → sm F (List.range K) = sm H (List.range K) + a := by
  have step : ∀ (F : Nat → Nat) K, sm F (List.range (K + 1)) = sm F (List.range K) + F K := by
    intro F K
    unfold sm
    rw [List.range_succ, List.map_append, List.sum_append]; simp
  have same : ∀ K, K ≤ k0 → sm F (List.range K) = sm H (List.range K) := by
    intro K
    induction K with
    | zero => intro _; rfl
    | succ K ih =>
      intro hK
      rw [step, step, ih (by omega), h3 K (by omega)]
  intro K
  induction K with
  | zero => intro h; exact absurd h (Nat.not_lt_zero _)
  | succ K ih =>
    intro hK
    rw [step, step]
    by_cases hk : K = k0
    · subst hk
      rw [same K (Nat.le_refl _), h1, h2]; omega
    · rw [ih (by omega), h3 K hk]; omega
theorem sm_zero {α : Type} {F : α → Nat} {l : List α} (h : ∀ k, k ∈ l → F k = 0) : sm F l = 0 := by
  induction l with
  | nil => rfl
  | cons a l ih =>
    show F a + sm F l = 0
    rw [h a List.mem_cons_self, ih (fun k hk => h k (List.mem_cons_of_mem _ hk))]
theorem sm_congr {α : Type} {F H : α → Nat} {l : List α} (h : ∀ k, k ∈ l → F k = H k) : sm F l = sm H l := by
  unfold sm
  congr 1
  exact List.map_congr_left h
theorem sm_T {φ : Th → Nat} {g : Nat → Int32} {K : Nat} (h0 : ∀ x, φ (newT x) = 0) (hinj : ∀ k k', k < K → k' < K → g k = g k' → k = k') : ∀ {T : List Th}, (T.map (fun t => t.1)).Nodup → (∀ t, t ∈ T → (∀ k, k < K → t.1 ≠ g k) → φ t = 0) → sm φ T = sm (fun k => φ (lk T (g k))) (List.range K) := by
  intro T
  induction T with
  | nil =>
    intro _ _
    rw [sm_zero (F := fun k => φ (lk [] (g k))) (fun k _ => h0 _)]; rfl
  | cons a T ih =>
    intro hn hs
    rw [List.map_cons, List.nodup_cons] at hn
    have hih := ih hn.2 (fun t ht => hs t (List.mem_cons_of_mem _ ht))
    show φ a + sm φ T = _
    by_cases hk : ∃ k0, k0 < K ∧ g k0 = a.1
    · obtain ⟨k0, hk0, e⟩ := hk
      have hF : ∀ k, k ∈ List.range K → φ (lk (a :: T) (g k)) = (fun k => if k = k0 then φ a else φ (lk T (g k))) k := by
        intro k hkk
        have hk := List.mem_range.mp hkk
        show _ = if k = k0 then φ a else φ (lk T (g k))
        rw [lk_cons]
        by_cases hkk0 : k = k0
        · rw [if_pos hkk0, hkk0, if_pos e.symm]
        · rw [if_neg hkk0, if_neg (fun e2 => hkk0 (hinj k k0 hk hk0 (e2.symm.trans e.symm)))]
      have hz : φ (lk T (g k0)) = 0 := by
        rw [e, lk_no (fun t ht e2 => hn.1 (List.mem_map.mpr ⟨t, ht, e2⟩))]; exact h0 _
      rw [sm_congr hF, sm_point (F := fun k => if k = k0 then φ a else φ (lk T (g k))) (k0 := k0) (H := fun k => φ (lk T (g k))) (if_pos rfl) hz (fun k hk => if_neg hk) K hk0, hih]
      omega
    · have hz : φ a = 0 := hs a List.mem_cons_self (fun k hk2 e => hk ⟨k, hk2, e.symm⟩)
      rw [hz, Nat.zero_add, hih]
      refine sm_congr (fun k hkk => ?_)
      rw [lk_cons, if_neg (fun e => hk ⟨k, List.mem_range.mp hkk, e.symm⟩)]
