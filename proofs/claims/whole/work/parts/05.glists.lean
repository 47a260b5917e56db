section GL
variable {κ : Nat × Nat} {μ ν : MD} {d : Nat} {M : Mm} {pc : Nat} {lv : LV} {st rest : List Value} {k n : Nat} {Q : Option Value → Mm → Prop}
theorem mem_A {A : Nat → Prop} {ws : va_W} {q : Nat} {e : va_E} (hD : va_D A ws) (h : (q, e) ∈ ws) : A q := by
  obtain ⟨i, hi⟩ := List.getElem?_of_mem h
  exact hD.2 i _ hi
theorem mem_one {A : Nat → Prop} {ws : va_W} {q : Nat} {e e' : va_E} (hD : va_D A ws) (h : (q, e) ∈ ws) (h' : (q, e') ∈ ws) : e = e' := by
  obtain ⟨i, hi⟩ := List.getElem?_of_mem h
  obtain ⟨j, hj⟩ := List.getElem?_of_mem h'
  have := hD.1 i j _ _ hi hj rfl
  subst this
  rw [hi] at hj
  exact congrArg Prod.snd (Option.some.inj hj)
/-- a list is looked into: its cell, and what holds its elements -/
theorem g_open {a : Nat} {xs : List Nat} (hM : M a = some (eL xs)) (k1 : ∀ mc : Int32, xs = [] → G κ μ d (up M a (eO 8 [.int mc, .ref κ.1, .int (nI xs.length)])) pc lv st k n Q)
    (k2 : ∀ (mc : Int32) (b cap : Nat) (f : Nat → Option Nat), M b = none → b ≠ a → b ≠ κ.1 → xs.length ≤ cap → cap ≤ 100000 → (∀ i, i < xs.length → f i = xs[i]?) → G κ μ d (up (up M a (eO 8 [.int mc, .ref b, .int (nI xs.length)])) b (aR sOb cap f)) pc lv st k n Q) : G κ μ d M pc lv st k n Q := by
  intro p l e R s m args below meth c D A H locs cells slots ls C hS hM0 hl
  obtain ⟨hx, hb, hr, hml, hown, hts, hnw, hlk, hnm, hdf, hdl, hkc, hks, hA, hE0⟩ := id C
  obtain ⟨ws, tys, bk, hK, hP, hD, hz, hEn⟩ := id hM0
  obtain ⟨⟨mc, h1⟩, h2⟩ := hEn a _ hM
  have haz : a ≠ κ.1 := fun x => hz (by rw [← x]; exact mem_A hD h1)
  have hMn : M a ≠ none := by rw [hM]; exact fun h => by cases h
  have step1 : ∀ (e1 : Value) (q : Nat) (e : EE), q ≠ a → M q = some e → Ent κ.1 ws tys (up M a (eO 8 [.int mc, e1, .int (nI xs.length)])) bk q e := by
    intro e1 q e hq h
    refine (hEn q e h).keep a (fun _ _ h _ => h) (fun _ h => h) hq (fun ys he => ?_) (fun _ h => up_n h) (fun ys hx => ?_)
    · subst he
      exact (hEn q _ h).lists haz hMn
    · rw [up_s] at hx
      cases hx
  rcases h2 with ⟨hbz, hnil⟩ | ⟨g1, g2, g3, cA, cap, f, g4, g5, g6, g7⟩
  · refine k1 mc hnil p l e R s m args below meth c D A H locs cells slots ls C hS ⟨ws, tys, bk, hK, hP, hD, hz, fun q e h => ?_⟩ hl
    by_cases hq : q = a
    · subst hq
      rw [up_s] at h
      cases h
      rw [hbz] at h1
      exact h1
    · rw [up_n hq] at h
      exact step1 _ q e hq h
  · have hba : bk a ≠ a := fun x => hMn (by rw [← x]; exact g2)
    refine k2 mc (bk a) cap f g2 hba g1 g6 g7.1 g7.2 p l e R s m args below meth c D A H locs cells slots ls C hS ⟨ws, tys, bk, hK, hP, hD, hz, fun q e h => ?_⟩ hl
    by_cases hqb : q = bk a
    · rw [hqb, up_s] at h
      cases h
      rw [hqb]
      exact ⟨cA, g4, g5⟩
    · rw [up_n hqb] at h
      by_cases hq : q = a
      · subst hq
        rw [up_s] at h
        cases h
        exact h1
      · rw [up_n hq] at h
        refine (step1 (.ref (bk a)) q e hq h).keep (bk a) (fun _ _ h _ => h) (fun _ h => h) hqb (fun ys he => ?_) (fun _ h => up_n h) (fun ys hx => ?_)
        · subst he
          exact fun x => hq (g3 q ys h x)
        · rw [up_s] at hx
          cases hx
/-- a list that is new -/
theorem g_closeE {a : Nat} {mc : Int32} (M' : Mm) (hM : M a = some (eO 8 [.int mc, .ref κ.1, .int 0])) (hM' : ∀ q, M' q = if q = a then some (eL []) else M q) (kk : G κ μ d M' pc lv st k n Q) : G κ μ d M pc lv st k n Q := by
  intro p l e R s m args below meth c D A H locs cells slots ls C hS hM0 hl
  obtain ⟨hx, hb, hr, hml, hown, hts, hnw, hlk, hnm, hdf, hdl, hkc, hks, hA, hE0⟩ := id C
  obtain ⟨ws, tys, bk, hK, hP, hD, hz, hEn⟩ := id hM0
  refine kk p l e R s m args below meth c D A H locs cells slots ls C hS ⟨ws, tys, va_up bk a κ.1, hK, hP, hD, hz, fun q e h => ?_⟩ hl
  have ha := hEn a _ hM
  have haz : a ≠ κ.1 := fun x => hz (by rw [← x]; exact mem_A hD ha)
  rw [hM'] at h
  by_cases hq : q = a
  · rw [if_pos hq] at h
    cases h
    subst hq
    exact ⟨⟨mc, by rw [va_up_self]; exact ha⟩, Or.inl ⟨va_up_self _ _ _, rfl⟩⟩
  · rw [if_neg hq] at h
    have h0 := hEn q e h
    match e, h, h0 with
    | .inl o, h, h0 => exact h0
    | .inr (.inl x), h, h0 => exact h0
    | .inr (.inr ys), h, ⟨⟨mc2, g0⟩, h2⟩ =>
      have hka := (hEn q _ h).lists haz (by rw [hM]; exact fun h => by cases h)
      refine ⟨⟨mc2, by rw [va_up_ne _ _ hq]; exact g0⟩, ?_⟩
      rw [va_up_ne _ _ hq]
      rcases h2 with h2 | ⟨g1, g2, g3, cA2, cap2, f2, g4, g5, g6, g7⟩
      · exact Or.inl h2
      · refine Or.inr ⟨g1, by rw [hM', if_neg hka]; exact g2, fun q' xs' h3 h4 => ?_, cA2, cap2, f2, g4, g5, g6, g7⟩
        by_cases hq' : q' = a
        · rw [hq', va_up_self] at h4
          exact absurd h4.symm g1
        · rw [va_up_ne _ _ hq'] at h4
          rw [hM', if_neg hq'] at h3
          exact g3 q' xs' h3 h4
theorem g_acopy {idx a b na nb : Nat} {f g : Nat → Option Nat} {sp dp nn : Int32} {E0 E1 : String} (hl1 : Cond.methodLink μ.1.cls idx arraycopyName ∈ gW) (hl2 : Cond.native arraycopyName ∈ gW) (hl3 : Cond.static arraycopyName ∈ gW) (hl4 : Cond.initialized "java/lang/System" ∈ gW) (hd : decode μ.2.1 pc = .ok (.invokestatic idx, 3))
    (hMa : M a = some (aR E0 na f)) (hMb : M b = some (aR E1 nb g)) (h1 : ¬ sp < 0) (h2 : ¬ dp < 0) (h3 : ¬ nn < 0) (h4 : sp.toNatClampNeg + nn.toNatClampNeg ≤ na) (h5 : dp.toNatClampNeg + nn.toNatClampNeg ≤ nb) (hel : ∀ i : Nat, i < nn.toNatClampNeg → ∀ y : Nat, f (sp.toNatClampNeg + i) = some y → Can E1 M y)
    (hsm : (rest.map fun v => v.category).sum ≤ 8) (kk : G κ μ (d + 1) (up M b (aR E1 nb (va_cpy f g sp.toNatClampNeg dp.toNatClampNeg nn.toNatClampNeg))) (pc + 3) lv rest k n Q) : G κ μ (d + 1) M pc lv (.int nn :: .int dp :: .ref b :: .int sp :: .ref a :: rest) k n Q := by
  intro p l e R s m args below meth c D A H locs cells slots ls C hS hM0 hl
  obtain ⟨hx, hb, hr, hml, hown, hts, hnw, hlk, hnm, hdf, hdl, hkc, hks, hA, hE0⟩ := id C
  obtain ⟨ws, tys, bk, hK, hP, hD, hz, hEn⟩ := id hM0
  obtain ⟨cA, a1, a2⟩ := hEn a _ hMa
  obtain ⟨cB, b1, b2⟩ := hEn b _ hMb
  obtain ⟨q0, a3⟩ := List.getElem?_of_mem a1
  obtain ⟨t0, a4⟩ := List.getElem?_of_mem a2
  obtain ⟨q1, b3⟩ := List.getElem?_of_mem b1
  obtain ⟨t1, b4⟩ := List.getElem?_of_mem b2
  have hw : nativeFrameWords "java/lang/System" "arraycopy" 5 = 7 := by decide
  refine va_copyM hx hb (by rw [hml]; exact hl.2.1.symm) hown (hts _ hl1) (hts _ hl2) (hts _ hl3) (hts _ hl4) hK hP hD hS q0 q1 t0 t1 a3 b3 a4 b4 h1 h2 h3 h4 h5 (fun i hi y hy => (hel i hi y hy).any hK hP hEn hnw) (by omega) (by rw [hw]; omega) hd (fun H1 locs1 hP1 hD1 hS1 => ?_)
  exact kk p l e R s m args below meth c D A H1 locs1 cells slots ls C hS1 (mm_set hK hD hz hEn b3 hMb (fun xs h => by cases h) ⟨cB, mem_self b3, b2⟩ hP1 hD1) hl
theorem g_mmax {idx : Nat} {x y : Int32} (hl1 : Cond.methodLink μ.1.cls idx Lib.Math.max.name ∈ gW) (hl2 : Cond.static Lib.Math.max.name ∈ gW) (hl3 : Cond.initialized "java/lang/Math" ∈ gW) (hl4 : Cond.code Lib.Math.max.name Lib.Math.max.code 2 (some .int) ∈ gW) (hd : decode μ.2.1 pc = .ok (.invokestatic idx, 3)) (hsm : (rest.map fun v => v.category).sum ≤ 8) (kk : G κ μ (d + 1) M (pc + 3) lv (.int (if x < y then y else x) :: rest) k n Q) : G κ μ (d + 1) M pc lv (.int y :: .int x :: rest) k n Q := by
  intro p l e R s m args below meth c D A H locs cells slots ls C hS hM0 hl
  obtain ⟨hx, hb, hr, hml, hown, hts, hnw, hlk, hnm, hdf, hdl, hkc, hks, hA, hE0⟩ := id C
  exact va_mmax hx hb (by rw [hml]; exact hl.2.1.symm) hown (hts _ hl1) (hts _ hl2) (hts _ hl3) (hts _ hl4) (by omega) (by omega) (by omega) (by omega) hd (kk p l e R s m args below meth c D A H locs cells slots ls C hS hM0 hl)
theorem g_mmin {idx : Nat} {x y : Int32} (hl1 : Cond.methodLink μ.1.cls idx Lib.Math.min.name ∈ gW) (hl2 : Cond.static Lib.Math.min.name ∈ gW) (hl3 : Cond.initialized "java/lang/Math" ∈ gW) (hl4 : Cond.code Lib.Math.min.name Lib.Math.min.code 2 (some .int) ∈ gW) (hd : decode μ.2.1 pc = .ok (.invokestatic idx, 3)) (hsm : (rest.map fun v => v.category).sum ≤ 8) (kk : G κ μ (d + 1) M (pc + 3) lv (.int (if y < x then y else x) :: rest) k n Q) : G κ μ (d + 1) M pc lv (.int y :: .int x :: rest) k n Q := by
  intro p l e R s m args below meth c D A H locs cells slots ls C hS hM0 hl
  obtain ⟨hx, hb, hr, hml, hown, hts, hnw, hlk, hnm, hdf, hdl, hkc, hks, hA, hE0⟩ := id C
  exact va_mmin hx hb (by rw [hml]; exact hl.2.1.symm) hown (hts _ hl1) (hts _ hl2) (hts _ hl3) (hts _ hl4) (by omega) (by omega) (by omega) (by omega) hd (kk p l e R s m args below meth c D A H locs cells slots ls C hS hM0 hl)
theorem g_getC {idx a N : Nat} {f : Nat → Option Nat} (hl1 : Cond.methodLink μ.1.cls idx ⟨"java/lang/Object", "getClass", "()Ljava/lang/Class;"⟩ ∈ gW) (hl2 : Cond.selects "[Ljava/lang/Object;" ⟨"java/lang/Object", "getClass", "()Ljava/lang/Class;"⟩ ⟨"java/lang/Object", "getClass", "()Ljava/lang/Class;"⟩ ∈ gW) (hl3 : Cond.instanceMethod ⟨"java/lang/Object", "getClass", "()Ljava/lang/Class;"⟩ ∈ gW) (hl4 : Cond.native ⟨"java/lang/Object", "getClass", "()Ljava/lang/Class;"⟩ ∈ gW)
    (hd : decode μ.2.1 pc = .ok (.invokevirtual idx, 3)) (hM : M a = some (aR sOb N f)) (hsm : (rest.map fun v => v.category).sum ≤ 8) (kk : G κ μ (d + 1) M (pc + 3) lv (.ref κ.2 :: rest) k n Q) : G κ μ (d + 1) M pc lv (.ref a :: rest) k n Q := by
  intro p l e R s m args below meth c D A H locs cells slots ls C hS hM0 hl
  obtain ⟨hx, hb, hr, hml, hown, hts, hnw, hlk, hnm, hdf, hdl, hkc, hks, hA, hE0⟩ := id C
  obtain ⟨ws, tys, bk, hK, hP, hD, hz, hEn⟩ := id hM0
  obtain ⟨cA, a1, a2⟩ := hEn a _ hM
  obtain ⟨q0, a3⟩ := List.getElem?_of_mem a1
  obtain ⟨t0, a4⟩ := List.getElem?_of_mem a2
  exact va_getC hx hb (by rw [hml]; exact hl.2.1.symm) hown (hts _ hl1) (va_Dc.use hnw.1) (hts _ hl2) (hts _ hl3) (hts _ hl4) hE0.2.2 ⟨_, hP q0 _ a3, rfl, va_nmO (hK.2 t0 _ a4).2 rfl⟩ (by omega) (by omega) hd (kk p l e R s m args below meth c D A H locs cells slots ls C hS hM0 hl)
end GL
