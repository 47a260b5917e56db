section GN
variable {κ : Nat × Nat} {μ ν : MD} {d : Nat} {M : Mm} {pc : Nat} {lv : LV} {st rest : List Value} {k n : Nat} {Q : Option Value → Mm → Prop}
/-! making -/
def NL (own : String) (idx ci : Nat) (fs : List Value) : Prop := ∃ q : vw_C, vwCl[ci]? = some q ∧ (∀ w ∈ u_ws q.1 q.2.1 q.2.2, w ∈ gW) ∧ (∃ ty : Nat → FieldType, (∀ k, k < q.2.2 → parseFieldDescriptor (q.2.1 k).2.2.1 = some (ty k)) ∧ ∀ j, j < q.2.2 → defaultValue (ty j) = vp_V fs j) ∧ Cond.classLink own idx q.1 ∈ gW ∧ Cond.instantiable q.1 q.2.2 ∈ gW ∧ Cond.initialized q.1 ∈ gW ∧ fs.length = q.2.2
theorem g_new {idx ci k' n' : Nat} {fs : List Value} (L : NL μ.1.cls idx ci fs) (hd : decode μ.2.1 pc = .ok (.new idx, 3)) (hk' : k' + 1 ≤ k) (hn' : n' + fs.length ≤ n) (kk : ∀ q, M q = none → q ≠ κ.1 → G κ μ d (up M q (eO ci fs)) (pc + 3) lv (.ref q :: rest) k' n' Q) : G κ μ d M pc lv rest k n Q := by
  intro p l e R s m args below meth c D A H locs cells slots ls C hS hM0 hl
  obtain ⟨hx, hb, hr, hml, hown, hts, hnw, hlk, hnm, hdf, hdl, hkc, hks, hA, hE0⟩ := id C
  obtain ⟨ws, tys, bk, hK, hP, hD, hz, hEn⟩ := id hM0
  obtain ⟨⟨C0, T0, N0⟩, hc, hin, ⟨ty, hty, hdf2⟩, hcl, hins, hini, hlen⟩ := L
  refine va_new hx hb hts hin ty hty hown (hts _ hcl) (hts _ hins) (hts _ hini) hK hP hD hS hA hc hdf2 (by omega) (by have : fs.length = N0 := hlen; omega) hd (fun q H1 hP1 hD1 hS1 => ?_)
  obtain ⟨h1, h2, h3⟩ := mm_new (e' := eO ci fs) hK (fun _ h => h) hz hEn (fun xs h => by cases h) (fun M' => List.mem_append_right _ (List.mem_singleton.mpr rfl)) hP1 hD1
  exact kk q h1 h2 p l e R s m args below meth c D A H1 locs _ _ ls (C.mono (by omega) (by have : fs.length = N0 := hlen; omega)) hS1 h3 hl
theorem g_newI {x : Int32} {N k' n' : Nat} (hw : Cond.arrayClass .int ∈ gW) (hd : decode μ.2.1 pc = .ok (.newarray .int, 2)) (h0 : ¬ x < 0) (hN : x.toNatClampNeg = N) (hbt : N ≤ 100000) (hk' : k' + 1 ≤ k) (hn' : n' + N ≤ n) (kk : ∀ q, M q = none → q ≠ κ.1 → G κ μ d (up M q (aI N (fun _ => 0))) (pc + 2) lv (.ref q :: rest) k' n' Q) : G κ μ d M pc lv (.int x :: rest) k n Q := by
  intro p l e R s m args below meth c D A H locs cells slots ls C hS hM0 hl
  obtain ⟨hx, hb, hr, hml, hown, hts, hnw, hlk, hnm, hdf, hdl, hkc, hks, hA, hE0⟩ := id C
  obtain ⟨ws, tys, bk, hK, hP, hD, hz, hEn⟩ := id hM0
  refine va_newa (atype := .int) hx hb (hts _ hw) rfl hK hP hD hS hA (a0 := (N, .inl (fun _ => 0))) (fun cA => rfl) h0 hN (by show N * 4 ≤ _; omega) (by omega) (by omega) hd (fun q cA H1 hK1 hP1 hD1 hS1 => ?_)
  obtain ⟨h1, h2, h3⟩ := mm_new (e' := aI N (fun _ => 0)) hK1 (fun _ h => List.mem_append_left _ h) hz hEn (fun xs h => by cases h) (fun M' => ⟨cA, List.mem_append_right _ (List.mem_singleton.mpr rfl), List.mem_append_right _ (List.mem_singleton.mpr rfl)⟩) hP1 hD1
  exact kk q h1 h2 p l e R s m args below meth c D A H1 locs _ _ ls (C.mono (by omega) (by omega)) hS1 h3 hl
theorem g_newJ {x : Int32} {N k' n' : Nat} (hw : Cond.arrayClass .long ∈ gW) (hd : decode μ.2.1 pc = .ok (.newarray .long, 2)) (h0 : ¬ x < 0) (hN : x.toNatClampNeg = N) (hbt : N ≤ 100000) (hk' : k' + 1 ≤ k) (hn' : n' + N ≤ n) (kk : ∀ q, M q = none → q ≠ κ.1 → G κ μ d (up M q (aJ N (fun _ => 0))) (pc + 2) lv (.ref q :: rest) k' n' Q) : G κ μ d M pc lv (.int x :: rest) k n Q := by
  intro p l e R s m args below meth c D A H locs cells slots ls C hS hM0 hl
  obtain ⟨hx, hb, hr, hml, hown, hts, hnw, hlk, hnm, hdf, hdl, hkc, hks, hA, hE0⟩ := id C
  obtain ⟨ws, tys, bk, hK, hP, hD, hz, hEn⟩ := id hM0
  refine va_newa (atype := .long) hx hb (hts _ hw) rfl hK hP hD hS hA (a0 := (N, .inr (.inl (fun _ => 0)))) (fun cA => rfl) h0 hN (by show N * 8 ≤ _; omega) (by omega) (by omega) hd (fun q cA H1 hK1 hP1 hD1 hS1 => ?_)
  obtain ⟨h1, h2, h3⟩ := mm_new (e' := aJ N (fun _ => 0)) hK1 (fun _ h => List.mem_append_left _ h) hz hEn (fun xs h => by cases h) (fun M' => ⟨cA, List.mem_append_right _ (List.mem_singleton.mpr rfl), List.mem_append_right _ (List.mem_singleton.mpr rfl)⟩) hP1 hD1
  exact kk q h1 h2 p l e R s m args below meth c D A H1 locs _ _ ls (C.mono (by omega) (by omega)) hS1 h3 hl
theorem g_newR {x : Int32} {idx N k' n' : Nat} {E : String} (hcl : Cond.classLink μ.1.cls idx E ∈ gW) (hw : Cond.arrayOver (.object E) ∈ nW) (hd : decode μ.2.1 pc = .ok (.anewarray idx, 3)) (h0 : ¬ x < 0) (hN : x.toNatClampNeg = N) (hbt : N ≤ 100000) (hk' : k' + 1 ≤ k) (hn' : n' + N ≤ n) (kk : ∀ q, M q = none → q ≠ κ.1 → G κ μ d (up M q (aR E N (fun _ => none))) (pc + 3) lv (.ref q :: rest) k' n' Q) : G κ μ d M pc lv (.int x :: rest) k n Q := by
  intro p l e R s m args below meth c D A H locs cells slots ls C hS hM0 hl
  obtain ⟨hx, hb, hr, hml, hown, hts, hnw, hlk, hnm, hdf, hdl, hkc, hks, hA, hE0⟩ := id C
  obtain ⟨ws, tys, bk, hK, hP, hD, hz, hEn⟩ := id hM0
  refine va_newq hx hb hown (hts _ hcl) (hnw.2 _ hw) hK hP hD hS hA h0 hN (by omega) (by omega) (by omega) hd (fun q cA H1 hK1 hP1 hD1 hS1 => ?_)
  obtain ⟨h1, h2, h3⟩ := mm_new (e' := aR E N (fun _ => none)) hK1 (fun _ h => List.mem_append_left _ h) hz hEn (fun xs h => by cases h) (fun M' => ⟨cA, List.mem_append_right _ (List.mem_singleton.mpr rfl), List.mem_append_right _ (List.mem_singleton.mpr rfl)⟩) hP1 hD1
  exact kk q h1 h2 p l e R s m args below meth c D A H1 locs _ _ ls (C.mono (by omega) (by omega)) hS1 h3 hl
/-! arrays -/
theorem g_alen {a : Nat} {ty : FieldType} {x : vp_A} {v : Int32} (hd : decode μ.2.1 pc = .ok (.arraylength, 1)) (hM : M a = some (eA ty x)) (hv : nI x.1 = v) (kk : G κ μ d M (pc + 1) lv (.int v :: rest) k n Q) : G κ μ d M pc lv (.ref a :: rest) k n Q := by
  intro p l e R s m args below meth c D A H locs cells slots ls C hS hM0 hl
  obtain ⟨hx, hb, hr, hml, hown, hts, hnw, hlk, hnm, hdf, hdl, hkc, hks, hA, hE0⟩ := id C
  obtain ⟨ws, tys, bk, hK, hP, hD, hz, hEn⟩ := id hM0
  obtain ⟨cA, h1, h2⟩ := hEn a _ hM
  obtain ⟨q0, h3⟩ := List.getElem?_of_mem h1
  obtain ⟨t0, h4⟩ := List.getElem?_of_mem h2
  exact va_alen hx hb hK hP q0 t0 h3 h4 hv hd (kk p l e R s m args below meth c D A H locs cells slots ls C hS hM0 hl)
theorem g_alenE (hd : decode μ.2.1 pc = .ok (.arraylength, 1)) (kk : G κ μ d M (pc + 1) lv (.int 0 :: rest) k n Q) : G κ μ d M pc lv (.ref κ.1 :: rest) k n Q := by
  intro p l e R s m args below meth c D A H locs cells slots ls C hS hM0 hl
  obtain ⟨hx, hb, hr, hml, hown, hts, hnw, hlk, hnm, hdf, hdl, hkc, hks, hA, hE0⟩ := id C
  exact va_tlen hx hb hE0.2.1 hS rfl hd (kk p l e R s m args below meth c D A H locs cells slots ls C hS hM0 hl)

theorem g_iald {a N : Nat} {f : Nat → Int32} {i : Int32} (hd : decode μ.2.1 pc = .ok (.iaload, 1)) (hM : M a = some (aI N f)) (hi : vp_in i N) (kk : G κ μ d M (pc + 1) lv (.int (f i.toNatClampNeg) :: rest) k n Q) : G κ μ d M pc lv (.int i :: .ref a :: rest) k n Q := by
  intro p l e R s m args below meth c D A H locs cells slots ls C hS hM0 hl
  obtain ⟨hx, hb, hr, hml, hown, hts, hnw, hlk, hnm, hdf, hdl, hkc, hks, hA, hE0⟩ := id C
  obtain ⟨ws, tys, bk, hK, hP, hD, hz, hEn⟩ := id hM0
  obtain ⟨cA, h1, h2⟩ := hEn a _ hM
  obtain ⟨q0, h3⟩ := List.getElem?_of_mem h1
  obtain ⟨t0, h4⟩ := List.getElem?_of_mem h2
  exact va_iald hx hb hK hP q0 t0 h3 h4 hi hd (kk p l e R s m args below meth c D A H locs cells slots ls C hS hM0 hl)
theorem g_lald {a N : Nat} {f : Nat → Int64} {i : Int32} (hd : decode μ.2.1 pc = .ok (.laload, 1)) (hM : M a = some (aJ N f)) (hi : vp_in i N) (kk : G κ μ d M (pc + 1) lv (.long (f i.toNatClampNeg) :: rest) k n Q) : G κ μ d M pc lv (.int i :: .ref a :: rest) k n Q := by
  intro p l e R s m args below meth c D A H locs cells slots ls C hS hM0 hl
  obtain ⟨hx, hb, hr, hml, hown, hts, hnw, hlk, hnm, hdf, hdl, hkc, hks, hA, hE0⟩ := id C
  obtain ⟨ws, tys, bk, hK, hP, hD, hz, hEn⟩ := id hM0
  obtain ⟨cA, h1, h2⟩ := hEn a _ hM
  obtain ⟨q0, h3⟩ := List.getElem?_of_mem h1
  obtain ⟨t0, h4⟩ := List.getElem?_of_mem h2
  exact va_lald hx hb hK hP q0 t0 h3 h4 hi hd (kk p l e R s m args below meth c D A H locs cells slots ls C hS hM0 hl)
theorem g_aald {a N : Nat} {E : String} {f : Nat → Option Nat} {i : Int32} (hd : decode μ.2.1 pc = .ok (.aaload, 1)) (hM : M a = some (aR E N f)) (hi : vp_in i N) (kk : G κ μ d M (pc + 1) lv (va_rf (f i.toNatClampNeg) :: rest) k n Q) : G κ μ d M pc lv (.int i :: .ref a :: rest) k n Q := by
  intro p l e R s m args below meth c D A H locs cells slots ls C hS hM0 hl
  obtain ⟨hx, hb, hr, hml, hown, hts, hnw, hlk, hnm, hdf, hdl, hkc, hks, hA, hE0⟩ := id C
  obtain ⟨ws, tys, bk, hK, hP, hD, hz, hEn⟩ := id hM0
  obtain ⟨cA, h1, h2⟩ := hEn a _ hM
  obtain ⟨q0, h3⟩ := List.getElem?_of_mem h1
  obtain ⟨t0, h4⟩ := List.getElem?_of_mem h2
  exact va_aldq hx hb hK hP q0 t0 h3 h4 hi hd (kk p l e R s m args below meth c D A H locs cells slots ls C hS hM0 hl)
theorem g_iast {a N : Nat} {f : Nat → Int32} {i : Int32} {x : Int32} (hd : decode μ.2.1 pc = .ok (.iastore, 1)) (hM : M a = some (aI N f)) (hi : vp_in i N)  (kk : G κ μ d (up M a (aI N (upd f i.toNatClampNeg x))) (pc + 1) lv rest k n Q) : G κ μ d M pc lv (.int x :: .int i :: .ref a :: rest) k n Q := by
  intro p l e R s m args below meth c D A H locs cells slots ls C hS hM0 hl
  obtain ⟨hx, hb, hr, hml, hown, hts, hnw, hlk, hnm, hdf, hdl, hkc, hks, hA, hE0⟩ := id C
  obtain ⟨ws, tys, bk, hK, hP, hD, hz, hEn⟩ := id hM0
  obtain ⟨cA, h1, h2⟩ := hEn a _ hM
  obtain ⟨q0, h3⟩ := List.getElem?_of_mem h1
  obtain ⟨t0, h4⟩ := List.getElem?_of_mem h2
  refine va_iast hx hb hK hP hD hS q0 t0 h3 h4 hi hd (fun H1 locs1 hP1 hD1 hS1 => ?_)
  exact kk p l e R s m args below meth c D A H1 locs1 cells slots ls C hS1 (mm_set hK hD hz hEn h3 hM (fun xs h => by cases h) ⟨cA, mem_self h3, h2⟩ hP1 hD1) hl
theorem g_last {a N : Nat} {f : Nat → Int64} {i : Int32} {x : Int64} (hd : decode μ.2.1 pc = .ok (.lastore, 1)) (hM : M a = some (aJ N f)) (hi : vp_in i N)  (kk : G κ μ d (up M a (aJ N (vp_updL f i.toNatClampNeg x))) (pc + 1) lv rest k n Q) : G κ μ d M pc lv (.long x :: .int i :: .ref a :: rest) k n Q := by
  intro p l e R s m args below meth c D A H locs cells slots ls C hS hM0 hl
  obtain ⟨hx, hb, hr, hml, hown, hts, hnw, hlk, hnm, hdf, hdl, hkc, hks, hA, hE0⟩ := id C
  obtain ⟨ws, tys, bk, hK, hP, hD, hz, hEn⟩ := id hM0
  obtain ⟨cA, h1, h2⟩ := hEn a _ hM
  obtain ⟨q0, h3⟩ := List.getElem?_of_mem h1
  obtain ⟨t0, h4⟩ := List.getElem?_of_mem h2
  refine va_last hx hb hK hP hD hS q0 t0 h3 h4 hi hd (fun H1 locs1 hP1 hD1 hS1 => ?_)
  exact kk p l e R s m args below meth c D A H1 locs1 cells slots ls C hS1 (mm_set hK hD hz hEn h3 hM (fun xs h => by cases h) ⟨cA, mem_self h3, h2⟩ hP1 hD1) hl
theorem g_aastN {a N : Nat} {f : Nat → Option Nat} {i : Int32} {E : String} (hd : decode μ.2.1 pc = .ok (.aastore, 1)) (hM : M a = some (aR E N f)) (hi : vp_in i N)  (kk : G κ μ d (up M a (aR E N (va_up f i.toNatClampNeg none))) (pc + 1) lv rest k n Q) : G κ μ d M pc lv (.null :: .int i :: .ref a :: rest) k n Q := by
  intro p l e R s m args below meth c D A H locs cells slots ls C hS hM0 hl
  obtain ⟨hx, hb, hr, hml, hown, hts, hnw, hlk, hnm, hdf, hdl, hkc, hks, hA, hE0⟩ := id C
  obtain ⟨ws, tys, bk, hK, hP, hD, hz, hEn⟩ := id hM0
  obtain ⟨cA, h1, h2⟩ := hEn a _ hM
  obtain ⟨q0, h3⟩ := List.getElem?_of_mem h1
  obtain ⟨t0, h4⟩ := List.getElem?_of_mem h2
  refine va_astqN hx hb hK hP hD hS q0 t0 h3 h4 hi hd (fun H1 locs1 hP1 hD1 hS1 => ?_)
  exact kk p l e R s m args below meth c D A H1 locs1 cells slots ls C hS1 (mm_set hK hD hz hEn h3 hM (fun xs h => by cases h) ⟨cA, mem_self h3, h2⟩ hP1 hD1) hl
/-- v may stand in an array of E: it is an object of a class that the words say is castable -/
def Can (E : String) (M : Mm) (v : Nat) : Prop := ∃ (ci : Nat) (fs : List Value) (q : vw_C), M v = some (eO ci fs) ∧ vwCl[ci]? = some q ∧ Cond.castable q.1 E ∈ nW
theorem Can.any {E : String} {M : Mm} {v : Nat} (h : Can E M v) {D : va_G} {z : Nat} {s : State} {H : Heap} {ws : va_W} {tys : List (ClassId × FieldType)} {bk : Nat → Nat} (hK : va_K D vwCl tys s) (hP : va_P D vwCl ws H) (hEn : ∀ q e, M q = some e → Ent z ws tys M bk q e) (hnw : Nws s) : va_Any E s H v := by
  obtain ⟨ci, fs, q, h1, h2, h3⟩ := h
  obtain ⟨q0, h4⟩ := List.getElem?_of_mem (hEn v _ h1)
  refine va_rAny hK hP h4 h2 (fun comp c0 g1 g2 => ?_)
  obtain ⟨c1, t1, f1, f2, f3⟩ := Cond.castable_spec (va_Nw.use (A := #[]) rfl (hnw.2 _ h3))
  cases g2.symm.trans f1
  cases g1.symm.trans f2
  exact f3
theorem g_aast {a N : Nat} {f : Nat → Option Nat} {i : Int32} {E : String} {v : Nat} (hd : decode μ.2.1 pc = .ok (.aastore, 1)) (hM : M a = some (aR E N f)) (hi : vp_in i N) (hv : Can E M v) (kk : G κ μ d (up M a (aR E N (va_up f i.toNatClampNeg (some v)))) (pc + 1) lv rest k n Q) : G κ μ d M pc lv (.ref v :: .int i :: .ref a :: rest) k n Q := by
  intro p l e R s m args below meth c D A H locs cells slots ls C hS hM0 hl
  obtain ⟨hx, hb, hr, hml, hown, hts, hnw, hlk, hnm, hdf, hdl, hkc, hks, hA, hE0⟩ := id C
  obtain ⟨ws, tys, bk, hK, hP, hD, hz, hEn⟩ := id hM0
  obtain ⟨cA, h1, h2⟩ := hEn a _ hM
  obtain ⟨q0, h3⟩ := List.getElem?_of_mem h1
  obtain ⟨t0, h4⟩ := List.getElem?_of_mem h2
  refine va_astqM hx hb hK hP hD hS q0 t0 h3 h4 (hv.any hK hP hEn hnw) hi hd (fun H1 locs1 hP1 hD1 hS1 => ?_)
  exact kk p l e R s m args below meth c D A H1 locs1 cells slots ls C hS1 (mm_set hK hD hz hEn h3 hM (fun xs h => by cases h) ⟨cA, mem_self h3, h2⟩ hP1 hD1) hl
/-! casts -/
theorem g_castN {idx : Nat} (hd : decode μ.2.1 pc = .ok (.checkcast idx, 3)) (kk : G κ μ d M (pc + 3) lv (.null :: rest) k n Q) : G κ μ d M pc lv (.null :: rest) k n Q := by
  intro p l e R s m args below meth c D A H locs cells slots ls C hS hM0 hl
  obtain ⟨hx, hb, hr, hml, hown, hts, hnw, hlk, hnm, hdf, hdl, hkc, hks, hA, hE0⟩ := id C
  exact lv_castN hx hb hd (kk p l e R s m args below meth c D A H locs cells slots ls C hS hM0 hl)
theorem g_cast {idx a ci : Nat} {fs : List Value} {nm : String} {q : vw_C} (hcl : Cond.classLink μ.1.cls idx nm ∈ gW) (hq : vwCl[ci]? = some q) (hw : Cond.castable q.1 nm ∈ nW) (hd : decode μ.2.1 pc = .ok (.checkcast idx, 3)) (hM : M a = some (eO ci fs)) (kk : G κ μ d M (pc + 3) lv (.ref a :: rest) k n Q) : G κ μ d M pc lv (.ref a :: rest) k n Q := by
  intro p l e R s m args below meth c D A H locs cells slots ls C hS hM0 hl
  obtain ⟨hx, hb, hr, hml, hown, hts, hnw, hlk, hnm, hdf, hdl, hkc, hks, hA, hE0⟩ := id C
  obtain ⟨ws, tys, bk, hK, hP, hD, hz, hEn⟩ := id hM0
  obtain ⟨q0, h2⟩ := List.getElem?_of_mem (hEn a _ hM)
  exact va_castY hx hb hown (hts _ hcl) (hnw.2 _ hw) (va_recv hK hP hq h2) hd (kk p l e R s m args below meth c D A H locs cells slots ls C hS hM0 hl)
/-! returns -/
theorem g_iret {x : Int32} (hret : μ.2.2.2 = some .int) (hd : decode μ.2.1 pc = .ok (.ireturn, 1)) (hq : Q (some (.int x)) M) : G κ μ d M pc lv [.int x] k n Q := by
  intro p l e R s m args below meth c D A H locs cells slots ls C hS hM0 hl
  obtain ⟨hx, hb, hr, hml, hown, hts, hnw, hlk, hnm, hdf, hdl, hkc, hks, hA, hE0⟩ := id C
  refine W.widen (k := R.cells) (n := R.slots) (by omega) (by omega) ?_
  exact W.iret hx hb (hr.trans hret) (fun t ht hW => ⟨⟨_, M, rfl, hq, by rw [ht]; exact hM0.moved hW.alike⟩, hS.F ht⟩) hS.2.2 hd
theorem g_zret {x : Int32} (hret : μ.2.2.2 = some .boolean) (hn0 : narrow .boolean (.int x) = .int x) (hd : decode μ.2.1 pc = .ok (.ireturn, 1)) (hq : Q (some (.int x)) M) : G κ μ d M pc lv [.int x] k n Q := by
  intro p l e R s m args below meth c D A H locs cells slots ls C hS hM0 hl
  obtain ⟨hx, hb, hr, hml, hown, hts, hnw, hlk, hnm, hdf, hdl, hkc, hks, hA, hE0⟩ := id C
  refine W.widen (k := R.cells) (n := R.slots) (by omega) (by omega) ?_
  exact W.zret hx hb (hr.trans hret) hn0 (fun t ht hW => ⟨⟨_, M, rfl, hq, by rw [ht]; exact hM0.moved hW.alike⟩, hS.F ht⟩) hS.2.2 hd
theorem g_lret {x : Int64} (hret : μ.2.2.2 = some .long) (hd : decode μ.2.1 pc = .ok (.lreturn, 1)) (hq : Q (some (.long x)) M) : G κ μ d M pc lv [.long x] k n Q := by
  intro p l e R s m args below meth c D A H locs cells slots ls C hS hM0 hl
  obtain ⟨hx, hb, hr, hml, hown, hts, hnw, hlk, hnm, hdf, hdl, hkc, hks, hA, hE0⟩ := id C
  refine W.widen (k := R.cells) (n := R.slots) (by omega) (by omega) ?_
  exact W.lret hx hb (hr.trans hret) (fun t ht hW => ⟨⟨_, M, rfl, hq, by rw [ht]; exact hM0.moved hW.alike⟩, hS.F ht⟩) hS.2.2 hd
theorem g_vret (hret : μ.2.2.2 = none) (hd : decode μ.2.1 pc = .ok (.return_, 1)) (hq : Q none M) : G κ μ d M pc lv [] k n Q := by
  intro p l e R s m args below meth c D A H locs cells slots ls C hS hM0 hl
  obtain ⟨hx, hb, hr, hml, hown, hts, hnw, hlk, hnm, hdf, hdl, hkc, hks, hA, hE0⟩ := id C
  refine W.widen (k := R.cells) (n := R.slots) (by omega) (by omega) ?_
  exact W.vret hx hb (hr.trans hret) (fun t ht hW => ⟨⟨_, M, rfl, hq, by rw [ht]; exact hM0.moved hW.alike⟩, hS.F ht⟩) hS.2.2 hd
theorem g_aret {a : Nat} {rt : FieldType} (hret : μ.2.2.2 = some rt) (hrt : (∃ n, rt = .object n) ∨ ∃ t, rt = .array t) (hd : decode μ.2.1 pc = .ok (.areturn, 1)) (hq : Q (some (.ref a)) M) : G κ μ d M pc lv [.ref a] k n Q := by
  intro p l e R s m args below meth c D A H locs cells slots ls C hS hM0 hl
  obtain ⟨hx, hb, hr, hml, hown, hts, hnw, hlk, hnm, hdf, hdl, hkc, hks, hA, hE0⟩ := id C
  refine W.widen (k := R.cells) (n := R.slots) (by omega) (by omega) ?_
  exact W.aret hx hb (hr.trans hret) hrt (Or.inr ⟨a, rfl⟩) (fun t ht hW => ⟨⟨_, M, rfl, hq, by rw [ht]; exact hM0.moved hW.alike⟩, hS.F ht⟩) hS.2.2 hd
theorem g_aretN {rt : FieldType} (hret : μ.2.2.2 = some rt) (hrt : (∃ n, rt = .object n) ∨ ∃ t, rt = .array t) (hd : decode μ.2.1 pc = .ok (.areturn, 1)) (hq : Q (some .null) M) : G κ μ d M pc lv [.null] k n Q := by
  intro p l e R s m args below meth c D A H locs cells slots ls C hS hM0 hl
  obtain ⟨hx, hb, hr, hml, hown, hts, hnw, hlk, hnm, hdf, hdl, hkc, hks, hA, hE0⟩ := id C
  refine W.widen (k := R.cells) (n := R.slots) (by omega) (by omega) ?_
  exact W.aret hx hb (hr.trans hret) hrt (Or.inl rfl) (fun t ht hW => ⟨⟨_, M, rfl, hq, by rw [ht]; exact hM0.moved hW.alike⟩, hS.F ht⟩) hS.2.2 hd
theorem g_lcmp {x y : Int64} (hd : decode μ.2.1 pc = .ok (.lcmp, 1)) (kk : G κ μ d M (pc + 1) lv (.int (lg_cmp x y) :: rest) k n Q) : G κ μ d M pc lv (.long y :: .long x :: rest) k n Q := by
  intro p l e R s m args below meth c D A H locs cells slots ls C hS hM0 hl
  obtain ⟨hx, hb, hr, hml, hown, hts, hnw, hlk, hnm, hdf, hdl, hkc, hks, hA, hE0⟩ := id C
  exact W.lcmp hx hb hd (kk p l e R s m args below meth c D A H locs cells slots ls C hS hM0 hl)
theorem g_gets {idx : Nat} (hlk3 : Cond.fieldLink μ.1.cls idx "java/util/ArrayList" "DEFAULTCAPACITY_EMPTY_ELEMENTDATA" "[Ljava/lang/Object;" ∈ gW) (hd : decode μ.2.1 pc = .ok (.getstatic idx, 3)) (kk : G κ μ d M (pc + 3) lv (.ref κ.1 :: rest) k n Q) : G κ μ d M pc lv rest k n Q := by
  intro p l e R s m args below meth c D A H locs cells slots ls C hS hM0 hl
  obtain ⟨hx, hb, hr, hml, hown, hts, hnw, hlk, hnm, hdf, hdl, hkc, hks, hA, hE0⟩ := id C
  exact va_gets hx hb hE0.1 hS hown (hts _ hlk3) (fun _ h => h) hd (kk p l e R s m args below meth c D A H locs cells slots ls C hS hM0 hl)
theorem g_ldcM {idx : Nat} (hcl : Cond.classLink μ.1.cls idx "[Ljava/lang/Object;" ∈ gW) (hd : decode μ.2.1 pc = .ok (.ldc idx, 2)) (kk : G κ μ d M (pc + 2) lv (.ref κ.2 :: rest) k n Q) : G κ μ d M pc lv rest k n Q := by
  intro p l e R s m args below meth c D A H locs cells slots ls C hS hM0 hl
  obtain ⟨hx, hb, hr, hml, hown, hts, hnw, hlk, hnm, hdf, hdl, hkc, hks, hA, hE0⟩ := id C
  exact va_ldcM hx hb hown (hts _ hcl) hE0.2.2 hd (kk p l e R s m args below meth c D A H locs cells slots ls C hS hM0 hl)
/-! calls -/
def ent : List Value → Nat → LV
  | [], n => List.replicate n none
  | _ :: _, 0 => []
  | v :: vs, n + 1 => match v with
    | .long _ => []
    | .double _ => []
    | v => some v :: ent vs n
def tk {ρ : Type} : Nat → List Value → List Value → (List Value → List Value → Option ρ) → Option ρ
  | 0, st, acc, k => k acc st
  | _ + 1, [], _, _ => none
  | n + 1, v :: st, acc, k => tk n st (v :: acc) k
theorem tk_spec {ρ : Type} {r : ρ} {k : List Value → List Value → Option ρ} : ∀ (n : Nat) (st acc : List Value), tk n st acc k = some r → ∃ as rest, st = as.reverse ++ rest ∧ as.length = n ∧ k (as ++ acc) rest = some r := by
  intro n
  induction n with
  | zero => intro st acc h; exact ⟨[], st, rfl, rfl, h⟩
  | succ n ih =>
    intro st acc h
    cases st with
    | nil => simp [tk] at h
    | cons v st =>
      obtain ⟨as, rest, h1, h2, h3⟩ := ih st (v :: acc) h
      refine ⟨as ++ [v], rest, by simp [h1], by simp [h2], by simpa using h3⟩
def c1s (vs : List Value) : Bool := vs.all (fun v => !c2 (some v))
theorem c1s_len : ∀ (vs : List Value), c1s vs = true → (lg_sl vs).length = vs.length ∧ ∀ i, lv_args i vs = (vs.zipIdx i).map (fun q => (q.2, q.1)) := by
  intro vs
  induction vs with
  | nil => intro _; exact ⟨rfl, fun i => rfl⟩
  | cons v vs ih =>
    intro h
    simp only [c1s, List.all_cons, Bool.and_eq_true] at h
    obtain ⟨h1, h2⟩ := ih h.2
    have hc : v.category = 1 := by cases v <;> first | rfl | (simp [c2] at h)
    constructor
    · have he : lg_sl (v :: vs) = Slot.val v :: lg_sl vs := by simp [lg_sl, hc]
      rw [he, List.length_cons, h1, List.length_cons]
    · intro i
      simp [lv_args, hc, h2]
theorem ent_len : ∀ (vs : List Value) (n : Nat), c1s vs = true → vs.length ≤ n → (ent vs n).length = n ∧ ∀ (i : Nat) (v : Value), (ent vs n)[i]? = some (some v) → vs[i]? = some v := by
  intro vs
  induction vs with
  | nil =>
    intro n _ _
    refine ⟨by simp [ent], fun i v h => ?_⟩
    simp only [ent, List.getElem?_replicate] at h
    split at h <;> simp at h
  | cons v vs ih =>
    intro n h hn
    simp only [c1s, List.all_cons, Bool.and_eq_true] at h
    cases n with
    | zero => simp at hn
    | succ n =>
      obtain ⟨h1, h2⟩ := ih n h.2 (by simpa using hn)
      have he : ent (v :: vs) (n + 1) = some v :: ent vs n := by cases v <;> first | rfl | (simp [c2] at h)
      rw [he]
      refine ⟨by simp [h1], fun i w hw => ?_⟩
      cases i with
      | zero => simpa using hw
      | succ i => simpa using h2 i w (by simpa using hw)
theorem lh_ent {vs : List Value} {n : Nat} (h : c1s vs = true) (hn : vs.length ≤ n) : lh ((lg_sl vs ++ List.replicate (n - (lg_sl vs).length) Slot.unset).toArray) n (ent vs n) := by
  obtain ⟨h1, h2⟩ := c1s_len vs h
  obtain ⟨h3, h4⟩ := ent_len vs n h hn
  have hE := lv_entry vs (n := n) (by rw [h1]; exact hn)
  refine ⟨h3, hE.1, hE.2.1, fun i v hv => hE.2.2 (i, v) ?_⟩
  rw [h2 0]
  have h5 := h4 i v hv
  refine List.mem_map.mpr ⟨(v, i), ?_, rfl⟩
  rw [List.mem_iff_getElem?]
  exact ⟨i, by simp [List.getElem?_zipIdx, h5]⟩
def MC (ν : MD) (np : Nat) : Prop := Cond.code ν.1 ν.2.1 ν.2.2.1 ν.2.2.2 ∈ gW ∧ plainName ν.1.cls = true ∧ Cond.initialized ν.1.cls ∈ gW ∧ (ν.1.cls ≠ "java/lang/invoke/MethodHandle" ∧ ν.1.cls ≠ "java/lang/invoke/VarHandle" ∧ (parseMethodDescriptor ν.1.desc).map (fun d => d.parameters.length) = some np) ∧ ν.2.2.1 ≤ 21
abbrev gRm (d k n : Nat) : Room := { frames := d, cells := k, slots := n, locals := d * 40 }
abbrev gWs (ν : MD) : List Cond := Cond.code ν.1 ν.2.1 ν.2.2.1 ν.2.2.2 :: gW
abbrev gPc (κ : Nat × Nat) (D : va_G) (A : Nat → Prop) (M : Mm) (As : List Value) : Array Value → State → Prop := va_Pc As (fun U => mm D A κ.1 M U U.heap ∧ Nws U ∧ (∀ q, U.heap.size ≤ q → A q) ∧ Ez A U κ)
theorem gWs_good {ν : MD} {np : Nat} (h : MC ν np) : GoodIn gW (gWs ν) := fun w hw => by
  rcases List.mem_cons.mp hw with h1 | h1
  · rw [h1]; exact gW_good _ h.1
  · exact gW_good w h1
theorem Ez.moved {A : Nat → Prop} {κ : Nat × Nat} {s U : State} (hv : s.vm.Alike U.vm) (hS : ∀ a : Nat, a < s.heap.size → ¬ A a → U.heap[a]? = s.heap[a]?) (h : Ez A s κ) : Ez A U κ :=
  ⟨(h.1.kept hS).moved hv, (h.2.1.kept hS).moved hv, h.2.2.moved hv⟩
theorem G.met {M : Mm} {As : List Value} {np : Nat} (l : Launch) (D : va_G) (A : Nat → Prop) (hC : MC ν np) (h1 : c1s As = true) (h2 : As.length ≤ ν.2.2.1) (h : G κ ν d M 0 (ent As ν.2.2.1) [] k n Q) : Met l ν.1 (gWs ν) (gRm d k n) (gPc κ D A M As) (Qp Q D A κ.1) k n A := by
  refine Met.ofW (cc := ν.2.1) (maxL := ν.2.2.1) (ret := ν.2.2.2) hC.2.1 rfl ?_
  intro p e s m args below meth c s₁ B hml hv
  obtain ⟨rfl, hM, hnw, hA, hE⟩ := hv
  rw [lg_entry_eq]
  have hts := atoms_spec (ws := gWs ν) B.pre
  exact h p l e (gRm d k n) s m _ below meth c D A s.heap [] 0 0 _ ⟨B.exec, B.bytes, B.returns, hml, findClass_of_methodNamed B.named, fun w hw => hts w (List.mem_cons_of_mem _ hw), hnw, B.notSynchronized, (name_of_methodNamed B.named B.method).1, Nat.le_refl _, Nat.le_refl _, by show 0 + k ≤ k; omega, by show 0 + n ≤ n; omega, hA, hE⟩ va_S.rf hM (lh_ent h1 h2)
theorem gPre {p : Program} {R : Room} {s : State} {m : MethodId} {args : Array Value} {meth : Method} {c : Code} {cells slots : Nat} {D : va_G} {A : Nat → Prop} {H : Heap} {locs : List Loc} {As : List Value} (C : Cx κ μ d k n A p R s m args meth c cells slots) (hS : va_S A s.heap H locs) (hM : mm D A κ.1 M s H) : PreS s H (gPc κ D A M As) As := by
  obtain ⟨hx, hb, hr, hml, hown, hts, hnw, hlk, hnm, hdf, hdl, hkc, hks, hA, hE0⟩ := id C
  refine ⟨fun a U g mk q => ?_, fun U hU hW => ?_⟩
  · obtain ⟨q0, q1, q2, q3, q4⟩ := q
    exact ⟨q0, mm.moved (s := U) (U := U.calling g mk a) (Vm.Alike.refl U.vm) q1, Nws.same (s := U) (U := U.calling g mk a) rfl q2, q3, Ez.moved (s := U) (U := U.calling g mk a) (Vm.Alike.refl U.vm) (fun _ _ _ => rfl) q4⟩
  · refine ⟨rfl, ?_, hnw.moved hW, ?_, ?_⟩
    · rw [hU]; exact hM.moved hW.alike
    · intro q hq
      rw [hU] at hq
      exact hA q (Nat.le_trans hS.1 hq)
    · exact hE0.moved hW.alike (fun a h1 h2 => by rw [hU]; exact hS.2.1 a h1 h2)
theorem g_after {p : Program} {l : Launch} {e : Env} {R : Room} {s : State} {m : MethodId} {args : Array Value} {below : List Frame} {meth : Method} {c : Code} {H : Heap} {locs : List Loc} {cells slots mc ms : Nat} {D : va_G} {A : Nat → Prop} {ls : Array Slot} {a : Array Value} {Q1 : Option Value → Mm → Prop} {k' n' : Nat}
    (hr : va_Run p l e R s m args below meth c H locs cells slots mc ms (F0 m pc ls st) rest (Qp Q1 D A κ.1 a) A) (C : Cx κ μ d k n A p R s m args meth c cells slots) (h1 : mc + k' ≤ k) (h2 : ms + n' ≤ n) (hS : va_S A s.heap H locs) (hl : lh ls μ.2.2.1 lv)
    (kk : ∀ v M', Q1 v M' → G κ μ d M' (pc + 3) lv (v.toList ++ rest) k' n' Q) : W p l e R s m args below meth c H locs cells slots (MQ below (Qp Q D A κ.1) args s R.cells R.slots A) (F0 m pc ls st) := by
  intro T hT X
  obtain ⟨v, st₀, t, T', L, h0, X', hL, e1, e2, ⟨⟨v', M', hv, hp, hm⟩, hz, hk⟩, stp⟩ := hr T hT X
  cases hv
  rw [h0] at hz hk
  have hS' : va_S A s.heap T'.heap (locs ++ L) := ⟨Nat.le_trans hS.1 (by rw [e1]; exact hz), fun q g1 g2 => by rw [e1, hk q (Nat.lt_of_lt_of_le g1 hS.1) g2]; exact hS.2.1 q g1 g2, fun q hq => by
      rcases List.mem_append.mp hq with h | h
      · exact hS.2.2 q h
      · exact hL q h⟩
  have hal : s.vm.Alike t.vm := by rw [← e2]; exact X'.warmed.alike
  obtain ⟨t2, a1, b1⟩ := kk v M' hp p l e R s m args below meth c D A T'.heap (locs ++ L) (cells + mc) (slots + ms) ls (C.mono (by omega) (by omega)) hS' (by rw [e1]; exact hm.moved hal.symm) hl T' rfl X'
  exact ⟨t2, stp t2 a1, b1⟩
/-- a static method of a class of ours -/
def MS (own : String) (idx : Nat) (ν : MD) (np : Nat) : Prop := MC ν np ∧ Cond.methodLink own idx ν.1 ∈ gW ∧ Cond.static ν.1 ∈ gW
theorem g_invS {idx np k1 n1 k2 n2 : Nat} {As : List Value} {Q1 : Option Value → Mm → Prop} (L : MS μ.1.cls idx ν np) (hd : decode μ.2.1 pc = .ok (.invokestatic idx, 3)) (hst : tk np st [] (fun a b => some (a, b)) = some (As, rest)) (hok : c1s As = true ∧ As.length ≤ ν.2.2.1 ∧ (rest.map fun v => v.category).sum ≤ 8)
    (hc : G κ ν d M 0 (ent As ν.2.2.1) [] k1 n1 Q1) (hk : k1 + k2 ≤ k) (hn : n1 + n2 ≤ n) (kk : ∀ v M', Q1 v M' → G κ μ (d + 1) M' (pc + 3) lv (v.toList ++ rest) k2 n2 Q) : G κ μ (d + 1) M pc lv st k n Q := by
  intro p l e R s m args below meth c D A H locs cells slots ls C hS hM0 hl
  obtain ⟨hx, hb, hr, hml, hown, hts, hnw, hlk, hnm, hdf, hdl, hkc, hks, hA, hE0⟩ := id C
  obtain ⟨hC, hl1, hl2⟩ := L
  obtain ⟨as, rest', h1, h2, h3⟩ := tk_spec _ _ _ hst
  rw [List.append_nil] at h3
  cases h3
  have hM := hc.met l D A hC hok.1 hok.2.1
  have hcb : CallB R s args μ.1.cls idx ν.1 ν.2.1 ν.2.2.1 ν.2.2.2 (gWs ν) (gRm d k1 n1) k1 n1 np := callB_of np hts (gWs_good hC) rfl rfl rfl (hts _ hC.2.2.1) (hts _ hl1) hC.2.2.2.1 ⟨hdf, by show 8 + (ν.2.2.1 + 11) + d * 40 ≤ _; have := hC.2.2.2.2; omega⟩
  exact g_after (va_runS ⟨hx, hb, hml, hown, hts⟩ hM ⟨hcb, hts _ hl2⟩ (gPre C hS hM0) rfl h2 hl.2.1 h1 (lv_room hok.2.2) hd ⟨by omega, by omega⟩) C hk hn hS hl kk
/-- an instance method of the receiver's own class, public or private -/
def MV (own : String) (idx ci : Nat) (ν : MD) (np : Nat) : Prop := MC ν np ∧ Cond.methodLink own idx ν.1 ∈ gW ∧ Cond.instanceMethod ν.1 ∈ gW ∧ ∃ q : vw_C, vwCl[ci]? = some q ∧ Cond.selects q.1 ν.1 ν.1 ∈ gW
theorem g_invV {idx np ci b k1 n1 k2 n2 : Nat} {fs As : List Value} {Q1 : Option Value → Mm → Prop} (L : MV μ.1.cls idx ci ν np) (hd : decode μ.2.1 pc = .ok (.invokevirtual idx, 3)) (hst : tk np st [] (fun a b => some (a, b)) = some (As, .ref b :: rest)) (hok : c1s As = true ∧ As.length + 1 ≤ ν.2.2.1 ∧ (rest.map fun v => v.category).sum ≤ 8) (hMb : M b = some (eO ci fs))
    (hc : G κ ν d M 0 (ent (.ref b :: As) ν.2.2.1) [] k1 n1 Q1) (hk : k1 + k2 ≤ k) (hn : n1 + n2 ≤ n) (kk : ∀ v M', Q1 v M' → G κ μ (d + 1) M' (pc + 3) lv (v.toList ++ rest) k2 n2 Q) : G κ μ (d + 1) M pc lv st k n Q := by
  intro p l e R s m args below meth c D A H locs cells slots ls C hS hM0 hl
  obtain ⟨hx, hb, hr, hml, hown, hts, hnw, hlk, hnm, hdf, hdl, hkc, hks, hA, hE0⟩ := id C
  obtain ⟨hC, hl1, hl2, q, hq, hsel⟩ := L
  obtain ⟨as, rest', h1, h2, h3⟩ := tk_spec _ _ _ hst
  rw [List.append_nil] at h3
  cases h3
  have hM := hc.met l D A hC (by simpa [c1s, c2] using hok.1) (by simpa using hok.2.1)
  have hcb : CallB R s args μ.1.cls idx ν.1 ν.2.1 ν.2.2.1 ν.2.2.2 (gWs ν) (gRm d k1 n1) k1 n1 np := callB_of np hts (gWs_good hC) rfl rfl rfl (hts _ hC.2.2.1) (hts _ hl1) hC.2.2.2.1 ⟨hdf, by show 8 + (ν.2.2.1 + 11) + d * 40 ≤ _; have := hC.2.2.2.2; omega⟩
  obtain ⟨ws, tys, bk, hK, hP, hD, hz, hEn⟩ := id hM0
  obtain ⟨q0, g2⟩ := List.getElem?_of_mem (hEn b _ hMb)
  have hpr := gPre (As := .ref b :: As) C hS hM0
  exact g_after (va_runV ⟨hx, hb, hml, hown, hts⟩ hM ⟨hcb, hts _ hl2, hts _ hsel⟩ ⟨hpr.1, va_recv hK hP hq g2, hpr.2⟩ rfl h2 hl.2.1 h1 (lv_room hok.2.2) hd ⟨by omega, by omega⟩) C hk hn hS hl kk
/-- a list's own methods: the receiver is a list of the memory -/
theorem g_invL {idx np b k1 n1 k2 n2 : Nat} {As : List Value} {xs : List Nat} {Q1 : Option Value → Mm → Prop} (L : MV μ.1.cls idx 8 ν np) (hd : decode μ.2.1 pc = .ok (.invokevirtual idx, 3)) (hst : tk np st [] (fun a b => some (a, b)) = some (As, .ref b :: rest)) (hok : c1s As = true ∧ As.length + 1 ≤ ν.2.2.1 ∧ (rest.map fun v => v.category).sum ≤ 8) (hMb : M b = some (eL xs))
    (hc : G κ ν d M 0 (ent (.ref b :: As) ν.2.2.1) [] k1 n1 Q1) (hk : k1 + k2 ≤ k) (hn : n1 + n2 ≤ n) (kk : ∀ v M', Q1 v M' → G κ μ (d + 1) M' (pc + 3) lv (v.toList ++ rest) k2 n2 Q) : G κ μ (d + 1) M pc lv st k n Q := by
  intro p l e R s m args below meth c D A H locs cells slots ls C hS hM0 hl
  obtain ⟨hx, hb, hr, hml, hown, hts, hnw, hlk, hnm, hdf, hdl, hkc, hks, hA, hE0⟩ := id C
  obtain ⟨hC, hl1, hl2, q, hq, hsel⟩ := L
  obtain ⟨as, rest', h1, h2, h3⟩ := tk_spec _ _ _ hst
  rw [List.append_nil] at h3
  cases h3
  have hM := hc.met l D A hC (by simpa [c1s, c2] using hok.1) (by simpa using hok.2.1)
  have hcb : CallB R s args μ.1.cls idx ν.1 ν.2.1 ν.2.2.1 ν.2.2.2 (gWs ν) (gRm d k1 n1) k1 n1 np := callB_of np hts (gWs_good hC) rfl rfl rfl (hts _ hC.2.2.1) (hts _ hl1) hC.2.2.2.1 ⟨hdf, by show 8 + (ν.2.2.1 + 11) + d * 40 ≤ _; have := hC.2.2.2.2; omega⟩
  obtain ⟨ws, tys, bk, hK, hP, hD, hz, hEn⟩ := id hM0
  obtain ⟨⟨mc, hmc⟩, -⟩ := hEn b _ hMb
  obtain ⟨q0, g2⟩ := List.getElem?_of_mem hmc
  have hpr := gPre (As := .ref b :: As) C hS hM0
  exact g_after (va_runV ⟨hx, hb, hml, hown, hts⟩ hM ⟨hcb, hts _ hl2, hts _ hsel⟩ ⟨hpr.1, va_recv hK hP hq g2, hpr.2⟩ rfl h2 hl.2.1 h1 (lv_room hok.2.2) hd ⟨by omega, by omega⟩) C hk hn hS hl kk
/-- a constructor -/
def MI (own : String) (idx : Nat) (ν : MD) (np : Nat) : Prop := MC ν np ∧ Cond.methodLink own idx ν.1 ∈ gW ∧ ν.1.name = "<init>" ∧ Cond.instanceMethod ν.1 ∈ gW ∧ ν.2.2.2 = none
theorem g_invI {idx np b k1 n1 k2 n2 : Nat} {As : List Value} {Q1 : Option Value → Mm → Prop} (L : MI μ.1.cls idx ν np) (hd : decode μ.2.1 pc = .ok (.invokespecial idx, 3)) (hst : tk np st [] (fun a b => some (a, b)) = some (As, .ref b :: rest)) (hok : c1s As = true ∧ As.length + 1 ≤ ν.2.2.1 ∧ (rest.map fun v => v.category).sum ≤ 8)
    (hc : G κ ν d M 0 (ent (.ref b :: As) ν.2.2.1) [] k1 n1 Q1) (hk : k1 + k2 ≤ k) (hn : n1 + n2 ≤ n) (kk : ∀ v M', Q1 v M' → G κ μ (d + 1) M' (pc + 3) lv (v.toList ++ rest) k2 n2 Q) : G κ μ (d + 1) M pc lv st k n Q := by
  intro p l e R s m args below meth c D A H locs cells slots ls C hS hM0 hl
  obtain ⟨hx, hb, hr, hml, hown, hts, hnw, hlk, hnm, hdf, hdl, hkc, hks, hA, hE0⟩ := id C
  obtain ⟨hC, hl1, hy1, hl2, hno⟩ := L
  obtain ⟨as, rest', h1, h2, h3⟩ := tk_spec _ _ _ hst
  rw [List.append_nil] at h3
  cases h3
  have hM := hc.met l D A hC (by simpa [c1s, c2] using hok.1) (by simpa using hok.2.1)
  have hcb : CallB R s args μ.1.cls idx ν.1 ν.2.1 ν.2.2.1 none (gWs ν) (gRm d k1 n1) k1 n1 np := by
    rw [← hno]
    exact callB_of np hts (gWs_good hC) rfl rfl rfl (hts _ hC.2.2.1) (hts _ hl1) hC.2.2.2.1 ⟨hdf, by show 8 + (ν.2.2.1 + 11) + d * 40 ≤ _; have := hC.2.2.2.2; omega⟩
  exact g_after (va_runI ⟨hx, hb, hml, hown, hts⟩ hM ⟨hcb, hy1, hts _ hl2⟩ (gPre C hS hM0) rfl h2 hl.2.1 h1 (lv_room hok.2.2) hd ⟨by omega, by omega⟩) C hk hn hS hl kk
/-- a private constructor of a nest mate -/
def MIN (own : String) (idx : Nat) (ν : MD) (np : Nat) : Prop := MC ν np ∧ (∃ host, Cond.methodLinkNest own idx ν.1 host ∈ nW) ∧ ν.1.name = "<init>" ∧ Cond.instanceMethod ν.1 ∈ gW ∧ ν.2.2.2 = none
theorem g_invIN {idx np b k1 n1 k2 n2 : Nat} {As : List Value} {Q1 : Option Value → Mm → Prop} (L : MIN μ.1.cls idx ν np) (hd : decode μ.2.1 pc = .ok (.invokespecial idx, 3)) (hst : tk np st [] (fun a b => some (a, b)) = some (As, .ref b :: rest)) (hok : c1s As = true ∧ As.length + 1 ≤ ν.2.2.1 ∧ (rest.map fun v => v.category).sum ≤ 8)
    (hc : G κ ν d M 0 (ent (.ref b :: As) ν.2.2.1) [] k1 n1 Q1) (hk : k1 + k2 ≤ k) (hn : n1 + n2 ≤ n) (kk : ∀ v M', Q1 v M' → G κ μ (d + 1) M' (pc + 3) lv (v.toList ++ rest) k2 n2 Q) : G κ μ (d + 1) M pc lv st k n Q := by
  intro p l e R s m args below meth c D A H locs cells slots ls C hS hM0 hl
  obtain ⟨hx, hb, hr, hml, hown, hts, hnw, hlk, hnm, hdf, hdl, hkc, hks, hA, hE0⟩ := id C
  obtain ⟨hC, ⟨host, hl1⟩, hy1, hl2, hno⟩ := L
  obtain ⟨as, rest', h1, h2, h3⟩ := tk_spec _ _ _ hst
  rw [List.append_nil] at h3
  cases h3
  have hM := hc.met l D A hC (by simpa [c1s, c2] using hok.1) (by simpa using hok.2.1)
  have hcb : va_CN R s args μ.1.cls idx ν.1 host ν.2.1 ν.2.2.1 none (gWs ν) (gRm d k1 n1) k1 n1 np := by
    rw [← hno]
    exact va_cnB np hts (gWs_good hC) rfl rfl rfl (hnw.2 _ hl1) (hts _ hC.2.2.1) hC.2.2.2.1 ⟨hdf, by show 8 + (ν.2.2.1 + 11) + d * 40 ≤ _; have := hC.2.2.2.2; omega⟩
  exact g_after (va_runIN ⟨hx, hb, hml, hown, hts⟩ hM ⟨hcb, hy1, hts _ hl2⟩ (gPre C hS hM0) rfl h2 hl.2.1 h1 (lv_room hok.2.2) hd ⟨by omega, by omega⟩) C hk hn hS hl kk
theorem g_objInit {idx a : Nat} (hl1 : Cond.methodLink μ.1.cls idx Lib.objectInit ∈ gW) (hl2 : Cond.instanceMethod Lib.objectInit ∈ gW) (hl3 : Cond.code Lib.objectInit ⟨#[0xb1]⟩ 1 none ∈ gW) (hd : decode μ.2.1 pc = .ok (.invokespecial idx, 3)) (hsm : (rest.map fun v => v.category).sum ≤ 8) (kk : G κ μ (d + 1) M (pc + 3) lv rest k n Q) : G κ μ (d + 1) M pc lv (.ref a :: rest) k n Q := by
  intro p l e R s m args below meth c D A H locs cells slots ls C hS hM0 hl
  obtain ⟨hx, hb, hr, hml, hown, hts, hnw, hlk, hnm, hdf, hdl, hkc, hks, hA, hE0⟩ := id C
  refine W.objInit hx hb hown (hts _ hl1) (hts _ hl2) (hts _ hl3) rfl (by rw [hml]; exact hl.2.1) rfl hd (by omega) ?_ ?_
  · have := lv_room (m := m) (pc := pc) (ls := ls) (rest := .ref a :: rest) hsm
    omega
  · exact kk p l e R s m args below meth c D A H locs cells slots ls C hS hM0 hl
end GN
