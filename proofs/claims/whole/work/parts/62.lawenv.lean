/-! the law: its own method cell, and its start -/
def cellPc (b L : Nat) (xs : Nat → Int32) (k0 : Int32) : Array Value → State → Prop := fun v U => v = ([.ref b, .int k0] : List Value).toArray ∧ va_X b L xs U U.heap ∧ b < U.heap.size
def cellQ : Array Value → State → Outcome → State → Prop := fun _ st o t => ∃ v : Int32, o = .returned (some (.int v)) ∧ t.heap = st.heap
theorem cell_met {b L : Nat} {xs : Nat → Int32} {k0 : Int32} (hk0 : k0 = 0) (l : Launch) : Met l m_Law_cell.1 (gWs m_Law_cell) (gRm 0 0 0) (cellPc b L xs k0) cellQ 0 0 (fun _ => False) := by
  refine Met.ofW (cc := c_Law_cell) (maxL := 2) (ret := some .int) mc_Law_cell.2.1 rfl ?_
  intro p e s m args below meth c s₁ B hml hv
  obtain ⟨rfl, hX, hbl⟩ := hv
  rw [lg_entry_eq]
  have hl := lh_ent (vs := [.ref b, .int k0]) (n := 2) rfl (Nat.le_refl _)
  generalize (lg_sl [Value.ref b, Value.int k0] ++ List.replicate (2 - (lg_sl [Value.ref b, Value.int k0]).length) Slot.unset).toArray = ls at hl ⊢
  have hx : p.tables.exec = Jvm.exec := B.exec
  have hb : c.code = c_Law_cell := B.bytes
  have hr : meth.sig.returnType = some .int := B.returns
  have hlocks : meth.locks = false := B.notSynchronized
  have hS : va_S (fun _ => False) s.heap s.heap [] := va_S.rf
  have fin : ∀ (ls : Array Slot) (v : Int32), W p l e (gRm 0 0 0) s m ([.ref b, .int k0] : List Value).toArray below meth c s.heap [] 0 0 (MQ below cellQ ([.ref b, .int k0] : List Value).toArray s 0 0 (fun _ => False)) (F0 m 13 ls [.int v]) := fun ls v => W.iret hx hb hr (fun t ht _ => ⟨v, rfl, ht⟩) (fun _ h => by cases h) d_Law_cell_13 hlocks
  obtain ⟨lv2, st2, h1, h2⟩ := pxs_ok (p := p) (l := l) (e := e) (R := gRm 0 0 0) (s := s) (m := m) (args := ([.ref b, .int k0] : List Value).toArray) (below := below) (meth := meth) (H := s.heap) (locs := []) (cells := 0) (slots := 0) (Q := MQ below cellQ ([.ref b, .int k0] : List Value).toArray s 0 0 (fun _ => False)) (nL := 2) (ρ := LV × List Value) (k := fun a b => some (a, b)) (r := ([some (.ref b), some (.int k0)], [.ref b, .int k0])) hx hb _ 0 [some (.ref b), some (.int k0)] [] s_Law_cell_0 rfl
  cases h1
  refine h2 (fun ls2 hl2 => ?_) ls hl
  refine va_slen hx hb hX hbl (fun h => h) hS d_Law_cell_2 ?_
  refine lv_icmp_ge (tgt := 12) hx hb d_Law_cell_3 (by decide) (fun hc => ?_) (fun hc => ?_)
  · obtain ⟨lv2, st2, h1, h2⟩ := pxs_ok (p := p) (l := l) (e := e) (R := gRm 0 0 0) (s := s) (m := m) (args := ([.ref b, .int k0] : List Value).toArray) (below := below) (meth := meth) (H := s.heap) (locs := []) (cells := 0) (slots := 0) (Q := MQ below cellQ ([.ref b, .int k0] : List Value).toArray s 0 0 (fun _ => False)) (nL := 2) (ρ := LV × List Value) (k := fun a b => some (a, b)) (r := ([some (.ref b), some (.int k0)], [.int 0])) hx hb _ 12 [some (.ref b), some (.int k0)] [] s_Law_cell_12 rfl
    cases h1
    exact h2 (fun ls3 _ => fin ls3 _) ls2 hl2
  · obtain ⟨lv2, st2, h1, h2⟩ := pxs_ok (p := p) (l := l) (e := e) (R := gRm 0 0 0) (s := s) (m := m) (args := ([.ref b, .int k0] : List Value).toArray) (below := below) (meth := meth) (H := s.heap) (locs := []) (cells := 0) (slots := 0) (Q := MQ below cellQ ([.ref b, .int k0] : List Value).toArray s 0 0 (fun _ => False)) (nL := 2) (ρ := LV × List Value) (k := fun a b => some (a, b)) (r := ([some (.ref b), some (.int k0)], [.int k0, .ref b])) hx hb _ 6 [some (.ref b), some (.int k0)] [] s_Law_cell_6 rfl
    cases h1
    refine h2 (fun ls3 hl3 => ?_) ls2 hl2
    have hL0 : 0 < L := by
      rcases Nat.eq_zero_or_pos L with e0 | e0
      · exact absurd (by rw [e0, hk0]; decide) hc
      · exact e0
    refine va_sld hx hb hX hbl (fun h => h) hS (by rw [hk0]; exact vp_nI (j := 0) hL0 (by decide)) d_Law_cell_8 ?_
    obtain ⟨lv2, st2, h1, h2⟩ := pxs_ok (p := p) (l := l) (e := e) (R := gRm 0 0 0) (s := s) (m := m) (args := ([.ref b, .int k0] : List Value).toArray) (below := below) (meth := meth) (H := s.heap) (locs := []) (cells := 0) (slots := 0) (Q := MQ below cellQ ([.ref b, .int k0] : List Value).toArray s 0 0 (fun _ => False)) (nL := 2) (ρ := LV × List Value) (k := fun a b => some (a, b)) (r := ([some (.ref b), some (.int k0)], [.int (xs k0.toNatClampNeg)])) hx hb _ 9 [some (.ref b), some (.int k0)] [.int (xs k0.toNatClampNeg)] s_Law_cell_9 rfl
    cases h1
    exact h2 (fun ls4 _ => fin ls4 _) ls3 hl3
theorem gl_cell {κ : Nat × Nat} {b L : Nat} {xs : Nat → Int32} {M1 M2 : Mm} {pc : Nat} {lv : LV} {rest : List Value} {k n : Nat} {k0 : Int32} (hd : decode code pc = .ok (.invokestatic 9, 3)) (hk0 : k0 = 0) (hok : (rest.map fun v => v.category).sum ≤ 8) (kk : ∀ v, GL κ b L xs M1 M2 (pc + 3) lv (.int v :: rest) k n) : GL κ b L xs M1 M2 pc lv (.int k0 :: .ref b :: rest) k n := by
  intro p l e s m below meth c D H locs cells slots ls C hS hM0 hl
  obtain ⟨hx, hb, hr, hml, hown, hts, hnw, hlk, hkc, hks, hX, hbl, hE⟩ := id C
  obtain ⟨hC, hl1, hl2⟩ := l_Law_9
  have hcb : CallB room_1 s #[Value.ref b] "LeaseHouseLaw" 9 m_Law_cell.1 m_Law_cell.2.1 m_Law_cell.2.2.1 m_Law_cell.2.2.2 (gWs m_Law_cell) (gRm 0 0 0) 0 0 2 := callB_of 2 hts (gWs_good hC) rfl rfl rfl (hts _ hC.2.2.1) (hts _ hl1) hC.2.2.2.1 ⟨by show 0 + 1 ≤ 14; omega, by show 8 + (2 + 11) + 0 * 40 ≤ 542; omega⟩
  have hpr : PreS s H (cellPc b L xs k0) [.ref b, .int k0] := by
    refine ⟨fun a U g mk q => ?_, fun U hU hW => ?_⟩
    · exact ⟨q.1, va_X.moved (u := U) (U := U.calling g mk a) (Vm.Alike.refl U.vm) q.2.1, q.2.2⟩
    · refine ⟨rfl, ?_, ?_⟩
      · rw [hU]
        exact va_X.moved hW.alike (hX.kept (hS.2.1 b hbl (Nat.not_le.mpr hbl)))
      · rw [hU]; exact Nat.lt_of_lt_of_le hbl hS.1
  have hrun := va_runS (H := H) (locs := locs) (cells := cells) (slots := slots) (below := below) (e := e) (meth := meth) (g := F0 m pc ls (.int k0 :: .ref b :: rest)) (rest := rest) (R := room_1) ⟨hx, hb, hml, hown, hts⟩ (cell_met (b := b) (L := L) (xs := xs) (k0 := k0) hk0 l) ⟨hcb, hts _ hl2⟩ hpr rfl rfl hl.2.1 rfl (lv_room hok) hd ⟨by show cells + 0 ≤ 600000; omega, by show slots + 0 ≤ 7302250; omega⟩
  intro T hT X
  obtain ⟨v, st₀, t, T', Lc, h0, X', hL, e1, e2, ⟨v', hv, hh⟩, stp⟩ := hrun T hT X
  cases hv
  have hS' : va_S (AN s) s.heap T'.heap (locs ++ Lc) := by
    rw [e1, hh, h0]
    exact ⟨hS.1, hS.2.1, fun q hq => (List.mem_append.mp hq).elim (hS.2.2 q) (fun h => (hL q h).elim)⟩
  obtain ⟨t2, a1, b1⟩ := kk v' p l e s m below meth c D T'.heap (locs ++ Lc) (cells + 0) (slots + 0) ls (C.mono (Nat.le_refl _) (Nat.le_refl _)) hS' (by rw [e1, hh, h0]; exact hM0) hl T' rfl X'
  exact ⟨t2, stp t2 a1, b1⟩
theorem kn_of {own : String} {idx ci : Nat} {fs : List Value} {s : State} {args : Array Value} (hts : ∀ w ∈ gW, w.before args s = true) (LL : NL own idx ci fs) : ∃ (cC : ClassId) (iS : Nat → Nat), ∀ q, vwCl[ci]? = some q → u_Kn s q.1 q.2.1 q.2.2 cC iS := by
  obtain ⟨q, hq, hin, -, -, hins, -⟩ := LL
  obtain ⟨cC, iS, h⟩ := u_known (C := q.1) (T := q.2.1) (N := q.2.2) hts hin (hts _ hins)
  exact ⟨cC, iS, fun q' hq' => by rw [hq] at hq'; cases hq'; exact h⟩
theorem law_env {p : Program} {s : State} {m : MethodId} {meth : Method} {c : Code} {b L : Nat} {xs : Nat → Int32} (C0 : lw_At p s m meth c b L xs) : ∃ κ D, CL κ b L xs 600000 7302250 p s m meth c 0 0 ∧ m2 D κ.1 (fun _ => none) (fun _ => none) s s.heap := by
  obtain ⟨hx, hb, hr, hml, hown, hts, hX, hbl, hlocks, hgv⟩ := C0
  have hg : ∀ w ∈ gW, w.before #[Value.ref b] s = true := fun w hw => hts w (gW_in hw)
  have hf := flat_of_before _ hgv
  have harr : (Cond.arrayOf (.static "java/util/ArrayList" "DEFAULTCAPACITY_EMPTY_ELEMENTDATA" "[Ljava/lang/Object;") (.object "java/lang/Object")).before #[Value.ref b] s = true := hf _ (by decide +kernel)
  have hlen : (Cond.eq (.length (.static "java/util/ArrayList" "DEFAULTCAPACITY_EMPTY_ELEMENTDATA" "[Ljava/lang/Object;")) (.int 0)).before #[Value.ref b] s = true := hf _ (by decide +kernel)
  have hmi : (Cond.isRef (.mirror "[Ljava/lang/Object;")).before #[Value.ref b] s = true := hf _ (by decide +kernel)
  have hAN : ∀ a : Nat, a < s.heap.size → ¬ AN s a := fun a h => Nat.not_le.mpr h
  obtain ⟨z, hz, hT⟩ := va_Tof (N := 0) (f := fun _ => .null) (A := AN s) (by decide) harr (va_eqt hlen) (fun j hj => absurd hj (Nat.not_lt_zero _)) hAN
  obtain ⟨mi, hMi⟩ := va_Mi.of hmi
  have hZ : va_Z "java/util/ArrayList" "DEFAULTCAPACITY_EMPTY_ELEMENTDATA" "[Ljava/lang/Object;" (.ref z) (AN s) s s.heap := va_Zof (hts (.laysStatic "java/util/ArrayList" "DEFAULTCAPACITY_EMPTY_ELEMENTDATA" "[Ljava/lang/Object;") (by decide +kernel)) (hts (.initialized "java/util/ArrayList") (by decide +kernel)) hz hAN
  have hzl : z < s.heap.size := by
    obtain ⟨cell, h1, -⟩ := hT
    exact (Array.getElem?_eq_some_iff.mp h1).1
  have hn2 : ∀ w, w ∈ nW → va_Nw w s := by
    intro w hw
    have h1 := hts w (List.mem_filter.mp hw).1
    have h2 := (List.mem_filter.mp hw).2
    unfold nok at h2
    split at h2
    · exact va_Nw.of rfl h1
    · exact va_Nw.of rfl h1
    · exact va_Nw.of rfl h1
    · exact va_AO.of h1
    · cases h2
  have hnw : Nws s := ⟨va_Dc.of (hts (.declares ⟨"java/lang/Object", "getClass", "()Ljava/lang/Class;"⟩) (by decide +kernel)), hn2⟩
  have hall : ∀ k : Nat, ∃ (cC : ClassId) (iS : Nat → Nat), ∀ q : vw_C, vwCl[k]? = some q → u_Kn s q.1 q.2.1 q.2.2 cC iS := by
    intro k
    match k with
    | 0 => exact kn_of hg n_Law_7
    | 1 => exact kn_of hg n_LH_59
    | 2 => exact kn_of hg n_LH_109
    | 3 => exact kn_of hg n_LH_117
    | 4 => exact kn_of hg n_LH_146
    | 5 => exact kn_of hg n_LH_176
    | 6 => exact kn_of hg n_LH_22
    | 7 => exact kn_of hg n_LH_28
    | 8 => exact kn_of hg n_LH_7
    | 9 => exact kn_of hg n_Law_18
    | k + 10 =>
      obtain ⟨cC, iS, -⟩ := kn_of hg n_Law_18
      exact ⟨cC, iS, fun q hq => by simp [vwCl] at hq⟩
  obtain ⟨dC, h1⟩ := Classical.axiomOfChoice hall
  obtain ⟨dI, h2⟩ := Classical.axiomOfChoice h1
  refine ⟨(z, mi), (dC, dI), ⟨hx, hb, hr, hml, hown, hg, hnw, hlocks, by omega, by omega, hX, hbl, hZ, hT, hMi⟩, [], [], [], id, id, ⟨fun k q h => h2 k q h, fun k q h => by simp at h⟩, fun k q h => by simp at h, fun k q h => by simp at h, ⟨fun i j p q h => by simp at h, fun k q h => by simp at h⟩, ⟨fun i j p q h => by simp at h, fun k q h => by simp at h⟩, ?_, hzl, fun q e h => (by cases h), fun q e h => (by cases h)⟩
  rintro q ⟨k, e, h⟩
  simp at h
