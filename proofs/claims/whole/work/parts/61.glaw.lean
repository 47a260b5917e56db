/-! the law: two memories, one heap -/
abbrev AN (s : State) : Nat → Prop := fun q => s.heap.size ≤ q
def inW (w : va_W) (q : Nat) : Prop := ∃ (k : Nat) (e : va_E), w[k]? = some (q, e)
def m2 (D : va_G) (z : Nat) (M1 M2 : Mm) (s : State) (H : Heap) : Prop := ∃ (w1 w2 : va_W) (tys : List (ClassId × FieldType)) (bk1 bk2 : Nat → Nat), va_K D vwCl tys s ∧ va_P D vwCl w1 H ∧ va_P D vwCl w2 H ∧ va_D (AN s) w1 ∧ va_D (AN s) w2 ∧ (∀ q, inW w1 q → ¬ inW w2 q) ∧ z < s.heap.size ∧ (∀ q e, M1 q = some e → Ent z w1 tys M1 bk1 q e) ∧ ∀ q e, M2 q = some e → Ent z w2 tys M2 bk2 q e
theorem m2.swap {D : va_G} {z : Nat} {M1 M2 : Mm} {s : State} {H : Heap} (h : m2 D z M1 M2 s H) : m2 D z M2 M1 s H := by
  obtain ⟨w1, w2, tys, bk1, bk2, hK, h1, h2, h3, h4, h5, h6, h7, h8⟩ := h
  exact ⟨w2, w1, tys, bk2, bk1, hK, h2, h1, h4, h3, fun q a b => h5 q b a, h6, h8, h7⟩
theorem Ent.tys {z : Nat} {ws : va_W} {tys tys' : List (ClassId × FieldType)} {M : Mm} {bk : Nat → Nat} {q : Nat} {e : EE} (ht : ∀ x ∈ tys, x ∈ tys') (h : Ent z ws tys M bk q e) : Ent z ws tys' M bk q e := by
  match e, h with
  | .inl o, h => exact h
  | .inr (.inl x), ⟨cA, h1, h2⟩ => exact ⟨cA, h1, ht _ h2⟩
  | .inr (.inr xs), ⟨h1, h2⟩ =>
    refine ⟨h1, ?_⟩
    rcases h2 with h2 | ⟨g1, g2, g3, cA, cap, f, g4, g5, g6⟩
    · exact Or.inl h2
    · exact Or.inr ⟨g1, g2, g3, cA, cap, f, g4, ht _ g5, g6⟩
def CL (κ : Nat × Nat) (b L : Nat) (xs : Nat → Int32) (k n : Nat) (p : Program) (s : State) (m : MethodId) (meth : Method) (c : Code) (cells slots : Nat) : Prop :=
  p.tables.exec = Jvm.exec ∧ c.code = code ∧ meth.sig.returnType = ret ∧ c.maxLocals = 4 ∧ s.vm.findClass "LeaseHouseLaw" = some m.cls ∧ (∀ w ∈ gW, w.before #[Value.ref b] s = true) ∧ Nws s ∧ meth.locks = false ∧ cells + k ≤ 600000 ∧ slots + n ≤ 7302250 ∧ va_X b L xs s s.heap ∧ b < s.heap.size ∧ Ez (AN s) s κ
theorem CL.mono {κ : Nat × Nat} {b L : Nat} {xs : Nat → Int32} {k n k' n' cells slots cells' slots' : Nat} {p : Program} {s : State} {m : MethodId} {meth : Method} {c : Code} (h : CL κ b L xs k n p s m meth c cells slots) (h1 : cells' + k' ≤ cells + k) (h2 : slots' + n' ≤ slots + n) : CL κ b L xs k' n' p s m meth c cells' slots' := by
  obtain ⟨a1, a2, a3, a4, a5, a6, a7, a8, a9, a10, a11⟩ := h
  exact ⟨a1, a2, a3, a4, a5, a6, a7, a8, by omega, by omega, a11⟩
/-- the law at pc: it comes to its end, with 1 -/
def GL (κ : Nat × Nat) (b L : Nat) (xs : Nat → Int32) (M1 M2 : Mm) (pc : Nat) (lv : LV) (st : List Value) (k n : Nat) : Prop :=
  ∀ (p : Program) (l : Launch) (e : Env) (s : State) (m : MethodId) (below : List Frame) (meth : Method) (c : Code) (D : va_G) (H : Heap) (locs : List Loc) (cells slots : Nat) (ls : Array Slot),
    CL κ b L xs k n p s m meth c cells slots → va_S (AN s) s.heap H locs → m2 D κ.1 M1 M2 s H → lh ls 4 lv →
    W p l e room_1 s m #[Value.ref b] below meth c H locs cells slots (lw_Z below #[Value.ref b] s) (F0 m pc ls st)
section GLs
variable {κ : Nat × Nat} {b L : Nat} {xs : Nat → Int32} {ν : MD} {d : Nat} {M1 M2 : Mm} {pc : Nat} {lv : LV} {st rest : List Value} {k n : Nat}
theorem GL.swap (h : GL κ b L xs M2 M1 pc lv st k n) : GL κ b L xs M1 M2 pc lv st k n := fun p l e s m below meth c D H locs cells slots ls C hS hM hl => h p l e s m below meth c D H locs cells slots ls C hS hM.swap hl
theorem gl_le {k' n' : Nat} (h : GL κ b L xs M1 M2 pc lv st k' n') (h1 : k' ≤ k) (h2 : n' ≤ n) : GL κ b L xs M1 M2 pc lv st k n := fun p l e s m below meth c D H locs cells slots ls C hS hM hl => h p l e s m below meth c D H locs cells slots ls (C.mono (by omega) (by omega)) hS hM hl
theorem gl_seq {pc' : Nat} {lv' : LV} {st' : List Value} {is : List (Instr × Nat × Int32)} (hs : dsq code pc is pc' = true) (h : pxs is lv st (fun a b => some (a, b)) = some (lv', st')) (kk : GL κ b L xs M1 M2 pc' lv' st' k n) : GL κ b L xs M1 M2 pc lv st k n := by
  intro p l e s m below meth c D H locs cells slots ls C hS hM hl
  obtain ⟨lv2, st2, h1, h2⟩ := pxs_ok (p := p) (l := l) (e := e) (R := room_1) (s := s) (m := m) (args := #[Value.ref b]) (below := below) (meth := meth) (H := H) (locs := locs) (cells := cells) (slots := slots) (Q := lw_Z below #[Value.ref b] s) (nL := 4) C.1 C.2.1 is pc lv st hs h
  have h3 := Option.some.inj h1
  cases h3
  exact h2 (fun ls2 hl2 => kk p l e s m below meth c D H locs cells slots ls2 C hS hM hl2) ls hl
theorem gl_icmp_eq {x y : Int32} {off : Int} {tgt : Nat} (hd : decode code pc = .ok (.if_icmp .eq off, 3)) (ht : (pc : Int) + off = (tgt : Int)) (hxy : x = y) (kt : GL κ b L xs M1 M2 tgt lv rest k n) : GL κ b L xs M1 M2 pc lv (.int y :: .int x :: rest) k n := by
  intro p l e s m below meth c D H locs cells slots ls C hS hM hl
  exact lv_icmp_eq C.1 C.2.1 hd ht (fun _ => kt p l e s m below meth c D H locs cells slots ls C hS hM hl) (fun h => absurd hxy h)
theorem gl_if_eq {x : Int32} {off : Int} {tgt : Nat} (hd : decode code pc = .ok (.ifCond .eq off, 3)) (ht : (pc : Int) + off = (tgt : Int)) (hxy : x = 0) (kt : GL κ b L xs M1 M2 tgt lv rest k n) : GL κ b L xs M1 M2 pc lv (.int x :: rest) k n := by
  intro p l e s m below meth c D H locs cells slots ls C hS hM hl
  exact lv_if_eq C.1 C.2.1 hd ht (fun _ => kt p l e s m below meth c D H locs cells slots ls C hS hM hl) (fun h => absurd hxy h)
theorem gl_icmp_gt {x y : Int32} {off : Int} {tgt : Nat} (hd : decode code pc = .ok (.if_icmp .gt off, 3)) (ht : (pc : Int) + off = (tgt : Int)) (kt : y < x → GL κ b L xs M1 M2 tgt lv rest k n) (kf : ¬ y < x → GL κ b L xs M1 M2 (pc + 3) lv rest k n) : GL κ b L xs M1 M2 pc lv (.int y :: .int x :: rest) k n := by
  intro p l e s m below meth c D H locs cells slots ls C hS hM hl
  exact lv_icmp_gt C.1 C.2.1 hd ht (fun h => kt h p l e s m below meth c D H locs cells slots ls C hS hM hl) (fun h => kf h p l e s m below meth c D H locs cells slots ls C hS hM hl)
theorem gl_lcmp {x y : Int64} (hd : decode code pc = .ok (.lcmp, 1)) (kk : GL κ b L xs M1 M2 (pc + 1) lv (.int (lg_cmp x y) :: rest) k n) : GL κ b L xs M1 M2 pc lv (.long y :: .long x :: rest) k n := by
  intro p l e s m below meth c D H locs cells slots ls C hS hM hl
  exact W.lcmp C.1 C.2.1 hd (kk p l e s m below meth c D H locs cells slots ls C hS hM hl)
theorem gl_tableOut {dflt lo hi : Int} {offs : Array Int} {len : Nat} {x : Int32} {tgt : Nat} (hd : decode code pc = .ok (.tableswitch dflt lo hi offs, len)) (h : x.toInt < lo ∨ hi < x.toInt) (ht : (pc : Int) + dflt = (tgt : Int)) (kk : GL κ b L xs M1 M2 tgt lv rest k n) : GL κ b L xs M1 M2 pc lv (.int x :: rest) k n := by
  intro p l e s m below meth c D H locs cells slots ls C hS hM hl
  exact lv_tableOut C.1 C.2.1 hd h ht (kk p l e s m below meth c D H locs cells slots ls C hS hM hl)
theorem gl_tableIn {dflt lo hi : Int} {offs : Array Int} {len : Nat} {x : Int32} {off : Int} {tgt : Nat} (hd : decode code pc = .ok (.tableswitch dflt lo hi offs, len)) (h1 : ¬ x.toInt < lo) (h2 : ¬ hi < x.toInt) (ho : offs[(x.toInt - lo).toNat]? = some off) (ht : (pc : Int) + off = (tgt : Int)) (kk : GL κ b L xs M1 M2 tgt lv rest k n) : GL κ b L xs M1 M2 pc lv (.int x :: rest) k n := by
  intro p l e s m below meth c D H locs cells slots ls C hS hM hl
  exact lv_tableIn C.1 C.2.1 hd h1 h2 ho ht (kk p l e s m below meth c D H locs cells slots ls C hS hM hl)
theorem gl_slen (hd : decode code pc = .ok (.arraylength, 1)) (kk : GL κ b L xs M1 M2 (pc + 1) lv (.int (nI L) :: rest) k n) : GL κ b L xs M1 M2 pc lv (.ref b :: rest) k n := by
  intro p l e s m below meth c D H locs cells slots ls C hS hM hl
  obtain ⟨hx, hb, hr, hml, hown, hts, hnw, hlk, hkc, hks, hX, hbl, hE⟩ := id C
  exact va_slen hx hb hX hbl (Nat.not_le.mpr hbl) hS hd (kk p l e s m below meth c D H locs cells slots ls C hS hM hl)
theorem gl_sld {j : Nat} {x : Int32} (hd : decode code pc = .ok (.iaload, 1)) (hx1 : x = nI j) (hj : j < L) (hL : L ≤ 100000) (kk : GL κ b L xs M1 M2 (pc + 1) lv (.int (xs j) :: rest) k n) : GL κ b L xs M1 M2 pc lv (.int x :: .ref b :: rest) k n := by
  intro p l e s m below meth c D H locs cells slots ls C hS hM hl
  obtain ⟨hx, hb, hr, hml, hown, hts, hnw, hlk, hkc, hks, hX, hbl, hE⟩ := id C
  subst hx1
  refine va_sld hx hb hX hbl (Nat.not_le.mpr hbl) hS (vp_nI hj (by omega)) hd ?_
  rw [nI_cl (by omega)]
  exact kk p l e s m below meth c D H locs cells slots ls C hS hM hl
theorem gl_ret (hd : decode code pc = .ok (.ireturn, 1)) : GL κ b L xs M1 M2 pc lv [.int 1] k n := by
  intro p l e s m below meth c D H locs cells slots ls C hS hM hl
  obtain ⟨hx, hb, hr, hml, hown, hts, hnw, hlk, hkc, hks, hX, hbl, hE⟩ := id C
  refine va_forget (fun q hq => hS.2.2 q hq) ?_
  refine W.widen (k := 600000) (n := 7302250) (by omega) (by omega) ?_
  exact lw_ret hx hb hr hlk hd
/-- what the first memory may touch in a call -/
abbrev A1 (w1 : va_W) (H : Heap) : Nat → Prop := fun q => inW w1 q ∨ H.size ≤ q
theorem gl_pre {s : State} {H : Heap} {locs : List Loc} {D : va_G} {w1 : va_W} {As : List Value} (hnw : Nws s) (hE : Ez (AN s) s κ) (hS : va_S (AN s) s.heap H locs) (hw : ∀ q, inW w1 q → AN s q) (hM : mm D (A1 w1 H) κ.1 M1 s H) : PreS s H (gPc κ D (A1 w1 H) M1 As) As := by
  have hAN : ∀ q, A1 w1 H q → AN s q := fun q hq => hq.elim (hw q) (fun h => Nat.le_trans hS.1 h)
  refine ⟨fun a U g mk q => ?_, fun U hU hW => ?_⟩
  · obtain ⟨q0, q1, q2, q3, q4⟩ := q
    exact ⟨q0, mm.moved (s := U) (U := U.calling g mk a) (Vm.Alike.refl U.vm) q1, Nws.same (s := U) (U := U.calling g mk a) rfl q2, q3, Ez.moved (s := U) (U := U.calling g mk a) (Vm.Alike.refl U.vm) (fun _ _ _ => rfl) q4⟩
  · refine ⟨rfl, ?_, hnw.moved hW, ?_, ?_⟩
    · rw [hU]; exact hM.moved hW.alike
    · intro q hq
      rw [hU] at hq
      exact Or.inr hq
    · have h1 : Ez (AN s) U κ := hE.moved hW.alike (fun a h1 h2 => by rw [hU]; exact hS.2.1 a h1 h2)
      exact ⟨h1.1.narrow hAN, h1.2.1.narrow hAN, h1.2.2⟩
theorem gl_after {p : Program} {l : Launch} {e : Env} {s : State} {m : MethodId} {below : List Frame} {meth : Method} {c : Code} {H : Heap} {cells slots mc ms : Nat} {D : va_G} {w1 w2 : va_W} {tys : List (ClassId × FieldType)} {bk2 : Nat → Nat} {ls : Array Slot} {a : Array Value} {Q1 : Option Value → Mm → Prop} {k' n' : Nat}
    (hr : va_Run p l e room_1 s m #[Value.ref b] below meth c H [] cells slots mc ms (F0 m pc ls st) rest (Qp Q1 D (A1 w1 H) κ.1 a) (A1 w1 H)) (C : CL κ b L xs k n p s m meth c cells slots) (h1 : mc + k' ≤ k) (h2 : ms + n' ≤ n) (hS : va_S (AN s) s.heap H []) (hl : lh ls 4 lv)
    (hK : va_K D vwCl tys s) (hP2 : va_P D vwCl w2 H) (hD1 : va_D (AN s) w1) (hD2 : va_D (AN s) w2) (hdis : ∀ q, inW w1 q → ¬ inW w2 q) (hz : κ.1 < s.heap.size) (hE2 : ∀ q e, M2 q = some e → Ent κ.1 w2 tys M2 bk2 q e)
    (kk : ∀ v M', Q1 v M' → GL κ b L xs M' M2 (pc + 3) lv (v.toList ++ rest) k' n') : W p l e room_1 s m #[Value.ref b] below meth c H [] cells slots (lw_Z below #[Value.ref b] s) (F0 m pc ls st) := by
  intro T hT X
  obtain ⟨v, st₀, t, T', Lc, h0, X', hL, e1, e2, ⟨⟨v', M', hv, hp, hm⟩, hzz, hk⟩, stp⟩ := hr T hT X
  cases hv
  rw [h0] at hzz hk
  have hw1 : ∀ q, inW w1 q → AN s q := fun q ⟨i, ee, hi⟩ => hD1.2 i _ hi
  have hAN : ∀ q, A1 w1 H q → AN s q := fun q hq => hq.elim (hw1 q) (fun h => Nat.le_trans hS.1 h)
  have hS' : va_S (AN s) s.heap T'.heap ([] ++ Lc) := ⟨Nat.le_trans hS.1 (by rw [e1]; exact hzz), fun q g1 g2 => by rw [e1, hk q (Nat.lt_of_lt_of_le g1 hS.1) (fun h => g2 (hAN q h))]; exact hS.2.1 q g1 g2, fun q hq => hAN _ (hL q hq)⟩
  have hal : s.vm.Alike t.vm := by rw [← e2]; exact X'.warmed.alike
  obtain ⟨w1', tys', bk1', hK', hP1', hD1', hz', hE1'⟩ := hm.moved hal.symm
  have hlt2 : ∀ q, inW w2 q → q < H.size := fun q ⟨i, ee, hi⟩ => (hP2 i _ hi).lt
  have hm2 : m2 D κ.1 M' M2 s T'.heap := by
    refine ⟨w1', w2, tys' ++ tys, bk1', bk2, hK'.app hK, by rw [e1]; exact hP1', ?_, ⟨hD1'.1, fun i q hi => hAN _ (hD1'.2 i q hi)⟩, hD2, ?_, hz, fun q ee h => (hE1' q ee h).tys (fun x hx => List.mem_append_left _ hx), fun q ee h => (hE2 q ee h).tys (fun x hx => List.mem_append_right _ hx)⟩
    · rw [e1]
      refine hP2.kept (fun i q hi => hk q.1 (hlt2 _ ⟨i, q.2, hi⟩) (fun hA => hA.elim (fun h => hdis _ h ⟨i, q.2, hi⟩) (fun h => ?_)))
      have := hlt2 _ ⟨i, q.2, hi⟩
      omega
    · rintro q ⟨i, ee, hi⟩ h2
      rcases hD1'.2 i _ hi with h | h
      · exact hdis q h h2
      · have := hlt2 _ h2
        have h : H.size ≤ q := h
        omega
  obtain ⟨t2, a1, b1⟩ := kk v M' hp p l e s m below meth c D T'.heap ([] ++ Lc) (cells + mc) (slots + ms) ls (C.mono (by omega) (by omega)) hS' hm2 hl T' rfl X'
  exact ⟨t2, stp t2 a1, b1⟩
theorem gl_invV {idx np ci a k1 n1 k2 n2 : Nat} {fs As : List Value} {Q1 : Option Value → Mm → Prop} (hMa : M1 a = some (eO ci fs)) (LL : MV "LeaseHouseLaw" idx ci ν np) (hd : decode code pc = .ok (.invokevirtual idx, 3)) (hst : tk np st [] (fun a b => some (a, b)) = some (As, .ref a :: rest)) (hok : c1s As = true ∧ As.length + 1 ≤ ν.2.2.1 ∧ (rest.map fun v => v.category).sum ≤ 8) (hdd : d ≤ 12)
    (hc : G κ ν d M1 0 (ent (.ref a :: As) ν.2.2.1) [] k1 n1 Q1) (hk : k1 + k2 ≤ k) (hn : n1 + n2 ≤ n) (kk : ∀ v M', Q1 v M' → GL κ b L xs M' M2 (pc + 3) lv (v.toList ++ rest) k2 n2) : GL κ b L xs M1 M2 pc lv st k n := by
  intro p l e s m below meth c D H locs cells slots ls C hS hM0 hl
  obtain ⟨hx, hb, hr, hml, hown, hts, hnw, hlk, hkc, hks, hX, hbl, hE⟩ := id C
  refine va_forget (fun q hq => hS.2.2 q hq) ?_
  have hS0 : va_S (AN s) s.heap H [] := ⟨hS.1, hS.2.1, fun _ h => by cases h⟩
  obtain ⟨hC, hl1, hl2, q, hq, hsel⟩ := LL
  obtain ⟨as, rest', h1, h2, h3⟩ := tk_spec _ _ _ hst
  rw [List.append_nil] at h3
  cases h3
  obtain ⟨w1, w2, tys, bk1, bk2, hK, hP1, hP2, hD1, hD2, hdis, hz, hE1, hE2⟩ := id hM0
  have hw1 : ∀ q, inW w1 q → AN s q := fun q ⟨i, ee, hi⟩ => hD1.2 i _ hi
  have hmm : mm D (A1 w1 H) κ.1 M1 s H := ⟨w1, tys, bk1, hK, hP1, ⟨hD1.1, fun i q hi => Or.inl ⟨i, q.2, hi⟩⟩, fun hA => hA.elim (fun h => absurd (hw1 _ h) (Nat.not_le.mpr hz)) (fun h => absurd (Nat.le_trans hS.1 h) (Nat.not_le.mpr hz)), hE1⟩
  have hM := hc.met l D (A1 w1 H) hC (by simpa [c1s, c2] using hok.1) (by simpa using hok.2.1)
  have hcb : CallB room_1 s #[Value.ref b] "LeaseHouseLaw" idx ν.1 ν.2.1 ν.2.2.1 ν.2.2.2 (gWs ν) (gRm d k1 n1) k1 n1 np := callB_of np hts (gWs_good hC) rfl rfl rfl (hts _ hC.2.2.1) (hts _ hl1) hC.2.2.2.1 ⟨by show d + 1 ≤ 14; omega, by show 8 + (ν.2.2.1 + 11) + d * 40 ≤ 542; have := hC.2.2.2.2; omega⟩
  obtain ⟨q0, g2⟩ := List.getElem?_of_mem (hE1 a _ hMa)
  have hpr := gl_pre (As := .ref a :: As) hnw hE hS0 hw1 hmm
  exact gl_after (va_runV ⟨hx, hb, hml, hown, hts⟩ hM ⟨hcb, hts _ hl2, hts _ hsel⟩ ⟨hpr.1, va_recv hK hP1 hq g2, hpr.2⟩ rfl h2 hl.2.1 h1 (lv_room hok.2.2) hd ⟨by show cells + k1 ≤ 600000; omega, by show slots + n1 ≤ 7302250; omega⟩) C hk hn hS0 hl hK hP2 hD1 hD2 hdis hz hE2 kk
theorem gl_invI {idx np a k1 n1 k2 n2 : Nat} {As : List Value} {Q1 : Option Value → Mm → Prop} (LL : MI "LeaseHouseLaw" idx ν np) (hd : decode code pc = .ok (.invokespecial idx, 3)) (hst : tk np st [] (fun a b => some (a, b)) = some (As, .ref a :: rest)) (hok : c1s As = true ∧ As.length + 1 ≤ ν.2.2.1 ∧ (rest.map fun v => v.category).sum ≤ 8) (hdd : d ≤ 12)
    (hc : G κ ν d M1 0 (ent (.ref a :: As) ν.2.2.1) [] k1 n1 Q1) (hk : k1 + k2 ≤ k) (hn : n1 + n2 ≤ n) (kk : ∀ v M', Q1 v M' → GL κ b L xs M' M2 (pc + 3) lv (v.toList ++ rest) k2 n2) : GL κ b L xs M1 M2 pc lv st k n := by
  intro p l e s m below meth c D H locs cells slots ls C hS hM0 hl
  obtain ⟨hx, hb, hr, hml, hown, hts, hnw, hlk, hkc, hks, hX, hbl, hE⟩ := id C
  refine va_forget (fun q hq => hS.2.2 q hq) ?_
  have hS0 : va_S (AN s) s.heap H [] := ⟨hS.1, hS.2.1, fun _ h => by cases h⟩
  obtain ⟨hC, hl1, hy1, hl2, hno⟩ := LL
  obtain ⟨as, rest', h1, h2, h3⟩ := tk_spec _ _ _ hst
  rw [List.append_nil] at h3
  cases h3
  obtain ⟨w1, w2, tys, bk1, bk2, hK, hP1, hP2, hD1, hD2, hdis, hz, hE1, hE2⟩ := id hM0
  have hw1 : ∀ q, inW w1 q → AN s q := fun q ⟨i, ee, hi⟩ => hD1.2 i _ hi
  have hmm : mm D (A1 w1 H) κ.1 M1 s H := ⟨w1, tys, bk1, hK, hP1, ⟨hD1.1, fun i q hi => Or.inl ⟨i, q.2, hi⟩⟩, fun hA => hA.elim (fun h => absurd (hw1 _ h) (Nat.not_le.mpr hz)) (fun h => absurd (Nat.le_trans hS.1 h) (Nat.not_le.mpr hz)), hE1⟩
  have hM := hc.met l D (A1 w1 H) hC (by simpa [c1s, c2] using hok.1) (by simpa using hok.2.1)
  have hcb : CallB room_1 s #[Value.ref b] "LeaseHouseLaw" idx ν.1 ν.2.1 ν.2.2.1 none (gWs ν) (gRm d k1 n1) k1 n1 np := by
    rw [← hno]
    exact callB_of np hts (gWs_good hC) rfl rfl rfl (hts _ hC.2.2.1) (hts _ hl1) hC.2.2.2.1 ⟨by show d + 1 ≤ 14; omega, by show 8 + (ν.2.2.1 + 11) + d * 40 ≤ 542; have := hC.2.2.2.2; omega⟩
  exact gl_after (va_runI ⟨hx, hb, hml, hown, hts⟩ hM ⟨hcb, hy1, hts _ hl2⟩ (gl_pre (As := .ref a :: As) hnw hE hS0 hw1 hmm) rfl h2 hl.2.1 h1 (lv_room hok.2.2) hd ⟨by show cells + k1 ≤ 600000; omega, by show slots + n1 ≤ 7302250; omega⟩) C hk hn hS0 hl hK hP2 hD1 hD2 hdis hz hE2 kk
theorem gl_new {idx ci k' n' : Nat} {fs : List Value} (LL : NL "LeaseHouseLaw" idx ci fs) (hd : decode code pc = .ok (.new idx, 3)) (hk' : k' + 1 ≤ k) (hn' : n' + fs.length ≤ n) (kk : ∀ q, M1 q = none → GL κ b L xs (up M1 q (eO ci fs)) M2 (pc + 3) lv (.ref q :: rest) k' n') : GL κ b L xs M1 M2 pc lv rest k n := by
  intro p l e s m below meth c D H locs cells slots ls C hS hM0 hl
  obtain ⟨hx, hb, hr, hml, hown, hts, hnw, hlk, hkc, hks, hX, hbl, hE⟩ := id C
  obtain ⟨w1, w2, tys, bk1, bk2, hK, hP1, hP2, hD1, hD2, hdis, hz, hE1, hE2⟩ := id hM0
  obtain ⟨⟨C0, T0, N0⟩, hc, hin, ⟨ty, hty, hdf2⟩, hcl, hins, hini, hlen⟩ := LL
  have hlen' : fs.length = N0 := hlen
  have hDa : va_D (AN s) (w2 ++ w1) := va_D.app hD2 hD1 (fun i j p q hp hq e => hdis q.1 ⟨j, q.2, hq⟩ ⟨i, p.2, by rw [← e]; exact hp⟩)
  refine va_new hx hb hts hin ty hty hown (hts _ hcl) (hts _ hins) (hts _ hini) hK (hP2.app hP1) hDa hS (fun _ h => h) hc hdf2 (by show cells + 1 ≤ 600000; omega) (by show slots + N0 ≤ 7302250; omega) hd (fun q H1 hPn hDn hS1 => ?_)
  rw [List.append_assoc] at hPn hDn
  have hl2 : ∀ (i : Nat) (x : Nat × va_E), w2[i]? = some x → (w2 ++ (w1 ++ [(q, .inr (ci, fs))]))[i]? = some x := fun i x hi => by rw [List.getElem?_append_left (List.getElem?_eq_some_iff.mp hi).1]; exact hi
  have hl1 : ∀ (i : Nat) (x : Nat × va_E), (w1 ++ [(q, .inr (ci, fs))])[i]? = some x → (w2 ++ (w1 ++ [(q, .inr (ci, fs))]))[w2.length + i]? = some x := fun i x hi => by rw [List.getElem?_append_right (by omega), Nat.add_sub_cancel_left]; exact hi
  have hPn1 : va_P D vwCl (w1 ++ [(q, .inr (ci, fs))]) H1 := fun i x hi => hPn _ x (hl1 i x hi)
  have hPn2 : va_P D vwCl w2 H1 := fun i x hi => hPn _ x (hl2 i x hi)
  have hDn1 : va_D (AN s) (w1 ++ [(q, .inr (ci, fs))]) := ⟨fun i j x y hi hj e => by have := hDn.1 _ _ x y (hl1 i x hi) (hl1 j y hj) e; omega, fun i x hi => hDn.2 _ x (hl1 i x hi)⟩
  have hdn : ∀ a, inW (w1 ++ [(q, .inr (ci, fs))]) a → ¬ inW w2 a := by
    rintro a ⟨i, ee, hi⟩ ⟨j, ee2, hj⟩
    have := hDn.1 _ _ _ _ (hl1 i _ hi) (hl2 j _ hj) rfl
    have := (List.getElem?_eq_some_iff.mp hj).1
    omega
  obtain ⟨g1, g2, g3⟩ := mm_new (e' := eO ci fs) (z := κ.1) (A := AN s) hK (fun _ h => h) (Nat.not_le.mpr hz) hE1 (fun xs h => by cases h) (fun M' => List.mem_append_right _ (List.mem_singleton.mpr rfl)) hPn1 hDn1
  have hm2 : m2 D κ.1 (up M1 q (eO ci fs)) M2 s H1 := by
    have hfr : ∀ (q' : Nat) (e : va_E), (q', e) ∈ w1 → q' ≠ q := by
      intro q' e' h x
      subst x
      obtain ⟨i, hi⟩ := List.getElem?_of_mem h
      have hlt : i < w1.length := (List.getElem?_eq_some_iff.mp hi).1
      have := hDn1.1 i w1.length (q', e') (q', .inr (ci, fs)) (by rw [List.getElem?_append_left hlt]; exact hi) (by simp) rfl
      omega
    refine ⟨w1 ++ [(q, .inr (ci, fs))], w2, tys, bk1, bk2, hK, hPn1, hPn2, hDn1, hD2, hdn, hz, fun q' e' h => ?_, hE2⟩
    by_cases hq : q' = q
    · subst hq
      rw [up_s] at h
      cases h
      exact List.mem_append_right _ (List.mem_singleton.mpr rfl)
    · rw [up_n hq] at h
      refine (hE1 q' e' h).keep q (fun q e h _ => List.mem_append_left _ h) (fun _ h => h) hq (fun xs he => ?_) (fun _ h => up_n h) (fun xs hx => ?_)
      · subst he
        obtain ⟨-, h2⟩ := hE1 q' _ h
        rcases h2 with ⟨h2, -⟩ | ⟨-, -, -, cA, cap, f, g4, -⟩
        · rw [h2]; exact Ne.symm g2
        · exact hfr _ _ g4
      · rw [up_s] at hx
        cases hx
  exact kk q g1 p l e s m below meth c D H1 locs _ _ ls (C.mono (by omega) (by omega)) hS1 hm2 hl
end GLs
