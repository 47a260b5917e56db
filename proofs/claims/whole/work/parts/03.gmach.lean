/-! the words: one list for all methods -/
def gok (w : Cond) : Bool := (w.onTables && w.keeps) || (match w with | .arrayClass _ => true | _ => false)
def gW : List Cond := lw_tbl.filter gok
theorem gW_of {w : Cond} (h : w ∈ lw_tbl) (hg : gok w = true) : w ∈ gW := List.mem_filter.mpr ⟨h, hg⟩
theorem gW_in {w : Cond} (h : w ∈ gW) : w ∈ lw_tbl := (List.mem_filter.mp h).1
theorem gW_good : GoodIn gW gW := fun w h => ⟨h, by
  have h2 := (List.mem_filter.mp h).2
  unfold gok at h2
  rw [Bool.or_eq_true] at h2
  rcases h2 with h2 | h2
  · exact Or.inl h2
  · cases w <;> first | (exact Or.inr ⟨_, rfl⟩) | (cases h2)⟩
def nok (w : Cond) : Bool := match w with
  | .fieldLinkNest _ _ _ _ _ _ => true
  | .methodLinkNest _ _ _ _ => true
  | .castable _ _ => true
  | .arrayOver (.object _) => true
  | _ => false
def nW : List Cond := lw_tbl.filter nok
theorem nW_of {w : Cond} (h : w ∈ lw_tbl) (hg : nok w = true) : w ∈ nW := List.mem_filter.mpr ⟨h, hg⟩
def Nws (s : State) : Prop := va_Dc s ∧ ∀ w ∈ nW, va_Nw w s
theorem Nws.moved {s U : State} (hW : s.WarmedH U.vm) (h : Nws s) : Nws U := ⟨va_Dc.moved hW.alike h.1, fun w hw => by
  have h1 := h.2 w hw
  have h2 := (List.mem_filter.mp hw).2
  cases w with
  | fieldLinkNest a i b n d h => exact va_Nw.warmF hW h1
  | methodLinkNest a i x h => exact va_Nw.warmM hW h1
  | castable C T => exact va_Nw.warmC hW h1
  | arrayOver ty =>
    cases ty with
    | object C => exact va_AO.moved hW.alike h1
    | _ => cases h2
  | _ => cases h2⟩
theorem Nws.same {s U : State} (hv : s.vm = U.vm) (h : Nws s) : Nws U := ⟨va_Dc.moved (by rw [hv]; exact Vm.Alike.refl _) h.1, fun w hw => by
  have h1 := h.2 w hw
  have h2 := (List.mem_filter.mp hw).2
  cases w with
  | fieldLinkNest a i b n d h => exact va_Nw.same rfl hv h1
  | methodLinkNest a i x h => exact va_Nw.same rfl hv h1
  | castable C T => exact va_Nw.same rfl hv h1
  | arrayOver ty =>
    cases ty with
    | object C => exact va_AO.moved (by rw [hv]; exact Vm.Alike.refl _) h1
    | _ => cases h2
  | _ => cases h2⟩
/-! the memory: an object (its class's number, its fields), an array (its type, its contents), or a list (its elements; what holds them lies hidden) -/
abbrev eO (ci : Nat) (fs : List Value) : EE := .inl (ci, fs)
abbrev eA (ty : FieldType) (x : vp_A) : EE := .inr (.inl (ty, x))
abbrev eL (xs : List Nat) : EE := .inr (.inr xs)
abbrev aI (n : Nat) (f : Nat → Int32) : EE := eA .int (n, .inl f)
abbrev aJ (n : Nat) (f : Nat → Int64) : EE := eA .long (n, .inr (.inl f))
abbrev aR (C : String) (n : Nat) (f : Nat → Option Nat) : EE := eA (.object C) (n, .inr (.inr (.inr (.inr f))))
abbrev sOb : String := "java/lang/Object"
def Ent (z : Nat) (ws : va_W) (tys : List (ClassId × FieldType)) (M : Mm) (bk : Nat → Nat) (q : Nat) (e : EE) : Prop := match e with
  | .inl o => (q, .inr o) ∈ ws
  | .inr (.inl x) => ∃ cA : ClassId, (q, .inl (cA, x.2)) ∈ ws ∧ (cA, x.1) ∈ tys
  | .inr (.inr xs) => (∃ mc : Int32, (q, .inr (8, [.int mc, .ref (bk q), .int (nI xs.length)])) ∈ ws) ∧ ((bk q = z ∧ xs = []) ∨
      (bk q ≠ z ∧ M (bk q) = none ∧ (∀ q' xs', M q' = some (eL xs') → bk q' = bk q → q' = q) ∧
       ∃ (cA : ClassId) (cap : Nat) (f : Nat → Option Nat), (bk q, .inl (cA, cap, .inr (.inr (.inr (.inr f))))) ∈ ws ∧ (cA, .object sOb) ∈ tys ∧ xs.length ≤ cap ∧ cap ≤ 100000 ∧ ∀ i, i < xs.length → f i = xs[i]?))
def mm (D : va_G) (A : Nat → Prop) (z : Nat) (M : Mm) (s : State) (H : Heap) : Prop := ∃ (ws : va_W) (tys : List (ClassId × FieldType)) (bk : Nat → Nat), va_K D vwCl tys s ∧ va_P D vwCl ws H ∧ va_D A ws ∧ ¬ A z ∧ ∀ q e, M q = some e → Ent z ws tys M bk q e
theorem mm.moved {D : va_G} {A : Nat → Prop} {z : Nat} {M : Mm} {s U : State} {H : Heap} (hv : s.vm.Alike U.vm) (h : mm D A z M s H) : mm D A z M U H := by
  obtain ⟨ws, tys, bk, hK, h2⟩ := h
  exact ⟨ws, tys, bk, va_K.moved hv hK, h2⟩
theorem Ent.keep {z : Nat} {ws ws' : va_W} {tys tys' : List (ClassId × FieldType)} {M M' : Mm} {bk : Nat → Nat} {q : Nat} {e : EE} (h : Ent z ws tys M bk q e) (a : Nat) (hw : ∀ q e, (q, e) ∈ ws → q ≠ a → (q, e) ∈ ws') (ht : ∀ x ∈ tys, x ∈ tys') (hq : q ≠ a) (hb : ∀ xs, e = eL xs → bk q ≠ a)
    (hM : ∀ q, q ≠ a → M' q = M q) (hMa : ∀ xs, M' a ≠ some (eL xs)) : Ent z ws' tys' M' bk q e := by
  match e, h, hb with
  | .inl o, h, _ => exact hw _ _ h hq
  | .inr (.inl x), h, _ =>
    obtain ⟨cA, h1, h2⟩ := h
    exact ⟨cA, hw _ _ h1 hq, ht _ h2⟩
  | .inr (.inr xs), h, hb =>
    obtain ⟨⟨mc, h1⟩, h2⟩ := h
    have hba := hb xs rfl
    refine ⟨⟨mc, hw _ _ h1 hq⟩, ?_⟩
    rcases h2 with h2 | ⟨g1, g2, g3, cA, cap, f, g4, g5, g6, g7⟩
    · exact Or.inl h2
    · refine Or.inr ⟨g1, by rw [hM _ hba]; exact g2, fun q' xs' h3 h4 => ?_, cA, cap, f, hw _ _ g4 hba, ht _ g5, g6, g7⟩
      have hq' : q' ≠ a := fun e => hMa xs' (by rw [← e]; exact h3)
      rw [hM q' hq'] at h3
      exact g3 q' xs' h3 h4
theorem mem_keep {ws : va_W} {q0 a : Nat} {e0 w' : va_E} (h0 : ws[q0]? = some (a, e0)) : ∀ q e, (q, e) ∈ ws → q ≠ a → (q, e) ∈ ws.set q0 (a, w') := by
  intro q e h hq
  obtain ⟨i, hi⟩ := List.getElem?_of_mem h
  have hne : q0 ≠ i := fun x => by
    subst x
    rw [h0] at hi
    exact hq (congrArg Prod.fst (Option.some.inj hi)).symm
  exact List.mem_of_getElem? (i := i) (by rw [List.getElem?_set_ne hne]; exact hi)
theorem mem_self {ws : va_W} {q0 a : Nat} {e0 w' : va_E} (h0 : ws[q0]? = some (a, e0)) : (a, w') ∈ ws.set q0 (a, w') :=
  List.mem_of_getElem? (i := q0) (List.getElem?_set_self (List.getElem?_eq_some_iff.mp h0).1)
theorem Ent.lists {z : Nat} {ws : va_W} {tys : List (ClassId × FieldType)} {M : Mm} {bk : Nat → Nat} {q a : Nat} {xs : List Nat} (h : Ent z ws tys M bk q (eL xs)) (hz : a ≠ z) (ha : M a ≠ none) : bk q ≠ a := by
  obtain ⟨-, h2⟩ := h
  rcases h2 with ⟨h2, -⟩ | ⟨-, g2, -⟩
  · rw [h2]; exact Ne.symm hz
  · exact fun e => ha (by rw [← e]; exact g2)
/-- a plain cell is written: it stays plain -/
theorem mm_set {D : va_G} {A : Nat → Prop} {z : Nat} {M : Mm} {s : State} {H : Heap} {ws : va_W} {tys : List (ClassId × FieldType)} {bk : Nat → Nat} {q0 a : Nat} {e0 w' : va_E} {eo e' : EE} (hK : va_K D vwCl tys s) (hD : va_D A ws) (hz : ¬ A z) (hE : ∀ q e, M q = some e → Ent z ws tys M bk q e)
    (h0 : ws[q0]? = some (a, e0)) (hMa : M a = some eo) (hne : ∀ xs, e' ≠ eL xs) (hnew : Ent z (ws.set q0 (a, w')) tys (up M a e') bk a e') (hP' : va_P D vwCl (ws.set q0 (a, w')) H) (hD' : va_D A (ws.set q0 (a, w'))) : mm D A z (up M a e') s H := by
  refine ⟨ws.set q0 (a, w'), tys, bk, hK, hP', hD', hz, fun q e h => ?_⟩
  by_cases hq : q = a
  · subst hq
    rw [up_s] at h
    cases h
    exact hnew
  · rw [up_n hq] at h
    refine (hE q e h).keep a (mem_keep h0) (fun _ h => h) hq (fun xs he => ?_) (fun _ h => up_n h) (fun xs hx => ?_)
    · subst he
      exact (hE q _ h).lists (fun x => hz (by rw [← x]; exact hD.2 q0 _ h0)) (by rw [hMa]; exact fun h => by cases h)
    · rw [up_s] at hx
      exact hne xs (Option.some.inj hx)
/-- a new cell -/
theorem mm_new {D : va_G} {A : Nat → Prop} {z : Nat} {M : Mm} {s : State} {H : Heap} {ws : va_W} {tys tys' : List (ClassId × FieldType)} {bk : Nat → Nat} {a : Nat} {w' : va_E} {e' : EE} (hK : va_K D vwCl tys' s) (ht : ∀ x ∈ tys, x ∈ tys') (hz : ¬ A z) (hE : ∀ q e, M q = some e → Ent z ws tys M bk q e)
    (hne : ∀ xs, e' ≠ eL xs) (hnew : ∀ M', Ent z (ws ++ [(a, w')]) tys' M' bk a e') (hP' : va_P D vwCl (ws ++ [(a, w')]) H) (hD' : va_D A (ws ++ [(a, w')])) : M a = none ∧ a ≠ z ∧ mm D A z (up M a e') s H := by
  have hAa : A a := hD'.2 ws.length (a, w') (by simp)
  have haz : a ≠ z := fun x => hz (by rw [← x]; exact hAa)
  have hfr : ∀ (q : Nat) (e : va_E), (q, e) ∈ ws → q ≠ a := by
    intro q e h x
    subst x
    obtain ⟨i, hi⟩ := List.getElem?_of_mem h
    have hlt : i < ws.length := (List.getElem?_eq_some_iff.mp hi).1
    have := hD'.1 i ws.length (q, e) (q, w') (by rw [List.getElem?_append_left hlt]; exact hi) (by simp) rfl
    omega
  have hnone : M a = none := by
    cases h : M a with
    | none => rfl
    | some e =>
      have h1 := hE a e h
      exfalso
      match e, h1 with
      | .inl o, h1 => exact hfr a _ h1 rfl
      | .inr (.inl x), ⟨cA, h1, _⟩ => exact hfr a _ h1 rfl
      | .inr (.inr xs), ⟨⟨mc, h1⟩, _⟩ => exact hfr a _ h1 rfl
  refine ⟨hnone, haz, ws ++ [(a, w')], tys', bk, hK, hP', hD', hz, fun q e h => ?_⟩
  by_cases hq : q = a
  · subst hq
    rw [up_s] at h
    cases h
    exact hnew _
  · rw [up_n hq] at h
    refine (hE q e h).keep a (fun q e h _ => List.mem_append_left _ h) ht hq (fun xs he => ?_) (fun _ h => up_n h) (fun xs hx => ?_)
    · subst he
      obtain ⟨-, h2⟩ := hE q _ h
      rcases h2 with ⟨h2, -⟩ | ⟨-, -, -, cA, cap, f, g4, -⟩
      · rw [h2]; exact Ne.symm haz
      · exact hfr _ _ g4
    · rw [up_s] at hx
      exact hne xs (Option.some.inj hx)
/-! the judgement -/
def Ez (A : Nat → Prop) (s : State) (κ : Nat × Nat) : Prop := va_Z "java/util/ArrayList" "DEFAULTCAPACITY_EMPTY_ELEMENTDATA" "[Ljava/lang/Object;" (.ref κ.1) A s s.heap ∧ va_T (.object sOb) κ.1 0 (fun _ => .null) A s s.heap ∧ va_Mi "[Ljava/lang/Object;" κ.2 s
def Cx (κ : Nat × Nat) (μ : MD) (d k n : Nat) (A : Nat → Prop) (p : Program) (R : Room) (s : State) (m : MethodId) (args : Array Value) (meth : Method) (c : Code) (cells slots : Nat) : Prop :=
  p.tables.exec = Jvm.exec ∧ c.code = μ.2.1 ∧ meth.sig.returnType = μ.2.2.2 ∧ c.maxLocals = μ.2.2.1 ∧ s.vm.findClass μ.1.cls = some m.cls ∧ (∀ w ∈ gW, w.before args s = true) ∧ Nws s ∧ meth.locks = false ∧ meth.name = μ.1.name ∧ d ≤ R.frames ∧ d * 40 ≤ R.locals ∧ cells + k ≤ R.cells ∧ slots + n ≤ R.slots ∧ (∀ q, s.heap.size ≤ q → A q) ∧ Ez A s κ
theorem Cx.mono {κ : Nat × Nat} {μ : MD} {d k n k' n' cells slots cells' slots' : Nat} {A : Nat → Prop} {p : Program} {R : Room} {s : State} {m : MethodId} {args : Array Value} {meth : Method} {c : Code} (h : Cx κ μ d k n A p R s m args meth c cells slots) (h1 : cells' + k' ≤ cells + k) (h2 : slots' + n' ≤ slots + n) : Cx κ μ d k' n' A p R s m args meth c cells' slots' := by
  obtain ⟨hx, hb, hr, hml, hown, hts, hnw, hlk, hnm, hdf, hdl, hkc, hks, hA, hE⟩ := h
  exact ⟨hx, hb, hr, hml, hown, hts, hnw, hlk, hnm, hdf, hdl, Nat.le_trans h1 hkc, Nat.le_trans h2 hks, hA, hE⟩
def Qp (Q : Option Value → Mm → Prop) (D : va_G) (A : Nat → Prop) (z : Nat) : Array Value → State → Outcome → State → Prop := fun _ st oc t => (∃ (v : Option Value) (M' : Mm), oc = .returned v ∧ Q v M' ∧ mm D A z M' t t.heap) ∧ va_F A st t
/-- method μ, at pc with these locals and this stack and memory M: it returns, with Q of the answer and the memory; d calls deep at most, k cells of n slots new at most -/
def G (κ : Nat × Nat) (μ : MD) (d : Nat) (M : Mm) (pc : Nat) (lv : LV) (st : List Value) (k n : Nat) (Q : Option Value → Mm → Prop) : Prop :=
  ∀ (p : Program) (l : Launch) (e : Env) (R : Room) (s : State) (m : MethodId) (args : Array Value) (below : List Frame) (meth : Method) (c : Code) (D : va_G) (A : Nat → Prop) (H : Heap) (locs : List Loc) (cells slots : Nat) (ls : Array Slot),
    Cx κ μ d k n A p R s m args meth c cells slots → va_S A s.heap H locs → mm D A κ.1 M s H → lh ls μ.2.2.1 lv →
    W p l e R s m args below meth c H locs cells slots (MQ below (Qp Q D A κ.1) args s R.cells R.slots A) (F0 m pc ls st)
section GR
variable {κ : Nat × Nat} {μ ν : MD} {d : Nat} {M : Mm} {pc : Nat} {lv : LV} {st rest : List Value} {k n : Nat} {Q : Option Value → Mm → Prop}
theorem g_seq {pc' : Nat} {lv' : LV} {st' : List Value} {is : List (Instr × Nat × Int32)} (hs : dsq μ.2.1 pc is pc' = true) (h : pxs is lv st (fun a b => some (a, b)) = some (lv', st')) (kk : G κ μ d M pc' lv' st' k n Q) : G κ μ d M pc lv st k n Q := by
  intro p l e R s m args below meth c D A H locs cells slots ls C hS hM hl
  obtain ⟨lv2, st2, h1, h2⟩ := pxs_ok (p := p) (l := l) (e := e) (R := R) (s := s) (m := m) (args := args) (below := below) (meth := meth) (H := H) (locs := locs) (cells := cells) (slots := slots) (Q := MQ below (Qp Q D A κ.1) args s R.cells R.slots A) (nL := μ.2.2.1) C.1 C.2.1 is pc lv st hs h
  have h3 := Option.some.inj h1
  cases h3
  exact h2 (fun ls2 hl2 => kk p l e R s m args below meth c D A H locs cells slots ls2 C hS hM hl2) ls hl
theorem g_mono {Q' : Option Value → Mm → Prop} (h : G κ μ d M pc lv st k n Q) (hQ : ∀ v M', Q v M' → Q' v M') : G κ μ d M pc lv st k n Q' := by
  intro p l e R s m args below meth c D A H locs cells slots ls C hS hM hl T hT X
  obtain ⟨t, a1, o, b1, b2, ⟨⟨v, M', c1, c2, c3⟩, c4⟩, b4⟩ := h p l e R s m args below meth c D A H locs cells slots ls C hS hM hl T hT X
  exact ⟨t, a1, o, b1, b2, ⟨⟨v, M', c1, hQ v M' c2, c3⟩, c4⟩, b4⟩
theorem g_le {k' n' : Nat} (h : G κ μ d M pc lv st k' n' Q) (h1 : k' ≤ k) (h2 : n' ≤ n) : G κ μ d M pc lv st k n Q := by
  intro p l e R s m args below meth c D A H locs cells slots ls C hS hM hl
  exact h p l e R s m args below meth c D A H locs cells slots ls (C.mono (by omega) (by omega)) hS hM hl

theorem g_if_eq {x : Int32} {off : Int} {tgt : Nat} (hd : decode μ.2.1 pc = .ok (.ifCond .eq off, 3)) (ht : (pc : Int) + off = (tgt : Int)) (kt : x = 0 → G κ μ d M tgt lv rest k n Q) (kf : ¬ x = 0 → G κ μ d M (pc + 3) lv rest k n Q) : G κ μ d M pc lv (.int x :: rest) k n Q := by
  intro p l e R s m args below meth c D A H locs cells slots ls C hS hM0 hl
  obtain ⟨hx, hb, hr, hml, hown, hts, hnw, hlk, hnm, hdf, hdl, hkc, hks, hA, hE0⟩ := id C
  exact lv_if_eq hx hb hd ht (fun h => kt h p l e R s m args below meth c D A H locs cells slots ls C hS hM0 hl) (fun h => kf h p l e R s m args below meth c D A H locs cells slots ls C hS hM0 hl)
theorem g_icmp_eq {x y : Int32} {off : Int} {tgt : Nat} (hd : decode μ.2.1 pc = .ok (.if_icmp .eq off, 3)) (ht : (pc : Int) + off = (tgt : Int)) (kt : x = y → G κ μ d M tgt lv rest k n Q) (kf : ¬ x = y → G κ μ d M (pc + 3) lv rest k n Q) : G κ μ d M pc lv (.int y :: .int x :: rest) k n Q := by
  intro p l e R s m args below meth c D A H locs cells slots ls C hS hM0 hl
  obtain ⟨hx, hb, hr, hml, hown, hts, hnw, hlk, hnm, hdf, hdl, hkc, hks, hA, hE0⟩ := id C
  exact lv_icmp_eq hx hb hd ht (fun h => kt h p l e R s m args below meth c D A H locs cells slots ls C hS hM0 hl) (fun h => kf h p l e R s m args below meth c D A H locs cells slots ls C hS hM0 hl)
theorem g_if_ne {x : Int32} {off : Int} {tgt : Nat} (hd : decode μ.2.1 pc = .ok (.ifCond .ne off, 3)) (ht : (pc : Int) + off = (tgt : Int)) (kt : ¬ x = 0 → G κ μ d M tgt lv rest k n Q) (kf : x = 0 → G κ μ d M (pc + 3) lv rest k n Q) : G κ μ d M pc lv (.int x :: rest) k n Q := by
  intro p l e R s m args below meth c D A H locs cells slots ls C hS hM0 hl
  obtain ⟨hx, hb, hr, hml, hown, hts, hnw, hlk, hnm, hdf, hdl, hkc, hks, hA, hE0⟩ := id C
  exact lv_if_ne hx hb hd ht (fun h => kt h p l e R s m args below meth c D A H locs cells slots ls C hS hM0 hl) (fun h => kf h p l e R s m args below meth c D A H locs cells slots ls C hS hM0 hl)
theorem g_icmp_ne {x y : Int32} {off : Int} {tgt : Nat} (hd : decode μ.2.1 pc = .ok (.if_icmp .ne off, 3)) (ht : (pc : Int) + off = (tgt : Int)) (kt : ¬ x = y → G κ μ d M tgt lv rest k n Q) (kf : x = y → G κ μ d M (pc + 3) lv rest k n Q) : G κ μ d M pc lv (.int y :: .int x :: rest) k n Q := by
  intro p l e R s m args below meth c D A H locs cells slots ls C hS hM0 hl
  obtain ⟨hx, hb, hr, hml, hown, hts, hnw, hlk, hnm, hdf, hdl, hkc, hks, hA, hE0⟩ := id C
  exact lv_icmp_ne hx hb hd ht (fun h => kt h p l e R s m args below meth c D A H locs cells slots ls C hS hM0 hl) (fun h => kf h p l e R s m args below meth c D A H locs cells slots ls C hS hM0 hl)
theorem g_if_lt {x : Int32} {off : Int} {tgt : Nat} (hd : decode μ.2.1 pc = .ok (.ifCond .lt off, 3)) (ht : (pc : Int) + off = (tgt : Int)) (kt : x < 0 → G κ μ d M tgt lv rest k n Q) (kf : ¬ x < 0 → G κ μ d M (pc + 3) lv rest k n Q) : G κ μ d M pc lv (.int x :: rest) k n Q := by
  intro p l e R s m args below meth c D A H locs cells slots ls C hS hM0 hl
  obtain ⟨hx, hb, hr, hml, hown, hts, hnw, hlk, hnm, hdf, hdl, hkc, hks, hA, hE0⟩ := id C
  exact lv_if_lt hx hb hd ht (fun h => kt h p l e R s m args below meth c D A H locs cells slots ls C hS hM0 hl) (fun h => kf h p l e R s m args below meth c D A H locs cells slots ls C hS hM0 hl)
theorem g_icmp_lt {x y : Int32} {off : Int} {tgt : Nat} (hd : decode μ.2.1 pc = .ok (.if_icmp .lt off, 3)) (ht : (pc : Int) + off = (tgt : Int)) (kt : x < y → G κ μ d M tgt lv rest k n Q) (kf : ¬ x < y → G κ μ d M (pc + 3) lv rest k n Q) : G κ μ d M pc lv (.int y :: .int x :: rest) k n Q := by
  intro p l e R s m args below meth c D A H locs cells slots ls C hS hM0 hl
  obtain ⟨hx, hb, hr, hml, hown, hts, hnw, hlk, hnm, hdf, hdl, hkc, hks, hA, hE0⟩ := id C
  exact lv_icmp_lt hx hb hd ht (fun h => kt h p l e R s m args below meth c D A H locs cells slots ls C hS hM0 hl) (fun h => kf h p l e R s m args below meth c D A H locs cells slots ls C hS hM0 hl)
theorem g_if_ge {x : Int32} {off : Int} {tgt : Nat} (hd : decode μ.2.1 pc = .ok (.ifCond .ge off, 3)) (ht : (pc : Int) + off = (tgt : Int)) (kt : 0 ≤ x → G κ μ d M tgt lv rest k n Q) (kf : ¬ 0 ≤ x → G κ μ d M (pc + 3) lv rest k n Q) : G κ μ d M pc lv (.int x :: rest) k n Q := by
  intro p l e R s m args below meth c D A H locs cells slots ls C hS hM0 hl
  obtain ⟨hx, hb, hr, hml, hown, hts, hnw, hlk, hnm, hdf, hdl, hkc, hks, hA, hE0⟩ := id C
  exact lv_if_ge hx hb hd ht (fun h => kt h p l e R s m args below meth c D A H locs cells slots ls C hS hM0 hl) (fun h => kf h p l e R s m args below meth c D A H locs cells slots ls C hS hM0 hl)
theorem g_icmp_ge {x y : Int32} {off : Int} {tgt : Nat} (hd : decode μ.2.1 pc = .ok (.if_icmp .ge off, 3)) (ht : (pc : Int) + off = (tgt : Int)) (kt : y ≤ x → G κ μ d M tgt lv rest k n Q) (kf : ¬ y ≤ x → G κ μ d M (pc + 3) lv rest k n Q) : G κ μ d M pc lv (.int y :: .int x :: rest) k n Q := by
  intro p l e R s m args below meth c D A H locs cells slots ls C hS hM0 hl
  obtain ⟨hx, hb, hr, hml, hown, hts, hnw, hlk, hnm, hdf, hdl, hkc, hks, hA, hE0⟩ := id C
  exact lv_icmp_ge hx hb hd ht (fun h => kt h p l e R s m args below meth c D A H locs cells slots ls C hS hM0 hl) (fun h => kf h p l e R s m args below meth c D A H locs cells slots ls C hS hM0 hl)
theorem g_if_gt {x : Int32} {off : Int} {tgt : Nat} (hd : decode μ.2.1 pc = .ok (.ifCond .gt off, 3)) (ht : (pc : Int) + off = (tgt : Int)) (kt : 0 < x → G κ μ d M tgt lv rest k n Q) (kf : ¬ 0 < x → G κ μ d M (pc + 3) lv rest k n Q) : G κ μ d M pc lv (.int x :: rest) k n Q := by
  intro p l e R s m args below meth c D A H locs cells slots ls C hS hM0 hl
  obtain ⟨hx, hb, hr, hml, hown, hts, hnw, hlk, hnm, hdf, hdl, hkc, hks, hA, hE0⟩ := id C
  exact lv_if_gt hx hb hd ht (fun h => kt h p l e R s m args below meth c D A H locs cells slots ls C hS hM0 hl) (fun h => kf h p l e R s m args below meth c D A H locs cells slots ls C hS hM0 hl)
theorem g_icmp_gt {x y : Int32} {off : Int} {tgt : Nat} (hd : decode μ.2.1 pc = .ok (.if_icmp .gt off, 3)) (ht : (pc : Int) + off = (tgt : Int)) (kt : y < x → G κ μ d M tgt lv rest k n Q) (kf : ¬ y < x → G κ μ d M (pc + 3) lv rest k n Q) : G κ μ d M pc lv (.int y :: .int x :: rest) k n Q := by
  intro p l e R s m args below meth c D A H locs cells slots ls C hS hM0 hl
  obtain ⟨hx, hb, hr, hml, hown, hts, hnw, hlk, hnm, hdf, hdl, hkc, hks, hA, hE0⟩ := id C
  exact lv_icmp_gt hx hb hd ht (fun h => kt h p l e R s m args below meth c D A H locs cells slots ls C hS hM0 hl) (fun h => kf h p l e R s m args below meth c D A H locs cells slots ls C hS hM0 hl)
theorem g_if_le {x : Int32} {off : Int} {tgt : Nat} (hd : decode μ.2.1 pc = .ok (.ifCond .le off, 3)) (ht : (pc : Int) + off = (tgt : Int)) (kt : x ≤ 0 → G κ μ d M tgt lv rest k n Q) (kf : ¬ x ≤ 0 → G κ μ d M (pc + 3) lv rest k n Q) : G κ μ d M pc lv (.int x :: rest) k n Q := by
  intro p l e R s m args below meth c D A H locs cells slots ls C hS hM0 hl
  obtain ⟨hx, hb, hr, hml, hown, hts, hnw, hlk, hnm, hdf, hdl, hkc, hks, hA, hE0⟩ := id C
  exact lv_if_le hx hb hd ht (fun h => kt h p l e R s m args below meth c D A H locs cells slots ls C hS hM0 hl) (fun h => kf h p l e R s m args below meth c D A H locs cells slots ls C hS hM0 hl)
theorem g_icmp_le {x y : Int32} {off : Int} {tgt : Nat} (hd : decode μ.2.1 pc = .ok (.if_icmp .le off, 3)) (ht : (pc : Int) + off = (tgt : Int)) (kt : x ≤ y → G κ μ d M tgt lv rest k n Q) (kf : ¬ x ≤ y → G κ μ d M (pc + 3) lv rest k n Q) : G κ μ d M pc lv (.int y :: .int x :: rest) k n Q := by
  intro p l e R s m args below meth c D A H locs cells slots ls C hS hM0 hl
  obtain ⟨hx, hb, hr, hml, hown, hts, hnw, hlk, hnm, hdf, hdl, hkc, hks, hA, hE0⟩ := id C
  exact lv_icmp_le hx hb hd ht (fun h => kt h p l e R s m args below meth c D A H locs cells slots ls C hS hM0 hl) (fun h => kf h p l e R s m args below meth c D A H locs cells slots ls C hS hM0 hl)
theorem g_ifnull {x : Nat} {off : Int} (hd : decode μ.2.1 pc = .ok (.ifnull off, 3)) (kk : G κ μ d M (pc + 3) lv rest k n Q) : G κ μ d M pc lv (.ref x :: rest) k n Q := by
  intro p l e R s m args below meth c D A H locs cells slots ls C hS hM0 hl
  obtain ⟨hx, hb, hr, hml, hown, hts, hnw, hlk, hnm, hdf, hdl, hkc, hks, hA, hE0⟩ := id C
  exact lv_ifnull hx hb hd (kk p l e R s m args below meth c D A H locs cells slots ls C hS hM0 hl)
theorem g_ifnullN {off : Int} {tgt : Nat} (hd : decode μ.2.1 pc = .ok (.ifnull off, 3)) (ht : (pc : Int) + off = (tgt : Int)) (kk : G κ μ d M tgt lv rest k n Q) : G κ μ d M pc lv (.null :: rest) k n Q := by
  intro p l e R s m args below meth c D A H locs cells slots ls C hS hM0 hl
  obtain ⟨hx, hb, hr, hml, hown, hts, hnw, hlk, hnm, hdf, hdl, hkc, hks, hA, hE0⟩ := id C
  exact lv_ifnullN hx hb hd ht (kk p l e R s m args below meth c D A H locs cells slots ls C hS hM0 hl)
theorem g_ifnonnull {x : Nat} {off : Int} {tgt : Nat} (hd : decode μ.2.1 pc = .ok (.ifnonnull off, 3)) (ht : (pc : Int) + off = (tgt : Int)) (kk : G κ μ d M tgt lv rest k n Q) : G κ μ d M pc lv (.ref x :: rest) k n Q := by
  intro p l e R s m args below meth c D A H locs cells slots ls C hS hM0 hl
  obtain ⟨hx, hb, hr, hml, hown, hts, hnw, hlk, hnm, hdf, hdl, hkc, hks, hA, hE0⟩ := id C
  exact lv_ifnonnull hx hb hd ht (kk p l e R s m args below meth c D A H locs cells slots ls C hS hM0 hl)
theorem g_ifnonnullN {off : Int} (hd : decode μ.2.1 pc = .ok (.ifnonnull off, 3)) (kk : G κ μ d M (pc + 3) lv rest k n Q) : G κ μ d M pc lv (.null :: rest) k n Q := by
  intro p l e R s m args below meth c D A H locs cells slots ls C hS hM0 hl
  obtain ⟨hx, hb, hr, hml, hown, hts, hnw, hlk, hnm, hdf, hdl, hkc, hks, hA, hE0⟩ := id C
  exact lv_ifnonnullN hx hb hd (kk p l e R s m args below meth c D A H locs cells slots ls C hS hM0 hl)
theorem g_acmp_eq {x y : Nat} {off : Int} {tgt : Nat} (hd : decode μ.2.1 pc = .ok (.if_acmp .eq off, 3)) (ht : (pc : Int) + off = (tgt : Int)) (kt : x = y → G κ μ d M tgt lv rest k n Q) (kf : ¬ x = y → G κ μ d M (pc + 3) lv rest k n Q) : G κ μ d M pc lv (.ref y :: .ref x :: rest) k n Q := by
  intro p l e R s m args below meth c D A H locs cells slots ls C hS hM0 hl
  obtain ⟨hx, hb, hr, hml, hown, hts, hnw, hlk, hnm, hdf, hdl, hkc, hks, hA, hE0⟩ := id C
  exact lv_acmp_eq (rx := some x) (ry := some y) hx hb hd ht (fun h => kt (Option.some.inj h) p l e R s m args below meth c D A H locs cells slots ls C hS hM0 hl) (fun h => kf (fun q => h (by rw [q])) p l e R s m args below meth c D A H locs cells slots ls C hS hM0 hl)
theorem g_acmp_ne {x y : Nat} {off : Int} {tgt : Nat} (hd : decode μ.2.1 pc = .ok (.if_acmp .ne off, 3)) (ht : (pc : Int) + off = (tgt : Int)) (kt : ¬ x = y → G κ μ d M tgt lv rest k n Q) (kf : x = y → G κ μ d M (pc + 3) lv rest k n Q) : G κ μ d M pc lv (.ref y :: .ref x :: rest) k n Q := by
  intro p l e R s m args below meth c D A H locs cells slots ls C hS hM0 hl
  obtain ⟨hx, hb, hr, hml, hown, hts, hnw, hlk, hnm, hdf, hdl, hkc, hks, hA, hE0⟩ := id C
  exact lv_acmp_ne (rx := some x) (ry := some y) hx hb hd ht (fun h => kt (fun q => h (by rw [q])) p l e R s m args below meth c D A H locs cells slots ls C hS hM0 hl) (fun h => kf (Option.some.inj h) p l e R s m args below meth c D A H locs cells slots ls C hS hM0 hl)
theorem g_idiv {x y : Int32} (hd : decode μ.2.1 pc = .ok (.idiv, 1)) (hne : ¬ y = 0) (kk : G κ μ d M (pc + 1) lv (.int (x / y) :: rest) k n Q) : G κ μ d M pc lv (.int y :: .int x :: rest) k n Q := by
  intro p l e R s m args below meth c D A H locs cells slots ls C hS hM0 hl
  obtain ⟨hx, hb, hr, hml, hown, hts, hnw, hlk, hnm, hdf, hdl, hkc, hks, hA, hE0⟩ := id C
  exact lv_idiv hx hb hd hne (kk p l e R s m args below meth c D A H locs cells slots ls C hS hM0 hl)
theorem g_irem {x y : Int32} (hd : decode μ.2.1 pc = .ok (.irem, 1)) (hne : ¬ y = 0) (kk : G κ μ d M (pc + 1) lv (.int (x - x / y * y) :: rest) k n Q) : G κ μ d M pc lv (.int y :: .int x :: rest) k n Q := by
  intro p l e R s m args below meth c D A H locs cells slots ls C hS hM0 hl
  obtain ⟨hx, hb, hr, hml, hown, hts, hnw, hlk, hnm, hdf, hdl, hkc, hks, hA, hE0⟩ := id C
  exact lv_irem hx hb hd hne (kk p l e R s m args below meth c D A H locs cells slots ls C hS hM0 hl)
theorem g_ldiv {x y : Int64} (hd : decode μ.2.1 pc = .ok (.ldiv, 1)) (hne : ¬ y = 0) (kk : G κ μ d M (pc + 1) lv (.long (x / y) :: rest) k n Q) : G κ μ d M pc lv (.long y :: .long x :: rest) k n Q := by
  intro p l e R s m args below meth c D A H locs cells slots ls C hS hM0 hl
  obtain ⟨hx, hb, hr, hml, hown, hts, hnw, hlk, hnm, hdf, hdl, hkc, hks, hA, hE0⟩ := id C
  exact lv_ldiv hx hb hd hne (kk p l e R s m args below meth c D A H locs cells slots ls C hS hM0 hl)
theorem g_lrem {x y : Int64} (hd : decode μ.2.1 pc = .ok (.lrem, 1)) (hne : ¬ y = 0) (kk : G κ μ d M (pc + 1) lv (.long (x - x / y * y) :: rest) k n Q) : G κ μ d M pc lv (.long y :: .long x :: rest) k n Q := by
  intro p l e R s m args below meth c D A H locs cells slots ls C hS hM0 hl
  obtain ⟨hx, hb, hr, hml, hown, hts, hnw, hlk, hnm, hdf, hdl, hkc, hks, hA, hE0⟩ := id C
  exact lv_lrem hx hb hd hne (kk p l e R s m args below meth c D A H locs cells slots ls C hS hM0 hl)
theorem g_ldc {idx : Nat} {v : Int32} (hw : Cond.constant μ.1.cls idx v ∈ gW) (hd : decode μ.2.1 pc = .ok (.ldc idx, 2)) (kk : G κ μ d M (pc + 2) lv (.int v :: rest) k n Q) : G κ μ d M pc lv rest k n Q := by
  intro p l e R s m args below meth c D A H locs cells slots ls C hS hM0 hl
  obtain ⟨hx, hb, hr, hml, hown, hts, hnw, hlk, hnm, hdf, hdl, hkc, hks, hA, hE0⟩ := id C
  exact lv_ldc hx hb hown (hts _ hw) hd (kk p l e R s m args below meth c D A H locs cells slots ls C hS hM0 hl)
theorem g_ldcw {idx : Nat} {v : Int32} (hw : Cond.constant μ.1.cls idx v ∈ gW) (hd : decode μ.2.1 pc = .ok (.ldc_w idx, 3)) (kk : G κ μ d M (pc + 3) lv (.int v :: rest) k n Q) : G κ μ d M pc lv rest k n Q := by
  intro p l e R s m args below meth c D A H locs cells slots ls C hS hM0 hl
  obtain ⟨hx, hb, hr, hml, hown, hts, hnw, hlk, hnm, hdf, hdl, hkc, hks, hA, hE0⟩ := id C
  exact lv_ldcw hx hb hown (hts _ hw) hd (kk p l e R s m args below meth c D A H locs cells slots ls C hS hM0 hl)
theorem g_ldc2 {idx : Nat} {v : Int64} (hw : Cond.constantLong μ.1.cls idx v ∈ gW) (hd : decode μ.2.1 pc = .ok (.ldc2_w idx, 3)) (kk : G κ μ d M (pc + 3) lv (.long v :: rest) k n Q) : G κ μ d M pc lv rest k n Q := by
  intro p l e R s m args below meth c D A H locs cells slots ls C hS hM0 hl
  obtain ⟨hx, hb, hr, hml, hown, hts, hnw, hlk, hnm, hdf, hdl, hkc, hks, hA, hE0⟩ := id C
  exact lv_ldc2 hx hb hown (hts _ hw) hd (kk p l e R s m args below meth c D A H locs cells slots ls C hS hM0 hl)
theorem g_tableOut {dflt lo hi : Int} {offs : Array Int} {len : Nat} {x : Int32} {tgt : Nat} (hd : decode μ.2.1 pc = .ok (.tableswitch dflt lo hi offs, len)) (h : x.toInt < lo ∨ hi < x.toInt) (ht : (pc : Int) + dflt = (tgt : Int)) (kk : G κ μ d M tgt lv rest k n Q) : G κ μ d M pc lv (.int x :: rest) k n Q := by
  intro p l e R s m args below meth c D A H locs cells slots ls C hS hM0 hl
  obtain ⟨hx, hb, hr, hml, hown, hts, hnw, hlk, hnm, hdf, hdl, hkc, hks, hA, hE0⟩ := id C
  exact lv_tableOut hx hb hd h ht (kk p l e R s m args below meth c D A H locs cells slots ls C hS hM0 hl)
theorem g_tableIn {dflt lo hi : Int} {offs : Array Int} {len : Nat} {x : Int32} {off : Int} {tgt : Nat} (hd : decode μ.2.1 pc = .ok (.tableswitch dflt lo hi offs, len)) (h1 : ¬ x.toInt < lo) (h2 : ¬ hi < x.toInt) (ho : offs[(x.toInt - lo).toNat]? = some off) (ht : (pc : Int) + off = (tgt : Int)) (kk : G κ μ d M tgt lv rest k n Q) : G κ μ d M pc lv (.int x :: rest) k n Q := by
  intro p l e R s m args below meth c D A H locs cells slots ls C hS hM0 hl
  obtain ⟨hx, hb, hr, hml, hown, hts, hnw, hlk, hnm, hdf, hdl, hkc, hks, hA, hE0⟩ := id C
  exact lv_tableIn hx hb hd h1 h2 ho ht (kk p l e R s m args below meth c D A H locs cells slots ls C hS hM0 hl)
/-! fields -/
def CK (q : vw_C) : Prop := (∀ w ∈ u_ws q.1 q.2.1 q.2.2, w ∈ gW) ∧ (∃ ty : Nat → FieldType, ∀ k, k < q.2.2 → parseFieldDescriptor (q.2.1 k).2.2.1 = some (ty k)) ∧ (∀ a, a < q.2.2 → ∀ b, b < q.2.2 → a ≠ b → (q.2.1 a).2.1 ≠ (q.2.1 b).2.1)
def FL (own : String) (idx ci j : Nat) (ty : FieldType) (fin : Bool) : Prop := ∃ (q : vw_C) (ref : String), vwCl[ci]? = some q ∧ CK q ∧ j < q.2.2 ∧ Cond.fieldLink own idx ref (q.2.1 j).2.1 (q.2.1 j).2.2.1 ∈ gW ∧ (ref = (q.2.1 j).1 ∨ Cond.sameField ref (q.2.1 j).1 (q.2.1 j).2.1 (q.2.1 j).2.2.1 ∈ gW) ∧ parseFieldDescriptor (q.2.1 j).2.2.1 = some ty ∧ (q.2.1 j).2.2.2 = fin
def FD (own : String) (ci j : Nat) : Prop := ∃ q : vw_C, vwCl[ci]? = some q ∧ (q.2.1 j).1 = own
def vset {ρ : Type} : List Value → Nat → Value → (List Value → Option ρ) → Option ρ
  | [], _, _, _ => none
  | _ :: l, 0, v, k => k (v :: l)
  | w :: l, n + 1, v, k => vset l n v (fun l' => k (w :: l'))
theorem vset_spec {ρ : Type} {v : Value} {r : ρ} : ∀ (l : List Value) (n : Nat) (k : List Value → Option ρ), vset l n v k = some r → k (l.set n v) = some r ∧ n < l.length := by
  intro l
  induction l with
  | nil => intro n k h; simp [vset] at h
  | cons a l ih =>
    intro n k h
    cases n with
    | zero => exact ⟨h, Nat.succ_pos _⟩
    | succ n =>
      obtain ⟨h1, h2⟩ := ih n _ h
      exact ⟨h1, by simp only [List.length_cons]; omega⟩
theorem g_get {idx ci j a : Nat} {ty : FieldType} {fin : Bool} {fs : List Value} {v : Value} (F : FL μ.1.cls idx ci j ty fin) (hd : decode μ.2.1 pc = .ok (.getfield idx, 3)) (hM : M a = some (eO ci fs)) (hv : fs[j]? = some v) (kk : G κ μ d M (pc + 3) lv (v :: rest) k n Q) : G κ μ d M pc lv (.ref a :: rest) k n Q := by
  intro p l e R s m args below meth c D A H locs cells slots ls C hS hM0 hl
  obtain ⟨hx, hb, hr, hml, hown, hts, hnw, hlk, hnm, hdf, hdl, hkc, hks, hA, hE0⟩ := id C
  obtain ⟨⟨C0, T0, N0⟩, ref, hc, ⟨hin, -, -⟩, hj, hlk2, hsm, -, -⟩ := F
  obtain ⟨ws, tys, bk, hK, hP, hD, hz, hEn⟩ := id hM0
  obtain ⟨q0, h2⟩ := List.getElem?_of_mem (hEn a _ hM)
  refine va_get hx hb hts hin hown hK hP q0 h2 hc j hj (hts _ hlk2) (fun x hxx => ?_) hv hd (kk p l e R s m args below meth c D A H locs cells slots ls C hS hM0 hl)
  rcases hsm with h | h
  · rw [h]; exact hxx
  · exact u_same (hts _ h) x hxx
theorem g_put {idx ci j a : Nat} {ty : FieldType} {fs fs' : List Value} {v : Value} (F : FL μ.1.cls idx ci j ty false) (hd : decode μ.2.1 pc = .ok (.putfield idx, 3)) (hM : M a = some (eO ci fs)) (hv : vset fs j v some = some fs') (hn1 : narrow ty v = v) (hf1 : fits ty v = true) (kk : G κ μ d (up M a (eO ci fs')) (pc + 3) lv rest k n Q) : G κ μ d M pc lv (v :: .ref a :: rest) k n Q := by
  intro p l e R s m args below meth c D A H locs cells slots ls C hS hM0 hl
  obtain ⟨hx, hb, hr, hml, hown, hts, hnw, hlk, hnm, hdf, hdl, hkc, hks, hA, hE0⟩ := id C
  obtain ⟨⟨C0, T0, N0⟩, ref, hc, ⟨hin, ⟨ty0, hty⟩, hnm2⟩, hj, hlk2, hsm, hpt, hfi⟩ := F
  obtain ⟨ws, tys, bk, hK, hP, hD, hz, hEn⟩ := id hM0
  obtain ⟨q0, h2⟩ := List.getElem?_of_mem (hEn a _ hM)
  obtain ⟨hv1, hv2⟩ := vset_spec _ _ _ hv
  have hv3 := Option.some.inj hv1
  subst hv3
  refine va_put hx hb hts hin ty0 hty hnm2 hown hK hP hD hS q0 h2 hc j hj (hts _ hlk2) (fun x hxx => ?_) hfi hpt hn1 hf1 hv2 hd (fun H1 locs1 hP1 hD1 hS1 => ?_)
  · rcases hsm with h | h
    · rw [h]; exact hxx
    · exact u_same (hts _ h) x hxx
  · exact kk p l e R s m args below meth c D A H1 locs1 cells slots ls C hS1 (mm_set hK hD hz hEn h2 hM (fun xs h => by cases h) (mem_self h2) hP1 hD1) hl
theorem g_putF {idx ci j a : Nat} {ty : FieldType} {fs fs' : List Value} {v : Value} (F : FL μ.1.cls idx ci j ty true) (hdc : FD μ.1.cls ci j) (hin2 : μ.1.name = "<init>") (hd : decode μ.2.1 pc = .ok (.putfield idx, 3)) (hM : M a = some (eO ci fs)) (hv : vset fs j v some = some fs') (hn1 : narrow ty v = v) (hf1 : fits ty v = true) (kk : G κ μ d (up M a (eO ci fs')) (pc + 3) lv rest k n Q) : G κ μ d M pc lv (v :: .ref a :: rest) k n Q := by
  intro p l e R s m args below meth c D A H locs cells slots ls C hS hM0 hl
  obtain ⟨hx, hb, hr, hml, hown, hts, hnw, hlk, hnm, hdf, hdl, hkc, hks, hA, hE0⟩ := id C
  obtain ⟨⟨C0, T0, N0⟩, ref, hc, ⟨hin, ⟨ty0, hty⟩, hnm2⟩, hj, hlk2, hsm, hpt, hfi⟩ := F
  obtain ⟨q9, hq9, hdcl⟩ := hdc
  cases hc.symm.trans hq9
  obtain ⟨ws, tys, bk, hK, hP, hD, hz, hEn⟩ := id hM0
  obtain ⟨q0, h2⟩ := List.getElem?_of_mem (hEn a _ hM)
  obtain ⟨hv1, hv2⟩ := vset_spec _ _ _ hv
  have hv3 := Option.some.inj hv1
  subst hv3
  refine va_putF hx hb hts hin ty0 hty hnm2 hown hK hP hD hS q0 h2 hc j hj (hts _ hlk2) (fun x hxx => ?_) hfi (hnm.trans hin2) hdcl hpt hn1 hf1 hv2 hd (fun H1 locs1 hP1 hD1 hS1 => ?_)
  · rcases hsm with h | h
    · rw [h]; exact hxx
    · exact u_same (hts _ h) x hxx
  · exact kk p l e R s m args below meth c D A H1 locs1 cells slots ls C hS1 (mm_set hK hD hz hEn h2 hM (fun xs h => by cases h) (mem_self h2) hP1 hD1) hl
end GR
