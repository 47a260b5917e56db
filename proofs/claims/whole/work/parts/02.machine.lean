/-! THE CLEAN MACHINE: a judgement G over a memory (address -> what lies there), a list of locals and a stack; every row of it stands on a row of the kit -/
abbrev LV : Type := List (Option Value)
abbrev EE : Type := (Nat × List Value) ⊕ ((FieldType × vp_A) ⊕ List Nat)
abbrev Mm : Type := Nat → Option EE
abbrev MD : Type := MethodName × ByteArray × Nat × Option FieldType
def up (M : Mm) (a : Nat) (e : EE) : Mm := fun q => if q = a then some e else M q
theorem up_s {M : Mm} {a : Nat} {e : EE} : up M a e a = some e := if_pos rfl
theorem up_n {M : Mm} {a b : Nat} {e : EE} (h : b ≠ a) : up M a e b = M b := if_neg h
def lgt {ρ : Type} : LV → Nat → (Value → Option ρ) → Option ρ
  | [], _, _ => none
  | none :: _, 0, _ => none
  | some v :: _, 0, k => k v
  | _ :: l, n + 1, k => lgt l n k
def c2 : Option Value → Bool
  | some (.long _) => true
  | some (.double _) => true
  | _ => false
def lst {ρ : Type} : LV → Nat → Value → (LV → Option ρ) → Option ρ
  | [], _, _, _ => none
  | _ :: l, 0, v, k => k (some v :: l)
  | w :: l, 1, v, k => match c2 w with
    | true => none
    | false => lst l 0 v (fun l' => k (w :: l'))
  | w :: l, n + 2, v, k => lst l (n + 1) v (fun l' => k (w :: l'))
def lst2 {ρ : Type} : LV → Nat → Value → (LV → Option ρ) → Option ρ
  | [], _, _, _ => none
  | _ :: l, 0, v, k => match l with
    | [] => none
    | _ :: l' => k (some v :: none :: l')
  | w :: l, 1, v, k => match c2 w with
    | true => none
    | false => lst2 l 0 v (fun l' => k (w :: l'))
  | w :: l, n + 2, v, k => lst2 l (n + 1) v (fun l' => k (w :: l'))
theorem lgt_spec {ρ : Type} {k : Value → Option ρ} {r : ρ} : ∀ (l : LV) (n : Nat), lgt l n k = some r → ∃ v, l[n]? = some (some v) ∧ k v = some r := by
  intro l
  induction l with
  | nil => intro n h; simp [lgt] at h
  | cons a l ih =>
    intro n h
    cases n with
    | zero =>
      cases a with
      | none => simp [lgt] at h
      | some v => exact ⟨v, rfl, h⟩
    | succ n =>
      have h' : lgt l n k = some r := by cases a <;> exact h
      obtain ⟨v, h1, h2⟩ := ih n h'
      exact ⟨v, by simpa using h1, h2⟩
theorem lst_spec {ρ : Type} {v : Value} {r : ρ} : ∀ (l : LV) (n : Nat) (k : LV → Option ρ), lst l n v k = some r → k (l.set n (some v)) = some r ∧ n < l.length ∧ ∀ (j : Nat) (w : Value), j + 1 = n → l[j]? = some (some w) → c2 (some w) = false := by
  intro l
  induction l with
  | nil => intro n k h; simp [lst] at h
  | cons a l ih =>
    intro n k h
    match n, h with
    | 0, h => exact ⟨h, Nat.succ_pos _, fun j w e => by omega⟩
    | 1, h =>
      cases hc : c2 a with
      | true => simp [lst, hc] at h
      | false =>
        simp only [lst, hc] at h
        obtain ⟨h1, h2, h3⟩ := ih 0 _ h
        refine ⟨h1, by simpa using h2, fun j w e hj => ?_⟩
        have : j = 0 := by omega
        subst this
        simp at hj
        rw [← hj]; exact hc
    | n + 2, h =>
      obtain ⟨h1, h2, h3⟩ := ih (n + 1) _ h
      refine ⟨h1, by simp only [List.length_cons]; omega, fun j w e hj => ?_⟩
      match j, e, hj with
      | j + 1, e, hj => exact h3 j w (by omega) (by simpa using hj)
theorem lst2_spec {ρ : Type} {v : Value} {r : ρ} : ∀ (l : LV) (n : Nat) (k : LV → Option ρ), lst2 l n v k = some r → k ((l.set n (some v)).set (n + 1) none) = some r ∧ n + 1 < l.length ∧ ∀ (j : Nat) (w : Value), j + 1 = n → l[j]? = some (some w) → c2 (some w) = false := by
  intro l
  induction l with
  | nil => intro n k h; simp [lst2] at h
  | cons a l ih =>
    intro n k h
    match n, h with
    | 0, h =>
      cases l with
      | nil => simp [lst2] at h
      | cons b l => exact ⟨h, by simp, fun j w e => by omega⟩
    | 1, h =>
      cases hc : c2 a with
      | true => simp [lst2, hc] at h
      | false =>
        simp only [lst2, hc] at h
        obtain ⟨h1, h2, h3⟩ := ih 0 _ h
        refine ⟨h1, by simp only [List.length_cons]; omega, fun j w e hj => ?_⟩
        have : j = 0 := by omega
        subst this
        simp at hj
        rw [← hj]; exact hc
    | n + 2, h =>
      obtain ⟨h1, h2, h3⟩ := ih (n + 1) _ h
      refine ⟨h1, by simp only [List.length_cons]; omega, fun j w e hj => ?_⟩
      match j, e, hj with
      | j + 1, e, hj => exact h3 j w (by omega) (by simpa using hj)
/-- the frame's locals hold the list -/
def lh (ls : Array Slot) (nL : Nat) (lv : LV) : Prop := lv.length = nL ∧ ls.size = nL ∧ lv_wf ls ∧ ∀ (i : Nat) (v : Value), lv[i]? = some (some v) → ls[i]? = some (.val v)
def lasc (lv : LV) : List (Nat × Value) := (List.range lv.length).filterMap (fun i => (lv[i]?.getD none).map (fun v => (i, v)))
theorem lasc_mem {lv : LV} {i : Nat} {v : Value} : (i, v) ∈ lasc lv ↔ lv[i]? = some (some v) := by
  unfold lasc
  rw [List.mem_filterMap]
  constructor
  · rintro ⟨j, hj, h⟩
    cases h1 : lv[j]? with
    | none => simp [h1] at h
    | some o =>
      cases o with
      | none => simp [h1] at h
      | some w => simp [h1] at h; obtain ⟨rfl, rfl⟩ := h; exact h1
  · intro h
    exact ⟨i, List.mem_range.mpr (List.getElem?_eq_some_iff.mp h).1, by simp [h]⟩
theorem lh.has {ls : Array Slot} {nL : Nat} {lv : LV} (h : lh ls nL lv) : lv_has ls nL (lasc lv) := ⟨h.2.1, h.2.2.1, fun q hq => h.2.2.2 q.1 q.2 (lasc_mem.mp hq)⟩
theorem lh.st1 {ls ls' : Array Slot} {nL i : Nat} {lv : LV} {v : Value} (h : lh ls nL lv) (hi : i < lv.length) (hc : ∀ (j : Nat) (w : Value), j + 1 = i → lv[j]? = some (some w) → c2 (some w) = false)
    (h' : lv_has ls' nL ((i, v) :: (lasc lv).filter (fun q => !(q.1 == i) && !(q.1 + 1 == i && q.2.category == 2)))) : lh ls' nL (lv.set i (some v)) := by
  refine ⟨by simpa using h.1, h'.1, h'.2.1, fun j w hj => ?_⟩
  by_cases hji : j = i
  · subst hji
    rw [List.getElem?_set_self hi] at hj
    cases hj
    exact h'.2.2 (j, v) List.mem_cons_self
  · rw [List.getElem?_set_ne (Ne.symm hji)] at hj
    refine h'.2.2 (j, w) (List.mem_cons_of_mem _ (List.mem_filter.mpr ⟨lasc_mem.mpr hj, ?_⟩))
    have h1 : (j == i) = false := by simpa using hji
    by_cases h2 : j + 1 = i
    · have h3 := hc j w h2 hj
      cases w <;> simp_all [c2, Value.category]
    · have h4 : (j + 1 == i) = false := by simpa using h2
      simp [h1, h4]
theorem lh.st2 {ls ls' : Array Slot} {nL i : Nat} {lv : LV} {v : Value} (h : lh ls nL lv) (hi : i + 1 < lv.length) (hc : ∀ (j : Nat) (w : Value), j + 1 = i → lv[j]? = some (some w) → c2 (some w) = false)
    (h' : lv_has ls' nL ((i, v) :: (lasc lv).filter (fun q => !(q.1 == i) && (!(q.1 == i + 1) && !(q.1 + 1 == i && q.2.category == 2))))) : lh ls' nL ((lv.set i (some v)).set (i + 1) none) := by
  refine ⟨by simpa using h.1, h'.1, h'.2.1, fun j w hj => ?_⟩
  by_cases hj1 : j = i + 1
  · subst hj1
    rw [List.getElem?_set_self (by simpa using hi)] at hj
    cases hj
  rw [List.getElem?_set_ne (Ne.symm hj1)] at hj
  by_cases hji : j = i
  · subst hji
    rw [List.getElem?_set_self (by omega)] at hj
    cases hj
    exact h'.2.2 (j, v) List.mem_cons_self
  · rw [List.getElem?_set_ne (Ne.symm hji)] at hj
    refine h'.2.2 (j, w) (List.mem_cons_of_mem _ (List.mem_filter.mpr ⟨lasc_mem.mpr hj, ?_⟩))
    have h1 : (j == i) = false := by simpa using hji
    have h5 : (j == i + 1) = false := by simpa using hj1
    by_cases h2 : j + 1 = i
    · have h3 := hc j w h2 hj
      cases w <;> simp_all [c2, Value.category]
    · have h4 : (j + 1 == i) = false := by simpa using h2
      simp [h1, h4, h5]

/-- what a pure instruction does (c: the number that stands in it) -/
def px {ρ : Type} (i : Instr) (c : Int32) (lv : LV) (st : List Value) (k : LV → List Value → Option ρ) : Option ρ := match i, st with
  | .aload_n n, st => lgt lv n.val (fun v => match v with | .ref a => k lv (.ref a :: st) | .null => k lv (.null :: st) | _ => none)
  | .aload n, st => lgt lv n (fun v => match v with | .ref a => k lv (.ref a :: st) | .null => k lv (.null :: st) | _ => none)
  | .iload_n n, st => lgt lv n.val (fun v => match v with | .int x => k lv (.int x :: st) | _ => none)
  | .iload n, st => lgt lv n (fun v => match v with | .int x => k lv (.int x :: st) | _ => none)
  | .lload_n n, st => lgt lv n.val (fun v => match v with | .long x => k lv (.long x :: st) | _ => none)
  | .lload n, st => lgt lv n (fun v => match v with | .long x => k lv (.long x :: st) | _ => none)
  | .lstore_n n, .long x :: st => lst2 lv n.val (.long x) (fun l => k l st)
  | .lstore n, .long x :: st => lst2 lv n (.long x) (fun l => k l st)
  | .astore_n n, .ref a :: st => lst lv n.val (.ref a) (fun l => k l st)
  | .astore_n n, .null :: st => lst lv n.val .null (fun l => k l st)
  | .astore n, .ref a :: st => lst lv n (.ref a) (fun l => k l st)
  | .astore n, .null :: st => lst lv n .null (fun l => k l st)
  | .istore_n n, .int x :: st => lst lv n.val (.int x) (fun l => k l st)
  | .istore n, .int x :: st => lst lv n (.int x) (fun l => k l st)
  | .iinc n _, st => lgt lv n (fun v => match v with | .int x => lst lv n (.int (x + c)) (fun l => k l st) | _ => none)
  | .iconst _, st => k lv (.int c :: st)
  | .bipush _, st => k lv (.int c :: st)
  | .sipush _, st => k lv (.int c :: st)
  | .aconst_null, st => k lv (.null :: st)
  | .iadd, .int y :: .int x :: st => k lv (.int (x + y) :: st)
  | .isub, .int y :: .int x :: st => k lv (.int (x - y) :: st)
  | .imul, .int y :: .int x :: st => k lv (.int (x * y) :: st)
  | .iand, .int y :: .int x :: st => k lv (.int (x &&& y) :: st)
  | .ior, .int y :: .int x :: st => k lv (.int (x ||| y) :: st)
  | .ixor, .int y :: .int x :: st => k lv (.int (x ^^^ y) :: st)
  | .ishl, .int y :: .int x :: st => k lv (.int (x <<< (y &&& 31)) :: st)
  | .ishr, .int y :: .int x :: st => k lv (.int (x >>> (y &&& 31)) :: st)
  | .iushr, .int y :: .int x :: st => k lv (.int ((x.toUInt32 >>> (y.toUInt32 &&& Int32.toUInt32 31)).toInt32) :: st)
  | .ladd, .long y :: .long x :: st => k lv (.long (x + y) :: st)
  | .lsub, .long y :: .long x :: st => k lv (.long (x - y) :: st)
  | .lmul, .long y :: .long x :: st => k lv (.long (x * y) :: st)
  | .land, .long y :: .long x :: st => k lv (.long (x &&& y) :: st)
  | .lor, .long y :: .long x :: st => k lv (.long (x ||| y) :: st)
  | .lxor, .long y :: .long x :: st => k lv (.long (x ^^^ y) :: st)
  | .ineg, .int x :: st => k lv (.int (-x) :: st)
  | .i2l, .int x :: st => k lv (.long x.toInt64 :: st)
  | .l2i, .long x :: st => k lv (.int x.toInt32 :: st)
  | .dup, .ref a :: st => k lv (.ref a :: .ref a :: st)
  | .dup, .int a :: st => k lv (.int a :: .int a :: st)
  | .dup, .null :: st => k lv (.null :: .null :: st)
  | .pop, .ref _ :: st => k lv st
  | .pop, .int _ :: st => k lv st
  | .pop, .null :: st => k lv st
  | .dup_x1, .int b :: .ref a :: st => k lv (.int b :: .ref a :: .int b :: st)
  | .dup_x1, .ref b :: .ref a :: st => k lv (.ref b :: .ref a :: .ref b :: st)
  | .dup_x2, .int d :: .int b :: .ref a :: st => k lv (.int d :: .int b :: .ref a :: .int d :: st)
  | .dup2, .int b :: .ref a :: st => k lv (.int b :: .ref a :: .int b :: .ref a :: st)
  | .goto _, st => k lv st
  | _, _ => none
def pxs {ρ : Type} : List (Instr × Nat × Int32) → LV → List Value → (LV → List Value → Option ρ) → Option ρ
  | [], lv, st, k => k lv st
  | (i, _, c) :: r, lv, st, k => px i c lv st (fun lv' st' => pxs r lv' st' k)
/-- its length, and its number -/
def pln (pc : Nat) (i : Instr) (l : Nat) (c : Int32) : Bool := match i with
  | .aload _ => l == 2
  | .iload _ => l == 2
  | .astore _ => l == 2
  | .istore _ => l == 2
  | .lload _ => l == 2
  | .lstore _ => l == 2
  | .iinc _ n => l == 3 && decide (Int32.ofInt n = c)
  | .iconst n => l == 1 && decide (Int32.ofInt n = c)
  | .bipush n => l == 2 && decide ((Int8.ofInt n).toInt32 = c)
  | .sipush n => l == 3 && decide ((Int16.ofInt n).toInt32 = c)
  | .goto o => l == 3 && decide (0 ≤ (pc : Int) + o)
  | _ => l == 1
def nx (pc : Nat) (i : Instr) (l : Nat) : Nat := match i with
  | .goto o => ((pc : Int) + o).toNat
  | _ => pc + l
def dsq (cc : ByteArray) : Nat → List (Instr × Nat × Int32) → Nat → Bool
  | pc, [], e => pc == e
  | pc, (i, l, c) :: r, e => decide (decode cc pc = .ok (i, l)) && (pln pc i l c && dsq cc (nx pc i l) r e)
section PX
variable {p : Program} {l : Launch} {e : Env} {R : Room} {s : State} {m : MethodId} {args : Array Value} {below : List Frame} {meth : Method} {c : Code} {H : Heap} {locs : List Loc} {cells slots : Nat} {Q : State → Prop} {cc : ByteArray}
/-- 'from lv st at pc it goes on at lv2 st2 at pc2' -/
def Jmp (p : Program) (l : Launch) (e : Env) (R : Room) (s : State) (m : MethodId) (args : Array Value) (below : List Frame) (meth : Method) (c : Code) (H : Heap) (locs : List Loc) (cells slots : Nat) (Q : State → Prop) (nL : Nat) (pc : Nat) (lv : LV) (st : List Value) (pc2 : Nat) (lv2 : LV) (st2 : List Value) : Prop :=
  (∀ ls2, lh ls2 nL lv2 → W p l e R s m args below meth c H locs cells slots Q (F0 m pc2 ls2 st2)) → ∀ ls, lh ls nL lv → W p l e R s m args below meth c H locs cells slots Q (F0 m pc ls st)

theorem pj_aload_n (hx : p.tables.exec = Jvm.exec) (hb : c.code = cc) {nL pc : Nat} {lv : LV} {rest : List Value} {n : Fin 4} {a : Nat} (hd : decode cc pc = .ok (.aload_n n, 1)) (h : lv[n.val]? = some (some (.ref a))) : Jmp p l e R s m args below meth c H locs cells slots Q nL pc lv (rest) (pc + 1) lv (.ref a :: rest) := by
  intro kk ls hl
  exact lv_aload_n hx hb hd rfl (hl.2.2.2 _ _ h) (kk ls hl)
theorem pj_aload (hx : p.tables.exec = Jvm.exec) (hb : c.code = cc) {nL pc : Nat} {lv : LV} {rest : List Value} {n : Nat} {a : Nat} (hd : decode cc pc = .ok (.aload n, 2)) (h : lv[n]? = some (some (.ref a))) : Jmp p l e R s m args below meth c H locs cells slots Q nL pc lv (rest) (pc + 2) lv (.ref a :: rest) := by
  intro kk ls hl
  exact lv_aload hx hb hd (hl.2.2.2 _ _ h) (kk ls hl)
theorem pj_aload_nN (hx : p.tables.exec = Jvm.exec) (hb : c.code = cc) {nL pc : Nat} {lv : LV} {rest : List Value} {n : Fin 4}  (hd : decode cc pc = .ok (.aload_n n, 1)) (h : lv[n.val]? = some (some (.null))) : Jmp p l e R s m args below meth c H locs cells slots Q nL pc lv (rest) (pc + 1) lv (.null :: rest) := by
  intro kk ls hl
  exact lv_aload_nN hx hb hd rfl (hl.2.2.2 _ _ h) (kk ls hl)
theorem pj_aloadN (hx : p.tables.exec = Jvm.exec) (hb : c.code = cc) {nL pc : Nat} {lv : LV} {rest : List Value} {n : Nat}  (hd : decode cc pc = .ok (.aload n, 2)) (h : lv[n]? = some (some (.null))) : Jmp p l e R s m args below meth c H locs cells slots Q nL pc lv (rest) (pc + 2) lv (.null :: rest) := by
  intro kk ls hl
  exact lv_aloadN hx hb hd (hl.2.2.2 _ _ h) (kk ls hl)
theorem pj_iload_n (hx : p.tables.exec = Jvm.exec) (hb : c.code = cc) {nL pc : Nat} {lv : LV} {rest : List Value} {n : Fin 4} {a : Int32} (hd : decode cc pc = .ok (.iload_n n, 1)) (h : lv[n.val]? = some (some (.int a))) : Jmp p l e R s m args below meth c H locs cells slots Q nL pc lv (rest) (pc + 1) lv (.int a :: rest) := by
  intro kk ls hl
  exact lv_iload_n hx hb hd rfl (hl.2.2.2 _ _ h) (kk ls hl)
theorem pj_iload (hx : p.tables.exec = Jvm.exec) (hb : c.code = cc) {nL pc : Nat} {lv : LV} {rest : List Value} {n : Nat} {a : Int32} (hd : decode cc pc = .ok (.iload n, 2)) (h : lv[n]? = some (some (.int a))) : Jmp p l e R s m args below meth c H locs cells slots Q nL pc lv (rest) (pc + 2) lv (.int a :: rest) := by
  intro kk ls hl
  exact lv_iload hx hb hd (hl.2.2.2 _ _ h) (kk ls hl)
theorem pj_lload_n (hx : p.tables.exec = Jvm.exec) (hb : c.code = cc) {nL pc : Nat} {lv : LV} {rest : List Value} {n : Fin 4} {a : Int64} (hd : decode cc pc = .ok (.lload_n n, 1)) (h : lv[n.val]? = some (some (.long a))) : Jmp p l e R s m args below meth c H locs cells slots Q nL pc lv (rest) (pc + 1) lv (.long a :: rest) := by
  intro kk ls hl
  exact lv_lload_n hx hb hd rfl (hl.2.2.2 _ _ h) (kk ls hl)
theorem pj_lload (hx : p.tables.exec = Jvm.exec) (hb : c.code = cc) {nL pc : Nat} {lv : LV} {rest : List Value} {n : Nat} {a : Int64} (hd : decode cc pc = .ok (.lload n, 2)) (h : lv[n]? = some (some (.long a))) : Jmp p l e R s m args below meth c H locs cells slots Q nL pc lv (rest) (pc + 2) lv (.long a :: rest) := by
  intro kk ls hl
  exact lv_lload hx hb hd (hl.2.2.2 _ _ h) (kk ls hl)
theorem pj_astore_n (hx : p.tables.exec = Jvm.exec) (hb : c.code = cc) {nL pc : Nat} {lv : LV} {rest : List Value} {n : Fin 4} {a : Nat} (hd : decode cc pc = .ok (.astore_n n, 1)) (hi : n.val < lv.length) (hc : ∀ (j : Nat) (w : Value), j + 1 = n.val → lv[j]? = some (some w) → c2 (some w) = false) : Jmp p l e R s m args below meth c H locs cells slots Q nL pc lv (.ref a :: rest) (pc + 1) (lv.set n.val (some (.ref a))) (rest) := by
  intro kk ls hl
  exact lv_astore_n hx hb hd rfl hl.has (by rw [← hl.1]; exact hi) rfl (fun ls' hl' => kk ls' (hl.st1 hi hc hl'))
theorem pj_astore (hx : p.tables.exec = Jvm.exec) (hb : c.code = cc) {nL pc : Nat} {lv : LV} {rest : List Value} {n : Nat} {a : Nat} (hd : decode cc pc = .ok (.astore n, 2)) (hi : n < lv.length) (hc : ∀ (j : Nat) (w : Value), j + 1 = n → lv[j]? = some (some w) → c2 (some w) = false) : Jmp p l e R s m args below meth c H locs cells slots Q nL pc lv (.ref a :: rest) (pc + 2) (lv.set n (some (.ref a))) (rest) := by
  intro kk ls hl
  exact lv_astore hx hb hd hl.has (by rw [← hl.1]; exact hi) rfl (fun ls' hl' => kk ls' (hl.st1 hi hc hl'))
theorem pj_astore_nN (hx : p.tables.exec = Jvm.exec) (hb : c.code = cc) {nL pc : Nat} {lv : LV} {rest : List Value} {n : Fin 4}  (hd : decode cc pc = .ok (.astore_n n, 1)) (hi : n.val < lv.length) (hc : ∀ (j : Nat) (w : Value), j + 1 = n.val → lv[j]? = some (some w) → c2 (some w) = false) : Jmp p l e R s m args below meth c H locs cells slots Q nL pc lv (.null :: rest) (pc + 1) (lv.set n.val (some (.null))) (rest) := by
  intro kk ls hl
  exact lv_astore_nN hx hb hd rfl hl.has (by rw [← hl.1]; exact hi) rfl (fun ls' hl' => kk ls' (hl.st1 hi hc hl'))
theorem pj_astoreN (hx : p.tables.exec = Jvm.exec) (hb : c.code = cc) {nL pc : Nat} {lv : LV} {rest : List Value} {n : Nat}  (hd : decode cc pc = .ok (.astore n, 2)) (hi : n < lv.length) (hc : ∀ (j : Nat) (w : Value), j + 1 = n → lv[j]? = some (some w) → c2 (some w) = false) : Jmp p l e R s m args below meth c H locs cells slots Q nL pc lv (.null :: rest) (pc + 2) (lv.set n (some (.null))) (rest) := by
  intro kk ls hl
  exact lv_astoreN hx hb hd hl.has (by rw [← hl.1]; exact hi) rfl (fun ls' hl' => kk ls' (hl.st1 hi hc hl'))
theorem pj_istore_n (hx : p.tables.exec = Jvm.exec) (hb : c.code = cc) {nL pc : Nat} {lv : LV} {rest : List Value} {n : Fin 4} {a : Int32} (hd : decode cc pc = .ok (.istore_n n, 1)) (hi : n.val < lv.length) (hc : ∀ (j : Nat) (w : Value), j + 1 = n.val → lv[j]? = some (some w) → c2 (some w) = false) : Jmp p l e R s m args below meth c H locs cells slots Q nL pc lv (.int a :: rest) (pc + 1) (lv.set n.val (some (.int a))) (rest) := by
  intro kk ls hl
  exact lv_istore_n hx hb hd rfl hl.has (by rw [← hl.1]; exact hi) rfl (fun ls' hl' => kk ls' (hl.st1 hi hc hl'))
theorem pj_istore (hx : p.tables.exec = Jvm.exec) (hb : c.code = cc) {nL pc : Nat} {lv : LV} {rest : List Value} {n : Nat} {a : Int32} (hd : decode cc pc = .ok (.istore n, 2)) (hi : n < lv.length) (hc : ∀ (j : Nat) (w : Value), j + 1 = n → lv[j]? = some (some w) → c2 (some w) = false) : Jmp p l e R s m args below meth c H locs cells slots Q nL pc lv (.int a :: rest) (pc + 2) (lv.set n (some (.int a))) (rest) := by
  intro kk ls hl
  exact lv_istore hx hb hd hl.has (by rw [← hl.1]; exact hi) rfl (fun ls' hl' => kk ls' (hl.st1 hi hc hl'))
theorem pj_lstore_n (hx : p.tables.exec = Jvm.exec) (hb : c.code = cc) {nL pc : Nat} {lv : LV} {rest : List Value} {n : Fin 4} {a : Int64} (hd : decode cc pc = .ok (.lstore_n n, 1)) (hi : n.val + 1 < lv.length) (hc : ∀ (j : Nat) (w : Value), j + 1 = n.val → lv[j]? = some (some w) → c2 (some w) = false) : Jmp p l e R s m args below meth c H locs cells slots Q nL pc lv (.long a :: rest) (pc + 1) ((lv.set n.val (some (.long a))).set (n.val + 1) none) (rest) := by
  intro kk ls hl
  exact lv_lstore_n hx hb hd rfl hl.has (by rw [← hl.1]; exact hi) rfl (fun ls' hl' => kk ls' (hl.st2 hi hc hl'))
theorem pj_lstore (hx : p.tables.exec = Jvm.exec) (hb : c.code = cc) {nL pc : Nat} {lv : LV} {rest : List Value} {n : Nat} {a : Int64} (hd : decode cc pc = .ok (.lstore n, 2)) (hi : n + 1 < lv.length) (hc : ∀ (j : Nat) (w : Value), j + 1 = n → lv[j]? = some (some w) → c2 (some w) = false) : Jmp p l e R s m args below meth c H locs cells slots Q nL pc lv (.long a :: rest) (pc + 2) ((lv.set n (some (.long a))).set (n + 1) none) (rest) := by
  intro kk ls hl
  exact lv_lstore hx hb hd hl.has (by rw [← hl.1]; exact hi) rfl (fun ls' hl' => kk ls' (hl.st2 hi hc hl'))
theorem pj_iinc (hx : p.tables.exec = Jvm.exec) (hb : c.code = cc) {nL pc : Nat} {lv : LV} {rest : List Value} {n : Nat} {o : Int} {a c0 : Int32} (hd : decode cc pc = .ok (.iinc n o, 3)) (ho : Int32.ofInt o = c0) (h : lv[n]? = some (some (.int a))) (hi : n < lv.length) (hc : ∀ (j : Nat) (w : Value), j + 1 = n → lv[j]? = some (some w) → c2 (some w) = false) : Jmp p l e R s m args below meth c H locs cells slots Q nL pc lv (rest) (pc + 3) (lv.set n (some (.int (a + c0)))) (rest) := by
  intro kk ls hl
  obtain ⟨k, hk⟩ := List.getElem?_of_mem (lasc_mem.mpr h)
  exact lv_iinc hx hb hd hl.has hk (by rw [ho]) (by rw [← hl.1]; exact hi) rfl (fun ls' hl' => kk ls' (hl.st1 hi hc hl'))
theorem pj_iconst (hx : p.tables.exec = Jvm.exec) (hb : c.code = cc) {nL pc : Nat} {lv : LV} {rest : List Value} {o : Int} {c0 : Int32} (hd : decode cc pc = .ok (.iconst o, 1)) (ho : Int32.ofInt o = c0) : Jmp p l e R s m args below meth c H locs cells slots Q nL pc lv (rest) (pc + 1) lv (.int c0 :: rest) := by
  intro kk ls hl
  exact lv_iconst hx hb hd ho (kk ls hl)
theorem pj_bipush (hx : p.tables.exec = Jvm.exec) (hb : c.code = cc) {nL pc : Nat} {lv : LV} {rest : List Value} {o : Int} {c0 : Int32} (hd : decode cc pc = .ok (.bipush o, 2)) (ho : (Int8.ofInt o).toInt32 = c0) : Jmp p l e R s m args below meth c H locs cells slots Q nL pc lv (rest) (pc + 2) lv (.int c0 :: rest) := by
  intro kk ls hl
  exact lv_bipush hx hb hd ho (kk ls hl)
theorem pj_sipush (hx : p.tables.exec = Jvm.exec) (hb : c.code = cc) {nL pc : Nat} {lv : LV} {rest : List Value} {o : Int} {c0 : Int32} (hd : decode cc pc = .ok (.sipush o, 3)) (ho : (Int16.ofInt o).toInt32 = c0) : Jmp p l e R s m args below meth c H locs cells slots Q nL pc lv (rest) (pc + 3) lv (.int c0 :: rest) := by
  intro kk ls hl
  exact lv_sipush hx hb hd ho (kk ls hl)
theorem pj_aconst_null (hx : p.tables.exec = Jvm.exec) (hb : c.code = cc) {nL pc : Nat} {lv : LV} {rest : List Value}  (hd : decode cc pc = .ok (.aconst_null, 1))  : Jmp p l e R s m args below meth c H locs cells slots Q nL pc lv (rest) (pc + 1) lv (.null :: rest) := by
  intro kk ls hl
  exact lv_null hx hb hd (kk ls hl)
theorem pj_iadd (hx : p.tables.exec = Jvm.exec) (hb : c.code = cc) {nL pc : Nat} {lv : LV} {rest : List Value} {x y : Int32} (hd : decode cc pc = .ok (.iadd, 1))  : Jmp p l e R s m args below meth c H locs cells slots Q nL pc lv (.int y :: .int x :: rest) (pc + 1) lv (.int (x + y) :: rest) := by
  intro kk ls hl
  exact lv_iadd hx hb hd (kk ls hl)
theorem pj_isub (hx : p.tables.exec = Jvm.exec) (hb : c.code = cc) {nL pc : Nat} {lv : LV} {rest : List Value} {x y : Int32} (hd : decode cc pc = .ok (.isub, 1))  : Jmp p l e R s m args below meth c H locs cells slots Q nL pc lv (.int y :: .int x :: rest) (pc + 1) lv (.int (x - y) :: rest) := by
  intro kk ls hl
  exact lv_isub hx hb hd (kk ls hl)
theorem pj_imul (hx : p.tables.exec = Jvm.exec) (hb : c.code = cc) {nL pc : Nat} {lv : LV} {rest : List Value} {x y : Int32} (hd : decode cc pc = .ok (.imul, 1))  : Jmp p l e R s m args below meth c H locs cells slots Q nL pc lv (.int y :: .int x :: rest) (pc + 1) lv (.int (x * y) :: rest) := by
  intro kk ls hl
  exact lv_imul hx hb hd (kk ls hl)
theorem pj_iand (hx : p.tables.exec = Jvm.exec) (hb : c.code = cc) {nL pc : Nat} {lv : LV} {rest : List Value} {x y : Int32} (hd : decode cc pc = .ok (.iand, 1))  : Jmp p l e R s m args below meth c H locs cells slots Q nL pc lv (.int y :: .int x :: rest) (pc + 1) lv (.int (x &&& y) :: rest) := by
  intro kk ls hl
  exact lv_iand hx hb hd (kk ls hl)
theorem pj_ior (hx : p.tables.exec = Jvm.exec) (hb : c.code = cc) {nL pc : Nat} {lv : LV} {rest : List Value} {x y : Int32} (hd : decode cc pc = .ok (.ior, 1))  : Jmp p l e R s m args below meth c H locs cells slots Q nL pc lv (.int y :: .int x :: rest) (pc + 1) lv (.int (x ||| y) :: rest) := by
  intro kk ls hl
  exact lv_ior hx hb hd (kk ls hl)
theorem pj_ixor (hx : p.tables.exec = Jvm.exec) (hb : c.code = cc) {nL pc : Nat} {lv : LV} {rest : List Value} {x y : Int32} (hd : decode cc pc = .ok (.ixor, 1))  : Jmp p l e R s m args below meth c H locs cells slots Q nL pc lv (.int y :: .int x :: rest) (pc + 1) lv (.int (x ^^^ y) :: rest) := by
  intro kk ls hl
  exact lv_ixor hx hb hd (kk ls hl)
theorem pj_ishl (hx : p.tables.exec = Jvm.exec) (hb : c.code = cc) {nL pc : Nat} {lv : LV} {rest : List Value} {x y : Int32} (hd : decode cc pc = .ok (.ishl, 1))  : Jmp p l e R s m args below meth c H locs cells slots Q nL pc lv (.int y :: .int x :: rest) (pc + 1) lv (.int (x <<< (y &&& 31)) :: rest) := by
  intro kk ls hl
  exact lv_ishl hx hb hd (kk ls hl)
theorem pj_ishr (hx : p.tables.exec = Jvm.exec) (hb : c.code = cc) {nL pc : Nat} {lv : LV} {rest : List Value} {x y : Int32} (hd : decode cc pc = .ok (.ishr, 1))  : Jmp p l e R s m args below meth c H locs cells slots Q nL pc lv (.int y :: .int x :: rest) (pc + 1) lv (.int (x >>> (y &&& 31)) :: rest) := by
  intro kk ls hl
  exact lv_ishr hx hb hd (kk ls hl)
theorem pj_iushr (hx : p.tables.exec = Jvm.exec) (hb : c.code = cc) {nL pc : Nat} {lv : LV} {rest : List Value} {x y : Int32} (hd : decode cc pc = .ok (.iushr, 1))  : Jmp p l e R s m args below meth c H locs cells slots Q nL pc lv (.int y :: .int x :: rest) (pc + 1) lv (.int ((x.toUInt32 >>> (y.toUInt32 &&& Int32.toUInt32 31)).toInt32) :: rest) := by
  intro kk ls hl
  exact lv_iushr hx hb hd rfl (kk ls hl)
theorem pj_ladd (hx : p.tables.exec = Jvm.exec) (hb : c.code = cc) {nL pc : Nat} {lv : LV} {rest : List Value} {x y : Int64} (hd : decode cc pc = .ok (.ladd, 1))  : Jmp p l e R s m args below meth c H locs cells slots Q nL pc lv (.long y :: .long x :: rest) (pc + 1) lv (.long (x + y) :: rest) := by
  intro kk ls hl
  exact lv_ladd hx hb hd (kk ls hl)
theorem pj_lsub (hx : p.tables.exec = Jvm.exec) (hb : c.code = cc) {nL pc : Nat} {lv : LV} {rest : List Value} {x y : Int64} (hd : decode cc pc = .ok (.lsub, 1))  : Jmp p l e R s m args below meth c H locs cells slots Q nL pc lv (.long y :: .long x :: rest) (pc + 1) lv (.long (x - y) :: rest) := by
  intro kk ls hl
  exact lv_lsub hx hb hd (kk ls hl)
theorem pj_lmul (hx : p.tables.exec = Jvm.exec) (hb : c.code = cc) {nL pc : Nat} {lv : LV} {rest : List Value} {x y : Int64} (hd : decode cc pc = .ok (.lmul, 1))  : Jmp p l e R s m args below meth c H locs cells slots Q nL pc lv (.long y :: .long x :: rest) (pc + 1) lv (.long (x * y) :: rest) := by
  intro kk ls hl
  exact lv_lmul hx hb hd (kk ls hl)
theorem pj_land (hx : p.tables.exec = Jvm.exec) (hb : c.code = cc) {nL pc : Nat} {lv : LV} {rest : List Value} {x y : Int64} (hd : decode cc pc = .ok (.land, 1))  : Jmp p l e R s m args below meth c H locs cells slots Q nL pc lv (.long y :: .long x :: rest) (pc + 1) lv (.long (x &&& y) :: rest) := by
  intro kk ls hl
  exact lv_land hx hb hd (kk ls hl)
theorem pj_lor (hx : p.tables.exec = Jvm.exec) (hb : c.code = cc) {nL pc : Nat} {lv : LV} {rest : List Value} {x y : Int64} (hd : decode cc pc = .ok (.lor, 1))  : Jmp p l e R s m args below meth c H locs cells slots Q nL pc lv (.long y :: .long x :: rest) (pc + 1) lv (.long (x ||| y) :: rest) := by
  intro kk ls hl
  exact lv_lor hx hb hd (kk ls hl)
theorem pj_lxor (hx : p.tables.exec = Jvm.exec) (hb : c.code = cc) {nL pc : Nat} {lv : LV} {rest : List Value} {x y : Int64} (hd : decode cc pc = .ok (.lxor, 1))  : Jmp p l e R s m args below meth c H locs cells slots Q nL pc lv (.long y :: .long x :: rest) (pc + 1) lv (.long (x ^^^ y) :: rest) := by
  intro kk ls hl
  exact lv_lxor hx hb hd (kk ls hl)
theorem pj_ineg (hx : p.tables.exec = Jvm.exec) (hb : c.code = cc) {nL pc : Nat} {lv : LV} {rest : List Value} {x : Int32} (hd : decode cc pc = .ok (.ineg, 1))  : Jmp p l e R s m args below meth c H locs cells slots Q nL pc lv (.int x :: rest) (pc + 1) lv (.int (-x) :: rest) := by
  intro kk ls hl
  exact lv_ineg hx hb hd (kk ls hl)
theorem pj_i2l (hx : p.tables.exec = Jvm.exec) (hb : c.code = cc) {nL pc : Nat} {lv : LV} {rest : List Value} {x : Int32} (hd : decode cc pc = .ok (.i2l, 1))  : Jmp p l e R s m args below meth c H locs cells slots Q nL pc lv (.int x :: rest) (pc + 1) lv (.long x.toInt64 :: rest) := by
  intro kk ls hl
  exact lv_i2l hx hb hd rfl (kk ls hl)
theorem pj_l2i (hx : p.tables.exec = Jvm.exec) (hb : c.code = cc) {nL pc : Nat} {lv : LV} {rest : List Value} {x : Int64} (hd : decode cc pc = .ok (.l2i, 1))  : Jmp p l e R s m args below meth c H locs cells slots Q nL pc lv (.long x :: rest) (pc + 1) lv (.int x.toInt32 :: rest) := by
  intro kk ls hl
  exact lv_l2i hx hb hd rfl (kk ls hl)
theorem pj_dup (hx : p.tables.exec = Jvm.exec) (hb : c.code = cc) {nL pc : Nat} {lv : LV} {rest : List Value} {v : Value} (hd : decode cc pc = .ok (.dup, 1)) (hv : v.category = 1) : Jmp p l e R s m args below meth c H locs cells slots Q nL pc lv (v :: rest) (pc + 1) lv (v :: v :: rest) := by
  intro kk ls hl
  exact lv_dup hx hb hd hv (kk ls hl)
theorem pj_pop (hx : p.tables.exec = Jvm.exec) (hb : c.code = cc) {nL pc : Nat} {lv : LV} {rest : List Value} {v : Value} (hd : decode cc pc = .ok (.pop, 1)) (hv : v.category = 1) : Jmp p l e R s m args below meth c H locs cells slots Q nL pc lv (v :: rest) (pc + 1) lv (rest) := by
  intro kk ls hl
  exact lv_pop hx hb hd hv (kk ls hl)
theorem pj_dup_x1 (hx : p.tables.exec = Jvm.exec) (hb : c.code = cc) {nL pc : Nat} {lv : LV} {rest : List Value} {v w : Value} (hd : decode cc pc = .ok (.dup_x1, 1)) (hv : v.category = 1) (hw : w.category = 1) : Jmp p l e R s m args below meth c H locs cells slots Q nL pc lv (v :: w :: rest) (pc + 1) lv (v :: w :: v :: rest) := by
  intro kk ls hl
  exact lv_dup_x1 hx hb hd hv hw (kk ls hl)
theorem pj_dup_x2 (hx : p.tables.exec = Jvm.exec) (hb : c.code = cc) {nL pc : Nat} {lv : LV} {rest : List Value} {v w u : Value} (hd : decode cc pc = .ok (.dup_x2, 1)) (hv : v.category = 1) (hw : w.category = 1) (hu : u.category = 1) : Jmp p l e R s m args below meth c H locs cells slots Q nL pc lv (v :: w :: u :: rest) (pc + 1) lv (v :: w :: u :: v :: rest) := by
  intro kk ls hl
  exact lv_dup_x2 hx hb hd hv hw hu (kk ls hl)
theorem pj_dup2 (hx : p.tables.exec = Jvm.exec) (hb : c.code = cc) {nL pc : Nat} {lv : LV} {rest : List Value} {v w : Value} (hd : decode cc pc = .ok (.dup2, 1)) (hv : v.category = 1) (hw : w.category = 1) : Jmp p l e R s m args below meth c H locs cells slots Q nL pc lv (v :: w :: rest) (pc + 1) lv (v :: w :: v :: w :: rest) := by
  intro kk ls hl
  exact lv_dup2_11 hx hb hd hv hw (kk ls hl)
theorem pj_goto (hx : p.tables.exec = Jvm.exec) (hb : c.code = cc) {nL pc : Nat} {lv : LV} {rest : List Value} {o : Int} {t : Nat} (hd : decode cc pc = .ok (.goto o, 3)) (ht : (pc : Int) + o = (t : Int)) : Jmp p l e R s m args below meth c H locs cells slots Q nL pc lv (rest) t lv (rest) := by
  intro kk ls hl
  exact lv_goto hx hb hd ht (kk ls hl)
set_option maxHeartbeats 8000000 in
theorem px_ok (hx : p.tables.exec = Jvm.exec) (hb : c.code = cc) {nL pc len : Nat} {i : Instr} {c0 : Int32} {ρ : Type} {lv : LV} {st : List Value} {k : LV → List Value → Option ρ} {r : ρ} (hd : decode cc pc = .ok (i, len)) (hp : pln pc i len c0 = true) (h : px i c0 lv st k = some r) :
    ∃ lv2 st2, k lv2 st2 = some r ∧ Jmp p l e R s m args below meth c H locs cells slots Q nL pc lv st (nx pc i len) lv2 st2 := by
  unfold px at h
  split at h
  · have hl1 : len = 1 := by simpa [pln] using hp
    subst hl1
    obtain ⟨v, h1, h2⟩ := lgt_spec _ _ h
    split at h2
    · exact ⟨_, _, h2, pj_aload_n hx hb hd h1⟩
    · exact ⟨_, _, h2, pj_aload_nN hx hb hd h1⟩
    · cases h2
  · have hl1 : len = 2 := by simpa [pln] using hp
    subst hl1
    obtain ⟨v, h1, h2⟩ := lgt_spec _ _ h
    split at h2
    · exact ⟨_, _, h2, pj_aload hx hb hd h1⟩
    · exact ⟨_, _, h2, pj_aloadN hx hb hd h1⟩
    · cases h2
  · have hl1 : len = 1 := by simpa [pln] using hp
    subst hl1
    obtain ⟨v, h1, h2⟩ := lgt_spec _ _ h
    split at h2
    · exact ⟨_, _, h2, pj_iload_n hx hb hd h1⟩
    · cases h2
  · have hl1 : len = 2 := by simpa [pln] using hp
    subst hl1
    obtain ⟨v, h1, h2⟩ := lgt_spec _ _ h
    split at h2
    · exact ⟨_, _, h2, pj_iload hx hb hd h1⟩
    · cases h2
  · have hl1 : len = 1 := by simpa [pln] using hp
    subst hl1
    obtain ⟨v, h1, h2⟩ := lgt_spec _ _ h
    split at h2
    · exact ⟨_, _, h2, pj_lload_n hx hb hd h1⟩
    · cases h2
  · have hl1 : len = 2 := by simpa [pln] using hp
    subst hl1
    obtain ⟨v, h1, h2⟩ := lgt_spec _ _ h
    split at h2
    · exact ⟨_, _, h2, pj_lload hx hb hd h1⟩
    · cases h2
  · have hl1 : len = 1 := by simpa [pln] using hp
    subst hl1
    obtain ⟨h1, h2, h3⟩ := lst2_spec _ _ _ h
    exact ⟨_, _, h1, pj_lstore_n hx hb hd h2 h3⟩
  · have hl1 : len = 2 := by simpa [pln] using hp
    subst hl1
    obtain ⟨h1, h2, h3⟩ := lst2_spec _ _ _ h
    exact ⟨_, _, h1, pj_lstore hx hb hd h2 h3⟩
  · have hl1 : len = 1 := by simpa [pln] using hp
    subst hl1
    obtain ⟨h1, h2, h3⟩ := lst_spec _ _ _ h
    exact ⟨_, _, h1, pj_astore_n hx hb hd h2 h3⟩
  · have hl1 : len = 1 := by simpa [pln] using hp
    subst hl1
    obtain ⟨h1, h2, h3⟩ := lst_spec _ _ _ h
    exact ⟨_, _, h1, pj_astore_nN hx hb hd h2 h3⟩
  · have hl1 : len = 2 := by simpa [pln] using hp
    subst hl1
    obtain ⟨h1, h2, h3⟩ := lst_spec _ _ _ h
    exact ⟨_, _, h1, pj_astore hx hb hd h2 h3⟩
  · have hl1 : len = 2 := by simpa [pln] using hp
    subst hl1
    obtain ⟨h1, h2, h3⟩ := lst_spec _ _ _ h
    exact ⟨_, _, h1, pj_astoreN hx hb hd h2 h3⟩
  · have hl1 : len = 1 := by simpa [pln] using hp
    subst hl1
    obtain ⟨h1, h2, h3⟩ := lst_spec _ _ _ h
    exact ⟨_, _, h1, pj_istore_n hx hb hd h2 h3⟩
  · have hl1 : len = 2 := by simpa [pln] using hp
    subst hl1
    obtain ⟨h1, h2, h3⟩ := lst_spec _ _ _ h
    exact ⟨_, _, h1, pj_istore hx hb hd h2 h3⟩
  · simp only [pln, Bool.and_eq_true, beq_iff_eq, decide_eq_true_eq] at hp
    obtain ⟨rfl, ho⟩ := hp
    obtain ⟨v, h1, h2⟩ := lgt_spec _ _ h
    split at h2
    · obtain ⟨g1, g2, g3⟩ := lst_spec _ _ _ h2
      exact ⟨_, _, g1, pj_iinc hx hb hd ho h1 g2 g3⟩
    · cases h2
  · simp only [pln, Bool.and_eq_true, beq_iff_eq, decide_eq_true_eq] at hp
    obtain ⟨rfl, ho⟩ := hp
    exact ⟨_, _, h, pj_iconst hx hb hd ho⟩
  · simp only [pln, Bool.and_eq_true, beq_iff_eq, decide_eq_true_eq] at hp
    obtain ⟨rfl, ho⟩ := hp
    exact ⟨_, _, h, pj_bipush hx hb hd ho⟩
  · simp only [pln, Bool.and_eq_true, beq_iff_eq, decide_eq_true_eq] at hp
    obtain ⟨rfl, ho⟩ := hp
    exact ⟨_, _, h, pj_sipush hx hb hd ho⟩
  · have hl1 : len = 1 := by simpa [pln] using hp
    subst hl1
    exact ⟨_, _, h, pj_aconst_null hx hb hd⟩
  · have hl1 : len = 1 := by simpa [pln] using hp
    subst hl1
    exact ⟨_, _, h, pj_iadd hx hb hd⟩
  · have hl1 : len = 1 := by simpa [pln] using hp
    subst hl1
    exact ⟨_, _, h, pj_isub hx hb hd⟩
  · have hl1 : len = 1 := by simpa [pln] using hp
    subst hl1
    exact ⟨_, _, h, pj_imul hx hb hd⟩
  · have hl1 : len = 1 := by simpa [pln] using hp
    subst hl1
    exact ⟨_, _, h, pj_iand hx hb hd⟩
  · have hl1 : len = 1 := by simpa [pln] using hp
    subst hl1
    exact ⟨_, _, h, pj_ior hx hb hd⟩
  · have hl1 : len = 1 := by simpa [pln] using hp
    subst hl1
    exact ⟨_, _, h, pj_ixor hx hb hd⟩
  · have hl1 : len = 1 := by simpa [pln] using hp
    subst hl1
    exact ⟨_, _, h, pj_ishl hx hb hd⟩
  · have hl1 : len = 1 := by simpa [pln] using hp
    subst hl1
    exact ⟨_, _, h, pj_ishr hx hb hd⟩
  · have hl1 : len = 1 := by simpa [pln] using hp
    subst hl1
    exact ⟨_, _, h, pj_iushr hx hb hd⟩
  · have hl1 : len = 1 := by simpa [pln] using hp
    subst hl1
    exact ⟨_, _, h, pj_ladd hx hb hd⟩
  · have hl1 : len = 1 := by simpa [pln] using hp
    subst hl1
    exact ⟨_, _, h, pj_lsub hx hb hd⟩
  · have hl1 : len = 1 := by simpa [pln] using hp
    subst hl1
    exact ⟨_, _, h, pj_lmul hx hb hd⟩
  · have hl1 : len = 1 := by simpa [pln] using hp
    subst hl1
    exact ⟨_, _, h, pj_land hx hb hd⟩
  · have hl1 : len = 1 := by simpa [pln] using hp
    subst hl1
    exact ⟨_, _, h, pj_lor hx hb hd⟩
  · have hl1 : len = 1 := by simpa [pln] using hp
    subst hl1
    exact ⟨_, _, h, pj_lxor hx hb hd⟩
  · have hl1 : len = 1 := by simpa [pln] using hp
    subst hl1
    exact ⟨_, _, h, pj_ineg hx hb hd⟩
  · have hl1 : len = 1 := by simpa [pln] using hp
    subst hl1
    exact ⟨_, _, h, pj_i2l hx hb hd⟩
  · have hl1 : len = 1 := by simpa [pln] using hp
    subst hl1
    exact ⟨_, _, h, pj_l2i hx hb hd⟩
  · have hl1 : len = 1 := by simpa [pln] using hp
    subst hl1
    exact ⟨_, _, h, pj_dup hx hb hd rfl⟩
  · have hl1 : len = 1 := by simpa [pln] using hp
    subst hl1
    exact ⟨_, _, h, pj_dup hx hb hd rfl⟩
  · have hl1 : len = 1 := by simpa [pln] using hp
    subst hl1
    exact ⟨_, _, h, pj_dup hx hb hd rfl⟩
  · have hl1 : len = 1 := by simpa [pln] using hp
    subst hl1
    exact ⟨_, _, h, pj_pop hx hb hd rfl⟩
  · have hl1 : len = 1 := by simpa [pln] using hp
    subst hl1
    exact ⟨_, _, h, pj_pop hx hb hd rfl⟩
  · have hl1 : len = 1 := by simpa [pln] using hp
    subst hl1
    exact ⟨_, _, h, pj_pop hx hb hd rfl⟩
  · have hl1 : len = 1 := by simpa [pln] using hp
    subst hl1
    exact ⟨_, _, h, pj_dup_x1 hx hb hd rfl rfl⟩
  · have hl1 : len = 1 := by simpa [pln] using hp
    subst hl1
    exact ⟨_, _, h, pj_dup_x1 hx hb hd rfl rfl⟩
  · have hl1 : len = 1 := by simpa [pln] using hp
    subst hl1
    exact ⟨_, _, h, pj_dup_x2 hx hb hd rfl rfl rfl⟩
  · have hl1 : len = 1 := by simpa [pln] using hp
    subst hl1
    exact ⟨_, _, h, pj_dup2 hx hb hd rfl rfl⟩
  · simp only [pln, Bool.and_eq_true, beq_iff_eq, decide_eq_true_eq] at hp
    obtain ⟨rfl, ho⟩ := hp
    exact ⟨_, _, h, pj_goto hx hb hd (Int.toNat_of_nonneg ho).symm⟩
  · cases h
theorem pxs_ok (hx : p.tables.exec = Jvm.exec) (hb : c.code = cc) {nL : Nat} {ρ : Type} {k : LV → List Value → Option ρ} {r : ρ} {pe : Nat} : ∀ (is : List (Instr × Nat × Int32)) (pc : Nat) (lv : LV) (st : List Value), dsq cc pc is pe = true → pxs is lv st k = some r →
    ∃ lv2 st2, k lv2 st2 = some r ∧ Jmp p l e R s m args below meth c H locs cells slots Q nL pc lv st pe lv2 st2 := by
  intro is
  induction is with
  | nil =>
    intro pc lv st hd h
    have hpe : pc = pe := by simpa [dsq] using hd
    subst hpe
    exact ⟨lv, st, h, fun kk => kk⟩
  | cons q is ih =>
    obtain ⟨i, len, c0⟩ := q
    intro pc lv st hd h
    simp only [dsq, Bool.and_eq_true, decide_eq_true_eq] at hd
    obtain ⟨h1, h2, h3⟩ := hd
    obtain ⟨lv1, st1, g1, g2⟩ := px_ok (p := p) (l := l) (e := e) (R := R) (s := s) (m := m) (args := args) (below := below) (meth := meth) (H := H) (locs := locs) (cells := cells) (slots := slots) (Q := Q) (nL := nL) hx hb h1 h2 h
    obtain ⟨lv2, st2, f1, f2⟩ := ih _ lv1 st1 h3 g1
    exact ⟨lv2, st2, f1, fun kk => g2 (f2 kk)⟩
end PX
