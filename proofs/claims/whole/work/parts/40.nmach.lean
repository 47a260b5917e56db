/-! THE REFERENCE: its arrays as functions; the memory is hidden -/
def ln (i : Nat) : Nat := match i with
  | 0 => 6
  | 4 => 67200
  | 8 => 21000
  | 9 => 21000
  | 10 => 21000
  | 12 => 30
  | 13 => 30
  | 14 => 30
  | 15 => 4
  | 16 => 4
  | 17 => 128
  | 18 => 128
  | 19 => 16
  | 20 => 6
  | _ => 4200
abbrev Ar : Type := Nat → Nat → Int32
abbrev Sc : Type := Nat → Int32
def moF (ad : Nat → Nat) (sc : Sc) : List Value := (List.range 21).map (fun i => Value.ref (ad i)) ++ [.int (sc 21), .int (sc 22), .int (sc 23), .int (sc 24), .int (sc 25), .int (sc 26)]
def MoR (M : Mm) (m : Nat) (ad : Nat → Nat) (ar : Ar) (nm : Nat → Int64) (sc : Sc) : Prop := M m = some (eO 9 (moF ad sc)) ∧ (∀ i, i < 21 → i ≠ 1 → M (ad i) = some (aI (ln i) (ar i))) ∧ M (ad 1) = some (aJ 4200 nm) ∧ ∀ i j, i < 21 → j < 21 → ad i = ad j → i = j
/-- row i of the arrays becomes f -/
def arR (ar : Ar) (i : Nat) (f : Nat → Int32) : Ar := fun j => if j = i then f else ar j
def scR (sc : Sc) (i : Nat) (x : Int32) : Sc := fun j => if j = i then x else sc j
theorem arR_s {ar : Ar} {i : Nat} {f : Nat → Int32} : arR ar i f i = f := if_pos rfl
theorem arR_n {ar : Ar} {i j : Nat} {f : Nat → Int32} (h : j ≠ i) : arR ar i f j = ar j := if_neg h
theorem scR_s {sc : Sc} {i : Nat} {x : Int32} : scR sc i x i = x := if_pos rfl
theorem scR_n {sc : Sc} {i j : Nat} {x : Int32} (h : j ≠ i) : scR sc i x j = sc j := if_neg h
theorem moF_a {ad : Nat → Nat} {sc : Sc} {j : Nat} (h : j < 21) : (moF ad sc)[j]? = some (.ref (ad j)) := by
  unfold moF
  rw [List.getElem?_append_left (by simp; exact h)]
  simp [h]
theorem moF_set {ad : Nat → Nat} {sc : Sc} {x : Int32} : moF ad (scR sc 21 x) = (moF ad sc).set 21 (.int x) ∧ moF ad (scR sc 22 x) = (moF ad sc).set 22 (.int x) ∧ moF ad (scR sc 23 x) = (moF ad sc).set 23 (.int x) ∧ moF ad (scR sc 24 x) = (moF ad sc).set 24 (.int x) ∧ moF ad (scR sc 25 x) = (moF ad sc).set 25 (.int x) ∧ moF ad (scR sc 26 x) = (moF ad sc).set 26 (.int x) := ⟨rfl, rfl, rfl, rfl, rfl, rfl⟩
/-- as G, over the reference's state -/
def GN (κ : Nat × Nat) (μ : MD) (d m : Nat) (ad : Nat → Nat) (ar : Ar) (nm : Nat → Int64) (sc : Sc) (pc : Nat) (lv : LV) (st : List Value) (Q : Option Value → Ar → (Nat → Int64) → Sc → Prop) : Prop :=
  ∀ M, MoR M m ad ar nm sc → G κ μ d M pc lv st 0 0 (fun v M' => ∃ ar' nm' sc', MoR M' m ad ar' nm' sc' ∧ Q v ar' nm' sc')
section NR
variable {κ : Nat × Nat} {μ ν : MD} {d m : Nat} {ad : Nat → Nat} {ar : Ar} {nm : Nat → Int64} {sc : Sc} {pc : Nat} {lv : LV} {st rest : List Value} {Q : Option Value → Ar → (Nat → Int64) → Sc → Prop}
theorem n_seq {pc' : Nat} {lv' : LV} {st' : List Value} {is : List (Instr × Nat × Int32)} (hs : dsq μ.2.1 pc is pc' = true) (h : pxs is lv st (fun a b => some (a, b)) = some (lv', st')) (kk : GN κ μ d m ad ar nm sc pc' lv' st' Q) : GN κ μ d m ad ar nm sc pc lv st Q := fun M hM => g_seq hs h (kk M hM)
theorem n_mono {Q' : Option Value → Ar → (Nat → Int64) → Sc → Prop} (h : GN κ μ d m ad ar nm sc pc lv st Q) (hQ : ∀ v a n s, Q v a n s → Q' v a n s) : GN κ μ d m ad ar nm sc pc lv st Q' := fun M hM => g_mono (h M hM) (fun v M' ⟨a, n, s, h1, h2⟩ => ⟨a, n, s, h1, hQ v a n s h2⟩)
theorem n_geta {idx j : Nat} {ty : FieldType} {fin : Bool} (F : FL μ.1.cls idx 9 j ty fin) (hd : decode μ.2.1 pc = .ok (.getfield idx, 3)) (hj : j < 21) (kk : GN κ μ d m ad ar nm sc (pc + 3) lv (.ref (ad j) :: rest) Q) : GN κ μ d m ad ar nm sc pc lv (.ref m :: rest) Q := fun M hM => g_get F hd hM.1 (moF_a hj) (kk M hM)
theorem n_gets {idx j : Nat} {ty : FieldType} {fin : Bool} {x : Int32} (F : FL μ.1.cls idx 9 j ty fin) (hd : decode μ.2.1 pc = .ok (.getfield idx, 3)) (hj : (moF ad sc)[j]? = some (.int x)) (kk : GN κ μ d m ad ar nm sc (pc + 3) lv (.int x :: rest) Q) : GN κ μ d m ad ar nm sc pc lv (.ref m :: rest) Q := fun M hM => g_get F hd hM.1 hj (kk M hM)
theorem n_puts {idx j : Nat} {x : Int32} (F : FL μ.1.cls idx 9 j .int false) (hd : decode μ.2.1 pc = .ok (.putfield idx, 3)) (hj : vset (moF ad sc) j (.int x) some = some (moF ad (scR sc j x))) (kk : GN κ μ d m ad ar nm (scR sc j x) (pc + 3) lv rest Q) : GN κ μ d m ad ar nm sc pc lv (.int x :: .ref m :: rest) Q := fun M hM => by
  refine g_put F hd hM.1 hj rfl rfl (kk _ ⟨up_s, fun i hi h1 => ?_, ?_, hM.2.2.2⟩)
  · have h := hM.2.1 i hi h1
    rw [up_n (fun e => by rw [e, hM.1] at h; cases h)]; exact h
  · have h := hM.2.2.1
    rw [up_n (fun e => by rw [e, hM.1] at h; cases h)]; exact h
theorem n_ald {i j : Nat} {x : Int32} (hd : decode μ.2.1 pc = .ok (.iaload, 1)) (hi : i < 21 ∧ i ≠ 1) (hx : x = nI j) (hj : j < ln i) (kk : GN κ μ d m ad ar nm sc (pc + 1) lv (.int (ar i j) :: rest) Q) : GN κ μ d m ad ar nm sc pc lv (.int x :: .ref (ad i) :: rest) Q := fun M hM => by
  have hl : ln i ≤ 67200 := by unfold ln; split <;> decide
  subst hx
  have h := kk M hM
  rw [← nI_cl (j := j) (by omega)] at h
  exact g_iald hd (hM.2.1 i hi.1 hi.2) (vp_nI hj (by omega)) (by rw [nI_cl (by omega)] at h ⊢; exact h)
theorem n_ast {i j : Nat} {x y : Int32} (hd : decode μ.2.1 pc = .ok (.iastore, 1)) (hi : i < 21 ∧ i ≠ 1) (hx : x = nI j) (hj : j < ln i) (kk : GN κ μ d m ad (arR ar i (upd (ar i) j y)) nm sc (pc + 1) lv rest Q) : GN κ μ d m ad ar nm sc pc lv (.int y :: .int x :: .ref (ad i) :: rest) Q := fun M hM => by
  have hl : ln i ≤ 67200 := by unfold ln; split <;> decide
  subst hx
  refine g_iast hd (hM.2.1 i hi.1 hi.2) (vp_nI hj (by omega)) ?_
  rw [nI_cl (by omega)]
  refine kk _ ⟨?_, fun i' hi' h1 => ?_, ?_, hM.2.2.2⟩
  · have h := hM.2.1 i hi.1 hi.2
    rw [up_n (fun e => by rw [← e, hM.1] at h; cases h)]; exact hM.1
  · by_cases hii : i' = i
    · subst hii
      rw [up_s, arR_s]
    · rw [arR_n hii, up_n (fun e => hii (hM.2.2.2 i' i hi' hi.1 e))]
      exact hM.2.1 i' hi' h1
  · rw [up_n (fun e => hi.2 (hM.2.2.2 1 i (by decide) hi.1 e).symm)]
    exact hM.2.2.1
theorem n_lald {j : Nat} {x : Int32} (hd : decode μ.2.1 pc = .ok (.laload, 1)) (hx : x = nI j) (hj : j < 4200) (kk : GN κ μ d m ad ar nm sc (pc + 1) lv (.long (nm j) :: rest) Q) : GN κ μ d m ad ar nm sc pc lv (.int x :: .ref (ad 1) :: rest) Q := fun M hM => by
  subst hx
  exact g_lald hd hM.2.2.1 (vp_nI hj (by omega)) (by rw [nI_cl (by omega)]; exact kk M hM)
theorem n_last {j : Nat} {x : Int32} {y : Int64} (hd : decode μ.2.1 pc = .ok (.lastore, 1)) (hx : x = nI j) (hj : j < 4200) (kk : GN κ μ d m ad ar (vp_updL nm j y) sc (pc + 1) lv rest Q) : GN κ μ d m ad ar nm sc pc lv (.long y :: .int x :: .ref (ad 1) :: rest) Q := fun M hM => by
  subst hx
  refine g_last hd hM.2.2.1 (vp_nI hj (by omega)) ?_
  rw [nI_cl (by omega)]
  refine kk _ ⟨?_, fun i hi h1 => ?_, up_s, hM.2.2.2⟩
  · have h := hM.2.2.1
    rw [up_n (fun e => by rw [← e, hM.1] at h; cases h)]; exact hM.1
  · rw [up_n (fun e => h1 (hM.2.2.2 i 1 hi (by decide) e))]
    exact hM.2.1 i hi h1
theorem n_ldc2 {idx : Nat} {v : Int64} (hw : Cond.constantLong μ.1.cls idx v ∈ gW) (hd : decode μ.2.1 pc = .ok (.ldc2_w idx, 3)) (kk : GN κ μ d m ad ar nm sc (pc + 3) lv (.long v :: rest) Q) : GN κ μ d m ad ar nm sc pc lv rest Q := fun M hM => g_ldc2 hw hd (kk M hM)
theorem n_lcmp {x y : Int64} (hd : decode μ.2.1 pc = .ok (.lcmp, 1)) (kk : GN κ μ d m ad ar nm sc (pc + 1) lv (.int (lg_cmp x y) :: rest) Q) : GN κ μ d m ad ar nm sc pc lv (.long y :: .long x :: rest) Q := fun M hM => g_lcmp hd (kk M hM)
theorem n_ldiv {x y : Int64} (hd : decode μ.2.1 pc = .ok (.ldiv, 1)) (hne : ¬ y = 0) (kk : GN κ μ d m ad ar nm sc (pc + 1) lv (.long (x / y) :: rest) Q) : GN κ μ d m ad ar nm sc pc lv (.long y :: .long x :: rest) Q := fun M hM => g_ldiv hd hne (kk M hM)
theorem n_lrem {x y : Int64} (hd : decode μ.2.1 pc = .ok (.lrem, 1)) (hne : ¬ y = 0) (kk : GN κ μ d m ad ar nm sc (pc + 1) lv (.long (x - x / y * y) :: rest) Q) : GN κ μ d m ad ar nm sc pc lv (.long y :: .long x :: rest) Q := fun M hM => g_lrem hd hne (kk M hM)
theorem n_tableOut {dflt lo hi : Int} {offs : Array Int} {len : Nat} {x : Int32} {tgt : Nat} (hd : decode μ.2.1 pc = .ok (.tableswitch dflt lo hi offs, len)) (h : x.toInt < lo ∨ hi < x.toInt) (ht : (pc : Int) + dflt = (tgt : Int)) (kk : GN κ μ d m ad ar nm sc tgt lv rest Q) : GN κ μ d m ad ar nm sc pc lv (.int x :: rest) Q := fun M hM => g_tableOut hd h ht (kk M hM)
theorem n_tableIn {dflt lo hi : Int} {offs : Array Int} {len : Nat} {x : Int32} {off : Int} {tgt : Nat} (hd : decode μ.2.1 pc = .ok (.tableswitch dflt lo hi offs, len)) (h1 : ¬ x.toInt < lo) (h2 : ¬ hi < x.toInt) (ho : offs[(x.toInt - lo).toNat]? = some off) (ht : (pc : Int) + off = (tgt : Int)) (kk : GN κ μ d m ad ar nm sc tgt lv rest Q) : GN κ μ d m ad ar nm sc pc lv (.int x :: rest) Q := fun M hM => g_tableIn hd h1 h2 ho ht (kk M hM)
theorem n_iret {x : Int32} (hret : μ.2.2.2 = some .int) (hd : decode μ.2.1 pc = .ok (.ireturn, 1)) (hq : Q (some (.int x)) ar nm sc) : GN κ μ d m ad ar nm sc pc lv [.int x] Q := fun M hM => g_iret hret hd ⟨ar, nm, sc, hM, hq⟩
theorem n_zret {x : Int32} (hret : μ.2.2.2 = some .boolean) (hn0 : narrow .boolean (.int x) = .int x) (hd : decode μ.2.1 pc = .ok (.ireturn, 1)) (hq : Q (some (.int x)) ar nm sc) : GN κ μ d m ad ar nm sc pc lv [.int x] Q := fun M hM => g_zret hret hn0 hd ⟨ar, nm, sc, hM, hq⟩
theorem n_lret {x : Int64} (hret : μ.2.2.2 = some .long) (hd : decode μ.2.1 pc = .ok (.lreturn, 1)) (hq : Q (some (.long x)) ar nm sc) : GN κ μ d m ad ar nm sc pc lv [.long x] Q := fun M hM => g_lret hret hd ⟨ar, nm, sc, hM, hq⟩
theorem n_vret (hret : μ.2.2.2 = none) (hd : decode μ.2.1 pc = .ok (.return_, 1)) (hq : Q none ar nm sc) : GN κ μ d m ad ar nm sc pc lv [] Q := fun M hM => g_vret hret hd ⟨ar, nm, sc, hM, hq⟩
theorem n_invV {idx np : Nat} {As : List Value} {Q1 : Option Value → Ar → (Nat → Int64) → Sc → Prop} (L : MV μ.1.cls idx 9 ν np) (hd : decode μ.2.1 pc = .ok (.invokevirtual idx, 3)) (hst : tk np st [] (fun a b => some (a, b)) = some (As, .ref m :: rest)) (hok : c1s As = true ∧ As.length + 1 ≤ ν.2.2.1 ∧ (rest.map fun v => v.category).sum ≤ 8)
    (hc : GN κ ν d m ad ar nm sc 0 (ent (.ref m :: As) ν.2.2.1) [] Q1) (kk : ∀ v ar' nm' sc', Q1 v ar' nm' sc' → GN κ μ (d + 1) m ad ar' nm' sc' (pc + 3) lv (v.toList ++ rest) Q) : GN κ μ (d + 1) m ad ar nm sc pc lv st Q := fun M hM => g_invV L hd hst hok hM.1 (hc M hM) (Nat.le_of_eq (Nat.zero_add _)) (Nat.le_of_eq (Nat.zero_add _)) (fun v M' ⟨a, n, s, h1, h2⟩ => kk v a n s h2 M' h1)
theorem n_invS {idx np : Nat} {As : List Value} {P : Option Value → Prop} (L : MS μ.1.cls idx ν np) (hd : decode μ.2.1 pc = .ok (.invokestatic idx, 3)) (hst : tk np st [] (fun a b => some (a, b)) = some (As, rest)) (hok : c1s As = true ∧ As.length ≤ ν.2.2.1 ∧ (rest.map fun v => v.category).sum ≤ 8)
    (hc : ∀ M, G κ ν d M 0 (ent As ν.2.2.1) [] 0 0 (fun v M' => P v ∧ M' = M)) (kk : ∀ v, P v → GN κ μ (d + 1) m ad ar nm sc (pc + 3) lv (v.toList ++ rest) Q) : GN κ μ (d + 1) m ad ar nm sc pc lv st Q := fun M hM => g_invS L hd hst hok (hc M) (Nat.le_of_eq (Nat.zero_add _)) (Nat.le_of_eq (Nat.zero_add _)) (fun v M' ⟨h1, h2⟩ => by subst h2; exact kk v h1 M' hM)
theorem n_if_eq {x : Int32} {off : Int} {tgt : Nat} (hd : decode μ.2.1 pc = .ok (.ifCond .eq off, 3)) (ht : (pc : Int) + off = (tgt : Int)) (kt : x = 0 → GN κ μ d m ad ar nm sc tgt lv rest Q) (kf : ¬ x = 0 → GN κ μ d m ad ar nm sc (pc + 3) lv rest Q) : GN κ μ d m ad ar nm sc pc lv (.int x :: rest) Q := fun M hM => g_if_eq hd ht (fun h => kt h M hM) (fun h => kf h M hM)
theorem n_icmp_eq {x y : Int32} {off : Int} {tgt : Nat} (hd : decode μ.2.1 pc = .ok (.if_icmp .eq off, 3)) (ht : (pc : Int) + off = (tgt : Int)) (kt : x = y → GN κ μ d m ad ar nm sc tgt lv rest Q) (kf : ¬ x = y → GN κ μ d m ad ar nm sc (pc + 3) lv rest Q) : GN κ μ d m ad ar nm sc pc lv (.int y :: .int x :: rest) Q := fun M hM => g_icmp_eq hd ht (fun h => kt h M hM) (fun h => kf h M hM)
theorem n_if_ne {x : Int32} {off : Int} {tgt : Nat} (hd : decode μ.2.1 pc = .ok (.ifCond .ne off, 3)) (ht : (pc : Int) + off = (tgt : Int)) (kt : ¬ x = 0 → GN κ μ d m ad ar nm sc tgt lv rest Q) (kf : x = 0 → GN κ μ d m ad ar nm sc (pc + 3) lv rest Q) : GN κ μ d m ad ar nm sc pc lv (.int x :: rest) Q := fun M hM => g_if_ne hd ht (fun h => kt h M hM) (fun h => kf h M hM)
theorem n_icmp_ne {x y : Int32} {off : Int} {tgt : Nat} (hd : decode μ.2.1 pc = .ok (.if_icmp .ne off, 3)) (ht : (pc : Int) + off = (tgt : Int)) (kt : ¬ x = y → GN κ μ d m ad ar nm sc tgt lv rest Q) (kf : x = y → GN κ μ d m ad ar nm sc (pc + 3) lv rest Q) : GN κ μ d m ad ar nm sc pc lv (.int y :: .int x :: rest) Q := fun M hM => g_icmp_ne hd ht (fun h => kt h M hM) (fun h => kf h M hM)
theorem n_if_lt {x : Int32} {off : Int} {tgt : Nat} (hd : decode μ.2.1 pc = .ok (.ifCond .lt off, 3)) (ht : (pc : Int) + off = (tgt : Int)) (kt : x < 0 → GN κ μ d m ad ar nm sc tgt lv rest Q) (kf : ¬ x < 0 → GN κ μ d m ad ar nm sc (pc + 3) lv rest Q) : GN κ μ d m ad ar nm sc pc lv (.int x :: rest) Q := fun M hM => g_if_lt hd ht (fun h => kt h M hM) (fun h => kf h M hM)
theorem n_icmp_lt {x y : Int32} {off : Int} {tgt : Nat} (hd : decode μ.2.1 pc = .ok (.if_icmp .lt off, 3)) (ht : (pc : Int) + off = (tgt : Int)) (kt : x < y → GN κ μ d m ad ar nm sc tgt lv rest Q) (kf : ¬ x < y → GN κ μ d m ad ar nm sc (pc + 3) lv rest Q) : GN κ μ d m ad ar nm sc pc lv (.int y :: .int x :: rest) Q := fun M hM => g_icmp_lt hd ht (fun h => kt h M hM) (fun h => kf h M hM)
theorem n_if_ge {x : Int32} {off : Int} {tgt : Nat} (hd : decode μ.2.1 pc = .ok (.ifCond .ge off, 3)) (ht : (pc : Int) + off = (tgt : Int)) (kt : 0 ≤ x → GN κ μ d m ad ar nm sc tgt lv rest Q) (kf : ¬ 0 ≤ x → GN κ μ d m ad ar nm sc (pc + 3) lv rest Q) : GN κ μ d m ad ar nm sc pc lv (.int x :: rest) Q := fun M hM => g_if_ge hd ht (fun h => kt h M hM) (fun h => kf h M hM)
theorem n_icmp_ge {x y : Int32} {off : Int} {tgt : Nat} (hd : decode μ.2.1 pc = .ok (.if_icmp .ge off, 3)) (ht : (pc : Int) + off = (tgt : Int)) (kt : y ≤ x → GN κ μ d m ad ar nm sc tgt lv rest Q) (kf : ¬ y ≤ x → GN κ μ d m ad ar nm sc (pc + 3) lv rest Q) : GN κ μ d m ad ar nm sc pc lv (.int y :: .int x :: rest) Q := fun M hM => g_icmp_ge hd ht (fun h => kt h M hM) (fun h => kf h M hM)
theorem n_if_gt {x : Int32} {off : Int} {tgt : Nat} (hd : decode μ.2.1 pc = .ok (.ifCond .gt off, 3)) (ht : (pc : Int) + off = (tgt : Int)) (kt : 0 < x → GN κ μ d m ad ar nm sc tgt lv rest Q) (kf : ¬ 0 < x → GN κ μ d m ad ar nm sc (pc + 3) lv rest Q) : GN κ μ d m ad ar nm sc pc lv (.int x :: rest) Q := fun M hM => g_if_gt hd ht (fun h => kt h M hM) (fun h => kf h M hM)
theorem n_icmp_gt {x y : Int32} {off : Int} {tgt : Nat} (hd : decode μ.2.1 pc = .ok (.if_icmp .gt off, 3)) (ht : (pc : Int) + off = (tgt : Int)) (kt : y < x → GN κ μ d m ad ar nm sc tgt lv rest Q) (kf : ¬ y < x → GN κ μ d m ad ar nm sc (pc + 3) lv rest Q) : GN κ μ d m ad ar nm sc pc lv (.int y :: .int x :: rest) Q := fun M hM => g_icmp_gt hd ht (fun h => kt h M hM) (fun h => kf h M hM)
theorem n_if_le {x : Int32} {off : Int} {tgt : Nat} (hd : decode μ.2.1 pc = .ok (.ifCond .le off, 3)) (ht : (pc : Int) + off = (tgt : Int)) (kt : x ≤ 0 → GN κ μ d m ad ar nm sc tgt lv rest Q) (kf : ¬ x ≤ 0 → GN κ μ d m ad ar nm sc (pc + 3) lv rest Q) : GN κ μ d m ad ar nm sc pc lv (.int x :: rest) Q := fun M hM => g_if_le hd ht (fun h => kt h M hM) (fun h => kf h M hM)
theorem n_icmp_le {x y : Int32} {off : Int} {tgt : Nat} (hd : decode μ.2.1 pc = .ok (.if_icmp .le off, 3)) (ht : (pc : Int) + off = (tgt : Int)) (kt : x ≤ y → GN κ μ d m ad ar nm sc tgt lv rest Q) (kf : ¬ x ≤ y → GN κ μ d m ad ar nm sc (pc + 3) lv rest Q) : GN κ μ d m ad ar nm sc pc lv (.int y :: .int x :: rest) Q := fun M hM => g_icmp_le hd ht (fun h => kt h M hM) (fun h => kf h M hM)
end NR
