/-! jobs: the class keeps them sorted, the reference as they came -/
def insJ (x : Wt) : List Wt → List Wt
  | [] => [x]
  | e :: l => if gob x e = true then x :: e :: l else e :: insJ x l
def isrt (l : List Wt) : List Wt := l.foldl (fun acc x => insJ x acc) []
theorem isrt_snoc {l : List Wt} {x : Wt} : isrt (l ++ [x]) = insJ x (isrt l) := by
  unfold isrt
  rw [List.foldl_append]; rfl
theorem FI_cons {α : Type} {p : α → Bool} {e : α} {l : List α} {o : Option Nat} (h : FI p (e :: l) o) : (p e = true ∧ o = some 0) ∨ (p e = false ∧ ∃ o', FI p l o' ∧ o = o'.map (· + 1)) := by
  obtain _ | i := o
  · exact Or.inr ⟨h 0 e rfl, none, fun j y hy => h (j + 1) y hy, rfl⟩
  · obtain ⟨x, h1, h2, h3⟩ := h
    obtain _ | i := i
    · cases h1
      exact Or.inl ⟨h2, rfl⟩
    · exact Or.inr ⟨h3 0 e (Nat.succ_pos _) rfl, some i, ⟨x, h1, h2, fun j y hj hy => h3 (j + 1) y (by omega) hy⟩, rfl⟩
theorem ins_A {x : Wt} : ∀ {l : List Wt} {o : Option Nat}, FI (fun e : Wt => gob x e) l o → insA l (o.getD l.length) x = insJ x l := by
  intro l
  induction l with
  | nil =>
    intro o _
    obtain _ | i := o
    · rfl
    · simp [insA, insJ]
  | cons e l ih =>
    intro o h
    rcases FI_cons h with ⟨h1, rfl⟩ | ⟨h1, o', h2, rfl⟩
    · show x :: e :: l = insJ x (e :: l)
      unfold insJ
      rw [if_pos h1]
    · have := ih h2
      unfold insJ
      rw [if_neg (by rw [h1]; decide), ← this]
      obtain _ | i := o' <;> rfl
theorem insJ_len {x : Wt} {l : List Wt} : (insJ x l).length = l.length + 1 := by
  induction l with
  | nil => rfl
  | cons e l ih =>
    unfold insJ
    split
    · rfl
    · rw [List.length_cons, ih]; rfl
theorem isrt_len : ∀ l : List Wt, (isrt l).length = l.length := by
  refine snocRec rfl ?_
  intro l x ih
  rw [isrt_snoc, insJ_len, ih, List.length_append]; rfl
theorem insJ_mem {x y : Wt} {l : List Wt} : y ∈ insJ x l ↔ y = x ∨ y ∈ l := by
  induction l with
  | nil => simp [insJ]
  | cons e l ih =>
    unfold insJ
    split
    · simp
    · rw [List.mem_cons, ih, List.mem_cons]
      constructor
      · rintro (h | h | h)
        · exact Or.inr (Or.inl h)
        · exact Or.inl h
        · exact Or.inr (Or.inr h)
      · rintro (h | h | h)
        · exact Or.inr (Or.inl h)
        · exact Or.inl h
        · exact Or.inr (Or.inr h)
theorem isrt_mem {y : Wt} : ∀ l : List Wt, y ∈ isrt l ↔ y ∈ l := by
  refine snocRec (by simp [isrt]) ?_
  intro l x ih
  rw [isrt_snoc, insJ_mem, ih, List.mem_append, List.mem_singleton]
  exact Or.comm
def SJ (l : List Wt) : Prop := l.Pairwise (fun a b => ¬ gob b a = true)
theorem insJ_sj {x : Wt} {l : List Wt} (h : SJ l) : SJ (insJ x l) := by
  induction l with
  | nil => exact List.pairwise_singleton _ _
  | cons e l ih =>
    obtain ⟨h1, h2⟩ := List.pairwise_cons.mp h
    unfold insJ
    split
    · rename_i hg
      refine List.pairwise_cons.mpr ⟨fun y hy => ?_, h⟩
      rcases List.mem_cons.mp hy with rfl | hy
      · rw [gobI] at hg ⊢; omega
      · have := h1 y hy
        rw [gobI] at hg this ⊢; omega
    · rename_i hg
      refine List.pairwise_cons.mpr ⟨fun y hy => ?_, ih h2⟩
      rcases insJ_mem.mp hy with rfl | hy
      · exact hg
      · exact h1 y hy
theorem isrt_sj : ∀ l : List Wt, SJ (isrt l) := by
  refine snocRec List.Pairwise.nil ?_
  intro l x ih
  rw [isrt_snoc]
  exact insJ_sj ih
theorem insJ_head {x : Wt} {l : List Wt} (h : ∀ y, y ∈ l → gob x y = true) : insJ x l = x :: l := by
  cases l with
  | nil => rfl
  | cons e l =>
    unfold insJ
    rw [if_pos (h e List.mem_cons_self)]
theorem insJ_filter {x : Wt} {p : Wt → Bool} {l : List Wt} (h : SJ l) : (insJ x l).filter p = if p x = true then insJ x (l.filter p) else l.filter p := by
  induction l with
  | nil =>
    by_cases hp : p x = true
    · rw [if_pos hp]; simp [insJ, hp]
    · rw [if_neg hp]; simp [insJ, hp]
  | cons e l ih =>
    obtain ⟨h1, h2⟩ := List.pairwise_cons.mp h
    have hih := ih h2
    by_cases hg : gob x e = true
    · have e1 : insJ x (e :: l) = x :: e :: l := by unfold insJ; rw [if_pos hg]
      rw [e1]
      by_cases hp : p x = true
      · rw [if_pos hp, List.filter_cons_of_pos hp]
        refine (insJ_head (fun y hy => ?_)).symm
        rcases List.mem_cons.mp (List.mem_filter.mp hy).1 with rfl | hy
        · exact hg
        · have := h1 y hy
          rw [gobI] at hg this ⊢; omega
      · rw [if_neg hp, List.filter_cons_of_neg hp]
    · have e1 : insJ x (e :: l) = e :: insJ x l := by
        show (if gob x e = true then x :: e :: l else e :: insJ x l) = _
        rw [if_neg hg]
      rw [e1]
      by_cases hpe : p e = true
      · rw [List.filter_cons_of_pos hpe, List.filter_cons_of_pos hpe, hih]
        by_cases hp : p x = true
        · rw [if_pos hp, if_pos hp]
          show _ = (if gob x e = true then x :: e :: l.filter p else e :: insJ x (l.filter p))
          rw [if_neg hg]
        · rw [if_neg hp, if_neg hp]
      · rw [List.filter_cons_of_neg hpe, List.filter_cons_of_neg hpe, hih]
theorem isrt_filter {p : Wt → Bool} : ∀ l : List Wt, isrt (l.filter p) = (isrt l).filter p := by
  refine snocRec rfl ?_
  intro l x ih
  rw [isrt_snoc, insJ_filter (isrt_sj l), List.filter_append]
  by_cases hp : p x = true
  · rw [if_pos hp, show [x].filter p = [x] by simp [hp], isrt_snoc, ih]
  · rw [if_neg hp, show [x].filter p = [] by simp [hp], List.append_nil, ih]
theorem foldl_head {m : Wt} : ∀ (D S : List Wt), (∀ d, d ∈ D → ¬ gob d m = true) → D.foldl (fun acc x => insJ x acc) (m :: S) = m :: D.foldl (fun acc x => insJ x acc) S := by
  intro D
  induction D with
  | nil => intro S _; rfl
  | cons d D ih =>
    intro S h
    show D.foldl (fun acc x => insJ x acc) (insJ d (m :: S)) = m :: D.foldl (fun acc x => insJ x acc) (insJ d S)
    have e1 : insJ d (m :: S) = m :: insJ d S := by
      show (if gob d m = true then d :: m :: S else m :: insJ d S) = _
      rw [if_neg (h d List.mem_cons_self)]
    rw [e1]
    exact ih _ (fun x hx => h x (List.mem_cons_of_mem _ hx))
theorem isrt_min {J : List Wt} {b : Nat} {x : Wt} (hB : BestJ J J.length (some b)) (hx : J[b]? = some x) : isrt J = x :: isrt (J.eraseIdx b) := by
  obtain ⟨h1, -, h3, h4⟩ := hB
  have hbl : b < J.length := h1
  have hJ : J = J.take b ++ x :: J.drop (b + 1) := by
    have := List.drop_eq_getElem_cons hbl
    have e : J[b] = x := (List.getElem?_eq_some_iff.mp hx).2
    rw [e] at this
    rw [← this, List.take_append_drop]
  have hA : ∀ a, a ∈ J.take b → gob x a = true := by
    intro a ha
    obtain ⟨k, hk⟩ := List.getElem?_of_mem ha
    rw [List.getElem?_take] at hk
    split at hk
    · rename_i hkb
      obtain ⟨y, z, e1, e2, e3⟩ := h4 k hkb (by show k < J.length; omega)
      rw [hx] at e1; cases e1
      rw [hk] at e2; cases e2
      exact e3
    · cases hk
  have hD : ∀ a, a ∈ J.drop (b + 1) → ¬ gob a x = true := by
    intro a ha hg
    obtain ⟨k, hk⟩ := List.getElem?_of_mem ha
    rw [List.getElem?_drop] at hk
    have hkl := (List.getElem?_eq_some_iff.mp hk).1
    exact h3 (b + 1 + k) hkl hkl ⟨a, x, hk, hx, hg⟩
  have e1 : isrt J = (J.drop (b + 1)).foldl (fun acc x => insJ x acc) (insJ x (isrt (J.take b))) := by
    conv => lhs; rw [hJ]
    unfold isrt
    rw [List.foldl_append]; rfl
  rw [e1, insJ_head (fun y hy => hA y ((isrt_mem _).mp hy)), foldl_head _ _ hD, List.eraseIdx_eq_take_drop_succ]
  unfold isrt
  rw [List.foldl_append]
theorem isrt_none {J : List Wt} (hB : BestJ J J.length none) : J = [] := by
  cases J with
  | nil => rfl
  | cons a J => exact absurd (show 0 < (a :: J).length from Nat.succ_pos _) (hB 0 (Nat.succ_pos _))
theorem TkR_ph {tg : Int32} (htg : tg.toInt ≤ 50000) : ∀ (k : Nat) (s s' : TS), TkR tg k s s' → (∀ (i : Nat) (t : Th), s.1[i]? = some t → okT t) → sm phT s'.1 + k ≤ sm phT s.1 := by
  intro k
  induction k with
  | zero => rintro s s' ⟨rfl, -⟩ _; exact Nat.le_refl _
  | succ k ih =>
    rintro s s' ⟨i, t, hm, ht, hle, hR⟩ hok
    obtain ⟨-, t2, ht2, hl, -⟩ := hm
    rw [ht] at ht2; cases ht2
    have hule : t.2.2.2.1.toInt ≤ 50000 := Int.le_trans (Int32.le_iff_toInt_le.mp hle) htg
    obtain ⟨e1, e2, -⟩ := endT_ok (hok i t ht) hl hule
    have s1 := sm_set (f := phT) (y := endT t.2.2.2.1 t) ht
    have := ih _ _ hR (fun j tj hj => by
      have hj : (s.1.set i (endT t.2.2.2.1 t))[j]? = some tj := hj
      by_cases hji : j = i
      · subst hji
        rw [List.getElem?_set_self (List.getElem?_eq_some_iff.mp ht).1] at hj
        cases hj
        exact e1
      · rw [List.getElem?_set_ne (Ne.symm hji)] at hj
        exact hok j tj hj)
    have h3 : sm phT (tkS i t s).1 = sm phT (s.1.set i (endT t.2.2.2.1 t)) := rfl
    omega
