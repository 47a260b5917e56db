/-! the reference: changes are told -/
def fU (f : Int32 → Th) (x : Int32) (t : Th) : Int32 → Th := fun y => if y = x then t else f y
theorem fU_s {f : Int32 → Th} {x : Int32} {t : Th} : fU f x t x = t := if_pos rfl
theorem fU_n {f : Int32 → Th} {x y : Int32} {t : Th} (h : y ≠ x) : fU f x t y = f y := if_neg h
section MBs
variable {g17 g18 g19 g17' g18' g19' : Nat → Int32} {K : Nat} {ls : Nat → List Nat} {B : Nat → List (Int32 × Int32)} {c : Nat} {N' : List (Int32 × Int32)} {x : Int32 × Int32}
theorem MB.set (h : MB g17 g18 g19 K ls B) (ha : ∀ c', c' ≠ c → c' < 16 → g19' c' = g19 c' ∧ ∀ j, j < 8 → g17' (8 * c' + j) = g17 (8 * c' + j) ∧ g18' (8 * c' + j) = g18 (8 * c' + j)) (hn : g19' c = nI N'.length ∧ N'.length ≤ 8 ∧ RP (fun j => g17' (8 * c + j)) (fun v w => Nx K ls v w.1) N' ∧ RP (fun j => g18' (8 * c + j)) (fun v w => v = w.2) N') : MB g17' g18' g19' K ls (fun i => if i = c then N' else B i) := by
  intro i hi
  by_cases hic : i = c
  · subst hic
    simp only [↓reduceIte]
    exact hn
  · obtain ⟨b1, b2, b3, b4⟩ := h i hi
    obtain ⟨a1, a2⟩ := ha i hic hi
    simp only [if_neg hic]
    exact ⟨a1.trans b1, b2, b3.keep (fun j hj => (a2 j (by omega)).1), b4.keep (fun j hj => (a2 j (by omega)).2)⟩
theorem MB.drop (h : MB g17 g18 g19 K ls B) (hc : c < 16) (h1 : 1 ≤ (B c).length) : MB (sh g17 (8 * c) (8 * c + ((B c).length - 1))) (sh g18 (8 * c) (8 * c + ((B c).length - 1))) (upd g19 c (nI ((B c).length - 1))) K ls (fun i => if i = c then (B c).eraseIdx 0 else B i) := by
  obtain ⟨b1, b2, b3, b4⟩ := h c hc
  refine h.set (fun c' hn hc' => ⟨pk_un hn, fun j hj => ⟨sh_out (by omega), sh_out (by omega)⟩⟩) ⟨?_, ?_, b3.erase (by omega) (fun j hj => absurd hj (Nat.not_lt_zero _)) (fun j _ hj => sh_in (by omega) (by omega)), b4.erase (by omega) (fun j hj => absurd hj (Nat.not_lt_zero _)) (fun j _ hj => sh_in (by omega) (by omega))⟩
  · rw [pk_us, List.length_eraseIdx_of_lt (by omega)]
  · rw [List.length_eraseIdx_of_lt (by omega)]; omega
theorem MB.push {v : Int32} (h : MB g17 g18 g19 K ls B) (hc : c < 16) (h1 : (B c).length < 8) (hv : Nx K ls v x.1) : MB (upd g17 (8 * c + (B c).length) v) (upd g18 (8 * c + (B c).length) x.2) (upd g19 c (nI ((B c).length + 1))) K ls (fun i => if i = c then B c ++ [x] else B i) := by
  obtain ⟨b1, b2, b3, b4⟩ := h c hc
  refine h.set (fun c' hn hc' => ⟨pk_un hn, fun j hj => ⟨pk_un (by omega), pk_un (by omega)⟩⟩) ⟨?_, ?_, b3.snoc (fun j hj => pk_un (by omega)) (by rw [pk_us]; exact hv), b4.snoc (fun j hj => pk_un (by omega)) (by rw [pk_us])⟩
  · rw [pk_us]; simp
  · simp; omega
end MBs
theorem arS_4 {ar : Ar} {a b c e b' c' e' : Nat → Int32} : arS (arS ar [(2, a), (17, b), (18, c), (19, e)]) [(19, e'), (17, b'), (18, c')] = arS ar [(2, a), (17, b'), (18, c'), (19, e')] := by
  funext i
  simp only [arS]
  by_cases h1 : i = 2 <;> by_cases h2 : i = 17 <;> by_cases h3 : i = 18 <;> by_cases h4 : i = 19 <;> simp_all
section NH2
variable {κ : Nat × Nat} {d m : Nat} {ad : Nat → Nat} {ar : Ar} {nm : Nat → Int64} {sc : Sc} {K : Nat} {ls : Nat → List Nat} {f : Int32 → Th} {J : List Wt} {C : List (Int32 × Int32)} {B : Nat → List (Int32 × Int32)} {W : List Int32} {tp : List Nat} {nw : Int32}
def BpL (B : Nat → List (Int32 × Int32)) (x : Int32 × Int32) (l : List Nat) : Nat → List (Int32 × Int32) := fun c => if c ∈ l then push8 (B c) x else B c
theorem MT.upd {ar ar' : Ar} {n : Nat} {t' : Th} (h : MT ar K ls f) (hN : MN nm sc K ls) (hn : n < K) (ha : ∀ k, k < K → k ≠ n → Agr ar ar' k) (ht : ThM ar' n t') (h1 : t'.1 = ni (ls n)) : MT ar' K ls (fU f (ni (ls n)) t') := by
  obtain ⟨t1, t2, t3⟩ := h
  obtain ⟨n1, n2, n3, n4⟩ := hN
  refine ⟨fun k hk => ?_, fun x hx => ?_, fun x => ?_⟩
  · by_cases hkn : k = n
    · subst hkn
      rw [fU_s]; exact ht
    · have : ni (ls k) ≠ ni (ls n) := fun e => hkn (n4 k n hk hn (ni_inj (n3 k hk).2.1 (n3 n hn).2.1 (n3 k hk).2.2.1 (n3 n hn).2.2.1 e))
      rw [fU_n this]
      exact (t1 k hk).agr (ha k hk hkn)
  · rw [fU_n (hx n hn)]; exact t2 x hx
  · by_cases hx : x = ni (ls n)
    · rw [hx, fU_s]; exact h1
    · rw [fU_n hx]; exact t3 x
theorem m_change {n : Nat} {kind : Int32} (h : NS ar nm sc K ls f J C B W tp nw) (hn : n < K) : GN κ m_Mo_change (d + 1) m ad ar nm sc 0 [some (.ref m), some (.int (nI n)), some (.int kind), none, none] [] (fun v ar' nm' sc' => v = none ∧ nm' = nm ∧ sc' = sc ∧ NS ar' nm sc K ls (fU f (ni (ls n)) (setCh (f (ni (ls n))))) J C (tellB (f (ni (ls n))).2.2.2.2.2 (ni (ls n), kind) 16 B) W tp nw) := by
  obtain ⟨hN, ht, hj, hc, hb, hw, hp, hnw⟩ := id h
  obtain ⟨n1, n2, n3, n4⟩ := id hN
  obtain ⟨t1, t2, t3⟩ := id ht
  obtain ⟨a1, ⟨wl, a2⟩, a3, a4, a5, a6⟩ := id (t1 n hn)
  have hl := a2.len
  obtain ⟨w1, w2, w3, w4, w5, w6⟩ := id a2
  have hx1 := t3 (ni (ls n))
  generalize hx : ni (ls n) = x at *
  generalize ht : f x = t at *
  have loop : ∀ q i (g17 g18 g19 : Nat → Int32), i + q = wl.length → MB g17 g18 g19 K ls (BpL B (x, kind) (wl.take i)) → ∀ u : Option Value, GN κ m_Mo_change (d + 1) m ad (arS ar [(2, upd (ar 2) n (t.2.2.2.2.1 + 1)), (17, g17), (18, g18), (19, g19)]) nm sc 12 [some (.ref m), some (.int (nI n)), some (.int kind), some (.int (nI i)), u] [] (fun v ar' nm' sc' => v = none ∧ nm' = nm ∧ sc' = sc ∧ ∃ g17 g18 g19, ar' = arS ar [(2, upd (ar 2) n (t.2.2.2.2.1 + 1)), (17, g17), (18, g18), (19, g19)] ∧ MB g17 g18 g19 K ls (BpL B (x, kind) wl)) := by
    intro q
    induction q with
    | zero =>
      intro i g17 g18 g19 hi hB u
      refine n_seq s_Mo_change_12 rfl ?_
      refine n_geta f_Mo_20 d_Mo_change_14 (by decide) ?_
      refine n_seq s_Mo_change_17 rfl ?_
      refine n_aldL d_Mo_change_18 ⟨by decide, by decide⟩ rfl (rfl) ((show n < 4200 by omega)) ?_
      rw [w1]
      refine n_icmp_ge (tgt := 102) d_Mo_change_19 (by decide) (fun hbr => ?_) (fun hbr => absurd hbr (fun h => h (nI_le (show wl.length ≤ i by omega) (by omega))))
      rw [List.take_of_length_le (by omega)] at hB
      exact n_vret rfl d_Mo_change_102 (⟨rfl, rfl, rfl, g17, g18, g19, rfl, hB⟩)
    | succ q ih =>
      intro i g17 g18 g19 hi hB u
      have hil : i < wl.length := by omega
      have hci := List.getElem?_eq_getElem hil
      generalize wl[i] = c at hci
      have hc16 : c < 16 := w3 c (List.mem_of_getElem? hci)
      have htk : wl.take (i + 1) = wl.take i ++ [c] := by rw [List.take_succ, hci]; rfl
      have hnot : c ∉ wl.take i := by
        intro hm
        obtain ⟨j, hj⟩ := List.getElem?_of_mem hm
        rw [List.getElem?_take] at hj
        split at hj
        · rename_i hji
          have := (List.getElem?_inj (by omega) w2).mp (hj.trans hci.symm)
          omega
        · cases hj
      have hBc : BpL B (x, kind) (wl.take i) c = B c := if_neg hnot
      have hB' : ∀ N', N' = push8 (B c) (x, kind) → (fun i' => if i' = c then N' else BpL B (x, kind) (wl.take i) i') = BpL B (x, kind) (wl.take (i + 1)) := by
        intro N' hN'
        funext i'
        unfold BpL
        rw [htk]
        by_cases h1 : i' = c
        · subst h1
          rw [if_pos rfl, if_pos (List.mem_append_right _ List.mem_cons_self)]
          exact hN'
        · rw [if_neg h1]
          by_cases h2 : i' ∈ wl.take i
          · rw [if_pos h2, if_pos (List.mem_append_left _ h2)]
          · rw [if_neg h2, if_neg (fun hm => (List.mem_append.mp hm).elim h2 (fun hm => h1 (List.mem_singleton.mp hm)))]
      obtain ⟨b1, b2, b3, b4⟩ := id (hB c hc16)
      rw [hBc] at b1 b2 b3 b4
      refine n_seq s_Mo_change_12 rfl ?_
      refine n_geta f_Mo_20 d_Mo_change_14 (by decide) ?_
      refine n_seq s_Mo_change_17 rfl ?_
      refine n_aldL d_Mo_change_18 ⟨by decide, by decide⟩ rfl (rfl) ((show n < 4200 by omega)) ?_
      rw [w1]
      refine n_icmp_ge (tgt := 102) d_Mo_change_19 (by decide) (fun hbr => absurd hbr (nI_ge hil (by omega))) (fun hbr => ?_)
      refine n_seq s_Mo_change_22 rfl ?_
      refine n_geta f_Mo_24 d_Mo_change_23 (by decide) ?_
      refine n_seq s_Mo_change_26 rfl ?_
      refine n_aldL d_Mo_change_32 ⟨by decide, by decide⟩ rfl (n16) ((show 16 * n + i < 67200 by omega)) ?_
      rw [show ar 4 (16 * n + i) = nI c from w4 i c hci]
      refine n_seq s_Mo_change_33 rfl ?_
      refine n_geta f_Mo_69 d_Mo_change_36 (by decide) ?_
      refine n_seq s_Mo_change_39 rfl ?_
      refine n_aldL d_Mo_change_41 ⟨by decide, by decide⟩ rfl (rfl) (hc16) ?_
      rw [b1]
      refine n_seq s_Mo_change_42 rfl ?_
      -- what follows once there is room
      have next : ∀ (h17 h18 h19 : Nat → Int32) (N1 : List (Int32 × Int32)), N1.length < 8 → N1 ++ [(x, kind)] = push8 (B c) (x, kind) → MB h17 h18 h19 K ls (fun i' => if i' = c then N1 else BpL B (x, kind) (wl.take i) i') → GN κ m_Mo_change (d + 1) m ad (arS ar [(2, upd (ar 2) n (t.2.2.2.2.1 + 1)), (17, h17), (18, h18), (19, h19)]) nm sc 53 [some (.ref m), some (.int (nI n)), some (.int kind), some (.int (nI i)), some (.int (nI c))] [] (fun v ar' nm' sc' => v = none ∧ nm' = nm ∧ sc' = sc ∧ ∃ g17 g18 g19, ar' = arS ar [(2, upd (ar 2) n (t.2.2.2.2.1 + 1)), (17, g17), (18, g18), (19, g19)] ∧ MB g17 g18 g19 K ls (BpL B (x, kind) wl)) := by
        intro h17 h18 h19 N1 hN8 hN1 hM1
        have e1 := (hM1 c hc16).1
        simp only [↓reduceIte] at e1
        refine n_seq s_Mo_change_53 rfl ?_
        refine n_geta f_Mo_63 d_Mo_change_54 (by decide) ?_
        refine n_seq s_Mo_change_57 rfl ?_
        refine n_geta f_Mo_69 d_Mo_change_63 (by decide) ?_
        refine n_seq s_Mo_change_66 rfl ?_
        refine n_aldL d_Mo_change_68 ⟨by decide, by decide⟩ rfl (rfl) (hc16) ?_
        rw [e1]
        refine n_seq s_Mo_change_69 rfl ?_
        rw [n8]
        refine n_astL d_Mo_change_71 ⟨by decide, by decide⟩ rfl (rfl) ((show 8 * c + N1.length < 128 by omega)) ?_
        refine n_seq s_Mo_change_72 rfl ?_
        refine n_geta f_Mo_66 d_Mo_change_73 (by decide) ?_
        refine n_seq s_Mo_change_76 rfl ?_
        refine n_geta f_Mo_69 d_Mo_change_82 (by decide) ?_
        refine n_seq s_Mo_change_85 rfl ?_
        refine n_aldL d_Mo_change_88 ⟨by decide, by decide⟩ rfl (rfl) (hc16) ?_
        rw [e1]
        refine n_seq s_Mo_change_89 rfl ?_
        rw [nI_1]
        refine n_astL d_Mo_change_92 ⟨by decide, by decide⟩ rfl (rfl) (hc16) ?_
        refine n_seq s_Mo_change_93 rfl ?_
        rw [n8]
        refine n_astL d_Mo_change_95 ⟨by decide, by decide⟩ rfl (rfl) ((show 8 * c + N1.length < 128 by omega)) ?_
        refine n_seq s_Mo_change_96 rfl ?_
        rw [nI_1]
        refine ih (i + 1) _ _ _ (by omega) ?_ _
        have hp := hM1.push (c := c) (x := (x, kind)) (v := nI n) hc16 (by simp only [↓reduceIte]; exact hN8) ⟨n, hn, rfl, hx.symm⟩
        simp only [↓reduceIte] at hp
        rw [← hB' _ hN1]
        refine cast (congrArg _ (funext fun i' => ?_)) hp
        by_cases hic : i' = c
        · rw [if_pos hic, if_pos hic]
        · rw [if_neg hic, if_neg hic, if_neg hic]
      refine n_icmp_ne (tgt := 53) d_Mo_change_44 (by decide) (fun h1 => ?_) (fun h1 => ?_)
      · skip
        have hlt : (B c).length < 8 := by
          rcases Nat.lt_or_ge (B c).length 8 with h | h
          · exact h
          · exact absurd (by rw [show (B c).length = 8 by omega]; rfl) h1
        refine next g17 g18 g19 (B c) hlt (by unfold push8; rw [if_pos hlt]) ?_
        refine cast (congrArg _ (funext fun i' => ?_)) hB
        by_cases hic : i' = c
        · rw [if_pos hic, hic, hBc]
        · rw [if_neg hic]
      · skip
        have h8 : (B c).length = 8 := (nI_eq (b := 8) (by omega) (by decide)).mp h1
        refine n_seq s_Mo_change_47 rfl ?_
        refine n_invV l_Mo_88 d_Mo_change_50 rfl ⟨rfl, Nat.le_of_ble_eq_true rfl, Nat.le_of_ble_eq_true rfl⟩ (m_drop hc16 b1 b2 (by omega)) ?_
        rintro v ar' nm' sc' ⟨rfl, rfl, rfl, rfl⟩
        rw [arS_4]
        have hd := hB.drop hc16 (by rw [hBc]; omega)
        rw [hBc] at hd
        refine next _ _ _ ((B c).eraseIdx 0) (by rw [List.length_eraseIdx_of_lt (by omega)]; omega) (by unfold push8; rw [if_neg (by omega)]) hd
  refine n_mono (Q := fun v ar' nm' sc' => v = none ∧ nm' = nm ∧ sc' = sc ∧ ∃ g17 g18 g19, ar' = arS ar [(2, upd (ar 2) n (t.2.2.2.2.1 + 1)), (17, g17), (18, g18), (19, g19)] ∧ MB g17 g18 g19 K ls (BpL B (x, kind) wl)) ?_ ?_
  · have hst : ar = arS ar [(2, ar 2), (17, ar 17), (18, ar 18), (19, ar 19)] := arS_id _ (by simp)
    refine n_st hst ?_
    refine n_seq s_Mo_change_0 rfl ?_
    refine n_geta f_Mo_17 d_Mo_change_1 (by decide) ?_
    refine n_seq s_Mo_change_4 rfl ?_
    refine n_aldL d_Mo_change_6 ⟨by decide, by decide⟩ rfl (rfl) ((show n < 4200 by omega)) ?_
    rw [a1]
    refine n_seq s_Mo_change_7 rfl ?_
    refine n_astL d_Mo_change_9 ⟨by decide, by decide⟩ rfl (rfl) ((show n < 4200 by omega)) ?_
    refine n_seq s_Mo_change_10 rfl ?_
    exact loop wl.length 0 _ _ _ (by omega) (cast (congrArg _ (funext fun i => by simp [BpL])) hb) _
  · rintro v ar' nm' sc' ⟨rfl, rfl, rfl, g17, g18, g19, rfl, hM⟩
    refine ⟨rfl, rfl, rfl, hN, ?_, hj, hc, ?_, hw, hp, hnw⟩
    · subst hx
      refine MT.upd ‹_› hN hn (fun k hk hkn => ⟨pk_un hkn, rfl, rfl, rfl, rfl, fun _ _ => rfl, fun _ _ => ⟨rfl, rfl, rfl⟩⟩) ?_ (by show t.1 = _; exact hx1)
      exact ⟨pk_us, ⟨wl, a2⟩, a3, a4, a5, a6⟩
    · refine cast (congrArg _ (funext fun i => ?_)) hM
      unfold BpL tellB
      by_cases hm : i ∈ wl
      · rw [if_pos hm, if_pos ⟨w3 i hm, (w5 i (w3 i hm)).mpr hm⟩]
      · rw [if_neg hm, if_neg (fun e => hm ((w5 i e.1).mp e.2))]
end NH2
