def wbit (wa : Int32) (c : Nat) : Bool := decide ((wa >>> (nI c &&& 31)) &&& 1 = 1)
def push8 (N : List (Int32 × Int32)) (x : Int32 × Int32) : List (Int32 × Int32) := (if N.length < 8 then N else N.eraseIdx 0) ++ [x]
theorem push8_len {N : List (Int32 × Int32)} {x : Int32 × Int32} (h : N.length ≤ 8) : (push8 N x).length ≤ 8 := by
  unfold push8
  split
  · simp; omega
  · rw [List.length_append, List.length_eraseIdx_of_lt (by omega)]; simp; omega
/-- what the boxes hold when the first n clients have been told -/
def tellB (wa : Int32) (x : Int32 × Int32) (n : Nat) (B : Nat → List (Int32 × Int32)) : Nat → List (Int32 × Int32) := fun i => if i < n ∧ wbit wa i = true then push8 (B i) x else B i
theorem wbit_0 (c : Nat) : wbit 0 c = false := by
  unfold wbit
  simp
def setCh (t : Th) : Th := (t.1, t.2.1, t.2.2.1, t.2.2.2.1, t.2.2.2.2.1 + 1, t.2.2.2.2.2)
/-- what telling a change may touch -/
def ChT (own : Nat → Nat × Nat) (a : Nat) : Nat → Nat → Prop := fun k q => (k = 1 ∧ q = a) ∨ (k = 101 ∧ ∃ i, own q = (4, i))
section XT
variable {κ : Nat × Nat} {d : Nat} {M : Mm} {a : Nat} {own : Nat → Nat × Nat} {h aT aJ aC aB aW : Nat} {tp nw : Int32}
theorem PB_box {M' : Mm} {B B' : Nat → List (Int32 × Int32)} {f : Nat → Option Nat} {c b l : Nat} {ws ws' : List Nat} (h1 : M aB = some (aR "LeaseHouse$NoteBox" 16 f)) (h2 : ∀ i, i < 16 → ∃ b, f i = some b ∧ BoR M own i b (B i)) (hb : f c = some b) (hMb : M b = some (eO 6 [.ref l])) (hl : M l = some (eL ws)) (ho : own l = (4, c)) (hM' : M' = up M l (eL ws')) (hR : R2 (NoR M) ws' (B' c)) (hB : ∀ i, i ≠ c → B' i = B i) : PB M' own aB B' := by
  have nl : ∀ q e, M q = some e → (∀ xs, e ≠ eL xs) → q ≠ l := fun q e hq hn x => by rw [x, hl] at hq; cases hq; exact hn ws rfl
  subst hM'
  refine ⟨f, by rw [up_n (nl aB _ h1 (fun xs h => by cases h))]; exact h1, fun i hi => ?_⟩
  obtain ⟨b', g1, l', ws0, g2, g3, g4, g5⟩ := h2 i hi
  refine ⟨b', g1, ?_⟩
  by_cases hic : i = c
  · subst hic
    rw [hb] at g1
    cases g1
    rw [hMb] at g2
    cases g2
    refine ⟨l, ws', by rw [up_n (nl b _ hMb (fun xs h => by cases h))]; exact hMb, up_s, ho, hR.mono (fun x y _ hw => ?_)⟩
    exact (up_n (nl x _ hw (fun xs h => by cases h))).trans hw
  · have hll : l' ≠ l := fun e => by rw [e, ho] at g4; exact hic (congrArg Prod.snd g4).symm
    rw [hB i hic]
    refine ⟨l', ws0, by rw [up_n (nl b' _ g2 (fun xs h => by cases h))]; exact g2, by rw [up_n hll]; exact g3, g4, g5.mono (fun x y _ hw => ?_)⟩
    exact (up_n (nl x _ hw (fun xs h => by cases h))).trans hw
theorem x_tellChange {r : Nat} {t : Th} {kind : Int32} {B : Nat → List (Int32 × Int32)} (hH : HoC M h aT aJ aC aB aW tp nw) (hT : ThC M a r t) (hB : PB M own aB B) (h8 : ∀ i, i < 16 → (B i).length ≤ 8) : G κ m_LH_tellChange (d + 8) M 0 [some (.ref h), some (.ref a), some (.int kind), none, none] [] 17 418 (fun v M' => v = none ∧ Kp (ChT own a) M M' ∧ ThC M' a r (setCh t) ∧ PB M' own aB (tellB t.2.2.2.2.2 (t.1, kind) 16 B)) := by
  have hha : h ≠ a := fun e => by unfold HoC at hH; unfold ThC at hT; rw [e, hT] at hH; cases hH
  have hM1T : ThC (up M a (eO 1 [.int t.1, .ref r, .int t.2.2.1, .int t.2.2.2.1, .int (t.2.2.2.2.1 + 1), .int t.2.2.2.2.2])) a r (setCh t) := up_s
  have hK1 : Kp (ChT own a) M (up M a (eO 1 [.int t.1, .ref r, .int t.2.2.1, .int t.2.2.2.1, .int (t.2.2.2.2.1 + 1), .int t.2.2.2.2.2])) := up_kp hT (Or.inl ⟨rfl, rfl⟩)
  have hB1 : PB (up M a (eO 1 [.int t.1, .ref r, .int t.2.2.1, .int t.2.2.2.1, .int (t.2.2.2.2.1 + 1), .int t.2.2.2.2.2])) own aB B := hB.keep (Ch := fun k q => k = 1 ∧ q = a) (up_kp hT ⟨rfl, rfl⟩) (fun x hx => by cases hx.1) (fun x hx => by cases hx.1) (fun hx => by cases hx.1) (fun _ _ _ hx => by cases hx.1)
  have hH1 : HoC (up M a (eO 1 [.int t.1, .ref r, .int t.2.2.1, .int t.2.2.2.1, .int (t.2.2.2.2.1 + 1), .int t.2.2.2.2.2])) h aT aJ aC aB aW tp nw := (up_n hha).trans hH
  generalize hM1 : up M a (eO 1 [.int t.1, .ref r, .int t.2.2.1, .int t.2.2.2.1, .int (t.2.2.2.2.1 + 1), .int t.2.2.2.2.2]) = M1 at hM1T hK1 hB1 hH1
  have loop : ∀ n c (Mc : Mm) (q k m : Nat), c + n = 16 → n ≤ k → 26 * n ≤ m → HoC Mc h aT aJ aC aB aW tp nw → ThC Mc a r (setCh t) → Kp (ChT own a) M Mc → PB Mc own aB (tellB t.2.2.2.2.2 (t.1, kind) c B) → NoR Mc q (t.1, kind) →
      G κ m_LH_tellChange (d + 8) Mc 34 [some (.ref h), some (.ref a), some (.int kind), some (.ref q), some (.int (nI c))] [] k m (fun v M' => v = none ∧ Kp (ChT own a) M M' ∧ ThC M' a r (setCh t) ∧ PB M' own aB (tellB t.2.2.2.2.2 (t.1, kind) 16 B)) := by
    intro n
    induction n with
    | zero =>
      intro c Mc q k m hc hk hm g1 g2 g3 g4 g5
      have hc16 : c = 16 := by omega
      subst hc16
      refine g_seq s_LH_tellChange_34 rfl ?_
      refine g_icmp_ge (tgt := 67) d_LH_tellChange_38 (by decide) (fun hc => ?_) (fun hc => absurd hc (fun h => h (by decide)))
      exact g_vret rfl d_LH_tellChange_67 (⟨rfl, g3, g2, g4⟩)
    | succ n ih =>
      intro c Mc q k m hc hk hm g1 g2 g3 g4 g5
      have hcl : c < 16 := by omega
      refine g_seq s_LH_tellChange_34 rfl ?_
      refine g_icmp_ge (tgt := 67) d_LH_tellChange_38 (by decide) (fun hc => absurd hc ((show ¬ nI 16 ≤ nI c from nI_ge hcl (by omega)))) (fun hc => ?_)
      refine g_seq s_LH_tellChange_41 rfl ?_
      refine g_invV  l_LH_227 d_LH_tellChange_44 rfl ⟨rfl, Nat.le_of_ble_eq_true rfl, Nat.le_of_ble_eq_true rfl⟩ (g2) (t_isWatchedBy g2) (Nat.le_of_eq (Nat.zero_add _)) (Nat.le_of_eq (Nat.zero_add _)) ?_
      rintro v M' ⟨rfl, rfl⟩
      refine g_if_eq (tgt := 61) d_LH_tellChange_47 (by decide) (fun hw => ?_) (fun hw => ?_)
      · skip
        refine g_seq s_LH_tellChange_61 rfl ?_
        rw [nI_1]
        have hwf : wbit t.2.2.2.2.2 c = false := b2i_0.mp hw
        refine ih (c + 1) _ q k m (by omega) (by omega) (by omega) g1 g2 g3 ?_ g5
        have he : tellB t.2.2.2.2.2 (t.1, kind) (c + 1) B = tellB t.2.2.2.2.2 (t.1, kind) c B := by
          funext i
          unfold tellB
          by_cases hic : i = c
          · subst hic; simp [hwf]
          · have : (i < c + 1) ↔ i < c := by omega
            simp [this]
        rw [he]; exact g4
      · skip
        have hwt : wbit t.2.2.2.2.2 c = true := b2i_n.mp hw
        obtain ⟨f, f1, f2⟩ := id g4
        obtain ⟨b, hfb, l, ws, hb1, hb2, hb3, hb4⟩ := f2 c hcl
        have hBc : tellB t.2.2.2.2.2 (t.1, kind) c B c = B c := by unfold tellB; simp
        rw [hBc] at hb4
        have hwl : ws.length ≤ 8 := by rw [hb4.1]; exact h8 c hcl
        refine g_seq s_LH_tellChange_50 rfl ?_
        refine g_get f_LH_24 d_LH_tellChange_51 (g1) rfl ?_
        refine g_seq s_LH_tellChange_54 rfl ?_
        refine g_aald d_LH_tellChange_56 f1 (vp_nI hcl (by omega)) ?_
        rw [nI_cl (by omega), hfb]
        refine g_seq s_LH_tellChange_57 rfl ?_
        refine g_invV (k2 := n) (n2 := 26 * n) l_LH_230 d_LH_tellChange_58 rfl ⟨rfl, Nat.le_of_ble_eq_true rfl, Nat.le_of_ble_eq_true rfl⟩ (hb1) (b_put hb1 hb2 (can_no g5) (fun y hy => by obtain ⟨z, hz⟩ := hb4.mem hy; exact can_no hz) hwl) (by first | omega | (simp <;> omega)) (by first | omega | (simp <;> omega)) ?_
        rintro v M' ⟨rfl, rfl⟩
        refine g_seq s_LH_tellChange_61 rfl ?_
        rw [nI_1]
        have nl : ∀ q e, M' q = some e → (∀ xs, e ≠ eL xs) → q ≠ l := fun q e hq hn x => by rw [x, hb2] at hq; cases hq; exact hn ws rfl
        refine ih (c + 1) _ q n (26 * n) (by omega) (by omega) (by omega) ((up_n (nl h _ g1 (fun xs h => by cases h))).trans g1) ((up_n (nl a _ g2 (fun xs h => by cases h))).trans g2) (g3.tr (up_kp hb2 (Or.inr ⟨rfl, c, hb3⟩))) (PB_box f1 f2 hfb hb1 hb2 hb3 rfl ?_ ?_) ((up_n (nl q _ g5 (fun xs h => by cases h))).trans g5)
        · have he : tellB t.2.2.2.2.2 (t.1, kind) (c + 1) B c = push8 (B c) (t.1, kind) := by unfold tellB; simp [hwt]
          rw [he]
          unfold push8
          rw [hb4.1]
          split
          · exact hb4.snoc g5
          · exact (hb4.erase 0).snoc g5
        · intro i hic
          unfold tellB
          have : (i < c + 1) ↔ i < c := by omega
          simp [this]
  refine g_seq s_LH_tellChange_0 rfl ?_
  refine g_get f_LH_223 d_LH_tellChange_2 (hT) rfl ?_
  refine g_seq s_LH_tellChange_5 rfl ?_
  refine g_put f_LH_223 d_LH_tellChange_7 (hT) rfl rfl rfl ?_
  rw [hM1]
  refine g_seq s_LH_tellChange_10 rfl ?_
  refine g_get f_LH_160 d_LH_tellChange_11 (hM1T) rfl ?_
  refine g_if_ne (tgt := 18) d_LH_tellChange_14 (by decide) (fun hw => ?_) (fun hw => ?_)
  · skip
    refine g_new (k' := 16) (n' := 416) n_LH_176 d_LH_tellChange_18 (by first | omega | (simp <;> omega)) (by first | omega | (simp <;> omega)) (fun q hq hzq => ?_)
    have nq : ∀ x e, M1 x = some e → x ≠ q := fun x e hx e2 => by rw [e2, hq] at hx; cases hx
    refine g_seq s_LH_tellChange_21 rfl ?_
    refine g_get f_LH_114 d_LH_tellChange_23 ((up_n (nq a _ hM1T)).trans hM1T) rfl ?_
    refine g_seq s_LH_tellChange_26 rfl ?_
    refine g_invIN  l_LH_226 d_LH_tellChange_27 rfl ⟨rfl, Nat.le_of_ble_eq_true rfl, Nat.le_of_ble_eq_true rfl⟩ (n_init up_s) (Nat.le_of_eq (Nat.zero_add _)) (Nat.le_of_eq (Nat.zero_add _)) ?_
    rintro v M' ⟨rfl, rfl⟩
    rw [up_up]
    refine g_seq s_LH_tellChange_30 rfl ?_
    refine loop 16 0 _ q 16 416 (by omega) (by omega) (by omega) ((up_n (nq h _ hH1)).trans hH1) ((up_n (nq a _ hM1T)).trans hM1T) (hK1.tr (up_kpn hq)) ?_ up_s
    have he : tellB t.2.2.2.2.2 (t.1, kind) 0 B = B := by funext i; unfold tellB; simp
    rw [he]
    exact hB1.keep (Ch := fun _ _ => False) (up_kpn hq) (fun _ h => h) (fun _ h => h) (fun h => h) (fun _ _ _ h => h)
  · skip
    have he : tellB t.2.2.2.2.2 (t.1, kind) 16 B = B := by
      funext i
      unfold tellB
      have hz : t.2.2.2.2.2 = 0 := hw
      rw [hz, wbit_0]; simp
    exact g_vret rfl d_LH_tellChange_17 (⟨rfl, hK1, hM1T, by rw [he]; exact hB1⟩)
end XT
