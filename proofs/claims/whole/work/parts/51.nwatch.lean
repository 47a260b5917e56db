/-! bits -/
theorem nI_bv (n : Nat) : (nI n).toBitVec = BitVec.ofNat 32 n := rfl
theorem nI_and (a b : Nat) : nI a &&& nI b = nI (a &&& b) := by
  apply Int32.toBitVec_inj.mp
  rw [Int32.toBitVec_and, nI_bv, nI_bv, nI_bv, BitVec.ofNat_and]
theorem nI_xor (a b : Nat) : nI a ^^^ nI b = nI (a ^^^ b) := by
  apply Int32.toBitVec_inj.mp
  rw [Int32.toBitVec_xor, nI_bv, nI_bv, nI_bv, BitVec.ofNat_xor]
def bA (x : Nat) : Nat := Nat.sub x (Nat.land (Nat.shiftRight x 1) 1431655765)
def bB (a : Nat) : Nat := Nat.add (Nat.land a 858993459) (Nat.land (Nat.shiftRight a 2) 858993459)
def bC (b : Nat) : Nat := Nat.land (Nat.add b (Nat.shiftRight b 4)) 252645135
def bE (c : Nat) : Nat := Nat.add c (Nat.shiftRight c 8)
def bG (e : Nat) : Nat := Nat.land (Nat.add e (Nat.shiftRight e 16)) 63
def bcN (x : Nat) : Nat := bG (bE (bC (bB (bA x))))
def pcN (x : Nat) : Nat := Nat.add (Nat.add (Nat.add (Nat.mod x 2) (Nat.mod (Nat.div x 2) 2)) (Nat.add (Nat.mod (Nat.div x 4) 2) (Nat.mod (Nat.div x 8) 2))) (Nat.add (Nat.add (Nat.mod (Nat.div x 16) 2) (Nat.mod (Nat.div x 32) 2)) (Nat.add (Nat.mod (Nat.div x 64) 2) (Nat.mod (Nat.div x 128) 2)))
theorem bc_all : ((List.range 256).all fun a => (List.range 256).all fun b => Nat.beq (bcN (Nat.add a (Nat.mul 256 b))) (Nat.add (pcN a) (pcN b))) = true := by decide +kernel
theorem bc_N {q : Nat} (h : q < 65536) : bcN q = pcN (q % 256) + pcN (q / 256) := by
  have h1 := List.all_eq_true.mp bc_all (q % 256) (List.mem_range.mpr (by omega))
  have h2 := List.all_eq_true.mp h1 (q / 256) (List.mem_range.mpr (by omega))
  have h3 := Nat.eq_of_beq_eq_true h2
  rw [show Nat.add (q % 256) (Nat.mul 256 (q / 256)) = q from Nat.mod_add_div q 256] at h3
  exact h3
theorem bcF_N {q : Nat} (h : q < 65536) : bcF (nI q) = nI (bcN q) := by
  have e1 : ((nI q).toUInt32 >>> ((1 : Int32).toUInt32 &&& Int32.toUInt32 31)).toInt32 = nI (q >>> 1) := by rw [pk_ushrN (by omega) 1 1 (by decide), Nat.shiftRight_eq_div_pow]
  have l1 : (q >>> 1) &&& 1431655765 ≤ q := Nat.le_trans Nat.and_le_left (by rw [Nat.shiftRight_eq_div_pow]; omega)
  have hA : nI q - (nI (q >>> 1) &&& (1431655765 : Int32)) = nI (bA q) := by
    rw [show (1431655765 : Int32) = nI 1431655765 from rfl, nI_and, pk_sub l1]; rfl
  have hAl : bA q < 65536 := by
    have : bA q = q - ((q >>> 1) &&& 1431655765) := rfl
    omega
  unfold bcF bcN
  dsimp only
  rw [e1, hA]
  generalize bA q = a at hAl ⊢
  have e2 : ((nI a).toUInt32 >>> ((2 : Int32).toUInt32 &&& Int32.toUInt32 31)).toInt32 = nI (a >>> 2) := by rw [pk_ushrN (by omega) 2 2 (by decide), Nat.shiftRight_eq_div_pow]
  have hB : (nI a &&& (858993459 : Int32)) + (nI (a >>> 2) &&& (858993459 : Int32)) = nI (bB a) := by
    rw [show (858993459 : Int32) = nI 858993459 from rfl, nI_and, nI_and, nI_add]; rfl
  have hBl : bB a < 131072 := by
    have h0 : bB a = (a &&& 858993459) + ((a >>> 2) &&& 858993459) := rfl
    have h1 : a &&& 858993459 ≤ a := Nat.and_le_left
    have h2 : (a >>> 2) &&& 858993459 ≤ a >>> 2 := Nat.and_le_left
    have h3 : a >>> 2 ≤ a := by rw [Nat.shiftRight_eq_div_pow]; omega
    omega
  rw [e2, hB]
  generalize bB a = b at hBl ⊢
  have e3 : ((nI b).toUInt32 >>> ((4 : Int32).toUInt32 &&& Int32.toUInt32 31)).toInt32 = nI (b >>> 4) := by rw [pk_ushrN (by omega) 4 4 (by decide), Nat.shiftRight_eq_div_pow]
  have hC : (nI b + nI (b >>> 4)) &&& (252645135 : Int32) = nI (bC b) := by
    rw [show (252645135 : Int32) = nI 252645135 from rfl, nI_add, nI_and]; rfl
  have hCl : bC b < 262144 := by
    have h0 : bC b = (b + b >>> 4) &&& 252645135 := rfl
    have h1 : (b + b >>> 4) &&& 252645135 ≤ b + b >>> 4 := Nat.and_le_left
    have h3 : b >>> 4 ≤ b := by rw [Nat.shiftRight_eq_div_pow]; omega
    omega
  rw [e3, hC]
  generalize bC b = c at hCl ⊢
  have e4 : ((nI c).toUInt32 >>> ((8 : Int32).toUInt32 &&& Int32.toUInt32 31)).toInt32 = nI (c >>> 8) := by rw [pk_ushrN (by omega) 8 8 (by decide), Nat.shiftRight_eq_div_pow]
  have hE : nI c + nI (c >>> 8) = nI (bE c) := nI_add _ _
  have hEl : bE c < 524288 := by
    have h0 : bE c = c + c >>> 8 := rfl
    have h3 : c >>> 8 ≤ c := by rw [Nat.shiftRight_eq_div_pow]; omega
    omega
  rw [e4, hE]
  generalize bE c = e at hEl ⊢
  have e5 : ((nI e).toUInt32 >>> ((16 : Int32).toUInt32 &&& Int32.toUInt32 31)).toInt32 = nI (e >>> 16) := by rw [pk_ushrN (by omega) 16 16 (by decide), Nat.shiftRight_eq_div_pow]
  rw [e5, nI_add, show (63 : Int32) = nI 63 from rfl, nI_and]
  rfl
