/-! How many bits are set: the machine's text, the reference's loop, one number. -/
section PopC
variable {d n t : Nat} {I : FI} {L : FL} {P : FR} {E : FE} {c s : Nat}
def uN (x : Int64) : Nat := x.toBitVec.toNat
def su64 (x : Int64) (k : Int32) : Int64 := (x.toUInt64 >>> (k.toInt64.toUInt64 &&& Int64.toUInt64 63)).toInt64
def pc1 (x : Int64) : Int64 := x - (su64 x 1 &&& 6148914691236517205)
def pc2 (x : Int64) : Int64 := (x &&& 3689348814741910323) + (su64 x 2 &&& 3689348814741910323)
def pc3 (x : Int64) : Int64 := (x + su64 x 4) &&& 1085102592571150095
def pc4 (k : Int32) (x : Int64) : Int64 := x + su64 x k
def bitC (x : Int64) : Int32 := (pc4 32 (pc4 16 (pc4 8 (pc3 (pc2 (pc1 x)))))).toInt32 &&& 127
theorem c_bitC0 (x : Int64) : V PR d 7 0 [(0, vL x)] [] (mm n I L P E c s) = some (.inl (some (vi (bitC x))), mm n I L P E c s) := k_J13_bitCount_95d88_0 d n x I L P E c s
theorem uN_lt (x : Int64) : uN x < 2 ^ 64 := x.toBitVec.isLt
theorem uN_su (x : Int64) {k : Int32} {j : Nat} (h : (k.toInt64.toUInt64 &&& Int64.toUInt64 63).toNat % 64 = j) : uN (su64 x k) = uN x / 2 ^ j := by
  have e : uN (su64 x k) = (x.toUInt64 >>> (k.toInt64.toUInt64 &&& Int64.toUInt64 63)).toNat := rfl
  rw [e, UInt64.toNat_shiftRight, h, Nat.shiftRight_eq_div_pow]
  rfl
theorem uN_and (x y : Int64) : uN (x &&& y) = uN x &&& uN y := by
  unfold uN
  rw [Int64.toBitVec_and, BitVec.toNat_and]
theorem uN_add {x y : Int64} (h : uN x + uN y < 2 ^ 64) : uN (x + y) = uN x + uN y := by
  unfold uN at h ⊢
  rw [Int64.toBitVec_add, BitVec.toNat_add, Nat.mod_eq_of_lt h]
theorem uN_sub {x y : Int64} (h : uN y ≤ uN x) : uN (x - y) = uN x - uN y := by
  unfold uN at h ⊢
  rw [Int64.toBitVec_sub, BitVec.toNat_sub_of_le h]
theorem uN_127 (x : Int64) : x.toInt32 &&& 127 = nI (uN x % 128) := by
  rw [pk_and x.toInt32 (m := 127) 7 (by decide +kernel)]
  have e : x.toInt32.toBitVec.toNat = uN x % 2 ^ 32 := by
    rw [Int64.toBitVec_toInt32, BitVec.signExtend_eq_setWidth_of_le _ (by decide), BitVec.toNat_setWidth]
    rfl
  rw [e]
  congr 1
  omega
theorem uc1 : uN 6148914691236517205 = repN 85 8 := by decide +kernel
theorem uc2 : uN 3689348814741910323 = repN 51 8 := by decide +kernel
theorem uc3 : uN 1085102592571150095 = repN 15 8 := by decide +kernel
theorem r51 : repN 51 8 = 3689348814741910323 := by decide +kernel
theorem uN_1 (x : Int64) : uN (pc1 x) = uN x - ((uN x / 2) &&& repN 85 8) := by
  have h : uN (su64 x 1 &&& 6148914691236517205) = (uN x / 2) &&& repN 85 8 := by
    rw [uN_and, uN_su x (j := 1) (by decide +kernel), uc1]
  unfold pc1
  rw [uN_sub, h]
  rw [h]
  have : (uN x / 2) &&& repN 85 8 ≤ uN x / 2 := Nat.and_le_left
  omega
theorem uN_2 (x : Int64) : uN (pc2 x) = (uN x &&& repN 51 8) + ((uN x / 4) &&& repN 51 8) := by
  have h1 : uN (x &&& 3689348814741910323) = uN x &&& repN 51 8 := by rw [uN_and, uc2]
  have h2 : uN (su64 x 2 &&& 3689348814741910323) = (uN x / 4) &&& repN 51 8 := by
    rw [uN_and, uN_su x (j := 2) (by decide +kernel), uc2]
  unfold pc2
  rw [uN_add, h1, h2]
  rw [h1, h2]
  have l1 : uN x &&& repN 51 8 ≤ repN 51 8 := Nat.and_le_right
  have l2 : (uN x / 4) &&& repN 51 8 ≤ repN 51 8 := Nat.and_le_right
  rw [r51] at l1 l2 ⊢
  omega
theorem uN_3 (x : Int64) (h : uN x < 2 ^ 63) : uN (pc3 x) = (uN x + uN x / 16) &&& repN 15 8 := by
  have h2 : uN (su64 x 4) = uN x / 16 := uN_su x (j := 4) (by decide +kernel)
  unfold pc3
  rw [uN_and, uc3, uN_add, h2]
  rw [h2]
  omega
theorem uN_4 (x : Int64) {k : Int32} {j : Nat} (hj : (k.toInt64.toUInt64 &&& Int64.toUInt64 63).toNat % 64 = j) (h : uN x + uN x / 2 ^ j < 2 ^ 64) : uN (pc4 k x) = uN x + uN x / 2 ^ j := by
  unfold pc4
  rw [uN_add, uN_su x hj]
  rw [uN_su x hj]
  exact h
theorem mapd8 (f : Nat → Nat) (x : Nat) : mapd f 8 x = 256 * (256 * (256 * (256 * (256 * (256 * (256 * (256 * 0 + f (x / 256 / 256 / 256 / 256 / 256 / 256 / 256 % 256)) + f (x / 256 / 256 / 256 / 256 / 256 / 256 % 256)) + f (x / 256 / 256 / 256 / 256 / 256 % 256)) + f (x / 256 / 256 / 256 / 256 % 256)) + f (x / 256 / 256 / 256 % 256)) + f (x / 256 / 256 % 256)) + f (x / 256 % 256)) + f (x % 256) := by
  simp only [mapd]
theorem sumd8 (f : Nat → Nat) (x : Nat) : sumd f 8 x = f (x % 256) + f (x / 256 % 256) + f (x / 256 / 256 % 256) + f (x / 256 / 256 / 256 % 256) + f (x / 256 / 256 / 256 / 256 % 256) + f (x / 256 / 256 / 256 / 256 / 256 % 256) + f (x / 256 / 256 / 256 / 256 / 256 / 256 % 256) + f (x / 256 / 256 / 256 / 256 / 256 / 256 / 256 % 256) := by
  simp only [sumd]
  omega
theorem bitC_eq (x : Int64) : bitC x = nI (bsum (uN x) 0 64) := by
  have hz : uN (pc2 (pc1 x)) < 2 ^ 63 := by
    rw [uN_2]
    have l1 : uN (pc1 x) &&& repN 51 8 ≤ repN 51 8 := Nat.and_le_right
    have l2 : (uN (pc1 x) / 4) &&& repN 51 8 ≤ repN 51 8 := Nat.and_le_right
    rw [r51] at l1 l2 ⊢
    omega
  have hu : uN (pc3 (pc2 (pc1 x))) = mapd (fun b => bsum b 0 8) 8 (uN x) := by
    rw [uN_3 _ hz]
    exact halves 8 (uN x) (uN_lt x) (uN_1 x) (uN_2 _)
  rw [mapd8] at hu
  have hb : ∀ k, bsum (k % 256) 0 8 ≤ 8 := fun k => b8_le _ (Nat.mod_lt _ (by decide))
  have eb : bitC x = (pc4 32 (pc4 16 (pc4 8 (pc3 (pc2 (pc1 x)))))).toInt32 &&& 127 := rfl
  rw [eb]
  obtain ⟨y, hy⟩ : ∃ y, y = pc3 (pc2 (pc1 x)) := ⟨_, rfl⟩
  rw [← hy] at hu ⊢
  obtain ⟨q1, q2⟩ := fold8 (hb _) (hb _) (hb _) (hb _) (hb _) (hb _) (hb _) (hb _) hu rfl rfl
  have b2 : uN y + uN y / 256 + (uN y + uN y / 256) / 65536 < 2 ^ 63 := Nat.lt_of_le_of_lt (Nat.le_add_right _ _) q2
  have b1 : uN y + uN y / 256 < 2 ^ 63 := Nat.lt_of_le_of_lt (Nat.le_add_right _ _) b2
  have b0 : (2 : Nat) ^ 63 < 2 ^ 64 := by decide
  have e8 : uN (pc4 8 y) = uN y + uN y / 256 := uN_4 y (j := 8) (by decide +kernel) (Nat.lt_trans b1 b0)
  have e16 : uN (pc4 16 (pc4 8 y)) = uN (pc4 8 y) + uN (pc4 8 y) / 65536 := uN_4 _ (j := 16) (by decide +kernel) (by
    rw [e8]
    exact Nat.lt_trans b2 b0)
  have e32 : uN (pc4 32 (pc4 16 (pc4 8 y))) = uN (pc4 16 (pc4 8 y)) + uN (pc4 16 (pc4 8 y)) / 4294967296 := uN_4 _ (j := 32) (by decide +kernel) (by
    rw [e16, e8]
    exact Nat.lt_trans q2 b0)
  have es := bsum_sumd 8 (uN x)
  rw [sumd8] at es
  rw [uN_127, e32, e16, e8, q1]
  exact congrArg nI es.symm
/-- how many states -/
def pcL (x : Int64) : Nat := bsum (uN x) 0 64
theorem c_bitL (x : Int64) : V PR d 7 0 [(0, vL x)] [] (mm n I L P E c s) = some (.inl (some (vi (nI (pcL x)))), mm n I L P E c s) := (c_bitC0 x).trans (by rw [bitC_eq, pcL])
theorem lsr_bit (x : Int64) {k : Nat} (hk : k < 64) : ((x >>> ((nI k).toInt64 &&& 63)) &&& (1 : Int64)) = b2l (tb x k) := by
  have hs : ∀ k, k < 64 → (((nI k).toInt64 &&& 63).toBitVec.smod 64).toNat = k := by decide +kernel
  have e0 : ∀ i, i < 64 → (1 : Int64).toBitVec.getLsbD i = decide (i = 0) := by decide +kernel
  have e1 : ∀ b : Bool, ∀ i, i < 64 → (b2l b).toBitVec.getLsbD i = (b && decide (i = 0)) := by decide +kernel
  apply Int64.toBitVec_inj.mp
  apply BitVec.eq_of_getLsbD_eq
  intro i hi
  rw [Int64.toBitVec_and, BitVec.getLsbD_and, e0 i hi, e1 _ i hi, Int64.toBitVec_shiftRight, BitVec.sshiftRight', hs k hk]
  by_cases h : i = 0
  · subst h
    rw [BitVec.getLsbD_sshiftRight]
    simp only [Nat.add_zero, hk, if_true]
    unfold tb
    simp
  · rw [decide_eq_false h, Bool.and_false, Bool.and_false]
theorem bit_tb (x : Int64) (k : Nat) : uN x / 2 ^ k % 2 = bif tb x k then 1 else 0 := by
  have e : tb x k = decide (uN x / 2 ^ k % 2 = 1) := by
    unfold tb uN
    rw [← BitVec.testBit_toNat, Nat.testBit_eq_decide_div_mod_eq]
  rw [e]
  rcases (show uN x / 2 ^ k % 2 = 0 ∨ uN x / 2 ^ k % 2 = 1 by omega) with h | h <;> rw [h] <;> rfl
theorem ones_R (x : Int64) : ∀ m k v, k + m = 64 → V PR d 266 4 [(0, vL x), (2, vi (nI v)), (3, vi (nI k))] [] (mm n I L P E c s) = some (.inl (some (vi (nI (v + bsum (uN x) k m)))), mm n I L P E c s)
  | 0, k, v, h => by
    rw [k_X12_ones_4, show decide ((64 : Int32) ≤ nI k) = true from decide_eq_true (nI_le (a := 64) (by omega) (by omega)), cond_true]
    rfl
  | m + 1, k, v, h => by
    rw [k_X12_ones_4, show decide ((64 : Int32) ≤ nI k) = false from decide_eq_false (nI_ge (b := 64) (by omega) (by omega)), cond_false, lsr_bit x (by omega), nI_1]
    have e : nI v + (b2l (tb x k)).toInt32 = nI (v + uN x / 2 ^ k % 2) := by
      rw [bit_tb]
      cases tb x k
      · exact nI_add v 0
      · exact nI_add v 1
    rw [e, ones_R x m (k + 1) _ (by omega), Nat.add_assoc]
    rfl
theorem c_ones (x : Int64) : V PR d 266 0 [(0, vL x)] [] (mm n I L P E c s) = some (.inl (some (vi (nI (pcL x)))), mm n I L P E c s) := by
  have h := ones_R (d := d) (n := n) (I := I) (L := L) (P := P) (E := E) (c := c) (s := s) x 64 0 0 rfl
  rw [Nat.zero_add] at h
  rw [k_X12_ones_0, pcL]
  exact h
theorem bsum_le (x : Nat) : ∀ m k, bsum x k m ≤ m
  | 0, k => Nat.le_refl _
  | m + 1, k => by
    have := bsum_le x m (k + 1)
    show x / 2 ^ k % 2 + bsum x (k + 1) m ≤ m + 1
    omega
theorem pcL_le (x : Int64) : pcL x ≤ 64 := bsum_le _ 64 0
theorem bsum_hi (x : Nat) : ∀ m k, x < 2 ^ k → bsum x k m = 0
  | 0, k, _ => rfl
  | m + 1, k, h => by
    show x / 2 ^ k % 2 + bsum x (k + 1) m = 0
    rw [Nat.div_eq_of_lt h, bsum_hi x m (k + 1) (by rw [Nat.pow_succ]; omega)]
/-- how many bits a number has -/
def pcK (k : Nat) : Nat := bsum k 0 64
theorem uN_int {k : Nat} (h : k < 2 ^ 31) : uN (nI k).toInt64 = k := by
  have e := Int32.toInt_toInt64 (nI k)
  rw [nI_toInt h, ← Int64.toInt_toBitVec, BitVec.toInt_eq_toNat_cond] at e
  have hl := uN_lt (nI k).toInt64
  unfold uN at hl ⊢
  split at e <;> omega
theorem c_onesI {k : Nat} (h : k < 2 ^ 31) : V PR d 266 0 [(0, vL (nI k).toInt64)] [] (mm n I L P E c s) = some (.inl (some (vi (nI (pcK k)))), mm n I L P E c s) := by
  rw [c_ones]
  rw [pcL, pcK, uN_int h]
def uI (x : Int32) : Nat := x.toBitVec.toNat
def su32 (x : Int32) (k : Int32) : Int32 := (x.toUInt32 >>> (k.toUInt32 &&& Int32.toUInt32 31)).toInt32
def qc1 (x : Int32) : Int32 := x - (su32 x 1 &&& 1431655765)
def qc2 (x : Int32) : Int32 := (x &&& 858993459) + (su32 x 2 &&& 858993459)
def qc3 (x : Int32) : Int32 := (x + su32 x 4) &&& 252645135
def qc4 (k : Int32) (x : Int32) : Int32 := x + su32 x k
def bitI (x : Int32) : Int32 := (qc4 16 (qc4 8 (qc3 (qc2 (qc1 x))))) &&& 63
theorem c_bitI0 (x : Int32) : V PR d 2 0 [(0, vi x)] [] (mm n I L P E c s) = some (.inl (some (vi (bitI x))), mm n I L P E c s) := k_J6_bitCount_0f7a4_0 d n x I L P E c s
theorem uI_lt (x : Int32) : uI x < 2 ^ 32 := x.toBitVec.isLt
theorem uI_su (x : Int32) {k : Int32} {j : Nat} (h : (k.toUInt32 &&& Int32.toUInt32 31).toNat % 32 = j) : uI (su32 x k) = uI x / 2 ^ j := by
  have e : uI (su32 x k) = (x.toUInt32 >>> (k.toUInt32 &&& Int32.toUInt32 31)).toNat := rfl
  rw [e, UInt32.toNat_shiftRight, h, Nat.shiftRight_eq_div_pow]
  rfl
theorem uI_and (x y : Int32) : uI (x &&& y) = uI x &&& uI y := by
  unfold uI
  rw [Int32.toBitVec_and, BitVec.toNat_and]
theorem uI_add {x y : Int32} (h : uI x + uI y < 2 ^ 32) : uI (x + y) = uI x + uI y := by
  unfold uI at h ⊢
  rw [Int32.toBitVec_add, BitVec.toNat_add, Nat.mod_eq_of_lt h]
theorem uI_sub {x y : Int32} (h : uI y ≤ uI x) : uI (x - y) = uI x - uI y := by
  unfold uI at h ⊢
  rw [Int32.toBitVec_sub, BitVec.toNat_sub_of_le h]
theorem ui1 : uI 1431655765 = repN 85 4 := by decide +kernel
theorem ui2 : uI 858993459 = repN 51 4 := by decide +kernel
theorem ui3 : uI 252645135 = repN 15 4 := by decide +kernel
theorem s51_4 : repN 51 4 = 858993459 := by decide +kernel
theorem uI_1 (x : Int32) : uI (qc1 x) = uI x - ((uI x / 2) &&& repN 85 4) := by
  have h : uI (su32 x 1 &&& 1431655765) = (uI x / 2) &&& repN 85 4 := by
    rw [uI_and, uI_su x (j := 1) (by decide +kernel), ui1]
  unfold qc1
  rw [uI_sub, h]
  rw [h]
  have : (uI x / 2) &&& repN 85 4 ≤ uI x / 2 := Nat.and_le_left
  omega
theorem uI_2 (x : Int32) : uI (qc2 x) = (uI x &&& repN 51 4) + ((uI x / 4) &&& repN 51 4) := by
  have h1 : uI (x &&& 858993459) = uI x &&& repN 51 4 := by rw [uI_and, ui2]
  have h2 : uI (su32 x 2 &&& 858993459) = (uI x / 4) &&& repN 51 4 := by
    rw [uI_and, uI_su x (j := 2) (by decide +kernel), ui2]
  unfold qc2
  rw [uI_add, h1, h2]
  rw [h1, h2]
  have l1 : uI x &&& repN 51 4 ≤ repN 51 4 := Nat.and_le_right
  have l2 : (uI x / 4) &&& repN 51 4 ≤ repN 51 4 := Nat.and_le_right
  rw [s51_4] at l1 l2 ⊢
  omega
theorem uI_3 (x : Int32) (h : uI x < 2 ^ 31) : uI (qc3 x) = (uI x + uI x / 16) &&& repN 15 4 := by
  have h2 : uI (su32 x 4) = uI x / 16 := uI_su x (j := 4) (by decide +kernel)
  unfold qc3
  rw [uI_and, ui3, uI_add, h2]
  rw [h2]
  omega
theorem uI_4 (x : Int32) {k : Int32} {j : Nat} (hj : (k.toUInt32 &&& Int32.toUInt32 31).toNat % 32 = j) (h : uI x + uI x / 2 ^ j < 2 ^ 32) : uI (qc4 k x) = uI x + uI x / 2 ^ j := by
  unfold qc4
  rw [uI_add, uI_su x hj]
  rw [uI_su x hj]
  exact h
theorem mapd4 (f : Nat → Nat) (x : Nat) : mapd f 4 x = 256 * (256 * (256 * (256 * 0 + f (x / 256 / 256 / 256 % 256)) + f (x / 256 / 256 % 256)) + f (x / 256 % 256)) + f (x % 256) := by
  simp only [mapd]
theorem sumd4 (f : Nat → Nat) (x : Nat) : sumd f 4 x = f (x % 256) + f (x / 256 % 256) + f (x / 256 / 256 % 256) + f (x / 256 / 256 / 256 % 256) := by
  simp only [sumd]
  omega
theorem fold4 {c0 c1 c2 c3 u : Nat} (h0 : c0 ≤ 8) (h1 : c1 ≤ 8) (h2 : c2 ≤ 8) (h3 : c3 ≤ 8) (hu : u = 256 * (256 * (256 * (256 * 0 + c3) + c2) + c1) + c0) : (u + u / 256 + (u + u / 256) / 65536) % 64 = c0 + c1 + c2 + c3 ∧ u + u / 256 + (u + u / 256) / 65536 < 2 ^ 32 := by
  obtain ⟨q1, q2⟩ := fold8 h0 h1 h2 h3 (Nat.zero_le 8) (Nat.zero_le 8) (Nat.zero_le 8) (Nat.zero_le 8) (u := u) (v := u + u / 256) (w := u + u / 256 + (u + u / 256) / 65536) (by rw [hu]) rfl rfl
  have hm : u ≤ 134744072 := by clear q1 q2; omega
  clear hu q2
  have e : (u + u / 256 + (u + u / 256) / 65536) / 4294967296 = 0 := by clear q1; omega
  have e2 : u + u / 256 + (u + u / 256) / 65536 < 2 ^ 32 := by clear q1 e; omega
  rw [e] at q1
  refine ⟨?_, e2⟩
  clear e e2 hm
  generalize u + u / 256 + (u + u / 256) / 65536 = W at q1 ⊢
  omega
theorem bitI_eq (x : Int32) : bitI x = nI (bsum (uI x) 0 32) := by
  have hz : uI (qc2 (qc1 x)) < 2 ^ 31 := by
    rw [uI_2]
    have l1 : uI (qc1 x) &&& repN 51 4 ≤ repN 51 4 := Nat.and_le_right
    have l2 : (uI (qc1 x) / 4) &&& repN 51 4 ≤ repN 51 4 := Nat.and_le_right
    rw [s51_4] at l1 l2 ⊢
    omega
  have hu : uI (qc3 (qc2 (qc1 x))) = mapd (fun b => bsum b 0 8) 4 (uI x) := by
    rw [uI_3 _ hz]
    exact halves 4 (uI x) (uI_lt x) (uI_1 x) (uI_2 _)
  rw [mapd4] at hu
  have hb : ∀ k, bsum (k % 256) 0 8 ≤ 8 := fun k => b8_le _ (Nat.mod_lt _ (by decide))
  have eb : bitI x = (qc4 16 (qc4 8 (qc3 (qc2 (qc1 x))))) &&& 63 := rfl
  rw [eb]
  obtain ⟨y, hy⟩ : ∃ y, y = qc3 (qc2 (qc1 x)) := ⟨_, rfl⟩
  rw [← hy] at hu ⊢
  obtain ⟨q1, q2⟩ := fold4 (hb _) (hb _) (hb _) (hb _) hu
  have b1 : uI y + uI y / 256 < 2 ^ 32 := Nat.lt_of_le_of_lt (Nat.le_add_right _ _) q2
  have e8 : uI (qc4 8 y) = uI y + uI y / 256 := uI_4 y (j := 8) (by decide +kernel) b1
  have e16 : uI (qc4 16 (qc4 8 y)) = uI (qc4 8 y) + uI (qc4 8 y) / 65536 := uI_4 _ (j := 16) (by decide +kernel) (by
    rw [e8]
    exact q2)
  have es := bsum_sumd 4 (uI x)
  rw [sumd4] at es
  have e9 : (qc4 16 (qc4 8 y)).toBitVec.toNat = uI (qc4 16 (qc4 8 y)) := rfl
  rw [pk_and _ (m := 63) 6 (by decide +kernel), e9, e16, e8, show 2 ^ 6 = 64 from rfl, q1]
  exact congrArg nI es.symm
theorem c_bitI {k : Nat} (h : k < 2 ^ 31) : V PR d 2 0 [(0, vi (nI k))] [] (mm n I L P E c s) = some (.inl (some (vi (nI (pcK k)))), mm n I L P E c s) := by
  have e : uI (nI k) = k := pk_tn (by omega)
  have e2 : pcK k = bsum k 0 32 := by
    have a1 : bsum k 0 (32 + 32) = bsum k 0 32 + bsum k (0 + 32) 32 := bsum_add k 32 0 32
    have a2 : bsum k (0 + 32) 32 = 0 := bsum_hi k 32 (0 + 32) (show k < 2 ^ 32 by omega)
    rw [a2] at a1
    rw [pcK, show (64 : Nat) = 32 + 32 from rfl, a1, Nat.add_zero]
  rw [c_bitI0, bitI_eq, e, e2]
theorem pcK_le (k : Nat) : pcK k ≤ 64 := bsum_le _ 64 0
end PopC
