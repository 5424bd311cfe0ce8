/-! THE LOWEST BIT that is set. -/
section Ctz
variable {d n t : Nat} {I J M : FI} {L K N : FL} {P : FR} {E : FE} {c s : Nat}
theorem cz_out (b : Bool) (x y : Int32) (M : Mem) : (bif b then (some (Sum.inl (some (vi x)), M) : Option (Out × Mem)) else some (Sum.inl (some (vi y)), M)) = some (Sum.inl (some (vi (bif b then x else y))), M) := by cases b <;> rfl
theorem c_ctzI {x : Int32} {k : Nat} (hm : (x ^^^ (-1)) &&& (x - 1) = nI (2 ^ k - 1)) (hk : k < 32) : V PR d 1 0 [(0, vi x)] [] (mm n I L P E c s) = some (.inl (some (vi (nI k))), mm n I L P E c s) := by
  rw [k_J6_numberOfTrailingZeros_0f7a4_0]
  simp only [hm, cz_out]
  refine congrArg (fun z => (some (Sum.inl (some (vi z)), mm n I L P E c s) : Option (Out × Mem))) ?_
  clear hm
  revert hk
  revert k
  decide +kernel
def loB (f : Nat → Bool) (k : Nat) : Prop := f k = true ∧ ∀ j, j < k → f j = false
theorem mask_I {x : Int32} {k : Nat} (hk : k < 32) (h : loB (tbi x) k) : (x ^^^ (-1)) &&& (x - 1) = nI (2 ^ k - 1) := by
  obtain ⟨h1, h2⟩ := h
  obtain ⟨X, hX⟩ : ∃ X, X = x.toBitVec.toNat := ⟨_, rfl⟩
  have hlt : X < 2 ^ 32 := by rw [hX]; exact x.toBitVec.isLt
  have tbe : ∀ j, tbi x j = X.testBit j := fun j => by rw [hX, BitVec.testBit_toNat]; rfl
  have hp := Nat.two_pow_pos k
  have hp2 : 2 ^ k ≤ 2 ^ 31 := Nat.pow_le_pow_right (by decide) (by omega)
  -- the low bits are none
  have hlow : X % 2 ^ k = 0 := by
    refine Nat.eq_of_testBit_eq fun j => ?_
    rw [Nat.testBit_mod_two_pow, Nat.zero_testBit]
    by_cases q : j < k
    · rw [← tbe, h2 j q, Bool.and_false]
    · rw [decide_eq_false q, Bool.false_and]
  have hodd : X / 2 ^ k % 2 = 1 := by
    have := h1
    rw [tbe, Nat.testBit_eq_decide_div_mod_eq, decide_eq_true_eq] at this
    exact this
  obtain ⟨a, ha⟩ : ∃ a, X / 2 ^ k = 2 * a + 1 := ⟨X / 2 ^ k / 2, by omega⟩
  have hX2 : X = 2 ^ k * (2 * a + 1) := by
    have := Nat.div_add_mod X (2 ^ k)
    rw [hlow, ha] at this
    omega
  have hX3 : X = 2 ^ k * (2 * a) + 2 ^ k := by rw [hX2, Nat.mul_add, Nat.mul_one]
  have hX4 : X - 1 = 2 ^ k * (2 * a) + (2 ^ k - 1) := by omega
  have hs : (x - 1).toBitVec.toNat = X - 1 := by
    rw [Int32.toBitVec_sub, BitVec.toNat_sub_of_le, ← hX]
    · rfl
    · show (1 : Int32).toBitVec.toNat ≤ x.toBitVec.toNat
      rw [← hX]
      show 1 ≤ X
      omega
  apply Int32.toBitVec_inj.mp
  apply BitVec.eq_of_getLsbD_eq
  intro i hi
  have e1 : (x - 1).toBitVec.getLsbD i = (X - 1).testBit i := by rw [← hs, BitVec.testBit_toNat]
  have e2 : (nI (2 ^ k - 1)).toBitVec.getLsbD i = decide (i < k) := by
    rw [← BitVec.testBit_toNat, pk_tn (by omega), Nat.testBit_two_pow_sub_one]
  have e3 : (-1 : Int32).toBitVec.getLsbD i = true := by
    have key : ∀ i, i < 32 → (-1 : Int32).toBitVec.getLsbD i = true := by decide +kernel
    exact key i hi
  have e4 : x.toBitVec.getLsbD i = X.testBit i := tbe i
  rw [Int32.toBitVec_and, BitVec.getLsbD_and, Int32.toBitVec_xor, BitVec.getLsbD_xor, e1, e2, e3, e4, hX4, Nat.testBit_two_pow_mul_add _ (by omega), Nat.testBit_two_pow_sub_one]
  by_cases q : i < k
  · rw [if_pos q, ← tbe, h2 i q, decide_eq_true q]
    rfl
  · rw [if_neg q, decide_eq_false q]
    have e5 : X.testBit i = (2 * a + 1).testBit (i - k) := by
      rw [hX2]
      have := Nat.testBit_two_pow_mul_add (2 * a + 1) (i := k) (b := 0) hp i
      rw [Nat.add_zero, if_neg q] at this
      exact this
    rw [e5]
    by_cases q2 : i = k
    · rw [q2, Nat.sub_self]
      have z1 : (2 * a + 1).testBit 0 = true := by rw [Nat.testBit_eq_decide_div_mod_eq, Nat.pow_zero, Nat.div_one]; exact decide_eq_true (by omega)
      rw [z1]
      rfl
    · obtain ⟨j, hj⟩ : ∃ j, i - k = j + 1 := ⟨i - k - 1, by omega⟩
      rw [hj]
      have z1 : (2 * a + 1).testBit (j + 1) = a.testBit j := by rw [Nat.testBit_succ, show (2 * a + 1) / 2 = a by omega]
      have z2 : (2 * a).testBit (j + 1) = a.testBit j := by rw [Nat.testBit_succ, show 2 * a / 2 = a by omega]
      rw [z1, z2]
      cases a.testBit j <;> rfl
theorem lo_tbi (x : Int64) {j : Nat} (hj : j < 32) : tbi x.toInt32 j = tb x j := by
  unfold tbi tb
  rw [Int64.toBitVec_toInt32, BitVec.signExtend_eq_setWidth_of_le _ (by decide), BitVec.getLsbD_setWidth, decide_eq_true hj, Bool.true_and]
theorem hi_tbi (x : Int64) {j : Nat} (hj : j < 32) : tbi ((x.toUInt64 >>> (((32 : Int32)).toInt64.toUInt64 &&& Int64.toUInt64 63)).toInt64.toInt32) j = tb x (32 + j) := by
  rw [lo_tbi _ hj]
  unfold tb
  rw [UInt64.toBitVec_toInt64, UInt64.toBitVec_shiftRight, BitVec.ushiftRight_eq', show (((32 : Int32).toInt64.toUInt64 &&& Int64.toUInt64 63).toBitVec % 64).toNat = 32 by decide +kernel, BitVec.getLsbD_ushiftRight]
  rfl
theorem tbi_ne {x : Int32} {k : Nat} (h : tbi x k = true) : decide (x = 0) = false := decide_eq_false fun e => by
  rw [e, tbi_0] at h
  cases h
theorem tbi_ext {x y : Int32} (h : ∀ j, j < 32 → tbi x j = tbi y j) : x = y := by
  apply Int32.toBitVec_inj.mp
  apply BitVec.eq_of_getLsbD_eq
  intro i hi
  exact h i hi
theorem c_ctz {x : Int64} {k : Nat} (hk : k < 64) (h : loB (tb x) k) : V PR (d + 1) 6 0 [(0, vL x)] [] (mm n I L P E c s) = some (.inl (some (vi (nI k))), mm n I L P E c s) := by
  obtain ⟨h1, h2⟩ := h
  rw [k_J13_numberOfTrailingZeros_95d88_0]
  by_cases q : k < 32
  · have l1 : loB (tbi x.toInt32) k := ⟨by rw [lo_tbi x q]; exact h1, fun j hj => by rw [lo_tbi x (by omega)]; exact h2 j hj⟩
    rw [tbi_ne l1.1, Bool.not_false, cond_true, c_ctzI (mask_I q l1) q, Vk_v, k_J13_numberOfTrailingZeros_95d88_25]
  · have z : x.toInt32 = 0 := tbi_ext fun j hj => by rw [lo_tbi x hj, tbi_0]; exact h2 j (by omega)
    have l1 : loB (tbi ((x.toUInt64 >>> (((32 : Int32)).toInt64.toUInt64 &&& Int64.toUInt64 63)).toInt64.toInt32)) (k - 32) := ⟨by rw [hi_tbi x (by omega), show 32 + (k - 32) = k by omega]; exact h1, fun j hj => by rw [hi_tbi x (by omega)]; exact h2 _ (by omega)⟩
    rw [decide_eq_true z, Bool.not_true, cond_false, c_ctzI (mask_I (by omega) l1) (by omega), Vk_v, k_J13_numberOfTrailingZeros_95d88_17, show (32 : Int32) = nI 32 from rfl, nI_add, show 32 + (k - 32) = k by omega]
end Ctz
