/-! BITS OF LONGS. -/
theorem tb_ext {x y : Int64} (h : ∀ s, s < 64 → tb x s = tb y s) : x = y := by
  apply Int64.toBitVec_inj.mp
  apply BitVec.eq_of_getLsbD_eq
  intro i hi
  exact h i hi
theorem tb_and (x y : Int64) (s : Nat) : tb (x &&& y) s = (tb x s && tb y s) := by
  unfold tb
  rw [Int64.toBitVec_and, BitVec.getLsbD_and]
theorem tb_or (x y : Int64) (s : Nat) : tb (x ||| y) s = (tb x s || tb y s) := by
  unfold tb
  rw [Int64.toBitVec_or, BitVec.getLsbD_or]
theorem tb_xor (x y : Int64) (s : Nat) : tb (x ^^^ y) s = (tb x s != tb y s) := by
  unfold tb
  rw [Int64.toBitVec_xor, BitVec.getLsbD_xor]
theorem tb_0 (s : Nat) : tb 0 s = false := by
  unfold tb
  rw [show (0 : Int64).toBitVec = 0#64 from rfl]
  simp
theorem tb_m1 {s : Nat} (h : s < 64) : tb (-1) s = true := by
  unfold tb
  rw [show (-1 : Int64).toBitVec = BitVec.allOnes 64 from by decide +kernel, BitVec.getLsbD_allOnes]
  exact decide_eq_true h
theorem tb_lt {x : Int64} {s : Nat} (h : 64 ≤ s) : tb x s = false := BitVec.getLsbD_of_ge _ _ h
theorem tb_pow {k s : Nat} (hk : k < 64) : tb (Int64.ofBitVec (BitVec.ofNat 64 (2 ^ k))) s = decide (s = k) := by
  unfold tb
  rw [show (Int64.ofBitVec (BitVec.ofNat 64 (2 ^ k))).toBitVec = BitVec.ofNat 64 (2 ^ k) from rfl, BitVec.getLsbD_ofNat]
  by_cases h : s = k
  · subst h
    simp [hk, Nat.testBit_two_pow_self]
  · rw [Nat.testBit_two_pow_of_ne (fun e => h e.symm)]
    simp [h]
theorem tb_mk (p : Nat → Bool) : ∀ (n s : Nat), n ≤ 64 → tb (mkL p n) s = (decide (s < n) && p s)
  | 0, s, _ => by
    show tb 0 s = _
    rw [tb_0]
    simp
  | n + 1, s, h => by
    show tb (mkL p n ||| _) s = _
    rw [tb_or, tb_mk p n s (by omega)]
    cases hp : p n with
    | false =>
      rw [cond_false, tb_0, Bool.or_false]
      by_cases e : s = n
      · subst e
        simp [hp]
      · have : decide (s < n + 1) = decide (s < n) := by rw [decide_eq_decide]; omega
        rw [this]
    | true =>
      rw [cond_true, tb_pow (by omega)]
      by_cases e : s = n
      · subst e
        simp [hp]
      · have : decide (s < n + 1) = decide (s < n) := by rw [decide_eq_decide]; omega
        rw [this]
        simp [e]
theorem tb_all {b s : Nat} (hb : b ≤ 6) : tb (allL b) s = decide (s < 2 ^ b) := by
  have key : ∀ b, b ≤ 6 → ∀ s, s < 64 → tb (allL b) s = decide (s < 2 ^ b) := by decide +kernel
  rcases Nat.lt_or_ge s 64 with h | h
  · exact key b hb s h
  · rw [tb_lt h]
    have : 2 ^ b ≤ 2 ^ 6 := Nat.pow_le_pow_right (by decide) hb
    exact (decide_eq_false (by omega)).symm
theorem and_m1 (x : Int64) : x &&& (-1) = x := tb_ext fun s hs => by rw [tb_and, tb_m1 hs, Bool.and_true]
theorem not_x {x : Int64} {s : Nat} (h : s < 64) : tb (x ^^^ (-1)) s = !tb x s := by
  rw [tb_xor, tb_m1 h]
  cases tb x s <;> rfl
theorem shl1 : ∀ s, s < 64 → (1 : Int64) <<< ((nI s).toInt64 &&& 63) = Int64.ofBitVec (BitVec.ofNat 64 (2 ^ s)) := by decide +kernel
theorem or_0 (x : Int64) : x ||| 0 = x := tb_ext fun s _ => by rw [tb_or, tb_0, Bool.or_false]
theorem xor_0 (x : Int64) : x ^^^ 0 = x := tb_ext fun s _ => by rw [tb_xor, tb_0]; cases tb x s <;> rfl
theorem and_all {x : Int64} {b : Nat} (hb : b ≤ 6) (h : ∀ s, 2 ^ b ≤ s → tb x s = false) : x &&& allL b = x := tb_ext fun s _ => by
  rw [tb_and, tb_all hb]
  rcases Nat.lt_or_ge s (2 ^ b) with q | q
  · rw [decide_eq_true q, Bool.and_true]
  · rw [h s q]; rfl
theorem mk_all {p : Nat → Bool} {b : Nat} (hb : b ≤ 6) : mkL p (2 ^ b) &&& allL b = mkL p (2 ^ b) := and_all hb fun s hs => by
  have : 2 ^ b ≤ 2 ^ 6 := Nat.pow_le_pow_right (by decide) hb
  rw [tb_mk p _ _ (by omega), decide_eq_false (by omega)]
  rfl
/-- what is left by answers, one left out -/
def lfV (f : Nat → Int64) (sk : Int32) : Int64 → Nat → Nat → Int64
  | v, _, 0 => v
  | v, k, m + 1 => lfV f sk (bif decide (nI k = sk) then v else v &&& f k) (k + 1) m
theorem lfV_congr {f g : Nat → Int64} {sk : Int32} : ∀ (m k : Nat) (v : Int64), (∀ j, k ≤ j → j < k + m → f j = g j) → lfV f sk v k m = lfV g sk v k m
  | 0, _, _, _ => rfl
  | m + 1, k, v, h => by
    show lfV f sk (bif decide (nI k = sk) then v else v &&& f k) (k + 1) m = lfV g sk (bif decide (nI k = sk) then v else v &&& g k) (k + 1) m
    rw [h k (Nat.le_refl _) (by omega)]
    exact lfV_congr m (k + 1) _ fun j h1 h2 => h j (by omega) (by omega)
section Left
variable {d n t : Nat} {I : FI} {L : FL} {P : FR} {E : FE} {c s : Nat}
theorem c_all (hT : RTold I) : V PR (d + 2) 265 0 [(0, vR (some (186, 0)))] [] (mm n I L P E c s) = some (.inl (some (vL (allL (zB I)))), mm n I L P E c s) := by
  have key : ∀ b, b ≤ 6 → (b = 6 ∧ (!decide (nI (2 ^ b) = (64 : Int32))) = false ∧ (-1 : Int64) = allL b) ∨ ((!decide (nI (2 ^ b) = (64 : Int32))) = true ∧ (1 : Int64) <<< ((nI (2 ^ b)).toInt64 &&& 63) - 1 = allL b) := by decide +kernel
  simp only [k_X12_all_0, k_X12_statesOf_v2_0, Vk_v, Nat.reduceAdd, st_val hT, k_X12_all_7]
  rcases key _ (zB_le hT) with ⟨-, h1, h2⟩ | ⟨h1, h2⟩
  · rw [h1, cond_false, h2]
  · rw [h1, cond_true]
    simp only [Vk_v, Nat.reduceAdd, k_X12_all_26, h2]
theorem left_R {many : Nat} (hm : many ≤ 60) (sk : Int32) : ∀ (m k : Nat) (v : Int64), k + m = many → V PR d 268 8 [(0, vR (some (186, 0))), (1, vi (nI many)), (2, vi sk), (3, vL v), (5, vi (nI k))] [] (mm n I L P E c s) = some (.inl (some (vL (lfV (fun j => L 316 0 j) sk v k m))), mm n I L P E c s)
  | 0, k, v, h => by
    rw [k_X12_leftBy_8, decide_eq_true (nI_le (by omega) (by omega)), cond_true]
    rfl
  | m + 1, k, v, h => by
    rw [k_X12_leftBy_8, decide_eq_false (nI_ge (by omega) (by omega)), cond_false]
    show _ = some (Sum.inl (some (vL (lfV (fun j => L 316 0 j) sk (bif decide (nI k = sk) then v else v &&& L 316 0 k) (k + 1) m))), mm n I L P E c s)
    rw [inb_nI (show k < 60 by omega) (by decide), nI_clamp (by omega), nI_1, and_m1]
    cases decide (nI k = sk) with
    | true => exact left_R hm sk m (k + 1) v (by omega)
    | false => exact left_R hm sk m (k + 1) _ (by omega)
theorem left_C {many : Nat} (hm : many ≤ 60) (sk : Int32) {al : Int64} : ∀ (m k : Nat) (v : Int64), v &&& al = v → k + m = many → V PR d 29 6 [(0, vR (some (127, 0))), (1, vL al), (3, vi (nI many)), (4, vi sk), (5, vL v), (7, vi (nI k))] [] (mm n I L P E c s) = some (.inl (some (vL (lfV (fun j => L 132 0 j) sk v k m))), mm n I L P E c s)
  | 0, k, v, hv, h => by
    rw [k_X1_leftBy_6, decide_eq_true (nI_le (by omega) (by omega)), cond_true]
    rfl
  | m + 1, k, v, hv, h => by
    rw [k_X1_leftBy_6, decide_eq_false (nI_ge (by omega) (by omega)), cond_false, show decide ((60 : Int32) ≤ nI k) = false from decide_eq_false (nI_ge (b := 60) (by omega) (by omega)), cond_false]
    show _ = some (Sum.inl (some (vL (lfV (fun j => L 132 0 j) sk (bif decide (nI k = sk) then v else v &&& L 132 0 k) (k + 1) m))), mm n I L P E c s)
    rw [inb_nI (show k < 60 by omega) (by decide), nI_clamp (by omega), nI_1, hv]
    cases decide (nI k = sk) with
    | true => exact left_C hm sk m (k + 1) v hv (by omega)
    | false => exact left_C hm sk m (k + 1) _ (by
        refine tb_ext fun s _ => ?_
        have := congrArg (fun q => tb q s) hv
        simp only [tb_and] at this ⊢
        cases h1 : tb v s <;> cases h2 : tb al s <;> cases h3 : tb (L 132 0 k) s <;> simp_all) (by omega)
/-- states left by the first so many answers, one left out -/
def lefV (I : FI) (L : FL) (sk : Int32) (many : Nat) : Int64 := lfV (fun j => L 316 0 j) sk (allL (zB I)) 0 many
theorem c_leftR (hT : RTold I) {many : Nat} (hm : many ≤ 60) (sk : Int32) : V PR (d + 3) 268 0 [(0, vR (some (186, 0))), (1, vi (nI many)), (2, vi sk)] [] (mm n I L P E c s) = some (.inl (some (vL (lefV I L sk many))), mm n I L P E c s) := by
  rw [k_X12_leftBy_0, c_all hT, Vk_v, k_X12_leftBy_4]
  exact left_R hm sk many 0 _ (by omega)
theorem c_leftC (hT : RTold I) (hl : RLand I L) (hd : RDia I L) {many : Nat} (hm : many ≤ zA I) (sk : Int32) : V PR d 29 0 [(0, vR (some (127, 0))), (1, vL (L 103 0 5)), (3, vi (nI many)), (4, vi sk)] [] (mm n I L P E c s) = some (.inl (some (vL (lefV I L sk many))), mm n I L P E c s) := by
  obtain ⟨d1, d2, d3, d4⟩ := hd
  rw [k_X1_leftBy_0, hl.2.2.2.2.2.1]
  have h0 : allL (zB I) &&& allL (zB I) = allL (zB I) := tb_ext fun s _ => by rw [tb_and, Bool.and_self]
  refine (left_C (by omega) sk many 0 _ h0 (by omega)).trans ?_
  unfold lefV
  rw [lfV_congr many 0 _ fun j _ h2 => (d4 j (by omega)).2.2.2.1]
theorem c_leftNow (hT : RTold I) (hd : RDia I L) : V PR (d + 4) 269 0 [(0, vR (some (186, 0)))] [] (mm n I L P E c s) = some (.inl (some (vL (lefV I L (-1) (zA I)))), mm n I L P E c s) := by
  have hk := hd.1
  rw [k_X12_leftNow_0, hk, c_leftR hT hd.2.1, Vk_v, k_X12_leftNow_9]
theorem c_statesLeft (hT : RTold I) (hl : RLand I L) (hd : RDia I L) : V PR (d + 1) 149 0 [(0, vR (some (100, 0)))] [] (mm n I L P E c s) = some (.inl (some (vL (lefV I L (-1) (zA I)))), mm n I L P E c s) := by
  have hk : I 127 0 2 = nI (zA I) := hd.2.2.1.trans hd.1
  rw [k_X11_statesLeft_0, hk, c_leftC hT hl hd (Nat.le_refl _), Vk_v, k_X11_statesLeft_22]
end Left
