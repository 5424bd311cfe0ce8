/-! TEXTS: what the class asks of a token (in part written by program). -/
theorem pt_lt : ∀ k, k < 17 → ∀ i, i < 6 → 2 ≤ k → (prgT k).getD i 0 < 128 := by decide +kernel
section Pure3
variable (B : Nat → Nat) (n : Nat)
/-- a word stands there -/
def isW (p : Nat) (l : List Nat) : Bool := decide (wd B n p - p = l.length) && alB (fun i => decide (B (p + i) = l.getD i 0)) 0 l.length
/-- a sign -/
def sgB (p w : Nat) : Bool := decide (kdT B n p = 3) && decide (B p = w)
def nuV (p : Nat) : Nat := nvR B n (n - p) p 0
/-- a number's fault: none, no number, one out of bounds -/
def nuF (p l h : Nat) : Nat := if kdT B n p ≠ 2 then 1 else if l ≤ nuV B n p ∧ nuV B n p < h then 0 else 2
/-- a word's letters as bits -/
def lbP (N : Nat) : Nat → Nat → Nat → Option Nat
  | 0, _, b => some b
  | r + 1, i, b => bif decide (N ≤ B i - 97) || b.testBit (B i - 97) then none else lbP N r (i + 1) (b ||| 2 ^ (B i - 97))
end Pure3
/-- a bound from above -/
def hiO (x : Int32) (h : Nat) : Prop := ∀ v, v < 1000000 → decide (x < nI v) = decide (h ≤ v)
theorem hiO_p {h : Nat} (hh : h < 1000000) : hiO (nI h - 1) h := fun v hv => by
  cases h with
  | zero =>
    rw [decide_eq_true (Nat.zero_le v)]
    refine decide_eq_true ?_
    rw [Int32.lt_iff_toInt_lt, nI_toInt (by omega), show (nI 0 - 1).toInt = -1 by decide +kernel]
    omega
  | succ h =>
    rw [nI_pred, nI_ltd (by omega) (by omega)]
    exact decide_eq_decide.mpr (by omega)
section TextC2
variable {d nn : Nat} {I J : FI} {L : FL} {P : FR} {E : FE} {c s : Nat} {B : Nat → Nat} {n p : Nat}
theorem kd_1 {p : Nat} : decide (kdT B n p = 1) = smB B n p := by
  unfold kdT
  by_cases h : n ≤ p
  · rw [if_pos h, sm_n h]; rfl
  · rw [if_neg h]
    cases smB B n p with
    | true => rw [if_pos rfl]; rfl
    | false =>
      rw [if_neg (by decide)]
      cases dgB B n p with
      | true => rw [if_pos rfl]; rfl
      | false => rw [if_neg (by decide)]; rfl
theorem kd_2 {p : Nat} : decide (kdT B n p = 2) = dgB B n p := by
  unfold kdT
  by_cases h : n ≤ p
  · rw [if_pos h, dg_n h]; rfl
  · rw [if_neg h]
    cases q : smB B n p with
    | true =>
      rw [if_pos rfl]
      cases q2 : dgB B n p with
      | true => have := sm_r q; have := dg_r q2; omega
      | false => rfl
    | false =>
      rw [if_neg (by decide)]
      cases dgB B n p with
      | true => rw [if_pos rfl]; rfl
      | false => rw [if_neg (by decide)]; rfl
theorem kd_lt (p : Nat) : kdT B n p < 4 := by
  unfold kdT
  split
  · decide
  · split
    · decide
    · split <;> decide
theorem kd_w (hk : TkC B n I p) (k : Nat) (h : k < 4) : decide (I 102 0 2 = nI k) = decide (kdT B n p = k) := by
  rw [hk.2.2.1]
  exact decide_eq_decide.mpr (nI_eq (by have := kd_lt (B := B) (n := n) p; omega) (by omega))
theorem en_w (h : smB B n p = true) : enT B n p = wd B n p := by
  have := sm_lt h
  unfold enT
  rw [if_neg (by omega), if_pos h]
theorem en_d (h : dgB B n p = true) : enT B n p = dg B n p := by
  have h1 := dg_lt h
  have h2 : smB B n p = false := by
    cases q : smB B n p with
    | true => have := sm_r q; have := dg_r h; omega
    | false => rfl
  unfold enT
  rw [if_neg (by omega), if_neg (by rw [h2]; decide), if_pos h]

theorem cw_l2 (hT : TxC B n I) (h3 : I 102 0 3 = nI p) (hw : wd B n p - p = 5) (hp : p ≤ n) : ∀ r i, i + r = 5 → V PR d 122 28 [(0, vR (some (102, 0))), (1, vR (some (2, 0))), (2, vi (nI i))] [] (mm nn I L P E c s) = some (.inl (some (vi (b2i (alB (fun j => decide (B (p + j) = (prgT 2).getD j 0)) i r)))), mm nn I L P E c s)
  | 0, i, h => by
    rw [k_X10_isWord_28, show decide ((5 : Int32) ≤ nI i) = true from (nI_led (a := 5) (by decide) (by omega)).trans (decide_eq_true (by omega)), cond_true]
    rfl
  | r + 1, i, h => by
    have h6 := hT.1
    have hl := wd_le (B := B) (n := n) hp
    have hb := hT.2.2.1 (p + i) (by omega)
    have ec : decide (I 101 0 (nI (p + i)).toNatClampNeg = Int32.ofNat ((prgT 2).getD (nI i).toNatClampNeg 0)) = decide (B (p + i) = (prgT 2).getD i 0) := by
      rw [nI_clamp (show p + i < 2 ^ 31 by omega), nI_clamp (show i < 2 ^ 31 by omega), hT.2.2.2 (p + i) (by omega)]
      exact cbb_eq hb _ (pt_lt 2 (by decide) i (by omega) (by decide))
    have A := cw_l2 hT h3 hw hp r (i + 1) (by omega)
    rw [k_X10_isWord_28, show decide ((5 : Int32) ≤ nI i) = false from (nI_led (a := 5) (by decide) (by omega)).trans (decide_eq_false (by omega)), cond_false, h3, nI_add, hT.2.1, nI_led (by omega) (by omega), decide_eq_false (by omega), cond_false, inb_nI (by omega) (by decide), cond_true, inb_nI (show i < 5 by omega) (by decide), cond_true, ec, nI_1]
    show _ = some (Sum.inl (some (vi (b2i (decide (B (p + i) = (prgT 2).getD i 0) && alB (fun j => decide (B (p + j) = (prgT 2).getD j 0)) (i + 1) r)))), mm nn I L P E c s)
    cases decide (B (p + i) = (prgT 2).getD i 0) with
    | true => exact A
    | false => rfl
theorem cw_2 (hT : TxC B n I) (hk : TkC B n I p) : V PR d 122 0 [(0, vR (some (102, 0))), (1, vR (some (2, 0)))] [] (mm nn I L P E c s) = some (.inl (some (vi (b2i (isW B n p (prgT 2))))), mm nn I L P E c s) := by
  have h6 := hT.1
  have hp := hk.1
  rw [k_X10_isWord_0, show decide (I 102 0 2 = (1 : Int32)) = smB B n p from (kd_w hk 1 (by decide)).trans kd_1]
  unfold isW
  rw [show (prgT 2).length = 5 by decide +kernel]
  cases hs : smB B n p with
  | false =>
    rw [Bool.not_false, cond_true, wd_eq hs, Nat.sub_self]
    rfl
  | true =>
    have hl := wd_le (B := B) (n := n) hp
    have hg := wd_ge (B := B) (n := n) p
    rw [Bool.not_true, cond_false, hk.2.2.2.1, hk.2.1, en_w hs, pk_sub hg]
    rw [show decide (nI (wd B n p - p) = (5 : Int32)) = decide (wd B n p - p = 5) from decide_eq_decide.mpr (nI_eq (b := 5) (by omega) (by decide))]
    by_cases q : wd B n p - p = 5
    · rw [decide_eq_true q, cond_true, Bool.true_and]
      exact cw_l2 hT hk.2.1 q hp 5 0 rfl
    · rw [decide_eq_false q]
      rfl

theorem cw_l3 (hT : TxC B n I) (h3 : I 102 0 3 = nI p) (hw : wd B n p - p = 5) (hp : p ≤ n) : ∀ r i, i + r = 5 → V PR d 122 28 [(0, vR (some (102, 0))), (1, vR (some (3, 0))), (2, vi (nI i))] [] (mm nn I L P E c s) = some (.inl (some (vi (b2i (alB (fun j => decide (B (p + j) = (prgT 3).getD j 0)) i r)))), mm nn I L P E c s)
  | 0, i, h => by
    rw [k_X10_isWord_v2_28, show decide ((5 : Int32) ≤ nI i) = true from (nI_led (a := 5) (by decide) (by omega)).trans (decide_eq_true (by omega)), cond_true]
    rfl
  | r + 1, i, h => by
    have h6 := hT.1
    have hl := wd_le (B := B) (n := n) hp
    have hb := hT.2.2.1 (p + i) (by omega)
    have ec : decide (I 101 0 (nI (p + i)).toNatClampNeg = Int32.ofNat ((prgT 3).getD (nI i).toNatClampNeg 0)) = decide (B (p + i) = (prgT 3).getD i 0) := by
      rw [nI_clamp (show p + i < 2 ^ 31 by omega), nI_clamp (show i < 2 ^ 31 by omega), hT.2.2.2 (p + i) (by omega)]
      exact cbb_eq hb _ (pt_lt 3 (by decide) i (by omega) (by decide))
    have A := cw_l3 hT h3 hw hp r (i + 1) (by omega)
    rw [k_X10_isWord_v2_28, show decide ((5 : Int32) ≤ nI i) = false from (nI_led (a := 5) (by decide) (by omega)).trans (decide_eq_false (by omega)), cond_false, h3, nI_add, hT.2.1, nI_led (by omega) (by omega), decide_eq_false (by omega), cond_false, inb_nI (by omega) (by decide), cond_true, inb_nI (show i < 5 by omega) (by decide), cond_true, ec, nI_1]
    show _ = some (Sum.inl (some (vi (b2i (decide (B (p + i) = (prgT 3).getD i 0) && alB (fun j => decide (B (p + j) = (prgT 3).getD j 0)) (i + 1) r)))), mm nn I L P E c s)
    cases decide (B (p + i) = (prgT 3).getD i 0) with
    | true => exact A
    | false => rfl
theorem cw_3 (hT : TxC B n I) (hk : TkC B n I p) : V PR d 122 0 [(0, vR (some (102, 0))), (1, vR (some (3, 0)))] [] (mm nn I L P E c s) = some (.inl (some (vi (b2i (isW B n p (prgT 3))))), mm nn I L P E c s) := by
  have h6 := hT.1
  have hp := hk.1
  rw [k_X10_isWord_v2_0, show decide (I 102 0 2 = (1 : Int32)) = smB B n p from (kd_w hk 1 (by decide)).trans kd_1]
  unfold isW
  rw [show (prgT 3).length = 5 by decide +kernel]
  cases hs : smB B n p with
  | false =>
    rw [Bool.not_false, cond_true, wd_eq hs, Nat.sub_self]
    rfl
  | true =>
    have hl := wd_le (B := B) (n := n) hp
    have hg := wd_ge (B := B) (n := n) p
    rw [Bool.not_true, cond_false, hk.2.2.2.1, hk.2.1, en_w hs, pk_sub hg]
    rw [show decide (nI (wd B n p - p) = (5 : Int32)) = decide (wd B n p - p = 5) from decide_eq_decide.mpr (nI_eq (b := 5) (by omega) (by decide))]
    by_cases q : wd B n p - p = 5
    · rw [decide_eq_true q, cond_true, Bool.true_and]
      exact cw_l3 hT hk.2.1 q hp 5 0 rfl
    · rw [decide_eq_false q]
      rfl

theorem cw_l4 (hT : TxC B n I) (h3 : I 102 0 3 = nI p) (hw : wd B n p - p = 4) (hp : p ≤ n) : ∀ r i, i + r = 4 → V PR d 122 28 [(0, vR (some (102, 0))), (1, vR (some (4, 0))), (2, vi (nI i))] [] (mm nn I L P E c s) = some (.inl (some (vi (b2i (alB (fun j => decide (B (p + j) = (prgT 4).getD j 0)) i r)))), mm nn I L P E c s)
  | 0, i, h => by
    rw [k_X10_isWord_v3_28, show decide ((4 : Int32) ≤ nI i) = true from (nI_led (a := 4) (by decide) (by omega)).trans (decide_eq_true (by omega)), cond_true]
    rfl
  | r + 1, i, h => by
    have h6 := hT.1
    have hl := wd_le (B := B) (n := n) hp
    have hb := hT.2.2.1 (p + i) (by omega)
    have ec : decide (I 101 0 (nI (p + i)).toNatClampNeg = Int32.ofNat ((prgT 4).getD (nI i).toNatClampNeg 0)) = decide (B (p + i) = (prgT 4).getD i 0) := by
      rw [nI_clamp (show p + i < 2 ^ 31 by omega), nI_clamp (show i < 2 ^ 31 by omega), hT.2.2.2 (p + i) (by omega)]
      exact cbb_eq hb _ (pt_lt 4 (by decide) i (by omega) (by decide))
    have A := cw_l4 hT h3 hw hp r (i + 1) (by omega)
    rw [k_X10_isWord_v3_28, show decide ((4 : Int32) ≤ nI i) = false from (nI_led (a := 4) (by decide) (by omega)).trans (decide_eq_false (by omega)), cond_false, h3, nI_add, hT.2.1, nI_led (by omega) (by omega), decide_eq_false (by omega), cond_false, inb_nI (by omega) (by decide), cond_true, inb_nI (show i < 4 by omega) (by decide), cond_true, ec, nI_1]
    show _ = some (Sum.inl (some (vi (b2i (decide (B (p + i) = (prgT 4).getD i 0) && alB (fun j => decide (B (p + j) = (prgT 4).getD j 0)) (i + 1) r)))), mm nn I L P E c s)
    cases decide (B (p + i) = (prgT 4).getD i 0) with
    | true => exact A
    | false => rfl
theorem cw_4 (hT : TxC B n I) (hk : TkC B n I p) : V PR d 122 0 [(0, vR (some (102, 0))), (1, vR (some (4, 0)))] [] (mm nn I L P E c s) = some (.inl (some (vi (b2i (isW B n p (prgT 4))))), mm nn I L P E c s) := by
  have h6 := hT.1
  have hp := hk.1
  rw [k_X10_isWord_v3_0, show decide (I 102 0 2 = (1 : Int32)) = smB B n p from (kd_w hk 1 (by decide)).trans kd_1]
  unfold isW
  rw [show (prgT 4).length = 4 by decide +kernel]
  cases hs : smB B n p with
  | false =>
    rw [Bool.not_false, cond_true, wd_eq hs, Nat.sub_self]
    rfl
  | true =>
    have hl := wd_le (B := B) (n := n) hp
    have hg := wd_ge (B := B) (n := n) p
    rw [Bool.not_true, cond_false, hk.2.2.2.1, hk.2.1, en_w hs, pk_sub hg]
    rw [show decide (nI (wd B n p - p) = (4 : Int32)) = decide (wd B n p - p = 4) from decide_eq_decide.mpr (nI_eq (b := 4) (by omega) (by decide))]
    by_cases q : wd B n p - p = 4
    · rw [decide_eq_true q, cond_true, Bool.true_and]
      exact cw_l4 hT hk.2.1 q hp 4 0 rfl
    · rw [decide_eq_false q]
      rfl

theorem cw_l5 (hT : TxC B n I) (h3 : I 102 0 3 = nI p) (hw : wd B n p - p = 4) (hp : p ≤ n) : ∀ r i, i + r = 4 → V PR d 122 28 [(0, vR (some (102, 0))), (1, vR (some (5, 0))), (2, vi (nI i))] [] (mm nn I L P E c s) = some (.inl (some (vi (b2i (alB (fun j => decide (B (p + j) = (prgT 5).getD j 0)) i r)))), mm nn I L P E c s)
  | 0, i, h => by
    rw [k_X10_isWord_v4_28, show decide ((4 : Int32) ≤ nI i) = true from (nI_led (a := 4) (by decide) (by omega)).trans (decide_eq_true (by omega)), cond_true]
    rfl
  | r + 1, i, h => by
    have h6 := hT.1
    have hl := wd_le (B := B) (n := n) hp
    have hb := hT.2.2.1 (p + i) (by omega)
    have ec : decide (I 101 0 (nI (p + i)).toNatClampNeg = Int32.ofNat ((prgT 5).getD (nI i).toNatClampNeg 0)) = decide (B (p + i) = (prgT 5).getD i 0) := by
      rw [nI_clamp (show p + i < 2 ^ 31 by omega), nI_clamp (show i < 2 ^ 31 by omega), hT.2.2.2 (p + i) (by omega)]
      exact cbb_eq hb _ (pt_lt 5 (by decide) i (by omega) (by decide))
    have A := cw_l5 hT h3 hw hp r (i + 1) (by omega)
    rw [k_X10_isWord_v4_28, show decide ((4 : Int32) ≤ nI i) = false from (nI_led (a := 4) (by decide) (by omega)).trans (decide_eq_false (by omega)), cond_false, h3, nI_add, hT.2.1, nI_led (by omega) (by omega), decide_eq_false (by omega), cond_false, inb_nI (by omega) (by decide), cond_true, inb_nI (show i < 4 by omega) (by decide), cond_true, ec, nI_1]
    show _ = some (Sum.inl (some (vi (b2i (decide (B (p + i) = (prgT 5).getD i 0) && alB (fun j => decide (B (p + j) = (prgT 5).getD j 0)) (i + 1) r)))), mm nn I L P E c s)
    cases decide (B (p + i) = (prgT 5).getD i 0) with
    | true => exact A
    | false => rfl
theorem cw_5 (hT : TxC B n I) (hk : TkC B n I p) : V PR d 122 0 [(0, vR (some (102, 0))), (1, vR (some (5, 0)))] [] (mm nn I L P E c s) = some (.inl (some (vi (b2i (isW B n p (prgT 5))))), mm nn I L P E c s) := by
  have h6 := hT.1
  have hp := hk.1
  rw [k_X10_isWord_v4_0, show decide (I 102 0 2 = (1 : Int32)) = smB B n p from (kd_w hk 1 (by decide)).trans kd_1]
  unfold isW
  rw [show (prgT 5).length = 4 by decide +kernel]
  cases hs : smB B n p with
  | false =>
    rw [Bool.not_false, cond_true, wd_eq hs, Nat.sub_self]
    rfl
  | true =>
    have hl := wd_le (B := B) (n := n) hp
    have hg := wd_ge (B := B) (n := n) p
    rw [Bool.not_true, cond_false, hk.2.2.2.1, hk.2.1, en_w hs, pk_sub hg]
    rw [show decide (nI (wd B n p - p) = (4 : Int32)) = decide (wd B n p - p = 4) from decide_eq_decide.mpr (nI_eq (b := 4) (by omega) (by decide))]
    by_cases q : wd B n p - p = 4
    · rw [decide_eq_true q, cond_true, Bool.true_and]
      exact cw_l5 hT hk.2.1 q hp 4 0 rfl
    · rw [decide_eq_false q]
      rfl

theorem cw_l6 (hT : TxC B n I) (h3 : I 102 0 3 = nI p) (hw : wd B n p - p = 4) (hp : p ≤ n) : ∀ r i, i + r = 4 → V PR d 122 28 [(0, vR (some (102, 0))), (1, vR (some (6, 0))), (2, vi (nI i))] [] (mm nn I L P E c s) = some (.inl (some (vi (b2i (alB (fun j => decide (B (p + j) = (prgT 6).getD j 0)) i r)))), mm nn I L P E c s)
  | 0, i, h => by
    rw [k_X10_isWord_v5_28, show decide ((4 : Int32) ≤ nI i) = true from (nI_led (a := 4) (by decide) (by omega)).trans (decide_eq_true (by omega)), cond_true]
    rfl
  | r + 1, i, h => by
    have h6 := hT.1
    have hl := wd_le (B := B) (n := n) hp
    have hb := hT.2.2.1 (p + i) (by omega)
    have ec : decide (I 101 0 (nI (p + i)).toNatClampNeg = Int32.ofNat ((prgT 6).getD (nI i).toNatClampNeg 0)) = decide (B (p + i) = (prgT 6).getD i 0) := by
      rw [nI_clamp (show p + i < 2 ^ 31 by omega), nI_clamp (show i < 2 ^ 31 by omega), hT.2.2.2 (p + i) (by omega)]
      exact cbb_eq hb _ (pt_lt 6 (by decide) i (by omega) (by decide))
    have A := cw_l6 hT h3 hw hp r (i + 1) (by omega)
    rw [k_X10_isWord_v5_28, show decide ((4 : Int32) ≤ nI i) = false from (nI_led (a := 4) (by decide) (by omega)).trans (decide_eq_false (by omega)), cond_false, h3, nI_add, hT.2.1, nI_led (by omega) (by omega), decide_eq_false (by omega), cond_false, inb_nI (by omega) (by decide), cond_true, inb_nI (show i < 4 by omega) (by decide), cond_true, ec, nI_1]
    show _ = some (Sum.inl (some (vi (b2i (decide (B (p + i) = (prgT 6).getD i 0) && alB (fun j => decide (B (p + j) = (prgT 6).getD j 0)) (i + 1) r)))), mm nn I L P E c s)
    cases decide (B (p + i) = (prgT 6).getD i 0) with
    | true => exact A
    | false => rfl
theorem cw_6 (hT : TxC B n I) (hk : TkC B n I p) : V PR d 122 0 [(0, vR (some (102, 0))), (1, vR (some (6, 0)))] [] (mm nn I L P E c s) = some (.inl (some (vi (b2i (isW B n p (prgT 6))))), mm nn I L P E c s) := by
  have h6 := hT.1
  have hp := hk.1
  rw [k_X10_isWord_v5_0, show decide (I 102 0 2 = (1 : Int32)) = smB B n p from (kd_w hk 1 (by decide)).trans kd_1]
  unfold isW
  rw [show (prgT 6).length = 4 by decide +kernel]
  cases hs : smB B n p with
  | false =>
    rw [Bool.not_false, cond_true, wd_eq hs, Nat.sub_self]
    rfl
  | true =>
    have hl := wd_le (B := B) (n := n) hp
    have hg := wd_ge (B := B) (n := n) p
    rw [Bool.not_true, cond_false, hk.2.2.2.1, hk.2.1, en_w hs, pk_sub hg]
    rw [show decide (nI (wd B n p - p) = (4 : Int32)) = decide (wd B n p - p = 4) from decide_eq_decide.mpr (nI_eq (b := 4) (by omega) (by decide))]
    by_cases q : wd B n p - p = 4
    · rw [decide_eq_true q, cond_true, Bool.true_and]
      exact cw_l6 hT hk.2.1 q hp 4 0 rfl
    · rw [decide_eq_false q]
      rfl

theorem cw_l7 (hT : TxC B n I) (h3 : I 102 0 3 = nI p) (hw : wd B n p - p = 3) (hp : p ≤ n) : ∀ r i, i + r = 3 → V PR d 122 28 [(0, vR (some (102, 0))), (1, vR (some (7, 0))), (2, vi (nI i))] [] (mm nn I L P E c s) = some (.inl (some (vi (b2i (alB (fun j => decide (B (p + j) = (prgT 7).getD j 0)) i r)))), mm nn I L P E c s)
  | 0, i, h => by
    rw [k_X10_isWord_v6_28, show decide ((3 : Int32) ≤ nI i) = true from (nI_led (a := 3) (by decide) (by omega)).trans (decide_eq_true (by omega)), cond_true]
    rfl
  | r + 1, i, h => by
    have h6 := hT.1
    have hl := wd_le (B := B) (n := n) hp
    have hb := hT.2.2.1 (p + i) (by omega)
    have ec : decide (I 101 0 (nI (p + i)).toNatClampNeg = Int32.ofNat ((prgT 7).getD (nI i).toNatClampNeg 0)) = decide (B (p + i) = (prgT 7).getD i 0) := by
      rw [nI_clamp (show p + i < 2 ^ 31 by omega), nI_clamp (show i < 2 ^ 31 by omega), hT.2.2.2 (p + i) (by omega)]
      exact cbb_eq hb _ (pt_lt 7 (by decide) i (by omega) (by decide))
    have A := cw_l7 hT h3 hw hp r (i + 1) (by omega)
    rw [k_X10_isWord_v6_28, show decide ((3 : Int32) ≤ nI i) = false from (nI_led (a := 3) (by decide) (by omega)).trans (decide_eq_false (by omega)), cond_false, h3, nI_add, hT.2.1, nI_led (by omega) (by omega), decide_eq_false (by omega), cond_false, inb_nI (by omega) (by decide), cond_true, inb_nI (show i < 3 by omega) (by decide), cond_true, ec, nI_1]
    show _ = some (Sum.inl (some (vi (b2i (decide (B (p + i) = (prgT 7).getD i 0) && alB (fun j => decide (B (p + j) = (prgT 7).getD j 0)) (i + 1) r)))), mm nn I L P E c s)
    cases decide (B (p + i) = (prgT 7).getD i 0) with
    | true => exact A
    | false => rfl
theorem cw_7 (hT : TxC B n I) (hk : TkC B n I p) : V PR d 122 0 [(0, vR (some (102, 0))), (1, vR (some (7, 0)))] [] (mm nn I L P E c s) = some (.inl (some (vi (b2i (isW B n p (prgT 7))))), mm nn I L P E c s) := by
  have h6 := hT.1
  have hp := hk.1
  rw [k_X10_isWord_v6_0, show decide (I 102 0 2 = (1 : Int32)) = smB B n p from (kd_w hk 1 (by decide)).trans kd_1]
  unfold isW
  rw [show (prgT 7).length = 3 by decide +kernel]
  cases hs : smB B n p with
  | false =>
    rw [Bool.not_false, cond_true, wd_eq hs, Nat.sub_self]
    rfl
  | true =>
    have hl := wd_le (B := B) (n := n) hp
    have hg := wd_ge (B := B) (n := n) p
    rw [Bool.not_true, cond_false, hk.2.2.2.1, hk.2.1, en_w hs, pk_sub hg]
    rw [show decide (nI (wd B n p - p) = (3 : Int32)) = decide (wd B n p - p = 3) from decide_eq_decide.mpr (nI_eq (b := 3) (by omega) (by decide))]
    by_cases q : wd B n p - p = 3
    · rw [decide_eq_true q, cond_true, Bool.true_and]
      exact cw_l7 hT hk.2.1 q hp 3 0 rfl
    · rw [decide_eq_false q]
      rfl

theorem cw_l8 (hT : TxC B n I) (h3 : I 102 0 3 = nI p) (hw : wd B n p - p = 4) (hp : p ≤ n) : ∀ r i, i + r = 4 → V PR d 122 28 [(0, vR (some (102, 0))), (1, vR (some (8, 0))), (2, vi (nI i))] [] (mm nn I L P E c s) = some (.inl (some (vi (b2i (alB (fun j => decide (B (p + j) = (prgT 8).getD j 0)) i r)))), mm nn I L P E c s)
  | 0, i, h => by
    rw [k_X10_isWord_v7_28, show decide ((4 : Int32) ≤ nI i) = true from (nI_led (a := 4) (by decide) (by omega)).trans (decide_eq_true (by omega)), cond_true]
    rfl
  | r + 1, i, h => by
    have h6 := hT.1
    have hl := wd_le (B := B) (n := n) hp
    have hb := hT.2.2.1 (p + i) (by omega)
    have ec : decide (I 101 0 (nI (p + i)).toNatClampNeg = Int32.ofNat ((prgT 8).getD (nI i).toNatClampNeg 0)) = decide (B (p + i) = (prgT 8).getD i 0) := by
      rw [nI_clamp (show p + i < 2 ^ 31 by omega), nI_clamp (show i < 2 ^ 31 by omega), hT.2.2.2 (p + i) (by omega)]
      exact cbb_eq hb _ (pt_lt 8 (by decide) i (by omega) (by decide))
    have A := cw_l8 hT h3 hw hp r (i + 1) (by omega)
    rw [k_X10_isWord_v7_28, show decide ((4 : Int32) ≤ nI i) = false from (nI_led (a := 4) (by decide) (by omega)).trans (decide_eq_false (by omega)), cond_false, h3, nI_add, hT.2.1, nI_led (by omega) (by omega), decide_eq_false (by omega), cond_false, inb_nI (by omega) (by decide), cond_true, inb_nI (show i < 4 by omega) (by decide), cond_true, ec, nI_1]
    show _ = some (Sum.inl (some (vi (b2i (decide (B (p + i) = (prgT 8).getD i 0) && alB (fun j => decide (B (p + j) = (prgT 8).getD j 0)) (i + 1) r)))), mm nn I L P E c s)
    cases decide (B (p + i) = (prgT 8).getD i 0) with
    | true => exact A
    | false => rfl
theorem cw_8 (hT : TxC B n I) (hk : TkC B n I p) : V PR d 122 0 [(0, vR (some (102, 0))), (1, vR (some (8, 0)))] [] (mm nn I L P E c s) = some (.inl (some (vi (b2i (isW B n p (prgT 8))))), mm nn I L P E c s) := by
  have h6 := hT.1
  have hp := hk.1
  rw [k_X10_isWord_v7_0, show decide (I 102 0 2 = (1 : Int32)) = smB B n p from (kd_w hk 1 (by decide)).trans kd_1]
  unfold isW
  rw [show (prgT 8).length = 4 by decide +kernel]
  cases hs : smB B n p with
  | false =>
    rw [Bool.not_false, cond_true, wd_eq hs, Nat.sub_self]
    rfl
  | true =>
    have hl := wd_le (B := B) (n := n) hp
    have hg := wd_ge (B := B) (n := n) p
    rw [Bool.not_true, cond_false, hk.2.2.2.1, hk.2.1, en_w hs, pk_sub hg]
    rw [show decide (nI (wd B n p - p) = (4 : Int32)) = decide (wd B n p - p = 4) from decide_eq_decide.mpr (nI_eq (b := 4) (by omega) (by decide))]
    by_cases q : wd B n p - p = 4
    · rw [decide_eq_true q, cond_true, Bool.true_and]
      exact cw_l8 hT hk.2.1 q hp 4 0 rfl
    · rw [decide_eq_false q]
      rfl

theorem cw_l9 (hT : TxC B n I) (h3 : I 102 0 3 = nI p) (hw : wd B n p - p = 5) (hp : p ≤ n) : ∀ r i, i + r = 5 → V PR d 122 28 [(0, vR (some (102, 0))), (1, vR (some (9, 0))), (2, vi (nI i))] [] (mm nn I L P E c s) = some (.inl (some (vi (b2i (alB (fun j => decide (B (p + j) = (prgT 9).getD j 0)) i r)))), mm nn I L P E c s)
  | 0, i, h => by
    rw [k_X10_isWord_v8_28, show decide ((5 : Int32) ≤ nI i) = true from (nI_led (a := 5) (by decide) (by omega)).trans (decide_eq_true (by omega)), cond_true]
    rfl
  | r + 1, i, h => by
    have h6 := hT.1
    have hl := wd_le (B := B) (n := n) hp
    have hb := hT.2.2.1 (p + i) (by omega)
    have ec : decide (I 101 0 (nI (p + i)).toNatClampNeg = Int32.ofNat ((prgT 9).getD (nI i).toNatClampNeg 0)) = decide (B (p + i) = (prgT 9).getD i 0) := by
      rw [nI_clamp (show p + i < 2 ^ 31 by omega), nI_clamp (show i < 2 ^ 31 by omega), hT.2.2.2 (p + i) (by omega)]
      exact cbb_eq hb _ (pt_lt 9 (by decide) i (by omega) (by decide))
    have A := cw_l9 hT h3 hw hp r (i + 1) (by omega)
    rw [k_X10_isWord_v8_28, show decide ((5 : Int32) ≤ nI i) = false from (nI_led (a := 5) (by decide) (by omega)).trans (decide_eq_false (by omega)), cond_false, h3, nI_add, hT.2.1, nI_led (by omega) (by omega), decide_eq_false (by omega), cond_false, inb_nI (by omega) (by decide), cond_true, inb_nI (show i < 5 by omega) (by decide), cond_true, ec, nI_1]
    show _ = some (Sum.inl (some (vi (b2i (decide (B (p + i) = (prgT 9).getD i 0) && alB (fun j => decide (B (p + j) = (prgT 9).getD j 0)) (i + 1) r)))), mm nn I L P E c s)
    cases decide (B (p + i) = (prgT 9).getD i 0) with
    | true => exact A
    | false => rfl
theorem cw_9 (hT : TxC B n I) (hk : TkC B n I p) : V PR d 122 0 [(0, vR (some (102, 0))), (1, vR (some (9, 0)))] [] (mm nn I L P E c s) = some (.inl (some (vi (b2i (isW B n p (prgT 9))))), mm nn I L P E c s) := by
  have h6 := hT.1
  have hp := hk.1
  rw [k_X10_isWord_v8_0, show decide (I 102 0 2 = (1 : Int32)) = smB B n p from (kd_w hk 1 (by decide)).trans kd_1]
  unfold isW
  rw [show (prgT 9).length = 5 by decide +kernel]
  cases hs : smB B n p with
  | false =>
    rw [Bool.not_false, cond_true, wd_eq hs, Nat.sub_self]
    rfl
  | true =>
    have hl := wd_le (B := B) (n := n) hp
    have hg := wd_ge (B := B) (n := n) p
    rw [Bool.not_true, cond_false, hk.2.2.2.1, hk.2.1, en_w hs, pk_sub hg]
    rw [show decide (nI (wd B n p - p) = (5 : Int32)) = decide (wd B n p - p = 5) from decide_eq_decide.mpr (nI_eq (b := 5) (by omega) (by decide))]
    by_cases q : wd B n p - p = 5
    · rw [decide_eq_true q, cond_true, Bool.true_and]
      exact cw_l9 hT hk.2.1 q hp 5 0 rfl
    · rw [decide_eq_false q]
      rfl

theorem cw_l10 (hT : TxC B n I) (h3 : I 102 0 3 = nI p) (hw : wd B n p - p = 2) (hp : p ≤ n) : ∀ r i, i + r = 2 → V PR d 122 28 [(0, vR (some (102, 0))), (1, vR (some (10, 0))), (2, vi (nI i))] [] (mm nn I L P E c s) = some (.inl (some (vi (b2i (alB (fun j => decide (B (p + j) = (prgT 10).getD j 0)) i r)))), mm nn I L P E c s)
  | 0, i, h => by
    rw [k_X10_isWord_v9_28, show decide ((2 : Int32) ≤ nI i) = true from (nI_led (a := 2) (by decide) (by omega)).trans (decide_eq_true (by omega)), cond_true]
    rfl
  | r + 1, i, h => by
    have h6 := hT.1
    have hl := wd_le (B := B) (n := n) hp
    have hb := hT.2.2.1 (p + i) (by omega)
    have ec : decide (I 101 0 (nI (p + i)).toNatClampNeg = Int32.ofNat ((prgT 10).getD (nI i).toNatClampNeg 0)) = decide (B (p + i) = (prgT 10).getD i 0) := by
      rw [nI_clamp (show p + i < 2 ^ 31 by omega), nI_clamp (show i < 2 ^ 31 by omega), hT.2.2.2 (p + i) (by omega)]
      exact cbb_eq hb _ (pt_lt 10 (by decide) i (by omega) (by decide))
    have A := cw_l10 hT h3 hw hp r (i + 1) (by omega)
    rw [k_X10_isWord_v9_28, show decide ((2 : Int32) ≤ nI i) = false from (nI_led (a := 2) (by decide) (by omega)).trans (decide_eq_false (by omega)), cond_false, h3, nI_add, hT.2.1, nI_led (by omega) (by omega), decide_eq_false (by omega), cond_false, inb_nI (by omega) (by decide), cond_true, inb_nI (show i < 2 by omega) (by decide), cond_true, ec, nI_1]
    show _ = some (Sum.inl (some (vi (b2i (decide (B (p + i) = (prgT 10).getD i 0) && alB (fun j => decide (B (p + j) = (prgT 10).getD j 0)) (i + 1) r)))), mm nn I L P E c s)
    cases decide (B (p + i) = (prgT 10).getD i 0) with
    | true => exact A
    | false => rfl
theorem cw_10 (hT : TxC B n I) (hk : TkC B n I p) : V PR d 122 0 [(0, vR (some (102, 0))), (1, vR (some (10, 0)))] [] (mm nn I L P E c s) = some (.inl (some (vi (b2i (isW B n p (prgT 10))))), mm nn I L P E c s) := by
  have h6 := hT.1
  have hp := hk.1
  rw [k_X10_isWord_v9_0, show decide (I 102 0 2 = (1 : Int32)) = smB B n p from (kd_w hk 1 (by decide)).trans kd_1]
  unfold isW
  rw [show (prgT 10).length = 2 by decide +kernel]
  cases hs : smB B n p with
  | false =>
    rw [Bool.not_false, cond_true, wd_eq hs, Nat.sub_self]
    rfl
  | true =>
    have hl := wd_le (B := B) (n := n) hp
    have hg := wd_ge (B := B) (n := n) p
    rw [Bool.not_true, cond_false, hk.2.2.2.1, hk.2.1, en_w hs, pk_sub hg]
    rw [show decide (nI (wd B n p - p) = (2 : Int32)) = decide (wd B n p - p = 2) from decide_eq_decide.mpr (nI_eq (b := 2) (by omega) (by decide))]
    by_cases q : wd B n p - p = 2
    · rw [decide_eq_true q, cond_true, Bool.true_and]
      exact cw_l10 hT hk.2.1 q hp 2 0 rfl
    · rw [decide_eq_false q]
      rfl

theorem cw_l11 (hT : TxC B n I) (h3 : I 102 0 3 = nI p) (hw : wd B n p - p = 2) (hp : p ≤ n) : ∀ r i, i + r = 2 → V PR d 122 28 [(0, vR (some (102, 0))), (1, vR (some (11, 0))), (2, vi (nI i))] [] (mm nn I L P E c s) = some (.inl (some (vi (b2i (alB (fun j => decide (B (p + j) = (prgT 11).getD j 0)) i r)))), mm nn I L P E c s)
  | 0, i, h => by
    rw [k_X10_isWord_v10_28, show decide ((2 : Int32) ≤ nI i) = true from (nI_led (a := 2) (by decide) (by omega)).trans (decide_eq_true (by omega)), cond_true]
    rfl
  | r + 1, i, h => by
    have h6 := hT.1
    have hl := wd_le (B := B) (n := n) hp
    have hb := hT.2.2.1 (p + i) (by omega)
    have ec : decide (I 101 0 (nI (p + i)).toNatClampNeg = Int32.ofNat ((prgT 11).getD (nI i).toNatClampNeg 0)) = decide (B (p + i) = (prgT 11).getD i 0) := by
      rw [nI_clamp (show p + i < 2 ^ 31 by omega), nI_clamp (show i < 2 ^ 31 by omega), hT.2.2.2 (p + i) (by omega)]
      exact cbb_eq hb _ (pt_lt 11 (by decide) i (by omega) (by decide))
    have A := cw_l11 hT h3 hw hp r (i + 1) (by omega)
    rw [k_X10_isWord_v10_28, show decide ((2 : Int32) ≤ nI i) = false from (nI_led (a := 2) (by decide) (by omega)).trans (decide_eq_false (by omega)), cond_false, h3, nI_add, hT.2.1, nI_led (by omega) (by omega), decide_eq_false (by omega), cond_false, inb_nI (by omega) (by decide), cond_true, inb_nI (show i < 2 by omega) (by decide), cond_true, ec, nI_1]
    show _ = some (Sum.inl (some (vi (b2i (decide (B (p + i) = (prgT 11).getD i 0) && alB (fun j => decide (B (p + j) = (prgT 11).getD j 0)) (i + 1) r)))), mm nn I L P E c s)
    cases decide (B (p + i) = (prgT 11).getD i 0) with
    | true => exact A
    | false => rfl
theorem cw_11 (hT : TxC B n I) (hk : TkC B n I p) : V PR d 122 0 [(0, vR (some (102, 0))), (1, vR (some (11, 0)))] [] (mm nn I L P E c s) = some (.inl (some (vi (b2i (isW B n p (prgT 11))))), mm nn I L P E c s) := by
  have h6 := hT.1
  have hp := hk.1
  rw [k_X10_isWord_v10_0, show decide (I 102 0 2 = (1 : Int32)) = smB B n p from (kd_w hk 1 (by decide)).trans kd_1]
  unfold isW
  rw [show (prgT 11).length = 2 by decide +kernel]
  cases hs : smB B n p with
  | false =>
    rw [Bool.not_false, cond_true, wd_eq hs, Nat.sub_self]
    rfl
  | true =>
    have hl := wd_le (B := B) (n := n) hp
    have hg := wd_ge (B := B) (n := n) p
    rw [Bool.not_true, cond_false, hk.2.2.2.1, hk.2.1, en_w hs, pk_sub hg]
    rw [show decide (nI (wd B n p - p) = (2 : Int32)) = decide (wd B n p - p = 2) from decide_eq_decide.mpr (nI_eq (b := 2) (by omega) (by decide))]
    by_cases q : wd B n p - p = 2
    · rw [decide_eq_true q, cond_true, Bool.true_and]
      exact cw_l11 hT hk.2.1 q hp 2 0 rfl
    · rw [decide_eq_false q]
      rfl

theorem cw_l12 (hT : TxC B n I) (h3 : I 102 0 3 = nI p) (hw : wd B n p - p = 3) (hp : p ≤ n) : ∀ r i, i + r = 3 → V PR d 122 28 [(0, vR (some (102, 0))), (1, vR (some (12, 0))), (2, vi (nI i))] [] (mm nn I L P E c s) = some (.inl (some (vi (b2i (alB (fun j => decide (B (p + j) = (prgT 12).getD j 0)) i r)))), mm nn I L P E c s)
  | 0, i, h => by
    rw [k_X10_isWord_v11_28, show decide ((3 : Int32) ≤ nI i) = true from (nI_led (a := 3) (by decide) (by omega)).trans (decide_eq_true (by omega)), cond_true]
    rfl
  | r + 1, i, h => by
    have h6 := hT.1
    have hl := wd_le (B := B) (n := n) hp
    have hb := hT.2.2.1 (p + i) (by omega)
    have ec : decide (I 101 0 (nI (p + i)).toNatClampNeg = Int32.ofNat ((prgT 12).getD (nI i).toNatClampNeg 0)) = decide (B (p + i) = (prgT 12).getD i 0) := by
      rw [nI_clamp (show p + i < 2 ^ 31 by omega), nI_clamp (show i < 2 ^ 31 by omega), hT.2.2.2 (p + i) (by omega)]
      exact cbb_eq hb _ (pt_lt 12 (by decide) i (by omega) (by decide))
    have A := cw_l12 hT h3 hw hp r (i + 1) (by omega)
    rw [k_X10_isWord_v11_28, show decide ((3 : Int32) ≤ nI i) = false from (nI_led (a := 3) (by decide) (by omega)).trans (decide_eq_false (by omega)), cond_false, h3, nI_add, hT.2.1, nI_led (by omega) (by omega), decide_eq_false (by omega), cond_false, inb_nI (by omega) (by decide), cond_true, inb_nI (show i < 3 by omega) (by decide), cond_true, ec, nI_1]
    show _ = some (Sum.inl (some (vi (b2i (decide (B (p + i) = (prgT 12).getD i 0) && alB (fun j => decide (B (p + j) = (prgT 12).getD j 0)) (i + 1) r)))), mm nn I L P E c s)
    cases decide (B (p + i) = (prgT 12).getD i 0) with
    | true => exact A
    | false => rfl
theorem cw_12 (hT : TxC B n I) (hk : TkC B n I p) : V PR d 122 0 [(0, vR (some (102, 0))), (1, vR (some (12, 0)))] [] (mm nn I L P E c s) = some (.inl (some (vi (b2i (isW B n p (prgT 12))))), mm nn I L P E c s) := by
  have h6 := hT.1
  have hp := hk.1
  rw [k_X10_isWord_v11_0, show decide (I 102 0 2 = (1 : Int32)) = smB B n p from (kd_w hk 1 (by decide)).trans kd_1]
  unfold isW
  rw [show (prgT 12).length = 3 by decide +kernel]
  cases hs : smB B n p with
  | false =>
    rw [Bool.not_false, cond_true, wd_eq hs, Nat.sub_self]
    rfl
  | true =>
    have hl := wd_le (B := B) (n := n) hp
    have hg := wd_ge (B := B) (n := n) p
    rw [Bool.not_true, cond_false, hk.2.2.2.1, hk.2.1, en_w hs, pk_sub hg]
    rw [show decide (nI (wd B n p - p) = (3 : Int32)) = decide (wd B n p - p = 3) from decide_eq_decide.mpr (nI_eq (b := 3) (by omega) (by decide))]
    by_cases q : wd B n p - p = 3
    · rw [decide_eq_true q, cond_true, Bool.true_and]
      exact cw_l12 hT hk.2.1 q hp 3 0 rfl
    · rw [decide_eq_false q]
      rfl

theorem cw_l13 (hT : TxC B n I) (h3 : I 102 0 3 = nI p) (hw : wd B n p - p = 3) (hp : p ≤ n) : ∀ r i, i + r = 3 → V PR d 122 28 [(0, vR (some (102, 0))), (1, vR (some (13, 0))), (2, vi (nI i))] [] (mm nn I L P E c s) = some (.inl (some (vi (b2i (alB (fun j => decide (B (p + j) = (prgT 13).getD j 0)) i r)))), mm nn I L P E c s)
  | 0, i, h => by
    rw [k_X10_isWord_v12_28, show decide ((3 : Int32) ≤ nI i) = true from (nI_led (a := 3) (by decide) (by omega)).trans (decide_eq_true (by omega)), cond_true]
    rfl
  | r + 1, i, h => by
    have h6 := hT.1
    have hl := wd_le (B := B) (n := n) hp
    have hb := hT.2.2.1 (p + i) (by omega)
    have ec : decide (I 101 0 (nI (p + i)).toNatClampNeg = Int32.ofNat ((prgT 13).getD (nI i).toNatClampNeg 0)) = decide (B (p + i) = (prgT 13).getD i 0) := by
      rw [nI_clamp (show p + i < 2 ^ 31 by omega), nI_clamp (show i < 2 ^ 31 by omega), hT.2.2.2 (p + i) (by omega)]
      exact cbb_eq hb _ (pt_lt 13 (by decide) i (by omega) (by decide))
    have A := cw_l13 hT h3 hw hp r (i + 1) (by omega)
    rw [k_X10_isWord_v12_28, show decide ((3 : Int32) ≤ nI i) = false from (nI_led (a := 3) (by decide) (by omega)).trans (decide_eq_false (by omega)), cond_false, h3, nI_add, hT.2.1, nI_led (by omega) (by omega), decide_eq_false (by omega), cond_false, inb_nI (by omega) (by decide), cond_true, inb_nI (show i < 3 by omega) (by decide), cond_true, ec, nI_1]
    show _ = some (Sum.inl (some (vi (b2i (decide (B (p + i) = (prgT 13).getD i 0) && alB (fun j => decide (B (p + j) = (prgT 13).getD j 0)) (i + 1) r)))), mm nn I L P E c s)
    cases decide (B (p + i) = (prgT 13).getD i 0) with
    | true => exact A
    | false => rfl
theorem cw_13 (hT : TxC B n I) (hk : TkC B n I p) : V PR d 122 0 [(0, vR (some (102, 0))), (1, vR (some (13, 0)))] [] (mm nn I L P E c s) = some (.inl (some (vi (b2i (isW B n p (prgT 13))))), mm nn I L P E c s) := by
  have h6 := hT.1
  have hp := hk.1
  rw [k_X10_isWord_v12_0, show decide (I 102 0 2 = (1 : Int32)) = smB B n p from (kd_w hk 1 (by decide)).trans kd_1]
  unfold isW
  rw [show (prgT 13).length = 3 by decide +kernel]
  cases hs : smB B n p with
  | false =>
    rw [Bool.not_false, cond_true, wd_eq hs, Nat.sub_self]
    rfl
  | true =>
    have hl := wd_le (B := B) (n := n) hp
    have hg := wd_ge (B := B) (n := n) p
    rw [Bool.not_true, cond_false, hk.2.2.2.1, hk.2.1, en_w hs, pk_sub hg]
    rw [show decide (nI (wd B n p - p) = (3 : Int32)) = decide (wd B n p - p = 3) from decide_eq_decide.mpr (nI_eq (b := 3) (by omega) (by decide))]
    by_cases q : wd B n p - p = 3
    · rw [decide_eq_true q, cond_true, Bool.true_and]
      exact cw_l13 hT hk.2.1 q hp 3 0 rfl
    · rw [decide_eq_false q]
      rfl

theorem cw_l14 (hT : TxC B n I) (h3 : I 102 0 3 = nI p) (hw : wd B n p - p = 2) (hp : p ≤ n) : ∀ r i, i + r = 2 → V PR d 122 28 [(0, vR (some (102, 0))), (1, vR (some (14, 0))), (2, vi (nI i))] [] (mm nn I L P E c s) = some (.inl (some (vi (b2i (alB (fun j => decide (B (p + j) = (prgT 14).getD j 0)) i r)))), mm nn I L P E c s)
  | 0, i, h => by
    rw [k_X10_isWord_v13_28, show decide ((2 : Int32) ≤ nI i) = true from (nI_led (a := 2) (by decide) (by omega)).trans (decide_eq_true (by omega)), cond_true]
    rfl
  | r + 1, i, h => by
    have h6 := hT.1
    have hl := wd_le (B := B) (n := n) hp
    have hb := hT.2.2.1 (p + i) (by omega)
    have ec : decide (I 101 0 (nI (p + i)).toNatClampNeg = Int32.ofNat ((prgT 14).getD (nI i).toNatClampNeg 0)) = decide (B (p + i) = (prgT 14).getD i 0) := by
      rw [nI_clamp (show p + i < 2 ^ 31 by omega), nI_clamp (show i < 2 ^ 31 by omega), hT.2.2.2 (p + i) (by omega)]
      exact cbb_eq hb _ (pt_lt 14 (by decide) i (by omega) (by decide))
    have A := cw_l14 hT h3 hw hp r (i + 1) (by omega)
    rw [k_X10_isWord_v13_28, show decide ((2 : Int32) ≤ nI i) = false from (nI_led (a := 2) (by decide) (by omega)).trans (decide_eq_false (by omega)), cond_false, h3, nI_add, hT.2.1, nI_led (by omega) (by omega), decide_eq_false (by omega), cond_false, inb_nI (by omega) (by decide), cond_true, inb_nI (show i < 2 by omega) (by decide), cond_true, ec, nI_1]
    show _ = some (Sum.inl (some (vi (b2i (decide (B (p + i) = (prgT 14).getD i 0) && alB (fun j => decide (B (p + j) = (prgT 14).getD j 0)) (i + 1) r)))), mm nn I L P E c s)
    cases decide (B (p + i) = (prgT 14).getD i 0) with
    | true => exact A
    | false => rfl
theorem cw_14 (hT : TxC B n I) (hk : TkC B n I p) : V PR d 122 0 [(0, vR (some (102, 0))), (1, vR (some (14, 0)))] [] (mm nn I L P E c s) = some (.inl (some (vi (b2i (isW B n p (prgT 14))))), mm nn I L P E c s) := by
  have h6 := hT.1
  have hp := hk.1
  rw [k_X10_isWord_v13_0, show decide (I 102 0 2 = (1 : Int32)) = smB B n p from (kd_w hk 1 (by decide)).trans kd_1]
  unfold isW
  rw [show (prgT 14).length = 2 by decide +kernel]
  cases hs : smB B n p with
  | false =>
    rw [Bool.not_false, cond_true, wd_eq hs, Nat.sub_self]
    rfl
  | true =>
    have hl := wd_le (B := B) (n := n) hp
    have hg := wd_ge (B := B) (n := n) p
    rw [Bool.not_true, cond_false, hk.2.2.2.1, hk.2.1, en_w hs, pk_sub hg]
    rw [show decide (nI (wd B n p - p) = (2 : Int32)) = decide (wd B n p - p = 2) from decide_eq_decide.mpr (nI_eq (b := 2) (by omega) (by decide))]
    by_cases q : wd B n p - p = 2
    · rw [decide_eq_true q, cond_true, Bool.true_and]
      exact cw_l14 hT hk.2.1 q hp 2 0 rfl
    · rw [decide_eq_false q]
      rfl

theorem cw_l15 (hT : TxC B n I) (h3 : I 102 0 3 = nI p) (hw : wd B n p - p = 4) (hp : p ≤ n) : ∀ r i, i + r = 4 → V PR d 122 28 [(0, vR (some (102, 0))), (1, vR (some (15, 0))), (2, vi (nI i))] [] (mm nn I L P E c s) = some (.inl (some (vi (b2i (alB (fun j => decide (B (p + j) = (prgT 15).getD j 0)) i r)))), mm nn I L P E c s)
  | 0, i, h => by
    rw [k_X10_isWord_v14_28, show decide ((4 : Int32) ≤ nI i) = true from (nI_led (a := 4) (by decide) (by omega)).trans (decide_eq_true (by omega)), cond_true]
    rfl
  | r + 1, i, h => by
    have h6 := hT.1
    have hl := wd_le (B := B) (n := n) hp
    have hb := hT.2.2.1 (p + i) (by omega)
    have ec : decide (I 101 0 (nI (p + i)).toNatClampNeg = Int32.ofNat ((prgT 15).getD (nI i).toNatClampNeg 0)) = decide (B (p + i) = (prgT 15).getD i 0) := by
      rw [nI_clamp (show p + i < 2 ^ 31 by omega), nI_clamp (show i < 2 ^ 31 by omega), hT.2.2.2 (p + i) (by omega)]
      exact cbb_eq hb _ (pt_lt 15 (by decide) i (by omega) (by decide))
    have A := cw_l15 hT h3 hw hp r (i + 1) (by omega)
    rw [k_X10_isWord_v14_28, show decide ((4 : Int32) ≤ nI i) = false from (nI_led (a := 4) (by decide) (by omega)).trans (decide_eq_false (by omega)), cond_false, h3, nI_add, hT.2.1, nI_led (by omega) (by omega), decide_eq_false (by omega), cond_false, inb_nI (by omega) (by decide), cond_true, inb_nI (show i < 4 by omega) (by decide), cond_true, ec, nI_1]
    show _ = some (Sum.inl (some (vi (b2i (decide (B (p + i) = (prgT 15).getD i 0) && alB (fun j => decide (B (p + j) = (prgT 15).getD j 0)) (i + 1) r)))), mm nn I L P E c s)
    cases decide (B (p + i) = (prgT 15).getD i 0) with
    | true => exact A
    | false => rfl
theorem cw_15 (hT : TxC B n I) (hk : TkC B n I p) : V PR d 122 0 [(0, vR (some (102, 0))), (1, vR (some (15, 0)))] [] (mm nn I L P E c s) = some (.inl (some (vi (b2i (isW B n p (prgT 15))))), mm nn I L P E c s) := by
  have h6 := hT.1
  have hp := hk.1
  rw [k_X10_isWord_v14_0, show decide (I 102 0 2 = (1 : Int32)) = smB B n p from (kd_w hk 1 (by decide)).trans kd_1]
  unfold isW
  rw [show (prgT 15).length = 4 by decide +kernel]
  cases hs : smB B n p with
  | false =>
    rw [Bool.not_false, cond_true, wd_eq hs, Nat.sub_self]
    rfl
  | true =>
    have hl := wd_le (B := B) (n := n) hp
    have hg := wd_ge (B := B) (n := n) p
    rw [Bool.not_true, cond_false, hk.2.2.2.1, hk.2.1, en_w hs, pk_sub hg]
    rw [show decide (nI (wd B n p - p) = (4 : Int32)) = decide (wd B n p - p = 4) from decide_eq_decide.mpr (nI_eq (b := 4) (by omega) (by decide))]
    by_cases q : wd B n p - p = 4
    · rw [decide_eq_true q, cond_true, Bool.true_and]
      exact cw_l15 hT hk.2.1 q hp 4 0 rfl
    · rw [decide_eq_false q]
      rfl

theorem cw_l16 (hT : TxC B n I) (h3 : I 102 0 3 = nI p) (hw : wd B n p - p = 4) (hp : p ≤ n) : ∀ r i, i + r = 4 → V PR d 122 28 [(0, vR (some (102, 0))), (1, vR (some (16, 0))), (2, vi (nI i))] [] (mm nn I L P E c s) = some (.inl (some (vi (b2i (alB (fun j => decide (B (p + j) = (prgT 16).getD j 0)) i r)))), mm nn I L P E c s)
  | 0, i, h => by
    rw [k_X10_isWord_v15_28, show decide ((4 : Int32) ≤ nI i) = true from (nI_led (a := 4) (by decide) (by omega)).trans (decide_eq_true (by omega)), cond_true]
    rfl
  | r + 1, i, h => by
    have h6 := hT.1
    have hl := wd_le (B := B) (n := n) hp
    have hb := hT.2.2.1 (p + i) (by omega)
    have ec : decide (I 101 0 (nI (p + i)).toNatClampNeg = Int32.ofNat ((prgT 16).getD (nI i).toNatClampNeg 0)) = decide (B (p + i) = (prgT 16).getD i 0) := by
      rw [nI_clamp (show p + i < 2 ^ 31 by omega), nI_clamp (show i < 2 ^ 31 by omega), hT.2.2.2 (p + i) (by omega)]
      exact cbb_eq hb _ (pt_lt 16 (by decide) i (by omega) (by decide))
    have A := cw_l16 hT h3 hw hp r (i + 1) (by omega)
    rw [k_X10_isWord_v15_28, show decide ((4 : Int32) ≤ nI i) = false from (nI_led (a := 4) (by decide) (by omega)).trans (decide_eq_false (by omega)), cond_false, h3, nI_add, hT.2.1, nI_led (by omega) (by omega), decide_eq_false (by omega), cond_false, inb_nI (by omega) (by decide), cond_true, inb_nI (show i < 4 by omega) (by decide), cond_true, ec, nI_1]
    show _ = some (Sum.inl (some (vi (b2i (decide (B (p + i) = (prgT 16).getD i 0) && alB (fun j => decide (B (p + j) = (prgT 16).getD j 0)) (i + 1) r)))), mm nn I L P E c s)
    cases decide (B (p + i) = (prgT 16).getD i 0) with
    | true => exact A
    | false => rfl
theorem cw_16 (hT : TxC B n I) (hk : TkC B n I p) : V PR d 122 0 [(0, vR (some (102, 0))), (1, vR (some (16, 0)))] [] (mm nn I L P E c s) = some (.inl (some (vi (b2i (isW B n p (prgT 16))))), mm nn I L P E c s) := by
  have h6 := hT.1
  have hp := hk.1
  rw [k_X10_isWord_v15_0, show decide (I 102 0 2 = (1 : Int32)) = smB B n p from (kd_w hk 1 (by decide)).trans kd_1]
  unfold isW
  rw [show (prgT 16).length = 4 by decide +kernel]
  cases hs : smB B n p with
  | false =>
    rw [Bool.not_false, cond_true, wd_eq hs, Nat.sub_self]
    rfl
  | true =>
    have hl := wd_le (B := B) (n := n) hp
    have hg := wd_ge (B := B) (n := n) p
    rw [Bool.not_true, cond_false, hk.2.2.2.1, hk.2.1, en_w hs, pk_sub hg]
    rw [show decide (nI (wd B n p - p) = (4 : Int32)) = decide (wd B n p - p = 4) from decide_eq_decide.mpr (nI_eq (b := 4) (by omega) (by decide))]
    by_cases q : wd B n p - p = 4
    · rw [decide_eq_true q, cond_true, Bool.true_and]
      exact cw_l16 hT hk.2.1 q hp 4 0 rfl
    · rw [decide_eq_false q]
      rfl

theorem c_sign {w : Nat} (hw : w < 256) (hT : TxC B n I) (hk : TkC B n I p) : V PR d 123 0 [(0, vR (some (102, 0))), (1, vi (nI w))] [] (mm nn I L P E c s) = some (.inl (some (vi (b2i (sgB B n p w)))), mm nn I L P E c s) := by
  rw [k_X10_isSign_0, show decide (I 102 0 2 = (3 : Int32)) = decide (kdT B n p = 3) from kd_w hk 3 (by decide)]
  unfold sgB
  by_cases q : kdT B n p = 3
  · have hp : p < n := by
      apply Nat.lt_of_not_le
      intro g
      unfold kdT at q
      rw [if_pos g] at q
      cases q
    have hb := hT.2.2.1 p hp
    rw [decide_eq_true q, Bool.not_true, cond_false, hk.2.2.2.2.2 q, show decide (nI (B p) = nI w) = decide (B p = w) from decide_eq_decide.mpr (nI_eq (by omega) (by omega)), Bool.true_and]
    cases decide (B p = w) <;> rfl
  · rw [decide_eq_false q]
    rfl
/-- the class's fault -/
def flC (I : FI) (k p : Nat) : FI := up3 (up3 I 102 0 6 (nI k)) 102 0 7 (nI p)
theorem c_fail (k : Nat) (hk : TkC B n I p) : V PR d 121 0 [(0, vR (some (102, 0))), (1, vi (nI k))] [] (mm nn I L P E c s) = some (.inl (some (vi (-1 : Int32))), mm nn (flC I k p) L P E c s) := by
  rw [k_X10_fail_0, up3_k (by decide), hk.2.1]
  rfl
theorem nuV_lt : nuV B n p < 1000000 := by
  have := nvR_le (B := B) (n := n) (n - p) p 0 (by decide)
  unfold nuV
  omega
theorem c_number {l h : Nat} {x : Int32} (hl : l < 1000000) (hh : h ≤ 100000) (hx : hiO x h) (hk : TkC B n I p) : V PR d 125 0 [(0, vR (some (102, 0))), (1, vi (nI l)), (2, vi x)] [] (mm nn I L P E c s) = bif decide (nuF B n p l h = 0) then some (.inl (some (vi (nI (nuV B n p)))), mm nn I L P E c s) else some (.inl (some (vi (-1 : Int32))), mm nn (flC I (nuF B n p l h) p) L P E c s) := by
  rw [k_X10_number_0, show decide (I 102 0 2 = (2 : Int32)) = decide (kdT B n p = 2) from kd_w hk 2 (by decide)]
  unfold nuF
  by_cases q : kdT B n p = 2
  · have h5 := hk.2.2.2.2.1 q
    have e1 := nv_two (B := B) (n := n) (n - p) p 0 0 rfl
    have e2 := nvC_lt (B := B) (n := n) (n - p) p 0 (by decide)
    have e3 : nuV B n p = min (nvC B n (n - p) p 0) 100000 := e1
    rw [decide_eq_true q, Bool.not_true, cond_false, h5, nI_ltd (by omega) (by omega), hx _ e2, if_neg (by omega)]
    by_cases q1 : nvC B n (n - p) p 0 < l
    · rw [decide_eq_true q1, cond_true, if_neg (by omega), up3_k (by decide), hk.2.1]
      rfl
    · rw [decide_eq_false q1, cond_false]
      by_cases q2 : h ≤ nvC B n (n - p) p 0
      · rw [decide_eq_true q2, cond_true, if_neg (by omega), up3_k (by decide), hk.2.1]
        rfl
      · rw [decide_eq_false q2, cond_false, if_pos (by omega), show nuV B n p = nvC B n (n - p) p 0 by omega]
        rfl
  · rw [decide_eq_false q, Bool.not_false, cond_true, if_pos q, up3_k (by decide), hk.2.1]
    rfl
theorem tb_nIb {b k : Nat} (hb : b < 16) (hk : k < 26) : decide (((nI b >>> (nI k &&& 31)) &&& 1) = (0 : Int32)) = !b.testBit k := by
  have h : ∀ b, b < 16 → ∀ k, k < 26 → decide (((nI b >>> (nI k &&& 31)) &&& 1) = (0 : Int32)) = !b.testBit k := by decide +kernel
  exact h b hb k hk
theorem or_nIb {b k : Nat} (hb : b < 16) (hk : k < 4) : nI b ||| ((1 : Int32) <<< (nI k &&& 31)) = nI (b ||| 2 ^ k) ∧ (b ||| 2 ^ k) < 16 := by
  have h : ∀ b, b < 16 → ∀ k, k < 4 → nI b ||| ((1 : Int32) <<< (nI k &&& 31)) = nI (b ||| 2 ^ k) ∧ (b ||| 2 ^ k) < 16 := by decide +kernel
  exact h b hb k hk
theorem letb_l {N : Nat} (hN : N ≤ 4) (hT : TxC B n I) (hk : TkC B n I p) (hs : smB B n p = true) : ∀ r i b, i + r = wd B n p → p ≤ i → b < 16 → V PR d 124 7 [(0, vR (some (102, 0))), (1, vi (nI N)), (2, vi (nI b)), (3, vi (nI i))] [] (mm nn I L P E c s) = some (.inl (some (vi (opI (lbP B N r i b)))), mm nn I L P E c s)
  | 0, i, b, h, _, hb => by
    have h6 := hT.1
    have hl := wd_le (B := B) (n := n) hk.1
    rw [k_X10_letterBits_7, hk.2.2.2.1, en_w hs, nI_led (by omega) (by omega), decide_eq_true (by omega), cond_true]
    rfl
  | r + 1, i, b, h, hpi, hb => by
    have h6 := hT.1
    have hl := wd_le (B := B) (n := n) hk.1
    have hs2 := sm_r (wdr_in (B := B) (n := n) hpi (by omega))
    have e1 : I 101 0 (nI i).toNatClampNeg - 97 = nI (B i - 97) := by
      rw [nI_clamp (by omega), hT.2.2.2 i (by omega)]
      exact cbb_sub hs2.1 hs2.2
    rw [k_X10_letterBits_7, hk.2.2.2.1, en_w hs, nI_led (by omega) (by omega), decide_eq_false (by omega), cond_false, hT.2.1, nI_led (by omega) (by omega), decide_eq_false (by omega), cond_false, inb_nI (by omega) (by decide), cond_true, e1, show decide (nI (B i - 97) < (0 : Int32)) = false from decide_eq_false (nI_pos (by omega)), cond_false, nI_led (by omega) (by omega), tb_nIb hb (show B i - 97 < 26 by omega), nI_1]
    unfold lbP
    by_cases q : N ≤ B i - 97
    · rw [decide_eq_true q, cond_true, Bool.true_or, cond_true]
      rfl
    · rw [decide_eq_false q, cond_false, Bool.false_or]
      cases hq : b.testBit (B i - 97) with
      | true => rfl
      | false =>
        obtain ⟨o1, o2⟩ := or_nIb hb (show B i - 97 < 4 by omega)
        rw [Bool.not_false, cond_true, cond_false, o1]
        exact letb_l hN hT hk hs r (i + 1) _ (by omega) (by omega) o2
/-- a word's letters -/
theorem c_letb {N : Nat} (hN : N ≤ 4) (hT : TxC B n I) (hk : TkC B n I p) (hs : smB B n p = true) : V PR d 124 0 [(0, vR (some (102, 0))), (1, vi (nI N))] [] (mm nn I L P E c s) = some (.inl (some (vi (opI (lbP B N (wd B n p - p) p 0)))), mm nn I L P E c s) := by
  have hg := wd_ge (B := B) (n := n) p
  rw [k_X10_letterBits_0, hk.2.1]
  exact letb_l hN hT hk hs (wd B n p - p) p 0 (by omega) (Nat.le_refl _) (by decide)
/-- the text is opened -/
theorem c_open (h6 : n ≤ 600) (hb : ∀ k, k < n → B k < 256) (h1 : ∀ k, k < n → I 101 0 k = cb (B k)) : ∃ J : FI, V PR (d + 1) 119 0 [(0, vR (some (102, 0))), (1, vi (nI n))] [] (mm nn I L P E c s) = some (.inl none, mm nn J L P E c s) ∧ TxC B n J ∧ TkC B n J (sk B n 0) ∧ J 102 0 6 = 0 ∧ J 102 0 7 = -1 ∧ ∀ a r j, a ≠ 102 → J a r j = I a r j := by
  have hT : TxC B n (up3 (up3 (up3 (up3 I 102 0 1 (nI n)) 102 0 4 0) 102 0 6 0) 102 0 7 (-1)) := ⟨h6, rfl, hb, fun k hk => h1 k hk⟩
  obtain ⟨J, r1, k1, f1⟩ := c_next (d := d) (nn := nn) (L := L) (P := P) (E := E) (c := c) (s := s) hT (Nat.zero_le n) (show _ = nI 0 from rfl)
  have em : V PR d 5 0 [(0, vi (nI n)), (1, vi (600 : Int32))] [] (mm nn I L P E c s) = some (.inl (some (vi (nI n))), mm nn I L P E c s) := by
    rw [k_J9_min_7cf53_0, show decide ((600 : Int32) < nI n) = false from (nI_ltd (a := 600) (by decide) (by omega)).trans (decide_eq_false (by omega)), cond_false]
  refine ⟨J, ?_, hT.fx f1, k1, f1 102 0 6 (fun _ => by decide), f1 102 0 7 (fun _ => by decide), fun a r j ha => (f1 a r j (fun e => absurd e ha)).trans (by rw [up3_a ha, up3_a ha, up3_a ha, up3_a ha])⟩
  rw [k_X10_open_0, em, Vk_v, k_X10_open_10, r1, Vk_n, k_X10_open_32]
end TextC2
