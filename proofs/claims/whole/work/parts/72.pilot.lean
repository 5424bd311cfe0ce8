/-! SILENCE. -/
def silB (I : FI) (w : Nat) (x : Int32) : Bool := (!decide (I 198 (w + 1) 4 = -1) && inR x (I 198 (w + 1) 4) (I 198 (w + 1) 5)) || (!decide (I 190 0 5 = -1) && inR x (I 190 0 5) (I 190 0 6))
def husB (I : FI) (w : Nat) (x : Int32) : Bool := (!decide (x < I 109 0 w) && decide (x ≤ I 110 0 w)) || (!decide (x < I 103 0 7) && !decide (I 103 0 8 < x))
theorem tn_lit (n : Nat) (h : n < 2 ^ 31) : (OfNat.ofNat n : Int32).toNatClampNeg = n := nI_clamp h
section Silent
variable {d n : Nat} {I : FI} {L : FL} {P : FR} {E : FE} {c s : Nat}
theorem c_isSilent {w : Nat} (hw : w < 6) (x : Int32) : V PR (d + 1) 254 0 [(0, vR (some (186, 0))), (1, vi (nI w)), (2, vi x)] [] (mm n I L P E c s) = some (.inl (some (vi (b2i (silB I w x)))), mm n I L P E c s) := by
  have e1 : inb (nI w) 6 = true := inb_nI hw (by decide)
  have e2 : ∀ i, inb i 6 = true → arrOk (mm n I L P E c s) 198 (w + 1) 0 i = true := fun i hi => by rw [aro_198, blt_t hw, hi]; rfl
  have e3 := nI_clamp (show w < 2 ^ 31 by omega)
  rw [k_X12_isSilent_0]
  simp only [e1, e3, e2 4 (by decide +kernel), e2 5 (by decide +kernel), cond_true, tn_4, tn_5, c_in, Vk_v, Nat.reduceAdd, k_X12_isSilent_32, k_X12_isSilent_62, b2i_ne0, b2i_eq0]
  unfold silB
  cases decide (I 198 (w + 1) 4 = -1) <;> cases inR x (I 198 (w + 1) 4) (I 198 (w + 1) 5) <;> cases decide (I 190 0 5 = -1) <;> cases inR x (I 190 0 5) (I 190 0 6) <;> rfl
theorem c_hushed {w : Nat} (hw : w < 6) (x : Int32) : V PR d 37 0 [(0, vR (some (103, 0))), (1, vi (nI w)), (2, vi x)] [] (mm n I L P E c s) = some (.inl (some (vi (b2i (husB I w x)))), mm n I L P E c s) := by
  have e1 : inb (nI w) 6 = true := inb_nI hw (by decide)
  have e3 := nI_clamp (show w < 2 ^ 31 by omega)
  rw [k_X2_hushed_0]
  simp only [e1, e3, cond_true]
  unfold husB
  cases decide (x < I 109 0 w) <;> cases decide (x ≤ I 110 0 w) <;> cases decide (x < I 103 0 7) <;> cases decide (I 103 0 8 < x) <;> rfl
end Silent
section Calls9
variable {d n : Nat} {I : FI} {L : FL} {P : FR} {E : FE} {c s : Nat}
/-- a well there is, or none: both answer alike -/
theorem c_wantWell (x : Int32) : V PR (d + 1) 194 0 [(0, vR (some (100, 0))), (1, vi x)] [] (mm n I L P E c s) = bif (!decide (x < 0) && !decide (I 103 0 2 ≤ x)) then some (.inl none, mm n I L P E c s) else some (.inr (0, c), newc (mm n (up3 I 100 0 17 (I 100 0 17 + 1)) L P E c s) (5, 0, 0, 0) 1 6) := by
  rw [k_X11_wantWell_0]
  simp only [c_wantThere_t, c_wantThere_f, Vk_n, Nat.reduceAdd, k_X11_wantWell_24, Vk_x f_194_21 (show 194 < 332 by decide)]
  cases decide (x < 0) <;> cases decide (I 103 0 2 ≤ x) <;> rfl
theorem c_wantDay (x : Int32) : V PR (d + 1) 196 0 [(0, vR (some (100, 0))), (1, vi x)] [] (mm n I L P E c s) = bif (!decide (x < 0) && !decide (365 ≤ x)) then some (.inl none, mm n I L P E c s) else some (.inr (1, c), newc (mm n (up3 I 100 0 18 (I 100 0 18 + 1)) L P E c s) (5, 1, 0, 0) 1 6) := by
  rw [k_X11_wantDay_0]
  simp only [c_wantRight_t, c_wantRight_f, Vk_n, Nat.reduceAdd, k_X11_wantDay_20, Vk_x f_196_17 (show 196 < 332 by decide)]
  cases decide (x < 0) <;> cases decide ((365 : Int32) ≤ x) <;> rfl
end Calls9
