/-! SMALL CONTRACTS: what is wanted, what is refused, silence. -/
def inR (x lo hi : Int32) : Bool := !decide (x < lo) && !decide (hi < x)
section Small
variable {d n : Nat} {I : FI} {L : FL} {P : FR} {E : FE} {c s : Nat}
theorem c_in (x0 x1 x2 : Int32) : V PR d 210 0 [(0, vi x0), (1, vi x1), (2, vi x2)] [] (mm n I L P E c s) = some (.inl (some (vi (b2i (inR x0 x1 x2)))), mm n I L P E c s) := by
  rw [k_X12_in_0]
  unfold inR
  cases decide (x0 < x1) <;> cases decide (x2 < x0) <;> rfl
theorem c_isWell (x : Int32) : V PR (d + 1) 247 0 [(0, vR (some (186, 0))), (1, vi x)] [] (mm n I L P E c s) = some (.inl (some (vi (b2i (inR x 0 (I 190 0 2 - 1))))), mm n I L P E c s) := by
  rw [k_X12_isWell_0, c_in, Vk_v, k_X12_isWell_13, b2i_bit, cond_true]
theorem c_isPlace (x : Int32) : V PR (d + 1) 248 0 [(0, vR (some (186, 0))), (1, vi x)] [] (mm n I L P E c s) = some (.inl (some (vi (b2i (inR x 0 (I 190 0 1 - 1))))), mm n I L P E c s) := by
  rw [k_X12_isPlace_0, c_in, Vk_v, k_X12_isPlace_13, b2i_bit, cond_true]
theorem c_isDay (x : Int32) : V PR (d + 1) 249 0 [(0, vi x)] [] (mm n I L P E c s) = some (.inl (some (vi (b2i (inR x 0 364)))), mm n I L P E c s) := by
  rw [k_X12_isDay_0, c_in, Vk_v, k_X12_isDay_8, b2i_bit, cond_true]
/-- the class asks for no less -/
theorem c_wantThere_t : V PR d 202 0 [(0, vR (some (100, 0))), (1, vi 1)] [] (mm n I L P E c s) = some (.inl none, mm n I L P E c s) := by
  rw [k_X11_wantThere_0, show (!decide ((1 : Int32) = 0)) = true from by decide +kernel, cond_true]
theorem c_wantThere_f : V PR d 202 0 [(0, vR (some (100, 0))), (1, vi 0)] [] (mm n I L P E c s) = some (.inr (0, c), newc (mm n (up3 I 100 0 17 (I 100 0 17 + 1)) L P E c s) (5, 0, 0, 0) 1 6) := by
  rw [k_X11_wantThere_0, show (!decide ((0 : Int32) = 0)) = false from by decide +kernel, cond_false]
theorem c_wantRight_t : V PR d 203 0 [(0, vR (some (100, 0))), (1, vi 1)] [] (mm n I L P E c s) = some (.inl none, mm n I L P E c s) := by
  rw [k_X11_wantRight_0, show (!decide ((1 : Int32) = 0)) = true from by decide +kernel, cond_true]
theorem c_wantRight_f : V PR d 203 0 [(0, vR (some (100, 0))), (1, vi 0)] [] (mm n I L P E c s) = some (.inr (1, c), newc (mm n (up3 I 100 0 18 (I 100 0 18 + 1)) L P E c s) (5, 1, 0, 0) 1 6) := by
  rw [k_X11_wantRight_0, show (!decide ((0 : Int32) = 0)) = false from by decide +kernel, cond_false]
end Small
