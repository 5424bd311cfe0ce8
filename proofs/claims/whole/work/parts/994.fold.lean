/-! The last three additions of the machine's count of bits. -/
section Fold
theorem fold8 {c0 c1 c2 c3 c4 c5 c6 c7 u v w : Nat} (h0 : c0 ≤ 8) (h1 : c1 ≤ 8) (h2 : c2 ≤ 8) (h3 : c3 ≤ 8) (h4 : c4 ≤ 8) (h5 : c5 ≤ 8) (h6 : c6 ≤ 8) (h7 : c7 ≤ 8) (hu : u = 256 * (256 * (256 * (256 * (256 * (256 * (256 * (256 * 0 + c7) + c6) + c5) + c4) + c3) + c2) + c1) + c0) (hv : v = u + u / 256) (hw : w = v + v / 65536) : (w + w / 4294967296) % 128 = c0 + c1 + c2 + c3 + c4 + c5 + c6 + c7 ∧ w + w / 4294967296 < 2 ^ 63 := by
  obtain ⟨U6, g6⟩ : ∃ U, U = 256 * c7 + c6 := ⟨_, rfl⟩
  obtain ⟨U5, g5⟩ : ∃ U, U = 256 * U6 + c5 := ⟨_, rfl⟩
  obtain ⟨U4, g4⟩ : ∃ U, U = 256 * U5 + c4 := ⟨_, rfl⟩
  obtain ⟨U3, g3⟩ : ∃ U, U = 256 * U4 + c3 := ⟨_, rfl⟩
  obtain ⟨U2, g2⟩ : ∃ U, U = 256 * U3 + c2 := ⟨_, rfl⟩
  obtain ⟨U1, g1⟩ : ∃ U, U = 256 * U2 + c1 := ⟨_, rfl⟩
  have e0 : u = 256 * U1 + c0 := by rw [hu, g1, g2, g3, g4, g5, g6, Nat.mul_zero, Nat.zero_add]
  clear hu
  have e1 : u / 256 = U1 := by clear hv hw g1 g2 g3 g4 g5 g6; omega
  rw [e1] at hv
  obtain ⟨L, l1⟩ : ∃ L, L = c0 + c1 + 256 * (c1 + c2) := ⟨_, rfl⟩
  obtain ⟨M, l2⟩ : ∃ M, M = c2 + c3 + 256 * (c3 + c4) := ⟨_, rfl⟩
  obtain ⟨N, l3⟩ : ∃ N, N = c4 + c5 + 256 * (c5 + c6) := ⟨_, rfl⟩
  obtain ⟨Z, l4⟩ : ∃ Z, Z = U6 + c7 := ⟨_, rfl⟩
  obtain ⟨Y, l5⟩ : ∃ Y, Y = U4 + U5 := ⟨_, rfl⟩
  obtain ⟨X, l6⟩ : ∃ X, X = U2 + U3 := ⟨_, rfl⟩
  have hL : L ≤ 4112 := by omega
  have hM : M ≤ 4112 := by omega
  have hN : N ≤ 4112 := by omega
  have hZ : Z ≤ 2064 := by omega
  have hY : Y = N + 65536 * Z := by clear hw hv e0 e1 g1 g2 g3 l1 l2 l6 hL hM hN hZ; omega
  have hX : X = M + 65536 * Y := by clear hw hv e0 e1 g1 l1 l3 l4 hL hM hN hZ hY g5 g6; omega
  have hv2 : v = L + 65536 * X := by clear hw e1 g3 g4 g5 g6 l2 l3 l4 l5 hL hM hN hZ hY hX; omega
  have e2 : v / 65536 = X := by clear hw hv e0 e1 g1 g2 g3 g4 g5 g6 l1 l2 l3 l4 l5 l6 hX hY; omega
  rw [e2] at hw
  have hw2 : w = (L + 65536 * M + M + 65536 * N) + 4294967296 * (Y + Z) := by clear hv e0 e1 e2 g1 g2 g3 g4 g5 g6 l1 l2 l3 l4 l5 l6 hL hM hN hZ; omega
  have e3 : w / 4294967296 = Y + Z := by clear hw hv e0 e1 e2 hv2 g1 g2 g3 g4 g5 g6 l1 l2 l3 l4 l5 l6 hX hY; omega
  rw [e3]
  have r1 : L % 128 = (c0 + c1) % 128 := by rw [l1]; clear hw hv e0 e1 e2 e3; omega
  have r2 : M % 128 = (c2 + c3) % 128 := by rw [l2]; clear hw hv e0 e1 e2 e3; omega
  have r3 : N % 128 = (c4 + c5) % 128 := by rw [l3]; clear hw hv e0 e1 e2 e3; omega
  have r4 : Z % 128 = (c6 + c7) % 128 := by rw [l4, g6]; clear hw hv e0 e1 e2 e3; omega
  have hs : (w + (Y + Z)) % 128 = (L + M + N + Z) % 128 := by rw [hw2, hY]; clear hw hv e0 e1 e2 e3; omega
  constructor
  · rw [hs]
    clear hw hv e0 e1 e2 e3 hv2 hw2 hX hY g1 g2 g3 g4 g5 g6 l1 l2 l3 l4 l5 l6 hL hM hN hZ hs
    omega
  · clear hw hv e0 e1 e2 e3 hv2 hX g1 g2 g3 g4 g5 g6 l1 l2 l3 l4 l5 l6 hs r1 r2 r3 r4
    omega
end Fold
