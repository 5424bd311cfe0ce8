/-! THE TWO SIDES: what holds between the class's cells and the reference's, call after call. -/
/-- places that a call which only asks leaves as they were -/
def kp (a j : Nat) : Bool :=
  bif Nat.beq a 100 then (Nat.beq j 1 || (Nat.beq j 3 || Nat.beq j 10))
  else bif Nat.beq a 186 then (Nat.beq j 1 || (Nat.beq j 3 || (Nat.beq j 24 || (Nat.beq j 25 || Nat.beq j 26))))
  else bif Nat.blt a 487 then (Nat.blt a 2 || (List.elem a [101, 187, 190, 198, 208, 220, 229, 237, 248, 309, 316, 317, 318] || ((Nat.blt 102 a && Nat.blt a 115) || ((Nat.blt 126 a && Nat.blt a 135) || (Nat.blt 144 a && Nat.blt a 170)))))
  else true
def Kp {α : Type} (c : Nat) (f g : Nat → Nat → Nat → α) : Prop := ∀ a r j, a < c → kp a j = true → g a r j = f a r j
theorem Kp.rfl' {α : Type} {c : Nat} {f : Nat → Nat → Nat → α} : Kp c f f := fun _ _ _ _ _ => rfl
theorem Kp.up {α : Type} {c : Nat} {f g : Nat → Nat → Nat → α} (h : Kp c f g) {a r k : Nat} {x : α} (hk : kp a k = false) : Kp c f (up3 g a r k x) := fun b t j hb hj => by
  unfold up3
  by_cases e1 : b = a
  · subst e1
    by_cases e2 : t = r
    · subst e2
      by_cases e3 : j = k
      · subst e3; rw [hk] at hj; cases hj
      · rw [if_pos rfl, if_pos rfl, if_neg e3]; exact h _ _ _ hb hj
    · rw [if_pos rfl, if_neg e2]; exact h _ _ _ hb hj
  · rw [if_neg e1]; exact h _ _ _ hb hj
theorem Kp.cl {α : Type} {c a : Nat} {f g : Nat → Nat → Nat → α} (h : Kp c f g) (ha : c ≤ a) {x : α} : Kp c f (cl3 g a x) := fun b t j hb hj => by
  unfold cl3
  rw [if_neg (by omega)]
  exact h _ _ _ hb hj
theorem Kp.tr {α : Type} {c c2 : Nat} {f g k : Nat → Nat → Nat → α} (h : Kp c f g) (h2 : Kp c2 g k) (hc : c ≤ c2) : Kp c f k := fun b t j hb hj => (h2 b t j (by omega) hj).trans (h b t j hb hj)
def zN (I : FI) : Nat := (I 190 0 0).toNatClampNeg
def zP (I : FI) : Nat := (I 190 0 1).toNatClampNeg
def zW (I : FI) : Nat := (I 190 0 2).toNatClampNeg
def zV (I : FI) : Nat := (I 190 0 3).toNatClampNeg
def zS (I : FI) : Nat := (I 190 0 4).toNatClampNeg
def zA (I : FI) : Nat := (I 186 0 24).toNatClampNeg
def zH (I : FI) : Nat := (I 186 0 25).toNatClampNeg
def zM (I : FI) : Nat := (I 186 0 26).toNatClampNeg
def zT (I : FI) : Nat := (I 186 0 1).toNatClampNeg
def zB (I : FI) : Nat := zN I + zV I
/-- all states of so many bits -/
def allL (b : Nat) : Int64 := Int64.ofBitVec (BitVec.ofNat 64 (2 ^ 2 ^ b - 1))
/-- two days, the first no later; or none -/
def dys (x y : Int32) : Prop := (x = -1 ∧ y = -1) ∨ ∃ f t : Nat, x = nI f ∧ y = nI t ∧ f ≤ t ∧ t < 365
def RTold (I : FI) : Prop := (I 190 0 0 = nI (zN I) ∧ 1 ≤ zN I ∧ zN I ≤ 4) ∧ (I 190 0 1 = nI (zP I) ∧ zP I ≤ 8) ∧ (I 190 0 2 = nI (zW I) ∧ zW I ≤ 6) ∧ (I 190 0 3 = nI (zV I) ∧ zV I ≤ 2) ∧ (I 190 0 4 = nI (zS I) ∧ zS I < 2 ^ zB I) ∧ dys (I 190 0 5) (I 190 0 6)
def RLand (I : FI) (L : FL) : Prop := I 103 0 0 = I 190 0 0 ∧ I 103 0 1 = I 190 0 1 ∧ I 103 0 2 = I 190 0 2 ∧ I 103 0 3 = I 190 0 3 ∧ I 103 0 4 = nI (2 ^ zB I) ∧ L 103 0 5 = allL (zB I) ∧ I 127 0 0 = I 190 0 4 ∧ I 103 0 7 = I 190 0 5 ∧ I 103 0 8 = I 190 0 6
def RWell (I : FI) : Prop := ∀ w, w < zW I → (I 105 0 w = I 198 (w + 1) 0 ∧ I 106 0 w = I 198 (w + 1) 1 ∧ I 107 0 w = I 198 (w + 1) 2 ∧ I 108 0 w = I 198 (w + 1) 3 ∧ I 109 0 w = I 198 (w + 1) 4 ∧ I 110 0 w = I 198 (w + 1) 5) ∧ (∃ p, I 198 (w + 1) 0 = nI p ∧ p < zP I) ∧ (∃ b, I 198 (w + 1) 1 = nI b ∧ b < 2 ^ zN I) ∧ (∃ D R, I 198 (w + 1) 2 = nI D ∧ I 198 (w + 1) 3 = nI R ∧ D ≤ 30 ∧ (R < D ∨ (D = 0 ∧ R = 0))) ∧ dys (I 198 (w + 1) 4) (I 198 (w + 1) 5)
def RVein (I : FI) : Prop := ∀ v, v < zV I → (I 111 0 v = I 208 (v + 1) 0 ∧ I 112 0 v = I 208 (v + 1) 1 ∧ I 113 0 v = I 208 (v + 1) 2 ∧ I 114 0 v = I 208 (v + 1) 3) ∧ ∃ k j f t, I 208 (v + 1) 0 = nI k ∧ I 208 (v + 1) 1 = nI j ∧ I 208 (v + 1) 2 = nI f ∧ I 208 (v + 1) 3 = nI t ∧ k < zW I ∧ j < zW I ∧ k ≠ j ∧ f ≤ t ∧ t < 365
def RFar (I : FI) : Prop := (∀ a b, a < zP I → b < zP I → I 104 0 (a * 8 + b) = I 220 (a + 1) b ∧ (I 220 (a + 1) b = -1 ∨ ∃ h, I 220 (a + 1) b = nI h ∧ h ≤ 63) ∧ I 220 (a + 1) b = I 220 (b + 1) a) ∧ (∀ a, a < zP I → I 220 (a + 1) a = 0) ∧ ∀ a b k, a < zP I → b < zP I → k < zP I → I 220 (a + 1) b ≠ -1 → I 220 (b + 1) k ≠ -1 → I 220 (a + 1) k ≠ -1
def RDia (I : FI) (L : FL) : Prop := I 186 0 24 = nI (zA I) ∧ zA I ≤ 60 ∧ I 127 0 2 = I 186 0 24 ∧ ∀ k, k < zA I → I 129 0 k = I 248 (k + 1) 0 ∧ I 130 0 k = I 248 (k + 1) 1 ∧ I 131 0 k = I 248 (k + 1) 2 ∧ L 132 0 k = L 316 0 k ∧ L 316 0 k &&& allL (zB I) = L 316 0 k
def RHea (I : FI) (L : FL) : Prop := I 186 0 25 = nI (zH I) ∧ zH I ≤ 10 ∧ I 127 0 7 = I 186 0 25 ∧ ∀ k, k < zH I → L 133 0 k = L 317 0 k
def ROff (I : FI) : Prop := ∀ b w, b < 6 → w < 6 → I 134 0 (b * 6 + w) = I 309 (b + 1) w ∧ ∃ p, I 309 (b + 1) w = nI p ∧ p ≤ 99
def RTap (I : FI) : Prop := I 186 0 1 = nI (zT I) ∧ zT I ≤ 600 ∧ I 100 0 1 = I 186 0 1 ∧ ∀ k, k < zT I → ∃ b, b < 256 ∧ I 187 0 k = nI b ∧ I 101 0 k = (nI b).toInt8.toInt32
def RFau (I : FI) : Prop := I 100 0 3 = I 186 0 3
def RRef (I : FI) : Prop := I 100 0 17 = I 188 0 0 ∧ I 100 0 18 = I 188 0 1
/-- the k-th step of a phrase, by the reference's pair -/
def stepOf (how v step : Int32) : Prop := (how = 0 ∧ ∃ a, v = nI a ∧ a < 4 ∧ step = nI a) ∨ (how = 1 ∧ step = 7) ∨ (how = 2 ∧ step = 4) ∨ (how = 3 ∧ step = 5) ∨ (how = 4 ∧ step = 6) ∨ (how = 5 ∧ ∃ w, v = nI w ∧ w < 6 ∧ step = nI (9 + w)) ∨ (how = 6 ∧ step = 8)
/-- how high the pile is behind so many steps -/
def pileAt (f : Nat → Int32) : Nat → Int
  | 0 => 0
  | k + 1 => pileAt f k + (if f (2 * k) = 0 then 1 else if f (2 * k) = 1 ∨ f (2 * k) = 5 ∨ f (2 * k) = 6 then 0 else -1)
/-- a phrase's cells and the reference's sentence with its code -/
def PhR (I : FI) (P : FR) (E : FE) (c : Nat) (wn : Nat) (ph : Option (Nat × Nat)) (len atoms wells : Int32) (f : Nat → Int32) : Prop := (len = -1 ∧ ph = none) ∨ ∃ p q k A W : Nat, ph = some (p, 0) ∧ 487 ≤ p ∧ p < c ∧ E p = (1, 5, 0, 0) ∧ P p 0 0 = some (q, 0) ∧ 487 ≤ q ∧ q < c ∧ E q = (2, 0, k, 0) ∧ k ≤ 150 ∧ 1 ≤ k ∧ len = nI k ∧ atoms = nI A ∧ A < 16 ∧ wells = nI W ∧ W < 64 ∧ I p 0 1 = nI (A + 16 * W) ∧ (∀ j, j < k → stepOf (f (2 * j)) (f (2 * j + 1)) (I q 0 j)) ∧ (∀ j, j < k → f (2 * j) = 5 ∨ f (2 * j) = 6 → ∃ w, f (2 * j + 1) = nI w ∧ w < wn) ∧ (∀ j, 1 ≤ j → j ≤ k → 1 ≤ pileAt f j) ∧ pileAt f k = 1
def RPhr (I : FI) (P : FR) (E : FE) (c : Nat) : Prop := ∀ q, q < 7 → PhR I P E c (zW I) (P 128 0 q) (I 229 (q + 1) 0) (I 229 (q + 1) 1) (I 229 (q + 1) 2) (fun j => I 237 (q + 1) j)
/-- an image: the class's book from cell g on, the reference's row -/
def ImR (I : FI) (L : FL) (P : FR) (E : FE) (c : Nat) (g : Nat) (f : Nat → Int64) : Prop :=
  (f 0 = (I g 0 0).toInt64 ∧ ∃ x, I g 0 0 = nI x ∧ x < 2 ^ zB I) ∧ (∃ a, a ≤ 60 ∧ I g 0 2 = nI a ∧ f 1 = (nI a).toInt64 ∧ ∀ k, k < a → f (2264 + 4 * k) = (I (g + 2) 0 k).toInt64 ∧ f (2264 + 4 * k + 1) = (I (g + 3) 0 k).toInt64 ∧ f (2264 + 4 * k + 2) = (I (g + 4) 0 k).toInt64 ∧ f (2264 + 4 * k + 3) = L (g + 5) 0 k ∧ L (g + 5) 0 k &&& allL (zB I) = L (g + 5) 0 k) ∧
  (∃ a, a ≤ 10 ∧ I g 0 7 = nI a ∧ f 2 = (nI a).toInt64 ∧ ∀ k, k < a → f (2504 + k) = L (g + 6) 0 k) ∧
  (∀ b w, b < 6 → w < 6 → f (2514 + (b * 6 + w)) = (I (g + 7) 0 (b * 6 + w)).toInt64 ∧ ∃ p, I (g + 7) 0 (b * 6 + w) = nI p ∧ p ≤ 99) ∧
  (∀ q, q < 7 → PhR I P E c (zW I) (P (g + 1) 0 q) (f (3 + 323 * q)).toInt32 (f (3 + 323 * q + 1)).toInt32 (f (3 + 323 * q + 2)).toInt32 (fun j => (f (3 + 323 * q + 3 + j)).toInt32))
def RImg (I : FI) (L : FL) (P : FR) (E : FE) (c : Nat) : Prop := I 186 0 26 = nI (zM I) ∧ zM I ≤ 3 ∧ I 100 0 10 = I 186 0 26 ∧ ∀ i, i < zM I → ImR I L P E c (146 + 8 * i) (fun j => L 318 (i + 1) j)
section KeepRel
variable {c : Nat} {I I' : FI} {L L' : FL} {P P' : FR} {E E' : FE}
theorem Kp.at {α : Type} {f g : Nat → Nat → Nat → α} (h : Kp c f g) (hc : 487 ≤ c) {a : Nat} (ha : a < 487) (hk : ∀ j, kp a j = true) : ∀ r j, g a r j = f a r j := fun r j => h a r j (by omega) (hk j)
theorem kz (h : Kp c I I') (hc : 487 ≤ c) : zN I' = zN I ∧ zP I' = zP I ∧ zW I' = zW I ∧ zV I' = zV I ∧ zS I' = zS I ∧ zA I' = zA I ∧ zH I' = zH I ∧ zM I' = zM I ∧ zT I' = zT I ∧ zB I' = zB I := by
  have e := h.at hc (a := 190) (by decide) (fun _ => rfl)
  have f : ∀ j, kp 186 j = true → I' 186 0 j = I 186 0 j := fun j hj => h 186 0 j (by omega) hj
  simp only [zB, zN, zP, zW, zV, zS, zA, zH, zM, zT, e, f 24 rfl, f 25 rfl, f 26 rfl, f 1 rfl, and_self]
theorem RTold.keep (k : Kp c I I') (hc : 487 ≤ c) (h : RTold I) : RTold I' := by
  obtain ⟨e1, e2, e3, e4, e5, e6, e7, e8, e9, e10⟩ := kz k hc
  have e := k.at hc (a := 190) (by decide) (fun _ => rfl)
  unfold RTold
  rw [e1, e2, e3, e4, e5, e10]
  simp only [e]
  exact h
theorem RLand.keep (k : Kp c I I') (kl : Kp c L L') (hc : 487 ≤ c) (h : RLand I L) : RLand I' L' := by
  obtain ⟨e1, e2, e3, e4, e5, e6, e7, e8, e9, e10⟩ := kz k hc
  unfold RLand
  rw [e10]
  simp only [k.at hc (a := 190) (by decide) (fun _ => rfl), k.at hc (a := 103) (by decide) (fun _ => rfl), k.at hc (a := 127) (by decide) (fun _ => rfl), kl.at hc (a := 103) (by decide) (fun _ => rfl)]
  exact h
end KeepRel
