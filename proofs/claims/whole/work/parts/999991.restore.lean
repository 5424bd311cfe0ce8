/-! PROMISE 54: restore. -/
section Lnd
variable {c t s : Nat} {I I' : FI} {L L' : FL} {P P' : FR} {E : FE}
/-- places of the country kept -/
def Kl (I I' : FI) : Prop := ∀ a r j, ((103 ≤ a ∧ a ≤ 114) ∨ a = 198 ∨ a = 208 ∨ a = 220 ∨ (a = 190 ∧ j ≠ 4)) → I' a r j = I a r j
theorem Kl.at (k : Kl I I') {a : Nat} (ha : (103 ≤ a ∧ a ≤ 114) ∨ a = 198 ∨ a = 208 ∨ a = 220) (r j : Nat) : I' a r j = I a r j := k a r j (by omega)
theorem lz (k : Kl I I') : zN I' = zN I ∧ zP I' = zP I ∧ zW I' = zW I ∧ zV I' = zV I ∧ zB I' = zB I := by
  simp only [zB, zN, zP, zW, zV, k 190 0 0 (by decide), k 190 0 1 (by decide), k 190 0 2 (by decide), k 190 0 3 (by decide), and_self]
theorem RWell.ld (k : Kl I I') (h : RWell I) : RWell I' := by
  obtain ⟨e1, e2, e3, -⟩ := lz k
  unfold RWell
  rw [e1, e2, e3]
  simp only [k.at (a := 105) (by decide), k.at (a := 106) (by decide), k.at (a := 107) (by decide), k.at (a := 108) (by decide), k.at (a := 109) (by decide), k.at (a := 110) (by decide), k.at (a := 198) (by decide)]
  exact h
theorem RVein.ld (k : Kl I I') (h : RVein I) : RVein I' := by
  obtain ⟨e1, e2, e3, e4, -⟩ := lz k
  unfold RVein
  rw [e3, e4]
  simp only [k.at (a := 111) (by decide), k.at (a := 112) (by decide), k.at (a := 113) (by decide), k.at (a := 114) (by decide), k.at (a := 208) (by decide)]
  exact h
theorem RFar.ld (k : Kl I I') (h : RFar I) : RFar I' := by
  obtain ⟨e1, e2, -⟩ := lz k
  unfold RFar
  rw [e2]
  simp only [k.at (a := 104) (by decide), k.at (a := 220) (by decide)]
  exact h
theorem RTap.ld (h1 : I' 186 0 1 = I 186 0 1) (h2 : I' 100 0 1 = I 100 0 1) (h3 : ∀ a j, (a = 187 ∨ a = 101) → I' a 0 j = I a 0 j) (h : RTap I) : RTap I' := by
  unfold RTap zT at h ⊢
  simp only [h1, h2, h3 187 _ (by decide), h3 101 _ (by decide)]
  exact h
theorem RStm.ld (k0 : I' 186 0 40 = I 186 0 40) (k : ∀ a r j, (a = 377 ∨ a = 414) → I' a r j = I a r j) (h : RStm t I) : RStm t I' := by
  obtain ⟨m, h1, h2, h3, h4⟩ := h
  refine ⟨m, h1, by rw [k0]; exact h2, fun j d hj hd => ?_, fun d hd => ?_⟩
  · rw [k 377 _ _ (by decide)]; exact h3 j d hj hd
  · rw [k 414 _ _ (by decide)]; exact h4 d hd
/-- a new edition: nothing that was kept for days holds -/
theorem RAlm.ren (h : RAlm t I L) (e0 : I' 135 0 7 = I 135 0 7 + 1) (e1 : ∀ j, I' 137 0 j = I 137 0 j) (e2 : ∀ j, I' 140 0 j = I 140 0 j) : RAlm (t + 1) I' L' := by
  obtain ⟨e, h1, h2, h3, h4, h5⟩ := h
  refine ⟨e + 1, by rw [e0, h1, nI_1], by omega, by omega, fun q d hq hd => ?_, fun d hd => ?_⟩
  · obtain ⟨k, k1, k2, -⟩ := h4 q d hq hd
    exact ⟨k, by omega, by rw [e1]; exact k2, fun e => by omega⟩
  · obtain ⟨k, k1, k2, -⟩ := h5 d hd
    exact ⟨k, by omega, by rw [e2]; exact k2, fun e => by omega⟩
end Lnd
section Restore
variable {d n t : Nat} {I J M : FI} {L K N : FL} {P Q : FR} {E : FE} {c s : Nat}
theorem ImR.cz {g : Nat} {f f' : Nat → Int64} (hI : ∀ k r j, k < 8 → J (g + k) r j = I (g + k) r j) (hL : ∀ k r j, k < 8 → K (g + k) r j = L (g + k) r j) (eB : zB J = zB I) (eW : zW J = zW I) (h487 : ∀ b r j, 487 ≤ b → J b r j = I b r j) (hP : ∀ r j, Q (g + 1) r j = P (g + 1) r j) (hP2 : ∀ b r j, 487 ≤ b → Q b r j = P b r j) (hf : ∀ k, f' k = f k) (h : ImR I L P E c g f) : ImR J K Q E c g f' := by
  have ef : f' = f := funext hf
  subst ef
  have e0 : ∀ r j, J g r j = I g r j := fun r j => hI 0 r j (by decide)
  obtain ⟨h1, h2, h3, h4, h5⟩ := h
  unfold ImR
  rw [eB, eW]
  simp only [e0, hI 2 _ _ (by decide), hI 3 _ _ (by decide), hI 4 _ _ (by decide), hI 7 _ _ (by decide), hL 5 _ _ (by decide), hL 6 _ _ (by decide), hP]
  exact ⟨h1, h2, h3, h4, fun q hq => PhR.fc (fun _ _ => rfl) h487 hP2 (h5 q hq)⟩
theorem rest_rel {i y : Nat} (hi : i < 3) (hy : y = 146 + 8 * i) (hz : zM I = i + 1) (h : Rl t I L P E c s) (hC : CpB 127 y I J L K P Q) {I3 : FI} (hI3 : I3 = up3 (up3 (up3 (up3 J 100 0 10 (nI i)) 135 0 7 (I 135 0 7 + 1)) 186 0 0 0) 186 0 26 (nI i)) (hR : Rd i I3 M K N) : Rl (t + 1) M N Q E c s := by
  obtain ⟨⟨a1, a2, a3, a4⟩, hT, hl, hw, hv, hf, hd, hh, ho, h9, h10, h11, hP, hIm, h14, h15, h16⟩ := h
  obtain ⟨m1, m2, m3, m4⟩ := hIm
  obtain ⟨C1, C2, C3, C4, C5, C6, C7⟩ := hC
  obtain ⟨R1, R2, R3, R4, R5, R6, R7, R8, R9⟩ := hR
  obtain ⟨⟨i1, ix, i2, i3⟩, ⟨ia, i4, i5, i6, i7⟩, ⟨ih, i8, i9, i10, i11⟩, i12, i13⟩ := m4 i (by omega)
  rw [← hy] at i2 i5 i7 i9 i11 i12 i13 i1
  have eK : ∀ k, K 318 (i + 1) k = L 318 (i + 1) k := fun k => (C7 318 _ k (by omega)).2.1
  have e3 : ∀ b r j, (b < 127 ∨ 134 < b) → (b = 100 → j ≠ 10) → (b = 135 → j ≠ 7) → (b = 186 → j ≠ 0 ∧ j ≠ 26) → I3 b r j = I b r j := fun b r j q1 q2 q3 q4 => by
    rw [hI3, up3_x (fun g => (q4 g.1).2 g.2), up3_x (fun g => (q4 g.1).1 g.2), up3_x (fun g => q3 g.1 g.2), up3_x (fun g => q2 g.1 g.2)]
    exact (C7 b r j q1).1
  have e3b : ∀ b r j, 127 ≤ b → b ≤ 134 → I3 b r j = J b r j := fun b r j q1 q2 => by
    rw [hI3, up3_a (by omega), up3_a (by omega), up3_a (by omega), up3_a (by omega)]
  have eM : ∀ b r j, (b < 127 ∨ 134 < b) → (b = 100 → j ≠ 10) → (b = 135 → j ≠ 7) → (b = 186 → j ≠ 0 ∧ j ≠ 26 ∧ j ≠ 24 ∧ j ≠ 25 ∧ j ≠ 27) → (b = 190 → j ≠ 4) → b ≠ 229 → b ≠ 237 → b ≠ 248 → b ≠ 309 → M b r j = I b r j := fun b r j q1 q2 q3 q4 q5 q6 q7 q8 q9 => by
    rw [R8 b r j (fun g => ⟨(q4 g).2.2.1, (q4 g).2.2.2.1, (q4 g).2.2.2.2⟩) q5 q6 q7 q8 q9]
    exact e3 b r j q1 q2 q3 (fun g => ⟨(q4 g).1, (q4 g).2.1⟩)
  have eMb : ∀ b r j, 127 ≤ b → b ≤ 134 → M b r j = J b r j := fun b r j q1 q2 => by
    rw [R8 b r j (fun g => by omega) (fun g => by omega) (by omega) (by omega) (by omega) (by omega)]
    exact e3b b r j q1 q2
  have eN : ∀ b r j, (b < 127 ∨ 134 < b) → b ≠ 316 → b ≠ 317 → N b r j = L b r j := fun b r j q1 q2 q3 => (R9 b r j q2 q3).trans (C7 b r j (by omega)).2.1
  have kl : Kl I M := fun b r j hb => eM b r j (by omega) (fun g => by omega) (fun g => by omega) (fun g => by omega) (fun g => by omega) (by omega) (by omega) (by omega) (by omega)
  obtain ⟨z1, z2, z3, z4, z5⟩ := lz kl
  have g4 : M 190 0 4 = nI ix := by rw [R1, eK]; rw [show L 318 (i + 1) 0 = (I y 0 0).toInt64 from i1, t6432]; exact i2
  have g24 : M 186 0 24 = nI ia := by rw [R2, eK]; rw [show L 318 (i + 1) 1 = (nI ia).toInt64 from i6, t6432]
  have g25 : M 186 0 25 = nI ih := by rw [R3, eK]; rw [show L 318 (i + 1) 2 = (nI ih).toInt64 from i10, t6432]
  have hx64 : ix < 2 ^ 31 := by
    have : 2 ^ zB I ≤ 2 ^ 6 := Nat.pow_le_pow_right (by decide) (zB_le hT)
    omega
  have zSM : zS M = ix := by unfold zS; rw [g4, nI_clamp hx64]
  have zAM : zA M = ia := by unfold zA; rw [g24, nI_clamp (by omega)]
  have zHM : zH M = ih := by unfold zH; rw [g25, nI_clamp (by omega)]
  have g26 : M 186 0 26 = nI i := by
    rw [R8 186 0 26 (fun _ => by decide) (fun g => absurd g (by decide)) (by decide) (by decide) (by decide) (by decide), hI3, up3_i]
  have g10 : M 100 0 10 = nI i := by
    rw [R8 100 0 10 (fun g => absurd g (by decide)) (fun g => absurd g (by decide)) (by decide) (by decide) (by decide) (by decide), hI3, up3_a (by decide), up3_a (by decide), up3_a (by decide), up3_i]
  have g7 : M 135 0 7 = I 135 0 7 + 1 := by
    rw [R8 135 0 7 (fun g => absurd g (by decide)) (fun g => absurd g (by decide)) (by decide) (by decide) (by decide) (by decide), hI3, up3_a (by decide), up3_a (by decide), up3_i]
  have zMM : zM M = i := by unfold zM; rw [g26, nI_clamp (by omega)]
  have e190 : ∀ j, j ≠ 4 → M 190 0 j = I 190 0 j := fun j hj => kl 190 0 j (.inr (.inr (.inr (.inr ⟨rfl, hj⟩))))
  refine ⟨⟨a1, a2, by omega, by omega⟩, ?_, ?_, hw.ld kl, hv.ld kl, hf.ld kl, ?_, ?_, ?_, ?_, ?_, ?_, ?_, ?_, ?_, ?_, ?_⟩
  · obtain ⟨t1, t2, t3, t4, t5, t6⟩ := hT
    refine ⟨?_, ?_, ?_, ?_, ?_, ?_⟩
    · rw [z1, e190 0 (by decide)]; exact t1
    · rw [z2, e190 1 (by decide)]; exact t2
    · rw [z3, e190 2 (by decide)]; exact t3
    · rw [z4, e190 3 (by decide)]; exact t4
    · rw [zSM, z5]; exact ⟨g4, i3⟩
    · rw [e190 5 (by decide), e190 6 (by decide)]; exact t6
  · obtain ⟨l1, l2, l3, l4, l5, l6, l7, l8, l9⟩ := hl
    have e103 : ∀ j, M 103 0 j = I 103 0 j := fun j => kl 103 0 j (.inl (by decide))
    refine ⟨?_, ?_, ?_, ?_, ?_, ?_, ?_, ?_, ?_⟩
    · rw [e103, e190 0 (by decide)]; exact l1
    · rw [e103, e190 1 (by decide)]; exact l2
    · rw [e103, e190 2 (by decide)]; exact l3
    · rw [e103, e190 3 (by decide)]; exact l4
    · rw [e103, z5]; exact l5
    · rw [eN 103 0 5 (by decide) (by decide) (by decide), z5]; exact l6
    · rw [eMb 127 0 0 (by decide) (by decide), C1 0 (.inl rfl), g4]; exact i2
    · rw [e103, e190 5 (by decide)]; exact l8
    · rw [e103, e190 6 (by decide)]; exact l9
  · refine ⟨by rw [zAM]; exact g24, by rw [zAM]; exact i4, ?_, fun k hk => ?_⟩
    · rw [eMb 127 0 2 (by decide) (by decide), C1 2 (.inr (.inl rfl)), g24]; exact i5
    · rw [zAM] at hk
      obtain ⟨j1, j2, j3, j4, j5⟩ := i7 k hk
      obtain ⟨q1, q2⟩ := R5 k (by omega)
      refine ⟨?_, ?_, ?_, ?_, ?_⟩
      · rw [eMb 129 0 k (by decide) (by decide), q1 0 (by decide), eK, show L 318 (i + 1) (2264 + 4 * k + 0) = (I (y + 2) 0 k).toInt64 from j1, t6432]
        exact C2 2 k (by decide) (by decide) (by omega)
      · rw [eMb 130 0 k (by decide) (by decide), q1 1 (by decide), eK, show L 318 (i + 1) (2264 + 4 * k + 1) = (I (y + 3) 0 k).toInt64 from j2, t6432]
        exact C2 3 k (by decide) (by decide) (by omega)
      · rw [eMb 131 0 k (by decide) (by decide), q1 2 (by decide), eK, show L 318 (i + 1) (2264 + 4 * k + 2) = (I (y + 4) 0 k).toInt64 from j3, t6432]
        exact C2 4 k (by decide) (by decide) (by omega)
      · rw [R9 132 0 k (by decide) (by decide), q2, eK, show L 318 (i + 1) (2264 + 4 * k + 3) = L (y + 5) 0 k from j4]
        exact C4 k (by omega)
      · rw [q2, eK, show L 318 (i + 1) (2264 + 4 * k + 3) = L (y + 5) 0 k from j4, z5]
        exact j5
  · refine ⟨by rw [zHM]; exact g25, by rw [zHM]; exact i8, ?_, fun k hk => ?_⟩
    · rw [eMb 127 0 7 (by decide) (by decide), C1 7 (.inr (.inr rfl)), g25]; exact i9
    · rw [zHM] at hk
      rw [R9 133 0 k (by decide) (by decide), R6 k (by omega), eK, show L 318 (i + 1) (2504 + k) = L (y + 6) 0 k from i11 k hk]
      exact C5 k (by omega)
  · intro b w hb hw
    obtain ⟨j1, p, j2, j3⟩ := i12 b w hb hw
    have q1 : M 309 (b + 1) w = I (y + 7) 0 (b * 6 + w) := by
      rw [R7 b hb w hw, eK, show L 318 (i + 1) (2514 + (b * 6 + w)) = (I (y + 7) 0 (b * 6 + w)).toInt64 from j1, t6432]
    refine ⟨?_, p, q1.trans j2, j3⟩
    rw [eMb 134 0 _ (by decide) (by decide), q1]
    exact C3 _ (by omega)
  · exact h9.ld (eM 186 0 1 (by decide) (by decide) (by decide) (by decide) (by decide) (by decide) (by decide) (by decide) (by decide)) (eM 100 0 1 (by decide) (by decide) (by decide) (by decide) (by decide) (by decide) (by decide) (by decide) (by decide)) (fun a j ha => eM a 0 j (by omega) (fun g => by omega) (fun g => by omega) (fun g => by omega) (fun g => by omega) (by omega) (by omega) (by omega) (by omega))
  · unfold RFau
    rw [eM 100 0 3 (by decide) (by decide) (by decide) (by decide) (by decide) (by decide) (by decide) (by decide) (by decide), eM 186 0 3 (by decide) (by decide) (by decide) (by decide) (by decide) (by decide) (by decide) (by decide) (by decide)]
    exact h10
  · unfold RRef
    rw [eM 100 0 17 (by decide) (by decide) (by decide) (by decide) (by decide) (by decide) (by decide) (by decide) (by decide), eM 100 0 18 (by decide) (by decide) (by decide) (by decide) (by decide) (by decide) (by decide) (by decide) (by decide), eM 188 0 0 (by decide) (by decide) (by decide) (by decide) (by decide) (by decide) (by decide) (by decide) (by decide), eM 188 0 1 (by decide) (by decide) (by decide) (by decide) (by decide) (by decide) (by decide) (by decide) (by decide)]
    exact h11
  · intro q hq
    obtain ⟨r1, r2⟩ := R4 q hq
    have eP : ∀ b r j, 487 ≤ b → Q b r j = P b r j := fun b r j hb => (C7 b r j (by omega)).2.2
    have eI : ∀ b r j, 487 ≤ b → M b r j = I b r j := fun b r j hb => eM b r j (by omega) (fun g => by omega) (fun g => by omega) (fun g => by omega) (fun g => by omega) (by omega) (by omega) (by omega) (by omega)
    have B := PhR.fc (J := M) (Q := Q) (g := fun j => M 237 (q + 1) j) (fun j hj => by rw [r2 j hj, eK]) eI eP (i13 q hq)
    rw [z3, show Q 128 0 q = P (y + 1) 0 q from C6 q hq, r1 0 (by decide), r1 1 (by decide), r1 2 (by decide), eK, eK, eK]
    exact B
  · refine ⟨by rw [zMM]; exact g26, by omega, by rw [g10, g26], fun i' hi' => ?_⟩
    rw [zMM] at hi'
    refine ImR.cz (fun k r j hk => ?_) (fun k r j hk => ?_) z5 z3 (fun b r j hb => ?_) (fun r j => ?_) (fun b r j hb => ?_) (fun k => ?_) (m4 i' (by omega))
    · exact eM _ r j (by omega) (fun g => by omega) (fun g => by omega) (fun g => by omega) (fun g => by omega) (by omega) (by omega) (by omega) (by omega)
    · exact eN _ r j (by omega) (by omega) (by omega)
    · exact eM b r j (by omega) (fun g => by omega) (fun g => by omega) (fun g => by omega) (fun g => by omega) (by omega) (by omega) (by omega) (by omega)
    · exact (C7 _ r j (by omega)).2.2
    · exact (C7 b r j (by omega)).2.2
    · exact eN 318 _ k (by decide) (by decide) (by decide)
  · unfold RBit
    simp only [eN 1 _ _ (by decide) (by decide) (by decide)]
    exact h14
  · exact h15.ren g7 (fun j => eM 137 0 j (by decide) (fun g => absurd g (by decide)) (fun g => absurd g (by decide)) (fun g => absurd g (by decide)) (fun g => absurd g (by decide)) (by decide) (by decide) (by decide) (by decide)) (fun j => eM 140 0 j (by decide) (fun g => absurd g (by decide)) (fun g => absurd g (by decide)) (fun g => absurd g (by decide)) (fun g => absurd g (by decide)) (by decide) (by decide) (by decide) (by decide))
  · obtain ⟨m, n1, n2⟩ := RStm.ld (I' := M) (eM 186 0 40 (by decide) (by decide) (by decide) (by decide) (by decide) (by decide) (by decide) (by decide) (by decide)) (fun a r j ha => eM a r j (by omega) (fun g => by omega) (fun g => by omega) (fun g => by omega) (fun g => by omega) (by omega) (by omega) (by omega) (by omega)) h16
    exact ⟨m, by omega, n2⟩
theorem g_restore1 {i y : Nat} (hi : i < 3) (hy : y = 146 + 8 * i) (hz : zM I = i + 1) (h : Rl t I L P E c s) (hn : 6 * t + 6 ≤ n) (hN : n ≤ 3072) (hC : CpB 127 y I J L K P Q) (A' : V PR (d + 5) 191 0 [(0, vR (some (100, 0)))] [] (mm n I L P E c s) = some (.inl (some (vi (nI i))), mm n (up3 (up3 J 100 0 10 (nI i)) 135 0 7 (I 135 0 7 + 1)) K Q E c s)) : LGo (d + 6) n t 52 I L P E c s := by
  obtain ⟨m1, m2, m3, -⟩ := h.2.2.2.2.2.2.2.2.2.2.2.2.2.1
  obtain ⟨I3, hI3⟩ : ∃ I3, I3 = up3 (up3 (up3 (up3 J 100 0 10 (nI i)) 135 0 7 (I 135 0 7 + 1)) 186 0 0 0) 186 0 26 (nI i) := ⟨_, rfl⟩
  obtain ⟨M, N, r7, hR⟩ := c_movesR (d := d) (n := n) (I := I3) (L := K) (P := Q) (E := E) (c := c) (s := s) hi
  have B : V PR (d + 5) 329 0 [(0, vR (some (186, 0)))] [] (mm n (up3 (up3 J 100 0 10 (nI i)) 135 0 7 (I 135 0 7 + 1)) K Q E c s) = some (.inl (some (vi (nI i))), mm n M N Q E c s) := by
    have e26 : (up3 (up3 (up3 J 100 0 10 (nI i)) 135 0 7 (I 135 0 7 + 1)) 186 0 0 0) 186 0 26 = nI (i + 1) := by
      rw [up3_k (by decide), up3_a (by decide), up3_a (by decide), (hC.2.2.2.2.2.2 186 0 26 (by decide)).1, m1, hz]
    have e0 : decide (nI (i + 1) = (0 : Int32)) = false := decide_eq_false fun q => absurd ((nI_eq (b := 0) (by omega) (by decide)).mp q) (by omega)
    have e1 : nI (i + 1) - 1 = nI i := by rw [← nI_1]; exact Int32.add_sub_cancel _ _
    have e2 : M 186 0 26 = nI i := by
      rw [hR.2.2.2.2.2.2.2.1 186 0 26 (fun _ => by decide) (fun g => absurd g (by decide)) (by decide) (by decide) (by decide) (by decide), hI3, up3_i]
    rw [k_X12_restore_0, e26, e0, Bool.not_false, cond_true, e1, up3_i, inb_nI hi (by decide), cond_true, nI_clamp (by omega), ← hI3, r7, Vk_n, k_X12_restore_38, e2]
  refine ⟨M, N, Q, E, c, s, ?_, rest_rel hi hy hz h hC hI3 hR⟩
  rw [← at6]
  simp only [k_L_law_40_52, A', Vk_v, Nat.reduceAdd, k_L_law_3396, B, k_L_law_3400, decide_true, cond_true]
theorem im_ok {g : Nat} {f : Nat → Int64} (h : ImR I L P E c g f) : ∀ q, q < 7 → P (g + 1) 0 q = none ∨ ∃ p, P (g + 1) 0 q = some (p, 0) ∧ E p = (1, 5, 0, 0) ∧ 487 ≤ p := fun q hq => by
  rcases h.2.2.2.2 q hq with ⟨-, g⟩ | ⟨p, _, _, _, _, g1, g2, -, g3, -⟩
  · exact .inl g
  · exact .inr ⟨p, g1, g3, g2⟩
theorem c_restore0 (h : Rl t I L P E c s) (hz : zM I = 0 + 1) : ∃ (J : FI) (K : FL) (Q : FR), V PR (d + 1) 191 0 [(0, vR (some (100, 0)))] [] (mm n I L P E c s) = some (.inl (some (vi (nI 0))), mm n (up3 (up3 J 100 0 10 (nI 0)) 135 0 7 (I 135 0 7 + 1)) K Q E c s) ∧ CpB 127 146 I J L K P Q := by
  have hIm := h.2.2.2.2.2.2.2.2.2.2.2.2.2.1
  have e10 : I 100 0 10 = nI 1 := hIm.2.2.1.trans (hIm.1.trans (by rw [hz]))
  have ok := im_ok (hIm.2.2.2 0 (by omega))
  obtain ⟨J, K, Q, r1, hC⟩ := cf_127_146 (d := d) (n := n) (I := I) (L := L) (c := c) (s := s) ok
  have e2 : J 100 0 10 = nI 1 := ((hC.2.2.2.2.2.2 100 0 10 (by decide)).1).trans e10
  have e3 : J 135 0 7 = I 135 0 7 := (hC.2.2.2.2.2.2 135 0 7 (by decide)).1
  have e4 : nI 1 - 1 = nI 0 := by decide +kernel
  refine ⟨J, K, Q, ?_, hC⟩
  rw [k_X11_restore_0, e10, show decide (nI 1 ≤ (0 : Int32)) = false by decide +kernel, cond_false, e4, show inb (nI 0) 3 = true by decide +kernel, cond_true, nI_clamp (show 0 < 2 ^ 31 by decide), show RR P 145 0 0 = some (146, 0) from rfl, show (!(Option.isNone (some ((146 : Nat), (0 : Nat))))) = true from rfl, cond_true, r1, Vk_n, k_X11_restore_37, e2, e4, k_X0_renew_0, Vk_n, k_X11_restore_54, up3_a (show 135 ≠ 100 by decide), e3, up3_a (show 100 ≠ 135 by decide), up3_i]
theorem c_restore1 (h : Rl t I L P E c s) (hz : zM I = 1 + 1) : ∃ (J : FI) (K : FL) (Q : FR), V PR (d + 1) 191 0 [(0, vR (some (100, 0)))] [] (mm n I L P E c s) = some (.inl (some (vi (nI 1))), mm n (up3 (up3 J 100 0 10 (nI 1)) 135 0 7 (I 135 0 7 + 1)) K Q E c s) ∧ CpB 127 154 I J L K P Q := by
  have hIm := h.2.2.2.2.2.2.2.2.2.2.2.2.2.1
  have e10 : I 100 0 10 = nI 2 := hIm.2.2.1.trans (hIm.1.trans (by rw [hz]))
  have ok := im_ok (hIm.2.2.2 1 (by omega))
  obtain ⟨J, K, Q, r1, hC⟩ := cf_127_154 (d := d) (n := n) (I := I) (L := L) (c := c) (s := s) ok
  have e2 : J 100 0 10 = nI 2 := ((hC.2.2.2.2.2.2 100 0 10 (by decide)).1).trans e10
  have e3 : J 135 0 7 = I 135 0 7 := (hC.2.2.2.2.2.2 135 0 7 (by decide)).1
  have e4 : nI 2 - 1 = nI 1 := by decide +kernel
  refine ⟨J, K, Q, ?_, hC⟩
  rw [k_X11_restore_0, e10, show decide (nI 2 ≤ (0 : Int32)) = false by decide +kernel, cond_false, e4, show inb (nI 1) 3 = true by decide +kernel, cond_true, nI_clamp (show 1 < 2 ^ 31 by decide), show RR P 145 0 1 = some (154, 0) from rfl, show (!(Option.isNone (some ((154 : Nat), (0 : Nat))))) = true from rfl, cond_true, r1, Vk_n, k_X11_restore_37, e2, e4, k_X0_renew_0, Vk_n, k_X11_restore_54, up3_a (show 135 ≠ 100 by decide), e3, up3_a (show 100 ≠ 135 by decide), up3_i]
theorem c_restore2 (h : Rl t I L P E c s) (hz : zM I = 2 + 1) : ∃ (J : FI) (K : FL) (Q : FR), V PR (d + 1) 191 0 [(0, vR (some (100, 0)))] [] (mm n I L P E c s) = some (.inl (some (vi (nI 2))), mm n (up3 (up3 J 100 0 10 (nI 2)) 135 0 7 (I 135 0 7 + 1)) K Q E c s) ∧ CpB 127 162 I J L K P Q := by
  have hIm := h.2.2.2.2.2.2.2.2.2.2.2.2.2.1
  have e10 : I 100 0 10 = nI 3 := hIm.2.2.1.trans (hIm.1.trans (by rw [hz]))
  have ok := im_ok (hIm.2.2.2 2 (by omega))
  obtain ⟨J, K, Q, r1, hC⟩ := cf_127_162 (d := d) (n := n) (I := I) (L := L) (c := c) (s := s) ok
  have e2 : J 100 0 10 = nI 3 := ((hC.2.2.2.2.2.2 100 0 10 (by decide)).1).trans e10
  have e3 : J 135 0 7 = I 135 0 7 := (hC.2.2.2.2.2.2 135 0 7 (by decide)).1
  have e4 : nI 3 - 1 = nI 2 := by decide +kernel
  refine ⟨J, K, Q, ?_, hC⟩
  rw [k_X11_restore_0, e10, show decide (nI 3 ≤ (0 : Int32)) = false by decide +kernel, cond_false, e4, show inb (nI 2) 3 = true by decide +kernel, cond_true, nI_clamp (show 2 < 2 ^ 31 by decide), show RR P 145 0 2 = some (162, 0) from rfl, show (!(Option.isNone (some ((162 : Nat), (0 : Nat))))) = true from rfl, cond_true, r1, Vk_n, k_X11_restore_37, e2, e4, k_X0_renew_0, Vk_n, k_X11_restore_54, up3_a (show 135 ≠ 100 by decide), e3, up3_a (show 100 ≠ 135 by decide), up3_i]
theorem g_restore (h : Rl t I L P E c s) (hn : 6 * t + 6 ≤ n) (hN : n ≤ 3072) : LGo (d + 30) n t 52 I L P E c s := by
  have hIm := h.2.2.2.2.2.2.2.2.2.2.2.2.2.1
  obtain ⟨m1, m2, m3, -⟩ := hIm
  rcases (show zM I = 0 + 1 ∨ zM I = 1 + 1 ∨ zM I = 2 + 1 ∨ zM I = 0 by omega) with hz | hz | hz | hz
  · obtain ⟨J, K, Q, A, hC⟩ := c_restore0 (d := d + 28) (n := n) h hz
    exact g_restore1 (d := d + 24) (by decide) rfl hz h hn hN hC A
  · obtain ⟨J, K, Q, A, hC⟩ := c_restore1 (d := d + 28) (n := n) h hz
    exact g_restore1 (d := d + 24) (by decide) rfl hz h hn hN hC A
  · obtain ⟨J, K, Q, A, hC⟩ := c_restore2 (d := d + 28) (n := n) h hz
    exact g_restore1 (d := d + 24) (by decide) rfl hz h hn hN hC A
  · have e26 : I 186 0 26 = nI 0 := by rw [m1, hz]
    have e10 : I 100 0 10 = nI 0 := m3.trans e26
    have A : V PR (d + 29) 191 0 [(0, vR (some (100, 0)))] [] (mm n I L P E c s) = some (.inl (some (vi (-1 : Int32))), mm n I L P E c s) := by
      rw [k_X11_restore_0, e10, show decide (nI 0 ≤ (0 : Int32)) = true by decide +kernel, cond_true]
    have B : V PR (d + 29) 329 0 [(0, vR (some (186, 0)))] [] (mm n I L P E c s) = some (.inl (some (vi (-1 : Int32))), mm n (up3 I 186 0 0 0) L P E c s) := by
      have e : (up3 I 186 0 0 0) 186 0 26 = nI 0 := (up3_k (by decide)).trans e26
      rw [k_X12_restore_0, e, show (!decide (nI 0 = (0 : Int32))) = false by decide +kernel, cond_false]
    refine ⟨up3 I 186 0 0 0, L, P, E, c, s, ?_, h.side (Kp.rfl'.up rfl) Kp.rfl' (Kc.rfl'.up rfl) Kc.rfl' (RRef.thr h.2.2.2.2.2.2.2.2.2.2.2.1)⟩
    rw [← at6]
    simp only [k_L_law_40_52, A, Vk_v, Nat.reduceAdd, k_L_law_3396, B, k_L_law_3400, decide_true, cond_true]
end Restore
