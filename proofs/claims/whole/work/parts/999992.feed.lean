/-! THE TAPE: all else kept; promise 2: feed. -/
section Tape
variable {c t s : Nat} {I I' : FI} {L L' : FL} {P P' : FR} {E E' : FE}
/-- what tells states, lies and silence -/
def Ks (I I' : FI) : Prop := ∀ a r j, ((a = 190 ∧ j ≠ 4) ∨ a = 198 ∨ a = 208 ∨ a = 229 ∨ a = 237) → I' a r j = I a r j
theorem Ks.at (k : Ks I I') {a : Nat} (ha : a = 198 ∨ a = 208 ∨ a = 229 ∨ a = 237) (r j : Nat) : I' a r j = I a r j := k a r j (by omega)
theorem sz (k : Ks I I') : zN I' = zN I ∧ zW I' = zW I ∧ zV I' = zV I ∧ zB I' = zB I := by
  simp only [zB, zN, zW, zV, k 190 0 0 (by decide), k 190 0 2 (by decide), k 190 0 3 (by decide), and_self]
theorem silB_s (k : Ks I I') : silB I' = silB I := by
  funext w x
  unfold silB
  simp only [k.at (a := 198) (by decide), k 190 0 5 (by decide), k 190 0 6 (by decide)]
theorem ownB_s (k : Ks I I') : ownB I' = ownB I := by
  funext w d
  unfold ownB
  simp only [k.at (a := 198) (by decide)]
theorem veinB_s (k : Ks I I') : veinB I' = veinB I := by
  funext w d s v
  unfold veinB
  rw [(sz k).1]
  simp only [k.at (a := 208) (by decide)]
theorem lieB_s (k : Ks I I') (w d s : Nat) : ∀ v, lieB I' w d s v = lieB I w d s v
  | 0 => by unfold lieB; rw [ownB_s k]
  | v + 1 => by unfold lieB; rw [lieB_s k w d s v, veinB_s k]
theorem pstep_s (k : Ks I I') : pstep I' = pstep I := by
  funext d s how v st
  unfold pstep
  rw [silB_s k, (sz k).2.2.1]
  simp only [lieB_s k]
theorem pile_s (k : Ks I I') (d s : Nat) (f : Nat → Int32) : ∀ n, pile I' d s f n = pile I d s f n
  | 0 => rfl
  | n + 1 => by unfold pile; rw [pile_s k d s f n, pstep_s k]
theorem soB_s (k : Ks I I') : soB I' = soB I := by
  funext q d s
  unfold soB
  simp only [k.at (a := 229) (by decide), k.at (a := 237) (by decide), pile_s k]
theorem sL_s (k : Ks I I') : sL I' = sL I := by
  funext q d
  unfold sL
  rw [soB_s k, (sz k).2.2.2]
theorem lL_s (k : Ks I I') : lL I' = lL I := by
  funext w d
  unfold lL
  rw [(sz k).2.2.2, (sz k).2.2.1]
  simp only [lieB_s k]
theorem RAlm.ss (k : Ks I I') (e0 : I' 135 0 7 = I 135 0 7) (e : ∀ a j, (a = 137 ∨ a = 139 ∨ a = 140) → I' a 0 j = I a 0 j) (el : ∀ a j, (a = 136 ∨ a = 138) → L' a 0 j = L a 0 j) (h : RAlm t I L) : RAlm t I' L' := by
  obtain ⟨m, h1, h2, h3, h4, h5⟩ := h
  refine ⟨m, by rw [e0]; exact h1, h2, h3, fun x d hx hd => ?_, fun d hd => ?_⟩
  · obtain ⟨j, g1, g2, g3⟩ := h4 x d hx hd
    exact ⟨j, g1, by rw [e 137 _ (by decide)]; exact g2, fun e1 => by rw [el 136 _ (by decide), sL_s k]; exact g3 e1⟩
  · obtain ⟨j, g1, g2, g3⟩ := h5 d hd
    exact ⟨j, g1, by rw [e 140 _ (by decide)]; exact g2, fun e1 w hw => by
      rw [(sz k).2.1] at hw
      rw [e 139 _ (by decide), el 138 _ (by decide), lL_s k, silB_s k]
      exact g3 e1 w hw⟩
/-- all but the tape, the place of the fault, the word whether something is refused -/
def Kt (I I' : FI) : Prop := ∀ a r j, (a ≠ 101 ∧ a ≠ 187 ∧ (a = 100 → j ≠ 1 ∧ j ≠ 3) ∧ (a = 186 → j ≠ 0 ∧ j ≠ 1 ∧ j ≠ 3)) → I' a r j = I a r j
theorem Kt.at (k : Kt I I') {a : Nat} (ha : a ≠ 101 ∧ a ≠ 187 ∧ a ≠ 100 ∧ a ≠ 186) (r j : Nat) : I' a r j = I a r j := k a r j ⟨ha.1, ha.2.1, fun e => absurd e ha.2.2.1, fun e => absurd e ha.2.2.2⟩
theorem Rl.tx (h : Rl t I L P E c s) (k : Kt I I') (hT : RTap I') (hF : RFau I') : Rl t I' L P E c s := by
  obtain ⟨h0, h1, h2, h3, h4, h5, h6, h7, h8, h9, h10, h11, h12, h13, h14, h15, h16⟩ := h
  have kl : Kl I I' := fun a r j ha => k.at (by omega) r j
  have ks : Ks I I' := fun a r j ha => k.at (by omega) r j
  refine ⟨h0, h1.eq (fun r j => k.at (by decide) r j), h2.eq (fun r j => k.at (by decide) r j) (fun r j => k.at (by decide) r j) (k.at (by decide) 0 0) rfl, h3.ld kl, h4.ld kl, h5.ld kl, h6.eq (fun r j => k.at (by decide) r j) (k 186 0 24 (by decide)) (k.at (by decide) 0 2) (fun a r j ha => k.at (by omega) r j) (fun _ _ _ _ => rfl), h7.eq (k 186 0 25 (by decide)) (k.at (by decide) 0 7) (fun _ _ _ _ => rfl), h8.eq (fun a r j ha => k.at (by omega) r j), hT, hF, ?_, ?_, ?_, h14, h15.ss ks (k.at (by decide) 0 7) (fun a j ha => k.at (by omega) 0 j) (fun _ _ _ => rfl), h16.ld (k 186 0 40 (by decide)) (fun a r j ha => k.at (by omega) r j)⟩
  · unfold RRef
    rw [k 100 0 17 (by decide), k 100 0 18 (by decide), k 188 0 0 (by decide), k 188 0 1 (by decide)]
    exact h11
  · intro q hq
    rw [(lz kl).2.2.1]
    simp only [k.at (a := 229) (by decide), k.at (a := 237) (by decide)]
    exact PhR.hi (fun b r j hb => k.at (by omega) r j) (h12 q hq)
  · obtain ⟨m1, m2, m3, m4⟩ := h13
    have e26 : I' 186 0 26 = I 186 0 26 := k 186 0 26 (by decide)
    have z26 : zM I' = zM I := by unfold zM; rw [e26]
    refine ⟨by rw [e26, z26]; exact m1, by rw [z26]; exact m2, by rw [k 100 0 10 (by decide), e26]; exact m3, fun i hi => ?_⟩
    rw [z26] at hi
    exact ImR.cz (fun b r j hb => k.at (by omega) r j) (fun _ _ _ _ => rfl) (lz kl).2.2.2.2 (lz kl).2.2.1 (fun b r j hb => k.at (by omega) r j) (fun _ _ => rfl) (fun _ _ _ _ => rfl) (fun _ => rfl) (m4 i hi)
end Tape
section Feed
variable {d n t : Nat} {I J M : FI} {L K N : FL} {P Q : FR} {E : FE} {c s : Nat}
/-- a byte of a number -/
def byt (x : Int32) (k : Nat) : Nat := (x.toBitVec.extractLsb' k 8).toNat
theorem byt_lt (x : Int32) (k : Nat) : byt x k < 256 := (x.toBitVec.extractLsb' k 8).isLt
theorem byt_r (x : Int32) {k : Nat} (hk : k ≤ 24) : (x >>> (nI k &&& 31)) &&& 255 = nI (byt x k) := by
  have hs : ∀ w, w < 32 → ((nI w &&& 31).toBitVec.smod 32).toNat = w := by decide +kernel
  have e0 : ∀ i, i < 32 → (255 : Int32).toBitVec.getLsbD i = decide (i < 8) := by decide +kernel
  apply Int32.toBitVec_inj.mp
  apply BitVec.eq_of_getLsbD_eq
  intro i hi
  have e1 : (nI (byt x k)).toBitVec = BitVec.ofNat 32 (byt x k) := rfl
  rw [Int32.toBitVec_and, BitVec.getLsbD_and, e0 i hi, Int32.toBitVec_shiftRight, BitVec.sshiftRight', hs k (by omega), e1, BitVec.getLsbD_ofNat, decide_eq_true hi, Bool.true_and]
  unfold byt
  rw [BitVec.testBit_toNat, BitVec.getLsbD_extractLsb', BitVec.getLsbD_sshiftRight]
  by_cases h : i < 8
  · rw [decide_eq_true h, Bool.and_true, Bool.true_and, if_pos (by omega), decide_eq_false (by omega)]
    rfl
  · rw [decide_eq_false h, Bool.and_false, Bool.false_and]
theorem byt_c (x : Int32) {k : Nat} (hk : k ≤ 24) : vp_nar .byte ((x.toUInt32 >>> ((nI k).toUInt32 &&& Int32.toUInt32 31)).toInt32.toInt8.toInt32) = (nI (byt x k)).toInt8.toInt32 := by
  have hs : ∀ w, w < 32 → (((nI w).toUInt32 &&& Int32.toUInt32 31).toBitVec % 32).toNat = w := by decide +kernel
  rw [vp_nar_byte, Int8.toInt8_toInt32]
  refine congrArg Int8.toInt32 ?_
  apply Int8.toBitVec_inj.mp
  apply BitVec.eq_of_getLsbD_eq
  intro i hi
  have e1 : (nI (byt x k)).toInt8.toBitVec = (BitVec.ofNat 32 (byt x k)).signExtend 8 := rfl
  have e2 : (x.toUInt32 >>> ((nI k).toUInt32 &&& Int32.toUInt32 31)).toInt32.toInt8.toBitVec = ((x.toUInt32 >>> ((nI k).toUInt32 &&& Int32.toUInt32 31)).toInt32.toBitVec).signExtend 8 := rfl
  rw [e1, e2, BitVec.getLsbD_signExtend, BitVec.getLsbD_signExtend, if_pos (show i < 32 by omega), if_pos (show i < 32 by omega), BitVec.getLsbD_ofNat, UInt32.toBitVec_toInt32, UInt32.toBitVec_shiftRight, BitVec.ushiftRight_eq', hs k (by omega), BitVec.getLsbD_ushiftRight]
  unfold byt
  rw [BitVec.testBit_toNat, BitVec.getLsbD_extractLsb', decide_eq_true hi, Bool.true_and, Bool.true_and, Bool.true_and, decide_eq_true (show i < 32 by omega), Bool.true_and]
  rfl
/-- the class puts a byte -/
theorem put_1 (x : Int32) {T k : Nat} (hT : T < 600) (hk : k ≤ 24) (h1 : I 100 0 1 = nI T) : V PR d 128 3 [(0, vR (some (100, 0))), (1, vi x), (2, vi (nI k))] [] (mm n I L P E c s) = V PR d 128 3 [(0, vR (some (100, 0))), (1, vi x), (2, vi (nI k + (-8)))] [] (mm n (up3 (up3 I 101 0 T (nI (byt x k)).toInt8.toInt32) 100 0 1 (nI (T + 1))) L P E c s) := by
  have e : ∀ v, (up3 I 101 0 T v) 100 0 1 + 1 = nI (T + 1) := fun v => by rw [up3_a (by decide), h1, nI_1]
  rw [k_X11_putNumber_3, show decide (nI k < (0 : Int32)) = false from decide_eq_false (nI_pos (by omega)), cond_false, h1, show decide ((600 : Int32) ≤ nI T) = false from (nI_led (a := 600) (by decide) (by omega)).trans (decide_eq_false (by omega)), cond_false, inb_nI hT (by decide), cond_true, nI_clamp (by omega), byt_c x hk, e]
theorem c_put (x : Int32) {T : Nat} (hT : T + 4 ≤ 600) (h1 : I 100 0 1 = nI T) : ∃ I' : FI, V PR d 128 0 [(0, vR (some (100, 0))), (1, vi x)] [] (mm n I L P E c s) = some (.inl none, mm n I' L P E c s) ∧ I' 100 0 1 = nI (T + 4) ∧ (∀ i, i < 4 → I' 101 0 (T + i) = (nI (byt x (24 - 8 * i))).toInt8.toInt32) ∧ ∀ a r j, (a = 101 → j < T) → (a = 100 → j ≠ 1) → I' a r j = I a r j := by
  obtain ⟨I1, hI1⟩ : ∃ I1, I1 = up3 (up3 I 101 0 T (nI (byt x 24)).toInt8.toInt32) 100 0 1 (nI (T + 1)) := ⟨_, rfl⟩
  obtain ⟨I2, hI2⟩ : ∃ I2, I2 = up3 (up3 I1 101 0 (T + 1) (nI (byt x 16)).toInt8.toInt32) 100 0 1 (nI (T + 1 + 1)) := ⟨_, rfl⟩
  obtain ⟨I3, hI3⟩ : ∃ I3, I3 = up3 (up3 I2 101 0 (T + 1 + 1) (nI (byt x 8)).toInt8.toInt32) 100 0 1 (nI (T + 1 + 1 + 1)) := ⟨_, rfl⟩
  obtain ⟨I4, hI4⟩ : ∃ I4, I4 = up3 (up3 I3 101 0 (T + 1 + 1 + 1) (nI (byt x 0)).toInt8.toInt32) 100 0 1 (nI (T + 1 + 1 + 1 + 1)) := ⟨_, rfl⟩
  have q1 : I1 100 0 1 = nI (T + 1) := by rw [hI1, up3_i]
  have q2 : I2 100 0 1 = nI (T + 1 + 1) := by rw [hI2, up3_i]
  have q3 : I3 100 0 1 = nI (T + 1 + 1 + 1) := by rw [hI3, up3_i]
  refine ⟨I4, ?_, by rw [hI4, up3_i], fun i hi => ?_, fun a r j h2 h3 => ?_⟩
  · have p1 := put_1 (d := d) (n := n) (L := L) (P := P) (E := E) (c := c) (s := s) x (show T < 600 by omega) (show 24 ≤ 24 by decide) h1
    have p2 := put_1 (d := d) (n := n) (L := L) (P := P) (E := E) (c := c) (s := s) x (show T + 1 < 600 by omega) (show 16 ≤ 24 by decide) q1
    have p3 := put_1 (d := d) (n := n) (L := L) (P := P) (E := E) (c := c) (s := s) x (show T + 1 + 1 < 600 by omega) (show 8 ≤ 24 by decide) q2
    have p4 := put_1 (d := d) (n := n) (L := L) (P := P) (E := E) (c := c) (s := s) x (show T + 1 + 1 + 1 < 600 by omega) (show 0 ≤ 24 by decide) q3
    rw [← hI1, show nI 24 + (-8) = nI 16 by decide +kernel] at p1
    rw [← hI2, show nI 16 + (-8) = nI 8 by decide +kernel] at p2
    rw [← hI3, show nI 8 + (-8) = nI 0 by decide +kernel] at p3
    rw [← hI4] at p4
    rw [k_X11_putNumber_0]
    refine p1.trans (p2.trans (p3.trans (p4.trans ?_)))
    rw [k_X11_putNumber_3, show decide (nI 0 + (-8) < (0 : Int32)) = true by decide +kernel, cond_true]
  · rcases (show i = 0 ∨ i = 1 ∨ i = 2 ∨ i = 3 by omega) with rfl | rfl | rfl | rfl
    · rw [hI4, up3_a (by decide), up3_k (by omega), hI3, up3_a (by decide), up3_k (by omega), hI2, up3_a (by decide), up3_k (by omega), hI1, up3_a (by decide)]
      exact up3_i _ _ _ _ _
    · rw [hI4, up3_a (by decide), up3_k (by omega), hI3, up3_a (by decide), up3_k (by omega), hI2, up3_a (by decide)]
      exact up3_i _ _ _ _ _
    · rw [hI4, up3_a (by decide), up3_k (by omega), hI3, up3_a (by decide)]
      exact up3_i _ _ _ _ _
    · rw [hI4, up3_a (by decide)]
      exact up3_i _ _ _ _ _
  · rw [hI4, up3_x (fun g => h3 g.1 g.2), up3_x (fun g => by have := h2 g.1; omega), hI3, up3_x (fun g => h3 g.1 g.2), up3_x (fun g => by have := h2 g.1; omega), hI2, up3_x (fun g => h3 g.1 g.2), up3_x (fun g => by have := h2 g.1; omega), hI1, up3_x (fun g => h3 g.1 g.2), up3_x (fun g => by have := h2 g.1; omega)]
/-- which of the five numbers -/
def w5 (x1 x2 x3 x4 x5 : Int32) (k : Nat) : Int32 := if k < 4 then x1 else if k < 8 then x2 else if k < 12 then x3 else if k < 16 then x4 else x5
theorem feed_1 (x1 x2 x3 x4 x5 : Int32) {T k : Nat} (hT : T < 600) (hk : k < 20) (h1 : I 186 0 1 = nI T) : V PR d 211 23 [(0, vR (some (186, 0))), (1, vi x1), (2, vi x2), (3, vi x3), (4, vi x4), (5, vi x5), (6, vi (nI k))] [] (mm n I L P E c s) = V PR d 211 23 [(0, vR (some (186, 0))), (1, vi x1), (2, vi x2), (3, vi x3), (4, vi x4), (5, vi x5), (6, vi (nI (k + 1)))] [] (mm n (up3 (up3 I 187 0 T (nI (byt (w5 x1 x2 x3 x4 x5 k) (24 - 8 * (k % 4))))) 186 0 1 (nI (T + 1))) L P E c s) := by
  have e : ∀ v, (up3 I 187 0 T v) 186 0 1 + 1 = nI (T + 1) := fun v => by rw [up3_a (by decide), h1, nI_1]
  have sh : (24 : Int32) - 8 * (nI k - nI k / 4 * 4) = nI (24 - 8 * (k % 4)) := by
    have a1 : nI k - nI k / 4 * 4 = nI (k % 4) := pk_rem (d := 4) (by omega) (by decide) (by decide)
    have a2 : (8 : Int32) * nI (k % 4) = nI (8 * (k % 4)) := pk_mul 8 (k % 4)
    rw [a1, a2]
    exact pk_sub (b := 8 * (k % 4)) (a := 24) (by omega)
  have l : ∀ m : Nat, m < 2 ^ 31 → decide (nI m ≤ nI k) = decide (m ≤ k) := fun m hm => nI_led hm (by omega)
  rw [k_X12_feed_23, h1, sh, show decide ((20 : Int32) ≤ nI k) = decide (20 ≤ k) from l 20 (by decide), show decide ((4 : Int32) ≤ nI k) = decide (4 ≤ k) from l 4 (by decide), show decide ((8 : Int32) ≤ nI k) = decide (8 ≤ k) from l 8 (by decide), show decide ((12 : Int32) ≤ nI k) = decide (12 ≤ k) from l 12 (by decide), show decide ((16 : Int32) ≤ nI k) = decide (16 ≤ k) from l 16 (by decide), decide_eq_false (show ¬ 20 ≤ k by omega), cond_false, inb_nI hT (by decide), cond_true, cond_true, cond_true, cond_true, cond_true, nI_clamp (by omega), byt_r x1 (by omega), byt_r x2 (by omega), byt_r x3 (by omega), byt_r x4 (by omega), byt_r x5 (by omega), e, e, e, e, e, nI_1]
  unfold w5
  by_cases g1 : 4 ≤ k
  · rw [decide_eq_true g1, cond_true, if_neg (by omega)]
    by_cases g2 : 8 ≤ k
    · rw [decide_eq_true g2, cond_true, if_neg (by omega)]
      by_cases g3 : 12 ≤ k
      · rw [decide_eq_true g3, cond_true, if_neg (by omega)]
        by_cases g4 : 16 ≤ k
        · rw [decide_eq_true g4, cond_true, if_neg (by omega)]
        · rw [decide_eq_false g4, cond_false, if_pos (by omega)]
      · rw [decide_eq_false g3, cond_false, if_pos (by omega)]
    · rw [decide_eq_false g2, cond_false, if_pos (by omega)]
  · rw [decide_eq_false g1, cond_false, if_pos (by omega)]
theorem feed_l (x1 x2 x3 x4 x5 : Int32) {T : Nat} (hT : T + 20 ≤ 600) : ∀ r k (I : FI), k + r = 20 → I 186 0 1 = nI (T + k) → ∃ I' : FI, V PR d 211 23 [(0, vR (some (186, 0))), (1, vi x1), (2, vi x2), (3, vi x3), (4, vi x4), (5, vi x5), (6, vi (nI k))] [] (mm n I L P E c s) = some (.inl (some (vi (nI (T + 20)))), mm n I' L P E c s) ∧ I' 186 0 1 = nI (T + 20) ∧ (∀ i, k ≤ i → i < 20 → I' 187 0 (T + i) = nI (byt (w5 x1 x2 x3 x4 x5 i) (24 - 8 * (i % 4)))) ∧ ∀ a r j, (a = 187 → j < T + k) → (a = 186 → j ≠ 1) → I' a r j = I a r j
  | 0, k, I, h, h1 => by
    have e : k = 20 := by omega
    subst e
    refine ⟨I, ?_, h1, fun i h2 h3 => by omega, fun _ _ _ _ _ => rfl⟩
    rw [k_X12_feed_23, show decide ((20 : Int32) ≤ nI 20) = true by decide +kernel, cond_true, h1]
  | r + 1, k, I, h, h1 => by
    have q : (up3 (up3 I 187 0 (T + k) (nI (byt (w5 x1 x2 x3 x4 x5 k) (24 - 8 * (k % 4))))) 186 0 1 (nI (T + k + 1))) 186 0 1 = nI (T + (k + 1)) := up3_i _ _ _ _ _
    obtain ⟨I2, r2, a2, b2, c2⟩ := feed_l x1 x2 x3 x4 x5 hT r (k + 1) _ (by omega) q
    refine ⟨I2, ?_, a2, fun i h2 h3 => ?_, fun a r' j h2 h3 => ?_⟩
    · rw [feed_1 x1 x2 x3 x4 x5 (show T + k < 600 by omega) (show k < 20 by omega) h1]
      exact r2
    · by_cases e : i = k
      · subst e
        rw [c2 187 0 (T + i) (fun _ => by omega) (fun e => absurd e (by decide)), up3_a (by decide), up3_i]
      · exact b2 i (by omega) h3
    · rw [c2 a r' j (fun e => by have := h2 e; omega) h3, up3_x (fun g => h3 g.1 g.2), up3_x (fun g => by have := h2 g.1; omega)]
theorem c_feed (x1 x2 x3 x4 x5 : Int32) {T : Nat} (hT : T + 20 ≤ 600) (h1 : I 100 0 1 = nI T) : ∃ I' : FI, V PR (d + 1) 127 0 [(0, vR (some (100, 0))), (1, vi x1), (2, vi x2), (3, vi x3), (4, vi x4), (5, vi x5)] [] (mm n I L P E c s) = some (.inl (some (vi (nI (T + 20)))), mm n I' L P E c s) ∧ I' 100 0 1 = nI (T + 20) ∧ (∀ i, i < 20 → I' 101 0 (T + i) = (nI (byt (w5 x1 x2 x3 x4 x5 i) (24 - 8 * (i % 4)))).toInt8.toInt32) ∧ ∀ a r j, (a = 101 → j < T) → (a = 100 → j ≠ 1) → I' a r j = I a r j := by
  obtain ⟨I1, r1, a1, b1, c1⟩ := c_put (d := d) (n := n) (L := L) (P := P) (E := E) (c := c) (s := s) x1 (show T + 4 ≤ 600 by omega) h1
  obtain ⟨I2, r2, a2, b2, c2⟩ := c_put (d := d) (n := n) (L := L) (P := P) (E := E) (c := c) (s := s) x2 (show T + 4 + 4 ≤ 600 by omega) a1
  obtain ⟨I3, r3, a3, b3, c3⟩ := c_put (d := d) (n := n) (L := L) (P := P) (E := E) (c := c) (s := s) x3 (show T + 4 + 4 + 4 ≤ 600 by omega) a2
  obtain ⟨I4, r4, a4, b4, c4⟩ := c_put (d := d) (n := n) (L := L) (P := P) (E := E) (c := c) (s := s) x4 (show T + 4 + 4 + 4 + 4 ≤ 600 by omega) a3
  obtain ⟨I5, r5, a5, b5, c5⟩ := c_put (d := d) (n := n) (L := L) (P := P) (E := E) (c := c) (s := s) x5 (show T + 4 + 4 + 4 + 4 + 4 ≤ 600 by omega) a4
  refine ⟨I5, ?_, a5, fun i hi => ?_, fun a r j h2 h3 => ?_⟩
  · rw [k_X11_feed_0, h1, show decide (nI T + 20 ≤ (600 : Int32)) = true from by rw [show nI T + 20 = nI (T + 20) from nI_add T 20]; exact (nI_led (b := 600) (by omega) (by decide)).trans (decide_eq_true (by omega)), cond_true, r1, Vk_n, k_X11_feed_20, r2, Vk_n, k_X11_feed_25, r3, Vk_n, k_X11_feed_30, r4, Vk_n, k_X11_feed_36, r5, Vk_n, k_X11_feed_42, a5]
  · unfold w5
    by_cases g1 : i < 4
    · rw [if_pos g1, c5 101 0 (T + i) (fun _ => by omega) (fun e => absurd e (by decide)), c4 101 0 (T + i) (fun _ => by omega) (fun e => absurd e (by decide)), c3 101 0 (T + i) (fun _ => by omega) (fun e => absurd e (by decide)), c2 101 0 (T + i) (fun _ => by omega) (fun e => absurd e (by decide)), b1 i g1, show i % 4 = i by omega]
    · rw [if_neg g1]
      by_cases g2 : i < 8
      · rw [if_pos g2, c5 101 0 (T + i) (fun _ => by omega) (fun e => absurd e (by decide)), c4 101 0 (T + i) (fun _ => by omega) (fun e => absurd e (by decide)), c3 101 0 (T + i) (fun _ => by omega) (fun e => absurd e (by decide)), show T + i = T + 4 + (i - 4) by omega, b2 (i - 4) (by omega), show i % 4 = i - 4 by omega]
      · rw [if_neg g2]
        by_cases g3 : i < 12
        · rw [if_pos g3, c5 101 0 (T + i) (fun _ => by omega) (fun e => absurd e (by decide)), c4 101 0 (T + i) (fun _ => by omega) (fun e => absurd e (by decide)), show T + i = T + 4 + 4 + (i - 8) by omega, b3 (i - 8) (by omega), show i % 4 = i - 8 by omega]
        · rw [if_neg g3]
          by_cases g4 : i < 16
          · rw [if_pos g4, c5 101 0 (T + i) (fun _ => by omega) (fun e => absurd e (by decide)), show T + i = T + 4 + 4 + 4 + (i - 12) by omega, b4 (i - 12) (by omega), show i % 4 = i - 12 by omega]
          · rw [if_neg g4, show T + i = T + 4 + 4 + 4 + 4 + (i - 16) by omega, b5 (i - 16) (by omega), show i % 4 = i - 16 by omega]
  · rw [c5 a r j (fun e => by have := h2 e; omega) h3, c4 a r j (fun e => by have := h2 e; omega) h3, c3 a r j (fun e => by have := h2 e; omega) h3, c2 a r j (fun e => by have := h2 e; omega) h3, c1 a r j h2 h3]
theorem g_feed (h : Rl t I L P E c s) (hn : 6 * t + 6 ≤ n) (hN : n ≤ 3072) : LGo (d + 30) n t 0 I L P E c s := by
  obtain ⟨T1, T2, T3, T4⟩ := h.2.2.2.2.2.2.2.2.2.1
  have F := h.2.2.2.2.2.2.2.2.2.2.1
  obtain ⟨i1, i2, i3, i4, i5⟩ := sc_in hn hN
  have e1 : I 100 0 1 = nI (zT I) := T3.trans T1
  by_cases g : zT I + 20 ≤ 600
  · obtain ⟨I1, r1, a1, b1, c1⟩ := c_feed (d := d + 28) (n := n) (L := L) (P := P) (E := E) (c := c) (s := s) (I 0 0 (nI (6 * t) + 1).toNatClampNeg) (I 0 0 (nI (6 * t) + 2).toNatClampNeg) (I 0 0 (nI (6 * t) + 3).toNatClampNeg) (I 0 0 (nI (6 * t) + 4).toNatClampNeg) (I 0 0 (nI (6 * t) + 5).toNatClampNeg) g e1
    have e2 : (up3 I1 186 0 0 0) 186 0 1 = nI (zT I + 0) := by
      rw [up3_k (by decide), c1 186 0 1 (fun e => absurd e (by decide)) (fun e => absurd e (by decide))]
      exact T1
    have z0 : ∀ j, I1 0 0 j = I 0 0 j := fun j => c1 0 0 j (fun e => absurd e (by decide)) (fun e => absurd e (by decide))
    obtain ⟨I2, r2, a2, b2, c2⟩ := feed_l (d := d + 29) (n := n) (L := L) (P := P) (E := E) (c := c) (s := s) (I 0 0 (nI (6 * t) + 1).toNatClampNeg) (I 0 0 (nI (6 * t) + 2).toNatClampNeg) (I 0 0 (nI (6 * t) + 3).toNatClampNeg) (I 0 0 (nI (6 * t) + 4).toNatClampNeg) (I 0 0 (nI (6 * t) + 5).toNatClampNeg) g 20 0 (up3 I1 186 0 0 0) rfl e2
    have kt : Kt I I2 := fun a r j ha => by
      rw [c2 a r j (fun e => absurd e ha.2.1) (fun e => (ha.2.2.2 e).2.1), up3_x (fun g => (ha.2.2.2 g.1).1 g.2), c1 a r j (fun e => absurd e ha.1) (fun e => (ha.2.2.1 e).1)]
    have zT2 : zT I2 = zT I + 20 := by unfold zT; rw [a2]; exact nI_clamp (by omega)
    have f100 : I2 100 0 1 = nI (zT I + 20) := by
      rw [c2 100 0 1 (fun e => absurd e (by decide)) (fun e => absurd e (by decide)), up3_a (by decide), a1]
    have f101 : ∀ j, I2 101 0 j = I1 101 0 j := fun j => by
      rw [c2 101 0 j (fun e => absurd e (by decide)) (fun e => absurd e (by decide)), up3_a (by decide)]
    have hT2 : RTap I2 := by
      refine ⟨by rw [zT2]; exact a2, by rw [zT2]; exact g, by rw [f100, a2], fun k hk => ?_⟩
      rw [zT2] at hk
      by_cases o : k < zT I
      · obtain ⟨b, q1, q2, q3⟩ := T4 k o
        refine ⟨b, q1, ?_, ?_⟩
        · rw [c2 187 0 k (fun _ => by omega) (fun e => absurd e (by decide)), up3_a (by decide), c1 187 0 k (fun e => absurd e (by decide)) (fun e => absurd e (by decide))]
          exact q2
        · rw [f101, c1 101 0 k (fun _ => o) (fun e => absurd e (by decide))]
          exact q3
      · obtain ⟨i, hi⟩ : ∃ i, k = zT I + i := ⟨k - zT I, by omega⟩
        subst hi
        exact ⟨_, byt_lt _ _, b2 i (Nat.zero_le _) (by omega), (f101 _).trans (b1 i (by omega))⟩
    refine ⟨I2, L, P, E, c, s, ?_, h.on.tx kt hT2 ?_⟩
    · have e4 : decide ((up3 I1 186 0 0 0) 186 0 1 + 20 ≤ (600 : Int32)) = true := by
        rw [e2, show nI (zT I + 0) + 20 = nI (zT I + 20) from nI_add (zT I) 20]
        exact (nI_led (b := 600) (by omega) (by decide)).trans (decide_eq_true (by omega))
      have r2' : V PR (d + 29) 211 23 [(0, vR (some (186, 0))), (1, vi (I 0 0 (nI (6 * t) + 1).toNatClampNeg)), (2, vi (I 0 0 (nI (6 * t) + 2).toNatClampNeg)), (3, vi (I 0 0 (nI (6 * t) + 3).toNatClampNeg)), (4, vi (I 0 0 (nI (6 * t) + 4).toNatClampNeg)), (5, vi (I 0 0 (nI (6 * t) + 5).toNatClampNeg)), (6, vi (0 : Int32))] [] (mm n (up3 I1 186 0 0 0) L P E c s) = some (.inl (some (vi (nI (zT I + 20)))), mm n I2 L P E c s) := r2
      rw [← at6]
      refine (k_L_law_40 (d + 29) n _ _ _ _ _ _ _).trans ?_
      rw [i1, i2, i3, i4, i5, cond_true, cond_true, cond_true, cond_true, cond_true, r1, Vk_v, k_L_law_310, i1, i2, i3, i4, i5, cond_true, cond_true, cond_true, cond_true, cond_true, z0, z0, z0, z0, z0, k_X12_feed_0, e4, cond_true, r2', Vk_v, k_L_law_344, decide_eq_true rfl, cond_true]
    · show I2 100 0 3 = I2 186 0 3
      rw [c2 100 0 3 (fun e => absurd e (by decide)) (fun e => absurd e (by decide)), up3_a (by decide), c1 100 0 3 (fun e => absurd e (by decide)) (fun _ => by decide), c2 186 0 3 (fun e => absurd e (by decide)) (fun _ => by decide), up3_k (by decide), c1 186 0 3 (fun e => absurd e (by decide)) (fun e => absurd e (by decide))]
      exact F
  · have e5 : decide (nI (zT I) + 20 ≤ (600 : Int32)) = false := by
      rw [show nI (zT I) + 20 = nI (zT I + 20) from nI_add (zT I) 20]
      exact (nI_led (b := 600) (by omega) (by decide)).trans (decide_eq_false (by omega))
    refine ⟨up3 I 186 0 0 0, L, P, E, c, s, ?_, h.side (Kp.rfl'.up rfl) Kp.rfl' (Kc.rfl'.up rfl) Kc.rfl' (RRef.thr h.2.2.2.2.2.2.2.2.2.2.2.1)⟩
    have e6 : (up3 I 186 0 0 0) 186 0 1 = nI (zT I) := (up3_k (by decide)).trans T1
    rw [← at6]
    refine (k_L_law_40 (d + 29) n _ _ _ _ _ _ _).trans ?_
    rw [i1, i2, i3, i4, i5, cond_true, cond_true, cond_true, cond_true, cond_true, k_X11_feed_0, e1, e5, cond_false, Vk_v, k_L_law_310, i1, i2, i3, i4, i5, cond_true, cond_true, cond_true, cond_true, cond_true, k_X12_feed_0, e6, e5, cond_false, Vk_v, k_L_law_344, decide_eq_true rfl, cond_true]
end Feed
