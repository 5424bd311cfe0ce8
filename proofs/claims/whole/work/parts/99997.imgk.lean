/-! IMAGES: all but the images kept (in part written by program). -/
def Ki {α : Type} (f g : Nat → Nat → Nat → α) : Prop := ∀ a r j, ((a < 146 ∨ 169 < a) ∧ a ≠ 318 ∧ a ≠ 486 ∧ (a ≠ 186 ∨ (j ≠ 0 ∧ j ≠ 26 ∧ j ≠ 27)) ∧ (a ≠ 100 ∨ j ≠ 10)) → g a r j = f a r j
section Ki
variable {c t s : Nat} {I I' : FI} {L L' : FL} {P P' : FR} {E : FE}
theorem Ki.at {α : Type} {f g : Nat → Nat → Nat → α} (h : Ki f g) {a : Nat} (ha : (a < 146 ∨ 169 < a) ∧ a ≠ 318 ∧ a ≠ 486 ∧ a ≠ 186 ∧ a ≠ 100) (r j : Nat) : g a r j = f a r j := h a r j (by omega)
theorem iz (h : Ki I I') : zN I' = zN I ∧ zP I' = zP I ∧ zW I' = zW I ∧ zV I' = zV I ∧ zT I' = zT I ∧ zB I' = zB I := by
  simp only [zB, zN, zP, zW, zV, zT, h 190 0 0 (by decide), h 190 0 1 (by decide), h 190 0 2 (by decide), h 190 0 3 (by decide), h 186 0 1 (by decide), and_self]
theorem silB_i (k : Ki I I') : silB I' = silB I := by
  funext w x
  unfold silB
  simp only [k.at (a := 198) (by decide), k 190 0 5 (by decide), k 190 0 6 (by decide)]
theorem ownB_i (k : Ki I I') : ownB I' = ownB I := by
  funext w d
  unfold ownB
  simp only [k.at (a := 198) (by decide)]
theorem veinB_i (k : Ki I I') : veinB I' = veinB I := by
  funext w d s v
  unfold veinB
  rw [(iz k).1]
  simp only [k.at (a := 208) (by decide)]
theorem lieB_i (k : Ki I I') (w d s : Nat) : ∀ v, lieB I' w d s v = lieB I w d s v
  | 0 => by unfold lieB; rw [ownB_i k]
  | v + 1 => by unfold lieB; rw [lieB_i k w d s v, veinB_i k]
theorem pstep_i (k : Ki I I') : pstep I' = pstep I := by
  funext d s how v st
  unfold pstep
  rw [silB_i k, (iz k).2.2.2.1]
  simp only [lieB_i k]
theorem pile_i (k : Ki I I') (d s : Nat) (f : Nat → Int32) : ∀ n, pile I' d s f n = pile I d s f n
  | 0 => rfl
  | n + 1 => by unfold pile; rw [pile_i k d s f n, pstep_i k]
theorem soB_i (k : Ki I I') : soB I' = soB I := by
  funext q d s
  unfold soB
  simp only [k.at (a := 229) (by decide), k.at (a := 237) (by decide), pile_i k]
theorem sL_i (k : Ki I I') : sL I' = sL I := by
  funext q d
  unfold sL
  rw [soB_i k, (iz k).2.2.2.2.2]
theorem lL_i (k : Ki I I') : lL I' = lL I := by
  funext w d
  unfold lL
  rw [(iz k).2.2.2.2.2, (iz k).2.2.2.1]
  simp only [lieB_i k]
theorem RWell.im (k : Ki I I') (h : RWell I) : RWell I' := by
  obtain ⟨e1, e2, e3, -⟩ := iz k
  unfold RWell
  rw [e1, e2, e3]
  simp only [k.at (a := 105) (by decide), k.at (a := 106) (by decide), k.at (a := 107) (by decide), k.at (a := 108) (by decide), k.at (a := 109) (by decide), k.at (a := 110) (by decide), k.at (a := 198) (by decide)]
  exact h
theorem RVein.im (k : Ki I I') (h : RVein I) : RVein I' := by
  obtain ⟨e1, e2, e3, e4, -⟩ := iz k
  unfold RVein
  rw [e3, e4]
  simp only [k.at (a := 111) (by decide), k.at (a := 112) (by decide), k.at (a := 113) (by decide), k.at (a := 114) (by decide), k.at (a := 208) (by decide)]
  exact h
theorem RFar.im (k : Ki I I') (h : RFar I) : RFar I' := by
  obtain ⟨e1, e2, -⟩ := iz k
  unfold RFar
  rw [e2]
  simp only [k.at (a := 104) (by decide), k.at (a := 220) (by decide)]
  exact h
theorem RTap.im (k : Ki I I') (h : RTap I) : RTap I' := by
  obtain ⟨e1, e2, e3, e4, e6, e7⟩ := iz k
  unfold RTap
  rw [e6]
  simp only [k 186 0 1 (by decide), k 100 0 1 (by decide), k.at (a := 187) (by decide), k.at (a := 101) (by decide)]
  exact h
theorem RAlm.im (k : Ki I I') (kl : Ki L L') (h : RAlm t I L) : RAlm t I' L' := by
  obtain ⟨e, h1, h2, h3, h4, h5⟩ := h
  refine ⟨e, by rw [k.at (a := 135) (by decide)]; exact h1, h2, h3, fun x d hx hd => ?_, fun d hd => ?_⟩
  · obtain ⟨j, g1, g2, g3⟩ := h4 x d hx hd
    exact ⟨j, g1, by rw [k.at (a := 137) (by decide)]; exact g2, fun e1 => by rw [kl.at (a := 136) (by decide), sL_i k]; exact g3 e1⟩
  · obtain ⟨j, g1, g2, g3⟩ := h5 d hd
    exact ⟨j, g1, by rw [k.at (a := 140) (by decide)]; exact g2, fun e1 w hw => by
      rw [(iz k).2.2.1] at hw
      rw [k.at (a := 139) (by decide), kl.at (a := 138) (by decide), lL_i k, silB_i k]
      exact g3 e1 w hw⟩
theorem RStm.im (k : Ki I I') (h : RStm t I) : RStm t I' := by
  obtain ⟨m, h1, h2, h3, h4⟩ := h
  refine ⟨m, h1, by rw [k 186 0 40 (by decide)]; exact h2, fun j d hj hd => ?_, fun d hd => ?_⟩
  · rw [k.at (a := 377) (by decide)]; exact h3 j d hj hd
  · rw [k.at (a := 414) (by decide)]; exact h4 d hd
theorem Rl.im (h : Rl t I L P E c s) (k : Ki I I') (kl : Ki L L') (kp : ∀ a r j, (a < 146 ∨ 169 < a) → P' a r j = P a r j) (hI : RImg I' L' P' E c) : Rl (t + 1) I' L' P' E c s := by
  obtain ⟨⟨a1, a2, a3, a4⟩, h1, h2, h3, h4, h5, h6, h7, h8, h9, h10, h11, h12, h13, h14, h15, h16⟩ := h
  refine ⟨⟨a1, a2, by omega, by omega⟩, h1.eq fun r j => k.at (by decide) r j, h2.eq (fun r j => k.at (by decide) r j) (fun r j => k.at (by decide) r j) (k.at (by decide) 0 0) (kl.at (by decide) 0 5), h3.im k, h4.im k, h5.im k, h6.eq (fun r j => k.at (by decide) r j) (k 186 0 24 (by decide)) (k.at (by decide) 0 2) (fun a r j ha => k.at (by omega) r j) (fun a r j ha => kl.at (by omega) r j), h7.eq (k 186 0 25 (by decide)) (k.at (by decide) 0 7) (fun a r j ha => kl.at (by omega) r j), h8.eq (fun a r j ha => k.at (by omega) r j), h9.im k, ?_, ?_, ?_, hI, ?_, (h15.im k kl).on, ?_⟩
  · unfold RFau
    rw [k 100 0 3 (by decide), k 186 0 3 (by decide)]
    exact h10
  · unfold RRef
    rw [k 100 0 17 (by decide), k 100 0 18 (by decide), k 188 0 0 (by decide), k 188 0 1 (by decide)]
    exact h11
  · intro q hq
    have e1 : P' 128 0 q = P 128 0 q := kp 128 0 q (by decide)
    rw [(iz k).2.2.1, e1]
    simp only [k.at (a := 229) (by decide), k.at (a := 237) (by decide)]
    exact PhR.fc (fun _ _ => rfl) (fun b r j hb => k.at (by omega) r j) (fun b r j hb => kp b r j (by omega)) (h12 q hq)
  · unfold RBit
    simp only [kl.at (a := 1) (by decide)]
    exact h14
  · obtain ⟨m, m1, m2⟩ := h16.im k
    exact ⟨m, by omega, m2⟩
end Ki
