/-! THE TWO SIDES, 4: a call that changes the book: what it doesn't touch stays alike. -/
/-- all places but the book's -/
def Kg {α : Type} (f g : Nat → Nat → Nat → α) : Prop := ∀ a r j, (a ≠ 127 ∧ (a < 129 ∨ 134 < a) ∧ a ≠ 248 ∧ a ≠ 309 ∧ a ≠ 316 ∧ a ≠ 317 ∧ a ≠ 486 ∧ (a ≠ 186 ∨ (j ≠ 0 ∧ j ≠ 24 ∧ j ≠ 25)) ∧ (a ≠ 190 ∨ j ≠ 4)) → g a r j = f a r j
section Mut
variable {c t s : Nat} {I I' : FI} {L L' : FL} {P : FR} {E : FE}
theorem Kg.rfl' {α : Type} {f : Nat → Nat → Nat → α} : Kg f f := fun _ _ _ _ => rfl
theorem Kg.up {α : Type} {f g : Nat → Nat → Nat → α} (h : Kg f g) {a r k : Nat} {x : α} (hk : ¬ (a ≠ 127 ∧ (a < 129 ∨ 134 < a) ∧ a ≠ 248 ∧ a ≠ 309 ∧ a ≠ 316 ∧ a ≠ 317 ∧ a ≠ 486 ∧ (a ≠ 186 ∨ (k ≠ 0 ∧ k ≠ 24 ∧ k ≠ 25)) ∧ (a ≠ 190 ∨ k ≠ 4))) : Kg f (up3 g a r k x) := fun b t j hj => by
  unfold up3
  by_cases e1 : b = a
  · by_cases e2 : t = r
    · by_cases e3 : j = k
      · subst e1; subst e3; exact absurd hj hk
      · rw [if_pos e1, if_pos e2, if_neg e3]; exact h _ _ _ hj
    · rw [if_pos e1, if_neg e2]; exact h _ _ _ hj
  · rw [if_neg e1]; exact h _ _ _ hj
theorem Kg.at {α : Type} {f g : Nat → Nat → Nat → α} (h : Kg f g) {a : Nat} (ha : a ≠ 127 ∧ (a < 129 ∨ 134 < a) ∧ a ≠ 248 ∧ a ≠ 309 ∧ a ≠ 316 ∧ a ≠ 317 ∧ a ≠ 486 ∧ a ≠ 186 ∧ a ≠ 190) (r j : Nat) : g a r j = f a r j := h a r j (by omega)
theorem gz (h : Kg I I') : zN I' = zN I ∧ zP I' = zP I ∧ zW I' = zW I ∧ zV I' = zV I ∧ zM I' = zM I ∧ zT I' = zT I ∧ zB I' = zB I := by
  simp only [zB, zN, zP, zW, zV, zM, zT, h 190 0 0 (by decide), h 190 0 1 (by decide), h 190 0 2 (by decide), h 190 0 3 (by decide), h 186 0 26 (by decide), h 186 0 1 (by decide), and_self]
theorem silB_g (k : Kg I I') : silB I' = silB I := by
  funext w x
  unfold silB
  simp only [k.at (a := 198) (by decide), k 190 0 5 (by decide), k 190 0 6 (by decide)]
theorem ownB_g (k : Kg I I') : ownB I' = ownB I := by
  funext w d
  unfold ownB
  simp only [k.at (a := 198) (by decide)]
theorem veinB_g (k : Kg I I') : veinB I' = veinB I := by
  funext w d s v
  unfold veinB
  rw [(gz k).1]
  simp only [k.at (a := 208) (by decide)]
theorem lieB_g (k : Kg I I') (w d s : Nat) : ∀ v, lieB I' w d s v = lieB I w d s v
  | 0 => by unfold lieB; rw [ownB_g k]
  | v + 1 => by unfold lieB; rw [lieB_g k w d s v, veinB_g k]
theorem pstep_g (k : Kg I I') : pstep I' = pstep I := by
  funext d s how v st
  unfold pstep
  rw [silB_g k, (gz k).2.2.2.1]
  simp only [lieB_g k]
theorem pile_g (k : Kg I I') (d s : Nat) (f : Nat → Int32) : ∀ n, pile I' d s f n = pile I d s f n
  | 0 => rfl
  | n + 1 => by unfold pile; rw [pile_g k d s f n, pstep_g k]
theorem soB_g (k : Kg I I') : soB I' = soB I := by
  funext q d s
  unfold soB
  simp only [k.at (a := 229) (by decide), k.at (a := 237) (by decide), pile_g k]
theorem sL_g (k : Kg I I') : sL I' = sL I := by
  funext q d
  unfold sL
  rw [soB_g k, (gz k).2.2.2.2.2.2]
theorem lL_g (k : Kg I I') : lL I' = lL I := by
  funext w d
  unfold lL
  rw [(gz k).2.2.2.2.2.2, (gz k).2.2.2.1]
  simp only [lieB_g k]
theorem PhR.hi (k : ∀ a r j, 487 ≤ a → I' a r j = I a r j) {wn : Nat} {ph : Option (Nat × Nat)} {a b w : Int32} {f : Nat → Int32} (h : PhR I P E c wn ph a b w f) : PhR I' P E c wn ph a b w f := by
  rcases h with h | ⟨p, q, n, A, W, h1, h2, h3, h4, h5, h6, h7, h8, h9, h10, h11, h12, h13, h14, h15, h16, h17, h18, h19⟩
  · exact Or.inl h
  · refine Or.inr ⟨p, q, n, A, W, h1, h2, h3, h4, h5, h6, h7, h8, h9, h10, h11, h12, h13, h14, h15, by rw [k p 0 1 h2]; exact h16, fun j hj => ?_, h18, h19⟩
    rw [k q 0 j h6]
    exact h17 j hj
theorem Kg.hi {α : Type} {f g : Nat → Nat → Nat → α} (k : Kg f g) : ∀ a r j, 487 ≤ a → g a r j = f a r j := fun a r j ha => k a r j (by omega)
theorem RWell.mut (k : Kg I I') (h : RWell I) : RWell I' := by
  obtain ⟨e1, e2, e3, -⟩ := gz k
  unfold RWell
  rw [e1, e2, e3]
  simp only [k.at (a := 105) (by decide), k.at (a := 106) (by decide), k.at (a := 107) (by decide), k.at (a := 108) (by decide), k.at (a := 109) (by decide), k.at (a := 110) (by decide), k.at (a := 198) (by decide)]
  exact h
theorem RVein.mut (k : Kg I I') (h : RVein I) : RVein I' := by
  obtain ⟨e1, e2, e3, e4, -⟩ := gz k
  unfold RVein
  rw [e3, e4]
  simp only [k.at (a := 111) (by decide), k.at (a := 112) (by decide), k.at (a := 113) (by decide), k.at (a := 114) (by decide), k.at (a := 208) (by decide)]
  exact h
theorem RFar.mut (k : Kg I I') (h : RFar I) : RFar I' := by
  obtain ⟨e1, e2, -⟩ := gz k
  unfold RFar
  rw [e2]
  simp only [k.at (a := 104) (by decide), k.at (a := 220) (by decide)]
  exact h
theorem RTap.mut (k : Kg I I') (h : RTap I) : RTap I' := by
  obtain ⟨e1, e2, e3, e4, e5, e6, e7⟩ := gz k
  unfold RTap
  rw [e6]
  simp only [k 186 0 1 (by decide), k 100 0 1 (by decide), k.at (a := 187) (by decide), k.at (a := 101) (by decide)]
  exact h
theorem RPhr.mut (k : Kg I I') (h : RPhr I P E c) : RPhr I' P E c := by
  intro q hq
  have h2 := PhR.hi k.hi (h q hq)
  rw [(gz k).2.2.1]
  simp only [k.at (a := 229) (by decide), k.at (a := 237) (by decide)]
  exact h2
theorem ImR.mut (k : Kg I I') (kl : Kg L L') {g : Nat} (hg : 146 ≤ g ∧ g ≤ 162) {f : Nat → Int64} (h : ImR I L P E c g f) : ImR I' L' P E c g f := by
  obtain ⟨e1, e2, e3, e4, e5, e6, e7⟩ := gz k
  obtain ⟨h1, h2, h3, h4, h5⟩ := h
  unfold ImR
  rw [e7, e3]
  simp only [k.at (a := g) (by omega), k.at (a := g + 2) (by omega), k.at (a := g + 3) (by omega), k.at (a := g + 4) (by omega), k.at (a := g + 7) (by omega), kl.at (a := g + 5) (by omega), kl.at (a := g + 6) (by omega)]
  exact ⟨h1, h2, h3, h4, fun q hq => PhR.hi k.hi (h5 q hq)⟩
theorem RImg.mut (k : Kg I I') (kl : Kg L L') (h : RImg I L P E c) : RImg I' L' P E c := by
  obtain ⟨e1, e2, e3, e4, e5, e6, e7⟩ := gz k
  obtain ⟨h1, h2, h3, h4⟩ := h
  unfold RImg
  rw [e5, k 186 0 26 (by decide), k 100 0 10 (by decide)]
  refine ⟨h1, h2, h3, fun i hi => ?_⟩
  have := ImR.mut k kl (show 146 ≤ 146 + 8 * i ∧ 146 + 8 * i ≤ 162 by omega) (h4 i hi)
  simp only [kl.at (a := 318) (by decide)]
  exact this
theorem RAlm.mut (k : Kg I I') (kl : Kg L L') (h : RAlm t I L) : RAlm t I' L' := by
  obtain ⟨e, h1, h2, h3, h4, h5⟩ := h
  refine ⟨e, by rw [k.at (a := 135) (by decide)]; exact h1, h2, h3, fun x d hx hd => ?_, fun d hd => ?_⟩
  · obtain ⟨j, g1, g2, g3⟩ := h4 x d hx hd
    exact ⟨j, g1, by rw [k.at (a := 137) (by decide)]; exact g2, fun e1 => by rw [kl.at (a := 136) (by decide), sL_g k]; exact g3 e1⟩
  · obtain ⟨j, g1, g2, g3⟩ := h5 d hd
    exact ⟨j, g1, by rw [k.at (a := 140) (by decide)]; exact g2, fun e1 w hw => by
      rw [(gz k).2.2.1] at hw
      rw [k.at (a := 139) (by decide), kl.at (a := 138) (by decide), lL_g k, silB_g k]
      exact g3 e1 w hw⟩
theorem RStm.mut (k : Kg I I') (h : RStm t I) : RStm t I' := by
  obtain ⟨m, h1, h2, h3, h4⟩ := h
  refine ⟨m, h1, by rw [k 186 0 40 (by decide)]; exact h2, fun j d hj hd => ?_, fun d hd => ?_⟩
  · rw [k.at (a := 377) (by decide)]; exact h3 j d hj hd
  · rw [k.at (a := 414) (by decide)]; exact h4 d hd
/-- the book changed on both sides alike, all else kept -/
theorem Rl.mut (h : Rl t I L P E c s) (k : Kg I I') (kl : Kg L L') (hT : RTold I') (hl : RLand I' L') (hd : RDia I' L') (hh : RHea I' L') (ho : ROff I') : Rl t I' L' P E c s := by
  obtain ⟨h0, h1, h2, h3, h4, h5, h6, h7, h8, h9, h10, h11, h12, h13, h14, h15, h16⟩ := h
  refine ⟨h0, hT, hl, h3.mut k, h4.mut k, h5.mut k, hd, hh, ho, h9.mut k, ?_, ?_, h12.mut k, h13.mut k kl, ?_, h15.mut k kl, h16.mut k⟩
  · unfold RFau
    rw [k 100 0 3 (by decide), k 186 0 3 (by decide)]
    exact h10
  · unfold RRef
    rw [k 100 0 17 (by decide), k 100 0 18 (by decide), k 188 0 0 (by decide), k 188 0 1 (by decide)]
    exact h11
  · unfold RBit
    simp only [kl.at (a := 1) (by decide)]
    exact h14
end Mut
