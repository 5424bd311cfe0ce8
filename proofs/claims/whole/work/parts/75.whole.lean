/-! THE TWO SIDES, 3: a call that only asks keeps them. -/
section KeepRel3
variable {c c' t s s' : Nat} {I I' : FI} {L L' : FL} {P P' : FR} {E E' : FE}
theorem silB_k (k : Kp c I I') (hc : 487 ≤ c) : silB I' = silB I := by
  funext w x
  unfold silB
  simp only [k.at hc (a := 198) (by decide) (fun _ => rfl), k.at hc (a := 190) (by decide) (fun _ => rfl)]
theorem ownB_k (k : Kp c I I') (hc : 487 ≤ c) : ownB I' = ownB I := by
  funext w d
  unfold ownB
  simp only [k.at hc (a := 198) (by decide) (fun _ => rfl)]
theorem veinB_k (k : Kp c I I') (hc : 487 ≤ c) : veinB I' = veinB I := by
  funext w d s v
  unfold veinB
  rw [(kz k hc).1]
  simp only [k.at hc (a := 208) (by decide) (fun _ => rfl)]
theorem lieB_k (k : Kp c I I') (hc : 487 ≤ c) (w d s : Nat) : ∀ v, lieB I' w d s v = lieB I w d s v
  | 0 => by unfold lieB; rw [ownB_k k hc]
  | v + 1 => by unfold lieB; rw [lieB_k k hc w d s v, veinB_k k hc]
theorem pstep_k (k : Kp c I I') (hc : 487 ≤ c) : pstep I' = pstep I := by
  funext d s how v st
  unfold pstep
  rw [silB_k k hc, (kz k hc).2.2.2.1]
  simp only [lieB_k k hc]
theorem pile_k (k : Kp c I I') (hc : 487 ≤ c) (d s : Nat) (f : Nat → Int32) : ∀ n, pile I' d s f n = pile I d s f n
  | 0 => rfl
  | n + 1 => by unfold pile; rw [pile_k k hc d s f n, pstep_k k hc]
theorem soB_k (k : Kp c I I') (hc : 487 ≤ c) : soB I' = soB I := by
  funext q d s
  unfold soB
  simp only [k.at hc (a := 229) (by decide) (fun _ => rfl), k.at hc (a := 237) (by decide) (fun _ => rfl), pile_k k hc]
theorem sL_k (k : Kp c I I') (hc : 487 ≤ c) : sL I' = sL I := by
  funext q d
  unfold sL
  rw [soB_k k hc, (kz k hc).2.2.2.2.2.2.2.2.2]
theorem lL_k (k : Kp c I I') (hc : 487 ≤ c) : lL I' = lL I := by
  funext w d
  unfold lL
  rw [(kz k hc).2.2.2.2.2.2.2.2.2, (kz k hc).2.2.2.1]
  simp only [lieB_k k hc]
theorem RPhr.keep (k : Kp c I I') (kq : Kp c P P') (ke : ∀ a, a < c → E' a = E a) (hc : 487 ≤ c) (hcc : c ≤ c') (h : RPhr I P E c) : RPhr I' P' E' c' := by
  intro q hq
  have h2 := PhR.keep k kq ke hc hcc (h q hq)
  rw [(kz k hc).2.2.1, kq.at hc (a := 128) (by decide) (fun _ => rfl)]
  simp only [k.at hc (a := 229) (by decide) (fun _ => rfl), k.at hc (a := 237) (by decide) (fun _ => rfl)]
  exact h2
theorem ImR.keep (k : Kp c I I') (kl : Kp c L L') (kq : Kp c P P') (ke : ∀ a, a < c → E' a = E a) (hc : 487 ≤ c) (hcc : c ≤ c') {g : Nat} (hg : g = 146 ∨ g = 154 ∨ g = 162) {f : Nat → Int64} (h : ImR I L P E c g f) : ImR I' L' P' E' c' g f := by
  obtain ⟨e1, e2, e3, e4, e5, e6, e7, e8, e9, e10⟩ := kz k hc
  have hi : ∀ a, 146 ≤ a → a < 170 → ∀ r j, I' a r j = I a r j := fun a h1 h2 => k.at hc (by omega) (fun j => by
    have h3 : ∀ x, x < 24 → kp (146 + x) j = true := fun x hx => by
      rcases (show x = 0 ∨ x = 1 ∨ x = 2 ∨ x = 3 ∨ x = 4 ∨ x = 5 ∨ x = 6 ∨ x = 7 ∨ x = 8 ∨ x = 9 ∨ x = 10 ∨ x = 11 ∨ x = 12 ∨ x = 13 ∨ x = 14 ∨ x = 15 ∨ x = 16 ∨ x = 17 ∨ x = 18 ∨ x = 19 ∨ x = 20 ∨ x = 21 ∨ x = 22 ∨ x = 23 by omega) with rfl | rfl | rfl | rfl | rfl | rfl | rfl | rfl | rfl | rfl | rfl | rfl | rfl | rfl | rfl | rfl | rfl | rfl | rfl | rfl | rfl | rfl | rfl | rfl <;> rfl
    have := h3 (a - 146) (by omega)
    rw [show 146 + (a - 146) = a by omega] at this
    exact this)
  have hk : ∀ a, 146 ≤ a → a < 170 → ∀ j, kp a j = true := fun a h1 h2 j => by
    have h3 : ∀ x, x < 24 → kp (146 + x) j = true := fun x hx => by
      rcases (show x = 0 ∨ x = 1 ∨ x = 2 ∨ x = 3 ∨ x = 4 ∨ x = 5 ∨ x = 6 ∨ x = 7 ∨ x = 8 ∨ x = 9 ∨ x = 10 ∨ x = 11 ∨ x = 12 ∨ x = 13 ∨ x = 14 ∨ x = 15 ∨ x = 16 ∨ x = 17 ∨ x = 18 ∨ x = 19 ∨ x = 20 ∨ x = 21 ∨ x = 22 ∨ x = 23 by omega) with rfl | rfl | rfl | rfl | rfl | rfl | rfl | rfl | rfl | rfl | rfl | rfl | rfl | rfl | rfl | rfl | rfl | rfl | rfl | rfl | rfl | rfl | rfl | rfl <;> rfl
    have := h3 (a - 146) (by omega)
    rw [show 146 + (a - 146) = a by omega] at this
    exact this
  have hL : ∀ a, 146 ≤ a → a < 170 → ∀ r j, L' a r j = L a r j := fun a h1 h2 r j => kl a r j (by omega) (hk a h1 h2 j)
  have hP : ∀ a, 146 ≤ a → a < 170 → ∀ r j, P' a r j = P a r j := fun a h1 h2 r j => kq a r j (by omega) (hk a h1 h2 j)
  have hg2 : 146 ≤ g ∧ g + 7 < 170 := by omega
  obtain ⟨h1, h2, h3, h4, h5⟩ := h
  unfold ImR
  rw [e10, e3]
  simp only [hi g (by omega) (by omega), hi (g + 2) (by omega) (by omega), hi (g + 3) (by omega) (by omega), hi (g + 4) (by omega) (by omega), hi (g + 7) (by omega) (by omega), hL (g + 5) (by omega) (by omega), hL (g + 6) (by omega) (by omega), hP (g + 1) (by omega) (by omega)]
  exact ⟨h1, h2, h3, h4, fun q hq => PhR.keep k kq ke hc hcc (h5 q hq)⟩
theorem RImg.keep (k : Kp c I I') (kl : Kp c L L') (kq : Kp c P P') (ke : ∀ a, a < c → E' a = E a) (hc : 487 ≤ c) (hcc : c ≤ c') (h : RImg I L P E c) : RImg I' L' P' E' c' := by
  obtain ⟨e1, e2, e3, e4, e5, e6, e7, e8, e9, e10⟩ := kz k hc
  obtain ⟨h1, h2, h3, h4⟩ := h
  unfold RImg
  rw [e8, k 186 0 26 (by omega) rfl, k 100 0 10 (by omega) rfl]
  refine ⟨h1, h2, h3, fun i hi => ?_⟩
  have := ImR.keep k kl kq ke hc hcc (show 146 + 8 * i = 146 ∨ 146 + 8 * i = 154 ∨ 146 + 8 * i = 162 by omega) (h4 i hi)
  simp only [kl.at hc (a := 318) (by decide) (fun _ => rfl)]
  exact this
theorem RBit.keep (kl : Kp c L L') (hc : 487 ≤ c) (h : RBit L) : RBit L' := by
  unfold RBit
  simp only [kl.at hc (a := 1) (by decide) (fun _ => rfl)]
  exact h
theorem RAlm.keep (k : Kp c I I') (hc : 487 ≤ c) (q : Kc I I') (ql : Kc L L') (h : RAlm t I L) : RAlm (t + 1) I' L' := by
  obtain ⟨e, h1, h2, h3, h4, h5⟩ := h
  refine ⟨e, by rw [q 135 0 7 rfl]; exact h1, h2, by omega, fun x d hx hd => ?_, fun d hd => ?_⟩
  · obtain ⟨j, g1, g2, g3⟩ := h4 x d hx hd
    exact ⟨j, g1, by rw [q 137 0 _ rfl]; exact g2, fun e1 => by rw [ql 136 0 _ rfl, sL_k k hc]; exact g3 e1⟩
  · obtain ⟨j, g1, g2, g3⟩ := h5 d hd
    exact ⟨j, g1, by rw [q 140 0 _ rfl]; exact g2, fun e1 w hw => by
      rw [(kz k hc).2.2.1] at hw
      rw [q 139 0 _ rfl, ql 138 0 _ rfl, lL_k k hc, silB_k k hc]
      exact g3 e1 w hw⟩
theorem RStm.keep (q : Kc I I') (h : RStm t I) : RStm (t + 1) I' := by
  obtain ⟨m, h1, h2, h3, h4⟩ := h
  refine ⟨m, by omega, by rw [q 186 0 40 rfl]; exact h2, fun k d hk hd => ?_, fun d hd => ?_⟩
  · rw [q 377 _ _ rfl]; exact h3 k d hk hd
  · rw [q 414 _ _ rfl]; exact h4 d hd
/-- a call that only asks keeps both sides alike -/
theorem Rl.keep (h : Rl t I L P E c s) (k : Kp c I I') (kl : Kp c L L') (kq : Kp c P P') (ke : ∀ a, a < c → E' a = E a) (q : Kc I I') (ql : Kc L L') (hr : RRef I') (hc1 : c ≤ c') (hc2 : c' ≤ c + 2) (hs : s' ≤ s + 200) : Rl (t + 1) I' L' P' E' c' s' := by
  obtain ⟨⟨a1, a2, a3, a4⟩, h1, h2, h3, h4, h5, h6, h7, h8, h9, h10, h11, h12, h13, h14, h15, h16⟩ := h
  exact ⟨⟨by rw [ke 486 (by omega)]; exact a1, by omega, by omega, by omega⟩, h1.keep k a2, h2.keep k kl a2, h3.keep k a2, h4.keep k a2, h5.keep k a2, h6.keep k kl a2, h7.keep k kl a2, h8.keep k a2, h9.keep k a2, h10.keep k a2, hr, h12.keep k kq ke a2 hc1, h13.keep k kl kq ke a2 hc1, h14.keep kl a2, h15.keep k a2 q ql, h16.keep q⟩
end KeepRel3
