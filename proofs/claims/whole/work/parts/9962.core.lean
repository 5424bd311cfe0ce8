/-! SCRATCH: what a call that only asks may change on each side, and its end. -/
def Cx {α : Type} (f g : Nat → Nat → Nat → α) : Prop := ∀ a r j, (kp a j = true ∨ a ≤ 100 ∨ 186 ≤ a) → g a r j = f a r j
def Rx {α : Type} (f g : Nat → Nat → Nat → α) : Prop := ∀ a r j, (kp a j = true ∨ a < 186 ∨ a = 188 ∨ 486 ≤ a) → g a r j = f a r j
theorem Cx.rfl' {α : Type} {f : Nat → Nat → Nat → α} : Cx f f := fun _ _ _ _ => rfl
theorem Rx.rfl' {α : Type} {f : Nat → Nat → Nat → α} : Rx f f := fun _ _ _ _ => rfl
theorem Cx.tr {α : Type} {f g k : Nat → Nat → Nat → α} (h : Cx f g) (h2 : Cx g k) : Cx f k := fun a r j q => (h2 a r j q).trans (h a r j q)
theorem Rx.tr {α : Type} {f g k : Nat → Nat → Nat → α} (h : Rx f g) (h2 : Rx g k) : Rx f k := fun a r j q => (h2 a r j q).trans (h a r j q)
theorem up3_x {α : Type} {f : Nat → Nat → Nat → α} {a r k b t j : Nat} {x : α} (h : ¬ (b = a ∧ j = k)) : up3 f a r k x b t j = f b t j := by
  by_cases e : b = a
  · exact up3_k (fun q => h ⟨e, q⟩)
  · exact up3_a e
theorem Cx.up {α : Type} {f g : Nat → Nat → Nat → α} (h : Cx f g) {a r k : Nat} {x : α} (ha : 100 < a ∧ a < 186) (hk : kp a k = false) : Cx f (up3 g a r k x) := fun b t j q => (up3_x (by
  rintro ⟨rfl, rfl⟩
  rcases q with q | q | q
  · rw [hk] at q; cases q
  · omega
  · omega)).trans (h b t j q)
theorem Rx.up {α : Type} {f g : Nat → Nat → Nat → α} (h : Rx f g) {a r k : Nat} {x : α} (ha : 186 ≤ a ∧ a < 486 ∧ a ≠ 188) (hk : kp a k = false) : Rx f (up3 g a r k x) := fun b t j q => (up3_x (by
  rintro ⟨rfl, rfl⟩
  rcases q with q | q | q | q
  · rw [hk] at q; cases q
  · omega
  · omega
  · omega)).trans (h b t j q)
theorem Cx.kp {α : Type} {f g : Nat → Nat → Nat → α} (h : Cx f g) {c : Nat} : Kp c f g := fun a r j _ q => h a r j (.inl q)
theorem Rx.kp {α : Type} {f g : Nat → Nat → Nat → α} (h : Rx f g) {c : Nat} : Kp c f g := fun a r j _ q => h a r j (.inl q)
theorem ne_of_cx {a j b : Nat} (hb : ∀ j, kp b j = false) (h1 : 100 < b ∧ b < 186) (q : kp a j = true ∨ a ≤ 100 ∨ 186 ≤ a) : a ≠ b := by
  rintro rfl
  rcases q with q | q | q
  · rw [hb j] at q; cases q
  · omega
  · omega
theorem Dof.cx {I J : FI} (h : Dof I J) : Cx I J := fun a r j q => h a r j (ne_of_cx (fun _ => rfl) (by decide) q) (ne_of_cx (fun _ => rfl) (by decide) q) (ne_of_cx (fun _ => rfl) (by decide) q)
theorem DofL.cx {I J : FL} (h : DofL I J) : Cx I J := fun a r j q => h a r j (ne_of_cx (fun _ => rfl) (by decide) q) (ne_of_cx (fun _ => rfl) (by decide) q) (ne_of_cx (fun _ => rfl) (by decide) q)
theorem Off.rx {I J : FI} (h : Off I J) : Rx I J := fun a r j q => h a r j (by
  rintro rfl
  rcases q with q | q | q | q
  · cases q
  · omega
  · omega
  · omega)
theorem Rx.thr {I : FI} : Rx I (up3 I 186 0 0 0) := Rx.rfl'.up (by decide) rfl
/-- the class's side in the midst of a call -/
def Cw (t : Nat) (I : FI) (L : FL) (J : FI) (K : FL) : Prop := Cx I J ∧ Cx L K ∧ RAlm t J K
section Core
variable {c t s : Nat} {I J M : FI} {L K N : FL} {P : FR} {E : FE}
theorem Rl.cw0 (h : Rl t I L P E c s) : Cw t I L I L := ⟨Cx.rfl', Cx.rfl', h.2.2.2.2.2.2.2.2.2.2.2.2.2.2.2.1⟩
theorem Cls.kp (H : Cls t I L P E c) (k : Kp c I J) (kl : Kp c L K) : Cls t J K P E c := by
  obtain ⟨hT, hl, hw, hv, hb, hP, hc, ht⟩ := H
  exact ⟨hT.keep k hc, hl.keep k kl hc, hw.keep k hc, hv.keep k hc, hb.keep kl hc, hP.keep k Kp.rfl' (fun _ _ => rfl) hc (Nat.le_refl _), hc, ht⟩
theorem Cw.cls (w : Cw t I L J K) (H : Cls t I L P E c) : Cls t J K P E c := H.kp w.1.kp w.2.1.kp
theorem Cw.dy (w : Cw t I L J K) : Dy t J K J K := ⟨Dof.rfl', DofL.rfl', w.2.2⟩
theorem Cw.tr {J' : FI} {K' : FL} (w : Cw t I L J K) (d : Dy t J K J' K') : Cw t I L J' K' := ⟨w.1.tr d.1.cx, w.2.1.tr d.2.1.cx, d.2.2⟩
theorem RAlm.sc {J' : FI} {K' : FL} (h : RAlm t J K) (k : Kp c J J') (hc : 487 ≤ c) (q : ∀ a r j, 134 < a → a < 141 → J' a r j = J a r j) (ql : ∀ a r j, 134 < a → a < 141 → K' a r j = K a r j) : RAlm t J' K' := by
  obtain ⟨e, h1, h2, h3, h4, h5⟩ := h
  refine ⟨e, by rw [q 135 0 7 (by decide) (by decide)]; exact h1, h2, h3, fun x d hx hd => ?_, fun d hd => ?_⟩
  · obtain ⟨j, g1, g2, g3⟩ := h4 x d hx hd
    exact ⟨j, g1, by rw [q 137 0 _ (by decide) (by decide)]; exact g2, fun e1 => by rw [ql 136 0 _ (by decide) (by decide), sL_k k hc]; exact g3 e1⟩
  · obtain ⟨j, g1, g2, g3⟩ := h5 d hd
    exact ⟨j, g1, by rw [q 140 0 _ (by decide) (by decide)]; exact g2, fun e1 w hw => by
      rw [(kz k hc).2.2.1] at hw
      rw [q 139 0 _ (by decide) (by decide), ql 138 0 _ (by decide) (by decide), lL_k k hc, silB_k k hc]
      exact g3 e1 w hw⟩
theorem RAlm.on (h : RAlm t J K) : RAlm (t + 1) J K := by
  obtain ⟨e, h1, h2, h3, h4, h5⟩ := h
  exact ⟨e, h1, h2, by omega, h4, h5⟩
theorem Cw.upI (w : Cw t I L J K) {a r k : Nat} {x : Int32} (ha : 100 < a ∧ a < 186) (hk : kp a k = false) (h2 : a < 135 ∨ 140 < a) : Cw t I L (up3 J a r k x) K :=
  ⟨w.1.up ha hk, w.2.1, w.2.2.sc (c := 487) (Cx.up Cx.rfl' ha hk).kp (Nat.le_refl _) (fun b r j h3 h4 => up3_a (by omega)) (fun _ _ _ _ _ => rfl)⟩
theorem Cw.upL (w : Cw t I L J K) {a r k : Nat} {x : Int64} (ha : 100 < a ∧ a < 186) (hk : kp a k = false) (h2 : a < 135 ∨ 140 < a) : Cw t I L J (up3 K a r k x) :=
  ⟨w.1, w.2.1.up ha hk, w.2.2.sc (c := 487) Kp.rfl' (Nat.le_refl _) (fun _ _ _ _ _ => rfl) (fun b r j h3 h4 => up3_a (by omega))⟩
/-- a whole change of scratch -/
theorem Cw.upX {J' : FI} {K' : FL} (w : Cw t I L J K) (h : Cx J J') (hl : Cx K K') (q : ∀ a r j, 134 < a → a < 141 → J' a r j = J a r j) (ql : ∀ a r j, 134 < a → a < 141 → K' a r j = K a r j) : Cw t I L J' K' :=
  ⟨w.1.tr h, w.2.1.tr hl, w.2.2.sc (c := 487) h.kp (Nat.le_refl _) q ql⟩
theorem Rl.rstm (h : Rl t I L P E c s) : RStm t I := h.2.2.2.2.2.2.2.2.2.2.2.2.2.2.2.2
theorem RStm.rx (h : RStm t I) (hC : Cx I J) (hR : Rx J M) (q1 : M 186 0 40 = J 186 0 40) (q2 : ∀ r j, M 377 r j = J 377 r j) (q3 : ∀ r j, M 414 r j = J 414 r j) : RStm (t + 1) M := by
  obtain ⟨m, h1, h2, h3, h4⟩ := h
  refine ⟨m, by omega, by rw [q1, hC 186 0 40 (.inr (.inr (by decide)))]; exact h2, fun k d hk hd => ?_, fun d hd => ?_⟩
  · rw [q2, hC 377 _ _ (.inr (.inr (by decide)))]; exact h3 k d hk hd
  · rw [q3, hC 414 _ _ (.inr (.inr (by decide)))]; exact h4 d hd
theorem RStm.off (h : RStm t I) (hC : Cx I J) (ho : Off (up3 J 186 0 0 0) M) : RStm (t + 1) M := h.rx hC (Rx.thr.tr ho.rx) ((ho 186 0 40 (by decide)).trans (up3_k (by decide))) (fun r j => (ho 377 r j (by decide)).trans (up3_a (by decide))) (fun r j => (ho 414 r j (by decide)).trans (up3_a (by decide)))
/-- the end of a call that only asks -/
theorem Rl.done (h : Rl t I L P E c s) {lv : Int64} (w : Cw t I L J K) (hR : Rx J M) (hRL : Rx (up3 K 486 0 0 lv) N) (hs : RStm (t + 1) M) : Rl (t + 1) M N P E c s := by
  obtain ⟨⟨a1, a2, a3, a4⟩, h1, h2, h3, h4, h5, h6, h7, h8, h9, h10, h11, h12, h13, h14, h15, h16⟩ := h
  obtain ⟨w1, w2, w3⟩ := w
  have k1 : Kp c I M := Kp.tr w1.kp hR.kp (Nat.le_refl _)
  have k2 : Kp c L N := Kp.tr (Kp.tr w2.kp (Kp.rfl'.up rfl) (Nat.le_refl c)) hRL.kp (Nat.le_refl _)
  have k3 : Kp c J M := hR.kp
  refine ⟨⟨a1, a2, by omega, by omega⟩, h1.keep k1 a2, h2.keep k1 k2 a2, h3.keep k1 a2, h4.keep k1 a2, h5.keep k1 a2, h6.keep k1 k2 a2, h7.keep k1 k2 a2, h8.keep k1 a2, h9.keep k1 a2, h10.keep k1 a2, ?_, h12.keep k1 Kp.rfl' (fun _ _ => rfl) a2 (Nat.le_refl _), h13.keep k1 k2 Kp.rfl' (fun _ _ => rfl) a2 (Nat.le_refl _), h14.keep k2 a2, ?_, hs⟩
  · have e : ∀ a j, (a = 100 ∨ a = 188) → M a 0 j = I a 0 j := fun a j q => by
      rw [hR a 0 j (by omega), w1 a 0 j (by omega)]
    unfold RRef
    rw [e 100 17 (.inl rfl), e 100 18 (.inl rfl), e 188 0 (.inr rfl), e 188 1 (.inr rfl)]
    exact h11
  · refine (w3.sc k3 a2 (fun a r j _ _ => hR a r j (by omega)) (fun a r j _ _ => ?_)).on
    rw [hRL a r j (by omega), up3_a (by omega)]
theorem Rl.done_s (h : Rl t I L P E c s) {lv : Int64} (w : Cw t I L J K) (hRL : Rx (up3 K 486 0 0 lv) N) : N 486 0 0 = lv ∧ ∀ j, J 0 0 j = I 0 0 j :=
  ⟨(hRL 486 0 0 (by decide)).trans (up3_i _ _ _ _ _), fun j => w.1 0 0 j (.inr (.inl (by decide)))⟩
end Core
