/-! IMAGES: a new image stands in the relation. -/
section ImgR
variable {a d n t : Nat} {I J M : FI} {L K N : FL} {P Q : FR} {E : FE} {c s z : Nat}
theorem pile_congr {f g : Nat → Int32} (h : ∀ j, j < 320 → f j = g j) : ∀ k, k ≤ 150 → pileAt f k = pileAt g k
  | 0, _ => rfl
  | k + 1, hk => by
    show pileAt f k + (if f (2 * k) = 0 then 1 else if f (2 * k) = 1 ∨ f (2 * k) = 5 ∨ f (2 * k) = 6 then 0 else -1) = pileAt g k + (if g (2 * k) = 0 then 1 else if g (2 * k) = 1 ∨ g (2 * k) = 5 ∨ g (2 * k) = 6 then 0 else -1)
    rw [pile_congr h k (by omega), h (2 * k) (by omega)]
theorem PhR.fc {wn : Nat} {ph : Option (Nat × Nat)} {x y w : Int32} {f g : Nat → Int32} (hf : ∀ j, j < 320 → f j = g j) (hI : ∀ b r j, 487 ≤ b → J b r j = I b r j) (hP : ∀ b r j, 487 ≤ b → Q b r j = P b r j) (h : PhR I P E c wn ph x y w f) : PhR J Q E c wn ph x y w g := by
  rcases h with h | ⟨p, q, k, A, W, h1, h2, h3, h4, h5, h6, h7, h8, h9, h10, h11, h12, h13, h14, h15, h16, h17, h18, h19, h20⟩
  · exact .inl h
  · refine .inr ⟨p, q, k, A, W, h1, h2, h3, h4, (hP p 0 0 h2).trans h5, h6, h7, h8, h9, h10, h11, h12, h13, h14, h15, (hI p 0 1 h2).trans h16, fun j hj => ?_, fun j hj e => ?_, fun j j1 j2 => ?_, ?_⟩
    · rw [hI q 0 j h6, ← hf (2 * j) (by omega), ← hf (2 * j + 1) (by omega)]
      exact h17 j hj
    · rw [← hf (2 * j) (by omega)] at e
      obtain ⟨u, u1, u2⟩ := h18 j hj e
      exact ⟨u, by rw [← hf (2 * j + 1) (by omega)]; exact u1, u2⟩
    · rw [← pile_congr hf j (by omega)]
      exact h19 j j1 j2
    · rw [← pile_congr hf k h9]
      exact h20
theorem im_new {y : Nat} (hy : 146 ≤ y ∧ y + 7 < 170) (hT : RTold I) (hl : RLand I L) (hd : RDia I L) (hh : RHea I L) (ho : ROff I) (hP : RPhr I P E c) (hC : CpB y 127 I J L K P Q) {f : Nat → Int64} (hf : ∀ k, k < 2550 → f k = imF I L k) : ImR J K Q E c y f := by
  obtain ⟨F0, F1, F2, F3, F4, F5, F6, F7, F8⟩ := imF_is I L
  obtain ⟨C1, C2, C3, C4, C5, C6, C7⟩ := hC
  have e190 : ∀ r j, J 190 r j = I 190 r j := fun r j => (C7 190 r j (by omega)).1
  have eB : zB J = zB I := by unfold zB zN zV; simp only [e190]
  have eW : zW J = zW I := by unfold zW; rw [e190]
  have hS := hT.2.2.2.2.1
  refine ⟨⟨?_, zS I, ?_, ?_⟩, ⟨zA I, hd.2.1, ?_, ?_, fun k hk => ?_⟩, ⟨zH I, hh.2.1, ?_, ?_, fun k hk => ?_⟩, fun b w hb hw => ?_, fun q hq => ?_⟩
  · rw [hf 0 (by decide), F0, C1 0 (.inl rfl), hl.2.2.2.2.2.2.1]
  · rw [C1 0 (.inl rfl), hl.2.2.2.2.2.2.1]; exact hS.1
  · rw [eB]; exact hS.2
  · rw [C1 2 (.inr (.inl rfl)), hd.2.2.1, hd.1]
  · rw [hf 1 (by decide), F1, hd.1]
  · have h60 := hd.2.1
    obtain ⟨d1, d2, d3, d4, d5⟩ := hd.2.2.2 k hk
    refine ⟨?_, ?_, ?_, ?_, ?_⟩
    · rw [hf _ (by omega), C2 2 k (by decide) (by decide) (by omega)]
      exact (F5 k 0 (by omega) (by decide)).trans (congrArg _ d1.symm)
    · rw [hf _ (by omega), C2 3 k (by decide) (by decide) (by omega)]
      exact (F5 k 1 (by omega) (by decide)).trans (congrArg _ d2.symm)
    · rw [hf _ (by omega), C2 4 k (by decide) (by decide) (by omega)]
      exact (F5 k 2 (by omega) (by decide)).trans (congrArg _ d3.symm)
    · rw [hf _ (by omega), C4 k (by omega), F6 k (by omega)]
      exact d4.symm
    · rw [C4 k (by omega), eB]
      rw [show L (127 + 5) 0 k = L 316 0 k from d4]
      exact d5
  · rw [C1 7 (.inr (.inr rfl)), hh.2.2.1, hh.1]
  · rw [hf 2 (by decide), F2, hh.1]
  · have h10 := hh.2.1
    rw [hf _ (by omega), C5 k (by omega), F7 k (by omega)]
    exact (hh.2.2.2 k hk).symm
  · obtain ⟨o1, p, o2, o3⟩ := ho b w hb hw
    have e : J (y + 7) 0 (b * 6 + w) = I 309 (b + 1) w := (C3 _ (by omega)).trans o1
    exact ⟨by rw [hf _ (by omega), F8 b w hb hw, e], p, e.trans o2, o3⟩
  · have g0 : (f (3 + 323 * q)).toInt32 = I 229 (q + 1) 0 := by rw [hf _ (by omega), show 3 + 323 * q = 3 + 323 * q + 0 from rfl, F3 q 0 hq (by decide), t6432]
    have g1 : (f (3 + 323 * q + 1)).toInt32 = I 229 (q + 1) 1 := by rw [hf _ (by omega), F3 q 1 hq (by decide), t6432]
    have g2 : (f (3 + 323 * q + 2)).toInt32 = I 229 (q + 1) 2 := by rw [hf _ (by omega), F3 q 2 hq (by decide), t6432]
    rw [g0, g1, g2, eW, C6 q hq]
    exact PhR.fc (fun j hj => by rw [hf _ (by omega), F4 q j hq hj, t6432]) (fun b r j hb => (C7 b r j (by omega)).1) (fun b r j hb => (C7 b r j (by omega)).2.2) (hP q hq)
end ImgR
