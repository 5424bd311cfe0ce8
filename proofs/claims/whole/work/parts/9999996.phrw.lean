/-! THE TONGUE: a new phrase stands in the relation. -/
section PhrW
variable {B : Nat → Nat} {n N wn : Nat} {wl : Nat → Nat} {d nn t : Nat} {I J J2 I' : FI} {L L' : FL} {P Q P' : FR} {E E' : FE} {c c' s s' p q : Nat} {A W : Nat}
theorem ls_at {st f : Nat → Int32} : ∀ cs, (∀ j, j < cs.length → st j = J 144 0 j) → stkC J cs → (∀ j, j < 2 * cs.length → f j = J2 245 0 j) → rskR J2 cs → gdL N wn cs → ∀ j, j < cs.length → ∃ x, okc N wn x ∧ st j = stpC x ∧ f (2 * j) = nI x.1 ∧ f (2 * j + 1) = nI x.2
  | [], _, _, _, _, _, j, hj => absurd hj (Nat.not_lt_zero j)
  | x :: t, h1, h2, h3, h4, h5, j, hj => by
    rw [List.length_cons] at h1 h3 hj
    by_cases e : j = t.length
    · subst e
      exact ⟨x, h5.1, (h1 _ (by omega)).trans h2.1, (h3 _ (by omega)).trans h4.1, (h3 _ (by omega)).trans h4.2.1⟩
    · exact ls_at t (fun i hi => h1 i (by omega)) h2.2 (fun i hi => h3 i (by omega)) h4.2.2 h5.2.2 j (by omega)
theorem dlt_n : ∀ m, m < 7 → (if nI m = 0 then (1 : Int) else if nI m = 1 ∨ nI m = 5 ∨ nI m = 6 then 0 else -1) = dlt (m, 0) := by decide +kernel
theorem dlt_2 (m y : Nat) : dlt (m, y) = dlt (m, 0) := rfl
theorem okc_lt {x : Nat × Nat} (h : okc N wn x) : x.1 < 7 := by
  rcases h with h | h | h
  · omega
  · omega
  · omega
theorem ls_pile {f : Nat → Int32} : ∀ cs, (∀ j, j < 2 * cs.length → f j = J2 245 0 j) → rskR J2 cs → gdL N wn cs → pileAt f cs.length = htL cs
  | [], _, _, _ => rfl
  | x :: t, h3, h4, h5 => by
    rw [List.length_cons] at h3
    have ih := ls_pile t (fun i hi => h3 i (by omega)) h4.2.2 h5.2.2
    have ef : f (2 * t.length) = nI x.1 := (h3 _ (by omega)).trans h4.1
    show pileAt f t.length + (if f (2 * t.length) = 0 then 1 else if f (2 * t.length) = 1 ∨ f (2 * t.length) = 5 ∨ f (2 * t.length) = 6 then 0 else -1) = htL t + dlt x
    rw [ih, ef, dlt_n _ (okc_lt h5.1)]
    rfl
theorem ls_ge {f : Nat → Int32} : ∀ cs, (∀ j, j < 2 * cs.length → f j = J2 245 0 j) → rskR J2 cs → gdL N wn cs → ∀ j, 1 ≤ j → j ≤ cs.length → 1 ≤ pileAt f j
  | [], _, _, _, j, h1, h2 => by
    rw [List.length_nil] at h2
    omega
  | x :: t, h3, h4, h5, j, h1, h2 => by
    rw [List.length_cons] at h2
    by_cases e : j = t.length + 1
    · have := ls_pile (x :: t) h3 h4 h5
      rw [List.length_cons] at this
      rw [e, this]
      exact h5.2.1
    · rw [List.length_cons] at h3
      exact ls_ge t (fun i hi => h3 i (by omega)) h4.2.2 h5.2.2 j h1 (by omega)
theorem step_ok (hN : N ≤ 4) (hw : wn ≤ 6) {x : Nat × Nat} (h : okc N wn x) : stepOf (nI x.1) (nI x.2) (stpC x) := by
  obtain ⟨m, y⟩ := x
  rcases h with ⟨rfl, h2⟩ | ⟨h1, rfl⟩ | ⟨h1, h2⟩
  · have h3 : y < N := h2
    exact .inl ⟨rfl, y, rfl, by omega, rfl⟩
  · have h3 : m = 1 ∨ m = 2 ∨ m = 3 ∨ m = 4 := h1
    rcases h3 with rfl | rfl | rfl | rfl
    · exact .inr (.inl ⟨rfl, rfl⟩)
    · exact .inr (.inr (.inl ⟨rfl, rfl⟩))
    · exact .inr (.inr (.inr (.inl ⟨rfl, rfl⟩)))
    · exact .inr (.inr (.inr (.inr (.inl ⟨rfl, rfl⟩))))
  · have h3 : m = 5 ∨ m = 6 := h1
    have h4 : y < wn := h2
    rcases h3 with rfl | rfl
    · exact .inr (.inr (.inr (.inr (.inr (.inl ⟨rfl, y, rfl, by omega, rfl⟩)))))
    · exact .inr (.inr (.inr (.inr (.inr (.inr ⟨rfl, rfl⟩)))))
theorem PhR.mk' {c1 : List (Nat × Nat)} {f : Nat → Int32} (hN : N ≤ 4) (hw : wn ≤ 6) (h487 : 487 ≤ p) (hp : p + 1 < c') (hE : E p = (1, 5, 0, 0)) (hP : P p 0 0 = some (p + 1, 0)) (hE2 : E (p + 1) = (2, 0, c1.length, 0)) (hl : c1.length ≤ 150) (hl1 : 1 ≤ c1.length) (hA : A < 16) (hW : W < 64) (hI : I p 0 1 = nI (A + 16 * W)) (hs : ∀ j, j < c1.length → I (p + 1) 0 j = J 144 0 j) (h2 : stkC J c1) (h3 : ∀ j, j < 2 * c1.length → f j = J2 245 0 j) (h4 : rskR J2 c1) (h5 : gdL N wn c1) (h6 : htL c1 = 1) : PhR I P E c' wn (some (p, 0)) (nI c1.length) (nI A) (nI W) f := by
  refine .inr ⟨p, p + 1, c1.length, A, W, rfl, h487, by omega, hE, hP, by omega, hp, hE2, hl, hl1, rfl, rfl, hA, rfl, hW, hI, fun j hj => ?_, fun j hj e => ?_, fun j j1 j2 => ls_ge c1 h3 h4 h5 j j1 j2, (ls_pile c1 h3 h4 h5).trans h6⟩
  · obtain ⟨x, x1, x2, x3, x4⟩ := ls_at c1 hs h2 h3 h4 h5 j hj
    rw [x3, x4, x2]
    exact step_ok hN hw x1
  · obtain ⟨x, x1, x2, x3, x4⟩ := ls_at c1 hs h2 h3 h4 h5 j hj
    rw [x3] at e
    refine ⟨x.2, x4, ?_⟩
    have h7 := okc_lt x1
    have e2 : x.1 = 5 ∨ x.1 = 6 := e.imp (fun g => (nI_eq (b := 5) (by omega) (by decide)).mp g) (fun g => (nI_eq (b := 6) (by omega) (by decide)).mp g)
    rcases x1 with ⟨g1, g2⟩ | ⟨g1, g2⟩ | ⟨g1, g2⟩
    · omega
    · omega
    · exact g2
theorem PhR.grow (hI : ∀ b r j, 487 ≤ b → b < c → J b r j = I b r j) (hP : ∀ b r j, 487 ≤ b → b < c → Q b r j = P b r j) (hE : ∀ b, 487 ≤ b → b < c → E' b = E b) (hc : c ≤ c') {ph : Option (Nat × Nat)} {x y w : Int32} {f g : Nat → Int32} (hf : ∀ j, j < 320 → f j = g j) (h : PhR I P E c wn ph x y w f) : PhR J Q E' c' wn ph x y w g := by
  rcases h with h | ⟨p, q, k, A, W, h1, h2, h3, h4, h5, h6, h7, h8, h9, h10, h11, h12, h13, h14, h15, h16, h17, h18, h19, h20⟩
  · exact .inl h
  · refine .inr ⟨p, q, k, A, W, h1, h2, by omega, (hE p h2 h3).trans h4, (hP p 0 0 h2 h3).trans h5, h6, by omega, (hE q h6 h7).trans h8, h9, h10, h11, h12, h13, h14, h15, (hI p 0 1 h2 h3).trans h16, fun j hj => ?_, fun j hj e => ?_, fun j j1 j2 => ?_, ?_⟩
    · rw [hI q 0 j h6 h7, ← hf (2 * j) (by omega), ← hf (2 * j + 1) (by omega)]
      exact h17 j hj
    · rw [← hf (2 * j) (by omega)] at e
      obtain ⟨u, u1, u2⟩ := h18 j hj e
      exact ⟨u, by rw [← hf (2 * j + 1) (by omega)]; exact u1, u2⟩
    · rw [← pile_congr hf j (by omega)]
      exact h19 j j1 j2
    · rw [← pile_congr hf k h9]
      exact h20
/-- places that the reading of a text keeps -/
def KvA (a j : Nat) : Prop := (a = 100 ∧ (j = 10 ∨ j = 17 ∨ j = 18)) ∨ (103 ≤ a ∧ a ≤ 114) ∨ (127 ≤ a ∧ a ≤ 140) ∨ (146 ≤ a ∧ a ≤ 169) ∨ (a = 186 ∧ 24 ≤ j) ∨ a = 188 ∨ a = 190 ∨ a = 198 ∨ a = 208 ∨ a = 220 ∨ a = 229 ∨ a = 237 ∨ a = 248 ∨ a = 309 ∨ a = 377 ∨ a = 414 ∨ 487 ≤ a
theorem Rl.ph (h : Rl t I L P E c s) (hq : q < 7) (k : ∀ a r j, KvA a j → (a = 229 ∨ a = 237 → r ≠ q + 1) → (a = 135 → j ≠ 7) → a < c → I' a r j = I a r j) (e7 : I' 135 0 7 = I 135 0 7 + 1) (kl : ∀ a r j, a ≠ 486 → a < c → L' a r j = L a r j) (kp : ∀ a r j, a < c → (a = 128 → j ≠ q) → P' a r j = P a r j) (ke : ∀ a, a < c → E' a = E a) (hph : PhR I' P' E' (c + 2) (zW I) (P' 128 0 q) (I' 229 (q + 1) 0) (I' 229 (q + 1) 1) (I' 229 (q + 1) 2) (fun j => I' 237 (q + 1) j)) (hT : RTap I') (hF : RFau I') (hs : s' ≤ s + 200) : Rl (t + 1) I' L' P' E' (c + 2) s' := by
  obtain ⟨⟨a1, a2, a3, a4⟩, h1, h2, h3, h4, h5, h6, h7, h8, h9, h10, h11, h12, h13, h14, h15, h16⟩ := h
  have g : ∀ a r j, KvA a j → a ≠ 229 → a ≠ 237 → a ≠ 135 → a < c → I' a r j = I a r j := fun a r j q1 q2 q3 q4 q5 => k a r j q1 (fun e => by omega) (fun e => absurd e q4) q5
  have kl1 : Kl I I' := fun a r j ha => g a r j (by unfold KvA; omega) (by omega) (by omega) (by omega) (by omega)
  have g487 : ∀ b r j, 487 ≤ b → b < c → I' b r j = I b r j := fun b r j q1 q2 => g b r j (by unfold KvA; omega) (by omega) (by omega) (by omega) q2
  refine ⟨⟨by rw [ke 486 (by omega)]; exact a1, by omega, by omega, by omega⟩, h1.eq (fun r j => g 190 r j (by unfold KvA; omega) (by decide) (by decide) (by decide) (by omega)), h2.eq (fun r j => g 190 r j (by unfold KvA; omega) (by decide) (by decide) (by decide) (by omega)) (fun r j => g 103 r j (by unfold KvA; omega) (by decide) (by decide) (by decide) (by omega)) (g 127 0 0 (by unfold KvA; omega) (by decide) (by decide) (by decide) (by omega)) (kl 103 0 5 (by decide) (by omega)), h3.ld kl1, h4.ld kl1, h5.ld kl1, h6.eq (fun r j => g 190 r j (by unfold KvA; omega) (by decide) (by decide) (by decide) (by omega)) (g 186 0 24 (by unfold KvA; omega) (by decide) (by decide) (by decide) (by omega)) (g 127 0 2 (by unfold KvA; omega) (by decide) (by decide) (by decide) (by omega)) (fun a r j ha => g a r j (by unfold KvA; omega) (by omega) (by omega) (by omega) (by omega)) (fun a r j ha => kl a r j (by omega) (by omega)), h7.eq (g 186 0 25 (by unfold KvA; omega) (by decide) (by decide) (by decide) (by omega)) (g 127 0 7 (by unfold KvA; omega) (by decide) (by decide) (by decide) (by omega)) (fun a r j ha => kl a r j (by omega) (by omega)), h8.eq (fun a r j ha => g a r j (by unfold KvA; omega) (by omega) (by omega) (by omega) (by omega)), hT, hF, ?_, ?_, ?_, ?_, ?_, ?_⟩
  · unfold RRef
    rw [g 100 0 17 (by unfold KvA; omega) (by decide) (by decide) (by decide) (by omega), g 100 0 18 (by unfold KvA; omega) (by decide) (by decide) (by decide) (by omega), g 188 0 0 (by unfold KvA; omega) (by decide) (by decide) (by decide) (by omega), g 188 0 1 (by unfold KvA; omega) (by decide) (by decide) (by decide) (by omega)]
    exact h11
  · intro q' hq'
    rw [(lz kl1).2.2.1]
    by_cases e : q' = q
    · subst e
      exact hph
    · have e1 : P' 128 0 q' = P 128 0 q' := kp 128 0 q' (by omega) (fun _ => e)
      have e2 : ∀ j, I' 229 (q' + 1) j = I 229 (q' + 1) j := fun j => k 229 (q' + 1) j (by unfold KvA; omega) (fun _ => by omega) (fun e => absurd e (by decide)) (by omega)
      rw [e1, e2, e2, e2]
      exact PhR.grow g487 (fun b r j q1 q2 => kp b r j q2 (fun e => by omega)) (fun b q1 q2 => ke b q2) (by omega) (fun j _ => (k 237 (q' + 1) j (by unfold KvA; omega) (fun _ => by omega) (fun e => absurd e (by decide)) (by omega)).symm) (h12 q' hq')
  · obtain ⟨m1, m2, m3, m4⟩ := h13
    have e26 : I' 186 0 26 = I 186 0 26 := g 186 0 26 (by unfold KvA; omega) (by decide) (by decide) (by decide) (by omega)
    have z26 : zM I' = zM I := by unfold zM; rw [e26]
    refine ⟨by rw [e26, z26]; exact m1, by rw [z26]; exact m2, by rw [g 100 0 10 (by unfold KvA; omega) (by decide) (by decide) (by decide) (by omega), e26]; exact m3, fun i hi => ?_⟩
    rw [z26] at hi
    have hg : ∀ kk r j, kk < 8 → I' (146 + 8 * i + kk) r j = I (146 + 8 * i + kk) r j := fun kk r j hk => g _ r j (by unfold KvA; omega) (by omega) (by omega) (by omega) (by omega)
    have hgl : ∀ kk r j, kk < 8 → L' (146 + 8 * i + kk) r j = L (146 + 8 * i + kk) r j := fun kk r j hk => kl _ r j (by omega) (by omega)
    have e0 : ∀ r j, I' (146 + 8 * i) r j = I (146 + 8 * i) r j := fun r j => hg 0 r j (by decide)
    have e318 : ∀ r j, L' 318 r j = L 318 r j := fun r j => kl 318 r j (by decide) (by omega)
    obtain ⟨i1, i2, i3, i4, i5⟩ := m4 i hi
    unfold ImR
    rw [(lz kl1).2.2.2.2, (lz kl1).2.2.1]
    simp only [e0, hg 2 _ _ (by decide), hg 3 _ _ (by decide), hg 4 _ _ (by decide), hg 7 _ _ (by decide), hgl 5 _ _ (by decide), hgl 6 _ _ (by decide), e318]
    refine ⟨i1, i2, i3, i4, fun q' hq' => ?_⟩
    rw [kp (146 + 8 * i + 1) 0 q' (by omega) (fun e => by omega)]
    exact PhR.grow g487 (fun b r j q1 q2 => kp b r j q2 (fun e => by omega)) (fun b q1 q2 => ke b q2) (by omega) (fun j _ => rfl) (i5 q' hq')
  · unfold RBit
    simp only [kl 1 _ _ (by decide) (show 1 < c by omega)]
    exact h14
  · exact h15.ren e7 (fun j => g 137 0 j (by unfold KvA; omega) (by decide) (by decide) (by decide) (by omega)) (fun j => g 140 0 j (by unfold KvA; omega) (by decide) (by decide) (by decide) (by omega))
  · obtain ⟨m, n1, n2⟩ := RStm.ld (I' := I') (g 186 0 40 (by unfold KvA; omega) (by decide) (by decide) (by decide) (by omega)) (fun a r j ha => g a r j (by unfold KvA; omega) (by omega) (by omega) (by omega) (by omega)) h16
    exact ⟨m, by omega, n2⟩
/-- a text read in vain -/
theorem Rl.tv (h : Rl t I L P E c s) (k : ∀ a r j, KvA a j → I' a r j = I a r j) (kl : ∀ a r j, a ≠ 486 → L' a r j = L a r j) (hT : RTap I') (hF : RFau I') : Rl (t + 1) I' L' P E c s := by
  obtain ⟨⟨a1, a2, a3, a4⟩, h1, h2, h3, h4, h5, h6, h7, h8, h9, h10, h11, h12, h13, h14, h15, h16⟩ := h
  have kl1 : Kl I I' := fun a r j ha => k a r j (by unfold KvA; omega)
  have ks : Ks I I' := fun a r j ha => k a r j (by unfold KvA; omega)
  have g487 : ∀ b r j, 487 ≤ b → I' b r j = I b r j := fun b r j q1 => k b r j (by unfold KvA; omega)
  refine ⟨⟨a1, a2, by omega, by omega⟩, h1.eq (fun r j => k 190 r j (by unfold KvA; omega)), h2.eq (fun r j => k 190 r j (by unfold KvA; omega)) (fun r j => k 103 r j (by unfold KvA; omega)) (k 127 0 0 (by unfold KvA; omega)) (kl 103 0 5 (by decide)), h3.ld kl1, h4.ld kl1, h5.ld kl1, h6.eq (fun r j => k 190 r j (by unfold KvA; omega)) (k 186 0 24 (by unfold KvA; omega)) (k 127 0 2 (by unfold KvA; omega)) (fun a r j ha => k a r j (by unfold KvA; omega)) (fun a r j ha => kl a r j (by omega)), h7.eq (k 186 0 25 (by unfold KvA; omega)) (k 127 0 7 (by unfold KvA; omega)) (fun a r j ha => kl a r j (by omega)), h8.eq (fun a r j ha => k a r j (by unfold KvA; omega)), hT, hF, ?_, ?_, ?_, ?_, ?_, ?_⟩
  · unfold RRef
    rw [k 100 0 17 (by unfold KvA; omega), k 100 0 18 (by unfold KvA; omega), k 188 0 0 (by unfold KvA; omega), k 188 0 1 (by unfold KvA; omega)]
    exact h11
  · intro q' hq'
    have e2 : ∀ j, I' 229 (q' + 1) j = I 229 (q' + 1) j := fun j => k 229 (q' + 1) j (by unfold KvA; omega)
    have e3 : ∀ j, I' 237 (q' + 1) j = I 237 (q' + 1) j := fun j => k 237 (q' + 1) j (by unfold KvA; omega)
    rw [(lz kl1).2.2.1, e2, e2, e2]
    simp only [e3]
    exact PhR.hi g487 (h12 q' hq')
  · obtain ⟨m1, m2, m3, m4⟩ := h13
    have e26 : I' 186 0 26 = I 186 0 26 := k 186 0 26 (by unfold KvA; omega)
    have z26 : zM I' = zM I := by unfold zM; rw [e26]
    refine ⟨by rw [e26, z26]; exact m1, by rw [z26]; exact m2, by rw [k 100 0 10 (by unfold KvA; omega), e26]; exact m3, fun i hi => ?_⟩
    rw [z26] at hi
    exact ImR.cz (fun b r j hb => k _ r j (by unfold KvA; omega)) (fun b r j hb => kl _ r j (by omega)) (lz kl1).2.2.2.2 (lz kl1).2.2.1 g487 (fun _ _ => rfl) (fun _ _ _ _ => rfl) (fun j => kl 318 _ j (by decide)) (m4 i hi)
  · unfold RBit
    simp only [kl 1 _ _ (by decide)]
    exact h14
  · exact (h15.ss ks (k 135 0 7 (by unfold KvA; omega)) (fun a j ha => k a 0 j (by unfold KvA; omega)) (fun a j ha => kl a 0 j (by omega))).on
  · obtain ⟨m, n1, n2⟩ := RStm.ld (I' := I') (k 186 0 40 (by unfold KvA; omega)) (fun a r j ha => k a r j (by unfold KvA; omega)) h16
    exact ⟨m, by omega, n2⟩
/-- the tape emptied -/
theorem RTap.empty (h1 : I 186 0 1 = 0) (h2 : I 100 0 1 = 0) : RTap I := by
  have z : zT I = 0 := by unfold zT; rw [h1]; decide +kernel
  exact ⟨by rw [z]; exact h1, by omega, by rw [h1, h2], fun k hk => by omega⟩
end PhrW
