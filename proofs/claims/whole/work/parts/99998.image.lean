/-! PROMISE 52: image. -/
section Image
variable {a d n t : Nat} {I J M : FI} {L K N : FL} {P Q : FR} {E : FE} {c s z : Nat}
theorem ImR.cg {g : Nat} {f f' : Nat → Int64} (hI : ∀ k r j, k < 8 → J (g + k) r j = I (g + k) r j) (hL : ∀ k r j, k < 8 → K (g + k) r j = L (g + k) r j) (h190 : ∀ r j, J 190 r j = I 190 r j) (h487 : ∀ b r j, 487 ≤ b → J b r j = I b r j) (hP : ∀ r j, Q (g + 1) r j = P (g + 1) r j) (hP2 : ∀ b r j, 487 ≤ b → Q b r j = P b r j) (hf : ∀ k, f' k = f k) (h : ImR I L P E c g f) : ImR J K Q E c g f' := by
  have ef : f' = f := funext hf
  subst ef
  have eB : zB J = zB I := by unfold zB zN zV; simp only [h190]
  have eW : zW J = zW I := by unfold zW; rw [h190]
  have e0 : ∀ r j, J g r j = I g r j := fun r j => hI 0 r j (by decide)
  obtain ⟨h1, h2, h3, h4, h5⟩ := h
  unfold ImR
  rw [eB, eW]
  simp only [e0, hI 2 _ _ (by decide), hI 3 _ _ (by decide), hI 4 _ _ (by decide), hI 7 _ _ (by decide), hL 5 _ _ (by decide), hL 6 _ _ (by decide), hP]
  exact ⟨h1, h2, h3, h4, fun q hq => PhR.fc (fun _ _ => rfl) h487 hP2 (h5 q hq)⟩
theorem imF_e (h1 : ∀ b r j, (b = 190 ∨ b = 229 ∨ b = 237 ∨ b = 248 ∨ b = 309) → J b r j = I b r j) (h2 : J 186 0 24 = I 186 0 24) (h3 : J 186 0 25 = I 186 0 25) (h4 : ∀ b r j, (b = 316 ∨ b = 317) → K b r j = L b r j) : imF J K = imF I L := by
  funext k
  unfold imF
  rw [h1 190 _ _ (by decide), h2, h3, h1 229 _ _ (by decide), h1 237 _ _ (by decide), h1 248 _ _ (by decide), h1 309 _ _ (by decide), h4 316 _ _ (by decide), h4 317 _ _ (by decide)]
theorem g_image1 {i y : Nat} (hi : i < 3) (hy : y = 146 + 8 * i) (hz : zM I = i) (h : Rl t I L P E c s) (hn : 6 * t + 6 ≤ n) (hN : n ≤ 3072) (hC : CpB y 127 I J L K P Q) (A' : V PR (d + 5) 190 0 [(0, vR (some (100, 0)))] [] (mm n I L P E c s) = some (.inl (some (vi (nI (i + 1)))), mm n (up3 J 100 0 10 (nI (i + 1))) K Q E c s)) : LGo (d + 6) n t 51 I L P E c s := by
  obtain ⟨⟨a1, a2, -, -⟩, hT, hl, hw, hv, hf, hd, hh, ho, -, -, -, hP, hIm, -⟩ := id h
  obtain ⟨m1, m2, m3, m4⟩ := id hIm
  have C7 := hC.2.2.2.2.2.2
  obtain ⟨I3, hI3⟩ : ∃ I3, I3 = up3 (up3 J 100 0 10 (nI (i + 1))) 186 0 0 0 := ⟨_, rfl⟩
  have e3 : ∀ b r j, (b < y ∨ y + 7 < b) → (b = 100 → j ≠ 10) → (b = 186 → j ≠ 0) → I3 b r j = I b r j := fun b r j h1 h2 h3 => by
    rw [hI3, up3_x (fun q => h3 q.1 q.2), up3_x (fun q => h2 q.1 q.2)]
    exact (C7 b r j h1).1
  have eF : imF I3 K = imF I L := imF_e (fun b r j hb => e3 b r j (by omega) (fun e => by omega) (fun e => by omega)) (e3 186 0 24 (by omega) (fun e => by omega) (fun _ => by decide)) (e3 186 0 25 (by omega) (fun e => by omega) (fun _ => by decide)) (fun b r j hb => (C7 b r j (by omega)).2.1)
  have hF := imF_is I3 K
  obtain ⟨J7, N7, r7, w1, w2, w3⟩ := c_movesW (d := d) (n := n) (P := Q) (E := E) (c := c) (s := s) hi hF
  have e26 : J7 186 0 26 = nI i := by
    rw [w1 186 0 26 (fun _ => by decide), e3 186 0 26 (by omega) (fun e => by omega) (fun _ => by decide), m1, hz]
  obtain ⟨M2, hM2⟩ : ∃ M2, M2 = up3 J7 186 0 26 (nI (i + 1)) := ⟨_, rfl⟩
  have eM : ∀ b r j, (b = 186 → j ≠ 26 ∧ j ≠ 27 ∧ j ≠ 0) → (b = 100 → j ≠ 10) → M2 b r j = J b r j := fun b r j h1 h2 => by
    rw [hM2, up3_x (fun q => (h1 q.1).1 q.2), w1 b r j (fun e => (h1 e).2.1), hI3, up3_x (fun q => (h1 q.1).2.2 q.2), up3_x (fun q => h2 q.1 q.2)]
  have eN : ∀ b r j, ¬ (b = 318 ∧ r = i + 1) → N7 b r j = K b r j := w2.2
  have z26 : M2 186 0 26 = nI (i + 1) := by rw [hM2, up3_i]
  have zMM : zM M2 = i + 1 := by unfold zM; rw [z26, nI_clamp (by omega)]
  have e10 : M2 100 0 10 = nI (i + 1) := by
    rw [hM2, up3_a (by decide), w1 100 0 10 (fun e => absurd e (by decide)), hI3, up3_a (by decide), up3_i]
  have ki : Ki I M2 := fun b r j hb => by
    rw [eM b r j (fun e => by omega) (fun e => by omega)]
    exact (C7 b r j (by omega)).1
  have kl : Ki L N7 := fun b r j hb => by
    rw [eN b r j (fun e => by omega)]
    exact (C7 b r j (by omega)).2.1
  have kp : ∀ b r j, (b < 146 ∨ 169 < b) → Q b r j = P b r j := fun b r j hb => (C7 b r j (by omega)).2.2
  have hImg : RImg M2 N7 Q E c := by
    refine ⟨by rw [z26, zMM], by omega, by rw [e10, z26], fun i' hi' => ?_⟩
    rw [zMM] at hi'
    by_cases e : i' = i
    · subst e
      have B := im_new (y := y) (by omega) hT hl hd hh ho hP hC (f := fun j => N7 318 (i' + 1) j) (fun k hk => (w2.1 k hk).trans (congrFun eF k))
      rw [← hy]
      exact ImR.cg (fun k r j hk => eM _ _ _ (fun e => by omega) (fun e => by omega)) (fun k r j hk => eN _ _ _ (fun e => by omega)) (fun r j => eM 190 r j (fun e => absurd e (by decide)) (fun e => absurd e (by decide))) (fun b r j hb => eM b r j (fun e => by omega) (fun e => by omega)) (fun _ _ => rfl) (fun _ _ _ _ => rfl) (fun _ => rfl) B
    · have B := m4 i' (by omega)
      refine ImR.cg (fun k r j hk => ?_) (fun k r j hk => ?_) (fun r j => ?_) (fun b r j hb => ?_) (fun r j => ?_) (fun b r j hb => ?_) (fun k => ?_) B
      · rw [eM _ _ _ (fun e => by omega) (fun e => by omega)]; exact (C7 _ r j (by omega)).1
      · rw [eN _ _ _ (fun e => by omega)]; exact (C7 _ r j (by omega)).2.1
      · rw [eM 190 r j (fun e => absurd e (by decide)) (fun e => absurd e (by decide))]; exact (C7 190 r j (by omega)).1
      · rw [eM b r j (fun e => by omega) (fun e => by omega)]; exact (C7 b r j (by omega)).1
      · exact (C7 _ r j (by omega)).2.2
      · exact (C7 b r j (by omega)).2.2
      · show N7 318 (i' + 1) k = L 318 (i' + 1) k
        rw [eN _ _ _ (fun e => by omega)]
        exact (C7 318 _ k (by omega)).2.1
  have R : V PR (d + 5) 328 0 [(0, vR (some (186, 0)))] [] (mm n (up3 J 100 0 10 (nI (i + 1))) K Q E c s) = some (.inl (some (vi (nI (i + 1)))), mm n M2 N7 Q E c s) := by
    have e26b : (up3 (up3 J 100 0 10 (nI (i + 1))) 186 0 0 0) 186 0 26 = nI i := by
      rw [← hI3, e3 186 0 26 (by omega) (fun e => by omega) (fun _ => by decide), m1, hz]
    have e3' : decide (nI i = (3 : Int32)) = false := decide_eq_false fun q => absurd ((nI_eq (b := 3) (by omega) (by decide)).mp q) (by omega)
    rw [k_X12_image_0, e26b, e3', Bool.not_false, cond_true, inb_nI hi (by decide), cond_true, nI_clamp (by omega), ← hI3, r7, Vk_n, k_X12_image_29, e26, nI_1, up3_i, ← hM2]
  refine ⟨M2, N7, Q, E, c, s, ?_, h.im ki kl kp hImg⟩
  obtain ⟨i1, i2, i3, i4, i5⟩ := sc_in hn hN
  rw [← at6]
  simp only [k_L_law_40_51, A', Vk_v, Nat.reduceAdd, k_L_law_3383, R, k_L_law_3387, decide_true, cond_true]
theorem ph_ok (hP : RPhr I P E c) : ∀ q, q < 7 → P 128 0 q = none ∨ ∃ p, P 128 0 q = some (p, 0) ∧ E p = (1, 5, 0, 0) ∧ 487 ≤ p := fun q hq => by
  rcases hP q hq with ⟨-, g⟩ | ⟨p, _, _, _, _, g1, g2, -, g3, -⟩
  · exact .inl g
  · exact .inr ⟨p, g1, g3, g2⟩
theorem c_image0 (h : Rl t I L P E c s) (hz : zM I = 0) : ∃ (J : FI) (K : FL) (Q : FR), V PR (d + 1) 190 0 [(0, vR (some (100, 0)))] [] (mm n I L P E c s) = some (.inl (some (vi (nI (0 + 1)))), mm n (up3 J 100 0 10 (nI (0 + 1))) K Q E c s) ∧ CpB 146 127 I J L K P Q := by
  obtain ⟨-, -, -, -, -, -, -, -, -, -, -, -, hP, hIm, -⟩ := id h
  have e10 : I 100 0 10 = nI 0 := hIm.2.2.1.trans (hIm.1.trans (by rw [hz]))
  obtain ⟨J, K, Q, r1, hC⟩ := cf_146_127 (d := d) (n := n) (I := I) (L := L) (c := c) (s := s) (ph_ok hP)
  have e2 : J 100 0 10 = nI 0 := ((hC.2.2.2.2.2.2 100 0 10 (by decide)).1).trans e10
  refine ⟨J, K, Q, ?_, hC⟩
  rw [k_X11_image_0, e10, show decide ((3 : Int32) ≤ nI 0) = false by decide +kernel, cond_false, show inb (nI 0) 3 = true by decide +kernel, cond_true, nI_clamp (show 0 < 2 ^ 31 by decide), show RR P 145 0 0 = some (146, 0) from rfl, show (!(Option.isNone (some ((146 : Nat), (0 : Nat))))) = true from rfl, cond_true, k_X11_image_i0_33, r1, Vk_n, k_X11_image_i0_36, e2, nI_1, up3_i]
theorem c_image1 (h : Rl t I L P E c s) (hz : zM I = 1) : ∃ (J : FI) (K : FL) (Q : FR), V PR (d + 1) 190 0 [(0, vR (some (100, 0)))] [] (mm n I L P E c s) = some (.inl (some (vi (nI (1 + 1)))), mm n (up3 J 100 0 10 (nI (1 + 1))) K Q E c s) ∧ CpB 154 127 I J L K P Q := by
  obtain ⟨-, -, -, -, -, -, -, -, -, -, -, -, hP, hIm, -⟩ := id h
  have e10 : I 100 0 10 = nI 1 := hIm.2.2.1.trans (hIm.1.trans (by rw [hz]))
  obtain ⟨J, K, Q, r1, hC⟩ := cf_154_127 (d := d) (n := n) (I := I) (L := L) (c := c) (s := s) (ph_ok hP)
  have e2 : J 100 0 10 = nI 1 := ((hC.2.2.2.2.2.2 100 0 10 (by decide)).1).trans e10
  refine ⟨J, K, Q, ?_, hC⟩
  rw [k_X11_image_0, e10, show decide ((3 : Int32) ≤ nI 1) = false by decide +kernel, cond_false, show inb (nI 1) 3 = true by decide +kernel, cond_true, nI_clamp (show 1 < 2 ^ 31 by decide), show RR P 145 0 1 = some (154, 0) from rfl, show (!(Option.isNone (some ((154 : Nat), (0 : Nat))))) = true from rfl, cond_true, k_X11_image_i1_33, r1, Vk_n, k_X11_image_i1_36, e2, nI_1, up3_i]
theorem c_image2 (h : Rl t I L P E c s) (hz : zM I = 2) : ∃ (J : FI) (K : FL) (Q : FR), V PR (d + 1) 190 0 [(0, vR (some (100, 0)))] [] (mm n I L P E c s) = some (.inl (some (vi (nI (2 + 1)))), mm n (up3 J 100 0 10 (nI (2 + 1))) K Q E c s) ∧ CpB 162 127 I J L K P Q := by
  obtain ⟨-, -, -, -, -, -, -, -, -, -, -, -, hP, hIm, -⟩ := id h
  have e10 : I 100 0 10 = nI 2 := hIm.2.2.1.trans (hIm.1.trans (by rw [hz]))
  obtain ⟨J, K, Q, r1, hC⟩ := cf_162_127 (d := d) (n := n) (I := I) (L := L) (c := c) (s := s) (ph_ok hP)
  have e2 : J 100 0 10 = nI 2 := ((hC.2.2.2.2.2.2 100 0 10 (by decide)).1).trans e10
  refine ⟨J, K, Q, ?_, hC⟩
  rw [k_X11_image_0, e10, show decide ((3 : Int32) ≤ nI 2) = false by decide +kernel, cond_false, show inb (nI 2) 3 = true by decide +kernel, cond_true, nI_clamp (show 2 < 2 ^ 31 by decide), show RR P 145 0 2 = some (162, 0) from rfl, show (!(Option.isNone (some ((162 : Nat), (0 : Nat))))) = true from rfl, cond_true, k_X11_image_i2_33, r1, Vk_n, k_X11_image_i2_36, e2, nI_1, up3_i]
theorem g_image (h : Rl t I L P E c s) (hn : 6 * t + 6 ≤ n) (hN : n ≤ 3072) : LGo (d + 30) n t 51 I L P E c s := by
  obtain ⟨-, -, -, -, -, -, -, -, -, -, -, -, -, hIm, -⟩ := id h
  obtain ⟨m1, m2, m3, -⟩ := hIm
  rcases (show zM I = 0 ∨ zM I = 1 ∨ zM I = 2 ∨ zM I = 3 by omega) with hz | hz | hz | hz
  · obtain ⟨J, K, Q, A, hC⟩ := c_image0 (d := d + 28) (n := n) h hz
    exact g_image1 (d := d + 24) (by decide) rfl hz h hn hN hC A
  · obtain ⟨J, K, Q, A, hC⟩ := c_image1 (d := d + 28) (n := n) h hz
    exact g_image1 (d := d + 24) (by decide) rfl hz h hn hN hC A
  · obtain ⟨J, K, Q, A, hC⟩ := c_image2 (d := d + 28) (n := n) h hz
    exact g_image1 (d := d + 24) (by decide) rfl hz h hn hN hC A
  · have e26 : I 186 0 26 = nI 3 := by rw [m1, hz]
    have e10 : I 100 0 10 = nI 3 := m3.trans e26
    have A : V PR (d + 29) 190 0 [(0, vR (some (100, 0)))] [] (mm n I L P E c s) = some (.inl (some (vi (-1 : Int32))), mm n I L P E c s) := by
      rw [k_X11_image_0, e10, show decide ((3 : Int32) ≤ nI 3) = true by decide +kernel, cond_true]
    have B : V PR (d + 29) 328 0 [(0, vR (some (186, 0)))] [] (mm n I L P E c s) = some (.inl (some (vi (-1 : Int32))), mm n (up3 I 186 0 0 0) L P E c s) := by
      have e : (up3 I 186 0 0 0) 186 0 26 = nI 3 := (up3_k (by decide)).trans e26
      rw [k_X12_image_0, e, show (!decide (nI 3 = (3 : Int32))) = false by decide +kernel, cond_false]
    refine ⟨up3 I 186 0 0 0, L, P, E, c, s, ?_, h.side (Kp.rfl'.up rfl) Kp.rfl' (Kc.rfl'.up rfl) Kc.rfl' (RRef.thr h.2.2.2.2.2.2.2.2.2.2.2.1)⟩
    obtain ⟨i1, i2, i3, i4, i5⟩ := sc_in hn hN
    rw [← at6]
    simp only [k_L_law_40_51, A, Vk_v, Nat.reduceAdd, k_L_law_3383, B, k_L_law_3387, decide_true, cond_true]
end Image
