/-! PROMISE 3: country, told. -/
section Cotg
variable {d dd n t m q k z : Nat} {I J M : FI} {L K : FL} {P Q : FR} {E : FE} {c s : Nat} {D : Dr}
theorem cI_m1 {x : Nat} (h : cI x ≠ -1) : x < 100000 := Nat.lt_of_not_le fun g => h (by
  unfold cI
  rw [if_neg (by omega)])
theorem cI_ne {x : Nat} (h : x < 100000) : cI x ≠ -1 := by
  rw [cI_t h]
  exact of_decide_eq_false (ne_m1 (by omega))
/-- a new country in the relation -/
theorem Rl.cou (h : Rl t I L P E c s) (hO : OkD D) (hI : dI D < 2 ^ (dN D + dV D)) (hK : LaK D M K Q) (hR : LaR D M) (k : ∀ a r j, (a = 100 ∧ (j = 17 ∨ j = 18)) ∨ a = 188 ∨ (a = 186 ∧ j = 40) ∨ a = 377 ∨ a = 414 ∨ a = 137 ∨ a = 140 → M a r j = I a r j) (kl : ∀ r j, K 1 r j = L 1 r j) (e7 : M 135 0 7 = I 135 0 7 + 1) (h1 : M 186 0 1 = 0) (h3 : M 186 0 3 = -1) : Rl (t + 1) M K Q E c s := by
  obtain ⟨⟨a1, a2, a3, a4⟩, g1, g2, g3, g4, g5, g6, g7, g8, g9, g10, g11, g12, g13, g14, g15, g16⟩ := h
  obtain ⟨⟨b1, b2, b3, b4, b5, b6⟩, O1, O2, O3, O4, O5, O6, O7⟩ := id hO
  obtain ⟨⟨x0, x1, x2, x3, x4, x7, x8, xL⟩, y1, y2, y3, ⟨y4, y5, y6⟩, y7, y8, y9, y10, y11⟩ := hK
  obtain ⟨⟨u0, u1, u2, u3, u4, u5, u6⟩, v1, v2, v3, v4, v5, v6, v7, v8⟩ := hR
  have ez : ∀ {x : Nat}, x < 100 → (nI x).toNatClampNeg = x := fun h => nI_clamp (by omega)
  have hN : zN M = dN D := by unfold zN; rw [u0]; exact ez (by omega)
  have hP : zP M = dP D := by unfold zP; rw [u1]; exact ez (by omega)
  have hW : zW M = dW D := by unfold zW; rw [u2]; exact ez (by omega)
  have hV : zV M = dV D := by unfold zV; rw [u3]; exact ez (by omega)
  have hS : zS M = dI D := by unfold zS; rw [u4]; exact ez (by omega)
  have hB : zB M = dN D + dV D := by unfold zB; rw [hN, hV]
  have zz : (0 : Int32).toNatClampNeg = 0 := rfl
  have hA : zA M = 0 := by unfold zA; rw [v6, zz]
  have hH : zH M = 0 := by unfold zH; rw [v7, zz]
  have hMM : zM M = 0 := by unfold zM; rw [v8, zz]
  have hb : ∀ a b, roN D a b ≤ 9 ∨ roN D a b = 100000 := fun a b => (roN_c hO a b).2.1
  have ho : ∀ a b, a ≠ b → dP D ≤ a ∨ dP D ≤ b → roN D a b = 100000 := fun a b => (roN_c hO a b).2.2
  have ho8 : ∀ a b, a ≠ b → 8 ≤ a ∨ 8 ≤ b → roN D a b = 100000 := fun a b h1 h2 => ho a b h1 (by omega)
  have hle : ∀ a b, roN D a b ≤ 100000 := fun a b => by
    have := hb a b
    omega
  have e8 : ∀ a b, a < dP D → b < dP D → fwN (roN D) 8 a b = fwN (roN D) (dP D) a b := fun a b ha hb' => by
    have := fwN_q ho hle (8 - dP D) a b ha hb'
    rw [show dP D + (8 - dP D) = 8 by omega] at this
    exact this
  refine ⟨⟨a1, a2, by omega, by omega⟩, ⟨⟨by rw [hN]; exact u0, by rw [hN]; exact b1, by rw [hN]; exact b2⟩, ⟨by rw [hP]; exact u1, by rw [hP]; exact b3⟩, ⟨by rw [hW]; exact u2, by rw [hW]; exact b4⟩, ⟨by rw [hV]; exact u3, by rw [hV]; exact b5⟩, ⟨by rw [hS]; exact u4, by rw [hS, hB]; exact hI⟩, by rw [u5, u6]; exact O1⟩, ⟨x0.trans u0.symm, x1.trans u1.symm, x2.trans u2.symm, x3.trans u3.symm, by rw [hB]; exact x4, by rw [hB]; exact xL, y4.trans u4.symm, x7.trans u5.symm, x8.trans u6.symm⟩, ?_, ?_, ?_, ?_, ?_, ?_, RTap.empty h1 y10, y11.trans h3.symm, ?_, ?_, ?_, ?_, ?_, ?_⟩
  · intro w hw
    rw [hW] at hw
    obtain ⟨p1, p2, p3, p4, p5, p6⟩ := y2 w hw
    obtain ⟨o1, o2, o3, o4⟩ := O2 w hw
    rw [hP, hN, v2 w 0 hw (by decide), v2 w 1 hw (by decide), v2 w 2 hw (by decide), v2 w 3 hw (by decide), v2 w 4 hw (by decide), v2 w 5 hw (by decide)]
    exact ⟨⟨p1, p2, p3, p4, p5, p6⟩, o1, o2, o3, o4⟩
  · intro v hv
    rw [hV] at hv
    obtain ⟨p1, p2, p3, p4⟩ := y3 v hv
    rw [hW, v3 v 0 hv (by decide), v3 v 1 hv (by decide), v3 v 2 hv (by decide), v3 v 3 hv (by decide)]
    exact ⟨⟨p1, p2, p3, p4⟩, O4 v hv⟩
  · unfold RFar
    rw [hP]
    refine ⟨fun a b ha hb' => ⟨?_, ?_, ?_⟩, fun a ha => ?_, fun a b k' ha hb' hk' q1 q2 => ?_⟩
    · rw [y1 a b ha hb', v1 a b (by omega) (by omega), e8 a b ha hb']
    · rw [v1 a b (by omega) (by omega)]
      rcases fwN_63 hb (roN_z hO) ho8 (show a < 8 by omega) (show b < 8 by omega) with g | g
      · exact .inr ⟨_, cI_t (by omega), g⟩
      · exact .inl (cI_n g)
    · rw [v1 a b (by omega) (by omega), v1 b a (by omega) (by omega), fwN_s (roN_s hO) 8 a b]
    · rw [v1 a a (by omega) (by omega), fwN_z (roN_z hO) 8 a]
      rfl
    · rw [v1 a b (by omega) (by omega)] at q1
      rw [v1 b k' (by omega) (by omega)] at q2
      rw [v1 a k' (by omega) (by omega)]
      refine cI_ne ?_
      have s1 := cI_m1 q1
      have s2 := cI_m1 q2
      have s3 := fwN_t (roN_z hO) 8 a k' b (by omega)
      rcases fwN_63 hb (roN_z hO) ho8 (show a < 8 by omega) (show b < 8 by omega) with g | g <;> rcases fwN_63 hb (roN_z hO) ho8 (show b < 8 by omega) (show k' < 8 by omega) with g' | g' <;> omega
  · refine ⟨by rw [hA]; exact v6, by rw [hA]; exact Nat.zero_le _, y5.trans v6.symm, fun x hx => ?_⟩
    rw [hA] at hx
    exact absurd hx (Nat.not_lt_zero x)
  · refine ⟨by rw [hH]; exact v7, by rw [hH]; exact Nat.zero_le _, y6.trans v7.symm, fun x hx => ?_⟩
    rw [hH] at hx
    exact absurd hx (Nat.not_lt_zero x)
  · intro b w hb' hw
    rw [y7 (b * 6 + w) (by omega), v5 b w hb' hw]
    exact ⟨rfl, 0, rfl, Nat.zero_le _⟩
  · unfold RRef
    rw [k 100 0 17 (.inl ⟨rfl, .inl rfl⟩), k 100 0 18 (.inl ⟨rfl, .inr rfl⟩), k 188 0 0 (by decide), k 188 0 1 (by decide)]
    exact g11
  · intro q hq
    exact .inl ⟨v4 q hq, y8 q hq⟩
  · refine ⟨by rw [hMM]; exact v8, by rw [hMM]; exact Nat.zero_le _, y9.trans v8.symm, fun i hi => ?_⟩
    rw [hMM] at hi
    exact absurd hi (Nat.not_lt_zero i)
  · unfold RBit
    simp only [kl]
    exact g14
  · exact g15.ren e7 (fun j => k 137 0 j (by omega)) (fun j => k 140 0 j (by omega))
  · obtain ⟨m, n1, n2⟩ := RStm.ld (I' := M) (k 186 0 40 (by omega)) (fun a r j ha => k a r j (by omega)) g16
    exact ⟨m, by omega, n2⟩
/-- the draft's states are of no account -/
theorem Rl.l115 (h : Rl t I L P E c s) (kl : ∀ a r j, a ≠ 115 → K a r j = L a r j) : Rl t I K P E c s := by
  obtain ⟨h0, h1, h2, h3, h4, h5, h6, h7, h8, h9, h10, h11, h12, h13, h14, h15, h16⟩ := h
  refine ⟨h0, h1, ?_, h3, h4, h5, ?_, ?_, h8, h9, h10, h11, h12, ?_, ?_, ?_, h16⟩
  · unfold RLand
    rw [kl 103 _ _ (by decide)]
    exact h2
  · unfold RDia
    simp only [kl 132 _ _ (by decide), kl 316 _ _ (by decide)]
    exact h6
  · unfold RHea
    simp only [kl 133 _ _ (by decide), kl 317 _ _ (by decide)]
    exact h7
  · obtain ⟨m1, m2, m3, m4⟩ := h13
    refine ⟨m1, m2, m3, fun i hi => ?_⟩
    have := m4 i hi
    unfold ImR at this ⊢
    simp only [kl (146 + 8 * i + 5) _ _ (by omega), kl (146 + 8 * i + 6) _ _ (by omega), kl 318 _ _ (by decide)]
    exact this
  · unfold RBit
    simp only [kl 1 _ _ (by decide)]
    exact h14
  · unfold RAlm
    simp only [kl 136 _ _ (by decide), kl 138 _ _ (by decide)]
    exact h15
/-- both sides read a country, in vain -/
theorem cou_f (h : Rl t I L P E c s) (hm : m ≤ zT I) (hr : couR (tpB I) m 61 0 (sk (tpB I) m 0) D0 = .inl (k, z)) (v : Int64) : ∃ (J M : FI) (L' : FL), V PR (d + 6) 129 0 [(0, vR (some (100, 0))), (1, vi (nI m))] [] (mm n I L P E c s) = some (.inl (some (vi (nI k - 10))), mm n J L' P E c s) ∧ V PR (d + 7) 232 28 [(0, vR (some (186, 0))), (1, vi (nI m))] [vi (0 : Int32)] (mm n (up3 J 186 0 0 0) (up3 L' 486 0 0 v) P E c s) = some (.inl (some (vi (nI k - 10))), mm n M (up3 L' 486 0 0 v) P E c s) ∧ (∀ j, J 0 0 j = I 0 0 j) ∧ J 186 0 1 = nI (zT I) ∧ M 186 0 0 = 0 ∧ Rl (t + 1) M (up3 L' 486 0 0 v) P E c s := by
  have hTp := h.2.2.2.2.2.2.2.2.2.1
  have h600 := hTp.2.1
  obtain ⟨J, L', r1, j1, j3, f1, g1⟩ := c_cou_f (d := d) (n := n) h hm hr
  have f0 : ∀ a r j, a ≠ 100 → a ≠ 102 → (a < 115 ∨ 126 < a) → (a = 186 → j ≠ 0) → (up3 J 186 0 0 0) a r j = I a r j := fun a r j q1 q2 q3 q5 => (up3_o (fun g => q5 g.1 g.2.2)).trans (f1 a r j (fun e => absurd e q1) q2 q3)
  obtain ⟨M1, r2, m1, f2⟩ := r_232 (d := d) (n := n) (I := up3 J 186 0 0 0) (L := up3 L' 486 0 0 v) (P := P) (E := E) (c := c) (s := s) (B := tpB I) (m := m) (by omega) (fun k hk => (tp_at hTp (by omega)).1) (fun k hk => (f0 187 0 k (by decide) (by decide) (by decide) (fun e => absurd e (by decide))).trans (tp_at hTp (by omega)).2.1)
  rw [hr] at r2
  obtain ⟨M, r3, m3, f3⟩ := r2
  have fM : ∀ a r j, (a = 100 → j ≠ 1 ∧ j ≠ 3) → a ≠ 102 → (a < 115 ∨ 126 < a) → (a = 186 → 8 < j) → a ≠ 189 → a ≠ 191 → a ≠ 205 → a ≠ 211 → M a r j = I a r j := fun a r j q1 q2 q3 q4 q5 q6 q7 q8 => by
    rw [f3 a r j (fun e => by have := q4 e; omega) q5 q6 q7 q8, f2 a r j (fun e => .inr (q4 e)) q5 q8, up3_o (fun g => by have := q4 g.1; omega)]
    exact f1 a r j q1 q2 q3
  have m100 : ∀ j, M 100 0 j = J 100 0 j := fun j => by
    rw [f3 100 0 j (by omega) (by decide) (by decide) (by decide) (by decide), f2 100 0 j (by omega) (by decide) (by decide)]
    exact up3_a (by decide)
  refine ⟨J, M, L', r1, r3, fun j => f1 0 0 j (by omega) (by decide) (by decide), (f1 186 0 1 (by omega) (by decide) (by decide)).trans hTp.1, ?_, ?_⟩
  · rw [f3 186 0 0 (by omega) (by decide) (by decide) (by decide) (by decide), f2 186 0 0 (by omega) (by decide) (by decide)]
    exact up3_i _ _ _ _ _
  · have hX : Rl t I L' P E c s := by
      have kl : ∀ a r j, a ≠ 115 → L' a r j = L a r j := g1
      exact h.l115 kl
    refine hX.tv (fun a r j ha => ?_) (fun a r j ha => up3_a ha) (RTap.empty ?_ ((m100 1).trans j1)) ?_
    · unfold KvA at ha
      exact fM a r j (fun e => by omega) (by omega) (by omega) (fun e => by omega) (by omega) (by omega) (by omega) (by omega)
    · rw [f3 186 0 1 (by omega) (by decide) (by decide) (by decide) (by decide)]
      exact m1
    · unfold RFau
      rw [m100, j3, m3]
theorem cou_t (h : Rl t I L P E c s) (hm : m ≤ zT I) (hr : couR (tpB I) m 61 0 (sk (tpB I) m 0) D0 = .inr (z, D)) (v : Int64) : ∃ (J M : FI) (L' : FL) (P' : FR), V PR (d + 6) 129 0 [(0, vR (some (100, 0))), (1, vi (nI m))] [] (mm n I L P E c s) = some (.inl (some (vi (nI (dW D)))), mm n J L' P' E c s) ∧ V PR (d + 7) 232 28 [(0, vR (some (186, 0))), (1, vi (nI m))] [vi (0 : Int32)] (mm n (up3 J 186 0 0 0) (up3 L' 486 0 0 v) P' E c s) = some (.inl (some (vi (nI (dW D)))), mm n M (up3 L' 486 0 0 v) P' E c s) ∧ (∀ j, J 0 0 j = I 0 0 j) ∧ J 186 0 1 = nI (zT I) ∧ M 186 0 0 = 0 ∧ Rl (t + 1) M (up3 L' 486 0 0 v) P' E c s := by
  have hTp := h.2.2.2.2.2.2.2.2.2.1
  have h600 := hTp.2.1
  obtain ⟨J, L', P', r1, hK, j7, f1, g1, p1⟩ := c_cou_t (d := d) (n := n) h hm hr
  have f0 : ∀ a r j, a ≠ 100 → a ≠ 102 → (a < 103 ∨ 126 < a) → a ≠ 127 → a ≠ 134 → a ≠ 135 → (a = 186 → j ≠ 0) → (up3 J 186 0 0 0) a r j = I a r j := fun a r j q1 q2 q3 q4 q5 q6 q7 => (up3_o (fun g => q7 g.1 g.2.2)).trans (f1 a r j (fun e => absurd e q1) q2 q3 (fun e => absurd e q4) q5 (fun e => absurd e q6))
  obtain ⟨M1, r2, m1, f2⟩ := r_232 (d := d) (n := n) (I := up3 J 186 0 0 0) (L := up3 L' 486 0 0 v) (P := P') (E := E) (c := c) (s := s) (B := tpB I) (m := m) (by omega) (fun k hk => (tp_at hTp (by omega)).1) (fun k hk => (f0 187 0 k (by decide) (by decide) (by decide) (by decide) (by decide) (by decide) (fun e => absurd e (by decide))).trans (tp_at hTp (by omega)).2.1)
  rw [hr] at r2
  obtain ⟨M, r3, m3, hR, hO, hI, f3⟩ := r2
  have fM : ∀ a r j, (a = 186 → j = 0 ∨ (8 < j ∧ j ≠ 24 ∧ j ≠ 25 ∧ j ≠ 26)) → a ≠ 189 → a ≠ 191 → a ≠ 205 → a ≠ 211 → a ≠ 190 → a ≠ 198 → a ≠ 208 → a ≠ 220 → a ≠ 229 → a ≠ 309 → M a r j = (up3 J 186 0 0 0) a r j := fun a r j q1 q2 q3 q4 q5 q6 q7 q8 q9 q10 q11 => by
    rw [f3 a r j (fun e => by have := q1 e; omega) q2 q3 q4 q5 q6 q7 q8 q9 q10 q11]
    exact f2 a r j (fun e => by have := q1 e; omega) q2 q5
  have fI : ∀ a r j, (a = 186 → 8 < j ∧ j ≠ 24 ∧ j ≠ 25 ∧ j ≠ 26) → (a = 100 → j ≠ 1 ∧ j ≠ 3 ∧ j ≠ 10) → a ≠ 102 → (a < 103 ∨ 126 < a) → a ≠ 127 → a ≠ 134 → a ≠ 135 → a ≠ 189 → a ≠ 191 → a ≠ 205 → a ≠ 211 → a ≠ 190 → a ≠ 198 → a ≠ 208 → a ≠ 220 → a ≠ 229 → a ≠ 309 → M a r j = I a r j := fun a r j q1 p1 p2 p3 p4 p5 p6 q2 q3 q4 q5 q6 q7 q8 q9 q10 q11 => by
    rw [fM a r j (fun e => .inr (q1 e)) q2 q3 q4 q5 q6 q7 q8 q9 q10 q11, up3_o (fun g => by have := q1 g.1; omega)]
    exact f1 a r j p1 p2 p3 (fun e => absurd e p4) p5 (fun e => absurd e p6)
  have fK : ∀ a j, a = 100 ∨ (103 ≤ a ∧ a ≤ 114) ∨ a = 127 ∨ a = 134 ∨ a = 135 → M a 0 j = J a 0 j := fun a j ha => by
    rw [fM a 0 j (by omega) (by omega) (by omega) (by omega) (by omega) (by omega) (by omega) (by omega) (by omega) (by omega) (by omega)]
    exact up3_a (by omega)
  refine ⟨J, M, L', P', r1, r3, fun j => f1 0 0 j (by omega) (by decide) (by decide) (by omega) (by decide) (by omega), (f1 186 0 1 (by omega) (by decide) (by decide) (by omega) (by decide) (by omega)).trans hTp.1, ?_, ?_⟩
  · rw [fM 186 0 0 (by omega) (by decide) (by decide) (by decide) (by decide) (by decide) (by decide) (by decide) (by decide) (by decide) (by decide)]
    exact up3_i _ _ _ _ _
  · refine h.cou hO hI (hK.fx (fun a j ha => fK a j (by omega)) (up3_a (by decide))) hR (fun a r j ha => fI a r j (by omega) (by omega) (by omega) (by omega) (by omega) (by omega) (by omega) (by omega) (by omega) (by omega) (by omega) (by omega) (by omega) (by omega) (by omega) (by omega) (by omega)) (fun r j => (up3_a (by decide)).trans (g1 1 r j (by decide) (by decide))) ((fK 135 7 (by decide)).trans j7) ?_ m3
    rw [f3 186 0 1 (by omega) (by decide) (by decide) (by decide) (by decide) (by decide) (by decide) (by decide) (by decide) (by decide) (by decide)]
    exact m1
theorem g_country (h : Rl t I L P E c s) (hn : 6 * t + 6 ≤ n) (hN : n ≤ 3072) : LGo (d + 60) n t 1 I L P E c s := by
  obtain ⟨⟨hE, hc, -, -⟩, hT, hl, hw, -⟩ := id h
  have hTp := h.2.2.2.2.2.2.2.2.2.1
  have e1 : I 100 0 1 = nI (zT I) := hTp.2.2.1.trans hTp.1
  have h6 := hTp.2.1
  have r1 : (refC 1 I c) 186 0 1 = nI (zT I) := (refC_at hc (by decide) (by decide)).trans hTp.1
  cases g2 : inR (sc I t 1) 0 (nI (zT I)) with
  | true =>
    obtain ⟨m, hm, em⟩ := inR_nat (x := sc I t 1) (W := zT I + 1) (by omega) (by rw [nI_pred]; exact g2)
    have qr : ∀ (d : Nat) (J : FI) (K : FL) (Q : FR) (F : FE) (c s : Nat), J 186 0 1 = nI (zT I) → V PR (d + 1) 232 0 [(0, (vR (some (186, 0)))), (1, (vi (sc I t 1)))] [] (mm n J K Q F c s) = V PR (d + 1) 232 28 [(0, vR (some (186, 0))), (1, vi (nI m))] [vi (0 : Int32)] (mm n (up3 J 186 0 0 0) K Q F c s) := fun d J K Q F c s hJ => by
      have ej : (up3 J 186 0 0 0) 186 0 1 = nI (zT I) := (up3_k (by decide)).trans hJ
      rw [em, k_X12_country_0, c_in, ej, m_in (by omega) (by omega), Vk_v, k_X12_country_15, show (!decide (b2i true = 0)) = true by decide +kernel, cond_true, c_bad0 (thr0 _), Vk_v]
    cases hr : couR (tpB I) m 61 0 (sk (tpB I) m 0) D0 with
    | inl x =>
      obtain ⟨k, z⟩ := x
      obtain ⟨J, M, L', a1, a2, a3, a4, a5, a6⟩ := cou_f (d := d + 52) (n := n) h (by omega) hr (nI k - 10).toInt64
      rw [← em] at a1
      have Bq : V PR (d + 59) 232 0 [(0, (vR (some (186, 0)))), (1, (vi (sc I t 1)))] [] (mm n J (up3 L' 486 0 0 (nI k - 10).toInt64) P E c s) = some (.inl (some (vi (nI k - 10))), mm n M (up3 L' 486 0 0 (nI k - 10).toInt64) P E c s) := by
        rw [qr (d + 58) J _ _ _ _ _ a4]
        exact a2
      exact ⟨_, _, _, _, _, _, ok_1 (d := d + 58) _ hn hN a3 hE hE a1 Bq a5 (up3_i _ _ _ _ _), a6⟩
    | inr x =>
      obtain ⟨z, D⟩ := x
      obtain ⟨J, M, L', P', a1, a2, a3, a4, a5, a6⟩ := cou_t (d := d + 52) (n := n) h (by omega) hr (nI (dW D)).toInt64
      rw [← em] at a1
      have Bq : V PR (d + 59) 232 0 [(0, (vR (some (186, 0)))), (1, (vi (sc I t 1)))] [] (mm n J (up3 L' 486 0 0 (nI (dW D)).toInt64) P' E c s) = some (.inl (some (vi (nI (dW D)))), mm n M (up3 L' 486 0 0 (nI (dW D)).toInt64) P' E c s) := by
        rw [qr (d + 58) J _ _ _ _ _ a4]
        exact a2
      exact ⟨_, _, _, _, _, _, ok_1 (d := d + 58) _ hn hN a3 hE hE a1 Bq a5 (up3_i _ _ _ _ _), a6⟩
  | false =>
    refine rf_1_1 (d := d + 58) 0 h hn hN ?_ ?_
    · rw [k_X11_country_0, e1]
      simp only [c_wantRight_f, Vk_x f_129_18 (show 129 < 332 by decide)]
      unfold inR at g2
      cases q1 : decide (sc I t 1 < 0) with
      | true => rfl
      | false =>
        cases q2 : decide (nI (zT I) < sc I t 1) with
        | true => rfl
        | false => rw [q1, q2] at g2; cases g2
    · have ej : (up3 (refC 1 I c) 186 0 0 0) 186 0 1 = nI (zT I) := (up3_k (by decide)).trans r1
      rw [k_X12_country_0, c_in, ej, g2, Vk_v, k_X12_country_15, show (!decide (b2i false = 0)) = false by decide +kernel, cond_false, c_bad1 (thr0 _) d1f (show (1 : Int32) = nI 1 from rfl) (show 1 < 2 by decide), Vk_v, k_X12_country_28, d1f, cond_false]
      rfl
end Cotg
