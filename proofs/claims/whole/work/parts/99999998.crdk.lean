/-! THE COUNTRY: the reference reads a clause (in part written by program). -/
section Crdk
theorem tz_6 : (6 : Int32).toNatClampNeg = 6 := rfl
variable {B : Nat → Nat} {n : Nat} {dd nn : Nat} {I J : FI} {L : FL} {P : FR} {E : FE} {c s p a cl k q z w : Nat} {D : Dr}
theorem ib7_0 : inb (0 : Int32) 7 = true := by decide +kernel
theorem ib7_4 : inb (4 : Int32) 7 = true := by decide +kernel
theorem ib7_5 : inb (5 : Int32) 7 = true := by decide +kernel
theorem ib7_6 : inb (6 : Int32) 7 = true := by decide +kernel
theorem ib4_0 : inb (0 : Int32) 4 = true := by decide +kernel
theorem ib4_1 : inb (1 : Int32) 4 = true := by decide +kernel
theorem ib4_2 : inb (2 : Int32) 4 = true := by decide +kernel
theorem ib4_3 : inb (3 : Int32) 4 = true := by decide +kernel
theorem nI_0' : nI 0 = (0 : Int32) := rfl
theorem seven_n : (!decide ((7 : Int32) = 7)) = false := by decide +kernel
theorem seven_8 : (!decide ((8 : Int32) = 7)) = true := by decide +kernel
/-- atoms -/
theorem cl_s0 (hS : StQ B n I p D cl) : ObR B n cl (V PR (dd + 4) 229 94 [(0, vR (some (186, 0))), (1, vi (nI 0))] [vi (0 : Int32)] (mm nn I L P E c s)) (fun J => mm nn J L P E c s) I (semK B n (bdA B n D p)) := by
  unfold bdA
  rw [semK_nu, k_X12_clause_s0_94]
  refine nuR (dd := dd + 1) (l := 1) (h := 5) hS (by decide) (by decide) hi4 (fun J hJ l0 l1 l2 => ?_) (fun J y k z hd => ?_)
  · rw [k_X12_clause_s0_147, ib7_0, cond_true, tz_0]
    refine (semR (dd := dd + 1) (hJ.dr (fun b r j hb => up3_a (by omega)) ?_)).tr (FxQ.rfl'.v (.inl rfl))
    obtain ⟨⟨x0, x1, x2, x3, x4, x5, x6⟩, y1, y2, y3⟩ := hJ.2.2.2
    exact ⟨⟨up3_i _ _ _ _ _, (up3_k (by decide)).trans x1, (up3_k (by decide)).trans x2, (up3_k (by decide)).trans x3, (up3_k (by decide)).trans x4, (up3_k (by decide)).trans x5, (up3_k (by decide)).trans x6⟩, y1, y2, y3⟩
  · rw [k_X12_clause_s0_147, ib7_0, cond_true, tz_0]
    exact ⟨_, semD (dd := dd + 1) (hd.up (by decide)), hd.up (by decide), FxQ.rfl'.v (.inl rfl)⟩
/-- a place -/
theorem cl_s1 (hS : StQ B n I p D cl) : ObR B n cl (V PR (dd + 4) 229 94 [(0, vR (some (186, 0))), (1, vi (nI 1))] [vi (1 : Int32)] (mm nn I L P E c s)) (fun J => mm nn J L P E c s) I (semK B n (bdP D p)) := by
  unfold bdP
  rw [k_X12_clause_s1_94, hS.2.2.2.1.2.1, nI_1]
  refine (semR (dd := dd + 1) (hS.dr (fun b r j hb => up3_a (by omega)) ?_)).tr (FxQ.rfl'.v (.inl rfl))
  obtain ⟨⟨x0, x1, x2, x3, x4, x5, x6⟩, y1, y2, y3⟩ := hS.2.2.2
  exact ⟨⟨(up3_k (by decide)).trans x0, up3_i _ _ _ _ _, (up3_k (by decide)).trans x2, (up3_k (by decide)).trans x3, (up3_k (by decide)).trans x4, (up3_k (by decide)).trans x5, (up3_k (by decide)).trans x6⟩, y1, y2, y3⟩
/-- a well -/
theorem cl_s2 (hS : StQ B n I p D cl) (hN : dN D ≤ 4) (hP : dP D ≤ 8) (hW : dW D < 6) (h9 : dL D (dW D) 2 = 0 ∧ dL D (dW D) 3 = 0 ∧ dL D (dW D) 4 = -1 ∧ dL D (dW D) 5 = -1) : ObR B n cl (V PR (dd + 4) 229 94 [(0, vR (some (186, 0))), (1, vi (nI 2))] [vi (2 : Int32)] (mm nn I L P E c s)) (fun J => mm nn J L P E c s) I (semK B n (bdW B n D p)) := by
  rw [k_X12_clause_s2_94, hS.2.2.2.1.2.2.1, inb_nI hW (by decide), cond_true, nI_clamp (by omega)]
  obtain ⟨J, r1, p1, f1⟩ := r_230 (dd := dd) (nn := nn) (L := L) (P := P) (E := E) (c := c) (s := s) hS hN hP hW h9
  rw [r1, Vk_n, k_X12_clause_s2_179]
  generalize bdW B n D p = r at *
  cases r with
  | inl x => exact ⟨J, semD (dd := dd + 1) p1, p1, f1⟩
  | inr x => exact (semR (dd := dd + 1) p1).tr f1
theorem DR.vn (h : DR D J) {j : Nat} {x : Int32} : DR D (up3 J 205 (dV D + 1) j x) := ⟨h.1, h.2.1, h.2.2.1, fun v i hv hi => (up3_r (by omega)).trans (h.2.2.2 v i hv hi)⟩
/-- a vein -/
theorem cl_s3 (hS : StQ B n I p D cl) (hW : dW D ≤ 6) (hV : dV D < 2) : ObR B n cl (V PR (dd + 4) 229 94 [(0, vR (some (186, 0))), (1, vi (nI 3))] [vi (3 : Int32)] (mm nn I L P E c s)) (fun J => mm nn J L P E c s) I (semK B n (bdV B n D p)) := by
  have A : ∀ (J : FI) (i : Int32), inb i 4 = true → arrOk (mm nn J L P E c s) 205 (dV D + 1) 0 i = true := fun J i hi => by rw [aro_205, blt_t hV, hi]; rfl
  have D4 : ∀ (J : FI) (y : Int32) (k z : Nat), DeR B n J k z → ∃ J', V PR (dd + 4) 229 242 [(0, vR (some (186, 0)))] [vi y, vi (3 : Int32), vR (some (205, dV D + 1))] (mm nn J L P E c s) = some (.inl none, mm nn J' L P E c s) ∧ DeR B n J' k z ∧ FxQ J J' := fun J y k z hd => by
    rw [k_X12_clause_s3_242, A _ _ ib4_3, cond_true, tz_3, (hd.up (b := 205) (by decide)).d, cond_true]
    exact ⟨_, semD (dd := dd + 1) ((hd.up (by decide)).up (by decide)), (hd.up (by decide)).up (by decide), (FxQ.rfl'.v (.inr (.inr (.inl rfl)))).v (.inl rfl)⟩
  have D3 : ∀ (J : FI) (y : Int32) (k z : Nat), DeR B n J k z → ∃ J', V PR (dd + 4) 229 229 [(0, vR (some (186, 0))), (2, vR (some (205, dV D + 1)))] [vi y, vi (2 : Int32), vR (some (205, dV D + 1))] (mm nn J L P E c s) = some (.inl none, mm nn J' L P E c s) ∧ DeR B n J' k z ∧ FxQ J J' := fun J y k z hd => by
    have h1 : DeR B n (up3 J 205 (dV D + 1) 2 y) k z := hd.up (by decide)
    obtain ⟨J', r1, d1, f1⟩ := D4 _ 0 k z h1
    rw [k_X12_clause_s3_229, A _ _ ib4_2, cond_true, cond_true, tz_2, r_number_dead h1.d, Vk_v]
    exact ⟨J', r1, d1, (FxQ.rfl'.v (.inr (.inr (.inl rfl)))).tr f1⟩
  have D2 : ∀ (J : FI) (y : Int32) (k z : Nat), DeR B n J k z → ∃ J', V PR (dd + 4) 229 218 [(0, vR (some (186, 0))), (2, vR (some (205, dV D + 1)))] [vi y, vi (1 : Int32), vR (some (205, dV D + 1))] (mm nn J L P E c s) = some (.inl none, mm nn J' L P E c s) ∧ DeR B n J' k z ∧ FxQ J J' := fun J y k z hd => by
    have h1 : DeR B n (up3 J 205 (dV D + 1) 1 y) k z := hd.up (by decide)
    obtain ⟨J', r1, d1, f1⟩ := D3 _ 0 k z h1
    rw [k_X12_clause_s3_218, A _ _ ib4_1, cond_true, tz_1, r_number_dead h1.d, Vk_v]
    exact ⟨J', r1, d1, (FxQ.rfl'.v (.inr (.inr (.inl rfl)))).tr f1⟩
  unfold bdV
  rw [semK_nu, k_X12_clause_s3_94, hS.2.2.2.1.2.2.2.1, inb_nI hV (by decide), cond_true, nI_clamp (by omega)]
  refine weR hS hW (fun J hJ g1 l2 => ?_) (fun J y k z hd => ?_)
  · show ObR B n cl _ _ _ (semK B n (otK B n _ _ _ _))
    have S1 : StQ B n (up3 J 205 (dV D + 1) 0 (nI (nuV B n p))) (sk B n (dg B n p)) D cl := hJ.dr (fun b r j hb => up3_a (by omega)) hJ.2.2.2.vn
    rw [semK_ot, k_X12_clause_s3_200, A _ _ ib4_0, cond_true, cond_true, tz_0, up3_i, S1.2.2.2.1.2.2.1]
    have v1 := nuV_lt (B := B) (n := n) (p := p)
    refine ObR.tr (FxQ.rfl'.v (.inr (.inr (.inl rfl)))) (otR S1 (by omega) (by omega) (fun J2 hJ2 g2 l3 l4 => ?_) (fun J2 y k z hd => D2 J2 y k z hd))
    show ObR B n cl _ _ _ (semK B n (nuK B n _ _ _ _))
    have S2 : StQ B n (up3 J2 205 (dV D + 1) 1 (nI (nuV B n (sk B n (dg B n p))))) (sk B n (dg B n (sk B n (dg B n p)))) D cl := hJ2.dr (fun b r j hb => up3_a (by omega)) hJ2.2.2.2.vn
    rw [semK_nu, k_X12_clause_s3_218, A _ _ ib4_1, cond_true, tz_1, show (0 : Int32) = nI 0 from rfl]
    refine ObR.tr (FxQ.rfl'.v (.inr (.inr (.inl rfl)))) (nuR (dd := dd + 1) (l := 0) (h := 365) S2 (by decide) (by decide) hi364 (fun J3 hJ3 g3 l5 l6 => ?_) (fun J3 y k z hd => D3 J3 y k z hd))
    show ObR B n cl _ _ _ (semK B n (nuK B n _ _ _ _))
    have S3 : StQ B n (up3 J3 205 (dV D + 1) 2 (nI (nuV B n (sk B n (dg B n (sk B n (dg B n p))))))) (sk B n (dg B n (sk B n (dg B n (sk B n (dg B n p)))))) D cl := hJ3.dr (fun b r j hb => up3_a (by omega)) hJ3.2.2.2.vn
    rw [semK_nu, k_X12_clause_s3_229, A _ _ ib4_2, cond_true, cond_true, tz_2, up3_i]
    refine ObR.tr (FxQ.rfl'.v (.inr (.inr (.inl rfl)))) (nuR (dd := dd + 1) (l := nuV B n (sk B n (dg B n (sk B n (dg B n p))))) (h := 365) S3 (by omega) (by decide) hi364 (fun J4 hJ4 g4 l7 l8 => ?_) (fun J4 y k z hd => D4 J4 y k z hd))
    generalize nuV B n p = k at *
    generalize nuV B n (sk B n (dg B n p)) = j at *
    generalize nuV B n (sk B n (dg B n (sk B n (dg B n p)))) = f at *
    generalize nuV B n (sk B n (dg B n (sk B n (dg B n (sk B n (dg B n p)))))) = t at *
    have h5 : (up3 J4 205 (dV D + 1) 3 (nI t)) 186 0 5 = 0 := by
      obtain ⟨⟨a, hA, -⟩, -⟩ := hJ4
      exact (up3_a (by decide)).trans hA.2.2.2
    have h3 : (up3 J4 205 (dV D + 1) 3 (nI t)) 189 0 3 + 1 = nI (dV D + 1) := by rw [up3_a (by decide), hJ4.2.2.2.1.2.2.2.1, nI_1]
    rw [k_X12_clause_s3_242, A _ _ ib4_3, cond_true, tz_3, h5, n0t, cond_false, h3]
    refine (semR (dd := dd + 1) (hJ4.dr (fun b r j hb => by rw [up3_a (by omega), up3_a (by omega)]) ?_)).tr ((FxQ.rfl'.v (.inr (.inr (.inl rfl)))).v (.inl rfl))
    obtain ⟨⟨x0, x1, x2, x3, x4, x5, x6⟩, y1, y2, y3⟩ := hJ4.2.2.2
    have u : ∀ i, i ≠ 3 → (up3 (up3 J4 205 (dV D + 1) 3 (nI t)) 189 0 3 (nI (dV D + 1))) 189 0 i = J4 189 0 i := fun i hi => (up3_k hi).trans (up3_a (by decide))
    refine ⟨⟨(u 0 (by decide)).trans x0, (u 1 (by decide)).trans x1, (u 2 (by decide)).trans x2, up3_i _ _ _ _ _, (u 4 (by decide)).trans x4, (u 5 (by decide)).trans x5, (u 6 (by decide)).trans x6⟩, y1, y2, fun v i hv hi => ?_⟩
    have hv2 : v < dV D + 1 := hv
    show _ = st2 (st2 (st2 (st2 (dE D) (dV D) 0 (nI k)) (dV D) 1 (nI j)) (dV D) 2 (nI f)) (dV D) 3 (nI t) v i
    rw [up3_a (show 205 ≠ 189 by decide)]
    by_cases e : v = dV D
    · subst e
      rcases (show i = 0 ∨ i = 1 ∨ i = 2 ∨ i = 3 by omega) with rfl | rfl | rfl | rfl
      · rw [st2_o (by omega), st2_o (by omega), st2_o (by omega), st2_i, up3_k (by decide), g4 205 _ _ (by decide), up3_k (by decide), g3 205 _ _ (by decide), up3_k (by decide), g2 205 _ _ (by decide), up3_i]
      · rw [st2_o (by omega), st2_o (by omega), st2_i, up3_k (by decide), g4 205 _ _ (by decide), up3_k (by decide), g3 205 _ _ (by decide), up3_i]
      · rw [st2_o (by omega), st2_i, up3_k (by decide), g4 205 _ _ (by decide), up3_i]
      · rw [st2_i, up3_i]
    · have o : ∀ (g : Nat → Nat → Int32) (b : Nat) (x : Int32) (i : Nat), st2 g (dV D) b x v i = g v i := fun g b x i => st2_o (fun w => e w.1)
      rw [o, o, o, o, up3_r (by omega)]
      exact y3 v i (by omega) hi
  · have h1 : DeR B n (up3 J 205 (dV D + 1) 0 y) k z := hd.up (by decide)
    obtain ⟨J', r1, d1, f1⟩ := D2 _ 0 k z h1
    rw [k_X12_clause_s3_200, A _ _ ib4_0, cond_true, cond_true, tz_0, r_other_dead h1, Vk_v]
    exact ⟨J', r1, d1, (FxQ.rfl'.v (.inr (.inr (.inl rfl)))).tr f1⟩
/-- the state that is -/
theorem cl_s4 (hS : StQ B n I p D cl) : ObR B n cl (V PR (dd + 4) 229 94 [(0, vR (some (186, 0))), (1, vi (nI 4))] [vi (4 : Int32)] (mm nn I L P E c s)) (fun J => mm nn J L P E c s) I (semK B n (bdI B n D p)) := by
  unfold bdI
  rw [semK_nu, k_X12_clause_s4_94, show (0 : Int32) = nI 0 from rfl]
  refine nuR (dd := dd + 1) (l := 0) (h := 64) hS (by decide) (by decide) hi63 (fun J hJ l0 l1 l2 => ?_) (fun J y k z hd => ?_)
  · rw [k_X12_clause_s4_279, ib7_4, cond_true, tz_4]
    refine (semR (dd := dd + 1) (hJ.dr (fun b r j hb => up3_a (by omega)) ?_)).tr (FxQ.rfl'.v (.inl rfl))
    obtain ⟨⟨x0, x1, x2, x3, x4, x5, x6⟩, y1, y2, y3⟩ := hJ.2.2.2
    exact ⟨⟨(up3_k (by decide)).trans x0, (up3_k (by decide)).trans x1, (up3_k (by decide)).trans x2, (up3_k (by decide)).trans x3, up3_i _ _ _ _ _, (up3_k (by decide)).trans x5, (up3_k (by decide)).trans x6⟩, y1, y2, y3⟩
  · rw [k_X12_clause_s4_279, ib7_4, cond_true, tz_4]
    exact ⟨_, semD (dd := dd + 1) (hd.up (by decide)), hd.up (by decide), FxQ.rfl'.v (.inl rfl)⟩
/-- frost -/
theorem cl_s5 (hS : StQ B n I p D cl) : ObR B n cl (V PR (dd + 4) 229 94 [(0, vR (some (186, 0))), (1, vi (nI 5))] [vi (5 : Int32)] (mm nn I L P E c s)) (fun J => mm nn J L P E c s) I (semK B n (bdF B n D p)) := by
  have D2 : ∀ (J : FI) (y : Int32) (k z : Nat), DeR B n J k z → ∃ J', V PR (dd + 4) 229 316 [(0, vR (some (186, 0)))] [vi y, vi (6 : Int32), vR (some (189, 0))] (mm nn J L P E c s) = some (.inl none, mm nn J' L P E c s) ∧ DeR B n J' k z ∧ FxQ J J' := fun J y k z hd => by
    rw [k_X12_clause_s5_316, ib7_6, cond_true, tz_6]
    exact ⟨_, semD (dd := dd + 1) (hd.up (by decide)), hd.up (by decide), FxQ.rfl'.v (.inl rfl)⟩
  unfold bdF
  rw [semK_nu, k_X12_clause_s5_94, show (0 : Int32) = nI 0 from rfl]
  refine nuR (dd := dd + 1) (l := 0) (h := 365) hS (by decide) (by decide) hi364 (fun J hJ l0 l1 l2 => ?_) (fun J y k z hd => ?_)
  · show ObR B n cl _ _ _ (semK B n (nuK B n _ _ _ _))
    have e5 : (up3 J 189 0 5 (nI (nuV B n p))) 189 0 5 = nI (nuV B n p) := up3_i _ _ _ _ _
    obtain ⟨x1, x2, x3, x4⟩ := id hJ
    have S1 : StQ B n (up3 J 189 0 5 (nI (nuV B n p))) (sk B n (dg B n p)) (D.1, (nI (nuV B n p), dG D), D.2.2) cl := hJ.dr (fun b r j hb => up3_a (by omega)) (by
      obtain ⟨⟨x0, x1, x2, x3, x4, x5, x6⟩, y1, y2, y3⟩ := hJ.2.2.2
      exact ⟨⟨(up3_k (by decide)).trans x0, (up3_k (by decide)).trans x1, (up3_k (by decide)).trans x2, (up3_k (by decide)).trans x3, (up3_k (by decide)).trans x4, up3_i _ _ _ _ _, (up3_k (by decide)).trans x6⟩, y1, y2, y3⟩)
    rw [semK_nu, k_X12_clause_s5_296, ib7_5, cond_true, tz_5, e5]
    refine ObR.tr (FxQ.rfl'.v (.inl rfl)) (nuR (dd := dd + 1) (l := nuV B n p) (h := 365) S1 (by omega) (by decide) hi364 (fun J2 hJ2 g0 l3 l4 => ?_) (fun J2 y k z hd => D2 J2 y k z hd))
    rw [k_X12_clause_s5_316, ib7_6, cond_true, tz_6]
    refine (semR (dd := dd + 1) (hJ2.dr (fun b r j hb => up3_a (by omega)) ?_)).tr (FxQ.rfl'.v (.inl rfl))
    obtain ⟨⟨x0, x1, x2, x3, x4, x5, x6⟩, y1, y2, y3⟩ := hJ2.2.2.2
    exact ⟨⟨(up3_k (by decide)).trans x0, (up3_k (by decide)).trans x1, (up3_k (by decide)).trans x2, (up3_k (by decide)).trans x3, (up3_k (by decide)).trans x4, (up3_k (by decide)).trans x5, up3_i _ _ _ _ _⟩, y1, y2, y3⟩
  · have h1 : DeR B n (up3 J 189 0 5 y) k z := hd.up (by decide)
    obtain ⟨J', r1, d1, f1⟩ := D2 _ 0 k z h1
    rw [k_X12_clause_s5_296, ib7_5, cond_true, tz_5, r_number_dead h1.d, Vk_v]
    exact ⟨J', r1, d1, (FxQ.rfl'.v (.inl rfl)).tr f1⟩
/-- a road -/
theorem cl_s6 (hS : StQ B n I p D cl) (hP : dP D ≤ 8) : ObR B n cl (V PR (dd + 4) 229 94 [(0, vR (some (186, 0))), (1, vi (nI 6))] [vi (6 : Int32)] (mm nn I L P E c s)) (fun J => mm nn J L P E c s) I (semK B n (bdR B n D p)) := by
  have D3 : ∀ (x2 x3 : Int32) (J : FI) (y : Int32) (k z : Nat), DeR B n J k z → ∃ J', V PR (dd + 4) 229 355 [(0, vR (some (186, 0))), (2, vi x2), (3, vi x3)] [vi y] (mm nn J L P E c s) = some (.inl none, mm nn J' L P E c s) ∧ DeR B n J' k z ∧ FxQ J J' := fun x2 x3 J y k z hd => by
    rw [k_X12_clause_s6_355, hd.f, cond_false]
    exact ⟨_, semD (dd := dd + 1) hd, hd, FxQ.rfl'⟩
  have D2 : ∀ (x2 : Int32) (J : FI) (y : Int32) (k z : Nat), DeR B n J k z → ∃ J', V PR (dd + 4) 229 347 [(0, vR (some (186, 0))), (2, vi x2)] [vi y] (mm nn J L P E c s) = some (.inl none, mm nn J' L P E c s) ∧ DeR B n J' k z ∧ FxQ J J' := fun x2 J y k z hd => by
    obtain ⟨J', r1, d1, f1⟩ := D3 x2 y J 0 k z hd
    rw [k_X12_clause_s6_347, r_number_dead hd.d, Vk_v]
    exact ⟨J', r1, d1, f1⟩
  unfold bdR
  rw [semK_nu, k_X12_clause_s6_94, hS.2.2.2.1.2.1, show (0 : Int32) = nI 0 from rfl]
  refine nuR (dd := dd + 1) (l := 0) (h := dP D) hS (by decide) (by omega) (hiO_p (by omega)) (fun J hJ g1 l1 l2 => ?_) (fun J y k z hd => ?_)
  · show ObR B n cl _ _ _ (semK B n (otK B n _ _ _ _))
    have v1 := nuV_lt (B := B) (n := n) (p := p)
    rw [semK_ot, k_X12_clause_s6_333, hJ.2.2.2.1.2.1]
    refine otR hJ (by omega) (by omega) (fun J2 hJ2 g2 l3 l4 => ?_) (fun J2 y k z hd => D2 _ J2 y k z hd)
    show ObR B n cl _ _ _ (semK B n (nuK B n _ _ _ _))
    rw [semK_nu, k_X12_clause_s6_347, show (1 : Int32) = nI 1 from rfl]
    refine nuR (dd := dd + 1) (l := 1) (h := 10) hJ2 (by decide) (by decide) hi9 (fun J3 hJ3 g3 l5 l6 => ?_) (fun J3 y k z hd => D3 _ _ J3 y k z hd)
    generalize nuV B n p = a at *
    generalize nuV B n (sk B n (dg B n p)) = b at *
    generalize nuV B n (sk B n (dg B n (sk B n (dg B n p)))) = h at *
    have h5 : J3 186 0 5 = 0 := by
      obtain ⟨⟨a, hA, -⟩, -⟩ := hJ3
      exact hA.2.2.2
    have A : ∀ (J : FI) (i j : Nat), i < 8 → j < 8 → arrOk (mm nn J L P E c s) 211 (i + 1) 0 (nI j) = true := fun J i j hi hj => by rw [aro_211, blt_t hi, inb_nI hj (by decide)]; rfl
    have ha : a < 8 := by omega
    have hb : b < 8 := by omega
    rw [k_X12_clause_s6_355, h5, d0t, cond_true, inb_nI ha (by decide), cond_true, nI_clamp (show a < 2 ^ 31 by omega), A _ _ _ ha hb, cond_true, inb_nI hb (by decide), cond_true, nI_clamp (show b < 2 ^ 31 by omega), A _ _ _ hb ha, cond_true]
    refine (semR (dd := dd + 1) (hJ3.dr (fun b r j hb => by rw [up3_a (by omega), up3_a (by omega)]) ?_)).tr ((FxQ.rfl'.v (.inr (.inr (.inr rfl)))).v (.inr (.inr (.inr rfl))))
    obtain ⟨x, y1, y2, y3⟩ := hJ3.2.2.2
    refine ⟨x, fun i j hi hj => ?_, y2, y3⟩
    show _ = st2 (st2 (dR D) a b (nI h)) b a (nI h) i j
    by_cases q1 : i = b ∧ j = a
    · obtain ⟨rfl, rfl⟩ := q1
      rw [up3_i, st2_i]
    · rw [up3_o (by omega), st2_o q1]
      by_cases q2 : i = a ∧ j = b
      · obtain ⟨rfl, rfl⟩ := q2
        rw [up3_i, st2_i]
      · rw [up3_o (by omega), st2_o q2]
        exact y1 i j hi hj
  · obtain ⟨J', r1, d1, f1⟩ := D2 y J 0 k z hd
    rw [k_X12_clause_s6_333, r_other_dead hd, Vk_v]
    exact ⟨J', r1, d1, f1⟩
/-- lies -/
theorem cl_s7 (hS : StQ B n I p D cl) (hW : dW D ≤ 6) : ObR B n cl (V PR (dd + 4) 229 94 [(0, vR (some (186, 0))), (1, vi (nI 7))] [vi (7 : Int32)] (mm nn I L P E c s)) (fun J => mm nn J L P E c s) I (semK B n (bdL B n D p)) := by
  rw [show nI 7 = (7 : Int32) from rfl]
  have D3 : ∀ (x2 x3 : Int32) (J : FI) (y : Int32) (k z : Nat), DeR B n J k z → ∃ J', V PR (dd + 4) 229 455 [(0, vR (some (186, 0))), (1, vi (7 : Int32)), (2, vi x2), (3, vi x3)] [vi y] (mm nn J L P E c s) = some (.inl none, mm nn J' L P E c s) ∧ DeR B n J' k z ∧ FxQ J J' := fun x2 x3 J y k z hd => by
    rw [k_X12_clause_s7_455, hd.f, cond_false]
    exact ⟨_, semD (dd := dd + 1) hd, hd, FxQ.rfl'⟩
  have D2 : ∀ (x2 : Int32) (J : FI) (y : Int32) (k z : Nat), DeR B n J k z → ∃ J', V PR (dd + 4) 229 424 [(0, vR (some (186, 0))), (1, vi (7 : Int32)), (2, vi x2)] [vi y] (mm nn J L P E c s) = some (.inl none, mm nn J' L P E c s) ∧ DeR B n J' k z ∧ FxQ J J' := fun x2 J y k z hd => by
    obtain ⟨J', r1, d1, f1⟩ := D3 x2 y J 0 k z hd
    rw [k_X12_clause_s7_424, seven_n, cond_false, cond_false, r_number_dead hd.d, Vk_v]
    exact ⟨J', r1, d1, f1⟩
  unfold bdL
  rw [semK_nu, k_X12_clause_s7_94]
  refine weR hS hW (fun J hJ g1 l2 => ?_) (fun J y k z hd => ?_)
  · show ObR B n cl _ _ _ (semK B n (nuK B n _ _ _ _))
    have v1 := nuV_lt (B := B) (n := n) (p := p)
    rw [semK_nu, k_X12_clause_s7_394, seven_n, cond_false, cond_false, show (1 : Int32) = nI 1 from rfl]
    refine nuR (dd := dd + 1) (l := 1) (h := 31) hJ (by decide) (by decide) hi30 (fun J2 hJ2 g2 l3 l4 => ?_) (fun J2 y k z hd => D2 _ J2 y k z hd)
    show ObR B n cl _ _ _ (semK B n (nuK B n _ _ _ _))
    rw [semK_nu, k_X12_clause_s7_424, seven_n, cond_false, cond_false, show (0 : Int32) = nI 0 from rfl]
    refine nuR (dd := dd + 1) (l := 0) (h := nuV B n (sk B n (dg B n p))) hJ2 (by omega) (by omega) (hiO_p (by omega)) (fun J3 hJ3 g3 l5 l6 => ?_) (fun J3 y k z hd => D3 _ _ J3 y k z hd)
    generalize nuV B n p = w at *
    generalize nuV B n (sk B n (dg B n p)) = a at *
    generalize nuV B n (sk B n (dg B n (sk B n (dg B n p)))) = b at *
    have h5 : J3 186 0 5 = 0 := by
      obtain ⟨⟨a, hA, -⟩, -⟩ := hJ3
      exact hA.2.2.2
    have hw : w < 6 := by omega
    have A : ∀ (J : FI) (i : Int32), inb i 6 = true → arrOk (mm nn J L P E c s) 191 (w + 1) 0 i = true := fun J i hi => by rw [aro_191, blt_t hw, hi]; rfl
    rw [k_X12_clause_s7_455, h5, d0t, cond_true, inb_nI hw (by decide), cond_true, seven_n, cond_false, nI_clamp (show w < 2 ^ 31 by omega), A _ _ ib6_2, cond_true, cond_true, cond_false, A _ _ ib6_3, cond_true, tz_2, tz_3]
    refine (semR (dd := dd + 1) (hJ3.dr (fun b r j hb => by rw [up3_a (by omega), up3_a (by omega)]) ?_)).tr ((FxQ.rfl'.v (.inr (.inl rfl))).v (.inr (.inl rfl)))
    obtain ⟨x, y1, y2, y3⟩ := hJ3.2.2.2
    refine ⟨x, y1, fun i j hi hj => ?_, y3⟩
    show _ = st2 (st2 (dL D) w 2 (nI a)) w 3 (nI b) i j
    by_cases q1 : i = w ∧ j = 3
    · obtain ⟨rfl, rfl⟩ := q1
      rw [up3_i, st2_i]
    · rw [up3_o (by omega), st2_o q1]
      by_cases q2 : i = w ∧ j = 2
      · obtain ⟨rfl, rfl⟩ := q2
        rw [up3_i, st2_i]
      · rw [up3_o (by omega), st2_o q2]
        exact y2 i j hi hj
  · obtain ⟨J', r1, d1, f1⟩ := D2 y J 0 k z hd
    rw [k_X12_clause_s7_394, seven_n, cond_false, cond_false, r_number_dead hd.d, Vk_v]
    exact ⟨J', r1, d1, f1⟩
/-- dry -/
theorem cl_s8 (hS : StQ B n I p D cl) (hW : dW D ≤ 6) : ObR B n cl (V PR (dd + 4) 229 94 [(0, vR (some (186, 0))), (1, vi (nI 8))] [vi (8 : Int32)] (mm nn I L P E c s)) (fun J => mm nn J L P E c s) I (semK B n (bdD B n D p)) := by
  rw [show nI 8 = (8 : Int32) from rfl]
  have D3 : ∀ (x2 x3 : Int32) (J : FI) (y : Int32) (k z : Nat), DeR B n J k z → ∃ J', V PR (dd + 4) 229 455 [(0, vR (some (186, 0))), (1, vi (8 : Int32)), (2, vi x2), (3, vi x3)] [vi y] (mm nn J L P E c s) = some (.inl none, mm nn J' L P E c s) ∧ DeR B n J' k z ∧ FxQ J J' := fun x2 x3 J y k z hd => by
    rw [k_X12_clause_s8_455, hd.f, cond_false]
    exact ⟨_, semD (dd := dd + 1) hd, hd, FxQ.rfl'⟩
  have D2 : ∀ (x2 : Int32) (J : FI) (y : Int32) (k z : Nat), DeR B n J k z → ∃ J', V PR (dd + 4) 229 424 [(0, vR (some (186, 0))), (1, vi (8 : Int32)), (2, vi x2)] [vi y] (mm nn J L P E c s) = some (.inl none, mm nn J' L P E c s) ∧ DeR B n J' k z ∧ FxQ J J' := fun x2 J y k z hd => by
    obtain ⟨J', r1, d1, f1⟩ := D3 x2 y J 0 k z hd
    rw [k_X12_clause_s8_424, seven_8, cond_true, cond_true, r_number_dead hd.d, Vk_v]
    exact ⟨J', r1, d1, f1⟩
  unfold bdD
  rw [semK_nu, k_X12_clause_s8_94]
  refine weR hS hW (fun J hJ g1 l2 => ?_) (fun J y k z hd => ?_)
  · show ObR B n cl _ _ _ (semK B n (nuK B n _ _ _ _))
    have v1 := nuV_lt (B := B) (n := n) (p := p)
    rw [semK_nu, k_X12_clause_s8_394, seven_8, cond_true, cond_true, show (0 : Int32) = nI 0 from rfl]
    refine nuR (dd := dd + 1) (l := 0) (h := 365) hJ (by decide) (by decide) hi364 (fun J2 hJ2 g2 l3 l4 => ?_) (fun J2 y k z hd => D2 _ J2 y k z hd)
    show ObR B n cl _ _ _ (semK B n (nuK B n _ _ _ _))
    rw [semK_nu, k_X12_clause_s8_424, seven_8, cond_true, cond_true]
    refine nuR (dd := dd + 1) (l := nuV B n (sk B n (dg B n p))) (h := 365) hJ2 (by omega) (by omega) hi364 (fun J3 hJ3 g3 l5 l6 => ?_) (fun J3 y k z hd => D3 _ _ J3 y k z hd)
    generalize nuV B n p = w at *
    generalize nuV B n (sk B n (dg B n p)) = a at *
    generalize nuV B n (sk B n (dg B n (sk B n (dg B n p)))) = b at *
    have h5 : J3 186 0 5 = 0 := by
      obtain ⟨⟨a, hA, -⟩, -⟩ := hJ3
      exact hA.2.2.2
    have hw : w < 6 := by omega
    have A : ∀ (J : FI) (i : Int32), inb i 6 = true → arrOk (mm nn J L P E c s) 191 (w + 1) 0 i = true := fun J i hi => by rw [aro_191, blt_t hw, hi]; rfl
    rw [k_X12_clause_s8_455, h5, d0t, cond_true, inb_nI hw (by decide), cond_true, seven_8, cond_true, nI_clamp (show w < 2 ^ 31 by omega), A _ _ ib6_4, cond_true, cond_true, cond_true, A _ _ ib6_5, cond_true, tz_4, tz_5]
    refine (semR (dd := dd + 1) (hJ3.dr (fun b r j hb => by rw [up3_a (by omega), up3_a (by omega)]) ?_)).tr ((FxQ.rfl'.v (.inr (.inl rfl))).v (.inr (.inl rfl)))
    obtain ⟨x, y1, y2, y3⟩ := hJ3.2.2.2
    refine ⟨x, y1, fun i j hi hj => ?_, y3⟩
    show _ = st2 (st2 (dL D) w 4 (nI a)) w 5 (nI b) i j
    by_cases q1 : i = w ∧ j = 5
    · obtain ⟨rfl, rfl⟩ := q1
      rw [up3_i, st2_i]
    · rw [up3_o (by omega), st2_o q1]
      by_cases q2 : i = w ∧ j = 4
      · obtain ⟨rfl, rfl⟩ := q2
        rw [up3_i, st2_i]
      · rw [up3_o (by omega), st2_o q2]
        exact y2 i j hi hj
  · obtain ⟨J', r1, d1, f1⟩ := D2 y J 0 k z hd
    rw [k_X12_clause_s8_394, seven_8, cond_true, cond_true, r_number_dead hd.d, Vk_v]
    exact ⟨J', r1, d1, f1⟩
/-- the reference's number of a kind -/
def krV (k : Nat) : Int32 := match k with
  | 0 => 0
  | 1 => 1
  | 2 => 6
  | 3 => 2
  | 4 => 7
  | 5 => 8
  | 6 => 3
  | 7 => 5
  | 8 => 4
  | _ => -1
theorem pc_inj : ∀ i, i < 11 → 2 ≤ i → ∀ j, j < 11 → 2 ≤ j → nI (cd27 (fun x => (prgT i).getD x 0 - 96) (prgT i).length) = nI (cd27 (fun x => (prgT j).getD x 0 - 96) (prgT j).length) → i = j := by decide +kernel
theorem isW_ex {i j : Nat} (hi : i < 11) (hi2 : 2 ≤ i) (hj : j < 11) (hj2 : 2 ≤ j) (hne : i ≠ j) (h : isW B n p (prgT i) = true) : isW B n p (prgT j) = false := by
  cases hx : isW B n p (prgT j) with
  | false => rfl
  | true =>
    rw [← cd_isW hi2 (by omega), decide_eq_true_eq] at h
    rw [← cd_isW hj2 (by omega), decide_eq_true_eq] at hx
    exact absurd (pc_inj i hi hi2 j hj hj2 (h.symm.trans hx)) hne
theorem kr_226 (hA : AtR B n I a) : V PR (dd + 4) 226 0 [(0, vR (some (186, 0)))] [] (mm nn I L P E c s) = some (.inl (some (vi (krV (kdC B n (sk B n a))))), mm nn (up3 I 186 0 4 (nI (sk B n a))) L P E c s) := by
  have c3 : ∀ nn : Nat, V PR (dd + 3) 221 0 [(0, vR (some (186, 0))), (1, vi (16 : Int32)), (2, vi (12 : Int32)), (3, vi (1 : Int32)), (4, vi (3 : Int32)), (5, vi (5 : Int32))] [] (mm nn (up3 I 186 0 4 (nI (sk B n a))) L P E c s) = some (.inl (some (vi (b2i (isW B n (sk B n a) (prgT 3))))), mm nn (up3 I 186 0 4 (nI (sk B n a))) L P E c s) := fun nn => by
    have e := rw_3 (d := dd) (nn := nn) (L := L) (P := P) (E := E) (c := c) (s := s) hA.sk
    rw [at_same hA.sk (sk_bl _), sk_sk] at e
    exact e
  have c5 : ∀ nn : Nat, V PR (dd + 3) 221 0 [(0, vR (some (186, 0))), (1, vi (23 : Int32)), (2, vi (5 : Int32)), (3, vi (12 : Int32)), (4, vi (12 : Int32)), (5, vi (0 : Int32))] [] (mm nn (up3 I 186 0 4 (nI (sk B n a))) L P E c s) = some (.inl (some (vi (b2i (isW B n (sk B n a) (prgT 5))))), mm nn (up3 I 186 0 4 (nI (sk B n a))) L P E c s) := fun nn => by
    have e := rw_5 (d := dd) (nn := nn) (L := L) (P := P) (E := E) (c := c) (s := s) hA.sk
    rw [at_same hA.sk (sk_bl _), sk_sk] at e
    exact e
  have c8 : ∀ nn : Nat, V PR (dd + 3) 221 0 [(0, vR (some (186, 0))), (1, vi (22 : Int32)), (2, vi (5 : Int32)), (3, vi (9 : Int32)), (4, vi (14 : Int32)), (5, vi (0 : Int32))] [] (mm nn (up3 I 186 0 4 (nI (sk B n a))) L P E c s) = some (.inl (some (vi (b2i (isW B n (sk B n a) (prgT 8))))), mm nn (up3 I 186 0 4 (nI (sk B n a))) L P E c s) := fun nn => by
    have e := rw_8 (d := dd) (nn := nn) (L := L) (P := P) (E := E) (c := c) (s := s) hA.sk
    rw [at_same hA.sk (sk_bl _), sk_sk] at e
    exact e
  have c10 : ∀ nn : Nat, V PR (dd + 3) 221 0 [(0, vR (some (186, 0))), (1, vi (9 : Int32)), (2, vi (19 : Int32)), (3, vi (0 : Int32)), (4, vi (0 : Int32)), (5, vi (0 : Int32))] [] (mm nn (up3 I 186 0 4 (nI (sk B n a))) L P E c s) = some (.inl (some (vi (b2i (isW B n (sk B n a) (prgT 10))))), mm nn (up3 I 186 0 4 (nI (sk B n a))) L P E c s) := fun nn => by
    have e := rw_10 (d := dd) (nn := nn) (L := L) (P := P) (E := E) (c := c) (s := s) hA.sk
    rw [at_same hA.sk (sk_bl _), sk_sk] at e
    exact e
  have c9 : ∀ nn : Nat, V PR (dd + 3) 221 0 [(0, vR (some (186, 0))), (1, vi (6 : Int32)), (2, vi (18 : Int32)), (3, vi (15 : Int32)), (4, vi (19 : Int32)), (5, vi (20 : Int32))] [] (mm nn (up3 I 186 0 4 (nI (sk B n a))) L P E c s) = some (.inl (some (vi (b2i (isW B n (sk B n a) (prgT 9))))), mm nn (up3 I 186 0 4 (nI (sk B n a))) L P E c s) := fun nn => by
    have e := rw_9 (d := dd) (nn := nn) (L := L) (P := P) (E := E) (c := c) (s := s) hA.sk
    rw [at_same hA.sk (sk_bl _), sk_sk] at e
    exact e
  have c4 : ∀ nn : Nat, V PR (dd + 3) 221 0 [(0, vR (some (186, 0))), (1, vi (18 : Int32)), (2, vi (15 : Int32)), (3, vi (1 : Int32)), (4, vi (4 : Int32)), (5, vi (0 : Int32))] [] (mm nn (up3 I 186 0 4 (nI (sk B n a))) L P E c s) = some (.inl (some (vi (b2i (isW B n (sk B n a) (prgT 4))))), mm nn (up3 I 186 0 4 (nI (sk B n a))) L P E c s) := fun nn => by
    have e := rw_4 (d := dd) (nn := nn) (L := L) (P := P) (E := E) (c := c) (s := s) hA.sk
    rw [at_same hA.sk (sk_bl _), sk_sk] at e
    exact e
  have c6 : ∀ nn : Nat, V PR (dd + 3) 221 0 [(0, vR (some (186, 0))), (1, vi (12 : Int32)), (2, vi (9 : Int32)), (3, vi (5 : Int32)), (4, vi (19 : Int32)), (5, vi (0 : Int32))] [] (mm nn (up3 I 186 0 4 (nI (sk B n a))) L P E c s) = some (.inl (some (vi (b2i (isW B n (sk B n a) (prgT 6))))), mm nn (up3 I 186 0 4 (nI (sk B n a))) L P E c s) := fun nn => by
    have e := rw_6 (d := dd) (nn := nn) (L := L) (P := P) (E := E) (c := c) (s := s) hA.sk
    rw [at_same hA.sk (sk_bl _), sk_sk] at e
    exact e
  have c7 : ∀ nn : Nat, V PR (dd + 3) 221 0 [(0, vR (some (186, 0))), (1, vi (4 : Int32)), (2, vi (18 : Int32)), (3, vi (25 : Int32)), (4, vi (0 : Int32)), (5, vi (0 : Int32))] [] (mm nn (up3 I 186 0 4 (nI (sk B n a))) L P E c s) = some (.inl (some (vi (b2i (isW B n (sk B n a) (prgT 7))))), mm nn (up3 I 186 0 4 (nI (sk B n a))) L P E c s) := fun nn => by
    have e := rw_7 (d := dd) (nn := nn) (L := L) (P := P) (E := E) (c := c) (s := s) hA.sk
    rw [at_same hA.sk (sk_bl _), sk_sk] at e
    exact e
  cases e2 : isW B n (sk B n a) (prgT 2) with
  | true =>
    have e3 : isW B n (sk B n a) (prgT 3) = false := isW_ex (i := 2) (by decide) (by decide) (by decide) (by decide) (by decide) e2
    have e4 : isW B n (sk B n a) (prgT 4) = false := isW_ex (i := 2) (by decide) (by decide) (by decide) (by decide) (by decide) e2
    have e5 : isW B n (sk B n a) (prgT 5) = false := isW_ex (i := 2) (by decide) (by decide) (by decide) (by decide) (by decide) e2
    have e6 : isW B n (sk B n a) (prgT 6) = false := isW_ex (i := 2) (by decide) (by decide) (by decide) (by decide) (by decide) e2
    have e7 : isW B n (sk B n a) (prgT 7) = false := isW_ex (i := 2) (by decide) (by decide) (by decide) (by decide) (by decide) e2
    have e8 : isW B n (sk B n a) (prgT 8) = false := isW_ex (i := 2) (by decide) (by decide) (by decide) (by decide) (by decide) e2
    have e9 : isW B n (sk B n a) (prgT 9) = false := isW_ex (i := 2) (by decide) (by decide) (by decide) (by decide) (by decide) e2
    have e10 : isW B n (sk B n a) (prgT 10) = false := isW_ex (i := 2) (by decide) (by decide) (by decide) (by decide) (by decide) e2
    have hk : kdC B n (sk B n a) = 0 := by
      unfold kdC
      simp only [e2, e3, e4, e5, e6, e7, e8, e9, e10, cond_true, cond_false]
    rw [hk, k_X12_kindHere_0, rw_2 hA, Vk_v, k_X12_kindHere_13, b2i_eq0, e2, Bool.not_true, cond_false]
    rfl
  | false =>
    cases e3 : isW B n (sk B n a) (prgT 3) with
    | true =>
      have e4 : isW B n (sk B n a) (prgT 4) = false := isW_ex (i := 3) (by decide) (by decide) (by decide) (by decide) (by decide) e3
      have e5 : isW B n (sk B n a) (prgT 5) = false := isW_ex (i := 3) (by decide) (by decide) (by decide) (by decide) (by decide) e3
      have e6 : isW B n (sk B n a) (prgT 6) = false := isW_ex (i := 3) (by decide) (by decide) (by decide) (by decide) (by decide) e3
      have e7 : isW B n (sk B n a) (prgT 7) = false := isW_ex (i := 3) (by decide) (by decide) (by decide) (by decide) (by decide) e3
      have e8 : isW B n (sk B n a) (prgT 8) = false := isW_ex (i := 3) (by decide) (by decide) (by decide) (by decide) (by decide) e3
      have e9 : isW B n (sk B n a) (prgT 9) = false := isW_ex (i := 3) (by decide) (by decide) (by decide) (by decide) (by decide) e3
      have e10 : isW B n (sk B n a) (prgT 10) = false := isW_ex (i := 3) (by decide) (by decide) (by decide) (by decide) (by decide) e3
      have hk : kdC B n (sk B n a) = 1 := by
        unfold kdC
        simp only [e2, e3, e4, e5, e6, e7, e8, e9, e10, cond_true, cond_false]
      rw [hk, k_X12_kindHere_0, rw_2 hA, Vk_v, k_X12_kindHere_13, b2i_eq0, e2, Bool.not_false, cond_true, c3, Vk_v, k_X12_kindHere_29, b2i_eq0, e3, Bool.not_true, cond_false]
      rfl
    | false =>
      cases e4 : isW B n (sk B n a) (prgT 4) with
      | true =>
        have e5 : isW B n (sk B n a) (prgT 5) = false := isW_ex (i := 4) (by decide) (by decide) (by decide) (by decide) (by decide) e4
        have e6 : isW B n (sk B n a) (prgT 6) = false := isW_ex (i := 4) (by decide) (by decide) (by decide) (by decide) (by decide) e4
        have e7 : isW B n (sk B n a) (prgT 7) = false := isW_ex (i := 4) (by decide) (by decide) (by decide) (by decide) (by decide) e4
        have e8 : isW B n (sk B n a) (prgT 8) = false := isW_ex (i := 4) (by decide) (by decide) (by decide) (by decide) (by decide) e4
        have e9 : isW B n (sk B n a) (prgT 9) = false := isW_ex (i := 4) (by decide) (by decide) (by decide) (by decide) (by decide) e4
        have e10 : isW B n (sk B n a) (prgT 10) = false := isW_ex (i := 4) (by decide) (by decide) (by decide) (by decide) (by decide) e4
        have hk : kdC B n (sk B n a) = 2 := by
          unfold kdC
          simp only [e2, e3, e4, e5, e6, e7, e8, e9, e10, cond_true, cond_false]
        rw [hk, k_X12_kindHere_0, rw_2 hA, Vk_v, k_X12_kindHere_13, b2i_eq0, e2, Bool.not_false, cond_true, c3, Vk_v, k_X12_kindHere_29, b2i_eq0, e3, Bool.not_false, cond_true, c5, Vk_v, k_X12_kindHere_46, b2i_eq0, e5, Bool.not_false, cond_true, c8, Vk_v, k_X12_kindHere_63, b2i_eq0, e8, Bool.not_false, cond_true, c10, Vk_v, k_X12_kindHere_79, b2i_eq0, e10, Bool.not_false, cond_true, c9, Vk_v, k_X12_kindHere_98, b2i_eq0, e9, Bool.not_false, cond_true, c4, Vk_v, k_X12_kindHere_114, b2i_eq0, e4, Bool.not_true, cond_false]
        rfl
      | false =>
        cases e5 : isW B n (sk B n a) (prgT 5) with
        | true =>
          have e6 : isW B n (sk B n a) (prgT 6) = false := isW_ex (i := 5) (by decide) (by decide) (by decide) (by decide) (by decide) e5
          have e7 : isW B n (sk B n a) (prgT 7) = false := isW_ex (i := 5) (by decide) (by decide) (by decide) (by decide) (by decide) e5
          have e8 : isW B n (sk B n a) (prgT 8) = false := isW_ex (i := 5) (by decide) (by decide) (by decide) (by decide) (by decide) e5
          have e9 : isW B n (sk B n a) (prgT 9) = false := isW_ex (i := 5) (by decide) (by decide) (by decide) (by decide) (by decide) e5
          have e10 : isW B n (sk B n a) (prgT 10) = false := isW_ex (i := 5) (by decide) (by decide) (by decide) (by decide) (by decide) e5
          have hk : kdC B n (sk B n a) = 3 := by
            unfold kdC
            simp only [e2, e3, e4, e5, e6, e7, e8, e9, e10, cond_true, cond_false]
          rw [hk, k_X12_kindHere_0, rw_2 hA, Vk_v, k_X12_kindHere_13, b2i_eq0, e2, Bool.not_false, cond_true, c3, Vk_v, k_X12_kindHere_29, b2i_eq0, e3, Bool.not_false, cond_true, c5, Vk_v, k_X12_kindHere_46, b2i_eq0, e5, Bool.not_true, cond_false]
          rfl
        | false =>
          cases e6 : isW B n (sk B n a) (prgT 6) with
          | true =>
            have e7 : isW B n (sk B n a) (prgT 7) = false := isW_ex (i := 6) (by decide) (by decide) (by decide) (by decide) (by decide) e6
            have e8 : isW B n (sk B n a) (prgT 8) = false := isW_ex (i := 6) (by decide) (by decide) (by decide) (by decide) (by decide) e6
            have e9 : isW B n (sk B n a) (prgT 9) = false := isW_ex (i := 6) (by decide) (by decide) (by decide) (by decide) (by decide) e6
            have e10 : isW B n (sk B n a) (prgT 10) = false := isW_ex (i := 6) (by decide) (by decide) (by decide) (by decide) (by decide) e6
            have hk : kdC B n (sk B n a) = 4 := by
              unfold kdC
              simp only [e2, e3, e4, e5, e6, e7, e8, e9, e10, cond_true, cond_false]
            rw [hk, k_X12_kindHere_0, rw_2 hA, Vk_v, k_X12_kindHere_13, b2i_eq0, e2, Bool.not_false, cond_true, c3, Vk_v, k_X12_kindHere_29, b2i_eq0, e3, Bool.not_false, cond_true, c5, Vk_v, k_X12_kindHere_46, b2i_eq0, e5, Bool.not_false, cond_true, c8, Vk_v, k_X12_kindHere_63, b2i_eq0, e8, Bool.not_false, cond_true, c10, Vk_v, k_X12_kindHere_79, b2i_eq0, e10, Bool.not_false, cond_true, c9, Vk_v, k_X12_kindHere_98, b2i_eq0, e9, Bool.not_false, cond_true, c4, Vk_v, k_X12_kindHere_114, b2i_eq0, e4, Bool.not_false, cond_true, c6, Vk_v, k_X12_kindHere_132, b2i_eq0, e6, Bool.not_true, cond_false]
            rfl
          | false =>
            cases e7 : isW B n (sk B n a) (prgT 7) with
            | true =>
              have e8 : isW B n (sk B n a) (prgT 8) = false := isW_ex (i := 7) (by decide) (by decide) (by decide) (by decide) (by decide) e7
              have e9 : isW B n (sk B n a) (prgT 9) = false := isW_ex (i := 7) (by decide) (by decide) (by decide) (by decide) (by decide) e7
              have e10 : isW B n (sk B n a) (prgT 10) = false := isW_ex (i := 7) (by decide) (by decide) (by decide) (by decide) (by decide) e7
              have hk : kdC B n (sk B n a) = 5 := by
                unfold kdC
                simp only [e2, e3, e4, e5, e6, e7, e8, e9, e10, cond_true, cond_false]
              rw [hk, k_X12_kindHere_0, rw_2 hA, Vk_v, k_X12_kindHere_13, b2i_eq0, e2, Bool.not_false, cond_true, c3, Vk_v, k_X12_kindHere_29, b2i_eq0, e3, Bool.not_false, cond_true, c5, Vk_v, k_X12_kindHere_46, b2i_eq0, e5, Bool.not_false, cond_true, c8, Vk_v, k_X12_kindHere_63, b2i_eq0, e8, Bool.not_false, cond_true, c10, Vk_v, k_X12_kindHere_79, b2i_eq0, e10, Bool.not_false, cond_true, c9, Vk_v, k_X12_kindHere_98, b2i_eq0, e9, Bool.not_false, cond_true, c4, Vk_v, k_X12_kindHere_114, b2i_eq0, e4, Bool.not_false, cond_true, c6, Vk_v, k_X12_kindHere_132, b2i_eq0, e6, Bool.not_false, cond_true, c7, Vk_v, k_X12_kindHere_149, b2i_eq0, e7, Bool.not_true, cond_false]
              rfl
            | false =>
              cases e8 : isW B n (sk B n a) (prgT 8) with
              | true =>
                have e9 : isW B n (sk B n a) (prgT 9) = false := isW_ex (i := 8) (by decide) (by decide) (by decide) (by decide) (by decide) e8
                have e10 : isW B n (sk B n a) (prgT 10) = false := isW_ex (i := 8) (by decide) (by decide) (by decide) (by decide) (by decide) e8
                have hk : kdC B n (sk B n a) = 6 := by
                  unfold kdC
                  simp only [e2, e3, e4, e5, e6, e7, e8, e9, e10, cond_true, cond_false]
                rw [hk, k_X12_kindHere_0, rw_2 hA, Vk_v, k_X12_kindHere_13, b2i_eq0, e2, Bool.not_false, cond_true, c3, Vk_v, k_X12_kindHere_29, b2i_eq0, e3, Bool.not_false, cond_true, c5, Vk_v, k_X12_kindHere_46, b2i_eq0, e5, Bool.not_false, cond_true, c8, Vk_v, k_X12_kindHere_63, b2i_eq0, e8, Bool.not_true, cond_false]
                rfl
              | false =>
                cases e9 : isW B n (sk B n a) (prgT 9) with
                | true =>
                  have e10 : isW B n (sk B n a) (prgT 10) = false := isW_ex (i := 9) (by decide) (by decide) (by decide) (by decide) (by decide) e9
                  have hk : kdC B n (sk B n a) = 7 := by
                    unfold kdC
                    simp only [e2, e3, e4, e5, e6, e7, e8, e9, e10, cond_true, cond_false]
                  rw [hk, k_X12_kindHere_0, rw_2 hA, Vk_v, k_X12_kindHere_13, b2i_eq0, e2, Bool.not_false, cond_true, c3, Vk_v, k_X12_kindHere_29, b2i_eq0, e3, Bool.not_false, cond_true, c5, Vk_v, k_X12_kindHere_46, b2i_eq0, e5, Bool.not_false, cond_true, c8, Vk_v, k_X12_kindHere_63, b2i_eq0, e8, Bool.not_false, cond_true, c10, Vk_v, k_X12_kindHere_79, b2i_eq0, e10, Bool.not_false, cond_true, c9, Vk_v, k_X12_kindHere_98, b2i_eq0, e9, Bool.not_true, cond_false]
                  rfl
                | false =>
                  cases e10 : isW B n (sk B n a) (prgT 10) with
                  | true =>
                    have hk : kdC B n (sk B n a) = 8 := by
                      unfold kdC
                      simp only [e2, e3, e4, e5, e6, e7, e8, e9, e10, cond_true, cond_false]
                    rw [hk, k_X12_kindHere_0, rw_2 hA, Vk_v, k_X12_kindHere_13, b2i_eq0, e2, Bool.not_false, cond_true, c3, Vk_v, k_X12_kindHere_29, b2i_eq0, e3, Bool.not_false, cond_true, c5, Vk_v, k_X12_kindHere_46, b2i_eq0, e5, Bool.not_false, cond_true, c8, Vk_v, k_X12_kindHere_63, b2i_eq0, e8, Bool.not_false, cond_true, c10, Vk_v, k_X12_kindHere_79, b2i_eq0, e10, Bool.not_true, cond_false]
                    rfl
                  | false =>
                    have hk : kdC B n (sk B n a) = 9 := by
                      unfold kdC
                      simp only [e2, e3, e4, e5, e6, e7, e8, e9, e10, cond_true, cond_false]
                    rw [hk, k_X12_kindHere_0, rw_2 hA, Vk_v, k_X12_kindHere_13, b2i_eq0, e2, Bool.not_false, cond_true, c3, Vk_v, k_X12_kindHere_29, b2i_eq0, e3, Bool.not_false, cond_true, c5, Vk_v, k_X12_kindHere_46, b2i_eq0, e5, Bool.not_false, cond_true, c8, Vk_v, k_X12_kindHere_63, b2i_eq0, e8, Bool.not_false, cond_true, c10, Vk_v, k_X12_kindHere_79, b2i_eq0, e10, Bool.not_false, cond_true, c9, Vk_v, k_X12_kindHere_98, b2i_eq0, e9, Bool.not_false, cond_true, c4, Vk_v, k_X12_kindHere_114, b2i_eq0, e4, Bool.not_false, cond_true, c6, Vk_v, k_X12_kindHere_132, b2i_eq0, e6, Bool.not_false, cond_true, c7, Vk_v, k_X12_kindHere_149, b2i_eq0, e7, Bool.not_false, cond_true]
                    rfl
theorem kr_0 : ∀ k, k < 9 → decide (krV k = 0) = decide (k = 0) := by decide +kernel
theorem kr_m : ∀ k, k < 9 → (!decide (krV k = -1)) = true := by decide +kernel
theorem r_227 (hD : DR D I) {k : Nat} (hk : k < 9) (hP : dP D ≤ 8) (hW : dW D ≤ 6) (hV : dV D ≤ 2) : V PR dd 227 0 [(0, vR (some (186, 0))), (1, vi (krV k))] [] (mm nn I L P E c s) = some (.inl (some (vi (b2i (fullB D k)))), mm nn I L P E c s) := by
  obtain ⟨-, a2, a3, a4, -⟩ := hD.1
  have q1 : ∀ k, k < 9 → decide (krV k = 1) = decide (k = 1) := by decide +kernel
  have q2 : ∀ k, k < 9 → decide (krV k = 2) = decide (k = 3) := by decide +kernel
  have q3 : ∀ k, k < 9 → decide (krV k = 3) = decide (k = 6) := by decide +kernel
  rw [k_X12_isFull_0, q1 k hk, q2 k hk, q3 k hk, a2, a3, a4, show decide (nI (dP D) = (8 : Int32)) = decide (8 ≤ dP D) from decide_eq_decide.mpr ((nI_eq (b := 8) (by omega) (by decide)).trans (by omega)), show decide (nI (dW D) = (6 : Int32)) = decide (6 ≤ dW D) from decide_eq_decide.mpr ((nI_eq (b := 6) (by omega) (by decide)).trans (by omega)), show decide (nI (dV D) = (2 : Int32)) = decide (2 ≤ dV D) from decide_eq_decide.mpr ((nI_eq (b := 2) (by omega) (by decide)).trans (by omega))]
  unfold fullB
  cases decide (k = 1) <;> cases decide (k = 3) <;> cases decide (k = 6) <;> cases decide (8 ≤ dP D) <;> cases decide (6 ≤ dW D) <;> cases decide (2 ≤ dV D) <;> rfl
/-- the rest of a clause of a kind -/
theorem cl_94 (hS : StQ B n I p D cl) (hO : OkD D) (hk : k < 9) (hf : fullB D k = false) : ObR B n cl (V PR (dd + 4) 229 94 [(0, vR (some (186, 0))), (1, vi (krV k))] [vi (krV k)] (mm nn I L P E c s)) (fun J => mm nn J L P E c s) I (semK B n (bdK B n k D p)) := by
  obtain ⟨b1, b2, b3, b4, b5, b6⟩ := hO.1
  unfold fullB at hf
  rw [Bool.or_eq_false_iff, Bool.or_eq_false_iff] at hf
  match k, hk, hf with
  | 0, _, _ => exact cl_s0 hS
  | 1, _, _ => exact cl_s1 hS
  | 2, _, _ => exact cl_s6 hS b3
  | 3, _, hf =>
    have := of_decide_eq_false hf.2.1
    have h9 := hO.2.2.2.1 (dW D) (Nat.le_refl _)
    exact cl_s2 hS b2 b3 (by omega) h9
  | 4, _, _ => exact cl_s7 hS b4
  | 5, _, _ => exact cl_s8 hS b4
  | 6, _, hf =>
    have := of_decide_eq_false hf.2.2
    exact cl_s3 hS b4 (by omega)
  | 7, _, _ => exact cl_s5 hS
  | 8, _, _ => exact cl_s4 hS
/-- a clause -/
theorem r_229 (hS : StQ B n I p D cl) (hO : OkD D) (hc : cl ≤ 60) : ObR B n (cl + 1) (V PR (dd + 5) 229 0 [(0, vR (some (186, 0)))] [] (mm nn I L P E c s)) (fun J => mm nn J L P E c s) I (clR B n cl p D) := by
  obtain ⟨⟨a, hA, rfl⟩, h6, h7, hD⟩ := hS
  obtain ⟨b1, b2, b3, b4, b5, b6⟩ := hO.1
  have hA1 := hA.sk
  have hD1 : DR D (up3 I 186 0 4 (nI (sk B n a))) := hD
  have e7 : (up3 I 186 0 4 (nI (sk B n a))) 186 0 7 = nI cl := (up3_k (by decide)).trans h7
  have F0 : FxQ I (up3 I 186 0 4 (nI (sk B n a))) := FxQ.rfl'.u (by decide)
  have W : ∀ k, V PR (dd + 4) 214 0 [(0, vR (some (186, 0))), (1, vi (nI k)), (2, vi (nI (sk B n a)))] [] (mm nn (up3 I 186 0 4 (nI (sk B n a))) L P E c s) = some (.inl none, mm nn (flR (up3 I 186 0 4 (nI (sk B n a))) k (sk B n a)) L P E c s) := fun k => r_wrong hA1.2.2.2
  rw [k_X12_clause_0, kr_226 hA, Vk_v, k_X12_clause_4, up3_i]
  unfold clR
  by_cases e9 : kdC B n (sk B n a) = 9
  · rw [decide_eq_true e9, cond_true, e9, show (!decide (krV 9 = -1)) = false from rfl, cond_false, show (1 : Int32) = nI 1 from rfl, W, Vk_n, k_X12_clause_19, (DeR.fl (q := sk B n a) (k := 1) hA1 (by decide) (by decide)).f, cond_false]
    exact ⟨_, rfl, DeR.fl hA1 (by decide) (by decide), F0.fl⟩
  · have k9 : kdC B n (sk B n a) < 9 := by have := kdC_le (B := B) (n := n) (p := sk B n a); omega
    have sm := kdC_sm e9
    generalize kdC B n (sk B n a) = k at *
    rw [decide_eq_false e9, cond_false, kr_m k k9, cond_true, e7, show decide (nI cl = (60 : Int32)) = decide (60 ≤ cl) from decide_eq_decide.mpr ((nI_eq (b := 60) (by omega) (by decide)).trans (by omega))]
    cases h60 : decide (60 ≤ cl) with
    | true =>
      rw [Bool.true_or, cond_true, cond_true, show (3 : Int32) = nI 3 from rfl, W, Vk_n, k_X12_clause_48, (DeR.fl (q := sk B n a) (k := 3) hA1 (by decide) (by decide)).f, cond_false]
      exact ⟨_, rfl, DeR.fl hA1 (by decide) (by decide), F0.fl⟩
    | false =>
      rw [Bool.false_or, cond_false, r_227 hD1 k9 b3 b4 b5, Vk_v, k_X12_clause_36, b2i_eq0, up3_i]
      cases hf : fullB D k with
      | true =>
        rw [Bool.not_true, cond_false, cond_true, show (3 : Int32) = nI 3 from rfl, W, Vk_n, k_X12_clause_48, (DeR.fl (q := sk B n a) (k := 3) hA1 (by decide) (by decide)).f, cond_false]
        exact ⟨_, rfl, DeR.fl hA1 (by decide) (by decide), F0.fl⟩
      | false =>
        have M : ObR B n (cl + 1) (Vk (dd + 4) 229 80 [] [(0, vR (some (186, 0))), (1, vi (krV k))] (V PR (dd + 4) 222 0 [(0, vR (some (186, 0)))] [] (mm nn (up3 I 186 0 4 (nI (sk B n a))) L P E c s))) (fun J => mm nn J L P E c s) I (semK B n (bdK B n k D (sk B n (wd B n (sk B n a))))) := by
          have e8 : (up3 (up3 I 186 0 4 (nI (sk B n a))) 186 0 4 (nI (wd B n (sk B n a)))) 186 0 7 + 1 = nI (cl + 1) := by rw [up3_k (by decide), e7, nI_1]
          rw [r_skip hA1.1 hA1.2.1 hA1.2.2.1, Vk_n, k_X12_clause_83, e8]
          have A2 := hA1.mv (b := wd B n (sk B n a)) (wd_le hA1.2.1)
          have S2 : StQ B n (up3 (up3 (up3 I 186 0 4 (nI (sk B n a))) 186 0 4 (nI (wd B n (sk B n a)))) 186 0 7 (nI (cl + 1))) (sk B n (wd B n (sk B n a))) D (cl + 1) := ⟨⟨wd B n (sk B n a), ⟨A2.1.at (by decide), A2.2.1, (up3_k (by decide)).trans A2.2.2.1, (up3_k (by decide)).trans A2.2.2.2⟩, rfl⟩, by rw [up3_k (by decide), up3_k (by decide), up3_k (by decide)]; exact h6, up3_i _ _ _ _ _, hD⟩
          exact ObR.tr ((F0.u (by decide)).u (by decide)) (cl_94 (dd := dd + 1) S2 hO k9 hf)
        rw [Bool.not_false, cond_true, cond_false, kr_0 k k9, e7, hA1.2.2.2, d0t, cond_true]
        by_cases e0 : k = 0
        · rw [decide_eq_true e0, Bool.not_true, cond_false, show decide (nI cl ≤ (0 : Int32)) = decide (cl ≤ 0) from nI_led (b := 0) (by omega) (by decide), Bool.true_and]
          by_cases ec : cl = 0
          · rw [decide_eq_true (show cl ≤ 0 by omega), cond_true, decide_eq_false (show ¬ 0 < cl by omega), cond_false]
            exact M
          · rw [decide_eq_false (show ¬ cl ≤ 0 by omega), cond_false, decide_eq_true (show 0 < cl by omega), cond_true, show (4 : Int32) = nI 4 from rfl, W, Vk_n, k_X12_clause_71, (DeR.fl (q := sk B n a) (k := 4) hA1 (by decide) (by decide)).f, cond_false]
            exact ⟨_, rfl, DeR.fl hA1 (by decide) (by decide), F0.fl⟩
        · rw [decide_eq_false e0, Bool.not_false, cond_true, Bool.false_and, cond_false]
          exact M
end Crdk
