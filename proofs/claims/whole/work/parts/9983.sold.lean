/-! PROMISES 37, 38: shared, sold. -/
section Sold
variable {d n t : Nat} {I J M : FI} {L K N : FL} {P : FR} {E : FE} {c s z : Nat}
/-- the sharing out of a day -/
def shV (I : FI) (bu : Int32) (x : Nat) : Nat := mxI I bu 6 0 (gnN I x).testBit
def shF (I : FI) (bu : Int32) (x : Nat) : Nat → Int32 := asI I bu 6 0 (gnN I x).testBit (fun _ => 0)
theorem gG_0 (I : FI) (x : Nat) : gG I 0 x = (gnN I x).testBit := by
  funext v
  show ((0 : Nat).testBit v || _) = _
  rw [Nat.zero_testBit, Bool.false_or]
theorem c_sharesBut (hT : RTold I) (ho : ROff I) (bu : Int32) (x : Nat) (h9 : T9 I J) : ∃ J', V PR (d + 9) 305 0 [(0, vR (some (186, 0))), (1, vi bu), (2, vi (nI x))] [] (mm n J L P E c z) = some (.inl (some (vi (nI (shV I bu x)))), mm n J' L P E c z) ∧ T9 I J' ∧ ∀ j, j < 6 → J' 483 0 j = shF I bu x j := by
  obtain ⟨J', r1, r2, -, r4⟩ := (sh_R (d := d) (n := n) (L := L) (P := P) (E := E) (c := c) (z := z) hT ho (bu := bu) (x := x) 6 0 (by decide)) 0 0 (up3 J 186 0 49 (-1)) none (by decide) (by decide) h9.u1 (up3_i _ _ _ _ _)
  obtain ⟨q1, -, q3⟩ := r4
  have e0 : 0 + mxI I bu 6 0 (gG I 0 x) = shV I bu x := by rw [Nat.zero_add, gG_0]; rfl
  have q1' : J' 186 0 49 = nI (shV I bu x) := by rw [← e0]; exact q1
  refine ⟨J', ?_, r2, fun j hj => ?_⟩
  · have r1' : V PR (d + 8) 304 0 [(0, vR (some (186, 0))), (1, vi (0 : Int32)), (2, vi (0 : Int32)), (3, vi (0 : Int32)), (4, vi bu), (5, vi (nI x))] [] (mm n (up3 J 186 0 49 (-1)) L P E c z) = some (.inl none, mm n J' L P E c z) := r1
    rw [k_X12_sharesBut_0, r1', Vk_n, k_X12_sharesBut_14, q1']
  · rw [q3 j hj]
    show asI I bu 6 0 (gG I 0 x) _ j = shF I bu x j
    rw [gG_0]
    exact asg_congr hj 6 0 _ _ _ (by decide) (fun k hk => absurd hk (Nat.not_lt_zero k))
/-- each buyer's part is a well, or none -/
theorem shF_is (hT : RTold I) {x j : Nat} (hj : j < 6) : shF I (-1) x j = -1 ∨ ∃ w, w < zW I ∧ shF I (-1) x j = nI w := by
  have A : ∀ k b s get, b + k = j → (asg (ofN I) (zW I) (nbI (-1)) (6 - b) b (Nat.testBit s) get j = -1 ∨ ∃ w, w < zW I ∧ asg (ofN I) (zW I) (nbI (-1)) (6 - b) b (Nat.testBit s) get j = nI w) := by
    intro k
    induction k with
    | zero =>
      intro b s get h
      have e : b = j := by omega
      subst e
      rw [asg_pk hj, asg_lo _ _ _ _ (Nat.lt_succ_self b), show stG get b (opI (pkO I b s)) b = opI (pkO I b s) from if_pos rfl]
      cases ho : pkO I b s with
      | none => exact .inl rfl
      | some w => exact .inr ⟨w, pkO_lt hT w ho, rfl⟩
    | succ k ih =>
      intro b s get h
      rw [asg_pk (by omega)]
      exact ih (b + 1) _ _ (by omega)
  exact A j 0 (gnN I x) (fun _ => 0) (Nat.zero_add _)
theorem T9.rx (h : T9 I J) : Rx I J := fun a r j q => h a r j (by
  rintro rfl
  rcases q with q | q | q | q
  · cases q
  · omega
  · omega
  · omega) (by
  rintro rfl
  rcases q with q | q | q | q
  · cases q
  · omega
  · omega
  · omega) (by
  rintro rfl rfl
  rcases q with q | q | q | q
  · cases q
  · omega
  · omega
  · omega)
theorem T8.cw (h8 : T8 J M) (hw : Cw t I L J K) : Cw t I L M K := hw.upX (fun a r j q => h8 a r j (by
  rintro rfl
  rcases q with q | q | q
  · cases q
  · omega
  · omega)) Cx.rfl' (fun a r j h1 h2 => h8 a r j (by omega)) (fun _ _ _ _ _ => rfl)
theorem gn_e {I' : FI} (e1 : ∀ r j, I' 198 r j = I 198 r j) (e2 : ∀ r j, I' 190 r j = I 190 r j) (x : Nat) : gnN I' x = gnN I x ∧ zW I' = zW I := by
  unfold gnN silB zW
  simp only [e1, e2, and_self]
theorem of_g {I' : FI} (h : ∀ r j, I' 309 r j = I 309 r j) : ofN I' = ofN I := by
  funext b w
  unfold ofN
  rw [h]
theorem g_shared (h : Rl t I L P E c s) (hn : 6 * t + 6 ≤ n) (hN : n ≤ 3072) : LGo (d + 30) n t 35 I L P E c s := by
  refine en_35 h hn hN fun b x hb hx eb ex h1 h2 => ?_
  obtain ⟨-, hT, hl, hw, -, -, hd, hh, ho, -⟩ := id h
  obtain ⟨J, r1, r2⟩ := c_wellOf (d := d + 24) (n := n) (P := P) (E := E) (c := c) (z := s) hT hl hw ho (J := I) (fun _ _ _ _ => rfl) hb hx (fun _ => 0)
  have er : asg (ofN I) (zW I) (nbI (-1)) 6 0 (gnN I x).testBit (fun _ => 0) b = shF I (-1) x b := rfl
  rw [er] at r1
  obtain ⟨eg, ew⟩ := gn_e (I := I) (I' := up3 J 186 0 0 0) (fun r j => (up3_a (by decide)).trans (r2 198 r j (by decide))) (fun r j => (up3_a (by decide)).trans (r2 190 r j (by decide))) x
  have e309 : ∀ r j, (up3 J 186 0 0 0) 309 r j = I 309 r j := fun r j => (up3_a (by decide)).trans (r2 309 r j (by decide))
  have ho2 : ROff (up3 J 186 0 0 0) := ho.eq fun a r j ha => (up3_a (by omega)).trans (r2 a r j (by omega))
  have hT1 : RTold J := hT.eq fun r j => r2 190 r j (by decide)
  have hT2 : RTold (up3 J 186 0 0 0) := hT.eq fun r j => (up3_a (by decide)).trans (r2 190 r j (by decide))
  have B : ∀ lv, ∃ M, V PR (d + 29) 306 0 [(0, vR (some (186, 0))), (1, vi (sc I t 1)), (2, vi (sc I t 2))] [] (mm n J (up3 L 486 0 0 lv) P E c s) = some (.inl (some (vi (shF I (-1) x b))), mm n M (up3 L 486 0 0 lv) P E c s) ∧ T9 (up3 J 186 0 0 0) M := fun lv => by
    obtain ⟨M, m1, m2, m3⟩ := c_sharesBut (d := d + 19) (n := n) (L := up3 L 486 0 0 lv) (P := P) (E := E) (c := c) (z := s) hT2 ho2 (-1) x T9.rfl'
    have ef : shF (up3 J 186 0 0 0) (-1) x = shF I (-1) x := by
      unfold shF asI
      rw [of_g e309, eg, ew]
    rw [ef] at m3
    refine ⟨M, (rp_35 (d := d + 26) hT1 h1 h2).trans ?_, m2⟩
    rw [ex, eb, k_X12_shared_32, d0t, cond_true, m1, Vk_v, k_X12_shared_43, inb_nI hb (by decide), cond_true, nI_clamp (by omega), m3 b hb]
  obtain ⟨M, m1, m2⟩ := B ((shF I (-1) x b).toInt64)
  refine gb_35 (d := d + 28) (shF I (-1) x b) h hn hN ((cp_35 (d := d + 26) hT hl h1 h2).trans ?_) m1 (T8.cw r2 h.cw0) (Rx.thr.tr m2.rx) Rx.rfl' ?_ ?_
  · rw [ex, eb, k_X11_shared_10, r1, Vk_v, k_X11_shared_19]
  · exact h.rstm.rx (T8.cw r2 h.cw0).1 (Rx.thr.tr m2.rx) ((m2 186 0 40 (by decide) (by decide) (by decide)).trans (up3_k (by decide))) (fun r j => (m2 377 r j (by decide) (by decide) (fun e => absurd e (by decide))).trans (up3_a (by decide))) (fun r j => (m2 414 r j (by decide) (by decide) (fun e => absurd e (by decide))).trans (up3_a (by decide)))
  · exact (m2 186 0 0 (by decide) (by decide) (by decide)).trans (up3_i _ _ _ _ _)
theorem dec1 : ∀ b, b < 6 → nI (b + 1) - 1 = nI b := by decide +kernel
/-- what a buyer pays by his part -/
def paidI (I : FI) (b : Nat) (v : Int32) : Int32 := bif !decide (v = -1) then I 309 (b + 1) v.toNatClampNeg else 0
/-- what is sold on a day: of all, or of one buyer what he adds -/
def soldV (I : FI) (x : Nat) : Nat → Int32
  | 0 => nI (shV I (-1) x)
  | b + 1 => nI (shV I (nI b) x) - (nI (shV I (-1) x) - paidI I b (shF I (-1) x b))
theorem c_pays (hT : RTold I) (hl : RLand I L) (hw : RWell I) (ho : ROff I) {b x : Nat} (hb : b < 6) (hx : x < 365) : ∃ J', V PR (d + 4) 69 0 [(0, vR (some (183, 0))), (1, vi (nI b)), (2, vi (nI x))] [] (mm n I L P E c z) = some (.inl (some (vi (soldV I x (b + 1)))), mm n J' L P E c z) ∧ T8 I J' := by
  obtain ⟨J1, r1, r2⟩ := c_most (d := d + 1) (n := n) (P := P) (E := E) (c := c) (s := z) hT hl hw ho (J := I) (fun _ _ _ _ => rfl) hx (nI b)
  obtain ⟨J2, q1, q2⟩ := c_most (d := d + 1) (n := n) (P := P) (E := E) (c := c) (s := z) hT hl hw ho r2.1 hx (-1)
  obtain ⟨J3, p1, p2⟩ := c_wellOf (d := d) (n := n) (P := P) (E := E) (c := c) (z := z) hT hl hw ho q2.1 hb hx (fun _ => 0)
  have er : asg (ofN I) (zW I) (nbI (-1)) 6 0 (gnN I x).testBit (fun _ => 0) b = shF I (-1) x b := rfl
  have ev : ∀ bu, rowV I bu 0 (gnN I x) = shV I bu x := fun _ => rfl
  rw [er] at p1
  rw [ev] at r1 q1
  refine ⟨J3, ?_, p2⟩
  rw [k_X4_pays_0, r1, Vk_v, k_X4_pays_6, q1, Vk_v, k_X4_pays_13, p1, Vk_v, k_X4_pays_21]
  show _ = some (Sum.inl (some (vi (nI (shV I (nI b) x) - (nI (shV I (-1) x) - paidI I b (shF I (-1) x b))))), _)
  rcases shF_is hT (x := x) hb with e | ⟨w, w1, e⟩
  · rw [e]; rfl
  · have h6 := hT.2.2.1.2
    have em : decide (nI w = (-1 : Int32)) = false := decide_eq_false (m1_ne (by omega))
    unfold paidI
    rw [e, em, Bool.not_false, cond_true, cond_true, mul6, inb_nI (show b * 6 + w < 36 by omega) (by decide), cond_true, nI_clamp (by omega), nI_clamp (by omega), p2 134 _ _ (by decide), (ho b w hb (by omega)).1]
theorem g_sold (h : Rl t I L P E c s) (hn : 6 * t + 6 ≤ n) (hN : n ≤ 3072) : LGo (d + 30) n t 36 I L P E c s := by
  refine en_36 h hn hN fun x u hx _ hu ex eu h1 h2 => ?_
  obtain ⟨-, hT, hl, hw, -, -, hd, hh, ho, -⟩ := id h
  have A : ∃ J, V PR (d + 28) 175 0 [(0, vR (some (100, 0))), (1, vi (sc I t 1)), (2, vi (sc I t 2))] [] (mm n I L P E c s) = some (.inl (some (vi (soldV I x u))), mm n J L P E c s) ∧ T8 I J := by
    cases u with
    | zero =>
      obtain ⟨J, r1, r2⟩ := c_most (d := d + 25) (n := n) (P := P) (E := E) (c := c) (s := s) hT hl hw ho (J := I) (fun _ _ _ _ => rfl) hx (-1)
      refine ⟨J, (cp_36 (d := d + 26) hT hl h1 h2).trans ?_, r2.1⟩
      rw [ex, eu, k_X11_sold_24, show (!decide (nI 0 = 0)) = false by decide +kernel, cond_false, r1, Vk_v, k_X11_sold_37]
      rfl
    | succ b =>
      obtain ⟨J, r1, r2⟩ := c_pays (d := d + 23) (n := n) (P := P) (E := E) (c := c) (z := s) hT hl hw ho (b := b) (by omega) hx
      refine ⟨J, (cp_36 (d := d + 26) hT hl h1 h2).trans ?_, r2⟩
      have e0 : decide (nI (b + 1) = 0) = false := decide_eq_false (fun q => absurd ((nI_eq (b := 0) (by omega) (by decide)).mp q) (by omega))
      have e1 : nI (b + 1) - 1 = nI b := (dec1 b (by omega))
      rw [ex, eu, k_X11_sold_24, e0, Bool.not_false, cond_true, e1, r1, Vk_v, k_X11_sold_51]
  obtain ⟨J, r1, r2⟩ := A
  obtain ⟨eg, ew⟩ := gn_e (I := I) (I' := up3 J 186 0 0 0) (fun r j => (up3_a (by decide)).trans (r2 198 r j (by decide))) (fun r j => (up3_a (by decide)).trans (r2 190 r j (by decide))) x
  have e309 : ∀ r j, (up3 J 186 0 0 0) 309 r j = I 309 r j := fun r j => (up3_a (by decide)).trans (r2 309 r j (by decide))
  have ho2 : ROff (up3 J 186 0 0 0) := ho.eq fun a r j ha => (up3_a (by omega)).trans (r2 a r j (by omega))
  have hT1 : RTold J := hT.eq fun r j => r2 190 r j (by decide)
  have hT2 : RTold (up3 J 186 0 0 0) := hT.eq fun r j => (up3_a (by decide)).trans (r2 190 r j (by decide))
  have eF : ∀ bu, shF (up3 J 186 0 0 0) bu x = shF I bu x := fun bu => by
    unfold shF asI
    rw [of_g e309, eg, ew]
  have eV : ∀ bu, shV (up3 J 186 0 0 0) bu x = shV I bu x := fun bu => by
    unfold shV mxI
    rw [of_g e309, eg, ew]
  have B : ∀ lv, ∃ M, V PR (d + 29) 307 0 [(0, vR (some (186, 0))), (1, vi (sc I t 1)), (2, vi (sc I t 2))] [] (mm n J (up3 L 486 0 0 lv) P E c s) = some (.inl (some (vi (soldV I x u))), mm n M (up3 L 486 0 0 lv) P E c s) ∧ T9 (up3 J 186 0 0 0) M := fun lv => by
    obtain ⟨M, m1, m2, m3⟩ := c_sharesBut (d := d + 19) (n := n) (L := up3 L 486 0 0 lv) (P := P) (E := E) (c := c) (z := s) hT2 ho2 (-1) x T9.rfl'
    rw [eV] at m1
    rw [eF] at m3
    cases u with
    | zero =>
      refine ⟨M, (rp_36 (d := d + 26) hT1 h1 h2).trans ?_, m2⟩
      rw [ex, eu, k_X12_sold_33, d0t, cond_true, m1, Vk_v, k_X12_sold_44, show (!decide (nI 0 = 0)) = false by decide +kernel, cond_false]
      rfl
    | succ b =>
      obtain ⟨M2, p1, p2, p3⟩ := c_sharesBut (d := d + 19) (n := n) (L := up3 L 486 0 0 lv) (P := P) (E := E) (c := c) (z := s) hT2 ho2 (nI b) x m2
      rw [eV] at p1
      refine ⟨M2, (rp_36 (d := d + 26) hT1 h1 h2).trans ?_, p2⟩
      have e0 : decide (nI (b + 1) = 0) = false := decide_eq_false (fun q => absurd ((nI_eq (b := 0) (by omega) (by decide)).mp q) (by omega))
      have e1 : nI (b + 1) - 1 = nI b := (dec1 b (by omega))
      have hb : b < 6 := by omega
      rw [ex, eu, k_X12_sold_33, d0t, cond_true, m1, Vk_v, k_X12_sold_44, e0, Bool.not_false, cond_true, e1, inb_nI hb (by decide), cond_true, nI_clamp (by omega), m3 b hb]
      show _ = some (Sum.inl (some (vi (nI (shV I (nI b) x) - (nI (shV I (-1) x) - paidI I b (shF I (-1) x b))))), _)
      have h309 : ∀ j, M 309 (b + 1) j = I 309 (b + 1) j := fun j => (m2 309 _ _ (by decide) (by decide) (fun e => absurd e (by decide))).trans (e309 _ _)
      unfold paidI
      rcases shF_is hT (x := x) hb with e | ⟨w, w1, e⟩
      · rw [e, show (!decide ((-1 : Int32) = -1)) = false by decide +kernel, cond_false, cond_false, p1, Vk_v, k_X12_sold_95]
      · have h6 := hT.2.2.1.2
        have em : decide (nI w = (-1 : Int32)) = false := decide_eq_false (m1_ne (by omega))
        rw [e, em, Bool.not_false, cond_true, cond_true, cond_true, cond_true, aro_309, blt_t hb, inb_nI (show w < 6 by omega) (by decide), Bool.true_and, cond_true, p1, Vk_v, k_X12_sold_95, h309]
  obtain ⟨M, m1, m2⟩ := B ((soldV I x u).toInt64)
  refine gb_36 (d := d + 28) (soldV I x u) h hn hN r1 m1 (T8.cw r2 h.cw0) (Rx.thr.tr m2.rx) Rx.rfl' ?_ ?_
  · exact h.rstm.rx (T8.cw r2 h.cw0).1 (Rx.thr.tr m2.rx) ((m2 186 0 40 (by decide) (by decide) (by decide)).trans (up3_k (by decide))) (fun r j => (m2 377 r j (by decide) (by decide) (fun e => absurd e (by decide))).trans (up3_a (by decide))) (fun r j => (m2 414 r j (by decide) (by decide) (fun e => absurd e (by decide))).trans (up3_a (by decide)))
  · exact (m2 186 0 0 (by decide) (by decide) (by decide)).trans (up3_i _ _ _ _ _)
end Sold
