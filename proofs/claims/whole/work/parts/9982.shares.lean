/-! DAYS SOLD, 3: the class's wells by buyer; the reference's trial; the two promises. -/
section Shares
variable {d n t : Nat} {I J M : FI} {L K N : FL} {P : FR} {E : FE} {c s z : Nat}
theorem asg_lo {off : Nat → Nat → Nat} {W : Nat} {nb : Nat → Bool} {j : Nat} : ∀ r b G get, j < b → asg off W nb r b G get j = get j
  | 0, b, G, get, h => rfl
  | r + 1, b, G, get, h => by
    have e : ∀ x, stG get b x j = get j := fun x => if_neg (by omega)
    unfold asg
    cases nb b || decide (mx off W nb r (b + 1) G = mx off W nb (r + 1) b G) with
    | true => rw [cond_true, asg_lo r (b + 1) _ _ (by omega), e]
    | false =>
      rw [cond_false]
      cases fsO (fun w => !G w && decide (off b w + mx off W nb r (b + 1) (adS G w) = mx off W nb (r + 1) b G)) 0 W with
      | none => exact (asg_lo r (b + 1) _ _ (by omega)).trans (e _)
      | some w => exact (asg_lo r (b + 1) _ _ (by omega)).trans (e _)
theorem asg_congr {off : Nat → Nat → Nat} {W : Nat} {nb : Nat → Bool} {j : Nat} (hj : j < 6) : ∀ r b G get get', b + r = 6 → (∀ k, k < b → get k = get' k) → asg off W nb r b G get j = asg off W nb r b G get' j
  | 0, b, G, get, get', h, hg => hg j (by omega)
  | r + 1, b, G, get, get', h, hg => by
    have e : ∀ x k, k < b + 1 → stG get b x k = stG get' b x k := fun x k hk => by
      unfold stG
      by_cases e : k = b
      · rw [if_pos e, if_pos e]
      · rw [if_neg e, if_neg e]; exact hg k (by omega)
    unfold asg
    cases nb b || decide (mx off W nb r (b + 1) G = mx off W nb (r + 1) b G) with
    | true => rw [cond_true, cond_true]; exact asg_congr hj r (b + 1) _ _ _ (by omega) (e _)
    | false =>
      rw [cond_false, cond_false]
      cases fsO (fun w => !G w && decide (off b w + mx off W nb r (b + 1) (adS G w) = mx off W nb (r + 1) b G)) 0 W with
      | none => exact asg_congr hj r (b + 1) _ _ _ (by omega) (e _)
      | some w => exact asg_congr hj r (b + 1) _ _ _ (by omega) (e _)
/-- a buyer's well, or none -/
def pkO (I : FI) (b s : Nat) : Option Nat := bif decide (rowV I (-1) (b + 1) s = rowV I (-1) b s) then none else fsO (fun w => !s.testBit w && decide (ofN I b w + rowV I (-1) (b + 1) (s ||| 2 ^ w) = rowV I (-1) b s)) 0 (zW I)
def nxS (s : Nat) : Option Nat → Nat
  | some w => s ||| 2 ^ w
  | none => s
theorem nbI_m1 {b : Nat} (hb : b < 6) : nbI (-1) b = false := decide_eq_false (m1_ne (by omega))
theorem asg_pk {b s : Nat} (hb : b < 6) (get : Nat → Int32) : asg (ofN I) (zW I) (nbI (-1)) (6 - b) b s.testBit get = asg (ofN I) (zW I) (nbI (-1)) (6 - (b + 1)) (b + 1) (nxS s (pkO I b s)).testBit (stG get b (opI (pkO I b s))) := by
  obtain ⟨r, hr⟩ : ∃ r, 6 - (b + 1) = r := ⟨_, rfl⟩
  have hr2 : 6 - b = r + 1 := by omega
  have e1 : rowV I (-1) b s = mx (ofN I) (zW I) (nbI (-1)) (r + 1) b s.testBit := by unfold rowV; rw [hr2]
  have e2 : ∀ s, rowV I (-1) (b + 1) s = mx (ofN I) (zW I) (nbI (-1)) r (b + 1) s.testBit := fun s => by unfold rowV; rw [hr]
  unfold pkO
  rw [hr, hr2, e1]
  simp only [e2, ← adS_tb]
  show (bif nbI (-1) b || decide (mx (ofN I) (zW I) (nbI (-1)) r (b + 1) s.testBit = mx (ofN I) (zW I) (nbI (-1)) (r + 1) b s.testBit) then asg (ofN I) (zW I) (nbI (-1)) r (b + 1) s.testBit (stG get b (-1)) else match fsO (fun w => !s.testBit w && decide (ofN I b w + mx (ofN I) (zW I) (nbI (-1)) r (b + 1) (adS s.testBit w) = mx (ofN I) (zW I) (nbI (-1)) (r + 1) b s.testBit)) 0 (zW I) with
      | some w => asg (ofN I) (zW I) (nbI (-1)) r (b + 1) (adS s.testBit w) (stG get b (nI w))
      | none => asg (ofN I) (zW I) (nbI (-1)) r (b + 1) s.testBit (stG get b (-1))) = _
  rw [nbI_m1 hb, Bool.false_or]
  cases decide (mx (ofN I) (zW I) (nbI (-1)) r (b + 1) s.testBit = mx (ofN I) (zW I) (nbI (-1)) (r + 1) b s.testBit) with
  | true => rfl
  | false =>
    rw [cond_false, cond_false]
    cases fsO (fun w => !s.testBit w && decide (ofN I b w + mx (ofN I) (zW I) (nbI (-1)) r (b + 1) (adS s.testBit w) = mx (ofN I) (zW I) (nbI (-1)) (r + 1) b s.testBit)) 0 (zW I) with
    | none => rfl
    | some w =>
      show asg (ofN I) (zW I) (nbI (-1)) r (b + 1) (adS s.testBit w) (stG get b (nI w)) = _
      rw [adS_tb]
      rfl
theorem pkO_lt (hT : RTold I) {b s : Nat} : ∀ w, pkO I b s = some w → w < zW I := fun w h => by
  unfold pkO at h
  cases hq : decide (rowV I (-1) (b + 1) s = rowV I (-1) b s) with
  | true => rw [hq] at h; cases h
  | false =>
    rw [hq] at h
    have := (fsO_some _ _ h).2.1
    omega
theorem fb_in (hT : RTold I) (hl : RLand I L) (ho : ROff I) (h8 : Tbl I J (-1)) {b s : Nat} (hb : b < 6) (hs : s < 64) : ∀ r w, w + r = zW I → V PR (d + 1) 68 28 [(0, vR (some (183, 0))), (1, vi (nI b)), (2, vi (nI s)), (3, vi (nI (rowV I (-1) b s))), (4, vi (nI w))] [] (mm n J L P E c z) = some (.inl (some (vi (opI (fsO (fun w => !s.testBit w && decide (ofN I b w + rowV I (-1) (b + 1) (s ||| 2 ^ w) = rowV I (-1) b s)) w r)))), mm n J L P E c z)
  | 0, w, h => by
    have h6 := hT.2.2.1.2
    have e9 : J 103 0 2 = nI (zW I) := (h8.1 103 0 2 (by decide)).trans (hl.2.2.1.trans hT.2.2.1.1)
    rw [k_X4_firstBest_28, e9, nI_led (by omega) (by omega), decide_eq_true (by omega), cond_true]
    rfl
  | r + 1, w, h => by
    have h6 := hT.2.2.1.2
    have hw6 : w < 6 := by omega
    have e9 : J 103 0 2 = nI (zW I) := (h8.1 103 0 2 (by decide)).trans (hl.2.2.1.trans hT.2.2.1.1)
    have hv := rowV_le hT ho (-1) (b := b) (s := s) (by omega)
    obtain ⟨⟨g1, g2⟩, -⟩ := bit6 s hs w hw6
    have hv2 := rowV_le hT ho (-1) (b := b + 1) (s := s ||| 2 ^ w) (by omega)
    have := of_le ho hb hw6
    have IH := fb_in hT hl ho h8 hb hs r (w + 1) (by omega)
    have hS : fsO (fun w => !s.testBit w && decide (ofN I b w + rowV I (-1) (b + 1) (s ||| 2 ^ w) = rowV I (-1) b s)) w (r + 1) = bif !s.testBit w && decide (ofN I b w + rowV I (-1) (b + 1) (s ||| 2 ^ w) = rowV I (-1) b s) then some w else fsO (fun w => !s.testBit w && decide (ofN I b w + rowV I (-1) (b + 1) (s ||| 2 ^ w) = rowV I (-1) b s)) (w + 1) r := rfl
    rw [k_X4_firstBest_28, e9, nI_led (by omega) (by omega), decide_eq_false (by omega), cond_false, wt_w h8.1 ho hb hw6 hs, Vk_v, k_X4_firstBest_48, h8.2 (b + 1) (by omega) _ g2, nI_add, nI_1, hS]
    cases s.testBit w with
    | true =>
      rw [cond_true, decide_eq_false (fun q => m1_ne (show rowV I (-1) b s < 2 ^ 31 by omega) q.symm), Bool.not_false, cond_true, Bool.not_true, Bool.false_and, cond_false]
      exact IH
    | false =>
      have e : decide (nI (ofN I b w + rowV I (-1) (b + 1) (s ||| 2 ^ w)) = nI (rowV I (-1) b s)) = decide (ofN I b w + rowV I (-1) (b + 1) (s ||| 2 ^ w) = rowV I (-1) b s) := by rw [decide_eq_decide]; exact nI_eq (by omega) (by omega)
      rw [cond_false, e, Bool.not_false, Bool.true_and]
      cases decide (ofN I b w + rowV I (-1) (b + 1) (s ||| 2 ^ w) = rowV I (-1) b s) with
      | true => rfl
      | false => exact IH
theorem c_firstBest (hT : RTold I) (hl : RLand I L) (ho : ROff I) (h8 : Tbl I J (-1)) {b s : Nat} (hb : b < 6) (hs : s < 64) : V PR (d + 1) 68 0 [(0, vR (some (183, 0))), (1, vi (nI b)), (2, vi (nI s))] [] (mm n J L P E c z) = some (.inl (some (vi (opI (pkO I b s)))), mm n J L P E c z) := by
  have hv := rowV_le hT ho (-1) (b := b) (s := s) (by omega)
  have hv2 := rowV_le hT ho (-1) (b := b + 1) (s := s) (by omega)
  have A := fb_in hT hl ho h8 (d := d) (n := n) (P := P) (E := E) (c := c) (z := z) hb hs (zW I) 0 (Nat.zero_add _)
  have e : decide (nI (rowV I (-1) (b + 1) s) = nI (rowV I (-1) b s)) = decide (rowV I (-1) (b + 1) s = rowV I (-1) b s) := by rw [decide_eq_decide]; exact nI_eq (by omega) (by omega)
  rw [k_X4_firstBest_0, mul64, inb_nI (by omega) (by decide), cond_true, nI_clamp (by omega), h8.2 b (by omega) s hs, wt_n hb hs, Vk_v, k_X4_firstBest_19, h8.2 (b + 1) (by omega) s hs, e]
  unfold pkO
  cases decide (rowV I (-1) (b + 1) s = rowV I (-1) b s) with
  | true => rfl
  | false => exact A
theorem or_nx {s : Nat} (hs : s < 64) {o : Option Nat} (ho : ∀ w, o = some w → w < 6) : (bif (!decide (opI o = (-1))) then nI s ||| ((1 : Int32) <<< (opI o &&& 31)) else nI s ||| 0) = nI (nxS s o) ∧ nxS s o < 64 := by
  cases o with
  | none =>
    refine ⟨?_, hs⟩
    rw [show (!decide (opI none = (-1))) = false by decide +kernel, cond_false, or0_32]
    rfl
  | some w =>
    have h6 := ho w rfl
    obtain ⟨⟨g1, g2⟩, -⟩ := bit6 s hs w h6
    refine ⟨?_, g2⟩
    show (bif (!decide (nI w = (-1))) then nI s ||| ((1 : Int32) <<< (nI w &&& 31)) else nI s ||| 0) = nI (s ||| 2 ^ w)
    rw [decide_eq_false (m1_ne (show w < 2 ^ 31 by omega)), Bool.not_false, cond_true, g1]
theorem wo_in (hT : RTold I) (hl : RLand I L) (ho : ROff I) (h8 : Tbl I J (-1)) {j : Nat} (hj : j < 6) : ∀ k b s x (get : Nat → Int32), b + k = j → s < 64 → V PR (d + 2) 67 19 [(0, vR (some (183, 0))), (1, vi (nI j)), (3, vi (nI s)), (4, vi x), (5, vi (nI b))] [] (mm n J L P E c z) = some (.inl (some (vi (asg (ofN I) (zW I) (nbI (-1)) (6 - b) b s.testBit get j))), mm n J L P E c z)
  | k, b, s, x, get, h, hs => by
    have hb : b < 6 := by omega
    have h6 := hT.2.2.1.2
    obtain ⟨n1, n2⟩ := or_nx hs (o := pkO I b s) (fun w hw => by have := pkO_lt hT w hw; omega)
    have e1 : V PR (d + 2) 67 19 [(0, vR (some (183, 0))), (1, vi (nI j)), (3, vi (nI s)), (4, vi x), (5, vi (nI b))] [] (mm n J L P E c z) = V PR (d + 2) 67 19 [(0, vR (some (183, 0))), (1, vi (nI j)), (3, vi (nI (nxS s (pkO I b s)))), (4, vi (opI (pkO I b s))), (5, vi (nI (b + 1)))] [] (mm n J L P E c z) := by
      rw [k_X4_wellOf_19, nI_ltd (by omega) (by omega), decide_eq_false (by omega), cond_false, show decide ((6 : Int32) ≤ nI b) = false from (nI_led (a := 6) (by decide) (by omega)).trans (decide_eq_false (by omega)), cond_false, c_firstBest hT hl ho h8 hb hs, Vk_v, k_X4_wellOf_39, nI_1, ← n1]
      cases decide (opI (pkO I b s) = (-1)) <;> rfl
    rw [e1, asg_pk hb]
    cases k with
    | zero =>
      have e : b = j := by omega
      subst e
      rw [k_X4_wellOf_19, nI_ltd (by omega) (by omega), decide_eq_true (by omega), cond_true, asg_lo _ _ _ _ (Nat.lt_succ_self b)]
      rw [show stG get b (opI (pkO I b s)) b = opI (pkO I b s) from if_pos rfl]
    | succ k => exact wo_in hT hl ho h8 hj k (b + 1) _ _ _ (by omega) n2
theorem c_wellOf (hT : RTold I) (hl : RLand I L) (hw : RWell I) (ho : ROff I) (h8 : T8 I J) {j x : Nat} (hj : j < 6) (hx : x < 365) (get : Nat → Int32) : ∃ J', V PR (d + 3) 67 0 [(0, vR (some (183, 0))), (1, vi (nI j)), (2, vi (nI x))] [] (mm n J L P E c z) = some (.inl (some (vi (asg (ofN I) (zW I) (nbI (-1)) 6 0 (gnN I x).testBit get j))), mm n J' L P E c z) ∧ T8 I J' := by
  obtain ⟨J', r1, r2⟩ := c_most (d := d) (n := n) (P := P) (E := E) (c := c) (s := z) hT hl hw ho h8 hx (-1)
  have W := wo_in (d := d + 1) (n := n) (P := P) (E := E) (c := c) (z := z) hT hl ho r2 hj j 0 (gnN I x) (-1) get (Nat.zero_add _) (gnN_lt hT x)
  refine ⟨J', ?_, r2.1⟩
  rw [k_X4_wellOf_0, r1, Vk_v, k_X4_wellOf_6, c_gone hT hl hw r2.1 hx, Vk_v, k_X4_wellOf_12]
  exact W
/-- memories alike but for the reference's trial -/
def T9 (I J : FI) : Prop := ∀ a r j, a ≠ 482 → a ≠ 483 → (a = 186 → j ≠ 49) → J a r j = I a r j
theorem T9.rfl' : T9 I I := fun _ _ _ _ _ _ => rfl
theorem T9.u2 (h : T9 I J) {r k : Nat} {x : Int32} : T9 I (up3 J 482 r k x) := fun a q j h1 h2 h3 => (up3_a h1).trans (h a q j h1 h2 h3)
theorem T9.u3 (h : T9 I J) {r k : Nat} {x : Int32} : T9 I (up3 J 483 r k x) := fun a q j h1 h2 h3 => (up3_a h2).trans (h a q j h1 h2 h3)
theorem T9.u1 (h : T9 I J) {r : Nat} {x : Int32} : T9 I (up3 J 186 r 49 x) := fun a q j h1 h2 h3 => (up3_x (fun e => h3 e.1 e.2)).trans (h a q j h1 h2 h3)
theorem T9.sil (h : T9 I J) (w : Nat) (x : Int32) : silB J w x = silB I w x := by
  unfold silB
  rw [h 198 _ _ (by decide) (by decide) (by decide), h 198 _ _ (by decide) (by decide) (by decide), h 190 _ _ (by decide) (by decide) (by decide), h 190 _ _ (by decide) (by decide) (by decide)]
/-- the best so far, in memory -/
def StR (J : FI) : Option (Nat × (Nat → Int32)) → Prop
  | none => J 186 0 49 = -1
  | some p => J 186 0 49 = nI p.1 ∧ p.1 ≤ 2000 ∧ ∀ j, j < 6 → J 483 0 j = p.2 j
theorem StR.congr {v : Nat} {f g : Nat → Int32} {st : Option (Nat × (Nat → Int32))} (h : StR J (btS v f st)) (e : ∀ j, j < 6 → f j = g j) : StR J (btS v g st) := by
  cases st with
  | none => exact ⟨h.1, h.2.1, fun j hj => (h.2.2 j hj).trans (e j hj)⟩
  | some p =>
    by_cases q : p.1 < v
    · rw [btS_lt q] at h ⊢
      exact ⟨h.1, h.2.1, fun j hj => (h.2.2 j hj).trans (e j hj)⟩
    · rw [btS_ge q] at h ⊢
      exact h
theorem StR.eq {st : Option (Nat × (Nat → Int32))} (h : StR J st) (e1 : M 186 0 49 = J 186 0 49) (e2 : ∀ j, M 483 0 j = J 483 0 j) : StR M st := by
  cases st with
  | none => exact e1.trans h
  | some p => exact ⟨e1.trans h.1, h.2.1, fun j hj => (e2 j).trans (h.2.2 j hj)⟩
theorem sh_copy : ∀ r j (J : FI), j + r = 6 → T9 I J → ∃ J', V PR d 304 23 [(0, vR (some (186, 0))), (6, vi (nI j))] [] (mm n J L P E c z) = some (.inl none, mm n J' L P E c z) ∧ T9 I J' ∧ J' 186 0 49 = J 186 0 49 ∧ (∀ k, J' 482 0 k = J 482 0 k) ∧ ∀ k, J' 483 0 k = if j ≤ k ∧ k < 6 then J 482 0 k else J 483 0 k
  | 0, j, J, h, h9 => by
    refine ⟨J, ?_, h9, rfl, fun _ => rfl, fun k => by rw [if_neg (by omega)]⟩
    rw [k_X12_shares_23, show decide ((6 : Int32) ≤ nI j) = true from (nI_led (a := 6) (by decide) (by omega)).trans (decide_eq_true (by omega)), cond_true]
  | r + 1, j, J, h, h9 => by
    obtain ⟨J', r1, r2, r3, r4, r5⟩ := sh_copy r (j + 1) (up3 J 483 0 j (J 482 0 j)) (by omega) h9.u3
    refine ⟨J', ?_, r2, r3.trans (up3_a (by decide)), fun k => (r4 k).trans (up3_a (by decide)), fun k => ?_⟩
    · rw [k_X12_shares_23, show decide ((6 : Int32) ≤ nI j) = false from (nI_led (a := 6) (by decide) (by omega)).trans (decide_eq_false (by omega)), cond_false, inb_nI (show j < 6 by omega) (by decide), cond_true, cond_true, nI_clamp (by omega), nI_1]
      exact r1
    · rw [r5 k, up3_a (show 482 ≠ 483 by decide)]
      by_cases e : k = j
      · subst e
        rw [if_neg (by omega), up3_i, if_pos (by omega)]
      · rw [up3_k e]
        by_cases e2 : j ≤ k ∧ k < 6
        · rw [if_pos (by omega), if_pos e2]
        · rw [if_neg (by omega), if_neg e2]
theorem sh_leaf {v : Nat} {bu x sx : Int32} {st : Option (Nat × (Nat → Int32))} (hv : v ≤ 2000) (h9 : T9 I J) (hs : StR J st) : ∃ J', V PR (d + 1) 304 0 [(0, vR (some (186, 0))), (1, vi (nI 6)), (2, vi sx), (3, vi (nI v)), (4, vi bu), (5, vi x)] [] (mm n J L P E c z) = some (.inl none, mm n J' L P E c z) ∧ T9 I J' ∧ (∀ k, J' 482 0 k = J 482 0 k) ∧ StR J' (btS v (fun j => J 482 0 j) st) := by
  have A : J 186 0 49 < nI v → ∃ J', V PR (d + 1) 304 0 [(0, vR (some (186, 0))), (1, vi (nI 6)), (2, vi sx), (3, vi (nI v)), (4, vi bu), (5, vi x)] [] (mm n J L P E c z) = some (.inl none, mm n J' L P E c z) ∧ T9 I J' ∧ (∀ k, J' 482 0 k = J 482 0 k) ∧ StR J' (some (v, fun j => J 482 0 j)) := fun hlt => by
    obtain ⟨J', r1, r2, r3, r4, r5⟩ := sh_copy (d := d + 1) (n := n) (L := L) (P := P) (E := E) (c := c) (z := z) 6 0 (up3 J 186 0 49 (nI v)) (Nat.zero_add _) h9.u1
    refine ⟨J', ?_, r2, fun k => (r4 k).trans (up3_a (by decide)), r3.trans (up3_i _ _ _ _ _), hv, fun j hj => ?_⟩
    · rw [k_X12_shares_0, show (!decide (nI 6 = (6 : Int32))) = false by decide +kernel, cond_false, decide_eq_true hlt, cond_true]
      exact r1
    · rw [r5 j, if_pos ⟨Nat.zero_le _, hj⟩]
      exact up3_a (by decide)
  cases st with
  | none =>
    refine A ?_
    rw [show J 186 0 49 = -1 from hs]
    apply Int32.lt_iff_toInt_lt.mpr
    rw [nI_toInt (by omega)]
    have : (-1 : Int32).toInt = -1 := by decide +kernel
    omega
  | some p =>
    obtain ⟨s1, s2, s3⟩ := id hs
    by_cases q : p.1 < v
    · rw [btS_lt q]
      refine A ?_
      rw [s1]
      exact of_decide_eq_true ((nI_ltd (by omega) (by omega)).trans (decide_eq_true q))
    · rw [btS_ge q]
      refine ⟨J, ?_, h9, fun _ => rfl, hs⟩
      rw [k_X12_shares_0, show (!decide (nI 6 = (6 : Int32))) = false by decide +kernel, cond_false, s1, nI_ltd (by omega) (by omega), decide_eq_false q, cond_false]
/-- what is gone: taken, or silent -/
def gG (I : FI) (s x : Nat) : Nat → Bool := fun v => s.testBit v || (gnN I x).testBit v
theorem adS_g (I : FI) (s x w : Nat) : adS (gG I s x) w = gG I (s ||| 2 ^ w) x := by
  funext v
  show (decide (v = w) || (s.testBit v || (gnN I x).testBit v)) = ((s ||| 2 ^ w).testBit v || (gnN I x).testBit v)
  rw [← adS_tb]
  show (decide (v = w) || (s.testBit v || (gnN I x).testBit v)) = ((decide (v = w) || s.testBit v) || (gnN I x).testBit v)
  rw [Bool.or_assoc]
def mxI (I : FI) (bu : Int32) (r b : Nat) (G : Nat → Bool) : Nat := mx (ofN I) (zW I) (nbI bu) r b G
def asI (I : FI) (bu : Int32) (r b : Nat) (G : Nat → Bool) (get : Nat → Int32) : Nat → Int32 := asg (ofN I) (zW I) (nbI bu) r b G get
theorem mxI_le (hT : RTold I) (ho : ROff I) (bu : Int32) {r b : Nat} (h : b + r = 6) (G : Nat → Bool) : mxI I bu r b G ≤ 99 * r := by
  have h6 := hT.2.2.1.2
  exact mx_bd (off := ofN I) (W := zW I) (nb := nbI bu) (fun b w h1 h2 => of_le ho h1 (by omega)) r b G h
/-- one trial told -/
def ShT (d : Nat) (I : FI) (L : FL) (P : FR) (E : FE) (c z n : Nat) (bu : Int32) (x r b : Nat) : Prop := ∀ s v (J : FI) st, s < 64 → v + 99 * r ≤ 2000 → T9 I J → StR J st → ∃ J', V PR (d + r + 1) 304 0 [(0, vR (some (186, 0))), (1, vi (nI b)), (2, vi (nI s)), (3, vi (nI v)), (4, vi bu), (5, vi (nI x))] [] (mm n J L P E c z) = some (.inl none, mm n J' L P E c z) ∧ T9 I J' ∧ (∀ k, k < b → J' 482 0 k = J 482 0 k) ∧ StR J' (btS (v + mxI I bu r b (gG I s x)) (asI I bu r b (gG I s x) fun j => J 482 0 j) st)
theorem sh_in (hT : RTold I) (ho : ROff I) {bu : Int32} {x r b s v : Nat} {st : Option (Nat × (Nat → Int32))} {get : Nat → Int32} (hb : b + (r + 1) = 6) (hs : s < 64) (hv : v + 99 * (r + 1) ≤ 2000) (IH : ShT (d + 1) I L P E c z n bu x r (b + 1)) (hnb : nbI bu b = false) : ∀ k w (J : FI) (p : Nat × (Nat → Int32)), w + k = zW I → T9 I J → (∀ j, j < b → J 482 0 j = get j) → StR J (btS (v + p.1) p.2 st) → ∃ J', V PR (d + 1 + r + 1 + 1) 304 74 [(0, vR (some (186, 0))), (1, vi (nI b)), (2, vi (nI s)), (3, vi (nI v)), (4, vi bu), (5, vi (nI x)), (6, vi (nI w))] [] (mm n J L P E c z) = some (.inl none, mm n J' L P E c z) ∧ T9 I J' ∧ (∀ j, j < b → J' 482 0 j = get j) ∧ StR J' (btS (v + (cdF (fun w => ofN I b w + mxI I bu r (b + 1) (adS (gG I s x) w)) (fun w => asI I bu r (b + 1) (adS (gG I s x) w) (stG get b (nI w))) (gG I s x) w p k).1) (cdF (fun w => ofN I b w + mxI I bu r (b + 1) (adS (gG I s x) w)) (fun w => asI I bu r (b + 1) (adS (gG I s x) w) (stG get b (nI w))) (gG I s x) w p k).2 st)
  | 0, w, J, p, h, h9, hg, hst => by
    have h6 := hT.2.2.1.2
    have e9 : J 190 0 2 = nI (zW I) := (h9 190 0 2 (by decide) (by decide) (by decide)).trans hT.2.2.1.1
    refine ⟨J, ?_, h9, hg, hst⟩
    rw [k_X12_shares_74, e9, nI_led (by omega) (by omega), decide_eq_true (by omega), cond_true]
  | k + 1, w, J, p, h, h9, hg, hst => by
    have h6 := hT.2.2.1.2
    have hw6 : w < 6 := by omega
    have e9 : J 190 0 2 = nI (zW I) := (h9 190 0 2 (by decide) (by decide) (by decide)).trans hT.2.2.1.1
    obtain ⟨⟨g1, g2⟩, -, g3⟩ := bit6 s hs w hw6
    have hS : cdF (fun w => ofN I b w + mxI I bu r (b + 1) (adS (gG I s x) w)) (fun w => asI I bu r (b + 1) (adS (gG I s x) w) (stG get b (nI w))) (gG I s x) w p (k + 1) = cdF (fun w => ofN I b w + mxI I bu r (b + 1) (adS (gG I s x) w)) (fun w => asI I bu r (b + 1) (adS (gG I s x) w) (stG get b (nI w))) (gG I s x) (w + 1) (bif !gG I s x w && decide (p.1 < ofN I b w + mxI I bu r (b + 1) (adS (gG I s x) w)) then (ofN I b w + mxI I bu r (b + 1) (adS (gG I s x) w), asI I bu r (b + 1) (adS (gG I s x) w) (stG get b (nI w))) else p) k := rfl
    have hgw : gG I s x w = (s.testBit w || silB I w (nI x)) := by
      show (s.testBit w || (gnN I x).testBit w) = _
      rw [gn_tb, decide_eq_true (show w < zW I by omega), Bool.true_and]
    rw [hS, k_X12_shares_74, e9, nI_led (by omega) (by omega), decide_eq_false (by omega), cond_false, show decide (nI b = bu) = nbI bu b from rfl, hnb, cond_false, g3, nI_1]
    cases htb : s.testBit w with
    | true =>
      rw [hgw, htb, Bool.true_or, Bool.not_true, Bool.false_and, cond_true, cond_false]
      exact sh_in hT ho hb hs hv IH hnb k (w + 1) J p (by omega) h9 hg hst
    | false =>
      rw [cond_false, c_isSilent hw6, Vk_v, h9.sil, k_X12_shares_109, b2i_eq0, nI_1, nI_1]
      cases hsl : silB I w (nI x) with
      | true =>
        rw [hgw, htb, hsl, Bool.or_true, Bool.not_true, Bool.false_and, cond_false, cond_false]
        exact sh_in hT ho hb hs hv IH hnb k (w + 1) J p (by omega) h9 hg hst
      | false =>
        have h309 : (up3 J 482 0 b (nI w)) 309 (b + 1) w = nI (ofN I b w) := (up3_a (by decide)).trans ((h9 309 _ _ (by decide) (by decide) (fun e => absurd e (by decide))).trans (of_309 ho (by omega) hw6))
        have hof := of_le ho (show b < 6 by omega) hw6
        have hmx := mxI_le hT ho bu (show (b + 1) + r = 6 by omega) (gG I (s ||| 2 ^ w) x)
        obtain ⟨J1, r1, r2, r3, r4⟩ := IH (s ||| 2 ^ w) (v + ofN I b w) (up3 J 482 0 b (nI w)) (btS (v + p.1) p.2 st) g2 (by omega) h9.u2 (hst.eq (up3_a (by decide)) (fun j => up3_a (by decide)))
        have r5 : StR J1 (btS (v + (ofN I b w + mxI I bu r (b + 1) (adS (gG I s x) w))) (asI I bu r (b + 1) (adS (gG I s x) w) (stG get b (nI w))) (btS (v + p.1) p.2 st)) := by
          rw [adS_g, ← Nat.add_assoc]
          refine r4.congr fun j hj => ?_
          refine asg_congr hj r (b + 1) _ _ _ (by omega) fun k hk => ?_
          unfold stG
          by_cases e : k = b
          · subst e; rw [if_pos rfl]; exact up3_i _ _ _ _ _
          · rw [if_neg e]; exact (up3_k e).trans (hg k (by omega))
        rw [bt_bt] at r5
        have e7 : decide (v + p.1 < v + (ofN I b w + mxI I bu r (b + 1) (adS (gG I s x) w))) = decide (p.1 < ofN I b w + mxI I bu r (b + 1) (adS (gG I s x) w)) := by rw [decide_eq_decide]; omega
        rw [e7] at r5
        have r6 : StR J1 (btS (v + (bif decide (p.1 < ofN I b w + mxI I bu r (b + 1) (adS (gG I s x) w)) then (ofN I b w + mxI I bu r (b + 1) (adS (gG I s x) w), asI I bu r (b + 1) (adS (gG I s x) w) (stG get b (nI w))) else p).1) (bif decide (p.1 < ofN I b w + mxI I bu r (b + 1) (adS (gG I s x) w)) then (ofN I b w + mxI I bu r (b + 1) (adS (gG I s x) w), asI I bu r (b + 1) (adS (gG I s x) w) (stG get b (nI w))) else p).2 st) := by
          cases hq : decide (p.1 < ofN I b w + mxI I bu r (b + 1) (adS (gG I s x) w)) with
          | true => rw [hq] at r5; exact r5
          | false => rw [hq] at r5; exact r5
        have hg1 : ∀ j, j < b → J1 482 0 j = get j := fun j hj => (r3 j (by omega)).trans ((up3_k (by omega)).trans (hg j hj))
        obtain ⟨J2, q1, q2, q3, q4⟩ := sh_in hT ho hb hs hv IH hnb k (w + 1) J1 _ (by omega) r2 hg1 r6
        refine ⟨J2, ?_, q2, q3, ?_⟩
        · rw [Bool.not_false, cond_true, inb_nI (show b < 6 by omega) (by decide), cond_true, cond_true, nI_clamp (by omega), aro_309, blt_t (show b < 6 by omega), inb_nI hw6 (by decide), nI_clamp (show w < 2 ^ 31 by omega), h309, g1, nI_add]
          rw [Bool.true_and, cond_true, r1, Vk_n, k_X12_shares_151, nI_1]
          exact q1
        · rw [hgw, htb, hsl, Bool.or_false, Bool.not_false, Bool.true_and]
          exact q4
theorem sh_R (hT : RTold I) (ho : ROff I) {bu : Int32} {x : Nat} : ∀ r b, b + r = 6 → ShT (d + 1) I L P E c z n bu x r b
  | 0, b, hb => fun s v J st hs hv h9 hst => by
    have e : b = 6 := by omega
    subst e
    obtain ⟨J', r1, r2, r3, r4⟩ := sh_leaf (d := d + 1) (n := n) (L := L) (P := P) (E := E) (c := c) (z := z) (v := v) (bu := bu) (x := nI x) (sx := nI s) (by omega) h9 hst
    exact ⟨J', r1, r2, fun k _ => r3 k, r4⟩
  | r + 1, b, hb => fun s v J st hs hv h9 hst => by
    have IH : ShT (d + 1) I L P E c z n bu x r (b + 1) := sh_R hT ho r (b + 1) (by omega)
    obtain ⟨J1, r1, r2, r3, r4⟩ := IH s v (up3 J 482 0 b (-1)) st hs (by omega) h9.u2 (hst.eq (up3_a (by decide)) (fun j => up3_a (by decide)))
    have hg1 : ∀ j, j < b → J1 482 0 j = J 482 0 j := fun j hj => (r3 j (by omega)).trans (up3_k (by omega))
    have eg : (fun j => (up3 J 482 0 b (-1)) 482 0 j) = stG (fun j => J 482 0 j) b (-1) := by
      funext j
      unfold stG
      by_cases e : j = b
      · subst e; rw [if_pos rfl]; exact up3_i _ _ _ _ _
      · rw [if_neg e]; exact up3_k e
    rw [eg] at r4
    have h6 := hT.2.2.1.2
    have e9 : J1 190 0 2 = nI (zW I) := (r2 190 0 2 (by decide) (by decide) (by decide)).trans hT.2.2.1.1
    have E1 : V PR (d + 1 + (r + 1) + 1) 304 0 [(0, vR (some (186, 0))), (1, vi (nI b)), (2, vi (nI s)), (3, vi (nI v)), (4, vi bu), (5, vi (nI x))] [] (mm n J L P E c z) = V PR (d + 1 + r + 1 + 1) 304 74 [(0, vR (some (186, 0))), (1, vi (nI b)), (2, vi (nI s)), (3, vi (nI v)), (4, vi bu), (5, vi (nI x)), (6, vi (nI 0))] [] (mm n J1 L P E c z) := by
      have e6 : decide (nI b = (6 : Int32)) = false := decide_eq_false (fun q => absurd ((nI_eq (b := 6) (by omega) (by decide)).mp q) (by omega))
      refine (k_X12_shares_0 (d + 1 + r + 1) ..).trans ?_
      rw [e6, Bool.not_false, cond_true, inb_nI (show b < 6 by omega) (by decide), cond_true, nI_clamp (by omega), nI_1, r1, Vk_n, k_X12_shares_71]
      rfl
    cases hnb : nbI bu b with
    | true =>
      refine ⟨J1, ?_, r2, hg1, ?_⟩
      · rw [E1, k_X12_shares_74, e9, show decide (nI b = bu) = nbI bu b from rfl, hnb, cond_true]
        cases decide (nI (zW I) ≤ nI 0) <;> rfl
      · have e1 : mxI I bu (r + 1) b (gG I s x) = mxI I bu r (b + 1) (gG I s x) := by
          show (bif nbI bu b then mx (ofN I) (zW I) (nbI bu) r (b + 1) (gG I s x) else _) = _
          rw [hnb, cond_true]
          rfl
        have e2 : asI I bu (r + 1) b (gG I s x) (fun j => J 482 0 j) = asI I bu r (b + 1) (gG I s x) (stG (fun j => J 482 0 j) b (-1)) := by
          unfold asI
          conv => lhs; unfold asg
          rw [hnb, Bool.true_or, cond_true]
        rw [e1, e2]
        exact r4
    | false =>
      obtain ⟨J2, q1, q2, q3, q4⟩ := sh_in (d := d) hT ho hb hs hv IH hnb (zW I) 0 J1 (mxI I bu r (b + 1) (gG I s x), asI I bu r (b + 1) (gG I s x) (stG (fun j => J 482 0 j) b (-1))) (Nat.zero_add _) r2 hg1 r4
      refine ⟨J2, E1.trans q1, q2, q3, ?_⟩
      have e1 : mxI I bu (r + 1) b (gG I s x) = mxW (fun w => ofN I b w + mxI I bu r (b + 1) (adS (gG I s x) w)) (gG I s x) 0 (mxI I bu r (b + 1) (gG I s x)) (zW I) := by
        show (bif nbI bu b then _ else mxW (fun w => ofN I b w + mx (ofN I) (zW I) (nbI bu) r (b + 1) (adS (gG I s x) w)) (gG I s x) 0 (mx (ofN I) (zW I) (nbI bu) r (b + 1) (gG I s x)) (zW I)) = _
        rw [hnb, cond_false]
        rfl
      rw [cdF_1, cdF_2] at q4
      rw [e1]
      have e2 : asI I bu (r + 1) b (gG I s x) (fun j => J 482 0 j) = bif decide (mxI I bu r (b + 1) (gG I s x) = mxI I bu (r + 1) b (gG I s x)) then asI I bu r (b + 1) (gG I s x) (stG (fun j => J 482 0 j) b (-1)) else (match fsO (fun w => !gG I s x w && decide (ofN I b w + mxI I bu r (b + 1) (adS (gG I s x) w) = mxI I bu (r + 1) b (gG I s x))) 0 (zW I) with
        | some w => asI I bu r (b + 1) (adS (gG I s x) w) (stG (fun j => J 482 0 j) b (nI w))
        | none => asI I bu r (b + 1) (gG I s x) (stG (fun j => J 482 0 j) b (-1))) := by
        unfold asI mxI
        conv => lhs; unfold asg
        rw [hnb, Bool.false_or]
        cases decide (mx (ofN I) (zW I) (nbI bu) r (b + 1) (gG I s x) = mx (ofN I) (zW I) (nbI bu) (r + 1) b (gG I s x)) with
        | true => rfl
        | false =>
          rw [cond_false, cond_false]
          cases fsO (fun w => !gG I s x w && decide (ofN I b w + mx (ofN I) (zW I) (nbI bu) r (b + 1) (adS (gG I s x) w) = mx (ofN I) (zW I) (nbI bu) (r + 1) b (gG I s x))) 0 (zW I) with
          | none => rfl
          | some w => rfl
      rw [e2, e1]
      exact q4
end Shares
