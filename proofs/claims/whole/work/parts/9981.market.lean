/-! DAYS SOLD, 2: the class's table. -/
section Market
variable {d n t : Nat} {I J M : FI} {L K N : FL} {P : FR} {E : FE} {c s z : Nat}
/-- what a buyer pays for a well -/
def ofN (I : FI) (b w : Nat) : Nat := (I 309 (b + 1) w).toNatClampNeg
theorem of_le (ho : ROff I) {b w : Nat} (hb : b < 6) (hw : w < 6) : ofN I b w ≤ 99 := by
  obtain ⟨-, p, h1, h2⟩ := ho b w hb hw
  unfold ofN
  rw [h1, nI_clamp (by omega)]
  exact h2
theorem of_309 (ho : ROff I) {b w : Nat} (hb : b < 6) (hw : w < 6) : I 309 (b + 1) w = nI (ofN I b w) := by
  obtain ⟨-, p, h1, h2⟩ := ho b w hb hw
  unfold ofN
  rw [h1, nI_clamp (by omega)]
theorem of_134 (ho : ROff I) {b w : Nat} (hb : b < 6) (hw : w < 6) : I 134 0 (b * 6 + w) = nI (ofN I b w) := (ho b w hb hw).1.trans (of_309 ho hb hw)
theorem mul64 (a b : Nat) : nI a * (64 : Int32) + nI b = nI (a * 64 + b) := by
  rw [show (64 : Int32) = nI 64 from rfl, pk_mul, nI_add]
theorem bit6 : ∀ s, s < 64 → ∀ w, w < 6 → (nI s ||| ((1 : Int32) <<< (nI w &&& 31)) = nI (s ||| 2 ^ w) ∧ s ||| 2 ^ w < 64) ∧ decide (((nI s >>> (nI w &&& 31)) &&& (1 : Int32)) = 0) = !s.testBit w ∧ decide (((nI s >>> (nI w &&& 31)) &&& (1 : Int32)) = 1) = s.testBit w := by decide +kernel
theorem adS_tb (s w : Nat) : adS s.testBit w = (s ||| 2 ^ w).testBit := by
  funext v
  show (decide (v = w) || s.testBit v) = _
  rw [Nat.testBit_or, Nat.testBit_two_pow, Bool.or_comm]
  have e : decide (v = w) = decide (w = v) := by rw [decide_eq_decide]; exact eq_comm
  rw [e]
/-- memories alike but for the table -/
def T8 (I J : FI) : Prop := ∀ a r j, a ≠ 184 → J a r j = I a r j
theorem T8.up (h : T8 I J) {r k : Nat} {x : Int32} : T8 I (up3 J 184 r k x) := fun a q j ha => (up3_a ha).trans (h a q j ha)
theorem wt_n {b s : Nat} (hb : b < 6) (hs : s < 64) : V PR d 65 0 [(0, vR (some (183, 0))), (1, vi (nI b)), (2, vi (-1 : Int32)), (3, vi (nI s))] [] (mm n J L P E c z) = some (.inl (some (vi (J 184 0 ((b + 1) * 64 + s)))), mm n J L P E c z) := by
  rw [k_X4_with_0, show (!decide ((-1 : Int32) = (-1))) = false by decide +kernel, cond_false, nI_1, mul64, inb_nI (by omega) (by decide), cond_true, nI_clamp (by omega)]
theorem wt_w {b s w : Nat} (h8 : T8 I J) (ho : ROff I) (hb : b < 6) (hw : w < 6) (hs : s < 64) : V PR d 65 0 [(0, vR (some (183, 0))), (1, vi (nI b)), (2, vi (nI w)), (3, vi (nI s))] [] (mm n J L P E c z) = some (.inl (some (vi (bif s.testBit w then (-1) else nI (ofN I b w) + J 184 0 ((b + 1) * 64 + (s ||| 2 ^ w))))), mm n J L P E c z) := by
  obtain ⟨⟨h1, h2⟩, h3, -⟩ := bit6 s hs w hw
  rw [k_X4_with_0, decide_eq_false (m1_ne (show w < 2 ^ 31 by omega)), Bool.not_false, cond_true, h3]
  cases s.testBit w with
  | true => rfl
  | false =>
    rw [Bool.not_false, cond_true, mul6, inb_nI (show b * 6 + w < 36 by omega) (by decide), cond_true, nI_1, h1, mul64, inb_nI (by omega) (by decide), cond_true, nI_clamp (by omega), nI_clamp (by omega), h8 134 0 _ (by decide), of_134 ho hb hw, cond_false]
def nbI (bu : Int32) (b : Nat) : Bool := decide (nI b = bu)
theorem c_max {a b : Nat} (ha : a < 2 ^ 31) (hb : b < 2 ^ 31) : V PR d 4 0 [(0, vi (nI a)), (1, vi (nI b))] [] (mm n J L P E c s) = some (.inl (some (vi (nI (bif decide (a < b) then b else a)))), mm n J L P E c s) := by
  rw [k_J9_max_7cf53_0, nI_ltd ha hb]
  cases decide (a < b) <;> rfl
theorem c_max1 {a : Nat} (ha : a < 2 ^ 31) : V PR d 4 0 [(0, vi (nI a)), (1, vi (-1 : Int32))] [] (mm n J L P E c s) = some (.inl (some (vi (nI a))), mm n J L P E c s) := by
  rw [k_J9_max_7cf53_0]
  have : decide (nI a < (-1 : Int32)) = false := decide_eq_false fun q => by
    have h1 := Int32.lt_iff_toInt_lt.mp q
    rw [nI_toInt (by omega)] at h1
    have h2 : (-1 : Int32).toInt = -1 := by decide +kernel
    omega
  rw [this, cond_false]
theorem mkt_in (h8 : T8 I J) (hT : RTold I) (hl : RLand I L) (ho : ROff I) {x bu : Int32} {b s : Nat} (hb : b < 6) (hs : s < 64) {T : Nat → Nat} (hR : ∀ s', s' < 64 → J 184 0 ((b + 1) * 64 + s') = nI (T s') ∧ T s' ≤ 600) : ∀ k w v, w + k = zW I → v ≤ 700 → V PR (d + 1) 64 54 [(0, vR (some (183, 0))), (1, vi x), (2, vi bu), (3, vi (nI b)), (4, vi (nI s)), (5, vi (nI v)), (6, vi (nI w))] [] (mm n J L P E c z) = V PR (d + 1) 64 34 [(0, vR (some (183, 0))), (1, vi x), (2, vi bu), (3, vi (nI b)), (4, vi (nI (s + 1)))] [] (mm n (up3 J 184 0 (b * 64 + s) (nI (bif nbI bu b then v else mxW (fun w => ofN I b w + T (s ||| 2 ^ w)) s.testBit w v k))) L P E c z)
  | 0, w, v, h, hv => by
    have h6 := hT.2.2.1.2
    have e9 : J 103 0 2 = nI (zW I) := (h8 103 0 2 (by decide)).trans (hl.2.2.1.trans hT.2.2.1.1)
    rw [k_X4_most_54, e9, nI_led (by omega) (by omega), decide_eq_true (by omega), cond_true, mul64, inb_nI (by omega) (by decide), cond_true, nI_clamp (by omega), nI_1]
    show _ = V PR (d + 1) 64 34 [(0, vR (some (183, 0))), (1, vi x), (2, vi bu), (3, vi (nI b)), (4, vi (nI (s + 1)))] [] (mm n (up3 J 184 0 (b * 64 + s) (nI (bif nbI bu b then v else v))) L P E c z)
    cases nbI bu b <;> rfl
  | k + 1, w, v, h, hv => by
    have h6 := hT.2.2.1.2
    have e9 : J 103 0 2 = nI (zW I) := (h8 103 0 2 (by decide)).trans (hl.2.2.1.trans hT.2.2.1.1)
    have hS : mxW (fun w => ofN I b w + T (s ||| 2 ^ w)) s.testBit w v (k + 1) = mxW (fun w => ofN I b w + T (s ||| 2 ^ w)) s.testBit (w + 1) (bif !s.testBit w && decide (v < ofN I b w + T (s ||| 2 ^ w)) then ofN I b w + T (s ||| 2 ^ w) else v) k := rfl
    rw [k_X4_most_54, e9, nI_led (by omega) (by omega), decide_eq_false (by omega), cond_false, mul64, inb_nI (show b * 64 + s < 448 by omega) (by decide), cond_true, nI_clamp (by omega), nI_1, show decide (nI b = bu) = nbI bu b from rfl]
    cases hnb : nbI bu b with
    | true => rfl
    | false =>
      have hw6 : w < 6 := by omega
      obtain ⟨⟨g1, g2⟩, -⟩ := bit6 s hs w hw6
      obtain ⟨t1, t2⟩ := hR _ g2
      have := of_le ho hb hw6
      rw [cond_false, wt_w h8 ho hb hw6 hs, Vk_v, k_X4_most_82, t1, nI_add]
      have IH := fun v hv => mkt_in h8 hT hl ho (x := x) (bu := bu) hb hs hR k (w + 1) v (by omega) hv
      rw [hnb] at IH
      rw [cond_false, hS]
      cases hg : s.testBit w with
      | true =>
        rw [cond_true, c_max1 (by omega), Vk_v, k_X4_most_85, nI_1, Bool.not_true, Bool.false_and, cond_false]
        exact IH v hv
      | false =>
        rw [cond_false, c_max (by omega) (by omega), Vk_v, k_X4_most_85, nI_1, Bool.not_false, Bool.true_and]
        refine IH _ ?_
        cases decide (v < ofN I b w + T (s ||| 2 ^ w)) with
        | true => rw [cond_true]; omega
        | false => exact hv
/-- a row's right value -/
def rowV (I : FI) (bu : Int32) (b s : Nat) : Nat := mx (ofN I) (zW I) (nbI bu) (6 - b) b s.testBit
theorem rowV_le (hT : RTold I) (ho : ROff I) (bu : Int32) {b s : Nat} (hb : b ≤ 6) : rowV I bu b s ≤ 594 := by
  have h6 := hT.2.2.1.2
  have := mx_bd (off := ofN I) (W := zW I) (nb := nbI bu) (fun b w h1 h2 => of_le ho h1 (by omega)) (6 - b) b s.testBit (by omega)
  unfold rowV
  omega
theorem rowV_s (I : FI) (bu : Int32) {b s : Nat} (hb : b < 6) : rowV I bu b s = bif nbI bu b then rowV I bu (b + 1) s else mxW (fun w => ofN I b w + rowV I bu (b + 1) (s ||| 2 ^ w)) s.testBit 0 (rowV I bu (b + 1) s) (zW I) := by
  unfold rowV
  rw [show 6 - b = (6 - (b + 1)) + 1 by omega]
  show (bif nbI bu b then mx (ofN I) (zW I) (nbI bu) (6 - (b + 1)) (b + 1) s.testBit else mxW (fun w => ofN I b w + mx (ofN I) (zW I) (nbI bu) (6 - (b + 1)) (b + 1) (adS s.testBit w)) s.testBit 0 (mx (ofN I) (zW I) (nbI bu) (6 - (b + 1)) (b + 1) s.testBit) (zW I)) = _
  simp only [adS_tb]
theorem mkt_mid (hT : RTold I) (hl : RLand I L) (ho : ROff I) {x bu : Int32} {b : Nat} (hb : b < 6) : ∀ k s (J : FI), s + k = 64 → T8 I J → (∀ b', b < b' → b' ≤ 6 → ∀ s', s' < 64 → J 184 0 (b' * 64 + s') = nI (rowV I bu b' s')) → (∀ s', s' < s → J 184 0 (b * 64 + s') = nI (rowV I bu b s')) → ∃ J', V PR (d + 1) 64 34 [(0, vR (some (183, 0))), (1, vi x), (2, vi bu), (3, vi (nI b)), (4, vi (nI s))] [] (mm n J L P E c z) = V PR (d + 1) 64 27 [(0, vR (some (183, 0))), (1, vi x), (2, vi bu), (3, vi (nI b + (-1)))] [] (mm n J' L P E c z) ∧ T8 I J' ∧ ∀ b', b ≤ b' → b' ≤ 6 → ∀ s', s' < 64 → J' 184 0 (b' * 64 + s') = nI (rowV I bu b' s')
  | 0, s, J, h, h8, hR, hS => by
    refine ⟨J, ?_, h8, fun b' h1 h2 s' h3 => ?_⟩
    · rw [k_X4_most_34, show decide ((64 : Int32) ≤ nI s) = true from (nI_led (a := 64) (by decide) (by omega)).trans (decide_eq_true (by omega)), cond_true]
    · by_cases e : b' = b
      · subst e; exact hS s' (by omega)
      · exact hR b' (by omega) h2 s' h3
  | k + 1, s, J, h, h8, hR, hS => by
    have hs : s < 64 := by omega
    have hV := hR (b + 1) (by omega) (by omega) s hs
    have h1 := rowV_le hT ho bu (b := b + 1) (s := s) (by omega)
    have R := mkt_in h8 hT hl ho (d := d) (n := n) (P := P) (E := E) (c := c) (z := z) (x := x) (bu := bu) hb hs (T := rowV I bu (b + 1)) (fun s' h => ⟨hR (b + 1) (by omega) (by omega) s' h, by have := rowV_le hT ho bu (b := b + 1) (s := s') (by omega); omega⟩) (zW I) 0 (rowV I bu (b + 1) s) (Nat.zero_add _) (by omega)
    rw [← rowV_s I bu hb] at R
    obtain ⟨J', r1, r2, r3⟩ := mkt_mid hT hl ho (x := x) (bu := bu) hb k (s + 1) (up3 J 184 0 (b * 64 + s) (nI (rowV I bu b s))) (by omega) h8.up (fun b' h1 h2 s' h3 => (up3_k (by omega)).trans (hR b' h1 h2 s' h3)) (fun s' h1 => by
      by_cases e : s' = s
      · subst e; exact up3_i _ _ _ _ _
      · rw [up3_k (by omega)]; exact hS s' (by omega))
    refine ⟨J', ?_, r2, r3⟩
    rw [k_X4_most_34, show decide ((64 : Int32) ≤ nI s) = false from (nI_led (a := 64) (by decide) (by omega)).trans (decide_eq_false (by omega)), cond_false, wt_n hb hs, Vk_v, k_X4_most_49, hV]
    exact R.trans r1
theorem dec6 : ∀ b, b < 6 → nI (b + 1) + (-1) = nI b ∧ decide (nI b < 0) = false := by decide +kernel
theorem mkt_out (hT : RTold I) (hl : RLand I L) (ho : ROff I) {x bu : Int32} : ∀ b (J : FI), b ≤ 6 → T8 I J → (∀ b', b ≤ b' → b' ≤ 6 → ∀ s', s' < 64 → J 184 0 (b' * 64 + s') = nI (rowV I bu b' s')) → ∃ J', V PR (d + 1) 64 27 [(0, vR (some (183, 0))), (1, vi x), (2, vi bu), (3, vi (nI b + (-1)))] [] (mm n J L P E c z) = Vk d 64 125 [vR (some (184, 0))] [] (V PR d 66 0 [(0, vR (some (183, 0))), (1, vi x)] [] (mm n J' L P E c z)) ∧ T8 I J' ∧ ∀ b', b' ≤ 6 → ∀ s', s' < 64 → J' 184 0 (b' * 64 + s') = nI (rowV I bu b' s')
  | 0, J, hb, h8, hR => by
    refine ⟨J, ?_, h8, fun b' h1 => hR b' (Nat.zero_le _) h1⟩
    rw [k_X4_most_27, show decide (nI 0 + (-1) < (0 : Int32)) = true by decide +kernel, cond_true]
  | b + 1, J, hb, h8, hR => by
    obtain ⟨g1, g2⟩ := dec6 b (by omega)
    obtain ⟨J1, r1, r2, r3⟩ := mkt_mid (d := d) (n := n) (P := P) (E := E) (c := c) (z := z) hT hl ho (x := x) (bu := bu) (b := b) (by omega) 64 0 J (Nat.zero_add _) h8 (fun b' h1 => hR b' (by omega)) (fun s' h => absurd h (Nat.not_lt_zero _))
    obtain ⟨J2, q1, q2, q3⟩ := mkt_out hT hl ho (x := x) (bu := bu) b J1 (by omega) r2 r3
    exact ⟨J2, by rw [k_X4_most_27, g1, g2, cond_false]; exact r1.trans q1, q2, q3⟩
theorem mkt_z {x bu : Int32} : ∀ k s (J : FI), s + k = 64 → T8 I J → (∀ s', s' < s → J 184 0 (384 + s') = 0) → ∃ J', V PR d 64 2 [(0, vR (some (183, 0))), (1, vi x), (2, vi bu), (3, vi (nI s))] [] (mm n J L P E c z) = V PR d 64 27 [(0, vR (some (183, 0))), (1, vi x), (2, vi bu), (3, vi (5 : Int32))] [] (mm n J' L P E c z) ∧ T8 I J' ∧ ∀ s', s' < 64 → J' 184 0 (384 + s') = 0
  | 0, s, J, h, h8, hS => by
    refine ⟨J, ?_, h8, fun s' h1 => hS s' (by omega)⟩
    rw [k_X4_most_2, show decide ((64 : Int32) ≤ nI s) = true from (nI_led (a := 64) (by decide) (by omega)).trans (decide_eq_true (by omega)), cond_true]
  | k + 1, s, J, h, h8, hS => by
    obtain ⟨J', r1, r2, r3⟩ := mkt_z (x := x) (bu := bu) k (s + 1) (up3 J 184 0 (384 + s) 0) (by omega) h8.up (fun s' h1 => by
      by_cases e : s' = s
      · subst e; exact up3_i _ _ _ _ _
      · rw [up3_k (by omega)]; exact hS s' (by omega))
    refine ⟨J', ?_, r2, r3⟩
    rw [k_X4_most_2, show decide ((64 : Int32) ≤ nI s) = false from (nI_led (a := 64) (by decide) (by omega)).trans (decide_eq_false (by omega)), cond_false, show (384 : Int32) + nI s = nI (384 + s) by rw [show (384 : Int32) = nI 384 from rfl, nI_add], inb_nI (by omega) (by decide), cond_true, nI_clamp (by omega), nI_1]
    exact r1
/-- the silent wells of a day -/
def gnN (I : FI) (x : Nat) : Nat := gsN (fun w => !silB I w (nI x)) (zW I)
theorem gsN_tb (p : Nat → Bool) : ∀ k v, (gsN p k).testBit v = (decide (v < k) && !p v)
  | 0, v => by
    show (0 : Nat).testBit v = _
    rw [Nat.zero_testBit, decide_eq_false (Nat.not_lt_zero _), Bool.false_and]
  | k + 1, v => by
    have h1 := gsN_lt p k
    show (gsN p k + (bif p k then 0 else 2 ^ k)).testBit v = _
    cases hp : p k with
    | true =>
      rw [cond_true, Nat.add_zero, gsN_tb p k v]
      by_cases e : v = k
      · subst e; rw [hp, Bool.not_true, Bool.and_false, Bool.and_false]
      · have e2 : decide (v < k) = decide (v < k + 1) := by rw [decide_eq_decide]; omega
        rw [e2]
    | false =>
      rw [cond_false, Nat.add_comm]
      by_cases e : v = k
      · subst e
        rw [Nat.testBit_two_pow_add_eq, Nat.testBit_lt_two_pow h1, hp, decide_eq_true (Nat.lt_succ_self v)]
        rfl
      · by_cases e3 : v < k
        · rw [Nat.testBit_two_pow_add_gt e3, gsN_tb p k v, decide_eq_true e3, decide_eq_true (Nat.lt_succ_of_lt e3)]
        · rw [decide_eq_false (show ¬ v < k + 1 by omega), Bool.false_and]
          refine Nat.testBit_lt_two_pow (Nat.lt_of_lt_of_le (m := 2 ^ (k + 1)) ?_ (Nat.pow_le_pow_right (by decide) (by omega)))
          rw [Nat.pow_succ]
          omega
theorem gnN_lt (hT : RTold I) (x : Nat) : gnN I x < 64 := Nat.lt_of_lt_of_le (gsN_lt _ _) (Nat.pow_le_pow_right (n := 2) (by decide) hT.2.2.1.2)
theorem gn_tb (I : FI) (x v : Nat) : (gnN I x).testBit v = (decide (v < zW I) && silB I v (nI x)) := by
  unfold gnN
  rw [gsN_tb, Bool.not_not]
theorem c_goneOn (hT : RTold I) (hl : RLand I L) (hw : RWell I) (h8 : T8 I J) {x : Nat} (hx : x < 365) : ∀ r e, e + r = zW I → V PR (d + 1) 66 4 [(0, vR (some (183, 0))), (1, vi (nI x)), (2, vi (nI (gsN (fun w => !silB I w (nI x)) e))), (3, vi (nI e))] [] (mm n J L P E c s) = some (.inl (some (vi (nI (gnN I x)))), mm n J L P E c s)
  | 0, e, he => by
    have h6 := hT.2.2.1.2
    have e9 : J 103 0 2 = nI (zW I) := (h8 103 0 2 (by decide)).trans (hl.2.2.1.trans hT.2.2.1.1)
    rw [k_X4_goneOn_4, e9, nI_led (by omega) (by omega), decide_eq_true (by omega), cond_true, show e = zW I by omega]
    rfl
  | r + 1, e, he => by
    have h6 := hT.2.2.1.2
    have e9 : J 103 0 2 = nI (zW I) := (h8 103 0 2 (by decide)).trans (hl.2.2.1.trans hT.2.2.1.1)
    have eh : husB J e (nI x) = silB I e (nI x) := by
      rw [← hus_sil hw hl (show e < zW I by omega) hx hT]
      unfold husB
      rw [h8 109 _ _ (by decide), h8 110 _ _ (by decide), h8 103 _ _ (by decide), h8 103 _ _ (by decide)]
    have A := c_goneOn hT hl hw h8 hx r (e + 1) (by omega)
    have hS : gsN (fun w => !silB I w (nI x)) (e + 1) = gsN (fun w => !silB I w (nI x)) e + (bif !silB I e (nI x) then 0 else 2 ^ e) := rfl
    rw [hS] at A
    rw [k_X4_goneOn_4, e9, nI_led (by omega) (by omega), decide_eq_false (by omega), cond_false, c_hushed (by omega), Vk_v, eh, k_X4_goneOn_25, b2i_eq0, nI_1, or0_32, or_bit (gsN_lt _ e) (by omega)]
    cases hp : silB I e (nI x) with
    | true => rw [hp] at A; exact A
    | false => rw [hp] at A; exact A
theorem c_gone (hT : RTold I) (hl : RLand I L) (hw : RWell I) (h8 : T8 I J) {x : Nat} (hx : x < 365) : V PR (d + 1) 66 0 [(0, vR (some (183, 0))), (1, vi (nI x))] [] (mm n J L P E c s) = some (.inl (some (vi (nI (gnN I x)))), mm n J L P E c s) := by
  rw [k_X4_goneOn_0]
  exact c_goneOn hT hl hw h8 hx (zW I) 0 (Nat.zero_add _)
/-- the table filled -/
def Tbl (I J : FI) (bu : Int32) : Prop := T8 I J ∧ ∀ b', b' ≤ 6 → ∀ s', s' < 64 → J 184 0 (b' * 64 + s') = nI (rowV I bu b' s')
theorem c_most (hT : RTold I) (hl : RLand I L) (hw : RWell I) (ho : ROff I) (h8 : T8 I J) {x : Nat} (hx : x < 365) (bu : Int32) : ∃ J', V PR (d + 2) 64 0 [(0, vR (some (183, 0))), (1, vi (nI x)), (2, vi bu)] [] (mm n J L P E c s) = some (.inl (some (vi (nI (rowV I bu 0 (gnN I x))))), mm n J' L P E c s) ∧ Tbl I J' bu := by
  obtain ⟨J1, r1, r2, r3⟩ := mkt_z (d := d + 2) (n := n) (L := L) (P := P) (E := E) (c := c) (z := s) (x := nI x) (bu := bu) 64 0 J (Nat.zero_add _) h8 (fun s' h => absurd h (Nat.not_lt_zero _))
  obtain ⟨J2, q1, q2, q3⟩ := mkt_out (d := d + 1) (n := n) (P := P) (E := E) (c := c) (z := s) hT hl ho (x := nI x) (bu := bu) 6 J1 (Nat.le_refl _) r2 (fun b' h1 h2 s' h3 => by
    have e : b' = 6 := by omega
    subst e
    exact r3 s' h3)
  refine ⟨J2, ?_, q2, q3⟩
  have r1' : V PR (d + 2) 64 2 [(0, vR (some (183, 0))), (1, vi (nI x)), (2, vi bu), (3, vi (0 : Int32))] [] (mm n J L P E c s) = V PR (d + 2) 64 27 [(0, vR (some (183, 0))), (1, vi (nI x)), (2, vi bu), (3, vi (nI 6 + (-1)))] [] (mm n J1 L P E c s) := r1
  have hg := gnN_lt hT x
  have hq := q3 0 (by decide) _ hg
  rw [Nat.zero_mul, Nat.zero_add] at hq
  rw [k_X4_most_0, r1', q1, c_gone hT hl hw q2 hx, Vk_v, k_X4_most_128, inb_nI (by omega) (by decide), cond_true, nI_clamp (by omega), hq]
end Market
