/-! PROMISES 34, 51: alike, odds. -/
section Count
variable {d n t : Nat} {I J : FI} {L K : FL} {P : FR} {E : FE} {c s : Nat}
theorem bsum_bits {x y z : Nat} : ∀ m k, (∀ j, k ≤ j → j < k + m → z / 2 ^ j % 2 = x / 2 ^ j % 2 + y / 2 ^ j % 2) → bsum z k m = bsum x k m + bsum y k m
  | 0, k, h => rfl
  | m + 1, k, h => by
    have h1 := h k (Nat.le_refl _) (by omega)
    have h2 := bsum_bits m (k + 1) (fun j q1 q2 => h j (by omega) (by omega))
    show z / 2 ^ k % 2 + bsum z (k + 1) m = (x / 2 ^ k % 2 + bsum x (k + 1) m) + (y / 2 ^ k % 2 + bsum y (k + 1) m)
    omega
theorem pop_add {x y z : Int64} (h : ∀ s, s < 64 → tb z s = (tb x s != tb y s) ∧ (tb x s && tb y s) = false) : pcL z = pcL x + pcL y := by
  refine bsum_bits 64 0 fun j _ hj => ?_
  obtain ⟨h1, h2⟩ := h j (by omega)
  rw [bit_tb, bit_tb, bit_tb, h1]
  cases q1 : tb x j <;> cases q2 : tb y j <;> first | rfl | (rw [q1, q2] at h2; cases h2)
theorem pop_all : ∀ b, b ≤ 6 → pcL (allL b) = 2 ^ b := by decide +kernel
theorem pop_split (x y : Int64) : pcL x = pcL (x &&& y) + pcL (x &&& (y ^^^ (-1))) := pop_add fun s hs => by
  rw [tb_and, tb_and, not_x hs]
  cases tb x s <;> cases tb y s <;> exact ⟨rfl, rfl⟩
theorem pop_sub (x y : Int64) : pcL (x &&& y) ≤ pcL x := by
  have := pop_split x y
  omega
theorem sL_hi (hT : RTold I) (q x : Nat) {s : Nat} (h : 2 ^ zB I ≤ s) : tb (sL I q x) s = false := by
  rw [tb_sL hT, decide_eq_false (by omega), Bool.false_and]
theorem xor_comm64 (x y : Int64) : x ^^^ y = y ^^^ x := tb_ext fun s _ => by rw [tb_xor, tb_xor]; cases tb x s <;> cases tb y s <;> rfl
theorem Off.thrD (h : Cw t I L J K) : Cw t I L J K := h
theorem g_alike (h : Rl t I L P E c s) (hn : 6 * t + 6 ≤ n) (hN : n ≤ 3072) (ht : t ≤ 600) : LGo (d + 30) n t 32 I L P E c s := by
  refine en_32 h hn hN fun q u x hq hu hx eq eu ex h1 h2 h3 => ?_
  have H := h.cls ht
  obtain ⟨hT, hl, hw, hv, hb, hP, hc, -⟩ := id H
  obtain ⟨J, K, r1, d1⟩ := c_soOn (d := d + 24) (n := n) (s := s) H (show q < 7 by omega) hx h.dy0
  obtain ⟨J2, K2, r2, d2⟩ := c_soOn (d := d + 24) (n := n) (s := s) H (show u < 7 by omega) hx d1
  have hv1 : ∀ {y : Int64}, (∀ s, 2 ^ zB I ≤ s → tb y s = false) → nI (pcL (allL (zB I) &&& (y ^^^ (-1)))) = nI (2 ^ zB I) - nI (pcL y) := fun {y} hy => by
    have e := pop_split (allL (zB I)) y
    have e2 : allL (zB I) &&& y = y := tb_ext fun s _ => by
      rw [tb_and, tb_all (zB_le hT)]
      by_cases hs : s < 2 ^ zB I
      · rw [decide_eq_true hs, Bool.true_and]
      · rw [decide_eq_false hs, hy s (by omega), Bool.and_false]
    rw [pop_all _ (zB_le hT), e2] at e
    rw [pk_sub (by omega)]
    exact congrArg nI (by omega)
  have hy : ∀ s, 2 ^ zB I ≤ s → tb (sL I q x ^^^ sL I u x) s = false := fun s hs => by
    rw [tb_xor, sL_hi hT _ _ hs, sL_hi hT _ _ hs]
    rfl
  have k := kp0 (c := c) d2.1
  have hT2 := hT.keep k hc
  have hQ : ∀ q, q < 7 → QOk (up3 J2 186 0 0 0) q := fun q hq => (hP.keep k Kp.rfl' (fun _ _ => rfl) hc (Nat.le_refl _)).q (by omega)
  have hTJ : RTold J2 := hT.keep d2.1.kp hc
  have A : V PR (d + 28) 168 0 [(0, (vR (some (100, 0)))), (1, (vi (sc I t 1))), (2, (vi (sc I t 2))), (3, (vi (sc I t 3)))] [] (mm n I L P E c s) = some (.inl (some (vi (nI (2 ^ zB I) - nI (pcL (sL I q x ^^^ sL I u x))))), mm n J2 K2 P E c s) := by
    refine (cp_32 (d := d + 26) hT hl h1 h2 h3).trans ?_
    have e5 : K2 103 0 5 = allL (zB I) := (d2.2.1 103 0 5 (by decide) (by decide) (by decide)).trans hl.2.2.2.2.2.1
    rw [eq, eu, ex, k_X11_alike_15, r1, Vk_v, k_X11_alike_24, r2, Vk_v, k_X11_alike_33, c_bitL, Vk_v, k_X11_alike_53, e5, hv1 hy]
  have B : ∀ lv, ∃ M, Off (up3 J2 186 0 0 0) M ∧ V PR (d + 29) 299 0 [(0, (vR (some (186, 0)))), (1, (vi (sc I t 1))), (2, (vi (sc I t 2))), (3, (vi (sc I t 3)))] [] (mm n J2 (up3 K2 486 0 0 lv) P E c s) = some (.inl (some (vi (nI (2 ^ zB I) - nI (pcL (sL I q x ^^^ sL I u x))))), mm n M (up3 K2 486 0 0 lv) P E c s) := fun lv => by
    obtain ⟨M1, m1, s1⟩ := c_statesBy (d := d + 24) (n := n) (L := up3 K2 486 0 0 lv) (P := P) (E := E) (c := c) (s := s) hT2 (hw.keep k hc) (hv.keep k hc) hc (show q < 7 by omega) (hQ q (by omega)) hx Off.rfl'
    obtain ⟨M2, m2, s2⟩ := c_statesBy (d := d + 24) (n := n) (L := up3 K2 486 0 0 lv) (P := P) (E := E) (c := c) (s := s) hT2 (hw.keep k hc) (hv.keep k hc) hc (show u < 7 by omega) (hQ u (by omega)) hx m1
    rw [sL_k k hc] at s1 s2
    refine ⟨M2, m2, (rp_32 (d := d + 26) hTJ h1 h2 h3).trans ?_⟩
    have e9 : (1 : Int32) <<< (((up3 J2 186 0 0 0) 190 0 0 + (up3 J2 186 0 0 0) 190 0 3) &&& 31) = nI (2 ^ zB I) := (st_val hT2).trans (by rw [(kz k hc).2.2.2.2.2.2.2.2.2])
    rw [eq, eu, ex, k_X12_alike_37, d0t, cond_true, k_X12_statesOf_v2_0, Vk_v, k_X12_alike_49, s1, Vk_v, k_X12_alike_55, s2, Vk_v, k_X12_alike_61, c_ones, Vk_v, k_X12_alike_65, e9]
  obtain ⟨M, m1, m2⟩ := B ((nI (2 ^ zB I) - nI (pcL (sL I q x ^^^ sL I u x))).toInt64)
  obtain ⟨f1, f2, f3, f4⟩ := h.fin d2 m1 ((nI (2 ^ zB I) - nI (pcL (sL I q x ^^^ sL I u x))).toInt64)
  exact ⟨_, _, P, E, c, s, ok_32 (d := d + 28) (I1 := J2) _ hn hN f4 h.1.1 h.1.1 A m2 f2 f3, f1⟩
theorem rem_nI {a b : Nat} (ha : a < 2 ^ 31) (h0 : 0 < b) (hb : b < 2 ^ 31) : nI a - nI a / nI b * nI b = nI (a % b) := pk_rem ha h0 hb
theorem cd_C {a b : Nat} (ha : 0 < a) (ha2 : a ≤ 64) (hb2 : b ≤ 64) : ∀ p, Nat.gcd a b ≤ p → p ≤ 64 → V PR d 170 6 [(0, vi (nI a)), (1, vi (nI b)), (2, vi (nI p))] [] (mm n I L P E c s) = some (.inl (some (vi (nI (Nat.gcd a b)))), mm n I L P E c s)
  | 0, h, _ => by
    have := Nat.gcd_pos_of_pos_left b ha
    omega
  | p + 1, h, hp => by
    have hg := Nat.gcd_pos_of_pos_left b ha
    have q1 : decide (nI (p + 1) ≤ (1 : Int32)) = decide (p + 1 ≤ 1) := nI_led (b := 1) (by omega) (by decide)
    rw [k_X11_commonDivisor_6, q1]
    by_cases h0 : p = 0
    · rw [decide_eq_true (show p + 1 ≤ 1 by omega), cond_true, show Nat.gcd a b = p + 1 by omega]
    · rw [decide_eq_false (show ¬ p + 1 ≤ 1 by omega), cond_false, nI_is0 (by omega), decide_eq_false (show ¬ p + 1 = 0 by omega), cond_false, rem_nI (by omega) (by omega) (by omega), rem_nI (by omega) (by omega) (by omega), nI_is0 (by have := Nat.mod_lt a (show 0 < p + 1 by omega); omega), nI_is0 (by have := Nat.mod_lt b (show 0 < p + 1 by omega); omega), pk_m1]
      have ih : Nat.gcd a b ≠ p + 1 → V PR d 170 6 [(0, vi (nI a)), (1, vi (nI b)), (2, vi (nI p))] [] (mm n I L P E c s) = some (.inl (some (vi (nI (Nat.gcd a b)))), mm n I L P E c s) := fun hne => cd_C ha ha2 hb2 p (by omega) (by omega)
      by_cases qa : a % (p + 1) = 0
      · rw [decide_eq_true qa, Bool.not_true, cond_false, cond_false]
        by_cases qb : b % (p + 1) = 0
        · rw [decide_eq_true qb, cond_true]
          have := Nat.le_of_dvd hg (Nat.dvd_gcd (Nat.dvd_of_mod_eq_zero qa) (Nat.dvd_of_mod_eq_zero qb))
          rw [show Nat.gcd a b = p + 1 by omega]
        · rw [decide_eq_false qb, cond_false]
          exact ih fun e => qb (Nat.mod_eq_zero_of_dvd (e ▸ Nat.gcd_dvd_right a b))
      · rw [decide_eq_false qa, Bool.not_false, cond_true]
        exact ih fun e => qa (Nat.mod_eq_zero_of_dvd (e ▸ Nat.gcd_dvd_left a b))
theorem c_common {a b : Nat} (ha : 0 < a) (hb : 0 < b) (ha2 : a ≤ 64) (hb2 : b ≤ 64) : V PR (d + 1) 170 0 [(0, vi (nI a)), (1, vi (nI b))] [] (mm n I L P E c s) = some (.inl (some (vi (nI (Nat.gcd a b)))), mm n I L P E c s) := by
  have g1 := Nat.gcd_le_left b ha
  have g2 := Nat.gcd_le_right a hb
  rw [k_X11_commonDivisor_0, k_J9_min_7cf53_0, nI_ltd (by omega) (by omega)]
  by_cases h : b < a
  · rw [decide_eq_true h, cond_true, Vk_v, k_X11_commonDivisor_5]
    exact cd_C ha ha2 hb2 b g2 hb2
  · rw [decide_eq_false h, cond_false, Vk_v, k_X11_commonDivisor_5]
    exact cd_C ha ha2 hb2 a g1 ha2
theorem gcd_R {x2 x3 x4 : Int32} : ∀ b a, a ≤ 64 → b ≤ 64 → V PR d 323 69 [(2, vi x2), (3, vi x3), (4, vi x4), (5, vi (nI a)), (6, vi (nI b))] [] (mm n I L P E c s) = V PR d 323 69 [(2, vi x2), (3, vi x3), (4, vi x4), (5, vi (nI (Nat.gcd b a))), (6, vi (nI 0))] [] (mm n I L P E c s) := by
  intro b
  induction b using Nat.strongRecOn with
  | ind b ih =>
    intro a ha hb
    by_cases h0 : b = 0
    · subst h0
      rw [Nat.gcd_zero_left]
    · have hm := Nat.mod_lt a (show 0 < b by omega)
      have q0 : decide (nI b ≤ 0) = false := (nI_led (b := 0) (by omega) (by decide)).trans (decide_eq_false (by omega))
      have e := ih (a % b) hm b hb (by omega)
      rw [k_X12_odds_69 (x6 := nI b), q0, cond_false, nI_is0 (by omega), decide_eq_false h0, cond_false, rem_nI (by omega) (by omega) (by omega), e, ← Nat.gcd_rec b a]
/-- odds by how many are so of how many -/
def odV (low up : Nat) (b : Nat) : Int32 := if up = 0 then nI b else (if b = 0 then nI (up / Nat.gcd up low) else nI (low / Nat.gcd up low))
theorem g_odds (h : Rl t I L P E c s) (hn : 6 * t + 6 ≤ n) (hN : n ≤ 3072) (ht : t ≤ 600) : LGo (d + 30) n t 49 I L P E c s := by
  refine en_49 h hn hN fun x b hx hb ex eb h1 h2 => ?_
  have H := h.cls ht
  obtain ⟨hT, hl, hw, hv, hbit, hP, hc, -⟩ := id H
  have hd : RDia I L := h.2.2.2.2.2.2.1
  obtain ⟨J, K, r1, d1⟩ := c_soOn (d := d + 24) (n := n) (s := s) H (show 6 < 7 by omega) hx h.dy0
  have k := kp0 (c := c) d1.1
  have kk : Kp c L K := d1.2.1.kp
  have hT2 := hT.keep k hc
  have hQ : QOk (up3 J 186 0 0 0) 6 := (hP.keep k Kp.rfl' (fun _ _ => rfl) hc (Nat.le_refl _)).q (by omega)
  have hTJ : RTold J := hT.keep d1.1.kp hc
  obtain ⟨l, hle⟩ : ∃ l, l = lefV I L (-1) (zA I) := ⟨_, rfl⟩
  obtain ⟨g, hge⟩ : ∃ g, g = sL I 6 x := ⟨_, rfl⟩
  have p1 := pcL_le l
  have p2 := pop_sub l g
  have b01 : b = 0 ∨ b = 1 := by omega
  have A : V PR (d + 28) 169 0 [(0, (vR (some (100, 0)))), (1, (vi (sc I t 1))), (2, (vi (sc I t 2)))] [] (mm n I L P E c s) = some (.inl (some (vi (odV (pcL l) (pcL (l &&& g)) b))), mm n J K P E c s) := by
    refine (cp_49 (d := d + 26) hT hl h1 h2).trans ?_
    rw [ex, eb, k_X11_odds_10, c_statesLeft hT hl hd, Vk_v, k_X11_odds_14, c_bitL, Vk_v, k_X11_odds_19, show (6 : Int32) = nI 6 from rfl, r1, Vk_v, k_X11_odds_32, c_bitL, Vk_v, k_X11_odds_36, ← hle, ← hge, nI_is0 (show pcL (l &&& g) < 2 ^ 31 by omega), nI_is0 (show b < 2 ^ 31 by omega)]
    unfold odV
    by_cases hu : pcL (l &&& g) = 0
    · rw [decide_eq_true hu, if_pos hu]
      rcases b01 with rfl | rfl <;> rfl
    · have hg := Nat.gcd_pos_of_pos_left (pcL l) (show 0 < pcL (l &&& g) by omega)
      have hg2 := Nat.gcd_le_left (pcL l) (show 0 < pcL (l &&& g) by omega)
      have q0 : decide ((0 : Int32) < nI (Nat.gcd (pcL (l &&& g)) (pcL l))) = true := (nI_ltd (a := 0) (by decide) (by omega)).trans (decide_eq_true hg)
      rw [decide_eq_false hu, if_neg hu, Bool.not_false, cond_true, c_common (by omega) (by omega) (by omega) (by omega), Vk_v, k_X11_odds_60, q0, cond_true, nI_is0 (show b < 2 ^ 31 by omega), nI_is0 (show Nat.gcd (pcL (l &&& g)) (pcL l) < 2 ^ 31 by omega), decide_eq_false (show ¬ Nat.gcd (pcL (l &&& g)) (pcL l) = 0 by omega), cond_false, cond_false, pk_div (by omega) hg (by omega), pk_div (by omega) hg (by omega)]
      rcases b01 with rfl | rfl <;> rfl
  have B : ∀ lv, ∃ M, Off (up3 J 186 0 0 0) M ∧ V PR (d + 29) 323 0 [(0, (vR (some (186, 0)))), (1, (vi (sc I t 1))), (2, (vi (sc I t 2)))] [] (mm n J (up3 K 486 0 0 lv) P E c s) = some (.inl (some (vi (odV (pcL l) (pcL (l &&& g)) b))), mm n M (up3 K 486 0 0 lv) P E c s) := fun lv => by
    have kl : Kp c L (up3 K 486 0 0 lv) := Kp.tr kk (Kp.rfl'.up rfl) (Nat.le_refl _)
    have e2 : lefV (up3 J 186 0 0 0) (up3 K 486 0 0 lv) (-1) (zA (up3 J 186 0 0 0)) = l := by rw [lef_k k kl hc, (kz k hc).2.2.2.2.2.1, hle]
    obtain ⟨M1, m1, s1⟩ := c_statesBy (d := d + 24) (n := n) (L := up3 K 486 0 0 lv) (P := P) (E := E) (c := c) (s := s) hT2 (hw.keep k hc) (hv.keep k hc) hc (show 6 < 7 by omega) hQ hx Off.rfl'
    rw [sL_k k hc, ← hge] at s1
    refine ⟨M1, m1, (rp_49 (d := d + 26) hTJ h1 h2).trans ?_⟩
    have F := c_leftNow (d := d + 24) (n := n) (P := P) (E := E) (c := c) (s := s) hT2 (hd.keep k kl hc)
    rw [e2] at F
    rw [ex, eb, k_X12_odds_32, d0t, cond_true, F, Vk_v, k_X12_odds_41, c_ones, Vk_v, k_X12_odds_44, F, Vk_v, k_X12_odds_49, show (6 : Int32) = nI 6 from rfl, s1, Vk_v, k_X12_odds_56, c_ones, Vk_v, k_X12_odds_60, gcd_R _ _ (by omega) (by omega), k_X12_odds_69 (x6 := nI 0), show decide (nI 0 ≤ 0) = true by decide +kernel, cond_true, nI_is0 (show pcL l < 2 ^ 31 by omega), nI_is0 (show b < 2 ^ 31 by omega)]
    unfold odV
    by_cases hl0 : pcL l = 0
    · have hu : pcL (l &&& g) = 0 := by omega
      rw [decide_eq_true hl0, if_pos hu]
      rfl
    · have hg := Nat.gcd_pos_of_pos_right (pcL (l &&& g)) (show 0 < pcL l by omega)
      have hg2 := Nat.gcd_le_right (pcL (l &&& g)) (show 0 < pcL l by omega)
      rw [decide_eq_false hl0, Bool.not_false, cond_true, nI_is0 (show Nat.gcd (pcL (l &&& g)) (pcL l) < 2 ^ 31 by omega), decide_eq_false (show ¬ Nat.gcd (pcL (l &&& g)) (pcL l) = 0 by omega), cond_false, cond_false, pk_div (by omega) hg (by omega), pk_div (by omega) hg (by omega)]
      by_cases hu : pcL (l &&& g) = 0
      · rw [if_pos hu, hu, Nat.gcd_zero_left, Nat.div_self (by omega), Nat.zero_div]
        rcases b01 with rfl | rfl <;> rfl
      · rw [if_neg hu]
        rcases b01 with rfl | rfl <;> rfl
  obtain ⟨M, m1, m2⟩ := B ((odV (pcL l) (pcL (l &&& g)) b).toInt64)
  obtain ⟨f1, f2, f3, f4⟩ := h.fin d1 m1 ((odV (pcL l) (pcL (l &&& g)) b).toInt64)
  exact ⟨_, _, P, E, c, s, ok_49 (d := d + 28) (I1 := J) _ hn hN f4 h.1.1 h.1.1 A m2 f2 f3, f1⟩
end Count
